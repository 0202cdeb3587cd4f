/-! the line of a law -/
theorem CP_ne {hb : Nat} {P : List Int32} {f : Fn} (h : CP hb P f) : 1 ≤ P.length := by
  rcases Nat.eq_zero_or_pos P.length with h0 | h0
  · exfalso
    have hP : P = [] := List.length_eq_zero_iff.mp h0
    subst hP
    have key : ∀ y : Int32, y = f 0 0 0 0 := by
      intro y
      obtain ⟨st', k1, k2, k3⟩ := h (fun _ => 0) 0 0 0 0 0 1 (fun _ => y) 0 0 (Nat.zero_le _) (fun i hi => by simp at hi) (by simp) (by omega)
      rw [List.length_nil, f_X3_worth_41.eq_2, f_X3_worth_41.eq_2, if_pos (by decide), if_pos (by decide)] at k3
      have e := congrArg Prod.snd (Option.some.inj k3)
      have e2 : (fun _ => y : TN) = st' := e
      rw [← e2] at k2
      exact k2
    exact absurd ((key 0).trans (key 1).symm) (by decide)
  · exact h0
/-- a law, in both -/
def LW (li : Nat) (cf ct : Int32) (ops : TN) (mf mt : Int32) (codes : TN) (sz c : Nat) : Prop := (cf = 0 ∧ ct = 0 ∧ mf = nI 1000 ∧ mt = nI 1000) ∨ ∃ (P C : List Int32) (f : Fn) (s c0 : Nat), Sexp li 0 P C f ∧ HD ops s P ∧ HD codes c0 C ∧ cf = nI s ∧ ct = nI (s + P.length) ∧ mf = nI c0 ∧ mt = nI (c0 + C.length) ∧ s + P.length ≤ sz ∧ c0 + C.length ≤ c ∧ 1000 ≤ c0
def LWs (b : Nat) (l_ops : Nat → Int32) (l_worksFrom l_worksTo l_keepsFrom l_keepsTo : Int32) (l_size : Int32) (m_lineFrom m_lineTo m_codes : TN) (m_code : Int32) : Prop := ∃ sz c, l_size = nI sz ∧ m_code = nI c ∧ sz ≤ b ∧ c ≤ 1000 + b ∧ 1000 ≤ c ∧ LW 0 l_worksFrom l_worksTo l_ops (m_lineFrom 2) (m_lineTo 2) m_codes sz c ∧ LW 1 l_keepsFrom l_keepsTo l_ops (m_lineFrom 3) (m_lineTo 3) m_codes sz c
theorem LW.ext {li : Nat} {cf ct : Int32} {ops ops' : TN} {mf mt : Int32} {codes codes' : TN} {sz c sz' c' : Nat} (h : LW li cf ct ops mf mt codes sz c) (h1 : ∀ i, i < sz → ops' i = ops i) (h2 : ∀ i, i < c → codes' i = codes i) (h3 : sz ≤ sz') (h4 : c ≤ c') : LW li cf ct ops' mf mt codes' sz' c' := by
  rcases h with h | ⟨P, C, f, s, c0, k1, k2, k3, k4, k5, k6, k7, k8, k9, k10⟩
  · exact Or.inl h
  · exact Or.inr ⟨P, C, f, s, c0, k1, fun i hi => by rw [h1 (s + i) (by omega)]; exact k2 i hi, fun i hi => by rw [h2 (c0 + i) (by omega)]; exact k3 i hi, k4, k5, k6, k7, by omega, by omega, k10⟩
theorem LW.told {li : Nat} {cf ct : Int32} {ops : TN} {mf mt : Int32} {codes : TN} {sz c : Nat} (h : LW li cf ct ops mf mt codes sz c) (hsz : sz ≤ 1000) (hc : c ≤ 2000) : (ct ≤ cf ∧ mt ≤ mf) ∨ (¬ ct ≤ cf ∧ ¬ mt ≤ mf) := by
  rcases h with ⟨rfl, rfl, rfl, rfl⟩ | ⟨P, C, f, s, c0, k1, k2, k3, rfl, rfl, rfl, rfl, k8, k9, k10⟩
  · left; exact ⟨by decide, by decide⟩
  · right
    have p1 := CP_ne k1.1
    have p2 := k1.2.1
    rw [nI_leI (by omega) (by omega), nI_leI (by omega) (by omega)]
    omega
section
variable {k_place k_behind k_kind k_value : Int32} {k_letters : Int64} {k_word : Option Nat} {m_place m_begin m_token : Int32} {m_word : Int64} {m_told : Int32} {p_place p_begin p_token : Int32} {p_word : Int64} {p_told : Int32} {k_signs m_tape : Nat → Int32} {n b e c0 fu : Nat} {m_wrong d_fault m_lawLine m_code : Int32} {m_codes m_opened m_compared m_lineFrom m_lineTo : TN} {l_ops : Nat → Int32} {l_worksFrom l_worksTo l_keepsFrom l_keepsTo : Int32} {l_size : Int32}
theorem r11_fin (hn : n ≤ 1000) (hfg : ∀ i, i < n → m_tape i = k_signs i) (h : TS n k_signs k_place k_behind k_kind k_value k_letters k_word m_place m_begin m_token m_word m_told b e) (hs : ¬ f_X10_isSign k_kind k_value 59 = 0) (ha : f_X13_nextToken m_tape (nI n) m_place = some (p_place, p_begin, p_token, p_word, p_told)) : f_X13_reads_11 (fu + 1) m_tape (nI n) m_place m_begin m_token m_word m_told m_wrong m_codes (nI c0) m_lawLine m_opened m_compared (nI 0) 0 = some (1, p_place, p_begin, p_token, p_word, p_told, m_wrong, m_codes, nI c0, m_opened, m_compared) := by
  have hA : noAr k_kind k_value := ⟨sg_0 hs (by decide), sg_0 hs (by decide), sg_0 hs (by decide)⟩
  have hC : noCm k_kind k_value (m_compared 0) := Or.inl ⟨sg_0 hs (by decide), sg_0 hs (by decide)⟩
  rw [r11_304 hn hfg h hA hC (by omega)]
  have hk := (sg_ne hs).1
  have hw : ∀ i, i < 32 → ¬ k_word = some i := fun i hi z => by have := h.kind1 z; rw [hk] at this; exact absurd this (by decide)
  have w24 : f_X13_isWord m_token m_word 1111 = 0 := (h.word1 (i := 24) (by omega)).mpr (hw 24 (by omega))
  have w25 : f_X13_isWord m_token m_word 423 = 0 := (h.word1 (i := 25) (by omega)).mpr (hw 25 (by omega))
  unfold f_X13_reads_304 f_X13_reads_399
  simp only [h.sign hn hfg, o_bs, ha]
  rw [if_pos w24, if_pos w25, if_pos (sg_0 hs (by decide)), if_pos (show nI 0 = 0 from rfl), if_neg hs]
def LLaw (n : Nat) (k_signs : TN) (e : Nat) (d_fault m_wrong : Int32) (m_lineFrom m_lineTo m_codes : TN) (X : Option (Int32 × Int32 × TN × Int32 × Int32 × Int32 × Int32 × Int32 × Int32 × Int32 × Int32 × Int32 × Int64 × Option Nat)) (Y : Option (Int32 × Int32 × Int32 × Int32 × Int64 × Int32 × Int32 × TN × TN × TN × Int32 × Int32 × TN × TN)) : Prop := FAILF (fun t => FrN 2 m_lineFrom t.1 ∧ FrN 2 m_lineTo t.2.1 ∧ FrN 1000 m_codes t.2.2.1) X Y 0 ∨ ∃ (ops : TN) (sz wF wT kF kT : Int32) (lf lt co : TN) (cd ll : Int32) (op cm : TN) (q_place q_behind q_kind q_value : Int32) (q_letters : Int64) (q_word : Option Nat) (p_place p_begin p_token : Int32) (p_word : Int64) (p_told : Int32) (b' e' : Nat), X = some (1, d_fault, ops, sz, wF, wT, kF, kT, q_place, q_behind, q_kind, q_value, q_letters, q_word) ∧ Y = some (1, p_place, p_begin, p_token, p_word, p_told, m_wrong, lf, lt, co, cd, ll, op, cm) ∧ TS n k_signs q_place q_behind q_kind q_value q_letters q_word p_place p_begin p_token p_word p_told b' e' ∧ e ≤ b' ∧ LWs b' ops wF wT kF kT sz lf lt co cd ∧ FrN 2 m_lineFrom lf ∧ FrN 2 m_lineTo lt ∧ FrN 1000 m_codes co
theorem law_line (hn : n ≤ 1000) (hfg : ∀ i, i < n → m_tape i = k_signs i) (hL : LWs b l_ops l_worksFrom l_worksTo l_keepsFrom l_keepsTo l_size m_lineFrom m_lineTo m_codes m_code) (h : TS n k_signs k_place k_behind k_kind k_value k_letters k_word m_place m_begin m_token m_word m_told b e) (hk : ¬ k_kind = 0) {li : Nat} (hli : li < 2) {y : Int32} (hy : y = nI li) : LLaw n k_signs e d_fault m_wrong m_lineFrom m_lineTo m_codes (f_X6_lawLine d_fault l_ops l_size l_worksFrom l_worksTo l_keepsFrom l_keepsTo k_signs (nI n) k_place k_behind k_kind k_value k_letters k_word y) (f_X13_readsLaw m_tape (nI n) m_place m_begin m_token m_word m_told m_wrong m_lineFrom m_lineTo m_codes m_code m_lawLine m_opened m_compared y) := by
  subst hy
  have l0 := h.2.2.2.2.le
  have lt := h.lt hk
  obtain ⟨sz, c, rfl, rfl, s1, s2, s3, W0, W1⟩ := hL
  have t0 := W0.told (by omega) (by omega)
  have t1 := W1.told (by omega) (by omega)
  have hT : (f_X3_isTold l_worksFrom l_worksTo l_keepsFrom l_keepsTo (nI li) = 0 ∧ m_lineTo (2 + li) ≤ m_lineFrom (2 + li)) ∨ (¬ f_X3_isTold l_worksFrom l_worksTo l_keepsFrom l_keepsTo (nI li) = 0 ∧ ¬ m_lineTo (2 + li) ≤ m_lineFrom (2 + li)) := by
    have hl : li = 0 ∨ li = 1 := by omega
    unfold f_X3_isTold
    rcases hl with rfl | rfl
    · rw [if_pos (show nI 0 = 0 from rfl)]
      rcases t0 with ⟨u1, u2⟩ | ⟨u1, u2⟩
      · left; rw [if_pos u1]; exact ⟨rfl, u2⟩
      · right; rw [if_neg u1]; exact ⟨n10, u2⟩
    · rw [if_neg (show ¬ nI 1 = 0 by decide)]
      rcases t1 with ⟨u1, u2⟩ | ⟨u1, u2⟩
      · left; rw [if_pos u1]; exact ⟨rfl, u2⟩
      · right; rw [if_neg u1]; exact ⟨n10, u2⟩
  unfold f_X6_lawLine f_X13_readsLaw
  rw [qa_2, q_gd (show 2 + li < 4 by omega) (by omega), q_gd (show 2 + li < 4 by omega) (by omega), nI_clamp (by omega)]
  rcases hT with ⟨u1, u2⟩ | ⟨u1, u2⟩
  rotate_left
  · left
    rw [if_neg u1, if_neg u2]
    unfold f_X6_wrong f_X13_fails
    rw [q_zg0, q_zg0, h.1, h.2.2.2.1]
    exact ⟨_, _, rfl, rfl, rfl, rfl, (by first | exact eqf1 | exact eqf2 | exact eqf3 | exact eqf4 | exact eqf5 | exact ⟨rfl, by assumption⟩), (by refine ⟨?_, ?_, ?_⟩ <;> first | exact FrN.rfl' | exact FrN.upd (by omega) | exact FrN.updL (by omega) | exact (fun i hi => fr i (by omega)) | exact (fun i hi => g9.1 i (by omega)))⟩
  rw [if_pos u1, if_pos u2]
  obtain ⟨q_place, q_behind, q_kind, q_value, q_letters, q_word, p_place, p_begin, p_token, p_word, p_told, b1, e1, a1, a2, a3, a4⟩ := adv hn hfg h
  have l1 := a3.2.2.2.2.le
  rw [a1, a2]
  simp only [o_bs]
  rw [q_gd (show 2 + li < 4 by omega) (by omega)]
  unfold f_X13_reads
  rw [gl_0_7, cl_0, nar0]
  rcases exp_rel (d_fault := d_fault) (m_wrong := m_wrong) (ops0 := l_ops) (codes0 := m_codes) (op0 := m_opened) (cm0 := upd m_compared 0 0) (s0 := sz) (c0 := c) (b0 := b1) (fu := 1100) (x := 0) hn hfg (by omega) (part_all hn hfg hli 5 0 rfl) (Or.inl rfl) pk_us (by omega) (by omega) a3 (by omega) with ⟨o1, o2, f1, f2, f3, f4, f5, fr⟩ | ⟨P1, C1, f1, ops1, codes1, op1, cm1, fu2, r_place, r_behind, r_kind, r_value, r_letters, r_word, t_place, t_begin, t_token, t_word, t_told, b2, e2, g1, g2, g3, g5, g6, g8, g9, g10, g11, g12, g13, g14, g15⟩
  · left
    rw [show f_X6_expression (f_X6_part 6) d_fault l_ops (nI sz) k_signs (nI n) q_place q_behind q_kind q_value q_letters q_word (nI li) 0 = some o1 from f1, show f_X13_reads_11 1100 m_tape (nI n) p_place p_begin p_token p_word p_told m_wrong m_codes (nI c) (nI li) m_opened (upd m_compared 0 0) 0 1 = some o2 from f2]
    simp only [o_bs]
    rw [if_pos f3, if_pos f4]
    exact ⟨_, _, rfl, rfl, rfl, rfl, f5, (by refine ⟨?_, ?_, ?_⟩ <;> first | exact FrN.rfl' | exact FrN.upd (by omega) | exact FrN.updL (by omega) | exact (fun i hi => fr i (by omega)) | exact (fun i hi => g9.1 i (by omega)))⟩
  have l2 := g5.2.2.2.2.le
  rw [show f_X6_expression (f_X6_part 6) d_fault l_ops (nI sz) k_signs (nI n) q_place q_behind q_kind q_value q_letters q_word (nI li) 0 = _ from g2, show f_X13_reads_11 1100 m_tape (nI n) p_place p_begin p_token p_word p_told m_wrong m_codes (nI c) (nI li) m_opened (upd m_compared 0 0) 0 1 = _ from g3, show fu2 = (fu2 - 1) + 1 by omega]
  simp only [o_bs]
  rw [if_neg n10]
  by_cases h59 : f_X10_isSign r_kind r_value 59 = 0
  · left
    rw [r11_bad hn hfg g5 g15.1.1 g15.1.2 g15.2.1 g15.2.2 (Or.inl rfl) (Or.inr h59) (by omega)]
    unfold f_X6_lineEnds f_X6_wrong
    rw [if_pos h59, q_zg0, g5.1, g5.2.2.2.1]
    simp only [o_bs, ↓reduceIte]
    exact ⟨_, _, rfl, rfl, rfl, rfl, (by first | exact eqf1 | exact eqf2 | exact eqf3 | exact eqf4 | exact eqf5 | exact ⟨rfl, by assumption⟩), (by refine ⟨?_, ?_, ?_⟩ <;> first | exact FrN.rfl' | exact FrN.upd (by omega) | exact FrN.updL (by omega) | exact (fun i hi => fr i (by omega)) | exact (fun i hi => g9.1 i (by omega)))⟩
  right
  obtain ⟨u_place, u_behind, u_kind, u_value, u_letters, u_word, w_place, w_begin, w_token, w_word, w_told, b3, e3, c1, c2, c3, c4⟩ := adv hn hfg g5
  have l3 := c3.2.2.2.2.le
  rw [r11_fin hn hfg g5 h59 c2]
  unfold f_X6_lineEnds
  rw [if_neg h59, c1]
  simp only [o_bs]
  rw [if_neg n10, if_neg n10, q_gd (show 2 + li < 4 by omega) (by omega)]
  unfold f_X3_close
  have hl : li = 0 ∨ li = 1 := by omega
  rcases hl with rfl | rfl
  · rw [if_pos (show nI 0 = 0 from rfl)]
    refine ⟨_, _, _, _, _, _, _, _, _, _, _, _, _, u_place, u_behind, u_kind, u_value, u_letters, u_word, w_place, w_begin, w_token, w_word, w_told, b3, e3, rfl, rfl, c3, by omega, ⟨sz + P1.length, c + C1.length, rfl, rfl, by omega, by omega, by omega, ?_, ?_⟩, FrN.upd (by omega), FrN.upd (by omega), fun i hi => g9.1 i (by omega)⟩
    · exact Or.inr ⟨P1, C1, f1, sz, c, g1, g8.2, g9.2, rfl, rfl, pk_us, pk_us, by omega, by omega, s3⟩
    · rw [pk_un (by omega), pk_un (by omega)]
      exact W1.ext g8.1 g9.1 (by omega) (by omega)
  · rw [if_neg (show ¬ nI 1 = 0 by decide)]
    refine ⟨_, _, _, _, _, _, _, _, _, _, _, _, _, u_place, u_behind, u_kind, u_value, u_letters, u_word, w_place, w_begin, w_token, w_word, w_told, b3, e3, rfl, rfl, c3, by omega, ⟨sz + P1.length, c + C1.length, rfl, rfl, by omega, by omega, by omega, ?_, ?_⟩, FrN.upd (by omega), FrN.upd (by omega), fun i hi => g9.1 i (by omega)⟩
    · rw [pk_un (by omega), pk_un (by omega)]
      exact W0.ext g8.1 g9.1 (by omega) (by omega)
    · exact Or.inr ⟨P1, C1, f1, sz, c, g1, g8.2, g9.2, rfl, rfl, pk_us, pk_us, by omega, by omega, s3⟩
end
