/-! a line of a man, of a danger, of a consul, of hate, of a term -/
theorem nI_inj {k j : Nat} (hk : k < 2 ^ 31) (hj : j < 2 ^ 31) : nI k = nI j ↔ k = j := ⟨fun q => by have h := congrArg Int32.toInt q; rw [nI_toInt hk, nI_toInt hj] at h; omega, fun q => by rw [q]⟩
theorem nI_ge0 {k : Nat} (hk : k < 2 ^ 31) : (0 : Int32) ≤ nI k := (nI_leI (a := 0) (b := k) (by omega) (by omega)).mpr (Nat.zero_le _)
abbrev TN := Nat → Int32
abbrev TL := Nat → Int64
section
variable {k_place k_behind k_kind k_value : Int32} {k_letters : Int64} {k_word : Option Nat} {m_place m_begin m_token : Int32} {m_word : Int64} {m_told : Int32} {k_signs m_tape : Nat → Int32} {n b e : Nat} {d_fault m_wrong m_given : Int32} {M D Q s : Nat} {c_men c_dangers c_decrees : Int32} {c_manNames c_dangerNames c_decreeNames : Nat → Int64} {m_city : Nat → Int32} {m_manName m_dangerName m_decreeName : Nat → Int64} {m_fresh : Int64} {c_kinds c_skills c_fields c_wants c_hated c_sizes c_grows c_grounds m_kind m_skill m_fieldTold m_want m_hates m_sizeTold m_grows m_restsOn : Nat → Int32} {c_consuls m_consulsMany c_term c_termTold m_toldLines : Int32}
theorem lab_lit {x2 x3 : Int32} {y : Int64} {i lo hl : Nat} (e1 : y = e27 i) (e2 : x2 = nI lo) (e3 : x3 = nI hl) (hn : n ≤ 1000) (hfg : ∀ i, i < n → m_tape i = k_signs i) (h : TS n k_signs k_place k_behind k_kind k_value k_letters k_word m_place m_begin m_token m_word m_told b e) (hi : i < 32) (hll : hl ≤ 9999) (hlo : lo ≤ 9999) : FAIL (f_X6_labelled d_fault k_signs (nI n) k_place k_behind k_kind k_value k_letters k_word (some i) x2 x3) (f_X13_needsBoth m_tape (nI n) m_place m_begin m_token m_word m_told m_wrong m_given y x2 x3) (-1) ∨ ∃ (v : Nat) (q_place q_behind q_kind q_value : Int32) (q_letters : Int64) (q_word : Option Nat) (p_place p_begin p_token : Int32) (p_word : Int64) (p_told : Int32) (b' e' : Nat), (f_X6_labelled d_fault k_signs (nI n) k_place k_behind k_kind k_value k_letters k_word (some i) x2 x3) = some (nI v, d_fault, q_place, q_behind, q_kind, q_value, q_letters, q_word) ∧ (f_X13_needsBoth m_tape (nI n) m_place m_begin m_token m_word m_told m_wrong m_given y x2 x3) = some (1, p_place, p_begin, p_token, p_word, p_told, m_wrong, nI v) ∧ TS n k_signs q_place q_behind q_kind q_value q_letters q_word p_place p_begin p_token p_word p_told b' e' ∧ e ≤ b' ∧ (lo ≤ v ∧ v ≤ hl) := by
  subst e1 e2 e3; exact lab_rel hn hfg h hi hll hlo
theorem addMan_eq (hM : M < 6) {x : Int64} {y z u v : Int32} : f_X1_addMan (nI M) c_manNames c_kinds c_skills c_fields c_wants x y z u v = some (nI (M + 1), vp_updL c_manNames M x, upd c_kinds M y, upd c_skills M z, upd c_fields M u, upd c_wants M v) := by
  unfold f_X1_addMan
  rw [if_neg (nI_pos (by omega)), if_pos (show nI M < 6 from (nI_ltI (b := 6) (by omega) (by omega)).mpr hM), q_gd hM (by omega), nI_clamp (by omega), q_gp hM (by omega), q_gp hM (by omega), q_gp hM (by omega), q_gp hM (by omega), nI_1]
def LMan (n : Nat) (k_signs : Nat → Int32) (e M : Nat) (d_fault m_wrong : Int32) (c_manNames : Nat → Int64) (c_kinds c_skills c_fields c_wants m_city : Nat → Int32) (m_manName : Nat → Int64) (m_kind m_skill m_fieldTold m_want m_hates : Nat → Int32) (X : Option (Int32 × Int32 × Int32 × TL × TN × TN × TN × TN × Int32 × Int32 × Int32 × Int32 × Int64 × Option Nat)) (Y : Option (Int32 × Int32 × Int32 × Int32 × Int64 × Int32 × Int32 × TN × TL × TN × TN × TN × TN × TN × Int32 × Int64)) : Prop := FAILF (fun t => FrN 5 m_city t.1 ∧ FrN 6 m_manName t.2.1 ∧ FrN 6 m_kind t.2.2.1 ∧ FrN 6 m_skill t.2.2.2.1 ∧ FrN 6 m_fieldTold t.2.2.2.2.1 ∧ FrN 6 m_want t.2.2.2.2.2.1 ∧ FrN 6 m_hates t.2.2.2.2.2.2.1) X Y 0 ∨ ∃ (kd v1 v2 v3 : Nat) (x w fr : Int64) (gi : Int32) (q_place q_behind q_kind q_value : Int32) (q_letters : Int64) (q_word : Option Nat) (p_place p_begin p_token : Int32) (p_word : Int64) (p_told : Int32) (b' e' : Nat), X = some (1, d_fault, nI (M + 1), vp_updL c_manNames M x, upd c_kinds M (nI kd), upd c_skills M (nI v1), upd c_fields M (nI v2), upd c_wants M (nI v3), q_place, q_behind, q_kind, q_value, q_letters, q_word) ∧ Y = some (1, p_place, p_begin, p_token, p_word, p_told, m_wrong, upd m_city 5 (nI (M + 1)), vp_updL m_manName (6 + M) w, upd m_kind (6 + M) (nI kd), upd m_skill (6 + M) (nI v1), upd m_fieldTold (6 + M) (nI v2), upd m_want (6 + M) (nI v3), upd m_hates (6 + M) 0, gi, fr) ∧ TS n k_signs q_place q_behind q_kind q_value q_letters q_word p_place p_begin p_token p_word p_told b' e' ∧ e ≤ b' ∧ M < 6 ∧ WN x w ∧ kd ≤ 3 ∧ v1 ≤ 9 ∧ v2 ≤ 99 ∧ v3 ≤ 9
theorem man97_rel (hn : n ≤ 1000) (hfg : ∀ i, i < n → m_tape i = k_signs i) (hM : M < 6) (h5 : m_city 5 = nI M) {e0 : Nat} (h : TS n k_signs k_place k_behind k_kind k_value k_letters k_word m_place m_begin m_token m_word m_told b e) (he0 : e0 ≤ e) {kd : Nat} (hkd : kd ≤ 3) {x : Int64} (hx : WN x m_fresh) {s2 : Int32} (hs2 : s2 = nI kd) :
    LMan n k_signs e0 M d_fault m_wrong c_manNames c_kinds c_skills c_fields c_wants m_city m_manName m_kind m_skill m_fieldTold m_want m_hates ((f_X10_advance k_signs (nI n) k_behind).bind fun r62 => (f_X6_labelled d_fault k_signs (nI n) r62.1 r62.2.1 r62.2.2.1 r62.2.2.2.1 r62.2.2.2.2.1 r62.2.2.2.2.2 (some 1) 0 9).bind fun r72 => if r72.1 = -1 then f_X6_manLine_97 r72.2.1 (nI M) c_manNames c_kinds c_skills c_fields c_wants k_signs (nI n) r72.2.2.1 r72.2.2.2.1 r72.2.2.2.2.1 r72.2.2.2.2.2.1 r72.2.2.2.2.2.2.1 r72.2.2.2.2.2.2.2 x s2 r72.1 (-1) else (f_X6_labelled r72.2.1 k_signs (nI n) r72.2.2.1 r72.2.2.2.1 r72.2.2.2.2.1 r72.2.2.2.2.2.1 r72.2.2.2.2.2.2.1 r72.2.2.2.2.2.2.2 (some 2) 0 99).bind fun r94 => f_X6_manLine_97 r94.2.1 (nI M) c_manNames c_kinds c_skills c_fields c_wants k_signs (nI n) r94.2.2.1 r94.2.2.2.1 r94.2.2.2.2.1 r94.2.2.2.2.2.1 r94.2.2.2.2.2.2.1 r94.2.2.2.2.2.2.2 x s2 r72.1 r94.1) (f_X13_readsMan_97 m_tape (nI n) m_place m_begin m_token m_word m_told m_wrong m_city m_manName m_kind m_skill m_fieldTold m_want m_hates m_given m_fresh (nI (6 + M)) (nI (6 + M)) s2) := by
  subst hs2
  unfold f_X13_readsMan_97
  simp only [gl_5_10, cl_5, h5]
  rw [q_gd (by omega) (by omega), q_gd (by omega) (by omega), nI_clamp (by omega), pk_us, if_pos (nI_ge0 (k := kd) (by omega))]
  obtain ⟨q_place, q_behind, q_kind, q_value, q_letters, q_word, p_place, p_begin, p_token, p_word, p_told, b1, e1, a1, a2, a3, a4⟩ := adv hn hfg h
  have l1 := a3.2.2.2.2.le
  rw [a1, a2]
  simp only [o_bs]
  rcases lab_lit (d_fault := d_fault) (m_wrong := m_wrong) (m_given := m_given) (i := 1) (y := 10320789) (x2 := 0) (x3 := 9) (lo := 0) (hl := 9) rfl rfl rfl hn hfg a3 (by omega) (by omega) (by omega) with ⟨o1, o2, f1, f2, f3, f4, f5⟩ | ⟨v1, r_place, r_behind, r_kind, r_value, r_letters, r_word, t_place, t_begin, t_token, t_word, t_told, b2, e2, f1, f2, f3, f4, f5⟩
  · left
    rw [f1, f2]; simp only [o_bs]
    rw [if_pos f3, if_pos f4]
    unfold f_X6_manLine_97 f_X6_manLine_119
    rw [if_pos rfl, if_pos rfl]
    exact ⟨_, _, rfl, rfl, rfl, rfl, f5, (by refine ⟨?_, ?_, ?_, ?_, ?_, ?_, ?_⟩ <;> first | exact FrN.rfl' | exact FrN.upd (by omega) | exact FrN.updL (by omega))⟩
  rw [f1, f2]; simp only [o_bs]
  rw [if_neg (nI_m1 v1 (by omega)), if_neg n10, q_gd (by omega) (by omega)]
  have l2 := f3.2.2.2.2.le
  rcases lab_lit (d_fault := d_fault) (m_wrong := m_wrong) (m_given := nI v1) (i := 2) (y := 3369766) (x2 := 0) (x3 := 99) (lo := 0) (hl := 99) rfl rfl rfl hn hfg f3 (by omega) (by omega) (by omega) with ⟨o1, o2, g1, g2, g3, g4, g5⟩ | ⟨v2, r'_place, r'_behind, r'_kind, r'_value, r'_letters, r'_word, t'_place, t'_begin, t'_token, t'_word, t'_told, b3, e3, g1, g2, g3, g4, g5⟩
  · left
    rw [g1, g2]; simp only [o_bs]
    rw [if_pos g4]
    unfold f_X6_manLine_97 f_X6_manLine_119
    rw [if_pos g3, if_pos rfl]
    exact ⟨_, _, rfl, rfl, rfl, rfl, g5, (by refine ⟨?_, ?_, ?_, ?_, ?_, ?_, ?_⟩ <;> first | exact FrN.rfl' | exact FrN.upd (by omega) | exact FrN.updL (by omega))⟩
  rw [g1, g2]; simp only [o_bs]
  unfold f_X6_manLine_97
  rw [if_neg (nI_m1 v2 (by omega)), if_neg n10, q_gd (by omega) (by omega)]
  have l3 := g3.2.2.2.2.le
  rcases lab_lit (d_fault := d_fault) (m_wrong := m_wrong) (m_given := nI v2) (i := 3) (y := 453836) (x2 := 0) (x3 := 9) (lo := 0) (hl := 9) rfl rfl rfl hn hfg g3 (by omega) (by omega) (by omega) with ⟨o1, o2, u1, u2, u3, u4, u5⟩ | ⟨v3, r2_place, r2_behind, r2_kind, r2_value, r2_letters, r2_word, t2_place, t2_begin, t2_token, t2_word, t2_told, b4, e4, u1, u2, u3, u4, u5⟩
  · left
    rw [u1, u2]; simp only [o_bs]
    rw [if_pos u4]
    unfold f_X6_manLine_119
    rw [if_pos u3]
    exact ⟨_, _, rfl, rfl, rfl, rfl, u5, (by refine ⟨?_, ?_, ?_, ?_, ?_, ?_, ?_⟩ <;> first | exact FrN.rfl' | exact FrN.upd (by omega) | exact FrN.updL (by omega))⟩
  rw [u1, u2]; simp only [o_bs]
  unfold f_X6_manLine_119
  rw [if_neg (nI_m1 v3 (by omega)), if_neg n10, q_gd (by omega) (by omega), q_gd (by omega) (by omega), q_gd (by omega) (by omega)]
  have l4 := u3.2.2.2.2.le
  rcases ends_rel (d_fault := d_fault) (m_wrong := m_wrong) hn hfg u3 with ⟨o1, o2, w1, w2, w3, w4, w5⟩ | ⟨r3_place, r3_behind, r3_kind, r3_value, r3_letters, r3_word, t3_place, t3_begin, t3_token, t3_word, t3_told, b5, e5, w1, w2, w3, w4⟩
  · left
    rw [w1, w2]; simp only [o_bs]
    rw [if_pos w3, q_zg (Or.inl w4)]
    exact ⟨_, _, rfl, rfl, rfl, w4, w5, (by refine ⟨?_, ?_, ?_, ?_, ?_, ?_, ?_⟩ <;> first | exact FrN.rfl' | exact FrN.upd (by omega) | exact FrN.updL (by omega))⟩
  right
  rw [w1, w2]; simp only [o_bs]
  rw [if_neg n10, addMan_eq hM, q_zg1, nI_1]
  simp only [o_bs]
  exact ⟨kd, v1, v2, v3, x, m_fresh, _, _, r3_place, r3_behind, r3_kind, r3_value, r3_letters, r3_word, t3_place, t3_begin, t3_token, t3_word, t3_told, b5, e5, rfl, rfl, w3, by omega, hM, hx, hkd, by omega, by omega, by omega⟩
theorem man_line (hn : n ≤ 1000) (hfg : ∀ i, i < n → m_tape i = k_signs i) (hN : RN M D Q 1 c_men c_dangers c_decrees c_manNames c_dangerNames c_decreeNames m_city m_manName m_dangerName m_decreeName) (h : TS n k_signs k_place k_behind k_kind k_value k_letters k_word m_place m_begin m_token m_word m_told b e) :
    LMan n k_signs e M d_fault m_wrong c_manNames c_kinds c_skills c_fields c_wants m_city m_manName m_kind m_skill m_fieldTold m_want m_hates (f_X6_manLine d_fault c_men c_dangers c_decrees c_manNames c_kinds c_skills c_fields c_wants c_dangerNames c_decreeNames k_signs (nI n) k_place k_behind k_kind k_value k_letters k_word) (f_X13_readsMan m_tape (nI n) m_place m_begin m_token m_word m_told m_wrong m_city m_manName m_dangerName m_decreeName m_kind m_skill m_fieldTold m_want m_hates m_given m_fresh) := by
  have h5 : m_city 5 = nI M := hN.1.2.2.1
  have hM6 := hN.1.1
  have hcm : c_men = nI M := hN.1.2.1
  subst hcm
  unfold f_X6_manLine f_X13_readsMan
  simp only [gl_5_10, cl_5, h5, qa_6]
  by_cases hM : M < 6
  · rw [if_pos (show nI M < 6 from (nI_ltI (b := 6) (by omega) (by omega)).mpr hM), if_neg (show ¬ nI (6 + M) = 12 from fun q => by have := (nI_inj (j := 12) (by omega) (by omega)).mp q; omega)]
    obtain ⟨q_place, q_behind, q_kind, q_value, q_letters, q_word, p_place, p_begin, p_token, p_word, p_told, b1, e1, a1, a2, a3, a4⟩ := adv hn hfg h
    have l1 := a3.2.2.2.2.le
    rw [a1, a2]
    simp only [o_bs]
    rcases fresh_rel (d_fault := d_fault) (m_wrong := m_wrong) (m_fresh := m_fresh) hn hfg hN a3 with ⟨o1, o2, f1, f2, f3, f4, f5⟩ | ⟨r_place, r_behind, r_kind, r_value, r_letters, r_word, t_place, t_begin, t_token, t_word, t_told, b2, e2, f1, f2, f3, f4, f5⟩
    · left
      rw [f1, f2]; simp only [o_bs]
      rw [if_pos f3, if_pos f4]
      exact ⟨_, _, rfl, rfl, rfl, rfl, f5, (by refine ⟨?_, ?_, ?_, ?_, ?_, ?_, ?_⟩ <;> first | exact FrN.rfl' | exact FrN.upd (by omega) | exact FrN.updL (by omega))⟩
    rw [f1, f2]; simp only [o_bs]
    have l2 := f3.2.2.2.2.le
    rw [if_neg n10, if_neg n10, kind_eq f3]
    simp only [o_bs]
    have w19 := f3.word1 (i := 19) (by omega)
    have w20 := f3.word1 (i := 20) (by omega)
    have w21 := f3.word1 (i := 21) (by omega)
    have w22 := f3.word1 (i := 22) (by omega)
    by_cases k19 : r_word = some 19
    · simp only [if_pos k19]
      rw [if_neg (show ¬ f_X13_isWord t_token t_word 8740238 = 0 from fun z => w19.mp z k19), if_neg (show ¬ (0 : Int32) = -1 by decide)]
      exact man97_rel hn hfg hM h5 f3 (by omega) (kd := 0) (by omega) f5 rfl
    simp only [if_neg k19]
    rw [if_pos (show f_X13_isWord t_token t_word 8740238 = 0 from w19.mpr k19)]
    by_cases k20 : r_word = some 20
    · simp only [if_pos k20]
      rw [if_neg (show ¬ f_X13_isWord t_token t_word 326286 = 0 from fun z => w20.mp z k20), if_neg (show ¬ (1 : Int32) = -1 by decide)]
      exact man97_rel hn hfg hM h5 f3 (by omega) (kd := 1) (by omega) f5 rfl
    simp only [if_neg k20]
    rw [if_pos (show f_X13_isWord t_token t_word 326286 = 0 from w20.mpr k20)]
    by_cases k21 : r_word = some 21
    · simp only [if_pos k21]
      rw [if_neg (show ¬ f_X13_isWord t_token t_word 8868856 = 0 from fun z => w21.mp z k21), if_neg (show ¬ (2 : Int32) = -1 by decide)]
      exact man97_rel hn hfg hM h5 f3 (by omega) (kd := 2) (by omega) f5 rfl
    simp only [if_neg k21]
    rw [if_pos (show f_X13_isWord t_token t_word 8868856 = 0 from w21.mpr k21)]
    by_cases k22 : r_word = some 22
    · simp only [if_pos k22]
      rw [if_neg (show ¬ f_X13_isWord t_token t_word 180392 = 0 from fun z => w22.mp z k22), if_neg (show ¬ (3 : Int32) = -1 by decide)]
      exact man97_rel hn hfg hM h5 f3 (by omega) (kd := 3) (by omega) f5 rfl
    simp only [if_neg k22]
    rw [if_pos (show f_X13_isWord t_token t_word 180392 = 0 from w22.mpr k22)]
    left
    unfold f_X13_readsMan_97 f_X6_wrong f_X13_fails
    rw [q_gd (by omega) (by omega), q_gd (by omega) (by omega), nI_clamp (by omega), pk_us, if_neg (show ¬ (0 : Int32) ≤ -1 by decide), q_zg0, q_zg0, f3.1, f3.2.2.2.1]
    simp only [↓reduceIte]
    exact ⟨_, _, rfl, rfl, rfl, rfl, (by first | exact eqf1 | exact eqf2 | exact eqf3 | exact eqf4 | exact eqf5 | exact ⟨rfl, by assumption⟩), (by refine ⟨?_, ?_, ?_, ?_, ?_, ?_, ?_⟩ <;> first | exact FrN.rfl' | exact FrN.upd (by omega) | exact FrN.updL (by omega))⟩
  · left
    rw [if_neg (show ¬ nI M < 6 from fun q => hM ((nI_ltI (b := 6) (by omega) (by omega)).mp q)), if_pos (show nI (6 + M) = 12 from by rw [show M = 6 by omega]; rfl)]
    unfold f_X6_wrong f_X13_fails
    rw [q_zg0, q_zg0, h.1, h.2.2.2.1]
    exact ⟨_, _, rfl, rfl, rfl, rfl, (by first | exact eqf1 | exact eqf2 | exact eqf3 | exact eqf4 | exact eqf5 | exact ⟨rfl, by assumption⟩), (by refine ⟨?_, ?_, ?_, ?_, ?_, ?_, ?_⟩ <;> first | exact FrN.rfl' | exact FrN.upd (by omega) | exact FrN.updL (by omega))⟩
end
