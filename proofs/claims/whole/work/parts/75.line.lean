/-! a line of the months told, in both -/
/-- what a line of the months told is, in both -/
def LK (M D r : Nat) (kd x y : Int32) (A B : TN) : Prop := (kd = 0 ∧ ∃ a b, a < M ∧ b < M ∧ x = nI a ∧ y = nI b ∧ A r = nI a ∧ B r = nI b) ∨ (kd = 1 ∧ ∃ a, a < M ∧ x = nI a ∧ A r = nI a) ∨ (kd = 2 ∧ ∃ d, d < D ∧ x = nI d ∧ A r = nI d) ∨ (kd = 3 ∧ ∃ d e, d < D ∧ e < D ∧ ¬ e = d ∧ x = nI d ∧ y = nI e ∧ A r = nI d ∧ B r = nI e) ∨ kd = 4
def FrL (m_lines m_lineWhat m_lineA m_lineB : TN) (t : Int32 × TN × TN × TN × TN) : Prop := FrN 5 m_lines t.2.1 ∧ FrN 200 m_lineWhat t.2.2.1 ∧ FrN 200 m_lineA t.2.2.2.1 ∧ FrN 200 m_lineB t.2.2.2.2
def LMo (n : Nat) (k_signs : TN) (e T M D : Nat) (d_fault m_wrong : Int32) (j_kinds j_firsts j_seconds m_lines m_lineWhat m_lineA m_lineB : TN) (X : Option (Int32 × Int32 × Int32 × TN × TN × TN × Int32 × Int32 × Int32 × Int32 × Int64 × Option Nat)) (Y : Option (Int32 × Int32 × Int32 × Int32 × Int64 × Int32 × Int32 × Int32 × TN × TN × TN × TN)) : Prop := FAILF (FrL m_lines m_lineWhat m_lineA m_lineB) X Y 0 ∨ ∃ (kd x y gi : Int32) (A B : TN) (q_place q_behind q_kind q_value : Int32) (q_letters : Int64) (q_word : Option Nat) (p_place p_begin p_token : Int32) (p_word : Int64) (p_told : Int32) (b' e' : Nat), X = some (1, d_fault, nI (T + 1), upd j_kinds T kd, upd j_firsts T x, upd j_seconds T y, q_place, q_behind, q_kind, q_value, q_letters, q_word) ∧ Y = some (1, p_place, p_begin, p_token, p_word, p_told, m_wrong, gi, upd m_lines 5 (nI (T + 1)), upd m_lineWhat (200 + T) kd, A, B) ∧ TS n k_signs q_place q_behind q_kind q_value q_letters q_word p_place p_begin p_token p_word p_told b' e' ∧ e ≤ b' ∧ FrN (200 + T) m_lineA A ∧ FrN (200 + T) m_lineB B ∧ T < 40 ∧ LK M D (200 + T) kd x y A B
section
variable {k_place k_behind k_kind k_value : Int32} {k_letters : Int64} {k_word : Option Nat} {m_place m_begin m_token : Int32} {m_word : Int64} {m_told : Int32} {k_signs m_tape : TN} {n b e : Nat} {d_fault m_wrong m_given : Int32} {M D Q T : Nat} {c_men c_dangers c_decrees : Int32} {c_manNames c_dangerNames c_decreeNames : TL} {m_city : TN} {m_manName m_dangerName m_decreeName : TL} {j_kinds j_firsts j_seconds m_lines m_lineWhat m_lineA m_lineB : TN}
theorem lend (hn : n ≤ 1000) (hfg : ∀ i, i < n → m_tape i = k_signs i) (hT : T < 40) (h5 : m_lines 5 = nI T) (h : TS n k_signs k_place k_behind k_kind k_value k_letters k_word m_place m_begin m_token m_word m_told b e) {e0 : Nat} (he0 : e0 ≤ e) {kd x y : Int32} {A B : TN} (hA : FrN (200 + T) m_lineA A) (hB : FrN (200 + T) m_lineB B) (hK : LK M D (200 + T) kd x y A B) :
    LMo n k_signs e0 T M D d_fault m_wrong j_kinds j_firsts j_seconds m_lines m_lineWhat m_lineA m_lineB (f_X6_monthsLine_158 d_fault (nI T) j_kinds j_firsts j_seconds k_signs (nI n) k_place k_behind k_kind k_value k_letters k_word kd x y) (f_X13_readsLine_198 m_tape (nI n) m_place m_begin m_token m_word m_told m_wrong m_given m_lines (upd m_lineWhat (200 + T) kd) A B) := by
  unfold f_X6_monthsLine_158 f_X13_readsLine_198
  rw [gl_5_6, gl_5_6, cl_5, h5, nI_1]
  rcases ends_rel (d_fault := d_fault) (m_wrong := m_wrong) hn hfg h with ⟨o1, o2, w1, w2, w3, w4, w5⟩ | ⟨r3_place, r3_behind, r3_kind, r3_value, r3_letters, r3_word, t3_place, t3_begin, t3_token, t3_word, t3_told, b5, e5, w1, w2, w3, w4⟩
  · left
    rw [w1, w2]; simp only [o_bs]
    rw [if_pos w3, q_zg (Or.inl w4)]
    exact ⟨_, _, rfl, rfl, rfl, w4, w5, FrN.upd (by omega), FrN.upd (by omega), fun i hi => hA i (by omega), fun i hi => hB i (by omega)⟩
  right
  rw [w1, w2]; simp only [o_bs]
  rw [if_neg n10, q_zg1, sadd_eq hT]
  have l4 := h.2.2.2.2.le
  exact ⟨kd, x, y, _, A, B, r3_place, r3_behind, r3_kind, r3_value, r3_letters, r3_word, t3_place, t3_begin, t3_token, t3_word, t3_told, b5, e5, rfl, rfl, w3, by omega, hA, hB, hT, hK⟩
theorem line0 (hn : n ≤ 1000) (hfg : ∀ i, i < n → m_tape i = k_signs i) (hN : RN M D Q 0 c_men c_dangers c_decrees c_manNames c_dangerNames c_decreeNames m_city m_manName m_dangerName m_decreeName) (hT : T < 40) (h5 : m_lines 5 = nI T) (h : TS n k_signs k_place k_behind k_kind k_value k_letters k_word m_place m_begin m_token m_word m_told b e) :
    LMo n k_signs e T M D d_fault m_wrong j_kinds j_firsts j_seconds m_lines m_lineWhat m_lineA m_lineB ((f_X10_advance k_signs (nI n) k_behind).bind fun r38 => (f_X6_monthsLine_55 d_fault c_men c_dangers c_manNames c_dangerNames (nI T) j_kinds j_firsts j_seconds k_signs (nI n) r38.1 r38.2.1 r38.2.2.1 r38.2.2.2.1 r38.2.2.2.2.1 r38.2.2.2.2.2 0 1)) (f_X13_readsLine_71 m_tape (nI n) m_place m_begin m_token m_word m_told m_wrong m_city m_manName m_dangerName m_given m_lines m_lineWhat m_lineA m_lineB 0) := by
  have l0 := h.2.2.2.2.le
  have hM6 := hN.1.1
  have hD5 := hN.2.1.1
  unfold f_X13_readsLine_71
  rw [if_pos (show (0 : Int32) ≤ 0 by decide), gl_5_6, cl_5, h5, if_neg (show ¬ nI T = 40 from fun q => by have := (nI_inj (j := 40) (by omega) (by omega)).mp q; omega)]
  obtain ⟨q_place, q_behind, q_kind, q_value, q_letters, q_word, p_place, p_begin, p_token, p_word, p_told, b1, e1, a1, a2, a3, a4⟩ := adv hn hfg h
  have l1 := a3.2.2.2.2.le
  rw [a1, a2]
  simp only [o_bs]
  rw [gl_5_6, qa_200, q_gd (by omega) (by omega), nI_clamp (by omega)]
  rw [if_pos trivial]
  
  unfold f_X6_monthsLine_55 f_X13_readsLine_130 f_X13_readsLine_141 f_X13_readsTwo
  rw [if_pos rfl, if_pos rfl, if_neg n10]
  unfold f_X6_monthsLine_70
  rw [if_neg (show ¬ (0 : Int32) = 4 by decide)]
  rcases man_rel (s := 0) (d_fault := d_fault) (m_wrong := m_wrong) (m_given := m_given) hN (by omega) a3 with ⟨f, v, f1, f2, fz⟩ | ⟨i, hi, f1, f2, f3⟩
  · left
    rw [f1, show f_X13_needsMan p_begin p_token p_word m_wrong m_city m_manName (m_given) 0 = _ from f2]; simp only [o_bs, ↓reduceIte]
    unfold f_X6_monthsLine_85
    rw [if_pos rfl]
    exact ⟨_, _, rfl, rfl, rfl, rfl, ⟨rfl, fz⟩, (by refine ⟨?_, ?_, ?_, ?_⟩ <;> first | exact FrN.rfl' | exact FrN.upd (by omega))⟩
  rw [f1, show f_X13_needsMan p_begin p_token p_word m_wrong m_city m_manName (m_given) 0 = _ from f2]; simp only [o_bs]
  unfold f_X6_monthsLine_85 f_X13_readsTwo_24
  obtain ⟨r_place, r_behind, r_kind, r_value, r_letters, r_word, t_place, t_begin, t_token, t_word, t_told, b2, e2, c1, c2, c3, c4⟩ := adv hn hfg a3
  have l2 := c3.2.2.2.2.le
  rw [if_neg (nI_m1 i (by omega)), if_neg (show ¬ (0 : Int32) = 4 by decide), if_neg n10, q_gd (by omega) (by omega), nI_clamp (by omega), c1, c2]
  simp only [o_bs]
  unfold f_X6_monthsLine_107
  rw [if_neg n10, if_neg n10]
  rcases man_rel (s := 0) (d_fault := d_fault) (m_wrong := m_wrong) (m_given := nI i) hN (by omega) c3 with ⟨f, v, f1, f2, fz⟩ | ⟨j, hj, f1, f2, f3⟩
  · left
    rw [f1, show f_X13_needsMan t_begin t_token t_word m_wrong m_city m_manName (nI i) 0 = _ from f2]; simp only [o_bs, ↓reduceIte]
    unfold f_X6_monthsLine_120
    rw [if_pos rfl]
    exact ⟨_, _, rfl, rfl, rfl, rfl, ⟨rfl, fz⟩, (by refine ⟨?_, ?_, ?_, ?_⟩ <;> first | exact FrN.rfl' | exact FrN.upd (by omega))⟩
  rw [f1, show f_X13_needsMan t_begin t_token t_word m_wrong m_city m_manName (nI i) 0 = _ from f2]; simp only [o_bs]
  unfold f_X6_monthsLine_120 f_X13_readsTwo_62
  rw [if_neg (nI_m1 j (by omega)), if_neg n10, if_neg n10, q_gd (by omega) (by omega), nI_clamp (by omega), pk_us]
  by_cases hij : nI j = nI i
  · left
    unfold f_X6_wrong f_X13_fails
    rw [if_pos hij, if_pos hij, q_zg0, q_zg0, c3.1, c3.2.2.2.1]
    simp only [o_bs, ↓reduceIte]
    exact ⟨_, _, rfl, rfl, rfl, rfl, eqf3, (by refine ⟨?_, ?_, ?_, ?_⟩ <;> first | exact FrN.rfl' | exact FrN.upd (by omega))⟩
  obtain ⟨u_place, u_behind, u_kind, u_value, u_letters, u_word, w_place, w_begin, w_token, w_word, w_told, b3, e3, d1, d2, d3, d4⟩ := adv hn hfg c3
  have l3 := d3.2.2.2.2.le
  unfold f_X6_monthsLine_147
  rw [if_neg hij, if_neg hij, if_neg n10, q_gd (by omega) (by omega), d1, d2]
  simp only [o_bs]
  unfold f_X13_readsLine_149
  rw [if_neg n10, if_neg (show ¬ (0 : Int32) = 1 by decide), if_neg (show ¬ (0 : Int32) = 2 by decide)]
  refine lend hn hfg hT h5 d3 (by omega) (FrN.upd (by omega)) (FrN.upd (by omega)) ?_
  exact Or.inl ⟨rfl, i, j, hi, hj, rfl, rfl, pk_us, pk_us⟩
theorem line3 (hn : n ≤ 1000) (hfg : ∀ i, i < n → m_tape i = k_signs i) (hN : RN M D Q 0 c_men c_dangers c_decrees c_manNames c_dangerNames c_decreeNames m_city m_manName m_dangerName m_decreeName) (hT : T < 40) (h5 : m_lines 5 = nI T) (h : TS n k_signs k_place k_behind k_kind k_value k_letters k_word m_place m_begin m_token m_word m_told b e) :
    LMo n k_signs e T M D d_fault m_wrong j_kinds j_firsts j_seconds m_lines m_lineWhat m_lineA m_lineB ((f_X10_advance k_signs (nI n) k_behind).bind fun r38 => (f_X6_monthsLine_55 d_fault c_men c_dangers c_manNames c_dangerNames (nI T) j_kinds j_firsts j_seconds k_signs (nI n) r38.1 r38.2.1 r38.2.2.1 r38.2.2.2.1 r38.2.2.2.2.1 r38.2.2.2.2.2 3 0)) (f_X13_readsLine_71 m_tape (nI n) m_place m_begin m_token m_word m_told m_wrong m_city m_manName m_dangerName m_given m_lines m_lineWhat m_lineA m_lineB 3) := by
  have l0 := h.2.2.2.2.le
  have hM6 := hN.1.1
  have hD5 := hN.2.1.1
  unfold f_X13_readsLine_71
  rw [if_pos (show (0 : Int32) ≤ 3 by decide), gl_5_6, cl_5, h5, if_neg (show ¬ nI T = 40 from fun q => by have := (nI_inj (j := 40) (by omega) (by omega)).mp q; omega)]
  obtain ⟨q_place, q_behind, q_kind, q_value, q_letters, q_word, p_place, p_begin, p_token, p_word, p_told, b1, e1, a1, a2, a3, a4⟩ := adv hn hfg h
  have l1 := a3.2.2.2.2.le
  rw [a1, a2]
  simp only [o_bs]
  rw [gl_5_6, qa_200, q_gd (by omega) (by omega), nI_clamp (by omega)]
  rw [if_neg (show ¬ (3 : Int32) = 0 by decide), if_pos trivial]
  
  unfold f_X6_monthsLine_55 f_X13_readsLine_130 f_X13_readsLine_141 f_X13_readsTwo
  rw [if_neg (show ¬ (3 : Int32) = 0 by decide), if_pos rfl, if_neg (show ¬ (3 : Int32) = 0 by decide), if_pos rfl]
  unfold f_X6_monthsLine_70
  rw [if_neg (show ¬ (3 : Int32) = 4 by decide)]
  rcases danger_rel (d_fault := d_fault) (m_wrong := m_wrong) (m_given := m_given) hN a3 with ⟨f, v, f1, f2, fz⟩ | ⟨i, hi, f1, f2, f3⟩
  · left
    rw [f1, show f_X13_needsDanger p_begin p_token p_word m_wrong m_city m_dangerName (m_given) = _ from f2]; simp only [o_bs, ↓reduceIte]
    unfold f_X6_monthsLine_85
    rw [if_pos rfl]
    exact ⟨_, _, rfl, rfl, rfl, rfl, ⟨rfl, fz⟩, (by refine ⟨?_, ?_, ?_, ?_⟩ <;> first | exact FrN.rfl' | exact FrN.upd (by omega))⟩
  rw [f1, show f_X13_needsDanger p_begin p_token p_word m_wrong m_city m_dangerName (m_given) = _ from f2]; simp only [o_bs]
  unfold f_X6_monthsLine_85 f_X13_readsTwo_24
  obtain ⟨r_place, r_behind, r_kind, r_value, r_letters, r_word, t_place, t_begin, t_token, t_word, t_told, b2, e2, c1, c2, c3, c4⟩ := adv hn hfg a3
  have l2 := c3.2.2.2.2.le
  rw [if_neg (nI_m1 i (by omega)), if_neg (show ¬ (3 : Int32) = 4 by decide), if_neg n10, q_gd (by omega) (by omega), nI_clamp (by omega), c1, c2]
  simp only [o_bs]
  unfold f_X6_monthsLine_107
  rw [if_neg n10, if_pos trivial]
  rcases danger_rel (d_fault := d_fault) (m_wrong := m_wrong) (m_given := nI i) hN c3 with ⟨f, v, f1, f2, fz⟩ | ⟨j, hj, f1, f2, f3⟩
  · left
    rw [f1, show f_X13_needsDanger t_begin t_token t_word m_wrong m_city m_dangerName (nI i) = _ from f2]; simp only [o_bs, ↓reduceIte]
    unfold f_X6_monthsLine_120
    rw [if_pos rfl]
    exact ⟨_, _, rfl, rfl, rfl, rfl, ⟨rfl, fz⟩, (by refine ⟨?_, ?_, ?_, ?_⟩ <;> first | exact FrN.rfl' | exact FrN.upd (by omega))⟩
  rw [f1, show f_X13_needsDanger t_begin t_token t_word m_wrong m_city m_dangerName (nI i) = _ from f2]; simp only [o_bs]
  unfold f_X6_monthsLine_120 f_X13_readsTwo_62
  rw [if_neg (nI_m1 j (by omega)), if_neg n10, if_neg n10, q_gd (by omega) (by omega), nI_clamp (by omega), pk_us]
  by_cases hij : nI j = nI i
  · left
    unfold f_X6_wrong f_X13_fails
    rw [if_pos hij, if_pos hij, q_zg0, q_zg0, c3.1, c3.2.2.2.1]
    simp only [o_bs, ↓reduceIte]
    exact ⟨_, _, rfl, rfl, rfl, rfl, eqf3, (by refine ⟨?_, ?_, ?_, ?_⟩ <;> first | exact FrN.rfl' | exact FrN.upd (by omega))⟩
  obtain ⟨u_place, u_behind, u_kind, u_value, u_letters, u_word, w_place, w_begin, w_token, w_word, w_told, b3, e3, d1, d2, d3, d4⟩ := adv hn hfg c3
  have l3 := d3.2.2.2.2.le
  unfold f_X6_monthsLine_147
  rw [if_neg hij, if_neg hij, if_neg n10, q_gd (by omega) (by omega), d1, d2]
  simp only [o_bs]
  unfold f_X13_readsLine_149
  rw [if_neg n10, if_neg (show ¬ (3 : Int32) = 1 by decide), if_neg (show ¬ (3 : Int32) = 2 by decide)]
  refine lend hn hfg hT h5 d3 (by omega) (FrN.upd (by omega)) (FrN.upd (by omega)) ?_
  exact Or.inr (Or.inr (Or.inr (Or.inl ⟨rfl, i, j, hi, hj, fun z => hij (by rw [z]), rfl, rfl, pk_us, pk_us⟩)))
theorem line1 (hn : n ≤ 1000) (hfg : ∀ i, i < n → m_tape i = k_signs i) (hN : RN M D Q 0 c_men c_dangers c_decrees c_manNames c_dangerNames c_decreeNames m_city m_manName m_dangerName m_decreeName) (hT : T < 40) (h5 : m_lines 5 = nI T) (h : TS n k_signs k_place k_behind k_kind k_value k_letters k_word m_place m_begin m_token m_word m_told b e) :
    LMo n k_signs e T M D d_fault m_wrong j_kinds j_firsts j_seconds m_lines m_lineWhat m_lineA m_lineB ((f_X10_advance k_signs (nI n) k_behind).bind fun r38 => (f_X6_monthsLine_55 d_fault c_men c_dangers c_manNames c_dangerNames (nI T) j_kinds j_firsts j_seconds k_signs (nI n) r38.1 r38.2.1 r38.2.2.1 r38.2.2.2.1 r38.2.2.2.2.1 r38.2.2.2.2.2 1 1)) (f_X13_readsLine_71 m_tape (nI n) m_place m_begin m_token m_word m_told m_wrong m_city m_manName m_dangerName m_given m_lines m_lineWhat m_lineA m_lineB 1) := by
  have l0 := h.2.2.2.2.le
  have hM6 := hN.1.1
  have hD5 := hN.2.1.1
  unfold f_X13_readsLine_71
  rw [if_pos (show (0 : Int32) ≤ 1 by decide), gl_5_6, cl_5, h5, if_neg (show ¬ nI T = 40 from fun q => by have := (nI_inj (j := 40) (by omega) (by omega)).mp q; omega)]
  obtain ⟨q_place, q_behind, q_kind, q_value, q_letters, q_word, p_place, p_begin, p_token, p_word, p_told, b1, e1, a1, a2, a3, a4⟩ := adv hn hfg h
  have l1 := a3.2.2.2.2.le
  rw [a1, a2]
  simp only [o_bs]
  rw [gl_5_6, qa_200, q_gd (by omega) (by omega), nI_clamp (by omega)]
  rw [if_neg (show ¬ (1 : Int32) = 0 by decide), if_neg (show ¬ (1 : Int32) = 3 by decide)]
  
  unfold f_X6_monthsLine_55 f_X13_readsLine_149
  rw [if_neg (show ¬ (1 : Int32) = 0 by decide), if_neg (show ¬ (1 : Int32) = 3 by decide), if_pos rfl]
  unfold f_X6_monthsLine_70 f_X13_readsLine_159
  rw [if_neg (show ¬ (1 : Int32) = 4 by decide), if_pos rfl]
  rcases man_rel (s := 0) (d_fault := d_fault) (m_wrong := m_wrong) (m_given := m_given) hN (by omega) a3 with ⟨f, v, f1, f2, fz⟩ | ⟨i, hi, f1, f2, f3⟩
  · left
    rw [f1, show f_X13_needsMan p_begin p_token p_word m_wrong m_city m_manName (m_given) 0 = _ from f2]; simp only [o_bs, ↓reduceIte]
    unfold f_X6_monthsLine_85
    rw [if_pos rfl]
    exact ⟨_, _, rfl, rfl, rfl, rfl, ⟨rfl, fz⟩, (by refine ⟨?_, ?_, ?_, ?_⟩ <;> first | exact FrN.rfl' | exact FrN.upd (by omega))⟩
  rw [f1, show f_X13_needsMan p_begin p_token p_word m_wrong m_city m_manName (m_given) 0 = _ from f2]; simp only [o_bs]
  unfold f_X6_monthsLine_85 f_X13_readsLine_184
  obtain ⟨r_place, r_behind, r_kind, r_value, r_letters, r_word, t_place, t_begin, t_token, t_word, t_told, b2, e2, c1, c2, c3, c4⟩ := adv hn hfg a3
  have l2 := c3.2.2.2.2.le
  rw [if_neg (nI_m1 i (by omega)), if_neg (show ¬ (1 : Int32) = 4 by decide), if_neg n10, q_gd (by omega) (by omega), nI_clamp (by omega), c1, c2]
  simp only [o_bs]
  unfold f_X6_monthsLine_107
  rw [if_pos rfl]
  unfold f_X6_monthsLine_120 f_X6_monthsLine_147
  rw [if_neg (show ¬ (0 : Int32) = -1 by decide), if_pos rfl, if_pos rfl]
  refine lend hn hfg hT h5 c3 (by omega) (FrN.upd (by omega)) FrN.rfl' ?_
  exact Or.inr (Or.inl ⟨rfl, i, hi, rfl, pk_us⟩)
theorem line2 (hn : n ≤ 1000) (hfg : ∀ i, i < n → m_tape i = k_signs i) (hN : RN M D Q 0 c_men c_dangers c_decrees c_manNames c_dangerNames c_decreeNames m_city m_manName m_dangerName m_decreeName) (hT : T < 40) (h5 : m_lines 5 = nI T) (h : TS n k_signs k_place k_behind k_kind k_value k_letters k_word m_place m_begin m_token m_word m_told b e) :
    LMo n k_signs e T M D d_fault m_wrong j_kinds j_firsts j_seconds m_lines m_lineWhat m_lineA m_lineB ((f_X10_advance k_signs (nI n) k_behind).bind fun r38 => (f_X6_monthsLine_55 d_fault c_men c_dangers c_manNames c_dangerNames (nI T) j_kinds j_firsts j_seconds k_signs (nI n) r38.1 r38.2.1 r38.2.2.1 r38.2.2.2.1 r38.2.2.2.2.1 r38.2.2.2.2.2 2 0)) (f_X13_readsLine_71 m_tape (nI n) m_place m_begin m_token m_word m_told m_wrong m_city m_manName m_dangerName m_given m_lines m_lineWhat m_lineA m_lineB 2) := by
  have l0 := h.2.2.2.2.le
  have hM6 := hN.1.1
  have hD5 := hN.2.1.1
  unfold f_X13_readsLine_71
  rw [if_pos (show (0 : Int32) ≤ 2 by decide), gl_5_6, cl_5, h5, if_neg (show ¬ nI T = 40 from fun q => by have := (nI_inj (j := 40) (by omega) (by omega)).mp q; omega)]
  obtain ⟨q_place, q_behind, q_kind, q_value, q_letters, q_word, p_place, p_begin, p_token, p_word, p_told, b1, e1, a1, a2, a3, a4⟩ := adv hn hfg h
  have l1 := a3.2.2.2.2.le
  rw [a1, a2]
  simp only [o_bs]
  rw [gl_5_6, qa_200, q_gd (by omega) (by omega), nI_clamp (by omega)]
  rw [if_neg (show ¬ (2 : Int32) = 0 by decide), if_neg (show ¬ (2 : Int32) = 3 by decide)]
  
  unfold f_X6_monthsLine_55 f_X13_readsLine_149
  rw [if_neg (show ¬ (2 : Int32) = 0 by decide), if_neg (show ¬ (2 : Int32) = 3 by decide), if_neg (show ¬ (2 : Int32) = 1 by decide), if_pos rfl]
  unfold f_X6_monthsLine_70 f_X13_readsLine_159
  rw [if_neg (show ¬ (2 : Int32) = 4 by decide), if_neg (show ¬ (2 : Int32) = 1 by decide)]
  rcases danger_rel (d_fault := d_fault) (m_wrong := m_wrong) (m_given := m_given) hN a3 with ⟨f, v, f1, f2, fz⟩ | ⟨i, hi, f1, f2, f3⟩
  · left
    rw [f1, show f_X13_needsDanger p_begin p_token p_word m_wrong m_city m_dangerName (m_given) = _ from f2]; simp only [o_bs, ↓reduceIte]
    unfold f_X6_monthsLine_85
    rw [if_pos rfl]
    exact ⟨_, _, rfl, rfl, rfl, rfl, ⟨rfl, fz⟩, (by refine ⟨?_, ?_, ?_, ?_⟩ <;> first | exact FrN.rfl' | exact FrN.upd (by omega))⟩
  rw [f1, show f_X13_needsDanger p_begin p_token p_word m_wrong m_city m_dangerName (m_given) = _ from f2]; simp only [o_bs]
  unfold f_X6_monthsLine_85 f_X13_readsLine_184
  obtain ⟨r_place, r_behind, r_kind, r_value, r_letters, r_word, t_place, t_begin, t_token, t_word, t_told, b2, e2, c1, c2, c3, c4⟩ := adv hn hfg a3
  have l2 := c3.2.2.2.2.le
  rw [if_neg (nI_m1 i (by omega)), if_neg (show ¬ (2 : Int32) = 4 by decide), if_neg n10, q_gd (by omega) (by omega), nI_clamp (by omega), c1, c2]
  simp only [o_bs]
  unfold f_X6_monthsLine_107
  rw [if_pos rfl]
  unfold f_X6_monthsLine_120 f_X6_monthsLine_147
  rw [if_neg (show ¬ (0 : Int32) = -1 by decide), if_pos rfl, if_pos rfl]
  refine lend hn hfg hT h5 c3 (by omega) (FrN.upd (by omega)) FrN.rfl' ?_
  exact Or.inr (Or.inr (Or.inl ⟨rfl, i, hi, rfl, pk_us⟩))
theorem line4 (hn : n ≤ 1000) (hfg : ∀ i, i < n → m_tape i = k_signs i) (hN : RN M D Q 0 c_men c_dangers c_decrees c_manNames c_dangerNames c_decreeNames m_city m_manName m_dangerName m_decreeName) (hT : T < 40) (h5 : m_lines 5 = nI T) (h : TS n k_signs k_place k_behind k_kind k_value k_letters k_word m_place m_begin m_token m_word m_told b e) :
    LMo n k_signs e T M D d_fault m_wrong j_kinds j_firsts j_seconds m_lines m_lineWhat m_lineA m_lineB ((f_X10_advance k_signs (nI n) k_behind).bind fun r38 => (f_X6_monthsLine_55 d_fault c_men c_dangers c_manNames c_dangerNames (nI T) j_kinds j_firsts j_seconds k_signs (nI n) r38.1 r38.2.1 r38.2.2.1 r38.2.2.2.1 r38.2.2.2.2.1 r38.2.2.2.2.2 4 0)) (f_X13_readsLine_71 m_tape (nI n) m_place m_begin m_token m_word m_told m_wrong m_city m_manName m_dangerName m_given m_lines m_lineWhat m_lineA m_lineB 4) := by
  have l0 := h.2.2.2.2.le
  have hM6 := hN.1.1
  have hD5 := hN.2.1.1
  unfold f_X13_readsLine_71
  rw [if_pos (show (0 : Int32) ≤ 4 by decide), gl_5_6, cl_5, h5, if_neg (show ¬ nI T = 40 from fun q => by have := (nI_inj (j := 40) (by omega) (by omega)).mp q; omega)]
  obtain ⟨q_place, q_behind, q_kind, q_value, q_letters, q_word, p_place, p_begin, p_token, p_word, p_told, b1, e1, a1, a2, a3, a4⟩ := adv hn hfg h
  have l1 := a3.2.2.2.2.le
  rw [a1, a2]
  simp only [o_bs]
  rw [gl_5_6, qa_200, q_gd (by omega) (by omega), nI_clamp (by omega)]
  rw [if_neg (show ¬ (4 : Int32) = 0 by decide), if_neg (show ¬ (4 : Int32) = 3 by decide)]
  
  unfold f_X6_monthsLine_55 f_X13_readsLine_149
  rw [if_neg (show ¬ (4 : Int32) = 0 by decide), if_neg (show ¬ (4 : Int32) = 3 by decide), if_neg (show ¬ (4 : Int32) = 1 by decide), if_neg (show ¬ (4 : Int32) = 2 by decide)]
  unfold f_X6_monthsLine_70
  rw [if_pos rfl]
  unfold f_X6_monthsLine_85
  rw [if_neg (show ¬ (0 : Int32) = -1 by decide), if_pos rfl]
  unfold f_X6_monthsLine_107
  rw [if_pos rfl]
  unfold f_X6_monthsLine_120 f_X6_monthsLine_147
  rw [if_neg (show ¬ (0 : Int32) = -1 by decide), if_pos rfl, if_pos rfl]
  exact lend hn hfg hT h5 a3 (by omega) FrN.rfl' FrN.rfl' (Or.inr (Or.inr (Or.inr (Or.inr rfl))))
theorem line_rel (hn : n ≤ 1000) (hfg : ∀ i, i < n → m_tape i = k_signs i) (hN : RN M D Q 0 c_men c_dangers c_decrees c_manNames c_dangerNames c_decreeNames m_city m_manName m_dangerName m_decreeName) (hT : T ≤ 40) (h5 : m_lines 5 = nI T) (h : TS n k_signs k_place k_behind k_kind k_value k_letters k_word m_place m_begin m_token m_word m_told b e) :
    LMo n k_signs e T M D d_fault m_wrong j_kinds j_firsts j_seconds m_lines m_lineWhat m_lineA m_lineB (f_X6_monthsLine d_fault c_men c_dangers c_manNames c_dangerNames (nI T) j_kinds j_firsts j_seconds k_signs (nI n) k_place k_behind k_kind k_value k_letters k_word) (f_X13_readsLine m_tape (nI n) m_place m_begin m_token m_word m_told m_wrong m_city m_manName m_dangerName m_given m_lines m_lineWhat m_lineA m_lineB) := by
  unfold f_X6_monthsLine f_X13_readsLine
  rw [lspelt_eq h]
  simp only [o_bs]
  have full : ∀ kd : Int32, (0 : Int32) ≤ kd → ¬ T < 40 → LMo n k_signs e T M D d_fault m_wrong j_kinds j_firsts j_seconds m_lines m_lineWhat m_lineA m_lineB (zg ((f_X6_wrong k_place 5).1) (some ((f_X6_wrong k_place 5).1, (f_X6_wrong k_place 5).2, nI T, j_kinds, j_firsts, j_seconds, k_place, k_behind, k_kind, k_value, k_letters, k_word))) (f_X13_readsLine_71 m_tape (nI n) m_place m_begin m_token m_word m_told m_wrong m_city m_manName m_dangerName m_given m_lines m_lineWhat m_lineA m_lineB kd) := by
    intro kd hkd hT'
    left
    unfold f_X13_readsLine_71 f_X6_wrong f_X13_fails
    rw [if_pos hkd, gl_5_6, cl_5, h5, if_pos (show nI T = 40 from by rw [show T = 40 by omega]; rfl), q_zg0, q_zg0, h.1, h.2.2.2.1]
    exact ⟨_, _, rfl, rfl, rfl, rfl, eqf5, (by refine ⟨?_, ?_, ?_, ?_⟩ <;> first | exact FrN.rfl' | exact FrN.upd (by omega))⟩
  have W14 := h.word1 (i := 14) (by omega)
  by_cases k14 : k_word = some 14
  · rw [if_neg (show ¬ f_X13_isWord m_token m_word 276647 = 0 from fun z => W14.mp z k14)]
    simp only [if_pos k14]
    rw [if_neg (show ¬ (0 : Int32) = -1 by decide)]
    by_cases hT' : T < 40
    · rw [if_pos (show nI T < 40 from (nI_ltI (b := 40) (by omega) (by omega)).mpr hT')]
      simp only [↓reduceIte]
      exact line0 hn hfg hN hT' h5 h
    · rw [if_neg (show ¬ nI T < 40 from fun z => hT' ((nI_ltI (b := 40) (by omega) (by omega)).mp z))]
      exact full 0 (by decide) hT'
  rw [if_pos (show f_X13_isWord m_token m_word 276647 = 0 from W14.mpr k14)]
  simp only [if_neg k14]
  have W15 := h.word1 (i := 15) (by omega)
  by_cases k15 : k_word = some 15
  · rw [if_neg (show ¬ f_X13_isWord m_token m_word 187455942 = 0 from fun z => W15.mp z k15)]
    simp only [if_pos k15]
    rw [if_neg (show ¬ (1 : Int32) = -1 by decide)]
    by_cases hT' : T < 40
    · rw [if_pos (show nI T < 40 from (nI_ltI (b := 40) (by omega) (by omega)).mpr hT')]
      simp only [if_neg (show ¬ (1 : Int32) = 0 by decide), ↓reduceIte]
      exact line1 hn hfg hN hT' h5 h
    · rw [if_neg (show ¬ nI T < 40 from fun z => hT' ((nI_ltI (b := 40) (by omega) (by omega)).mp z))]
      exact full 1 (by decide) hT'
  rw [if_pos (show f_X13_isWord m_token m_word 187455942 = 0 from W15.mpr k15)]
  simp only [if_neg k15]
  have W16 := h.word1 (i := 16) (by omega)
  by_cases k16 : k_word = some 16
  · rw [if_neg (show ¬ f_X13_isWord m_token m_word 7214732 = 0 from fun z => W16.mp z k16)]
    simp only [if_pos k16]
    rw [if_neg (show ¬ (2 : Int32) = -1 by decide)]
    by_cases hT' : T < 40
    · rw [if_pos (show nI T < 40 from (nI_ltI (b := 40) (by omega) (by omega)).mpr hT')]
      simp only [if_neg (show ¬ (2 : Int32) = 0 by decide), if_neg (show ¬ (2 : Int32) = 1 by decide)]
      exact line2 hn hfg hN hT' h5 h
    · rw [if_neg (show ¬ nI T < 40 from fun z => hT' ((nI_ltI (b := 40) (by omega) (by omega)).mp z))]
      exact full 2 (by decide) hT'
  rw [if_pos (show f_X13_isWord m_token m_word 7214732 = 0 from W16.mpr k16)]
  simp only [if_neg k16]
  have W17 := h.word1 (i := 17) (by omega)
  by_cases k17 : k_word = some 17
  · rw [if_neg (show ¬ f_X13_isWord m_token m_word 1689216361 = 0 from fun z => W17.mp z k17)]
    simp only [if_pos k17]
    rw [if_neg (show ¬ (3 : Int32) = -1 by decide)]
    by_cases hT' : T < 40
    · rw [if_pos (show nI T < 40 from (nI_ltI (b := 40) (by omega) (by omega)).mpr hT')]
      simp only [if_neg (show ¬ (3 : Int32) = 0 by decide), if_neg (show ¬ (3 : Int32) = 1 by decide)]
      exact line3 hn hfg hN hT' h5 h
    · rw [if_neg (show ¬ nI T < 40 from fun z => hT' ((nI_ltI (b := 40) (by omega) (by omega)).mp z))]
      exact full 3 (by decide) hT'
  rw [if_pos (show f_X13_isWord m_token m_word 1689216361 = 0 from W17.mpr k17)]
  simp only [if_neg k17]
  have W18 := h.word1 (i := 18) (by omega)
  by_cases k18 : k_word = some 18
  · rw [if_neg (show ¬ f_X13_isWord m_token m_word 8800 = 0 from fun z => W18.mp z k18)]
    simp only [if_pos k18]
    rw [if_neg (show ¬ (4 : Int32) = -1 by decide)]
    by_cases hT' : T < 40
    · rw [if_pos (show nI T < 40 from (nI_ltI (b := 40) (by omega) (by omega)).mpr hT')]
      simp only [if_neg (show ¬ (4 : Int32) = 0 by decide), if_neg (show ¬ (4 : Int32) = 1 by decide)]
      exact line4 hn hfg hN hT' h5 h
    · rw [if_neg (show ¬ nI T < 40 from fun z => hT' ((nI_ltI (b := 40) (by omega) (by omega)).mp z))]
      exact full 4 (by decide) hT'
  rw [if_pos (show f_X13_isWord m_token m_word 8800 = 0 from W18.mpr k18)]
  simp only [if_neg k18]
  left
  rw [if_pos trivial]
  unfold f_X13_readsLine_71 f_X6_wrong f_X13_fails
  rw [if_neg (show ¬ (0 : Int32) ≤ -1 by decide), q_zg0, q_zg0, h.1, h.2.2.2.1]
  exact ⟨_, _, rfl, rfl, rfl, rfl, eqf1, (by refine ⟨?_, ?_, ?_, ?_⟩ <;> first | exact FrN.rfl' | exact FrN.upd (by omega))⟩
end
