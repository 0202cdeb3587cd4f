/-! the months told, in both -/
def RB (M D T : Nat) (j_kinds j_firsts j_seconds m_lineWhat m_lineA m_lineB : TN) : Prop := ∀ i, i < T → m_lineWhat (40 * 5 + i) = j_kinds i ∧ LK M D (40 * 5 + i) (j_kinds i) (j_firsts i) (j_seconds i) m_lineA m_lineB
theorem LK.of {M D r : Nat} {kd x y : Int32} {A B A' B' : TN} (h : LK M D r kd x y A B) (hA : A' r = A r) (hB : B' r = B r) : LK M D r kd x y A' B' := by
  unfold LK at *
  rw [hA, hB]; exact h
theorem RB.add {M D T : Nat} {ks fs ss W A B A' B' : TN} {kd x y : Int32} (h : RB M D T ks fs ss W A B) (hA : FrN (200 + T) A A') (hB : FrN (200 + T) B B') (hK : LK M D (200 + T) kd x y A' B') : RB M D (T + 1) (upd ks T kd) (upd fs T x) (upd ss T y) (upd W (200 + T) kd) A' B' := by
  intro i hi
  by_cases e : i = T
  · subst e
    rw [pk_us, pk_us, pk_us, show 40 * 5 + i = 200 + i from rfl, pk_us]
    exact ⟨rfl, hK⟩
  · obtain ⟨h1, h2⟩ := h i (by omega)
    rw [pk_un (by omega), pk_un (by omega), pk_un (by omega), pk_un (by omega)]
    exact ⟨h1, h2.of (hA _ (by omega)) (hB _ (by omega))⟩
/-- the rows of the marks are as they were -/
def FrM (m_lines m_lineWhat m_lineA m_lineB a b c d : TN) : Prop := (∀ i, 1 ≤ i → i < 5 → a i = m_lines i) ∧ (∀ i, 40 ≤ i → i < 200 → b i = m_lineWhat i) ∧ (∀ i, 40 ≤ i → i < 200 → c i = m_lineA i) ∧ (∀ i, 40 ≤ i → i < 200 → d i = m_lineB i)
def FrW (m_lines m_lineWhat m_lineA m_lineB a b c d : TN) : Prop := FrN 5 m_lines a ∧ FrN 200 m_lineWhat b ∧ FrN 200 m_lineA c ∧ FrN 200 m_lineB d
theorem FrW.m {m_lines m_lineWhat m_lineA m_lineB a b c d : TN} (h : FrW m_lines m_lineWhat m_lineA m_lineB a b c d) : FrM m_lines m_lineWhat m_lineA m_lineB a b c d := ⟨fun i _ h2 => h.1 i h2, fun i _ h2 => h.2.1 i h2, fun i _ h2 => h.2.2.1 i h2, fun i _ h2 => h.2.2.2 i h2⟩
def MOUT (n M D : Nat) (m_wrong m_taped : Int32) (z_lines z_lineWhat z_lineA z_lineB : TN) (X : Option (Int32 × Int32 × Int32 × Int32 × Int32 × Int32 × Int32 × Int64 × Option Nat × Int32 × TN × TN × TN)) (Y : Option (Int32 × Int32 × Int32 × Int32 × Int32 × Int32 × Int32 × Int64 × Int32 × Int32 × Int32 × TN × TN × TN × TN)) : Prop := ∃ (fa wr gi : Int32) (j_lines : Int32) (j_kinds j_firsts j_seconds : Nat → Int32) (a b c d : TN) (q_place q_behind q_kind q_value : Int32) (q_letters : Int64) (q_word : Option Nat) (p_place p_begin p_token : Int32) (p_word : Int64) (p_told : Int32), X = some (fa, fa, f_X10_empty, q_place, q_behind, q_kind, q_value, q_letters, q_word, j_lines, j_kinds, j_firsts, j_seconds) ∧ Y = some (fa, 0, m_taped, nI n, p_place, p_begin, p_token, p_word, p_told, wr, gi, a, b, c, d) ∧ ((¬ fa = 0 ∧ FrW z_lines z_lineWhat z_lineA z_lineB a b c d) ∨ (fa = 0 ∧ RL M D 0 j_lines j_kinds j_firsts j_seconds a b c d ∧ FrM z_lines z_lineWhat z_lineA z_lineB a b c d))
section
variable {k_signs m_tape : TN} {n : Nat} {m_wrong m_taped : Int32} {M D Q : Nat} {c_men c_dangers c_decrees : Int32} {c_manNames c_dangerNames c_decreeNames : TL} {m_city : TN} {m_manName m_dangerName m_decreeName : TL} {z_lines z_lineWhat z_lineA z_lineB : TN}
theorem months_loop (hn : n ≤ 1000) (hfg : ∀ i, i < n → m_tape i = k_signs i) (hN : RN M D Q 0 c_men c_dangers c_decrees c_manNames c_dangerNames c_decreeNames m_city m_manName m_dangerName m_decreeName) : ∀ (fu1 fu2 j T : Nat) (j_kinds j_firsts j_seconds m_lines m_lineWhat m_lineA m_lineB : TN) (m_given : Int32) (k_place k_behind k_kind k_value : Int32) (k_letters : Int64) (k_word : Option Nat) (m_place m_begin m_token : Int32) (m_word : Int64) (m_told : Int32) (b e : Nat), T ≤ 40 → m_lines 5 = nI T → RB M D T j_kinds j_firsts j_seconds m_lineWhat m_lineA m_lineB → FrW z_lines z_lineWhat z_lineA z_lineB m_lines m_lineWhat m_lineA m_lineB → TS n k_signs k_place k_behind k_kind k_value k_letters k_word m_place m_begin m_token m_word m_told b e → n < fu1 + b → n < fu2 + b → j ≤ b → MOUT n M D m_wrong m_taped z_lines z_lineWhat z_lineA z_lineB (f_X6_readMonths_32 fu1 0 k_signs (nI n) k_place k_behind k_kind k_value k_letters k_word c_men c_dangers c_manNames c_dangerNames (nI T) j_kinds j_firsts j_seconds 1 (nI j)) (f_X13_months_16 fu2 0 m_taped m_tape (nI n) m_place m_begin m_token m_word m_told m_wrong m_city m_manName m_dangerName m_given m_lines m_lineWhat m_lineA m_lineB) := by
  intro fu1
  induction fu1 with
  | zero => intro fu2 j T j_kinds j_firsts j_seconds m_lines m_lineWhat m_lineA m_lineB m_given k_place k_behind k_kind k_value k_letters k_word m_place m_begin m_token m_word m_told b e hT h5 hB hz h hf; have := h.2.2.2.2.le; omega
  | succ fu1 ih =>
    intro fu2 j T j_kinds j_firsts j_seconds m_lines m_lineWhat m_lineA m_lineB m_given k_place k_behind k_kind k_value k_letters k_word m_place m_begin m_token m_word m_told b e hT h5 hB hz h hf hf2 hj
    have l0 := h.2.2.2.2.le
    rw [f_X6_readMonths_32.eq_2, show fu2 = (fu2 - 1) + 1 by omega, f_X13_months_16.eq_2]
    by_cases hk : k_kind = 0
    · rw [if_pos (h.end.mp hk), if_pos hk, if_neg n10, ite_self, show (f_X13_laysLines m_lines m_lineWhat m_lineA m_lineB 5 0) = _ from laysLines_eq (a := 5) (b := 0) (by omega) (by omega) (by omega)]
      unfold f_X6_readMonths_65
      simp only [o_bs]
      refine ⟨0, _, _, _, _, _, _, _, _, _, _, k_place, k_behind, k_kind, k_value, k_letters, k_word, m_place, m_begin, m_token, m_word, m_told, rfl, rfl, Or.inr ⟨rfl, ⟨T, hT, rfl, pk_us.trans h5, fun i hi => ?_⟩, ?_, ?_, ?_, ?_⟩⟩
      · obtain ⟨h1, h2⟩ := hB i hi
        rw [cpn_in (by omega), cpn_in (by omega), cpn_in (by omega)]
        exact ⟨h1, h2⟩
      · intro i h1 h2
        rw [pk_un (by omega)]; exact hz.1 i h2
      · intro i h1 h2
        rw [cpn_out (by omega)]; exact hz.2.1 i h2
      · intro i h1 h2
        rw [cpn_out (by omega)]; exact hz.2.2.1 i h2
      · intro i h1 h2
        rw [cpn_out (by omega)]; exact hz.2.2.2 i h2
    · have lt := h.lt hk
      rw [if_neg (show ¬ 1000 ≤ nI j from fun q => by have := (nI_leI (a := 1000) (by omega) (by omega)).mp q; omega), if_neg n10, if_neg hk, if_neg (fun z => hk (h.end.mpr z))]
      rcases line_rel (d_fault := 0) (m_wrong := m_wrong) (m_given := m_given) (j_kinds := j_kinds) (j_firsts := j_firsts) (j_seconds := j_seconds) (m_lineWhat := m_lineWhat) (m_lineA := m_lineA) (m_lineB := m_lineB) hn hfg hN hT h5 h with ⟨o1, o2, f1, f2, f3, f4, f5, fr⟩ | ⟨kd, x, y, gi, A, B, q_place, q_behind, q_kind, q_value, q_letters, q_word, p_place, p_begin, p_token, p_word, p_told, b', e', g1, g2, g3, g4, g5, g6, g7, g8⟩
      · rw [f1, f2]
        simp only [o_bs]
        rw [if_pos f4, show fu1 = (fu1 - 1) + 1 by omega, f_X6_readMonths_32.eq_2, if_pos f3]
        unfold f_X6_readMonths_65
        rw [ite_self, f5.1]
        have fz := f5.2.ne
        rw [f5.1] at fz
        exact ⟨_, _, _, _, _, _, _, _, _, _, _, _, _, _, _, _, _, _, _, _, _, _, rfl, rfl, Or.inl ⟨fz, hz.1.trans fr.1, hz.2.1.trans fr.2.1, hz.2.2.1.trans fr.2.2.1, hz.2.2.2.trans fr.2.2.2⟩⟩
      · rw [g1, g2]
        simp only [o_bs]
        rw [nI_1, if_neg n10]
        exact ih (fu2 - 1) (j + 1) (T + 1) _ _ _ _ _ _ _ _ q_place q_behind q_kind q_value q_letters q_word p_place p_begin p_token p_word p_told b' e' (by omega) pk_us (hB.add g5 g6 g8) ⟨hz.1.trans (FrN.upd (by omega)), hz.2.1.trans (FrN.upd (by omega)), hz.2.2.1.trans (fun i hi => g5 i (by omega)), hz.2.2.2.trans (fun i hi => g6 i (by omega))⟩ g3 (by omega) (by omega) (by omega)
end
section
variable {k_signs m_tape : TN} {n : Nat} {m_wrong m_given : Int32} {M D Q : Nat} {c_men c_dangers c_decrees : Int32} {c_manNames c_dangerNames c_decreeNames : TL} {m_city : TN} {m_manName m_dangerName m_decreeName : TL} {m_lines m_lineWhat m_lineA m_lineB i_kinds i_firsts i_seconds : TN}
theorem readMonths_rel (hn : n ≤ 1000) (hfg : ∀ i, i < n → m_tape i = k_signs i) (hN : RN M D Q 0 c_men c_dangers c_decrees c_manNames c_dangerNames c_decreeNames m_city m_manName m_dangerName m_decreeName) : MOUT n M D m_wrong 0 m_lines m_lineWhat m_lineA m_lineB (f_X6_readMonths k_signs (nI n) c_men c_dangers c_manNames c_dangerNames i_kinds i_firsts i_seconds) (f_X13_months (nI n) m_tape m_wrong m_city m_manName m_dangerName m_given m_lines m_lineWhat m_lineA m_lineB) := by
  unfold f_X6_readMonths f_X13_months f_X10_open f_X13_begins
  obtain ⟨b, e, kd, va, le, wo, tk, mw, to, a1, a2, a3, a4⟩ := adv_rel (e0 := 0) hn hfg (by omega)
  rw [show f_X10_advance k_signs (nI n) 0 = _ from a1, show f_X13_nextToken m_tape (nI n) 0 = _ from a2, gl_5_6, cl_5]
  simp only [o_bs]
  have l0 := a3.le
  exact months_loop hn hfg hN 1100 1100 0 0 _ _ _ _ _ _ _ _ _ _ _ _ _ _ _ _ _ _ _ b e (by omega) pk_us (fun i hi => by omega) ⟨FrN.upd (by omega), FrN.rfl', FrN.rfl', FrN.rfl'⟩ ⟨rfl, rfl, rfl, rfl, a3⟩ (by omega) (by omega) (by omega)
/-- both are told months: a fault, alike, and what was told stays; or new lines -/
theorem call_months (hn : n ≤ 1000) (hfg : ∀ i, i < n → m_tape i = k_signs i) (hN : RN M D Q 0 c_men c_dangers c_decrees c_manNames c_dangerNames c_decreeNames m_city m_manName m_dangerName m_decreeName) : ∃ (fa wr gi : Int32) (j_lines : Int32) (j_kinds j_firsts j_seconds : Nat → Int32) (a b c d : TN) (q_place q_behind q_kind q_value : Int32) (q_letters : Int64) (q_word : Option Nat) (p_place p_begin p_token : Int32) (p_word : Int64) (p_told : Int32) (sw : Bool), (f_X12_months c_men c_dangers c_manNames c_dangerNames k_signs (nI n) i_kinds i_firsts i_seconds) = some (fa, fa, 0, q_place, q_behind, q_kind, q_value, q_letters, q_word, j_lines, j_kinds, j_firsts, j_seconds, sw) ∧ (f_X13_months (nI n) m_tape m_wrong m_city m_manName m_dangerName m_given m_lines m_lineWhat m_lineA m_lineB) = some (fa, 0, 0, nI n, p_place, p_begin, p_token, p_word, p_told, wr, gi, a, b, c, d) ∧ ((sw = true ∧ FrW m_lines m_lineWhat m_lineA m_lineB a b c d) ∨ (sw = false ∧ RL M D 0 j_lines j_kinds j_firsts j_seconds a b c d ∧ FrM m_lines m_lineWhat m_lineA m_lineB a b c d)) := by
  unfold f_X12_months
  obtain ⟨fa, wr, gi, j_lines, j_kinds, j_firsts, j_seconds, a, b, c, d, q_place, q_behind, q_kind, q_value, q_letters, q_word, p_place, p_begin, p_token, p_word, p_told, x1, x2, x3⟩ := readMonths_rel (m_wrong := m_wrong) (m_given := m_given) (m_lines := m_lines) (m_lineWhat := m_lineWhat) (m_lineA := m_lineA) (m_lineB := m_lineB) (i_kinds := i_kinds) (i_firsts := i_firsts) (i_seconds := i_seconds) hn hfg hN
  rw [x1, x2]
  simp only [o_bs]
  rcases x3 with ⟨h1, h2⟩ | ⟨rfl, h2, h3⟩
  · rw [if_neg h1]
    exact ⟨fa, wr, gi, j_lines, j_kinds, j_firsts, j_seconds, a, b, c, d, q_place, q_behind, q_kind, q_value, q_letters, q_word, p_place, p_begin, p_token, p_word, p_told, true, rfl, rfl, Or.inl ⟨rfl, h2⟩⟩
  · rw [if_pos rfl]
    exact ⟨0, wr, gi, j_lines, j_kinds, j_firsts, j_seconds, a, b, c, d, q_place, q_behind, q_kind, q_value, q_letters, q_word, p_place, p_begin, p_token, p_word, p_told, false, rfl, rfl, Or.inr ⟨rfl, h2, h3⟩⟩
end
