/-! names that are told, in both -/
def NM (N s o : Nat) (cn : Int32) (f : Nat → Int64) (mn : Int32) (g : Nat → Int64) : Prop := N ≤ o ∧ cn = nI N ∧ mn = nI N ∧ ∀ i, i < N → WN (f i) (g (o * s + i))
theorem place_rel {cl ml o N s : Nat} {cn mn : Int32} {f g : Nat → Int64} {x w : Int64} (hN : NM N s o cn f mn g) (hcl : N ≤ cl) (hml : o * s + N ≤ ml) (h1 : cl ≤ 100) (h2 : ml ≤ 100) (hw : WN x w) : (f_X1_placeOf cl f cn x = some (-1) ∧ f_X13_named ml g (nI (o * s)) mn w = some (-1)) ∨ ∃ i, i < N ∧ f_X1_placeOf cl f cn x = some (nI i) ∧ f_X13_named ml g (nI (o * s)) mn w = some (nI i) := by
  obtain ⟨ho, rfl, rfl, hf⟩ := hN
  unfold f_X1_placeOf f_X13_named
  have key : ∀ fu i, i ≤ N → N < fu + i → (f_X1_placeOf_3 fu cl f (nI N) x (nI i) = some (-1) ∧ f_X13_named_3 fu ml g (nI (o * s)) (nI N) w (nI (o * s + i)) = some (-1)) ∨ ∃ j, j < N ∧ f_X1_placeOf_3 fu cl f (nI N) x (nI i) = some (nI j) ∧ f_X13_named_3 fu ml g (nI (o * s)) (nI N) w (nI (o * s + i)) = some (nI j) := by
    intro fu
    induction fu with
    | zero => intro i h1 h2; omega
    | succ fu ih =>
      intro i hi hfu
      rw [f_X1_placeOf_3.eq_2, f_X13_named_3.eq_2]
      by_cases he : N ≤ i
      · left
        rw [nI_add, if_pos ((nI_leI (by omega) (by omega)).mpr he), if_pos ((nI_leI (by omega) (by omega)).mpr (by omega))]
        exact ⟨rfl, rfl⟩
      · have e1 := hf i (by omega)
        rw [nI_add, if_neg (show ¬ nI N ≤ nI i from fun q => he ((nI_leI (by omega) (by omega)).mp q)), if_neg (show ¬ nI cl ≤ nI i from fun q => by have := (nI_leI (by omega) (by omega)).mp q; omega), if_neg (show ¬ nI (o * s + N) ≤ nI (o * s + i) from fun q => by have := (nI_leI (by omega) (by omega)).mp q; omega), q_gd (by omega) (by omega), q_gd (by omega) (by omega), nI_clamp (by omega), nI_clamp (by omega)]
        by_cases hx : f i = x
        · right
          have hy : g (o * s + i) = w := (WN_eq e1 hw).mp hx
          rw [if_pos ((lg_cmp_eq _ _).mpr hx), if_pos ((lg_cmp_eq _ _).mpr hy), ← nI_add, show nI (o * s) + nI i - nI (o * s) = nI i by rw [Int32.add_comm, Int32.add_sub_cancel]]
          exact ⟨i, by omega, rfl, rfl⟩
        · have hy : ¬ g (o * s + i) = w := fun q => hx ((WN_eq e1 hw).mpr q)
          rw [if_neg (fun q => hx ((lg_cmp_eq _ _).mp q)), if_neg (fun q => hy ((lg_cmp_eq _ _).mp q)), nI_1, nI_1]
          exact ih (i + 1) (by omega) (by omega)
  exact key 1100 0 (by omega) (by omega)
/-- both have the same names -/
def RN (M D Q s : Nat) (c_men c_dangers c_decrees : Int32) (c_manNames c_dangerNames c_decreeNames : Nat → Int64) (m_city : Nat → Int32) (m_manName m_dangerName m_decreeName : Nat → Int64) : Prop :=
  NM M s 6 c_men c_manNames (m_city (5 * s)) m_manName ∧ NM D s 5 c_dangers c_dangerNames (m_city (5 * s + 1)) m_dangerName ∧ NM Q s 6 c_decrees c_decreeNames (m_city (5 * s + 2)) m_decreeName
section
variable {k_place k_behind k_kind k_value : Int32} {k_letters : Int64} {k_word : Option Nat} {m_place m_begin m_token : Int32} {m_word : Int64} {m_told : Int32} {k_signs m_tape : Nat → Int32} {n b e : Nat} {d_fault m_wrong m_given : Int32} {M D Q s : Nat} {c_men c_dangers c_decrees : Int32} {c_manNames c_dangerNames c_decreeNames : Nat → Int64} {m_city : Nat → Int32} {m_manName m_dangerName m_decreeName : Nat → Int64} {m_fresh x w : Int64}
theorem RN.man (h : RN M D Q s c_men c_dangers c_decrees c_manNames c_dangerNames c_decreeNames m_city m_manName m_dangerName m_decreeName) (hs : s ≤ 1) (hw : WN x w) : (f_X1_manNamed c_men c_manNames x = some (-1) ∧ f_X13_manNamed w m_city m_manName (nI s) = some (-1)) ∨ ∃ i, i < M ∧ f_X1_manNamed c_men c_manNames x = some (nI i) ∧ f_X13_manNamed w m_city m_manName (nI s) = some (nI i) := by
  unfold f_X1_manNamed f_X13_manNamed
  rw [qm_5, qm_6, Int32.add_zero, q_gd (by omega) (by omega), nI_clamp (by omega)]
  rcases place_rel (cl := 6) (ml := 12) h.1 h.1.1 (by have := h.1.1; omega) (by omega) (by omega) hw with ⟨a, b⟩ | ⟨i, hi, a, b⟩
  · left; rw [a, b]; exact ⟨rfl, rfl⟩
  · right; rw [a, b]; exact ⟨i, hi, rfl, rfl⟩
theorem RN.danger (h : RN M D Q s c_men c_dangers c_decrees c_manNames c_dangerNames c_decreeNames m_city m_manName m_dangerName m_decreeName) (hs : s ≤ 1) (hw : WN x w) : (f_X1_dangerNamed c_dangers c_dangerNames x = some (-1) ∧ f_X13_dangerNamed w m_city m_dangerName (nI s) = some (-1)) ∨ ∃ i, i < D ∧ f_X1_dangerNamed c_dangers c_dangerNames x = some (nI i) ∧ f_X13_dangerNamed w m_city m_dangerName (nI s) = some (nI i) := by
  unfold f_X1_dangerNamed f_X13_dangerNamed
  rw [qm_5, nI_1, q_gd (by omega) (by omega), nI_clamp (by omega)]
  rcases place_rel (cl := 5) (ml := 10) h.2.1 h.2.1.1 (by have := h.2.1.1; omega) (by omega) (by omega) hw with ⟨a, b⟩ | ⟨i, hi, a, b⟩
  · left; rw [a, b]; exact ⟨rfl, rfl⟩
  · right; rw [a, b]; exact ⟨i, hi, rfl, rfl⟩
theorem RN.decree (h : RN M D Q 1 c_men c_dangers c_decrees c_manNames c_dangerNames c_decreeNames m_city m_manName m_dangerName m_decreeName) (hw : WN x w) : (f_X1_decreeNamed c_decrees c_decreeNames x = some (-1) ∧ f_X13_decreeNamed w m_city m_decreeName = some (-1)) ∨ ∃ i, i < Q ∧ f_X1_decreeNamed c_decrees c_decreeNames x = some (nI i) ∧ f_X13_decreeNamed w m_city m_decreeName = some (nI i) := by
  unfold f_X1_decreeNamed f_X13_decreeNamed
  rw [gl_7_10, cl_7]
  rcases place_rel (cl := 6) (ml := 12) h.2.2 h.2.2.1 (by have := h.2.2.1; omega) (by omega) (by omega) hw with ⟨a, b⟩ | ⟨i, hi, a, b⟩
  · left; rw [a, show (6 : Int32) = nI (6 * 1) from rfl, b]; exact ⟨rfl, rfl⟩
  · right; rw [a, show (6 : Int32) = nI (6 * 1) from rfl, b]; exact ⟨i, hi, rfl, rfl⟩
theorem fresh_rel (hn : n ≤ 1000) (hfg : ∀ i, i < n → m_tape i = k_signs i) (hN : RN M D Q 1 c_men c_dangers c_decrees c_manNames c_dangerNames c_decreeNames m_city m_manName m_dangerName m_decreeName) (h : TS n k_signs k_place k_behind k_kind k_value k_letters k_word m_place m_begin m_token m_word m_told b e) : FAIL (f_X6_freshName d_fault c_men c_dangers c_decrees c_manNames c_dangerNames c_decreeNames k_signs (nI n) k_place k_behind k_kind k_value k_letters k_word) (f_X13_needsNew m_tape (nI n) m_place m_begin m_token m_word m_told m_wrong m_city m_manName m_dangerName m_decreeName m_fresh) 0 ∨ ∃ (q_place q_behind q_kind q_value : Int32) (q_letters : Int64) (q_word : Option Nat) (p_place p_begin p_token : Int32) (p_word : Int64) (p_told : Int32) (b' e' : Nat), (f_X6_freshName d_fault c_men c_dangers c_decrees c_manNames c_dangerNames c_decreeNames k_signs (nI n) k_place k_behind k_kind k_value k_letters k_word) = some (1, d_fault, q_place, q_behind, q_kind, q_value, q_letters, q_word) ∧ (f_X13_needsNew m_tape (nI n) m_place m_begin m_token m_word m_told m_wrong m_city m_manName m_dangerName m_decreeName m_fresh) = some (1, p_place, p_begin, p_token, p_word, p_told, m_wrong, m_word) ∧ TS n k_signs q_place q_behind q_kind q_value q_letters q_word p_place p_begin p_token p_word p_told b' e' ∧ e ≤ b' ∧ WN k_letters m_word := by
  unfold f_X6_freshName f_X13_needsNew f_X13_needsNew_36
  rcases h.name with ⟨g1, g2⟩ | ⟨g1, g2, g3, g4⟩
  · left
    rw [g1, g2, if_neg n10]
    simp only [o_bs, ↓reduceIte]
    unfold f_X6_wrong f_X13_fails
    rw [q_zg0, q_zg0, h.1, h.2.2.2.1]
    exact ⟨_, _, rfl, rfl, rfl, rfl, by first | exact eqf1 | exact eqf2 | exact eqf3 | exact eqf4 | exact eqf5 | exact ⟨rfl, by assumption⟩⟩
  · rw [g1, g2, if_pos rfl]
    simp only [o_bs]
    rw [if_neg n10]
    unfold f_X1_isNamed
    have hm1 : ∀ {i : Nat}, i < 100 → (0 : Int32) ≤ nI i := fun {i} hi => (nI_leI (a := 0) (b := i) (by omega) (by omega)).mpr (Nat.zero_le _)
    have hm0 : ¬ (0 : Int32) ≤ -1 := by decide
    have bad : FAIL (zg (f_X6_wrong k_place 3).1 (some ((f_X6_wrong k_place 3).1, (f_X6_wrong k_place 3).2, k_place, k_behind, k_kind, k_value, k_letters, k_word))) (zg (f_X13_fails m_begin 3).1 (some ((f_X13_fails m_begin 3).1, m_place, m_begin, m_token, m_word, m_told, (f_X13_fails m_begin 3).2, m_fresh))) 0 := by
      unfold f_X6_wrong f_X13_fails
      rw [q_zg0, q_zg0, h.1, h.2.2.2.1]
      exact ⟨_, _, rfl, rfl, rfl, rfl, by first | exact eqf1 | exact eqf2 | exact eqf3 | exact eqf4 | exact eqf5 | exact ⟨rfl, by assumption⟩⟩
    rcases hN.man (by omega) g4 with ⟨a1, a2⟩ | ⟨i, hi, a1, a2⟩
    · rw [a1, show f_X13_manNamed m_word m_city m_manName 1 = _ from a2]
      simp only [o_bs, ↓reduceIte]
      rw [if_neg hm0]
      rcases hN.danger (by omega) g4 with ⟨a1, a2⟩ | ⟨i, hi, a1, a2⟩
      · rw [a1, show f_X13_dangerNamed m_word m_city m_dangerName 1 = _ from a2]
        simp only [o_bs, ↓reduceIte]
        rw [if_neg hm0]
        rcases hN.decree g4 with ⟨a1, a2⟩ | ⟨i, hi, a1, a2⟩
        · right
          rw [a1, a2]
          simp only [o_bs, ↓reduceIte]
          rw [if_pos (by decide)]
          obtain ⟨q_place, q_behind, q_kind, q_value, q_letters, q_word, p_place, p_begin, p_token, p_word, p_told, b', e', c1, c2, c3, c4⟩ := adv hn hfg h
          rw [c1, c2]
          simp only [o_bs]
          exact ⟨q_place, q_behind, q_kind, q_value, q_letters, q_word, p_place, p_begin, p_token, p_word, p_told, b', e', rfl, rfl, c3, c4, g4⟩
        · left
          have := hN.2.2.1
          rw [a1, a2]
          simp only [o_bs]
          rw [if_neg (nI_m1 i (by omega)), o_bs, if_neg (by decide), if_neg (nI_pos (by omega))]
          exact bad
      · left
        have := hN.2.1.1
        rw [a1, show f_X13_dangerNamed m_word m_city m_dangerName 1 = _ from a2]
        simp only [o_bs]
        rw [if_neg (nI_m1 i (by omega)), o_bs, if_neg (by decide), if_pos (hm1 (by omega))]
        exact bad
    · left
      have := hN.1.1
      rw [a1, show f_X13_manNamed m_word m_city m_manName 1 = _ from a2]
      simp only [o_bs]
      rw [if_neg (nI_m1 i (by omega)), o_bs, if_neg (by decide), if_pos (hm1 (by omega))]
      exact bad
theorem kind_eq (h : TS n k_signs k_place k_behind k_kind k_value k_letters k_word m_place m_begin m_token m_word m_told b e) : f_X6_kindSpelt k_word = some (if k_word = some 19 then 0 else if k_word = some 20 then 1 else if k_word = some 21 then 2 else if k_word = some 22 then 3 else -1) := by
  unfold f_X6_kindSpelt
  simp only [eg_ok h.wok]
  by_cases h1 : k_word = some 19
  · rw [if_pos h1, if_pos h1]
  · rw [if_neg h1, if_neg h1]
    by_cases h1 : k_word = some 20
    · rw [if_pos h1, if_pos h1]
    · rw [if_neg h1, if_neg h1]
      by_cases h1 : k_word = some 21
      · rw [if_pos h1, if_pos h1]
      · rw [if_neg h1, if_neg h1]
        by_cases h1 : k_word = some 22
        · rw [if_pos h1, if_pos h1]
        · rw [if_neg h1, if_neg h1]
/-- both say that it is wrong, and say so alike -/
def FAIL2 (x : Option (Int32 × Int32)) (y : Option (Int32 × Int32 × Int32)) : Prop := ∃ f v, x = some (-1, f) ∧ y = some (0, f, v) ∧ FZ f
theorem man_rel (hN : RN M D Q s c_men c_dangers c_decrees c_manNames c_dangerNames c_decreeNames m_city m_manName m_dangerName m_decreeName) (hs : s ≤ 1) (h : TS n k_signs k_place k_behind k_kind k_value k_letters k_word m_place m_begin m_token m_word m_told b e) : FAIL2 (f_X6_toldOne d_fault c_men c_dangers c_manNames c_dangerNames k_place k_kind k_letters k_word 1) (f_X13_needsMan m_begin m_token m_word m_wrong m_city m_manName m_given (nI s)) ∨ ∃ i, i < M ∧ (f_X6_toldOne d_fault c_men c_dangers c_manNames c_dangerNames k_place k_kind k_letters k_word 1) = some (nI i, d_fault) ∧ (f_X13_needsMan m_begin m_token m_word m_wrong m_city m_manName m_given (nI s)) = some (1, m_wrong, nI i) ∧ ¬ k_kind = 0 := by
  unfold f_X6_toldOne f_X13_needsMan f_X6_toldOne_53 f_X6_wrong f_X13_fails
  rcases h.name with ⟨g1, g2⟩ | ⟨g1, g2, g3, g4⟩
  · left
    rw [g1, g2, if_neg n10, q_zg0, h.1, h.2.2.2.1]
    simp only [o_bs, ↓reduceIte]
    exact ⟨_, _, rfl, rfl, by first | exact eqf1.2 | exact eqf2.2⟩
  · rw [g1, g2, if_pos rfl]
    simp only [o_bs]
    rw [if_neg n10, if_neg n10]
    rcases hN.man hs g4 with ⟨a1, a2⟩ | ⟨i, hi, a1, a2⟩
    · left
      rw [a1, a2]
      simp only [o_bs, ↓reduceIte]
      rw [if_neg (by decide), h.1, h.2.2.2.1]
      exact ⟨_, _, rfl, rfl, by first | exact eqf1.2 | exact eqf2.2⟩
    · right
      have := hN.1.1
      rw [a1, a2]
      simp only [o_bs]
      rw [if_neg (nI_m1 i (by omega)), if_pos (show (0 : Int32) ≤ nI i from (nI_leI (a := 0) (b := i) (by omega) (by omega)).mpr (Nat.zero_le _))]
      exact ⟨i, hi, rfl, rfl, by rw [g3]; decide⟩
theorem danger_rel (hN : RN M D Q 0 c_men c_dangers c_decrees c_manNames c_dangerNames c_decreeNames m_city m_manName m_dangerName m_decreeName) (h : TS n k_signs k_place k_behind k_kind k_value k_letters k_word m_place m_begin m_token m_word m_told b e) : FAIL2 (f_X6_toldOne d_fault c_men c_dangers c_manNames c_dangerNames k_place k_kind k_letters k_word 0) (f_X13_needsDanger m_begin m_token m_word m_wrong m_city m_dangerName m_given) ∨ ∃ i, i < D ∧ (f_X6_toldOne d_fault c_men c_dangers c_manNames c_dangerNames k_place k_kind k_letters k_word 0) = some (nI i, d_fault) ∧ (f_X13_needsDanger m_begin m_token m_word m_wrong m_city m_dangerName m_given) = some (1, m_wrong, nI i) ∧ ¬ k_kind = 0 := by
  unfold f_X6_toldOne f_X13_needsDanger f_X6_toldOne_53 f_X6_wrong f_X13_fails
  rcases h.name with ⟨g1, g2⟩ | ⟨g1, g2, g3, g4⟩
  · left
    rw [g1, g2, if_neg n10, q_zg0, h.1, h.2.2.2.1]
    simp only [o_bs, ↓reduceIte]
    exact ⟨_, _, rfl, rfl, by first | exact eqf1.2 | exact eqf2.2⟩
  · rw [g1, g2, if_pos rfl]
    simp only [o_bs, ↓reduceIte]
    rw [if_neg n10]
    rcases hN.danger (by omega) g4 with ⟨a1, a2⟩ | ⟨i, hi, a1, a2⟩
    · left
      rw [a1, show f_X13_dangerNamed m_word m_city m_dangerName 0 = _ from a2]
      simp only [o_bs, ↓reduceIte]
      rw [if_neg (by decide), h.1, h.2.2.2.1]
      exact ⟨_, _, rfl, rfl, by first | exact eqf1.2 | exact eqf2.2⟩
    · right
      have := hN.2.1.1
      rw [a1, show f_X13_dangerNamed m_word m_city m_dangerName 0 = _ from a2]
      simp only [o_bs]
      rw [if_neg (nI_m1 i (by omega)), if_pos (show (0 : Int32) ≤ nI i from (nI_leI (a := 0) (b := i) (by omega) (by omega)).mpr (Nat.zero_le _))]
      exact ⟨i, hi, rfl, rfl, by rw [g3]; decide⟩
end
