/-! what was read is laid as the city -/
theorem shifts_eq {n k : Nat} {f : TN} (hk : k + k ≤ n) (hn : n ≤ 2000) (hk2 : k ≤ 1000) : f_X13_shifts n f (nI k) = some (fun i => if i < k then f (k + i) else f i) := by
  unfold f_X13_shifts
  have key : ∀ (fu j : Nat) (g : TN), j ≤ k → k < fu + j → (∀ i, j ≤ i → g i = f i) → (∀ i, i < j → g i = f (k + i)) → f_X13_shifts_2 fu n g (nI k) (nI j) = some (fun i => if i < k then f (k + i) else f i) := by
    intro fu
    induction fu with
    | zero => intro j g h1 h2; omega
    | succ fu ih =>
      intro j g h1 h2 h3 h4
      rw [f_X13_shifts_2.eq_2]
      by_cases hj : j < k
      · rw [if_neg (fun q => by have := (nI_leI (by omega) (by omega)).mp q; omega), nI_add, q_gd (by omega) (by omega), q_gd (by omega) (by omega), nI_clamp (by omega), nI_clamp (by omega), nI_1]
        refine ih (j + 1) _ (by omega) (by omega) (fun i hi => ?_) (fun i hi => ?_)
        · rw [pk_un (by omega)]; exact h3 i (by omega)
        · by_cases ei : i = j
          · subst ei; rw [pk_us]; exact h3 (k + i) (by omega)
          · rw [pk_un ei]; exact h4 i (by omega)
      · rw [if_pos ((nI_leI (by omega) (by omega)).mpr (by omega))]
        congr 1; funext i
        by_cases hi : i < k
        · rw [if_pos hi]; exact h4 i (by omega)
        · rw [if_neg hi]; exact h3 i (by omega)
  exact key 1100 0 f (by omega) (by omega) (fun i _ => rfl) (fun i hi => by omega)
theorem shiftsN_eq {n k : Nat} {f : TL} (hk : k + k ≤ n) (hn : n ≤ 2000) (hk2 : k ≤ 1000) : f_X13_shiftsNames n f (nI k) = some (fun i => if i < k then f (k + i) else f i) := by
  unfold f_X13_shiftsNames
  have key : ∀ (fu j : Nat) (g : TL), j ≤ k → k < fu + j → (∀ i, j ≤ i → g i = f i) → (∀ i, i < j → g i = f (k + i)) → f_X13_shiftsNames_2 fu n g (nI k) (nI j) = some (fun i => if i < k then f (k + i) else f i) := by
    intro fu
    induction fu with
    | zero => intro j g h1 h2; omega
    | succ fu ih =>
      intro j g h1 h2 h3 h4
      rw [f_X13_shiftsNames_2.eq_2]
      by_cases hj : j < k
      · rw [if_neg (fun q => by have := (nI_leI (by omega) (by omega)).mp q; omega), nI_add, q_gd (by omega) (by omega), q_gd (by omega) (by omega), nI_clamp (by omega), nI_clamp (by omega), nI_1]
        refine ih (j + 1) _ (by omega) (by omega) (fun i hi => ?_) (fun i hi => ?_)
        · rw [pk_uLn (by omega)]; exact h3 i (by omega)
        · by_cases ei : i = j
          · subst ei; rw [pk_uLs]; exact h3 (k + i) (by omega)
          · rw [pk_uLn ei]; exact h4 i (by omega)
      · rw [if_pos ((nI_leI (by omega) (by omega)).mpr (by omega))]
        congr 1; funext i
        by_cases hi : i < k
        · rw [if_pos hi]; exact h4 i (by omega)
        · rw [if_neg hi]; exact h3 i (by omega)
  exact key 1100 0 f (by omega) (by omega) (fun i _ => rfl) (fun i hi => by omega)
/-- what a row is when it has been shifted -/
def shf {α : Type} (k : Nat) (f : Nat → α) : Nat → α := fun i => if i < k then f (k + i) else f i
theorem shf_lt {α : Type} {k i : Nat} {f : Nat → α} (h : i < k) : shf k f i = f (k + i) := if_pos h
section
variable {m_city : Nat → Int32} {m_manName m_dangerName m_decreeName : Nat → Int64} {m_kind m_skill m_fieldTold m_want m_hates m_restsOn m_sizeTold m_grows m_lineFrom m_lineTo m_codes : Nat → Int32} {m_code m_lawLine m_toldLines : Int32} {m_opened m_compared : Nat → Int32} {m_given : Int32} {m_fresh : Int64} {m_consulsMany : Int32}
theorem lays_eq : (f_X13_lays m_city m_manName m_dangerName m_decreeName m_kind m_skill m_fieldTold m_want m_hates m_restsOn m_sizeTold m_grows m_lineFrom m_lineTo m_codes) = some (shf 5 m_city, shf 6 m_manName, shf 5 m_dangerName, shf 6 m_decreeName, shf 6 m_kind, shf 6 m_skill, shf 6 m_fieldTold, shf 6 m_want, shf 6 m_hates, shf 6 m_restsOn, shf 5 m_sizeTold, shf 5 m_grows, upd (upd m_lineFrom 0 (m_lineFrom 2 - 1000)) 1 (m_lineFrom 3 - 1000), upd (upd m_lineTo 0 (m_lineTo 2 - 1000)) 1 (m_lineTo 3 - 1000), shf 1000 m_codes) := by
  unfold f_X13_lays
  rw [show f_X13_shifts 10 m_city 5 = _ from shifts_eq (k := 5) (by omega) (by omega) (by omega), show f_X13_shiftsNames 12 m_manName 6 = _ from shiftsN_eq (k := 6) (by omega) (by omega) (by omega), show f_X13_shiftsNames 10 m_dangerName 5 = _ from shiftsN_eq (k := 5) (by omega) (by omega) (by omega), show f_X13_shiftsNames 12 m_decreeName 6 = _ from shiftsN_eq (k := 6) (by omega) (by omega) (by omega), show f_X13_shifts 12 m_kind 6 = _ from shifts_eq (k := 6) (by omega) (by omega) (by omega), show f_X13_shifts 12 m_skill 6 = _ from shifts_eq (k := 6) (by omega) (by omega) (by omega), show f_X13_shifts 12 m_fieldTold 6 = _ from shifts_eq (k := 6) (by omega) (by omega) (by omega), show f_X13_shifts 12 m_want 6 = _ from shifts_eq (k := 6) (by omega) (by omega) (by omega), show f_X13_shifts 12 m_hates 6 = _ from shifts_eq (k := 6) (by omega) (by omega) (by omega), show f_X13_shifts 12 m_restsOn 6 = _ from shifts_eq (k := 6) (by omega) (by omega) (by omega), show f_X13_shifts 10 m_sizeTold 5 = _ from shifts_eq (k := 5) (by omega) (by omega) (by omega), show f_X13_shifts 10 m_grows 5 = _ from shifts_eq (k := 5) (by omega) (by omega) (by omega), show f_X13_shifts 2000 m_codes 1000 = _ from shifts_eq (k := 1000) (by omega) (by omega) (by omega)]
  simp only [o_bs]
  rw [f_X13_lays_116.eq_2, if_neg (show ¬ (2 : Int32) ≤ 0 by decide), show (2 : Int32) + 0 = 2 from rfl, gl_2_4, gl_0_4, gl_2_4, gl_0_4, cl_2, cl_0, show (0 : Int32) + 1 = 1 from rfl, f_X13_lays_116.eq_2, if_neg (show ¬ (2 : Int32) ≤ 1 by decide), show (2 : Int32) + 1 = 3 from rfl, gl_3_4, gl_1_4, gl_3_4, gl_1_4, cl_3, cl_1, show (1 : Int32) + 1 = 2 from rfl, f_X13_lays_116.eq_2, if_pos (show (2 : Int32) ≤ 2 by decide), pk_un (show ¬ 3 = 0 by omega), pk_un (show ¬ 3 = 0 by omega)]
  rfl
end
/-- what the class makes of a law -/
theorem worth_val {li s T : Nat} {P C : List Int32} {f : Fn} (hS : Sexp li 0 P C f) {ops : TN} (hd : HD ops s P) (hT : s + P.length = T) (hT2 : T ≤ 1000) (st : TN) (a b c d : Int32) : ∃ st', f_X3_worth_41 1100 ops st a b c d (nI T) 0 (nI s) = some (f a b c d, st') := by
  obtain ⟨st', k1, k2, k3⟩ := hS.1 ops a b c d T (1100 - P.length) st 0 s (Nat.zero_le _) hd (by omega) hT2
  rw [show 1100 - P.length + P.length = 1100 by omega] at k3
  refine ⟨st', (show f_X3_worth_41 1100 ops st a b c d (nI T) 0 (nI s) = _ from k3).trans ?_⟩
  rw [hT, show 1100 - P.length = (1100 - P.length - 1) + 1 by omega, f_X3_worth_41.eq_2, if_pos ((nI_leI (by omega) (by omega)).mpr (Nat.le_refl _)), show (0 : Int32) = nI 0 from rfl, q_ga (by omega) (by omega), k2]
/-- what the model makes of it -/
theorem worked_val {li s T : Nat} {P C : List Int32} {f : Fn} (hS : Sexp li 0 P C f) {lf lt co vo : TN} (hd : HD co s C) (hT : s + C.length = T) (hT2 : T ≤ 1000) (hf : lf li = nI s) {a b c d : Int32} (hx : Cx lt vo li T a b c d) (v : VS) : ∃ v' : VS, f_X13_worked lf lt co v.kp v.kb v.ah v.ag v.su v.sb v.te v.tb v.bn vo (nI li) = some (f a b c d, v'.kp, v'.kb, v'.ah, v'.ag, v'.su, v'.sb, v'.te, v'.tb, v'.bn) := by
  have h2 := hx.1
  unfold f_X13_worked f_X13_opens
  simp only [gl_0_7, cl_0, o_bs]
  rw [q_gd (show li < 4 by omega) (by omega), nI_clamp (by omega), hf]
  obtain ⟨v1, k1, k2, k3, k4⟩ := hS.2.2 lt co vo T a b c d hx (1100 - C.length) s (VS.mk v.kp (upd v.kb 0 0) v.ah (upd v.ag 0 0) (upd v.su 0 0) (upd v.sb 0 20) v.te (upd v.tb 0 0) v.bn) hd (by omega) (Or.inl rfl) ⟨⟨⟨show upd v.tb 0 0 0 = 0 from pk_us, show upd v.su 0 0 0 = 0 from pk_us, show upd v.sb 0 20 0 = 20 from pk_us⟩, show upd v.ag 0 0 0 = 0 from pk_us⟩, show upd v.kb 0 0 0 = 0 from pk_us⟩
  rw [show 1100 - C.length + C.length = 1100 by omega, hT, show 1100 - C.length = (1100 - C.length - 1) + 1 by omega] at k4
  obtain ⟨v2, k5⟩ := Wk_end (fu := 1100 - C.length - 1) (m_codes := co) (m_valueOf := vo) (v := v1) (L := 0) (show li < 4 by omega) hx.2.1 (show T ≤ 2000 by omega)
  rw [k5] at k4
  have k3' : tstv (lv v1 0) = f a b c d := k3
  rw [k3'] at k4
  exact ⟨v2, k4⟩
