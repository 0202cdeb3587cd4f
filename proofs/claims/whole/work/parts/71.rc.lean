/-! the city that was read is one city -/
theorem btw_eq (x : Int32) : imax 0 (imin 99 x) = f_X13_between x 0 99 := by
  rw [i_eq, imax_toInt, imin_toInt]
  have e0 : (0 : Int32).toInt = 0 := rfl
  have e9 : (99 : Int32).toInt = 99 := rfl
  unfold f_X13_between
  rw [e0, e9]
  by_cases h1 : (0 : Int32) ≤ x
  · rw [if_pos h1]
    have h1' := (i_le _ _).mp h1
    by_cases h2 : x ≤ 99
    · rw [if_pos h2]
      have h2' := (i_le _ _).mp h2
      rw [e0] at h1'; rw [e9] at h2'
      split <;> split <;> omega
    · rw [if_neg h2, e9]
      have h2' : ¬ x.toInt ≤ 99 := fun z => h2 ((i_le _ _).mpr (by rw [e9]; exact z))
      rw [e0] at h1'
      split <;> split <;> omega
  · rw [if_neg h1, e0]
    have h1' : ¬ 0 ≤ x.toInt := fun z => h1 ((i_le _ _).mpr (by rw [e0]; exact z))
    split <;> split <;> omega
theorem btw_rng (x : Int32) : 0 ≤ (f_X13_between x 0 99).toInt ∧ (f_X13_between x 0 99).toInt ≤ 99 := by
  rw [← btw_eq, imax_toInt, imin_toInt]
  have e0 : (0 : Int32).toInt = 0 := rfl
  have e9 : (99 : Int32).toInt = 99 := rfl
  rw [e0, e9]
  split <;> split <;> omega
theorem btw_id {x : Int32} (h : 0 ≤ x.toInt ∧ x.toInt ≤ 99) : f_X13_between x 0 99 = x := by
  unfold f_X13_between
  rw [if_pos ((i_le _ _).mpr (show (0 : Int32).toInt ≤ _ from h.1)), if_pos ((i_le _ _).mpr (show _ ≤ (99 : Int32).toInt from h.2))]
theorem nI_s1000 {k : Nat} (h : 1000 ≤ k) : nI k - 1000 = nI (k - 1000) := by
  have e : nI k = nI (k - 1000) + nI 1000 := by rw [nI_add]; congr 1; omega
  rw [e]; exact Int32.add_sub_cancel _ _
def sv0 (c_kinds c_skills : TN) (m : Nat) (_ ps : Int32) : Int32 := if c_kinds m = 3 then (if ps = 0 then 0 else c_skills m) else c_skills m
def sv1 (f : Fn) (c_skills c_wants : TN) (m : Nat) (lg ps : Int32) : Int32 := f_X13_between (f (c_skills m) (c_wants m) lg ps) 0 99
def kv0 (c_wants : TN) (m : Nat) (lk _ : Int32) : Int32 := if c_wants m + lk ≤ 9 then 0 else 1
def kv1 (f : Fn) (c_skills c_wants : TN) (m : Nat) (lk lf : Int32) : Int32 := if f (c_skills m) (c_wants m) lk lf = 0 then 0 else 1
theorem HD.shf {co : TN} {c0 : Nat} {C : List Int32} (h : HD co c0 C) (h1 : 1000 ≤ c0) (h2 : c0 + C.length ≤ 2000) : HD (shf 1000 co) (c0 - 1000) C := by
  intro i hi
  rw [shf_lt (by omega), show 1000 + (c0 - 1000 + i) = c0 + i by omega]
  exact h i hi
theorem HD.at {g co : TN} {c0 : Nat} {C : List Int32} (h : HD g c0 C) (h1 : 1000 ≤ c0) (h2 : c0 + C.length ≤ 2000) (hco : ∀ i, i < 1000 → co i = g (1000 + i)) : HD co (c0 - 1000) C := by
  intro i hi
  rw [hco _ (by omega), show 1000 + (c0 - 1000 + i) = c0 + i by omega]
  exact h i hi
theorem gl_3_20' {α : Type} {x : Option α} : gd (3 : Int32) 20 x = x := gd_ok (show ¬ (_ ∨ _) from by decide)
theorem gl_4_20' {α : Type} {x : Option α} : gd (4 : Int32) 20 x = x := gd_ok (show ¬ (_ ∨ _) from by decide)
section
variable {M : Nat} {c_kinds c_skills c_wants l_ops : TN} {l_worksFrom l_worksTo l_keepsFrom l_keepsTo : Int32} {m_codes : TN} {mf mt : Int32} {sz c : Nat}
theorem sv_ex (hM : M ≤ 6) (hr : ∀ i, i < M → 0 ≤ (c_skills i).toInt ∧ (c_skills i).toInt ≤ 9) (hL : LW 0 l_worksFrom l_worksTo l_ops mf mt m_codes sz c) (hsz : sz ≤ 1000) (hc : c ≤ 2000) : ∃ sv : Nat → Int32 → Int32 → Int32, (∀ m lg ps, m < M → 0 ≤ (sv m lg ps).toInt ∧ (sv m lg ps).toInt ≤ 99) ∧ CSv sv M c_kinds c_skills c_wants l_ops l_worksFrom l_worksTo l_keepsFrom l_keepsTo ∧ ∀ (k2 s2 w2 lf lt co : TN), (∀ i, i < M → k2 i = c_kinds i ∧ s2 i = c_skills i ∧ w2 i = c_wants i) → lf 0 = mf - 1000 → lt 0 = mt - 1000 → (∀ i, i < 1000 → co i = m_codes (1000 + i)) → MSv sv M k2 s2 w2 lf lt co := by
  rcases hL with ⟨rfl, rfl, rfl, rfl⟩ | ⟨P, C, f, s, c0, q1, q2, q3, rfl, rfl, rfl, rfl, q8, q9, q10⟩
  · refine ⟨sv0 c_kinds c_skills, fun m lg ps hm => ?_, fun m hm lg ps st => ?_, fun k2 s2 w2 lf lt co hk hf ht hco m hm lg ps z_kept z_keptBy z_ahead z_against z_sum z_sumBy z_term z_termBy z_byNot z_valueOf => ?_⟩
    · have := hr m hm
      have e0 : (0 : Int32).toInt = 0 := rfl
      unfold sv0
      split
      · split
        · rw [e0]; omega
        · omega
      · omega
    · unfold f_X1_strength f_X3_isTold sv0
      rw [if_pos rfl, if_pos (show (0 : Int32) ≤ 0 by decide), if_pos rfl, q_ga (by omega) (by omega), q_ga (by omega) (by omega)]
      refine ⟨st, ?_⟩
      by_cases h3 : c_kinds m = 3
      · rw [if_pos h3, if_pos h3]
        by_cases h0 : ps = 0
        · rw [if_pos h0, if_pos h0]
        · rw [if_neg h0, if_neg h0]
      · rw [if_neg h3, if_neg h3]
    · have hs := hr m hm
      obtain ⟨e1, e2, e3⟩ := hk m hm
      have hle : nI 1000 - 1000 ≤ nI 1000 - 1000 := by decide
      unfold f_X13_worksBy f_X13_worksBy_18 f_X13_worksBy_24 f_X13_worksBy_86 sv0
      simp only [gl_0_4, cl_0, hf, ht, if_pos hle, q_gd (show m < 12 by omega) (show 12 < 2147483648 by omega), nI_clamp (show m < 2 ^ 31 by omega), e1, e2]
      refine ⟨z_kept, z_keptBy, z_ahead, z_against, z_sum, z_sumBy, z_term, z_termBy, z_byNot, z_valueOf, ?_⟩
      by_cases h3 : c_kinds m = 3
      · rw [if_pos h3, if_pos h3]
        by_cases h0 : ps = 0
        · rw [if_pos h0, if_pos h0]; rfl
        · rw [if_neg h0, if_neg h0, btw_id (by omega)]
      · rw [if_neg h3, if_neg h3, btw_id (by omega)]
  · have p1 := CP_ne q1.1
    have p2 := q1.2.1
    refine ⟨sv1 f c_skills c_wants, fun m lg ps hm => btw_rng _, fun m hm lg ps st => ?_, fun k2 s2 w2 lf lt co hk hf ht hco m hm lg ps z_kept z_keptBy z_ahead z_against z_sum z_sumBy z_term z_termBy z_byNot z_valueOf => ?_⟩
    · unfold f_X1_strength f_X3_isTold f_X3_worth f_X3_worth_15 f_X3_worth_32 sv1
      simp only [↓reduceIte]
      rw [if_neg (show ¬ nI (s + P.length) ≤ nI s from fun q => by have := (nI_leI (by omega) (by omega)).mp q; omega), if_neg n10, q_ga (by omega) (by omega), q_ga (by omega) (by omega)]
      obtain ⟨st', w1⟩ := worth_val q1 q2 rfl (by omega) st (c_skills m) (c_wants m) lg ps
      rw [w1]
      simp only [o_bs]
      rw [btw_eq]
      exact ⟨st', rfl⟩
    · obtain ⟨e1, e2, e3⟩ := hk m hm
      have hlf : lf 0 = nI (c0 - 1000) := by rw [hf, nI_s1000 q10]
      have hlt : lt 0 = nI (c0 + C.length - 1000) := by rw [ht, nI_s1000 (by omega)]
      have hle : ¬ nI (c0 + C.length - 1000) ≤ nI (c0 - 1000) := fun q => by have := (nI_leI (by omega) (by omega)).mp q; omega
      unfold f_X13_worksBy f_X13_worksBy_18 f_X13_worksBy_24 f_X13_worksBy_86 sv1
      simp only [gl_0_4, cl_0, hlf, hlt, if_neg hle, q_gd (show m < 12 by omega) (show 12 < 2147483648 by omega), nI_clamp (show m < 2 ^ 31 by omega), e1, e2, e3, gl_1_20, gl_2_20, gl_3_20, gl_4_20, cl_1, cl_2, cl_3, cl_4, ite_self]
      obtain ⟨v', w1⟩ := worked_val (lf := lf) (lt := lt) (a := c_skills m) (b := c_wants m) (c := lg) (d := ps) (vo := upd (upd (upd (upd z_valueOf 1 (c_skills m)) 2 (c_wants m)) 3 lg) 4 ps) q1 (q3.at q10 (by omega) hco) (show c0 - 1000 + C.length = c0 + C.length - 1000 by omega) (by omega) hlf ⟨by omega, hlt, by omega, by rw [pk_un (by omega), pk_un (by omega), pk_un (by omega)]; exact pk_us, by rw [pk_un (by omega), pk_un (by omega)]; exact pk_us, by rw [pk_un (by omega)]; exact pk_us, pk_us⟩ (VS.mk z_kept z_keptBy z_ahead z_against z_sum z_sumBy z_term z_termBy z_byNot)
      rw [show f_X13_worked lf lt co z_kept z_keptBy z_ahead z_against z_sum z_sumBy z_term z_termBy z_byNot (upd (upd (upd (upd z_valueOf 1 (c_skills m)) 2 (c_wants m)) 3 lg) 4 ps) 0 = _ from w1]
      simp only [o_bs]
      exact ⟨_, _, _, _, _, _, _, _, _, _, rfl⟩
theorem kv_ex (hM : M ≤ 6) (hL : LW 1 l_keepsFrom l_keepsTo l_ops mf mt m_codes sz c) (hsz : sz ≤ 1000) (hc : c ≤ 2000) : ∃ kv : Nat → Int32 → Int32 → Int32, (∀ m lk lf, m < M → kv m lk lf = 0 ∨ kv m lk lf = 1) ∧ CKv kv M c_skills c_wants l_ops l_worksFrom l_worksTo l_keepsFrom l_keepsTo ∧ ∀ (s2 w2 lf lt co : TN), (∀ i, i < M → s2 i = c_skills i ∧ w2 i = c_wants i) → lf 1 = mf - 1000 → lt 1 = mt - 1000 → (∀ i, i < 1000 → co i = m_codes (1000 + i)) → MKv kv M s2 w2 lf lt co := by
  rcases hL with ⟨rfl, rfl, rfl, rfl⟩ | ⟨P, C, f, s, c0, q1, q2, q3, rfl, rfl, rfl, rfl, q8, q9, q10⟩
  · refine ⟨kv0 c_wants, fun m lk lf hm => ?_, fun m hm lk lg st => ?_, fun s2 w2 lf lt co hk hf ht hco m hm lk lg z_kept z_keptBy z_ahead z_against z_sum z_sumBy z_term z_termBy z_byNot z_valueOf => ?_⟩
    · unfold kv0; split
      · exact Or.inl rfl
      · exact Or.inr rfl
    · unfold f_X1_wouldKeep f_X3_isTold kv0
      rw [if_neg n10, if_pos (show (0 : Int32) ≤ 0 by decide), if_pos rfl, q_ga (by omega) (by omega)]
      refine ⟨st, ?_⟩
      by_cases h0 : c_wants m + lk ≤ 9
      · rw [if_pos h0, if_pos h0]
      · rw [if_neg h0, if_neg h0]
    · obtain ⟨e2, e3⟩ := hk m hm
      have hle : nI 1000 - 1000 ≤ nI 1000 - 1000 := by decide
      unfold f_X13_keepsBy f_X13_keepsBy_18 f_X13_keepsBy_81 kv0
      simp only [gl_1_4, cl_1, hf, ht, if_pos hle, q_gd (show m < 12 by omega) (show 12 < 2147483648 by omega), nI_clamp (show m < 2 ^ 31 by omega), e2, e3]
      refine ⟨z_kept, z_keptBy, z_ahead, z_against, z_sum, z_sumBy, z_term, z_termBy, z_byNot, z_valueOf, ?_⟩
      by_cases h0 : c_wants m + lk ≤ 9
      · rw [if_pos h0, if_pos h0]; rfl
      · rw [if_neg h0, if_neg h0]; rfl
  · have p1 := CP_ne q1.1
    have p2 := q1.2.1
    refine ⟨kv1 f c_skills c_wants, fun m lk lf hm => ?_, fun m hm lk lg st => ?_, fun s2 w2 lf lt co hk hf ht hco m hm lk lg z_kept z_keptBy z_ahead z_against z_sum z_sumBy z_term z_termBy z_byNot z_valueOf => ?_⟩
    · unfold kv1; split
      · exact Or.inl rfl
      · exact Or.inr rfl
    · unfold f_X1_wouldKeep f_X3_isTold f_X3_worth f_X3_worth_15 f_X3_worth_32 kv1
      simp only [if_neg n10]
      rw [if_neg (show ¬ nI (s + P.length) ≤ nI s from fun q => by have := (nI_leI (by omega) (by omega)).mp q; omega), if_neg n10, q_ga (by omega) (by omega), q_ga (by omega) (by omega)]
      obtain ⟨st', w1⟩ := worth_val q1 q2 rfl (by omega) st (c_skills m) (c_wants m) lk lg
      rw [w1]
      simp only [o_bs]
      refine ⟨st', ?_⟩
      by_cases h0 : f (c_skills m) (c_wants m) lk lg = 0
      · rw [if_pos h0, if_pos h0]
      · rw [if_neg h0, if_neg h0]
    · obtain ⟨e2, e3⟩ := hk m hm
      have hlf : lf 1 = nI (c0 - 1000) := by rw [hf, nI_s1000 q10]
      have hlt : lt 1 = nI (c0 + C.length - 1000) := by rw [ht, nI_s1000 (by omega)]
      have hle : ¬ nI (c0 + C.length - 1000) ≤ nI (c0 - 1000) := fun q => by have := (nI_leI (by omega) (by omega)).mp q; omega
      unfold f_X13_keepsBy f_X13_keepsBy_18 f_X13_keepsBy_81 kv1
      simp only [gl_1_4, cl_1, hlf, hlt, if_neg hle, q_gd (show m < 12 by omega) (show 12 < 2147483648 by omega), nI_clamp (show m < 2 ^ 31 by omega), e2, e3, gl_1_20, gl_2_20, gl_5_20, gl_6_20, cl_2, cl_5, cl_6, ite_self]
      obtain ⟨v', w1⟩ := worked_val (lf := lf) (lt := lt) (a := c_skills m) (b := c_wants m) (c := lk) (d := lg) (vo := upd (upd (upd (upd z_valueOf 1 (c_skills m)) 2 (c_wants m)) 5 lk) 6 lg) q1 (q3.at q10 (by omega) hco) (show c0 - 1000 + C.length = c0 + C.length - 1000 by omega) (by omega) hlf ⟨by omega, hlt, by omega, by rw [pk_un (by omega), pk_un (by omega), pk_un (by omega)]; exact pk_us, by rw [pk_un (by omega), pk_un (by omega)]; exact pk_us, by rw [pk_un (by omega)]; exact pk_us, pk_us⟩ (VS.mk z_kept z_keptBy z_ahead z_against z_sum z_sumBy z_term z_termBy z_byNot)
      rw [show f_X13_worked lf lt co z_kept z_keptBy z_ahead z_against z_sum z_sumBy z_term z_termBy z_byNot (upd (upd (upd (upd z_valueOf 1 (c_skills m)) 2 (c_wants m)) 5 lk) 6 lg) 1 = _ from w1]
      simp only [o_bs]
      by_cases h0 : f (c_skills m) (c_wants m) lk lg = 0
      · rw [if_pos h0, if_pos h0]; exact ⟨_, _, _, _, _, _, _, _, _, _, rfl⟩
      · rw [if_neg h0, if_neg h0]; exact ⟨_, _, _, _, _, _, _, _, _, _, rfl⟩
end
