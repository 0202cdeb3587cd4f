/-! rests, chance: both throw, or both answer alike -/
theorem gets_eq (a b c x y : Int32) : f_X13_getsBy a b c x y = f_X12_gets a b c x y := by rw [f_X13_getsBy, f_X12_gets]
theorem rst_eq {k : Nat} (hk : k < 4) {α : Type} (x1 x2 x3 : Int32) (a b : α) : (if f_X13_getsBy x1 x2 x3 (nI k / (2 : Int32)) (nI k - nI k / (2 : Int32) * (2 : Int32)) < f_X13_getsBy x1 x2 x3 ((1 : Int32) - nI k / (2 : Int32)) (nI k - nI k / (2 : Int32) * (2 : Int32)) then a else if f_X13_getsBy x1 x2 x3 ((1 : Int32) - (nI k - nI k / (2 : Int32) * (2 : Int32))) (nI k / (2 : Int32)) ≤ f_X13_getsBy x1 x2 x3 (nI k - nI k / (2 : Int32) * (2 : Int32)) (nI k / (2 : Int32)) then b else a) = if f_X12_isAtRest x1 x2 x3 (nI k) = 0 then a else b := by
  have e1 : nI k / (2 : Int32) = nI k >>> ((1 : Int32) &&& (31 : Int32)) := by
    rcases (show k = 0 ∨ k = 1 ∨ k = 2 ∨ k = 3 by omega) with rfl | rfl | rfl | rfl <;> decide
  have e2 : nI k - nI k / (2 : Int32) * (2 : Int32) = nI k &&& (1 : Int32) := by
    rcases (show k = 0 ∨ k = 1 ∨ k = 2 ∨ k = 3 by omega) with rfl | rfl | rfl | rfl <;> decide
  rw [e2, e1]
  unfold f_X12_isAtRest
  simp only [gets_eq]
  by_cases h1 : f_X12_gets x1 x2 x3 (nI k >>> ((1 : Int32) &&& (31 : Int32))) (nI k &&& (1 : Int32)) < f_X12_gets x1 x2 x3 ((1 : Int32) - (nI k >>> ((1 : Int32) &&& (31 : Int32)))) (nI k &&& (1 : Int32))
  · rw [if_pos h1, if_pos h1, if_pos rfl]
  · rw [if_neg h1, if_neg h1]
    by_cases h2 : f_X12_gets x1 x2 x3 (nI k &&& (1 : Int32)) (nI k >>> ((1 : Int32) &&& (31 : Int32))) < f_X12_gets x1 x2 x3 ((1 : Int32) - (nI k &&& (1 : Int32))) (nI k >>> ((1 : Int32) &&& (31 : Int32)))
    · rw [if_neg (Int32.not_le.mpr h2), if_pos h2, if_pos rfl]
    · rw [if_pos (Int32.not_lt.mp h2), if_neg h2, if_neg n10]
theorem rests_loop (x1 x2 x3 x4 : Int32) : ∀ (fu k f : Nat), k ≤ 4 → 4 < fu + k → f ≤ k → (∃ v, f_X12_rests_47 fu x1 x2 x3 x4 (nI f) (nI k) = some v ∧ f_X13_rests_61 fu 0 x1 x2 x3 x4 (nI f) (nI k) = some (v, 0)) ∨ (g_X12_rests_47 fu x1 x2 x3 x4 (nI f) (nI k) = true ∧ ∃ v, f_X13_rests_61 fu 0 x1 x2 x3 x4 (nI f) (nI k) = some (v, 1)) := by
  intro fu
  induction fu with
  | zero => intro k f h1 h2; omega
  | succ fu ih =>
    intro k f h1 h2 h3
    rw [f_X12_rests_47.eq_2, f_X13_rests_61.eq_2, g_X12_rests_47.eq_2]
    by_cases hk : k < 4
    · have h4 : ¬ (4 : Int32) ≤ nI k := fun q => by have := (nI_leI (a := 4) (by omega) (by omega)).mp q; omega
      rw [if_neg h4, if_neg h4, if_neg h4, rst_eq hk, nI_1, nI_1]
      by_cases hr : f_X12_isAtRest x1 x2 x3 (nI k) = 0
      · rw [if_pos hr, if_pos hr, if_pos hr]
        exact ih (k + 1) f (by omega) (by omega) (by omega)
      · rw [if_neg hr, if_neg hr, if_neg hr]
        by_cases hx : nI f = x4
        · rw [if_pos hx, if_pos hx]
          exact Or.inl ⟨_, rfl, rfl⟩
        · rw [if_neg hx, if_neg hx, if_neg hx]
          exact ih (k + 1) (f + 1) (by omega) (by omega) (by omega)
    · have h4 : (4 : Int32) ≤ nI k := (nI_leI (a := 4) (by omega) (by omega)).mpr (by omega)
      rw [if_pos h4, if_pos h4, if_pos h4]
      unfold f_X13_rests_163
      by_cases hx : x4 = -1
      · rw [if_pos hx, if_pos hx, if_pos hx]
        exact Or.inl ⟨_, rfl, rfl⟩
      · simp only [if_neg hx]
        exact Or.inr ⟨trivial, _, rfl⟩
theorem rests_low (x1 x2 x3 x4 : Int32) (h : x4 < -1) : ∀ (fu k f : Nat), k ≤ 4 → 4 < fu + k → f ≤ k → g_X12_rests_47 fu x1 x2 x3 x4 (nI f) (nI k) = true := by
  have h0 : ∀ f : Nat, f ≤ 4 → ¬ nI f = x4 := by
    intro f hf q
    rw [← q, i_lt, nI_toInt (by omega)] at h
    have : ((-1 : Int32)).toInt = -1 := by decide
    omega
  intro fu
  induction fu with
  | zero => intro k f h1 h2; omega
  | succ fu ih =>
    intro k f h1 h2 h3
    rw [g_X12_rests_47.eq_2]
    by_cases hk : k < 4
    · have h4 : ¬ (4 : Int32) ≤ nI k := fun q => by have := (nI_leI (a := 4) (by omega) (by omega)).mp q; omega
      rw [if_neg h4, nI_1, nI_1, if_neg (h0 f (by omega)), ih (k + 1) f (by omega) (by omega) (by omega), ih (k + 1) (f + 1) (by omega) (by omega) (by omega), ite_self]
    · have h4 : (4 : Int32) ≤ nI k := (nI_leI (a := 4) (by omega) (by omega)).mpr (by omega)
      rw [if_pos h4, if_neg (fun q => by rw [q] at h; exact absurd h (by decide))]
theorem call_rests (x1 x2 x3 x4 : Int32) : (∃ v, f_X12_rests x1 x2 x3 x4 = some v ∧ f_X13_rests x1 x2 x3 x4 = some (v, 0)) ∨ (g_X12_rests x1 x2 x3 x4 = true ∧ ∃ v, f_X13_rests x1 x2 x3 x4 = some (v, 1)) := by
  unfold f_X12_rests f_X13_rests g_X12_rests f_X13_rests_41 f_X13_rests_42 g_X12_rests_30
  simp only [wth_eq]
  rcases wth_cases x1 0 9 with ⟨e, _⟩ | ⟨e, _, _⟩
  · rw [e]; simp only [↓reduceIte]
    exact Or.inr ⟨trivial, _, rfl⟩
  rw [e, if_neg n10, if_neg n10, if_neg n10]
  rcases wth_cases x2 0 9 with ⟨e, _⟩ | ⟨e, _, _⟩
  · rw [e]; simp only [↓reduceIte]
    exact Or.inr ⟨trivial, _, rfl⟩
  rw [e, if_neg n10, if_neg n10, if_neg n10]
  rcases wth_cases x3 0 9 with ⟨e, _⟩ | ⟨e, _, _⟩
  · rw [e]; simp only [↓reduceIte]
    exact Or.inr ⟨trivial, _, rfl⟩
  rw [e, if_neg n10, if_neg n10, if_neg n10]
  by_cases h4 : x4 < -1
  · rw [if_pos h4, if_pos trivial]
    exact Or.inr ⟨rests_low x1 x2 x3 x4 h4 1100 0 0 (by omega) (by omega) (by omega), _, rfl⟩
  · rw [if_neg h4, if_neg (show ¬ (0 : Int32) = 1 by decide)]
    exact rests_loop x1 x2 x3 x4 1100 0 0 (by omega) (by omega) (by omega)
section
variable {s_month s_power s_master s_left s_kept s_passed : Int32} {s_sizes s_fields s_liked : Nat → Int32} {m_s : Nat → Int32} {M D Q : Nat} {sv kv : Nat → Int32 → Int32 → Int32} {c_men c_consuls c_dangers c_decrees c_term : Int32} {c_kinds c_skills c_fields c_wants c_hated c_sizes c_grows c_grounds : Nat → Int32} {l_ops : Nat → Int32} {l_worksFrom l_worksTo l_keepsFrom l_keepsTo : Int32} {m_city m_kind m_skill m_fieldTold m_want m_hates m_restsOn m_sizeTold m_grows : Nat → Int32} {m_lineFrom m_lineTo m_codes : Nat → Int32} {z_kept z_keptBy z_ahead z_against z_sum z_sumBy z_term z_termBy z_byNot z_valueOf : Nat → Int32} {un_f uw_f : Nat → Int64}
theorem call_chance (hc : RC M D Q sv kv c_men c_consuls c_dangers c_decrees c_term c_kinds c_skills c_fields c_wants c_hated c_sizes c_grows c_grounds l_ops l_worksFrom l_worksTo l_keepsFrom l_keepsTo m_city m_kind m_skill m_fieldTold m_want m_hates m_restsOn m_sizeTold m_grows m_lineFrom m_lineTo m_codes) (hR : RS s_month s_power s_master s_left s_kept s_passed s_sizes s_fields s_liked m_s) (hG : GS M D s_month s_power s_master s_left s_kept s_passed s_sizes s_fields s_liked) (st : Nat → Int32) (x1 x2 x3 x4 : Int32) : (∃ (v : Int32) (st' : Nat → Int32) (nf wf : Nat → Int64) (b : Bool) (y_kept y_keptBy y_ahead y_against y_sum y_sumBy y_term y_termBy y_byNot y_valueOf : Nat → Int32), (f_X12_chance c_men c_dangers c_kinds c_skills c_wants c_grows l_ops st l_worksFrom l_worksTo l_keepsFrom l_keepsTo un_f uw_f s_sizes x1 x2 x3 x4) = some (v, st', nf, wf, b) ∧ (f_X13_chance m_city m_kind m_skill m_want m_grows m_lineFrom m_lineTo m_codes z_kept z_keptBy z_ahead z_against z_sum z_sumBy z_term z_termBy z_byNot z_valueOf m_s x1 x2 x3 x4) = some (v, 0, y_kept, y_keptBy, y_ahead, y_against, y_sum, y_sumBy, y_term, y_termBy, y_byNot, y_valueOf)) ∨ (g_X12_chance c_men c_dangers x1 x2 x3 x4 = true ∧ ∃ v, (f_X13_chance m_city m_kind m_skill m_want m_grows m_lineFrom m_lineTo m_codes z_kept z_keptBy z_ahead z_against z_sum z_sumBy z_term z_termBy z_byNot z_valueOf m_s x1 x2 x3 x4) = some (v, 1, z_kept, z_keptBy, z_ahead, z_against, z_sum, z_sumBy, z_term, z_termBy, z_byNot, z_valueOf)) := by
  obtain ⟨⟨hM, hD, hQ⟩, ⟨em, ed, eq⟩, ⟨hc0, hc1, hc2, hc3, hc4⟩, hT2, hmm, hsk, hdd, hrest⟩ := id hc
  have bad : f_X13_chance_42 m_kind m_skill m_want m_grows m_lineFrom m_lineTo m_codes z_kept z_keptBy z_ahead z_against z_sum z_sumBy z_term z_termBy z_byNot z_valueOf m_s x1 x2 x3 x4 = some (0, 1, z_kept, z_keptBy, z_ahead, z_against, z_sum, z_sumBy, z_term, z_termBy, z_byNot, z_valueOf) := by
    unfold f_X13_chance_42 f_X13_chance_43
    rw [if_pos rfl]
  rcases ix x1 M (by omega) with h | ⟨i, hi, rfl⟩
  · right
    unfold g_X12_chance f_X13_chance g_X12_chance_22
    rw [em, isMan_0 hc0 h, hasMan_0 h]
    simp only [o_bs, ↓reduceIte]
    exact ⟨trivial, _, bad⟩
  rcases ix x2 D (by omega) with h | ⟨d, hd, rfl⟩
  · right
    unfold g_X12_chance f_X13_chance g_X12_chance_22
    rw [em, ed, isMan_1 hc0 hM hi, hasMan_1 hM hi, isDanger_0 hc1 h, hasDanger_0 h]
    simp only [o_bs, ↓reduceIte, if_neg n10]
    exact ⟨trivial, _, bad⟩
  rcases wth_cases x3 0 10 with ⟨e, _⟩ | ⟨e, a1, a2⟩
  · right
    unfold g_X12_chance f_X13_chance g_X12_chance_22 g_X12_chance_54
    rw [em, ed, isMan_1 hc0 hM hi, hasMan_1 hM hi, isDanger_1 hc1 hD hd, hasDanger_1 hD hd, wth_eq, e]
    simp only [o_bs, ↓reduceIte, if_neg n10]
    exact ⟨trivial, _, bad⟩
  rcases wth_cases x4 1 12 with ⟨e', _⟩ | ⟨e', b1, b2⟩
  · right
    unfold g_X12_chance f_X13_chance g_X12_chance_22 g_X12_chance_54
    rw [em, ed, isMan_1 hc0 hM hi, hasMan_1 hM hi, isDanger_1 hc1 hD hd, hasDanger_1 hD hd, wth_eq, wth_eq, e, e']
    simp only [o_bs, ↓reduceIte, if_neg n10]
    exact ⟨trivial, _, bad⟩
  left
  obtain ⟨o, ho, rfl⟩ : ∃ o, o ≤ 10 ∧ x3 = nI o := by
    obtain ⟨j, hj, rfl⟩ := nI_of a1
    exact ⟨j, by rw [show (10 : Int32) = nI 10 from rfl, nI_ltI (by omega) (by omega)] at a2; omega, rfl⟩
  obtain ⟨m, hm1, hm, rfl⟩ : ∃ m, 1 ≤ m ∧ m ≤ 12 ∧ x4 = nI m := by
    have t1 : ((1 : Int32)).toInt = 1 := by decide
    have t00 : ((0 : Int32)).toInt = 0 := by decide
    obtain ⟨j, hj, rfl⟩ := nI_of (x := x4) (fun q => b1 (by rw [i_lt] at q ⊢; omega))
    rw [show (1 : Int32) = nI 1 from rfl, nI_ltI (by omega) (by omega)] at b1
    rw [show (12 : Int32) = nI 12 from rfl, nI_ltI (by omega) (by omega)] at b2
    exact ⟨j, by omega, by omega, rfl⟩
  have num : ∀ (x : Int32) (b : Int), 0 ≤ x.toInt ∧ x.toInt ≤ b → ∃ j : Nat, (j : Int) ≤ b ∧ x = nI j := by
    intro x b hx
    have t00 : ((0 : Int32)).toInt = 0 := by decide
    obtain ⟨j, hj, rfl⟩ := nI_of (x := x) (by rw [i_lt]; omega)
    rw [nI_toInt hj] at hx
    exact ⟨j, hx.2, rfl⟩
  obtain ⟨s0, hs0, es⟩ := num (s_sizes d) 99 (hG.2.2.2.2.1 d (by omega))
  obtain ⟨g, hg9, eg⟩ := num (c_grows d) 9 ⟨(hdd d hd).2.2.2.2.1, (hdd d hd).2.2.2.2.2⟩
  obtain ⟨nf, wf, st', b, c1⟩ := chanceToEnd_eq (un_f := un_f) (uw_f := uw_f) hc hi hd eg (by omega) ho hm (s0 := s0) (by omega) st
  obtain ⟨y_kept, y_keptBy, y_ahead, y_against, y_sum, y_sumBy, y_term, y_termBy, y_byNot, y_valueOf, c2⟩ := chanceM_eq (z_kept := z_kept) (z_keptBy := z_keptBy) (z_ahead := z_ahead) (z_against := z_against) (z_sum := z_sum) (z_sumBy := z_sumBy) (z_term := z_term) (z_termBy := z_termBy) (z_byNot := z_byNot) (z_valueOf := z_valueOf) hc hR hi hd eg (by omega) ho hm1 hm (s0 := s0) (by omega) es
  unfold f_X12_chance
  rw [em, ed, hasMan_1 hM hi, hasDanger_1 hD hd, e, e', if_neg n10, if_neg n10, if_neg n10, if_neg n10, q_ga (by omega) (by omega), es, c1]
  simp only [o_bs]
  exact ⟨_, _, _, _, _, y_kept, y_keptBy, y_ahead, y_against, y_sum, y_sumBy, y_term, y_termBy, y_byNot, y_valueOf, rfl, c2⟩
end
