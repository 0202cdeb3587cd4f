/-! calls that ask -/
theorem wth_eq (x a b : Int32) : f_X13_within x a b = f_X12_within x a b := by rw [f_X13_within, f_X12_within]
theorem wth_cases (x a b : Int32) : (f_X12_within x a b = 0 ∧ (x < a ∨ b < x)) ∨ (f_X12_within x a b = 1 ∧ ¬ x < a ∧ ¬ b < x) := by
  unfold f_X12_within
  by_cases h1 : x < a
  · exact Or.inl ⟨if_pos h1, Or.inl h1⟩
  · by_cases h2 : b < x
    · exact Or.inl ⟨by rw [if_neg h1, if_pos h2], Or.inr h2⟩
    · exact Or.inr ⟨by rw [if_neg h1, if_neg h2], h1, h2⟩
theorem wth_0 {x a b : Int32} (h : x < a ∨ b < x) : f_X12_within x a b = 0 := by
  rcases wth_cases x a b with q | q
  · exact q.1
  · rcases h with h | h
    · exact absurd h q.2.1
    · exact absurd h q.2.2
theorem wth_1 {x a b : Int32} (h1 : ¬ x < a) (h2 : ¬ b < x) : f_X12_within x a b = 1 := by
  rcases wth_cases x a b with q | q
  · rcases q.2 with h | h
    · exact absurd h h1
    · exact absurd h h2
  · exact q.1
section
variable {s_month s_power s_master s_left s_kept s_passed : Int32} {s_sizes s_fields s_liked : Nat → Int32} {m_s : Nat → Int32} {M D Q : Nat} {sv kv : Nat → Int32 → Int32 → Int32} {c_men c_consuls c_dangers c_decrees c_term : Int32} {c_kinds c_skills c_fields c_wants c_hated c_sizes c_grows c_grounds : Nat → Int32} {l_ops : Nat → Int32} {l_worksFrom l_worksTo l_keepsFrom l_keepsTo : Int32} {m_city m_kind m_skill m_fieldTold m_want m_hates m_restsOn m_sizeTold m_grows : Nat → Int32} {m_lineFrom m_lineTo m_codes : Nat → Int32} {z_kept z_keptBy z_ahead z_against z_sum z_sumBy z_term z_termBy z_byNot z_valueOf : Nat → Int32}
theorem hasMan_0 {x : Int32} (h : x < 0 ∨ nI M ≤ x) : f_X1_hasMan (nI M) x = 0 := by
  unfold f_X1_hasMan
  by_cases h0 : x < 0
  · rw [if_pos h0]
  · rw [if_neg h0, if_pos (h.resolve_left h0)]
theorem hasDanger_0 {x : Int32} (h : x < 0 ∨ nI D ≤ x) : f_X1_hasDanger (nI D) x = 0 := hasMan_0 h
theorem hasDanger_1 {k : Nat} (hD : D ≤ 5) (h : k < D) : f_X1_hasDanger (nI D) (nI k) = 1 := hasMan_1 (by omega) h
theorem isMan_0 (hc : m_city 0 = nI M) {x : Int32} (h : x < 0 ∨ nI M ≤ x) : f_X13_isMan m_city x = some 0 := by
  unfold f_X13_isMan
  simp only [gl_0_10, cl_0, hc]
  by_cases h0 : x < 0
  · rw [if_pos h0]
  · rw [if_neg h0, if_pos (h.resolve_left h0)]
theorem isMan_1 (hc : m_city 0 = nI M) (hM : M ≤ 6) {k : Nat} (h : k < M) : f_X13_isMan m_city (nI k) = some 1 := by
  unfold f_X13_isMan
  simp only [gl_0_10, cl_0, hc]
  rw [if_neg (nI_pos (by omega)), if_neg (by rw [nI_leI (by omega) (by omega)]; omega)]
theorem isDanger_0 (hc : m_city 1 = nI D) {x : Int32} (h : x < 0 ∨ nI D ≤ x) : f_X13_isDanger m_city x = some 0 := by
  unfold f_X13_isDanger
  simp only [gl_1_10, cl_1, hc]
  by_cases h0 : x < 0
  · rw [if_pos h0]
  · rw [if_neg h0, if_pos (h.resolve_left h0)]
theorem isDanger_1 (hc : m_city 1 = nI D) (hD : D ≤ 5) {k : Nat} (h : k < D) : f_X13_isDanger m_city (nI k) = some 1 := by
  unfold f_X13_isDanger
  simp only [gl_1_10, cl_1, hc]
  rw [if_neg (nI_pos (by omega)), if_neg (by rw [nI_leI (by omega) (by omega)]; omega)]
theorem ix (x : Int32) (n : Nat) (hn : n ≤ 1000) : (x < 0 ∨ nI n ≤ x) ∨ ∃ j, j < n ∧ x = nI j := by
  rcases pk_ix x (n := n) (by omega) with h | h | h
  · exact Or.inl (Or.inl h)
  · exact Or.inl (Or.inr h)
  · exact Or.inr h
theorem isConsul_eq (hM : M ≤ 6) (hc : m_city 3 = c_consuls) {k : Nat} (hk : k < M) : f_X13_isConsul m_city (nI k) = some (f_X1_isConsul (nI M) c_consuls (nI k)) := by
  unfold f_X13_isConsul f_X1_isConsul
  rw [hasMan_1 hM hk, if_neg n10]
  simp only [gl_3_10, cl_3, hc]
  by_cases h : (c_consuls >>> (nI k &&& 31)) &&& 1 = 1
  · rw [if_pos h, if_pos h]
  · rw [if_neg h, if_neg h]
theorem call_man (hc : RC M D Q sv kv c_men c_consuls c_dangers c_decrees c_term c_kinds c_skills c_fields c_wants c_hated c_sizes c_grows c_grounds l_ops l_worksFrom l_worksTo l_keepsFrom l_keepsTo m_city m_kind m_skill m_fieldTold m_want m_hates m_restsOn m_sizeTold m_grows m_lineFrom m_lineTo m_codes) (hR : RS s_month s_power s_master s_left s_kept s_passed s_sizes s_fields s_liked m_s) (x1 x2 : Int32) : (f_X13_man m_city m_kind m_skill m_want m_s x1 x2) = some ((f_X12_man c_men c_consuls c_kinds c_skills c_wants s_fields s_liked x1 x2), 0) := by
  obtain ⟨⟨hM, hD, hQ⟩, ⟨rfl, rfl, rfl⟩, ⟨hc0, hc1, hc2, hc3, hc4⟩, hT2, hmm, hsk, hdd, hq, hsv, hkv, hCS, hCK, hMS, hMK⟩ := hc
  unfold f_X13_man f_X12_man
  rcases ix x1 M (by omega) with h | ⟨k, hk, rfl⟩
  · rw [isMan_0 hc0 h, hasMan_0 h]; rfl
  · rw [isMan_1 hc0 hM hk, hasMan_1 hM hk, isConsul_eq hM hc3 hk]
    obtain ⟨e1, e2, e3, e4, e5⟩ := hmm k hk
    simp (disch := omega) only [o_bs, if_neg n10, q_ga, q_gd, qa_11, qa_17, nI_clamp, e1, e2, e4, hR.2.2.2.2.2.2.2.1 k (by omega), hR.2.2.2.2.2.2.2.2 k (by omega), wth_eq]
    by_cases a0 : x2 = 0
    · subst a0; rfl
    · by_cases a1 : x2 = 1
      · subst a1; rfl
      · by_cases a2 : x2 = 2
        · subst a2; rfl
        · by_cases a3 : x2 = 3
          · subst a3; rfl
          · by_cases a4 : x2 = 4
            · subst a4; rfl
            · by_cases a5 : x2 = 5
              · subst a5
                rcases zb_X1_isConsul (nI M) c_consuls (nI k) with h9 | h9 <;> rw [h9] <;> rfl
              · rw [wth_0 (by
                  rw [i_lt, i_lt]; rw [i_eq] at a0 a1 a2 a3 a4 a5
                  have h0 : (0 : Int32).toInt = 0 := rfl
                  have h1 : (1 : Int32).toInt = 1 := rfl
                  have h2 : (2 : Int32).toInt = 2 := rfl
                  have h3 : (3 : Int32).toInt = 3 := rfl
                  have h4 : (4 : Int32).toInt = 4 := rfl
                  have h5 : (5 : Int32).toInt = 5 := rfl
                  omega), if_pos rfl, if_neg a0, if_neg a1, if_neg a2, if_neg a3, if_neg a4, if_neg a5]
theorem call_danger (hc : RC M D Q sv kv c_men c_consuls c_dangers c_decrees c_term c_kinds c_skills c_fields c_wants c_hated c_sizes c_grows c_grounds l_ops l_worksFrom l_worksTo l_keepsFrom l_keepsTo m_city m_kind m_skill m_fieldTold m_want m_hates m_restsOn m_sizeTold m_grows m_lineFrom m_lineTo m_codes) (hR : RS s_month s_power s_master s_left s_kept s_passed s_sizes s_fields s_liked m_s) (x1 x2 : Int32) : (f_X13_danger m_city m_sizeTold m_grows m_s x1 x2) = some ((f_X12_danger c_dangers c_sizes c_grows s_sizes x1 x2), 0) := by
  obtain ⟨⟨hM, hD, hQ⟩, ⟨rfl, rfl, rfl⟩, ⟨hc0, hc1, hc2, hc3, hc4⟩, hT2, hmm, hsk, hdd, hq, hsv, hkv, hCS, hCK, hMS, hMK⟩ := hc
  unfold f_X13_danger f_X12_danger
  rcases ix x1 D (by omega) with h | ⟨k, hk, rfl⟩
  · rw [isDanger_0 hc1 h, hasDanger_0 h]; rfl
  · rw [isDanger_1 hc1 hD hk, hasDanger_1 hD hk]
    obtain ⟨e1, e2, _⟩ := hdd k hk
    simp (disch := omega) only [o_bs, if_neg n10, q_ga, q_gd, qa_6, nI_clamp, e1, e2, hR.2.2.2.2.2.2.1 k (by omega), wth_eq]
    by_cases a0 : x2 = 0
    · subst a0; rfl
    · by_cases a1 : x2 = 1
      · subst a1; rfl
      · by_cases a2 : x2 = 2
        · subst a2; rfl
        · rw [wth_0 (by
            rw [i_lt, i_lt]; rw [i_eq] at a0 a1 a2
            have h0 : (0 : Int32).toInt = 0 := rfl
            have h1 : (1 : Int32).toInt = 1 := rfl
            have h2 : (2 : Int32).toInt = 2 := rfl
            omega), if_pos rfl, if_neg a0, if_neg a1, if_neg a2]
theorem cn_z (M0 cs : Int32) (h : Nat → Int32) (a b : Int32) : f_X1_couldName M0 cs h a b = 0 ∨ f_X1_couldName M0 cs h a b = 1 := zb_X1_couldName M0 cs h a b
theorem call_may (hc : RC M D Q sv kv c_men c_consuls c_dangers c_decrees c_term c_kinds c_skills c_fields c_wants c_hated c_sizes c_grows c_grounds l_ops l_worksFrom l_worksTo l_keepsFrom l_keepsTo m_city m_kind m_skill m_fieldTold m_want m_hates m_restsOn m_sizeTold m_grows m_lineFrom m_lineTo m_codes) (x1 x2 : Int32) : (f_X13_may m_city m_hates x1 x2) = some ((f_X12_may c_men c_consuls c_hated x1 x2), 0) := by
  obtain ⟨⟨hM, hD, hQ⟩, ⟨rfl, rfl, rfl⟩, ⟨hc0, hc1, hc2, hc3, hc4⟩, hT2, hmm, hsk, hdd, hq, hsv, hkv, hCS, hCK, hMS, hMK⟩ := hc
  unfold f_X13_may f_X12_may
  rcases ix x1 M (by omega) with h | ⟨k, hk, rfl⟩
  · rw [isMan_0 hc0 h]
    unfold f_X1_couldName f_X1_isConsul
    rw [hasMan_0 h]; rfl
  · rw [isMan_1 hc0 hM hk]
    simp only [o_bs, if_neg n10]
    rcases ix x2 M (by omega) with h | ⟨j, hj, rfl⟩
    · rw [isMan_0 hc0 h]
      unfold f_X1_couldName
      rw [hasMan_0 h]
      simp only [o_bs, if_pos]
      split <;> rfl
    · rw [isMan_1 hc0 hM hj, could_eq hM hc3 hk hj (hmm k hk).2.2.2.2]
      simp only [o_bs, if_neg n10]
      rcases cn_z (nI M) c_consuls c_hated (nI k) (nI j) with h | h <;> rw [h] <;> rfl
theorem call_soon (hc : RC M D Q sv kv c_men c_consuls c_dangers c_decrees c_term c_kinds c_skills c_fields c_wants c_hated c_sizes c_grows c_grounds l_ops l_worksFrom l_worksTo l_keepsFrom l_keepsTo m_city m_kind m_skill m_fieldTold m_want m_hates m_restsOn m_sizeTold m_grows m_lineFrom m_lineTo m_codes) (hR : RS s_month s_power s_master s_left s_kept s_passed s_sizes s_fields s_liked m_s) (hG : GS M D s_month s_power s_master s_left s_kept s_passed s_sizes s_fields s_liked) (x1 x2 : Int32) (st : Nat → Int32) : ∃ (v : Int32) (st' : Nat → Int32), (f_X12_soon c_men c_dangers c_kinds c_skills c_wants l_ops st l_worksFrom l_worksTo l_keepsFrom l_keepsTo s_sizes x1 x2) = some (v, st') ∧ ∃ (y_kept y_keptBy y_ahead y_against y_sum y_sumBy y_term y_termBy y_byNot y_valueOf : Nat → Int32), (f_X13_soon m_city m_kind m_skill m_want m_lineFrom m_lineTo m_codes z_kept z_keptBy z_ahead z_against z_sum z_sumBy z_term z_termBy z_byNot z_valueOf m_s x1 x2) = some (v, 0, y_kept, y_keptBy, y_ahead, y_against, y_sum, y_sumBy, y_term, y_termBy, y_byNot, y_valueOf) := by
  obtain ⟨⟨hM, hD, hQ⟩, ⟨rfl, rfl, rfl⟩, ⟨hc0, hc1, hc2, hc3, hc4⟩, hT2, hmm, hsk, hdd, hq, hsv, hkv, hCS, hCK, hMS, hMK⟩ := hc
  unfold f_X13_soon f_X12_soon
  rcases ix x1 M (by omega) with h | ⟨k, hk, rfl⟩
  · rw [isMan_0 hc0 h, hasMan_0 h]; exact ⟨_, _, rfl, z_kept, z_keptBy, z_ahead, z_against, z_sum, z_sumBy, z_term, z_termBy, z_byNot, z_valueOf, rfl⟩
  · rw [isMan_1 hc0 hM hk, hasMan_1 hM hk]
    rcases ix x2 D (by omega) with h | ⟨j, hj, rfl⟩
    · rw [isDanger_0 hc1 h, hasDanger_0 h]; exact ⟨_, _, rfl, z_kept, z_keptBy, z_ahead, z_against, z_sum, z_sumBy, z_term, z_termBy, z_byNot, z_valueOf, rfl⟩
    · rw [isDanger_1 hc1 hD hj, hasDanger_1 hD hj]
      simp only [o_bs, if_neg n10]
      obtain ⟨y_kept, y_keptBy, y_ahead, y_against, y_sum, y_sumBy, y_term, y_termBy, y_byNot, y_valueOf, hy⟩ := soonOf_eq (z_kept := z_kept) (z_keptBy := z_keptBy) (z_ahead := z_ahead) (z_against := z_against) (z_sum := z_sum) (z_sumBy := z_sumBy) (z_term := z_term) (z_termBy := z_termBy) (z_byNot := z_byNot) (z_valueOf := z_valueOf) hMS hR hk (show j < 5 by omega)
      obtain ⟨st', hs⟩ := mte_eq hCS hk (fun a b => hsv k a b hk) (hG.2.2.2.2.1 j (by omega)) st
      rw [hy, q_ga (by omega) (by omega), hs]
      exact ⟨_, _, rfl, y_kept, y_keptBy, y_ahead, y_against, y_sum, y_sumBy, y_term, y_termBy, y_byNot, y_valueOf, rfl⟩
theorem call_whom (hc : RC M D Q sv kv c_men c_consuls c_dangers c_decrees c_term c_kinds c_skills c_fields c_wants c_hated c_sizes c_grows c_grounds l_ops l_worksFrom l_worksTo l_keepsFrom l_keepsTo m_city m_kind m_skill m_fieldTold m_want m_hates m_restsOn m_sizeTold m_grows m_lineFrom m_lineTo m_codes) (hR : RS s_month s_power s_master s_left s_kept s_passed s_sizes s_fields s_liked m_s) (hG : GS M D s_month s_power s_master s_left s_kept s_passed s_sizes s_fields s_liked) (x1 : Int32) (st : Nat → Int32) : ∃ (v : Int32) (st' : Nat → Int32), (f_X12_whom c_men c_consuls c_dangers c_term c_kinds c_skills c_wants c_hated c_grows l_ops st l_worksFrom l_worksTo l_keepsFrom l_keepsTo s_sizes s_liked x1) = some (v, st') ∧ ∃ (y_kept y_keptBy y_ahead y_against y_sum y_sumBy y_term y_termBy y_byNot y_valueOf : Nat → Int32), (f_X13_whom m_city m_kind m_skill m_want m_hates m_grows m_lineFrom m_lineTo m_codes z_kept z_keptBy z_ahead z_against z_sum z_sumBy z_term z_termBy z_byNot z_valueOf m_s x1) = some (v, 0, y_kept, y_keptBy, y_ahead, y_against, y_sum, y_sumBy, y_term, y_termBy, y_byNot, y_valueOf) := by
  have hcc := hc
  obtain ⟨⟨hM, hD, hQ⟩, ⟨rfl, rfl, rfl⟩, ⟨hc0, hc1, hc2, hc3, hc4⟩, hT2, hmm, hsk, hdd, hq, hsv, hkv, hCS, hCK, hMS, hMK⟩ := hc
  unfold f_X13_whom f_X12_whom
  rcases ix x1 D (by omega) with h | ⟨j, hj, rfl⟩
  · rw [isDanger_0 hc1 h, hasDanger_0 h]; exact ⟨_, _, rfl, z_kept, z_keptBy, z_ahead, z_against, z_sum, z_sumBy, z_term, z_termBy, z_byNot, z_valueOf, rfl⟩
  · rw [isDanger_1 hc1 hD hj, hasDanger_1 hD hj]
    simp only [o_bs, if_neg n10, gl_4_10, cl_4, hc4]
    obtain ⟨y_kept, y_keptBy, y_ahead, y_against, y_sum, y_sumBy, y_term, y_termBy, y_byNot, y_valueOf, hy⟩ := whomFor_eq (z_kept := z_kept) (z_keptBy := z_keptBy) (z_ahead := z_ahead) (z_against := z_against) (z_sum := z_sum) (z_sumBy := z_sumBy) (z_term := z_term) (z_termBy := z_termBy) (z_byNot := z_byNot) (z_valueOf := z_valueOf) hcc hR hj (term := c_term)
    obtain ⟨st', hs⟩ := soonest_eq hcc hG hj (term := c_term) st
    rw [hy, hs]
    exact ⟨_, _, rfl, y_kept, y_keptBy, y_ahead, y_against, y_sum, y_sumBy, y_term, y_termBy, y_byNot, y_valueOf, rfl⟩
/-! terms -/
def whI (nm : Nat → Bool) (nn wk : Nat → Int32) (t : Int32) (k : Nat) (r : Int32 × Int32) : Prop :=
  (r.1 = -1 ∧ ∀ i, i < k → ¬ (nm i = true ∧ ¬ nn i < 0 ∧ ¬ t < nn i ∧ wk i = 0)) ∨
  ∃ j, j < k ∧ r.1 = nI j ∧ r.2 = nn j ∧ (nm j = true ∧ ¬ nn j < 0 ∧ ¬ t < nn j ∧ wk j = 0) ∧ ∀ i, i < k → nm i = true ∧ ¬ nn i < 0 ∧ wk i = 0 → nn j ≤ nn i
theorem whF_inv {nm : Nat → Bool} {nn wk : Nat → Int32} {t : Int32} : ∀ (f k : Nat) (b l : Int32), k + f ≤ 1000 → whI nm nn wk t k (b, l) → whI nm nn wk t (k + f) (whF nm nn wk t f k b l) := by
  intro f
  induction f with
  | zero => intro k b l _ h; exact h
  | succ f ih =>
    intro k b l hk h
    by_cases hc : nm k = true ∧ ¬ nn k < 0 ∧ ¬ t < nn k ∧ ¬ (¬ b = -1 ∧ l ≤ nn k) ∧ wk k = 0
    · rw [whF_yes hc, show k + (f + 1) = (k + 1) + f by omega]
      refine ih (k + 1) _ _ (by omega) (Or.inr ⟨k, by omega, rfl, rfl, ⟨hc.1, hc.2.1, hc.2.2.1, hc.2.2.2.2⟩, fun i hi hel => ?_⟩)
      by_cases e : i = k
      · subst e; exact Int32.le_refl _
      · rcases h with ⟨_, h⟩ | ⟨j, hj, h1, h2, h3, h4⟩
        · have := h i (by omega)
          have ht : t < nn i := by
            by_cases q : t < nn i
            · exact q
            · exact absurd ⟨hel.1, hel.2.1, q, hel.2.2⟩ this
          have h5 := hc.2.2.1
          rw [i_lt] at ht h5; rw [i_le]; omega
        · have h6 := h4 i (by omega) hel
          have h7 := hc.2.2.2.1
          have hb : ¬ b = -1 := by
            show ¬ b = -1
            rw [show b = nI j from h1]; exact nI_m1 j (by omega)
          have h8 : ¬ l ≤ nn k := fun q => h7 ⟨hb, q⟩
          rw [show l = nn j from h2] at h8
          rw [i_le] at h8 h6 ⊢; omega
    · rw [whF_no hc, show k + (f + 1) = (k + 1) + f by omega]
      refine ih (k + 1) _ _ (by omega) ?_
      rcases h with ⟨h0, h⟩ | ⟨j, hj, h1, h2, h3, h4⟩
      · refine Or.inl ⟨h0, fun i hi hel => ?_⟩
        by_cases e : i = k
        · subst e; exact hc ⟨hel.1, hel.2.1, hel.2.2.1, fun q => q.1 h0, hel.2.2.2⟩
        · exact h i (by omega) hel
      · refine Or.inr ⟨j, by omega, h1, h2, h3, fun i hi hel => ?_⟩
        by_cases e : i = k
        · subst e
          by_cases q : nn j ≤ nn i
          · exact q
          · refine absurd ⟨hel.1, hel.2.1, ?_, fun w => ?_, hel.2.2⟩ hc
            · have h5 := h3.2.2.1
              rw [i_lt] at h5 ⊢; rw [i_le] at q; omega
            · have h6 := w.2
              rw [show l = nn j from h2] at h6
              exact q h6
        · exact h4 i (by omega) hel
theorem call_terms (hc : RC M D Q sv kv c_men c_consuls c_dangers c_decrees c_term c_kinds c_skills c_fields c_wants c_hated c_sizes c_grows c_grounds l_ops l_worksFrom l_worksTo l_keepsFrom l_keepsTo m_city m_kind m_skill m_fieldTold m_want m_hates m_restsOn m_sizeTold m_grows m_lineFrom m_lineTo m_codes) (hR : RS s_month s_power s_master s_left s_kept s_passed s_sizes s_fields s_liked m_s) (hG : GS M D s_month s_power s_master s_left s_kept s_passed s_sizes s_fields s_liked) (x1 : Int32) (st : Nat → Int32) : ∃ (v : Int32) (st' : Nat → Int32), (f_X12_terms c_men c_consuls c_dangers c_kinds c_skills c_wants c_hated c_grows l_ops st l_worksFrom l_worksTo l_keepsFrom l_keepsTo s_sizes s_liked x1) = some (v, st') ∧ ∃ (y_kept y_keptBy y_ahead y_against y_sum y_sumBy y_term y_termBy y_byNot y_valueOf : Nat → Int32), (f_X13_terms m_city m_kind m_skill m_want m_hates m_grows m_lineFrom m_lineTo m_codes z_kept z_keptBy z_ahead z_against z_sum z_sumBy z_term z_termBy z_byNot z_valueOf m_s x1) = some (v, 0, y_kept, y_keptBy, y_ahead, y_against, y_sum, y_sumBy, y_term, y_termBy, y_byNot, y_valueOf) := by
  have hcc := hc
  obtain ⟨⟨hM, hD, hQ⟩, ⟨rfl, rfl, rfl⟩, ⟨hc0, hc1, hc2, hc3, hc4⟩, hT2, hmm, hsk, hdd, hq, hsv, hkv, hCS, hCK, hMS, hMK⟩ := hc
  unfold f_X13_terms f_X12_terms
  rcases ix x1 D (by omega) with h | ⟨d, hd, rfl⟩
  · rw [hasDanger_0 h, if_pos rfl, f_X13_terms_7.eq_2, if_neg (by decide), isDanger_0 hc1 h]
    exact ⟨_, _, rfl, z_kept, z_keptBy, z_ahead, z_against, z_sum, z_sumBy, z_term, z_termBy, z_byNot, z_valueOf, rfl⟩
  · rw [hasDanger_1 hD hd, if_neg n10]
    obtain ⟨st1, hs⟩ := soonest_eq hcc hG hd (term := 12) st
    rw [hs]
    simp only [o_bs]
    have inv : ∀ t, whI (fun b => anyF (fun a => cnm M c_consuls c_hated a b) M 0) (fun i => sn (sv i) 25 (s_sizes d) 0) (fun i => wkp kv c_kinds c_grows s_sizes s_liked D d (sn (sv i) 25 (s_sizes d) 0) i) t M (whV sv kv c_consuls c_kinds c_hated c_grows s_sizes s_liked M D d t M 0 (-1) 0) := by
      intro t
      have := whF_inv (nm := fun b => anyF (fun a => cnm M c_consuls c_hated a b) M 0) (nn := fun i => sn (sv i) 25 (s_sizes d) 0) (wk := fun i => wkp kv c_kinds c_grows s_sizes s_liked D d (sn (sv i) 25 (s_sizes d) 0) i) (t := t) M 0 (-1) 0 (by omega) (Or.inl ⟨rfl, fun i hi => absurd hi (by omega)⟩)
      rw [Nat.zero_add] at this
      exact this
    -- the model's loop, once one knows at which term there is one
    have key : ∀ (T : Nat) (v : Int32), (∀ t, t < T → 1 ≤ t → (whV sv kv c_consuls c_kinds c_hated c_grows s_sizes s_liked M D d (nI t) M 0 (-1) 0).1 < 0) → ((T = 13 ∧ v = -1) ∨ (T < 13 ∧ v = nI T ∧ ¬ (whV sv kv c_consuls c_kinds c_hated c_grows s_sizes s_liked M D d (nI T) M 0 (-1) 0).1 < 0)) → ∀ (fu t : Nat) (z_kept z_keptBy z_ahead z_against z_sum z_sumBy z_term z_termBy z_byNot z_valueOf : Nat → Int32), 1 ≤ t → t ≤ T → 13 < fu + t → ∃ (y_kept y_keptBy y_ahead y_against y_sum y_sumBy y_term y_termBy y_byNot y_valueOf : Nat → Int32), (f_X13_terms_7 fu 0 m_city m_kind m_skill m_want m_hates m_grows m_lineFrom m_lineTo m_codes z_kept z_keptBy z_ahead z_against z_sum z_sumBy z_term z_termBy z_byNot z_valueOf m_s (nI d) (nI t)) = some (v, 0, y_kept, y_keptBy, y_ahead, y_against, y_sum, y_sumBy, y_term, y_termBy, y_byNot, y_valueOf) := by
      intro T v hlo hT fu
      induction fu with
      | zero => intro t z_kept z_keptBy z_ahead z_against z_sum z_sumBy z_term z_termBy z_byNot z_valueOf h1 h2 h3; omega
      | succ fu ih =>
        intro t z_kept z_keptBy z_ahead z_against z_sum z_sumBy z_term z_termBy z_byNot z_valueOf h1 h2 h3
        rw [f_X13_terms_7.eq_2]
        by_cases ht : t = 13
        · subst ht
          have hv : v = -1 := by rcases hT with q | q; exact q.2; omega
          subst hv
          rw [if_pos (by decide)]
          exact ⟨z_kept, z_keptBy, z_ahead, z_against, z_sum, z_sumBy, z_term, z_termBy, z_byNot, z_valueOf, rfl⟩
        · rw [if_neg (by rw [show (13 : Int32) = nI 13 from rfl, nI_leI (by omega) (by omega)]; omega), isDanger_1 hc1 hD hd]
          simp only [o_bs, if_neg n10]
          obtain ⟨y_kept, y_keptBy, y_ahead, y_against, y_sum, y_sumBy, y_term, y_termBy, y_byNot, y_valueOf, hy⟩ := whomFor_eq (z_kept := z_kept) (z_keptBy := z_keptBy) (z_ahead := z_ahead) (z_against := z_against) (z_sum := z_sum) (z_sumBy := z_sumBy) (z_term := z_term) (z_termBy := z_termBy) (z_byNot := z_byNot) (z_valueOf := z_valueOf) hcc hR hd (term := nI t)
          rw [hy]
          simp only [o_bs]
          by_cases e : t = T
          · subst e
            rcases hT with q | ⟨_, rfl, q⟩
            · omega
            · rw [if_neg q]
              exact ⟨y_kept, y_keptBy, y_ahead, y_against, y_sum, y_sumBy, y_term, y_termBy, y_byNot, y_valueOf, rfl⟩
          · rw [if_pos (hlo t (by omega) h1), nI_1]
            exact ih (t + 1) y_kept y_keptBy y_ahead y_against y_sum y_sumBy y_term y_termBy y_byNot y_valueOf (by omega) (by omega) (by omega)
    rcases inv 12 with ⟨h1, h2⟩ | ⟨j, hj, h1, h2, h3, h4⟩
    · rw [h1, if_pos rfl]
      refine ⟨_, _, rfl, key 13 (-1) (fun t ht h9 => ?_) (Or.inl ⟨rfl, rfl⟩) 1100 1 z_kept z_keptBy z_ahead z_against z_sum z_sumBy z_term z_termBy z_byNot z_valueOf (by omega) (by omega) (by omega)⟩
      rcases inv (nI t) with ⟨h5, _⟩ | ⟨i, hi, h5, h6, h7, h8⟩
      · exact m_lt h5
      · exact absurd ⟨h7.1, h7.2.1, by
          have := h7.2.2.1
          rw [i_lt, nI_toInt (by omega)] at this
          rw [i_lt, show (12 : Int32) = nI 12 from rfl, nI_toInt (by omega)]; omega, h7.2.2.2⟩ (h2 i hi)
    · rw [h1, if_neg (nI_m1 j (by omega)), q_ga (by omega) (by omega)]
      obtain ⟨st2, hs2⟩ := mte_eq hCS hj (fun a b => hsv j a b hj) (hG.2.2.2.2.1 d (by omega)) st1
      rw [hs2]
      simp only [o_bs]
      obtain ⟨a, ha, ea⟩ : ∃ a, a ≤ 12 ∧ sn (sv j) 25 (s_sizes d) 0 = nI a := by
        rcases sn_rng (sv j) 25 (s_sizes d) 0 (by omega) with q | ⟨a, _, h9, q⟩
        · exact absurd (m_lt q) h3.2.1
        · refine ⟨a, ?_, q⟩
          have h8 : ¬ (12 : Int32) < sn (sv j) 25 (s_sizes d) 0 := h3.2.2.1
          rw [q, show (12 : Int32) = nI 12 from rfl, nI_ltI (by omega) (by omega)] at h8
          omega
      have hmx : imax 1 (sn (sv j) 25 (s_sizes d) 0) = nI (if a = 0 then 1 else a) := by
        rw [ea]
        by_cases h0 : a = 0
        · subst h0; rfl
        · rw [if_neg h0]
          by_cases h9 : a = 1
          · subst h9; rfl
          · show (if (1 : Int32) < nI a then nI a else 1) = nI a
            rw [if_pos (by rw [show (1 : Int32) = nI 1 from rfl, nI_ltI (by omega) (by omega)]; omega)]
      rw [hmx]
      refine ⟨_, _, rfl, key (if a = 0 then 1 else a) _ (fun t ht h9 => ?_) (Or.inr ⟨by split <;> omega, rfl, ?_⟩) 1100 1 z_kept z_keptBy z_ahead z_against z_sum z_sumBy z_term z_termBy z_byNot z_valueOf (by omega) (by split <;> omega) (by omega)⟩
      · rcases inv (nI t) with ⟨h5, _⟩ | ⟨i, hi, h5, h6, h7, h8⟩
        · exact m_lt h5
        · have q1 := h4 i hi ⟨h7.1, h7.2.1, h7.2.2.2⟩
          have q1 : sn (sv j) 25 (s_sizes d) 0 ≤ sn (sv i) 25 (s_sizes d) 0 := q1
          have q2 : ¬ nI t < sn (sv i) 25 (s_sizes d) 0 := h7.2.2.1
          rw [ea] at q1
          rw [i_le, nI_toInt (by omega)] at q1
          rw [i_lt, nI_toInt (by split at ht <;> omega)] at q2
          split at ht <;> omega
      · intro hlt
        rcases inv (nI (if a = 0 then 1 else a)) with ⟨_, h6⟩ | ⟨i, hi, h5, _⟩
        · refine h6 j hj ⟨h3.1, h3.2.1, ?_, h3.2.2.2⟩
          show ¬ _ < sn (sv j) 25 (s_sizes d) 0
          rw [ea, nI_ltI (by split <;> omega) (by omega)]
          split <;> omega
        · rw [h5] at hlt
          exact absurd hlt (nI_pos (by omega))
/-! waits -/
def wtF (T : Nat → Int32) (x : Int32) : Nat → Nat → Int32
  | 0, _ => -1
  | f + 1, k => if T k < x then wtF T x f (k + 1) else nI k
theorem tgF_w {h : Nat → Int32} : ∀ (f k : Nat) (a : Int32), k + f ≤ 1000 → tgF h (fun j => decide (nI j = -1)) f k a = tgF h (fun _ => false) f k a := by
  intro f
  induction f with
  | zero => intro k a _; rfl
  | succ f ih =>
    intro k a hk
    show tgF h _ f (k + 1) (if decide (nI k = -1) = true then a else a + h k) = tgF h (fun _ => false) f (k + 1) (if false = true then a else a + h k)
    rw [if_neg (by simpa using nI_m1 k (by omega)), if_neg (by decide)]
    exact ih _ _ (by omega)
theorem call_waits (hc : RC M D Q sv kv c_men c_consuls c_dangers c_decrees c_term c_kinds c_skills c_fields c_wants c_hated c_sizes c_grows c_grounds l_ops l_worksFrom l_worksTo l_keepsFrom l_keepsTo m_city m_kind m_skill m_fieldTold m_want m_hates m_restsOn m_sizeTold m_grows m_lineFrom m_lineTo m_codes) (hR : RS s_month s_power s_master s_left s_kept s_passed s_sizes s_fields s_liked m_s) (x1 : Int32) : ∃ v, (f_X12_waits c_dangers c_grows s_sizes x1) = some v ∧ (f_X13_waits m_city m_grows m_s x1) = some (v, 0) := by
  obtain ⟨⟨hM, hD, hQ⟩, ⟨rfl, rfl, rfl⟩, ⟨hc0, hc1, hc2, hc3, hc4⟩, hT2, hmm, hsk, hdd, hq, hsv, hkv, hCS, hCK, hMS, hMK⟩ := hc
  unfold f_X12_waits f_X13_waits
  rw [wth_eq]
  by_cases h : f_X12_within x1 1 495 = 0
  · rw [if_pos h, if_pos h]; exact ⟨_, rfl, rfl⟩
  · rw [if_neg h, if_neg h]
    have hC : ∀ (fu k : Nat), k ≤ 100 → 100 < fu + k → (f_X12_waits_15 fu (nI D) c_grows s_sizes x1 (nI k)) = some (wtF (fun k => tgF (gh s_sizes c_grows (nI k)) (fun _ => false) D 0 0) x1 (100 - k) k) := by
      intro fu
      induction fu with
      | zero => intro k h1 h2; omega
      | succ fu ih =>
        intro k h1 h2
        rw [f_X12_waits_15.eq_2]
        by_cases hk : k = 100
        · subst hk; rfl
        · rw [if_neg (by rw [show (99 : Int32) = nI 99 from rfl, nI_ltI (by omega) (by omega)]; omega), tgrown_eq hD, tgF_w _ _ _ (by omega), show 100 - k = (100 - (k + 1)) + 1 by omega]
          simp only [o_bs]
          rw [nI_1, ih (k + 1) (by omega) (by omega)]
          show (if tgF (gh s_sizes c_grows (nI k)) (fun _ => false) D 0 0 < x1 then _ else _) = some (if tgF (gh s_sizes c_grows (nI k)) (fun _ => false) D 0 0 < x1 then wtF _ x1 (100 - (k + 1)) (k + 1) else nI k)
          split <;> rfl
    have hMi : ∀ (K : _) (k : Nat) (fu i : Nat) (a : Int32), i ≤ D → D < fu + i → (f_X13_waits_31 K fu 0 m_city m_grows m_s x1 (nI k) a (nI i)) = if tgF (gh s_sizes c_grows (nI k)) (fun _ => false) (D - i) i a < x1 then K 0 m_city m_grows m_s x1 (nI k + 1) else some (nI k, 0) := by
      intro K k fu
      induction fu with
      | zero => intro i a h1 h2; omega
      | succ fu ih =>
        intro i a h1 h2
        rw [f_X13_waits_31.eq_2]
        simp only [gl_1_10, cl_1, hc1]
        by_cases hi : i < D
        · rw [if_neg (by rw [nI_leI (by omega) (by omega)]; omega), grownBy_eq hR (by omega) (hdd i hi).2.1, show D - i = (D - (i + 1)) + 1 by omega]
          simp only [o_bs]
          rw [nI_1, ih (i + 1) _ (by omega) (by omega)]
          rfl
        · rw [if_pos (by rw [nI_leI (by omega) (by omega)]; omega), show D - i = 0 by omega]
          rfl
    have hMo : ∀ (fu k : Nat), k ≤ 100 → 100 < fu + k → (f_X13_waits_20 fu 0 m_city m_grows m_s x1 (nI k)) = some (wtF (fun k => tgF (gh s_sizes c_grows (nI k)) (fun _ => false) D 0 0) x1 (100 - k) k, 0) := by
      intro fu
      induction fu with
      | zero => intro k h1 h2; omega
      | succ fu ih =>
        intro k h1 h2
        rw [f_X13_waits_20.eq_2]
        by_cases hk : k = 100
        · subst hk; rfl
        · rw [if_neg (by rw [show (100 : Int32) = nI 100 from rfl, nI_leI (by omega) (by omega)]; omega)]
          have e31 : (f_X13_waits_31 (f_X13_waits_20 fu) 1100 0 m_city m_grows m_s x1 (nI k) 0 0) = if tgF (gh s_sizes c_grows (nI k)) (fun _ => false) D 0 0 < x1 then f_X13_waits_20 fu 0 m_city m_grows m_s x1 (nI k + 1) else some (nI k, 0) := hMi (f_X13_waits_20 fu) k 1100 0 0 (Nat.zero_le _) (by omega)
          rw [e31, nI_1, ih (k + 1) (by omega) (by omega), show 100 - k = (100 - (k + 1)) + 1 by omega]
          show (if tgF (gh s_sizes c_grows (nI k)) (fun _ => false) D 0 0 < x1 then _ else _) = some (if tgF (gh s_sizes c_grows (nI k)) (fun _ => false) D 0 0 < x1 then wtF _ x1 (100 - (k + 1)) (k + 1) else nI k, 0)
          split <;> rfl
    exact ⟨_, hC 1100 0 (by omega) (by omega), hMo 1100 0 (by omega) (by omega)⟩
/-! decrees -/
theorem fallen_eq (hQ : Q ≤ 6) (hc2 : m_city 2 = nI Q) (hq : ∀ i, i < Q → m_restsOn i = c_grounds i) (x : Int32) : ∃ v, (f_X1_fallen (nI Q) c_grounds x) = some v ∧ (f_X13_fallen m_city m_restsOn x) = some v := by
  have key : ∀ (fu k : Nat) (x : Int32), k ≤ Q → Q < fu + k → ∃ v, (f_X1_fallen_4 fu (nI Q) c_grounds x (nI k)) = some v ∧ (f_X13_fallen_4 fu m_city m_restsOn x (nI k)) = some v := by
    intro fu
    induction fu with
    | zero => intro k x h1 h2; omega
    | succ fu ih =>
      intro k x h1 h2
      rw [f_X1_fallen_4.eq_2, f_X13_fallen_4.eq_2]
      simp only [gl_2_10, cl_2, hc2]
      by_cases h : k < Q
      · have hn : ¬ nI Q ≤ nI k := by rw [nI_leI (by omega) (by omega)]; omega
        rw [if_neg hn, if_neg hn]
        simp (disch := omega) only [q_ga, q_gd, nI_clamp, nI_1, hq k h]
        by_cases h3 : c_grounds k &&& x = 0
        · rw [if_pos h3, if_pos h3]; exact ih (k + 1) _ (by omega) (by omega)
        · rw [if_neg h3, if_neg h3]; exact ih (k + 1) _ (by omega) (by omega)
      · have hp : nI Q ≤ nI k := by rw [nI_leI (by omega) (by omega)]; omega
        rw [if_pos hp, if_pos hp]; exact ⟨_, rfl, rfl⟩
  exact key 1100 0 x (Nat.zero_le _) (by omega)
theorem areDec_eq (hc2 : m_city 2 = nI Q) (x : Int32) : f_X13_areDecrees m_city x = some (f_X1_hasDecrees (nI Q) x) := by
  unfold f_X13_areDecrees f_X1_hasDecrees
  simp only [gl_2_10, cl_2, hc2]
  by_cases h : x < 0
  · rw [if_pos h, if_pos h]
  · rw [if_neg h, if_neg h]; split <;> rfl
theorem call_falls (hc : RC M D Q sv kv c_men c_consuls c_dangers c_decrees c_term c_kinds c_skills c_fields c_wants c_hated c_sizes c_grows c_grounds l_ops l_worksFrom l_worksTo l_keepsFrom l_keepsTo m_city m_kind m_skill m_fieldTold m_want m_hates m_restsOn m_sizeTold m_grows m_lineFrom m_lineTo m_codes) (x1 : Int32) : ∃ v, (f_X12_falls c_decrees c_grounds x1) = some v ∧ (f_X13_falls m_city m_restsOn x1) = some (v, 0) := by
  obtain ⟨⟨hM, hD, hQ⟩, ⟨rfl, rfl, rfl⟩, ⟨hc0, hc1, hc2, hc3, hc4⟩, hT2, hmm, hsk, hdd, hq, hsv, hkv, hCS, hCK, hMS, hMK⟩ := hc
  unfold f_X12_falls f_X13_falls
  rw [areDec_eq hc2]
  simp only [o_bs]
  by_cases h : f_X1_hasDecrees (nI Q) x1 = 0
  · rw [if_pos h, if_pos h]; exact ⟨_, rfl, rfl⟩
  · rw [if_neg h, if_neg h]
    obtain ⟨v, h1, h2⟩ := fallen_eq hQ hc2 hq x1
    rw [h1, h2]; exact ⟨_, rfl, rfl⟩
def dIx : Nat → Int32
  | 0 => -1
  | j + 1 => nI j
theorem dIx_0 : dIx 0 = -1 := rfl
theorem dIx_s (j : Nat) : dIx (j + 1) = nI j := rfl
theorem dIx_m1 (j : Nat) : nI j + (-1) = dIx j := by
  cases j with
  | zero => rfl
  | succ j => exact pk_m1 j
end
