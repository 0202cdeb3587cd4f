/-! ages -/
def nx (G : Nat) : Nat := (G * 1103515245 + 12345) % 2147483648
theorem nx_lt (G : Nat) : nx G < 2147483648 := Nat.mod_lt _ (by decide)
theorem drawnNext_eq {G : Nat} (hG : G < 2147483648) : f_X2_drawnNext (lN G) = lN (nx G) := by
  unfold f_X2_drawnNext nx
  have e1 : lN G * (1103515245 : Int64) = lN (G * 1103515245) := lN_mul G 1103515245
  have e2 : lN (G * 1103515245) + (12345 : Int64) = lN (G * 1103515245 + 12345) := lN_add _ 12345
  rw [e1, e2]
  exact pk_lRem (a := G * 1103515245 + 12345) (b := 2147483648) (by omega) (by decide) (by decide)
theorem below_eq {G n : Nat} (hG : G < 2147483648) (h0 : 0 < n) (hn : n ≤ 6) : ((lN G / (65536 : Int64)) - (lN G / (65536 : Int64)) / ((nI n).toInt64) * ((nI n).toInt64)).toInt32 = nI (G / 65536 % n) := by
  have e1 : lN G / (65536 : Int64) = lN (G / 65536) := pk_lDiv (a := G) (b := 65536) (by omega) (by decide) (by decide)
  rw [e1, nI_l (by omega), pk_lRem (a := G / 65536) (b := n) (by omega) h0 (by omega), lN_i]
theorem nz_eq {n : Nat} (h0 : 0 < n) (hn : n ≤ 6) : ¬ (nI n).toInt64 = 0 := by
  rw [nI_l (by omega), show (0 : Int64) = lN 0 from rfl, pk_lEQ (by omega) (by decide)]
  omega
theorem drawnBelow_eq {G n : Nat} (hG : G < 2147483648) (h0 : 0 < n) (hn : n ≤ 6) : f_X2_drawnBelow (lN G) (nI n) = some (nI (G / 65536 % n)) := by
  unfold f_X2_drawnBelow ngl
  rw [if_pos (by rw [show (0 : Int32) = nI 0 from rfl, nI_ltI (by omega) (by omega)]; omega), if_neg (nz_eq h0 hn), below_eq hG h0 hn]
theorem draws_eq {G n : Nat} (hG : G < 2147483648) (h0 : 0 < n) (hn : n ≤ 6) : f_X13_draws (lN G) (nI n) = some (nI (nx G / 65536 % n), lN (nx G)) := by
  have e : (lN G * (1103515245 : Int64)) + (12345 : Int64) - ((lN G * (1103515245 : Int64)) + (12345 : Int64)) / (2147483648 : Int64) * (2147483648 : Int64) = lN (nx G) := drawnNext_eq hG
  unfold f_X13_draws ngl
  rw [if_neg (nz_eq h0 hn), e, below_eq (nx_lt G) h0 hn]
section
variable {s_month s_power s_master s_left s_kept s_passed : Int32} {s_sizes s_fields s_liked : Nat → Int32} {w_month w_power w_master w_left w_kept w_passed : Int32} {w_sizes w_fields w_liked : Nat → Int32} {m_s m_aside : Nat → Int32} {m_g : Int64} {M D Q : Nat} {sv kv : Nat → Int32 → Int32 → Int32} {c_men c_consuls c_dangers c_decrees c_term : Int32} {c_kinds c_skills c_fields c_wants c_hated c_sizes c_grows c_grounds : Nat → Int32} {l_ops : Nat → Int32} {l_worksFrom l_worksTo l_keepsFrom l_keepsTo : Int32} {m_city m_kind m_skill m_fieldTold m_want m_hates m_restsOn m_sizeTold m_grows : Nat → Int32} {m_lineFrom m_lineTo m_codes : Nat → Int32} {z_kept z_keptBy z_ahead z_against z_sum z_sumBy z_term z_termBy z_byNot z_valueOf : Nat → Int32} {u_ended u_monthsKept : Int32}
theorem l94_rel (hc : RC M D Q sv kv c_men c_consuls c_dangers c_decrees c_term c_kinds c_skills c_fields c_wants c_hated c_sizes c_grows c_grounds l_ops l_worksFrom l_worksTo l_keepsFrom l_keepsTo m_city m_kind m_skill m_fieldTold m_want m_hates m_restsOn m_sizeTold m_grows m_lineFrom m_lineTo m_codes) (hR : RS s_month s_power s_master s_left s_kept s_passed s_sizes s_fields s_liked m_s) (hG : GS M D s_month s_power s_master s_left s_kept s_passed s_sizes s_fields s_liked) {G : Nat} (hg : G < 2147483648) (K : _) (x4 x7 : Int32) (st : Nat → Int32) : ∃ (r : Int32) (t_month t_power t_master t_left t_kept t_passed : Int32) (t_sizes t_fields t_liked : Nat → Int32) (st' : Nat → Int32) (G' : Nat), (f_X2_live_94 K u_ended u_monthsKept c_men c_consuls c_dangers c_term c_kinds c_skills c_wants c_hated c_grows l_ops st l_worksFrom l_worksTo l_keepsFrom l_keepsTo s_month s_power s_master s_left s_kept s_passed s_sizes s_fields s_liked x4 (lN G) x7) = (f_X2_live_132 K (u_ended + r) u_monthsKept c_men c_consuls c_dangers c_term c_kinds c_skills c_wants c_hated c_grows l_ops st' l_worksFrom l_worksTo l_keepsFrom l_keepsTo t_month t_power t_master t_left t_kept t_passed t_sizes t_fields t_liked x4 (lN G') x7) ∧ G' < 2147483648 ∧ (∃ (y_kept y_keptBy y_ahead y_against y_sum y_sumBy y_term y_termBy y_byNot y_valueOf : Nat → Int32) (ms' : Nat → Int32), (f_X13_livesMonth_54 m_city m_kind m_skill m_want m_grows m_lineFrom m_lineTo m_codes z_kept z_keptBy z_ahead z_against z_sum z_sumBy z_term z_termBy z_byNot z_valueOf m_s (lN G)) = some (r, y_kept, y_keptBy, y_ahead, y_against, y_sum, y_sumBy, y_term, y_termBy, y_byNot, y_valueOf, ms', lN G') ∧ RS t_month t_power t_master t_left t_kept t_passed t_sizes t_fields t_liked ms') ∧ GS M D t_month t_power t_master t_left t_kept t_passed t_sizes t_fields t_liked := by
  have hcc := hc
  obtain ⟨⟨hM, hD, hQ⟩, ⟨rfl, rfl, rfl⟩, ⟨hc0, hc1, hc2, hc3, hc4⟩, _⟩ := hc
  unfold f_X2_live_94 f_X13_livesMonth_54
  simp only [gl_1_10, cl_1, hc1]
  by_cases h0 : D = 0
  · subst h0
    rw [if_pos (show nI 0 ≤ 0 by decide), if_pos (show nI 0 = 0 from rfl)]
    refine ⟨0, s_month, s_power, s_master, s_left, s_kept, s_passed, s_sizes, s_fields, s_liked, st, G, ?_, hg, ⟨z_kept, z_keptBy, z_ahead, z_against, z_sum, z_sumBy, z_term, z_termBy, z_byNot, z_valueOf, m_s, rfl, hR⟩, hG⟩
    rw [Int32.add_zero]
  · rw [if_neg (nI_nle (by omega) (by omega)), if_neg (nI_ne0 (by omega) (by omega)), drawnNext_eq hg, drawnBelow_eq (nx_lt G) (by omega) (by omega), draws_eq hg (by omega) (by omega)]
    simp only [o_bs]
    obtain ⟨r, t_month, t_power, t_master, t_left, t_kept, t_passed, t_sizes, t_fields, t_liked, st', q1, ⟨y_kept, y_keptBy, y_ahead, y_against, y_sum, y_sumBy, y_term, y_termBy, y_byNot, y_valueOf, ms', q2, q3⟩, q4, _⟩ := pm_rel (z_kept := z_kept) (z_keptBy := z_keptBy) (z_ahead := z_ahead) (z_against := z_against) (z_sum := z_sum) (z_sumBy := z_sumBy) (z_term := z_term) (z_termBy := z_termBy) (z_byNot := z_byNot) (z_valueOf := z_valueOf) hcc hR hG (d := nx G / 65536 % D) (Nat.mod_lt _ (by omega)) (o := -1) (Or.inl rfl) st
    rw [q1, q2]
    simp only [o_bs]
    exact ⟨r, t_month, t_power, t_master, t_left, t_kept, t_passed, t_sizes, t_fields, t_liked, st', nx G, rfl, nx_lt G, ⟨y_kept, y_keptBy, y_ahead, y_against, y_sum, y_sumBy, y_term, y_termBy, y_byNot, y_valueOf, ms', rfl, q3⟩, q4⟩
theorem lives_rel (hc : RC M D Q sv kv c_men c_consuls c_dangers c_decrees c_term c_kinds c_skills c_fields c_wants c_hated c_sizes c_grows c_grounds l_ops l_worksFrom l_worksTo l_keepsFrom l_keepsTo m_city m_kind m_skill m_fieldTold m_want m_hates m_restsOn m_sizeTold m_grows m_lineFrom m_lineTo m_codes) (hR : RS s_month s_power s_master s_left s_kept s_passed s_sizes s_fields s_liked m_s) (hG : GS M D s_month s_power s_master s_left s_kept s_passed s_sizes s_fields s_liked) {G : Nat} (hg : G < 2147483648) (fu : Nat) {T k : Nat} (hT : T ≤ 99) (hk : k < T) (st : Nat → Int32) : ∃ (r : Int32) (t_month t_power t_master t_left t_kept t_passed : Int32) (t_sizes t_fields t_liked : Nat → Int32) (st' : Nat → Int32) (G' : Nat), (f_X2_live_17 (fu + 1) u_ended u_monthsKept c_men c_consuls c_dangers c_term c_kinds c_skills c_wants c_hated c_grows l_ops st l_worksFrom l_worksTo l_keepsFrom l_keepsTo s_month s_power s_master s_left s_kept s_passed s_sizes s_fields s_liked (nI T) (lN G) (nI k)) = (f_X2_live_132 (f_X2_live_17 fu) (u_ended + r) u_monthsKept c_men c_consuls c_dangers c_term c_kinds c_skills c_wants c_hated c_grows l_ops st' l_worksFrom l_worksTo l_keepsFrom l_keepsTo t_month t_power t_master t_left t_kept t_passed t_sizes t_fields t_liked (nI T) (lN G') (nI k)) ∧ G' < 2147483648 ∧ (∃ (y_kept y_keptBy y_ahead y_against y_sum y_sumBy y_term y_termBy y_byNot y_valueOf : Nat → Int32) (ms' : Nat → Int32), (f_X13_livesMonth m_city m_kind m_skill m_want m_hates m_grows m_lineFrom m_lineTo m_codes z_kept z_keptBy z_ahead z_against z_sum z_sumBy z_term z_termBy z_byNot z_valueOf m_s (lN G)) = some (r, y_kept, y_keptBy, y_ahead, y_against, y_sum, y_sumBy, y_term, y_termBy, y_byNot, y_valueOf, ms', lN G') ∧ RS t_month t_power t_master t_left t_kept t_passed t_sizes t_fields t_liked ms') ∧ GS M D t_month t_power t_master t_left t_kept t_passed t_sizes t_fields t_liked := by
  have hcc := hc
  obtain ⟨⟨hM, hD, hQ⟩, ⟨rfl, rfl, rfl⟩, ⟨hc0, hc1, hc2, hc3, hc4⟩, _, hmm, _⟩ := hc
  rw [f_X2_live_17.eq_2, if_neg (by rw [nI_leI (by omega) (by omega)]; omega)]
  unfold f_X13_livesMonth
  simp only [gl_1_23, cl_1, hR.2.1, gl_0_10, cl_0, hc0, pw_lt hG hM]
  by_cases h1 : s_power = -1
  · have h1' : ¬ ¬ s_power = -1 := fun q => q h1
    simp only [if_pos h1, if_neg h1']
    by_cases h0 : M = 0
    · subst h0
      have e1 : nI 0 ≤ 0 := by decide
      simp only [if_pos e1]
      exact l94_rel hcc hR hG hg _ _ _ st
    · have e1 : ¬ nI M ≤ 0 := nI_nle (by omega) (by omega)
      have g1 := nx_lt G
      have g2 := nx_lt (nx G)
      simp only [if_neg e1]
      rw [drawnNext_eq hg, drawnNext_eq g1, drawnBelow_eq g1 (by omega) hM, drawnBelow_eq g2 (by omega) hM, draws_eq hg (by omega) hM]
      simp only [o_bs]
      rw [draws_eq g1 (by omega) hM]
      simp only [o_bs]
      have ha : nx G / 65536 % M < M := Nat.mod_lt _ (by omega)
      have hb : nx (nx G) / 65536 % M < M := Nat.mod_lt _ (by omega)
      rw [canName_in hM ha hb, could_eq hM hc3 ha hb (hmm _ ha).2.2.2.2, if_pos h1]
      simp only [o_bs]
      by_cases h2 : f_X1_couldName (nI M) c_consuls c_hated (nI (nx G / 65536 % M)) (nI (nx (nx G) / 65536 % M)) = 0
      · simp only [if_pos h2]
        exact l94_rel hcc hR hG g2 _ _ _ st
      · simp only [if_neg h2]
        obtain ⟨ms1, l1, l2, l3⟩ := give_rel hcc hR hG hb
        rw [l1]
        simp only [o_bs]
        exact l94_rel hcc l2 l3 g2 _ _ _ st
  · simp only [if_neg h1, if_pos h1, not_false_eq_true, ↓reduceIte]
    exact l94_rel hcc hR hG hg _ _ _ st
theorem live_rel (hc : RC M D Q sv kv c_men c_consuls c_dangers c_decrees c_term c_kinds c_skills c_fields c_wants c_hated c_sizes c_grows c_grounds l_ops l_worksFrom l_worksTo l_keepsFrom l_keepsTo m_city m_kind m_skill m_fieldTold m_want m_hates m_restsOn m_sizeTold m_grows m_lineFrom m_lineTo m_codes) {T : Nat} (hT : T ≤ 99) {x3 : Int32} : ∀ (fu k : Nat) (e q : Int32) (st : Nat → Int32) (s_month s_power s_master s_left s_kept s_passed : Int32) (s_sizes s_fields s_liked : Nat → Int32) (ms : Nat → Int32) (z_kept z_keptBy z_ahead z_against z_sum z_sumBy z_term z_termBy z_byNot z_valueOf : Nat → Int32) (G : Nat), G < 2147483648 → RS s_month s_power s_master s_left s_kept s_passed s_sizes s_fields s_liked ms → GS M D s_month s_power s_master s_left s_kept s_passed s_sizes s_fields s_liked → k ≤ T → T < fu + k →
    ∃ (e' q' : Int32) (st' : Nat → Int32) (t_month t_power t_master t_left t_kept t_passed : Int32) (t_sizes t_fields t_liked : Nat → Int32), (f_X2_live_17 fu e q c_men c_consuls c_dangers c_term c_kinds c_skills c_wants c_hated c_grows l_ops st l_worksFrom l_worksTo l_keepsFrom l_keepsTo s_month s_power s_master s_left s_kept s_passed s_sizes s_fields s_liked (nI T) (lN G) (nI k)) = some (e', q', st', t_month, t_power, t_master, t_left, t_kept, t_passed, t_sizes, t_fields, t_liked) ∧ (∃ (y_kept y_keptBy y_ahead y_against y_sum y_sumBy y_term y_termBy y_byNot y_valueOf : Nat → Int32) (ms' : Nat → Int32) (g' : Int64), (f_X13_ages_65 fu 0 m_city m_kind m_skill m_want m_hates m_grows m_lineFrom m_lineTo m_codes z_kept z_keptBy z_ahead z_against z_sum z_sumBy z_term z_termBy z_byNot z_valueOf ms m_aside (lN G) (nI T) x3 e q (nI k)) = (f_X13_ages_103 1100 0 y_kept y_keptBy y_ahead y_against y_sum y_sumBy y_term y_termBy y_byNot y_valueOf ms' m_aside g' x3 e' q' 0 0) ∧ RS t_month t_power t_master t_left t_kept t_passed t_sizes t_fields t_liked ms') ∧ GS M D t_month t_power t_master t_left t_kept t_passed t_sizes t_fields t_liked := by
  intro fu
  induction fu with
  | zero => intro k e q st s_month s_power s_master s_left s_kept s_passed s_sizes s_fields s_liked ms z_kept z_keptBy z_ahead z_against z_sum z_sumBy z_term z_termBy z_byNot z_valueOf G _ _ _ h1 h2; omega
  | succ fu ih =>
    intro k e q st s_month s_power s_master s_left s_kept s_passed s_sizes s_fields s_liked ms z_kept z_keptBy z_ahead z_against z_sum z_sumBy z_term z_termBy z_byNot z_valueOf G hg hR hG h1 h2
    by_cases h : k < T
    · obtain ⟨r, t_month, t_power, t_master, t_left, t_kept, t_passed, t_sizes, t_fields, t_liked, st1, G', p1, hg', ⟨y_kept, y_keptBy, y_ahead, y_against, y_sum, y_sumBy, y_term, y_termBy, y_byNot, y_valueOf, ms1, p2, p3⟩, p4⟩ := lives_rel (z_kept := z_kept) (z_keptBy := z_keptBy) (z_ahead := z_ahead) (z_against := z_against) (z_sum := z_sum) (z_sumBy := z_sumBy) (z_term := z_term) (z_termBy := z_termBy) (z_byNot := z_byNot) (z_valueOf := z_valueOf) (u_ended := e) (u_monthsKept := q) hc hR hG hg fu hT h st
      rw [p1, f_X13_ages_65.eq_2, if_neg (by rw [nI_leI (by omega) (by omega)]; omega), p2]
      simp only [o_bs, gl_4_23, cl_4, p3.2.2.2.2.1]
      unfold f_X2_live_132
      rw [nI_1]
      rcases p4.2.2.1 with hk | hk
      · rw [hk] at p3 p4
        simp only [hk, ↓reduceIte, Int32.add_zero]
        exact ih (k + 1) _ _ st1 t_month t_power t_master t_left 0 t_passed t_sizes t_fields t_liked ms1 y_kept y_keptBy y_ahead y_against y_sum y_sumBy y_term y_termBy y_byNot y_valueOf G' hg' p3 p4 (by omega) (by omega)
      · rw [hk] at p3 p4
        simp only [hk, n10, ↓reduceIte]
        exact ih (k + 1) _ _ st1 t_month t_power t_master t_left 1 t_passed t_sizes t_fields t_liked ms1 y_kept y_keptBy y_ahead y_against y_sum y_sumBy y_term y_termBy y_byNot y_valueOf G' hg' p3 p4 (by omega) (by omega)
    · have hk : k = T := by omega
      subst hk
      have hle : nI k ≤ nI k := Int32.le_refl _
      refine ⟨e, q, st, s_month, s_power, s_master, s_left, s_kept, s_passed, s_sizes, s_fields, s_liked, ?_, ⟨z_kept, z_keptBy, z_ahead, z_against, z_sum, z_sumBy, z_term, z_termBy, z_byNot, z_valueOf, ms, lN G, ?_, hR⟩, hG⟩
      · rw [f_X2_live_17.eq_2, if_pos hle]
      · rw [f_X13_ages_65.eq_2, if_pos hle]
theorem ages103_eq (hR : RS s_month s_power s_master s_left s_kept s_passed s_sizes s_fields s_liked m_s) {x3 e q : Int32} : (f_X13_ages_103 1100 0 z_kept z_keptBy z_ahead z_against z_sum z_sumBy z_term z_termBy z_byNot z_valueOf m_s m_aside m_g x3 e q 0 0) = some (if x3 = 0 then e else if x3 = 1 then q else sm s_fields 6, 0, z_kept, z_keptBy, z_ahead, z_against, z_sum, z_sumBy, z_term, z_termBy, z_byNot, z_valueOf, cp23 m_aside 0 m_s 0, m_aside, m_g) := by
  have key : ∀ (fu k : Nat), k ≤ 6 → 6 < fu + k → (f_X13_ages_103 fu 0 z_kept z_keptBy z_ahead z_against z_sum z_sumBy z_term z_termBy z_byNot z_valueOf m_s m_aside m_g x3 e q (sm s_fields k) (nI k)) = some (if x3 = 0 then e else if x3 = 1 then q else sm s_fields 6, 0, z_kept, z_keptBy, z_ahead, z_against, z_sum, z_sumBy, z_term, z_termBy, z_byNot, z_valueOf, cp23 m_aside 0 m_s 0, m_aside, m_g) := by
    intro fu
    induction fu with
    | zero => intro k h1 h2; omega
    | succ fu ih =>
      intro k h1 h2
      rw [f_X13_ages_103.eq_2]
      by_cases h : k = 6
      · subst h
        have ec : f_X13_copies 23 m_aside 23 m_s 0 0 = some (cp23 m_aside 0 m_s 0) := copies_eq (a := 0) (b := 0) (by omega) (by omega) (by omega) (by omega)
        rw [if_pos (by decide), ec, o_bs]
        by_cases x0 : x3 = 0
        · rw [if_pos x0, if_pos x0]
        · rw [if_neg x0, if_neg x0]
          by_cases x1 : x3 = 1
          · rw [if_pos x1, if_pos x1]
          · rw [if_neg x1, if_neg x1]
      · rw [if_neg (by rw [show (6 : Int32) = nI 6 from rfl, nI_leI (by omega) (by omega)]; omega), qa_11, q_gd (by omega) (by omega), nI_clamp (by omega), hR.2.2.2.2.2.2.2.1 k (by omega), nI_1]
        exact ih (k + 1) (by omega) (by omega)
  exact key 1100 0 (by omega) (by omega)
theorem call_ages (hc : RC M D Q sv kv c_men c_consuls c_dangers c_decrees c_term c_kinds c_skills c_fields c_wants c_hated c_sizes c_grows c_grounds l_ops l_worksFrom l_worksTo l_keepsFrom l_keepsTo m_city m_kind m_skill m_fieldTold m_want m_hates m_restsOn m_sizeTold m_grows m_lineFrom m_lineTo m_codes) (hR : RS s_month s_power s_master s_left s_kept s_passed s_sizes s_fields s_liked m_s) (hG : GS M D s_month s_power s_master s_left s_kept s_passed s_sizes s_fields s_liked) (x1 x2 x3 : Int32) (st : Nat → Int32) : ∃ (v : Int32) (st' : Nat → Int32) (e q : Int32) (t_month t_power t_master t_left t_kept t_passed : Int32) (t_sizes t_fields t_liked : Nat → Int32), (f_X12_ages c_men c_consuls c_dangers c_term c_kinds c_skills c_wants c_hated c_grows l_ops st l_worksFrom l_worksTo l_keepsFrom l_keepsTo u_ended u_monthsKept s_month s_power s_master s_left s_kept s_passed s_sizes s_fields s_liked w_month w_power w_master w_left w_kept w_passed w_sizes w_fields w_liked x1 x2 x3) = some (v, st', e, q, t_month, t_power, t_master, t_left, t_kept, t_passed, t_sizes, t_fields, t_liked) ∧ ∃ (y_kept y_keptBy y_ahead y_against y_sum y_sumBy y_term y_termBy y_byNot y_valueOf : Nat → Int32) (ms' as' : Nat → Int32) (g' : Int64), (f_X13_ages m_city m_kind m_skill m_want m_hates m_grows m_lineFrom m_lineTo m_codes z_kept z_keptBy z_ahead z_against z_sum z_sumBy z_term z_termBy z_byNot z_valueOf m_s m_aside m_g x1 x2 x3) = some (v, 0, y_kept, y_keptBy, y_ahead, y_against, y_sum, y_sumBy, y_term, y_termBy, y_byNot, y_valueOf, ms', as', g') ∧ RS s_month s_power s_master s_left s_kept s_passed s_sizes s_fields s_liked ms' := by
  have hcc := hc
  obtain ⟨⟨hM, hD, hQ⟩, ⟨rfl, rfl, rfl⟩, ⟨hc0, hc1, hc2, hc3, hc4⟩, _⟩ := hc
  unfold f_X12_ages f_X13_ages
  simp only [wth_eq]
  rcases wth_cases x1 0 9999 with ⟨e, _⟩ | ⟨e, a1, a2⟩
  · simp only [e, ↓reduceIte]
    exact ⟨_, _, _, _, _, _, _, _, _, _, _, _, _, rfl, z_kept, z_keptBy, z_ahead, z_against, z_sum, z_sumBy, z_term, z_termBy, z_byNot, z_valueOf, _, _, _, rfl, hR⟩
  · simp only [e, n10, ↓reduceIte]
    rcases wth_cases x2 1 99 with ⟨e, _⟩ | ⟨e, b1, b2⟩
    · simp only [e, ↓reduceIte]
      exact ⟨_, _, _, _, _, _, _, _, _, _, _, _, _, rfl, z_kept, z_keptBy, z_ahead, z_against, z_sum, z_sumBy, z_term, z_termBy, z_byNot, z_valueOf, _, _, _, rfl, hR⟩
    · simp only [e, n10, ↓reduceIte]
      rcases wth_cases x3 0 2 with ⟨e, _⟩ | ⟨e, c1, c2⟩
      · simp only [e, ↓reduceIte]
        exact ⟨_, _, _, _, _, _, _, _, _, _, _, _, _, rfl, z_kept, z_keptBy, z_ahead, z_against, z_sum, z_sumBy, z_term, z_termBy, z_byNot, z_valueOf, _, _, _, rfl, hR⟩
      · simp only [e, n10, ↓reduceIte]
        obtain ⟨G, hGs, rfl⟩ := nI_of2 (M := 9999) (n := 9999) rfl a1 (by rw [i_le]; rw [i_lt] at a2; omega)
        obtain ⟨T, hT, rfl⟩ := nI_of2 (x := x2) (M := 99) (n := 99) rfl (by rw [i_lt] at b1 ⊢; have := t0; have := t1; omega) (by rw [i_le]; rw [i_lt] at b2; omega)
        have ec : f_X13_copies 23 m_s 23 m_aside 0 0 = some (cp23 m_s 0 m_aside 0) := copies_eq (a := 0) (b := 0) (by omega) (by omega) (by omega) (by omega)
        rw [ec, copy_eq hG.2.2.1, o_bs, o_bs, nI_l (by omega)]
        unfold f_X2_live
        rw [nI_l (by omega)]
        have hR1 : RS s_month s_power s_master s_left s_kept s_passed (cpr 5 s_sizes w_sizes) (cpr 6 s_fields w_fields) (cpr 6 s_liked w_liked) m_s := hR.rows (fun i hi => cpr_lt hi) (fun i hi => cpr_lt hi) (fun i hi => cpr_lt hi) (fun i hi => rfl)
        have hG1 : GS M D s_month s_power s_master s_left s_kept s_passed (cpr 5 s_sizes w_sizes) (cpr 6 s_fields w_fields) (cpr 6 s_liked w_liked) := hG.rows (fun i hi => cpr_lt hi) (fun i hi => cpr_lt hi)
        obtain ⟨e', q', st', t_month, t_power, t_master, t_left, t_kept, t_passed, t_sizes, t_fields, t_liked, r1, ⟨y_kept, y_keptBy, y_ahead, y_against, y_sum, y_sumBy, y_term, y_termBy, y_byNot, y_valueOf, ms', g', r2, r3⟩, r4⟩ := live_rel (x3 := x3) (m_aside := cp23 m_s 0 m_aside 0) hcc hT 1100 0 0 0 st s_month s_power s_master s_left s_kept s_passed (cpr 5 s_sizes w_sizes) (cpr 6 s_fields w_fields) (cpr 6 s_liked w_liked) m_s z_kept z_keptBy z_ahead z_against z_sum z_sumBy z_term z_termBy z_byNot z_valueOf G (by omega) hR1 hG1 (Nat.zero_le _) (by omega)
        have r1' : (f_X2_live_17 1100 0 0 (nI M) c_consuls (nI D) c_term c_kinds c_skills c_wants c_hated c_grows l_ops st l_worksFrom l_worksTo l_keepsFrom l_keepsTo s_month s_power s_master s_left s_kept s_passed (cpr 5 s_sizes w_sizes) (cpr 6 s_fields w_fields) (cpr 6 s_liked w_liked) (nI T) (lN G) 0) = some (e', q', st', t_month, t_power, t_master, t_left, t_kept, t_passed, t_sizes, t_fields, t_liked) := r1
        have r2' : (f_X13_ages_65 1100 0 m_city m_kind m_skill m_want m_hates m_grows m_lineFrom m_lineTo m_codes z_kept z_keptBy z_ahead z_against z_sum z_sumBy z_term z_termBy z_byNot z_valueOf m_s (cp23 m_s 0 m_aside 0) (lN G) (nI T) x3 0 0 0) = (f_X13_ages_103 1100 0 y_kept y_keptBy y_ahead y_against y_sum y_sumBy y_term y_termBy y_byNot y_valueOf ms' (cp23 m_s 0 m_aside 0) g' x3 e' q' 0 0) := r2
        rw [r1', o_bs, r2', ages103_eq r3, sum_eq (by omega) hM, o_bs, sm_zero (f := t_fields) 6 hM r4.2.2.2.2.2.2]
        have hRf : RS s_month s_power s_master s_left s_kept s_passed s_sizes s_fields s_liked (cp23 (cp23 m_s 0 m_aside 0) 0 ms' 0) := hR.row (fun i hi => by
          unfold cp23
          rw [if_pos (by omega), if_pos (by omega)]
          congr 1
          omega)
        by_cases x0 : x3 = 0
        · simp only [if_pos x0]
          exact ⟨_, _, _, _, _, _, _, _, _, _, _, _, _, rfl, y_kept, y_keptBy, y_ahead, y_against, y_sum, y_sumBy, y_term, y_termBy, y_byNot, y_valueOf, _, _, _, rfl, hRf⟩
        · simp only [if_neg x0]
          by_cases x1' : x3 = 1
          · simp only [if_pos x1']
            exact ⟨_, _, _, _, _, _, _, _, _, _, _, _, _, rfl, y_kept, y_keptBy, y_ahead, y_against, y_sum, y_sumBy, y_term, y_termBy, y_byNot, y_valueOf, _, _, _, rfl, hRf⟩
          · simp only [if_neg x1']
            exact ⟨_, _, _, _, _, _, _, _, _, _, _, _, _, rfl, y_kept, y_keptBy, y_ahead, y_against, y_sum, y_sumBy, y_term, y_termBy, y_byNot, y_valueOf, _, _, _, rfl, hRf⟩
end
