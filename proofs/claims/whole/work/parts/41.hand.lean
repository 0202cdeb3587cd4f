/-! by hand -/
section
variable {s_month s_power s_master s_left s_kept s_passed : Int32} {s_sizes s_fields s_liked : Nat → Int32} {m_s : Nat → Int32} {M D Q : Nat} {sv kv : Nat → Int32 → Int32 → Int32} {c_men c_consuls c_dangers c_decrees c_term : Int32} {c_kinds c_skills c_fields c_wants c_hated c_sizes c_grows c_grounds : Nat → Int32} {l_ops : Nat → Int32} {l_worksFrom l_worksTo l_keepsFrom l_keepsTo : Int32} {m_city m_kind m_skill m_fieldTold m_want m_hates m_restsOn m_sizeTold m_grows : Nat → Int32} {m_lineFrom m_lineTo m_codes : Nat → Int32} {z_kept z_keptBy z_ahead z_against z_sum z_sumBy z_term z_termBy z_byNot z_valueOf : Nat → Int32} {h_steps h_next m_done : Int32} {hb_month hb_power hb_master hb_left hb_kept hb_passed : Nat → Int32} {hb_sizes hb_fields hb_liked : Nat → Nat → Int32} {m_undone : Nat → Int32}
theorem give_rel (hc : RC M D Q sv kv c_men c_consuls c_dangers c_decrees c_term c_kinds c_skills c_fields c_wants c_hated c_sizes c_grows c_grounds l_ops l_worksFrom l_worksTo l_keepsFrom l_keepsTo m_city m_kind m_skill m_fieldTold m_want m_hates m_restsOn m_sizeTold m_grows m_lineFrom m_lineTo m_codes) (hR : RS s_month s_power s_master s_left s_kept s_passed s_sizes s_fields s_liked m_s) (hG : GS M D s_month s_power s_master s_left s_kept s_passed s_sizes s_fields s_liked) {b : Nat} (hb : b < M) : ∃ ms', (f_X13_laysPower m_city m_s (nI b)) = some ms' ∧ RS s_month (nI b) (-1) c_term 0 0 s_sizes s_fields s_liked ms' ∧ GS M D s_month (nI b) (-1) c_term 0 0 s_sizes s_fields s_liked := by
  obtain ⟨⟨hM, hD, hQ⟩, ⟨rfl, rfl, rfl⟩, ⟨hc0, hc1, hc2, hc3, hc4⟩, hT2, _⟩ := hc
  obtain ⟨e0, e1, e2, e3, e4, e5, e6⟩ := hG
  obtain ⟨ms1, h1, hR1⟩ := goesHome_eq hR
  refine ⟨_, ?_, (hR1.power' (nI b)).left' c_term, ⟨Or.inr ⟨b, hb, rfl⟩, Or.inl rfl, Or.inl rfl, fun _ _ => hT2.1, e4, e5, e6⟩⟩
  unfold f_X13_laysPower
  rw [h1]
  simp only [o_bs, gl_1_23, gl_4_10, gl_3_23, cl_1, cl_4, cl_3, hc4]
theorem canName_in (hM : M ≤ 6) {a b : Nat} (ha : a < M) (hb : b < M) : (f_X9_canName s_power (nI M) c_consuls c_hated (nI a) (nI b)) = if s_power = -1 then (f_X1_couldName (nI M) c_consuls c_hated (nI a) (nI b)) else 0 := by
  unfold f_X9_canName
  by_cases h : s_power = -1
  · rw [if_pos h, if_pos h]
    rcases cn_z (nI M) c_consuls c_hated (nI a) (nI b) with q | q <;> rw [q] <;> rfl
  · rw [if_neg h, if_neg h]
theorem pw_lt (hG : GS M D s_month s_power s_master s_left s_kept s_passed s_sizes s_fields s_liked) (hM : M ≤ 6) : 0 ≤ s_power ↔ ¬ s_power = -1 := by
  rcases hG.1 with h | ⟨p, hp, h⟩
  · rw [h]; decide
  · rw [h]; exact ⟨fun _ => nI_m1 p (by omega), fun _ => nI_pos' (by omega)⟩
theorem pw_lt0 (hG : GS M D s_month s_power s_master s_left s_kept s_passed s_sizes s_fields s_liked) (hM : M ≤ 6) : s_power < 0 ↔ s_power = -1 := by
  rcases hG.1 with h | ⟨p, hp, h⟩
  · rw [h]; decide
  · rw [h]; exact ⟨fun q => absurd q (nI_pos (by omega)), fun q => absurd q (nI_m1 p (by omega))⟩
theorem mr_lt0 (hG : GS M D s_month s_power s_master s_left s_kept s_passed s_sizes s_fields s_liked) (hM : M ≤ 6) : s_master < 0 ↔ s_master = -1 := by
  rcases hG.2.1 with h | ⟨p, hp, h⟩
  · rw [h]; decide
  · rw [h]; exact ⟨fun q => absurd q (nI_pos (by omega)), fun q => absurd q (nI_m1 p (by omega))⟩
theorem call_name (hc : RC M D Q sv kv c_men c_consuls c_dangers c_decrees c_term c_kinds c_skills c_fields c_wants c_hated c_sizes c_grows c_grounds l_ops l_worksFrom l_worksTo l_keepsFrom l_keepsTo m_city m_kind m_skill m_fieldTold m_want m_hates m_restsOn m_sizeTold m_grows m_lineFrom m_lineTo m_codes) (hR : RS s_month s_power s_master s_left s_kept s_passed s_sizes s_fields s_liked m_s) (hG : GS M D s_month s_power s_master s_left s_kept s_passed s_sizes s_fields s_liked) (hP : RP M D h_steps h_next hb_month hb_power hb_master hb_left hb_kept hb_passed hb_sizes hb_fields hb_liked m_undone m_done) (x1 x2 : Int32) : ∃ (v tp tm tl tk ta hs hn : Int32) (g_month g_power g_master g_left g_kept g_passed : Nat → Int32) (g_sizes g_fields g_liked : Nat → Nat → Int32) (ms' und' : Nat → Int32) (dn' : Int32), (f_X12_name c_men c_consuls c_term c_hated s_month s_power s_master s_left s_kept s_passed s_sizes s_fields s_liked h_steps h_next hb_month hb_power hb_master hb_left hb_kept hb_passed hb_sizes hb_fields hb_liked x1 x2) = some (v, tp, tm, tl, tk, ta, hs, hn, g_month, g_power, g_master, g_left, g_kept, g_passed, g_sizes, g_fields, g_liked) ∧ (f_X13_name m_city m_hates m_s m_undone m_done x1 x2) = some (v, 0, ms', und', dn') ∧ RS s_month tp tm tl tk ta s_sizes s_fields s_liked ms' ∧ GS M D s_month tp tm tl tk ta s_sizes s_fields s_liked ∧ RP M D hs hn g_month g_power g_master g_left g_kept g_passed g_sizes g_fields g_liked und' dn' := by
  have hcc := hc
  obtain ⟨⟨hM, hD, hQ⟩, ⟨rfl, rfl, rfl⟩, ⟨hc0, hc1, hc2, hc3, hc4⟩, hT2, hmm, _⟩ := hc
  unfold f_X12_name f_X13_name
  have no : (f_X9_canName s_power (nI M) c_consuls c_hated x1 x2) = 0 → (f_X13_name m_city m_hates m_s m_undone m_done x1 x2) = some (0, 0, m_s, m_undone, m_done) → ∃ (v tp tm tl tk ta hs hn : Int32) (g_month g_power g_master g_left g_kept g_passed : Nat → Int32) (g_sizes g_fields g_liked : Nat → Nat → Int32) (ms' und' : Nat → Int32) (dn' : Int32), (if (f_X9_canName s_power (nI M) c_consuls c_hated x1 x2) = 0 then some (0, s_power, s_master, s_left, s_kept, s_passed, h_steps, h_next, hb_month, hb_power, hb_master, hb_left, hb_kept, hb_passed, hb_sizes, hb_fields, hb_liked) else ((f_X5_push h_steps h_next hb_month hb_power hb_master hb_left hb_kept hb_passed hb_sizes hb_fields hb_liked s_month s_power s_master s_left s_kept s_passed s_sizes s_fields s_liked)).bind fun r26 => some (1, (f_X9_give c_term x2).1, (f_X9_give c_term x2).2.1, (f_X9_give c_term x2).2.2.1, (f_X9_give c_term x2).2.2.2.1, (f_X9_give c_term x2).2.2.2.2, r26.1, r26.2.1, r26.2.2.1, r26.2.2.2.1, r26.2.2.2.2.1, r26.2.2.2.2.2.1, r26.2.2.2.2.2.2.1, r26.2.2.2.2.2.2.2.1, r26.2.2.2.2.2.2.2.2.1, r26.2.2.2.2.2.2.2.2.2.1, r26.2.2.2.2.2.2.2.2.2.2)) = some (v, tp, tm, tl, tk, ta, hs, hn, g_month, g_power, g_master, g_left, g_kept, g_passed, g_sizes, g_fields, g_liked) ∧ (f_X13_name m_city m_hates m_s m_undone m_done x1 x2) = some (v, 0, ms', und', dn') ∧ RS s_month tp tm tl tk ta s_sizes s_fields s_liked ms' ∧ GS M D s_month tp tm tl tk ta s_sizes s_fields s_liked ∧ RP M D hs hn g_month g_power g_master g_left g_kept g_passed g_sizes g_fields g_liked und' dn' := by
    intro h1 h2
    rw [if_pos h1, h2]
    exact ⟨_, _, _, _, _, _, _, _, _, _, _, _, _, _, _, _, _, _, _, _, rfl, rfl, hR, hG, hP⟩
  unfold f_X13_name at no
  rcases ix x1 M (by omega) with h | ⟨a, ha, rfl⟩
  · refine no ?_ ?_
    · unfold f_X9_canName f_X1_couldName f_X1_isConsul
      rw [hasMan_0 h]
      split <;> rfl
    · rw [isMan_0 hc0 h]; rfl
  · rcases ix x2 M (by omega) with h | ⟨b, hb', rfl⟩
    · refine no ?_ ?_
      · unfold f_X9_canName f_X1_couldName
        rw [hasMan_0 h]
        by_cases q1 : s_power = -1
        · rw [if_pos q1]
          by_cases q2 : f_X1_isConsul (nI M) c_consuls (nI a) = 0
          · rw [if_pos q2]; rfl
          · rw [if_neg q2]; rfl
        · rw [if_neg q1]
      · rw [isMan_1 hc0 hM ha, isMan_0 hc0 h]; rfl
    · rw [canName_in hM ha hb'] at no ⊢
      rw [isMan_1 hc0 hM ha, isMan_1 hc0 hM hb', could_eq hM hc3 ha hb' (hmm a ha).2.2.2.2] at no ⊢
      simp only [o_bs, if_neg n10, gl_1_23, cl_1, hR.2.1, pw_lt hG hM] at no ⊢
      by_cases h1 : s_power = -1
      · have h1' : ¬ ¬ s_power = -1 := fun q => q h1
        simp only [if_pos h1, if_neg h1'] at no ⊢
        by_cases h2 : (f_X1_couldName (nI M) c_consuls c_hated (nI a) (nI b)) = 0
        · simp only [if_pos h2] at no ⊢
          exact no h2 trivial
        · obtain ⟨hs, hn, g_month, g_power, g_master, g_left, g_kept, g_passed, g_sizes, g_fields, g_liked, und', dn', p1, p2, p3⟩ := push_rel hP hR hG
          obtain ⟨ms', l1, l2, l3⟩ := give_rel hcc hR hG hb'
          simp only [if_neg h2, p1, p2, o_bs, l1]
          exact ⟨_, _, _, _, _, _, _, _, _, _, _, _, _, _, _, _, _, _, _, _, rfl, rfl, l2, l3, p3⟩
      · simp only [if_neg h1, if_pos h1] at no ⊢
        exact no trivial trivial
theorem call_master (hc : RC M D Q sv kv c_men c_consuls c_dangers c_decrees c_term c_kinds c_skills c_fields c_wants c_hated c_sizes c_grows c_grounds l_ops l_worksFrom l_worksTo l_keepsFrom l_keepsTo m_city m_kind m_skill m_fieldTold m_want m_hates m_restsOn m_sizeTold m_grows m_lineFrom m_lineTo m_codes) (hR : RS s_month s_power s_master s_left s_kept s_passed s_sizes s_fields s_liked m_s) (hG : GS M D s_month s_power s_master s_left s_kept s_passed s_sizes s_fields s_liked) (hP : RP M D h_steps h_next hb_month hb_power hb_master hb_left hb_kept hb_passed hb_sizes hb_fields hb_liked m_undone m_done) (x1 : Int32) : ∃ (v tm hs hn : Int32) (g_month g_power g_master g_left g_kept g_passed : Nat → Int32) (g_sizes g_fields g_liked : Nat → Nat → Int32) (ms' und' : Nat → Int32) (dn' : Int32), (f_X12_master c_men c_consuls s_month s_power s_master s_left s_kept s_passed s_sizes s_fields s_liked h_steps h_next hb_month hb_power hb_master hb_left hb_kept hb_passed hb_sizes hb_fields hb_liked x1) = some (v, tm, hs, hn, g_month, g_power, g_master, g_left, g_kept, g_passed, g_sizes, g_fields, g_liked) ∧ (f_X13_master m_city m_s m_undone m_done x1) = some (v, 0, ms', und', dn') ∧ RS s_month s_power tm s_left s_kept s_passed s_sizes s_fields s_liked ms' ∧ GS M D s_month s_power tm s_left s_kept s_passed s_sizes s_fields s_liked ∧ RP M D hs hn g_month g_power g_master g_left g_kept g_passed g_sizes g_fields g_liked und' dn' := by
  obtain ⟨⟨hM, hD, hQ⟩, ⟨rfl, rfl, rfl⟩, ⟨hc0, hc1, hc2, hc3, hc4⟩, hT2, hmm, _⟩ := hc
  have same : ∃ (v tm hs hn : Int32) (g_month g_power g_master g_left g_kept g_passed : Nat → Int32) (g_sizes g_fields g_liked : Nat → Nat → Int32) (ms' und' : Nat → Int32) (dn' : Int32), some ((0 : Int32), s_master, h_steps, h_next, hb_month, hb_power, hb_master, hb_left, hb_kept, hb_passed, hb_sizes, hb_fields, hb_liked) = some (v, tm, hs, hn, g_month, g_power, g_master, g_left, g_kept, g_passed, g_sizes, g_fields, g_liked) ∧ some ((0 : Int32), (0 : Int32), m_s, m_undone, m_done) = some (v, 0, ms', und', dn') ∧ RS s_month s_power tm s_left s_kept s_passed s_sizes s_fields s_liked ms' ∧ GS M D s_month s_power tm s_left s_kept s_passed s_sizes s_fields s_liked ∧ RP M D hs hn g_month g_power g_master g_left g_kept g_passed g_sizes g_fields g_liked und' dn' :=
    ⟨_, _, _, _, _, _, _, _, _, _, _, _, _, _, _, _, rfl, rfl, hR, hG, hP⟩
  unfold f_X12_master f_X13_master f_X9_canMaster f_X13_canBeMaster
  simp only [gl_1_23, gl_2_23, cl_1, cl_2, hR.2.1, hR.2.2.1]
  rcases ix x1 M (by omega) with h | ⟨a, ha, rfl⟩
  · rw [isMan_0 hc0 h, hasMan_0 h, o_bs, if_pos rfl, if_pos (show (0 : Int32) = 0 from rfl)]
    by_cases q1 : s_power = -1
    · rw [if_pos q1, if_pos rfl]; exact same
    · rw [if_neg q1, if_pos rfl]; exact same
  · simp only [isMan_1 hc0 hM ha, hasMan_1 hM ha, isConsul_eq hM hc3 ha, o_bs, if_neg n10]
    by_cases q1 : s_power = -1
    · have q1' := (pw_lt0 hG hM).mpr q1
      simp only [if_pos q1, if_pos q1', o_bs, if_pos e00]; exact same
    · have q1' : ¬ s_power < 0 := fun q => q1 ((pw_lt0 hG hM).mp q)
      simp only [if_neg q1, if_neg q1']
      by_cases q2 : nI a = s_power
      · have q2' := q2.symm
        simp only [if_pos q2, if_pos q2', o_bs, if_pos e00]; exact same
      · have q2' : ¬ s_power = nI a := fun q => q2 q.symm
        simp only [if_neg q2, if_neg q2', o_bs]
        by_cases q3 : nI a = s_master
        · have q3' := q3.symm
          simp only [if_pos q3, if_pos q3']
          rcases zb_X1_isConsul (nI M) c_consuls (nI a) with q4 | q4
          · simp only [q4, if_pos e00, o_bs, if_neg n10]; exact same
          · simp only [q4, if_pos e00, o_bs, if_neg n10]; exact same
        · have q3' : ¬ s_master = nI a := fun q => q3 q.symm
          simp only [if_neg q3, if_neg q3']
          rcases zb_X1_isConsul (nI M) c_consuls (nI a) with q4 | q4
          · obtain ⟨hs, hn, g_month, g_power, g_master, g_left, g_kept, g_passed, g_sizes, g_fields, g_liked, und', dn', p1, p2, p3⟩ := push_rel hP hR hG
            simp only [q4, if_pos e00, if_neg n10, o_bs, p1, p2]
            refine ⟨_, _, _, _, _, _, _, _, _, _, _, _, _, _, _, _, rfl, rfl, hR.master' _, ?_, p3⟩
            obtain ⟨e0, e1, e2, e3, e4, e5, e6⟩ := hG
            exact ⟨e0, Or.inr ⟨a, ha, rfl⟩, e2, e3, e4, e5, e6⟩
          · simp only [q4, if_pos e00, if_neg n10, o_bs]; exact same
theorem call_month (hc : RC M D Q sv kv c_men c_consuls c_dangers c_decrees c_term c_kinds c_skills c_fields c_wants c_hated c_sizes c_grows c_grounds l_ops l_worksFrom l_worksTo l_keepsFrom l_keepsTo m_city m_kind m_skill m_fieldTold m_want m_hates m_restsOn m_sizeTold m_grows m_lineFrom m_lineTo m_codes) (hR : RS s_month s_power s_master s_left s_kept s_passed s_sizes s_fields s_liked m_s) (hG : GS M D s_month s_power s_master s_left s_kept s_passed s_sizes s_fields s_liked) (hP : RP M D h_steps h_next hb_month hb_power hb_master hb_left hb_kept hb_passed hb_sizes hb_fields hb_liked m_undone m_done) (x1 : Int32) (st : Nat → Int32) : ∃ (v : Int32) (st' : Nat → Int32) (t_month t_power t_master t_left t_kept t_passed : Int32) (t_sizes t_fields t_liked : Nat → Int32) (hs hn : Int32) (g_month g_power g_master g_left g_kept g_passed : Nat → Int32) (g_sizes g_fields g_liked : Nat → Nat → Int32), (f_X12_month c_dangers c_kinds c_skills c_wants c_grows l_ops st l_worksFrom l_worksTo l_keepsFrom l_keepsTo s_month s_power s_master s_left s_kept s_passed s_sizes s_fields s_liked h_steps h_next hb_month hb_power hb_master hb_left hb_kept hb_passed hb_sizes hb_fields hb_liked x1) = some (v, st', t_month, t_power, t_master, t_left, t_kept, t_passed, t_sizes, t_fields, t_liked, hs, hn, g_month, g_power, g_master, g_left, g_kept, g_passed, g_sizes, g_fields, g_liked) ∧ ∃ (y_kept y_keptBy y_ahead y_against y_sum y_sumBy y_term y_termBy y_byNot y_valueOf : Nat → Int32) (ms' und' : Nat → Int32) (dn' : Int32), (f_X13_month m_city m_kind m_skill m_want m_grows m_lineFrom m_lineTo m_codes z_kept z_keptBy z_ahead z_against z_sum z_sumBy z_term z_termBy z_byNot z_valueOf m_s m_undone m_done x1) = some (v, 0, y_kept, y_keptBy, y_ahead, y_against, y_sum, y_sumBy, y_term, y_termBy, y_byNot, y_valueOf, ms', und', dn') ∧ RS t_month t_power t_master t_left t_kept t_passed t_sizes t_fields t_liked ms' ∧ GS M D t_month t_power t_master t_left t_kept t_passed t_sizes t_fields t_liked ∧ RP M D hs hn g_month g_power g_master g_left g_kept g_passed g_sizes g_fields g_liked und' dn' := by
  have hcc := hc
  obtain ⟨⟨hM, hD, hQ⟩, ⟨rfl, rfl, rfl⟩, ⟨hc0, hc1, hc2, hc3, hc4⟩, hT2, hmm, _⟩ := hc
  unfold f_X12_month f_X13_month
  rcases ix x1 D (by omega) with h | ⟨d, hd, rfl⟩
  · rw [isDanger_0 hc1 h, hasDanger_0 h, o_bs, if_pos rfl, if_pos rfl]
    exact ⟨_, _, _, _, _, _, _, _, _, _, _, _, _, _, _, _, _, _, _, _, _, _, rfl, z_kept, z_keptBy, z_ahead, z_against, z_sum, z_sumBy, z_term, z_termBy, z_byNot, z_valueOf, _, _, _, rfl, hR, hG, hP⟩
  · rw [isDanger_1 hc1 hD hd, hasDanger_1 hD hd, o_bs, if_neg n10, if_neg n10]
    obtain ⟨hs, hn, g_month, g_power, g_master, g_left, g_kept, g_passed, g_sizes, g_fields, g_liked, und', dn', p1, p2, p3⟩ := push_rel hP hR hG
    obtain ⟨r, t_month, t_power, t_master, t_left, t_kept, t_passed, t_sizes, t_fields, t_liked, st', q1, ⟨y_kept, y_keptBy, y_ahead, y_against, y_sum, y_sumBy, y_term, y_termBy, y_byNot, y_valueOf, ms', q2, q3⟩, q4, _⟩ := pm_rel (z_kept := z_kept) (z_keptBy := z_keptBy) (z_ahead := z_ahead) (z_against := z_against) (z_sum := z_sum) (z_sumBy := z_sumBy) (z_term := z_term) (z_termBy := z_termBy) (z_byNot := z_byNot) (z_valueOf := z_valueOf) hcc hR hG hd (o := -1) (Or.inl rfl) st
    rw [p1, p2, o_bs, o_bs, q1, q2, o_bs, o_bs]
    exact ⟨_, _, _, _, _, _, _, _, _, _, _, _, _, _, _, _, _, _, _, _, _, _, rfl, y_kept, y_keptBy, y_ahead, y_against, y_sum, y_sumBy, y_term, y_termBy, y_byNot, y_valueOf, _, _, _, rfl, q3, q4, p3⟩
theorem call_disobey (hc : RC M D Q sv kv c_men c_consuls c_dangers c_decrees c_term c_kinds c_skills c_fields c_wants c_hated c_sizes c_grows c_grounds l_ops l_worksFrom l_worksTo l_keepsFrom l_keepsTo m_city m_kind m_skill m_fieldTold m_want m_hates m_restsOn m_sizeTold m_grows m_lineFrom m_lineTo m_codes) (hR : RS s_month s_power s_master s_left s_kept s_passed s_sizes s_fields s_liked m_s) (hG : GS M D s_month s_power s_master s_left s_kept s_passed s_sizes s_fields s_liked) (hP : RP M D h_steps h_next hb_month hb_power hb_master hb_left hb_kept hb_passed hb_sizes hb_fields hb_liked m_undone m_done) (x1 x2 : Int32) (st : Nat → Int32) : ∃ (v : Int32) (st' : Nat → Int32) (t_month t_power t_master t_left t_kept t_passed : Int32) (t_sizes t_fields t_liked : Nat → Int32) (hs hn : Int32) (g_month g_power g_master g_left g_kept g_passed : Nat → Int32) (g_sizes g_fields g_liked : Nat → Nat → Int32), (f_X12_disobey c_dangers c_kinds c_skills c_wants c_grows l_ops st l_worksFrom l_worksTo l_keepsFrom l_keepsTo s_month s_power s_master s_left s_kept s_passed s_sizes s_fields s_liked h_steps h_next hb_month hb_power hb_master hb_left hb_kept hb_passed hb_sizes hb_fields hb_liked x1 x2) = some (v, st', t_month, t_power, t_master, t_left, t_kept, t_passed, t_sizes, t_fields, t_liked, hs, hn, g_month, g_power, g_master, g_left, g_kept, g_passed, g_sizes, g_fields, g_liked) ∧ ∃ (y_kept y_keptBy y_ahead y_against y_sum y_sumBy y_term y_termBy y_byNot y_valueOf : Nat → Int32) (ms' und' : Nat → Int32) (dn' : Int32), (f_X13_disobey m_city m_kind m_skill m_want m_grows m_lineFrom m_lineTo m_codes z_kept z_keptBy z_ahead z_against z_sum z_sumBy z_term z_termBy z_byNot z_valueOf m_s m_undone m_done x1 x2) = some (v, 0, y_kept, y_keptBy, y_ahead, y_against, y_sum, y_sumBy, y_term, y_termBy, y_byNot, y_valueOf, ms', und', dn') ∧ RS t_month t_power t_master t_left t_kept t_passed t_sizes t_fields t_liked ms' ∧ GS M D t_month t_power t_master t_left t_kept t_passed t_sizes t_fields t_liked ∧ RP M D hs hn g_month g_power g_master g_left g_kept g_passed g_sizes g_fields g_liked und' dn' := by
  have hcc := hc
  obtain ⟨⟨hM, hD, hQ⟩, ⟨rfl, rfl, rfl⟩, ⟨hc0, hc1, hc2, hc3, hc4⟩, hT2, hmm, _⟩ := hc
  have same : ∃ (v : Int32) (st' : Nat → Int32) (t_month t_power t_master t_left t_kept t_passed : Int32) (t_sizes t_fields t_liked : Nat → Int32) (hs hn : Int32) (g_month g_power g_master g_left g_kept g_passed : Nat → Int32) (g_sizes g_fields g_liked : Nat → Nat → Int32), some ((-1 : Int32), st, s_month, s_power, s_master, s_left, s_kept, s_passed, s_sizes, s_fields, s_liked, h_steps, h_next, hb_month, hb_power, hb_master, hb_left, hb_kept, hb_passed, hb_sizes, hb_fields, hb_liked) = some (v, st', t_month, t_power, t_master, t_left, t_kept, t_passed, t_sizes, t_fields, t_liked, hs, hn, g_month, g_power, g_master, g_left, g_kept, g_passed, g_sizes, g_fields, g_liked) ∧ ∃ (y_kept y_keptBy y_ahead y_against y_sum y_sumBy y_term y_termBy y_byNot y_valueOf : Nat → Int32) (ms' und' : Nat → Int32) (dn' : Int32), some ((-1 : Int32), (0 : Int32), z_kept, z_keptBy, z_ahead, z_against, z_sum, z_sumBy, z_term, z_termBy, z_byNot, z_valueOf, m_s, m_undone, m_done) = some (v, 0, y_kept, y_keptBy, y_ahead, y_against, y_sum, y_sumBy, y_term, y_termBy, y_byNot, y_valueOf, ms', und', dn') ∧ RS t_month t_power t_master t_left t_kept t_passed t_sizes t_fields t_liked ms' ∧ GS M D t_month t_power t_master t_left t_kept t_passed t_sizes t_fields t_liked ∧ RP M D hs hn g_month g_power g_master g_left g_kept g_passed g_sizes g_fields g_liked und' dn' :=
    ⟨_, _, _, _, _, _, _, _, _, _, _, _, _, _, _, _, _, _, _, _, _, _, rfl, z_kept, z_keptBy, z_ahead, z_against, z_sum, z_sumBy, z_term, z_termBy, z_byNot, z_valueOf, _, _, _, rfl, hR, hG, hP⟩
  unfold f_X12_disobey f_X13_disobey f_X9_canDisobey f_X13_canDisobey
  simp only [gl_1_23, gl_2_23, cl_1, cl_2, hR.2.1, hR.2.2.1, pw_lt0 hG hM, mr_lt0 hG hM]
  rcases ix x1 D (by omega) with h | ⟨d, hd, rfl⟩
  · simp only [isDanger_0 hc1 h, hasDanger_0 h, o_bs, ↓reduceIte, ite_self]; exact same
  · simp only [isDanger_1 hc1 hD hd, hasDanger_1 hD hd, o_bs, if_neg n10]
    rcases ix x2 D (by omega) with h | ⟨e, he, rfl⟩
    · simp only [isDanger_0 hc1 h, hasDanger_0 h, o_bs, ↓reduceIte, ite_self]; exact same
    · simp only [isDanger_1 hc1 hD he, hasDanger_1 hD he, o_bs, if_neg n10]
      by_cases h1 : nI d = nI e
      · simp only [if_pos h1, ite_self, ↓reduceIte]; exact same
      · simp only [if_neg h1]
        by_cases h2 : s_power = -1
        · simp only [if_pos h2, if_pos e00, o_bs]; exact same
        · simp only [if_neg h2]
          by_cases h3 : s_master = -1
          · simp only [if_pos h3, if_pos e00, o_bs]; exact same
          · simp only [if_neg h3, if_neg n10, o_bs]
            obtain ⟨hs, hn, g_month, g_power, g_master, g_left, g_kept, g_passed, g_sizes, g_fields, g_liked, und', dn', p1, p2, p3⟩ := push_rel hP hR hG
            obtain ⟨r, t_month, t_power, t_master, t_left, t_kept, t_passed, t_sizes, t_fields, t_liked, st', q1, ⟨y_kept, y_keptBy, y_ahead, y_against, y_sum, y_sumBy, y_term, y_termBy, y_byNot, y_valueOf, ms', q2, q3⟩, q4, _⟩ := pm_rel (z_kept := z_kept) (z_keptBy := z_keptBy) (z_ahead := z_ahead) (z_against := z_against) (z_sum := z_sum) (z_sumBy := z_sumBy) (z_term := z_term) (z_termBy := z_termBy) (z_byNot := z_byNot) (z_valueOf := z_valueOf) hcc hR hG hd (o := nI e) (Or.inr ⟨e, he, fun q => h1 (by rw [q]), rfl, h2, h3⟩) st
            simp only [p1, p2, o_bs, q1, q2]
            exact ⟨_, _, _, _, _, _, _, _, _, _, _, _, _, _, _, _, _, _, _, _, _, _, rfl, y_kept, y_keptBy, y_ahead, y_against, y_sum, y_sumBy, y_term, y_termBy, y_byNot, y_valueOf, _, _, _, rfl, q3, q4, p3⟩
theorem laysDown_rel (hM : M ≤ 6) (hR : RS s_month s_power s_master s_left s_kept s_passed s_sizes s_fields s_liked m_s) (hG : GS M D s_month s_power s_master s_left s_kept s_passed s_sizes s_fields s_liked) (hp : ¬ s_power = -1) : ∃ (lk ms' : Nat → Int32), (f_X9_layDown s_power s_left s_liked) = (s_left, -1, -1, 0, 0, 0, lk) ∧ (f_X13_laysDown m_s) = some (s_left, ms') ∧ RS s_month (-1) (-1) 0 0 0 s_sizes s_fields lk ms' ∧ GS M D s_month (-1) (-1) 0 0 0 s_sizes s_fields lk := by
  obtain ⟨e0, e1, e2, e3, e4, e5, e6⟩ := hG
  rcases e0 with h | ⟨p, hpM, rfl⟩
  · exact absurd h hp
  · obtain ⟨ms1, l1, l2⟩ := likes_eq (x := s_left) hR (show p < 6 by omega)
    obtain ⟨ms2, g1, g2⟩ := goesHome_eq l2
    refine ⟨_, ms2, ?_, ?_, g2, ⟨Or.inl rfl, Or.inl rfl, Or.inl rfl, fun h => absurd rfl h, e4, e5, e6⟩⟩
    · unfold f_X9_layDown f_X9_release
      rw [like_eq (by omega)]
    · unfold f_X13_laysDown
      simp only [gl_1_23, gl_3_23, cl_1, cl_3, hR.2.1, hR.2.2.2.1]
      rw [l1, o_bs, g1, o_bs]
theorem call_lay (hM : M ≤ 6) (hR : RS s_month s_power s_master s_left s_kept s_passed s_sizes s_fields s_liked m_s) (hG : GS M D s_month s_power s_master s_left s_kept s_passed s_sizes s_fields s_liked) (hP : RP M D h_steps h_next hb_month hb_power hb_master hb_left hb_kept hb_passed hb_sizes hb_fields hb_liked m_undone m_done) : ∃ (v tp tm tl tk ta : Int32) (lk : Nat → Int32) (hs hn : Int32) (g_month g_power g_master g_left g_kept g_passed : Nat → Int32) (g_sizes g_fields g_liked : Nat → Nat → Int32) (ms' und' : Nat → Int32) (dn' : Int32), (f_X12_lay s_month s_power s_master s_left s_kept s_passed s_sizes s_fields s_liked h_steps h_next hb_month hb_power hb_master hb_left hb_kept hb_passed hb_sizes hb_fields hb_liked) = some (v, tp, tm, tl, tk, ta, lk, hs, hn, g_month, g_power, g_master, g_left, g_kept, g_passed, g_sizes, g_fields, g_liked) ∧ (f_X13_lay m_s m_undone m_done) = some (v, 0, ms', und', dn') ∧ RS s_month tp tm tl tk ta s_sizes s_fields lk ms' ∧ GS M D s_month tp tm tl tk ta s_sizes s_fields lk ∧ RP M D hs hn g_month g_power g_master g_left g_kept g_passed g_sizes g_fields g_liked und' dn' := by
  have same : ∃ (v tp tm tl tk ta : Int32) (lk : Nat → Int32) (hs hn : Int32) (g_month g_power g_master g_left g_kept g_passed : Nat → Int32) (g_sizes g_fields g_liked : Nat → Nat → Int32) (ms' und' : Nat → Int32) (dn' : Int32), some ((-1 : Int32), s_power, s_master, s_left, s_kept, s_passed, s_liked, h_steps, h_next, hb_month, hb_power, hb_master, hb_left, hb_kept, hb_passed, hb_sizes, hb_fields, hb_liked) = some (v, tp, tm, tl, tk, ta, lk, hs, hn, g_month, g_power, g_master, g_left, g_kept, g_passed, g_sizes, g_fields, g_liked) ∧ some ((-1 : Int32), (0 : Int32), m_s, m_undone, m_done) = some (v, 0, ms', und', dn') ∧ RS s_month tp tm tl tk ta s_sizes s_fields lk ms' ∧ GS M D s_month tp tm tl tk ta s_sizes s_fields lk ∧ RP M D hs hn g_month g_power g_master g_left g_kept g_passed g_sizes g_fields g_liked und' dn' :=
    ⟨_, _, _, _, _, _, _, _, _, _, _, _, _, _, _, _, _, _, _, _, _, rfl, rfl, hR, hG, hP⟩
  unfold f_X12_lay f_X13_lay f_X9_canLay f_X13_canLay
  simp only [gl_1_23, gl_4_23, cl_1, cl_4, hR.2.1, hR.2.2.2.2.1, pw_lt0 hG hM]
  by_cases h1 : s_power = -1
  · rw [if_pos h1, if_pos h1, if_pos rfl, o_bs, if_pos rfl]; exact same
  · rw [if_neg h1, if_neg h1]
    by_cases h2 : s_kept = 0
    · rw [if_pos h2, if_pos h2, if_neg n10, o_bs, if_neg n10]
      obtain ⟨hs, hn, g_month, g_power, g_master, g_left, g_kept, g_passed, g_sizes, g_fields, g_liked, und', dn', p1, p2, p3⟩ := push_rel hP hR hG
      obtain ⟨lk, ms', l1, l2, l3, l4⟩ := laysDown_rel hM hR hG h1
      rw [p1, p2, o_bs, o_bs, l1, l2, o_bs]
      exact ⟨_, _, _, _, _, _, _, _, _, _, _, _, _, _, _, _, _, _, _, _, _, rfl, rfl, l3, l4, p3⟩
    · rw [if_neg h2, if_neg h2, if_pos rfl, o_bs, if_pos rfl]; exact same
end
