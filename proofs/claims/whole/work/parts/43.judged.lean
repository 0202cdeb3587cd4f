section
variable {s_month s_power s_master s_left s_kept s_passed : Int32} {s_sizes s_fields s_liked : Nat → Int32} {w_month w_power w_master w_left w_kept w_passed : Int32} {w_sizes w_fields w_liked : Nat → Int32} {j_lines : Int32} {j_kinds j_firsts j_seconds : Nat → Int32} {m_s m_aside m_lines m_lineWhat m_lineA m_lineB : Nat → Int32} {M D Q : Nat} {sv kv : Nat → Int32 → Int32 → Int32} {c_men c_consuls c_dangers c_decrees c_term : Int32} {c_kinds c_skills c_fields c_wants c_hated c_sizes c_grows c_grounds : Nat → Int32} {l_ops : Nat → Int32} {l_worksFrom l_worksTo l_keepsFrom l_keepsTo : Int32} {m_city m_kind m_skill m_fieldTold m_want m_hates m_restsOn m_sizeTold m_grows : Nat → Int32} {m_lineFrom m_lineTo m_codes : Nat → Int32} {z_kept z_keptBy z_ahead z_against z_sum z_sumBy z_term z_termBy z_byNot z_valueOf : Nat → Int32} {o_firstRefused o_firstKept : Int32}
theorem judge_rel (hc : RC M D Q sv kv c_men c_consuls c_dangers c_decrees c_term c_kinds c_skills c_fields c_wants c_hated c_sizes c_grows c_grounds l_ops l_worksFrom l_worksTo l_keepsFrom l_keepsTo m_city m_kind m_skill m_fieldTold m_want m_hates m_restsOn m_sizeTold m_grows m_lineFrom m_lineTo m_codes) (hL : RL M D 0 j_lines j_kinds j_firsts j_seconds m_lines m_lineWhat m_lineA m_lineB) {T : Nat} (hT : j_lines = nI T) (hT40 : T ≤ 40) (hl0 : m_lines 0 = nI T) {x1 : Int32} : ∀ (fu k : Nat) (b f : Int32) (st : Nat → Int32) (w_month w_power w_master w_left w_kept w_passed : Int32) (w_sizes w_fields w_liked : Nat → Int32) (ms : Nat → Int32) (z_kept z_keptBy z_ahead z_against z_sum z_sumBy z_term z_termBy z_byNot z_valueOf : Nat → Int32), (b = -1 ∨ ¬ b < 0) → (f = -1 ∨ ¬ f < 0) → RS w_month w_power w_master w_left w_kept w_passed w_sizes w_fields w_liked ms → GS M D w_month w_power w_master w_left w_kept w_passed w_sizes w_fields w_liked → k ≤ T → T < fu + k →
    ∃ (b' f' : Int32) (st' : Nat → Int32) (t_month t_power t_master t_left t_kept t_passed : Int32) (t_sizes t_fields t_liked : Nat → Int32), (f_X12_judge_23 fu b f c_men c_consuls c_dangers c_term c_kinds c_skills c_wants c_hated c_grows l_ops st l_worksFrom l_worksTo l_keepsFrom l_keepsTo j_lines j_kinds j_firsts j_seconds w_month w_power w_master w_left w_kept w_passed w_sizes w_fields w_liked (nI k)) = some (b', f', st', t_month, t_power, t_master, t_left, t_kept, t_passed, t_sizes, t_fields, t_liked) ∧ (∃ (y_kept y_keptBy y_ahead y_against y_sum y_sumBy y_term y_termBy y_byNot y_valueOf : Nat → Int32) (ms' : Nat → Int32), (f_X13_judged_41 fu 0 m_city m_kind m_skill m_want m_hates m_grows m_lineFrom m_lineTo m_codes z_kept z_keptBy z_ahead z_against z_sum z_sumBy z_term z_termBy z_byNot z_valueOf m_lines m_lineWhat m_lineA m_lineB ms m_aside x1 b f (nI k)) = (f_X13_judged_41 (0 + 1) 0 m_city m_kind m_skill m_want m_hates m_grows m_lineFrom m_lineTo m_codes y_kept y_keptBy y_ahead y_against y_sum y_sumBy y_term y_termBy y_byNot y_valueOf m_lines m_lineWhat m_lineA m_lineB ms' m_aside x1 b' f' (nI T)) ∧ RS t_month t_power t_master t_left t_kept t_passed t_sizes t_fields t_liked ms') ∧ GS M D t_month t_power t_master t_left t_kept t_passed t_sizes t_fields t_liked := by
  subst hT
  intro fu
  induction fu with
  | zero => intro k b f st w_month w_power w_master w_left w_kept w_passed w_sizes w_fields w_liked ms z_kept z_keptBy z_ahead z_against z_sum z_sumBy z_term z_termBy z_byNot z_valueOf _ _ _ _ h1 h2; omega
  | succ fu ih =>
    intro k b f st w_month w_power w_master w_left w_kept w_passed w_sizes w_fields w_liked ms z_kept z_keptBy z_ahead z_against z_sum z_sumBy z_term z_termBy z_byNot z_valueOf hb hf hR hG h1 h2
    by_cases h : k < T
    · rw [f_X12_judge_23.eq_2, f_X13_judged_41.eq_2]
      have hle : ¬ nI T ≤ nI k := by rw [nI_leI (by omega) (by omega)]; omega
      simp only [gl_0_6, cl_0, hl0, if_neg hle]
      obtain ⟨v, st1, t_month, t_power, t_master, t_left, t_kept, t_passed, t_sizes, t_fields, t_liked, p1, ⟨y_kept, y_keptBy, y_ahead, y_against, y_sum, y_sumBy, y_term, y_termBy, y_byNot, y_valueOf, ms1, p2, p3⟩, p4, p5⟩ := play_rel (z_kept := z_kept) (z_keptBy := z_keptBy) (z_ahead := z_ahead) (z_against := z_against) (z_sum := z_sum) (z_sumBy := z_sumBy) (z_term := z_term) (z_termBy := z_termBy) (z_byNot := z_byNot) (z_valueOf := z_valueOf) hc hL hR hG rfl hT40 h st
      rw [p1, p2]
      simp only [o_bs]
      -- the first kept
      have h68 : ∀ b', (b' = -1 ∨ ¬ b' < 0) → ∃ (b'' f' : Int32) (st' : Nat → Int32) (q_month q_power q_master q_left q_kept q_passed : Int32) (q_sizes q_fields q_liked : Nat → Int32), (f_X12_judge_68 (f_X12_judge_23 fu) b' f c_men c_consuls c_dangers c_term c_kinds c_skills c_wants c_hated c_grows l_ops st1 l_worksFrom l_worksTo l_keepsFrom l_keepsTo (nI T) j_kinds j_firsts j_seconds t_month t_power t_master t_left t_kept t_passed t_sizes t_fields t_liked (nI k)) = some (b'', f', st', q_month, q_power, q_master, q_left, q_kept, q_passed, q_sizes, q_fields, q_liked) ∧ (∃ (v_kept v_keptBy v_ahead v_against v_sum v_sumBy v_term v_termBy v_byNot v_valueOf : Nat → Int32) (ms' : Nat → Int32), (f_X13_judged_68 (f_X13_judged_41 fu) 0 m_city m_kind m_skill m_want m_hates m_grows m_lineFrom m_lineTo m_codes y_kept y_keptBy y_ahead y_against y_sum y_sumBy y_term y_termBy y_byNot y_valueOf m_lines m_lineWhat m_lineA m_lineB ms1 m_aside x1 b' f (nI k)) = (f_X13_judged_41 (0 + 1) 0 m_city m_kind m_skill m_want m_hates m_grows m_lineFrom m_lineTo m_codes v_kept v_keptBy v_ahead v_against v_sum v_sumBy v_term v_termBy v_byNot v_valueOf m_lines m_lineWhat m_lineA m_lineB ms' m_aside x1 b'' f' (nI T)) ∧ RS q_month q_power q_master q_left q_kept q_passed q_sizes q_fields q_liked ms') ∧ GS M D q_month q_power q_master q_left q_kept q_passed q_sizes q_fields q_liked := by
        intro b' hb'
        unfold f_X12_judge_68 f_X13_judged_68
        simp only [gl_4_23, cl_4, p3.2.2.2.2.1, nI_1]
        rcases p4.2.2.1 with hk | hk
        · simp only [hk, n01, ↓reduceIte]
          rw [hk] at p3 p4
          exact ih (k + 1) b' f st1 t_month t_power t_master t_left 0 t_passed t_sizes t_fields t_liked ms1 y_kept y_keptBy y_ahead y_against y_sum y_sumBy y_term y_termBy y_byNot y_valueOf hb' hf p3 p4 (by omega) (by omega)
        · rw [hk] at p3 p4
          simp only [hk, n10, ↓reduceIte]
          rcases hf with hf1 | hf1
          · have hf2 : ¬ (0 : Int32) ≤ f := by rw [hf1]; decide
            simp only [if_pos hf1, if_neg hf2]
            exact ih (k + 1) b' (nI k) st1 t_month t_power t_master t_left 1 t_passed t_sizes t_fields t_liked ms1 y_kept y_keptBy y_ahead y_against y_sum y_sumBy y_term y_termBy y_byNot y_valueOf hb' (Or.inr (nI_pos (by omega))) p3 p4 (by omega) (by omega)
          · have hf2 : (0 : Int32) ≤ f := by rw [i_le]; rw [i_lt] at hf1; omega
            have hf3 : ¬ f = -1 := fun q => hf1 (m_lt q)
            simp only [if_neg hf3, if_pos hf2]
            exact ih (k + 1) b' f st1 t_month t_power t_master t_left 1 t_passed t_sizes t_fields t_liked ms1 y_kept y_keptBy y_ahead y_against y_sum y_sumBy y_term y_termBy y_byNot y_valueOf hb' (Or.inr hf1) p3 p4 (by omega) (by omega)
      rcases p5 with rfl | rfl
      · simp only [↓reduceIte]
        rcases hb with hb1 | hb1
        · have hb2 : ¬ (0 : Int32) ≤ b := by rw [hb1]; decide
          simp only [if_pos hb1, if_neg hb2]
          exact h68 (nI k) (Or.inr (nI_pos (by omega)))
        · have hb2 : (0 : Int32) ≤ b := by rw [i_le]; rw [i_lt] at hb1; omega
          have hb3 : ¬ b = -1 := fun q => hb1 (m_lt q)
          simp only [if_neg hb3, if_pos hb2]
          exact h68 b (Or.inr hb1)
      · simp only [if_neg n10]
        exact h68 b hb
    · have hk : k = T := by omega
      subst hk
      have hle : nI k ≤ nI k := Int32.le_refl _
      refine ⟨b, f, st, w_month, w_power, w_master, w_left, w_kept, w_passed, w_sizes, w_fields, w_liked, ?_, ⟨z_kept, z_keptBy, z_ahead, z_against, z_sum, z_sumBy, z_term, z_termBy, z_byNot, z_valueOf, ms, ?_, hR⟩, hG⟩
      · rw [f_X12_judge_23.eq_2, if_pos hle]
      · rw [f_X13_judged_41.eq_2, f_X13_judged_41.eq_2]
        simp only [gl_0_6, cl_0, hl0, if_pos hle]
theorem call_judged (hc : RC M D Q sv kv c_men c_consuls c_dangers c_decrees c_term c_kinds c_skills c_fields c_wants c_hated c_sizes c_grows c_grounds l_ops l_worksFrom l_worksTo l_keepsFrom l_keepsTo m_city m_kind m_skill m_fieldTold m_want m_hates m_restsOn m_sizeTold m_grows m_lineFrom m_lineTo m_codes) (hL : RL M D 0 j_lines j_kinds j_firsts j_seconds m_lines m_lineWhat m_lineA m_lineB) (hR : RS s_month s_power s_master s_left s_kept s_passed s_sizes s_fields s_liked m_s) (x1 : Int32) (st : Nat → Int32) : ∃ (v b f : Int32) (st' : Nat → Int32) (t_month t_power t_master t_left t_kept t_passed : Int32) (t_sizes t_fields t_liked : Nat → Int32), (f_X12_judged o_firstRefused o_firstKept c_men c_consuls c_dangers c_term c_kinds c_skills c_fields c_wants c_hated c_sizes c_grows l_ops st l_worksFrom l_worksTo l_keepsFrom l_keepsTo j_lines j_kinds j_firsts j_seconds w_month w_power w_master w_left w_kept w_passed w_sizes w_fields w_liked x1) = some (v, b, f, st', t_month, t_power, t_master, t_left, t_kept, t_passed, t_sizes, t_fields, t_liked) ∧ ∃ (y_kept y_keptBy y_ahead y_against y_sum y_sumBy y_term y_termBy y_byNot y_valueOf : Nat → Int32) (ms' as' : Nat → Int32), (f_X13_judged m_city m_kind m_skill m_fieldTold m_want m_hates m_sizeTold m_grows m_lineFrom m_lineTo m_codes z_kept z_keptBy z_ahead z_against z_sum z_sumBy z_term z_termBy z_byNot z_valueOf m_lines m_lineWhat m_lineA m_lineB m_s m_aside x1) = some (v, 0, y_kept, y_keptBy, y_ahead, y_against, y_sum, y_sumBy, y_term, y_termBy, y_byNot, y_valueOf, ms', as') ∧ RS s_month s_power s_master s_left s_kept s_passed s_sizes s_fields s_liked ms' := by
  have hcc := hc
  obtain ⟨⟨hM, hD, hQ⟩, ⟨rfl, rfl, rfl⟩, ⟨hc0, hc1, hc2, hc3, hc4⟩, hT2, hmm, hsk, hdd, _⟩ := hc
  unfold f_X12_judged f_X13_judged
  rw [wth_eq]
  rcases wth_cases x1 0 2 with ⟨e, hx⟩ | ⟨e, h0, h2⟩
  · rw [e, if_pos e00]
    refine ⟨-2, o_firstRefused, o_firstKept, st, w_month, w_power, w_master, w_left, w_kept, w_passed, w_sizes, w_fields, w_liked, ?_, z_kept, z_keptBy, z_ahead, z_against, z_sum, z_sumBy, z_term, z_termBy, z_byNot, z_valueOf, m_s, m_aside, rfl, hR⟩
    by_cases hx0 : x1 < 0
    · rw [if_pos hx0]
    · have : ¬ x1 ≤ 2 := by
        rcases hx with q | q
        · exact absurd q hx0
        · rw [i_le]; rw [i_lt] at q; omega
      rw [if_neg hx0, if_neg this]
  · have hle : x1 ≤ 2 := by rw [i_le]; rw [i_lt] at h2; omega
    rw [e, if_neg n10, if_neg h0, if_pos hle]
    obtain ⟨T, hT40, hT, hl0, _⟩ := id hL
    obtain ⟨fs, ff, fl, b1, b2, b3, b4⟩ := begin_eq (s_sizes := w_sizes) (s_fields := w_fields) (s_liked := w_liked) (c_sizes := c_sizes) (c_fields := c_fields) hM hD
    obtain ⟨ms1, g1, g2⟩ := fresh_eq (m_s := m_s) hM hD hc0 hc1 (fun i hi => (hmm i hi).2.2.1) (fun i hi => (hdd i hi).1)
    have hR1 := g2 fs ff fl b2 b3 b4
    have hG1 : GS M D 0 (-1) (-1) 0 0 0 fs ff fl := fresh_GS hD (fun i hi => ⟨(hdd i hi).2.2.1, (hdd i hi).2.2.2.1⟩) b2 b3
    have ec : f_X13_copies 23 m_s 23 m_aside 0 0 = some (cp23 m_s 0 m_aside 0) := copies_eq (a := 0) (b := 0) (by omega) (by omega) (by omega) (by omega)
    unfold f_X12_judge
    rw [b1, ec, o_bs, o_bs, g1, o_bs]
    obtain ⟨b', f', st', t_month, t_power, t_master, t_left, t_kept, t_passed, t_sizes, t_fields, t_liked, r1, ⟨y_kept, y_keptBy, y_ahead, y_against, y_sum, y_sumBy, y_term, y_termBy, y_byNot, y_valueOf, ms', r2, r3⟩, r4⟩ := judge_rel (x1 := x1) (m_aside := cp23 m_s 0 m_aside 0) hcc hL hT hT40 hl0 1100 0 (-1) (-1) st 0 (-1) (-1) 0 0 0 fs ff fl ms1 z_kept z_keptBy z_ahead z_against z_sum z_sumBy z_term z_termBy z_byNot z_valueOf (Or.inl rfl) (Or.inl rfl) hR1 hG1 (Nat.zero_le _) (by omega)
    have r1' : (f_X12_judge_23 1100 (-1) (-1) (nI M) c_consuls (nI D) c_term c_kinds c_skills c_wants c_hated c_grows l_ops st l_worksFrom l_worksTo l_keepsFrom l_keepsTo j_lines j_kinds j_firsts j_seconds 0 (-1) (-1) 0 0 0 fs ff fl 0) = some (b', f', st', t_month, t_power, t_master, t_left, t_kept, t_passed, t_sizes, t_fields, t_liked) := r1
    have r2' : (f_X13_judged_41 1100 0 m_city m_kind m_skill m_want m_hates m_grows m_lineFrom m_lineTo m_codes z_kept z_keptBy z_ahead z_against z_sum z_sumBy z_term z_termBy z_byNot z_valueOf m_lines m_lineWhat m_lineA m_lineB ms1 (cp23 m_s 0 m_aside 0) x1 (-1) (-1) 0) = (f_X13_judged_41 (0 + 1) 0 m_city m_kind m_skill m_want m_hates m_grows m_lineFrom m_lineTo m_codes y_kept y_keptBy y_ahead y_against y_sum y_sumBy y_term y_termBy y_byNot y_valueOf m_lines m_lineWhat m_lineA m_lineB ms' (cp23 m_s 0 m_aside 0) x1 b' f' (nI T)) := r2
    rw [r1', o_bs, r2', f_X13_judged_41.eq_2]
    have hle : nI T ≤ nI T := Int32.le_refl _
    simp only [gl_0_6, cl_0, hl0, if_pos hle]
    have ec2 : f_X13_copies 23 (cp23 m_s 0 m_aside 0) 23 ms' 0 0 = some (cp23 (cp23 m_s 0 m_aside 0) 0 ms' 0) := copies_eq (a := 0) (b := 0) (by omega) (by omega) (by omega) (by omega)
    rw [mtog_eq hD hc1 r3, o_bs, ec2, o_bs, together_eq, sm_zero (f := t_sizes) 5 hD r4.2.2.2.2.2.1]
    have hRf : RS s_month s_power s_master s_left s_kept s_passed s_sizes s_fields s_liked (cp23 (cp23 m_s 0 m_aside 0) 0 ms' 0) := hR.row (fun i hi => by
      unfold cp23
      rw [if_pos (by omega), if_pos (by omega)]
      congr 1
      omega)
    by_cases x0 : x1 = 0
    · rw [if_pos x0, if_pos x0]
      exact ⟨_, _, _, _, _, _, _, _, _, _, _, _, _, rfl, y_kept, y_keptBy, y_ahead, y_against, y_sum, y_sumBy, y_term, y_termBy, y_byNot, y_valueOf, _, _, rfl, hRf⟩
    · rw [if_neg x0, if_neg x0]
      by_cases x1' : x1 = 1
      · rw [if_pos x1', if_pos x1']
        exact ⟨_, _, _, _, _, _, _, _, _, _, _, _, _, rfl, y_kept, y_keptBy, y_ahead, y_against, y_sum, y_sumBy, y_term, y_termBy, y_byNot, y_valueOf, _, _, rfl, hRf⟩
      · rw [if_neg x1', if_neg x1', o_bs]
        exact ⟨_, _, _, _, _, _, _, _, _, _, _, _, _, rfl, y_kept, y_keptBy, y_ahead, y_against, y_sum, y_sumBy, y_term, y_termBy, y_byNot, y_valueOf, _, _, rfl, hRf⟩
end
