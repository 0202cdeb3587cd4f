/-! judged -/
def RL (M D ρ : Nat) (j_lines : Int32) (j_kinds j_firsts j_seconds : Nat → Int32) (m_lines m_lineWhat m_lineA m_lineB : Nat → Int32) : Prop :=
  ∃ T : Nat, T ≤ 40 ∧ j_lines = nI T ∧ m_lines ρ = nI T ∧ ∀ i, i < T → m_lineWhat (40 * ρ + i) = j_kinds i ∧
    ((j_kinds i = 0 ∧ ∃ a b, a < M ∧ b < M ∧ j_firsts i = nI a ∧ j_seconds i = nI b ∧ m_lineA (40 * ρ + i) = nI a ∧ m_lineB (40 * ρ + i) = nI b) ∨
     (j_kinds i = 1 ∧ ∃ a, a < M ∧ j_firsts i = nI a ∧ m_lineA (40 * ρ + i) = nI a) ∨
     (j_kinds i = 2 ∧ ∃ d, d < D ∧ j_firsts i = nI d ∧ m_lineA (40 * ρ + i) = nI d) ∨
     (j_kinds i = 3 ∧ ∃ d e, d < D ∧ e < D ∧ ¬ e = d ∧ j_firsts i = nI d ∧ j_seconds i = nI e ∧ m_lineA (40 * ρ + i) = nI d ∧ m_lineB (40 * ρ + i) = nI e) ∨
     j_kinds i = 4)
section
variable {s_month s_power s_master s_left s_kept s_passed : Int32} {s_sizes s_fields s_liked : Nat → Int32} {w_month w_power w_master w_left w_kept w_passed : Int32} {w_sizes w_fields w_liked : Nat → Int32} {j_lines : Int32} {j_kinds j_firsts j_seconds : Nat → Int32} {m_s m_aside m_lines m_lineWhat m_lineA m_lineB : Nat → Int32} {M D Q : Nat} {sv kv : Nat → Int32 → Int32 → Int32} {c_men c_consuls c_dangers c_decrees c_term : Int32} {c_kinds c_skills c_fields c_wants c_hated c_sizes c_grows c_grounds : Nat → Int32} {l_ops : Nat → Int32} {l_worksFrom l_worksTo l_keepsFrom l_keepsTo : Int32} {m_city m_kind m_skill m_fieldTold m_want m_hates m_restsOn m_sizeTold m_grows : Nat → Int32} {m_lineFrom m_lineTo m_codes : Nat → Int32} {z_kept z_keptBy z_ahead z_against z_sum z_sumBy z_term z_termBy z_byNot z_valueOf : Nat → Int32}
theorem begin_eq (hM : M ≤ 6) (hD : D ≤ 5) : ∃ fs ff fl : Nat → Int32, (f_X9_begin s_sizes s_fields s_liked (nI M) (nI D) c_fields c_sizes) = some (0, -1, -1, 0, 0, 0, fs, ff, fl) ∧ (∀ i, i < 5 → fs i = if i < D then c_sizes i else 0) ∧ (∀ i, i < 6 → ff i = if i < M then c_fields i else 0) ∧ (∀ i, i < 6 → fl i = 0) := by
  unfold f_X9_begin f_X9_release
  have k6 : ∀ (x : Nat → Int32) (fu k : Nat) (g h : Nat → Int32), k ≤ 6 → 6 < fu + k → (∀ i, i < k → g i = if i < M then c_fields i else 0) → (∀ i, i < k → h i = 0) → ∃ g' h', f_X9_begin_52 fu 0 (-1) (-1) 0 0 0 x g h (nI M) c_fields (nI k) = some (0, -1, -1, 0, 0, 0, x, g', h') ∧ (∀ i, i < 6 → g' i = if i < M then c_fields i else 0) ∧ (∀ i, i < 6 → h' i = 0) := by
    intro x fu
    induction fu with
    | zero => intro k g h h1 h2; omega
    | succ fu ih =>
      intro k g h h1 h2 hg hh
      rw [f_X9_begin_52.eq_2]
      by_cases hk : k = 6
      · subst hk
        rw [if_pos (by decide)]
        exact ⟨g, h, rfl, hg, hh⟩
      · rw [if_neg (by rw [show (6 : Int32) = nI 6 from rfl, nI_leI (by omega) (by omega)]; omega)]
        have st : ∀ v, v = (if k < M then c_fields k else 0) → ∃ g' h', f_X9_begin_83 (f_X9_begin_52 fu) 0 (-1) (-1) 0 0 0 x g h (nI M) c_fields (nI k) (nI k) v = some (0, -1, -1, 0, 0, 0, x, g', h') ∧ (∀ i, i < 6 → g' i = if i < M then c_fields i else 0) ∧ (∀ i, i < 6 → h' i = 0) := by
          intro v hv
          unfold f_X9_begin_83
          simp (disch := omega) only [q_gp, nI_1]
          refine ih (k + 1) _ _ (by omega) (by omega) (fun i hi => ?_) (fun i hi => ?_)
          · simp only [upd_at]
            by_cases e : i = k
            · subst e; rw [if_pos rfl, hv]
            · rw [if_neg e]; exact hg i (by omega)
          · simp only [upd_at]
            by_cases e : i = k
            · rw [if_pos e]
            · rw [if_neg e]; exact hh i (by omega)
        by_cases hm : k < M
        · rw [if_neg (by rw [nI_leI (by omega) (by omega)]; omega), q_ga (by omega) (by omega)]
          exact st _ (by rw [if_pos hm])
        · rw [if_pos (by rw [nI_leI (by omega) (by omega)]; omega)]
          exact st _ (by rw [if_neg hm])
  have k5 : ∀ (fu k : Nat) (f : Nat → Int32), k ≤ 5 → 5 < fu + k → (∀ i, i < k → f i = if i < D then c_sizes i else 0) → ∃ f', (∀ i, i < 5 → f' i = if i < D then c_sizes i else 0) ∧ f_X9_begin_11 fu 0 (-1) (-1) 0 0 0 f s_fields s_liked (nI M) (nI D) c_fields c_sizes (nI k) = f_X9_begin_52 1100 0 (-1) (-1) 0 0 0 f' s_fields s_liked (nI M) c_fields 0 := by
    intro fu
    induction fu with
    | zero => intro k f h1 h2; omega
    | succ fu ih =>
      intro k f h1 h2 hf
      rw [f_X9_begin_11.eq_2]
      by_cases hk : k = 5
      · subst hk
        rw [if_pos (by decide)]
        exact ⟨f, hf, rfl⟩
      · rw [if_neg (by rw [show (5 : Int32) = nI 5 from rfl, nI_leI (by omega) (by omega)]; omega)]
        have st : ∀ v, v = (if k < D then c_sizes k else 0) → ∃ f', (∀ i, i < 5 → f' i = if i < D then c_sizes i else 0) ∧ f_X9_begin_41 (f_X9_begin_11 fu) 0 (-1) (-1) 0 0 0 f s_fields s_liked (nI M) (nI D) c_fields c_sizes (nI k) (nI k) v = f_X9_begin_52 1100 0 (-1) (-1) 0 0 0 f' s_fields s_liked (nI M) c_fields 0 := by
          intro v hv
          unfold f_X9_begin_41
          simp (disch := omega) only [q_gp, nI_1]
          refine ih (k + 1) _ (by omega) (by omega) (fun i hi => ?_)
          simp only [upd_at]
          by_cases e : i = k
          · subst e; rw [if_pos rfl, hv]
          · rw [if_neg e]; exact hf i (by omega)
        by_cases hm : k < D
        · rw [if_neg (by rw [nI_leI (by omega) (by omega)]; omega), q_ga (by omega) (by omega)]
          exact st _ (by rw [if_pos hm])
        · rw [if_pos (by rw [nI_leI (by omega) (by omega)]; omega)]
          exact st _ (by rw [if_neg hm])
  obtain ⟨f', hf', e1⟩ := k5 1100 0 s_sizes (by omega) (by omega) (fun i hi => absurd hi (by omega))
  obtain ⟨g', h', e2, hg', hh'⟩ := k6 f' 1100 0 s_fields s_liked (by omega) (by omega) (fun i hi => absurd hi (by omega)) (fun i hi => absurd hi (by omega))
  exact ⟨f', g', h', e1.trans e2, hf', hg', hh'⟩
theorem fresh_eq (hM : M ≤ 6) (hD : D ≤ 5) (hc0 : m_city 0 = nI M) (hc1 : m_city 1 = nI D) (hf : ∀ i, i < M → m_fieldTold i = c_fields i) (hs : ∀ i, i < D → m_sizeTold i = c_sizes i) : ∃ ms', (f_X13_fresh m_city m_fieldTold m_sizeTold m_s) = some ms' ∧ ∀ (fs ff fl : Nat → Int32), (∀ i, i < 5 → fs i = if i < D then c_sizes i else 0) → (∀ i, i < 6 → ff i = if i < M then c_fields i else 0) → (∀ i, i < 6 → fl i = 0) → RS 0 (-1) (-1) 0 0 0 fs ff fl ms' := by
  unfold f_X13_fresh
  have k70 : ∀ (fu k : Nat) (ms : Nat → Int32), k ≤ M → M < fu + k → f_X13_fresh_70 fu m_city m_fieldTold ms (nI k) = some (fun i => if 11 + k ≤ i ∧ i < 11 + M then c_fields (i - 11) else ms i) := by
    intro fu
    induction fu with
    | zero => intro k ms h1 h2; omega
    | succ fu ih =>
      intro k ms h1 h2
      rw [f_X13_fresh_70.eq_2]
      simp only [gl_0_10, cl_0, hc0]
      by_cases h : k < M
      · rw [if_neg (by rw [nI_leI (by omega) (by omega)]; omega)]
        simp (disch := omega) only [qa_11, q_gd, nI_clamp, nI_1, hf k h]
        rw [ih (k + 1) _ (by omega) (by omega)]
        congr 1; funext i
        simp only [upd_at]
        by_cases e : i = 11 + k
        · subst e; rw [if_neg (by omega), if_pos rfl, if_pos (by omega), show 11 + k - 11 = k by omega]
        · rw [if_neg e]
          exact if_iff ⟨fun q => ⟨by omega, q.2⟩, fun q => ⟨by omega, q.2⟩⟩
      · rw [if_pos (by rw [nI_leI (by omega) (by omega)]; omega)]
        congr 1; funext i
        rw [if_neg (by omega)]
  have k37 : ∀ (fu k : Nat) (ms : Nat → Int32), k ≤ D → D < fu + k → f_X13_fresh_37 fu m_city m_fieldTold m_sizeTold ms (nI k) = f_X13_fresh_70 1100 m_city m_fieldTold (fun i => if 6 + k ≤ i ∧ i < 6 + D then c_sizes (i - 6) else ms i) 0 := by
    intro fu
    induction fu with
    | zero => intro k ms h1 h2; omega
    | succ fu ih =>
      intro k ms h1 h2
      rw [f_X13_fresh_37.eq_2]
      simp only [gl_1_10, cl_1, hc1]
      by_cases h : k < D
      · rw [if_neg (by rw [nI_leI (by omega) (by omega)]; omega)]
        simp (disch := omega) only [qa_6, q_gd, nI_clamp, nI_1, hs k h]
        rw [ih (k + 1) _ (by omega) (by omega)]
        congr 1; funext i
        simp only [upd_at]
        by_cases e : i = 6 + k
        · subst e; rw [if_neg (by omega), if_pos rfl, if_pos (by omega), show 6 + k - 6 = k by omega]
        · rw [if_neg e]
          exact if_iff ⟨fun q => ⟨by omega, q.2⟩, fun q => ⟨by omega, q.2⟩⟩
      · rw [if_pos (by rw [nI_leI (by omega) (by omega)]; omega)]
        congr 1; funext i
        rw [if_neg (by omega)]
  have k2 : ∀ (fu k : Nat) (ms : Nat → Int32), k ≤ 23 → 23 < fu + k → (∀ i, i < k → ms i = 0) → ∃ ms', (∀ i, i < 23 → ms' i = 0) ∧ f_X13_fresh_2 fu m_city m_fieldTold m_sizeTold ms (nI k) = f_X13_fresh_37 1100 m_city m_fieldTold m_sizeTold (upd (upd ms' 1 (-1)) 2 (-1)) 0 := by
    intro fu
    induction fu with
    | zero => intro k ms h1 h2; omega
    | succ fu ih =>
      intro k ms h1 h2 hms
      rw [f_X13_fresh_2.eq_2]
      by_cases hk : k = 23
      · subst hk
        rw [if_pos (by decide)]
        simp only [gl_1_23, gl_2_23, cl_1, cl_2]
        exact ⟨ms, hms, rfl⟩
      · rw [if_neg (by rw [show (23 : Int32) = nI 23 from rfl, nI_leI (by omega) (by omega)]; omega)]
        simp (disch := omega) only [q_gd, nI_clamp, nI_1]
        refine ih (k + 1) _ (by omega) (by omega) (fun i hi => ?_)
        simp only [upd_at]
        by_cases e : i = k
        · rw [if_pos e]
        · rw [if_neg e]; exact hms i (by omega)
  obtain ⟨ms0, hz, e2⟩ := k2 1100 0 m_s (by omega) (by omega) (fun i hi => absurd hi (by omega))
  have e37 := k37 1100 0 (upd (upd ms0 1 (-1)) 2 (-1)) (Nat.zero_le _) (by omega)
  have e70 := k70 1100 0 (fun i => if 6 + 0 ≤ i ∧ i < 6 + D then c_sizes (i - 6) else upd (upd ms0 1 (-1)) 2 (-1) i) (Nat.zero_le _) (by omega)
  refine ⟨_, e2.trans (e37.trans e70), fun fs ff fl h5 h6 h7 => ⟨?_, ?_, ?_, ?_, ?_, ?_, fun i hi => ?_, fun i hi => ?_, fun i hi => ?_⟩⟩
  · show (if 11 + 0 ≤ 0 ∧ 0 < 11 + M then c_fields (0 - 11) else if 6 + 0 ≤ 0 ∧ 0 < 6 + D then c_sizes (0 - 6) else upd (upd ms0 1 (-1)) 2 (-1) 0) = 0
    rw [if_neg (by omega), if_neg (by omega), pk_un (by omega), pk_un (by omega)]; exact hz 0 (by omega)
  · show (if 11 + 0 ≤ 1 ∧ 1 < 11 + M then c_fields (1 - 11) else if 6 + 0 ≤ 1 ∧ 1 < 6 + D then c_sizes (1 - 6) else upd (upd ms0 1 (-1)) 2 (-1) 1) = -1
    rw [if_neg (by omega), if_neg (by omega), pk_un (by omega), pk_us]
  · show (if 11 + 0 ≤ 2 ∧ 2 < 11 + M then c_fields (2 - 11) else if 6 + 0 ≤ 2 ∧ 2 < 6 + D then c_sizes (2 - 6) else upd (upd ms0 1 (-1)) 2 (-1) 2) = -1
    rw [if_neg (by omega), if_neg (by omega), pk_us]
  · show (if 11 + 0 ≤ 3 ∧ 3 < 11 + M then c_fields (3 - 11) else if 6 + 0 ≤ 3 ∧ 3 < 6 + D then c_sizes (3 - 6) else upd (upd ms0 1 (-1)) 2 (-1) 3) = 0
    rw [if_neg (by omega), if_neg (by omega), pk_un (by omega), pk_un (by omega)]; exact hz 3 (by omega)
  · show (if 11 + 0 ≤ 4 ∧ 4 < 11 + M then c_fields (4 - 11) else if 6 + 0 ≤ 4 ∧ 4 < 6 + D then c_sizes (4 - 6) else upd (upd ms0 1 (-1)) 2 (-1) 4) = 0
    rw [if_neg (by omega), if_neg (by omega), pk_un (by omega), pk_un (by omega)]; exact hz 4 (by omega)
  · show (if 11 + 0 ≤ 5 ∧ 5 < 11 + M then c_fields (5 - 11) else if 6 + 0 ≤ 5 ∧ 5 < 6 + D then c_sizes (5 - 6) else upd (upd ms0 1 (-1)) 2 (-1) 5) = 0
    rw [if_neg (by omega), if_neg (by omega), pk_un (by omega), pk_un (by omega)]; exact hz 5 (by omega)
  · show (if 11 + 0 ≤ 6 + i ∧ 6 + i < 11 + M then c_fields (6 + i - 11) else if 6 + 0 ≤ 6 + i ∧ 6 + i < 6 + D then c_sizes (6 + i - 6) else upd (upd ms0 1 (-1)) 2 (-1) (6 + i)) = fs i
    rw [if_neg (by omega), h5 i hi, show 6 + i - 6 = i by omega]
    by_cases h : i < D
    · rw [if_pos (by omega), if_pos h]
    · rw [if_neg (by omega), if_neg h, pk_un (by omega), pk_un (by omega)]; exact hz _ (by omega)
  · show (if 11 + 0 ≤ 11 + i ∧ 11 + i < 11 + M then c_fields (11 + i - 11) else if 6 + 0 ≤ 11 + i ∧ 11 + i < 6 + D then c_sizes (11 + i - 6) else upd (upd ms0 1 (-1)) 2 (-1) (11 + i)) = ff i
    rw [h6 i hi, show 11 + i - 11 = i by omega]
    by_cases h : i < M
    · rw [if_pos (by omega), if_pos h]
    · rw [if_neg (by omega), if_neg (by omega), if_neg h, pk_un (by omega), pk_un (by omega)]; exact hz _ (by omega)
  · show (if 11 + 0 ≤ 17 + i ∧ 17 + i < 11 + M then c_fields (17 + i - 11) else if 6 + 0 ≤ 17 + i ∧ 17 + i < 6 + D then c_sizes (17 + i - 6) else upd (upd ms0 1 (-1)) 2 (-1) (17 + i)) = fl i
    rw [if_neg (by omega), if_neg (by omega), h7 i hi, pk_un (by omega), pk_un (by omega)]; exact hz _ (by omega)
theorem fresh_GS (hD : D ≤ 5) (hsz : ∀ i, i < D → 0 ≤ (c_sizes i).toInt ∧ (c_sizes i).toInt ≤ 99) {fs ff fl : Nat → Int32} (h5 : ∀ i, i < 5 → fs i = if i < D then c_sizes i else 0) (h6 : ∀ i, i < 6 → ff i = if i < M then c_fields i else 0) : GS M D 0 (-1) (-1) 0 0 0 fs ff fl := by
  refine ⟨Or.inl rfl, Or.inl rfl, Or.inl rfl, fun h => absurd rfl h, fun i hi => ?_, fun i h1 h2 => ?_, fun i h1 h2 => ?_⟩
  · rw [h5 i hi]
    by_cases h : i < D
    · rw [if_pos h]; exact hsz i h
    · rw [if_neg h]; decide
  · rw [h5 i h2, if_neg (by omega)]
  · rw [h6 i h2, if_neg (by omega)]
theorem play_rel (hc : RC M D Q sv kv c_men c_consuls c_dangers c_decrees c_term c_kinds c_skills c_fields c_wants c_hated c_sizes c_grows c_grounds l_ops l_worksFrom l_worksTo l_keepsFrom l_keepsTo m_city m_kind m_skill m_fieldTold m_want m_hates m_restsOn m_sizeTold m_grows m_lineFrom m_lineTo m_codes) (hL : RL M D 0 j_lines j_kinds j_firsts j_seconds m_lines m_lineWhat m_lineA m_lineB) (hR : RS s_month s_power s_master s_left s_kept s_passed s_sizes s_fields s_liked m_s) (hG : GS M D s_month s_power s_master s_left s_kept s_passed s_sizes s_fields s_liked) {i T : Nat} (hT : j_lines = nI T) (hT40 : T ≤ 40) (hi : i < T) (st : Nat → Int32) : ∃ (v : Int32) (st' : Nat → Int32) (t_month t_power t_master t_left t_kept t_passed : Int32) (t_sizes t_fields t_liked : Nat → Int32), (f_X8_play j_kinds j_firsts j_seconds c_men c_consuls c_dangers c_term c_kinds c_skills c_wants c_hated c_grows l_ops st l_worksFrom l_worksTo l_keepsFrom l_keepsTo s_month s_power s_master s_left s_kept s_passed s_sizes s_fields s_liked (nI i)) = some (v, st', t_month, t_power, t_master, t_left, t_kept, t_passed, t_sizes, t_fields, t_liked) ∧ (∃ (y_kept y_keptBy y_ahead y_against y_sum y_sumBy y_term y_termBy y_byNot y_valueOf : Nat → Int32) (ms' : Nat → Int32), (f_X13_goes m_city m_kind m_skill m_want m_hates m_grows m_lineFrom m_lineTo m_codes z_kept z_keptBy z_ahead z_against z_sum z_sumBy z_term z_termBy z_byNot z_valueOf m_lineWhat m_lineA m_lineB m_s (nI i)) = some (v, y_kept, y_keptBy, y_ahead, y_against, y_sum, y_sumBy, y_term, y_termBy, y_byNot, y_valueOf, ms') ∧ RS t_month t_power t_master t_left t_kept t_passed t_sizes t_fields t_liked ms') ∧ GS M D t_month t_power t_master t_left t_kept t_passed t_sizes t_fields t_liked ∧ (v = 0 ∨ v = 1) := by
  have hcc := hc
  obtain ⟨⟨hM, hD, hQ⟩, ⟨rfl, rfl, rfl⟩, ⟨hc0, hc1, hc2, hc3, hc4⟩, hT2, hmm, _⟩ := hc
  obtain ⟨T', h40, e1, e2, hrow⟩ := hL
  have : T' = T := (nI_eq (by omega) (by omega)).mp (e1.symm.trans hT)
  subst this
  obtain ⟨hw, hk⟩ := hrow i hi
  rw [Nat.mul_zero, Nat.zero_add] at hw hk
  have same : ∃ (v : Int32) (st' : Nat → Int32) (t_month t_power t_master t_left t_kept t_passed : Int32) (t_sizes t_fields t_liked : Nat → Int32), some ((0 : Int32), st, s_month, s_power, s_master, s_left, s_kept, s_passed, s_sizes, s_fields, s_liked) = some (v, st', t_month, t_power, t_master, t_left, t_kept, t_passed, t_sizes, t_fields, t_liked) ∧ (∃ (y_kept y_keptBy y_ahead y_against y_sum y_sumBy y_term y_termBy y_byNot y_valueOf : Nat → Int32) (ms' : Nat → Int32), some ((0 : Int32), z_kept, z_keptBy, z_ahead, z_against, z_sum, z_sumBy, z_term, z_termBy, z_byNot, z_valueOf, m_s) = some (v, y_kept, y_keptBy, y_ahead, y_against, y_sum, y_sumBy, y_term, y_termBy, y_byNot, y_valueOf, ms') ∧ RS t_month t_power t_master t_left t_kept t_passed t_sizes t_fields t_liked ms') ∧ GS M D t_month t_power t_master t_left t_kept t_passed t_sizes t_fields t_liked ∧ (v = 0 ∨ v = 1) :=
    ⟨_, _, _, _, _, _, _, _, _, _, _, rfl, ⟨z_kept, z_keptBy, z_ahead, z_against, z_sum, z_sumBy, z_term, z_termBy, z_byNot, z_valueOf, _, rfl, hR⟩, hG, Or.inl rfl⟩
  unfold f_X8_play f_X13_goes
  have g1 : ga 40 j_kinds (nI i) = j_kinds i := q_ga (by omega) (by omega)
  have g2 : ga 40 j_firsts (nI i) = j_firsts i := q_ga (by omega) (by omega)
  have g3 : ga 40 j_seconds (nI i) = j_seconds i := q_ga (by omega) (by omega)
  have g4 : (nI i).toNatClampNeg = i := nI_clamp (by omega)
  rw [q_gd (by omega) (by omega), q_gd (by omega) (by omega), q_gd (by omega) (by omega)]
  simp only [g1, g2, g3, g4, hw]
  rcases hk with ⟨k0, a, b, ha, hb, f1, f2, f3, f4⟩ | ⟨k0, a, ha, f1, f3⟩ | ⟨k0, d, hd, f1, f3⟩ | ⟨k0, d, e, hd, he, hde, f1, f2, f3, f4⟩ | k0
  · simp only [k0, f1, f2, f3, f4, ↓reduceIte, canName_in hM ha hb, gl_1_23, cl_1, hR.2.1, could_eq hM hc3 ha hb (hmm a ha).2.2.2.2, o_bs, pw_lt hG hM]
    by_cases h1 : s_power = -1
    · have h1' : ¬ ¬ s_power = -1 := fun q => q h1
      simp only [if_pos h1, if_neg h1']
      by_cases h2 : (f_X1_couldName (nI M) c_consuls c_hated (nI a) (nI b)) = 0
      · simp only [if_pos h2]; exact same
      · obtain ⟨ms', l1, l2, l3⟩ := give_rel hcc hR hG hb
        simp only [if_neg h2, l1, o_bs]
        exact ⟨_, _, _, _, _, _, _, _, _, _, _, rfl, ⟨z_kept, z_keptBy, z_ahead, z_against, z_sum, z_sumBy, z_term, z_termBy, z_byNot, z_valueOf, _, rfl, l2⟩, l3, Or.inr rfl⟩
    · simp only [if_neg h1, if_pos h1, ↓reduceIte]; exact same
  · simp only [k0, f1, f3, n10, ↓reduceIte]
    unfold f_X9_canMaster f_X13_canBeMaster
    simp only [gl_1_23, gl_2_23, cl_1, cl_2, hR.2.1, hR.2.2.1, hasMan_1 hM ha, isConsul_eq hM hc3 ha, o_bs, if_neg n10]
    by_cases q1 : s_power = -1
    · have q1' := (pw_lt0 hG hM).mpr q1
      simp only [if_pos q1, if_pos q1', o_bs, ↓reduceIte]; exact same
    · have q1' : ¬ s_power < 0 := fun q => q1 ((pw_lt0 hG hM).mp q)
      simp only [if_neg q1, if_neg q1']
      by_cases q2 : nI a = s_power
      · have q2' := q2.symm
        simp only [if_pos q2, if_pos q2', o_bs, ↓reduceIte]; exact same
      · have q2' : ¬ s_power = nI a := fun q => q2 q.symm
        simp only [if_neg q2, if_neg q2', o_bs]
        by_cases q3 : nI a = s_master
        · have q3' := q3.symm
          simp only [if_pos q3, if_pos q3']
          rcases zb_X1_isConsul (nI M) c_consuls (nI a) with q4 | q4
          · simp only [q4, ↓reduceIte, o_bs, if_neg n10]; exact same
          · simp only [q4, ↓reduceIte, o_bs, if_neg n10]; exact same
        · have q3' : ¬ s_master = nI a := fun q => q3 q.symm
          simp only [if_neg q3, if_neg q3']
          rcases zb_X1_isConsul (nI M) c_consuls (nI a) with q4 | q4
          · simp only [q4, ↓reduceIte, if_neg n10, o_bs]
            refine ⟨_, _, _, _, _, _, _, _, _, _, _, rfl, ⟨z_kept, z_keptBy, z_ahead, z_against, z_sum, z_sumBy, z_term, z_termBy, z_byNot, z_valueOf, _, rfl, hR.master' _⟩, ?_, Or.inr rfl⟩
            obtain ⟨e0, e1, e2, e3, e4, e5, e6⟩ := hG
            exact ⟨e0, Or.inr ⟨a, ha, rfl⟩, e2, e3, e4, e5, e6⟩
          · simp only [q4, ↓reduceIte, if_neg n10, o_bs]; exact same
  · have c0 : ¬ (2 : Int32) = 0 := by decide
    have c1 : ¬ (2 : Int32) = 1 := by decide
    have c3 : ¬ (2 : Int32) = 3 := by decide
    have c4 : ¬ (2 : Int32) = 4 := by decide
    simp only [k0, f1, f3, if_neg c0, if_neg c1, if_neg c3, if_neg c4, ↓reduceIte]
    unfold f_X8_play_149 f_X13_goes_127 f_X13_goes_140
    obtain ⟨r, t_month, t_power, t_master, t_left, t_kept, t_passed, t_sizes, t_fields, t_liked, st', q1, ⟨y_kept, y_keptBy, y_ahead, y_against, y_sum, y_sumBy, y_term, y_termBy, y_byNot, y_valueOf, ms', q2, q3⟩, q4, _⟩ := pm_rel (z_kept := z_kept) (z_keptBy := z_keptBy) (z_ahead := z_ahead) (z_against := z_against) (z_sum := z_sum) (z_sumBy := z_sumBy) (z_term := z_term) (z_termBy := z_termBy) (z_byNot := z_byNot) (z_valueOf := z_valueOf) hcc hR hG hd (o := -1) (Or.inl rfl) st
    simp only [if_neg c3, q1, q2, o_bs]
    exact ⟨_, _, _, _, _, _, _, _, _, _, _, rfl, ⟨y_kept, y_keptBy, y_ahead, y_against, y_sum, y_sumBy, y_term, y_termBy, y_byNot, y_valueOf, _, rfl, q3⟩, q4, Or.inr rfl⟩
  · have c0 : ¬ (3 : Int32) = 0 := by decide
    have c1 : ¬ (3 : Int32) = 1 := by decide
    have c2 : ¬ (3 : Int32) = 2 := by decide
    have c4 : ¬ (3 : Int32) = 4 := by decide
    simp only [k0, f1, f2, f3, f4, if_neg c0, if_neg c1, if_neg c2, if_neg c4, ↓reduceIte]
    unfold f_X9_canDisobey f_X13_canDisobey f_X13_goes_127 f_X13_goes_140
    have hne : ¬ nI d = nI e := fun q => hde ((nI_eq (by omega) (by omega)).mp q).symm
    simp only [gl_1_23, gl_2_23, cl_1, cl_2, hR.2.1, hR.2.2.1, pw_lt0 hG hM, mr_lt0 hG hM, hasDanger_1 hD hd, hasDanger_1 hD he, if_neg n10, if_neg hne]
    by_cases h2 : s_power = -1
    · simp only [if_pos h2, ↓reduceIte, o_bs]; exact same
    · simp only [if_neg h2]
      by_cases h3 : s_master = -1
      · simp only [if_pos h3, ↓reduceIte, o_bs]; exact same
      · simp only [if_neg h3, if_neg n10, o_bs, ↓reduceIte]
        obtain ⟨r, t_month, t_power, t_master, t_left, t_kept, t_passed, t_sizes, t_fields, t_liked, st', q1, ⟨y_kept, y_keptBy, y_ahead, y_against, y_sum, y_sumBy, y_term, y_termBy, y_byNot, y_valueOf, ms', q2, q3⟩, q4, _⟩ := pm_rel (z_kept := z_kept) (z_keptBy := z_keptBy) (z_ahead := z_ahead) (z_against := z_against) (z_sum := z_sum) (z_sumBy := z_sumBy) (z_term := z_term) (z_termBy := z_termBy) (z_byNot := z_byNot) (z_valueOf := z_valueOf) hcc hR hG hd (o := nI e) (Or.inr ⟨e, he, hde, rfl, h2, h3⟩) st
        simp only [q1, q2, o_bs]
        exact ⟨_, _, _, _, _, _, _, _, _, _, _, rfl, ⟨y_kept, y_keptBy, y_ahead, y_against, y_sum, y_sumBy, y_term, y_termBy, y_byNot, y_valueOf, _, rfl, q3⟩, q4, Or.inr rfl⟩
  · have c0 : ¬ (4 : Int32) = 0 := by decide
    have c1 : ¬ (4 : Int32) = 1 := by decide
    have c2 : ¬ (4 : Int32) = 2 := by decide
    have c3 : ¬ (4 : Int32) = 3 := by decide
    simp only [k0, if_neg c0, if_neg c1, if_neg c2, if_neg c3, ↓reduceIte]
    unfold f_X9_canLay f_X13_canLay
    simp only [gl_1_23, gl_4_23, cl_1, cl_4, hR.2.1, hR.2.2.2.2.1, pw_lt0 hG hM]
    by_cases h1 : s_power = -1
    · simp only [if_pos h1, ↓reduceIte, o_bs]; exact same
    · simp only [if_neg h1]
      by_cases h2 : s_kept = 0
      · simp only [if_pos h2, if_neg n10, o_bs]
        obtain ⟨lk, ms', l1, l2, l3, l4⟩ := laysDown_rel hM hR hG h1
        simp only [l1, l2, o_bs]
        exact ⟨_, _, _, _, _, _, _, _, _, _, _, rfl, ⟨z_kept, z_keptBy, z_ahead, z_against, z_sum, z_sumBy, z_term, z_termBy, z_byNot, z_valueOf, _, rfl, l3⟩, l4, Or.inr rfl⟩
      · simp only [if_neg h2, ↓reduceIte, o_bs]; exact same
end
