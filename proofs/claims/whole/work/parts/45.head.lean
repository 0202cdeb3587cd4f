/-! headings -/
theorem sm_rng {f : Nat → Int32} : ∀ n, n ≤ 5 → (∀ i, i < n → 0 ≤ (f i).toInt ∧ (f i).toInt ≤ 99) → ∃ v, v ≤ 99 * n ∧ sm f n = nI v := by
  intro n
  induction n with
  | zero => intro _ _; exact ⟨0, by omega, rfl⟩
  | succ n ih =>
    intro hn h
    obtain ⟨v, hv, e⟩ := ih (by omega) (fun i hi => h i (by omega))
    have h1 := h n (by omega)
    obtain ⟨a, ha, ea⟩ := nI_of (x := f n) (by rw [i_lt, t0]; omega)
    rw [ea, nI_toInt ha] at h1
    refine ⟨v + a, by omega, ?_⟩
    show sm f n + f n = _
    rw [e, ea, nI_add]
/-- the least so far, in both -/
def LR (n : Nat) (lc : Int32) (rc : Nat → Int32) (lm : Int32) (bm : Nat → Int32) : Prop :=
  (lc = 1000000 ∧ lm = -1) ∨ ∃ v, v ≤ 99999 ∧ lc = nI v ∧ lm = nI v ∧ ∀ i, i < n → rc i = bm i
def LR2 (n : Nat) (lc : Int32) (rc : Nat → Int32) (lm : Int32) (bm : Nat → Int32) : Prop := ∃ v, v ≤ 99999 ∧ lc = nI v ∧ lm = nI v ∧ ∀ i, i < n → rc i = bm i
def sameUp (k : Nat) (a_month a_power a_master a_left a_kept a_passed : Nat → Int32) (a_sizes a_fields a_liked : Nat → Nat → Int32) (b_month b_power b_master b_left b_kept b_passed : Nat → Int32) (b_sizes b_fields b_liked : Nat → Nat → Int32) : Prop := ∀ j, j ≤ k → a_month j = b_month j ∧ a_power j = b_power j ∧ a_master j = b_master j ∧ a_left j = b_left j ∧ a_kept j = b_kept j ∧ a_passed j = b_passed j ∧ a_sizes j = b_sizes j ∧ a_fields j = b_fields j ∧ a_liked j = b_liked j
section
variable {s_month s_power s_master s_left s_kept s_passed : Int32} {s_sizes s_fields s_liked : Nat → Int32} {m_s m_tried m_heading m_bestHeading : Nat → Int32} {m_leastLeft : Int32} {M D Q : Nat} {sv kv : Nat → Int32 → Int32 → Int32} {c_men c_consuls c_dangers c_decrees c_term : Int32} {c_kinds c_skills c_fields c_wants c_hated c_sizes c_grows c_grounds : Nat → Int32} {l_ops : Nat → Int32} {l_worksFrom l_worksTo l_keepsFrom l_keepsTo : Int32} {m_city m_kind m_skill m_fieldTold m_want m_hates m_restsOn m_sizeTold m_grows : Nat → Int32} {m_lineFrom m_lineTo m_codes : Nat → Int32} {z_kept z_keptBy z_ahead z_against z_sum z_sumBy z_term z_termBy z_byNot z_valueOf : Nat → Int32} {up_month up_power up_master up_left up_kept up_passed : Nat → Int32} {up_sizes up_fields up_liked : Nat → Nat → Int32} {u_row u_leastRow : Nat → Int32} {u_least : Int32}
theorem cp23_tried {k : Nat} {i : Nat} (hi : i < 23) {t t' m : Nat → Int32} (ht : ∀ i, i < 23 * (k + 1) → t' i = cp23 m 0 t (23 * k) i) {ms2 : Nat → Int32} : cp23 t' (23 * k) ms2 0 i = m i := by
  unfold cp23
  rw [if_pos (by omega), Nat.sub_zero, ht _ (by omega)]
  unfold cp23
  rw [if_pos (by omega)]
  congr 1; omega
theorem mzero (hc : RC M D Q sv kv c_men c_consuls c_dangers c_decrees c_term c_kinds c_skills c_fields c_wants c_hated c_sizes c_grows c_grounds l_ops l_worksFrom l_worksTo l_keepsFrom l_keepsTo m_city m_kind m_skill m_fieldTold m_want m_hates m_restsOn m_sizeTold m_grows m_lineFrom m_lineTo m_codes) {n : Nat} (hn : n ≤ 5) : ∀ (r d k : Nat) (s_month s_power s_master s_left s_kept s_passed : Int32) (s_sizes s_fields s_liked : Nat → Int32) (ms tr hd : Nat → Int32) (z_kept z_keptBy z_ahead z_against z_sum z_sumBy z_term z_termBy z_byNot z_valueOf : Nat → Int32), k + r = n → r < d → RS s_month s_power s_master s_left s_kept s_passed s_sizes s_fields s_liked ms → GS M D s_month s_power s_master s_left s_kept s_passed s_sizes s_fields s_liked →
    ∃ (y_kept y_keptBy y_ahead y_against y_sum y_sumBy y_term y_termBy y_byNot y_valueOf : Nat → Int32) (ms' tr' hd' : Nat → Int32), (f_X13_heads d m_city m_kind m_skill m_want m_grows m_lineFrom m_lineTo m_codes z_kept z_keptBy z_ahead z_against z_sum z_sumBy z_term z_termBy z_byNot z_valueOf ms tr hd m_bestHeading (nI 0) (nI k) (nI n)) = some (y_kept, y_keptBy, y_ahead, y_against, y_sum, y_sumBy, y_term, y_termBy, y_byNot, y_valueOf, ms', tr', hd', m_bestHeading, nI 0) ∧ (∀ i, i < 23 → ms' i = ms i) ∧ (∀ i, i < 23 * k → tr' i = tr i) ∧ (∀ i, i < k → hd' i = hd i) := by
  have hcc := hc
  obtain ⟨⟨hM, hD, hQ⟩, ⟨rfl, rfl, rfl⟩, ⟨hc0, hc1, hc2, hc3, hc4⟩, _⟩ := hc
  intro r
  induction r with
  | zero =>
    intro d k s_month s_power s_master s_left s_kept s_passed s_sizes s_fields s_liked ms tr hd z_kept z_keptBy z_ahead z_against z_sum z_sumBy z_term z_termBy z_byNot z_valueOf hk hdd hR hG
    obtain ⟨d, rfl⟩ : ∃ g, d = g + 1 := ⟨d - 1, by omega⟩
    rw [f_X13_heads.eq_2]
    unfold f_X13_heads_s
    have hkn : k = n := by omega
    subst hkn
    obtain ⟨v, hv, ev⟩ := sm_rng (f := s_sizes) D hD (fun i hi => hG.2.2.2.2.1 i (by omega))
    rw [if_pos rfl, mtog_eq hD hc1 hR, o_bs, ev, if_neg (nI_pos (by omega)), if_neg (nI_nlt (by omega) (by omega))]
    exact ⟨z_kept, z_keptBy, z_ahead, z_against, z_sum, z_sumBy, z_term, z_termBy, z_byNot, z_valueOf, ms, tr, hd, rfl, fun _ _ => rfl, fun _ _ => rfl, fun _ _ => rfl⟩
  | succ r ih =>
    intro d k s_month s_power s_master s_left s_kept s_passed s_sizes s_fields s_liked ms tr hd z_kept z_keptBy z_ahead z_against z_sum z_sumBy z_term z_termBy z_byNot z_valueOf hk hdd hR hG
    obtain ⟨d, rfl⟩ : ∃ g, d = g + 1 := ⟨d - 1, by omega⟩
    rw [f_X13_heads.eq_2]
    unfold f_X13_heads_s
    have ec : f_X13_copies 23 ms 115 tr 0 (nI (23 * k)) = some (cp23 ms 0 tr (23 * k)) := copies_eq (a := 0) (by omega) (by omega) (by omega) (by omega)
    rw [if_neg (fun q => by rw [nI_eq (by omega) (by omega)] at q; omega), qm_23, ec, o_bs]
    have key : ∀ (fu i : Nat) (ms1 tr1 hd1 : Nat → Int32) (z_kept z_keptBy z_ahead z_against z_sum z_sumBy z_term z_termBy z_byNot z_valueOf : Nat → Int32), i ≤ D → D < fu + i → (∀ i, i < 23 → ms1 i = ms i) → (∀ i, i < 23 * (k + 1) → tr1 i = cp23 ms 0 tr (23 * k) i) → (∀ i, i < k → hd1 i = hd i) →
        ∃ (y_kept y_keptBy y_ahead y_against y_sum y_sumBy y_term y_termBy y_byNot y_valueOf : Nat → Int32) (ms' tr' hd' : Nat → Int32), (f_X13_heads_79 (f_X13_heads d) fu m_city m_kind m_skill m_want m_grows m_lineFrom m_lineTo m_codes z_kept z_keptBy z_ahead z_against z_sum z_sumBy z_term z_termBy z_byNot z_valueOf ms1 tr1 hd1 m_bestHeading (nI 0) (nI k) (nI n) (nI i)) = some (y_kept, y_keptBy, y_ahead, y_against, y_sum, y_sumBy, y_term, y_termBy, y_byNot, y_valueOf, ms', tr', hd', m_bestHeading, nI 0) ∧ (∀ i, i < 23 → ms' i = ms i) ∧ (∀ i, i < 23 * k → tr' i = tr i) ∧ (∀ i, i < k → hd' i = hd i) := by
      intro fu
      induction fu with
      | zero => intro i ms1 tr1 hd1 z_kept z_keptBy z_ahead z_against z_sum z_sumBy z_term z_termBy z_byNot z_valueOf h1 h2; omega
      | succ fu ihf =>
        intro i ms1 tr1 hd1 z_kept z_keptBy z_ahead z_against z_sum z_sumBy z_term z_termBy z_byNot z_valueOf h1 h2 hms htr hhd
        rw [f_X13_heads_79.eq_2]
        simp only [gl_1_10, cl_1, hc1]
        by_cases h : i < D
        · rw [if_neg (by rw [nI_leI (by omega) (by omega)]; omega)]
          have hR1 : RS s_month s_power s_master s_left s_kept s_passed s_sizes s_fields s_liked ms1 := hR.row hms
          obtain ⟨rr, t_month, t_power, t_master, t_left, t_kept, t_passed, t_sizes, t_fields, t_liked, st', q1, ⟨y_kept, y_keptBy, y_ahead, y_against, y_sum, y_sumBy, y_term, y_termBy, y_byNot, y_valueOf, ms2, q2, q3⟩, q4, _⟩ := pm_rel (z_kept := z_kept) (z_keptBy := z_keptBy) (z_ahead := z_ahead) (z_against := z_against) (z_sum := z_sum) (z_sumBy := z_sumBy) (z_term := z_term) (z_termBy := z_termBy) (z_byNot := z_byNot) (z_valueOf := z_valueOf) hcc hR1 hG h (o := -1) (Or.inl rfl) (fun _ => 0)
          rw [q2, o_bs, q_gd (by omega) (by omega), nI_clamp (by omega), nI_1]
          obtain ⟨v_kept, v_keptBy, v_ahead, v_against, v_sum, v_sumBy, v_term, v_termBy, v_byNot, v_valueOf, ms3, tr3, hd3, w1, w2, w3, w4⟩ := ih d (k + 1) t_month t_power t_master t_left t_kept t_passed t_sizes t_fields t_liked ms2 tr1 (upd hd1 k (nI i)) y_kept y_keptBy y_ahead y_against y_sum y_sumBy y_term y_termBy y_byNot y_valueOf (by omega) (by omega) q3 q4
          rw [w1, o_bs]
          have ec2 : f_X13_copies 115 tr3 23 ms3 (nI (23 * k)) 0 = some (cp23 tr3 (23 * k) ms3 0) := copies_eq (b := 0) (by omega) (by omega) (by omega) (by omega)
          rw [qm_23, ec2, o_bs, nI_1]
          exact ihf (i + 1) (cp23 tr3 (23 * k) ms3 0) tr3 hd3 v_kept v_keptBy v_ahead v_against v_sum v_sumBy v_term v_termBy v_byNot v_valueOf (by omega) (by omega) (fun j hj => cp23_tried hj (fun q hq => (w3 q hq).trans (htr q hq))) (fun j hj => (w3 j hj).trans (htr j hj)) (fun j hj => by rw [w4 j (by omega), pk_un (by omega)]; exact hhd j hj)
        · rw [if_pos (by rw [nI_leI (by omega) (by omega)]; omega)]
          refine ⟨z_kept, z_keptBy, z_ahead, z_against, z_sum, z_sumBy, z_term, z_termBy, z_byNot, z_valueOf, ms1, tr1, hd1, rfl, hms, fun j hj => ?_, hhd⟩
          rw [htr j (by omega)]
          unfold cp23
          rw [if_neg (by omega)]
    exact key 1100 0 ms _ hd z_kept z_keptBy z_ahead z_against z_sum z_sumBy z_term z_termBy z_byNot z_valueOf (Nat.zero_le _) (by omega) (fun _ _ => rfl) (fun _ _ => rfl) (fun _ _ => rfl)
theorem pathAt_eq {x : Nat} (hx : x < 6) : f_X2_pathAt (nI x) = some (some x) := by
  unfold f_X2_pathAt
  rw [if_neg (nI_pos (by omega)), if_neg (by rw [show (6 : Int32) = nI 6 from rfl, nI_leI (by omega) (by omega)]; omega), q_gd hx (by omega), nI_clamp (by omega)]
theorem nq_ok {α : Type} {a b : Nat} {x : Option α} (h : ¬ a = b) : nq a b x = x := if_neg h
theorem heads34_eq {F : _} {x : Int32} : (f_X13_heads_26 F z_kept z_keptBy z_ahead z_against z_sum z_sumBy z_term z_termBy z_byNot z_valueOf m_s m_tried m_heading m_bestHeading x) = some (z_kept, z_keptBy, z_ahead, z_against, z_sum, z_sumBy, z_term, z_termBy, z_byNot, z_valueOf, m_s, m_tried, m_heading, cpr 5 m_heading m_bestHeading, x) := by
  unfold f_X13_heads_26
  have key : ∀ (fu k : Nat) (b : Nat → Int32), k ≤ 5 → 5 < fu + k → (f_X13_heads_34 F fu z_kept z_keptBy z_ahead z_against z_sum z_sumBy z_term z_termBy z_byNot z_valueOf m_s m_tried m_heading b x (nI k)) = some (z_kept, z_keptBy, z_ahead, z_against, z_sum, z_sumBy, z_term, z_termBy, z_byNot, z_valueOf, m_s, m_tried, m_heading, (fun i => if k ≤ i ∧ i < 5 then m_heading i else b i), x) := by
    intro fu
    induction fu with
    | zero => intro k b h1 h2; omega
    | succ fu ih =>
      intro k b h1 h2
      rw [f_X13_heads_34.eq_2]
      by_cases h : k < 5
      · rw [if_neg (by rw [show (5 : Int32) = nI 5 from rfl, nI_leI (by omega) (by omega)]; omega), q_gd h (by omega), q_gd h (by omega), nI_clamp (by omega), nI_1, ih (k + 1) _ (by omega) (by omega)]
        have : (fun i => if k + 1 ≤ i ∧ i < 5 then m_heading i else upd b k (m_heading k) i) = fun i => if k ≤ i ∧ i < 5 then m_heading i else b i := by
          funext i
          simp only [upd_at]
          by_cases e : i = k
          · subst e; rw [if_neg (by omega), if_pos rfl, if_pos (by omega)]
          · rw [if_neg e]
            by_cases h3 : k ≤ i
            · exact if_iff ⟨fun q => ⟨h3, q.2⟩, fun q => ⟨by omega, q.2⟩⟩
            · rw [if_neg (by omega), if_neg (by omega)]
        rw [this]
      · rw [if_pos (by rw [show (5 : Int32) = nI 5 from rfl, nI_leI (by omega) (by omega)]; omega)]
        have : m_bestHeading = m_bestHeading := rfl
        have e : (fun i => if k ≤ i ∧ i < 5 then m_heading i else b i) = b := by funext i; rw [if_neg (by omega)]
        rw [e]
  have := key 1100 0 m_bestHeading (by omega) (by omega)
  have e : (fun i => if 0 ≤ i ∧ i < 5 then m_heading i else m_bestHeading i) = cpr 5 m_heading m_bestHeading := by
    funext i; unfold cpr; exact if_iff ⟨fun q => q.2, fun q => ⟨Nat.zero_le _, q⟩⟩
  rw [e] at this
  exact this
theorem lr_of {n : Nat} {lc lm : Int32} {rc bm : Nat → Int32} {P : Prop} (h : LR2 n lc rc lm bm) : LR n lc rc lm bm ∧ (P → LR2 n lc rc lm bm) := ⟨Or.inr h, fun _ => h⟩
theorem heads_rel (hc : RC M D Q sv kv c_men c_consuls c_dangers c_decrees c_term c_kinds c_skills c_fields c_wants c_hated c_sizes c_grows c_grounds l_ops l_worksFrom l_worksTo l_keepsFrom l_keepsTo m_city m_kind m_skill m_fieldTold m_want m_hates m_restsOn m_sizeTold m_grows m_lineFrom m_lineTo m_codes) {n : Nat} (hn : n ≤ 5) : ∀ (r d k : Nat) (up_month up_power up_master up_left up_kept up_passed : Nat → Int32) (up_sizes up_fields up_liked : Nat → Nat → Int32) (row lrow st : Nat → Int32) (lc : Int32) (ms tr hd bm : Nat → Int32) (lm : Int32) (z_kept z_keptBy z_ahead z_against z_sum z_sumBy z_term z_termBy z_byNot z_valueOf : Nat → Int32), k + r = n → r < d → RS (up_month k) (up_power k) (up_master k) (up_left k) (up_kept k) (up_passed k) (up_sizes k) (up_fields k) (up_liked k) ms → GS M D (up_month k) (up_power k) (up_master k) (up_left k) (up_kept k) (up_passed k) (up_sizes k) (up_fields k) (up_liked k) → LR n lc lrow lm bm → (∀ i, i < k → row i = hd i) →
    ∃ (row' lrow' : Nat → Int32) (lc' : Int32) (g_month g_power g_master g_left g_kept g_passed : Nat → Int32) (g_sizes g_fields g_liked : Nat → Nat → Int32) (st' : Nat → Int32), (f_X2_headFrom d row lrow lc up_month up_power up_master up_left up_kept up_passed up_sizes up_fields up_liked c_dangers c_kinds c_skills c_wants c_grows l_ops st l_worksFrom l_worksTo l_keepsFrom l_keepsTo (nI n) (nI k)) = some (row', lrow', lc', g_month, g_power, g_master, g_left, g_kept, g_passed, g_sizes, g_fields, g_liked, st') ∧
    ∃ (y_kept y_keptBy y_ahead y_against y_sum y_sumBy y_term y_termBy y_byNot y_valueOf : Nat → Int32) (ms' tr' hd' bm' : Nat → Int32) (lm' : Int32), (f_X13_heads d m_city m_kind m_skill m_want m_grows m_lineFrom m_lineTo m_codes z_kept z_keptBy z_ahead z_against z_sum z_sumBy z_term z_termBy z_byNot z_valueOf ms tr hd bm lm (nI k) (nI n)) = some (y_kept, y_keptBy, y_ahead, y_against, y_sum, y_sumBy, y_term, y_termBy, y_byNot, y_valueOf, ms', tr', hd', bm', lm') ∧ (LR n lc' lrow' lm' bm' ∧ (0 < D → LR2 n lc' lrow' lm' bm')) ∧ sameUp k g_month g_power g_master g_left g_kept g_passed g_sizes g_fields g_liked up_month up_power up_master up_left up_kept up_passed up_sizes up_fields up_liked ∧ (∀ i, i < k → row' i = row i ∧ hd' i = hd i) ∧ (∀ i, i < 23 → ms' i = ms i) ∧ (∀ i, i < 23 * k → tr' i = tr i) := by
  have hcc := hc
  obtain ⟨⟨hM, hD, hQ⟩, ⟨rfl, rfl, rfl⟩, ⟨hc0, hc1, hc2, hc3, hc4⟩, _⟩ := hc
  intro r
  induction r with
  | zero =>
    intro d k up_month up_power up_master up_left up_kept up_passed up_sizes up_fields up_liked row lrow st lc ms tr hd bm lm z_kept z_keptBy z_ahead z_against z_sum z_sumBy z_term z_termBy z_byNot z_valueOf hk hdd hR hG hL hrow
    obtain ⟨d, rfl⟩ : ∃ g, d = g + 1 := ⟨d - 1, by omega⟩
    rw [f_X2_headFrom.eq_2, f_X13_heads.eq_2]
    unfold f_X13_heads_s f_X2_headFrom_s
    have hkn : k = n := by omega
    subst hkn
    obtain ⟨v, hv, ev⟩ := sm_rng (f := up_sizes k) D hD (fun i hi => hG.2.2.2.2.1 i (by omega))
    rw [if_pos rfl, mtog_eq hD hc1 hR, o_bs, ev, pathAt_eq (by omega), o_bs, if_neg (by simp), if_neg (nI_nlt (by omega) (by omega)), q_ex (by omega), together_eq, o_bs, sm_zero (f := up_sizes k) 5 hD hG.2.2.2.2.2.1, ev]
    unfold f_X2_keepIfLess
    rw [copyRow_eq (by omega), heads34_eq]
    rcases hL with ⟨rfl, rfl⟩ | ⟨w, hw, rfl, rfl, hrw⟩
    · rw [if_neg (by rw [show (1000000 : Int32) = nI 1000000 from rfl, nI_leI (by omega) (by omega)]; omega), if_pos (show (-1 : Int32) < 0 by decide), o_bs, o_bs]
      refine ⟨_, _, _, up_month, up_power, up_master, up_left, up_kept, up_passed, up_sizes, up_fields, up_liked, _, rfl, z_kept, z_keptBy, z_ahead, z_against, z_sum, z_sumBy, z_term, z_termBy, z_byNot, z_valueOf, _, _, _, _, _, rfl, lr_of ⟨v, by omega, rfl, rfl, fun i hi => ?_⟩, fun j _ => ⟨rfl, rfl, rfl, rfl, rfl, rfl, rfl, rfl, rfl⟩, fun _ _ => ⟨rfl, rfl⟩, fun _ _ => rfl, fun _ _ => rfl⟩
      show cpr 5 row lrow i = cpr 5 hd bm i
      rw [cpr_lt (by omega), cpr_lt (by omega)]; exact hrow i hi
    · rw [if_neg (nI_pos (by omega))]
      by_cases hlt : v < w
      · rw [if_neg (by rw [nI_leI (by omega) (by omega)]; omega), if_pos (nI_lt hlt (by omega)), o_bs, o_bs]
        refine ⟨_, _, _, up_month, up_power, up_master, up_left, up_kept, up_passed, up_sizes, up_fields, up_liked, _, rfl, z_kept, z_keptBy, z_ahead, z_against, z_sum, z_sumBy, z_term, z_termBy, z_byNot, z_valueOf, _, _, _, _, _, rfl, lr_of ⟨v, by omega, rfl, rfl, fun i hi => ?_⟩, fun j _ => ⟨rfl, rfl, rfl, rfl, rfl, rfl, rfl, rfl, rfl⟩, fun _ _ => ⟨rfl, rfl⟩, fun _ _ => rfl, fun _ _ => rfl⟩
        show cpr 5 row lrow i = cpr 5 hd bm i
        rw [cpr_lt (by omega), cpr_lt (by omega)]; exact hrow i hi
      · rw [if_pos (nI_le (by omega) (by omega)), if_neg (nI_nlt (by omega) (by omega)), o_bs]
        exact ⟨_, _, _, up_month, up_power, up_master, up_left, up_kept, up_passed, up_sizes, up_fields, up_liked, _, rfl, z_kept, z_keptBy, z_ahead, z_against, z_sum, z_sumBy, z_term, z_termBy, z_byNot, z_valueOf, _, _, _, _, _, rfl, lr_of ⟨w, hw, rfl, rfl, hrw⟩, fun j _ => ⟨rfl, rfl, rfl, rfl, rfl, rfl, rfl, rfl, rfl⟩, fun _ _ => ⟨rfl, rfl⟩, fun _ _ => rfl, fun _ _ => rfl⟩
  | succ r ih =>
    intro d k up_month up_power up_master up_left up_kept up_passed up_sizes up_fields up_liked row lrow st lc ms tr hd bm lm z_kept z_keptBy z_ahead z_against z_sum z_sumBy z_term z_termBy z_byNot z_valueOf hk hdd hR hG hL hrow
    obtain ⟨d, rfl⟩ : ∃ g, d = g + 1 := ⟨d - 1, by omega⟩
    rw [f_X2_headFrom.eq_2, f_X13_heads.eq_2]
    unfold f_X13_heads_s f_X2_headFrom_s
    have ec : f_X13_copies 23 ms 115 tr 0 (nI (23 * k)) = some (cp23 ms 0 tr (23 * k)) := copies_eq (a := 0) (by omega) (by omega) (by omega) (by omega)
    rw [if_neg (fun q => by rw [nI_eq (by omega) (by omega)] at q; omega), qm_23, ec, o_bs, pathAt_eq (by omega), o_bs, if_neg (by simp), if_pos (nI_lt (by omega) (by omega)), nI_1, pathAt_eq (by omega), o_bs, if_neg (by simp)]
    have key : ∀ (fu i : Nat) (q_month q_power q_master q_left q_kept q_passed : Nat → Int32) (q_sizes q_fields q_liked : Nat → Nat → Int32) (row1 lrow1 st1 : Nat → Int32) (lc1 : Int32) (ms1 tr1 hd1 bm1 : Nat → Int32) (lm1 : Int32) (z_kept z_keptBy z_ahead z_against z_sum z_sumBy z_term z_termBy z_byNot z_valueOf : Nat → Int32), i ≤ D → D < fu + i → sameUp k q_month q_power q_master q_left q_kept q_passed q_sizes q_fields q_liked up_month up_power up_master up_left up_kept up_passed up_sizes up_fields up_liked → LR n lc1 lrow1 lm1 bm1 → (∀ i, i < 23 → ms1 i = ms i) → (∀ i, i < 23 * (k + 1) → tr1 i = cp23 ms 0 tr (23 * k) i) → (∀ i, i < k → row1 i = row i ∧ hd1 i = hd i) →
        ∃ (row' lrow' : Nat → Int32) (lc' : Int32) (g_month g_power g_master g_left g_kept g_passed : Nat → Int32) (g_sizes g_fields g_liked : Nat → Nat → Int32) (st' : Nat → Int32), (f_X2_headFrom_46 (f_X2_headFrom d) fu row1 lrow1 lc1 q_month q_power q_master q_left q_kept q_passed q_sizes q_fields q_liked (nI D) c_kinds c_skills c_wants c_grows l_ops st1 l_worksFrom l_worksTo l_keepsFrom l_keepsTo (nI n) (nI k) (some k) (some (k + 1)) (nI i)) = some (row', lrow', lc', g_month, g_power, g_master, g_left, g_kept, g_passed, g_sizes, g_fields, g_liked, st') ∧
        ∃ (y_kept y_keptBy y_ahead y_against y_sum y_sumBy y_term y_termBy y_byNot y_valueOf : Nat → Int32) (ms' tr' hd' bm' : Nat → Int32) (lm' : Int32), (f_X13_heads_79 (f_X13_heads d) fu m_city m_kind m_skill m_want m_grows m_lineFrom m_lineTo m_codes z_kept z_keptBy z_ahead z_against z_sum z_sumBy z_term z_termBy z_byNot z_valueOf ms1 tr1 hd1 bm1 lm1 (nI k) (nI n) (nI i)) = some (y_kept, y_keptBy, y_ahead, y_against, y_sum, y_sumBy, y_term, y_termBy, y_byNot, y_valueOf, ms', tr', hd', bm', lm') ∧ (LR n lc' lrow' lm' bm' ∧ (i < D ∨ LR2 n lc1 lrow1 lm1 bm1 → LR2 n lc' lrow' lm' bm')) ∧ sameUp k g_month g_power g_master g_left g_kept g_passed g_sizes g_fields g_liked up_month up_power up_master up_left up_kept up_passed up_sizes up_fields up_liked ∧ (∀ i, i < k → row' i = row i ∧ hd' i = hd i) ∧ (∀ i, i < 23 → ms' i = ms i) ∧ (∀ i, i < 23 * k → tr' i = tr i) := by
      intro fu
      induction fu with
      | zero => intro i q_month q_power q_master q_left q_kept q_passed q_sizes q_fields q_liked row1 lrow1 st1 lc1 ms1 tr1 hd1 bm1 lm1 z_kept z_keptBy z_ahead z_against z_sum z_sumBy z_term z_termBy z_byNot z_valueOf h1 h2; omega
      | succ fu ihf =>
        intro i q_month q_power q_master q_left q_kept q_passed q_sizes q_fields q_liked row1 lrow1 st1 lc1 ms1 tr1 hd1 bm1 lm1 z_kept z_keptBy z_ahead z_against z_sum z_sumBy z_term z_termBy z_byNot z_valueOf h1 h2 hup hL1 hms htr hrow1
        have hR1 : RS (up_month k) (up_power k) (up_master k) (up_left k) (up_kept k) (up_passed k) (up_sizes k) (up_fields k) (up_liked k) ms1 := hR.row hms
        by_cases h : i < D
        · by_cases hl0 : lc1 ≤ 0
          · -- the class stops here; the model goes on and finds nothing less
            rw [f_X2_headFrom_46.eq_2, if_neg (by rw [nI_leI (by omega) (by omega)]; omega), if_pos hl0]
            have h2L : LR2 n lc1 lrow1 lm1 bm1 := by
              rcases hL1 with ⟨e, _⟩ | q
              · rw [e] at hl0; exact absurd hl0 (by decide)
              · exact q
            have hz : lm1 = nI 0 := by
              rcases hL1 with ⟨e, _⟩ | ⟨w, hw, e1, e2, _⟩
              · rw [e] at hl0; exact absurd hl0 (by decide)
              · rw [e1, show (0 : Int32) = nI 0 from rfl, nI_leI (by omega) (by omega)] at hl0
                rw [e2, show w = 0 by omega]
            refine ⟨_, _, _, q_month, q_power, q_master, q_left, q_kept, q_passed, q_sizes, q_fields, q_liked, _, rfl, ?_⟩
            have kz : ∀ (fu i : Nat) (ms1 tr1 hd1 : Nat → Int32) (z_kept z_keptBy z_ahead z_against z_sum z_sumBy z_term z_termBy z_byNot z_valueOf : Nat → Int32), i ≤ D → D < fu + i → (∀ i, i < 23 → ms1 i = ms i) → (∀ i, i < 23 * (k + 1) → tr1 i = cp23 ms 0 tr (23 * k) i) → (∀ i, i < k → hd1 i = hd i) →
                ∃ (y_kept y_keptBy y_ahead y_against y_sum y_sumBy y_term y_termBy y_byNot y_valueOf : Nat → Int32) (ms' tr' hd' : Nat → Int32), (f_X13_heads_79 (f_X13_heads d) fu m_city m_kind m_skill m_want m_grows m_lineFrom m_lineTo m_codes z_kept z_keptBy z_ahead z_against z_sum z_sumBy z_term z_termBy z_byNot z_valueOf ms1 tr1 hd1 bm1 (nI 0) (nI k) (nI n) (nI i)) = some (y_kept, y_keptBy, y_ahead, y_against, y_sum, y_sumBy, y_term, y_termBy, y_byNot, y_valueOf, ms', tr', hd', bm1, nI 0) ∧ (∀ i, i < 23 → ms' i = ms i) ∧ (∀ i, i < 23 * k → tr' i = tr i) ∧ (∀ i, i < k → hd' i = hd i) := by
              intro fu
              induction fu with
              | zero => intro i ms1 tr1 hd1 z_kept z_keptBy z_ahead z_against z_sum z_sumBy z_term z_termBy z_byNot z_valueOf h1 h2; omega
              | succ fu ihz =>
                intro i ms1 tr1 hd1 z_kept z_keptBy z_ahead z_against z_sum z_sumBy z_term z_termBy z_byNot z_valueOf h1 h2 hms htr hhd
                rw [f_X13_heads_79.eq_2]
                simp only [gl_1_10, cl_1, hc1]
                by_cases h : i < D
                · rw [if_neg (by rw [nI_leI (by omega) (by omega)]; omega)]
                  have hR1 : RS (up_month k) (up_power k) (up_master k) (up_left k) (up_kept k) (up_passed k) (up_sizes k) (up_fields k) (up_liked k) ms1 := hR.row hms
                  obtain ⟨rr, t_month, t_power, t_master, t_left, t_kept, t_passed, t_sizes, t_fields, t_liked, st', q1, ⟨y_kept, y_keptBy, y_ahead, y_against, y_sum, y_sumBy, y_term, y_termBy, y_byNot, y_valueOf, ms2, q2, q3⟩, q4, _⟩ := pm_rel (z_kept := z_kept) (z_keptBy := z_keptBy) (z_ahead := z_ahead) (z_against := z_against) (z_sum := z_sum) (z_sumBy := z_sumBy) (z_term := z_term) (z_termBy := z_termBy) (z_byNot := z_byNot) (z_valueOf := z_valueOf) hcc hR1 hG h (o := -1) (Or.inl rfl) (fun _ => 0)
                  rw [q2, o_bs, q_gd (by omega) (by omega), nI_clamp (by omega), nI_1]
                  obtain ⟨v_kept, v_keptBy, v_ahead, v_against, v_sum, v_sumBy, v_term, v_termBy, v_byNot, v_valueOf, ms3, tr3, hd3, w1, w2, w3, w4⟩ := mzero (m_bestHeading := bm1) hcc hn r d (k + 1) t_month t_power t_master t_left t_kept t_passed t_sizes t_fields t_liked ms2 tr1 (upd hd1 k (nI i)) y_kept y_keptBy y_ahead y_against y_sum y_sumBy y_term y_termBy y_byNot y_valueOf (by omega) (by omega) q3 q4
                  rw [w1, o_bs]
                  have ec2 : f_X13_copies 115 tr3 23 ms3 (nI (23 * k)) 0 = some (cp23 tr3 (23 * k) ms3 0) := copies_eq (b := 0) (by omega) (by omega) (by omega) (by omega)
                  rw [qm_23, ec2, o_bs, nI_1]
                  exact ihz (i + 1) (cp23 tr3 (23 * k) ms3 0) tr3 hd3 v_kept v_keptBy v_ahead v_against v_sum v_sumBy v_term v_termBy v_byNot v_valueOf (by omega) (by omega) (fun j hj => cp23_tried hj (fun q hq => (w3 q hq).trans (htr q hq))) (fun j hj => (w3 j hj).trans (htr j hj)) (fun j hj => by rw [w4 j (by omega), pk_un (by omega)]; exact hhd j hj)
                · rw [if_pos (by rw [nI_leI (by omega) (by omega)]; omega)]
                  refine ⟨z_kept, z_keptBy, z_ahead, z_against, z_sum, z_sumBy, z_term, z_termBy, z_byNot, z_valueOf, ms1, tr1, hd1, rfl, hms, fun j hj => ?_, hhd⟩
                  rw [htr j (by omega)]
                  unfold cp23
                  rw [if_neg (by omega)]
            obtain ⟨y_kept, y_keptBy, y_ahead, y_against, y_sum, y_sumBy, y_term, y_termBy, y_byNot, y_valueOf, ms', tr', hd', w1, w2, w3, w4⟩ := kz (fu + 1) i ms1 tr1 hd1 z_kept z_keptBy z_ahead z_against z_sum z_sumBy z_term z_termBy z_byNot z_valueOf h1 h2 hms htr (fun j hj => (hrow1 j hj).2)
            rw [hz] at hL1 h2L ⊢
            exact ⟨y_kept, y_keptBy, y_ahead, y_against, y_sum, y_sumBy, y_term, y_termBy, y_byNot, y_valueOf, ms', tr', hd', bm1, nI 0, w1, ⟨hL1, fun _ => h2L⟩, hup, fun j hj => ⟨(hrow1 j hj).1, w4 j hj⟩, w2, w3⟩
          · rw [f_X2_headFrom_46.eq_2, if_neg (by rw [nI_leI (by omega) (by omega)]; omega), if_neg hl0, f_X13_heads_79.eq_2]
            simp only [gl_1_10, cl_1, hc1]
            rw [if_neg (by rw [nI_leI (by omega) (by omega)]; omega), q_ex (by omega), q_ex (by omega), nq_ok (by omega)]
            obtain ⟨u1, u2, u3, u4, u5, u6, u7, u8, u9⟩ := hup k (Nat.le_refl _)
            simp only [u1, u2, u3, u4, u5, u6, u7, u8, u9]
            rw [copy_eq hG.2.2.1, o_bs, q_ex (by omega)]
            simp only [up_at, ↓reduceIte]
            have hR2 : RS (up_month k) (up_power k) (up_master k) (up_left k) (up_kept k) (up_passed k) (cpr 5 (up_sizes k) (q_sizes (k + 1))) (cpr 6 (up_fields k) (q_fields (k + 1))) (cpr 6 (up_liked k) (q_liked (k + 1))) ms1 := hR1.rows (fun i hi => cpr_lt hi) (fun i hi => cpr_lt hi) (fun i hi => cpr_lt hi) (fun i hi => rfl)
            have hG2 : GS M D (up_month k) (up_power k) (up_master k) (up_left k) (up_kept k) (up_passed k) (cpr 5 (up_sizes k) (q_sizes (k + 1))) (cpr 6 (up_fields k) (q_fields (k + 1))) (cpr 6 (up_liked k) (q_liked (k + 1))) := hG.rows (fun i hi => cpr_lt hi) (fun i hi => cpr_lt hi)
            obtain ⟨rr, t_month, t_power, t_master, t_left, t_kept, t_passed, t_sizes, t_fields, t_liked, st2, q1, ⟨y_kept, y_keptBy, y_ahead, y_against, y_sum, y_sumBy, y_term, y_termBy, y_byNot, y_valueOf, ms2, q2, q3⟩, q4, _⟩ := pm_rel (z_kept := z_kept) (z_keptBy := z_keptBy) (z_ahead := z_ahead) (z_against := z_against) (z_sum := z_sum) (z_sumBy := z_sumBy) (z_term := z_term) (z_termBy := z_termBy) (z_byNot := z_byNot) (z_valueOf := z_valueOf) hcc hR2 hG2 h (o := -1) (Or.inl rfl) st1
            rw [q1, o_bs, q2, o_bs, q_gp (by omega) (by omega), q_gd (by omega) (by omega), nI_clamp (by omega), nI_1, nI_1]
            obtain ⟨row2, lrow2, lc2, g_month, g_power, g_master, g_left, g_kept, g_passed, g_sizes, g_fields, g_liked, st3, c1, v_kept, v_keptBy, v_ahead, v_against, v_sum, v_sumBy, v_term, v_termBy, v_byNot, v_valueOf, ms3, tr3, hd3, bm3, lm3, c2, c3, c4, c5, c6, c7⟩ := ih d (k + 1) (va_up (va_up q_month (k + 1) (up_month k)) (k + 1) t_month) (va_up (va_up q_power (k + 1) (up_power k)) (k + 1) t_power) (va_up (va_up q_master (k + 1) (up_master k)) (k + 1) t_master) (va_up (va_up q_left (k + 1) (up_left k)) (k + 1) t_left) (va_up (va_up q_kept (k + 1) (up_kept k)) (k + 1) t_kept) (va_up (va_up q_passed (k + 1) (up_passed k)) (k + 1) t_passed) (va_up (va_up q_sizes (k + 1) (cpr 5 (up_sizes k) (q_sizes (k + 1)))) (k + 1) t_sizes) (va_up (va_up q_fields (k + 1) (cpr 6 (up_fields k) (q_fields (k + 1)))) (k + 1) t_fields) (va_up (va_up q_liked (k + 1) (cpr 6 (up_liked k) (q_liked (k + 1)))) (k + 1) t_liked) (upd row1 k (nI i)) lrow1 st2 lc1 ms2 tr1 (upd hd1 k (nI i)) bm1 lm1 y_kept y_keptBy y_ahead y_against y_sum y_sumBy y_term y_termBy y_byNot y_valueOf (by omega) (by omega) (by simp only [up_at, ↓reduceIte]; exact q3) (by simp only [up_at, ↓reduceIte]; exact q4) hL1 (fun j hj => by
              simp only [upd_at]
              by_cases e : j = k
              · rw [if_pos e, if_pos e]
              · rw [if_neg e, if_neg e, (hrow1 j (by omega)).1, (hrow1 j (by omega)).2]; exact hrow j (by omega))
            rw [c1, o_bs, c2, o_bs]
            have ec2 : f_X13_copies 115 tr3 23 ms3 (nI (23 * k)) 0 = some (cp23 tr3 (23 * k) ms3 0) := copies_eq (b := 0) (by omega) (by omega) (by omega) (by omega)
            rw [qm_23, ec2, o_bs]
            obtain ⟨f1, f2, f3, o_month, o_power, o_master, o_left, o_kept, o_passed, o_sizes, o_fields, o_liked, f4, f5, x_kept, x_keptBy, x_ahead, x_against, x_sum, x_sumBy, x_term, x_termBy, x_byNot, x_valueOf, f6, f7, f8, f9, f10, f11, ⟨f12, f13⟩, f14⟩ := ihf (i + 1) g_month g_power g_master g_left g_kept g_passed g_sizes g_fields g_liked row2 lrow2 st3 lc2 (cp23 tr3 (23 * k) ms3 0) tr3 hd3 bm3 lm3 v_kept v_keptBy v_ahead v_against v_sum v_sumBy v_term v_termBy v_byNot v_valueOf (by omega) (by omega) (fun j hj => by
              obtain ⟨a1, a2, a3, a4, a5, a6, a7, a8, a9⟩ := c4 j (by omega)
              obtain ⟨b1, b2, b3, b4, b5, b6, b7, b8, b9⟩ := hup j hj
              have hne : ¬ j = k + 1 := by omega
              simp only [up_at, if_neg hne] at a1 a2 a3 a4 a5 a6 a7 a8 a9
              exact ⟨a1.trans b1, a2.trans b2, a3.trans b3, a4.trans b4, a5.trans b5, a6.trans b6, a7.trans b7, a8.trans b8, a9.trans b9⟩) c3.1 (fun j hj => cp23_tried hj (fun q hq => (c7 q hq).trans (htr q hq))) (fun j hj => (c7 j hj).trans (htr j hj)) (fun j hj => by
              rw [(c5 j (by omega)).1, (c5 j (by omega)).2, pk_un (by omega), pk_un (by omega)]
              exact hrow1 j hj)
            exact ⟨f1, f2, f3, o_month, o_power, o_master, o_left, o_kept, o_passed, o_sizes, o_fields, o_liked, f4, f5, x_kept, x_keptBy, x_ahead, x_against, x_sum, x_sumBy, x_term, x_termBy, x_byNot, x_valueOf, f6, f7, f8, f9, f10, f11, ⟨f12, fun _ => f13 (Or.inr (c3.2 (by omega)))⟩, f14⟩
        · have hle : nI D ≤ nI i := by rw [nI_leI (by omega) (by omega)]; omega
          rw [f_X2_headFrom_46.eq_2, if_pos hle, f_X13_heads_79.eq_2]
          simp only [gl_1_10, cl_1, hc1]
          rw [if_pos hle]
          refine ⟨_, _, _, q_month, q_power, q_master, q_left, q_kept, q_passed, q_sizes, q_fields, q_liked, _, rfl, z_kept, z_keptBy, z_ahead, z_against, z_sum, z_sumBy, z_term, z_termBy, z_byNot, z_valueOf, _, _, _, _, _, rfl, ⟨hL1, fun q => q.resolve_left (by omega)⟩, hup, hrow1, hms, fun j hj => ?_⟩
          rw [htr j (by omega)]
          unfold cp23
          rw [if_neg (by omega)]
    obtain ⟨f1, f2, f3, o_month, o_power, o_master, o_left, o_kept, o_passed, o_sizes, o_fields, o_liked, f4, f5, x_kept, x_keptBy, x_ahead, x_against, x_sum, x_sumBy, x_term, x_termBy, x_byNot, x_valueOf, f6, f7, f8, f9, f10, f11, ⟨f12, f13⟩, f14⟩ := key 1100 0 up_month up_power up_master up_left up_kept up_passed up_sizes up_fields up_liked row lrow st lc ms (cp23 ms 0 tr (23 * k)) hd bm lm z_kept z_keptBy z_ahead z_against z_sum z_sumBy z_term z_termBy z_byNot z_valueOf (Nat.zero_le _) (by omega) (fun j _ => ⟨rfl, rfl, rfl, rfl, rfl, rfl, rfl, rfl, rfl⟩) hL (fun _ _ => rfl) (fun _ _ => rfl) (fun _ _ => ⟨rfl, rfl⟩)
    exact ⟨f1, f2, f3, o_month, o_power, o_master, o_left, o_kept, o_passed, o_sizes, o_fields, o_liked, f4, f5, x_kept, x_keptBy, x_ahead, x_against, x_sum, x_sumBy, x_term, x_termBy, x_byNot, x_valueOf, f6, f7, f8, f9, f10, f11, ⟨f12, fun q => f13 (Or.inl q)⟩, f14⟩
theorem call_headings (hc : RC M D Q sv kv c_men c_consuls c_dangers c_decrees c_term c_kinds c_skills c_fields c_wants c_hated c_sizes c_grows c_grounds l_ops l_worksFrom l_worksTo l_keepsFrom l_keepsTo m_city m_kind m_skill m_fieldTold m_want m_hates m_restsOn m_sizeTold m_grows m_lineFrom m_lineTo m_codes) (hR : RS s_month s_power s_master s_left s_kept s_passed s_sizes s_fields s_liked m_s) (hG : GS M D s_month s_power s_master s_left s_kept s_passed s_sizes s_fields s_liked) (x1 x2 : Int32) (st : Nat → Int32) : ∃ (v : Int32) (st' row' lrow' : Nat → Int32) (lc' : Int32) (g_month g_power g_master g_left g_kept g_passed : Nat → Int32) (g_sizes g_fields g_liked : Nat → Nat → Int32), (f_X12_headings c_dangers c_kinds c_skills c_wants c_grows l_ops st l_worksFrom l_worksTo l_keepsFrom l_keepsTo u_row u_leastRow u_least up_month up_power up_master up_left up_kept up_passed up_sizes up_fields up_liked s_month s_power s_master s_left s_kept s_passed s_sizes s_fields s_liked x1 x2) = some (v, st', row', lrow', lc', g_month, g_power, g_master, g_left, g_kept, g_passed, g_sizes, g_fields, g_liked) ∧ ∃ (y_kept y_keptBy y_ahead y_against y_sum y_sumBy y_term y_termBy y_byNot y_valueOf : Nat → Int32) (ms' tr' hd' bm' : Nat → Int32) (lm' : Int32), (f_X13_headings m_city m_kind m_skill m_want m_grows m_lineFrom m_lineTo m_codes z_kept z_keptBy z_ahead z_against z_sum z_sumBy z_term z_termBy z_byNot z_valueOf m_s m_tried m_heading m_bestHeading m_leastLeft x1 x2) = some (v, 0, y_kept, y_keptBy, y_ahead, y_against, y_sum, y_sumBy, y_term, y_termBy, y_byNot, y_valueOf, ms', tr', hd', bm', lm') ∧ RS s_month s_power s_master s_left s_kept s_passed s_sizes s_fields s_liked ms' := by
  have hcc := hc
  obtain ⟨⟨hM, hD, hQ⟩, ⟨rfl, rfl, rfl⟩, ⟨hc0, hc1, hc2, hc3, hc4⟩, _⟩ := hc
  unfold f_X12_headings f_X13_headings
  simp only [wth_eq, gl_1_23, cl_1, hR.2.1, gl_1_10, hc1, pw_lt0 hG hM]
  rcases wth_cases x1 1 5 with ⟨e, _⟩ | ⟨e, a1, a2⟩
  · simp only [e, ↓reduceIte]
    exact ⟨_, _, _, _, _, up_month, up_power, up_master, up_left, up_kept, up_passed, up_sizes, up_fields, up_liked, rfl, z_kept, z_keptBy, z_ahead, z_against, z_sum, z_sumBy, z_term, z_termBy, z_byNot, z_valueOf, _, _, _, _, _, rfl, hR⟩
  · simp only [e, n10, ↓reduceIte]
    rcases wth_cases x2 0 x1 with ⟨e, _⟩ | ⟨e, b1, b2⟩
    · simp only [e, ↓reduceIte]
      exact ⟨_, _, _, _, _, up_month, up_power, up_master, up_left, up_kept, up_passed, up_sizes, up_fields, up_liked, rfl, z_kept, z_keptBy, z_ahead, z_against, z_sum, z_sumBy, z_term, z_termBy, z_byNot, z_valueOf, _, _, _, _, _, rfl, hR⟩
    · simp only [e, n10, ↓reduceIte]
      by_cases h1 : s_power = -1
      · simp only [if_pos h1]
        exact ⟨_, _, _, _, _, up_month, up_power, up_master, up_left, up_kept, up_passed, up_sizes, up_fields, up_liked, rfl, z_kept, z_keptBy, z_ahead, z_against, z_sum, z_sumBy, z_term, z_termBy, z_byNot, z_valueOf, _, _, _, _, _, rfl, hR⟩
      · simp only [if_neg h1]
        by_cases h0 : nI D = 0
        · simp only [if_pos h0]
          exact ⟨_, _, _, _, _, up_month, up_power, up_master, up_left, up_kept, up_passed, up_sizes, up_fields, up_liked, rfl, z_kept, z_keptBy, z_ahead, z_against, z_sum, z_sumBy, z_term, z_termBy, z_byNot, z_valueOf, _, _, _, _, _, rfl, hR⟩
        · simp only [if_neg h0]
          obtain ⟨n, hn, rfl⟩ := nI_of2 (x := x1) (M := 5) (n := 5) rfl (by rw [i_lt] at a1 ⊢; have := t0; have := t1; omega) (by rw [i_le]; rw [i_lt] at a2; omega)
          obtain ⟨w, hw, rfl⟩ := nI_of b1
          have hwn : w ≤ n := by rw [nI_ltI (by omega) hw] at b2; omega
          unfold f_X2_head
          have p0 : f_X2_pathAt 0 = some (some 0) := pathAt_eq (x := 0) (by omega)
          rw [p0, o_bs, if_neg (by simp), q_ex (by omega), copy_eq hG.2.2.1, o_bs]
          have hR1 : RS s_month s_power s_master s_left s_kept s_passed (cpr 5 s_sizes (up_sizes 0)) (cpr 6 s_fields (up_fields 0)) (cpr 6 s_liked (up_liked 0)) m_s := hR.rows (fun i hi => cpr_lt hi) (fun i hi => cpr_lt hi) (fun i hi => cpr_lt hi) (fun i hi => rfl)
          have hG1 : GS M D s_month s_power s_master s_left s_kept s_passed (cpr 5 s_sizes (up_sizes 0)) (cpr 6 s_fields (up_fields 0)) (cpr 6 s_liked (up_liked 0)) := hG.rows (fun i hi => cpr_lt hi) (fun i hi => cpr_lt hi)
          obtain ⟨row2, lrow2, lc2, g_month, g_power, g_master, g_left, g_kept, g_passed, g_sizes, g_fields, g_liked, st3, c1, v_kept, v_keptBy, v_ahead, v_against, v_sum, v_sumBy, v_term, v_termBy, v_byNot, v_valueOf, ms3, tr3, hd3, bm3, lm3, c2, c3, c4, c5, c6, c7⟩ := heads_rel hcc hn n 7 0 (va_up up_month 0 s_month) (va_up up_power 0 s_power) (va_up up_master 0 s_master) (va_up up_left 0 s_left) (va_up up_kept 0 s_kept) (va_up up_passed 0 s_passed) (va_up up_sizes 0 (cpr 5 s_sizes (up_sizes 0))) (va_up up_fields 0 (cpr 6 s_fields (up_fields 0))) (va_up up_liked 0 (cpr 6 s_liked (up_liked 0))) u_row u_leastRow st 1000000 m_s m_tried m_heading m_bestHeading (-1) z_kept z_keptBy z_ahead z_against z_sum z_sumBy z_term z_termBy z_byNot z_valueOf (by omega) (by omega) hR1 hG1 (Or.inl ⟨rfl, rfl⟩) (fun i hi => absurd hi (by omega))
          have c1' : (f_X2_headFrom 7 u_row u_leastRow 1000000 (va_up up_month 0 s_month) (va_up up_power 0 s_power) (va_up up_master 0 s_master) (va_up up_left 0 s_left) (va_up up_kept 0 s_kept) (va_up up_passed 0 s_passed) (va_up up_sizes 0 (cpr 5 s_sizes (up_sizes 0))) (va_up up_fields 0 (cpr 6 s_fields (up_fields 0))) (va_up up_liked 0 (cpr 6 s_liked (up_liked 0))) (nI D) c_kinds c_skills c_wants c_grows l_ops st l_worksFrom l_worksTo l_keepsFrom l_keepsTo (nI n) 0) = some (row2, lrow2, lc2, g_month, g_power, g_master, g_left, g_kept, g_passed, g_sizes, g_fields, g_liked, st3) := c1
          have c2' : (f_X13_heads 7 m_city m_kind m_skill m_want m_grows m_lineFrom m_lineTo m_codes z_kept z_keptBy z_ahead z_against z_sum z_sumBy z_term z_termBy z_byNot z_valueOf m_s m_tried m_heading m_bestHeading (-1) 0 (nI n)) = some (v_kept, v_keptBy, v_ahead, v_against, v_sum, v_sumBy, v_term, v_termBy, v_byNot, v_valueOf, ms3, tr3, hd3, bm3, lm3) := c2
          rw [c1', c2']
          simp only [o_bs]
          have hRf : RS s_month s_power s_master s_left s_kept s_passed s_sizes s_fields s_liked ms3 := hR.row c6
          have hD0 : 0 < D := by
            rcases Nat.eq_zero_or_pos D with q | q
            · rw [q] at h0; exact absurd rfl h0
            · exact q
          obtain ⟨v, hv, rfl, rfl, hrw⟩ := c3.2 hD0
          by_cases hw0 : w = 0
          · subst hw0
            have e0 : nI 0 = 0 := rfl
            rw [if_pos e0, if_pos e0]
            exact ⟨_, _, _, _, _, g_month, g_power, g_master, g_left, g_kept, g_passed, g_sizes, g_fields, g_liked, rfl, v_kept, v_keptBy, v_ahead, v_against, v_sum, v_sumBy, v_term, v_termBy, v_byNot, v_valueOf, _, _, _, _, _, rfl, hRf⟩
          · obtain ⟨u, rfl⟩ : ∃ u, w = u + 1 := ⟨w - 1, by omega⟩
            have e0 : ¬ nI (u + 1) = 0 := nI_ne0 (by omega) (by omega)
            rw [if_neg e0, if_neg e0, nI_pred, q_ga (by omega) (by omega), q_gd (by omega) (by omega), nI_clamp (by omega), hrw u (by omega)]
            exact ⟨_, _, _, _, _, g_month, g_power, g_master, g_left, g_kept, g_passed, g_sizes, g_fields, g_liked, rfl, v_kept, v_keptBy, v_ahead, v_against, v_sum, v_sumBy, v_term, v_termBy, v_byNot, v_valueOf, _, _, _, _, _, rfl, hRf⟩
end
