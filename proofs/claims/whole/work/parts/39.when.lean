/-! which month parts them; telling -/
section
variable {r_told : Int32} {r_dangers r_months r_sizes : Nat → Int32} {m_tolds m_toldDanger m_toldMonths m_toldSize u_likeSizes : Nat → Int32} {M D Q : Nat} {sv kv : Nat → Int32 → Int32 → Int32} {c_men c_consuls c_dangers c_decrees c_term : Int32} {c_kinds c_skills c_fields c_wants c_hated c_sizes c_grows c_grounds : Nat → Int32} {l_ops : Nat → Int32} {l_worksFrom l_worksTo l_keepsFrom l_keepsTo : Int32} {m_city m_kind m_skill m_fieldTold m_want m_hates m_restsOn m_sizeTold m_grows : Nat → Int32} {m_lineFrom m_lineTo m_codes : Nat → Int32} {z_kept z_keptBy z_ahead z_against z_sum z_sumBy z_term z_termBy z_byNot z_valueOf : Nat → Int32}
/-- the size behind t months, as a number -/
def zN (sv : Nat → Int32 → Int32 → Int32) (t : Nat) (n : Int32) (i : Nat) : Nat := (sb (sv i) t n 0).toNatClampNeg
theorem zN_nI {t i : Nat} {n : Int32} (hw : ∀ a b, 0 ≤ (sv i a b).toInt ∧ (sv i a b).toInt ≤ 99) (hn : 0 ≤ n.toInt ∧ n.toInt ≤ 99) : sb (sv i) t n 0 = nI (zN sv t n i) ∧ zN sv t n i < 100 := by
  have h := sb_rng hw t n 0 hn
  obtain ⟨j, hj, e⟩ := nI_of (x := sb (sv i) t n 0) (by rw [i_lt, t0]; omega)
  unfold zN
  rw [e, nI_clamp hj]
  rw [e, nI_toInt hj] at h
  exact ⟨rfl, by omega⟩
theorem alikeC_eq (hc : RC M D Q sv kv c_men c_consuls c_dangers c_decrees c_term c_kinds c_skills c_fields c_wants c_hated c_sizes c_grows c_grounds l_ops l_worksFrom l_worksTo l_keepsFrom l_keepsTo m_city m_kind m_skill m_fieldTold m_want m_hates m_restsOn m_sizeTold m_grows m_lineFrom m_lineTo m_codes) {S t : Nat} (hS : S < 2 ^ 31) (ht : t ≤ 12) {n : Int32} (hn : 0 ≤ n.toInt ∧ n.toInt ≤ 99) (st : Nat → Int32) : ∃ lk st', (f_X2_mostAlike u_likeSizes c_men c_kinds c_skills c_wants l_ops st l_worksFrom l_worksTo l_keepsFrom l_keepsTo n (nI S) (nI t)) = some (nI (mxR S (zN sv t n) M), lk, st') := by
  obtain ⟨⟨hM, hD, hQ⟩, ⟨rfl, rfl, rfl⟩, ⟨hc0, hc1, hc2, hc3, hc4⟩, hT2, hmm, hsk, hdd, hq, hsv, hkv, hCS, hCK, hMS, hMK⟩ := hc
  have key : ∀ (fu k : Nat) (lk st : Nat → Int32), (∀ v, v < 100 → lk v = nI (cn (fun o => S.testBit o && decide (zN sv t n o = v)) k)) → k ≤ M → M < fu + k → ∃ lk' st', (f_X2_mostAlike_33 fu lk (nI M) c_kinds c_skills c_wants l_ops st l_worksFrom l_worksTo l_keepsFrom l_keepsTo n (nI S) (nI t) (nI (mxR S (zN sv t n) k)) (nI k)) = some (nI (mxR S (zN sv t n) M), lk', st') := by
    intro fu
    induction fu with
    | zero => intro k lk st _ h1 h2; omega
    | succ fu ih =>
      intro k lk st hlk h1 h2
      rw [f_X2_mostAlike_33.eq_2]
      by_cases h : k < M
      · rw [if_neg (by rw [nI_leI (by omega) (by omega)]; omega)]
        by_cases hb : S.testBit k = true
        · rw [if_pos ((bit1 hS (by omega)).mpr hb)]
          obtain ⟨st1, h1⟩ := sizeBehind_eq hCS h (fun a b => hsv k a b h) hn ht st
          obtain ⟨ez, hz⟩ := zN_nI (sv := sv) (t := t) (i := k) (fun a b => hsv k a b h) hn
          rw [h1]
          simp only [o_bs]
          rw [ez]
          simp (disch := omega) only [q_ga, q_gp, nI_1]
          rw [hlk _ hz, nI_1, pk_us, imax_nI (by have := mxR_le S (zN sv t n) k; omega) (by have := cn_le (fun o => S.testBit o && decide (zN sv t n o = zN sv t n k)) k; omega)]
          have hck : cn (fun o => S.testBit o && decide (zN sv t n o = zN sv t n k)) (k + 1) = cn (fun o => S.testBit o && decide (zN sv t n o = zN sv t n k)) k + 1 := by
            show cn _ k + (if (S.testBit k && decide (zN sv t n k = zN sv t n k)) = true then 1 else 0) = _
            rw [if_pos (by simp [hb])]
          have hmx : mxR S (zN sv t n) (k + 1) = max (mxR S (zN sv t n) k) (cn (fun o => S.testBit o && decide (zN sv t n o = zN sv t n k)) k + 1) := by
            rw [← hck]; exact if_pos hb
          rw [← hmx]
          refine ih (k + 1) _ st1 (fun v hv => ?_) (by omega) (by omega)
          simp only [upd_at]
          show _ = nI (cn (fun o => S.testBit o && decide (zN sv t n o = v)) k + (if (S.testBit k && decide (zN sv t n k = v)) = true then 1 else 0))
          by_cases e : v = zN sv t n k
          · subst e; rw [if_pos rfl, if_pos (by simp [hb])]
          · rw [if_neg e, if_neg (by simp [Ne.symm e])]; exact hlk v hv
        · rw [if_neg (fun q => hb ((bit1 hS (by omega)).mp q)), nI_1]
          have hmx : mxR S (zN sv t n) (k + 1) = mxR S (zN sv t n) k := if_neg hb
          rw [← hmx]
          refine ih (k + 1) _ st (fun v hv => ?_) (by omega) (by omega)
          show _ = nI (cn (fun o => S.testBit o && decide (zN sv t n o = v)) k + (if (S.testBit k && decide (zN sv t n k = v)) = true then 1 else 0))
          rw [if_neg (by simp [hb])]; exact hlk v hv
      · rw [if_pos (by rw [nI_leI (by omega) (by omega)]; omega), show k = M by omega]
        exact ⟨_, _, rfl⟩
  have k3 : ∀ (fu k : Nat) (lk : Nat → Int32), (∀ v, v < k → lk v = 0) → k ≤ 100 → 100 < fu + k → ∃ lk', (∀ v, v < 100 → lk' v = 0) ∧ (f_X2_mostAlike_3 fu lk (nI M) c_kinds c_skills c_wants l_ops st l_worksFrom l_worksTo l_keepsFrom l_keepsTo n (nI S) (nI t) (nI k)) = (f_X2_mostAlike_33 1100 lk' (nI M) c_kinds c_skills c_wants l_ops st l_worksFrom l_worksTo l_keepsFrom l_keepsTo n (nI S) (nI t) 0 0) := by
    intro fu
    induction fu with
    | zero => intro k lk _ h1 h2; omega
    | succ fu ih =>
      intro k lk hlk h1 h2
      rw [f_X2_mostAlike_3.eq_2]
      by_cases h : k = 100
      · subst h
        exact ⟨lk, hlk, if_pos (by decide)⟩
      · rw [if_neg (by rw [show (100 : Int32) = nI 100 from rfl, nI_leI (by omega) (by omega)]; omega)]
        simp (disch := omega) only [q_gd, nI_clamp, nI_1]
        refine ih (k + 1) _ (fun v hv => ?_) (by omega) (by omega)
        simp only [upd_at]
        by_cases e : v = k
        · rw [if_pos e]
        · rw [if_neg e]; exact hlk v (by omega)
  obtain ⟨lk', hz, h3⟩ := k3 1100 0 u_likeSizes (fun v hv => absurd hv (by omega)) (by omega) (by omega)
  obtain ⟨lk2, st2, h4⟩ := key 1100 0 lk' st (fun v hv => hz v hv) (Nat.zero_le _) (by omega)
  exact ⟨lk2, st2, h3.trans h4⟩
theorem alikeM_eq (hc : RC M D Q sv kv c_men c_consuls c_dangers c_decrees c_term c_kinds c_skills c_fields c_wants c_hated c_sizes c_grows c_grounds l_ops l_worksFrom l_worksTo l_keepsFrom l_keepsTo m_city m_kind m_skill m_fieldTold m_want m_hates m_restsOn m_sizeTold m_grows m_lineFrom m_lineTo m_codes) {S t d : Nat} (hS : S < 2 ^ 31) (ht : t ≤ 12) (hd : d < D) : ∃ (y_kept y_keptBy y_ahead y_against y_sum y_sumBy y_term y_termBy y_byNot y_valueOf : Nat → Int32), (f_X13_mostAlike m_city m_kind m_skill m_want m_sizeTold m_lineFrom m_lineTo m_codes z_kept z_keptBy z_ahead z_against z_sum z_sumBy z_term z_termBy z_byNot z_valueOf (nI S) (nI d) (nI t)) = some ((nI (mxA S (zN sv t (c_sizes d)) M M)), y_kept, y_keptBy, y_ahead, y_against, y_sum, y_sumBy, y_term, y_termBy, y_byNot, y_valueOf) := by
  obtain ⟨⟨hM, hD, hQ⟩, ⟨rfl, rfl, rfl⟩, ⟨hc0, hc1, hc2, hc3, hc4⟩, hT2, hmm, hsk, hdd, hq, hsv, hkv, hCS, hCK, hMS, hMK⟩ := hc
  have hn : 0 ≤ (c_sizes d).toInt ∧ (c_sizes d).toInt ≤ 99 := ⟨(hdd d hd).2.2.1, (hdd d hd).2.2.2.1⟩
  -- the inner count for one man
  have inner : ∀ (i : Nat), i < M → ∀ (x4 : Int32) (K : _) (fu k : Nat) (z_kept z_keptBy z_ahead z_against z_sum z_sumBy z_term z_termBy z_byNot z_valueOf : Nat → Int32), k ≤ M → M < fu + k → ∃ (y_kept y_keptBy y_ahead y_against y_sum y_sumBy y_term y_termBy y_byNot y_valueOf : Nat → Int32), (f_X13_mostAlike_35 K fu m_city m_kind m_skill m_want m_sizeTold m_lineFrom m_lineTo m_codes z_kept z_keptBy z_ahead z_against z_sum z_sumBy z_term z_termBy z_byNot z_valueOf (nI S) (nI d) (nI t) x4 (nI i) (nI (cn (fun o => S.testBit o && decide (zN sv t (c_sizes d) o = zN sv t (c_sizes d) i)) k)) (nI k)) = K m_city m_kind m_skill m_want m_sizeTold m_lineFrom m_lineTo m_codes y_kept y_keptBy y_ahead y_against y_sum y_sumBy y_term y_termBy y_byNot y_valueOf (nI S) (nI d) (nI t) (imax x4 (nI (cn (fun o => S.testBit o && decide (zN sv t (c_sizes d) o = zN sv t (c_sizes d) i)) M))) (nI i + 1) := by
    intro i hi x4 K fu
    induction fu with
    | zero => intro k z_kept z_keptBy z_ahead z_against z_sum z_sumBy z_term z_termBy z_byNot z_valueOf h1 h2; omega
    | succ fu ih =>
      intro k z_kept z_keptBy z_ahead z_against z_sum z_sumBy z_term z_termBy z_byNot z_valueOf h1 h2
      rw [f_X13_mostAlike_35.eq_2]
      simp only [gl_0_10, cl_0, hc0]
      by_cases h : k < M
      · rw [if_neg (by rw [nI_leI (by omega) (by omega)]; omega)]
        have hcs : cn (fun o => S.testBit o && decide (zN sv t (c_sizes d) o = zN sv t (c_sizes d) i)) (k + 1) = cn (fun o => S.testBit o && decide (zN sv t (c_sizes d) o = zN sv t (c_sizes d) i)) k + (if (S.testBit k && decide (zN sv t (c_sizes d) k = zN sv t (c_sizes d) i)) = true then 1 else 0) := rfl
        by_cases hb : S.testBit k = true
        · rw [if_pos ((bit1 hS (by omega)).mpr hb)]
          obtain ⟨y_kept, y_keptBy, y_ahead, y_against, y_sum, y_sumBy, y_term, y_termBy, y_byNot, y_valueOf, hy⟩ := sizeBy_eq (z_kept := z_kept) (z_keptBy := z_keptBy) (z_ahead := z_ahead) (z_against := z_against) (z_sum := z_sum) (z_sumBy := z_sumBy) (z_term := z_term) (z_termBy := z_termBy) (z_byNot := z_byNot) (z_valueOf := z_valueOf) (m_sizeTold := m_sizeTold) hMS h (d := d) (by omega) ht
          rw [hy]
          simp only [o_bs]
          obtain ⟨v_kept, v_keptBy, v_ahead, v_against, v_sum, v_sumBy, v_term, v_termBy, v_byNot, v_valueOf, hv⟩ := sizeBy_eq (z_kept := y_kept) (z_keptBy := y_keptBy) (z_ahead := y_ahead) (z_against := y_against) (z_sum := y_sum) (z_sumBy := y_sumBy) (z_term := y_term) (z_termBy := y_termBy) (z_byNot := y_byNot) (z_valueOf := y_valueOf) (m_sizeTold := m_sizeTold) hMS hi (d := d) (by omega) ht
          rw [hv]
          simp only [o_bs]
          obtain ⟨e1, _⟩ := zN_nI (sv := sv) (t := t) (i := k) (fun a b => hsv k a b h) hn
          obtain ⟨e2, _⟩ := zN_nI (sv := sv) (t := t) (i := i) (fun a b => hsv i a b hi) hn
          rw [(hdd d hd).1]
          have hz1 := (zN_nI (sv := sv) (t := t) (i := k) (fun a b => hsv k a b h) hn).2
          have hz2 := (zN_nI (sv := sv) (t := t) (i := i) (fun a b => hsv i a b hi) hn).2
          by_cases he : zN sv t (c_sizes d) k = zN sv t (c_sizes d) i
          · rw [if_pos (by rw [e1, e2, he]), nI_1, nI_1]
            rw [if_pos (by simp [hb, he])] at hcs
            rw [← hcs]
            exact ih (k + 1) v_kept v_keptBy v_ahead v_against v_sum v_sumBy v_term v_termBy v_byNot v_valueOf (by omega) (by omega)
          · rw [if_neg (fun q => he (by rw [e1, e2] at q; exact (nI_eq (by omega) (by omega)).mp q))]
            unfold f_X13_mostAlike_81
            rw [Int32.add_zero, nI_1]
            have hcs : cn (fun o => S.testBit o && decide (zN sv t (c_sizes d) o = zN sv t (c_sizes d) i)) (k + 1) = cn (fun o => S.testBit o && decide (zN sv t (c_sizes d) o = zN sv t (c_sizes d) i)) k := by rw [hcs, if_neg (by simp [he])]; rfl
            rw [← hcs]
            exact ih (k + 1) v_kept v_keptBy v_ahead v_against v_sum v_sumBy v_term v_termBy v_byNot v_valueOf (by omega) (by omega)
        · rw [if_neg (fun q => hb ((bit1 hS (by omega)).mp q))]
          unfold f_X13_mostAlike_81
          rw [Int32.add_zero, nI_1]
          have hcs : cn (fun o => S.testBit o && decide (zN sv t (c_sizes d) o = zN sv t (c_sizes d) i)) (k + 1) = cn (fun o => S.testBit o && decide (zN sv t (c_sizes d) o = zN sv t (c_sizes d) i)) k := by rw [hcs, if_neg (by simp [hb])]; rfl
          rw [← hcs]
          exact ih (k + 1) z_kept z_keptBy z_ahead z_against z_sum z_sumBy z_term z_termBy z_byNot z_valueOf (by omega) (by omega)
      · rw [if_pos (by rw [nI_leI (by omega) (by omega)]; omega), show k = M by omega]
        exact ⟨z_kept, z_keptBy, z_ahead, z_against, z_sum, z_sumBy, z_term, z_termBy, z_byNot, z_valueOf, rfl⟩
  have outer : ∀ (fu k : Nat) (z_kept z_keptBy z_ahead z_against z_sum z_sumBy z_term z_termBy z_byNot z_valueOf : Nat → Int32), k ≤ M → M < fu + k → ∃ (y_kept y_keptBy y_ahead y_against y_sum y_sumBy y_term y_termBy y_byNot y_valueOf : Nat → Int32), (f_X13_mostAlike_6 fu m_city m_kind m_skill m_want m_sizeTold m_lineFrom m_lineTo m_codes z_kept z_keptBy z_ahead z_against z_sum z_sumBy z_term z_termBy z_byNot z_valueOf (nI S) (nI d) (nI t) (nI (mxA S (zN sv t (c_sizes d)) M k)) (nI k)) = some ((nI (mxA S (zN sv t (c_sizes d)) M M)), y_kept, y_keptBy, y_ahead, y_against, y_sum, y_sumBy, y_term, y_termBy, y_byNot, y_valueOf) := by
    intro fu
    induction fu with
    | zero => intro k z_kept z_keptBy z_ahead z_against z_sum z_sumBy z_term z_termBy z_byNot z_valueOf h1 h2; omega
    | succ fu ih =>
      intro k z_kept z_keptBy z_ahead z_against z_sum z_sumBy z_term z_termBy z_byNot z_valueOf h1 h2
      rw [f_X13_mostAlike_6.eq_2]
      simp only [gl_0_10, cl_0, hc0]
      by_cases h : k < M
      · rw [if_neg (by rw [nI_leI (by omega) (by omega)]; omega)]
        by_cases hb : S.testBit k = true
        · rw [if_neg (fun q => by rw [bit0 hS (by omega)] at q; rw [q] at hb; exact absurd hb (by decide))]
          obtain ⟨y_kept, y_keptBy, y_ahead, y_against, y_sum, y_sumBy, y_term, y_termBy, y_byNot, y_valueOf, hy⟩ := inner k h (nI (mxA S (zN sv t (c_sizes d)) M k)) (f_X13_mostAlike_6 fu) 1100 0 z_kept z_keptBy z_ahead z_against z_sum z_sumBy z_term z_termBy z_byNot z_valueOf (Nat.zero_le _) (by omega)
          have hmx : mxA S (zN sv t (c_sizes d)) M (k + 1) = max (mxA S (zN sv t (c_sizes d)) M k) (cn (fun o => S.testBit o && decide (zN sv t (c_sizes d) o = zN sv t (c_sizes d) k)) M) := if_pos hb
          rw [imax_nI (by have := mxA_le S (zN sv t (c_sizes d)) M k; omega) (by have := cn_le (fun o => S.testBit o && decide (zN sv t (c_sizes d) o = zN sv t (c_sizes d) k)) M; omega), ← hmx, nI_1] at hy
          obtain ⟨v_kept, v_keptBy, v_ahead, v_against, v_sum, v_sumBy, v_term, v_termBy, v_byNot, v_valueOf, hv⟩ := ih (k + 1) y_kept y_keptBy y_ahead y_against y_sum y_sumBy y_term y_termBy y_byNot y_valueOf (by omega) (by omega)
          exact ⟨v_kept, v_keptBy, v_ahead, v_against, v_sum, v_sumBy, v_term, v_termBy, v_byNot, v_valueOf, Eq.trans hy hv⟩
        · rw [if_pos ((bit0 hS (by omega)).mpr (by simpa using hb)), nI_1]
          have hmx : mxA S (zN sv t (c_sizes d)) M (k + 1) = mxA S (zN sv t (c_sizes d)) M k := if_neg hb
          rw [← hmx]
          exact ih (k + 1) z_kept z_keptBy z_ahead z_against z_sum z_sumBy z_term z_termBy z_byNot z_valueOf (by omega) (by omega)
      · rw [if_pos (by rw [nI_leI (by omega) (by omega)]; omega), show k = M by omega]
        exact ⟨z_kept, z_keptBy, z_ahead, z_against, z_sum, z_sumBy, z_term, z_termBy, z_byNot, z_valueOf, rfl⟩
  exact outer 1100 0 z_kept z_keptBy z_ahead z_against z_sum z_sumBy z_term z_termBy z_byNot z_valueOf (Nat.zero_le _) (by omega)
theorem part_rel (hcc : RC M D Q sv kv c_men c_consuls c_dangers c_decrees c_term c_kinds c_skills c_fields c_wants c_hated c_sizes c_grows c_grounds l_ops l_worksFrom l_worksTo l_keepsFrom l_keepsTo m_city m_kind m_skill m_fieldTold m_want m_hates m_restsOn m_sizeTold m_grows m_lineFrom m_lineTo m_codes) (hM : M ≤ 6) (hD : D ≤ 5) (hM0 : c_men = nI M) {d S : Nat} (hd : d < D) (hS6 : S < 64) (hn : 0 ≤ (c_sizes d).toInt ∧ (c_sizes d).toInt ≤ 99) : ∀ (fu k : Nat) (b f : Int32) (lk st : Nat → Int32) (z_kept z_keptBy z_ahead z_against z_sum z_sumBy z_term z_termBy z_byNot z_valueOf : Nat → Int32), k ≤ 13 → 13 < fu + k → ∃ (v : Int32) (lk' st' : Nat → Int32) (y_kept y_keptBy y_ahead y_against y_sum y_sumBy y_term y_termBy y_byNot y_valueOf : Nat → Int32), (f_X2_parting_16 fu lk (nI M) c_kinds c_skills c_wants c_sizes l_ops st l_worksFrom l_worksTo l_keepsFrom l_keepsTo (nI d) (nI S) b f (nI k)) = some (v, lk', st') ∧ (f_X13_when_55 fu 0 m_city m_kind m_skill m_want m_sizeTold m_lineFrom m_lineTo m_codes z_kept z_keptBy z_ahead z_against z_sum z_sumBy z_term z_termBy z_byNot z_valueOf (nI d) (nI S) b f (nI k)) = some (v, 0, y_kept, y_keptBy, y_ahead, y_against, y_sum, y_sumBy, y_term, y_termBy, y_byNot, y_valueOf) := by
  subst hM0
  intro fu
  induction fu with
  | zero => intro k b f lk st z_kept z_keptBy z_ahead z_against z_sum z_sumBy z_term z_termBy z_byNot z_valueOf h1 h2; omega
  | succ fu ih =>
    intro k b f lk st z_kept z_keptBy z_ahead z_against z_sum z_sumBy z_term z_termBy z_byNot z_valueOf h1 h2
    rw [f_X2_parting_16.eq_2, f_X13_when_55.eq_2]
    by_cases hk : k = 13
    · subst hk
      rw [if_pos (show (12 : Int32) < nI 13 by decide), if_pos (show (13 : Int32) ≤ nI 13 by decide)]
      exact ⟨_, _, _, z_kept, z_keptBy, z_ahead, z_against, z_sum, z_sumBy, z_term, z_termBy, z_byNot, z_valueOf, rfl, rfl⟩
    · have g1 : ¬ (12 : Int32) < nI k := by rw [show (12 : Int32) = nI 12 from rfl, nI_ltI (by omega) (by omega)]; omega
      have g2 : ¬ (13 : Int32) ≤ nI k := by rw [show (13 : Int32) = nI 13 from rfl, nI_leI (by omega) (by omega)]; omega
      rw [if_neg g1, if_neg g2, q_ga (by omega) (by omega)]
      obtain ⟨lk1, st2, a1⟩ := alikeC_eq (u_likeSizes := lk) hcc (S := S) (t := k) (by omega) (by omega) hn st
      obtain ⟨v_kept, v_keptBy, v_ahead, v_against, v_sum, v_sumBy, v_term, v_termBy, v_byNot, v_valueOf, a2⟩ := alikeM_eq (z_kept := z_kept) (z_keptBy := z_keptBy) (z_ahead := z_ahead) (z_against := z_against) (z_sum := z_sum) (z_sumBy := z_sumBy) (z_term := z_term) (z_termBy := z_termBy) (z_byNot := z_byNot) (z_valueOf := z_valueOf) hcc (S := S) (t := k) (d := d) (by omega) (by omega) hd
      rw [a1, a2, mx_eq]
      simp only [o_bs, nI_1]
      by_cases hf : f ≤ nI (mxR S (zN sv k (c_sizes d)) M)
      · rw [if_pos hf, if_neg (by rw [i_lt]; rw [i_le] at hf; omega)]
        exact ih (k + 1) _ _ _ _ v_kept v_keptBy v_ahead v_against v_sum v_sumBy v_term v_termBy v_byNot v_valueOf (by omega) (by omega)
      · rw [if_neg hf, if_pos (by rw [i_lt]; rw [i_le] at hf; omega)]
        exact ih (k + 1) _ _ _ _ v_kept v_keptBy v_ahead v_against v_sum v_sumBy v_term v_termBy v_byNot v_valueOf (by omega) (by omega)
theorem when28_eq {d S : Nat} (hS6 : S < 64) {x3 : Int32} : (f_X13_when_28 1100 0 m_city m_kind m_skill m_want m_sizeTold m_lineFrom m_lineTo m_codes z_kept z_keptBy z_ahead z_against z_sum z_sumBy z_term z_termBy z_byNot z_valueOf (nI d) (nI S) x3 0 0) = (f_X13_when_55 1100 0 m_city m_kind m_skill m_want m_sizeTold m_lineFrom m_lineTo m_codes z_kept z_keptBy z_ahead z_against z_sum z_sumBy z_term z_termBy z_byNot z_valueOf (nI d) (nI S) x3 (f_X20_bitCount (nI S)) 0) := by
  rw [bitC S hS6]
  rw [f_X13_when_28.eq_2, if_neg (by decide), f_X13_when_28.eq_2, if_neg (by decide), f_X13_when_28.eq_2, if_neg (by decide), f_X13_when_28.eq_2, if_neg (by decide), f_X13_when_28.eq_2, if_neg (by decide), f_X13_when_28.eq_2, if_neg (by decide), f_X13_when_28.eq_2, if_pos (by decide)]
theorem call_when (hc : RC M D Q sv kv c_men c_consuls c_dangers c_decrees c_term c_kinds c_skills c_fields c_wants c_hated c_sizes c_grows c_grounds l_ops l_worksFrom l_worksTo l_keepsFrom l_keepsTo m_city m_kind m_skill m_fieldTold m_want m_hates m_restsOn m_sizeTold m_grows m_lineFrom m_lineTo m_codes) (hT : RT D 0 r_told r_dangers r_months r_sizes m_tolds m_toldDanger m_toldMonths m_toldSize) (x1 : Int32) (st : Nat → Int32) : ∃ (v : Int32) (st' lk : Nat → Int32), (f_X12_when c_men c_dangers c_kinds c_skills c_wants c_sizes l_ops st l_worksFrom l_worksTo l_keepsFrom l_keepsTo u_likeSizes r_told r_dangers r_months r_sizes x1) = some (v, st', lk) ∧ ∃ (y_kept y_keptBy y_ahead y_against y_sum y_sumBy y_term y_termBy y_byNot y_valueOf : Nat → Int32), (f_X13_when m_city m_kind m_skill m_want m_sizeTold m_lineFrom m_lineTo m_codes z_kept z_keptBy z_ahead z_against z_sum z_sumBy z_term z_termBy z_byNot z_valueOf m_tolds m_toldDanger m_toldMonths m_toldSize x1) = some (v, 0, y_kept, y_keptBy, y_ahead, y_against, y_sum, y_sumBy, y_term, y_termBy, y_byNot, y_valueOf) := by
  have hcc := hc
  obtain ⟨⟨hM, hD, hQ⟩, ⟨rfl, rfl, rfl⟩, ⟨hc0, hc1, hc2, hc3, hc4⟩, hT2, hmm, hsk, hdd, hq, hsv, hkv, hCS, hCK, hMS, hMK⟩ := hc
  obtain ⟨T, h1, rfl, h3, h4⟩ := hT.zero
  unfold f_X12_when f_X13_when
  rcases ix x1 D (by omega) with h | ⟨d, hd, rfl⟩
  · rw [isDanger_0 hc1 h, hasDanger_0 h]; exact ⟨_, _, _, rfl, z_kept, z_keptBy, z_ahead, z_against, z_sum, z_sumBy, z_term, z_termBy, z_byNot, z_valueOf, rfl⟩
  · rw [isDanger_1 hc1 hD hd, hasDanger_1 hD hd]
    simp only [o_bs, if_neg n10]
    obtain ⟨st1, hs⟩ := suspects_eq (r_sizes := r_sizes) hcc h1 (fun k hk => (h4 k hk).2.2.2) st
    obtain ⟨y_kept, y_keptBy, y_ahead, y_against, y_sum, y_sumBy, y_term, y_termBy, y_byNot, y_valueOf, hy⟩ := allWho_eq (z_kept := z_kept) (z_keptBy := z_keptBy) (z_ahead := z_ahead) (z_against := z_against) (z_sum := z_sum) (z_sumBy := z_sumBy) (z_term := z_term) (z_termBy := z_termBy) (z_byNot := z_byNot) (z_valueOf := z_valueOf) hcc h1 h3 h4
    rw [hs, hy]
    simp only [o_bs]
    have hS6 : bs (fun i => allF (ftP sv c_sizes r_dangers r_months r_sizes i) T 0) M < 64 := by
      have e1 := bs_lt (fun i => allF (ftP sv c_sizes r_dangers r_months r_sizes i) T 0) M
      have e2 : 2 ^ M ≤ 2 ^ 6 := Nat.pow_le_pow_right (by decide) hM
      omega
    generalize bs (fun i => allF (ftP sv c_sizes r_dangers r_months r_sizes i) T 0) M = S at hS6 ⊢
    have hn : 0 ≤ (c_sizes d).toInt ∧ (c_sizes d).toInt ≤ 99 := ⟨(hdd d hd).2.2.1, (hdd d hd).2.2.2.1⟩
    unfold f_X2_parting
    rw [when28_eq hS6]
    obtain ⟨v, lk', st', v_kept, v_keptBy, v_ahead, v_against, v_sum, v_sumBy, v_term, v_termBy, v_byNot, v_valueOf, k1, k2⟩ := part_rel hcc hM hD rfl hd hS6 hn 1100 0 (-1) (f_X20_bitCount (nI S)) u_likeSizes st1 y_kept y_keptBy y_ahead y_against y_sum y_sumBy y_term y_termBy y_byNot y_valueOf (by omega) (by omega)
    have k1' : (f_X2_parting_16 1100 u_likeSizes (nI M) c_kinds c_skills c_wants c_sizes l_ops st1 l_worksFrom l_worksTo l_keepsFrom l_keepsTo (nI d) (nI S) (-1) (f_X20_bitCount (nI S)) 0) = some (v, lk', st') := k1
    rw [k1']
    exact ⟨v, st', lk', rfl, v_kept, v_keptBy, v_ahead, v_against, v_sum, v_sumBy, v_term, v_termBy, v_byNot, v_valueOf, k2⟩
/-! tell -/
theorem call_tell (hc : RC M D Q sv kv c_men c_consuls c_dangers c_decrees c_term c_kinds c_skills c_fields c_wants c_hated c_sizes c_grows c_grounds l_ops l_worksFrom l_worksTo l_keepsFrom l_keepsTo m_city m_kind m_skill m_fieldTold m_want m_hates m_restsOn m_sizeTold m_grows m_lineFrom m_lineTo m_codes) (hT : RT D 0 r_told r_dangers r_months r_sizes m_tolds m_toldDanger m_toldMonths m_toldSize) (x1 x2 x3 : Int32) : ∃ (v : Int32) (q_told : Int32) (q_dangers q_months q_sizes : Nat → Int32) (t1 t2 t3 t4 : Nat → Int32), (f_X12_tell c_dangers r_told r_dangers r_months r_sizes x1 x2 x3) = some (v, q_told, q_dangers, q_months, q_sizes) ∧ (f_X13_tell m_city m_tolds m_toldDanger m_toldMonths m_toldSize x1 x2 x3) = some (v, 0, t1, t2, t3, t4) ∧ RT D 0 q_told q_dangers q_months q_sizes t1 t2 t3 t4 ∧ (∀ i, 1 ≤ i → t1 i = m_tolds i) ∧ (∀ i, 8 ≤ i → t2 i = m_toldDanger i ∧ t3 i = m_toldMonths i ∧ t4 i = m_toldSize i) := by
  obtain ⟨⟨hM, hD, hQ⟩, ⟨rfl, rfl, rfl⟩, ⟨hc0, hc1, hc2, hc3, hc4⟩, _⟩ := hc
  have same : ∃ (v : Int32) (q_told : Int32) (q_dangers q_months q_sizes : Nat → Int32) (t1 t2 t3 t4 : Nat → Int32), some ((0 : Int32), r_told, r_dangers, r_months, r_sizes) = some (v, q_told, q_dangers, q_months, q_sizes) ∧ some ((0 : Int32), (0 : Int32), m_tolds, m_toldDanger, m_toldMonths, m_toldSize) = some (v, 0, t1, t2, t3, t4) ∧ RT D 0 q_told q_dangers q_months q_sizes t1 t2 t3 t4 ∧ (∀ i, 1 ≤ i → t1 i = m_tolds i) ∧ (∀ i, 8 ≤ i → t2 i = m_toldDanger i ∧ t3 i = m_toldMonths i ∧ t4 i = m_toldSize i) :=
    ⟨_, _, _, _, _, _, _, _, _, rfl, rfl, hT, fun _ _ => rfl, fun _ _ => ⟨rfl, rfl, rfl⟩⟩
  unfold f_X12_tell f_X13_tell
  rcases ix x1 D (by omega) with h | ⟨d, hd, rfl⟩
  · rw [isDanger_0 hc1 h, hasDanger_0 h]; exact same
  · rw [isDanger_1 hc1 hD hd, hasDanger_1 hD hd]
    simp only [o_bs, if_neg n10, wth_eq]
    rcases wth_cases x2 0 12 with ⟨e, _⟩ | ⟨e, a1, a2⟩
    · rw [e, if_pos rfl, if_pos rfl]; exact same
    · rw [e, if_neg n10, if_neg n10]
      rcases wth_cases x3 0 99 with ⟨e, _⟩ | ⟨e, b1, b2⟩
      · rw [e, if_pos rfl, if_pos rfl]; exact same
      · rw [e, if_neg n10, if_neg n10]
        obtain ⟨T, h1, rfl, h3, h4⟩ := hT.zero
        simp only [gl_0_5, cl_0, h3]
        unfold f_X7_add
        by_cases h8 : T = 8
        · subst h8
          rw [if_neg (show ¬ nI 8 < 8 by decide), if_pos (show nI 8 = 8 by decide), q_zg0]; exact same
        · have g1 : nI T < 8 := by rw [show (8 : Int32) = nI 8 from rfl, nI_ltI (by omega) (by omega)]; omega
          have g2 : ¬ nI T = 8 := fun q => h8 ((nI_eq (a := T) (b := 8) (by omega) (by omega)).mp q)
          rw [if_pos g1, if_neg g2]
          simp (disch := omega) only [q_gd, nI_clamp, q_gp, q_zg1]
          refine ⟨_, _, _, _, _, _, _, _, _, rfl, rfl, ⟨T + 1, by omega, nI_1 T, ?_, fun i hi => ?_⟩, fun i hi => pk_un (by omega), fun i hi => ⟨pk_un (by omega), pk_un (by omega), pk_un (by omega)⟩⟩
          · rw [pk_us]; exact nI_1 T
          · rw [Nat.mul_zero, Nat.zero_add]
            simp only [upd_at]
            by_cases e : i = T
            · subst e
              simp only [if_pos]
              refine ⟨trivial, trivial, trivial, ⟨d, hd, rfl⟩, ?_⟩
              obtain ⟨t, ht, rfl⟩ := nI_of2 (M := 12) (n := 12) rfl a1 (by rw [i_le]; rw [i_lt] at a2; omega)
              exact ⟨t, ht, rfl⟩
            · simp only [if_neg e]
              exact h4 i (by omega)
end
