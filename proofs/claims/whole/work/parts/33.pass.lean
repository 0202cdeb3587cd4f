/-! a month passes, in both -/
/-- how many below n -/
def cn (P : Nat → Bool) : Nat → Nat
  | 0 => 0
  | k + 1 => cn P k + (if P k then 1 else 0)
theorem cn_le (P : Nat → Bool) : ∀ n, cn P n ≤ n := by
  intro n
  induction n with
  | zero => exact Nat.le_refl _
  | succ n ih => show cn P n + (if P n then 1 else 0) ≤ n + 1; split <;> omega
theorem cn_none {P : Nat → Bool} : ∀ n, (∀ i, i < n → P i = false) → cn P n = 0 := by
  intro n
  induction n with
  | zero => intro _; rfl
  | succ n ih =>
    intro h
    show cn P n + (if P n then 1 else 0) = 0
    rw [ih (fun i hi => h i (by omega)), h n (by omega)]; rfl
theorem cn_one {P : Nat → Bool} {d : Nat} : ∀ n, d < n → (∀ i, i < n → ¬ i = d → P i = false) → cn P n = if P d then 1 else 0 := by
  intro n
  induction n with
  | zero => intro h _; omega
  | succ n ih =>
    intro h hz
    show cn P n + (if P n then 1 else 0) = _
    by_cases e : d = n
    · subst e; rw [cn_none d (fun i hi => hz i (by omega) (by omega)), Nat.zero_add]
    · rw [ih (by omega) (fun i hi hn => hz i (by omega) hn), hz n (by omega) (fun q => e q.symm)]; rfl
theorem cn_two {P : Nat → Bool} {d o : Nat} : ∀ n, d < n → o < n → ¬ o = d → (∀ i, i < n → ¬ i = d → ¬ i = o → P i = false) → cn P n = (if P d then 1 else 0) + (if P o then 1 else 0) := by
  intro n
  induction n with
  | zero => intro h _; omega
  | succ n ih =>
    intro h ho hne hz
    show cn P n + (if P n then 1 else 0) = _
    by_cases e : d = n
    · subst e; rw [cn_one (d := o) d (by omega) (fun i hi hn => hz i (by omega) (by omega) hn), Nat.add_comm]
    · by_cases e2 : o = n
      · subst e2; rw [cn_one (d := d) o (by omega) (fun i hi hn => hz i (by omega) hn (by omega))]
      · rw [ih (by omega) (by omega) hne (fun i hi h1 h2 => hz i (by omega) h1 h2), hz n (by omega) (fun q => e q.symm) (fun q => e2 q.symm)]; rfl
section
variable {s_month s_power s_master s_left s_kept s_passed : Int32} {s_sizes s_fields s_liked : Nat → Int32} {m_s : Nat → Int32} {M D Q : Nat} {sv kv : Nat → Int32 → Int32 → Int32} {c_men c_consuls c_dangers c_decrees c_term : Int32} {c_kinds c_skills c_fields c_wants c_hated c_sizes c_grows c_grounds : Nat → Int32} {l_ops : Nat → Int32} {l_worksFrom l_worksTo l_keepsFrom l_keepsTo : Int32} {m_city m_kind m_skill m_fieldTold m_want m_hates m_restsOn m_sizeTold m_grows : Nat → Int32} {m_lineFrom m_lineTo m_codes : Nat → Int32} {z_kept z_keptBy z_ahead z_against z_sum z_sumBy z_term z_termBy z_byNot z_valueOf : Nat → Int32}
theorem RS.sz (hR : RS s_month s_power s_master s_left s_kept s_passed s_sizes s_fields s_liked m_s) {f : Nat → Int32} (h : ∀ i, i < 5 → s_sizes i = f i) : RS s_month s_power s_master s_left s_kept s_passed f s_fields s_liked m_s := by
  obtain ⟨h0, h1, h2, h3, h4, h5, h6, h7, h8⟩ := hR
  exact ⟨h0, h1, h2, h3, h4, h5, fun i hi => (h6 i hi).trans (h i hi), h7, h8⟩
theorem p5_eq (hD : D ≤ 5) (hc : m_city 1 = nI D) (hR : RS s_month s_power s_master s_left s_kept s_passed s_sizes s_fields s_liked m_s) {x1 x2 : Int32} : ∀ (fu k : Nat), k ≤ D → D < fu + k →
    (f_X13_passes_5 fu m_city m_kind m_skill m_want m_grows m_lineFrom m_lineTo m_codes z_kept z_keptBy z_ahead z_against z_sum z_sumBy z_term z_termBy z_byNot z_valueOf m_s x1 x2 (nI (bs (fun i => decide (¬ s_sizes i ≤ 0)) k)) (nI k)) = (f_X13_passes_5 (0 + 1) m_city m_kind m_skill m_want m_grows m_lineFrom m_lineTo m_codes z_kept z_keptBy z_ahead z_against z_sum z_sumBy z_term z_termBy z_byNot z_valueOf m_s x1 x2 (nI (bs (fun i => decide (¬ s_sizes i ≤ 0)) D)) (nI D)) := by
  intro fu
  induction fu with
  | zero => intro k h1 h2; omega
  | succ fu ih =>
    intro k h1 h2
    by_cases h : k < D
    · rw [f_X13_passes_5.eq_2]
      simp only [gl_1_10, cl_1, hc]
      rw [if_neg (by rw [nI_leI (by omega) (by omega)]; omega)]
      simp (disch := omega) only [qa_6, q_gd, nI_clamp, nI_1]
      rw [hR.2.2.2.2.2.2.1 k (by omega)]
      have h3 := ih (k + 1) (by omega) (by omega)
      by_cases hs : s_sizes k ≤ 0
      · rw [if_pos hs, ← h3, or_0]
        show _ = (f_X13_passes_5 fu m_city m_kind m_skill m_want m_grows m_lineFrom m_lineTo m_codes z_kept z_keptBy z_ahead z_against z_sum z_sumBy z_term z_termBy z_byNot z_valueOf m_s x1 x2 (nI (bs (fun i => decide (¬ s_sizes i ≤ 0)) k ||| (if decide (¬ s_sizes k ≤ 0) = true then 2 ^ k else 0))) (nI (k + 1)))
        rw [if_neg (by simp [hs]), Nat.or_zero]
      · rw [if_neg hs, ← h3, shl1 (by omega), nI_or]
        show _ = (f_X13_passes_5 fu m_city m_kind m_skill m_want m_grows m_lineFrom m_lineTo m_codes z_kept z_keptBy z_ahead z_against z_sum z_sumBy z_term z_termBy z_byNot z_valueOf m_s x1 x2 (nI (bs (fun i => decide (¬ s_sizes i ≤ 0)) k ||| (if decide (¬ s_sizes k ≤ 0) = true then 2 ^ k else 0))) (nI (k + 1)))
        rw [if_pos (by simp [hs])]
    · have hk : k = D := by omega
      subst hk
      rw [f_X13_passes_5.eq_2, f_X13_passes_5.eq_2]
      simp only [gl_1_10, cl_1, hc]
      have hle : nI k ≤ nI k := Int32.le_refl _
      rw [if_pos hle, if_pos hle]
theorem p174_eq (hD : D ≤ 5) (hc : m_city 1 = nI D) (hg : ∀ i, i < D → m_grows i = c_grows i) (hgr : ∀ i, i < D → 0 ≤ (c_grows i).toInt ∧ (c_grows i).toInt ≤ 9) {B T : Nat} (hB : B < 2 ^ 31) (hT : T < 2 ^ 31) {C : Nat → Bool} {x5 : Int32} : ∀ (fu k : Nat) (ms1 sz1 : Nat → Int32), RS s_month s_power s_master s_left s_kept s_passed sz1 s_fields s_liked ms1 → (∀ i, i < D → 0 ≤ (sz1 i).toInt ∧ (sz1 i).toInt ≤ 99) → (∀ i, k ≤ i → i < D → C i = (B.testBit i && decide (sz1 i = 0))) → k ≤ D → D < fu + k →
    ∃ ms2, RS s_month s_power s_master s_left s_kept s_passed (fun i => if k ≤ i ∧ i < D ∧ T.testBit i = false then gr1 c_grows sz1 i else sz1 i) s_fields s_liked ms2 ∧
      (f_X13_passes_174 fu m_city m_kind m_skill m_want m_grows m_lineFrom m_lineTo m_codes z_kept z_keptBy z_ahead z_against z_sum z_sumBy z_term z_termBy z_byNot z_valueOf ms1 (nI B) (nI T) x5 (nI (cn C k)) (nI k)) = (f_X13_passes_174 (0 + 1) m_city m_kind m_skill m_want m_grows m_lineFrom m_lineTo m_codes z_kept z_keptBy z_ahead z_against z_sum z_sumBy z_term z_termBy z_byNot z_valueOf ms2 (nI B) (nI T) x5 (nI (cn C D)) (nI D)) := by
  intro fu
  induction fu with
  | zero => intro k ms1 sz1 _ _ _ h1 h2; omega
  | succ fu ih =>
    intro k ms1 sz1 hR hpos hC h1 h2
    by_cases h : k < D
    · have hsk := hR.2.2.2.2.2.2.1 k (by omega)
      -- one step by s1
      have step : ∀ b : Nat, b = (if C k then 1 else 0) → ∃ ms2, RS s_month s_power s_master s_left s_kept s_passed (fun i => if k ≤ i ∧ i < D ∧ T.testBit i = false then gr1 c_grows sz1 i else sz1 i) s_fields s_liked ms2 ∧
          (f_X13_passes_215 (f_X13_passes_174 fu) m_city m_kind m_skill m_want m_grows m_lineFrom m_lineTo m_codes z_kept z_keptBy z_ahead z_against z_sum z_sumBy z_term z_termBy z_byNot z_valueOf ms1 (nI B) (nI T) x5 (nI k) (nI (cn C k)) (nI b)) = (f_X13_passes_174 (0 + 1) m_city m_kind m_skill m_want m_grows m_lineFrom m_lineTo m_codes z_kept z_keptBy z_ahead z_against z_sum z_sumBy z_term z_termBy z_byNot z_valueOf ms2 (nI B) (nI T) x5 (nI (cn C D)) (nI D)) := by
        intro b hb
        have hcn : nI (cn C k) + nI b = nI (cn C (k + 1)) := by rw [nI_add, hb]; rfl
        unfold f_X13_passes_215
        simp (disch := omega) only [qa_6, q_gd, nI_clamp, nI_1, hcn]
        rw [hsk, hg k h]
        by_cases hs : sz1 k ≤ 0
        · rw [if_pos hs]
          have hs0 : sz1 k = 0 := by rw [i_eq, t0]; rw [i_le, t0] at hs; have := hpos k h; omega
          obtain ⟨ms2, r1, r2⟩ := ih (k + 1) ms1 sz1 hR hpos (fun i hi => hC i (by omega)) (by omega) (by omega)
          refine ⟨ms2, r1.sz (fun i hi => ?_), r2⟩
          by_cases e : i = k
          · subst e
            rw [if_neg (by omega)]
            split
            · unfold gr1; rw [if_pos hs0]; exact hs0
            · rfl
          · by_cases h3 : k ≤ i
            · exact if_iff ⟨fun q => ⟨h3, q.2⟩, fun q => ⟨by omega, q.2⟩⟩
            · rw [if_neg (by omega), if_neg (by omega)]
        · rw [if_neg hs]
          by_cases hb : T.testBit k = false
          · rw [if_pos ((bit0 hT (by omega)).mpr hb)]
            have hR2 := hR.sizes' (k := k) (by omega) (imin 99 (sz1 k + c_grows k))
            have hg1 : gr1 c_grows sz1 k = imin 99 (sz1 k + c_grows k) := by
              unfold gr1; rw [if_neg (fun q => hs (by rw [q]; decide))]
            obtain ⟨ms2, r1, r2⟩ := ih (k + 1) _ _ hR2 (fun i hi => by
              simp only [upd_at]
              split
              · rw [← hg1]; exact gr1_rng (hpos k h) (hgr k h)
              · exact hpos i hi) (fun i hi hd => by rw [hC i (by omega) hd, pk_un (by omega)]) (by omega) (by omega)
            refine ⟨ms2, r1.sz (fun i hi => ?_), r2⟩
            by_cases e : i = k
            · subst e
              rw [if_neg (by omega), if_pos ⟨Nat.le_refl _, h, hb⟩, pk_us, hg1]
            · have e2 : ∀ v, gr1 c_grows (upd sz1 k v) i = gr1 c_grows sz1 i := fun v => by unfold gr1; rw [pk_un e]
              rw [e2, pk_un e]
              by_cases h3 : k ≤ i
              · exact if_iff ⟨fun q => ⟨h3, q.2⟩, fun q => ⟨by omega, q.2⟩⟩
              · rw [if_neg (by omega), if_neg (by omega)]
          · rw [if_neg (fun q => hb ((bit0 hT (by omega)).mp q))]
            obtain ⟨ms2, r1, r2⟩ := ih (k + 1) ms1 sz1 hR hpos (fun i hi => hC i (by omega)) (by omega) (by omega)
            refine ⟨ms2, r1.sz (fun i hi => ?_), r2⟩
            by_cases e : i = k
            · subst e
              rw [if_neg (by omega), if_neg (fun q => hb q.2.2)]
            · by_cases h3 : k ≤ i
              · exact if_iff ⟨fun q => ⟨h3, q.2⟩, fun q => ⟨by omega, q.2⟩⟩
              · rw [if_neg (by omega), if_neg (by omega)]
      have hCk := hC k (Nat.le_refl _) h
      rw [f_X13_passes_174.eq_2]
      simp only [gl_1_10, cl_1, hc]
      rw [if_neg (by rw [nI_leI (by omega) (by omega)]; omega)]
      simp (disch := omega) only [qa_6, q_gd, nI_clamp]
      rw [hsk]
      by_cases hb : B.testBit k = true
      · rw [if_pos ((bit1 hB (by omega)).mpr hb)]
        by_cases hz : sz1 k = 0
        · rw [if_pos hz]
          exact step 1 (by rw [hCk, hb, hz]; rfl)
        · rw [if_neg hz]
          exact step 0 (by rw [hCk, hb]; simp [hz])
      · rw [if_neg (fun q => hb ((bit1 hB (by omega)).mp q))]
        exact step 0 (by rw [hCk]; simp [hb])
    · have hk : k = D := by omega
      subst hk
      refine ⟨ms1, hR.sz (fun i hi => by rw [if_neg (by omega)]), ?_⟩
      rw [f_X13_passes_174.eq_2, f_X13_passes_174.eq_2]
      simp only [gl_1_10, cl_1, hc]
      have hle : nI k ≤ nI k := Int32.le_refl _
      rw [if_pos hle, if_pos hle]
end
section
variable {s_month s_power s_master s_left s_kept s_passed : Int32} {s_sizes s_fields s_liked : Nat → Int32} {m_s : Nat → Int32} {M D Q : Nat} {sv kv : Nat → Int32 → Int32 → Int32} {c_men c_consuls c_dangers c_decrees c_term : Int32} {c_kinds c_skills c_fields c_wants c_hated c_sizes c_grows c_grounds : Nat → Int32} {l_ops : Nat → Int32} {l_worksFrom l_worksTo l_keepsFrom l_keepsTo : Int32} {m_city m_kind m_skill m_fieldTold m_want m_hates m_restsOn m_sizeTold m_grows : Nat → Int32} {m_lineFrom m_lineTo m_codes : Nat → Int32} {z_kept z_keptBy z_ahead z_against z_sum z_sumBy z_term z_termBy z_byNot z_valueOf : Nat → Int32}
/-- behind the turning: the others grow, the month ends -/
theorem tail_rel (hc : RC M D Q sv kv c_men c_consuls c_dangers c_decrees c_term c_kinds c_skills c_fields c_wants c_hated c_sizes c_grows c_grounds l_ops l_worksFrom l_worksTo l_keepsFrom l_keepsTo m_city m_kind m_skill m_fieldTold m_want m_hates m_restsOn m_sizeTold m_grows m_lineFrom m_lineTo m_codes) {p : Nat} (hp : p < M) {sz1 lk1 ms1 : Nat → Int32} (hR : RS s_month (nI p) s_master s_left s_kept s_passed sz1 s_fields lk1 ms1) (hm : s_master = -1 ∨ ∃ q, q < M ∧ s_master = nI q) (hk : s_kept = 0 ∨ s_kept = 1) (hl : s_kept = 0 → 1 ≤ s_left.toInt)
    (hrg : ∀ i, i < 5 → 0 ≤ (sz1 i).toInt ∧ (sz1 i).toInt ≤ 99) (hz : ∀ i, D ≤ i → i < 5 → sz1 i = 0) (hf : ∀ i, M ≤ i → i < 6 → s_fields i = 0) {B T : Nat} (hB : B < 2 ^ 31) (hT : T < 2 ^ 31) {t o : Int32} (hto : ∀ i, i < D → (T.testBit i = false ↔ ¬ nI i = t ∧ ¬ nI i = o)) {r : Int32} (hr : r = nI (cn (fun i => B.testBit i && decide (sz1 i = 0)) D)) (hr2 : 0 ≤ r.toInt ∧ r.toInt ≤ 2) (st : Nat → Int32) :
    ∃ (t_month t_power t_master t_left t_kept t_passed : Int32) (t_sizes t_fields t_liked : Nat → Int32) (st' : Nat → Int32), (((f_X9_grow sz1 c_dangers c_grows t o)).bind fun r34 => ((f_X9_closeMonth (nI p) s_master s_left s_kept s_passed r34 s_fields lk1 c_kinds c_skills c_wants l_ops st l_worksFrom l_worksTo l_keepsFrom l_keepsTo r)).bind fun r41 => f_X9_passMonth_44 s_month r41.1 r41.2.1 r41.2.2.1 r41.2.2.2.1 r41.2.2.2.2.1 r34 r41.2.2.2.2.2.1 r41.2.2.2.2.2.2.1 r41.2.2.2.2.2.2.2 r) = some (r, t_month, t_power, t_master, t_left, t_kept, t_passed, t_sizes, t_fields, t_liked, st') ∧
    (∃ (y_kept y_keptBy y_ahead y_against y_sum y_sumBy y_term y_termBy y_byNot y_valueOf : Nat → Int32) (ms' : Nat → Int32), (f_X13_passes_174 1100 m_city m_kind m_skill m_want m_grows m_lineFrom m_lineTo m_codes z_kept z_keptBy z_ahead z_against z_sum z_sumBy z_term z_termBy z_byNot z_valueOf ms1 (nI B) (nI T) (nI p) 0 0) = some (r, y_kept, y_keptBy, y_ahead, y_against, y_sum, y_sumBy, y_term, y_termBy, y_byNot, y_valueOf, ms') ∧ RS t_month t_power t_master t_left t_kept t_passed t_sizes t_fields t_liked ms') ∧ GS M D t_month t_power t_master t_left t_kept t_passed t_sizes t_fields t_liked ∧ (0 ≤ r.toInt ∧ r.toInt ≤ 2) := by
  have hcc := hc
  obtain ⟨⟨hM, hD, hQ⟩, ⟨rfl, rfl, rfl⟩, ⟨hc0, hc1, hc2, hc3, hc4⟩, hT2, hmm, hsk, hd, hq, hsv, hkv, hCS, hCK, hMS, hMK⟩ := hc
  obtain ⟨ms2, r1, r2⟩ := p174_eq (z_kept := z_kept) (z_keptBy := z_keptBy) (z_ahead := z_ahead) (z_against := z_against) (z_sum := z_sum) (z_sumBy := z_sumBy) (z_term := z_term) (z_termBy := z_termBy) (z_byNot := z_byNot) (z_valueOf := z_valueOf) hD hc1 (fun i hi => (hd i hi).2.1) (fun i hi => (hd i hi).2.2.2.2) hB hT (C := fun i => B.testBit i && decide (sz1 i = 0)) (x5 := nI p) 1100 0 ms1 sz1 hR (fun i hi => hrg i (by omega)) (fun i _ _ => rfl) (Nat.zero_le _) (by omega)
  have hgw : ∀ i, i < 5 → (if 0 ≤ i ∧ i < D ∧ T.testBit i = false then gr1 c_grows sz1 i else sz1 i) = grw D c_grows sz1 t o i := by
    intro i hi
    unfold grw
    by_cases h : i < D
    · by_cases h2 : T.testBit i = false
      · rw [if_pos ⟨Nat.zero_le _, h, h2⟩, if_pos ⟨h, (hto i h).mp h2⟩]
      · rw [if_neg (fun q => h2 q.2.2), if_neg (fun q => h2 ((hto i h).mpr q.2))]
    · rw [if_neg (by omega), if_neg (by omega)]
  have r1 := r1.sz hgw
  have hrg2 : ∀ i, i < 5 → 0 ≤ (grw D c_grows sz1 t o i).toInt ∧ (grw D c_grows sz1 t o i).toInt ≤ 99 := by
    intro i hi
    unfold grw
    split
    · rename_i h; exact gr1_rng (hrg i hi) (hd i h.1).2.2.2.2
    · exact hrg i hi
  have hz2 : ∀ i, D ≤ i → i < 5 → grw D c_grows sz1 t o i = 0 := by
    intro i h1 h2
    unfold grw
    rw [if_neg (by omega)]; exact hz i h1 h2
  have r3 := r1.month' (s_month + 1)
  obtain ⟨pw, mr, lf, kp, ps, fd, lk, st', h1, ⟨y_kept, y_keptBy, y_ahead, y_against, y_sum, y_sumBy, y_term, y_termBy, y_byNot, y_valueOf, ms', h2, h3⟩, h4, h5, h6, h7⟩ := close_rel (z_kept := z_kept) (z_keptBy := z_keptBy) (z_ahead := z_ahead) (z_against := z_against) (z_sum := z_sum) (z_sumBy := z_sumBy) (z_term := z_term) (z_termBy := z_termBy) (z_byNot := z_byNot) (z_valueOf := z_valueOf) hcc hp r3 hk hl hz2 r st
  refine ⟨s_month + 1, pw, mr, lf, kp, ps, grw D c_grows sz1 t o, fd, lk, st', ?_, ⟨y_kept, y_keptBy, y_ahead, y_against, y_sum, y_sumBy, y_term, y_termBy, y_byNot, y_valueOf, ms', ?_, h3⟩, ?_, hr2⟩
  · rw [grow_eq hD]
    simp only [o_bs]
    rw [h1]; rfl
  · show (f_X13_passes_174 1100 m_city m_kind m_skill m_want m_grows m_lineFrom m_lineTo m_codes z_kept z_keptBy z_ahead z_against z_sum z_sumBy z_term z_termBy z_byNot z_valueOf ms1 (nI B) (nI T) (nI p) (nI (cn (fun i => B.testBit i && decide (sz1 i = 0)) 0)) (nI 0)) = _
    rw [r2, f_X13_passes_174.eq_2]
    simp only [gl_1_10, cl_1, hc1, gl_0_23, cl_0]
    rw [if_pos (by rw [nI_leI (by omega) (by omega)]; omega), if_neg (nI_pos (by omega)), r1.1, ← hr, h2]
    rfl
  · refine ⟨?_, ?_, h5, h6, hrg2, hz2, fun i hi hi6 => ?_⟩
    · rcases h4 with ⟨h, _⟩ | ⟨h, _⟩
      · exact Or.inl h
      · exact Or.inr ⟨p, hp, h⟩
    · rcases h4 with ⟨_, h⟩ | ⟨_, h⟩
      · exact Or.inl h
      · rw [h]; exact hm
    · rw [h7 i (by omega)]; exact hf i hi hi6
theorem eD_nI {a b : Int32} (h : 0 ≤ a.toInt) : eD a b = nI (if decide (¬ a ≤ 0) && decide (b = 0) then 1 else 0) := by
  unfold eD
  by_cases h1 : a ≤ 0
  · rw [if_pos h1, if_neg (by simp [h1])]; rfl
  · rw [if_neg h1]
    by_cases h2 : b = 0
    · rw [if_pos h2, if_pos (by simp [h1, h2])]; rfl
    · rw [if_neg h2, if_neg (by simp [h2])]; rfl
theorem m_lt {a : Int32} (h : a = -1) : a < 0 := by rw [h]; decide
theorem pm_rel (hc : RC M D Q sv kv c_men c_consuls c_dangers c_decrees c_term c_kinds c_skills c_fields c_wants c_hated c_sizes c_grows c_grounds l_ops l_worksFrom l_worksTo l_keepsFrom l_keepsTo m_city m_kind m_skill m_fieldTold m_want m_hates m_restsOn m_sizeTold m_grows m_lineFrom m_lineTo m_codes) (hR : RS s_month s_power s_master s_left s_kept s_passed s_sizes s_fields s_liked m_s) (hG : GS M D s_month s_power s_master s_left s_kept s_passed s_sizes s_fields s_liked) {d : Nat} (hd : d < D) {o : Int32} (ho : o = -1 ∨ ∃ j, j < D ∧ ¬ j = d ∧ o = nI j ∧ ¬ s_power = -1 ∧ ¬ s_master = -1) (st : Nat → Int32) :
    ∃ (r : Int32) (t_month t_power t_master t_left t_kept t_passed : Int32) (t_sizes t_fields t_liked : Nat → Int32) (st' : Nat → Int32), (f_X9_passMonth s_month s_power s_master s_left s_kept s_passed s_sizes s_fields s_liked c_dangers c_kinds c_skills c_wants c_grows l_ops st l_worksFrom l_worksTo l_keepsFrom l_keepsTo (nI d) o) = some (r, t_month, t_power, t_master, t_left, t_kept, t_passed, t_sizes, t_fields, t_liked, st') ∧
    (∃ (y_kept y_keptBy y_ahead y_against y_sum y_sumBy y_term y_termBy y_byNot y_valueOf : Nat → Int32) (ms' : Nat → Int32), (f_X13_passes m_city m_kind m_skill m_want m_grows m_lineFrom m_lineTo m_codes z_kept z_keptBy z_ahead z_against z_sum z_sumBy z_term z_termBy z_byNot z_valueOf m_s (nI d) o) = some (r, y_kept, y_keptBy, y_ahead, y_against, y_sum, y_sumBy, y_term, y_termBy, y_byNot, y_valueOf, ms') ∧ RS t_month t_power t_master t_left t_kept t_passed t_sizes t_fields t_liked ms') ∧ GS M D t_month t_power t_master t_left t_kept t_passed t_sizes t_fields t_liked ∧ (0 ≤ r.toInt ∧ r.toInt ≤ 2) := by
  have hcc := hc
  obtain ⟨⟨hM, hD, hQ⟩, ⟨rfl, rfl, rfl⟩, ⟨hc0, hc1, hc2, hc3, hc4⟩, hT2, hmm, hsk, hdd, hq, hsv, hkv, hCS, hCK, hMS, hMK⟩ := hc
  obtain ⟨hpw, hmr, hkp, hlf, hrg, hz, hf⟩ := hG
  have hp5 := p5_eq (z_kept := z_kept) (z_keptBy := z_keptBy) (z_ahead := z_ahead) (z_against := z_against) (z_sum := z_sum) (z_sumBy := z_sumBy) (z_term := z_term) (z_termBy := z_termBy) (z_byNot := z_byNot) (z_valueOf := z_valueOf) (m_lineFrom := m_lineFrom) (m_lineTo := m_lineTo) (m_codes := m_codes) (m_kind := m_kind) (m_skill := m_skill) (m_want := m_want) (m_grows := m_grows) hD hc1 hR (x1 := nI d) (x2 := o) 1100 0 (Nat.zero_le _) (by omega)
  have hB := Nat.lt_trans (bs_lt (fun i => decide (¬ s_sizes i ≤ 0)) D) (Nat.pow_lt_pow_right (by decide) (show D < 31 by omega))
  have hd5 : d < 5 := by omega
  have hmodel : (f_X13_passes m_city m_kind m_skill m_want m_grows m_lineFrom m_lineTo m_codes z_kept z_keptBy z_ahead z_against z_sum z_sumBy z_term z_termBy z_byNot z_valueOf m_s (nI d) o) = (f_X13_passes_5 (0 + 1) m_city m_kind m_skill m_want m_grows m_lineFrom m_lineTo m_codes z_kept z_keptBy z_ahead z_against z_sum z_sumBy z_term z_termBy z_byNot z_valueOf m_s (nI d) o (nI (bs (fun i => decide (¬ s_sizes i ≤ 0)) D)) (nI D)) := hp5
  rw [hmodel, f_X13_passes_5.eq_2]
  simp only [gl_1_10, cl_1, hc1, gl_1_23]
  rw [if_pos (by rw [nI_leI (by omega) (by omega)]; omega), hR.2.1]
  generalize hBB : bs (fun i => decide (¬ s_sizes i ≤ 0)) D = B at hB ⊢
  have hbit : ∀ i, i < D → B.testBit i = decide (¬ s_sizes i ≤ 0) := by
    intro i hi; rw [← hBB, bs_bit]; simp [hi]
  rcases hpw with rfl | ⟨p, hp, rfl⟩
  · -- nobody has the power
    have ho1 : o = -1 := by rcases ho with h | ⟨_, _, _, _, h, _⟩; exact h; exact absurd rfl h
    subst ho1
    obtain ⟨ms2, r1, r2⟩ := p174_eq (z_kept := z_kept) (z_keptBy := z_keptBy) (z_ahead := z_ahead) (z_against := z_against) (z_sum := z_sum) (z_sumBy := z_sumBy) (z_term := z_term) (z_termBy := z_termBy) (z_byNot := z_byNot) (z_valueOf := z_valueOf) (m_lineFrom := m_lineFrom) (m_lineTo := m_lineTo) (m_codes := m_codes) (m_kind := m_kind) (m_skill := m_skill) (m_want := m_want) hD hc1 (fun i hi => (hdd i hi).2.1) (fun i hi => (hdd i hi).2.2.2.2) hB (T := 0) (by omega) (C := fun i => B.testBit i && decide (s_sizes i = 0)) (x5 := -1) 1100 0 m_s s_sizes hR (fun i hi => hrg i (by omega)) (fun i _ _ => rfl) (Nat.zero_le _) (by omega)
    have hcn : cn (fun i => B.testBit i && decide (s_sizes i = 0)) D = 0 := cn_none D (fun i hi => by
      rw [hbit i hi]
      by_cases h : s_sizes i = 0
      · rw [h]; decide
      · simp [h])
    have hgw : ∀ i, i < 5 → (if 0 ≤ i ∧ i < D ∧ (0 : Nat).testBit i = false then gr1 c_grows s_sizes i else s_sizes i) = grw D c_grows s_sizes (-1) (-1) i := by
      intro i hi
      unfold grw
      by_cases h : i < D
      · rw [if_pos ⟨Nat.zero_le _, h, Nat.zero_testBit i⟩, if_pos ⟨h, nI_m1 i (by omega), nI_m1 i (by omega)⟩]
      · rw [if_neg (by omega), if_neg (by omega)]
    have r0 := r1.sz hgw
    have r1 := r0.month' (s_month + 1)
    refine ⟨0, s_month + 1, -1, s_master, s_left, s_kept, s_passed, grw D c_grows s_sizes (-1) (-1), s_fields, s_liked, st, ?_, ⟨z_kept, z_keptBy, z_ahead, z_against, z_sum, z_sumBy, z_term, z_termBy, z_byNot, z_valueOf, _, ?_, r1⟩, ⟨Or.inl rfl, hmr, hkp, fun h => absurd rfl h, ?_, ?_, hf⟩, by decide⟩
    · unfold f_X9_passMonth
      rw [if_pos rfl, grow_eq hD]; rfl
    · rw [if_pos (by decide)]
      show (f_X13_passes_174 1100 m_city m_kind m_skill m_want m_grows m_lineFrom m_lineTo m_codes z_kept z_keptBy z_ahead z_against z_sum z_sumBy z_term z_termBy z_byNot z_valueOf m_s (nI B) (nI 0) (-1) (nI (cn (fun i => B.testBit i && decide (s_sizes i = 0)) 0)) (nI 0)) = _
      rw [r2, f_X13_passes_174.eq_2, hcn]
      simp only [gl_1_10, cl_1, hc1, gl_0_23, cl_0]
      rw [if_pos (by rw [nI_leI (by omega) (by omega)]; omega), if_pos (by decide), r0.1]
      rfl
    · intro i hi
      unfold grw
      split
      · rename_i h; exact gr1_rng (hrg i hi) (hdd i h.1).2.2.2.2
      · exact hrg i hi
    · intro i h1 h2
      unfold grw
      rw [if_neg (by omega)]; exact hz i h1 h2
  · -- somebody has it
    rw [if_neg (nI_pos (by omega))]
    obtain ⟨st1, hst⟩ := hCS p hp (s_sizes d) s_passed st
    obtain ⟨y_kept, y_keptBy, y_ahead, y_against, y_sum, y_sumBy, y_term, y_termBy, y_byNot, y_valueOf, hy⟩ := hMS p hp (s_sizes d) s_passed z_kept z_keptBy z_ahead z_against z_sum z_sumBy z_term z_termBy z_byNot z_valueOf
    have hw := hsv p (s_sizes d) s_passed hp
    generalize sv p (s_sizes d) s_passed = w at hst hy hw
    have hpass := hR.2.2.2.2.2.1
    have hsd := hR.2.2.2.2.2.2.1 d hd5
    have hl' : s_kept = 0 → 1 ≤ s_left.toInt := hlf (nI_m1 p (by omega))
    rcases ho with rfl | ⟨j, hj, hjd, rfl, _, hm1⟩
    · -- he alone, and half of his master's skill
      rw [if_neg (by decide), shl1 (by omega)]
      unfold f_X13_passes_79 f_X9_passMonth f_X9_turn
      simp (disch := omega) only [qa_6, q_gd, nI_clamp, gl_5_23, cl_5, q_ga]
      rw [if_neg (nI_m1 p (by omega)), hsd, hpass, hst, hy]
      simp only [o_bs]
      obtain ⟨ms1, hl1, hR1⟩ := lessens_eq (x := w) hR hd5
      rw [hl1]
      simp only [o_bs, gl_2_23, cl_2]
      rw [if_pos (show (-1 : Int32) < 0 by decide)]
      simp only [hR1.2.2.1]
      have fin : ∀ (v : Int32) (ms2 : Nat → Int32), RS s_month (nI p) s_master s_left s_kept s_passed (upd s_sizes d v) s_fields s_liked ms2 → 0 ≤ v.toInt ∧ v.toInt ≤ 99 → _ := fun v ms2 h1 h2 =>
        tail_rel (t := nI d) (o := -1) (r := eD (s_sizes d) v) (lk1 := s_liked) (T := 2 ^ d) (z_kept := y_kept) (z_keptBy := y_keptBy) (z_ahead := y_ahead) (z_against := y_against) (z_sum := y_sum) (z_sumBy := y_sumBy) (z_term := y_term) (z_termBy := y_termBy) (z_byNot := y_byNot) (z_valueOf := y_valueOf) hcc hp h1 hmr hkp hl' (fun i hi => by
          simp only [upd_at]; split
          · exact h2
          · exact hrg i hi) (fun i h3 h4 => by rw [pk_un (by omega)]; exact hz i h3 h4) hf hB (Nat.pow_lt_pow_right (by decide) (by omega)) (fun i hi => by
          rw [Nat.testBit_two_pow]
          have := nI_eq (a := i) (b := d) (by omega) (by omega)
          rw [this]
          constructor
          · intro q; exact ⟨fun e => by simp [e] at q, nI_m1 i (by omega)⟩
          · intro q; simp [Ne.symm q.1]) (by
          rw [cn_one D hd (fun i hi hn => by
            rw [hbit i hi, pk_un hn]
            by_cases h : s_sizes i = 0
            · rw [h]; decide
            · simp [h]), hbit d hd, pk_us]
          exact eD_nI (hrg d hd5).1) (by unfold eD; split; decide; split; decide; decide) st1
      rcases hmr with rfl | ⟨q, hq1, rfl⟩
      · rw [if_pos rfl, if_pos (show (-1 : Int32) < 0 by decide)]
        obtain ⟨t_month, t_power, t_master, t_left, t_kept, t_passed, t_sizes, t_fields, t_liked, st', g1, g2, g3, g4⟩ := fin _ _ hR1 (less_rng (hrg d hd5) (by omega))
        refine ⟨_, t_month, t_power, t_master, t_left, t_kept, t_passed, t_sizes, t_fields, t_liked, st', ?_, g2, g3, g4⟩
        rw [← g1]
        unfold f_X9_turn_45
        rw [if_pos rfl, show w + (0 : Int32) / 2 = w from Int32.add_zero w, lessen_eq hd5]
        rfl
      · have hq6 : q < 6 := by omega
        rw [if_neg (nI_pos (by omega)), if_neg (nI_m1 q (by omega))]
        simp (disch := omega) only [q_gd, nI_clamp, q_ga]
        have hs9 := hsk q hq1
        rw [(hmm q hq1).2.1]
        obtain ⟨ms2, hl2, hR2⟩ := lessens_eq (x := c_skills q / 2) hR1 hd5
        rw [hl2]
        simp only [o_bs]
        have hh := half_rng hs9
        have hR3 := hR2.sz (f := upd s_sizes d (imax 0 (s_sizes d - (w + c_skills q / 2)))) (fun i hi => by
          simp only [upd_at]
          by_cases e : i = d
          · subst e; simp only [if_pos]; exact two_less (hrg i hi) hw (by omega)
          · simp only [if_neg e])
        obtain ⟨t_month, t_power, t_master, t_left, t_kept, t_passed, t_sizes, t_fields, t_liked, st', g1, g2, g3, g4⟩ := fin _ _ hR3 (less_rng (hrg d hd5) (by rw [i_add (by omega)]; omega))
        refine ⟨_, t_month, t_power, t_master, t_left, t_kept, t_passed, t_sizes, t_fields, t_liked, st', ?_, g2, g3, g4⟩
        rw [← g1]
        unfold f_X9_turn_45
        rw [if_pos rfl, lessen_eq hd5]
        rfl
    · -- his master turns to another one
      have hj5 : j < 5 := by omega
      obtain ⟨q, hq1, rfl⟩ : ∃ q, q < M ∧ s_master = nI q := by rcases hmr with h | h; exact absurd h hm1; exact h
      have hq6 : q < 6 := by omega
      rw [if_pos (nI_pos' (by omega)), shl1 (by omega), shl1 (by omega), nI_or]
      unfold f_X13_passes_79 f_X9_passMonth f_X9_turn
      simp (disch := omega) only [qa_6, q_gd, nI_clamp, gl_5_23, cl_5, q_ga]
      rw [if_neg (nI_m1 p (by omega)), hsd, hpass, hst, hy]
      simp only [o_bs]
      obtain ⟨ms1, hl1, hR1⟩ := lessens_eq (x := w) hR hd5
      rw [hl1]
      simp only [o_bs, gl_2_23, cl_2]
      rw [if_neg (nI_pos (by omega)), hR1.2.2.1]
      simp (disch := omega) only [q_gd, nI_clamp]
      have hs9 := hsk q hq1
      rw [(hmm q hq1).2.1]
      obtain ⟨ms2, hl2, hR2⟩ := lessens_eq (x := c_skills q) hR1 hj5
      rw [hl2]
      simp only [o_bs, gl_2_23, cl_2]
      rw [hR2.2.2.1]
      obtain ⟨ms3, hl3, hR3⟩ := likes_eq (x := 1) hR2 hq6
      rw [hl3]
      simp only [o_bs]
      have hj0 : upd s_sizes d (imax 0 (s_sizes d - w)) j = s_sizes j := pk_un hjd
      rw [hj0] at hR3
      have v1 := less_rng (hrg d hd5) (x := w) (by omega)
      have v2 := less_rng (hrg j hj5) (x := c_skills q) (by omega)
      obtain ⟨t_month, t_power, t_master, t_left, t_kept, t_passed, t_sizes, t_fields, t_liked, st', g1, g2, g3, g4⟩ := tail_rel (t := nI d) (o := nI j) (r := eD (s_sizes d) (imax 0 (s_sizes d - w)) + eD (s_sizes j) (imax 0 (s_sizes j - c_skills q))) (T := 2 ^ d ||| 2 ^ j) (z_kept := y_kept) (z_keptBy := y_keptBy) (z_ahead := y_ahead) (z_against := y_against) (z_sum := y_sum) (z_sumBy := y_sumBy) (z_term := y_term) (z_termBy := y_termBy) (z_byNot := y_byNot) (z_valueOf := y_valueOf) hcc hp hR3 (Or.inr ⟨q, hq1, rfl⟩) hkp hl' (fun i hi => by
          simp only [upd_at]; split
          · exact v2
          · split
            · exact v1
            · exact hrg i hi) (fun i h3 h4 => by rw [pk_un (by omega), pk_un (by omega)]; exact hz i h3 h4) hf hB (Nat.or_lt_two_pow (Nat.pow_lt_pow_right (by decide) (by omega)) (Nat.pow_lt_pow_right (by decide) (by omega))) (fun i hi => by
          rw [Nat.testBit_or, Nat.testBit_two_pow, Nat.testBit_two_pow, nI_eq (a := i) (b := d) (by omega) (by omega), nI_eq (a := i) (b := j) (by omega) (by omega)]
          constructor
          · intro h; simp at h; exact ⟨fun e => h.1 e.symm, fun e => h.2 e.symm⟩
          · intro h; simp [Ne.symm h.1, Ne.symm h.2]) (by
          rw [cn_two D hd hj hjd (fun i hi hn hn2 => by
            rw [hbit i hi, pk_un hn2, pk_un hn]
            by_cases h : s_sizes i = 0
            · rw [h]; decide
            · simp [h]), hbit d hd, hbit j hj, pk_us, pk_un (fun e => hjd e.symm), pk_us, ← nI_add, ← eD_nI (hrg d hd5).1, ← eD_nI (hrg j hj5).1]) (by unfold eD; split <;> split <;> (try split) <;> (try split) <;> decide) st1
      refine ⟨_, t_month, t_power, t_master, t_left, t_kept, t_passed, t_sizes, t_fields, t_liked, st', ?_, g2, g3, g4⟩
      rw [← g1, if_neg (nI_m1 q (by omega))]
      unfold f_X9_turn_45
      rw [if_neg (nI_m1 j (by omega)), lessen_eq hd5, lessen_eq hj5, like_eq hq6]
      simp only [hj0]
      rfl
end
