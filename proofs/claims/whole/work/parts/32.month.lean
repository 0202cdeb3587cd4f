/-! a month -/
theorem imax_toInt (a b : Int32) : (imax a b).toInt = if a.toInt < b.toInt then b.toInt else a.toInt := by
  show (if a < b then b else a).toInt = _
  by_cases h : a < b
  · rw [if_pos h, if_pos ((i_lt a b).mp h)]
  · rw [if_neg h, if_neg (fun q => h ((i_lt a b).mpr q))]
theorem imin_toInt (a b : Int32) : (imin a b).toInt = if b.toInt < a.toInt then b.toInt else a.toInt := by
  show (if b < a then b else a).toInt = _
  by_cases h : b < a
  · rw [if_pos h, if_pos ((i_lt b a).mp h)]
  · rw [if_neg h, if_neg (fun q => h ((i_lt b a).mpr q))]
theorem t0 : ((0 : Int32)).toInt = 0 := rfl
theorem t1 : ((1 : Int32)).toInt = 1 := rfl
theorem t99 : ((99 : Int32)).toInt = 99 := rfl
def gr1 (g f : Nat → Int32) (i : Nat) : Int32 := if f i = 0 then 0 else imin 99 (f i + g i)
def grw (D : Nat) (g f : Nat → Int32) (t o : Int32) : Nat → Int32 := fun i => if i < D ∧ ¬ nI i = t ∧ ¬ nI i = o then gr1 g f i else f i
theorem grow_eq {D : Nat} {f g : Nat → Int32} {t o : Int32} (hD : D ≤ 5) : f_X9_grow f (nI D) g t o = some (grw D g f t o) := by
  unfold f_X9_grow
  have key : ∀ (fu k : Nat) (f' : Nat → Int32), k ≤ D → D - k < fu → f_X9_grow_3 fu f' (nI D) g t o (nI k) = some (fun i => if k ≤ i ∧ i < D ∧ ¬ nI i = t ∧ ¬ nI i = o then gr1 g f' i else f' i) := by
    intro fu
    induction fu with
    | zero => intro k f' h1 h2; omega
    | succ fu ih =>
      intro k f' h1 h2
      rw [f_X9_grow_3.eq_2]
      by_cases h : k < D
      · rw [if_neg (by rw [nI_leI (by omega) (by omega)]; omega)]
        by_cases ht : nI k = t ∨ nI k = o
        · have e1 : f_X9_grow_3 fu f' (nI D) g t o (nI k + 1) = some (fun i => if k ≤ i ∧ i < D ∧ ¬ nI i = t ∧ ¬ nI i = o then gr1 g f' i else f' i) := by
            rw [nI_1, ih (k + 1) f' (by omega) (by omega)]
            congr 1; funext i
            by_cases e : i = k
            · subst e
              rw [if_neg (by omega), if_neg (fun hh => by rcases ht with q | q; exact hh.2.2.1 q; exact hh.2.2.2 q)]
            · by_cases h3 : k ≤ i
              · exact if_iff ⟨fun q => ⟨h3, q.2⟩, fun q => ⟨by omega, q.2⟩⟩
              · rw [if_neg (by omega), if_neg (by omega)]
          rcases ht with ht | ho
          · rw [if_pos ht]; exact e1
          · by_cases ht : nI k = t
            · rw [if_pos ht]; exact e1
            · rw [if_neg ht, if_pos ho]; exact e1
        · rw [if_neg (fun q => ht (Or.inl q)), if_neg (fun q => ht (Or.inr q)), q_gp (by omega) (by omega), nI_1, ih (k + 1) _ (by omega) (by omega)]
          congr 1; funext i
          by_cases e : i = k
          · subst e
            rw [if_neg (by omega), if_pos ⟨Nat.le_refl _, h, fun q => ht (Or.inl q), fun q => ht (Or.inr q)⟩, pk_us]
            unfold f_X9_grown gr1
            rw [q_ga (by omega) (by omega), q_ga (by omega) (by omega), Int32.one_mul]
          · have e2 : ∀ v, gr1 g (upd f' k v) i = gr1 g f' i := fun v => by unfold gr1; rw [pk_un e]
            rw [e2, pk_un e]
            by_cases h3 : k ≤ i
            · exact if_iff ⟨fun q => ⟨h3, q.2⟩, fun q => ⟨by omega, q.2⟩⟩
            · rw [if_neg (by omega), if_neg (by omega)]
      · rw [if_pos (by rw [nI_leI (by omega) (by omega)]; omega)]
        congr 1; funext i
        rw [if_neg (by omega)]
  rw [show (0 : Int32) = nI 0 from rfl, key 1100 0 f (Nat.zero_le _) (by omega)]
  congr 1; funext i
  unfold grw
  simp only [Nat.zero_le, true_and]
theorem gr1_rng {g f : Nat → Int32} {i : Nat} (h : 0 ≤ (f i).toInt ∧ (f i).toInt ≤ 99) (hg : 0 ≤ (g i).toInt ∧ (g i).toInt ≤ 9) : 0 ≤ (gr1 g f i).toInt ∧ (gr1 g f i).toInt ≤ 99 := by
  unfold gr1
  by_cases e : f i = 0
  · rw [if_pos e]; decide
  · rw [if_neg e, imin_toInt, i_add (by omega), t99]; split <;> omega
/-- whether one came to 0 -/
def eD (a b : Int32) : Int32 := if a ≤ 0 then 0 else if b = 0 then 1 else 0
theorem lessen_eq {f : Nat → Int32} {d : Nat} {x : Int32} (hd : d < 5) : f_X9_lessen f (nI d) x = (eD (f d) (imax 0 (f d - x)), upd f d (imax 0 (f d - x))) := by
  unfold f_X9_lessen eD
  rw [q_ga hd (by omega), q_gp hd (by omega)]
  by_cases h1 : f d ≤ 0
  · rw [if_pos h1, if_pos h1]
  · rw [if_neg h1, if_neg h1]
    by_cases h2 : imax 0 (f d - x) = 0
    · rw [if_pos h2, if_pos h2]
    · rw [if_neg h2, if_neg h2]
theorem less_rng {a x : Int32} (h : 0 ≤ a.toInt ∧ a.toInt ≤ 99) (hx : 0 ≤ x.toInt ∧ x.toInt ≤ 1000) : 0 ≤ (imax 0 (a - x)).toInt ∧ (imax 0 (a - x)).toInt ≤ 99 := by
  rw [imax_toInt, i_sub (by omega), t0]; split <;> omega
theorem two_less {a w h : Int32} (ha : 0 ≤ a.toInt ∧ a.toInt ≤ 99) (hw : 0 ≤ w.toInt ∧ w.toInt ≤ 99) (hh : 0 ≤ h.toInt ∧ h.toInt ≤ 99) : imax 0 (imax 0 (a - w) - h) = imax 0 (a - (w + h)) := by
  rw [i_eq, imax_toInt, imax_toInt, i_sub (by rw [imax_toInt, i_sub (by omega), t0]; split <;> omega), imax_toInt, i_sub (by omega), i_sub (by rw [i_add (by omega)]; omega), i_add (by omega), t0]
  split <;> split <;> split <;> omega
theorem half_rng {a : Int32} (h : 0 ≤ a.toInt ∧ a.toInt ≤ 9) : 0 ≤ (a / 2).toInt ∧ (a / 2).toInt ≤ 9 := by
  obtain ⟨k, hk, rfl⟩ := nI_of (x := a) (by rw [i_lt]; have := t0; omega)
  have h1 := nI_toInt hk
  rw [show (2 : Int32) = nI 2 from rfl, pk_div hk (by omega) (by omega), nI_toInt (by omega)]
  omega
theorem like_eq {f : Nat → Int32} {q : Nat} {x : Int32} (hq : q < 6) : f_X9_like f (nI q) x = upd f q (imin 99 (f q + x)) := by
  unfold f_X9_like f_X9_likedWith
  rw [q_gp hq (by omega), q_ga hq (by omega)]
theorem together_eq {f : Nat → Int32} : f_X9_together f = some (sm f 5) := by
  unfold f_X9_together
  rw [show (5 : Int32) = nI 5 from rfl, sum_eq (by omega) (by omega)]
  rfl
section
variable {s_month s_power s_master s_left s_kept s_passed : Int32} {s_sizes s_fields s_liked : Nat → Int32} {m_s : Nat → Int32} {M D Q : Nat} {sv kv : Nat → Int32 → Int32 → Int32} {c_men c_consuls c_dangers c_decrees c_term : Int32} {c_kinds c_skills c_fields c_wants c_hated c_sizes c_grows c_grounds : Nat → Int32} {l_ops : Nat → Int32} {l_worksFrom l_worksTo l_keepsFrom l_keepsTo : Int32} {m_city m_kind m_skill m_fieldTold m_want m_hates m_restsOn m_sizeTold m_grows : Nat → Int32} {m_lineFrom m_lineTo m_codes : Nat → Int32} {z_kept z_keptBy z_ahead z_against z_sum z_sumBy z_term z_termBy z_byNot z_valueOf : Nat → Int32}
theorem likes_eq {q : Nat} {x : Int32} (hR : RS s_month s_power s_master s_left s_kept s_passed s_sizes s_fields s_liked m_s) (hq : q < 6) : ∃ ms', (f_X13_likes m_s (nI q) x) = some ms' ∧ RS s_month s_power s_master s_left s_kept s_passed s_sizes s_fields (upd s_liked q (imin 99 (s_liked q + x))) ms' := by
  refine ⟨_, ?_, hR.liked' hq _⟩
  unfold f_X13_likes
  simp (disch := omega) only [qa_17, q_gd, nI_clamp]
  rw [hR.2.2.2.2.2.2.2.2 q hq]
theorem lessens_eq {d : Nat} {x : Int32} (hR : RS s_month s_power s_master s_left s_kept s_passed s_sizes s_fields s_liked m_s) (hd : d < 5) : ∃ ms', (f_X13_lessens m_s (nI d) x) = some ms' ∧ RS s_month s_power s_master s_left s_kept s_passed (upd s_sizes d (imax 0 (s_sizes d - x))) s_fields s_liked ms' := by
  refine ⟨_, ?_, hR.sizes' hd _⟩
  unfold f_X13_lessens
  simp (disch := omega) only [qa_6, q_gd, nI_clamp]
  rw [hR.2.2.2.2.2.2.1 d hd]
theorem goesHome_eq (hR : RS s_month s_power s_master s_left s_kept s_passed s_sizes s_fields s_liked m_s) : ∃ ms', (f_X13_goesHome m_s) = some ms' ∧ RS s_month (-1) (-1) 0 0 0 s_sizes s_fields s_liked ms' :=
  ⟨_, rfl, ((((hR.power' (-1)).master' (-1)).left' 0).kept' 0).passed' 0⟩
theorem mtog_eq (hD : D ≤ 5) (hc : m_city 1 = nI D) (hR : RS s_month s_power s_master s_left s_kept s_passed s_sizes s_fields s_liked m_s) : (f_X13_together m_city m_s) = some (sm s_sizes D) := by
  unfold f_X13_together
  have key : ∀ (fu k : Nat), k ≤ D → D - k < fu → (f_X13_together_4 fu m_city m_s (sm s_sizes k) (nI k)) = some (sm s_sizes D) := by
    intro fu
    induction fu with
    | zero => intro k h1 h2; omega
    | succ fu ih =>
      intro k h1 h2
      rw [f_X13_together_4.eq_2]
      simp only [gl_1_10, cl_1, hc]
      by_cases h : k < D
      · simp (disch := omega) only [nI_leI, if_neg, qa_6, q_gd, nI_clamp, nI_1]
        rw [hR.2.2.2.2.2.2.1 k (by omega)]
        exact ih (k + 1) (by omega) (by omega)
      · rw [if_pos (by rw [nI_leI (by omega) (by omega)]; omega), show k = D by omega]
  exact key 1100 0 (Nat.zero_le _) (by omega)
theorem close_rel (hc : RC M D Q sv kv c_men c_consuls c_dangers c_decrees c_term c_kinds c_skills c_fields c_wants c_hated c_sizes c_grows c_grounds l_ops l_worksFrom l_worksTo l_keepsFrom l_keepsTo m_city m_kind m_skill m_fieldTold m_want m_hates m_restsOn m_sizeTold m_grows m_lineFrom m_lineTo m_codes) {p : Nat} (hp : p < M) (hR : RS s_month (nI p) s_master s_left s_kept s_passed s_sizes s_fields s_liked m_s) (hk : s_kept = 0 ∨ s_kept = 1) (hl : s_kept = 0 → 1 ≤ s_left.toInt) (hz : ∀ i, D ≤ i → i < 5 → s_sizes i = 0) (e : Int32) (st : Nat → Int32) :
    ∃ (pw mr lf kp ps : Int32) (fd lk st' : Nat → Int32), (f_X9_closeMonth (nI p) s_master s_left s_kept s_passed s_sizes s_fields s_liked c_kinds c_skills c_wants l_ops st l_worksFrom l_worksTo l_keepsFrom l_keepsTo e) = some (pw, mr, lf, kp, ps, fd, lk, st') ∧
    (∃ (y_kept y_keptBy y_ahead y_against y_sum y_sumBy y_term y_termBy y_byNot y_valueOf : Nat → Int32) (ms' : Nat → Int32), (f_X13_endsMonth m_city m_kind m_skill m_want m_lineFrom m_lineTo m_codes z_kept z_keptBy z_ahead z_against z_sum z_sumBy z_term z_termBy z_byNot z_valueOf m_s (nI p) e) = some (y_kept, y_keptBy, y_ahead, y_against, y_sum, y_sumBy, y_term, y_termBy, y_byNot, y_valueOf, ms') ∧ RS s_month pw mr lf kp ps s_sizes fd lk ms') ∧
    ((pw = -1 ∧ mr = -1) ∨ (pw = nI p ∧ mr = s_master)) ∧ (kp = 0 ∨ kp = 1) ∧ (¬ pw = -1 → kp = 0 → 1 ≤ lf.toInt) ∧ (∀ i, ¬ i = p → fd i = s_fields i) := by
  obtain ⟨⟨hM, hD, hQ⟩, ⟨rfl, rfl, rfl⟩, ⟨hc0, hc1, hc2, hc3, hc4⟩, hT, hm, hsk, hd, hq, hsv, hkv, hCS, hCK, hMS, hMK⟩ := hc
  obtain ⟨e1, e2, e3, e4, e5⟩ := hm p hp
  have hp6 : p < 6 := by omega
  have un : ∃ un : Int32, (un = if c_kinds p = 1 then 10 else 5) := ⟨_, rfl⟩
  obtain ⟨un, hun⟩ := un
  obtain ⟨fe, hfe⟩ : ∃ fe : Int32, (fe = if c_kinds p = 2 then 5 else 3) := ⟨_, rfl⟩
  -- the class
  have hC : (f_X9_closeMonth (nI p) s_master s_left s_kept s_passed s_sizes s_fields s_liked c_kinds c_skills c_wants l_ops st l_worksFrom l_worksTo l_keepsFrom l_keepsTo e) = (f_X9_closeMonth_39 (nI p) s_master s_left s_kept s_passed s_sizes s_fields (upd s_liked p (imin 99 (s_liked p + e * fe))) c_skills c_wants l_ops st l_worksFrom l_worksTo l_keepsFrom l_keepsTo un) := by
    unfold f_X9_closeMonth f_X1_likedForEnding
    rw [q_ga hp6 (by omega), like_eq hp6, ← hfe]
    by_cases h : c_kinds p = 1
    · rw [if_pos h, hun, if_pos h]
    · rw [if_neg h, hun, if_neg h]
  obtain ⟨ms1, hl1, hR1⟩ := likes_eq (x := e * fe) hR hp6
  have hm1 : (f_X13_endsMonth m_city m_kind m_skill m_want m_lineFrom m_lineTo m_codes z_kept z_keptBy z_ahead z_against z_sum z_sumBy z_term z_termBy z_byNot z_valueOf m_s (nI p) e) = (f_X13_endsMonth_56 m_city m_skill m_want m_lineFrom m_lineTo m_codes z_kept z_keptBy z_ahead z_against z_sum z_sumBy z_term z_termBy z_byNot z_valueOf ms1 (nI p) (nI (11 + p)) 0 (s_fields p) un) := by
    have h18 : ∀ v, v = fe → (f_X13_endsMonth_18 m_city m_kind m_skill m_want m_lineFrom m_lineTo m_codes z_kept z_keptBy z_ahead z_against z_sum z_sumBy z_term z_termBy z_byNot z_valueOf m_s (nI p) (nI p) e v) = (f_X13_endsMonth_56 m_city m_skill m_want m_lineFrom m_lineTo m_codes z_kept z_keptBy z_ahead z_against z_sum z_sumBy z_term z_termBy z_byNot z_valueOf ms1 (nI p) (nI (11 + p)) 0 (s_fields p) un) := by
      intro v hv
      subst hv
      unfold f_X13_endsMonth_18
      rw [hl1]
      simp (disch := omega) only [o_bs, qa_11, q_gd, nI_clamp]
      rw [hR1.2.2.2.2.2.2.2.1 p hp6, e1]
      by_cases h : c_kinds p = 1
      · rw [if_pos h, hun, if_pos h]
      · rw [if_neg h, hun, if_neg h]
    unfold f_X13_endsMonth
    simp (disch := omega) only [q_gd, nI_clamp]
    rw [e1]
    by_cases h : c_kinds p = 2
    · rw [if_pos h, h18 5 (by rw [hfe, if_pos h])]
    · rw [if_neg h, h18 3 (by rw [hfe, if_neg h])]
  rw [hC, hm1]
  unfold f_X9_closeMonth_39 f_X13_endsMonth_56
  simp (disch := omega) only [q_ga, q_gp, q_gd, nI_clamp, gl_5_23, gl_4_23, gl_3_23, cl_5, cl_4, cl_3, qa_17]
  have hR2 := (hR1.fields' hp6 (imax 0 (s_fields p - un)))
  have hR3 := hR2.passed' (s_passed + 1)
  have r5 := hR2.2.2.2.2.2.1
  rw [r5]
  have r4 := hR3.2.2.2.2.1
  have r3 := hR3.2.2.2.1
  rw [r4, r3]
  rcases hk with rfl | rfl
  · rw [if_pos rfl, if_neg n01]
    have hR4 := hR3.left' (s_left - 1)
    have r3' := hR4.2.2.2.1
    rw [r3']
    by_cases hle : s_left - 1 ≤ 0
    · rw [if_pos hle, if_pos hle, together_eq, mtog_eq (by omega) hc1 hR4, sm_zero (f := s_sizes) 5 hD hz]
      simp only [o_bs]
      have r17 := hR4.2.2.2.2.2.2.2.2 p hp6
      rw [r17]
      obtain ⟨st', hst⟩ := hCK p hp (upd s_liked p (imin 99 (s_liked p + e * fe)) p) (sm s_sizes D) st
      obtain ⟨y_kept, y_keptBy, y_ahead, y_against, y_sum, y_sumBy, y_term, y_termBy, y_byNot, y_valueOf, hy⟩ := hMK p hp (upd s_liked p (imin 99 (s_liked p + e * fe)) p) (sm s_sizes D) z_kept z_keptBy z_ahead z_against z_sum z_sumBy z_term z_termBy z_byNot z_valueOf
      rw [hst, hy]
      simp only [o_bs]
      have hlf : s_left - 1 = 0 := by
        have h1 := hl rfl
        have h2 := i_rng s_left
        rw [i_le, i_sub (by have := t1; omega), t1, t0] at hle
        rw [i_eq, i_sub (by have := t1; omega), t1, t0]; omega
      rcases hkv p (upd s_liked p (imin 99 (s_liked p + e * fe)) p) (sm s_sizes D) hp with hv | hv
      · rw [hv, if_pos rfl, if_pos rfl]
        obtain ⟨ms5, h5, hR5⟩ := goesHome_eq hR4
        rw [h5]
        simp only [o_bs]
        refine ⟨_, _, _, _, _, _, _, _, rfl, ⟨_, _, _, _, _, _, _, _, _, _, _, rfl, hR5⟩, Or.inl ⟨rfl, rfl⟩, Or.inl rfl, fun h => absurd rfl h, fun i hi => pk_un hi⟩
      · rw [hv, if_neg n10, if_neg n10]
        refine ⟨_, _, _, _, _, _, _, _, rfl, ⟨_, _, _, _, _, _, _, _, _, _, _, rfl, ?_⟩, Or.inr ⟨rfl, rfl⟩, Or.inr rfl, fun _ h => absurd h (by decide), fun i hi => pk_un hi⟩
        have := hR4.kept' 1
        rw [hlf] at this
        rw [hlf]
        exact this
    · rw [if_neg hle, if_neg hle]
      refine ⟨_, _, _, _, _, _, _, _, rfl, ⟨_, _, _, _, _, _, _, _, _, _, _, rfl, hR4⟩, Or.inr ⟨rfl, rfl⟩, Or.inl rfl, fun _ _ => ?_, fun i hi => pk_un hi⟩
      have := t0
      rw [i_le] at hle
      omega
  · rw [if_neg n10, if_pos rfl]
    exact ⟨_, _, _, _, _, _, _, _, rfl, ⟨_, _, _, _, _, _, _, _, _, _, _, rfl, hR3⟩, Or.inr ⟨rfl, rfl⟩, Or.inr rfl, fun _ h => absurd h (by decide), fun i hi => pk_un hi⟩
end
