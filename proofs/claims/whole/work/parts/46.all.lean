/-! men for all dangers -/
theorem cn_ex {P : Nat → Bool} : ∀ n, cn P n < n → ∃ m, m < n ∧ P m = false := by
  intro n
  induction n with
  | zero => intro h; exact absurd h (by omega)
  | succ n ih =>
    intro h
    have h : cn P n + (if P n then 1 else 0) < n + 1 := h
    cases hp : P n with
    | false => exact ⟨n, by omega, hp⟩
    | true =>
      rw [hp] at h
      obtain ⟨m, hm, q⟩ := ih (by simpa using h)
      exact ⟨m, by omega, q⟩
theorem cn_congr {P R : Nat → Bool} : ∀ n, (∀ i, i < n → P i = R i) → cn P n = cn R n := by
  intro n
  induction n with
  | zero => intro _; rfl
  | succ n ih =>
    intro h
    show cn P n + (if P n then 1 else 0) = cn R n + (if R n then 1 else 0)
    rw [ih (fun i hi => h i (by omega)), h n (by omega)]
theorem cn_set {U m : Nat} (hm : U.testBit m = false) : ∀ n, cn (fun i => (U ||| 2 ^ m).testBit i) n = cn (fun i => U.testBit i) n + (if m < n then 1 else 0) := by
  intro n
  induction n with
  | zero => rfl
  | succ n ih =>
    show cn (fun i => (U ||| 2 ^ m).testBit i) n + (if (U ||| 2 ^ m).testBit n = true then 1 else 0) = cn (fun i => U.testBit i) n + (if U.testBit n = true then 1 else 0) + (if m < n + 1 then 1 else 0)
    rw [ih, Nat.testBit_or, Nat.testBit_two_pow]
    by_cases e : m = n
    · subst e; rw [hm]; simp
    · simp only [decide_eq_false e, Bool.or_false]
      by_cases h : m < n
      · rw [if_pos h, if_pos (show m < n + 1 by omega)]; omega
      · rw [if_neg h, if_neg (show ¬ m < n + 1 by omega)]; omega
theorem cn_zero {P : Nat → Bool} {a : Nat} : ∀ b, a ≤ b → (∀ i, a ≤ i → i < b → P i = false) → cn P b = cn P a := by
  intro b
  induction b with
  | zero => intro h _; rw [show a = 0 by omega]
  | succ b ih =>
    intro h hz
    by_cases e : a = b + 1
    · rw [e]
    · show cn P b + (if P b then 1 else 0) = _
      rw [ih (by omega) (fun i h1 h2 => hz i h1 (by omega)), hz b (by omega) (by omega)]; rfl
/-- what one costs -/
def ctv (sv : Nat → Int32 → Int32 → Int32) (s_sizes : Nat → Int32) (i k : Nat) : Nat := if sn (sv i) 25 (s_sizes k) 0 = -1 then 99 else (sn (sv i) 25 (s_sizes k) 0).toNatClampNeg
theorem ctv_cases (sv : Nat → Int32 → Int32 → Int32) (s_sizes : Nat → Int32) (i k : Nat) : (sn (sv i) 25 (s_sizes k) 0 = -1 ∧ ctv sv s_sizes i k = 99) ∨ ∃ a, a ≤ 24 ∧ sn (sv i) 25 (s_sizes k) 0 = nI a ∧ ctv sv s_sizes i k = a := by
  unfold ctv
  rcases sn_rng (sv i) 25 (s_sizes k) 0 (by omega) with q | ⟨a, _, h9, q⟩
  · exact Or.inl ⟨q, by rw [if_pos q]⟩
  · refine Or.inr ⟨a, by omega, q, ?_⟩
    rw [q, if_neg (nI_m1 a (by omega)), nI_clamp (by omega)]
theorem ctv_le (sv : Nat → Int32 → Int32 → Int32) (s_sizes : Nat → Int32) (i k : Nat) : ctv sv s_sizes i k ≤ 99 := by
  rcases ctv_cases sv s_sizes i k with ⟨_, h⟩ | ⟨a, h, _, e⟩ <;> omega
section
variable {s_month s_power s_master s_left s_kept s_passed : Int32} {s_sizes s_fields s_liked : Nat → Int32} {m_s m_goesTo m_bestGoes : Nat → Int32} {m_leastMonths : Int32} {M D Q : Nat} {sv kv : Nat → Int32 → Int32 → Int32} {c_men c_consuls c_dangers c_decrees c_term : Int32} {c_kinds c_skills c_fields c_wants c_hated c_sizes c_grows c_grounds : Nat → Int32} {l_ops : Nat → Int32} {l_worksFrom l_worksTo l_keepsFrom l_keepsTo : Int32} {m_city m_kind m_skill m_fieldTold m_want m_hates m_restsOn m_sizeTold m_grows : Nat → Int32} {m_lineFrom m_lineTo m_codes : Nat → Int32} {z_kept z_keptBy z_ahead z_against z_sum z_sumBy z_term z_termBy z_byNot z_valueOf : Nat → Int32} {u_row u_leastRow u_needed : Nat → Int32} {u_least : Int32}
/-- where as much is spent already, nothing less is found -/
theorem sh_prune (hM : M ≤ 6) (hD : D ≤ 5) (hnd : ∀ k i, k < D → i < M → ∃ a, a ≤ 99 ∧ u_needed (k * 6 + i) = nI a) : ∀ (r d k : Nat) (row lrow : Nat → Int32) (U t v : Nat), k + r = D → r < d → v ≤ t → t ≤ 99 * k → U < 64 → ∃ row', (f_X2_shareFrom d row lrow u_needed (nI v) (nI M) (nI D) s_sizes (nI k) (nI U) (nI t)) = some (row', lrow, nI v) ∧ ∀ i, i < k → row' i = row i := by
  intro r
  induction r with
  | zero =>
    intro d k row lrow U t v hk hd hv ht hU
    obtain ⟨d, rfl⟩ : ∃ g, d = g + 1 := ⟨d - 1, by omega⟩
    rw [f_X2_shareFrom.eq_2]
    unfold f_X2_shareFrom_s f_X2_keepIfLess
    rw [if_neg (nI_nlt (by omega) (by omega)), if_pos (nI_le hv (by omega)), o_bs]
    exact ⟨row, rfl, fun _ _ => rfl⟩
  | succ r ih =>
    intro d k row lrow U t v hk hd hv ht hU
    obtain ⟨d, rfl⟩ : ∃ g, d = g + 1 := ⟨d - 1, by omega⟩
    rw [f_X2_shareFrom.eq_2]
    unfold f_X2_shareFrom_s
    rw [if_pos (nI_lt (by omega) (by omega)), q_ga (by omega) (by omega)]
    by_cases hz : s_sizes k = 0
    · rw [if_pos hz, q_gp (by omega) (by omega), nI_1]
      obtain ⟨row', h1, h2⟩ := ih d (k + 1) (upd row k (-1)) lrow U t v (by omega) (by omega) hv (by omega) hU
      rw [h1, o_bs]
      exact ⟨row', rfl, fun i hi => by rw [h2 i (by omega), pk_un (by omega)]⟩
    · rw [if_neg hz]
      have key : ∀ (fu i : Nat) (row1 : Nat → Int32), i ≤ M → M < fu + i → (∀ j, j < k → row1 j = row j) → ∃ row', (f_X2_shareFrom_52 (f_X2_shareFrom d) fu row1 lrow u_needed (nI v) (nI M) (nI D) s_sizes (nI k) (nI U) (nI t) (nI i)) = some (row', lrow, nI v) ∧ ∀ i, i < k → row' i = row i := by
        intro fu
        induction fu with
        | zero => intro i row1 h1 h2; omega
        | succ fu ihf =>
          intro i row1 h1 h2 hr
          rw [f_X2_shareFrom_52.eq_2]
          by_cases h : i < M
          · rw [if_neg (by rw [nI_leI (by omega) (by omega)]; omega)]
            by_cases hb : U.testBit i = false
            · obtain ⟨a, ha, ea⟩ := hnd k i (by omega) h
              rw [if_pos ((bit0 (by omega) (by omega)).mpr hb), q_gp (by omega) (by omega), shl1 (by omega), nI_or, nI_1, nI_1, show nI k * 6 = nI (k * 6) from pk_mul k 6, nI_add, q_ga (by omega) (by omega), ea, nI_add]
              have hU2 : U ||| 2 ^ i < 64 := Nat.or_lt_two_pow (n := 6) (by omega) (Nat.pow_lt_pow_right (by decide) (by omega))
              obtain ⟨row', w1, w2⟩ := ih d (k + 1) (upd row1 k (nI i)) lrow (U ||| 2 ^ i) (t + a) v (by omega) (by omega) (by omega) (by omega) hU2
              rw [w1, o_bs]
              exact ihf (i + 1) row' (by omega) (by omega) (fun j hj => by rw [w2 j (by omega), pk_un (by omega)]; exact hr j hj)
            · rw [if_neg (fun q => hb ((bit0 (by omega) (by omega)).mp q)), nI_1]
              exact ihf (i + 1) row1 (by omega) (by omega) hr
          · rw [if_pos (by rw [nI_leI (by omega) (by omega)]; omega)]
            exact ⟨row1, rfl, hr⟩
      exact key 1100 0 row (Nat.zero_le _) (by omega) (fun _ _ => rfl)
theorem gives34_eq {F : _} {x : Int32} : (f_X13_gives_34 F 1100 z_kept z_keptBy z_ahead z_against z_sum z_sumBy z_term z_termBy z_byNot z_valueOf m_goesTo m_bestGoes x 0) = some (z_kept, z_keptBy, z_ahead, z_against, z_sum, z_sumBy, z_term, z_termBy, z_byNot, z_valueOf, m_goesTo, cpr 5 m_goesTo m_bestGoes, x) := by
  have key : ∀ (fu k : Nat) (b : Nat → Int32), k ≤ 5 → 5 < fu + k → (f_X13_gives_34 F fu z_kept z_keptBy z_ahead z_against z_sum z_sumBy z_term z_termBy z_byNot z_valueOf m_goesTo b x (nI k)) = some (z_kept, z_keptBy, z_ahead, z_against, z_sum, z_sumBy, z_term, z_termBy, z_byNot, z_valueOf, m_goesTo, (fun i => if k ≤ i ∧ i < 5 then m_goesTo i else b i), x) := by
    intro fu
    induction fu with
    | zero => intro k b h1 h2; omega
    | succ fu ih =>
      intro k b h1 h2
      rw [f_X13_gives_34.eq_2]
      by_cases h : k < 5
      · rw [if_neg (by rw [show (5 : Int32) = nI 5 from rfl, nI_leI (by omega) (by omega)]; omega), q_gd h (by omega), q_gd h (by omega), nI_clamp (by omega), nI_1, ih (k + 1) _ (by omega) (by omega)]
        have : (fun i => if k + 1 ≤ i ∧ i < 5 then m_goesTo i else upd b k (m_goesTo k) i) = fun i => if k ≤ i ∧ i < 5 then m_goesTo i else b i := by
          funext i
          simp only [upd_at]
          by_cases e : i = k
          · subst e; rw [if_neg (by omega), if_pos rfl, if_pos (by omega)]
          · rw [if_neg e]
            by_cases h3 : k ≤ i
            · exact if_iff ⟨fun q => ⟨h3, q.2⟩, fun q => ⟨by omega, q.2⟩⟩
            · rw [if_neg (by omega), if_neg (by omega)]
        rw [this]
      · rw [if_pos (by rw [show (5 : Int32) = nI 5 from rfl, nI_leI (by omega) (by omega)]; omega)]
        have e : (fun i => if k ≤ i ∧ i < 5 then m_goesTo i else b i) = b := by funext i; rw [if_neg (by omega)]
        rw [e]
  have := key 1100 0 m_bestGoes (by omega) (by omega)
  have e : (fun i => if 0 ≤ i ∧ i < 5 then m_goesTo i else m_bestGoes i) = cpr 5 m_goesTo m_bestGoes := by
    funext i; unfold cpr; exact if_iff ⟨fun q => q.2, fun q => ⟨Nat.zero_le _, q⟩⟩
  rw [e] at this
  exact this
theorem gives_rel (hc : RC M D Q sv kv c_men c_consuls c_dangers c_decrees c_term c_kinds c_skills c_fields c_wants c_hated c_sizes c_grows c_grounds l_ops l_worksFrom l_worksTo l_keepsFrom l_keepsTo m_city m_kind m_skill m_fieldTold m_want m_hates m_restsOn m_sizeTold m_grows m_lineFrom m_lineTo m_codes) (hR : RS s_month s_power s_master s_left s_kept s_passed s_sizes s_fields s_liked m_s) (hG : GS M D s_month s_power s_master s_left s_kept s_passed s_sizes s_fields s_liked) (hnd : ∀ k i, k < D → i < M → u_needed (k * 6 + i) = nI (ctv sv s_sizes i k)) : ∀ (r d k : Nat) (row lrow gt bm : Nat → Int32) (lc lm : Int32) (U t : Nat) (z_kept z_keptBy z_ahead z_against z_sum z_sumBy z_term z_termBy z_byNot z_valueOf : Nat → Int32), k + r = D → r < d → t ≤ 99 * k → U < 64 → cn (fun i => U.testBit i) M = cn (fun i => decide (¬ s_sizes i ≤ 0)) k → LR D lc lrow lm bm → (∀ i, i < k → row i = gt i) →
    ∃ (row' lrow' : Nat → Int32) (lc' : Int32), (f_X2_shareFrom d row lrow u_needed lc c_men c_dangers s_sizes (nI k) (nI U) (nI t)) = some (row', lrow', lc') ∧ ∃ (y_kept y_keptBy y_ahead y_against y_sum y_sumBy y_term y_termBy y_byNot y_valueOf : Nat → Int32) (gt' bm' : Nat → Int32) (lm' : Int32), (f_X13_gives d m_city m_kind m_skill m_want m_lineFrom m_lineTo m_codes z_kept z_keptBy z_ahead z_against z_sum z_sumBy z_term z_termBy z_byNot z_valueOf m_s gt bm lm (nI k) (nI U) (nI t)) = some (y_kept, y_keptBy, y_ahead, y_against, y_sum, y_sumBy, y_term, y_termBy, y_byNot, y_valueOf, gt', bm', lm') ∧ (LR D lc' lrow' lm' bm' ∧ (cn (fun i => decide (¬ s_sizes i ≤ 0)) D ≤ M ∨ LR2 D lc lrow lm bm → LR2 D lc' lrow' lm' bm') ∧ (M < cn (fun i => decide (¬ s_sizes i ≤ 0)) D → lm = -1 → lm' = -1)) ∧ (∀ i, i < k → row' i = row i ∧ gt' i = gt i) := by
  have hcc := hc
  obtain ⟨⟨hM, hD, hQ⟩, ⟨rfl, rfl, rfl⟩, ⟨hc0, hc1, hc2, hc3, hc4⟩, hT2, hmm, hsk, hdd, hq, hsv, hkv, hCS, hCK, hMS, hMK⟩ := hc
  have hnd2 : ∀ k i, k < D → i < M → ∃ a, a ≤ 99 ∧ u_needed (k * 6 + i) = nI a := fun k i hk hi => ⟨_, ctv_le sv s_sizes i k, hnd k i hk hi⟩
  intro r
  induction r with
  | zero =>
    intro d k row lrow gt bm lc lm U t z_kept z_keptBy z_ahead z_against z_sum z_sumBy z_term z_termBy z_byNot z_valueOf hk hd ht hU hcn hL hrow
    obtain ⟨d, rfl⟩ : ∃ g, d = g + 1 := ⟨d - 1, by omega⟩
    have hkD : k = D := by omega
    subst hkD
    have up : ∃ (row' lrow' : Nat → Int32) (lc' : Int32), some (row, cpr 5 row lrow, nI t) = some (row', lrow', lc') ∧ ∃ (y_kept y_keptBy y_ahead y_against y_sum y_sumBy y_term y_termBy y_byNot y_valueOf : Nat → Int32) (gt' bm' : Nat → Int32) (lm' : Int32), some (z_kept, z_keptBy, z_ahead, z_against, z_sum, z_sumBy, z_term, z_termBy, z_byNot, z_valueOf, gt, cpr 5 gt bm, nI t) = some (y_kept, y_keptBy, y_ahead, y_against, y_sum, y_sumBy, y_term, y_termBy, y_byNot, y_valueOf, gt', bm', lm') ∧ (LR k lc' lrow' lm' bm' ∧ (cn (fun i => decide (¬ s_sizes i ≤ 0)) k ≤ M ∨ LR2 k lc lrow lm bm → LR2 k lc' lrow' lm' bm') ∧ (M < cn (fun i => decide (¬ s_sizes i ≤ 0)) k → lm = -1 → lm' = -1)) ∧ (∀ i, i < k → row' i = row i ∧ gt' i = gt i) := by
      have h2 : LR2 k (nI t) (cpr 5 row lrow) (nI t) (cpr 5 gt bm) := ⟨t, by omega, rfl, rfl, fun i hi => by rw [cpr_lt (by omega), cpr_lt (by omega)]; exact hrow i hi⟩
      refine ⟨_, _, _, rfl, z_kept, z_keptBy, z_ahead, z_against, z_sum, z_sumBy, z_term, z_termBy, z_byNot, z_valueOf, _, _, _, rfl, ⟨Or.inr h2, fun _ => h2, fun h _ => ?_⟩, fun _ _ => ⟨rfl, rfl⟩⟩
      have := cn_le (fun i => U.testBit i) M
      omega
    rw [f_X2_shareFrom.eq_2, f_X13_gives.eq_2]
    unfold f_X2_shareFrom_s f_X13_gives_s f_X13_gives_16 f_X2_keepIfLess
    rw [if_neg (nI_nlt (by omega) (by omega)), copyRow_eq (by omega)]
    simp only [gl_1_10, cl_1, hc1, ↓reduceIte]
    rw [gives34_eq]
    rcases hL with ⟨rfl, rfl⟩ | ⟨w, hw, rfl, rfl, hrw⟩
    · rw [if_neg (by rw [show (1000000 : Int32) = nI 1000000 from rfl, nI_leI (by omega) (by omega)]; omega), if_pos (show (-1 : Int32) < 0 by decide), o_bs, o_bs]
      exact up
    · rw [if_neg (nI_pos (by omega))]
      by_cases hlt : t < w
      · rw [if_neg (by rw [nI_leI (by omega) (by omega)]; omega), if_pos (nI_lt hlt (by omega)), o_bs, o_bs]
        exact up
      · rw [if_pos (nI_le (by omega) (by omega)), if_neg (nI_nlt (by omega) (by omega)), o_bs]
        have h2 : LR2 k (nI w) lrow (nI w) bm := ⟨w, hw, rfl, rfl, hrw⟩
        exact ⟨_, _, _, rfl, z_kept, z_keptBy, z_ahead, z_against, z_sum, z_sumBy, z_term, z_termBy, z_byNot, z_valueOf, _, _, _, rfl, ⟨Or.inr h2, fun _ => h2, fun _ h => h⟩, fun _ _ => ⟨rfl, rfl⟩⟩
  | succ r ih =>
    intro d k row lrow gt bm lc lm U t z_kept z_keptBy z_ahead z_against z_sum z_sumBy z_term z_termBy z_byNot z_valueOf hk hd ht hU hcn hL hrow
    by_cases hpr : ∃ v, lm = nI v ∧ v ≤ t ∧ v ≤ 99999
    · -- as much is spent: the model turns back
      obtain ⟨v, rfl, hvt, hv9⟩ := hpr
      have h2L : LR2 D lc lrow (nI v) bm := by
        rcases hL with ⟨_, q⟩ | q
        · exact absurd q (nI_m1 v (by omega))
        · exact q
      obtain ⟨w, hw, rfl, e2, hrw⟩ := id h2L
      have hwv : w = v := ((nI_eq (by omega) (by omega)).mp e2).symm
      subst hwv
      obtain ⟨row', p1, p2⟩ := sh_prune (s_sizes := s_sizes) hM hD hnd2 (r + 1) d k row lrow U t w hk hd hvt ht hU
      obtain ⟨d, rfl⟩ : ∃ g, d = g + 1 := ⟨d - 1, by omega⟩
      rw [p1, f_X13_gives.eq_2]
      unfold f_X13_gives_s
      rw [if_neg (nI_pos (by omega)), if_neg (nI_nlt hvt (by omega))]
      exact ⟨_, _, _, rfl, z_kept, z_keptBy, z_ahead, z_against, z_sum, z_sumBy, z_term, z_termBy, z_byNot, z_valueOf, _, _, _, rfl, ⟨hL, fun _ => h2L, fun _ h => h⟩, fun i hi => ⟨p2 i hi, rfl⟩⟩
    · obtain ⟨d, rfl⟩ : ∃ g, d = g + 1 := ⟨d - 1, by omega⟩
      rw [f_X2_shareFrom.eq_2, f_X13_gives.eq_2]
      unfold f_X13_gives_s
      have h16 : (if lm < 0 then (f_X13_gives_16 (f_X13_gives d) m_city m_kind m_skill m_want m_lineFrom m_lineTo m_codes z_kept z_keptBy z_ahead z_against z_sum z_sumBy z_term z_termBy z_byNot z_valueOf m_s gt bm lm (nI k) (nI U) (nI t)) else if nI t < lm then (f_X13_gives_16 (f_X13_gives d) m_city m_kind m_skill m_want m_lineFrom m_lineTo m_codes z_kept z_keptBy z_ahead z_against z_sum z_sumBy z_term z_termBy z_byNot z_valueOf m_s gt bm lm (nI k) (nI U) (nI t)) else some (z_kept, z_keptBy, z_ahead, z_against, z_sum, z_sumBy, z_term, z_termBy, z_byNot, z_valueOf, gt, bm, lm)) = (f_X13_gives_16 (f_X13_gives d) m_city m_kind m_skill m_want m_lineFrom m_lineTo m_codes z_kept z_keptBy z_ahead z_against z_sum z_sumBy z_term z_termBy z_byNot z_valueOf m_s gt bm lm (nI k) (nI U) (nI t)) := by
        rcases hL with ⟨_, q⟩ | ⟨w, hw, _, q, _⟩
        · rw [if_pos (m_lt q)]
        · have : t < w := by
            rcases Nat.lt_or_ge t w with h | h
            · exact h
            · exact absurd ⟨w, q, h, hw⟩ hpr
          rw [q, if_neg (nI_pos (by omega)), if_pos (nI_lt this (by omega))]
      rw [h16]
      unfold f_X2_shareFrom_s f_X13_gives_16
      have hne : ¬ nI k = nI D := fun q => by rw [nI_eq (by omega) (by omega)] at q; omega
      simp only [gl_1_10, cl_1, hc1, if_neg hne]
      rw [if_pos (nI_lt (by omega) (by omega)), q_ga (by omega) (by omega), q_gd (by omega) (by omega), qa_6, q_gd (by omega) (by omega), nI_clamp (by omega), nI_clamp (by omega), hR.2.2.2.2.2.2.1 k (by omega)]
      by_cases hz : s_sizes k = 0
      · rw [if_pos hz, if_pos hz, q_gp (by omega) (by omega), nI_1]
        have hcn1 : cn (fun i => U.testBit i) M = cn (fun i => decide (¬ s_sizes i ≤ 0)) (k + 1) := by
          rw [hcn]
          show _ = cn (fun i => decide (¬ s_sizes i ≤ 0)) k + (if decide (¬ s_sizes k ≤ 0) = true then 1 else 0)
          rw [hz]; rfl
        obtain ⟨row2, lrow2, lc2, c1, v_kept, v_keptBy, v_ahead, v_against, v_sum, v_sumBy, v_term, v_termBy, v_byNot, v_valueOf, gt2, bm2, lm2, c2, c3, c4⟩ := ih d (k + 1) (upd row k (-1)) lrow (upd gt k (-1)) bm lc lm U t z_kept z_keptBy z_ahead z_against z_sum z_sumBy z_term z_termBy z_byNot z_valueOf (by omega) (by omega) (by omega) hU hcn1 hL (fun i hi => by
          simp only [upd_at]
          by_cases e : i = k
          · rw [if_pos e, if_pos e]
          · rw [if_neg e, if_neg e]; exact hrow i (by omega))
        rw [c1, c2]
        simp only [o_bs]
        exact ⟨_, _, _, rfl, v_kept, v_keptBy, v_ahead, v_against, v_sum, v_sumBy, v_term, v_termBy, v_byNot, v_valueOf, _, _, _, rfl, c3, fun i hi => by rw [(c4 i (by omega)).1, (c4 i (by omega)).2, pk_un (by omega), pk_un (by omega)]; exact ⟨rfl, rfl⟩⟩
      · rw [if_neg hz, if_neg hz]
        have hpos : ¬ s_sizes k ≤ 0 := by
          have := (hG.2.2.2.2.1 k (by omega)).1
          rw [i_le, t0]
          intro q
          exact hz (by rw [i_eq, t0]; omega)
        have hcs : cn (fun i => decide (¬ s_sizes i ≤ 0)) (k + 1) = cn (fun i => decide (¬ s_sizes i ≤ 0)) k + 1 := by
          show cn (fun i => decide (¬ s_sizes i ≤ 0)) k + (if decide (¬ s_sizes k ≤ 0) = true then 1 else 0) = _
          rw [if_pos (by simp [hpos])]
        have key : ∀ (fu i : Nat) (row1 lrow1 gt1 bm1 : Nat → Int32) (lc1 lm1 : Int32) (z_kept z_keptBy z_ahead z_against z_sum z_sumBy z_term z_termBy z_byNot z_valueOf : Nat → Int32), i ≤ M → M < fu + i → LR D lc1 lrow1 lm1 bm1 → (∀ j, j < k → row1 j = row j ∧ gt1 j = gt j) →
            ∃ (row' lrow' : Nat → Int32) (lc' : Int32), (f_X2_shareFrom_52 (f_X2_shareFrom d) fu row1 lrow1 u_needed lc1 (nI M) (nI D) s_sizes (nI k) (nI U) (nI t) (nI i)) = some (row', lrow', lc') ∧ ∃ (y_kept y_keptBy y_ahead y_against y_sum y_sumBy y_term y_termBy y_byNot y_valueOf : Nat → Int32) (gt' bm' : Nat → Int32) (lm' : Int32), (f_X13_gives_93 (f_X13_gives d) fu m_city m_kind m_skill m_want m_lineFrom m_lineTo m_codes z_kept z_keptBy z_ahead z_against z_sum z_sumBy z_term z_termBy z_byNot z_valueOf m_s gt1 bm1 lm1 (nI k) (nI U) (nI t) (nI i)) = some (y_kept, y_keptBy, y_ahead, y_against, y_sum, y_sumBy, y_term, y_termBy, y_byNot, y_valueOf, gt', bm', lm') ∧ (LR D lc' lrow' lm' bm' ∧ ((cn (fun i => decide (¬ s_sizes i ≤ 0)) D ≤ M ∧ ∃ m, i ≤ m ∧ m < M ∧ U.testBit m = false) ∨ LR2 D lc1 lrow1 lm1 bm1 → LR2 D lc' lrow' lm' bm') ∧ (M < cn (fun i => decide (¬ s_sizes i ≤ 0)) D → lm1 = -1 → lm' = -1)) ∧ (∀ i, i < k → row' i = row i ∧ gt' i = gt i) := by
          intro fu
          induction fu with
          | zero => intro i row1 lrow1 gt1 bm1 lc1 lm1 z_kept z_keptBy z_ahead z_against z_sum z_sumBy z_term z_termBy z_byNot z_valueOf h1 h2; omega
          | succ fu ihf =>
            intro i row1 lrow1 gt1 bm1 lc1 lm1 z_kept z_keptBy z_ahead z_against z_sum z_sumBy z_term z_termBy z_byNot z_valueOf h1 h2 hL1 hr
            rw [f_X2_shareFrom_52.eq_2, f_X13_gives_93.eq_2]
            simp only [gl_0_10, cl_0, hc0]
            by_cases h : i < M
            · have hle : ¬ nI M ≤ nI i := by rw [nI_leI (by omega) (by omega)]; omega
              rw [if_neg hle, if_neg hle]
              by_cases hb : U.testBit i = false
              · rw [if_pos ((bit0 (by omega) (by omega)).mpr hb), if_neg (fun q => by rw [bit1 (by omega) (by omega), hb] at q; exact absurd q (by decide)), q_gp (by omega) (by omega), shl1 (by omega), nI_or, nI_1, nI_1, show nI k * 6 = nI (k * 6) from pk_mul k 6, nI_add, q_ga (by omega) (by omega), hnd k i (by omega) h, nI_add]
                obtain ⟨y_kept, y_keptBy, y_ahead, y_against, y_sum, y_sumBy, y_term, y_termBy, y_byNot, y_valueOf, hy⟩ := soonOf_eq (z_kept := z_kept) (z_keptBy := z_keptBy) (z_ahead := z_ahead) (z_against := z_against) (z_sum := z_sum) (z_sumBy := z_sumBy) (z_term := z_term) (z_termBy := z_termBy) (z_byNot := z_byNot) (z_valueOf := z_valueOf) hMS hR h (show k < 5 by omega)
                rw [hy]
                simp only [o_bs]
                rw [q_gd (by omega) (by omega), nI_clamp (by omega)]
                have hU2 : U ||| 2 ^ i < 64 := Nat.or_lt_two_pow (n := 6) (by omega) (Nat.pow_lt_pow_right (by decide) (by omega))
                have hct := ctv_le sv s_sizes i k
                have hcn2 : cn (fun j => (U ||| 2 ^ i).testBit j) M = cn (fun i => decide (¬ s_sizes i ≤ 0)) (k + 1) := by
                  rw [cn_set hb, if_pos h, hcn, hcs]
                obtain ⟨row2, lrow2, lc2, c1, v_kept, v_keptBy, v_ahead, v_against, v_sum, v_sumBy, v_term, v_termBy, v_byNot, v_valueOf, gt2, bm2, lm2, c2, c3, c4⟩ := ih d (k + 1) (upd row1 k (nI i)) lrow1 (upd gt1 k (nI i)) bm1 lc1 lm1 (U ||| 2 ^ i) (t + ctv sv s_sizes i k) y_kept y_keptBy y_ahead y_against y_sum y_sumBy y_term y_termBy y_byNot y_valueOf (by omega) (by omega) (by omega) hU2 hcn2 hL1 (fun j hj => by
                  simp only [upd_at]
                  by_cases e : j = k
                  · rw [if_pos e, if_pos e]
                  · rw [if_neg e, if_neg e, (hr j (by omega)).1, (hr j (by omega)).2]; exact hrow j (by omega))
                have h157 : ∀ v4, v4 = nI (ctv sv s_sizes i k) → (f_X13_gives_157 (f_X13_gives d) (f_X13_gives_93 (f_X13_gives d) fu) m_city m_kind m_skill m_want m_lineFrom m_lineTo m_codes y_kept y_keptBy y_ahead y_against y_sum y_sumBy y_term y_termBy y_byNot y_valueOf m_s (upd gt1 k (nI i)) bm1 lm1 (nI k) (nI U) (nI t) (nI i) (nI (k + 1)) (nI (U ||| 2 ^ i)) (nI t) v4) = (f_X13_gives_93 (f_X13_gives d) fu m_city m_kind m_skill m_want m_lineFrom m_lineTo m_codes v_kept v_keptBy v_ahead v_against v_sum v_sumBy v_term v_termBy v_byNot v_valueOf m_s gt2 bm2 lm2 (nI k) (nI U) (nI t) (nI (i + 1))) := by
                  intro v4 hv4
                  subst hv4
                  unfold f_X13_gives_157
                  rw [nI_add, c2, o_bs, nI_1]
                have hm : (if (0 : Int32) ≤ sn (sv i) 25 (s_sizes k) 0 then (f_X13_gives_157 (f_X13_gives d) (f_X13_gives_93 (f_X13_gives d) fu) m_city m_kind m_skill m_want m_lineFrom m_lineTo m_codes y_kept y_keptBy y_ahead y_against y_sum y_sumBy y_term y_termBy y_byNot y_valueOf m_s (upd gt1 k (nI i)) bm1 lm1 (nI k) (nI U) (nI t) (nI i) (nI (k + 1)) (nI (U ||| 2 ^ i)) (nI t) (sn (sv i) 25 (s_sizes k) 0)) else (f_X13_gives_157 (f_X13_gives d) (f_X13_gives_93 (f_X13_gives d) fu) m_city m_kind m_skill m_want m_lineFrom m_lineTo m_codes y_kept y_keptBy y_ahead y_against y_sum y_sumBy y_term y_termBy y_byNot y_valueOf m_s (upd gt1 k (nI i)) bm1 lm1 (nI k) (nI U) (nI t) (nI i) (nI (k + 1)) (nI (U ||| 2 ^ i)) (nI t) 99)) = (f_X13_gives_93 (f_X13_gives d) fu m_city m_kind m_skill m_want m_lineFrom m_lineTo m_codes v_kept v_keptBy v_ahead v_against v_sum v_sumBy v_term v_termBy v_byNot v_valueOf m_s gt2 bm2 lm2 (nI k) (nI U) (nI t) (nI (i + 1))) := by
                  rcases ctv_cases sv s_sizes i k with ⟨e1, e2⟩ | ⟨a, ha, e1, e2⟩
                  · rw [e1, if_neg (by decide)]; exact h157 99 (by rw [e2]; rfl)
                  · rw [e1, if_pos (nI_pos' (by omega))]; exact h157 (nI a) (by rw [e2])
                rw [hm, c1, o_bs]
                obtain ⟨f1, f2, f3, f5, x_kept, x_keptBy, x_ahead, x_against, x_sum, x_sumBy, x_term, x_termBy, x_byNot, x_valueOf, f8, f9, f10, f11, ⟨f12, f13, f15⟩, f14⟩ := ihf (i + 1) row2 lrow2 gt2 bm2 lc2 lm2 v_kept v_keptBy v_ahead v_against v_sum v_sumBy v_term v_termBy v_byNot v_valueOf (by omega) (by omega) c3.1 (fun j hj => by
                  rw [(c4 j (by omega)).1, (c4 j (by omega)).2, pk_un (by omega), pk_un (by omega)]
                  exact hr j hj)
                refine ⟨f1, f2, f3, f5, x_kept, x_keptBy, x_ahead, x_against, x_sum, x_sumBy, x_term, x_termBy, x_byNot, x_valueOf, f8, f9, f10, f11, ⟨f12, fun q => f13 (Or.inr (c3.2.1 ?_)), fun g1 g2 => f15 g1 (c3.2.2 g1 g2)⟩, f14⟩
                rcases q with q | q
                · exact Or.inl q.1
                · exact Or.inr q
              · have hb' : U.testBit i = true := by simpa using hb
                rw [if_neg (fun q => hb ((bit0 (by omega) (by omega)).mp q)), if_pos ((bit1 (by omega) (by omega)).mpr hb'), nI_1]
                obtain ⟨f1, f2, f3, f5, x_kept, x_keptBy, x_ahead, x_against, x_sum, x_sumBy, x_term, x_termBy, x_byNot, x_valueOf, f8, f9, f10, f11, ⟨f12, f13, f15⟩, f14⟩ := ihf (i + 1) row1 lrow1 gt1 bm1 lc1 lm1 z_kept z_keptBy z_ahead z_against z_sum z_sumBy z_term z_termBy z_byNot z_valueOf (by omega) (by omega) hL1 hr
                refine ⟨f1, f2, f3, f5, x_kept, x_keptBy, x_ahead, x_against, x_sum, x_sumBy, x_term, x_termBy, x_byNot, x_valueOf, f8, f9, f10, f11, ⟨f12, fun q => f13 ?_, f15⟩, f14⟩
                rcases q with ⟨q1, m, q2, q3, q4⟩ | q
                · refine Or.inl ⟨q1, m, ?_, q3, q4⟩
                  rcases Nat.lt_or_ge i m with g | g
                  · omega
                  · have : m = i := by omega
                    rw [this] at q4; exact absurd q4 hb
                · exact Or.inr q
            · have hle : nI M ≤ nI i := by rw [nI_leI (by omega) (by omega)]; omega
              rw [if_pos hle, if_pos hle]
              refine ⟨_, _, _, rfl, z_kept, z_keptBy, z_ahead, z_against, z_sum, z_sumBy, z_term, z_termBy, z_byNot, z_valueOf, _, _, _, rfl, ⟨hL1, fun q => ?_, fun _ g => g⟩, hr⟩
              rcases q with ⟨_, m, q2, q3, _⟩ | q
              · omega
              · exact q
        obtain ⟨f1, f2, f3, f5, x_kept, x_keptBy, x_ahead, x_against, x_sum, x_sumBy, x_term, x_termBy, x_byNot, x_valueOf, f8, f9, f10, f11, ⟨f12, f13, f15⟩, f14⟩ := key 1100 0 row lrow (upd gt k (-1)) bm lc lm z_kept z_keptBy z_ahead z_against z_sum z_sumBy z_term z_termBy z_byNot z_valueOf (Nat.zero_le _) (by omega) hL (fun j hj => ⟨rfl, pk_un (by omega)⟩)
        refine ⟨f1, f2, f3, f5, x_kept, x_keptBy, x_ahead, x_against, x_sum, x_sumBy, x_term, x_termBy, x_byNot, x_valueOf, f8, f9, f10, f11, ⟨f12, fun q => f13 ?_, f15⟩, f14⟩
        rcases q with q | q
        · have hlt : cn (fun i => U.testBit i) M < M := by
            have := cn_mono (fun i => decide (¬ s_sizes i ≤ 0)) (a := k + 1) D (by omega)
            omega
          obtain ⟨m, hm, q4⟩ := cn_ex M hlt
          exact Or.inl ⟨q, m, Nat.zero_le _, hm, q4⟩
        · exact Or.inr q
theorem share_eq (hc : RC M D Q sv kv c_men c_consuls c_dangers c_decrees c_term c_kinds c_skills c_fields c_wants c_hated c_sizes c_grows c_grounds l_ops l_worksFrom l_worksTo l_keepsFrom l_keepsTo m_city m_kind m_skill m_fieldTold m_want m_hates m_restsOn m_sizeTold m_grows m_lineFrom m_lineTo m_codes) (hG : GS M D s_month s_power s_master s_left s_kept s_passed s_sizes s_fields s_liked) (st : Nat → Int32) : ∃ (nd st' : Nat → Int32), (∀ k i, k < D → i < M → nd (k * 6 + i) = nI (ctv sv s_sizes i k)) ∧ (f_X2_share u_row u_leastRow u_needed c_men c_dangers c_kinds c_skills c_wants l_ops st l_worksFrom l_worksTo l_keepsFrom l_keepsTo s_sizes) = ((f_X2_shareFrom 7 u_row u_leastRow nd 1000000 c_men c_dangers s_sizes 0 0 0)).bind fun r89 => some (r89.1, r89.2.1, nd, r89.2.2, st') := by
  obtain ⟨⟨hM, hD, hQ⟩, ⟨rfl, rfl, rfl⟩, ⟨hc0, hc1, hc2, hc3, hc4⟩, hT2, hmm, hsk, hdd, hq, hsv, hkv, hCS, hCK, hMS, hMK⟩ := hc
  have inner : ∀ (K : _) (k : Nat), k < D → ∀ (fu i : Nat) (nd st : Nat → Int32), i ≤ M → M < fu + i → ∃ (nd' st' : Nat → Int32), (∀ j, j < M → i ≤ j → nd' (k * 6 + j) = nI (ctv sv s_sizes j k)) ∧ (∀ q, q < k * 6 + i → nd' q = nd q) ∧ (f_X2_share_13 K fu u_row u_leastRow nd (nI M) (nI D) c_kinds c_skills c_wants l_ops st l_worksFrom l_worksTo l_keepsFrom l_keepsTo s_sizes (nI k) (nI i)) = K u_row u_leastRow nd' (nI M) (nI D) c_kinds c_skills c_wants l_ops st' l_worksFrom l_worksTo l_keepsFrom l_keepsTo s_sizes (nI (k + 1)) := by
    intro K k hk fu
    induction fu with
    | zero => intro i nd st h1 h2; omega
    | succ fu ih =>
      intro i nd st h1 h2
      rw [f_X2_share_13.eq_2]
      by_cases h : i < M
      · rw [if_neg (by rw [nI_leI (by omega) (by omega)]; omega), q_ga (by omega) (by omega)]
        obtain ⟨st1, hm⟩ := mte_eq hCS h (fun a b => hsv i a b h) (hG.2.2.2.2.1 k (by omega)) st
        rw [hm, o_bs]
        have h62 : ∀ v, v = nI (ctv sv s_sizes i k) → ∃ (nd' st' : Nat → Int32), (∀ j, j < M → i ≤ j → nd' (k * 6 + j) = nI (ctv sv s_sizes j k)) ∧ (∀ q, q < k * 6 + i → nd' q = nd q) ∧ (f_X2_share_62 (f_X2_share_13 K fu) u_row u_leastRow nd (nI M) (nI D) c_kinds c_skills c_wants l_ops st1 l_worksFrom l_worksTo l_keepsFrom l_keepsTo s_sizes (nI k) (nI i) (nI k * 6 + nI i) v) = K u_row u_leastRow nd' (nI M) (nI D) c_kinds c_skills c_wants l_ops st' l_worksFrom l_worksTo l_keepsFrom l_keepsTo s_sizes (nI (k + 1)) := by
          intro v hv
          unfold f_X2_share_62
          rw [show nI k * 6 = nI (k * 6) from pk_mul k 6, nI_add, q_gp (by omega) (by omega), nI_1]
          obtain ⟨nd', st', w1, w2, w3⟩ := ih (i + 1) (upd nd (k * 6 + i) v) st1 (by omega) (by omega)
          refine ⟨nd', st', fun j hj hij => ?_, fun q hq => ?_, w3⟩
          · by_cases e : j = i
            · subst e; rw [w2 _ (by omega), pk_us, hv]
            · exact w1 j hj (by omega)
          · rw [w2 q (by omega), pk_un (by omega)]
        rcases ctv_cases sv s_sizes i k with ⟨e1, e2⟩ | ⟨a, ha, e1, e2⟩
        · simp only [e1, ↓reduceIte]
          exact h62 99 (by rw [e2]; rfl)
        · have hne : ¬ nI a = -1 := nI_m1 a (by omega)
          simp only [e1, if_neg hne]
          exact h62 (nI a) (by rw [e2])
      · rw [if_pos (by rw [nI_leI (by omega) (by omega)]; omega), nI_1]
        exact ⟨nd, st, fun j hj hij => by omega, fun _ _ => rfl, rfl⟩
  have outer : ∀ (fu k : Nat) (nd st : Nat → Int32), k ≤ D → D < fu + k → (∀ q i, q < k → i < M → nd (q * 6 + i) = nI (ctv sv s_sizes i q)) → ∃ (nd' st' : Nat → Int32), (∀ k i, k < D → i < M → nd' (k * 6 + i) = nI (ctv sv s_sizes i k)) ∧ (f_X2_share_2 fu u_row u_leastRow nd (nI M) (nI D) c_kinds c_skills c_wants l_ops st l_worksFrom l_worksTo l_keepsFrom l_keepsTo s_sizes (nI k)) = ((f_X2_shareFrom 7 u_row u_leastRow nd' 1000000 (nI M) (nI D) s_sizes 0 0 0)).bind fun r89 => some (r89.1, r89.2.1, nd', r89.2.2, st') := by
    intro fu
    induction fu with
    | zero => intro k nd st h1 h2; omega
    | succ fu ih =>
      intro k nd st h1 h2 hnd
      rw [f_X2_share_2.eq_2]
      by_cases h : k < D
      · rw [if_neg (by rw [nI_leI (by omega) (by omega)]; omega)]
        obtain ⟨nd1, st1, w1, w2, w3⟩ := inner (f_X2_share_2 fu) k h 1100 0 nd st (Nat.zero_le _) (by omega)
        obtain ⟨nd2, st2, v1, v2⟩ := ih (k + 1) nd1 st1 (by omega) (by omega) (fun q i hq hi => by
          by_cases e : q = k
          · subst e; exact w1 i hi (Nat.zero_le _)
          · rw [w2 _ (by omega)]; exact hnd q i (by omega) hi)
        exact ⟨nd2, st2, v1, Eq.trans w3 v2⟩
      · rw [if_pos (by rw [nI_leI (by omega) (by omega)]; omega)]
        exact ⟨nd, st, fun k i hk hi => hnd k i (by omega) hi, rfl⟩
  exact outer 1100 0 u_needed st (Nat.zero_le _) (by omega) (fun q i hq => absurd hq (by omega))
theorem left_eq {f : Nat → Int32} : f_X9_dangersLeft f = some (nI (cn (fun i => decide (¬ f i ≤ 0)) 5)) := by
  have key : ∀ (fu k : Nat), k ≤ 5 → 5 < fu + k → f_X9_dangersLeft_4 fu f (nI (cn (fun i => decide (¬ f i ≤ 0)) k)) (nI k) = some (nI (cn (fun i => decide (¬ f i ≤ 0)) 5)) := by
    intro fu
    induction fu with
    | zero => intro k h1 h2; omega
    | succ fu ih =>
      intro k h1 h2
      rw [f_X9_dangersLeft_4.eq_2]
      by_cases h : k < 5
      · rw [if_neg (by rw [show (5 : Int32) = nI 5 from rfl, nI_leI (by omega) (by omega)]; omega), q_ga h (by omega), nI_1, nI_1]
        have h3 := ih (k + 1) (by omega) (by omega)
        have e : cn (fun i => decide (¬ f i ≤ 0)) (k + 1) = cn (fun i => decide (¬ f i ≤ 0)) k + (if decide (¬ f k ≤ 0) = true then 1 else 0) := rfl
        rw [e] at h3
        by_cases hf : f k ≤ 0
        · rw [if_pos hf]
          rw [if_neg (by simp [hf])] at h3
          exact h3
        · rw [if_neg hf]
          rw [if_pos (by simp [hf])] at h3
          exact h3
      · rw [if_pos (by rw [show (5 : Int32) = nI 5 from rfl, nI_leI (by omega) (by omega)]; omega), show k = 5 by omega]
  exact key 1100 0 (by omega) (by omega)
theorem call_all (hc : RC M D Q sv kv c_men c_consuls c_dangers c_decrees c_term c_kinds c_skills c_fields c_wants c_hated c_sizes c_grows c_grounds l_ops l_worksFrom l_worksTo l_keepsFrom l_keepsTo m_city m_kind m_skill m_fieldTold m_want m_hates m_restsOn m_sizeTold m_grows m_lineFrom m_lineTo m_codes) (hR : RS s_month s_power s_master s_left s_kept s_passed s_sizes s_fields s_liked m_s) (hG : GS M D s_month s_power s_master s_left s_kept s_passed s_sizes s_fields s_liked) (x1 : Int32) (st : Nat → Int32) : ∃ (v : Int32) (st' row' lrow' nd' : Nat → Int32) (lc' : Int32), (f_X12_all c_men c_dangers c_kinds c_skills c_wants l_ops st l_worksFrom l_worksTo l_keepsFrom l_keepsTo u_row u_leastRow u_needed u_least s_sizes x1) = some (v, st', row', lrow', nd', lc') ∧ ∃ (y_kept y_keptBy y_ahead y_against y_sum y_sumBy y_term y_termBy y_byNot y_valueOf : Nat → Int32) (gt' bm' : Nat → Int32) (lm' : Int32), (f_X13_all m_city m_kind m_skill m_want m_lineFrom m_lineTo m_codes z_kept z_keptBy z_ahead z_against z_sum z_sumBy z_term z_termBy z_byNot z_valueOf m_s m_goesTo m_bestGoes m_leastMonths x1) = some (v, 0, y_kept, y_keptBy, y_ahead, y_against, y_sum, y_sumBy, y_term, y_termBy, y_byNot, y_valueOf, gt', bm', lm') := by
  have hcc := hc
  obtain ⟨⟨hM, hD, hQ⟩, ⟨rfl, rfl, rfl⟩, ⟨hc0, hc1, hc2, hc3, hc4⟩, _⟩ := hc
  have hz5 : cn (fun i => decide (¬ s_sizes i ≤ 0)) 5 = cn (fun i => decide (¬ s_sizes i ≤ 0)) D := cn_zero 5 hD (fun i h1 h2 => by rw [hG.2.2.2.2.2.1 i h1 h2]; decide)
  have core : (x1 = -1 ∨ ∃ d, d < D ∧ x1 = nI d) → ∃ (v : Int32) (st' row' lrow' nd' : Nat → Int32) (lc' : Int32), (f_X12_all_19 (nI M) (nI D) c_kinds c_skills c_wants l_ops st l_worksFrom l_worksTo l_keepsFrom l_keepsTo u_row u_leastRow u_needed u_least s_sizes x1) = some (v, st', row', lrow', nd', lc') ∧ ∃ (y_kept y_keptBy y_ahead y_against y_sum y_sumBy y_term y_termBy y_byNot y_valueOf : Nat → Int32) (gt' bm' : Nat → Int32) (lm' : Int32), (f_X13_all_21 0 m_city m_kind m_skill m_want m_lineFrom m_lineTo m_codes z_kept z_keptBy z_ahead z_against z_sum z_sumBy z_term z_termBy z_byNot z_valueOf m_s m_goesTo m_bestGoes x1) = some (v, 0, y_kept, y_keptBy, y_ahead, y_against, y_sum, y_sumBy, y_term, y_termBy, y_byNot, y_valueOf, gt', bm', lm') := by
    intro hx
    unfold f_X12_all_19 f_X13_all_21
    obtain ⟨nd, st1, hnd, hsh⟩ := share_eq (u_row := u_row) (u_leastRow := u_leastRow) (u_needed := u_needed) hcc hG st
    have h0 : cn (fun i => (0 : Nat).testBit i) M = cn (fun i => decide (¬ s_sizes i ≤ 0)) 0 := cn_none M (fun i _ => Nat.zero_testBit i)
    obtain ⟨row2, lrow2, lc2, c1, v_kept, v_keptBy, v_ahead, v_against, v_sum, v_sumBy, v_term, v_termBy, v_byNot, v_valueOf, gt2, bm2, lm2, c2, ⟨c3, c5, c6⟩, c4⟩ := gives_rel hcc hR hG hnd D 7 0 u_row u_leastRow m_goesTo m_bestGoes 1000000 (-1) 0 0 z_kept z_keptBy z_ahead z_against z_sum z_sumBy z_term z_termBy z_byNot z_valueOf (by omega) (by omega) (by omega) (by omega) h0 (Or.inl ⟨rfl, rfl⟩) (fun i hi => absurd hi (by omega))
    have c1' : (f_X2_shareFrom 7 u_row u_leastRow nd 1000000 (nI M) (nI D) s_sizes 0 0 0) = some (row2, lrow2, lc2) := c1
    have c2' : (f_X13_gives 7 m_city m_kind m_skill m_want m_lineFrom m_lineTo m_codes z_kept z_keptBy z_ahead z_against z_sum z_sumBy z_term z_termBy z_byNot z_valueOf m_s m_goesTo m_bestGoes (-1) 0 0 0) = some (v_kept, v_keptBy, v_ahead, v_against, v_sum, v_sumBy, v_term, v_termBy, v_byNot, v_valueOf, gt2, bm2, lm2) := c2
    rw [left_eq, hsh, c1', c2', hz5]
    simp only [o_bs]
    have hcnD := cn_le (fun i => decide (¬ s_sizes i ≤ 0)) D
    by_cases hle : cn (fun i => decide (¬ s_sizes i ≤ 0)) D ≤ M
    · obtain ⟨w, hw, rfl, rfl, hrw⟩ := c5 (Or.inl hle)
      rw [if_pos (nI_le hle (by omega)), if_pos (nI_pos' (by omega))]
      rcases hx with rfl | ⟨d, hd, rfl⟩
      · simp only [↓reduceIte]
        exact ⟨_, _, _, _, _, _, rfl, v_kept, v_keptBy, v_ahead, v_against, v_sum, v_sumBy, v_term, v_termBy, v_byNot, v_valueOf, _, _, _, rfl⟩
      · have hne : ¬ nI d = -1 := nI_m1 d (by omega)
        simp only [if_neg hne]
        rw [q_ga (by omega) (by omega), q_gd (by omega) (by omega), nI_clamp (by omega), hrw d hd]
        exact ⟨_, _, _, _, _, _, rfl, v_kept, v_keptBy, v_ahead, v_against, v_sum, v_sumBy, v_term, v_termBy, v_byNot, v_valueOf, _, _, _, rfl⟩
    · have hlm := c6 (by omega) rfl
      subst hlm
      rw [if_neg (fun q => hle ((nI_leI (by omega) (by omega)).mp q)), if_neg (by decide)]
      exact ⟨_, _, _, _, _, _, rfl, v_kept, v_keptBy, v_ahead, v_against, v_sum, v_sumBy, v_term, v_termBy, v_byNot, v_valueOf, _, _, _, rfl⟩
  unfold f_X12_all f_X13_all
  by_cases h1 : x1 = -1
  · rw [if_pos h1, if_pos h1]
    exact core (Or.inl h1)
  · rw [if_neg h1, if_neg h1]
    rcases ix x1 D (by omega) with h | ⟨d, hd, rfl⟩
    · rw [isDanger_0 hc1 h, hasDanger_0 h, o_bs, if_pos e00, if_pos e00]
      exact ⟨_, _, _, _, _, _, rfl, z_kept, z_keptBy, z_ahead, z_against, z_sum, z_sumBy, z_term, z_termBy, z_byNot, z_valueOf, _, _, _, rfl⟩
    · rw [isDanger_1 hc1 hD hd, hasDanger_1 hD hd, o_bs, if_neg n10, if_neg n10]
      exact core (Or.inr ⟨d, hd, rfl⟩)
end
