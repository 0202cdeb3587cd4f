/-! how soon, whom -/
/-- in how many months, from size n, k passed, f to go -/
def sn (w : Int32 → Int32 → Int32) : Nat → Int32 → Nat → Int32
  | 0, _, _ => -1
  | f + 1, n, k => if n = 0 then nI k else sn w f (imax 0 (n - w n (nI k))) (k + 1)
/-- the size behind f months -/
def sb (w : Int32 → Int32 → Int32) : Nat → Int32 → Nat → Int32
  | 0, n, _ => n
  | f + 1, n, k => sb w f (imax 0 (n - w n (nI k))) (k + 1)
def anyF (P : Nat → Bool) : Nat → Nat → Bool
  | 0, _ => false
  | f + 1, k => P k || anyF P f (k + 1)
def tgF (h : Nat → Int32) (w : Nat → Bool) : Nat → Nat → Int32 → Int32
  | 0, _, a => a
  | f + 1, k, a => tgF h w f (k + 1) (if w k then a else a + h k)
def whF (nm : Nat → Bool) (nn wk : Nat → Int32) (term : Int32) : Nat → Nat → Int32 → Int32 → Int32 × Int32
  | 0, _, b, l => (b, l)
  | f + 1, k, b, l => if nm k = true ∧ ¬ nn k < 0 ∧ ¬ term < nn k ∧ ¬ (¬ b = -1 ∧ l ≤ nn k) ∧ wk k = 0 then whF nm nn wk term f (k + 1) (nI k) (nn k) else whF nm nn wk term f (k + 1) b l
theorem sn_rng (w : Int32 → Int32 → Int32) : ∀ (f : Nat) (n : Int32) (k : Nat), k + f ≤ 100 → sn w f n k = -1 ∨ ∃ j, k ≤ j ∧ j < k + f ∧ sn w f n k = nI j := by
  intro f
  induction f with
  | zero => intro n k _; exact Or.inl rfl
  | succ f ih =>
    intro n k h
    show (if n = 0 then nI k else sn w f (imax 0 (n - w n (nI k))) (k + 1)) = -1 ∨ ∃ j, k ≤ j ∧ j < k + (f + 1) ∧ (if n = 0 then nI k else sn w f (imax 0 (n - w n (nI k))) (k + 1)) = nI j
    by_cases hn : n = 0
    · rw [if_pos hn]; exact Or.inr ⟨k, Nat.le_refl _, by omega, rfl⟩
    · rw [if_neg hn]
      rcases ih (imax 0 (n - w n (nI k))) (k + 1) (by omega) with h1 | ⟨j, h1, h2, h3⟩
      · exact Or.inl h1
      · exact Or.inr ⟨j, by omega, by omega, h3⟩
theorem imax0_pos {x : Int32} (h : 0 < x) : imax 0 x = x := if_pos h
theorem imax0_neg {x : Int32} (h : ¬ 0 < x) : imax 0 x = 0 := if_neg h
theorem imax0_rng {a w : Int32} (h : 0 ≤ a.toInt ∧ a.toInt ≤ 99) (hw : 0 ≤ w.toInt ∧ w.toInt ≤ 99) : 0 ≤ (imax 0 (a - w)).toInt ∧ (imax 0 (a - w)).toInt ≤ 99 := less_rng h (by omega)
theorem sb_rng {w : Int32 → Int32 → Int32} (hw : ∀ a b, 0 ≤ (w a b).toInt ∧ (w a b).toInt ≤ 99) : ∀ (f : Nat) (n : Int32) (k : Nat), 0 ≤ n.toInt ∧ n.toInt ≤ 99 → 0 ≤ (sb w f n k).toInt ∧ (sb w f n k).toInt ≤ 99 := by
  intro f
  induction f with
  | zero => intro n k h; exact h
  | succ f ih => intro n k h; exact ih _ _ (imax0_rng h (hw _ _))
theorem sb_0 {w : Int32 → Int32 → Int32} (hw : ∀ a b, 0 ≤ (w a b).toInt ∧ (w a b).toInt ≤ 99) : ∀ (f k : Nat), sb w f 0 k = 0 := by
  intro f
  induction f with
  | zero => intro k; rfl
  | succ f ih =>
    intro k
    show sb w f (imax 0 (0 - w 0 (nI k))) (k + 1) = 0
    have h1 := hw 0 (nI k)
    rw [imax0_neg (by rw [i_lt, i_sub (by have := t0; omega), t0]; omega)]
    exact ih _
section
variable {s_month s_power s_master s_left s_kept s_passed : Int32} {s_sizes s_fields s_liked : Nat → Int32} {m_s : Nat → Int32} {M D Q : Nat} {sv kv : Nat → Int32 → Int32 → Int32} {c_men c_consuls c_dangers c_decrees c_term : Int32} {c_kinds c_skills c_fields c_wants c_hated c_sizes c_grows c_grounds : Nat → Int32} {l_ops : Nat → Int32} {l_worksFrom l_worksTo l_keepsFrom l_keepsTo : Int32} {m_city m_kind m_skill m_fieldTold m_want m_hates m_restsOn m_sizeTold m_grows : Nat → Int32} {m_lineFrom m_lineTo m_codes : Nat → Int32} {z_kept z_keptBy z_ahead z_against z_sum z_sumBy z_term z_termBy z_byNot z_valueOf : Nat → Int32}
theorem mte_eq (hCS : CSv sv M c_kinds c_skills c_wants l_ops l_worksFrom l_worksTo l_keepsFrom l_keepsTo) {i : Nat} (hi : i < M) (hw : ∀ a b, 0 ≤ (sv i a b).toInt ∧ (sv i a b).toInt ≤ 99) {n : Int32} (hn : 0 ≤ n.toInt ∧ n.toInt ≤ 99) (st : Nat → Int32) : ∃ st', (f_X1_monthsToEnd c_kinds c_skills c_wants l_ops st l_worksFrom l_worksTo l_keepsFrom l_keepsTo (nI i) n) = some (sn (sv i) 25 n 0, st') := by
  have key : ∀ (fu k : Nat) (x : Int32) (st : Nat → Int32), k ≤ 25 → 25 < fu + k → -99 ≤ x.toInt ∧ x.toInt ≤ 99 → ∃ st', (f_X1_monthsToEnd_5 fu c_kinds c_skills c_wants l_ops st l_worksFrom l_worksTo l_keepsFrom l_keepsTo (nI i) x (nI k)) = some (sn (sv i) (25 - k) (imax 0 x) k, st') := by
    intro fu
    induction fu with
    | zero => intro k x st h1 h2; omega
    | succ fu ih =>
      intro k x st h1 h2 hx
      rw [f_X1_monthsToEnd_5.eq_2]
      by_cases hk : k = 25
      · subst hk; exact ⟨st, rfl⟩
      · rw [if_neg (by rw [show (24 : Int32) = nI 24 from rfl, nI_ltI (by omega) (by omega)]; omega), show 25 - k = (24 - k) + 1 by omega]
        by_cases h0 : 0 < x
        · rw [if_pos h0, imax0_pos h0]
          obtain ⟨st1, hs⟩ := hCS i hi x (nI k) st
          rw [hs]
          have hwv := hw x (nI k)
          have hx0 : 0 < x.toInt := by rw [i_lt, t0] at h0; exact h0
          obtain ⟨st2, hs2⟩ := ih (k + 1) (x - sv i x (nI k)) st1 (by omega) (by omega) (by rw [i_sub (by omega)]; omega)
          refine ⟨st2, ?_⟩
          simp only [o_bs, nI_1]
          rw [hs2, show 25 - (k + 1) = 24 - k by omega]
          show _ = some (if x = 0 then nI k else sn (sv i) (24 - k) (imax 0 (x - sv i x (nI k))) (k + 1), st2)
          rw [if_neg (fun e => by rw [e] at hx0; exact absurd hx0 (by decide))]
        · rw [if_neg h0, imax0_neg h0]
          exact ⟨st, rfl⟩
  obtain ⟨st', h⟩ := key 1100 0 n st (by omega) (by omega) (by omega)
  refine ⟨st', ?_⟩
  have h0 : imax 0 n = n := by
    by_cases h0 : 0 < n
    · exact imax0_pos h0
    · rw [imax0_neg h0, i_eq, t0]; rw [i_lt, t0] at h0; omega
  rw [h0] at h
  exact h
theorem soonOf_eq (hMS : MSv sv M m_kind m_skill m_want m_lineFrom m_lineTo m_codes) (hR : RS s_month s_power s_master s_left s_kept s_passed s_sizes s_fields s_liked m_s) {i d : Nat} (hi : i < M) (hd : d < 5) : ∃ (y_kept y_keptBy y_ahead y_against y_sum y_sumBy y_term y_termBy y_byNot y_valueOf : Nat → Int32), (f_X13_soonOf m_kind m_skill m_want m_lineFrom m_lineTo m_codes z_kept z_keptBy z_ahead z_against z_sum z_sumBy z_term z_termBy z_byNot z_valueOf m_s (nI i) (nI d)) = some ((sn (sv i) 25 (s_sizes d) 0), y_kept, y_keptBy, y_ahead, y_against, y_sum, y_sumBy, y_term, y_termBy, y_byNot, y_valueOf) := by
  have key : ∀ (fu k : Nat) (x : Int32) (z_kept z_keptBy z_ahead z_against z_sum z_sumBy z_term z_termBy z_byNot z_valueOf : Nat → Int32), k ≤ 25 → 25 < fu + k → ∃ (y_kept y_keptBy y_ahead y_against y_sum y_sumBy y_term y_termBy y_byNot y_valueOf : Nat → Int32), (f_X13_soonOf_13 fu m_kind m_skill m_want m_lineFrom m_lineTo m_codes z_kept z_keptBy z_ahead z_against z_sum z_sumBy z_term z_termBy z_byNot z_valueOf (nI i) x (nI k)) = some ((sn (sv i) (25 - k) x k), y_kept, y_keptBy, y_ahead, y_against, y_sum, y_sumBy, y_term, y_termBy, y_byNot, y_valueOf) := by
    intro fu
    induction fu with
    | zero => intro k x z_kept z_keptBy z_ahead z_against z_sum z_sumBy z_term z_termBy z_byNot z_valueOf h1 h2; omega
    | succ fu ih =>
      intro k x z_kept z_keptBy z_ahead z_against z_sum z_sumBy z_term z_termBy z_byNot z_valueOf h1 h2
      rw [f_X13_soonOf_13.eq_2]
      by_cases hk : k = 25
      · subst hk; exact ⟨z_kept, z_keptBy, z_ahead, z_against, z_sum, z_sumBy, z_term, z_termBy, z_byNot, z_valueOf, rfl⟩
      · rw [if_neg (by rw [show (25 : Int32) = nI 25 from rfl, nI_leI (by omega) (by omega)]; omega), show 25 - k = (24 - k) + 1 by omega]
        by_cases h0 : x = 0
        · subst h0; exact ⟨z_kept, z_keptBy, z_ahead, z_against, z_sum, z_sumBy, z_term, z_termBy, z_byNot, z_valueOf, rfl⟩
        · rw [if_neg h0]
          obtain ⟨y_kept, y_keptBy, y_ahead, y_against, y_sum, y_sumBy, y_term, y_termBy, y_byNot, y_valueOf, hy⟩ := hMS i hi x (nI k) z_kept z_keptBy z_ahead z_against z_sum z_sumBy z_term z_termBy z_byNot z_valueOf
          rw [hy]
          obtain ⟨v_kept, v_keptBy, v_ahead, v_against, v_sum, v_sumBy, v_term, v_termBy, v_byNot, v_valueOf, hv⟩ := ih (k + 1) (imax 0 (x - sv i x (nI k))) y_kept y_keptBy y_ahead y_against y_sum y_sumBy y_term y_termBy y_byNot y_valueOf (by omega) (by omega)
          refine ⟨v_kept, v_keptBy, v_ahead, v_against, v_sum, v_sumBy, v_term, v_termBy, v_byNot, v_valueOf, ?_⟩
          simp only [o_bs, nI_1]
          rw [hv, show 25 - (k + 1) = 24 - k by omega]
          show _ = some (if x = 0 then nI k else sn (sv i) (24 - k) (imax 0 (x - sv i x (nI k))) (k + 1), v_kept, v_keptBy, v_ahead, v_against, v_sum, v_sumBy, v_term, v_termBy, v_byNot, v_valueOf)
          rw [if_neg h0]
  obtain ⟨y_kept, y_keptBy, y_ahead, y_against, y_sum, y_sumBy, y_term, y_termBy, y_byNot, y_valueOf, h⟩ := key 1100 0 (s_sizes d) z_kept z_keptBy z_ahead z_against z_sum z_sumBy z_term z_termBy z_byNot z_valueOf (by omega) (by omega)
  refine ⟨y_kept, y_keptBy, y_ahead, y_against, y_sum, y_sumBy, y_term, y_termBy, y_byNot, y_valueOf, ?_⟩
  unfold f_X13_soonOf
  simp (disch := omega) only [qa_6, q_gd, nI_clamp]
  rw [hR.2.2.2.2.2.2.1 d hd]
  exact h
theorem sizeBehind_eq (hCS : CSv sv M c_kinds c_skills c_wants l_ops l_worksFrom l_worksTo l_keepsFrom l_keepsTo) {i : Nat} (hi : i < M) (hw : ∀ a b, 0 ≤ (sv i a b).toInt ∧ (sv i a b).toInt ≤ 99) {n : Int32} (hn : 0 ≤ n.toInt ∧ n.toInt ≤ 99) {t : Nat} (ht : t ≤ 12) (st : Nat → Int32) : ∃ st', (f_X1_sizeBehind c_kinds c_skills c_wants l_ops st l_worksFrom l_worksTo l_keepsFrom l_keepsTo (nI i) n (nI t)) = some (sb (sv i) t n 0, st') := by
  have key : ∀ (fu k : Nat) (x : Int32) (st : Nat → Int32), k ≤ t → t < fu + k → 0 ≤ x.toInt ∧ x.toInt ≤ 99 → ∃ st', (f_X1_sizeBehind_6 fu c_kinds c_skills c_wants l_ops st l_worksFrom l_worksTo l_keepsFrom l_keepsTo (nI i) (nI t) x (nI k)) = some (sb (sv i) (t - k) x k, st') := by
    intro fu
    induction fu with
    | zero => intro k x st h1 h2; omega
    | succ fu ih =>
      intro k x st h1 h2 hx
      rw [f_X1_sizeBehind_6.eq_2]
      by_cases hk : k = t
      · subst hk
        rw [if_pos (by rw [nI_leI (by omega) (by omega)]; omega), Nat.sub_self]
        exact ⟨st, rfl⟩
      · rw [if_neg (by rw [nI_leI (by omega) (by omega)]; omega), show t - k = (t - (k + 1)) + 1 by omega]
        by_cases h0 : x ≤ 0
        · have : x = 0 := by rw [i_eq, t0]; rw [i_le, t0] at h0; omega
          subst this
          rw [if_pos h0, sb_0 hw]
          exact ⟨st, rfl⟩
        · rw [if_neg h0]
          obtain ⟨st1, hs⟩ := hCS i hi x (nI k) st
          rw [hs]
          obtain ⟨st2, hs2⟩ := ih (k + 1) (imax 0 (x - sv i x (nI k))) st1 (by omega) (by omega) (imax0_rng hx (hw _ _))
          refine ⟨st2, ?_⟩
          simp only [o_bs, nI_1]
          rw [hs2]; rfl
  exact key 1100 0 n st (by omega) (by omega) hn
theorem sizeBy_eq (hMS : MSv sv M m_kind m_skill m_want m_lineFrom m_lineTo m_codes) {i d : Nat} (hi : i < M) (hd : d < 5) {t : Nat} (ht : t ≤ 12) : ∃ (y_kept y_keptBy y_ahead y_against y_sum y_sumBy y_term y_termBy y_byNot y_valueOf : Nat → Int32), (f_X13_sizeBy m_kind m_skill m_want m_sizeTold m_lineFrom m_lineTo m_codes z_kept z_keptBy z_ahead z_against z_sum z_sumBy z_term z_termBy z_byNot z_valueOf (nI i) (nI d) (nI t)) = some ((sb (sv i) t (m_sizeTold d) 0), y_kept, y_keptBy, y_ahead, y_against, y_sum, y_sumBy, y_term, y_termBy, y_byNot, y_valueOf) := by
  have key : ∀ (fu k : Nat) (x : Int32) (z_kept z_keptBy z_ahead z_against z_sum z_sumBy z_term z_termBy z_byNot z_valueOf : Nat → Int32), k ≤ t → t < fu + k → ∃ (y_kept y_keptBy y_ahead y_against y_sum y_sumBy y_term y_termBy y_byNot y_valueOf : Nat → Int32), (f_X13_sizeBy_11 fu m_kind m_skill m_want m_lineFrom m_lineTo m_codes z_kept z_keptBy z_ahead z_against z_sum z_sumBy z_term z_termBy z_byNot z_valueOf (nI i) (nI t) x (nI k)) = some ((sb (sv i) (t - k) x k), y_kept, y_keptBy, y_ahead, y_against, y_sum, y_sumBy, y_term, y_termBy, y_byNot, y_valueOf) := by
    intro fu
    induction fu with
    | zero => intro k x z_kept z_keptBy z_ahead z_against z_sum z_sumBy z_term z_termBy z_byNot z_valueOf h1 h2; omega
    | succ fu ih =>
      intro k x z_kept z_keptBy z_ahead z_against z_sum z_sumBy z_term z_termBy z_byNot z_valueOf h1 h2
      rw [f_X13_sizeBy_11.eq_2]
      by_cases hk : k = t
      · subst hk
        rw [if_pos (by rw [nI_leI (by omega) (by omega)]; omega), Nat.sub_self]
        exact ⟨z_kept, z_keptBy, z_ahead, z_against, z_sum, z_sumBy, z_term, z_termBy, z_byNot, z_valueOf, rfl⟩
      · rw [if_neg (by rw [nI_leI (by omega) (by omega)]; omega), show t - k = (t - (k + 1)) + 1 by omega]
        obtain ⟨y_kept, y_keptBy, y_ahead, y_against, y_sum, y_sumBy, y_term, y_termBy, y_byNot, y_valueOf, hy⟩ := hMS i hi x (nI k) z_kept z_keptBy z_ahead z_against z_sum z_sumBy z_term z_termBy z_byNot z_valueOf
        rw [hy]
        obtain ⟨v_kept, v_keptBy, v_ahead, v_against, v_sum, v_sumBy, v_term, v_termBy, v_byNot, v_valueOf, hv⟩ := ih (k + 1) (imax 0 (x - sv i x (nI k))) y_kept y_keptBy y_ahead y_against y_sum y_sumBy y_term y_termBy y_byNot y_valueOf (by omega) (by omega)
        refine ⟨v_kept, v_keptBy, v_ahead, v_against, v_sum, v_sumBy, v_term, v_termBy, v_byNot, v_valueOf, ?_⟩
        simp only [o_bs, nI_1]
        rw [hv]; rfl
  obtain ⟨y_kept, y_keptBy, y_ahead, y_against, y_sum, y_sumBy, y_term, y_termBy, y_byNot, y_valueOf, h⟩ := key 1100 0 (m_sizeTold d) z_kept z_keptBy z_ahead z_against z_sum z_sumBy z_term z_termBy z_byNot z_valueOf (by omega) (by omega)
  refine ⟨y_kept, y_keptBy, y_ahead, y_against, y_sum, y_sumBy, y_term, y_termBy, y_byNot, y_valueOf, ?_⟩
  unfold f_X13_sizeBy
  simp (disch := omega) only [q_gd, nI_clamp]
  exact h
/-! who can be named -/
theorem hasMan_1 {k : Nat} (hM : M ≤ 6) (h : k < M) : f_X1_hasMan (nI M) (nI k) = 1 := by
  unfold f_X1_hasMan
  rw [if_neg (nI_pos (by omega)), if_neg (by rw [nI_leI (by omega) (by omega)]; omega)]
theorem could_eq (hM : M ≤ 6) (h3 : m_city 3 = c_consuls) {a b : Nat} (ha : a < M) (hb : b < M) (hh : m_hates a = c_hated a) : (f_X13_couldName m_city m_hates (nI a) (nI b)) = some (f_X1_couldName (nI M) c_consuls c_hated (nI a) (nI b)) := by
  unfold f_X13_couldName f_X1_couldName f_X13_isConsul f_X1_isConsul f_X1_doesHate
  rw [hasMan_1 hM ha, hasMan_1 hM hb]
  simp (disch := omega) only [gl_3_10, cl_3, h3, q_gd, q_ga, nI_clamp, hh]
  rw [if_neg n10, if_neg n10]
  by_cases h1 : (c_consuls >>> (nI a &&& 31)) &&& 1 = 1
  · rw [if_pos h1, if_pos h1]
    simp only [o_bs]
    rw [if_neg n10, if_neg n10]
    by_cases h2 : nI a = nI b
    · rw [if_pos h2, if_pos h2]
    · rw [if_neg h2, if_neg h2]
      by_cases h4 : (c_hated a >>> (nI b &&& 31)) &&& 1 = 1
      · rw [if_pos h4, if_neg (fun q => (and1_0 _).mp q h4), if_neg n10]; rfl
      · rw [if_neg h4, if_pos ((and1_0 _).mpr h4)]; rfl
  · rw [if_neg h1, if_neg h1]
    rfl
end
