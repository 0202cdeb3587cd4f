/-! what is told, who it was, which month parts them -/
def RT (D ρ : Nat) (r_told : Int32) (r_dangers r_months r_sizes : Nat → Int32) (m_tolds m_toldDanger m_toldMonths m_toldSize : Nat → Int32) : Prop :=
  ∃ T : Nat, T ≤ 8 ∧ r_told = nI T ∧ m_tolds ρ = nI T ∧ ∀ i, i < T → m_toldDanger (8 * ρ + i) = r_dangers i ∧ m_toldMonths (8 * ρ + i) = r_months i ∧ m_toldSize (8 * ρ + i) = r_sizes i ∧ (∃ d, d < D ∧ r_dangers i = nI d) ∧ (∃ t, t ≤ 12 ∧ r_months i = nI t)
def allF (P : Nat → Bool) : Nat → Nat → Bool
  | 0, _ => true
  | f + 1, k => P k && allF P f (k + 1)
/-- whether one told thing is so of a man -/
def ftP (sv : Nat → Int32 → Int32 → Int32) (c_sizes r_dangers r_months r_sizes : Nat → Int32) (i k : Nat) : Bool := decide (sb (sv i) (r_months k).toNatClampNeg (c_sizes (r_dangers k).toNatClampNeg) 0 = r_sizes k)
/-- the greatest number so far of like ones -/
def mxR (S : Nat) (z : Nat → Nat) : Nat → Nat
  | 0 => 0
  | k + 1 => if S.testBit k then max (mxR S z k) (cn (fun o => S.testBit o && decide (z o = z k)) (k + 1)) else mxR S z k
def mxA (S : Nat) (z : Nat → Nat) (M : Nat) : Nat → Nat
  | 0 => 0
  | k + 1 => if S.testBit k then max (mxA S z M k) (cn (fun o => S.testBit o && decide (z o = z k)) M) else mxA S z M k
theorem cn_mono (P : Nat → Bool) {a : Nat} : ∀ b, a ≤ b → cn P a ≤ cn P b := by
  intro b
  induction b with
  | zero => intro h; rw [show a = 0 by omega]; exact Nat.le_refl _
  | succ b ih =>
    intro h
    by_cases e : a = b + 1
    · rw [e]; exact Nat.le_refl _
    · exact Nat.le_trans (ih (by omega)) (Nat.le_add_right _ _)
theorem mxR_ge (S : Nat) (z : Nat → Nat) (v : Nat) : ∀ k, cn (fun o => S.testBit o && decide (z o = v)) k ≤ mxR S z k := by
  intro k
  induction k with
  | zero => exact Nat.le_refl _
  | succ k ih =>
    show cn (fun o => S.testBit o && decide (z o = v)) k + (if (S.testBit k && decide (z k = v)) = true then 1 else 0) ≤ if S.testBit k = true then max (mxR S z k) (cn (fun o => S.testBit o && decide (z o = z k)) (k + 1)) else mxR S z k
    by_cases hs : S.testBit k = true
    · rw [if_pos hs]
      by_cases hv : z k = v
      · subst hv
        exact Nat.le_max_right _ _
      · rw [if_neg (by simp [hv])]
        exact Nat.le_trans ih (Nat.le_max_left _ _)
    · rw [if_neg hs, if_neg (by simp [hs])]
      exact ih
theorem mx_eq (S : Nat) (z : Nat → Nat) (M : Nat) : mxA S z M M = mxR S z M := by
  apply Nat.le_antisymm
  · have : ∀ k, mxA S z M k ≤ mxR S z M := by
      intro k
      induction k with
      | zero => exact Nat.zero_le _
      | succ k ih =>
        show (if S.testBit k = true then max (mxA S z M k) _ else mxA S z M k) ≤ _
        split
        · exact Nat.max_le.mpr ⟨ih, mxR_ge S z (z k) M⟩
        · exact ih
    exact this M
  · have : ∀ k, k ≤ M → mxR S z k ≤ mxA S z M k := by
      intro k
      induction k with
      | zero => intro _; exact Nat.zero_le _
      | succ k ih =>
        intro hk
        show (if S.testBit k = true then max (mxR S z k) _ else mxR S z k) ≤ if S.testBit k = true then max (mxA S z M k) _ else mxA S z M k
        split
        · exact Nat.max_le.mpr ⟨Nat.le_trans (ih (by omega)) (Nat.le_max_left _ _), Nat.le_trans (cn_mono _ M hk) (Nat.le_max_right _ _)⟩
        · exact ih (by omega)
    exact this M (Nat.le_refl _)
theorem mxR_le (S : Nat) (z : Nat → Nat) : ∀ k, mxR S z k ≤ k := by
  intro k
  induction k with
  | zero => exact Nat.le_refl _
  | succ k ih =>
    show (if S.testBit k = true then max (mxR S z k) _ else mxR S z k) ≤ k + 1
    split
    · exact Nat.max_le.mpr ⟨by omega, cn_le _ _⟩
    · omega
theorem mxA_le (S : Nat) (z : Nat → Nat) (M : Nat) : ∀ k, mxA S z M k ≤ M := by
  intro k
  induction k with
  | zero => exact Nat.zero_le _
  | succ k ih =>
    show (if S.testBit k = true then max (mxA S z M k) _ else mxA S z M k) ≤ M
    split
    · exact Nat.max_le.mpr ⟨ih, cn_le _ _⟩
    · exact ih
theorem imax_nI {a b : Nat} (ha : a < 2 ^ 31) (hb : b < 2 ^ 31) : imax (nI a) (nI b) = nI (max a b) := by
  show (if nI a < nI b then nI b else nI a) = _
  by_cases h : a < b
  · rw [if_pos ((nI_ltI ha hb).mpr h), Nat.max_eq_right (by omega)]
  · rw [if_neg (fun q => h ((nI_ltI ha hb).mp q)), Nat.max_eq_left (by omega)]
theorem bitC : ∀ S, S < 64 → f_X20_bitCount (nI S) = ((((((0 : Int32) + ((nI S >>> ((0 : Int32) &&& 31)) &&& 1)) + ((nI S >>> (((0 : Int32) + 1) &&& 31)) &&& 1)) + ((nI S >>> (((0 : Int32) + 1 + 1) &&& 31)) &&& 1)) + ((nI S >>> (((0 : Int32) + 1 + 1 + 1) &&& 31)) &&& 1)) + ((nI S >>> (((0 : Int32) + 1 + 1 + 1 + 1) &&& 31)) &&& 1)) + ((nI S >>> (((0 : Int32) + 1 + 1 + 1 + 1 + 1) &&& 31)) &&& 1) := by decide +kernel
section
variable {r_told : Int32} {r_dangers r_months r_sizes : Nat → Int32} {m_tolds m_toldDanger m_toldMonths m_toldSize u_likeSizes : Nat → Int32} {M D Q : Nat} {sv kv : Nat → Int32 → Int32 → Int32} {c_men c_consuls c_dangers c_decrees c_term : Int32} {c_kinds c_skills c_fields c_wants c_hated c_sizes c_grows c_grounds : Nat → Int32} {l_ops : Nat → Int32} {l_worksFrom l_worksTo l_keepsFrom l_keepsTo : Int32} {m_city m_kind m_skill m_fieldTold m_want m_hates m_restsOn m_sizeTold m_grows : Nat → Int32} {m_lineFrom m_lineTo m_codes : Nat → Int32} {z_kept z_keptBy z_ahead z_against z_sum z_sumBy z_term z_termBy z_byNot z_valueOf : Nat → Int32}
theorem fits_eq (hc : RC M D Q sv kv c_men c_consuls c_dangers c_decrees c_term c_kinds c_skills c_fields c_wants c_hated c_sizes c_grows c_grounds l_ops l_worksFrom l_worksTo l_keepsFrom l_keepsTo m_city m_kind m_skill m_fieldTold m_want m_hates m_restsOn m_sizeTold m_grows m_lineFrom m_lineTo m_codes) {T i : Nat} (hT : T ≤ 8) (hi : i < M) (ht : ∀ k, k < T → (∃ d, d < D ∧ r_dangers k = nI d) ∧ ∃ t, t ≤ 12 ∧ r_months k = nI t) (st : Nat → Int32) : ∃ st', (f_X7_fits (nI T) r_dangers r_months r_sizes c_kinds c_skills c_wants c_sizes l_ops st l_worksFrom l_worksTo l_keepsFrom l_keepsTo (nI i)) = some (bI (allF (ftP sv c_sizes r_dangers r_months r_sizes i) T 0), st') := by
  obtain ⟨⟨hM, hD, hQ⟩, ⟨rfl, rfl, rfl⟩, ⟨hc0, hc1, hc2, hc3, hc4⟩, hT2, hmm, hsk, hdd, hq, hsv, hkv, hCS, hCK, hMS, hMK⟩ := hc
  have key : ∀ (fu k : Nat) (st : Nat → Int32), k ≤ T → T < fu + k → ∃ st', (f_X7_fits_2 fu (nI T) r_dangers r_months r_sizes c_kinds c_skills c_wants c_sizes l_ops st l_worksFrom l_worksTo l_keepsFrom l_keepsTo (nI i) (nI k)) = some (bI (allF (ftP sv c_sizes r_dangers r_months r_sizes i) (T - k) k), st') := by
    intro fu
    induction fu with
    | zero => intro k st h1 h2; omega
    | succ fu ih =>
      intro k st h1 h2
      rw [f_X7_fits_2.eq_2]
      by_cases h : k < T
      · obtain ⟨⟨d, hd, ed⟩, t, htt, et⟩ := ht k h
        rw [if_neg (by rw [nI_leI (by omega) (by omega)]; omega), q_ga (by omega) (by omega), q_ga (by omega) (by omega), q_ga (by omega) (by omega), ed, et, q_ga (by omega) (by omega), show T - k = (T - (k + 1)) + 1 by omega]
        obtain ⟨st1, h1⟩ := sizeBehind_eq hCS hi (fun a b => hsv i a b hi) (n := c_sizes d) ⟨(hdd d hd).2.2.1, (hdd d hd).2.2.2.1⟩ htt st
        rw [h1]
        simp only [o_bs]
        show ∃ st', _ = some (bI (ftP sv c_sizes r_dangers r_months r_sizes i k && allF (ftP sv c_sizes r_dangers r_months r_sizes i) (T - (k + 1)) (k + 1)), st')
        have ef : ftP sv c_sizes r_dangers r_months r_sizes i k = decide (sb (sv i) t (c_sizes d) 0 = r_sizes k) := by
          unfold ftP; rw [ed, et, nI_clamp (by omega), nI_clamp (by omega)]
        rw [ef]
        by_cases he : sb (sv i) t (c_sizes d) 0 = r_sizes k
        · rw [if_pos he, decide_eq_true he, Bool.true_and, nI_1]
          exact ih (k + 1) st1 (by omega) (by omega)
        · rw [if_neg he, decide_eq_false he, Bool.false_and]
          exact ⟨st1, rfl⟩
      · rw [if_pos (by rw [nI_leI (by omega) (by omega)]; omega), show T - k = 0 by omega]
        exact ⟨st, rfl⟩
  exact key 1100 0 st (Nat.zero_le _) (by omega)
theorem asTold_eq (hc : RC M D Q sv kv c_men c_consuls c_dangers c_decrees c_term c_kinds c_skills c_fields c_wants c_hated c_sizes c_grows c_grounds l_ops l_worksFrom l_worksTo l_keepsFrom l_keepsTo m_city m_kind m_skill m_fieldTold m_want m_hates m_restsOn m_sizeTold m_grows m_lineFrom m_lineTo m_codes) {i : Nat} (hi : i < M) {T : Nat} (hT : T ≤ 8) (h0 : m_tolds 0 = nI T) (hm : ∀ k, k < T → m_toldDanger k = r_dangers k ∧ m_toldMonths k = r_months k ∧ m_toldSize k = r_sizes k ∧ (∃ d, d < D ∧ r_dangers k = nI d) ∧ (∃ t, t ≤ 12 ∧ r_months k = nI t)) : ∃ (y_kept y_keptBy y_ahead y_against y_sum y_sumBy y_term y_termBy y_byNot y_valueOf : Nat → Int32), (f_X13_isAsTold m_kind m_skill m_want m_sizeTold m_lineFrom m_lineTo m_codes z_kept z_keptBy z_ahead z_against z_sum z_sumBy z_term z_termBy z_byNot z_valueOf m_tolds m_toldDanger m_toldMonths m_toldSize (nI i)) = some ((bI (allF (ftP sv c_sizes r_dangers r_months r_sizes i) T 0)), y_kept, y_keptBy, y_ahead, y_against, y_sum, y_sumBy, y_term, y_termBy, y_byNot, y_valueOf) := by
  obtain ⟨⟨hM, hD, hQ⟩, ⟨rfl, rfl, rfl⟩, ⟨hc0, hc1, hc2, hc3, hc4⟩, hT2, hmm, hsk, hdd, hq, hsv, hkv, hCS, hCK, hMS, hMK⟩ := hc
  have key : ∀ (fu k : Nat) (z_kept z_keptBy z_ahead z_against z_sum z_sumBy z_term z_termBy z_byNot z_valueOf : Nat → Int32), k ≤ T → T < fu + k → ∃ (y_kept y_keptBy y_ahead y_against y_sum y_sumBy y_term y_termBy y_byNot y_valueOf : Nat → Int32), (f_X13_isAsTold_2 fu m_kind m_skill m_want m_sizeTold m_lineFrom m_lineTo m_codes z_kept z_keptBy z_ahead z_against z_sum z_sumBy z_term z_termBy z_byNot z_valueOf m_tolds m_toldDanger m_toldMonths m_toldSize (nI i) (nI k)) = some ((bI (allF (ftP sv c_sizes r_dangers r_months r_sizes i) (T - k) k)), y_kept, y_keptBy, y_ahead, y_against, y_sum, y_sumBy, y_term, y_termBy, y_byNot, y_valueOf) := by
    intro fu
    induction fu with
    | zero => intro k z_kept z_keptBy z_ahead z_against z_sum z_sumBy z_term z_termBy z_byNot z_valueOf h1 h2; omega
    | succ fu ih =>
      intro k z_kept z_keptBy z_ahead z_against z_sum z_sumBy z_term z_termBy z_byNot z_valueOf h1 h2
      rw [f_X13_isAsTold_2.eq_2]
      simp only [gl_0_5, cl_0, h0]
      by_cases h : k < T
      · obtain ⟨e1, e2, e3, ⟨d, hd, ed⟩, t, htt, et⟩ := hm k h
        rw [if_neg (by rw [nI_leI (by omega) (by omega)]; omega), show T - k = (T - (k + 1)) + 1 by omega]
        simp (disch := omega) only [q_gd, nI_clamp, e1, e2, e3, ed, et]
        obtain ⟨y_kept, y_keptBy, y_ahead, y_against, y_sum, y_sumBy, y_term, y_termBy, y_byNot, y_valueOf, hy⟩ := sizeBy_eq (z_kept := z_kept) (z_keptBy := z_keptBy) (z_ahead := z_ahead) (z_against := z_against) (z_sum := z_sum) (z_sumBy := z_sumBy) (z_term := z_term) (z_termBy := z_termBy) (z_byNot := z_byNot) (z_valueOf := z_valueOf) (m_sizeTold := m_sizeTold) hMS hi (d := d) (by omega) htt
        rw [hy]
        simp only [o_bs]
        show ∃ (y_kept y_keptBy y_ahead y_against y_sum y_sumBy y_term y_termBy y_byNot y_valueOf : Nat → Int32), _ = some (bI (ftP sv c_sizes r_dangers r_months r_sizes i k && allF (ftP sv c_sizes r_dangers r_months r_sizes i) (T - (k + 1)) (k + 1)), y_kept, y_keptBy, y_ahead, y_against, y_sum, y_sumBy, y_term, y_termBy, y_byNot, y_valueOf)
        have ef : ftP sv c_sizes r_dangers r_months r_sizes i k = decide (sb (sv i) t (c_sizes d) 0 = r_sizes k) := by
          unfold ftP; rw [ed, et, nI_clamp (by omega), nI_clamp (by omega)]
        rw [ef, (hdd d hd).1]
        by_cases he : sb (sv i) t (c_sizes d) 0 = r_sizes k
        · rw [if_pos he, decide_eq_true he, Bool.true_and, nI_1]
          exact ih (k + 1) y_kept y_keptBy y_ahead y_against y_sum y_sumBy y_term y_termBy y_byNot y_valueOf (by omega) (by omega)
        · rw [if_neg he, decide_eq_false he, Bool.false_and]
          exact ⟨y_kept, y_keptBy, y_ahead, y_against, y_sum, y_sumBy, y_term, y_termBy, y_byNot, y_valueOf, rfl⟩
      · rw [if_pos (by rw [nI_leI (by omega) (by omega)]; omega), show T - k = 0 by omega]
        exact ⟨z_kept, z_keptBy, z_ahead, z_against, z_sum, z_sumBy, z_term, z_termBy, z_byNot, z_valueOf, rfl⟩
  exact key 1100 0 z_kept z_keptBy z_ahead z_against z_sum z_sumBy z_term z_termBy z_byNot z_valueOf (Nat.zero_le _) (by omega)
theorem bI_bs {P : Nat → Bool} {k : Nat} : bs P (k + 1) = bs P k ||| (if P k then 2 ^ k else 0) := rfl
theorem suspects_eq (hc : RC M D Q sv kv c_men c_consuls c_dangers c_decrees c_term c_kinds c_skills c_fields c_wants c_hated c_sizes c_grows c_grounds l_ops l_worksFrom l_worksTo l_keepsFrom l_keepsTo m_city m_kind m_skill m_fieldTold m_want m_hates m_restsOn m_sizeTold m_grows m_lineFrom m_lineTo m_codes) {T : Nat} (hT : T ≤ 8) (ht : ∀ k, k < T → (∃ d, d < D ∧ r_dangers k = nI d) ∧ ∃ t, t ≤ 12 ∧ r_months k = nI t) (st : Nat → Int32) : ∃ st', (f_X7_suspects (nI T) r_dangers r_months r_sizes c_men c_kinds c_skills c_wants c_sizes l_ops st l_worksFrom l_worksTo l_keepsFrom l_keepsTo) = some (nI (bs (fun i => allF (ftP sv c_sizes r_dangers r_months r_sizes i) T 0) M), st') := by
  have hcc := hc
  obtain ⟨⟨hM, hD, hQ⟩, ⟨rfl, rfl, rfl⟩, _⟩ := hc
  have key : ∀ (fu k : Nat) (st : Nat → Int32), k ≤ M → M < fu + k → ∃ st', (f_X7_suspects_4 fu (nI T) r_dangers r_months r_sizes (nI M) c_kinds c_skills c_wants c_sizes l_ops st l_worksFrom l_worksTo l_keepsFrom l_keepsTo (nI (bs (fun i => allF (ftP sv c_sizes r_dangers r_months r_sizes i) T 0) k)) (nI k)) = some (nI (bs (fun i => allF (ftP sv c_sizes r_dangers r_months r_sizes i) T 0) M), st') := by
    intro fu
    induction fu with
    | zero => intro k st h1 h2; omega
    | succ fu ih =>
      intro k st h1 h2
      rw [f_X7_suspects_4.eq_2]
      by_cases h : k < M
      · rw [if_neg (by rw [nI_leI (by omega) (by omega)]; omega)]
        obtain ⟨st1, h1⟩ := fits_eq (r_sizes := r_sizes) hcc hT h ht st
        rw [h1]
        simp only [o_bs]
        have h3 := ih (k + 1) st1 (by omega) (by omega)
        rw [bI_bs] at h3
        by_cases hp : allF (ftP sv c_sizes r_dangers r_months r_sizes k) T 0 = true
        · rw [if_neg (fun q => by rw [bI_0] at q; rw [q] at hp; exact absurd hp (by decide)), shl1 (by omega), nI_or, nI_1]
          rw [if_pos hp] at h3
          exact h3
        · rw [if_pos (by rw [bI_0]; simpa using hp), nI_1]
          rw [if_neg hp, Nat.or_zero] at h3
          exact h3
      · rw [if_pos (by rw [nI_leI (by omega) (by omega)]; omega), show k = M by omega]
        exact ⟨st, rfl⟩
  exact key 1100 0 st (Nat.zero_le _) (by omega)
theorem allWho_eq (hc : RC M D Q sv kv c_men c_consuls c_dangers c_decrees c_term c_kinds c_skills c_fields c_wants c_hated c_sizes c_grows c_grounds l_ops l_worksFrom l_worksTo l_keepsFrom l_keepsTo m_city m_kind m_skill m_fieldTold m_want m_hates m_restsOn m_sizeTold m_grows m_lineFrom m_lineTo m_codes) {T : Nat} (hT : T ≤ 8) (h0 : m_tolds 0 = nI T) (hm : ∀ k, k < T → m_toldDanger k = r_dangers k ∧ m_toldMonths k = r_months k ∧ m_toldSize k = r_sizes k ∧ (∃ d, d < D ∧ r_dangers k = nI d) ∧ (∃ t, t ≤ 12 ∧ r_months k = nI t)) : ∃ (y_kept y_keptBy y_ahead y_against y_sum y_sumBy y_term y_termBy y_byNot y_valueOf : Nat → Int32), (f_X13_allWho m_city m_kind m_skill m_want m_sizeTold m_lineFrom m_lineTo m_codes z_kept z_keptBy z_ahead z_against z_sum z_sumBy z_term z_termBy z_byNot z_valueOf m_tolds m_toldDanger m_toldMonths m_toldSize) = some ((nI (bs (fun i => allF (ftP sv c_sizes r_dangers r_months r_sizes i) T 0) M)), y_kept, y_keptBy, y_ahead, y_against, y_sum, y_sumBy, y_term, y_termBy, y_byNot, y_valueOf) := by
  have hcc := hc
  obtain ⟨⟨hM, hD, hQ⟩, ⟨rfl, rfl, rfl⟩, ⟨hc0, _⟩, _⟩ := hc
  have key : ∀ (fu k : Nat) (z_kept z_keptBy z_ahead z_against z_sum z_sumBy z_term z_termBy z_byNot z_valueOf : Nat → Int32), k ≤ M → M < fu + k → ∃ (y_kept y_keptBy y_ahead y_against y_sum y_sumBy y_term y_termBy y_byNot y_valueOf : Nat → Int32), (f_X13_allWho_4 fu m_city m_kind m_skill m_want m_sizeTold m_lineFrom m_lineTo m_codes z_kept z_keptBy z_ahead z_against z_sum z_sumBy z_term z_termBy z_byNot z_valueOf m_tolds m_toldDanger m_toldMonths m_toldSize (nI (bs (fun i => allF (ftP sv c_sizes r_dangers r_months r_sizes i) T 0) k)) (nI k)) = some ((nI (bs (fun i => allF (ftP sv c_sizes r_dangers r_months r_sizes i) T 0) M)), y_kept, y_keptBy, y_ahead, y_against, y_sum, y_sumBy, y_term, y_termBy, y_byNot, y_valueOf) := by
    intro fu
    induction fu with
    | zero => intro k z_kept z_keptBy z_ahead z_against z_sum z_sumBy z_term z_termBy z_byNot z_valueOf h1 h2; omega
    | succ fu ih =>
      intro k z_kept z_keptBy z_ahead z_against z_sum z_sumBy z_term z_termBy z_byNot z_valueOf h1 h2
      rw [f_X13_allWho_4.eq_2]
      simp only [gl_0_10, cl_0, hc0]
      by_cases h : k < M
      · rw [if_neg (by rw [nI_leI (by omega) (by omega)]; omega)]
        obtain ⟨y_kept, y_keptBy, y_ahead, y_against, y_sum, y_sumBy, y_term, y_termBy, y_byNot, y_valueOf, hy⟩ := asTold_eq (z_kept := z_kept) (z_keptBy := z_keptBy) (z_ahead := z_ahead) (z_against := z_against) (z_sum := z_sum) (z_sumBy := z_sumBy) (z_term := z_term) (z_termBy := z_termBy) (z_byNot := z_byNot) (z_valueOf := z_valueOf) hcc h hT h0 hm
        rw [hy]
        simp only [o_bs]
        have h3 := ih (k + 1) y_kept y_keptBy y_ahead y_against y_sum y_sumBy y_term y_termBy y_byNot y_valueOf (by omega) (by omega)
        rw [bI_bs] at h3
        by_cases hp : allF (ftP sv c_sizes r_dangers r_months r_sizes k) T 0 = true
        · rw [if_neg (fun q => by rw [bI_0] at q; rw [q] at hp; exact absurd hp (by decide)), shl1 (by omega), nI_or, nI_1]
          rw [if_pos hp] at h3
          exact h3
        · rw [if_pos (by rw [bI_0]; simpa using hp), nI_1, or_0]
          rw [if_neg hp, Nat.or_zero] at h3
          exact h3
      · rw [if_pos (by rw [nI_leI (by omega) (by omega)]; omega), show k = M by omega]
        exact ⟨z_kept, z_keptBy, z_ahead, z_against, z_sum, z_sumBy, z_term, z_termBy, z_byNot, z_valueOf, rfl⟩
  exact key 1100 0 z_kept z_keptBy z_ahead z_against z_sum z_sumBy z_term z_termBy z_byNot z_valueOf (Nat.zero_le _) (by omega)
theorem RT.zero (h : RT D 0 r_told r_dangers r_months r_sizes m_tolds m_toldDanger m_toldMonths m_toldSize) : ∃ T : Nat, T ≤ 8 ∧ r_told = nI T ∧ m_tolds 0 = nI T ∧ ∀ i, i < T → m_toldDanger i = r_dangers i ∧ m_toldMonths i = r_months i ∧ m_toldSize i = r_sizes i ∧ (∃ d, d < D ∧ r_dangers i = nI d) ∧ (∃ t, t ≤ 12 ∧ r_months i = nI t) := by
  obtain ⟨T, h1, h2, h3, h4⟩ := h
  refine ⟨T, h1, h2, h3, fun i hi => ?_⟩
  have := h4 i hi
  rw [Nat.mul_zero, Nat.zero_add] at this
  exact this
theorem call_who (hc : RC M D Q sv kv c_men c_consuls c_dangers c_decrees c_term c_kinds c_skills c_fields c_wants c_hated c_sizes c_grows c_grounds l_ops l_worksFrom l_worksTo l_keepsFrom l_keepsTo m_city m_kind m_skill m_fieldTold m_want m_hates m_restsOn m_sizeTold m_grows m_lineFrom m_lineTo m_codes) (hT : RT D 0 r_told r_dangers r_months r_sizes m_tolds m_toldDanger m_toldMonths m_toldSize) (st : Nat → Int32) : ∃ (v : Int32) (st' : Nat → Int32), (f_X12_who c_men c_kinds c_skills c_wants c_sizes l_ops st l_worksFrom l_worksTo l_keepsFrom l_keepsTo r_told r_dangers r_months r_sizes) = some (v, st') ∧ ∃ (y_kept y_keptBy y_ahead y_against y_sum y_sumBy y_term y_termBy y_byNot y_valueOf : Nat → Int32), (f_X13_who m_city m_kind m_skill m_want m_sizeTold m_lineFrom m_lineTo m_codes z_kept z_keptBy z_ahead z_against z_sum z_sumBy z_term z_termBy z_byNot z_valueOf m_tolds m_toldDanger m_toldMonths m_toldSize) = some (v, 0, y_kept, y_keptBy, y_ahead, y_against, y_sum, y_sumBy, y_term, y_termBy, y_byNot, y_valueOf) := by
  obtain ⟨T, h1, rfl, h3, h4⟩ := hT.zero
  unfold f_X12_who f_X13_who
  obtain ⟨st', hs⟩ := suspects_eq (r_sizes := r_sizes) hc h1 (fun k hk => (h4 k hk).2.2.2) st
  obtain ⟨y_kept, y_keptBy, y_ahead, y_against, y_sum, y_sumBy, y_term, y_termBy, y_byNot, y_valueOf, hy⟩ := allWho_eq (z_kept := z_kept) (z_keptBy := z_keptBy) (z_ahead := z_ahead) (z_against := z_against) (z_sum := z_sum) (z_sumBy := z_sumBy) (z_term := z_term) (z_termBy := z_termBy) (z_byNot := z_byNot) (z_valueOf := z_valueOf) hc h1 h3 h4
  rw [hs, hy]
  exact ⟨_, _, rfl, y_kept, y_keptBy, y_ahead, y_against, y_sum, y_sumBy, y_term, y_termBy, y_byNot, y_valueOf, rfl⟩
end
