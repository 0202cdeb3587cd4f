/-! whom to name -/
def bI (b : Bool) : Int32 := if b then 1 else 0
theorem bI_0 {b : Bool} : bI b = 0 ↔ b = false := by cases b <;> decide
section
variable {s_month s_power s_master s_left s_kept s_passed : Int32} {s_sizes s_fields s_liked : Nat → Int32} {m_s : Nat → Int32} {M D Q : Nat} {sv kv : Nat → Int32 → Int32 → Int32} {c_men c_consuls c_dangers c_decrees c_term : Int32} {c_kinds c_skills c_fields c_wants c_hated c_sizes c_grows c_grounds : Nat → Int32} {l_ops : Nat → Int32} {l_worksFrom l_worksTo l_keepsFrom l_keepsTo : Int32} {m_city m_kind m_skill m_fieldTold m_want m_hates m_restsOn m_sizeTold m_grows : Nat → Int32} {m_lineFrom m_lineTo m_codes : Nat → Int32} {z_kept z_keptBy z_ahead z_against z_sum z_sumBy z_term z_termBy z_byNot z_valueOf : Nat → Int32}
/-- a could name b -/
def cnm (M : Nat) (c_consuls : Int32) (c_hated : Nat → Int32) (a b : Nat) : Bool := decide (¬ (f_X1_couldName (nI M) c_consuls c_hated (nI a) (nI b)) = 0)
theorem someC_eq (hM : M ≤ 6) {b : Nat} : (f_X1_someConsulCouldName (nI M) c_consuls c_hated (nI b)) = some (bI (anyF (fun a => cnm M c_consuls c_hated a b) M 0)) := by
  have key : ∀ (fu k : Nat), k ≤ M → M < fu + k → (f_X1_someConsulCouldName_2 fu (nI M) c_consuls c_hated (nI b) (nI k)) = some (bI (anyF (fun a => cnm M c_consuls c_hated a b) (M - k) k)) := by
    intro fu
    induction fu with
    | zero => intro k h1 h2; omega
    | succ fu ih =>
      intro k h1 h2
      rw [f_X1_someConsulCouldName_2.eq_2]
      by_cases h : k < M
      · rw [if_neg (by rw [nI_leI (by omega) (by omega)]; omega), show M - k = (M - (k + 1)) + 1 by omega, nI_1, ih (k + 1) (by omega) (by omega)]
        show _ = some (bI (cnm M c_consuls c_hated k b || anyF (fun a => cnm M c_consuls c_hated a b) (M - (k + 1)) (k + 1)))
        by_cases hc : (f_X1_couldName (nI M) c_consuls c_hated (nI k) (nI b)) = 0
        · rw [if_pos hc, show cnm M c_consuls c_hated k b = false from by unfold cnm; simp [hc], Bool.false_or]
        · rw [if_neg hc, show cnm M c_consuls c_hated k b = true from by unfold cnm; simp [hc], Bool.true_or]
          rfl
      · rw [if_pos (by rw [nI_leI (by omega) (by omega)]; omega), show M - k = 0 by omega]
        rfl
  exact key 1100 0 (Nat.zero_le _) (by omega)
theorem namedBy_eq (hM : M ≤ 6) (h0 : m_city 0 = nI M) (h3 : m_city 3 = c_consuls) (hh : ∀ a, a < M → m_hates a = c_hated a) {b : Nat} (hb : b < M) : (f_X13_isNamedBySome m_city m_hates (nI b)) = some (bI (anyF (fun a => cnm M c_consuls c_hated a b) M 0)) := by
  have key : ∀ (fu k : Nat), k ≤ M → M < fu + k → (f_X13_isNamedBySome_2 fu m_city m_hates (nI b) (nI k)) = some (bI (anyF (fun a => cnm M c_consuls c_hated a b) (M - k) k)) := by
    intro fu
    induction fu with
    | zero => intro k h1 h2; omega
    | succ fu ih =>
      intro k h1 h2
      rw [f_X13_isNamedBySome_2.eq_2]
      simp only [gl_0_10, cl_0, h0]
      by_cases h : k < M
      · rw [if_neg (by rw [nI_leI (by omega) (by omega)]; omega), could_eq hM h3 h hb (hh k h), show M - k = (M - (k + 1)) + 1 by omega, nI_1, ih (k + 1) (by omega) (by omega)]
        show _ = some (bI (cnm M c_consuls c_hated k b || anyF (fun a => cnm M c_consuls c_hated a b) (M - (k + 1)) (k + 1)))
        simp only [o_bs]
        by_cases hc : (f_X1_couldName (nI M) c_consuls c_hated (nI k) (nI b)) = 0
        · rw [if_pos hc, show cnm M c_consuls c_hated k b = false from by unfold cnm; simp [hc], Bool.false_or]
        · rw [if_neg hc, show cnm M c_consuls c_hated k b = true from by unfold cnm; simp [hc], Bool.true_or]
          rfl
      · rw [if_pos (by rw [nI_leI (by omega) (by omega)]; omega), show M - k = 0 by omega]
        rfl
  exact key 1100 0 (Nat.zero_le _) (by omega)
/-- a size grown for some months -/
def gh (f g : Nat → Int32) (x : Int32) (k : Nat) : Int32 := if f k = 0 then 0 else imin 99 (f k + x * g k)
theorem grown_eq {f g : Nat → Int32} {k : Nat} {x : Int32} (hk : k < 5) : f_X9_grown f g (nI k) x = gh f g x k := by
  unfold f_X9_grown gh
  rw [q_ga hk (by omega), q_ga hk (by omega)]
theorem grownBy_eq (hR : RS s_month s_power s_master s_left s_kept s_passed s_sizes s_fields s_liked m_s) {k : Nat} (hk : k < 5) (hg : m_grows k = c_grows k) {x : Int32} : (f_X13_grownBy m_grows m_s (nI k) x) = some (gh s_sizes c_grows x k) := by
  unfold f_X13_grownBy gh
  simp (disch := omega) only [qa_6, q_gd, nI_clamp]
  rw [hR.2.2.2.2.2.2.1 k hk, hg, Int32.mul_comm]
  by_cases h : s_sizes k = 0
  · rw [if_pos h, if_pos h]
  · rw [if_neg h, if_neg h]
theorem tgrown_eq (hD : D ≤ 5) {w x : Int32} : (f_X9_togetherGrown s_sizes (nI D) c_grows w x) = some (tgF (gh s_sizes c_grows x) (fun k => decide (nI k = w)) D 0 0) := by
  have key : ∀ (fu k : Nat) (a : Int32), k ≤ D → D < fu + k → (f_X9_togetherGrown_6 fu s_sizes (nI D) c_grows w x a (nI k)) = some (tgF (gh s_sizes c_grows x) (fun k => decide (nI k = w)) (D - k) k a) := by
    intro fu
    induction fu with
    | zero => intro k a h1 h2; omega
    | succ fu ih =>
      intro k a h1 h2
      rw [f_X9_togetherGrown_6.eq_2]
      by_cases h : k < D
      · rw [if_neg (by rw [nI_leI (by omega) (by omega)]; omega), show D - k = (D - (k + 1)) + 1 by omega, nI_1, grown_eq (by omega)]
        show _ = some (tgF _ _ (D - (k + 1)) (k + 1) (if decide (nI k = w) = true then a else a + gh s_sizes c_grows x k))
        by_cases hw : nI k = w
        · rw [if_pos hw, if_pos (by simp [hw]), ih (k + 1) _ (by omega) (by omega)]
        · rw [if_neg hw, if_neg (by simp [hw]), ih (k + 1) _ (by omega) (by omega)]
      · rw [if_pos (by rw [nI_leI (by omega) (by omega)]; omega), show D - k = 0 by omega]
        rfl
  exact key 1100 0 0 (Nat.zero_le _) (by omega)
/-- whether he would keep it then -/
def wkp (kv : Nat → Int32 → Int32 → Int32) (c_kinds c_grows s_sizes s_liked : Nat → Int32) (D d : Nat) (x : Int32) (i : Nat) : Int32 :=
  kv i (imin 99 (s_liked i + (if s_sizes d = 0 then 0 else if c_kinds i = 2 then 5 else 3))) (tgF (gh s_sizes c_grows x) (fun k => decide (nI k = nI d)) D 0 0)
theorem wkThen_eq (hc : RC M D Q sv kv c_men c_consuls c_dangers c_decrees c_term c_kinds c_skills c_fields c_wants c_hated c_sizes c_grows c_grounds l_ops l_worksFrom l_worksTo l_keepsFrom l_keepsTo m_city m_kind m_skill m_fieldTold m_want m_hates m_restsOn m_sizeTold m_grows m_lineFrom m_lineTo m_codes) {i d : Nat} (hi : i < M) (hd : d < D) {x : Int32} (st : Nat → Int32) : ∃ st', (f_X2_wouldKeepThen c_dangers c_kinds c_skills c_wants c_grows l_ops st l_worksFrom l_worksTo l_keepsFrom l_keepsTo s_sizes s_liked (nI i) (nI d) x) = some (wkp kv c_kinds c_grows s_sizes s_liked D d x i, st') := by
  obtain ⟨⟨hM, hD, hQ⟩, ⟨rfl, rfl, rfl⟩, ⟨hc0, hc1, hc2, hc3, hc4⟩, hT2, hmm, hsk, hdd, hq, hsv, hkv, hCS, hCK, hMS, hMK⟩ := hc
  have k21 : ∀ v, ∃ st', (f_X2_wouldKeepThen_21 (nI D) c_skills c_wants c_grows l_ops st l_worksFrom l_worksTo l_keepsFrom l_keepsTo s_sizes s_liked (nI i) (nI d) x v) = some (kv i (imin 99 (s_liked i + v)) (tgF (gh s_sizes c_grows x) (fun k => decide (nI k = nI d)) D 0 0), st') := by
    intro v
    unfold f_X2_wouldKeepThen_21 f_X9_likedWith
    rw [tgrown_eq hD, q_ga (by omega) (by omega)]
    simp only [o_bs]
    obtain ⟨st', h⟩ := hCK i hi (imin 99 (s_liked i + v)) (tgF (gh s_sizes c_grows x) (fun k => decide (nI k = nI d)) D 0 0) st
    refine ⟨st', ?_⟩
    rw [h]
    exact q_zg (hkv i _ _ hi)
  unfold f_X2_wouldKeepThen f_X1_likedForEnding wkp
  rw [q_ga (by omega) (by omega), q_ga (by omega) (by omega)]
  by_cases h : s_sizes d = 0
  · rw [if_pos h, if_pos h]; exact k21 0
  · rw [if_neg h, if_neg h]; exact k21 _
theorem wouldKeep_eq (hc : RC M D Q sv kv c_men c_consuls c_dangers c_decrees c_term c_kinds c_skills c_fields c_wants c_hated c_sizes c_grows c_grounds l_ops l_worksFrom l_worksTo l_keepsFrom l_keepsTo m_city m_kind m_skill m_fieldTold m_want m_hates m_restsOn m_sizeTold m_grows m_lineFrom m_lineTo m_codes) (hR : RS s_month s_power s_master s_left s_kept s_passed s_sizes s_fields s_liked m_s) {i d : Nat} (hi : i < M) (hd : d < D) {x : Int32} : ∃ (y_kept y_keptBy y_ahead y_against y_sum y_sumBy y_term y_termBy y_byNot y_valueOf : Nat → Int32), (f_X13_wouldKeep m_city m_kind m_skill m_want m_grows m_lineFrom m_lineTo m_codes z_kept z_keptBy z_ahead z_against z_sum z_sumBy z_term z_termBy z_byNot z_valueOf m_s (nI i) (nI d) x) = some ((wkp kv c_kinds c_grows s_sizes s_liked D d x i), y_kept, y_keptBy, y_ahead, y_against, y_sum, y_sumBy, y_term, y_termBy, y_byNot, y_valueOf) := by
  obtain ⟨⟨hM, hD, hQ⟩, ⟨rfl, rfl, rfl⟩, ⟨hc0, hc1, hc2, hc3, hc4⟩, hT2, hmm, hsk, hdd, hq, hsv, hkv, hCS, hCK, hMS, hMK⟩ := hc
  have key : ∀ (x4 : Int32) (fu k : Nat) (a : Int32), k ≤ D → D < fu + k → ∃ (y_kept y_keptBy y_ahead y_against y_sum y_sumBy y_term y_termBy y_byNot y_valueOf : Nat → Int32), (f_X13_wouldKeep_49 fu m_city m_skill m_want m_grows m_lineFrom m_lineTo m_codes z_kept z_keptBy z_ahead z_against z_sum z_sumBy z_term z_termBy z_byNot z_valueOf m_s (nI i) (nI d) x x4 a (nI k)) = some ((kv i (imin 99 x4) (tgF (gh s_sizes c_grows x) (fun k => decide (nI k = nI d)) (D - k) k a)), y_kept, y_keptBy, y_ahead, y_against, y_sum, y_sumBy, y_term, y_termBy, y_byNot, y_valueOf) := by
    intro x4 fu
    induction fu with
    | zero => intro k a h1 h2; omega
    | succ fu ih =>
      intro k a h1 h2
      rw [f_X13_wouldKeep_49.eq_2]
      simp only [gl_1_10, cl_1, hc1]
      by_cases h : k < D
      · rw [if_neg (by rw [nI_leI (by omega) (by omega)]; omega), show D - k = (D - (k + 1)) + 1 by omega, nI_1, grownBy_eq hR (by omega) (hdd k h).2.1]
        show ∃ (y_kept y_keptBy y_ahead y_against y_sum y_sumBy y_term y_termBy y_byNot y_valueOf : Nat → Int32), _ = some (kv i (imin 99 x4) (tgF _ _ (D - (k + 1)) (k + 1) (if decide (nI k = nI d) = true then a else a + gh s_sizes c_grows x k)), y_kept, y_keptBy, y_ahead, y_against, y_sum, y_sumBy, y_term, y_termBy, y_byNot, y_valueOf)
        by_cases hw : nI k = nI d
        · rw [if_pos hw, if_pos (by simp [hw]), Int32.add_zero]
          exact ih (k + 1) _ (by omega) (by omega)
        · rw [if_neg hw, if_neg (by simp [hw])]
          exact ih (k + 1) _ (by omega) (by omega)
      · rw [if_pos (by rw [nI_leI (by omega) (by omega)]; omega), show D - k = 0 by omega]
        obtain ⟨y_kept, y_keptBy, y_ahead, y_against, y_sum, y_sumBy, y_term, y_termBy, y_byNot, y_valueOf, hy⟩ := hMK i hi (imin 99 x4) a z_kept z_keptBy z_ahead z_against z_sum z_sumBy z_term z_termBy z_byNot z_valueOf
        refine ⟨y_kept, y_keptBy, y_ahead, y_against, y_sum, y_sumBy, y_term, y_termBy, y_byNot, y_valueOf, ?_⟩
        rw [hy]
        exact q_zg (hkv i _ _ hi)
  unfold f_X13_wouldKeep f_X13_wouldKeep_40 wkp
  simp (disch := omega) only [qa_6, qa_17, q_gd, nI_clamp]
  simp only [hR.2.2.2.2.2.2.1 d (by omega), hR.2.2.2.2.2.2.2.2 i (by omega), (hmm i hi).1]
  by_cases h : s_sizes d = 0
  · rw [if_pos h, if_pos h]; exact key _ 1100 0 0 (Nat.zero_le _) (by omega)
  · rw [if_neg h, if_neg h]
    by_cases h2 : c_kinds i = 2
    · rw [if_pos h2, if_pos h2]; exact key _ 1100 0 0 (Nat.zero_le _) (by omega)
    · rw [if_neg h2, if_neg h2]; exact key _ 1100 0 0 (Nat.zero_le _) (by omega)
theorem whF_yes {nm : Nat → Bool} {nn wk : Nat → Int32} {term b l : Int32} {f k : Nat} (h : nm k = true ∧ ¬ nn k < 0 ∧ ¬ term < nn k ∧ ¬ (¬ b = -1 ∧ l ≤ nn k) ∧ wk k = 0) : whF nm nn wk term (f + 1) k b l = whF nm nn wk term f (k + 1) (nI k) (nn k) := if_pos h
theorem whF_no {nm : Nat → Bool} {nn wk : Nat → Int32} {term b l : Int32} {f k : Nat} (h : ¬ (nm k = true ∧ ¬ nn k < 0 ∧ ¬ term < nn k ∧ ¬ (¬ b = -1 ∧ l ≤ nn k) ∧ wk k = 0)) : whF nm nn wk term (f + 1) k b l = whF nm nn wk term f (k + 1) b l := if_neg h
/-- whom, of those from k on -/
abbrev whV (sv kv : Nat → Int32 → Int32 → Int32) (c_consuls : Int32) (c_kinds c_hated c_grows s_sizes s_liked : Nat → Int32) (M D d : Nat) (term : Int32) : Nat → Nat → Int32 → Int32 → Int32 × Int32 :=
  whF (fun b => anyF (fun a => cnm M c_consuls c_hated a b) M 0) (fun i => sn (sv i) 25 (s_sizes d) 0) (fun i => wkp kv c_kinds c_grows s_sizes s_liked D d (sn (sv i) 25 (s_sizes d) 0) i) term
theorem soonest_eq (hc : RC M D Q sv kv c_men c_consuls c_dangers c_decrees c_term c_kinds c_skills c_fields c_wants c_hated c_sizes c_grows c_grounds l_ops l_worksFrom l_worksTo l_keepsFrom l_keepsTo m_city m_kind m_skill m_fieldTold m_want m_hates m_restsOn m_sizeTold m_grows m_lineFrom m_lineTo m_codes) (hG : GS M D s_month s_power s_master s_left s_kept s_passed s_sizes s_fields s_liked) {d : Nat} (hd : d < D) {term : Int32} (st : Nat → Int32) : ∃ st', (f_X2_soonest c_men c_consuls c_dangers c_kinds c_skills c_wants c_hated c_grows l_ops st l_worksFrom l_worksTo l_keepsFrom l_keepsTo s_sizes s_liked (nI d) term) = some ((whV sv kv c_consuls c_kinds c_hated c_grows s_sizes s_liked M D d term M 0 (-1) 0).1, st') := by
  have hcc := hc
  obtain ⟨⟨hM, hD, hQ⟩, ⟨rfl, rfl, rfl⟩, ⟨hc0, hc1, hc2, hc3, hc4⟩, hT2, hmm, hsk, hdd, hq, hsv, hkv, hCS, hCK, hMS, hMK⟩ := hc
  have key : ∀ (fu k : Nat) (b f : Int32) (st : Nat → Int32), k ≤ M → M < fu + k → ∃ st', (f_X2_soonest_9 fu (nI M) c_consuls (nI D) c_kinds c_skills c_wants c_hated c_grows l_ops st l_worksFrom l_worksTo l_keepsFrom l_keepsTo s_sizes s_liked (nI d) term b f (nI k)) = some ((whV sv kv c_consuls c_kinds c_hated c_grows s_sizes s_liked M D d term (M - k) k b f).1, st') := by
    intro fu
    induction fu with
    | zero => intro k b f st h1 h2; omega
    | succ fu ih =>
      intro k b f st h1 h2
      rw [f_X2_soonest_9.eq_2]
      by_cases h : k < M
      · rw [if_neg (by rw [nI_leI (by omega) (by omega)]; omega), show M - k = (M - (k + 1)) + 1 by omega, someC_eq hM]
        simp only [o_bs]
        have un : ∀ st, (¬ (anyF (fun a => cnm M c_consuls c_hated a k) M 0 = true ∧ ¬ sn (sv k) 25 (s_sizes d) 0 < 0 ∧ ¬ term < sn (sv k) 25 (s_sizes d) 0 ∧ ¬ (¬ b = -1 ∧ f ≤ sn (sv k) 25 (s_sizes d) 0) ∧ wkp kv c_kinds c_grows s_sizes s_liked D d (sn (sv k) 25 (s_sizes d) 0) k = 0)) → ∃ st', (f_X2_soonest_9 fu (nI M) c_consuls (nI D) c_kinds c_skills c_wants c_hated c_grows l_ops st l_worksFrom l_worksTo l_keepsFrom l_keepsTo s_sizes s_liked (nI d) term b f (nI k + 1)) = some ((whV sv kv c_consuls c_kinds c_hated c_grows s_sizes s_liked M D d term (M - (k + 1) + 1) k b f).1, st') := by
          intro st hn
          rw [nI_1]
          rw [show whV sv kv c_consuls c_kinds c_hated c_grows s_sizes s_liked M D d term (M - (k + 1) + 1) k b f = whV sv kv c_consuls c_kinds c_hated c_grows s_sizes s_liked M D d term (M - (k + 1)) (k + 1) b f from whF_no hn]
          exact ih (k + 1) b f st (by omega) (by omega)
        by_cases ha : anyF (fun a => cnm M c_consuls c_hated a k) M 0 = true
        · rw [if_neg (fun q => by rw [bI_0] at q; rw [q] at ha; exact absurd ha (by decide)), q_ga (by omega) (by omega)]
          obtain ⟨st1, hm⟩ := mte_eq hCS h (fun a b => hsv k a b h) (hG.2.2.2.2.1 d (by omega)) st
          rw [hm]
          simp only [o_bs]
          unfold f_X2_soonest_45
          generalize hN : sn (sv k) 25 (s_sizes d) 0 = N at un ⊢
          have hNr : N = -1 ∨ ¬ N < 0 := by
            rcases sn_rng (sv k) 25 (s_sizes d) 0 (by omega) with q | ⟨j, _, h9, q⟩
            · exact Or.inl (hN.symm.trans q)
            · right; rw [hN] at q; rw [q]; exact nI_pos (by omega)
          rcases hNr with rfl | hNr
          · rw [if_pos rfl]; exact un st1 (fun q => q.2.1 (by decide))
          · rw [if_neg (fun q => hNr (by rw [q]; decide))]
            by_cases ht : term < N
            · rw [if_pos ht]; exact un st1 (fun q => q.2.2.1 ht)
            · rw [if_neg ht]
              have h76 : ¬ (¬ b = -1 ∧ f ≤ N) → ∃ st', (f_X2_soonest_76 (f_X2_soonest_9 fu) (nI M) c_consuls (nI D) c_kinds c_skills c_wants c_hated c_grows l_ops st1 l_worksFrom l_worksTo l_keepsFrom l_keepsTo s_sizes s_liked (nI d) term b f (nI k) N) = some ((whV sv kv c_consuls c_kinds c_hated c_grows s_sizes s_liked M D d term (M - (k + 1) + 1) k b f).1, st') := by
                intro hb
                unfold f_X2_soonest_76
                obtain ⟨st2, h2⟩ := wkThen_eq (s_sizes := s_sizes) (s_liked := s_liked) hcc h hd (x := N) st1
                rw [h2]
                simp only [o_bs]
                by_cases hw : wkp kv c_kinds c_grows s_sizes s_liked D d N k = 0
                · rw [if_pos hw, nI_1]
                  rw [show whV sv kv c_consuls c_kinds c_hated c_grows s_sizes s_liked M D d term (M - (k + 1) + 1) k b f = whV sv kv c_consuls c_kinds c_hated c_grows s_sizes s_liked M D d term (M - (k + 1)) (k + 1) (nI k) (sn (sv k) 25 (s_sizes d) 0) from whF_yes (by rw [hN]; exact ⟨ha, hNr, ht, hb, hw⟩), hN]
                  exact ih (k + 1) _ _ st2 (by omega) (by omega)
                · rw [if_neg hw]; exact un st2 (fun q => hw q.2.2.2.2)
              by_cases hb : b = -1
              · rw [if_pos hb]; exact h76 (fun q => q.1 hb)
              · rw [if_neg hb]
                by_cases hf : N < f
                · rw [if_pos hf]; exact h76 (fun q => by rw [i_lt] at hf; have := (i_le _ _).mp q.2; omega)
                · rw [if_neg hf]; exact un st1 (fun q => q.2.2.2.1 ⟨hb, by rw [i_lt] at hf; rw [i_le]; omega⟩)
        · rw [if_pos (by rw [bI_0]; simpa using ha)]
          unfold f_X2_soonest_45
          rw [if_pos rfl]
          exact un st (fun q => ha q.1)
      · rw [if_pos (by rw [nI_leI (by omega) (by omega)]; omega), show M - k = 0 by omega]
        exact ⟨st, rfl⟩
  exact key 1100 0 (-1) 0 st (Nat.zero_le _) (by omega)
theorem whomFor_eq (hc : RC M D Q sv kv c_men c_consuls c_dangers c_decrees c_term c_kinds c_skills c_fields c_wants c_hated c_sizes c_grows c_grounds l_ops l_worksFrom l_worksTo l_keepsFrom l_keepsTo m_city m_kind m_skill m_fieldTold m_want m_hates m_restsOn m_sizeTold m_grows m_lineFrom m_lineTo m_codes) (hR : RS s_month s_power s_master s_left s_kept s_passed s_sizes s_fields s_liked m_s) {d : Nat} (hd : d < D) {term : Int32} : ∃ (y_kept y_keptBy y_ahead y_against y_sum y_sumBy y_term y_termBy y_byNot y_valueOf : Nat → Int32), (f_X13_whomFor m_city m_kind m_skill m_want m_hates m_grows m_lineFrom m_lineTo m_codes z_kept z_keptBy z_ahead z_against z_sum z_sumBy z_term z_termBy z_byNot z_valueOf m_s (nI d) term) = some (((whV sv kv c_consuls c_kinds c_hated c_grows s_sizes s_liked M D d term M 0 (-1) 0).1), y_kept, y_keptBy, y_ahead, y_against, y_sum, y_sumBy, y_term, y_termBy, y_byNot, y_valueOf) := by
  have hcc := hc
  obtain ⟨⟨hM, hD, hQ⟩, ⟨rfl, rfl, rfl⟩, ⟨hc0, hc1, hc2, hc3, hc4⟩, hT2, hmm, hsk, hdd, hq, hsv, hkv, hCS, hCK, hMS, hMK⟩ := hc
  have key : ∀ (fu k : Nat) (b f : Int32) (z_kept z_keptBy z_ahead z_against z_sum z_sumBy z_term z_termBy z_byNot z_valueOf : Nat → Int32), b = -1 ∨ ¬ b < 0 → k ≤ M → M < fu + k → ∃ (y_kept y_keptBy y_ahead y_against y_sum y_sumBy y_term y_termBy y_byNot y_valueOf : Nat → Int32), (f_X13_whomFor_8 fu m_city m_kind m_skill m_want m_hates m_grows m_lineFrom m_lineTo m_codes z_kept z_keptBy z_ahead z_against z_sum z_sumBy z_term z_termBy z_byNot z_valueOf m_s (nI d) term b f (nI k)) = some (((whV sv kv c_consuls c_kinds c_hated c_grows s_sizes s_liked M D d term (M - k) k b f).1), y_kept, y_keptBy, y_ahead, y_against, y_sum, y_sumBy, y_term, y_termBy, y_byNot, y_valueOf) := by
    intro fu
    induction fu with
    | zero => intro k b f z_kept z_keptBy z_ahead z_against z_sum z_sumBy z_term z_termBy z_byNot z_valueOf _ h1 h2; omega
    | succ fu ih =>
      intro k b f z_kept z_keptBy z_ahead z_against z_sum z_sumBy z_term z_termBy z_byNot z_valueOf hb0 h1 h2
      rw [f_X13_whomFor_8.eq_2]
      simp only [gl_0_10, cl_0, hc0]
      by_cases h : k < M
      · rw [if_neg (by rw [nI_leI (by omega) (by omega)]; omega), show M - k = (M - (k + 1)) + 1 by omega]
        obtain ⟨y_kept, y_keptBy, y_ahead, y_against, y_sum, y_sumBy, y_term, y_termBy, y_byNot, y_valueOf, hy⟩ := soonOf_eq (z_kept := z_kept) (z_keptBy := z_keptBy) (z_ahead := z_ahead) (z_against := z_against) (z_sum := z_sum) (z_sumBy := z_sumBy) (z_term := z_term) (z_termBy := z_termBy) (z_byNot := z_byNot) (z_valueOf := z_valueOf) hMS hR h (show d < 5 by omega)
        rw [hy]
        simp only [o_bs]
        have un : ∀ (z_kept z_keptBy z_ahead z_against z_sum z_sumBy z_term z_termBy z_byNot z_valueOf : Nat → Int32), (¬ (anyF (fun a => cnm M c_consuls c_hated a k) M 0 = true ∧ ¬ sn (sv k) 25 (s_sizes d) 0 < 0 ∧ ¬ term < sn (sv k) 25 (s_sizes d) 0 ∧ ¬ (¬ b = -1 ∧ f ≤ sn (sv k) 25 (s_sizes d) 0) ∧ wkp kv c_kinds c_grows s_sizes s_liked D d (sn (sv k) 25 (s_sizes d) 0) k = 0)) → ∃ (y_kept y_keptBy y_ahead y_against y_sum y_sumBy y_term y_termBy y_byNot y_valueOf : Nat → Int32), (f_X13_whomFor_8 fu m_city m_kind m_skill m_want m_hates m_grows m_lineFrom m_lineTo m_codes z_kept z_keptBy z_ahead z_against z_sum z_sumBy z_term z_termBy z_byNot z_valueOf m_s (nI d) term b f (nI k + 1)) = some (((whV sv kv c_consuls c_kinds c_hated c_grows s_sizes s_liked M D d term (M - (k + 1) + 1) k b f).1), y_kept, y_keptBy, y_ahead, y_against, y_sum, y_sumBy, y_term, y_termBy, y_byNot, y_valueOf) := by
          intro z_kept z_keptBy z_ahead z_against z_sum z_sumBy z_term z_termBy z_byNot z_valueOf hn
          rw [nI_1, show whV sv kv c_consuls c_kinds c_hated c_grows s_sizes s_liked M D d term (M - (k + 1) + 1) k b f = whV sv kv c_consuls c_kinds c_hated c_grows s_sizes s_liked M D d term (M - (k + 1)) (k + 1) b f from whF_no hn]
          exact ih (k + 1) b f z_kept z_keptBy z_ahead z_against z_sum z_sumBy z_term z_termBy z_byNot z_valueOf hb0 (by omega) (by omega)
        generalize hN : sn (sv k) 25 (s_sizes d) 0 = N at un ⊢
        by_cases hn0 : N < 0
        · rw [if_pos hn0]; exact un y_kept y_keptBy y_ahead y_against y_sum y_sumBy y_term y_termBy y_byNot y_valueOf (fun q => q.2.1 hn0)
        · rw [if_neg hn0]
          by_cases ht : term < N
          · rw [if_pos ht]; exact un y_kept y_keptBy y_ahead y_against y_sum y_sumBy y_term y_termBy y_byNot y_valueOf (fun q => q.2.2.1 ht)
          · rw [if_neg ht, namedBy_eq hM hc0 hc3 (fun a ha => (hmm a ha).2.2.2.2) h]
            simp only [o_bs]
            by_cases ha : anyF (fun a => cnm M c_consuls c_hated a k) M 0 = true
            · rw [if_neg (fun q => by rw [bI_0] at q; rw [q] at ha; exact absurd ha (by decide))]
              have h59 : ¬ (¬ b = -1 ∧ f ≤ N) → ∃ (v_kept v_keptBy v_ahead v_against v_sum v_sumBy v_term v_termBy v_byNot v_valueOf : Nat → Int32), (f_X13_whomFor_59 (f_X13_whomFor_8 fu) m_city m_kind m_skill m_want m_hates m_grows m_lineFrom m_lineTo m_codes y_kept y_keptBy y_ahead y_against y_sum y_sumBy y_term y_termBy y_byNot y_valueOf m_s (nI d) term b f (nI k) N) = some (((whV sv kv c_consuls c_kinds c_hated c_grows s_sizes s_liked M D d term (M - (k + 1) + 1) k b f).1), v_kept, v_keptBy, v_ahead, v_against, v_sum, v_sumBy, v_term, v_termBy, v_byNot, v_valueOf) := by
                intro hb
                unfold f_X13_whomFor_59
                obtain ⟨u_kept, u_keptBy, u_ahead, u_against, u_sum, u_sumBy, u_term, u_termBy, u_byNot, u_valueOf, hu⟩ := wouldKeep_eq (z_kept := y_kept) (z_keptBy := y_keptBy) (z_ahead := y_ahead) (z_against := y_against) (z_sum := y_sum) (z_sumBy := y_sumBy) (z_term := y_term) (z_termBy := y_termBy) (z_byNot := y_byNot) (z_valueOf := y_valueOf) hcc hR h hd (x := N)
                rw [hu]
                simp only [o_bs]
                by_cases hw : wkp kv c_kinds c_grows s_sizes s_liked D d N k = 0
                · rw [if_pos hw, nI_1, show whV sv kv c_consuls c_kinds c_hated c_grows s_sizes s_liked M D d term (M - (k + 1) + 1) k b f = whV sv kv c_consuls c_kinds c_hated c_grows s_sizes s_liked M D d term (M - (k + 1)) (k + 1) (nI k) (sn (sv k) 25 (s_sizes d) 0) from whF_yes (by rw [hN]; exact ⟨ha, hn0, ht, hb, hw⟩), hN]
                  exact ih (k + 1) _ _ u_kept u_keptBy u_ahead u_against u_sum u_sumBy u_term u_termBy u_byNot u_valueOf (Or.inr (nI_pos (by omega))) (by omega) (by omega)
                · rw [if_neg hw]; exact un u_kept u_keptBy u_ahead u_against u_sum u_sumBy u_term u_termBy u_byNot u_valueOf (fun q => hw q.2.2.2.2)
              by_cases hb : b < 0
              · rw [if_pos hb]
                refine h59 (fun q => q.1 ?_)
                rcases hb0 with h9 | h9
                · exact h9
                · exact absurd hb h9
              · rw [if_neg hb]
                by_cases hf : f ≤ N
                · rw [if_pos hf]; exact un y_kept y_keptBy y_ahead y_against y_sum y_sumBy y_term y_termBy y_byNot y_valueOf (fun q => q.2.2.2.1 ⟨fun e => hb (m_lt e), hf⟩)
                · rw [if_neg hf]; exact h59 (fun q => hf q.2)
            · rw [if_pos (by rw [bI_0]; simpa using ha)]
              exact un y_kept y_keptBy y_ahead y_against y_sum y_sumBy y_term y_termBy y_byNot y_valueOf (fun q => ha q.1)
      · rw [if_pos (by rw [nI_leI (by omega) (by omega)]; omega), show M - k = 0 by omega]
        exact ⟨z_kept, z_keptBy, z_ahead, z_against, z_sum, z_sumBy, z_term, z_termBy, z_byNot, z_valueOf, rfl⟩
  exact key 1100 0 (-1) 0 z_kept z_keptBy z_ahead z_against z_sum z_sumBy z_term z_termBy z_byNot z_valueOf (Or.inl rfl) (Nat.zero_le _) (by omega)
end
