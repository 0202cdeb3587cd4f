/-! tokens -/
def TK (n : Nat) (sg : Nat → Int32) (b e : Nat) (kd va : Int32) (le : Int64) (wo : Option Nat) (tk : Int32) (mw : Int64) (to : Int32) : Prop :=
  (b = n ∧ e = n ∧ kd = 0 ∧ tk = 0 ∧ wo = none) ∨
  (b < e ∧ e ≤ n ∧ kd = 1 ∧ tk = 4 ∧ wo = none) ∨
  (b < e ∧ e ≤ n ∧ kd = 2 ∧ tk = 1 ∧ WN le mw ∧ wo = spO le) ∨
  (b < e ∧ e ≤ n ∧ kd = 3 ∧ tk = 2 ∧ wo = none ∧ va = to ∧ ∃ v, v ≤ 9999 ∧ to = nI v) ∨
  (e = b + 1 ∧ b < n ∧ kd = 4 ∧ tk = 3 ∧ wo = none ∧ va = sg b)
theorem TK.le {n b e : Nat} {sg : Nat → Int32} {kd va : Int32} {le : Int64} {wo : Option Nat} {tk : Int32} {mw : Int64} {to : Int32} (h : TK n sg b e kd va le wo tk mw to) : b ≤ e ∧ e ≤ n := by
  rcases h with h | h | h | h | h <;> omega
theorem let_of {v : Int32} (h1 : ¬ v < 97) (h2 : ¬ 122 < v) : ∃ c, 97 ≤ c ∧ c ≤ 122 ∧ v = nI c := by
  obtain ⟨c, hc, rfl⟩ := nI_of2 (M := 122) (n := 122) rfl (x := v) (by rw [i_lt] at h1 ⊢; have : (97 : Int32).toInt = 97 := rfl; have := t0; omega) (by rw [i_le]; rw [i_lt] at h2; omega)
  rw [show (97 : Int32) = nI 97 from rfl, nI_ltI (by omega) (by omega)] at h1
  exact ⟨c, by omega, hc, rfl⟩
theorem dig_of {v : Int32} (h1 : ¬ v < 48) (h2 : ¬ 57 < v) : ∃ c, 48 ≤ c ∧ c ≤ 57 ∧ v = nI c := by
  obtain ⟨c, hc, rfl⟩ := nI_of2 (M := 57) (n := 57) rfl (x := v) (by rw [i_lt] at h1 ⊢; have : (48 : Int32).toInt = 48 := rfl; have := t0; omega) (by rw [i_le]; rw [i_lt] at h2; omega)
  rw [show (48 : Int32) = nI 48 from rfl, nI_ltI (by omega) (by omega)] at h1
  exact ⟨c, by omega, hc, rfl⟩
theorem sgn_eq {tp sg : Nat → Int32} {n p : Nat} (hn : n ≤ 1000) (hfg : ∀ i, i < n → tp i = sg i) : f_X13_signAt tp (nI n) (nI p) = some (if p < n then sg p else 0) ∨ 1000 < p := by
  by_cases hp : p ≤ 1000
  · left
    unfold f_X13_signAt
    by_cases h : p < n
    · rw [if_neg (by rw [nI_leI (by omega) (by omega)]; omega), q_gd (by omega) (by omega), nI_clamp (by omega), hfg p h, if_pos h]
    · rw [if_pos (by rw [nI_leI (by omega) (by omega)]; omega), if_neg h]
  · right; omega
theorem word_rel {tp sg : Nat → Int32} {n b : Nat} (hn : n ≤ 1000) (hfg : ∀ i, i < n → tp i = sg i) : ∀ (fu p : Nat) (le mw : Int64), b ≤ p → p ≤ n → n < fu + p → (b < p ∨ (¬ (if p < n then sg p else 0) < 97 ∧ ¬ 122 < (if p < n then sg p else 0))) → (p - b ≤ 8 → ∃ ds : List Nat, ds.length = p - b ∧ (∀ d ∈ ds, 1 ≤ d ∧ d ≤ 26) ∧ le = lN (eR 32 ds) ∧ mw = lN (eR 27 ds)) →
    ∃ (e : Nat) (kd : Int32) (le' : Int64) (wo : Option Nat) (tk : Int32) (mw' : Int64), f_X10_readWord_5 fu sg (nI n) (nI b) le (nI p) = some (nI e, kd, le', wo) ∧ f_X13_nextToken_109 fu tp (nI n) (nI p) (nI b) mw 0 = some (nI e, nI b, tk, mw', 0) ∧ ∀ va, TK n sg b e kd va le' wo tk mw' 0 := by
  intro fu
  induction fu with
  | zero => intro p le mw h1 h2 h3; omega
  | succ fu ih =>
    intro p le mw h1 h2 h3 hst hI
    rw [f_X10_readWord_5.eq_2, f_X13_nextToken_109.eq_2]
    have hs := (sgn_eq (p := p) hn hfg).resolve_right (by omega)
    rw [hs]
    simp only [o_bs]
    have fin : b < p → ∃ (e : Nat) (kd : Int32) (le' : Int64) (wo : Option Nat) (tk : Int32) (mw' : Int64), f_X10_readWord_56 (nI b) le (nI p) = some (nI e, kd, le', wo) ∧ f_X13_nextToken_188 (nI p) (nI b) mw 0 = some (nI e, nI b, tk, mw', 0) ∧ ∀ va, TK n sg b e kd va le' wo tk mw' 0 := by
      intro hbp
      unfold f_X10_readWord_56 f_X13_nextToken_188 f_X10_readWord_78 f_X13_nextToken_208 f_X10_readWord_101
      rw [pk_sub h1]
      by_cases h8 : p - b ≤ 8
      · have e8 : nI (p - b) ≤ 8 := by rw [show (8 : Int32) = nI 8 from rfl, nI_leI (by omega) (by omega)]; exact h8
        rw [if_pos e8, if_pos e8, if_pos rfl, spelt_eq, o_bs]
        obtain ⟨ds, d1, d2, d3, d4⟩ := hI h8
        exact ⟨p, _, _, _, _, _, rfl, rfl, fun va => Or.inr (Or.inr (Or.inl ⟨hbp, h2, rfl, rfl, ⟨ds, ⟨⟨by omega, by omega⟩, d2⟩, d3, d4⟩, rfl⟩))⟩
      · have e8 : ¬ nI (p - b) ≤ 8 := by rw [show (8 : Int32) = nI 8 from rfl, nI_leI (by omega) (by omega)]; exact h8
        rw [if_neg e8, if_neg e8, if_neg (by decide)]
        exact ⟨p, _, _, _, _, _, rfl, rfl, fun va => Or.inr (Or.inl ⟨hbp, h2, rfl, rfl, rfl⟩)⟩
    by_cases hp : p < n
    · rw [if_neg (by rw [nI_leI (by omega) (by omega)]; omega), q_ga (by omega) (by omega)]
      simp only [if_pos hp] at hst ⊢
      rcases wth_cases (sg p) 97 122 with ⟨ew, hw⟩ | ⟨ew, g1, g2⟩
      · rw [ew, if_pos e00]
        have hbp : b < p := by
          rcases hst with q | q
          · exact q
          · rcases hw with w | w
            · exact absurd w q.1
            · exact absurd w q.2
        by_cases g1 : sg p < 97
        · rw [if_pos g1]; exact fin hbp
        · rw [if_neg g1, if_pos (hw.resolve_left g1)]; exact fin hbp
      · rw [ew, if_neg n10, if_neg g1, if_neg g2]
        obtain ⟨c, c1, c2, ec⟩ := let_of g1 g2
        rw [ec]
        unfold f_X13_nextToken_175 f_X11_withLetter
        rw [pk_sub h1, nI_1, show nI c - 97 = nI (c - 97) from pk_sub c1, nI_1, nI_l (by omega), nI_l (by omega)]
        by_cases h8 : p - b < 8
        · rw [if_neg (by rw [show (8 : Int32) = nI 8 from rfl, nI_leI (by omega) (by omega)]; omega)]
          obtain ⟨ds, d1, d2, d3, d4⟩ := hI (by omega)
          refine ih (p + 1) _ _ (by omega) (by omega) (by omega) (Or.inl (by omega)) (fun _ => ⟨(c - 96) :: ds, ?_, ?_, ?_, ?_⟩)
          · show ds.length + 1 = _; omega
          · intro d hd
            rcases List.mem_cons.mp hd with q | q
            · subst q; omega
            · exact d2 d q
          · rw [d3]
            have e1 : lN (eR 32 ds) * (32 : Int64) = lN (eR 32 ds * 32) := lN_mul _ 32
            rw [e1, lN_add, show c - 97 + 1 = c - 96 by omega]
            rfl
          · rw [d4]
            have e1 : lN (eR 27 ds) * (27 : Int64) = lN (eR 27 ds * 27) := lN_mul _ 27
            have e2 : lN (eR 27 ds * 27 + c) - (96 : Int64) = lN (eR 27 ds * 27 + c - 96) := lN_sub (b := 96) (by omega)
            rw [e1, lN_add, e2, show eR 27 ds * 27 + c - 96 = eR 27 ds * 27 + (c - 96) by omega]
            rfl
        · rw [if_pos (by rw [show (8 : Int32) = nI 8 from rfl, nI_leI (by omega) (by omega)]; omega)]
          exact ih (p + 1) _ _ (by omega) (by omega) (by omega) (Or.inl (by omega)) (fun q => by omega)
    · rw [if_pos (by rw [nI_leI (by omega) (by omega)]; omega)]
      simp only [if_neg hp] at hst ⊢
      have hbp : b < p := by
        rcases hst with q | q
        · exact q
        · exact absurd (by decide) q.1
      rw [if_pos (show (0 : Int32) < 97 by decide)]
      exact fin hbp
theorem num_rel {tp sg : Nat → Int32} {n b : Nat} (hn : n ≤ 1000) (hfg : ∀ i, i < n → tp i = sg i) : ∀ (fu p : Nat) (va to : Int32), b ≤ p → p ≤ n → n < fu + p → (b < p ∨ (¬ (if p < n then sg p else 0) < 48 ∧ ¬ 57 < (if p < n then sg p else 0))) → (p - b ≤ 4 → ∃ v, v < 10 ^ (p - b) ∧ va = nI v ∧ to = nI v) →
    ∃ (e : Nat) (kd va' : Int32) (tk to' : Int32), f_X10_readNumber_5 fu sg (nI n) (nI b) va (nI p) = some (nI e, kd, va') ∧ f_X13_nextToken_224 fu tp (nI n) (nI p) (nI b) 0 to = some (nI e, nI b, tk, 0, to') ∧ ∀ le, TK n sg b e kd va' le none tk 0 to' := by
  intro fu
  induction fu with
  | zero => intro p va to h1 h2 h3; omega
  | succ fu ih =>
    intro p va to h1 h2 h3 hst hI
    rw [f_X10_readNumber_5.eq_2, f_X13_nextToken_224.eq_2]
    have hs := (sgn_eq (p := p) hn hfg).resolve_right (by omega)
    rw [hs]
    simp only [o_bs]
    have fin : b < p → ∃ (e : Nat) (kd va' : Int32) (tk to' : Int32), f_X10_readNumber_60 (nI b) va (nI p) = some (nI e, kd, va') ∧ f_X13_nextToken_299 (nI p) (nI b) 0 to = some (nI e, nI b, tk, 0, to') ∧ ∀ le, TK n sg b e kd va' le none tk 0 to' := by
      intro hbp
      unfold f_X10_readNumber_60 f_X13_nextToken_299 f_X10_readNumber_81 f_X13_nextToken_318
      rw [pk_sub h1]
      by_cases h8 : p - b ≤ 4
      · have e8 : nI (p - b) ≤ 4 := by rw [show (4 : Int32) = nI 4 from rfl, nI_leI (by omega) (by omega)]; exact h8
        rw [if_pos e8, if_pos e8]
        obtain ⟨v, d1, d2, d3⟩ := hI h8
        have h10 : 10 ^ (p - b) ≤ 10 ^ 4 := Nat.pow_le_pow_right (by decide) h8
        exact ⟨p, _, _, _, _, rfl, rfl, fun le => Or.inr (Or.inr (Or.inr (Or.inl ⟨hbp, h2, rfl, rfl, rfl, d2.trans d3.symm, v, by omega, d3⟩)))⟩
      · have e8 : ¬ nI (p - b) ≤ 4 := by rw [show (4 : Int32) = nI 4 from rfl, nI_leI (by omega) (by omega)]; exact h8
        rw [if_neg e8, if_neg e8]
        exact ⟨p, _, _, _, _, rfl, rfl, fun le => Or.inr (Or.inl ⟨hbp, h2, rfl, rfl, rfl⟩)⟩
    by_cases hp : p < n
    · rw [if_neg (by rw [nI_leI (by omega) (by omega)]; omega), q_ga (by omega) (by omega)]
      simp only [if_pos hp] at hst ⊢
      rcases wth_cases (sg p) 48 57 with ⟨ew, hw⟩ | ⟨ew, g1, g2⟩
      · rw [ew, if_pos e00]
        have hbp : b < p := by
          rcases hst with q | q
          · exact q
          · rcases hw with w | w
            · exact absurd w q.1
            · exact absurd w q.2
        by_cases g1 : sg p < 48
        · rw [if_pos g1]; exact fin hbp
        · rw [if_neg g1, if_pos (hw.resolve_left g1)]; exact fin hbp
      · rw [ew, if_neg n10, if_neg g1, if_neg g2]
        obtain ⟨c, c1, c2, ec⟩ := dig_of g1 g2
        rw [ec]
        unfold f_X13_nextToken_286
        rw [pk_sub h1, nI_1]
        by_cases h8 : p - b < 4
        · rw [if_neg (by rw [show (4 : Int32) = nI 4 from rfl, nI_leI (by omega) (by omega)]; omega)]
          obtain ⟨v, d1, d2, d3⟩ := hI (by omega)
          have ev : nI v * 10 + nI c - 48 = nI (v * 10 + (c - 48)) := by
            rw [show nI v * 10 = nI (v * 10) from pk_mul v 10, nI_add, show nI (v * 10 + c) - 48 = nI (v * 10 + c - 48) from pk_sub (b := 48) (by omega), show v * 10 + c - 48 = v * 10 + (c - 48) by omega]
          refine ih (p + 1) _ _ (by omega) (by omega) (by omega) (Or.inl (by omega)) (fun _ => ⟨v * 10 + (c - 48), ?_, ?_, ?_⟩)
          · rw [show p + 1 - b = (p - b) + 1 by omega, Nat.pow_succ]; omega
          · rw [d2]; exact ev
          · rw [d3]; exact ev
        · rw [if_pos (by rw [show (4 : Int32) = nI 4 from rfl, nI_leI (by omega) (by omega)]; omega)]
          exact ih (p + 1) _ _ (by omega) (by omega) (by omega) (Or.inl (by omega)) (fun q => by omega)
    · rw [if_pos (by rw [nI_leI (by omega) (by omega)]; omega)]
      simp only [if_neg hp] at hst ⊢
      have hbp : b < p := by
        rcases hst with q | q
        · exact q
        · exact absurd (by decide) q.1
      rw [if_pos (show (0 : Int32) < 48 by decide)]
      exact fin hbp
theorem own_eq (v : Int32) : f_X10_isOwnToken v = if (¬ v < 40 ∧ v ≤ 43) ∨ v = 45 ∨ (¬ v < 59 ∧ ¬ 61 < v) then 1 else 0 := by
  by_cases h : ¬ v < 40 ∧ ¬ 61 < v
  · obtain ⟨c, hc, rfl⟩ := nI_of2 (M := 61) (n := 61) rfl (x := v) (by have h1 := h.1; rw [i_lt] at h1 ⊢; have : (40 : Int32).toInt = 40 := rfl; have := t0; omega) (by rw [i_le]; have h2 := h.2; rw [i_lt] at h2; omega)
    have : ∀ c, c ≤ 61 → f_X10_isOwnToken (nI c) = if (¬ nI c < 40 ∧ nI c ≤ 43) ∨ nI c = 45 ∨ (¬ nI c < 59 ∧ ¬ 61 < nI c) then 1 else 0 := by decide +kernel
    exact this c hc
  · have ne : ∀ a : Int32, (¬ a < 40 ∧ ¬ 61 < a) → ¬ v = a := fun a ha q => h (by rw [q]; exact ha)
    unfold f_X10_isOwnToken
    rw [if_neg (ne 40 (by decide)), if_neg (ne 41 (by decide)), if_neg (ne 42 (by decide)), if_neg (ne 43 (by decide)), if_neg (ne 44 (by decide)), if_neg (ne 45 (by decide)), if_neg (ne 46 (by decide)), if_neg (ne 47 (by decide)), if_neg (ne 48 (by decide)), if_neg (ne 49 (by decide)), if_neg (ne 50 (by decide)), if_neg (ne 51 (by decide)), if_neg (ne 52 (by decide)), if_neg (ne 53 (by decide)), if_neg (ne 54 (by decide)), if_neg (ne 55 (by decide)), if_neg (ne 56 (by decide)), if_neg (ne 57 (by decide)), if_neg (ne 58 (by decide)), if_neg (ne 59 (by decide)), if_neg (ne 60 (by decide)), if_neg (ne 61 (by decide)), if_neg]
    intro q
    rcases q with q | q | q
    · exact h ⟨q.1, by rw [i_lt]; have := q.2; rw [i_le] at this; have h1 : (43 : Int32).toInt = 43 := rfl; have h2 : (61 : Int32).toInt = 61 := rfl; omega⟩
    · exact ne 45 (by decide) q
    · exact h ⟨by have := q.1; rw [i_lt] at this ⊢; have h1 : (59 : Int32).toInt = 59 := rfl; have h2 : (40 : Int32).toInt = 40 := rfl; omega, q.2⟩
theorem adv_rel {tp sg : Nat → Int32} {n e0 : Nat} (hn : n ≤ 1000) (hfg : ∀ i, i < n → tp i = sg i) (he : e0 ≤ n) : ∃ (b e : Nat) (kd va : Int32) (le : Int64) (wo : Option Nat) (tk : Int32) (mw : Int64) (to : Int32), f_X10_advance sg (nI n) (nI e0) = some (nI b, nI e, kd, va, le, wo) ∧ f_X13_nextToken tp (nI n) (nI e0) = some (nI e, nI b, tk, mw, to) ∧ TK n sg b e kd va le wo tk mw to ∧ e0 ≤ b := by
  have skip : ∀ (fu p : Nat), p ≤ n → n < fu + p → ∃ b, p ≤ b ∧ b ≤ n ∧ f_X10_advance_8 fu sg (nI n) (nI p) = f_X10_advance_64 sg (nI n) (nI b) ∧ f_X13_nextToken_0 fu tp (nI n) (nI p) = f_X13_nextToken_52 tp (nI n) (nI b) := by
    intro fu
    induction fu with
    | zero => intro p h1 h2; omega
    | succ fu ih =>
      intro p h1 h2
      rw [f_X10_advance_8.eq_2, f_X13_nextToken_0.eq_2]
      by_cases hp : p < n
      · have hle : ¬ nI n ≤ nI p := by rw [nI_leI (by omega) (by omega)]; omega
        rw [if_neg hle, if_neg hle, q_ga (by omega) (by omega), q_gd (by omega) (by omega), q_gd (by omega) (by omega), nI_clamp (by omega), hfg p hp]
        unfold f_X10_advance_51 f_X13_nextToken_39
        rw [nI_1]
        obtain ⟨b, b1, b2, b3, b4⟩ := ih (p + 1) (by omega) (by omega)
        by_cases h10 : sg p = 10
        · have h32 : ¬ sg p = 32 := by rw [h10]; decide
          rw [if_pos h10, if_neg h32, if_pos h10]
          exact ⟨b, by omega, b2, b3, b4⟩
        · rw [if_neg h10, if_neg h10]
          by_cases h32 : sg p = 32
          · rw [if_pos h32, if_pos h32]
            exact ⟨b, by omega, b2, b3, b4⟩
          · rw [if_neg h32, if_neg h32]
            exact ⟨p, Nat.le_refl _, h1, rfl, rfl⟩
      · have hle : nI n ≤ nI p := by rw [nI_leI (by omega) (by omega)]; omega
        rw [if_pos hle, if_pos hle]
        exact ⟨p, Nat.le_refl _, h1, rfl, rfl⟩
  obtain ⟨b, b1, b2, b3, b4⟩ := skip 1100 e0 he (by omega)
  unfold f_X10_advance f_X13_nextToken
  rw [b3, b4]
  unfold f_X10_advance_64 f_X13_nextToken_52 f_X10_advance_105
  by_cases hb : b = n
  · subst hb
    have hle : nI b ≤ nI b := Int32.le_refl _
    rw [if_pos hle, if_neg (nI_nlt (Nat.le_refl _) (by omega)), if_pos rfl]
    exact ⟨b, b, _, _, _, _, _, _, _, rfl, rfl, Or.inl ⟨rfl, rfl, rfl, rfl, rfl⟩, b1⟩
  · have hbn : b < n := by omega
    have hle : ¬ nI n ≤ nI b := by rw [nI_leI (by omega) (by omega)]; omega
    rw [if_neg hle, if_pos (nI_lt hbn (by omega)), if_neg (fun q => hb ((nI_eq (by omega) (by omega)).mp q)), q_ga (by omega) (by omega), q_gd (by omega) (by omega), nI_clamp (by omega), hfg b hbn]
    rcases wth_cases (sg b) 97 122 with ⟨ew, hw⟩ | ⟨ew, g1, g2⟩
    · rw [ew, if_pos e00]
      have h212 : (if sg b < 97 then f_X13_nextToken_212 tp (nI n) (nI b) (nI b) 0 0 (sg b) else if 122 < sg b then f_X13_nextToken_212 tp (nI n) (nI b) (nI b) 0 0 (sg b) else f_X13_nextToken_109 1100 tp (nI n) (nI b) (nI b) 0 0) = f_X13_nextToken_212 tp (nI n) (nI b) (nI b) 0 0 (sg b) := by
        by_cases g1 : sg b < 97
        · rw [if_pos g1]
        · rw [if_neg g1, if_pos (hw.resolve_left g1)]
      rw [h212]
      unfold f_X13_nextToken_212
      rcases wth_cases (sg b) 48 57 with ⟨ed, hd⟩ | ⟨ed, g1, g2⟩
      · rw [ed, if_pos e00]
        have h322 : (if sg b < 48 then f_X13_nextToken_322 (nI b) (nI b) 0 0 (sg b) else if 57 < sg b then f_X13_nextToken_322 (nI b) (nI b) 0 0 (sg b) else f_X13_nextToken_224 1100 tp (nI n) (nI b) (nI b) 0 0) = f_X13_nextToken_322 (nI b) (nI b) 0 0 (sg b) := by
          by_cases g1 : sg b < 48
          · rw [if_pos g1]
          · rw [if_neg g1, if_pos (hd.resolve_left g1)]
        rw [h322, own_eq]
        unfold f_X13_nextToken_322 f_X13_nextToken_345 f_X13_nextToken_367 f_X13_nextToken_368 f_X10_advance_182
        rw [nI_1]
        have tS : ∃ (b' e : Nat) (kd va : Int32) (le : Int64) (wo : Option Nat) (tk : Int32) (mw : Int64) (to : Int32), some (nI b, nI (b + 1), (4 : Int32), sg b, (0 : Int64), (none : Option Nat)) = some (nI b', nI e, kd, va, le, wo) ∧ some (nI (b + 1), nI b, (3 : Int32), (0 : Int64), (0 : Int32)) = some (nI e, nI b', tk, mw, to) ∧ TK n sg b' e kd va le wo tk mw to ∧ e0 ≤ b' :=
          ⟨b, b + 1, _, _, _, _, _, _, _, rfl, rfl, Or.inr (Or.inr (Or.inr (Or.inr ⟨rfl, hbn, rfl, rfl, rfl, rfl⟩))), b1⟩
        have tN : ∃ (b' e : Nat) (kd va : Int32) (le : Int64) (wo : Option Nat) (tk : Int32) (mw : Int64) (to : Int32), some (nI b, nI (b + 1), (1 : Int32), sg b, (0 : Int64), (none : Option Nat)) = some (nI b', nI e, kd, va, le, wo) ∧ some (nI (b + 1), nI b, (4 : Int32), (0 : Int64), (0 : Int32)) = some (nI e, nI b', tk, mw, to) ∧ TK n sg b' e kd va le wo tk mw to ∧ e0 ≤ b' :=
          ⟨b, b + 1, _, _, _, _, _, _, _, rfl, rfl, Or.inr (Or.inl ⟨by omega, by omega, rfl, rfl, rfl⟩), b1⟩
        by_cases g1 : sg b < 40
        · have g43 : ¬ (¬ sg b < 40 ∧ sg b ≤ 43) := fun q => q.1 g1
          rw [if_pos g1]
          by_cases g45 : sg b = 45
          · rw [g45] at g1; exact absurd g1 (by decide)
          · have g59 : sg b < 59 := by rw [i_lt] at g1 ⊢; have h1 : (40 : Int32).toInt = 40 := rfl; have h2 : (59 : Int32).toInt = 59 := rfl; omega
            have go : ¬ ((¬ sg b < 40 ∧ sg b ≤ 43) ∨ sg b = 45 ∨ (¬ sg b < 59 ∧ ¬ 61 < sg b)) := by
              intro q; rcases q with q | q | q
              · exact g43 q
              · exact g45 q
              · exact q.1 g59
            rw [if_neg go, if_pos e00, if_neg g45, if_pos g59]; exact tN
        · rw [if_neg g1]
          by_cases g43 : sg b ≤ 43
          · rw [if_pos (Or.inl ⟨g1, g43⟩), if_neg n10, if_pos g43]; exact tS
          · rw [if_neg g43]
            by_cases g45 : sg b = 45
            · rw [if_pos (Or.inr (Or.inl g45)), if_neg n10, if_pos g45]; exact tS
            · rw [if_neg g45]
              by_cases g59 : sg b < 59
              · have go : ¬ ((¬ sg b < 40 ∧ sg b ≤ 43) ∨ sg b = 45 ∨ (¬ sg b < 59 ∧ ¬ 61 < sg b)) := by
                  intro q; rcases q with q | q | q
                  · exact g43 q.2
                  · exact g45 q
                  · exact q.1 g59
                rw [if_neg go, if_pos e00, if_pos g59]; exact tN
              · rw [if_neg g59]
                by_cases g61 : 61 < sg b
                · have go : ¬ ((¬ sg b < 40 ∧ sg b ≤ 43) ∨ sg b = 45 ∨ (¬ sg b < 59 ∧ ¬ 61 < sg b)) := by
                    intro q; rcases q with q | q | q
                    · exact g43 q.2
                    · exact g45 q
                    · exact q.2 g61
                  rw [if_neg go, if_pos e00, if_pos g61]; exact tN
                · rw [if_pos (Or.inr (Or.inr ⟨g59, g61⟩)), if_neg n10, if_neg g61]; exact tS
      · rw [ed, if_neg n10, if_neg g1, if_neg g2]
        unfold f_X10_readNumber
        obtain ⟨e, kd, va, tk, to, r1, r2, r3⟩ := num_rel (b := b) hn hfg 1100 b 0 0 (Nat.le_refl _) (by omega) (by omega) (Or.inr (by rw [if_pos hbn]; exact ⟨g1, g2⟩)) (fun _ => ⟨0, Nat.pow_pos (by decide), rfl, rfl⟩)
        rw [r1, r2, o_bs]
        exact ⟨b, e, _, _, _, _, _, _, _, rfl, rfl, r3 0, b1⟩
    · rw [ew, if_neg n10, if_neg g1, if_neg g2]
      unfold f_X10_readWord
      obtain ⟨e, kd, le, wo, tk, mw, r1, r2, r3⟩ := word_rel (b := b) hn hfg 1100 b 0 0 (Nat.le_refl _) (by omega) (by omega) (Or.inr (by rw [if_pos hbn]; exact ⟨g1, g2⟩)) (fun _ => ⟨[], by rw [Nat.sub_self]; rfl, fun d hd => absurd hd List.not_mem_nil, rfl, rfl⟩)
      rw [r1, r2, o_bs]
      exact ⟨b, e, _, _, _, _, _, _, _, rfl, rfl, r3 0, b1⟩
