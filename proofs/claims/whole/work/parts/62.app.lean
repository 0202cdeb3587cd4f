/-! what is laid down as a law is read -/
def AP (g : TN) (s : Nat) (P : List Int32) (g' : TN) : Prop := (∀ i, i < s → g' i = g i) ∧ HD g' s P
theorem AP.nil {g : TN} {s : Nat} : AP g s [] g := ⟨fun _ _ => rfl, fun i hi => by simp at hi⟩
theorem AP.app {g g1 g2 : TN} {s : Nat} {P R : List Int32} (h1 : AP g s P g1) (h2 : AP g1 (s + P.length) R g2) : AP g s (P ++ R) g2 := by
  refine ⟨fun i hi => by rw [h2.1 i (by omega), h1.1 i hi], HD.mk (fun i hi => ?_) h2.2⟩
  rw [h2.1 (s + i) (by omega)]; exact h1.2 i hi
theorem AP.one {g : TN} {s : Nat} {c : Int32} : AP g s [c] (upd g s c) := ⟨fun i hi => pk_un (by omega), HD.sing pk_us⟩
theorem add_eq {ops : TN} {s : Nat} {c : Int32} (hs : s < 1000) : f_X3_add ops (nI s) c = (upd ops s c, nI (s + 1)) := by
  unfold f_X3_add
  rw [if_neg (show ¬ 1000 ≤ nI s from fun q => by have := (nI_leI (a := 1000) (by omega) (by omega)).mp q; omega), q_gp hs (by omega), nI_1]
theorem puts_eq {codes : TN} {s : Nat} {c : Int32} (hs : s < 2000) : f_X13_puts codes (nI s) c = some (upd codes s c, nI (s + 1)) := by
  unfold f_X13_puts
  rw [q_gd hs (by omega), nI_clamp (by omega), nI_1]
section
variable {k_place k_behind k_kind k_value : Int32} {k_letters : Int64} {k_word : Option Nat} {m_place m_begin m_token : Int32} {m_word : Int64} {m_told : Int32} {k_signs m_tape : Nat → Int32} {n b e : Nat} {m_wrong m_code m_lawLine : Int32} {m_codes m_opened m_compared : TN}
theorem TS.cmp (h : TS n k_signs k_place k_behind k_kind k_value k_letters k_word m_place m_begin m_token m_word m_told b e) (ht : m_token = 1) {i : Nat} (hi : i < 32) : lg_cmp m_word (e27 i) = 0 ↔ k_word = some i := by
  have := h.word1 hi
  unfold f_X13_isWord at this
  rw [if_pos ht] at this
  by_cases hc : lg_cmp m_word (e27 i) = 0
  · rw [if_pos hc] at this
    exact ⟨fun _ => Classical.byContradiction (fun z => n10 (this.mpr z)), fun _ => hc⟩
  · rw [if_neg hc] at this
    exact ⟨fun z => absurd z hc, fun z => absurd z (this.mp rfl)⟩
theorem TS.nw (h : TS n k_signs k_place k_behind k_kind k_value k_letters k_word m_place m_begin m_token m_word m_told b e) (ht : ¬ m_token = 1) {i : Nat} (hi : i < 32) : ¬ k_word = some i := by
  have := h.word1 hi
  unfold f_X13_isWord at this
  rw [if_neg ht] at this
  exact this.mp rfl
/-- the facts a law may ask for -/
theorem fact_rel (h : TS n k_signs k_place k_behind k_kind k_value k_letters k_word m_place m_begin m_token m_word m_told b e) {li : Nat} (hli : li < 2) : (f_X6_factSpelt k_word (nI li) = some 0 ∧ f_X13_fact m_token m_word (nI li) = 0) ∨ ∃ (r : Int32) (k : Nat) (f : Fn), f_X6_factSpelt k_word (nI li) = some r ∧ f_X13_fact m_token m_word (nI li) = nI k ∧ ¬ k_word = some 23 ∧ k_kind = 2 ∧ (1 ≤ k ∧ k < 20) ∧ ¬ r = 0 ∧ ¬ r < -4 ∧ (∀ a b c d, f_X3_alone r a b c d = f a b c d) ∧ ∀ (lt vo : TN) (T : Nat) (a b c d : Int32), Cx lt vo li T a b c d → vo k = f a b c d := by
  unfold f_X6_factSpelt f_X13_fact f_X6_factSpelt_45 f_X6_factSpelt_51 f_X6_factSpelt_69
  have hok : ∀ i, i < 32 → eok (some i) = true := fun i hi => decide_eq_true hi
  simp only [eg_ok h.wok, eg_ok (hok 28 (by omega)), eg_ok (hok 29 (by omega)), eg_ok (hok 30 (by omega)), eg_ok (hok 31 (by omega))]
  by_cases ht : m_token = 1
  · rw [if_pos ht]
    have c26 : lg_cmp m_word 21470 = 0 ↔ k_word = some 26 := h.cmp ht (i := 26) (by omega)
    have c27 : lg_cmp m_word 4078165 = 0 ↔ k_word = some 27 := h.cmp ht (i := 27) (by omega)
    have c28 : lg_cmp m_word 6410291 = 0 ↔ k_word = some 28 := h.cmp ht (i := 28) (by omega)
    have c29 : lg_cmp m_word 230501920 = 0 ↔ k_word = some 29 := h.cmp ht (i := 29) (by omega)
    have c30 : lg_cmp m_word 6562597 = 0 ↔ k_word = some 30 := h.cmp ht (i := 30) (by omega)
    have c31 : lg_cmp m_word 240023 = 0 ↔ k_word = some 31 := h.cmp ht (i := 31) (by omega)
    by_cases w26 : k_word = some 26
    · rw [if_pos w26, if_pos (c26.mpr w26)]
      exact Or.inr ⟨-1, 1, fun a _ _ _ => a, rfl, rfl, by rw [w26]; simp, h.kind1 w26, by omega, by decide, by decide, fun _ _ _ _ => rfl, fun lt vo T a b c d hx => hx.2.2.2.1⟩
    rw [if_neg w26, if_neg (fun z => w26 (c26.mp z))]
    by_cases w27 : k_word = some 27
    · rw [if_pos w27, if_pos (c27.mpr w27)]
      exact Or.inr ⟨-2, 2, fun _ b _ _ => b, rfl, rfl, by rw [w27]; simp, h.kind1 w27, by omega, by decide, by decide, fun _ _ _ _ => rfl, fun lt vo T a b c d hx => hx.2.2.2.2.1⟩
    rw [if_neg w27, if_neg (fun z => w27 (c27.mp z))]
    have hli2 : li = 0 ∨ li = 1 := by omega
    rcases hli2 with rfl | rfl
    · rw [if_pos (show nI 0 = 0 from rfl)]
      by_cases w28 : k_word = some 28
      · rw [if_pos (c28.mpr w28), if_neg (by rw [w28]; simp), if_pos (show nI 0 = 0 from rfl), if_pos w28]
        exact Or.inr ⟨-3, 3, fun _ _ c _ => c, rfl, rfl, by rw [w28]; simp, h.kind1 w28, by omega, by decide, by decide, fun _ _ _ _ => rfl, fun lt vo T a b c d hx => hx.2.2.2.2.2.1⟩
      rw [if_neg (fun z => w28 (c28.mp z))]
      by_cases w29 : k_word = some 29
      · rw [if_pos (c29.mpr w29), if_neg (by rw [w29]; simp), if_pos (show nI 0 = 0 from rfl), if_neg w28, if_neg (by rw [w29]; simp), if_pos w29]
        exact Or.inr ⟨-4, 4, fun _ _ _ d => d, rfl, rfl, by rw [w29]; simp, h.kind1 w29, by omega, by decide, by decide, fun _ _ _ _ => rfl, fun lt vo T a b c d hx => hx.2.2.2.2.2.2⟩
      left
      refine ⟨?_, if_neg (fun z => w29 (c29.mp z))⟩
      by_cases hnn : k_word = none
      · rw [if_pos hnn, if_pos hnn]
      · rw [if_neg hnn, if_pos (show nI 0 = 0 from rfl), if_neg w28, if_neg hnn, if_neg w29]
    · rw [if_neg (show ¬ nI 1 = 0 by decide)]
      by_cases w28 : k_word = some 30
      · rw [if_pos (c30.mpr w28), if_neg (by rw [w28]; simp), if_neg (show ¬ nI 1 = 0 by decide), if_pos w28]
        exact Or.inr ⟨-3, 5, fun _ _ c _ => c, rfl, rfl, by rw [w28]; simp, h.kind1 w28, by omega, by decide, by decide, fun _ _ _ _ => rfl, fun lt vo T a b c d hx => hx.2.2.2.2.2.1⟩
      rw [if_neg (fun z => w28 (c30.mp z))]
      by_cases w29 : k_word = some 31
      · rw [if_pos (c31.mpr w29), if_neg (by rw [w29]; simp), if_neg (show ¬ nI 1 = 0 by decide), if_neg w28, if_neg (by rw [w29]; simp), if_pos w29]
        exact Or.inr ⟨-4, 6, fun _ _ _ d => d, rfl, rfl, by rw [w29]; simp, h.kind1 w29, by omega, by decide, by decide, fun _ _ _ _ => rfl, fun lt vo T a b c d hx => hx.2.2.2.2.2.2⟩
      left
      refine ⟨?_, if_neg (fun z => w29 (c31.mp z))⟩
      by_cases hnn : k_word = none
      · rw [if_pos hnn, if_pos hnn]
      · rw [if_neg hnn, if_neg (show ¬ nI 1 = 0 by decide), if_neg w28, if_neg hnn, if_neg w29]
  · left
    rw [if_neg ht, if_neg (h.nw ht (i := 26) (by omega)), if_neg (h.nw ht (i := 27) (by omega))]
    refine ⟨?_, rfl⟩
    by_cases hnn : k_word = none
    · rw [if_pos hnn, if_pos hnn]
    · rw [if_neg hnn, if_neg hnn]
      by_cases h0 : nI li = 0
      · rw [if_pos h0, if_neg (h.nw ht (i := 28) (by omega)), if_pos h0, if_neg (h.nw ht (i := 29) (by omega))]
      · rw [if_neg h0, if_neg (h.nw ht (i := 30) (by omega)), if_neg h0, if_neg (h.nw ht (i := 31) (by omega))]
end
section
variable {K : Nat → Nat} {m_tape m_codes m_opened m_compared : TN} {m_size m_place m_wrong m_code m_lawLine x2 : Int32} {x fu fd : Nat}
theorem r379_eq : ∀ (fd : Nat) (x1 : Int32), f_X13_reads_379 (f_X13_reads_11 fu) fd m_tape m_size m_place m_wrong m_codes m_code m_lawLine m_opened m_compared x1 x2 = f_X13_reads_152 (f_X13_reads_11 fu) fd m_tape m_size m_place m_wrong m_codes m_code m_lawLine m_opened m_compared x1 x2 := by
  intro fd
  induction fd with
  | zero => intro x1; rfl
  | succ fd ih =>
    intro x1
    rw [f_X13_reads_379.eq_2, f_X13_reads_152.eq_2, ih]
    rfl
theorem r152_not (hx : x + 1 < 7) (ho : m_opened (x + 1) = 1) : f_X13_reads_152 (f_X13_reads_11 fu) (fd + 1) m_tape m_size m_place m_wrong m_codes m_code m_lawLine m_opened m_compared (nI (x + 1)) x2 = f_X13_reads_152 (f_X13_reads_11 fu) fd m_tape m_size m_place m_wrong m_codes m_code m_lawLine m_opened m_compared (nI x) x2 := by
  rw [f_X13_reads_152.eq_2, if_neg (show ¬ nI (x + 1) ≤ 0 from fun q => by have := (nI_leI (b := 0) (by omega) (by omega)).mp q; omega), q_gd hx (by omega), nI_clamp (by omega), if_pos ho, show nI (x + 1) + -1 = nI x by rw [← nI_1, Int32.add_assoc]; simp]
theorem r152_end (hx : x < 7) (ho : x = 0 ∨ m_opened x = 2) : f_X13_reads_152 (f_X13_reads_11 fu) (fd + 1) m_tape m_size m_place m_wrong m_codes m_code m_lawLine m_opened m_compared (nI x) x2 = f_X13_reads_172 (f_X13_reads_11 fu) m_tape m_size m_place m_wrong m_codes m_code m_lawLine m_opened m_compared (nI x) x2 := by
  rw [f_X13_reads_152.eq_2]
  by_cases h0 : x = 0
  · subst h0; rw [if_pos (by decide)]
  · rw [if_neg (show ¬ nI x ≤ 0 from fun q => by have := (nI_leI (b := 0) (by omega) (by omega)).mp q; omega), q_gd hx (by omega), nI_clamp (by omega)]
    rcases ho with h | h
    · exact absurd h h0
    · rw [h, if_neg (by decide)]
end
