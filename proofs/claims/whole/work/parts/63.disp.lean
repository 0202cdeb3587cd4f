/-! what the model does at a token within a law -/
theorem nar0 : vp_nar .boolean 0 = 0 := rfl
theorem nar1 : vp_nar .boolean 1 = 1 := rfl
theorem sg_ne {k v c : Int32} (h : ¬ f_X10_isSign k v c = 0) : k = 4 ∧ v = c := by
  unfold f_X10_isSign at h
  by_cases h1 : k = 4
  · by_cases h2 : v = c
    · exact ⟨h1, h2⟩
    · rw [if_pos h1, if_neg h2] at h; exact absurd rfl h
  · rw [if_neg h1] at h; exact absurd rfl h
theorem sg_0 {k v c d : Int32} (h : ¬ f_X10_isSign k v c = 0) (hd : ¬ c = d) : f_X10_isSign k v d = 0 := by
  obtain ⟨rfl, rfl⟩ := sg_ne h
  unfold f_X10_isSign
  rw [if_pos rfl, if_neg hd]
theorem sg_k {k v c : Int32} (h : ¬ k = 4) : f_X10_isSign k v c = 0 := if_neg h
section
variable {k_place k_behind k_kind k_value : Int32} {k_letters : Int64} {k_word : Option Nat} {m_place m_begin m_token : Int32} {m_word : Int64} {m_told : Int32} {p_place p_begin p_token : Int32} {p_word : Int64} {p_told : Int32} {k_signs m_tape : Nat → Int32} {n b e c0 x fu : Nat} {m_wrong m_code m_lawLine : Int32} {m_codes m_opened m_compared : TN}
theorem r11_arith (hn : n ≤ 1000) (hfg : ∀ i, i < n → m_tape i = k_signs i) (h : TS n k_signs k_place k_behind k_kind k_value k_letters k_word m_place m_begin m_token m_word m_told b e) {sg co : Int32} (hsc : (sg = 42 ∧ co = 22) ∨ (sg = 43 ∧ co = 20) ∨ (sg = 45 ∧ co = 21)) (hs : ¬ f_X10_isSign k_kind k_value sg = 0) (ha : f_X13_nextToken m_tape (nI n) m_place = some (p_place, p_begin, p_token, p_word, p_told)) (hc : c0 < 2000) : f_X13_reads_11 (fu + 1) m_tape (nI n) m_place m_begin m_token m_word m_told m_wrong m_codes (nI c0) m_lawLine m_opened m_compared (nI x) 0 = f_X13_reads_11 fu m_tape (nI n) p_place p_begin p_token p_word p_told m_wrong (upd m_codes c0 co) (nI (c0 + 1)) m_lawLine m_opened m_compared (nI x) 1 := by
  rw [f_X13_reads_11.eq_2, if_pos rfl]
  unfold f_X13_reads_206 f_X13_reads_237 f_X13_reads_424
  simp only [h.sign hn hfg, o_bs, ha]
  rcases hsc with ⟨rfl, rfl⟩ | ⟨rfl, rfl⟩ | ⟨rfl, rfl⟩
  · rw [if_pos (sg_0 hs (by decide)), if_pos (sg_0 hs (by decide)), if_neg hs, if_pos (sg_0 hs (by decide)), if_pos (sg_0 hs (by decide)), puts_eq hc]
    simp only [o_bs]
  · rw [if_neg hs, if_neg hs, puts_eq hc]
    simp only [o_bs]
  · rw [if_pos (sg_0 hs (by decide)), if_neg hs, if_pos (sg_0 hs (by decide)), if_neg hs, puts_eq hc]
    simp only [o_bs]
theorem r11_cmp (hn : n ≤ 1000) (hfg : ∀ i, i < n → m_tape i = k_signs i) (h : TS n k_signs k_place k_behind k_kind k_value k_letters k_word m_place m_begin m_token m_word m_told b e) {sg co : Int32} (hsc : (sg = 60 ∧ co = 24) ∨ (sg = 61 ∧ co = 25)) (hs : ¬ f_X10_isSign k_kind k_value sg = 0) (ha : f_X13_nextToken m_tape (nI n) m_place = some (p_place, p_begin, p_token, p_word, p_told)) (hc : c0 < 2000) (hx : x < 7) (hcm : m_compared x = 0) : f_X13_reads_11 (fu + 1) m_tape (nI n) m_place m_begin m_token m_word m_told m_wrong m_codes (nI c0) m_lawLine m_opened m_compared (nI x) 0 = f_X13_reads_11 fu m_tape (nI n) p_place p_begin p_token p_word p_told m_wrong (upd m_codes c0 co) (nI (c0 + 1)) m_lawLine m_opened (upd m_compared x 1) (nI x) 1 := by
  rw [f_X13_reads_11.eq_2, if_pos rfl]
  unfold f_X13_reads_263 f_X13_reads_289 f_X13_reads_424
  simp only [h.sign hn hfg, o_bs, ha, nar1, q_gd hx (show 7 < 2147483648 by omega), nI_clamp (show x < 2 ^ 31 by omega), hcm, ↓reduceIte]
  rcases hsc with ⟨rfl, rfl⟩ | ⟨rfl, rfl⟩
  · rw [if_pos (sg_0 hs (by decide)), if_pos (sg_0 hs (by decide)), if_pos (sg_0 hs (by decide)), if_neg hs, if_neg hs, puts_eq hc]
    simp only [o_bs]
  · rw [if_pos (sg_0 hs (by decide)), if_pos (sg_0 hs (by decide)), if_pos (sg_0 hs (by decide)), if_pos (sg_0 hs (by decide)), if_neg hs, if_pos (sg_0 hs (by decide)), puts_eq hc]
    simp only [o_bs]
/-- none of the signs that join numbers -/
def noAr (k v : Int32) : Prop := f_X10_isSign k v 42 = 0 ∧ f_X10_isSign k v 43 = 0 ∧ f_X10_isSign k v 45 = 0
/-- none that compares, or one more than may be -/
def noCm (k v c : Int32) : Prop := (f_X10_isSign k v 60 = 0 ∧ f_X10_isSign k v 61 = 0) ∨ c = 1
theorem r11_304 (hn : n ≤ 1000) (hfg : ∀ i, i < n → m_tape i = k_signs i) (h : TS n k_signs k_place k_behind k_kind k_value k_letters k_word m_place m_begin m_token m_word m_told b e) (hA : noAr k_kind k_value) (hC : noCm k_kind k_value (m_compared x)) (hx : x < 7) : f_X13_reads_11 (fu + 1) m_tape (nI n) m_place m_begin m_token m_word m_told m_wrong m_codes (nI c0) m_lawLine m_opened m_compared (nI x) 0 = f_X13_reads_304 (f_X13_reads_11 fu) m_tape (nI n) m_place m_begin m_token m_word m_told m_wrong m_codes (nI c0) m_lawLine m_opened m_compared (nI x) 0 := by
  rw [f_X13_reads_11.eq_2, if_pos rfl]
  unfold f_X13_reads_263
  simp only [h.sign hn hfg, o_bs, q_gd hx (show 7 < 2147483648 by omega), nI_clamp (show x < 2 ^ 31 by omega)]
  rw [if_pos hA.2.1, if_pos hA.2.2, if_pos hA.1]
  rcases hC with ⟨h1, h2⟩ | h1
  · rw [if_pos h1, if_pos h2]
  · rw [h1, if_neg n10]
    split
    · split <;> rfl
    · rfl
theorem r11_log (hn : n ≤ 1000) (hfg : ∀ i, i < n → m_tape i = k_signs i) (h : TS n k_signs k_place k_behind k_kind k_value k_letters k_word m_place m_begin m_token m_word m_told b e) (hA : noAr k_kind k_value) (hC : noCm k_kind k_value (m_compared x)) {w : Nat} {co : Int32} (hsc : (w = 24 ∧ co = 26) ∨ (w = 25 ∧ co = 27)) (hs : k_word = some w) (ha : f_X13_nextToken m_tape (nI n) m_place = some (p_place, p_begin, p_token, p_word, p_told)) (hc : c0 < 2000) (hx : x < 7) : f_X13_reads_11 (fu + 1) m_tape (nI n) m_place m_begin m_token m_word m_told m_wrong m_codes (nI c0) m_lawLine m_opened m_compared (nI x) 0 = f_X13_reads_11 fu m_tape (nI n) p_place p_begin p_token p_word p_told m_wrong (upd m_codes c0 co) (nI (c0 + 1)) m_lawLine m_opened (upd m_compared x 0) (nI x) 1 := by
  rw [r11_304 hn hfg h hA hC hx]
  unfold f_X13_reads_304 f_X13_reads_324 f_X13_reads_342 f_X13_reads_424
  have w24 : f_X13_isWord m_token m_word 1111 = 0 ↔ ¬ k_word = some 24 := h.word1 (i := 24) (by omega)
  have w25 : f_X13_isWord m_token m_word 423 = 0 ↔ ¬ k_word = some 25 := h.word1 (i := 25) (by omega)
  simp only [ha, nar0, q_gd hx (show 7 < 2147483648 by omega), nI_clamp (show x < 2 ^ 31 by omega), o_bs]
  rcases hsc with ⟨rfl, rfl⟩ | ⟨rfl, rfl⟩
  · rw [if_neg (fun z => w24.mp z hs), if_neg (fun z => w24.mp z hs), puts_eq hc]
    simp only [o_bs]
  · rw [if_pos (w24.mpr (by rw [hs]; simp)), if_neg (fun z => w25.mp z hs), if_pos (w24.mpr (by rw [hs]; simp)), puts_eq hc]
    simp only [o_bs]
theorem r11_close (hn : n ≤ 1000) (hfg : ∀ i, i < n → m_tape i = k_signs i) (h : TS n k_signs k_place k_behind k_kind k_value k_letters k_word m_place m_begin m_token m_word m_told b e) (hs : ¬ f_X10_isSign k_kind k_value 41 = 0) (hc : c0 < 2000) (hx : x + 1 < 7) : f_X13_reads_11 (fu + 1) m_tape (nI n) m_place m_begin m_token m_word m_told m_wrong m_codes (nI c0) m_lawLine m_opened m_compared (nI (x + 1)) 0 = f_X13_reads_152 (f_X13_reads_11 fu) 1100 m_tape (nI n) m_place m_wrong (upd m_codes c0 29) (nI (c0 + 1)) m_lawLine m_opened m_compared (nI x) 0 := by
  have hA : noAr k_kind k_value := ⟨sg_0 hs (by decide), sg_0 hs (by decide), sg_0 hs (by decide)⟩
  have hC : noCm k_kind k_value (m_compared (x + 1)) := Or.inl ⟨sg_0 hs (by decide), sg_0 hs (by decide)⟩
  rw [r11_304 hn hfg h hA hC hx]
  have hk := (sg_ne hs).1
  have hw : ∀ i, i < 32 → ¬ k_word = some i := fun i hi z => by have := h.kind1 z; rw [hk] at this; exact absurd this (by decide)
  have w24 : f_X13_isWord m_token m_word 1111 = 0 := (h.word1 (i := 24) (by omega)).mpr (hw 24 (by omega))
  have w25 : f_X13_isWord m_token m_word 423 = 0 := (h.word1 (i := 25) (by omega)).mpr (hw 25 (by omega))
  unfold f_X13_reads_304
  simp only [h.sign hn hfg, o_bs, puts_eq hc]
  rw [if_pos w24, if_pos w25, if_neg hs, if_neg (show ¬ nI (x + 1) ≤ 0 from fun q => by have := (nI_leI (b := 0) (by omega) (by omega)).mp q; omega), r379_eq, show nI (x + 1) + -1 = nI x by rw [← nI_1, Int32.add_assoc]; simp]
/-- a law that ends here: within a pair of signs, it is wrong -/
theorem r11_bad (hn : n ≤ 1000) (hfg : ∀ i, i < n → m_tape i = k_signs i) (h : TS n k_signs k_place k_behind k_kind k_value k_letters k_word m_place m_begin m_token m_word m_told b e) (hA : noAr k_kind k_value) (hC : noCm k_kind k_value (m_compared x)) (h24 : ¬ k_word = some 24) (h25 : ¬ k_word = some 25) (h41 : x = 0 ∨ f_X10_isSign k_kind k_value 41 = 0) (h59 : ¬ x = 0 ∨ f_X10_isSign k_kind k_value 59 = 0) (hx : x < 7) : f_X13_reads_11 (fu + 1) m_tape (nI n) m_place m_begin m_token m_word m_told m_wrong m_codes (nI c0) m_lawLine m_opened m_compared (nI x) 0 = some (0, m_place, m_begin, m_token, m_word, m_told, 1 + 16 * m_begin, m_codes, nI c0, m_opened, m_compared) := by
  rw [r11_304 hn hfg h hA hC hx]
  have w24 : f_X13_isWord m_token m_word 1111 = 0 := (h.word1 (i := 24) (by omega)).mpr h24
  have w25 : f_X13_isWord m_token m_word 423 = 0 := (h.word1 (i := 25) (by omega)).mpr h25
  have e399 : f_X13_reads_399 m_tape (nI n) m_place m_begin m_token m_word m_told m_wrong m_codes (nI c0) m_opened m_compared (nI x) = some (0, m_place, m_begin, m_token, m_word, m_told, 1 + 16 * m_begin, m_codes, nI c0, m_opened, m_compared) := by
    unfold f_X13_reads_399 f_X13_reads_418 f_X13_fails
    by_cases h0 : x = 0
    · subst h0
      rw [if_pos (show nI 0 = 0 from rfl), h.sign hn hfg]
      simp only [o_bs]
      rw [if_pos (h59.resolve_left (fun z => z rfl)), q_zg0]
    · rw [if_neg (show ¬ nI x = 0 from fun z => h0 ((nI_inj (j := 0) (by omega) (by omega)).mp z)), q_zg0]
  unfold f_X13_reads_304
  simp only [h.sign hn hfg, o_bs, e399]
  rw [if_pos w24, if_pos w25]
  by_cases h0 : x = 0
  · subst h0
    rw [if_pos (show nI 0 ≤ 0 by decide)]
    split <;> rfl
  · rw [if_pos (h41.resolve_left h0)]
end
