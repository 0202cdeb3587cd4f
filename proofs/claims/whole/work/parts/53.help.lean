/-! what a token is, in both -/
def TS (n : Nat) (sg : Nat → Int32) (k_place k_behind k_kind k_value : Int32) (k_letters : Int64) (k_word : Option Nat) (m_place m_begin m_token : Int32) (m_word : Int64) (m_told : Int32) (b e : Nat) : Prop := k_place = nI b ∧ k_behind = nI e ∧ m_place = nI e ∧ m_begin = nI b ∧ TK n sg b e k_kind k_value k_letters k_word m_token m_word m_told
/-- a fault is never nothing -/
def FZ (a : Int32) : Prop := ∃ x : Int32, a = 1 + 16 * x ∨ a = 2 + 16 * x ∨ a = 3 + 16 * x ∨ a = 4 + 16 * x ∨ a = 5 + 16 * x
theorem FZ.ne {a : Int32} (h : FZ a) : ¬ a = 0 := by
  obtain ⟨x, h⟩ := h
  intro q
  rw [q] at h
  have key : ∀ t : Nat, 1 ≤ t → t ≤ 5 → ¬ (0 : Int32) = Int32.ofNat t + 16 * x := by
    intro t h1 h2 q
    have q2 := congrArg (fun z : Int32 => z.toBitVec.toNat % 16) q
    simp only [Int32.toBitVec_add, Int32.toBitVec_mul, BitVec.toNat_add, BitVec.toNat_mul] at q2
    have e1 : (Int32.ofNat t).toBitVec.toNat = t := by
      show (BitVec.ofNat 32 t).toNat = t
      rw [BitVec.toNat_ofNat]; omega
    have e2 : (16 : Int32).toBitVec.toNat = 16 := rfl
    have e3 : (0 : Int32).toBitVec.toNat = 0 := rfl
    rw [e1, e2, e3] at q2
    omega
  rcases h with h | h | h | h | h
  · exact key 1 (by omega) (by omega) h
  · exact key 2 (by omega) (by omega) h
  · exact key 3 (by omega) (by omega) h
  · exact key 4 (by omega) (by omega) h
  · exact key 5 (by omega) (by omega) h
def EQF (a b : Int32) : Prop := a = b ∧ FZ a
theorem eqf1 {x : Int32} : EQF (1 + 16 * x) (1 + 16 * x) := ⟨rfl, x, Or.inl rfl⟩
theorem eqf2 {x : Int32} : EQF (2 + 16 * x) (2 + 16 * x) := ⟨rfl, x, Or.inr (Or.inl rfl)⟩
theorem eqf3 {x : Int32} : EQF (3 + 16 * x) (3 + 16 * x) := ⟨rfl, x, Or.inr (Or.inr (Or.inl rfl))⟩
theorem eqf4 {x : Int32} : EQF (4 + 16 * x) (4 + 16 * x) := ⟨rfl, x, Or.inr (Or.inr (Or.inr (Or.inl rfl)))⟩
theorem eqf5 {x : Int32} : EQF (5 + 16 * x) (5 + 16 * x) := ⟨rfl, x, Or.inr (Or.inr (Or.inr (Or.inr rfl)))⟩
/-- both say that it is wrong, and say so alike -/
def FAIL {α β : Type} (x : Option (Int32 × Int32 × α)) (y : Option (Int32 × Int32 × Int32 × Int32 × Int64 × Int32 × Int32 × β)) (r : Int32) : Prop := ∃ o1 o2, x = some o1 ∧ y = some o2 ∧ o1.1 = r ∧ o2.1 = 0 ∧ EQF o1.2.1 o2.2.2.2.2.2.2.1
/-- the first k of a row are as they were -/
def FrN {α : Type} (k : Nat) (g g' : Nat → α) : Prop := ∀ i, i < k → g' i = g i
theorem FrN.rfl' {α : Type} {k : Nat} {g : Nat → α} : FrN k g g := fun _ _ => rfl
theorem FrN.upd {k j : Nat} {g : Nat → Int32} {x : Int32} (h : k ≤ j) : FrN k g (upd g j x) := fun i hi => pk_un (by omega)
theorem FrN.updL {k j : Nat} {g : Nat → Int64} {x : Int64} (h : k ≤ j) : FrN k g (vp_updL g j x) := fun i hi => pk_uLn (by omega)
theorem FrN.trans {α : Type} {k : Nat} {g g1 g2 : Nat → α} (h : FrN k g g1) (h' : FrN k g1 g2) : FrN k g g2 := fun i hi => (h' i hi).trans (h i hi)
/-- the same, and the rows that count are as they were -/
def FAILF {α β : Type} (Fr : β → Prop) (x : Option (Int32 × Int32 × α)) (y : Option (Int32 × Int32 × Int32 × Int32 × Int64 × Int32 × Int32 × β)) (r : Int32) : Prop := ∃ o1 o2, x = some o1 ∧ y = some o2 ∧ o1.1 = r ∧ o2.1 = 0 ∧ EQF o1.2.1 o2.2.2.2.2.2.2.1 ∧ Fr o2.2.2.2.2.2.2.2
def FAILe {α : Type} (x : Option (Int32 × Int32 × α)) (y : Option (Int32 × Int32 × Int32 × Int32 × Int64 × Int32 × Int32)) (r : Int32) : Prop := ∃ o1 o2, x = some o1 ∧ y = some o2 ∧ o1.1 = r ∧ o2.1 = 0 ∧ EQF o1.2.1 o2.2.2.2.2.2.2
section
variable {k_place k_behind k_kind k_value : Int32} {k_letters : Int64} {k_word : Option Nat} {m_place m_begin m_token : Int32} {m_word : Int64} {m_told : Int32} {k_signs m_tape : Nat → Int32} {n b e : Nat} {d_fault m_wrong m_given : Int32}
theorem adv (hn : n ≤ 1000) (hfg : ∀ i, i < n → m_tape i = k_signs i) (h : TS n k_signs k_place k_behind k_kind k_value k_letters k_word m_place m_begin m_token m_word m_told b e) : ∃ (q_place q_behind q_kind q_value : Int32) (q_letters : Int64) (q_word : Option Nat) (p_place p_begin p_token : Int32) (p_word : Int64) (p_told : Int32) (b' e' : Nat), f_X10_advance k_signs (nI n) k_behind = some (q_place, q_behind, q_kind, q_value, q_letters, q_word) ∧ f_X13_nextToken m_tape (nI n) m_place = some (p_place, p_begin, p_token, p_word, p_told) ∧ TS n k_signs q_place q_behind q_kind q_value q_letters q_word p_place p_begin p_token p_word p_told b' e' ∧ e ≤ b' := by
  obtain ⟨rfl, rfl, rfl, rfl, hT⟩ := h
  obtain ⟨b', e', kd, va, le, wo, tk, mw, to, a1, a2, a3, a4⟩ := adv_rel hn hfg hT.le.2
  exact ⟨_, _, _, _, _, _, _, _, _, _, _, b', e', a1, a2, ⟨rfl, rfl, rfl, rfl, a3⟩, a4⟩
theorem TS.lt (h : TS n k_signs k_place k_behind k_kind k_value k_letters k_word m_place m_begin m_token m_word m_told b e) (hk : ¬ k_kind = 0) : b < e := by
  obtain ⟨_, _, _, _, hT⟩ := h
  rcases hT with h | h | h | h | h
  · exact absurd h.2.2.1 hk
  · exact h.1
  · exact h.1
  · exact h.1
  · omega
theorem TS.end (h : TS n k_signs k_place k_behind k_kind k_value k_letters k_word m_place m_begin m_token m_word m_told b e) : k_kind = 0 ↔ m_token = 0 := by
  obtain ⟨_, _, _, _, hT⟩ := h
  rcases hT with h | h | h | h | h
  · rw [h.2.2.1, h.2.2.2.1]
  · rw [h.2.2.1, h.2.2.2.1]; decide
  · rw [h.2.2.1, h.2.2.2.1]; decide
  · rw [h.2.2.1, h.2.2.2.1]; decide
  · rw [h.2.2.1, h.2.2.2.1]; decide
theorem TS.sign (hn : n ≤ 1000) (hfg : ∀ i, i < n → m_tape i = k_signs i) (h : TS n k_signs k_place k_behind k_kind k_value k_letters k_word m_place m_begin m_token m_word m_told b e) (c : Int32) : f_X13_isSign m_tape m_begin m_token c = some (f_X10_isSign k_kind k_value c) := by
  obtain ⟨rfl, rfl, rfl, rfl, hT⟩ := h
  unfold f_X13_isSign f_X10_isSign
  rcases hT with h | h | h | h | h
  · rw [h.2.2.1, h.2.2.2.1]; rfl
  · rw [h.2.2.1, h.2.2.2.1]; rfl
  · rw [h.2.2.1, h.2.2.2.1]; rfl
  · rw [h.2.2.1, h.2.2.2.1]; rfl
  · rw [h.2.2.1, h.2.2.2.1, if_pos rfl, if_pos rfl, h.2.2.2.2.2, q_gd (by omega) (by omega), nI_clamp (by omega), hfg b h.2.1]
    by_cases hc : k_signs b = c
    · rw [if_pos hc, if_pos hc]
    · rw [if_neg hc, if_neg hc]
theorem TS.word (h : TS n k_signs k_place k_behind k_kind k_value k_letters k_word m_place m_begin m_token m_word m_told b e) {i : Nat} (hi : i < 32) : f_X13_isWord m_token m_word (e27 i) = bI (decide (k_word = some i)) := by
  obtain ⟨rfl, rfl, rfl, rfl, hT⟩ := h
  unfold f_X13_isWord
  rcases hT with h | h | h | h | h
  · rw [h.2.2.2.1, h.2.2.2.2]; rfl
  · rw [h.2.2.2.1, h.2.2.2.2]; rfl
  · rw [h.2.2.2.1, if_pos rfl, h.2.2.2.2.2]
    have hw := WN_eq h.2.2.2.2.1 (wn_e hi)
    have hs := spO_iff (x := k_letters) hi
    by_cases hc : m_word = e27 i
    · rw [if_pos ((lg_cmp_eq _ _).mpr hc), decide_eq_true (hs.mpr (hw.mpr hc))]; rfl
    · rw [if_neg (fun q => hc ((lg_cmp_eq _ _).mp q)), decide_eq_false (fun q => hc (hw.mp (hs.mp q)))]; rfl
  · rw [h.2.2.2.1, h.2.2.2.2.1]; rfl
  · rw [h.2.2.2.1, h.2.2.2.2.1]; rfl
theorem TS.word1 (h : TS n k_signs k_place k_behind k_kind k_value k_letters k_word m_place m_begin m_token m_word m_told b e) {i : Nat} (hi : i < 32) : f_X13_isWord m_token m_word (e27 i) = 0 ↔ ¬ k_word = some i := by
  rw [h.word hi, bI_0]; simp
theorem TS.wok (h : TS n k_signs k_place k_behind k_kind k_value k_letters k_word m_place m_begin m_token m_word m_told b e) : eok k_word = true := by
  obtain ⟨rfl, rfl, rfl, rfl, hT⟩ := h
  rcases hT with h | h | h | h | h
  · rw [h.2.2.2.2]; rfl
  · rw [h.2.2.2.2]; rfl
  · rw [h.2.2.2.2.2]
    cases hs : spO k_letters with
    | none => rfl
    | some i => exact decide_eq_true (spO_lt hs)
  · rw [h.2.2.2.2.1]; rfl
  · rw [h.2.2.2.2.1]; rfl
theorem eg_ok {α : Type} {x : Option Nat} {k : Option α} (h : eok x = true) : eg x k = k := if_pos h
theorem kept_1 : ∀ i, i < 26 → f_X13_isKeptWord 1 (e27 i) = 1 ∧ eRes i = 1 := by decide +kernel
theorem kept_0 : ∀ i, i < 32 → 26 ≤ i → f_X13_isKeptWord 1 (e27 i) = 0 ∧ eRes i = 0 := by decide +kernel
theorem TS.name (h : TS n k_signs k_place k_behind k_kind k_value k_letters k_word m_place m_begin m_token m_word m_told b e) : (f_X10_isName k_kind k_word = some 0 ∧ f_X13_isKeptWord m_token m_word = 1) ∨ (f_X10_isName k_kind k_word = some 1 ∧ f_X13_isKeptWord m_token m_word = 0 ∧ k_kind = 2 ∧ WN k_letters m_word) := by
  obtain ⟨rfl, rfl, rfl, rfl, hT⟩ := h
  rcases hT with h | h | h | h | h
  · rw [h.2.2.1, h.2.2.2.1]; exact Or.inl ⟨rfl, rfl⟩
  · rw [h.2.2.1, h.2.2.2.1]; exact Or.inl ⟨rfl, rfl⟩
  · rw [h.2.2.1, h.2.2.2.1, h.2.2.2.2.2]
    unfold f_X10_isName
    rw [if_pos rfl]
    cases hs : spO k_letters with
    | none =>
      right
      refine ⟨if_pos rfl, ?_, rfl, h.2.2.2.2.1⟩
      have ne : ∀ i, i < 32 → ¬ lg_cmp m_word (e27 i) = 0 := by
        intro i hi q
        have h1 := (WN_eq h.2.2.2.2.1 (wn_e hi)).mpr ((lg_cmp_eq _ _).mp q)
        have h2 := (spO_iff hi).mpr h1
        rw [hs] at h2; cases h2
      unfold f_X13_isKeptWord
      rw [if_pos rfl, if_neg (show ¬ lg_cmp m_word 9518 = 0 from ne 0 (by omega)), if_neg (show ¬ lg_cmp m_word 10320789 = 0 from ne 1 (by omega)), if_neg (show ¬ lg_cmp m_word 3369766 = 0 from ne 2 (by omega)), if_neg (show ¬ lg_cmp m_word 453836 = 0 from ne 3 (by omega)), if_neg (show ¬ lg_cmp m_word 51308328 = 0 from ne 4 (by omega)), if_neg (show ¬ lg_cmp m_word 4285945 = 0 from ne 5 (by omega)), if_neg (show ¬ lg_cmp m_word 58207887 = 0 from ne 6 (by omega)), if_neg (show ¬ lg_cmp m_word 381245 = 0 from ne 7 (by omega)), if_neg (show ¬ lg_cmp m_word 4085956 = 0 from ne 8 (by omega)), if_neg (show ¬ lg_cmp m_word 60125144 = 0 from ne 9 (by omega)), if_neg (show ¬ lg_cmp m_word 419 = 0 from ne 10 (by omega)), if_neg (show ¬ lg_cmp m_word 397804 = 0 from ne 11 (by omega)), if_neg (show ¬ lg_cmp m_word 12531826 = 0 from ne 12 (by omega)), if_neg (show ¬ lg_cmp m_word 5948362 = 0 from ne 13 (by omega)), if_neg (show ¬ lg_cmp m_word 276647 = 0 from ne 14 (by omega)), if_neg (show ¬ lg_cmp m_word 187455942 = 0 from ne 15 (by omega)), if_neg (show ¬ lg_cmp m_word 7214732 = 0 from ne 16 (by omega)), if_neg (show ¬ lg_cmp m_word 1689216361 = 0 from ne 17 (by omega)), if_neg (show ¬ lg_cmp m_word 8800 = 0 from ne 18 (by omega)), if_neg (show ¬ lg_cmp m_word 8740238 = 0 from ne 19 (by omega)), if_neg (show ¬ lg_cmp m_word 326286 = 0 from ne 20 (by omega)), if_neg (show ¬ lg_cmp m_word 8868856 = 0 from ne 21 (by omega)), if_neg (show ¬ lg_cmp m_word 180392 = 0 from ne 22 (by omega)), if_neg (show ¬ lg_cmp m_word 10631 = 0 from ne 23 (by omega)), if_neg (show ¬ lg_cmp m_word 1111 = 0 from ne 24 (by omega)), if_neg (show ¬ lg_cmp m_word 423 = 0 from ne 25 (by omega))]
    | some i =>
      have hi := spO_lt hs
      have hx := (spO_iff hi).mp hs
      have hm : m_word = e27 i := (WN_eq h.2.2.2.2.1 (wn_e hi)).mp hx
      rw [hm, if_neg (by simp)]
      have hen : ∀ (f : Nat → Option Int32), en (some i) f = f i := fun f => if_pos hi
      rw [hen]
      by_cases h26 : i < 26
      · left
        rw [(kept_1 i h26).2]
        exact ⟨rfl, (kept_1 i h26).1⟩
      · right
        rw [(kept_0 i hi (by omega)).2]
        refine ⟨rfl, (kept_0 i hi (by omega)).1, rfl, ?_⟩
        rw [← hm]; exact h.2.2.2.2.1
  · rw [h.2.2.1, h.2.2.2.1]; exact Or.inl ⟨rfl, rfl⟩
  · rw [h.2.2.1, h.2.2.2.1]; exact Or.inl ⟨rfl, rfl⟩
theorem TS.num (h : TS n k_signs k_place k_behind k_kind k_value k_letters k_word m_place m_begin m_token m_word m_told b e) : (¬ k_kind = 3 ∧ ¬ m_token = 2) ∨ (k_kind = 3 ∧ m_token = 2 ∧ k_value = m_told ∧ ∃ v, v ≤ 9999 ∧ m_told = nI v) := by
  obtain ⟨rfl, rfl, rfl, rfl, hT⟩ := h
  rcases hT with h | h | h | h | h
  · rw [h.2.2.1, h.2.2.2.1]; exact Or.inl ⟨by decide, by decide⟩
  · rw [h.2.2.1, h.2.2.2.1]; exact Or.inl ⟨by decide, by decide⟩
  · rw [h.2.2.1, h.2.2.2.1]; exact Or.inl ⟨by decide, by decide⟩
  · exact Or.inr ⟨h.2.2.1, h.2.2.2.1, h.2.2.2.2.2⟩
  · rw [h.2.2.1, h.2.2.2.1]; exact Or.inl ⟨by decide, by decide⟩
theorem TS.kind1 (h : TS n k_signs k_place k_behind k_kind k_value k_letters k_word m_place m_begin m_token m_word m_told b e) {i : Nat} (hw : k_word = some i) : k_kind = 2 := by
  obtain ⟨rfl, rfl, rfl, rfl, hT⟩ := h
  rcases hT with h | h | h | h | h
  · rw [h.2.2.2.2] at hw; cases hw
  · rw [h.2.2.2.2] at hw; cases hw
  · exact h.2.2.1
  · rw [h.2.2.2.2.1] at hw; cases hw
  · rw [h.2.2.2.2.1] at hw; cases hw
theorem ends_rel (hn : n ≤ 1000) (hfg : ∀ i, i < n → m_tape i = k_signs i) (h : TS n k_signs k_place k_behind k_kind k_value k_letters k_word m_place m_begin m_token m_word m_told b e) : FAILe (f_X6_lineEnds d_fault k_signs (nI n) k_place k_behind k_kind k_value k_letters k_word) (f_X13_closes m_tape (nI n) m_place m_begin m_token m_word m_told m_wrong) 0 ∨ ∃ (q_place q_behind q_kind q_value : Int32) (q_letters : Int64) (q_word : Option Nat) (p_place p_begin p_token : Int32) (p_word : Int64) (p_told : Int32) (b' e' : Nat), (f_X6_lineEnds d_fault k_signs (nI n) k_place k_behind k_kind k_value k_letters k_word) = some (1, d_fault, q_place, q_behind, q_kind, q_value, q_letters, q_word) ∧ (f_X13_closes m_tape (nI n) m_place m_begin m_token m_word m_told m_wrong) = some (1, p_place, p_begin, p_token, p_word, p_told, m_wrong) ∧ TS n k_signs q_place q_behind q_kind q_value q_letters q_word p_place p_begin p_token p_word p_told b' e' ∧ e ≤ b' := by
  unfold f_X6_lineEnds f_X13_closes
  rw [h.sign hn hfg, o_bs]
  obtain ⟨q_place, q_behind, q_kind, q_value, q_letters, q_word, p_place, p_begin, p_token, p_word, p_told, b', e', a1, a2, a3, a4⟩ := adv hn hfg h
  by_cases hs : f_X10_isSign k_kind k_value 59 = 0
  · left
    rw [if_pos hs, if_pos hs]
    unfold f_X6_wrong f_X13_fails
    rw [q_zg0, q_zg0, h.1, h.2.2.2.1]
    exact ⟨_, _, rfl, rfl, rfl, rfl, by first | exact eqf1 | exact eqf2 | exact eqf3 | exact eqf4 | exact eqf5 | exact ⟨rfl, by assumption⟩⟩
  · right
    rw [if_neg hs, if_neg hs, a1, a2, o_bs, o_bs]
    exact ⟨q_place, q_behind, q_kind, q_value, q_letters, q_word, p_place, p_begin, p_token, p_word, p_told, b', e', rfl, rfl, a3, a4⟩
theorem lab_rel (hn : n ≤ 1000) (hfg : ∀ i, i < n → m_tape i = k_signs i) (h : TS n k_signs k_place k_behind k_kind k_value k_letters k_word m_place m_begin m_token m_word m_told b e) {i : Nat} (hi : i < 32) {lo hl : Nat} (hll : hl ≤ 9999) (hlo : lo ≤ 9999) : FAIL (f_X6_labelled d_fault k_signs (nI n) k_place k_behind k_kind k_value k_letters k_word (some i) (nI lo) (nI hl)) (f_X13_needsBoth m_tape (nI n) m_place m_begin m_token m_word m_told m_wrong m_given (e27 i) (nI lo) (nI hl)) (-1) ∨ ∃ (v : Nat) (q_place q_behind q_kind q_value : Int32) (q_letters : Int64) (q_word : Option Nat) (p_place p_begin p_token : Int32) (p_word : Int64) (p_told : Int32) (b' e' : Nat), (f_X6_labelled d_fault k_signs (nI n) k_place k_behind k_kind k_value k_letters k_word (some i) (nI lo) (nI hl)) = some (nI v, d_fault, q_place, q_behind, q_kind, q_value, q_letters, q_word) ∧ (f_X13_needsBoth m_tape (nI n) m_place m_begin m_token m_word m_told m_wrong m_given (e27 i) (nI lo) (nI hl)) = some (1, p_place, p_begin, p_token, p_word, p_told, m_wrong, nI v) ∧ TS n k_signs q_place q_behind q_kind q_value q_letters q_word p_place p_begin p_token p_word p_told b' e' ∧ e ≤ b' ∧ (lo ≤ v ∧ v ≤ hl) := by
  unfold f_X6_labelled f_X13_needsBoth f_X13_needsNumber f_X6_wrong f_X13_fails
  rw [eg_ok h.wok, eg_ok (show eok (some i) = true from decide_eq_true hi)]
  obtain ⟨q_place, q_behind, q_kind, q_value, q_letters, q_word, p_place, p_begin, p_token, p_word, p_told, b', e', a1, a2, a3, a4⟩ := adv hn hfg h
  by_cases hw : k_word = some i
  · rw [if_pos hw, if_neg (fun z => (h.word1 hi).mp z hw), a1, a2, o_bs, o_bs]
    simp only []
    rcases a3.num with ⟨g1, g2⟩ | ⟨g1, g2, g3, v, g4, g5⟩
    · left
      rw [if_neg g1, if_neg g2, q_zg0, o_bs, q_zg0, a3.1, a3.2.2.2.1]
      exact ⟨_, _, rfl, rfl, rfl, rfl, by first | exact eqf1 | exact eqf2 | exact eqf3 | exact eqf4 | exact eqf5 | exact ⟨rfl, by assumption⟩⟩
    · rw [if_pos g1, if_pos g2, wth_eq, g3, g5]
      rcases wth_cases (nI v) (nI lo) (nI hl) with ⟨ew, _⟩ | ⟨ew, w1, w2⟩
      · left
        rw [ew, if_pos e00, if_pos e00, q_zg0, o_bs, q_zg0, a3.1, a3.2.2.2.1]
        exact ⟨_, _, rfl, rfl, rfl, rfl, by first | exact eqf1 | exact eqf2 | exact eqf3 | exact eqf4 | exact eqf5 | exact ⟨rfl, by assumption⟩⟩
      · right
        obtain ⟨u_place, u_behind, u_kind, u_value, u_letters, u_word, w_place, w_begin, w_token, w_word, w_told, b2, e2, c1, c2, c3, c4⟩ := adv hn hfg a3
        rw [ew, if_neg n10, if_neg n10, c1, c2, o_bs, o_bs]
        simp only [o_bs, q_zg1]
        have hlo : lo ≤ v := by rw [nI_ltI (by omega) (by omega)] at w1; omega
        have hhi : v ≤ hl := by rw [nI_ltI (by omega) (by omega)] at w2; omega
        exact ⟨v, u_place, u_behind, u_kind, u_value, u_letters, u_word, w_place, w_begin, w_token, w_word, w_told, b2, e2, rfl, rfl, c3, by have := a3.2.2.2.2.le; omega, hlo, hhi⟩
  · left
    rw [if_neg hw, if_pos ((h.word1 hi).mpr hw), q_zg0, h.1, h.2.2.2.1]
    exact ⟨_, _, rfl, rfl, rfl, rfl, by first | exact eqf1 | exact eqf2 | exact eqf3 | exact eqf4 | exact eqf5 | exact ⟨rfl, by assumption⟩⟩
end
