/-! words, as numbers of two bases -/
/-- a word's number; its letters from the last one on -/
def eR (B : Nat) : List Nat → Nat
  | [] => 0
  | d :: ds => eR B ds * B + d
def okW (ds : List Nat) : Prop := (1 ≤ ds.length ∧ ds.length ≤ 8) ∧ ∀ d ∈ ds, 1 ≤ d ∧ d ≤ 26
theorem eR_inj {B : Nat} (hB : 27 ≤ B) : ∀ (a b : List Nat), (∀ d ∈ a, 1 ≤ d ∧ d ≤ 26) → (∀ d ∈ b, 1 ≤ d ∧ d ≤ 26) → eR B a = eR B b → a = b := by
  intro a
  induction a with
  | nil =>
    intro b _ hb h
    cases b with
    | nil => rfl
    | cons d ds =>
      have := hb d List.mem_cons_self
      have h : 0 = eR B ds * B + d := h
      omega
  | cons c cs ih =>
    intro b ha hb h
    cases b with
    | nil =>
      have := ha c List.mem_cons_self
      have h : eR B cs * B + c = 0 := h
      omega
    | cons d ds =>
      have h1 := ha c List.mem_cons_self
      have h2 := hb d List.mem_cons_self
      have h : eR B cs * B + c = eR B ds * B + d := h
      have e1 : (eR B cs * B + c) % B = c := by rw [Nat.mul_comm, Nat.mul_add_mod, Nat.mod_eq_of_lt (by omega)]
      have e2 : (eR B ds * B + d) % B = d := by rw [Nat.mul_comm, Nat.mul_add_mod, Nat.mod_eq_of_lt (by omega)]
      have hcd : c = d := by rw [← e1, ← e2, h]
      subst hcd
      have hq : eR B cs = eR B ds := by
        have : eR B cs * B = eR B ds * B := by omega
        exact Nat.eq_of_mul_eq_mul_right (by omega) this
      rw [ih ds (fun x hx => ha x (List.mem_cons_of_mem _ hx)) (fun x hx => hb x (List.mem_cons_of_mem _ hx)) hq]
theorem eR_lt {B : Nat} (hB : 27 ≤ B) : ∀ (a : List Nat), (∀ d ∈ a, 1 ≤ d ∧ d ≤ 26) → eR B a < B ^ a.length := by
  intro a
  induction a with
  | nil => intro _; exact Nat.one_pos
  | cons c cs ih =>
    intro ha
    have h1 := ha c List.mem_cons_self
    have h2 := ih (fun x hx => ha x (List.mem_cons_of_mem _ hx))
    show eR B cs * B + c < B ^ (cs.length + 1)
    rw [Nat.pow_succ]
    have h3 := Nat.mul_le_mul_right B (show eR B cs + 1 ≤ B ^ cs.length from h2)
    rw [Nat.add_mul, Nat.one_mul] at h3
    omega
theorem eR_lt63 {B : Nat} (hB : 27 ≤ B) (hB2 : B ≤ 32) {a : List Nat} (h : okW a) : eR B a < 2 ^ 63 := by
  have h1 := eR_lt hB a h.2
  have h2 : B ^ a.length ≤ 32 ^ 8 := Nat.le_trans (Nat.pow_le_pow_left hB2 _) (Nat.pow_le_pow_right (by decide) h.1.2)
  have h3 : (32 : Nat) ^ 8 < 2 ^ 63 := by decide
  omega
/-- one word in both -/
def WN (x y : Int64) : Prop := ∃ ds, okW ds ∧ x = lN (eR 32 ds) ∧ y = lN (eR 27 ds)
theorem WN_eq {x y x' y' : Int64} (h : WN x y) (h' : WN x' y') : x = x' ↔ y = y' := by
  obtain ⟨a, ha, rfl, rfl⟩ := h
  obtain ⟨b, hb, rfl, rfl⟩ := h'
  constructor
  · intro h
    rw [pk_lEQ (eR_lt63 (by omega) (by omega) ha) (eR_lt63 (by omega) (by omega) hb)] at h
    rw [eR_inj (by omega) a b ha.2 hb.2 h]
  · intro h
    rw [pk_lEQ (eR_lt63 (by omega) (by omega) ha) (eR_lt63 (by omega) (by omega) hb)] at h
    rw [eR_inj (by omega) a b ha.2 hb.2 h]
/-- the words of the language: letters from the last one on -/
def wLs : List (List Nat) := [[14, 1, 13], [12, 12, 9, 11, 19], [4, 12, 5, 9, 6], [20, 14, 1, 23], [12, 21, 19, 14, 15, 3], [19, 5, 20, 1, 8], [18, 5, 7, 14, 1, 4], [5, 26, 9, 19], [19, 23, 15, 18, 7], [5, 5, 18, 3, 5, 4], [14, 15], [13, 18, 5, 20], [19, 11, 18, 15, 23], [19, 16, 5, 5, 11], [5, 13, 1, 14], [18, 5, 20, 19, 1, 13], [8, 20, 14, 15, 13], [25, 5, 2, 15, 19, 9, 4], [25, 1, 12], [14, 9, 1, 12, 16], [18, 15, 15, 16], [4, 21, 15, 18, 16], [5, 12, 4, 9], [20, 15, 14], [4, 14, 1], [18, 15], [5, 12, 2, 1], [4, 5, 5, 18, 7], [5, 7, 18, 1, 12], [4, 5, 19, 19, 1, 16], [4, 5, 11, 9, 12], [20, 6, 5, 12]]
def e27L : List Int64 := [9518, 10320789, 3369766, 453836, 51308328, 4285945, 58207887, 381245, 4085956, 60125144, 419, 397804, 12531826, 5948362, 276647, 187455942, 7214732, 1689216361, 8800, 8740238, 326286, 8868856, 180392, 10631, 1111, 423, 21470, 4078165, 6410291, 230501920, 6562597, 240023]
def e27 (i : Nat) : Int64 := e27L.getD i 0
theorem wLs_ok : ∀ i, i < 32 → ((1 ≤ (wLs.getD i []).length ∧ (wLs.getD i []).length ≤ 8) ∧ ∀ d ∈ wLs.getD i [], 1 ≤ d ∧ d ≤ 26) ∧ eLet i = lN (eR 32 (wLs.getD i [])) ∧ e27 i = lN (eR 27 (wLs.getD i [])) := by decide +kernel
theorem wn_e {i : Nat} (hi : i < 32) : WN (eLet i) (e27 i) := ⟨wLs.getD i [], (wLs_ok i hi).1, (wLs_ok i hi).2.1, (wLs_ok i hi).2.2⟩
theorem eLet_inj : ∀ i, i < 32 → ∀ j, j < 32 → eLet i = eLet j → i = j := by decide +kernel
/-- the first word from k on that is so spelt -/
def spF (x : Int64) : Nat → Nat → Option Nat
  | 0, _ => none
  | f + 1, k => if eLet k = x then some k else spF x f (k + 1)
def spO (x : Int64) : Option Nat := spF x 32 0
theorem spF_some {x : Int64} : ∀ f k i, spF x f k = some i → k ≤ i ∧ i < k + f ∧ eLet i = x := by
  intro f
  induction f with
  | zero => intro k i h; cases h
  | succ f ih =>
    intro k i h
    have h : (if eLet k = x then some k else spF x f (k + 1)) = some i := h
    by_cases e : eLet k = x
    · rw [if_pos e] at h
      obtain rfl := Option.some.inj h
      exact ⟨Nat.le_refl _, by omega, e⟩
    · rw [if_neg e] at h
      obtain ⟨h1, h2, h3⟩ := ih (k + 1) i h
      exact ⟨by omega, by omega, h3⟩
theorem spF_none {x : Int64} : ∀ f k, spF x f k = none → ∀ i, k ≤ i → i < k + f → ¬ eLet i = x := by
  intro f
  induction f with
  | zero => intro k _ i h1 h2; omega
  | succ f ih =>
    intro k h i h1 h2
    have h : (if eLet k = x then some k else spF x f (k + 1)) = none := h
    by_cases e : eLet k = x
    · rw [if_pos e] at h; cases h
    · rw [if_neg e] at h
      by_cases e2 : i = k
      · subst e2; exact e
      · exact ih (k + 1) h i (by omega) (by omega)
theorem spO_iff {x : Int64} {i : Nat} (hi : i < 32) : spO x = some i ↔ x = eLet i := by
  constructor
  · intro h
    exact (spF_some 32 0 i h).2.2.symm
  · intro h
    cases hs : spO x with
    | none => exact absurd h.symm (spF_none 32 0 hs i (by omega) (by omega))
    | some j =>
      obtain ⟨_, h2, h3⟩ := spF_some 32 0 j hs
      rw [eLet_inj i hi j (by omega) (by rw [h3, h])]
theorem spO_lt {x : Int64} {i : Nat} (h : spO x = some i) : i < 32 := by
  have := (spF_some 32 0 i h).2.1; omega
theorem spelt_eq (x : Int64) : f_X11_spelt x = some (spO x) := by
  have key : ∀ (fu k : Nat), k ≤ 32 → 32 < fu + k → f_X11_spelt_2 fu x (nI k) = some (spF x (32 - k) k) := by
    intro fu
    induction fu with
    | zero => intro k h1 h2; omega
    | succ fu ih =>
      intro k h1 h2
      rw [f_X11_spelt_2.eq_2]
      by_cases h : k < 32
      · rw [if_neg (by rw [show (32 : Int32) = nI 32 from rfl, nI_leI (by omega) (by omega)]; omega), q_gd h (by omega), q_gd h (by omega), nI_clamp (by omega), show 32 - k = (32 - (k + 1)) + 1 by omega, nI_1]
        show (if k < 32 then (if lg_cmp (eLet k) x = 0 then some (some k) else f_X11_spelt_2 fu x (nI (k + 1))) else none) = some (if eLet k = x then some k else spF x (32 - (k + 1)) (k + 1))
        rw [if_pos h, ih (k + 1) (by omega) (by omega)]
        by_cases e : eLet k = x
        · rw [if_pos ((lg_cmp_eq _ _).mpr e), if_pos e]
        · rw [if_neg (fun q => e ((lg_cmp_eq _ _).mp q)), if_neg e]
      · rw [if_pos (by rw [show (32 : Int32) = nI 32 from rfl, nI_leI (by omega) (by omega)]; omega), show 32 - k = 0 by omega]
        rfl
  exact key 1100 0 (by omega) (by omega)
