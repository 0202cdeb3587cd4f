/-! numbers by their names, guards that hold, rows -/
theorem q_gd {α : Type} {k n : Nat} {x : Option α} (h : k < n) (hn : n < 2147483648) : gd (nI k) n x = x := gd_ok (vp_in_nI h hn)
theorem q_ga {n k : Nat} {f : Nat → Int32} (h : k < n) (hn : n < 2147483648) : ga n f (nI k) = f k := by
  have hk : k < 2 ^ 31 := by omega
  unfold ga
  rw [if_neg (by rw [nI_clamp hk]; have := nI_pos hk; simp only [this, false_or]; omega), nI_clamp hk]
theorem q_gp {n k : Nat} {f : Nat → Int32} {v : Int32} (h : k < n) (hn : n < 2147483648) : gp n f (nI k) v = upd f k v := by
  have hk : k < 2 ^ 31 := by omega
  unfold gp
  rw [if_neg (by rw [nI_clamp hk]; have := nI_pos hk; simp only [this, false_or]; omega), nI_clamp hk]
theorem q_zg0 {α : Type} {x : Option α} : zg 0 x = x := if_pos (Or.inl (by decide))
theorem q_zg1 {α : Type} {x : Option α} : zg 1 x = x := if_pos (Or.inr (by decide))
theorem q_zg {α : Type} {v : Int32} {x : Option α} (h : v = 0 ∨ v = 1) : zg v x = x := if_pos h
theorem gl_0_4 {α : Type} {x : Option α} : gd (0 : Int32) 4 x = x := gd_ok (show ¬ (_ ∨ _) from by decide)
theorem gl_1_4 {α : Type} {x : Option α} : gd (1 : Int32) 4 x = x := gd_ok (show ¬ (_ ∨ _) from by decide)
theorem gl_0_5 {α : Type} {x : Option α} : gd (0 : Int32) 5 x = x := gd_ok (show ¬ (_ ∨ _) from by decide)
theorem gl_0_6 {α : Type} {x : Option α} : gd (0 : Int32) 6 x = x := gd_ok (show ¬ (_ ∨ _) from by decide)
theorem gl_5_6 {α : Type} {x : Option α} : gd (5 : Int32) 6 x = x := gd_ok (show ¬ (_ ∨ _) from by decide)
theorem gl_0_7 {α : Type} {x : Option α} : gd (0 : Int32) 7 x = x := gd_ok (show ¬ (_ ∨ _) from by decide)
theorem gl_0_100 {α : Type} {x : Option α} : gd (0 : Int32) 100 x = x := gd_ok (show ¬ (_ ∨ _) from by decide)
theorem gl_0_10 {α : Type} {x : Option α} : gd (0 : Int32) 10 x = x := gd_ok (show ¬ (_ ∨ _) from by decide)
theorem gl_1_10 {α : Type} {x : Option α} : gd (1 : Int32) 10 x = x := gd_ok (show ¬ (_ ∨ _) from by decide)
theorem gl_2_10 {α : Type} {x : Option α} : gd (2 : Int32) 10 x = x := gd_ok (show ¬ (_ ∨ _) from by decide)
theorem gl_3_10 {α : Type} {x : Option α} : gd (3 : Int32) 10 x = x := gd_ok (show ¬ (_ ∨ _) from by decide)
theorem gl_4_10 {α : Type} {x : Option α} : gd (4 : Int32) 10 x = x := gd_ok (show ¬ (_ ∨ _) from by decide)
theorem gl_5_10 {α : Type} {x : Option α} : gd (5 : Int32) 10 x = x := gd_ok (show ¬ (_ ∨ _) from by decide)
theorem gl_6_10 {α : Type} {x : Option α} : gd (6 : Int32) 10 x = x := gd_ok (show ¬ (_ ∨ _) from by decide)
theorem gl_7_10 {α : Type} {x : Option α} : gd (7 : Int32) 10 x = x := gd_ok (show ¬ (_ ∨ _) from by decide)
theorem gl_8_10 {α : Type} {x : Option α} : gd (8 : Int32) 10 x = x := gd_ok (show ¬ (_ ∨ _) from by decide)
theorem gl_9_10 {α : Type} {x : Option α} : gd (9 : Int32) 10 x = x := gd_ok (show ¬ (_ ∨ _) from by decide)
theorem gl_1_20 {α : Type} {x : Option α} : gd (1 : Int32) 20 x = x := gd_ok (show ¬ (_ ∨ _) from by decide)
theorem gl_2_20 {α : Type} {x : Option α} : gd (2 : Int32) 20 x = x := gd_ok (show ¬ (_ ∨ _) from by decide)
theorem gl_3_20 {α : Type} {x : Option α} : gd (3 : Int32) 20 x = x := gd_ok (show ¬ (_ ∨ _) from by decide)
theorem gl_4_20 {α : Type} {x : Option α} : gd (4 : Int32) 20 x = x := gd_ok (show ¬ (_ ∨ _) from by decide)
theorem gl_5_20 {α : Type} {x : Option α} : gd (5 : Int32) 20 x = x := gd_ok (show ¬ (_ ∨ _) from by decide)
theorem gl_6_20 {α : Type} {x : Option α} : gd (6 : Int32) 20 x = x := gd_ok (show ¬ (_ ∨ _) from by decide)
theorem gl_0_23 {α : Type} {x : Option α} : gd (0 : Int32) 23 x = x := gd_ok (show ¬ (_ ∨ _) from by decide)
theorem gl_1_23 {α : Type} {x : Option α} : gd (1 : Int32) 23 x = x := gd_ok (show ¬ (_ ∨ _) from by decide)
theorem gl_2_23 {α : Type} {x : Option α} : gd (2 : Int32) 23 x = x := gd_ok (show ¬ (_ ∨ _) from by decide)
theorem gl_3_23 {α : Type} {x : Option α} : gd (3 : Int32) 23 x = x := gd_ok (show ¬ (_ ∨ _) from by decide)
theorem gl_4_23 {α : Type} {x : Option α} : gd (4 : Int32) 23 x = x := gd_ok (show ¬ (_ ∨ _) from by decide)
theorem gl_5_23 {α : Type} {x : Option α} : gd (5 : Int32) 23 x = x := gd_ok (show ¬ (_ ∨ _) from by decide)
theorem cl_0 : (0 : Int32).toNatClampNeg = 0 := by decide
theorem cl_1 : (1 : Int32).toNatClampNeg = 1 := by decide
theorem cl_2 : (2 : Int32).toNatClampNeg = 2 := by decide
theorem cl_3 : (3 : Int32).toNatClampNeg = 3 := by decide
theorem cl_4 : (4 : Int32).toNatClampNeg = 4 := by decide
theorem cl_5 : (5 : Int32).toNatClampNeg = 5 := by decide
theorem cl_6 : (6 : Int32).toNatClampNeg = 6 := by decide
theorem cl_7 : (7 : Int32).toNatClampNeg = 7 := by decide
theorem cl_8 : (8 : Int32).toNatClampNeg = 8 := by decide
theorem cl_9 : (9 : Int32).toNatClampNeg = 9 := by decide
theorem qa_1 (k : Nat) : (1 : Int32) + nI k = nI (1 + k) := nI_add 1 k
theorem qa_2 (k : Nat) : (2 : Int32) + nI k = nI (2 + k) := nI_add 2 k
theorem qa_5 (k : Nat) : (5 : Int32) + nI k = nI (5 + k) := nI_add 5 k
theorem qa_6 (k : Nat) : (6 : Int32) + nI k = nI (6 + k) := nI_add 6 k
theorem qa_11 (k : Nat) : (11 : Int32) + nI k = nI (11 + k) := nI_add 11 k
theorem qa_17 (k : Nat) : (17 : Int32) + nI k = nI (17 + k) := nI_add 17 k
theorem qa_200 (k : Nat) : (200 : Int32) + nI k = nI (200 + k) := nI_add 200 k
theorem qm_5 (k : Nat) : (5 : Int32) * nI k = nI (5 * k) := pk_mul 5 k
theorem qm_6 (k : Nat) : (6 : Int32) * nI k = nI (6 * k) := pk_mul 6 k
theorem qm_8 (k : Nat) : (8 : Int32) * nI k = nI (8 * k) := pk_mul 8 k
theorem qm_23 (k : Nat) : (23 : Int32) * nI k = nI (23 * k) := pk_mul 23 k
theorem qm_40 (k : Nat) : (40 : Int32) * nI k = nI (40 * k) := pk_mul 40 k
theorem upd_at (f : Nat → Int32) (k : Nat) (x : Int32) (j : Nat) : upd f k x j = if j = k then x else f j := rfl
theorem updL_at (f : Nat → Int64) (k : Nat) (x : Int64) (j : Nat) : vp_updL f k x j = if j = k then x else f j := rfl
theorem up_at {α : Type} (f : Nat → α) (k : Nat) (x : α) (j : Nat) : va_up f k x j = if j = k then x else f j := rfl
theorem i_lt (a b : Int32) : a < b ↔ a.toInt < b.toInt := Int32.lt_iff_toInt_lt
theorem i_le (a b : Int32) : a ≤ b ↔ a.toInt ≤ b.toInt := Int32.le_iff_toInt_le
theorem i_eq (a b : Int32) : a = b ↔ a.toInt = b.toInt := Int32.toInt_inj.symm
theorem i_rng (a : Int32) : -2147483648 ≤ a.toInt ∧ a.toInt ≤ 2147483647 := ⟨Int32.le_toInt a, by have := Int32.toInt_lt a; omega⟩
theorem i_add {a b : Int32} (h : -2147483648 ≤ a.toInt + b.toInt ∧ a.toInt + b.toInt ≤ 2147483647) : (a + b).toInt = a.toInt + b.toInt := by
  rw [Int32.toInt_add]; exact Int.bmod_eq_of_le (by omega) (by omega)
theorem i_sub {a b : Int32} (h : -2147483648 ≤ a.toInt - b.toInt ∧ a.toInt - b.toInt ≤ 2147483647) : (a - b).toInt = a.toInt - b.toInt := by
  rw [Int32.toInt_sub]; exact Int.bmod_eq_of_le (by omega) (by omega)
theorem i_mul {a b : Int32} (h : -2147483648 ≤ a.toInt * b.toInt ∧ a.toInt * b.toInt ≤ 2147483647) : (a * b).toInt = a.toInt * b.toInt := by
  rw [Int32.toInt_mul]; exact Int.bmod_eq_of_le (by omega) (by omega)
theorem nI_m1 : ∀ k : Nat, k < 2 ^ 31 → ¬ nI k = -1 := by
  intro k hk h
  have h1 := congrArg Int32.toInt h
  rw [nI_toInt hk] at h1
  have : ((-1 : Int32)).toInt = -1 := rfl
  omega
theorem m1_nI {k : Nat} (hk : k < 2 ^ 31) : ¬ (-1 : Int32) = nI k := fun h => nI_m1 k hk h.symm
/-- the row with the first n of another -/
def cpr (n : Nat) (f g : Nat → Int32) : Nat → Int32 := fun i => if i < n then f i else g i
theorem cpr_lt {n : Nat} {f g : Nat → Int32} {i : Nat} (h : i < n) : cpr n f g i = f i := if_pos h
theorem copyRow_eq {n : Nat} {f g : Nat → Int32} (hn : n ≤ 1000) : f_X12_copyRow n f n g = some (cpr n f g) := by
  unfold f_X12_copyRow
  have key : ∀ (fu k : Nat) (g' : Nat → Int32), k ≤ n → n - k < fu → f_X12_copyRow_2 fu n f n g' (nI k) = some (fun i => if k ≤ i ∧ i < n then f i else g' i) := by
    intro fu
    induction fu with
    | zero => intro k g' h1 h2; omega
    | succ fu ih =>
      intro k g' h1 h2
      rw [f_X12_copyRow_2.eq_2]
      by_cases h : k < n
      · simp (disch := omega) only [nI_leI, if_neg, q_gd, nI_clamp, nI_1]
        rw [ih (k + 1) _ (by omega) (by omega)]
        congr 1; funext i
        simp only [upd_at]
        by_cases hi : i = k
        · subst hi; rw [if_neg (by omega), if_pos rfl, if_pos ⟨Nat.le_refl _, h⟩]
        · by_cases h3 : k ≤ i ∧ i < n
          · rw [if_pos h3, if_pos (by omega)]
          · rw [if_neg h3, if_neg (by omega), if_neg hi]
      · simp (disch := omega) only [nI_leI, if_pos]
        congr 1; funext i
        rw [if_neg (by omega)]
  rw [show (0 : Int32) = nI 0 from rfl, key 1100 0 g (Nat.zero_le _) (by omega)]
  congr 1; funext i
  simp only [cpr, Nat.zero_le, true_and]
/-- the sum of the first n of a row -/
def sm (f : Nat → Int32) : Nat → Int32
  | 0 => 0
  | k + 1 => sm f k + f k
theorem sum_eq {n m : Nat} {f : Nat → Int32} (hn : n ≤ 1000) (hm : m ≤ n) : f_X12_sum n f (nI m) = some (sm f m) := by
  unfold f_X12_sum
  have key : ∀ (fu k : Nat), k ≤ m → m - k < fu → f_X12_sum_4 fu n f (nI m) (sm f k) (nI k) = some (sm f m) := by
    intro fu
    induction fu with
    | zero => intro k h1 h2; omega
    | succ fu ih =>
      intro k h1 h2
      rw [f_X12_sum_4.eq_2]
      by_cases h : k < m
      · simp (disch := omega) only [nI_leI, if_neg, q_gd, nI_clamp, nI_1]
        exact ih (k + 1) (by omega) (by omega)
      · simp (disch := omega) only [nI_leI, if_pos]
        rw [show k = m by omega]
  exact key 1100 0 (Nat.zero_le _) (by omega)
theorem sm_congr {f g : Nat → Int32} : ∀ {n : Nat}, (∀ i, i < n → f i = g i) → sm f n = sm g n := by
  intro n
  induction n with
  | zero => intro _; rfl
  | succ n ih => intro h; show sm f n + f n = sm g n + g n; rw [ih (fun i hi => h i (by omega)), h n (by omega)]
theorem sm_zero {f : Nat → Int32} {n : Nat} : ∀ m, n ≤ m → (∀ i, n ≤ i → i < m → f i = 0) → sm f m = sm f n := by
  intro m
  induction m with
  | zero => intro h _; rw [show n = 0 by omega]
  | succ m ih =>
    intro h hz
    by_cases he : n = m + 1
    · rw [he]
    · show sm f m + f m = _
      rw [ih (by omega) (fun i h1 h2 => hz i h1 (by omega)), hz m (by omega) (by omega)]
      exact Int32.add_zero _
/-! bits -/
theorem and1 (x : Int32) : x &&& 1 = 0 ∨ x &&& 1 = 1 := by
  obtain ⟨j, hj, e⟩ := pk_andE x (m := 1) 1 rfl
  rcases (show j = 0 ∨ j = 1 by omega) with rfl | rfl
  · exact Or.inl e
  · exact Or.inr e
theorem and1_0 (x : Int32) : x &&& 1 = 0 ↔ ¬ x &&& 1 = 1 := by
  rcases and1 x with h | h
  · rw [h]; decide
  · rw [h]; decide
theorem sh_k : ∀ n, n < 32 → ((nI n &&& 31).toBitVec.smod 32).toNat = n := by decide +kernel
theorem shl1 {k : Nat} (hk : k < 31) : (1 : Int32) <<< (nI k &&& 31) = nI (2 ^ k) := by
  have h2 : (2 : Nat) ^ k < 2 ^ 31 := Nat.pow_lt_pow_right (by decide) hk
  have := pk_shlN (n := 1) (nI k &&& 31) k (sh_k k (by omega)) (by omega)
  rw [Nat.one_mul] at this
  exact this
theorem nI_or (a b : Nat) : nI a ||| nI b = nI (a ||| b) := by
  apply Int32.toBitVec_inj.1
  show BitVec.ofNat 32 a ||| BitVec.ofNat 32 b = BitVec.ofNat 32 (a ||| b)
  apply BitVec.eq_of_getLsbD_eq
  intro i hi
  simp [hi]
theorem shr1 {a k : Nat} (ha : a < 2 ^ 31) (hk : k < 32) : (nI a >>> (nI k &&& 31)) &&& 1 = nI (a / 2 ^ k % 2) := by
  rw [pk_shrN ha (nI k &&& 31) k (sh_k k hk)]
  have h1 : a / 2 ^ k < 2 ^ 32 := Nat.lt_of_le_of_lt (Nat.div_le_self _ _) (by omega)
  exact pk_andN h1 (m := 1) 1 rfl
theorem bit1 {a k : Nat} (ha : a < 2 ^ 31) (hk : k < 32) : (nI a >>> (nI k &&& 31)) &&& 1 = 1 ↔ a.testBit k = true := by
  rw [shr1 ha hk, Nat.testBit_eq_decide_div_mod_eq, decide_eq_true_iff]
  exact nI_eq (b := 1) (by omega) (by omega)
theorem bit0 {a k : Nat} (ha : a < 2 ^ 31) (hk : k < 32) : (nI a >>> (nI k &&& 31)) &&& 1 = 0 ↔ a.testBit k = false := by
  rw [and1_0, bit1 ha hk]; cases a.testBit k <;> simp
/-- the set of those below n of which it is so -/
def bs (P : Nat → Bool) : Nat → Nat
  | 0 => 0
  | k + 1 => bs P k ||| (if P k then 2 ^ k else 0)
theorem bs_bit (P : Nat → Bool) (i : Nat) : ∀ n, (bs P n).testBit i = (decide (i < n) && P i) := by
  intro n
  induction n with
  | zero => simp [bs]
  | succ n ih =>
    show (bs P n ||| (if P n then 2 ^ n else 0)).testBit i = _
    rw [Nat.testBit_or, ih]
    by_cases hi : i = n
    · subst hi; cases hp : P i <;> simp
    · have : (if P n = true then 2 ^ n else 0).testBit i = false := by
        cases P n
        · simp
        · simp [Nat.testBit_two_pow, Ne.symm hi]
      rw [this, Bool.or_false]
      rw [show decide (i < n + 1) = decide (i < n) from decide_eq_decide.mpr (by omega)]
theorem bs_lt (P : Nat → Bool) : ∀ n, bs P n < 2 ^ n := by
  intro n
  induction n with
  | zero => show (0 : Nat) < 2 ^ 0; decide
  | succ n ih =>
    show (bs P n ||| (if P n then 2 ^ n else 0)) < 2 ^ (n + 1)
    refine Nat.or_lt_two_pow ?_ ?_
    · exact Nat.lt_of_lt_of_le ih (Nat.pow_le_pow_right (by decide) (by omega))
    · cases P n
      · exact Nat.two_pow_pos _
      · exact Nat.pow_lt_pow_right (by decide) (by omega)
theorem if_iff {α : Type} {p q : Prop} [Decidable p] [Decidable q] {a b : α} (h : p ↔ q) : (if p then a else b) = if q then a else b := by
  by_cases hp : p
  · rw [if_pos hp, if_pos (h.mp hp)]
  · rw [if_neg hp, if_neg (fun x => hp (h.mpr x))]
theorem n01 : ¬ (0 : Int32) = 1 := by decide
theorem n10 : ¬ (1 : Int32) = 0 := by decide
theorem m10 : ¬ (-1 : Int32) = 0 := by decide
theorem or_0 (a : Nat) : nI a ||| 0 = nI a := by rw [show (0 : Int32) = nI 0 from rfl, nI_or, Nat.or_zero]
theorem o_bs {α β : Type} (a : α) (f : α → Option β) : (some a).bind f = f a := by rw [Option.bind_some]
theorem e00 : (0 : Int32) = 0 := rfl
