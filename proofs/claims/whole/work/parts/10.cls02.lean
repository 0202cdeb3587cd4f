/-! private static int gets(int, int, int, int, int); -/
def f_X12_gets (x0 : Int32) (x1 : Int32) (x2 : Int32) (x3 : Int32) (x4 : Int32) : Int32 := if x3 = (0 : Int32) then if x4 = (0 : Int32) then (x0)
    else (x2)
  else if x4 = (0 : Int32) then (x1)
  else ((0 : Int32))
abbrev rm_X12_gets : Room := { frames := 0, cells := 0, slots := 0, locals := 0 }
theorem hd_X12_gets : yX12_gets.cls = RX12 ∧ yX12_gets.cls ≠ "java/lang/invoke/MethodHandle" ∧ yX12_gets.cls ≠ "java/lang/invoke/VarHandle" ∧ (parseMethodDescriptor yX12_gets.desc).map (fun d => d.parameters.length) = some 5 := by decide +kernel
set_option maxRecDepth 100000 in
set_option maxHeartbeats 4000000 in
theorem c_X12_gets {E : En} {l : Launch}  {x0 : Int32} {x1 : Int32} {x2 : Int32} {x3 : Int32} {x4 : Int32} {out : Int32} (hf : f_X12_gets x0 x1 x2 x3 x4 = out) : Cn E l yX12_gets cX12_gets 5 (some .int) rm_X12_gets [.int (x0), .int (x1), .int (x2), .int (x3), .int (x4)] (([] : va_W)) (some (.int out)) (([] : va_W)) := by
  refine Cn.of (by decide) (Nat.le_of_ble_eq_true rfl) rfl ?_
  intro p e s m below meth c A ls args H locs X hw hl
  have hx := X.1.1
  have hb := X.1.2.1
  have ho := X.1.2.2.2.1
  have hts := X.1.2.2.2.2
  have hl : lv_has ls 5 [(0, .int (x0)), (1, .int (x1)), (2, .int (x2)), (3, .int (x3)), (4, .int (x4))] := hl
  unfold f_X12_gets at hf
  refine lv_iload_n hx hb dX12_gets_0 rfl (lv_at hl 3 rfl) ?_
  refine lv_if_ne (tgt := 15) hx hb dX12_gets_1 (by decide) (fun c_1 => ?_) (fun c_1 => ?_)
  · have hf := (if_neg c_1).symm.trans hf
    refine lv_iload hx hb dX12_gets_15 (lv_at hl 4 rfl) ?_
    refine lv_if_ne (tgt := 24) hx hb dX12_gets_17 (by decide) (fun c_17 => ?_) (fun c_17 => ?_)
    · have hf := (if_neg c_17).symm.trans hf
      refine lv_iconst (v := (0 : Int32)) hx hb dX12_gets_24 (by decide) ?_
      subst hf
      exact k_iret X hw dX12_gets_25
    · have hf := (if_pos c_17).symm.trans hf
      refine lv_iload_n hx hb dX12_gets_20 rfl (lv_at hl 1 rfl) ?_
      refine lv_goto (tgt := 25) hx hb dX12_gets_21 (by decide) ?_
      subst hf
      exact k_iret X hw dX12_gets_25
  · have hf := (if_pos c_1).symm.trans hf
    refine lv_iload hx hb dX12_gets_4 (lv_at hl 4 rfl) ?_
    refine lv_if_ne (tgt := 13) hx hb dX12_gets_6 (by decide) (fun c_6 => ?_) (fun c_6 => ?_)
    · have hf := (if_neg c_6).symm.trans hf
      refine lv_iload_n hx hb dX12_gets_13 rfl (lv_at hl 2 rfl) ?_
      subst hf
      exact k_iret X hw dX12_gets_14
    · have hf := (if_pos c_6).symm.trans hf
      refine lv_iload_n hx hb dX12_gets_9 rfl (lv_at hl 0 rfl) ?_
      refine lv_goto (tgt := 14) hx hb dX12_gets_10 (by decide) ?_
      subst hf
      exact k_iret X hw dX12_gets_14
/-! private static boolean within(int, int, int); -/
def f_X12_within (x0 : Int32) (x1 : Int32) (x2 : Int32) : Int32 := if x0 < x1 then ((0 : Int32))
  else if x2 < x0 then ((0 : Int32))
  else ((1 : Int32))
abbrev rm_X12_within : Room := { frames := 0, cells := 0, slots := 0, locals := 0 }
theorem hd_X12_within : yX12_within.cls = RX12 ∧ yX12_within.cls ≠ "java/lang/invoke/MethodHandle" ∧ yX12_within.cls ≠ "java/lang/invoke/VarHandle" ∧ (parseMethodDescriptor yX12_within.desc).map (fun d => d.parameters.length) = some 3 := by decide +kernel
set_option maxRecDepth 100000 in
set_option maxHeartbeats 4000000 in
theorem c_X12_within {E : En} {l : Launch}  {x0 : Int32} {x1 : Int32} {x2 : Int32} {out : Int32} (hf : f_X12_within x0 x1 x2 = out) : Cn E l yX12_within cX12_within 3 (some .boolean) rm_X12_within [.int (x0), .int (x1), .int (x2)] (([] : va_W)) (some (.int out)) (([] : va_W)) := by
  refine Cn.of (by decide) (Nat.le_of_ble_eq_true rfl) rfl ?_
  intro p e s m below meth c A ls args H locs X hw hl
  have hx := X.1.1
  have hb := X.1.2.1
  have ho := X.1.2.2.2.1
  have hts := X.1.2.2.2.2
  have hl : lv_has ls 3 [(0, .int (x0)), (1, .int (x1)), (2, .int (x2))] := hl
  unfold f_X12_within at hf
  refine lv_iload_n hx hb dX12_within_0 rfl (lv_at hl 0 rfl) ?_
  refine lv_iload_n hx hb dX12_within_1 rfl (lv_at hl 1 rfl) ?_
  refine lv_icmp_lt (tgt := 14) hx hb dX12_within_2 (by decide) (fun c_2 => ?_) (fun c_2 => ?_)
  · have hf := (if_pos c_2).symm.trans hf
    refine lv_iconst (v := (0 : Int32)) hx hb dX12_within_14 (by decide) ?_
    subst hf
    exact k_zret X (Or.inl rfl) hw dX12_within_15
  · have hf := (if_neg c_2).symm.trans hf
    refine lv_iload_n hx hb dX12_within_5 rfl (lv_at hl 0 rfl) ?_
    refine lv_iload_n hx hb dX12_within_6 rfl (lv_at hl 2 rfl) ?_
    refine lv_icmp_gt (tgt := 14) hx hb dX12_within_7 (by decide) (fun c_7 => ?_) (fun c_7 => ?_)
    · have hf := (if_pos c_7).symm.trans hf
      refine lv_iconst (v := (0 : Int32)) hx hb dX12_within_14 (by decide) ?_
      subst hf
      exact k_zret X (Or.inl rfl) hw dX12_within_15
    · have hf := (if_neg c_7).symm.trans hf
      refine lv_iconst (v := (1 : Int32)) hx hb dX12_within_10 (by decide) ?_
      refine lv_goto (tgt := 15) hx hb dX12_within_11 (by decide) ?_
      subst hf
      exact k_zret X (Or.inr rfl) hw dX12_within_15
theorem zb_X12_within (x0 : Int32) (x1 : Int32) (x2 : Int32) : f_X12_within x0 x1 x2 = 0 ∨ f_X12_within x0 x1 x2 = 1 := by
  unfold f_X12_within
  repeat' apply ite_z
  all_goals first | exact Or.inl rfl | exact Or.inr rfl
/-! private static int at(int[], int); -/
def f_X12_at (p0_n : Nat) (p0_f : (Nat → Int32)) (x1 : Int32) : Option (Int32) := if x1 < (0 : Int32) then some ((0 : Int32))
  else if (nI p0_n) ≤ x1 then some ((0 : Int32))
  else gd (x1) p0_n (some ((p0_f (x1).toNatClampNeg)))
abbrev rm_X12_at : Room := { frames := 0, cells := 0, slots := 0, locals := 0 }
theorem hd_X12_at : yX12_at.cls = RX12 ∧ yX12_at.cls ≠ "java/lang/invoke/MethodHandle" ∧ yX12_at.cls ≠ "java/lang/invoke/VarHandle" ∧ (parseMethodDescriptor yX12_at.desc).map (fun d => d.parameters.length) = some 2 := by decide +kernel
set_option maxRecDepth 100000 in
set_option maxHeartbeats 4000000 in
theorem c_X12_at {E : En} {l : Launch} {p0_o : Nat} {p0_n : Nat} {p0_f : (Nat → Int32)} {x1 : Int32} {out : Int32} (hf : f_X12_at p0_n p0_f x1 = some out) : Cn E l yX12_at cX12_at 2 (some .int) rm_X12_at [.ref p0_o, .int (x1)] (wA E p0_o p0_n p0_f) (some (.int out)) (wA E p0_o p0_n p0_f) := by
  refine Cn.of (by decide) (Nat.le_of_ble_eq_true rfl) rfl ?_
  intro p e s m below meth c A ls args H locs X hw hl
  have hx := X.1.1
  have hb := X.1.2.1
  have ho := X.1.2.2.2.1
  have hts := X.1.2.2.2.2
  have hl : lv_has ls 2 [(0, .ref p0_o), (1, .int (x1))] := hl
  unfold f_X12_at at hf
  refine lv_iload_n hx hb dX12_at_0 rfl (lv_at hl 1 rfl) ?_
  refine lv_if_lt (tgt := 16) hx hb dX12_at_1 (by decide) (fun c_1 => ?_) (fun c_1 => ?_)
  · have hf := (if_pos c_1).symm.trans hf
    refine lv_iconst (v := (0 : Int32)) hx hb dX12_at_16 (by decide) ?_
    obtain rfl := Option.some.inj hf
    exact k_iret X hw dX12_at_17
  · have hf := (if_neg c_1).symm.trans hf
    refine lv_iload_n hx hb dX12_at_4 rfl (lv_at hl 1 rfl) ?_
    refine lv_aload_n hx hb dX12_at_5 rfl (lv_at hl 0 rfl) ?_
    refine k_alen (q0 := 0) (t0 := 0) (v9 := (nI p0_n)) X hw rfl rfl rfl dX12_at_6 ?_
    refine lv_icmp_ge (tgt := 16) hx hb dX12_at_7 (by decide) (fun c_7 => ?_) (fun c_7 => ?_)
    · have hf := (if_pos c_7).symm.trans hf
      refine lv_iconst (v := (0 : Int32)) hx hb dX12_at_16 (by decide) ?_
      obtain rfl := Option.some.inj hf
      exact k_iret X hw dX12_at_17
    · have hf := (if_neg c_7).symm.trans hf
      refine lv_aload_n hx hb dX12_at_10 rfl (lv_at hl 0 rfl) ?_
      refine lv_iload_n hx hb dX12_at_11 rfl (lv_at hl 1 rfl) ?_
      obtain ⟨hi_12, hf⟩ := gd_some hf
      refine k_iald (q0 := 0) (n := p0_n) (f := p0_f) X hw rfl hi_12 dX12_at_12 ?_
      refine lv_goto (tgt := 17) hx hb dX12_at_13 (by decide) ?_
      obtain rfl := Option.some.inj hf
      exact k_iret X hw dX12_at_17
/-- a row's number, 0 outside -/
def ga (n : Nat) (f : Nat → Int32) (i : Int32) : Int32 := if i < 0 ∨ n ≤ i.toNatClampNeg then 0 else f i.toNatClampNeg
theorem fat_eq {n : Nat} {f : Nat → Int32} {i : Int32} (hn : n < 2147483648) : f_X12_at n f i = some (ga n f i) := by
  unfold f_X12_at ga
  rcases pk_ix i hn with h | h | ⟨j, hj, rfl⟩
  · simp [h]
  · by_cases h0 : i < 0
    · simp [h0]
    · obtain ⟨k, hk, rfl⟩ := nI_of h0
      have h2 : n ≤ k := (nI_leI hn hk).mp h
      simp [h0, h, nI_clamp hk, h2]
  · have hj2 : j < 2 ^ 31 := by omega
    have h0 : ¬ nI j < 0 := nI_pos hj2
    have h1 : ¬ nI n ≤ nI j := fun h => absurd ((nI_leI hn hj2).mp h) (by omega)
    rw [if_neg h0, if_neg h1, gd_ok (vp_in_nI hj hn), nI_clamp hj2, if_neg (by simp [h0]; omega)]
theorem ct_X12_at {E : En} {l : Launch} {p0_o : Nat} {p0_n : Nat} {p0_f : (Nat → Int32)} {x1 : Int32} {out : Int32} (hf : ga p0_n p0_f x1 = out) (hn : p0_n < 2147483648 := by decide) : Cn E l yX12_at cX12_at 2 (some .int) rm_X12_at [.ref p0_o, .int (x1)] (wA E p0_o p0_n p0_f) (some (.int out)) (wA E p0_o p0_n p0_f) := c_X12_at ((fat_eq hn).trans (congrArg some hf))
/-! private static void put(int[], int, int); -/
def f_X12_put (p0_n : Nat) (p0_f : (Nat → Int32)) (x1 : Int32) (x2 : Int32) : Option ((Nat → Int32)) := if x1 < (0 : Int32) then some (p0_f)
  else if (nI p0_n) ≤ x1 then some (p0_f)
  else gd (x1) p0_n (some (upd p0_f (x1).toNatClampNeg (x2)))
abbrev rm_X12_put : Room := { frames := 0, cells := 0, slots := 0, locals := 0 }
theorem hd_X12_put : yX12_put.cls = RX12 ∧ yX12_put.cls ≠ "java/lang/invoke/MethodHandle" ∧ yX12_put.cls ≠ "java/lang/invoke/VarHandle" ∧ (parseMethodDescriptor yX12_put.desc).map (fun d => d.parameters.length) = some 3 := by decide +kernel
set_option maxRecDepth 100000 in
set_option maxHeartbeats 4000000 in
theorem c_X12_put {E : En} {l : Launch} {p0_o : Nat} {p0_n : Nat} {p0_f : (Nat → Int32)} {x1 : Int32} {x2 : Int32} {out : (Nat → Int32)} (hf : f_X12_put p0_n p0_f x1 x2 = some out) : Cn E l yX12_put cX12_put 3 none rm_X12_put [.ref p0_o, .int (x1), .int (x2)] (wA E p0_o p0_n p0_f) none (wA E p0_o p0_n out) := by
  refine Cn.of (by decide) (Nat.le_of_ble_eq_true rfl) rfl ?_
  intro p e s m below meth c A ls args H locs X hw hl
  have hx := X.1.1
  have hb := X.1.2.1
  have ho := X.1.2.2.2.1
  have hts := X.1.2.2.2.2
  have hl : lv_has ls 3 [(0, .ref p0_o), (1, .int (x1)), (2, .int (x2))] := hl
  unfold f_X12_put at hf
  refine lv_iload_n hx hb dX12_put_0 rfl (lv_at hl 1 rfl) ?_
  refine lv_if_lt (tgt := 14) hx hb dX12_put_1 (by decide) (fun c_1 => ?_) (fun c_1 => ?_)
  · have hf := (if_pos c_1).symm.trans hf
    obtain rfl := Option.some.inj hf
    exact k_vret X hw dX12_put_14
  · have hf := (if_neg c_1).symm.trans hf
    refine lv_iload_n hx hb dX12_put_4 rfl (lv_at hl 1 rfl) ?_
    refine lv_aload_n hx hb dX12_put_5 rfl (lv_at hl 0 rfl) ?_
    refine k_alen (q0 := 0) (t0 := 0) (v9 := (nI p0_n)) X hw rfl rfl rfl dX12_put_6 ?_
    refine lv_icmp_ge (tgt := 14) hx hb dX12_put_7 (by decide) (fun c_7 => ?_) (fun c_7 => ?_)
    · have hf := (if_pos c_7).symm.trans hf
      obtain rfl := Option.some.inj hf
      exact k_vret X hw dX12_put_14
    · have hf := (if_neg c_7).symm.trans hf
      refine lv_aload_n hx hb dX12_put_10 rfl (lv_at hl 0 rfl) ?_
      refine lv_iload_n hx hb dX12_put_11 rfl (lv_at hl 1 rfl) ?_
      refine lv_iload_n hx hb dX12_put_12 rfl (lv_at hl 2 rfl) ?_
      obtain ⟨hi_13, hf⟩ := gd_some hf
      refine k_iast (q0 := 0) (n := p0_n) (f := p0_f) X hw rfl hi_13 dX12_put_13 (fun H locs hw => ?_)
      have hw : Wd E A s.heap (wA E p0_o p0_n (upd p0_f (x1).toNatClampNeg (x2))) H locs := hw
      obtain rfl := Option.some.inj hf
      exact k_vret X hw dX12_put_14
/-- a row with a number put, as it was if outside -/
def gp (n : Nat) (f : Nat → Int32) (i v : Int32) : Nat → Int32 := if i < 0 ∨ n ≤ i.toNatClampNeg then f else upd f i.toNatClampNeg v
theorem fput_eq {n : Nat} {f : Nat → Int32} {i v : Int32} (hn : n < 2147483648) : f_X12_put n f i v = some (gp n f i v) := by
  unfold f_X12_put gp
  rcases pk_ix i hn with h | h | ⟨j, hj, rfl⟩
  · simp [h]
  · by_cases h0 : i < 0
    · simp [h0]
    · obtain ⟨k, hk, rfl⟩ := nI_of h0
      have h2 : n ≤ k := (nI_leI hn hk).mp h
      simp [h0, h, nI_clamp hk, h2]
  · have hj2 : j < 2 ^ 31 := by omega
    have h0 : ¬ nI j < 0 := nI_pos hj2
    have h1 : ¬ nI n ≤ nI j := fun h => absurd ((nI_leI hn hj2).mp h) (by omega)
    rw [if_neg h0, if_neg h1, gd_ok (vp_in_nI hj hn), nI_clamp hj2, if_neg (by simp [h0]; omega)]
theorem ct_X12_put {E : En} {l : Launch} {p0_o : Nat} {p0_n : Nat} {p0_f : (Nat → Int32)} {x1 x2 : Int32} {out : Nat → Int32} (hf : gp p0_n p0_f x1 x2 = out) (hn : p0_n < 2147483648 := by decide) : Cn E l yX12_put cX12_put 3 none rm_X12_put [.ref p0_o, .int (x1), .int (x2)] (wA E p0_o p0_n p0_f) none (wA E p0_o p0_n out) := c_X12_put ((fput_eq hn).trans (congrArg some hf))
/-! private static void copyRow(int[], int[]); -/
def f_X12_copyRow_2 : Nat → Nat → (Nat → Int32) → Nat → (Nat → Int32) → Int32 → Option ((Nat → Int32))
  | 0, _, _, _, _, _ => none
  | n + 1, p0_n, p0_f, p1_n, p1_f, x2 => if (nI p0_n) ≤ x2 then some (p1_f)
    else if (nI p1_n) ≤ x2 then some (p1_f)
    else gd (x2) p0_n (gd (x2) p1_n (f_X12_copyRow_2 n p0_n p0_f p1_n (upd p1_f (x2).toNatClampNeg ((p0_f (x2).toNatClampNeg))) ((x2 + (1 : Int32)))))
def f_X12_copyRow (p0_n : Nat) (p0_f : (Nat → Int32)) (p1_n : Nat) (p1_f : (Nat → Int32)) : Option ((Nat → Int32)) := f_X12_copyRow_2 1100 p0_n p0_f p1_n p1_f ((0 : Int32))
abbrev rm_X12_copyRow : Room := { frames := 0, cells := 0, slots := 0, locals := 0 }
theorem hd_X12_copyRow : yX12_copyRow.cls = RX12 ∧ yX12_copyRow.cls ≠ "java/lang/invoke/MethodHandle" ∧ yX12_copyRow.cls ≠ "java/lang/invoke/VarHandle" ∧ (parseMethodDescriptor yX12_copyRow.desc).map (fun d => d.parameters.length) = some 2 := by decide +kernel
set_option maxRecDepth 100000 in
set_option maxHeartbeats 4000000 in
theorem kb_X12_copyRow_2 {E : En} {p : Program} {l : Launch} {e : Env} {s : State} {m : MethodId} {args : Array Value} {below : List Frame} {meth : Method} {c : Code} {A : Nat → Prop} {p0_o : Nat} {p0_n : Nat} {p0_f : (Nat → Int32)} {p1_o : Nat} {p1_n : Nat} {out : (Nat → Int32)} (X : Bx E A p s m args meth c cX12_copyRow 3 RX12 none) : ∀ (n : Nat) {p1_f : (Nat → Int32)} {x2 : Int32} {H : Heap} {locs : List Loc} {ls : Array Slot}, f_X12_copyRow_2 n p0_n p0_f p1_n p1_f x2 = some out → Wd E A s.heap (wA E p0_o p0_n p0_f ++ (wA E p1_o p1_n p1_f)) H locs → lv_has ls 3 [(0, .ref p0_o), (1, .ref p1_o), (2, .int (x2))] → W p l e rm_X12_copyRow s m args below meth c H locs 0 0 (Zn E below args s A none (wA E p0_o p0_n p0_f ++ (wA E p1_o p1_n out))) (F0 m 2 ls []) := by
  have hx := X.1.1
  have hb := X.1.2.1
  have ho := X.1.2.2.2.1
  have hts := X.1.2.2.2.2
  intro n
  induction n with
  | zero =>
    intro p1_f x2 H locs ls hf
    have hf : (none : Option ((Nat → Int32))) = some out := hf
    cases hf
  | succ n ih =>
    intro p1_f x2 H locs ls hf hw hl
    rw [f_X12_copyRow_2.eq_2] at hf
    refine lv_iload_n hx hb dX12_copyRow_2 rfl (lv_at hl 2 rfl) ?_
    refine lv_aload_n hx hb dX12_copyRow_3 rfl (lv_at hl 0 rfl) ?_
    refine k_alen (q0 := 0) (t0 := 0) (v9 := (nI p0_n)) X hw rfl rfl rfl dX12_copyRow_4 ?_
    refine lv_icmp_ge (tgt := 26) hx hb dX12_copyRow_5 (by decide) (fun c_5 => ?_) (fun c_5 => ?_)
    · have hf := (if_pos c_5).symm.trans hf
      obtain rfl := Option.some.inj hf
      exact k_vret X hw dX12_copyRow_26
    · have hf := (if_neg c_5).symm.trans hf
      refine lv_iload_n hx hb dX12_copyRow_8 rfl (lv_at hl 2 rfl) ?_
      refine lv_aload_n hx hb dX12_copyRow_9 rfl (lv_at hl 1 rfl) ?_
      refine k_alen (q0 := 1) (t0 := 0) (v9 := (nI p1_n)) X hw rfl rfl rfl dX12_copyRow_10 ?_
      refine lv_icmp_ge (tgt := 26) hx hb dX12_copyRow_11 (by decide) (fun c_11 => ?_) (fun c_11 => ?_)
      · have hf := (if_pos c_11).symm.trans hf
        obtain rfl := Option.some.inj hf
        exact k_vret X hw dX12_copyRow_26
      · have hf := (if_neg c_11).symm.trans hf
        refine lv_aload_n hx hb dX12_copyRow_14 rfl (lv_at hl 1 rfl) ?_
        refine lv_iload_n hx hb dX12_copyRow_15 rfl (lv_at hl 2 rfl) ?_
        refine lv_aload_n hx hb dX12_copyRow_16 rfl (lv_at hl 0 rfl) ?_
        refine lv_iload_n hx hb dX12_copyRow_17 rfl (lv_at hl 2 rfl) ?_
        obtain ⟨hi_18, hf⟩ := gd_some hf
        refine k_iald (q0 := 0) (n := p0_n) (f := p0_f) X hw rfl hi_18 dX12_copyRow_18 ?_
        obtain ⟨hi_19, hf⟩ := gd_some hf
        refine k_iast (q0 := 1) (n := p1_n) (f := p1_f) X hw rfl hi_19 dX12_copyRow_19 (fun H locs hw => ?_)
        have hw : Wd E A s.heap (wA E p0_o p0_n p0_f ++ (wA E p1_o p1_n (upd p1_f (x2).toNatClampNeg ((p0_f (x2).toNatClampNeg))))) H locs := hw
        refine lv_iinc (v := (x2 + (1 : Int32))) (lv' := [(2, .int ((x2 + (1 : Int32)))), (0, .ref p0_o), (1, .ref p1_o)]) hx hb dX12_copyRow_20 hl (k := 2) rfl rfl (by decide) rfl (fun ls hl => ?_)
        refine lv_goto (tgt := 2) hx hb dX12_copyRow_23 (by decide) ?_
        exact ih hf hw (lv_sub hl [1, 2, 0] rfl)
set_option maxRecDepth 100000 in
set_option maxHeartbeats 4000000 in
theorem c_X12_copyRow {E : En} {l : Launch} {p0_o : Nat} {p0_n : Nat} {p0_f : (Nat → Int32)} {p1_o : Nat} {p1_n : Nat} {p1_f : (Nat → Int32)}  {out : (Nat → Int32)} (hf : f_X12_copyRow p0_n p0_f p1_n p1_f = some out) : Cn E l yX12_copyRow cX12_copyRow 3 none rm_X12_copyRow [.ref p0_o, .ref p1_o] (wA E p0_o p0_n p0_f ++ (wA E p1_o p1_n p1_f)) none (wA E p0_o p0_n p0_f ++ (wA E p1_o p1_n out)) := by
  refine Cn.of (by decide) (Nat.le_of_ble_eq_true rfl) rfl ?_
  intro p e s m below meth c A ls args H locs X hw hl
  have hx := X.1.1
  have hb := X.1.2.1
  have ho := X.1.2.2.2.1
  have hts := X.1.2.2.2.2
  have hl : lv_has ls 3 [(0, .ref p0_o), (1, .ref p1_o)] := hl
  unfold f_X12_copyRow at hf
  refine lv_iconst (v := (0 : Int32)) hx hb dX12_copyRow_0 (by decide) ?_
  refine lv_istore_n (lv' := [(2, .int ((0 : Int32))), (0, .ref p0_o), (1, .ref p1_o)]) hx hb dX12_copyRow_1 rfl hl (by decide) rfl (fun ls hl => ?_)
  exact kb_X12_copyRow_2 X 1100 hf hw (lv_sub hl [1, 2, 0] rfl)
/-! private static int sum(int[], int); -/
def f_X12_sum_4 : Nat → Nat → (Nat → Int32) → Int32 → Int32 → Int32 → Option (Int32)
  | 0, _, _, _, _, _ => none
  | n + 1, p0_n, p0_f, x1, x2, x3 => if x1 ≤ x3 then some (x2)
    else if (nI p0_n) ≤ x3 then some (x2)
    else gd (x3) p0_n (f_X12_sum_4 n p0_n p0_f x1 ((x2 + (p0_f (x3).toNatClampNeg))) ((x3 + (1 : Int32))))
def f_X12_sum (p0_n : Nat) (p0_f : (Nat → Int32)) (x1 : Int32) : Option (Int32) := f_X12_sum_4 1100 p0_n p0_f x1 ((0 : Int32)) ((0 : Int32))
abbrev rm_X12_sum : Room := { frames := 0, cells := 0, slots := 0, locals := 0 }
theorem hd_X12_sum : yX12_sum.cls = RX12 ∧ yX12_sum.cls ≠ "java/lang/invoke/MethodHandle" ∧ yX12_sum.cls ≠ "java/lang/invoke/VarHandle" ∧ (parseMethodDescriptor yX12_sum.desc).map (fun d => d.parameters.length) = some 2 := by decide +kernel
set_option maxRecDepth 100000 in
set_option maxHeartbeats 4000000 in
theorem kb_X12_sum_4 {E : En} {p : Program} {l : Launch} {e : Env} {s : State} {m : MethodId} {args : Array Value} {below : List Frame} {meth : Method} {c : Code} {A : Nat → Prop} {p0_o : Nat} {p0_n : Nat} {p0_f : (Nat → Int32)} {out : Int32} (X : Bx E A p s m args meth c cX12_sum 4 RX12 (some .int)) : ∀ (n : Nat) {x1 : Int32} {x2 : Int32} {x3 : Int32} {H : Heap} {locs : List Loc} {ls : Array Slot}, f_X12_sum_4 n p0_n p0_f x1 x2 x3 = some out → Wd E A s.heap (wA E p0_o p0_n p0_f) H locs → lv_has ls 4 [(0, .ref p0_o), (1, .int (x1)), (2, .int (x2)), (3, .int (x3))] → W p l e rm_X12_sum s m args below meth c H locs 0 0 (Zn E below args s A (some (.int out)) (wA E p0_o p0_n p0_f)) (F0 m 4 ls []) := by
  have hx := X.1.1
  have hb := X.1.2.1
  have ho := X.1.2.2.2.1
  have hts := X.1.2.2.2.2
  intro n
  induction n with
  | zero =>
    intro x1 x2 x3 H locs ls hf
    have hf : (none : Option (Int32)) = some out := hf
    cases hf
  | succ n ih =>
    intro x1 x2 x3 H locs ls hf hw hl
    rw [f_X12_sum_4.eq_2] at hf
    refine lv_iload_n hx hb dX12_sum_4 rfl (lv_at hl 3 rfl) ?_
    refine lv_iload_n hx hb dX12_sum_5 rfl (lv_at hl 1 rfl) ?_
    refine lv_icmp_ge (tgt := 27) hx hb dX12_sum_6 (by decide) (fun c_6 => ?_) (fun c_6 => ?_)
    · have hf := (if_pos c_6).symm.trans hf
      refine lv_iload_n hx hb dX12_sum_27 rfl (lv_at hl 2 rfl) ?_
      obtain rfl := Option.some.inj hf
      exact k_iret X hw dX12_sum_28
    · have hf := (if_neg c_6).symm.trans hf
      refine lv_iload_n hx hb dX12_sum_9 rfl (lv_at hl 3 rfl) ?_
      refine lv_aload_n hx hb dX12_sum_10 rfl (lv_at hl 0 rfl) ?_
      refine k_alen (q0 := 0) (t0 := 0) (v9 := (nI p0_n)) X hw rfl rfl rfl dX12_sum_11 ?_
      refine lv_icmp_ge (tgt := 27) hx hb dX12_sum_12 (by decide) (fun c_12 => ?_) (fun c_12 => ?_)
      · have hf := (if_pos c_12).symm.trans hf
        refine lv_iload_n hx hb dX12_sum_27 rfl (lv_at hl 2 rfl) ?_
        obtain rfl := Option.some.inj hf
        exact k_iret X hw dX12_sum_28
      · have hf := (if_neg c_12).symm.trans hf
        refine lv_iload_n hx hb dX12_sum_15 rfl (lv_at hl 2 rfl) ?_
        refine lv_aload_n hx hb dX12_sum_16 rfl (lv_at hl 0 rfl) ?_
        refine lv_iload_n hx hb dX12_sum_17 rfl (lv_at hl 3 rfl) ?_
        obtain ⟨hi_18, hf⟩ := gd_some hf
        refine k_iald (q0 := 0) (n := p0_n) (f := p0_f) X hw rfl hi_18 dX12_sum_18 ?_
        refine lv_iadd hx hb dX12_sum_19 ?_
        refine lv_istore_n (lv' := [(2, .int ((x2 + (p0_f (x3).toNatClampNeg)))), (0, .ref p0_o), (1, .int (x1)), (3, .int (x3))]) hx hb dX12_sum_20 rfl hl (by decide) rfl (fun ls hl => ?_)
        refine lv_iinc (v := (x3 + (1 : Int32))) (lv' := [(3, .int ((x3 + (1 : Int32)))), (2, .int ((x2 + (p0_f (x3).toNatClampNeg)))), (0, .ref p0_o), (1, .int (x1))]) hx hb dX12_sum_21 hl (k := 3) rfl rfl (by decide) rfl (fun ls hl => ?_)
        refine lv_goto (tgt := 4) hx hb dX12_sum_24 (by decide) ?_
        exact ih hf hw (lv_sub hl [2, 3, 1, 0] rfl)
set_option maxRecDepth 100000 in
set_option maxHeartbeats 4000000 in
theorem c_X12_sum {E : En} {l : Launch} {p0_o : Nat} {p0_n : Nat} {p0_f : (Nat → Int32)} {x1 : Int32} {out : Int32} (hf : f_X12_sum p0_n p0_f x1 = some out) : Cn E l yX12_sum cX12_sum 4 (some .int) rm_X12_sum [.ref p0_o, .int (x1)] (wA E p0_o p0_n p0_f) (some (.int out)) (wA E p0_o p0_n p0_f) := by
  refine Cn.of (by decide) (Nat.le_of_ble_eq_true rfl) rfl ?_
  intro p e s m below meth c A ls args H locs X hw hl
  have hx := X.1.1
  have hb := X.1.2.1
  have ho := X.1.2.2.2.1
  have hts := X.1.2.2.2.2
  have hl : lv_has ls 4 [(0, .ref p0_o), (1, .int (x1))] := hl
  unfold f_X12_sum at hf
  refine lv_iconst (v := (0 : Int32)) hx hb dX12_sum_0 (by decide) ?_
  refine lv_istore_n (lv' := [(2, .int ((0 : Int32))), (0, .ref p0_o), (1, .int (x1))]) hx hb dX12_sum_1 rfl hl (by decide) rfl (fun ls hl => ?_)
  refine lv_iconst (v := (0 : Int32)) hx hb dX12_sum_2 (by decide) ?_
  refine lv_istore_n (lv' := [(3, .int ((0 : Int32))), (2, .int ((0 : Int32))), (0, .ref p0_o), (1, .int (x1))]) hx hb dX12_sum_3 rfl hl (by decide) rfl (fun ls hl => ?_)
  exact kb_X12_sum_4 X 1100 hf hw (lv_sub hl [2, 3, 1, 0] rfl)
/-! public static int bitCount(int) -/
def f_X20_bitCount (x0 : Int32) : Int32 := (((((((((x0 - ((((x0).toUInt32 >>> (((1 : Int32)).toUInt32 &&& Int32.toUInt32 31)).toInt32) &&& (1431655765 : Int32))) &&& (858993459 : Int32)) + (((((x0 - ((((x0).toUInt32 >>> (((1 : Int32)).toUInt32 &&& Int32.toUInt32 31)).toInt32) &&& (1431655765 : Int32)))).toUInt32 >>> (((2 : Int32)).toUInt32 &&& Int32.toUInt32 31)).toInt32) &&& (858993459 : Int32))) + ((((((x0 - ((((x0).toUInt32 >>> (((1 : Int32)).toUInt32 &&& Int32.toUInt32 31)).toInt32) &&& (1431655765 : Int32))) &&& (858993459 : Int32)) + (((((x0 - ((((x0).toUInt32 >>> (((1 : Int32)).toUInt32 &&& Int32.toUInt32 31)).toInt32) &&& (1431655765 : Int32)))).toUInt32 >>> (((2 : Int32)).toUInt32 &&& Int32.toUInt32 31)).toInt32) &&& (858993459 : Int32)))).toUInt32 >>> (((4 : Int32)).toUInt32 &&& Int32.toUInt32 31)).toInt32)) &&& (252645135 : Int32)) + ((((((((x0 - ((((x0).toUInt32 >>> (((1 : Int32)).toUInt32 &&& Int32.toUInt32 31)).toInt32) &&& (1431655765 : Int32))) &&& (858993459 : Int32)) + (((((x0 - ((((x0).toUInt32 >>> (((1 : Int32)).toUInt32 &&& Int32.toUInt32 31)).toInt32) &&& (1431655765 : Int32)))).toUInt32 >>> (((2 : Int32)).toUInt32 &&& Int32.toUInt32 31)).toInt32) &&& (858993459 : Int32))) + ((((((x0 - ((((x0).toUInt32 >>> (((1 : Int32)).toUInt32 &&& Int32.toUInt32 31)).toInt32) &&& (1431655765 : Int32))) &&& (858993459 : Int32)) + (((((x0 - ((((x0).toUInt32 >>> (((1 : Int32)).toUInt32 &&& Int32.toUInt32 31)).toInt32) &&& (1431655765 : Int32)))).toUInt32 >>> (((2 : Int32)).toUInt32 &&& Int32.toUInt32 31)).toInt32) &&& (858993459 : Int32)))).toUInt32 >>> (((4 : Int32)).toUInt32 &&& Int32.toUInt32 31)).toInt32)) &&& (252645135 : Int32))).toUInt32 >>> (((8 : Int32)).toUInt32 &&& Int32.toUInt32 31)).toInt32)) + (((((((((x0 - ((((x0).toUInt32 >>> (((1 : Int32)).toUInt32 &&& Int32.toUInt32 31)).toInt32) &&& (1431655765 : Int32))) &&& (858993459 : Int32)) + (((((x0 - ((((x0).toUInt32 >>> (((1 : Int32)).toUInt32 &&& Int32.toUInt32 31)).toInt32) &&& (1431655765 : Int32)))).toUInt32 >>> (((2 : Int32)).toUInt32 &&& Int32.toUInt32 31)).toInt32) &&& (858993459 : Int32))) + ((((((x0 - ((((x0).toUInt32 >>> (((1 : Int32)).toUInt32 &&& Int32.toUInt32 31)).toInt32) &&& (1431655765 : Int32))) &&& (858993459 : Int32)) + (((((x0 - ((((x0).toUInt32 >>> (((1 : Int32)).toUInt32 &&& Int32.toUInt32 31)).toInt32) &&& (1431655765 : Int32)))).toUInt32 >>> (((2 : Int32)).toUInt32 &&& Int32.toUInt32 31)).toInt32) &&& (858993459 : Int32)))).toUInt32 >>> (((4 : Int32)).toUInt32 &&& Int32.toUInt32 31)).toInt32)) &&& (252645135 : Int32)) + ((((((((x0 - ((((x0).toUInt32 >>> (((1 : Int32)).toUInt32 &&& Int32.toUInt32 31)).toInt32) &&& (1431655765 : Int32))) &&& (858993459 : Int32)) + (((((x0 - ((((x0).toUInt32 >>> (((1 : Int32)).toUInt32 &&& Int32.toUInt32 31)).toInt32) &&& (1431655765 : Int32)))).toUInt32 >>> (((2 : Int32)).toUInt32 &&& Int32.toUInt32 31)).toInt32) &&& (858993459 : Int32))) + ((((((x0 - ((((x0).toUInt32 >>> (((1 : Int32)).toUInt32 &&& Int32.toUInt32 31)).toInt32) &&& (1431655765 : Int32))) &&& (858993459 : Int32)) + (((((x0 - ((((x0).toUInt32 >>> (((1 : Int32)).toUInt32 &&& Int32.toUInt32 31)).toInt32) &&& (1431655765 : Int32)))).toUInt32 >>> (((2 : Int32)).toUInt32 &&& Int32.toUInt32 31)).toInt32) &&& (858993459 : Int32)))).toUInt32 >>> (((4 : Int32)).toUInt32 &&& Int32.toUInt32 31)).toInt32)) &&& (252645135 : Int32))).toUInt32 >>> (((8 : Int32)).toUInt32 &&& Int32.toUInt32 31)).toInt32))).toUInt32 >>> (((16 : Int32)).toUInt32 &&& Int32.toUInt32 31)).toInt32)) &&& (63 : Int32)))
abbrev rm_X20_bitCount : Room := { frames := 0, cells := 0, slots := 0, locals := 0 }
theorem hd_X20_bitCount : yX20_bitCount.cls = RX20 ∧ yX20_bitCount.cls ≠ "java/lang/invoke/MethodHandle" ∧ yX20_bitCount.cls ≠ "java/lang/invoke/VarHandle" ∧ (parseMethodDescriptor yX20_bitCount.desc).map (fun d => d.parameters.length) = some 1 := by decide +kernel
set_option maxRecDepth 100000 in
set_option maxHeartbeats 4000000 in
theorem c_X20_bitCount {E : En} {l : Launch}  {x0 : Int32} {out : Int32} (hf : f_X20_bitCount x0 = out) : Cn E l yX20_bitCount cX20_bitCount 1 (some .int) rm_X20_bitCount [.int (x0)] (([] : va_W)) (some (.int out)) (([] : va_W)) := by
  refine Cn.of (by decide) (Nat.le_of_ble_eq_true rfl) rfl ?_
  intro p e s m below meth c A ls args H locs X hw hl
  have hx := X.1.1
  have hb := X.1.2.1
  have ho := X.1.2.2.2.1
  have hts := X.1.2.2.2.2
  have hl : lv_has ls 1 [(0, .int (x0))] := hl
  unfold f_X20_bitCount at hf
  refine lv_iload_n hx hb dX20_bitCount_0 rfl (lv_at hl 0 rfl) ?_
  refine lv_iload_n hx hb dX20_bitCount_1 rfl (lv_at hl 0 rfl) ?_
  refine lv_iconst (v := (1 : Int32)) hx hb dX20_bitCount_2 (by decide) ?_
  refine lv_iushr (v := ((x0).toUInt32 >>> (((1 : Int32)).toUInt32 &&& Int32.toUInt32 31)).toInt32) hx hb dX20_bitCount_3 rfl ?_
  refine lv_ldcw (v := (1431655765 : Int32)) hx hb ho (hts _ tw_703) dX20_bitCount_4 ?_
  refine lv_iand hx hb dX20_bitCount_7 ?_
  refine lv_isub hx hb dX20_bitCount_8 ?_
  refine lv_istore_n (lv' := [(0, .int ((x0 - ((((x0).toUInt32 >>> (((1 : Int32)).toUInt32 &&& Int32.toUInt32 31)).toInt32) &&& (1431655765 : Int32)))))]) hx hb dX20_bitCount_9 rfl hl (by decide) rfl (fun ls hl => ?_)
  refine lv_iload_n hx hb dX20_bitCount_10 rfl (lv_at hl 0 rfl) ?_
  refine lv_ldcw (v := (858993459 : Int32)) hx hb ho (hts _ tw_704) dX20_bitCount_11 ?_
  refine lv_iand hx hb dX20_bitCount_14 ?_
  refine lv_iload_n hx hb dX20_bitCount_15 rfl (lv_at hl 0 rfl) ?_
  refine lv_iconst (v := (2 : Int32)) hx hb dX20_bitCount_16 (by decide) ?_
  refine lv_iushr (v := (((x0 - ((((x0).toUInt32 >>> (((1 : Int32)).toUInt32 &&& Int32.toUInt32 31)).toInt32) &&& (1431655765 : Int32)))).toUInt32 >>> (((2 : Int32)).toUInt32 &&& Int32.toUInt32 31)).toInt32) hx hb dX20_bitCount_17 rfl ?_
  refine lv_ldcw (v := (858993459 : Int32)) hx hb ho (hts _ tw_704) dX20_bitCount_18 ?_
  refine lv_iand hx hb dX20_bitCount_21 ?_
  refine lv_iadd hx hb dX20_bitCount_22 ?_
  refine lv_istore_n (lv' := [(0, .int ((((x0 - ((((x0).toUInt32 >>> (((1 : Int32)).toUInt32 &&& Int32.toUInt32 31)).toInt32) &&& (1431655765 : Int32))) &&& (858993459 : Int32)) + (((((x0 - ((((x0).toUInt32 >>> (((1 : Int32)).toUInt32 &&& Int32.toUInt32 31)).toInt32) &&& (1431655765 : Int32)))).toUInt32 >>> (((2 : Int32)).toUInt32 &&& Int32.toUInt32 31)).toInt32) &&& (858993459 : Int32)))))]) hx hb dX20_bitCount_23 rfl hl (by decide) rfl (fun ls hl => ?_)
  refine lv_iload_n hx hb dX20_bitCount_24 rfl (lv_at hl 0 rfl) ?_
  refine lv_iload_n hx hb dX20_bitCount_25 rfl (lv_at hl 0 rfl) ?_
  refine lv_iconst (v := (4 : Int32)) hx hb dX20_bitCount_26 (by decide) ?_
  refine lv_iushr (v := (((((x0 - ((((x0).toUInt32 >>> (((1 : Int32)).toUInt32 &&& Int32.toUInt32 31)).toInt32) &&& (1431655765 : Int32))) &&& (858993459 : Int32)) + (((((x0 - ((((x0).toUInt32 >>> (((1 : Int32)).toUInt32 &&& Int32.toUInt32 31)).toInt32) &&& (1431655765 : Int32)))).toUInt32 >>> (((2 : Int32)).toUInt32 &&& Int32.toUInt32 31)).toInt32) &&& (858993459 : Int32)))).toUInt32 >>> (((4 : Int32)).toUInt32 &&& Int32.toUInt32 31)).toInt32) hx hb dX20_bitCount_27 rfl ?_
  refine lv_iadd hx hb dX20_bitCount_28 ?_
  refine lv_ldcw (v := (252645135 : Int32)) hx hb ho (hts _ tw_705) dX20_bitCount_29 ?_
  refine lv_iand hx hb dX20_bitCount_32 ?_
  refine lv_istore_n (lv' := [(0, .int ((((((x0 - ((((x0).toUInt32 >>> (((1 : Int32)).toUInt32 &&& Int32.toUInt32 31)).toInt32) &&& (1431655765 : Int32))) &&& (858993459 : Int32)) + (((((x0 - ((((x0).toUInt32 >>> (((1 : Int32)).toUInt32 &&& Int32.toUInt32 31)).toInt32) &&& (1431655765 : Int32)))).toUInt32 >>> (((2 : Int32)).toUInt32 &&& Int32.toUInt32 31)).toInt32) &&& (858993459 : Int32))) + ((((((x0 - ((((x0).toUInt32 >>> (((1 : Int32)).toUInt32 &&& Int32.toUInt32 31)).toInt32) &&& (1431655765 : Int32))) &&& (858993459 : Int32)) + (((((x0 - ((((x0).toUInt32 >>> (((1 : Int32)).toUInt32 &&& Int32.toUInt32 31)).toInt32) &&& (1431655765 : Int32)))).toUInt32 >>> (((2 : Int32)).toUInt32 &&& Int32.toUInt32 31)).toInt32) &&& (858993459 : Int32)))).toUInt32 >>> (((4 : Int32)).toUInt32 &&& Int32.toUInt32 31)).toInt32)) &&& (252645135 : Int32))))]) hx hb dX20_bitCount_33 rfl hl (by decide) rfl (fun ls hl => ?_)
  refine lv_iload_n hx hb dX20_bitCount_34 rfl (lv_at hl 0 rfl) ?_
  refine lv_iload_n hx hb dX20_bitCount_35 rfl (lv_at hl 0 rfl) ?_
  refine lv_bipush (v := (8 : Int32)) hx hb dX20_bitCount_36 (by decide) ?_
  refine lv_iushr (v := (((((((x0 - ((((x0).toUInt32 >>> (((1 : Int32)).toUInt32 &&& Int32.toUInt32 31)).toInt32) &&& (1431655765 : Int32))) &&& (858993459 : Int32)) + (((((x0 - ((((x0).toUInt32 >>> (((1 : Int32)).toUInt32 &&& Int32.toUInt32 31)).toInt32) &&& (1431655765 : Int32)))).toUInt32 >>> (((2 : Int32)).toUInt32 &&& Int32.toUInt32 31)).toInt32) &&& (858993459 : Int32))) + ((((((x0 - ((((x0).toUInt32 >>> (((1 : Int32)).toUInt32 &&& Int32.toUInt32 31)).toInt32) &&& (1431655765 : Int32))) &&& (858993459 : Int32)) + (((((x0 - ((((x0).toUInt32 >>> (((1 : Int32)).toUInt32 &&& Int32.toUInt32 31)).toInt32) &&& (1431655765 : Int32)))).toUInt32 >>> (((2 : Int32)).toUInt32 &&& Int32.toUInt32 31)).toInt32) &&& (858993459 : Int32)))).toUInt32 >>> (((4 : Int32)).toUInt32 &&& Int32.toUInt32 31)).toInt32)) &&& (252645135 : Int32))).toUInt32 >>> (((8 : Int32)).toUInt32 &&& Int32.toUInt32 31)).toInt32) hx hb dX20_bitCount_38 rfl ?_
  refine lv_iadd hx hb dX20_bitCount_39 ?_
  refine lv_istore_n (lv' := [(0, .int (((((((x0 - ((((x0).toUInt32 >>> (((1 : Int32)).toUInt32 &&& Int32.toUInt32 31)).toInt32) &&& (1431655765 : Int32))) &&& (858993459 : Int32)) + (((((x0 - ((((x0).toUInt32 >>> (((1 : Int32)).toUInt32 &&& Int32.toUInt32 31)).toInt32) &&& (1431655765 : Int32)))).toUInt32 >>> (((2 : Int32)).toUInt32 &&& Int32.toUInt32 31)).toInt32) &&& (858993459 : Int32))) + ((((((x0 - ((((x0).toUInt32 >>> (((1 : Int32)).toUInt32 &&& Int32.toUInt32 31)).toInt32) &&& (1431655765 : Int32))) &&& (858993459 : Int32)) + (((((x0 - ((((x0).toUInt32 >>> (((1 : Int32)).toUInt32 &&& Int32.toUInt32 31)).toInt32) &&& (1431655765 : Int32)))).toUInt32 >>> (((2 : Int32)).toUInt32 &&& Int32.toUInt32 31)).toInt32) &&& (858993459 : Int32)))).toUInt32 >>> (((4 : Int32)).toUInt32 &&& Int32.toUInt32 31)).toInt32)) &&& (252645135 : Int32)) + ((((((((x0 - ((((x0).toUInt32 >>> (((1 : Int32)).toUInt32 &&& Int32.toUInt32 31)).toInt32) &&& (1431655765 : Int32))) &&& (858993459 : Int32)) + (((((x0 - ((((x0).toUInt32 >>> (((1 : Int32)).toUInt32 &&& Int32.toUInt32 31)).toInt32) &&& (1431655765 : Int32)))).toUInt32 >>> (((2 : Int32)).toUInt32 &&& Int32.toUInt32 31)).toInt32) &&& (858993459 : Int32))) + ((((((x0 - ((((x0).toUInt32 >>> (((1 : Int32)).toUInt32 &&& Int32.toUInt32 31)).toInt32) &&& (1431655765 : Int32))) &&& (858993459 : Int32)) + (((((x0 - ((((x0).toUInt32 >>> (((1 : Int32)).toUInt32 &&& Int32.toUInt32 31)).toInt32) &&& (1431655765 : Int32)))).toUInt32 >>> (((2 : Int32)).toUInt32 &&& Int32.toUInt32 31)).toInt32) &&& (858993459 : Int32)))).toUInt32 >>> (((4 : Int32)).toUInt32 &&& Int32.toUInt32 31)).toInt32)) &&& (252645135 : Int32))).toUInt32 >>> (((8 : Int32)).toUInt32 &&& Int32.toUInt32 31)).toInt32))))]) hx hb dX20_bitCount_40 rfl hl (by decide) rfl (fun ls hl => ?_)
  refine lv_iload_n hx hb dX20_bitCount_41 rfl (lv_at hl 0 rfl) ?_
  refine lv_iload_n hx hb dX20_bitCount_42 rfl (lv_at hl 0 rfl) ?_
  refine lv_bipush (v := (16 : Int32)) hx hb dX20_bitCount_43 (by decide) ?_
  refine lv_iushr (v := ((((((((x0 - ((((x0).toUInt32 >>> (((1 : Int32)).toUInt32 &&& Int32.toUInt32 31)).toInt32) &&& (1431655765 : Int32))) &&& (858993459 : Int32)) + (((((x0 - ((((x0).toUInt32 >>> (((1 : Int32)).toUInt32 &&& Int32.toUInt32 31)).toInt32) &&& (1431655765 : Int32)))).toUInt32 >>> (((2 : Int32)).toUInt32 &&& Int32.toUInt32 31)).toInt32) &&& (858993459 : Int32))) + ((((((x0 - ((((x0).toUInt32 >>> (((1 : Int32)).toUInt32 &&& Int32.toUInt32 31)).toInt32) &&& (1431655765 : Int32))) &&& (858993459 : Int32)) + (((((x0 - ((((x0).toUInt32 >>> (((1 : Int32)).toUInt32 &&& Int32.toUInt32 31)).toInt32) &&& (1431655765 : Int32)))).toUInt32 >>> (((2 : Int32)).toUInt32 &&& Int32.toUInt32 31)).toInt32) &&& (858993459 : Int32)))).toUInt32 >>> (((4 : Int32)).toUInt32 &&& Int32.toUInt32 31)).toInt32)) &&& (252645135 : Int32)) + ((((((((x0 - ((((x0).toUInt32 >>> (((1 : Int32)).toUInt32 &&& Int32.toUInt32 31)).toInt32) &&& (1431655765 : Int32))) &&& (858993459 : Int32)) + (((((x0 - ((((x0).toUInt32 >>> (((1 : Int32)).toUInt32 &&& Int32.toUInt32 31)).toInt32) &&& (1431655765 : Int32)))).toUInt32 >>> (((2 : Int32)).toUInt32 &&& Int32.toUInt32 31)).toInt32) &&& (858993459 : Int32))) + ((((((x0 - ((((x0).toUInt32 >>> (((1 : Int32)).toUInt32 &&& Int32.toUInt32 31)).toInt32) &&& (1431655765 : Int32))) &&& (858993459 : Int32)) + (((((x0 - ((((x0).toUInt32 >>> (((1 : Int32)).toUInt32 &&& Int32.toUInt32 31)).toInt32) &&& (1431655765 : Int32)))).toUInt32 >>> (((2 : Int32)).toUInt32 &&& Int32.toUInt32 31)).toInt32) &&& (858993459 : Int32)))).toUInt32 >>> (((4 : Int32)).toUInt32 &&& Int32.toUInt32 31)).toInt32)) &&& (252645135 : Int32))).toUInt32 >>> (((8 : Int32)).toUInt32 &&& Int32.toUInt32 31)).toInt32))).toUInt32 >>> (((16 : Int32)).toUInt32 &&& Int32.toUInt32 31)).toInt32) hx hb dX20_bitCount_45 rfl ?_
  refine lv_iadd hx hb dX20_bitCount_46 ?_
  refine lv_istore_n (lv' := [(0, .int ((((((((x0 - ((((x0).toUInt32 >>> (((1 : Int32)).toUInt32 &&& Int32.toUInt32 31)).toInt32) &&& (1431655765 : Int32))) &&& (858993459 : Int32)) + (((((x0 - ((((x0).toUInt32 >>> (((1 : Int32)).toUInt32 &&& Int32.toUInt32 31)).toInt32) &&& (1431655765 : Int32)))).toUInt32 >>> (((2 : Int32)).toUInt32 &&& Int32.toUInt32 31)).toInt32) &&& (858993459 : Int32))) + ((((((x0 - ((((x0).toUInt32 >>> (((1 : Int32)).toUInt32 &&& Int32.toUInt32 31)).toInt32) &&& (1431655765 : Int32))) &&& (858993459 : Int32)) + (((((x0 - ((((x0).toUInt32 >>> (((1 : Int32)).toUInt32 &&& Int32.toUInt32 31)).toInt32) &&& (1431655765 : Int32)))).toUInt32 >>> (((2 : Int32)).toUInt32 &&& Int32.toUInt32 31)).toInt32) &&& (858993459 : Int32)))).toUInt32 >>> (((4 : Int32)).toUInt32 &&& Int32.toUInt32 31)).toInt32)) &&& (252645135 : Int32)) + ((((((((x0 - ((((x0).toUInt32 >>> (((1 : Int32)).toUInt32 &&& Int32.toUInt32 31)).toInt32) &&& (1431655765 : Int32))) &&& (858993459 : Int32)) + (((((x0 - ((((x0).toUInt32 >>> (((1 : Int32)).toUInt32 &&& Int32.toUInt32 31)).toInt32) &&& (1431655765 : Int32)))).toUInt32 >>> (((2 : Int32)).toUInt32 &&& Int32.toUInt32 31)).toInt32) &&& (858993459 : Int32))) + ((((((x0 - ((((x0).toUInt32 >>> (((1 : Int32)).toUInt32 &&& Int32.toUInt32 31)).toInt32) &&& (1431655765 : Int32))) &&& (858993459 : Int32)) + (((((x0 - ((((x0).toUInt32 >>> (((1 : Int32)).toUInt32 &&& Int32.toUInt32 31)).toInt32) &&& (1431655765 : Int32)))).toUInt32 >>> (((2 : Int32)).toUInt32 &&& Int32.toUInt32 31)).toInt32) &&& (858993459 : Int32)))).toUInt32 >>> (((4 : Int32)).toUInt32 &&& Int32.toUInt32 31)).toInt32)) &&& (252645135 : Int32))).toUInt32 >>> (((8 : Int32)).toUInt32 &&& Int32.toUInt32 31)).toInt32)) + (((((((((x0 - ((((x0).toUInt32 >>> (((1 : Int32)).toUInt32 &&& Int32.toUInt32 31)).toInt32) &&& (1431655765 : Int32))) &&& (858993459 : Int32)) + (((((x0 - ((((x0).toUInt32 >>> (((1 : Int32)).toUInt32 &&& Int32.toUInt32 31)).toInt32) &&& (1431655765 : Int32)))).toUInt32 >>> (((2 : Int32)).toUInt32 &&& Int32.toUInt32 31)).toInt32) &&& (858993459 : Int32))) + ((((((x0 - ((((x0).toUInt32 >>> (((1 : Int32)).toUInt32 &&& Int32.toUInt32 31)).toInt32) &&& (1431655765 : Int32))) &&& (858993459 : Int32)) + (((((x0 - ((((x0).toUInt32 >>> (((1 : Int32)).toUInt32 &&& Int32.toUInt32 31)).toInt32) &&& (1431655765 : Int32)))).toUInt32 >>> (((2 : Int32)).toUInt32 &&& Int32.toUInt32 31)).toInt32) &&& (858993459 : Int32)))).toUInt32 >>> (((4 : Int32)).toUInt32 &&& Int32.toUInt32 31)).toInt32)) &&& (252645135 : Int32)) + ((((((((x0 - ((((x0).toUInt32 >>> (((1 : Int32)).toUInt32 &&& Int32.toUInt32 31)).toInt32) &&& (1431655765 : Int32))) &&& (858993459 : Int32)) + (((((x0 - ((((x0).toUInt32 >>> (((1 : Int32)).toUInt32 &&& Int32.toUInt32 31)).toInt32) &&& (1431655765 : Int32)))).toUInt32 >>> (((2 : Int32)).toUInt32 &&& Int32.toUInt32 31)).toInt32) &&& (858993459 : Int32))) + ((((((x0 - ((((x0).toUInt32 >>> (((1 : Int32)).toUInt32 &&& Int32.toUInt32 31)).toInt32) &&& (1431655765 : Int32))) &&& (858993459 : Int32)) + (((((x0 - ((((x0).toUInt32 >>> (((1 : Int32)).toUInt32 &&& Int32.toUInt32 31)).toInt32) &&& (1431655765 : Int32)))).toUInt32 >>> (((2 : Int32)).toUInt32 &&& Int32.toUInt32 31)).toInt32) &&& (858993459 : Int32)))).toUInt32 >>> (((4 : Int32)).toUInt32 &&& Int32.toUInt32 31)).toInt32)) &&& (252645135 : Int32))).toUInt32 >>> (((8 : Int32)).toUInt32 &&& Int32.toUInt32 31)).toInt32))).toUInt32 >>> (((16 : Int32)).toUInt32 &&& Int32.toUInt32 31)).toInt32))))]) hx hb dX20_bitCount_47 rfl hl (by decide) rfl (fun ls hl => ?_)
  refine lv_iload_n hx hb dX20_bitCount_48 rfl (lv_at hl 0 rfl) ?_
  refine lv_bipush (v := (63 : Int32)) hx hb dX20_bitCount_49 (by decide) ?_
  refine lv_iand hx hb dX20_bitCount_51 ?_
  subst hf
  exact k_iret X hw dX20_bitCount_52
/-! void clear(); -/
def f_X1_clear_33 : Nat → Int32 → Int32 → Int32 → Int32 → Int32 → Int32 → (Nat → Int32) → Int32 → Option (Int32 × Int32 × Int32 × Int32 × Int32 × Int32 × (Nat → Int32) × Int32 × Int32 × Int32 × Int32 × Int32)
  | 0, _, _, _, _, _, _, _, _ => none
  | n + 1, t_men, t_consuls, t_dangers, t_decrees, t_term, t_termTold, t_hated, x1 => if (6 : Int32) ≤ x1 then some (t_men, t_consuls, t_dangers, t_decrees, t_term, t_termTold, t_hated, (f_X3_clear).1, (f_X3_clear).2.1, (f_X3_clear).2.2.1, (f_X3_clear).2.2.2.1, (f_X3_clear).2.2.2.2)
    else f_X1_clear_33 n t_men t_consuls t_dangers t_decrees t_term t_termTold ((gp (6) t_hated (x1) ((0 : Int32)))) ((x1 + (1 : Int32)))
def f_X1_clear (t_hated : (Nat → Int32)) : Option (Int32 × Int32 × Int32 × Int32 × Int32 × Int32 × (Nat → Int32) × Int32 × Int32 × Int32 × Int32 × Int32) := f_X1_clear_33 1100 ((0 : Int32)) ((0 : Int32)) ((0 : Int32)) ((0 : Int32)) ((6 : Int32)) ((0 : Int32)) t_hated ((0 : Int32))
abbrev rm_X1_clear : Room := { frames := 1, cells := 0, slots := 0, locals := 22 }
theorem hd_X1_clear : yX1_clear.cls = RX1 ∧ yX1_clear.cls ≠ "java/lang/invoke/MethodHandle" ∧ yX1_clear.cls ≠ "java/lang/invoke/VarHandle" ∧ (parseMethodDescriptor yX1_clear.desc).map (fun d => d.parameters.length) = some 0 := by decide +kernel
set_option maxRecDepth 100000 in
set_option maxHeartbeats 4000000 in
theorem kb_X1_clear_33 {E : En} {p : Program} {l : Launch} {e : Env} {s : State} {m : MethodId} {args : Array Value} {below : List Frame} {meth : Method} {c : Code} {A : Nat → Prop} {t_o : Nat} {t_q : Nat → Nat} {t_manNames : (Nat → Int64)} {t_kinds : (Nat → Int32)} {t_skills : (Nat → Int32)} {t_fields : (Nat → Int32)} {t_wants : (Nat → Int32)} {t_dangerNames : (Nat → Int64)} {t_sizes : (Nat → Int32)} {t_grows : (Nat → Int32)} {t_decreeNames : (Nat → Int64)} {t_grounds : (Nat → Int32)} {tslaws_o : Nat} {tslaws_q : Nat → Nat} {tslaws_ops : (Nat → Int32)} {tslaws_stack : (Nat → Int32)} {out : Int32 × Int32 × Int32 × Int32 × Int32 × Int32 × (Nat → Int32) × Int32 × Int32 × Int32 × Int32 × Int32} (X : Bx E A p s m args meth c cX1_clear 2 RX1 none) : ∀ (n : Nat) {t_men : Int32} {t_consuls : Int32} {t_dangers : Int32} {t_decrees : Int32} {t_term : Int32} {t_termTold : Int32} {t_hated : (Nat → Int32)} {tslaws_size : Int32} {tslaws_worksFrom : Int32} {tslaws_worksTo : Int32} {tslaws_keepsFrom : Int32} {tslaws_keepsTo : Int32} {x1 : Int32} {H : Heap} {locs : List Loc} {ls : Array Slot}, f_X1_clear_33 n t_men t_consuls t_dangers t_decrees t_term t_termTold t_hated x1 = some out → Wd E A s.heap (wX1 E t_o t_q t_men t_consuls t_dangers t_decrees t_term t_termTold t_manNames t_kinds t_skills t_fields t_wants t_hated t_dangerNames t_sizes t_grows t_decreeNames t_grounds (.ref tslaws_o) ++ (wX3 E tslaws_o tslaws_q tslaws_ops tslaws_stack tslaws_size tslaws_worksFrom tslaws_worksTo tslaws_keepsFrom tslaws_keepsTo)) H locs → lv_has ls 2 [(0, .ref t_o), (1, .int (x1))] → W p l e rm_X1_clear s m args below meth c H locs 0 0 (Zn E below args s A none (wX1 E t_o t_q out.1 out.2.1 out.2.2.1 out.2.2.2.1 out.2.2.2.2.1 out.2.2.2.2.2.1 t_manNames t_kinds t_skills t_fields t_wants out.2.2.2.2.2.2.1 t_dangerNames t_sizes t_grows t_decreeNames t_grounds (.ref tslaws_o) ++ (wX3 E tslaws_o tslaws_q tslaws_ops tslaws_stack out.2.2.2.2.2.2.2.1 out.2.2.2.2.2.2.2.2.1 out.2.2.2.2.2.2.2.2.2.1 out.2.2.2.2.2.2.2.2.2.2.1 out.2.2.2.2.2.2.2.2.2.2.2))) (F0 m 33 ls []) := by
  have hx := X.1.1
  have hb := X.1.2.1
  have ho := X.1.2.2.2.1
  have hts := X.1.2.2.2.2
  intro n
  induction n with
  | zero =>
    intro t_men t_consuls t_dangers t_decrees t_term t_termTold t_hated tslaws_size tslaws_worksFrom tslaws_worksTo tslaws_keepsFrom tslaws_keepsTo x1 H locs ls hf
    have hf : (none : Option (Int32 × Int32 × Int32 × Int32 × Int32 × Int32 × (Nat → Int32) × Int32 × Int32 × Int32 × Int32 × Int32)) = some out := hf
    cases hf
  | succ n ih =>
    intro t_men t_consuls t_dangers t_decrees t_term t_termTold t_hated tslaws_size tslaws_worksFrom tslaws_worksTo tslaws_keepsFrom tslaws_keepsTo x1 H locs ls hf hw hl
    rw [f_X1_clear_33.eq_2] at hf
    refine lv_iload_n hx hb dX1_clear_33 rfl (lv_at hl 1 rfl) ?_
    refine lv_bipush (v := (6 : Int32)) hx hb dX1_clear_34 (by decide) ?_
    refine lv_icmp_ge (tgt := 54) hx hb dX1_clear_36 (by decide) (fun c_36 => ?_) (fun c_36 => ?_)
    · have hf := (if_pos c_36).symm.trans hf
      refine lv_aload_n hx hb dX1_clear_54 rfl (lv_at hl 0 rfl) ?_
      refine k_get (q0 := 0) (ci := 0) (C := RX1) (T := TX1) (N := 18) (x := .ref tslaws_o) X inx_1 hw rfl rfl 17 (by decide) rfl tw_420 rfl dX1_clear_55 ?_
      refine k_V (As := []) (rest := []) (index := 77) (C := RX3) X (c_X3_clear (out := (f_X3_clear)) rfl) tw_578 tw_579 tw_580 tw_127 tw_581 ⟨rfl, rfl⟩ hd_X3_clear ⟨Nat.le_of_ble_eq_true rfl, Nat.le_of_ble_eq_true rfl⟩ ⟨Nat.zero_le _, Nat.zero_le _⟩ hw [12, 13, 14] rfl rfl 12 rfl rfl rfl rfl hl.1 rfl (Nat.le_of_ble_eq_true rfl) dX1_clear_58 (fun H locs hw => ?_)
      have hw : Wd E A s.heap (wX1 E t_o t_q t_men t_consuls t_dangers t_decrees t_term t_termTold t_manNames t_kinds t_skills t_fields t_wants t_hated t_dangerNames t_sizes t_grows t_decreeNames t_grounds (.ref tslaws_o) ++ (wX3 E tslaws_o tslaws_q tslaws_ops tslaws_stack ((f_X3_clear).1) ((f_X3_clear).2.1) ((f_X3_clear).2.2.1) ((f_X3_clear).2.2.2.1) ((f_X3_clear).2.2.2.2))) H locs := hw
      obtain rfl := Option.some.inj hf
      exact k_vret X hw dX1_clear_61
    · have hf := (if_neg c_36).symm.trans hf
      refine lv_aload_n hx hb dX1_clear_39 rfl (lv_at hl 0 rfl) ?_
      refine k_get (q0 := 0) (ci := 0) (C := RX1) (T := TX1) (N := 18) (x := .ref (t_q 11)) X inx_1 hw rfl rfl 11 (by decide) rfl tw_406 rfl dX1_clear_40 ?_
      refine lv_iload_n hx hb dX1_clear_43 rfl (lv_at hl 1 rfl) ?_
      refine lv_iconst (v := (0 : Int32)) hx hb dX1_clear_44 (by decide) ?_
      refine k_SN (As := [.ref (t_q 11), .int (x1), .int ((0 : Int32))]) (rest := []) (host := "PloughCall") (index := 73) X (ct_X12_put (out := (gp (6) t_hated (x1) ((0 : Int32)))) rfl) nw_77 tw_119 tw_563 tw_564 ⟨rfl, rfl⟩ hd_X12_put.2 ⟨Nat.le_of_ble_eq_true rfl, Nat.le_of_ble_eq_true rfl⟩ ⟨Nat.zero_le _, Nat.zero_le _⟩ hw [6] rfl rfl rfl hl.1 rfl (Nat.le_of_ble_eq_true rfl) dX1_clear_45 (fun H locs hw => ?_)
      have hw : Wd E A s.heap (wX1 E t_o t_q t_men t_consuls t_dangers t_decrees t_term t_termTold t_manNames t_kinds t_skills t_fields t_wants ((gp (6) t_hated (x1) ((0 : Int32)))) t_dangerNames t_sizes t_grows t_decreeNames t_grounds (.ref tslaws_o) ++ (wX3 E tslaws_o tslaws_q tslaws_ops tslaws_stack tslaws_size tslaws_worksFrom tslaws_worksTo tslaws_keepsFrom tslaws_keepsTo)) H locs := hw
      refine lv_iinc (v := (x1 + (1 : Int32))) (lv' := [(1, .int ((x1 + (1 : Int32)))), (0, .ref t_o)]) hx hb dX1_clear_48 hl (k := 1) rfl rfl (by decide) rfl (fun ls hl => ?_)
      refine lv_goto (tgt := 33) hx hb dX1_clear_51 (by decide) ?_
      exact ih hf hw (lv_sub hl [1, 0] rfl)
set_option maxRecDepth 100000 in
set_option maxHeartbeats 4000000 in
theorem c_X1_clear {E : En} {l : Launch} {t_o : Nat} {t_q : Nat → Nat} {t_men : Int32} {t_consuls : Int32} {t_dangers : Int32} {t_decrees : Int32} {t_term : Int32} {t_termTold : Int32} {t_manNames : (Nat → Int64)} {t_kinds : (Nat → Int32)} {t_skills : (Nat → Int32)} {t_fields : (Nat → Int32)} {t_wants : (Nat → Int32)} {t_hated : (Nat → Int32)} {t_dangerNames : (Nat → Int64)} {t_sizes : (Nat → Int32)} {t_grows : (Nat → Int32)} {t_decreeNames : (Nat → Int64)} {t_grounds : (Nat → Int32)} {tslaws_o : Nat} {tslaws_q : Nat → Nat} {tslaws_ops : (Nat → Int32)} {tslaws_stack : (Nat → Int32)} {tslaws_size : Int32} {tslaws_worksFrom : Int32} {tslaws_worksTo : Int32} {tslaws_keepsFrom : Int32} {tslaws_keepsTo : Int32}  {out : Int32 × Int32 × Int32 × Int32 × Int32 × Int32 × (Nat → Int32) × Int32 × Int32 × Int32 × Int32 × Int32} (hf : f_X1_clear t_hated = some out) : Cn E l yX1_clear cX1_clear 2 none rm_X1_clear [.ref t_o] (wX1 E t_o t_q t_men t_consuls t_dangers t_decrees t_term t_termTold t_manNames t_kinds t_skills t_fields t_wants t_hated t_dangerNames t_sizes t_grows t_decreeNames t_grounds (.ref tslaws_o) ++ (wX3 E tslaws_o tslaws_q tslaws_ops tslaws_stack tslaws_size tslaws_worksFrom tslaws_worksTo tslaws_keepsFrom tslaws_keepsTo)) none (wX1 E t_o t_q out.1 out.2.1 out.2.2.1 out.2.2.2.1 out.2.2.2.2.1 out.2.2.2.2.2.1 t_manNames t_kinds t_skills t_fields t_wants out.2.2.2.2.2.2.1 t_dangerNames t_sizes t_grows t_decreeNames t_grounds (.ref tslaws_o) ++ (wX3 E tslaws_o tslaws_q tslaws_ops tslaws_stack out.2.2.2.2.2.2.2.1 out.2.2.2.2.2.2.2.2.1 out.2.2.2.2.2.2.2.2.2.1 out.2.2.2.2.2.2.2.2.2.2.1 out.2.2.2.2.2.2.2.2.2.2.2)) := by
  refine Cn.of (by decide) (Nat.le_of_ble_eq_true rfl) rfl ?_
  intro p e s m below meth c A ls args H locs X hw hl
  have hx := X.1.1
  have hb := X.1.2.1
  have ho := X.1.2.2.2.1
  have hts := X.1.2.2.2.2
  have hl : lv_has ls 2 [(0, .ref t_o)] := hl
  unfold f_X1_clear at hf
  refine lv_aload_n hx hb dX1_clear_0 rfl (lv_at hl 0 rfl) ?_
  refine lv_iconst (v := (0 : Int32)) hx hb dX1_clear_1 (by decide) ?_
  refine k_put (q0 := 0) (ci := 0) (C := RX1) (T := TX1) (N := 18) (ty0 := tyX1) (x := .int ((0 : Int32))) X inx_1 tyX1_ok nmX1 hw rfl rfl 0 (by decide) rfl rfl tw_372 rfl rfl (Nat.le_of_ble_eq_true rfl) dX1_clear_2 (fun H locs hw => ?_)
  have hw : Wd E A s.heap (wX1 E t_o t_q ((0 : Int32)) t_consuls t_dangers t_decrees t_term t_termTold t_manNames t_kinds t_skills t_fields t_wants t_hated t_dangerNames t_sizes t_grows t_decreeNames t_grounds (.ref tslaws_o) ++ (wX3 E tslaws_o tslaws_q tslaws_ops tslaws_stack tslaws_size tslaws_worksFrom tslaws_worksTo tslaws_keepsFrom tslaws_keepsTo)) H locs := hw
  refine lv_aload_n hx hb dX1_clear_5 rfl (lv_at hl 0 rfl) ?_
  refine lv_iconst (v := (0 : Int32)) hx hb dX1_clear_6 (by decide) ?_
  refine k_put (q0 := 0) (ci := 0) (C := RX1) (T := TX1) (N := 18) (ty0 := tyX1) (x := .int ((0 : Int32))) X inx_1 tyX1_ok nmX1 hw rfl rfl 1 (by decide) rfl rfl tw_378 rfl rfl (Nat.le_of_ble_eq_true rfl) dX1_clear_7 (fun H locs hw => ?_)
  have hw : Wd E A s.heap (wX1 E t_o t_q ((0 : Int32)) ((0 : Int32)) t_dangers t_decrees t_term t_termTold t_manNames t_kinds t_skills t_fields t_wants t_hated t_dangerNames t_sizes t_grows t_decreeNames t_grounds (.ref tslaws_o) ++ (wX3 E tslaws_o tslaws_q tslaws_ops tslaws_stack tslaws_size tslaws_worksFrom tslaws_worksTo tslaws_keepsFrom tslaws_keepsTo)) H locs := hw
  refine lv_aload_n hx hb dX1_clear_10 rfl (lv_at hl 0 rfl) ?_
  refine lv_iconst (v := (0 : Int32)) hx hb dX1_clear_11 (by decide) ?_
  refine k_put (q0 := 0) (ci := 0) (C := RX1) (T := TX1) (N := 18) (ty0 := tyX1) (x := .int ((0 : Int32))) X inx_1 tyX1_ok nmX1 hw rfl rfl 2 (by decide) rfl rfl tw_381 rfl rfl (Nat.le_of_ble_eq_true rfl) dX1_clear_12 (fun H locs hw => ?_)
  have hw : Wd E A s.heap (wX1 E t_o t_q ((0 : Int32)) ((0 : Int32)) ((0 : Int32)) t_decrees t_term t_termTold t_manNames t_kinds t_skills t_fields t_wants t_hated t_dangerNames t_sizes t_grows t_decreeNames t_grounds (.ref tslaws_o) ++ (wX3 E tslaws_o tslaws_q tslaws_ops tslaws_stack tslaws_size tslaws_worksFrom tslaws_worksTo tslaws_keepsFrom tslaws_keepsTo)) H locs := hw
  refine lv_aload_n hx hb dX1_clear_15 rfl (lv_at hl 0 rfl) ?_
  refine lv_iconst (v := (0 : Int32)) hx hb dX1_clear_16 (by decide) ?_
  refine k_put (q0 := 0) (ci := 0) (C := RX1) (T := TX1) (N := 18) (ty0 := tyX1) (x := .int ((0 : Int32))) X inx_1 tyX1_ok nmX1 hw rfl rfl 3 (by decide) rfl rfl tw_386 rfl rfl (Nat.le_of_ble_eq_true rfl) dX1_clear_17 (fun H locs hw => ?_)
  have hw : Wd E A s.heap (wX1 E t_o t_q ((0 : Int32)) ((0 : Int32)) ((0 : Int32)) ((0 : Int32)) t_term t_termTold t_manNames t_kinds t_skills t_fields t_wants t_hated t_dangerNames t_sizes t_grows t_decreeNames t_grounds (.ref tslaws_o) ++ (wX3 E tslaws_o tslaws_q tslaws_ops tslaws_stack tslaws_size tslaws_worksFrom tslaws_worksTo tslaws_keepsFrom tslaws_keepsTo)) H locs := hw
  refine lv_aload_n hx hb dX1_clear_20 rfl (lv_at hl 0 rfl) ?_
  refine lv_bipush (v := (6 : Int32)) hx hb dX1_clear_21 (by decide) ?_
  refine k_put (q0 := 0) (ci := 0) (C := RX1) (T := TX1) (N := 18) (ty0 := tyX1) (x := .int ((6 : Int32))) X inx_1 tyX1_ok nmX1 hw rfl rfl 4 (by decide) rfl rfl tw_389 rfl rfl (Nat.le_of_ble_eq_true rfl) dX1_clear_23 (fun H locs hw => ?_)
  have hw : Wd E A s.heap (wX1 E t_o t_q ((0 : Int32)) ((0 : Int32)) ((0 : Int32)) ((0 : Int32)) ((6 : Int32)) t_termTold t_manNames t_kinds t_skills t_fields t_wants t_hated t_dangerNames t_sizes t_grows t_decreeNames t_grounds (.ref tslaws_o) ++ (wX3 E tslaws_o tslaws_q tslaws_ops tslaws_stack tslaws_size tslaws_worksFrom tslaws_worksTo tslaws_keepsFrom tslaws_keepsTo)) H locs := hw
  refine lv_aload_n hx hb dX1_clear_26 rfl (lv_at hl 0 rfl) ?_
  refine lv_iconst (v := (0 : Int32)) hx hb dX1_clear_27 (by decide) ?_
  refine k_put (q0 := 0) (ci := 0) (C := RX1) (T := TX1) (N := 18) (ty0 := tyX1) (x := .int ((0 : Int32))) X inx_1 tyX1_ok nmX1 hw rfl rfl 5 (by decide) rfl rfl tw_393 rfl rfl (Nat.le_of_ble_eq_true rfl) dX1_clear_28 (fun H locs hw => ?_)
  have hw : Wd E A s.heap (wX1 E t_o t_q ((0 : Int32)) ((0 : Int32)) ((0 : Int32)) ((0 : Int32)) ((6 : Int32)) ((0 : Int32)) t_manNames t_kinds t_skills t_fields t_wants t_hated t_dangerNames t_sizes t_grows t_decreeNames t_grounds (.ref tslaws_o) ++ (wX3 E tslaws_o tslaws_q tslaws_ops tslaws_stack tslaws_size tslaws_worksFrom tslaws_worksTo tslaws_keepsFrom tslaws_keepsTo)) H locs := hw
  refine lv_iconst (v := (0 : Int32)) hx hb dX1_clear_31 (by decide) ?_
  refine lv_istore_n (lv' := [(1, .int ((0 : Int32))), (0, .ref t_o)]) hx hb dX1_clear_32 rfl hl (by decide) rfl (fun ls hl => ?_)
  exact kb_X1_clear_33 X 1100 hf hw (lv_sub hl [1, 0] rfl)
/-! void addMan(long, int, int, int, int); -/
def f_X1_addMan (t_men : Int32) (t_manNames : (Nat → Int64)) (t_kinds : (Nat → Int32)) (t_skills : (Nat → Int32)) (t_fields : (Nat → Int32)) (t_wants : (Nat → Int32)) (x1 : Int64) (x3 : Int32) (x4 : Int32) (x5 : Int32) (x6 : Int32) : Option (Int32 × (Nat → Int64) × (Nat → Int32) × (Nat → Int32) × (Nat → Int32) × (Nat → Int32)) := if t_men < (0 : Int32) then some (t_men, t_manNames, t_kinds, t_skills, t_fields, t_wants)
  else if t_men < (6 : Int32) then gd (t_men) 6 (some ((t_men + (1 : Int32)), vp_updL t_manNames (t_men).toNatClampNeg (x1), (gp (6) t_kinds (t_men) (x3)), (gp (6) t_skills (t_men) (x4)), (gp (6) t_fields (t_men) (x5)), (gp (6) t_wants (t_men) (x6))))
  else some (t_men, t_manNames, t_kinds, t_skills, t_fields, t_wants)
abbrev rm_X1_addMan : Room := { frames := 1, cells := 0, slots := 0, locals := 22 }
theorem hd_X1_addMan : yX1_addMan.cls = RX1 ∧ yX1_addMan.cls ≠ "java/lang/invoke/MethodHandle" ∧ yX1_addMan.cls ≠ "java/lang/invoke/VarHandle" ∧ (parseMethodDescriptor yX1_addMan.desc).map (fun d => d.parameters.length) = some 5 := by decide +kernel
set_option maxRecDepth 100000 in
set_option maxHeartbeats 4000000 in
theorem c_X1_addMan {E : En} {l : Launch} {t_o : Nat} {t_q : Nat → Nat} {t_men : Int32} {t_consuls : Int32} {t_dangers : Int32} {t_decrees : Int32} {t_term : Int32} {t_termTold : Int32} {t_manNames : (Nat → Int64)} {t_kinds : (Nat → Int32)} {t_skills : (Nat → Int32)} {t_fields : (Nat → Int32)} {t_wants : (Nat → Int32)} {t_hated : (Nat → Int32)} {t_dangerNames : (Nat → Int64)} {t_sizes : (Nat → Int32)} {t_grows : (Nat → Int32)} {t_decreeNames : (Nat → Int64)} {t_grounds : (Nat → Int32)} {t_laws : Value} {x1 : Int64} {x3 : Int32} {x4 : Int32} {x5 : Int32} {x6 : Int32} {out : Int32 × (Nat → Int64) × (Nat → Int32) × (Nat → Int32) × (Nat → Int32) × (Nat → Int32)} (hf : f_X1_addMan t_men t_manNames t_kinds t_skills t_fields t_wants x1 x3 x4 x5 x6 = some out) : Cn E l yX1_addMan cX1_addMan 7 none rm_X1_addMan [.ref t_o, .long (x1), .int (x3), .int (x4), .int (x5), .int (x6)] (wX1 E t_o t_q t_men t_consuls t_dangers t_decrees t_term t_termTold t_manNames t_kinds t_skills t_fields t_wants t_hated t_dangerNames t_sizes t_grows t_decreeNames t_grounds t_laws) none (wX1 E t_o t_q out.1 t_consuls t_dangers t_decrees t_term t_termTold out.2.1 out.2.2.1 out.2.2.2.1 out.2.2.2.2.1 out.2.2.2.2.2 t_hated t_dangerNames t_sizes t_grows t_decreeNames t_grounds t_laws) := by
  refine Cn.of (by decide) (Nat.le_of_ble_eq_true rfl) rfl ?_
  intro p e s m below meth c A ls args H locs X hw hl
  have hx := X.1.1
  have hb := X.1.2.1
  have ho := X.1.2.2.2.1
  have hts := X.1.2.2.2.2
  have hl : lv_has ls 7 [(0, .ref t_o), (1, .long (x1)), (3, .int (x3)), (4, .int (x4)), (5, .int (x5)), (6, .int (x6))] := hl
  unfold f_X1_addMan at hf
  refine lv_aload_n hx hb dX1_addMan_0 rfl (lv_at hl 0 rfl) ?_
  refine k_get (q0 := 0) (ci := 0) (C := RX1) (T := TX1) (N := 18) (x := .int (t_men)) X inx_1 hw rfl rfl 0 (by decide) rfl tw_372 rfl dX1_addMan_1 ?_
  refine lv_if_lt (tgt := 19) hx hb dX1_addMan_4 (by decide) (fun c_4 => ?_) (fun c_4 => ?_)
  · have hf := (if_pos c_4).symm.trans hf
    obtain rfl := Option.some.inj hf
    exact k_vret X hw dX1_addMan_19
  · have hf := (if_neg c_4).symm.trans hf
    refine lv_aload_n hx hb dX1_addMan_7 rfl (lv_at hl 0 rfl) ?_
    refine k_get (q0 := 0) (ci := 0) (C := RX1) (T := TX1) (N := 18) (x := .int (t_men)) X inx_1 hw rfl rfl 0 (by decide) rfl tw_372 rfl dX1_addMan_8 ?_
    refine lv_aload_n hx hb dX1_addMan_11 rfl (lv_at hl 0 rfl) ?_
    refine k_get (q0 := 0) (ci := 0) (C := RX1) (T := TX1) (N := 18) (x := .ref (t_q 6)) X inx_1 hw rfl rfl 6 (by decide) rfl tw_395 rfl dX1_addMan_12 ?_
    refine k_alen (q0 := 1) (t0 := 1) (v9 := (6 : Int32)) X hw rfl rfl rfl dX1_addMan_15 ?_
    refine lv_icmp_lt (tgt := 20) hx hb dX1_addMan_16 (by decide) (fun c_16 => ?_) (fun c_16 => ?_)
    · have hf := (if_pos c_16).symm.trans hf
      refine lv_aload_n hx hb dX1_addMan_20 rfl (lv_at hl 0 rfl) ?_
      refine k_get (q0 := 0) (ci := 0) (C := RX1) (T := TX1) (N := 18) (x := .ref (t_q 6)) X inx_1 hw rfl rfl 6 (by decide) rfl tw_395 rfl dX1_addMan_21 ?_
      refine lv_aload_n hx hb dX1_addMan_24 rfl (lv_at hl 0 rfl) ?_
      refine k_get (q0 := 0) (ci := 0) (C := RX1) (T := TX1) (N := 18) (x := .int (t_men)) X inx_1 hw rfl rfl 0 (by decide) rfl tw_372 rfl dX1_addMan_25 ?_
      refine lv_lload_n hx hb dX1_addMan_28 rfl (lv_at hl 1 rfl) ?_
      obtain ⟨hi_29, hf⟩ := gd_some hf
      refine k_last (q0 := 1) (n := 6) (f := t_manNames) X hw rfl hi_29 dX1_addMan_29 (fun H locs hw => ?_)
      have hw : Wd E A s.heap (wX1 E t_o t_q t_men t_consuls t_dangers t_decrees t_term t_termTold (vp_updL t_manNames (t_men).toNatClampNeg (x1)) t_kinds t_skills t_fields t_wants t_hated t_dangerNames t_sizes t_grows t_decreeNames t_grounds t_laws) H locs := hw
      refine lv_aload_n hx hb dX1_addMan_30 rfl (lv_at hl 0 rfl) ?_
      refine k_get (q0 := 0) (ci := 0) (C := RX1) (T := TX1) (N := 18) (x := .ref (t_q 7)) X inx_1 hw rfl rfl 7 (by decide) rfl tw_396 rfl dX1_addMan_31 ?_
      refine lv_aload_n hx hb dX1_addMan_34 rfl (lv_at hl 0 rfl) ?_
      refine k_get (q0 := 0) (ci := 0) (C := RX1) (T := TX1) (N := 18) (x := .int (t_men)) X inx_1 hw rfl rfl 0 (by decide) rfl tw_372 rfl dX1_addMan_35 ?_
      refine lv_iload_n hx hb dX1_addMan_38 rfl (lv_at hl 2 rfl) ?_
      refine k_SN (As := [.ref (t_q 7), .int (t_men), .int (x3)]) (rest := []) (host := "PloughCall") (index := 73) X (ct_X12_put (out := (gp (6) t_kinds (t_men) (x3))) rfl) nw_77 tw_119 tw_563 tw_564 ⟨rfl, rfl⟩ hd_X12_put.2 ⟨Nat.le_of_ble_eq_true rfl, Nat.le_of_ble_eq_true rfl⟩ ⟨Nat.zero_le _, Nat.zero_le _⟩ hw [2] rfl rfl rfl hl.1 rfl (Nat.le_of_ble_eq_true rfl) dX1_addMan_39 (fun H locs hw => ?_)
      have hw : Wd E A s.heap (wX1 E t_o t_q t_men t_consuls t_dangers t_decrees t_term t_termTold (vp_updL t_manNames (t_men).toNatClampNeg (x1)) ((gp (6) t_kinds (t_men) (x3))) t_skills t_fields t_wants t_hated t_dangerNames t_sizes t_grows t_decreeNames t_grounds t_laws) H locs := hw
      refine lv_aload_n hx hb dX1_addMan_42 rfl (lv_at hl 0 rfl) ?_
      refine k_get (q0 := 0) (ci := 0) (C := RX1) (T := TX1) (N := 18) (x := .ref (t_q 8)) X inx_1 hw rfl rfl 8 (by decide) rfl tw_399 rfl dX1_addMan_43 ?_
      refine lv_aload_n hx hb dX1_addMan_46 rfl (lv_at hl 0 rfl) ?_
      refine k_get (q0 := 0) (ci := 0) (C := RX1) (T := TX1) (N := 18) (x := .int (t_men)) X inx_1 hw rfl rfl 0 (by decide) rfl tw_372 rfl dX1_addMan_47 ?_
      refine lv_iload hx hb dX1_addMan_50 (lv_at hl 3 rfl) ?_
      refine k_SN (As := [.ref (t_q 8), .int (t_men), .int (x4)]) (rest := []) (host := "PloughCall") (index := 73) X (ct_X12_put (out := (gp (6) t_skills (t_men) (x4))) rfl) nw_77 tw_119 tw_563 tw_564 ⟨rfl, rfl⟩ hd_X12_put.2 ⟨Nat.le_of_ble_eq_true rfl, Nat.le_of_ble_eq_true rfl⟩ ⟨Nat.zero_le _, Nat.zero_le _⟩ hw [3] rfl rfl rfl hl.1 rfl (Nat.le_of_ble_eq_true rfl) dX1_addMan_52 (fun H locs hw => ?_)
      have hw : Wd E A s.heap (wX1 E t_o t_q t_men t_consuls t_dangers t_decrees t_term t_termTold (vp_updL t_manNames (t_men).toNatClampNeg (x1)) ((gp (6) t_kinds (t_men) (x3))) ((gp (6) t_skills (t_men) (x4))) t_fields t_wants t_hated t_dangerNames t_sizes t_grows t_decreeNames t_grounds t_laws) H locs := hw
      refine lv_aload_n hx hb dX1_addMan_55 rfl (lv_at hl 0 rfl) ?_
      refine k_get (q0 := 0) (ci := 0) (C := RX1) (T := TX1) (N := 18) (x := .ref (t_q 9)) X inx_1 hw rfl rfl 9 (by decide) rfl tw_402 rfl dX1_addMan_56 ?_
      refine lv_aload_n hx hb dX1_addMan_59 rfl (lv_at hl 0 rfl) ?_
      refine k_get (q0 := 0) (ci := 0) (C := RX1) (T := TX1) (N := 18) (x := .int (t_men)) X inx_1 hw rfl rfl 0 (by decide) rfl tw_372 rfl dX1_addMan_60 ?_
      refine lv_iload hx hb dX1_addMan_63 (lv_at hl 4 rfl) ?_
      refine k_SN (As := [.ref (t_q 9), .int (t_men), .int (x5)]) (rest := []) (host := "PloughCall") (index := 73) X (ct_X12_put (out := (gp (6) t_fields (t_men) (x5))) rfl) nw_77 tw_119 tw_563 tw_564 ⟨rfl, rfl⟩ hd_X12_put.2 ⟨Nat.le_of_ble_eq_true rfl, Nat.le_of_ble_eq_true rfl⟩ ⟨Nat.zero_le _, Nat.zero_le _⟩ hw [4] rfl rfl rfl hl.1 rfl (Nat.le_of_ble_eq_true rfl) dX1_addMan_65 (fun H locs hw => ?_)
      have hw : Wd E A s.heap (wX1 E t_o t_q t_men t_consuls t_dangers t_decrees t_term t_termTold (vp_updL t_manNames (t_men).toNatClampNeg (x1)) ((gp (6) t_kinds (t_men) (x3))) ((gp (6) t_skills (t_men) (x4))) ((gp (6) t_fields (t_men) (x5))) t_wants t_hated t_dangerNames t_sizes t_grows t_decreeNames t_grounds t_laws) H locs := hw
      refine lv_aload_n hx hb dX1_addMan_68 rfl (lv_at hl 0 rfl) ?_
      refine k_get (q0 := 0) (ci := 0) (C := RX1) (T := TX1) (N := 18) (x := .ref (t_q 10)) X inx_1 hw rfl rfl 10 (by decide) rfl tw_404 rfl dX1_addMan_69 ?_
      refine lv_aload_n hx hb dX1_addMan_72 rfl (lv_at hl 0 rfl) ?_
      refine k_get (q0 := 0) (ci := 0) (C := RX1) (T := TX1) (N := 18) (x := .int (t_men)) X inx_1 hw rfl rfl 0 (by decide) rfl tw_372 rfl dX1_addMan_73 ?_
      refine lv_iload hx hb dX1_addMan_76 (lv_at hl 5 rfl) ?_
      refine k_SN (As := [.ref (t_q 10), .int (t_men), .int (x6)]) (rest := []) (host := "PloughCall") (index := 73) X (ct_X12_put (out := (gp (6) t_wants (t_men) (x6))) rfl) nw_77 tw_119 tw_563 tw_564 ⟨rfl, rfl⟩ hd_X12_put.2 ⟨Nat.le_of_ble_eq_true rfl, Nat.le_of_ble_eq_true rfl⟩ ⟨Nat.zero_le _, Nat.zero_le _⟩ hw [5] rfl rfl rfl hl.1 rfl (Nat.le_of_ble_eq_true rfl) dX1_addMan_78 (fun H locs hw => ?_)
      have hw : Wd E A s.heap (wX1 E t_o t_q t_men t_consuls t_dangers t_decrees t_term t_termTold (vp_updL t_manNames (t_men).toNatClampNeg (x1)) ((gp (6) t_kinds (t_men) (x3))) ((gp (6) t_skills (t_men) (x4))) ((gp (6) t_fields (t_men) (x5))) ((gp (6) t_wants (t_men) (x6))) t_hated t_dangerNames t_sizes t_grows t_decreeNames t_grounds t_laws) H locs := hw
      refine lv_aload_n hx hb dX1_addMan_81 rfl (lv_at hl 0 rfl) ?_
      refine lv_dup hx hb dX1_addMan_82 rfl ?_
      refine k_get (q0 := 0) (ci := 0) (C := RX1) (T := TX1) (N := 18) (x := .int (t_men)) X inx_1 hw rfl rfl 0 (by decide) rfl tw_372 rfl dX1_addMan_83 ?_
      refine lv_iconst (v := (1 : Int32)) hx hb dX1_addMan_86 (by decide) ?_
      refine lv_iadd hx hb dX1_addMan_87 ?_
      refine k_put (q0 := 0) (ci := 0) (C := RX1) (T := TX1) (N := 18) (ty0 := tyX1) (x := .int ((t_men + (1 : Int32)))) X inx_1 tyX1_ok nmX1 hw rfl rfl 0 (by decide) rfl rfl tw_372 rfl rfl (Nat.le_of_ble_eq_true rfl) dX1_addMan_88 (fun H locs hw => ?_)
      have hw : Wd E A s.heap (wX1 E t_o t_q ((t_men + (1 : Int32))) t_consuls t_dangers t_decrees t_term t_termTold (vp_updL t_manNames (t_men).toNatClampNeg (x1)) ((gp (6) t_kinds (t_men) (x3))) ((gp (6) t_skills (t_men) (x4))) ((gp (6) t_fields (t_men) (x5))) ((gp (6) t_wants (t_men) (x6))) t_hated t_dangerNames t_sizes t_grows t_decreeNames t_grounds t_laws) H locs := hw
      obtain rfl := Option.some.inj hf
      exact k_vret X hw dX1_addMan_91
    · have hf := (if_neg c_16).symm.trans hf
      obtain rfl := Option.some.inj hf
      exact k_vret X hw dX1_addMan_19
/-! void addDanger(long, int, int); -/
def f_X1_addDanger (t_dangers : Int32) (t_dangerNames : (Nat → Int64)) (t_sizes : (Nat → Int32)) (t_grows : (Nat → Int32)) (x1 : Int64) (x3 : Int32) (x4 : Int32) : Option (Int32 × (Nat → Int64) × (Nat → Int32) × (Nat → Int32)) := if t_dangers < (0 : Int32) then some (t_dangers, t_dangerNames, t_sizes, t_grows)
  else if t_dangers < (5 : Int32) then gd (t_dangers) 5 (some ((t_dangers + (1 : Int32)), vp_updL t_dangerNames (t_dangers).toNatClampNeg (x1), (gp (5) t_sizes (t_dangers) (x3)), (gp (5) t_grows (t_dangers) (x4))))
  else some (t_dangers, t_dangerNames, t_sizes, t_grows)
abbrev rm_X1_addDanger : Room := { frames := 1, cells := 0, slots := 0, locals := 22 }
theorem hd_X1_addDanger : yX1_addDanger.cls = RX1 ∧ yX1_addDanger.cls ≠ "java/lang/invoke/MethodHandle" ∧ yX1_addDanger.cls ≠ "java/lang/invoke/VarHandle" ∧ (parseMethodDescriptor yX1_addDanger.desc).map (fun d => d.parameters.length) = some 3 := by decide +kernel
set_option maxRecDepth 100000 in
set_option maxHeartbeats 4000000 in
theorem c_X1_addDanger {E : En} {l : Launch} {t_o : Nat} {t_q : Nat → Nat} {t_men : Int32} {t_consuls : Int32} {t_dangers : Int32} {t_decrees : Int32} {t_term : Int32} {t_termTold : Int32} {t_manNames : (Nat → Int64)} {t_kinds : (Nat → Int32)} {t_skills : (Nat → Int32)} {t_fields : (Nat → Int32)} {t_wants : (Nat → Int32)} {t_hated : (Nat → Int32)} {t_dangerNames : (Nat → Int64)} {t_sizes : (Nat → Int32)} {t_grows : (Nat → Int32)} {t_decreeNames : (Nat → Int64)} {t_grounds : (Nat → Int32)} {t_laws : Value} {x1 : Int64} {x3 : Int32} {x4 : Int32} {out : Int32 × (Nat → Int64) × (Nat → Int32) × (Nat → Int32)} (hf : f_X1_addDanger t_dangers t_dangerNames t_sizes t_grows x1 x3 x4 = some out) : Cn E l yX1_addDanger cX1_addDanger 5 none rm_X1_addDanger [.ref t_o, .long (x1), .int (x3), .int (x4)] (wX1 E t_o t_q t_men t_consuls t_dangers t_decrees t_term t_termTold t_manNames t_kinds t_skills t_fields t_wants t_hated t_dangerNames t_sizes t_grows t_decreeNames t_grounds t_laws) none (wX1 E t_o t_q t_men t_consuls out.1 t_decrees t_term t_termTold t_manNames t_kinds t_skills t_fields t_wants t_hated out.2.1 out.2.2.1 out.2.2.2 t_decreeNames t_grounds t_laws) := by
  refine Cn.of (by decide) (Nat.le_of_ble_eq_true rfl) rfl ?_
  intro p e s m below meth c A ls args H locs X hw hl
  have hx := X.1.1
  have hb := X.1.2.1
  have ho := X.1.2.2.2.1
  have hts := X.1.2.2.2.2
  have hl : lv_has ls 5 [(0, .ref t_o), (1, .long (x1)), (3, .int (x3)), (4, .int (x4))] := hl
  unfold f_X1_addDanger at hf
  refine lv_aload_n hx hb dX1_addDanger_0 rfl (lv_at hl 0 rfl) ?_
  refine k_get (q0 := 0) (ci := 0) (C := RX1) (T := TX1) (N := 18) (x := .int (t_dangers)) X inx_1 hw rfl rfl 2 (by decide) rfl tw_381 rfl dX1_addDanger_1 ?_
  refine lv_if_lt (tgt := 19) hx hb dX1_addDanger_4 (by decide) (fun c_4 => ?_) (fun c_4 => ?_)
  · have hf := (if_pos c_4).symm.trans hf
    obtain rfl := Option.some.inj hf
    exact k_vret X hw dX1_addDanger_19
  · have hf := (if_neg c_4).symm.trans hf
    refine lv_aload_n hx hb dX1_addDanger_7 rfl (lv_at hl 0 rfl) ?_
    refine k_get (q0 := 0) (ci := 0) (C := RX1) (T := TX1) (N := 18) (x := .int (t_dangers)) X inx_1 hw rfl rfl 2 (by decide) rfl tw_381 rfl dX1_addDanger_8 ?_
    refine lv_aload_n hx hb dX1_addDanger_11 rfl (lv_at hl 0 rfl) ?_
    refine k_get (q0 := 0) (ci := 0) (C := RX1) (T := TX1) (N := 18) (x := .ref (t_q 12)) X inx_1 hw rfl rfl 12 (by decide) rfl tw_408 rfl dX1_addDanger_12 ?_
    refine k_alen (q0 := 7) (t0 := 1) (v9 := (5 : Int32)) X hw rfl rfl rfl dX1_addDanger_15 ?_
    refine lv_icmp_lt (tgt := 20) hx hb dX1_addDanger_16 (by decide) (fun c_16 => ?_) (fun c_16 => ?_)
    · have hf := (if_pos c_16).symm.trans hf
      refine lv_aload_n hx hb dX1_addDanger_20 rfl (lv_at hl 0 rfl) ?_
      refine k_get (q0 := 0) (ci := 0) (C := RX1) (T := TX1) (N := 18) (x := .ref (t_q 12)) X inx_1 hw rfl rfl 12 (by decide) rfl tw_408 rfl dX1_addDanger_21 ?_
      refine lv_aload_n hx hb dX1_addDanger_24 rfl (lv_at hl 0 rfl) ?_
      refine k_get (q0 := 0) (ci := 0) (C := RX1) (T := TX1) (N := 18) (x := .int (t_dangers)) X inx_1 hw rfl rfl 2 (by decide) rfl tw_381 rfl dX1_addDanger_25 ?_
      refine lv_lload_n hx hb dX1_addDanger_28 rfl (lv_at hl 1 rfl) ?_
      obtain ⟨hi_29, hf⟩ := gd_some hf
      refine k_last (q0 := 7) (n := 5) (f := t_dangerNames) X hw rfl hi_29 dX1_addDanger_29 (fun H locs hw => ?_)
      have hw : Wd E A s.heap (wX1 E t_o t_q t_men t_consuls t_dangers t_decrees t_term t_termTold t_manNames t_kinds t_skills t_fields t_wants t_hated (vp_updL t_dangerNames (t_dangers).toNatClampNeg (x1)) t_sizes t_grows t_decreeNames t_grounds t_laws) H locs := hw
      refine lv_aload_n hx hb dX1_addDanger_30 rfl (lv_at hl 0 rfl) ?_
      refine k_get (q0 := 0) (ci := 0) (C := RX1) (T := TX1) (N := 18) (x := .ref (t_q 13)) X inx_1 hw rfl rfl 13 (by decide) rfl tw_409 rfl dX1_addDanger_31 ?_
      refine lv_aload_n hx hb dX1_addDanger_34 rfl (lv_at hl 0 rfl) ?_
      refine k_get (q0 := 0) (ci := 0) (C := RX1) (T := TX1) (N := 18) (x := .int (t_dangers)) X inx_1 hw rfl rfl 2 (by decide) rfl tw_381 rfl dX1_addDanger_35 ?_
      refine lv_iload_n hx hb dX1_addDanger_38 rfl (lv_at hl 2 rfl) ?_
      refine k_SN (As := [.ref (t_q 13), .int (t_dangers), .int (x3)]) (rest := []) (host := "PloughCall") (index := 73) X (ct_X12_put (out := (gp (5) t_sizes (t_dangers) (x3))) rfl) nw_77 tw_119 tw_563 tw_564 ⟨rfl, rfl⟩ hd_X12_put.2 ⟨Nat.le_of_ble_eq_true rfl, Nat.le_of_ble_eq_true rfl⟩ ⟨Nat.zero_le _, Nat.zero_le _⟩ hw [8] rfl rfl rfl hl.1 rfl (Nat.le_of_ble_eq_true rfl) dX1_addDanger_39 (fun H locs hw => ?_)
      have hw : Wd E A s.heap (wX1 E t_o t_q t_men t_consuls t_dangers t_decrees t_term t_termTold t_manNames t_kinds t_skills t_fields t_wants t_hated (vp_updL t_dangerNames (t_dangers).toNatClampNeg (x1)) ((gp (5) t_sizes (t_dangers) (x3))) t_grows t_decreeNames t_grounds t_laws) H locs := hw
      refine lv_aload_n hx hb dX1_addDanger_42 rfl (lv_at hl 0 rfl) ?_
      refine k_get (q0 := 0) (ci := 0) (C := RX1) (T := TX1) (N := 18) (x := .ref (t_q 14)) X inx_1 hw rfl rfl 14 (by decide) rfl tw_414 rfl dX1_addDanger_43 ?_
      refine lv_aload_n hx hb dX1_addDanger_46 rfl (lv_at hl 0 rfl) ?_
      refine k_get (q0 := 0) (ci := 0) (C := RX1) (T := TX1) (N := 18) (x := .int (t_dangers)) X inx_1 hw rfl rfl 2 (by decide) rfl tw_381 rfl dX1_addDanger_47 ?_
      refine lv_iload hx hb dX1_addDanger_50 (lv_at hl 3 rfl) ?_
      refine k_SN (As := [.ref (t_q 14), .int (t_dangers), .int (x4)]) (rest := []) (host := "PloughCall") (index := 73) X (ct_X12_put (out := (gp (5) t_grows (t_dangers) (x4))) rfl) nw_77 tw_119 tw_563 tw_564 ⟨rfl, rfl⟩ hd_X12_put.2 ⟨Nat.le_of_ble_eq_true rfl, Nat.le_of_ble_eq_true rfl⟩ ⟨Nat.zero_le _, Nat.zero_le _⟩ hw [9] rfl rfl rfl hl.1 rfl (Nat.le_of_ble_eq_true rfl) dX1_addDanger_52 (fun H locs hw => ?_)
      have hw : Wd E A s.heap (wX1 E t_o t_q t_men t_consuls t_dangers t_decrees t_term t_termTold t_manNames t_kinds t_skills t_fields t_wants t_hated (vp_updL t_dangerNames (t_dangers).toNatClampNeg (x1)) ((gp (5) t_sizes (t_dangers) (x3))) ((gp (5) t_grows (t_dangers) (x4))) t_decreeNames t_grounds t_laws) H locs := hw
      refine lv_aload_n hx hb dX1_addDanger_55 rfl (lv_at hl 0 rfl) ?_
      refine lv_dup hx hb dX1_addDanger_56 rfl ?_
      refine k_get (q0 := 0) (ci := 0) (C := RX1) (T := TX1) (N := 18) (x := .int (t_dangers)) X inx_1 hw rfl rfl 2 (by decide) rfl tw_381 rfl dX1_addDanger_57 ?_
      refine lv_iconst (v := (1 : Int32)) hx hb dX1_addDanger_60 (by decide) ?_
      refine lv_iadd hx hb dX1_addDanger_61 ?_
      refine k_put (q0 := 0) (ci := 0) (C := RX1) (T := TX1) (N := 18) (ty0 := tyX1) (x := .int ((t_dangers + (1 : Int32)))) X inx_1 tyX1_ok nmX1 hw rfl rfl 2 (by decide) rfl rfl tw_381 rfl rfl (Nat.le_of_ble_eq_true rfl) dX1_addDanger_62 (fun H locs hw => ?_)
      have hw : Wd E A s.heap (wX1 E t_o t_q t_men t_consuls ((t_dangers + (1 : Int32))) t_decrees t_term t_termTold t_manNames t_kinds t_skills t_fields t_wants t_hated (vp_updL t_dangerNames (t_dangers).toNatClampNeg (x1)) ((gp (5) t_sizes (t_dangers) (x3))) ((gp (5) t_grows (t_dangers) (x4))) t_decreeNames t_grounds t_laws) H locs := hw
      obtain rfl := Option.some.inj hf
      exact k_vret X hw dX1_addDanger_65
    · have hf := (if_neg c_16).symm.trans hf
      obtain rfl := Option.some.inj hf
      exact k_vret X hw dX1_addDanger_19
/-! void addDecree(long, int); -/
def f_X1_addDecree (t_decrees : Int32) (t_decreeNames : (Nat → Int64)) (t_grounds : (Nat → Int32)) (x1 : Int64) (x3 : Int32) : Option (Int32 × (Nat → Int64) × (Nat → Int32)) := if t_decrees < (0 : Int32) then some (t_decrees, t_decreeNames, t_grounds)
  else if t_decrees < (6 : Int32) then gd (t_decrees) 6 (some ((t_decrees + (1 : Int32)), vp_updL t_decreeNames (t_decrees).toNatClampNeg (x1), (gp (6) t_grounds (t_decrees) (x3))))
  else some (t_decrees, t_decreeNames, t_grounds)
abbrev rm_X1_addDecree : Room := { frames := 1, cells := 0, slots := 0, locals := 22 }
theorem hd_X1_addDecree : yX1_addDecree.cls = RX1 ∧ yX1_addDecree.cls ≠ "java/lang/invoke/MethodHandle" ∧ yX1_addDecree.cls ≠ "java/lang/invoke/VarHandle" ∧ (parseMethodDescriptor yX1_addDecree.desc).map (fun d => d.parameters.length) = some 2 := by decide +kernel
set_option maxRecDepth 100000 in
set_option maxHeartbeats 4000000 in
theorem c_X1_addDecree {E : En} {l : Launch} {t_o : Nat} {t_q : Nat → Nat} {t_men : Int32} {t_consuls : Int32} {t_dangers : Int32} {t_decrees : Int32} {t_term : Int32} {t_termTold : Int32} {t_manNames : (Nat → Int64)} {t_kinds : (Nat → Int32)} {t_skills : (Nat → Int32)} {t_fields : (Nat → Int32)} {t_wants : (Nat → Int32)} {t_hated : (Nat → Int32)} {t_dangerNames : (Nat → Int64)} {t_sizes : (Nat → Int32)} {t_grows : (Nat → Int32)} {t_decreeNames : (Nat → Int64)} {t_grounds : (Nat → Int32)} {t_laws : Value} {x1 : Int64} {x3 : Int32} {out : Int32 × (Nat → Int64) × (Nat → Int32)} (hf : f_X1_addDecree t_decrees t_decreeNames t_grounds x1 x3 = some out) : Cn E l yX1_addDecree cX1_addDecree 4 none rm_X1_addDecree [.ref t_o, .long (x1), .int (x3)] (wX1 E t_o t_q t_men t_consuls t_dangers t_decrees t_term t_termTold t_manNames t_kinds t_skills t_fields t_wants t_hated t_dangerNames t_sizes t_grows t_decreeNames t_grounds t_laws) none (wX1 E t_o t_q t_men t_consuls t_dangers out.1 t_term t_termTold t_manNames t_kinds t_skills t_fields t_wants t_hated t_dangerNames t_sizes t_grows out.2.1 out.2.2 t_laws) := by
  refine Cn.of (by decide) (Nat.le_of_ble_eq_true rfl) rfl ?_
  intro p e s m below meth c A ls args H locs X hw hl
  have hx := X.1.1
  have hb := X.1.2.1
  have ho := X.1.2.2.2.1
  have hts := X.1.2.2.2.2
  have hl : lv_has ls 4 [(0, .ref t_o), (1, .long (x1)), (3, .int (x3))] := hl
  unfold f_X1_addDecree at hf
  refine lv_aload_n hx hb dX1_addDecree_0 rfl (lv_at hl 0 rfl) ?_
  refine k_get (q0 := 0) (ci := 0) (C := RX1) (T := TX1) (N := 18) (x := .int (t_decrees)) X inx_1 hw rfl rfl 3 (by decide) rfl tw_386 rfl dX1_addDecree_1 ?_
  refine lv_if_lt (tgt := 19) hx hb dX1_addDecree_4 (by decide) (fun c_4 => ?_) (fun c_4 => ?_)
  · have hf := (if_pos c_4).symm.trans hf
    obtain rfl := Option.some.inj hf
    exact k_vret X hw dX1_addDecree_19
  · have hf := (if_neg c_4).symm.trans hf
    refine lv_aload_n hx hb dX1_addDecree_7 rfl (lv_at hl 0 rfl) ?_
    refine k_get (q0 := 0) (ci := 0) (C := RX1) (T := TX1) (N := 18) (x := .int (t_decrees)) X inx_1 hw rfl rfl 3 (by decide) rfl tw_386 rfl dX1_addDecree_8 ?_
    refine lv_aload_n hx hb dX1_addDecree_11 rfl (lv_at hl 0 rfl) ?_
    refine k_get (q0 := 0) (ci := 0) (C := RX1) (T := TX1) (N := 18) (x := .ref (t_q 15)) X inx_1 hw rfl rfl 15 (by decide) rfl tw_418 rfl dX1_addDecree_12 ?_
    refine k_alen (q0 := 10) (t0 := 1) (v9 := (6 : Int32)) X hw rfl rfl rfl dX1_addDecree_15 ?_
    refine lv_icmp_lt (tgt := 20) hx hb dX1_addDecree_16 (by decide) (fun c_16 => ?_) (fun c_16 => ?_)
    · have hf := (if_pos c_16).symm.trans hf
      refine lv_aload_n hx hb dX1_addDecree_20 rfl (lv_at hl 0 rfl) ?_
      refine k_get (q0 := 0) (ci := 0) (C := RX1) (T := TX1) (N := 18) (x := .ref (t_q 15)) X inx_1 hw rfl rfl 15 (by decide) rfl tw_418 rfl dX1_addDecree_21 ?_
      refine lv_aload_n hx hb dX1_addDecree_24 rfl (lv_at hl 0 rfl) ?_
      refine k_get (q0 := 0) (ci := 0) (C := RX1) (T := TX1) (N := 18) (x := .int (t_decrees)) X inx_1 hw rfl rfl 3 (by decide) rfl tw_386 rfl dX1_addDecree_25 ?_
      refine lv_lload_n hx hb dX1_addDecree_28 rfl (lv_at hl 1 rfl) ?_
      obtain ⟨hi_29, hf⟩ := gd_some hf
      refine k_last (q0 := 10) (n := 6) (f := t_decreeNames) X hw rfl hi_29 dX1_addDecree_29 (fun H locs hw => ?_)
      have hw : Wd E A s.heap (wX1 E t_o t_q t_men t_consuls t_dangers t_decrees t_term t_termTold t_manNames t_kinds t_skills t_fields t_wants t_hated t_dangerNames t_sizes t_grows (vp_updL t_decreeNames (t_decrees).toNatClampNeg (x1)) t_grounds t_laws) H locs := hw
      refine lv_aload_n hx hb dX1_addDecree_30 rfl (lv_at hl 0 rfl) ?_
      refine k_get (q0 := 0) (ci := 0) (C := RX1) (T := TX1) (N := 18) (x := .ref (t_q 16)) X inx_1 hw rfl rfl 16 (by decide) rfl tw_419 rfl dX1_addDecree_31 ?_
      refine lv_aload_n hx hb dX1_addDecree_34 rfl (lv_at hl 0 rfl) ?_
      refine k_get (q0 := 0) (ci := 0) (C := RX1) (T := TX1) (N := 18) (x := .int (t_decrees)) X inx_1 hw rfl rfl 3 (by decide) rfl tw_386 rfl dX1_addDecree_35 ?_
      refine lv_iload_n hx hb dX1_addDecree_38 rfl (lv_at hl 2 rfl) ?_
      refine k_SN (As := [.ref (t_q 16), .int (t_decrees), .int (x3)]) (rest := []) (host := "PloughCall") (index := 73) X (ct_X12_put (out := (gp (6) t_grounds (t_decrees) (x3))) rfl) nw_77 tw_119 tw_563 tw_564 ⟨rfl, rfl⟩ hd_X12_put.2 ⟨Nat.le_of_ble_eq_true rfl, Nat.le_of_ble_eq_true rfl⟩ ⟨Nat.zero_le _, Nat.zero_le _⟩ hw [11] rfl rfl rfl hl.1 rfl (Nat.le_of_ble_eq_true rfl) dX1_addDecree_39 (fun H locs hw => ?_)
      have hw : Wd E A s.heap (wX1 E t_o t_q t_men t_consuls t_dangers t_decrees t_term t_termTold t_manNames t_kinds t_skills t_fields t_wants t_hated t_dangerNames t_sizes t_grows (vp_updL t_decreeNames (t_decrees).toNatClampNeg (x1)) ((gp (6) t_grounds (t_decrees) (x3))) t_laws) H locs := hw
      refine lv_aload_n hx hb dX1_addDecree_42 rfl (lv_at hl 0 rfl) ?_
      refine lv_dup hx hb dX1_addDecree_43 rfl ?_
      refine k_get (q0 := 0) (ci := 0) (C := RX1) (T := TX1) (N := 18) (x := .int (t_decrees)) X inx_1 hw rfl rfl 3 (by decide) rfl tw_386 rfl dX1_addDecree_44 ?_
      refine lv_iconst (v := (1 : Int32)) hx hb dX1_addDecree_47 (by decide) ?_
      refine lv_iadd hx hb dX1_addDecree_48 ?_
      refine k_put (q0 := 0) (ci := 0) (C := RX1) (T := TX1) (N := 18) (ty0 := tyX1) (x := .int ((t_decrees + (1 : Int32)))) X inx_1 tyX1_ok nmX1 hw rfl rfl 3 (by decide) rfl rfl tw_386 rfl rfl (Nat.le_of_ble_eq_true rfl) dX1_addDecree_49 (fun H locs hw => ?_)
      have hw : Wd E A s.heap (wX1 E t_o t_q t_men t_consuls t_dangers ((t_decrees + (1 : Int32))) t_term t_termTold t_manNames t_kinds t_skills t_fields t_wants t_hated t_dangerNames t_sizes t_grows (vp_updL t_decreeNames (t_decrees).toNatClampNeg (x1)) ((gp (6) t_grounds (t_decrees) (x3))) t_laws) H locs := hw
      obtain rfl := Option.some.inj hf
      exact k_vret X hw dX1_addDecree_52
    · have hf := (if_neg c_16).symm.trans hf
      obtain rfl := Option.some.inj hf
      exact k_vret X hw dX1_addDecree_19
