/-! private static int placeOf(long[], int, long); -/
def f_X1_placeOf_3 : Nat → Nat → (Nat → Int64) → Int32 → Int64 → Int32 → Option (Int32)
  | 0, _, _, _, _, _ => none
  | n + 1, p0_n, p0_f, x1, x2, x4 => if x1 ≤ x4 then some ((-1 : Int32))
    else if (nI p0_n) ≤ x4 then some ((-1 : Int32))
    else gd (x4) p0_n (if (lg_cmp (p0_f (x4).toNatClampNeg) x2) = (0 : Int32) then some (x4)
    else f_X1_placeOf_3 n p0_n p0_f x1 x2 ((x4 + (1 : Int32))))
def f_X1_placeOf (p0_n : Nat) (p0_f : (Nat → Int64)) (x1 : Int32) (x2 : Int64) : Option (Int32) := f_X1_placeOf_3 1100 p0_n p0_f x1 x2 ((0 : Int32))
abbrev rm_X1_placeOf : Room := { frames := 0, cells := 0, slots := 0, locals := 0 }
theorem hd_X1_placeOf : yX1_placeOf.cls = RX1 ∧ yX1_placeOf.cls ≠ "java/lang/invoke/MethodHandle" ∧ yX1_placeOf.cls ≠ "java/lang/invoke/VarHandle" ∧ (parseMethodDescriptor yX1_placeOf.desc).map (fun d => d.parameters.length) = some 3 := by decide +kernel
set_option maxRecDepth 100000 in
set_option maxHeartbeats 4000000 in
theorem kb_X1_placeOf_3 {E : En} {p : Program} {l : Launch} {e : Env} {s : State} {m : MethodId} {args : Array Value} {below : List Frame} {meth : Method} {c : Code} {A : Nat → Prop} {p0_o : Nat} {p0_n : Nat} {p0_f : (Nat → Int64)} {out : Int32} (X : Bx E A p s m args meth c cX1_placeOf 5 RX1 (some .int)) : ∀ (n : Nat) {x1 : Int32} {x2 : Int64} {x4 : Int32} {H : Heap} {locs : List Loc} {ls : Array Slot}, f_X1_placeOf_3 n p0_n p0_f x1 x2 x4 = some out → Wd E A s.heap (wL E p0_o p0_n p0_f) H locs → lv_has ls 5 [(0, .ref p0_o), (1, .int (x1)), (2, .long (x2)), (4, .int (x4))] → W p l e rm_X1_placeOf s m args below meth c H locs 0 0 (Zn E below args s A (some (.int out)) (wL E p0_o p0_n p0_f)) (F0 m 3 ls []) := by
  have hx := X.1.1
  have hb := X.1.2.1
  have ho := X.1.2.2.2.1
  have hts := X.1.2.2.2.2
  intro n
  induction n with
  | zero =>
    intro x1 x2 x4 H locs ls hf
    have hf : (none : Option (Int32)) = some out := hf
    cases hf
  | succ n ih =>
    intro x1 x2 x4 H locs ls hf hw hl
    rw [f_X1_placeOf_3.eq_2] at hf
    refine lv_iload hx hb dX1_placeOf_3 (lv_at hl 3 rfl) ?_
    refine lv_iload_n hx hb dX1_placeOf_5 rfl (lv_at hl 1 rfl) ?_
    refine lv_icmp_ge (tgt := 34) hx hb dX1_placeOf_6 (by decide) (fun c_6 => ?_) (fun c_6 => ?_)
    · have hf := (if_pos c_6).symm.trans hf
      refine lv_iconst (v := (-1 : Int32)) hx hb dX1_placeOf_34 (by decide) ?_
      obtain rfl := Option.some.inj hf
      exact k_iret X hw dX1_placeOf_35
    · have hf := (if_neg c_6).symm.trans hf
      refine lv_iload hx hb dX1_placeOf_9 (lv_at hl 3 rfl) ?_
      refine lv_aload_n hx hb dX1_placeOf_11 rfl (lv_at hl 0 rfl) ?_
      refine k_alen (q0 := 0) (t0 := 1) (v9 := (nI p0_n)) X hw rfl rfl rfl dX1_placeOf_12 ?_
      refine lv_icmp_ge (tgt := 34) hx hb dX1_placeOf_13 (by decide) (fun c_13 => ?_) (fun c_13 => ?_)
      · have hf := (if_pos c_13).symm.trans hf
        refine lv_iconst (v := (-1 : Int32)) hx hb dX1_placeOf_34 (by decide) ?_
        obtain rfl := Option.some.inj hf
        exact k_iret X hw dX1_placeOf_35
      · have hf := (if_neg c_13).symm.trans hf
        refine lv_aload_n hx hb dX1_placeOf_16 rfl (lv_at hl 0 rfl) ?_
        refine lv_iload hx hb dX1_placeOf_17 (lv_at hl 3 rfl) ?_
        obtain ⟨hi_19, hf⟩ := gd_some hf
        refine k_lald (q0 := 0) (n := p0_n) (f := p0_f) X hw rfl hi_19 dX1_placeOf_19 ?_
        refine lv_lload_n hx hb dX1_placeOf_20 rfl (lv_at hl 2 rfl) ?_
        refine W.lcmp hx hb dX1_placeOf_21 ?_
        refine lv_if_ne (tgt := 28) hx hb dX1_placeOf_22 (by decide) (fun c_22 => ?_) (fun c_22 => ?_)
        · have hf := (if_neg c_22).symm.trans hf
          refine lv_iinc (v := (x4 + (1 : Int32))) (lv' := [(4, .int ((x4 + (1 : Int32)))), (0, .ref p0_o), (1, .int (x1)), (2, .long (x2))]) hx hb dX1_placeOf_28 hl (k := 3) rfl rfl (by decide) rfl (fun ls hl => ?_)
          refine lv_goto (tgt := 3) hx hb dX1_placeOf_31 (by decide) ?_
          exact ih hf hw (lv_sub hl [1, 2, 3, 0] rfl)
        · have hf := (if_pos c_22).symm.trans hf
          refine lv_iload hx hb dX1_placeOf_25 (lv_at hl 3 rfl) ?_
          obtain rfl := Option.some.inj hf
          exact k_iret X hw dX1_placeOf_27
set_option maxRecDepth 100000 in
set_option maxHeartbeats 4000000 in
theorem c_X1_placeOf {E : En} {l : Launch} {p0_o : Nat} {p0_n : Nat} {p0_f : (Nat → Int64)} {x1 : Int32} {x2 : Int64} {out : Int32} (hf : f_X1_placeOf p0_n p0_f x1 x2 = some out) : Cn E l yX1_placeOf cX1_placeOf 5 (some .int) rm_X1_placeOf [.ref p0_o, .int (x1), .long (x2)] (wL E p0_o p0_n p0_f) (some (.int out)) (wL E p0_o p0_n p0_f) := by
  refine Cn.of (by decide) (Nat.le_of_ble_eq_true rfl) rfl ?_
  intro p e s m below meth c A ls args H locs X hw hl
  have hx := X.1.1
  have hb := X.1.2.1
  have ho := X.1.2.2.2.1
  have hts := X.1.2.2.2.2
  have hl : lv_has ls 5 [(0, .ref p0_o), (1, .int (x1)), (2, .long (x2))] := hl
  unfold f_X1_placeOf at hf
  refine lv_iconst (v := (0 : Int32)) hx hb dX1_placeOf_0 (by decide) ?_
  refine lv_istore (lv' := [(4, .int ((0 : Int32))), (0, .ref p0_o), (1, .int (x1)), (2, .long (x2))]) hx hb dX1_placeOf_1 hl (by decide) rfl (fun ls hl => ?_)
  exact kb_X1_placeOf_3 X 1100 hf hw (lv_sub hl [1, 2, 3, 0] rfl)
/-! boolean hasMan(int); -/
def f_X1_hasMan (t_men : Int32) (x1 : Int32) : Int32 := if x1 < (0 : Int32) then ((0 : Int32))
  else if t_men ≤ x1 then ((0 : Int32))
  else ((1 : Int32))
abbrev rm_X1_hasMan : Room := { frames := 0, cells := 0, slots := 0, locals := 0 }
theorem hd_X1_hasMan : yX1_hasMan.cls = RX1 ∧ yX1_hasMan.cls ≠ "java/lang/invoke/MethodHandle" ∧ yX1_hasMan.cls ≠ "java/lang/invoke/VarHandle" ∧ (parseMethodDescriptor yX1_hasMan.desc).map (fun d => d.parameters.length) = some 1 := by decide +kernel
set_option maxRecDepth 100000 in
set_option maxHeartbeats 4000000 in
theorem c_X1_hasMan {E : En} {l : Launch} {t_o : Nat} {t_q : Nat → Nat} {t_men : Int32} {t_consuls : Int32} {t_dangers : Int32} {t_decrees : Int32} {t_term : Int32} {t_termTold : Int32} {t_manNames : (Nat → Int64)} {t_kinds : (Nat → Int32)} {t_skills : (Nat → Int32)} {t_fields : (Nat → Int32)} {t_wants : (Nat → Int32)} {t_hated : (Nat → Int32)} {t_dangerNames : (Nat → Int64)} {t_sizes : (Nat → Int32)} {t_grows : (Nat → Int32)} {t_decreeNames : (Nat → Int64)} {t_grounds : (Nat → Int32)} {t_laws : Value} {x1 : Int32} {out : Int32} (hf : f_X1_hasMan t_men x1 = out) : Cn E l yX1_hasMan cX1_hasMan 2 (some .boolean) rm_X1_hasMan [.ref t_o, .int (x1)] (wX1 E t_o t_q t_men t_consuls t_dangers t_decrees t_term t_termTold t_manNames t_kinds t_skills t_fields t_wants t_hated t_dangerNames t_sizes t_grows t_decreeNames t_grounds t_laws) (some (.int out)) (wX1 E t_o t_q t_men t_consuls t_dangers t_decrees t_term t_termTold t_manNames t_kinds t_skills t_fields t_wants t_hated t_dangerNames t_sizes t_grows t_decreeNames t_grounds t_laws) := by
  refine Cn.of (by decide) (Nat.le_of_ble_eq_true rfl) rfl ?_
  intro p e s m below meth c A ls args H locs X hw hl
  have hx := X.1.1
  have hb := X.1.2.1
  have ho := X.1.2.2.2.1
  have hts := X.1.2.2.2.2
  have hl : lv_has ls 2 [(0, .ref t_o), (1, .int (x1))] := hl
  unfold f_X1_hasMan at hf
  refine lv_iload_n hx hb dX1_hasMan_0 rfl (lv_at hl 1 rfl) ?_
  refine lv_if_lt (tgt := 16) hx hb dX1_hasMan_1 (by decide) (fun c_1 => ?_) (fun c_1 => ?_)
  · have hf := (if_pos c_1).symm.trans hf
    refine lv_iconst (v := (0 : Int32)) hx hb dX1_hasMan_16 (by decide) ?_
    subst hf
    exact k_zret X (Or.inl rfl) hw dX1_hasMan_17
  · have hf := (if_neg c_1).symm.trans hf
    refine lv_iload_n hx hb dX1_hasMan_4 rfl (lv_at hl 1 rfl) ?_
    refine lv_aload_n hx hb dX1_hasMan_5 rfl (lv_at hl 0 rfl) ?_
    refine k_get (q0 := 0) (ci := 0) (C := RX1) (T := TX1) (N := 18) (x := .int (t_men)) X inx_1 hw rfl rfl 0 (by decide) rfl tw_372 rfl dX1_hasMan_6 ?_
    refine lv_icmp_ge (tgt := 16) hx hb dX1_hasMan_9 (by decide) (fun c_9 => ?_) (fun c_9 => ?_)
    · have hf := (if_pos c_9).symm.trans hf
      refine lv_iconst (v := (0 : Int32)) hx hb dX1_hasMan_16 (by decide) ?_
      subst hf
      exact k_zret X (Or.inl rfl) hw dX1_hasMan_17
    · have hf := (if_neg c_9).symm.trans hf
      refine lv_iconst (v := (1 : Int32)) hx hb dX1_hasMan_12 (by decide) ?_
      refine lv_goto (tgt := 17) hx hb dX1_hasMan_13 (by decide) ?_
      subst hf
      exact k_zret X (Or.inr rfl) hw dX1_hasMan_17
theorem zb_X1_hasMan (t_men : Int32) (x1 : Int32) : f_X1_hasMan t_men x1 = 0 ∨ f_X1_hasMan t_men x1 = 1 := by
  unfold f_X1_hasMan
  repeat' apply ite_z
  all_goals first | exact Or.inl rfl | exact Or.inr rfl
/-! boolean hasDanger(int); -/
def f_X1_hasDanger (t_dangers : Int32) (x1 : Int32) : Int32 := if x1 < (0 : Int32) then ((0 : Int32))
  else if t_dangers ≤ x1 then ((0 : Int32))
  else ((1 : Int32))
abbrev rm_X1_hasDanger : Room := { frames := 0, cells := 0, slots := 0, locals := 0 }
theorem hd_X1_hasDanger : yX1_hasDanger.cls = RX1 ∧ yX1_hasDanger.cls ≠ "java/lang/invoke/MethodHandle" ∧ yX1_hasDanger.cls ≠ "java/lang/invoke/VarHandle" ∧ (parseMethodDescriptor yX1_hasDanger.desc).map (fun d => d.parameters.length) = some 1 := by decide +kernel
set_option maxRecDepth 100000 in
set_option maxHeartbeats 4000000 in
theorem c_X1_hasDanger {E : En} {l : Launch} {t_o : Nat} {t_q : Nat → Nat} {t_men : Int32} {t_consuls : Int32} {t_dangers : Int32} {t_decrees : Int32} {t_term : Int32} {t_termTold : Int32} {t_manNames : (Nat → Int64)} {t_kinds : (Nat → Int32)} {t_skills : (Nat → Int32)} {t_fields : (Nat → Int32)} {t_wants : (Nat → Int32)} {t_hated : (Nat → Int32)} {t_dangerNames : (Nat → Int64)} {t_sizes : (Nat → Int32)} {t_grows : (Nat → Int32)} {t_decreeNames : (Nat → Int64)} {t_grounds : (Nat → Int32)} {t_laws : Value} {x1 : Int32} {out : Int32} (hf : f_X1_hasDanger t_dangers x1 = out) : Cn E l yX1_hasDanger cX1_hasDanger 2 (some .boolean) rm_X1_hasDanger [.ref t_o, .int (x1)] (wX1 E t_o t_q t_men t_consuls t_dangers t_decrees t_term t_termTold t_manNames t_kinds t_skills t_fields t_wants t_hated t_dangerNames t_sizes t_grows t_decreeNames t_grounds t_laws) (some (.int out)) (wX1 E t_o t_q t_men t_consuls t_dangers t_decrees t_term t_termTold t_manNames t_kinds t_skills t_fields t_wants t_hated t_dangerNames t_sizes t_grows t_decreeNames t_grounds t_laws) := by
  refine Cn.of (by decide) (Nat.le_of_ble_eq_true rfl) rfl ?_
  intro p e s m below meth c A ls args H locs X hw hl
  have hx := X.1.1
  have hb := X.1.2.1
  have ho := X.1.2.2.2.1
  have hts := X.1.2.2.2.2
  have hl : lv_has ls 2 [(0, .ref t_o), (1, .int (x1))] := hl
  unfold f_X1_hasDanger at hf
  refine lv_iload_n hx hb dX1_hasDanger_0 rfl (lv_at hl 1 rfl) ?_
  refine lv_if_lt (tgt := 16) hx hb dX1_hasDanger_1 (by decide) (fun c_1 => ?_) (fun c_1 => ?_)
  · have hf := (if_pos c_1).symm.trans hf
    refine lv_iconst (v := (0 : Int32)) hx hb dX1_hasDanger_16 (by decide) ?_
    subst hf
    exact k_zret X (Or.inl rfl) hw dX1_hasDanger_17
  · have hf := (if_neg c_1).symm.trans hf
    refine lv_iload_n hx hb dX1_hasDanger_4 rfl (lv_at hl 1 rfl) ?_
    refine lv_aload_n hx hb dX1_hasDanger_5 rfl (lv_at hl 0 rfl) ?_
    refine k_get (q0 := 0) (ci := 0) (C := RX1) (T := TX1) (N := 18) (x := .int (t_dangers)) X inx_1 hw rfl rfl 2 (by decide) rfl tw_381 rfl dX1_hasDanger_6 ?_
    refine lv_icmp_ge (tgt := 16) hx hb dX1_hasDanger_9 (by decide) (fun c_9 => ?_) (fun c_9 => ?_)
    · have hf := (if_pos c_9).symm.trans hf
      refine lv_iconst (v := (0 : Int32)) hx hb dX1_hasDanger_16 (by decide) ?_
      subst hf
      exact k_zret X (Or.inl rfl) hw dX1_hasDanger_17
    · have hf := (if_neg c_9).symm.trans hf
      refine lv_iconst (v := (1 : Int32)) hx hb dX1_hasDanger_12 (by decide) ?_
      refine lv_goto (tgt := 17) hx hb dX1_hasDanger_13 (by decide) ?_
      subst hf
      exact k_zret X (Or.inr rfl) hw dX1_hasDanger_17
theorem zb_X1_hasDanger (t_dangers : Int32) (x1 : Int32) : f_X1_hasDanger t_dangers x1 = 0 ∨ f_X1_hasDanger t_dangers x1 = 1 := by
  unfold f_X1_hasDanger
  repeat' apply ite_z
  all_goals first | exact Or.inl rfl | exact Or.inr rfl
/-! boolean hasDecrees(int); -/
def f_X1_hasDecrees (t_decrees : Int32) (x1 : Int32) : Int32 := if x1 < (0 : Int32) then ((0 : Int32))
  else if ((1 : Int32) <<< (t_decrees &&& (31 : Int32))) ≤ x1 then ((0 : Int32))
  else ((1 : Int32))
abbrev rm_X1_hasDecrees : Room := { frames := 0, cells := 0, slots := 0, locals := 0 }
theorem hd_X1_hasDecrees : yX1_hasDecrees.cls = RX1 ∧ yX1_hasDecrees.cls ≠ "java/lang/invoke/MethodHandle" ∧ yX1_hasDecrees.cls ≠ "java/lang/invoke/VarHandle" ∧ (parseMethodDescriptor yX1_hasDecrees.desc).map (fun d => d.parameters.length) = some 1 := by decide +kernel
set_option maxRecDepth 100000 in
set_option maxHeartbeats 4000000 in
theorem c_X1_hasDecrees {E : En} {l : Launch} {t_o : Nat} {t_q : Nat → Nat} {t_men : Int32} {t_consuls : Int32} {t_dangers : Int32} {t_decrees : Int32} {t_term : Int32} {t_termTold : Int32} {t_manNames : (Nat → Int64)} {t_kinds : (Nat → Int32)} {t_skills : (Nat → Int32)} {t_fields : (Nat → Int32)} {t_wants : (Nat → Int32)} {t_hated : (Nat → Int32)} {t_dangerNames : (Nat → Int64)} {t_sizes : (Nat → Int32)} {t_grows : (Nat → Int32)} {t_decreeNames : (Nat → Int64)} {t_grounds : (Nat → Int32)} {t_laws : Value} {x1 : Int32} {out : Int32} (hf : f_X1_hasDecrees t_decrees x1 = out) : Cn E l yX1_hasDecrees cX1_hasDecrees 2 (some .boolean) rm_X1_hasDecrees [.ref t_o, .int (x1)] (wX1 E t_o t_q t_men t_consuls t_dangers t_decrees t_term t_termTold t_manNames t_kinds t_skills t_fields t_wants t_hated t_dangerNames t_sizes t_grows t_decreeNames t_grounds t_laws) (some (.int out)) (wX1 E t_o t_q t_men t_consuls t_dangers t_decrees t_term t_termTold t_manNames t_kinds t_skills t_fields t_wants t_hated t_dangerNames t_sizes t_grows t_decreeNames t_grounds t_laws) := by
  refine Cn.of (by decide) (Nat.le_of_ble_eq_true rfl) rfl ?_
  intro p e s m below meth c A ls args H locs X hw hl
  have hx := X.1.1
  have hb := X.1.2.1
  have ho := X.1.2.2.2.1
  have hts := X.1.2.2.2.2
  have hl : lv_has ls 2 [(0, .ref t_o), (1, .int (x1))] := hl
  unfold f_X1_hasDecrees at hf
  refine lv_iload_n hx hb dX1_hasDecrees_0 rfl (lv_at hl 1 rfl) ?_
  refine lv_if_lt (tgt := 18) hx hb dX1_hasDecrees_1 (by decide) (fun c_1 => ?_) (fun c_1 => ?_)
  · have hf := (if_pos c_1).symm.trans hf
    refine lv_iconst (v := (0 : Int32)) hx hb dX1_hasDecrees_18 (by decide) ?_
    subst hf
    exact k_zret X (Or.inl rfl) hw dX1_hasDecrees_19
  · have hf := (if_neg c_1).symm.trans hf
    refine lv_iload_n hx hb dX1_hasDecrees_4 rfl (lv_at hl 1 rfl) ?_
    refine lv_iconst (v := (1 : Int32)) hx hb dX1_hasDecrees_5 (by decide) ?_
    refine lv_aload_n hx hb dX1_hasDecrees_6 rfl (lv_at hl 0 rfl) ?_
    refine k_get (q0 := 0) (ci := 0) (C := RX1) (T := TX1) (N := 18) (x := .int (t_decrees)) X inx_1 hw rfl rfl 3 (by decide) rfl tw_386 rfl dX1_hasDecrees_7 ?_
    refine lv_ishl hx hb dX1_hasDecrees_10 ?_
    refine lv_icmp_ge (tgt := 18) hx hb dX1_hasDecrees_11 (by decide) (fun c_11 => ?_) (fun c_11 => ?_)
    · have hf := (if_pos c_11).symm.trans hf
      refine lv_iconst (v := (0 : Int32)) hx hb dX1_hasDecrees_18 (by decide) ?_
      subst hf
      exact k_zret X (Or.inl rfl) hw dX1_hasDecrees_19
    · have hf := (if_neg c_11).symm.trans hf
      refine lv_iconst (v := (1 : Int32)) hx hb dX1_hasDecrees_14 (by decide) ?_
      refine lv_goto (tgt := 19) hx hb dX1_hasDecrees_15 (by decide) ?_
      subst hf
      exact k_zret X (Or.inr rfl) hw dX1_hasDecrees_19
theorem zb_X1_hasDecrees (t_decrees : Int32) (x1 : Int32) : f_X1_hasDecrees t_decrees x1 = 0 ∨ f_X1_hasDecrees t_decrees x1 = 1 := by
  unfold f_X1_hasDecrees
  repeat' apply ite_z
  all_goals first | exact Or.inl rfl | exact Or.inr rfl
/-! boolean isConsul(int); -/
def f_X1_isConsul (t_men : Int32) (t_consuls : Int32) (x1 : Int32) : Int32 := if (f_X1_hasMan t_men (x1)) = (0 : Int32) then ((0 : Int32))
  else if ((t_consuls >>> (x1 &&& (31 : Int32))) &&& (1 : Int32)) = (1 : Int32) then ((1 : Int32))
  else ((0 : Int32))
abbrev rm_X1_isConsul : Room := { frames := 1, cells := 0, slots := 0, locals := 21 }
theorem hd_X1_isConsul : yX1_isConsul.cls = RX1 ∧ yX1_isConsul.cls ≠ "java/lang/invoke/MethodHandle" ∧ yX1_isConsul.cls ≠ "java/lang/invoke/VarHandle" ∧ (parseMethodDescriptor yX1_isConsul.desc).map (fun d => d.parameters.length) = some 1 := by decide +kernel
set_option maxRecDepth 100000 in
set_option maxHeartbeats 4000000 in
theorem c_X1_isConsul {E : En} {l : Launch} {t_o : Nat} {t_q : Nat → Nat} {t_men : Int32} {t_consuls : Int32} {t_dangers : Int32} {t_decrees : Int32} {t_term : Int32} {t_termTold : Int32} {t_manNames : (Nat → Int64)} {t_kinds : (Nat → Int32)} {t_skills : (Nat → Int32)} {t_fields : (Nat → Int32)} {t_wants : (Nat → Int32)} {t_hated : (Nat → Int32)} {t_dangerNames : (Nat → Int64)} {t_sizes : (Nat → Int32)} {t_grows : (Nat → Int32)} {t_decreeNames : (Nat → Int64)} {t_grounds : (Nat → Int32)} {t_laws : Value} {x1 : Int32} {out : Int32} (hf : f_X1_isConsul t_men t_consuls x1 = out) : Cn E l yX1_isConsul cX1_isConsul 2 (some .boolean) rm_X1_isConsul [.ref t_o, .int (x1)] (wX1 E t_o t_q t_men t_consuls t_dangers t_decrees t_term t_termTold t_manNames t_kinds t_skills t_fields t_wants t_hated t_dangerNames t_sizes t_grows t_decreeNames t_grounds t_laws) (some (.int out)) (wX1 E t_o t_q t_men t_consuls t_dangers t_decrees t_term t_termTold t_manNames t_kinds t_skills t_fields t_wants t_hated t_dangerNames t_sizes t_grows t_decreeNames t_grounds t_laws) := by
  refine Cn.of (by decide) (Nat.le_of_ble_eq_true rfl) rfl ?_
  intro p e s m below meth c A ls args H locs X hw hl
  have hx := X.1.1
  have hb := X.1.2.1
  have ho := X.1.2.2.2.1
  have hts := X.1.2.2.2.2
  have hl : lv_has ls 2 [(0, .ref t_o), (1, .int (x1))] := hl
  unfold f_X1_isConsul at hf
  refine lv_aload_n hx hb dX1_isConsul_0 rfl (lv_at hl 0 rfl) ?_
  refine lv_iload_n hx hb dX1_isConsul_1 rfl (lv_at hl 1 rfl) ?_
  refine k_V (As := [.int (x1)]) (rest := []) (index := 94) (C := RX1) X (c_X1_hasMan (out := (f_X1_hasMan t_men (x1))) rfl) tw_716 tw_717 tw_718 tw_126 tw_719 ⟨rfl, rfl⟩ hd_X1_hasMan ⟨Nat.le_of_ble_eq_true rfl, Nat.le_of_ble_eq_true rfl⟩ ⟨Nat.zero_le _, Nat.zero_le _⟩ hw [0, 1, 2, 3, 4, 5, 6, 7, 8, 9, 10, 11] rfl rfl 0 rfl rfl rfl rfl hl.1 rfl (Nat.le_of_ble_eq_true rfl) dX1_isConsul_2 (fun H locs hw => ?_)
  have hw : Wd E A s.heap (wX1 E t_o t_q t_men t_consuls t_dangers t_decrees t_term t_termTold t_manNames t_kinds t_skills t_fields t_wants t_hated t_dangerNames t_sizes t_grows t_decreeNames t_grounds t_laws) H locs := hw
  refine lv_if_eq (tgt := 24) hx hb dX1_isConsul_5 (by decide) (fun c_5 => ?_) (fun c_5 => ?_)
  · have hf := (if_pos c_5).symm.trans hf
    refine lv_iconst (v := (0 : Int32)) hx hb dX1_isConsul_24 (by decide) ?_
    subst hf
    exact k_zret X (Or.inl rfl) hw dX1_isConsul_25
  · have hf := (if_neg c_5).symm.trans hf
    refine lv_aload_n hx hb dX1_isConsul_8 rfl (lv_at hl 0 rfl) ?_
    refine k_get (q0 := 0) (ci := 0) (C := RX1) (T := TX1) (N := 18) (x := .int (t_consuls)) X inx_1 hw rfl rfl 1 (by decide) rfl tw_378 rfl dX1_isConsul_9 ?_
    refine lv_iload_n hx hb dX1_isConsul_12 rfl (lv_at hl 1 rfl) ?_
    refine lv_ishr hx hb dX1_isConsul_13 ?_
    refine lv_iconst (v := (1 : Int32)) hx hb dX1_isConsul_14 (by decide) ?_
    refine lv_iand hx hb dX1_isConsul_15 ?_
    refine lv_iconst (v := (1 : Int32)) hx hb dX1_isConsul_16 (by decide) ?_
    refine lv_icmp_ne (tgt := 24) hx hb dX1_isConsul_17 (by decide) (fun c_17 => ?_) (fun c_17 => ?_)
    · have hf := (if_neg c_17).symm.trans hf
      refine lv_iconst (v := (0 : Int32)) hx hb dX1_isConsul_24 (by decide) ?_
      subst hf
      exact k_zret X (Or.inl rfl) hw dX1_isConsul_25
    · have hf := (if_pos c_17).symm.trans hf
      refine lv_iconst (v := (1 : Int32)) hx hb dX1_isConsul_20 (by decide) ?_
      refine lv_goto (tgt := 25) hx hb dX1_isConsul_21 (by decide) ?_
      subst hf
      exact k_zret X (Or.inr rfl) hw dX1_isConsul_25
theorem zb_X1_isConsul (t_men : Int32) (t_consuls : Int32) (x1 : Int32) : f_X1_isConsul t_men t_consuls x1 = 0 ∨ f_X1_isConsul t_men t_consuls x1 = 1 := by
  unfold f_X1_isConsul
  repeat' apply ite_z
  all_goals first | exact Or.inl rfl | exact Or.inr rfl | exact zb_X1_hasMan _ _
/-! private PloughCall$Standing pathAt(int); -/
def f_X2_pathAt (x1 : Int32) : Option ((Option Nat)) := if x1 < (0 : Int32) then some (none)
  else if (6 : Int32) ≤ x1 then some (none)
  else gd (x1) 6 (some ((some (x1).toNatClampNeg)))
abbrev rm_X2_pathAt : Room := { frames := 0, cells := 0, slots := 0, locals := 0 }
theorem hd_X2_pathAt : yX2_pathAt.cls = RX2 ∧ yX2_pathAt.cls ≠ "java/lang/invoke/MethodHandle" ∧ yX2_pathAt.cls ≠ "java/lang/invoke/VarHandle" ∧ (parseMethodDescriptor yX2_pathAt.desc).map (fun d => d.parameters.length) = some 1 := by decide +kernel
set_option maxRecDepth 100000 in
set_option maxHeartbeats 4000000 in
theorem c_X2_pathAt {E : En} {l : Launch} {tspath_o : Nat → Nat} {t_o : Nat} {t_q : Nat → Nat} {t_row : (Nat → Int32)} {t_leastRow : (Nat → Int32)} {t_needed : (Nat → Int32)} {t_likeSizes : (Nat → Int32)} {t_ways : Value} {t_nextWays : Value} {t_least : Int32} {t_ended : Int32} {t_monthsKept : Int32} {x1 : Int32} {out : (Option Nat)} (hf : f_X2_pathAt x1 = some out) : Cn E l yX2_pathAt cX2_pathAt 2 (some (.object "PloughCall$Standing")) rm_X2_pathAt [.ref t_o, .int (x1)] (wX2 E t_o t_q ((fun j => some (tspath_o j))) t_row t_leastRow t_needed t_likeSizes t_ways t_nextWays t_least t_ended t_monthsKept) (some (va_re tspath_o out)) (wX2 E t_o t_q ((fun j => some (tspath_o j))) t_row t_leastRow t_needed t_likeSizes t_ways t_nextWays t_least t_ended t_monthsKept) := by
  refine Cn.of (by decide) (Nat.le_of_ble_eq_true rfl) rfl ?_
  intro p e s m below meth c A ls args H locs X hw hl
  have hx := X.1.1
  have hb := X.1.2.1
  have ho := X.1.2.2.2.1
  have hts := X.1.2.2.2.2
  have hl : lv_has ls 2 [(0, .ref t_o), (1, .int (x1))] := hl
  unfold f_X2_pathAt at hf
  refine lv_iload_n hx hb dX2_pathAt_0 rfl (lv_at hl 1 rfl) ?_
  refine lv_if_lt (tgt := 22) hx hb dX2_pathAt_1 (by decide) (fun c_1 => ?_) (fun c_1 => ?_)
  · have hf := (if_pos c_1).symm.trans hf
    refine lv_null hx hb dX2_pathAt_22 ?_
    obtain rfl := Option.some.inj hf
    exact k_eret (ad := tspath_o) (x := none) X ⟨_, rfl⟩ hw dX2_pathAt_23
  · have hf := (if_neg c_1).symm.trans hf
    refine lv_iload_n hx hb dX2_pathAt_4 rfl (lv_at hl 1 rfl) ?_
    refine lv_aload_n hx hb dX2_pathAt_5 rfl (lv_at hl 0 rfl) ?_
    refine k_get (q0 := 0) (ci := 1) (C := RX2) (T := TX2) (N := 10) (x := .ref (t_q 0)) X inx_2 hw rfl rfl 0 (by decide) rfl tw_259 rfl dX2_pathAt_6 ?_
    refine k_alen (q0 := 1) (t0 := 4) (v9 := (6 : Int32)) X hw rfl rfl rfl dX2_pathAt_9 ?_
    refine lv_icmp_ge (tgt := 22) hx hb dX2_pathAt_10 (by decide) (fun c_10 => ?_) (fun c_10 => ?_)
    · have hf := (if_pos c_10).symm.trans hf
      refine lv_null hx hb dX2_pathAt_22 ?_
      obtain rfl := Option.some.inj hf
      exact k_eret (ad := tspath_o) (x := none) X ⟨_, rfl⟩ hw dX2_pathAt_23
    · have hf := (if_neg c_10).symm.trans hf
      refine lv_aload_n hx hb dX2_pathAt_13 rfl (lv_at hl 0 rfl) ?_
      refine k_get (q0 := 0) (ci := 1) (C := RX2) (T := TX2) (N := 10) (x := .ref (t_q 0)) X inx_2 hw rfl rfl 0 (by decide) rfl tw_259 rfl dX2_pathAt_14 ?_
      refine lv_iload_n hx hb dX2_pathAt_17 rfl (lv_at hl 1 rfl) ?_
      obtain ⟨hi_18, hf⟩ := gd_some hf
      refine k_aald (t0 := 4) (q0 := 1) (n := 6) (ad := tspath_o) X hw rfl rfl hi_18 dX2_pathAt_18 ?_
      refine lv_goto (tgt := 23) hx hb dX2_pathAt_19 (by decide) ?_
      obtain rfl := Option.some.inj hf
      exact k_eret (ad := tspath_o) (x := (some (x1).toNatClampNeg)) X ⟨_, rfl⟩ hw dX2_pathAt_23
/-! private void addWays(int, long); -/
def f_X2_addWays (tsnextWays_f : (Nat → Int64)) (x1 : Int32) (x2 : Int64) : Option ((Nat → Int64)) := if x1 < (0 : Int32) then some (tsnextWays_f)
  else if (100 : Int32) ≤ x1 then some (tsnextWays_f)
  else gd (x1) 100 (gd (x1) 100 (some (vp_updL tsnextWays_f (x1).toNatClampNeg (((tsnextWays_f (x1).toNatClampNeg) + x2)))))
abbrev rm_X2_addWays : Room := { frames := 0, cells := 0, slots := 0, locals := 0 }
theorem hd_X2_addWays : yX2_addWays.cls = RX2 ∧ yX2_addWays.cls ≠ "java/lang/invoke/MethodHandle" ∧ yX2_addWays.cls ≠ "java/lang/invoke/VarHandle" ∧ (parseMethodDescriptor yX2_addWays.desc).map (fun d => d.parameters.length) = some 2 := by decide +kernel
set_option maxRecDepth 100000 in
set_option maxHeartbeats 4000000 in
theorem c_X2_addWays {E : En} {l : Launch} {t_o : Nat} {t_q : Nat → Nat} {t_path : (Nat → Option Nat)} {t_row : (Nat → Int32)} {t_leastRow : (Nat → Int32)} {t_needed : (Nat → Int32)} {t_likeSizes : (Nat → Int32)} {t_ways : Value} {t_least : Int32} {t_ended : Int32} {t_monthsKept : Int32} {tsnextWays_o : Nat} {tsnextWays_f : (Nat → Int64)} {x1 : Int32} {x2 : Int64} {out : (Nat → Int64)} (hf : f_X2_addWays tsnextWays_f x1 x2 = some out) : Cn E l yX2_addWays cX2_addWays 4 none rm_X2_addWays [.ref t_o, .int (x1), .long (x2)] (wX2 E t_o t_q t_path t_row t_leastRow t_needed t_likeSizes t_ways (.ref tsnextWays_o) t_least t_ended t_monthsKept ++ (wL E tsnextWays_o 100 tsnextWays_f)) none (wX2 E t_o t_q t_path t_row t_leastRow t_needed t_likeSizes t_ways (.ref tsnextWays_o) t_least t_ended t_monthsKept ++ (wL E tsnextWays_o 100 out)) := by
  refine Cn.of (by decide) (Nat.le_of_ble_eq_true rfl) rfl ?_
  intro p e s m below meth c A ls args H locs X hw hl
  have hx := X.1.1
  have hb := X.1.2.1
  have ho := X.1.2.2.2.1
  have hts := X.1.2.2.2.2
  have hl : lv_has ls 4 [(0, .ref t_o), (1, .int (x1)), (2, .long (x2))] := hl
  unfold f_X2_addWays at hf
  refine lv_iload_n hx hb dX2_addWays_0 rfl (lv_at hl 1 rfl) ?_
  refine lv_if_lt (tgt := 23) hx hb dX2_addWays_1 (by decide) (fun c_1 => ?_) (fun c_1 => ?_)
  · have hf := (if_pos c_1).symm.trans hf
    obtain rfl := Option.some.inj hf
    exact k_vret X hw dX2_addWays_23
  · have hf := (if_neg c_1).symm.trans hf
    refine lv_iload_n hx hb dX2_addWays_4 rfl (lv_at hl 1 rfl) ?_
    refine lv_aload_n hx hb dX2_addWays_5 rfl (lv_at hl 0 rfl) ?_
    refine k_get (q0 := 0) (ci := 1) (C := RX2) (T := TX2) (N := 10) (x := .ref tsnextWays_o) X inx_2 hw rfl rfl 6 (by decide) rfl tw_266 rfl dX2_addWays_6 ?_
    refine k_alen (q0 := 6) (t0 := 1) (v9 := (100 : Int32)) X hw rfl rfl rfl dX2_addWays_9 ?_
    refine lv_icmp_ge (tgt := 23) hx hb dX2_addWays_10 (by decide) (fun c_10 => ?_) (fun c_10 => ?_)
    · have hf := (if_pos c_10).symm.trans hf
      obtain rfl := Option.some.inj hf
      exact k_vret X hw dX2_addWays_23
    · have hf := (if_neg c_10).symm.trans hf
      refine lv_aload_n hx hb dX2_addWays_13 rfl (lv_at hl 0 rfl) ?_
      refine k_get (q0 := 0) (ci := 1) (C := RX2) (T := TX2) (N := 10) (x := .ref tsnextWays_o) X inx_2 hw rfl rfl 6 (by decide) rfl tw_266 rfl dX2_addWays_14 ?_
      refine lv_iload_n hx hb dX2_addWays_17 rfl (lv_at hl 1 rfl) ?_
      refine lv_dup2_11 hx hb dX2_addWays_18 rfl rfl ?_
      obtain ⟨hi_19, hf⟩ := gd_some hf
      refine k_lald (q0 := 6) (n := 100) (f := tsnextWays_f) X hw rfl hi_19 dX2_addWays_19 ?_
      refine lv_lload_n hx hb dX2_addWays_20 rfl (lv_at hl 2 rfl) ?_
      refine lv_ladd hx hb dX2_addWays_21 ?_
      obtain ⟨hi_22, hf⟩ := gd_some hf
      refine k_last (q0 := 6) (n := 100) (f := tsnextWays_f) X hw rfl hi_22 dX2_addWays_22 (fun H locs hw => ?_)
      have hw : Wd E A s.heap (wX2 E t_o t_q t_path t_row t_leastRow t_needed t_likeSizes t_ways (.ref tsnextWays_o) t_least t_ended t_monthsKept ++ (wL E tsnextWays_o 100 (vp_updL tsnextWays_f (x1).toNatClampNeg (((tsnextWays_f (x1).toNatClampNeg) + x2))))) H locs := hw
      obtain rfl := Option.some.inj hf
      exact k_vret X hw dX2_addWays_23
/-! private static long drawnNext(long); -/
def f_X2_drawnNext (x0 : Int64) : Int64 := ((((x0 * (1103515245 : Int64)) + (12345 : Int64)) - ((x0 * (1103515245 : Int64)) + (12345 : Int64)) / (2147483648 : Int64) * (2147483648 : Int64)))
abbrev rm_X2_drawnNext : Room := { frames := 0, cells := 0, slots := 0, locals := 0 }
theorem hd_X2_drawnNext : yX2_drawnNext.cls = RX2 ∧ yX2_drawnNext.cls ≠ "java/lang/invoke/MethodHandle" ∧ yX2_drawnNext.cls ≠ "java/lang/invoke/VarHandle" ∧ (parseMethodDescriptor yX2_drawnNext.desc).map (fun d => d.parameters.length) = some 1 := by decide +kernel
set_option maxRecDepth 100000 in
set_option maxHeartbeats 4000000 in
theorem c_X2_drawnNext {E : En} {l : Launch}  {x0 : Int64} {out : Int64} (hf : f_X2_drawnNext x0 = out) : Cn E l yX2_drawnNext cX2_drawnNext 2 (some .long) rm_X2_drawnNext [.long (x0)] (([] : va_W)) (some (.long out)) (([] : va_W)) := by
  refine Cn.of (by decide) (Nat.le_of_ble_eq_true rfl) rfl ?_
  intro p e s m below meth c A ls args H locs X hw hl
  have hx := X.1.1
  have hb := X.1.2.1
  have ho := X.1.2.2.2.1
  have hts := X.1.2.2.2.2
  have hl : lv_has ls 2 [(0, .long (x0))] := hl
  unfold f_X2_drawnNext at hf
  refine lv_lload_n hx hb dX2_drawnNext_0 rfl (lv_at hl 0 rfl) ?_
  refine lv_ldc2 (v := (1103515245 : Int64)) hx hb ho (hts _ tw_1222) dX2_drawnNext_1 ?_
  refine lv_lmul hx hb dX2_drawnNext_4 ?_
  refine lv_ldc2 (v := (12345 : Int64)) hx hb ho (hts _ tw_1223) dX2_drawnNext_5 ?_
  refine lv_ladd hx hb dX2_drawnNext_8 ?_
  refine lv_ldc2 (v := (2147483648 : Int64)) hx hb ho (hts _ tw_1224) dX2_drawnNext_9 ?_
  refine lv_lrem hx hb dX2_drawnNext_12 (by decide) ?_
  subst hf
  exact k_lret X hw dX2_drawnNext_13
/-! private static int drawnBelow(long, int); -/
def f_X2_drawnBelow (x0 : Int64) (x2 : Int32) : Option (Int32) := if (0 : Int32) < x2 then ngl (((x2).toInt64)) (some (((((x0 / (65536 : Int64)) - (x0 / (65536 : Int64)) / ((x2).toInt64) * ((x2).toInt64))).toInt32)))
  else some ((0 : Int32))
abbrev rm_X2_drawnBelow : Room := { frames := 0, cells := 0, slots := 0, locals := 0 }
theorem hd_X2_drawnBelow : yX2_drawnBelow.cls = RX2 ∧ yX2_drawnBelow.cls ≠ "java/lang/invoke/MethodHandle" ∧ yX2_drawnBelow.cls ≠ "java/lang/invoke/VarHandle" ∧ (parseMethodDescriptor yX2_drawnBelow.desc).map (fun d => d.parameters.length) = some 2 := by decide +kernel
set_option maxRecDepth 100000 in
set_option maxHeartbeats 4000000 in
theorem c_X2_drawnBelow {E : En} {l : Launch}  {x0 : Int64} {x2 : Int32} {out : Int32} (hf : f_X2_drawnBelow x0 x2 = some out) : Cn E l yX2_drawnBelow cX2_drawnBelow 3 (some .int) rm_X2_drawnBelow [.long (x0), .int (x2)] (([] : va_W)) (some (.int out)) (([] : va_W)) := by
  refine Cn.of (by decide) (Nat.le_of_ble_eq_true rfl) rfl ?_
  intro p e s m below meth c A ls args H locs X hw hl
  have hx := X.1.1
  have hb := X.1.2.1
  have ho := X.1.2.2.2.1
  have hts := X.1.2.2.2.2
  have hl : lv_has ls 3 [(0, .long (x0)), (2, .int (x2))] := hl
  unfold f_X2_drawnBelow at hf
  refine lv_iload_n hx hb dX2_drawnBelow_0 rfl (lv_at hl 1 rfl) ?_
  refine lv_if_gt (tgt := 8) hx hb dX2_drawnBelow_1 (by decide) (fun c_1 => ?_) (fun c_1 => ?_)
  · have hf := (if_pos c_1).symm.trans hf
    refine lv_lload_n hx hb dX2_drawnBelow_8 rfl (lv_at hl 0 rfl) ?_
    refine lv_ldc2 (v := (65536 : Int64)) hx hb ho (hts _ tw_1228) dX2_drawnBelow_9 ?_
    refine lv_ldiv hx hb dX2_drawnBelow_12 (by decide) ?_
    refine lv_iload_n hx hb dX2_drawnBelow_13 rfl (lv_at hl 1 rfl) ?_
    refine lv_i2l (v := (x2).toInt64) hx hb dX2_drawnBelow_14 rfl ?_
    obtain ⟨hz_15, hf⟩ := ngl_some hf
    refine lv_lrem hx hb dX2_drawnBelow_15 hz_15 ?_
    refine lv_l2i (v := (((x0 / (65536 : Int64)) - (x0 / (65536 : Int64)) / ((x2).toInt64) * ((x2).toInt64))).toInt32) hx hb dX2_drawnBelow_16 rfl ?_
    obtain rfl := Option.some.inj hf
    exact k_iret X hw dX2_drawnBelow_17
  · have hf := (if_neg c_1).symm.trans hf
    refine lv_iconst (v := (0 : Int32)) hx hb dX2_drawnBelow_4 (by decide) ?_
    refine lv_goto (tgt := 17) hx hb dX2_drawnBelow_5 (by decide) ?_
    obtain rfl := Option.some.inj hf
    exact k_iret X hw dX2_drawnBelow_17
/-! void clear(); -/
def f_X3_clear : Int32 × Int32 × Int32 × Int32 × Int32 := ((0 : Int32), (0 : Int32), (0 : Int32), (0 : Int32), (0 : Int32))
abbrev rm_X3_clear : Room := { frames := 0, cells := 0, slots := 0, locals := 0 }
theorem hd_X3_clear : yX3_clear.cls = RX3 ∧ yX3_clear.cls ≠ "java/lang/invoke/MethodHandle" ∧ yX3_clear.cls ≠ "java/lang/invoke/VarHandle" ∧ (parseMethodDescriptor yX3_clear.desc).map (fun d => d.parameters.length) = some 0 := by decide +kernel
set_option maxRecDepth 100000 in
set_option maxHeartbeats 4000000 in
theorem c_X3_clear {E : En} {l : Launch} {t_o : Nat} {t_q : Nat → Nat} {t_ops : (Nat → Int32)} {t_stack : (Nat → Int32)} {t_size : Int32} {t_worksFrom : Int32} {t_worksTo : Int32} {t_keepsFrom : Int32} {t_keepsTo : Int32}  {out : Int32 × Int32 × Int32 × Int32 × Int32} (hf : f_X3_clear = out) : Cn E l yX3_clear cX3_clear 1 none rm_X3_clear [.ref t_o] (wX3 E t_o t_q t_ops t_stack t_size t_worksFrom t_worksTo t_keepsFrom t_keepsTo) none (wX3 E t_o t_q t_ops t_stack out.1 out.2.1 out.2.2.1 out.2.2.2.1 out.2.2.2.2) := by
  refine Cn.of (by decide) (Nat.le_of_ble_eq_true rfl) rfl ?_
  intro p e s m below meth c A ls args H locs X hw hl
  have hx := X.1.1
  have hb := X.1.2.1
  have ho := X.1.2.2.2.1
  have hts := X.1.2.2.2.2
  have hl : lv_has ls 1 [(0, .ref t_o)] := hl
  unfold f_X3_clear at hf
  refine lv_aload_n hx hb dX3_clear_0 rfl (lv_at hl 0 rfl) ?_
  refine lv_iconst (v := (0 : Int32)) hx hb dX3_clear_1 (by decide) ?_
  refine k_put (q0 := 0) (ci := 2) (C := RX3) (T := TX3) (N := 7) (ty0 := tyX3) (x := .int ((0 : Int32))) X inx_3 tyX3_ok nmX3 hw rfl rfl 2 (by decide) rfl rfl tw_351 rfl rfl (Nat.le_of_ble_eq_true rfl) dX3_clear_2 (fun H locs hw => ?_)
  have hw : Wd E A s.heap (wX3 E t_o t_q t_ops t_stack ((0 : Int32)) t_worksFrom t_worksTo t_keepsFrom t_keepsTo) H locs := hw
  refine lv_aload_n hx hb dX3_clear_5 rfl (lv_at hl 0 rfl) ?_
  refine lv_iconst (v := (0 : Int32)) hx hb dX3_clear_6 (by decide) ?_
  refine k_put (q0 := 0) (ci := 2) (C := RX3) (T := TX3) (N := 7) (ty0 := tyX3) (x := .int ((0 : Int32))) X inx_3 tyX3_ok nmX3 hw rfl rfl 3 (by decide) rfl rfl tw_353 rfl rfl (Nat.le_of_ble_eq_true rfl) dX3_clear_7 (fun H locs hw => ?_)
  have hw : Wd E A s.heap (wX3 E t_o t_q t_ops t_stack ((0 : Int32)) ((0 : Int32)) t_worksTo t_keepsFrom t_keepsTo) H locs := hw
  refine lv_aload_n hx hb dX3_clear_10 rfl (lv_at hl 0 rfl) ?_
  refine lv_iconst (v := (0 : Int32)) hx hb dX3_clear_11 (by decide) ?_
  refine k_put (q0 := 0) (ci := 2) (C := RX3) (T := TX3) (N := 7) (ty0 := tyX3) (x := .int ((0 : Int32))) X inx_3 tyX3_ok nmX3 hw rfl rfl 4 (by decide) rfl rfl tw_354 rfl rfl (Nat.le_of_ble_eq_true rfl) dX3_clear_12 (fun H locs hw => ?_)
  have hw : Wd E A s.heap (wX3 E t_o t_q t_ops t_stack ((0 : Int32)) ((0 : Int32)) ((0 : Int32)) t_keepsFrom t_keepsTo) H locs := hw
  refine lv_aload_n hx hb dX3_clear_15 rfl (lv_at hl 0 rfl) ?_
  refine lv_iconst (v := (0 : Int32)) hx hb dX3_clear_16 (by decide) ?_
  refine k_put (q0 := 0) (ci := 2) (C := RX3) (T := TX3) (N := 7) (ty0 := tyX3) (x := .int ((0 : Int32))) X inx_3 tyX3_ok nmX3 hw rfl rfl 5 (by decide) rfl rfl tw_355 rfl rfl (Nat.le_of_ble_eq_true rfl) dX3_clear_17 (fun H locs hw => ?_)
  have hw : Wd E A s.heap (wX3 E t_o t_q t_ops t_stack ((0 : Int32)) ((0 : Int32)) ((0 : Int32)) ((0 : Int32)) t_keepsTo) H locs := hw
  refine lv_aload_n hx hb dX3_clear_20 rfl (lv_at hl 0 rfl) ?_
  refine lv_iconst (v := (0 : Int32)) hx hb dX3_clear_21 (by decide) ?_
  refine k_put (q0 := 0) (ci := 2) (C := RX3) (T := TX3) (N := 7) (ty0 := tyX3) (x := .int ((0 : Int32))) X inx_3 tyX3_ok nmX3 hw rfl rfl 6 (by decide) rfl rfl tw_356 rfl rfl (Nat.le_of_ble_eq_true rfl) dX3_clear_22 (fun H locs hw => ?_)
  have hw : Wd E A s.heap (wX3 E t_o t_q t_ops t_stack ((0 : Int32)) ((0 : Int32)) ((0 : Int32)) ((0 : Int32)) ((0 : Int32))) H locs := hw
  subst hf
  exact k_vret X hw dX3_clear_25
/-! boolean isTold(boolean); -/
def f_X3_isTold (t_worksFrom : Int32) (t_worksTo : Int32) (t_keepsFrom : Int32) (t_keepsTo : Int32) (x1 : Int32) : Int32 := if x1 = (0 : Int32) then if t_worksTo ≤ t_worksFrom then ((0 : Int32))
    else ((1 : Int32))
  else if t_keepsTo ≤ t_keepsFrom then ((0 : Int32))
  else ((1 : Int32))
abbrev rm_X3_isTold : Room := { frames := 0, cells := 0, slots := 0, locals := 0 }
theorem hd_X3_isTold : yX3_isTold.cls = RX3 ∧ yX3_isTold.cls ≠ "java/lang/invoke/MethodHandle" ∧ yX3_isTold.cls ≠ "java/lang/invoke/VarHandle" ∧ (parseMethodDescriptor yX3_isTold.desc).map (fun d => d.parameters.length) = some 1 := by decide +kernel
set_option maxRecDepth 100000 in
set_option maxHeartbeats 4000000 in
theorem c_X3_isTold {E : En} {l : Launch} {t_o : Nat} {t_q : Nat → Nat} {t_ops : (Nat → Int32)} {t_stack : (Nat → Int32)} {t_size : Int32} {t_worksFrom : Int32} {t_worksTo : Int32} {t_keepsFrom : Int32} {t_keepsTo : Int32} {x1 : Int32} {out : Int32} (hf : f_X3_isTold t_worksFrom t_worksTo t_keepsFrom t_keepsTo x1 = out) : Cn E l yX3_isTold cX3_isTold 2 (some .boolean) rm_X3_isTold [.ref t_o, .int (x1)] (wX3 E t_o t_q t_ops t_stack t_size t_worksFrom t_worksTo t_keepsFrom t_keepsTo) (some (.int out)) (wX3 E t_o t_q t_ops t_stack t_size t_worksFrom t_worksTo t_keepsFrom t_keepsTo) := by
  refine Cn.of (by decide) (Nat.le_of_ble_eq_true rfl) rfl ?_
  intro p e s m below meth c A ls args H locs X hw hl
  have hx := X.1.1
  have hb := X.1.2.1
  have ho := X.1.2.2.2.1
  have hts := X.1.2.2.2.2
  have hl : lv_has ls 2 [(0, .ref t_o), (1, .int (x1))] := hl
  unfold f_X3_isTold at hf
  refine lv_iload_n hx hb dX3_isTold_0 rfl (lv_at hl 1 rfl) ?_
  refine lv_if_eq (tgt := 23) hx hb dX3_isTold_1 (by decide) (fun c_1 => ?_) (fun c_1 => ?_)
  · have hf := (if_pos c_1).symm.trans hf
    refine lv_aload_n hx hb dX3_isTold_23 rfl (lv_at hl 0 rfl) ?_
    refine k_get (q0 := 0) (ci := 2) (C := RX3) (T := TX3) (N := 7) (x := .int (t_worksTo)) X inx_3 hw rfl rfl 4 (by decide) rfl tw_354 rfl dX3_isTold_24 ?_
    refine lv_aload_n hx hb dX3_isTold_27 rfl (lv_at hl 0 rfl) ?_
    refine k_get (q0 := 0) (ci := 2) (C := RX3) (T := TX3) (N := 7) (x := .int (t_worksFrom)) X inx_3 hw rfl rfl 3 (by decide) rfl tw_353 rfl dX3_isTold_28 ?_
    refine lv_icmp_le (tgt := 38) hx hb dX3_isTold_31 (by decide) (fun c_31 => ?_) (fun c_31 => ?_)
    · have hf := (if_pos c_31).symm.trans hf
      refine lv_iconst (v := (0 : Int32)) hx hb dX3_isTold_38 (by decide) ?_
      subst hf
      exact k_zret X (Or.inl rfl) hw dX3_isTold_39
    · have hf := (if_neg c_31).symm.trans hf
      refine lv_iconst (v := (1 : Int32)) hx hb dX3_isTold_34 (by decide) ?_
      refine lv_goto (tgt := 39) hx hb dX3_isTold_35 (by decide) ?_
      subst hf
      exact k_zret X (Or.inr rfl) hw dX3_isTold_39
  · have hf := (if_neg c_1).symm.trans hf
    refine lv_aload_n hx hb dX3_isTold_4 rfl (lv_at hl 0 rfl) ?_
    refine k_get (q0 := 0) (ci := 2) (C := RX3) (T := TX3) (N := 7) (x := .int (t_keepsTo)) X inx_3 hw rfl rfl 6 (by decide) rfl tw_356 rfl dX3_isTold_5 ?_
    refine lv_aload_n hx hb dX3_isTold_8 rfl (lv_at hl 0 rfl) ?_
    refine k_get (q0 := 0) (ci := 2) (C := RX3) (T := TX3) (N := 7) (x := .int (t_keepsFrom)) X inx_3 hw rfl rfl 5 (by decide) rfl tw_355 rfl dX3_isTold_9 ?_
    refine lv_icmp_le (tgt := 19) hx hb dX3_isTold_12 (by decide) (fun c_12 => ?_) (fun c_12 => ?_)
    · have hf := (if_pos c_12).symm.trans hf
      refine lv_iconst (v := (0 : Int32)) hx hb dX3_isTold_19 (by decide) ?_
      refine lv_goto (tgt := 39) hx hb dX3_isTold_20 (by decide) ?_
      subst hf
      exact k_zret X (Or.inl rfl) hw dX3_isTold_39
    · have hf := (if_neg c_12).symm.trans hf
      refine lv_iconst (v := (1 : Int32)) hx hb dX3_isTold_15 (by decide) ?_
      refine lv_goto (tgt := 39) hx hb dX3_isTold_16 (by decide) ?_
      subst hf
      exact k_zret X (Or.inr rfl) hw dX3_isTold_39
theorem zb_X3_isTold (t_worksFrom : Int32) (t_worksTo : Int32) (t_keepsFrom : Int32) (t_keepsTo : Int32) (x1 : Int32) : f_X3_isTold t_worksFrom t_worksTo t_keepsFrom t_keepsTo x1 = 0 ∨ f_X3_isTold t_worksFrom t_worksTo t_keepsFrom t_keepsTo x1 = 1 := by
  unfold f_X3_isTold
  repeat' apply ite_z
  all_goals first | exact Or.inl rfl | exact Or.inr rfl
/-! void close(boolean, int); -/
def f_X3_close (t_size : Int32) (t_worksFrom : Int32) (t_worksTo : Int32) (t_keepsFrom : Int32) (t_keepsTo : Int32) (x1 : Int32) (x2 : Int32) : Int32 × Int32 × Int32 × Int32 := if x1 = (0 : Int32) then (x2, t_size, t_keepsFrom, t_keepsTo)
  else (t_worksFrom, t_worksTo, x2, t_size)
abbrev rm_X3_close : Room := { frames := 0, cells := 0, slots := 0, locals := 0 }
theorem hd_X3_close : yX3_close.cls = RX3 ∧ yX3_close.cls ≠ "java/lang/invoke/MethodHandle" ∧ yX3_close.cls ≠ "java/lang/invoke/VarHandle" ∧ (parseMethodDescriptor yX3_close.desc).map (fun d => d.parameters.length) = some 2 := by decide +kernel
set_option maxRecDepth 100000 in
set_option maxHeartbeats 4000000 in
theorem c_X3_close {E : En} {l : Launch} {t_o : Nat} {t_q : Nat → Nat} {t_ops : (Nat → Int32)} {t_stack : (Nat → Int32)} {t_size : Int32} {t_worksFrom : Int32} {t_worksTo : Int32} {t_keepsFrom : Int32} {t_keepsTo : Int32} {x1 : Int32} {x2 : Int32} {out : Int32 × Int32 × Int32 × Int32} (hf : f_X3_close t_size t_worksFrom t_worksTo t_keepsFrom t_keepsTo x1 x2 = out) : Cn E l yX3_close cX3_close 3 none rm_X3_close [.ref t_o, .int (x1), .int (x2)] (wX3 E t_o t_q t_ops t_stack t_size t_worksFrom t_worksTo t_keepsFrom t_keepsTo) none (wX3 E t_o t_q t_ops t_stack t_size out.1 out.2.1 out.2.2.1 out.2.2.2) := by
  refine Cn.of (by decide) (Nat.le_of_ble_eq_true rfl) rfl ?_
  intro p e s m below meth c A ls args H locs X hw hl
  have hx := X.1.1
  have hb := X.1.2.1
  have ho := X.1.2.2.2.1
  have hts := X.1.2.2.2.2
  have hl : lv_has ls 3 [(0, .ref t_o), (1, .int (x1)), (2, .int (x2))] := hl
  unfold f_X3_close at hf
  refine lv_iload_n hx hb dX3_close_0 rfl (lv_at hl 1 rfl) ?_
  refine lv_if_eq (tgt := 20) hx hb dX3_close_1 (by decide) (fun c_1 => ?_) (fun c_1 => ?_)
  · have hf := (if_pos c_1).symm.trans hf
    refine lv_aload_n hx hb dX3_close_20 rfl (lv_at hl 0 rfl) ?_
    refine lv_iload_n hx hb dX3_close_21 rfl (lv_at hl 2 rfl) ?_
    refine k_put (q0 := 0) (ci := 2) (C := RX3) (T := TX3) (N := 7) (ty0 := tyX3) (x := .int (x2)) X inx_3 tyX3_ok nmX3 hw rfl rfl 3 (by decide) rfl rfl tw_353 rfl rfl (Nat.le_of_ble_eq_true rfl) dX3_close_22 (fun H locs hw => ?_)
    have hw : Wd E A s.heap (wX3 E t_o t_q t_ops t_stack t_size x2 t_worksTo t_keepsFrom t_keepsTo) H locs := hw
    refine lv_aload_n hx hb dX3_close_25 rfl (lv_at hl 0 rfl) ?_
    refine lv_aload_n hx hb dX3_close_26 rfl (lv_at hl 0 rfl) ?_
    refine k_get (q0 := 0) (ci := 2) (C := RX3) (T := TX3) (N := 7) (x := .int (t_size)) X inx_3 hw rfl rfl 2 (by decide) rfl tw_351 rfl dX3_close_27 ?_
    refine k_put (q0 := 0) (ci := 2) (C := RX3) (T := TX3) (N := 7) (ty0 := tyX3) (x := .int (t_size)) X inx_3 tyX3_ok nmX3 hw rfl rfl 4 (by decide) rfl rfl tw_354 rfl rfl (Nat.le_of_ble_eq_true rfl) dX3_close_30 (fun H locs hw => ?_)
    have hw : Wd E A s.heap (wX3 E t_o t_q t_ops t_stack t_size x2 t_size t_keepsFrom t_keepsTo) H locs := hw
    subst hf
    exact k_vret X hw dX3_close_33
  · have hf := (if_neg c_1).symm.trans hf
    refine lv_aload_n hx hb dX3_close_4 rfl (lv_at hl 0 rfl) ?_
    refine lv_iload_n hx hb dX3_close_5 rfl (lv_at hl 2 rfl) ?_
    refine k_put (q0 := 0) (ci := 2) (C := RX3) (T := TX3) (N := 7) (ty0 := tyX3) (x := .int (x2)) X inx_3 tyX3_ok nmX3 hw rfl rfl 5 (by decide) rfl rfl tw_355 rfl rfl (Nat.le_of_ble_eq_true rfl) dX3_close_6 (fun H locs hw => ?_)
    have hw : Wd E A s.heap (wX3 E t_o t_q t_ops t_stack t_size t_worksFrom t_worksTo x2 t_keepsTo) H locs := hw
    refine lv_aload_n hx hb dX3_close_9 rfl (lv_at hl 0 rfl) ?_
    refine lv_aload_n hx hb dX3_close_10 rfl (lv_at hl 0 rfl) ?_
    refine k_get (q0 := 0) (ci := 2) (C := RX3) (T := TX3) (N := 7) (x := .int (t_size)) X inx_3 hw rfl rfl 2 (by decide) rfl tw_351 rfl dX3_close_11 ?_
    refine k_put (q0 := 0) (ci := 2) (C := RX3) (T := TX3) (N := 7) (ty0 := tyX3) (x := .int (t_size)) X inx_3 tyX3_ok nmX3 hw rfl rfl 6 (by decide) rfl rfl tw_356 rfl rfl (Nat.le_of_ble_eq_true rfl) dX3_close_14 (fun H locs hw => ?_)
    have hw : Wd E A s.heap (wX3 E t_o t_q t_ops t_stack t_size t_worksFrom t_worksTo x2 t_size) H locs := hw
    refine lv_goto (tgt := 33) hx hb dX3_close_17 (by decide) ?_
    subst hf
    exact k_vret X hw dX3_close_33
/-! private static int alone(int, int, int, int, int); -/
def f_X3_alone (x0 : Int32) (x1 : Int32) (x2 : Int32) (x3 : Int32) (x4 : Int32) : Int32 := if x0 = (-4 : Int32) then (x4)
  else if x0 = (-3 : Int32) then (x3)
  else if x0 = (-2 : Int32) then (x2)
  else if x0 = (-1 : Int32) then (x1)
  else (x0)
abbrev rm_X3_alone : Room := { frames := 0, cells := 0, slots := 0, locals := 0 }
theorem hd_X3_alone : yX3_alone.cls = RX3 ∧ yX3_alone.cls ≠ "java/lang/invoke/MethodHandle" ∧ yX3_alone.cls ≠ "java/lang/invoke/VarHandle" ∧ (parseMethodDescriptor yX3_alone.desc).map (fun d => d.parameters.length) = some 5 := by decide +kernel
set_option maxRecDepth 100000 in
set_option maxHeartbeats 4000000 in
theorem c_X3_alone {E : En} {l : Launch}  {x0 : Int32} {x1 : Int32} {x2 : Int32} {x3 : Int32} {x4 : Int32} {out : Int32} (hf : f_X3_alone x0 x1 x2 x3 x4 = out) : Cn E l yX3_alone cX3_alone 5 (some .int) rm_X3_alone [.int (x0), .int (x1), .int (x2), .int (x3), .int (x4)] (([] : va_W)) (some (.int out)) (([] : va_W)) := by
  refine Cn.of (by decide) (Nat.le_of_ble_eq_true rfl) rfl ?_
  intro p e s m below meth c A ls args H locs X hw hl
  have hx := X.1.1
  have hb := X.1.2.1
  have ho := X.1.2.2.2.1
  have hts := X.1.2.2.2.2
  have hl : lv_has ls 5 [(0, .int (x0)), (1, .int (x1)), (2, .int (x2)), (3, .int (x3)), (4, .int (x4))] := hl
  unfold f_X3_alone at hf
  refine lv_iload_n hx hb dX3_alone_0 rfl (lv_at hl 0 rfl) ?_
  by_cases c_1_m4 : x0 = (-4 : Int32)
  · have hf := (if_pos c_1_m4).symm.trans hf
    refine lv_tableIn (tgt := 38) hx hb dX3_alone_1 (by rw [c_1_m4]; decide) (by rw [c_1_m4]; decide) (by rw [c_1_m4]; rfl) (by decide) ?_
    refine lv_iload hx hb dX3_alone_38 (lv_at hl 4 rfl) ?_
    subst hf
    exact k_iret X hw dX3_alone_40
  have hf := (if_neg c_1_m4).symm.trans hf
  by_cases c_1_m3 : x0 = (-3 : Int32)
  · have hf := (if_pos c_1_m3).symm.trans hf
    refine lv_tableIn (tgt := 36) hx hb dX3_alone_1 (by rw [c_1_m3]; decide) (by rw [c_1_m3]; decide) (by rw [c_1_m3]; rfl) (by decide) ?_
    refine lv_iload_n hx hb dX3_alone_36 rfl (lv_at hl 3 rfl) ?_
    subst hf
    exact k_iret X hw dX3_alone_37
  have hf := (if_neg c_1_m3).symm.trans hf
  by_cases c_1_m2 : x0 = (-2 : Int32)
  · have hf := (if_pos c_1_m2).symm.trans hf
    refine lv_tableIn (tgt := 34) hx hb dX3_alone_1 (by rw [c_1_m2]; decide) (by rw [c_1_m2]; decide) (by rw [c_1_m2]; rfl) (by decide) ?_
    refine lv_iload_n hx hb dX3_alone_34 rfl (lv_at hl 2 rfl) ?_
    subst hf
    exact k_iret X hw dX3_alone_35
  have hf := (if_neg c_1_m2).symm.trans hf
  by_cases c_1_m1 : x0 = (-1 : Int32)
  · have hf := (if_pos c_1_m1).symm.trans hf
    refine lv_tableIn (tgt := 32) hx hb dX3_alone_1 (by rw [c_1_m1]; decide) (by rw [c_1_m1]; decide) (by rw [c_1_m1]; rfl) (by decide) ?_
    refine lv_iload_n hx hb dX3_alone_32 rfl (lv_at hl 1 rfl) ?_
    subst hf
    exact k_iret X hw dX3_alone_33
  have hf := (if_neg c_1_m1).symm.trans hf
  have nc_1_m4 : (x0).toInt ≠ (-4) := fun h => c_1_m4 (Int32.toInt_inj.mp (h.trans (by decide)))
  have nc_1_m3 : (x0).toInt ≠ (-3) := fun h => c_1_m3 (Int32.toInt_inj.mp (h.trans (by decide)))
  have nc_1_m2 : (x0).toInt ≠ (-2) := fun h => c_1_m2 (Int32.toInt_inj.mp (h.trans (by decide)))
  have nc_1_m1 : (x0).toInt ≠ (-1) := fun h => c_1_m1 (Int32.toInt_inj.mp (h.trans (by decide)))
  refine lv_tableOut (tgt := 41) hx hb dX3_alone_1 (by omega) (by decide) ?_
  refine lv_iload_n hx hb dX3_alone_41 rfl (lv_at hl 0 rfl) ?_
  subst hf
  exact k_iret X hw dX3_alone_42
/-! private static int joined(int, int, int); -/
def f_X3_joined (x0 : Int32) (x1 : Int32) (x2 : Int32) : Int32 := if x0 = (-12 : Int32) then ((x1 * x2))
  else if x0 = (-11 : Int32) then ((x1 - x2))
  else if x0 = (-10 : Int32) then ((x1 + x2))
  else if x0 = (-9 : Int32) then if x1 = x2 then ((1 : Int32))
    else ((0 : Int32))
  else if x0 = (-8 : Int32) then if x2 ≤ x1 then ((0 : Int32))
    else ((1 : Int32))
  else if x0 = (-7 : Int32) then if x1 = (0 : Int32) then if x2 = (0 : Int32) then ((0 : Int32))
      else ((1 : Int32))
    else ((1 : Int32))
  else if x0 = (-6 : Int32) then if x1 = (0 : Int32) then ((0 : Int32))
    else if x2 = (0 : Int32) then ((0 : Int32))
    else ((1 : Int32))
  else ((0 : Int32))
abbrev rm_X3_joined : Room := { frames := 0, cells := 0, slots := 0, locals := 0 }
theorem hd_X3_joined : yX3_joined.cls = RX3 ∧ yX3_joined.cls ≠ "java/lang/invoke/MethodHandle" ∧ yX3_joined.cls ≠ "java/lang/invoke/VarHandle" ∧ (parseMethodDescriptor yX3_joined.desc).map (fun d => d.parameters.length) = some 3 := by decide +kernel
set_option maxRecDepth 100000 in
set_option maxHeartbeats 4000000 in
theorem c_X3_joined {E : En} {l : Launch}  {x0 : Int32} {x1 : Int32} {x2 : Int32} {out : Int32} (hf : f_X3_joined x0 x1 x2 = out) : Cn E l yX3_joined cX3_joined 3 (some .int) rm_X3_joined [.int (x0), .int (x1), .int (x2)] (([] : va_W)) (some (.int out)) (([] : va_W)) := by
  refine Cn.of (by decide) (Nat.le_of_ble_eq_true rfl) rfl ?_
  intro p e s m below meth c A ls args H locs X hw hl
  have hx := X.1.1
  have hb := X.1.2.1
  have ho := X.1.2.2.2.1
  have hts := X.1.2.2.2.2
  have hl : lv_has ls 3 [(0, .int (x0)), (1, .int (x1)), (2, .int (x2))] := hl
  unfold f_X3_joined at hf
  refine lv_iload_n hx hb dX3_joined_0 rfl (lv_at hl 0 rfl) ?_
  by_cases c_1_m12 : x0 = (-12 : Int32)
  · have hf := (if_pos c_1_m12).symm.trans hf
    refine lv_tableIn (tgt := 102) hx hb dX3_joined_1 (by rw [c_1_m12]; decide) (by rw [c_1_m12]; decide) (by rw [c_1_m12]; rfl) (by decide) ?_
    refine lv_iload_n hx hb dX3_joined_102 rfl (lv_at hl 1 rfl) ?_
    refine lv_iload_n hx hb dX3_joined_103 rfl (lv_at hl 2 rfl) ?_
    refine lv_imul hx hb dX3_joined_104 ?_
    subst hf
    exact k_iret X hw dX3_joined_105
  have hf := (if_neg c_1_m12).symm.trans hf
  by_cases c_1_m11 : x0 = (-11 : Int32)
  · have hf := (if_pos c_1_m11).symm.trans hf
    refine lv_tableIn (tgt := 98) hx hb dX3_joined_1 (by rw [c_1_m11]; decide) (by rw [c_1_m11]; decide) (by rw [c_1_m11]; rfl) (by decide) ?_
    refine lv_iload_n hx hb dX3_joined_98 rfl (lv_at hl 1 rfl) ?_
    refine lv_iload_n hx hb dX3_joined_99 rfl (lv_at hl 2 rfl) ?_
    refine lv_isub hx hb dX3_joined_100 ?_
    subst hf
    exact k_iret X hw dX3_joined_101
  have hf := (if_neg c_1_m11).symm.trans hf
  by_cases c_1_m10 : x0 = (-10 : Int32)
  · have hf := (if_pos c_1_m10).symm.trans hf
    refine lv_tableIn (tgt := 94) hx hb dX3_joined_1 (by rw [c_1_m10]; decide) (by rw [c_1_m10]; decide) (by rw [c_1_m10]; rfl) (by decide) ?_
    refine lv_iload_n hx hb dX3_joined_94 rfl (lv_at hl 1 rfl) ?_
    refine lv_iload_n hx hb dX3_joined_95 rfl (lv_at hl 2 rfl) ?_
    refine lv_iadd hx hb dX3_joined_96 ?_
    subst hf
    exact k_iret X hw dX3_joined_97
  have hf := (if_neg c_1_m10).symm.trans hf
  by_cases c_1_m9 : x0 = (-9 : Int32)
  · have hf := (if_pos c_1_m9).symm.trans hf
    refine lv_tableIn (tgt := 83) hx hb dX3_joined_1 (by rw [c_1_m9]; decide) (by rw [c_1_m9]; decide) (by rw [c_1_m9]; rfl) (by decide) ?_
    refine lv_iload_n hx hb dX3_joined_83 rfl (lv_at hl 1 rfl) ?_
    refine lv_iload_n hx hb dX3_joined_84 rfl (lv_at hl 2 rfl) ?_
    refine lv_icmp_ne (tgt := 92) hx hb dX3_joined_85 (by decide) (fun c_85 => ?_) (fun c_85 => ?_)
    · have hf := (if_neg c_85).symm.trans hf
      refine lv_iconst (v := (0 : Int32)) hx hb dX3_joined_92 (by decide) ?_
      subst hf
      exact k_iret X hw dX3_joined_93
    · have hf := (if_pos c_85).symm.trans hf
      refine lv_iconst (v := (1 : Int32)) hx hb dX3_joined_88 (by decide) ?_
      refine lv_goto (tgt := 93) hx hb dX3_joined_89 (by decide) ?_
      subst hf
      exact k_iret X hw dX3_joined_93
  have hf := (if_neg c_1_m9).symm.trans hf
  by_cases c_1_m8 : x0 = (-8 : Int32)
  · have hf := (if_pos c_1_m8).symm.trans hf
    refine lv_tableIn (tgt := 72) hx hb dX3_joined_1 (by rw [c_1_m8]; decide) (by rw [c_1_m8]; decide) (by rw [c_1_m8]; rfl) (by decide) ?_
    refine lv_iload_n hx hb dX3_joined_72 rfl (lv_at hl 1 rfl) ?_
    refine lv_iload_n hx hb dX3_joined_73 rfl (lv_at hl 2 rfl) ?_
    refine lv_icmp_ge (tgt := 81) hx hb dX3_joined_74 (by decide) (fun c_74 => ?_) (fun c_74 => ?_)
    · have hf := (if_pos c_74).symm.trans hf
      refine lv_iconst (v := (0 : Int32)) hx hb dX3_joined_81 (by decide) ?_
      subst hf
      exact k_iret X hw dX3_joined_82
    · have hf := (if_neg c_74).symm.trans hf
      refine lv_iconst (v := (1 : Int32)) hx hb dX3_joined_77 (by decide) ?_
      refine lv_goto (tgt := 82) hx hb dX3_joined_78 (by decide) ?_
      subst hf
      exact k_iret X hw dX3_joined_82
  have hf := (if_neg c_1_m8).symm.trans hf
  by_cases c_1_m7 : x0 = (-7 : Int32)
  · have hf := (if_pos c_1_m7).symm.trans hf
    refine lv_tableIn (tgt := 58) hx hb dX3_joined_1 (by rw [c_1_m7]; decide) (by rw [c_1_m7]; decide) (by rw [c_1_m7]; rfl) (by decide) ?_
    refine lv_iload_n hx hb dX3_joined_58 rfl (lv_at hl 1 rfl) ?_
    refine lv_if_ne (tgt := 66) hx hb dX3_joined_59 (by decide) (fun c_59 => ?_) (fun c_59 => ?_)
    · have hf := (if_neg c_59).symm.trans hf
      refine lv_iconst (v := (1 : Int32)) hx hb dX3_joined_66 (by decide) ?_
      refine lv_goto (tgt := 71) hx hb dX3_joined_67 (by decide) ?_
      subst hf
      exact k_iret X hw dX3_joined_71
    · have hf := (if_pos c_59).symm.trans hf
      refine lv_iload_n hx hb dX3_joined_62 rfl (lv_at hl 2 rfl) ?_
      refine lv_if_eq (tgt := 70) hx hb dX3_joined_63 (by decide) (fun c_63 => ?_) (fun c_63 => ?_)
      · have hf := (if_pos c_63).symm.trans hf
        refine lv_iconst (v := (0 : Int32)) hx hb dX3_joined_70 (by decide) ?_
        subst hf
        exact k_iret X hw dX3_joined_71
      · have hf := (if_neg c_63).symm.trans hf
        refine lv_iconst (v := (1 : Int32)) hx hb dX3_joined_66 (by decide) ?_
        refine lv_goto (tgt := 71) hx hb dX3_joined_67 (by decide) ?_
        subst hf
        exact k_iret X hw dX3_joined_71
  have hf := (if_neg c_1_m7).symm.trans hf
  by_cases c_1_m6 : x0 = (-6 : Int32)
  · have hf := (if_pos c_1_m6).symm.trans hf
    refine lv_tableIn (tgt := 44) hx hb dX3_joined_1 (by rw [c_1_m6]; decide) (by rw [c_1_m6]; decide) (by rw [c_1_m6]; rfl) (by decide) ?_
    refine lv_iload_n hx hb dX3_joined_44 rfl (lv_at hl 1 rfl) ?_
    refine lv_if_eq (tgt := 56) hx hb dX3_joined_45 (by decide) (fun c_45 => ?_) (fun c_45 => ?_)
    · have hf := (if_pos c_45).symm.trans hf
      refine lv_iconst (v := (0 : Int32)) hx hb dX3_joined_56 (by decide) ?_
      subst hf
      exact k_iret X hw dX3_joined_57
    · have hf := (if_neg c_45).symm.trans hf
      refine lv_iload_n hx hb dX3_joined_48 rfl (lv_at hl 2 rfl) ?_
      refine lv_if_eq (tgt := 56) hx hb dX3_joined_49 (by decide) (fun c_49 => ?_) (fun c_49 => ?_)
      · have hf := (if_pos c_49).symm.trans hf
        refine lv_iconst (v := (0 : Int32)) hx hb dX3_joined_56 (by decide) ?_
        subst hf
        exact k_iret X hw dX3_joined_57
      · have hf := (if_neg c_49).symm.trans hf
        refine lv_iconst (v := (1 : Int32)) hx hb dX3_joined_52 (by decide) ?_
        refine lv_goto (tgt := 57) hx hb dX3_joined_53 (by decide) ?_
        subst hf
        exact k_iret X hw dX3_joined_57
  have hf := (if_neg c_1_m6).symm.trans hf
  have nc_1_m12 : (x0).toInt ≠ (-12) := fun h => c_1_m12 (Int32.toInt_inj.mp (h.trans (by decide)))
  have nc_1_m11 : (x0).toInt ≠ (-11) := fun h => c_1_m11 (Int32.toInt_inj.mp (h.trans (by decide)))
  have nc_1_m10 : (x0).toInt ≠ (-10) := fun h => c_1_m10 (Int32.toInt_inj.mp (h.trans (by decide)))
  have nc_1_m9 : (x0).toInt ≠ (-9) := fun h => c_1_m9 (Int32.toInt_inj.mp (h.trans (by decide)))
  have nc_1_m8 : (x0).toInt ≠ (-8) := fun h => c_1_m8 (Int32.toInt_inj.mp (h.trans (by decide)))
  have nc_1_m7 : (x0).toInt ≠ (-7) := fun h => c_1_m7 (Int32.toInt_inj.mp (h.trans (by decide)))
  have nc_1_m6 : (x0).toInt ≠ (-6) := fun h => c_1_m6 (Int32.toInt_inj.mp (h.trans (by decide)))
  refine lv_tableOut (tgt := 106) hx hb dX3_joined_1 (by omega) (by decide) ?_
  refine lv_iconst (v := (0 : Int32)) hx hb dX3_joined_106 (by decide) ?_
  subst hf
  exact k_iret X hw dX3_joined_107
/-! private PloughCall$Standing beforeAt(int); -/
def f_X5_beforeAt (x1 : Int32) : Option ((Option Nat)) := if x1 < (0 : Int32) then some (none)
  else if (16 : Int32) ≤ x1 then some (none)
  else gd (x1) 16 (some ((some (x1).toNatClampNeg)))
abbrev rm_X5_beforeAt : Room := { frames := 0, cells := 0, slots := 0, locals := 0 }
theorem hd_X5_beforeAt : yX5_beforeAt.cls = RX5 ∧ yX5_beforeAt.cls ≠ "java/lang/invoke/MethodHandle" ∧ yX5_beforeAt.cls ≠ "java/lang/invoke/VarHandle" ∧ (parseMethodDescriptor yX5_beforeAt.desc).map (fun d => d.parameters.length) = some 1 := by decide +kernel
set_option maxRecDepth 100000 in
set_option maxHeartbeats 4000000 in
theorem c_X5_beforeAt {E : En} {l : Launch} {tsbefores_o : Nat → Nat} {t_o : Nat} {t_q : Nat → Nat} {t_steps : Int32} {t_next : Int32} {x1 : Int32} {out : (Option Nat)} (hf : f_X5_beforeAt x1 = some out) : Cn E l yX5_beforeAt cX5_beforeAt 2 (some (.object "PloughCall$Standing")) rm_X5_beforeAt [.ref t_o, .int (x1)] (wX5 E t_o t_q ((fun j => some (tsbefores_o j))) t_steps t_next) (some (va_re tsbefores_o out)) (wX5 E t_o t_q ((fun j => some (tsbefores_o j))) t_steps t_next) := by
  refine Cn.of (by decide) (Nat.le_of_ble_eq_true rfl) rfl ?_
  intro p e s m below meth c A ls args H locs X hw hl
  have hx := X.1.1
  have hb := X.1.2.1
  have ho := X.1.2.2.2.1
  have hts := X.1.2.2.2.2
  have hl : lv_has ls 2 [(0, .ref t_o), (1, .int (x1))] := hl
  unfold f_X5_beforeAt at hf
  refine lv_iload_n hx hb dX5_beforeAt_0 rfl (lv_at hl 1 rfl) ?_
  refine lv_if_lt (tgt := 22) hx hb dX5_beforeAt_1 (by decide) (fun c_1 => ?_) (fun c_1 => ?_)
  · have hf := (if_pos c_1).symm.trans hf
    refine lv_null hx hb dX5_beforeAt_22 ?_
    obtain rfl := Option.some.inj hf
    exact k_eret (ad := tsbefores_o) (x := none) X ⟨_, rfl⟩ hw dX5_beforeAt_23
  · have hf := (if_neg c_1).symm.trans hf
    refine lv_iload_n hx hb dX5_beforeAt_4 rfl (lv_at hl 1 rfl) ?_
    refine lv_aload_n hx hb dX5_beforeAt_5 rfl (lv_at hl 0 rfl) ?_
    refine k_get (q0 := 0) (ci := 4) (C := RX5) (T := TX5) (N := 3) (x := .ref (t_q 0)) X inx_5 hw rfl rfl 0 (by decide) rfl tw_304 rfl dX5_beforeAt_6 ?_
    refine k_alen (q0 := 1) (t0 := 4) (v9 := (16 : Int32)) X hw rfl rfl rfl dX5_beforeAt_9 ?_
    refine lv_icmp_ge (tgt := 22) hx hb dX5_beforeAt_10 (by decide) (fun c_10 => ?_) (fun c_10 => ?_)
    · have hf := (if_pos c_10).symm.trans hf
      refine lv_null hx hb dX5_beforeAt_22 ?_
      obtain rfl := Option.some.inj hf
      exact k_eret (ad := tsbefores_o) (x := none) X ⟨_, rfl⟩ hw dX5_beforeAt_23
    · have hf := (if_neg c_10).symm.trans hf
      refine lv_aload_n hx hb dX5_beforeAt_13 rfl (lv_at hl 0 rfl) ?_
      refine k_get (q0 := 0) (ci := 4) (C := RX5) (T := TX5) (N := 3) (x := .ref (t_q 0)) X inx_5 hw rfl rfl 0 (by decide) rfl tw_304 rfl dX5_beforeAt_14 ?_
      refine lv_iload_n hx hb dX5_beforeAt_17 rfl (lv_at hl 1 rfl) ?_
      obtain ⟨hi_18, hf⟩ := gd_some hf
      refine k_aald (t0 := 4) (q0 := 1) (n := 16) (ad := tsbefores_o) X hw rfl rfl hi_18 dX5_beforeAt_18 ?_
      refine lv_goto (tgt := 23) hx hb dX5_beforeAt_19 (by decide) ?_
      obtain rfl := Option.some.inj hf
      exact k_eret (ad := tsbefores_o) (x := (some (x1).toNatClampNeg)) X ⟨_, rfl⟩ hw dX5_beforeAt_23
/-! private boolean wrong(int); -/
def f_X6_wrong (tstape_place : Int32) (x1 : Int32) : Int32 × Int32 := ((0 : Int32), (x1 + ((16 : Int32) * tstape_place)))
abbrev rm_X6_wrong : Room := { frames := 0, cells := 0, slots := 0, locals := 0 }
theorem hd_X6_wrong : yX6_wrong.cls = RX6 ∧ yX6_wrong.cls ≠ "java/lang/invoke/MethodHandle" ∧ yX6_wrong.cls ≠ "java/lang/invoke/VarHandle" ∧ (parseMethodDescriptor yX6_wrong.desc).map (fun d => d.parameters.length) = some 1 := by decide +kernel
set_option maxRecDepth 100000 in
set_option maxHeartbeats 4000000 in
theorem c_X6_wrong {E : En} {l : Launch} {t_o : Nat} {t_city : Value} {t_script : Value} {t_fault : Int32} {tstape_o : Nat} {tstape_q : Nat → Nat} {tstape_signs : (Nat → Int32)} {tstape_length : Int32} {tstape_place : Int32} {tstape_behind : Int32} {tstape_kind : Int32} {tstape_value : Int32} {tstape_letters : Int64} {tstape_word : (Option Nat)} {x1 : Int32} {out : Int32 × Int32} (hf : f_X6_wrong tstape_place x1 = out) : Cn E l yX6_wrong cX6_wrong 2 (some .boolean) rm_X6_wrong [.ref t_o, .int (x1)] (wX6 E t_o (.ref tstape_o) t_city t_script t_fault ++ (wX10 E tstape_o tstape_q tstape_signs tstape_length tstape_place tstape_behind tstape_kind tstape_value tstape_letters tstape_word)) (some (.int out.1)) (wX6 E t_o (.ref tstape_o) t_city t_script out.2 ++ (wX10 E tstape_o tstape_q tstape_signs tstape_length tstape_place tstape_behind tstape_kind tstape_value tstape_letters tstape_word)) := by
  refine Cn.of (by decide) (Nat.le_of_ble_eq_true rfl) rfl ?_
  intro p e s m below meth c A ls args H locs X hw hl
  have hx := X.1.1
  have hb := X.1.2.1
  have ho := X.1.2.2.2.1
  have hts := X.1.2.2.2.2
  have hl : lv_has ls 2 [(0, .ref t_o), (1, .int (x1))] := hl
  unfold f_X6_wrong at hf
  refine lv_aload_n hx hb dX6_wrong_0 rfl (lv_at hl 0 rfl) ?_
  refine lv_iload_n hx hb dX6_wrong_1 rfl (lv_at hl 1 rfl) ?_
  refine lv_bipush (v := (16 : Int32)) hx hb dX6_wrong_2 (by decide) ?_
  refine lv_aload_n hx hb dX6_wrong_4 rfl (lv_at hl 0 rfl) ?_
  refine k_get (q0 := 0) (ci := 5) (C := RX6) (T := TX6) (N := 4) (x := .ref tstape_o) X inx_6 hw rfl rfl 0 (by decide) rfl tw_192 rfl dX6_wrong_5 ?_
  refine k_getN (q0 := 1) (ci := 9) (C := RX10) (T := TX10) (N := 8) (host := "PloughCall") (x := .int (tstape_place)) X inx_10 hw rfl rfl 2 (by decide) rfl nw_2 rfl dX6_wrong_8 ?_
  refine lv_imul hx hb dX6_wrong_11 ?_
  refine lv_iadd hx hb dX6_wrong_12 ?_
  refine k_put (q0 := 0) (ci := 5) (C := RX6) (T := TX6) (N := 4) (ty0 := tyX6) (x := .int ((x1 + ((16 : Int32) * tstape_place)))) X inx_6 tyX6_ok nmX6 hw rfl rfl 3 (by decide) rfl rfl tw_195 rfl rfl (Nat.le_of_ble_eq_true rfl) dX6_wrong_13 (fun H locs hw => ?_)
  have hw : Wd E A s.heap (wX6 E t_o (.ref tstape_o) t_city t_script ((x1 + ((16 : Int32) * tstape_place))) ++ (wX10 E tstape_o tstape_q tstape_signs tstape_length tstape_place tstape_behind tstape_kind tstape_value tstape_letters tstape_word)) H locs := hw
  refine lv_iconst (v := (0 : Int32)) hx hb dX6_wrong_16 (by decide) ?_
  subst hf
  exact k_zret X (Or.inl rfl) hw dX6_wrong_17
