/-! the constructors -/
abbrev mcity0 : Nat → Int32 := upd ZI (4 : Int32).toNatClampNeg 6
theorem aw_int : Cond.arrayClass (newarray.typeOf .int) ∈ lwg := lm2 (ltb_1 (List.mem_of_getElem? (i := 67) (by decide +kernel))) rfl
theorem aw_long : Cond.arrayClass (newarray.typeOf .long) ∈ lwg := lm2 (ltb_1 (List.mem_of_getElem? (i := 140) (by decide +kernel))) rfl
theorem aw_boolean : Cond.arrayClass (newarray.typeOf .boolean) ∈ lwg := lm2 (ltb_7 (List.mem_of_getElem? (i := 11) (by decide +kernel))) rfl
theorem df_1 : ∀ j, j < 18 → defaultValue (tyX1 j) = vp_V [.int 0, .int 0, .int 0, .int 0, .int 0, .int 0, .null, .null, .null, .null, .null, .null, .null, .null, .null, .null, .null, .null] j := by
  intro j hj
  match j, hj with
  | 0, _ => rfl
  | 1, _ => rfl
  | 2, _ => rfl
  | 3, _ => rfl
  | 4, _ => rfl
  | 5, _ => rfl
  | 6, _ => rfl
  | 7, _ => rfl
  | 8, _ => rfl
  | 9, _ => rfl
  | 10, _ => rfl
  | 11, _ => rfl
  | 12, _ => rfl
  | 13, _ => rfl
  | 14, _ => rfl
  | 15, _ => rfl
  | 16, _ => rfl
  | 17, _ => rfl
  | j + 18, h => exact absurd h (by omega)
theorem df_2 : ∀ j, j < 10 → defaultValue (tyX2 j) = vp_V [.null, .null, .null, .null, .null, .null, .null, .int 0, .int 0, .int 0] j := by
  intro j hj
  match j, hj with
  | 0, _ => rfl
  | 1, _ => rfl
  | 2, _ => rfl
  | 3, _ => rfl
  | 4, _ => rfl
  | 5, _ => rfl
  | 6, _ => rfl
  | 7, _ => rfl
  | 8, _ => rfl
  | 9, _ => rfl
  | j + 10, h => exact absurd h (by omega)
theorem df_3 : ∀ j, j < 7 → defaultValue (tyX3 j) = vp_V [.null, .null, .int 0, .int 0, .int 0, .int 0, .int 0] j := by
  intro j hj
  match j, hj with
  | 0, _ => rfl
  | 1, _ => rfl
  | 2, _ => rfl
  | 3, _ => rfl
  | 4, _ => rfl
  | 5, _ => rfl
  | 6, _ => rfl
  | j + 7, h => exact absurd h (by omega)
theorem df_4 : ∀ j, j < 4 → defaultValue (tyX4 j) = vp_V [.int 0, .null, .null, .null] j := by
  intro j hj
  match j, hj with
  | 0, _ => rfl
  | 1, _ => rfl
  | 2, _ => rfl
  | 3, _ => rfl
  | j + 4, h => exact absurd h (by omega)
theorem df_5 : ∀ j, j < 3 → defaultValue (tyX5 j) = vp_V [.null, .int 0, .int 0] j := by
  intro j hj
  match j, hj with
  | 0, _ => rfl
  | 1, _ => rfl
  | 2, _ => rfl
  | j + 3, h => exact absurd h (by omega)
theorem df_6 : ∀ j, j < 4 → defaultValue (tyX6 j) = vp_V [.null, .null, .null, .int 0] j := by
  intro j hj
  match j, hj with
  | 0, _ => rfl
  | 1, _ => rfl
  | 2, _ => rfl
  | 3, _ => rfl
  | j + 4, h => exact absurd h (by omega)
theorem df_7 : ∀ j, j < 4 → defaultValue (tyX7 j) = vp_V [.int 0, .null, .null, .null] j := by
  intro j hj
  match j, hj with
  | 0, _ => rfl
  | 1, _ => rfl
  | 2, _ => rfl
  | 3, _ => rfl
  | j + 4, h => exact absurd h (by omega)
theorem df_8 : ∀ j, j < 4 → defaultValue (tyX8 j) = vp_V [.int 0, .null, .null, .null] j := by
  intro j hj
  match j, hj with
  | 0, _ => rfl
  | 1, _ => rfl
  | 2, _ => rfl
  | 3, _ => rfl
  | j + 4, h => exact absurd h (by omega)
theorem df_9 : ∀ j, j < 9 → defaultValue (tyX9 j) = vp_V [.int 0, .int 0, .int 0, .int 0, .int 0, .int 0, .null, .null, .null] j := by
  intro j hj
  match j, hj with
  | 0, _ => rfl
  | 1, _ => rfl
  | 2, _ => rfl
  | 3, _ => rfl
  | 4, _ => rfl
  | 5, _ => rfl
  | 6, _ => rfl
  | 7, _ => rfl
  | 8, _ => rfl
  | j + 9, h => exact absurd h (by omega)
theorem df_10 : ∀ j, j < 8 → defaultValue (tyX10 j) = vp_V [.null, .int 0, .int 0, .int 0, .int 0, .int 0, .long 0, .null] j := by
  intro j hj
  match j, hj with
  | 0, _ => rfl
  | 1, _ => rfl
  | 2, _ => rfl
  | 3, _ => rfl
  | 4, _ => rfl
  | 5, _ => rfl
  | 6, _ => rfl
  | 7, _ => rfl
  | j + 8, h => exact absurd h (by omega)
theorem df_12 : ∀ j, j < 14 → defaultValue (tyX12 j) = vp_V [.null, .null, .null, .null, .null, .null, .null, .null, .null, .null, .null, .null, .int 0, .int 0] j := by
  intro j hj
  match j, hj with
  | 0, _ => rfl
  | 1, _ => rfl
  | 2, _ => rfl
  | 3, _ => rfl
  | 4, _ => rfl
  | 5, _ => rfl
  | 6, _ => rfl
  | 7, _ => rfl
  | 8, _ => rfl
  | 9, _ => rfl
  | 10, _ => rfl
  | 11, _ => rfl
  | 12, _ => rfl
  | 13, _ => rfl
  | j + 14, h => exact absurd h (by omega)
theorem df_13 : ∀ j, j < 65 → defaultValue (tyX13 j) = vp_V [.int 0, .int 0, .null, .int 0, .int 0, .int 0, .int 0, .long 0, .int 0, .int 0, .null, .null, .null, .null, .null, .null, .null, .null, .null, .null, .null, .null, .null, .null, .null, .int 0, .int 0, .int 0, .null, .null, .null, .null, .null, .null, .null, .null, .null, .null, .null, .null, .int 0, .long 0, .int 0, .null, .null, .null, .null, .null, .null, .null, .null, .null, .null, .null, .null, .null, .null, .int 0, .null, .null, .int 0, .null, .null, .int 0, .long 0] j := by
  intro j hj
  match j, hj with
  | 0, _ => rfl
  | 1, _ => rfl
  | 2, _ => rfl
  | 3, _ => rfl
  | 4, _ => rfl
  | 5, _ => rfl
  | 6, _ => rfl
  | 7, _ => rfl
  | 8, _ => rfl
  | 9, _ => rfl
  | 10, _ => rfl
  | 11, _ => rfl
  | 12, _ => rfl
  | 13, _ => rfl
  | 14, _ => rfl
  | 15, _ => rfl
  | 16, _ => rfl
  | 17, _ => rfl
  | 18, _ => rfl
  | 19, _ => rfl
  | 20, _ => rfl
  | 21, _ => rfl
  | 22, _ => rfl
  | 23, _ => rfl
  | 24, _ => rfl
  | 25, _ => rfl
  | 26, _ => rfl
  | 27, _ => rfl
  | 28, _ => rfl
  | 29, _ => rfl
  | 30, _ => rfl
  | 31, _ => rfl
  | 32, _ => rfl
  | 33, _ => rfl
  | 34, _ => rfl
  | 35, _ => rfl
  | 36, _ => rfl
  | 37, _ => rfl
  | 38, _ => rfl
  | 39, _ => rfl
  | 40, _ => rfl
  | 41, _ => rfl
  | 42, _ => rfl
  | 43, _ => rfl
  | 44, _ => rfl
  | 45, _ => rfl
  | 46, _ => rfl
  | 47, _ => rfl
  | 48, _ => rfl
  | 49, _ => rfl
  | 50, _ => rfl
  | 51, _ => rfl
  | 52, _ => rfl
  | 53, _ => rfl
  | 54, _ => rfl
  | 55, _ => rfl
  | 56, _ => rfl
  | 57, _ => rfl
  | 58, _ => rfl
  | 59, _ => rfl
  | 60, _ => rfl
  | 61, _ => rfl
  | 62, _ => rfl
  | 63, _ => rfl
  | 64, _ => rfl
  | j + 65, h => exact absurd h (by omega)
abbrev ri_X3_init : Room := { frames := 1, cells := 2, slots := 1032, locals := 12 }
theorem hd_X3_init : yX3_init.cls ≠ "java/lang/invoke/MethodHandle" ∧ yX3_init.cls ≠ "java/lang/invoke/VarHandle" ∧ (parseMethodDescriptor yX3_init.desc).map (fun d => d.parameters.length) = some 0 := by decide +kernel
set_option maxRecDepth 100000 in
set_option maxHeartbeats 4000000 in
theorem ci_X3_init {E : En} {l : Launch} {t_o : Nat} : Ci E l yX3_init cX3_init 1 ri_X3_init 2 1032 [.ref t_o] ([(t_o, .inr (2, [.null, .null, .int 0, .int 0, .int 0, .int 0, .int 0]))]) (fun W' => ∃ (q : Nat → Nat), W' = wX3 E t_o q ZI ZI (0 : Int32) (0 : Int32) (0 : Int32) (0 : Int32) (0 : Int32)) := by
  refine Ci.of (by decide) (Nat.le_of_ble_eq_true rfl) rfl ?_
  intro p e s m below meth c A ls args H locs X hAo hin hw hl
  have hx := X.1.1
  have hb := X.1.2.1
  have hl : lv_has ls 1 [(0, .ref t_o)] := hl
  have hw : Wd E A s.heap ([(t_o, .inr (2, [.null, .null, .int 0, .int 0, .int 0, .int 0, .int 0]))]) H locs := hw
  refine lv_aload_n hx hb dX3_init_0 rfl (lv_at hl 0 rfl) ?_
  refine kn_obj X tw_348 tw_146 tw_147 hl.1 ⟨Nat.le_of_ble_eq_true rfl, Nat.le_of_ble_eq_true rfl⟩ dX3_init_1 ?_
  refine lv_aload_n hx hb dX3_init_4 rfl (lv_at hl 0 rfl) ?_
  refine lv_sipush (v := (1000 : Int32)) hx hb dX3_init_5 (by decide) ?_
  refine kn_arr (t0 := 0) (N := 1000) (a0 := (1000, (.inl ZI))) (ty := .int) X aw_int rfl rfl hw (fun _ => rfl) (by decide) (by decide) (by decide) (Nat.le_of_ble_eq_true rfl) (Nat.le_of_ble_eq_true rfl) dX3_init_8 (fun a8_0 H hw => ?_)
  have hw : Wd E A s.heap ([(t_o, .inr (2, [.null, .null, .int 0, .int 0, .int 0, .int 0, .int 0])), (a8_0, .inl (E.2.1 0, 1000, (.inl ZI)))]) H locs := hw
  refine kn_putF (q0 := 0) (ci := 2) (T := TX3) (N := 7) (x := .ref a8_0) X hin inx_3 tyX3_ok nmX3 hw rfl rfl 0 (by decide) rfl rfl tw_349 rfl rfl (Nat.le_of_ble_eq_true rfl) dX3_init_10 (fun H locs hw => ?_)
  have hw : Wd E A s.heap ([(t_o, .inr (2, [.ref a8_0, .null, .int 0, .int 0, .int 0, .int 0, .int 0])), (a8_0, .inl (E.2.1 0, 1000, (.inl ZI)))]) H locs := hw
  refine lv_aload_n hx hb dX3_init_13 rfl (lv_at hl 0 rfl) ?_
  refine lv_bipush (v := (32 : Int32)) hx hb dX3_init_14 (by decide) ?_
  refine kn_arr (t0 := 0) (N := 32) (a0 := (32, (.inl ZI))) (ty := .int) X aw_int rfl rfl hw (fun _ => rfl) (by decide) (by decide) (by decide) (Nat.le_of_ble_eq_true rfl) (Nat.le_of_ble_eq_true rfl) dX3_init_16 (fun a16_1 H hw => ?_)
  have hw : Wd E A s.heap ([(t_o, .inr (2, [.ref a8_0, .null, .int 0, .int 0, .int 0, .int 0, .int 0])), (a8_0, .inl (E.2.1 0, 1000, (.inl ZI))), (a16_1, .inl (E.2.1 0, 32, (.inl ZI)))]) H locs := hw
  refine kn_putF (q0 := 0) (ci := 2) (T := TX3) (N := 7) (x := .ref a16_1) X hin inx_3 tyX3_ok nmX3 hw rfl rfl 1 (by decide) rfl rfl tw_350 rfl rfl (Nat.le_of_ble_eq_true rfl) dX3_init_18 (fun H locs hw => ?_)
  have hw : Wd E A s.heap ([(t_o, .inr (2, [.ref a8_0, .ref a16_1, .int 0, .int 0, .int 0, .int 0, .int 0])), (a8_0, .inl (E.2.1 0, 1000, (.inl ZI))), (a16_1, .inl (E.2.1 0, 32, (.inl ZI)))]) H locs := hw
  have hw : Wd E A s.heap (wX3 E t_o (fun k => cond (Nat.beq k 0) a8_0 (a16_1)) ZI ZI (0 : Int32) (0 : Int32) (0 : Int32) (0 : Int32) (0 : Int32)) H locs := hw.re [0, 1, 2] rfl rfl
  exact kn_ret X hw ⟨(fun k => cond (Nat.beq k 0) a8_0 (a16_1)), rfl⟩ dX3_init_21
abbrev ri_X9_init : Room := { frames := 1, cells := 3, slots := 17, locals := 12 }
theorem hd_X9_init : yX9_init.cls ≠ "java/lang/invoke/MethodHandle" ∧ yX9_init.cls ≠ "java/lang/invoke/VarHandle" ∧ (parseMethodDescriptor yX9_init.desc).map (fun d => d.parameters.length) = some 0 := by decide +kernel
set_option maxRecDepth 100000 in
set_option maxHeartbeats 4000000 in
theorem ci_X9_init {E : En} {l : Launch} {t_o : Nat} : Ci E l yX9_init cX9_init 1 ri_X9_init 3 17 [.ref t_o] ([(t_o, .inr (8, [.int 0, .int 0, .int 0, .int 0, .int 0, .int 0, .null, .null, .null]))]) (fun W' => ∃ (q : Nat → Nat), W' = wX9 E t_o q (0 : Int32) (-1 : Int32) (-1 : Int32) (0 : Int32) (0 : Int32) (0 : Int32) ZI ZI ZI) := by
  refine Ci.of (by decide) (Nat.le_of_ble_eq_true rfl) rfl ?_
  intro p e s m below meth c A ls args H locs X hAo hin hw hl
  have hx := X.1.1
  have hb := X.1.2.1
  have hl : lv_has ls 1 [(0, .ref t_o)] := hl
  have hw : Wd E A s.heap ([(t_o, .inr (8, [.int 0, .int 0, .int 0, .int 0, .int 0, .int 0, .null, .null, .null]))]) H locs := hw
  refine lv_aload_n hx hb dX9_init_0 rfl (lv_at hl 0 rfl) ?_
  refine kn_obj X tw_217 tw_146 tw_147 hl.1 ⟨Nat.le_of_ble_eq_true rfl, Nat.le_of_ble_eq_true rfl⟩ dX9_init_1 ?_
  refine lv_aload_n hx hb dX9_init_4 rfl (lv_at hl 0 rfl) ?_
  refine lv_iconst (v := (-1 : Int32)) hx hb dX9_init_5 (by decide) ?_
  refine k_put (q0 := 0) (ci := 8) (C := RX9) (T := TX9) (N := 9) (x := .int (-1 : Int32)) X inx_9 tyX9_ok nmX9 hw rfl rfl 1 (by decide) rfl rfl tw_220 rfl rfl (Nat.le_of_ble_eq_true rfl) dX9_init_6 (fun H locs hw => ?_)
  have hw : Wd E A s.heap ([(t_o, .inr (8, [.int 0, .int (-1 : Int32), .int 0, .int 0, .int 0, .int 0, .null, .null, .null]))]) H locs := hw
  refine lv_aload_n hx hb dX9_init_9 rfl (lv_at hl 0 rfl) ?_
  refine lv_iconst (v := (-1 : Int32)) hx hb dX9_init_10 (by decide) ?_
  refine k_put (q0 := 0) (ci := 8) (C := RX9) (T := TX9) (N := 9) (x := .int (-1 : Int32)) X inx_9 tyX9_ok nmX9 hw rfl rfl 2 (by decide) rfl rfl tw_223 rfl rfl (Nat.le_of_ble_eq_true rfl) dX9_init_11 (fun H locs hw => ?_)
  have hw : Wd E A s.heap ([(t_o, .inr (8, [.int 0, .int (-1 : Int32), .int (-1 : Int32), .int 0, .int 0, .int 0, .null, .null, .null]))]) H locs := hw
  refine lv_aload_n hx hb dX9_init_14 rfl (lv_at hl 0 rfl) ?_
  refine lv_iconst (v := (5 : Int32)) hx hb dX9_init_15 (by decide) ?_
  refine kn_arr (t0 := 0) (N := 5) (a0 := (5, (.inl ZI))) (ty := .int) X aw_int rfl rfl hw (fun _ => rfl) (by decide) (by decide) (by decide) (Nat.le_of_ble_eq_true rfl) (Nat.le_of_ble_eq_true rfl) dX9_init_16 (fun a16_0 H hw => ?_)
  have hw : Wd E A s.heap ([(t_o, .inr (8, [.int 0, .int (-1 : Int32), .int (-1 : Int32), .int 0, .int 0, .int 0, .null, .null, .null])), (a16_0, .inl (E.2.1 0, 5, (.inl ZI)))]) H locs := hw
  refine kn_putF (q0 := 0) (ci := 8) (T := TX9) (N := 9) (x := .ref a16_0) X hin inx_9 tyX9_ok nmX9 hw rfl rfl 6 (by decide) rfl rfl tw_232 rfl rfl (Nat.le_of_ble_eq_true rfl) dX9_init_18 (fun H locs hw => ?_)
  have hw : Wd E A s.heap ([(t_o, .inr (8, [.int 0, .int (-1 : Int32), .int (-1 : Int32), .int 0, .int 0, .int 0, .ref a16_0, .null, .null])), (a16_0, .inl (E.2.1 0, 5, (.inl ZI)))]) H locs := hw
  refine lv_aload_n hx hb dX9_init_21 rfl (lv_at hl 0 rfl) ?_
  refine lv_bipush (v := (6 : Int32)) hx hb dX9_init_22 (by decide) ?_
  refine kn_arr (t0 := 0) (N := 6) (a0 := (6, (.inl ZI))) (ty := .int) X aw_int rfl rfl hw (fun _ => rfl) (by decide) (by decide) (by decide) (Nat.le_of_ble_eq_true rfl) (Nat.le_of_ble_eq_true rfl) dX9_init_24 (fun a24_1 H hw => ?_)
  have hw : Wd E A s.heap ([(t_o, .inr (8, [.int 0, .int (-1 : Int32), .int (-1 : Int32), .int 0, .int 0, .int 0, .ref a16_0, .null, .null])), (a16_0, .inl (E.2.1 0, 5, (.inl ZI))), (a24_1, .inl (E.2.1 0, 6, (.inl ZI)))]) H locs := hw
  refine kn_putF (q0 := 0) (ci := 8) (T := TX9) (N := 9) (x := .ref a24_1) X hin inx_9 tyX9_ok nmX9 hw rfl rfl 7 (by decide) rfl rfl tw_235 rfl rfl (Nat.le_of_ble_eq_true rfl) dX9_init_26 (fun H locs hw => ?_)
  have hw : Wd E A s.heap ([(t_o, .inr (8, [.int 0, .int (-1 : Int32), .int (-1 : Int32), .int 0, .int 0, .int 0, .ref a16_0, .ref a24_1, .null])), (a16_0, .inl (E.2.1 0, 5, (.inl ZI))), (a24_1, .inl (E.2.1 0, 6, (.inl ZI)))]) H locs := hw
  refine lv_aload_n hx hb dX9_init_29 rfl (lv_at hl 0 rfl) ?_
  refine lv_bipush (v := (6 : Int32)) hx hb dX9_init_30 (by decide) ?_
  refine kn_arr (t0 := 0) (N := 6) (a0 := (6, (.inl ZI))) (ty := .int) X aw_int rfl rfl hw (fun _ => rfl) (by decide) (by decide) (by decide) (Nat.le_of_ble_eq_true rfl) (Nat.le_of_ble_eq_true rfl) dX9_init_32 (fun a32_2 H hw => ?_)
  have hw : Wd E A s.heap ([(t_o, .inr (8, [.int 0, .int (-1 : Int32), .int (-1 : Int32), .int 0, .int 0, .int 0, .ref a16_0, .ref a24_1, .null])), (a16_0, .inl (E.2.1 0, 5, (.inl ZI))), (a24_1, .inl (E.2.1 0, 6, (.inl ZI))), (a32_2, .inl (E.2.1 0, 6, (.inl ZI)))]) H locs := hw
  refine kn_putF (q0 := 0) (ci := 8) (T := TX9) (N := 9) (x := .ref a32_2) X hin inx_9 tyX9_ok nmX9 hw rfl rfl 8 (by decide) rfl rfl tw_237 rfl rfl (Nat.le_of_ble_eq_true rfl) dX9_init_34 (fun H locs hw => ?_)
  have hw : Wd E A s.heap ([(t_o, .inr (8, [.int 0, .int (-1 : Int32), .int (-1 : Int32), .int 0, .int 0, .int 0, .ref a16_0, .ref a24_1, .ref a32_2])), (a16_0, .inl (E.2.1 0, 5, (.inl ZI))), (a24_1, .inl (E.2.1 0, 6, (.inl ZI))), (a32_2, .inl (E.2.1 0, 6, (.inl ZI)))]) H locs := hw
  have hw : Wd E A s.heap (wX9 E t_o (fun k => cond (Nat.beq k 6) a16_0 (cond (Nat.beq k 7) a24_1 (a32_2))) (0 : Int32) (-1 : Int32) (-1 : Int32) (0 : Int32) (0 : Int32) (0 : Int32) ZI ZI ZI) H locs := hw.re [0, 1, 2, 3] rfl rfl
  exact kn_ret X hw ⟨(fun k => cond (Nat.beq k 6) a16_0 (cond (Nat.beq k 7) a24_1 (a32_2))), rfl⟩ dX9_init_37
abbrev ri_X8_init : Room := { frames := 1, cells := 3, slots := 120, locals := 12 }
theorem hd_X8_init : yX8_init.cls ≠ "java/lang/invoke/MethodHandle" ∧ yX8_init.cls ≠ "java/lang/invoke/VarHandle" ∧ (parseMethodDescriptor yX8_init.desc).map (fun d => d.parameters.length) = some 0 := by decide +kernel
set_option maxRecDepth 100000 in
set_option maxHeartbeats 4000000 in
theorem ci_X8_init {E : En} {l : Launch} {t_o : Nat} : Ci E l yX8_init cX8_init 1 ri_X8_init 3 120 [.ref t_o] ([(t_o, .inr (7, [.int 0, .null, .null, .null]))]) (fun W' => ∃ (q : Nat → Nat), W' = wX8 E t_o q (0 : Int32) ZI ZI ZI) := by
  refine Ci.of (by decide) (Nat.le_of_ble_eq_true rfl) rfl ?_
  intro p e s m below meth c A ls args H locs X hAo hin hw hl
  have hx := X.1.1
  have hb := X.1.2.1
  have hl : lv_has ls 1 [(0, .ref t_o)] := hl
  have hw : Wd E A s.heap ([(t_o, .inr (7, [.int 0, .null, .null, .null]))]) H locs := hw
  refine lv_aload_n hx hb dX8_init_0 rfl (lv_at hl 0 rfl) ?_
  refine kn_obj X tw_464 tw_146 tw_147 hl.1 ⟨Nat.le_of_ble_eq_true rfl, Nat.le_of_ble_eq_true rfl⟩ dX8_init_1 ?_
  refine lv_aload_n hx hb dX8_init_4 rfl (lv_at hl 0 rfl) ?_
  refine lv_bipush (v := (40 : Int32)) hx hb dX8_init_5 (by decide) ?_
  refine kn_arr (t0 := 0) (N := 40) (a0 := (40, (.inl ZI))) (ty := .int) X aw_int rfl rfl hw (fun _ => rfl) (by decide) (by decide) (by decide) (Nat.le_of_ble_eq_true rfl) (Nat.le_of_ble_eq_true rfl) dX8_init_7 (fun a7_0 H hw => ?_)
  have hw : Wd E A s.heap ([(t_o, .inr (7, [.int 0, .null, .null, .null])), (a7_0, .inl (E.2.1 0, 40, (.inl ZI)))]) H locs := hw
  refine kn_putF (q0 := 0) (ci := 7) (T := TX8) (N := 4) (x := .ref a7_0) X hin inx_8 tyX8_ok nmX8 hw rfl rfl 1 (by decide) rfl rfl tw_468 rfl rfl (Nat.le_of_ble_eq_true rfl) dX8_init_9 (fun H locs hw => ?_)
  have hw : Wd E A s.heap ([(t_o, .inr (7, [.int 0, .ref a7_0, .null, .null])), (a7_0, .inl (E.2.1 0, 40, (.inl ZI)))]) H locs := hw
  refine lv_aload_n hx hb dX8_init_12 rfl (lv_at hl 0 rfl) ?_
  refine lv_bipush (v := (40 : Int32)) hx hb dX8_init_13 (by decide) ?_
  refine kn_arr (t0 := 0) (N := 40) (a0 := (40, (.inl ZI))) (ty := .int) X aw_int rfl rfl hw (fun _ => rfl) (by decide) (by decide) (by decide) (Nat.le_of_ble_eq_true rfl) (Nat.le_of_ble_eq_true rfl) dX8_init_15 (fun a15_1 H hw => ?_)
  have hw : Wd E A s.heap ([(t_o, .inr (7, [.int 0, .ref a7_0, .null, .null])), (a7_0, .inl (E.2.1 0, 40, (.inl ZI))), (a15_1, .inl (E.2.1 0, 40, (.inl ZI)))]) H locs := hw
  refine kn_putF (q0 := 0) (ci := 7) (T := TX8) (N := 4) (x := .ref a15_1) X hin inx_8 tyX8_ok nmX8 hw rfl rfl 2 (by decide) rfl rfl tw_469 rfl rfl (Nat.le_of_ble_eq_true rfl) dX8_init_17 (fun H locs hw => ?_)
  have hw : Wd E A s.heap ([(t_o, .inr (7, [.int 0, .ref a7_0, .ref a15_1, .null])), (a7_0, .inl (E.2.1 0, 40, (.inl ZI))), (a15_1, .inl (E.2.1 0, 40, (.inl ZI)))]) H locs := hw
  refine lv_aload_n hx hb dX8_init_20 rfl (lv_at hl 0 rfl) ?_
  refine lv_bipush (v := (40 : Int32)) hx hb dX8_init_21 (by decide) ?_
  refine kn_arr (t0 := 0) (N := 40) (a0 := (40, (.inl ZI))) (ty := .int) X aw_int rfl rfl hw (fun _ => rfl) (by decide) (by decide) (by decide) (Nat.le_of_ble_eq_true rfl) (Nat.le_of_ble_eq_true rfl) dX8_init_23 (fun a23_2 H hw => ?_)
  have hw : Wd E A s.heap ([(t_o, .inr (7, [.int 0, .ref a7_0, .ref a15_1, .null])), (a7_0, .inl (E.2.1 0, 40, (.inl ZI))), (a15_1, .inl (E.2.1 0, 40, (.inl ZI))), (a23_2, .inl (E.2.1 0, 40, (.inl ZI)))]) H locs := hw
  refine kn_putF (q0 := 0) (ci := 7) (T := TX8) (N := 4) (x := .ref a23_2) X hin inx_8 tyX8_ok nmX8 hw rfl rfl 3 (by decide) rfl rfl tw_470 rfl rfl (Nat.le_of_ble_eq_true rfl) dX8_init_25 (fun H locs hw => ?_)
  have hw : Wd E A s.heap ([(t_o, .inr (7, [.int 0, .ref a7_0, .ref a15_1, .ref a23_2])), (a7_0, .inl (E.2.1 0, 40, (.inl ZI))), (a15_1, .inl (E.2.1 0, 40, (.inl ZI))), (a23_2, .inl (E.2.1 0, 40, (.inl ZI)))]) H locs := hw
  have hw : Wd E A s.heap (wX8 E t_o (fun k => cond (Nat.beq k 1) a7_0 (cond (Nat.beq k 2) a15_1 (a23_2))) (0 : Int32) ZI ZI ZI) H locs := hw.re [0, 1, 2, 3] rfl rfl
  exact kn_ret X hw ⟨(fun k => cond (Nat.beq k 1) a7_0 (cond (Nat.beq k 2) a15_1 (a23_2))), rfl⟩ dX8_init_28
abbrev ri_X7_init : Room := { frames := 1, cells := 3, slots := 24, locals := 12 }
theorem hd_X7_init : yX7_init.cls ≠ "java/lang/invoke/MethodHandle" ∧ yX7_init.cls ≠ "java/lang/invoke/VarHandle" ∧ (parseMethodDescriptor yX7_init.desc).map (fun d => d.parameters.length) = some 0 := by decide +kernel
set_option maxRecDepth 100000 in
set_option maxHeartbeats 4000000 in
theorem ci_X7_init {E : En} {l : Launch} {t_o : Nat} : Ci E l yX7_init cX7_init 1 ri_X7_init 3 24 [.ref t_o] ([(t_o, .inr (6, [.int 0, .null, .null, .null]))]) (fun W' => ∃ (q : Nat → Nat), W' = wX7 E t_o q (0 : Int32) ZI ZI ZI) := by
  refine Ci.of (by decide) (Nat.le_of_ble_eq_true rfl) rfl ?_
  intro p e s m below meth c A ls args H locs X hAo hin hw hl
  have hx := X.1.1
  have hb := X.1.2.1
  have hl : lv_has ls 1 [(0, .ref t_o)] := hl
  have hw : Wd E A s.heap ([(t_o, .inr (6, [.int 0, .null, .null, .null]))]) H locs := hw
  refine lv_aload_n hx hb dX7_init_0 rfl (lv_at hl 0 rfl) ?_
  refine kn_obj X tw_320 tw_146 tw_147 hl.1 ⟨Nat.le_of_ble_eq_true rfl, Nat.le_of_ble_eq_true rfl⟩ dX7_init_1 ?_
  refine lv_aload_n hx hb dX7_init_4 rfl (lv_at hl 0 rfl) ?_
  refine lv_bipush (v := (8 : Int32)) hx hb dX7_init_5 (by decide) ?_
  refine kn_arr (t0 := 0) (N := 8) (a0 := (8, (.inl ZI))) (ty := .int) X aw_int rfl rfl hw (fun _ => rfl) (by decide) (by decide) (by decide) (Nat.le_of_ble_eq_true rfl) (Nat.le_of_ble_eq_true rfl) dX7_init_7 (fun a7_0 H hw => ?_)
  have hw : Wd E A s.heap ([(t_o, .inr (6, [.int 0, .null, .null, .null])), (a7_0, .inl (E.2.1 0, 8, (.inl ZI)))]) H locs := hw
  refine kn_putF (q0 := 0) (ci := 6) (T := TX7) (N := 4) (x := .ref a7_0) X hin inx_7 tyX7_ok nmX7 hw rfl rfl 1 (by decide) rfl rfl tw_323 rfl rfl (Nat.le_of_ble_eq_true rfl) dX7_init_9 (fun H locs hw => ?_)
  have hw : Wd E A s.heap ([(t_o, .inr (6, [.int 0, .ref a7_0, .null, .null])), (a7_0, .inl (E.2.1 0, 8, (.inl ZI)))]) H locs := hw
  refine lv_aload_n hx hb dX7_init_12 rfl (lv_at hl 0 rfl) ?_
  refine lv_bipush (v := (8 : Int32)) hx hb dX7_init_13 (by decide) ?_
  refine kn_arr (t0 := 0) (N := 8) (a0 := (8, (.inl ZI))) (ty := .int) X aw_int rfl rfl hw (fun _ => rfl) (by decide) (by decide) (by decide) (Nat.le_of_ble_eq_true rfl) (Nat.le_of_ble_eq_true rfl) dX7_init_15 (fun a15_1 H hw => ?_)
  have hw : Wd E A s.heap ([(t_o, .inr (6, [.int 0, .ref a7_0, .null, .null])), (a7_0, .inl (E.2.1 0, 8, (.inl ZI))), (a15_1, .inl (E.2.1 0, 8, (.inl ZI)))]) H locs := hw
  refine kn_putF (q0 := 0) (ci := 6) (T := TX7) (N := 4) (x := .ref a15_1) X hin inx_7 tyX7_ok nmX7 hw rfl rfl 2 (by decide) rfl rfl tw_324 rfl rfl (Nat.le_of_ble_eq_true rfl) dX7_init_17 (fun H locs hw => ?_)
  have hw : Wd E A s.heap ([(t_o, .inr (6, [.int 0, .ref a7_0, .ref a15_1, .null])), (a7_0, .inl (E.2.1 0, 8, (.inl ZI))), (a15_1, .inl (E.2.1 0, 8, (.inl ZI)))]) H locs := hw
  refine lv_aload_n hx hb dX7_init_20 rfl (lv_at hl 0 rfl) ?_
  refine lv_bipush (v := (8 : Int32)) hx hb dX7_init_21 (by decide) ?_
  refine kn_arr (t0 := 0) (N := 8) (a0 := (8, (.inl ZI))) (ty := .int) X aw_int rfl rfl hw (fun _ => rfl) (by decide) (by decide) (by decide) (Nat.le_of_ble_eq_true rfl) (Nat.le_of_ble_eq_true rfl) dX7_init_23 (fun a23_2 H hw => ?_)
  have hw : Wd E A s.heap ([(t_o, .inr (6, [.int 0, .ref a7_0, .ref a15_1, .null])), (a7_0, .inl (E.2.1 0, 8, (.inl ZI))), (a15_1, .inl (E.2.1 0, 8, (.inl ZI))), (a23_2, .inl (E.2.1 0, 8, (.inl ZI)))]) H locs := hw
  refine kn_putF (q0 := 0) (ci := 6) (T := TX7) (N := 4) (x := .ref a23_2) X hin inx_7 tyX7_ok nmX7 hw rfl rfl 3 (by decide) rfl rfl tw_325 rfl rfl (Nat.le_of_ble_eq_true rfl) dX7_init_25 (fun H locs hw => ?_)
  have hw : Wd E A s.heap ([(t_o, .inr (6, [.int 0, .ref a7_0, .ref a15_1, .ref a23_2])), (a7_0, .inl (E.2.1 0, 8, (.inl ZI))), (a15_1, .inl (E.2.1 0, 8, (.inl ZI))), (a23_2, .inl (E.2.1 0, 8, (.inl ZI)))]) H locs := hw
  have hw : Wd E A s.heap (wX7 E t_o (fun k => cond (Nat.beq k 1) a7_0 (cond (Nat.beq k 2) a15_1 (a23_2))) (0 : Int32) ZI ZI ZI) H locs := hw.re [0, 1, 2, 3] rfl rfl
  exact kn_ret X hw ⟨(fun k => cond (Nat.beq k 1) a7_0 (cond (Nat.beq k 2) a15_1 (a23_2))), rfl⟩ dX7_init_28
abbrev ri_X10_init : Room := { frames := 1, cells := 1, slots := 1000, locals := 12 }
theorem hd_X10_init : yX10_init.cls ≠ "java/lang/invoke/MethodHandle" ∧ yX10_init.cls ≠ "java/lang/invoke/VarHandle" ∧ (parseMethodDescriptor yX10_init.desc).map (fun d => d.parameters.length) = some 0 := by decide +kernel
set_option maxRecDepth 100000 in
set_option maxHeartbeats 4000000 in
theorem ci_X10_init {E : En} {l : Launch} {t_o : Nat} : Ci E l yX10_init cX10_init 1 ri_X10_init 1 1000 [.ref t_o] ([(t_o, .inr (9, [.null, .int 0, .int 0, .int 0, .int 0, .int 0, .long 0, .null]))]) (fun W' => ∃ (q : Nat → Nat), W' = wX10 E t_o q ZI (0 : Int32) (0 : Int32) (0 : Int32) (0 : Int32) (0 : Int32) (0 : Int64) none) := by
  refine Ci.of (by decide) (Nat.le_of_ble_eq_true rfl) rfl ?_
  intro p e s m below meth c A ls args H locs X hAo hin hw hl
  have hx := X.1.1
  have hb := X.1.2.1
  have hl : lv_has ls 1 [(0, .ref t_o)] := hl
  have hw : Wd E A s.heap ([(t_o, .inr (9, [.null, .int 0, .int 0, .int 0, .int 0, .int 0, .long 0, .null]))]) H locs := hw
  refine lv_aload_n hx hb dX10_init_0 rfl (lv_at hl 0 rfl) ?_
  refine kn_obj X tw_153 tw_146 tw_147 hl.1 ⟨Nat.le_of_ble_eq_true rfl, Nat.le_of_ble_eq_true rfl⟩ dX10_init_1 ?_
  refine lv_aload_n hx hb dX10_init_4 rfl (lv_at hl 0 rfl) ?_
  refine lv_sipush (v := (1000 : Int32)) hx hb dX10_init_5 (by decide) ?_
  refine kn_arr (t0 := 0) (N := 1000) (a0 := (1000, (.inl ZI))) (ty := .int) X aw_int rfl rfl hw (fun _ => rfl) (by decide) (by decide) (by decide) (Nat.le_of_ble_eq_true rfl) (Nat.le_of_ble_eq_true rfl) dX10_init_8 (fun a8_0 H hw => ?_)
  have hw : Wd E A s.heap ([(t_o, .inr (9, [.null, .int 0, .int 0, .int 0, .int 0, .int 0, .long 0, .null])), (a8_0, .inl (E.2.1 0, 1000, (.inl ZI)))]) H locs := hw
  refine kn_putF (q0 := 0) (ci := 9) (T := TX10) (N := 8) (x := .ref a8_0) X hin inx_10 tyX10_ok nmX10 hw rfl rfl 0 (by decide) rfl rfl tw_154 rfl rfl (Nat.le_of_ble_eq_true rfl) dX10_init_10 (fun H locs hw => ?_)
  have hw : Wd E A s.heap ([(t_o, .inr (9, [.ref a8_0, .int 0, .int 0, .int 0, .int 0, .int 0, .long 0, .null])), (a8_0, .inl (E.2.1 0, 1000, (.inl ZI)))]) H locs := hw
  have hw : Wd E A s.heap (wX10 E t_o (fun k => a8_0) ZI (0 : Int32) (0 : Int32) (0 : Int32) (0 : Int32) (0 : Int32) (0 : Int64) none) H locs := hw.re [0, 1] rfl rfl
  exact kn_ret X hw ⟨(fun k => a8_0), rfl⟩ dX10_init_13
abbrev ri_X6_init : Room := { frames := 1, cells := 0, slots := 0, locals := 12 }
theorem hd_X6_init : yX6_init.cls ≠ "java/lang/invoke/MethodHandle" ∧ yX6_init.cls ≠ "java/lang/invoke/VarHandle" ∧ (parseMethodDescriptor yX6_init.desc).map (fun d => d.parameters.length) = some 1 := by decide +kernel
set_option maxRecDepth 100000 in
set_option maxHeartbeats 4000000 in
theorem ci_X6_init {E : En} {l : Launch} {t_o : Nat} {p1_o : Nat} : Ci E l yX6_init cX6_init 2 ri_X6_init 0 0 [.ref t_o, .ref p1_o] ([(t_o, .inr (5, [.null, .null, .null, .int 0]))]) (fun W' => W' = wX6 E t_o (.ref p1_o) .null .null (0 : Int32)) := by
  refine Ci.of (by decide) (Nat.le_of_ble_eq_true rfl) rfl ?_
  intro p e s m below meth c A ls args H locs X hAo hin hw hl
  have hx := X.1.1
  have hb := X.1.2.1
  have hl : lv_has ls 2 [(0, .ref t_o), (1, .ref p1_o)] := hl
  have hw : Wd E A s.heap ([(t_o, .inr (5, [.null, .null, .null, .int 0]))]) H locs := hw
  refine lv_aload_n hx hb dX6_init_0 rfl (lv_at hl 0 rfl) ?_
  refine kn_obj X tw_191 tw_146 tw_147 hl.1 ⟨Nat.le_of_ble_eq_true rfl, Nat.le_of_ble_eq_true rfl⟩ dX6_init_1 ?_
  refine lv_aload_n hx hb dX6_init_4 rfl (lv_at hl 0 rfl) ?_
  refine lv_aload_n hx hb dX6_init_5 rfl (lv_at hl 1 rfl) ?_
  refine kn_putF (q0 := 0) (ci := 5) (T := TX6) (N := 4) (x := .ref p1_o) X hin inx_6 tyX6_ok nmX6 hw rfl rfl 0 (by decide) rfl rfl tw_192 rfl rfl (Nat.le_of_ble_eq_true rfl) dX6_init_6 (fun H locs hw => ?_)
  have hw : Wd E A s.heap ([(t_o, .inr (5, [.ref p1_o, .null, .null, .int 0]))]) H locs := hw
  have hw : Wd E A s.heap (wX6 E t_o (.ref p1_o) .null .null (0 : Int32)) H locs := hw.re [0] rfl rfl
  exact kn_ret X hw rfl dX6_init_9
abbrev ri_X4_init : Room := { frames := 2, cells := 12, slots := 178, locals := 32 }
theorem hd_X4_init : yX4_init.cls ≠ "java/lang/invoke/MethodHandle" ∧ yX4_init.cls ≠ "java/lang/invoke/VarHandle" ∧ (parseMethodDescriptor yX4_init.desc).map (fun d => d.parameters.length) = some 0 := by decide +kernel
set_option maxRecDepth 100000 in
set_option maxHeartbeats 4000000 in
theorem ci_X4_init {E : En} {l : Launch} {t_o : Nat} : Ci E l yX4_init cX4_init 1 ri_X4_init 12 178 [.ref t_o] ([(t_o, .inr (3, [.int 0, .null, .null, .null]))]) (fun W' => ∃ (standing_o : Nat) (standing_q : Nat → Nat) (script_o : Nat) (script_q : Nat → Nat) (reports_o : Nat) (reports_q : Nat → Nat), W' = wX4 E t_o (0 : Int32) (.ref standing_o) (.ref script_o) (.ref reports_o) ++ ((wX9 E standing_o standing_q (0 : Int32) (-1 : Int32) (-1 : Int32) (0 : Int32) (0 : Int32) (0 : Int32) ZI ZI ZI) ++ ((wX8 E script_o script_q (0 : Int32) ZI ZI ZI) ++ ((wX7 E reports_o reports_q (0 : Int32) ZI ZI ZI))))) := by
  refine Ci.of (by decide) (Nat.le_of_ble_eq_true rfl) rfl ?_
  intro p e s m below meth c A ls args H locs X hAo hin hw hl
  have hx := X.1.1
  have hb := X.1.2.1
  have hl : lv_has ls 1 [(0, .ref t_o)] := hl
  have hw : Wd E A s.heap ([(t_o, .inr (3, [.int 0, .null, .null, .null]))]) H locs := hw
  refine lv_aload_n hx hb dX4_init_0 rfl (lv_at hl 0 rfl) ?_
  refine kn_obj X tw_484 tw_146 tw_147 hl.1 ⟨Nat.le_of_ble_eq_true rfl, Nat.le_of_ble_eq_true rfl⟩ dX4_init_1 ?_
  refine lv_aload_n hx hb dX4_init_4 rfl (lv_at hl 0 rfl) ?_
  refine kn_new (ci := 8) (C := RX9) (T := TX9) (N := 9) (fs := [.int 0, .int 0, .int 0, .int 0, .int 0, .int 0, .null, .null, .null]) X inx_9 tyX9_ok tw_485 tw_213 tw_123 hw rfl df_9 (Nat.le_of_ble_eq_true rfl) (Nat.le_of_ble_eq_true rfl) dX4_init_5 (fun o5_0 H hw => ?_)
  have hw : Wd E A s.heap ([(t_o, .inr (3, [.int 0, .null, .null, .null])), (o5_0, .inr (8, [.int 0, .int 0, .int 0, .int 0, .int 0, .int 0, .null, .null, .null]))]) H locs := hw
  refine lv_dup hx hb dX4_init_8 rfl ?_
  refine kn_IN (host := "PloughCall") (As := []) (rest := [.ref o5_0, .ref t_o]) (index := 9) (mc := 3) (ms := 17) (ws := [(t_o, .inr (3, [.int 0, .null, .null, .null]))]) X hAo (ci_X9_init (t_o := o5_0)) nw_68 tw_215 tw_123 tw_216 ⟨rfl, rfl⟩ rfl hd_X9_init ⟨Nat.le_of_ble_eq_true rfl, Nat.le_of_ble_eq_true rfl⟩ ⟨Nat.le_of_ble_eq_true rfl, Nat.le_of_ble_eq_true rfl⟩ hw rfl hl.1 rfl (Nat.le_of_ble_eq_true rfl) dX4_init_9 (fun W1 H locs hG hw => ?_)
  obtain ⟨q_1, rfl⟩ := hG
  have hw : Wd E A s.heap ([(t_o, .inr (3, [.int 0, .null, .null, .null]))] ++ ((wX9 E o5_0 q_1 (0 : Int32) (-1 : Int32) (-1 : Int32) (0 : Int32) (0 : Int32) (0 : Int32) ZI ZI ZI))) H locs := hw
  refine kn_putF (q0 := 0) (ci := 3) (T := TX4) (N := 4) (x := .ref o5_0) X hin inx_4 tyX4_ok nmX4 hw rfl rfl 1 (by decide) rfl rfl tw_493 rfl rfl (Nat.le_of_ble_eq_true rfl) dX4_init_12 (fun H locs hw => ?_)
  have hw : Wd E A s.heap ([(t_o, .inr (3, [.int 0, .ref o5_0, .null, .null]))] ++ ((wX9 E o5_0 q_1 (0 : Int32) (-1 : Int32) (-1 : Int32) (0 : Int32) (0 : Int32) (0 : Int32) ZI ZI ZI))) H locs := hw
  refine lv_aload_n hx hb dX4_init_15 rfl (lv_at hl 0 rfl) ?_
  refine kn_new (ci := 7) (C := RX8) (T := TX8) (N := 4) (fs := [.int 0, .null, .null, .null]) X inx_8 tyX8_ok tw_487 tw_460 tw_128 hw rfl df_8 (Nat.le_of_ble_eq_true rfl) (Nat.le_of_ble_eq_true rfl) dX4_init_16 (fun o16_2 H hw => ?_)
  have hw : Wd E A s.heap ([(t_o, .inr (3, [.int 0, .ref o5_0, .null, .null]))] ++ ((wX9 E o5_0 q_1 (0 : Int32) (-1 : Int32) (-1 : Int32) (0 : Int32) (0 : Int32) (0 : Int32) ZI ZI ZI) ++ ([(o16_2, .inr (7, [.int 0, .null, .null, .null]))]))) H locs := hw
  refine lv_dup hx hb dX4_init_19 rfl ?_
  refine kn_IN (host := "PloughCall") (As := []) (rest := [.ref o16_2, .ref t_o]) (index := 18) (mc := 3) (ms := 120) (ws := [(t_o, .inr (3, [.int 0, .ref o5_0, .null, .null]))] ++ ((wX9 E o5_0 q_1 (0 : Int32) (-1 : Int32) (-1 : Int32) (0 : Int32) (0 : Int32) (0 : Int32) ZI ZI ZI))) X hAo (ci_X8_init (t_o := o16_2)) nw_69 tw_462 tw_128 tw_463 ⟨rfl, rfl⟩ rfl hd_X8_init ⟨Nat.le_of_ble_eq_true rfl, Nat.le_of_ble_eq_true rfl⟩ ⟨Nat.le_of_ble_eq_true rfl, Nat.le_of_ble_eq_true rfl⟩ hw rfl hl.1 rfl (Nat.le_of_ble_eq_true rfl) dX4_init_20 (fun W1 H locs hG hw => ?_)
  obtain ⟨q_3, rfl⟩ := hG
  have hw : Wd E A s.heap ([(t_o, .inr (3, [.int 0, .ref o5_0, .null, .null]))] ++ ((wX9 E o5_0 q_1 (0 : Int32) (-1 : Int32) (-1 : Int32) (0 : Int32) (0 : Int32) (0 : Int32) ZI ZI ZI) ++ ((wX8 E o16_2 q_3 (0 : Int32) ZI ZI ZI)))) H locs := hw
  refine kn_putF (q0 := 0) (ci := 3) (T := TX4) (N := 4) (x := .ref o16_2) X hin inx_4 tyX4_ok nmX4 hw rfl rfl 2 (by decide) rfl rfl tw_495 rfl rfl (Nat.le_of_ble_eq_true rfl) dX4_init_23 (fun H locs hw => ?_)
  have hw : Wd E A s.heap ([(t_o, .inr (3, [.int 0, .ref o5_0, .ref o16_2, .null]))] ++ ((wX9 E o5_0 q_1 (0 : Int32) (-1 : Int32) (-1 : Int32) (0 : Int32) (0 : Int32) (0 : Int32) ZI ZI ZI) ++ ((wX8 E o16_2 q_3 (0 : Int32) ZI ZI ZI)))) H locs := hw
  refine lv_aload_n hx hb dX4_init_26 rfl (lv_at hl 0 rfl) ?_
  refine kn_new (ci := 6) (C := RX7) (T := TX7) (N := 4) (fs := [.int 0, .null, .null, .null]) X inx_7 tyX7_ok tw_489 tw_316 tw_125 hw rfl df_7 (Nat.le_of_ble_eq_true rfl) (Nat.le_of_ble_eq_true rfl) dX4_init_27 (fun o27_4 H hw => ?_)
  have hw : Wd E A s.heap ([(t_o, .inr (3, [.int 0, .ref o5_0, .ref o16_2, .null]))] ++ ((wX9 E o5_0 q_1 (0 : Int32) (-1 : Int32) (-1 : Int32) (0 : Int32) (0 : Int32) (0 : Int32) ZI ZI ZI) ++ ((wX8 E o16_2 q_3 (0 : Int32) ZI ZI ZI) ++ ([(o27_4, .inr (6, [.int 0, .null, .null, .null]))])))) H locs := hw
  refine lv_dup hx hb dX4_init_30 rfl ?_
  refine kn_IN (host := "PloughCall") (As := []) (rest := [.ref o27_4, .ref t_o]) (index := 25) (mc := 3) (ms := 24) (ws := [(t_o, .inr (3, [.int 0, .ref o5_0, .ref o16_2, .null]))] ++ ((wX9 E o5_0 q_1 (0 : Int32) (-1 : Int32) (-1 : Int32) (0 : Int32) (0 : Int32) (0 : Int32) ZI ZI ZI) ++ ((wX8 E o16_2 q_3 (0 : Int32) ZI ZI ZI)))) X hAo (ci_X7_init (t_o := o27_4)) nw_70 tw_318 tw_125 tw_319 ⟨rfl, rfl⟩ rfl hd_X7_init ⟨Nat.le_of_ble_eq_true rfl, Nat.le_of_ble_eq_true rfl⟩ ⟨Nat.le_of_ble_eq_true rfl, Nat.le_of_ble_eq_true rfl⟩ hw rfl hl.1 rfl (Nat.le_of_ble_eq_true rfl) dX4_init_31 (fun W1 H locs hG hw => ?_)
  obtain ⟨q_5, rfl⟩ := hG
  have hw : Wd E A s.heap ([(t_o, .inr (3, [.int 0, .ref o5_0, .ref o16_2, .null]))] ++ ((wX9 E o5_0 q_1 (0 : Int32) (-1 : Int32) (-1 : Int32) (0 : Int32) (0 : Int32) (0 : Int32) ZI ZI ZI) ++ ((wX8 E o16_2 q_3 (0 : Int32) ZI ZI ZI) ++ ((wX7 E o27_4 q_5 (0 : Int32) ZI ZI ZI))))) H locs := hw
  refine kn_putF (q0 := 0) (ci := 3) (T := TX4) (N := 4) (x := .ref o27_4) X hin inx_4 tyX4_ok nmX4 hw rfl rfl 3 (by decide) rfl rfl tw_497 rfl rfl (Nat.le_of_ble_eq_true rfl) dX4_init_34 (fun H locs hw => ?_)
  have hw : Wd E A s.heap ([(t_o, .inr (3, [.int 0, .ref o5_0, .ref o16_2, .ref o27_4]))] ++ ((wX9 E o5_0 q_1 (0 : Int32) (-1 : Int32) (-1 : Int32) (0 : Int32) (0 : Int32) (0 : Int32) ZI ZI ZI) ++ ((wX8 E o16_2 q_3 (0 : Int32) ZI ZI ZI) ++ ((wX7 E o27_4 q_5 (0 : Int32) ZI ZI ZI))))) H locs := hw
  have hw : Wd E A s.heap (wX4 E t_o (0 : Int32) (.ref o5_0) (.ref o16_2) (.ref o27_4) ++ ((wX9 E o5_0 q_1 (0 : Int32) (-1 : Int32) (-1 : Int32) (0 : Int32) (0 : Int32) (0 : Int32) ZI ZI ZI) ++ ((wX8 E o16_2 q_3 (0 : Int32) ZI ZI ZI) ++ ((wX7 E o27_4 q_5 (0 : Int32) ZI ZI ZI))))) H locs := hw.re [0, 1, 2, 3, 4, 5, 6, 7, 8, 9, 10, 11, 12] rfl rfl
  exact kn_ret X hw ⟨o5_0, q_1, o16_2, q_3, o27_4, q_5, rfl⟩ dX4_init_37
abbrev ri_X1_init : Room := { frames := 2, cells := 14, slots := 1102, locals := 32 }
theorem hd_X1_init : yX1_init.cls ≠ "java/lang/invoke/MethodHandle" ∧ yX1_init.cls ≠ "java/lang/invoke/VarHandle" ∧ (parseMethodDescriptor yX1_init.desc).map (fun d => d.parameters.length) = some 0 := by decide +kernel
set_option maxRecDepth 100000 in
set_option maxHeartbeats 4000000 in
theorem ci_X1_init {E : En} {l : Launch} {t_o : Nat} : Ci E l yX1_init cX1_init 1 ri_X1_init 14 1102 [.ref t_o] ([(t_o, .inr (0, [.int 0, .int 0, .int 0, .int 0, .int 0, .int 0, .null, .null, .null, .null, .null, .null, .null, .null, .null, .null, .null, .null]))]) (fun W' => ∃ (q : Nat → Nat) (laws_o : Nat) (laws_q : Nat → Nat), W' = wX1 E t_o q (0 : Int32) (0 : Int32) (0 : Int32) (0 : Int32) (6 : Int32) (0 : Int32) ZL ZI ZI ZI ZI ZI ZL ZI ZI ZL ZI (.ref laws_o) ++ ((wX3 E laws_o laws_q ZI ZI (0 : Int32) (0 : Int32) (0 : Int32) (0 : Int32) (0 : Int32)))) := by
  refine Ci.of (by decide) (Nat.le_of_ble_eq_true rfl) rfl ?_
  intro p e s m below meth c A ls args H locs X hAo hin hw hl
  have hx := X.1.1
  have hb := X.1.2.1
  have hl : lv_has ls 1 [(0, .ref t_o)] := hl
  have hw : Wd E A s.heap ([(t_o, .inr (0, [.int 0, .int 0, .int 0, .int 0, .int 0, .int 0, .null, .null, .null, .null, .null, .null, .null, .null, .null, .null, .null, .null]))]) H locs := hw
  refine lv_aload_n hx hb dX1_init_0 rfl (lv_at hl 0 rfl) ?_
  refine kn_obj X tw_342 tw_146 tw_147 hl.1 ⟨Nat.le_of_ble_eq_true rfl, Nat.le_of_ble_eq_true rfl⟩ dX1_init_1 ?_
  refine lv_aload_n hx hb dX1_init_4 rfl (lv_at hl 0 rfl) ?_
  refine lv_bipush (v := (6 : Int32)) hx hb dX1_init_5 (by decide) ?_
  refine k_put (q0 := 0) (ci := 0) (C := RX1) (T := TX1) (N := 18) (x := .int (6 : Int32)) X inx_1 tyX1_ok nmX1 hw rfl rfl 4 (by decide) rfl rfl tw_389 rfl rfl (Nat.le_of_ble_eq_true rfl) dX1_init_7 (fun H locs hw => ?_)
  have hw : Wd E A s.heap ([(t_o, .inr (0, [.int 0, .int 0, .int 0, .int 0, .int (6 : Int32), .int 0, .null, .null, .null, .null, .null, .null, .null, .null, .null, .null, .null, .null]))]) H locs := hw
  refine lv_aload_n hx hb dX1_init_10 rfl (lv_at hl 0 rfl) ?_
  refine lv_bipush (v := (6 : Int32)) hx hb dX1_init_11 (by decide) ?_
  refine kn_arr (t0 := 1) (N := 6) (a0 := (6, (.inr (.inl ZL)))) (ty := .long) X aw_long rfl rfl hw (fun _ => rfl) (by decide) (by decide) (by decide) (Nat.le_of_ble_eq_true rfl) (Nat.le_of_ble_eq_true rfl) dX1_init_13 (fun a13_0 H hw => ?_)
  have hw : Wd E A s.heap ([(t_o, .inr (0, [.int 0, .int 0, .int 0, .int 0, .int (6 : Int32), .int 0, .null, .null, .null, .null, .null, .null, .null, .null, .null, .null, .null, .null])), (a13_0, .inl (E.2.1 1, 6, (.inr (.inl ZL))))]) H locs := hw
  refine kn_putF (q0 := 0) (ci := 0) (T := TX1) (N := 18) (x := .ref a13_0) X hin inx_1 tyX1_ok nmX1 hw rfl rfl 6 (by decide) rfl rfl tw_395 rfl rfl (Nat.le_of_ble_eq_true rfl) dX1_init_15 (fun H locs hw => ?_)
  have hw : Wd E A s.heap ([(t_o, .inr (0, [.int 0, .int 0, .int 0, .int 0, .int (6 : Int32), .int 0, .ref a13_0, .null, .null, .null, .null, .null, .null, .null, .null, .null, .null, .null])), (a13_0, .inl (E.2.1 1, 6, (.inr (.inl ZL))))]) H locs := hw
  refine lv_aload_n hx hb dX1_init_18 rfl (lv_at hl 0 rfl) ?_
  refine lv_bipush (v := (6 : Int32)) hx hb dX1_init_19 (by decide) ?_
  refine kn_arr (t0 := 0) (N := 6) (a0 := (6, (.inl ZI))) (ty := .int) X aw_int rfl rfl hw (fun _ => rfl) (by decide) (by decide) (by decide) (Nat.le_of_ble_eq_true rfl) (Nat.le_of_ble_eq_true rfl) dX1_init_21 (fun a21_1 H hw => ?_)
  have hw : Wd E A s.heap ([(t_o, .inr (0, [.int 0, .int 0, .int 0, .int 0, .int (6 : Int32), .int 0, .ref a13_0, .null, .null, .null, .null, .null, .null, .null, .null, .null, .null, .null])), (a13_0, .inl (E.2.1 1, 6, (.inr (.inl ZL)))), (a21_1, .inl (E.2.1 0, 6, (.inl ZI)))]) H locs := hw
  refine kn_putF (q0 := 0) (ci := 0) (T := TX1) (N := 18) (x := .ref a21_1) X hin inx_1 tyX1_ok nmX1 hw rfl rfl 7 (by decide) rfl rfl tw_396 rfl rfl (Nat.le_of_ble_eq_true rfl) dX1_init_23 (fun H locs hw => ?_)
  have hw : Wd E A s.heap ([(t_o, .inr (0, [.int 0, .int 0, .int 0, .int 0, .int (6 : Int32), .int 0, .ref a13_0, .ref a21_1, .null, .null, .null, .null, .null, .null, .null, .null, .null, .null])), (a13_0, .inl (E.2.1 1, 6, (.inr (.inl ZL)))), (a21_1, .inl (E.2.1 0, 6, (.inl ZI)))]) H locs := hw
  refine lv_aload_n hx hb dX1_init_26 rfl (lv_at hl 0 rfl) ?_
  refine lv_bipush (v := (6 : Int32)) hx hb dX1_init_27 (by decide) ?_
  refine kn_arr (t0 := 0) (N := 6) (a0 := (6, (.inl ZI))) (ty := .int) X aw_int rfl rfl hw (fun _ => rfl) (by decide) (by decide) (by decide) (Nat.le_of_ble_eq_true rfl) (Nat.le_of_ble_eq_true rfl) dX1_init_29 (fun a29_2 H hw => ?_)
  have hw : Wd E A s.heap ([(t_o, .inr (0, [.int 0, .int 0, .int 0, .int 0, .int (6 : Int32), .int 0, .ref a13_0, .ref a21_1, .null, .null, .null, .null, .null, .null, .null, .null, .null, .null])), (a13_0, .inl (E.2.1 1, 6, (.inr (.inl ZL)))), (a21_1, .inl (E.2.1 0, 6, (.inl ZI))), (a29_2, .inl (E.2.1 0, 6, (.inl ZI)))]) H locs := hw
  refine kn_putF (q0 := 0) (ci := 0) (T := TX1) (N := 18) (x := .ref a29_2) X hin inx_1 tyX1_ok nmX1 hw rfl rfl 8 (by decide) rfl rfl tw_399 rfl rfl (Nat.le_of_ble_eq_true rfl) dX1_init_31 (fun H locs hw => ?_)
  have hw : Wd E A s.heap ([(t_o, .inr (0, [.int 0, .int 0, .int 0, .int 0, .int (6 : Int32), .int 0, .ref a13_0, .ref a21_1, .ref a29_2, .null, .null, .null, .null, .null, .null, .null, .null, .null])), (a13_0, .inl (E.2.1 1, 6, (.inr (.inl ZL)))), (a21_1, .inl (E.2.1 0, 6, (.inl ZI))), (a29_2, .inl (E.2.1 0, 6, (.inl ZI)))]) H locs := hw
  refine lv_aload_n hx hb dX1_init_34 rfl (lv_at hl 0 rfl) ?_
  refine lv_bipush (v := (6 : Int32)) hx hb dX1_init_35 (by decide) ?_
  refine kn_arr (t0 := 0) (N := 6) (a0 := (6, (.inl ZI))) (ty := .int) X aw_int rfl rfl hw (fun _ => rfl) (by decide) (by decide) (by decide) (Nat.le_of_ble_eq_true rfl) (Nat.le_of_ble_eq_true rfl) dX1_init_37 (fun a37_3 H hw => ?_)
  have hw : Wd E A s.heap ([(t_o, .inr (0, [.int 0, .int 0, .int 0, .int 0, .int (6 : Int32), .int 0, .ref a13_0, .ref a21_1, .ref a29_2, .null, .null, .null, .null, .null, .null, .null, .null, .null])), (a13_0, .inl (E.2.1 1, 6, (.inr (.inl ZL)))), (a21_1, .inl (E.2.1 0, 6, (.inl ZI))), (a29_2, .inl (E.2.1 0, 6, (.inl ZI))), (a37_3, .inl (E.2.1 0, 6, (.inl ZI)))]) H locs := hw
  refine kn_putF (q0 := 0) (ci := 0) (T := TX1) (N := 18) (x := .ref a37_3) X hin inx_1 tyX1_ok nmX1 hw rfl rfl 9 (by decide) rfl rfl tw_402 rfl rfl (Nat.le_of_ble_eq_true rfl) dX1_init_39 (fun H locs hw => ?_)
  have hw : Wd E A s.heap ([(t_o, .inr (0, [.int 0, .int 0, .int 0, .int 0, .int (6 : Int32), .int 0, .ref a13_0, .ref a21_1, .ref a29_2, .ref a37_3, .null, .null, .null, .null, .null, .null, .null, .null])), (a13_0, .inl (E.2.1 1, 6, (.inr (.inl ZL)))), (a21_1, .inl (E.2.1 0, 6, (.inl ZI))), (a29_2, .inl (E.2.1 0, 6, (.inl ZI))), (a37_3, .inl (E.2.1 0, 6, (.inl ZI)))]) H locs := hw
  refine lv_aload_n hx hb dX1_init_42 rfl (lv_at hl 0 rfl) ?_
  refine lv_bipush (v := (6 : Int32)) hx hb dX1_init_43 (by decide) ?_
  refine kn_arr (t0 := 0) (N := 6) (a0 := (6, (.inl ZI))) (ty := .int) X aw_int rfl rfl hw (fun _ => rfl) (by decide) (by decide) (by decide) (Nat.le_of_ble_eq_true rfl) (Nat.le_of_ble_eq_true rfl) dX1_init_45 (fun a45_4 H hw => ?_)
  have hw : Wd E A s.heap ([(t_o, .inr (0, [.int 0, .int 0, .int 0, .int 0, .int (6 : Int32), .int 0, .ref a13_0, .ref a21_1, .ref a29_2, .ref a37_3, .null, .null, .null, .null, .null, .null, .null, .null])), (a13_0, .inl (E.2.1 1, 6, (.inr (.inl ZL)))), (a21_1, .inl (E.2.1 0, 6, (.inl ZI))), (a29_2, .inl (E.2.1 0, 6, (.inl ZI))), (a37_3, .inl (E.2.1 0, 6, (.inl ZI))), (a45_4, .inl (E.2.1 0, 6, (.inl ZI)))]) H locs := hw
  refine kn_putF (q0 := 0) (ci := 0) (T := TX1) (N := 18) (x := .ref a45_4) X hin inx_1 tyX1_ok nmX1 hw rfl rfl 10 (by decide) rfl rfl tw_404 rfl rfl (Nat.le_of_ble_eq_true rfl) dX1_init_47 (fun H locs hw => ?_)
  have hw : Wd E A s.heap ([(t_o, .inr (0, [.int 0, .int 0, .int 0, .int 0, .int (6 : Int32), .int 0, .ref a13_0, .ref a21_1, .ref a29_2, .ref a37_3, .ref a45_4, .null, .null, .null, .null, .null, .null, .null])), (a13_0, .inl (E.2.1 1, 6, (.inr (.inl ZL)))), (a21_1, .inl (E.2.1 0, 6, (.inl ZI))), (a29_2, .inl (E.2.1 0, 6, (.inl ZI))), (a37_3, .inl (E.2.1 0, 6, (.inl ZI))), (a45_4, .inl (E.2.1 0, 6, (.inl ZI)))]) H locs := hw
  refine lv_aload_n hx hb dX1_init_50 rfl (lv_at hl 0 rfl) ?_
  refine lv_bipush (v := (6 : Int32)) hx hb dX1_init_51 (by decide) ?_
  refine kn_arr (t0 := 0) (N := 6) (a0 := (6, (.inl ZI))) (ty := .int) X aw_int rfl rfl hw (fun _ => rfl) (by decide) (by decide) (by decide) (Nat.le_of_ble_eq_true rfl) (Nat.le_of_ble_eq_true rfl) dX1_init_53 (fun a53_5 H hw => ?_)
  have hw : Wd E A s.heap ([(t_o, .inr (0, [.int 0, .int 0, .int 0, .int 0, .int (6 : Int32), .int 0, .ref a13_0, .ref a21_1, .ref a29_2, .ref a37_3, .ref a45_4, .null, .null, .null, .null, .null, .null, .null])), (a13_0, .inl (E.2.1 1, 6, (.inr (.inl ZL)))), (a21_1, .inl (E.2.1 0, 6, (.inl ZI))), (a29_2, .inl (E.2.1 0, 6, (.inl ZI))), (a37_3, .inl (E.2.1 0, 6, (.inl ZI))), (a45_4, .inl (E.2.1 0, 6, (.inl ZI))), (a53_5, .inl (E.2.1 0, 6, (.inl ZI)))]) H locs := hw
  refine kn_putF (q0 := 0) (ci := 0) (T := TX1) (N := 18) (x := .ref a53_5) X hin inx_1 tyX1_ok nmX1 hw rfl rfl 11 (by decide) rfl rfl tw_406 rfl rfl (Nat.le_of_ble_eq_true rfl) dX1_init_55 (fun H locs hw => ?_)
  have hw : Wd E A s.heap ([(t_o, .inr (0, [.int 0, .int 0, .int 0, .int 0, .int (6 : Int32), .int 0, .ref a13_0, .ref a21_1, .ref a29_2, .ref a37_3, .ref a45_4, .ref a53_5, .null, .null, .null, .null, .null, .null])), (a13_0, .inl (E.2.1 1, 6, (.inr (.inl ZL)))), (a21_1, .inl (E.2.1 0, 6, (.inl ZI))), (a29_2, .inl (E.2.1 0, 6, (.inl ZI))), (a37_3, .inl (E.2.1 0, 6, (.inl ZI))), (a45_4, .inl (E.2.1 0, 6, (.inl ZI))), (a53_5, .inl (E.2.1 0, 6, (.inl ZI)))]) H locs := hw
  refine lv_aload_n hx hb dX1_init_58 rfl (lv_at hl 0 rfl) ?_
  refine lv_iconst (v := (5 : Int32)) hx hb dX1_init_59 (by decide) ?_
  refine kn_arr (t0 := 1) (N := 5) (a0 := (5, (.inr (.inl ZL)))) (ty := .long) X aw_long rfl rfl hw (fun _ => rfl) (by decide) (by decide) (by decide) (Nat.le_of_ble_eq_true rfl) (Nat.le_of_ble_eq_true rfl) dX1_init_60 (fun a60_6 H hw => ?_)
  have hw : Wd E A s.heap ([(t_o, .inr (0, [.int 0, .int 0, .int 0, .int 0, .int (6 : Int32), .int 0, .ref a13_0, .ref a21_1, .ref a29_2, .ref a37_3, .ref a45_4, .ref a53_5, .null, .null, .null, .null, .null, .null])), (a13_0, .inl (E.2.1 1, 6, (.inr (.inl ZL)))), (a21_1, .inl (E.2.1 0, 6, (.inl ZI))), (a29_2, .inl (E.2.1 0, 6, (.inl ZI))), (a37_3, .inl (E.2.1 0, 6, (.inl ZI))), (a45_4, .inl (E.2.1 0, 6, (.inl ZI))), (a53_5, .inl (E.2.1 0, 6, (.inl ZI))), (a60_6, .inl (E.2.1 1, 5, (.inr (.inl ZL))))]) H locs := hw
  refine kn_putF (q0 := 0) (ci := 0) (T := TX1) (N := 18) (x := .ref a60_6) X hin inx_1 tyX1_ok nmX1 hw rfl rfl 12 (by decide) rfl rfl tw_408 rfl rfl (Nat.le_of_ble_eq_true rfl) dX1_init_62 (fun H locs hw => ?_)
  have hw : Wd E A s.heap ([(t_o, .inr (0, [.int 0, .int 0, .int 0, .int 0, .int (6 : Int32), .int 0, .ref a13_0, .ref a21_1, .ref a29_2, .ref a37_3, .ref a45_4, .ref a53_5, .ref a60_6, .null, .null, .null, .null, .null])), (a13_0, .inl (E.2.1 1, 6, (.inr (.inl ZL)))), (a21_1, .inl (E.2.1 0, 6, (.inl ZI))), (a29_2, .inl (E.2.1 0, 6, (.inl ZI))), (a37_3, .inl (E.2.1 0, 6, (.inl ZI))), (a45_4, .inl (E.2.1 0, 6, (.inl ZI))), (a53_5, .inl (E.2.1 0, 6, (.inl ZI))), (a60_6, .inl (E.2.1 1, 5, (.inr (.inl ZL))))]) H locs := hw
  refine lv_aload_n hx hb dX1_init_65 rfl (lv_at hl 0 rfl) ?_
  refine lv_iconst (v := (5 : Int32)) hx hb dX1_init_66 (by decide) ?_
  refine kn_arr (t0 := 0) (N := 5) (a0 := (5, (.inl ZI))) (ty := .int) X aw_int rfl rfl hw (fun _ => rfl) (by decide) (by decide) (by decide) (Nat.le_of_ble_eq_true rfl) (Nat.le_of_ble_eq_true rfl) dX1_init_67 (fun a67_7 H hw => ?_)
  have hw : Wd E A s.heap ([(t_o, .inr (0, [.int 0, .int 0, .int 0, .int 0, .int (6 : Int32), .int 0, .ref a13_0, .ref a21_1, .ref a29_2, .ref a37_3, .ref a45_4, .ref a53_5, .ref a60_6, .null, .null, .null, .null, .null])), (a13_0, .inl (E.2.1 1, 6, (.inr (.inl ZL)))), (a21_1, .inl (E.2.1 0, 6, (.inl ZI))), (a29_2, .inl (E.2.1 0, 6, (.inl ZI))), (a37_3, .inl (E.2.1 0, 6, (.inl ZI))), (a45_4, .inl (E.2.1 0, 6, (.inl ZI))), (a53_5, .inl (E.2.1 0, 6, (.inl ZI))), (a60_6, .inl (E.2.1 1, 5, (.inr (.inl ZL)))), (a67_7, .inl (E.2.1 0, 5, (.inl ZI)))]) H locs := hw
  refine kn_putF (q0 := 0) (ci := 0) (T := TX1) (N := 18) (x := .ref a67_7) X hin inx_1 tyX1_ok nmX1 hw rfl rfl 13 (by decide) rfl rfl tw_409 rfl rfl (Nat.le_of_ble_eq_true rfl) dX1_init_69 (fun H locs hw => ?_)
  have hw : Wd E A s.heap ([(t_o, .inr (0, [.int 0, .int 0, .int 0, .int 0, .int (6 : Int32), .int 0, .ref a13_0, .ref a21_1, .ref a29_2, .ref a37_3, .ref a45_4, .ref a53_5, .ref a60_6, .ref a67_7, .null, .null, .null, .null])), (a13_0, .inl (E.2.1 1, 6, (.inr (.inl ZL)))), (a21_1, .inl (E.2.1 0, 6, (.inl ZI))), (a29_2, .inl (E.2.1 0, 6, (.inl ZI))), (a37_3, .inl (E.2.1 0, 6, (.inl ZI))), (a45_4, .inl (E.2.1 0, 6, (.inl ZI))), (a53_5, .inl (E.2.1 0, 6, (.inl ZI))), (a60_6, .inl (E.2.1 1, 5, (.inr (.inl ZL)))), (a67_7, .inl (E.2.1 0, 5, (.inl ZI)))]) H locs := hw
  refine lv_aload_n hx hb dX1_init_72 rfl (lv_at hl 0 rfl) ?_
  refine lv_iconst (v := (5 : Int32)) hx hb dX1_init_73 (by decide) ?_
  refine kn_arr (t0 := 0) (N := 5) (a0 := (5, (.inl ZI))) (ty := .int) X aw_int rfl rfl hw (fun _ => rfl) (by decide) (by decide) (by decide) (Nat.le_of_ble_eq_true rfl) (Nat.le_of_ble_eq_true rfl) dX1_init_74 (fun a74_8 H hw => ?_)
  have hw : Wd E A s.heap ([(t_o, .inr (0, [.int 0, .int 0, .int 0, .int 0, .int (6 : Int32), .int 0, .ref a13_0, .ref a21_1, .ref a29_2, .ref a37_3, .ref a45_4, .ref a53_5, .ref a60_6, .ref a67_7, .null, .null, .null, .null])), (a13_0, .inl (E.2.1 1, 6, (.inr (.inl ZL)))), (a21_1, .inl (E.2.1 0, 6, (.inl ZI))), (a29_2, .inl (E.2.1 0, 6, (.inl ZI))), (a37_3, .inl (E.2.1 0, 6, (.inl ZI))), (a45_4, .inl (E.2.1 0, 6, (.inl ZI))), (a53_5, .inl (E.2.1 0, 6, (.inl ZI))), (a60_6, .inl (E.2.1 1, 5, (.inr (.inl ZL)))), (a67_7, .inl (E.2.1 0, 5, (.inl ZI))), (a74_8, .inl (E.2.1 0, 5, (.inl ZI)))]) H locs := hw
  refine kn_putF (q0 := 0) (ci := 0) (T := TX1) (N := 18) (x := .ref a74_8) X hin inx_1 tyX1_ok nmX1 hw rfl rfl 14 (by decide) rfl rfl tw_414 rfl rfl (Nat.le_of_ble_eq_true rfl) dX1_init_76 (fun H locs hw => ?_)
  have hw : Wd E A s.heap ([(t_o, .inr (0, [.int 0, .int 0, .int 0, .int 0, .int (6 : Int32), .int 0, .ref a13_0, .ref a21_1, .ref a29_2, .ref a37_3, .ref a45_4, .ref a53_5, .ref a60_6, .ref a67_7, .ref a74_8, .null, .null, .null])), (a13_0, .inl (E.2.1 1, 6, (.inr (.inl ZL)))), (a21_1, .inl (E.2.1 0, 6, (.inl ZI))), (a29_2, .inl (E.2.1 0, 6, (.inl ZI))), (a37_3, .inl (E.2.1 0, 6, (.inl ZI))), (a45_4, .inl (E.2.1 0, 6, (.inl ZI))), (a53_5, .inl (E.2.1 0, 6, (.inl ZI))), (a60_6, .inl (E.2.1 1, 5, (.inr (.inl ZL)))), (a67_7, .inl (E.2.1 0, 5, (.inl ZI))), (a74_8, .inl (E.2.1 0, 5, (.inl ZI)))]) H locs := hw
  refine lv_aload_n hx hb dX1_init_79 rfl (lv_at hl 0 rfl) ?_
  refine lv_bipush (v := (6 : Int32)) hx hb dX1_init_80 (by decide) ?_
  refine kn_arr (t0 := 1) (N := 6) (a0 := (6, (.inr (.inl ZL)))) (ty := .long) X aw_long rfl rfl hw (fun _ => rfl) (by decide) (by decide) (by decide) (Nat.le_of_ble_eq_true rfl) (Nat.le_of_ble_eq_true rfl) dX1_init_82 (fun a82_9 H hw => ?_)
  have hw : Wd E A s.heap ([(t_o, .inr (0, [.int 0, .int 0, .int 0, .int 0, .int (6 : Int32), .int 0, .ref a13_0, .ref a21_1, .ref a29_2, .ref a37_3, .ref a45_4, .ref a53_5, .ref a60_6, .ref a67_7, .ref a74_8, .null, .null, .null])), (a13_0, .inl (E.2.1 1, 6, (.inr (.inl ZL)))), (a21_1, .inl (E.2.1 0, 6, (.inl ZI))), (a29_2, .inl (E.2.1 0, 6, (.inl ZI))), (a37_3, .inl (E.2.1 0, 6, (.inl ZI))), (a45_4, .inl (E.2.1 0, 6, (.inl ZI))), (a53_5, .inl (E.2.1 0, 6, (.inl ZI))), (a60_6, .inl (E.2.1 1, 5, (.inr (.inl ZL)))), (a67_7, .inl (E.2.1 0, 5, (.inl ZI))), (a74_8, .inl (E.2.1 0, 5, (.inl ZI))), (a82_9, .inl (E.2.1 1, 6, (.inr (.inl ZL))))]) H locs := hw
  refine kn_putF (q0 := 0) (ci := 0) (T := TX1) (N := 18) (x := .ref a82_9) X hin inx_1 tyX1_ok nmX1 hw rfl rfl 15 (by decide) rfl rfl tw_418 rfl rfl (Nat.le_of_ble_eq_true rfl) dX1_init_84 (fun H locs hw => ?_)
  have hw : Wd E A s.heap ([(t_o, .inr (0, [.int 0, .int 0, .int 0, .int 0, .int (6 : Int32), .int 0, .ref a13_0, .ref a21_1, .ref a29_2, .ref a37_3, .ref a45_4, .ref a53_5, .ref a60_6, .ref a67_7, .ref a74_8, .ref a82_9, .null, .null])), (a13_0, .inl (E.2.1 1, 6, (.inr (.inl ZL)))), (a21_1, .inl (E.2.1 0, 6, (.inl ZI))), (a29_2, .inl (E.2.1 0, 6, (.inl ZI))), (a37_3, .inl (E.2.1 0, 6, (.inl ZI))), (a45_4, .inl (E.2.1 0, 6, (.inl ZI))), (a53_5, .inl (E.2.1 0, 6, (.inl ZI))), (a60_6, .inl (E.2.1 1, 5, (.inr (.inl ZL)))), (a67_7, .inl (E.2.1 0, 5, (.inl ZI))), (a74_8, .inl (E.2.1 0, 5, (.inl ZI))), (a82_9, .inl (E.2.1 1, 6, (.inr (.inl ZL))))]) H locs := hw
  refine lv_aload_n hx hb dX1_init_87 rfl (lv_at hl 0 rfl) ?_
  refine lv_bipush (v := (6 : Int32)) hx hb dX1_init_88 (by decide) ?_
  refine kn_arr (t0 := 0) (N := 6) (a0 := (6, (.inl ZI))) (ty := .int) X aw_int rfl rfl hw (fun _ => rfl) (by decide) (by decide) (by decide) (Nat.le_of_ble_eq_true rfl) (Nat.le_of_ble_eq_true rfl) dX1_init_90 (fun a90_10 H hw => ?_)
  have hw : Wd E A s.heap ([(t_o, .inr (0, [.int 0, .int 0, .int 0, .int 0, .int (6 : Int32), .int 0, .ref a13_0, .ref a21_1, .ref a29_2, .ref a37_3, .ref a45_4, .ref a53_5, .ref a60_6, .ref a67_7, .ref a74_8, .ref a82_9, .null, .null])), (a13_0, .inl (E.2.1 1, 6, (.inr (.inl ZL)))), (a21_1, .inl (E.2.1 0, 6, (.inl ZI))), (a29_2, .inl (E.2.1 0, 6, (.inl ZI))), (a37_3, .inl (E.2.1 0, 6, (.inl ZI))), (a45_4, .inl (E.2.1 0, 6, (.inl ZI))), (a53_5, .inl (E.2.1 0, 6, (.inl ZI))), (a60_6, .inl (E.2.1 1, 5, (.inr (.inl ZL)))), (a67_7, .inl (E.2.1 0, 5, (.inl ZI))), (a74_8, .inl (E.2.1 0, 5, (.inl ZI))), (a82_9, .inl (E.2.1 1, 6, (.inr (.inl ZL)))), (a90_10, .inl (E.2.1 0, 6, (.inl ZI)))]) H locs := hw
  refine kn_putF (q0 := 0) (ci := 0) (T := TX1) (N := 18) (x := .ref a90_10) X hin inx_1 tyX1_ok nmX1 hw rfl rfl 16 (by decide) rfl rfl tw_419 rfl rfl (Nat.le_of_ble_eq_true rfl) dX1_init_92 (fun H locs hw => ?_)
  have hw : Wd E A s.heap ([(t_o, .inr (0, [.int 0, .int 0, .int 0, .int 0, .int (6 : Int32), .int 0, .ref a13_0, .ref a21_1, .ref a29_2, .ref a37_3, .ref a45_4, .ref a53_5, .ref a60_6, .ref a67_7, .ref a74_8, .ref a82_9, .ref a90_10, .null])), (a13_0, .inl (E.2.1 1, 6, (.inr (.inl ZL)))), (a21_1, .inl (E.2.1 0, 6, (.inl ZI))), (a29_2, .inl (E.2.1 0, 6, (.inl ZI))), (a37_3, .inl (E.2.1 0, 6, (.inl ZI))), (a45_4, .inl (E.2.1 0, 6, (.inl ZI))), (a53_5, .inl (E.2.1 0, 6, (.inl ZI))), (a60_6, .inl (E.2.1 1, 5, (.inr (.inl ZL)))), (a67_7, .inl (E.2.1 0, 5, (.inl ZI))), (a74_8, .inl (E.2.1 0, 5, (.inl ZI))), (a82_9, .inl (E.2.1 1, 6, (.inr (.inl ZL)))), (a90_10, .inl (E.2.1 0, 6, (.inl ZI)))]) H locs := hw
  refine lv_aload_n hx hb dX1_init_95 rfl (lv_at hl 0 rfl) ?_
  refine kn_new (ci := 2) (C := RX3) (T := TX3) (N := 7) (fs := [.null, .null, .int 0, .int 0, .int 0, .int 0, .int 0]) X inx_3 tyX3_ok tw_343 tw_344 tw_127 hw rfl df_3 (Nat.le_of_ble_eq_true rfl) (Nat.le_of_ble_eq_true rfl) dX1_init_96 (fun o96_11 H hw => ?_)
  have hw : Wd E A s.heap ([(t_o, .inr (0, [.int 0, .int 0, .int 0, .int 0, .int (6 : Int32), .int 0, .ref a13_0, .ref a21_1, .ref a29_2, .ref a37_3, .ref a45_4, .ref a53_5, .ref a60_6, .ref a67_7, .ref a74_8, .ref a82_9, .ref a90_10, .null])), (a13_0, .inl (E.2.1 1, 6, (.inr (.inl ZL)))), (a21_1, .inl (E.2.1 0, 6, (.inl ZI))), (a29_2, .inl (E.2.1 0, 6, (.inl ZI))), (a37_3, .inl (E.2.1 0, 6, (.inl ZI))), (a45_4, .inl (E.2.1 0, 6, (.inl ZI))), (a53_5, .inl (E.2.1 0, 6, (.inl ZI))), (a60_6, .inl (E.2.1 1, 5, (.inr (.inl ZL)))), (a67_7, .inl (E.2.1 0, 5, (.inl ZI))), (a74_8, .inl (E.2.1 0, 5, (.inl ZI))), (a82_9, .inl (E.2.1 1, 6, (.inr (.inl ZL)))), (a90_10, .inl (E.2.1 0, 6, (.inl ZI))), (o96_11, .inr (2, [.null, .null, .int 0, .int 0, .int 0, .int 0, .int 0]))]) H locs := hw
  refine lv_dup hx hb dX1_init_99 rfl ?_
  refine kn_IN (host := "PloughCall") (As := []) (rest := [.ref o96_11, .ref t_o]) (index := 52) (mc := 2) (ms := 1032) (ws := [(t_o, .inr (0, [.int 0, .int 0, .int 0, .int 0, .int (6 : Int32), .int 0, .ref a13_0, .ref a21_1, .ref a29_2, .ref a37_3, .ref a45_4, .ref a53_5, .ref a60_6, .ref a67_7, .ref a74_8, .ref a82_9, .ref a90_10, .null])), (a13_0, .inl (E.2.1 1, 6, (.inr (.inl ZL)))), (a21_1, .inl (E.2.1 0, 6, (.inl ZI))), (a29_2, .inl (E.2.1 0, 6, (.inl ZI))), (a37_3, .inl (E.2.1 0, 6, (.inl ZI))), (a45_4, .inl (E.2.1 0, 6, (.inl ZI))), (a53_5, .inl (E.2.1 0, 6, (.inl ZI))), (a60_6, .inl (E.2.1 1, 5, (.inr (.inl ZL)))), (a67_7, .inl (E.2.1 0, 5, (.inl ZI))), (a74_8, .inl (E.2.1 0, 5, (.inl ZI))), (a82_9, .inl (E.2.1 1, 6, (.inr (.inl ZL)))), (a90_10, .inl (E.2.1 0, 6, (.inl ZI)))]) X hAo (ci_X3_init (t_o := o96_11)) nw_30 tw_346 tw_127 tw_347 ⟨rfl, rfl⟩ rfl hd_X3_init ⟨Nat.le_of_ble_eq_true rfl, Nat.le_of_ble_eq_true rfl⟩ ⟨Nat.le_of_ble_eq_true rfl, Nat.le_of_ble_eq_true rfl⟩ hw rfl hl.1 rfl (Nat.le_of_ble_eq_true rfl) dX1_init_100 (fun W1 H locs hG hw => ?_)
  obtain ⟨q_12, rfl⟩ := hG
  have hw : Wd E A s.heap ([(t_o, .inr (0, [.int 0, .int 0, .int 0, .int 0, .int (6 : Int32), .int 0, .ref a13_0, .ref a21_1, .ref a29_2, .ref a37_3, .ref a45_4, .ref a53_5, .ref a60_6, .ref a67_7, .ref a74_8, .ref a82_9, .ref a90_10, .null])), (a13_0, .inl (E.2.1 1, 6, (.inr (.inl ZL)))), (a21_1, .inl (E.2.1 0, 6, (.inl ZI))), (a29_2, .inl (E.2.1 0, 6, (.inl ZI))), (a37_3, .inl (E.2.1 0, 6, (.inl ZI))), (a45_4, .inl (E.2.1 0, 6, (.inl ZI))), (a53_5, .inl (E.2.1 0, 6, (.inl ZI))), (a60_6, .inl (E.2.1 1, 5, (.inr (.inl ZL)))), (a67_7, .inl (E.2.1 0, 5, (.inl ZI))), (a74_8, .inl (E.2.1 0, 5, (.inl ZI))), (a82_9, .inl (E.2.1 1, 6, (.inr (.inl ZL)))), (a90_10, .inl (E.2.1 0, 6, (.inl ZI)))] ++ ((wX3 E o96_11 q_12 ZI ZI (0 : Int32) (0 : Int32) (0 : Int32) (0 : Int32) (0 : Int32)))) H locs := hw
  refine kn_putF (q0 := 0) (ci := 0) (T := TX1) (N := 18) (x := .ref o96_11) X hin inx_1 tyX1_ok nmX1 hw rfl rfl 17 (by decide) rfl rfl tw_420 rfl rfl (Nat.le_of_ble_eq_true rfl) dX1_init_103 (fun H locs hw => ?_)
  have hw : Wd E A s.heap ([(t_o, .inr (0, [.int 0, .int 0, .int 0, .int 0, .int (6 : Int32), .int 0, .ref a13_0, .ref a21_1, .ref a29_2, .ref a37_3, .ref a45_4, .ref a53_5, .ref a60_6, .ref a67_7, .ref a74_8, .ref a82_9, .ref a90_10, .ref o96_11])), (a13_0, .inl (E.2.1 1, 6, (.inr (.inl ZL)))), (a21_1, .inl (E.2.1 0, 6, (.inl ZI))), (a29_2, .inl (E.2.1 0, 6, (.inl ZI))), (a37_3, .inl (E.2.1 0, 6, (.inl ZI))), (a45_4, .inl (E.2.1 0, 6, (.inl ZI))), (a53_5, .inl (E.2.1 0, 6, (.inl ZI))), (a60_6, .inl (E.2.1 1, 5, (.inr (.inl ZL)))), (a67_7, .inl (E.2.1 0, 5, (.inl ZI))), (a74_8, .inl (E.2.1 0, 5, (.inl ZI))), (a82_9, .inl (E.2.1 1, 6, (.inr (.inl ZL)))), (a90_10, .inl (E.2.1 0, 6, (.inl ZI)))] ++ ((wX3 E o96_11 q_12 ZI ZI (0 : Int32) (0 : Int32) (0 : Int32) (0 : Int32) (0 : Int32)))) H locs := hw
  have hw : Wd E A s.heap (wX1 E t_o (fun k => cond (Nat.beq k 6) a13_0 (cond (Nat.beq k 7) a21_1 (cond (Nat.beq k 8) a29_2 (cond (Nat.beq k 9) a37_3 (cond (Nat.beq k 10) a45_4 (cond (Nat.beq k 11) a53_5 (cond (Nat.beq k 12) a60_6 (cond (Nat.beq k 13) a67_7 (cond (Nat.beq k 14) a74_8 (cond (Nat.beq k 15) a82_9 (a90_10))))))))))) (0 : Int32) (0 : Int32) (0 : Int32) (0 : Int32) (6 : Int32) (0 : Int32) ZL ZI ZI ZI ZI ZI ZL ZI ZI ZL ZI (.ref o96_11) ++ ((wX3 E o96_11 q_12 ZI ZI (0 : Int32) (0 : Int32) (0 : Int32) (0 : Int32) (0 : Int32)))) H locs := hw.re [0, 1, 2, 3, 4, 5, 6, 7, 8, 9, 10, 11, 12, 13, 14] rfl rfl
  exact kn_ret X hw ⟨(fun k => cond (Nat.beq k 6) a13_0 (cond (Nat.beq k 7) a21_1 (cond (Nat.beq k 8) a29_2 (cond (Nat.beq k 9) a37_3 (cond (Nat.beq k 10) a45_4 (cond (Nat.beq k 11) a53_5 (cond (Nat.beq k 12) a60_6 (cond (Nat.beq k 13) a67_7 (cond (Nat.beq k 14) a74_8 (cond (Nat.beq k 15) a82_9 (a90_10))))))))))), o96_11, q_12, rfl⟩ dX1_init_106
