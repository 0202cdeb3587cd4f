/-! private int grown(PloughCall$City, int, int); -/
def f_X9_grown (t_sizes : (Nat → Int32)) (p1_grows : (Nat → Int32)) (x2 : Int32) (x3 : Int32) : Int32 := if (ga (5) t_sizes (x2)) = (0 : Int32) then ((0 : Int32))
  else ((imin (99 : Int32) ((ga (5) t_sizes (x2)) + (x3 * (ga (5) p1_grows (x2))))))
abbrev rm_X9_grown : Room := { frames := 1, cells := 0, slots := 0, locals := 21 }
theorem hd_X9_grown : yX9_grown.cls = RX9 ∧ yX9_grown.cls ≠ "java/lang/invoke/MethodHandle" ∧ yX9_grown.cls ≠ "java/lang/invoke/VarHandle" ∧ (parseMethodDescriptor yX9_grown.desc).map (fun d => d.parameters.length) = some 3 := by decide +kernel
set_option maxRecDepth 100000 in
set_option maxHeartbeats 4000000 in
theorem c_X9_grown {E : En} {l : Launch} {t_o : Nat} {t_q : Nat → Nat} {t_month : Int32} {t_power : Int32} {t_master : Int32} {t_left : Int32} {t_kept : Int32} {t_passed : Int32} {t_sizes : (Nat → Int32)} {t_fields : (Nat → Int32)} {t_liked : (Nat → Int32)} {p1_o : Nat} {p1_q : Nat → Nat} {p1_men : Int32} {p1_consuls : Int32} {p1_dangers : Int32} {p1_decrees : Int32} {p1_term : Int32} {p1_termTold : Int32} {p1_manNames : (Nat → Int64)} {p1_kinds : (Nat → Int32)} {p1_skills : (Nat → Int32)} {p1_fields : (Nat → Int32)} {p1_wants : (Nat → Int32)} {p1_hated : (Nat → Int32)} {p1_dangerNames : (Nat → Int64)} {p1_sizes : (Nat → Int32)} {p1_grows : (Nat → Int32)} {p1_decreeNames : (Nat → Int64)} {p1_grounds : (Nat → Int32)} {p1_laws : Value} {x2 : Int32} {x3 : Int32} {out : Int32} (hf : f_X9_grown t_sizes p1_grows x2 x3 = out) : Cn E l yX9_grown cX9_grown 5 (some .int) rm_X9_grown [.ref t_o, .ref p1_o, .int (x2), .int (x3)] (wX9 E t_o t_q t_month t_power t_master t_left t_kept t_passed t_sizes t_fields t_liked ++ (wX1 E p1_o p1_q p1_men p1_consuls p1_dangers p1_decrees p1_term p1_termTold p1_manNames p1_kinds p1_skills p1_fields p1_wants p1_hated p1_dangerNames p1_sizes p1_grows p1_decreeNames p1_grounds p1_laws)) (some (.int out)) (wX9 E t_o t_q t_month t_power t_master t_left t_kept t_passed t_sizes t_fields t_liked ++ (wX1 E p1_o p1_q p1_men p1_consuls p1_dangers p1_decrees p1_term p1_termTold p1_manNames p1_kinds p1_skills p1_fields p1_wants p1_hated p1_dangerNames p1_sizes p1_grows p1_decreeNames p1_grounds p1_laws)) := by
  refine Cn.of (by decide) (Nat.le_of_ble_eq_true rfl) rfl ?_
  intro p e s m below meth c A ls args H locs X hw hl
  have hx := X.1.1
  have hb := X.1.2.1
  have ho := X.1.2.2.2.1
  have hts := X.1.2.2.2.2
  have hl : lv_has ls 5 [(0, .ref t_o), (1, .ref p1_o), (2, .int (x2)), (3, .int (x3))] := hl
  unfold f_X9_grown at hf
  refine lv_aload_n hx hb dX9_grown_0 rfl (lv_at hl 0 rfl) ?_
  refine k_get (q0 := 0) (ci := 8) (C := RX9) (T := TX9) (N := 9) (x := .ref (t_q 6)) X inx_9 hw rfl rfl 6 (by decide) rfl tw_232 rfl dX9_grown_1 ?_
  refine lv_iload_n hx hb dX9_grown_4 rfl (lv_at hl 2 rfl) ?_
  refine k_SN (As := [.ref (t_q 6), .int (x2)]) (rest := []) (host := "PloughCall") (index := 40) X (ct_X12_at (out := (ga (5) t_sizes (x2))) rfl) nw_84 tw_119 tw_591 tw_592 ⟨rfl, rfl⟩ hd_X12_at.2 ⟨Nat.le_of_ble_eq_true rfl, Nat.le_of_ble_eq_true rfl⟩ ⟨Nat.zero_le _, Nat.zero_le _⟩ hw [1] rfl rfl rfl hl.1 rfl (Nat.le_of_ble_eq_true rfl) dX9_grown_5 (fun H locs hw => ?_)
  have hw : Wd E A s.heap (wX9 E t_o t_q t_month t_power t_master t_left t_kept t_passed t_sizes t_fields t_liked ++ (wX1 E p1_o p1_q p1_men p1_consuls p1_dangers p1_decrees p1_term p1_termTold p1_manNames p1_kinds p1_skills p1_fields p1_wants p1_hated p1_dangerNames p1_sizes p1_grows p1_decreeNames p1_grounds p1_laws)) H locs := hw
  refine lv_istore (lv' := [(4, .int ((ga (5) t_sizes (x2)))), (0, .ref t_o), (1, .ref p1_o), (2, .int (x2)), (3, .int (x3))]) hx hb dX9_grown_8 hl (by decide) rfl (fun ls hl => ?_)
  refine lv_iload hx hb dX9_grown_10 (lv_at hl 0 rfl) ?_
  refine lv_if_ne (tgt := 19) hx hb dX9_grown_12 (by decide) (fun c_12 => ?_) (fun c_12 => ?_)
  · have hf := (if_neg c_12).symm.trans hf
    refine lv_bipush (v := (99 : Int32)) hx hb dX9_grown_19 (by decide) ?_
    refine lv_iload hx hb dX9_grown_21 (lv_at hl 0 rfl) ?_
    refine lv_iload_n hx hb dX9_grown_23 rfl (lv_at hl 4 rfl) ?_
    refine lv_aload_n hx hb dX9_grown_24 rfl (lv_at hl 2 rfl) ?_
    refine k_getN (q0 := 4) (ci := 0) (C := RX1) (T := TX1) (N := 18) (host := "PloughCall") (x := .ref (p1_q 14)) X inx_1 hw rfl rfl 14 (by decide) rfl nw_62 rfl dX9_grown_25 ?_
    refine lv_iload_n hx hb dX9_grown_28 rfl (lv_at hl 3 rfl) ?_
    refine k_SN (As := [.ref (p1_q 14), .int (x2)]) (rest := [.int (x3), .int ((ga (5) t_sizes (x2))), .int ((99 : Int32))]) (host := "PloughCall") (index := 40) X (ct_X12_at (out := (ga (5) p1_grows (x2))) rfl) nw_84 tw_119 tw_591 tw_592 ⟨rfl, rfl⟩ hd_X12_at.2 ⟨Nat.le_of_ble_eq_true rfl, Nat.le_of_ble_eq_true rfl⟩ ⟨Nat.zero_le _, Nat.zero_le _⟩ hw [13] rfl rfl rfl hl.1 rfl (Nat.le_of_ble_eq_true rfl) dX9_grown_29 (fun H locs hw => ?_)
    have hw : Wd E A s.heap (wX9 E t_o t_q t_month t_power t_master t_left t_kept t_passed t_sizes t_fields t_liked ++ (wX1 E p1_o p1_q p1_men p1_consuls p1_dangers p1_decrees p1_term p1_termTold p1_manNames p1_kinds p1_skills p1_fields p1_wants p1_hated p1_dangerNames p1_sizes p1_grows p1_decreeNames p1_grounds p1_laws)) H locs := hw
    refine lv_imul hx hb dX9_grown_32 ?_
    refine lv_iadd hx hb dX9_grown_33 ?_
    refine k_min (index := 121) X tw_954 tw_922 tw_135 tw_923 (Nat.le_of_ble_eq_true rfl) (Nat.le_of_ble_eq_true rfl) ⟨Nat.zero_le _, Nat.zero_le _⟩ hl.1 dX9_grown_34 ?_
    subst hf
    exact k_iret X hw dX9_grown_37
  · have hf := (if_pos c_12).symm.trans hf
    refine lv_iconst (v := (0 : Int32)) hx hb dX9_grown_15 (by decide) ?_
    refine lv_goto (tgt := 37) hx hb dX9_grown_16 (by decide) ?_
    subst hf
    exact k_iret X hw dX9_grown_37
/-! int likedWith(int, int); -/
def f_X9_likedWith (t_liked : (Nat → Int32)) (x1 : Int32) (x2 : Int32) : Int32 := ((imin (99 : Int32) ((ga (6) t_liked (x1)) + x2)))
abbrev rm_X9_likedWith : Room := { frames := 1, cells := 0, slots := 0, locals := 21 }
theorem hd_X9_likedWith : yX9_likedWith.cls = RX9 ∧ yX9_likedWith.cls ≠ "java/lang/invoke/MethodHandle" ∧ yX9_likedWith.cls ≠ "java/lang/invoke/VarHandle" ∧ (parseMethodDescriptor yX9_likedWith.desc).map (fun d => d.parameters.length) = some 2 := by decide +kernel
set_option maxRecDepth 100000 in
set_option maxHeartbeats 4000000 in
theorem c_X9_likedWith {E : En} {l : Launch} {t_o : Nat} {t_q : Nat → Nat} {t_month : Int32} {t_power : Int32} {t_master : Int32} {t_left : Int32} {t_kept : Int32} {t_passed : Int32} {t_sizes : (Nat → Int32)} {t_fields : (Nat → Int32)} {t_liked : (Nat → Int32)} {x1 : Int32} {x2 : Int32} {out : Int32} (hf : f_X9_likedWith t_liked x1 x2 = out) : Cn E l yX9_likedWith cX9_likedWith 3 (some .int) rm_X9_likedWith [.ref t_o, .int (x1), .int (x2)] (wX9 E t_o t_q t_month t_power t_master t_left t_kept t_passed t_sizes t_fields t_liked) (some (.int out)) (wX9 E t_o t_q t_month t_power t_master t_left t_kept t_passed t_sizes t_fields t_liked) := by
  refine Cn.of (by decide) (Nat.le_of_ble_eq_true rfl) rfl ?_
  intro p e s m below meth c A ls args H locs X hw hl
  have hx := X.1.1
  have hb := X.1.2.1
  have ho := X.1.2.2.2.1
  have hts := X.1.2.2.2.2
  have hl : lv_has ls 3 [(0, .ref t_o), (1, .int (x1)), (2, .int (x2))] := hl
  unfold f_X9_likedWith at hf
  refine lv_bipush (v := (99 : Int32)) hx hb dX9_likedWith_0 (by decide) ?_
  refine lv_aload_n hx hb dX9_likedWith_2 rfl (lv_at hl 0 rfl) ?_
  refine k_get (q0 := 0) (ci := 8) (C := RX9) (T := TX9) (N := 9) (x := .ref (t_q 8)) X inx_9 hw rfl rfl 8 (by decide) rfl tw_237 rfl dX9_likedWith_3 ?_
  refine lv_iload_n hx hb dX9_likedWith_6 rfl (lv_at hl 1 rfl) ?_
  refine k_SN (As := [.ref (t_q 8), .int (x1)]) (rest := [.int ((99 : Int32))]) (host := "PloughCall") (index := 40) X (ct_X12_at (out := (ga (6) t_liked (x1))) rfl) nw_84 tw_119 tw_591 tw_592 ⟨rfl, rfl⟩ hd_X12_at.2 ⟨Nat.le_of_ble_eq_true rfl, Nat.le_of_ble_eq_true rfl⟩ ⟨Nat.zero_le _, Nat.zero_le _⟩ hw [3] rfl rfl rfl hl.1 rfl (Nat.le_of_ble_eq_true rfl) dX9_likedWith_7 (fun H locs hw => ?_)
  have hw : Wd E A s.heap (wX9 E t_o t_q t_month t_power t_master t_left t_kept t_passed t_sizes t_fields t_liked) H locs := hw
  refine lv_iload_n hx hb dX9_likedWith_10 rfl (lv_at hl 2 rfl) ?_
  refine lv_iadd hx hb dX9_likedWith_11 ?_
  refine k_min (index := 121) X tw_954 tw_922 tw_135 tw_923 (Nat.le_of_ble_eq_true rfl) (Nat.le_of_ble_eq_true rfl) ⟨Nat.zero_le _, Nat.zero_le _⟩ hl.1 dX9_likedWith_12 ?_
  subst hf
  exact k_iret X hw dX9_likedWith_15
/-! int together(); -/
def f_X9_together (t_sizes : (Nat → Int32)) : Option (Int32) := (f_X12_sum (5) t_sizes ((5 : Int32))).bind fun r5 => some (r5)
abbrev rm_X9_together : Room := { frames := 1, cells := 0, slots := 0, locals := 23 }
theorem hd_X9_together : yX9_together.cls = RX9 ∧ yX9_together.cls ≠ "java/lang/invoke/MethodHandle" ∧ yX9_together.cls ≠ "java/lang/invoke/VarHandle" ∧ (parseMethodDescriptor yX9_together.desc).map (fun d => d.parameters.length) = some 0 := by decide +kernel
set_option maxRecDepth 100000 in
set_option maxHeartbeats 4000000 in
theorem c_X9_together {E : En} {l : Launch} {t_o : Nat} {t_q : Nat → Nat} {t_month : Int32} {t_power : Int32} {t_master : Int32} {t_left : Int32} {t_kept : Int32} {t_passed : Int32} {t_sizes : (Nat → Int32)} {t_fields : (Nat → Int32)} {t_liked : (Nat → Int32)}  {out : Int32} (hf : f_X9_together t_sizes = some out) : Cn E l yX9_together cX9_together 1 (some .int) rm_X9_together [.ref t_o] (wX9 E t_o t_q t_month t_power t_master t_left t_kept t_passed t_sizes t_fields t_liked) (some (.int out)) (wX9 E t_o t_q t_month t_power t_master t_left t_kept t_passed t_sizes t_fields t_liked) := by
  refine Cn.of (by decide) (Nat.le_of_ble_eq_true rfl) rfl ?_
  intro p e s m below meth c A ls args H locs X hw hl
  have hx := X.1.1
  have hb := X.1.2.1
  have ho := X.1.2.2.2.1
  have hts := X.1.2.2.2.2
  have hl : lv_has ls 1 [(0, .ref t_o)] := hl
  unfold f_X9_together at hf
  refine lv_aload_n hx hb dX9_together_0 rfl (lv_at hl 0 rfl) ?_
  refine k_get (q0 := 0) (ci := 8) (C := RX9) (T := TX9) (N := 9) (x := .ref (t_q 6)) X inx_9 hw rfl rfl 6 (by decide) rfl tw_232 rfl dX9_together_1 ?_
  refine lv_iconst (v := (5 : Int32)) hx hb dX9_together_4 (by decide) ?_
  obtain ⟨r5, hc_5, hf⟩ := bd_some hf
  refine k_SN (As := [.ref (t_q 6), .int ((5 : Int32))]) (rest := []) (host := "PloughCall") (index := 142) X (c_X12_sum hc_5) nw_89 tw_119 tw_1005 tw_1006 ⟨rfl, rfl⟩ hd_X12_sum.2 ⟨Nat.le_of_ble_eq_true rfl, Nat.le_of_ble_eq_true rfl⟩ ⟨Nat.zero_le _, Nat.zero_le _⟩ hw [1] rfl rfl rfl hl.1 rfl (Nat.le_of_ble_eq_true rfl) dX9_together_5 (fun H locs hw => ?_)
  have hw : Wd E A s.heap (wX9 E t_o t_q t_month t_power t_master t_left t_kept t_passed t_sizes t_fields t_liked) H locs := hw
  obtain rfl := Option.some.inj hf
  exact k_iret X hw dX9_together_8
/-! int togetherGrown(PloughCall$City, int, int); -/
def f_X9_togetherGrown_6 : Nat → (Nat → Int32) → Int32 → (Nat → Int32) → Int32 → Int32 → Int32 → Int32 → Option (Int32)
  | 0, _, _, _, _, _, _, _ => none
  | n + 1, t_sizes, p1_dangers, p1_grows, x2, x3, x4, x5 => if p1_dangers ≤ x5 then some (x4)
    else if x5 = x2 then f_X9_togetherGrown_6 n t_sizes p1_dangers p1_grows x2 x3 x4 ((x5 + (1 : Int32)))
    else f_X9_togetherGrown_6 n t_sizes p1_dangers p1_grows x2 x3 ((x4 + (f_X9_grown t_sizes p1_grows (x5) (x3)))) ((x5 + (1 : Int32)))
def f_X9_togetherGrown (t_sizes : (Nat → Int32)) (p1_dangers : Int32) (p1_grows : (Nat → Int32)) (x2 : Int32) (x3 : Int32) : Option (Int32) := f_X9_togetherGrown_6 1100 t_sizes p1_dangers p1_grows x2 x3 ((0 : Int32)) ((0 : Int32))
abbrev rm_X9_togetherGrown : Room := { frames := 2, cells := 0, slots := 0, locals := 45 }
theorem hd_X9_togetherGrown : yX9_togetherGrown.cls = RX9 ∧ yX9_togetherGrown.cls ≠ "java/lang/invoke/MethodHandle" ∧ yX9_togetherGrown.cls ≠ "java/lang/invoke/VarHandle" ∧ (parseMethodDescriptor yX9_togetherGrown.desc).map (fun d => d.parameters.length) = some 3 := by decide +kernel
set_option maxRecDepth 100000 in
set_option maxHeartbeats 4000000 in
theorem kb_X9_togetherGrown_6 {E : En} {p : Program} {l : Launch} {e : Env} {s : State} {m : MethodId} {args : Array Value} {below : List Frame} {meth : Method} {c : Code} {A : Nat → Prop} {t_o : Nat} {t_q : Nat → Nat} {t_month : Int32} {t_power : Int32} {t_master : Int32} {t_left : Int32} {t_kept : Int32} {t_passed : Int32} {t_sizes : (Nat → Int32)} {t_fields : (Nat → Int32)} {t_liked : (Nat → Int32)} {p1_o : Nat} {p1_q : Nat → Nat} {p1_men : Int32} {p1_consuls : Int32} {p1_dangers : Int32} {p1_decrees : Int32} {p1_term : Int32} {p1_termTold : Int32} {p1_manNames : (Nat → Int64)} {p1_kinds : (Nat → Int32)} {p1_skills : (Nat → Int32)} {p1_fields : (Nat → Int32)} {p1_wants : (Nat → Int32)} {p1_hated : (Nat → Int32)} {p1_dangerNames : (Nat → Int64)} {p1_sizes : (Nat → Int32)} {p1_grows : (Nat → Int32)} {p1_decreeNames : (Nat → Int64)} {p1_grounds : (Nat → Int32)} {p1_laws : Value} {out : Int32} (X : Bx E A p s m args meth c cX9_togetherGrown 6 RX9 (some .int)) : ∀ (n : Nat) {x2 : Int32} {x3 : Int32} {x4 : Int32} {x5 : Int32} {H : Heap} {locs : List Loc} {ls : Array Slot}, f_X9_togetherGrown_6 n t_sizes p1_dangers p1_grows x2 x3 x4 x5 = some out → Wd E A s.heap (wX9 E t_o t_q t_month t_power t_master t_left t_kept t_passed t_sizes t_fields t_liked ++ (wX1 E p1_o p1_q p1_men p1_consuls p1_dangers p1_decrees p1_term p1_termTold p1_manNames p1_kinds p1_skills p1_fields p1_wants p1_hated p1_dangerNames p1_sizes p1_grows p1_decreeNames p1_grounds p1_laws)) H locs → lv_has ls 6 [(0, .ref t_o), (1, .ref p1_o), (2, .int (x2)), (3, .int (x3)), (4, .int (x4)), (5, .int (x5))] → W p l e rm_X9_togetherGrown s m args below meth c H locs 0 0 (Zn E below args s A (some (.int out)) (wX9 E t_o t_q t_month t_power t_master t_left t_kept t_passed t_sizes t_fields t_liked ++ (wX1 E p1_o p1_q p1_men p1_consuls p1_dangers p1_decrees p1_term p1_termTold p1_manNames p1_kinds p1_skills p1_fields p1_wants p1_hated p1_dangerNames p1_sizes p1_grows p1_decreeNames p1_grounds p1_laws))) (F0 m 6 ls []) := by
  have hx := X.1.1
  have hb := X.1.2.1
  have ho := X.1.2.2.2.1
  have hts := X.1.2.2.2.2
  intro n
  induction n with
  | zero =>
    intro x2 x3 x4 x5 H locs ls hf
    have hf : (none : Option (Int32)) = some out := hf
    cases hf
  | succ n ih =>
    intro x2 x3 x4 x5 H locs ls hf hw hl
    rw [f_X9_togetherGrown_6.eq_2] at hf
    refine lv_iload hx hb dX9_togetherGrown_6 (lv_at hl 5 rfl) ?_
    refine lv_aload_n hx hb dX9_togetherGrown_8 rfl (lv_at hl 1 rfl) ?_
    refine k_getN (q0 := 4) (ci := 0) (C := RX1) (T := TX1) (N := 18) (host := "PloughCall") (x := .int (p1_dangers)) X inx_1 hw rfl rfl 2 (by decide) rfl nw_39 rfl dX9_togetherGrown_9 ?_
    refine lv_icmp_ge (tgt := 40) hx hb dX9_togetherGrown_12 (by decide) (fun c_12 => ?_) (fun c_12 => ?_)
    · have hf := (if_pos c_12).symm.trans hf
      refine lv_iload hx hb dX9_togetherGrown_40 (lv_at hl 4 rfl) ?_
      obtain rfl := Option.some.inj hf
      exact k_iret X hw dX9_togetherGrown_42
    · have hf := (if_neg c_12).symm.trans hf
      refine lv_iload hx hb dX9_togetherGrown_15 (lv_at hl 5 rfl) ?_
      refine lv_iload_n hx hb dX9_togetherGrown_17 rfl (lv_at hl 2 rfl) ?_
      refine lv_icmp_eq (tgt := 34) hx hb dX9_togetherGrown_18 (by decide) (fun c_18 => ?_) (fun c_18 => ?_)
      · have hf := (if_pos c_18).symm.trans hf
        refine lv_iinc (v := (x5 + (1 : Int32))) (lv' := [(5, .int ((x5 + (1 : Int32)))), (0, .ref t_o), (1, .ref p1_o), (2, .int (x2)), (3, .int (x3)), (4, .int (x4))]) hx hb dX9_togetherGrown_34 hl (k := 5) rfl rfl (by decide) rfl (fun ls hl => ?_)
        refine lv_goto (tgt := 6) hx hb dX9_togetherGrown_37 (by decide) ?_
        exact ih hf hw (lv_sub hl [1, 2, 3, 4, 5, 0] rfl)
      · have hf := (if_neg c_18).symm.trans hf
        refine lv_iload hx hb dX9_togetherGrown_21 (lv_at hl 4 rfl) ?_
        refine lv_aload_n hx hb dX9_togetherGrown_23 rfl (lv_at hl 0 rfl) ?_
        refine lv_aload_n hx hb dX9_togetherGrown_24 rfl (lv_at hl 1 rfl) ?_
        refine lv_iload hx hb dX9_togetherGrown_25 (lv_at hl 5 rfl) ?_
        refine lv_iload_n hx hb dX9_togetherGrown_27 rfl (lv_at hl 3 rfl) ?_
        refine k_V (As := [.ref p1_o, .int (x5), .int (x3)]) (rest := [.int (x4)]) (index := 115) (C := RX9) X (c_X9_grown (out := (f_X9_grown t_sizes p1_grows (x5) (x3))) rfl) tw_950 tw_952 tw_29 tw_123 tw_953 ⟨rfl, rfl⟩ hd_X9_grown ⟨Nat.le_of_ble_eq_true rfl, Nat.le_of_ble_eq_true rfl⟩ ⟨Nat.zero_le _, Nat.zero_le _⟩ hw [0, 1, 2, 3, 4, 5, 6, 7, 8, 9, 10, 11, 12, 13, 14, 15] rfl rfl 0 rfl rfl rfl rfl hl.1 rfl (Nat.le_of_ble_eq_true rfl) dX9_togetherGrown_28 (fun H locs hw => ?_)
        have hw : Wd E A s.heap (wX9 E t_o t_q t_month t_power t_master t_left t_kept t_passed t_sizes t_fields t_liked ++ (wX1 E p1_o p1_q p1_men p1_consuls p1_dangers p1_decrees p1_term p1_termTold p1_manNames p1_kinds p1_skills p1_fields p1_wants p1_hated p1_dangerNames p1_sizes p1_grows p1_decreeNames p1_grounds p1_laws)) H locs := hw
        refine lv_iadd hx hb dX9_togetherGrown_31 ?_
        refine lv_istore (lv' := [(4, .int ((x4 + (f_X9_grown t_sizes p1_grows (x5) (x3))))), (0, .ref t_o), (1, .ref p1_o), (2, .int (x2)), (3, .int (x3)), (5, .int (x5))]) hx hb dX9_togetherGrown_32 hl (by decide) rfl (fun ls hl => ?_)
        refine lv_iinc (v := (x5 + (1 : Int32))) (lv' := [(5, .int ((x5 + (1 : Int32)))), (4, .int ((x4 + (f_X9_grown t_sizes p1_grows (x5) (x3))))), (0, .ref t_o), (1, .ref p1_o), (2, .int (x2)), (3, .int (x3))]) hx hb dX9_togetherGrown_34 hl (k := 5) rfl rfl (by decide) rfl (fun ls hl => ?_)
        refine lv_goto (tgt := 6) hx hb dX9_togetherGrown_37 (by decide) ?_
        exact ih hf hw (lv_sub hl [2, 3, 4, 5, 1, 0] rfl)
set_option maxRecDepth 100000 in
set_option maxHeartbeats 4000000 in
theorem c_X9_togetherGrown {E : En} {l : Launch} {t_o : Nat} {t_q : Nat → Nat} {t_month : Int32} {t_power : Int32} {t_master : Int32} {t_left : Int32} {t_kept : Int32} {t_passed : Int32} {t_sizes : (Nat → Int32)} {t_fields : (Nat → Int32)} {t_liked : (Nat → Int32)} {p1_o : Nat} {p1_q : Nat → Nat} {p1_men : Int32} {p1_consuls : Int32} {p1_dangers : Int32} {p1_decrees : Int32} {p1_term : Int32} {p1_termTold : Int32} {p1_manNames : (Nat → Int64)} {p1_kinds : (Nat → Int32)} {p1_skills : (Nat → Int32)} {p1_fields : (Nat → Int32)} {p1_wants : (Nat → Int32)} {p1_hated : (Nat → Int32)} {p1_dangerNames : (Nat → Int64)} {p1_sizes : (Nat → Int32)} {p1_grows : (Nat → Int32)} {p1_decreeNames : (Nat → Int64)} {p1_grounds : (Nat → Int32)} {p1_laws : Value} {x2 : Int32} {x3 : Int32} {out : Int32} (hf : f_X9_togetherGrown t_sizes p1_dangers p1_grows x2 x3 = some out) : Cn E l yX9_togetherGrown cX9_togetherGrown 6 (some .int) rm_X9_togetherGrown [.ref t_o, .ref p1_o, .int (x2), .int (x3)] (wX9 E t_o t_q t_month t_power t_master t_left t_kept t_passed t_sizes t_fields t_liked ++ (wX1 E p1_o p1_q p1_men p1_consuls p1_dangers p1_decrees p1_term p1_termTold p1_manNames p1_kinds p1_skills p1_fields p1_wants p1_hated p1_dangerNames p1_sizes p1_grows p1_decreeNames p1_grounds p1_laws)) (some (.int out)) (wX9 E t_o t_q t_month t_power t_master t_left t_kept t_passed t_sizes t_fields t_liked ++ (wX1 E p1_o p1_q p1_men p1_consuls p1_dangers p1_decrees p1_term p1_termTold p1_manNames p1_kinds p1_skills p1_fields p1_wants p1_hated p1_dangerNames p1_sizes p1_grows p1_decreeNames p1_grounds p1_laws)) := by
  refine Cn.of (by decide) (Nat.le_of_ble_eq_true rfl) rfl ?_
  intro p e s m below meth c A ls args H locs X hw hl
  have hx := X.1.1
  have hb := X.1.2.1
  have ho := X.1.2.2.2.1
  have hts := X.1.2.2.2.2
  have hl : lv_has ls 6 [(0, .ref t_o), (1, .ref p1_o), (2, .int (x2)), (3, .int (x3))] := hl
  unfold f_X9_togetherGrown at hf
  refine lv_iconst (v := (0 : Int32)) hx hb dX9_togetherGrown_0 (by decide) ?_
  refine lv_istore (lv' := [(4, .int ((0 : Int32))), (0, .ref t_o), (1, .ref p1_o), (2, .int (x2)), (3, .int (x3))]) hx hb dX9_togetherGrown_1 hl (by decide) rfl (fun ls hl => ?_)
  refine lv_iconst (v := (0 : Int32)) hx hb dX9_togetherGrown_3 (by decide) ?_
  refine lv_istore (lv' := [(5, .int ((0 : Int32))), (4, .int ((0 : Int32))), (0, .ref t_o), (1, .ref p1_o), (2, .int (x2)), (3, .int (x3))]) hx hb dX9_togetherGrown_4 hl (by decide) rfl (fun ls hl => ?_)
  exact kb_X9_togetherGrown_6 X 1100 hf hw (lv_sub hl [2, 3, 4, 5, 1, 0] rfl)
/-! int dangersLeft(); -/
def f_X9_dangersLeft_4 : Nat → (Nat → Int32) → Int32 → Int32 → Option (Int32)
  | 0, _, _, _ => none
  | n + 1, t_sizes, x1, x2 => if (5 : Int32) ≤ x2 then some (x1)
    else if (ga (5) t_sizes (x2)) ≤ (0 : Int32) then f_X9_dangersLeft_4 n t_sizes x1 ((x2 + (1 : Int32)))
    else f_X9_dangersLeft_4 n t_sizes ((x1 + (1 : Int32))) ((x2 + (1 : Int32)))
def f_X9_dangersLeft (t_sizes : (Nat → Int32)) : Option (Int32) := f_X9_dangersLeft_4 1100 t_sizes ((0 : Int32)) ((0 : Int32))
abbrev rm_X9_dangersLeft : Room := { frames := 1, cells := 0, slots := 0, locals := 21 }
theorem hd_X9_dangersLeft : yX9_dangersLeft.cls = RX9 ∧ yX9_dangersLeft.cls ≠ "java/lang/invoke/MethodHandle" ∧ yX9_dangersLeft.cls ≠ "java/lang/invoke/VarHandle" ∧ (parseMethodDescriptor yX9_dangersLeft.desc).map (fun d => d.parameters.length) = some 0 := by decide +kernel
set_option maxRecDepth 100000 in
set_option maxHeartbeats 4000000 in
theorem kb_X9_dangersLeft_4 {E : En} {p : Program} {l : Launch} {e : Env} {s : State} {m : MethodId} {args : Array Value} {below : List Frame} {meth : Method} {c : Code} {A : Nat → Prop} {t_o : Nat} {t_q : Nat → Nat} {t_month : Int32} {t_power : Int32} {t_master : Int32} {t_left : Int32} {t_kept : Int32} {t_passed : Int32} {t_sizes : (Nat → Int32)} {t_fields : (Nat → Int32)} {t_liked : (Nat → Int32)} {out : Int32} (X : Bx E A p s m args meth c cX9_dangersLeft 3 RX9 (some .int)) : ∀ (n : Nat) {x1 : Int32} {x2 : Int32} {H : Heap} {locs : List Loc} {ls : Array Slot}, f_X9_dangersLeft_4 n t_sizes x1 x2 = some out → Wd E A s.heap (wX9 E t_o t_q t_month t_power t_master t_left t_kept t_passed t_sizes t_fields t_liked) H locs → lv_has ls 3 [(0, .ref t_o), (1, .int (x1)), (2, .int (x2))] → W p l e rm_X9_dangersLeft s m args below meth c H locs 0 0 (Zn E below args s A (some (.int out)) (wX9 E t_o t_q t_month t_power t_master t_left t_kept t_passed t_sizes t_fields t_liked)) (F0 m 4 ls []) := by
  have hx := X.1.1
  have hb := X.1.2.1
  have ho := X.1.2.2.2.1
  have hts := X.1.2.2.2.2
  intro n
  induction n with
  | zero =>
    intro x1 x2 H locs ls hf
    have hf : (none : Option (Int32)) = some out := hf
    cases hf
  | succ n ih =>
    intro x1 x2 H locs ls hf hw hl
    rw [f_X9_dangersLeft_4.eq_2] at hf
    refine lv_iload_n hx hb dX9_dangersLeft_4 rfl (lv_at hl 2 rfl) ?_
    refine lv_iconst (v := (5 : Int32)) hx hb dX9_dangersLeft_5 (by decide) ?_
    refine lv_icmp_ge (tgt := 29) hx hb dX9_dangersLeft_6 (by decide) (fun c_6 => ?_) (fun c_6 => ?_)
    · have hf := (if_pos c_6).symm.trans hf
      refine lv_iload_n hx hb dX9_dangersLeft_29 rfl (lv_at hl 1 rfl) ?_
      obtain rfl := Option.some.inj hf
      exact k_iret X hw dX9_dangersLeft_30
    · have hf := (if_neg c_6).symm.trans hf
      refine lv_aload_n hx hb dX9_dangersLeft_9 rfl (lv_at hl 0 rfl) ?_
      refine k_get (q0 := 0) (ci := 8) (C := RX9) (T := TX9) (N := 9) (x := .ref (t_q 6)) X inx_9 hw rfl rfl 6 (by decide) rfl tw_232 rfl dX9_dangersLeft_10 ?_
      refine lv_iload_n hx hb dX9_dangersLeft_13 rfl (lv_at hl 2 rfl) ?_
      refine k_SN (As := [.ref (t_q 6), .int (x2)]) (rest := []) (host := "PloughCall") (index := 40) X (ct_X12_at (out := (ga (5) t_sizes (x2))) rfl) nw_84 tw_119 tw_591 tw_592 ⟨rfl, rfl⟩ hd_X12_at.2 ⟨Nat.le_of_ble_eq_true rfl, Nat.le_of_ble_eq_true rfl⟩ ⟨Nat.zero_le _, Nat.zero_le _⟩ hw [1] rfl rfl rfl hl.1 rfl (Nat.le_of_ble_eq_true rfl) dX9_dangersLeft_14 (fun H locs hw => ?_)
      have hw : Wd E A s.heap (wX9 E t_o t_q t_month t_power t_master t_left t_kept t_passed t_sizes t_fields t_liked) H locs := hw
      refine lv_if_le (tgt := 23) hx hb dX9_dangersLeft_17 (by decide) (fun c_17 => ?_) (fun c_17 => ?_)
      · have hf := (if_pos c_17).symm.trans hf
        refine lv_iinc (v := (x2 + (1 : Int32))) (lv' := [(2, .int ((x2 + (1 : Int32)))), (0, .ref t_o), (1, .int (x1))]) hx hb dX9_dangersLeft_23 hl (k := 2) rfl rfl (by decide) rfl (fun ls hl => ?_)
        refine lv_goto (tgt := 4) hx hb dX9_dangersLeft_26 (by decide) ?_
        exact ih hf hw (lv_sub hl [1, 2, 0] rfl)
      · have hf := (if_neg c_17).symm.trans hf
        refine lv_iinc (v := (x1 + (1 : Int32))) (lv' := [(1, .int ((x1 + (1 : Int32)))), (0, .ref t_o), (2, .int (x2))]) hx hb dX9_dangersLeft_20 hl (k := 1) rfl rfl (by decide) rfl (fun ls hl => ?_)
        refine lv_iinc (v := (x2 + (1 : Int32))) (lv' := [(2, .int ((x2 + (1 : Int32)))), (1, .int ((x1 + (1 : Int32)))), (0, .ref t_o)]) hx hb dX9_dangersLeft_23 hl (k := 2) rfl rfl (by decide) rfl (fun ls hl => ?_)
        refine lv_goto (tgt := 4) hx hb dX9_dangersLeft_26 (by decide) ?_
        exact ih hf hw (lv_sub hl [2, 1, 0] rfl)
set_option maxRecDepth 100000 in
set_option maxHeartbeats 4000000 in
theorem c_X9_dangersLeft {E : En} {l : Launch} {t_o : Nat} {t_q : Nat → Nat} {t_month : Int32} {t_power : Int32} {t_master : Int32} {t_left : Int32} {t_kept : Int32} {t_passed : Int32} {t_sizes : (Nat → Int32)} {t_fields : (Nat → Int32)} {t_liked : (Nat → Int32)}  {out : Int32} (hf : f_X9_dangersLeft t_sizes = some out) : Cn E l yX9_dangersLeft cX9_dangersLeft 3 (some .int) rm_X9_dangersLeft [.ref t_o] (wX9 E t_o t_q t_month t_power t_master t_left t_kept t_passed t_sizes t_fields t_liked) (some (.int out)) (wX9 E t_o t_q t_month t_power t_master t_left t_kept t_passed t_sizes t_fields t_liked) := by
  refine Cn.of (by decide) (Nat.le_of_ble_eq_true rfl) rfl ?_
  intro p e s m below meth c A ls args H locs X hw hl
  have hx := X.1.1
  have hb := X.1.2.1
  have ho := X.1.2.2.2.1
  have hts := X.1.2.2.2.2
  have hl : lv_has ls 3 [(0, .ref t_o)] := hl
  unfold f_X9_dangersLeft at hf
  refine lv_iconst (v := (0 : Int32)) hx hb dX9_dangersLeft_0 (by decide) ?_
  refine lv_istore_n (lv' := [(1, .int ((0 : Int32))), (0, .ref t_o)]) hx hb dX9_dangersLeft_1 rfl hl (by decide) rfl (fun ls hl => ?_)
  refine lv_iconst (v := (0 : Int32)) hx hb dX9_dangersLeft_2 (by decide) ?_
  refine lv_istore_n (lv' := [(2, .int ((0 : Int32))), (1, .int ((0 : Int32))), (0, .ref t_o)]) hx hb dX9_dangersLeft_3 rfl hl (by decide) rfl (fun ls hl => ?_)
  exact kb_X9_dangersLeft_4 X 1100 hf hw (lv_sub hl [2, 1, 0] rfl)
/-! void addBytes(long); -/
def f_X10_addBytes_36 (K3 : (Nat → Int32) → Int32 → Int64 → Int32 → Option ((Nat → Int32) × Int32)) (t_signs : (Nat → Int32)) (t_length : Int32) (x1 : Int64) (x3 : Int32) (x4 : Int32) : Option ((Nat → Int32) × Int32) := if (1000 : Int32) ≤ t_length then K3 t_signs t_length x1 ((x3 + (-8 : Int32)))
  else K3 ((gp (1000) t_signs (t_length) (x4))) ((t_length + (1 : Int32))) x1 ((x3 + (-8 : Int32)))
def f_X10_addBytes_3 : Nat → (Nat → Int32) → Int32 → Int64 → Int32 → Option ((Nat → Int32) × Int32)
  | 0, _, _, _, _ => none
  | n + 1, t_signs, t_length, x1, x3 => if x3 < (0 : Int32) then some (t_signs, t_length)
    else if ((((x1 >>> ((x3).toInt64 &&& (63 : Int64)))).toInt32) &&& (255 : Int32)) = (10 : Int32) then f_X10_addBytes_36 (f_X10_addBytes_3 n) t_signs t_length x1 x3 (((((x1 >>> ((x3).toInt64 &&& (63 : Int64)))).toInt32) &&& (255 : Int32)))
    else if (f_X12_within (((((x1 >>> ((x3).toInt64 &&& (63 : Int64)))).toInt32) &&& (255 : Int32))) ((32 : Int32)) ((126 : Int32))) = (0 : Int32) then f_X10_addBytes_3 n t_signs t_length x1 ((x3 + (-8 : Int32)))
    else f_X10_addBytes_36 (f_X10_addBytes_3 n) t_signs t_length x1 x3 (((((x1 >>> ((x3).toInt64 &&& (63 : Int64)))).toInt32) &&& (255 : Int32)))
def f_X10_addBytes (t_signs : (Nat → Int32)) (t_length : Int32) (x1 : Int64) : Option ((Nat → Int32) × Int32) := f_X10_addBytes_3 1100 t_signs t_length x1 ((56 : Int32))
abbrev rm_X10_addBytes : Room := { frames := 1, cells := 0, slots := 0, locals := 22 }
theorem hd_X10_addBytes : yX10_addBytes.cls = RX10 ∧ yX10_addBytes.cls ≠ "java/lang/invoke/MethodHandle" ∧ yX10_addBytes.cls ≠ "java/lang/invoke/VarHandle" ∧ (parseMethodDescriptor yX10_addBytes.desc).map (fun d => d.parameters.length) = some 1 := by decide +kernel
set_option maxRecDepth 100000 in
set_option maxHeartbeats 4000000 in
theorem kb_X10_addBytes_36 {E : En} {p : Program} {l : Launch} {e : Env} {s : State} {m : MethodId} {args : Array Value} {below : List Frame} {meth : Method} {c : Code} {A : Nat → Prop} {t_o : Nat} {t_q : Nat → Nat} {t_place : Int32} {t_behind : Int32} {t_kind : Int32} {t_value : Int32} {t_letters : Int64} {t_word : (Option Nat)} {out : (Nat → Int32) × Int32} (X : Bx E A p s m args meth c cX10_addBytes 5 RX10 none) {K3 : (Nat → Int32) → Int32 → Int64 → Int32 → Option ((Nat → Int32) × Int32)} (hK3 : ∀ {t_signs : (Nat → Int32)} {t_length : Int32} {x1 : Int64} {x3 : Int32} {H : Heap} {locs : List Loc} {ls : Array Slot}, K3 t_signs t_length x1 x3 = some out → Wd E A s.heap (wX10 E t_o t_q t_signs t_length t_place t_behind t_kind t_value t_letters t_word) H locs → lv_has ls 5 [(0, .ref t_o), (1, .long (x1)), (3, .int (x3))] → W p l e rm_X10_addBytes s m args below meth c H locs 0 0 (Zn E below args s A none (wX10 E t_o t_q out.1 out.2 t_place t_behind t_kind t_value t_letters t_word)) (F0 m 3 ls [])) {t_signs : (Nat → Int32)} {t_length : Int32} {x1 : Int64} {x3 : Int32} {x4 : Int32} {H : Heap} {locs : List Loc} {ls : Array Slot} (hf : f_X10_addBytes_36 K3 t_signs t_length x1 x3 x4 = some out) : Wd E A s.heap (wX10 E t_o t_q t_signs t_length t_place t_behind t_kind t_value t_letters t_word) H locs → lv_has ls 5 [(0, .ref t_o), (1, .long (x1)), (3, .int (x3)), (4, .int (x4))] → W p l e rm_X10_addBytes s m args below meth c H locs 0 0 (Zn E below args s A none (wX10 E t_o t_q out.1 out.2 t_place t_behind t_kind t_value t_letters t_word)) (F0 m 36 ls []) := by
  have hx := X.1.1
  have hb := X.1.2.1
  have ho := X.1.2.2.2.1
  have hts := X.1.2.2.2.2
  intro hw hl
  unfold f_X10_addBytes_36 at hf
  refine lv_aload_n hx hb dX10_addBytes_36 rfl (lv_at hl 0 rfl) ?_
  refine k_get (q0 := 0) (ci := 9) (C := RX10) (T := TX10) (N := 8) (x := .int (t_length)) X inx_10 hw rfl rfl 1 (by decide) rfl tw_156 rfl dX10_addBytes_37 ?_
  refine lv_sipush (v := (1000 : Int32)) hx hb dX10_addBytes_40 (by decide) ?_
  refine lv_icmp_ge (tgt := 69) hx hb dX10_addBytes_43 (by decide) (fun c_43 => ?_) (fun c_43 => ?_)
  · have hf := (if_pos c_43).symm.trans hf
    refine lv_iinc (v := (x3 + (-8 : Int32))) (lv' := [(3, .int ((x3 + (-8 : Int32)))), (0, .ref t_o), (1, .long (x1)), (4, .int (x4))]) hx hb dX10_addBytes_69 hl (k := 2) rfl rfl (by decide) rfl (fun ls hl => ?_)
    refine lv_goto (tgt := 3) hx hb dX10_addBytes_72 (by decide) ?_
    exact hK3 hf hw (lv_sub hl [1, 2, 0] rfl)
  · have hf := (if_neg c_43).symm.trans hf
    refine lv_aload_n hx hb dX10_addBytes_46 rfl (lv_at hl 0 rfl) ?_
    refine k_get (q0 := 0) (ci := 9) (C := RX10) (T := TX10) (N := 8) (x := .ref (t_q 0)) X inx_10 hw rfl rfl 0 (by decide) rfl tw_154 rfl dX10_addBytes_47 ?_
    refine lv_aload_n hx hb dX10_addBytes_50 rfl (lv_at hl 0 rfl) ?_
    refine k_get (q0 := 0) (ci := 9) (C := RX10) (T := TX10) (N := 8) (x := .int (t_length)) X inx_10 hw rfl rfl 1 (by decide) rfl tw_156 rfl dX10_addBytes_51 ?_
    refine lv_iload hx hb dX10_addBytes_54 (lv_at hl 3 rfl) ?_
    refine k_SN (As := [.ref (t_q 0), .int (t_length), .int (x4)]) (rest := []) (host := "PloughCall") (index := 23) X (ct_X12_put (out := (gp (1000) t_signs (t_length) (x4))) rfl) nw_76 tw_119 tw_563 tw_564 ⟨rfl, rfl⟩ hd_X12_put.2 ⟨Nat.le_of_ble_eq_true rfl, Nat.le_of_ble_eq_true rfl⟩ ⟨Nat.zero_le _, Nat.zero_le _⟩ hw [1] rfl rfl rfl hl.1 rfl (Nat.le_of_ble_eq_true rfl) dX10_addBytes_56 (fun H locs hw => ?_)
    have hw : Wd E A s.heap (wX10 E t_o t_q ((gp (1000) t_signs (t_length) (x4))) t_length t_place t_behind t_kind t_value t_letters t_word) H locs := hw
    refine lv_aload_n hx hb dX10_addBytes_59 rfl (lv_at hl 0 rfl) ?_
    refine lv_dup hx hb dX10_addBytes_60 rfl ?_
    refine k_get (q0 := 0) (ci := 9) (C := RX10) (T := TX10) (N := 8) (x := .int (t_length)) X inx_10 hw rfl rfl 1 (by decide) rfl tw_156 rfl dX10_addBytes_61 ?_
    refine lv_iconst (v := (1 : Int32)) hx hb dX10_addBytes_64 (by decide) ?_
    refine lv_iadd hx hb dX10_addBytes_65 ?_
    refine k_put (q0 := 0) (ci := 9) (C := RX10) (T := TX10) (N := 8) (ty0 := tyX10) (x := .int ((t_length + (1 : Int32)))) X inx_10 tyX10_ok nmX10 hw rfl rfl 1 (by decide) rfl rfl tw_156 rfl rfl (Nat.le_of_ble_eq_true rfl) dX10_addBytes_66 (fun H locs hw => ?_)
    have hw : Wd E A s.heap (wX10 E t_o t_q ((gp (1000) t_signs (t_length) (x4))) ((t_length + (1 : Int32))) t_place t_behind t_kind t_value t_letters t_word) H locs := hw
    refine lv_iinc (v := (x3 + (-8 : Int32))) (lv' := [(3, .int ((x3 + (-8 : Int32)))), (0, .ref t_o), (1, .long (x1)), (4, .int (x4))]) hx hb dX10_addBytes_69 hl (k := 2) rfl rfl (by decide) rfl (fun ls hl => ?_)
    refine lv_goto (tgt := 3) hx hb dX10_addBytes_72 (by decide) ?_
    exact hK3 hf hw (lv_sub hl [1, 2, 0] rfl)
set_option maxRecDepth 100000 in
set_option maxHeartbeats 4000000 in
theorem kb_X10_addBytes_3 {E : En} {p : Program} {l : Launch} {e : Env} {s : State} {m : MethodId} {args : Array Value} {below : List Frame} {meth : Method} {c : Code} {A : Nat → Prop} {t_o : Nat} {t_q : Nat → Nat} {t_place : Int32} {t_behind : Int32} {t_kind : Int32} {t_value : Int32} {t_letters : Int64} {t_word : (Option Nat)} {out : (Nat → Int32) × Int32} (X : Bx E A p s m args meth c cX10_addBytes 5 RX10 none) : ∀ (n : Nat) {t_signs : (Nat → Int32)} {t_length : Int32} {x1 : Int64} {x3 : Int32} {H : Heap} {locs : List Loc} {ls : Array Slot}, f_X10_addBytes_3 n t_signs t_length x1 x3 = some out → Wd E A s.heap (wX10 E t_o t_q t_signs t_length t_place t_behind t_kind t_value t_letters t_word) H locs → lv_has ls 5 [(0, .ref t_o), (1, .long (x1)), (3, .int (x3))] → W p l e rm_X10_addBytes s m args below meth c H locs 0 0 (Zn E below args s A none (wX10 E t_o t_q out.1 out.2 t_place t_behind t_kind t_value t_letters t_word)) (F0 m 3 ls []) := by
  have hx := X.1.1
  have hb := X.1.2.1
  have ho := X.1.2.2.2.1
  have hts := X.1.2.2.2.2
  intro n
  induction n with
  | zero =>
    intro t_signs t_length x1 x3 H locs ls hf
    have hf : (none : Option ((Nat → Int32) × Int32)) = some out := hf
    cases hf
  | succ n ih =>
    intro t_signs t_length x1 x3 H locs ls hf hw hl
    rw [f_X10_addBytes_3.eq_2] at hf
    refine lv_iload_n hx hb dX10_addBytes_3 rfl (lv_at hl 2 rfl) ?_
    refine lv_if_lt (tgt := 75) hx hb dX10_addBytes_4 (by decide) (fun c_4 => ?_) (fun c_4 => ?_)
    · have hf := (if_pos c_4).symm.trans hf
      obtain rfl := Option.some.inj hf
      exact k_vret X hw dX10_addBytes_75
    · have hf := (if_neg c_4).symm.trans hf
      refine lv_lload_n hx hb dX10_addBytes_7 rfl (lv_at hl 1 rfl) ?_
      refine lv_iload_n hx hb dX10_addBytes_8 rfl (lv_at hl 2 rfl) ?_
      refine lv_lshr (v := (x1 >>> ((x3).toInt64 &&& (63 : Int64)))) hx hb dX10_addBytes_9 rfl ?_
      refine lv_l2i (v := ((x1 >>> ((x3).toInt64 &&& (63 : Int64)))).toInt32) hx hb dX10_addBytes_10 rfl ?_
      refine lv_sipush (v := (255 : Int32)) hx hb dX10_addBytes_11 (by decide) ?_
      refine lv_iand hx hb dX10_addBytes_14 ?_
      refine lv_istore (lv' := [(4, .int (((((x1 >>> ((x3).toInt64 &&& (63 : Int64)))).toInt32) &&& (255 : Int32)))), (0, .ref t_o), (1, .long (x1)), (3, .int (x3))]) hx hb dX10_addBytes_15 hl (by decide) rfl (fun ls hl => ?_)
      refine lv_iload hx hb dX10_addBytes_17 (lv_at hl 0 rfl) ?_
      refine lv_bipush (v := (10 : Int32)) hx hb dX10_addBytes_19 (by decide) ?_
      refine lv_icmp_eq (tgt := 36) hx hb dX10_addBytes_21 (by decide) (fun c_21 => ?_) (fun c_21 => ?_)
      · have hf := (if_pos c_21).symm.trans hf
        exact kb_X10_addBytes_36 X (fun hf hw hl => ih hf hw hl) hf hw (lv_sub hl [1, 2, 3, 0] rfl)
      · have hf := (if_neg c_21).symm.trans hf
        refine lv_iload hx hb dX10_addBytes_24 (lv_at hl 0 rfl) ?_
        refine lv_bipush (v := (32 : Int32)) hx hb dX10_addBytes_26 (by decide) ?_
        refine lv_bipush (v := (126 : Int32)) hx hb dX10_addBytes_28 (by decide) ?_
        refine k_SN (As := [.int (((((x1 >>> ((x3).toInt64 &&& (63 : Int64)))).toInt32) &&& (255 : Int32))), .int ((32 : Int32)), .int ((126 : Int32))]) (rest := []) (host := "PloughCall") (index := 15) X (c_X12_within (out := (f_X12_within (((((x1 >>> ((x3).toInt64 &&& (63 : Int64)))).toInt32) &&& (255 : Int32))) ((32 : Int32)) ((126 : Int32)))) rfl) nw_75 tw_119 tw_560 tw_561 ⟨rfl, rfl⟩ hd_X12_within.2 ⟨Nat.le_of_ble_eq_true rfl, Nat.le_of_ble_eq_true rfl⟩ ⟨Nat.zero_le _, Nat.zero_le _⟩ hw [] rfl rfl rfl hl.1 rfl (Nat.le_of_ble_eq_true rfl) dX10_addBytes_30 (fun H locs hw => ?_)
        have hw : Wd E A s.heap (wX10 E t_o t_q t_signs t_length t_place t_behind t_kind t_value t_letters t_word) H locs := hw
        refine lv_if_eq (tgt := 69) hx hb dX10_addBytes_33 (by decide) (fun c_33 => ?_) (fun c_33 => ?_)
        · have hf := (if_pos c_33).symm.trans hf
          refine lv_iinc (v := (x3 + (-8 : Int32))) (lv' := [(3, .int ((x3 + (-8 : Int32)))), (4, .int (((((x1 >>> ((x3).toInt64 &&& (63 : Int64)))).toInt32) &&& (255 : Int32)))), (0, .ref t_o), (1, .long (x1))]) hx hb dX10_addBytes_69 hl (k := 3) rfl rfl (by decide) rfl (fun ls hl => ?_)
          refine lv_goto (tgt := 3) hx hb dX10_addBytes_72 (by decide) ?_
          exact ih hf hw (lv_sub hl [2, 3, 0] rfl)
        · have hf := (if_neg c_33).symm.trans hf
          exact kb_X10_addBytes_36 X (fun hf hw hl => ih hf hw hl) hf hw (lv_sub hl [1, 2, 3, 0] rfl)
set_option maxRecDepth 100000 in
set_option maxHeartbeats 4000000 in
theorem c_X10_addBytes {E : En} {l : Launch} {t_o : Nat} {t_q : Nat → Nat} {t_signs : (Nat → Int32)} {t_length : Int32} {t_place : Int32} {t_behind : Int32} {t_kind : Int32} {t_value : Int32} {t_letters : Int64} {t_word : (Option Nat)} {x1 : Int64} {out : (Nat → Int32) × Int32} (hf : f_X10_addBytes t_signs t_length x1 = some out) : Cn E l yX10_addBytes cX10_addBytes 5 none rm_X10_addBytes [.ref t_o, .long (x1)] (wX10 E t_o t_q t_signs t_length t_place t_behind t_kind t_value t_letters t_word) none (wX10 E t_o t_q out.1 out.2 t_place t_behind t_kind t_value t_letters t_word) := by
  refine Cn.of (by decide) (Nat.le_of_ble_eq_true rfl) rfl ?_
  intro p e s m below meth c A ls args H locs X hw hl
  have hx := X.1.1
  have hb := X.1.2.1
  have ho := X.1.2.2.2.1
  have hts := X.1.2.2.2.2
  have hl : lv_has ls 5 [(0, .ref t_o), (1, .long (x1))] := hl
  unfold f_X10_addBytes at hf
  refine lv_bipush (v := (56 : Int32)) hx hb dX10_addBytes_0 (by decide) ?_
  refine lv_istore_n (lv' := [(3, .int ((56 : Int32))), (0, .ref t_o), (1, .long (x1))]) hx hb dX10_addBytes_2 rfl hl (by decide) rfl (fun ls hl => ?_)
  exact kb_X10_addBytes_3 X 1100 hf hw (lv_sub hl [1, 2, 0] rfl)
/-! private void readWord(); -/
def f_X10_readWord_101 (t_behind : Int32) (t_kind : Int32) (t_letters : Int64) (s1 : (Option Nat)) : Option (Int32 × Int32 × Int64 × (Option Nat)) := some (t_behind, t_kind, t_letters, s1)
def f_X10_readWord_78 (t_behind : Int32) (t_letters : Int64) (s1 : Int32) : Option (Int32 × Int32 × Int64 × (Option Nat)) := if s1 = (2 : Int32) then (f_X11_spelt (t_letters)).bind fun r94 => f_X10_readWord_101 t_behind s1 t_letters r94
  else f_X10_readWord_101 t_behind s1 t_letters none
def f_X10_readWord_56 (t_place : Int32) (t_letters : Int64) (x1 : Int32) : Option (Int32 × Int32 × Int64 × (Option Nat)) := if (x1 - t_place) ≤ (8 : Int32) then f_X10_readWord_78 x1 t_letters ((2 : Int32))
  else f_X10_readWord_78 x1 t_letters ((1 : Int32))
def f_X10_readWord_5 : Nat → (Nat → Int32) → Int32 → Int32 → Int64 → Int32 → Option (Int32 × Int32 × Int64 × (Option Nat))
  | 0, _, _, _, _, _ => none
  | n + 1, t_signs, t_length, t_place, t_letters, x1 => if t_length ≤ x1 then f_X10_readWord_56 t_place t_letters x1
    else if (f_X12_within ((ga (1000) t_signs (x1))) ((97 : Int32)) ((122 : Int32))) = (0 : Int32) then f_X10_readWord_56 t_place t_letters x1
    else f_X10_readWord_5 n t_signs t_length t_place ((f_X11_withLetter (t_letters) ((ga (1000) t_signs (x1))))) ((x1 + (1 : Int32)))
def f_X10_readWord (t_signs : (Nat → Int32)) (t_length : Int32) (t_place : Int32) (t_letters : Int64) : Option (Int32 × Int32 × Int64 × (Option Nat)) := f_X10_readWord_5 1100 t_signs t_length t_place t_letters t_place
abbrev rm_X10_readWord : Room := { frames := 1, cells := 0, slots := 0, locals := 22 }
theorem hd_X10_readWord : yX10_readWord.cls = RX10 ∧ yX10_readWord.cls ≠ "java/lang/invoke/MethodHandle" ∧ yX10_readWord.cls ≠ "java/lang/invoke/VarHandle" ∧ (parseMethodDescriptor yX10_readWord.desc).map (fun d => d.parameters.length) = some 0 := by decide +kernel
set_option maxRecDepth 100000 in
set_option maxHeartbeats 4000000 in
theorem kb_X10_readWord_101 {E : En} {p : Program} {l : Launch} {e : Env} {s : State} {m : MethodId} {args : Array Value} {below : List Frame} {meth : Method} {c : Code} {A : Nat → Prop} {t_o : Nat} {t_q : Nat → Nat} {t_signs : (Nat → Int32)} {t_length : Int32} {t_place : Int32} {t_value : Int32} {out : Int32 × Int32 × Int64 × (Option Nat)} (X : Bx E A p s m args meth c cX10_readWord 2 RX10 none) {t_behind : Int32} {t_kind : Int32} {t_letters : Int64} {t_word : (Option Nat)} {s1 : (Option Nat)} {H : Heap} {locs : List Loc} {ls : Array Slot} (hf : f_X10_readWord_101 t_behind t_kind t_letters s1 = some out) : Wd E A s.heap (wX10 E t_o t_q t_signs t_length t_place t_behind t_kind t_value t_letters t_word) H locs → lv_has ls 2 [] → W p l e rm_X10_readWord s m args below meth c H locs 0 0 (Zn E below args s A none (wX10 E t_o t_q t_signs t_length t_place out.1 out.2.1 t_value out.2.2.1 out.2.2.2)) (F0 m 101 ls [va_re E.2.2 (s1), .ref t_o]) := by
  have hx := X.1.1
  have hb := X.1.2.1
  have ho := X.1.2.2.2.1
  have hts := X.1.2.2.2.2
  intro hw hl
  unfold f_X10_readWord_101 at hf
  refine k_put (q0 := 0) (ci := 9) (C := RX10) (T := TX10) (N := 8) (ty0 := tyX10) (x := va_re E.2.2 (s1)) X inx_10 tyX10_ok nmX10 hw rfl rfl 7 (by decide) rfl rfl tw_167 (nar_e _ _ _) (fit_e _ _ _) (Nat.le_of_ble_eq_true rfl) dX10_readWord_101 (fun H locs hw => ?_)
  have hw : Wd E A s.heap (wX10 E t_o t_q t_signs t_length t_place t_behind t_kind t_value t_letters s1) H locs := hw
  obtain rfl := Option.some.inj hf
  exact k_vret X hw dX10_readWord_104
set_option maxRecDepth 100000 in
set_option maxHeartbeats 4000000 in
theorem kb_X10_readWord_78 {E : En} {p : Program} {l : Launch} {e : Env} {s : State} {m : MethodId} {args : Array Value} {below : List Frame} {meth : Method} {c : Code} {A : Nat → Prop} {t_o : Nat} {t_q : Nat → Nat} {t_signs : (Nat → Int32)} {t_length : Int32} {t_place : Int32} {t_value : Int32} {out : Int32 × Int32 × Int64 × (Option Nat)} (X : Bx E A p s m args meth c cX10_readWord 2 RX10 none) {t_behind : Int32} {t_kind : Int32} {t_letters : Int64} {t_word : (Option Nat)} {s1 : Int32} {H : Heap} {locs : List Loc} {ls : Array Slot} (hf : f_X10_readWord_78 t_behind t_letters s1 = some out) : Wd E A s.heap (wX10 E t_o t_q t_signs t_length t_place t_behind t_kind t_value t_letters t_word) H locs → lv_has ls 2 [(0, .ref t_o)] → W p l e rm_X10_readWord s m args below meth c H locs 0 0 (Zn E below args s A none (wX10 E t_o t_q t_signs t_length t_place out.1 out.2.1 t_value out.2.2.1 out.2.2.2)) (F0 m 78 ls [.int (s1), .ref t_o]) := by
  have hx := X.1.1
  have hb := X.1.2.1
  have ho := X.1.2.2.2.1
  have hts := X.1.2.2.2.2
  intro hw hl
  unfold f_X10_readWord_78 at hf
  refine k_put (q0 := 0) (ci := 9) (C := RX10) (T := TX10) (N := 8) (ty0 := tyX10) (x := .int (s1)) X inx_10 tyX10_ok nmX10 hw rfl rfl 4 (by decide) rfl rfl tw_161 rfl rfl (Nat.le_of_ble_eq_true rfl) dX10_readWord_78 (fun H locs hw => ?_)
  have hw : Wd E A s.heap (wX10 E t_o t_q t_signs t_length t_place t_behind s1 t_value t_letters t_word) H locs := hw
  refine lv_aload_n hx hb dX10_readWord_81 rfl (lv_at hl 0 rfl) ?_
  refine lv_aload_n hx hb dX10_readWord_82 rfl (lv_at hl 0 rfl) ?_
  refine k_get (q0 := 0) (ci := 9) (C := RX10) (T := TX10) (N := 8) (x := .int (s1)) X inx_10 hw rfl rfl 4 (by decide) rfl tw_161 rfl dX10_readWord_83 ?_
  refine lv_iconst (v := (2 : Int32)) hx hb dX10_readWord_86 (by decide) ?_
  refine lv_icmp_ne (tgt := 100) hx hb dX10_readWord_87 (by decide) (fun c_87 => ?_) (fun c_87 => ?_)
  · have hf := (if_neg c_87).symm.trans hf
    refine lv_null hx hb dX10_readWord_100 ?_
    exact kb_X10_readWord_101 X hf hw (lv_sub hl [] rfl)
  · have hf := (if_pos c_87).symm.trans hf
    refine lv_aload_n hx hb dX10_readWord_90 rfl (lv_at hl 0 rfl) ?_
    refine k_get (q0 := 0) (ci := 9) (C := RX10) (T := TX10) (N := 8) (x := .long (t_letters)) X inx_10 hw rfl rfl 6 (by decide) rfl tw_164 rfl dX10_readWord_91 ?_
    obtain ⟨r94, hc_94, hf⟩ := bd_some hf
    refine k_SX (As := [.long (t_letters)]) (rest := [.ref t_o]) (index := 70) X (c_X11_spelt hc_94) tw_601 tw_602 tw_132 tw_603 ⟨rfl, rfl⟩ hd_X11_spelt.2 ⟨Nat.le_of_ble_eq_true rfl, Nat.le_of_ble_eq_true rfl⟩ ⟨Nat.zero_le _, Nat.zero_le _⟩ hw [] rfl rfl rfl hl.1 rfl (Nat.le_of_ble_eq_true rfl) dX10_readWord_94 (fun H locs hw => ?_)
    have hw : Wd E A s.heap (wX10 E t_o t_q t_signs t_length t_place t_behind s1 t_value t_letters t_word) H locs := hw
    refine lv_goto (tgt := 101) hx hb dX10_readWord_97 (by decide) ?_
    exact kb_X10_readWord_101 X hf hw (lv_sub hl [] rfl)
set_option maxRecDepth 100000 in
set_option maxHeartbeats 4000000 in
theorem kb_X10_readWord_56 {E : En} {p : Program} {l : Launch} {e : Env} {s : State} {m : MethodId} {args : Array Value} {below : List Frame} {meth : Method} {c : Code} {A : Nat → Prop} {t_o : Nat} {t_q : Nat → Nat} {t_signs : (Nat → Int32)} {t_length : Int32} {t_place : Int32} {t_value : Int32} {out : Int32 × Int32 × Int64 × (Option Nat)} (X : Bx E A p s m args meth c cX10_readWord 2 RX10 none) {t_behind : Int32} {t_kind : Int32} {t_letters : Int64} {t_word : (Option Nat)} {x1 : Int32} {H : Heap} {locs : List Loc} {ls : Array Slot} (hf : f_X10_readWord_56 t_place t_letters x1 = some out) : Wd E A s.heap (wX10 E t_o t_q t_signs t_length t_place t_behind t_kind t_value t_letters t_word) H locs → lv_has ls 2 [(0, .ref t_o), (1, .int (x1))] → W p l e rm_X10_readWord s m args below meth c H locs 0 0 (Zn E below args s A none (wX10 E t_o t_q t_signs t_length t_place out.1 out.2.1 t_value out.2.2.1 out.2.2.2)) (F0 m 56 ls []) := by
  have hx := X.1.1
  have hb := X.1.2.1
  have ho := X.1.2.2.2.1
  have hts := X.1.2.2.2.2
  intro hw hl
  unfold f_X10_readWord_56 at hf
  refine lv_aload_n hx hb dX10_readWord_56 rfl (lv_at hl 0 rfl) ?_
  refine lv_iload_n hx hb dX10_readWord_57 rfl (lv_at hl 1 rfl) ?_
  refine k_put (q0 := 0) (ci := 9) (C := RX10) (T := TX10) (N := 8) (ty0 := tyX10) (x := .int (x1)) X inx_10 tyX10_ok nmX10 hw rfl rfl 3 (by decide) rfl rfl tw_159 rfl rfl (Nat.le_of_ble_eq_true rfl) dX10_readWord_58 (fun H locs hw => ?_)
  have hw : Wd E A s.heap (wX10 E t_o t_q t_signs t_length t_place x1 t_kind t_value t_letters t_word) H locs := hw
  refine lv_aload_n hx hb dX10_readWord_61 rfl (lv_at hl 0 rfl) ?_
  refine lv_iload_n hx hb dX10_readWord_62 rfl (lv_at hl 1 rfl) ?_
  refine lv_aload_n hx hb dX10_readWord_63 rfl (lv_at hl 0 rfl) ?_
  refine k_get (q0 := 0) (ci := 9) (C := RX10) (T := TX10) (N := 8) (x := .int (t_place)) X inx_10 hw rfl rfl 2 (by decide) rfl tw_158 rfl dX10_readWord_64 ?_
  refine lv_isub hx hb dX10_readWord_67 ?_
  refine lv_bipush (v := (8 : Int32)) hx hb dX10_readWord_68 (by decide) ?_
  refine lv_icmp_le (tgt := 77) hx hb dX10_readWord_70 (by decide) (fun c_70 => ?_) (fun c_70 => ?_)
  · have hf := (if_pos c_70).symm.trans hf
    refine lv_iconst (v := (2 : Int32)) hx hb dX10_readWord_77 (by decide) ?_
    exact kb_X10_readWord_78 X hf hw (lv_sub hl [0] rfl)
  · have hf := (if_neg c_70).symm.trans hf
    refine lv_iconst (v := (1 : Int32)) hx hb dX10_readWord_73 (by decide) ?_
    refine lv_goto (tgt := 78) hx hb dX10_readWord_74 (by decide) ?_
    exact kb_X10_readWord_78 X hf hw (lv_sub hl [0] rfl)
set_option maxRecDepth 100000 in
set_option maxHeartbeats 4000000 in
theorem kb_X10_readWord_5 {E : En} {p : Program} {l : Launch} {e : Env} {s : State} {m : MethodId} {args : Array Value} {below : List Frame} {meth : Method} {c : Code} {A : Nat → Prop} {t_o : Nat} {t_q : Nat → Nat} {t_signs : (Nat → Int32)} {t_length : Int32} {t_place : Int32} {t_value : Int32} {out : Int32 × Int32 × Int64 × (Option Nat)} (X : Bx E A p s m args meth c cX10_readWord 2 RX10 none) : ∀ (n : Nat) {t_behind : Int32} {t_kind : Int32} {t_letters : Int64} {t_word : (Option Nat)} {x1 : Int32} {H : Heap} {locs : List Loc} {ls : Array Slot}, f_X10_readWord_5 n t_signs t_length t_place t_letters x1 = some out → Wd E A s.heap (wX10 E t_o t_q t_signs t_length t_place t_behind t_kind t_value t_letters t_word) H locs → lv_has ls 2 [(0, .ref t_o), (1, .int (x1))] → W p l e rm_X10_readWord s m args below meth c H locs 0 0 (Zn E below args s A none (wX10 E t_o t_q t_signs t_length t_place out.1 out.2.1 t_value out.2.2.1 out.2.2.2)) (F0 m 5 ls []) := by
  have hx := X.1.1
  have hb := X.1.2.1
  have ho := X.1.2.2.2.1
  have hts := X.1.2.2.2.2
  intro n
  induction n with
  | zero =>
    intro t_behind t_kind t_letters t_word x1 H locs ls hf
    have hf : (none : Option (Int32 × Int32 × Int64 × (Option Nat))) = some out := hf
    cases hf
  | succ n ih =>
    intro t_behind t_kind t_letters t_word x1 H locs ls hf hw hl
    rw [f_X10_readWord_5.eq_2] at hf
    refine lv_iload_n hx hb dX10_readWord_5 rfl (lv_at hl 1 rfl) ?_
    refine lv_aload_n hx hb dX10_readWord_6 rfl (lv_at hl 0 rfl) ?_
    refine k_get (q0 := 0) (ci := 9) (C := RX10) (T := TX10) (N := 8) (x := .int (t_length)) X inx_10 hw rfl rfl 1 (by decide) rfl tw_156 rfl dX10_readWord_7 ?_
    refine lv_icmp_ge (tgt := 56) hx hb dX10_readWord_10 (by decide) (fun c_10 => ?_) (fun c_10 => ?_)
    · have hf := (if_pos c_10).symm.trans hf
      exact kb_X10_readWord_56 X hf hw (lv_sub hl [0, 1] rfl)
    · have hf := (if_neg c_10).symm.trans hf
      refine lv_aload_n hx hb dX10_readWord_13 rfl (lv_at hl 0 rfl) ?_
      refine k_get (q0 := 0) (ci := 9) (C := RX10) (T := TX10) (N := 8) (x := .ref (t_q 0)) X inx_10 hw rfl rfl 0 (by decide) rfl tw_154 rfl dX10_readWord_14 ?_
      refine lv_iload_n hx hb dX10_readWord_17 rfl (lv_at hl 1 rfl) ?_
      refine k_SN (As := [.ref (t_q 0), .int (x1)]) (rest := []) (host := "PloughCall") (index := 36) X (ct_X12_at (out := (ga (1000) t_signs (x1))) rfl) nw_78 tw_119 tw_591 tw_592 ⟨rfl, rfl⟩ hd_X12_at.2 ⟨Nat.le_of_ble_eq_true rfl, Nat.le_of_ble_eq_true rfl⟩ ⟨Nat.zero_le _, Nat.zero_le _⟩ hw [1] rfl rfl rfl hl.1 rfl (Nat.le_of_ble_eq_true rfl) dX10_readWord_18 (fun H locs hw => ?_)
      have hw : Wd E A s.heap (wX10 E t_o t_q t_signs t_length t_place t_behind t_kind t_value t_letters t_word) H locs := hw
      refine lv_bipush (v := (97 : Int32)) hx hb dX10_readWord_21 (by decide) ?_
      refine lv_bipush (v := (122 : Int32)) hx hb dX10_readWord_23 (by decide) ?_
      refine k_SN (As := [.int ((ga (1000) t_signs (x1))), .int ((97 : Int32)), .int ((122 : Int32))]) (rest := []) (host := "PloughCall") (index := 15) X (c_X12_within (out := (f_X12_within ((ga (1000) t_signs (x1))) ((97 : Int32)) ((122 : Int32)))) rfl) nw_75 tw_119 tw_560 tw_561 ⟨rfl, rfl⟩ hd_X12_within.2 ⟨Nat.le_of_ble_eq_true rfl, Nat.le_of_ble_eq_true rfl⟩ ⟨Nat.zero_le _, Nat.zero_le _⟩ hw [] rfl rfl rfl hl.1 rfl (Nat.le_of_ble_eq_true rfl) dX10_readWord_25 (fun H locs hw => ?_)
      have hw : Wd E A s.heap (wX10 E t_o t_q t_signs t_length t_place t_behind t_kind t_value t_letters t_word) H locs := hw
      refine lv_if_eq (tgt := 56) hx hb dX10_readWord_28 (by decide) (fun c_28 => ?_) (fun c_28 => ?_)
      · have hf := (if_pos c_28).symm.trans hf
        exact kb_X10_readWord_56 X hf hw (lv_sub hl [0, 1] rfl)
      · have hf := (if_neg c_28).symm.trans hf
        refine lv_aload_n hx hb dX10_readWord_31 rfl (lv_at hl 0 rfl) ?_
        refine lv_aload_n hx hb dX10_readWord_32 rfl (lv_at hl 0 rfl) ?_
        refine k_get (q0 := 0) (ci := 9) (C := RX10) (T := TX10) (N := 8) (x := .long (t_letters)) X inx_10 hw rfl rfl 6 (by decide) rfl tw_164 rfl dX10_readWord_33 ?_
        refine lv_aload_n hx hb dX10_readWord_36 rfl (lv_at hl 0 rfl) ?_
        refine k_get (q0 := 0) (ci := 9) (C := RX10) (T := TX10) (N := 8) (x := .ref (t_q 0)) X inx_10 hw rfl rfl 0 (by decide) rfl tw_154 rfl dX10_readWord_37 ?_
        refine lv_iload_n hx hb dX10_readWord_40 rfl (lv_at hl 1 rfl) ?_
        refine k_SN (As := [.ref (t_q 0), .int (x1)]) (rest := [.long (t_letters), .ref t_o]) (host := "PloughCall") (index := 36) X (ct_X12_at (out := (ga (1000) t_signs (x1))) rfl) nw_78 tw_119 tw_591 tw_592 ⟨rfl, rfl⟩ hd_X12_at.2 ⟨Nat.le_of_ble_eq_true rfl, Nat.le_of_ble_eq_true rfl⟩ ⟨Nat.zero_le _, Nat.zero_le _⟩ hw [1] rfl rfl rfl hl.1 rfl (Nat.le_of_ble_eq_true rfl) dX10_readWord_41 (fun H locs hw => ?_)
        have hw : Wd E A s.heap (wX10 E t_o t_q t_signs t_length t_place t_behind t_kind t_value t_letters t_word) H locs := hw
        refine k_SX (As := [.long (t_letters), .int ((ga (1000) t_signs (x1)))]) (rest := [.ref t_o]) (index := 64) X (c_X11_withLetter (out := (f_X11_withLetter (t_letters) ((ga (1000) t_signs (x1))))) rfl) tw_597 tw_598 tw_132 tw_599 ⟨rfl, rfl⟩ hd_X11_withLetter.2 ⟨Nat.le_of_ble_eq_true rfl, Nat.le_of_ble_eq_true rfl⟩ ⟨Nat.zero_le _, Nat.zero_le _⟩ hw [] rfl rfl rfl hl.1 rfl (Nat.le_of_ble_eq_true rfl) dX10_readWord_44 (fun H locs hw => ?_)
        have hw : Wd E A s.heap (wX10 E t_o t_q t_signs t_length t_place t_behind t_kind t_value t_letters t_word) H locs := hw
        refine k_put (q0 := 0) (ci := 9) (C := RX10) (T := TX10) (N := 8) (ty0 := tyX10) (x := .long ((f_X11_withLetter (t_letters) ((ga (1000) t_signs (x1)))))) X inx_10 tyX10_ok nmX10 hw rfl rfl 6 (by decide) rfl rfl tw_164 rfl rfl (Nat.le_of_ble_eq_true rfl) dX10_readWord_47 (fun H locs hw => ?_)
        have hw : Wd E A s.heap (wX10 E t_o t_q t_signs t_length t_place t_behind t_kind t_value ((f_X11_withLetter (t_letters) ((ga (1000) t_signs (x1))))) t_word) H locs := hw
        refine lv_iinc (v := (x1 + (1 : Int32))) (lv' := [(1, .int ((x1 + (1 : Int32)))), (0, .ref t_o)]) hx hb dX10_readWord_50 hl (k := 1) rfl rfl (by decide) rfl (fun ls hl => ?_)
        refine lv_goto (tgt := 5) hx hb dX10_readWord_53 (by decide) ?_
        exact ih hf hw (lv_sub hl [1, 0] rfl)
set_option maxRecDepth 100000 in
set_option maxHeartbeats 4000000 in
theorem c_X10_readWord {E : En} {l : Launch} {t_o : Nat} {t_q : Nat → Nat} {t_signs : (Nat → Int32)} {t_length : Int32} {t_place : Int32} {t_behind : Int32} {t_kind : Int32} {t_value : Int32} {t_letters : Int64} {t_word : (Option Nat)}  {out : Int32 × Int32 × Int64 × (Option Nat)} (hf : f_X10_readWord t_signs t_length t_place t_letters = some out) : Cn E l yX10_readWord cX10_readWord 2 none rm_X10_readWord [.ref t_o] (wX10 E t_o t_q t_signs t_length t_place t_behind t_kind t_value t_letters t_word) none (wX10 E t_o t_q t_signs t_length t_place out.1 out.2.1 t_value out.2.2.1 out.2.2.2) := by
  refine Cn.of (by decide) (Nat.le_of_ble_eq_true rfl) rfl ?_
  intro p e s m below meth c A ls args H locs X hw hl
  have hx := X.1.1
  have hb := X.1.2.1
  have ho := X.1.2.2.2.1
  have hts := X.1.2.2.2.2
  have hl : lv_has ls 2 [(0, .ref t_o)] := hl
  unfold f_X10_readWord at hf
  refine lv_aload_n hx hb dX10_readWord_0 rfl (lv_at hl 0 rfl) ?_
  refine k_get (q0 := 0) (ci := 9) (C := RX10) (T := TX10) (N := 8) (x := .int (t_place)) X inx_10 hw rfl rfl 2 (by decide) rfl tw_158 rfl dX10_readWord_1 ?_
  refine lv_istore_n (lv' := [(1, .int (t_place)), (0, .ref t_o)]) hx hb dX10_readWord_4 rfl hl (by decide) rfl (fun ls hl => ?_)
  exact kb_X10_readWord_5 X 1100 hf hw (lv_sub hl [1, 0] rfl)
/-! private void readNumber(); -/
def f_X10_readNumber_81 (t_behind : Int32) (t_value : Int32) (s1 : Int32) : Option (Int32 × Int32 × Int32) := some (t_behind, s1, t_value)
def f_X10_readNumber_60 (t_place : Int32) (t_value : Int32) (x1 : Int32) : Option (Int32 × Int32 × Int32) := if (x1 - t_place) ≤ (4 : Int32) then f_X10_readNumber_81 x1 t_value ((3 : Int32))
  else f_X10_readNumber_81 x1 t_value ((1 : Int32))
def f_X10_readNumber_5 : Nat → (Nat → Int32) → Int32 → Int32 → Int32 → Int32 → Option (Int32 × Int32 × Int32)
  | 0, _, _, _, _, _ => none
  | n + 1, t_signs, t_length, t_place, t_value, x1 => if t_length ≤ x1 then f_X10_readNumber_60 t_place t_value x1
    else if (f_X12_within ((ga (1000) t_signs (x1))) ((48 : Int32)) ((57 : Int32))) = (0 : Int32) then f_X10_readNumber_60 t_place t_value x1
    else f_X10_readNumber_5 n t_signs t_length t_place ((((t_value * (10 : Int32)) + (ga (1000) t_signs (x1))) - (48 : Int32))) ((x1 + (1 : Int32)))
def f_X10_readNumber (t_signs : (Nat → Int32)) (t_length : Int32) (t_place : Int32) (t_value : Int32) : Option (Int32 × Int32 × Int32) := f_X10_readNumber_5 1100 t_signs t_length t_place t_value t_place
abbrev rm_X10_readNumber : Room := { frames := 1, cells := 0, slots := 0, locals := 22 }
theorem hd_X10_readNumber : yX10_readNumber.cls = RX10 ∧ yX10_readNumber.cls ≠ "java/lang/invoke/MethodHandle" ∧ yX10_readNumber.cls ≠ "java/lang/invoke/VarHandle" ∧ (parseMethodDescriptor yX10_readNumber.desc).map (fun d => d.parameters.length) = some 0 := by decide +kernel
set_option maxRecDepth 100000 in
set_option maxHeartbeats 4000000 in
theorem kb_X10_readNumber_81 {E : En} {p : Program} {l : Launch} {e : Env} {s : State} {m : MethodId} {args : Array Value} {below : List Frame} {meth : Method} {c : Code} {A : Nat → Prop} {t_o : Nat} {t_q : Nat → Nat} {t_signs : (Nat → Int32)} {t_length : Int32} {t_place : Int32} {t_letters : Int64} {t_word : (Option Nat)} {out : Int32 × Int32 × Int32} (X : Bx E A p s m args meth c cX10_readNumber 2 RX10 none) {t_behind : Int32} {t_kind : Int32} {t_value : Int32} {s1 : Int32} {H : Heap} {locs : List Loc} {ls : Array Slot} (hf : f_X10_readNumber_81 t_behind t_value s1 = some out) : Wd E A s.heap (wX10 E t_o t_q t_signs t_length t_place t_behind t_kind t_value t_letters t_word) H locs → lv_has ls 2 [] → W p l e rm_X10_readNumber s m args below meth c H locs 0 0 (Zn E below args s A none (wX10 E t_o t_q t_signs t_length t_place out.1 out.2.1 out.2.2 t_letters t_word)) (F0 m 81 ls [.int (s1), .ref t_o]) := by
  have hx := X.1.1
  have hb := X.1.2.1
  have ho := X.1.2.2.2.1
  have hts := X.1.2.2.2.2
  intro hw hl
  unfold f_X10_readNumber_81 at hf
  refine k_put (q0 := 0) (ci := 9) (C := RX10) (T := TX10) (N := 8) (ty0 := tyX10) (x := .int (s1)) X inx_10 tyX10_ok nmX10 hw rfl rfl 4 (by decide) rfl rfl tw_161 rfl rfl (Nat.le_of_ble_eq_true rfl) dX10_readNumber_81 (fun H locs hw => ?_)
  have hw : Wd E A s.heap (wX10 E t_o t_q t_signs t_length t_place t_behind s1 t_value t_letters t_word) H locs := hw
  obtain rfl := Option.some.inj hf
  exact k_vret X hw dX10_readNumber_84
set_option maxRecDepth 100000 in
set_option maxHeartbeats 4000000 in
theorem kb_X10_readNumber_60 {E : En} {p : Program} {l : Launch} {e : Env} {s : State} {m : MethodId} {args : Array Value} {below : List Frame} {meth : Method} {c : Code} {A : Nat → Prop} {t_o : Nat} {t_q : Nat → Nat} {t_signs : (Nat → Int32)} {t_length : Int32} {t_place : Int32} {t_letters : Int64} {t_word : (Option Nat)} {out : Int32 × Int32 × Int32} (X : Bx E A p s m args meth c cX10_readNumber 2 RX10 none) {t_behind : Int32} {t_kind : Int32} {t_value : Int32} {x1 : Int32} {H : Heap} {locs : List Loc} {ls : Array Slot} (hf : f_X10_readNumber_60 t_place t_value x1 = some out) : Wd E A s.heap (wX10 E t_o t_q t_signs t_length t_place t_behind t_kind t_value t_letters t_word) H locs → lv_has ls 2 [(0, .ref t_o), (1, .int (x1))] → W p l e rm_X10_readNumber s m args below meth c H locs 0 0 (Zn E below args s A none (wX10 E t_o t_q t_signs t_length t_place out.1 out.2.1 out.2.2 t_letters t_word)) (F0 m 60 ls []) := by
  have hx := X.1.1
  have hb := X.1.2.1
  have ho := X.1.2.2.2.1
  have hts := X.1.2.2.2.2
  intro hw hl
  unfold f_X10_readNumber_60 at hf
  refine lv_aload_n hx hb dX10_readNumber_60 rfl (lv_at hl 0 rfl) ?_
  refine lv_iload_n hx hb dX10_readNumber_61 rfl (lv_at hl 1 rfl) ?_
  refine k_put (q0 := 0) (ci := 9) (C := RX10) (T := TX10) (N := 8) (ty0 := tyX10) (x := .int (x1)) X inx_10 tyX10_ok nmX10 hw rfl rfl 3 (by decide) rfl rfl tw_159 rfl rfl (Nat.le_of_ble_eq_true rfl) dX10_readNumber_62 (fun H locs hw => ?_)
  have hw : Wd E A s.heap (wX10 E t_o t_q t_signs t_length t_place x1 t_kind t_value t_letters t_word) H locs := hw
  refine lv_aload_n hx hb dX10_readNumber_65 rfl (lv_at hl 0 rfl) ?_
  refine lv_iload_n hx hb dX10_readNumber_66 rfl (lv_at hl 1 rfl) ?_
  refine lv_aload_n hx hb dX10_readNumber_67 rfl (lv_at hl 0 rfl) ?_
  refine k_get (q0 := 0) (ci := 9) (C := RX10) (T := TX10) (N := 8) (x := .int (t_place)) X inx_10 hw rfl rfl 2 (by decide) rfl tw_158 rfl dX10_readNumber_68 ?_
  refine lv_isub hx hb dX10_readNumber_71 ?_
  refine lv_iconst (v := (4 : Int32)) hx hb dX10_readNumber_72 (by decide) ?_
  refine lv_icmp_le (tgt := 80) hx hb dX10_readNumber_73 (by decide) (fun c_73 => ?_) (fun c_73 => ?_)
  · have hf := (if_pos c_73).symm.trans hf
    refine lv_iconst (v := (3 : Int32)) hx hb dX10_readNumber_80 (by decide) ?_
    exact kb_X10_readNumber_81 X hf hw (lv_sub hl [] rfl)
  · have hf := (if_neg c_73).symm.trans hf
    refine lv_iconst (v := (1 : Int32)) hx hb dX10_readNumber_76 (by decide) ?_
    refine lv_goto (tgt := 81) hx hb dX10_readNumber_77 (by decide) ?_
    exact kb_X10_readNumber_81 X hf hw (lv_sub hl [] rfl)
set_option maxRecDepth 100000 in
set_option maxHeartbeats 4000000 in
theorem kb_X10_readNumber_5 {E : En} {p : Program} {l : Launch} {e : Env} {s : State} {m : MethodId} {args : Array Value} {below : List Frame} {meth : Method} {c : Code} {A : Nat → Prop} {t_o : Nat} {t_q : Nat → Nat} {t_signs : (Nat → Int32)} {t_length : Int32} {t_place : Int32} {t_letters : Int64} {t_word : (Option Nat)} {out : Int32 × Int32 × Int32} (X : Bx E A p s m args meth c cX10_readNumber 2 RX10 none) : ∀ (n : Nat) {t_behind : Int32} {t_kind : Int32} {t_value : Int32} {x1 : Int32} {H : Heap} {locs : List Loc} {ls : Array Slot}, f_X10_readNumber_5 n t_signs t_length t_place t_value x1 = some out → Wd E A s.heap (wX10 E t_o t_q t_signs t_length t_place t_behind t_kind t_value t_letters t_word) H locs → lv_has ls 2 [(0, .ref t_o), (1, .int (x1))] → W p l e rm_X10_readNumber s m args below meth c H locs 0 0 (Zn E below args s A none (wX10 E t_o t_q t_signs t_length t_place out.1 out.2.1 out.2.2 t_letters t_word)) (F0 m 5 ls []) := by
  have hx := X.1.1
  have hb := X.1.2.1
  have ho := X.1.2.2.2.1
  have hts := X.1.2.2.2.2
  intro n
  induction n with
  | zero =>
    intro t_behind t_kind t_value x1 H locs ls hf
    have hf : (none : Option (Int32 × Int32 × Int32)) = some out := hf
    cases hf
  | succ n ih =>
    intro t_behind t_kind t_value x1 H locs ls hf hw hl
    rw [f_X10_readNumber_5.eq_2] at hf
    refine lv_iload_n hx hb dX10_readNumber_5 rfl (lv_at hl 1 rfl) ?_
    refine lv_aload_n hx hb dX10_readNumber_6 rfl (lv_at hl 0 rfl) ?_
    refine k_get (q0 := 0) (ci := 9) (C := RX10) (T := TX10) (N := 8) (x := .int (t_length)) X inx_10 hw rfl rfl 1 (by decide) rfl tw_156 rfl dX10_readNumber_7 ?_
    refine lv_icmp_ge (tgt := 60) hx hb dX10_readNumber_10 (by decide) (fun c_10 => ?_) (fun c_10 => ?_)
    · have hf := (if_pos c_10).symm.trans hf
      exact kb_X10_readNumber_60 X hf hw (lv_sub hl [0, 1] rfl)
    · have hf := (if_neg c_10).symm.trans hf
      refine lv_aload_n hx hb dX10_readNumber_13 rfl (lv_at hl 0 rfl) ?_
      refine k_get (q0 := 0) (ci := 9) (C := RX10) (T := TX10) (N := 8) (x := .ref (t_q 0)) X inx_10 hw rfl rfl 0 (by decide) rfl tw_154 rfl dX10_readNumber_14 ?_
      refine lv_iload_n hx hb dX10_readNumber_17 rfl (lv_at hl 1 rfl) ?_
      refine k_SN (As := [.ref (t_q 0), .int (x1)]) (rest := []) (host := "PloughCall") (index := 36) X (ct_X12_at (out := (ga (1000) t_signs (x1))) rfl) nw_78 tw_119 tw_591 tw_592 ⟨rfl, rfl⟩ hd_X12_at.2 ⟨Nat.le_of_ble_eq_true rfl, Nat.le_of_ble_eq_true rfl⟩ ⟨Nat.zero_le _, Nat.zero_le _⟩ hw [1] rfl rfl rfl hl.1 rfl (Nat.le_of_ble_eq_true rfl) dX10_readNumber_18 (fun H locs hw => ?_)
      have hw : Wd E A s.heap (wX10 E t_o t_q t_signs t_length t_place t_behind t_kind t_value t_letters t_word) H locs := hw
      refine lv_bipush (v := (48 : Int32)) hx hb dX10_readNumber_21 (by decide) ?_
      refine lv_bipush (v := (57 : Int32)) hx hb dX10_readNumber_23 (by decide) ?_
      refine k_SN (As := [.int ((ga (1000) t_signs (x1))), .int ((48 : Int32)), .int ((57 : Int32))]) (rest := []) (host := "PloughCall") (index := 15) X (c_X12_within (out := (f_X12_within ((ga (1000) t_signs (x1))) ((48 : Int32)) ((57 : Int32)))) rfl) nw_75 tw_119 tw_560 tw_561 ⟨rfl, rfl⟩ hd_X12_within.2 ⟨Nat.le_of_ble_eq_true rfl, Nat.le_of_ble_eq_true rfl⟩ ⟨Nat.zero_le _, Nat.zero_le _⟩ hw [] rfl rfl rfl hl.1 rfl (Nat.le_of_ble_eq_true rfl) dX10_readNumber_25 (fun H locs hw => ?_)
      have hw : Wd E A s.heap (wX10 E t_o t_q t_signs t_length t_place t_behind t_kind t_value t_letters t_word) H locs := hw
      refine lv_if_eq (tgt := 60) hx hb dX10_readNumber_28 (by decide) (fun c_28 => ?_) (fun c_28 => ?_)
      · have hf := (if_pos c_28).symm.trans hf
        exact kb_X10_readNumber_60 X hf hw (lv_sub hl [0, 1] rfl)
      · have hf := (if_neg c_28).symm.trans hf
        refine lv_aload_n hx hb dX10_readNumber_31 rfl (lv_at hl 0 rfl) ?_
        refine lv_aload_n hx hb dX10_readNumber_32 rfl (lv_at hl 0 rfl) ?_
        refine k_get (q0 := 0) (ci := 9) (C := RX10) (T := TX10) (N := 8) (x := .int (t_value)) X inx_10 hw rfl rfl 5 (by decide) rfl tw_162 rfl dX10_readNumber_33 ?_
        refine lv_bipush (v := (10 : Int32)) hx hb dX10_readNumber_36 (by decide) ?_
        refine lv_imul hx hb dX10_readNumber_38 ?_
        refine lv_aload_n hx hb dX10_readNumber_39 rfl (lv_at hl 0 rfl) ?_
        refine k_get (q0 := 0) (ci := 9) (C := RX10) (T := TX10) (N := 8) (x := .ref (t_q 0)) X inx_10 hw rfl rfl 0 (by decide) rfl tw_154 rfl dX10_readNumber_40 ?_
        refine lv_iload_n hx hb dX10_readNumber_43 rfl (lv_at hl 1 rfl) ?_
        refine k_SN (As := [.ref (t_q 0), .int (x1)]) (rest := [.int ((t_value * (10 : Int32))), .ref t_o]) (host := "PloughCall") (index := 36) X (ct_X12_at (out := (ga (1000) t_signs (x1))) rfl) nw_78 tw_119 tw_591 tw_592 ⟨rfl, rfl⟩ hd_X12_at.2 ⟨Nat.le_of_ble_eq_true rfl, Nat.le_of_ble_eq_true rfl⟩ ⟨Nat.zero_le _, Nat.zero_le _⟩ hw [1] rfl rfl rfl hl.1 rfl (Nat.le_of_ble_eq_true rfl) dX10_readNumber_44 (fun H locs hw => ?_)
        have hw : Wd E A s.heap (wX10 E t_o t_q t_signs t_length t_place t_behind t_kind t_value t_letters t_word) H locs := hw
        refine lv_iadd hx hb dX10_readNumber_47 ?_
        refine lv_bipush (v := (48 : Int32)) hx hb dX10_readNumber_48 (by decide) ?_
        refine lv_isub hx hb dX10_readNumber_50 ?_
        refine k_put (q0 := 0) (ci := 9) (C := RX10) (T := TX10) (N := 8) (ty0 := tyX10) (x := .int ((((t_value * (10 : Int32)) + (ga (1000) t_signs (x1))) - (48 : Int32)))) X inx_10 tyX10_ok nmX10 hw rfl rfl 5 (by decide) rfl rfl tw_162 rfl rfl (Nat.le_of_ble_eq_true rfl) dX10_readNumber_51 (fun H locs hw => ?_)
        have hw : Wd E A s.heap (wX10 E t_o t_q t_signs t_length t_place t_behind t_kind ((((t_value * (10 : Int32)) + (ga (1000) t_signs (x1))) - (48 : Int32))) t_letters t_word) H locs := hw
        refine lv_iinc (v := (x1 + (1 : Int32))) (lv' := [(1, .int ((x1 + (1 : Int32)))), (0, .ref t_o)]) hx hb dX10_readNumber_54 hl (k := 1) rfl rfl (by decide) rfl (fun ls hl => ?_)
        refine lv_goto (tgt := 5) hx hb dX10_readNumber_57 (by decide) ?_
        exact ih hf hw (lv_sub hl [1, 0] rfl)
set_option maxRecDepth 100000 in
set_option maxHeartbeats 4000000 in
theorem c_X10_readNumber {E : En} {l : Launch} {t_o : Nat} {t_q : Nat → Nat} {t_signs : (Nat → Int32)} {t_length : Int32} {t_place : Int32} {t_behind : Int32} {t_kind : Int32} {t_value : Int32} {t_letters : Int64} {t_word : (Option Nat)}  {out : Int32 × Int32 × Int32} (hf : f_X10_readNumber t_signs t_length t_place t_value = some out) : Cn E l yX10_readNumber cX10_readNumber 2 none rm_X10_readNumber [.ref t_o] (wX10 E t_o t_q t_signs t_length t_place t_behind t_kind t_value t_letters t_word) none (wX10 E t_o t_q t_signs t_length t_place out.1 out.2.1 out.2.2 t_letters t_word) := by
  refine Cn.of (by decide) (Nat.le_of_ble_eq_true rfl) rfl ?_
  intro p e s m below meth c A ls args H locs X hw hl
  have hx := X.1.1
  have hb := X.1.2.1
  have ho := X.1.2.2.2.1
  have hts := X.1.2.2.2.2
  have hl : lv_has ls 2 [(0, .ref t_o)] := hl
  unfold f_X10_readNumber at hf
  refine lv_aload_n hx hb dX10_readNumber_0 rfl (lv_at hl 0 rfl) ?_
  refine k_get (q0 := 0) (ci := 9) (C := RX10) (T := TX10) (N := 8) (x := .int (t_place)) X inx_10 hw rfl rfl 2 (by decide) rfl tw_158 rfl dX10_readNumber_1 ?_
  refine lv_istore_n (lv' := [(1, .int (t_place)), (0, .ref t_o)]) hx hb dX10_readNumber_4 rfl hl (by decide) rfl (fun ls hl => ?_)
  exact kb_X10_readNumber_5 X 1100 hf hw (lv_sub hl [1, 0] rfl)
/-! public int feed(long, long, long); -/
def f_X12_feed (tstape_signs : (Nat → Int32)) (tstape_length : Int32) (x1 : Int64) (x3 : Int64) (x5 : Int64) : Option (Int32 × (Nat → Int32) × Int32) := (f_X10_addBytes tstape_signs tstape_length (x1)).bind fun r5 => (f_X10_addBytes r5.1 r5.2 (x3)).bind fun r13 => (f_X10_addBytes r13.1 r13.2 (x5)).bind fun r22 => some (r22.2, r22.1, r22.2)
abbrev rm_X12_feed : Room := { frames := 2, cells := 0, slots := 0, locals := 46 }
theorem hd_X12_feed : yX12_feed.cls = RX12 ∧ yX12_feed.cls ≠ "java/lang/invoke/MethodHandle" ∧ yX12_feed.cls ≠ "java/lang/invoke/VarHandle" ∧ (parseMethodDescriptor yX12_feed.desc).map (fun d => d.parameters.length) = some 3 := by decide +kernel
set_option maxRecDepth 100000 in
set_option maxHeartbeats 4000000 in
theorem c_X12_feed {E : En} {l : Launch} {t_o : Nat} {t_q : Nat → Nat} {t_reader : Value} {t_counsel : Value} {t_now : Value} {t_trial : Value} {t_past : Value} {t_reports : Value} {t_marks : (Nat → Option Nat)} {t_city : Value} {t_spareCity : Value} {t_script : Value} {t_spareScript : Value} {t_firstRefused : Int32} {t_firstKept : Int32} {tstape_o : Nat} {tstape_q : Nat → Nat} {tstape_signs : (Nat → Int32)} {tstape_length : Int32} {tstape_place : Int32} {tstape_behind : Int32} {tstape_kind : Int32} {tstape_value : Int32} {tstape_letters : Int64} {tstape_word : (Option Nat)} {x1 : Int64} {x3 : Int64} {x5 : Int64} {out : Int32 × (Nat → Int32) × Int32} (hf : f_X12_feed tstape_signs tstape_length x1 x3 x5 = some out) : Cn E l yX12_feed cX12_feed 7 (some .int) rm_X12_feed [.ref t_o, .long (x1), .long (x3), .long (x5)] (wX12 E t_o t_q (.ref tstape_o) t_reader t_counsel t_now t_trial t_past t_reports t_marks t_city t_spareCity t_script t_spareScript t_firstRefused t_firstKept ++ (wX10 E tstape_o tstape_q tstape_signs tstape_length tstape_place tstape_behind tstape_kind tstape_value tstape_letters tstape_word)) (some (.int out.1)) (wX12 E t_o t_q (.ref tstape_o) t_reader t_counsel t_now t_trial t_past t_reports t_marks t_city t_spareCity t_script t_spareScript t_firstRefused t_firstKept ++ (wX10 E tstape_o tstape_q out.2.1 out.2.2 tstape_place tstape_behind tstape_kind tstape_value tstape_letters tstape_word)) := by
  refine Cn.of (by decide) (Nat.le_of_ble_eq_true rfl) rfl ?_
  intro p e s m below meth c A ls args H locs X hw hl
  have hx := X.1.1
  have hb := X.1.2.1
  have ho := X.1.2.2.2.1
  have hts := X.1.2.2.2.2
  have hl : lv_has ls 7 [(0, .ref t_o), (1, .long (x1)), (3, .long (x3)), (5, .long (x5))] := hl
  unfold f_X12_feed at hf
  refine lv_aload_n hx hb dX12_feed_0 rfl (lv_at hl 0 rfl) ?_
  refine k_get (q0 := 0) (ci := 10) (C := RX12) (T := TX12) (N := 14) (x := .ref tstape_o) X inx_12 hw rfl rfl 0 (by decide) rfl tw_508 rfl dX12_feed_1 ?_
  refine lv_lload_n hx hb dX12_feed_4 rfl (lv_at hl 1 rfl) ?_
  obtain ⟨r5, hc_5, hf⟩ := bd_some hf
  refine k_V (As := [.long (x1)]) (rest := []) (index := 83) (C := RX10) X (c_X10_addBytes hc_5) tw_555 tw_556 tw_557 tw_120 tw_558 ⟨rfl, rfl⟩ hd_X10_addBytes ⟨Nat.le_of_ble_eq_true rfl, Nat.le_of_ble_eq_true rfl⟩ ⟨Nat.zero_le _, Nat.zero_le _⟩ hw [2, 3] rfl rfl 2 rfl rfl rfl rfl hl.1 rfl (Nat.le_of_ble_eq_true rfl) dX12_feed_5 (fun H locs hw => ?_)
  have hw : Wd E A s.heap (wX12 E t_o t_q (.ref tstape_o) t_reader t_counsel t_now t_trial t_past t_reports t_marks t_city t_spareCity t_script t_spareScript t_firstRefused t_firstKept ++ (wX10 E tstape_o tstape_q r5.1 r5.2 tstape_place tstape_behind tstape_kind tstape_value tstape_letters tstape_word)) H locs := hw
  refine lv_aload_n hx hb dX12_feed_8 rfl (lv_at hl 0 rfl) ?_
  refine k_get (q0 := 0) (ci := 10) (C := RX12) (T := TX12) (N := 14) (x := .ref tstape_o) X inx_12 hw rfl rfl 0 (by decide) rfl tw_508 rfl dX12_feed_9 ?_
  refine lv_lload_n hx hb dX12_feed_12 rfl (lv_at hl 2 rfl) ?_
  obtain ⟨r13, hc_13, hf⟩ := bd_some hf
  refine k_V (As := [.long (x3)]) (rest := []) (index := 83) (C := RX10) X (c_X10_addBytes hc_13) tw_555 tw_556 tw_557 tw_120 tw_558 ⟨rfl, rfl⟩ hd_X10_addBytes ⟨Nat.le_of_ble_eq_true rfl, Nat.le_of_ble_eq_true rfl⟩ ⟨Nat.zero_le _, Nat.zero_le _⟩ hw [2, 3] rfl rfl 2 rfl rfl rfl rfl hl.1 rfl (Nat.le_of_ble_eq_true rfl) dX12_feed_13 (fun H locs hw => ?_)
  have hw : Wd E A s.heap (wX12 E t_o t_q (.ref tstape_o) t_reader t_counsel t_now t_trial t_past t_reports t_marks t_city t_spareCity t_script t_spareScript t_firstRefused t_firstKept ++ (wX10 E tstape_o tstape_q r13.1 r13.2 tstape_place tstape_behind tstape_kind tstape_value tstape_letters tstape_word)) H locs := hw
  refine lv_aload_n hx hb dX12_feed_16 rfl (lv_at hl 0 rfl) ?_
  refine k_get (q0 := 0) (ci := 10) (C := RX12) (T := TX12) (N := 14) (x := .ref tstape_o) X inx_12 hw rfl rfl 0 (by decide) rfl tw_508 rfl dX12_feed_17 ?_
  refine lv_lload hx hb dX12_feed_20 (lv_at hl 3 rfl) ?_
  obtain ⟨r22, hc_22, hf⟩ := bd_some hf
  refine k_V (As := [.long (x5)]) (rest := []) (index := 83) (C := RX10) X (c_X10_addBytes hc_22) tw_555 tw_556 tw_557 tw_120 tw_558 ⟨rfl, rfl⟩ hd_X10_addBytes ⟨Nat.le_of_ble_eq_true rfl, Nat.le_of_ble_eq_true rfl⟩ ⟨Nat.zero_le _, Nat.zero_le _⟩ hw [2, 3] rfl rfl 2 rfl rfl rfl rfl hl.1 rfl (Nat.le_of_ble_eq_true rfl) dX12_feed_22 (fun H locs hw => ?_)
  have hw : Wd E A s.heap (wX12 E t_o t_q (.ref tstape_o) t_reader t_counsel t_now t_trial t_past t_reports t_marks t_city t_spareCity t_script t_spareScript t_firstRefused t_firstKept ++ (wX10 E tstape_o tstape_q r22.1 r22.2 tstape_place tstape_behind tstape_kind tstape_value tstape_letters tstape_word)) H locs := hw
  refine lv_aload_n hx hb dX12_feed_25 rfl (lv_at hl 0 rfl) ?_
  refine k_get (q0 := 0) (ci := 10) (C := RX12) (T := TX12) (N := 14) (x := .ref tstape_o) X inx_12 hw rfl rfl 0 (by decide) rfl tw_508 rfl dX12_feed_26 ?_
  refine k_getN (q0 := 2) (ci := 9) (C := RX10) (T := TX10) (N := 8) (host := "PloughCall") (x := .int (r22.2)) X inx_10 hw rfl rfl 1 (by decide) rfl nw_1 rfl dX12_feed_29 ?_
  obtain rfl := Option.some.inj hf
  exact k_iret X hw dX12_feed_32
/-! public int man(int, int); -/
def f_X12_man (tscity_men : Int32) (tscity_consuls : Int32) (tscity_kinds : (Nat → Int32)) (tscity_skills : (Nat → Int32)) (tscity_wants : (Nat → Int32)) (tsnow_fields : (Nat → Int32)) (tsnow_liked : (Nat → Int32)) (x1 : Int32) (x2 : Int32) : Int32 := if (f_X1_hasMan tscity_men (x1)) = (0 : Int32) then ((-2 : Int32))
  else if x2 = (0 : Int32) then ((ga (6) tscity_kinds (x1)))
  else if x2 = (1 : Int32) then ((ga (6) tscity_skills (x1)))
  else if x2 = (2 : Int32) then ((ga (6) tscity_wants (x1)))
  else if x2 = (3 : Int32) then ((ga (6) tsnow_fields (x1)))
  else if x2 = (4 : Int32) then ((ga (6) tsnow_liked (x1)))
  else if x2 = (5 : Int32) then if (f_X1_isConsul tscity_men tscity_consuls (x1)) = (0 : Int32) then ((0 : Int32))
    else ((1 : Int32))
  else ((-2 : Int32))
abbrev rm_X12_man : Room := { frames := 2, cells := 0, slots := 0, locals := 42 }
theorem hd_X12_man : yX12_man.cls = RX12 ∧ yX12_man.cls ≠ "java/lang/invoke/MethodHandle" ∧ yX12_man.cls ≠ "java/lang/invoke/VarHandle" ∧ (parseMethodDescriptor yX12_man.desc).map (fun d => d.parameters.length) = some 2 := by decide +kernel
set_option maxRecDepth 100000 in
set_option maxHeartbeats 4000000 in
theorem c_X12_man {E : En} {l : Launch} {t_o : Nat} {t_q : Nat → Nat} {t_tape : Value} {t_reader : Value} {t_counsel : Value} {t_trial : Value} {t_past : Value} {t_reports : Value} {t_marks : (Nat → Option Nat)} {t_spareCity : Value} {t_script : Value} {t_spareScript : Value} {t_firstRefused : Int32} {t_firstKept : Int32} {tscity_o : Nat} {tscity_q : Nat → Nat} {tscity_men : Int32} {tscity_consuls : Int32} {tscity_dangers : Int32} {tscity_decrees : Int32} {tscity_term : Int32} {tscity_termTold : Int32} {tscity_manNames : (Nat → Int64)} {tscity_kinds : (Nat → Int32)} {tscity_skills : (Nat → Int32)} {tscity_fields : (Nat → Int32)} {tscity_wants : (Nat → Int32)} {tscity_hated : (Nat → Int32)} {tscity_dangerNames : (Nat → Int64)} {tscity_sizes : (Nat → Int32)} {tscity_grows : (Nat → Int32)} {tscity_decreeNames : (Nat → Int64)} {tscity_grounds : (Nat → Int32)} {tscity_laws : Value} {tsnow_o : Nat} {tsnow_q : Nat → Nat} {tsnow_month : Int32} {tsnow_power : Int32} {tsnow_master : Int32} {tsnow_left : Int32} {tsnow_kept : Int32} {tsnow_passed : Int32} {tsnow_sizes : (Nat → Int32)} {tsnow_fields : (Nat → Int32)} {tsnow_liked : (Nat → Int32)} {x1 : Int32} {x2 : Int32} {out : Int32} (hf : f_X12_man tscity_men tscity_consuls tscity_kinds tscity_skills tscity_wants tsnow_fields tsnow_liked x1 x2 = out) : Cn E l yX12_man cX12_man 3 (some .int) rm_X12_man [.ref t_o, .int (x1), .int (x2)] (wX12 E t_o t_q t_tape t_reader t_counsel (.ref tsnow_o) t_trial t_past t_reports t_marks (.ref tscity_o) t_spareCity t_script t_spareScript t_firstRefused t_firstKept ++ (wX1 E tscity_o tscity_q tscity_men tscity_consuls tscity_dangers tscity_decrees tscity_term tscity_termTold tscity_manNames tscity_kinds tscity_skills tscity_fields tscity_wants tscity_hated tscity_dangerNames tscity_sizes tscity_grows tscity_decreeNames tscity_grounds tscity_laws ++ (wX9 E tsnow_o tsnow_q tsnow_month tsnow_power tsnow_master tsnow_left tsnow_kept tsnow_passed tsnow_sizes tsnow_fields tsnow_liked))) (some (.int out)) (wX12 E t_o t_q t_tape t_reader t_counsel (.ref tsnow_o) t_trial t_past t_reports t_marks (.ref tscity_o) t_spareCity t_script t_spareScript t_firstRefused t_firstKept ++ (wX1 E tscity_o tscity_q tscity_men tscity_consuls tscity_dangers tscity_decrees tscity_term tscity_termTold tscity_manNames tscity_kinds tscity_skills tscity_fields tscity_wants tscity_hated tscity_dangerNames tscity_sizes tscity_grows tscity_decreeNames tscity_grounds tscity_laws ++ (wX9 E tsnow_o tsnow_q tsnow_month tsnow_power tsnow_master tsnow_left tsnow_kept tsnow_passed tsnow_sizes tsnow_fields tsnow_liked))) := by
  refine Cn.of (by decide) (Nat.le_of_ble_eq_true rfl) rfl ?_
  intro p e s m below meth c A ls args H locs X hw hl
  have hx := X.1.1
  have hb := X.1.2.1
  have ho := X.1.2.2.2.1
  have hts := X.1.2.2.2.2
  have hl : lv_has ls 3 [(0, .ref t_o), (1, .int (x1)), (2, .int (x2))] := hl
  unfold f_X12_man at hf
  refine lv_aload_n hx hb dX12_man_0 rfl (lv_at hl 0 rfl) ?_
  refine k_get (q0 := 0) (ci := 10) (C := RX12) (T := TX12) (N := 14) (x := .ref tscity_o) X inx_12 hw rfl rfl 8 (by decide) rfl tw_516 rfl dX12_man_1 ?_
  refine lv_iload_n hx hb dX12_man_4 rfl (lv_at hl 1 rfl) ?_
  refine k_V (As := [.int (x1)]) (rest := []) (index := 120) (C := RX1) X (c_X1_hasMan (out := (f_X1_hasMan tscity_men (x1))) rfl) tw_876 tw_717 tw_718 tw_126 tw_719 ⟨rfl, rfl⟩ hd_X1_hasMan ⟨Nat.le_of_ble_eq_true rfl, Nat.le_of_ble_eq_true rfl⟩ ⟨Nat.zero_le _, Nat.zero_le _⟩ hw [2, 3, 4, 5, 6, 7, 8, 9, 10, 11, 12, 13] rfl rfl 2 rfl rfl rfl rfl hl.1 rfl (Nat.le_of_ble_eq_true rfl) dX12_man_5 (fun H locs hw => ?_)
  have hw : Wd E A s.heap (wX12 E t_o t_q t_tape t_reader t_counsel (.ref tsnow_o) t_trial t_past t_reports t_marks (.ref tscity_o) t_spareCity t_script t_spareScript t_firstRefused t_firstKept ++ (wX1 E tscity_o tscity_q tscity_men tscity_consuls tscity_dangers tscity_decrees tscity_term tscity_termTold tscity_manNames tscity_kinds tscity_skills tscity_fields tscity_wants tscity_hated tscity_dangerNames tscity_sizes tscity_grows tscity_decreeNames tscity_grounds tscity_laws ++ (wX9 E tsnow_o tsnow_q tsnow_month tsnow_power tsnow_master tsnow_left tsnow_kept tsnow_passed tsnow_sizes tsnow_fields tsnow_liked))) H locs := hw
  refine lv_if_ne (tgt := 14) hx hb dX12_man_8 (by decide) (fun c_8 => ?_) (fun c_8 => ?_)
  · have hf := (if_neg c_8).symm.trans hf
    refine lv_iload_n hx hb dX12_man_14 rfl (lv_at hl 2 rfl) ?_
    by_cases c_15_0 : x2 = (0 : Int32)
    · have hf := (if_pos c_15_0).symm.trans hf
      refine lv_tableIn (tgt := 52) hx hb dX12_man_15 (by rw [c_15_0]; decide) (by rw [c_15_0]; decide) (by rw [c_15_0]; rfl) (by decide) ?_
      refine lv_aload_n hx hb dX12_man_52 rfl (lv_at hl 0 rfl) ?_
      refine k_get (q0 := 0) (ci := 10) (C := RX12) (T := TX12) (N := 14) (x := .ref tscity_o) X inx_12 hw rfl rfl 8 (by decide) rfl tw_516 rfl dX12_man_53 ?_
      refine k_getN (q0 := 2) (ci := 0) (C := RX1) (T := TX1) (N := 18) (host := "PloughCall") (x := .ref (tscity_q 7)) X inx_1 hw rfl rfl 7 (by decide) rfl nw_49 rfl dX12_man_56 ?_
      refine lv_iload_n hx hb dX12_man_59 rfl (lv_at hl 1 rfl) ?_
      refine k_S (As := [.ref (tscity_q 7), .int (x1)]) (rest := []) (index := 128) X (ct_X12_at (out := (ga (6) tscity_kinds (x1))) rfl) tw_877 tw_591 tw_119 tw_592 ⟨rfl, rfl⟩ hd_X12_at ⟨Nat.le_of_ble_eq_true rfl, Nat.le_of_ble_eq_true rfl⟩ ⟨Nat.zero_le _, Nat.zero_le _⟩ hw [4] rfl rfl rfl hl.1 rfl (Nat.le_of_ble_eq_true rfl) dX12_man_60 (fun H locs hw => ?_)
      have hw : Wd E A s.heap (wX12 E t_o t_q t_tape t_reader t_counsel (.ref tsnow_o) t_trial t_past t_reports t_marks (.ref tscity_o) t_spareCity t_script t_spareScript t_firstRefused t_firstKept ++ (wX1 E tscity_o tscity_q tscity_men tscity_consuls tscity_dangers tscity_decrees tscity_term tscity_termTold tscity_manNames tscity_kinds tscity_skills tscity_fields tscity_wants tscity_hated tscity_dangerNames tscity_sizes tscity_grows tscity_decreeNames tscity_grounds tscity_laws ++ (wX9 E tsnow_o tsnow_q tsnow_month tsnow_power tsnow_master tsnow_left tsnow_kept tsnow_passed tsnow_sizes tsnow_fields tsnow_liked))) H locs := hw
      subst hf
      exact k_iret X hw dX12_man_63
    have hf := (if_neg c_15_0).symm.trans hf
    by_cases c_15_1 : x2 = (1 : Int32)
    · have hf := (if_pos c_15_1).symm.trans hf
      refine lv_tableIn (tgt := 64) hx hb dX12_man_15 (by rw [c_15_1]; decide) (by rw [c_15_1]; decide) (by rw [c_15_1]; rfl) (by decide) ?_
      refine lv_aload_n hx hb dX12_man_64 rfl (lv_at hl 0 rfl) ?_
      refine k_get (q0 := 0) (ci := 10) (C := RX12) (T := TX12) (N := 14) (x := .ref tscity_o) X inx_12 hw rfl rfl 8 (by decide) rfl tw_516 rfl dX12_man_65 ?_
      refine k_getN (q0 := 2) (ci := 0) (C := RX1) (T := TX1) (N := 18) (host := "PloughCall") (x := .ref (tscity_q 8)) X inx_1 hw rfl rfl 8 (by decide) rfl nw_51 rfl dX12_man_68 ?_
      refine lv_iload_n hx hb dX12_man_71 rfl (lv_at hl 1 rfl) ?_
      refine k_S (As := [.ref (tscity_q 8), .int (x1)]) (rest := []) (index := 128) X (ct_X12_at (out := (ga (6) tscity_skills (x1))) rfl) tw_877 tw_591 tw_119 tw_592 ⟨rfl, rfl⟩ hd_X12_at ⟨Nat.le_of_ble_eq_true rfl, Nat.le_of_ble_eq_true rfl⟩ ⟨Nat.zero_le _, Nat.zero_le _⟩ hw [5] rfl rfl rfl hl.1 rfl (Nat.le_of_ble_eq_true rfl) dX12_man_72 (fun H locs hw => ?_)
      have hw : Wd E A s.heap (wX12 E t_o t_q t_tape t_reader t_counsel (.ref tsnow_o) t_trial t_past t_reports t_marks (.ref tscity_o) t_spareCity t_script t_spareScript t_firstRefused t_firstKept ++ (wX1 E tscity_o tscity_q tscity_men tscity_consuls tscity_dangers tscity_decrees tscity_term tscity_termTold tscity_manNames tscity_kinds tscity_skills tscity_fields tscity_wants tscity_hated tscity_dangerNames tscity_sizes tscity_grows tscity_decreeNames tscity_grounds tscity_laws ++ (wX9 E tsnow_o tsnow_q tsnow_month tsnow_power tsnow_master tsnow_left tsnow_kept tsnow_passed tsnow_sizes tsnow_fields tsnow_liked))) H locs := hw
      subst hf
      exact k_iret X hw dX12_man_75
    have hf := (if_neg c_15_1).symm.trans hf
    by_cases c_15_2 : x2 = (2 : Int32)
    · have hf := (if_pos c_15_2).symm.trans hf
      refine lv_tableIn (tgt := 76) hx hb dX12_man_15 (by rw [c_15_2]; decide) (by rw [c_15_2]; decide) (by rw [c_15_2]; rfl) (by decide) ?_
      refine lv_aload_n hx hb dX12_man_76 rfl (lv_at hl 0 rfl) ?_
      refine k_get (q0 := 0) (ci := 10) (C := RX12) (T := TX12) (N := 14) (x := .ref tscity_o) X inx_12 hw rfl rfl 8 (by decide) rfl tw_516 rfl dX12_man_77 ?_
      refine k_getN (q0 := 2) (ci := 0) (C := RX1) (T := TX1) (N := 18) (host := "PloughCall") (x := .ref (tscity_q 10)) X inx_1 hw rfl rfl 10 (by decide) rfl nw_54 rfl dX12_man_80 ?_
      refine lv_iload_n hx hb dX12_man_83 rfl (lv_at hl 1 rfl) ?_
      refine k_S (As := [.ref (tscity_q 10), .int (x1)]) (rest := []) (index := 128) X (ct_X12_at (out := (ga (6) tscity_wants (x1))) rfl) tw_877 tw_591 tw_119 tw_592 ⟨rfl, rfl⟩ hd_X12_at ⟨Nat.le_of_ble_eq_true rfl, Nat.le_of_ble_eq_true rfl⟩ ⟨Nat.zero_le _, Nat.zero_le _⟩ hw [7] rfl rfl rfl hl.1 rfl (Nat.le_of_ble_eq_true rfl) dX12_man_84 (fun H locs hw => ?_)
      have hw : Wd E A s.heap (wX12 E t_o t_q t_tape t_reader t_counsel (.ref tsnow_o) t_trial t_past t_reports t_marks (.ref tscity_o) t_spareCity t_script t_spareScript t_firstRefused t_firstKept ++ (wX1 E tscity_o tscity_q tscity_men tscity_consuls tscity_dangers tscity_decrees tscity_term tscity_termTold tscity_manNames tscity_kinds tscity_skills tscity_fields tscity_wants tscity_hated tscity_dangerNames tscity_sizes tscity_grows tscity_decreeNames tscity_grounds tscity_laws ++ (wX9 E tsnow_o tsnow_q tsnow_month tsnow_power tsnow_master tsnow_left tsnow_kept tsnow_passed tsnow_sizes tsnow_fields tsnow_liked))) H locs := hw
      subst hf
      exact k_iret X hw dX12_man_87
    have hf := (if_neg c_15_2).symm.trans hf
    by_cases c_15_3 : x2 = (3 : Int32)
    · have hf := (if_pos c_15_3).symm.trans hf
      refine lv_tableIn (tgt := 88) hx hb dX12_man_15 (by rw [c_15_3]; decide) (by rw [c_15_3]; decide) (by rw [c_15_3]; rfl) (by decide) ?_
      refine lv_aload_n hx hb dX12_man_88 rfl (lv_at hl 0 rfl) ?_
      refine k_get (q0 := 0) (ci := 10) (C := RX12) (T := TX12) (N := 14) (x := .ref tsnow_o) X inx_12 hw rfl rfl 3 (by decide) rfl tw_511 rfl dX12_man_89 ?_
      refine k_getN (q0 := 14) (ci := 8) (C := RX9) (T := TX9) (N := 9) (host := "PloughCall") (x := .ref (tsnow_q 7)) X inx_9 hw rfl rfl 7 (by decide) rfl nw_18 rfl dX12_man_92 ?_
      refine lv_iload_n hx hb dX12_man_95 rfl (lv_at hl 1 rfl) ?_
      refine k_S (As := [.ref (tsnow_q 7), .int (x1)]) (rest := []) (index := 128) X (ct_X12_at (out := (ga (6) tsnow_fields (x1))) rfl) tw_877 tw_591 tw_119 tw_592 ⟨rfl, rfl⟩ hd_X12_at ⟨Nat.le_of_ble_eq_true rfl, Nat.le_of_ble_eq_true rfl⟩ ⟨Nat.zero_le _, Nat.zero_le _⟩ hw [16] rfl rfl rfl hl.1 rfl (Nat.le_of_ble_eq_true rfl) dX12_man_96 (fun H locs hw => ?_)
      have hw : Wd E A s.heap (wX12 E t_o t_q t_tape t_reader t_counsel (.ref tsnow_o) t_trial t_past t_reports t_marks (.ref tscity_o) t_spareCity t_script t_spareScript t_firstRefused t_firstKept ++ (wX1 E tscity_o tscity_q tscity_men tscity_consuls tscity_dangers tscity_decrees tscity_term tscity_termTold tscity_manNames tscity_kinds tscity_skills tscity_fields tscity_wants tscity_hated tscity_dangerNames tscity_sizes tscity_grows tscity_decreeNames tscity_grounds tscity_laws ++ (wX9 E tsnow_o tsnow_q tsnow_month tsnow_power tsnow_master tsnow_left tsnow_kept tsnow_passed tsnow_sizes tsnow_fields tsnow_liked))) H locs := hw
      subst hf
      exact k_iret X hw dX12_man_99
    have hf := (if_neg c_15_3).symm.trans hf
    by_cases c_15_4 : x2 = (4 : Int32)
    · have hf := (if_pos c_15_4).symm.trans hf
      refine lv_tableIn (tgt := 100) hx hb dX12_man_15 (by rw [c_15_4]; decide) (by rw [c_15_4]; decide) (by rw [c_15_4]; rfl) (by decide) ?_
      refine lv_aload_n hx hb dX12_man_100 rfl (lv_at hl 0 rfl) ?_
      refine k_get (q0 := 0) (ci := 10) (C := RX12) (T := TX12) (N := 14) (x := .ref tsnow_o) X inx_12 hw rfl rfl 3 (by decide) rfl tw_511 rfl dX12_man_101 ?_
      refine k_getN (q0 := 14) (ci := 8) (C := RX9) (T := TX9) (N := 9) (host := "PloughCall") (x := .ref (tsnow_q 8)) X inx_9 hw rfl rfl 8 (by decide) rfl nw_19 rfl dX12_man_104 ?_
      refine lv_iload_n hx hb dX12_man_107 rfl (lv_at hl 1 rfl) ?_
      refine k_S (As := [.ref (tsnow_q 8), .int (x1)]) (rest := []) (index := 128) X (ct_X12_at (out := (ga (6) tsnow_liked (x1))) rfl) tw_877 tw_591 tw_119 tw_592 ⟨rfl, rfl⟩ hd_X12_at ⟨Nat.le_of_ble_eq_true rfl, Nat.le_of_ble_eq_true rfl⟩ ⟨Nat.zero_le _, Nat.zero_le _⟩ hw [17] rfl rfl rfl hl.1 rfl (Nat.le_of_ble_eq_true rfl) dX12_man_108 (fun H locs hw => ?_)
      have hw : Wd E A s.heap (wX12 E t_o t_q t_tape t_reader t_counsel (.ref tsnow_o) t_trial t_past t_reports t_marks (.ref tscity_o) t_spareCity t_script t_spareScript t_firstRefused t_firstKept ++ (wX1 E tscity_o tscity_q tscity_men tscity_consuls tscity_dangers tscity_decrees tscity_term tscity_termTold tscity_manNames tscity_kinds tscity_skills tscity_fields tscity_wants tscity_hated tscity_dangerNames tscity_sizes tscity_grows tscity_decreeNames tscity_grounds tscity_laws ++ (wX9 E tsnow_o tsnow_q tsnow_month tsnow_power tsnow_master tsnow_left tsnow_kept tsnow_passed tsnow_sizes tsnow_fields tsnow_liked))) H locs := hw
      subst hf
      exact k_iret X hw dX12_man_111
    have hf := (if_neg c_15_4).symm.trans hf
    by_cases c_15_5 : x2 = (5 : Int32)
    · have hf := (if_pos c_15_5).symm.trans hf
      refine lv_tableIn (tgt := 112) hx hb dX12_man_15 (by rw [c_15_5]; decide) (by rw [c_15_5]; decide) (by rw [c_15_5]; rfl) (by decide) ?_
      refine lv_aload_n hx hb dX12_man_112 rfl (lv_at hl 0 rfl) ?_
      refine k_get (q0 := 0) (ci := 10) (C := RX12) (T := TX12) (N := 14) (x := .ref tscity_o) X inx_12 hw rfl rfl 8 (by decide) rfl tw_516 rfl dX12_man_113 ?_
      refine lv_iload_n hx hb dX12_man_116 rfl (lv_at hl 1 rfl) ?_
      refine k_V (As := [.int (x1)]) (rest := []) (index := 144) (C := RX1) X (c_X1_isConsul (out := (f_X1_isConsul tscity_men tscity_consuls (x1))) rfl) tw_878 tw_713 tw_714 tw_126 tw_715 ⟨rfl, rfl⟩ hd_X1_isConsul ⟨Nat.le_of_ble_eq_true rfl, Nat.le_of_ble_eq_true rfl⟩ ⟨Nat.zero_le _, Nat.zero_le _⟩ hw [2, 3, 4, 5, 6, 7, 8, 9, 10, 11, 12, 13] rfl rfl 2 rfl rfl rfl rfl hl.1 rfl (Nat.le_of_ble_eq_true rfl) dX12_man_117 (fun H locs hw => ?_)
      have hw : Wd E A s.heap (wX12 E t_o t_q t_tape t_reader t_counsel (.ref tsnow_o) t_trial t_past t_reports t_marks (.ref tscity_o) t_spareCity t_script t_spareScript t_firstRefused t_firstKept ++ (wX1 E tscity_o tscity_q tscity_men tscity_consuls tscity_dangers tscity_decrees tscity_term tscity_termTold tscity_manNames tscity_kinds tscity_skills tscity_fields tscity_wants tscity_hated tscity_dangerNames tscity_sizes tscity_grows tscity_decreeNames tscity_grounds tscity_laws ++ (wX9 E tsnow_o tsnow_q tsnow_month tsnow_power tsnow_master tsnow_left tsnow_kept tsnow_passed tsnow_sizes tsnow_fields tsnow_liked))) H locs := hw
      refine lv_if_eq (tgt := 127) hx hb dX12_man_120 (by decide) (fun c_120 => ?_) (fun c_120 => ?_)
      · have hf := (if_pos c_120).symm.trans hf
        refine lv_iconst (v := (0 : Int32)) hx hb dX12_man_127 (by decide) ?_
        subst hf
        exact k_iret X hw dX12_man_128
      · have hf := (if_neg c_120).symm.trans hf
        refine lv_iconst (v := (1 : Int32)) hx hb dX12_man_123 (by decide) ?_
        refine lv_goto (tgt := 128) hx hb dX12_man_124 (by decide) ?_
        subst hf
        exact k_iret X hw dX12_man_128
    have hf := (if_neg c_15_5).symm.trans hf
    have nc_15_0 : (x2).toInt ≠ 0 := fun h => c_15_0 (Int32.toInt_inj.mp (h.trans (by decide)))
    have nc_15_1 : (x2).toInt ≠ 1 := fun h => c_15_1 (Int32.toInt_inj.mp (h.trans (by decide)))
    have nc_15_2 : (x2).toInt ≠ 2 := fun h => c_15_2 (Int32.toInt_inj.mp (h.trans (by decide)))
    have nc_15_3 : (x2).toInt ≠ 3 := fun h => c_15_3 (Int32.toInt_inj.mp (h.trans (by decide)))
    have nc_15_4 : (x2).toInt ≠ 4 := fun h => c_15_4 (Int32.toInt_inj.mp (h.trans (by decide)))
    have nc_15_5 : (x2).toInt ≠ 5 := fun h => c_15_5 (Int32.toInt_inj.mp (h.trans (by decide)))
    refine lv_tableOut (tgt := 129) hx hb dX12_man_15 (by omega) (by decide) ?_
    refine lv_bipush (v := (-2 : Int32)) hx hb dX12_man_129 (by decide) ?_
    subst hf
    exact k_iret X hw dX12_man_131
  · have hf := (if_pos c_8).symm.trans hf
    refine lv_bipush (v := (-2 : Int32)) hx hb dX12_man_11 (by decide) ?_
    subst hf
    exact k_iret X hw dX12_man_13
