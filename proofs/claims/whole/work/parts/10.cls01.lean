/-! private int kindSpelt(); -/
def f_X6_kindSpelt (tstape_word : (Option Nat)) : Option (Int32) := eg (tstape_word) (if tstape_word = (some 19) then some ((0 : Int32))
  else eg (tstape_word) (if tstape_word = (some 20) then some ((1 : Int32))
  else eg (tstape_word) (if tstape_word = (some 21) then some ((2 : Int32))
  else eg (tstape_word) (if tstape_word = (some 22) then some ((3 : Int32))
  else some ((-1 : Int32))))))
abbrev rm_X6_kindSpelt : Room := { frames := 0, cells := 0, slots := 0, locals := 0 }
theorem hd_X6_kindSpelt : yX6_kindSpelt.cls = RX6 ∧ yX6_kindSpelt.cls ≠ "java/lang/invoke/MethodHandle" ∧ yX6_kindSpelt.cls ≠ "java/lang/invoke/VarHandle" ∧ (parseMethodDescriptor yX6_kindSpelt.desc).map (fun d => d.parameters.length) = some 0 := by decide +kernel
set_option maxRecDepth 100000 in
set_option maxHeartbeats 4000000 in
theorem c_X6_kindSpelt {E : En} {l : Launch} {t_o : Nat} {t_city : Value} {t_script : Value} {t_fault : Int32} {tstape_o : Nat} {tstape_q : Nat → Nat} {tstape_signs : (Nat → Int32)} {tstape_length : Int32} {tstape_place : Int32} {tstape_behind : Int32} {tstape_kind : Int32} {tstape_value : Int32} {tstape_letters : Int64} {tstape_word : (Option Nat)}  {out : Int32} (hf : f_X6_kindSpelt tstape_word = some out) : Cn E l yX6_kindSpelt cX6_kindSpelt 2 (some .int) rm_X6_kindSpelt [.ref t_o] (wX6 E t_o (.ref tstape_o) t_city t_script t_fault ++ (wX10 E tstape_o tstape_q tstape_signs tstape_length tstape_place tstape_behind tstape_kind tstape_value tstape_letters tstape_word)) (some (.int out)) (wX6 E t_o (.ref tstape_o) t_city t_script t_fault ++ (wX10 E tstape_o tstape_q tstape_signs tstape_length tstape_place tstape_behind tstape_kind tstape_value tstape_letters tstape_word)) := by
  refine Cn.of (by decide) (Nat.le_of_ble_eq_true rfl) rfl ?_
  intro p e s m below meth c A ls args H locs X hw hl
  have hx := X.1.1
  have hb := X.1.2.1
  have ho := X.1.2.2.2.1
  have hts := X.1.2.2.2.2
  have hl : lv_has ls 2 [(0, .ref t_o)] := hl
  unfold f_X6_kindSpelt at hf
  refine lv_aload_n hx hb dX6_kindSpelt_0 rfl (lv_at hl 0 rfl) ?_
  refine k_get (q0 := 0) (ci := 5) (C := RX6) (T := TX6) (N := 4) (x := .ref tstape_o) X inx_6 hw rfl rfl 0 (by decide) rfl tw_192 rfl dX6_kindSpelt_1 ?_
  refine k_getN (q0 := 1) (ci := 9) (C := RX10) (T := TX10) (N := 8) (host := "PloughCall") (x := va_re E.2.2 (tstape_word)) X inx_10 hw rfl rfl 7 (by decide) rfl nw_6 rfl dX6_kindSpelt_4 ?_
  refine k_astore_nE (ad := E.2.2) (x := tstape_word) (lv' := [(1, va_re E.2.2 (tstape_word)), (0, .ref t_o)]) hx hb dX6_kindSpelt_7 rfl hl (by decide) rfl (fun ls hl => ?_)
  refine k_aload_nE (ad := E.2.2) (x := tstape_word) hx hb dX6_kindSpelt_8 rfl (lv_at hl 0 rfl) ?_
  refine k_const (i := 19) X hw (by decide) rfl tw_665 dX6_kindSpelt_9 ?_
  obtain ⟨hex_12, hf⟩ := eg_some hf
  refine k_acmp_ne (x := tstape_word) (z := (some 19)) (tgt := 17) X hex_12 rfl dX6_kindSpelt_12 (by decide) (fun c_12 => ?_) (fun c_12 => ?_)
  · have hf := (if_neg c_12).symm.trans hf
    refine k_aload_nE (ad := E.2.2) (x := tstape_word) hx hb dX6_kindSpelt_17 rfl (lv_at hl 0 rfl) ?_
    refine k_const (i := 20) X hw (by decide) rfl tw_667 dX6_kindSpelt_18 ?_
    obtain ⟨hex_21, hf⟩ := eg_some hf
    refine k_acmp_ne (x := tstape_word) (z := (some 20)) (tgt := 26) X hex_21 rfl dX6_kindSpelt_21 (by decide) (fun c_21 => ?_) (fun c_21 => ?_)
    · have hf := (if_neg c_21).symm.trans hf
      refine k_aload_nE (ad := E.2.2) (x := tstape_word) hx hb dX6_kindSpelt_26 rfl (lv_at hl 0 rfl) ?_
      refine k_const (i := 21) X hw (by decide) rfl tw_669 dX6_kindSpelt_27 ?_
      obtain ⟨hex_30, hf⟩ := eg_some hf
      refine k_acmp_ne (x := tstape_word) (z := (some 21)) (tgt := 35) X hex_30 rfl dX6_kindSpelt_30 (by decide) (fun c_30 => ?_) (fun c_30 => ?_)
      · have hf := (if_neg c_30).symm.trans hf
        refine k_aload_nE (ad := E.2.2) (x := tstape_word) hx hb dX6_kindSpelt_35 rfl (lv_at hl 0 rfl) ?_
        refine k_const (i := 22) X hw (by decide) rfl tw_671 dX6_kindSpelt_36 ?_
        obtain ⟨hex_39, hf⟩ := eg_some hf
        refine k_acmp_ne (x := tstape_word) (z := (some 22)) (tgt := 46) X hex_39 rfl dX6_kindSpelt_39 (by decide) (fun c_39 => ?_) (fun c_39 => ?_)
        · have hf := (if_neg c_39).symm.trans hf
          refine lv_iconst (v := (-1 : Int32)) hx hb dX6_kindSpelt_46 (by decide) ?_
          obtain rfl := Option.some.inj hf
          exact k_iret X hw dX6_kindSpelt_47
        · have hf := (if_pos c_39).symm.trans hf
          refine lv_iconst (v := (3 : Int32)) hx hb dX6_kindSpelt_42 (by decide) ?_
          refine lv_goto (tgt := 47) hx hb dX6_kindSpelt_43 (by decide) ?_
          obtain rfl := Option.some.inj hf
          exact k_iret X hw dX6_kindSpelt_47
      · have hf := (if_pos c_30).symm.trans hf
        refine lv_iconst (v := (2 : Int32)) hx hb dX6_kindSpelt_33 (by decide) ?_
        obtain rfl := Option.some.inj hf
        exact k_iret X hw dX6_kindSpelt_34
    · have hf := (if_pos c_21).symm.trans hf
      refine lv_iconst (v := (1 : Int32)) hx hb dX6_kindSpelt_24 (by decide) ?_
      obtain rfl := Option.some.inj hf
      exact k_iret X hw dX6_kindSpelt_25
  · have hf := (if_pos c_12).symm.trans hf
    refine lv_iconst (v := (0 : Int32)) hx hb dX6_kindSpelt_15 (by decide) ?_
    obtain rfl := Option.some.inj hf
    exact k_iret X hw dX6_kindSpelt_16
/-! private int lineSpelt(); -/
def f_X6_lineSpelt (tstape_word : (Option Nat)) : Option (Int32) := eg (tstape_word) (if tstape_word = (some 14) then some ((0 : Int32))
  else eg (tstape_word) (if tstape_word = (some 15) then some ((1 : Int32))
  else eg (tstape_word) (if tstape_word = (some 16) then some ((2 : Int32))
  else eg (tstape_word) (if tstape_word = (some 17) then some ((3 : Int32))
  else eg (tstape_word) (if tstape_word = (some 18) then some ((4 : Int32))
  else some ((-1 : Int32)))))))
abbrev rm_X6_lineSpelt : Room := { frames := 0, cells := 0, slots := 0, locals := 0 }
theorem hd_X6_lineSpelt : yX6_lineSpelt.cls = RX6 ∧ yX6_lineSpelt.cls ≠ "java/lang/invoke/MethodHandle" ∧ yX6_lineSpelt.cls ≠ "java/lang/invoke/VarHandle" ∧ (parseMethodDescriptor yX6_lineSpelt.desc).map (fun d => d.parameters.length) = some 0 := by decide +kernel
set_option maxRecDepth 100000 in
set_option maxHeartbeats 4000000 in
theorem c_X6_lineSpelt {E : En} {l : Launch} {t_o : Nat} {t_city : Value} {t_script : Value} {t_fault : Int32} {tstape_o : Nat} {tstape_q : Nat → Nat} {tstape_signs : (Nat → Int32)} {tstape_length : Int32} {tstape_place : Int32} {tstape_behind : Int32} {tstape_kind : Int32} {tstape_value : Int32} {tstape_letters : Int64} {tstape_word : (Option Nat)}  {out : Int32} (hf : f_X6_lineSpelt tstape_word = some out) : Cn E l yX6_lineSpelt cX6_lineSpelt 2 (some .int) rm_X6_lineSpelt [.ref t_o] (wX6 E t_o (.ref tstape_o) t_city t_script t_fault ++ (wX10 E tstape_o tstape_q tstape_signs tstape_length tstape_place tstape_behind tstape_kind tstape_value tstape_letters tstape_word)) (some (.int out)) (wX6 E t_o (.ref tstape_o) t_city t_script t_fault ++ (wX10 E tstape_o tstape_q tstape_signs tstape_length tstape_place tstape_behind tstape_kind tstape_value tstape_letters tstape_word)) := by
  refine Cn.of (by decide) (Nat.le_of_ble_eq_true rfl) rfl ?_
  intro p e s m below meth c A ls args H locs X hw hl
  have hx := X.1.1
  have hb := X.1.2.1
  have ho := X.1.2.2.2.1
  have hts := X.1.2.2.2.2
  have hl : lv_has ls 2 [(0, .ref t_o)] := hl
  unfold f_X6_lineSpelt at hf
  refine lv_aload_n hx hb dX6_lineSpelt_0 rfl (lv_at hl 0 rfl) ?_
  refine k_get (q0 := 0) (ci := 5) (C := RX6) (T := TX6) (N := 4) (x := .ref tstape_o) X inx_6 hw rfl rfl 0 (by decide) rfl tw_192 rfl dX6_lineSpelt_1 ?_
  refine k_getN (q0 := 1) (ci := 9) (C := RX10) (T := TX10) (N := 8) (host := "PloughCall") (x := va_re E.2.2 (tstape_word)) X inx_10 hw rfl rfl 7 (by decide) rfl nw_6 rfl dX6_lineSpelt_4 ?_
  refine k_astore_nE (ad := E.2.2) (x := tstape_word) (lv' := [(1, va_re E.2.2 (tstape_word)), (0, .ref t_o)]) hx hb dX6_lineSpelt_7 rfl hl (by decide) rfl (fun ls hl => ?_)
  refine k_aload_nE (ad := E.2.2) (x := tstape_word) hx hb dX6_lineSpelt_8 rfl (lv_at hl 0 rfl) ?_
  refine k_const (i := 14) X hw (by decide) rfl tw_857 dX6_lineSpelt_9 ?_
  obtain ⟨hex_12, hf⟩ := eg_some hf
  refine k_acmp_ne (x := tstape_word) (z := (some 14)) (tgt := 17) X hex_12 rfl dX6_lineSpelt_12 (by decide) (fun c_12 => ?_) (fun c_12 => ?_)
  · have hf := (if_neg c_12).symm.trans hf
    refine k_aload_nE (ad := E.2.2) (x := tstape_word) hx hb dX6_lineSpelt_17 rfl (lv_at hl 0 rfl) ?_
    refine k_const (i := 15) X hw (by decide) rfl tw_859 dX6_lineSpelt_18 ?_
    obtain ⟨hex_21, hf⟩ := eg_some hf
    refine k_acmp_ne (x := tstape_word) (z := (some 15)) (tgt := 26) X hex_21 rfl dX6_lineSpelt_21 (by decide) (fun c_21 => ?_) (fun c_21 => ?_)
    · have hf := (if_neg c_21).symm.trans hf
      refine k_aload_nE (ad := E.2.2) (x := tstape_word) hx hb dX6_lineSpelt_26 rfl (lv_at hl 0 rfl) ?_
      refine k_const (i := 16) X hw (by decide) rfl tw_861 dX6_lineSpelt_27 ?_
      obtain ⟨hex_30, hf⟩ := eg_some hf
      refine k_acmp_ne (x := tstape_word) (z := (some 16)) (tgt := 35) X hex_30 rfl dX6_lineSpelt_30 (by decide) (fun c_30 => ?_) (fun c_30 => ?_)
      · have hf := (if_neg c_30).symm.trans hf
        refine k_aload_nE (ad := E.2.2) (x := tstape_word) hx hb dX6_lineSpelt_35 rfl (lv_at hl 0 rfl) ?_
        refine k_const (i := 17) X hw (by decide) rfl tw_863 dX6_lineSpelt_36 ?_
        obtain ⟨hex_39, hf⟩ := eg_some hf
        refine k_acmp_ne (x := tstape_word) (z := (some 17)) (tgt := 44) X hex_39 rfl dX6_lineSpelt_39 (by decide) (fun c_39 => ?_) (fun c_39 => ?_)
        · have hf := (if_neg c_39).symm.trans hf
          refine k_aload_nE (ad := E.2.2) (x := tstape_word) hx hb dX6_lineSpelt_44 rfl (lv_at hl 0 rfl) ?_
          refine k_const (i := 18) X hw (by decide) rfl tw_865 dX6_lineSpelt_45 ?_
          obtain ⟨hex_48, hf⟩ := eg_some hf
          refine k_acmp_ne (x := tstape_word) (z := (some 18)) (tgt := 55) X hex_48 rfl dX6_lineSpelt_48 (by decide) (fun c_48 => ?_) (fun c_48 => ?_)
          · have hf := (if_neg c_48).symm.trans hf
            refine lv_iconst (v := (-1 : Int32)) hx hb dX6_lineSpelt_55 (by decide) ?_
            obtain rfl := Option.some.inj hf
            exact k_iret X hw dX6_lineSpelt_56
          · have hf := (if_pos c_48).symm.trans hf
            refine lv_iconst (v := (4 : Int32)) hx hb dX6_lineSpelt_51 (by decide) ?_
            refine lv_goto (tgt := 56) hx hb dX6_lineSpelt_52 (by decide) ?_
            obtain rfl := Option.some.inj hf
            exact k_iret X hw dX6_lineSpelt_56
        · have hf := (if_pos c_39).symm.trans hf
          refine lv_iconst (v := (3 : Int32)) hx hb dX6_lineSpelt_42 (by decide) ?_
          obtain rfl := Option.some.inj hf
          exact k_iret X hw dX6_lineSpelt_43
      · have hf := (if_pos c_30).symm.trans hf
        refine lv_iconst (v := (2 : Int32)) hx hb dX6_lineSpelt_33 (by decide) ?_
        obtain rfl := Option.some.inj hf
        exact k_iret X hw dX6_lineSpelt_34
    · have hf := (if_pos c_21).symm.trans hf
      refine lv_iconst (v := (1 : Int32)) hx hb dX6_lineSpelt_24 (by decide) ?_
      obtain rfl := Option.some.inj hf
      exact k_iret X hw dX6_lineSpelt_25
  · have hf := (if_pos c_12).symm.trans hf
    refine lv_iconst (v := (0 : Int32)) hx hb dX6_lineSpelt_15 (by decide) ?_
    obtain rfl := Option.some.inj hf
    exact k_iret X hw dX6_lineSpelt_16
/-! private int factSpelt(boolean); -/
def f_X6_factSpelt_69 (s0 : (Option Nat)) (s1 : (Option Nat)) : Option (Int32) := eg (s0) (eg (s1) (if s0 = s1 then some ((-4 : Int32))
  else some ((0 : Int32))))
def f_X6_factSpelt_51 (x1 : Int32) (x2 : (Option Nat)) : Option (Int32) := if x2 = none then some ((0 : Int32))
  else if x1 = (0 : Int32) then f_X6_factSpelt_69 x2 ((some 29))
  else f_X6_factSpelt_69 x2 ((some 31))
def f_X6_factSpelt_45 (x1 : Int32) (x2 : (Option Nat)) (s0 : (Option Nat)) (s1 : (Option Nat)) : Option (Int32) := eg (s0) (eg (s1) (if s0 = s1 then some ((-3 : Int32))
  else f_X6_factSpelt_51 x1 x2))
def f_X6_factSpelt (tstape_word : (Option Nat)) (x1 : Int32) : Option (Int32) := eg (tstape_word) (if tstape_word = (some 26) then some ((-1 : Int32))
  else eg (tstape_word) (if tstape_word = (some 27) then some ((-2 : Int32))
  else if tstape_word = none then f_X6_factSpelt_51 x1 tstape_word
  else if x1 = (0 : Int32) then f_X6_factSpelt_45 x1 tstape_word tstape_word ((some 28))
  else f_X6_factSpelt_45 x1 tstape_word tstape_word ((some 30))))
abbrev rm_X6_factSpelt : Room := { frames := 0, cells := 0, slots := 0, locals := 0 }
theorem hd_X6_factSpelt : yX6_factSpelt.cls = RX6 ∧ yX6_factSpelt.cls ≠ "java/lang/invoke/MethodHandle" ∧ yX6_factSpelt.cls ≠ "java/lang/invoke/VarHandle" ∧ (parseMethodDescriptor yX6_factSpelt.desc).map (fun d => d.parameters.length) = some 1 := by decide +kernel
set_option maxRecDepth 100000 in
set_option maxHeartbeats 4000000 in
theorem kb_X6_factSpelt_69 {E : En} {p : Program} {l : Launch} {e : Env} {s : State} {m : MethodId} {args : Array Value} {below : List Frame} {meth : Method} {c : Code} {A : Nat → Prop} {t_o : Nat} {t_city : Value} {t_script : Value} {t_fault : Int32} {tstape_o : Nat} {tstape_q : Nat → Nat} {tstape_signs : (Nat → Int32)} {tstape_length : Int32} {tstape_place : Int32} {tstape_behind : Int32} {tstape_kind : Int32} {tstape_value : Int32} {tstape_letters : Int64} {tstape_word : (Option Nat)} {out : Int32} (X : Bx E A p s m args meth c cX6_factSpelt 3 RX6 (some .int)) {s0 : (Option Nat)} {s1 : (Option Nat)} {H : Heap} {locs : List Loc} {ls : Array Slot} (hf : f_X6_factSpelt_69 s0 s1 = some out) : Wd E A s.heap (wX6 E t_o (.ref tstape_o) t_city t_script t_fault ++ (wX10 E tstape_o tstape_q tstape_signs tstape_length tstape_place tstape_behind tstape_kind tstape_value tstape_letters tstape_word)) H locs → lv_has ls 3 [] → W p l e rm_X6_factSpelt s m args below meth c H locs 0 0 (Zn E below args s A (some (.int out)) (wX6 E t_o (.ref tstape_o) t_city t_script t_fault ++ (wX10 E tstape_o tstape_q tstape_signs tstape_length tstape_place tstape_behind tstape_kind tstape_value tstape_letters tstape_word))) (F0 m 69 ls [va_re E.2.2 (s1), va_re E.2.2 (s0)]) := by
  have hx := X.1.1
  have hb := X.1.2.1
  have ho := X.1.2.2.2.1
  have hts := X.1.2.2.2.2
  intro hw hl
  unfold f_X6_factSpelt_69 at hf
  obtain ⟨hex_69, hf⟩ := eg_some hf
  obtain ⟨hez_69, hf⟩ := eg_some hf
  refine k_acmp_ne (x := s0) (z := s1) (tgt := 77) X hex_69 hez_69 dX6_factSpelt_69 (by decide) (fun c_69 => ?_) (fun c_69 => ?_)
  · have hf := (if_neg c_69).symm.trans hf
    refine lv_iconst (v := (0 : Int32)) hx hb dX6_factSpelt_77 (by decide) ?_
    obtain rfl := Option.some.inj hf
    exact k_iret X hw dX6_factSpelt_78
  · have hf := (if_pos c_69).symm.trans hf
    refine lv_bipush (v := (-4 : Int32)) hx hb dX6_factSpelt_72 (by decide) ?_
    refine lv_goto (tgt := 78) hx hb dX6_factSpelt_74 (by decide) ?_
    obtain rfl := Option.some.inj hf
    exact k_iret X hw dX6_factSpelt_78
set_option maxRecDepth 100000 in
set_option maxHeartbeats 4000000 in
theorem kb_X6_factSpelt_51 {E : En} {p : Program} {l : Launch} {e : Env} {s : State} {m : MethodId} {args : Array Value} {below : List Frame} {meth : Method} {c : Code} {A : Nat → Prop} {t_o : Nat} {t_city : Value} {t_script : Value} {t_fault : Int32} {tstape_o : Nat} {tstape_q : Nat → Nat} {tstape_signs : (Nat → Int32)} {tstape_length : Int32} {tstape_place : Int32} {tstape_behind : Int32} {tstape_kind : Int32} {tstape_value : Int32} {tstape_letters : Int64} {tstape_word : (Option Nat)} {out : Int32} (X : Bx E A p s m args meth c cX6_factSpelt 3 RX6 (some .int)) {x1 : Int32} {x2 : (Option Nat)} {H : Heap} {locs : List Loc} {ls : Array Slot} (hf : f_X6_factSpelt_51 x1 x2 = some out) : Wd E A s.heap (wX6 E t_o (.ref tstape_o) t_city t_script t_fault ++ (wX10 E tstape_o tstape_q tstape_signs tstape_length tstape_place tstape_behind tstape_kind tstape_value tstape_letters tstape_word)) H locs → lv_has ls 3 [(1, .int (x1)), (2, va_re E.2.2 (x2))] → W p l e rm_X6_factSpelt s m args below meth c H locs 0 0 (Zn E below args s A (some (.int out)) (wX6 E t_o (.ref tstape_o) t_city t_script t_fault ++ (wX10 E tstape_o tstape_q tstape_signs tstape_length tstape_place tstape_behind tstape_kind tstape_value tstape_letters tstape_word))) (F0 m 51 ls []) := by
  have hx := X.1.1
  have hb := X.1.2.1
  have ho := X.1.2.2.2.1
  have hts := X.1.2.2.2.2
  intro hw hl
  unfold f_X6_factSpelt_51 at hf
  refine k_aload_nE (ad := E.2.2) (x := x2) hx hb dX6_factSpelt_51 rfl (lv_at hl 1 rfl) ?_
  refine k_ifnullE (ad := E.2.2) (x := x2) (tgt := 77) hx hb dX6_factSpelt_52 (by decide) (fun c_52 => ?_) (fun c_52 => ?_)
  · have hf := (if_pos c_52).symm.trans hf
    refine lv_iconst (v := (0 : Int32)) hx hb dX6_factSpelt_77 (by decide) ?_
    obtain rfl := Option.some.inj hf
    exact k_iret X hw dX6_factSpelt_78
  · have hf := (if_neg c_52).symm.trans hf
    refine k_aload_nE (ad := E.2.2) (x := x2) hx hb dX6_factSpelt_55 rfl (lv_at hl 1 rfl) ?_
    refine lv_iload_n hx hb dX6_factSpelt_56 rfl (lv_at hl 0 rfl) ?_
    refine lv_if_eq (tgt := 66) hx hb dX6_factSpelt_57 (by decide) (fun c_57 => ?_) (fun c_57 => ?_)
    · have hf := (if_pos c_57).symm.trans hf
      refine k_const (i := 29) X hw (by decide) rfl tw_806 dX6_factSpelt_66 ?_
      exact kb_X6_factSpelt_69 X hf hw (lv_sub hl [] rfl)
    · have hf := (if_neg c_57).symm.trans hf
      refine k_const (i := 31) X hw (by decide) rfl tw_804 dX6_factSpelt_60 ?_
      refine lv_goto (tgt := 69) hx hb dX6_factSpelt_63 (by decide) ?_
      exact kb_X6_factSpelt_69 X hf hw (lv_sub hl [] rfl)
set_option maxRecDepth 100000 in
set_option maxHeartbeats 4000000 in
theorem kb_X6_factSpelt_45 {E : En} {p : Program} {l : Launch} {e : Env} {s : State} {m : MethodId} {args : Array Value} {below : List Frame} {meth : Method} {c : Code} {A : Nat → Prop} {t_o : Nat} {t_city : Value} {t_script : Value} {t_fault : Int32} {tstape_o : Nat} {tstape_q : Nat → Nat} {tstape_signs : (Nat → Int32)} {tstape_length : Int32} {tstape_place : Int32} {tstape_behind : Int32} {tstape_kind : Int32} {tstape_value : Int32} {tstape_letters : Int64} {tstape_word : (Option Nat)} {out : Int32} (X : Bx E A p s m args meth c cX6_factSpelt 3 RX6 (some .int)) {x1 : Int32} {x2 : (Option Nat)} {s0 : (Option Nat)} {s1 : (Option Nat)} {H : Heap} {locs : List Loc} {ls : Array Slot} (hf : f_X6_factSpelt_45 x1 x2 s0 s1 = some out) : Wd E A s.heap (wX6 E t_o (.ref tstape_o) t_city t_script t_fault ++ (wX10 E tstape_o tstape_q tstape_signs tstape_length tstape_place tstape_behind tstape_kind tstape_value tstape_letters tstape_word)) H locs → lv_has ls 3 [(1, .int (x1)), (2, va_re E.2.2 (x2))] → W p l e rm_X6_factSpelt s m args below meth c H locs 0 0 (Zn E below args s A (some (.int out)) (wX6 E t_o (.ref tstape_o) t_city t_script t_fault ++ (wX10 E tstape_o tstape_q tstape_signs tstape_length tstape_place tstape_behind tstape_kind tstape_value tstape_letters tstape_word))) (F0 m 45 ls [va_re E.2.2 (s1), va_re E.2.2 (s0)]) := by
  have hx := X.1.1
  have hb := X.1.2.1
  have ho := X.1.2.2.2.1
  have hts := X.1.2.2.2.2
  intro hw hl
  unfold f_X6_factSpelt_45 at hf
  obtain ⟨hex_45, hf⟩ := eg_some hf
  obtain ⟨hez_45, hf⟩ := eg_some hf
  refine k_acmp_ne (x := s0) (z := s1) (tgt := 51) X hex_45 hez_45 dX6_factSpelt_45 (by decide) (fun c_45 => ?_) (fun c_45 => ?_)
  · have hf := (if_neg c_45).symm.trans hf
    exact kb_X6_factSpelt_51 X hf hw (lv_sub hl [0, 1] rfl)
  · have hf := (if_pos c_45).symm.trans hf
    refine lv_bipush (v := (-3 : Int32)) hx hb dX6_factSpelt_48 (by decide) ?_
    obtain rfl := Option.some.inj hf
    exact k_iret X hw dX6_factSpelt_50
set_option maxRecDepth 100000 in
set_option maxHeartbeats 4000000 in
theorem c_X6_factSpelt {E : En} {l : Launch} {t_o : Nat} {t_city : Value} {t_script : Value} {t_fault : Int32} {tstape_o : Nat} {tstape_q : Nat → Nat} {tstape_signs : (Nat → Int32)} {tstape_length : Int32} {tstape_place : Int32} {tstape_behind : Int32} {tstape_kind : Int32} {tstape_value : Int32} {tstape_letters : Int64} {tstape_word : (Option Nat)} {x1 : Int32} {out : Int32} (hf : f_X6_factSpelt tstape_word x1 = some out) : Cn E l yX6_factSpelt cX6_factSpelt 3 (some .int) rm_X6_factSpelt [.ref t_o, .int (x1)] (wX6 E t_o (.ref tstape_o) t_city t_script t_fault ++ (wX10 E tstape_o tstape_q tstape_signs tstape_length tstape_place tstape_behind tstape_kind tstape_value tstape_letters tstape_word)) (some (.int out)) (wX6 E t_o (.ref tstape_o) t_city t_script t_fault ++ (wX10 E tstape_o tstape_q tstape_signs tstape_length tstape_place tstape_behind tstape_kind tstape_value tstape_letters tstape_word)) := by
  refine Cn.of (by decide) (Nat.le_of_ble_eq_true rfl) rfl ?_
  intro p e s m below meth c A ls args H locs X hw hl
  have hx := X.1.1
  have hb := X.1.2.1
  have ho := X.1.2.2.2.1
  have hts := X.1.2.2.2.2
  have hl : lv_has ls 3 [(0, .ref t_o), (1, .int (x1))] := hl
  unfold f_X6_factSpelt at hf
  refine lv_aload_n hx hb dX6_factSpelt_0 rfl (lv_at hl 0 rfl) ?_
  refine k_get (q0 := 0) (ci := 5) (C := RX6) (T := TX6) (N := 4) (x := .ref tstape_o) X inx_6 hw rfl rfl 0 (by decide) rfl tw_192 rfl dX6_factSpelt_1 ?_
  refine k_getN (q0 := 1) (ci := 9) (C := RX10) (T := TX10) (N := 8) (host := "PloughCall") (x := va_re E.2.2 (tstape_word)) X inx_10 hw rfl rfl 7 (by decide) rfl nw_6 rfl dX6_factSpelt_4 ?_
  refine k_astore_nE (ad := E.2.2) (x := tstape_word) (lv' := [(2, va_re E.2.2 (tstape_word)), (0, .ref t_o), (1, .int (x1))]) hx hb dX6_factSpelt_7 rfl hl (by decide) rfl (fun ls hl => ?_)
  refine k_aload_nE (ad := E.2.2) (x := tstape_word) hx hb dX6_factSpelt_8 rfl (lv_at hl 0 rfl) ?_
  refine k_const (i := 26) X hw (by decide) rfl tw_796 dX6_factSpelt_9 ?_
  obtain ⟨hex_12, hf⟩ := eg_some hf
  refine k_acmp_ne (x := tstape_word) (z := (some 26)) (tgt := 17) X hex_12 rfl dX6_factSpelt_12 (by decide) (fun c_12 => ?_) (fun c_12 => ?_)
  · have hf := (if_neg c_12).symm.trans hf
    refine k_aload_nE (ad := E.2.2) (x := tstape_word) hx hb dX6_factSpelt_17 rfl (lv_at hl 0 rfl) ?_
    refine k_const (i := 27) X hw (by decide) rfl tw_798 dX6_factSpelt_18 ?_
    obtain ⟨hex_21, hf⟩ := eg_some hf
    refine k_acmp_ne (x := tstape_word) (z := (some 27)) (tgt := 27) X hex_21 rfl dX6_factSpelt_21 (by decide) (fun c_21 => ?_) (fun c_21 => ?_)
    · have hf := (if_neg c_21).symm.trans hf
      refine k_aload_nE (ad := E.2.2) (x := tstape_word) hx hb dX6_factSpelt_27 rfl (lv_at hl 0 rfl) ?_
      refine k_ifnullE (ad := E.2.2) (x := tstape_word) (tgt := 51) hx hb dX6_factSpelt_28 (by decide) (fun c_28 => ?_) (fun c_28 => ?_)
      · have hf := (if_pos c_28).symm.trans hf
        exact kb_X6_factSpelt_51 X hf hw (lv_sub hl [2, 0] rfl)
      · have hf := (if_neg c_28).symm.trans hf
        refine k_aload_nE (ad := E.2.2) (x := tstape_word) hx hb dX6_factSpelt_31 rfl (lv_at hl 0 rfl) ?_
        refine lv_iload_n hx hb dX6_factSpelt_32 rfl (lv_at hl 2 rfl) ?_
        refine lv_if_eq (tgt := 42) hx hb dX6_factSpelt_33 (by decide) (fun c_33 => ?_) (fun c_33 => ?_)
        · have hf := (if_pos c_33).symm.trans hf
          refine k_const (i := 28) X hw (by decide) rfl tw_802 dX6_factSpelt_42 ?_
          exact kb_X6_factSpelt_45 X hf hw (lv_sub hl [2, 0] rfl)
        · have hf := (if_neg c_33).symm.trans hf
          refine k_const (i := 30) X hw (by decide) rfl tw_800 dX6_factSpelt_36 ?_
          refine lv_goto (tgt := 45) hx hb dX6_factSpelt_39 (by decide) ?_
          exact kb_X6_factSpelt_45 X hf hw (lv_sub hl [2, 0] rfl)
    · have hf := (if_pos c_21).symm.trans hf
      refine lv_bipush (v := (-2 : Int32)) hx hb dX6_factSpelt_24 (by decide) ?_
      obtain rfl := Option.some.inj hf
      exact k_iret X hw dX6_factSpelt_26
  · have hf := (if_pos c_12).symm.trans hf
    refine lv_iconst (v := (-1 : Int32)) hx hb dX6_factSpelt_15 (by decide) ?_
    obtain rfl := Option.some.inj hf
    exact k_iret X hw dX6_factSpelt_16
/-! private void release(); -/
def f_X9_release : Int32 × Int32 × Int32 × Int32 × Int32 := ((-1 : Int32), (-1 : Int32), (0 : Int32), (0 : Int32), (0 : Int32))
abbrev rm_X9_release : Room := { frames := 0, cells := 0, slots := 0, locals := 0 }
theorem hd_X9_release : yX9_release.cls = RX9 ∧ yX9_release.cls ≠ "java/lang/invoke/MethodHandle" ∧ yX9_release.cls ≠ "java/lang/invoke/VarHandle" ∧ (parseMethodDescriptor yX9_release.desc).map (fun d => d.parameters.length) = some 0 := by decide +kernel
set_option maxRecDepth 100000 in
set_option maxHeartbeats 4000000 in
theorem c_X9_release {E : En} {l : Launch} {t_o : Nat} {t_q : Nat → Nat} {t_month : Int32} {t_power : Int32} {t_master : Int32} {t_left : Int32} {t_kept : Int32} {t_passed : Int32} {t_sizes : (Nat → Int32)} {t_fields : (Nat → Int32)} {t_liked : (Nat → Int32)}  {out : Int32 × Int32 × Int32 × Int32 × Int32} (hf : f_X9_release = out) : Cn E l yX9_release cX9_release 1 none rm_X9_release [.ref t_o] (wX9 E t_o t_q t_month t_power t_master t_left t_kept t_passed t_sizes t_fields t_liked) none (wX9 E t_o t_q t_month out.1 out.2.1 out.2.2.1 out.2.2.2.1 out.2.2.2.2 t_sizes t_fields t_liked) := by
  refine Cn.of (by decide) (Nat.le_of_ble_eq_true rfl) rfl ?_
  intro p e s m below meth c A ls args H locs X hw hl
  have hx := X.1.1
  have hb := X.1.2.1
  have ho := X.1.2.2.2.1
  have hts := X.1.2.2.2.2
  have hl : lv_has ls 1 [(0, .ref t_o)] := hl
  unfold f_X9_release at hf
  refine lv_aload_n hx hb dX9_release_0 rfl (lv_at hl 0 rfl) ?_
  refine lv_iconst (v := (-1 : Int32)) hx hb dX9_release_1 (by decide) ?_
  refine k_put (q0 := 0) (ci := 8) (C := RX9) (T := TX9) (N := 9) (ty0 := tyX9) (x := .int ((-1 : Int32))) X inx_9 tyX9_ok nmX9 hw rfl rfl 1 (by decide) rfl rfl tw_220 rfl rfl (Nat.le_of_ble_eq_true rfl) dX9_release_2 (fun H locs hw => ?_)
  have hw : Wd E A s.heap (wX9 E t_o t_q t_month ((-1 : Int32)) t_master t_left t_kept t_passed t_sizes t_fields t_liked) H locs := hw
  refine lv_aload_n hx hb dX9_release_5 rfl (lv_at hl 0 rfl) ?_
  refine lv_iconst (v := (-1 : Int32)) hx hb dX9_release_6 (by decide) ?_
  refine k_put (q0 := 0) (ci := 8) (C := RX9) (T := TX9) (N := 9) (ty0 := tyX9) (x := .int ((-1 : Int32))) X inx_9 tyX9_ok nmX9 hw rfl rfl 2 (by decide) rfl rfl tw_223 rfl rfl (Nat.le_of_ble_eq_true rfl) dX9_release_7 (fun H locs hw => ?_)
  have hw : Wd E A s.heap (wX9 E t_o t_q t_month ((-1 : Int32)) ((-1 : Int32)) t_left t_kept t_passed t_sizes t_fields t_liked) H locs := hw
  refine lv_aload_n hx hb dX9_release_10 rfl (lv_at hl 0 rfl) ?_
  refine lv_iconst (v := (0 : Int32)) hx hb dX9_release_11 (by decide) ?_
  refine k_put (q0 := 0) (ci := 8) (C := RX9) (T := TX9) (N := 9) (ty0 := tyX9) (x := .int ((0 : Int32))) X inx_9 tyX9_ok nmX9 hw rfl rfl 3 (by decide) rfl rfl tw_226 rfl rfl (Nat.le_of_ble_eq_true rfl) dX9_release_12 (fun H locs hw => ?_)
  have hw : Wd E A s.heap (wX9 E t_o t_q t_month ((-1 : Int32)) ((-1 : Int32)) ((0 : Int32)) t_kept t_passed t_sizes t_fields t_liked) H locs := hw
  refine lv_aload_n hx hb dX9_release_15 rfl (lv_at hl 0 rfl) ?_
  refine lv_iconst (v := (0 : Int32)) hx hb dX9_release_16 (by decide) ?_
  refine k_put (q0 := 0) (ci := 8) (C := RX9) (T := TX9) (N := 9) (ty0 := tyX9) (x := .int ((0 : Int32))) X inx_9 tyX9_ok nmX9 hw rfl rfl 4 (by decide) rfl rfl tw_228 rfl rfl (Nat.le_of_ble_eq_true rfl) dX9_release_17 (fun H locs hw => ?_)
  have hw : Wd E A s.heap (wX9 E t_o t_q t_month ((-1 : Int32)) ((-1 : Int32)) ((0 : Int32)) ((0 : Int32)) t_passed t_sizes t_fields t_liked) H locs := hw
  refine lv_aload_n hx hb dX9_release_20 rfl (lv_at hl 0 rfl) ?_
  refine lv_iconst (v := (0 : Int32)) hx hb dX9_release_21 (by decide) ?_
  refine k_put (q0 := 0) (ci := 8) (C := RX9) (T := TX9) (N := 9) (ty0 := tyX9) (x := .int ((0 : Int32))) X inx_9 tyX9_ok nmX9 hw rfl rfl 5 (by decide) rfl rfl tw_231 rfl rfl (Nat.le_of_ble_eq_true rfl) dX9_release_22 (fun H locs hw => ?_)
  have hw : Wd E A s.heap (wX9 E t_o t_q t_month ((-1 : Int32)) ((-1 : Int32)) ((0 : Int32)) ((0 : Int32)) ((0 : Int32)) t_sizes t_fields t_liked) H locs := hw
  subst hf
  exact k_vret X hw dX9_release_25
/-! boolean canMaster(PloughCall$City, int); -/
def f_X9_canMaster (t_power : Int32) (t_master : Int32) (p1_men : Int32) (p1_consuls : Int32) (x2 : Int32) : Int32 := if t_power = (-1 : Int32) then ((0 : Int32))
  else if (f_X1_hasMan p1_men (x2)) = (0 : Int32) then ((0 : Int32))
  else if x2 = t_power then ((0 : Int32))
  else if x2 = t_master then ((0 : Int32))
  else if (f_X1_isConsul p1_men p1_consuls (x2)) = (0 : Int32) then ((1 : Int32))
  else ((0 : Int32))
abbrev rm_X9_canMaster : Room := { frames := 2, cells := 0, slots := 0, locals := 42 }
theorem hd_X9_canMaster : yX9_canMaster.cls = RX9 ∧ yX9_canMaster.cls ≠ "java/lang/invoke/MethodHandle" ∧ yX9_canMaster.cls ≠ "java/lang/invoke/VarHandle" ∧ (parseMethodDescriptor yX9_canMaster.desc).map (fun d => d.parameters.length) = some 2 := by decide +kernel
set_option maxRecDepth 100000 in
set_option maxHeartbeats 4000000 in
theorem c_X9_canMaster {E : En} {l : Launch} {t_o : Nat} {t_q : Nat → Nat} {t_month : Int32} {t_power : Int32} {t_master : Int32} {t_left : Int32} {t_kept : Int32} {t_passed : Int32} {t_sizes : (Nat → Int32)} {t_fields : (Nat → Int32)} {t_liked : (Nat → Int32)} {p1_o : Nat} {p1_q : Nat → Nat} {p1_men : Int32} {p1_consuls : Int32} {p1_dangers : Int32} {p1_decrees : Int32} {p1_term : Int32} {p1_termTold : Int32} {p1_manNames : (Nat → Int64)} {p1_kinds : (Nat → Int32)} {p1_skills : (Nat → Int32)} {p1_fields : (Nat → Int32)} {p1_wants : (Nat → Int32)} {p1_hated : (Nat → Int32)} {p1_dangerNames : (Nat → Int64)} {p1_sizes : (Nat → Int32)} {p1_grows : (Nat → Int32)} {p1_decreeNames : (Nat → Int64)} {p1_grounds : (Nat → Int32)} {p1_laws : Value} {x2 : Int32} {out : Int32} (hf : f_X9_canMaster t_power t_master p1_men p1_consuls x2 = out) : Cn E l yX9_canMaster cX9_canMaster 3 (some .boolean) rm_X9_canMaster [.ref t_o, .ref p1_o, .int (x2)] (wX9 E t_o t_q t_month t_power t_master t_left t_kept t_passed t_sizes t_fields t_liked ++ (wX1 E p1_o p1_q p1_men p1_consuls p1_dangers p1_decrees p1_term p1_termTold p1_manNames p1_kinds p1_skills p1_fields p1_wants p1_hated p1_dangerNames p1_sizes p1_grows p1_decreeNames p1_grounds p1_laws)) (some (.int out)) (wX9 E t_o t_q t_month t_power t_master t_left t_kept t_passed t_sizes t_fields t_liked ++ (wX1 E p1_o p1_q p1_men p1_consuls p1_dangers p1_decrees p1_term p1_termTold p1_manNames p1_kinds p1_skills p1_fields p1_wants p1_hated p1_dangerNames p1_sizes p1_grows p1_decreeNames p1_grounds p1_laws)) := by
  refine Cn.of (by decide) (Nat.le_of_ble_eq_true rfl) rfl ?_
  intro p e s m below meth c A ls args H locs X hw hl
  have hx := X.1.1
  have hb := X.1.2.1
  have ho := X.1.2.2.2.1
  have hts := X.1.2.2.2.2
  have hl : lv_has ls 3 [(0, .ref t_o), (1, .ref p1_o), (2, .int (x2))] := hl
  unfold f_X9_canMaster at hf
  refine lv_aload_n hx hb dX9_canMaster_0 rfl (lv_at hl 0 rfl) ?_
  refine k_get (q0 := 0) (ci := 8) (C := RX9) (T := TX9) (N := 9) (x := .int (t_power)) X inx_9 hw rfl rfl 1 (by decide) rfl tw_220 rfl dX9_canMaster_1 ?_
  refine lv_iconst (v := (-1 : Int32)) hx hb dX9_canMaster_4 (by decide) ?_
  refine lv_icmp_eq (tgt := 44) hx hb dX9_canMaster_5 (by decide) (fun c_5 => ?_) (fun c_5 => ?_)
  · have hf := (if_pos c_5).symm.trans hf
    refine lv_iconst (v := (0 : Int32)) hx hb dX9_canMaster_44 (by decide) ?_
    subst hf
    exact k_zret X (Or.inl rfl) hw dX9_canMaster_45
  · have hf := (if_neg c_5).symm.trans hf
    refine lv_aload_n hx hb dX9_canMaster_8 rfl (lv_at hl 1 rfl) ?_
    refine lv_iload_n hx hb dX9_canMaster_9 rfl (lv_at hl 2 rfl) ?_
    refine k_V (As := [.int (x2)]) (rest := []) (index := 70) (C := RX1) X (c_X1_hasMan (out := (f_X1_hasMan p1_men (x2))) rfl) tw_936 tw_717 tw_718 tw_126 tw_719 ⟨rfl, rfl⟩ hd_X1_hasMan ⟨Nat.le_of_ble_eq_true rfl, Nat.le_of_ble_eq_true rfl⟩ ⟨Nat.zero_le _, Nat.zero_le _⟩ hw [4, 5, 6, 7, 8, 9, 10, 11, 12, 13, 14, 15] rfl rfl 4 rfl rfl rfl rfl hl.1 rfl (Nat.le_of_ble_eq_true rfl) dX9_canMaster_10 (fun H locs hw => ?_)
    have hw : Wd E A s.heap (wX9 E t_o t_q t_month t_power t_master t_left t_kept t_passed t_sizes t_fields t_liked ++ (wX1 E p1_o p1_q p1_men p1_consuls p1_dangers p1_decrees p1_term p1_termTold p1_manNames p1_kinds p1_skills p1_fields p1_wants p1_hated p1_dangerNames p1_sizes p1_grows p1_decreeNames p1_grounds p1_laws)) H locs := hw
    refine lv_if_eq (tgt := 44) hx hb dX9_canMaster_13 (by decide) (fun c_13 => ?_) (fun c_13 => ?_)
    · have hf := (if_pos c_13).symm.trans hf
      refine lv_iconst (v := (0 : Int32)) hx hb dX9_canMaster_44 (by decide) ?_
      subst hf
      exact k_zret X (Or.inl rfl) hw dX9_canMaster_45
    · have hf := (if_neg c_13).symm.trans hf
      refine lv_iload_n hx hb dX9_canMaster_16 rfl (lv_at hl 2 rfl) ?_
      refine lv_aload_n hx hb dX9_canMaster_17 rfl (lv_at hl 0 rfl) ?_
      refine k_get (q0 := 0) (ci := 8) (C := RX9) (T := TX9) (N := 9) (x := .int (t_power)) X inx_9 hw rfl rfl 1 (by decide) rfl tw_220 rfl dX9_canMaster_18 ?_
      refine lv_icmp_eq (tgt := 44) hx hb dX9_canMaster_21 (by decide) (fun c_21 => ?_) (fun c_21 => ?_)
      · have hf := (if_pos c_21).symm.trans hf
        refine lv_iconst (v := (0 : Int32)) hx hb dX9_canMaster_44 (by decide) ?_
        subst hf
        exact k_zret X (Or.inl rfl) hw dX9_canMaster_45
      · have hf := (if_neg c_21).symm.trans hf
        refine lv_iload_n hx hb dX9_canMaster_24 rfl (lv_at hl 2 rfl) ?_
        refine lv_aload_n hx hb dX9_canMaster_25 rfl (lv_at hl 0 rfl) ?_
        refine k_get (q0 := 0) (ci := 8) (C := RX9) (T := TX9) (N := 9) (x := .int (t_master)) X inx_9 hw rfl rfl 2 (by decide) rfl tw_223 rfl dX9_canMaster_26 ?_
        refine lv_icmp_eq (tgt := 44) hx hb dX9_canMaster_29 (by decide) (fun c_29 => ?_) (fun c_29 => ?_)
        · have hf := (if_pos c_29).symm.trans hf
          refine lv_iconst (v := (0 : Int32)) hx hb dX9_canMaster_44 (by decide) ?_
          subst hf
          exact k_zret X (Or.inl rfl) hw dX9_canMaster_45
        · have hf := (if_neg c_29).symm.trans hf
          refine lv_aload_n hx hb dX9_canMaster_32 rfl (lv_at hl 1 rfl) ?_
          refine lv_iload_n hx hb dX9_canMaster_33 rfl (lv_at hl 2 rfl) ?_
          refine k_V (As := [.int (x2)]) (rest := []) (index := 74) (C := RX1) X (c_X1_isConsul (out := (f_X1_isConsul p1_men p1_consuls (x2))) rfl) tw_937 tw_713 tw_714 tw_126 tw_715 ⟨rfl, rfl⟩ hd_X1_isConsul ⟨Nat.le_of_ble_eq_true rfl, Nat.le_of_ble_eq_true rfl⟩ ⟨Nat.zero_le _, Nat.zero_le _⟩ hw [4, 5, 6, 7, 8, 9, 10, 11, 12, 13, 14, 15] rfl rfl 4 rfl rfl rfl rfl hl.1 rfl (Nat.le_of_ble_eq_true rfl) dX9_canMaster_34 (fun H locs hw => ?_)
          have hw : Wd E A s.heap (wX9 E t_o t_q t_month t_power t_master t_left t_kept t_passed t_sizes t_fields t_liked ++ (wX1 E p1_o p1_q p1_men p1_consuls p1_dangers p1_decrees p1_term p1_termTold p1_manNames p1_kinds p1_skills p1_fields p1_wants p1_hated p1_dangerNames p1_sizes p1_grows p1_decreeNames p1_grounds p1_laws)) H locs := hw
          refine lv_if_ne (tgt := 44) hx hb dX9_canMaster_37 (by decide) (fun c_37 => ?_) (fun c_37 => ?_)
          · have hf := (if_neg c_37).symm.trans hf
            refine lv_iconst (v := (0 : Int32)) hx hb dX9_canMaster_44 (by decide) ?_
            subst hf
            exact k_zret X (Or.inl rfl) hw dX9_canMaster_45
          · have hf := (if_pos c_37).symm.trans hf
            refine lv_iconst (v := (1 : Int32)) hx hb dX9_canMaster_40 (by decide) ?_
            refine lv_goto (tgt := 45) hx hb dX9_canMaster_41 (by decide) ?_
            subst hf
            exact k_zret X (Or.inr rfl) hw dX9_canMaster_45
theorem zb_X9_canMaster (t_power : Int32) (t_master : Int32) (p1_men : Int32) (p1_consuls : Int32) (x2 : Int32) : f_X9_canMaster t_power t_master p1_men p1_consuls x2 = 0 ∨ f_X9_canMaster t_power t_master p1_men p1_consuls x2 = 1 := by
  unfold f_X9_canMaster
  repeat' apply ite_z
  all_goals first | exact Or.inl rfl | exact Or.inr rfl | exact zb_X1_hasMan _ _ | exact zb_X1_isConsul _ _ _
/-! boolean canDisobey(PloughCall$City, int, int); -/
def f_X9_canDisobey (t_power : Int32) (t_master : Int32) (p1_dangers : Int32) (x2 : Int32) (x3 : Int32) : Int32 := if t_power = (-1 : Int32) then ((0 : Int32))
  else if t_master = (-1 : Int32) then ((0 : Int32))
  else if x2 = x3 then ((0 : Int32))
  else if (f_X1_hasDanger p1_dangers (x2)) = (0 : Int32) then ((0 : Int32))
  else if (f_X1_hasDanger p1_dangers (x3)) = (0 : Int32) then ((0 : Int32))
  else ((1 : Int32))
abbrev rm_X9_canDisobey : Room := { frames := 1, cells := 0, slots := 0, locals := 21 }
theorem hd_X9_canDisobey : yX9_canDisobey.cls = RX9 ∧ yX9_canDisobey.cls ≠ "java/lang/invoke/MethodHandle" ∧ yX9_canDisobey.cls ≠ "java/lang/invoke/VarHandle" ∧ (parseMethodDescriptor yX9_canDisobey.desc).map (fun d => d.parameters.length) = some 3 := by decide +kernel
set_option maxRecDepth 100000 in
set_option maxHeartbeats 4000000 in
theorem c_X9_canDisobey {E : En} {l : Launch} {t_o : Nat} {t_q : Nat → Nat} {t_month : Int32} {t_power : Int32} {t_master : Int32} {t_left : Int32} {t_kept : Int32} {t_passed : Int32} {t_sizes : (Nat → Int32)} {t_fields : (Nat → Int32)} {t_liked : (Nat → Int32)} {p1_o : Nat} {p1_q : Nat → Nat} {p1_men : Int32} {p1_consuls : Int32} {p1_dangers : Int32} {p1_decrees : Int32} {p1_term : Int32} {p1_termTold : Int32} {p1_manNames : (Nat → Int64)} {p1_kinds : (Nat → Int32)} {p1_skills : (Nat → Int32)} {p1_fields : (Nat → Int32)} {p1_wants : (Nat → Int32)} {p1_hated : (Nat → Int32)} {p1_dangerNames : (Nat → Int64)} {p1_sizes : (Nat → Int32)} {p1_grows : (Nat → Int32)} {p1_decreeNames : (Nat → Int64)} {p1_grounds : (Nat → Int32)} {p1_laws : Value} {x2 : Int32} {x3 : Int32} {out : Int32} (hf : f_X9_canDisobey t_power t_master p1_dangers x2 x3 = out) : Cn E l yX9_canDisobey cX9_canDisobey 4 (some .boolean) rm_X9_canDisobey [.ref t_o, .ref p1_o, .int (x2), .int (x3)] (wX9 E t_o t_q t_month t_power t_master t_left t_kept t_passed t_sizes t_fields t_liked ++ (wX1 E p1_o p1_q p1_men p1_consuls p1_dangers p1_decrees p1_term p1_termTold p1_manNames p1_kinds p1_skills p1_fields p1_wants p1_hated p1_dangerNames p1_sizes p1_grows p1_decreeNames p1_grounds p1_laws)) (some (.int out)) (wX9 E t_o t_q t_month t_power t_master t_left t_kept t_passed t_sizes t_fields t_liked ++ (wX1 E p1_o p1_q p1_men p1_consuls p1_dangers p1_decrees p1_term p1_termTold p1_manNames p1_kinds p1_skills p1_fields p1_wants p1_hated p1_dangerNames p1_sizes p1_grows p1_decreeNames p1_grounds p1_laws)) := by
  refine Cn.of (by decide) (Nat.le_of_ble_eq_true rfl) rfl ?_
  intro p e s m below meth c A ls args H locs X hw hl
  have hx := X.1.1
  have hb := X.1.2.1
  have ho := X.1.2.2.2.1
  have hts := X.1.2.2.2.2
  have hl : lv_has ls 4 [(0, .ref t_o), (1, .ref p1_o), (2, .int (x2)), (3, .int (x3))] := hl
  unfold f_X9_canDisobey at hf
  refine lv_aload_n hx hb dX9_canDisobey_0 rfl (lv_at hl 0 rfl) ?_
  refine k_get (q0 := 0) (ci := 8) (C := RX9) (T := TX9) (N := 9) (x := .int (t_power)) X inx_9 hw rfl rfl 1 (by decide) rfl tw_220 rfl dX9_canDisobey_1 ?_
  refine lv_iconst (v := (-1 : Int32)) hx hb dX9_canDisobey_4 (by decide) ?_
  refine lv_icmp_eq (tgt := 41) hx hb dX9_canDisobey_5 (by decide) (fun c_5 => ?_) (fun c_5 => ?_)
  · have hf := (if_pos c_5).symm.trans hf
    refine lv_iconst (v := (0 : Int32)) hx hb dX9_canDisobey_41 (by decide) ?_
    subst hf
    exact k_zret X (Or.inl rfl) hw dX9_canDisobey_42
  · have hf := (if_neg c_5).symm.trans hf
    refine lv_aload_n hx hb dX9_canDisobey_8 rfl (lv_at hl 0 rfl) ?_
    refine k_get (q0 := 0) (ci := 8) (C := RX9) (T := TX9) (N := 9) (x := .int (t_master)) X inx_9 hw rfl rfl 2 (by decide) rfl tw_223 rfl dX9_canDisobey_9 ?_
    refine lv_iconst (v := (-1 : Int32)) hx hb dX9_canDisobey_12 (by decide) ?_
    refine lv_icmp_eq (tgt := 41) hx hb dX9_canDisobey_13 (by decide) (fun c_13 => ?_) (fun c_13 => ?_)
    · have hf := (if_pos c_13).symm.trans hf
      refine lv_iconst (v := (0 : Int32)) hx hb dX9_canDisobey_41 (by decide) ?_
      subst hf
      exact k_zret X (Or.inl rfl) hw dX9_canDisobey_42
    · have hf := (if_neg c_13).symm.trans hf
      refine lv_iload_n hx hb dX9_canDisobey_16 rfl (lv_at hl 2 rfl) ?_
      refine lv_iload_n hx hb dX9_canDisobey_17 rfl (lv_at hl 3 rfl) ?_
      refine lv_icmp_eq (tgt := 41) hx hb dX9_canDisobey_18 (by decide) (fun c_18 => ?_) (fun c_18 => ?_)
      · have hf := (if_pos c_18).symm.trans hf
        refine lv_iconst (v := (0 : Int32)) hx hb dX9_canDisobey_41 (by decide) ?_
        subst hf
        exact k_zret X (Or.inl rfl) hw dX9_canDisobey_42
      · have hf := (if_neg c_18).symm.trans hf
        refine lv_aload_n hx hb dX9_canDisobey_21 rfl (lv_at hl 1 rfl) ?_
        refine lv_iload_n hx hb dX9_canDisobey_22 rfl (lv_at hl 2 rfl) ?_
        refine k_V (As := [.int (x2)]) (rest := []) (index := 77) (C := RX1) X (c_X1_hasDanger (out := (f_X1_hasDanger p1_dangers (x2))) rfl) tw_1019 tw_884 tw_885 tw_126 tw_886 ⟨rfl, rfl⟩ hd_X1_hasDanger ⟨Nat.le_of_ble_eq_true rfl, Nat.le_of_ble_eq_true rfl⟩ ⟨Nat.zero_le _, Nat.zero_le _⟩ hw [4, 5, 6, 7, 8, 9, 10, 11, 12, 13, 14, 15] rfl rfl 4 rfl rfl rfl rfl hl.1 rfl (Nat.le_of_ble_eq_true rfl) dX9_canDisobey_23 (fun H locs hw => ?_)
        have hw : Wd E A s.heap (wX9 E t_o t_q t_month t_power t_master t_left t_kept t_passed t_sizes t_fields t_liked ++ (wX1 E p1_o p1_q p1_men p1_consuls p1_dangers p1_decrees p1_term p1_termTold p1_manNames p1_kinds p1_skills p1_fields p1_wants p1_hated p1_dangerNames p1_sizes p1_grows p1_decreeNames p1_grounds p1_laws)) H locs := hw
        refine lv_if_eq (tgt := 41) hx hb dX9_canDisobey_26 (by decide) (fun c_26 => ?_) (fun c_26 => ?_)
        · have hf := (if_pos c_26).symm.trans hf
          refine lv_iconst (v := (0 : Int32)) hx hb dX9_canDisobey_41 (by decide) ?_
          subst hf
          exact k_zret X (Or.inl rfl) hw dX9_canDisobey_42
        · have hf := (if_neg c_26).symm.trans hf
          refine lv_aload_n hx hb dX9_canDisobey_29 rfl (lv_at hl 1 rfl) ?_
          refine lv_iload_n hx hb dX9_canDisobey_30 rfl (lv_at hl 3 rfl) ?_
          refine k_V (As := [.int (x3)]) (rest := []) (index := 77) (C := RX1) X (c_X1_hasDanger (out := (f_X1_hasDanger p1_dangers (x3))) rfl) tw_1019 tw_884 tw_885 tw_126 tw_886 ⟨rfl, rfl⟩ hd_X1_hasDanger ⟨Nat.le_of_ble_eq_true rfl, Nat.le_of_ble_eq_true rfl⟩ ⟨Nat.zero_le _, Nat.zero_le _⟩ hw [4, 5, 6, 7, 8, 9, 10, 11, 12, 13, 14, 15] rfl rfl 4 rfl rfl rfl rfl hl.1 rfl (Nat.le_of_ble_eq_true rfl) dX9_canDisobey_31 (fun H locs hw => ?_)
          have hw : Wd E A s.heap (wX9 E t_o t_q t_month t_power t_master t_left t_kept t_passed t_sizes t_fields t_liked ++ (wX1 E p1_o p1_q p1_men p1_consuls p1_dangers p1_decrees p1_term p1_termTold p1_manNames p1_kinds p1_skills p1_fields p1_wants p1_hated p1_dangerNames p1_sizes p1_grows p1_decreeNames p1_grounds p1_laws)) H locs := hw
          refine lv_if_eq (tgt := 41) hx hb dX9_canDisobey_34 (by decide) (fun c_34 => ?_) (fun c_34 => ?_)
          · have hf := (if_pos c_34).symm.trans hf
            refine lv_iconst (v := (0 : Int32)) hx hb dX9_canDisobey_41 (by decide) ?_
            subst hf
            exact k_zret X (Or.inl rfl) hw dX9_canDisobey_42
          · have hf := (if_neg c_34).symm.trans hf
            refine lv_iconst (v := (1 : Int32)) hx hb dX9_canDisobey_37 (by decide) ?_
            refine lv_goto (tgt := 42) hx hb dX9_canDisobey_38 (by decide) ?_
            subst hf
            exact k_zret X (Or.inr rfl) hw dX9_canDisobey_42
theorem zb_X9_canDisobey (t_power : Int32) (t_master : Int32) (p1_dangers : Int32) (x2 : Int32) (x3 : Int32) : f_X9_canDisobey t_power t_master p1_dangers x2 x3 = 0 ∨ f_X9_canDisobey t_power t_master p1_dangers x2 x3 = 1 := by
  unfold f_X9_canDisobey
  repeat' apply ite_z
  all_goals first | exact Or.inl rfl | exact Or.inr rfl | exact zb_X1_hasDanger _ _
/-! boolean canLay(); -/
def f_X9_canLay (t_power : Int32) (t_kept : Int32) : Int32 := if t_power = (-1 : Int32) then ((0 : Int32))
  else if t_kept = (0 : Int32) then ((1 : Int32))
  else ((0 : Int32))
abbrev rm_X9_canLay : Room := { frames := 0, cells := 0, slots := 0, locals := 0 }
theorem hd_X9_canLay : yX9_canLay.cls = RX9 ∧ yX9_canLay.cls ≠ "java/lang/invoke/MethodHandle" ∧ yX9_canLay.cls ≠ "java/lang/invoke/VarHandle" ∧ (parseMethodDescriptor yX9_canLay.desc).map (fun d => d.parameters.length) = some 0 := by decide +kernel
set_option maxRecDepth 100000 in
set_option maxHeartbeats 4000000 in
theorem c_X9_canLay {E : En} {l : Launch} {t_o : Nat} {t_q : Nat → Nat} {t_month : Int32} {t_power : Int32} {t_master : Int32} {t_left : Int32} {t_kept : Int32} {t_passed : Int32} {t_sizes : (Nat → Int32)} {t_fields : (Nat → Int32)} {t_liked : (Nat → Int32)}  {out : Int32} (hf : f_X9_canLay t_power t_kept = out) : Cn E l yX9_canLay cX9_canLay 1 (some .boolean) rm_X9_canLay [.ref t_o] (wX9 E t_o t_q t_month t_power t_master t_left t_kept t_passed t_sizes t_fields t_liked) (some (.int out)) (wX9 E t_o t_q t_month t_power t_master t_left t_kept t_passed t_sizes t_fields t_liked) := by
  refine Cn.of (by decide) (Nat.le_of_ble_eq_true rfl) rfl ?_
  intro p e s m below meth c A ls args H locs X hw hl
  have hx := X.1.1
  have hb := X.1.2.1
  have ho := X.1.2.2.2.1
  have hts := X.1.2.2.2.2
  have hl : lv_has ls 1 [(0, .ref t_o)] := hl
  unfold f_X9_canLay at hf
  refine lv_aload_n hx hb dX9_canLay_0 rfl (lv_at hl 0 rfl) ?_
  refine k_get (q0 := 0) (ci := 8) (C := RX9) (T := TX9) (N := 9) (x := .int (t_power)) X inx_9 hw rfl rfl 1 (by decide) rfl tw_220 rfl dX9_canLay_1 ?_
  refine lv_iconst (v := (-1 : Int32)) hx hb dX9_canLay_4 (by decide) ?_
  refine lv_icmp_eq (tgt := 19) hx hb dX9_canLay_5 (by decide) (fun c_5 => ?_) (fun c_5 => ?_)
  · have hf := (if_pos c_5).symm.trans hf
    refine lv_iconst (v := (0 : Int32)) hx hb dX9_canLay_19 (by decide) ?_
    subst hf
    exact k_zret X (Or.inl rfl) hw dX9_canLay_20
  · have hf := (if_neg c_5).symm.trans hf
    refine lv_aload_n hx hb dX9_canLay_8 rfl (lv_at hl 0 rfl) ?_
    refine k_get (q0 := 0) (ci := 8) (C := RX9) (T := TX9) (N := 9) (x := .int (t_kept)) X inx_9 hw rfl rfl 4 (by decide) rfl tw_228 rfl dX9_canLay_9 ?_
    refine lv_if_ne (tgt := 19) hx hb dX9_canLay_12 (by decide) (fun c_12 => ?_) (fun c_12 => ?_)
    · have hf := (if_neg c_12).symm.trans hf
      refine lv_iconst (v := (0 : Int32)) hx hb dX9_canLay_19 (by decide) ?_
      subst hf
      exact k_zret X (Or.inl rfl) hw dX9_canLay_20
    · have hf := (if_pos c_12).symm.trans hf
      refine lv_iconst (v := (1 : Int32)) hx hb dX9_canLay_15 (by decide) ?_
      refine lv_goto (tgt := 20) hx hb dX9_canLay_16 (by decide) ?_
      subst hf
      exact k_zret X (Or.inr rfl) hw dX9_canLay_20
theorem zb_X9_canLay (t_power : Int32) (t_kept : Int32) : f_X9_canLay t_power t_kept = 0 ∨ f_X9_canLay t_power t_kept = 1 := by
  unfold f_X9_canLay
  repeat' apply ite_z
  all_goals first | exact Or.inl rfl | exact Or.inr rfl
/-! void give(PloughCall$City, int); -/
def f_X9_give (p1_term : Int32) (x2 : Int32) : Int32 × Int32 × Int32 × Int32 × Int32 := (x2, (f_X9_release).2.1, p1_term, (f_X9_release).2.2.2.1, (f_X9_release).2.2.2.2)
abbrev rm_X9_give : Room := { frames := 1, cells := 0, slots := 0, locals := 20 }
theorem hd_X9_give : yX9_give.cls = RX9 ∧ yX9_give.cls ≠ "java/lang/invoke/MethodHandle" ∧ yX9_give.cls ≠ "java/lang/invoke/VarHandle" ∧ (parseMethodDescriptor yX9_give.desc).map (fun d => d.parameters.length) = some 2 := by decide +kernel
set_option maxRecDepth 100000 in
set_option maxHeartbeats 4000000 in
theorem c_X9_give {E : En} {l : Launch} {t_o : Nat} {t_q : Nat → Nat} {t_month : Int32} {t_power : Int32} {t_master : Int32} {t_left : Int32} {t_kept : Int32} {t_passed : Int32} {t_sizes : (Nat → Int32)} {t_fields : (Nat → Int32)} {t_liked : (Nat → Int32)} {p1_o : Nat} {p1_q : Nat → Nat} {p1_men : Int32} {p1_consuls : Int32} {p1_dangers : Int32} {p1_decrees : Int32} {p1_term : Int32} {p1_termTold : Int32} {p1_manNames : (Nat → Int64)} {p1_kinds : (Nat → Int32)} {p1_skills : (Nat → Int32)} {p1_fields : (Nat → Int32)} {p1_wants : (Nat → Int32)} {p1_hated : (Nat → Int32)} {p1_dangerNames : (Nat → Int64)} {p1_sizes : (Nat → Int32)} {p1_grows : (Nat → Int32)} {p1_decreeNames : (Nat → Int64)} {p1_grounds : (Nat → Int32)} {p1_laws : Value} {x2 : Int32} {out : Int32 × Int32 × Int32 × Int32 × Int32} (hf : f_X9_give p1_term x2 = out) : Cn E l yX9_give cX9_give 3 none rm_X9_give [.ref t_o, .ref p1_o, .int (x2)] (wX9 E t_o t_q t_month t_power t_master t_left t_kept t_passed t_sizes t_fields t_liked ++ (wX1 E p1_o p1_q p1_men p1_consuls p1_dangers p1_decrees p1_term p1_termTold p1_manNames p1_kinds p1_skills p1_fields p1_wants p1_hated p1_dangerNames p1_sizes p1_grows p1_decreeNames p1_grounds p1_laws)) none (wX9 E t_o t_q t_month out.1 out.2.1 out.2.2.1 out.2.2.2.1 out.2.2.2.2 t_sizes t_fields t_liked ++ (wX1 E p1_o p1_q p1_men p1_consuls p1_dangers p1_decrees p1_term p1_termTold p1_manNames p1_kinds p1_skills p1_fields p1_wants p1_hated p1_dangerNames p1_sizes p1_grows p1_decreeNames p1_grounds p1_laws)) := by
  refine Cn.of (by decide) (Nat.le_of_ble_eq_true rfl) rfl ?_
  intro p e s m below meth c A ls args H locs X hw hl
  have hx := X.1.1
  have hb := X.1.2.1
  have ho := X.1.2.2.2.1
  have hts := X.1.2.2.2.2
  have hl : lv_has ls 3 [(0, .ref t_o), (1, .ref p1_o), (2, .int (x2))] := hl
  unfold f_X9_give at hf
  refine lv_aload_n hx hb dX9_give_0 rfl (lv_at hl 0 rfl) ?_
  refine k_V (As := []) (rest := []) (index := 31) (C := RX9) X (c_X9_release (out := (f_X9_release)) rfl) tw_831 tw_833 tw_23 tw_123 tw_834 ⟨rfl, rfl⟩ hd_X9_release ⟨Nat.le_of_ble_eq_true rfl, Nat.le_of_ble_eq_true rfl⟩ ⟨Nat.zero_le _, Nat.zero_le _⟩ hw [0, 1, 2, 3] rfl rfl 0 rfl rfl rfl rfl hl.1 rfl (Nat.le_of_ble_eq_true rfl) dX9_give_1 (fun H locs hw => ?_)
  have hw : Wd E A s.heap (wX9 E t_o t_q t_month ((f_X9_release).1) ((f_X9_release).2.1) ((f_X9_release).2.2.1) ((f_X9_release).2.2.2.1) ((f_X9_release).2.2.2.2) t_sizes t_fields t_liked ++ (wX1 E p1_o p1_q p1_men p1_consuls p1_dangers p1_decrees p1_term p1_termTold p1_manNames p1_kinds p1_skills p1_fields p1_wants p1_hated p1_dangerNames p1_sizes p1_grows p1_decreeNames p1_grounds p1_laws)) H locs := hw
  refine lv_aload_n hx hb dX9_give_4 rfl (lv_at hl 0 rfl) ?_
  refine lv_iload_n hx hb dX9_give_5 rfl (lv_at hl 2 rfl) ?_
  refine k_put (q0 := 0) (ci := 8) (C := RX9) (T := TX9) (N := 9) (ty0 := tyX9) (x := .int (x2)) X inx_9 tyX9_ok nmX9 hw rfl rfl 1 (by decide) rfl rfl tw_220 rfl rfl (Nat.le_of_ble_eq_true rfl) dX9_give_6 (fun H locs hw => ?_)
  have hw : Wd E A s.heap (wX9 E t_o t_q t_month x2 ((f_X9_release).2.1) ((f_X9_release).2.2.1) ((f_X9_release).2.2.2.1) ((f_X9_release).2.2.2.2) t_sizes t_fields t_liked ++ (wX1 E p1_o p1_q p1_men p1_consuls p1_dangers p1_decrees p1_term p1_termTold p1_manNames p1_kinds p1_skills p1_fields p1_wants p1_hated p1_dangerNames p1_sizes p1_grows p1_decreeNames p1_grounds p1_laws)) H locs := hw
  refine lv_aload_n hx hb dX9_give_9 rfl (lv_at hl 0 rfl) ?_
  refine lv_aload_n hx hb dX9_give_10 rfl (lv_at hl 1 rfl) ?_
  refine k_getN (q0 := 4) (ci := 0) (C := RX1) (T := TX1) (N := 18) (host := "PloughCall") (x := .int (p1_term)) X inx_1 hw rfl rfl 4 (by decide) rfl nw_45 rfl dX9_give_11 ?_
  refine k_put (q0 := 0) (ci := 8) (C := RX9) (T := TX9) (N := 9) (ty0 := tyX9) (x := .int (p1_term)) X inx_9 tyX9_ok nmX9 hw rfl rfl 3 (by decide) rfl rfl tw_226 rfl rfl (Nat.le_of_ble_eq_true rfl) dX9_give_14 (fun H locs hw => ?_)
  have hw : Wd E A s.heap (wX9 E t_o t_q t_month x2 ((f_X9_release).2.1) p1_term ((f_X9_release).2.2.2.1) ((f_X9_release).2.2.2.2) t_sizes t_fields t_liked ++ (wX1 E p1_o p1_q p1_men p1_consuls p1_dangers p1_decrees p1_term p1_termTold p1_manNames p1_kinds p1_skills p1_fields p1_wants p1_hated p1_dangerNames p1_sizes p1_grows p1_decreeNames p1_grounds p1_laws)) H locs := hw
  subst hf
  exact k_vret X hw dX9_give_17
/-! void empty(); -/
def f_X10_empty : Int32 := ((0 : Int32))
abbrev rm_X10_empty : Room := { frames := 0, cells := 0, slots := 0, locals := 0 }
theorem hd_X10_empty : yX10_empty.cls = RX10 ∧ yX10_empty.cls ≠ "java/lang/invoke/MethodHandle" ∧ yX10_empty.cls ≠ "java/lang/invoke/VarHandle" ∧ (parseMethodDescriptor yX10_empty.desc).map (fun d => d.parameters.length) = some 0 := by decide +kernel
set_option maxRecDepth 100000 in
set_option maxHeartbeats 4000000 in
theorem c_X10_empty {E : En} {l : Launch} {t_o : Nat} {t_q : Nat → Nat} {t_signs : (Nat → Int32)} {t_length : Int32} {t_place : Int32} {t_behind : Int32} {t_kind : Int32} {t_value : Int32} {t_letters : Int64} {t_word : (Option Nat)}  {out : Int32} (hf : f_X10_empty = out) : Cn E l yX10_empty cX10_empty 1 none rm_X10_empty [.ref t_o] (wX10 E t_o t_q t_signs t_length t_place t_behind t_kind t_value t_letters t_word) none (wX10 E t_o t_q t_signs out t_place t_behind t_kind t_value t_letters t_word) := by
  refine Cn.of (by decide) (Nat.le_of_ble_eq_true rfl) rfl ?_
  intro p e s m below meth c A ls args H locs X hw hl
  have hx := X.1.1
  have hb := X.1.2.1
  have ho := X.1.2.2.2.1
  have hts := X.1.2.2.2.2
  have hl : lv_has ls 1 [(0, .ref t_o)] := hl
  unfold f_X10_empty at hf
  refine lv_aload_n hx hb dX10_empty_0 rfl (lv_at hl 0 rfl) ?_
  refine lv_iconst (v := (0 : Int32)) hx hb dX10_empty_1 (by decide) ?_
  refine k_put (q0 := 0) (ci := 9) (C := RX10) (T := TX10) (N := 8) (ty0 := tyX10) (x := .int ((0 : Int32))) X inx_10 tyX10_ok nmX10 hw rfl rfl 1 (by decide) rfl rfl tw_156 rfl rfl (Nat.le_of_ble_eq_true rfl) dX10_empty_2 (fun H locs hw => ?_)
  have hw : Wd E A s.heap (wX10 E t_o t_q t_signs ((0 : Int32)) t_place t_behind t_kind t_value t_letters t_word) H locs := hw
  subst hf
  exact k_vret X hw dX10_empty_5
/-! private static boolean isOwnToken(int); -/
def f_X10_isOwnToken (x0 : Int32) : Int32 := if x0 = (40 : Int32) then ((1 : Int32))
  else if x0 = (41 : Int32) then ((1 : Int32))
  else if x0 = (42 : Int32) then ((1 : Int32))
  else if x0 = (43 : Int32) then ((1 : Int32))
  else if x0 = (44 : Int32) then ((0 : Int32))
  else if x0 = (45 : Int32) then ((1 : Int32))
  else if x0 = (46 : Int32) then ((0 : Int32))
  else if x0 = (47 : Int32) then ((0 : Int32))
  else if x0 = (48 : Int32) then ((0 : Int32))
  else if x0 = (49 : Int32) then ((0 : Int32))
  else if x0 = (50 : Int32) then ((0 : Int32))
  else if x0 = (51 : Int32) then ((0 : Int32))
  else if x0 = (52 : Int32) then ((0 : Int32))
  else if x0 = (53 : Int32) then ((0 : Int32))
  else if x0 = (54 : Int32) then ((0 : Int32))
  else if x0 = (55 : Int32) then ((0 : Int32))
  else if x0 = (56 : Int32) then ((0 : Int32))
  else if x0 = (57 : Int32) then ((0 : Int32))
  else if x0 = (58 : Int32) then ((0 : Int32))
  else if x0 = (59 : Int32) then ((1 : Int32))
  else if x0 = (60 : Int32) then ((1 : Int32))
  else if x0 = (61 : Int32) then ((1 : Int32))
  else ((0 : Int32))
abbrev rm_X10_isOwnToken : Room := { frames := 0, cells := 0, slots := 0, locals := 0 }
theorem hd_X10_isOwnToken : yX10_isOwnToken.cls = RX10 ∧ yX10_isOwnToken.cls ≠ "java/lang/invoke/MethodHandle" ∧ yX10_isOwnToken.cls ≠ "java/lang/invoke/VarHandle" ∧ (parseMethodDescriptor yX10_isOwnToken.desc).map (fun d => d.parameters.length) = some 1 := by decide +kernel
set_option maxRecDepth 100000 in
set_option maxHeartbeats 4000000 in
theorem c_X10_isOwnToken {E : En} {l : Launch}  {x0 : Int32} {out : Int32} (hf : f_X10_isOwnToken x0 = out) : Cn E l yX10_isOwnToken cX10_isOwnToken 1 (some .boolean) rm_X10_isOwnToken [.int (x0)] (([] : va_W)) (some (.int out)) (([] : va_W)) := by
  refine Cn.of (by decide) (Nat.le_of_ble_eq_true rfl) rfl ?_
  intro p e s m below meth c A ls args H locs X hw hl
  have hx := X.1.1
  have hb := X.1.2.1
  have ho := X.1.2.2.2.1
  have hts := X.1.2.2.2.2
  have hl : lv_has ls 1 [(0, .int (x0))] := hl
  unfold f_X10_isOwnToken at hf
  refine lv_iload_n hx hb dX10_isOwnToken_0 rfl (lv_at hl 0 rfl) ?_
  by_cases c_1_40 : x0 = (40 : Int32)
  · have hf := (if_pos c_1_40).symm.trans hf
    refine lv_tableIn (tgt := 104) hx hb dX10_isOwnToken_1 (by rw [c_1_40]; decide) (by rw [c_1_40]; decide) (by rw [c_1_40]; rfl) (by decide) ?_
    refine lv_iconst (v := (1 : Int32)) hx hb dX10_isOwnToken_104 (by decide) ?_
    subst hf
    exact k_zret X (Or.inr rfl) hw dX10_isOwnToken_105
  have hf := (if_neg c_1_40).symm.trans hf
  by_cases c_1_41 : x0 = (41 : Int32)
  · have hf := (if_pos c_1_41).symm.trans hf
    refine lv_tableIn (tgt := 104) hx hb dX10_isOwnToken_1 (by rw [c_1_41]; decide) (by rw [c_1_41]; decide) (by rw [c_1_41]; rfl) (by decide) ?_
    refine lv_iconst (v := (1 : Int32)) hx hb dX10_isOwnToken_104 (by decide) ?_
    subst hf
    exact k_zret X (Or.inr rfl) hw dX10_isOwnToken_105
  have hf := (if_neg c_1_41).symm.trans hf
  by_cases c_1_42 : x0 = (42 : Int32)
  · have hf := (if_pos c_1_42).symm.trans hf
    refine lv_tableIn (tgt := 104) hx hb dX10_isOwnToken_1 (by rw [c_1_42]; decide) (by rw [c_1_42]; decide) (by rw [c_1_42]; rfl) (by decide) ?_
    refine lv_iconst (v := (1 : Int32)) hx hb dX10_isOwnToken_104 (by decide) ?_
    subst hf
    exact k_zret X (Or.inr rfl) hw dX10_isOwnToken_105
  have hf := (if_neg c_1_42).symm.trans hf
  by_cases c_1_43 : x0 = (43 : Int32)
  · have hf := (if_pos c_1_43).symm.trans hf
    refine lv_tableIn (tgt := 104) hx hb dX10_isOwnToken_1 (by rw [c_1_43]; decide) (by rw [c_1_43]; decide) (by rw [c_1_43]; rfl) (by decide) ?_
    refine lv_iconst (v := (1 : Int32)) hx hb dX10_isOwnToken_104 (by decide) ?_
    subst hf
    exact k_zret X (Or.inr rfl) hw dX10_isOwnToken_105
  have hf := (if_neg c_1_43).symm.trans hf
  by_cases c_1_44 : x0 = (44 : Int32)
  · have hf := (if_pos c_1_44).symm.trans hf
    refine lv_tableIn (tgt := 106) hx hb dX10_isOwnToken_1 (by rw [c_1_44]; decide) (by rw [c_1_44]; decide) (by rw [c_1_44]; rfl) (by decide) ?_
    refine lv_iconst (v := (0 : Int32)) hx hb dX10_isOwnToken_106 (by decide) ?_
    subst hf
    exact k_zret X (Or.inl rfl) hw dX10_isOwnToken_107
  have hf := (if_neg c_1_44).symm.trans hf
  by_cases c_1_45 : x0 = (45 : Int32)
  · have hf := (if_pos c_1_45).symm.trans hf
    refine lv_tableIn (tgt := 104) hx hb dX10_isOwnToken_1 (by rw [c_1_45]; decide) (by rw [c_1_45]; decide) (by rw [c_1_45]; rfl) (by decide) ?_
    refine lv_iconst (v := (1 : Int32)) hx hb dX10_isOwnToken_104 (by decide) ?_
    subst hf
    exact k_zret X (Or.inr rfl) hw dX10_isOwnToken_105
  have hf := (if_neg c_1_45).symm.trans hf
  by_cases c_1_46 : x0 = (46 : Int32)
  · have hf := (if_pos c_1_46).symm.trans hf
    refine lv_tableIn (tgt := 106) hx hb dX10_isOwnToken_1 (by rw [c_1_46]; decide) (by rw [c_1_46]; decide) (by rw [c_1_46]; rfl) (by decide) ?_
    refine lv_iconst (v := (0 : Int32)) hx hb dX10_isOwnToken_106 (by decide) ?_
    subst hf
    exact k_zret X (Or.inl rfl) hw dX10_isOwnToken_107
  have hf := (if_neg c_1_46).symm.trans hf
  by_cases c_1_47 : x0 = (47 : Int32)
  · have hf := (if_pos c_1_47).symm.trans hf
    refine lv_tableIn (tgt := 106) hx hb dX10_isOwnToken_1 (by rw [c_1_47]; decide) (by rw [c_1_47]; decide) (by rw [c_1_47]; rfl) (by decide) ?_
    refine lv_iconst (v := (0 : Int32)) hx hb dX10_isOwnToken_106 (by decide) ?_
    subst hf
    exact k_zret X (Or.inl rfl) hw dX10_isOwnToken_107
  have hf := (if_neg c_1_47).symm.trans hf
  by_cases c_1_48 : x0 = (48 : Int32)
  · have hf := (if_pos c_1_48).symm.trans hf
    refine lv_tableIn (tgt := 106) hx hb dX10_isOwnToken_1 (by rw [c_1_48]; decide) (by rw [c_1_48]; decide) (by rw [c_1_48]; rfl) (by decide) ?_
    refine lv_iconst (v := (0 : Int32)) hx hb dX10_isOwnToken_106 (by decide) ?_
    subst hf
    exact k_zret X (Or.inl rfl) hw dX10_isOwnToken_107
  have hf := (if_neg c_1_48).symm.trans hf
  by_cases c_1_49 : x0 = (49 : Int32)
  · have hf := (if_pos c_1_49).symm.trans hf
    refine lv_tableIn (tgt := 106) hx hb dX10_isOwnToken_1 (by rw [c_1_49]; decide) (by rw [c_1_49]; decide) (by rw [c_1_49]; rfl) (by decide) ?_
    refine lv_iconst (v := (0 : Int32)) hx hb dX10_isOwnToken_106 (by decide) ?_
    subst hf
    exact k_zret X (Or.inl rfl) hw dX10_isOwnToken_107
  have hf := (if_neg c_1_49).symm.trans hf
  by_cases c_1_50 : x0 = (50 : Int32)
  · have hf := (if_pos c_1_50).symm.trans hf
    refine lv_tableIn (tgt := 106) hx hb dX10_isOwnToken_1 (by rw [c_1_50]; decide) (by rw [c_1_50]; decide) (by rw [c_1_50]; rfl) (by decide) ?_
    refine lv_iconst (v := (0 : Int32)) hx hb dX10_isOwnToken_106 (by decide) ?_
    subst hf
    exact k_zret X (Or.inl rfl) hw dX10_isOwnToken_107
  have hf := (if_neg c_1_50).symm.trans hf
  by_cases c_1_51 : x0 = (51 : Int32)
  · have hf := (if_pos c_1_51).symm.trans hf
    refine lv_tableIn (tgt := 106) hx hb dX10_isOwnToken_1 (by rw [c_1_51]; decide) (by rw [c_1_51]; decide) (by rw [c_1_51]; rfl) (by decide) ?_
    refine lv_iconst (v := (0 : Int32)) hx hb dX10_isOwnToken_106 (by decide) ?_
    subst hf
    exact k_zret X (Or.inl rfl) hw dX10_isOwnToken_107
  have hf := (if_neg c_1_51).symm.trans hf
  by_cases c_1_52 : x0 = (52 : Int32)
  · have hf := (if_pos c_1_52).symm.trans hf
    refine lv_tableIn (tgt := 106) hx hb dX10_isOwnToken_1 (by rw [c_1_52]; decide) (by rw [c_1_52]; decide) (by rw [c_1_52]; rfl) (by decide) ?_
    refine lv_iconst (v := (0 : Int32)) hx hb dX10_isOwnToken_106 (by decide) ?_
    subst hf
    exact k_zret X (Or.inl rfl) hw dX10_isOwnToken_107
  have hf := (if_neg c_1_52).symm.trans hf
  by_cases c_1_53 : x0 = (53 : Int32)
  · have hf := (if_pos c_1_53).symm.trans hf
    refine lv_tableIn (tgt := 106) hx hb dX10_isOwnToken_1 (by rw [c_1_53]; decide) (by rw [c_1_53]; decide) (by rw [c_1_53]; rfl) (by decide) ?_
    refine lv_iconst (v := (0 : Int32)) hx hb dX10_isOwnToken_106 (by decide) ?_
    subst hf
    exact k_zret X (Or.inl rfl) hw dX10_isOwnToken_107
  have hf := (if_neg c_1_53).symm.trans hf
  by_cases c_1_54 : x0 = (54 : Int32)
  · have hf := (if_pos c_1_54).symm.trans hf
    refine lv_tableIn (tgt := 106) hx hb dX10_isOwnToken_1 (by rw [c_1_54]; decide) (by rw [c_1_54]; decide) (by rw [c_1_54]; rfl) (by decide) ?_
    refine lv_iconst (v := (0 : Int32)) hx hb dX10_isOwnToken_106 (by decide) ?_
    subst hf
    exact k_zret X (Or.inl rfl) hw dX10_isOwnToken_107
  have hf := (if_neg c_1_54).symm.trans hf
  by_cases c_1_55 : x0 = (55 : Int32)
  · have hf := (if_pos c_1_55).symm.trans hf
    refine lv_tableIn (tgt := 106) hx hb dX10_isOwnToken_1 (by rw [c_1_55]; decide) (by rw [c_1_55]; decide) (by rw [c_1_55]; rfl) (by decide) ?_
    refine lv_iconst (v := (0 : Int32)) hx hb dX10_isOwnToken_106 (by decide) ?_
    subst hf
    exact k_zret X (Or.inl rfl) hw dX10_isOwnToken_107
  have hf := (if_neg c_1_55).symm.trans hf
  by_cases c_1_56 : x0 = (56 : Int32)
  · have hf := (if_pos c_1_56).symm.trans hf
    refine lv_tableIn (tgt := 106) hx hb dX10_isOwnToken_1 (by rw [c_1_56]; decide) (by rw [c_1_56]; decide) (by rw [c_1_56]; rfl) (by decide) ?_
    refine lv_iconst (v := (0 : Int32)) hx hb dX10_isOwnToken_106 (by decide) ?_
    subst hf
    exact k_zret X (Or.inl rfl) hw dX10_isOwnToken_107
  have hf := (if_neg c_1_56).symm.trans hf
  by_cases c_1_57 : x0 = (57 : Int32)
  · have hf := (if_pos c_1_57).symm.trans hf
    refine lv_tableIn (tgt := 106) hx hb dX10_isOwnToken_1 (by rw [c_1_57]; decide) (by rw [c_1_57]; decide) (by rw [c_1_57]; rfl) (by decide) ?_
    refine lv_iconst (v := (0 : Int32)) hx hb dX10_isOwnToken_106 (by decide) ?_
    subst hf
    exact k_zret X (Or.inl rfl) hw dX10_isOwnToken_107
  have hf := (if_neg c_1_57).symm.trans hf
  by_cases c_1_58 : x0 = (58 : Int32)
  · have hf := (if_pos c_1_58).symm.trans hf
    refine lv_tableIn (tgt := 106) hx hb dX10_isOwnToken_1 (by rw [c_1_58]; decide) (by rw [c_1_58]; decide) (by rw [c_1_58]; rfl) (by decide) ?_
    refine lv_iconst (v := (0 : Int32)) hx hb dX10_isOwnToken_106 (by decide) ?_
    subst hf
    exact k_zret X (Or.inl rfl) hw dX10_isOwnToken_107
  have hf := (if_neg c_1_58).symm.trans hf
  by_cases c_1_59 : x0 = (59 : Int32)
  · have hf := (if_pos c_1_59).symm.trans hf
    refine lv_tableIn (tgt := 104) hx hb dX10_isOwnToken_1 (by rw [c_1_59]; decide) (by rw [c_1_59]; decide) (by rw [c_1_59]; rfl) (by decide) ?_
    refine lv_iconst (v := (1 : Int32)) hx hb dX10_isOwnToken_104 (by decide) ?_
    subst hf
    exact k_zret X (Or.inr rfl) hw dX10_isOwnToken_105
  have hf := (if_neg c_1_59).symm.trans hf
  by_cases c_1_60 : x0 = (60 : Int32)
  · have hf := (if_pos c_1_60).symm.trans hf
    refine lv_tableIn (tgt := 104) hx hb dX10_isOwnToken_1 (by rw [c_1_60]; decide) (by rw [c_1_60]; decide) (by rw [c_1_60]; rfl) (by decide) ?_
    refine lv_iconst (v := (1 : Int32)) hx hb dX10_isOwnToken_104 (by decide) ?_
    subst hf
    exact k_zret X (Or.inr rfl) hw dX10_isOwnToken_105
  have hf := (if_neg c_1_60).symm.trans hf
  by_cases c_1_61 : x0 = (61 : Int32)
  · have hf := (if_pos c_1_61).symm.trans hf
    refine lv_tableIn (tgt := 104) hx hb dX10_isOwnToken_1 (by rw [c_1_61]; decide) (by rw [c_1_61]; decide) (by rw [c_1_61]; rfl) (by decide) ?_
    refine lv_iconst (v := (1 : Int32)) hx hb dX10_isOwnToken_104 (by decide) ?_
    subst hf
    exact k_zret X (Or.inr rfl) hw dX10_isOwnToken_105
  have hf := (if_neg c_1_61).symm.trans hf
  have nc_1_40 : (x0).toInt ≠ 40 := fun h => c_1_40 (Int32.toInt_inj.mp (h.trans (by decide)))
  have nc_1_41 : (x0).toInt ≠ 41 := fun h => c_1_41 (Int32.toInt_inj.mp (h.trans (by decide)))
  have nc_1_42 : (x0).toInt ≠ 42 := fun h => c_1_42 (Int32.toInt_inj.mp (h.trans (by decide)))
  have nc_1_43 : (x0).toInt ≠ 43 := fun h => c_1_43 (Int32.toInt_inj.mp (h.trans (by decide)))
  have nc_1_44 : (x0).toInt ≠ 44 := fun h => c_1_44 (Int32.toInt_inj.mp (h.trans (by decide)))
  have nc_1_45 : (x0).toInt ≠ 45 := fun h => c_1_45 (Int32.toInt_inj.mp (h.trans (by decide)))
  have nc_1_46 : (x0).toInt ≠ 46 := fun h => c_1_46 (Int32.toInt_inj.mp (h.trans (by decide)))
  have nc_1_47 : (x0).toInt ≠ 47 := fun h => c_1_47 (Int32.toInt_inj.mp (h.trans (by decide)))
  have nc_1_48 : (x0).toInt ≠ 48 := fun h => c_1_48 (Int32.toInt_inj.mp (h.trans (by decide)))
  have nc_1_49 : (x0).toInt ≠ 49 := fun h => c_1_49 (Int32.toInt_inj.mp (h.trans (by decide)))
  have nc_1_50 : (x0).toInt ≠ 50 := fun h => c_1_50 (Int32.toInt_inj.mp (h.trans (by decide)))
  have nc_1_51 : (x0).toInt ≠ 51 := fun h => c_1_51 (Int32.toInt_inj.mp (h.trans (by decide)))
  have nc_1_52 : (x0).toInt ≠ 52 := fun h => c_1_52 (Int32.toInt_inj.mp (h.trans (by decide)))
  have nc_1_53 : (x0).toInt ≠ 53 := fun h => c_1_53 (Int32.toInt_inj.mp (h.trans (by decide)))
  have nc_1_54 : (x0).toInt ≠ 54 := fun h => c_1_54 (Int32.toInt_inj.mp (h.trans (by decide)))
  have nc_1_55 : (x0).toInt ≠ 55 := fun h => c_1_55 (Int32.toInt_inj.mp (h.trans (by decide)))
  have nc_1_56 : (x0).toInt ≠ 56 := fun h => c_1_56 (Int32.toInt_inj.mp (h.trans (by decide)))
  have nc_1_57 : (x0).toInt ≠ 57 := fun h => c_1_57 (Int32.toInt_inj.mp (h.trans (by decide)))
  have nc_1_58 : (x0).toInt ≠ 58 := fun h => c_1_58 (Int32.toInt_inj.mp (h.trans (by decide)))
  have nc_1_59 : (x0).toInt ≠ 59 := fun h => c_1_59 (Int32.toInt_inj.mp (h.trans (by decide)))
  have nc_1_60 : (x0).toInt ≠ 60 := fun h => c_1_60 (Int32.toInt_inj.mp (h.trans (by decide)))
  have nc_1_61 : (x0).toInt ≠ 61 := fun h => c_1_61 (Int32.toInt_inj.mp (h.trans (by decide)))
  refine lv_tableOut (tgt := 106) hx hb dX10_isOwnToken_1 (by omega) (by decide) ?_
  refine lv_iconst (v := (0 : Int32)) hx hb dX10_isOwnToken_106 (by decide) ?_
  subst hf
  exact k_zret X (Or.inl rfl) hw dX10_isOwnToken_107
theorem zb_X10_isOwnToken (x0 : Int32) : f_X10_isOwnToken x0 = 0 ∨ f_X10_isOwnToken x0 = 1 := by
  unfold f_X10_isOwnToken
  repeat' apply ite_z
  all_goals first | exact Or.inl rfl | exact Or.inr rfl
/-! boolean isSign(char); -/
def f_X10_isSign (t_kind : Int32) (t_value : Int32) (x1 : Int32) : Int32 := if t_kind = (4 : Int32) then if t_value = x1 then ((1 : Int32))
    else ((0 : Int32))
  else ((0 : Int32))
abbrev rm_X10_isSign : Room := { frames := 0, cells := 0, slots := 0, locals := 0 }
theorem hd_X10_isSign : yX10_isSign.cls = RX10 ∧ yX10_isSign.cls ≠ "java/lang/invoke/MethodHandle" ∧ yX10_isSign.cls ≠ "java/lang/invoke/VarHandle" ∧ (parseMethodDescriptor yX10_isSign.desc).map (fun d => d.parameters.length) = some 1 := by decide +kernel
set_option maxRecDepth 100000 in
set_option maxHeartbeats 4000000 in
theorem c_X10_isSign {E : En} {l : Launch} {t_o : Nat} {t_q : Nat → Nat} {t_signs : (Nat → Int32)} {t_length : Int32} {t_place : Int32} {t_behind : Int32} {t_kind : Int32} {t_value : Int32} {t_letters : Int64} {t_word : (Option Nat)} {x1 : Int32} {out : Int32} (hf : f_X10_isSign t_kind t_value x1 = out) : Cn E l yX10_isSign cX10_isSign 2 (some .boolean) rm_X10_isSign [.ref t_o, .int (x1)] (wX10 E t_o t_q t_signs t_length t_place t_behind t_kind t_value t_letters t_word) (some (.int out)) (wX10 E t_o t_q t_signs t_length t_place t_behind t_kind t_value t_letters t_word) := by
  refine Cn.of (by decide) (Nat.le_of_ble_eq_true rfl) rfl ?_
  intro p e s m below meth c A ls args H locs X hw hl
  have hx := X.1.1
  have hb := X.1.2.1
  have ho := X.1.2.2.2.1
  have hts := X.1.2.2.2.2
  have hl : lv_has ls 2 [(0, .ref t_o), (1, .int (x1))] := hl
  unfold f_X10_isSign at hf
  refine lv_aload_n hx hb dX10_isSign_0 rfl (lv_at hl 0 rfl) ?_
  refine k_get (q0 := 0) (ci := 9) (C := RX10) (T := TX10) (N := 8) (x := .int (t_kind)) X inx_10 hw rfl rfl 4 (by decide) rfl tw_161 rfl dX10_isSign_1 ?_
  refine lv_iconst (v := (4 : Int32)) hx hb dX10_isSign_4 (by decide) ?_
  refine lv_icmp_ne (tgt := 20) hx hb dX10_isSign_5 (by decide) (fun c_5 => ?_) (fun c_5 => ?_)
  · have hf := (if_neg c_5).symm.trans hf
    refine lv_iconst (v := (0 : Int32)) hx hb dX10_isSign_20 (by decide) ?_
    subst hf
    exact k_zret X (Or.inl rfl) hw dX10_isSign_21
  · have hf := (if_pos c_5).symm.trans hf
    refine lv_aload_n hx hb dX10_isSign_8 rfl (lv_at hl 0 rfl) ?_
    refine k_get (q0 := 0) (ci := 9) (C := RX10) (T := TX10) (N := 8) (x := .int (t_value)) X inx_10 hw rfl rfl 5 (by decide) rfl tw_162 rfl dX10_isSign_9 ?_
    refine lv_iload_n hx hb dX10_isSign_12 rfl (lv_at hl 1 rfl) ?_
    refine lv_icmp_ne (tgt := 20) hx hb dX10_isSign_13 (by decide) (fun c_13 => ?_) (fun c_13 => ?_)
    · have hf := (if_neg c_13).symm.trans hf
      refine lv_iconst (v := (0 : Int32)) hx hb dX10_isSign_20 (by decide) ?_
      subst hf
      exact k_zret X (Or.inl rfl) hw dX10_isSign_21
    · have hf := (if_pos c_13).symm.trans hf
      refine lv_iconst (v := (1 : Int32)) hx hb dX10_isSign_16 (by decide) ?_
      refine lv_goto (tgt := 21) hx hb dX10_isSign_17 (by decide) ?_
      subst hf
      exact k_zret X (Or.inr rfl) hw dX10_isSign_21
theorem zb_X10_isSign (t_kind : Int32) (t_value : Int32) (x1 : Int32) : f_X10_isSign t_kind t_value x1 = 0 ∨ f_X10_isSign t_kind t_value x1 = 1 := by
  unfold f_X10_isSign
  repeat' apply ite_z
  all_goals first | exact Or.inl rfl | exact Or.inr rfl
/-! boolean isName(); -/
def f_X10_isName (t_kind : Int32) (t_word : (Option Nat)) : Option (Int32) := if t_kind = (2 : Int32) then if t_word = none then some ((1 : Int32))
    else en (t_word) fun i19 => if (eRes i19) = (0 : Int32) then some ((1 : Int32))
    else some ((0 : Int32))
  else some ((0 : Int32))
abbrev rm_X10_isName : Room := { frames := 0, cells := 0, slots := 0, locals := 0 }
theorem hd_X10_isName : yX10_isName.cls = RX10 ∧ yX10_isName.cls ≠ "java/lang/invoke/MethodHandle" ∧ yX10_isName.cls ≠ "java/lang/invoke/VarHandle" ∧ (parseMethodDescriptor yX10_isName.desc).map (fun d => d.parameters.length) = some 0 := by decide +kernel
set_option maxRecDepth 100000 in
set_option maxHeartbeats 4000000 in
theorem c_X10_isName {E : En} {l : Launch} {t_o : Nat} {t_q : Nat → Nat} {t_signs : (Nat → Int32)} {t_length : Int32} {t_place : Int32} {t_behind : Int32} {t_kind : Int32} {t_value : Int32} {t_letters : Int64} {t_word : (Option Nat)}  {out : Int32} (hf : f_X10_isName t_kind t_word = some out) : Cn E l yX10_isName cX10_isName 1 (some .boolean) rm_X10_isName [.ref t_o] (wX10 E t_o t_q t_signs t_length t_place t_behind t_kind t_value t_letters t_word) (some (.int out)) (wX10 E t_o t_q t_signs t_length t_place t_behind t_kind t_value t_letters t_word) := by
  refine Cn.of (by decide) (Nat.le_of_ble_eq_true rfl) rfl ?_
  intro p e s m below meth c A ls args H locs X hw hl
  have hx := X.1.1
  have hb := X.1.2.1
  have ho := X.1.2.2.2.1
  have hts := X.1.2.2.2.2
  have hl : lv_has ls 1 [(0, .ref t_o)] := hl
  unfold f_X10_isName at hf
  refine lv_aload_n hx hb dX10_isName_0 rfl (lv_at hl 0 rfl) ?_
  refine k_get (q0 := 0) (ci := 9) (C := RX10) (T := TX10) (N := 8) (x := .int (t_kind)) X inx_10 hw rfl rfl 4 (by decide) rfl tw_161 rfl dX10_isName_1 ?_
  refine lv_iconst (v := (2 : Int32)) hx hb dX10_isName_4 (by decide) ?_
  refine lv_icmp_ne (tgt := 29) hx hb dX10_isName_5 (by decide) (fun c_5 => ?_) (fun c_5 => ?_)
  · have hf := (if_neg c_5).symm.trans hf
    refine lv_iconst (v := (0 : Int32)) hx hb dX10_isName_29 (by decide) ?_
    obtain rfl := Option.some.inj hf
    exact k_zret X (Or.inl rfl) hw dX10_isName_30
  · have hf := (if_pos c_5).symm.trans hf
    refine lv_aload_n hx hb dX10_isName_8 rfl (lv_at hl 0 rfl) ?_
    refine k_get (q0 := 0) (ci := 9) (C := RX10) (T := TX10) (N := 8) (x := va_re E.2.2 (t_word)) X inx_10 hw rfl rfl 7 (by decide) rfl tw_167 rfl dX10_isName_9 ?_
    refine k_ifnullE (ad := E.2.2) (x := t_word) (tgt := 25) hx hb dX10_isName_12 (by decide) (fun c_12 => ?_) (fun c_12 => ?_)
    · have hf := (if_pos c_12).symm.trans hf
      refine lv_iconst (v := (1 : Int32)) hx hb dX10_isName_25 (by decide) ?_
      refine lv_goto (tgt := 30) hx hb dX10_isName_26 (by decide) ?_
      obtain rfl := Option.some.inj hf
      exact k_zret X (Or.inr rfl) hw dX10_isName_30
    · have hf := (if_neg c_12).symm.trans hf
      refine lv_aload_n hx hb dX10_isName_15 rfl (lv_at hl 0 rfl) ?_
      refine k_get (q0 := 0) (ci := 9) (C := RX10) (T := TX10) (N := 8) (x := va_re E.2.2 (t_word)) X inx_10 hw rfl rfl 7 (by decide) rfl tw_167 rfl dX10_isName_16 ?_
      obtain ⟨i19, hxi_19, hlt_19, hf⟩ := en_some hf
      refine k_res X hw hxi_19 hlt_19 nw_98 dX10_isName_19 ?_
      refine lv_if_ne (tgt := 29) hx hb dX10_isName_22 (by decide) (fun c_22 => ?_) (fun c_22 => ?_)
      · have hf := (if_neg c_22).symm.trans hf
        refine lv_iconst (v := (0 : Int32)) hx hb dX10_isName_29 (by decide) ?_
        obtain rfl := Option.some.inj hf
        exact k_zret X (Or.inl rfl) hw dX10_isName_30
      · have hf := (if_pos c_22).symm.trans hf
        refine lv_iconst (v := (1 : Int32)) hx hb dX10_isName_25 (by decide) ?_
        refine lv_goto (tgt := 30) hx hb dX10_isName_26 (by decide) ?_
        obtain rfl := Option.some.inj hf
        exact k_zret X (Or.inr rfl) hw dX10_isName_30
/-! static long withLetter(long, int); -/
def f_X11_withLetter (x0 : Int64) (x2 : Int32) : Int64 := (((x0 * (32 : Int64)) + ((((x2 - (97 : Int32)) + (1 : Int32))).toInt64)))
abbrev rm_X11_withLetter : Room := { frames := 0, cells := 0, slots := 0, locals := 0 }
theorem hd_X11_withLetter : yX11_withLetter.cls = RX11 ∧ yX11_withLetter.cls ≠ "java/lang/invoke/MethodHandle" ∧ yX11_withLetter.cls ≠ "java/lang/invoke/VarHandle" ∧ (parseMethodDescriptor yX11_withLetter.desc).map (fun d => d.parameters.length) = some 2 := by decide +kernel
set_option maxRecDepth 100000 in
set_option maxHeartbeats 4000000 in
theorem c_X11_withLetter {E : En} {l : Launch}  {x0 : Int64} {x2 : Int32} {out : Int64} (hf : f_X11_withLetter x0 x2 = out) : Cn E l yX11_withLetter cX11_withLetter 3 (some .long) rm_X11_withLetter [.long (x0), .int (x2)] (([] : va_W)) (some (.long out)) (([] : va_W)) := by
  refine Cn.of (by decide) (Nat.le_of_ble_eq_true rfl) rfl ?_
  intro p e s m below meth c A ls args H locs X hw hl
  have hx := X.1.1
  have hb := X.1.2.1
  have ho := X.1.2.2.2.1
  have hts := X.1.2.2.2.2
  have hl : lv_has ls 3 [(0, .long (x0)), (2, .int (x2))] := hl
  unfold f_X11_withLetter at hf
  refine lv_lload_n hx hb dX11_withLetter_0 rfl (lv_at hl 0 rfl) ?_
  refine lv_ldc2 (v := (32 : Int64)) hx hb ho (hts _ tw_600) dX11_withLetter_1 ?_
  refine lv_lmul hx hb dX11_withLetter_4 ?_
  refine lv_iload_n hx hb dX11_withLetter_5 rfl (lv_at hl 1 rfl) ?_
  refine lv_bipush (v := (97 : Int32)) hx hb dX11_withLetter_6 (by decide) ?_
  refine lv_isub hx hb dX11_withLetter_8 ?_
  refine lv_iconst (v := (1 : Int32)) hx hb dX11_withLetter_9 (by decide) ?_
  refine lv_iadd hx hb dX11_withLetter_10 ?_
  refine lv_i2l (v := (((x2 - (97 : Int32)) + (1 : Int32))).toInt64) hx hb dX11_withLetter_11 rfl ?_
  refine lv_ladd hx hb dX11_withLetter_12 ?_
  subst hf
  exact k_lret X hw dX11_withLetter_13
/-! static PloughCall$Word spelt(long); -/
def f_X11_spelt_2 : Nat → Int64 → Int32 → Option ((Option Nat))
  | 0, _, _ => none
  | n + 1, x0, x2 => if (32 : Int32) ≤ x2 then some (none)
    else gd (x2) 32 (en ((some (x2).toNatClampNeg)) fun i15 => if (lg_cmp (eLet i15) x0) = (0 : Int32) then gd (x2) 32 (some ((some (x2).toNatClampNeg)))
    else f_X11_spelt_2 n x0 ((x2 + (1 : Int32))))
def f_X11_spelt (x0 : Int64) : Option ((Option Nat)) := f_X11_spelt_2 1100 x0 ((0 : Int32))
abbrev rm_X11_spelt : Room := { frames := 0, cells := 0, slots := 0, locals := 0 }
theorem hd_X11_spelt : yX11_spelt.cls = RX11 ∧ yX11_spelt.cls ≠ "java/lang/invoke/MethodHandle" ∧ yX11_spelt.cls ≠ "java/lang/invoke/VarHandle" ∧ (parseMethodDescriptor yX11_spelt.desc).map (fun d => d.parameters.length) = some 1 := by decide +kernel
set_option maxRecDepth 100000 in
set_option maxHeartbeats 4000000 in
theorem kb_X11_spelt_2 {E : En} {p : Program} {l : Launch} {e : Env} {s : State} {m : MethodId} {args : Array Value} {below : List Frame} {meth : Method} {c : Code} {A : Nat → Prop}  {out : (Option Nat)} (X : Bx E A p s m args meth c cX11_spelt 3 RX11 (some (.object "PloughCall$Word"))) : ∀ (n : Nat) {x0 : Int64} {x2 : Int32} {H : Heap} {locs : List Loc} {ls : Array Slot}, f_X11_spelt_2 n x0 x2 = some out → Wd E A s.heap (([] : va_W)) H locs → lv_has ls 3 [(0, .long (x0)), (2, .int (x2))] → W p l e rm_X11_spelt s m args below meth c H locs 0 0 (Zn E below args s A (some (va_re E.2.2 out)) (([] : va_W))) (F0 m 2 ls []) := by
  have hx := X.1.1
  have hb := X.1.2.1
  have ho := X.1.2.2.2.1
  have hts := X.1.2.2.2.2
  intro n
  induction n with
  | zero =>
    intro x0 x2 H locs ls hf
    have hf : (none : Option ((Option Nat))) = some out := hf
    cases hf
  | succ n ih =>
    intro x0 x2 H locs ls hf hw hl
    rw [f_X11_spelt_2.eq_2] at hf
    refine lv_iload_n hx hb dX11_spelt_2 rfl (lv_at hl 1 rfl) ?_
    refine k_wt X hw tw_604 dX11_spelt_3 ?_
    refine k_wtl X hw dX11_spelt_6 ?_
    refine lv_icmp_ge (tgt := 35) hx hb dX11_spelt_7 (by decide) (fun c_7 => ?_) (fun c_7 => ?_)
    · have hf := (if_pos c_7).symm.trans hf
      refine lv_null hx hb dX11_spelt_35 ?_
      obtain rfl := Option.some.inj hf
      exact k_eret (ad := E.2.2) (x := none) X ⟨_, rfl⟩ hw dX11_spelt_36
    · have hf := (if_neg c_7).symm.trans hf
      refine k_wt X hw tw_604 dX11_spelt_10 ?_
      refine lv_iload_n hx hb dX11_spelt_13 rfl (lv_at hl 1 rfl) ?_
      obtain ⟨hi_14, hf⟩ := gd_some hf
      refine k_wti X hw hi_14 dX11_spelt_14 ?_
      obtain ⟨i15, hxi_15, hlt_15, hf⟩ := en_some hf
      refine k_let X hw hxi_15 hlt_15 tw_2060 dX11_spelt_15 ?_
      refine lv_lload_n hx hb dX11_spelt_18 rfl (lv_at hl 0 rfl) ?_
      refine W.lcmp hx hb dX11_spelt_19 ?_
      refine lv_if_ne (tgt := 29) hx hb dX11_spelt_20 (by decide) (fun c_20 => ?_) (fun c_20 => ?_)
      · have hf := (if_neg c_20).symm.trans hf
        refine lv_iinc (v := (x2 + (1 : Int32))) (lv' := [(2, .int ((x2 + (1 : Int32)))), (0, .long (x0))]) hx hb dX11_spelt_29 hl (k := 1) rfl rfl (by decide) rfl (fun ls hl => ?_)
        refine lv_goto (tgt := 2) hx hb dX11_spelt_32 (by decide) ?_
        exact ih hf hw (lv_sub hl [1, 0] rfl)
      · have hf := (if_pos c_20).symm.trans hf
        refine k_wt X hw tw_604 dX11_spelt_23 ?_
        refine lv_iload_n hx hb dX11_spelt_26 rfl (lv_at hl 1 rfl) ?_
        obtain ⟨hi_27, hf⟩ := gd_some hf
        refine k_wti X hw hi_27 dX11_spelt_27 ?_
        obtain rfl := Option.some.inj hf
        exact k_eret (ad := E.2.2) (x := (some (x2).toNatClampNeg)) X ⟨_, rfl⟩ hw dX11_spelt_28
set_option maxRecDepth 100000 in
set_option maxHeartbeats 4000000 in
theorem c_X11_spelt {E : En} {l : Launch}  {x0 : Int64} {out : (Option Nat)} (hf : f_X11_spelt x0 = some out) : Cn E l yX11_spelt cX11_spelt 3 (some (.object "PloughCall$Word")) rm_X11_spelt [.long (x0)] (([] : va_W)) (some (va_re E.2.2 out)) (([] : va_W)) := by
  refine Cn.of (by decide) (Nat.le_of_ble_eq_true rfl) rfl ?_
  intro p e s m below meth c A ls args H locs X hw hl
  have hx := X.1.1
  have hb := X.1.2.1
  have ho := X.1.2.2.2.1
  have hts := X.1.2.2.2.2
  have hl : lv_has ls 3 [(0, .long (x0))] := hl
  unfold f_X11_spelt at hf
  refine lv_iconst (v := (0 : Int32)) hx hb dX11_spelt_0 (by decide) ?_
  refine lv_istore_n (lv' := [(2, .int ((0 : Int32))), (0, .long (x0))]) hx hb dX11_spelt_1 rfl hl (by decide) rfl (fun ls hl => ?_)
  exact kb_X11_spelt_2 X 1100 hf hw (lv_sub hl [1, 0] rfl)
/-! private PloughCall$Mark markAt(int); -/
def f_X12_markAt (x1 : Int32) : Option ((Option Nat)) := if x1 < (0 : Int32) then some (none)
  else if (4 : Int32) ≤ x1 then some (none)
  else gd (x1) 4 (some ((some (x1).toNatClampNeg)))
abbrev rm_X12_markAt : Room := { frames := 0, cells := 0, slots := 0, locals := 0 }
theorem hd_X12_markAt : yX12_markAt.cls = RX12 ∧ yX12_markAt.cls ≠ "java/lang/invoke/MethodHandle" ∧ yX12_markAt.cls ≠ "java/lang/invoke/VarHandle" ∧ (parseMethodDescriptor yX12_markAt.desc).map (fun d => d.parameters.length) = some 1 := by decide +kernel
set_option maxRecDepth 100000 in
set_option maxHeartbeats 4000000 in
theorem c_X12_markAt {E : En} {l : Launch} {tsmarks_o : Nat → Nat} {t_o : Nat} {t_q : Nat → Nat} {t_tape : Value} {t_reader : Value} {t_counsel : Value} {t_now : Value} {t_trial : Value} {t_past : Value} {t_reports : Value} {t_city : Value} {t_spareCity : Value} {t_script : Value} {t_spareScript : Value} {t_firstRefused : Int32} {t_firstKept : Int32} {x1 : Int32} {out : (Option Nat)} (hf : f_X12_markAt x1 = some out) : Cn E l yX12_markAt cX12_markAt 2 (some (.object "PloughCall$Mark")) rm_X12_markAt [.ref t_o, .int (x1)] (wX12 E t_o t_q t_tape t_reader t_counsel t_now t_trial t_past t_reports ((fun j => some (tsmarks_o j))) t_city t_spareCity t_script t_spareScript t_firstRefused t_firstKept) (some (va_re tsmarks_o out)) (wX12 E t_o t_q t_tape t_reader t_counsel t_now t_trial t_past t_reports ((fun j => some (tsmarks_o j))) t_city t_spareCity t_script t_spareScript t_firstRefused t_firstKept) := by
  refine Cn.of (by decide) (Nat.le_of_ble_eq_true rfl) rfl ?_
  intro p e s m below meth c A ls args H locs X hw hl
  have hx := X.1.1
  have hb := X.1.2.1
  have ho := X.1.2.2.2.1
  have hts := X.1.2.2.2.2
  have hl : lv_has ls 2 [(0, .ref t_o), (1, .int (x1))] := hl
  unfold f_X12_markAt at hf
  refine lv_iload_n hx hb dX12_markAt_0 rfl (lv_at hl 1 rfl) ?_
  refine lv_if_lt (tgt := 22) hx hb dX12_markAt_1 (by decide) (fun c_1 => ?_) (fun c_1 => ?_)
  · have hf := (if_pos c_1).symm.trans hf
    refine lv_null hx hb dX12_markAt_22 ?_
    obtain rfl := Option.some.inj hf
    exact k_eret (ad := tsmarks_o) (x := none) X ⟨_, rfl⟩ hw dX12_markAt_23
  · have hf := (if_neg c_1).symm.trans hf
    refine lv_iload_n hx hb dX12_markAt_4 rfl (lv_at hl 1 rfl) ?_
    refine lv_aload_n hx hb dX12_markAt_5 rfl (lv_at hl 0 rfl) ?_
    refine k_get (q0 := 0) (ci := 10) (C := RX12) (T := TX12) (N := 14) (x := .ref (t_q 7)) X inx_12 hw rfl rfl 7 (by decide) rfl tw_515 rfl dX12_markAt_6 ?_
    refine k_alen (q0 := 1) (t0 := 3) (v9 := (4 : Int32)) X hw rfl rfl rfl dX12_markAt_9 ?_
    refine lv_icmp_ge (tgt := 22) hx hb dX12_markAt_10 (by decide) (fun c_10 => ?_) (fun c_10 => ?_)
    · have hf := (if_pos c_10).symm.trans hf
      refine lv_null hx hb dX12_markAt_22 ?_
      obtain rfl := Option.some.inj hf
      exact k_eret (ad := tsmarks_o) (x := none) X ⟨_, rfl⟩ hw dX12_markAt_23
    · have hf := (if_neg c_10).symm.trans hf
      refine lv_aload_n hx hb dX12_markAt_13 rfl (lv_at hl 0 rfl) ?_
      refine k_get (q0 := 0) (ci := 10) (C := RX12) (T := TX12) (N := 14) (x := .ref (t_q 7)) X inx_12 hw rfl rfl 7 (by decide) rfl tw_515 rfl dX12_markAt_14 ?_
      refine lv_iload_n hx hb dX12_markAt_17 rfl (lv_at hl 1 rfl) ?_
      obtain ⟨hi_18, hf⟩ := gd_some hf
      refine k_aald (t0 := 3) (q0 := 1) (n := 4) (ad := tsmarks_o) X hw rfl rfl hi_18 dX12_markAt_18 ?_
      refine lv_goto (tgt := 23) hx hb dX12_markAt_19 (by decide) ?_
      obtain rfl := Option.some.inj hf
      exact k_eret (ad := tsmarks_o) (x := (some (x1).toNatClampNeg)) X ⟨_, rfl⟩ hw dX12_markAt_23
