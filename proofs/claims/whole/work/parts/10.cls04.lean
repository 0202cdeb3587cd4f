/-! private int toldOne(boolean); -/
def f_X6_toldOne_53 (t_fault : Int32) (tstape_place : Int32) (s0 : Int32) : Option (Int32 × Int32) := if s0 = (-1 : Int32) then some (s0, (f_X6_wrong tstape_place ((2 : Int32))).2)
  else some (s0, t_fault)
def f_X6_toldOne (t_fault : Int32) (tscity_men : Int32) (tscity_dangers : Int32) (tscity_manNames : (Nat → Int64)) (tscity_dangerNames : (Nat → Int64)) (tstape_place : Int32) (tstape_kind : Int32) (tstape_letters : Int64) (tstape_word : (Option Nat)) (x1 : Int32) : Option (Int32 × Int32) := (f_X10_isName tstape_kind tstape_word).bind fun r4 => if r4 = (0 : Int32) then some ((-1 : Int32), (f_X6_wrong tstape_place ((1 : Int32))).2)
  else if x1 = (0 : Int32) then (f_X1_dangerNamed tscity_dangers tscity_dangerNames (tstape_letters)).bind fun r50 => f_X6_toldOne_53 t_fault tstape_place r50
  else (f_X1_manNamed tscity_men tscity_manNames (tstape_letters)).bind fun r33 => f_X6_toldOne_53 t_fault tstape_place r33
abbrev rm_X6_toldOne : Room := { frames := 2, cells := 0, slots := 0, locals := 46 }
theorem hd_X6_toldOne : yX6_toldOne.cls = RX6 ∧ yX6_toldOne.cls ≠ "java/lang/invoke/MethodHandle" ∧ yX6_toldOne.cls ≠ "java/lang/invoke/VarHandle" ∧ (parseMethodDescriptor yX6_toldOne.desc).map (fun d => d.parameters.length) = some 1 := by decide +kernel
set_option maxRecDepth 100000 in
set_option maxHeartbeats 4000000 in
theorem kb_X6_toldOne_53 {E : En} {p : Program} {l : Launch} {e : Env} {s : State} {m : MethodId} {args : Array Value} {below : List Frame} {meth : Method} {c : Code} {A : Nat → Prop} {t_o : Nat} {t_script : Value} {tscity_o : Nat} {tscity_q : Nat → Nat} {tscity_men : Int32} {tscity_consuls : Int32} {tscity_dangers : Int32} {tscity_decrees : Int32} {tscity_term : Int32} {tscity_termTold : Int32} {tscity_manNames : (Nat → Int64)} {tscity_kinds : (Nat → Int32)} {tscity_skills : (Nat → Int32)} {tscity_fields : (Nat → Int32)} {tscity_wants : (Nat → Int32)} {tscity_hated : (Nat → Int32)} {tscity_dangerNames : (Nat → Int64)} {tscity_sizes : (Nat → Int32)} {tscity_grows : (Nat → Int32)} {tscity_decreeNames : (Nat → Int64)} {tscity_grounds : (Nat → Int32)} {tscity_laws : Value} {tstape_o : Nat} {tstape_q : Nat → Nat} {tstape_signs : (Nat → Int32)} {tstape_length : Int32} {tstape_place : Int32} {tstape_behind : Int32} {tstape_kind : Int32} {tstape_value : Int32} {tstape_letters : Int64} {tstape_word : (Option Nat)} {out : Int32 × Int32} (X : Bx E A p s m args meth c cX6_toldOne 3 RX6 (some .int)) {t_fault : Int32} {s0 : Int32} {H : Heap} {locs : List Loc} {ls : Array Slot} (hf : f_X6_toldOne_53 t_fault tstape_place s0 = some out) : Wd E A s.heap (wX6 E t_o (.ref tstape_o) (.ref tscity_o) t_script t_fault ++ (wX1 E tscity_o tscity_q tscity_men tscity_consuls tscity_dangers tscity_decrees tscity_term tscity_termTold tscity_manNames tscity_kinds tscity_skills tscity_fields tscity_wants tscity_hated tscity_dangerNames tscity_sizes tscity_grows tscity_decreeNames tscity_grounds tscity_laws ++ (wX10 E tstape_o tstape_q tstape_signs tstape_length tstape_place tstape_behind tstape_kind tstape_value tstape_letters tstape_word))) H locs → lv_has ls 3 [(0, .ref t_o)] → W p l e rm_X6_toldOne s m args below meth c H locs 0 0 (Zn E below args s A (some (.int out.1)) (wX6 E t_o (.ref tstape_o) (.ref tscity_o) t_script out.2 ++ (wX1 E tscity_o tscity_q tscity_men tscity_consuls tscity_dangers tscity_decrees tscity_term tscity_termTold tscity_manNames tscity_kinds tscity_skills tscity_fields tscity_wants tscity_hated tscity_dangerNames tscity_sizes tscity_grows tscity_decreeNames tscity_grounds tscity_laws ++ (wX10 E tstape_o tstape_q tstape_signs tstape_length tstape_place tstape_behind tstape_kind tstape_value tstape_letters tstape_word)))) (F0 m 53 ls [.int (s0)]) := by
  have hx := X.1.1
  have hb := X.1.2.1
  have ho := X.1.2.2.2.1
  have hts := X.1.2.2.2.2
  intro hw hl
  unfold f_X6_toldOne_53 at hf
  refine lv_istore_n (lv' := [(2, .int (s0)), (0, .ref t_o)]) hx hb dX6_toldOne_53 rfl hl (by decide) rfl (fun ls hl => ?_)
  refine lv_iload_n hx hb dX6_toldOne_54 rfl (lv_at hl 0 rfl) ?_
  refine lv_iconst (v := (-1 : Int32)) hx hb dX6_toldOne_55 (by decide) ?_
  refine lv_icmp_ne (tgt := 65) hx hb dX6_toldOne_56 (by decide) (fun c_56 => ?_) (fun c_56 => ?_)
  · have hf := (if_neg c_56).symm.trans hf
    refine lv_iload_n hx hb dX6_toldOne_65 rfl (lv_at hl 0 rfl) ?_
    obtain rfl := Option.some.inj hf
    exact k_iret X hw dX6_toldOne_66
  · have hf := (if_pos c_56).symm.trans hf
    refine lv_aload_n hx hb dX6_toldOne_59 rfl (lv_at hl 1 rfl) ?_
    refine lv_iconst (v := (2 : Int32)) hx hb dX6_toldOne_60 (by decide) ?_
    refine k_V (As := [.int ((2 : Int32))]) (rest := []) (index := 62) (C := RX6) X (c_X6_wrong (out := (f_X6_wrong tstape_place ((2 : Int32)))) rfl) tw_617 tw_619 tw_3 tw_121 tw_620 ⟨rfl, rfl⟩ hd_X6_wrong ⟨Nat.le_of_ble_eq_true rfl, Nat.le_of_ble_eq_true rfl⟩ ⟨Nat.zero_le _, Nat.zero_le _⟩ hw [0, 13, 14] rfl rfl 0 rfl rfl rfl rfl hl.1 rfl (Nat.le_of_ble_eq_true rfl) dX6_toldOne_61 (fun H locs hw => ?_)
    have hw : Wd E A s.heap (wX6 E t_o (.ref tstape_o) (.ref tscity_o) t_script ((f_X6_wrong tstape_place ((2 : Int32))).2) ++ (wX1 E tscity_o tscity_q tscity_men tscity_consuls tscity_dangers tscity_decrees tscity_term tscity_termTold tscity_manNames tscity_kinds tscity_skills tscity_fields tscity_wants tscity_hated tscity_dangerNames tscity_sizes tscity_grows tscity_decreeNames tscity_grounds tscity_laws ++ (wX10 E tstape_o tstape_q tstape_signs tstape_length tstape_place tstape_behind tstape_kind tstape_value tstape_letters tstape_word))) H locs := hw
    refine lv_pop hx hb dX6_toldOne_64 rfl ?_
    refine lv_iload_n hx hb dX6_toldOne_65 rfl (lv_at hl 0 rfl) ?_
    obtain rfl := Option.some.inj hf
    exact k_iret X hw dX6_toldOne_66
set_option maxRecDepth 100000 in
set_option maxHeartbeats 4000000 in
theorem c_X6_toldOne {E : En} {l : Launch} {t_o : Nat} {t_script : Value} {t_fault : Int32} {tscity_o : Nat} {tscity_q : Nat → Nat} {tscity_men : Int32} {tscity_consuls : Int32} {tscity_dangers : Int32} {tscity_decrees : Int32} {tscity_term : Int32} {tscity_termTold : Int32} {tscity_manNames : (Nat → Int64)} {tscity_kinds : (Nat → Int32)} {tscity_skills : (Nat → Int32)} {tscity_fields : (Nat → Int32)} {tscity_wants : (Nat → Int32)} {tscity_hated : (Nat → Int32)} {tscity_dangerNames : (Nat → Int64)} {tscity_sizes : (Nat → Int32)} {tscity_grows : (Nat → Int32)} {tscity_decreeNames : (Nat → Int64)} {tscity_grounds : (Nat → Int32)} {tscity_laws : Value} {tstape_o : Nat} {tstape_q : Nat → Nat} {tstape_signs : (Nat → Int32)} {tstape_length : Int32} {tstape_place : Int32} {tstape_behind : Int32} {tstape_kind : Int32} {tstape_value : Int32} {tstape_letters : Int64} {tstape_word : (Option Nat)} {x1 : Int32} {out : Int32 × Int32} (hf : f_X6_toldOne t_fault tscity_men tscity_dangers tscity_manNames tscity_dangerNames tstape_place tstape_kind tstape_letters tstape_word x1 = some out) : Cn E l yX6_toldOne cX6_toldOne 3 (some .int) rm_X6_toldOne [.ref t_o, .int (x1)] (wX6 E t_o (.ref tstape_o) (.ref tscity_o) t_script t_fault ++ (wX1 E tscity_o tscity_q tscity_men tscity_consuls tscity_dangers tscity_decrees tscity_term tscity_termTold tscity_manNames tscity_kinds tscity_skills tscity_fields tscity_wants tscity_hated tscity_dangerNames tscity_sizes tscity_grows tscity_decreeNames tscity_grounds tscity_laws ++ (wX10 E tstape_o tstape_q tstape_signs tstape_length tstape_place tstape_behind tstape_kind tstape_value tstape_letters tstape_word))) (some (.int out.1)) (wX6 E t_o (.ref tstape_o) (.ref tscity_o) t_script out.2 ++ (wX1 E tscity_o tscity_q tscity_men tscity_consuls tscity_dangers tscity_decrees tscity_term tscity_termTold tscity_manNames tscity_kinds tscity_skills tscity_fields tscity_wants tscity_hated tscity_dangerNames tscity_sizes tscity_grows tscity_decreeNames tscity_grounds tscity_laws ++ (wX10 E tstape_o tstape_q tstape_signs tstape_length tstape_place tstape_behind tstape_kind tstape_value tstape_letters tstape_word))) := by
  refine Cn.of (by decide) (Nat.le_of_ble_eq_true rfl) rfl ?_
  intro p e s m below meth c A ls args H locs X hw hl
  have hx := X.1.1
  have hb := X.1.2.1
  have ho := X.1.2.2.2.1
  have hts := X.1.2.2.2.2
  have hl : lv_has ls 3 [(0, .ref t_o), (1, .int (x1))] := hl
  unfold f_X6_toldOne at hf
  refine lv_aload_n hx hb dX6_toldOne_0 rfl (lv_at hl 0 rfl) ?_
  refine k_get (q0 := 0) (ci := 5) (C := RX6) (T := TX6) (N := 4) (x := .ref tstape_o) X inx_6 hw rfl rfl 0 (by decide) rfl tw_192 rfl dX6_toldOne_1 ?_
  obtain ⟨r4, hc_4, hf⟩ := bd_some hf
  refine k_V (As := []) (rest := []) (index := 205) (C := RX10) X (c_X10_isName hc_4) tw_638 tw_639 tw_640 tw_120 tw_641 ⟨rfl, rfl⟩ hd_X10_isName ⟨Nat.le_of_ble_eq_true rfl, Nat.le_of_ble_eq_true rfl⟩ ⟨Nat.zero_le _, Nat.zero_le _⟩ hw [13, 14] rfl rfl 13 rfl rfl rfl rfl hl.1 rfl (Nat.le_of_ble_eq_true rfl) dX6_toldOne_4 (fun H locs hw => ?_)
  have hw : Wd E A s.heap (wX6 E t_o (.ref tstape_o) (.ref tscity_o) t_script t_fault ++ (wX1 E tscity_o tscity_q tscity_men tscity_consuls tscity_dangers tscity_decrees tscity_term tscity_termTold tscity_manNames tscity_kinds tscity_skills tscity_fields tscity_wants tscity_hated tscity_dangerNames tscity_sizes tscity_grows tscity_decreeNames tscity_grounds tscity_laws ++ (wX10 E tstape_o tstape_q tstape_signs tstape_length tstape_place tstape_behind tstape_kind tstape_value tstape_letters tstape_word))) H locs := hw
  refine lv_if_ne (tgt := 18) hx hb dX6_toldOne_7 (by decide) (fun c_7 => ?_) (fun c_7 => ?_)
  · have hf := (if_neg c_7).symm.trans hf
    refine lv_iload_n hx hb dX6_toldOne_18 rfl (lv_at hl 1 rfl) ?_
    refine lv_if_eq (tgt := 39) hx hb dX6_toldOne_19 (by decide) (fun c_19 => ?_) (fun c_19 => ?_)
    · have hf := (if_pos c_19).symm.trans hf
      refine lv_aload_n hx hb dX6_toldOne_39 rfl (lv_at hl 0 rfl) ?_
      refine k_get (q0 := 0) (ci := 5) (C := RX6) (T := TX6) (N := 4) (x := .ref tscity_o) X inx_6 hw rfl rfl 1 (by decide) rfl tw_193 rfl dX6_toldOne_40 ?_
      refine lv_aload_n hx hb dX6_toldOne_43 rfl (lv_at hl 0 rfl) ?_
      refine k_get (q0 := 0) (ci := 5) (C := RX6) (T := TX6) (N := 4) (x := .ref tstape_o) X inx_6 hw rfl rfl 0 (by decide) rfl tw_192 rfl dX6_toldOne_44 ?_
      refine k_getN (q0 := 13) (ci := 9) (C := RX10) (T := TX10) (N := 8) (host := "PloughCall") (x := .long (tstape_letters)) X inx_10 hw rfl rfl 6 (by decide) rfl nw_5 rfl dX6_toldOne_47 ?_
      obtain ⟨r50, hc_50, hf⟩ := bd_some hf
      refine k_V (As := [.long (tstape_letters)]) (rest := []) (index := 271) (C := RX1) X (c_X1_dangerNamed hc_50) tw_711 tw_654 tw_655 tw_126 tw_656 ⟨rfl, rfl⟩ hd_X1_dangerNamed ⟨Nat.le_of_ble_eq_true rfl, Nat.le_of_ble_eq_true rfl⟩ ⟨Nat.zero_le _, Nat.zero_le _⟩ hw [1, 2, 3, 4, 5, 6, 7, 8, 9, 10, 11, 12] rfl rfl 1 rfl rfl rfl rfl hl.1 rfl (Nat.le_of_ble_eq_true rfl) dX6_toldOne_50 (fun H locs hw => ?_)
      have hw : Wd E A s.heap (wX6 E t_o (.ref tstape_o) (.ref tscity_o) t_script t_fault ++ (wX1 E tscity_o tscity_q tscity_men tscity_consuls tscity_dangers tscity_decrees tscity_term tscity_termTold tscity_manNames tscity_kinds tscity_skills tscity_fields tscity_wants tscity_hated tscity_dangerNames tscity_sizes tscity_grows tscity_decreeNames tscity_grounds tscity_laws ++ (wX10 E tstape_o tstape_q tstape_signs tstape_length tstape_place tstape_behind tstape_kind tstape_value tstape_letters tstape_word))) H locs := hw
      exact kb_X6_toldOne_53 X hf hw (lv_sub hl [0] rfl)
    · have hf := (if_neg c_19).symm.trans hf
      refine lv_aload_n hx hb dX6_toldOne_22 rfl (lv_at hl 0 rfl) ?_
      refine k_get (q0 := 0) (ci := 5) (C := RX6) (T := TX6) (N := 4) (x := .ref tscity_o) X inx_6 hw rfl rfl 1 (by decide) rfl tw_193 rfl dX6_toldOne_23 ?_
      refine lv_aload_n hx hb dX6_toldOne_26 rfl (lv_at hl 0 rfl) ?_
      refine k_get (q0 := 0) (ci := 5) (C := RX6) (T := TX6) (N := 4) (x := .ref tstape_o) X inx_6 hw rfl rfl 0 (by decide) rfl tw_192 rfl dX6_toldOne_27 ?_
      refine k_getN (q0 := 13) (ci := 9) (C := RX10) (T := TX10) (N := 8) (host := "PloughCall") (x := .long (tstape_letters)) X inx_10 hw rfl rfl 6 (by decide) rfl nw_5 rfl dX6_toldOne_30 ?_
      obtain ⟨r33, hc_33, hf⟩ := bd_some hf
      refine k_V (As := [.long (tstape_letters)]) (rest := []) (index := 268) (C := RX1) X (c_X1_manNamed hc_33) tw_710 tw_647 tw_648 tw_126 tw_649 ⟨rfl, rfl⟩ hd_X1_manNamed ⟨Nat.le_of_ble_eq_true rfl, Nat.le_of_ble_eq_true rfl⟩ ⟨Nat.zero_le _, Nat.zero_le _⟩ hw [1, 2, 3, 4, 5, 6, 7, 8, 9, 10, 11, 12] rfl rfl 1 rfl rfl rfl rfl hl.1 rfl (Nat.le_of_ble_eq_true rfl) dX6_toldOne_33 (fun H locs hw => ?_)
      have hw : Wd E A s.heap (wX6 E t_o (.ref tstape_o) (.ref tscity_o) t_script t_fault ++ (wX1 E tscity_o tscity_q tscity_men tscity_consuls tscity_dangers tscity_decrees tscity_term tscity_termTold tscity_manNames tscity_kinds tscity_skills tscity_fields tscity_wants tscity_hated tscity_dangerNames tscity_sizes tscity_grows tscity_decreeNames tscity_grounds tscity_laws ++ (wX10 E tstape_o tstape_q tstape_signs tstape_length tstape_place tstape_behind tstape_kind tstape_value tstape_letters tstape_word))) H locs := hw
      refine lv_goto (tgt := 53) hx hb dX6_toldOne_36 (by decide) ?_
      exact kb_X6_toldOne_53 X hf hw (lv_sub hl [0] rfl)
  · have hf := (if_pos c_7).symm.trans hf
    refine lv_aload_n hx hb dX6_toldOne_10 rfl (lv_at hl 0 rfl) ?_
    refine lv_iconst (v := (1 : Int32)) hx hb dX6_toldOne_11 (by decide) ?_
    refine k_V (As := [.int ((1 : Int32))]) (rest := []) (index := 62) (C := RX6) X (c_X6_wrong (out := (f_X6_wrong tstape_place ((1 : Int32)))) rfl) tw_617 tw_619 tw_3 tw_121 tw_620 ⟨rfl, rfl⟩ hd_X6_wrong ⟨Nat.le_of_ble_eq_true rfl, Nat.le_of_ble_eq_true rfl⟩ ⟨Nat.zero_le _, Nat.zero_le _⟩ hw [0, 13, 14] rfl rfl 0 rfl rfl rfl rfl hl.1 rfl (Nat.le_of_ble_eq_true rfl) dX6_toldOne_12 (fun H locs hw => ?_)
    have hw : Wd E A s.heap (wX6 E t_o (.ref tstape_o) (.ref tscity_o) t_script ((f_X6_wrong tstape_place ((1 : Int32))).2) ++ (wX1 E tscity_o tscity_q tscity_men tscity_consuls tscity_dangers tscity_decrees tscity_term tscity_termTold tscity_manNames tscity_kinds tscity_skills tscity_fields tscity_wants tscity_hated tscity_dangerNames tscity_sizes tscity_grows tscity_decreeNames tscity_grounds tscity_laws ++ (wX10 E tstape_o tstape_q tstape_signs tstape_length tstape_place tstape_behind tstape_kind tstape_value tstape_letters tstape_word))) H locs := hw
    refine lv_pop hx hb dX6_toldOne_15 rfl ?_
    refine lv_iconst (v := (-1 : Int32)) hx hb dX6_toldOne_16 (by decide) ?_
    obtain rfl := Option.some.inj hf
    exact k_iret X hw dX6_toldOne_17
/-! boolean add(int, int, int); -/
def f_X7_add (t_told : Int32) (t_dangers : (Nat → Int32)) (t_months : (Nat → Int32)) (t_sizes : (Nat → Int32)) (x1 : Int32) (x2 : Int32) (x3 : Int32) : Int32 × Int32 × (Nat → Int32) × (Nat → Int32) × (Nat → Int32) := if t_told < (8 : Int32) then ((1 : Int32), (t_told + (1 : Int32)), (gp (8) t_dangers (t_told) (x1)), (gp (8) t_months (t_told) (x2)), (gp (8) t_sizes (t_told) (x3)))
  else ((0 : Int32), t_told, t_dangers, t_months, t_sizes)
abbrev rm_X7_add : Room := { frames := 1, cells := 0, slots := 0, locals := 22 }
theorem hd_X7_add : yX7_add.cls = RX7 ∧ yX7_add.cls ≠ "java/lang/invoke/MethodHandle" ∧ yX7_add.cls ≠ "java/lang/invoke/VarHandle" ∧ (parseMethodDescriptor yX7_add.desc).map (fun d => d.parameters.length) = some 3 := by decide +kernel
set_option maxRecDepth 100000 in
set_option maxHeartbeats 4000000 in
theorem c_X7_add {E : En} {l : Launch} {t_o : Nat} {t_q : Nat → Nat} {t_told : Int32} {t_dangers : (Nat → Int32)} {t_months : (Nat → Int32)} {t_sizes : (Nat → Int32)} {x1 : Int32} {x2 : Int32} {x3 : Int32} {out : Int32 × Int32 × (Nat → Int32) × (Nat → Int32) × (Nat → Int32)} (hf : f_X7_add t_told t_dangers t_months t_sizes x1 x2 x3 = out) : Cn E l yX7_add cX7_add 4 (some .boolean) rm_X7_add [.ref t_o, .int (x1), .int (x2), .int (x3)] (wX7 E t_o t_q t_told t_dangers t_months t_sizes) (some (.int out.1)) (wX7 E t_o t_q out.2.1 out.2.2.1 out.2.2.2.1 out.2.2.2.2) := by
  refine Cn.of (by decide) (Nat.le_of_ble_eq_true rfl) rfl ?_
  intro p e s m below meth c A ls args H locs X hw hl
  have hx := X.1.1
  have hb := X.1.2.1
  have ho := X.1.2.2.2.1
  have hts := X.1.2.2.2.2
  have hl : lv_has ls 4 [(0, .ref t_o), (1, .int (x1)), (2, .int (x2)), (3, .int (x3))] := hl
  unfold f_X7_add at hf
  refine lv_aload_n hx hb dX7_add_0 rfl (lv_at hl 0 rfl) ?_
  refine k_get (q0 := 0) (ci := 6) (C := RX7) (T := TX7) (N := 4) (x := .int (t_told)) X inx_7 hw rfl rfl 0 (by decide) rfl tw_321 rfl dX7_add_1 ?_
  refine lv_bipush (v := (8 : Int32)) hx hb dX7_add_4 (by decide) ?_
  refine lv_icmp_lt (tgt := 11) hx hb dX7_add_6 (by decide) (fun c_6 => ?_) (fun c_6 => ?_)
  · have hf := (if_pos c_6).symm.trans hf
    refine lv_aload_n hx hb dX7_add_11 rfl (lv_at hl 0 rfl) ?_
    refine k_get (q0 := 0) (ci := 6) (C := RX7) (T := TX7) (N := 4) (x := .ref (t_q 1)) X inx_7 hw rfl rfl 1 (by decide) rfl tw_323 rfl dX7_add_12 ?_
    refine lv_aload_n hx hb dX7_add_15 rfl (lv_at hl 0 rfl) ?_
    refine k_get (q0 := 0) (ci := 6) (C := RX7) (T := TX7) (N := 4) (x := .int (t_told)) X inx_7 hw rfl rfl 0 (by decide) rfl tw_321 rfl dX7_add_16 ?_
    refine lv_iload_n hx hb dX7_add_19 rfl (lv_at hl 1 rfl) ?_
    refine k_SN (As := [.ref (t_q 1), .int (t_told), .int (x1)]) (rest := []) (host := "PloughCall") (index := 25) X (ct_X12_put (out := (gp (8) t_dangers (t_told) (x1))) rfl) nw_94 tw_119 tw_563 tw_564 ⟨rfl, rfl⟩ hd_X12_put.2 ⟨Nat.le_of_ble_eq_true rfl, Nat.le_of_ble_eq_true rfl⟩ ⟨Nat.zero_le _, Nat.zero_le _⟩ hw [1] rfl rfl rfl hl.1 rfl (Nat.le_of_ble_eq_true rfl) dX7_add_20 (fun H locs hw => ?_)
    have hw : Wd E A s.heap (wX7 E t_o t_q t_told ((gp (8) t_dangers (t_told) (x1))) t_months t_sizes) H locs := hw
    refine lv_aload_n hx hb dX7_add_23 rfl (lv_at hl 0 rfl) ?_
    refine k_get (q0 := 0) (ci := 6) (C := RX7) (T := TX7) (N := 4) (x := .ref (t_q 2)) X inx_7 hw rfl rfl 2 (by decide) rfl tw_324 rfl dX7_add_24 ?_
    refine lv_aload_n hx hb dX7_add_27 rfl (lv_at hl 0 rfl) ?_
    refine k_get (q0 := 0) (ci := 6) (C := RX7) (T := TX7) (N := 4) (x := .int (t_told)) X inx_7 hw rfl rfl 0 (by decide) rfl tw_321 rfl dX7_add_28 ?_
    refine lv_iload_n hx hb dX7_add_31 rfl (lv_at hl 2 rfl) ?_
    refine k_SN (As := [.ref (t_q 2), .int (t_told), .int (x2)]) (rest := []) (host := "PloughCall") (index := 25) X (ct_X12_put (out := (gp (8) t_months (t_told) (x2))) rfl) nw_94 tw_119 tw_563 tw_564 ⟨rfl, rfl⟩ hd_X12_put.2 ⟨Nat.le_of_ble_eq_true rfl, Nat.le_of_ble_eq_true rfl⟩ ⟨Nat.zero_le _, Nat.zero_le _⟩ hw [2] rfl rfl rfl hl.1 rfl (Nat.le_of_ble_eq_true rfl) dX7_add_32 (fun H locs hw => ?_)
    have hw : Wd E A s.heap (wX7 E t_o t_q t_told ((gp (8) t_dangers (t_told) (x1))) ((gp (8) t_months (t_told) (x2))) t_sizes) H locs := hw
    refine lv_aload_n hx hb dX7_add_35 rfl (lv_at hl 0 rfl) ?_
    refine k_get (q0 := 0) (ci := 6) (C := RX7) (T := TX7) (N := 4) (x := .ref (t_q 3)) X inx_7 hw rfl rfl 3 (by decide) rfl tw_325 rfl dX7_add_36 ?_
    refine lv_aload_n hx hb dX7_add_39 rfl (lv_at hl 0 rfl) ?_
    refine k_get (q0 := 0) (ci := 6) (C := RX7) (T := TX7) (N := 4) (x := .int (t_told)) X inx_7 hw rfl rfl 0 (by decide) rfl tw_321 rfl dX7_add_40 ?_
    refine lv_iload_n hx hb dX7_add_43 rfl (lv_at hl 3 rfl) ?_
    refine k_SN (As := [.ref (t_q 3), .int (t_told), .int (x3)]) (rest := []) (host := "PloughCall") (index := 25) X (ct_X12_put (out := (gp (8) t_sizes (t_told) (x3))) rfl) nw_94 tw_119 tw_563 tw_564 ⟨rfl, rfl⟩ hd_X12_put.2 ⟨Nat.le_of_ble_eq_true rfl, Nat.le_of_ble_eq_true rfl⟩ ⟨Nat.zero_le _, Nat.zero_le _⟩ hw [3] rfl rfl rfl hl.1 rfl (Nat.le_of_ble_eq_true rfl) dX7_add_44 (fun H locs hw => ?_)
    have hw : Wd E A s.heap (wX7 E t_o t_q t_told ((gp (8) t_dangers (t_told) (x1))) ((gp (8) t_months (t_told) (x2))) ((gp (8) t_sizes (t_told) (x3)))) H locs := hw
    refine lv_aload_n hx hb dX7_add_47 rfl (lv_at hl 0 rfl) ?_
    refine lv_dup hx hb dX7_add_48 rfl ?_
    refine k_get (q0 := 0) (ci := 6) (C := RX7) (T := TX7) (N := 4) (x := .int (t_told)) X inx_7 hw rfl rfl 0 (by decide) rfl tw_321 rfl dX7_add_49 ?_
    refine lv_iconst (v := (1 : Int32)) hx hb dX7_add_52 (by decide) ?_
    refine lv_iadd hx hb dX7_add_53 ?_
    refine k_put (q0 := 0) (ci := 6) (C := RX7) (T := TX7) (N := 4) (ty0 := tyX7) (x := .int ((t_told + (1 : Int32)))) X inx_7 tyX7_ok nmX7 hw rfl rfl 0 (by decide) rfl rfl tw_321 rfl rfl (Nat.le_of_ble_eq_true rfl) dX7_add_54 (fun H locs hw => ?_)
    have hw : Wd E A s.heap (wX7 E t_o t_q ((t_told + (1 : Int32))) ((gp (8) t_dangers (t_told) (x1))) ((gp (8) t_months (t_told) (x2))) ((gp (8) t_sizes (t_told) (x3)))) H locs := hw
    refine lv_iconst (v := (1 : Int32)) hx hb dX7_add_57 (by decide) ?_
    subst hf
    exact k_zret X (Or.inr rfl) hw dX7_add_58
  · have hf := (if_neg c_6).symm.trans hf
    refine lv_iconst (v := (0 : Int32)) hx hb dX7_add_9 (by decide) ?_
    subst hf
    exact k_zret X (Or.inl rfl) hw dX7_add_10
/-! void copy(PloughCall$Reports); -/
def f_X7_copy (t_dangers : (Nat → Int32)) (t_months : (Nat → Int32)) (t_sizes : (Nat → Int32)) (p1_told : Int32) (p1_dangers : (Nat → Int32)) (p1_months : (Nat → Int32)) (p1_sizes : (Nat → Int32)) : Option (Int32 × (Nat → Int32) × (Nat → Int32) × (Nat → Int32)) := (f_X12_copyRow (8) p1_dangers (8) t_dangers).bind fun r16 => (f_X12_copyRow (8) p1_months (8) t_months).bind fun r27 => (f_X12_copyRow (8) p1_sizes (8) t_sizes).bind fun r38 => some (p1_told, r16, r27, r38)
abbrev rm_X7_copy : Room := { frames := 1, cells := 0, slots := 0, locals := 22 }
theorem hd_X7_copy : yX7_copy.cls = RX7 ∧ yX7_copy.cls ≠ "java/lang/invoke/MethodHandle" ∧ yX7_copy.cls ≠ "java/lang/invoke/VarHandle" ∧ (parseMethodDescriptor yX7_copy.desc).map (fun d => d.parameters.length) = some 1 := by decide +kernel
set_option maxRecDepth 100000 in
set_option maxHeartbeats 4000000 in
theorem c_X7_copy {E : En} {l : Launch} {t_o : Nat} {t_q : Nat → Nat} {t_told : Int32} {t_dangers : (Nat → Int32)} {t_months : (Nat → Int32)} {t_sizes : (Nat → Int32)} {p1_o : Nat} {p1_q : Nat → Nat} {p1_told : Int32} {p1_dangers : (Nat → Int32)} {p1_months : (Nat → Int32)} {p1_sizes : (Nat → Int32)}  {out : Int32 × (Nat → Int32) × (Nat → Int32) × (Nat → Int32)} (hf : f_X7_copy t_dangers t_months t_sizes p1_told p1_dangers p1_months p1_sizes = some out) : Cn E l yX7_copy cX7_copy 2 none rm_X7_copy [.ref t_o, .ref p1_o] (wX7 E t_o t_q t_told t_dangers t_months t_sizes ++ (wX7 E p1_o p1_q p1_told p1_dangers p1_months p1_sizes)) none (wX7 E t_o t_q out.1 out.2.1 out.2.2.1 out.2.2.2 ++ (wX7 E p1_o p1_q p1_told p1_dangers p1_months p1_sizes)) := by
  refine Cn.of (by decide) (Nat.le_of_ble_eq_true rfl) rfl ?_
  intro p e s m below meth c A ls args H locs X hw hl
  have hx := X.1.1
  have hb := X.1.2.1
  have ho := X.1.2.2.2.1
  have hts := X.1.2.2.2.2
  have hl : lv_has ls 2 [(0, .ref t_o), (1, .ref p1_o)] := hl
  unfold f_X7_copy at hf
  refine lv_aload_n hx hb dX7_copy_0 rfl (lv_at hl 0 rfl) ?_
  refine lv_aload_n hx hb dX7_copy_1 rfl (lv_at hl 1 rfl) ?_
  refine k_get (q0 := 4) (ci := 6) (C := RX7) (T := TX7) (N := 4) (x := .int (p1_told)) X inx_7 hw rfl rfl 0 (by decide) rfl tw_321 rfl dX7_copy_2 ?_
  refine k_put (q0 := 0) (ci := 6) (C := RX7) (T := TX7) (N := 4) (ty0 := tyX7) (x := .int (p1_told)) X inx_7 tyX7_ok nmX7 hw rfl rfl 0 (by decide) rfl rfl tw_321 rfl rfl (Nat.le_of_ble_eq_true rfl) dX7_copy_5 (fun H locs hw => ?_)
  have hw : Wd E A s.heap (wX7 E t_o t_q p1_told t_dangers t_months t_sizes ++ (wX7 E p1_o p1_q p1_told p1_dangers p1_months p1_sizes)) H locs := hw
  refine lv_aload_n hx hb dX7_copy_8 rfl (lv_at hl 1 rfl) ?_
  refine k_get (q0 := 4) (ci := 6) (C := RX7) (T := TX7) (N := 4) (x := .ref (p1_q 1)) X inx_7 hw rfl rfl 1 (by decide) rfl tw_323 rfl dX7_copy_9 ?_
  refine lv_aload_n hx hb dX7_copy_12 rfl (lv_at hl 0 rfl) ?_
  refine k_get (q0 := 0) (ci := 6) (C := RX7) (T := TX7) (N := 4) (x := .ref (t_q 1)) X inx_7 hw rfl rfl 1 (by decide) rfl tw_323 rfl dX7_copy_13 ?_
  obtain ⟨r16, hc_16, hf⟩ := bd_some hf
  refine k_SN (As := [.ref (p1_q 1), .ref (t_q 1)]) (rest := []) (host := "PloughCall") (index := 29) X (c_X12_copyRow hc_16) nw_97 tw_119 tw_919 tw_920 ⟨rfl, rfl⟩ hd_X12_copyRow.2 ⟨Nat.le_of_ble_eq_true rfl, Nat.le_of_ble_eq_true rfl⟩ ⟨Nat.zero_le _, Nat.zero_le _⟩ hw [5, 1] rfl rfl rfl hl.1 rfl (Nat.le_of_ble_eq_true rfl) dX7_copy_16 (fun H locs hw => ?_)
  have hw : Wd E A s.heap (wX7 E t_o t_q p1_told r16 t_months t_sizes ++ (wX7 E p1_o p1_q p1_told p1_dangers p1_months p1_sizes)) H locs := hw
  refine lv_aload_n hx hb dX7_copy_19 rfl (lv_at hl 1 rfl) ?_
  refine k_get (q0 := 4) (ci := 6) (C := RX7) (T := TX7) (N := 4) (x := .ref (p1_q 2)) X inx_7 hw rfl rfl 2 (by decide) rfl tw_324 rfl dX7_copy_20 ?_
  refine lv_aload_n hx hb dX7_copy_23 rfl (lv_at hl 0 rfl) ?_
  refine k_get (q0 := 0) (ci := 6) (C := RX7) (T := TX7) (N := 4) (x := .ref (t_q 2)) X inx_7 hw rfl rfl 2 (by decide) rfl tw_324 rfl dX7_copy_24 ?_
  obtain ⟨r27, hc_27, hf⟩ := bd_some hf
  refine k_SN (As := [.ref (p1_q 2), .ref (t_q 2)]) (rest := []) (host := "PloughCall") (index := 29) X (c_X12_copyRow hc_27) nw_97 tw_119 tw_919 tw_920 ⟨rfl, rfl⟩ hd_X12_copyRow.2 ⟨Nat.le_of_ble_eq_true rfl, Nat.le_of_ble_eq_true rfl⟩ ⟨Nat.zero_le _, Nat.zero_le _⟩ hw [6, 2] rfl rfl rfl hl.1 rfl (Nat.le_of_ble_eq_true rfl) dX7_copy_27 (fun H locs hw => ?_)
  have hw : Wd E A s.heap (wX7 E t_o t_q p1_told r16 r27 t_sizes ++ (wX7 E p1_o p1_q p1_told p1_dangers p1_months p1_sizes)) H locs := hw
  refine lv_aload_n hx hb dX7_copy_30 rfl (lv_at hl 1 rfl) ?_
  refine k_get (q0 := 4) (ci := 6) (C := RX7) (T := TX7) (N := 4) (x := .ref (p1_q 3)) X inx_7 hw rfl rfl 3 (by decide) rfl tw_325 rfl dX7_copy_31 ?_
  refine lv_aload_n hx hb dX7_copy_34 rfl (lv_at hl 0 rfl) ?_
  refine k_get (q0 := 0) (ci := 6) (C := RX7) (T := TX7) (N := 4) (x := .ref (t_q 3)) X inx_7 hw rfl rfl 3 (by decide) rfl tw_325 rfl dX7_copy_35 ?_
  obtain ⟨r38, hc_38, hf⟩ := bd_some hf
  refine k_SN (As := [.ref (p1_q 3), .ref (t_q 3)]) (rest := []) (host := "PloughCall") (index := 29) X (c_X12_copyRow hc_38) nw_97 tw_119 tw_919 tw_920 ⟨rfl, rfl⟩ hd_X12_copyRow.2 ⟨Nat.le_of_ble_eq_true rfl, Nat.le_of_ble_eq_true rfl⟩ ⟨Nat.zero_le _, Nat.zero_le _⟩ hw [7, 3] rfl rfl rfl hl.1 rfl (Nat.le_of_ble_eq_true rfl) dX7_copy_38 (fun H locs hw => ?_)
  have hw : Wd E A s.heap (wX7 E t_o t_q p1_told r16 r27 r38 ++ (wX7 E p1_o p1_q p1_told p1_dangers p1_months p1_sizes)) H locs := hw
  obtain rfl := Option.some.inj hf
  exact k_vret X hw dX7_copy_41
/-! void add(int, int, int); -/
def f_X8_add (t_lines : Int32) (t_kinds : (Nat → Int32)) (t_firsts : (Nat → Int32)) (t_seconds : (Nat → Int32)) (x1 : Int32) (x2 : Int32) (x3 : Int32) : Int32 × (Nat → Int32) × (Nat → Int32) × (Nat → Int32) := if (40 : Int32) ≤ t_lines then (t_lines, t_kinds, t_firsts, t_seconds)
  else ((t_lines + (1 : Int32)), (gp (40) t_kinds (t_lines) (x1)), (gp (40) t_firsts (t_lines) (x2)), (gp (40) t_seconds (t_lines) (x3)))
abbrev rm_X8_add : Room := { frames := 1, cells := 0, slots := 0, locals := 22 }
theorem hd_X8_add : yX8_add.cls = RX8 ∧ yX8_add.cls ≠ "java/lang/invoke/MethodHandle" ∧ yX8_add.cls ≠ "java/lang/invoke/VarHandle" ∧ (parseMethodDescriptor yX8_add.desc).map (fun d => d.parameters.length) = some 3 := by decide +kernel
set_option maxRecDepth 100000 in
set_option maxHeartbeats 4000000 in
theorem c_X8_add {E : En} {l : Launch} {t_o : Nat} {t_q : Nat → Nat} {t_lines : Int32} {t_kinds : (Nat → Int32)} {t_firsts : (Nat → Int32)} {t_seconds : (Nat → Int32)} {x1 : Int32} {x2 : Int32} {x3 : Int32} {out : Int32 × (Nat → Int32) × (Nat → Int32) × (Nat → Int32)} (hf : f_X8_add t_lines t_kinds t_firsts t_seconds x1 x2 x3 = out) : Cn E l yX8_add cX8_add 4 none rm_X8_add [.ref t_o, .int (x1), .int (x2), .int (x3)] (wX8 E t_o t_q t_lines t_kinds t_firsts t_seconds) none (wX8 E t_o t_q out.1 out.2.1 out.2.2.1 out.2.2.2) := by
  refine Cn.of (by decide) (Nat.le_of_ble_eq_true rfl) rfl ?_
  intro p e s m below meth c A ls args H locs X hw hl
  have hx := X.1.1
  have hb := X.1.2.1
  have ho := X.1.2.2.2.1
  have hts := X.1.2.2.2.2
  have hl : lv_has ls 4 [(0, .ref t_o), (1, .int (x1)), (2, .int (x2)), (3, .int (x3))] := hl
  unfold f_X8_add at hf
  refine lv_aload_n hx hb dX8_add_0 rfl (lv_at hl 0 rfl) ?_
  refine k_get (q0 := 0) (ci := 7) (C := RX8) (T := TX8) (N := 4) (x := .int (t_lines)) X inx_8 hw rfl rfl 0 (by decide) rfl tw_465 rfl dX8_add_1 ?_
  refine lv_bipush (v := (40 : Int32)) hx hb dX8_add_4 (by decide) ?_
  refine lv_icmp_ge (tgt := 55) hx hb dX8_add_6 (by decide) (fun c_6 => ?_) (fun c_6 => ?_)
  · have hf := (if_pos c_6).symm.trans hf
    subst hf
    exact k_vret X hw dX8_add_55
  · have hf := (if_neg c_6).symm.trans hf
    refine lv_aload_n hx hb dX8_add_9 rfl (lv_at hl 0 rfl) ?_
    refine k_get (q0 := 0) (ci := 7) (C := RX8) (T := TX8) (N := 4) (x := .ref (t_q 1)) X inx_8 hw rfl rfl 1 (by decide) rfl tw_468 rfl dX8_add_10 ?_
    refine lv_aload_n hx hb dX8_add_13 rfl (lv_at hl 0 rfl) ?_
    refine k_get (q0 := 0) (ci := 7) (C := RX8) (T := TX8) (N := 4) (x := .int (t_lines)) X inx_8 hw rfl rfl 0 (by decide) rfl tw_465 rfl dX8_add_14 ?_
    refine lv_iload_n hx hb dX8_add_17 rfl (lv_at hl 1 rfl) ?_
    refine k_SN (As := [.ref (t_q 1), .int (t_lines), .int (x1)]) (rest := []) (host := "PloughCall") (index := 25) X (ct_X12_put (out := (gp (40) t_kinds (t_lines) (x1))) rfl) nw_86 tw_119 tw_563 tw_564 ⟨rfl, rfl⟩ hd_X12_put.2 ⟨Nat.le_of_ble_eq_true rfl, Nat.le_of_ble_eq_true rfl⟩ ⟨Nat.zero_le _, Nat.zero_le _⟩ hw [1] rfl rfl rfl hl.1 rfl (Nat.le_of_ble_eq_true rfl) dX8_add_18 (fun H locs hw => ?_)
    have hw : Wd E A s.heap (wX8 E t_o t_q t_lines ((gp (40) t_kinds (t_lines) (x1))) t_firsts t_seconds) H locs := hw
    refine lv_aload_n hx hb dX8_add_21 rfl (lv_at hl 0 rfl) ?_
    refine k_get (q0 := 0) (ci := 7) (C := RX8) (T := TX8) (N := 4) (x := .ref (t_q 2)) X inx_8 hw rfl rfl 2 (by decide) rfl tw_469 rfl dX8_add_22 ?_
    refine lv_aload_n hx hb dX8_add_25 rfl (lv_at hl 0 rfl) ?_
    refine k_get (q0 := 0) (ci := 7) (C := RX8) (T := TX8) (N := 4) (x := .int (t_lines)) X inx_8 hw rfl rfl 0 (by decide) rfl tw_465 rfl dX8_add_26 ?_
    refine lv_iload_n hx hb dX8_add_29 rfl (lv_at hl 2 rfl) ?_
    refine k_SN (As := [.ref (t_q 2), .int (t_lines), .int (x2)]) (rest := []) (host := "PloughCall") (index := 25) X (ct_X12_put (out := (gp (40) t_firsts (t_lines) (x2))) rfl) nw_86 tw_119 tw_563 tw_564 ⟨rfl, rfl⟩ hd_X12_put.2 ⟨Nat.le_of_ble_eq_true rfl, Nat.le_of_ble_eq_true rfl⟩ ⟨Nat.zero_le _, Nat.zero_le _⟩ hw [2] rfl rfl rfl hl.1 rfl (Nat.le_of_ble_eq_true rfl) dX8_add_30 (fun H locs hw => ?_)
    have hw : Wd E A s.heap (wX8 E t_o t_q t_lines ((gp (40) t_kinds (t_lines) (x1))) ((gp (40) t_firsts (t_lines) (x2))) t_seconds) H locs := hw
    refine lv_aload_n hx hb dX8_add_33 rfl (lv_at hl 0 rfl) ?_
    refine k_get (q0 := 0) (ci := 7) (C := RX8) (T := TX8) (N := 4) (x := .ref (t_q 3)) X inx_8 hw rfl rfl 3 (by decide) rfl tw_470 rfl dX8_add_34 ?_
    refine lv_aload_n hx hb dX8_add_37 rfl (lv_at hl 0 rfl) ?_
    refine k_get (q0 := 0) (ci := 7) (C := RX8) (T := TX8) (N := 4) (x := .int (t_lines)) X inx_8 hw rfl rfl 0 (by decide) rfl tw_465 rfl dX8_add_38 ?_
    refine lv_iload_n hx hb dX8_add_41 rfl (lv_at hl 3 rfl) ?_
    refine k_SN (As := [.ref (t_q 3), .int (t_lines), .int (x3)]) (rest := []) (host := "PloughCall") (index := 25) X (ct_X12_put (out := (gp (40) t_seconds (t_lines) (x3))) rfl) nw_86 tw_119 tw_563 tw_564 ⟨rfl, rfl⟩ hd_X12_put.2 ⟨Nat.le_of_ble_eq_true rfl, Nat.le_of_ble_eq_true rfl⟩ ⟨Nat.zero_le _, Nat.zero_le _⟩ hw [3] rfl rfl rfl hl.1 rfl (Nat.le_of_ble_eq_true rfl) dX8_add_42 (fun H locs hw => ?_)
    have hw : Wd E A s.heap (wX8 E t_o t_q t_lines ((gp (40) t_kinds (t_lines) (x1))) ((gp (40) t_firsts (t_lines) (x2))) ((gp (40) t_seconds (t_lines) (x3)))) H locs := hw
    refine lv_aload_n hx hb dX8_add_45 rfl (lv_at hl 0 rfl) ?_
    refine lv_dup hx hb dX8_add_46 rfl ?_
    refine k_get (q0 := 0) (ci := 7) (C := RX8) (T := TX8) (N := 4) (x := .int (t_lines)) X inx_8 hw rfl rfl 0 (by decide) rfl tw_465 rfl dX8_add_47 ?_
    refine lv_iconst (v := (1 : Int32)) hx hb dX8_add_50 (by decide) ?_
    refine lv_iadd hx hb dX8_add_51 ?_
    refine k_put (q0 := 0) (ci := 7) (C := RX8) (T := TX8) (N := 4) (ty0 := tyX8) (x := .int ((t_lines + (1 : Int32)))) X inx_8 tyX8_ok nmX8 hw rfl rfl 0 (by decide) rfl rfl tw_465 rfl rfl (Nat.le_of_ble_eq_true rfl) dX8_add_52 (fun H locs hw => ?_)
    have hw : Wd E A s.heap (wX8 E t_o t_q ((t_lines + (1 : Int32))) ((gp (40) t_kinds (t_lines) (x1))) ((gp (40) t_firsts (t_lines) (x2))) ((gp (40) t_seconds (t_lines) (x3)))) H locs := hw
    subst hf
    exact k_vret X hw dX8_add_55
/-! void copy(PloughCall$Script); -/
def f_X8_copy (t_kinds : (Nat → Int32)) (t_firsts : (Nat → Int32)) (t_seconds : (Nat → Int32)) (p1_lines : Int32) (p1_kinds : (Nat → Int32)) (p1_firsts : (Nat → Int32)) (p1_seconds : (Nat → Int32)) : Option (Int32 × (Nat → Int32) × (Nat → Int32) × (Nat → Int32)) := (f_X12_copyRow (40) p1_kinds (40) t_kinds).bind fun r16 => (f_X12_copyRow (40) p1_firsts (40) t_firsts).bind fun r27 => (f_X12_copyRow (40) p1_seconds (40) t_seconds).bind fun r38 => some (p1_lines, r16, r27, r38)
abbrev rm_X8_copy : Room := { frames := 1, cells := 0, slots := 0, locals := 22 }
theorem hd_X8_copy : yX8_copy.cls = RX8 ∧ yX8_copy.cls ≠ "java/lang/invoke/MethodHandle" ∧ yX8_copy.cls ≠ "java/lang/invoke/VarHandle" ∧ (parseMethodDescriptor yX8_copy.desc).map (fun d => d.parameters.length) = some 1 := by decide +kernel
set_option maxRecDepth 100000 in
set_option maxHeartbeats 4000000 in
theorem c_X8_copy {E : En} {l : Launch} {t_o : Nat} {t_q : Nat → Nat} {t_lines : Int32} {t_kinds : (Nat → Int32)} {t_firsts : (Nat → Int32)} {t_seconds : (Nat → Int32)} {p1_o : Nat} {p1_q : Nat → Nat} {p1_lines : Int32} {p1_kinds : (Nat → Int32)} {p1_firsts : (Nat → Int32)} {p1_seconds : (Nat → Int32)}  {out : Int32 × (Nat → Int32) × (Nat → Int32) × (Nat → Int32)} (hf : f_X8_copy t_kinds t_firsts t_seconds p1_lines p1_kinds p1_firsts p1_seconds = some out) : Cn E l yX8_copy cX8_copy 2 none rm_X8_copy [.ref t_o, .ref p1_o] (wX8 E t_o t_q t_lines t_kinds t_firsts t_seconds ++ (wX8 E p1_o p1_q p1_lines p1_kinds p1_firsts p1_seconds)) none (wX8 E t_o t_q out.1 out.2.1 out.2.2.1 out.2.2.2 ++ (wX8 E p1_o p1_q p1_lines p1_kinds p1_firsts p1_seconds)) := by
  refine Cn.of (by decide) (Nat.le_of_ble_eq_true rfl) rfl ?_
  intro p e s m below meth c A ls args H locs X hw hl
  have hx := X.1.1
  have hb := X.1.2.1
  have ho := X.1.2.2.2.1
  have hts := X.1.2.2.2.2
  have hl : lv_has ls 2 [(0, .ref t_o), (1, .ref p1_o)] := hl
  unfold f_X8_copy at hf
  refine lv_aload_n hx hb dX8_copy_0 rfl (lv_at hl 0 rfl) ?_
  refine lv_aload_n hx hb dX8_copy_1 rfl (lv_at hl 1 rfl) ?_
  refine k_get (q0 := 4) (ci := 7) (C := RX8) (T := TX8) (N := 4) (x := .int (p1_lines)) X inx_8 hw rfl rfl 0 (by decide) rfl tw_465 rfl dX8_copy_2 ?_
  refine k_put (q0 := 0) (ci := 7) (C := RX8) (T := TX8) (N := 4) (ty0 := tyX8) (x := .int (p1_lines)) X inx_8 tyX8_ok nmX8 hw rfl rfl 0 (by decide) rfl rfl tw_465 rfl rfl (Nat.le_of_ble_eq_true rfl) dX8_copy_5 (fun H locs hw => ?_)
  have hw : Wd E A s.heap (wX8 E t_o t_q p1_lines t_kinds t_firsts t_seconds ++ (wX8 E p1_o p1_q p1_lines p1_kinds p1_firsts p1_seconds)) H locs := hw
  refine lv_aload_n hx hb dX8_copy_8 rfl (lv_at hl 1 rfl) ?_
  refine k_get (q0 := 4) (ci := 7) (C := RX8) (T := TX8) (N := 4) (x := .ref (p1_q 1)) X inx_8 hw rfl rfl 1 (by decide) rfl tw_468 rfl dX8_copy_9 ?_
  refine lv_aload_n hx hb dX8_copy_12 rfl (lv_at hl 0 rfl) ?_
  refine k_get (q0 := 0) (ci := 7) (C := RX8) (T := TX8) (N := 4) (x := .ref (t_q 1)) X inx_8 hw rfl rfl 1 (by decide) rfl tw_468 rfl dX8_copy_13 ?_
  obtain ⟨r16, hc_16, hf⟩ := bd_some hf
  refine k_SN (As := [.ref (p1_q 1), .ref (t_q 1)]) (rest := []) (host := "PloughCall") (index := 29) X (c_X12_copyRow hc_16) nw_96 tw_119 tw_919 tw_920 ⟨rfl, rfl⟩ hd_X12_copyRow.2 ⟨Nat.le_of_ble_eq_true rfl, Nat.le_of_ble_eq_true rfl⟩ ⟨Nat.zero_le _, Nat.zero_le _⟩ hw [5, 1] rfl rfl rfl hl.1 rfl (Nat.le_of_ble_eq_true rfl) dX8_copy_16 (fun H locs hw => ?_)
  have hw : Wd E A s.heap (wX8 E t_o t_q p1_lines r16 t_firsts t_seconds ++ (wX8 E p1_o p1_q p1_lines p1_kinds p1_firsts p1_seconds)) H locs := hw
  refine lv_aload_n hx hb dX8_copy_19 rfl (lv_at hl 1 rfl) ?_
  refine k_get (q0 := 4) (ci := 7) (C := RX8) (T := TX8) (N := 4) (x := .ref (p1_q 2)) X inx_8 hw rfl rfl 2 (by decide) rfl tw_469 rfl dX8_copy_20 ?_
  refine lv_aload_n hx hb dX8_copy_23 rfl (lv_at hl 0 rfl) ?_
  refine k_get (q0 := 0) (ci := 7) (C := RX8) (T := TX8) (N := 4) (x := .ref (t_q 2)) X inx_8 hw rfl rfl 2 (by decide) rfl tw_469 rfl dX8_copy_24 ?_
  obtain ⟨r27, hc_27, hf⟩ := bd_some hf
  refine k_SN (As := [.ref (p1_q 2), .ref (t_q 2)]) (rest := []) (host := "PloughCall") (index := 29) X (c_X12_copyRow hc_27) nw_96 tw_119 tw_919 tw_920 ⟨rfl, rfl⟩ hd_X12_copyRow.2 ⟨Nat.le_of_ble_eq_true rfl, Nat.le_of_ble_eq_true rfl⟩ ⟨Nat.zero_le _, Nat.zero_le _⟩ hw [6, 2] rfl rfl rfl hl.1 rfl (Nat.le_of_ble_eq_true rfl) dX8_copy_27 (fun H locs hw => ?_)
  have hw : Wd E A s.heap (wX8 E t_o t_q p1_lines r16 r27 t_seconds ++ (wX8 E p1_o p1_q p1_lines p1_kinds p1_firsts p1_seconds)) H locs := hw
  refine lv_aload_n hx hb dX8_copy_30 rfl (lv_at hl 1 rfl) ?_
  refine k_get (q0 := 4) (ci := 7) (C := RX8) (T := TX8) (N := 4) (x := .ref (p1_q 3)) X inx_8 hw rfl rfl 3 (by decide) rfl tw_470 rfl dX8_copy_31 ?_
  refine lv_aload_n hx hb dX8_copy_34 rfl (lv_at hl 0 rfl) ?_
  refine k_get (q0 := 0) (ci := 7) (C := RX8) (T := TX8) (N := 4) (x := .ref (t_q 3)) X inx_8 hw rfl rfl 3 (by decide) rfl tw_470 rfl dX8_copy_35 ?_
  obtain ⟨r38, hc_38, hf⟩ := bd_some hf
  refine k_SN (As := [.ref (p1_q 3), .ref (t_q 3)]) (rest := []) (host := "PloughCall") (index := 29) X (c_X12_copyRow hc_38) nw_96 tw_119 tw_919 tw_920 ⟨rfl, rfl⟩ hd_X12_copyRow.2 ⟨Nat.le_of_ble_eq_true rfl, Nat.le_of_ble_eq_true rfl⟩ ⟨Nat.zero_le _, Nat.zero_le _⟩ hw [7, 3] rfl rfl rfl hl.1 rfl (Nat.le_of_ble_eq_true rfl) dX8_copy_38 (fun H locs hw => ?_)
  have hw : Wd E A s.heap (wX8 E t_o t_q p1_lines r16 r27 r38 ++ (wX8 E p1_o p1_q p1_lines p1_kinds p1_firsts p1_seconds)) H locs := hw
  obtain rfl := Option.some.inj hf
  exact k_vret X hw dX8_copy_41
/-! void begin(PloughCall$City); -/
def f_X9_begin_41 (K11 : Int32 → Int32 → Int32 → Int32 → Int32 → Int32 → (Nat → Int32) → (Nat → Int32) → (Nat → Int32) → Int32 → Int32 → (Nat → Int32) → (Nat → Int32) → Int32 → Option (Int32 × Int32 × Int32 × Int32 × Int32 × Int32 × (Nat → Int32) × (Nat → Int32) × (Nat → Int32))) (t_month : Int32) (t_power : Int32) (t_master : Int32) (t_left : Int32) (t_kept : Int32) (t_passed : Int32) (t_sizes : (Nat → Int32)) (t_fields : (Nat → Int32)) (t_liked : (Nat → Int32)) (p1_men : Int32) (p1_dangers : Int32) (p1_fields : (Nat → Int32)) (p1_sizes : (Nat → Int32)) (x2 : Int32) (s1 : Int32) (s2 : Int32) : Option (Int32 × Int32 × Int32 × Int32 × Int32 × Int32 × (Nat → Int32) × (Nat → Int32) × (Nat → Int32)) := K11 t_month t_power t_master t_left t_kept t_passed ((gp (5) t_sizes (s1) (s2))) t_fields t_liked p1_men p1_dangers p1_fields p1_sizes ((x2 + (1 : Int32)))
def f_X9_begin_83 (K52 : Int32 → Int32 → Int32 → Int32 → Int32 → Int32 → (Nat → Int32) → (Nat → Int32) → (Nat → Int32) → Int32 → (Nat → Int32) → Int32 → Option (Int32 × Int32 × Int32 × Int32 × Int32 × Int32 × (Nat → Int32) × (Nat → Int32) × (Nat → Int32))) (t_month : Int32) (t_power : Int32) (t_master : Int32) (t_left : Int32) (t_kept : Int32) (t_passed : Int32) (t_sizes : (Nat → Int32)) (t_fields : (Nat → Int32)) (t_liked : (Nat → Int32)) (p1_men : Int32) (p1_fields : (Nat → Int32)) (x2 : Int32) (s1 : Int32) (s2 : Int32) : Option (Int32 × Int32 × Int32 × Int32 × Int32 × Int32 × (Nat → Int32) × (Nat → Int32) × (Nat → Int32)) := K52 t_month t_power t_master t_left t_kept t_passed t_sizes ((gp (6) t_fields (s1) (s2))) ((gp (6) t_liked (x2) ((0 : Int32)))) p1_men p1_fields ((x2 + (1 : Int32)))
def f_X9_begin_52 : Nat → Int32 → Int32 → Int32 → Int32 → Int32 → Int32 → (Nat → Int32) → (Nat → Int32) → (Nat → Int32) → Int32 → (Nat → Int32) → Int32 → Option (Int32 × Int32 × Int32 × Int32 × Int32 × Int32 × (Nat → Int32) × (Nat → Int32) × (Nat → Int32))
  | 0, _, _, _, _, _, _, _, _, _, _, _, _ => none
  | n + 1, t_month, t_power, t_master, t_left, t_kept, t_passed, t_sizes, t_fields, t_liked, p1_men, p1_fields, x2 => if (6 : Int32) ≤ x2 then some (t_month, t_power, t_master, t_left, t_kept, t_passed, t_sizes, t_fields, t_liked)
    else if p1_men ≤ x2 then f_X9_begin_83 (f_X9_begin_52 n) t_month t_power t_master t_left t_kept t_passed t_sizes t_fields t_liked p1_men p1_fields x2 x2 ((0 : Int32))
    else f_X9_begin_83 (f_X9_begin_52 n) t_month t_power t_master t_left t_kept t_passed t_sizes t_fields t_liked p1_men p1_fields x2 x2 ((ga (6) p1_fields (x2)))
def f_X9_begin_11 : Nat → Int32 → Int32 → Int32 → Int32 → Int32 → Int32 → (Nat → Int32) → (Nat → Int32) → (Nat → Int32) → Int32 → Int32 → (Nat → Int32) → (Nat → Int32) → Int32 → Option (Int32 × Int32 × Int32 × Int32 × Int32 × Int32 × (Nat → Int32) × (Nat → Int32) × (Nat → Int32))
  | 0, _, _, _, _, _, _, _, _, _, _, _, _, _, _ => none
  | n + 1, t_month, t_power, t_master, t_left, t_kept, t_passed, t_sizes, t_fields, t_liked, p1_men, p1_dangers, p1_fields, p1_sizes, x2 => if (5 : Int32) ≤ x2 then f_X9_begin_52 1100 t_month t_power t_master t_left t_kept t_passed t_sizes t_fields t_liked p1_men p1_fields ((0 : Int32))
    else if p1_dangers ≤ x2 then f_X9_begin_41 (f_X9_begin_11 n) t_month t_power t_master t_left t_kept t_passed t_sizes t_fields t_liked p1_men p1_dangers p1_fields p1_sizes x2 x2 ((0 : Int32))
    else f_X9_begin_41 (f_X9_begin_11 n) t_month t_power t_master t_left t_kept t_passed t_sizes t_fields t_liked p1_men p1_dangers p1_fields p1_sizes x2 x2 ((ga (5) p1_sizes (x2)))
def f_X9_begin (t_sizes : (Nat → Int32)) (t_fields : (Nat → Int32)) (t_liked : (Nat → Int32)) (p1_men : Int32) (p1_dangers : Int32) (p1_fields : (Nat → Int32)) (p1_sizes : (Nat → Int32)) : Option (Int32 × Int32 × Int32 × Int32 × Int32 × Int32 × (Nat → Int32) × (Nat → Int32) × (Nat → Int32)) := f_X9_begin_11 1100 ((0 : Int32)) ((f_X9_release).1) ((f_X9_release).2.1) ((f_X9_release).2.2.1) ((f_X9_release).2.2.2.1) ((f_X9_release).2.2.2.2) t_sizes t_fields t_liked p1_men p1_dangers p1_fields p1_sizes ((0 : Int32))
abbrev rm_X9_begin : Room := { frames := 1, cells := 0, slots := 0, locals := 22 }
theorem hd_X9_begin : yX9_begin.cls = RX9 ∧ yX9_begin.cls ≠ "java/lang/invoke/MethodHandle" ∧ yX9_begin.cls ≠ "java/lang/invoke/VarHandle" ∧ (parseMethodDescriptor yX9_begin.desc).map (fun d => d.parameters.length) = some 1 := by decide +kernel
set_option maxRecDepth 100000 in
set_option maxHeartbeats 4000000 in
theorem kb_X9_begin_41 {E : En} {p : Program} {l : Launch} {e : Env} {s : State} {m : MethodId} {args : Array Value} {below : List Frame} {meth : Method} {c : Code} {A : Nat → Prop} {t_o : Nat} {t_q : Nat → Nat} {p1_o : Nat} {p1_q : Nat → Nat} {p1_men : Int32} {p1_consuls : Int32} {p1_dangers : Int32} {p1_decrees : Int32} {p1_term : Int32} {p1_termTold : Int32} {p1_manNames : (Nat → Int64)} {p1_kinds : (Nat → Int32)} {p1_skills : (Nat → Int32)} {p1_fields : (Nat → Int32)} {p1_wants : (Nat → Int32)} {p1_hated : (Nat → Int32)} {p1_dangerNames : (Nat → Int64)} {p1_sizes : (Nat → Int32)} {p1_grows : (Nat → Int32)} {p1_decreeNames : (Nat → Int64)} {p1_grounds : (Nat → Int32)} {p1_laws : Value} {out : Int32 × Int32 × Int32 × Int32 × Int32 × Int32 × (Nat → Int32) × (Nat → Int32) × (Nat → Int32)} (X : Bx E A p s m args meth c cX9_begin 3 RX9 none) {K11 : Int32 → Int32 → Int32 → Int32 → Int32 → Int32 → (Nat → Int32) → (Nat → Int32) → (Nat → Int32) → Int32 → Int32 → (Nat → Int32) → (Nat → Int32) → Int32 → Option (Int32 × Int32 × Int32 × Int32 × Int32 × Int32 × (Nat → Int32) × (Nat → Int32) × (Nat → Int32))} (hK11 : ∀ {t_month : Int32} {t_power : Int32} {t_master : Int32} {t_left : Int32} {t_kept : Int32} {t_passed : Int32} {t_sizes : (Nat → Int32)} {t_fields : (Nat → Int32)} {t_liked : (Nat → Int32)} {x2 : Int32} {H : Heap} {locs : List Loc} {ls : Array Slot}, K11 t_month t_power t_master t_left t_kept t_passed t_sizes t_fields t_liked p1_men p1_dangers p1_fields p1_sizes x2 = some out → Wd E A s.heap (wX9 E t_o t_q t_month t_power t_master t_left t_kept t_passed t_sizes t_fields t_liked ++ (wX1 E p1_o p1_q p1_men p1_consuls p1_dangers p1_decrees p1_term p1_termTold p1_manNames p1_kinds p1_skills p1_fields p1_wants p1_hated p1_dangerNames p1_sizes p1_grows p1_decreeNames p1_grounds p1_laws)) H locs → lv_has ls 3 [(0, .ref t_o), (1, .ref p1_o), (2, .int (x2))] → W p l e rm_X9_begin s m args below meth c H locs 0 0 (Zn E below args s A none (wX9 E t_o t_q out.1 out.2.1 out.2.2.1 out.2.2.2.1 out.2.2.2.2.1 out.2.2.2.2.2.1 out.2.2.2.2.2.2.1 out.2.2.2.2.2.2.2.1 out.2.2.2.2.2.2.2.2 ++ (wX1 E p1_o p1_q p1_men p1_consuls p1_dangers p1_decrees p1_term p1_termTold p1_manNames p1_kinds p1_skills p1_fields p1_wants p1_hated p1_dangerNames p1_sizes p1_grows p1_decreeNames p1_grounds p1_laws))) (F0 m 11 ls [])) {t_month : Int32} {t_power : Int32} {t_master : Int32} {t_left : Int32} {t_kept : Int32} {t_passed : Int32} {t_sizes : (Nat → Int32)} {t_fields : (Nat → Int32)} {t_liked : (Nat → Int32)} {x2 : Int32} {s1 : Int32} {s2 : Int32} {H : Heap} {locs : List Loc} {ls : Array Slot} (hf : f_X9_begin_41 K11 t_month t_power t_master t_left t_kept t_passed t_sizes t_fields t_liked p1_men p1_dangers p1_fields p1_sizes x2 s1 s2 = some out) : Wd E A s.heap (wX9 E t_o t_q t_month t_power t_master t_left t_kept t_passed t_sizes t_fields t_liked ++ (wX1 E p1_o p1_q p1_men p1_consuls p1_dangers p1_decrees p1_term p1_termTold p1_manNames p1_kinds p1_skills p1_fields p1_wants p1_hated p1_dangerNames p1_sizes p1_grows p1_decreeNames p1_grounds p1_laws)) H locs → lv_has ls 3 [(0, .ref t_o), (1, .ref p1_o), (2, .int (x2))] → W p l e rm_X9_begin s m args below meth c H locs 0 0 (Zn E below args s A none (wX9 E t_o t_q out.1 out.2.1 out.2.2.1 out.2.2.2.1 out.2.2.2.2.1 out.2.2.2.2.2.1 out.2.2.2.2.2.2.1 out.2.2.2.2.2.2.2.1 out.2.2.2.2.2.2.2.2 ++ (wX1 E p1_o p1_q p1_men p1_consuls p1_dangers p1_decrees p1_term p1_termTold p1_manNames p1_kinds p1_skills p1_fields p1_wants p1_hated p1_dangerNames p1_sizes p1_grows p1_decreeNames p1_grounds p1_laws))) (F0 m 41 ls [.int (s2), .int (s1), .ref (t_q 6)]) := by
  have hx := X.1.1
  have hb := X.1.2.1
  have ho := X.1.2.2.2.1
  have hts := X.1.2.2.2.2
  intro hw hl
  unfold f_X9_begin_41 at hf
  refine k_SN (As := [.ref (t_q 6), .int (s1), .int (s2)]) (rest := []) (host := "PloughCall") (index := 44) X (ct_X12_put (out := (gp (5) t_sizes (s1) (s2))) rfl) nw_85 tw_119 tw_563 tw_564 ⟨rfl, rfl⟩ hd_X12_put.2 ⟨Nat.le_of_ble_eq_true rfl, Nat.le_of_ble_eq_true rfl⟩ ⟨Nat.zero_le _, Nat.zero_le _⟩ hw [1] rfl rfl rfl hl.1 rfl (Nat.le_of_ble_eq_true rfl) dX9_begin_41 (fun H locs hw => ?_)
  have hw : Wd E A s.heap (wX9 E t_o t_q t_month t_power t_master t_left t_kept t_passed ((gp (5) t_sizes (s1) (s2))) t_fields t_liked ++ (wX1 E p1_o p1_q p1_men p1_consuls p1_dangers p1_decrees p1_term p1_termTold p1_manNames p1_kinds p1_skills p1_fields p1_wants p1_hated p1_dangerNames p1_sizes p1_grows p1_decreeNames p1_grounds p1_laws)) H locs := hw
  refine lv_iinc (v := (x2 + (1 : Int32))) (lv' := [(2, .int ((x2 + (1 : Int32)))), (0, .ref t_o), (1, .ref p1_o)]) hx hb dX9_begin_44 hl (k := 2) rfl rfl (by decide) rfl (fun ls hl => ?_)
  refine lv_goto (tgt := 11) hx hb dX9_begin_47 (by decide) ?_
  exact hK11 hf hw (lv_sub hl [1, 2, 0] rfl)
set_option maxRecDepth 100000 in
set_option maxHeartbeats 4000000 in
theorem kb_X9_begin_83 {E : En} {p : Program} {l : Launch} {e : Env} {s : State} {m : MethodId} {args : Array Value} {below : List Frame} {meth : Method} {c : Code} {A : Nat → Prop} {t_o : Nat} {t_q : Nat → Nat} {p1_o : Nat} {p1_q : Nat → Nat} {p1_men : Int32} {p1_consuls : Int32} {p1_dangers : Int32} {p1_decrees : Int32} {p1_term : Int32} {p1_termTold : Int32} {p1_manNames : (Nat → Int64)} {p1_kinds : (Nat → Int32)} {p1_skills : (Nat → Int32)} {p1_fields : (Nat → Int32)} {p1_wants : (Nat → Int32)} {p1_hated : (Nat → Int32)} {p1_dangerNames : (Nat → Int64)} {p1_sizes : (Nat → Int32)} {p1_grows : (Nat → Int32)} {p1_decreeNames : (Nat → Int64)} {p1_grounds : (Nat → Int32)} {p1_laws : Value} {out : Int32 × Int32 × Int32 × Int32 × Int32 × Int32 × (Nat → Int32) × (Nat → Int32) × (Nat → Int32)} (X : Bx E A p s m args meth c cX9_begin 3 RX9 none) {K52 : Int32 → Int32 → Int32 → Int32 → Int32 → Int32 → (Nat → Int32) → (Nat → Int32) → (Nat → Int32) → Int32 → (Nat → Int32) → Int32 → Option (Int32 × Int32 × Int32 × Int32 × Int32 × Int32 × (Nat → Int32) × (Nat → Int32) × (Nat → Int32))} (hK52 : ∀ {t_month : Int32} {t_power : Int32} {t_master : Int32} {t_left : Int32} {t_kept : Int32} {t_passed : Int32} {t_sizes : (Nat → Int32)} {t_fields : (Nat → Int32)} {t_liked : (Nat → Int32)} {x2 : Int32} {H : Heap} {locs : List Loc} {ls : Array Slot}, K52 t_month t_power t_master t_left t_kept t_passed t_sizes t_fields t_liked p1_men p1_fields x2 = some out → Wd E A s.heap (wX9 E t_o t_q t_month t_power t_master t_left t_kept t_passed t_sizes t_fields t_liked ++ (wX1 E p1_o p1_q p1_men p1_consuls p1_dangers p1_decrees p1_term p1_termTold p1_manNames p1_kinds p1_skills p1_fields p1_wants p1_hated p1_dangerNames p1_sizes p1_grows p1_decreeNames p1_grounds p1_laws)) H locs → lv_has ls 3 [(0, .ref t_o), (1, .ref p1_o), (2, .int (x2))] → W p l e rm_X9_begin s m args below meth c H locs 0 0 (Zn E below args s A none (wX9 E t_o t_q out.1 out.2.1 out.2.2.1 out.2.2.2.1 out.2.2.2.2.1 out.2.2.2.2.2.1 out.2.2.2.2.2.2.1 out.2.2.2.2.2.2.2.1 out.2.2.2.2.2.2.2.2 ++ (wX1 E p1_o p1_q p1_men p1_consuls p1_dangers p1_decrees p1_term p1_termTold p1_manNames p1_kinds p1_skills p1_fields p1_wants p1_hated p1_dangerNames p1_sizes p1_grows p1_decreeNames p1_grounds p1_laws))) (F0 m 52 ls [])) {t_month : Int32} {t_power : Int32} {t_master : Int32} {t_left : Int32} {t_kept : Int32} {t_passed : Int32} {t_sizes : (Nat → Int32)} {t_fields : (Nat → Int32)} {t_liked : (Nat → Int32)} {x2 : Int32} {s1 : Int32} {s2 : Int32} {H : Heap} {locs : List Loc} {ls : Array Slot} (hf : f_X9_begin_83 K52 t_month t_power t_master t_left t_kept t_passed t_sizes t_fields t_liked p1_men p1_fields x2 s1 s2 = some out) : Wd E A s.heap (wX9 E t_o t_q t_month t_power t_master t_left t_kept t_passed t_sizes t_fields t_liked ++ (wX1 E p1_o p1_q p1_men p1_consuls p1_dangers p1_decrees p1_term p1_termTold p1_manNames p1_kinds p1_skills p1_fields p1_wants p1_hated p1_dangerNames p1_sizes p1_grows p1_decreeNames p1_grounds p1_laws)) H locs → lv_has ls 3 [(0, .ref t_o), (1, .ref p1_o), (2, .int (x2))] → W p l e rm_X9_begin s m args below meth c H locs 0 0 (Zn E below args s A none (wX9 E t_o t_q out.1 out.2.1 out.2.2.1 out.2.2.2.1 out.2.2.2.2.1 out.2.2.2.2.2.1 out.2.2.2.2.2.2.1 out.2.2.2.2.2.2.2.1 out.2.2.2.2.2.2.2.2 ++ (wX1 E p1_o p1_q p1_men p1_consuls p1_dangers p1_decrees p1_term p1_termTold p1_manNames p1_kinds p1_skills p1_fields p1_wants p1_hated p1_dangerNames p1_sizes p1_grows p1_decreeNames p1_grounds p1_laws))) (F0 m 83 ls [.int (s2), .int (s1), .ref (t_q 7)]) := by
  have hx := X.1.1
  have hb := X.1.2.1
  have ho := X.1.2.2.2.1
  have hts := X.1.2.2.2.2
  intro hw hl
  unfold f_X9_begin_83 at hf
  refine k_SN (As := [.ref (t_q 7), .int (s1), .int (s2)]) (rest := []) (host := "PloughCall") (index := 44) X (ct_X12_put (out := (gp (6) t_fields (s1) (s2))) rfl) nw_85 tw_119 tw_563 tw_564 ⟨rfl, rfl⟩ hd_X12_put.2 ⟨Nat.le_of_ble_eq_true rfl, Nat.le_of_ble_eq_true rfl⟩ ⟨Nat.zero_le _, Nat.zero_le _⟩ hw [2] rfl rfl rfl hl.1 rfl (Nat.le_of_ble_eq_true rfl) dX9_begin_83 (fun H locs hw => ?_)
  have hw : Wd E A s.heap (wX9 E t_o t_q t_month t_power t_master t_left t_kept t_passed t_sizes ((gp (6) t_fields (s1) (s2))) t_liked ++ (wX1 E p1_o p1_q p1_men p1_consuls p1_dangers p1_decrees p1_term p1_termTold p1_manNames p1_kinds p1_skills p1_fields p1_wants p1_hated p1_dangerNames p1_sizes p1_grows p1_decreeNames p1_grounds p1_laws)) H locs := hw
  refine lv_aload_n hx hb dX9_begin_86 rfl (lv_at hl 0 rfl) ?_
  refine k_get (q0 := 0) (ci := 8) (C := RX9) (T := TX9) (N := 9) (x := .ref (t_q 8)) X inx_9 hw rfl rfl 8 (by decide) rfl tw_237 rfl dX9_begin_87 ?_
  refine lv_iload_n hx hb dX9_begin_90 rfl (lv_at hl 2 rfl) ?_
  refine lv_iconst (v := (0 : Int32)) hx hb dX9_begin_91 (by decide) ?_
  refine k_SN (As := [.ref (t_q 8), .int (x2), .int ((0 : Int32))]) (rest := []) (host := "PloughCall") (index := 44) X (ct_X12_put (out := (gp (6) t_liked (x2) ((0 : Int32)))) rfl) nw_85 tw_119 tw_563 tw_564 ⟨rfl, rfl⟩ hd_X12_put.2 ⟨Nat.le_of_ble_eq_true rfl, Nat.le_of_ble_eq_true rfl⟩ ⟨Nat.zero_le _, Nat.zero_le _⟩ hw [3] rfl rfl rfl hl.1 rfl (Nat.le_of_ble_eq_true rfl) dX9_begin_92 (fun H locs hw => ?_)
  have hw : Wd E A s.heap (wX9 E t_o t_q t_month t_power t_master t_left t_kept t_passed t_sizes ((gp (6) t_fields (s1) (s2))) ((gp (6) t_liked (x2) ((0 : Int32)))) ++ (wX1 E p1_o p1_q p1_men p1_consuls p1_dangers p1_decrees p1_term p1_termTold p1_manNames p1_kinds p1_skills p1_fields p1_wants p1_hated p1_dangerNames p1_sizes p1_grows p1_decreeNames p1_grounds p1_laws)) H locs := hw
  refine lv_iinc (v := (x2 + (1 : Int32))) (lv' := [(2, .int ((x2 + (1 : Int32)))), (0, .ref t_o), (1, .ref p1_o)]) hx hb dX9_begin_95 hl (k := 2) rfl rfl (by decide) rfl (fun ls hl => ?_)
  refine lv_goto (tgt := 52) hx hb dX9_begin_98 (by decide) ?_
  exact hK52 hf hw (lv_sub hl [1, 2, 0] rfl)
set_option maxRecDepth 100000 in
set_option maxHeartbeats 4000000 in
theorem kb_X9_begin_52 {E : En} {p : Program} {l : Launch} {e : Env} {s : State} {m : MethodId} {args : Array Value} {below : List Frame} {meth : Method} {c : Code} {A : Nat → Prop} {t_o : Nat} {t_q : Nat → Nat} {p1_o : Nat} {p1_q : Nat → Nat} {p1_men : Int32} {p1_consuls : Int32} {p1_dangers : Int32} {p1_decrees : Int32} {p1_term : Int32} {p1_termTold : Int32} {p1_manNames : (Nat → Int64)} {p1_kinds : (Nat → Int32)} {p1_skills : (Nat → Int32)} {p1_fields : (Nat → Int32)} {p1_wants : (Nat → Int32)} {p1_hated : (Nat → Int32)} {p1_dangerNames : (Nat → Int64)} {p1_sizes : (Nat → Int32)} {p1_grows : (Nat → Int32)} {p1_decreeNames : (Nat → Int64)} {p1_grounds : (Nat → Int32)} {p1_laws : Value} {out : Int32 × Int32 × Int32 × Int32 × Int32 × Int32 × (Nat → Int32) × (Nat → Int32) × (Nat → Int32)} (X : Bx E A p s m args meth c cX9_begin 3 RX9 none) : ∀ (n : Nat) {t_month : Int32} {t_power : Int32} {t_master : Int32} {t_left : Int32} {t_kept : Int32} {t_passed : Int32} {t_sizes : (Nat → Int32)} {t_fields : (Nat → Int32)} {t_liked : (Nat → Int32)} {x2 : Int32} {H : Heap} {locs : List Loc} {ls : Array Slot}, f_X9_begin_52 n t_month t_power t_master t_left t_kept t_passed t_sizes t_fields t_liked p1_men p1_fields x2 = some out → Wd E A s.heap (wX9 E t_o t_q t_month t_power t_master t_left t_kept t_passed t_sizes t_fields t_liked ++ (wX1 E p1_o p1_q p1_men p1_consuls p1_dangers p1_decrees p1_term p1_termTold p1_manNames p1_kinds p1_skills p1_fields p1_wants p1_hated p1_dangerNames p1_sizes p1_grows p1_decreeNames p1_grounds p1_laws)) H locs → lv_has ls 3 [(0, .ref t_o), (1, .ref p1_o), (2, .int (x2))] → W p l e rm_X9_begin s m args below meth c H locs 0 0 (Zn E below args s A none (wX9 E t_o t_q out.1 out.2.1 out.2.2.1 out.2.2.2.1 out.2.2.2.2.1 out.2.2.2.2.2.1 out.2.2.2.2.2.2.1 out.2.2.2.2.2.2.2.1 out.2.2.2.2.2.2.2.2 ++ (wX1 E p1_o p1_q p1_men p1_consuls p1_dangers p1_decrees p1_term p1_termTold p1_manNames p1_kinds p1_skills p1_fields p1_wants p1_hated p1_dangerNames p1_sizes p1_grows p1_decreeNames p1_grounds p1_laws))) (F0 m 52 ls []) := by
  have hx := X.1.1
  have hb := X.1.2.1
  have ho := X.1.2.2.2.1
  have hts := X.1.2.2.2.2
  intro n
  induction n with
  | zero =>
    intro t_month t_power t_master t_left t_kept t_passed t_sizes t_fields t_liked x2 H locs ls hf
    have hf : (none : Option (Int32 × Int32 × Int32 × Int32 × Int32 × Int32 × (Nat → Int32) × (Nat → Int32) × (Nat → Int32))) = some out := hf
    cases hf
  | succ n ih =>
    intro t_month t_power t_master t_left t_kept t_passed t_sizes t_fields t_liked x2 H locs ls hf hw hl
    rw [f_X9_begin_52.eq_2] at hf
    refine lv_iload_n hx hb dX9_begin_52 rfl (lv_at hl 2 rfl) ?_
    refine lv_bipush (v := (6 : Int32)) hx hb dX9_begin_53 (by decide) ?_
    refine lv_icmp_ge (tgt := 101) hx hb dX9_begin_55 (by decide) (fun c_55 => ?_) (fun c_55 => ?_)
    · have hf := (if_pos c_55).symm.trans hf
      obtain rfl := Option.some.inj hf
      exact k_vret X hw dX9_begin_101
    · have hf := (if_neg c_55).symm.trans hf
      refine lv_aload_n hx hb dX9_begin_58 rfl (lv_at hl 0 rfl) ?_
      refine k_get (q0 := 0) (ci := 8) (C := RX9) (T := TX9) (N := 9) (x := .ref (t_q 7)) X inx_9 hw rfl rfl 7 (by decide) rfl tw_235 rfl dX9_begin_59 ?_
      refine lv_iload_n hx hb dX9_begin_62 rfl (lv_at hl 2 rfl) ?_
      refine lv_iload_n hx hb dX9_begin_63 rfl (lv_at hl 2 rfl) ?_
      refine lv_aload_n hx hb dX9_begin_64 rfl (lv_at hl 1 rfl) ?_
      refine k_getN (q0 := 4) (ci := 0) (C := RX1) (T := TX1) (N := 18) (host := "PloughCall") (x := .int (p1_men)) X inx_1 hw rfl rfl 0 (by decide) rfl nw_33 rfl dX9_begin_65 ?_
      refine lv_icmp_ge (tgt := 82) hx hb dX9_begin_68 (by decide) (fun c_68 => ?_) (fun c_68 => ?_)
      · have hf := (if_pos c_68).symm.trans hf
        refine lv_iconst (v := (0 : Int32)) hx hb dX9_begin_82 (by decide) ?_
        exact kb_X9_begin_83 X (fun hf hw hl => ih hf hw hl) hf hw (lv_sub hl [0, 1, 2] rfl)
      · have hf := (if_neg c_68).symm.trans hf
        refine lv_aload_n hx hb dX9_begin_71 rfl (lv_at hl 1 rfl) ?_
        refine k_getN (q0 := 4) (ci := 0) (C := RX1) (T := TX1) (N := 18) (host := "PloughCall") (x := .ref (p1_q 9)) X inx_1 hw rfl rfl 9 (by decide) rfl nw_53 rfl dX9_begin_72 ?_
        refine lv_iload_n hx hb dX9_begin_75 rfl (lv_at hl 2 rfl) ?_
        refine k_SN (As := [.ref (p1_q 9), .int (x2)]) (rest := [.int (x2), .ref (t_q 7)]) (host := "PloughCall") (index := 40) X (ct_X12_at (out := (ga (6) p1_fields (x2))) rfl) nw_84 tw_119 tw_591 tw_592 ⟨rfl, rfl⟩ hd_X12_at.2 ⟨Nat.le_of_ble_eq_true rfl, Nat.le_of_ble_eq_true rfl⟩ ⟨Nat.zero_le _, Nat.zero_le _⟩ hw [8] rfl rfl rfl hl.1 rfl (Nat.le_of_ble_eq_true rfl) dX9_begin_76 (fun H locs hw => ?_)
        have hw : Wd E A s.heap (wX9 E t_o t_q t_month t_power t_master t_left t_kept t_passed t_sizes t_fields t_liked ++ (wX1 E p1_o p1_q p1_men p1_consuls p1_dangers p1_decrees p1_term p1_termTold p1_manNames p1_kinds p1_skills p1_fields p1_wants p1_hated p1_dangerNames p1_sizes p1_grows p1_decreeNames p1_grounds p1_laws)) H locs := hw
        refine lv_goto (tgt := 83) hx hb dX9_begin_79 (by decide) ?_
        exact kb_X9_begin_83 X (fun hf hw hl => ih hf hw hl) hf hw (lv_sub hl [0, 1, 2] rfl)
set_option maxRecDepth 100000 in
set_option maxHeartbeats 4000000 in
theorem kb_X9_begin_11 {E : En} {p : Program} {l : Launch} {e : Env} {s : State} {m : MethodId} {args : Array Value} {below : List Frame} {meth : Method} {c : Code} {A : Nat → Prop} {t_o : Nat} {t_q : Nat → Nat} {p1_o : Nat} {p1_q : Nat → Nat} {p1_men : Int32} {p1_consuls : Int32} {p1_dangers : Int32} {p1_decrees : Int32} {p1_term : Int32} {p1_termTold : Int32} {p1_manNames : (Nat → Int64)} {p1_kinds : (Nat → Int32)} {p1_skills : (Nat → Int32)} {p1_fields : (Nat → Int32)} {p1_wants : (Nat → Int32)} {p1_hated : (Nat → Int32)} {p1_dangerNames : (Nat → Int64)} {p1_sizes : (Nat → Int32)} {p1_grows : (Nat → Int32)} {p1_decreeNames : (Nat → Int64)} {p1_grounds : (Nat → Int32)} {p1_laws : Value} {out : Int32 × Int32 × Int32 × Int32 × Int32 × Int32 × (Nat → Int32) × (Nat → Int32) × (Nat → Int32)} (X : Bx E A p s m args meth c cX9_begin 3 RX9 none) : ∀ (n : Nat) {t_month : Int32} {t_power : Int32} {t_master : Int32} {t_left : Int32} {t_kept : Int32} {t_passed : Int32} {t_sizes : (Nat → Int32)} {t_fields : (Nat → Int32)} {t_liked : (Nat → Int32)} {x2 : Int32} {H : Heap} {locs : List Loc} {ls : Array Slot}, f_X9_begin_11 n t_month t_power t_master t_left t_kept t_passed t_sizes t_fields t_liked p1_men p1_dangers p1_fields p1_sizes x2 = some out → Wd E A s.heap (wX9 E t_o t_q t_month t_power t_master t_left t_kept t_passed t_sizes t_fields t_liked ++ (wX1 E p1_o p1_q p1_men p1_consuls p1_dangers p1_decrees p1_term p1_termTold p1_manNames p1_kinds p1_skills p1_fields p1_wants p1_hated p1_dangerNames p1_sizes p1_grows p1_decreeNames p1_grounds p1_laws)) H locs → lv_has ls 3 [(0, .ref t_o), (1, .ref p1_o), (2, .int (x2))] → W p l e rm_X9_begin s m args below meth c H locs 0 0 (Zn E below args s A none (wX9 E t_o t_q out.1 out.2.1 out.2.2.1 out.2.2.2.1 out.2.2.2.2.1 out.2.2.2.2.2.1 out.2.2.2.2.2.2.1 out.2.2.2.2.2.2.2.1 out.2.2.2.2.2.2.2.2 ++ (wX1 E p1_o p1_q p1_men p1_consuls p1_dangers p1_decrees p1_term p1_termTold p1_manNames p1_kinds p1_skills p1_fields p1_wants p1_hated p1_dangerNames p1_sizes p1_grows p1_decreeNames p1_grounds p1_laws))) (F0 m 11 ls []) := by
  have hx := X.1.1
  have hb := X.1.2.1
  have ho := X.1.2.2.2.1
  have hts := X.1.2.2.2.2
  intro n
  induction n with
  | zero =>
    intro t_month t_power t_master t_left t_kept t_passed t_sizes t_fields t_liked x2 H locs ls hf
    have hf : (none : Option (Int32 × Int32 × Int32 × Int32 × Int32 × Int32 × (Nat → Int32) × (Nat → Int32) × (Nat → Int32))) = some out := hf
    cases hf
  | succ n ih =>
    intro t_month t_power t_master t_left t_kept t_passed t_sizes t_fields t_liked x2 H locs ls hf hw hl
    rw [f_X9_begin_11.eq_2] at hf
    refine lv_iload_n hx hb dX9_begin_11 rfl (lv_at hl 2 rfl) ?_
    refine lv_iconst (v := (5 : Int32)) hx hb dX9_begin_12 (by decide) ?_
    refine lv_icmp_ge (tgt := 50) hx hb dX9_begin_13 (by decide) (fun c_13 => ?_) (fun c_13 => ?_)
    · have hf := (if_pos c_13).symm.trans hf
      refine lv_iconst (v := (0 : Int32)) hx hb dX9_begin_50 (by decide) ?_
      refine lv_istore_n (lv' := [(2, .int ((0 : Int32))), (0, .ref t_o), (1, .ref p1_o)]) hx hb dX9_begin_51 rfl hl (by decide) rfl (fun ls hl => ?_)
      exact kb_X9_begin_52 X 1100 hf hw (lv_sub hl [1, 2, 0] rfl)
    · have hf := (if_neg c_13).symm.trans hf
      refine lv_aload_n hx hb dX9_begin_16 rfl (lv_at hl 0 rfl) ?_
      refine k_get (q0 := 0) (ci := 8) (C := RX9) (T := TX9) (N := 9) (x := .ref (t_q 6)) X inx_9 hw rfl rfl 6 (by decide) rfl tw_232 rfl dX9_begin_17 ?_
      refine lv_iload_n hx hb dX9_begin_20 rfl (lv_at hl 2 rfl) ?_
      refine lv_iload_n hx hb dX9_begin_21 rfl (lv_at hl 2 rfl) ?_
      refine lv_aload_n hx hb dX9_begin_22 rfl (lv_at hl 1 rfl) ?_
      refine k_getN (q0 := 4) (ci := 0) (C := RX1) (T := TX1) (N := 18) (host := "PloughCall") (x := .int (p1_dangers)) X inx_1 hw rfl rfl 2 (by decide) rfl nw_39 rfl dX9_begin_23 ?_
      refine lv_icmp_ge (tgt := 40) hx hb dX9_begin_26 (by decide) (fun c_26 => ?_) (fun c_26 => ?_)
      · have hf := (if_pos c_26).symm.trans hf
        refine lv_iconst (v := (0 : Int32)) hx hb dX9_begin_40 (by decide) ?_
        exact kb_X9_begin_41 X (fun hf hw hl => ih hf hw hl) hf hw (lv_sub hl [0, 1, 2] rfl)
      · have hf := (if_neg c_26).symm.trans hf
        refine lv_aload_n hx hb dX9_begin_29 rfl (lv_at hl 1 rfl) ?_
        refine k_getN (q0 := 4) (ci := 0) (C := RX1) (T := TX1) (N := 18) (host := "PloughCall") (x := .ref (p1_q 13)) X inx_1 hw rfl rfl 13 (by decide) rfl nw_56 rfl dX9_begin_30 ?_
        refine lv_iload_n hx hb dX9_begin_33 rfl (lv_at hl 2 rfl) ?_
        refine k_SN (As := [.ref (p1_q 13), .int (x2)]) (rest := [.int (x2), .ref (t_q 6)]) (host := "PloughCall") (index := 40) X (ct_X12_at (out := (ga (5) p1_sizes (x2))) rfl) nw_84 tw_119 tw_591 tw_592 ⟨rfl, rfl⟩ hd_X12_at.2 ⟨Nat.le_of_ble_eq_true rfl, Nat.le_of_ble_eq_true rfl⟩ ⟨Nat.zero_le _, Nat.zero_le _⟩ hw [12] rfl rfl rfl hl.1 rfl (Nat.le_of_ble_eq_true rfl) dX9_begin_34 (fun H locs hw => ?_)
        have hw : Wd E A s.heap (wX9 E t_o t_q t_month t_power t_master t_left t_kept t_passed t_sizes t_fields t_liked ++ (wX1 E p1_o p1_q p1_men p1_consuls p1_dangers p1_decrees p1_term p1_termTold p1_manNames p1_kinds p1_skills p1_fields p1_wants p1_hated p1_dangerNames p1_sizes p1_grows p1_decreeNames p1_grounds p1_laws)) H locs := hw
        refine lv_goto (tgt := 41) hx hb dX9_begin_37 (by decide) ?_
        exact kb_X9_begin_41 X (fun hf hw hl => ih hf hw hl) hf hw (lv_sub hl [0, 1, 2] rfl)
set_option maxRecDepth 100000 in
set_option maxHeartbeats 4000000 in
theorem c_X9_begin {E : En} {l : Launch} {t_o : Nat} {t_q : Nat → Nat} {t_month : Int32} {t_power : Int32} {t_master : Int32} {t_left : Int32} {t_kept : Int32} {t_passed : Int32} {t_sizes : (Nat → Int32)} {t_fields : (Nat → Int32)} {t_liked : (Nat → Int32)} {p1_o : Nat} {p1_q : Nat → Nat} {p1_men : Int32} {p1_consuls : Int32} {p1_dangers : Int32} {p1_decrees : Int32} {p1_term : Int32} {p1_termTold : Int32} {p1_manNames : (Nat → Int64)} {p1_kinds : (Nat → Int32)} {p1_skills : (Nat → Int32)} {p1_fields : (Nat → Int32)} {p1_wants : (Nat → Int32)} {p1_hated : (Nat → Int32)} {p1_dangerNames : (Nat → Int64)} {p1_sizes : (Nat → Int32)} {p1_grows : (Nat → Int32)} {p1_decreeNames : (Nat → Int64)} {p1_grounds : (Nat → Int32)} {p1_laws : Value}  {out : Int32 × Int32 × Int32 × Int32 × Int32 × Int32 × (Nat → Int32) × (Nat → Int32) × (Nat → Int32)} (hf : f_X9_begin t_sizes t_fields t_liked p1_men p1_dangers p1_fields p1_sizes = some out) : Cn E l yX9_begin cX9_begin 3 none rm_X9_begin [.ref t_o, .ref p1_o] (wX9 E t_o t_q t_month t_power t_master t_left t_kept t_passed t_sizes t_fields t_liked ++ (wX1 E p1_o p1_q p1_men p1_consuls p1_dangers p1_decrees p1_term p1_termTold p1_manNames p1_kinds p1_skills p1_fields p1_wants p1_hated p1_dangerNames p1_sizes p1_grows p1_decreeNames p1_grounds p1_laws)) none (wX9 E t_o t_q out.1 out.2.1 out.2.2.1 out.2.2.2.1 out.2.2.2.2.1 out.2.2.2.2.2.1 out.2.2.2.2.2.2.1 out.2.2.2.2.2.2.2.1 out.2.2.2.2.2.2.2.2 ++ (wX1 E p1_o p1_q p1_men p1_consuls p1_dangers p1_decrees p1_term p1_termTold p1_manNames p1_kinds p1_skills p1_fields p1_wants p1_hated p1_dangerNames p1_sizes p1_grows p1_decreeNames p1_grounds p1_laws)) := by
  refine Cn.of (by decide) (Nat.le_of_ble_eq_true rfl) rfl ?_
  intro p e s m below meth c A ls args H locs X hw hl
  have hx := X.1.1
  have hb := X.1.2.1
  have ho := X.1.2.2.2.1
  have hts := X.1.2.2.2.2
  have hl : lv_has ls 3 [(0, .ref t_o), (1, .ref p1_o)] := hl
  unfold f_X9_begin at hf
  refine lv_aload_n hx hb dX9_begin_0 rfl (lv_at hl 0 rfl) ?_
  refine lv_iconst (v := (0 : Int32)) hx hb dX9_begin_1 (by decide) ?_
  refine k_put (q0 := 0) (ci := 8) (C := RX9) (T := TX9) (N := 9) (ty0 := tyX9) (x := .int ((0 : Int32))) X inx_9 tyX9_ok nmX9 hw rfl rfl 0 (by decide) rfl rfl tw_218 rfl rfl (Nat.le_of_ble_eq_true rfl) dX9_begin_2 (fun H locs hw => ?_)
  have hw : Wd E A s.heap (wX9 E t_o t_q ((0 : Int32)) t_power t_master t_left t_kept t_passed t_sizes t_fields t_liked ++ (wX1 E p1_o p1_q p1_men p1_consuls p1_dangers p1_decrees p1_term p1_termTold p1_manNames p1_kinds p1_skills p1_fields p1_wants p1_hated p1_dangerNames p1_sizes p1_grows p1_decreeNames p1_grounds p1_laws)) H locs := hw
  refine lv_aload_n hx hb dX9_begin_5 rfl (lv_at hl 0 rfl) ?_
  refine k_V (As := []) (rest := []) (index := 31) (C := RX9) X (c_X9_release (out := (f_X9_release)) rfl) tw_831 tw_833 tw_23 tw_123 tw_834 ⟨rfl, rfl⟩ hd_X9_release ⟨Nat.le_of_ble_eq_true rfl, Nat.le_of_ble_eq_true rfl⟩ ⟨Nat.zero_le _, Nat.zero_le _⟩ hw [0, 1, 2, 3] rfl rfl 0 rfl rfl rfl rfl hl.1 rfl (Nat.le_of_ble_eq_true rfl) dX9_begin_6 (fun H locs hw => ?_)
  have hw : Wd E A s.heap (wX9 E t_o t_q ((0 : Int32)) ((f_X9_release).1) ((f_X9_release).2.1) ((f_X9_release).2.2.1) ((f_X9_release).2.2.2.1) ((f_X9_release).2.2.2.2) t_sizes t_fields t_liked ++ (wX1 E p1_o p1_q p1_men p1_consuls p1_dangers p1_decrees p1_term p1_termTold p1_manNames p1_kinds p1_skills p1_fields p1_wants p1_hated p1_dangerNames p1_sizes p1_grows p1_decreeNames p1_grounds p1_laws)) H locs := hw
  refine lv_iconst (v := (0 : Int32)) hx hb dX9_begin_9 (by decide) ?_
  refine lv_istore_n (lv' := [(2, .int ((0 : Int32))), (0, .ref t_o), (1, .ref p1_o)]) hx hb dX9_begin_10 rfl hl (by decide) rfl (fun ls hl => ?_)
  exact kb_X9_begin_11 X 1100 hf hw (lv_sub hl [1, 2, 0] rfl)
/-! void copy(PloughCall$Standing); -/
def f_X9_copy (t_sizes : (Nat → Int32)) (t_fields : (Nat → Int32)) (t_liked : (Nat → Int32)) (p1_month : Int32) (p1_power : Int32) (p1_master : Int32) (p1_left : Int32) (p1_kept : Int32) (p1_passed : Int32) (p1_sizes : (Nat → Int32)) (p1_fields : (Nat → Int32)) (p1_liked : (Nat → Int32)) : Option (Int32 × Int32 × Int32 × Int32 × Int32 × Int32 × (Nat → Int32) × (Nat → Int32) × (Nat → Int32)) := zg (p1_kept) ((f_X12_copyRow (5) p1_sizes (5) t_sizes).bind fun r56 => (f_X12_copyRow (6) p1_fields (6) t_fields).bind fun r67 => (f_X12_copyRow (6) p1_liked (6) t_liked).bind fun r78 => some (p1_month, p1_power, p1_master, p1_left, p1_kept, p1_passed, r56, r67, r78))
abbrev rm_X9_copy : Room := { frames := 1, cells := 0, slots := 0, locals := 22 }
theorem hd_X9_copy : yX9_copy.cls = RX9 ∧ yX9_copy.cls ≠ "java/lang/invoke/MethodHandle" ∧ yX9_copy.cls ≠ "java/lang/invoke/VarHandle" ∧ (parseMethodDescriptor yX9_copy.desc).map (fun d => d.parameters.length) = some 1 := by decide +kernel
set_option maxRecDepth 100000 in
set_option maxHeartbeats 4000000 in
theorem c_X9_copy {E : En} {l : Launch} {t_o : Nat} {t_q : Nat → Nat} {t_month : Int32} {t_power : Int32} {t_master : Int32} {t_left : Int32} {t_kept : Int32} {t_passed : Int32} {t_sizes : (Nat → Int32)} {t_fields : (Nat → Int32)} {t_liked : (Nat → Int32)} {p1_o : Nat} {p1_q : Nat → Nat} {p1_month : Int32} {p1_power : Int32} {p1_master : Int32} {p1_left : Int32} {p1_kept : Int32} {p1_passed : Int32} {p1_sizes : (Nat → Int32)} {p1_fields : (Nat → Int32)} {p1_liked : (Nat → Int32)}  {out : Int32 × Int32 × Int32 × Int32 × Int32 × Int32 × (Nat → Int32) × (Nat → Int32) × (Nat → Int32)} (hf : f_X9_copy t_sizes t_fields t_liked p1_month p1_power p1_master p1_left p1_kept p1_passed p1_sizes p1_fields p1_liked = some out) : Cn E l yX9_copy cX9_copy 2 none rm_X9_copy [.ref t_o, .ref p1_o] (wX9 E t_o t_q t_month t_power t_master t_left t_kept t_passed t_sizes t_fields t_liked ++ (wX9 E p1_o p1_q p1_month p1_power p1_master p1_left p1_kept p1_passed p1_sizes p1_fields p1_liked)) none (wX9 E t_o t_q out.1 out.2.1 out.2.2.1 out.2.2.2.1 out.2.2.2.2.1 out.2.2.2.2.2.1 out.2.2.2.2.2.2.1 out.2.2.2.2.2.2.2.1 out.2.2.2.2.2.2.2.2 ++ (wX9 E p1_o p1_q p1_month p1_power p1_master p1_left p1_kept p1_passed p1_sizes p1_fields p1_liked)) := by
  refine Cn.of (by decide) (Nat.le_of_ble_eq_true rfl) rfl ?_
  intro p e s m below meth c A ls args H locs X hw hl
  have hx := X.1.1
  have hb := X.1.2.1
  have ho := X.1.2.2.2.1
  have hts := X.1.2.2.2.2
  have hl : lv_has ls 2 [(0, .ref t_o), (1, .ref p1_o)] := hl
  unfold f_X9_copy at hf
  refine lv_aload_n hx hb dX9_copy_0 rfl (lv_at hl 0 rfl) ?_
  refine lv_aload_n hx hb dX9_copy_1 rfl (lv_at hl 1 rfl) ?_
  refine k_get (q0 := 4) (ci := 8) (C := RX9) (T := TX9) (N := 9) (x := .int (p1_month)) X inx_9 hw rfl rfl 0 (by decide) rfl tw_218 rfl dX9_copy_2 ?_
  refine k_put (q0 := 0) (ci := 8) (C := RX9) (T := TX9) (N := 9) (ty0 := tyX9) (x := .int (p1_month)) X inx_9 tyX9_ok nmX9 hw rfl rfl 0 (by decide) rfl rfl tw_218 rfl rfl (Nat.le_of_ble_eq_true rfl) dX9_copy_5 (fun H locs hw => ?_)
  have hw : Wd E A s.heap (wX9 E t_o t_q p1_month t_power t_master t_left t_kept t_passed t_sizes t_fields t_liked ++ (wX9 E p1_o p1_q p1_month p1_power p1_master p1_left p1_kept p1_passed p1_sizes p1_fields p1_liked)) H locs := hw
  refine lv_aload_n hx hb dX9_copy_8 rfl (lv_at hl 0 rfl) ?_
  refine lv_aload_n hx hb dX9_copy_9 rfl (lv_at hl 1 rfl) ?_
  refine k_get (q0 := 4) (ci := 8) (C := RX9) (T := TX9) (N := 9) (x := .int (p1_power)) X inx_9 hw rfl rfl 1 (by decide) rfl tw_220 rfl dX9_copy_10 ?_
  refine k_put (q0 := 0) (ci := 8) (C := RX9) (T := TX9) (N := 9) (ty0 := tyX9) (x := .int (p1_power)) X inx_9 tyX9_ok nmX9 hw rfl rfl 1 (by decide) rfl rfl tw_220 rfl rfl (Nat.le_of_ble_eq_true rfl) dX9_copy_13 (fun H locs hw => ?_)
  have hw : Wd E A s.heap (wX9 E t_o t_q p1_month p1_power t_master t_left t_kept t_passed t_sizes t_fields t_liked ++ (wX9 E p1_o p1_q p1_month p1_power p1_master p1_left p1_kept p1_passed p1_sizes p1_fields p1_liked)) H locs := hw
  refine lv_aload_n hx hb dX9_copy_16 rfl (lv_at hl 0 rfl) ?_
  refine lv_aload_n hx hb dX9_copy_17 rfl (lv_at hl 1 rfl) ?_
  refine k_get (q0 := 4) (ci := 8) (C := RX9) (T := TX9) (N := 9) (x := .int (p1_master)) X inx_9 hw rfl rfl 2 (by decide) rfl tw_223 rfl dX9_copy_18 ?_
  refine k_put (q0 := 0) (ci := 8) (C := RX9) (T := TX9) (N := 9) (ty0 := tyX9) (x := .int (p1_master)) X inx_9 tyX9_ok nmX9 hw rfl rfl 2 (by decide) rfl rfl tw_223 rfl rfl (Nat.le_of_ble_eq_true rfl) dX9_copy_21 (fun H locs hw => ?_)
  have hw : Wd E A s.heap (wX9 E t_o t_q p1_month p1_power p1_master t_left t_kept t_passed t_sizes t_fields t_liked ++ (wX9 E p1_o p1_q p1_month p1_power p1_master p1_left p1_kept p1_passed p1_sizes p1_fields p1_liked)) H locs := hw
  refine lv_aload_n hx hb dX9_copy_24 rfl (lv_at hl 0 rfl) ?_
  refine lv_aload_n hx hb dX9_copy_25 rfl (lv_at hl 1 rfl) ?_
  refine k_get (q0 := 4) (ci := 8) (C := RX9) (T := TX9) (N := 9) (x := .int (p1_left)) X inx_9 hw rfl rfl 3 (by decide) rfl tw_226 rfl dX9_copy_26 ?_
  refine k_put (q0 := 0) (ci := 8) (C := RX9) (T := TX9) (N := 9) (ty0 := tyX9) (x := .int (p1_left)) X inx_9 tyX9_ok nmX9 hw rfl rfl 3 (by decide) rfl rfl tw_226 rfl rfl (Nat.le_of_ble_eq_true rfl) dX9_copy_29 (fun H locs hw => ?_)
  have hw : Wd E A s.heap (wX9 E t_o t_q p1_month p1_power p1_master p1_left t_kept t_passed t_sizes t_fields t_liked ++ (wX9 E p1_o p1_q p1_month p1_power p1_master p1_left p1_kept p1_passed p1_sizes p1_fields p1_liked)) H locs := hw
  refine lv_aload_n hx hb dX9_copy_32 rfl (lv_at hl 0 rfl) ?_
  refine lv_aload_n hx hb dX9_copy_33 rfl (lv_at hl 1 rfl) ?_
  refine k_get (q0 := 4) (ci := 8) (C := RX9) (T := TX9) (N := 9) (x := .int (p1_kept)) X inx_9 hw rfl rfl 4 (by decide) rfl tw_228 rfl dX9_copy_34 ?_
  obtain ⟨hz_37, hf⟩ := zg_some hf
  refine k_put (q0 := 0) (ci := 8) (C := RX9) (T := TX9) (N := 9) (ty0 := tyX9) (x := .int (p1_kept)) X inx_9 tyX9_ok nmX9 hw rfl rfl 4 (by decide) rfl rfl tw_228 (nar_z hz_37) (fit_z hz_37) (Nat.le_of_ble_eq_true rfl) dX9_copy_37 (fun H locs hw => ?_)
  have hw : Wd E A s.heap (wX9 E t_o t_q p1_month p1_power p1_master p1_left p1_kept t_passed t_sizes t_fields t_liked ++ (wX9 E p1_o p1_q p1_month p1_power p1_master p1_left p1_kept p1_passed p1_sizes p1_fields p1_liked)) H locs := hw
  refine lv_aload_n hx hb dX9_copy_40 rfl (lv_at hl 0 rfl) ?_
  refine lv_aload_n hx hb dX9_copy_41 rfl (lv_at hl 1 rfl) ?_
  refine k_get (q0 := 4) (ci := 8) (C := RX9) (T := TX9) (N := 9) (x := .int (p1_passed)) X inx_9 hw rfl rfl 5 (by decide) rfl tw_231 rfl dX9_copy_42 ?_
  refine k_put (q0 := 0) (ci := 8) (C := RX9) (T := TX9) (N := 9) (ty0 := tyX9) (x := .int (p1_passed)) X inx_9 tyX9_ok nmX9 hw rfl rfl 5 (by decide) rfl rfl tw_231 rfl rfl (Nat.le_of_ble_eq_true rfl) dX9_copy_45 (fun H locs hw => ?_)
  have hw : Wd E A s.heap (wX9 E t_o t_q p1_month p1_power p1_master p1_left p1_kept p1_passed t_sizes t_fields t_liked ++ (wX9 E p1_o p1_q p1_month p1_power p1_master p1_left p1_kept p1_passed p1_sizes p1_fields p1_liked)) H locs := hw
  refine lv_aload_n hx hb dX9_copy_48 rfl (lv_at hl 1 rfl) ?_
  refine k_get (q0 := 4) (ci := 8) (C := RX9) (T := TX9) (N := 9) (x := .ref (p1_q 6)) X inx_9 hw rfl rfl 6 (by decide) rfl tw_232 rfl dX9_copy_49 ?_
  refine lv_aload_n hx hb dX9_copy_52 rfl (lv_at hl 0 rfl) ?_
  refine k_get (q0 := 0) (ci := 8) (C := RX9) (T := TX9) (N := 9) (x := .ref (t_q 6)) X inx_9 hw rfl rfl 6 (by decide) rfl tw_232 rfl dX9_copy_53 ?_
  obtain ⟨r56, hc_56, hf⟩ := bd_some hf
  refine k_SN (As := [.ref (p1_q 6), .ref (t_q 6)]) (rest := []) (host := "PloughCall") (index := 62) X (c_X12_copyRow hc_56) nw_87 tw_119 tw_919 tw_920 ⟨rfl, rfl⟩ hd_X12_copyRow.2 ⟨Nat.le_of_ble_eq_true rfl, Nat.le_of_ble_eq_true rfl⟩ ⟨Nat.zero_le _, Nat.zero_le _⟩ hw [5, 1] rfl rfl rfl hl.1 rfl (Nat.le_of_ble_eq_true rfl) dX9_copy_56 (fun H locs hw => ?_)
  have hw : Wd E A s.heap (wX9 E t_o t_q p1_month p1_power p1_master p1_left p1_kept p1_passed r56 t_fields t_liked ++ (wX9 E p1_o p1_q p1_month p1_power p1_master p1_left p1_kept p1_passed p1_sizes p1_fields p1_liked)) H locs := hw
  refine lv_aload_n hx hb dX9_copy_59 rfl (lv_at hl 1 rfl) ?_
  refine k_get (q0 := 4) (ci := 8) (C := RX9) (T := TX9) (N := 9) (x := .ref (p1_q 7)) X inx_9 hw rfl rfl 7 (by decide) rfl tw_235 rfl dX9_copy_60 ?_
  refine lv_aload_n hx hb dX9_copy_63 rfl (lv_at hl 0 rfl) ?_
  refine k_get (q0 := 0) (ci := 8) (C := RX9) (T := TX9) (N := 9) (x := .ref (t_q 7)) X inx_9 hw rfl rfl 7 (by decide) rfl tw_235 rfl dX9_copy_64 ?_
  obtain ⟨r67, hc_67, hf⟩ := bd_some hf
  refine k_SN (As := [.ref (p1_q 7), .ref (t_q 7)]) (rest := []) (host := "PloughCall") (index := 62) X (c_X12_copyRow hc_67) nw_87 tw_119 tw_919 tw_920 ⟨rfl, rfl⟩ hd_X12_copyRow.2 ⟨Nat.le_of_ble_eq_true rfl, Nat.le_of_ble_eq_true rfl⟩ ⟨Nat.zero_le _, Nat.zero_le _⟩ hw [6, 2] rfl rfl rfl hl.1 rfl (Nat.le_of_ble_eq_true rfl) dX9_copy_67 (fun H locs hw => ?_)
  have hw : Wd E A s.heap (wX9 E t_o t_q p1_month p1_power p1_master p1_left p1_kept p1_passed r56 r67 t_liked ++ (wX9 E p1_o p1_q p1_month p1_power p1_master p1_left p1_kept p1_passed p1_sizes p1_fields p1_liked)) H locs := hw
  refine lv_aload_n hx hb dX9_copy_70 rfl (lv_at hl 1 rfl) ?_
  refine k_get (q0 := 4) (ci := 8) (C := RX9) (T := TX9) (N := 9) (x := .ref (p1_q 8)) X inx_9 hw rfl rfl 8 (by decide) rfl tw_237 rfl dX9_copy_71 ?_
  refine lv_aload_n hx hb dX9_copy_74 rfl (lv_at hl 0 rfl) ?_
  refine k_get (q0 := 0) (ci := 8) (C := RX9) (T := TX9) (N := 9) (x := .ref (t_q 8)) X inx_9 hw rfl rfl 8 (by decide) rfl tw_237 rfl dX9_copy_75 ?_
  obtain ⟨r78, hc_78, hf⟩ := bd_some hf
  refine k_SN (As := [.ref (p1_q 8), .ref (t_q 8)]) (rest := []) (host := "PloughCall") (index := 62) X (c_X12_copyRow hc_78) nw_87 tw_119 tw_919 tw_920 ⟨rfl, rfl⟩ hd_X12_copyRow.2 ⟨Nat.le_of_ble_eq_true rfl, Nat.le_of_ble_eq_true rfl⟩ ⟨Nat.zero_le _, Nat.zero_le _⟩ hw [7, 3] rfl rfl rfl hl.1 rfl (Nat.le_of_ble_eq_true rfl) dX9_copy_78 (fun H locs hw => ?_)
  have hw : Wd E A s.heap (wX9 E t_o t_q p1_month p1_power p1_master p1_left p1_kept p1_passed r56 r67 r78 ++ (wX9 E p1_o p1_q p1_month p1_power p1_master p1_left p1_kept p1_passed p1_sizes p1_fields p1_liked)) H locs := hw
  obtain rfl := Option.some.inj hf
  exact k_vret X hw dX9_copy_81
/-! boolean canName(PloughCall$City, int, int); -/
def f_X9_canName (t_power : Int32) (p1_men : Int32) (p1_consuls : Int32) (p1_hated : (Nat → Int32)) (x2 : Int32) (x3 : Int32) : Int32 := if t_power = (-1 : Int32) then if (f_X1_couldName p1_men p1_consuls p1_hated (x2) (x3)) = (0 : Int32) then ((0 : Int32))
    else ((1 : Int32))
  else ((0 : Int32))
abbrev rm_X9_canName : Room := { frames := 3, cells := 0, slots := 0, locals := 65 }
theorem hd_X9_canName : yX9_canName.cls = RX9 ∧ yX9_canName.cls ≠ "java/lang/invoke/MethodHandle" ∧ yX9_canName.cls ≠ "java/lang/invoke/VarHandle" ∧ (parseMethodDescriptor yX9_canName.desc).map (fun d => d.parameters.length) = some 3 := by decide +kernel
set_option maxRecDepth 100000 in
set_option maxHeartbeats 4000000 in
theorem c_X9_canName {E : En} {l : Launch} {t_o : Nat} {t_q : Nat → Nat} {t_month : Int32} {t_power : Int32} {t_master : Int32} {t_left : Int32} {t_kept : Int32} {t_passed : Int32} {t_sizes : (Nat → Int32)} {t_fields : (Nat → Int32)} {t_liked : (Nat → Int32)} {p1_o : Nat} {p1_q : Nat → Nat} {p1_men : Int32} {p1_consuls : Int32} {p1_dangers : Int32} {p1_decrees : Int32} {p1_term : Int32} {p1_termTold : Int32} {p1_manNames : (Nat → Int64)} {p1_kinds : (Nat → Int32)} {p1_skills : (Nat → Int32)} {p1_fields : (Nat → Int32)} {p1_wants : (Nat → Int32)} {p1_hated : (Nat → Int32)} {p1_dangerNames : (Nat → Int64)} {p1_sizes : (Nat → Int32)} {p1_grows : (Nat → Int32)} {p1_decreeNames : (Nat → Int64)} {p1_grounds : (Nat → Int32)} {p1_laws : Value} {x2 : Int32} {x3 : Int32} {out : Int32} (hf : f_X9_canName t_power p1_men p1_consuls p1_hated x2 x3 = out) : Cn E l yX9_canName cX9_canName 4 (some .boolean) rm_X9_canName [.ref t_o, .ref p1_o, .int (x2), .int (x3)] (wX9 E t_o t_q t_month t_power t_master t_left t_kept t_passed t_sizes t_fields t_liked ++ (wX1 E p1_o p1_q p1_men p1_consuls p1_dangers p1_decrees p1_term p1_termTold p1_manNames p1_kinds p1_skills p1_fields p1_wants p1_hated p1_dangerNames p1_sizes p1_grows p1_decreeNames p1_grounds p1_laws)) (some (.int out)) (wX9 E t_o t_q t_month t_power t_master t_left t_kept t_passed t_sizes t_fields t_liked ++ (wX1 E p1_o p1_q p1_men p1_consuls p1_dangers p1_decrees p1_term p1_termTold p1_manNames p1_kinds p1_skills p1_fields p1_wants p1_hated p1_dangerNames p1_sizes p1_grows p1_decreeNames p1_grounds p1_laws)) := by
  refine Cn.of (by decide) (Nat.le_of_ble_eq_true rfl) rfl ?_
  intro p e s m below meth c A ls args H locs X hw hl
  have hx := X.1.1
  have hb := X.1.2.1
  have ho := X.1.2.2.2.1
  have hts := X.1.2.2.2.2
  have hl : lv_has ls 4 [(0, .ref t_o), (1, .ref p1_o), (2, .int (x2)), (3, .int (x3))] := hl
  unfold f_X9_canName at hf
  refine lv_aload_n hx hb dX9_canName_0 rfl (lv_at hl 0 rfl) ?_
  refine k_get (q0 := 0) (ci := 8) (C := RX9) (T := TX9) (N := 9) (x := .int (t_power)) X inx_9 hw rfl rfl 1 (by decide) rfl tw_220 rfl dX9_canName_1 ?_
  refine lv_iconst (v := (-1 : Int32)) hx hb dX9_canName_4 (by decide) ?_
  refine lv_icmp_ne (tgt := 21) hx hb dX9_canName_5 (by decide) (fun c_5 => ?_) (fun c_5 => ?_)
  · have hf := (if_neg c_5).symm.trans hf
    refine lv_iconst (v := (0 : Int32)) hx hb dX9_canName_21 (by decide) ?_
    subst hf
    exact k_zret X (Or.inl rfl) hw dX9_canName_22
  · have hf := (if_pos c_5).symm.trans hf
    refine lv_aload_n hx hb dX9_canName_8 rfl (lv_at hl 1 rfl) ?_
    refine lv_iload_n hx hb dX9_canName_9 rfl (lv_at hl 2 rfl) ?_
    refine lv_iload_n hx hb dX9_canName_10 rfl (lv_at hl 3 rfl) ?_
    refine k_V (As := [.int (x2), .int (x3)]) (rest := []) (index := 66) (C := RX1) X (c_X1_couldName (out := (f_X1_couldName p1_men p1_consuls p1_hated (x2) (x3))) rfl) tw_905 tw_892 tw_893 tw_126 tw_894 ⟨rfl, rfl⟩ hd_X1_couldName ⟨Nat.le_of_ble_eq_true rfl, Nat.le_of_ble_eq_true rfl⟩ ⟨Nat.zero_le _, Nat.zero_le _⟩ hw [4, 5, 6, 7, 8, 9, 10, 11, 12, 13, 14, 15] rfl rfl 4 rfl rfl rfl rfl hl.1 rfl (Nat.le_of_ble_eq_true rfl) dX9_canName_11 (fun H locs hw => ?_)
    have hw : Wd E A s.heap (wX9 E t_o t_q t_month t_power t_master t_left t_kept t_passed t_sizes t_fields t_liked ++ (wX1 E p1_o p1_q p1_men p1_consuls p1_dangers p1_decrees p1_term p1_termTold p1_manNames p1_kinds p1_skills p1_fields p1_wants p1_hated p1_dangerNames p1_sizes p1_grows p1_decreeNames p1_grounds p1_laws)) H locs := hw
    refine lv_if_eq (tgt := 21) hx hb dX9_canName_14 (by decide) (fun c_14 => ?_) (fun c_14 => ?_)
    · have hf := (if_pos c_14).symm.trans hf
      refine lv_iconst (v := (0 : Int32)) hx hb dX9_canName_21 (by decide) ?_
      subst hf
      exact k_zret X (Or.inl rfl) hw dX9_canName_22
    · have hf := (if_neg c_14).symm.trans hf
      refine lv_iconst (v := (1 : Int32)) hx hb dX9_canName_17 (by decide) ?_
      refine lv_goto (tgt := 22) hx hb dX9_canName_18 (by decide) ?_
      subst hf
      exact k_zret X (Or.inr rfl) hw dX9_canName_22
theorem zb_X9_canName (t_power : Int32) (p1_men : Int32) (p1_consuls : Int32) (p1_hated : (Nat → Int32)) (x2 : Int32) (x3 : Int32) : f_X9_canName t_power p1_men p1_consuls p1_hated x2 x3 = 0 ∨ f_X9_canName t_power p1_men p1_consuls p1_hated x2 x3 = 1 := by
  unfold f_X9_canName
  repeat' apply ite_z
  all_goals first | exact Or.inl rfl | exact Or.inr rfl | exact zb_X1_couldName _ _ _ _ _
/-! private int lessen(int, int); -/
def f_X9_lessen (t_sizes : (Nat → Int32)) (x1 : Int32) (x2 : Int32) : Int32 × (Nat → Int32) := if (ga (5) t_sizes (x1)) ≤ (0 : Int32) then ((0 : Int32), (gp (5) t_sizes (x1) ((imax (0 : Int32) ((ga (5) t_sizes (x1)) - x2)))))
  else if (imax (0 : Int32) ((ga (5) t_sizes (x1)) - x2)) = (0 : Int32) then ((1 : Int32), (gp (5) t_sizes (x1) ((imax (0 : Int32) ((ga (5) t_sizes (x1)) - x2)))))
  else ((0 : Int32), (gp (5) t_sizes (x1) ((imax (0 : Int32) ((ga (5) t_sizes (x1)) - x2)))))
abbrev rm_X9_lessen : Room := { frames := 1, cells := 0, slots := 0, locals := 22 }
theorem hd_X9_lessen : yX9_lessen.cls = RX9 ∧ yX9_lessen.cls ≠ "java/lang/invoke/MethodHandle" ∧ yX9_lessen.cls ≠ "java/lang/invoke/VarHandle" ∧ (parseMethodDescriptor yX9_lessen.desc).map (fun d => d.parameters.length) = some 2 := by decide +kernel
set_option maxRecDepth 100000 in
set_option maxHeartbeats 4000000 in
theorem c_X9_lessen {E : En} {l : Launch} {t_o : Nat} {t_q : Nat → Nat} {t_month : Int32} {t_power : Int32} {t_master : Int32} {t_left : Int32} {t_kept : Int32} {t_passed : Int32} {t_sizes : (Nat → Int32)} {t_fields : (Nat → Int32)} {t_liked : (Nat → Int32)} {x1 : Int32} {x2 : Int32} {out : Int32 × (Nat → Int32)} (hf : f_X9_lessen t_sizes x1 x2 = out) : Cn E l yX9_lessen cX9_lessen 5 (some .int) rm_X9_lessen [.ref t_o, .int (x1), .int (x2)] (wX9 E t_o t_q t_month t_power t_master t_left t_kept t_passed t_sizes t_fields t_liked) (some (.int out.1)) (wX9 E t_o t_q t_month t_power t_master t_left t_kept t_passed out.2 t_fields t_liked) := by
  refine Cn.of (by decide) (Nat.le_of_ble_eq_true rfl) rfl ?_
  intro p e s m below meth c A ls args H locs X hw hl
  have hx := X.1.1
  have hb := X.1.2.1
  have ho := X.1.2.2.2.1
  have hts := X.1.2.2.2.2
  have hl : lv_has ls 5 [(0, .ref t_o), (1, .int (x1)), (2, .int (x2))] := hl
  unfold f_X9_lessen at hf
  refine lv_aload_n hx hb dX9_lessen_0 rfl (lv_at hl 0 rfl) ?_
  refine k_get (q0 := 0) (ci := 8) (C := RX9) (T := TX9) (N := 9) (x := .ref (t_q 6)) X inx_9 hw rfl rfl 6 (by decide) rfl tw_232 rfl dX9_lessen_1 ?_
  refine lv_iload_n hx hb dX9_lessen_4 rfl (lv_at hl 1 rfl) ?_
  refine k_SN (As := [.ref (t_q 6), .int (x1)]) (rest := []) (host := "PloughCall") (index := 40) X (ct_X12_at (out := (ga (5) t_sizes (x1))) rfl) nw_84 tw_119 tw_591 tw_592 ⟨rfl, rfl⟩ hd_X12_at.2 ⟨Nat.le_of_ble_eq_true rfl, Nat.le_of_ble_eq_true rfl⟩ ⟨Nat.zero_le _, Nat.zero_le _⟩ hw [1] rfl rfl rfl hl.1 rfl (Nat.le_of_ble_eq_true rfl) dX9_lessen_5 (fun H locs hw => ?_)
  have hw : Wd E A s.heap (wX9 E t_o t_q t_month t_power t_master t_left t_kept t_passed t_sizes t_fields t_liked) H locs := hw
  refine lv_istore_n (lv' := [(3, .int ((ga (5) t_sizes (x1)))), (0, .ref t_o), (1, .int (x1)), (2, .int (x2))]) hx hb dX9_lessen_8 rfl hl (by decide) rfl (fun ls hl => ?_)
  refine lv_iconst (v := (0 : Int32)) hx hb dX9_lessen_9 (by decide) ?_
  refine lv_iload_n hx hb dX9_lessen_10 rfl (lv_at hl 0 rfl) ?_
  refine lv_iload_n hx hb dX9_lessen_11 rfl (lv_at hl 3 rfl) ?_
  refine lv_isub hx hb dX9_lessen_12 ?_
  refine k_max (index := 110) X tw_983 tw_977 tw_135 tw_978 (Nat.le_of_ble_eq_true rfl) (Nat.le_of_ble_eq_true rfl) ⟨Nat.zero_le _, Nat.zero_le _⟩ hl.1 dX9_lessen_13 ?_
  refine lv_istore (lv' := [(4, .int ((imax (0 : Int32) ((ga (5) t_sizes (x1)) - x2)))), (3, .int ((ga (5) t_sizes (x1)))), (0, .ref t_o), (1, .int (x1)), (2, .int (x2))]) hx hb dX9_lessen_16 hl (by decide) rfl (fun ls hl => ?_)
  refine lv_aload_n hx hb dX9_lessen_18 rfl (lv_at hl 2 rfl) ?_
  refine k_get (q0 := 0) (ci := 8) (C := RX9) (T := TX9) (N := 9) (x := .ref (t_q 6)) X inx_9 hw rfl rfl 6 (by decide) rfl tw_232 rfl dX9_lessen_19 ?_
  refine lv_iload_n hx hb dX9_lessen_22 rfl (lv_at hl 3 rfl) ?_
  refine lv_iload hx hb dX9_lessen_23 (lv_at hl 0 rfl) ?_
  refine k_SN (As := [.ref (t_q 6), .int (x1), .int ((imax (0 : Int32) ((ga (5) t_sizes (x1)) - x2)))]) (rest := []) (host := "PloughCall") (index := 44) X (ct_X12_put (out := (gp (5) t_sizes (x1) ((imax (0 : Int32) ((ga (5) t_sizes (x1)) - x2))))) rfl) nw_85 tw_119 tw_563 tw_564 ⟨rfl, rfl⟩ hd_X12_put.2 ⟨Nat.le_of_ble_eq_true rfl, Nat.le_of_ble_eq_true rfl⟩ ⟨Nat.zero_le _, Nat.zero_le _⟩ hw [1] rfl rfl rfl hl.1 rfl (Nat.le_of_ble_eq_true rfl) dX9_lessen_25 (fun H locs hw => ?_)
  have hw : Wd E A s.heap (wX9 E t_o t_q t_month t_power t_master t_left t_kept t_passed ((gp (5) t_sizes (x1) ((imax (0 : Int32) ((ga (5) t_sizes (x1)) - x2))))) t_fields t_liked) H locs := hw
  refine lv_iload_n hx hb dX9_lessen_28 rfl (lv_at hl 1 rfl) ?_
  refine lv_if_le (tgt := 41) hx hb dX9_lessen_29 (by decide) (fun c_29 => ?_) (fun c_29 => ?_)
  · have hf := (if_pos c_29).symm.trans hf
    refine lv_iconst (v := (0 : Int32)) hx hb dX9_lessen_41 (by decide) ?_
    subst hf
    exact k_iret X hw dX9_lessen_42
  · have hf := (if_neg c_29).symm.trans hf
    refine lv_iload hx hb dX9_lessen_32 (lv_at hl 0 rfl) ?_
    refine lv_if_ne (tgt := 41) hx hb dX9_lessen_34 (by decide) (fun c_34 => ?_) (fun c_34 => ?_)
    · have hf := (if_neg c_34).symm.trans hf
      refine lv_iconst (v := (0 : Int32)) hx hb dX9_lessen_41 (by decide) ?_
      subst hf
      exact k_iret X hw dX9_lessen_42
    · have hf := (if_pos c_34).symm.trans hf
      refine lv_iconst (v := (1 : Int32)) hx hb dX9_lessen_37 (by decide) ?_
      refine lv_goto (tgt := 42) hx hb dX9_lessen_38 (by decide) ?_
      subst hf
      exact k_iret X hw dX9_lessen_42
