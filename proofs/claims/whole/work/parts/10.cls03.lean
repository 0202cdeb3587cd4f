/-! int manNamed(long); -/
def f_X1_manNamed (t_men : Int32) (t_manNames : (Nat → Int64)) (x1 : Int64) : Option (Int32) := (f_X1_placeOf (6) t_manNames (t_men) (x1)).bind fun r9 => some (r9)
abbrev rm_X1_manNamed : Room := { frames := 1, cells := 0, slots := 0, locals := 24 }
theorem hd_X1_manNamed : yX1_manNamed.cls = RX1 ∧ yX1_manNamed.cls ≠ "java/lang/invoke/MethodHandle" ∧ yX1_manNamed.cls ≠ "java/lang/invoke/VarHandle" ∧ (parseMethodDescriptor yX1_manNamed.desc).map (fun d => d.parameters.length) = some 1 := by decide +kernel
set_option maxRecDepth 100000 in
set_option maxHeartbeats 4000000 in
theorem c_X1_manNamed {E : En} {l : Launch} {t_o : Nat} {t_q : Nat → Nat} {t_men : Int32} {t_consuls : Int32} {t_dangers : Int32} {t_decrees : Int32} {t_term : Int32} {t_termTold : Int32} {t_manNames : (Nat → Int64)} {t_kinds : (Nat → Int32)} {t_skills : (Nat → Int32)} {t_fields : (Nat → Int32)} {t_wants : (Nat → Int32)} {t_hated : (Nat → Int32)} {t_dangerNames : (Nat → Int64)} {t_sizes : (Nat → Int32)} {t_grows : (Nat → Int32)} {t_decreeNames : (Nat → Int64)} {t_grounds : (Nat → Int32)} {t_laws : Value} {x1 : Int64} {out : Int32} (hf : f_X1_manNamed t_men t_manNames x1 = some out) : Cn E l yX1_manNamed cX1_manNamed 3 (some .int) rm_X1_manNamed [.ref t_o, .long (x1)] (wX1 E t_o t_q t_men t_consuls t_dangers t_decrees t_term t_termTold t_manNames t_kinds t_skills t_fields t_wants t_hated t_dangerNames t_sizes t_grows t_decreeNames t_grounds t_laws) (some (.int out)) (wX1 E t_o t_q t_men t_consuls t_dangers t_decrees t_term t_termTold t_manNames t_kinds t_skills t_fields t_wants t_hated t_dangerNames t_sizes t_grows t_decreeNames t_grounds t_laws) := by
  refine Cn.of (by decide) (Nat.le_of_ble_eq_true rfl) rfl ?_
  intro p e s m below meth c A ls args H locs X hw hl
  have hx := X.1.1
  have hb := X.1.2.1
  have ho := X.1.2.2.2.1
  have hts := X.1.2.2.2.2
  have hl : lv_has ls 3 [(0, .ref t_o), (1, .long (x1))] := hl
  unfold f_X1_manNamed at hf
  refine lv_aload_n hx hb dX1_manNamed_0 rfl (lv_at hl 0 rfl) ?_
  refine k_get (q0 := 0) (ci := 0) (C := RX1) (T := TX1) (N := 18) (x := .ref (t_q 6)) X inx_1 hw rfl rfl 6 (by decide) rfl tw_395 rfl dX1_manNamed_1 ?_
  refine lv_aload_n hx hb dX1_manNamed_4 rfl (lv_at hl 0 rfl) ?_
  refine k_get (q0 := 0) (ci := 0) (C := RX1) (T := TX1) (N := 18) (x := .int (t_men)) X inx_1 hw rfl rfl 0 (by decide) rfl tw_372 rfl dX1_manNamed_5 ?_
  refine lv_lload_n hx hb dX1_manNamed_8 rfl (lv_at hl 1 rfl) ?_
  obtain ⟨r9, hc_9, hf⟩ := bd_some hf
  refine k_S (As := [.ref (t_q 6), .int (t_men), .long (x1)]) (rest := []) (index := 80) X (c_X1_placeOf hc_9) tw_650 tw_651 tw_126 tw_652 ⟨rfl, rfl⟩ hd_X1_placeOf ⟨Nat.le_of_ble_eq_true rfl, Nat.le_of_ble_eq_true rfl⟩ ⟨Nat.zero_le _, Nat.zero_le _⟩ hw [1] rfl rfl rfl hl.1 rfl (Nat.le_of_ble_eq_true rfl) dX1_manNamed_9 (fun H locs hw => ?_)
  have hw : Wd E A s.heap (wX1 E t_o t_q t_men t_consuls t_dangers t_decrees t_term t_termTold t_manNames t_kinds t_skills t_fields t_wants t_hated t_dangerNames t_sizes t_grows t_decreeNames t_grounds t_laws) H locs := hw
  obtain rfl := Option.some.inj hf
  exact k_iret X hw dX1_manNamed_12
/-! int dangerNamed(long); -/
def f_X1_dangerNamed (t_dangers : Int32) (t_dangerNames : (Nat → Int64)) (x1 : Int64) : Option (Int32) := (f_X1_placeOf (5) t_dangerNames (t_dangers) (x1)).bind fun r9 => some (r9)
abbrev rm_X1_dangerNamed : Room := { frames := 1, cells := 0, slots := 0, locals := 24 }
theorem hd_X1_dangerNamed : yX1_dangerNamed.cls = RX1 ∧ yX1_dangerNamed.cls ≠ "java/lang/invoke/MethodHandle" ∧ yX1_dangerNamed.cls ≠ "java/lang/invoke/VarHandle" ∧ (parseMethodDescriptor yX1_dangerNamed.desc).map (fun d => d.parameters.length) = some 1 := by decide +kernel
set_option maxRecDepth 100000 in
set_option maxHeartbeats 4000000 in
theorem c_X1_dangerNamed {E : En} {l : Launch} {t_o : Nat} {t_q : Nat → Nat} {t_men : Int32} {t_consuls : Int32} {t_dangers : Int32} {t_decrees : Int32} {t_term : Int32} {t_termTold : Int32} {t_manNames : (Nat → Int64)} {t_kinds : (Nat → Int32)} {t_skills : (Nat → Int32)} {t_fields : (Nat → Int32)} {t_wants : (Nat → Int32)} {t_hated : (Nat → Int32)} {t_dangerNames : (Nat → Int64)} {t_sizes : (Nat → Int32)} {t_grows : (Nat → Int32)} {t_decreeNames : (Nat → Int64)} {t_grounds : (Nat → Int32)} {t_laws : Value} {x1 : Int64} {out : Int32} (hf : f_X1_dangerNamed t_dangers t_dangerNames x1 = some out) : Cn E l yX1_dangerNamed cX1_dangerNamed 3 (some .int) rm_X1_dangerNamed [.ref t_o, .long (x1)] (wX1 E t_o t_q t_men t_consuls t_dangers t_decrees t_term t_termTold t_manNames t_kinds t_skills t_fields t_wants t_hated t_dangerNames t_sizes t_grows t_decreeNames t_grounds t_laws) (some (.int out)) (wX1 E t_o t_q t_men t_consuls t_dangers t_decrees t_term t_termTold t_manNames t_kinds t_skills t_fields t_wants t_hated t_dangerNames t_sizes t_grows t_decreeNames t_grounds t_laws) := by
  refine Cn.of (by decide) (Nat.le_of_ble_eq_true rfl) rfl ?_
  intro p e s m below meth c A ls args H locs X hw hl
  have hx := X.1.1
  have hb := X.1.2.1
  have ho := X.1.2.2.2.1
  have hts := X.1.2.2.2.2
  have hl : lv_has ls 3 [(0, .ref t_o), (1, .long (x1))] := hl
  unfold f_X1_dangerNamed at hf
  refine lv_aload_n hx hb dX1_dangerNamed_0 rfl (lv_at hl 0 rfl) ?_
  refine k_get (q0 := 0) (ci := 0) (C := RX1) (T := TX1) (N := 18) (x := .ref (t_q 12)) X inx_1 hw rfl rfl 12 (by decide) rfl tw_408 rfl dX1_dangerNamed_1 ?_
  refine lv_aload_n hx hb dX1_dangerNamed_4 rfl (lv_at hl 0 rfl) ?_
  refine k_get (q0 := 0) (ci := 0) (C := RX1) (T := TX1) (N := 18) (x := .int (t_dangers)) X inx_1 hw rfl rfl 2 (by decide) rfl tw_381 rfl dX1_dangerNamed_5 ?_
  refine lv_lload_n hx hb dX1_dangerNamed_8 rfl (lv_at hl 1 rfl) ?_
  obtain ⟨r9, hc_9, hf⟩ := bd_some hf
  refine k_S (As := [.ref (t_q 12), .int (t_dangers), .long (x1)]) (rest := []) (index := 80) X (c_X1_placeOf hc_9) tw_650 tw_651 tw_126 tw_652 ⟨rfl, rfl⟩ hd_X1_placeOf ⟨Nat.le_of_ble_eq_true rfl, Nat.le_of_ble_eq_true rfl⟩ ⟨Nat.zero_le _, Nat.zero_le _⟩ hw [7] rfl rfl rfl hl.1 rfl (Nat.le_of_ble_eq_true rfl) dX1_dangerNamed_9 (fun H locs hw => ?_)
  have hw : Wd E A s.heap (wX1 E t_o t_q t_men t_consuls t_dangers t_decrees t_term t_termTold t_manNames t_kinds t_skills t_fields t_wants t_hated t_dangerNames t_sizes t_grows t_decreeNames t_grounds t_laws) H locs := hw
  obtain rfl := Option.some.inj hf
  exact k_iret X hw dX1_dangerNamed_12
/-! int decreeNamed(long); -/
def f_X1_decreeNamed (t_decrees : Int32) (t_decreeNames : (Nat → Int64)) (x1 : Int64) : Option (Int32) := (f_X1_placeOf (6) t_decreeNames (t_decrees) (x1)).bind fun r9 => some (r9)
abbrev rm_X1_decreeNamed : Room := { frames := 1, cells := 0, slots := 0, locals := 24 }
theorem hd_X1_decreeNamed : yX1_decreeNamed.cls = RX1 ∧ yX1_decreeNamed.cls ≠ "java/lang/invoke/MethodHandle" ∧ yX1_decreeNamed.cls ≠ "java/lang/invoke/VarHandle" ∧ (parseMethodDescriptor yX1_decreeNamed.desc).map (fun d => d.parameters.length) = some 1 := by decide +kernel
set_option maxRecDepth 100000 in
set_option maxHeartbeats 4000000 in
theorem c_X1_decreeNamed {E : En} {l : Launch} {t_o : Nat} {t_q : Nat → Nat} {t_men : Int32} {t_consuls : Int32} {t_dangers : Int32} {t_decrees : Int32} {t_term : Int32} {t_termTold : Int32} {t_manNames : (Nat → Int64)} {t_kinds : (Nat → Int32)} {t_skills : (Nat → Int32)} {t_fields : (Nat → Int32)} {t_wants : (Nat → Int32)} {t_hated : (Nat → Int32)} {t_dangerNames : (Nat → Int64)} {t_sizes : (Nat → Int32)} {t_grows : (Nat → Int32)} {t_decreeNames : (Nat → Int64)} {t_grounds : (Nat → Int32)} {t_laws : Value} {x1 : Int64} {out : Int32} (hf : f_X1_decreeNamed t_decrees t_decreeNames x1 = some out) : Cn E l yX1_decreeNamed cX1_decreeNamed 3 (some .int) rm_X1_decreeNamed [.ref t_o, .long (x1)] (wX1 E t_o t_q t_men t_consuls t_dangers t_decrees t_term t_termTold t_manNames t_kinds t_skills t_fields t_wants t_hated t_dangerNames t_sizes t_grows t_decreeNames t_grounds t_laws) (some (.int out)) (wX1 E t_o t_q t_men t_consuls t_dangers t_decrees t_term t_termTold t_manNames t_kinds t_skills t_fields t_wants t_hated t_dangerNames t_sizes t_grows t_decreeNames t_grounds t_laws) := by
  refine Cn.of (by decide) (Nat.le_of_ble_eq_true rfl) rfl ?_
  intro p e s m below meth c A ls args H locs X hw hl
  have hx := X.1.1
  have hb := X.1.2.1
  have ho := X.1.2.2.2.1
  have hts := X.1.2.2.2.2
  have hl : lv_has ls 3 [(0, .ref t_o), (1, .long (x1))] := hl
  unfold f_X1_decreeNamed at hf
  refine lv_aload_n hx hb dX1_decreeNamed_0 rfl (lv_at hl 0 rfl) ?_
  refine k_get (q0 := 0) (ci := 0) (C := RX1) (T := TX1) (N := 18) (x := .ref (t_q 15)) X inx_1 hw rfl rfl 15 (by decide) rfl tw_418 rfl dX1_decreeNamed_1 ?_
  refine lv_aload_n hx hb dX1_decreeNamed_4 rfl (lv_at hl 0 rfl) ?_
  refine k_get (q0 := 0) (ci := 0) (C := RX1) (T := TX1) (N := 18) (x := .int (t_decrees)) X inx_1 hw rfl rfl 3 (by decide) rfl tw_386 rfl dX1_decreeNamed_5 ?_
  refine lv_lload_n hx hb dX1_decreeNamed_8 rfl (lv_at hl 1 rfl) ?_
  obtain ⟨r9, hc_9, hf⟩ := bd_some hf
  refine k_S (As := [.ref (t_q 15), .int (t_decrees), .long (x1)]) (rest := []) (index := 80) X (c_X1_placeOf hc_9) tw_650 tw_651 tw_126 tw_652 ⟨rfl, rfl⟩ hd_X1_placeOf ⟨Nat.le_of_ble_eq_true rfl, Nat.le_of_ble_eq_true rfl⟩ ⟨Nat.zero_le _, Nat.zero_le _⟩ hw [10] rfl rfl rfl hl.1 rfl (Nat.le_of_ble_eq_true rfl) dX1_decreeNamed_9 (fun H locs hw => ?_)
  have hw : Wd E A s.heap (wX1 E t_o t_q t_men t_consuls t_dangers t_decrees t_term t_termTold t_manNames t_kinds t_skills t_fields t_wants t_hated t_dangerNames t_sizes t_grows t_decreeNames t_grounds t_laws) H locs := hw
  obtain rfl := Option.some.inj hf
  exact k_iret X hw dX1_decreeNamed_12
/-! boolean isNamed(long); -/
def f_X1_isNamed (t_men : Int32) (t_dangers : Int32) (t_decrees : Int32) (t_manNames : (Nat → Int64)) (t_dangerNames : (Nat → Int64)) (t_decreeNames : (Nat → Int64)) (x1 : Int64) : Option (Int32) := (f_X1_manNamed t_men t_manNames (x1)).bind fun r2 => if r2 = (-1 : Int32) then (f_X1_dangerNamed t_dangers t_dangerNames (x1)).bind fun r11 => if r11 = (-1 : Int32) then (f_X1_decreeNamed t_decrees t_decreeNames (x1)).bind fun r20 => if r20 = (-1 : Int32) then some ((0 : Int32))
      else some ((1 : Int32))
    else some ((1 : Int32))
  else some ((1 : Int32))
abbrev rm_X1_isNamed : Room := { frames := 2, cells := 0, slots := 0, locals := 46 }
theorem hd_X1_isNamed : yX1_isNamed.cls = RX1 ∧ yX1_isNamed.cls ≠ "java/lang/invoke/MethodHandle" ∧ yX1_isNamed.cls ≠ "java/lang/invoke/VarHandle" ∧ (parseMethodDescriptor yX1_isNamed.desc).map (fun d => d.parameters.length) = some 1 := by decide +kernel
set_option maxRecDepth 100000 in
set_option maxHeartbeats 4000000 in
theorem c_X1_isNamed {E : En} {l : Launch} {t_o : Nat} {t_q : Nat → Nat} {t_men : Int32} {t_consuls : Int32} {t_dangers : Int32} {t_decrees : Int32} {t_term : Int32} {t_termTold : Int32} {t_manNames : (Nat → Int64)} {t_kinds : (Nat → Int32)} {t_skills : (Nat → Int32)} {t_fields : (Nat → Int32)} {t_wants : (Nat → Int32)} {t_hated : (Nat → Int32)} {t_dangerNames : (Nat → Int64)} {t_sizes : (Nat → Int32)} {t_grows : (Nat → Int32)} {t_decreeNames : (Nat → Int64)} {t_grounds : (Nat → Int32)} {t_laws : Value} {x1 : Int64} {out : Int32} (hf : f_X1_isNamed t_men t_dangers t_decrees t_manNames t_dangerNames t_decreeNames x1 = some out) : Cn E l yX1_isNamed cX1_isNamed 3 (some .boolean) rm_X1_isNamed [.ref t_o, .long (x1)] (wX1 E t_o t_q t_men t_consuls t_dangers t_decrees t_term t_termTold t_manNames t_kinds t_skills t_fields t_wants t_hated t_dangerNames t_sizes t_grows t_decreeNames t_grounds t_laws) (some (.int out)) (wX1 E t_o t_q t_men t_consuls t_dangers t_decrees t_term t_termTold t_manNames t_kinds t_skills t_fields t_wants t_hated t_dangerNames t_sizes t_grows t_decreeNames t_grounds t_laws) := by
  refine Cn.of (by decide) (Nat.le_of_ble_eq_true rfl) rfl ?_
  intro p e s m below meth c A ls args H locs X hw hl
  have hx := X.1.1
  have hb := X.1.2.1
  have ho := X.1.2.2.2.1
  have hts := X.1.2.2.2.2
  have hl : lv_has ls 3 [(0, .ref t_o), (1, .long (x1))] := hl
  unfold f_X1_isNamed at hf
  refine lv_aload_n hx hb dX1_isNamed_0 rfl (lv_at hl 0 rfl) ?_
  refine lv_lload_n hx hb dX1_isNamed_1 rfl (lv_at hl 1 rfl) ?_
  obtain ⟨r2, hc_2, hf⟩ := bd_some hf
  refine k_V (As := [.long (x1)]) (rest := []) (index := 84) (C := RX1) X (c_X1_manNamed hc_2) tw_646 tw_647 tw_648 tw_126 tw_649 ⟨rfl, rfl⟩ hd_X1_manNamed ⟨Nat.le_of_ble_eq_true rfl, Nat.le_of_ble_eq_true rfl⟩ ⟨Nat.zero_le _, Nat.zero_le _⟩ hw [0, 1, 2, 3, 4, 5, 6, 7, 8, 9, 10, 11] rfl rfl 0 rfl rfl rfl rfl hl.1 rfl (Nat.le_of_ble_eq_true rfl) dX1_isNamed_2 (fun H locs hw => ?_)
  have hw : Wd E A s.heap (wX1 E t_o t_q t_men t_consuls t_dangers t_decrees t_term t_termTold t_manNames t_kinds t_skills t_fields t_wants t_hated t_dangerNames t_sizes t_grows t_decreeNames t_grounds t_laws) H locs := hw
  refine lv_iconst (v := (-1 : Int32)) hx hb dX1_isNamed_5 (by decide) ?_
  refine lv_icmp_ne (tgt := 27) hx hb dX1_isNamed_6 (by decide) (fun c_6 => ?_) (fun c_6 => ?_)
  · have hf := (if_neg c_6).symm.trans hf
    refine lv_iconst (v := (1 : Int32)) hx hb dX1_isNamed_27 (by decide) ?_
    refine lv_goto (tgt := 32) hx hb dX1_isNamed_28 (by decide) ?_
    obtain rfl := Option.some.inj hf
    exact k_zret X (Or.inr rfl) hw dX1_isNamed_32
  · have hf := (if_pos c_6).symm.trans hf
    refine lv_aload_n hx hb dX1_isNamed_9 rfl (lv_at hl 0 rfl) ?_
    refine lv_lload_n hx hb dX1_isNamed_10 rfl (lv_at hl 1 rfl) ?_
    obtain ⟨r11, hc_11, hf⟩ := bd_some hf
    refine k_V (As := [.long (x1)]) (rest := []) (index := 88) (C := RX1) X (c_X1_dangerNamed hc_11) tw_653 tw_654 tw_655 tw_126 tw_656 ⟨rfl, rfl⟩ hd_X1_dangerNamed ⟨Nat.le_of_ble_eq_true rfl, Nat.le_of_ble_eq_true rfl⟩ ⟨Nat.zero_le _, Nat.zero_le _⟩ hw [0, 1, 2, 3, 4, 5, 6, 7, 8, 9, 10, 11] rfl rfl 0 rfl rfl rfl rfl hl.1 rfl (Nat.le_of_ble_eq_true rfl) dX1_isNamed_11 (fun H locs hw => ?_)
    have hw : Wd E A s.heap (wX1 E t_o t_q t_men t_consuls t_dangers t_decrees t_term t_termTold t_manNames t_kinds t_skills t_fields t_wants t_hated t_dangerNames t_sizes t_grows t_decreeNames t_grounds t_laws) H locs := hw
    refine lv_iconst (v := (-1 : Int32)) hx hb dX1_isNamed_14 (by decide) ?_
    refine lv_icmp_ne (tgt := 27) hx hb dX1_isNamed_15 (by decide) (fun c_15 => ?_) (fun c_15 => ?_)
    · have hf := (if_neg c_15).symm.trans hf
      refine lv_iconst (v := (1 : Int32)) hx hb dX1_isNamed_27 (by decide) ?_
      refine lv_goto (tgt := 32) hx hb dX1_isNamed_28 (by decide) ?_
      obtain rfl := Option.some.inj hf
      exact k_zret X (Or.inr rfl) hw dX1_isNamed_32
    · have hf := (if_pos c_15).symm.trans hf
      refine lv_aload_n hx hb dX1_isNamed_18 rfl (lv_at hl 0 rfl) ?_
      refine lv_lload_n hx hb dX1_isNamed_19 rfl (lv_at hl 1 rfl) ?_
      obtain ⟨r20, hc_20, hf⟩ := bd_some hf
      refine k_V (As := [.long (x1)]) (rest := []) (index := 91) (C := RX1) X (c_X1_decreeNamed hc_20) tw_657 tw_658 tw_659 tw_126 tw_660 ⟨rfl, rfl⟩ hd_X1_decreeNamed ⟨Nat.le_of_ble_eq_true rfl, Nat.le_of_ble_eq_true rfl⟩ ⟨Nat.zero_le _, Nat.zero_le _⟩ hw [0, 1, 2, 3, 4, 5, 6, 7, 8, 9, 10, 11] rfl rfl 0 rfl rfl rfl rfl hl.1 rfl (Nat.le_of_ble_eq_true rfl) dX1_isNamed_20 (fun H locs hw => ?_)
      have hw : Wd E A s.heap (wX1 E t_o t_q t_men t_consuls t_dangers t_decrees t_term t_termTold t_manNames t_kinds t_skills t_fields t_wants t_hated t_dangerNames t_sizes t_grows t_decreeNames t_grounds t_laws) H locs := hw
      refine lv_iconst (v := (-1 : Int32)) hx hb dX1_isNamed_23 (by decide) ?_
      refine lv_icmp_eq (tgt := 31) hx hb dX1_isNamed_24 (by decide) (fun c_24 => ?_) (fun c_24 => ?_)
      · have hf := (if_pos c_24).symm.trans hf
        refine lv_iconst (v := (0 : Int32)) hx hb dX1_isNamed_31 (by decide) ?_
        obtain rfl := Option.some.inj hf
        exact k_zret X (Or.inl rfl) hw dX1_isNamed_32
      · have hf := (if_neg c_24).symm.trans hf
        refine lv_iconst (v := (1 : Int32)) hx hb dX1_isNamed_27 (by decide) ?_
        refine lv_goto (tgt := 32) hx hb dX1_isNamed_28 (by decide) ?_
        obtain rfl := Option.some.inj hf
        exact k_zret X (Or.inr rfl) hw dX1_isNamed_32
/-! boolean doesHate(int, int); -/
def f_X1_doesHate (t_men : Int32) (t_hated : (Nat → Int32)) (x1 : Int32) (x2 : Int32) : Int32 := if (f_X1_hasMan t_men (x2)) = (0 : Int32) then ((0 : Int32))
  else if (((ga (6) t_hated (x1)) >>> (x2 &&& (31 : Int32))) &&& (1 : Int32)) = (1 : Int32) then ((1 : Int32))
  else ((0 : Int32))
abbrev rm_X1_doesHate : Room := { frames := 1, cells := 0, slots := 0, locals := 21 }
theorem hd_X1_doesHate : yX1_doesHate.cls = RX1 ∧ yX1_doesHate.cls ≠ "java/lang/invoke/MethodHandle" ∧ yX1_doesHate.cls ≠ "java/lang/invoke/VarHandle" ∧ (parseMethodDescriptor yX1_doesHate.desc).map (fun d => d.parameters.length) = some 2 := by decide +kernel
set_option maxRecDepth 100000 in
set_option maxHeartbeats 4000000 in
theorem c_X1_doesHate {E : En} {l : Launch} {t_o : Nat} {t_q : Nat → Nat} {t_men : Int32} {t_consuls : Int32} {t_dangers : Int32} {t_decrees : Int32} {t_term : Int32} {t_termTold : Int32} {t_manNames : (Nat → Int64)} {t_kinds : (Nat → Int32)} {t_skills : (Nat → Int32)} {t_fields : (Nat → Int32)} {t_wants : (Nat → Int32)} {t_hated : (Nat → Int32)} {t_dangerNames : (Nat → Int64)} {t_sizes : (Nat → Int32)} {t_grows : (Nat → Int32)} {t_decreeNames : (Nat → Int64)} {t_grounds : (Nat → Int32)} {t_laws : Value} {x1 : Int32} {x2 : Int32} {out : Int32} (hf : f_X1_doesHate t_men t_hated x1 x2 = out) : Cn E l yX1_doesHate cX1_doesHate 3 (some .boolean) rm_X1_doesHate [.ref t_o, .int (x1), .int (x2)] (wX1 E t_o t_q t_men t_consuls t_dangers t_decrees t_term t_termTold t_manNames t_kinds t_skills t_fields t_wants t_hated t_dangerNames t_sizes t_grows t_decreeNames t_grounds t_laws) (some (.int out)) (wX1 E t_o t_q t_men t_consuls t_dangers t_decrees t_term t_termTold t_manNames t_kinds t_skills t_fields t_wants t_hated t_dangerNames t_sizes t_grows t_decreeNames t_grounds t_laws) := by
  refine Cn.of (by decide) (Nat.le_of_ble_eq_true rfl) rfl ?_
  intro p e s m below meth c A ls args H locs X hw hl
  have hx := X.1.1
  have hb := X.1.2.1
  have ho := X.1.2.2.2.1
  have hts := X.1.2.2.2.2
  have hl : lv_has ls 3 [(0, .ref t_o), (1, .int (x1)), (2, .int (x2))] := hl
  unfold f_X1_doesHate at hf
  refine lv_aload_n hx hb dX1_doesHate_0 rfl (lv_at hl 0 rfl) ?_
  refine lv_iload_n hx hb dX1_doesHate_1 rfl (lv_at hl 2 rfl) ?_
  refine k_V (As := [.int (x2)]) (rest := []) (index := 94) (C := RX1) X (c_X1_hasMan (out := (f_X1_hasMan t_men (x2))) rfl) tw_716 tw_717 tw_718 tw_126 tw_719 ⟨rfl, rfl⟩ hd_X1_hasMan ⟨Nat.le_of_ble_eq_true rfl, Nat.le_of_ble_eq_true rfl⟩ ⟨Nat.zero_le _, Nat.zero_le _⟩ hw [0, 1, 2, 3, 4, 5, 6, 7, 8, 9, 10, 11] rfl rfl 0 rfl rfl rfl rfl hl.1 rfl (Nat.le_of_ble_eq_true rfl) dX1_doesHate_2 (fun H locs hw => ?_)
  have hw : Wd E A s.heap (wX1 E t_o t_q t_men t_consuls t_dangers t_decrees t_term t_termTold t_manNames t_kinds t_skills t_fields t_wants t_hated t_dangerNames t_sizes t_grows t_decreeNames t_grounds t_laws) H locs := hw
  refine lv_if_eq (tgt := 28) hx hb dX1_doesHate_5 (by decide) (fun c_5 => ?_) (fun c_5 => ?_)
  · have hf := (if_pos c_5).symm.trans hf
    refine lv_iconst (v := (0 : Int32)) hx hb dX1_doesHate_28 (by decide) ?_
    subst hf
    exact k_zret X (Or.inl rfl) hw dX1_doesHate_29
  · have hf := (if_neg c_5).symm.trans hf
    refine lv_aload_n hx hb dX1_doesHate_8 rfl (lv_at hl 0 rfl) ?_
    refine k_get (q0 := 0) (ci := 0) (C := RX1) (T := TX1) (N := 18) (x := .ref (t_q 11)) X inx_1 hw rfl rfl 11 (by decide) rfl tw_406 rfl dX1_doesHate_9 ?_
    refine lv_iload_n hx hb dX1_doesHate_12 rfl (lv_at hl 1 rfl) ?_
    refine k_SN (As := [.ref (t_q 11), .int (x1)]) (rest := []) (host := "PloughCall") (index := 98) X (ct_X12_at (out := (ga (6) t_hated (x1))) rfl) nw_80 tw_119 tw_591 tw_592 ⟨rfl, rfl⟩ hd_X12_at.2 ⟨Nat.le_of_ble_eq_true rfl, Nat.le_of_ble_eq_true rfl⟩ ⟨Nat.zero_le _, Nat.zero_le _⟩ hw [6] rfl rfl rfl hl.1 rfl (Nat.le_of_ble_eq_true rfl) dX1_doesHate_13 (fun H locs hw => ?_)
    have hw : Wd E A s.heap (wX1 E t_o t_q t_men t_consuls t_dangers t_decrees t_term t_termTold t_manNames t_kinds t_skills t_fields t_wants t_hated t_dangerNames t_sizes t_grows t_decreeNames t_grounds t_laws) H locs := hw
    refine lv_iload_n hx hb dX1_doesHate_16 rfl (lv_at hl 2 rfl) ?_
    refine lv_ishr hx hb dX1_doesHate_17 ?_
    refine lv_iconst (v := (1 : Int32)) hx hb dX1_doesHate_18 (by decide) ?_
    refine lv_iand hx hb dX1_doesHate_19 ?_
    refine lv_iconst (v := (1 : Int32)) hx hb dX1_doesHate_20 (by decide) ?_
    refine lv_icmp_ne (tgt := 28) hx hb dX1_doesHate_21 (by decide) (fun c_21 => ?_) (fun c_21 => ?_)
    · have hf := (if_neg c_21).symm.trans hf
      refine lv_iconst (v := (0 : Int32)) hx hb dX1_doesHate_28 (by decide) ?_
      subst hf
      exact k_zret X (Or.inl rfl) hw dX1_doesHate_29
    · have hf := (if_pos c_21).symm.trans hf
      refine lv_iconst (v := (1 : Int32)) hx hb dX1_doesHate_24 (by decide) ?_
      refine lv_goto (tgt := 29) hx hb dX1_doesHate_25 (by decide) ?_
      subst hf
      exact k_zret X (Or.inr rfl) hw dX1_doesHate_29
theorem zb_X1_doesHate (t_men : Int32) (t_hated : (Nat → Int32)) (x1 : Int32) (x2 : Int32) : f_X1_doesHate t_men t_hated x1 x2 = 0 ∨ f_X1_doesHate t_men t_hated x1 x2 = 1 := by
  unfold f_X1_doesHate
  repeat' apply ite_z
  all_goals first | exact Or.inl rfl | exact Or.inr rfl | exact zb_X1_hasMan _ _
/-! boolean couldName(int, int); -/
def f_X1_couldName (t_men : Int32) (t_consuls : Int32) (t_hated : (Nat → Int32)) (x1 : Int32) (x2 : Int32) : Int32 := if (f_X1_isConsul t_men t_consuls (x1)) = (0 : Int32) then ((0 : Int32))
  else if (f_X1_hasMan t_men (x2)) = (0 : Int32) then ((0 : Int32))
  else if x1 = x2 then ((0 : Int32))
  else if (f_X1_doesHate t_men t_hated (x1) (x2)) = (0 : Int32) then ((1 : Int32))
  else ((0 : Int32))
abbrev rm_X1_couldName : Room := { frames := 2, cells := 0, slots := 0, locals := 43 }
theorem hd_X1_couldName : yX1_couldName.cls = RX1 ∧ yX1_couldName.cls ≠ "java/lang/invoke/MethodHandle" ∧ yX1_couldName.cls ≠ "java/lang/invoke/VarHandle" ∧ (parseMethodDescriptor yX1_couldName.desc).map (fun d => d.parameters.length) = some 2 := by decide +kernel
set_option maxRecDepth 100000 in
set_option maxHeartbeats 4000000 in
theorem c_X1_couldName {E : En} {l : Launch} {t_o : Nat} {t_q : Nat → Nat} {t_men : Int32} {t_consuls : Int32} {t_dangers : Int32} {t_decrees : Int32} {t_term : Int32} {t_termTold : Int32} {t_manNames : (Nat → Int64)} {t_kinds : (Nat → Int32)} {t_skills : (Nat → Int32)} {t_fields : (Nat → Int32)} {t_wants : (Nat → Int32)} {t_hated : (Nat → Int32)} {t_dangerNames : (Nat → Int64)} {t_sizes : (Nat → Int32)} {t_grows : (Nat → Int32)} {t_decreeNames : (Nat → Int64)} {t_grounds : (Nat → Int32)} {t_laws : Value} {x1 : Int32} {x2 : Int32} {out : Int32} (hf : f_X1_couldName t_men t_consuls t_hated x1 x2 = out) : Cn E l yX1_couldName cX1_couldName 3 (some .boolean) rm_X1_couldName [.ref t_o, .int (x1), .int (x2)] (wX1 E t_o t_q t_men t_consuls t_dangers t_decrees t_term t_termTold t_manNames t_kinds t_skills t_fields t_wants t_hated t_dangerNames t_sizes t_grows t_decreeNames t_grounds t_laws) (some (.int out)) (wX1 E t_o t_q t_men t_consuls t_dangers t_decrees t_term t_termTold t_manNames t_kinds t_skills t_fields t_wants t_hated t_dangerNames t_sizes t_grows t_decreeNames t_grounds t_laws) := by
  refine Cn.of (by decide) (Nat.le_of_ble_eq_true rfl) rfl ?_
  intro p e s m below meth c A ls args H locs X hw hl
  have hx := X.1.1
  have hb := X.1.2.1
  have ho := X.1.2.2.2.1
  have hts := X.1.2.2.2.2
  have hl : lv_has ls 3 [(0, .ref t_o), (1, .int (x1)), (2, .int (x2))] := hl
  unfold f_X1_couldName at hf
  refine lv_aload_n hx hb dX1_couldName_0 rfl (lv_at hl 0 rfl) ?_
  refine lv_iload_n hx hb dX1_couldName_1 rfl (lv_at hl 1 rfl) ?_
  refine k_V (As := [.int (x1)]) (rest := []) (index := 102) (C := RX1) X (c_X1_isConsul (out := (f_X1_isConsul t_men t_consuls (x1))) rfl) tw_895 tw_713 tw_714 tw_126 tw_715 ⟨rfl, rfl⟩ hd_X1_isConsul ⟨Nat.le_of_ble_eq_true rfl, Nat.le_of_ble_eq_true rfl⟩ ⟨Nat.zero_le _, Nat.zero_le _⟩ hw [0, 1, 2, 3, 4, 5, 6, 7, 8, 9, 10, 11] rfl rfl 0 rfl rfl rfl rfl hl.1 rfl (Nat.le_of_ble_eq_true rfl) dX1_couldName_2 (fun H locs hw => ?_)
  have hw : Wd E A s.heap (wX1 E t_o t_q t_men t_consuls t_dangers t_decrees t_term t_termTold t_manNames t_kinds t_skills t_fields t_wants t_hated t_dangerNames t_sizes t_grows t_decreeNames t_grounds t_laws) H locs := hw
  refine lv_if_eq (tgt := 34) hx hb dX1_couldName_5 (by decide) (fun c_5 => ?_) (fun c_5 => ?_)
  · have hf := (if_pos c_5).symm.trans hf
    refine lv_iconst (v := (0 : Int32)) hx hb dX1_couldName_34 (by decide) ?_
    subst hf
    exact k_zret X (Or.inl rfl) hw dX1_couldName_35
  · have hf := (if_neg c_5).symm.trans hf
    refine lv_aload_n hx hb dX1_couldName_8 rfl (lv_at hl 0 rfl) ?_
    refine lv_iload_n hx hb dX1_couldName_9 rfl (lv_at hl 2 rfl) ?_
    refine k_V (As := [.int (x2)]) (rest := []) (index := 94) (C := RX1) X (c_X1_hasMan (out := (f_X1_hasMan t_men (x2))) rfl) tw_716 tw_717 tw_718 tw_126 tw_719 ⟨rfl, rfl⟩ hd_X1_hasMan ⟨Nat.le_of_ble_eq_true rfl, Nat.le_of_ble_eq_true rfl⟩ ⟨Nat.zero_le _, Nat.zero_le _⟩ hw [0, 1, 2, 3, 4, 5, 6, 7, 8, 9, 10, 11] rfl rfl 0 rfl rfl rfl rfl hl.1 rfl (Nat.le_of_ble_eq_true rfl) dX1_couldName_10 (fun H locs hw => ?_)
    have hw : Wd E A s.heap (wX1 E t_o t_q t_men t_consuls t_dangers t_decrees t_term t_termTold t_manNames t_kinds t_skills t_fields t_wants t_hated t_dangerNames t_sizes t_grows t_decreeNames t_grounds t_laws) H locs := hw
    refine lv_if_eq (tgt := 34) hx hb dX1_couldName_13 (by decide) (fun c_13 => ?_) (fun c_13 => ?_)
    · have hf := (if_pos c_13).symm.trans hf
      refine lv_iconst (v := (0 : Int32)) hx hb dX1_couldName_34 (by decide) ?_
      subst hf
      exact k_zret X (Or.inl rfl) hw dX1_couldName_35
    · have hf := (if_neg c_13).symm.trans hf
      refine lv_iload_n hx hb dX1_couldName_16 rfl (lv_at hl 1 rfl) ?_
      refine lv_iload_n hx hb dX1_couldName_17 rfl (lv_at hl 2 rfl) ?_
      refine lv_icmp_eq (tgt := 34) hx hb dX1_couldName_18 (by decide) (fun c_18 => ?_) (fun c_18 => ?_)
      · have hf := (if_pos c_18).symm.trans hf
        refine lv_iconst (v := (0 : Int32)) hx hb dX1_couldName_34 (by decide) ?_
        subst hf
        exact k_zret X (Or.inl rfl) hw dX1_couldName_35
      · have hf := (if_neg c_18).symm.trans hf
        refine lv_aload_n hx hb dX1_couldName_21 rfl (lv_at hl 0 rfl) ?_
        refine lv_iload_n hx hb dX1_couldName_22 rfl (lv_at hl 1 rfl) ?_
        refine lv_iload_n hx hb dX1_couldName_23 rfl (lv_at hl 2 rfl) ?_
        refine k_V (As := [.int (x1), .int (x2)]) (rest := []) (index := 105) (C := RX1) X (c_X1_doesHate (out := (f_X1_doesHate t_men t_hated (x1) (x2))) rfl) tw_896 tw_725 tw_726 tw_126 tw_727 ⟨rfl, rfl⟩ hd_X1_doesHate ⟨Nat.le_of_ble_eq_true rfl, Nat.le_of_ble_eq_true rfl⟩ ⟨Nat.zero_le _, Nat.zero_le _⟩ hw [0, 1, 2, 3, 4, 5, 6, 7, 8, 9, 10, 11] rfl rfl 0 rfl rfl rfl rfl hl.1 rfl (Nat.le_of_ble_eq_true rfl) dX1_couldName_24 (fun H locs hw => ?_)
        have hw : Wd E A s.heap (wX1 E t_o t_q t_men t_consuls t_dangers t_decrees t_term t_termTold t_manNames t_kinds t_skills t_fields t_wants t_hated t_dangerNames t_sizes t_grows t_decreeNames t_grounds t_laws) H locs := hw
        refine lv_if_ne (tgt := 34) hx hb dX1_couldName_27 (by decide) (fun c_27 => ?_) (fun c_27 => ?_)
        · have hf := (if_neg c_27).symm.trans hf
          refine lv_iconst (v := (0 : Int32)) hx hb dX1_couldName_34 (by decide) ?_
          subst hf
          exact k_zret X (Or.inl rfl) hw dX1_couldName_35
        · have hf := (if_pos c_27).symm.trans hf
          refine lv_iconst (v := (1 : Int32)) hx hb dX1_couldName_30 (by decide) ?_
          refine lv_goto (tgt := 35) hx hb dX1_couldName_31 (by decide) ?_
          subst hf
          exact k_zret X (Or.inr rfl) hw dX1_couldName_35
theorem zb_X1_couldName (t_men : Int32) (t_consuls : Int32) (t_hated : (Nat → Int32)) (x1 : Int32) (x2 : Int32) : f_X1_couldName t_men t_consuls t_hated x1 x2 = 0 ∨ f_X1_couldName t_men t_consuls t_hated x1 x2 = 1 := by
  unfold f_X1_couldName
  repeat' apply ite_z
  all_goals first | exact Or.inl rfl | exact Or.inr rfl | exact zb_X1_doesHate _ _ _ _ | exact zb_X1_hasMan _ _ | exact zb_X1_isConsul _ _ _
/-! boolean someConsulCouldName(int); -/
def f_X1_someConsulCouldName_2 : Nat → Int32 → Int32 → (Nat → Int32) → Int32 → Int32 → Option (Int32)
  | 0, _, _, _, _, _ => none
  | n + 1, t_men, t_consuls, t_hated, x1, x2 => if t_men ≤ x2 then some ((0 : Int32))
    else if (f_X1_couldName t_men t_consuls t_hated (x2) (x1)) = (0 : Int32) then f_X1_someConsulCouldName_2 n t_men t_consuls t_hated x1 ((x2 + (1 : Int32)))
    else some ((1 : Int32))
def f_X1_someConsulCouldName (t_men : Int32) (t_consuls : Int32) (t_hated : (Nat → Int32)) (x1 : Int32) : Option (Int32) := f_X1_someConsulCouldName_2 1100 t_men t_consuls t_hated x1 ((0 : Int32))
abbrev rm_X1_someConsulCouldName : Room := { frames := 3, cells := 0, slots := 0, locals := 65 }
theorem hd_X1_someConsulCouldName : yX1_someConsulCouldName.cls = RX1 ∧ yX1_someConsulCouldName.cls ≠ "java/lang/invoke/MethodHandle" ∧ yX1_someConsulCouldName.cls ≠ "java/lang/invoke/VarHandle" ∧ (parseMethodDescriptor yX1_someConsulCouldName.desc).map (fun d => d.parameters.length) = some 1 := by decide +kernel
set_option maxRecDepth 100000 in
set_option maxHeartbeats 4000000 in
theorem kb_X1_someConsulCouldName_2 {E : En} {p : Program} {l : Launch} {e : Env} {s : State} {m : MethodId} {args : Array Value} {below : List Frame} {meth : Method} {c : Code} {A : Nat → Prop} {t_o : Nat} {t_q : Nat → Nat} {t_men : Int32} {t_consuls : Int32} {t_dangers : Int32} {t_decrees : Int32} {t_term : Int32} {t_termTold : Int32} {t_manNames : (Nat → Int64)} {t_kinds : (Nat → Int32)} {t_skills : (Nat → Int32)} {t_fields : (Nat → Int32)} {t_wants : (Nat → Int32)} {t_hated : (Nat → Int32)} {t_dangerNames : (Nat → Int64)} {t_sizes : (Nat → Int32)} {t_grows : (Nat → Int32)} {t_decreeNames : (Nat → Int64)} {t_grounds : (Nat → Int32)} {t_laws : Value} {out : Int32} (X : Bx E A p s m args meth c cX1_someConsulCouldName 3 RX1 (some .boolean)) : ∀ (n : Nat) {x1 : Int32} {x2 : Int32} {H : Heap} {locs : List Loc} {ls : Array Slot}, f_X1_someConsulCouldName_2 n t_men t_consuls t_hated x1 x2 = some out → Wd E A s.heap (wX1 E t_o t_q t_men t_consuls t_dangers t_decrees t_term t_termTold t_manNames t_kinds t_skills t_fields t_wants t_hated t_dangerNames t_sizes t_grows t_decreeNames t_grounds t_laws) H locs → lv_has ls 3 [(0, .ref t_o), (1, .int (x1)), (2, .int (x2))] → W p l e rm_X1_someConsulCouldName s m args below meth c H locs 0 0 (Zn E below args s A (some (.int out)) (wX1 E t_o t_q t_men t_consuls t_dangers t_decrees t_term t_termTold t_manNames t_kinds t_skills t_fields t_wants t_hated t_dangerNames t_sizes t_grows t_decreeNames t_grounds t_laws)) (F0 m 2 ls []) := by
  have hx := X.1.1
  have hb := X.1.2.1
  have ho := X.1.2.2.2.1
  have hts := X.1.2.2.2.2
  intro n
  induction n with
  | zero =>
    intro x1 x2 H locs ls hf
    have hf : (none : Option (Int32)) = some out := hf
    cases hf
  | succ n ih =>
    intro x1 x2 H locs ls hf hw hl
    rw [f_X1_someConsulCouldName_2.eq_2] at hf
    refine lv_iload_n hx hb dX1_someConsulCouldName_2 rfl (lv_at hl 2 rfl) ?_
    refine lv_aload_n hx hb dX1_someConsulCouldName_3 rfl (lv_at hl 0 rfl) ?_
    refine k_get (q0 := 0) (ci := 0) (C := RX1) (T := TX1) (N := 18) (x := .int (t_men)) X inx_1 hw rfl rfl 0 (by decide) rfl tw_372 rfl dX1_someConsulCouldName_4 ?_
    refine lv_icmp_ge (tgt := 27) hx hb dX1_someConsulCouldName_7 (by decide) (fun c_7 => ?_) (fun c_7 => ?_)
    · have hf := (if_pos c_7).symm.trans hf
      refine lv_iconst (v := (0 : Int32)) hx hb dX1_someConsulCouldName_27 (by decide) ?_
      obtain rfl := Option.some.inj hf
      exact k_zret X (Or.inl rfl) hw dX1_someConsulCouldName_28
    · have hf := (if_neg c_7).symm.trans hf
      refine lv_aload_n hx hb dX1_someConsulCouldName_10 rfl (lv_at hl 0 rfl) ?_
      refine lv_iload_n hx hb dX1_someConsulCouldName_11 rfl (lv_at hl 2 rfl) ?_
      refine lv_iload_n hx hb dX1_someConsulCouldName_12 rfl (lv_at hl 1 rfl) ?_
      refine k_V (As := [.int (x2), .int (x1)]) (rest := []) (index := 109) (C := RX1) X (c_X1_couldName (out := (f_X1_couldName t_men t_consuls t_hated (x2) (x1))) rfl) tw_1082 tw_892 tw_893 tw_126 tw_894 ⟨rfl, rfl⟩ hd_X1_couldName ⟨Nat.le_of_ble_eq_true rfl, Nat.le_of_ble_eq_true rfl⟩ ⟨Nat.zero_le _, Nat.zero_le _⟩ hw [0, 1, 2, 3, 4, 5, 6, 7, 8, 9, 10, 11] rfl rfl 0 rfl rfl rfl rfl hl.1 rfl (Nat.le_of_ble_eq_true rfl) dX1_someConsulCouldName_13 (fun H locs hw => ?_)
      have hw : Wd E A s.heap (wX1 E t_o t_q t_men t_consuls t_dangers t_decrees t_term t_termTold t_manNames t_kinds t_skills t_fields t_wants t_hated t_dangerNames t_sizes t_grows t_decreeNames t_grounds t_laws) H locs := hw
      refine lv_if_eq (tgt := 21) hx hb dX1_someConsulCouldName_16 (by decide) (fun c_16 => ?_) (fun c_16 => ?_)
      · have hf := (if_pos c_16).symm.trans hf
        refine lv_iinc (v := (x2 + (1 : Int32))) (lv' := [(2, .int ((x2 + (1 : Int32)))), (0, .ref t_o), (1, .int (x1))]) hx hb dX1_someConsulCouldName_21 hl (k := 2) rfl rfl (by decide) rfl (fun ls hl => ?_)
        refine lv_goto (tgt := 2) hx hb dX1_someConsulCouldName_24 (by decide) ?_
        exact ih hf hw (lv_sub hl [1, 2, 0] rfl)
      · have hf := (if_neg c_16).symm.trans hf
        refine lv_iconst (v := (1 : Int32)) hx hb dX1_someConsulCouldName_19 (by decide) ?_
        obtain rfl := Option.some.inj hf
        exact k_zret X (Or.inr rfl) hw dX1_someConsulCouldName_20
set_option maxRecDepth 100000 in
set_option maxHeartbeats 4000000 in
theorem c_X1_someConsulCouldName {E : En} {l : Launch} {t_o : Nat} {t_q : Nat → Nat} {t_men : Int32} {t_consuls : Int32} {t_dangers : Int32} {t_decrees : Int32} {t_term : Int32} {t_termTold : Int32} {t_manNames : (Nat → Int64)} {t_kinds : (Nat → Int32)} {t_skills : (Nat → Int32)} {t_fields : (Nat → Int32)} {t_wants : (Nat → Int32)} {t_hated : (Nat → Int32)} {t_dangerNames : (Nat → Int64)} {t_sizes : (Nat → Int32)} {t_grows : (Nat → Int32)} {t_decreeNames : (Nat → Int64)} {t_grounds : (Nat → Int32)} {t_laws : Value} {x1 : Int32} {out : Int32} (hf : f_X1_someConsulCouldName t_men t_consuls t_hated x1 = some out) : Cn E l yX1_someConsulCouldName cX1_someConsulCouldName 3 (some .boolean) rm_X1_someConsulCouldName [.ref t_o, .int (x1)] (wX1 E t_o t_q t_men t_consuls t_dangers t_decrees t_term t_termTold t_manNames t_kinds t_skills t_fields t_wants t_hated t_dangerNames t_sizes t_grows t_decreeNames t_grounds t_laws) (some (.int out)) (wX1 E t_o t_q t_men t_consuls t_dangers t_decrees t_term t_termTold t_manNames t_kinds t_skills t_fields t_wants t_hated t_dangerNames t_sizes t_grows t_decreeNames t_grounds t_laws) := by
  refine Cn.of (by decide) (Nat.le_of_ble_eq_true rfl) rfl ?_
  intro p e s m below meth c A ls args H locs X hw hl
  have hx := X.1.1
  have hb := X.1.2.1
  have ho := X.1.2.2.2.1
  have hts := X.1.2.2.2.2
  have hl : lv_has ls 3 [(0, .ref t_o), (1, .int (x1))] := hl
  unfold f_X1_someConsulCouldName at hf
  refine lv_iconst (v := (0 : Int32)) hx hb dX1_someConsulCouldName_0 (by decide) ?_
  refine lv_istore_n (lv' := [(2, .int ((0 : Int32))), (0, .ref t_o), (1, .int (x1))]) hx hb dX1_someConsulCouldName_1 rfl hl (by decide) rfl (fun ls hl => ?_)
  exact kb_X1_someConsulCouldName_2 X 1100 hf hw (lv_sub hl [1, 2, 0] rfl)
/-! int likedForEnding(int); -/
def f_X1_likedForEnding (t_kinds : (Nat → Int32)) (x1 : Int32) : Int32 := if (ga (6) t_kinds (x1)) = (2 : Int32) then ((5 : Int32))
  else ((3 : Int32))
abbrev rm_X1_likedForEnding : Room := { frames := 1, cells := 0, slots := 0, locals := 21 }
theorem hd_X1_likedForEnding : yX1_likedForEnding.cls = RX1 ∧ yX1_likedForEnding.cls ≠ "java/lang/invoke/MethodHandle" ∧ yX1_likedForEnding.cls ≠ "java/lang/invoke/VarHandle" ∧ (parseMethodDescriptor yX1_likedForEnding.desc).map (fun d => d.parameters.length) = some 1 := by decide +kernel
set_option maxRecDepth 100000 in
set_option maxHeartbeats 4000000 in
theorem c_X1_likedForEnding {E : En} {l : Launch} {t_o : Nat} {t_q : Nat → Nat} {t_men : Int32} {t_consuls : Int32} {t_dangers : Int32} {t_decrees : Int32} {t_term : Int32} {t_termTold : Int32} {t_manNames : (Nat → Int64)} {t_kinds : (Nat → Int32)} {t_skills : (Nat → Int32)} {t_fields : (Nat → Int32)} {t_wants : (Nat → Int32)} {t_hated : (Nat → Int32)} {t_dangerNames : (Nat → Int64)} {t_sizes : (Nat → Int32)} {t_grows : (Nat → Int32)} {t_decreeNames : (Nat → Int64)} {t_grounds : (Nat → Int32)} {t_laws : Value} {x1 : Int32} {out : Int32} (hf : f_X1_likedForEnding t_kinds x1 = out) : Cn E l yX1_likedForEnding cX1_likedForEnding 2 (some .int) rm_X1_likedForEnding [.ref t_o, .int (x1)] (wX1 E t_o t_q t_men t_consuls t_dangers t_decrees t_term t_termTold t_manNames t_kinds t_skills t_fields t_wants t_hated t_dangerNames t_sizes t_grows t_decreeNames t_grounds t_laws) (some (.int out)) (wX1 E t_o t_q t_men t_consuls t_dangers t_decrees t_term t_termTold t_manNames t_kinds t_skills t_fields t_wants t_hated t_dangerNames t_sizes t_grows t_decreeNames t_grounds t_laws) := by
  refine Cn.of (by decide) (Nat.le_of_ble_eq_true rfl) rfl ?_
  intro p e s m below meth c A ls args H locs X hw hl
  have hx := X.1.1
  have hb := X.1.2.1
  have ho := X.1.2.2.2.1
  have hts := X.1.2.2.2.2
  have hl : lv_has ls 2 [(0, .ref t_o), (1, .int (x1))] := hl
  unfold f_X1_likedForEnding at hf
  refine lv_aload_n hx hb dX1_likedForEnding_0 rfl (lv_at hl 0 rfl) ?_
  refine k_get (q0 := 0) (ci := 0) (C := RX1) (T := TX1) (N := 18) (x := .ref (t_q 7)) X inx_1 hw rfl rfl 7 (by decide) rfl tw_396 rfl dX1_likedForEnding_1 ?_
  refine lv_iload_n hx hb dX1_likedForEnding_4 rfl (lv_at hl 1 rfl) ?_
  refine k_SN (As := [.ref (t_q 7), .int (x1)]) (rest := []) (host := "PloughCall") (index := 98) X (ct_X12_at (out := (ga (6) t_kinds (x1))) rfl) nw_80 tw_119 tw_591 tw_592 ⟨rfl, rfl⟩ hd_X12_at.2 ⟨Nat.le_of_ble_eq_true rfl, Nat.le_of_ble_eq_true rfl⟩ ⟨Nat.zero_le _, Nat.zero_le _⟩ hw [2] rfl rfl rfl hl.1 rfl (Nat.le_of_ble_eq_true rfl) dX1_likedForEnding_5 (fun H locs hw => ?_)
  have hw : Wd E A s.heap (wX1 E t_o t_q t_men t_consuls t_dangers t_decrees t_term t_termTold t_manNames t_kinds t_skills t_fields t_wants t_hated t_dangerNames t_sizes t_grows t_decreeNames t_grounds t_laws) H locs := hw
  refine lv_iconst (v := (2 : Int32)) hx hb dX1_likedForEnding_8 (by decide) ?_
  refine lv_icmp_ne (tgt := 16) hx hb dX1_likedForEnding_9 (by decide) (fun c_9 => ?_) (fun c_9 => ?_)
  · have hf := (if_neg c_9).symm.trans hf
    refine lv_iconst (v := (3 : Int32)) hx hb dX1_likedForEnding_16 (by decide) ?_
    subst hf
    exact k_iret X hw dX1_likedForEnding_17
  · have hf := (if_pos c_9).symm.trans hf
    refine lv_iconst (v := (5 : Int32)) hx hb dX1_likedForEnding_12 (by decide) ?_
    refine lv_goto (tgt := 17) hx hb dX1_likedForEnding_13 (by decide) ?_
    subst hf
    exact k_iret X hw dX1_likedForEnding_17
/-! int fallen(int); -/
def f_X1_fallen_4 : Nat → Int32 → (Nat → Int32) → Int32 → Int32 → Option (Int32)
  | 0, _, _, _, _ => none
  | n + 1, t_decrees, t_grounds, x2, x3 => if t_decrees ≤ x3 then some (x2)
    else if ((ga (6) t_grounds (x3)) &&& x2) = (0 : Int32) then f_X1_fallen_4 n t_decrees t_grounds x2 ((x3 + (1 : Int32)))
    else f_X1_fallen_4 n t_decrees t_grounds ((x2 ||| ((1 : Int32) <<< (x3 &&& (31 : Int32))))) ((x3 + (1 : Int32)))
def f_X1_fallen (t_decrees : Int32) (t_grounds : (Nat → Int32)) (x1 : Int32) : Option (Int32) := f_X1_fallen_4 1100 t_decrees t_grounds x1 ((0 : Int32))
abbrev rm_X1_fallen : Room := { frames := 1, cells := 0, slots := 0, locals := 21 }
theorem hd_X1_fallen : yX1_fallen.cls = RX1 ∧ yX1_fallen.cls ≠ "java/lang/invoke/MethodHandle" ∧ yX1_fallen.cls ≠ "java/lang/invoke/VarHandle" ∧ (parseMethodDescriptor yX1_fallen.desc).map (fun d => d.parameters.length) = some 1 := by decide +kernel
set_option maxRecDepth 100000 in
set_option maxHeartbeats 4000000 in
theorem kb_X1_fallen_4 {E : En} {p : Program} {l : Launch} {e : Env} {s : State} {m : MethodId} {args : Array Value} {below : List Frame} {meth : Method} {c : Code} {A : Nat → Prop} {t_o : Nat} {t_q : Nat → Nat} {t_men : Int32} {t_consuls : Int32} {t_dangers : Int32} {t_decrees : Int32} {t_term : Int32} {t_termTold : Int32} {t_manNames : (Nat → Int64)} {t_kinds : (Nat → Int32)} {t_skills : (Nat → Int32)} {t_fields : (Nat → Int32)} {t_wants : (Nat → Int32)} {t_hated : (Nat → Int32)} {t_dangerNames : (Nat → Int64)} {t_sizes : (Nat → Int32)} {t_grows : (Nat → Int32)} {t_decreeNames : (Nat → Int64)} {t_grounds : (Nat → Int32)} {t_laws : Value} {out : Int32} (X : Bx E A p s m args meth c cX1_fallen 4 RX1 (some .int)) : ∀ (n : Nat) {x2 : Int32} {x3 : Int32} {H : Heap} {locs : List Loc} {ls : Array Slot}, f_X1_fallen_4 n t_decrees t_grounds x2 x3 = some out → Wd E A s.heap (wX1 E t_o t_q t_men t_consuls t_dangers t_decrees t_term t_termTold t_manNames t_kinds t_skills t_fields t_wants t_hated t_dangerNames t_sizes t_grows t_decreeNames t_grounds t_laws) H locs → lv_has ls 4 [(0, .ref t_o), (2, .int (x2)), (3, .int (x3))] → W p l e rm_X1_fallen s m args below meth c H locs 0 0 (Zn E below args s A (some (.int out)) (wX1 E t_o t_q t_men t_consuls t_dangers t_decrees t_term t_termTold t_manNames t_kinds t_skills t_fields t_wants t_hated t_dangerNames t_sizes t_grows t_decreeNames t_grounds t_laws)) (F0 m 4 ls []) := by
  have hx := X.1.1
  have hb := X.1.2.1
  have ho := X.1.2.2.2.1
  have hts := X.1.2.2.2.2
  intro n
  induction n with
  | zero =>
    intro x2 x3 H locs ls hf
    have hf : (none : Option (Int32)) = some out := hf
    cases hf
  | succ n ih =>
    intro x2 x3 H locs ls hf hw hl
    rw [f_X1_fallen_4.eq_2] at hf
    refine lv_iload_n hx hb dX1_fallen_4 rfl (lv_at hl 2 rfl) ?_
    refine lv_aload_n hx hb dX1_fallen_5 rfl (lv_at hl 0 rfl) ?_
    refine k_get (q0 := 0) (ci := 0) (C := RX1) (T := TX1) (N := 18) (x := .int (t_decrees)) X inx_1 hw rfl rfl 3 (by decide) rfl tw_386 rfl dX1_fallen_6 ?_
    refine lv_icmp_ge (tgt := 37) hx hb dX1_fallen_9 (by decide) (fun c_9 => ?_) (fun c_9 => ?_)
    · have hf := (if_pos c_9).symm.trans hf
      refine lv_iload_n hx hb dX1_fallen_37 rfl (lv_at hl 1 rfl) ?_
      obtain rfl := Option.some.inj hf
      exact k_iret X hw dX1_fallen_38
    · have hf := (if_neg c_9).symm.trans hf
      refine lv_aload_n hx hb dX1_fallen_12 rfl (lv_at hl 0 rfl) ?_
      refine k_get (q0 := 0) (ci := 0) (C := RX1) (T := TX1) (N := 18) (x := .ref (t_q 16)) X inx_1 hw rfl rfl 16 (by decide) rfl tw_419 rfl dX1_fallen_13 ?_
      refine lv_iload_n hx hb dX1_fallen_16 rfl (lv_at hl 2 rfl) ?_
      refine k_SN (As := [.ref (t_q 16), .int (x3)]) (rest := []) (host := "PloughCall") (index := 98) X (ct_X12_at (out := (ga (6) t_grounds (x3))) rfl) nw_80 tw_119 tw_591 tw_592 ⟨rfl, rfl⟩ hd_X12_at.2 ⟨Nat.le_of_ble_eq_true rfl, Nat.le_of_ble_eq_true rfl⟩ ⟨Nat.zero_le _, Nat.zero_le _⟩ hw [11] rfl rfl rfl hl.1 rfl (Nat.le_of_ble_eq_true rfl) dX1_fallen_17 (fun H locs hw => ?_)
      have hw : Wd E A s.heap (wX1 E t_o t_q t_men t_consuls t_dangers t_decrees t_term t_termTold t_manNames t_kinds t_skills t_fields t_wants t_hated t_dangerNames t_sizes t_grows t_decreeNames t_grounds t_laws) H locs := hw
      refine lv_iload_n hx hb dX1_fallen_20 rfl (lv_at hl 1 rfl) ?_
      refine lv_iand hx hb dX1_fallen_21 ?_
      refine lv_if_eq (tgt := 31) hx hb dX1_fallen_22 (by decide) (fun c_22 => ?_) (fun c_22 => ?_)
      · have hf := (if_pos c_22).symm.trans hf
        refine lv_iinc (v := (x3 + (1 : Int32))) (lv' := [(3, .int ((x3 + (1 : Int32)))), (0, .ref t_o), (2, .int (x2))]) hx hb dX1_fallen_31 hl (k := 2) rfl rfl (by decide) rfl (fun ls hl => ?_)
        refine lv_goto (tgt := 4) hx hb dX1_fallen_34 (by decide) ?_
        exact ih hf hw (lv_sub hl [1, 2, 0] rfl)
      · have hf := (if_neg c_22).symm.trans hf
        refine lv_iload_n hx hb dX1_fallen_25 rfl (lv_at hl 1 rfl) ?_
        refine lv_iconst (v := (1 : Int32)) hx hb dX1_fallen_26 (by decide) ?_
        refine lv_iload_n hx hb dX1_fallen_27 rfl (lv_at hl 2 rfl) ?_
        refine lv_ishl hx hb dX1_fallen_28 ?_
        refine lv_ior hx hb dX1_fallen_29 ?_
        refine lv_istore_n (lv' := [(2, .int ((x2 ||| ((1 : Int32) <<< (x3 &&& (31 : Int32)))))), (0, .ref t_o), (3, .int (x3))]) hx hb dX1_fallen_30 rfl hl (by decide) rfl (fun ls hl => ?_)
        refine lv_iinc (v := (x3 + (1 : Int32))) (lv' := [(3, .int ((x3 + (1 : Int32)))), (2, .int ((x2 ||| ((1 : Int32) <<< (x3 &&& (31 : Int32)))))), (0, .ref t_o)]) hx hb dX1_fallen_31 hl (k := 2) rfl rfl (by decide) rfl (fun ls hl => ?_)
        refine lv_goto (tgt := 4) hx hb dX1_fallen_34 (by decide) ?_
        exact ih hf hw (lv_sub hl [2, 1, 0] rfl)
set_option maxRecDepth 100000 in
set_option maxHeartbeats 4000000 in
theorem c_X1_fallen {E : En} {l : Launch} {t_o : Nat} {t_q : Nat → Nat} {t_men : Int32} {t_consuls : Int32} {t_dangers : Int32} {t_decrees : Int32} {t_term : Int32} {t_termTold : Int32} {t_manNames : (Nat → Int64)} {t_kinds : (Nat → Int32)} {t_skills : (Nat → Int32)} {t_fields : (Nat → Int32)} {t_wants : (Nat → Int32)} {t_hated : (Nat → Int32)} {t_dangerNames : (Nat → Int64)} {t_sizes : (Nat → Int32)} {t_grows : (Nat → Int32)} {t_decreeNames : (Nat → Int64)} {t_grounds : (Nat → Int32)} {t_laws : Value} {x1 : Int32} {out : Int32} (hf : f_X1_fallen t_decrees t_grounds x1 = some out) : Cn E l yX1_fallen cX1_fallen 4 (some .int) rm_X1_fallen [.ref t_o, .int (x1)] (wX1 E t_o t_q t_men t_consuls t_dangers t_decrees t_term t_termTold t_manNames t_kinds t_skills t_fields t_wants t_hated t_dangerNames t_sizes t_grows t_decreeNames t_grounds t_laws) (some (.int out)) (wX1 E t_o t_q t_men t_consuls t_dangers t_decrees t_term t_termTold t_manNames t_kinds t_skills t_fields t_wants t_hated t_dangerNames t_sizes t_grows t_decreeNames t_grounds t_laws) := by
  refine Cn.of (by decide) (Nat.le_of_ble_eq_true rfl) rfl ?_
  intro p e s m below meth c A ls args H locs X hw hl
  have hx := X.1.1
  have hb := X.1.2.1
  have ho := X.1.2.2.2.1
  have hts := X.1.2.2.2.2
  have hl : lv_has ls 4 [(0, .ref t_o), (1, .int (x1))] := hl
  unfold f_X1_fallen at hf
  refine lv_iload_n hx hb dX1_fallen_0 rfl (lv_at hl 1 rfl) ?_
  refine lv_istore_n (lv' := [(2, .int (x1)), (0, .ref t_o), (1, .int (x1))]) hx hb dX1_fallen_1 rfl hl (by decide) rfl (fun ls hl => ?_)
  refine lv_iconst (v := (0 : Int32)) hx hb dX1_fallen_2 (by decide) ?_
  refine lv_istore_n (lv' := [(3, .int ((0 : Int32))), (2, .int (x1)), (0, .ref t_o), (1, .int (x1))]) hx hb dX1_fallen_3 rfl hl (by decide) rfl (fun ls hl => ?_)
  exact kb_X1_fallen_4 X 1100 hf hw (lv_sub hl [2, 1, 0] rfl)
/-! int neededBy(int); -/
def f_X1_neededBy_6 : Nat → (Nat → Int32) → Int32 → Int32 → Option (Int32)
  | 0, _, _, _ => none
  | n + 1, t_grounds, x2, x3 => if x3 < (0 : Int32) then some (x2)
    else if ((x2 >>> (x3 &&& (31 : Int32))) &&& (1 : Int32)) = (1 : Int32) then f_X1_neededBy_6 n t_grounds ((x2 ||| (ga (6) t_grounds (x3)))) ((x3 + (-1 : Int32)))
    else f_X1_neededBy_6 n t_grounds x2 ((x3 + (-1 : Int32)))
def f_X1_neededBy (t_grounds : (Nat → Int32)) (x1 : Int32) : Option (Int32) := f_X1_neededBy_6 1100 t_grounds (((1 : Int32) <<< (x1 &&& (31 : Int32)))) x1
abbrev rm_X1_neededBy : Room := { frames := 1, cells := 0, slots := 0, locals := 21 }
theorem hd_X1_neededBy : yX1_neededBy.cls = RX1 ∧ yX1_neededBy.cls ≠ "java/lang/invoke/MethodHandle" ∧ yX1_neededBy.cls ≠ "java/lang/invoke/VarHandle" ∧ (parseMethodDescriptor yX1_neededBy.desc).map (fun d => d.parameters.length) = some 1 := by decide +kernel
set_option maxRecDepth 100000 in
set_option maxHeartbeats 4000000 in
theorem kb_X1_neededBy_6 {E : En} {p : Program} {l : Launch} {e : Env} {s : State} {m : MethodId} {args : Array Value} {below : List Frame} {meth : Method} {c : Code} {A : Nat → Prop} {t_o : Nat} {t_q : Nat → Nat} {t_men : Int32} {t_consuls : Int32} {t_dangers : Int32} {t_decrees : Int32} {t_term : Int32} {t_termTold : Int32} {t_manNames : (Nat → Int64)} {t_kinds : (Nat → Int32)} {t_skills : (Nat → Int32)} {t_fields : (Nat → Int32)} {t_wants : (Nat → Int32)} {t_hated : (Nat → Int32)} {t_dangerNames : (Nat → Int64)} {t_sizes : (Nat → Int32)} {t_grows : (Nat → Int32)} {t_decreeNames : (Nat → Int64)} {t_grounds : (Nat → Int32)} {t_laws : Value} {out : Int32} (X : Bx E A p s m args meth c cX1_neededBy 4 RX1 (some .int)) : ∀ (n : Nat) {x2 : Int32} {x3 : Int32} {H : Heap} {locs : List Loc} {ls : Array Slot}, f_X1_neededBy_6 n t_grounds x2 x3 = some out → Wd E A s.heap (wX1 E t_o t_q t_men t_consuls t_dangers t_decrees t_term t_termTold t_manNames t_kinds t_skills t_fields t_wants t_hated t_dangerNames t_sizes t_grows t_decreeNames t_grounds t_laws) H locs → lv_has ls 4 [(0, .ref t_o), (2, .int (x2)), (3, .int (x3))] → W p l e rm_X1_neededBy s m args below meth c H locs 0 0 (Zn E below args s A (some (.int out)) (wX1 E t_o t_q t_men t_consuls t_dangers t_decrees t_term t_termTold t_manNames t_kinds t_skills t_fields t_wants t_hated t_dangerNames t_sizes t_grows t_decreeNames t_grounds t_laws)) (F0 m 6 ls []) := by
  have hx := X.1.1
  have hb := X.1.2.1
  have ho := X.1.2.2.2.1
  have hts := X.1.2.2.2.2
  intro n
  induction n with
  | zero =>
    intro x2 x3 H locs ls hf
    have hf : (none : Option (Int32)) = some out := hf
    cases hf
  | succ n ih =>
    intro x2 x3 H locs ls hf hw hl
    rw [f_X1_neededBy_6.eq_2] at hf
    refine lv_iload_n hx hb dX1_neededBy_6 rfl (lv_at hl 2 rfl) ?_
    refine lv_if_lt (tgt := 36) hx hb dX1_neededBy_7 (by decide) (fun c_7 => ?_) (fun c_7 => ?_)
    · have hf := (if_pos c_7).symm.trans hf
      refine lv_iload_n hx hb dX1_neededBy_36 rfl (lv_at hl 1 rfl) ?_
      obtain rfl := Option.some.inj hf
      exact k_iret X hw dX1_neededBy_37
    · have hf := (if_neg c_7).symm.trans hf
      refine lv_iload_n hx hb dX1_neededBy_10 rfl (lv_at hl 1 rfl) ?_
      refine lv_iload_n hx hb dX1_neededBy_11 rfl (lv_at hl 2 rfl) ?_
      refine lv_ishr hx hb dX1_neededBy_12 ?_
      refine lv_iconst (v := (1 : Int32)) hx hb dX1_neededBy_13 (by decide) ?_
      refine lv_iand hx hb dX1_neededBy_14 ?_
      refine lv_iconst (v := (1 : Int32)) hx hb dX1_neededBy_15 (by decide) ?_
      refine lv_icmp_ne (tgt := 30) hx hb dX1_neededBy_16 (by decide) (fun c_16 => ?_) (fun c_16 => ?_)
      · have hf := (if_neg c_16).symm.trans hf
        refine lv_iinc (v := (x3 + (-1 : Int32))) (lv' := [(3, .int ((x3 + (-1 : Int32)))), (0, .ref t_o), (2, .int (x2))]) hx hb dX1_neededBy_30 hl (k := 2) rfl rfl (by decide) rfl (fun ls hl => ?_)
        refine lv_goto (tgt := 6) hx hb dX1_neededBy_33 (by decide) ?_
        exact ih hf hw (lv_sub hl [1, 2, 0] rfl)
      · have hf := (if_pos c_16).symm.trans hf
        refine lv_iload_n hx hb dX1_neededBy_19 rfl (lv_at hl 1 rfl) ?_
        refine lv_aload_n hx hb dX1_neededBy_20 rfl (lv_at hl 0 rfl) ?_
        refine k_get (q0 := 0) (ci := 0) (C := RX1) (T := TX1) (N := 18) (x := .ref (t_q 16)) X inx_1 hw rfl rfl 16 (by decide) rfl tw_419 rfl dX1_neededBy_21 ?_
        refine lv_iload_n hx hb dX1_neededBy_24 rfl (lv_at hl 2 rfl) ?_
        refine k_SN (As := [.ref (t_q 16), .int (x3)]) (rest := [.int (x2)]) (host := "PloughCall") (index := 98) X (ct_X12_at (out := (ga (6) t_grounds (x3))) rfl) nw_80 tw_119 tw_591 tw_592 ⟨rfl, rfl⟩ hd_X12_at.2 ⟨Nat.le_of_ble_eq_true rfl, Nat.le_of_ble_eq_true rfl⟩ ⟨Nat.zero_le _, Nat.zero_le _⟩ hw [11] rfl rfl rfl hl.1 rfl (Nat.le_of_ble_eq_true rfl) dX1_neededBy_25 (fun H locs hw => ?_)
        have hw : Wd E A s.heap (wX1 E t_o t_q t_men t_consuls t_dangers t_decrees t_term t_termTold t_manNames t_kinds t_skills t_fields t_wants t_hated t_dangerNames t_sizes t_grows t_decreeNames t_grounds t_laws) H locs := hw
        refine lv_ior hx hb dX1_neededBy_28 ?_
        refine lv_istore_n (lv' := [(2, .int ((x2 ||| (ga (6) t_grounds (x3))))), (0, .ref t_o), (3, .int (x3))]) hx hb dX1_neededBy_29 rfl hl (by decide) rfl (fun ls hl => ?_)
        refine lv_iinc (v := (x3 + (-1 : Int32))) (lv' := [(3, .int ((x3 + (-1 : Int32)))), (2, .int ((x2 ||| (ga (6) t_grounds (x3))))), (0, .ref t_o)]) hx hb dX1_neededBy_30 hl (k := 2) rfl rfl (by decide) rfl (fun ls hl => ?_)
        refine lv_goto (tgt := 6) hx hb dX1_neededBy_33 (by decide) ?_
        exact ih hf hw (lv_sub hl [2, 1, 0] rfl)
set_option maxRecDepth 100000 in
set_option maxHeartbeats 4000000 in
theorem c_X1_neededBy {E : En} {l : Launch} {t_o : Nat} {t_q : Nat → Nat} {t_men : Int32} {t_consuls : Int32} {t_dangers : Int32} {t_decrees : Int32} {t_term : Int32} {t_termTold : Int32} {t_manNames : (Nat → Int64)} {t_kinds : (Nat → Int32)} {t_skills : (Nat → Int32)} {t_fields : (Nat → Int32)} {t_wants : (Nat → Int32)} {t_hated : (Nat → Int32)} {t_dangerNames : (Nat → Int64)} {t_sizes : (Nat → Int32)} {t_grows : (Nat → Int32)} {t_decreeNames : (Nat → Int64)} {t_grounds : (Nat → Int32)} {t_laws : Value} {x1 : Int32} {out : Int32} (hf : f_X1_neededBy t_grounds x1 = some out) : Cn E l yX1_neededBy cX1_neededBy 4 (some .int) rm_X1_neededBy [.ref t_o, .int (x1)] (wX1 E t_o t_q t_men t_consuls t_dangers t_decrees t_term t_termTold t_manNames t_kinds t_skills t_fields t_wants t_hated t_dangerNames t_sizes t_grows t_decreeNames t_grounds t_laws) (some (.int out)) (wX1 E t_o t_q t_men t_consuls t_dangers t_decrees t_term t_termTold t_manNames t_kinds t_skills t_fields t_wants t_hated t_dangerNames t_sizes t_grows t_decreeNames t_grounds t_laws) := by
  refine Cn.of (by decide) (Nat.le_of_ble_eq_true rfl) rfl ?_
  intro p e s m below meth c A ls args H locs X hw hl
  have hx := X.1.1
  have hb := X.1.2.1
  have ho := X.1.2.2.2.1
  have hts := X.1.2.2.2.2
  have hl : lv_has ls 4 [(0, .ref t_o), (1, .int (x1))] := hl
  unfold f_X1_neededBy at hf
  refine lv_iconst (v := (1 : Int32)) hx hb dX1_neededBy_0 (by decide) ?_
  refine lv_iload_n hx hb dX1_neededBy_1 rfl (lv_at hl 1 rfl) ?_
  refine lv_ishl hx hb dX1_neededBy_2 ?_
  refine lv_istore_n (lv' := [(2, .int (((1 : Int32) <<< (x1 &&& (31 : Int32))))), (0, .ref t_o), (1, .int (x1))]) hx hb dX1_neededBy_3 rfl hl (by decide) rfl (fun ls hl => ?_)
  refine lv_iload_n hx hb dX1_neededBy_4 rfl (lv_at hl 2 rfl) ?_
  refine lv_istore_n (lv' := [(3, .int (x1)), (2, .int (((1 : Int32) <<< (x1 &&& (31 : Int32))))), (0, .ref t_o), (1, .int (x1))]) hx hb dX1_neededBy_5 rfl hl (by decide) rfl (fun ls hl => ?_)
  exact kb_X1_neededBy_6 X 1100 hf hw (lv_sub hl [2, 1, 0] rfl)
/-! private void keepIfLess(int); -/
def f_X2_keepIfLess (t_row : (Nat → Int32)) (t_leastRow : (Nat → Int32)) (t_least : Int32) (x1 : Int32) : Option ((Nat → Int32) × Int32) := if t_least ≤ x1 then some (t_leastRow, t_least)
  else (f_X12_copyRow (5) t_row (5) t_leastRow).bind fun r21 => some (r21, x1)
abbrev rm_X2_keepIfLess : Room := { frames := 1, cells := 0, slots := 0, locals := 22 }
theorem hd_X2_keepIfLess : yX2_keepIfLess.cls = RX2 ∧ yX2_keepIfLess.cls ≠ "java/lang/invoke/MethodHandle" ∧ yX2_keepIfLess.cls ≠ "java/lang/invoke/VarHandle" ∧ (parseMethodDescriptor yX2_keepIfLess.desc).map (fun d => d.parameters.length) = some 1 := by decide +kernel
set_option maxRecDepth 100000 in
set_option maxHeartbeats 4000000 in
theorem c_X2_keepIfLess {E : En} {l : Launch} {t_o : Nat} {t_q : Nat → Nat} {t_path : (Nat → Option Nat)} {t_row : (Nat → Int32)} {t_leastRow : (Nat → Int32)} {t_needed : (Nat → Int32)} {t_likeSizes : (Nat → Int32)} {t_ways : Value} {t_nextWays : Value} {t_least : Int32} {t_ended : Int32} {t_monthsKept : Int32} {x1 : Int32} {out : (Nat → Int32) × Int32} (hf : f_X2_keepIfLess t_row t_leastRow t_least x1 = some out) : Cn E l yX2_keepIfLess cX2_keepIfLess 2 none rm_X2_keepIfLess [.ref t_o, .int (x1)] (wX2 E t_o t_q t_path t_row t_leastRow t_needed t_likeSizes t_ways t_nextWays t_least t_ended t_monthsKept) none (wX2 E t_o t_q t_path t_row out.1 t_needed t_likeSizes t_ways t_nextWays out.2 t_ended t_monthsKept) := by
  refine Cn.of (by decide) (Nat.le_of_ble_eq_true rfl) rfl ?_
  intro p e s m below meth c A ls args H locs X hw hl
  have hx := X.1.1
  have hb := X.1.2.1
  have ho := X.1.2.2.2.1
  have hts := X.1.2.2.2.2
  have hl : lv_has ls 2 [(0, .ref t_o), (1, .int (x1))] := hl
  unfold f_X2_keepIfLess at hf
  refine lv_iload_n hx hb dX2_keepIfLess_0 rfl (lv_at hl 1 rfl) ?_
  refine lv_aload_n hx hb dX2_keepIfLess_1 rfl (lv_at hl 0 rfl) ?_
  refine k_get (q0 := 0) (ci := 1) (C := RX2) (T := TX2) (N := 10) (x := .int (t_least)) X inx_2 hw rfl rfl 7 (by decide) rfl tw_267 rfl dX2_keepIfLess_2 ?_
  refine lv_icmp_ge (tgt := 24) hx hb dX2_keepIfLess_5 (by decide) (fun c_5 => ?_) (fun c_5 => ?_)
  · have hf := (if_pos c_5).symm.trans hf
    obtain rfl := Option.some.inj hf
    exact k_vret X hw dX2_keepIfLess_24
  · have hf := (if_neg c_5).symm.trans hf
    refine lv_aload_n hx hb dX2_keepIfLess_8 rfl (lv_at hl 0 rfl) ?_
    refine lv_iload_n hx hb dX2_keepIfLess_9 rfl (lv_at hl 1 rfl) ?_
    refine k_put (q0 := 0) (ci := 1) (C := RX2) (T := TX2) (N := 10) (ty0 := tyX2) (x := .int (x1)) X inx_2 tyX2_ok nmX2 hw rfl rfl 7 (by decide) rfl rfl tw_267 rfl rfl (Nat.le_of_ble_eq_true rfl) dX2_keepIfLess_10 (fun H locs hw => ?_)
    have hw : Wd E A s.heap (wX2 E t_o t_q t_path t_row t_leastRow t_needed t_likeSizes t_ways t_nextWays x1 t_ended t_monthsKept) H locs := hw
    refine lv_aload_n hx hb dX2_keepIfLess_13 rfl (lv_at hl 0 rfl) ?_
    refine k_get (q0 := 0) (ci := 1) (C := RX2) (T := TX2) (N := 10) (x := .ref (t_q 1)) X inx_2 hw rfl rfl 1 (by decide) rfl tw_260 rfl dX2_keepIfLess_14 ?_
    refine lv_aload_n hx hb dX2_keepIfLess_17 rfl (lv_at hl 0 rfl) ?_
    refine k_get (q0 := 0) (ci := 1) (C := RX2) (T := TX2) (N := 10) (x := .ref (t_q 2)) X inx_2 hw rfl rfl 2 (by decide) rfl tw_261 rfl dX2_keepIfLess_18 ?_
    obtain ⟨r21, hc_21, hf⟩ := bd_some hf
    refine k_SN (As := [.ref (t_q 1), .ref (t_q 2)]) (rest := []) (host := "PloughCall") (index := 112) X (c_X12_copyRow hc_21) nw_92 tw_119 tw_919 tw_920 ⟨rfl, rfl⟩ hd_X12_copyRow.2 ⟨Nat.le_of_ble_eq_true rfl, Nat.le_of_ble_eq_true rfl⟩ ⟨Nat.zero_le _, Nat.zero_le _⟩ hw [2, 3] rfl rfl rfl hl.1 rfl (Nat.le_of_ble_eq_true rfl) dX2_keepIfLess_21 (fun H locs hw => ?_)
    have hw : Wd E A s.heap (wX2 E t_o t_q t_path t_row r21 t_needed t_likeSizes t_ways t_nextWays x1 t_ended t_monthsKept) H locs := hw
    obtain rfl := Option.some.inj hf
    exact k_vret X hw dX2_keepIfLess_24
/-! void add(int); -/
def f_X3_add (t_ops : (Nat → Int32)) (t_size : Int32) (x1 : Int32) : (Nat → Int32) × Int32 := if (1000 : Int32) ≤ t_size then (t_ops, t_size)
  else ((gp (1000) t_ops (t_size) (x1)), (t_size + (1 : Int32)))
abbrev rm_X3_add : Room := { frames := 1, cells := 0, slots := 0, locals := 22 }
theorem hd_X3_add : yX3_add.cls = RX3 ∧ yX3_add.cls ≠ "java/lang/invoke/MethodHandle" ∧ yX3_add.cls ≠ "java/lang/invoke/VarHandle" ∧ (parseMethodDescriptor yX3_add.desc).map (fun d => d.parameters.length) = some 1 := by decide +kernel
set_option maxRecDepth 100000 in
set_option maxHeartbeats 4000000 in
theorem c_X3_add {E : En} {l : Launch} {t_o : Nat} {t_q : Nat → Nat} {t_ops : (Nat → Int32)} {t_stack : (Nat → Int32)} {t_size : Int32} {t_worksFrom : Int32} {t_worksTo : Int32} {t_keepsFrom : Int32} {t_keepsTo : Int32} {x1 : Int32} {out : (Nat → Int32) × Int32} (hf : f_X3_add t_ops t_size x1 = out) : Cn E l yX3_add cX3_add 2 none rm_X3_add [.ref t_o, .int (x1)] (wX3 E t_o t_q t_ops t_stack t_size t_worksFrom t_worksTo t_keepsFrom t_keepsTo) none (wX3 E t_o t_q out.1 t_stack out.2 t_worksFrom t_worksTo t_keepsFrom t_keepsTo) := by
  refine Cn.of (by decide) (Nat.le_of_ble_eq_true rfl) rfl ?_
  intro p e s m below meth c A ls args H locs X hw hl
  have hx := X.1.1
  have hb := X.1.2.1
  have ho := X.1.2.2.2.1
  have hts := X.1.2.2.2.2
  have hl : lv_has ls 2 [(0, .ref t_o), (1, .int (x1))] := hl
  unfold f_X3_add at hf
  refine lv_aload_n hx hb dX3_add_0 rfl (lv_at hl 0 rfl) ?_
  refine k_get (q0 := 0) (ci := 2) (C := RX3) (T := TX3) (N := 7) (x := .int (t_size)) X inx_3 hw rfl rfl 2 (by decide) rfl tw_351 rfl dX3_add_1 ?_
  refine lv_sipush (v := (1000 : Int32)) hx hb dX3_add_4 (by decide) ?_
  refine lv_icmp_ge (tgt := 32) hx hb dX3_add_7 (by decide) (fun c_7 => ?_) (fun c_7 => ?_)
  · have hf := (if_pos c_7).symm.trans hf
    subst hf
    exact k_vret X hw dX3_add_32
  · have hf := (if_neg c_7).symm.trans hf
    refine lv_aload_n hx hb dX3_add_10 rfl (lv_at hl 0 rfl) ?_
    refine k_get (q0 := 0) (ci := 2) (C := RX3) (T := TX3) (N := 7) (x := .ref (t_q 0)) X inx_3 hw rfl rfl 0 (by decide) rfl tw_349 rfl dX3_add_11 ?_
    refine lv_aload_n hx hb dX3_add_14 rfl (lv_at hl 0 rfl) ?_
    refine k_get (q0 := 0) (ci := 2) (C := RX3) (T := TX3) (N := 7) (x := .int (t_size)) X inx_3 hw rfl rfl 2 (by decide) rfl tw_351 rfl dX3_add_15 ?_
    refine lv_iload_n hx hb dX3_add_18 rfl (lv_at hl 1 rfl) ?_
    refine k_SN (As := [.ref (t_q 0), .int (t_size), .int (x1)]) (rest := []) (host := "PloughCall") (index := 34) X (ct_X12_put (out := (gp (1000) t_ops (t_size) (x1))) rfl) nw_83 tw_119 tw_563 tw_564 ⟨rfl, rfl⟩ hd_X12_put.2 ⟨Nat.le_of_ble_eq_true rfl, Nat.le_of_ble_eq_true rfl⟩ ⟨Nat.zero_le _, Nat.zero_le _⟩ hw [1] rfl rfl rfl hl.1 rfl (Nat.le_of_ble_eq_true rfl) dX3_add_19 (fun H locs hw => ?_)
    have hw : Wd E A s.heap (wX3 E t_o t_q ((gp (1000) t_ops (t_size) (x1))) t_stack t_size t_worksFrom t_worksTo t_keepsFrom t_keepsTo) H locs := hw
    refine lv_aload_n hx hb dX3_add_22 rfl (lv_at hl 0 rfl) ?_
    refine lv_dup hx hb dX3_add_23 rfl ?_
    refine k_get (q0 := 0) (ci := 2) (C := RX3) (T := TX3) (N := 7) (x := .int (t_size)) X inx_3 hw rfl rfl 2 (by decide) rfl tw_351 rfl dX3_add_24 ?_
    refine lv_iconst (v := (1 : Int32)) hx hb dX3_add_27 (by decide) ?_
    refine lv_iadd hx hb dX3_add_28 ?_
    refine k_put (q0 := 0) (ci := 2) (C := RX3) (T := TX3) (N := 7) (ty0 := tyX3) (x := .int ((t_size + (1 : Int32)))) X inx_3 tyX3_ok nmX3 hw rfl rfl 2 (by decide) rfl rfl tw_351 rfl rfl (Nat.le_of_ble_eq_true rfl) dX3_add_29 (fun H locs hw => ?_)
    have hw : Wd E A s.heap (wX3 E t_o t_q ((gp (1000) t_ops (t_size) (x1))) t_stack ((t_size + (1 : Int32))) t_worksFrom t_worksTo t_keepsFrom t_keepsTo) H locs := hw
    subst hf
    exact k_vret X hw dX3_add_32
/-! int worth(boolean, int, int, int, int); -/
def f_X3_worth_126 (K41 : (Nat → Int32) → (Nat → Int32) → Int32 → Int32 → Int32 → Int32 → Int32 → Int32 → Int32 → Option (Int32 × (Nat → Int32))) (t_ops : (Nat → Int32)) (t_stack : (Nat → Int32)) (x2 : Int32) (x3 : Int32) (x4 : Int32) (x5 : Int32) (x7 : Int32) (x8 : Int32) (x9 : Int32) (s1 : Int32) (s2 : Int32) : Option (Int32 × (Nat → Int32)) := K41 t_ops ((gp (32) t_stack (s1) (s2))) x2 x3 x4 x5 x7 x8 ((x9 + (1 : Int32)))
def f_X3_worth_41 : Nat → (Nat → Int32) → (Nat → Int32) → Int32 → Int32 → Int32 → Int32 → Int32 → Int32 → Int32 → Option (Int32 × (Nat → Int32))
  | 0, _, _, _, _, _, _, _, _, _ => none
  | n + 1, t_ops, t_stack, x2, x3, x4, x5, x7, x8, x9 => if x7 ≤ x9 then some ((ga (32) t_stack ((0 : Int32))), t_stack)
    else if (ga (1000) t_ops (x9)) < (-4 : Int32) then if (ga (1000) t_ops (x9)) = (-5 : Int32) then if (ga (32) t_stack ((x8 - (1 : Int32)))) = (0 : Int32) then f_X3_worth_126 (f_X3_worth_41 n) t_ops t_stack x2 x3 x4 x5 x7 x8 x9 ((x8 - (1 : Int32))) ((1 : Int32))
        else f_X3_worth_126 (f_X3_worth_41 n) t_ops t_stack x2 x3 x4 x5 x7 x8 x9 ((x8 - (1 : Int32))) ((0 : Int32))
      else f_X3_worth_41 n t_ops ((gp (32) t_stack (((x8 + (-1 : Int32)) - (1 : Int32))) ((f_X3_joined ((ga (1000) t_ops (x9))) ((ga (32) t_stack (((x8 + (-1 : Int32)) - (1 : Int32))))) ((ga (32) t_stack ((x8 + (-1 : Int32))))))))) x2 x3 x4 x5 x7 ((x8 + (-1 : Int32))) ((x9 + (1 : Int32)))
    else f_X3_worth_41 n t_ops ((gp (32) t_stack (x8) ((f_X3_alone ((ga (1000) t_ops (x9))) (x2) (x3) (x4) (x5))))) x2 x3 x4 x5 x7 ((x8 + (1 : Int32))) ((x9 + (1 : Int32)))
def f_X3_worth_32 (t_ops : (Nat → Int32)) (t_stack : (Nat → Int32)) (x2 : Int32) (x3 : Int32) (x4 : Int32) (x5 : Int32) (x6 : Int32) (s0 : Int32) : Option (Int32 × (Nat → Int32)) := f_X3_worth_41 1100 t_ops t_stack x2 x3 x4 x5 s0 ((0 : Int32)) x6
def f_X3_worth_15 (t_ops : (Nat → Int32)) (t_stack : (Nat → Int32)) (t_worksTo : Int32) (t_keepsTo : Int32) (x1 : Int32) (x2 : Int32) (x3 : Int32) (x4 : Int32) (x5 : Int32) (s0 : Int32) : Option (Int32 × (Nat → Int32)) := if x1 = (0 : Int32) then f_X3_worth_32 t_ops t_stack x2 x3 x4 x5 s0 t_worksTo
  else f_X3_worth_32 t_ops t_stack x2 x3 x4 x5 s0 t_keepsTo
def f_X3_worth (t_ops : (Nat → Int32)) (t_stack : (Nat → Int32)) (t_worksFrom : Int32) (t_worksTo : Int32) (t_keepsFrom : Int32) (t_keepsTo : Int32) (x1 : Int32) (x2 : Int32) (x3 : Int32) (x4 : Int32) (x5 : Int32) : Option (Int32 × (Nat → Int32)) := if x1 = (0 : Int32) then f_X3_worth_15 t_ops t_stack t_worksTo t_keepsTo x1 x2 x3 x4 x5 t_worksFrom
  else f_X3_worth_15 t_ops t_stack t_worksTo t_keepsTo x1 x2 x3 x4 x5 t_keepsFrom
abbrev rm_X3_worth : Room := { frames := 1, cells := 0, slots := 0, locals := 24 }
theorem hd_X3_worth : yX3_worth.cls = RX3 ∧ yX3_worth.cls ≠ "java/lang/invoke/MethodHandle" ∧ yX3_worth.cls ≠ "java/lang/invoke/VarHandle" ∧ (parseMethodDescriptor yX3_worth.desc).map (fun d => d.parameters.length) = some 5 := by decide +kernel
set_option maxRecDepth 100000 in
set_option maxHeartbeats 4000000 in
theorem kb_X3_worth_126 {E : En} {p : Program} {l : Launch} {e : Env} {s : State} {m : MethodId} {args : Array Value} {below : List Frame} {meth : Method} {c : Code} {A : Nat → Prop} {t_o : Nat} {t_q : Nat → Nat} {t_ops : (Nat → Int32)} {t_size : Int32} {t_worksFrom : Int32} {t_worksTo : Int32} {t_keepsFrom : Int32} {t_keepsTo : Int32} {out : Int32 × (Nat → Int32)} (X : Bx E A p s m args meth c cX3_worth 11 RX3 (some .int)) {K41 : (Nat → Int32) → (Nat → Int32) → Int32 → Int32 → Int32 → Int32 → Int32 → Int32 → Int32 → Option (Int32 × (Nat → Int32))} (hK41 : ∀ {t_stack : (Nat → Int32)} {x2 : Int32} {x3 : Int32} {x4 : Int32} {x5 : Int32} {x7 : Int32} {x8 : Int32} {x9 : Int32} {H : Heap} {locs : List Loc} {ls : Array Slot}, K41 t_ops t_stack x2 x3 x4 x5 x7 x8 x9 = some out → Wd E A s.heap (wX3 E t_o t_q t_ops t_stack t_size t_worksFrom t_worksTo t_keepsFrom t_keepsTo) H locs → lv_has ls 11 [(0, .ref t_o), (2, .int (x2)), (3, .int (x3)), (4, .int (x4)), (5, .int (x5)), (7, .int (x7)), (8, .int (x8)), (9, .int (x9))] → W p l e rm_X3_worth s m args below meth c H locs 0 0 (Zn E below args s A (some (.int out.1)) (wX3 E t_o t_q t_ops out.2 t_size t_worksFrom t_worksTo t_keepsFrom t_keepsTo)) (F0 m 41 ls [])) {t_stack : (Nat → Int32)} {x2 : Int32} {x3 : Int32} {x4 : Int32} {x5 : Int32} {x7 : Int32} {x8 : Int32} {x9 : Int32} {s1 : Int32} {s2 : Int32} {H : Heap} {locs : List Loc} {ls : Array Slot} (hf : f_X3_worth_126 K41 t_ops t_stack x2 x3 x4 x5 x7 x8 x9 s1 s2 = some out) : Wd E A s.heap (wX3 E t_o t_q t_ops t_stack t_size t_worksFrom t_worksTo t_keepsFrom t_keepsTo) H locs → lv_has ls 11 [(0, .ref t_o), (2, .int (x2)), (3, .int (x3)), (4, .int (x4)), (5, .int (x5)), (7, .int (x7)), (8, .int (x8)), (9, .int (x9))] → W p l e rm_X3_worth s m args below meth c H locs 0 0 (Zn E below args s A (some (.int out.1)) (wX3 E t_o t_q t_ops out.2 t_size t_worksFrom t_worksTo t_keepsFrom t_keepsTo)) (F0 m 126 ls [.int (s2), .int (s1), .ref (t_q 1)]) := by
  have hx := X.1.1
  have hb := X.1.2.1
  have ho := X.1.2.2.2.1
  have hts := X.1.2.2.2.2
  intro hw hl
  unfold f_X3_worth_126 at hf
  refine k_SN (As := [.ref (t_q 1), .int (s1), .int (s2)]) (rest := []) (host := "PloughCall") (index := 34) X (ct_X12_put (out := (gp (32) t_stack (s1) (s2))) rfl) nw_83 tw_119 tw_563 tw_564 ⟨rfl, rfl⟩ hd_X12_put.2 ⟨Nat.le_of_ble_eq_true rfl, Nat.le_of_ble_eq_true rfl⟩ ⟨Nat.zero_le _, Nat.zero_le _⟩ hw [2] rfl rfl rfl hl.1 rfl (Nat.le_of_ble_eq_true rfl) dX3_worth_126 (fun H locs hw => ?_)
  have hw : Wd E A s.heap (wX3 E t_o t_q t_ops ((gp (32) t_stack (s1) (s2))) t_size t_worksFrom t_worksTo t_keepsFrom t_keepsTo) H locs := hw
  refine W.eq (g2 := F0 m 129 ls []) rfl ?_
  refine lv_goto (tgt := 171) hx hb dX3_worth_129 (by decide) ?_
  refine lv_iinc (v := (x9 + (1 : Int32))) (lv' := [(9, .int ((x9 + (1 : Int32)))), (0, .ref t_o), (2, .int (x2)), (3, .int (x3)), (4, .int (x4)), (5, .int (x5)), (7, .int (x7)), (8, .int (x8))]) hx hb dX3_worth_171 hl (k := 7) rfl rfl (by decide) rfl (fun ls hl => ?_)
  refine lv_goto (tgt := 41) hx hb dX3_worth_174 (by decide) ?_
  exact hK41 hf hw (lv_sub hl [1, 2, 3, 4, 5, 6, 7, 0] rfl)
set_option maxRecDepth 100000 in
set_option maxHeartbeats 4000000 in
theorem kb_X3_worth_41 {E : En} {p : Program} {l : Launch} {e : Env} {s : State} {m : MethodId} {args : Array Value} {below : List Frame} {meth : Method} {c : Code} {A : Nat → Prop} {t_o : Nat} {t_q : Nat → Nat} {t_ops : (Nat → Int32)} {t_size : Int32} {t_worksFrom : Int32} {t_worksTo : Int32} {t_keepsFrom : Int32} {t_keepsTo : Int32} {out : Int32 × (Nat → Int32)} (X : Bx E A p s m args meth c cX3_worth 11 RX3 (some .int)) : ∀ (n : Nat) {t_stack : (Nat → Int32)} {x2 : Int32} {x3 : Int32} {x4 : Int32} {x5 : Int32} {x7 : Int32} {x8 : Int32} {x9 : Int32} {H : Heap} {locs : List Loc} {ls : Array Slot}, f_X3_worth_41 n t_ops t_stack x2 x3 x4 x5 x7 x8 x9 = some out → Wd E A s.heap (wX3 E t_o t_q t_ops t_stack t_size t_worksFrom t_worksTo t_keepsFrom t_keepsTo) H locs → lv_has ls 11 [(0, .ref t_o), (2, .int (x2)), (3, .int (x3)), (4, .int (x4)), (5, .int (x5)), (7, .int (x7)), (8, .int (x8)), (9, .int (x9))] → W p l e rm_X3_worth s m args below meth c H locs 0 0 (Zn E below args s A (some (.int out.1)) (wX3 E t_o t_q t_ops out.2 t_size t_worksFrom t_worksTo t_keepsFrom t_keepsTo)) (F0 m 41 ls []) := by
  have hx := X.1.1
  have hb := X.1.2.1
  have ho := X.1.2.2.2.1
  have hts := X.1.2.2.2.2
  intro n
  induction n with
  | zero =>
    intro t_stack x2 x3 x4 x5 x7 x8 x9 H locs ls hf
    have hf : (none : Option (Int32 × (Nat → Int32))) = some out := hf
    cases hf
  | succ n ih =>
    intro t_stack x2 x3 x4 x5 x7 x8 x9 H locs ls hf hw hl
    rw [f_X3_worth_41.eq_2] at hf
    refine lv_iload hx hb dX3_worth_41 (lv_at hl 7 rfl) ?_
    refine lv_iload hx hb dX3_worth_43 (lv_at hl 5 rfl) ?_
    refine lv_icmp_ge (tgt := 177) hx hb dX3_worth_45 (by decide) (fun c_45 => ?_) (fun c_45 => ?_)
    · have hf := (if_pos c_45).symm.trans hf
      refine lv_aload_n hx hb dX3_worth_177 rfl (lv_at hl 0 rfl) ?_
      refine k_get (q0 := 0) (ci := 2) (C := RX3) (T := TX3) (N := 7) (x := .ref (t_q 1)) X inx_3 hw rfl rfl 1 (by decide) rfl tw_350 rfl dX3_worth_178 ?_
      refine lv_iconst (v := (0 : Int32)) hx hb dX3_worth_181 (by decide) ?_
      refine k_SN (As := [.ref (t_q 1), .int ((0 : Int32))]) (rest := []) (host := "PloughCall") (index := 38) X (ct_X12_at (out := (ga (32) t_stack ((0 : Int32)))) rfl) nw_88 tw_119 tw_591 tw_592 ⟨rfl, rfl⟩ hd_X12_at.2 ⟨Nat.le_of_ble_eq_true rfl, Nat.le_of_ble_eq_true rfl⟩ ⟨Nat.zero_le _, Nat.zero_le _⟩ hw [2] rfl rfl rfl hl.1 rfl (Nat.le_of_ble_eq_true rfl) dX3_worth_182 (fun H locs hw => ?_)
      have hw : Wd E A s.heap (wX3 E t_o t_q t_ops t_stack t_size t_worksFrom t_worksTo t_keepsFrom t_keepsTo) H locs := hw
      refine W.eq (g2 := F0 m 185 ls [.int ((ga (32) t_stack ((0 : Int32))))]) rfl ?_
      obtain rfl := Option.some.inj hf
      exact k_iret X hw dX3_worth_185
    · have hf := (if_neg c_45).symm.trans hf
      refine lv_aload_n hx hb dX3_worth_48 rfl (lv_at hl 0 rfl) ?_
      refine k_get (q0 := 0) (ci := 2) (C := RX3) (T := TX3) (N := 7) (x := .ref (t_q 0)) X inx_3 hw rfl rfl 0 (by decide) rfl tw_349 rfl dX3_worth_49 ?_
      refine lv_iload hx hb dX3_worth_52 (lv_at hl 7 rfl) ?_
      refine k_SN (As := [.ref (t_q 0), .int (x9)]) (rest := []) (host := "PloughCall") (index := 38) X (ct_X12_at (out := (ga (1000) t_ops (x9))) rfl) nw_88 tw_119 tw_591 tw_592 ⟨rfl, rfl⟩ hd_X12_at.2 ⟨Nat.le_of_ble_eq_true rfl, Nat.le_of_ble_eq_true rfl⟩ ⟨Nat.zero_le _, Nat.zero_le _⟩ hw [1] rfl rfl rfl hl.1 rfl (Nat.le_of_ble_eq_true rfl) dX3_worth_54 (fun H locs hw => ?_)
      have hw : Wd E A s.heap (wX3 E t_o t_q t_ops t_stack t_size t_worksFrom t_worksTo t_keepsFrom t_keepsTo) H locs := hw
      refine W.eq (g2 := F0 m 57 ls [.int ((ga (1000) t_ops (x9)))]) rfl ?_
      refine lv_istore (lv' := [(10, .int ((ga (1000) t_ops (x9)))), (0, .ref t_o), (2, .int (x2)), (3, .int (x3)), (4, .int (x4)), (5, .int (x5)), (7, .int (x7)), (8, .int (x8)), (9, .int (x9))]) hx hb dX3_worth_57 hl (by decide) rfl (fun ls hl => ?_)
      refine lv_iload hx hb dX3_worth_59 (lv_at hl 0 rfl) ?_
      refine lv_bipush (v := (-4 : Int32)) hx hb dX3_worth_61 (by decide) ?_
      refine lv_icmp_lt (tgt := 92) hx hb dX3_worth_63 (by decide) (fun c_63 => ?_) (fun c_63 => ?_)
      · have hf := (if_pos c_63).symm.trans hf
        refine lv_iload hx hb dX3_worth_92 (lv_at hl 0 rfl) ?_
        refine lv_bipush (v := (-5 : Int32)) hx hb dX3_worth_94 (by decide) ?_
        refine lv_icmp_ne (tgt := 132) hx hb dX3_worth_96 (by decide) (fun c_96 => ?_) (fun c_96 => ?_)
        · have hf := (if_neg c_96).symm.trans hf
          refine lv_iinc (v := (x8 + (-1 : Int32))) (lv' := [(8, .int ((x8 + (-1 : Int32)))), (10, .int ((ga (1000) t_ops (x9)))), (0, .ref t_o), (2, .int (x2)), (3, .int (x3)), (4, .int (x4)), (5, .int (x5)), (7, .int (x7)), (9, .int (x9))]) hx hb dX3_worth_132 hl (k := 7) rfl rfl (by decide) rfl (fun ls hl => ?_)
          refine lv_aload_n hx hb dX3_worth_135 rfl (lv_at hl 2 rfl) ?_
          refine k_get (q0 := 0) (ci := 2) (C := RX3) (T := TX3) (N := 7) (x := .ref (t_q 1)) X inx_3 hw rfl rfl 1 (by decide) rfl tw_350 rfl dX3_worth_136 ?_
          refine lv_iload hx hb dX3_worth_139 (lv_at hl 0 rfl) ?_
          refine lv_iconst (v := (1 : Int32)) hx hb dX3_worth_141 (by decide) ?_
          refine lv_isub hx hb dX3_worth_142 ?_
          refine lv_iload hx hb dX3_worth_143 (lv_at hl 1 rfl) ?_
          refine lv_aload_n hx hb dX3_worth_145 rfl (lv_at hl 2 rfl) ?_
          refine k_get (q0 := 0) (ci := 2) (C := RX3) (T := TX3) (N := 7) (x := .ref (t_q 1)) X inx_3 hw rfl rfl 1 (by decide) rfl tw_350 rfl dX3_worth_146 ?_
          refine lv_iload hx hb dX3_worth_149 (lv_at hl 0 rfl) ?_
          refine lv_iconst (v := (1 : Int32)) hx hb dX3_worth_151 (by decide) ?_
          refine lv_isub hx hb dX3_worth_152 ?_
          refine k_SN (As := [.ref (t_q 1), .int (((x8 + (-1 : Int32)) - (1 : Int32)))]) (rest := [.int ((ga (1000) t_ops (x9))), .int (((x8 + (-1 : Int32)) - (1 : Int32))), .ref (t_q 1)]) (host := "PloughCall") (index := 38) X (ct_X12_at (out := (ga (32) t_stack (((x8 + (-1 : Int32)) - (1 : Int32))))) rfl) nw_88 tw_119 tw_591 tw_592 ⟨rfl, rfl⟩ hd_X12_at.2 ⟨Nat.le_of_ble_eq_true rfl, Nat.le_of_ble_eq_true rfl⟩ ⟨Nat.zero_le _, Nat.zero_le _⟩ hw [2] rfl rfl rfl hl.1 rfl (Nat.le_of_ble_eq_true rfl) dX3_worth_153 (fun H locs hw => ?_)
          have hw : Wd E A s.heap (wX3 E t_o t_q t_ops t_stack t_size t_worksFrom t_worksTo t_keepsFrom t_keepsTo) H locs := hw
          refine W.eq (g2 := F0 m 156 ls [.int ((ga (32) t_stack (((x8 + (-1 : Int32)) - (1 : Int32))))), .int ((ga (1000) t_ops (x9))), .int (((x8 + (-1 : Int32)) - (1 : Int32))), .ref (t_q 1)]) rfl ?_
          refine lv_aload_n hx hb dX3_worth_156 rfl (lv_at hl 2 rfl) ?_
          refine k_get (q0 := 0) (ci := 2) (C := RX3) (T := TX3) (N := 7) (x := .ref (t_q 1)) X inx_3 hw rfl rfl 1 (by decide) rfl tw_350 rfl dX3_worth_157 ?_
          refine lv_iload hx hb dX3_worth_160 (lv_at hl 0 rfl) ?_
          refine k_SN (As := [.ref (t_q 1), .int ((x8 + (-1 : Int32)))]) (rest := [.int ((ga (32) t_stack (((x8 + (-1 : Int32)) - (1 : Int32))))), .int ((ga (1000) t_ops (x9))), .int (((x8 + (-1 : Int32)) - (1 : Int32))), .ref (t_q 1)]) (host := "PloughCall") (index := 38) X (ct_X12_at (out := (ga (32) t_stack ((x8 + (-1 : Int32))))) rfl) nw_88 tw_119 tw_591 tw_592 ⟨rfl, rfl⟩ hd_X12_at.2 ⟨Nat.le_of_ble_eq_true rfl, Nat.le_of_ble_eq_true rfl⟩ ⟨Nat.zero_le _, Nat.zero_le _⟩ hw [2] rfl rfl rfl hl.1 rfl (Nat.le_of_ble_eq_true rfl) dX3_worth_162 (fun H locs hw => ?_)
          have hw : Wd E A s.heap (wX3 E t_o t_q t_ops t_stack t_size t_worksFrom t_worksTo t_keepsFrom t_keepsTo) H locs := hw
          refine W.eq (g2 := F0 m 165 ls [.int ((ga (32) t_stack ((x8 + (-1 : Int32))))), .int ((ga (32) t_stack (((x8 + (-1 : Int32)) - (1 : Int32))))), .int ((ga (1000) t_ops (x9))), .int (((x8 + (-1 : Int32)) - (1 : Int32))), .ref (t_q 1)]) rfl ?_
          refine k_S (As := [.int ((ga (1000) t_ops (x9))), .int ((ga (32) t_stack (((x8 + (-1 : Int32)) - (1 : Int32))))), .int ((ga (32) t_stack ((x8 + (-1 : Int32)))))]) (rest := [.int (((x8 + (-1 : Int32)) - (1 : Int32))), .ref (t_q 1)]) (index := 46) X (c_X3_joined (out := (f_X3_joined ((ga (1000) t_ops (x9))) ((ga (32) t_stack (((x8 + (-1 : Int32)) - (1 : Int32))))) ((ga (32) t_stack ((x8 + (-1 : Int32))))))) rfl) tw_972 tw_973 tw_127 tw_974 ⟨rfl, rfl⟩ hd_X3_joined ⟨Nat.le_of_ble_eq_true rfl, Nat.le_of_ble_eq_true rfl⟩ ⟨Nat.zero_le _, Nat.zero_le _⟩ hw [] rfl rfl rfl hl.1 rfl (Nat.le_of_ble_eq_true rfl) dX3_worth_165 (fun H locs hw => ?_)
          have hw : Wd E A s.heap (wX3 E t_o t_q t_ops t_stack t_size t_worksFrom t_worksTo t_keepsFrom t_keepsTo) H locs := hw
          refine W.eq (g2 := F0 m 168 ls [.int ((f_X3_joined ((ga (1000) t_ops (x9))) ((ga (32) t_stack (((x8 + (-1 : Int32)) - (1 : Int32))))) ((ga (32) t_stack ((x8 + (-1 : Int32))))))), .int (((x8 + (-1 : Int32)) - (1 : Int32))), .ref (t_q 1)]) rfl ?_
          refine k_SN (As := [.ref (t_q 1), .int (((x8 + (-1 : Int32)) - (1 : Int32))), .int ((f_X3_joined ((ga (1000) t_ops (x9))) ((ga (32) t_stack (((x8 + (-1 : Int32)) - (1 : Int32))))) ((ga (32) t_stack ((x8 + (-1 : Int32)))))))]) (rest := []) (host := "PloughCall") (index := 34) X (ct_X12_put (out := (gp (32) t_stack (((x8 + (-1 : Int32)) - (1 : Int32))) ((f_X3_joined ((ga (1000) t_ops (x9))) ((ga (32) t_stack (((x8 + (-1 : Int32)) - (1 : Int32))))) ((ga (32) t_stack ((x8 + (-1 : Int32))))))))) rfl) nw_83 tw_119 tw_563 tw_564 ⟨rfl, rfl⟩ hd_X12_put.2 ⟨Nat.le_of_ble_eq_true rfl, Nat.le_of_ble_eq_true rfl⟩ ⟨Nat.zero_le _, Nat.zero_le _⟩ hw [2] rfl rfl rfl hl.1 rfl (Nat.le_of_ble_eq_true rfl) dX3_worth_168 (fun H locs hw => ?_)
          have hw : Wd E A s.heap (wX3 E t_o t_q t_ops ((gp (32) t_stack (((x8 + (-1 : Int32)) - (1 : Int32))) ((f_X3_joined ((ga (1000) t_ops (x9))) ((ga (32) t_stack (((x8 + (-1 : Int32)) - (1 : Int32))))) ((ga (32) t_stack ((x8 + (-1 : Int32))))))))) t_size t_worksFrom t_worksTo t_keepsFrom t_keepsTo) H locs := hw
          refine W.eq (g2 := F0 m 171 ls []) rfl ?_
          refine lv_iinc (v := (x9 + (1 : Int32))) (lv' := [(9, .int ((x9 + (1 : Int32)))), (8, .int ((x8 + (-1 : Int32)))), (10, .int ((ga (1000) t_ops (x9)))), (0, .ref t_o), (2, .int (x2)), (3, .int (x3)), (4, .int (x4)), (5, .int (x5)), (7, .int (x7))]) hx hb dX3_worth_171 hl (k := 8) rfl rfl (by decide) rfl (fun ls hl => ?_)
          refine lv_goto (tgt := 41) hx hb dX3_worth_174 (by decide) ?_
          exact ih hf hw (lv_sub hl [3, 4, 5, 6, 7, 8, 1, 0] rfl)
        · have hf := (if_pos c_96).symm.trans hf
          refine lv_aload_n hx hb dX3_worth_99 rfl (lv_at hl 1 rfl) ?_
          refine k_get (q0 := 0) (ci := 2) (C := RX3) (T := TX3) (N := 7) (x := .ref (t_q 1)) X inx_3 hw rfl rfl 1 (by decide) rfl tw_350 rfl dX3_worth_100 ?_
          refine lv_iload hx hb dX3_worth_103 (lv_at hl 7 rfl) ?_
          refine lv_iconst (v := (1 : Int32)) hx hb dX3_worth_105 (by decide) ?_
          refine lv_isub hx hb dX3_worth_106 ?_
          refine lv_aload_n hx hb dX3_worth_107 rfl (lv_at hl 1 rfl) ?_
          refine k_get (q0 := 0) (ci := 2) (C := RX3) (T := TX3) (N := 7) (x := .ref (t_q 1)) X inx_3 hw rfl rfl 1 (by decide) rfl tw_350 rfl dX3_worth_108 ?_
          refine lv_iload hx hb dX3_worth_111 (lv_at hl 7 rfl) ?_
          refine lv_iconst (v := (1 : Int32)) hx hb dX3_worth_113 (by decide) ?_
          refine lv_isub hx hb dX3_worth_114 ?_
          refine k_SN (As := [.ref (t_q 1), .int ((x8 - (1 : Int32)))]) (rest := [.int ((x8 - (1 : Int32))), .ref (t_q 1)]) (host := "PloughCall") (index := 38) X (ct_X12_at (out := (ga (32) t_stack ((x8 - (1 : Int32))))) rfl) nw_88 tw_119 tw_591 tw_592 ⟨rfl, rfl⟩ hd_X12_at.2 ⟨Nat.le_of_ble_eq_true rfl, Nat.le_of_ble_eq_true rfl⟩ ⟨Nat.zero_le _, Nat.zero_le _⟩ hw [2] rfl rfl rfl hl.1 rfl (Nat.le_of_ble_eq_true rfl) dX3_worth_115 (fun H locs hw => ?_)
          have hw : Wd E A s.heap (wX3 E t_o t_q t_ops t_stack t_size t_worksFrom t_worksTo t_keepsFrom t_keepsTo) H locs := hw
          refine W.eq (g2 := F0 m 118 ls [.int ((ga (32) t_stack ((x8 - (1 : Int32))))), .int ((x8 - (1 : Int32))), .ref (t_q 1)]) rfl ?_
          refine lv_if_ne (tgt := 125) hx hb dX3_worth_118 (by decide) (fun c_118 => ?_) (fun c_118 => ?_)
          · have hf := (if_neg c_118).symm.trans hf
            refine lv_iconst (v := (0 : Int32)) hx hb dX3_worth_125 (by decide) ?_
            exact kb_X3_worth_126 X (fun hf hw hl => ih hf hw hl) hf hw (lv_sub hl [1, 2, 3, 4, 5, 6, 7, 8] rfl)
          · have hf := (if_pos c_118).symm.trans hf
            refine lv_iconst (v := (1 : Int32)) hx hb dX3_worth_121 (by decide) ?_
            refine lv_goto (tgt := 126) hx hb dX3_worth_122 (by decide) ?_
            exact kb_X3_worth_126 X (fun hf hw hl => ih hf hw hl) hf hw (lv_sub hl [1, 2, 3, 4, 5, 6, 7, 8] rfl)
      · have hf := (if_neg c_63).symm.trans hf
        refine lv_aload_n hx hb dX3_worth_66 rfl (lv_at hl 1 rfl) ?_
        refine k_get (q0 := 0) (ci := 2) (C := RX3) (T := TX3) (N := 7) (x := .ref (t_q 1)) X inx_3 hw rfl rfl 1 (by decide) rfl tw_350 rfl dX3_worth_67 ?_
        refine lv_iload hx hb dX3_worth_70 (lv_at hl 7 rfl) ?_
        refine lv_iload hx hb dX3_worth_72 (lv_at hl 0 rfl) ?_
        refine lv_iload_n hx hb dX3_worth_74 rfl (lv_at hl 2 rfl) ?_
        refine lv_iload_n hx hb dX3_worth_75 rfl (lv_at hl 3 rfl) ?_
        refine lv_iload hx hb dX3_worth_76 (lv_at hl 4 rfl) ?_
        refine lv_iload hx hb dX3_worth_78 (lv_at hl 5 rfl) ?_
        refine k_S (As := [.int ((ga (1000) t_ops (x9))), .int (x2), .int (x3), .int (x4), .int (x5)]) (rest := [.int (x8), .ref (t_q 1)]) (index := 42) X (c_X3_alone (out := (f_X3_alone ((ga (1000) t_ops (x9))) (x2) (x3) (x4) (x5))) rfl) tw_969 tw_970 tw_127 tw_971 ⟨rfl, rfl⟩ hd_X3_alone ⟨Nat.le_of_ble_eq_true rfl, Nat.le_of_ble_eq_true rfl⟩ ⟨Nat.zero_le _, Nat.zero_le _⟩ hw [] rfl rfl rfl hl.1 rfl (Nat.le_of_ble_eq_true rfl) dX3_worth_80 (fun H locs hw => ?_)
        have hw : Wd E A s.heap (wX3 E t_o t_q t_ops t_stack t_size t_worksFrom t_worksTo t_keepsFrom t_keepsTo) H locs := hw
        refine W.eq (g2 := F0 m 83 ls [.int ((f_X3_alone ((ga (1000) t_ops (x9))) (x2) (x3) (x4) (x5))), .int (x8), .ref (t_q 1)]) rfl ?_
        refine k_SN (As := [.ref (t_q 1), .int (x8), .int ((f_X3_alone ((ga (1000) t_ops (x9))) (x2) (x3) (x4) (x5)))]) (rest := []) (host := "PloughCall") (index := 34) X (ct_X12_put (out := (gp (32) t_stack (x8) ((f_X3_alone ((ga (1000) t_ops (x9))) (x2) (x3) (x4) (x5))))) rfl) nw_83 tw_119 tw_563 tw_564 ⟨rfl, rfl⟩ hd_X12_put.2 ⟨Nat.le_of_ble_eq_true rfl, Nat.le_of_ble_eq_true rfl⟩ ⟨Nat.zero_le _, Nat.zero_le _⟩ hw [2] rfl rfl rfl hl.1 rfl (Nat.le_of_ble_eq_true rfl) dX3_worth_83 (fun H locs hw => ?_)
        have hw : Wd E A s.heap (wX3 E t_o t_q t_ops ((gp (32) t_stack (x8) ((f_X3_alone ((ga (1000) t_ops (x9))) (x2) (x3) (x4) (x5))))) t_size t_worksFrom t_worksTo t_keepsFrom t_keepsTo) H locs := hw
        refine W.eq (g2 := F0 m 86 ls []) rfl ?_
        refine lv_iinc (v := (x8 + (1 : Int32))) (lv' := [(8, .int ((x8 + (1 : Int32)))), (10, .int ((ga (1000) t_ops (x9)))), (0, .ref t_o), (2, .int (x2)), (3, .int (x3)), (4, .int (x4)), (5, .int (x5)), (7, .int (x7)), (9, .int (x9))]) hx hb dX3_worth_86 hl (k := 7) rfl rfl (by decide) rfl (fun ls hl => ?_)
        refine lv_goto (tgt := 171) hx hb dX3_worth_89 (by decide) ?_
        refine lv_iinc (v := (x9 + (1 : Int32))) (lv' := [(9, .int ((x9 + (1 : Int32)))), (8, .int ((x8 + (1 : Int32)))), (10, .int ((ga (1000) t_ops (x9)))), (0, .ref t_o), (2, .int (x2)), (3, .int (x3)), (4, .int (x4)), (5, .int (x5)), (7, .int (x7))]) hx hb dX3_worth_171 hl (k := 8) rfl rfl (by decide) rfl (fun ls hl => ?_)
        refine lv_goto (tgt := 41) hx hb dX3_worth_174 (by decide) ?_
        exact ih hf hw (lv_sub hl [3, 4, 5, 6, 7, 8, 1, 0] rfl)
set_option maxRecDepth 100000 in
set_option maxHeartbeats 4000000 in
theorem kb_X3_worth_32 {E : En} {p : Program} {l : Launch} {e : Env} {s : State} {m : MethodId} {args : Array Value} {below : List Frame} {meth : Method} {c : Code} {A : Nat → Prop} {t_o : Nat} {t_q : Nat → Nat} {t_ops : (Nat → Int32)} {t_size : Int32} {t_worksFrom : Int32} {t_worksTo : Int32} {t_keepsFrom : Int32} {t_keepsTo : Int32} {out : Int32 × (Nat → Int32)} (X : Bx E A p s m args meth c cX3_worth 11 RX3 (some .int)) {t_stack : (Nat → Int32)} {x2 : Int32} {x3 : Int32} {x4 : Int32} {x5 : Int32} {x6 : Int32} {s0 : Int32} {H : Heap} {locs : List Loc} {ls : Array Slot} (hf : f_X3_worth_32 t_ops t_stack x2 x3 x4 x5 x6 s0 = some out) : Wd E A s.heap (wX3 E t_o t_q t_ops t_stack t_size t_worksFrom t_worksTo t_keepsFrom t_keepsTo) H locs → lv_has ls 11 [(0, .ref t_o), (2, .int (x2)), (3, .int (x3)), (4, .int (x4)), (5, .int (x5)), (6, .int (x6))] → W p l e rm_X3_worth s m args below meth c H locs 0 0 (Zn E below args s A (some (.int out.1)) (wX3 E t_o t_q t_ops out.2 t_size t_worksFrom t_worksTo t_keepsFrom t_keepsTo)) (F0 m 32 ls [.int (s0)]) := by
  have hx := X.1.1
  have hb := X.1.2.1
  have ho := X.1.2.2.2.1
  have hts := X.1.2.2.2.2
  intro hw hl
  unfold f_X3_worth_32 at hf
  refine lv_istore (lv' := [(7, .int (s0)), (0, .ref t_o), (2, .int (x2)), (3, .int (x3)), (4, .int (x4)), (5, .int (x5)), (6, .int (x6))]) hx hb dX3_worth_32 hl (by decide) rfl (fun ls hl => ?_)
  refine lv_iconst (v := (0 : Int32)) hx hb dX3_worth_34 (by decide) ?_
  refine lv_istore (lv' := [(8, .int ((0 : Int32))), (7, .int (s0)), (0, .ref t_o), (2, .int (x2)), (3, .int (x3)), (4, .int (x4)), (5, .int (x5)), (6, .int (x6))]) hx hb dX3_worth_35 hl (by decide) rfl (fun ls hl => ?_)
  refine lv_iload hx hb dX3_worth_37 (lv_at hl 7 rfl) ?_
  refine lv_istore (lv' := [(9, .int (x6)), (8, .int ((0 : Int32))), (7, .int (s0)), (0, .ref t_o), (2, .int (x2)), (3, .int (x3)), (4, .int (x4)), (5, .int (x5)), (6, .int (x6))]) hx hb dX3_worth_39 hl (by decide) rfl (fun ls hl => ?_)
  exact kb_X3_worth_41 X 1100 hf hw (lv_sub hl [3, 4, 5, 6, 7, 2, 1, 0] rfl)
set_option maxRecDepth 100000 in
set_option maxHeartbeats 4000000 in
theorem kb_X3_worth_15 {E : En} {p : Program} {l : Launch} {e : Env} {s : State} {m : MethodId} {args : Array Value} {below : List Frame} {meth : Method} {c : Code} {A : Nat → Prop} {t_o : Nat} {t_q : Nat → Nat} {t_ops : (Nat → Int32)} {t_size : Int32} {t_worksFrom : Int32} {t_worksTo : Int32} {t_keepsFrom : Int32} {t_keepsTo : Int32} {out : Int32 × (Nat → Int32)} (X : Bx E A p s m args meth c cX3_worth 11 RX3 (some .int)) {t_stack : (Nat → Int32)} {x1 : Int32} {x2 : Int32} {x3 : Int32} {x4 : Int32} {x5 : Int32} {s0 : Int32} {H : Heap} {locs : List Loc} {ls : Array Slot} (hf : f_X3_worth_15 t_ops t_stack t_worksTo t_keepsTo x1 x2 x3 x4 x5 s0 = some out) : Wd E A s.heap (wX3 E t_o t_q t_ops t_stack t_size t_worksFrom t_worksTo t_keepsFrom t_keepsTo) H locs → lv_has ls 11 [(0, .ref t_o), (1, .int (x1)), (2, .int (x2)), (3, .int (x3)), (4, .int (x4)), (5, .int (x5))] → W p l e rm_X3_worth s m args below meth c H locs 0 0 (Zn E below args s A (some (.int out.1)) (wX3 E t_o t_q t_ops out.2 t_size t_worksFrom t_worksTo t_keepsFrom t_keepsTo)) (F0 m 15 ls [.int (s0)]) := by
  have hx := X.1.1
  have hb := X.1.2.1
  have ho := X.1.2.2.2.1
  have hts := X.1.2.2.2.2
  intro hw hl
  unfold f_X3_worth_15 at hf
  refine lv_istore (lv' := [(6, .int (s0)), (0, .ref t_o), (1, .int (x1)), (2, .int (x2)), (3, .int (x3)), (4, .int (x4)), (5, .int (x5))]) hx hb dX3_worth_15 hl (by decide) rfl (fun ls hl => ?_)
  refine lv_iload_n hx hb dX3_worth_17 rfl (lv_at hl 2 rfl) ?_
  refine lv_if_eq (tgt := 28) hx hb dX3_worth_18 (by decide) (fun c_18 => ?_) (fun c_18 => ?_)
  · have hf := (if_pos c_18).symm.trans hf
    refine lv_aload_n hx hb dX3_worth_28 rfl (lv_at hl 1 rfl) ?_
    refine k_get (q0 := 0) (ci := 2) (C := RX3) (T := TX3) (N := 7) (x := .int (t_worksTo)) X inx_3 hw rfl rfl 4 (by decide) rfl tw_354 rfl dX3_worth_29 ?_
    exact kb_X3_worth_32 X hf hw (lv_sub hl [1, 3, 4, 5, 6, 0] rfl)
  · have hf := (if_neg c_18).symm.trans hf
    refine lv_aload_n hx hb dX3_worth_21 rfl (lv_at hl 1 rfl) ?_
    refine k_get (q0 := 0) (ci := 2) (C := RX3) (T := TX3) (N := 7) (x := .int (t_keepsTo)) X inx_3 hw rfl rfl 6 (by decide) rfl tw_356 rfl dX3_worth_22 ?_
    refine lv_goto (tgt := 32) hx hb dX3_worth_25 (by decide) ?_
    exact kb_X3_worth_32 X hf hw (lv_sub hl [1, 3, 4, 5, 6, 0] rfl)
set_option maxRecDepth 100000 in
set_option maxHeartbeats 4000000 in
theorem c_X3_worth {E : En} {l : Launch} {t_o : Nat} {t_q : Nat → Nat} {t_ops : (Nat → Int32)} {t_stack : (Nat → Int32)} {t_size : Int32} {t_worksFrom : Int32} {t_worksTo : Int32} {t_keepsFrom : Int32} {t_keepsTo : Int32} {x1 : Int32} {x2 : Int32} {x3 : Int32} {x4 : Int32} {x5 : Int32} {out : Int32 × (Nat → Int32)} (hf : f_X3_worth t_ops t_stack t_worksFrom t_worksTo t_keepsFrom t_keepsTo x1 x2 x3 x4 x5 = some out) : Cn E l yX3_worth cX3_worth 11 (some .int) rm_X3_worth [.ref t_o, .int (x1), .int (x2), .int (x3), .int (x4), .int (x5)] (wX3 E t_o t_q t_ops t_stack t_size t_worksFrom t_worksTo t_keepsFrom t_keepsTo) (some (.int out.1)) (wX3 E t_o t_q t_ops out.2 t_size t_worksFrom t_worksTo t_keepsFrom t_keepsTo) := by
  refine Cn.of (by decide) (Nat.le_of_ble_eq_true rfl) rfl ?_
  intro p e s m below meth c A ls args H locs X hw hl
  have hx := X.1.1
  have hb := X.1.2.1
  have ho := X.1.2.2.2.1
  have hts := X.1.2.2.2.2
  have hl : lv_has ls 11 [(0, .ref t_o), (1, .int (x1)), (2, .int (x2)), (3, .int (x3)), (4, .int (x4)), (5, .int (x5))] := hl
  unfold f_X3_worth at hf
  refine lv_iload_n hx hb dX3_worth_0 rfl (lv_at hl 1 rfl) ?_
  refine lv_if_eq (tgt := 11) hx hb dX3_worth_1 (by decide) (fun c_1 => ?_) (fun c_1 => ?_)
  · have hf := (if_pos c_1).symm.trans hf
    refine lv_aload_n hx hb dX3_worth_11 rfl (lv_at hl 0 rfl) ?_
    refine k_get (q0 := 0) (ci := 2) (C := RX3) (T := TX3) (N := 7) (x := .int (t_worksFrom)) X inx_3 hw rfl rfl 3 (by decide) rfl tw_353 rfl dX3_worth_12 ?_
    exact kb_X3_worth_15 X hf hw (lv_sub hl [0, 1, 2, 3, 4, 5] rfl)
  · have hf := (if_neg c_1).symm.trans hf
    refine lv_aload_n hx hb dX3_worth_4 rfl (lv_at hl 0 rfl) ?_
    refine k_get (q0 := 0) (ci := 2) (C := RX3) (T := TX3) (N := 7) (x := .int (t_keepsFrom)) X inx_3 hw rfl rfl 5 (by decide) rfl tw_355 rfl dX3_worth_5 ?_
    refine lv_goto (tgt := 15) hx hb dX3_worth_8 (by decide) ?_
    exact kb_X3_worth_15 X hf hw (lv_sub hl [0, 1, 2, 3, 4, 5] rfl)
