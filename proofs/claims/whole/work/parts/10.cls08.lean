/-! int strength(int, int, int); -/
def f_X1_strength (t_kinds : (Nat → Int32)) (t_skills : (Nat → Int32)) (t_wants : (Nat → Int32)) (tslaws_ops : (Nat → Int32)) (tslaws_stack : (Nat → Int32)) (tslaws_worksFrom : Int32) (tslaws_worksTo : Int32) (tslaws_keepsFrom : Int32) (tslaws_keepsTo : Int32) (x1 : Int32) (x2 : Int32) (x3 : Int32) : Option (Int32 × (Nat → Int32)) := if (f_X3_isTold tslaws_worksFrom tslaws_worksTo tslaws_keepsFrom tslaws_keepsTo ((0 : Int32))) = (0 : Int32) then if (ga (6) t_kinds (x1)) = (3 : Int32) then if x3 = (0 : Int32) then some ((0 : Int32), tslaws_stack)
      else some ((ga (6) t_skills (x1)), tslaws_stack)
    else some ((ga (6) t_skills (x1)), tslaws_stack)
  else (f_X3_worth tslaws_ops tslaws_stack tslaws_worksFrom tslaws_worksTo tslaws_keepsFrom tslaws_keepsTo ((0 : Int32)) ((ga (6) t_skills (x1))) ((ga (6) t_wants (x1))) (x2) (x3)).bind fun r61 => some ((imax (0 : Int32) (imin (99 : Int32) r61.1)), r61.2)
abbrev rm_X1_strength : Room := { frames := 2, cells := 0, slots := 0, locals := 54 }
theorem hd_X1_strength : yX1_strength.cls = RX1 ∧ yX1_strength.cls ≠ "java/lang/invoke/MethodHandle" ∧ yX1_strength.cls ≠ "java/lang/invoke/VarHandle" ∧ (parseMethodDescriptor yX1_strength.desc).map (fun d => d.parameters.length) = some 3 := by decide +kernel
set_option maxRecDepth 100000 in
set_option maxHeartbeats 4000000 in
theorem c_X1_strength {E : En} {l : Launch} {t_o : Nat} {t_q : Nat → Nat} {t_men : Int32} {t_consuls : Int32} {t_dangers : Int32} {t_decrees : Int32} {t_term : Int32} {t_termTold : Int32} {t_manNames : (Nat → Int64)} {t_kinds : (Nat → Int32)} {t_skills : (Nat → Int32)} {t_fields : (Nat → Int32)} {t_wants : (Nat → Int32)} {t_hated : (Nat → Int32)} {t_dangerNames : (Nat → Int64)} {t_sizes : (Nat → Int32)} {t_grows : (Nat → Int32)} {t_decreeNames : (Nat → Int64)} {t_grounds : (Nat → Int32)} {tslaws_o : Nat} {tslaws_q : Nat → Nat} {tslaws_ops : (Nat → Int32)} {tslaws_stack : (Nat → Int32)} {tslaws_size : Int32} {tslaws_worksFrom : Int32} {tslaws_worksTo : Int32} {tslaws_keepsFrom : Int32} {tslaws_keepsTo : Int32} {x1 : Int32} {x2 : Int32} {x3 : Int32} {out : Int32 × (Nat → Int32)} (hf : f_X1_strength t_kinds t_skills t_wants tslaws_ops tslaws_stack tslaws_worksFrom tslaws_worksTo tslaws_keepsFrom tslaws_keepsTo x1 x2 x3 = some out) : Cn E l yX1_strength cX1_strength 6 (some .int) rm_X1_strength [.ref t_o, .int (x1), .int (x2), .int (x3)] (wX1 E t_o t_q t_men t_consuls t_dangers t_decrees t_term t_termTold t_manNames t_kinds t_skills t_fields t_wants t_hated t_dangerNames t_sizes t_grows t_decreeNames t_grounds (.ref tslaws_o) ++ (wX3 E tslaws_o tslaws_q tslaws_ops tslaws_stack tslaws_size tslaws_worksFrom tslaws_worksTo tslaws_keepsFrom tslaws_keepsTo)) (some (.int out.1)) (wX1 E t_o t_q t_men t_consuls t_dangers t_decrees t_term t_termTold t_manNames t_kinds t_skills t_fields t_wants t_hated t_dangerNames t_sizes t_grows t_decreeNames t_grounds (.ref tslaws_o) ++ (wX3 E tslaws_o tslaws_q tslaws_ops out.2 tslaws_size tslaws_worksFrom tslaws_worksTo tslaws_keepsFrom tslaws_keepsTo)) := by
  refine Cn.of (by decide) (Nat.le_of_ble_eq_true rfl) rfl ?_
  intro p e s m below meth c A ls args H locs X hw hl
  have hx := X.1.1
  have hb := X.1.2.1
  have ho := X.1.2.2.2.1
  have hts := X.1.2.2.2.2
  have hl : lv_has ls 6 [(0, .ref t_o), (1, .int (x1)), (2, .int (x2)), (3, .int (x3))] := hl
  unfold f_X1_strength at hf
  refine lv_aload_n hx hb dX1_strength_0 rfl (lv_at hl 0 rfl) ?_
  refine k_get (q0 := 0) (ci := 0) (C := RX1) (T := TX1) (N := 18) (x := .ref (t_q 8)) X inx_1 hw rfl rfl 8 (by decide) rfl tw_399 rfl dX1_strength_1 ?_
  refine lv_iload_n hx hb dX1_strength_4 rfl (lv_at hl 1 rfl) ?_
  refine k_SN (As := [.ref (t_q 8), .int (x1)]) (rest := []) (host := "PloughCall") (index := 98) X (ct_X12_at (out := (ga (6) t_skills (x1))) rfl) nw_80 tw_119 tw_591 tw_592 ⟨rfl, rfl⟩ hd_X12_at.2 ⟨Nat.le_of_ble_eq_true rfl, Nat.le_of_ble_eq_true rfl⟩ ⟨Nat.zero_le _, Nat.zero_le _⟩ hw [3] rfl rfl rfl hl.1 rfl (Nat.le_of_ble_eq_true rfl) dX1_strength_5 (fun H locs hw => ?_)
  have hw : Wd E A s.heap (wX1 E t_o t_q t_men t_consuls t_dangers t_decrees t_term t_termTold t_manNames t_kinds t_skills t_fields t_wants t_hated t_dangerNames t_sizes t_grows t_decreeNames t_grounds (.ref tslaws_o) ++ (wX3 E tslaws_o tslaws_q tslaws_ops tslaws_stack tslaws_size tslaws_worksFrom tslaws_worksTo tslaws_keepsFrom tslaws_keepsTo)) H locs := hw
  refine lv_istore (lv' := [(4, .int ((ga (6) t_skills (x1)))), (0, .ref t_o), (1, .int (x1)), (2, .int (x2)), (3, .int (x3))]) hx hb dX1_strength_8 hl (by decide) rfl (fun ls hl => ?_)
  refine lv_aload_n hx hb dX1_strength_10 rfl (lv_at hl 1 rfl) ?_
  refine k_get (q0 := 0) (ci := 0) (C := RX1) (T := TX1) (N := 18) (x := .ref tslaws_o) X inx_1 hw rfl rfl 17 (by decide) rfl tw_420 rfl dX1_strength_11 ?_
  refine lv_iconst (v := (0 : Int32)) hx hb dX1_strength_14 (by decide) ?_
  refine k_V (As := [.int ((0 : Int32))]) (rest := []) (index := 112) (C := RX3) X (c_X3_isTold (out := (f_X3_isTold tslaws_worksFrom tslaws_worksTo tslaws_keepsFrom tslaws_keepsTo ((0 : Int32)))) rfl) tw_963 tw_769 tw_770 tw_127 tw_771 ⟨rfl, rfl⟩ hd_X3_isTold ⟨Nat.le_of_ble_eq_true rfl, Nat.le_of_ble_eq_true rfl⟩ ⟨Nat.zero_le _, Nat.zero_le _⟩ hw [12, 13, 14] rfl rfl 12 rfl rfl rfl rfl hl.1 rfl (Nat.le_of_ble_eq_true rfl) dX1_strength_15 (fun H locs hw => ?_)
  have hw : Wd E A s.heap (wX1 E t_o t_q t_men t_consuls t_dangers t_decrees t_term t_termTold t_manNames t_kinds t_skills t_fields t_wants t_hated t_dangerNames t_sizes t_grows t_decreeNames t_grounds (.ref tslaws_o) ++ (wX3 E tslaws_o tslaws_q tslaws_ops tslaws_stack tslaws_size tslaws_worksFrom tslaws_worksTo tslaws_keepsFrom tslaws_keepsTo)) H locs := hw
  refine lv_if_ne (tgt := 44) hx hb dX1_strength_18 (by decide) (fun c_18 => ?_) (fun c_18 => ?_)
  · have hf := (if_neg c_18).symm.trans hf
    refine lv_aload_n hx hb dX1_strength_44 rfl (lv_at hl 1 rfl) ?_
    refine k_get (q0 := 0) (ci := 0) (C := RX1) (T := TX1) (N := 18) (x := .ref tslaws_o) X inx_1 hw rfl rfl 17 (by decide) rfl tw_420 rfl dX1_strength_45 ?_
    refine lv_iconst (v := (0 : Int32)) hx hb dX1_strength_48 (by decide) ?_
    refine lv_iload hx hb dX1_strength_49 (lv_at hl 0 rfl) ?_
    refine lv_aload_n hx hb dX1_strength_51 rfl (lv_at hl 1 rfl) ?_
    refine k_get (q0 := 0) (ci := 0) (C := RX1) (T := TX1) (N := 18) (x := .ref (t_q 10)) X inx_1 hw rfl rfl 10 (by decide) rfl tw_404 rfl dX1_strength_52 ?_
    refine lv_iload_n hx hb dX1_strength_55 rfl (lv_at hl 2 rfl) ?_
    refine k_SN (As := [.ref (t_q 10), .int (x1)]) (rest := [.int ((ga (6) t_skills (x1))), .int ((0 : Int32)), .ref tslaws_o]) (host := "PloughCall") (index := 98) X (ct_X12_at (out := (ga (6) t_wants (x1))) rfl) nw_80 tw_119 tw_591 tw_592 ⟨rfl, rfl⟩ hd_X12_at.2 ⟨Nat.le_of_ble_eq_true rfl, Nat.le_of_ble_eq_true rfl⟩ ⟨Nat.zero_le _, Nat.zero_le _⟩ hw [5] rfl rfl rfl hl.1 rfl (Nat.le_of_ble_eq_true rfl) dX1_strength_56 (fun H locs hw => ?_)
    have hw : Wd E A s.heap (wX1 E t_o t_q t_men t_consuls t_dangers t_decrees t_term t_termTold t_manNames t_kinds t_skills t_fields t_wants t_hated t_dangerNames t_sizes t_grows t_decreeNames t_grounds (.ref tslaws_o) ++ (wX3 E tslaws_o tslaws_q tslaws_ops tslaws_stack tslaws_size tslaws_worksFrom tslaws_worksTo tslaws_keepsFrom tslaws_keepsTo)) H locs := hw
    refine lv_iload_n hx hb dX1_strength_59 rfl (lv_at hl 3 rfl) ?_
    refine lv_iload_n hx hb dX1_strength_60 rfl (lv_at hl 4 rfl) ?_
    obtain ⟨r61, hc_61, hf⟩ := bd_some hf
    refine k_V (As := [.int ((0 : Int32)), .int ((ga (6) t_skills (x1))), .int ((ga (6) t_wants (x1))), .int (x2), .int (x3)]) (rest := []) (index := 116) (C := RX3) X (c_X3_worth hc_61) tw_964 tw_965 tw_966 tw_127 tw_967 ⟨rfl, rfl⟩ hd_X3_worth ⟨Nat.le_of_ble_eq_true rfl, Nat.le_of_ble_eq_true rfl⟩ ⟨Nat.zero_le _, Nat.zero_le _⟩ hw [12, 13, 14] rfl rfl 12 rfl rfl rfl rfl hl.1 rfl (Nat.le_of_ble_eq_true rfl) dX1_strength_61 (fun H locs hw => ?_)
    have hw : Wd E A s.heap (wX1 E t_o t_q t_men t_consuls t_dangers t_decrees t_term t_termTold t_manNames t_kinds t_skills t_fields t_wants t_hated t_dangerNames t_sizes t_grows t_decreeNames t_grounds (.ref tslaws_o) ++ (wX3 E tslaws_o tslaws_q tslaws_ops r61.2 tslaws_size tslaws_worksFrom tslaws_worksTo tslaws_keepsFrom tslaws_keepsTo)) H locs := hw
    refine lv_istore (lv' := [(5, .int (r61.1)), (4, .int ((ga (6) t_skills (x1)))), (0, .ref t_o), (1, .int (x1)), (2, .int (x2)), (3, .int (x3))]) hx hb dX1_strength_64 hl (by decide) rfl (fun ls hl => ?_)
    refine lv_iconst (v := (0 : Int32)) hx hb dX1_strength_66 (by decide) ?_
    refine lv_bipush (v := (99 : Int32)) hx hb dX1_strength_67 (by decide) ?_
    refine lv_iload hx hb dX1_strength_69 (lv_at hl 0 rfl) ?_
    refine k_min (index := 120) X tw_975 tw_922 tw_135 tw_923 (Nat.le_of_ble_eq_true rfl) (Nat.le_of_ble_eq_true rfl) ⟨Nat.zero_le _, Nat.zero_le _⟩ hl.1 dX1_strength_71 ?_
    refine k_max (index := 126) X tw_976 tw_977 tw_135 tw_978 (Nat.le_of_ble_eq_true rfl) (Nat.le_of_ble_eq_true rfl) ⟨Nat.zero_le _, Nat.zero_le _⟩ hl.1 dX1_strength_74 ?_
    obtain rfl := Option.some.inj hf
    exact k_iret X hw dX1_strength_77
  · have hf := (if_pos c_18).symm.trans hf
    refine lv_aload_n hx hb dX1_strength_21 rfl (lv_at hl 1 rfl) ?_
    refine k_get (q0 := 0) (ci := 0) (C := RX1) (T := TX1) (N := 18) (x := .ref (t_q 7)) X inx_1 hw rfl rfl 7 (by decide) rfl tw_396 rfl dX1_strength_22 ?_
    refine lv_iload_n hx hb dX1_strength_25 rfl (lv_at hl 2 rfl) ?_
    refine k_SN (As := [.ref (t_q 7), .int (x1)]) (rest := []) (host := "PloughCall") (index := 98) X (ct_X12_at (out := (ga (6) t_kinds (x1))) rfl) nw_80 tw_119 tw_591 tw_592 ⟨rfl, rfl⟩ hd_X12_at.2 ⟨Nat.le_of_ble_eq_true rfl, Nat.le_of_ble_eq_true rfl⟩ ⟨Nat.zero_le _, Nat.zero_le _⟩ hw [2] rfl rfl rfl hl.1 rfl (Nat.le_of_ble_eq_true rfl) dX1_strength_26 (fun H locs hw => ?_)
    have hw : Wd E A s.heap (wX1 E t_o t_q t_men t_consuls t_dangers t_decrees t_term t_termTold t_manNames t_kinds t_skills t_fields t_wants t_hated t_dangerNames t_sizes t_grows t_decreeNames t_grounds (.ref tslaws_o) ++ (wX3 E tslaws_o tslaws_q tslaws_ops tslaws_stack tslaws_size tslaws_worksFrom tslaws_worksTo tslaws_keepsFrom tslaws_keepsTo)) H locs := hw
    refine lv_iconst (v := (3 : Int32)) hx hb dX1_strength_29 (by decide) ?_
    refine lv_icmp_ne (tgt := 41) hx hb dX1_strength_30 (by decide) (fun c_30 => ?_) (fun c_30 => ?_)
    · have hf := (if_neg c_30).symm.trans hf
      refine lv_iload hx hb dX1_strength_41 (lv_at hl 0 rfl) ?_
      obtain rfl := Option.some.inj hf
      exact k_iret X hw dX1_strength_43
    · have hf := (if_pos c_30).symm.trans hf
      refine lv_iload_n hx hb dX1_strength_33 rfl (lv_at hl 4 rfl) ?_
      refine lv_if_ne (tgt := 41) hx hb dX1_strength_34 (by decide) (fun c_34 => ?_) (fun c_34 => ?_)
      · have hf := (if_neg c_34).symm.trans hf
        refine lv_iload hx hb dX1_strength_41 (lv_at hl 0 rfl) ?_
        obtain rfl := Option.some.inj hf
        exact k_iret X hw dX1_strength_43
      · have hf := (if_pos c_34).symm.trans hf
        refine lv_iconst (v := (0 : Int32)) hx hb dX1_strength_37 (by decide) ?_
        refine lv_goto (tgt := 43) hx hb dX1_strength_38 (by decide) ?_
        obtain rfl := Option.some.inj hf
        exact k_iret X hw dX1_strength_43
/-! boolean wouldKeep(int, int, int); -/
def f_X1_wouldKeep (t_skills : (Nat → Int32)) (t_wants : (Nat → Int32)) (tslaws_ops : (Nat → Int32)) (tslaws_stack : (Nat → Int32)) (tslaws_worksFrom : Int32) (tslaws_worksTo : Int32) (tslaws_keepsFrom : Int32) (tslaws_keepsTo : Int32) (x1 : Int32) (x2 : Int32) (x3 : Int32) : Option (Int32 × (Nat → Int32)) := if (f_X3_isTold tslaws_worksFrom tslaws_worksTo tslaws_keepsFrom tslaws_keepsTo ((1 : Int32))) = (0 : Int32) then if ((ga (6) t_wants (x1)) + x2) ≤ (9 : Int32) then some ((0 : Int32), tslaws_stack)
    else some ((1 : Int32), tslaws_stack)
  else (f_X3_worth tslaws_ops tslaws_stack tslaws_worksFrom tslaws_worksTo tslaws_keepsFrom tslaws_keepsTo ((1 : Int32)) ((ga (6) t_skills (x1))) ((ga (6) t_wants (x1))) (x2) (x3)).bind fun r55 => if r55.1 = (0 : Int32) then some ((0 : Int32), r55.2)
  else some ((1 : Int32), r55.2)
abbrev rm_X1_wouldKeep : Room := { frames := 2, cells := 0, slots := 0, locals := 54 }
theorem hd_X1_wouldKeep : yX1_wouldKeep.cls = RX1 ∧ yX1_wouldKeep.cls ≠ "java/lang/invoke/MethodHandle" ∧ yX1_wouldKeep.cls ≠ "java/lang/invoke/VarHandle" ∧ (parseMethodDescriptor yX1_wouldKeep.desc).map (fun d => d.parameters.length) = some 3 := by decide +kernel
set_option maxRecDepth 100000 in
set_option maxHeartbeats 4000000 in
theorem c_X1_wouldKeep {E : En} {l : Launch} {t_o : Nat} {t_q : Nat → Nat} {t_men : Int32} {t_consuls : Int32} {t_dangers : Int32} {t_decrees : Int32} {t_term : Int32} {t_termTold : Int32} {t_manNames : (Nat → Int64)} {t_kinds : (Nat → Int32)} {t_skills : (Nat → Int32)} {t_fields : (Nat → Int32)} {t_wants : (Nat → Int32)} {t_hated : (Nat → Int32)} {t_dangerNames : (Nat → Int64)} {t_sizes : (Nat → Int32)} {t_grows : (Nat → Int32)} {t_decreeNames : (Nat → Int64)} {t_grounds : (Nat → Int32)} {tslaws_o : Nat} {tslaws_q : Nat → Nat} {tslaws_ops : (Nat → Int32)} {tslaws_stack : (Nat → Int32)} {tslaws_size : Int32} {tslaws_worksFrom : Int32} {tslaws_worksTo : Int32} {tslaws_keepsFrom : Int32} {tslaws_keepsTo : Int32} {x1 : Int32} {x2 : Int32} {x3 : Int32} {out : Int32 × (Nat → Int32)} (hf : f_X1_wouldKeep t_skills t_wants tslaws_ops tslaws_stack tslaws_worksFrom tslaws_worksTo tslaws_keepsFrom tslaws_keepsTo x1 x2 x3 = some out) : Cn E l yX1_wouldKeep cX1_wouldKeep 4 (some .boolean) rm_X1_wouldKeep [.ref t_o, .int (x1), .int (x2), .int (x3)] (wX1 E t_o t_q t_men t_consuls t_dangers t_decrees t_term t_termTold t_manNames t_kinds t_skills t_fields t_wants t_hated t_dangerNames t_sizes t_grows t_decreeNames t_grounds (.ref tslaws_o) ++ (wX3 E tslaws_o tslaws_q tslaws_ops tslaws_stack tslaws_size tslaws_worksFrom tslaws_worksTo tslaws_keepsFrom tslaws_keepsTo)) (some (.int out.1)) (wX1 E t_o t_q t_men t_consuls t_dangers t_decrees t_term t_termTold t_manNames t_kinds t_skills t_fields t_wants t_hated t_dangerNames t_sizes t_grows t_decreeNames t_grounds (.ref tslaws_o) ++ (wX3 E tslaws_o tslaws_q tslaws_ops out.2 tslaws_size tslaws_worksFrom tslaws_worksTo tslaws_keepsFrom tslaws_keepsTo)) := by
  refine Cn.of (by decide) (Nat.le_of_ble_eq_true rfl) rfl ?_
  intro p e s m below meth c A ls args H locs X hw hl
  have hx := X.1.1
  have hb := X.1.2.1
  have ho := X.1.2.2.2.1
  have hts := X.1.2.2.2.2
  have hl : lv_has ls 4 [(0, .ref t_o), (1, .int (x1)), (2, .int (x2)), (3, .int (x3))] := hl
  unfold f_X1_wouldKeep at hf
  refine lv_aload_n hx hb dX1_wouldKeep_0 rfl (lv_at hl 0 rfl) ?_
  refine k_get (q0 := 0) (ci := 0) (C := RX1) (T := TX1) (N := 18) (x := .ref tslaws_o) X inx_1 hw rfl rfl 17 (by decide) rfl tw_420 rfl dX1_wouldKeep_1 ?_
  refine lv_iconst (v := (1 : Int32)) hx hb dX1_wouldKeep_4 (by decide) ?_
  refine k_V (As := [.int ((1 : Int32))]) (rest := []) (index := 112) (C := RX3) X (c_X3_isTold (out := (f_X3_isTold tslaws_worksFrom tslaws_worksTo tslaws_keepsFrom tslaws_keepsTo ((1 : Int32)))) rfl) tw_963 tw_769 tw_770 tw_127 tw_771 ⟨rfl, rfl⟩ hd_X3_isTold ⟨Nat.le_of_ble_eq_true rfl, Nat.le_of_ble_eq_true rfl⟩ ⟨Nat.zero_le _, Nat.zero_le _⟩ hw [12, 13, 14] rfl rfl 12 rfl rfl rfl rfl hl.1 rfl (Nat.le_of_ble_eq_true rfl) dX1_wouldKeep_5 (fun H locs hw => ?_)
  have hw : Wd E A s.heap (wX1 E t_o t_q t_men t_consuls t_dangers t_decrees t_term t_termTold t_manNames t_kinds t_skills t_fields t_wants t_hated t_dangerNames t_sizes t_grows t_decreeNames t_grounds (.ref tslaws_o) ++ (wX3 E tslaws_o tslaws_q tslaws_ops tslaws_stack tslaws_size tslaws_worksFrom tslaws_worksTo tslaws_keepsFrom tslaws_keepsTo)) H locs := hw
  refine lv_if_ne (tgt := 32) hx hb dX1_wouldKeep_8 (by decide) (fun c_8 => ?_) (fun c_8 => ?_)
  · have hf := (if_neg c_8).symm.trans hf
    refine lv_aload_n hx hb dX1_wouldKeep_32 rfl (lv_at hl 0 rfl) ?_
    refine k_get (q0 := 0) (ci := 0) (C := RX1) (T := TX1) (N := 18) (x := .ref tslaws_o) X inx_1 hw rfl rfl 17 (by decide) rfl tw_420 rfl dX1_wouldKeep_33 ?_
    refine lv_iconst (v := (1 : Int32)) hx hb dX1_wouldKeep_36 (by decide) ?_
    refine lv_aload_n hx hb dX1_wouldKeep_37 rfl (lv_at hl 0 rfl) ?_
    refine k_get (q0 := 0) (ci := 0) (C := RX1) (T := TX1) (N := 18) (x := .ref (t_q 8)) X inx_1 hw rfl rfl 8 (by decide) rfl tw_399 rfl dX1_wouldKeep_38 ?_
    refine lv_iload_n hx hb dX1_wouldKeep_41 rfl (lv_at hl 1 rfl) ?_
    refine k_SN (As := [.ref (t_q 8), .int (x1)]) (rest := [.int ((1 : Int32)), .ref tslaws_o]) (host := "PloughCall") (index := 98) X (ct_X12_at (out := (ga (6) t_skills (x1))) rfl) nw_80 tw_119 tw_591 tw_592 ⟨rfl, rfl⟩ hd_X12_at.2 ⟨Nat.le_of_ble_eq_true rfl, Nat.le_of_ble_eq_true rfl⟩ ⟨Nat.zero_le _, Nat.zero_le _⟩ hw [3] rfl rfl rfl hl.1 rfl (Nat.le_of_ble_eq_true rfl) dX1_wouldKeep_42 (fun H locs hw => ?_)
    have hw : Wd E A s.heap (wX1 E t_o t_q t_men t_consuls t_dangers t_decrees t_term t_termTold t_manNames t_kinds t_skills t_fields t_wants t_hated t_dangerNames t_sizes t_grows t_decreeNames t_grounds (.ref tslaws_o) ++ (wX3 E tslaws_o tslaws_q tslaws_ops tslaws_stack tslaws_size tslaws_worksFrom tslaws_worksTo tslaws_keepsFrom tslaws_keepsTo)) H locs := hw
    refine lv_aload_n hx hb dX1_wouldKeep_45 rfl (lv_at hl 0 rfl) ?_
    refine k_get (q0 := 0) (ci := 0) (C := RX1) (T := TX1) (N := 18) (x := .ref (t_q 10)) X inx_1 hw rfl rfl 10 (by decide) rfl tw_404 rfl dX1_wouldKeep_46 ?_
    refine lv_iload_n hx hb dX1_wouldKeep_49 rfl (lv_at hl 1 rfl) ?_
    refine k_SN (As := [.ref (t_q 10), .int (x1)]) (rest := [.int ((ga (6) t_skills (x1))), .int ((1 : Int32)), .ref tslaws_o]) (host := "PloughCall") (index := 98) X (ct_X12_at (out := (ga (6) t_wants (x1))) rfl) nw_80 tw_119 tw_591 tw_592 ⟨rfl, rfl⟩ hd_X12_at.2 ⟨Nat.le_of_ble_eq_true rfl, Nat.le_of_ble_eq_true rfl⟩ ⟨Nat.zero_le _, Nat.zero_le _⟩ hw [5] rfl rfl rfl hl.1 rfl (Nat.le_of_ble_eq_true rfl) dX1_wouldKeep_50 (fun H locs hw => ?_)
    have hw : Wd E A s.heap (wX1 E t_o t_q t_men t_consuls t_dangers t_decrees t_term t_termTold t_manNames t_kinds t_skills t_fields t_wants t_hated t_dangerNames t_sizes t_grows t_decreeNames t_grounds (.ref tslaws_o) ++ (wX3 E tslaws_o tslaws_q tslaws_ops tslaws_stack tslaws_size tslaws_worksFrom tslaws_worksTo tslaws_keepsFrom tslaws_keepsTo)) H locs := hw
    refine lv_iload_n hx hb dX1_wouldKeep_53 rfl (lv_at hl 2 rfl) ?_
    refine lv_iload_n hx hb dX1_wouldKeep_54 rfl (lv_at hl 3 rfl) ?_
    obtain ⟨r55, hc_55, hf⟩ := bd_some hf
    refine k_V (As := [.int ((1 : Int32)), .int ((ga (6) t_skills (x1))), .int ((ga (6) t_wants (x1))), .int (x2), .int (x3)]) (rest := []) (index := 116) (C := RX3) X (c_X3_worth hc_55) tw_964 tw_965 tw_966 tw_127 tw_967 ⟨rfl, rfl⟩ hd_X3_worth ⟨Nat.le_of_ble_eq_true rfl, Nat.le_of_ble_eq_true rfl⟩ ⟨Nat.zero_le _, Nat.zero_le _⟩ hw [12, 13, 14] rfl rfl 12 rfl rfl rfl rfl hl.1 rfl (Nat.le_of_ble_eq_true rfl) dX1_wouldKeep_55 (fun H locs hw => ?_)
    have hw : Wd E A s.heap (wX1 E t_o t_q t_men t_consuls t_dangers t_decrees t_term t_termTold t_manNames t_kinds t_skills t_fields t_wants t_hated t_dangerNames t_sizes t_grows t_decreeNames t_grounds (.ref tslaws_o) ++ (wX3 E tslaws_o tslaws_q tslaws_ops r55.2 tslaws_size tslaws_worksFrom tslaws_worksTo tslaws_keepsFrom tslaws_keepsTo)) H locs := hw
    refine lv_if_eq (tgt := 65) hx hb dX1_wouldKeep_58 (by decide) (fun c_58 => ?_) (fun c_58 => ?_)
    · have hf := (if_pos c_58).symm.trans hf
      refine lv_iconst (v := (0 : Int32)) hx hb dX1_wouldKeep_65 (by decide) ?_
      obtain rfl := Option.some.inj hf
      exact k_zret X (Or.inl rfl) hw dX1_wouldKeep_66
    · have hf := (if_neg c_58).symm.trans hf
      refine lv_iconst (v := (1 : Int32)) hx hb dX1_wouldKeep_61 (by decide) ?_
      refine lv_goto (tgt := 66) hx hb dX1_wouldKeep_62 (by decide) ?_
      obtain rfl := Option.some.inj hf
      exact k_zret X (Or.inr rfl) hw dX1_wouldKeep_66
  · have hf := (if_pos c_8).symm.trans hf
    refine lv_bipush (v := (9 : Int32)) hx hb dX1_wouldKeep_11 (by decide) ?_
    refine lv_aload_n hx hb dX1_wouldKeep_13 rfl (lv_at hl 0 rfl) ?_
    refine k_get (q0 := 0) (ci := 0) (C := RX1) (T := TX1) (N := 18) (x := .ref (t_q 10)) X inx_1 hw rfl rfl 10 (by decide) rfl tw_404 rfl dX1_wouldKeep_14 ?_
    refine lv_iload_n hx hb dX1_wouldKeep_17 rfl (lv_at hl 1 rfl) ?_
    refine k_SN (As := [.ref (t_q 10), .int (x1)]) (rest := [.int ((9 : Int32))]) (host := "PloughCall") (index := 98) X (ct_X12_at (out := (ga (6) t_wants (x1))) rfl) nw_80 tw_119 tw_591 tw_592 ⟨rfl, rfl⟩ hd_X12_at.2 ⟨Nat.le_of_ble_eq_true rfl, Nat.le_of_ble_eq_true rfl⟩ ⟨Nat.zero_le _, Nat.zero_le _⟩ hw [5] rfl rfl rfl hl.1 rfl (Nat.le_of_ble_eq_true rfl) dX1_wouldKeep_18 (fun H locs hw => ?_)
    have hw : Wd E A s.heap (wX1 E t_o t_q t_men t_consuls t_dangers t_decrees t_term t_termTold t_manNames t_kinds t_skills t_fields t_wants t_hated t_dangerNames t_sizes t_grows t_decreeNames t_grounds (.ref tslaws_o) ++ (wX3 E tslaws_o tslaws_q tslaws_ops tslaws_stack tslaws_size tslaws_worksFrom tslaws_worksTo tslaws_keepsFrom tslaws_keepsTo)) H locs := hw
    refine lv_iload_n hx hb dX1_wouldKeep_21 rfl (lv_at hl 2 rfl) ?_
    refine lv_iadd hx hb dX1_wouldKeep_22 ?_
    refine lv_icmp_ge (tgt := 30) hx hb dX1_wouldKeep_23 (by decide) (fun c_23 => ?_) (fun c_23 => ?_)
    · have hf := (if_pos c_23).symm.trans hf
      refine lv_iconst (v := (0 : Int32)) hx hb dX1_wouldKeep_30 (by decide) ?_
      obtain rfl := Option.some.inj hf
      exact k_zret X (Or.inl rfl) hw dX1_wouldKeep_31
    · have hf := (if_neg c_23).symm.trans hf
      refine lv_iconst (v := (1 : Int32)) hx hb dX1_wouldKeep_26 (by decide) ?_
      refine lv_goto (tgt := 31) hx hb dX1_wouldKeep_27 (by decide) ?_
      obtain rfl := Option.some.inj hf
      exact k_zret X (Or.inr rfl) hw dX1_wouldKeep_31
/-! int sizeBehind(int, int, int); -/
def f_X1_sizeBehind_6 : Nat → (Nat → Int32) → (Nat → Int32) → (Nat → Int32) → (Nat → Int32) → (Nat → Int32) → Int32 → Int32 → Int32 → Int32 → Int32 → Int32 → Int32 → Int32 → Option (Int32 × (Nat → Int32))
  | 0, _, _, _, _, _, _, _, _, _, _, _, _, _ => none
  | n + 1, t_kinds, t_skills, t_wants, tslaws_ops, tslaws_stack, tslaws_worksFrom, tslaws_worksTo, tslaws_keepsFrom, tslaws_keepsTo, x1, x3, x4, x5 => if x3 ≤ x5 then some (x4, tslaws_stack)
    else if x4 ≤ (0 : Int32) then some (x4, tslaws_stack)
    else (f_X1_strength t_kinds t_skills t_wants tslaws_ops tslaws_stack tslaws_worksFrom tslaws_worksTo tslaws_keepsFrom tslaws_keepsTo (x1) (x4) (x5)).bind fun r26 => f_X1_sizeBehind_6 n t_kinds t_skills t_wants tslaws_ops r26.2 tslaws_worksFrom tslaws_worksTo tslaws_keepsFrom tslaws_keepsTo x1 x3 ((imax (0 : Int32) (x4 - r26.1))) ((x5 + (1 : Int32)))
def f_X1_sizeBehind (t_kinds : (Nat → Int32)) (t_skills : (Nat → Int32)) (t_wants : (Nat → Int32)) (tslaws_ops : (Nat → Int32)) (tslaws_stack : (Nat → Int32)) (tslaws_worksFrom : Int32) (tslaws_worksTo : Int32) (tslaws_keepsFrom : Int32) (tslaws_keepsTo : Int32) (x1 : Int32) (x2 : Int32) (x3 : Int32) : Option (Int32 × (Nat → Int32)) := f_X1_sizeBehind_6 1100 t_kinds t_skills t_wants tslaws_ops tslaws_stack tslaws_worksFrom tslaws_worksTo tslaws_keepsFrom tslaws_keepsTo x1 x3 x2 ((0 : Int32))
abbrev rm_X1_sizeBehind : Room := { frames := 3, cells := 0, slots := 0, locals := 79 }
theorem hd_X1_sizeBehind : yX1_sizeBehind.cls = RX1 ∧ yX1_sizeBehind.cls ≠ "java/lang/invoke/MethodHandle" ∧ yX1_sizeBehind.cls ≠ "java/lang/invoke/VarHandle" ∧ (parseMethodDescriptor yX1_sizeBehind.desc).map (fun d => d.parameters.length) = some 3 := by decide +kernel
set_option maxRecDepth 100000 in
set_option maxHeartbeats 4000000 in
theorem kb_X1_sizeBehind_6 {E : En} {p : Program} {l : Launch} {e : Env} {s : State} {m : MethodId} {args : Array Value} {below : List Frame} {meth : Method} {c : Code} {A : Nat → Prop} {t_o : Nat} {t_q : Nat → Nat} {t_men : Int32} {t_consuls : Int32} {t_dangers : Int32} {t_decrees : Int32} {t_term : Int32} {t_termTold : Int32} {t_manNames : (Nat → Int64)} {t_kinds : (Nat → Int32)} {t_skills : (Nat → Int32)} {t_fields : (Nat → Int32)} {t_wants : (Nat → Int32)} {t_hated : (Nat → Int32)} {t_dangerNames : (Nat → Int64)} {t_sizes : (Nat → Int32)} {t_grows : (Nat → Int32)} {t_decreeNames : (Nat → Int64)} {t_grounds : (Nat → Int32)} {tslaws_o : Nat} {tslaws_q : Nat → Nat} {tslaws_ops : (Nat → Int32)} {tslaws_size : Int32} {tslaws_worksFrom : Int32} {tslaws_worksTo : Int32} {tslaws_keepsFrom : Int32} {tslaws_keepsTo : Int32} {out : Int32 × (Nat → Int32)} (X : Bx E A p s m args meth c cX1_sizeBehind 6 RX1 (some .int)) : ∀ (n : Nat) {tslaws_stack : (Nat → Int32)} {x1 : Int32} {x3 : Int32} {x4 : Int32} {x5 : Int32} {H : Heap} {locs : List Loc} {ls : Array Slot}, f_X1_sizeBehind_6 n t_kinds t_skills t_wants tslaws_ops tslaws_stack tslaws_worksFrom tslaws_worksTo tslaws_keepsFrom tslaws_keepsTo x1 x3 x4 x5 = some out → Wd E A s.heap (wX1 E t_o t_q t_men t_consuls t_dangers t_decrees t_term t_termTold t_manNames t_kinds t_skills t_fields t_wants t_hated t_dangerNames t_sizes t_grows t_decreeNames t_grounds (.ref tslaws_o) ++ (wX3 E tslaws_o tslaws_q tslaws_ops tslaws_stack tslaws_size tslaws_worksFrom tslaws_worksTo tslaws_keepsFrom tslaws_keepsTo)) H locs → lv_has ls 6 [(0, .ref t_o), (1, .int (x1)), (3, .int (x3)), (4, .int (x4)), (5, .int (x5))] → W p l e rm_X1_sizeBehind s m args below meth c H locs 0 0 (Zn E below args s A (some (.int out.1)) (wX1 E t_o t_q t_men t_consuls t_dangers t_decrees t_term t_termTold t_manNames t_kinds t_skills t_fields t_wants t_hated t_dangerNames t_sizes t_grows t_decreeNames t_grounds (.ref tslaws_o) ++ (wX3 E tslaws_o tslaws_q tslaws_ops out.2 tslaws_size tslaws_worksFrom tslaws_worksTo tslaws_keepsFrom tslaws_keepsTo))) (F0 m 6 ls []) := by
  have hx := X.1.1
  have hb := X.1.2.1
  have ho := X.1.2.2.2.1
  have hts := X.1.2.2.2.2
  intro n
  induction n with
  | zero =>
    intro tslaws_stack x1 x3 x4 x5 H locs ls hf
    have hf : (none : Option (Int32 × (Nat → Int32))) = some out := hf
    cases hf
  | succ n ih =>
    intro tslaws_stack x1 x3 x4 x5 H locs ls hf hw hl
    rw [f_X1_sizeBehind_6.eq_2] at hf
    refine lv_iload hx hb dX1_sizeBehind_6 (lv_at hl 4 rfl) ?_
    refine lv_iload_n hx hb dX1_sizeBehind_8 rfl (lv_at hl 2 rfl) ?_
    refine lv_icmp_ge (tgt := 41) hx hb dX1_sizeBehind_9 (by decide) (fun c_9 => ?_) (fun c_9 => ?_)
    · have hf := (if_pos c_9).symm.trans hf
      refine lv_iload hx hb dX1_sizeBehind_41 (lv_at hl 3 rfl) ?_
      obtain rfl := Option.some.inj hf
      exact k_iret X hw dX1_sizeBehind_43
    · have hf := (if_neg c_9).symm.trans hf
      refine lv_iload hx hb dX1_sizeBehind_12 (lv_at hl 3 rfl) ?_
      refine lv_if_le (tgt := 41) hx hb dX1_sizeBehind_14 (by decide) (fun c_14 => ?_) (fun c_14 => ?_)
      · have hf := (if_pos c_14).symm.trans hf
        refine lv_iload hx hb dX1_sizeBehind_41 (lv_at hl 3 rfl) ?_
        obtain rfl := Option.some.inj hf
        exact k_iret X hw dX1_sizeBehind_43
      · have hf := (if_neg c_14).symm.trans hf
        refine lv_iconst (v := (0 : Int32)) hx hb dX1_sizeBehind_17 (by decide) ?_
        refine lv_iload hx hb dX1_sizeBehind_18 (lv_at hl 3 rfl) ?_
        refine lv_aload_n hx hb dX1_sizeBehind_20 rfl (lv_at hl 0 rfl) ?_
        refine lv_iload_n hx hb dX1_sizeBehind_21 rfl (lv_at hl 1 rfl) ?_
        refine lv_iload hx hb dX1_sizeBehind_22 (lv_at hl 3 rfl) ?_
        refine lv_iload hx hb dX1_sizeBehind_24 (lv_at hl 4 rfl) ?_
        obtain ⟨r26, hc_26, hf⟩ := bd_some hf
        refine k_V (As := [.int (x1), .int (x4), .int (x5)]) (rest := [.int (x4), .int ((0 : Int32))]) (index := 129) (C := RX1) X (c_X1_strength hc_26) tw_1069 tw_960 tw_961 tw_126 tw_962 ⟨rfl, rfl⟩ hd_X1_strength ⟨Nat.le_of_ble_eq_true rfl, Nat.le_of_ble_eq_true rfl⟩ ⟨Nat.zero_le _, Nat.zero_le _⟩ hw [0, 1, 2, 3, 4, 5, 6, 7, 8, 9, 10, 11, 12, 13, 14] rfl rfl 0 rfl rfl rfl rfl hl.1 rfl (Nat.le_of_ble_eq_true rfl) dX1_sizeBehind_26 (fun H locs hw => ?_)
        have hw : Wd E A s.heap (wX1 E t_o t_q t_men t_consuls t_dangers t_decrees t_term t_termTold t_manNames t_kinds t_skills t_fields t_wants t_hated t_dangerNames t_sizes t_grows t_decreeNames t_grounds (.ref tslaws_o) ++ (wX3 E tslaws_o tslaws_q tslaws_ops r26.2 tslaws_size tslaws_worksFrom tslaws_worksTo tslaws_keepsFrom tslaws_keepsTo)) H locs := hw
        refine lv_isub hx hb dX1_sizeBehind_29 ?_
        refine k_max (index := 126) X tw_976 tw_977 tw_135 tw_978 (Nat.le_of_ble_eq_true rfl) (Nat.le_of_ble_eq_true rfl) ⟨Nat.zero_le _, Nat.zero_le _⟩ hl.1 dX1_sizeBehind_30 ?_
        refine lv_istore (lv' := [(4, .int ((imax (0 : Int32) (x4 - r26.1)))), (0, .ref t_o), (1, .int (x1)), (3, .int (x3)), (5, .int (x5))]) hx hb dX1_sizeBehind_33 hl (by decide) rfl (fun ls hl => ?_)
        refine lv_iinc (v := (x5 + (1 : Int32))) (lv' := [(5, .int ((x5 + (1 : Int32)))), (4, .int ((imax (0 : Int32) (x4 - r26.1)))), (0, .ref t_o), (1, .int (x1)), (3, .int (x3))]) hx hb dX1_sizeBehind_35 hl (k := 4) rfl rfl (by decide) rfl (fun ls hl => ?_)
        refine lv_goto (tgt := 6) hx hb dX1_sizeBehind_38 (by decide) ?_
        exact ih hf hw (lv_sub hl [2, 3, 4, 1, 0] rfl)
set_option maxRecDepth 100000 in
set_option maxHeartbeats 4000000 in
theorem c_X1_sizeBehind {E : En} {l : Launch} {t_o : Nat} {t_q : Nat → Nat} {t_men : Int32} {t_consuls : Int32} {t_dangers : Int32} {t_decrees : Int32} {t_term : Int32} {t_termTold : Int32} {t_manNames : (Nat → Int64)} {t_kinds : (Nat → Int32)} {t_skills : (Nat → Int32)} {t_fields : (Nat → Int32)} {t_wants : (Nat → Int32)} {t_hated : (Nat → Int32)} {t_dangerNames : (Nat → Int64)} {t_sizes : (Nat → Int32)} {t_grows : (Nat → Int32)} {t_decreeNames : (Nat → Int64)} {t_grounds : (Nat → Int32)} {tslaws_o : Nat} {tslaws_q : Nat → Nat} {tslaws_ops : (Nat → Int32)} {tslaws_stack : (Nat → Int32)} {tslaws_size : Int32} {tslaws_worksFrom : Int32} {tslaws_worksTo : Int32} {tslaws_keepsFrom : Int32} {tslaws_keepsTo : Int32} {x1 : Int32} {x2 : Int32} {x3 : Int32} {out : Int32 × (Nat → Int32)} (hf : f_X1_sizeBehind t_kinds t_skills t_wants tslaws_ops tslaws_stack tslaws_worksFrom tslaws_worksTo tslaws_keepsFrom tslaws_keepsTo x1 x2 x3 = some out) : Cn E l yX1_sizeBehind cX1_sizeBehind 6 (some .int) rm_X1_sizeBehind [.ref t_o, .int (x1), .int (x2), .int (x3)] (wX1 E t_o t_q t_men t_consuls t_dangers t_decrees t_term t_termTold t_manNames t_kinds t_skills t_fields t_wants t_hated t_dangerNames t_sizes t_grows t_decreeNames t_grounds (.ref tslaws_o) ++ (wX3 E tslaws_o tslaws_q tslaws_ops tslaws_stack tslaws_size tslaws_worksFrom tslaws_worksTo tslaws_keepsFrom tslaws_keepsTo)) (some (.int out.1)) (wX1 E t_o t_q t_men t_consuls t_dangers t_decrees t_term t_termTold t_manNames t_kinds t_skills t_fields t_wants t_hated t_dangerNames t_sizes t_grows t_decreeNames t_grounds (.ref tslaws_o) ++ (wX3 E tslaws_o tslaws_q tslaws_ops out.2 tslaws_size tslaws_worksFrom tslaws_worksTo tslaws_keepsFrom tslaws_keepsTo)) := by
  refine Cn.of (by decide) (Nat.le_of_ble_eq_true rfl) rfl ?_
  intro p e s m below meth c A ls args H locs X hw hl
  have hx := X.1.1
  have hb := X.1.2.1
  have ho := X.1.2.2.2.1
  have hts := X.1.2.2.2.2
  have hl : lv_has ls 6 [(0, .ref t_o), (1, .int (x1)), (2, .int (x2)), (3, .int (x3))] := hl
  unfold f_X1_sizeBehind at hf
  refine lv_iload_n hx hb dX1_sizeBehind_0 rfl (lv_at hl 2 rfl) ?_
  refine lv_istore (lv' := [(4, .int (x2)), (0, .ref t_o), (1, .int (x1)), (2, .int (x2)), (3, .int (x3))]) hx hb dX1_sizeBehind_1 hl (by decide) rfl (fun ls hl => ?_)
  refine lv_iconst (v := (0 : Int32)) hx hb dX1_sizeBehind_3 (by decide) ?_
  refine lv_istore (lv' := [(5, .int ((0 : Int32))), (4, .int (x2)), (0, .ref t_o), (1, .int (x1)), (2, .int (x2)), (3, .int (x3))]) hx hb dX1_sizeBehind_4 hl (by decide) rfl (fun ls hl => ?_)
  exact kb_X1_sizeBehind_6 X 1100 hf hw (lv_sub hl [2, 3, 5, 1, 0] rfl)
/-! int monthsToEnd(int, int); -/
def f_X1_monthsToEnd_5 : Nat → (Nat → Int32) → (Nat → Int32) → (Nat → Int32) → (Nat → Int32) → (Nat → Int32) → Int32 → Int32 → Int32 → Int32 → Int32 → Int32 → Int32 → Option (Int32 × (Nat → Int32))
  | 0, _, _, _, _, _, _, _, _, _, _, _, _ => none
  | n + 1, t_kinds, t_skills, t_wants, tslaws_ops, tslaws_stack, tslaws_worksFrom, tslaws_worksTo, tslaws_keepsFrom, tslaws_keepsTo, x1, x3, x4 => if (24 : Int32) < x4 then some ((-1 : Int32), tslaws_stack)
    else if (0 : Int32) < x3 then (f_X1_strength t_kinds t_skills t_wants tslaws_ops tslaws_stack tslaws_worksFrom tslaws_worksTo tslaws_keepsFrom tslaws_keepsTo (x1) (x3) (x4)).bind fun r25 => f_X1_monthsToEnd_5 n t_kinds t_skills t_wants tslaws_ops r25.2 tslaws_worksFrom tslaws_worksTo tslaws_keepsFrom tslaws_keepsTo x1 ((x3 - r25.1)) ((x4 + (1 : Int32)))
    else some (x4, tslaws_stack)
def f_X1_monthsToEnd (t_kinds : (Nat → Int32)) (t_skills : (Nat → Int32)) (t_wants : (Nat → Int32)) (tslaws_ops : (Nat → Int32)) (tslaws_stack : (Nat → Int32)) (tslaws_worksFrom : Int32) (tslaws_worksTo : Int32) (tslaws_keepsFrom : Int32) (tslaws_keepsTo : Int32) (x1 : Int32) (x2 : Int32) : Option (Int32 × (Nat → Int32)) := f_X1_monthsToEnd_5 1100 t_kinds t_skills t_wants tslaws_ops tslaws_stack tslaws_worksFrom tslaws_worksTo tslaws_keepsFrom tslaws_keepsTo x1 x2 ((0 : Int32))
abbrev rm_X1_monthsToEnd : Room := { frames := 3, cells := 0, slots := 0, locals := 79 }
theorem hd_X1_monthsToEnd : yX1_monthsToEnd.cls = RX1 ∧ yX1_monthsToEnd.cls ≠ "java/lang/invoke/MethodHandle" ∧ yX1_monthsToEnd.cls ≠ "java/lang/invoke/VarHandle" ∧ (parseMethodDescriptor yX1_monthsToEnd.desc).map (fun d => d.parameters.length) = some 2 := by decide +kernel
set_option maxRecDepth 100000 in
set_option maxHeartbeats 4000000 in
theorem kb_X1_monthsToEnd_5 {E : En} {p : Program} {l : Launch} {e : Env} {s : State} {m : MethodId} {args : Array Value} {below : List Frame} {meth : Method} {c : Code} {A : Nat → Prop} {t_o : Nat} {t_q : Nat → Nat} {t_men : Int32} {t_consuls : Int32} {t_dangers : Int32} {t_decrees : Int32} {t_term : Int32} {t_termTold : Int32} {t_manNames : (Nat → Int64)} {t_kinds : (Nat → Int32)} {t_skills : (Nat → Int32)} {t_fields : (Nat → Int32)} {t_wants : (Nat → Int32)} {t_hated : (Nat → Int32)} {t_dangerNames : (Nat → Int64)} {t_sizes : (Nat → Int32)} {t_grows : (Nat → Int32)} {t_decreeNames : (Nat → Int64)} {t_grounds : (Nat → Int32)} {tslaws_o : Nat} {tslaws_q : Nat → Nat} {tslaws_ops : (Nat → Int32)} {tslaws_size : Int32} {tslaws_worksFrom : Int32} {tslaws_worksTo : Int32} {tslaws_keepsFrom : Int32} {tslaws_keepsTo : Int32} {out : Int32 × (Nat → Int32)} (X : Bx E A p s m args meth c cX1_monthsToEnd 5 RX1 (some .int)) : ∀ (n : Nat) {tslaws_stack : (Nat → Int32)} {x1 : Int32} {x3 : Int32} {x4 : Int32} {H : Heap} {locs : List Loc} {ls : Array Slot}, f_X1_monthsToEnd_5 n t_kinds t_skills t_wants tslaws_ops tslaws_stack tslaws_worksFrom tslaws_worksTo tslaws_keepsFrom tslaws_keepsTo x1 x3 x4 = some out → Wd E A s.heap (wX1 E t_o t_q t_men t_consuls t_dangers t_decrees t_term t_termTold t_manNames t_kinds t_skills t_fields t_wants t_hated t_dangerNames t_sizes t_grows t_decreeNames t_grounds (.ref tslaws_o) ++ (wX3 E tslaws_o tslaws_q tslaws_ops tslaws_stack tslaws_size tslaws_worksFrom tslaws_worksTo tslaws_keepsFrom tslaws_keepsTo)) H locs → lv_has ls 5 [(0, .ref t_o), (1, .int (x1)), (3, .int (x3)), (4, .int (x4))] → W p l e rm_X1_monthsToEnd s m args below meth c H locs 0 0 (Zn E below args s A (some (.int out.1)) (wX1 E t_o t_q t_men t_consuls t_dangers t_decrees t_term t_termTold t_manNames t_kinds t_skills t_fields t_wants t_hated t_dangerNames t_sizes t_grows t_decreeNames t_grounds (.ref tslaws_o) ++ (wX3 E tslaws_o tslaws_q tslaws_ops out.2 tslaws_size tslaws_worksFrom tslaws_worksTo tslaws_keepsFrom tslaws_keepsTo))) (F0 m 5 ls []) := by
  have hx := X.1.1
  have hb := X.1.2.1
  have ho := X.1.2.2.2.1
  have hts := X.1.2.2.2.2
  intro n
  induction n with
  | zero =>
    intro tslaws_stack x1 x3 x4 H locs ls hf
    have hf : (none : Option (Int32 × (Nat → Int32))) = some out := hf
    cases hf
  | succ n ih =>
    intro tslaws_stack x1 x3 x4 H locs ls hf hw hl
    rw [f_X1_monthsToEnd_5.eq_2] at hf
    refine lv_iload hx hb dX1_monthsToEnd_5 (lv_at hl 3 rfl) ?_
    refine lv_bipush (v := (24 : Int32)) hx hb dX1_monthsToEnd_7 (by decide) ?_
    refine lv_icmp_gt (tgt := 36) hx hb dX1_monthsToEnd_9 (by decide) (fun c_9 => ?_) (fun c_9 => ?_)
    · have hf := (if_pos c_9).symm.trans hf
      refine lv_iconst (v := (-1 : Int32)) hx hb dX1_monthsToEnd_36 (by decide) ?_
      obtain rfl := Option.some.inj hf
      exact k_iret X hw dX1_monthsToEnd_37
    · have hf := (if_neg c_9).symm.trans hf
      refine lv_iload_n hx hb dX1_monthsToEnd_12 rfl (lv_at hl 2 rfl) ?_
      refine lv_if_gt (tgt := 19) hx hb dX1_monthsToEnd_13 (by decide) (fun c_13 => ?_) (fun c_13 => ?_)
      · have hf := (if_pos c_13).symm.trans hf
        refine lv_iload_n hx hb dX1_monthsToEnd_19 rfl (lv_at hl 2 rfl) ?_
        refine lv_aload_n hx hb dX1_monthsToEnd_20 rfl (lv_at hl 0 rfl) ?_
        refine lv_iload_n hx hb dX1_monthsToEnd_21 rfl (lv_at hl 1 rfl) ?_
        refine lv_iload_n hx hb dX1_monthsToEnd_22 rfl (lv_at hl 2 rfl) ?_
        refine lv_iload hx hb dX1_monthsToEnd_23 (lv_at hl 3 rfl) ?_
        obtain ⟨r25, hc_25, hf⟩ := bd_some hf
        refine k_V (As := [.int (x1), .int (x3), .int (x4)]) (rest := [.int (x3)]) (index := 129) (C := RX1) X (c_X1_strength hc_25) tw_1069 tw_960 tw_961 tw_126 tw_962 ⟨rfl, rfl⟩ hd_X1_strength ⟨Nat.le_of_ble_eq_true rfl, Nat.le_of_ble_eq_true rfl⟩ ⟨Nat.zero_le _, Nat.zero_le _⟩ hw [0, 1, 2, 3, 4, 5, 6, 7, 8, 9, 10, 11, 12, 13, 14] rfl rfl 0 rfl rfl rfl rfl hl.1 rfl (Nat.le_of_ble_eq_true rfl) dX1_monthsToEnd_25 (fun H locs hw => ?_)
        have hw : Wd E A s.heap (wX1 E t_o t_q t_men t_consuls t_dangers t_decrees t_term t_termTold t_manNames t_kinds t_skills t_fields t_wants t_hated t_dangerNames t_sizes t_grows t_decreeNames t_grounds (.ref tslaws_o) ++ (wX3 E tslaws_o tslaws_q tslaws_ops r25.2 tslaws_size tslaws_worksFrom tslaws_worksTo tslaws_keepsFrom tslaws_keepsTo)) H locs := hw
        refine lv_isub hx hb dX1_monthsToEnd_28 ?_
        refine lv_istore_n (lv' := [(3, .int ((x3 - r25.1))), (0, .ref t_o), (1, .int (x1)), (4, .int (x4))]) hx hb dX1_monthsToEnd_29 rfl hl (by decide) rfl (fun ls hl => ?_)
        refine lv_iinc (v := (x4 + (1 : Int32))) (lv' := [(4, .int ((x4 + (1 : Int32)))), (3, .int ((x3 - r25.1))), (0, .ref t_o), (1, .int (x1))]) hx hb dX1_monthsToEnd_30 hl (k := 3) rfl rfl (by decide) rfl (fun ls hl => ?_)
        refine lv_goto (tgt := 5) hx hb dX1_monthsToEnd_33 (by decide) ?_
        exact ih hf hw (lv_sub hl [2, 3, 1, 0] rfl)
      · have hf := (if_neg c_13).symm.trans hf
        refine lv_iload hx hb dX1_monthsToEnd_16 (lv_at hl 3 rfl) ?_
        obtain rfl := Option.some.inj hf
        exact k_iret X hw dX1_monthsToEnd_18
set_option maxRecDepth 100000 in
set_option maxHeartbeats 4000000 in
theorem c_X1_monthsToEnd {E : En} {l : Launch} {t_o : Nat} {t_q : Nat → Nat} {t_men : Int32} {t_consuls : Int32} {t_dangers : Int32} {t_decrees : Int32} {t_term : Int32} {t_termTold : Int32} {t_manNames : (Nat → Int64)} {t_kinds : (Nat → Int32)} {t_skills : (Nat → Int32)} {t_fields : (Nat → Int32)} {t_wants : (Nat → Int32)} {t_hated : (Nat → Int32)} {t_dangerNames : (Nat → Int64)} {t_sizes : (Nat → Int32)} {t_grows : (Nat → Int32)} {t_decreeNames : (Nat → Int64)} {t_grounds : (Nat → Int32)} {tslaws_o : Nat} {tslaws_q : Nat → Nat} {tslaws_ops : (Nat → Int32)} {tslaws_stack : (Nat → Int32)} {tslaws_size : Int32} {tslaws_worksFrom : Int32} {tslaws_worksTo : Int32} {tslaws_keepsFrom : Int32} {tslaws_keepsTo : Int32} {x1 : Int32} {x2 : Int32} {out : Int32 × (Nat → Int32)} (hf : f_X1_monthsToEnd t_kinds t_skills t_wants tslaws_ops tslaws_stack tslaws_worksFrom tslaws_worksTo tslaws_keepsFrom tslaws_keepsTo x1 x2 = some out) : Cn E l yX1_monthsToEnd cX1_monthsToEnd 5 (some .int) rm_X1_monthsToEnd [.ref t_o, .int (x1), .int (x2)] (wX1 E t_o t_q t_men t_consuls t_dangers t_decrees t_term t_termTold t_manNames t_kinds t_skills t_fields t_wants t_hated t_dangerNames t_sizes t_grows t_decreeNames t_grounds (.ref tslaws_o) ++ (wX3 E tslaws_o tslaws_q tslaws_ops tslaws_stack tslaws_size tslaws_worksFrom tslaws_worksTo tslaws_keepsFrom tslaws_keepsTo)) (some (.int out.1)) (wX1 E t_o t_q t_men t_consuls t_dangers t_decrees t_term t_termTold t_manNames t_kinds t_skills t_fields t_wants t_hated t_dangerNames t_sizes t_grows t_decreeNames t_grounds (.ref tslaws_o) ++ (wX3 E tslaws_o tslaws_q tslaws_ops out.2 tslaws_size tslaws_worksFrom tslaws_worksTo tslaws_keepsFrom tslaws_keepsTo)) := by
  refine Cn.of (by decide) (Nat.le_of_ble_eq_true rfl) rfl ?_
  intro p e s m below meth c A ls args H locs X hw hl
  have hx := X.1.1
  have hb := X.1.2.1
  have ho := X.1.2.2.2.1
  have hts := X.1.2.2.2.2
  have hl : lv_has ls 5 [(0, .ref t_o), (1, .int (x1)), (2, .int (x2))] := hl
  unfold f_X1_monthsToEnd at hf
  refine lv_iload_n hx hb dX1_monthsToEnd_0 rfl (lv_at hl 2 rfl) ?_
  refine lv_istore_n (lv' := [(3, .int (x2)), (0, .ref t_o), (1, .int (x1)), (2, .int (x2))]) hx hb dX1_monthsToEnd_1 rfl hl (by decide) rfl (fun ls hl => ?_)
  refine lv_iconst (v := (0 : Int32)) hx hb dX1_monthsToEnd_2 (by decide) ?_
  refine lv_istore (lv' := [(4, .int ((0 : Int32))), (3, .int (x2)), (0, .ref t_o), (1, .int (x1)), (2, .int (x2))]) hx hb dX1_monthsToEnd_3 hl (by decide) rfl (fun ls hl => ?_)
  exact kb_X1_monthsToEnd_5 X 1100 hf hw (lv_sub hl [2, 3, 1, 0] rfl)
/-! private boolean wouldKeepThen(PloughCall$City, PloughCall$Standing, int, int, int); -/
def f_X2_wouldKeepThen_21 (p1_dangers : Int32) (p1_skills : (Nat → Int32)) (p1_wants : (Nat → Int32)) (p1_grows : (Nat → Int32)) (p1slaws_ops : (Nat → Int32)) (p1slaws_stack : (Nat → Int32)) (p1slaws_worksFrom : Int32) (p1slaws_worksTo : Int32) (p1slaws_keepsFrom : Int32) (p1slaws_keepsTo : Int32) (p2_sizes : (Nat → Int32)) (p2_liked : (Nat → Int32)) (x3 : Int32) (x4 : Int32) (x5 : Int32) (s0 : Int32) : Option (Int32 × (Nat → Int32)) := (f_X9_togetherGrown p2_sizes p1_dangers p1_grows (x4) (x5)).bind fun r38 => (f_X1_wouldKeep p1_skills p1_wants p1slaws_ops p1slaws_stack p1slaws_worksFrom p1slaws_worksTo p1slaws_keepsFrom p1slaws_keepsTo (x3) ((f_X9_likedWith p2_liked (x3) (s0))) (r38)).bind fun r41 => zg (r41.1) (some (r41.1, r41.2))
def f_X2_wouldKeepThen (p1_dangers : Int32) (p1_kinds : (Nat → Int32)) (p1_skills : (Nat → Int32)) (p1_wants : (Nat → Int32)) (p1_grows : (Nat → Int32)) (p1slaws_ops : (Nat → Int32)) (p1slaws_stack : (Nat → Int32)) (p1slaws_worksFrom : Int32) (p1slaws_worksTo : Int32) (p1slaws_keepsFrom : Int32) (p1slaws_keepsTo : Int32) (p2_sizes : (Nat → Int32)) (p2_liked : (Nat → Int32)) (x3 : Int32) (x4 : Int32) (x5 : Int32) : Option (Int32 × (Nat → Int32)) := if (ga (5) p2_sizes (x4)) = (0 : Int32) then f_X2_wouldKeepThen_21 p1_dangers p1_skills p1_wants p1_grows p1slaws_ops p1slaws_stack p1slaws_worksFrom p1slaws_worksTo p1slaws_keepsFrom p1slaws_keepsTo p2_sizes p2_liked x3 x4 x5 ((0 : Int32))
  else f_X2_wouldKeepThen_21 p1_dangers p1_skills p1_wants p1_grows p1slaws_ops p1slaws_stack p1slaws_worksFrom p1slaws_worksTo p1slaws_keepsFrom p1slaws_keepsTo p2_sizes p2_liked x3 x4 x5 ((f_X1_likedForEnding p1_kinds (x3)))
abbrev rm_X2_wouldKeepThen : Room := { frames := 3, cells := 0, slots := 0, locals := 77 }
theorem hd_X2_wouldKeepThen : yX2_wouldKeepThen.cls = RX2 ∧ yX2_wouldKeepThen.cls ≠ "java/lang/invoke/MethodHandle" ∧ yX2_wouldKeepThen.cls ≠ "java/lang/invoke/VarHandle" ∧ (parseMethodDescriptor yX2_wouldKeepThen.desc).map (fun d => d.parameters.length) = some 5 := by decide +kernel
set_option maxRecDepth 100000 in
set_option maxHeartbeats 4000000 in
theorem kb_X2_wouldKeepThen_21 {E : En} {p : Program} {l : Launch} {e : Env} {s : State} {m : MethodId} {args : Array Value} {below : List Frame} {meth : Method} {c : Code} {A : Nat → Prop} {t_o : Nat} {t_q : Nat → Nat} {t_path : (Nat → Option Nat)} {t_row : (Nat → Int32)} {t_leastRow : (Nat → Int32)} {t_needed : (Nat → Int32)} {t_likeSizes : (Nat → Int32)} {t_ways : Value} {t_nextWays : Value} {t_least : Int32} {t_ended : Int32} {t_monthsKept : Int32} {p1_o : Nat} {p1_q : Nat → Nat} {p1_men : Int32} {p1_consuls : Int32} {p1_dangers : Int32} {p1_decrees : Int32} {p1_term : Int32} {p1_termTold : Int32} {p1_manNames : (Nat → Int64)} {p1_kinds : (Nat → Int32)} {p1_skills : (Nat → Int32)} {p1_fields : (Nat → Int32)} {p1_wants : (Nat → Int32)} {p1_hated : (Nat → Int32)} {p1_dangerNames : (Nat → Int64)} {p1_sizes : (Nat → Int32)} {p1_grows : (Nat → Int32)} {p1_decreeNames : (Nat → Int64)} {p1_grounds : (Nat → Int32)} {p1slaws_o : Nat} {p1slaws_q : Nat → Nat} {p1slaws_ops : (Nat → Int32)} {p1slaws_size : Int32} {p1slaws_worksFrom : Int32} {p1slaws_worksTo : Int32} {p1slaws_keepsFrom : Int32} {p1slaws_keepsTo : Int32} {p2_o : Nat} {p2_q : Nat → Nat} {p2_month : Int32} {p2_power : Int32} {p2_master : Int32} {p2_left : Int32} {p2_kept : Int32} {p2_passed : Int32} {p2_sizes : (Nat → Int32)} {p2_fields : (Nat → Int32)} {p2_liked : (Nat → Int32)} {out : Int32 × (Nat → Int32)} (X : Bx E A p s m args meth c cX2_wouldKeepThen 7 RX2 (some .boolean)) {p1slaws_stack : (Nat → Int32)} {x3 : Int32} {x4 : Int32} {x5 : Int32} {s0 : Int32} {H : Heap} {locs : List Loc} {ls : Array Slot} (hf : f_X2_wouldKeepThen_21 p1_dangers p1_skills p1_wants p1_grows p1slaws_ops p1slaws_stack p1slaws_worksFrom p1slaws_worksTo p1slaws_keepsFrom p1slaws_keepsTo p2_sizes p2_liked x3 x4 x5 s0 = some out) : Wd E A s.heap (wX2 E t_o t_q t_path t_row t_leastRow t_needed t_likeSizes t_ways t_nextWays t_least t_ended t_monthsKept ++ (wX1 E p1_o p1_q p1_men p1_consuls p1_dangers p1_decrees p1_term p1_termTold p1_manNames p1_kinds p1_skills p1_fields p1_wants p1_hated p1_dangerNames p1_sizes p1_grows p1_decreeNames p1_grounds (.ref p1slaws_o) ++ (wX3 E p1slaws_o p1slaws_q p1slaws_ops p1slaws_stack p1slaws_size p1slaws_worksFrom p1slaws_worksTo p1slaws_keepsFrom p1slaws_keepsTo ++ (wX9 E p2_o p2_q p2_month p2_power p2_master p2_left p2_kept p2_passed p2_sizes p2_fields p2_liked)))) H locs → lv_has ls 7 [(1, .ref p1_o), (2, .ref p2_o), (3, .int (x3)), (4, .int (x4)), (5, .int (x5))] → W p l e rm_X2_wouldKeepThen s m args below meth c H locs 0 0 (Zn E below args s A (some (.int out.1)) (wX2 E t_o t_q t_path t_row t_leastRow t_needed t_likeSizes t_ways t_nextWays t_least t_ended t_monthsKept ++ (wX1 E p1_o p1_q p1_men p1_consuls p1_dangers p1_decrees p1_term p1_termTold p1_manNames p1_kinds p1_skills p1_fields p1_wants p1_hated p1_dangerNames p1_sizes p1_grows p1_decreeNames p1_grounds (.ref p1slaws_o) ++ (wX3 E p1slaws_o p1slaws_q p1slaws_ops out.2 p1slaws_size p1slaws_worksFrom p1slaws_worksTo p1slaws_keepsFrom p1slaws_keepsTo ++ (wX9 E p2_o p2_q p2_month p2_power p2_master p2_left p2_kept p2_passed p2_sizes p2_fields p2_liked))))) (F0 m 21 ls [.int (s0)]) := by
  have hx := X.1.1
  have hb := X.1.2.1
  have ho := X.1.2.2.2.1
  have hts := X.1.2.2.2.2
  intro hw hl
  unfold f_X2_wouldKeepThen_21 at hf
  refine lv_istore (lv' := [(6, .int (s0)), (1, .ref p1_o), (2, .ref p2_o), (3, .int (x3)), (4, .int (x4)), (5, .int (x5))]) hx hb dX2_wouldKeepThen_21 hl (by decide) rfl (fun ls hl => ?_)
  refine lv_aload_n hx hb dX2_wouldKeepThen_23 rfl (lv_at hl 1 rfl) ?_
  refine lv_iload_n hx hb dX2_wouldKeepThen_24 rfl (lv_at hl 3 rfl) ?_
  refine lv_aload_n hx hb dX2_wouldKeepThen_25 rfl (lv_at hl 2 rfl) ?_
  refine lv_iload_n hx hb dX2_wouldKeepThen_26 rfl (lv_at hl 3 rfl) ?_
  refine lv_iload hx hb dX2_wouldKeepThen_27 (lv_at hl 0 rfl) ?_
  refine k_V (As := [.int (x3), .int (s0)]) (rest := [.int (x3), .ref p1_o]) (index := 67) (C := RX9) X (c_X9_likedWith (out := (f_X9_likedWith p2_liked (x3) (s0))) rfl) tw_1090 tw_989 tw_990 tw_123 tw_991 ⟨rfl, rfl⟩ hd_X9_likedWith ⟨Nat.le_of_ble_eq_true rfl, Nat.le_of_ble_eq_true rfl⟩ ⟨Nat.zero_le _, Nat.zero_le _⟩ hw [21, 22, 23, 24] rfl rfl 21 rfl rfl rfl rfl hl.1 rfl (Nat.le_of_ble_eq_true rfl) dX2_wouldKeepThen_29 (fun H locs hw => ?_)
  have hw : Wd E A s.heap (wX2 E t_o t_q t_path t_row t_leastRow t_needed t_likeSizes t_ways t_nextWays t_least t_ended t_monthsKept ++ (wX1 E p1_o p1_q p1_men p1_consuls p1_dangers p1_decrees p1_term p1_termTold p1_manNames p1_kinds p1_skills p1_fields p1_wants p1_hated p1_dangerNames p1_sizes p1_grows p1_decreeNames p1_grounds (.ref p1slaws_o) ++ (wX3 E p1slaws_o p1slaws_q p1slaws_ops p1slaws_stack p1slaws_size p1slaws_worksFrom p1slaws_worksTo p1slaws_keepsFrom p1slaws_keepsTo ++ (wX9 E p2_o p2_q p2_month p2_power p2_master p2_left p2_kept p2_passed p2_sizes p2_fields p2_liked)))) H locs := hw
  refine lv_aload_n hx hb dX2_wouldKeepThen_32 rfl (lv_at hl 2 rfl) ?_
  refine lv_aload_n hx hb dX2_wouldKeepThen_33 rfl (lv_at hl 1 rfl) ?_
  refine lv_iload hx hb dX2_wouldKeepThen_34 (lv_at hl 4 rfl) ?_
  refine lv_iload hx hb dX2_wouldKeepThen_36 (lv_at hl 5 rfl) ?_
  obtain ⟨r38, hc_38, hf⟩ := bd_some hf
  refine k_V (As := [.ref p1_o, .int (x4), .int (x5)]) (rest := [.int ((f_X9_likedWith p2_liked (x3) (s0))), .int (x3), .ref p1_o]) (index := 70) (C := RX9) X (c_X9_togetherGrown hc_38) tw_1091 tw_1092 tw_1093 tw_123 tw_1094 ⟨rfl, rfl⟩ hd_X9_togetherGrown ⟨Nat.le_of_ble_eq_true rfl, Nat.le_of_ble_eq_true rfl⟩ ⟨Nat.zero_le _, Nat.zero_le _⟩ hw [21, 22, 23, 24, 6, 7, 8, 9, 10, 11, 12, 13, 14, 15, 16, 17] rfl rfl 21 rfl rfl rfl rfl hl.1 rfl (Nat.le_of_ble_eq_true rfl) dX2_wouldKeepThen_38 (fun H locs hw => ?_)
  have hw : Wd E A s.heap (wX2 E t_o t_q t_path t_row t_leastRow t_needed t_likeSizes t_ways t_nextWays t_least t_ended t_monthsKept ++ (wX1 E p1_o p1_q p1_men p1_consuls p1_dangers p1_decrees p1_term p1_termTold p1_manNames p1_kinds p1_skills p1_fields p1_wants p1_hated p1_dangerNames p1_sizes p1_grows p1_decreeNames p1_grounds (.ref p1slaws_o) ++ (wX3 E p1slaws_o p1slaws_q p1slaws_ops p1slaws_stack p1slaws_size p1slaws_worksFrom p1slaws_worksTo p1slaws_keepsFrom p1slaws_keepsTo ++ (wX9 E p2_o p2_q p2_month p2_power p2_master p2_left p2_kept p2_passed p2_sizes p2_fields p2_liked)))) H locs := hw
  obtain ⟨r41, hc_41, hf⟩ := bd_some hf
  refine k_V (As := [.int (x3), .int ((f_X9_likedWith p2_liked (x3) (s0))), .int (r38)]) (rest := []) (index := 74) (C := RX1) X (c_X1_wouldKeep hc_41) tw_1095 tw_1008 tw_1009 tw_126 tw_1010 ⟨rfl, rfl⟩ hd_X1_wouldKeep ⟨Nat.le_of_ble_eq_true rfl, Nat.le_of_ble_eq_true rfl⟩ ⟨Nat.zero_le _, Nat.zero_le _⟩ hw [6, 7, 8, 9, 10, 11, 12, 13, 14, 15, 16, 17, 18, 19, 20] rfl rfl 6 rfl rfl rfl rfl hl.1 rfl (Nat.le_of_ble_eq_true rfl) dX2_wouldKeepThen_41 (fun H locs hw => ?_)
  have hw : Wd E A s.heap (wX2 E t_o t_q t_path t_row t_leastRow t_needed t_likeSizes t_ways t_nextWays t_least t_ended t_monthsKept ++ (wX1 E p1_o p1_q p1_men p1_consuls p1_dangers p1_decrees p1_term p1_termTold p1_manNames p1_kinds p1_skills p1_fields p1_wants p1_hated p1_dangerNames p1_sizes p1_grows p1_decreeNames p1_grounds (.ref p1slaws_o) ++ (wX3 E p1slaws_o p1slaws_q p1slaws_ops r41.2 p1slaws_size p1slaws_worksFrom p1slaws_worksTo p1slaws_keepsFrom p1slaws_keepsTo ++ (wX9 E p2_o p2_q p2_month p2_power p2_master p2_left p2_kept p2_passed p2_sizes p2_fields p2_liked)))) H locs := hw
  obtain ⟨hz_44, hf⟩ := zg_some hf
  obtain rfl := Option.some.inj hf
  exact k_zret X hz_44 hw dX2_wouldKeepThen_44
set_option maxRecDepth 100000 in
set_option maxHeartbeats 4000000 in
theorem c_X2_wouldKeepThen {E : En} {l : Launch} {t_o : Nat} {t_q : Nat → Nat} {t_path : (Nat → Option Nat)} {t_row : (Nat → Int32)} {t_leastRow : (Nat → Int32)} {t_needed : (Nat → Int32)} {t_likeSizes : (Nat → Int32)} {t_ways : Value} {t_nextWays : Value} {t_least : Int32} {t_ended : Int32} {t_monthsKept : Int32} {p1_o : Nat} {p1_q : Nat → Nat} {p1_men : Int32} {p1_consuls : Int32} {p1_dangers : Int32} {p1_decrees : Int32} {p1_term : Int32} {p1_termTold : Int32} {p1_manNames : (Nat → Int64)} {p1_kinds : (Nat → Int32)} {p1_skills : (Nat → Int32)} {p1_fields : (Nat → Int32)} {p1_wants : (Nat → Int32)} {p1_hated : (Nat → Int32)} {p1_dangerNames : (Nat → Int64)} {p1_sizes : (Nat → Int32)} {p1_grows : (Nat → Int32)} {p1_decreeNames : (Nat → Int64)} {p1_grounds : (Nat → Int32)} {p1slaws_o : Nat} {p1slaws_q : Nat → Nat} {p1slaws_ops : (Nat → Int32)} {p1slaws_stack : (Nat → Int32)} {p1slaws_size : Int32} {p1slaws_worksFrom : Int32} {p1slaws_worksTo : Int32} {p1slaws_keepsFrom : Int32} {p1slaws_keepsTo : Int32} {p2_o : Nat} {p2_q : Nat → Nat} {p2_month : Int32} {p2_power : Int32} {p2_master : Int32} {p2_left : Int32} {p2_kept : Int32} {p2_passed : Int32} {p2_sizes : (Nat → Int32)} {p2_fields : (Nat → Int32)} {p2_liked : (Nat → Int32)} {x3 : Int32} {x4 : Int32} {x5 : Int32} {out : Int32 × (Nat → Int32)} (hf : f_X2_wouldKeepThen p1_dangers p1_kinds p1_skills p1_wants p1_grows p1slaws_ops p1slaws_stack p1slaws_worksFrom p1slaws_worksTo p1slaws_keepsFrom p1slaws_keepsTo p2_sizes p2_liked x3 x4 x5 = some out) : Cn E l yX2_wouldKeepThen cX2_wouldKeepThen 7 (some .boolean) rm_X2_wouldKeepThen [.ref t_o, .ref p1_o, .ref p2_o, .int (x3), .int (x4), .int (x5)] (wX2 E t_o t_q t_path t_row t_leastRow t_needed t_likeSizes t_ways t_nextWays t_least t_ended t_monthsKept ++ (wX1 E p1_o p1_q p1_men p1_consuls p1_dangers p1_decrees p1_term p1_termTold p1_manNames p1_kinds p1_skills p1_fields p1_wants p1_hated p1_dangerNames p1_sizes p1_grows p1_decreeNames p1_grounds (.ref p1slaws_o) ++ (wX3 E p1slaws_o p1slaws_q p1slaws_ops p1slaws_stack p1slaws_size p1slaws_worksFrom p1slaws_worksTo p1slaws_keepsFrom p1slaws_keepsTo ++ (wX9 E p2_o p2_q p2_month p2_power p2_master p2_left p2_kept p2_passed p2_sizes p2_fields p2_liked)))) (some (.int out.1)) (wX2 E t_o t_q t_path t_row t_leastRow t_needed t_likeSizes t_ways t_nextWays t_least t_ended t_monthsKept ++ (wX1 E p1_o p1_q p1_men p1_consuls p1_dangers p1_decrees p1_term p1_termTold p1_manNames p1_kinds p1_skills p1_fields p1_wants p1_hated p1_dangerNames p1_sizes p1_grows p1_decreeNames p1_grounds (.ref p1slaws_o) ++ (wX3 E p1slaws_o p1slaws_q p1slaws_ops out.2 p1slaws_size p1slaws_worksFrom p1slaws_worksTo p1slaws_keepsFrom p1slaws_keepsTo ++ (wX9 E p2_o p2_q p2_month p2_power p2_master p2_left p2_kept p2_passed p2_sizes p2_fields p2_liked)))) := by
  refine Cn.of (by decide) (Nat.le_of_ble_eq_true rfl) rfl ?_
  intro p e s m below meth c A ls args H locs X hw hl
  have hx := X.1.1
  have hb := X.1.2.1
  have ho := X.1.2.2.2.1
  have hts := X.1.2.2.2.2
  have hl : lv_has ls 7 [(0, .ref t_o), (1, .ref p1_o), (2, .ref p2_o), (3, .int (x3)), (4, .int (x4)), (5, .int (x5))] := hl
  unfold f_X2_wouldKeepThen at hf
  refine lv_aload_n hx hb dX2_wouldKeepThen_0 rfl (lv_at hl 2 rfl) ?_
  refine k_getN (q0 := 21) (ci := 8) (C := RX9) (T := TX9) (N := 9) (host := "PloughCall") (x := .ref (p2_q 6)) X inx_9 hw rfl rfl 6 (by decide) rfl nw_16 rfl dX2_wouldKeepThen_1 ?_
  refine lv_iload hx hb dX2_wouldKeepThen_4 (lv_at hl 4 rfl) ?_
  refine k_SN (As := [.ref (p2_q 6), .int (x4)]) (rest := []) (host := "PloughCall") (index := 51) X (ct_X12_at (out := (ga (5) p2_sizes (x4))) rfl) nw_91 tw_119 tw_591 tw_592 ⟨rfl, rfl⟩ hd_X12_at.2 ⟨Nat.le_of_ble_eq_true rfl, Nat.le_of_ble_eq_true rfl⟩ ⟨Nat.zero_le _, Nat.zero_le _⟩ hw [22] rfl rfl rfl hl.1 rfl (Nat.le_of_ble_eq_true rfl) dX2_wouldKeepThen_6 (fun H locs hw => ?_)
  have hw : Wd E A s.heap (wX2 E t_o t_q t_path t_row t_leastRow t_needed t_likeSizes t_ways t_nextWays t_least t_ended t_monthsKept ++ (wX1 E p1_o p1_q p1_men p1_consuls p1_dangers p1_decrees p1_term p1_termTold p1_manNames p1_kinds p1_skills p1_fields p1_wants p1_hated p1_dangerNames p1_sizes p1_grows p1_decreeNames p1_grounds (.ref p1slaws_o) ++ (wX3 E p1slaws_o p1slaws_q p1slaws_ops p1slaws_stack p1slaws_size p1slaws_worksFrom p1slaws_worksTo p1slaws_keepsFrom p1slaws_keepsTo ++ (wX9 E p2_o p2_q p2_month p2_power p2_master p2_left p2_kept p2_passed p2_sizes p2_fields p2_liked)))) H locs := hw
  refine lv_if_ne (tgt := 16) hx hb dX2_wouldKeepThen_9 (by decide) (fun c_9 => ?_) (fun c_9 => ?_)
  · have hf := (if_neg c_9).symm.trans hf
    refine lv_aload_n hx hb dX2_wouldKeepThen_16 rfl (lv_at hl 1 rfl) ?_
    refine lv_iload_n hx hb dX2_wouldKeepThen_17 rfl (lv_at hl 3 rfl) ?_
    refine k_V (As := [.int (x3)]) (rest := []) (index := 63) (C := RX1) X (c_X1_likedForEnding (out := (f_X1_likedForEnding p1_kinds (x3))) rfl) tw_1089 tw_997 tw_998 tw_126 tw_999 ⟨rfl, rfl⟩ hd_X1_likedForEnding ⟨Nat.le_of_ble_eq_true rfl, Nat.le_of_ble_eq_true rfl⟩ ⟨Nat.zero_le _, Nat.zero_le _⟩ hw [6, 7, 8, 9, 10, 11, 12, 13, 14, 15, 16, 17] rfl rfl 6 rfl rfl rfl rfl hl.1 rfl (Nat.le_of_ble_eq_true rfl) dX2_wouldKeepThen_18 (fun H locs hw => ?_)
    have hw : Wd E A s.heap (wX2 E t_o t_q t_path t_row t_leastRow t_needed t_likeSizes t_ways t_nextWays t_least t_ended t_monthsKept ++ (wX1 E p1_o p1_q p1_men p1_consuls p1_dangers p1_decrees p1_term p1_termTold p1_manNames p1_kinds p1_skills p1_fields p1_wants p1_hated p1_dangerNames p1_sizes p1_grows p1_decreeNames p1_grounds (.ref p1slaws_o) ++ (wX3 E p1slaws_o p1slaws_q p1slaws_ops p1slaws_stack p1slaws_size p1slaws_worksFrom p1slaws_worksTo p1slaws_keepsFrom p1slaws_keepsTo ++ (wX9 E p2_o p2_q p2_month p2_power p2_master p2_left p2_kept p2_passed p2_sizes p2_fields p2_liked)))) H locs := hw
    exact kb_X2_wouldKeepThen_21 X hf hw (lv_sub hl [1, 2, 3, 4, 5] rfl)
  · have hf := (if_pos c_9).symm.trans hf
    refine lv_iconst (v := (0 : Int32)) hx hb dX2_wouldKeepThen_12 (by decide) ?_
    refine lv_goto (tgt := 21) hx hb dX2_wouldKeepThen_13 (by decide) ?_
    exact kb_X2_wouldKeepThen_21 X hf hw (lv_sub hl [1, 2, 3, 4, 5] rfl)
/-! void share(PloughCall$City, PloughCall$Standing); -/
def f_X2_share_62 (K13 : (Nat → Int32) → (Nat → Int32) → (Nat → Int32) → Int32 → Int32 → (Nat → Int32) → (Nat → Int32) → (Nat → Int32) → (Nat → Int32) → (Nat → Int32) → Int32 → Int32 → Int32 → Int32 → (Nat → Int32) → Int32 → Int32 → Option ((Nat → Int32) × (Nat → Int32) × (Nat → Int32) × Int32 × (Nat → Int32))) (t_row : (Nat → Int32)) (t_leastRow : (Nat → Int32)) (t_needed : (Nat → Int32)) (p1_men : Int32) (p1_dangers : Int32) (p1_kinds : (Nat → Int32)) (p1_skills : (Nat → Int32)) (p1_wants : (Nat → Int32)) (p1slaws_ops : (Nat → Int32)) (p1slaws_stack : (Nat → Int32)) (p1slaws_worksFrom : Int32) (p1slaws_worksTo : Int32) (p1slaws_keepsFrom : Int32) (p1slaws_keepsTo : Int32) (p2_sizes : (Nat → Int32)) (x3 : Int32) (x4 : Int32) (s1 : Int32) (s2 : Int32) : Option ((Nat → Int32) × (Nat → Int32) × (Nat → Int32) × Int32 × (Nat → Int32)) := K13 t_row t_leastRow ((gp (30) t_needed (s1) (s2))) p1_men p1_dangers p1_kinds p1_skills p1_wants p1slaws_ops p1slaws_stack p1slaws_worksFrom p1slaws_worksTo p1slaws_keepsFrom p1slaws_keepsTo p2_sizes x3 ((x4 + (1 : Int32)))
def f_X2_share_13 (K2 : (Nat → Int32) → (Nat → Int32) → (Nat → Int32) → Int32 → Int32 → (Nat → Int32) → (Nat → Int32) → (Nat → Int32) → (Nat → Int32) → (Nat → Int32) → Int32 → Int32 → Int32 → Int32 → (Nat → Int32) → Int32 → Option ((Nat → Int32) × (Nat → Int32) × (Nat → Int32) × Int32 × (Nat → Int32))) : Nat → (Nat → Int32) → (Nat → Int32) → (Nat → Int32) → Int32 → Int32 → (Nat → Int32) → (Nat → Int32) → (Nat → Int32) → (Nat → Int32) → (Nat → Int32) → Int32 → Int32 → Int32 → Int32 → (Nat → Int32) → Int32 → Int32 → Option ((Nat → Int32) × (Nat → Int32) × (Nat → Int32) × Int32 × (Nat → Int32))
  | 0, _, _, _, _, _, _, _, _, _, _, _, _, _, _, _, _, _ => none
  | n + 1, t_row, t_leastRow, t_needed, p1_men, p1_dangers, p1_kinds, p1_skills, p1_wants, p1slaws_ops, p1slaws_stack, p1slaws_worksFrom, p1slaws_worksTo, p1slaws_keepsFrom, p1slaws_keepsTo, p2_sizes, x3, x4 => if p1_men ≤ x4 then K2 t_row t_leastRow t_needed p1_men p1_dangers p1_kinds p1_skills p1_wants p1slaws_ops p1slaws_stack p1slaws_worksFrom p1slaws_worksTo p1slaws_keepsFrom p1slaws_keepsTo p2_sizes ((x3 + (1 : Int32)))
    else (f_X1_monthsToEnd p1_kinds p1_skills p1_wants p1slaws_ops p1slaws_stack p1slaws_worksFrom p1slaws_worksTo p1slaws_keepsFrom p1slaws_keepsTo (x4) ((ga (5) p2_sizes (x3)))).bind fun r33 => if r33.1 = (-1 : Int32) then f_X2_share_62 (f_X2_share_13 K2 n) t_row t_leastRow t_needed p1_men p1_dangers p1_kinds p1_skills p1_wants p1slaws_ops r33.2 p1slaws_worksFrom p1slaws_worksTo p1slaws_keepsFrom p1slaws_keepsTo p2_sizes x3 x4 (((x3 * (6 : Int32)) + x4)) ((99 : Int32))
    else f_X2_share_62 (f_X2_share_13 K2 n) t_row t_leastRow t_needed p1_men p1_dangers p1_kinds p1_skills p1_wants p1slaws_ops r33.2 p1slaws_worksFrom p1slaws_worksTo p1slaws_keepsFrom p1slaws_keepsTo p2_sizes x3 x4 (((x3 * (6 : Int32)) + x4)) r33.1
def f_X2_share_2 : Nat → (Nat → Int32) → (Nat → Int32) → (Nat → Int32) → Int32 → Int32 → (Nat → Int32) → (Nat → Int32) → (Nat → Int32) → (Nat → Int32) → (Nat → Int32) → Int32 → Int32 → Int32 → Int32 → (Nat → Int32) → Int32 → Option ((Nat → Int32) × (Nat → Int32) × (Nat → Int32) × Int32 × (Nat → Int32))
  | 0, _, _, _, _, _, _, _, _, _, _, _, _, _, _, _, _ => none
  | n + 1, t_row, t_leastRow, t_needed, p1_men, p1_dangers, p1_kinds, p1_skills, p1_wants, p1slaws_ops, p1slaws_stack, p1slaws_worksFrom, p1slaws_worksTo, p1slaws_keepsFrom, p1slaws_keepsTo, p2_sizes, x3 => if p1_dangers ≤ x3 then (f_X2_shareFrom 7 t_row t_leastRow t_needed ((1000000 : Int32)) p1_men p1_dangers p2_sizes ((0 : Int32)) ((0 : Int32)) ((0 : Int32))).bind fun r89 => some (r89.1, r89.2.1, t_needed, r89.2.2, p1slaws_stack)
    else f_X2_share_13 (f_X2_share_2 n) 1100 t_row t_leastRow t_needed p1_men p1_dangers p1_kinds p1_skills p1_wants p1slaws_ops p1slaws_stack p1slaws_worksFrom p1slaws_worksTo p1slaws_keepsFrom p1slaws_keepsTo p2_sizes x3 ((0 : Int32))
def f_X2_share (t_row : (Nat → Int32)) (t_leastRow : (Nat → Int32)) (t_needed : (Nat → Int32)) (p1_men : Int32) (p1_dangers : Int32) (p1_kinds : (Nat → Int32)) (p1_skills : (Nat → Int32)) (p1_wants : (Nat → Int32)) (p1slaws_ops : (Nat → Int32)) (p1slaws_stack : (Nat → Int32)) (p1slaws_worksFrom : Int32) (p1slaws_worksTo : Int32) (p1slaws_keepsFrom : Int32) (p1slaws_keepsTo : Int32) (p2_sizes : (Nat → Int32)) : Option ((Nat → Int32) × (Nat → Int32) × (Nat → Int32) × Int32 × (Nat → Int32)) := f_X2_share_2 1100 t_row t_leastRow t_needed p1_men p1_dangers p1_kinds p1_skills p1_wants p1slaws_ops p1slaws_stack p1slaws_worksFrom p1slaws_worksTo p1slaws_keepsFrom p1slaws_keepsTo p2_sizes ((0 : Int32))
abbrev rm_X2_share : Room := { frames := 10, cells := 0, slots := 0, locals := 259 }
theorem hd_X2_share : yX2_share.cls = RX2 ∧ yX2_share.cls ≠ "java/lang/invoke/MethodHandle" ∧ yX2_share.cls ≠ "java/lang/invoke/VarHandle" ∧ (parseMethodDescriptor yX2_share.desc).map (fun d => d.parameters.length) = some 2 := by decide +kernel
set_option maxRecDepth 100000 in
set_option maxHeartbeats 4000000 in
theorem kb_X2_share_62 {E : En} {p : Program} {l : Launch} {e : Env} {s : State} {m : MethodId} {args : Array Value} {below : List Frame} {meth : Method} {c : Code} {A : Nat → Prop} {t_o : Nat} {t_q : Nat → Nat} {t_path : (Nat → Option Nat)} {t_likeSizes : (Nat → Int32)} {t_ways : Value} {t_nextWays : Value} {t_ended : Int32} {t_monthsKept : Int32} {p1_o : Nat} {p1_q : Nat → Nat} {p1_men : Int32} {p1_consuls : Int32} {p1_dangers : Int32} {p1_decrees : Int32} {p1_term : Int32} {p1_termTold : Int32} {p1_manNames : (Nat → Int64)} {p1_kinds : (Nat → Int32)} {p1_skills : (Nat → Int32)} {p1_fields : (Nat → Int32)} {p1_wants : (Nat → Int32)} {p1_hated : (Nat → Int32)} {p1_dangerNames : (Nat → Int64)} {p1_sizes : (Nat → Int32)} {p1_grows : (Nat → Int32)} {p1_decreeNames : (Nat → Int64)} {p1_grounds : (Nat → Int32)} {p1slaws_o : Nat} {p1slaws_q : Nat → Nat} {p1slaws_ops : (Nat → Int32)} {p1slaws_size : Int32} {p1slaws_worksFrom : Int32} {p1slaws_worksTo : Int32} {p1slaws_keepsFrom : Int32} {p1slaws_keepsTo : Int32} {p2_o : Nat} {p2_q : Nat → Nat} {p2_month : Int32} {p2_power : Int32} {p2_master : Int32} {p2_left : Int32} {p2_kept : Int32} {p2_passed : Int32} {p2_sizes : (Nat → Int32)} {p2_fields : (Nat → Int32)} {p2_liked : (Nat → Int32)} {out : (Nat → Int32) × (Nat → Int32) × (Nat → Int32) × Int32 × (Nat → Int32)} (X : Bx E A p s m args meth c cX2_share 6 RX2 none) {K13 : (Nat → Int32) → (Nat → Int32) → (Nat → Int32) → Int32 → Int32 → (Nat → Int32) → (Nat → Int32) → (Nat → Int32) → (Nat → Int32) → (Nat → Int32) → Int32 → Int32 → Int32 → Int32 → (Nat → Int32) → Int32 → Int32 → Option ((Nat → Int32) × (Nat → Int32) × (Nat → Int32) × Int32 × (Nat → Int32))} (hK13 : ∀ {t_row : (Nat → Int32)} {t_leastRow : (Nat → Int32)} {t_needed : (Nat → Int32)} {t_least : Int32} {p1slaws_stack : (Nat → Int32)} {x3 : Int32} {x4 : Int32} {H : Heap} {locs : List Loc} {ls : Array Slot}, K13 t_row t_leastRow t_needed p1_men p1_dangers p1_kinds p1_skills p1_wants p1slaws_ops p1slaws_stack p1slaws_worksFrom p1slaws_worksTo p1slaws_keepsFrom p1slaws_keepsTo p2_sizes x3 x4 = some out → Wd E A s.heap (wX2 E t_o t_q t_path t_row t_leastRow t_needed t_likeSizes t_ways t_nextWays t_least t_ended t_monthsKept ++ (wX1 E p1_o p1_q p1_men p1_consuls p1_dangers p1_decrees p1_term p1_termTold p1_manNames p1_kinds p1_skills p1_fields p1_wants p1_hated p1_dangerNames p1_sizes p1_grows p1_decreeNames p1_grounds (.ref p1slaws_o) ++ (wX3 E p1slaws_o p1slaws_q p1slaws_ops p1slaws_stack p1slaws_size p1slaws_worksFrom p1slaws_worksTo p1slaws_keepsFrom p1slaws_keepsTo ++ (wX9 E p2_o p2_q p2_month p2_power p2_master p2_left p2_kept p2_passed p2_sizes p2_fields p2_liked)))) H locs → lv_has ls 6 [(0, .ref t_o), (1, .ref p1_o), (2, .ref p2_o), (3, .int (x3)), (4, .int (x4))] → W p l e rm_X2_share s m args below meth c H locs 0 0 (Zn E below args s A none (wX2 E t_o t_q t_path out.1 out.2.1 out.2.2.1 t_likeSizes t_ways t_nextWays out.2.2.2.1 t_ended t_monthsKept ++ (wX1 E p1_o p1_q p1_men p1_consuls p1_dangers p1_decrees p1_term p1_termTold p1_manNames p1_kinds p1_skills p1_fields p1_wants p1_hated p1_dangerNames p1_sizes p1_grows p1_decreeNames p1_grounds (.ref p1slaws_o) ++ (wX3 E p1slaws_o p1slaws_q p1slaws_ops out.2.2.2.2 p1slaws_size p1slaws_worksFrom p1slaws_worksTo p1slaws_keepsFrom p1slaws_keepsTo ++ (wX9 E p2_o p2_q p2_month p2_power p2_master p2_left p2_kept p2_passed p2_sizes p2_fields p2_liked))))) (F0 m 13 ls [])) {t_row : (Nat → Int32)} {t_leastRow : (Nat → Int32)} {t_needed : (Nat → Int32)} {t_least : Int32} {p1slaws_stack : (Nat → Int32)} {x3 : Int32} {x4 : Int32} {s1 : Int32} {s2 : Int32} {H : Heap} {locs : List Loc} {ls : Array Slot} (hf : f_X2_share_62 K13 t_row t_leastRow t_needed p1_men p1_dangers p1_kinds p1_skills p1_wants p1slaws_ops p1slaws_stack p1slaws_worksFrom p1slaws_worksTo p1slaws_keepsFrom p1slaws_keepsTo p2_sizes x3 x4 s1 s2 = some out) : Wd E A s.heap (wX2 E t_o t_q t_path t_row t_leastRow t_needed t_likeSizes t_ways t_nextWays t_least t_ended t_monthsKept ++ (wX1 E p1_o p1_q p1_men p1_consuls p1_dangers p1_decrees p1_term p1_termTold p1_manNames p1_kinds p1_skills p1_fields p1_wants p1_hated p1_dangerNames p1_sizes p1_grows p1_decreeNames p1_grounds (.ref p1slaws_o) ++ (wX3 E p1slaws_o p1slaws_q p1slaws_ops p1slaws_stack p1slaws_size p1slaws_worksFrom p1slaws_worksTo p1slaws_keepsFrom p1slaws_keepsTo ++ (wX9 E p2_o p2_q p2_month p2_power p2_master p2_left p2_kept p2_passed p2_sizes p2_fields p2_liked)))) H locs → lv_has ls 6 [(0, .ref t_o), (1, .ref p1_o), (2, .ref p2_o), (3, .int (x3)), (4, .int (x4))] → W p l e rm_X2_share s m args below meth c H locs 0 0 (Zn E below args s A none (wX2 E t_o t_q t_path out.1 out.2.1 out.2.2.1 t_likeSizes t_ways t_nextWays out.2.2.2.1 t_ended t_monthsKept ++ (wX1 E p1_o p1_q p1_men p1_consuls p1_dangers p1_decrees p1_term p1_termTold p1_manNames p1_kinds p1_skills p1_fields p1_wants p1_hated p1_dangerNames p1_sizes p1_grows p1_decreeNames p1_grounds (.ref p1slaws_o) ++ (wX3 E p1slaws_o p1slaws_q p1slaws_ops out.2.2.2.2 p1slaws_size p1slaws_worksFrom p1slaws_worksTo p1slaws_keepsFrom p1slaws_keepsTo ++ (wX9 E p2_o p2_q p2_month p2_power p2_master p2_left p2_kept p2_passed p2_sizes p2_fields p2_liked))))) (F0 m 62 ls [.int (s2), .int (s1), .ref (t_q 3)]) := by
  have hx := X.1.1
  have hb := X.1.2.1
  have ho := X.1.2.2.2.1
  have hts := X.1.2.2.2.2
  intro hw hl
  unfold f_X2_share_62 at hf
  refine k_SN (As := [.ref (t_q 3), .int (s1), .int (s2)]) (rest := []) (host := "PloughCall") (index := 108) X (ct_X12_put (out := (gp (30) t_needed (s1) (s2))) rfl) nw_93 tw_119 tw_563 tw_564 ⟨rfl, rfl⟩ hd_X12_put.2 ⟨Nat.le_of_ble_eq_true rfl, Nat.le_of_ble_eq_true rfl⟩ ⟨Nat.zero_le _, Nat.zero_le _⟩ hw [4] rfl rfl rfl hl.1 rfl (Nat.le_of_ble_eq_true rfl) dX2_share_62 (fun H locs hw => ?_)
  have hw : Wd E A s.heap (wX2 E t_o t_q t_path t_row t_leastRow ((gp (30) t_needed (s1) (s2))) t_likeSizes t_ways t_nextWays t_least t_ended t_monthsKept ++ (wX1 E p1_o p1_q p1_men p1_consuls p1_dangers p1_decrees p1_term p1_termTold p1_manNames p1_kinds p1_skills p1_fields p1_wants p1_hated p1_dangerNames p1_sizes p1_grows p1_decreeNames p1_grounds (.ref p1slaws_o) ++ (wX3 E p1slaws_o p1slaws_q p1slaws_ops p1slaws_stack p1slaws_size p1slaws_worksFrom p1slaws_worksTo p1slaws_keepsFrom p1slaws_keepsTo ++ (wX9 E p2_o p2_q p2_month p2_power p2_master p2_left p2_kept p2_passed p2_sizes p2_fields p2_liked)))) H locs := hw
  refine lv_iinc (v := (x4 + (1 : Int32))) (lv' := [(4, .int ((x4 + (1 : Int32)))), (0, .ref t_o), (1, .ref p1_o), (2, .ref p2_o), (3, .int (x3))]) hx hb dX2_share_65 hl (k := 4) rfl rfl (by decide) rfl (fun ls hl => ?_)
  refine lv_goto (tgt := 13) hx hb dX2_share_68 (by decide) ?_
  exact hK13 hf hw (lv_sub hl [1, 2, 3, 4, 0] rfl)
set_option maxRecDepth 100000 in
set_option maxHeartbeats 4000000 in
theorem kb_X2_share_13 {E : En} {p : Program} {l : Launch} {e : Env} {s : State} {m : MethodId} {args : Array Value} {below : List Frame} {meth : Method} {c : Code} {A : Nat → Prop} {t_o : Nat} {t_q : Nat → Nat} {t_path : (Nat → Option Nat)} {t_likeSizes : (Nat → Int32)} {t_ways : Value} {t_nextWays : Value} {t_ended : Int32} {t_monthsKept : Int32} {p1_o : Nat} {p1_q : Nat → Nat} {p1_men : Int32} {p1_consuls : Int32} {p1_dangers : Int32} {p1_decrees : Int32} {p1_term : Int32} {p1_termTold : Int32} {p1_manNames : (Nat → Int64)} {p1_kinds : (Nat → Int32)} {p1_skills : (Nat → Int32)} {p1_fields : (Nat → Int32)} {p1_wants : (Nat → Int32)} {p1_hated : (Nat → Int32)} {p1_dangerNames : (Nat → Int64)} {p1_sizes : (Nat → Int32)} {p1_grows : (Nat → Int32)} {p1_decreeNames : (Nat → Int64)} {p1_grounds : (Nat → Int32)} {p1slaws_o : Nat} {p1slaws_q : Nat → Nat} {p1slaws_ops : (Nat → Int32)} {p1slaws_size : Int32} {p1slaws_worksFrom : Int32} {p1slaws_worksTo : Int32} {p1slaws_keepsFrom : Int32} {p1slaws_keepsTo : Int32} {p2_o : Nat} {p2_q : Nat → Nat} {p2_month : Int32} {p2_power : Int32} {p2_master : Int32} {p2_left : Int32} {p2_kept : Int32} {p2_passed : Int32} {p2_sizes : (Nat → Int32)} {p2_fields : (Nat → Int32)} {p2_liked : (Nat → Int32)} {out : (Nat → Int32) × (Nat → Int32) × (Nat → Int32) × Int32 × (Nat → Int32)} (X : Bx E A p s m args meth c cX2_share 6 RX2 none) {K2 : (Nat → Int32) → (Nat → Int32) → (Nat → Int32) → Int32 → Int32 → (Nat → Int32) → (Nat → Int32) → (Nat → Int32) → (Nat → Int32) → (Nat → Int32) → Int32 → Int32 → Int32 → Int32 → (Nat → Int32) → Int32 → Option ((Nat → Int32) × (Nat → Int32) × (Nat → Int32) × Int32 × (Nat → Int32))} (hK2 : ∀ {t_row : (Nat → Int32)} {t_leastRow : (Nat → Int32)} {t_needed : (Nat → Int32)} {t_least : Int32} {p1slaws_stack : (Nat → Int32)} {x3 : Int32} {H : Heap} {locs : List Loc} {ls : Array Slot}, K2 t_row t_leastRow t_needed p1_men p1_dangers p1_kinds p1_skills p1_wants p1slaws_ops p1slaws_stack p1slaws_worksFrom p1slaws_worksTo p1slaws_keepsFrom p1slaws_keepsTo p2_sizes x3 = some out → Wd E A s.heap (wX2 E t_o t_q t_path t_row t_leastRow t_needed t_likeSizes t_ways t_nextWays t_least t_ended t_monthsKept ++ (wX1 E p1_o p1_q p1_men p1_consuls p1_dangers p1_decrees p1_term p1_termTold p1_manNames p1_kinds p1_skills p1_fields p1_wants p1_hated p1_dangerNames p1_sizes p1_grows p1_decreeNames p1_grounds (.ref p1slaws_o) ++ (wX3 E p1slaws_o p1slaws_q p1slaws_ops p1slaws_stack p1slaws_size p1slaws_worksFrom p1slaws_worksTo p1slaws_keepsFrom p1slaws_keepsTo ++ (wX9 E p2_o p2_q p2_month p2_power p2_master p2_left p2_kept p2_passed p2_sizes p2_fields p2_liked)))) H locs → lv_has ls 6 [(0, .ref t_o), (1, .ref p1_o), (2, .ref p2_o), (3, .int (x3))] → W p l e rm_X2_share s m args below meth c H locs 0 0 (Zn E below args s A none (wX2 E t_o t_q t_path out.1 out.2.1 out.2.2.1 t_likeSizes t_ways t_nextWays out.2.2.2.1 t_ended t_monthsKept ++ (wX1 E p1_o p1_q p1_men p1_consuls p1_dangers p1_decrees p1_term p1_termTold p1_manNames p1_kinds p1_skills p1_fields p1_wants p1_hated p1_dangerNames p1_sizes p1_grows p1_decreeNames p1_grounds (.ref p1slaws_o) ++ (wX3 E p1slaws_o p1slaws_q p1slaws_ops out.2.2.2.2 p1slaws_size p1slaws_worksFrom p1slaws_worksTo p1slaws_keepsFrom p1slaws_keepsTo ++ (wX9 E p2_o p2_q p2_month p2_power p2_master p2_left p2_kept p2_passed p2_sizes p2_fields p2_liked))))) (F0 m 2 ls [])) : ∀ (n : Nat) {t_row : (Nat → Int32)} {t_leastRow : (Nat → Int32)} {t_needed : (Nat → Int32)} {t_least : Int32} {p1slaws_stack : (Nat → Int32)} {x3 : Int32} {x4 : Int32} {H : Heap} {locs : List Loc} {ls : Array Slot}, f_X2_share_13 K2 n t_row t_leastRow t_needed p1_men p1_dangers p1_kinds p1_skills p1_wants p1slaws_ops p1slaws_stack p1slaws_worksFrom p1slaws_worksTo p1slaws_keepsFrom p1slaws_keepsTo p2_sizes x3 x4 = some out → Wd E A s.heap (wX2 E t_o t_q t_path t_row t_leastRow t_needed t_likeSizes t_ways t_nextWays t_least t_ended t_monthsKept ++ (wX1 E p1_o p1_q p1_men p1_consuls p1_dangers p1_decrees p1_term p1_termTold p1_manNames p1_kinds p1_skills p1_fields p1_wants p1_hated p1_dangerNames p1_sizes p1_grows p1_decreeNames p1_grounds (.ref p1slaws_o) ++ (wX3 E p1slaws_o p1slaws_q p1slaws_ops p1slaws_stack p1slaws_size p1slaws_worksFrom p1slaws_worksTo p1slaws_keepsFrom p1slaws_keepsTo ++ (wX9 E p2_o p2_q p2_month p2_power p2_master p2_left p2_kept p2_passed p2_sizes p2_fields p2_liked)))) H locs → lv_has ls 6 [(0, .ref t_o), (1, .ref p1_o), (2, .ref p2_o), (3, .int (x3)), (4, .int (x4))] → W p l e rm_X2_share s m args below meth c H locs 0 0 (Zn E below args s A none (wX2 E t_o t_q t_path out.1 out.2.1 out.2.2.1 t_likeSizes t_ways t_nextWays out.2.2.2.1 t_ended t_monthsKept ++ (wX1 E p1_o p1_q p1_men p1_consuls p1_dangers p1_decrees p1_term p1_termTold p1_manNames p1_kinds p1_skills p1_fields p1_wants p1_hated p1_dangerNames p1_sizes p1_grows p1_decreeNames p1_grounds (.ref p1slaws_o) ++ (wX3 E p1slaws_o p1slaws_q p1slaws_ops out.2.2.2.2 p1slaws_size p1slaws_worksFrom p1slaws_worksTo p1slaws_keepsFrom p1slaws_keepsTo ++ (wX9 E p2_o p2_q p2_month p2_power p2_master p2_left p2_kept p2_passed p2_sizes p2_fields p2_liked))))) (F0 m 13 ls []) := by
  have hx := X.1.1
  have hb := X.1.2.1
  have ho := X.1.2.2.2.1
  have hts := X.1.2.2.2.2
  intro n
  induction n with
  | zero =>
    intro t_row t_leastRow t_needed t_least p1slaws_stack x3 x4 H locs ls hf
    have hf : (none : Option ((Nat → Int32) × (Nat → Int32) × (Nat → Int32) × Int32 × (Nat → Int32))) = some out := hf
    cases hf
  | succ n ih =>
    intro t_row t_leastRow t_needed t_least p1slaws_stack x3 x4 H locs ls hf hw hl
    rw [f_X2_share_13.eq_2] at hf
    refine lv_iload hx hb dX2_share_13 (lv_at hl 4 rfl) ?_
    refine lv_aload_n hx hb dX2_share_15 rfl (lv_at hl 1 rfl) ?_
    refine k_getN (q0 := 6) (ci := 0) (C := RX1) (T := TX1) (N := 18) (host := "PloughCall") (x := .int (p1_men)) X inx_1 hw rfl rfl 0 (by decide) rfl nw_32 rfl dX2_share_16 ?_
    refine lv_icmp_ge (tgt := 71) hx hb dX2_share_19 (by decide) (fun c_19 => ?_) (fun c_19 => ?_)
    · have hf := (if_pos c_19).symm.trans hf
      refine lv_iinc (v := (x3 + (1 : Int32))) (lv' := [(3, .int ((x3 + (1 : Int32)))), (0, .ref t_o), (1, .ref p1_o), (2, .ref p2_o), (4, .int (x4))]) hx hb dX2_share_71 hl (k := 3) rfl rfl (by decide) rfl (fun ls hl => ?_)
      refine lv_goto (tgt := 2) hx hb dX2_share_74 (by decide) ?_
      exact hK2 hf hw (lv_sub hl [1, 2, 3, 0] rfl)
    · have hf := (if_neg c_19).symm.trans hf
      refine lv_aload_n hx hb dX2_share_22 rfl (lv_at hl 1 rfl) ?_
      refine lv_iload hx hb dX2_share_23 (lv_at hl 4 rfl) ?_
      refine lv_aload_n hx hb dX2_share_25 rfl (lv_at hl 2 rfl) ?_
      refine k_getN (q0 := 21) (ci := 8) (C := RX9) (T := TX9) (N := 9) (host := "PloughCall") (x := .ref (p2_q 6)) X inx_9 hw rfl rfl 6 (by decide) rfl nw_16 rfl dX2_share_26 ?_
      refine lv_iload_n hx hb dX2_share_29 rfl (lv_at hl 3 rfl) ?_
      refine k_SN (As := [.ref (p2_q 6), .int (x3)]) (rest := [.int (x4), .ref p1_o]) (host := "PloughCall") (index := 51) X (ct_X12_at (out := (ga (5) p2_sizes (x3))) rfl) nw_91 tw_119 tw_591 tw_592 ⟨rfl, rfl⟩ hd_X12_at.2 ⟨Nat.le_of_ble_eq_true rfl, Nat.le_of_ble_eq_true rfl⟩ ⟨Nat.zero_le _, Nat.zero_le _⟩ hw [22] rfl rfl rfl hl.1 rfl (Nat.le_of_ble_eq_true rfl) dX2_share_30 (fun H locs hw => ?_)
      have hw : Wd E A s.heap (wX2 E t_o t_q t_path t_row t_leastRow t_needed t_likeSizes t_ways t_nextWays t_least t_ended t_monthsKept ++ (wX1 E p1_o p1_q p1_men p1_consuls p1_dangers p1_decrees p1_term p1_termTold p1_manNames p1_kinds p1_skills p1_fields p1_wants p1_hated p1_dangerNames p1_sizes p1_grows p1_decreeNames p1_grounds (.ref p1slaws_o) ++ (wX3 E p1slaws_o p1slaws_q p1slaws_ops p1slaws_stack p1slaws_size p1slaws_worksFrom p1slaws_worksTo p1slaws_keepsFrom p1slaws_keepsTo ++ (wX9 E p2_o p2_q p2_month p2_power p2_master p2_left p2_kept p2_passed p2_sizes p2_fields p2_liked)))) H locs := hw
      obtain ⟨r33, hc_33, hf⟩ := bd_some hf
      refine k_V (As := [.int (x4), .int ((ga (5) p2_sizes (x3)))]) (rest := []) (index := 55) (C := RX1) X (c_X1_monthsToEnd hc_33) tw_1084 tw_1066 tw_1067 tw_126 tw_1068 ⟨rfl, rfl⟩ hd_X1_monthsToEnd ⟨Nat.le_of_ble_eq_true rfl, Nat.le_of_ble_eq_true rfl⟩ ⟨Nat.zero_le _, Nat.zero_le _⟩ hw [6, 7, 8, 9, 10, 11, 12, 13, 14, 15, 16, 17, 18, 19, 20] rfl rfl 6 rfl rfl rfl rfl hl.1 rfl (Nat.le_of_ble_eq_true rfl) dX2_share_33 (fun H locs hw => ?_)
      have hw : Wd E A s.heap (wX2 E t_o t_q t_path t_row t_leastRow t_needed t_likeSizes t_ways t_nextWays t_least t_ended t_monthsKept ++ (wX1 E p1_o p1_q p1_men p1_consuls p1_dangers p1_decrees p1_term p1_termTold p1_manNames p1_kinds p1_skills p1_fields p1_wants p1_hated p1_dangerNames p1_sizes p1_grows p1_decreeNames p1_grounds (.ref p1slaws_o) ++ (wX3 E p1slaws_o p1slaws_q p1slaws_ops r33.2 p1slaws_size p1slaws_worksFrom p1slaws_worksTo p1slaws_keepsFrom p1slaws_keepsTo ++ (wX9 E p2_o p2_q p2_month p2_power p2_master p2_left p2_kept p2_passed p2_sizes p2_fields p2_liked)))) H locs := hw
      refine lv_istore (lv' := [(5, .int (r33.1)), (0, .ref t_o), (1, .ref p1_o), (2, .ref p2_o), (3, .int (x3)), (4, .int (x4))]) hx hb dX2_share_36 hl (by decide) rfl (fun ls hl => ?_)
      refine lv_aload_n hx hb dX2_share_38 rfl (lv_at hl 1 rfl) ?_
      refine k_get (q0 := 0) (ci := 1) (C := RX2) (T := TX2) (N := 10) (x := .ref (t_q 3)) X inx_2 hw rfl rfl 3 (by decide) rfl tw_263 rfl dX2_share_39 ?_
      refine lv_iload_n hx hb dX2_share_42 rfl (lv_at hl 4 rfl) ?_
      refine lv_bipush (v := (6 : Int32)) hx hb dX2_share_43 (by decide) ?_
      refine lv_imul hx hb dX2_share_45 ?_
      refine lv_iload hx hb dX2_share_46 (lv_at hl 5 rfl) ?_
      refine lv_iadd hx hb dX2_share_48 ?_
      refine lv_iload hx hb dX2_share_49 (lv_at hl 0 rfl) ?_
      refine lv_iconst (v := (-1 : Int32)) hx hb dX2_share_51 (by decide) ?_
      refine lv_icmp_ne (tgt := 60) hx hb dX2_share_52 (by decide) (fun c_52 => ?_) (fun c_52 => ?_)
      · have hf := (if_neg c_52).symm.trans hf
        refine lv_iload hx hb dX2_share_60 (lv_at hl 0 rfl) ?_
        exact kb_X2_share_62 X (fun hf hw hl => ih hf hw hl) hf hw (lv_sub hl [1, 2, 3, 4, 5] rfl)
      · have hf := (if_pos c_52).symm.trans hf
        refine lv_bipush (v := (99 : Int32)) hx hb dX2_share_55 (by decide) ?_
        refine lv_goto (tgt := 62) hx hb dX2_share_57 (by decide) ?_
        exact kb_X2_share_62 X (fun hf hw hl => ih hf hw hl) hf hw (lv_sub hl [1, 2, 3, 4, 5] rfl)
set_option maxRecDepth 100000 in
set_option maxHeartbeats 4000000 in
theorem kb_X2_share_2 {E : En} {p : Program} {l : Launch} {e : Env} {s : State} {m : MethodId} {args : Array Value} {below : List Frame} {meth : Method} {c : Code} {A : Nat → Prop} {t_o : Nat} {t_q : Nat → Nat} {t_path : (Nat → Option Nat)} {t_likeSizes : (Nat → Int32)} {t_ways : Value} {t_nextWays : Value} {t_ended : Int32} {t_monthsKept : Int32} {p1_o : Nat} {p1_q : Nat → Nat} {p1_men : Int32} {p1_consuls : Int32} {p1_dangers : Int32} {p1_decrees : Int32} {p1_term : Int32} {p1_termTold : Int32} {p1_manNames : (Nat → Int64)} {p1_kinds : (Nat → Int32)} {p1_skills : (Nat → Int32)} {p1_fields : (Nat → Int32)} {p1_wants : (Nat → Int32)} {p1_hated : (Nat → Int32)} {p1_dangerNames : (Nat → Int64)} {p1_sizes : (Nat → Int32)} {p1_grows : (Nat → Int32)} {p1_decreeNames : (Nat → Int64)} {p1_grounds : (Nat → Int32)} {p1slaws_o : Nat} {p1slaws_q : Nat → Nat} {p1slaws_ops : (Nat → Int32)} {p1slaws_size : Int32} {p1slaws_worksFrom : Int32} {p1slaws_worksTo : Int32} {p1slaws_keepsFrom : Int32} {p1slaws_keepsTo : Int32} {p2_o : Nat} {p2_q : Nat → Nat} {p2_month : Int32} {p2_power : Int32} {p2_master : Int32} {p2_left : Int32} {p2_kept : Int32} {p2_passed : Int32} {p2_sizes : (Nat → Int32)} {p2_fields : (Nat → Int32)} {p2_liked : (Nat → Int32)} {out : (Nat → Int32) × (Nat → Int32) × (Nat → Int32) × Int32 × (Nat → Int32)} (X : Bx E A p s m args meth c cX2_share 6 RX2 none) : ∀ (n : Nat) {t_row : (Nat → Int32)} {t_leastRow : (Nat → Int32)} {t_needed : (Nat → Int32)} {t_least : Int32} {p1slaws_stack : (Nat → Int32)} {x3 : Int32} {H : Heap} {locs : List Loc} {ls : Array Slot}, f_X2_share_2 n t_row t_leastRow t_needed p1_men p1_dangers p1_kinds p1_skills p1_wants p1slaws_ops p1slaws_stack p1slaws_worksFrom p1slaws_worksTo p1slaws_keepsFrom p1slaws_keepsTo p2_sizes x3 = some out → Wd E A s.heap (wX2 E t_o t_q t_path t_row t_leastRow t_needed t_likeSizes t_ways t_nextWays t_least t_ended t_monthsKept ++ (wX1 E p1_o p1_q p1_men p1_consuls p1_dangers p1_decrees p1_term p1_termTold p1_manNames p1_kinds p1_skills p1_fields p1_wants p1_hated p1_dangerNames p1_sizes p1_grows p1_decreeNames p1_grounds (.ref p1slaws_o) ++ (wX3 E p1slaws_o p1slaws_q p1slaws_ops p1slaws_stack p1slaws_size p1slaws_worksFrom p1slaws_worksTo p1slaws_keepsFrom p1slaws_keepsTo ++ (wX9 E p2_o p2_q p2_month p2_power p2_master p2_left p2_kept p2_passed p2_sizes p2_fields p2_liked)))) H locs → lv_has ls 6 [(0, .ref t_o), (1, .ref p1_o), (2, .ref p2_o), (3, .int (x3))] → W p l e rm_X2_share s m args below meth c H locs 0 0 (Zn E below args s A none (wX2 E t_o t_q t_path out.1 out.2.1 out.2.2.1 t_likeSizes t_ways t_nextWays out.2.2.2.1 t_ended t_monthsKept ++ (wX1 E p1_o p1_q p1_men p1_consuls p1_dangers p1_decrees p1_term p1_termTold p1_manNames p1_kinds p1_skills p1_fields p1_wants p1_hated p1_dangerNames p1_sizes p1_grows p1_decreeNames p1_grounds (.ref p1slaws_o) ++ (wX3 E p1slaws_o p1slaws_q p1slaws_ops out.2.2.2.2 p1slaws_size p1slaws_worksFrom p1slaws_worksTo p1slaws_keepsFrom p1slaws_keepsTo ++ (wX9 E p2_o p2_q p2_month p2_power p2_master p2_left p2_kept p2_passed p2_sizes p2_fields p2_liked))))) (F0 m 2 ls []) := by
  have hx := X.1.1
  have hb := X.1.2.1
  have ho := X.1.2.2.2.1
  have hts := X.1.2.2.2.2
  intro n
  induction n with
  | zero =>
    intro t_row t_leastRow t_needed t_least p1slaws_stack x3 H locs ls hf
    have hf : (none : Option ((Nat → Int32) × (Nat → Int32) × (Nat → Int32) × Int32 × (Nat → Int32))) = some out := hf
    cases hf
  | succ n ih =>
    intro t_row t_leastRow t_needed t_least p1slaws_stack x3 H locs ls hf hw hl
    rw [f_X2_share_2.eq_2] at hf
    refine lv_iload_n hx hb dX2_share_2 rfl (lv_at hl 3 rfl) ?_
    refine lv_aload_n hx hb dX2_share_3 rfl (lv_at hl 1 rfl) ?_
    refine k_getN (q0 := 6) (ci := 0) (C := RX1) (T := TX1) (N := 18) (host := "PloughCall") (x := .int (p1_dangers)) X inx_1 hw rfl rfl 2 (by decide) rfl nw_40 rfl dX2_share_4 ?_
    refine lv_icmp_ge (tgt := 77) hx hb dX2_share_7 (by decide) (fun c_7 => ?_) (fun c_7 => ?_)
    · have hf := (if_pos c_7).symm.trans hf
      refine lv_aload_n hx hb dX2_share_77 rfl (lv_at hl 0 rfl) ?_
      refine lv_ldc (v := (1000000 : Int32)) hx hb ho (hts _ tw_1110) dX2_share_78 ?_
      refine k_put (q0 := 0) (ci := 1) (C := RX2) (T := TX2) (N := 10) (ty0 := tyX2) (x := .int ((1000000 : Int32))) X inx_2 tyX2_ok nmX2 hw rfl rfl 7 (by decide) rfl rfl tw_267 rfl rfl (Nat.le_of_ble_eq_true rfl) dX2_share_80 (fun H locs hw => ?_)
      have hw : Wd E A s.heap (wX2 E t_o t_q t_path t_row t_leastRow t_needed t_likeSizes t_ways t_nextWays ((1000000 : Int32)) t_ended t_monthsKept ++ (wX1 E p1_o p1_q p1_men p1_consuls p1_dangers p1_decrees p1_term p1_termTold p1_manNames p1_kinds p1_skills p1_fields p1_wants p1_hated p1_dangerNames p1_sizes p1_grows p1_decreeNames p1_grounds (.ref p1slaws_o) ++ (wX3 E p1slaws_o p1slaws_q p1slaws_ops p1slaws_stack p1slaws_size p1slaws_worksFrom p1slaws_worksTo p1slaws_keepsFrom p1slaws_keepsTo ++ (wX9 E p2_o p2_q p2_month p2_power p2_master p2_left p2_kept p2_passed p2_sizes p2_fields p2_liked)))) H locs := hw
      refine lv_aload_n hx hb dX2_share_83 rfl (lv_at hl 0 rfl) ?_
      refine lv_aload_n hx hb dX2_share_84 rfl (lv_at hl 1 rfl) ?_
      refine lv_aload_n hx hb dX2_share_85 rfl (lv_at hl 2 rfl) ?_
      refine lv_iconst (v := (0 : Int32)) hx hb dX2_share_86 (by decide) ?_
      refine lv_iconst (v := (0 : Int32)) hx hb dX2_share_87 (by decide) ?_
      refine lv_iconst (v := (0 : Int32)) hx hb dX2_share_88 (by decide) ?_
      obtain ⟨r89, hc_89, hf⟩ := bd_some hf
      refine k_V (As := [.ref p1_o, .ref p2_o, .int ((0 : Int32)), .int ((0 : Int32)), .int ((0 : Int32))]) (rest := []) (index := 116) (C := RX2) X (c_X2_shareFrom 7 hc_89) tw_1140 tw_1142 tw_39 tw_122 tw_1143 ⟨rfl, rfl⟩ hd_X2_shareFrom ⟨Nat.le_of_ble_eq_true rfl, Nat.le_of_ble_eq_true rfl⟩ ⟨Nat.zero_le _, Nat.zero_le _⟩ hw [0, 1, 2, 3, 4, 5, 6, 7, 8, 9, 10, 11, 12, 13, 14, 15, 16, 17, 21, 22, 23, 24] rfl rfl 0 rfl rfl rfl rfl hl.1 rfl (Nat.le_of_ble_eq_true rfl) dX2_share_89 (fun H locs hw => ?_)
      have hw : Wd E A s.heap (wX2 E t_o t_q t_path r89.1 r89.2.1 t_needed t_likeSizes t_ways t_nextWays r89.2.2 t_ended t_monthsKept ++ (wX1 E p1_o p1_q p1_men p1_consuls p1_dangers p1_decrees p1_term p1_termTold p1_manNames p1_kinds p1_skills p1_fields p1_wants p1_hated p1_dangerNames p1_sizes p1_grows p1_decreeNames p1_grounds (.ref p1slaws_o) ++ (wX3 E p1slaws_o p1slaws_q p1slaws_ops p1slaws_stack p1slaws_size p1slaws_worksFrom p1slaws_worksTo p1slaws_keepsFrom p1slaws_keepsTo ++ (wX9 E p2_o p2_q p2_month p2_power p2_master p2_left p2_kept p2_passed p2_sizes p2_fields p2_liked)))) H locs := hw
      obtain rfl := Option.some.inj hf
      exact k_vret X hw dX2_share_92
    · have hf := (if_neg c_7).symm.trans hf
      refine lv_iconst (v := (0 : Int32)) hx hb dX2_share_10 (by decide) ?_
      refine lv_istore (lv' := [(4, .int ((0 : Int32))), (0, .ref t_o), (1, .ref p1_o), (2, .ref p2_o), (3, .int (x3))]) hx hb dX2_share_11 hl (by decide) rfl (fun ls hl => ?_)
      exact kb_X2_share_13 X (fun hf hw hl => ih hf hw hl) 1100 hf hw (lv_sub hl [1, 2, 3, 4, 0] rfl)
set_option maxRecDepth 100000 in
set_option maxHeartbeats 4000000 in
theorem c_X2_share {E : En} {l : Launch} {t_o : Nat} {t_q : Nat → Nat} {t_path : (Nat → Option Nat)} {t_row : (Nat → Int32)} {t_leastRow : (Nat → Int32)} {t_needed : (Nat → Int32)} {t_likeSizes : (Nat → Int32)} {t_ways : Value} {t_nextWays : Value} {t_least : Int32} {t_ended : Int32} {t_monthsKept : Int32} {p1_o : Nat} {p1_q : Nat → Nat} {p1_men : Int32} {p1_consuls : Int32} {p1_dangers : Int32} {p1_decrees : Int32} {p1_term : Int32} {p1_termTold : Int32} {p1_manNames : (Nat → Int64)} {p1_kinds : (Nat → Int32)} {p1_skills : (Nat → Int32)} {p1_fields : (Nat → Int32)} {p1_wants : (Nat → Int32)} {p1_hated : (Nat → Int32)} {p1_dangerNames : (Nat → Int64)} {p1_sizes : (Nat → Int32)} {p1_grows : (Nat → Int32)} {p1_decreeNames : (Nat → Int64)} {p1_grounds : (Nat → Int32)} {p1slaws_o : Nat} {p1slaws_q : Nat → Nat} {p1slaws_ops : (Nat → Int32)} {p1slaws_stack : (Nat → Int32)} {p1slaws_size : Int32} {p1slaws_worksFrom : Int32} {p1slaws_worksTo : Int32} {p1slaws_keepsFrom : Int32} {p1slaws_keepsTo : Int32} {p2_o : Nat} {p2_q : Nat → Nat} {p2_month : Int32} {p2_power : Int32} {p2_master : Int32} {p2_left : Int32} {p2_kept : Int32} {p2_passed : Int32} {p2_sizes : (Nat → Int32)} {p2_fields : (Nat → Int32)} {p2_liked : (Nat → Int32)}  {out : (Nat → Int32) × (Nat → Int32) × (Nat → Int32) × Int32 × (Nat → Int32)} (hf : f_X2_share t_row t_leastRow t_needed p1_men p1_dangers p1_kinds p1_skills p1_wants p1slaws_ops p1slaws_stack p1slaws_worksFrom p1slaws_worksTo p1slaws_keepsFrom p1slaws_keepsTo p2_sizes = some out) : Cn E l yX2_share cX2_share 6 none rm_X2_share [.ref t_o, .ref p1_o, .ref p2_o] (wX2 E t_o t_q t_path t_row t_leastRow t_needed t_likeSizes t_ways t_nextWays t_least t_ended t_monthsKept ++ (wX1 E p1_o p1_q p1_men p1_consuls p1_dangers p1_decrees p1_term p1_termTold p1_manNames p1_kinds p1_skills p1_fields p1_wants p1_hated p1_dangerNames p1_sizes p1_grows p1_decreeNames p1_grounds (.ref p1slaws_o) ++ (wX3 E p1slaws_o p1slaws_q p1slaws_ops p1slaws_stack p1slaws_size p1slaws_worksFrom p1slaws_worksTo p1slaws_keepsFrom p1slaws_keepsTo ++ (wX9 E p2_o p2_q p2_month p2_power p2_master p2_left p2_kept p2_passed p2_sizes p2_fields p2_liked)))) none (wX2 E t_o t_q t_path out.1 out.2.1 out.2.2.1 t_likeSizes t_ways t_nextWays out.2.2.2.1 t_ended t_monthsKept ++ (wX1 E p1_o p1_q p1_men p1_consuls p1_dangers p1_decrees p1_term p1_termTold p1_manNames p1_kinds p1_skills p1_fields p1_wants p1_hated p1_dangerNames p1_sizes p1_grows p1_decreeNames p1_grounds (.ref p1slaws_o) ++ (wX3 E p1slaws_o p1slaws_q p1slaws_ops out.2.2.2.2 p1slaws_size p1slaws_worksFrom p1slaws_worksTo p1slaws_keepsFrom p1slaws_keepsTo ++ (wX9 E p2_o p2_q p2_month p2_power p2_master p2_left p2_kept p2_passed p2_sizes p2_fields p2_liked)))) := by
  refine Cn.of (by decide) (Nat.le_of_ble_eq_true rfl) rfl ?_
  intro p e s m below meth c A ls args H locs X hw hl
  have hx := X.1.1
  have hb := X.1.2.1
  have ho := X.1.2.2.2.1
  have hts := X.1.2.2.2.2
  have hl : lv_has ls 6 [(0, .ref t_o), (1, .ref p1_o), (2, .ref p2_o)] := hl
  unfold f_X2_share at hf
  refine lv_iconst (v := (0 : Int32)) hx hb dX2_share_0 (by decide) ?_
  refine lv_istore_n (lv' := [(3, .int ((0 : Int32))), (0, .ref t_o), (1, .ref p1_o), (2, .ref p2_o)]) hx hb dX2_share_1 rfl hl (by decide) rfl (fun ls hl => ?_)
  exact kb_X2_share_2 X 1100 hf hw (lv_sub hl [1, 2, 3, 0] rfl)
/-! private void spread(PloughCall$City, int, int, int, int); -/
def f_X2_spread_75 (K30 : (Nat → Int64) → (Nat → Int64) → (Nat → Int32) → (Nat → Int32) → (Nat → Int32) → (Nat → Int32) → (Nat → Int32) → Int32 → Int32 → Int32 → Int32 → Int32 → Int32 → Int32 → Int32 → Int32 → Option ((Nat → Int64) × (Nat → Int32))) (tsnextWays_f : (Nat → Int64)) (tsways_f : (Nat → Int64)) (p1_kinds : (Nat → Int32)) (p1_skills : (Nat → Int32)) (p1_wants : (Nat → Int32)) (p1slaws_ops : (Nat → Int32)) (p1slaws_stack : (Nat → Int32)) (p1slaws_worksFrom : Int32) (p1slaws_worksTo : Int32) (p1slaws_keepsFrom : Int32) (p1slaws_keepsTo : Int32) (x2 : Int32) (x3 : Int32) (x4 : Int32) (x5 : Int32) (x6 : Int32) (x7 : Int64) : Option ((Nat → Int64) × (Nat → Int32)) := if (lg_cmp x7 (0 : Int64)) ≤ (0 : Int32) then K30 tsnextWays_f tsways_f p1_kinds p1_skills p1_wants p1slaws_ops p1slaws_stack p1slaws_worksFrom p1slaws_worksTo p1slaws_keepsFrom p1slaws_keepsTo x2 x3 x4 x5 ((x6 + (1 : Int32)))
  else (f_X1_strength p1_kinds p1_skills p1_wants p1slaws_ops p1slaws_stack p1slaws_worksFrom p1slaws_worksTo p1slaws_keepsFrom p1slaws_keepsTo (x2) (x6) (x5)).bind fun r92 => (f_X2_addWays tsnextWays_f ((imax (0 : Int32) (x6 - r92.1))) ((x7 * ((((10 : Int32) - x4)).toInt64)))).bind fun r108 => (f_X2_addWays r108 ((imin (99 : Int32) (x6 + x3))) ((x7 * ((x4).toInt64)))).bind fun r127 => K30 r127 tsways_f p1_kinds p1_skills p1_wants p1slaws_ops r92.2 p1slaws_worksFrom p1slaws_worksTo p1slaws_keepsFrom p1slaws_keepsTo x2 x3 x4 x5 ((x6 + (1 : Int32)))
def f_X2_spread_30 : Nat → (Nat → Int64) → (Nat → Int64) → (Nat → Int32) → (Nat → Int32) → (Nat → Int32) → (Nat → Int32) → (Nat → Int32) → Int32 → Int32 → Int32 → Int32 → Int32 → Int32 → Int32 → Int32 → Int32 → Option ((Nat → Int64) × (Nat → Int32))
  | 0, _, _, _, _, _, _, _, _, _, _, _, _, _, _, _, _ => none
  | n + 1, tsnextWays_f, tsways_f, p1_kinds, p1_skills, p1_wants, p1slaws_ops, p1slaws_stack, p1slaws_worksFrom, p1slaws_worksTo, p1slaws_keepsFrom, p1slaws_keepsTo, x2, x3, x4, x5, x6 => if (100 : Int32) ≤ x6 then some (tsnextWays_f, p1slaws_stack)
    else gd (x6) 100 (if (lg_cmp (tsways_f (x6).toNatClampNeg) (0 : Int64)) ≤ (0 : Int32) then f_X2_spread_75 (f_X2_spread_30 n) tsnextWays_f tsways_f p1_kinds p1_skills p1_wants p1slaws_ops p1slaws_stack p1slaws_worksFrom p1slaws_worksTo p1slaws_keepsFrom p1slaws_keepsTo x2 x3 x4 x5 x6 ((tsways_f (x6).toNatClampNeg))
    else if x6 = (0 : Int32) then (f_X2_addWays tsnextWays_f ((0 : Int32)) (((tsways_f (x6).toNatClampNeg) * (10 : Int64)))).bind fun r69 => f_X2_spread_30 n r69 tsways_f p1_kinds p1_skills p1_wants p1slaws_ops p1slaws_stack p1slaws_worksFrom p1slaws_worksTo p1slaws_keepsFrom p1slaws_keepsTo x2 x3 x4 x5 ((x6 + (1 : Int32)))
    else f_X2_spread_75 (f_X2_spread_30 n) tsnextWays_f tsways_f p1_kinds p1_skills p1_wants p1slaws_ops p1slaws_stack p1slaws_worksFrom p1slaws_worksTo p1slaws_keepsFrom p1slaws_keepsTo x2 x3 x4 x5 x6 ((tsways_f (x6).toNatClampNeg)))
def f_X2_spread_3 : Nat → (Nat → Int64) → (Nat → Int64) → (Nat → Int32) → (Nat → Int32) → (Nat → Int32) → (Nat → Int32) → (Nat → Int32) → Int32 → Int32 → Int32 → Int32 → Int32 → Int32 → Int32 → Int32 → Int32 → Option ((Nat → Int64) × (Nat → Int32))
  | 0, _, _, _, _, _, _, _, _, _, _, _, _, _, _, _, _ => none
  | n + 1, tsnextWays_f, tsways_f, p1_kinds, p1_skills, p1_wants, p1slaws_ops, p1slaws_stack, p1slaws_worksFrom, p1slaws_worksTo, p1slaws_keepsFrom, p1slaws_keepsTo, x2, x3, x4, x5, x6 => if (100 : Int32) ≤ x6 then f_X2_spread_30 1100 tsnextWays_f tsways_f p1_kinds p1_skills p1_wants p1slaws_ops p1slaws_stack p1slaws_worksFrom p1slaws_worksTo p1slaws_keepsFrom p1slaws_keepsTo x2 x3 x4 x5 ((0 : Int32))
    else gd (x6) 100 (f_X2_spread_3 n (vp_updL tsnextWays_f (x6).toNatClampNeg ((0 : Int64))) tsways_f p1_kinds p1_skills p1_wants p1slaws_ops p1slaws_stack p1slaws_worksFrom p1slaws_worksTo p1slaws_keepsFrom p1slaws_keepsTo x2 x3 x4 x5 ((x6 + (1 : Int32))))
def f_X2_spread (tsnextWays_f : (Nat → Int64)) (tsways_f : (Nat → Int64)) (p1_kinds : (Nat → Int32)) (p1_skills : (Nat → Int32)) (p1_wants : (Nat → Int32)) (p1slaws_ops : (Nat → Int32)) (p1slaws_stack : (Nat → Int32)) (p1slaws_worksFrom : Int32) (p1slaws_worksTo : Int32) (p1slaws_keepsFrom : Int32) (p1slaws_keepsTo : Int32) (x2 : Int32) (x3 : Int32) (x4 : Int32) (x5 : Int32) : Option ((Nat → Int64) × (Nat → Int32)) := f_X2_spread_3 1100 tsnextWays_f tsways_f p1_kinds p1_skills p1_wants p1slaws_ops p1slaws_stack p1slaws_worksFrom p1slaws_worksTo p1slaws_keepsFrom p1slaws_keepsTo x2 x3 x4 x5 ((0 : Int32))
abbrev rm_X2_spread : Room := { frames := 3, cells := 0, slots := 0, locals := 79 }
theorem hd_X2_spread : yX2_spread.cls = RX2 ∧ yX2_spread.cls ≠ "java/lang/invoke/MethodHandle" ∧ yX2_spread.cls ≠ "java/lang/invoke/VarHandle" ∧ (parseMethodDescriptor yX2_spread.desc).map (fun d => d.parameters.length) = some 5 := by decide +kernel
set_option maxRecDepth 100000 in
set_option maxHeartbeats 4000000 in
theorem kb_X2_spread_75 {E : En} {p : Program} {l : Launch} {e : Env} {s : State} {m : MethodId} {args : Array Value} {below : List Frame} {meth : Method} {c : Code} {A : Nat → Prop} {t_o : Nat} {t_q : Nat → Nat} {t_path : (Nat → Option Nat)} {t_row : (Nat → Int32)} {t_leastRow : (Nat → Int32)} {t_needed : (Nat → Int32)} {t_likeSizes : (Nat → Int32)} {t_least : Int32} {t_ended : Int32} {t_monthsKept : Int32} {tsnextWays_o : Nat} {tsways_o : Nat} {tsways_f : (Nat → Int64)} {p1_o : Nat} {p1_q : Nat → Nat} {p1_men : Int32} {p1_consuls : Int32} {p1_dangers : Int32} {p1_decrees : Int32} {p1_term : Int32} {p1_termTold : Int32} {p1_manNames : (Nat → Int64)} {p1_kinds : (Nat → Int32)} {p1_skills : (Nat → Int32)} {p1_fields : (Nat → Int32)} {p1_wants : (Nat → Int32)} {p1_hated : (Nat → Int32)} {p1_dangerNames : (Nat → Int64)} {p1_sizes : (Nat → Int32)} {p1_grows : (Nat → Int32)} {p1_decreeNames : (Nat → Int64)} {p1_grounds : (Nat → Int32)} {p1slaws_o : Nat} {p1slaws_q : Nat → Nat} {p1slaws_ops : (Nat → Int32)} {p1slaws_size : Int32} {p1slaws_worksFrom : Int32} {p1slaws_worksTo : Int32} {p1slaws_keepsFrom : Int32} {p1slaws_keepsTo : Int32} {out : (Nat → Int64) × (Nat → Int32)} (X : Bx E A p s m args meth c cX2_spread 9 RX2 none) {K30 : (Nat → Int64) → (Nat → Int64) → (Nat → Int32) → (Nat → Int32) → (Nat → Int32) → (Nat → Int32) → (Nat → Int32) → Int32 → Int32 → Int32 → Int32 → Int32 → Int32 → Int32 → Int32 → Int32 → Option ((Nat → Int64) × (Nat → Int32))} (hK30 : ∀ {tsnextWays_f : (Nat → Int64)} {p1slaws_stack : (Nat → Int32)} {x2 : Int32} {x3 : Int32} {x4 : Int32} {x5 : Int32} {x6 : Int32} {H : Heap} {locs : List Loc} {ls : Array Slot}, K30 tsnextWays_f tsways_f p1_kinds p1_skills p1_wants p1slaws_ops p1slaws_stack p1slaws_worksFrom p1slaws_worksTo p1slaws_keepsFrom p1slaws_keepsTo x2 x3 x4 x5 x6 = some out → Wd E A s.heap (wX2 E t_o t_q t_path t_row t_leastRow t_needed t_likeSizes (.ref tsways_o) (.ref tsnextWays_o) t_least t_ended t_monthsKept ++ (wL E tsnextWays_o 100 tsnextWays_f ++ (wL E tsways_o 100 tsways_f ++ (wX1 E p1_o p1_q p1_men p1_consuls p1_dangers p1_decrees p1_term p1_termTold p1_manNames p1_kinds p1_skills p1_fields p1_wants p1_hated p1_dangerNames p1_sizes p1_grows p1_decreeNames p1_grounds (.ref p1slaws_o) ++ (wX3 E p1slaws_o p1slaws_q p1slaws_ops p1slaws_stack p1slaws_size p1slaws_worksFrom p1slaws_worksTo p1slaws_keepsFrom p1slaws_keepsTo))))) H locs → lv_has ls 9 [(0, .ref t_o), (1, .ref p1_o), (2, .int (x2)), (3, .int (x3)), (4, .int (x4)), (5, .int (x5)), (6, .int (x6))] → W p l e rm_X2_spread s m args below meth c H locs 0 0 (Zn E below args s A none (wX2 E t_o t_q t_path t_row t_leastRow t_needed t_likeSizes (.ref tsnextWays_o) (.ref tsways_o) t_least t_ended t_monthsKept ++ (wL E tsnextWays_o 100 out.1 ++ (wL E tsways_o 100 tsways_f ++ (wX1 E p1_o p1_q p1_men p1_consuls p1_dangers p1_decrees p1_term p1_termTold p1_manNames p1_kinds p1_skills p1_fields p1_wants p1_hated p1_dangerNames p1_sizes p1_grows p1_decreeNames p1_grounds (.ref p1slaws_o) ++ (wX3 E p1slaws_o p1slaws_q p1slaws_ops out.2 p1slaws_size p1slaws_worksFrom p1slaws_worksTo p1slaws_keepsFrom p1slaws_keepsTo)))))) (F0 m 30 ls [])) {tsnextWays_f : (Nat → Int64)} {p1slaws_stack : (Nat → Int32)} {x2 : Int32} {x3 : Int32} {x4 : Int32} {x5 : Int32} {x6 : Int32} {x7 : Int64} {H : Heap} {locs : List Loc} {ls : Array Slot} (hf : f_X2_spread_75 K30 tsnextWays_f tsways_f p1_kinds p1_skills p1_wants p1slaws_ops p1slaws_stack p1slaws_worksFrom p1slaws_worksTo p1slaws_keepsFrom p1slaws_keepsTo x2 x3 x4 x5 x6 x7 = some out) : Wd E A s.heap (wX2 E t_o t_q t_path t_row t_leastRow t_needed t_likeSizes (.ref tsways_o) (.ref tsnextWays_o) t_least t_ended t_monthsKept ++ (wL E tsnextWays_o 100 tsnextWays_f ++ (wL E tsways_o 100 tsways_f ++ (wX1 E p1_o p1_q p1_men p1_consuls p1_dangers p1_decrees p1_term p1_termTold p1_manNames p1_kinds p1_skills p1_fields p1_wants p1_hated p1_dangerNames p1_sizes p1_grows p1_decreeNames p1_grounds (.ref p1slaws_o) ++ (wX3 E p1slaws_o p1slaws_q p1slaws_ops p1slaws_stack p1slaws_size p1slaws_worksFrom p1slaws_worksTo p1slaws_keepsFrom p1slaws_keepsTo))))) H locs → lv_has ls 9 [(0, .ref t_o), (1, .ref p1_o), (2, .int (x2)), (3, .int (x3)), (4, .int (x4)), (5, .int (x5)), (6, .int (x6)), (7, .long (x7))] → W p l e rm_X2_spread s m args below meth c H locs 0 0 (Zn E below args s A none (wX2 E t_o t_q t_path t_row t_leastRow t_needed t_likeSizes (.ref tsnextWays_o) (.ref tsways_o) t_least t_ended t_monthsKept ++ (wL E tsnextWays_o 100 out.1 ++ (wL E tsways_o 100 tsways_f ++ (wX1 E p1_o p1_q p1_men p1_consuls p1_dangers p1_decrees p1_term p1_termTold p1_manNames p1_kinds p1_skills p1_fields p1_wants p1_hated p1_dangerNames p1_sizes p1_grows p1_decreeNames p1_grounds (.ref p1slaws_o) ++ (wX3 E p1slaws_o p1slaws_q p1slaws_ops out.2 p1slaws_size p1slaws_worksFrom p1slaws_worksTo p1slaws_keepsFrom p1slaws_keepsTo)))))) (F0 m 75 ls []) := by
  have hx := X.1.1
  have hb := X.1.2.1
  have ho := X.1.2.2.2.1
  have hts := X.1.2.2.2.2
  intro hw hl
  unfold f_X2_spread_75 at hf
  refine lv_lload hx hb dX2_spread_75 (lv_at hl 7 rfl) ?_
  refine lv_lconst (v := (0 : Int64)) hx hb dX2_spread_77 (by decide) ?_
  refine W.lcmp hx hb dX2_spread_78 ?_
  refine lv_if_le (tgt := 130) hx hb dX2_spread_79 (by decide) (fun c_79 => ?_) (fun c_79 => ?_)
  · have hf := (if_pos c_79).symm.trans hf
    refine lv_iinc (v := (x6 + (1 : Int32))) (lv' := [(6, .int ((x6 + (1 : Int32)))), (0, .ref t_o), (1, .ref p1_o), (2, .int (x2)), (3, .int (x3)), (4, .int (x4)), (5, .int (x5)), (7, .long (x7))]) hx hb dX2_spread_130 hl (k := 6) rfl rfl (by decide) rfl (fun ls hl => ?_)
    refine lv_goto (tgt := 30) hx hb dX2_spread_133 (by decide) ?_
    exact hK30 hf hw (lv_sub hl [1, 2, 3, 4, 5, 6, 0] rfl)
  · have hf := (if_neg c_79).symm.trans hf
    refine lv_aload_n hx hb dX2_spread_82 rfl (lv_at hl 0 rfl) ?_
    refine lv_iconst (v := (0 : Int32)) hx hb dX2_spread_83 (by decide) ?_
    refine lv_iload hx hb dX2_spread_84 (lv_at hl 6 rfl) ?_
    refine lv_aload_n hx hb dX2_spread_86 rfl (lv_at hl 1 rfl) ?_
    refine lv_iload_n hx hb dX2_spread_87 rfl (lv_at hl 2 rfl) ?_
    refine lv_iload hx hb dX2_spread_88 (lv_at hl 6 rfl) ?_
    refine lv_iload hx hb dX2_spread_90 (lv_at hl 5 rfl) ?_
    obtain ⟨r92, hc_92, hf⟩ := bd_some hf
    refine k_V (As := [.int (x2), .int (x6), .int (x5)]) (rest := [.int (x6), .int ((0 : Int32)), .ref t_o]) (index := 135) (C := RX1) X (c_X1_strength hc_92) tw_1345 tw_960 tw_961 tw_126 tw_962 ⟨rfl, rfl⟩ hd_X1_strength ⟨Nat.le_of_ble_eq_true rfl, Nat.le_of_ble_eq_true rfl⟩ ⟨Nat.zero_le _, Nat.zero_le _⟩ hw [8, 9, 10, 11, 12, 13, 14, 15, 16, 17, 18, 19, 20, 21, 22] rfl rfl 8 rfl rfl rfl rfl hl.1 rfl (Nat.le_of_ble_eq_true rfl) dX2_spread_92 (fun H locs hw => ?_)
    have hw : Wd E A s.heap (wX2 E t_o t_q t_path t_row t_leastRow t_needed t_likeSizes (.ref tsways_o) (.ref tsnextWays_o) t_least t_ended t_monthsKept ++ (wL E tsnextWays_o 100 tsnextWays_f ++ (wL E tsways_o 100 tsways_f ++ (wX1 E p1_o p1_q p1_men p1_consuls p1_dangers p1_decrees p1_term p1_termTold p1_manNames p1_kinds p1_skills p1_fields p1_wants p1_hated p1_dangerNames p1_sizes p1_grows p1_decreeNames p1_grounds (.ref p1slaws_o) ++ (wX3 E p1slaws_o p1slaws_q p1slaws_ops r92.2 p1slaws_size p1slaws_worksFrom p1slaws_worksTo p1slaws_keepsFrom p1slaws_keepsTo))))) H locs := hw
    refine lv_isub hx hb dX2_spread_95 ?_
    refine k_max (index := 139) X tw_1209 tw_977 tw_135 tw_978 (Nat.le_of_ble_eq_true rfl) (Nat.le_of_ble_eq_true rfl) ⟨Nat.zero_le _, Nat.zero_le _⟩ hl.1 dX2_spread_96 ?_
    refine lv_lload hx hb dX2_spread_99 (lv_at hl 7 rfl) ?_
    refine lv_bipush (v := (10 : Int32)) hx hb dX2_spread_101 (by decide) ?_
    refine lv_iload hx hb dX2_spread_103 (lv_at hl 4 rfl) ?_
    refine lv_isub hx hb dX2_spread_105 ?_
    refine lv_i2l (v := (((10 : Int32) - x4)).toInt64) hx hb dX2_spread_106 rfl ?_
    refine lv_lmul hx hb dX2_spread_107 ?_
    obtain ⟨r108, hc_108, hf⟩ := bd_some hf
    refine k_V (As := [.int ((imax (0 : Int32) (x6 - r92.1))), .long ((x7 * ((((10 : Int32) - x4)).toInt64)))]) (rest := []) (index := 131) (C := RX2) X (c_X2_addWays hc_108) tw_1341 tw_1343 tw_44 tw_122 tw_1344 ⟨rfl, rfl⟩ hd_X2_addWays ⟨Nat.le_of_ble_eq_true rfl, Nat.le_of_ble_eq_true rfl⟩ ⟨Nat.zero_le _, Nat.zero_le _⟩ hw [0, 1, 2, 3, 4, 5, 6] rfl rfl 0 rfl rfl rfl rfl hl.1 rfl (Nat.le_of_ble_eq_true rfl) dX2_spread_108 (fun H locs hw => ?_)
    have hw : Wd E A s.heap (wX2 E t_o t_q t_path t_row t_leastRow t_needed t_likeSizes (.ref tsways_o) (.ref tsnextWays_o) t_least t_ended t_monthsKept ++ (wL E tsnextWays_o 100 r108 ++ (wL E tsways_o 100 tsways_f ++ (wX1 E p1_o p1_q p1_men p1_consuls p1_dangers p1_decrees p1_term p1_termTold p1_manNames p1_kinds p1_skills p1_fields p1_wants p1_hated p1_dangerNames p1_sizes p1_grows p1_decreeNames p1_grounds (.ref p1slaws_o) ++ (wX3 E p1slaws_o p1slaws_q p1slaws_ops r92.2 p1slaws_size p1slaws_worksFrom p1slaws_worksTo p1slaws_keepsFrom p1slaws_keepsTo))))) H locs := hw
    refine lv_aload_n hx hb dX2_spread_111 rfl (lv_at hl 0 rfl) ?_
    refine lv_bipush (v := (99 : Int32)) hx hb dX2_spread_112 (by decide) ?_
    refine lv_iload hx hb dX2_spread_114 (lv_at hl 6 rfl) ?_
    refine lv_iload_n hx hb dX2_spread_116 rfl (lv_at hl 3 rfl) ?_
    refine lv_iadd hx hb dX2_spread_117 ?_
    refine k_min (index := 144) X tw_1346 tw_922 tw_135 tw_923 (Nat.le_of_ble_eq_true rfl) (Nat.le_of_ble_eq_true rfl) ⟨Nat.zero_le _, Nat.zero_le _⟩ hl.1 dX2_spread_118 ?_
    refine lv_lload hx hb dX2_spread_121 (lv_at hl 7 rfl) ?_
    refine lv_iload hx hb dX2_spread_123 (lv_at hl 4 rfl) ?_
    refine lv_i2l (v := (x4).toInt64) hx hb dX2_spread_125 rfl ?_
    refine lv_lmul hx hb dX2_spread_126 ?_
    obtain ⟨r127, hc_127, hf⟩ := bd_some hf
    refine k_V (As := [.int ((imin (99 : Int32) (x6 + x3))), .long ((x7 * ((x4).toInt64)))]) (rest := []) (index := 131) (C := RX2) X (c_X2_addWays hc_127) tw_1341 tw_1343 tw_44 tw_122 tw_1344 ⟨rfl, rfl⟩ hd_X2_addWays ⟨Nat.le_of_ble_eq_true rfl, Nat.le_of_ble_eq_true rfl⟩ ⟨Nat.zero_le _, Nat.zero_le _⟩ hw [0, 1, 2, 3, 4, 5, 6] rfl rfl 0 rfl rfl rfl rfl hl.1 rfl (Nat.le_of_ble_eq_true rfl) dX2_spread_127 (fun H locs hw => ?_)
    have hw : Wd E A s.heap (wX2 E t_o t_q t_path t_row t_leastRow t_needed t_likeSizes (.ref tsways_o) (.ref tsnextWays_o) t_least t_ended t_monthsKept ++ (wL E tsnextWays_o 100 r127 ++ (wL E tsways_o 100 tsways_f ++ (wX1 E p1_o p1_q p1_men p1_consuls p1_dangers p1_decrees p1_term p1_termTold p1_manNames p1_kinds p1_skills p1_fields p1_wants p1_hated p1_dangerNames p1_sizes p1_grows p1_decreeNames p1_grounds (.ref p1slaws_o) ++ (wX3 E p1slaws_o p1slaws_q p1slaws_ops r92.2 p1slaws_size p1slaws_worksFrom p1slaws_worksTo p1slaws_keepsFrom p1slaws_keepsTo))))) H locs := hw
    refine lv_iinc (v := (x6 + (1 : Int32))) (lv' := [(6, .int ((x6 + (1 : Int32)))), (0, .ref t_o), (1, .ref p1_o), (2, .int (x2)), (3, .int (x3)), (4, .int (x4)), (5, .int (x5)), (7, .long (x7))]) hx hb dX2_spread_130 hl (k := 6) rfl rfl (by decide) rfl (fun ls hl => ?_)
    refine lv_goto (tgt := 30) hx hb dX2_spread_133 (by decide) ?_
    exact hK30 hf hw (lv_sub hl [1, 2, 3, 4, 5, 6, 0] rfl)
set_option maxRecDepth 100000 in
set_option maxHeartbeats 4000000 in
theorem kb_X2_spread_30 {E : En} {p : Program} {l : Launch} {e : Env} {s : State} {m : MethodId} {args : Array Value} {below : List Frame} {meth : Method} {c : Code} {A : Nat → Prop} {t_o : Nat} {t_q : Nat → Nat} {t_path : (Nat → Option Nat)} {t_row : (Nat → Int32)} {t_leastRow : (Nat → Int32)} {t_needed : (Nat → Int32)} {t_likeSizes : (Nat → Int32)} {t_least : Int32} {t_ended : Int32} {t_monthsKept : Int32} {tsnextWays_o : Nat} {tsways_o : Nat} {tsways_f : (Nat → Int64)} {p1_o : Nat} {p1_q : Nat → Nat} {p1_men : Int32} {p1_consuls : Int32} {p1_dangers : Int32} {p1_decrees : Int32} {p1_term : Int32} {p1_termTold : Int32} {p1_manNames : (Nat → Int64)} {p1_kinds : (Nat → Int32)} {p1_skills : (Nat → Int32)} {p1_fields : (Nat → Int32)} {p1_wants : (Nat → Int32)} {p1_hated : (Nat → Int32)} {p1_dangerNames : (Nat → Int64)} {p1_sizes : (Nat → Int32)} {p1_grows : (Nat → Int32)} {p1_decreeNames : (Nat → Int64)} {p1_grounds : (Nat → Int32)} {p1slaws_o : Nat} {p1slaws_q : Nat → Nat} {p1slaws_ops : (Nat → Int32)} {p1slaws_size : Int32} {p1slaws_worksFrom : Int32} {p1slaws_worksTo : Int32} {p1slaws_keepsFrom : Int32} {p1slaws_keepsTo : Int32} {out : (Nat → Int64) × (Nat → Int32)} (X : Bx E A p s m args meth c cX2_spread 9 RX2 none) : ∀ (n : Nat) {tsnextWays_f : (Nat → Int64)} {p1slaws_stack : (Nat → Int32)} {x2 : Int32} {x3 : Int32} {x4 : Int32} {x5 : Int32} {x6 : Int32} {H : Heap} {locs : List Loc} {ls : Array Slot}, f_X2_spread_30 n tsnextWays_f tsways_f p1_kinds p1_skills p1_wants p1slaws_ops p1slaws_stack p1slaws_worksFrom p1slaws_worksTo p1slaws_keepsFrom p1slaws_keepsTo x2 x3 x4 x5 x6 = some out → Wd E A s.heap (wX2 E t_o t_q t_path t_row t_leastRow t_needed t_likeSizes (.ref tsways_o) (.ref tsnextWays_o) t_least t_ended t_monthsKept ++ (wL E tsnextWays_o 100 tsnextWays_f ++ (wL E tsways_o 100 tsways_f ++ (wX1 E p1_o p1_q p1_men p1_consuls p1_dangers p1_decrees p1_term p1_termTold p1_manNames p1_kinds p1_skills p1_fields p1_wants p1_hated p1_dangerNames p1_sizes p1_grows p1_decreeNames p1_grounds (.ref p1slaws_o) ++ (wX3 E p1slaws_o p1slaws_q p1slaws_ops p1slaws_stack p1slaws_size p1slaws_worksFrom p1slaws_worksTo p1slaws_keepsFrom p1slaws_keepsTo))))) H locs → lv_has ls 9 [(0, .ref t_o), (1, .ref p1_o), (2, .int (x2)), (3, .int (x3)), (4, .int (x4)), (5, .int (x5)), (6, .int (x6))] → W p l e rm_X2_spread s m args below meth c H locs 0 0 (Zn E below args s A none (wX2 E t_o t_q t_path t_row t_leastRow t_needed t_likeSizes (.ref tsnextWays_o) (.ref tsways_o) t_least t_ended t_monthsKept ++ (wL E tsnextWays_o 100 out.1 ++ (wL E tsways_o 100 tsways_f ++ (wX1 E p1_o p1_q p1_men p1_consuls p1_dangers p1_decrees p1_term p1_termTold p1_manNames p1_kinds p1_skills p1_fields p1_wants p1_hated p1_dangerNames p1_sizes p1_grows p1_decreeNames p1_grounds (.ref p1slaws_o) ++ (wX3 E p1slaws_o p1slaws_q p1slaws_ops out.2 p1slaws_size p1slaws_worksFrom p1slaws_worksTo p1slaws_keepsFrom p1slaws_keepsTo)))))) (F0 m 30 ls []) := by
  have hx := X.1.1
  have hb := X.1.2.1
  have ho := X.1.2.2.2.1
  have hts := X.1.2.2.2.2
  intro n
  induction n with
  | zero =>
    intro tsnextWays_f p1slaws_stack x2 x3 x4 x5 x6 H locs ls hf
    have hf : (none : Option ((Nat → Int64) × (Nat → Int32))) = some out := hf
    cases hf
  | succ n ih =>
    intro tsnextWays_f p1slaws_stack x2 x3 x4 x5 x6 H locs ls hf hw hl
    rw [f_X2_spread_30.eq_2] at hf
    refine lv_iload hx hb dX2_spread_30 (lv_at hl 6 rfl) ?_
    refine lv_aload_n hx hb dX2_spread_32 rfl (lv_at hl 0 rfl) ?_
    refine k_get (q0 := 0) (ci := 1) (C := RX2) (T := TX2) (N := 10) (x := .ref tsways_o) X inx_2 hw rfl rfl 5 (by decide) rfl tw_265 rfl dX2_spread_33 ?_
    refine k_alen (q0 := 7) (t0 := 1) (v9 := (100 : Int32)) X hw rfl rfl rfl dX2_spread_36 ?_
    refine lv_icmp_ge (tgt := 136) hx hb dX2_spread_37 (by decide) (fun c_37 => ?_) (fun c_37 => ?_)
    · have hf := (if_pos c_37).symm.trans hf
      refine lv_aload_n hx hb dX2_spread_136 rfl (lv_at hl 0 rfl) ?_
      refine k_get (q0 := 0) (ci := 1) (C := RX2) (T := TX2) (N := 10) (x := .ref tsways_o) X inx_2 hw rfl rfl 5 (by decide) rfl tw_265 rfl dX2_spread_137 ?_
      refine lv_astore (lv' := [(6, .ref tsways_o), (0, .ref t_o), (1, .ref p1_o), (2, .int (x2)), (3, .int (x3)), (4, .int (x4)), (5, .int (x5))]) hx hb dX2_spread_140 hl (by decide) rfl (fun ls hl => ?_)
      refine lv_aload_n hx hb dX2_spread_142 rfl (lv_at hl 1 rfl) ?_
      refine lv_aload_n hx hb dX2_spread_143 rfl (lv_at hl 1 rfl) ?_
      refine k_get (q0 := 0) (ci := 1) (C := RX2) (T := TX2) (N := 10) (x := .ref tsnextWays_o) X inx_2 hw rfl rfl 6 (by decide) rfl tw_266 rfl dX2_spread_144 ?_
      refine k_put (q0 := 0) (ci := 1) (C := RX2) (T := TX2) (N := 10) (ty0 := tyX2) (x := .ref tsnextWays_o) X inx_2 tyX2_ok nmX2 hw rfl rfl 5 (by decide) rfl rfl tw_265 rfl rfl (Nat.le_of_ble_eq_true rfl) dX2_spread_147 (fun H locs hw => ?_)
      have hw : Wd E A s.heap (wX2 E t_o t_q t_path t_row t_leastRow t_needed t_likeSizes (.ref tsnextWays_o) (.ref tsnextWays_o) t_least t_ended t_monthsKept ++ (wL E tsnextWays_o 100 tsnextWays_f ++ (wL E tsways_o 100 tsways_f ++ (wX1 E p1_o p1_q p1_men p1_consuls p1_dangers p1_decrees p1_term p1_termTold p1_manNames p1_kinds p1_skills p1_fields p1_wants p1_hated p1_dangerNames p1_sizes p1_grows p1_decreeNames p1_grounds (.ref p1slaws_o) ++ (wX3 E p1slaws_o p1slaws_q p1slaws_ops p1slaws_stack p1slaws_size p1slaws_worksFrom p1slaws_worksTo p1slaws_keepsFrom p1slaws_keepsTo))))) H locs := hw
      refine lv_aload_n hx hb dX2_spread_150 rfl (lv_at hl 1 rfl) ?_
      refine lv_aload hx hb dX2_spread_151 (lv_at hl 0 rfl) ?_
      refine k_put (q0 := 0) (ci := 1) (C := RX2) (T := TX2) (N := 10) (ty0 := tyX2) (x := .ref tsways_o) X inx_2 tyX2_ok nmX2 hw rfl rfl 6 (by decide) rfl rfl tw_266 rfl rfl (Nat.le_of_ble_eq_true rfl) dX2_spread_153 (fun H locs hw => ?_)
      have hw : Wd E A s.heap (wX2 E t_o t_q t_path t_row t_leastRow t_needed t_likeSizes (.ref tsnextWays_o) (.ref tsways_o) t_least t_ended t_monthsKept ++ (wL E tsnextWays_o 100 tsnextWays_f ++ (wL E tsways_o 100 tsways_f ++ (wX1 E p1_o p1_q p1_men p1_consuls p1_dangers p1_decrees p1_term p1_termTold p1_manNames p1_kinds p1_skills p1_fields p1_wants p1_hated p1_dangerNames p1_sizes p1_grows p1_decreeNames p1_grounds (.ref p1slaws_o) ++ (wX3 E p1slaws_o p1slaws_q p1slaws_ops p1slaws_stack p1slaws_size p1slaws_worksFrom p1slaws_worksTo p1slaws_keepsFrom p1slaws_keepsTo))))) H locs := hw
      obtain rfl := Option.some.inj hf
      exact k_vret X hw dX2_spread_156
    · have hf := (if_neg c_37).symm.trans hf
      refine lv_aload_n hx hb dX2_spread_40 rfl (lv_at hl 0 rfl) ?_
      refine k_get (q0 := 0) (ci := 1) (C := RX2) (T := TX2) (N := 10) (x := .ref tsways_o) X inx_2 hw rfl rfl 5 (by decide) rfl tw_265 rfl dX2_spread_41 ?_
      refine lv_iload hx hb dX2_spread_44 (lv_at hl 6 rfl) ?_
      obtain ⟨hi_46, hf⟩ := gd_some hf
      refine k_lald (q0 := 7) (n := 100) (f := tsways_f) X hw rfl hi_46 dX2_spread_46 ?_
      refine lv_lstore (lv' := [(7, .long ((tsways_f (x6).toNatClampNeg))), (0, .ref t_o), (1, .ref p1_o), (2, .int (x2)), (3, .int (x3)), (4, .int (x4)), (5, .int (x5)), (6, .int (x6))]) hx hb dX2_spread_47 hl (by decide) rfl (fun ls hl => ?_)
      refine lv_lload hx hb dX2_spread_49 (lv_at hl 0 rfl) ?_
      refine lv_lconst (v := (0 : Int64)) hx hb dX2_spread_51 (by decide) ?_
      refine W.lcmp hx hb dX2_spread_52 ?_
      refine lv_if_le (tgt := 75) hx hb dX2_spread_53 (by decide) (fun c_53 => ?_) (fun c_53 => ?_)
      · have hf := (if_pos c_53).symm.trans hf
        exact kb_X2_spread_75 X (fun hf hw hl => ih hf hw hl) hf hw (lv_sub hl [1, 2, 3, 4, 5, 6, 7, 0] rfl)
      · have hf := (if_neg c_53).symm.trans hf
        refine lv_iload hx hb dX2_spread_56 (lv_at hl 7 rfl) ?_
        refine lv_if_ne (tgt := 75) hx hb dX2_spread_58 (by decide) (fun c_58 => ?_) (fun c_58 => ?_)
        · have hf := (if_neg c_58).symm.trans hf
          exact kb_X2_spread_75 X (fun hf hw hl => ih hf hw hl) hf hw (lv_sub hl [1, 2, 3, 4, 5, 6, 7, 0] rfl)
        · have hf := (if_pos c_58).symm.trans hf
          refine lv_aload_n hx hb dX2_spread_61 rfl (lv_at hl 1 rfl) ?_
          refine lv_iconst (v := (0 : Int32)) hx hb dX2_spread_62 (by decide) ?_
          refine lv_lload hx hb dX2_spread_63 (lv_at hl 0 rfl) ?_
          refine lv_ldc2 (v := (10 : Int64)) hx hb ho (hts _ tw_1340) dX2_spread_65 ?_
          refine lv_lmul hx hb dX2_spread_68 ?_
          obtain ⟨r69, hc_69, hf⟩ := bd_some hf
          refine k_V (As := [.int ((0 : Int32)), .long (((tsways_f (x6).toNatClampNeg) * (10 : Int64)))]) (rest := []) (index := 131) (C := RX2) X (c_X2_addWays hc_69) tw_1341 tw_1343 tw_44 tw_122 tw_1344 ⟨rfl, rfl⟩ hd_X2_addWays ⟨Nat.le_of_ble_eq_true rfl, Nat.le_of_ble_eq_true rfl⟩ ⟨Nat.zero_le _, Nat.zero_le _⟩ hw [0, 1, 2, 3, 4, 5, 6] rfl rfl 0 rfl rfl rfl rfl hl.1 rfl (Nat.le_of_ble_eq_true rfl) dX2_spread_69 (fun H locs hw => ?_)
          have hw : Wd E A s.heap (wX2 E t_o t_q t_path t_row t_leastRow t_needed t_likeSizes (.ref tsways_o) (.ref tsnextWays_o) t_least t_ended t_monthsKept ++ (wL E tsnextWays_o 100 r69 ++ (wL E tsways_o 100 tsways_f ++ (wX1 E p1_o p1_q p1_men p1_consuls p1_dangers p1_decrees p1_term p1_termTold p1_manNames p1_kinds p1_skills p1_fields p1_wants p1_hated p1_dangerNames p1_sizes p1_grows p1_decreeNames p1_grounds (.ref p1slaws_o) ++ (wX3 E p1slaws_o p1slaws_q p1slaws_ops p1slaws_stack p1slaws_size p1slaws_worksFrom p1slaws_worksTo p1slaws_keepsFrom p1slaws_keepsTo))))) H locs := hw
          refine lv_goto (tgt := 130) hx hb dX2_spread_72 (by decide) ?_
          refine lv_iinc (v := (x6 + (1 : Int32))) (lv' := [(6, .int ((x6 + (1 : Int32)))), (7, .long ((tsways_f (x6).toNatClampNeg))), (0, .ref t_o), (1, .ref p1_o), (2, .int (x2)), (3, .int (x3)), (4, .int (x4)), (5, .int (x5))]) hx hb dX2_spread_130 hl (k := 7) rfl rfl (by decide) rfl (fun ls hl => ?_)
          refine lv_goto (tgt := 30) hx hb dX2_spread_133 (by decide) ?_
          exact ih hf hw (lv_sub hl [2, 3, 4, 5, 6, 7, 0] rfl)
set_option maxRecDepth 100000 in
set_option maxHeartbeats 4000000 in
theorem kb_X2_spread_3 {E : En} {p : Program} {l : Launch} {e : Env} {s : State} {m : MethodId} {args : Array Value} {below : List Frame} {meth : Method} {c : Code} {A : Nat → Prop} {t_o : Nat} {t_q : Nat → Nat} {t_path : (Nat → Option Nat)} {t_row : (Nat → Int32)} {t_leastRow : (Nat → Int32)} {t_needed : (Nat → Int32)} {t_likeSizes : (Nat → Int32)} {t_least : Int32} {t_ended : Int32} {t_monthsKept : Int32} {tsnextWays_o : Nat} {tsways_o : Nat} {tsways_f : (Nat → Int64)} {p1_o : Nat} {p1_q : Nat → Nat} {p1_men : Int32} {p1_consuls : Int32} {p1_dangers : Int32} {p1_decrees : Int32} {p1_term : Int32} {p1_termTold : Int32} {p1_manNames : (Nat → Int64)} {p1_kinds : (Nat → Int32)} {p1_skills : (Nat → Int32)} {p1_fields : (Nat → Int32)} {p1_wants : (Nat → Int32)} {p1_hated : (Nat → Int32)} {p1_dangerNames : (Nat → Int64)} {p1_sizes : (Nat → Int32)} {p1_grows : (Nat → Int32)} {p1_decreeNames : (Nat → Int64)} {p1_grounds : (Nat → Int32)} {p1slaws_o : Nat} {p1slaws_q : Nat → Nat} {p1slaws_ops : (Nat → Int32)} {p1slaws_size : Int32} {p1slaws_worksFrom : Int32} {p1slaws_worksTo : Int32} {p1slaws_keepsFrom : Int32} {p1slaws_keepsTo : Int32} {out : (Nat → Int64) × (Nat → Int32)} (X : Bx E A p s m args meth c cX2_spread 9 RX2 none) : ∀ (n : Nat) {tsnextWays_f : (Nat → Int64)} {p1slaws_stack : (Nat → Int32)} {x2 : Int32} {x3 : Int32} {x4 : Int32} {x5 : Int32} {x6 : Int32} {H : Heap} {locs : List Loc} {ls : Array Slot}, f_X2_spread_3 n tsnextWays_f tsways_f p1_kinds p1_skills p1_wants p1slaws_ops p1slaws_stack p1slaws_worksFrom p1slaws_worksTo p1slaws_keepsFrom p1slaws_keepsTo x2 x3 x4 x5 x6 = some out → Wd E A s.heap (wX2 E t_o t_q t_path t_row t_leastRow t_needed t_likeSizes (.ref tsways_o) (.ref tsnextWays_o) t_least t_ended t_monthsKept ++ (wL E tsnextWays_o 100 tsnextWays_f ++ (wL E tsways_o 100 tsways_f ++ (wX1 E p1_o p1_q p1_men p1_consuls p1_dangers p1_decrees p1_term p1_termTold p1_manNames p1_kinds p1_skills p1_fields p1_wants p1_hated p1_dangerNames p1_sizes p1_grows p1_decreeNames p1_grounds (.ref p1slaws_o) ++ (wX3 E p1slaws_o p1slaws_q p1slaws_ops p1slaws_stack p1slaws_size p1slaws_worksFrom p1slaws_worksTo p1slaws_keepsFrom p1slaws_keepsTo))))) H locs → lv_has ls 9 [(0, .ref t_o), (1, .ref p1_o), (2, .int (x2)), (3, .int (x3)), (4, .int (x4)), (5, .int (x5)), (6, .int (x6))] → W p l e rm_X2_spread s m args below meth c H locs 0 0 (Zn E below args s A none (wX2 E t_o t_q t_path t_row t_leastRow t_needed t_likeSizes (.ref tsnextWays_o) (.ref tsways_o) t_least t_ended t_monthsKept ++ (wL E tsnextWays_o 100 out.1 ++ (wL E tsways_o 100 tsways_f ++ (wX1 E p1_o p1_q p1_men p1_consuls p1_dangers p1_decrees p1_term p1_termTold p1_manNames p1_kinds p1_skills p1_fields p1_wants p1_hated p1_dangerNames p1_sizes p1_grows p1_decreeNames p1_grounds (.ref p1slaws_o) ++ (wX3 E p1slaws_o p1slaws_q p1slaws_ops out.2 p1slaws_size p1slaws_worksFrom p1slaws_worksTo p1slaws_keepsFrom p1slaws_keepsTo)))))) (F0 m 3 ls []) := by
  have hx := X.1.1
  have hb := X.1.2.1
  have ho := X.1.2.2.2.1
  have hts := X.1.2.2.2.2
  intro n
  induction n with
  | zero =>
    intro tsnextWays_f p1slaws_stack x2 x3 x4 x5 x6 H locs ls hf
    have hf : (none : Option ((Nat → Int64) × (Nat → Int32))) = some out := hf
    cases hf
  | succ n ih =>
    intro tsnextWays_f p1slaws_stack x2 x3 x4 x5 x6 H locs ls hf hw hl
    rw [f_X2_spread_3.eq_2] at hf
    refine lv_iload hx hb dX2_spread_3 (lv_at hl 6 rfl) ?_
    refine lv_aload_n hx hb dX2_spread_5 rfl (lv_at hl 0 rfl) ?_
    refine k_get (q0 := 0) (ci := 1) (C := RX2) (T := TX2) (N := 10) (x := .ref tsnextWays_o) X inx_2 hw rfl rfl 6 (by decide) rfl tw_266 rfl dX2_spread_6 ?_
    refine k_alen (q0 := 6) (t0 := 1) (v9 := (100 : Int32)) X hw rfl rfl rfl dX2_spread_9 ?_
    refine lv_icmp_ge (tgt := 27) hx hb dX2_spread_10 (by decide) (fun c_10 => ?_) (fun c_10 => ?_)
    · have hf := (if_pos c_10).symm.trans hf
      refine lv_iconst (v := (0 : Int32)) hx hb dX2_spread_27 (by decide) ?_
      refine lv_istore (lv' := [(6, .int ((0 : Int32))), (0, .ref t_o), (1, .ref p1_o), (2, .int (x2)), (3, .int (x3)), (4, .int (x4)), (5, .int (x5))]) hx hb dX2_spread_28 hl (by decide) rfl (fun ls hl => ?_)
      exact kb_X2_spread_30 X 1100 hf hw (lv_sub hl [1, 2, 3, 4, 5, 6, 0] rfl)
    · have hf := (if_neg c_10).symm.trans hf
      refine lv_aload_n hx hb dX2_spread_13 rfl (lv_at hl 0 rfl) ?_
      refine k_get (q0 := 0) (ci := 1) (C := RX2) (T := TX2) (N := 10) (x := .ref tsnextWays_o) X inx_2 hw rfl rfl 6 (by decide) rfl tw_266 rfl dX2_spread_14 ?_
      refine lv_iload hx hb dX2_spread_17 (lv_at hl 6 rfl) ?_
      refine lv_lconst (v := (0 : Int64)) hx hb dX2_spread_19 (by decide) ?_
      obtain ⟨hi_20, hf⟩ := gd_some hf
      refine k_last (q0 := 6) (n := 100) (f := tsnextWays_f) X hw rfl hi_20 dX2_spread_20 (fun H locs hw => ?_)
      have hw : Wd E A s.heap (wX2 E t_o t_q t_path t_row t_leastRow t_needed t_likeSizes (.ref tsways_o) (.ref tsnextWays_o) t_least t_ended t_monthsKept ++ (wL E tsnextWays_o 100 (vp_updL tsnextWays_f (x6).toNatClampNeg ((0 : Int64))) ++ (wL E tsways_o 100 tsways_f ++ (wX1 E p1_o p1_q p1_men p1_consuls p1_dangers p1_decrees p1_term p1_termTold p1_manNames p1_kinds p1_skills p1_fields p1_wants p1_hated p1_dangerNames p1_sizes p1_grows p1_decreeNames p1_grounds (.ref p1slaws_o) ++ (wX3 E p1slaws_o p1slaws_q p1slaws_ops p1slaws_stack p1slaws_size p1slaws_worksFrom p1slaws_worksTo p1slaws_keepsFrom p1slaws_keepsTo))))) H locs := hw
      refine lv_iinc (v := (x6 + (1 : Int32))) (lv' := [(6, .int ((x6 + (1 : Int32)))), (0, .ref t_o), (1, .ref p1_o), (2, .int (x2)), (3, .int (x3)), (4, .int (x4)), (5, .int (x5))]) hx hb dX2_spread_21 hl (k := 6) rfl rfl (by decide) rfl (fun ls hl => ?_)
      refine lv_goto (tgt := 3) hx hb dX2_spread_24 (by decide) ?_
      exact ih hf hw (lv_sub hl [1, 2, 3, 4, 5, 6, 0] rfl)
set_option maxRecDepth 100000 in
set_option maxHeartbeats 4000000 in
theorem c_X2_spread {E : En} {l : Launch} {t_o : Nat} {t_q : Nat → Nat} {t_path : (Nat → Option Nat)} {t_row : (Nat → Int32)} {t_leastRow : (Nat → Int32)} {t_needed : (Nat → Int32)} {t_likeSizes : (Nat → Int32)} {t_least : Int32} {t_ended : Int32} {t_monthsKept : Int32} {tsnextWays_o : Nat} {tsnextWays_f : (Nat → Int64)} {tsways_o : Nat} {tsways_f : (Nat → Int64)} {p1_o : Nat} {p1_q : Nat → Nat} {p1_men : Int32} {p1_consuls : Int32} {p1_dangers : Int32} {p1_decrees : Int32} {p1_term : Int32} {p1_termTold : Int32} {p1_manNames : (Nat → Int64)} {p1_kinds : (Nat → Int32)} {p1_skills : (Nat → Int32)} {p1_fields : (Nat → Int32)} {p1_wants : (Nat → Int32)} {p1_hated : (Nat → Int32)} {p1_dangerNames : (Nat → Int64)} {p1_sizes : (Nat → Int32)} {p1_grows : (Nat → Int32)} {p1_decreeNames : (Nat → Int64)} {p1_grounds : (Nat → Int32)} {p1slaws_o : Nat} {p1slaws_q : Nat → Nat} {p1slaws_ops : (Nat → Int32)} {p1slaws_stack : (Nat → Int32)} {p1slaws_size : Int32} {p1slaws_worksFrom : Int32} {p1slaws_worksTo : Int32} {p1slaws_keepsFrom : Int32} {p1slaws_keepsTo : Int32} {x2 : Int32} {x3 : Int32} {x4 : Int32} {x5 : Int32} {out : (Nat → Int64) × (Nat → Int32)} (hf : f_X2_spread tsnextWays_f tsways_f p1_kinds p1_skills p1_wants p1slaws_ops p1slaws_stack p1slaws_worksFrom p1slaws_worksTo p1slaws_keepsFrom p1slaws_keepsTo x2 x3 x4 x5 = some out) : Cn E l yX2_spread cX2_spread 9 none rm_X2_spread [.ref t_o, .ref p1_o, .int (x2), .int (x3), .int (x4), .int (x5)] (wX2 E t_o t_q t_path t_row t_leastRow t_needed t_likeSizes (.ref tsways_o) (.ref tsnextWays_o) t_least t_ended t_monthsKept ++ (wL E tsnextWays_o 100 tsnextWays_f ++ (wL E tsways_o 100 tsways_f ++ (wX1 E p1_o p1_q p1_men p1_consuls p1_dangers p1_decrees p1_term p1_termTold p1_manNames p1_kinds p1_skills p1_fields p1_wants p1_hated p1_dangerNames p1_sizes p1_grows p1_decreeNames p1_grounds (.ref p1slaws_o) ++ (wX3 E p1slaws_o p1slaws_q p1slaws_ops p1slaws_stack p1slaws_size p1slaws_worksFrom p1slaws_worksTo p1slaws_keepsFrom p1slaws_keepsTo))))) none (wX2 E t_o t_q t_path t_row t_leastRow t_needed t_likeSizes (.ref tsnextWays_o) (.ref tsways_o) t_least t_ended t_monthsKept ++ (wL E tsnextWays_o 100 out.1 ++ (wL E tsways_o 100 tsways_f ++ (wX1 E p1_o p1_q p1_men p1_consuls p1_dangers p1_decrees p1_term p1_termTold p1_manNames p1_kinds p1_skills p1_fields p1_wants p1_hated p1_dangerNames p1_sizes p1_grows p1_decreeNames p1_grounds (.ref p1slaws_o) ++ (wX3 E p1slaws_o p1slaws_q p1slaws_ops out.2 p1slaws_size p1slaws_worksFrom p1slaws_worksTo p1slaws_keepsFrom p1slaws_keepsTo))))) := by
  refine Cn.of (by decide) (Nat.le_of_ble_eq_true rfl) rfl ?_
  intro p e s m below meth c A ls args H locs X hw hl
  have hx := X.1.1
  have hb := X.1.2.1
  have ho := X.1.2.2.2.1
  have hts := X.1.2.2.2.2
  have hl : lv_has ls 9 [(0, .ref t_o), (1, .ref p1_o), (2, .int (x2)), (3, .int (x3)), (4, .int (x4)), (5, .int (x5))] := hl
  unfold f_X2_spread at hf
  refine lv_iconst (v := (0 : Int32)) hx hb dX2_spread_0 (by decide) ?_
  refine lv_istore (lv' := [(6, .int ((0 : Int32))), (0, .ref t_o), (1, .ref p1_o), (2, .int (x2)), (3, .int (x3)), (4, .int (x4)), (5, .int (x5))]) hx hb dX2_spread_1 hl (by decide) rfl (fun ls hl => ?_)
  exact kb_X2_spread_3 X 1100 hf hw (lv_sub hl [1, 2, 3, 4, 5, 6, 0] rfl)
