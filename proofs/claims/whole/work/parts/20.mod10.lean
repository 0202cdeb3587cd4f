/-! public int man(int, int); -/
def f_X13_man (t_city : (Nat → Int32)) (t_kind : (Nat → Int32)) (t_skill : (Nat → Int32)) (t_want : (Nat → Int32)) (t_s : (Nat → Int32)) (x1 : Int32) (x2 : Int32) : Option (Int32 × Int32) := (f_X13_isMan t_city (x1)).bind fun r7 => if r7 = (0 : Int32) then some ((-2 : Int32), (0 : Int32))
  else if (f_X13_within (x2) ((0 : Int32)) ((5 : Int32))) = (0 : Int32) then some ((-2 : Int32), (0 : Int32))
  else if (3 : Int32) ≤ x2 then if x2 = (3 : Int32) then gd (((11 : Int32) + x1)) 23 (some ((t_s (((11 : Int32) + x1)).toNatClampNeg), (0 : Int32)))
    else if x2 = (4 : Int32) then gd (((17 : Int32) + x1)) 23 (some ((t_s (((17 : Int32) + x1)).toNatClampNeg), (0 : Int32)))
    else (f_X13_isConsul t_city (x1)).bind fun r100 => if r100 = (0 : Int32) then some ((0 : Int32), (0 : Int32))
    else some ((1 : Int32), (0 : Int32))
  else if x2 = (0 : Int32) then gd (x1) 12 (some ((t_kind (x1).toNatClampNeg), (0 : Int32)))
  else if x2 = (1 : Int32) then gd (x1) 12 (some ((t_skill (x1).toNatClampNeg), (0 : Int32)))
  else gd (x1) 12 (some ((t_want (x1).toNatClampNeg), (0 : Int32)))
abbrev rm_X13_man : Room := { frames := 1, cells := 0, slots := 0, locals := 22 }
theorem hd_X13_man : yX13_man.cls = RX13 ∧ yX13_man.cls ≠ "java/lang/invoke/MethodHandle" ∧ yX13_man.cls ≠ "java/lang/invoke/VarHandle" ∧ (parseMethodDescriptor yX13_man.desc).map (fun d => d.parameters.length) = some 2 := by decide +kernel
set_option maxRecDepth 100000 in
set_option maxHeartbeats 4000000 in
theorem c_X13_man {E : En} {l : Launch} {t_o : Nat} {t_q : Nat → Nat} {t_thrown : Int32} {t_taped : Int32} {t_tape : (Nat → Int32)} {t_size : Int32} {t_place : Int32} {t_begin : Int32} {t_token : Int32} {t_word : Int64} {t_told : Int32} {t_wrong : Int32} {t_city : (Nat → Int32)} {t_manName : (Nat → Int64)} {t_dangerName : (Nat → Int64)} {t_decreeName : (Nat → Int64)} {t_kind : (Nat → Int32)} {t_skill : (Nat → Int32)} {t_fieldTold : (Nat → Int32)} {t_want : (Nat → Int32)} {t_hates : (Nat → Int32)} {t_restsOn : (Nat → Int32)} {t_sizeTold : (Nat → Int32)} {t_grows : (Nat → Int32)} {t_lineFrom : (Nat → Int32)} {t_lineTo : (Nat → Int32)} {t_codes : (Nat → Int32)} {t_code : Int32} {t_lawLine : Int32} {t_toldLines : Int32} {t_opened : (Nat → Int32)} {t_compared : (Nat → Int32)} {t_kept : (Nat → Int32)} {t_keptBy : (Nat → Int32)} {t_ahead : (Nat → Int32)} {t_against : (Nat → Int32)} {t_sum : (Nat → Int32)} {t_sumBy : (Nat → Int32)} {t_term : (Nat → Int32)} {t_termBy : (Nat → Int32)} {t_byNot : (Nat → Int32)} {t_valueOf : (Nat → Int32)} {t_given : Int32} {t_fresh : Int64} {t_consulsMany : Int32} {t_lines : (Nat → Int32)} {t_lineWhat : (Nat → Int32)} {t_lineA : (Nat → Int32)} {t_lineB : (Nat → Int32)} {t_tolds : (Nat → Int32)} {t_toldDanger : (Nat → Int32)} {t_toldMonths : (Nat → Int32)} {t_toldSize : (Nat → Int32)} {t_s : (Nat → Int32)} {t_aside : (Nat → Int32)} {t_tried : (Nat → Int32)} {t_marked : (Nat → Int32)} {t_undone : (Nat → Int32)} {t_isLaid : (Nat → Int32)} {t_done : Int32} {t_heading : (Nat → Int32)} {t_bestHeading : (Nat → Int32)} {t_leastLeft : Int32} {t_goesTo : (Nat → Int32)} {t_bestGoes : (Nat → Int32)} {t_leastMonths : Int32} {t_g : Int64} {x1 : Int32} {x2 : Int32} {out : Int32 × Int32} (hf : f_X13_man t_city t_kind t_skill t_want t_s x1 x2 = some out) : Cn E l yX13_man cX13_man 3 (some .int) rm_X13_man [.ref t_o, .int (x1), .int (x2)] (wX13 E t_o t_q t_thrown t_taped t_tape t_size t_place t_begin t_token t_word t_told t_wrong t_city t_manName t_dangerName t_decreeName t_kind t_skill t_fieldTold t_want t_hates t_restsOn t_sizeTold t_grows t_lineFrom t_lineTo t_codes t_code t_lawLine t_toldLines t_opened t_compared t_kept t_keptBy t_ahead t_against t_sum t_sumBy t_term t_termBy t_byNot t_valueOf t_given t_fresh t_consulsMany t_lines t_lineWhat t_lineA t_lineB t_tolds t_toldDanger t_toldMonths t_toldSize t_s t_aside t_tried t_marked t_undone t_isLaid t_done t_heading t_bestHeading t_leastLeft t_goesTo t_bestGoes t_leastMonths t_g) (some (.int out.1)) (wX13 E t_o t_q out.2 t_taped t_tape t_size t_place t_begin t_token t_word t_told t_wrong t_city t_manName t_dangerName t_decreeName t_kind t_skill t_fieldTold t_want t_hates t_restsOn t_sizeTold t_grows t_lineFrom t_lineTo t_codes t_code t_lawLine t_toldLines t_opened t_compared t_kept t_keptBy t_ahead t_against t_sum t_sumBy t_term t_termBy t_byNot t_valueOf t_given t_fresh t_consulsMany t_lines t_lineWhat t_lineA t_lineB t_tolds t_toldDanger t_toldMonths t_toldSize t_s t_aside t_tried t_marked t_undone t_isLaid t_done t_heading t_bestHeading t_leastLeft t_goesTo t_bestGoes t_leastMonths t_g) := by
  refine Cn.of (by decide) (Nat.le_of_ble_eq_true rfl) rfl ?_
  intro p e s m below meth c A ls args H locs X hw hl
  have hx := X.1.1
  have hb := X.1.2.1
  have ho := X.1.2.2.2.1
  have hts := X.1.2.2.2.2
  have hl : lv_has ls 3 [(0, .ref t_o), (1, .int (x1)), (2, .int (x2))] := hl
  unfold f_X13_man at hf
  refine lv_aload_n hx hb dX13_man_0 rfl (lv_at hl 0 rfl) ?_
  refine lv_iconst (v := (0 : Int32)) hx hb dX13_man_1 (by decide) ?_
  refine k_put (q0 := 0) (ci := 11) (C := RX13) (T := TX13) (N := 65) (ty0 := tyX13) (x := .int ((0 : Int32))) X inx_13 tyX13_ok nmX13 hw rfl rfl 0 (by decide) rfl rfl tw_1373 rfl rfl (Nat.le_of_ble_eq_true rfl) dX13_man_2 (fun H locs hw => ?_)
  have hw : Wd E A s.heap (wX13 E t_o t_q ((0 : Int32)) t_taped t_tape t_size t_place t_begin t_token t_word t_told t_wrong t_city t_manName t_dangerName t_decreeName t_kind t_skill t_fieldTold t_want t_hates t_restsOn t_sizeTold t_grows t_lineFrom t_lineTo t_codes t_code t_lawLine t_toldLines t_opened t_compared t_kept t_keptBy t_ahead t_against t_sum t_sumBy t_term t_termBy t_byNot t_valueOf t_given t_fresh t_consulsMany t_lines t_lineWhat t_lineA t_lineB t_tolds t_toldDanger t_toldMonths t_toldSize t_s t_aside t_tried t_marked t_undone t_isLaid t_done t_heading t_bestHeading t_leastLeft t_goesTo t_bestGoes t_leastMonths t_g) H locs := hw
  refine lv_aload_n hx hb dX13_man_5 rfl (lv_at hl 0 rfl) ?_
  refine lv_iload_n hx hb dX13_man_6 rfl (lv_at hl 1 rfl) ?_
  obtain ⟨r7, hc_7, hf⟩ := bd_some hf
  refine k_V (As := [.int (x1)]) (rest := []) (index := 443) (C := RX13) X (c_X13_isMan hc_7) tw_1765 tw_1767 tw_78 tw_130 tw_1768 ⟨rfl, rfl⟩ hd_X13_isMan ⟨Nat.le_of_ble_eq_true rfl, Nat.le_of_ble_eq_true rfl⟩ ⟨Nat.zero_le _, Nat.zero_le _⟩ hw [0, 1, 2, 3, 4, 5, 6, 7, 8, 9, 10, 11, 12, 13, 14, 15, 16, 17, 18, 19, 20, 21, 22, 23, 24, 25, 26, 27, 28, 29, 30, 31, 32, 33, 34, 35, 36, 37, 38, 39, 40, 41, 42, 43, 44, 45, 46] rfl rfl 0 rfl rfl rfl rfl hl.1 rfl (Nat.le_of_ble_eq_true rfl) dX13_man_7 (fun H locs hw => ?_)
  have hw : Wd E A s.heap (wX13 E t_o t_q ((0 : Int32)) t_taped t_tape t_size t_place t_begin t_token t_word t_told t_wrong t_city t_manName t_dangerName t_decreeName t_kind t_skill t_fieldTold t_want t_hates t_restsOn t_sizeTold t_grows t_lineFrom t_lineTo t_codes t_code t_lawLine t_toldLines t_opened t_compared t_kept t_keptBy t_ahead t_against t_sum t_sumBy t_term t_termBy t_byNot t_valueOf t_given t_fresh t_consulsMany t_lines t_lineWhat t_lineA t_lineB t_tolds t_toldDanger t_toldMonths t_toldSize t_s t_aside t_tried t_marked t_undone t_isLaid t_done t_heading t_bestHeading t_leastLeft t_goesTo t_bestGoes t_leastMonths t_g) H locs := hw
  refine lv_if_eq (tgt := 22) hx hb dX13_man_10 (by decide) (fun c_10 => ?_) (fun c_10 => ?_)
  · have hf := (if_pos c_10).symm.trans hf
    refine lv_bipush (v := (-2 : Int32)) hx hb dX13_man_22 (by decide) ?_
    obtain rfl := Option.some.inj hf
    exact k_iret X hw dX13_man_24
  · have hf := (if_neg c_10).symm.trans hf
    refine lv_iload_n hx hb dX13_man_13 rfl (lv_at hl 2 rfl) ?_
    refine lv_iconst (v := (0 : Int32)) hx hb dX13_man_14 (by decide) ?_
    refine lv_iconst (v := (5 : Int32)) hx hb dX13_man_15 (by decide) ?_
    refine k_S (As := [.int (x2), .int ((0 : Int32)), .int ((5 : Int32))]) (rest := []) (index := 297) X (c_X13_within (out := (f_X13_within (x2) ((0 : Int32)) ((5 : Int32)))) rfl) tw_1670 tw_1671 tw_130 tw_1672 ⟨rfl, rfl⟩ hd_X13_within ⟨Nat.le_of_ble_eq_true rfl, Nat.le_of_ble_eq_true rfl⟩ ⟨Nat.zero_le _, Nat.zero_le _⟩ hw [] rfl rfl rfl hl.1 rfl (Nat.le_of_ble_eq_true rfl) dX13_man_16 (fun H locs hw => ?_)
    have hw : Wd E A s.heap (wX13 E t_o t_q ((0 : Int32)) t_taped t_tape t_size t_place t_begin t_token t_word t_told t_wrong t_city t_manName t_dangerName t_decreeName t_kind t_skill t_fieldTold t_want t_hates t_restsOn t_sizeTold t_grows t_lineFrom t_lineTo t_codes t_code t_lawLine t_toldLines t_opened t_compared t_kept t_keptBy t_ahead t_against t_sum t_sumBy t_term t_termBy t_byNot t_valueOf t_given t_fresh t_consulsMany t_lines t_lineWhat t_lineA t_lineB t_tolds t_toldDanger t_toldMonths t_toldSize t_s t_aside t_tried t_marked t_undone t_isLaid t_done t_heading t_bestHeading t_leastLeft t_goesTo t_bestGoes t_leastMonths t_g) H locs := hw
    refine lv_if_ne (tgt := 25) hx hb dX13_man_19 (by decide) (fun c_19 => ?_) (fun c_19 => ?_)
    · have hf := (if_neg c_19).symm.trans hf
      refine lv_iload_n hx hb dX13_man_25 rfl (lv_at hl 2 rfl) ?_
      refine lv_iconst (v := (3 : Int32)) hx hb dX13_man_26 (by decide) ?_
      refine lv_icmp_ge (tgt := 64) hx hb dX13_man_27 (by decide) (fun c_27 => ?_) (fun c_27 => ?_)
      · have hf := (if_pos c_27).symm.trans hf
        refine lv_iload_n hx hb dX13_man_64 rfl (lv_at hl 2 rfl) ?_
        refine lv_iconst (v := (3 : Int32)) hx hb dX13_man_65 (by decide) ?_
        refine lv_icmp_ne (tgt := 81) hx hb dX13_man_66 (by decide) (fun c_66 => ?_) (fun c_66 => ?_)
        · have hf := (if_neg c_66).symm.trans hf
          refine lv_iload_n hx hb dX13_man_81 rfl (lv_at hl 2 rfl) ?_
          refine lv_iconst (v := (4 : Int32)) hx hb dX13_man_82 (by decide) ?_
          refine lv_icmp_ne (tgt := 98) hx hb dX13_man_83 (by decide) (fun c_83 => ?_) (fun c_83 => ?_)
          · have hf := (if_neg c_83).symm.trans hf
            refine lv_aload_n hx hb dX13_man_98 rfl (lv_at hl 0 rfl) ?_
            refine lv_iload_n hx hb dX13_man_99 rfl (lv_at hl 1 rfl) ?_
            obtain ⟨r100, hc_100, hf⟩ := bd_some hf
            refine k_V (As := [.int (x1)]) (rest := []) (index := 410) (C := RX13) X (c_X13_isConsul hc_100) tw_1769 tw_1771 tw_79 tw_130 tw_1772 ⟨rfl, rfl⟩ hd_X13_isConsul ⟨Nat.le_of_ble_eq_true rfl, Nat.le_of_ble_eq_true rfl⟩ ⟨Nat.zero_le _, Nat.zero_le _⟩ hw [0, 1, 2, 3, 4, 5, 6, 7, 8, 9, 10, 11, 12, 13, 14, 15, 16, 17, 18, 19, 20, 21, 22, 23, 24, 25, 26, 27, 28, 29, 30, 31, 32, 33, 34, 35, 36, 37, 38, 39, 40, 41, 42, 43, 44, 45, 46] rfl rfl 0 rfl rfl rfl rfl hl.1 rfl (Nat.le_of_ble_eq_true rfl) dX13_man_100 (fun H locs hw => ?_)
            have hw : Wd E A s.heap (wX13 E t_o t_q ((0 : Int32)) t_taped t_tape t_size t_place t_begin t_token t_word t_told t_wrong t_city t_manName t_dangerName t_decreeName t_kind t_skill t_fieldTold t_want t_hates t_restsOn t_sizeTold t_grows t_lineFrom t_lineTo t_codes t_code t_lawLine t_toldLines t_opened t_compared t_kept t_keptBy t_ahead t_against t_sum t_sumBy t_term t_termBy t_byNot t_valueOf t_given t_fresh t_consulsMany t_lines t_lineWhat t_lineA t_lineB t_tolds t_toldDanger t_toldMonths t_toldSize t_s t_aside t_tried t_marked t_undone t_isLaid t_done t_heading t_bestHeading t_leastLeft t_goesTo t_bestGoes t_leastMonths t_g) H locs := hw
            refine lv_if_eq (tgt := 110) hx hb dX13_man_103 (by decide) (fun c_103 => ?_) (fun c_103 => ?_)
            · have hf := (if_pos c_103).symm.trans hf
              refine lv_iconst (v := (0 : Int32)) hx hb dX13_man_110 (by decide) ?_
              obtain rfl := Option.some.inj hf
              exact k_iret X hw dX13_man_111
            · have hf := (if_neg c_103).symm.trans hf
              refine lv_iconst (v := (1 : Int32)) hx hb dX13_man_106 (by decide) ?_
              refine lv_goto (tgt := 111) hx hb dX13_man_107 (by decide) ?_
              obtain rfl := Option.some.inj hf
              exact k_iret X hw dX13_man_111
          · have hf := (if_pos c_83).symm.trans hf
            refine lv_aload_n hx hb dX13_man_86 rfl (lv_at hl 0 rfl) ?_
            refine k_get (q0 := 0) (ci := 11) (C := RX13) (T := TX13) (N := 65) (x := .ref (t_q 51)) X inx_13 hw rfl rfl 51 (by decide) rfl tw_1424 rfl dX13_man_87 ?_
            refine lv_bipush (v := (17 : Int32)) hx hb dX13_man_90 (by decide) ?_
            refine lv_iload_n hx hb dX13_man_92 rfl (lv_at hl 1 rfl) ?_
            refine lv_iadd hx hb dX13_man_93 ?_
            obtain ⟨hi_94, hf⟩ := gd_some hf
            refine k_iald (q0 := 37) (n := 23) (f := t_s) X hw rfl hi_94 dX13_man_94 ?_
            refine lv_goto (tgt := 111) hx hb dX13_man_95 (by decide) ?_
            obtain rfl := Option.some.inj hf
            exact k_iret X hw dX13_man_111
        · have hf := (if_pos c_66).symm.trans hf
          refine lv_aload_n hx hb dX13_man_69 rfl (lv_at hl 0 rfl) ?_
          refine k_get (q0 := 0) (ci := 11) (C := RX13) (T := TX13) (N := 65) (x := .ref (t_q 51)) X inx_13 hw rfl rfl 51 (by decide) rfl tw_1424 rfl dX13_man_70 ?_
          refine lv_bipush (v := (11 : Int32)) hx hb dX13_man_73 (by decide) ?_
          refine lv_iload_n hx hb dX13_man_75 rfl (lv_at hl 1 rfl) ?_
          refine lv_iadd hx hb dX13_man_76 ?_
          obtain ⟨hi_77, hf⟩ := gd_some hf
          refine k_iald (q0 := 37) (n := 23) (f := t_s) X hw rfl hi_77 dX13_man_77 ?_
          refine lv_goto (tgt := 111) hx hb dX13_man_78 (by decide) ?_
          obtain rfl := Option.some.inj hf
          exact k_iret X hw dX13_man_111
      · have hf := (if_neg c_27).symm.trans hf
        refine lv_iload_n hx hb dX13_man_30 rfl (lv_at hl 2 rfl) ?_
        refine lv_if_ne (tgt := 43) hx hb dX13_man_31 (by decide) (fun c_31 => ?_) (fun c_31 => ?_)
        · have hf := (if_neg c_31).symm.trans hf
          refine lv_iload_n hx hb dX13_man_43 rfl (lv_at hl 2 rfl) ?_
          refine lv_iconst (v := (1 : Int32)) hx hb dX13_man_44 (by decide) ?_
          refine lv_icmp_ne (tgt := 57) hx hb dX13_man_45 (by decide) (fun c_45 => ?_) (fun c_45 => ?_)
          · have hf := (if_neg c_45).symm.trans hf
            refine lv_aload_n hx hb dX13_man_57 rfl (lv_at hl 0 rfl) ?_
            refine k_get (q0 := 0) (ci := 11) (C := RX13) (T := TX13) (N := 65) (x := .ref (t_q 17)) X inx_13 hw rfl rfl 17 (by decide) rfl tw_1390 rfl dX13_man_58 ?_
            refine lv_iload_n hx hb dX13_man_61 rfl (lv_at hl 1 rfl) ?_
            obtain ⟨hi_62, hf⟩ := gd_some hf
            refine k_iald (q0 := 9) (n := 12) (f := t_want) X hw rfl hi_62 dX13_man_62 ?_
            obtain rfl := Option.some.inj hf
            exact k_iret X hw dX13_man_63
          · have hf := (if_pos c_45).symm.trans hf
            refine lv_aload_n hx hb dX13_man_48 rfl (lv_at hl 0 rfl) ?_
            refine k_get (q0 := 0) (ci := 11) (C := RX13) (T := TX13) (N := 65) (x := .ref (t_q 15)) X inx_13 hw rfl rfl 15 (by decide) rfl tw_1388 rfl dX13_man_49 ?_
            refine lv_iload_n hx hb dX13_man_52 rfl (lv_at hl 1 rfl) ?_
            obtain ⟨hi_53, hf⟩ := gd_some hf
            refine k_iald (q0 := 7) (n := 12) (f := t_skill) X hw rfl hi_53 dX13_man_53 ?_
            refine lv_goto (tgt := 63) hx hb dX13_man_54 (by decide) ?_
            obtain rfl := Option.some.inj hf
            exact k_iret X hw dX13_man_63
        · have hf := (if_pos c_31).symm.trans hf
          refine lv_aload_n hx hb dX13_man_34 rfl (lv_at hl 0 rfl) ?_
          refine k_get (q0 := 0) (ci := 11) (C := RX13) (T := TX13) (N := 65) (x := .ref (t_q 14)) X inx_13 hw rfl rfl 14 (by decide) rfl tw_1387 rfl dX13_man_35 ?_
          refine lv_iload_n hx hb dX13_man_38 rfl (lv_at hl 1 rfl) ?_
          obtain ⟨hi_39, hf⟩ := gd_some hf
          refine k_iald (q0 := 6) (n := 12) (f := t_kind) X hw rfl hi_39 dX13_man_39 ?_
          refine lv_goto (tgt := 63) hx hb dX13_man_40 (by decide) ?_
          obtain rfl := Option.some.inj hf
          exact k_iret X hw dX13_man_63
    · have hf := (if_pos c_19).symm.trans hf
      refine lv_bipush (v := (-2 : Int32)) hx hb dX13_man_22 (by decide) ?_
      obtain rfl := Option.some.inj hf
      exact k_iret X hw dX13_man_24
/-! public int danger(int, int); -/
def f_X13_danger (t_city : (Nat → Int32)) (t_sizeTold : (Nat → Int32)) (t_grows : (Nat → Int32)) (t_s : (Nat → Int32)) (x1 : Int32) (x2 : Int32) : Option (Int32 × Int32) := (f_X13_isDanger t_city (x1)).bind fun r7 => if r7 = (0 : Int32) then some ((-2 : Int32), (0 : Int32))
  else if (f_X13_within (x2) ((0 : Int32)) ((2 : Int32))) = (0 : Int32) then some ((-2 : Int32), (0 : Int32))
  else if x2 = (0 : Int32) then gd (((6 : Int32) + x1)) 23 (some ((t_s (((6 : Int32) + x1)).toNatClampNeg), (0 : Int32)))
  else if x2 = (1 : Int32) then gd (x1) 10 (some ((t_grows (x1).toNatClampNeg), (0 : Int32)))
  else gd (x1) 10 (some ((t_sizeTold (x1).toNatClampNeg), (0 : Int32)))
abbrev rm_X13_danger : Room := { frames := 1, cells := 0, slots := 0, locals := 22 }
theorem hd_X13_danger : yX13_danger.cls = RX13 ∧ yX13_danger.cls ≠ "java/lang/invoke/MethodHandle" ∧ yX13_danger.cls ≠ "java/lang/invoke/VarHandle" ∧ (parseMethodDescriptor yX13_danger.desc).map (fun d => d.parameters.length) = some 2 := by decide +kernel
set_option maxRecDepth 100000 in
set_option maxHeartbeats 4000000 in
theorem c_X13_danger {E : En} {l : Launch} {t_o : Nat} {t_q : Nat → Nat} {t_thrown : Int32} {t_taped : Int32} {t_tape : (Nat → Int32)} {t_size : Int32} {t_place : Int32} {t_begin : Int32} {t_token : Int32} {t_word : Int64} {t_told : Int32} {t_wrong : Int32} {t_city : (Nat → Int32)} {t_manName : (Nat → Int64)} {t_dangerName : (Nat → Int64)} {t_decreeName : (Nat → Int64)} {t_kind : (Nat → Int32)} {t_skill : (Nat → Int32)} {t_fieldTold : (Nat → Int32)} {t_want : (Nat → Int32)} {t_hates : (Nat → Int32)} {t_restsOn : (Nat → Int32)} {t_sizeTold : (Nat → Int32)} {t_grows : (Nat → Int32)} {t_lineFrom : (Nat → Int32)} {t_lineTo : (Nat → Int32)} {t_codes : (Nat → Int32)} {t_code : Int32} {t_lawLine : Int32} {t_toldLines : Int32} {t_opened : (Nat → Int32)} {t_compared : (Nat → Int32)} {t_kept : (Nat → Int32)} {t_keptBy : (Nat → Int32)} {t_ahead : (Nat → Int32)} {t_against : (Nat → Int32)} {t_sum : (Nat → Int32)} {t_sumBy : (Nat → Int32)} {t_term : (Nat → Int32)} {t_termBy : (Nat → Int32)} {t_byNot : (Nat → Int32)} {t_valueOf : (Nat → Int32)} {t_given : Int32} {t_fresh : Int64} {t_consulsMany : Int32} {t_lines : (Nat → Int32)} {t_lineWhat : (Nat → Int32)} {t_lineA : (Nat → Int32)} {t_lineB : (Nat → Int32)} {t_tolds : (Nat → Int32)} {t_toldDanger : (Nat → Int32)} {t_toldMonths : (Nat → Int32)} {t_toldSize : (Nat → Int32)} {t_s : (Nat → Int32)} {t_aside : (Nat → Int32)} {t_tried : (Nat → Int32)} {t_marked : (Nat → Int32)} {t_undone : (Nat → Int32)} {t_isLaid : (Nat → Int32)} {t_done : Int32} {t_heading : (Nat → Int32)} {t_bestHeading : (Nat → Int32)} {t_leastLeft : Int32} {t_goesTo : (Nat → Int32)} {t_bestGoes : (Nat → Int32)} {t_leastMonths : Int32} {t_g : Int64} {x1 : Int32} {x2 : Int32} {out : Int32 × Int32} (hf : f_X13_danger t_city t_sizeTold t_grows t_s x1 x2 = some out) : Cn E l yX13_danger cX13_danger 3 (some .int) rm_X13_danger [.ref t_o, .int (x1), .int (x2)] (wX13 E t_o t_q t_thrown t_taped t_tape t_size t_place t_begin t_token t_word t_told t_wrong t_city t_manName t_dangerName t_decreeName t_kind t_skill t_fieldTold t_want t_hates t_restsOn t_sizeTold t_grows t_lineFrom t_lineTo t_codes t_code t_lawLine t_toldLines t_opened t_compared t_kept t_keptBy t_ahead t_against t_sum t_sumBy t_term t_termBy t_byNot t_valueOf t_given t_fresh t_consulsMany t_lines t_lineWhat t_lineA t_lineB t_tolds t_toldDanger t_toldMonths t_toldSize t_s t_aside t_tried t_marked t_undone t_isLaid t_done t_heading t_bestHeading t_leastLeft t_goesTo t_bestGoes t_leastMonths t_g) (some (.int out.1)) (wX13 E t_o t_q out.2 t_taped t_tape t_size t_place t_begin t_token t_word t_told t_wrong t_city t_manName t_dangerName t_decreeName t_kind t_skill t_fieldTold t_want t_hates t_restsOn t_sizeTold t_grows t_lineFrom t_lineTo t_codes t_code t_lawLine t_toldLines t_opened t_compared t_kept t_keptBy t_ahead t_against t_sum t_sumBy t_term t_termBy t_byNot t_valueOf t_given t_fresh t_consulsMany t_lines t_lineWhat t_lineA t_lineB t_tolds t_toldDanger t_toldMonths t_toldSize t_s t_aside t_tried t_marked t_undone t_isLaid t_done t_heading t_bestHeading t_leastLeft t_goesTo t_bestGoes t_leastMonths t_g) := by
  refine Cn.of (by decide) (Nat.le_of_ble_eq_true rfl) rfl ?_
  intro p e s m below meth c A ls args H locs X hw hl
  have hx := X.1.1
  have hb := X.1.2.1
  have ho := X.1.2.2.2.1
  have hts := X.1.2.2.2.2
  have hl : lv_has ls 3 [(0, .ref t_o), (1, .int (x1)), (2, .int (x2))] := hl
  unfold f_X13_danger at hf
  refine lv_aload_n hx hb dX13_danger_0 rfl (lv_at hl 0 rfl) ?_
  refine lv_iconst (v := (0 : Int32)) hx hb dX13_danger_1 (by decide) ?_
  refine k_put (q0 := 0) (ci := 11) (C := RX13) (T := TX13) (N := 65) (ty0 := tyX13) (x := .int ((0 : Int32))) X inx_13 tyX13_ok nmX13 hw rfl rfl 0 (by decide) rfl rfl tw_1373 rfl rfl (Nat.le_of_ble_eq_true rfl) dX13_danger_2 (fun H locs hw => ?_)
  have hw : Wd E A s.heap (wX13 E t_o t_q ((0 : Int32)) t_taped t_tape t_size t_place t_begin t_token t_word t_told t_wrong t_city t_manName t_dangerName t_decreeName t_kind t_skill t_fieldTold t_want t_hates t_restsOn t_sizeTold t_grows t_lineFrom t_lineTo t_codes t_code t_lawLine t_toldLines t_opened t_compared t_kept t_keptBy t_ahead t_against t_sum t_sumBy t_term t_termBy t_byNot t_valueOf t_given t_fresh t_consulsMany t_lines t_lineWhat t_lineA t_lineB t_tolds t_toldDanger t_toldMonths t_toldSize t_s t_aside t_tried t_marked t_undone t_isLaid t_done t_heading t_bestHeading t_leastLeft t_goesTo t_bestGoes t_leastMonths t_g) H locs := hw
  refine lv_aload_n hx hb dX13_danger_5 rfl (lv_at hl 0 rfl) ?_
  refine lv_iload_n hx hb dX13_danger_6 rfl (lv_at hl 1 rfl) ?_
  obtain ⟨r7, hc_7, hf⟩ := bd_some hf
  refine k_V (As := [.int (x1)]) (rest := []) (index := 446) (C := RX13) X (c_X13_isDanger hc_7) tw_1777 tw_1779 tw_80 tw_130 tw_1780 ⟨rfl, rfl⟩ hd_X13_isDanger ⟨Nat.le_of_ble_eq_true rfl, Nat.le_of_ble_eq_true rfl⟩ ⟨Nat.zero_le _, Nat.zero_le _⟩ hw [0, 1, 2, 3, 4, 5, 6, 7, 8, 9, 10, 11, 12, 13, 14, 15, 16, 17, 18, 19, 20, 21, 22, 23, 24, 25, 26, 27, 28, 29, 30, 31, 32, 33, 34, 35, 36, 37, 38, 39, 40, 41, 42, 43, 44, 45, 46] rfl rfl 0 rfl rfl rfl rfl hl.1 rfl (Nat.le_of_ble_eq_true rfl) dX13_danger_7 (fun H locs hw => ?_)
  have hw : Wd E A s.heap (wX13 E t_o t_q ((0 : Int32)) t_taped t_tape t_size t_place t_begin t_token t_word t_told t_wrong t_city t_manName t_dangerName t_decreeName t_kind t_skill t_fieldTold t_want t_hates t_restsOn t_sizeTold t_grows t_lineFrom t_lineTo t_codes t_code t_lawLine t_toldLines t_opened t_compared t_kept t_keptBy t_ahead t_against t_sum t_sumBy t_term t_termBy t_byNot t_valueOf t_given t_fresh t_consulsMany t_lines t_lineWhat t_lineA t_lineB t_tolds t_toldDanger t_toldMonths t_toldSize t_s t_aside t_tried t_marked t_undone t_isLaid t_done t_heading t_bestHeading t_leastLeft t_goesTo t_bestGoes t_leastMonths t_g) H locs := hw
  refine lv_if_eq (tgt := 22) hx hb dX13_danger_10 (by decide) (fun c_10 => ?_) (fun c_10 => ?_)
  · have hf := (if_pos c_10).symm.trans hf
    refine lv_bipush (v := (-2 : Int32)) hx hb dX13_danger_22 (by decide) ?_
    obtain rfl := Option.some.inj hf
    exact k_iret X hw dX13_danger_24
  · have hf := (if_neg c_10).symm.trans hf
    refine lv_iload_n hx hb dX13_danger_13 rfl (lv_at hl 2 rfl) ?_
    refine lv_iconst (v := (0 : Int32)) hx hb dX13_danger_14 (by decide) ?_
    refine lv_iconst (v := (2 : Int32)) hx hb dX13_danger_15 (by decide) ?_
    refine k_S (As := [.int (x2), .int ((0 : Int32)), .int ((2 : Int32))]) (rest := []) (index := 297) X (c_X13_within (out := (f_X13_within (x2) ((0 : Int32)) ((2 : Int32)))) rfl) tw_1670 tw_1671 tw_130 tw_1672 ⟨rfl, rfl⟩ hd_X13_within ⟨Nat.le_of_ble_eq_true rfl, Nat.le_of_ble_eq_true rfl⟩ ⟨Nat.zero_le _, Nat.zero_le _⟩ hw [] rfl rfl rfl hl.1 rfl (Nat.le_of_ble_eq_true rfl) dX13_danger_16 (fun H locs hw => ?_)
    have hw : Wd E A s.heap (wX13 E t_o t_q ((0 : Int32)) t_taped t_tape t_size t_place t_begin t_token t_word t_told t_wrong t_city t_manName t_dangerName t_decreeName t_kind t_skill t_fieldTold t_want t_hates t_restsOn t_sizeTold t_grows t_lineFrom t_lineTo t_codes t_code t_lawLine t_toldLines t_opened t_compared t_kept t_keptBy t_ahead t_against t_sum t_sumBy t_term t_termBy t_byNot t_valueOf t_given t_fresh t_consulsMany t_lines t_lineWhat t_lineA t_lineB t_tolds t_toldDanger t_toldMonths t_toldSize t_s t_aside t_tried t_marked t_undone t_isLaid t_done t_heading t_bestHeading t_leastLeft t_goesTo t_bestGoes t_leastMonths t_g) H locs := hw
    refine lv_if_ne (tgt := 25) hx hb dX13_danger_19 (by decide) (fun c_19 => ?_) (fun c_19 => ?_)
    · have hf := (if_neg c_19).symm.trans hf
      refine lv_iload_n hx hb dX13_danger_25 rfl (lv_at hl 2 rfl) ?_
      refine lv_if_ne (tgt := 41) hx hb dX13_danger_26 (by decide) (fun c_26 => ?_) (fun c_26 => ?_)
      · have hf := (if_neg c_26).symm.trans hf
        refine lv_iload_n hx hb dX13_danger_41 rfl (lv_at hl 2 rfl) ?_
        refine lv_iconst (v := (1 : Int32)) hx hb dX13_danger_42 (by decide) ?_
        refine lv_icmp_ne (tgt := 55) hx hb dX13_danger_43 (by decide) (fun c_43 => ?_) (fun c_43 => ?_)
        · have hf := (if_neg c_43).symm.trans hf
          refine lv_aload_n hx hb dX13_danger_55 rfl (lv_at hl 0 rfl) ?_
          refine k_get (q0 := 0) (ci := 11) (C := RX13) (T := TX13) (N := 65) (x := .ref (t_q 20)) X inx_13 hw rfl rfl 20 (by decide) rfl tw_1393 rfl dX13_danger_56 ?_
          refine lv_iload_n hx hb dX13_danger_59 rfl (lv_at hl 1 rfl) ?_
          obtain ⟨hi_60, hf⟩ := gd_some hf
          refine k_iald (q0 := 12) (n := 10) (f := t_sizeTold) X hw rfl hi_60 dX13_danger_60 ?_
          obtain rfl := Option.some.inj hf
          exact k_iret X hw dX13_danger_61
        · have hf := (if_pos c_43).symm.trans hf
          refine lv_aload_n hx hb dX13_danger_46 rfl (lv_at hl 0 rfl) ?_
          refine k_get (q0 := 0) (ci := 11) (C := RX13) (T := TX13) (N := 65) (x := .ref (t_q 21)) X inx_13 hw rfl rfl 21 (by decide) rfl tw_1394 rfl dX13_danger_47 ?_
          refine lv_iload_n hx hb dX13_danger_50 rfl (lv_at hl 1 rfl) ?_
          obtain ⟨hi_51, hf⟩ := gd_some hf
          refine k_iald (q0 := 13) (n := 10) (f := t_grows) X hw rfl hi_51 dX13_danger_51 ?_
          refine lv_goto (tgt := 61) hx hb dX13_danger_52 (by decide) ?_
          obtain rfl := Option.some.inj hf
          exact k_iret X hw dX13_danger_61
      · have hf := (if_pos c_26).symm.trans hf
        refine lv_aload_n hx hb dX13_danger_29 rfl (lv_at hl 0 rfl) ?_
        refine k_get (q0 := 0) (ci := 11) (C := RX13) (T := TX13) (N := 65) (x := .ref (t_q 51)) X inx_13 hw rfl rfl 51 (by decide) rfl tw_1424 rfl dX13_danger_30 ?_
        refine lv_bipush (v := (6 : Int32)) hx hb dX13_danger_33 (by decide) ?_
        refine lv_iload_n hx hb dX13_danger_35 rfl (lv_at hl 1 rfl) ?_
        refine lv_iadd hx hb dX13_danger_36 ?_
        obtain ⟨hi_37, hf⟩ := gd_some hf
        refine k_iald (q0 := 37) (n := 23) (f := t_s) X hw rfl hi_37 dX13_danger_37 ?_
        refine lv_goto (tgt := 61) hx hb dX13_danger_38 (by decide) ?_
        obtain rfl := Option.some.inj hf
        exact k_iret X hw dX13_danger_61
    · have hf := (if_pos c_19).symm.trans hf
      refine lv_bipush (v := (-2 : Int32)) hx hb dX13_danger_22 (by decide) ?_
      obtain rfl := Option.some.inj hf
      exact k_iret X hw dX13_danger_24
/-! public boolean may(int, int); -/
def f_X13_may (t_city : (Nat → Int32)) (t_hates : (Nat → Int32)) (x1 : Int32) (x2 : Int32) : Option (Int32 × Int32) := (f_X13_isMan t_city (x1)).bind fun r7 => if r7 = (0 : Int32) then some ((0 : Int32), (0 : Int32))
  else (f_X13_isMan t_city (x2)).bind fun r15 => if r15 = (0 : Int32) then some ((0 : Int32), (0 : Int32))
  else (f_X13_couldName t_city t_hates (x1) (x2)).bind fun r24 => if r24 = (0 : Int32) then some ((0 : Int32), (0 : Int32))
  else some ((1 : Int32), (0 : Int32))
abbrev rm_X13_may : Room := { frames := 2, cells := 0, slots := 0, locals := 43 }
theorem hd_X13_may : yX13_may.cls = RX13 ∧ yX13_may.cls ≠ "java/lang/invoke/MethodHandle" ∧ yX13_may.cls ≠ "java/lang/invoke/VarHandle" ∧ (parseMethodDescriptor yX13_may.desc).map (fun d => d.parameters.length) = some 2 := by decide +kernel
set_option maxRecDepth 100000 in
set_option maxHeartbeats 4000000 in
theorem c_X13_may {E : En} {l : Launch} {t_o : Nat} {t_q : Nat → Nat} {t_thrown : Int32} {t_taped : Int32} {t_tape : (Nat → Int32)} {t_size : Int32} {t_place : Int32} {t_begin : Int32} {t_token : Int32} {t_word : Int64} {t_told : Int32} {t_wrong : Int32} {t_city : (Nat → Int32)} {t_manName : (Nat → Int64)} {t_dangerName : (Nat → Int64)} {t_decreeName : (Nat → Int64)} {t_kind : (Nat → Int32)} {t_skill : (Nat → Int32)} {t_fieldTold : (Nat → Int32)} {t_want : (Nat → Int32)} {t_hates : (Nat → Int32)} {t_restsOn : (Nat → Int32)} {t_sizeTold : (Nat → Int32)} {t_grows : (Nat → Int32)} {t_lineFrom : (Nat → Int32)} {t_lineTo : (Nat → Int32)} {t_codes : (Nat → Int32)} {t_code : Int32} {t_lawLine : Int32} {t_toldLines : Int32} {t_opened : (Nat → Int32)} {t_compared : (Nat → Int32)} {t_kept : (Nat → Int32)} {t_keptBy : (Nat → Int32)} {t_ahead : (Nat → Int32)} {t_against : (Nat → Int32)} {t_sum : (Nat → Int32)} {t_sumBy : (Nat → Int32)} {t_term : (Nat → Int32)} {t_termBy : (Nat → Int32)} {t_byNot : (Nat → Int32)} {t_valueOf : (Nat → Int32)} {t_given : Int32} {t_fresh : Int64} {t_consulsMany : Int32} {t_lines : (Nat → Int32)} {t_lineWhat : (Nat → Int32)} {t_lineA : (Nat → Int32)} {t_lineB : (Nat → Int32)} {t_tolds : (Nat → Int32)} {t_toldDanger : (Nat → Int32)} {t_toldMonths : (Nat → Int32)} {t_toldSize : (Nat → Int32)} {t_s : (Nat → Int32)} {t_aside : (Nat → Int32)} {t_tried : (Nat → Int32)} {t_marked : (Nat → Int32)} {t_undone : (Nat → Int32)} {t_isLaid : (Nat → Int32)} {t_done : Int32} {t_heading : (Nat → Int32)} {t_bestHeading : (Nat → Int32)} {t_leastLeft : Int32} {t_goesTo : (Nat → Int32)} {t_bestGoes : (Nat → Int32)} {t_leastMonths : Int32} {t_g : Int64} {x1 : Int32} {x2 : Int32} {out : Int32 × Int32} (hf : f_X13_may t_city t_hates x1 x2 = some out) : Cn E l yX13_may cX13_may 3 (some .boolean) rm_X13_may [.ref t_o, .int (x1), .int (x2)] (wX13 E t_o t_q t_thrown t_taped t_tape t_size t_place t_begin t_token t_word t_told t_wrong t_city t_manName t_dangerName t_decreeName t_kind t_skill t_fieldTold t_want t_hates t_restsOn t_sizeTold t_grows t_lineFrom t_lineTo t_codes t_code t_lawLine t_toldLines t_opened t_compared t_kept t_keptBy t_ahead t_against t_sum t_sumBy t_term t_termBy t_byNot t_valueOf t_given t_fresh t_consulsMany t_lines t_lineWhat t_lineA t_lineB t_tolds t_toldDanger t_toldMonths t_toldSize t_s t_aside t_tried t_marked t_undone t_isLaid t_done t_heading t_bestHeading t_leastLeft t_goesTo t_bestGoes t_leastMonths t_g) (some (.int out.1)) (wX13 E t_o t_q out.2 t_taped t_tape t_size t_place t_begin t_token t_word t_told t_wrong t_city t_manName t_dangerName t_decreeName t_kind t_skill t_fieldTold t_want t_hates t_restsOn t_sizeTold t_grows t_lineFrom t_lineTo t_codes t_code t_lawLine t_toldLines t_opened t_compared t_kept t_keptBy t_ahead t_against t_sum t_sumBy t_term t_termBy t_byNot t_valueOf t_given t_fresh t_consulsMany t_lines t_lineWhat t_lineA t_lineB t_tolds t_toldDanger t_toldMonths t_toldSize t_s t_aside t_tried t_marked t_undone t_isLaid t_done t_heading t_bestHeading t_leastLeft t_goesTo t_bestGoes t_leastMonths t_g) := by
  refine Cn.of (by decide) (Nat.le_of_ble_eq_true rfl) rfl ?_
  intro p e s m below meth c A ls args H locs X hw hl
  have hx := X.1.1
  have hb := X.1.2.1
  have ho := X.1.2.2.2.1
  have hts := X.1.2.2.2.2
  have hl : lv_has ls 3 [(0, .ref t_o), (1, .int (x1)), (2, .int (x2))] := hl
  unfold f_X13_may at hf
  refine lv_aload_n hx hb dX13_may_0 rfl (lv_at hl 0 rfl) ?_
  refine lv_iconst (v := (0 : Int32)) hx hb dX13_may_1 (by decide) ?_
  refine k_put (q0 := 0) (ci := 11) (C := RX13) (T := TX13) (N := 65) (ty0 := tyX13) (x := .int ((0 : Int32))) X inx_13 tyX13_ok nmX13 hw rfl rfl 0 (by decide) rfl rfl tw_1373 rfl rfl (Nat.le_of_ble_eq_true rfl) dX13_may_2 (fun H locs hw => ?_)
  have hw : Wd E A s.heap (wX13 E t_o t_q ((0 : Int32)) t_taped t_tape t_size t_place t_begin t_token t_word t_told t_wrong t_city t_manName t_dangerName t_decreeName t_kind t_skill t_fieldTold t_want t_hates t_restsOn t_sizeTold t_grows t_lineFrom t_lineTo t_codes t_code t_lawLine t_toldLines t_opened t_compared t_kept t_keptBy t_ahead t_against t_sum t_sumBy t_term t_termBy t_byNot t_valueOf t_given t_fresh t_consulsMany t_lines t_lineWhat t_lineA t_lineB t_tolds t_toldDanger t_toldMonths t_toldSize t_s t_aside t_tried t_marked t_undone t_isLaid t_done t_heading t_bestHeading t_leastLeft t_goesTo t_bestGoes t_leastMonths t_g) H locs := hw
  refine lv_aload_n hx hb dX13_may_5 rfl (lv_at hl 0 rfl) ?_
  refine lv_iload_n hx hb dX13_may_6 rfl (lv_at hl 1 rfl) ?_
  obtain ⟨r7, hc_7, hf⟩ := bd_some hf
  refine k_V (As := [.int (x1)]) (rest := []) (index := 443) (C := RX13) X (c_X13_isMan hc_7) tw_1765 tw_1767 tw_78 tw_130 tw_1768 ⟨rfl, rfl⟩ hd_X13_isMan ⟨Nat.le_of_ble_eq_true rfl, Nat.le_of_ble_eq_true rfl⟩ ⟨Nat.zero_le _, Nat.zero_le _⟩ hw [0, 1, 2, 3, 4, 5, 6, 7, 8, 9, 10, 11, 12, 13, 14, 15, 16, 17, 18, 19, 20, 21, 22, 23, 24, 25, 26, 27, 28, 29, 30, 31, 32, 33, 34, 35, 36, 37, 38, 39, 40, 41, 42, 43, 44, 45, 46] rfl rfl 0 rfl rfl rfl rfl hl.1 rfl (Nat.le_of_ble_eq_true rfl) dX13_may_7 (fun H locs hw => ?_)
  have hw : Wd E A s.heap (wX13 E t_o t_q ((0 : Int32)) t_taped t_tape t_size t_place t_begin t_token t_word t_told t_wrong t_city t_manName t_dangerName t_decreeName t_kind t_skill t_fieldTold t_want t_hates t_restsOn t_sizeTold t_grows t_lineFrom t_lineTo t_codes t_code t_lawLine t_toldLines t_opened t_compared t_kept t_keptBy t_ahead t_against t_sum t_sumBy t_term t_termBy t_byNot t_valueOf t_given t_fresh t_consulsMany t_lines t_lineWhat t_lineA t_lineB t_tolds t_toldDanger t_toldMonths t_toldSize t_s t_aside t_tried t_marked t_undone t_isLaid t_done t_heading t_bestHeading t_leastLeft t_goesTo t_bestGoes t_leastMonths t_g) H locs := hw
  refine lv_if_eq (tgt := 34) hx hb dX13_may_10 (by decide) (fun c_10 => ?_) (fun c_10 => ?_)
  · have hf := (if_pos c_10).symm.trans hf
    refine lv_iconst (v := (0 : Int32)) hx hb dX13_may_34 (by decide) ?_
    obtain rfl := Option.some.inj hf
    exact k_zret X (Or.inl rfl) hw dX13_may_35
  · have hf := (if_neg c_10).symm.trans hf
    refine lv_aload_n hx hb dX13_may_13 rfl (lv_at hl 0 rfl) ?_
    refine lv_iload_n hx hb dX13_may_14 rfl (lv_at hl 2 rfl) ?_
    obtain ⟨r15, hc_15, hf⟩ := bd_some hf
    refine k_V (As := [.int (x2)]) (rest := []) (index := 443) (C := RX13) X (c_X13_isMan hc_15) tw_1765 tw_1767 tw_78 tw_130 tw_1768 ⟨rfl, rfl⟩ hd_X13_isMan ⟨Nat.le_of_ble_eq_true rfl, Nat.le_of_ble_eq_true rfl⟩ ⟨Nat.zero_le _, Nat.zero_le _⟩ hw [0, 1, 2, 3, 4, 5, 6, 7, 8, 9, 10, 11, 12, 13, 14, 15, 16, 17, 18, 19, 20, 21, 22, 23, 24, 25, 26, 27, 28, 29, 30, 31, 32, 33, 34, 35, 36, 37, 38, 39, 40, 41, 42, 43, 44, 45, 46] rfl rfl 0 rfl rfl rfl rfl hl.1 rfl (Nat.le_of_ble_eq_true rfl) dX13_may_15 (fun H locs hw => ?_)
    have hw : Wd E A s.heap (wX13 E t_o t_q ((0 : Int32)) t_taped t_tape t_size t_place t_begin t_token t_word t_told t_wrong t_city t_manName t_dangerName t_decreeName t_kind t_skill t_fieldTold t_want t_hates t_restsOn t_sizeTold t_grows t_lineFrom t_lineTo t_codes t_code t_lawLine t_toldLines t_opened t_compared t_kept t_keptBy t_ahead t_against t_sum t_sumBy t_term t_termBy t_byNot t_valueOf t_given t_fresh t_consulsMany t_lines t_lineWhat t_lineA t_lineB t_tolds t_toldDanger t_toldMonths t_toldSize t_s t_aside t_tried t_marked t_undone t_isLaid t_done t_heading t_bestHeading t_leastLeft t_goesTo t_bestGoes t_leastMonths t_g) H locs := hw
    refine lv_if_eq (tgt := 34) hx hb dX13_may_18 (by decide) (fun c_18 => ?_) (fun c_18 => ?_)
    · have hf := (if_pos c_18).symm.trans hf
      refine lv_iconst (v := (0 : Int32)) hx hb dX13_may_34 (by decide) ?_
      obtain rfl := Option.some.inj hf
      exact k_zret X (Or.inl rfl) hw dX13_may_35
    · have hf := (if_neg c_18).symm.trans hf
      refine lv_aload_n hx hb dX13_may_21 rfl (lv_at hl 0 rfl) ?_
      refine lv_iload_n hx hb dX13_may_22 rfl (lv_at hl 1 rfl) ?_
      refine lv_iload_n hx hb dX13_may_23 rfl (lv_at hl 2 rfl) ?_
      obtain ⟨r24, hc_24, hf⟩ := bd_some hf
      refine k_V (As := [.int (x1), .int (x2)]) (rest := []) (index := 449) (C := RX13) X (c_X13_couldName hc_24) tw_1785 tw_1787 tw_81 tw_130 tw_1788 ⟨rfl, rfl⟩ hd_X13_couldName ⟨Nat.le_of_ble_eq_true rfl, Nat.le_of_ble_eq_true rfl⟩ ⟨Nat.zero_le _, Nat.zero_le _⟩ hw [0, 1, 2, 3, 4, 5, 6, 7, 8, 9, 10, 11, 12, 13, 14, 15, 16, 17, 18, 19, 20, 21, 22, 23, 24, 25, 26, 27, 28, 29, 30, 31, 32, 33, 34, 35, 36, 37, 38, 39, 40, 41, 42, 43, 44, 45, 46] rfl rfl 0 rfl rfl rfl rfl hl.1 rfl (Nat.le_of_ble_eq_true rfl) dX13_may_24 (fun H locs hw => ?_)
      have hw : Wd E A s.heap (wX13 E t_o t_q ((0 : Int32)) t_taped t_tape t_size t_place t_begin t_token t_word t_told t_wrong t_city t_manName t_dangerName t_decreeName t_kind t_skill t_fieldTold t_want t_hates t_restsOn t_sizeTold t_grows t_lineFrom t_lineTo t_codes t_code t_lawLine t_toldLines t_opened t_compared t_kept t_keptBy t_ahead t_against t_sum t_sumBy t_term t_termBy t_byNot t_valueOf t_given t_fresh t_consulsMany t_lines t_lineWhat t_lineA t_lineB t_tolds t_toldDanger t_toldMonths t_toldSize t_s t_aside t_tried t_marked t_undone t_isLaid t_done t_heading t_bestHeading t_leastLeft t_goesTo t_bestGoes t_leastMonths t_g) H locs := hw
      refine lv_if_eq (tgt := 34) hx hb dX13_may_27 (by decide) (fun c_27 => ?_) (fun c_27 => ?_)
      · have hf := (if_pos c_27).symm.trans hf
        refine lv_iconst (v := (0 : Int32)) hx hb dX13_may_34 (by decide) ?_
        obtain rfl := Option.some.inj hf
        exact k_zret X (Or.inl rfl) hw dX13_may_35
      · have hf := (if_neg c_27).symm.trans hf
        refine lv_iconst (v := (1 : Int32)) hx hb dX13_may_30 (by decide) ?_
        refine lv_goto (tgt := 35) hx hb dX13_may_31 (by decide) ?_
        obtain rfl := Option.some.inj hf
        exact k_zret X (Or.inr rfl) hw dX13_may_35
/-! private void holds(); -/
def f_X13_holds_49 (t_s : (Nat → Int32)) (t_undone : (Nat → Int32)) (t_done : Int32) : Option ((Nat → Int32) × Int32) := (f_X13_copies (23) t_s (368) t_undone ((0 : Int32)) (((23 : Int32) * t_done))).bind fun r65 => some (r65, (t_done + (1 : Int32)))
def f_X13_holds_11 : Nat → (Nat → Int32) → (Nat → Int32) → Int32 → Int32 → Option ((Nat → Int32) × Int32)
  | 0, _, _, _, _ => none
  | n + 1, t_s, t_undone, t_done, x1 => if (345 : Int32) ≤ x1 then f_X13_holds_49 t_s t_undone ((t_done - (1 : Int32)))
    else gd ((x1 + (23 : Int32))) 368 (gd (x1) 368 (f_X13_holds_11 n t_s (upd t_undone (x1).toNatClampNeg ((t_undone ((x1 + (23 : Int32))).toNatClampNeg))) t_done ((x1 + (1 : Int32)))))
def f_X13_holds (t_s : (Nat → Int32)) (t_undone : (Nat → Int32)) (t_done : Int32) : Option ((Nat → Int32) × Int32) := if t_done = (16 : Int32) then f_X13_holds_11 1100 t_s t_undone t_done ((0 : Int32))
  else f_X13_holds_49 t_s t_undone t_done
abbrev rm_X13_holds : Room := { frames := 1, cells := 0, slots := 0, locals := 24 }
theorem hd_X13_holds : yX13_holds.cls = RX13 ∧ yX13_holds.cls ≠ "java/lang/invoke/MethodHandle" ∧ yX13_holds.cls ≠ "java/lang/invoke/VarHandle" ∧ (parseMethodDescriptor yX13_holds.desc).map (fun d => d.parameters.length) = some 0 := by decide +kernel
set_option maxRecDepth 100000 in
set_option maxHeartbeats 4000000 in
theorem kb_X13_holds_49 {E : En} {p : Program} {l : Launch} {e : Env} {s : State} {m : MethodId} {args : Array Value} {below : List Frame} {meth : Method} {c : Code} {A : Nat → Prop} {t_o : Nat} {t_q : Nat → Nat} {t_thrown : Int32} {t_taped : Int32} {t_tape : (Nat → Int32)} {t_size : Int32} {t_place : Int32} {t_begin : Int32} {t_token : Int32} {t_word : Int64} {t_told : Int32} {t_wrong : Int32} {t_city : (Nat → Int32)} {t_manName : (Nat → Int64)} {t_dangerName : (Nat → Int64)} {t_decreeName : (Nat → Int64)} {t_kind : (Nat → Int32)} {t_skill : (Nat → Int32)} {t_fieldTold : (Nat → Int32)} {t_want : (Nat → Int32)} {t_hates : (Nat → Int32)} {t_restsOn : (Nat → Int32)} {t_sizeTold : (Nat → Int32)} {t_grows : (Nat → Int32)} {t_lineFrom : (Nat → Int32)} {t_lineTo : (Nat → Int32)} {t_codes : (Nat → Int32)} {t_code : Int32} {t_lawLine : Int32} {t_toldLines : Int32} {t_opened : (Nat → Int32)} {t_compared : (Nat → Int32)} {t_kept : (Nat → Int32)} {t_keptBy : (Nat → Int32)} {t_ahead : (Nat → Int32)} {t_against : (Nat → Int32)} {t_sum : (Nat → Int32)} {t_sumBy : (Nat → Int32)} {t_term : (Nat → Int32)} {t_termBy : (Nat → Int32)} {t_byNot : (Nat → Int32)} {t_valueOf : (Nat → Int32)} {t_given : Int32} {t_fresh : Int64} {t_consulsMany : Int32} {t_lines : (Nat → Int32)} {t_lineWhat : (Nat → Int32)} {t_lineA : (Nat → Int32)} {t_lineB : (Nat → Int32)} {t_tolds : (Nat → Int32)} {t_toldDanger : (Nat → Int32)} {t_toldMonths : (Nat → Int32)} {t_toldSize : (Nat → Int32)} {t_s : (Nat → Int32)} {t_aside : (Nat → Int32)} {t_tried : (Nat → Int32)} {t_marked : (Nat → Int32)} {t_isLaid : (Nat → Int32)} {t_heading : (Nat → Int32)} {t_bestHeading : (Nat → Int32)} {t_leastLeft : Int32} {t_goesTo : (Nat → Int32)} {t_bestGoes : (Nat → Int32)} {t_leastMonths : Int32} {t_g : Int64} {out : (Nat → Int32) × Int32} (X : Bx E A p s m args meth c cX13_holds 2 RX13 none) {t_undone : (Nat → Int32)} {t_done : Int32} {H : Heap} {locs : List Loc} {ls : Array Slot} (hf : f_X13_holds_49 t_s t_undone t_done = some out) : Wd E A s.heap (wX13 E t_o t_q t_thrown t_taped t_tape t_size t_place t_begin t_token t_word t_told t_wrong t_city t_manName t_dangerName t_decreeName t_kind t_skill t_fieldTold t_want t_hates t_restsOn t_sizeTold t_grows t_lineFrom t_lineTo t_codes t_code t_lawLine t_toldLines t_opened t_compared t_kept t_keptBy t_ahead t_against t_sum t_sumBy t_term t_termBy t_byNot t_valueOf t_given t_fresh t_consulsMany t_lines t_lineWhat t_lineA t_lineB t_tolds t_toldDanger t_toldMonths t_toldSize t_s t_aside t_tried t_marked t_undone t_isLaid t_done t_heading t_bestHeading t_leastLeft t_goesTo t_bestGoes t_leastMonths t_g) H locs → lv_has ls 2 [(0, .ref t_o)] → W p l e rm_X13_holds s m args below meth c H locs 0 0 (Zn E below args s A none (wX13 E t_o t_q t_thrown t_taped t_tape t_size t_place t_begin t_token t_word t_told t_wrong t_city t_manName t_dangerName t_decreeName t_kind t_skill t_fieldTold t_want t_hates t_restsOn t_sizeTold t_grows t_lineFrom t_lineTo t_codes t_code t_lawLine t_toldLines t_opened t_compared t_kept t_keptBy t_ahead t_against t_sum t_sumBy t_term t_termBy t_byNot t_valueOf t_given t_fresh t_consulsMany t_lines t_lineWhat t_lineA t_lineB t_tolds t_toldDanger t_toldMonths t_toldSize t_s t_aside t_tried t_marked out.1 t_isLaid out.2 t_heading t_bestHeading t_leastLeft t_goesTo t_bestGoes t_leastMonths t_g)) (F0 m 49 ls []) := by
  have hx := X.1.1
  have hb := X.1.2.1
  have ho := X.1.2.2.2.1
  have hts := X.1.2.2.2.2
  intro hw hl
  unfold f_X13_holds_49 at hf
  refine lv_aload_n hx hb dX13_holds_49 rfl (lv_at hl 0 rfl) ?_
  refine k_get (q0 := 0) (ci := 11) (C := RX13) (T := TX13) (N := 65) (x := .ref (t_q 51)) X inx_13 hw rfl rfl 51 (by decide) rfl tw_1424 rfl dX13_holds_50 ?_
  refine lv_iconst (v := (0 : Int32)) hx hb dX13_holds_53 (by decide) ?_
  refine lv_aload_n hx hb dX13_holds_54 rfl (lv_at hl 0 rfl) ?_
  refine k_get (q0 := 0) (ci := 11) (C := RX13) (T := TX13) (N := 65) (x := .ref (t_q 55)) X inx_13 hw rfl rfl 55 (by decide) rfl tw_1428 rfl dX13_holds_55 ?_
  refine lv_bipush (v := (23 : Int32)) hx hb dX13_holds_58 (by decide) ?_
  refine lv_aload_n hx hb dX13_holds_60 rfl (lv_at hl 0 rfl) ?_
  refine k_get (q0 := 0) (ci := 11) (C := RX13) (T := TX13) (N := 65) (x := .int (t_done)) X inx_13 hw rfl rfl 57 (by decide) rfl tw_1430 rfl dX13_holds_61 ?_
  refine lv_imul hx hb dX13_holds_64 ?_
  obtain ⟨r65, hc_65, hf⟩ := bd_some hf
  refine k_S (As := [.ref (t_q 51), .int ((0 : Int32)), .ref (t_q 55), .int (((23 : Int32) * t_done))]) (rest := []) (index := 452) X (c_X13_copies hc_65) tw_1797 tw_1798 tw_130 tw_1799 ⟨rfl, rfl⟩ hd_X13_copies ⟨Nat.le_of_ble_eq_true rfl, Nat.le_of_ble_eq_true rfl⟩ ⟨Nat.zero_le _, Nat.zero_le _⟩ hw [37, 41] rfl rfl rfl hl.1 rfl (Nat.le_of_ble_eq_true rfl) dX13_holds_65 (fun H locs hw => ?_)
  have hw : Wd E A s.heap (wX13 E t_o t_q t_thrown t_taped t_tape t_size t_place t_begin t_token t_word t_told t_wrong t_city t_manName t_dangerName t_decreeName t_kind t_skill t_fieldTold t_want t_hates t_restsOn t_sizeTold t_grows t_lineFrom t_lineTo t_codes t_code t_lawLine t_toldLines t_opened t_compared t_kept t_keptBy t_ahead t_against t_sum t_sumBy t_term t_termBy t_byNot t_valueOf t_given t_fresh t_consulsMany t_lines t_lineWhat t_lineA t_lineB t_tolds t_toldDanger t_toldMonths t_toldSize t_s t_aside t_tried t_marked r65 t_isLaid t_done t_heading t_bestHeading t_leastLeft t_goesTo t_bestGoes t_leastMonths t_g) H locs := hw
  refine lv_aload_n hx hb dX13_holds_68 rfl (lv_at hl 0 rfl) ?_
  refine lv_dup hx hb dX13_holds_69 rfl ?_
  refine k_get (q0 := 0) (ci := 11) (C := RX13) (T := TX13) (N := 65) (x := .int (t_done)) X inx_13 hw rfl rfl 57 (by decide) rfl tw_1430 rfl dX13_holds_70 ?_
  refine lv_iconst (v := (1 : Int32)) hx hb dX13_holds_73 (by decide) ?_
  refine lv_iadd hx hb dX13_holds_74 ?_
  refine k_put (q0 := 0) (ci := 11) (C := RX13) (T := TX13) (N := 65) (ty0 := tyX13) (x := .int ((t_done + (1 : Int32)))) X inx_13 tyX13_ok nmX13 hw rfl rfl 57 (by decide) rfl rfl tw_1430 rfl rfl (Nat.le_of_ble_eq_true rfl) dX13_holds_75 (fun H locs hw => ?_)
  have hw : Wd E A s.heap (wX13 E t_o t_q t_thrown t_taped t_tape t_size t_place t_begin t_token t_word t_told t_wrong t_city t_manName t_dangerName t_decreeName t_kind t_skill t_fieldTold t_want t_hates t_restsOn t_sizeTold t_grows t_lineFrom t_lineTo t_codes t_code t_lawLine t_toldLines t_opened t_compared t_kept t_keptBy t_ahead t_against t_sum t_sumBy t_term t_termBy t_byNot t_valueOf t_given t_fresh t_consulsMany t_lines t_lineWhat t_lineA t_lineB t_tolds t_toldDanger t_toldMonths t_toldSize t_s t_aside t_tried t_marked r65 t_isLaid ((t_done + (1 : Int32))) t_heading t_bestHeading t_leastLeft t_goesTo t_bestGoes t_leastMonths t_g) H locs := hw
  obtain rfl := Option.some.inj hf
  exact k_vret X hw dX13_holds_78
set_option maxRecDepth 100000 in
set_option maxHeartbeats 4000000 in
theorem kb_X13_holds_11 {E : En} {p : Program} {l : Launch} {e : Env} {s : State} {m : MethodId} {args : Array Value} {below : List Frame} {meth : Method} {c : Code} {A : Nat → Prop} {t_o : Nat} {t_q : Nat → Nat} {t_thrown : Int32} {t_taped : Int32} {t_tape : (Nat → Int32)} {t_size : Int32} {t_place : Int32} {t_begin : Int32} {t_token : Int32} {t_word : Int64} {t_told : Int32} {t_wrong : Int32} {t_city : (Nat → Int32)} {t_manName : (Nat → Int64)} {t_dangerName : (Nat → Int64)} {t_decreeName : (Nat → Int64)} {t_kind : (Nat → Int32)} {t_skill : (Nat → Int32)} {t_fieldTold : (Nat → Int32)} {t_want : (Nat → Int32)} {t_hates : (Nat → Int32)} {t_restsOn : (Nat → Int32)} {t_sizeTold : (Nat → Int32)} {t_grows : (Nat → Int32)} {t_lineFrom : (Nat → Int32)} {t_lineTo : (Nat → Int32)} {t_codes : (Nat → Int32)} {t_code : Int32} {t_lawLine : Int32} {t_toldLines : Int32} {t_opened : (Nat → Int32)} {t_compared : (Nat → Int32)} {t_kept : (Nat → Int32)} {t_keptBy : (Nat → Int32)} {t_ahead : (Nat → Int32)} {t_against : (Nat → Int32)} {t_sum : (Nat → Int32)} {t_sumBy : (Nat → Int32)} {t_term : (Nat → Int32)} {t_termBy : (Nat → Int32)} {t_byNot : (Nat → Int32)} {t_valueOf : (Nat → Int32)} {t_given : Int32} {t_fresh : Int64} {t_consulsMany : Int32} {t_lines : (Nat → Int32)} {t_lineWhat : (Nat → Int32)} {t_lineA : (Nat → Int32)} {t_lineB : (Nat → Int32)} {t_tolds : (Nat → Int32)} {t_toldDanger : (Nat → Int32)} {t_toldMonths : (Nat → Int32)} {t_toldSize : (Nat → Int32)} {t_s : (Nat → Int32)} {t_aside : (Nat → Int32)} {t_tried : (Nat → Int32)} {t_marked : (Nat → Int32)} {t_isLaid : (Nat → Int32)} {t_heading : (Nat → Int32)} {t_bestHeading : (Nat → Int32)} {t_leastLeft : Int32} {t_goesTo : (Nat → Int32)} {t_bestGoes : (Nat → Int32)} {t_leastMonths : Int32} {t_g : Int64} {out : (Nat → Int32) × Int32} (X : Bx E A p s m args meth c cX13_holds 2 RX13 none) : ∀ (n : Nat) {t_undone : (Nat → Int32)} {t_done : Int32} {x1 : Int32} {H : Heap} {locs : List Loc} {ls : Array Slot}, f_X13_holds_11 n t_s t_undone t_done x1 = some out → Wd E A s.heap (wX13 E t_o t_q t_thrown t_taped t_tape t_size t_place t_begin t_token t_word t_told t_wrong t_city t_manName t_dangerName t_decreeName t_kind t_skill t_fieldTold t_want t_hates t_restsOn t_sizeTold t_grows t_lineFrom t_lineTo t_codes t_code t_lawLine t_toldLines t_opened t_compared t_kept t_keptBy t_ahead t_against t_sum t_sumBy t_term t_termBy t_byNot t_valueOf t_given t_fresh t_consulsMany t_lines t_lineWhat t_lineA t_lineB t_tolds t_toldDanger t_toldMonths t_toldSize t_s t_aside t_tried t_marked t_undone t_isLaid t_done t_heading t_bestHeading t_leastLeft t_goesTo t_bestGoes t_leastMonths t_g) H locs → lv_has ls 2 [(0, .ref t_o), (1, .int (x1))] → W p l e rm_X13_holds s m args below meth c H locs 0 0 (Zn E below args s A none (wX13 E t_o t_q t_thrown t_taped t_tape t_size t_place t_begin t_token t_word t_told t_wrong t_city t_manName t_dangerName t_decreeName t_kind t_skill t_fieldTold t_want t_hates t_restsOn t_sizeTold t_grows t_lineFrom t_lineTo t_codes t_code t_lawLine t_toldLines t_opened t_compared t_kept t_keptBy t_ahead t_against t_sum t_sumBy t_term t_termBy t_byNot t_valueOf t_given t_fresh t_consulsMany t_lines t_lineWhat t_lineA t_lineB t_tolds t_toldDanger t_toldMonths t_toldSize t_s t_aside t_tried t_marked out.1 t_isLaid out.2 t_heading t_bestHeading t_leastLeft t_goesTo t_bestGoes t_leastMonths t_g)) (F0 m 11 ls []) := by
  have hx := X.1.1
  have hb := X.1.2.1
  have ho := X.1.2.2.2.1
  have hts := X.1.2.2.2.2
  intro n
  induction n with
  | zero =>
    intro t_undone t_done x1 H locs ls hf
    have hf : (none : Option ((Nat → Int32) × Int32)) = some out := hf
    cases hf
  | succ n ih =>
    intro t_undone t_done x1 H locs ls hf hw hl
    rw [f_X13_holds_11.eq_2] at hf
    refine lv_iload_n hx hb dX13_holds_11 rfl (lv_at hl 1 rfl) ?_
    refine lv_sipush (v := (345 : Int32)) hx hb dX13_holds_12 (by decide) ?_
    refine lv_icmp_ge (tgt := 39) hx hb dX13_holds_15 (by decide) (fun c_15 => ?_) (fun c_15 => ?_)
    · have hf := (if_pos c_15).symm.trans hf
      refine lv_aload_n hx hb dX13_holds_39 rfl (lv_at hl 0 rfl) ?_
      refine lv_dup hx hb dX13_holds_40 rfl ?_
      refine k_get (q0 := 0) (ci := 11) (C := RX13) (T := TX13) (N := 65) (x := .int (t_done)) X inx_13 hw rfl rfl 57 (by decide) rfl tw_1430 rfl dX13_holds_41 ?_
      refine lv_iconst (v := (1 : Int32)) hx hb dX13_holds_44 (by decide) ?_
      refine lv_isub hx hb dX13_holds_45 ?_
      refine k_put (q0 := 0) (ci := 11) (C := RX13) (T := TX13) (N := 65) (ty0 := tyX13) (x := .int ((t_done - (1 : Int32)))) X inx_13 tyX13_ok nmX13 hw rfl rfl 57 (by decide) rfl rfl tw_1430 rfl rfl (Nat.le_of_ble_eq_true rfl) dX13_holds_46 (fun H locs hw => ?_)
      have hw : Wd E A s.heap (wX13 E t_o t_q t_thrown t_taped t_tape t_size t_place t_begin t_token t_word t_told t_wrong t_city t_manName t_dangerName t_decreeName t_kind t_skill t_fieldTold t_want t_hates t_restsOn t_sizeTold t_grows t_lineFrom t_lineTo t_codes t_code t_lawLine t_toldLines t_opened t_compared t_kept t_keptBy t_ahead t_against t_sum t_sumBy t_term t_termBy t_byNot t_valueOf t_given t_fresh t_consulsMany t_lines t_lineWhat t_lineA t_lineB t_tolds t_toldDanger t_toldMonths t_toldSize t_s t_aside t_tried t_marked t_undone t_isLaid ((t_done - (1 : Int32))) t_heading t_bestHeading t_leastLeft t_goesTo t_bestGoes t_leastMonths t_g) H locs := hw
      exact kb_X13_holds_49 X hf hw (lv_sub hl [0] rfl)
    · have hf := (if_neg c_15).symm.trans hf
      refine lv_aload_n hx hb dX13_holds_18 rfl (lv_at hl 0 rfl) ?_
      refine k_get (q0 := 0) (ci := 11) (C := RX13) (T := TX13) (N := 65) (x := .ref (t_q 55)) X inx_13 hw rfl rfl 55 (by decide) rfl tw_1428 rfl dX13_holds_19 ?_
      refine lv_iload_n hx hb dX13_holds_22 rfl (lv_at hl 1 rfl) ?_
      refine lv_aload_n hx hb dX13_holds_23 rfl (lv_at hl 0 rfl) ?_
      refine k_get (q0 := 0) (ci := 11) (C := RX13) (T := TX13) (N := 65) (x := .ref (t_q 55)) X inx_13 hw rfl rfl 55 (by decide) rfl tw_1428 rfl dX13_holds_24 ?_
      refine lv_iload_n hx hb dX13_holds_27 rfl (lv_at hl 1 rfl) ?_
      refine lv_bipush (v := (23 : Int32)) hx hb dX13_holds_28 (by decide) ?_
      refine lv_iadd hx hb dX13_holds_30 ?_
      obtain ⟨hi_31, hf⟩ := gd_some hf
      refine k_iald (q0 := 41) (n := 368) (f := t_undone) X hw rfl hi_31 dX13_holds_31 ?_
      obtain ⟨hi_32, hf⟩ := gd_some hf
      refine k_iast (q0 := 41) (n := 368) (f := t_undone) X hw rfl hi_32 dX13_holds_32 (fun H locs hw => ?_)
      have hw : Wd E A s.heap (wX13 E t_o t_q t_thrown t_taped t_tape t_size t_place t_begin t_token t_word t_told t_wrong t_city t_manName t_dangerName t_decreeName t_kind t_skill t_fieldTold t_want t_hates t_restsOn t_sizeTold t_grows t_lineFrom t_lineTo t_codes t_code t_lawLine t_toldLines t_opened t_compared t_kept t_keptBy t_ahead t_against t_sum t_sumBy t_term t_termBy t_byNot t_valueOf t_given t_fresh t_consulsMany t_lines t_lineWhat t_lineA t_lineB t_tolds t_toldDanger t_toldMonths t_toldSize t_s t_aside t_tried t_marked (upd t_undone (x1).toNatClampNeg ((t_undone ((x1 + (23 : Int32))).toNatClampNeg))) t_isLaid t_done t_heading t_bestHeading t_leastLeft t_goesTo t_bestGoes t_leastMonths t_g) H locs := hw
      refine lv_iinc (v := (x1 + (1 : Int32))) (lv' := [(1, .int ((x1 + (1 : Int32)))), (0, .ref t_o)]) hx hb dX13_holds_33 hl (k := 1) rfl rfl (by decide) rfl (fun ls hl => ?_)
      refine lv_goto (tgt := 11) hx hb dX13_holds_36 (by decide) ?_
      exact ih hf hw (lv_sub hl [1, 0] rfl)
set_option maxRecDepth 100000 in
set_option maxHeartbeats 4000000 in
theorem c_X13_holds {E : En} {l : Launch} {t_o : Nat} {t_q : Nat → Nat} {t_thrown : Int32} {t_taped : Int32} {t_tape : (Nat → Int32)} {t_size : Int32} {t_place : Int32} {t_begin : Int32} {t_token : Int32} {t_word : Int64} {t_told : Int32} {t_wrong : Int32} {t_city : (Nat → Int32)} {t_manName : (Nat → Int64)} {t_dangerName : (Nat → Int64)} {t_decreeName : (Nat → Int64)} {t_kind : (Nat → Int32)} {t_skill : (Nat → Int32)} {t_fieldTold : (Nat → Int32)} {t_want : (Nat → Int32)} {t_hates : (Nat → Int32)} {t_restsOn : (Nat → Int32)} {t_sizeTold : (Nat → Int32)} {t_grows : (Nat → Int32)} {t_lineFrom : (Nat → Int32)} {t_lineTo : (Nat → Int32)} {t_codes : (Nat → Int32)} {t_code : Int32} {t_lawLine : Int32} {t_toldLines : Int32} {t_opened : (Nat → Int32)} {t_compared : (Nat → Int32)} {t_kept : (Nat → Int32)} {t_keptBy : (Nat → Int32)} {t_ahead : (Nat → Int32)} {t_against : (Nat → Int32)} {t_sum : (Nat → Int32)} {t_sumBy : (Nat → Int32)} {t_term : (Nat → Int32)} {t_termBy : (Nat → Int32)} {t_byNot : (Nat → Int32)} {t_valueOf : (Nat → Int32)} {t_given : Int32} {t_fresh : Int64} {t_consulsMany : Int32} {t_lines : (Nat → Int32)} {t_lineWhat : (Nat → Int32)} {t_lineA : (Nat → Int32)} {t_lineB : (Nat → Int32)} {t_tolds : (Nat → Int32)} {t_toldDanger : (Nat → Int32)} {t_toldMonths : (Nat → Int32)} {t_toldSize : (Nat → Int32)} {t_s : (Nat → Int32)} {t_aside : (Nat → Int32)} {t_tried : (Nat → Int32)} {t_marked : (Nat → Int32)} {t_undone : (Nat → Int32)} {t_isLaid : (Nat → Int32)} {t_done : Int32} {t_heading : (Nat → Int32)} {t_bestHeading : (Nat → Int32)} {t_leastLeft : Int32} {t_goesTo : (Nat → Int32)} {t_bestGoes : (Nat → Int32)} {t_leastMonths : Int32} {t_g : Int64}  {out : (Nat → Int32) × Int32} (hf : f_X13_holds t_s t_undone t_done = some out) : Cn E l yX13_holds cX13_holds 2 none rm_X13_holds [.ref t_o] (wX13 E t_o t_q t_thrown t_taped t_tape t_size t_place t_begin t_token t_word t_told t_wrong t_city t_manName t_dangerName t_decreeName t_kind t_skill t_fieldTold t_want t_hates t_restsOn t_sizeTold t_grows t_lineFrom t_lineTo t_codes t_code t_lawLine t_toldLines t_opened t_compared t_kept t_keptBy t_ahead t_against t_sum t_sumBy t_term t_termBy t_byNot t_valueOf t_given t_fresh t_consulsMany t_lines t_lineWhat t_lineA t_lineB t_tolds t_toldDanger t_toldMonths t_toldSize t_s t_aside t_tried t_marked t_undone t_isLaid t_done t_heading t_bestHeading t_leastLeft t_goesTo t_bestGoes t_leastMonths t_g) none (wX13 E t_o t_q t_thrown t_taped t_tape t_size t_place t_begin t_token t_word t_told t_wrong t_city t_manName t_dangerName t_decreeName t_kind t_skill t_fieldTold t_want t_hates t_restsOn t_sizeTold t_grows t_lineFrom t_lineTo t_codes t_code t_lawLine t_toldLines t_opened t_compared t_kept t_keptBy t_ahead t_against t_sum t_sumBy t_term t_termBy t_byNot t_valueOf t_given t_fresh t_consulsMany t_lines t_lineWhat t_lineA t_lineB t_tolds t_toldDanger t_toldMonths t_toldSize t_s t_aside t_tried t_marked out.1 t_isLaid out.2 t_heading t_bestHeading t_leastLeft t_goesTo t_bestGoes t_leastMonths t_g) := by
  refine Cn.of (by decide) (Nat.le_of_ble_eq_true rfl) rfl ?_
  intro p e s m below meth c A ls args H locs X hw hl
  have hx := X.1.1
  have hb := X.1.2.1
  have ho := X.1.2.2.2.1
  have hts := X.1.2.2.2.2
  have hl : lv_has ls 2 [(0, .ref t_o)] := hl
  unfold f_X13_holds at hf
  refine lv_aload_n hx hb dX13_holds_0 rfl (lv_at hl 0 rfl) ?_
  refine k_get (q0 := 0) (ci := 11) (C := RX13) (T := TX13) (N := 65) (x := .int (t_done)) X inx_13 hw rfl rfl 57 (by decide) rfl tw_1430 rfl dX13_holds_1 ?_
  refine lv_bipush (v := (16 : Int32)) hx hb dX13_holds_4 (by decide) ?_
  refine lv_icmp_ne (tgt := 49) hx hb dX13_holds_6 (by decide) (fun c_6 => ?_) (fun c_6 => ?_)
  · have hf := (if_neg c_6).symm.trans hf
    exact kb_X13_holds_49 X hf hw (lv_sub hl [0] rfl)
  · have hf := (if_pos c_6).symm.trans hf
    refine lv_iconst (v := (0 : Int32)) hx hb dX13_holds_9 (by decide) ?_
    refine lv_istore_n (lv' := [(1, .int ((0 : Int32))), (0, .ref t_o)]) hx hb dX13_holds_10 rfl hl (by decide) rfl (fun ls hl => ?_)
    exact kb_X13_holds_11 X 1100 hf hw (lv_sub hl [1, 0] rfl)
/-! public boolean name(int, int); -/
def f_X13_name (t_city : (Nat → Int32)) (t_hates : (Nat → Int32)) (t_s : (Nat → Int32)) (t_undone : (Nat → Int32)) (t_done : Int32) (x1 : Int32) (x2 : Int32) : Option (Int32 × Int32 × (Nat → Int32) × (Nat → Int32) × Int32) := (f_X13_isMan t_city (x1)).bind fun r7 => if r7 = (0 : Int32) then some ((0 : Int32), (0 : Int32), t_s, t_undone, t_done)
  else (f_X13_isMan t_city (x2)).bind fun r15 => if r15 = (0 : Int32) then some ((0 : Int32), (0 : Int32), t_s, t_undone, t_done)
  else gd ((1 : Int32)) 23 (if (0 : Int32) ≤ (t_s ((1 : Int32)).toNatClampNeg) then some ((0 : Int32), (0 : Int32), t_s, t_undone, t_done)
  else (f_X13_couldName t_city t_hates (x1) (x2)).bind fun r33 => if r33 = (0 : Int32) then some ((0 : Int32), (0 : Int32), t_s, t_undone, t_done)
  else (f_X13_holds t_s t_undone t_done).bind fun r42 => (f_X13_laysPower t_city t_s (x2)).bind fun r47 => some ((1 : Int32), (0 : Int32), r47, r42.1, r42.2))
abbrev rm_X13_name : Room := { frames := 2, cells := 0, slots := 0, locals := 45 }
theorem hd_X13_name : yX13_name.cls = RX13 ∧ yX13_name.cls ≠ "java/lang/invoke/MethodHandle" ∧ yX13_name.cls ≠ "java/lang/invoke/VarHandle" ∧ (parseMethodDescriptor yX13_name.desc).map (fun d => d.parameters.length) = some 2 := by decide +kernel
set_option maxRecDepth 100000 in
set_option maxHeartbeats 4000000 in
theorem c_X13_name {E : En} {l : Launch} {t_o : Nat} {t_q : Nat → Nat} {t_thrown : Int32} {t_taped : Int32} {t_tape : (Nat → Int32)} {t_size : Int32} {t_place : Int32} {t_begin : Int32} {t_token : Int32} {t_word : Int64} {t_told : Int32} {t_wrong : Int32} {t_city : (Nat → Int32)} {t_manName : (Nat → Int64)} {t_dangerName : (Nat → Int64)} {t_decreeName : (Nat → Int64)} {t_kind : (Nat → Int32)} {t_skill : (Nat → Int32)} {t_fieldTold : (Nat → Int32)} {t_want : (Nat → Int32)} {t_hates : (Nat → Int32)} {t_restsOn : (Nat → Int32)} {t_sizeTold : (Nat → Int32)} {t_grows : (Nat → Int32)} {t_lineFrom : (Nat → Int32)} {t_lineTo : (Nat → Int32)} {t_codes : (Nat → Int32)} {t_code : Int32} {t_lawLine : Int32} {t_toldLines : Int32} {t_opened : (Nat → Int32)} {t_compared : (Nat → Int32)} {t_kept : (Nat → Int32)} {t_keptBy : (Nat → Int32)} {t_ahead : (Nat → Int32)} {t_against : (Nat → Int32)} {t_sum : (Nat → Int32)} {t_sumBy : (Nat → Int32)} {t_term : (Nat → Int32)} {t_termBy : (Nat → Int32)} {t_byNot : (Nat → Int32)} {t_valueOf : (Nat → Int32)} {t_given : Int32} {t_fresh : Int64} {t_consulsMany : Int32} {t_lines : (Nat → Int32)} {t_lineWhat : (Nat → Int32)} {t_lineA : (Nat → Int32)} {t_lineB : (Nat → Int32)} {t_tolds : (Nat → Int32)} {t_toldDanger : (Nat → Int32)} {t_toldMonths : (Nat → Int32)} {t_toldSize : (Nat → Int32)} {t_s : (Nat → Int32)} {t_aside : (Nat → Int32)} {t_tried : (Nat → Int32)} {t_marked : (Nat → Int32)} {t_undone : (Nat → Int32)} {t_isLaid : (Nat → Int32)} {t_done : Int32} {t_heading : (Nat → Int32)} {t_bestHeading : (Nat → Int32)} {t_leastLeft : Int32} {t_goesTo : (Nat → Int32)} {t_bestGoes : (Nat → Int32)} {t_leastMonths : Int32} {t_g : Int64} {x1 : Int32} {x2 : Int32} {out : Int32 × Int32 × (Nat → Int32) × (Nat → Int32) × Int32} (hf : f_X13_name t_city t_hates t_s t_undone t_done x1 x2 = some out) : Cn E l yX13_name cX13_name 3 (some .boolean) rm_X13_name [.ref t_o, .int (x1), .int (x2)] (wX13 E t_o t_q t_thrown t_taped t_tape t_size t_place t_begin t_token t_word t_told t_wrong t_city t_manName t_dangerName t_decreeName t_kind t_skill t_fieldTold t_want t_hates t_restsOn t_sizeTold t_grows t_lineFrom t_lineTo t_codes t_code t_lawLine t_toldLines t_opened t_compared t_kept t_keptBy t_ahead t_against t_sum t_sumBy t_term t_termBy t_byNot t_valueOf t_given t_fresh t_consulsMany t_lines t_lineWhat t_lineA t_lineB t_tolds t_toldDanger t_toldMonths t_toldSize t_s t_aside t_tried t_marked t_undone t_isLaid t_done t_heading t_bestHeading t_leastLeft t_goesTo t_bestGoes t_leastMonths t_g) (some (.int out.1)) (wX13 E t_o t_q out.2.1 t_taped t_tape t_size t_place t_begin t_token t_word t_told t_wrong t_city t_manName t_dangerName t_decreeName t_kind t_skill t_fieldTold t_want t_hates t_restsOn t_sizeTold t_grows t_lineFrom t_lineTo t_codes t_code t_lawLine t_toldLines t_opened t_compared t_kept t_keptBy t_ahead t_against t_sum t_sumBy t_term t_termBy t_byNot t_valueOf t_given t_fresh t_consulsMany t_lines t_lineWhat t_lineA t_lineB t_tolds t_toldDanger t_toldMonths t_toldSize out.2.2.1 t_aside t_tried t_marked out.2.2.2.1 t_isLaid out.2.2.2.2 t_heading t_bestHeading t_leastLeft t_goesTo t_bestGoes t_leastMonths t_g) := by
  refine Cn.of (by decide) (Nat.le_of_ble_eq_true rfl) rfl ?_
  intro p e s m below meth c A ls args H locs X hw hl
  have hx := X.1.1
  have hb := X.1.2.1
  have ho := X.1.2.2.2.1
  have hts := X.1.2.2.2.2
  have hl : lv_has ls 3 [(0, .ref t_o), (1, .int (x1)), (2, .int (x2))] := hl
  unfold f_X13_name at hf
  refine lv_aload_n hx hb dX13_name_0 rfl (lv_at hl 0 rfl) ?_
  refine lv_iconst (v := (0 : Int32)) hx hb dX13_name_1 (by decide) ?_
  refine k_put (q0 := 0) (ci := 11) (C := RX13) (T := TX13) (N := 65) (ty0 := tyX13) (x := .int ((0 : Int32))) X inx_13 tyX13_ok nmX13 hw rfl rfl 0 (by decide) rfl rfl tw_1373 rfl rfl (Nat.le_of_ble_eq_true rfl) dX13_name_2 (fun H locs hw => ?_)
  have hw : Wd E A s.heap (wX13 E t_o t_q ((0 : Int32)) t_taped t_tape t_size t_place t_begin t_token t_word t_told t_wrong t_city t_manName t_dangerName t_decreeName t_kind t_skill t_fieldTold t_want t_hates t_restsOn t_sizeTold t_grows t_lineFrom t_lineTo t_codes t_code t_lawLine t_toldLines t_opened t_compared t_kept t_keptBy t_ahead t_against t_sum t_sumBy t_term t_termBy t_byNot t_valueOf t_given t_fresh t_consulsMany t_lines t_lineWhat t_lineA t_lineB t_tolds t_toldDanger t_toldMonths t_toldSize t_s t_aside t_tried t_marked t_undone t_isLaid t_done t_heading t_bestHeading t_leastLeft t_goesTo t_bestGoes t_leastMonths t_g) H locs := hw
  refine lv_aload_n hx hb dX13_name_5 rfl (lv_at hl 0 rfl) ?_
  refine lv_iload_n hx hb dX13_name_6 rfl (lv_at hl 1 rfl) ?_
  obtain ⟨r7, hc_7, hf⟩ := bd_some hf
  refine k_V (As := [.int (x1)]) (rest := []) (index := 443) (C := RX13) X (c_X13_isMan hc_7) tw_1765 tw_1767 tw_78 tw_130 tw_1768 ⟨rfl, rfl⟩ hd_X13_isMan ⟨Nat.le_of_ble_eq_true rfl, Nat.le_of_ble_eq_true rfl⟩ ⟨Nat.zero_le _, Nat.zero_le _⟩ hw [0, 1, 2, 3, 4, 5, 6, 7, 8, 9, 10, 11, 12, 13, 14, 15, 16, 17, 18, 19, 20, 21, 22, 23, 24, 25, 26, 27, 28, 29, 30, 31, 32, 33, 34, 35, 36, 37, 38, 39, 40, 41, 42, 43, 44, 45, 46] rfl rfl 0 rfl rfl rfl rfl hl.1 rfl (Nat.le_of_ble_eq_true rfl) dX13_name_7 (fun H locs hw => ?_)
  have hw : Wd E A s.heap (wX13 E t_o t_q ((0 : Int32)) t_taped t_tape t_size t_place t_begin t_token t_word t_told t_wrong t_city t_manName t_dangerName t_decreeName t_kind t_skill t_fieldTold t_want t_hates t_restsOn t_sizeTold t_grows t_lineFrom t_lineTo t_codes t_code t_lawLine t_toldLines t_opened t_compared t_kept t_keptBy t_ahead t_against t_sum t_sumBy t_term t_termBy t_byNot t_valueOf t_given t_fresh t_consulsMany t_lines t_lineWhat t_lineA t_lineB t_tolds t_toldDanger t_toldMonths t_toldSize t_s t_aside t_tried t_marked t_undone t_isLaid t_done t_heading t_bestHeading t_leastLeft t_goesTo t_bestGoes t_leastMonths t_g) H locs := hw
  refine lv_if_eq (tgt := 39) hx hb dX13_name_10 (by decide) (fun c_10 => ?_) (fun c_10 => ?_)
  · have hf := (if_pos c_10).symm.trans hf
    refine lv_iconst (v := (0 : Int32)) hx hb dX13_name_39 (by decide) ?_
    obtain rfl := Option.some.inj hf
    exact k_zret X (Or.inl rfl) hw dX13_name_40
  · have hf := (if_neg c_10).symm.trans hf
    refine lv_aload_n hx hb dX13_name_13 rfl (lv_at hl 0 rfl) ?_
    refine lv_iload_n hx hb dX13_name_14 rfl (lv_at hl 2 rfl) ?_
    obtain ⟨r15, hc_15, hf⟩ := bd_some hf
    refine k_V (As := [.int (x2)]) (rest := []) (index := 443) (C := RX13) X (c_X13_isMan hc_15) tw_1765 tw_1767 tw_78 tw_130 tw_1768 ⟨rfl, rfl⟩ hd_X13_isMan ⟨Nat.le_of_ble_eq_true rfl, Nat.le_of_ble_eq_true rfl⟩ ⟨Nat.zero_le _, Nat.zero_le _⟩ hw [0, 1, 2, 3, 4, 5, 6, 7, 8, 9, 10, 11, 12, 13, 14, 15, 16, 17, 18, 19, 20, 21, 22, 23, 24, 25, 26, 27, 28, 29, 30, 31, 32, 33, 34, 35, 36, 37, 38, 39, 40, 41, 42, 43, 44, 45, 46] rfl rfl 0 rfl rfl rfl rfl hl.1 rfl (Nat.le_of_ble_eq_true rfl) dX13_name_15 (fun H locs hw => ?_)
    have hw : Wd E A s.heap (wX13 E t_o t_q ((0 : Int32)) t_taped t_tape t_size t_place t_begin t_token t_word t_told t_wrong t_city t_manName t_dangerName t_decreeName t_kind t_skill t_fieldTold t_want t_hates t_restsOn t_sizeTold t_grows t_lineFrom t_lineTo t_codes t_code t_lawLine t_toldLines t_opened t_compared t_kept t_keptBy t_ahead t_against t_sum t_sumBy t_term t_termBy t_byNot t_valueOf t_given t_fresh t_consulsMany t_lines t_lineWhat t_lineA t_lineB t_tolds t_toldDanger t_toldMonths t_toldSize t_s t_aside t_tried t_marked t_undone t_isLaid t_done t_heading t_bestHeading t_leastLeft t_goesTo t_bestGoes t_leastMonths t_g) H locs := hw
    refine lv_if_eq (tgt := 39) hx hb dX13_name_18 (by decide) (fun c_18 => ?_) (fun c_18 => ?_)
    · have hf := (if_pos c_18).symm.trans hf
      refine lv_iconst (v := (0 : Int32)) hx hb dX13_name_39 (by decide) ?_
      obtain rfl := Option.some.inj hf
      exact k_zret X (Or.inl rfl) hw dX13_name_40
    · have hf := (if_neg c_18).symm.trans hf
      refine lv_aload_n hx hb dX13_name_21 rfl (lv_at hl 0 rfl) ?_
      refine k_get (q0 := 0) (ci := 11) (C := RX13) (T := TX13) (N := 65) (x := .ref (t_q 51)) X inx_13 hw rfl rfl 51 (by decide) rfl tw_1424 rfl dX13_name_22 ?_
      refine lv_iconst (v := (1 : Int32)) hx hb dX13_name_25 (by decide) ?_
      obtain ⟨hi_26, hf⟩ := gd_some hf
      refine k_iald (q0 := 37) (n := 23) (f := t_s) X hw rfl hi_26 dX13_name_26 ?_
      refine lv_if_ge (tgt := 39) hx hb dX13_name_27 (by decide) (fun c_27 => ?_) (fun c_27 => ?_)
      · have hf := (if_pos c_27).symm.trans hf
        refine lv_iconst (v := (0 : Int32)) hx hb dX13_name_39 (by decide) ?_
        obtain rfl := Option.some.inj hf
        exact k_zret X (Or.inl rfl) hw dX13_name_40
      · have hf := (if_neg c_27).symm.trans hf
        refine lv_aload_n hx hb dX13_name_30 rfl (lv_at hl 0 rfl) ?_
        refine lv_iload_n hx hb dX13_name_31 rfl (lv_at hl 1 rfl) ?_
        refine lv_iload_n hx hb dX13_name_32 rfl (lv_at hl 2 rfl) ?_
        obtain ⟨r33, hc_33, hf⟩ := bd_some hf
        refine k_V (As := [.int (x1), .int (x2)]) (rest := []) (index := 449) (C := RX13) X (c_X13_couldName hc_33) tw_1785 tw_1787 tw_81 tw_130 tw_1788 ⟨rfl, rfl⟩ hd_X13_couldName ⟨Nat.le_of_ble_eq_true rfl, Nat.le_of_ble_eq_true rfl⟩ ⟨Nat.zero_le _, Nat.zero_le _⟩ hw [0, 1, 2, 3, 4, 5, 6, 7, 8, 9, 10, 11, 12, 13, 14, 15, 16, 17, 18, 19, 20, 21, 22, 23, 24, 25, 26, 27, 28, 29, 30, 31, 32, 33, 34, 35, 36, 37, 38, 39, 40, 41, 42, 43, 44, 45, 46] rfl rfl 0 rfl rfl rfl rfl hl.1 rfl (Nat.le_of_ble_eq_true rfl) dX13_name_33 (fun H locs hw => ?_)
        have hw : Wd E A s.heap (wX13 E t_o t_q ((0 : Int32)) t_taped t_tape t_size t_place t_begin t_token t_word t_told t_wrong t_city t_manName t_dangerName t_decreeName t_kind t_skill t_fieldTold t_want t_hates t_restsOn t_sizeTold t_grows t_lineFrom t_lineTo t_codes t_code t_lawLine t_toldLines t_opened t_compared t_kept t_keptBy t_ahead t_against t_sum t_sumBy t_term t_termBy t_byNot t_valueOf t_given t_fresh t_consulsMany t_lines t_lineWhat t_lineA t_lineB t_tolds t_toldDanger t_toldMonths t_toldSize t_s t_aside t_tried t_marked t_undone t_isLaid t_done t_heading t_bestHeading t_leastLeft t_goesTo t_bestGoes t_leastMonths t_g) H locs := hw
        refine lv_if_ne (tgt := 41) hx hb dX13_name_36 (by decide) (fun c_36 => ?_) (fun c_36 => ?_)
        · have hf := (if_neg c_36).symm.trans hf
          refine lv_aload_n hx hb dX13_name_41 rfl (lv_at hl 0 rfl) ?_
          obtain ⟨r42, hc_42, hf⟩ := bd_some hf
          refine k_V (As := []) (rest := []) (index := 456) (C := RX13) X (c_X13_holds hc_42) tw_1793 tw_1795 tw_82 tw_130 tw_1796 ⟨rfl, rfl⟩ hd_X13_holds ⟨Nat.le_of_ble_eq_true rfl, Nat.le_of_ble_eq_true rfl⟩ ⟨Nat.zero_le _, Nat.zero_le _⟩ hw [0, 1, 2, 3, 4, 5, 6, 7, 8, 9, 10, 11, 12, 13, 14, 15, 16, 17, 18, 19, 20, 21, 22, 23, 24, 25, 26, 27, 28, 29, 30, 31, 32, 33, 34, 35, 36, 37, 38, 39, 40, 41, 42, 43, 44, 45, 46] rfl rfl 0 rfl rfl rfl rfl hl.1 rfl (Nat.le_of_ble_eq_true rfl) dX13_name_42 (fun H locs hw => ?_)
          have hw : Wd E A s.heap (wX13 E t_o t_q ((0 : Int32)) t_taped t_tape t_size t_place t_begin t_token t_word t_told t_wrong t_city t_manName t_dangerName t_decreeName t_kind t_skill t_fieldTold t_want t_hates t_restsOn t_sizeTold t_grows t_lineFrom t_lineTo t_codes t_code t_lawLine t_toldLines t_opened t_compared t_kept t_keptBy t_ahead t_against t_sum t_sumBy t_term t_termBy t_byNot t_valueOf t_given t_fresh t_consulsMany t_lines t_lineWhat t_lineA t_lineB t_tolds t_toldDanger t_toldMonths t_toldSize t_s t_aside t_tried t_marked r42.1 t_isLaid r42.2 t_heading t_bestHeading t_leastLeft t_goesTo t_bestGoes t_leastMonths t_g) H locs := hw
          refine lv_aload_n hx hb dX13_name_45 rfl (lv_at hl 0 rfl) ?_
          refine lv_iload_n hx hb dX13_name_46 rfl (lv_at hl 2 rfl) ?_
          obtain ⟨r47, hc_47, hf⟩ := bd_some hf
          refine k_V (As := [.int (x2)]) (rest := []) (index := 459) (C := RX13) X (c_X13_laysPower hc_47) tw_1800 tw_1802 tw_83 tw_130 tw_1803 ⟨rfl, rfl⟩ hd_X13_laysPower ⟨Nat.le_of_ble_eq_true rfl, Nat.le_of_ble_eq_true rfl⟩ ⟨Nat.zero_le _, Nat.zero_le _⟩ hw [0, 1, 2, 3, 4, 5, 6, 7, 8, 9, 10, 11, 12, 13, 14, 15, 16, 17, 18, 19, 20, 21, 22, 23, 24, 25, 26, 27, 28, 29, 30, 31, 32, 33, 34, 35, 36, 37, 38, 39, 40, 41, 42, 43, 44, 45, 46] rfl rfl 0 rfl rfl rfl rfl hl.1 rfl (Nat.le_of_ble_eq_true rfl) dX13_name_47 (fun H locs hw => ?_)
          have hw : Wd E A s.heap (wX13 E t_o t_q ((0 : Int32)) t_taped t_tape t_size t_place t_begin t_token t_word t_told t_wrong t_city t_manName t_dangerName t_decreeName t_kind t_skill t_fieldTold t_want t_hates t_restsOn t_sizeTold t_grows t_lineFrom t_lineTo t_codes t_code t_lawLine t_toldLines t_opened t_compared t_kept t_keptBy t_ahead t_against t_sum t_sumBy t_term t_termBy t_byNot t_valueOf t_given t_fresh t_consulsMany t_lines t_lineWhat t_lineA t_lineB t_tolds t_toldDanger t_toldMonths t_toldSize r47 t_aside t_tried t_marked r42.1 t_isLaid r42.2 t_heading t_bestHeading t_leastLeft t_goesTo t_bestGoes t_leastMonths t_g) H locs := hw
          refine lv_iconst (v := (1 : Int32)) hx hb dX13_name_50 (by decide) ?_
          obtain rfl := Option.some.inj hf
          exact k_zret X (Or.inr rfl) hw dX13_name_51
        · have hf := (if_pos c_36).symm.trans hf
          refine lv_iconst (v := (0 : Int32)) hx hb dX13_name_39 (by decide) ?_
          obtain rfl := Option.some.inj hf
          exact k_zret X (Or.inl rfl) hw dX13_name_40
/-! public boolean master(int); -/
def f_X13_master (t_city : (Nat → Int32)) (t_s : (Nat → Int32)) (t_undone : (Nat → Int32)) (t_done : Int32) (x1 : Int32) : Option (Int32 × Int32 × (Nat → Int32) × (Nat → Int32) × Int32) := (f_X13_isMan t_city (x1)).bind fun r7 => if r7 = (0 : Int32) then some ((0 : Int32), (0 : Int32), t_s, t_undone, t_done)
  else (f_X13_canBeMaster t_city t_s (x1)).bind fun r15 => if r15 = (0 : Int32) then some ((0 : Int32), (0 : Int32), t_s, t_undone, t_done)
  else gd ((2 : Int32)) 23 (if (t_s ((2 : Int32)).toNatClampNeg) = x1 then some ((0 : Int32), (0 : Int32), t_s, t_undone, t_done)
  else (f_X13_holds t_s t_undone t_done).bind fun r34 => gd ((2 : Int32)) 23 (some ((1 : Int32), (0 : Int32), upd t_s ((2 : Int32)).toNatClampNeg (x1), r34.1, r34.2)))
abbrev rm_X13_master : Room := { frames := 2, cells := 0, slots := 0, locals := 45 }
theorem hd_X13_master : yX13_master.cls = RX13 ∧ yX13_master.cls ≠ "java/lang/invoke/MethodHandle" ∧ yX13_master.cls ≠ "java/lang/invoke/VarHandle" ∧ (parseMethodDescriptor yX13_master.desc).map (fun d => d.parameters.length) = some 1 := by decide +kernel
set_option maxRecDepth 100000 in
set_option maxHeartbeats 4000000 in
theorem c_X13_master {E : En} {l : Launch} {t_o : Nat} {t_q : Nat → Nat} {t_thrown : Int32} {t_taped : Int32} {t_tape : (Nat → Int32)} {t_size : Int32} {t_place : Int32} {t_begin : Int32} {t_token : Int32} {t_word : Int64} {t_told : Int32} {t_wrong : Int32} {t_city : (Nat → Int32)} {t_manName : (Nat → Int64)} {t_dangerName : (Nat → Int64)} {t_decreeName : (Nat → Int64)} {t_kind : (Nat → Int32)} {t_skill : (Nat → Int32)} {t_fieldTold : (Nat → Int32)} {t_want : (Nat → Int32)} {t_hates : (Nat → Int32)} {t_restsOn : (Nat → Int32)} {t_sizeTold : (Nat → Int32)} {t_grows : (Nat → Int32)} {t_lineFrom : (Nat → Int32)} {t_lineTo : (Nat → Int32)} {t_codes : (Nat → Int32)} {t_code : Int32} {t_lawLine : Int32} {t_toldLines : Int32} {t_opened : (Nat → Int32)} {t_compared : (Nat → Int32)} {t_kept : (Nat → Int32)} {t_keptBy : (Nat → Int32)} {t_ahead : (Nat → Int32)} {t_against : (Nat → Int32)} {t_sum : (Nat → Int32)} {t_sumBy : (Nat → Int32)} {t_term : (Nat → Int32)} {t_termBy : (Nat → Int32)} {t_byNot : (Nat → Int32)} {t_valueOf : (Nat → Int32)} {t_given : Int32} {t_fresh : Int64} {t_consulsMany : Int32} {t_lines : (Nat → Int32)} {t_lineWhat : (Nat → Int32)} {t_lineA : (Nat → Int32)} {t_lineB : (Nat → Int32)} {t_tolds : (Nat → Int32)} {t_toldDanger : (Nat → Int32)} {t_toldMonths : (Nat → Int32)} {t_toldSize : (Nat → Int32)} {t_s : (Nat → Int32)} {t_aside : (Nat → Int32)} {t_tried : (Nat → Int32)} {t_marked : (Nat → Int32)} {t_undone : (Nat → Int32)} {t_isLaid : (Nat → Int32)} {t_done : Int32} {t_heading : (Nat → Int32)} {t_bestHeading : (Nat → Int32)} {t_leastLeft : Int32} {t_goesTo : (Nat → Int32)} {t_bestGoes : (Nat → Int32)} {t_leastMonths : Int32} {t_g : Int64} {x1 : Int32} {out : Int32 × Int32 × (Nat → Int32) × (Nat → Int32) × Int32} (hf : f_X13_master t_city t_s t_undone t_done x1 = some out) : Cn E l yX13_master cX13_master 2 (some .boolean) rm_X13_master [.ref t_o, .int (x1)] (wX13 E t_o t_q t_thrown t_taped t_tape t_size t_place t_begin t_token t_word t_told t_wrong t_city t_manName t_dangerName t_decreeName t_kind t_skill t_fieldTold t_want t_hates t_restsOn t_sizeTold t_grows t_lineFrom t_lineTo t_codes t_code t_lawLine t_toldLines t_opened t_compared t_kept t_keptBy t_ahead t_against t_sum t_sumBy t_term t_termBy t_byNot t_valueOf t_given t_fresh t_consulsMany t_lines t_lineWhat t_lineA t_lineB t_tolds t_toldDanger t_toldMonths t_toldSize t_s t_aside t_tried t_marked t_undone t_isLaid t_done t_heading t_bestHeading t_leastLeft t_goesTo t_bestGoes t_leastMonths t_g) (some (.int out.1)) (wX13 E t_o t_q out.2.1 t_taped t_tape t_size t_place t_begin t_token t_word t_told t_wrong t_city t_manName t_dangerName t_decreeName t_kind t_skill t_fieldTold t_want t_hates t_restsOn t_sizeTold t_grows t_lineFrom t_lineTo t_codes t_code t_lawLine t_toldLines t_opened t_compared t_kept t_keptBy t_ahead t_against t_sum t_sumBy t_term t_termBy t_byNot t_valueOf t_given t_fresh t_consulsMany t_lines t_lineWhat t_lineA t_lineB t_tolds t_toldDanger t_toldMonths t_toldSize out.2.2.1 t_aside t_tried t_marked out.2.2.2.1 t_isLaid out.2.2.2.2 t_heading t_bestHeading t_leastLeft t_goesTo t_bestGoes t_leastMonths t_g) := by
  refine Cn.of (by decide) (Nat.le_of_ble_eq_true rfl) rfl ?_
  intro p e s m below meth c A ls args H locs X hw hl
  have hx := X.1.1
  have hb := X.1.2.1
  have ho := X.1.2.2.2.1
  have hts := X.1.2.2.2.2
  have hl : lv_has ls 2 [(0, .ref t_o), (1, .int (x1))] := hl
  unfold f_X13_master at hf
  refine lv_aload_n hx hb dX13_master_0 rfl (lv_at hl 0 rfl) ?_
  refine lv_iconst (v := (0 : Int32)) hx hb dX13_master_1 (by decide) ?_
  refine k_put (q0 := 0) (ci := 11) (C := RX13) (T := TX13) (N := 65) (ty0 := tyX13) (x := .int ((0 : Int32))) X inx_13 tyX13_ok nmX13 hw rfl rfl 0 (by decide) rfl rfl tw_1373 rfl rfl (Nat.le_of_ble_eq_true rfl) dX13_master_2 (fun H locs hw => ?_)
  have hw : Wd E A s.heap (wX13 E t_o t_q ((0 : Int32)) t_taped t_tape t_size t_place t_begin t_token t_word t_told t_wrong t_city t_manName t_dangerName t_decreeName t_kind t_skill t_fieldTold t_want t_hates t_restsOn t_sizeTold t_grows t_lineFrom t_lineTo t_codes t_code t_lawLine t_toldLines t_opened t_compared t_kept t_keptBy t_ahead t_against t_sum t_sumBy t_term t_termBy t_byNot t_valueOf t_given t_fresh t_consulsMany t_lines t_lineWhat t_lineA t_lineB t_tolds t_toldDanger t_toldMonths t_toldSize t_s t_aside t_tried t_marked t_undone t_isLaid t_done t_heading t_bestHeading t_leastLeft t_goesTo t_bestGoes t_leastMonths t_g) H locs := hw
  refine lv_aload_n hx hb dX13_master_5 rfl (lv_at hl 0 rfl) ?_
  refine lv_iload_n hx hb dX13_master_6 rfl (lv_at hl 1 rfl) ?_
  obtain ⟨r7, hc_7, hf⟩ := bd_some hf
  refine k_V (As := [.int (x1)]) (rest := []) (index := 443) (C := RX13) X (c_X13_isMan hc_7) tw_1765 tw_1767 tw_78 tw_130 tw_1768 ⟨rfl, rfl⟩ hd_X13_isMan ⟨Nat.le_of_ble_eq_true rfl, Nat.le_of_ble_eq_true rfl⟩ ⟨Nat.zero_le _, Nat.zero_le _⟩ hw [0, 1, 2, 3, 4, 5, 6, 7, 8, 9, 10, 11, 12, 13, 14, 15, 16, 17, 18, 19, 20, 21, 22, 23, 24, 25, 26, 27, 28, 29, 30, 31, 32, 33, 34, 35, 36, 37, 38, 39, 40, 41, 42, 43, 44, 45, 46] rfl rfl 0 rfl rfl rfl rfl hl.1 rfl (Nat.le_of_ble_eq_true rfl) dX13_master_7 (fun H locs hw => ?_)
  have hw : Wd E A s.heap (wX13 E t_o t_q ((0 : Int32)) t_taped t_tape t_size t_place t_begin t_token t_word t_told t_wrong t_city t_manName t_dangerName t_decreeName t_kind t_skill t_fieldTold t_want t_hates t_restsOn t_sizeTold t_grows t_lineFrom t_lineTo t_codes t_code t_lawLine t_toldLines t_opened t_compared t_kept t_keptBy t_ahead t_against t_sum t_sumBy t_term t_termBy t_byNot t_valueOf t_given t_fresh t_consulsMany t_lines t_lineWhat t_lineA t_lineB t_tolds t_toldDanger t_toldMonths t_toldSize t_s t_aside t_tried t_marked t_undone t_isLaid t_done t_heading t_bestHeading t_leastLeft t_goesTo t_bestGoes t_leastMonths t_g) H locs := hw
  refine lv_if_eq (tgt := 31) hx hb dX13_master_10 (by decide) (fun c_10 => ?_) (fun c_10 => ?_)
  · have hf := (if_pos c_10).symm.trans hf
    refine lv_iconst (v := (0 : Int32)) hx hb dX13_master_31 (by decide) ?_
    obtain rfl := Option.some.inj hf
    exact k_zret X (Or.inl rfl) hw dX13_master_32
  · have hf := (if_neg c_10).symm.trans hf
    refine lv_aload_n hx hb dX13_master_13 rfl (lv_at hl 0 rfl) ?_
    refine lv_iload_n hx hb dX13_master_14 rfl (lv_at hl 1 rfl) ?_
    obtain ⟨r15, hc_15, hf⟩ := bd_some hf
    refine k_V (As := [.int (x1)]) (rest := []) (index := 462) (C := RX13) X (c_X13_canBeMaster hc_15) tw_1812 tw_1814 tw_85 tw_130 tw_1815 ⟨rfl, rfl⟩ hd_X13_canBeMaster ⟨Nat.le_of_ble_eq_true rfl, Nat.le_of_ble_eq_true rfl⟩ ⟨Nat.zero_le _, Nat.zero_le _⟩ hw [0, 1, 2, 3, 4, 5, 6, 7, 8, 9, 10, 11, 12, 13, 14, 15, 16, 17, 18, 19, 20, 21, 22, 23, 24, 25, 26, 27, 28, 29, 30, 31, 32, 33, 34, 35, 36, 37, 38, 39, 40, 41, 42, 43, 44, 45, 46] rfl rfl 0 rfl rfl rfl rfl hl.1 rfl (Nat.le_of_ble_eq_true rfl) dX13_master_15 (fun H locs hw => ?_)
    have hw : Wd E A s.heap (wX13 E t_o t_q ((0 : Int32)) t_taped t_tape t_size t_place t_begin t_token t_word t_told t_wrong t_city t_manName t_dangerName t_decreeName t_kind t_skill t_fieldTold t_want t_hates t_restsOn t_sizeTold t_grows t_lineFrom t_lineTo t_codes t_code t_lawLine t_toldLines t_opened t_compared t_kept t_keptBy t_ahead t_against t_sum t_sumBy t_term t_termBy t_byNot t_valueOf t_given t_fresh t_consulsMany t_lines t_lineWhat t_lineA t_lineB t_tolds t_toldDanger t_toldMonths t_toldSize t_s t_aside t_tried t_marked t_undone t_isLaid t_done t_heading t_bestHeading t_leastLeft t_goesTo t_bestGoes t_leastMonths t_g) H locs := hw
    refine lv_if_eq (tgt := 31) hx hb dX13_master_18 (by decide) (fun c_18 => ?_) (fun c_18 => ?_)
    · have hf := (if_pos c_18).symm.trans hf
      refine lv_iconst (v := (0 : Int32)) hx hb dX13_master_31 (by decide) ?_
      obtain rfl := Option.some.inj hf
      exact k_zret X (Or.inl rfl) hw dX13_master_32
    · have hf := (if_neg c_18).symm.trans hf
      refine lv_aload_n hx hb dX13_master_21 rfl (lv_at hl 0 rfl) ?_
      refine k_get (q0 := 0) (ci := 11) (C := RX13) (T := TX13) (N := 65) (x := .ref (t_q 51)) X inx_13 hw rfl rfl 51 (by decide) rfl tw_1424 rfl dX13_master_22 ?_
      refine lv_iconst (v := (2 : Int32)) hx hb dX13_master_25 (by decide) ?_
      obtain ⟨hi_26, hf⟩ := gd_some hf
      refine k_iald (q0 := 37) (n := 23) (f := t_s) X hw rfl hi_26 dX13_master_26 ?_
      refine lv_iload_n hx hb dX13_master_27 rfl (lv_at hl 1 rfl) ?_
      refine lv_icmp_ne (tgt := 33) hx hb dX13_master_28 (by decide) (fun c_28 => ?_) (fun c_28 => ?_)
      · have hf := (if_neg c_28).symm.trans hf
        refine lv_aload_n hx hb dX13_master_33 rfl (lv_at hl 0 rfl) ?_
        obtain ⟨r34, hc_34, hf⟩ := bd_some hf
        refine k_V (As := []) (rest := []) (index := 456) (C := RX13) X (c_X13_holds hc_34) tw_1793 tw_1795 tw_82 tw_130 tw_1796 ⟨rfl, rfl⟩ hd_X13_holds ⟨Nat.le_of_ble_eq_true rfl, Nat.le_of_ble_eq_true rfl⟩ ⟨Nat.zero_le _, Nat.zero_le _⟩ hw [0, 1, 2, 3, 4, 5, 6, 7, 8, 9, 10, 11, 12, 13, 14, 15, 16, 17, 18, 19, 20, 21, 22, 23, 24, 25, 26, 27, 28, 29, 30, 31, 32, 33, 34, 35, 36, 37, 38, 39, 40, 41, 42, 43, 44, 45, 46] rfl rfl 0 rfl rfl rfl rfl hl.1 rfl (Nat.le_of_ble_eq_true rfl) dX13_master_34 (fun H locs hw => ?_)
        have hw : Wd E A s.heap (wX13 E t_o t_q ((0 : Int32)) t_taped t_tape t_size t_place t_begin t_token t_word t_told t_wrong t_city t_manName t_dangerName t_decreeName t_kind t_skill t_fieldTold t_want t_hates t_restsOn t_sizeTold t_grows t_lineFrom t_lineTo t_codes t_code t_lawLine t_toldLines t_opened t_compared t_kept t_keptBy t_ahead t_against t_sum t_sumBy t_term t_termBy t_byNot t_valueOf t_given t_fresh t_consulsMany t_lines t_lineWhat t_lineA t_lineB t_tolds t_toldDanger t_toldMonths t_toldSize t_s t_aside t_tried t_marked r34.1 t_isLaid r34.2 t_heading t_bestHeading t_leastLeft t_goesTo t_bestGoes t_leastMonths t_g) H locs := hw
        refine lv_aload_n hx hb dX13_master_37 rfl (lv_at hl 0 rfl) ?_
        refine k_get (q0 := 0) (ci := 11) (C := RX13) (T := TX13) (N := 65) (x := .ref (t_q 51)) X inx_13 hw rfl rfl 51 (by decide) rfl tw_1424 rfl dX13_master_38 ?_
        refine lv_iconst (v := (2 : Int32)) hx hb dX13_master_41 (by decide) ?_
        refine lv_iload_n hx hb dX13_master_42 rfl (lv_at hl 1 rfl) ?_
        obtain ⟨hi_43, hf⟩ := gd_some hf
        refine k_iast (q0 := 37) (n := 23) (f := t_s) X hw rfl hi_43 dX13_master_43 (fun H locs hw => ?_)
        have hw : Wd E A s.heap (wX13 E t_o t_q ((0 : Int32)) t_taped t_tape t_size t_place t_begin t_token t_word t_told t_wrong t_city t_manName t_dangerName t_decreeName t_kind t_skill t_fieldTold t_want t_hates t_restsOn t_sizeTold t_grows t_lineFrom t_lineTo t_codes t_code t_lawLine t_toldLines t_opened t_compared t_kept t_keptBy t_ahead t_against t_sum t_sumBy t_term t_termBy t_byNot t_valueOf t_given t_fresh t_consulsMany t_lines t_lineWhat t_lineA t_lineB t_tolds t_toldDanger t_toldMonths t_toldSize (upd t_s ((2 : Int32)).toNatClampNeg (x1)) t_aside t_tried t_marked r34.1 t_isLaid r34.2 t_heading t_bestHeading t_leastLeft t_goesTo t_bestGoes t_leastMonths t_g) H locs := hw
        refine lv_iconst (v := (1 : Int32)) hx hb dX13_master_44 (by decide) ?_
        obtain rfl := Option.some.inj hf
        exact k_zret X (Or.inr rfl) hw dX13_master_45
      · have hf := (if_pos c_28).symm.trans hf
        refine lv_iconst (v := (0 : Int32)) hx hb dX13_master_31 (by decide) ?_
        obtain rfl := Option.some.inj hf
        exact k_zret X (Or.inl rfl) hw dX13_master_32
/-! private boolean canDisobey(); -/
def f_X13_canDisobey (t_s : (Nat → Int32)) : Option (Int32) := gd ((1 : Int32)) 23 (if (t_s ((1 : Int32)).toNatClampNeg) < (0 : Int32) then some ((0 : Int32))
  else gd ((2 : Int32)) 23 (if (t_s ((2 : Int32)).toNatClampNeg) < (0 : Int32) then some ((0 : Int32))
  else some ((1 : Int32))))
abbrev rm_X13_canDisobey : Room := { frames := 0, cells := 0, slots := 0, locals := 0 }
theorem hd_X13_canDisobey : yX13_canDisobey.cls = RX13 ∧ yX13_canDisobey.cls ≠ "java/lang/invoke/MethodHandle" ∧ yX13_canDisobey.cls ≠ "java/lang/invoke/VarHandle" ∧ (parseMethodDescriptor yX13_canDisobey.desc).map (fun d => d.parameters.length) = some 0 := by decide +kernel
set_option maxRecDepth 100000 in
set_option maxHeartbeats 4000000 in
theorem c_X13_canDisobey {E : En} {l : Launch} {t_o : Nat} {t_q : Nat → Nat} {t_thrown : Int32} {t_taped : Int32} {t_tape : (Nat → Int32)} {t_size : Int32} {t_place : Int32} {t_begin : Int32} {t_token : Int32} {t_word : Int64} {t_told : Int32} {t_wrong : Int32} {t_city : (Nat → Int32)} {t_manName : (Nat → Int64)} {t_dangerName : (Nat → Int64)} {t_decreeName : (Nat → Int64)} {t_kind : (Nat → Int32)} {t_skill : (Nat → Int32)} {t_fieldTold : (Nat → Int32)} {t_want : (Nat → Int32)} {t_hates : (Nat → Int32)} {t_restsOn : (Nat → Int32)} {t_sizeTold : (Nat → Int32)} {t_grows : (Nat → Int32)} {t_lineFrom : (Nat → Int32)} {t_lineTo : (Nat → Int32)} {t_codes : (Nat → Int32)} {t_code : Int32} {t_lawLine : Int32} {t_toldLines : Int32} {t_opened : (Nat → Int32)} {t_compared : (Nat → Int32)} {t_kept : (Nat → Int32)} {t_keptBy : (Nat → Int32)} {t_ahead : (Nat → Int32)} {t_against : (Nat → Int32)} {t_sum : (Nat → Int32)} {t_sumBy : (Nat → Int32)} {t_term : (Nat → Int32)} {t_termBy : (Nat → Int32)} {t_byNot : (Nat → Int32)} {t_valueOf : (Nat → Int32)} {t_given : Int32} {t_fresh : Int64} {t_consulsMany : Int32} {t_lines : (Nat → Int32)} {t_lineWhat : (Nat → Int32)} {t_lineA : (Nat → Int32)} {t_lineB : (Nat → Int32)} {t_tolds : (Nat → Int32)} {t_toldDanger : (Nat → Int32)} {t_toldMonths : (Nat → Int32)} {t_toldSize : (Nat → Int32)} {t_s : (Nat → Int32)} {t_aside : (Nat → Int32)} {t_tried : (Nat → Int32)} {t_marked : (Nat → Int32)} {t_undone : (Nat → Int32)} {t_isLaid : (Nat → Int32)} {t_done : Int32} {t_heading : (Nat → Int32)} {t_bestHeading : (Nat → Int32)} {t_leastLeft : Int32} {t_goesTo : (Nat → Int32)} {t_bestGoes : (Nat → Int32)} {t_leastMonths : Int32} {t_g : Int64}  {out : Int32} (hf : f_X13_canDisobey t_s = some out) : Cn E l yX13_canDisobey cX13_canDisobey 1 (some .boolean) rm_X13_canDisobey [.ref t_o] (wX13 E t_o t_q t_thrown t_taped t_tape t_size t_place t_begin t_token t_word t_told t_wrong t_city t_manName t_dangerName t_decreeName t_kind t_skill t_fieldTold t_want t_hates t_restsOn t_sizeTold t_grows t_lineFrom t_lineTo t_codes t_code t_lawLine t_toldLines t_opened t_compared t_kept t_keptBy t_ahead t_against t_sum t_sumBy t_term t_termBy t_byNot t_valueOf t_given t_fresh t_consulsMany t_lines t_lineWhat t_lineA t_lineB t_tolds t_toldDanger t_toldMonths t_toldSize t_s t_aside t_tried t_marked t_undone t_isLaid t_done t_heading t_bestHeading t_leastLeft t_goesTo t_bestGoes t_leastMonths t_g) (some (.int out)) (wX13 E t_o t_q t_thrown t_taped t_tape t_size t_place t_begin t_token t_word t_told t_wrong t_city t_manName t_dangerName t_decreeName t_kind t_skill t_fieldTold t_want t_hates t_restsOn t_sizeTold t_grows t_lineFrom t_lineTo t_codes t_code t_lawLine t_toldLines t_opened t_compared t_kept t_keptBy t_ahead t_against t_sum t_sumBy t_term t_termBy t_byNot t_valueOf t_given t_fresh t_consulsMany t_lines t_lineWhat t_lineA t_lineB t_tolds t_toldDanger t_toldMonths t_toldSize t_s t_aside t_tried t_marked t_undone t_isLaid t_done t_heading t_bestHeading t_leastLeft t_goesTo t_bestGoes t_leastMonths t_g) := by
  refine Cn.of (by decide) (Nat.le_of_ble_eq_true rfl) rfl ?_
  intro p e s m below meth c A ls args H locs X hw hl
  have hx := X.1.1
  have hb := X.1.2.1
  have ho := X.1.2.2.2.1
  have hts := X.1.2.2.2.2
  have hl : lv_has ls 1 [(0, .ref t_o)] := hl
  unfold f_X13_canDisobey at hf
  refine lv_aload_n hx hb dX13_canDisobey_0 rfl (lv_at hl 0 rfl) ?_
  refine k_get (q0 := 0) (ci := 11) (C := RX13) (T := TX13) (N := 65) (x := .ref (t_q 51)) X inx_13 hw rfl rfl 51 (by decide) rfl tw_1424 rfl dX13_canDisobey_1 ?_
  refine lv_iconst (v := (1 : Int32)) hx hb dX13_canDisobey_4 (by decide) ?_
  obtain ⟨hi_5, hf⟩ := gd_some hf
  refine k_iald (q0 := 37) (n := 23) (f := t_s) X hw rfl hi_5 dX13_canDisobey_5 ?_
  refine lv_if_lt (tgt := 22) hx hb dX13_canDisobey_6 (by decide) (fun c_6 => ?_) (fun c_6 => ?_)
  · have hf := (if_pos c_6).symm.trans hf
    refine lv_iconst (v := (0 : Int32)) hx hb dX13_canDisobey_22 (by decide) ?_
    obtain rfl := Option.some.inj hf
    exact k_zret X (Or.inl rfl) hw dX13_canDisobey_23
  · have hf := (if_neg c_6).symm.trans hf
    refine lv_aload_n hx hb dX13_canDisobey_9 rfl (lv_at hl 0 rfl) ?_
    refine k_get (q0 := 0) (ci := 11) (C := RX13) (T := TX13) (N := 65) (x := .ref (t_q 51)) X inx_13 hw rfl rfl 51 (by decide) rfl tw_1424 rfl dX13_canDisobey_10 ?_
    refine lv_iconst (v := (2 : Int32)) hx hb dX13_canDisobey_13 (by decide) ?_
    obtain ⟨hi_14, hf⟩ := gd_some hf
    refine k_iald (q0 := 37) (n := 23) (f := t_s) X hw rfl hi_14 dX13_canDisobey_14 ?_
    refine lv_if_lt (tgt := 22) hx hb dX13_canDisobey_15 (by decide) (fun c_15 => ?_) (fun c_15 => ?_)
    · have hf := (if_pos c_15).symm.trans hf
      refine lv_iconst (v := (0 : Int32)) hx hb dX13_canDisobey_22 (by decide) ?_
      obtain rfl := Option.some.inj hf
      exact k_zret X (Or.inl rfl) hw dX13_canDisobey_23
    · have hf := (if_neg c_15).symm.trans hf
      refine lv_iconst (v := (1 : Int32)) hx hb dX13_canDisobey_18 (by decide) ?_
      refine lv_goto (tgt := 23) hx hb dX13_canDisobey_19 (by decide) ?_
      obtain rfl := Option.some.inj hf
      exact k_zret X (Or.inr rfl) hw dX13_canDisobey_23
/-! private boolean canLay(); -/
def f_X13_canLay (t_s : (Nat → Int32)) : Option (Int32) := gd ((1 : Int32)) 23 (if (t_s ((1 : Int32)).toNatClampNeg) < (0 : Int32) then some ((0 : Int32))
  else gd ((4 : Int32)) 23 (if (t_s ((4 : Int32)).toNatClampNeg) = (0 : Int32) then some ((1 : Int32))
  else some ((0 : Int32))))
abbrev rm_X13_canLay : Room := { frames := 0, cells := 0, slots := 0, locals := 0 }
theorem hd_X13_canLay : yX13_canLay.cls = RX13 ∧ yX13_canLay.cls ≠ "java/lang/invoke/MethodHandle" ∧ yX13_canLay.cls ≠ "java/lang/invoke/VarHandle" ∧ (parseMethodDescriptor yX13_canLay.desc).map (fun d => d.parameters.length) = some 0 := by decide +kernel
set_option maxRecDepth 100000 in
set_option maxHeartbeats 4000000 in
theorem c_X13_canLay {E : En} {l : Launch} {t_o : Nat} {t_q : Nat → Nat} {t_thrown : Int32} {t_taped : Int32} {t_tape : (Nat → Int32)} {t_size : Int32} {t_place : Int32} {t_begin : Int32} {t_token : Int32} {t_word : Int64} {t_told : Int32} {t_wrong : Int32} {t_city : (Nat → Int32)} {t_manName : (Nat → Int64)} {t_dangerName : (Nat → Int64)} {t_decreeName : (Nat → Int64)} {t_kind : (Nat → Int32)} {t_skill : (Nat → Int32)} {t_fieldTold : (Nat → Int32)} {t_want : (Nat → Int32)} {t_hates : (Nat → Int32)} {t_restsOn : (Nat → Int32)} {t_sizeTold : (Nat → Int32)} {t_grows : (Nat → Int32)} {t_lineFrom : (Nat → Int32)} {t_lineTo : (Nat → Int32)} {t_codes : (Nat → Int32)} {t_code : Int32} {t_lawLine : Int32} {t_toldLines : Int32} {t_opened : (Nat → Int32)} {t_compared : (Nat → Int32)} {t_kept : (Nat → Int32)} {t_keptBy : (Nat → Int32)} {t_ahead : (Nat → Int32)} {t_against : (Nat → Int32)} {t_sum : (Nat → Int32)} {t_sumBy : (Nat → Int32)} {t_term : (Nat → Int32)} {t_termBy : (Nat → Int32)} {t_byNot : (Nat → Int32)} {t_valueOf : (Nat → Int32)} {t_given : Int32} {t_fresh : Int64} {t_consulsMany : Int32} {t_lines : (Nat → Int32)} {t_lineWhat : (Nat → Int32)} {t_lineA : (Nat → Int32)} {t_lineB : (Nat → Int32)} {t_tolds : (Nat → Int32)} {t_toldDanger : (Nat → Int32)} {t_toldMonths : (Nat → Int32)} {t_toldSize : (Nat → Int32)} {t_s : (Nat → Int32)} {t_aside : (Nat → Int32)} {t_tried : (Nat → Int32)} {t_marked : (Nat → Int32)} {t_undone : (Nat → Int32)} {t_isLaid : (Nat → Int32)} {t_done : Int32} {t_heading : (Nat → Int32)} {t_bestHeading : (Nat → Int32)} {t_leastLeft : Int32} {t_goesTo : (Nat → Int32)} {t_bestGoes : (Nat → Int32)} {t_leastMonths : Int32} {t_g : Int64}  {out : Int32} (hf : f_X13_canLay t_s = some out) : Cn E l yX13_canLay cX13_canLay 1 (some .boolean) rm_X13_canLay [.ref t_o] (wX13 E t_o t_q t_thrown t_taped t_tape t_size t_place t_begin t_token t_word t_told t_wrong t_city t_manName t_dangerName t_decreeName t_kind t_skill t_fieldTold t_want t_hates t_restsOn t_sizeTold t_grows t_lineFrom t_lineTo t_codes t_code t_lawLine t_toldLines t_opened t_compared t_kept t_keptBy t_ahead t_against t_sum t_sumBy t_term t_termBy t_byNot t_valueOf t_given t_fresh t_consulsMany t_lines t_lineWhat t_lineA t_lineB t_tolds t_toldDanger t_toldMonths t_toldSize t_s t_aside t_tried t_marked t_undone t_isLaid t_done t_heading t_bestHeading t_leastLeft t_goesTo t_bestGoes t_leastMonths t_g) (some (.int out)) (wX13 E t_o t_q t_thrown t_taped t_tape t_size t_place t_begin t_token t_word t_told t_wrong t_city t_manName t_dangerName t_decreeName t_kind t_skill t_fieldTold t_want t_hates t_restsOn t_sizeTold t_grows t_lineFrom t_lineTo t_codes t_code t_lawLine t_toldLines t_opened t_compared t_kept t_keptBy t_ahead t_against t_sum t_sumBy t_term t_termBy t_byNot t_valueOf t_given t_fresh t_consulsMany t_lines t_lineWhat t_lineA t_lineB t_tolds t_toldDanger t_toldMonths t_toldSize t_s t_aside t_tried t_marked t_undone t_isLaid t_done t_heading t_bestHeading t_leastLeft t_goesTo t_bestGoes t_leastMonths t_g) := by
  refine Cn.of (by decide) (Nat.le_of_ble_eq_true rfl) rfl ?_
  intro p e s m below meth c A ls args H locs X hw hl
  have hx := X.1.1
  have hb := X.1.2.1
  have ho := X.1.2.2.2.1
  have hts := X.1.2.2.2.2
  have hl : lv_has ls 1 [(0, .ref t_o)] := hl
  unfold f_X13_canLay at hf
  refine lv_aload_n hx hb dX13_canLay_0 rfl (lv_at hl 0 rfl) ?_
  refine k_get (q0 := 0) (ci := 11) (C := RX13) (T := TX13) (N := 65) (x := .ref (t_q 51)) X inx_13 hw rfl rfl 51 (by decide) rfl tw_1424 rfl dX13_canLay_1 ?_
  refine lv_iconst (v := (1 : Int32)) hx hb dX13_canLay_4 (by decide) ?_
  obtain ⟨hi_5, hf⟩ := gd_some hf
  refine k_iald (q0 := 37) (n := 23) (f := t_s) X hw rfl hi_5 dX13_canLay_5 ?_
  refine lv_if_lt (tgt := 22) hx hb dX13_canLay_6 (by decide) (fun c_6 => ?_) (fun c_6 => ?_)
  · have hf := (if_pos c_6).symm.trans hf
    refine lv_iconst (v := (0 : Int32)) hx hb dX13_canLay_22 (by decide) ?_
    obtain rfl := Option.some.inj hf
    exact k_zret X (Or.inl rfl) hw dX13_canLay_23
  · have hf := (if_neg c_6).symm.trans hf
    refine lv_aload_n hx hb dX13_canLay_9 rfl (lv_at hl 0 rfl) ?_
    refine k_get (q0 := 0) (ci := 11) (C := RX13) (T := TX13) (N := 65) (x := .ref (t_q 51)) X inx_13 hw rfl rfl 51 (by decide) rfl tw_1424 rfl dX13_canLay_10 ?_
    refine lv_iconst (v := (4 : Int32)) hx hb dX13_canLay_13 (by decide) ?_
    obtain ⟨hi_14, hf⟩ := gd_some hf
    refine k_iald (q0 := 37) (n := 23) (f := t_s) X hw rfl hi_14 dX13_canLay_14 ?_
    refine lv_if_ne (tgt := 22) hx hb dX13_canLay_15 (by decide) (fun c_15 => ?_) (fun c_15 => ?_)
    · have hf := (if_neg c_15).symm.trans hf
      refine lv_iconst (v := (0 : Int32)) hx hb dX13_canLay_22 (by decide) ?_
      obtain rfl := Option.some.inj hf
      exact k_zret X (Or.inl rfl) hw dX13_canLay_23
    · have hf := (if_pos c_15).symm.trans hf
      refine lv_iconst (v := (1 : Int32)) hx hb dX13_canLay_18 (by decide) ?_
      refine lv_goto (tgt := 23) hx hb dX13_canLay_19 (by decide) ?_
      obtain rfl := Option.some.inj hf
      exact k_zret X (Or.inr rfl) hw dX13_canLay_23
