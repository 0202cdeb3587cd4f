/-! private boolean consulLine(); -/
def f_X6_consulLine (t_fault : Int32) (tscity_men : Int32) (tscity_consuls : Int32) (tscity_dangers : Int32) (tscity_manNames : (Nat → Int64)) (tscity_dangerNames : (Nat → Int64)) (tstape_signs : (Nat → Int32)) (tstape_length : Int32) (tstape_place : Int32) (tstape_behind : Int32) (tstape_kind : Int32) (tstape_value : Int32) (tstape_letters : Int64) (tstape_word : (Option Nat)) : Option (Int32 × Int32 × Int32 × Int32 × Int32 × Int32 × Int32 × Int64 × (Option Nat)) := if (f_X20_bitCount (tscity_consuls)) < (2 : Int32) then (f_X10_advance tstape_signs tstape_length tstape_behind).bind fun r24 => (f_X6_toldOne t_fault tscity_men tscity_dangers tscity_manNames tscity_dangerNames r24.1 r24.2.2.1 r24.2.2.2.2.1 r24.2.2.2.2.2 ((1 : Int32))).bind fun r29 => if r29.1 = (-1 : Int32) then some ((0 : Int32), r29.2, tscity_consuls, r24.1, r24.2.1, r24.2.2.1, r24.2.2.2.1, r24.2.2.2.2.1, r24.2.2.2.2.2)
    else if (f_X1_isConsul tscity_men tscity_consuls (r29.1)) = (0 : Int32) then (f_X10_advance tstape_signs tstape_length r24.2.1).bind fun r61 => (f_X6_lineEnds r29.2 tstape_signs tstape_length r61.1 r61.2.1 r61.2.2.1 r61.2.2.2.1 r61.2.2.2.2.1 r61.2.2.2.2.2).bind fun r65 => if r65.1 = (0 : Int32) then some ((0 : Int32), r65.2.1, tscity_consuls, r65.2.2.1, r65.2.2.2.1, r65.2.2.2.2.1, r65.2.2.2.2.2.1, r65.2.2.2.2.2.2.1, r65.2.2.2.2.2.2.2)
      else some ((1 : Int32), r65.2.1, (tscity_consuls ||| ((1 : Int32) <<< (r29.1 &&& (31 : Int32)))), r65.2.2.1, r65.2.2.2.1, r65.2.2.2.2.1, r65.2.2.2.2.2.1, r65.2.2.2.2.2.2.1, r65.2.2.2.2.2.2.2)
    else zg ((f_X6_wrong r24.1 ((3 : Int32))).1) (some ((f_X6_wrong r24.1 ((3 : Int32))).1, (f_X6_wrong r24.1 ((3 : Int32))).2, tscity_consuls, r24.1, r24.2.1, r24.2.2.1, r24.2.2.2.1, r24.2.2.2.2.1, r24.2.2.2.2.2))
  else zg ((f_X6_wrong tstape_place ((5 : Int32))).1) (some ((f_X6_wrong tstape_place ((5 : Int32))).1, (f_X6_wrong tstape_place ((5 : Int32))).2, tscity_consuls, tstape_place, tstape_behind, tstape_kind, tstape_value, tstape_letters, tstape_word))
abbrev rm_X6_consulLine : Room := { frames := 4, cells := 0, slots := 0, locals := 84 }
theorem hd_X6_consulLine : yX6_consulLine.cls = RX6 ∧ yX6_consulLine.cls ≠ "java/lang/invoke/MethodHandle" ∧ yX6_consulLine.cls ≠ "java/lang/invoke/VarHandle" ∧ (parseMethodDescriptor yX6_consulLine.desc).map (fun d => d.parameters.length) = some 0 := by decide +kernel
set_option maxRecDepth 100000 in
set_option maxHeartbeats 4000000 in
theorem c_X6_consulLine {E : En} {l : Launch} {t_o : Nat} {t_script : Value} {t_fault : Int32} {tscity_o : Nat} {tscity_q : Nat → Nat} {tscity_men : Int32} {tscity_consuls : Int32} {tscity_dangers : Int32} {tscity_decrees : Int32} {tscity_term : Int32} {tscity_termTold : Int32} {tscity_manNames : (Nat → Int64)} {tscity_kinds : (Nat → Int32)} {tscity_skills : (Nat → Int32)} {tscity_fields : (Nat → Int32)} {tscity_wants : (Nat → Int32)} {tscity_hated : (Nat → Int32)} {tscity_dangerNames : (Nat → Int64)} {tscity_sizes : (Nat → Int32)} {tscity_grows : (Nat → Int32)} {tscity_decreeNames : (Nat → Int64)} {tscity_grounds : (Nat → Int32)} {tscity_laws : Value} {tstape_o : Nat} {tstape_q : Nat → Nat} {tstape_signs : (Nat → Int32)} {tstape_length : Int32} {tstape_place : Int32} {tstape_behind : Int32} {tstape_kind : Int32} {tstape_value : Int32} {tstape_letters : Int64} {tstape_word : (Option Nat)}  {out : Int32 × Int32 × Int32 × Int32 × Int32 × Int32 × Int32 × Int64 × (Option Nat)} (hf : f_X6_consulLine t_fault tscity_men tscity_consuls tscity_dangers tscity_manNames tscity_dangerNames tstape_signs tstape_length tstape_place tstape_behind tstape_kind tstape_value tstape_letters tstape_word = some out) : Cn E l yX6_consulLine cX6_consulLine 2 (some .boolean) rm_X6_consulLine [.ref t_o] (wX6 E t_o (.ref tstape_o) (.ref tscity_o) t_script t_fault ++ (wX1 E tscity_o tscity_q tscity_men tscity_consuls tscity_dangers tscity_decrees tscity_term tscity_termTold tscity_manNames tscity_kinds tscity_skills tscity_fields tscity_wants tscity_hated tscity_dangerNames tscity_sizes tscity_grows tscity_decreeNames tscity_grounds tscity_laws ++ (wX10 E tstape_o tstape_q tstape_signs tstape_length tstape_place tstape_behind tstape_kind tstape_value tstape_letters tstape_word))) (some (.int out.1)) (wX6 E t_o (.ref tstape_o) (.ref tscity_o) t_script out.2.1 ++ (wX1 E tscity_o tscity_q tscity_men out.2.2.1 tscity_dangers tscity_decrees tscity_term tscity_termTold tscity_manNames tscity_kinds tscity_skills tscity_fields tscity_wants tscity_hated tscity_dangerNames tscity_sizes tscity_grows tscity_decreeNames tscity_grounds tscity_laws ++ (wX10 E tstape_o tstape_q tstape_signs tstape_length out.2.2.2.1 out.2.2.2.2.1 out.2.2.2.2.2.1 out.2.2.2.2.2.2.1 out.2.2.2.2.2.2.2.1 out.2.2.2.2.2.2.2.2))) := by
  refine Cn.of (by decide) (Nat.le_of_ble_eq_true rfl) rfl ?_
  intro p e s m below meth c A ls args H locs X hw hl
  have hx := X.1.1
  have hb := X.1.2.1
  have ho := X.1.2.2.2.1
  have hts := X.1.2.2.2.2
  have hl : lv_has ls 2 [(0, .ref t_o)] := hl
  unfold f_X6_consulLine at hf
  refine lv_aload_n hx hb dX6_consulLine_0 rfl (lv_at hl 0 rfl) ?_
  refine k_get (q0 := 0) (ci := 5) (C := RX6) (T := TX6) (N := 4) (x := .ref tscity_o) X inx_6 hw rfl rfl 1 (by decide) rfl tw_193 rfl dX6_consulLine_1 ?_
  refine k_getN (q0 := 1) (ci := 0) (C := RX1) (T := TX1) (N := 18) (host := "PloughCall") (x := .int (tscity_consuls)) X inx_1 hw rfl rfl 1 (by decide) rfl nw_37 rfl dX6_consulLine_4 ?_
  refine k_SX (As := [.int (tscity_consuls)]) (rest := []) (index := 151) X (c_X20_bitCount (out := (f_X20_bitCount (tscity_consuls))) rfl) tw_700 tw_701 tw_134 tw_702 ⟨rfl, rfl⟩ hd_X20_bitCount.2 ⟨Nat.le_of_ble_eq_true rfl, Nat.le_of_ble_eq_true rfl⟩ ⟨Nat.zero_le _, Nat.zero_le _⟩ hw [] rfl rfl rfl hl.1 rfl (Nat.le_of_ble_eq_true rfl) dX6_consulLine_7 (fun H locs hw => ?_)
  have hw : Wd E A s.heap (wX6 E t_o (.ref tstape_o) (.ref tscity_o) t_script t_fault ++ (wX1 E tscity_o tscity_q tscity_men tscity_consuls tscity_dangers tscity_decrees tscity_term tscity_termTold tscity_manNames tscity_kinds tscity_skills tscity_fields tscity_wants tscity_hated tscity_dangerNames tscity_sizes tscity_grows tscity_decreeNames tscity_grounds tscity_laws ++ (wX10 E tstape_o tstape_q tstape_signs tstape_length tstape_place tstape_behind tstape_kind tstape_value tstape_letters tstape_word))) H locs := hw
  refine lv_iconst (v := (2 : Int32)) hx hb dX6_consulLine_10 (by decide) ?_
  refine lv_icmp_lt (tgt := 20) hx hb dX6_consulLine_11 (by decide) (fun c_11 => ?_) (fun c_11 => ?_)
  · have hf := (if_pos c_11).symm.trans hf
    refine lv_aload_n hx hb dX6_consulLine_20 rfl (lv_at hl 0 rfl) ?_
    refine k_get (q0 := 0) (ci := 5) (C := RX6) (T := TX6) (N := 4) (x := .ref tstape_o) X inx_6 hw rfl rfl 0 (by decide) rfl tw_192 rfl dX6_consulLine_21 ?_
    obtain ⟨r24, hc_24, hf⟩ := bd_some hf
    refine k_V (As := []) (rest := []) (index := 103) (C := RX10) X (c_X10_advance hc_24) tw_633 tw_587 tw_588 tw_120 tw_589 ⟨rfl, rfl⟩ hd_X10_advance ⟨Nat.le_of_ble_eq_true rfl, Nat.le_of_ble_eq_true rfl⟩ ⟨Nat.zero_le _, Nat.zero_le _⟩ hw [13, 14] rfl rfl 13 rfl rfl rfl rfl hl.1 rfl (Nat.le_of_ble_eq_true rfl) dX6_consulLine_24 (fun H locs hw => ?_)
    have hw : Wd E A s.heap (wX6 E t_o (.ref tstape_o) (.ref tscity_o) t_script t_fault ++ (wX1 E tscity_o tscity_q tscity_men tscity_consuls tscity_dangers tscity_decrees tscity_term tscity_termTold tscity_manNames tscity_kinds tscity_skills tscity_fields tscity_wants tscity_hated tscity_dangerNames tscity_sizes tscity_grows tscity_decreeNames tscity_grounds tscity_laws ++ (wX10 E tstape_o tstape_q tstape_signs tstape_length r24.1 r24.2.1 r24.2.2.1 r24.2.2.2.1 r24.2.2.2.2.1 r24.2.2.2.2.2))) H locs := hw
    refine lv_aload_n hx hb dX6_consulLine_27 rfl (lv_at hl 0 rfl) ?_
    refine lv_iconst (v := (1 : Int32)) hx hb dX6_consulLine_28 (by decide) ?_
    obtain ⟨r29, hc_29, hf⟩ := bd_some hf
    refine k_V (As := [.int ((1 : Int32))]) (rest := []) (index := 157) (C := RX6) X (c_X6_toldOne hc_29) tw_706 tw_708 tw_10 tw_121 tw_709 ⟨rfl, rfl⟩ hd_X6_toldOne ⟨Nat.le_of_ble_eq_true rfl, Nat.le_of_ble_eq_true rfl⟩ ⟨Nat.zero_le _, Nat.zero_le _⟩ hw [0, 1, 2, 3, 4, 5, 6, 7, 8, 9, 10, 11, 12, 13, 14] rfl rfl 0 rfl rfl rfl rfl hl.1 rfl (Nat.le_of_ble_eq_true rfl) dX6_consulLine_29 (fun H locs hw => ?_)
    have hw : Wd E A s.heap (wX6 E t_o (.ref tstape_o) (.ref tscity_o) t_script r29.2 ++ (wX1 E tscity_o tscity_q tscity_men tscity_consuls tscity_dangers tscity_decrees tscity_term tscity_termTold tscity_manNames tscity_kinds tscity_skills tscity_fields tscity_wants tscity_hated tscity_dangerNames tscity_sizes tscity_grows tscity_decreeNames tscity_grounds tscity_laws ++ (wX10 E tstape_o tstape_q tstape_signs tstape_length r24.1 r24.2.1 r24.2.2.1 r24.2.2.2.1 r24.2.2.2.2.1 r24.2.2.2.2.2))) H locs := hw
    refine lv_istore_n (lv' := [(1, .int (r29.1)), (0, .ref t_o)]) hx hb dX6_consulLine_32 rfl hl (by decide) rfl (fun ls hl => ?_)
    refine lv_iload_n hx hb dX6_consulLine_33 rfl (lv_at hl 0 rfl) ?_
    refine lv_iconst (v := (-1 : Int32)) hx hb dX6_consulLine_34 (by decide) ?_
    refine lv_icmp_ne (tgt := 40) hx hb dX6_consulLine_35 (by decide) (fun c_35 => ?_) (fun c_35 => ?_)
    · have hf := (if_neg c_35).symm.trans hf
      refine lv_aload_n hx hb dX6_consulLine_40 rfl (lv_at hl 1 rfl) ?_
      refine k_get (q0 := 0) (ci := 5) (C := RX6) (T := TX6) (N := 4) (x := .ref tscity_o) X inx_6 hw rfl rfl 1 (by decide) rfl tw_193 rfl dX6_consulLine_41 ?_
      refine lv_iload_n hx hb dX6_consulLine_44 rfl (lv_at hl 0 rfl) ?_
      refine k_V (As := [.int (r29.1)]) (rest := []) (index := 161) (C := RX1) X (c_X1_isConsul (out := (f_X1_isConsul tscity_men tscity_consuls (r29.1))) rfl) tw_712 tw_713 tw_714 tw_126 tw_715 ⟨rfl, rfl⟩ hd_X1_isConsul ⟨Nat.le_of_ble_eq_true rfl, Nat.le_of_ble_eq_true rfl⟩ ⟨Nat.zero_le _, Nat.zero_le _⟩ hw [1, 2, 3, 4, 5, 6, 7, 8, 9, 10, 11, 12] rfl rfl 1 rfl rfl rfl rfl hl.1 rfl (Nat.le_of_ble_eq_true rfl) dX6_consulLine_45 (fun H locs hw => ?_)
      have hw : Wd E A s.heap (wX6 E t_o (.ref tstape_o) (.ref tscity_o) t_script r29.2 ++ (wX1 E tscity_o tscity_q tscity_men tscity_consuls tscity_dangers tscity_decrees tscity_term tscity_termTold tscity_manNames tscity_kinds tscity_skills tscity_fields tscity_wants tscity_hated tscity_dangerNames tscity_sizes tscity_grows tscity_decreeNames tscity_grounds tscity_laws ++ (wX10 E tstape_o tstape_q tstape_signs tstape_length r24.1 r24.2.1 r24.2.2.1 r24.2.2.2.1 r24.2.2.2.2.1 r24.2.2.2.2.2))) H locs := hw
      refine lv_if_eq (tgt := 57) hx hb dX6_consulLine_48 (by decide) (fun c_48 => ?_) (fun c_48 => ?_)
      · have hf := (if_pos c_48).symm.trans hf
        refine lv_aload_n hx hb dX6_consulLine_57 rfl (lv_at hl 1 rfl) ?_
        refine k_get (q0 := 0) (ci := 5) (C := RX6) (T := TX6) (N := 4) (x := .ref tstape_o) X inx_6 hw rfl rfl 0 (by decide) rfl tw_192 rfl dX6_consulLine_58 ?_
        obtain ⟨r61, hc_61, hf⟩ := bd_some hf
        refine k_V (As := []) (rest := []) (index := 103) (C := RX10) X (c_X10_advance hc_61) tw_633 tw_587 tw_588 tw_120 tw_589 ⟨rfl, rfl⟩ hd_X10_advance ⟨Nat.le_of_ble_eq_true rfl, Nat.le_of_ble_eq_true rfl⟩ ⟨Nat.zero_le _, Nat.zero_le _⟩ hw [13, 14] rfl rfl 13 rfl rfl rfl rfl hl.1 rfl (Nat.le_of_ble_eq_true rfl) dX6_consulLine_61 (fun H locs hw => ?_)
        have hw : Wd E A s.heap (wX6 E t_o (.ref tstape_o) (.ref tscity_o) t_script r29.2 ++ (wX1 E tscity_o tscity_q tscity_men tscity_consuls tscity_dangers tscity_decrees tscity_term tscity_termTold tscity_manNames tscity_kinds tscity_skills tscity_fields tscity_wants tscity_hated tscity_dangerNames tscity_sizes tscity_grows tscity_decreeNames tscity_grounds tscity_laws ++ (wX10 E tstape_o tstape_q tstape_signs tstape_length r61.1 r61.2.1 r61.2.2.1 r61.2.2.2.1 r61.2.2.2.2.1 r61.2.2.2.2.2))) H locs := hw
        refine lv_aload_n hx hb dX6_consulLine_64 rfl (lv_at hl 1 rfl) ?_
        obtain ⟨r65, hc_65, hf⟩ := bd_some hf
        refine k_V (As := []) (rest := []) (index := 129) (C := RX6) X (c_X6_lineEnds hc_65) tw_684 tw_686 tw_8 tw_121 tw_687 ⟨rfl, rfl⟩ hd_X6_lineEnds ⟨Nat.le_of_ble_eq_true rfl, Nat.le_of_ble_eq_true rfl⟩ ⟨Nat.zero_le _, Nat.zero_le _⟩ hw [0, 13, 14] rfl rfl 0 rfl rfl rfl rfl hl.1 rfl (Nat.le_of_ble_eq_true rfl) dX6_consulLine_65 (fun H locs hw => ?_)
        have hw : Wd E A s.heap (wX6 E t_o (.ref tstape_o) (.ref tscity_o) t_script r65.2.1 ++ (wX1 E tscity_o tscity_q tscity_men tscity_consuls tscity_dangers tscity_decrees tscity_term tscity_termTold tscity_manNames tscity_kinds tscity_skills tscity_fields tscity_wants tscity_hated tscity_dangerNames tscity_sizes tscity_grows tscity_decreeNames tscity_grounds tscity_laws ++ (wX10 E tstape_o tstape_q tstape_signs tstape_length r65.2.2.1 r65.2.2.2.1 r65.2.2.2.2.1 r65.2.2.2.2.2.1 r65.2.2.2.2.2.2.1 r65.2.2.2.2.2.2.2))) H locs := hw
        refine lv_if_ne (tgt := 73) hx hb dX6_consulLine_68 (by decide) (fun c_68 => ?_) (fun c_68 => ?_)
        · have hf := (if_neg c_68).symm.trans hf
          refine lv_aload_n hx hb dX6_consulLine_73 rfl (lv_at hl 1 rfl) ?_
          refine k_get (q0 := 0) (ci := 5) (C := RX6) (T := TX6) (N := 4) (x := .ref tscity_o) X inx_6 hw rfl rfl 1 (by decide) rfl tw_193 rfl dX6_consulLine_74 ?_
          refine lv_dup hx hb dX6_consulLine_77 rfl ?_
          refine k_getN (q0 := 1) (ci := 0) (C := RX1) (T := TX1) (N := 18) (host := "PloughCall") (x := .int (tscity_consuls)) X inx_1 hw rfl rfl 1 (by decide) rfl nw_37 rfl dX6_consulLine_78 ?_
          refine lv_iconst (v := (1 : Int32)) hx hb dX6_consulLine_81 (by decide) ?_
          refine lv_iload_n hx hb dX6_consulLine_82 rfl (lv_at hl 0 rfl) ?_
          refine lv_ishl hx hb dX6_consulLine_83 ?_
          refine lv_ior hx hb dX6_consulLine_84 ?_
          refine k_putN (q0 := 1) (ci := 0) (C := RX1) (T := TX1) (N := 18) (ty0 := tyX1) (host := "PloughCall") (x := .int ((tscity_consuls ||| ((1 : Int32) <<< (r29.1 &&& (31 : Int32)))))) X inx_1 tyX1_ok nmX1 hw rfl rfl 1 (by decide) rfl rfl nw_37 rfl rfl (Nat.le_of_ble_eq_true rfl) dX6_consulLine_85 (fun H locs hw => ?_)
          have hw : Wd E A s.heap (wX6 E t_o (.ref tstape_o) (.ref tscity_o) t_script r65.2.1 ++ (wX1 E tscity_o tscity_q tscity_men ((tscity_consuls ||| ((1 : Int32) <<< (r29.1 &&& (31 : Int32))))) tscity_dangers tscity_decrees tscity_term tscity_termTold tscity_manNames tscity_kinds tscity_skills tscity_fields tscity_wants tscity_hated tscity_dangerNames tscity_sizes tscity_grows tscity_decreeNames tscity_grounds tscity_laws ++ (wX10 E tstape_o tstape_q tstape_signs tstape_length r65.2.2.1 r65.2.2.2.1 r65.2.2.2.2.1 r65.2.2.2.2.2.1 r65.2.2.2.2.2.2.1 r65.2.2.2.2.2.2.2))) H locs := hw
          refine lv_iconst (v := (1 : Int32)) hx hb dX6_consulLine_88 (by decide) ?_
          obtain rfl := Option.some.inj hf
          exact k_zret X (Or.inr rfl) hw dX6_consulLine_89
        · have hf := (if_pos c_68).symm.trans hf
          refine lv_iconst (v := (0 : Int32)) hx hb dX6_consulLine_71 (by decide) ?_
          obtain rfl := Option.some.inj hf
          exact k_zret X (Or.inl rfl) hw dX6_consulLine_72
      · have hf := (if_neg c_48).symm.trans hf
        refine lv_aload_n hx hb dX6_consulLine_51 rfl (lv_at hl 1 rfl) ?_
        refine lv_iconst (v := (3 : Int32)) hx hb dX6_consulLine_52 (by decide) ?_
        refine k_V (As := [.int ((3 : Int32))]) (rest := []) (index := 62) (C := RX6) X (c_X6_wrong (out := (f_X6_wrong r24.1 ((3 : Int32)))) rfl) tw_617 tw_619 tw_3 tw_121 tw_620 ⟨rfl, rfl⟩ hd_X6_wrong ⟨Nat.le_of_ble_eq_true rfl, Nat.le_of_ble_eq_true rfl⟩ ⟨Nat.zero_le _, Nat.zero_le _⟩ hw [0, 13, 14] rfl rfl 0 rfl rfl rfl rfl hl.1 rfl (Nat.le_of_ble_eq_true rfl) dX6_consulLine_53 (fun H locs hw => ?_)
        have hw : Wd E A s.heap (wX6 E t_o (.ref tstape_o) (.ref tscity_o) t_script ((f_X6_wrong r24.1 ((3 : Int32))).2) ++ (wX1 E tscity_o tscity_q tscity_men tscity_consuls tscity_dangers tscity_decrees tscity_term tscity_termTold tscity_manNames tscity_kinds tscity_skills tscity_fields tscity_wants tscity_hated tscity_dangerNames tscity_sizes tscity_grows tscity_decreeNames tscity_grounds tscity_laws ++ (wX10 E tstape_o tstape_q tstape_signs tstape_length r24.1 r24.2.1 r24.2.2.1 r24.2.2.2.1 r24.2.2.2.2.1 r24.2.2.2.2.2))) H locs := hw
        obtain ⟨hz_56, hf⟩ := zg_some hf
        obtain rfl := Option.some.inj hf
        exact k_zret X hz_56 hw dX6_consulLine_56
    · have hf := (if_pos c_35).symm.trans hf
      refine lv_iconst (v := (0 : Int32)) hx hb dX6_consulLine_38 (by decide) ?_
      obtain rfl := Option.some.inj hf
      exact k_zret X (Or.inl rfl) hw dX6_consulLine_39
  · have hf := (if_neg c_11).symm.trans hf
    refine lv_aload_n hx hb dX6_consulLine_14 rfl (lv_at hl 0 rfl) ?_
    refine lv_iconst (v := (5 : Int32)) hx hb dX6_consulLine_15 (by decide) ?_
    refine k_V (As := [.int ((5 : Int32))]) (rest := []) (index := 62) (C := RX6) X (c_X6_wrong (out := (f_X6_wrong tstape_place ((5 : Int32)))) rfl) tw_617 tw_619 tw_3 tw_121 tw_620 ⟨rfl, rfl⟩ hd_X6_wrong ⟨Nat.le_of_ble_eq_true rfl, Nat.le_of_ble_eq_true rfl⟩ ⟨Nat.zero_le _, Nat.zero_le _⟩ hw [0, 13, 14] rfl rfl 0 rfl rfl rfl rfl hl.1 rfl (Nat.le_of_ble_eq_true rfl) dX6_consulLine_16 (fun H locs hw => ?_)
    have hw : Wd E A s.heap (wX6 E t_o (.ref tstape_o) (.ref tscity_o) t_script ((f_X6_wrong tstape_place ((5 : Int32))).2) ++ (wX1 E tscity_o tscity_q tscity_men tscity_consuls tscity_dangers tscity_decrees tscity_term tscity_termTold tscity_manNames tscity_kinds tscity_skills tscity_fields tscity_wants tscity_hated tscity_dangerNames tscity_sizes tscity_grows tscity_decreeNames tscity_grounds tscity_laws ++ (wX10 E tstape_o tstape_q tstape_signs tstape_length tstape_place tstape_behind tstape_kind tstape_value tstape_letters tstape_word))) H locs := hw
    obtain ⟨hz_19, hf⟩ := zg_some hf
    obtain rfl := Option.some.inj hf
    exact k_zret X hz_19 hw dX6_consulLine_19
/-! private boolean hatesLine(); -/
def f_X6_hatesLine_57 (tscity_hated : (Nat → Int32)) (tstape_place : Int32) (tstape_behind : Int32) (tstape_kind : Int32) (tstape_value : Int32) (tstape_letters : Int64) (tstape_word : (Option Nat)) : Option (Int32 × Int32 × (Nat → Int32) × Int32 × Int32 × Int32 × Int32 × Int64 × (Option Nat)) := zg ((f_X6_wrong tstape_place ((3 : Int32))).1) (some ((f_X6_wrong tstape_place ((3 : Int32))).1, (f_X6_wrong tstape_place ((3 : Int32))).2, tscity_hated, tstape_place, tstape_behind, tstape_kind, tstape_value, tstape_letters, tstape_word))
def f_X6_hatesLine (t_fault : Int32) (tscity_men : Int32) (tscity_dangers : Int32) (tscity_manNames : (Nat → Int64)) (tscity_hated : (Nat → Int32)) (tscity_dangerNames : (Nat → Int64)) (tstape_signs : (Nat → Int32)) (tstape_length : Int32) (tstape_behind : Int32) : Option (Int32 × Int32 × (Nat → Int32) × Int32 × Int32 × Int32 × Int32 × Int64 × (Option Nat)) := (f_X10_advance tstape_signs tstape_length tstape_behind).bind fun r4 => (f_X6_toldOne t_fault tscity_men tscity_dangers tscity_manNames tscity_dangerNames r4.1 r4.2.2.1 r4.2.2.2.2.1 r4.2.2.2.2.2 ((1 : Int32))).bind fun r9 => if r9.1 = (-1 : Int32) then some ((0 : Int32), r9.2, tscity_hated, r4.1, r4.2.1, r4.2.2.1, r4.2.2.2.1, r4.2.2.2.2.1, r4.2.2.2.2.2)
  else (f_X10_advance tstape_signs tstape_length r4.2.1).bind fun r24 => (f_X6_toldOne r9.2 tscity_men tscity_dangers tscity_manNames tscity_dangerNames r24.1 r24.2.2.1 r24.2.2.2.2.1 r24.2.2.2.2.2 ((1 : Int32))).bind fun r29 => if r29.1 = (-1 : Int32) then some ((0 : Int32), r29.2, tscity_hated, r24.1, r24.2.1, r24.2.2.1, r24.2.2.2.1, r24.2.2.2.2.1, r24.2.2.2.2.2)
  else if r29.1 = r9.1 then f_X6_hatesLine_57 tscity_hated r24.1 r24.2.1 r24.2.2.1 r24.2.2.2.1 r24.2.2.2.2.1 r24.2.2.2.2.2
  else if (f_X1_doesHate tscity_men tscity_hated (r9.1) (r29.1)) = (0 : Int32) then (f_X10_advance tstape_signs tstape_length r24.2.1).bind fun r67 => (f_X6_lineEnds r29.2 tstape_signs tstape_length r67.1 r67.2.1 r67.2.2.1 r67.2.2.2.1 r67.2.2.2.2.1 r67.2.2.2.2.2).bind fun r71 => if r71.1 = (0 : Int32) then some ((0 : Int32), r71.2.1, tscity_hated, r71.2.2.1, r71.2.2.2.1, r71.2.2.2.2.1, r71.2.2.2.2.2.1, r71.2.2.2.2.2.2.1, r71.2.2.2.2.2.2.2)
    else some ((1 : Int32), r71.2.1, (gp (6) tscity_hated (r9.1) (((ga (6) tscity_hated (r9.1)) ||| ((1 : Int32) <<< (r29.1 &&& (31 : Int32)))))), r71.2.2.1, r71.2.2.2.1, r71.2.2.2.2.1, r71.2.2.2.2.2.1, r71.2.2.2.2.2.2.1, r71.2.2.2.2.2.2.2)
  else f_X6_hatesLine_57 tscity_hated r24.1 r24.2.1 r24.2.2.1 r24.2.2.2.1 r24.2.2.2.2.1 r24.2.2.2.2.2
abbrev rm_X6_hatesLine : Room := { frames := 4, cells := 0, slots := 0, locals := 84 }
theorem hd_X6_hatesLine : yX6_hatesLine.cls = RX6 ∧ yX6_hatesLine.cls ≠ "java/lang/invoke/MethodHandle" ∧ yX6_hatesLine.cls ≠ "java/lang/invoke/VarHandle" ∧ (parseMethodDescriptor yX6_hatesLine.desc).map (fun d => d.parameters.length) = some 0 := by decide +kernel
set_option maxRecDepth 100000 in
set_option maxHeartbeats 4000000 in
theorem kb_X6_hatesLine_57 {E : En} {p : Program} {l : Launch} {e : Env} {s : State} {m : MethodId} {args : Array Value} {below : List Frame} {meth : Method} {c : Code} {A : Nat → Prop} {t_o : Nat} {t_script : Value} {tscity_o : Nat} {tscity_q : Nat → Nat} {tscity_men : Int32} {tscity_consuls : Int32} {tscity_dangers : Int32} {tscity_decrees : Int32} {tscity_term : Int32} {tscity_termTold : Int32} {tscity_manNames : (Nat → Int64)} {tscity_kinds : (Nat → Int32)} {tscity_skills : (Nat → Int32)} {tscity_fields : (Nat → Int32)} {tscity_wants : (Nat → Int32)} {tscity_dangerNames : (Nat → Int64)} {tscity_sizes : (Nat → Int32)} {tscity_grows : (Nat → Int32)} {tscity_decreeNames : (Nat → Int64)} {tscity_grounds : (Nat → Int32)} {tscity_laws : Value} {tstape_o : Nat} {tstape_q : Nat → Nat} {tstape_signs : (Nat → Int32)} {tstape_length : Int32} {out : Int32 × Int32 × (Nat → Int32) × Int32 × Int32 × Int32 × Int32 × Int64 × (Option Nat)} (X : Bx E A p s m args meth c cX6_hatesLine 3 RX6 (some .boolean)) {t_fault : Int32} {tscity_hated : (Nat → Int32)} {tstape_place : Int32} {tstape_behind : Int32} {tstape_kind : Int32} {tstape_value : Int32} {tstape_letters : Int64} {tstape_word : (Option Nat)} {H : Heap} {locs : List Loc} {ls : Array Slot} (hf : f_X6_hatesLine_57 tscity_hated tstape_place tstape_behind tstape_kind tstape_value tstape_letters tstape_word = some out) : Wd E A s.heap (wX6 E t_o (.ref tstape_o) (.ref tscity_o) t_script t_fault ++ (wX1 E tscity_o tscity_q tscity_men tscity_consuls tscity_dangers tscity_decrees tscity_term tscity_termTold tscity_manNames tscity_kinds tscity_skills tscity_fields tscity_wants tscity_hated tscity_dangerNames tscity_sizes tscity_grows tscity_decreeNames tscity_grounds tscity_laws ++ (wX10 E tstape_o tstape_q tstape_signs tstape_length tstape_place tstape_behind tstape_kind tstape_value tstape_letters tstape_word))) H locs → lv_has ls 3 [(0, .ref t_o)] → W p l e rm_X6_hatesLine s m args below meth c H locs 0 0 (Zn E below args s A (some (.int out.1)) (wX6 E t_o (.ref tstape_o) (.ref tscity_o) t_script out.2.1 ++ (wX1 E tscity_o tscity_q tscity_men tscity_consuls tscity_dangers tscity_decrees tscity_term tscity_termTold tscity_manNames tscity_kinds tscity_skills tscity_fields tscity_wants out.2.2.1 tscity_dangerNames tscity_sizes tscity_grows tscity_decreeNames tscity_grounds tscity_laws ++ (wX10 E tstape_o tstape_q tstape_signs tstape_length out.2.2.2.1 out.2.2.2.2.1 out.2.2.2.2.2.1 out.2.2.2.2.2.2.1 out.2.2.2.2.2.2.2.1 out.2.2.2.2.2.2.2.2)))) (F0 m 57 ls []) := by
  have hx := X.1.1
  have hb := X.1.2.1
  have ho := X.1.2.2.2.1
  have hts := X.1.2.2.2.2
  intro hw hl
  unfold f_X6_hatesLine_57 at hf
  refine lv_aload_n hx hb dX6_hatesLine_57 rfl (lv_at hl 0 rfl) ?_
  refine lv_iconst (v := (3 : Int32)) hx hb dX6_hatesLine_58 (by decide) ?_
  refine k_V (As := [.int ((3 : Int32))]) (rest := []) (index := 62) (C := RX6) X (c_X6_wrong (out := (f_X6_wrong tstape_place ((3 : Int32)))) rfl) tw_617 tw_619 tw_3 tw_121 tw_620 ⟨rfl, rfl⟩ hd_X6_wrong ⟨Nat.le_of_ble_eq_true rfl, Nat.le_of_ble_eq_true rfl⟩ ⟨Nat.zero_le _, Nat.zero_le _⟩ hw [0, 13, 14] rfl rfl 0 rfl rfl rfl rfl hl.1 rfl (Nat.le_of_ble_eq_true rfl) dX6_hatesLine_59 (fun H locs hw => ?_)
  have hw : Wd E A s.heap (wX6 E t_o (.ref tstape_o) (.ref tscity_o) t_script ((f_X6_wrong tstape_place ((3 : Int32))).2) ++ (wX1 E tscity_o tscity_q tscity_men tscity_consuls tscity_dangers tscity_decrees tscity_term tscity_termTold tscity_manNames tscity_kinds tscity_skills tscity_fields tscity_wants tscity_hated tscity_dangerNames tscity_sizes tscity_grows tscity_decreeNames tscity_grounds tscity_laws ++ (wX10 E tstape_o tstape_q tstape_signs tstape_length tstape_place tstape_behind tstape_kind tstape_value tstape_letters tstape_word))) H locs := hw
  obtain ⟨hz_62, hf⟩ := zg_some hf
  obtain rfl := Option.some.inj hf
  exact k_zret X hz_62 hw dX6_hatesLine_62
set_option maxRecDepth 100000 in
set_option maxHeartbeats 4000000 in
theorem c_X6_hatesLine {E : En} {l : Launch} {t_o : Nat} {t_script : Value} {t_fault : Int32} {tscity_o : Nat} {tscity_q : Nat → Nat} {tscity_men : Int32} {tscity_consuls : Int32} {tscity_dangers : Int32} {tscity_decrees : Int32} {tscity_term : Int32} {tscity_termTold : Int32} {tscity_manNames : (Nat → Int64)} {tscity_kinds : (Nat → Int32)} {tscity_skills : (Nat → Int32)} {tscity_fields : (Nat → Int32)} {tscity_wants : (Nat → Int32)} {tscity_hated : (Nat → Int32)} {tscity_dangerNames : (Nat → Int64)} {tscity_sizes : (Nat → Int32)} {tscity_grows : (Nat → Int32)} {tscity_decreeNames : (Nat → Int64)} {tscity_grounds : (Nat → Int32)} {tscity_laws : Value} {tstape_o : Nat} {tstape_q : Nat → Nat} {tstape_signs : (Nat → Int32)} {tstape_length : Int32} {tstape_place : Int32} {tstape_behind : Int32} {tstape_kind : Int32} {tstape_value : Int32} {tstape_letters : Int64} {tstape_word : (Option Nat)}  {out : Int32 × Int32 × (Nat → Int32) × Int32 × Int32 × Int32 × Int32 × Int64 × (Option Nat)} (hf : f_X6_hatesLine t_fault tscity_men tscity_dangers tscity_manNames tscity_hated tscity_dangerNames tstape_signs tstape_length tstape_behind = some out) : Cn E l yX6_hatesLine cX6_hatesLine 3 (some .boolean) rm_X6_hatesLine [.ref t_o] (wX6 E t_o (.ref tstape_o) (.ref tscity_o) t_script t_fault ++ (wX1 E tscity_o tscity_q tscity_men tscity_consuls tscity_dangers tscity_decrees tscity_term tscity_termTold tscity_manNames tscity_kinds tscity_skills tscity_fields tscity_wants tscity_hated tscity_dangerNames tscity_sizes tscity_grows tscity_decreeNames tscity_grounds tscity_laws ++ (wX10 E tstape_o tstape_q tstape_signs tstape_length tstape_place tstape_behind tstape_kind tstape_value tstape_letters tstape_word))) (some (.int out.1)) (wX6 E t_o (.ref tstape_o) (.ref tscity_o) t_script out.2.1 ++ (wX1 E tscity_o tscity_q tscity_men tscity_consuls tscity_dangers tscity_decrees tscity_term tscity_termTold tscity_manNames tscity_kinds tscity_skills tscity_fields tscity_wants out.2.2.1 tscity_dangerNames tscity_sizes tscity_grows tscity_decreeNames tscity_grounds tscity_laws ++ (wX10 E tstape_o tstape_q tstape_signs tstape_length out.2.2.2.1 out.2.2.2.2.1 out.2.2.2.2.2.1 out.2.2.2.2.2.2.1 out.2.2.2.2.2.2.2.1 out.2.2.2.2.2.2.2.2))) := by
  refine Cn.of (by decide) (Nat.le_of_ble_eq_true rfl) rfl ?_
  intro p e s m below meth c A ls args H locs X hw hl
  have hx := X.1.1
  have hb := X.1.2.1
  have ho := X.1.2.2.2.1
  have hts := X.1.2.2.2.2
  have hl : lv_has ls 3 [(0, .ref t_o)] := hl
  unfold f_X6_hatesLine at hf
  refine lv_aload_n hx hb dX6_hatesLine_0 rfl (lv_at hl 0 rfl) ?_
  refine k_get (q0 := 0) (ci := 5) (C := RX6) (T := TX6) (N := 4) (x := .ref tstape_o) X inx_6 hw rfl rfl 0 (by decide) rfl tw_192 rfl dX6_hatesLine_1 ?_
  obtain ⟨r4, hc_4, hf⟩ := bd_some hf
  refine k_V (As := []) (rest := []) (index := 103) (C := RX10) X (c_X10_advance hc_4) tw_633 tw_587 tw_588 tw_120 tw_589 ⟨rfl, rfl⟩ hd_X10_advance ⟨Nat.le_of_ble_eq_true rfl, Nat.le_of_ble_eq_true rfl⟩ ⟨Nat.zero_le _, Nat.zero_le _⟩ hw [13, 14] rfl rfl 13 rfl rfl rfl rfl hl.1 rfl (Nat.le_of_ble_eq_true rfl) dX6_hatesLine_4 (fun H locs hw => ?_)
  have hw : Wd E A s.heap (wX6 E t_o (.ref tstape_o) (.ref tscity_o) t_script t_fault ++ (wX1 E tscity_o tscity_q tscity_men tscity_consuls tscity_dangers tscity_decrees tscity_term tscity_termTold tscity_manNames tscity_kinds tscity_skills tscity_fields tscity_wants tscity_hated tscity_dangerNames tscity_sizes tscity_grows tscity_decreeNames tscity_grounds tscity_laws ++ (wX10 E tstape_o tstape_q tstape_signs tstape_length r4.1 r4.2.1 r4.2.2.1 r4.2.2.2.1 r4.2.2.2.2.1 r4.2.2.2.2.2))) H locs := hw
  refine lv_aload_n hx hb dX6_hatesLine_7 rfl (lv_at hl 0 rfl) ?_
  refine lv_iconst (v := (1 : Int32)) hx hb dX6_hatesLine_8 (by decide) ?_
  obtain ⟨r9, hc_9, hf⟩ := bd_some hf
  refine k_V (As := [.int ((1 : Int32))]) (rest := []) (index := 157) (C := RX6) X (c_X6_toldOne hc_9) tw_706 tw_708 tw_10 tw_121 tw_709 ⟨rfl, rfl⟩ hd_X6_toldOne ⟨Nat.le_of_ble_eq_true rfl, Nat.le_of_ble_eq_true rfl⟩ ⟨Nat.zero_le _, Nat.zero_le _⟩ hw [0, 1, 2, 3, 4, 5, 6, 7, 8, 9, 10, 11, 12, 13, 14] rfl rfl 0 rfl rfl rfl rfl hl.1 rfl (Nat.le_of_ble_eq_true rfl) dX6_hatesLine_9 (fun H locs hw => ?_)
  have hw : Wd E A s.heap (wX6 E t_o (.ref tstape_o) (.ref tscity_o) t_script r9.2 ++ (wX1 E tscity_o tscity_q tscity_men tscity_consuls tscity_dangers tscity_decrees tscity_term tscity_termTold tscity_manNames tscity_kinds tscity_skills tscity_fields tscity_wants tscity_hated tscity_dangerNames tscity_sizes tscity_grows tscity_decreeNames tscity_grounds tscity_laws ++ (wX10 E tstape_o tstape_q tstape_signs tstape_length r4.1 r4.2.1 r4.2.2.1 r4.2.2.2.1 r4.2.2.2.2.1 r4.2.2.2.2.2))) H locs := hw
  refine lv_istore_n (lv' := [(1, .int (r9.1)), (0, .ref t_o)]) hx hb dX6_hatesLine_12 rfl hl (by decide) rfl (fun ls hl => ?_)
  refine lv_iload_n hx hb dX6_hatesLine_13 rfl (lv_at hl 0 rfl) ?_
  refine lv_iconst (v := (-1 : Int32)) hx hb dX6_hatesLine_14 (by decide) ?_
  refine lv_icmp_ne (tgt := 20) hx hb dX6_hatesLine_15 (by decide) (fun c_15 => ?_) (fun c_15 => ?_)
  · have hf := (if_neg c_15).symm.trans hf
    refine lv_aload_n hx hb dX6_hatesLine_20 rfl (lv_at hl 1 rfl) ?_
    refine k_get (q0 := 0) (ci := 5) (C := RX6) (T := TX6) (N := 4) (x := .ref tstape_o) X inx_6 hw rfl rfl 0 (by decide) rfl tw_192 rfl dX6_hatesLine_21 ?_
    obtain ⟨r24, hc_24, hf⟩ := bd_some hf
    refine k_V (As := []) (rest := []) (index := 103) (C := RX10) X (c_X10_advance hc_24) tw_633 tw_587 tw_588 tw_120 tw_589 ⟨rfl, rfl⟩ hd_X10_advance ⟨Nat.le_of_ble_eq_true rfl, Nat.le_of_ble_eq_true rfl⟩ ⟨Nat.zero_le _, Nat.zero_le _⟩ hw [13, 14] rfl rfl 13 rfl rfl rfl rfl hl.1 rfl (Nat.le_of_ble_eq_true rfl) dX6_hatesLine_24 (fun H locs hw => ?_)
    have hw : Wd E A s.heap (wX6 E t_o (.ref tstape_o) (.ref tscity_o) t_script r9.2 ++ (wX1 E tscity_o tscity_q tscity_men tscity_consuls tscity_dangers tscity_decrees tscity_term tscity_termTold tscity_manNames tscity_kinds tscity_skills tscity_fields tscity_wants tscity_hated tscity_dangerNames tscity_sizes tscity_grows tscity_decreeNames tscity_grounds tscity_laws ++ (wX10 E tstape_o tstape_q tstape_signs tstape_length r24.1 r24.2.1 r24.2.2.1 r24.2.2.2.1 r24.2.2.2.2.1 r24.2.2.2.2.2))) H locs := hw
    refine lv_aload_n hx hb dX6_hatesLine_27 rfl (lv_at hl 1 rfl) ?_
    refine lv_iconst (v := (1 : Int32)) hx hb dX6_hatesLine_28 (by decide) ?_
    obtain ⟨r29, hc_29, hf⟩ := bd_some hf
    refine k_V (As := [.int ((1 : Int32))]) (rest := []) (index := 157) (C := RX6) X (c_X6_toldOne hc_29) tw_706 tw_708 tw_10 tw_121 tw_709 ⟨rfl, rfl⟩ hd_X6_toldOne ⟨Nat.le_of_ble_eq_true rfl, Nat.le_of_ble_eq_true rfl⟩ ⟨Nat.zero_le _, Nat.zero_le _⟩ hw [0, 1, 2, 3, 4, 5, 6, 7, 8, 9, 10, 11, 12, 13, 14] rfl rfl 0 rfl rfl rfl rfl hl.1 rfl (Nat.le_of_ble_eq_true rfl) dX6_hatesLine_29 (fun H locs hw => ?_)
    have hw : Wd E A s.heap (wX6 E t_o (.ref tstape_o) (.ref tscity_o) t_script r29.2 ++ (wX1 E tscity_o tscity_q tscity_men tscity_consuls tscity_dangers tscity_decrees tscity_term tscity_termTold tscity_manNames tscity_kinds tscity_skills tscity_fields tscity_wants tscity_hated tscity_dangerNames tscity_sizes tscity_grows tscity_decreeNames tscity_grounds tscity_laws ++ (wX10 E tstape_o tstape_q tstape_signs tstape_length r24.1 r24.2.1 r24.2.2.1 r24.2.2.2.1 r24.2.2.2.2.1 r24.2.2.2.2.2))) H locs := hw
    refine lv_istore_n (lv' := [(2, .int (r29.1)), (1, .int (r9.1)), (0, .ref t_o)]) hx hb dX6_hatesLine_32 rfl hl (by decide) rfl (fun ls hl => ?_)
    refine lv_iload_n hx hb dX6_hatesLine_33 rfl (lv_at hl 0 rfl) ?_
    refine lv_iconst (v := (-1 : Int32)) hx hb dX6_hatesLine_34 (by decide) ?_
    refine lv_icmp_ne (tgt := 40) hx hb dX6_hatesLine_35 (by decide) (fun c_35 => ?_) (fun c_35 => ?_)
    · have hf := (if_neg c_35).symm.trans hf
      refine lv_iload_n hx hb dX6_hatesLine_40 rfl (lv_at hl 0 rfl) ?_
      refine lv_iload_n hx hb dX6_hatesLine_41 rfl (lv_at hl 1 rfl) ?_
      refine lv_icmp_eq (tgt := 57) hx hb dX6_hatesLine_42 (by decide) (fun c_42 => ?_) (fun c_42 => ?_)
      · have hf := (if_pos c_42).symm.trans hf
        exact kb_X6_hatesLine_57 X hf hw (lv_sub hl [2] rfl)
      · have hf := (if_neg c_42).symm.trans hf
        refine lv_aload_n hx hb dX6_hatesLine_45 rfl (lv_at hl 2 rfl) ?_
        refine k_get (q0 := 0) (ci := 5) (C := RX6) (T := TX6) (N := 4) (x := .ref tscity_o) X inx_6 hw rfl rfl 1 (by decide) rfl tw_193 rfl dX6_hatesLine_46 ?_
        refine lv_iload_n hx hb dX6_hatesLine_49 rfl (lv_at hl 1 rfl) ?_
        refine lv_iload_n hx hb dX6_hatesLine_50 rfl (lv_at hl 0 rfl) ?_
        refine k_V (As := [.int (r9.1), .int (r29.1)]) (rest := []) (index := 164) (C := RX1) X (c_X1_doesHate (out := (f_X1_doesHate tscity_men tscity_hated (r9.1) (r29.1))) rfl) tw_724 tw_725 tw_726 tw_126 tw_727 ⟨rfl, rfl⟩ hd_X1_doesHate ⟨Nat.le_of_ble_eq_true rfl, Nat.le_of_ble_eq_true rfl⟩ ⟨Nat.zero_le _, Nat.zero_le _⟩ hw [1, 2, 3, 4, 5, 6, 7, 8, 9, 10, 11, 12] rfl rfl 1 rfl rfl rfl rfl hl.1 rfl (Nat.le_of_ble_eq_true rfl) dX6_hatesLine_51 (fun H locs hw => ?_)
        have hw : Wd E A s.heap (wX6 E t_o (.ref tstape_o) (.ref tscity_o) t_script r29.2 ++ (wX1 E tscity_o tscity_q tscity_men tscity_consuls tscity_dangers tscity_decrees tscity_term tscity_termTold tscity_manNames tscity_kinds tscity_skills tscity_fields tscity_wants tscity_hated tscity_dangerNames tscity_sizes tscity_grows tscity_decreeNames tscity_grounds tscity_laws ++ (wX10 E tstape_o tstape_q tstape_signs tstape_length r24.1 r24.2.1 r24.2.2.1 r24.2.2.2.1 r24.2.2.2.2.1 r24.2.2.2.2.2))) H locs := hw
        refine lv_if_eq (tgt := 63) hx hb dX6_hatesLine_54 (by decide) (fun c_54 => ?_) (fun c_54 => ?_)
        · have hf := (if_pos c_54).symm.trans hf
          refine lv_aload_n hx hb dX6_hatesLine_63 rfl (lv_at hl 2 rfl) ?_
          refine k_get (q0 := 0) (ci := 5) (C := RX6) (T := TX6) (N := 4) (x := .ref tstape_o) X inx_6 hw rfl rfl 0 (by decide) rfl tw_192 rfl dX6_hatesLine_64 ?_
          obtain ⟨r67, hc_67, hf⟩ := bd_some hf
          refine k_V (As := []) (rest := []) (index := 103) (C := RX10) X (c_X10_advance hc_67) tw_633 tw_587 tw_588 tw_120 tw_589 ⟨rfl, rfl⟩ hd_X10_advance ⟨Nat.le_of_ble_eq_true rfl, Nat.le_of_ble_eq_true rfl⟩ ⟨Nat.zero_le _, Nat.zero_le _⟩ hw [13, 14] rfl rfl 13 rfl rfl rfl rfl hl.1 rfl (Nat.le_of_ble_eq_true rfl) dX6_hatesLine_67 (fun H locs hw => ?_)
          have hw : Wd E A s.heap (wX6 E t_o (.ref tstape_o) (.ref tscity_o) t_script r29.2 ++ (wX1 E tscity_o tscity_q tscity_men tscity_consuls tscity_dangers tscity_decrees tscity_term tscity_termTold tscity_manNames tscity_kinds tscity_skills tscity_fields tscity_wants tscity_hated tscity_dangerNames tscity_sizes tscity_grows tscity_decreeNames tscity_grounds tscity_laws ++ (wX10 E tstape_o tstape_q tstape_signs tstape_length r67.1 r67.2.1 r67.2.2.1 r67.2.2.2.1 r67.2.2.2.2.1 r67.2.2.2.2.2))) H locs := hw
          refine lv_aload_n hx hb dX6_hatesLine_70 rfl (lv_at hl 2 rfl) ?_
          obtain ⟨r71, hc_71, hf⟩ := bd_some hf
          refine k_V (As := []) (rest := []) (index := 129) (C := RX6) X (c_X6_lineEnds hc_71) tw_684 tw_686 tw_8 tw_121 tw_687 ⟨rfl, rfl⟩ hd_X6_lineEnds ⟨Nat.le_of_ble_eq_true rfl, Nat.le_of_ble_eq_true rfl⟩ ⟨Nat.zero_le _, Nat.zero_le _⟩ hw [0, 13, 14] rfl rfl 0 rfl rfl rfl rfl hl.1 rfl (Nat.le_of_ble_eq_true rfl) dX6_hatesLine_71 (fun H locs hw => ?_)
          have hw : Wd E A s.heap (wX6 E t_o (.ref tstape_o) (.ref tscity_o) t_script r71.2.1 ++ (wX1 E tscity_o tscity_q tscity_men tscity_consuls tscity_dangers tscity_decrees tscity_term tscity_termTold tscity_manNames tscity_kinds tscity_skills tscity_fields tscity_wants tscity_hated tscity_dangerNames tscity_sizes tscity_grows tscity_decreeNames tscity_grounds tscity_laws ++ (wX10 E tstape_o tstape_q tstape_signs tstape_length r71.2.2.1 r71.2.2.2.1 r71.2.2.2.2.1 r71.2.2.2.2.2.1 r71.2.2.2.2.2.2.1 r71.2.2.2.2.2.2.2))) H locs := hw
          refine lv_if_ne (tgt := 79) hx hb dX6_hatesLine_74 (by decide) (fun c_74 => ?_) (fun c_74 => ?_)
          · have hf := (if_neg c_74).symm.trans hf
            refine lv_aload_n hx hb dX6_hatesLine_79 rfl (lv_at hl 2 rfl) ?_
            refine k_get (q0 := 0) (ci := 5) (C := RX6) (T := TX6) (N := 4) (x := .ref tscity_o) X inx_6 hw rfl rfl 1 (by decide) rfl tw_193 rfl dX6_hatesLine_80 ?_
            refine k_getN (q0 := 1) (ci := 0) (C := RX1) (T := TX1) (N := 18) (host := "PloughCall") (x := .ref (tscity_q 11)) X inx_1 hw rfl rfl 11 (by decide) rfl nw_55 rfl dX6_hatesLine_83 ?_
            refine lv_iload_n hx hb dX6_hatesLine_86 rfl (lv_at hl 1 rfl) ?_
            refine lv_aload_n hx hb dX6_hatesLine_87 rfl (lv_at hl 2 rfl) ?_
            refine k_get (q0 := 0) (ci := 5) (C := RX6) (T := TX6) (N := 4) (x := .ref tscity_o) X inx_6 hw rfl rfl 1 (by decide) rfl tw_193 rfl dX6_hatesLine_88 ?_
            refine k_getN (q0 := 1) (ci := 0) (C := RX1) (T := TX1) (N := 18) (host := "PloughCall") (x := .ref (tscity_q 11)) X inx_1 hw rfl rfl 11 (by decide) rfl nw_55 rfl dX6_hatesLine_91 ?_
            refine lv_iload_n hx hb dX6_hatesLine_94 rfl (lv_at hl 1 rfl) ?_
            refine k_SN (As := [.ref (tscity_q 11), .int (r9.1)]) (rest := [.int (r9.1), .ref (tscity_q 11)]) (host := "PloughCall") (index := 171) X (ct_X12_at (out := (ga (6) tscity_hated (r9.1))) rfl) nw_81 tw_119 tw_591 tw_592 ⟨rfl, rfl⟩ hd_X12_at.2 ⟨Nat.le_of_ble_eq_true rfl, Nat.le_of_ble_eq_true rfl⟩ ⟨Nat.zero_le _, Nat.zero_le _⟩ hw [7] rfl rfl rfl hl.1 rfl (Nat.le_of_ble_eq_true rfl) dX6_hatesLine_95 (fun H locs hw => ?_)
            have hw : Wd E A s.heap (wX6 E t_o (.ref tstape_o) (.ref tscity_o) t_script r71.2.1 ++ (wX1 E tscity_o tscity_q tscity_men tscity_consuls tscity_dangers tscity_decrees tscity_term tscity_termTold tscity_manNames tscity_kinds tscity_skills tscity_fields tscity_wants tscity_hated tscity_dangerNames tscity_sizes tscity_grows tscity_decreeNames tscity_grounds tscity_laws ++ (wX10 E tstape_o tstape_q tstape_signs tstape_length r71.2.2.1 r71.2.2.2.1 r71.2.2.2.2.1 r71.2.2.2.2.2.1 r71.2.2.2.2.2.2.1 r71.2.2.2.2.2.2.2))) H locs := hw
            refine lv_iconst (v := (1 : Int32)) hx hb dX6_hatesLine_98 (by decide) ?_
            refine lv_iload_n hx hb dX6_hatesLine_99 rfl (lv_at hl 0 rfl) ?_
            refine lv_ishl hx hb dX6_hatesLine_100 ?_
            refine lv_ior hx hb dX6_hatesLine_101 ?_
            refine k_SN (As := [.ref (tscity_q 11), .int (r9.1), .int (((ga (6) tscity_hated (r9.1)) ||| ((1 : Int32) <<< (r29.1 &&& (31 : Int32)))))]) (rest := []) (host := "PloughCall") (index := 175) X (ct_X12_put (out := (gp (6) tscity_hated (r9.1) (((ga (6) tscity_hated (r9.1)) ||| ((1 : Int32) <<< (r29.1 &&& (31 : Int32))))))) rfl) nw_82 tw_119 tw_563 tw_564 ⟨rfl, rfl⟩ hd_X12_put.2 ⟨Nat.le_of_ble_eq_true rfl, Nat.le_of_ble_eq_true rfl⟩ ⟨Nat.zero_le _, Nat.zero_le _⟩ hw [7] rfl rfl rfl hl.1 rfl (Nat.le_of_ble_eq_true rfl) dX6_hatesLine_102 (fun H locs hw => ?_)
            have hw : Wd E A s.heap (wX6 E t_o (.ref tstape_o) (.ref tscity_o) t_script r71.2.1 ++ (wX1 E tscity_o tscity_q tscity_men tscity_consuls tscity_dangers tscity_decrees tscity_term tscity_termTold tscity_manNames tscity_kinds tscity_skills tscity_fields tscity_wants ((gp (6) tscity_hated (r9.1) (((ga (6) tscity_hated (r9.1)) ||| ((1 : Int32) <<< (r29.1 &&& (31 : Int32))))))) tscity_dangerNames tscity_sizes tscity_grows tscity_decreeNames tscity_grounds tscity_laws ++ (wX10 E tstape_o tstape_q tstape_signs tstape_length r71.2.2.1 r71.2.2.2.1 r71.2.2.2.2.1 r71.2.2.2.2.2.1 r71.2.2.2.2.2.2.1 r71.2.2.2.2.2.2.2))) H locs := hw
            refine lv_iconst (v := (1 : Int32)) hx hb dX6_hatesLine_105 (by decide) ?_
            obtain rfl := Option.some.inj hf
            exact k_zret X (Or.inr rfl) hw dX6_hatesLine_106
          · have hf := (if_pos c_74).symm.trans hf
            refine lv_iconst (v := (0 : Int32)) hx hb dX6_hatesLine_77 (by decide) ?_
            obtain rfl := Option.some.inj hf
            exact k_zret X (Or.inl rfl) hw dX6_hatesLine_78
        · have hf := (if_neg c_54).symm.trans hf
          exact kb_X6_hatesLine_57 X hf hw (lv_sub hl [2] rfl)
    · have hf := (if_pos c_35).symm.trans hf
      refine lv_iconst (v := (0 : Int32)) hx hb dX6_hatesLine_38 (by decide) ?_
      obtain rfl := Option.some.inj hf
      exact k_zret X (Or.inl rfl) hw dX6_hatesLine_39
  · have hf := (if_pos c_15).symm.trans hf
    refine lv_iconst (v := (0 : Int32)) hx hb dX6_hatesLine_18 (by decide) ?_
    obtain rfl := Option.some.inj hf
    exact k_zret X (Or.inl rfl) hw dX6_hatesLine_19
/-! private boolean dangerLine(); -/
def f_X6_dangerLine_71 (t_fault : Int32) (tscity_dangers : Int32) (tscity_dangerNames : (Nat → Int64)) (tscity_sizes : (Nat → Int32)) (tscity_grows : (Nat → Int32)) (tstape_signs : (Nat → Int32)) (tstape_length : Int32) (tstape_place : Int32) (tstape_behind : Int32) (tstape_kind : Int32) (tstape_value : Int32) (tstape_letters : Int64) (tstape_word : (Option Nat)) (x1 : Int64) (x3 : Int32) (s0 : Int32) : Option (Int32 × Int32 × Int32 × (Nat → Int64) × (Nat → Int32) × (Nat → Int32) × Int32 × Int32 × Int32 × Int32 × Int64 × (Option Nat)) := if s0 = (-1 : Int32) then some ((0 : Int32), t_fault, tscity_dangers, tscity_dangerNames, tscity_sizes, tscity_grows, tstape_place, tstape_behind, tstape_kind, tstape_value, tstape_letters, tstape_word)
  else (f_X6_lineEnds t_fault tstape_signs tstape_length tstape_place tstape_behind tstape_kind tstape_value tstape_letters tstape_word).bind fun r80 => if r80.1 = (0 : Int32) then some ((0 : Int32), r80.2.1, tscity_dangers, tscity_dangerNames, tscity_sizes, tscity_grows, r80.2.2.1, r80.2.2.2.1, r80.2.2.2.2.1, r80.2.2.2.2.2.1, r80.2.2.2.2.2.2.1, r80.2.2.2.2.2.2.2)
  else (f_X1_addDanger tscity_dangers tscity_dangerNames tscity_sizes tscity_grows (x1) (x3) (s0)).bind fun r96 => some ((1 : Int32), r80.2.1, r96.1, r96.2.1, r96.2.2.1, r96.2.2.2, r80.2.2.1, r80.2.2.2.1, r80.2.2.2.2.1, r80.2.2.2.2.2.1, r80.2.2.2.2.2.2.1, r80.2.2.2.2.2.2.2)
def f_X6_dangerLine (t_fault : Int32) (tscity_men : Int32) (tscity_dangers : Int32) (tscity_decrees : Int32) (tscity_manNames : (Nat → Int64)) (tscity_dangerNames : (Nat → Int64)) (tscity_sizes : (Nat → Int32)) (tscity_grows : (Nat → Int32)) (tscity_decreeNames : (Nat → Int64)) (tstape_signs : (Nat → Int32)) (tstape_length : Int32) (tstape_place : Int32) (tstape_behind : Int32) (tstape_kind : Int32) (tstape_value : Int32) (tstape_letters : Int64) (tstape_word : (Option Nat)) : Option (Int32 × Int32 × Int32 × (Nat → Int64) × (Nat → Int32) × (Nat → Int32) × Int32 × Int32 × Int32 × Int32 × Int64 × (Option Nat)) := if tscity_dangers < (5 : Int32) then (f_X10_advance tstape_signs tstape_length tstape_behind).bind fun r21 => (f_X6_freshName t_fault tscity_men tscity_dangers tscity_decrees tscity_manNames tscity_dangerNames tscity_decreeNames tstape_signs tstape_length r21.1 r21.2.1 r21.2.2.1 r21.2.2.2.1 r21.2.2.2.2.1 r21.2.2.2.2.2).bind fun r33 => if r33.1 = (0 : Int32) then some ((0 : Int32), r33.2.1, tscity_dangers, tscity_dangerNames, tscity_sizes, tscity_grows, r33.2.2.1, r33.2.2.2.1, r33.2.2.2.2.1, r33.2.2.2.2.2.1, r33.2.2.2.2.2.2.1, r33.2.2.2.2.2.2.2)
    else (f_X6_labelled r33.2.1 tstape_signs tstape_length r33.2.2.1 r33.2.2.2.1 r33.2.2.2.2.1 r33.2.2.2.2.2.1 r33.2.2.2.2.2.2.1 r33.2.2.2.2.2.2.2 ((some 7)) ((1 : Int32)) ((99 : Int32))).bind fun r48 => if r48.1 = (-1 : Int32) then f_X6_dangerLine_71 r48.2.1 tscity_dangers tscity_dangerNames tscity_sizes tscity_grows tstape_signs tstape_length r48.2.2.1 r48.2.2.2.1 r48.2.2.2.2.1 r48.2.2.2.2.2.1 r48.2.2.2.2.2.2.1 r48.2.2.2.2.2.2.2 r21.2.2.2.2.1 r48.1 ((-1 : Int32))
    else (f_X6_labelled r48.2.1 tstape_signs tstape_length r48.2.2.1 r48.2.2.2.1 r48.2.2.2.2.1 r48.2.2.2.2.2.1 r48.2.2.2.2.2.2.1 r48.2.2.2.2.2.2.2 ((some 8)) ((0 : Int32)) ((9 : Int32))).bind fun r68 => f_X6_dangerLine_71 r68.2.1 tscity_dangers tscity_dangerNames tscity_sizes tscity_grows tstape_signs tstape_length r68.2.2.1 r68.2.2.2.1 r68.2.2.2.2.1 r68.2.2.2.2.2.1 r68.2.2.2.2.2.2.1 r68.2.2.2.2.2.2.2 r21.2.2.2.2.1 r48.1 r68.1
  else zg ((f_X6_wrong tstape_place ((5 : Int32))).1) (some ((f_X6_wrong tstape_place ((5 : Int32))).1, (f_X6_wrong tstape_place ((5 : Int32))).2, tscity_dangers, tscity_dangerNames, tscity_sizes, tscity_grows, tstape_place, tstape_behind, tstape_kind, tstape_value, tstape_letters, tstape_word))
abbrev rm_X6_dangerLine : Room := { frames := 4, cells := 0, slots := 0, locals := 88 }
theorem hd_X6_dangerLine : yX6_dangerLine.cls = RX6 ∧ yX6_dangerLine.cls ≠ "java/lang/invoke/MethodHandle" ∧ yX6_dangerLine.cls ≠ "java/lang/invoke/VarHandle" ∧ (parseMethodDescriptor yX6_dangerLine.desc).map (fun d => d.parameters.length) = some 0 := by decide +kernel
set_option maxRecDepth 100000 in
set_option maxHeartbeats 4000000 in
theorem kb_X6_dangerLine_71 {E : En} {p : Program} {l : Launch} {e : Env} {s : State} {m : MethodId} {args : Array Value} {below : List Frame} {meth : Method} {c : Code} {A : Nat → Prop} {t_o : Nat} {t_script : Value} {tscity_o : Nat} {tscity_q : Nat → Nat} {tscity_men : Int32} {tscity_consuls : Int32} {tscity_decrees : Int32} {tscity_term : Int32} {tscity_termTold : Int32} {tscity_manNames : (Nat → Int64)} {tscity_kinds : (Nat → Int32)} {tscity_skills : (Nat → Int32)} {tscity_fields : (Nat → Int32)} {tscity_wants : (Nat → Int32)} {tscity_hated : (Nat → Int32)} {tscity_decreeNames : (Nat → Int64)} {tscity_grounds : (Nat → Int32)} {tscity_laws : Value} {tstape_o : Nat} {tstape_q : Nat → Nat} {tstape_signs : (Nat → Int32)} {tstape_length : Int32} {out : Int32 × Int32 × Int32 × (Nat → Int64) × (Nat → Int32) × (Nat → Int32) × Int32 × Int32 × Int32 × Int32 × Int64 × (Option Nat)} (X : Bx E A p s m args meth c cX6_dangerLine 5 RX6 (some .boolean)) {t_fault : Int32} {tscity_dangers : Int32} {tscity_dangerNames : (Nat → Int64)} {tscity_sizes : (Nat → Int32)} {tscity_grows : (Nat → Int32)} {tstape_place : Int32} {tstape_behind : Int32} {tstape_kind : Int32} {tstape_value : Int32} {tstape_letters : Int64} {tstape_word : (Option Nat)} {x1 : Int64} {x3 : Int32} {s0 : Int32} {H : Heap} {locs : List Loc} {ls : Array Slot} (hf : f_X6_dangerLine_71 t_fault tscity_dangers tscity_dangerNames tscity_sizes tscity_grows tstape_signs tstape_length tstape_place tstape_behind tstape_kind tstape_value tstape_letters tstape_word x1 x3 s0 = some out) : Wd E A s.heap (wX6 E t_o (.ref tstape_o) (.ref tscity_o) t_script t_fault ++ (wX1 E tscity_o tscity_q tscity_men tscity_consuls tscity_dangers tscity_decrees tscity_term tscity_termTold tscity_manNames tscity_kinds tscity_skills tscity_fields tscity_wants tscity_hated tscity_dangerNames tscity_sizes tscity_grows tscity_decreeNames tscity_grounds tscity_laws ++ (wX10 E tstape_o tstape_q tstape_signs tstape_length tstape_place tstape_behind tstape_kind tstape_value tstape_letters tstape_word))) H locs → lv_has ls 5 [(0, .ref t_o), (1, .long (x1)), (3, .int (x3))] → W p l e rm_X6_dangerLine s m args below meth c H locs 0 0 (Zn E below args s A (some (.int out.1)) (wX6 E t_o (.ref tstape_o) (.ref tscity_o) t_script out.2.1 ++ (wX1 E tscity_o tscity_q tscity_men tscity_consuls out.2.2.1 tscity_decrees tscity_term tscity_termTold tscity_manNames tscity_kinds tscity_skills tscity_fields tscity_wants tscity_hated out.2.2.2.1 out.2.2.2.2.1 out.2.2.2.2.2.1 tscity_decreeNames tscity_grounds tscity_laws ++ (wX10 E tstape_o tstape_q tstape_signs tstape_length out.2.2.2.2.2.2.1 out.2.2.2.2.2.2.2.1 out.2.2.2.2.2.2.2.2.1 out.2.2.2.2.2.2.2.2.2.1 out.2.2.2.2.2.2.2.2.2.2.1 out.2.2.2.2.2.2.2.2.2.2.2)))) (F0 m 71 ls [.int (s0)]) := by
  have hx := X.1.1
  have hb := X.1.2.1
  have ho := X.1.2.2.2.1
  have hts := X.1.2.2.2.2
  intro hw hl
  unfold f_X6_dangerLine_71 at hf
  refine lv_istore (lv' := [(4, .int (s0)), (0, .ref t_o), (1, .long (x1)), (3, .int (x3))]) hx hb dX6_dangerLine_71 hl (by decide) rfl (fun ls hl => ?_)
  refine lv_iload hx hb dX6_dangerLine_73 (lv_at hl 0 rfl) ?_
  refine lv_iconst (v := (-1 : Int32)) hx hb dX6_dangerLine_75 (by decide) ?_
  refine lv_icmp_eq (tgt := 86) hx hb dX6_dangerLine_76 (by decide) (fun c_76 => ?_) (fun c_76 => ?_)
  · have hf := (if_pos c_76).symm.trans hf
    refine lv_iconst (v := (0 : Int32)) hx hb dX6_dangerLine_86 (by decide) ?_
    obtain rfl := Option.some.inj hf
    exact k_zret X (Or.inl rfl) hw dX6_dangerLine_87
  · have hf := (if_neg c_76).symm.trans hf
    refine lv_aload_n hx hb dX6_dangerLine_79 rfl (lv_at hl 1 rfl) ?_
    obtain ⟨r80, hc_80, hf⟩ := bd_some hf
    refine k_V (As := []) (rest := []) (index := 129) (C := RX6) X (c_X6_lineEnds hc_80) tw_684 tw_686 tw_8 tw_121 tw_687 ⟨rfl, rfl⟩ hd_X6_lineEnds ⟨Nat.le_of_ble_eq_true rfl, Nat.le_of_ble_eq_true rfl⟩ ⟨Nat.zero_le _, Nat.zero_le _⟩ hw [0, 13, 14] rfl rfl 0 rfl rfl rfl rfl hl.1 rfl (Nat.le_of_ble_eq_true rfl) dX6_dangerLine_80 (fun H locs hw => ?_)
    have hw : Wd E A s.heap (wX6 E t_o (.ref tstape_o) (.ref tscity_o) t_script r80.2.1 ++ (wX1 E tscity_o tscity_q tscity_men tscity_consuls tscity_dangers tscity_decrees tscity_term tscity_termTold tscity_manNames tscity_kinds tscity_skills tscity_fields tscity_wants tscity_hated tscity_dangerNames tscity_sizes tscity_grows tscity_decreeNames tscity_grounds tscity_laws ++ (wX10 E tstape_o tstape_q tstape_signs tstape_length r80.2.2.1 r80.2.2.2.1 r80.2.2.2.2.1 r80.2.2.2.2.2.1 r80.2.2.2.2.2.2.1 r80.2.2.2.2.2.2.2))) H locs := hw
    refine lv_if_ne (tgt := 88) hx hb dX6_dangerLine_83 (by decide) (fun c_83 => ?_) (fun c_83 => ?_)
    · have hf := (if_neg c_83).symm.trans hf
      refine lv_aload_n hx hb dX6_dangerLine_88 rfl (lv_at hl 1 rfl) ?_
      refine k_get (q0 := 0) (ci := 5) (C := RX6) (T := TX6) (N := 4) (x := .ref tscity_o) X inx_6 hw rfl rfl 1 (by decide) rfl tw_193 rfl dX6_dangerLine_89 ?_
      refine lv_lload_n hx hb dX6_dangerLine_92 rfl (lv_at hl 2 rfl) ?_
      refine lv_iload_n hx hb dX6_dangerLine_93 rfl (lv_at hl 3 rfl) ?_
      refine lv_iload hx hb dX6_dangerLine_94 (lv_at hl 0 rfl) ?_
      obtain ⟨r96, hc_96, hf⟩ := bd_some hf
      refine k_V (As := [.long (x1), .int (x3), .int (s0)]) (rest := []) (index := 188) (C := RX1) X (c_X1_addDanger hc_96) tw_739 tw_740 tw_741 tw_126 tw_742 ⟨rfl, rfl⟩ hd_X1_addDanger ⟨Nat.le_of_ble_eq_true rfl, Nat.le_of_ble_eq_true rfl⟩ ⟨Nat.zero_le _, Nat.zero_le _⟩ hw [1, 2, 3, 4, 5, 6, 7, 8, 9, 10, 11, 12] rfl rfl 1 rfl rfl rfl rfl hl.1 rfl (Nat.le_of_ble_eq_true rfl) dX6_dangerLine_96 (fun H locs hw => ?_)
      have hw : Wd E A s.heap (wX6 E t_o (.ref tstape_o) (.ref tscity_o) t_script r80.2.1 ++ (wX1 E tscity_o tscity_q tscity_men tscity_consuls r96.1 tscity_decrees tscity_term tscity_termTold tscity_manNames tscity_kinds tscity_skills tscity_fields tscity_wants tscity_hated r96.2.1 r96.2.2.1 r96.2.2.2 tscity_decreeNames tscity_grounds tscity_laws ++ (wX10 E tstape_o tstape_q tstape_signs tstape_length r80.2.2.1 r80.2.2.2.1 r80.2.2.2.2.1 r80.2.2.2.2.2.1 r80.2.2.2.2.2.2.1 r80.2.2.2.2.2.2.2))) H locs := hw
      refine lv_iconst (v := (1 : Int32)) hx hb dX6_dangerLine_99 (by decide) ?_
      obtain rfl := Option.some.inj hf
      exact k_zret X (Or.inr rfl) hw dX6_dangerLine_100
    · have hf := (if_pos c_83).symm.trans hf
      refine lv_iconst (v := (0 : Int32)) hx hb dX6_dangerLine_86 (by decide) ?_
      obtain rfl := Option.some.inj hf
      exact k_zret X (Or.inl rfl) hw dX6_dangerLine_87
set_option maxRecDepth 100000 in
set_option maxHeartbeats 4000000 in
theorem c_X6_dangerLine {E : En} {l : Launch} {t_o : Nat} {t_script : Value} {t_fault : Int32} {tscity_o : Nat} {tscity_q : Nat → Nat} {tscity_men : Int32} {tscity_consuls : Int32} {tscity_dangers : Int32} {tscity_decrees : Int32} {tscity_term : Int32} {tscity_termTold : Int32} {tscity_manNames : (Nat → Int64)} {tscity_kinds : (Nat → Int32)} {tscity_skills : (Nat → Int32)} {tscity_fields : (Nat → Int32)} {tscity_wants : (Nat → Int32)} {tscity_hated : (Nat → Int32)} {tscity_dangerNames : (Nat → Int64)} {tscity_sizes : (Nat → Int32)} {tscity_grows : (Nat → Int32)} {tscity_decreeNames : (Nat → Int64)} {tscity_grounds : (Nat → Int32)} {tscity_laws : Value} {tstape_o : Nat} {tstape_q : Nat → Nat} {tstape_signs : (Nat → Int32)} {tstape_length : Int32} {tstape_place : Int32} {tstape_behind : Int32} {tstape_kind : Int32} {tstape_value : Int32} {tstape_letters : Int64} {tstape_word : (Option Nat)}  {out : Int32 × Int32 × Int32 × (Nat → Int64) × (Nat → Int32) × (Nat → Int32) × Int32 × Int32 × Int32 × Int32 × Int64 × (Option Nat)} (hf : f_X6_dangerLine t_fault tscity_men tscity_dangers tscity_decrees tscity_manNames tscity_dangerNames tscity_sizes tscity_grows tscity_decreeNames tstape_signs tstape_length tstape_place tstape_behind tstape_kind tstape_value tstape_letters tstape_word = some out) : Cn E l yX6_dangerLine cX6_dangerLine 5 (some .boolean) rm_X6_dangerLine [.ref t_o] (wX6 E t_o (.ref tstape_o) (.ref tscity_o) t_script t_fault ++ (wX1 E tscity_o tscity_q tscity_men tscity_consuls tscity_dangers tscity_decrees tscity_term tscity_termTold tscity_manNames tscity_kinds tscity_skills tscity_fields tscity_wants tscity_hated tscity_dangerNames tscity_sizes tscity_grows tscity_decreeNames tscity_grounds tscity_laws ++ (wX10 E tstape_o tstape_q tstape_signs tstape_length tstape_place tstape_behind tstape_kind tstape_value tstape_letters tstape_word))) (some (.int out.1)) (wX6 E t_o (.ref tstape_o) (.ref tscity_o) t_script out.2.1 ++ (wX1 E tscity_o tscity_q tscity_men tscity_consuls out.2.2.1 tscity_decrees tscity_term tscity_termTold tscity_manNames tscity_kinds tscity_skills tscity_fields tscity_wants tscity_hated out.2.2.2.1 out.2.2.2.2.1 out.2.2.2.2.2.1 tscity_decreeNames tscity_grounds tscity_laws ++ (wX10 E tstape_o tstape_q tstape_signs tstape_length out.2.2.2.2.2.2.1 out.2.2.2.2.2.2.2.1 out.2.2.2.2.2.2.2.2.1 out.2.2.2.2.2.2.2.2.2.1 out.2.2.2.2.2.2.2.2.2.2.1 out.2.2.2.2.2.2.2.2.2.2.2))) := by
  refine Cn.of (by decide) (Nat.le_of_ble_eq_true rfl) rfl ?_
  intro p e s m below meth c A ls args H locs X hw hl
  have hx := X.1.1
  have hb := X.1.2.1
  have ho := X.1.2.2.2.1
  have hts := X.1.2.2.2.2
  have hl : lv_has ls 5 [(0, .ref t_o)] := hl
  unfold f_X6_dangerLine at hf
  refine lv_aload_n hx hb dX6_dangerLine_0 rfl (lv_at hl 0 rfl) ?_
  refine k_get (q0 := 0) (ci := 5) (C := RX6) (T := TX6) (N := 4) (x := .ref tscity_o) X inx_6 hw rfl rfl 1 (by decide) rfl tw_193 rfl dX6_dangerLine_1 ?_
  refine k_getN (q0 := 1) (ci := 0) (C := RX1) (T := TX1) (N := 18) (host := "PloughCall") (x := .int (tscity_dangers)) X inx_1 hw rfl rfl 2 (by decide) rfl nw_41 rfl dX6_dangerLine_4 ?_
  refine lv_iconst (v := (5 : Int32)) hx hb dX6_dangerLine_7 (by decide) ?_
  refine lv_icmp_lt (tgt := 17) hx hb dX6_dangerLine_8 (by decide) (fun c_8 => ?_) (fun c_8 => ?_)
  · have hf := (if_pos c_8).symm.trans hf
    refine lv_aload_n hx hb dX6_dangerLine_17 rfl (lv_at hl 0 rfl) ?_
    refine k_get (q0 := 0) (ci := 5) (C := RX6) (T := TX6) (N := 4) (x := .ref tstape_o) X inx_6 hw rfl rfl 0 (by decide) rfl tw_192 rfl dX6_dangerLine_18 ?_
    obtain ⟨r21, hc_21, hf⟩ := bd_some hf
    refine k_V (As := []) (rest := []) (index := 103) (C := RX10) X (c_X10_advance hc_21) tw_633 tw_587 tw_588 tw_120 tw_589 ⟨rfl, rfl⟩ hd_X10_advance ⟨Nat.le_of_ble_eq_true rfl, Nat.le_of_ble_eq_true rfl⟩ ⟨Nat.zero_le _, Nat.zero_le _⟩ hw [13, 14] rfl rfl 13 rfl rfl rfl rfl hl.1 rfl (Nat.le_of_ble_eq_true rfl) dX6_dangerLine_21 (fun H locs hw => ?_)
    have hw : Wd E A s.heap (wX6 E t_o (.ref tstape_o) (.ref tscity_o) t_script t_fault ++ (wX1 E tscity_o tscity_q tscity_men tscity_consuls tscity_dangers tscity_decrees tscity_term tscity_termTold tscity_manNames tscity_kinds tscity_skills tscity_fields tscity_wants tscity_hated tscity_dangerNames tscity_sizes tscity_grows tscity_decreeNames tscity_grounds tscity_laws ++ (wX10 E tstape_o tstape_q tstape_signs tstape_length r21.1 r21.2.1 r21.2.2.1 r21.2.2.2.1 r21.2.2.2.2.1 r21.2.2.2.2.2))) H locs := hw
    refine lv_aload_n hx hb dX6_dangerLine_24 rfl (lv_at hl 0 rfl) ?_
    refine k_get (q0 := 0) (ci := 5) (C := RX6) (T := TX6) (N := 4) (x := .ref tstape_o) X inx_6 hw rfl rfl 0 (by decide) rfl tw_192 rfl dX6_dangerLine_25 ?_
    refine k_getN (q0 := 13) (ci := 9) (C := RX10) (T := TX10) (N := 8) (host := "PloughCall") (x := .long (r21.2.2.2.2.1)) X inx_10 hw rfl rfl 6 (by decide) rfl nw_5 rfl dX6_dangerLine_28 ?_
    refine lv_lstore_n (lv' := [(1, .long (r21.2.2.2.2.1)), (0, .ref t_o)]) hx hb dX6_dangerLine_31 rfl hl (by decide) rfl (fun ls hl => ?_)
    refine lv_aload_n hx hb dX6_dangerLine_32 rfl (lv_at hl 1 rfl) ?_
    obtain ⟨r33, hc_33, hf⟩ := bd_some hf
    refine k_V (As := []) (rest := []) (index := 110) (C := RX6) X (c_X6_freshName hc_33) tw_634 tw_636 tw_5 tw_121 tw_637 ⟨rfl, rfl⟩ hd_X6_freshName ⟨Nat.le_of_ble_eq_true rfl, Nat.le_of_ble_eq_true rfl⟩ ⟨Nat.zero_le _, Nat.zero_le _⟩ hw [0, 1, 2, 3, 4, 5, 6, 7, 8, 9, 10, 11, 12, 13, 14] rfl rfl 0 rfl rfl rfl rfl hl.1 rfl (Nat.le_of_ble_eq_true rfl) dX6_dangerLine_33 (fun H locs hw => ?_)
    have hw : Wd E A s.heap (wX6 E t_o (.ref tstape_o) (.ref tscity_o) t_script r33.2.1 ++ (wX1 E tscity_o tscity_q tscity_men tscity_consuls tscity_dangers tscity_decrees tscity_term tscity_termTold tscity_manNames tscity_kinds tscity_skills tscity_fields tscity_wants tscity_hated tscity_dangerNames tscity_sizes tscity_grows tscity_decreeNames tscity_grounds tscity_laws ++ (wX10 E tstape_o tstape_q tstape_signs tstape_length r33.2.2.1 r33.2.2.2.1 r33.2.2.2.2.1 r33.2.2.2.2.2.1 r33.2.2.2.2.2.2.1 r33.2.2.2.2.2.2.2))) H locs := hw
    refine lv_if_ne (tgt := 41) hx hb dX6_dangerLine_36 (by decide) (fun c_36 => ?_) (fun c_36 => ?_)
    · have hf := (if_neg c_36).symm.trans hf
      refine lv_aload_n hx hb dX6_dangerLine_41 rfl (lv_at hl 1 rfl) ?_
      refine k_const (i := 7) X hw (by decide) rfl tw_735 dX6_dangerLine_42 ?_
      refine lv_iconst (v := (1 : Int32)) hx hb dX6_dangerLine_45 (by decide) ?_
      refine lv_bipush (v := (99 : Int32)) hx hb dX6_dangerLine_46 (by decide) ?_
      obtain ⟨r48, hc_48, hf⟩ := bd_some hf
      refine k_V (As := [va_re E.2.2 ((some 7)), .int ((1 : Int32)), .int ((99 : Int32))]) (rest := []) (index := 119) (C := RX6) X (c_X6_labelled hc_48) tw_675 tw_677 tw_7 tw_121 tw_678 ⟨rfl, rfl⟩ hd_X6_labelled ⟨Nat.le_of_ble_eq_true rfl, Nat.le_of_ble_eq_true rfl⟩ ⟨Nat.zero_le _, Nat.zero_le _⟩ hw [0, 13, 14] rfl rfl 0 rfl rfl rfl rfl hl.1 rfl (Nat.le_of_ble_eq_true rfl) dX6_dangerLine_48 (fun H locs hw => ?_)
      have hw : Wd E A s.heap (wX6 E t_o (.ref tstape_o) (.ref tscity_o) t_script r48.2.1 ++ (wX1 E tscity_o tscity_q tscity_men tscity_consuls tscity_dangers tscity_decrees tscity_term tscity_termTold tscity_manNames tscity_kinds tscity_skills tscity_fields tscity_wants tscity_hated tscity_dangerNames tscity_sizes tscity_grows tscity_decreeNames tscity_grounds tscity_laws ++ (wX10 E tstape_o tstape_q tstape_signs tstape_length r48.2.2.1 r48.2.2.2.1 r48.2.2.2.2.1 r48.2.2.2.2.2.1 r48.2.2.2.2.2.2.1 r48.2.2.2.2.2.2.2))) H locs := hw
      refine lv_istore_n (lv' := [(3, .int (r48.1)), (1, .long (r21.2.2.2.2.1)), (0, .ref t_o)]) hx hb dX6_dangerLine_51 rfl hl (by decide) rfl (fun ls hl => ?_)
      refine lv_iload_n hx hb dX6_dangerLine_52 rfl (lv_at hl 0 rfl) ?_
      refine lv_iconst (v := (-1 : Int32)) hx hb dX6_dangerLine_53 (by decide) ?_
      refine lv_icmp_ne (tgt := 61) hx hb dX6_dangerLine_54 (by decide) (fun c_54 => ?_) (fun c_54 => ?_)
      · have hf := (if_neg c_54).symm.trans hf
        refine lv_aload_n hx hb dX6_dangerLine_61 rfl (lv_at hl 2 rfl) ?_
        refine k_const (i := 8) X hw (by decide) rfl tw_737 dX6_dangerLine_62 ?_
        refine lv_iconst (v := (0 : Int32)) hx hb dX6_dangerLine_65 (by decide) ?_
        refine lv_bipush (v := (9 : Int32)) hx hb dX6_dangerLine_66 (by decide) ?_
        obtain ⟨r68, hc_68, hf⟩ := bd_some hf
        refine k_V (As := [va_re E.2.2 ((some 8)), .int ((0 : Int32)), .int ((9 : Int32))]) (rest := []) (index := 119) (C := RX6) X (c_X6_labelled hc_68) tw_675 tw_677 tw_7 tw_121 tw_678 ⟨rfl, rfl⟩ hd_X6_labelled ⟨Nat.le_of_ble_eq_true rfl, Nat.le_of_ble_eq_true rfl⟩ ⟨Nat.zero_le _, Nat.zero_le _⟩ hw [0, 13, 14] rfl rfl 0 rfl rfl rfl rfl hl.1 rfl (Nat.le_of_ble_eq_true rfl) dX6_dangerLine_68 (fun H locs hw => ?_)
        have hw : Wd E A s.heap (wX6 E t_o (.ref tstape_o) (.ref tscity_o) t_script r68.2.1 ++ (wX1 E tscity_o tscity_q tscity_men tscity_consuls tscity_dangers tscity_decrees tscity_term tscity_termTold tscity_manNames tscity_kinds tscity_skills tscity_fields tscity_wants tscity_hated tscity_dangerNames tscity_sizes tscity_grows tscity_decreeNames tscity_grounds tscity_laws ++ (wX10 E tstape_o tstape_q tstape_signs tstape_length r68.2.2.1 r68.2.2.2.1 r68.2.2.2.2.1 r68.2.2.2.2.2.1 r68.2.2.2.2.2.2.1 r68.2.2.2.2.2.2.2))) H locs := hw
        exact kb_X6_dangerLine_71 X hf hw (lv_sub hl [2, 1, 0] rfl)
      · have hf := (if_pos c_54).symm.trans hf
        refine lv_iconst (v := (-1 : Int32)) hx hb dX6_dangerLine_57 (by decide) ?_
        refine lv_goto (tgt := 71) hx hb dX6_dangerLine_58 (by decide) ?_
        exact kb_X6_dangerLine_71 X hf hw (lv_sub hl [2, 1, 0] rfl)
    · have hf := (if_pos c_36).symm.trans hf
      refine lv_iconst (v := (0 : Int32)) hx hb dX6_dangerLine_39 (by decide) ?_
      obtain rfl := Option.some.inj hf
      exact k_zret X (Or.inl rfl) hw dX6_dangerLine_40
  · have hf := (if_neg c_8).symm.trans hf
    refine lv_aload_n hx hb dX6_dangerLine_11 rfl (lv_at hl 0 rfl) ?_
    refine lv_iconst (v := (5 : Int32)) hx hb dX6_dangerLine_12 (by decide) ?_
    refine k_V (As := [.int ((5 : Int32))]) (rest := []) (index := 62) (C := RX6) X (c_X6_wrong (out := (f_X6_wrong tstape_place ((5 : Int32)))) rfl) tw_617 tw_619 tw_3 tw_121 tw_620 ⟨rfl, rfl⟩ hd_X6_wrong ⟨Nat.le_of_ble_eq_true rfl, Nat.le_of_ble_eq_true rfl⟩ ⟨Nat.zero_le _, Nat.zero_le _⟩ hw [0, 13, 14] rfl rfl 0 rfl rfl rfl rfl hl.1 rfl (Nat.le_of_ble_eq_true rfl) dX6_dangerLine_13 (fun H locs hw => ?_)
    have hw : Wd E A s.heap (wX6 E t_o (.ref tstape_o) (.ref tscity_o) t_script ((f_X6_wrong tstape_place ((5 : Int32))).2) ++ (wX1 E tscity_o tscity_q tscity_men tscity_consuls tscity_dangers tscity_decrees tscity_term tscity_termTold tscity_manNames tscity_kinds tscity_skills tscity_fields tscity_wants tscity_hated tscity_dangerNames tscity_sizes tscity_grows tscity_decreeNames tscity_grounds tscity_laws ++ (wX10 E tstape_o tstape_q tstape_signs tstape_length tstape_place tstape_behind tstape_kind tstape_value tstape_letters tstape_word))) H locs := hw
    obtain ⟨hz_16, hf⟩ := zg_some hf
    obtain rfl := Option.some.inj hf
    exact k_zret X hz_16 hw dX6_dangerLine_16
/-! private boolean decreeLine(); -/
def f_X6_decreeLine_69 (t_fault : Int32) (tscity_decrees : Int32) (tscity_decreeNames : (Nat → Int64)) (tscity_grounds : (Nat → Int32)) (tstape_signs : (Nat → Int32)) (tstape_length : Int32) (tstape_place : Int32) (tstape_behind : Int32) (tstape_kind : Int32) (tstape_value : Int32) (tstape_letters : Int64) (tstape_word : (Option Nat)) (x1 : Int64) (x3 : Int32) : Option (Int32 × Int32 × Int32 × (Nat → Int64) × (Nat → Int32) × Int32 × Int32 × Int32 × Int32 × Int64 × (Option Nat)) := if x3 = (-1 : Int32) then some ((0 : Int32), t_fault, tscity_decrees, tscity_decreeNames, tscity_grounds, tstape_place, tstape_behind, tstape_kind, tstape_value, tstape_letters, tstape_word)
  else (f_X6_lineEnds t_fault tstape_signs tstape_length tstape_place tstape_behind tstape_kind tstape_value tstape_letters tstape_word).bind fun r75 => if r75.1 = (0 : Int32) then some ((0 : Int32), r75.2.1, tscity_decrees, tscity_decreeNames, tscity_grounds, r75.2.2.1, r75.2.2.2.1, r75.2.2.2.2.1, r75.2.2.2.2.2.1, r75.2.2.2.2.2.2.1, r75.2.2.2.2.2.2.2)
  else (f_X1_addDecree tscity_decrees tscity_decreeNames tscity_grounds (x1) (x3)).bind fun r89 => some ((1 : Int32), r75.2.1, r89.1, r89.2.1, r89.2.2, r75.2.2.1, r75.2.2.2.1, r75.2.2.2.2.1, r75.2.2.2.2.2.1, r75.2.2.2.2.2.2.1, r75.2.2.2.2.2.2.2)
def f_X6_decreeLine (t_fault : Int32) (tscity_men : Int32) (tscity_dangers : Int32) (tscity_decrees : Int32) (tscity_manNames : (Nat → Int64)) (tscity_dangerNames : (Nat → Int64)) (tscity_decreeNames : (Nat → Int64)) (tscity_grounds : (Nat → Int32)) (tstape_signs : (Nat → Int32)) (tstape_length : Int32) (tstape_place : Int32) (tstape_behind : Int32) (tstape_kind : Int32) (tstape_value : Int32) (tstape_letters : Int64) (tstape_word : (Option Nat)) : Option (Int32 × Int32 × Int32 × (Nat → Int64) × (Nat → Int32) × Int32 × Int32 × Int32 × Int32 × Int64 × (Option Nat)) := if tscity_decrees < (6 : Int32) then (f_X10_advance tstape_signs tstape_length tstape_behind).bind fun r22 => (f_X6_freshName t_fault tscity_men tscity_dangers tscity_decrees tscity_manNames tscity_dangerNames tscity_decreeNames tstape_signs tstape_length r22.1 r22.2.1 r22.2.2.1 r22.2.2.2.1 r22.2.2.2.2.1 r22.2.2.2.2.2).bind fun r34 => if r34.1 = (0 : Int32) then some ((0 : Int32), r34.2.1, tscity_decrees, tscity_decreeNames, tscity_grounds, r34.2.2.1, r34.2.2.2.1, r34.2.2.2.2.1, r34.2.2.2.2.2.1, r34.2.2.2.2.2.2.1, r34.2.2.2.2.2.2.2)
    else eg (r34.2.2.2.2.2.2.2) (if r34.2.2.2.2.2.2.2 = (some 10) then (f_X10_advance tstape_signs tstape_length r34.2.2.2.1).bind fun r61 => (f_X6_groundsTold r34.2.1 tscity_decrees tscity_decreeNames tstape_signs tstape_length r61.1 r61.2.1 r61.2.2.1 r61.2.2.2.1 r61.2.2.2.2.1 r61.2.2.2.2.2).bind fun r65 => f_X6_decreeLine_69 r65.2.1 tscity_decrees tscity_decreeNames tscity_grounds tstape_signs tstape_length r65.2.2.1 r65.2.2.2.1 r65.2.2.2.2.1 r65.2.2.2.2.2.1 r65.2.2.2.2.2.2.1 r65.2.2.2.2.2.2.2 r22.2.2.2.2.1 r65.1
    else f_X6_decreeLine_69 r34.2.1 tscity_decrees tscity_decreeNames tscity_grounds tstape_signs tstape_length r34.2.2.1 r34.2.2.2.1 r34.2.2.2.2.1 r34.2.2.2.2.2.1 r34.2.2.2.2.2.2.1 r34.2.2.2.2.2.2.2 r22.2.2.2.2.1 ((0 : Int32)))
  else zg ((f_X6_wrong tstape_place ((5 : Int32))).1) (some ((f_X6_wrong tstape_place ((5 : Int32))).1, (f_X6_wrong tstape_place ((5 : Int32))).2, tscity_decrees, tscity_decreeNames, tscity_grounds, tstape_place, tstape_behind, tstape_kind, tstape_value, tstape_letters, tstape_word))
abbrev rm_X6_decreeLine : Room := { frames := 4, cells := 0, slots := 0, locals := 88 }
theorem hd_X6_decreeLine : yX6_decreeLine.cls = RX6 ∧ yX6_decreeLine.cls ≠ "java/lang/invoke/MethodHandle" ∧ yX6_decreeLine.cls ≠ "java/lang/invoke/VarHandle" ∧ (parseMethodDescriptor yX6_decreeLine.desc).map (fun d => d.parameters.length) = some 0 := by decide +kernel
set_option maxRecDepth 100000 in
set_option maxHeartbeats 4000000 in
theorem kb_X6_decreeLine_69 {E : En} {p : Program} {l : Launch} {e : Env} {s : State} {m : MethodId} {args : Array Value} {below : List Frame} {meth : Method} {c : Code} {A : Nat → Prop} {t_o : Nat} {t_script : Value} {tscity_o : Nat} {tscity_q : Nat → Nat} {tscity_men : Int32} {tscity_consuls : Int32} {tscity_dangers : Int32} {tscity_term : Int32} {tscity_termTold : Int32} {tscity_manNames : (Nat → Int64)} {tscity_kinds : (Nat → Int32)} {tscity_skills : (Nat → Int32)} {tscity_fields : (Nat → Int32)} {tscity_wants : (Nat → Int32)} {tscity_hated : (Nat → Int32)} {tscity_dangerNames : (Nat → Int64)} {tscity_sizes : (Nat → Int32)} {tscity_grows : (Nat → Int32)} {tscity_laws : Value} {tstape_o : Nat} {tstape_q : Nat → Nat} {tstape_signs : (Nat → Int32)} {tstape_length : Int32} {out : Int32 × Int32 × Int32 × (Nat → Int64) × (Nat → Int32) × Int32 × Int32 × Int32 × Int32 × Int64 × (Option Nat)} (X : Bx E A p s m args meth c cX6_decreeLine 4 RX6 (some .boolean)) {t_fault : Int32} {tscity_decrees : Int32} {tscity_decreeNames : (Nat → Int64)} {tscity_grounds : (Nat → Int32)} {tstape_place : Int32} {tstape_behind : Int32} {tstape_kind : Int32} {tstape_value : Int32} {tstape_letters : Int64} {tstape_word : (Option Nat)} {x1 : Int64} {x3 : Int32} {H : Heap} {locs : List Loc} {ls : Array Slot} (hf : f_X6_decreeLine_69 t_fault tscity_decrees tscity_decreeNames tscity_grounds tstape_signs tstape_length tstape_place tstape_behind tstape_kind tstape_value tstape_letters tstape_word x1 x3 = some out) : Wd E A s.heap (wX6 E t_o (.ref tstape_o) (.ref tscity_o) t_script t_fault ++ (wX1 E tscity_o tscity_q tscity_men tscity_consuls tscity_dangers tscity_decrees tscity_term tscity_termTold tscity_manNames tscity_kinds tscity_skills tscity_fields tscity_wants tscity_hated tscity_dangerNames tscity_sizes tscity_grows tscity_decreeNames tscity_grounds tscity_laws ++ (wX10 E tstape_o tstape_q tstape_signs tstape_length tstape_place tstape_behind tstape_kind tstape_value tstape_letters tstape_word))) H locs → lv_has ls 4 [(0, .ref t_o), (1, .long (x1)), (3, .int (x3))] → W p l e rm_X6_decreeLine s m args below meth c H locs 0 0 (Zn E below args s A (some (.int out.1)) (wX6 E t_o (.ref tstape_o) (.ref tscity_o) t_script out.2.1 ++ (wX1 E tscity_o tscity_q tscity_men tscity_consuls tscity_dangers out.2.2.1 tscity_term tscity_termTold tscity_manNames tscity_kinds tscity_skills tscity_fields tscity_wants tscity_hated tscity_dangerNames tscity_sizes tscity_grows out.2.2.2.1 out.2.2.2.2.1 tscity_laws ++ (wX10 E tstape_o tstape_q tstape_signs tstape_length out.2.2.2.2.2.1 out.2.2.2.2.2.2.1 out.2.2.2.2.2.2.2.1 out.2.2.2.2.2.2.2.2.1 out.2.2.2.2.2.2.2.2.2.1 out.2.2.2.2.2.2.2.2.2.2)))) (F0 m 69 ls []) := by
  have hx := X.1.1
  have hb := X.1.2.1
  have ho := X.1.2.2.2.1
  have hts := X.1.2.2.2.2
  intro hw hl
  unfold f_X6_decreeLine_69 at hf
  refine lv_iload_n hx hb dX6_decreeLine_69 rfl (lv_at hl 2 rfl) ?_
  refine lv_iconst (v := (-1 : Int32)) hx hb dX6_decreeLine_70 (by decide) ?_
  refine lv_icmp_eq (tgt := 81) hx hb dX6_decreeLine_71 (by decide) (fun c_71 => ?_) (fun c_71 => ?_)
  · have hf := (if_pos c_71).symm.trans hf
    refine lv_iconst (v := (0 : Int32)) hx hb dX6_decreeLine_81 (by decide) ?_
    obtain rfl := Option.some.inj hf
    exact k_zret X (Or.inl rfl) hw dX6_decreeLine_82
  · have hf := (if_neg c_71).symm.trans hf
    refine lv_aload_n hx hb dX6_decreeLine_74 rfl (lv_at hl 0 rfl) ?_
    obtain ⟨r75, hc_75, hf⟩ := bd_some hf
    refine k_V (As := []) (rest := []) (index := 129) (C := RX6) X (c_X6_lineEnds hc_75) tw_684 tw_686 tw_8 tw_121 tw_687 ⟨rfl, rfl⟩ hd_X6_lineEnds ⟨Nat.le_of_ble_eq_true rfl, Nat.le_of_ble_eq_true rfl⟩ ⟨Nat.zero_le _, Nat.zero_le _⟩ hw [0, 13, 14] rfl rfl 0 rfl rfl rfl rfl hl.1 rfl (Nat.le_of_ble_eq_true rfl) dX6_decreeLine_75 (fun H locs hw => ?_)
    have hw : Wd E A s.heap (wX6 E t_o (.ref tstape_o) (.ref tscity_o) t_script r75.2.1 ++ (wX1 E tscity_o tscity_q tscity_men tscity_consuls tscity_dangers tscity_decrees tscity_term tscity_termTold tscity_manNames tscity_kinds tscity_skills tscity_fields tscity_wants tscity_hated tscity_dangerNames tscity_sizes tscity_grows tscity_decreeNames tscity_grounds tscity_laws ++ (wX10 E tstape_o tstape_q tstape_signs tstape_length r75.2.2.1 r75.2.2.2.1 r75.2.2.2.2.1 r75.2.2.2.2.2.1 r75.2.2.2.2.2.2.1 r75.2.2.2.2.2.2.2))) H locs := hw
    refine lv_if_ne (tgt := 83) hx hb dX6_decreeLine_78 (by decide) (fun c_78 => ?_) (fun c_78 => ?_)
    · have hf := (if_neg c_78).symm.trans hf
      refine lv_aload_n hx hb dX6_decreeLine_83 rfl (lv_at hl 0 rfl) ?_
      refine k_get (q0 := 0) (ci := 5) (C := RX6) (T := TX6) (N := 4) (x := .ref tscity_o) X inx_6 hw rfl rfl 1 (by decide) rfl tw_193 rfl dX6_decreeLine_84 ?_
      refine lv_lload_n hx hb dX6_decreeLine_87 rfl (lv_at hl 1 rfl) ?_
      refine lv_iload_n hx hb dX6_decreeLine_88 rfl (lv_at hl 2 rfl) ?_
      obtain ⟨r89, hc_89, hf⟩ := bd_some hf
      refine k_V (As := [.long (x1), .int (x3)]) (rest := []) (index := 201) (C := RX1) X (c_X1_addDecree hc_89) tw_754 tw_755 tw_756 tw_126 tw_757 ⟨rfl, rfl⟩ hd_X1_addDecree ⟨Nat.le_of_ble_eq_true rfl, Nat.le_of_ble_eq_true rfl⟩ ⟨Nat.zero_le _, Nat.zero_le _⟩ hw [1, 2, 3, 4, 5, 6, 7, 8, 9, 10, 11, 12] rfl rfl 1 rfl rfl rfl rfl hl.1 rfl (Nat.le_of_ble_eq_true rfl) dX6_decreeLine_89 (fun H locs hw => ?_)
      have hw : Wd E A s.heap (wX6 E t_o (.ref tstape_o) (.ref tscity_o) t_script r75.2.1 ++ (wX1 E tscity_o tscity_q tscity_men tscity_consuls tscity_dangers r89.1 tscity_term tscity_termTold tscity_manNames tscity_kinds tscity_skills tscity_fields tscity_wants tscity_hated tscity_dangerNames tscity_sizes tscity_grows r89.2.1 r89.2.2 tscity_laws ++ (wX10 E tstape_o tstape_q tstape_signs tstape_length r75.2.2.1 r75.2.2.2.1 r75.2.2.2.2.1 r75.2.2.2.2.2.1 r75.2.2.2.2.2.2.1 r75.2.2.2.2.2.2.2))) H locs := hw
      refine lv_iconst (v := (1 : Int32)) hx hb dX6_decreeLine_92 (by decide) ?_
      obtain rfl := Option.some.inj hf
      exact k_zret X (Or.inr rfl) hw dX6_decreeLine_93
    · have hf := (if_pos c_78).symm.trans hf
      refine lv_iconst (v := (0 : Int32)) hx hb dX6_decreeLine_81 (by decide) ?_
      obtain rfl := Option.some.inj hf
      exact k_zret X (Or.inl rfl) hw dX6_decreeLine_82
set_option maxRecDepth 100000 in
set_option maxHeartbeats 4000000 in
theorem c_X6_decreeLine {E : En} {l : Launch} {t_o : Nat} {t_script : Value} {t_fault : Int32} {tscity_o : Nat} {tscity_q : Nat → Nat} {tscity_men : Int32} {tscity_consuls : Int32} {tscity_dangers : Int32} {tscity_decrees : Int32} {tscity_term : Int32} {tscity_termTold : Int32} {tscity_manNames : (Nat → Int64)} {tscity_kinds : (Nat → Int32)} {tscity_skills : (Nat → Int32)} {tscity_fields : (Nat → Int32)} {tscity_wants : (Nat → Int32)} {tscity_hated : (Nat → Int32)} {tscity_dangerNames : (Nat → Int64)} {tscity_sizes : (Nat → Int32)} {tscity_grows : (Nat → Int32)} {tscity_decreeNames : (Nat → Int64)} {tscity_grounds : (Nat → Int32)} {tscity_laws : Value} {tstape_o : Nat} {tstape_q : Nat → Nat} {tstape_signs : (Nat → Int32)} {tstape_length : Int32} {tstape_place : Int32} {tstape_behind : Int32} {tstape_kind : Int32} {tstape_value : Int32} {tstape_letters : Int64} {tstape_word : (Option Nat)}  {out : Int32 × Int32 × Int32 × (Nat → Int64) × (Nat → Int32) × Int32 × Int32 × Int32 × Int32 × Int64 × (Option Nat)} (hf : f_X6_decreeLine t_fault tscity_men tscity_dangers tscity_decrees tscity_manNames tscity_dangerNames tscity_decreeNames tscity_grounds tstape_signs tstape_length tstape_place tstape_behind tstape_kind tstape_value tstape_letters tstape_word = some out) : Cn E l yX6_decreeLine cX6_decreeLine 4 (some .boolean) rm_X6_decreeLine [.ref t_o] (wX6 E t_o (.ref tstape_o) (.ref tscity_o) t_script t_fault ++ (wX1 E tscity_o tscity_q tscity_men tscity_consuls tscity_dangers tscity_decrees tscity_term tscity_termTold tscity_manNames tscity_kinds tscity_skills tscity_fields tscity_wants tscity_hated tscity_dangerNames tscity_sizes tscity_grows tscity_decreeNames tscity_grounds tscity_laws ++ (wX10 E tstape_o tstape_q tstape_signs tstape_length tstape_place tstape_behind tstape_kind tstape_value tstape_letters tstape_word))) (some (.int out.1)) (wX6 E t_o (.ref tstape_o) (.ref tscity_o) t_script out.2.1 ++ (wX1 E tscity_o tscity_q tscity_men tscity_consuls tscity_dangers out.2.2.1 tscity_term tscity_termTold tscity_manNames tscity_kinds tscity_skills tscity_fields tscity_wants tscity_hated tscity_dangerNames tscity_sizes tscity_grows out.2.2.2.1 out.2.2.2.2.1 tscity_laws ++ (wX10 E tstape_o tstape_q tstape_signs tstape_length out.2.2.2.2.2.1 out.2.2.2.2.2.2.1 out.2.2.2.2.2.2.2.1 out.2.2.2.2.2.2.2.2.1 out.2.2.2.2.2.2.2.2.2.1 out.2.2.2.2.2.2.2.2.2.2))) := by
  refine Cn.of (by decide) (Nat.le_of_ble_eq_true rfl) rfl ?_
  intro p e s m below meth c A ls args H locs X hw hl
  have hx := X.1.1
  have hb := X.1.2.1
  have ho := X.1.2.2.2.1
  have hts := X.1.2.2.2.2
  have hl : lv_has ls 4 [(0, .ref t_o)] := hl
  unfold f_X6_decreeLine at hf
  refine lv_aload_n hx hb dX6_decreeLine_0 rfl (lv_at hl 0 rfl) ?_
  refine k_get (q0 := 0) (ci := 5) (C := RX6) (T := TX6) (N := 4) (x := .ref tscity_o) X inx_6 hw rfl rfl 1 (by decide) rfl tw_193 rfl dX6_decreeLine_1 ?_
  refine k_getN (q0 := 1) (ci := 0) (C := RX1) (T := TX1) (N := 18) (host := "PloughCall") (x := .int (tscity_decrees)) X inx_1 hw rfl rfl 3 (by decide) rfl nw_43 rfl dX6_decreeLine_4 ?_
  refine lv_bipush (v := (6 : Int32)) hx hb dX6_decreeLine_7 (by decide) ?_
  refine lv_icmp_lt (tgt := 18) hx hb dX6_decreeLine_9 (by decide) (fun c_9 => ?_) (fun c_9 => ?_)
  · have hf := (if_pos c_9).symm.trans hf
    refine lv_aload_n hx hb dX6_decreeLine_18 rfl (lv_at hl 0 rfl) ?_
    refine k_get (q0 := 0) (ci := 5) (C := RX6) (T := TX6) (N := 4) (x := .ref tstape_o) X inx_6 hw rfl rfl 0 (by decide) rfl tw_192 rfl dX6_decreeLine_19 ?_
    obtain ⟨r22, hc_22, hf⟩ := bd_some hf
    refine k_V (As := []) (rest := []) (index := 103) (C := RX10) X (c_X10_advance hc_22) tw_633 tw_587 tw_588 tw_120 tw_589 ⟨rfl, rfl⟩ hd_X10_advance ⟨Nat.le_of_ble_eq_true rfl, Nat.le_of_ble_eq_true rfl⟩ ⟨Nat.zero_le _, Nat.zero_le _⟩ hw [13, 14] rfl rfl 13 rfl rfl rfl rfl hl.1 rfl (Nat.le_of_ble_eq_true rfl) dX6_decreeLine_22 (fun H locs hw => ?_)
    have hw : Wd E A s.heap (wX6 E t_o (.ref tstape_o) (.ref tscity_o) t_script t_fault ++ (wX1 E tscity_o tscity_q tscity_men tscity_consuls tscity_dangers tscity_decrees tscity_term tscity_termTold tscity_manNames tscity_kinds tscity_skills tscity_fields tscity_wants tscity_hated tscity_dangerNames tscity_sizes tscity_grows tscity_decreeNames tscity_grounds tscity_laws ++ (wX10 E tstape_o tstape_q tstape_signs tstape_length r22.1 r22.2.1 r22.2.2.1 r22.2.2.2.1 r22.2.2.2.2.1 r22.2.2.2.2.2))) H locs := hw
    refine lv_aload_n hx hb dX6_decreeLine_25 rfl (lv_at hl 0 rfl) ?_
    refine k_get (q0 := 0) (ci := 5) (C := RX6) (T := TX6) (N := 4) (x := .ref tstape_o) X inx_6 hw rfl rfl 0 (by decide) rfl tw_192 rfl dX6_decreeLine_26 ?_
    refine k_getN (q0 := 13) (ci := 9) (C := RX10) (T := TX10) (N := 8) (host := "PloughCall") (x := .long (r22.2.2.2.2.1)) X inx_10 hw rfl rfl 6 (by decide) rfl nw_5 rfl dX6_decreeLine_29 ?_
    refine lv_lstore_n (lv' := [(1, .long (r22.2.2.2.2.1)), (0, .ref t_o)]) hx hb dX6_decreeLine_32 rfl hl (by decide) rfl (fun ls hl => ?_)
    refine lv_aload_n hx hb dX6_decreeLine_33 rfl (lv_at hl 1 rfl) ?_
    obtain ⟨r34, hc_34, hf⟩ := bd_some hf
    refine k_V (As := []) (rest := []) (index := 110) (C := RX6) X (c_X6_freshName hc_34) tw_634 tw_636 tw_5 tw_121 tw_637 ⟨rfl, rfl⟩ hd_X6_freshName ⟨Nat.le_of_ble_eq_true rfl, Nat.le_of_ble_eq_true rfl⟩ ⟨Nat.zero_le _, Nat.zero_le _⟩ hw [0, 1, 2, 3, 4, 5, 6, 7, 8, 9, 10, 11, 12, 13, 14] rfl rfl 0 rfl rfl rfl rfl hl.1 rfl (Nat.le_of_ble_eq_true rfl) dX6_decreeLine_34 (fun H locs hw => ?_)
    have hw : Wd E A s.heap (wX6 E t_o (.ref tstape_o) (.ref tscity_o) t_script r34.2.1 ++ (wX1 E tscity_o tscity_q tscity_men tscity_consuls tscity_dangers tscity_decrees tscity_term tscity_termTold tscity_manNames tscity_kinds tscity_skills tscity_fields tscity_wants tscity_hated tscity_dangerNames tscity_sizes tscity_grows tscity_decreeNames tscity_grounds tscity_laws ++ (wX10 E tstape_o tstape_q tstape_signs tstape_length r34.2.2.1 r34.2.2.2.1 r34.2.2.2.2.1 r34.2.2.2.2.2.1 r34.2.2.2.2.2.2.1 r34.2.2.2.2.2.2.2))) H locs := hw
    refine lv_if_ne (tgt := 42) hx hb dX6_decreeLine_37 (by decide) (fun c_37 => ?_) (fun c_37 => ?_)
    · have hf := (if_neg c_37).symm.trans hf
      refine lv_iconst (v := (0 : Int32)) hx hb dX6_decreeLine_42 (by decide) ?_
      refine lv_istore_n (lv' := [(3, .int ((0 : Int32))), (1, .long (r22.2.2.2.2.1)), (0, .ref t_o)]) hx hb dX6_decreeLine_43 rfl hl (by decide) rfl (fun ls hl => ?_)
      refine lv_aload_n hx hb dX6_decreeLine_44 rfl (lv_at hl 2 rfl) ?_
      refine k_get (q0 := 0) (ci := 5) (C := RX6) (T := TX6) (N := 4) (x := .ref tstape_o) X inx_6 hw rfl rfl 0 (by decide) rfl tw_192 rfl dX6_decreeLine_45 ?_
      refine k_getN (q0 := 13) (ci := 9) (C := RX10) (T := TX10) (N := 8) (host := "PloughCall") (x := va_re E.2.2 (r34.2.2.2.2.2.2.2)) X inx_10 hw rfl rfl 7 (by decide) rfl nw_6 rfl dX6_decreeLine_48 ?_
      refine k_const (i := 10) X hw (by decide) rfl tw_747 dX6_decreeLine_51 ?_
      obtain ⟨hex_54, hf⟩ := eg_some hf
      refine k_acmp_ne (x := r34.2.2.2.2.2.2.2) (z := (some 10)) (tgt := 69) X hex_54 rfl dX6_decreeLine_54 (by decide) (fun c_54 => ?_) (fun c_54 => ?_)
      · have hf := (if_neg c_54).symm.trans hf
        exact kb_X6_decreeLine_69 X hf hw (lv_sub hl [2, 1, 0] rfl)
      · have hf := (if_pos c_54).symm.trans hf
        refine lv_aload_n hx hb dX6_decreeLine_57 rfl (lv_at hl 2 rfl) ?_
        refine k_get (q0 := 0) (ci := 5) (C := RX6) (T := TX6) (N := 4) (x := .ref tstape_o) X inx_6 hw rfl rfl 0 (by decide) rfl tw_192 rfl dX6_decreeLine_58 ?_
        obtain ⟨r61, hc_61, hf⟩ := bd_some hf
        refine k_V (As := []) (rest := []) (index := 103) (C := RX10) X (c_X10_advance hc_61) tw_633 tw_587 tw_588 tw_120 tw_589 ⟨rfl, rfl⟩ hd_X10_advance ⟨Nat.le_of_ble_eq_true rfl, Nat.le_of_ble_eq_true rfl⟩ ⟨Nat.zero_le _, Nat.zero_le _⟩ hw [13, 14] rfl rfl 13 rfl rfl rfl rfl hl.1 rfl (Nat.le_of_ble_eq_true rfl) dX6_decreeLine_61 (fun H locs hw => ?_)
        have hw : Wd E A s.heap (wX6 E t_o (.ref tstape_o) (.ref tscity_o) t_script r34.2.1 ++ (wX1 E tscity_o tscity_q tscity_men tscity_consuls tscity_dangers tscity_decrees tscity_term tscity_termTold tscity_manNames tscity_kinds tscity_skills tscity_fields tscity_wants tscity_hated tscity_dangerNames tscity_sizes tscity_grows tscity_decreeNames tscity_grounds tscity_laws ++ (wX10 E tstape_o tstape_q tstape_signs tstape_length r61.1 r61.2.1 r61.2.2.1 r61.2.2.2.1 r61.2.2.2.2.1 r61.2.2.2.2.2))) H locs := hw
        refine lv_aload_n hx hb dX6_decreeLine_64 rfl (lv_at hl 2 rfl) ?_
        obtain ⟨r65, hc_65, hf⟩ := bd_some hf
        refine k_V (As := []) (rest := []) (index := 198) (C := RX6) X (c_X6_groundsTold hc_65) tw_749 tw_751 tw_14 tw_121 tw_752 ⟨rfl, rfl⟩ hd_X6_groundsTold ⟨Nat.le_of_ble_eq_true rfl, Nat.le_of_ble_eq_true rfl⟩ ⟨Nat.zero_le _, Nat.zero_le _⟩ hw [0, 1, 2, 3, 4, 5, 6, 7, 8, 9, 10, 11, 12, 13, 14] rfl rfl 0 rfl rfl rfl rfl hl.1 rfl (Nat.le_of_ble_eq_true rfl) dX6_decreeLine_65 (fun H locs hw => ?_)
        have hw : Wd E A s.heap (wX6 E t_o (.ref tstape_o) (.ref tscity_o) t_script r65.2.1 ++ (wX1 E tscity_o tscity_q tscity_men tscity_consuls tscity_dangers tscity_decrees tscity_term tscity_termTold tscity_manNames tscity_kinds tscity_skills tscity_fields tscity_wants tscity_hated tscity_dangerNames tscity_sizes tscity_grows tscity_decreeNames tscity_grounds tscity_laws ++ (wX10 E tstape_o tstape_q tstape_signs tstape_length r65.2.2.1 r65.2.2.2.1 r65.2.2.2.2.1 r65.2.2.2.2.2.1 r65.2.2.2.2.2.2.1 r65.2.2.2.2.2.2.2))) H locs := hw
        refine lv_istore_n (lv' := [(3, .int (r65.1)), (1, .long (r22.2.2.2.2.1)), (0, .ref t_o)]) hx hb dX6_decreeLine_68 rfl hl (by decide) rfl (fun ls hl => ?_)
        exact kb_X6_decreeLine_69 X hf hw (lv_sub hl [2, 1, 0] rfl)
    · have hf := (if_pos c_37).symm.trans hf
      refine lv_iconst (v := (0 : Int32)) hx hb dX6_decreeLine_40 (by decide) ?_
      obtain rfl := Option.some.inj hf
      exact k_zret X (Or.inl rfl) hw dX6_decreeLine_41
  · have hf := (if_neg c_9).symm.trans hf
    refine lv_aload_n hx hb dX6_decreeLine_12 rfl (lv_at hl 0 rfl) ?_
    refine lv_iconst (v := (5 : Int32)) hx hb dX6_decreeLine_13 (by decide) ?_
    refine k_V (As := [.int ((5 : Int32))]) (rest := []) (index := 62) (C := RX6) X (c_X6_wrong (out := (f_X6_wrong tstape_place ((5 : Int32)))) rfl) tw_617 tw_619 tw_3 tw_121 tw_620 ⟨rfl, rfl⟩ hd_X6_wrong ⟨Nat.le_of_ble_eq_true rfl, Nat.le_of_ble_eq_true rfl⟩ ⟨Nat.zero_le _, Nat.zero_le _⟩ hw [0, 13, 14] rfl rfl 0 rfl rfl rfl rfl hl.1 rfl (Nat.le_of_ble_eq_true rfl) dX6_decreeLine_14 (fun H locs hw => ?_)
    have hw : Wd E A s.heap (wX6 E t_o (.ref tstape_o) (.ref tscity_o) t_script ((f_X6_wrong tstape_place ((5 : Int32))).2) ++ (wX1 E tscity_o tscity_q tscity_men tscity_consuls tscity_dangers tscity_decrees tscity_term tscity_termTold tscity_manNames tscity_kinds tscity_skills tscity_fields tscity_wants tscity_hated tscity_dangerNames tscity_sizes tscity_grows tscity_decreeNames tscity_grounds tscity_laws ++ (wX10 E tstape_o tstape_q tstape_signs tstape_length tstape_place tstape_behind tstape_kind tstape_value tstape_letters tstape_word))) H locs := hw
    obtain ⟨hz_17, hf⟩ := zg_some hf
    obtain rfl := Option.some.inj hf
    exact k_zret X hz_17 hw dX6_decreeLine_17
/-! private boolean termLine(); -/
def f_X6_termLine (t_fault : Int32) (tscity_term : Int32) (tscity_termTold : Int32) (tstape_signs : (Nat → Int32)) (tstape_length : Int32) (tstape_place : Int32) (tstape_behind : Int32) (tstape_kind : Int32) (tstape_value : Int32) (tstape_letters : Int64) (tstape_word : (Option Nat)) : Option (Int32 × Int32 × Int32 × Int32 × Int32 × Int32 × Int32 × Int32 × Int64 × (Option Nat)) := if tscity_termTold = (0 : Int32) then (f_X6_labelled t_fault tstape_signs tstape_length tstape_place tstape_behind tstape_kind tstape_value tstape_letters tstape_word ((some 11)) ((1 : Int32)) ((12 : Int32))).bind fun r23 => if r23.1 = (-1 : Int32) then some ((0 : Int32), r23.2.1, tscity_term, tscity_termTold, r23.2.2.1, r23.2.2.2.1, r23.2.2.2.2.1, r23.2.2.2.2.2.1, r23.2.2.2.2.2.2.1, r23.2.2.2.2.2.2.2)
    else (f_X6_lineEnds r23.2.1 tstape_signs tstape_length r23.2.2.1 r23.2.2.2.1 r23.2.2.2.2.1 r23.2.2.2.2.2.1 r23.2.2.2.2.2.2.1 r23.2.2.2.2.2.2.2).bind fun r33 => if r33.1 = (0 : Int32) then some ((0 : Int32), r33.2.1, tscity_term, tscity_termTold, r33.2.2.1, r33.2.2.2.1, r33.2.2.2.2.1, r33.2.2.2.2.2.1, r33.2.2.2.2.2.2.1, r33.2.2.2.2.2.2.2)
    else some ((1 : Int32), r33.2.1, r23.1, (1 : Int32), r33.2.2.1, r33.2.2.2.1, r33.2.2.2.2.1, r33.2.2.2.2.2.1, r33.2.2.2.2.2.2.1, r33.2.2.2.2.2.2.2)
  else zg ((f_X6_wrong tstape_place ((3 : Int32))).1) (some ((f_X6_wrong tstape_place ((3 : Int32))).1, (f_X6_wrong tstape_place ((3 : Int32))).2, tscity_term, tscity_termTold, tstape_place, tstape_behind, tstape_kind, tstape_value, tstape_letters, tstape_word))
abbrev rm_X6_termLine : Room := { frames := 4, cells := 0, slots := 0, locals := 88 }
theorem hd_X6_termLine : yX6_termLine.cls = RX6 ∧ yX6_termLine.cls ≠ "java/lang/invoke/MethodHandle" ∧ yX6_termLine.cls ≠ "java/lang/invoke/VarHandle" ∧ (parseMethodDescriptor yX6_termLine.desc).map (fun d => d.parameters.length) = some 0 := by decide +kernel
set_option maxRecDepth 100000 in
set_option maxHeartbeats 4000000 in
theorem c_X6_termLine {E : En} {l : Launch} {t_o : Nat} {t_script : Value} {t_fault : Int32} {tscity_o : Nat} {tscity_q : Nat → Nat} {tscity_men : Int32} {tscity_consuls : Int32} {tscity_dangers : Int32} {tscity_decrees : Int32} {tscity_term : Int32} {tscity_termTold : Int32} {tscity_manNames : (Nat → Int64)} {tscity_kinds : (Nat → Int32)} {tscity_skills : (Nat → Int32)} {tscity_fields : (Nat → Int32)} {tscity_wants : (Nat → Int32)} {tscity_hated : (Nat → Int32)} {tscity_dangerNames : (Nat → Int64)} {tscity_sizes : (Nat → Int32)} {tscity_grows : (Nat → Int32)} {tscity_decreeNames : (Nat → Int64)} {tscity_grounds : (Nat → Int32)} {tscity_laws : Value} {tstape_o : Nat} {tstape_q : Nat → Nat} {tstape_signs : (Nat → Int32)} {tstape_length : Int32} {tstape_place : Int32} {tstape_behind : Int32} {tstape_kind : Int32} {tstape_value : Int32} {tstape_letters : Int64} {tstape_word : (Option Nat)}  {out : Int32 × Int32 × Int32 × Int32 × Int32 × Int32 × Int32 × Int32 × Int64 × (Option Nat)} (hf : f_X6_termLine t_fault tscity_term tscity_termTold tstape_signs tstape_length tstape_place tstape_behind tstape_kind tstape_value tstape_letters tstape_word = some out) : Cn E l yX6_termLine cX6_termLine 2 (some .boolean) rm_X6_termLine [.ref t_o] (wX6 E t_o (.ref tstape_o) (.ref tscity_o) t_script t_fault ++ (wX1 E tscity_o tscity_q tscity_men tscity_consuls tscity_dangers tscity_decrees tscity_term tscity_termTold tscity_manNames tscity_kinds tscity_skills tscity_fields tscity_wants tscity_hated tscity_dangerNames tscity_sizes tscity_grows tscity_decreeNames tscity_grounds tscity_laws ++ (wX10 E tstape_o tstape_q tstape_signs tstape_length tstape_place tstape_behind tstape_kind tstape_value tstape_letters tstape_word))) (some (.int out.1)) (wX6 E t_o (.ref tstape_o) (.ref tscity_o) t_script out.2.1 ++ (wX1 E tscity_o tscity_q tscity_men tscity_consuls tscity_dangers tscity_decrees out.2.2.1 out.2.2.2.1 tscity_manNames tscity_kinds tscity_skills tscity_fields tscity_wants tscity_hated tscity_dangerNames tscity_sizes tscity_grows tscity_decreeNames tscity_grounds tscity_laws ++ (wX10 E tstape_o tstape_q tstape_signs tstape_length out.2.2.2.2.1 out.2.2.2.2.2.1 out.2.2.2.2.2.2.1 out.2.2.2.2.2.2.2.1 out.2.2.2.2.2.2.2.2.1 out.2.2.2.2.2.2.2.2.2))) := by
  refine Cn.of (by decide) (Nat.le_of_ble_eq_true rfl) rfl ?_
  intro p e s m below meth c A ls args H locs X hw hl
  have hx := X.1.1
  have hb := X.1.2.1
  have ho := X.1.2.2.2.1
  have hts := X.1.2.2.2.2
  have hl : lv_has ls 2 [(0, .ref t_o)] := hl
  unfold f_X6_termLine at hf
  refine lv_aload_n hx hb dX6_termLine_0 rfl (lv_at hl 0 rfl) ?_
  refine k_get (q0 := 0) (ci := 5) (C := RX6) (T := TX6) (N := 4) (x := .ref tscity_o) X inx_6 hw rfl rfl 1 (by decide) rfl tw_193 rfl dX6_termLine_1 ?_
  refine k_getN (q0 := 1) (ci := 0) (C := RX1) (T := TX1) (N := 18) (host := "PloughCall") (x := .int (tscity_termTold)) X inx_1 hw rfl rfl 5 (by decide) rfl nw_48 rfl dX6_termLine_4 ?_
  refine lv_if_eq (tgt := 16) hx hb dX6_termLine_7 (by decide) (fun c_7 => ?_) (fun c_7 => ?_)
  · have hf := (if_pos c_7).symm.trans hf
    refine lv_aload_n hx hb dX6_termLine_16 rfl (lv_at hl 0 rfl) ?_
    refine k_const (i := 11) X hw (by decide) rfl tw_762 dX6_termLine_17 ?_
    refine lv_iconst (v := (1 : Int32)) hx hb dX6_termLine_20 (by decide) ?_
    refine lv_bipush (v := (12 : Int32)) hx hb dX6_termLine_21 (by decide) ?_
    obtain ⟨r23, hc_23, hf⟩ := bd_some hf
    refine k_V (As := [va_re E.2.2 ((some 11)), .int ((1 : Int32)), .int ((12 : Int32))]) (rest := []) (index := 119) (C := RX6) X (c_X6_labelled hc_23) tw_675 tw_677 tw_7 tw_121 tw_678 ⟨rfl, rfl⟩ hd_X6_labelled ⟨Nat.le_of_ble_eq_true rfl, Nat.le_of_ble_eq_true rfl⟩ ⟨Nat.zero_le _, Nat.zero_le _⟩ hw [0, 13, 14] rfl rfl 0 rfl rfl rfl rfl hl.1 rfl (Nat.le_of_ble_eq_true rfl) dX6_termLine_23 (fun H locs hw => ?_)
    have hw : Wd E A s.heap (wX6 E t_o (.ref tstape_o) (.ref tscity_o) t_script r23.2.1 ++ (wX1 E tscity_o tscity_q tscity_men tscity_consuls tscity_dangers tscity_decrees tscity_term tscity_termTold tscity_manNames tscity_kinds tscity_skills tscity_fields tscity_wants tscity_hated tscity_dangerNames tscity_sizes tscity_grows tscity_decreeNames tscity_grounds tscity_laws ++ (wX10 E tstape_o tstape_q tstape_signs tstape_length r23.2.2.1 r23.2.2.2.1 r23.2.2.2.2.1 r23.2.2.2.2.2.1 r23.2.2.2.2.2.2.1 r23.2.2.2.2.2.2.2))) H locs := hw
    refine lv_istore_n (lv' := [(1, .int (r23.1)), (0, .ref t_o)]) hx hb dX6_termLine_26 rfl hl (by decide) rfl (fun ls hl => ?_)
    refine lv_iload_n hx hb dX6_termLine_27 rfl (lv_at hl 0 rfl) ?_
    refine lv_iconst (v := (-1 : Int32)) hx hb dX6_termLine_28 (by decide) ?_
    refine lv_icmp_eq (tgt := 39) hx hb dX6_termLine_29 (by decide) (fun c_29 => ?_) (fun c_29 => ?_)
    · have hf := (if_pos c_29).symm.trans hf
      refine lv_iconst (v := (0 : Int32)) hx hb dX6_termLine_39 (by decide) ?_
      obtain rfl := Option.some.inj hf
      exact k_zret X (Or.inl rfl) hw dX6_termLine_40
    · have hf := (if_neg c_29).symm.trans hf
      refine lv_aload_n hx hb dX6_termLine_32 rfl (lv_at hl 1 rfl) ?_
      obtain ⟨r33, hc_33, hf⟩ := bd_some hf
      refine k_V (As := []) (rest := []) (index := 129) (C := RX6) X (c_X6_lineEnds hc_33) tw_684 tw_686 tw_8 tw_121 tw_687 ⟨rfl, rfl⟩ hd_X6_lineEnds ⟨Nat.le_of_ble_eq_true rfl, Nat.le_of_ble_eq_true rfl⟩ ⟨Nat.zero_le _, Nat.zero_le _⟩ hw [0, 13, 14] rfl rfl 0 rfl rfl rfl rfl hl.1 rfl (Nat.le_of_ble_eq_true rfl) dX6_termLine_33 (fun H locs hw => ?_)
      have hw : Wd E A s.heap (wX6 E t_o (.ref tstape_o) (.ref tscity_o) t_script r33.2.1 ++ (wX1 E tscity_o tscity_q tscity_men tscity_consuls tscity_dangers tscity_decrees tscity_term tscity_termTold tscity_manNames tscity_kinds tscity_skills tscity_fields tscity_wants tscity_hated tscity_dangerNames tscity_sizes tscity_grows tscity_decreeNames tscity_grounds tscity_laws ++ (wX10 E tstape_o tstape_q tstape_signs tstape_length r33.2.2.1 r33.2.2.2.1 r33.2.2.2.2.1 r33.2.2.2.2.2.1 r33.2.2.2.2.2.2.1 r33.2.2.2.2.2.2.2))) H locs := hw
      refine lv_if_ne (tgt := 41) hx hb dX6_termLine_36 (by decide) (fun c_36 => ?_) (fun c_36 => ?_)
      · have hf := (if_neg c_36).symm.trans hf
        refine lv_aload_n hx hb dX6_termLine_41 rfl (lv_at hl 1 rfl) ?_
        refine k_get (q0 := 0) (ci := 5) (C := RX6) (T := TX6) (N := 4) (x := .ref tscity_o) X inx_6 hw rfl rfl 1 (by decide) rfl tw_193 rfl dX6_termLine_42 ?_
        refine lv_iload_n hx hb dX6_termLine_45 rfl (lv_at hl 0 rfl) ?_
        refine k_putN (q0 := 1) (ci := 0) (C := RX1) (T := TX1) (N := 18) (ty0 := tyX1) (host := "PloughCall") (x := .int (r23.1)) X inx_1 tyX1_ok nmX1 hw rfl rfl 4 (by decide) rfl rfl nw_46 rfl rfl (Nat.le_of_ble_eq_true rfl) dX6_termLine_46 (fun H locs hw => ?_)
        have hw : Wd E A s.heap (wX6 E t_o (.ref tstape_o) (.ref tscity_o) t_script r33.2.1 ++ (wX1 E tscity_o tscity_q tscity_men tscity_consuls tscity_dangers tscity_decrees r23.1 tscity_termTold tscity_manNames tscity_kinds tscity_skills tscity_fields tscity_wants tscity_hated tscity_dangerNames tscity_sizes tscity_grows tscity_decreeNames tscity_grounds tscity_laws ++ (wX10 E tstape_o tstape_q tstape_signs tstape_length r33.2.2.1 r33.2.2.2.1 r33.2.2.2.2.1 r33.2.2.2.2.2.1 r33.2.2.2.2.2.2.1 r33.2.2.2.2.2.2.2))) H locs := hw
        refine lv_aload_n hx hb dX6_termLine_49 rfl (lv_at hl 1 rfl) ?_
        refine k_get (q0 := 0) (ci := 5) (C := RX6) (T := TX6) (N := 4) (x := .ref tscity_o) X inx_6 hw rfl rfl 1 (by decide) rfl tw_193 rfl dX6_termLine_50 ?_
        refine lv_iconst (v := (1 : Int32)) hx hb dX6_termLine_53 (by decide) ?_
        refine k_putN (q0 := 1) (ci := 0) (C := RX1) (T := TX1) (N := 18) (ty0 := tyX1) (host := "PloughCall") (x := .int ((1 : Int32))) X inx_1 tyX1_ok nmX1 hw rfl rfl 5 (by decide) rfl rfl nw_48 rfl rfl (Nat.le_of_ble_eq_true rfl) dX6_termLine_54 (fun H locs hw => ?_)
        have hw : Wd E A s.heap (wX6 E t_o (.ref tstape_o) (.ref tscity_o) t_script r33.2.1 ++ (wX1 E tscity_o tscity_q tscity_men tscity_consuls tscity_dangers tscity_decrees r23.1 ((1 : Int32)) tscity_manNames tscity_kinds tscity_skills tscity_fields tscity_wants tscity_hated tscity_dangerNames tscity_sizes tscity_grows tscity_decreeNames tscity_grounds tscity_laws ++ (wX10 E tstape_o tstape_q tstape_signs tstape_length r33.2.2.1 r33.2.2.2.1 r33.2.2.2.2.1 r33.2.2.2.2.2.1 r33.2.2.2.2.2.2.1 r33.2.2.2.2.2.2.2))) H locs := hw
        refine lv_iconst (v := (1 : Int32)) hx hb dX6_termLine_57 (by decide) ?_
        obtain rfl := Option.some.inj hf
        exact k_zret X (Or.inr rfl) hw dX6_termLine_58
      · have hf := (if_pos c_36).symm.trans hf
        refine lv_iconst (v := (0 : Int32)) hx hb dX6_termLine_39 (by decide) ?_
        obtain rfl := Option.some.inj hf
        exact k_zret X (Or.inl rfl) hw dX6_termLine_40
  · have hf := (if_neg c_7).symm.trans hf
    refine lv_aload_n hx hb dX6_termLine_10 rfl (lv_at hl 0 rfl) ?_
    refine lv_iconst (v := (3 : Int32)) hx hb dX6_termLine_11 (by decide) ?_
    refine k_V (As := [.int ((3 : Int32))]) (rest := []) (index := 62) (C := RX6) X (c_X6_wrong (out := (f_X6_wrong tstape_place ((3 : Int32)))) rfl) tw_617 tw_619 tw_3 tw_121 tw_620 ⟨rfl, rfl⟩ hd_X6_wrong ⟨Nat.le_of_ble_eq_true rfl, Nat.le_of_ble_eq_true rfl⟩ ⟨Nat.zero_le _, Nat.zero_le _⟩ hw [0, 13, 14] rfl rfl 0 rfl rfl rfl rfl hl.1 rfl (Nat.le_of_ble_eq_true rfl) dX6_termLine_12 (fun H locs hw => ?_)
    have hw : Wd E A s.heap (wX6 E t_o (.ref tstape_o) (.ref tscity_o) t_script ((f_X6_wrong tstape_place ((3 : Int32))).2) ++ (wX1 E tscity_o tscity_q tscity_men tscity_consuls tscity_dangers tscity_decrees tscity_term tscity_termTold tscity_manNames tscity_kinds tscity_skills tscity_fields tscity_wants tscity_hated tscity_dangerNames tscity_sizes tscity_grows tscity_decreeNames tscity_grounds tscity_laws ++ (wX10 E tstape_o tstape_q tstape_signs tstape_length tstape_place tstape_behind tstape_kind tstape_value tstape_letters tstape_word))) H locs := hw
    obtain ⟨hz_15, hf⟩ := zg_some hf
    obtain rfl := Option.some.inj hf
    exact k_zret X hz_15 hw dX6_termLine_15
/-! private boolean lawLine(boolean); -/
def f_X6_lawLine (t_fault : Int32) (tscityslaws_ops : (Nat → Int32)) (tscityslaws_size : Int32) (tscityslaws_worksFrom : Int32) (tscityslaws_worksTo : Int32) (tscityslaws_keepsFrom : Int32) (tscityslaws_keepsTo : Int32) (tstape_signs : (Nat → Int32)) (tstape_length : Int32) (tstape_place : Int32) (tstape_behind : Int32) (tstape_kind : Int32) (tstape_value : Int32) (tstape_letters : Int64) (tstape_word : (Option Nat)) (x1 : Int32) : Option (Int32 × Int32 × (Nat → Int32) × Int32 × Int32 × Int32 × Int32 × Int32 × Int32 × Int32 × Int32 × Int32 × Int64 × (Option Nat)) := if (f_X3_isTold tscityslaws_worksFrom tscityslaws_worksTo tscityslaws_keepsFrom tscityslaws_keepsTo (x1)) = (0 : Int32) then (f_X10_advance tstape_signs tstape_length tstape_behind).bind fun r35 => (f_X6_expression (f_X6_part 6) t_fault tscityslaws_ops tscityslaws_size tstape_signs tstape_length r35.1 r35.2.1 r35.2.2.1 r35.2.2.2.1 r35.2.2.2.2.1 r35.2.2.2.2.2 (x1) ((0 : Int32))).bind fun r41 => if r41.1 = (0 : Int32) then some ((0 : Int32), r41.2.1, r41.2.2.1, r41.2.2.2.1, tscityslaws_worksFrom, tscityslaws_worksTo, tscityslaws_keepsFrom, tscityslaws_keepsTo, r41.2.2.2.2.1, r41.2.2.2.2.2.1, r41.2.2.2.2.2.2.1, r41.2.2.2.2.2.2.2.1, r41.2.2.2.2.2.2.2.2.1, r41.2.2.2.2.2.2.2.2.2)
    else (f_X6_lineEnds r41.2.1 tstape_signs tstape_length r41.2.2.2.2.1 r41.2.2.2.2.2.1 r41.2.2.2.2.2.2.1 r41.2.2.2.2.2.2.2.1 r41.2.2.2.2.2.2.2.2.1 r41.2.2.2.2.2.2.2.2.2).bind fun r48 => if r48.1 = (0 : Int32) then some ((0 : Int32), r48.2.1, r41.2.2.1, r41.2.2.2.1, tscityslaws_worksFrom, tscityslaws_worksTo, tscityslaws_keepsFrom, tscityslaws_keepsTo, r48.2.2.1, r48.2.2.2.1, r48.2.2.2.2.1, r48.2.2.2.2.2.1, r48.2.2.2.2.2.2.1, r48.2.2.2.2.2.2.2)
    else some ((1 : Int32), r48.2.1, r41.2.2.1, r41.2.2.2.1, (f_X3_close r41.2.2.2.1 tscityslaws_worksFrom tscityslaws_worksTo tscityslaws_keepsFrom tscityslaws_keepsTo (x1) (tscityslaws_size)).1, (f_X3_close r41.2.2.2.1 tscityslaws_worksFrom tscityslaws_worksTo tscityslaws_keepsFrom tscityslaws_keepsTo (x1) (tscityslaws_size)).2.1, (f_X3_close r41.2.2.2.1 tscityslaws_worksFrom tscityslaws_worksTo tscityslaws_keepsFrom tscityslaws_keepsTo (x1) (tscityslaws_size)).2.2.1, (f_X3_close r41.2.2.2.1 tscityslaws_worksFrom tscityslaws_worksTo tscityslaws_keepsFrom tscityslaws_keepsTo (x1) (tscityslaws_size)).2.2.2, r48.2.2.1, r48.2.2.2.1, r48.2.2.2.2.1, r48.2.2.2.2.2.1, r48.2.2.2.2.2.2.1, r48.2.2.2.2.2.2.2)
  else zg ((f_X6_wrong tstape_place ((3 : Int32))).1) (some ((f_X6_wrong tstape_place ((3 : Int32))).1, (f_X6_wrong tstape_place ((3 : Int32))).2, tscityslaws_ops, tscityslaws_size, tscityslaws_worksFrom, tscityslaws_worksTo, tscityslaws_keepsFrom, tscityslaws_keepsTo, tstape_place, tstape_behind, tstape_kind, tstape_value, tstape_letters, tstape_word))
abbrev rm_X6_lawLine : Room := { frames := 38, cells := 0, slots := 0, locals := 939 }
theorem hd_X6_lawLine : yX6_lawLine.cls = RX6 ∧ yX6_lawLine.cls ≠ "java/lang/invoke/MethodHandle" ∧ yX6_lawLine.cls ≠ "java/lang/invoke/VarHandle" ∧ (parseMethodDescriptor yX6_lawLine.desc).map (fun d => d.parameters.length) = some 1 := by decide +kernel
set_option maxRecDepth 100000 in
set_option maxHeartbeats 4000000 in
theorem c_X6_lawLine {E : En} {l : Launch} {t_o : Nat} {t_script : Value} {t_fault : Int32} {tscity_o : Nat} {tscity_q : Nat → Nat} {tscity_men : Int32} {tscity_consuls : Int32} {tscity_dangers : Int32} {tscity_decrees : Int32} {tscity_term : Int32} {tscity_termTold : Int32} {tscity_manNames : (Nat → Int64)} {tscity_kinds : (Nat → Int32)} {tscity_skills : (Nat → Int32)} {tscity_fields : (Nat → Int32)} {tscity_wants : (Nat → Int32)} {tscity_hated : (Nat → Int32)} {tscity_dangerNames : (Nat → Int64)} {tscity_sizes : (Nat → Int32)} {tscity_grows : (Nat → Int32)} {tscity_decreeNames : (Nat → Int64)} {tscity_grounds : (Nat → Int32)} {tscityslaws_o : Nat} {tscityslaws_q : Nat → Nat} {tscityslaws_ops : (Nat → Int32)} {tscityslaws_stack : (Nat → Int32)} {tscityslaws_size : Int32} {tscityslaws_worksFrom : Int32} {tscityslaws_worksTo : Int32} {tscityslaws_keepsFrom : Int32} {tscityslaws_keepsTo : Int32} {tstape_o : Nat} {tstape_q : Nat → Nat} {tstape_signs : (Nat → Int32)} {tstape_length : Int32} {tstape_place : Int32} {tstape_behind : Int32} {tstape_kind : Int32} {tstape_value : Int32} {tstape_letters : Int64} {tstape_word : (Option Nat)} {x1 : Int32} {out : Int32 × Int32 × (Nat → Int32) × Int32 × Int32 × Int32 × Int32 × Int32 × Int32 × Int32 × Int32 × Int32 × Int64 × (Option Nat)} (hf : f_X6_lawLine t_fault tscityslaws_ops tscityslaws_size tscityslaws_worksFrom tscityslaws_worksTo tscityslaws_keepsFrom tscityslaws_keepsTo tstape_signs tstape_length tstape_place tstape_behind tstape_kind tstape_value tstape_letters tstape_word x1 = some out) : Cn E l yX6_lawLine cX6_lawLine 3 (some .boolean) rm_X6_lawLine [.ref t_o, .int (x1)] (wX6 E t_o (.ref tstape_o) (.ref tscity_o) t_script t_fault ++ (wX1 E tscity_o tscity_q tscity_men tscity_consuls tscity_dangers tscity_decrees tscity_term tscity_termTold tscity_manNames tscity_kinds tscity_skills tscity_fields tscity_wants tscity_hated tscity_dangerNames tscity_sizes tscity_grows tscity_decreeNames tscity_grounds (.ref tscityslaws_o) ++ (wX3 E tscityslaws_o tscityslaws_q tscityslaws_ops tscityslaws_stack tscityslaws_size tscityslaws_worksFrom tscityslaws_worksTo tscityslaws_keepsFrom tscityslaws_keepsTo ++ (wX10 E tstape_o tstape_q tstape_signs tstape_length tstape_place tstape_behind tstape_kind tstape_value tstape_letters tstape_word)))) (some (.int out.1)) (wX6 E t_o (.ref tstape_o) (.ref tscity_o) t_script out.2.1 ++ (wX1 E tscity_o tscity_q tscity_men tscity_consuls tscity_dangers tscity_decrees tscity_term tscity_termTold tscity_manNames tscity_kinds tscity_skills tscity_fields tscity_wants tscity_hated tscity_dangerNames tscity_sizes tscity_grows tscity_decreeNames tscity_grounds (.ref tscityslaws_o) ++ (wX3 E tscityslaws_o tscityslaws_q out.2.2.1 tscityslaws_stack out.2.2.2.1 out.2.2.2.2.1 out.2.2.2.2.2.1 out.2.2.2.2.2.2.1 out.2.2.2.2.2.2.2.1 ++ (wX10 E tstape_o tstape_q tstape_signs tstape_length out.2.2.2.2.2.2.2.2.1 out.2.2.2.2.2.2.2.2.2.1 out.2.2.2.2.2.2.2.2.2.2.1 out.2.2.2.2.2.2.2.2.2.2.2.1 out.2.2.2.2.2.2.2.2.2.2.2.2.1 out.2.2.2.2.2.2.2.2.2.2.2.2.2)))) := by
  refine Cn.of (by decide) (Nat.le_of_ble_eq_true rfl) rfl ?_
  intro p e s m below meth c A ls args H locs X hw hl
  have hx := X.1.1
  have hb := X.1.2.1
  have ho := X.1.2.2.2.1
  have hts := X.1.2.2.2.2
  have hl : lv_has ls 3 [(0, .ref t_o), (1, .int (x1))] := hl
  unfold f_X6_lawLine at hf
  refine lv_aload_n hx hb dX6_lawLine_0 rfl (lv_at hl 0 rfl) ?_
  refine k_get (q0 := 0) (ci := 5) (C := RX6) (T := TX6) (N := 4) (x := .ref tscity_o) X inx_6 hw rfl rfl 1 (by decide) rfl tw_193 rfl dX6_lawLine_1 ?_
  refine k_getN (q0 := 1) (ci := 0) (C := RX1) (T := TX1) (N := 18) (host := "PloughCall") (x := .ref tscityslaws_o) X inx_1 hw rfl rfl 17 (by decide) rfl nw_63 rfl dX6_lawLine_4 ?_
  refine lv_iload_n hx hb dX6_lawLine_7 rfl (lv_at hl 1 rfl) ?_
  refine k_V (As := [.int (x1)]) (rest := []) (index := 226) (C := RX3) X (c_X3_isTold (out := (f_X3_isTold tscityslaws_worksFrom tscityslaws_worksTo tscityslaws_keepsFrom tscityslaws_keepsTo (x1))) rfl) tw_768 tw_769 tw_770 tw_127 tw_771 ⟨rfl, rfl⟩ hd_X3_isTold ⟨Nat.le_of_ble_eq_true rfl, Nat.le_of_ble_eq_true rfl⟩ ⟨Nat.zero_le _, Nat.zero_le _⟩ hw [13, 14, 15] rfl rfl 13 rfl rfl rfl rfl hl.1 rfl (Nat.le_of_ble_eq_true rfl) dX6_lawLine_8 (fun H locs hw => ?_)
  have hw : Wd E A s.heap (wX6 E t_o (.ref tstape_o) (.ref tscity_o) t_script t_fault ++ (wX1 E tscity_o tscity_q tscity_men tscity_consuls tscity_dangers tscity_decrees tscity_term tscity_termTold tscity_manNames tscity_kinds tscity_skills tscity_fields tscity_wants tscity_hated tscity_dangerNames tscity_sizes tscity_grows tscity_decreeNames tscity_grounds (.ref tscityslaws_o) ++ (wX3 E tscityslaws_o tscityslaws_q tscityslaws_ops tscityslaws_stack tscityslaws_size tscityslaws_worksFrom tscityslaws_worksTo tscityslaws_keepsFrom tscityslaws_keepsTo ++ (wX10 E tstape_o tstape_q tstape_signs tstape_length tstape_place tstape_behind tstape_kind tstape_value tstape_letters tstape_word)))) H locs := hw
  refine lv_if_eq (tgt := 20) hx hb dX6_lawLine_11 (by decide) (fun c_11 => ?_) (fun c_11 => ?_)
  · have hf := (if_pos c_11).symm.trans hf
    refine lv_aload_n hx hb dX6_lawLine_20 rfl (lv_at hl 0 rfl) ?_
    refine k_get (q0 := 0) (ci := 5) (C := RX6) (T := TX6) (N := 4) (x := .ref tscity_o) X inx_6 hw rfl rfl 1 (by decide) rfl tw_193 rfl dX6_lawLine_21 ?_
    refine k_getN (q0 := 1) (ci := 0) (C := RX1) (T := TX1) (N := 18) (host := "PloughCall") (x := .ref tscityslaws_o) X inx_1 hw rfl rfl 17 (by decide) rfl nw_63 rfl dX6_lawLine_24 ?_
    refine k_getN (q0 := 13) (ci := 2) (C := RX3) (T := TX3) (N := 7) (host := "PloughCall") (x := .int (tscityslaws_size)) X inx_3 hw rfl rfl 2 (by decide) rfl nw_31 rfl dX6_lawLine_27 ?_
    refine lv_istore_n (lv' := [(2, .int (tscityslaws_size)), (0, .ref t_o), (1, .int (x1))]) hx hb dX6_lawLine_30 rfl hl (by decide) rfl (fun ls hl => ?_)
    refine lv_aload_n hx hb dX6_lawLine_31 rfl (lv_at hl 1 rfl) ?_
    refine k_get (q0 := 0) (ci := 5) (C := RX6) (T := TX6) (N := 4) (x := .ref tstape_o) X inx_6 hw rfl rfl 0 (by decide) rfl tw_192 rfl dX6_lawLine_32 ?_
    obtain ⟨r35, hc_35, hf⟩ := bd_some hf
    refine k_V (As := []) (rest := []) (index := 103) (C := RX10) X (c_X10_advance hc_35) tw_633 tw_587 tw_588 tw_120 tw_589 ⟨rfl, rfl⟩ hd_X10_advance ⟨Nat.le_of_ble_eq_true rfl, Nat.le_of_ble_eq_true rfl⟩ ⟨Nat.zero_le _, Nat.zero_le _⟩ hw [16, 17] rfl rfl 16 rfl rfl rfl rfl hl.1 rfl (Nat.le_of_ble_eq_true rfl) dX6_lawLine_35 (fun H locs hw => ?_)
    have hw : Wd E A s.heap (wX6 E t_o (.ref tstape_o) (.ref tscity_o) t_script t_fault ++ (wX1 E tscity_o tscity_q tscity_men tscity_consuls tscity_dangers tscity_decrees tscity_term tscity_termTold tscity_manNames tscity_kinds tscity_skills tscity_fields tscity_wants tscity_hated tscity_dangerNames tscity_sizes tscity_grows tscity_decreeNames tscity_grounds (.ref tscityslaws_o) ++ (wX3 E tscityslaws_o tscityslaws_q tscityslaws_ops tscityslaws_stack tscityslaws_size tscityslaws_worksFrom tscityslaws_worksTo tscityslaws_keepsFrom tscityslaws_keepsTo ++ (wX10 E tstape_o tstape_q tstape_signs tstape_length r35.1 r35.2.1 r35.2.2.1 r35.2.2.2.1 r35.2.2.2.2.1 r35.2.2.2.2.2)))) H locs := hw
    refine lv_aload_n hx hb dX6_lawLine_38 rfl (lv_at hl 1 rfl) ?_
    refine lv_iload_n hx hb dX6_lawLine_39 rfl (lv_at hl 2 rfl) ?_
    refine lv_iconst (v := (0 : Int32)) hx hb dX6_lawLine_40 (by decide) ?_
    obtain ⟨r41, hc_41, hf⟩ := bd_some hf
    refine k_V (As := [.int (x1), .int ((0 : Int32))]) (rest := []) (index := 234) (C := RX6) X (c_X6_expression (d := 6) (fun h => c_X6_part 6 h) hc_41) tw_772 tw_774 tw_17 tw_121 tw_775 ⟨rfl, rfl⟩ hd_X6_expression ⟨Nat.le_of_ble_eq_true rfl, Nat.le_of_ble_eq_true rfl⟩ ⟨Nat.zero_le _, Nat.zero_le _⟩ hw [0, 1, 2, 3, 4, 5, 6, 7, 8, 9, 10, 11, 12, 13, 14, 15, 16, 17] rfl rfl 0 rfl rfl rfl rfl hl.1 rfl (Nat.le_of_ble_eq_true rfl) dX6_lawLine_41 (fun H locs hw => ?_)
    have hw : Wd E A s.heap (wX6 E t_o (.ref tstape_o) (.ref tscity_o) t_script r41.2.1 ++ (wX1 E tscity_o tscity_q tscity_men tscity_consuls tscity_dangers tscity_decrees tscity_term tscity_termTold tscity_manNames tscity_kinds tscity_skills tscity_fields tscity_wants tscity_hated tscity_dangerNames tscity_sizes tscity_grows tscity_decreeNames tscity_grounds (.ref tscityslaws_o) ++ (wX3 E tscityslaws_o tscityslaws_q r41.2.2.1 tscityslaws_stack r41.2.2.2.1 tscityslaws_worksFrom tscityslaws_worksTo tscityslaws_keepsFrom tscityslaws_keepsTo ++ (wX10 E tstape_o tstape_q tstape_signs tstape_length r41.2.2.2.2.1 r41.2.2.2.2.2.1 r41.2.2.2.2.2.2.1 r41.2.2.2.2.2.2.2.1 r41.2.2.2.2.2.2.2.2.1 r41.2.2.2.2.2.2.2.2.2)))) H locs := hw
    refine lv_if_eq (tgt := 54) hx hb dX6_lawLine_44 (by decide) (fun c_44 => ?_) (fun c_44 => ?_)
    · have hf := (if_pos c_44).symm.trans hf
      refine lv_iconst (v := (0 : Int32)) hx hb dX6_lawLine_54 (by decide) ?_
      obtain rfl := Option.some.inj hf
      exact k_zret X (Or.inl rfl) hw dX6_lawLine_55
    · have hf := (if_neg c_44).symm.trans hf
      refine lv_aload_n hx hb dX6_lawLine_47 rfl (lv_at hl 1 rfl) ?_
      obtain ⟨r48, hc_48, hf⟩ := bd_some hf
      refine k_V (As := []) (rest := []) (index := 129) (C := RX6) X (c_X6_lineEnds hc_48) tw_684 tw_686 tw_8 tw_121 tw_687 ⟨rfl, rfl⟩ hd_X6_lineEnds ⟨Nat.le_of_ble_eq_true rfl, Nat.le_of_ble_eq_true rfl⟩ ⟨Nat.zero_le _, Nat.zero_le _⟩ hw [0, 16, 17] rfl rfl 0 rfl rfl rfl rfl hl.1 rfl (Nat.le_of_ble_eq_true rfl) dX6_lawLine_48 (fun H locs hw => ?_)
      have hw : Wd E A s.heap (wX6 E t_o (.ref tstape_o) (.ref tscity_o) t_script r48.2.1 ++ (wX1 E tscity_o tscity_q tscity_men tscity_consuls tscity_dangers tscity_decrees tscity_term tscity_termTold tscity_manNames tscity_kinds tscity_skills tscity_fields tscity_wants tscity_hated tscity_dangerNames tscity_sizes tscity_grows tscity_decreeNames tscity_grounds (.ref tscityslaws_o) ++ (wX3 E tscityslaws_o tscityslaws_q r41.2.2.1 tscityslaws_stack r41.2.2.2.1 tscityslaws_worksFrom tscityslaws_worksTo tscityslaws_keepsFrom tscityslaws_keepsTo ++ (wX10 E tstape_o tstape_q tstape_signs tstape_length r48.2.2.1 r48.2.2.2.1 r48.2.2.2.2.1 r48.2.2.2.2.2.1 r48.2.2.2.2.2.2.1 r48.2.2.2.2.2.2.2)))) H locs := hw
      refine lv_if_ne (tgt := 56) hx hb dX6_lawLine_51 (by decide) (fun c_51 => ?_) (fun c_51 => ?_)
      · have hf := (if_neg c_51).symm.trans hf
        refine lv_aload_n hx hb dX6_lawLine_56 rfl (lv_at hl 1 rfl) ?_
        refine k_get (q0 := 0) (ci := 5) (C := RX6) (T := TX6) (N := 4) (x := .ref tscity_o) X inx_6 hw rfl rfl 1 (by decide) rfl tw_193 rfl dX6_lawLine_57 ?_
        refine k_getN (q0 := 1) (ci := 0) (C := RX1) (T := TX1) (N := 18) (host := "PloughCall") (x := .ref tscityslaws_o) X inx_1 hw rfl rfl 17 (by decide) rfl nw_63 rfl dX6_lawLine_60 ?_
        refine lv_iload_n hx hb dX6_lawLine_63 rfl (lv_at hl 2 rfl) ?_
        refine lv_iload_n hx hb dX6_lawLine_64 rfl (lv_at hl 0 rfl) ?_
        refine k_V (As := [.int (x1), .int (tscityslaws_size)]) (rest := []) (index := 238) (C := RX3) X (c_X3_close (out := (f_X3_close r41.2.2.2.1 tscityslaws_worksFrom tscityslaws_worksTo tscityslaws_keepsFrom tscityslaws_keepsTo (x1) (tscityslaws_size))) rfl) tw_819 tw_820 tw_821 tw_127 tw_822 ⟨rfl, rfl⟩ hd_X3_close ⟨Nat.le_of_ble_eq_true rfl, Nat.le_of_ble_eq_true rfl⟩ ⟨Nat.zero_le _, Nat.zero_le _⟩ hw [13, 14, 15] rfl rfl 13 rfl rfl rfl rfl hl.1 rfl (Nat.le_of_ble_eq_true rfl) dX6_lawLine_65 (fun H locs hw => ?_)
        have hw : Wd E A s.heap (wX6 E t_o (.ref tstape_o) (.ref tscity_o) t_script r48.2.1 ++ (wX1 E tscity_o tscity_q tscity_men tscity_consuls tscity_dangers tscity_decrees tscity_term tscity_termTold tscity_manNames tscity_kinds tscity_skills tscity_fields tscity_wants tscity_hated tscity_dangerNames tscity_sizes tscity_grows tscity_decreeNames tscity_grounds (.ref tscityslaws_o) ++ (wX3 E tscityslaws_o tscityslaws_q r41.2.2.1 tscityslaws_stack r41.2.2.2.1 ((f_X3_close r41.2.2.2.1 tscityslaws_worksFrom tscityslaws_worksTo tscityslaws_keepsFrom tscityslaws_keepsTo (x1) (tscityslaws_size)).1) ((f_X3_close r41.2.2.2.1 tscityslaws_worksFrom tscityslaws_worksTo tscityslaws_keepsFrom tscityslaws_keepsTo (x1) (tscityslaws_size)).2.1) ((f_X3_close r41.2.2.2.1 tscityslaws_worksFrom tscityslaws_worksTo tscityslaws_keepsFrom tscityslaws_keepsTo (x1) (tscityslaws_size)).2.2.1) ((f_X3_close r41.2.2.2.1 tscityslaws_worksFrom tscityslaws_worksTo tscityslaws_keepsFrom tscityslaws_keepsTo (x1) (tscityslaws_size)).2.2.2) ++ (wX10 E tstape_o tstape_q tstape_signs tstape_length r48.2.2.1 r48.2.2.2.1 r48.2.2.2.2.1 r48.2.2.2.2.2.1 r48.2.2.2.2.2.2.1 r48.2.2.2.2.2.2.2)))) H locs := hw
        refine lv_iconst (v := (1 : Int32)) hx hb dX6_lawLine_68 (by decide) ?_
        obtain rfl := Option.some.inj hf
        exact k_zret X (Or.inr rfl) hw dX6_lawLine_69
      · have hf := (if_pos c_51).symm.trans hf
        refine lv_iconst (v := (0 : Int32)) hx hb dX6_lawLine_54 (by decide) ?_
        obtain rfl := Option.some.inj hf
        exact k_zret X (Or.inl rfl) hw dX6_lawLine_55
  · have hf := (if_neg c_11).symm.trans hf
    refine lv_aload_n hx hb dX6_lawLine_14 rfl (lv_at hl 0 rfl) ?_
    refine lv_iconst (v := (3 : Int32)) hx hb dX6_lawLine_15 (by decide) ?_
    refine k_V (As := [.int ((3 : Int32))]) (rest := []) (index := 62) (C := RX6) X (c_X6_wrong (out := (f_X6_wrong tstape_place ((3 : Int32)))) rfl) tw_617 tw_619 tw_3 tw_121 tw_620 ⟨rfl, rfl⟩ hd_X6_wrong ⟨Nat.le_of_ble_eq_true rfl, Nat.le_of_ble_eq_true rfl⟩ ⟨Nat.zero_le _, Nat.zero_le _⟩ hw [0, 16, 17] rfl rfl 0 rfl rfl rfl rfl hl.1 rfl (Nat.le_of_ble_eq_true rfl) dX6_lawLine_16 (fun H locs hw => ?_)
    have hw : Wd E A s.heap (wX6 E t_o (.ref tstape_o) (.ref tscity_o) t_script ((f_X6_wrong tstape_place ((3 : Int32))).2) ++ (wX1 E tscity_o tscity_q tscity_men tscity_consuls tscity_dangers tscity_decrees tscity_term tscity_termTold tscity_manNames tscity_kinds tscity_skills tscity_fields tscity_wants tscity_hated tscity_dangerNames tscity_sizes tscity_grows tscity_decreeNames tscity_grounds (.ref tscityslaws_o) ++ (wX3 E tscityslaws_o tscityslaws_q tscityslaws_ops tscityslaws_stack tscityslaws_size tscityslaws_worksFrom tscityslaws_worksTo tscityslaws_keepsFrom tscityslaws_keepsTo ++ (wX10 E tstape_o tstape_q tstape_signs tstape_length tstape_place tstape_behind tstape_kind tstape_value tstape_letters tstape_word)))) H locs := hw
    obtain ⟨hz_19, hf⟩ := zg_some hf
    obtain rfl := Option.some.inj hf
    exact k_zret X hz_19 hw dX6_lawLine_19
