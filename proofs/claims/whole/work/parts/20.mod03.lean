/-! private boolean isKeptWord(); -/
def f_X13_isKeptWord (t_token : Int32) (t_word : Int64) : Int32 := if t_token = (1 : Int32) then if (lg_cmp t_word (9518 : Int64)) = (0 : Int32) then ((1 : Int32))
    else if (lg_cmp t_word (10320789 : Int64)) = (0 : Int32) then ((1 : Int32))
    else if (lg_cmp t_word (3369766 : Int64)) = (0 : Int32) then ((1 : Int32))
    else if (lg_cmp t_word (453836 : Int64)) = (0 : Int32) then ((1 : Int32))
    else if (lg_cmp t_word (51308328 : Int64)) = (0 : Int32) then ((1 : Int32))
    else if (lg_cmp t_word (4285945 : Int64)) = (0 : Int32) then ((1 : Int32))
    else if (lg_cmp t_word (58207887 : Int64)) = (0 : Int32) then ((1 : Int32))
    else if (lg_cmp t_word (381245 : Int64)) = (0 : Int32) then ((1 : Int32))
    else if (lg_cmp t_word (4085956 : Int64)) = (0 : Int32) then ((1 : Int32))
    else if (lg_cmp t_word (60125144 : Int64)) = (0 : Int32) then ((1 : Int32))
    else if (lg_cmp t_word (419 : Int64)) = (0 : Int32) then ((1 : Int32))
    else if (lg_cmp t_word (397804 : Int64)) = (0 : Int32) then ((1 : Int32))
    else if (lg_cmp t_word (12531826 : Int64)) = (0 : Int32) then ((1 : Int32))
    else if (lg_cmp t_word (5948362 : Int64)) = (0 : Int32) then ((1 : Int32))
    else if (lg_cmp t_word (276647 : Int64)) = (0 : Int32) then ((1 : Int32))
    else if (lg_cmp t_word (187455942 : Int64)) = (0 : Int32) then ((1 : Int32))
    else if (lg_cmp t_word (7214732 : Int64)) = (0 : Int32) then ((1 : Int32))
    else if (lg_cmp t_word (1689216361 : Int64)) = (0 : Int32) then ((1 : Int32))
    else if (lg_cmp t_word (8800 : Int64)) = (0 : Int32) then ((1 : Int32))
    else if (lg_cmp t_word (8740238 : Int64)) = (0 : Int32) then ((1 : Int32))
    else if (lg_cmp t_word (326286 : Int64)) = (0 : Int32) then ((1 : Int32))
    else if (lg_cmp t_word (8868856 : Int64)) = (0 : Int32) then ((1 : Int32))
    else if (lg_cmp t_word (180392 : Int64)) = (0 : Int32) then ((1 : Int32))
    else if (lg_cmp t_word (10631 : Int64)) = (0 : Int32) then ((1 : Int32))
    else if (lg_cmp t_word (1111 : Int64)) = (0 : Int32) then ((1 : Int32))
    else if (lg_cmp t_word (423 : Int64)) = (0 : Int32) then ((1 : Int32))
    else ((0 : Int32))
  else ((1 : Int32))
abbrev rm_X13_isKeptWord : Room := { frames := 0, cells := 0, slots := 0, locals := 0 }
theorem hd_X13_isKeptWord : yX13_isKeptWord.cls = RX13 ∧ yX13_isKeptWord.cls ≠ "java/lang/invoke/MethodHandle" ∧ yX13_isKeptWord.cls ≠ "java/lang/invoke/VarHandle" ∧ (parseMethodDescriptor yX13_isKeptWord.desc).map (fun d => d.parameters.length) = some 0 := by decide +kernel
set_option maxRecDepth 100000 in
set_option maxHeartbeats 4000000 in
theorem c_X13_isKeptWord {E : En} {l : Launch} {t_o : Nat} {t_q : Nat → Nat} {t_thrown : Int32} {t_taped : Int32} {t_tape : (Nat → Int32)} {t_size : Int32} {t_place : Int32} {t_begin : Int32} {t_token : Int32} {t_word : Int64} {t_told : Int32} {t_wrong : Int32} {t_city : (Nat → Int32)} {t_manName : (Nat → Int64)} {t_dangerName : (Nat → Int64)} {t_decreeName : (Nat → Int64)} {t_kind : (Nat → Int32)} {t_skill : (Nat → Int32)} {t_fieldTold : (Nat → Int32)} {t_want : (Nat → Int32)} {t_hates : (Nat → Int32)} {t_restsOn : (Nat → Int32)} {t_sizeTold : (Nat → Int32)} {t_grows : (Nat → Int32)} {t_lineFrom : (Nat → Int32)} {t_lineTo : (Nat → Int32)} {t_codes : (Nat → Int32)} {t_code : Int32} {t_lawLine : Int32} {t_toldLines : Int32} {t_opened : (Nat → Int32)} {t_compared : (Nat → Int32)} {t_kept : (Nat → Int32)} {t_keptBy : (Nat → Int32)} {t_ahead : (Nat → Int32)} {t_against : (Nat → Int32)} {t_sum : (Nat → Int32)} {t_sumBy : (Nat → Int32)} {t_term : (Nat → Int32)} {t_termBy : (Nat → Int32)} {t_byNot : (Nat → Int32)} {t_valueOf : (Nat → Int32)} {t_given : Int32} {t_fresh : Int64} {t_consulsMany : Int32} {t_lines : (Nat → Int32)} {t_lineWhat : (Nat → Int32)} {t_lineA : (Nat → Int32)} {t_lineB : (Nat → Int32)} {t_tolds : (Nat → Int32)} {t_toldDanger : (Nat → Int32)} {t_toldMonths : (Nat → Int32)} {t_toldSize : (Nat → Int32)} {t_s : (Nat → Int32)} {t_aside : (Nat → Int32)} {t_tried : (Nat → Int32)} {t_marked : (Nat → Int32)} {t_undone : (Nat → Int32)} {t_isLaid : (Nat → Int32)} {t_done : Int32} {t_heading : (Nat → Int32)} {t_bestHeading : (Nat → Int32)} {t_leastLeft : Int32} {t_goesTo : (Nat → Int32)} {t_bestGoes : (Nat → Int32)} {t_leastMonths : Int32} {t_g : Int64}  {out : Int32} (hf : f_X13_isKeptWord t_token t_word = out) : Cn E l yX13_isKeptWord cX13_isKeptWord 1 (some .boolean) rm_X13_isKeptWord [.ref t_o] (wX13 E t_o t_q t_thrown t_taped t_tape t_size t_place t_begin t_token t_word t_told t_wrong t_city t_manName t_dangerName t_decreeName t_kind t_skill t_fieldTold t_want t_hates t_restsOn t_sizeTold t_grows t_lineFrom t_lineTo t_codes t_code t_lawLine t_toldLines t_opened t_compared t_kept t_keptBy t_ahead t_against t_sum t_sumBy t_term t_termBy t_byNot t_valueOf t_given t_fresh t_consulsMany t_lines t_lineWhat t_lineA t_lineB t_tolds t_toldDanger t_toldMonths t_toldSize t_s t_aside t_tried t_marked t_undone t_isLaid t_done t_heading t_bestHeading t_leastLeft t_goesTo t_bestGoes t_leastMonths t_g) (some (.int out)) (wX13 E t_o t_q t_thrown t_taped t_tape t_size t_place t_begin t_token t_word t_told t_wrong t_city t_manName t_dangerName t_decreeName t_kind t_skill t_fieldTold t_want t_hates t_restsOn t_sizeTold t_grows t_lineFrom t_lineTo t_codes t_code t_lawLine t_toldLines t_opened t_compared t_kept t_keptBy t_ahead t_against t_sum t_sumBy t_term t_termBy t_byNot t_valueOf t_given t_fresh t_consulsMany t_lines t_lineWhat t_lineA t_lineB t_tolds t_toldDanger t_toldMonths t_toldSize t_s t_aside t_tried t_marked t_undone t_isLaid t_done t_heading t_bestHeading t_leastLeft t_goesTo t_bestGoes t_leastMonths t_g) := by
  refine Cn.of (by decide) (Nat.le_of_ble_eq_true rfl) rfl ?_
  intro p e s m below meth c A ls args H locs X hw hl
  have hx := X.1.1
  have hb := X.1.2.1
  have ho := X.1.2.2.2.1
  have hts := X.1.2.2.2.2
  have hl : lv_has ls 1 [(0, .ref t_o)] := hl
  unfold f_X13_isKeptWord at hf
  refine lv_aload_n hx hb dX13_isKeptWord_0 rfl (lv_at hl 0 rfl) ?_
  refine k_get (q0 := 0) (ci := 11) (C := RX13) (T := TX13) (N := 65) (x := .int (t_token)) X inx_13 hw rfl rfl 6 (by decide) rfl tw_1379 rfl dX13_isKeptWord_1 ?_
  refine lv_iconst (v := (1 : Int32)) hx hb dX13_isKeptWord_4 (by decide) ?_
  refine lv_icmp_eq (tgt := 10) hx hb dX13_isKeptWord_5 (by decide) (fun c_5 => ?_) (fun c_5 => ?_)
  · have hf := (if_pos c_5).symm.trans hf
    refine lv_aload_n hx hb dX13_isKeptWord_10 rfl (lv_at hl 0 rfl) ?_
    refine k_get (q0 := 0) (ci := 11) (C := RX13) (T := TX13) (N := 65) (x := .long (t_word)) X inx_13 hw rfl rfl 7 (by decide) rfl tw_1380 rfl dX13_isKeptWord_11 ?_
    refine lv_ldc2 (v := (9518 : Int64)) hx hb ho (hts _ tw_1601) dX13_isKeptWord_14 ?_
    refine W.lcmp hx hb dX13_isKeptWord_17 ?_
    refine lv_if_eq (tgt := 296) hx hb dX13_isKeptWord_18 (by decide) (fun c_18 => ?_) (fun c_18 => ?_)
    · have hf := (if_pos c_18).symm.trans hf
      refine lv_iconst (v := (1 : Int32)) hx hb dX13_isKeptWord_296 (by decide) ?_
      refine lv_goto (tgt := 301) hx hb dX13_isKeptWord_297 (by decide) ?_
      subst hf
      exact k_zret X (Or.inr rfl) hw dX13_isKeptWord_301
    · have hf := (if_neg c_18).symm.trans hf
      refine lv_aload_n hx hb dX13_isKeptWord_21 rfl (lv_at hl 0 rfl) ?_
      refine k_get (q0 := 0) (ci := 11) (C := RX13) (T := TX13) (N := 65) (x := .long (t_word)) X inx_13 hw rfl rfl 7 (by decide) rfl tw_1380 rfl dX13_isKeptWord_22 ?_
      refine lv_ldc2 (v := (10320789 : Int64)) hx hb ho (hts _ tw_1622) dX13_isKeptWord_25 ?_
      refine W.lcmp hx hb dX13_isKeptWord_28 ?_
      refine lv_if_eq (tgt := 296) hx hb dX13_isKeptWord_29 (by decide) (fun c_29 => ?_) (fun c_29 => ?_)
      · have hf := (if_pos c_29).symm.trans hf
        refine lv_iconst (v := (1 : Int32)) hx hb dX13_isKeptWord_296 (by decide) ?_
        refine lv_goto (tgt := 301) hx hb dX13_isKeptWord_297 (by decide) ?_
        subst hf
        exact k_zret X (Or.inr rfl) hw dX13_isKeptWord_301
      · have hf := (if_neg c_29).symm.trans hf
        refine lv_aload_n hx hb dX13_isKeptWord_32 rfl (lv_at hl 0 rfl) ?_
        refine k_get (q0 := 0) (ci := 11) (C := RX13) (T := TX13) (N := 65) (x := .long (t_word)) X inx_13 hw rfl rfl 7 (by decide) rfl tw_1380 rfl dX13_isKeptWord_33 ?_
        refine lv_ldc2 (v := (3369766 : Int64)) hx hb ho (hts _ tw_1623) dX13_isKeptWord_36 ?_
        refine W.lcmp hx hb dX13_isKeptWord_39 ?_
        refine lv_if_eq (tgt := 296) hx hb dX13_isKeptWord_40 (by decide) (fun c_40 => ?_) (fun c_40 => ?_)
        · have hf := (if_pos c_40).symm.trans hf
          refine lv_iconst (v := (1 : Int32)) hx hb dX13_isKeptWord_296 (by decide) ?_
          refine lv_goto (tgt := 301) hx hb dX13_isKeptWord_297 (by decide) ?_
          subst hf
          exact k_zret X (Or.inr rfl) hw dX13_isKeptWord_301
        · have hf := (if_neg c_40).symm.trans hf
          refine lv_aload_n hx hb dX13_isKeptWord_43 rfl (lv_at hl 0 rfl) ?_
          refine k_get (q0 := 0) (ci := 11) (C := RX13) (T := TX13) (N := 65) (x := .long (t_word)) X inx_13 hw rfl rfl 7 (by decide) rfl tw_1380 rfl dX13_isKeptWord_44 ?_
          refine lv_ldc2 (v := (453836 : Int64)) hx hb ho (hts _ tw_1624) dX13_isKeptWord_47 ?_
          refine W.lcmp hx hb dX13_isKeptWord_50 ?_
          refine lv_if_eq (tgt := 296) hx hb dX13_isKeptWord_51 (by decide) (fun c_51 => ?_) (fun c_51 => ?_)
          · have hf := (if_pos c_51).symm.trans hf
            refine lv_iconst (v := (1 : Int32)) hx hb dX13_isKeptWord_296 (by decide) ?_
            refine lv_goto (tgt := 301) hx hb dX13_isKeptWord_297 (by decide) ?_
            subst hf
            exact k_zret X (Or.inr rfl) hw dX13_isKeptWord_301
          · have hf := (if_neg c_51).symm.trans hf
            refine lv_aload_n hx hb dX13_isKeptWord_54 rfl (lv_at hl 0 rfl) ?_
            refine k_get (q0 := 0) (ci := 11) (C := RX13) (T := TX13) (N := 65) (x := .long (t_word)) X inx_13 hw rfl rfl 7 (by decide) rfl tw_1380 rfl dX13_isKeptWord_55 ?_
            refine lv_ldc2 (v := (51308328 : Int64)) hx hb ho (hts _ tw_1625) dX13_isKeptWord_58 ?_
            refine W.lcmp hx hb dX13_isKeptWord_61 ?_
            refine lv_if_eq (tgt := 296) hx hb dX13_isKeptWord_62 (by decide) (fun c_62 => ?_) (fun c_62 => ?_)
            · have hf := (if_pos c_62).symm.trans hf
              refine lv_iconst (v := (1 : Int32)) hx hb dX13_isKeptWord_296 (by decide) ?_
              refine lv_goto (tgt := 301) hx hb dX13_isKeptWord_297 (by decide) ?_
              subst hf
              exact k_zret X (Or.inr rfl) hw dX13_isKeptWord_301
            · have hf := (if_neg c_62).symm.trans hf
              refine lv_aload_n hx hb dX13_isKeptWord_65 rfl (lv_at hl 0 rfl) ?_
              refine k_get (q0 := 0) (ci := 11) (C := RX13) (T := TX13) (N := 65) (x := .long (t_word)) X inx_13 hw rfl rfl 7 (by decide) rfl tw_1380 rfl dX13_isKeptWord_66 ?_
              refine lv_ldc2 (v := (4285945 : Int64)) hx hb ho (hts _ tw_1626) dX13_isKeptWord_69 ?_
              refine W.lcmp hx hb dX13_isKeptWord_72 ?_
              refine lv_if_eq (tgt := 296) hx hb dX13_isKeptWord_73 (by decide) (fun c_73 => ?_) (fun c_73 => ?_)
              · have hf := (if_pos c_73).symm.trans hf
                refine lv_iconst (v := (1 : Int32)) hx hb dX13_isKeptWord_296 (by decide) ?_
                refine lv_goto (tgt := 301) hx hb dX13_isKeptWord_297 (by decide) ?_
                subst hf
                exact k_zret X (Or.inr rfl) hw dX13_isKeptWord_301
              · have hf := (if_neg c_73).symm.trans hf
                refine lv_aload_n hx hb dX13_isKeptWord_76 rfl (lv_at hl 0 rfl) ?_
                refine k_get (q0 := 0) (ci := 11) (C := RX13) (T := TX13) (N := 65) (x := .long (t_word)) X inx_13 hw rfl rfl 7 (by decide) rfl tw_1380 rfl dX13_isKeptWord_77 ?_
                refine lv_ldc2 (v := (58207887 : Int64)) hx hb ho (hts _ tw_1627) dX13_isKeptWord_80 ?_
                refine W.lcmp hx hb dX13_isKeptWord_83 ?_
                refine lv_if_eq (tgt := 296) hx hb dX13_isKeptWord_84 (by decide) (fun c_84 => ?_) (fun c_84 => ?_)
                · have hf := (if_pos c_84).symm.trans hf
                  refine lv_iconst (v := (1 : Int32)) hx hb dX13_isKeptWord_296 (by decide) ?_
                  refine lv_goto (tgt := 301) hx hb dX13_isKeptWord_297 (by decide) ?_
                  subst hf
                  exact k_zret X (Or.inr rfl) hw dX13_isKeptWord_301
                · have hf := (if_neg c_84).symm.trans hf
                  refine lv_aload_n hx hb dX13_isKeptWord_87 rfl (lv_at hl 0 rfl) ?_
                  refine k_get (q0 := 0) (ci := 11) (C := RX13) (T := TX13) (N := 65) (x := .long (t_word)) X inx_13 hw rfl rfl 7 (by decide) rfl tw_1380 rfl dX13_isKeptWord_88 ?_
                  refine lv_ldc2 (v := (381245 : Int64)) hx hb ho (hts _ tw_1628) dX13_isKeptWord_91 ?_
                  refine W.lcmp hx hb dX13_isKeptWord_94 ?_
                  refine lv_if_eq (tgt := 296) hx hb dX13_isKeptWord_95 (by decide) (fun c_95 => ?_) (fun c_95 => ?_)
                  · have hf := (if_pos c_95).symm.trans hf
                    refine lv_iconst (v := (1 : Int32)) hx hb dX13_isKeptWord_296 (by decide) ?_
                    refine lv_goto (tgt := 301) hx hb dX13_isKeptWord_297 (by decide) ?_
                    subst hf
                    exact k_zret X (Or.inr rfl) hw dX13_isKeptWord_301
                  · have hf := (if_neg c_95).symm.trans hf
                    refine lv_aload_n hx hb dX13_isKeptWord_98 rfl (lv_at hl 0 rfl) ?_
                    refine k_get (q0 := 0) (ci := 11) (C := RX13) (T := TX13) (N := 65) (x := .long (t_word)) X inx_13 hw rfl rfl 7 (by decide) rfl tw_1380 rfl dX13_isKeptWord_99 ?_
                    refine lv_ldc2 (v := (4085956 : Int64)) hx hb ho (hts _ tw_1629) dX13_isKeptWord_102 ?_
                    refine W.lcmp hx hb dX13_isKeptWord_105 ?_
                    refine lv_if_eq (tgt := 296) hx hb dX13_isKeptWord_106 (by decide) (fun c_106 => ?_) (fun c_106 => ?_)
                    · have hf := (if_pos c_106).symm.trans hf
                      refine lv_iconst (v := (1 : Int32)) hx hb dX13_isKeptWord_296 (by decide) ?_
                      refine lv_goto (tgt := 301) hx hb dX13_isKeptWord_297 (by decide) ?_
                      subst hf
                      exact k_zret X (Or.inr rfl) hw dX13_isKeptWord_301
                    · have hf := (if_neg c_106).symm.trans hf
                      refine lv_aload_n hx hb dX13_isKeptWord_109 rfl (lv_at hl 0 rfl) ?_
                      refine k_get (q0 := 0) (ci := 11) (C := RX13) (T := TX13) (N := 65) (x := .long (t_word)) X inx_13 hw rfl rfl 7 (by decide) rfl tw_1380 rfl dX13_isKeptWord_110 ?_
                      refine lv_ldc2 (v := (60125144 : Int64)) hx hb ho (hts _ tw_1630) dX13_isKeptWord_113 ?_
                      refine W.lcmp hx hb dX13_isKeptWord_116 ?_
                      refine lv_if_eq (tgt := 296) hx hb dX13_isKeptWord_117 (by decide) (fun c_117 => ?_) (fun c_117 => ?_)
                      · have hf := (if_pos c_117).symm.trans hf
                        refine lv_iconst (v := (1 : Int32)) hx hb dX13_isKeptWord_296 (by decide) ?_
                        refine lv_goto (tgt := 301) hx hb dX13_isKeptWord_297 (by decide) ?_
                        subst hf
                        exact k_zret X (Or.inr rfl) hw dX13_isKeptWord_301
                      · have hf := (if_neg c_117).symm.trans hf
                        refine lv_aload_n hx hb dX13_isKeptWord_120 rfl (lv_at hl 0 rfl) ?_
                        refine k_get (q0 := 0) (ci := 11) (C := RX13) (T := TX13) (N := 65) (x := .long (t_word)) X inx_13 hw rfl rfl 7 (by decide) rfl tw_1380 rfl dX13_isKeptWord_121 ?_
                        refine lv_ldc2 (v := (419 : Int64)) hx hb ho (hts _ tw_1631) dX13_isKeptWord_124 ?_
                        refine W.lcmp hx hb dX13_isKeptWord_127 ?_
                        refine lv_if_eq (tgt := 296) hx hb dX13_isKeptWord_128 (by decide) (fun c_128 => ?_) (fun c_128 => ?_)
                        · have hf := (if_pos c_128).symm.trans hf
                          refine lv_iconst (v := (1 : Int32)) hx hb dX13_isKeptWord_296 (by decide) ?_
                          refine lv_goto (tgt := 301) hx hb dX13_isKeptWord_297 (by decide) ?_
                          subst hf
                          exact k_zret X (Or.inr rfl) hw dX13_isKeptWord_301
                        · have hf := (if_neg c_128).symm.trans hf
                          refine lv_aload_n hx hb dX13_isKeptWord_131 rfl (lv_at hl 0 rfl) ?_
                          refine k_get (q0 := 0) (ci := 11) (C := RX13) (T := TX13) (N := 65) (x := .long (t_word)) X inx_13 hw rfl rfl 7 (by decide) rfl tw_1380 rfl dX13_isKeptWord_132 ?_
                          refine lv_ldc2 (v := (397804 : Int64)) hx hb ho (hts _ tw_1632) dX13_isKeptWord_135 ?_
                          refine W.lcmp hx hb dX13_isKeptWord_138 ?_
                          refine lv_if_eq (tgt := 296) hx hb dX13_isKeptWord_139 (by decide) (fun c_139 => ?_) (fun c_139 => ?_)
                          · have hf := (if_pos c_139).symm.trans hf
                            refine lv_iconst (v := (1 : Int32)) hx hb dX13_isKeptWord_296 (by decide) ?_
                            refine lv_goto (tgt := 301) hx hb dX13_isKeptWord_297 (by decide) ?_
                            subst hf
                            exact k_zret X (Or.inr rfl) hw dX13_isKeptWord_301
                          · have hf := (if_neg c_139).symm.trans hf
                            refine lv_aload_n hx hb dX13_isKeptWord_142 rfl (lv_at hl 0 rfl) ?_
                            refine k_get (q0 := 0) (ci := 11) (C := RX13) (T := TX13) (N := 65) (x := .long (t_word)) X inx_13 hw rfl rfl 7 (by decide) rfl tw_1380 rfl dX13_isKeptWord_143 ?_
                            refine lv_ldc2 (v := (12531826 : Int64)) hx hb ho (hts _ tw_1633) dX13_isKeptWord_146 ?_
                            refine W.lcmp hx hb dX13_isKeptWord_149 ?_
                            refine lv_if_eq (tgt := 296) hx hb dX13_isKeptWord_150 (by decide) (fun c_150 => ?_) (fun c_150 => ?_)
                            · have hf := (if_pos c_150).symm.trans hf
                              refine lv_iconst (v := (1 : Int32)) hx hb dX13_isKeptWord_296 (by decide) ?_
                              refine lv_goto (tgt := 301) hx hb dX13_isKeptWord_297 (by decide) ?_
                              subst hf
                              exact k_zret X (Or.inr rfl) hw dX13_isKeptWord_301
                            · have hf := (if_neg c_150).symm.trans hf
                              refine lv_aload_n hx hb dX13_isKeptWord_153 rfl (lv_at hl 0 rfl) ?_
                              refine k_get (q0 := 0) (ci := 11) (C := RX13) (T := TX13) (N := 65) (x := .long (t_word)) X inx_13 hw rfl rfl 7 (by decide) rfl tw_1380 rfl dX13_isKeptWord_154 ?_
                              refine lv_ldc2 (v := (5948362 : Int64)) hx hb ho (hts _ tw_1634) dX13_isKeptWord_157 ?_
                              refine W.lcmp hx hb dX13_isKeptWord_160 ?_
                              refine lv_if_eq (tgt := 296) hx hb dX13_isKeptWord_161 (by decide) (fun c_161 => ?_) (fun c_161 => ?_)
                              · have hf := (if_pos c_161).symm.trans hf
                                refine lv_iconst (v := (1 : Int32)) hx hb dX13_isKeptWord_296 (by decide) ?_
                                refine lv_goto (tgt := 301) hx hb dX13_isKeptWord_297 (by decide) ?_
                                subst hf
                                exact k_zret X (Or.inr rfl) hw dX13_isKeptWord_301
                              · have hf := (if_neg c_161).symm.trans hf
                                refine lv_aload_n hx hb dX13_isKeptWord_164 rfl (lv_at hl 0 rfl) ?_
                                refine k_get (q0 := 0) (ci := 11) (C := RX13) (T := TX13) (N := 65) (x := .long (t_word)) X inx_13 hw rfl rfl 7 (by decide) rfl tw_1380 rfl dX13_isKeptWord_165 ?_
                                refine lv_ldc2 (v := (276647 : Int64)) hx hb ho (hts _ tw_1635) dX13_isKeptWord_168 ?_
                                refine W.lcmp hx hb dX13_isKeptWord_171 ?_
                                refine lv_if_eq (tgt := 296) hx hb dX13_isKeptWord_172 (by decide) (fun c_172 => ?_) (fun c_172 => ?_)
                                · have hf := (if_pos c_172).symm.trans hf
                                  refine lv_iconst (v := (1 : Int32)) hx hb dX13_isKeptWord_296 (by decide) ?_
                                  refine lv_goto (tgt := 301) hx hb dX13_isKeptWord_297 (by decide) ?_
                                  subst hf
                                  exact k_zret X (Or.inr rfl) hw dX13_isKeptWord_301
                                · have hf := (if_neg c_172).symm.trans hf
                                  refine lv_aload_n hx hb dX13_isKeptWord_175 rfl (lv_at hl 0 rfl) ?_
                                  refine k_get (q0 := 0) (ci := 11) (C := RX13) (T := TX13) (N := 65) (x := .long (t_word)) X inx_13 hw rfl rfl 7 (by decide) rfl tw_1380 rfl dX13_isKeptWord_176 ?_
                                  refine lv_ldc2 (v := (187455942 : Int64)) hx hb ho (hts _ tw_1636) dX13_isKeptWord_179 ?_
                                  refine W.lcmp hx hb dX13_isKeptWord_182 ?_
                                  refine lv_if_eq (tgt := 296) hx hb dX13_isKeptWord_183 (by decide) (fun c_183 => ?_) (fun c_183 => ?_)
                                  · have hf := (if_pos c_183).symm.trans hf
                                    refine lv_iconst (v := (1 : Int32)) hx hb dX13_isKeptWord_296 (by decide) ?_
                                    refine lv_goto (tgt := 301) hx hb dX13_isKeptWord_297 (by decide) ?_
                                    subst hf
                                    exact k_zret X (Or.inr rfl) hw dX13_isKeptWord_301
                                  · have hf := (if_neg c_183).symm.trans hf
                                    refine lv_aload_n hx hb dX13_isKeptWord_186 rfl (lv_at hl 0 rfl) ?_
                                    refine k_get (q0 := 0) (ci := 11) (C := RX13) (T := TX13) (N := 65) (x := .long (t_word)) X inx_13 hw rfl rfl 7 (by decide) rfl tw_1380 rfl dX13_isKeptWord_187 ?_
                                    refine lv_ldc2 (v := (7214732 : Int64)) hx hb ho (hts _ tw_1637) dX13_isKeptWord_190 ?_
                                    refine W.lcmp hx hb dX13_isKeptWord_193 ?_
                                    refine lv_if_eq (tgt := 296) hx hb dX13_isKeptWord_194 (by decide) (fun c_194 => ?_) (fun c_194 => ?_)
                                    · have hf := (if_pos c_194).symm.trans hf
                                      refine lv_iconst (v := (1 : Int32)) hx hb dX13_isKeptWord_296 (by decide) ?_
                                      refine lv_goto (tgt := 301) hx hb dX13_isKeptWord_297 (by decide) ?_
                                      subst hf
                                      exact k_zret X (Or.inr rfl) hw dX13_isKeptWord_301
                                    · have hf := (if_neg c_194).symm.trans hf
                                      refine lv_aload_n hx hb dX13_isKeptWord_197 rfl (lv_at hl 0 rfl) ?_
                                      refine k_get (q0 := 0) (ci := 11) (C := RX13) (T := TX13) (N := 65) (x := .long (t_word)) X inx_13 hw rfl rfl 7 (by decide) rfl tw_1380 rfl dX13_isKeptWord_198 ?_
                                      refine lv_ldc2 (v := (1689216361 : Int64)) hx hb ho (hts _ tw_1638) dX13_isKeptWord_201 ?_
                                      refine W.lcmp hx hb dX13_isKeptWord_204 ?_
                                      refine lv_if_eq (tgt := 296) hx hb dX13_isKeptWord_205 (by decide) (fun c_205 => ?_) (fun c_205 => ?_)
                                      · have hf := (if_pos c_205).symm.trans hf
                                        refine lv_iconst (v := (1 : Int32)) hx hb dX13_isKeptWord_296 (by decide) ?_
                                        refine lv_goto (tgt := 301) hx hb dX13_isKeptWord_297 (by decide) ?_
                                        subst hf
                                        exact k_zret X (Or.inr rfl) hw dX13_isKeptWord_301
                                      · have hf := (if_neg c_205).symm.trans hf
                                        refine lv_aload_n hx hb dX13_isKeptWord_208 rfl (lv_at hl 0 rfl) ?_
                                        refine k_get (q0 := 0) (ci := 11) (C := RX13) (T := TX13) (N := 65) (x := .long (t_word)) X inx_13 hw rfl rfl 7 (by decide) rfl tw_1380 rfl dX13_isKeptWord_209 ?_
                                        refine lv_ldc2 (v := (8800 : Int64)) hx hb ho (hts _ tw_1639) dX13_isKeptWord_212 ?_
                                        refine W.lcmp hx hb dX13_isKeptWord_215 ?_
                                        refine lv_if_eq (tgt := 296) hx hb dX13_isKeptWord_216 (by decide) (fun c_216 => ?_) (fun c_216 => ?_)
                                        · have hf := (if_pos c_216).symm.trans hf
                                          refine lv_iconst (v := (1 : Int32)) hx hb dX13_isKeptWord_296 (by decide) ?_
                                          refine lv_goto (tgt := 301) hx hb dX13_isKeptWord_297 (by decide) ?_
                                          subst hf
                                          exact k_zret X (Or.inr rfl) hw dX13_isKeptWord_301
                                        · have hf := (if_neg c_216).symm.trans hf
                                          refine lv_aload_n hx hb dX13_isKeptWord_219 rfl (lv_at hl 0 rfl) ?_
                                          refine k_get (q0 := 0) (ci := 11) (C := RX13) (T := TX13) (N := 65) (x := .long (t_word)) X inx_13 hw rfl rfl 7 (by decide) rfl tw_1380 rfl dX13_isKeptWord_220 ?_
                                          refine lv_ldc2 (v := (8740238 : Int64)) hx hb ho (hts _ tw_1640) dX13_isKeptWord_223 ?_
                                          refine W.lcmp hx hb dX13_isKeptWord_226 ?_
                                          refine lv_if_eq (tgt := 296) hx hb dX13_isKeptWord_227 (by decide) (fun c_227 => ?_) (fun c_227 => ?_)
                                          · have hf := (if_pos c_227).symm.trans hf
                                            refine lv_iconst (v := (1 : Int32)) hx hb dX13_isKeptWord_296 (by decide) ?_
                                            refine lv_goto (tgt := 301) hx hb dX13_isKeptWord_297 (by decide) ?_
                                            subst hf
                                            exact k_zret X (Or.inr rfl) hw dX13_isKeptWord_301
                                          · have hf := (if_neg c_227).symm.trans hf
                                            refine lv_aload_n hx hb dX13_isKeptWord_230 rfl (lv_at hl 0 rfl) ?_
                                            refine k_get (q0 := 0) (ci := 11) (C := RX13) (T := TX13) (N := 65) (x := .long (t_word)) X inx_13 hw rfl rfl 7 (by decide) rfl tw_1380 rfl dX13_isKeptWord_231 ?_
                                            refine lv_ldc2 (v := (326286 : Int64)) hx hb ho (hts _ tw_1641) dX13_isKeptWord_234 ?_
                                            refine W.lcmp hx hb dX13_isKeptWord_237 ?_
                                            refine lv_if_eq (tgt := 296) hx hb dX13_isKeptWord_238 (by decide) (fun c_238 => ?_) (fun c_238 => ?_)
                                            · have hf := (if_pos c_238).symm.trans hf
                                              refine lv_iconst (v := (1 : Int32)) hx hb dX13_isKeptWord_296 (by decide) ?_
                                              refine lv_goto (tgt := 301) hx hb dX13_isKeptWord_297 (by decide) ?_
                                              subst hf
                                              exact k_zret X (Or.inr rfl) hw dX13_isKeptWord_301
                                            · have hf := (if_neg c_238).symm.trans hf
                                              refine lv_aload_n hx hb dX13_isKeptWord_241 rfl (lv_at hl 0 rfl) ?_
                                              refine k_get (q0 := 0) (ci := 11) (C := RX13) (T := TX13) (N := 65) (x := .long (t_word)) X inx_13 hw rfl rfl 7 (by decide) rfl tw_1380 rfl dX13_isKeptWord_242 ?_
                                              refine lv_ldc2 (v := (8868856 : Int64)) hx hb ho (hts _ tw_1642) dX13_isKeptWord_245 ?_
                                              refine W.lcmp hx hb dX13_isKeptWord_248 ?_
                                              refine lv_if_eq (tgt := 296) hx hb dX13_isKeptWord_249 (by decide) (fun c_249 => ?_) (fun c_249 => ?_)
                                              · have hf := (if_pos c_249).symm.trans hf
                                                refine lv_iconst (v := (1 : Int32)) hx hb dX13_isKeptWord_296 (by decide) ?_
                                                refine lv_goto (tgt := 301) hx hb dX13_isKeptWord_297 (by decide) ?_
                                                subst hf
                                                exact k_zret X (Or.inr rfl) hw dX13_isKeptWord_301
                                              · have hf := (if_neg c_249).symm.trans hf
                                                refine lv_aload_n hx hb dX13_isKeptWord_252 rfl (lv_at hl 0 rfl) ?_
                                                refine k_get (q0 := 0) (ci := 11) (C := RX13) (T := TX13) (N := 65) (x := .long (t_word)) X inx_13 hw rfl rfl 7 (by decide) rfl tw_1380 rfl dX13_isKeptWord_253 ?_
                                                refine lv_ldc2 (v := (180392 : Int64)) hx hb ho (hts _ tw_1643) dX13_isKeptWord_256 ?_
                                                refine W.lcmp hx hb dX13_isKeptWord_259 ?_
                                                refine lv_if_eq (tgt := 296) hx hb dX13_isKeptWord_260 (by decide) (fun c_260 => ?_) (fun c_260 => ?_)
                                                · have hf := (if_pos c_260).symm.trans hf
                                                  refine lv_iconst (v := (1 : Int32)) hx hb dX13_isKeptWord_296 (by decide) ?_
                                                  refine lv_goto (tgt := 301) hx hb dX13_isKeptWord_297 (by decide) ?_
                                                  subst hf
                                                  exact k_zret X (Or.inr rfl) hw dX13_isKeptWord_301
                                                · have hf := (if_neg c_260).symm.trans hf
                                                  refine lv_aload_n hx hb dX13_isKeptWord_263 rfl (lv_at hl 0 rfl) ?_
                                                  refine k_get (q0 := 0) (ci := 11) (C := RX13) (T := TX13) (N := 65) (x := .long (t_word)) X inx_13 hw rfl rfl 7 (by decide) rfl tw_1380 rfl dX13_isKeptWord_264 ?_
                                                  refine lv_ldc2 (v := (10631 : Int64)) hx hb ho (hts _ tw_1644) dX13_isKeptWord_267 ?_
                                                  refine W.lcmp hx hb dX13_isKeptWord_270 ?_
                                                  refine lv_if_eq (tgt := 296) hx hb dX13_isKeptWord_271 (by decide) (fun c_271 => ?_) (fun c_271 => ?_)
                                                  · have hf := (if_pos c_271).symm.trans hf
                                                    refine lv_iconst (v := (1 : Int32)) hx hb dX13_isKeptWord_296 (by decide) ?_
                                                    refine lv_goto (tgt := 301) hx hb dX13_isKeptWord_297 (by decide) ?_
                                                    subst hf
                                                    exact k_zret X (Or.inr rfl) hw dX13_isKeptWord_301
                                                  · have hf := (if_neg c_271).symm.trans hf
                                                    refine lv_aload_n hx hb dX13_isKeptWord_274 rfl (lv_at hl 0 rfl) ?_
                                                    refine k_get (q0 := 0) (ci := 11) (C := RX13) (T := TX13) (N := 65) (x := .long (t_word)) X inx_13 hw rfl rfl 7 (by decide) rfl tw_1380 rfl dX13_isKeptWord_275 ?_
                                                    refine lv_ldc2 (v := (1111 : Int64)) hx hb ho (hts _ tw_1645) dX13_isKeptWord_278 ?_
                                                    refine W.lcmp hx hb dX13_isKeptWord_281 ?_
                                                    refine lv_if_eq (tgt := 296) hx hb dX13_isKeptWord_282 (by decide) (fun c_282 => ?_) (fun c_282 => ?_)
                                                    · have hf := (if_pos c_282).symm.trans hf
                                                      refine lv_iconst (v := (1 : Int32)) hx hb dX13_isKeptWord_296 (by decide) ?_
                                                      refine lv_goto (tgt := 301) hx hb dX13_isKeptWord_297 (by decide) ?_
                                                      subst hf
                                                      exact k_zret X (Or.inr rfl) hw dX13_isKeptWord_301
                                                    · have hf := (if_neg c_282).symm.trans hf
                                                      refine lv_aload_n hx hb dX13_isKeptWord_285 rfl (lv_at hl 0 rfl) ?_
                                                      refine k_get (q0 := 0) (ci := 11) (C := RX13) (T := TX13) (N := 65) (x := .long (t_word)) X inx_13 hw rfl rfl 7 (by decide) rfl tw_1380 rfl dX13_isKeptWord_286 ?_
                                                      refine lv_ldc2 (v := (423 : Int64)) hx hb ho (hts _ tw_1646) dX13_isKeptWord_289 ?_
                                                      refine W.lcmp hx hb dX13_isKeptWord_292 ?_
                                                      refine lv_if_ne (tgt := 300) hx hb dX13_isKeptWord_293 (by decide) (fun c_293 => ?_) (fun c_293 => ?_)
                                                      · have hf := (if_neg c_293).symm.trans hf
                                                        refine lv_iconst (v := (0 : Int32)) hx hb dX13_isKeptWord_300 (by decide) ?_
                                                        subst hf
                                                        exact k_zret X (Or.inl rfl) hw dX13_isKeptWord_301
                                                      · have hf := (if_pos c_293).symm.trans hf
                                                        refine lv_iconst (v := (1 : Int32)) hx hb dX13_isKeptWord_296 (by decide) ?_
                                                        refine lv_goto (tgt := 301) hx hb dX13_isKeptWord_297 (by decide) ?_
                                                        subst hf
                                                        exact k_zret X (Or.inr rfl) hw dX13_isKeptWord_301
  · have hf := (if_neg c_5).symm.trans hf
    refine lv_iconst (v := (1 : Int32)) hx hb dX13_isKeptWord_8 (by decide) ?_
    subst hf
    exact k_zret X (Or.inr rfl) hw dX13_isKeptWord_9
theorem zb_X13_isKeptWord (t_token : Int32) (t_word : Int64) : f_X13_isKeptWord t_token t_word = 0 ∨ f_X13_isKeptWord t_token t_word = 1 := by
  unfold f_X13_isKeptWord
  repeat' apply ite_z
  all_goals first | exact Or.inl rfl | exact Or.inr rfl
/-! private static int named(long[], int, int, long); -/
def f_X13_named_3 : Nat → Nat → (Nat → Int64) → Int32 → Int32 → Int64 → Int32 → Option (Int32)
  | 0, _, _, _, _, _, _ => none
  | n + 1, p0_n, p0_f, x1, x2, x3, x5 => if (x1 + x2) ≤ x5 then some ((-1 : Int32))
    else gd (x5) p0_n (if (lg_cmp (p0_f (x5).toNatClampNeg) x3) = (0 : Int32) then some ((x5 - x1))
    else f_X13_named_3 n p0_n p0_f x1 x2 x3 ((x5 + (1 : Int32))))
def f_X13_named (p0_n : Nat) (p0_f : (Nat → Int64)) (x1 : Int32) (x2 : Int32) (x3 : Int64) : Option (Int32) := f_X13_named_3 1100 p0_n p0_f x1 x2 x3 x1
abbrev rm_X13_named : Room := { frames := 0, cells := 0, slots := 0, locals := 0 }
theorem hd_X13_named : yX13_named.cls = RX13 ∧ yX13_named.cls ≠ "java/lang/invoke/MethodHandle" ∧ yX13_named.cls ≠ "java/lang/invoke/VarHandle" ∧ (parseMethodDescriptor yX13_named.desc).map (fun d => d.parameters.length) = some 4 := by decide +kernel
set_option maxRecDepth 100000 in
set_option maxHeartbeats 4000000 in
theorem kb_X13_named_3 {E : En} {p : Program} {l : Launch} {e : Env} {s : State} {m : MethodId} {args : Array Value} {below : List Frame} {meth : Method} {c : Code} {A : Nat → Prop} {p0_o : Nat} {p0_n : Nat} {p0_f : (Nat → Int64)} {out : Int32} (X : Bx E A p s m args meth c cX13_named 6 RX13 (some .int)) : ∀ (n : Nat) {x1 : Int32} {x2 : Int32} {x3 : Int64} {x5 : Int32} {H : Heap} {locs : List Loc} {ls : Array Slot}, f_X13_named_3 n p0_n p0_f x1 x2 x3 x5 = some out → Wd E A s.heap (wL E p0_o p0_n p0_f) H locs → lv_has ls 6 [(0, .ref p0_o), (1, .int (x1)), (2, .int (x2)), (3, .long (x3)), (5, .int (x5))] → W p l e rm_X13_named s m args below meth c H locs 0 0 (Zn E below args s A (some (.int out)) (wL E p0_o p0_n p0_f)) (F0 m 3 ls []) := by
  have hx := X.1.1
  have hb := X.1.2.1
  have ho := X.1.2.2.2.1
  have hts := X.1.2.2.2.2
  intro n
  induction n with
  | zero =>
    intro x1 x2 x3 x5 H locs ls hf
    have hf : (none : Option (Int32)) = some out := hf
    cases hf
  | succ n ih =>
    intro x1 x2 x3 x5 H locs ls hf hw hl
    rw [f_X13_named_3.eq_2] at hf
    refine lv_iload hx hb dX13_named_3 (lv_at hl 4 rfl) ?_
    refine lv_iload_n hx hb dX13_named_5 rfl (lv_at hl 1 rfl) ?_
    refine lv_iload_n hx hb dX13_named_6 rfl (lv_at hl 2 rfl) ?_
    refine lv_iadd hx hb dX13_named_7 ?_
    refine lv_icmp_ge (tgt := 31) hx hb dX13_named_8 (by decide) (fun c_8 => ?_) (fun c_8 => ?_)
    · have hf := (if_pos c_8).symm.trans hf
      refine lv_iconst (v := (-1 : Int32)) hx hb dX13_named_31 (by decide) ?_
      obtain rfl := Option.some.inj hf
      exact k_iret X hw dX13_named_32
    · have hf := (if_neg c_8).symm.trans hf
      refine lv_aload_n hx hb dX13_named_11 rfl (lv_at hl 0 rfl) ?_
      refine lv_iload hx hb dX13_named_12 (lv_at hl 4 rfl) ?_
      obtain ⟨hi_14, hf⟩ := gd_some hf
      refine k_lald (q0 := 0) (n := p0_n) (f := p0_f) X hw rfl hi_14 dX13_named_14 ?_
      refine lv_lload_n hx hb dX13_named_15 rfl (lv_at hl 3 rfl) ?_
      refine W.lcmp hx hb dX13_named_16 ?_
      refine lv_if_ne (tgt := 25) hx hb dX13_named_17 (by decide) (fun c_17 => ?_) (fun c_17 => ?_)
      · have hf := (if_neg c_17).symm.trans hf
        refine lv_iinc (v := (x5 + (1 : Int32))) (lv' := [(5, .int ((x5 + (1 : Int32)))), (0, .ref p0_o), (1, .int (x1)), (2, .int (x2)), (3, .long (x3))]) hx hb dX13_named_25 hl (k := 4) rfl rfl (by decide) rfl (fun ls hl => ?_)
        refine lv_goto (tgt := 3) hx hb dX13_named_28 (by decide) ?_
        exact ih hf hw (lv_sub hl [1, 2, 3, 4, 0] rfl)
      · have hf := (if_pos c_17).symm.trans hf
        refine lv_iload hx hb dX13_named_20 (lv_at hl 4 rfl) ?_
        refine lv_iload_n hx hb dX13_named_22 rfl (lv_at hl 1 rfl) ?_
        refine lv_isub hx hb dX13_named_23 ?_
        obtain rfl := Option.some.inj hf
        exact k_iret X hw dX13_named_24
set_option maxRecDepth 100000 in
set_option maxHeartbeats 4000000 in
theorem c_X13_named {E : En} {l : Launch} {p0_o : Nat} {p0_n : Nat} {p0_f : (Nat → Int64)} {x1 : Int32} {x2 : Int32} {x3 : Int64} {out : Int32} (hf : f_X13_named p0_n p0_f x1 x2 x3 = some out) : Cn E l yX13_named cX13_named 6 (some .int) rm_X13_named [.ref p0_o, .int (x1), .int (x2), .long (x3)] (wL E p0_o p0_n p0_f) (some (.int out)) (wL E p0_o p0_n p0_f) := by
  refine Cn.of (by decide) (Nat.le_of_ble_eq_true rfl) rfl ?_
  intro p e s m below meth c A ls args H locs X hw hl
  have hx := X.1.1
  have hb := X.1.2.1
  have ho := X.1.2.2.2.1
  have hts := X.1.2.2.2.2
  have hl : lv_has ls 6 [(0, .ref p0_o), (1, .int (x1)), (2, .int (x2)), (3, .long (x3))] := hl
  unfold f_X13_named at hf
  refine lv_iload_n hx hb dX13_named_0 rfl (lv_at hl 1 rfl) ?_
  refine lv_istore (lv' := [(5, .int (x1)), (0, .ref p0_o), (1, .int (x1)), (2, .int (x2)), (3, .long (x3))]) hx hb dX13_named_1 hl (by decide) rfl (fun ls hl => ?_)
  exact kb_X13_named_3 X 1100 hf hw (lv_sub hl [1, 2, 3, 4, 0] rfl)
/-! private int manNamed(int); -/
def f_X13_manNamed (t_word : Int64) (t_city : (Nat → Int32)) (t_manName : (Nat → Int64)) (x1 : Int32) : Option (Int32) := gd ((((5 : Int32) * x1) + (0 : Int32))) 10 ((f_X13_named (12) t_manName (((6 : Int32) * x1)) ((t_city ((((5 : Int32) * x1) + (0 : Int32))).toNatClampNeg)) (t_word)).bind fun r22 => some (r22))
abbrev rm_X13_manNamed : Room := { frames := 1, cells := 0, slots := 0, locals := 25 }
theorem hd_X13_manNamed : yX13_manNamed.cls = RX13 ∧ yX13_manNamed.cls ≠ "java/lang/invoke/MethodHandle" ∧ yX13_manNamed.cls ≠ "java/lang/invoke/VarHandle" ∧ (parseMethodDescriptor yX13_manNamed.desc).map (fun d => d.parameters.length) = some 1 := by decide +kernel
set_option maxRecDepth 100000 in
set_option maxHeartbeats 4000000 in
theorem c_X13_manNamed {E : En} {l : Launch} {t_o : Nat} {t_q : Nat → Nat} {t_thrown : Int32} {t_taped : Int32} {t_tape : (Nat → Int32)} {t_size : Int32} {t_place : Int32} {t_begin : Int32} {t_token : Int32} {t_word : Int64} {t_told : Int32} {t_wrong : Int32} {t_city : (Nat → Int32)} {t_manName : (Nat → Int64)} {t_dangerName : (Nat → Int64)} {t_decreeName : (Nat → Int64)} {t_kind : (Nat → Int32)} {t_skill : (Nat → Int32)} {t_fieldTold : (Nat → Int32)} {t_want : (Nat → Int32)} {t_hates : (Nat → Int32)} {t_restsOn : (Nat → Int32)} {t_sizeTold : (Nat → Int32)} {t_grows : (Nat → Int32)} {t_lineFrom : (Nat → Int32)} {t_lineTo : (Nat → Int32)} {t_codes : (Nat → Int32)} {t_code : Int32} {t_lawLine : Int32} {t_toldLines : Int32} {t_opened : (Nat → Int32)} {t_compared : (Nat → Int32)} {t_kept : (Nat → Int32)} {t_keptBy : (Nat → Int32)} {t_ahead : (Nat → Int32)} {t_against : (Nat → Int32)} {t_sum : (Nat → Int32)} {t_sumBy : (Nat → Int32)} {t_term : (Nat → Int32)} {t_termBy : (Nat → Int32)} {t_byNot : (Nat → Int32)} {t_valueOf : (Nat → Int32)} {t_given : Int32} {t_fresh : Int64} {t_consulsMany : Int32} {t_lines : (Nat → Int32)} {t_lineWhat : (Nat → Int32)} {t_lineA : (Nat → Int32)} {t_lineB : (Nat → Int32)} {t_tolds : (Nat → Int32)} {t_toldDanger : (Nat → Int32)} {t_toldMonths : (Nat → Int32)} {t_toldSize : (Nat → Int32)} {t_s : (Nat → Int32)} {t_aside : (Nat → Int32)} {t_tried : (Nat → Int32)} {t_marked : (Nat → Int32)} {t_undone : (Nat → Int32)} {t_isLaid : (Nat → Int32)} {t_done : Int32} {t_heading : (Nat → Int32)} {t_bestHeading : (Nat → Int32)} {t_leastLeft : Int32} {t_goesTo : (Nat → Int32)} {t_bestGoes : (Nat → Int32)} {t_leastMonths : Int32} {t_g : Int64} {x1 : Int32} {out : Int32} (hf : f_X13_manNamed t_word t_city t_manName x1 = some out) : Cn E l yX13_manNamed cX13_manNamed 2 (some .int) rm_X13_manNamed [.ref t_o, .int (x1)] (wX13 E t_o t_q t_thrown t_taped t_tape t_size t_place t_begin t_token t_word t_told t_wrong t_city t_manName t_dangerName t_decreeName t_kind t_skill t_fieldTold t_want t_hates t_restsOn t_sizeTold t_grows t_lineFrom t_lineTo t_codes t_code t_lawLine t_toldLines t_opened t_compared t_kept t_keptBy t_ahead t_against t_sum t_sumBy t_term t_termBy t_byNot t_valueOf t_given t_fresh t_consulsMany t_lines t_lineWhat t_lineA t_lineB t_tolds t_toldDanger t_toldMonths t_toldSize t_s t_aside t_tried t_marked t_undone t_isLaid t_done t_heading t_bestHeading t_leastLeft t_goesTo t_bestGoes t_leastMonths t_g) (some (.int out)) (wX13 E t_o t_q t_thrown t_taped t_tape t_size t_place t_begin t_token t_word t_told t_wrong t_city t_manName t_dangerName t_decreeName t_kind t_skill t_fieldTold t_want t_hates t_restsOn t_sizeTold t_grows t_lineFrom t_lineTo t_codes t_code t_lawLine t_toldLines t_opened t_compared t_kept t_keptBy t_ahead t_against t_sum t_sumBy t_term t_termBy t_byNot t_valueOf t_given t_fresh t_consulsMany t_lines t_lineWhat t_lineA t_lineB t_tolds t_toldDanger t_toldMonths t_toldSize t_s t_aside t_tried t_marked t_undone t_isLaid t_done t_heading t_bestHeading t_leastLeft t_goesTo t_bestGoes t_leastMonths t_g) := by
  refine Cn.of (by decide) (Nat.le_of_ble_eq_true rfl) rfl ?_
  intro p e s m below meth c A ls args H locs X hw hl
  have hx := X.1.1
  have hb := X.1.2.1
  have ho := X.1.2.2.2.1
  have hts := X.1.2.2.2.2
  have hl : lv_has ls 2 [(0, .ref t_o), (1, .int (x1))] := hl
  unfold f_X13_manNamed at hf
  refine lv_aload_n hx hb dX13_manNamed_0 rfl (lv_at hl 0 rfl) ?_
  refine k_get (q0 := 0) (ci := 11) (C := RX13) (T := TX13) (N := 65) (x := .ref (t_q 11)) X inx_13 hw rfl rfl 11 (by decide) rfl tw_1384 rfl dX13_manNamed_1 ?_
  refine lv_bipush (v := (6 : Int32)) hx hb dX13_manNamed_4 (by decide) ?_
  refine lv_iload_n hx hb dX13_manNamed_6 rfl (lv_at hl 1 rfl) ?_
  refine lv_imul hx hb dX13_manNamed_7 ?_
  refine lv_aload_n hx hb dX13_manNamed_8 rfl (lv_at hl 0 rfl) ?_
  refine k_get (q0 := 0) (ci := 11) (C := RX13) (T := TX13) (N := 65) (x := .ref (t_q 10)) X inx_13 hw rfl rfl 10 (by decide) rfl tw_1383 rfl dX13_manNamed_9 ?_
  refine lv_iconst (v := (5 : Int32)) hx hb dX13_manNamed_12 (by decide) ?_
  refine lv_iload_n hx hb dX13_manNamed_13 rfl (lv_at hl 1 rfl) ?_
  refine lv_imul hx hb dX13_manNamed_14 ?_
  refine lv_iconst (v := (0 : Int32)) hx hb dX13_manNamed_15 (by decide) ?_
  refine lv_iadd hx hb dX13_manNamed_16 ?_
  obtain ⟨hi_17, hf⟩ := gd_some hf
  refine k_iald (q0 := 2) (n := 10) (f := t_city) X hw rfl hi_17 dX13_manNamed_17 ?_
  refine lv_aload_n hx hb dX13_manNamed_18 rfl (lv_at hl 0 rfl) ?_
  refine k_get (q0 := 0) (ci := 11) (C := RX13) (T := TX13) (N := 65) (x := .long (t_word)) X inx_13 hw rfl rfl 7 (by decide) rfl tw_1380 rfl dX13_manNamed_19 ?_
  obtain ⟨r22, hc_22, hf⟩ := bd_some hf
  refine k_S (As := [.ref (t_q 11), .int (((6 : Int32) * x1)), .int ((t_city ((((5 : Int32) * x1) + (0 : Int32))).toNatClampNeg)), .long (t_word)]) (rest := []) (index := 293) X (c_X13_named hc_22) tw_1651 tw_1652 tw_130 tw_1653 ⟨rfl, rfl⟩ hd_X13_named ⟨Nat.le_of_ble_eq_true rfl, Nat.le_of_ble_eq_true rfl⟩ ⟨Nat.zero_le _, Nat.zero_le _⟩ hw [3] rfl rfl rfl hl.1 rfl (Nat.le_of_ble_eq_true rfl) dX13_manNamed_22 (fun H locs hw => ?_)
  have hw : Wd E A s.heap (wX13 E t_o t_q t_thrown t_taped t_tape t_size t_place t_begin t_token t_word t_told t_wrong t_city t_manName t_dangerName t_decreeName t_kind t_skill t_fieldTold t_want t_hates t_restsOn t_sizeTold t_grows t_lineFrom t_lineTo t_codes t_code t_lawLine t_toldLines t_opened t_compared t_kept t_keptBy t_ahead t_against t_sum t_sumBy t_term t_termBy t_byNot t_valueOf t_given t_fresh t_consulsMany t_lines t_lineWhat t_lineA t_lineB t_tolds t_toldDanger t_toldMonths t_toldSize t_s t_aside t_tried t_marked t_undone t_isLaid t_done t_heading t_bestHeading t_leastLeft t_goesTo t_bestGoes t_leastMonths t_g) H locs := hw
  obtain rfl := Option.some.inj hf
  exact k_iret X hw dX13_manNamed_25
/-! private int dangerNamed(int); -/
def f_X13_dangerNamed (t_word : Int64) (t_city : (Nat → Int32)) (t_dangerName : (Nat → Int64)) (x1 : Int32) : Option (Int32) := gd ((((5 : Int32) * x1) + (1 : Int32))) 10 ((f_X13_named (10) t_dangerName (((5 : Int32) * x1)) ((t_city ((((5 : Int32) * x1) + (1 : Int32))).toNatClampNeg)) (t_word)).bind fun r21 => some (r21))
abbrev rm_X13_dangerNamed : Room := { frames := 1, cells := 0, slots := 0, locals := 25 }
theorem hd_X13_dangerNamed : yX13_dangerNamed.cls = RX13 ∧ yX13_dangerNamed.cls ≠ "java/lang/invoke/MethodHandle" ∧ yX13_dangerNamed.cls ≠ "java/lang/invoke/VarHandle" ∧ (parseMethodDescriptor yX13_dangerNamed.desc).map (fun d => d.parameters.length) = some 1 := by decide +kernel
set_option maxRecDepth 100000 in
set_option maxHeartbeats 4000000 in
theorem c_X13_dangerNamed {E : En} {l : Launch} {t_o : Nat} {t_q : Nat → Nat} {t_thrown : Int32} {t_taped : Int32} {t_tape : (Nat → Int32)} {t_size : Int32} {t_place : Int32} {t_begin : Int32} {t_token : Int32} {t_word : Int64} {t_told : Int32} {t_wrong : Int32} {t_city : (Nat → Int32)} {t_manName : (Nat → Int64)} {t_dangerName : (Nat → Int64)} {t_decreeName : (Nat → Int64)} {t_kind : (Nat → Int32)} {t_skill : (Nat → Int32)} {t_fieldTold : (Nat → Int32)} {t_want : (Nat → Int32)} {t_hates : (Nat → Int32)} {t_restsOn : (Nat → Int32)} {t_sizeTold : (Nat → Int32)} {t_grows : (Nat → Int32)} {t_lineFrom : (Nat → Int32)} {t_lineTo : (Nat → Int32)} {t_codes : (Nat → Int32)} {t_code : Int32} {t_lawLine : Int32} {t_toldLines : Int32} {t_opened : (Nat → Int32)} {t_compared : (Nat → Int32)} {t_kept : (Nat → Int32)} {t_keptBy : (Nat → Int32)} {t_ahead : (Nat → Int32)} {t_against : (Nat → Int32)} {t_sum : (Nat → Int32)} {t_sumBy : (Nat → Int32)} {t_term : (Nat → Int32)} {t_termBy : (Nat → Int32)} {t_byNot : (Nat → Int32)} {t_valueOf : (Nat → Int32)} {t_given : Int32} {t_fresh : Int64} {t_consulsMany : Int32} {t_lines : (Nat → Int32)} {t_lineWhat : (Nat → Int32)} {t_lineA : (Nat → Int32)} {t_lineB : (Nat → Int32)} {t_tolds : (Nat → Int32)} {t_toldDanger : (Nat → Int32)} {t_toldMonths : (Nat → Int32)} {t_toldSize : (Nat → Int32)} {t_s : (Nat → Int32)} {t_aside : (Nat → Int32)} {t_tried : (Nat → Int32)} {t_marked : (Nat → Int32)} {t_undone : (Nat → Int32)} {t_isLaid : (Nat → Int32)} {t_done : Int32} {t_heading : (Nat → Int32)} {t_bestHeading : (Nat → Int32)} {t_leastLeft : Int32} {t_goesTo : (Nat → Int32)} {t_bestGoes : (Nat → Int32)} {t_leastMonths : Int32} {t_g : Int64} {x1 : Int32} {out : Int32} (hf : f_X13_dangerNamed t_word t_city t_dangerName x1 = some out) : Cn E l yX13_dangerNamed cX13_dangerNamed 2 (some .int) rm_X13_dangerNamed [.ref t_o, .int (x1)] (wX13 E t_o t_q t_thrown t_taped t_tape t_size t_place t_begin t_token t_word t_told t_wrong t_city t_manName t_dangerName t_decreeName t_kind t_skill t_fieldTold t_want t_hates t_restsOn t_sizeTold t_grows t_lineFrom t_lineTo t_codes t_code t_lawLine t_toldLines t_opened t_compared t_kept t_keptBy t_ahead t_against t_sum t_sumBy t_term t_termBy t_byNot t_valueOf t_given t_fresh t_consulsMany t_lines t_lineWhat t_lineA t_lineB t_tolds t_toldDanger t_toldMonths t_toldSize t_s t_aside t_tried t_marked t_undone t_isLaid t_done t_heading t_bestHeading t_leastLeft t_goesTo t_bestGoes t_leastMonths t_g) (some (.int out)) (wX13 E t_o t_q t_thrown t_taped t_tape t_size t_place t_begin t_token t_word t_told t_wrong t_city t_manName t_dangerName t_decreeName t_kind t_skill t_fieldTold t_want t_hates t_restsOn t_sizeTold t_grows t_lineFrom t_lineTo t_codes t_code t_lawLine t_toldLines t_opened t_compared t_kept t_keptBy t_ahead t_against t_sum t_sumBy t_term t_termBy t_byNot t_valueOf t_given t_fresh t_consulsMany t_lines t_lineWhat t_lineA t_lineB t_tolds t_toldDanger t_toldMonths t_toldSize t_s t_aside t_tried t_marked t_undone t_isLaid t_done t_heading t_bestHeading t_leastLeft t_goesTo t_bestGoes t_leastMonths t_g) := by
  refine Cn.of (by decide) (Nat.le_of_ble_eq_true rfl) rfl ?_
  intro p e s m below meth c A ls args H locs X hw hl
  have hx := X.1.1
  have hb := X.1.2.1
  have ho := X.1.2.2.2.1
  have hts := X.1.2.2.2.2
  have hl : lv_has ls 2 [(0, .ref t_o), (1, .int (x1))] := hl
  unfold f_X13_dangerNamed at hf
  refine lv_aload_n hx hb dX13_dangerNamed_0 rfl (lv_at hl 0 rfl) ?_
  refine k_get (q0 := 0) (ci := 11) (C := RX13) (T := TX13) (N := 65) (x := .ref (t_q 12)) X inx_13 hw rfl rfl 12 (by decide) rfl tw_1385 rfl dX13_dangerNamed_1 ?_
  refine lv_iconst (v := (5 : Int32)) hx hb dX13_dangerNamed_4 (by decide) ?_
  refine lv_iload_n hx hb dX13_dangerNamed_5 rfl (lv_at hl 1 rfl) ?_
  refine lv_imul hx hb dX13_dangerNamed_6 ?_
  refine lv_aload_n hx hb dX13_dangerNamed_7 rfl (lv_at hl 0 rfl) ?_
  refine k_get (q0 := 0) (ci := 11) (C := RX13) (T := TX13) (N := 65) (x := .ref (t_q 10)) X inx_13 hw rfl rfl 10 (by decide) rfl tw_1383 rfl dX13_dangerNamed_8 ?_
  refine lv_iconst (v := (5 : Int32)) hx hb dX13_dangerNamed_11 (by decide) ?_
  refine lv_iload_n hx hb dX13_dangerNamed_12 rfl (lv_at hl 1 rfl) ?_
  refine lv_imul hx hb dX13_dangerNamed_13 ?_
  refine lv_iconst (v := (1 : Int32)) hx hb dX13_dangerNamed_14 (by decide) ?_
  refine lv_iadd hx hb dX13_dangerNamed_15 ?_
  obtain ⟨hi_16, hf⟩ := gd_some hf
  refine k_iald (q0 := 2) (n := 10) (f := t_city) X hw rfl hi_16 dX13_dangerNamed_16 ?_
  refine lv_aload_n hx hb dX13_dangerNamed_17 rfl (lv_at hl 0 rfl) ?_
  refine k_get (q0 := 0) (ci := 11) (C := RX13) (T := TX13) (N := 65) (x := .long (t_word)) X inx_13 hw rfl rfl 7 (by decide) rfl tw_1380 rfl dX13_dangerNamed_18 ?_
  obtain ⟨r21, hc_21, hf⟩ := bd_some hf
  refine k_S (As := [.ref (t_q 12), .int (((5 : Int32) * x1)), .int ((t_city ((((5 : Int32) * x1) + (1 : Int32))).toNatClampNeg)), .long (t_word)]) (rest := []) (index := 293) X (c_X13_named hc_21) tw_1651 tw_1652 tw_130 tw_1653 ⟨rfl, rfl⟩ hd_X13_named ⟨Nat.le_of_ble_eq_true rfl, Nat.le_of_ble_eq_true rfl⟩ ⟨Nat.zero_le _, Nat.zero_le _⟩ hw [4] rfl rfl rfl hl.1 rfl (Nat.le_of_ble_eq_true rfl) dX13_dangerNamed_21 (fun H locs hw => ?_)
  have hw : Wd E A s.heap (wX13 E t_o t_q t_thrown t_taped t_tape t_size t_place t_begin t_token t_word t_told t_wrong t_city t_manName t_dangerName t_decreeName t_kind t_skill t_fieldTold t_want t_hates t_restsOn t_sizeTold t_grows t_lineFrom t_lineTo t_codes t_code t_lawLine t_toldLines t_opened t_compared t_kept t_keptBy t_ahead t_against t_sum t_sumBy t_term t_termBy t_byNot t_valueOf t_given t_fresh t_consulsMany t_lines t_lineWhat t_lineA t_lineB t_tolds t_toldDanger t_toldMonths t_toldSize t_s t_aside t_tried t_marked t_undone t_isLaid t_done t_heading t_bestHeading t_leastLeft t_goesTo t_bestGoes t_leastMonths t_g) H locs := hw
  obtain rfl := Option.some.inj hf
  exact k_iret X hw dX13_dangerNamed_24
/-! private int decreeNamed(); -/
def f_X13_decreeNamed (t_word : Int64) (t_city : (Nat → Int32)) (t_decreeName : (Nat → Int64)) : Option (Int32) := gd ((7 : Int32)) 10 ((f_X13_named (12) t_decreeName ((6 : Int32)) ((t_city ((7 : Int32)).toNatClampNeg)) (t_word)).bind fun r17 => some (r17))
abbrev rm_X13_decreeNamed : Room := { frames := 1, cells := 0, slots := 0, locals := 25 }
theorem hd_X13_decreeNamed : yX13_decreeNamed.cls = RX13 ∧ yX13_decreeNamed.cls ≠ "java/lang/invoke/MethodHandle" ∧ yX13_decreeNamed.cls ≠ "java/lang/invoke/VarHandle" ∧ (parseMethodDescriptor yX13_decreeNamed.desc).map (fun d => d.parameters.length) = some 0 := by decide +kernel
set_option maxRecDepth 100000 in
set_option maxHeartbeats 4000000 in
theorem c_X13_decreeNamed {E : En} {l : Launch} {t_o : Nat} {t_q : Nat → Nat} {t_thrown : Int32} {t_taped : Int32} {t_tape : (Nat → Int32)} {t_size : Int32} {t_place : Int32} {t_begin : Int32} {t_token : Int32} {t_word : Int64} {t_told : Int32} {t_wrong : Int32} {t_city : (Nat → Int32)} {t_manName : (Nat → Int64)} {t_dangerName : (Nat → Int64)} {t_decreeName : (Nat → Int64)} {t_kind : (Nat → Int32)} {t_skill : (Nat → Int32)} {t_fieldTold : (Nat → Int32)} {t_want : (Nat → Int32)} {t_hates : (Nat → Int32)} {t_restsOn : (Nat → Int32)} {t_sizeTold : (Nat → Int32)} {t_grows : (Nat → Int32)} {t_lineFrom : (Nat → Int32)} {t_lineTo : (Nat → Int32)} {t_codes : (Nat → Int32)} {t_code : Int32} {t_lawLine : Int32} {t_toldLines : Int32} {t_opened : (Nat → Int32)} {t_compared : (Nat → Int32)} {t_kept : (Nat → Int32)} {t_keptBy : (Nat → Int32)} {t_ahead : (Nat → Int32)} {t_against : (Nat → Int32)} {t_sum : (Nat → Int32)} {t_sumBy : (Nat → Int32)} {t_term : (Nat → Int32)} {t_termBy : (Nat → Int32)} {t_byNot : (Nat → Int32)} {t_valueOf : (Nat → Int32)} {t_given : Int32} {t_fresh : Int64} {t_consulsMany : Int32} {t_lines : (Nat → Int32)} {t_lineWhat : (Nat → Int32)} {t_lineA : (Nat → Int32)} {t_lineB : (Nat → Int32)} {t_tolds : (Nat → Int32)} {t_toldDanger : (Nat → Int32)} {t_toldMonths : (Nat → Int32)} {t_toldSize : (Nat → Int32)} {t_s : (Nat → Int32)} {t_aside : (Nat → Int32)} {t_tried : (Nat → Int32)} {t_marked : (Nat → Int32)} {t_undone : (Nat → Int32)} {t_isLaid : (Nat → Int32)} {t_done : Int32} {t_heading : (Nat → Int32)} {t_bestHeading : (Nat → Int32)} {t_leastLeft : Int32} {t_goesTo : (Nat → Int32)} {t_bestGoes : (Nat → Int32)} {t_leastMonths : Int32} {t_g : Int64}  {out : Int32} (hf : f_X13_decreeNamed t_word t_city t_decreeName = some out) : Cn E l yX13_decreeNamed cX13_decreeNamed 1 (some .int) rm_X13_decreeNamed [.ref t_o] (wX13 E t_o t_q t_thrown t_taped t_tape t_size t_place t_begin t_token t_word t_told t_wrong t_city t_manName t_dangerName t_decreeName t_kind t_skill t_fieldTold t_want t_hates t_restsOn t_sizeTold t_grows t_lineFrom t_lineTo t_codes t_code t_lawLine t_toldLines t_opened t_compared t_kept t_keptBy t_ahead t_against t_sum t_sumBy t_term t_termBy t_byNot t_valueOf t_given t_fresh t_consulsMany t_lines t_lineWhat t_lineA t_lineB t_tolds t_toldDanger t_toldMonths t_toldSize t_s t_aside t_tried t_marked t_undone t_isLaid t_done t_heading t_bestHeading t_leastLeft t_goesTo t_bestGoes t_leastMonths t_g) (some (.int out)) (wX13 E t_o t_q t_thrown t_taped t_tape t_size t_place t_begin t_token t_word t_told t_wrong t_city t_manName t_dangerName t_decreeName t_kind t_skill t_fieldTold t_want t_hates t_restsOn t_sizeTold t_grows t_lineFrom t_lineTo t_codes t_code t_lawLine t_toldLines t_opened t_compared t_kept t_keptBy t_ahead t_against t_sum t_sumBy t_term t_termBy t_byNot t_valueOf t_given t_fresh t_consulsMany t_lines t_lineWhat t_lineA t_lineB t_tolds t_toldDanger t_toldMonths t_toldSize t_s t_aside t_tried t_marked t_undone t_isLaid t_done t_heading t_bestHeading t_leastLeft t_goesTo t_bestGoes t_leastMonths t_g) := by
  refine Cn.of (by decide) (Nat.le_of_ble_eq_true rfl) rfl ?_
  intro p e s m below meth c A ls args H locs X hw hl
  have hx := X.1.1
  have hb := X.1.2.1
  have ho := X.1.2.2.2.1
  have hts := X.1.2.2.2.2
  have hl : lv_has ls 1 [(0, .ref t_o)] := hl
  unfold f_X13_decreeNamed at hf
  refine lv_aload_n hx hb dX13_decreeNamed_0 rfl (lv_at hl 0 rfl) ?_
  refine k_get (q0 := 0) (ci := 11) (C := RX13) (T := TX13) (N := 65) (x := .ref (t_q 13)) X inx_13 hw rfl rfl 13 (by decide) rfl tw_1386 rfl dX13_decreeNamed_1 ?_
  refine lv_bipush (v := (6 : Int32)) hx hb dX13_decreeNamed_4 (by decide) ?_
  refine lv_aload_n hx hb dX13_decreeNamed_6 rfl (lv_at hl 0 rfl) ?_
  refine k_get (q0 := 0) (ci := 11) (C := RX13) (T := TX13) (N := 65) (x := .ref (t_q 10)) X inx_13 hw rfl rfl 10 (by decide) rfl tw_1383 rfl dX13_decreeNamed_7 ?_
  refine lv_bipush (v := (7 : Int32)) hx hb dX13_decreeNamed_10 (by decide) ?_
  obtain ⟨hi_12, hf⟩ := gd_some hf
  refine k_iald (q0 := 2) (n := 10) (f := t_city) X hw rfl hi_12 dX13_decreeNamed_12 ?_
  refine lv_aload_n hx hb dX13_decreeNamed_13 rfl (lv_at hl 0 rfl) ?_
  refine k_get (q0 := 0) (ci := 11) (C := RX13) (T := TX13) (N := 65) (x := .long (t_word)) X inx_13 hw rfl rfl 7 (by decide) rfl tw_1380 rfl dX13_decreeNamed_14 ?_
  obtain ⟨r17, hc_17, hf⟩ := bd_some hf
  refine k_S (As := [.ref (t_q 13), .int ((6 : Int32)), .int ((t_city ((7 : Int32)).toNatClampNeg)), .long (t_word)]) (rest := []) (index := 293) X (c_X13_named hc_17) tw_1651 tw_1652 tw_130 tw_1653 ⟨rfl, rfl⟩ hd_X13_named ⟨Nat.le_of_ble_eq_true rfl, Nat.le_of_ble_eq_true rfl⟩ ⟨Nat.zero_le _, Nat.zero_le _⟩ hw [5] rfl rfl rfl hl.1 rfl (Nat.le_of_ble_eq_true rfl) dX13_decreeNamed_17 (fun H locs hw => ?_)
  have hw : Wd E A s.heap (wX13 E t_o t_q t_thrown t_taped t_tape t_size t_place t_begin t_token t_word t_told t_wrong t_city t_manName t_dangerName t_decreeName t_kind t_skill t_fieldTold t_want t_hates t_restsOn t_sizeTold t_grows t_lineFrom t_lineTo t_codes t_code t_lawLine t_toldLines t_opened t_compared t_kept t_keptBy t_ahead t_against t_sum t_sumBy t_term t_termBy t_byNot t_valueOf t_given t_fresh t_consulsMany t_lines t_lineWhat t_lineA t_lineB t_tolds t_toldDanger t_toldMonths t_toldSize t_s t_aside t_tried t_marked t_undone t_isLaid t_done t_heading t_bestHeading t_leastLeft t_goesTo t_bestGoes t_leastMonths t_g) H locs := hw
  obtain rfl := Option.some.inj hf
  exact k_iret X hw dX13_decreeNamed_20
/-! private boolean needsNumber(int, int); -/
def f_X13_needsNumber (t_tape : (Nat → Int32)) (t_size : Int32) (t_place : Int32) (t_begin : Int32) (t_token : Int32) (t_word : Int64) (t_told : Int32) (t_wrong : Int32) (t_given : Int32) (x1 : Int32) (x2 : Int32) : Option (Int32 × Int32 × Int32 × Int32 × Int64 × Int32 × Int32 × Int32) := if t_token = (2 : Int32) then if (f_X13_within (t_told) (x1) (x2)) = (0 : Int32) then zg ((f_X13_fails t_begin ((4 : Int32))).1) (some ((f_X13_fails t_begin ((4 : Int32))).1, t_place, t_begin, t_token, t_word, t_told, (f_X13_fails t_begin ((4 : Int32))).2, t_given))
    else (f_X13_nextToken t_tape t_size t_place).bind fun r41 => some ((1 : Int32), r41.1, r41.2.1, r41.2.2.1, r41.2.2.2.1, r41.2.2.2.2, t_wrong, t_told)
  else zg ((f_X13_fails t_begin ((1 : Int32))).1) (some ((f_X13_fails t_begin ((1 : Int32))).1, t_place, t_begin, t_token, t_word, t_told, (f_X13_fails t_begin ((1 : Int32))).2, t_given))
abbrev rm_X13_needsNumber : Room := { frames := 2, cells := 0, slots := 0, locals := 42 }
theorem hd_X13_needsNumber : yX13_needsNumber.cls = RX13 ∧ yX13_needsNumber.cls ≠ "java/lang/invoke/MethodHandle" ∧ yX13_needsNumber.cls ≠ "java/lang/invoke/VarHandle" ∧ (parseMethodDescriptor yX13_needsNumber.desc).map (fun d => d.parameters.length) = some 2 := by decide +kernel
set_option maxRecDepth 100000 in
set_option maxHeartbeats 4000000 in
theorem c_X13_needsNumber {E : En} {l : Launch} {t_o : Nat} {t_q : Nat → Nat} {t_thrown : Int32} {t_taped : Int32} {t_tape : (Nat → Int32)} {t_size : Int32} {t_place : Int32} {t_begin : Int32} {t_token : Int32} {t_word : Int64} {t_told : Int32} {t_wrong : Int32} {t_city : (Nat → Int32)} {t_manName : (Nat → Int64)} {t_dangerName : (Nat → Int64)} {t_decreeName : (Nat → Int64)} {t_kind : (Nat → Int32)} {t_skill : (Nat → Int32)} {t_fieldTold : (Nat → Int32)} {t_want : (Nat → Int32)} {t_hates : (Nat → Int32)} {t_restsOn : (Nat → Int32)} {t_sizeTold : (Nat → Int32)} {t_grows : (Nat → Int32)} {t_lineFrom : (Nat → Int32)} {t_lineTo : (Nat → Int32)} {t_codes : (Nat → Int32)} {t_code : Int32} {t_lawLine : Int32} {t_toldLines : Int32} {t_opened : (Nat → Int32)} {t_compared : (Nat → Int32)} {t_kept : (Nat → Int32)} {t_keptBy : (Nat → Int32)} {t_ahead : (Nat → Int32)} {t_against : (Nat → Int32)} {t_sum : (Nat → Int32)} {t_sumBy : (Nat → Int32)} {t_term : (Nat → Int32)} {t_termBy : (Nat → Int32)} {t_byNot : (Nat → Int32)} {t_valueOf : (Nat → Int32)} {t_given : Int32} {t_fresh : Int64} {t_consulsMany : Int32} {t_lines : (Nat → Int32)} {t_lineWhat : (Nat → Int32)} {t_lineA : (Nat → Int32)} {t_lineB : (Nat → Int32)} {t_tolds : (Nat → Int32)} {t_toldDanger : (Nat → Int32)} {t_toldMonths : (Nat → Int32)} {t_toldSize : (Nat → Int32)} {t_s : (Nat → Int32)} {t_aside : (Nat → Int32)} {t_tried : (Nat → Int32)} {t_marked : (Nat → Int32)} {t_undone : (Nat → Int32)} {t_isLaid : (Nat → Int32)} {t_done : Int32} {t_heading : (Nat → Int32)} {t_bestHeading : (Nat → Int32)} {t_leastLeft : Int32} {t_goesTo : (Nat → Int32)} {t_bestGoes : (Nat → Int32)} {t_leastMonths : Int32} {t_g : Int64} {x1 : Int32} {x2 : Int32} {out : Int32 × Int32 × Int32 × Int32 × Int64 × Int32 × Int32 × Int32} (hf : f_X13_needsNumber t_tape t_size t_place t_begin t_token t_word t_told t_wrong t_given x1 x2 = some out) : Cn E l yX13_needsNumber cX13_needsNumber 3 (some .boolean) rm_X13_needsNumber [.ref t_o, .int (x1), .int (x2)] (wX13 E t_o t_q t_thrown t_taped t_tape t_size t_place t_begin t_token t_word t_told t_wrong t_city t_manName t_dangerName t_decreeName t_kind t_skill t_fieldTold t_want t_hates t_restsOn t_sizeTold t_grows t_lineFrom t_lineTo t_codes t_code t_lawLine t_toldLines t_opened t_compared t_kept t_keptBy t_ahead t_against t_sum t_sumBy t_term t_termBy t_byNot t_valueOf t_given t_fresh t_consulsMany t_lines t_lineWhat t_lineA t_lineB t_tolds t_toldDanger t_toldMonths t_toldSize t_s t_aside t_tried t_marked t_undone t_isLaid t_done t_heading t_bestHeading t_leastLeft t_goesTo t_bestGoes t_leastMonths t_g) (some (.int out.1)) (wX13 E t_o t_q t_thrown t_taped t_tape t_size out.2.1 out.2.2.1 out.2.2.2.1 out.2.2.2.2.1 out.2.2.2.2.2.1 out.2.2.2.2.2.2.1 t_city t_manName t_dangerName t_decreeName t_kind t_skill t_fieldTold t_want t_hates t_restsOn t_sizeTold t_grows t_lineFrom t_lineTo t_codes t_code t_lawLine t_toldLines t_opened t_compared t_kept t_keptBy t_ahead t_against t_sum t_sumBy t_term t_termBy t_byNot t_valueOf out.2.2.2.2.2.2.2 t_fresh t_consulsMany t_lines t_lineWhat t_lineA t_lineB t_tolds t_toldDanger t_toldMonths t_toldSize t_s t_aside t_tried t_marked t_undone t_isLaid t_done t_heading t_bestHeading t_leastLeft t_goesTo t_bestGoes t_leastMonths t_g) := by
  refine Cn.of (by decide) (Nat.le_of_ble_eq_true rfl) rfl ?_
  intro p e s m below meth c A ls args H locs X hw hl
  have hx := X.1.1
  have hb := X.1.2.1
  have ho := X.1.2.2.2.1
  have hts := X.1.2.2.2.2
  have hl : lv_has ls 3 [(0, .ref t_o), (1, .int (x1)), (2, .int (x2))] := hl
  unfold f_X13_needsNumber at hf
  refine lv_aload_n hx hb dX13_needsNumber_0 rfl (lv_at hl 0 rfl) ?_
  refine k_get (q0 := 0) (ci := 11) (C := RX13) (T := TX13) (N := 65) (x := .int (t_token)) X inx_13 hw rfl rfl 6 (by decide) rfl tw_1379 rfl dX13_needsNumber_1 ?_
  refine lv_iconst (v := (2 : Int32)) hx hb dX13_needsNumber_4 (by decide) ?_
  refine lv_icmp_eq (tgt := 14) hx hb dX13_needsNumber_5 (by decide) (fun c_5 => ?_) (fun c_5 => ?_)
  · have hf := (if_pos c_5).symm.trans hf
    refine lv_aload_n hx hb dX13_needsNumber_14 rfl (lv_at hl 0 rfl) ?_
    refine k_get (q0 := 0) (ci := 11) (C := RX13) (T := TX13) (N := 65) (x := .int (t_told)) X inx_13 hw rfl rfl 8 (by decide) rfl tw_1381 rfl dX13_needsNumber_15 ?_
    refine lv_iload_n hx hb dX13_needsNumber_18 rfl (lv_at hl 1 rfl) ?_
    refine lv_iload_n hx hb dX13_needsNumber_19 rfl (lv_at hl 2 rfl) ?_
    refine k_S (As := [.int (t_told), .int (x1), .int (x2)]) (rest := []) (index := 297) X (c_X13_within (out := (f_X13_within (t_told) (x1) (x2))) rfl) tw_1670 tw_1671 tw_130 tw_1672 ⟨rfl, rfl⟩ hd_X13_within ⟨Nat.le_of_ble_eq_true rfl, Nat.le_of_ble_eq_true rfl⟩ ⟨Nat.zero_le _, Nat.zero_le _⟩ hw [] rfl rfl rfl hl.1 rfl (Nat.le_of_ble_eq_true rfl) dX13_needsNumber_20 (fun H locs hw => ?_)
    have hw : Wd E A s.heap (wX13 E t_o t_q t_thrown t_taped t_tape t_size t_place t_begin t_token t_word t_told t_wrong t_city t_manName t_dangerName t_decreeName t_kind t_skill t_fieldTold t_want t_hates t_restsOn t_sizeTold t_grows t_lineFrom t_lineTo t_codes t_code t_lawLine t_toldLines t_opened t_compared t_kept t_keptBy t_ahead t_against t_sum t_sumBy t_term t_termBy t_byNot t_valueOf t_given t_fresh t_consulsMany t_lines t_lineWhat t_lineA t_lineB t_tolds t_toldDanger t_toldMonths t_toldSize t_s t_aside t_tried t_marked t_undone t_isLaid t_done t_heading t_bestHeading t_leastLeft t_goesTo t_bestGoes t_leastMonths t_g) H locs := hw
    refine lv_if_ne (tgt := 32) hx hb dX13_needsNumber_23 (by decide) (fun c_23 => ?_) (fun c_23 => ?_)
    · have hf := (if_neg c_23).symm.trans hf
      refine lv_aload_n hx hb dX13_needsNumber_32 rfl (lv_at hl 0 rfl) ?_
      refine lv_aload_n hx hb dX13_needsNumber_33 rfl (lv_at hl 0 rfl) ?_
      refine k_get (q0 := 0) (ci := 11) (C := RX13) (T := TX13) (N := 65) (x := .int (t_told)) X inx_13 hw rfl rfl 8 (by decide) rfl tw_1381 rfl dX13_needsNumber_34 ?_
      refine k_put (q0 := 0) (ci := 11) (C := RX13) (T := TX13) (N := 65) (ty0 := tyX13) (x := .int (t_told)) X inx_13 tyX13_ok nmX13 hw rfl rfl 40 (by decide) rfl rfl tw_1413 rfl rfl (Nat.le_of_ble_eq_true rfl) dX13_needsNumber_37 (fun H locs hw => ?_)
      have hw : Wd E A s.heap (wX13 E t_o t_q t_thrown t_taped t_tape t_size t_place t_begin t_token t_word t_told t_wrong t_city t_manName t_dangerName t_decreeName t_kind t_skill t_fieldTold t_want t_hates t_restsOn t_sizeTold t_grows t_lineFrom t_lineTo t_codes t_code t_lawLine t_toldLines t_opened t_compared t_kept t_keptBy t_ahead t_against t_sum t_sumBy t_term t_termBy t_byNot t_valueOf t_told t_fresh t_consulsMany t_lines t_lineWhat t_lineA t_lineB t_tolds t_toldDanger t_toldMonths t_toldSize t_s t_aside t_tried t_marked t_undone t_isLaid t_done t_heading t_bestHeading t_leastLeft t_goesTo t_bestGoes t_leastMonths t_g) H locs := hw
      refine lv_aload_n hx hb dX13_needsNumber_40 rfl (lv_at hl 0 rfl) ?_
      obtain ⟨r41, hc_41, hf⟩ := bd_some hf
      refine k_V (As := []) (rest := []) (index := 231) (C := RX13) X (c_X13_nextToken hc_41) tw_1591 tw_1593 tw_48 tw_130 tw_1594 ⟨rfl, rfl⟩ hd_X13_nextToken ⟨Nat.le_of_ble_eq_true rfl, Nat.le_of_ble_eq_true rfl⟩ ⟨Nat.zero_le _, Nat.zero_le _⟩ hw [0, 1, 2, 3, 4, 5, 6, 7, 8, 9, 10, 11, 12, 13, 14, 15, 16, 17, 18, 19, 20, 21, 22, 23, 24, 25, 26, 27, 28, 29, 30, 31, 32, 33, 34, 35, 36, 37, 38, 39, 40, 41, 42, 43, 44, 45, 46] rfl rfl 0 rfl rfl rfl rfl hl.1 rfl (Nat.le_of_ble_eq_true rfl) dX13_needsNumber_41 (fun H locs hw => ?_)
      have hw : Wd E A s.heap (wX13 E t_o t_q t_thrown t_taped t_tape t_size r41.1 r41.2.1 r41.2.2.1 r41.2.2.2.1 r41.2.2.2.2 t_wrong t_city t_manName t_dangerName t_decreeName t_kind t_skill t_fieldTold t_want t_hates t_restsOn t_sizeTold t_grows t_lineFrom t_lineTo t_codes t_code t_lawLine t_toldLines t_opened t_compared t_kept t_keptBy t_ahead t_against t_sum t_sumBy t_term t_termBy t_byNot t_valueOf t_told t_fresh t_consulsMany t_lines t_lineWhat t_lineA t_lineB t_tolds t_toldDanger t_toldMonths t_toldSize t_s t_aside t_tried t_marked t_undone t_isLaid t_done t_heading t_bestHeading t_leastLeft t_goesTo t_bestGoes t_leastMonths t_g) H locs := hw
      refine lv_iconst (v := (1 : Int32)) hx hb dX13_needsNumber_44 (by decide) ?_
      obtain rfl := Option.some.inj hf
      exact k_zret X (Or.inr rfl) hw dX13_needsNumber_45
    · have hf := (if_pos c_23).symm.trans hf
      refine lv_aload_n hx hb dX13_needsNumber_26 rfl (lv_at hl 0 rfl) ?_
      refine lv_iconst (v := (4 : Int32)) hx hb dX13_needsNumber_27 (by decide) ?_
      refine k_V (As := [.int ((4 : Int32))]) (rest := []) (index := 224) (C := RX13) X (c_X13_fails (out := (f_X13_fails t_begin ((4 : Int32)))) rfl) tw_1610 tw_1612 tw_52 tw_130 tw_1613 ⟨rfl, rfl⟩ hd_X13_fails ⟨Nat.le_of_ble_eq_true rfl, Nat.le_of_ble_eq_true rfl⟩ ⟨Nat.zero_le _, Nat.zero_le _⟩ hw [0, 1, 2, 3, 4, 5, 6, 7, 8, 9, 10, 11, 12, 13, 14, 15, 16, 17, 18, 19, 20, 21, 22, 23, 24, 25, 26, 27, 28, 29, 30, 31, 32, 33, 34, 35, 36, 37, 38, 39, 40, 41, 42, 43, 44, 45, 46] rfl rfl 0 rfl rfl rfl rfl hl.1 rfl (Nat.le_of_ble_eq_true rfl) dX13_needsNumber_28 (fun H locs hw => ?_)
      have hw : Wd E A s.heap (wX13 E t_o t_q t_thrown t_taped t_tape t_size t_place t_begin t_token t_word t_told ((f_X13_fails t_begin ((4 : Int32))).2) t_city t_manName t_dangerName t_decreeName t_kind t_skill t_fieldTold t_want t_hates t_restsOn t_sizeTold t_grows t_lineFrom t_lineTo t_codes t_code t_lawLine t_toldLines t_opened t_compared t_kept t_keptBy t_ahead t_against t_sum t_sumBy t_term t_termBy t_byNot t_valueOf t_given t_fresh t_consulsMany t_lines t_lineWhat t_lineA t_lineB t_tolds t_toldDanger t_toldMonths t_toldSize t_s t_aside t_tried t_marked t_undone t_isLaid t_done t_heading t_bestHeading t_leastLeft t_goesTo t_bestGoes t_leastMonths t_g) H locs := hw
      obtain ⟨hz_31, hf⟩ := zg_some hf
      obtain rfl := Option.some.inj hf
      exact k_zret X hz_31 hw dX13_needsNumber_31
  · have hf := (if_neg c_5).symm.trans hf
    refine lv_aload_n hx hb dX13_needsNumber_8 rfl (lv_at hl 0 rfl) ?_
    refine lv_iconst (v := (1 : Int32)) hx hb dX13_needsNumber_9 (by decide) ?_
    refine k_V (As := [.int ((1 : Int32))]) (rest := []) (index := 224) (C := RX13) X (c_X13_fails (out := (f_X13_fails t_begin ((1 : Int32)))) rfl) tw_1610 tw_1612 tw_52 tw_130 tw_1613 ⟨rfl, rfl⟩ hd_X13_fails ⟨Nat.le_of_ble_eq_true rfl, Nat.le_of_ble_eq_true rfl⟩ ⟨Nat.zero_le _, Nat.zero_le _⟩ hw [0, 1, 2, 3, 4, 5, 6, 7, 8, 9, 10, 11, 12, 13, 14, 15, 16, 17, 18, 19, 20, 21, 22, 23, 24, 25, 26, 27, 28, 29, 30, 31, 32, 33, 34, 35, 36, 37, 38, 39, 40, 41, 42, 43, 44, 45, 46] rfl rfl 0 rfl rfl rfl rfl hl.1 rfl (Nat.le_of_ble_eq_true rfl) dX13_needsNumber_10 (fun H locs hw => ?_)
    have hw : Wd E A s.heap (wX13 E t_o t_q t_thrown t_taped t_tape t_size t_place t_begin t_token t_word t_told ((f_X13_fails t_begin ((1 : Int32))).2) t_city t_manName t_dangerName t_decreeName t_kind t_skill t_fieldTold t_want t_hates t_restsOn t_sizeTold t_grows t_lineFrom t_lineTo t_codes t_code t_lawLine t_toldLines t_opened t_compared t_kept t_keptBy t_ahead t_against t_sum t_sumBy t_term t_termBy t_byNot t_valueOf t_given t_fresh t_consulsMany t_lines t_lineWhat t_lineA t_lineB t_tolds t_toldDanger t_toldMonths t_toldSize t_s t_aside t_tried t_marked t_undone t_isLaid t_done t_heading t_bestHeading t_leastLeft t_goesTo t_bestGoes t_leastMonths t_g) H locs := hw
    obtain ⟨hz_13, hf⟩ := zg_some hf
    obtain rfl := Option.some.inj hf
    exact k_zret X hz_13 hw dX13_needsNumber_13
/-! private boolean needsBoth(long, int, int); -/
def f_X13_needsBoth (t_tape : (Nat → Int32)) (t_size : Int32) (t_place : Int32) (t_begin : Int32) (t_token : Int32) (t_word : Int64) (t_told : Int32) (t_wrong : Int32) (t_given : Int32) (x1 : Int64) (x3 : Int32) (x4 : Int32) : Option (Int32 × Int32 × Int32 × Int32 × Int64 × Int32 × Int32 × Int32) := if (f_X13_isWord t_token t_word (x1)) = (0 : Int32) then zg ((f_X13_fails t_begin ((1 : Int32))).1) (some ((f_X13_fails t_begin ((1 : Int32))).1, t_place, t_begin, t_token, t_word, t_told, (f_X13_fails t_begin ((1 : Int32))).2, t_given))
  else (f_X13_nextToken t_tape t_size t_place).bind fun r15 => (f_X13_needsNumber t_tape t_size r15.1 r15.2.1 r15.2.2.1 r15.2.2.2.1 r15.2.2.2.2 t_wrong t_given (x3) (x4)).bind fun r22 => zg (r22.1) (some (r22.1, r22.2.1, r22.2.2.1, r22.2.2.2.1, r22.2.2.2.2.1, r22.2.2.2.2.2.1, r22.2.2.2.2.2.2.1, r22.2.2.2.2.2.2.2))
abbrev rm_X13_needsBoth : Room := { frames := 3, cells := 0, slots := 0, locals := 64 }
theorem hd_X13_needsBoth : yX13_needsBoth.cls = RX13 ∧ yX13_needsBoth.cls ≠ "java/lang/invoke/MethodHandle" ∧ yX13_needsBoth.cls ≠ "java/lang/invoke/VarHandle" ∧ (parseMethodDescriptor yX13_needsBoth.desc).map (fun d => d.parameters.length) = some 3 := by decide +kernel
set_option maxRecDepth 100000 in
set_option maxHeartbeats 4000000 in
theorem c_X13_needsBoth {E : En} {l : Launch} {t_o : Nat} {t_q : Nat → Nat} {t_thrown : Int32} {t_taped : Int32} {t_tape : (Nat → Int32)} {t_size : Int32} {t_place : Int32} {t_begin : Int32} {t_token : Int32} {t_word : Int64} {t_told : Int32} {t_wrong : Int32} {t_city : (Nat → Int32)} {t_manName : (Nat → Int64)} {t_dangerName : (Nat → Int64)} {t_decreeName : (Nat → Int64)} {t_kind : (Nat → Int32)} {t_skill : (Nat → Int32)} {t_fieldTold : (Nat → Int32)} {t_want : (Nat → Int32)} {t_hates : (Nat → Int32)} {t_restsOn : (Nat → Int32)} {t_sizeTold : (Nat → Int32)} {t_grows : (Nat → Int32)} {t_lineFrom : (Nat → Int32)} {t_lineTo : (Nat → Int32)} {t_codes : (Nat → Int32)} {t_code : Int32} {t_lawLine : Int32} {t_toldLines : Int32} {t_opened : (Nat → Int32)} {t_compared : (Nat → Int32)} {t_kept : (Nat → Int32)} {t_keptBy : (Nat → Int32)} {t_ahead : (Nat → Int32)} {t_against : (Nat → Int32)} {t_sum : (Nat → Int32)} {t_sumBy : (Nat → Int32)} {t_term : (Nat → Int32)} {t_termBy : (Nat → Int32)} {t_byNot : (Nat → Int32)} {t_valueOf : (Nat → Int32)} {t_given : Int32} {t_fresh : Int64} {t_consulsMany : Int32} {t_lines : (Nat → Int32)} {t_lineWhat : (Nat → Int32)} {t_lineA : (Nat → Int32)} {t_lineB : (Nat → Int32)} {t_tolds : (Nat → Int32)} {t_toldDanger : (Nat → Int32)} {t_toldMonths : (Nat → Int32)} {t_toldSize : (Nat → Int32)} {t_s : (Nat → Int32)} {t_aside : (Nat → Int32)} {t_tried : (Nat → Int32)} {t_marked : (Nat → Int32)} {t_undone : (Nat → Int32)} {t_isLaid : (Nat → Int32)} {t_done : Int32} {t_heading : (Nat → Int32)} {t_bestHeading : (Nat → Int32)} {t_leastLeft : Int32} {t_goesTo : (Nat → Int32)} {t_bestGoes : (Nat → Int32)} {t_leastMonths : Int32} {t_g : Int64} {x1 : Int64} {x3 : Int32} {x4 : Int32} {out : Int32 × Int32 × Int32 × Int32 × Int64 × Int32 × Int32 × Int32} (hf : f_X13_needsBoth t_tape t_size t_place t_begin t_token t_word t_told t_wrong t_given x1 x3 x4 = some out) : Cn E l yX13_needsBoth cX13_needsBoth 5 (some .boolean) rm_X13_needsBoth [.ref t_o, .long (x1), .int (x3), .int (x4)] (wX13 E t_o t_q t_thrown t_taped t_tape t_size t_place t_begin t_token t_word t_told t_wrong t_city t_manName t_dangerName t_decreeName t_kind t_skill t_fieldTold t_want t_hates t_restsOn t_sizeTold t_grows t_lineFrom t_lineTo t_codes t_code t_lawLine t_toldLines t_opened t_compared t_kept t_keptBy t_ahead t_against t_sum t_sumBy t_term t_termBy t_byNot t_valueOf t_given t_fresh t_consulsMany t_lines t_lineWhat t_lineA t_lineB t_tolds t_toldDanger t_toldMonths t_toldSize t_s t_aside t_tried t_marked t_undone t_isLaid t_done t_heading t_bestHeading t_leastLeft t_goesTo t_bestGoes t_leastMonths t_g) (some (.int out.1)) (wX13 E t_o t_q t_thrown t_taped t_tape t_size out.2.1 out.2.2.1 out.2.2.2.1 out.2.2.2.2.1 out.2.2.2.2.2.1 out.2.2.2.2.2.2.1 t_city t_manName t_dangerName t_decreeName t_kind t_skill t_fieldTold t_want t_hates t_restsOn t_sizeTold t_grows t_lineFrom t_lineTo t_codes t_code t_lawLine t_toldLines t_opened t_compared t_kept t_keptBy t_ahead t_against t_sum t_sumBy t_term t_termBy t_byNot t_valueOf out.2.2.2.2.2.2.2 t_fresh t_consulsMany t_lines t_lineWhat t_lineA t_lineB t_tolds t_toldDanger t_toldMonths t_toldSize t_s t_aside t_tried t_marked t_undone t_isLaid t_done t_heading t_bestHeading t_leastLeft t_goesTo t_bestGoes t_leastMonths t_g) := by
  refine Cn.of (by decide) (Nat.le_of_ble_eq_true rfl) rfl ?_
  intro p e s m below meth c A ls args H locs X hw hl
  have hx := X.1.1
  have hb := X.1.2.1
  have ho := X.1.2.2.2.1
  have hts := X.1.2.2.2.2
  have hl : lv_has ls 5 [(0, .ref t_o), (1, .long (x1)), (3, .int (x3)), (4, .int (x4))] := hl
  unfold f_X13_needsBoth at hf
  refine lv_aload_n hx hb dX13_needsBoth_0 rfl (lv_at hl 0 rfl) ?_
  refine lv_lload_n hx hb dX13_needsBoth_1 rfl (lv_at hl 1 rfl) ?_
  refine k_V (As := [.long (x1)]) (rest := []) (index := 216) (C := RX13) X (c_X13_isWord (out := (f_X13_isWord t_token t_word (x1))) rfl) tw_1602 tw_1604 tw_50 tw_130 tw_1605 ⟨rfl, rfl⟩ hd_X13_isWord ⟨Nat.le_of_ble_eq_true rfl, Nat.le_of_ble_eq_true rfl⟩ ⟨Nat.zero_le _, Nat.zero_le _⟩ hw [0, 1, 2, 3, 4, 5, 6, 7, 8, 9, 10, 11, 12, 13, 14, 15, 16, 17, 18, 19, 20, 21, 22, 23, 24, 25, 26, 27, 28, 29, 30, 31, 32, 33, 34, 35, 36, 37, 38, 39, 40, 41, 42, 43, 44, 45, 46] rfl rfl 0 rfl rfl rfl rfl hl.1 rfl (Nat.le_of_ble_eq_true rfl) dX13_needsBoth_2 (fun H locs hw => ?_)
  have hw : Wd E A s.heap (wX13 E t_o t_q t_thrown t_taped t_tape t_size t_place t_begin t_token t_word t_told t_wrong t_city t_manName t_dangerName t_decreeName t_kind t_skill t_fieldTold t_want t_hates t_restsOn t_sizeTold t_grows t_lineFrom t_lineTo t_codes t_code t_lawLine t_toldLines t_opened t_compared t_kept t_keptBy t_ahead t_against t_sum t_sumBy t_term t_termBy t_byNot t_valueOf t_given t_fresh t_consulsMany t_lines t_lineWhat t_lineA t_lineB t_tolds t_toldDanger t_toldMonths t_toldSize t_s t_aside t_tried t_marked t_undone t_isLaid t_done t_heading t_bestHeading t_leastLeft t_goesTo t_bestGoes t_leastMonths t_g) H locs := hw
  refine lv_if_ne (tgt := 14) hx hb dX13_needsBoth_5 (by decide) (fun c_5 => ?_) (fun c_5 => ?_)
  · have hf := (if_neg c_5).symm.trans hf
    refine lv_aload_n hx hb dX13_needsBoth_14 rfl (lv_at hl 0 rfl) ?_
    obtain ⟨r15, hc_15, hf⟩ := bd_some hf
    refine k_V (As := []) (rest := []) (index := 231) (C := RX13) X (c_X13_nextToken hc_15) tw_1591 tw_1593 tw_48 tw_130 tw_1594 ⟨rfl, rfl⟩ hd_X13_nextToken ⟨Nat.le_of_ble_eq_true rfl, Nat.le_of_ble_eq_true rfl⟩ ⟨Nat.zero_le _, Nat.zero_le _⟩ hw [0, 1, 2, 3, 4, 5, 6, 7, 8, 9, 10, 11, 12, 13, 14, 15, 16, 17, 18, 19, 20, 21, 22, 23, 24, 25, 26, 27, 28, 29, 30, 31, 32, 33, 34, 35, 36, 37, 38, 39, 40, 41, 42, 43, 44, 45, 46] rfl rfl 0 rfl rfl rfl rfl hl.1 rfl (Nat.le_of_ble_eq_true rfl) dX13_needsBoth_15 (fun H locs hw => ?_)
    have hw : Wd E A s.heap (wX13 E t_o t_q t_thrown t_taped t_tape t_size r15.1 r15.2.1 r15.2.2.1 r15.2.2.2.1 r15.2.2.2.2 t_wrong t_city t_manName t_dangerName t_decreeName t_kind t_skill t_fieldTold t_want t_hates t_restsOn t_sizeTold t_grows t_lineFrom t_lineTo t_codes t_code t_lawLine t_toldLines t_opened t_compared t_kept t_keptBy t_ahead t_against t_sum t_sumBy t_term t_termBy t_byNot t_valueOf t_given t_fresh t_consulsMany t_lines t_lineWhat t_lineA t_lineB t_tolds t_toldDanger t_toldMonths t_toldSize t_s t_aside t_tried t_marked t_undone t_isLaid t_done t_heading t_bestHeading t_leastLeft t_goesTo t_bestGoes t_leastMonths t_g) H locs := hw
    refine lv_aload_n hx hb dX13_needsBoth_18 rfl (lv_at hl 0 rfl) ?_
    refine lv_iload_n hx hb dX13_needsBoth_19 rfl (lv_at hl 2 rfl) ?_
    refine lv_iload hx hb dX13_needsBoth_20 (lv_at hl 3 rfl) ?_
    obtain ⟨r22, hc_22, hf⟩ := bd_some hf
    refine k_V (As := [.int (x3), .int (x4)]) (rest := []) (index := 304) (C := RX13) X (c_X13_needsNumber hc_22) tw_1666 tw_1668 tw_59 tw_130 tw_1669 ⟨rfl, rfl⟩ hd_X13_needsNumber ⟨Nat.le_of_ble_eq_true rfl, Nat.le_of_ble_eq_true rfl⟩ ⟨Nat.zero_le _, Nat.zero_le _⟩ hw [0, 1, 2, 3, 4, 5, 6, 7, 8, 9, 10, 11, 12, 13, 14, 15, 16, 17, 18, 19, 20, 21, 22, 23, 24, 25, 26, 27, 28, 29, 30, 31, 32, 33, 34, 35, 36, 37, 38, 39, 40, 41, 42, 43, 44, 45, 46] rfl rfl 0 rfl rfl rfl rfl hl.1 rfl (Nat.le_of_ble_eq_true rfl) dX13_needsBoth_22 (fun H locs hw => ?_)
    have hw : Wd E A s.heap (wX13 E t_o t_q t_thrown t_taped t_tape t_size r22.2.1 r22.2.2.1 r22.2.2.2.1 r22.2.2.2.2.1 r22.2.2.2.2.2.1 r22.2.2.2.2.2.2.1 t_city t_manName t_dangerName t_decreeName t_kind t_skill t_fieldTold t_want t_hates t_restsOn t_sizeTold t_grows t_lineFrom t_lineTo t_codes t_code t_lawLine t_toldLines t_opened t_compared t_kept t_keptBy t_ahead t_against t_sum t_sumBy t_term t_termBy t_byNot t_valueOf r22.2.2.2.2.2.2.2 t_fresh t_consulsMany t_lines t_lineWhat t_lineA t_lineB t_tolds t_toldDanger t_toldMonths t_toldSize t_s t_aside t_tried t_marked t_undone t_isLaid t_done t_heading t_bestHeading t_leastLeft t_goesTo t_bestGoes t_leastMonths t_g) H locs := hw
    obtain ⟨hz_25, hf⟩ := zg_some hf
    obtain rfl := Option.some.inj hf
    exact k_zret X hz_25 hw dX13_needsBoth_25
  · have hf := (if_pos c_5).symm.trans hf
    refine lv_aload_n hx hb dX13_needsBoth_8 rfl (lv_at hl 0 rfl) ?_
    refine lv_iconst (v := (1 : Int32)) hx hb dX13_needsBoth_9 (by decide) ?_
    refine k_V (As := [.int ((1 : Int32))]) (rest := []) (index := 224) (C := RX13) X (c_X13_fails (out := (f_X13_fails t_begin ((1 : Int32)))) rfl) tw_1610 tw_1612 tw_52 tw_130 tw_1613 ⟨rfl, rfl⟩ hd_X13_fails ⟨Nat.le_of_ble_eq_true rfl, Nat.le_of_ble_eq_true rfl⟩ ⟨Nat.zero_le _, Nat.zero_le _⟩ hw [0, 1, 2, 3, 4, 5, 6, 7, 8, 9, 10, 11, 12, 13, 14, 15, 16, 17, 18, 19, 20, 21, 22, 23, 24, 25, 26, 27, 28, 29, 30, 31, 32, 33, 34, 35, 36, 37, 38, 39, 40, 41, 42, 43, 44, 45, 46] rfl rfl 0 rfl rfl rfl rfl hl.1 rfl (Nat.le_of_ble_eq_true rfl) dX13_needsBoth_10 (fun H locs hw => ?_)
    have hw : Wd E A s.heap (wX13 E t_o t_q t_thrown t_taped t_tape t_size t_place t_begin t_token t_word t_told ((f_X13_fails t_begin ((1 : Int32))).2) t_city t_manName t_dangerName t_decreeName t_kind t_skill t_fieldTold t_want t_hates t_restsOn t_sizeTold t_grows t_lineFrom t_lineTo t_codes t_code t_lawLine t_toldLines t_opened t_compared t_kept t_keptBy t_ahead t_against t_sum t_sumBy t_term t_termBy t_byNot t_valueOf t_given t_fresh t_consulsMany t_lines t_lineWhat t_lineA t_lineB t_tolds t_toldDanger t_toldMonths t_toldSize t_s t_aside t_tried t_marked t_undone t_isLaid t_done t_heading t_bestHeading t_leastLeft t_goesTo t_bestGoes t_leastMonths t_g) H locs := hw
    obtain ⟨hz_13, hf⟩ := zg_some hf
    obtain rfl := Option.some.inj hf
    exact k_zret X hz_13 hw dX13_needsBoth_13
/-! private boolean closes(); -/
def f_X13_closes (t_tape : (Nat → Int32)) (t_size : Int32) (t_place : Int32) (t_begin : Int32) (t_token : Int32) (t_word : Int64) (t_told : Int32) (t_wrong : Int32) : Option (Int32 × Int32 × Int32 × Int32 × Int64 × Int32 × Int32) := (f_X13_isSign t_tape t_begin t_token ((59 : Int32))).bind fun r3 => if r3 = (0 : Int32) then zg ((f_X13_fails t_begin ((1 : Int32))).1) (some ((f_X13_fails t_begin ((1 : Int32))).1, t_place, t_begin, t_token, t_word, t_told, (f_X13_fails t_begin ((1 : Int32))).2))
  else (f_X13_nextToken t_tape t_size t_place).bind fun r16 => some ((1 : Int32), r16.1, r16.2.1, r16.2.2.1, r16.2.2.2.1, r16.2.2.2.2, t_wrong)
abbrev rm_X13_closes : Room := { frames := 2, cells := 0, slots := 0, locals := 42 }
theorem hd_X13_closes : yX13_closes.cls = RX13 ∧ yX13_closes.cls ≠ "java/lang/invoke/MethodHandle" ∧ yX13_closes.cls ≠ "java/lang/invoke/VarHandle" ∧ (parseMethodDescriptor yX13_closes.desc).map (fun d => d.parameters.length) = some 0 := by decide +kernel
set_option maxRecDepth 100000 in
set_option maxHeartbeats 4000000 in
theorem c_X13_closes {E : En} {l : Launch} {t_o : Nat} {t_q : Nat → Nat} {t_thrown : Int32} {t_taped : Int32} {t_tape : (Nat → Int32)} {t_size : Int32} {t_place : Int32} {t_begin : Int32} {t_token : Int32} {t_word : Int64} {t_told : Int32} {t_wrong : Int32} {t_city : (Nat → Int32)} {t_manName : (Nat → Int64)} {t_dangerName : (Nat → Int64)} {t_decreeName : (Nat → Int64)} {t_kind : (Nat → Int32)} {t_skill : (Nat → Int32)} {t_fieldTold : (Nat → Int32)} {t_want : (Nat → Int32)} {t_hates : (Nat → Int32)} {t_restsOn : (Nat → Int32)} {t_sizeTold : (Nat → Int32)} {t_grows : (Nat → Int32)} {t_lineFrom : (Nat → Int32)} {t_lineTo : (Nat → Int32)} {t_codes : (Nat → Int32)} {t_code : Int32} {t_lawLine : Int32} {t_toldLines : Int32} {t_opened : (Nat → Int32)} {t_compared : (Nat → Int32)} {t_kept : (Nat → Int32)} {t_keptBy : (Nat → Int32)} {t_ahead : (Nat → Int32)} {t_against : (Nat → Int32)} {t_sum : (Nat → Int32)} {t_sumBy : (Nat → Int32)} {t_term : (Nat → Int32)} {t_termBy : (Nat → Int32)} {t_byNot : (Nat → Int32)} {t_valueOf : (Nat → Int32)} {t_given : Int32} {t_fresh : Int64} {t_consulsMany : Int32} {t_lines : (Nat → Int32)} {t_lineWhat : (Nat → Int32)} {t_lineA : (Nat → Int32)} {t_lineB : (Nat → Int32)} {t_tolds : (Nat → Int32)} {t_toldDanger : (Nat → Int32)} {t_toldMonths : (Nat → Int32)} {t_toldSize : (Nat → Int32)} {t_s : (Nat → Int32)} {t_aside : (Nat → Int32)} {t_tried : (Nat → Int32)} {t_marked : (Nat → Int32)} {t_undone : (Nat → Int32)} {t_isLaid : (Nat → Int32)} {t_done : Int32} {t_heading : (Nat → Int32)} {t_bestHeading : (Nat → Int32)} {t_leastLeft : Int32} {t_goesTo : (Nat → Int32)} {t_bestGoes : (Nat → Int32)} {t_leastMonths : Int32} {t_g : Int64}  {out : Int32 × Int32 × Int32 × Int32 × Int64 × Int32 × Int32} (hf : f_X13_closes t_tape t_size t_place t_begin t_token t_word t_told t_wrong = some out) : Cn E l yX13_closes cX13_closes 1 (some .boolean) rm_X13_closes [.ref t_o] (wX13 E t_o t_q t_thrown t_taped t_tape t_size t_place t_begin t_token t_word t_told t_wrong t_city t_manName t_dangerName t_decreeName t_kind t_skill t_fieldTold t_want t_hates t_restsOn t_sizeTold t_grows t_lineFrom t_lineTo t_codes t_code t_lawLine t_toldLines t_opened t_compared t_kept t_keptBy t_ahead t_against t_sum t_sumBy t_term t_termBy t_byNot t_valueOf t_given t_fresh t_consulsMany t_lines t_lineWhat t_lineA t_lineB t_tolds t_toldDanger t_toldMonths t_toldSize t_s t_aside t_tried t_marked t_undone t_isLaid t_done t_heading t_bestHeading t_leastLeft t_goesTo t_bestGoes t_leastMonths t_g) (some (.int out.1)) (wX13 E t_o t_q t_thrown t_taped t_tape t_size out.2.1 out.2.2.1 out.2.2.2.1 out.2.2.2.2.1 out.2.2.2.2.2.1 out.2.2.2.2.2.2 t_city t_manName t_dangerName t_decreeName t_kind t_skill t_fieldTold t_want t_hates t_restsOn t_sizeTold t_grows t_lineFrom t_lineTo t_codes t_code t_lawLine t_toldLines t_opened t_compared t_kept t_keptBy t_ahead t_against t_sum t_sumBy t_term t_termBy t_byNot t_valueOf t_given t_fresh t_consulsMany t_lines t_lineWhat t_lineA t_lineB t_tolds t_toldDanger t_toldMonths t_toldSize t_s t_aside t_tried t_marked t_undone t_isLaid t_done t_heading t_bestHeading t_leastLeft t_goesTo t_bestGoes t_leastMonths t_g) := by
  refine Cn.of (by decide) (Nat.le_of_ble_eq_true rfl) rfl ?_
  intro p e s m below meth c A ls args H locs X hw hl
  have hx := X.1.1
  have hb := X.1.2.1
  have ho := X.1.2.2.2.1
  have hts := X.1.2.2.2.2
  have hl : lv_has ls 1 [(0, .ref t_o)] := hl
  unfold f_X13_closes at hf
  refine lv_aload_n hx hb dX13_closes_0 rfl (lv_at hl 0 rfl) ?_
  refine lv_bipush (v := (59 : Int32)) hx hb dX13_closes_1 (by decide) ?_
  obtain ⟨r3, hc_3, hf⟩ := bd_some hf
  refine k_V (As := [.int ((59 : Int32))]) (rest := []) (index := 220) (C := RX13) X (c_X13_isSign hc_3) tw_1677 tw_1679 tw_61 tw_130 tw_1680 ⟨rfl, rfl⟩ hd_X13_isSign ⟨Nat.le_of_ble_eq_true rfl, Nat.le_of_ble_eq_true rfl⟩ ⟨Nat.zero_le _, Nat.zero_le _⟩ hw [0, 1, 2, 3, 4, 5, 6, 7, 8, 9, 10, 11, 12, 13, 14, 15, 16, 17, 18, 19, 20, 21, 22, 23, 24, 25, 26, 27, 28, 29, 30, 31, 32, 33, 34, 35, 36, 37, 38, 39, 40, 41, 42, 43, 44, 45, 46] rfl rfl 0 rfl rfl rfl rfl hl.1 rfl (Nat.le_of_ble_eq_true rfl) dX13_closes_3 (fun H locs hw => ?_)
  have hw : Wd E A s.heap (wX13 E t_o t_q t_thrown t_taped t_tape t_size t_place t_begin t_token t_word t_told t_wrong t_city t_manName t_dangerName t_decreeName t_kind t_skill t_fieldTold t_want t_hates t_restsOn t_sizeTold t_grows t_lineFrom t_lineTo t_codes t_code t_lawLine t_toldLines t_opened t_compared t_kept t_keptBy t_ahead t_against t_sum t_sumBy t_term t_termBy t_byNot t_valueOf t_given t_fresh t_consulsMany t_lines t_lineWhat t_lineA t_lineB t_tolds t_toldDanger t_toldMonths t_toldSize t_s t_aside t_tried t_marked t_undone t_isLaid t_done t_heading t_bestHeading t_leastLeft t_goesTo t_bestGoes t_leastMonths t_g) H locs := hw
  refine lv_if_ne (tgt := 15) hx hb dX13_closes_6 (by decide) (fun c_6 => ?_) (fun c_6 => ?_)
  · have hf := (if_neg c_6).symm.trans hf
    refine lv_aload_n hx hb dX13_closes_15 rfl (lv_at hl 0 rfl) ?_
    obtain ⟨r16, hc_16, hf⟩ := bd_some hf
    refine k_V (As := []) (rest := []) (index := 231) (C := RX13) X (c_X13_nextToken hc_16) tw_1591 tw_1593 tw_48 tw_130 tw_1594 ⟨rfl, rfl⟩ hd_X13_nextToken ⟨Nat.le_of_ble_eq_true rfl, Nat.le_of_ble_eq_true rfl⟩ ⟨Nat.zero_le _, Nat.zero_le _⟩ hw [0, 1, 2, 3, 4, 5, 6, 7, 8, 9, 10, 11, 12, 13, 14, 15, 16, 17, 18, 19, 20, 21, 22, 23, 24, 25, 26, 27, 28, 29, 30, 31, 32, 33, 34, 35, 36, 37, 38, 39, 40, 41, 42, 43, 44, 45, 46] rfl rfl 0 rfl rfl rfl rfl hl.1 rfl (Nat.le_of_ble_eq_true rfl) dX13_closes_16 (fun H locs hw => ?_)
    have hw : Wd E A s.heap (wX13 E t_o t_q t_thrown t_taped t_tape t_size r16.1 r16.2.1 r16.2.2.1 r16.2.2.2.1 r16.2.2.2.2 t_wrong t_city t_manName t_dangerName t_decreeName t_kind t_skill t_fieldTold t_want t_hates t_restsOn t_sizeTold t_grows t_lineFrom t_lineTo t_codes t_code t_lawLine t_toldLines t_opened t_compared t_kept t_keptBy t_ahead t_against t_sum t_sumBy t_term t_termBy t_byNot t_valueOf t_given t_fresh t_consulsMany t_lines t_lineWhat t_lineA t_lineB t_tolds t_toldDanger t_toldMonths t_toldSize t_s t_aside t_tried t_marked t_undone t_isLaid t_done t_heading t_bestHeading t_leastLeft t_goesTo t_bestGoes t_leastMonths t_g) H locs := hw
    refine lv_iconst (v := (1 : Int32)) hx hb dX13_closes_19 (by decide) ?_
    obtain rfl := Option.some.inj hf
    exact k_zret X (Or.inr rfl) hw dX13_closes_20
  · have hf := (if_pos c_6).symm.trans hf
    refine lv_aload_n hx hb dX13_closes_9 rfl (lv_at hl 0 rfl) ?_
    refine lv_iconst (v := (1 : Int32)) hx hb dX13_closes_10 (by decide) ?_
    refine k_V (As := [.int ((1 : Int32))]) (rest := []) (index := 224) (C := RX13) X (c_X13_fails (out := (f_X13_fails t_begin ((1 : Int32)))) rfl) tw_1610 tw_1612 tw_52 tw_130 tw_1613 ⟨rfl, rfl⟩ hd_X13_fails ⟨Nat.le_of_ble_eq_true rfl, Nat.le_of_ble_eq_true rfl⟩ ⟨Nat.zero_le _, Nat.zero_le _⟩ hw [0, 1, 2, 3, 4, 5, 6, 7, 8, 9, 10, 11, 12, 13, 14, 15, 16, 17, 18, 19, 20, 21, 22, 23, 24, 25, 26, 27, 28, 29, 30, 31, 32, 33, 34, 35, 36, 37, 38, 39, 40, 41, 42, 43, 44, 45, 46] rfl rfl 0 rfl rfl rfl rfl hl.1 rfl (Nat.le_of_ble_eq_true rfl) dX13_closes_11 (fun H locs hw => ?_)
    have hw : Wd E A s.heap (wX13 E t_o t_q t_thrown t_taped t_tape t_size t_place t_begin t_token t_word t_told ((f_X13_fails t_begin ((1 : Int32))).2) t_city t_manName t_dangerName t_decreeName t_kind t_skill t_fieldTold t_want t_hates t_restsOn t_sizeTold t_grows t_lineFrom t_lineTo t_codes t_code t_lawLine t_toldLines t_opened t_compared t_kept t_keptBy t_ahead t_against t_sum t_sumBy t_term t_termBy t_byNot t_valueOf t_given t_fresh t_consulsMany t_lines t_lineWhat t_lineA t_lineB t_tolds t_toldDanger t_toldMonths t_toldSize t_s t_aside t_tried t_marked t_undone t_isLaid t_done t_heading t_bestHeading t_leastLeft t_goesTo t_bestGoes t_leastMonths t_g) H locs := hw
    obtain ⟨hz_14, hf⟩ := zg_some hf
    obtain rfl := Option.some.inj hf
    exact k_zret X hz_14 hw dX13_closes_14
