/-! private void laysTold(int, int); -/
def f_X13_laysTold_14 : Nat → (Nat → Int32) → (Nat → Int32) → (Nat → Int32) → (Nat → Int32) → Int32 → Int32 → Int32 → Option ((Nat → Int32) × (Nat → Int32) × (Nat → Int32) × (Nat → Int32))
  | 0, _, _, _, _, _, _, _ => none
  | n + 1, t_tolds, t_toldDanger, t_toldMonths, t_toldSize, x1, x2, x3 => if (8 : Int32) ≤ x3 then some (t_tolds, t_toldDanger, t_toldMonths, t_toldSize)
    else gd ((((8 : Int32) * x1) + x3)) 40 (gd ((((8 : Int32) * x2) + x3)) 40 (gd ((((8 : Int32) * x1) + x3)) 40 (gd ((((8 : Int32) * x2) + x3)) 40 (gd ((((8 : Int32) * x1) + x3)) 40 (gd ((((8 : Int32) * x2) + x3)) 40 (f_X13_laysTold_14 n t_tolds (upd t_toldDanger ((((8 : Int32) * x2) + x3)).toNatClampNeg ((t_toldDanger ((((8 : Int32) * x1) + x3)).toNatClampNeg))) (upd t_toldMonths ((((8 : Int32) * x2) + x3)).toNatClampNeg ((t_toldMonths ((((8 : Int32) * x1) + x3)).toNatClampNeg))) (upd t_toldSize ((((8 : Int32) * x2) + x3)).toNatClampNeg ((t_toldSize ((((8 : Int32) * x1) + x3)).toNatClampNeg))) x1 x2 ((x3 + (1 : Int32)))))))))
def f_X13_laysTold (t_tolds : (Nat → Int32)) (t_toldDanger : (Nat → Int32)) (t_toldMonths : (Nat → Int32)) (t_toldSize : (Nat → Int32)) (x1 : Int32) (x2 : Int32) : Option ((Nat → Int32) × (Nat → Int32) × (Nat → Int32) × (Nat → Int32)) := gd (x1) 5 (gd (x2) 5 (f_X13_laysTold_14 1100 (upd t_tolds (x2).toNatClampNeg ((t_tolds (x1).toNatClampNeg))) t_toldDanger t_toldMonths t_toldSize x1 x2 ((0 : Int32))))
abbrev rm_X13_laysTold : Room := { frames := 0, cells := 0, slots := 0, locals := 0 }
theorem hd_X13_laysTold : yX13_laysTold.cls = RX13 ∧ yX13_laysTold.cls ≠ "java/lang/invoke/MethodHandle" ∧ yX13_laysTold.cls ≠ "java/lang/invoke/VarHandle" ∧ (parseMethodDescriptor yX13_laysTold.desc).map (fun d => d.parameters.length) = some 2 := by decide +kernel
set_option maxRecDepth 100000 in
set_option maxHeartbeats 4000000 in
theorem kb_X13_laysTold_14 {E : En} {p : Program} {l : Launch} {e : Env} {s : State} {m : MethodId} {args : Array Value} {below : List Frame} {meth : Method} {c : Code} {A : Nat → Prop} {t_o : Nat} {t_q : Nat → Nat} {t_thrown : Int32} {t_taped : Int32} {t_tape : (Nat → Int32)} {t_size : Int32} {t_place : Int32} {t_begin : Int32} {t_token : Int32} {t_word : Int64} {t_told : Int32} {t_wrong : Int32} {t_city : (Nat → Int32)} {t_manName : (Nat → Int64)} {t_dangerName : (Nat → Int64)} {t_decreeName : (Nat → Int64)} {t_kind : (Nat → Int32)} {t_skill : (Nat → Int32)} {t_fieldTold : (Nat → Int32)} {t_want : (Nat → Int32)} {t_hates : (Nat → Int32)} {t_restsOn : (Nat → Int32)} {t_sizeTold : (Nat → Int32)} {t_grows : (Nat → Int32)} {t_lineFrom : (Nat → Int32)} {t_lineTo : (Nat → Int32)} {t_codes : (Nat → Int32)} {t_code : Int32} {t_lawLine : Int32} {t_toldLines : Int32} {t_opened : (Nat → Int32)} {t_compared : (Nat → Int32)} {t_kept : (Nat → Int32)} {t_keptBy : (Nat → Int32)} {t_ahead : (Nat → Int32)} {t_against : (Nat → Int32)} {t_sum : (Nat → Int32)} {t_sumBy : (Nat → Int32)} {t_term : (Nat → Int32)} {t_termBy : (Nat → Int32)} {t_byNot : (Nat → Int32)} {t_valueOf : (Nat → Int32)} {t_given : Int32} {t_fresh : Int64} {t_consulsMany : Int32} {t_lines : (Nat → Int32)} {t_lineWhat : (Nat → Int32)} {t_lineA : (Nat → Int32)} {t_lineB : (Nat → Int32)} {t_s : (Nat → Int32)} {t_aside : (Nat → Int32)} {t_tried : (Nat → Int32)} {t_marked : (Nat → Int32)} {t_undone : (Nat → Int32)} {t_isLaid : (Nat → Int32)} {t_done : Int32} {t_heading : (Nat → Int32)} {t_bestHeading : (Nat → Int32)} {t_leastLeft : Int32} {t_goesTo : (Nat → Int32)} {t_bestGoes : (Nat → Int32)} {t_leastMonths : Int32} {t_g : Int64} {out : (Nat → Int32) × (Nat → Int32) × (Nat → Int32) × (Nat → Int32)} (X : Bx E A p s m args meth c cX13_laysTold 4 RX13 none) : ∀ (n : Nat) {t_tolds : (Nat → Int32)} {t_toldDanger : (Nat → Int32)} {t_toldMonths : (Nat → Int32)} {t_toldSize : (Nat → Int32)} {x1 : Int32} {x2 : Int32} {x3 : Int32} {H : Heap} {locs : List Loc} {ls : Array Slot}, f_X13_laysTold_14 n t_tolds t_toldDanger t_toldMonths t_toldSize x1 x2 x3 = some out → Wd E A s.heap (wX13 E t_o t_q t_thrown t_taped t_tape t_size t_place t_begin t_token t_word t_told t_wrong t_city t_manName t_dangerName t_decreeName t_kind t_skill t_fieldTold t_want t_hates t_restsOn t_sizeTold t_grows t_lineFrom t_lineTo t_codes t_code t_lawLine t_toldLines t_opened t_compared t_kept t_keptBy t_ahead t_against t_sum t_sumBy t_term t_termBy t_byNot t_valueOf t_given t_fresh t_consulsMany t_lines t_lineWhat t_lineA t_lineB t_tolds t_toldDanger t_toldMonths t_toldSize t_s t_aside t_tried t_marked t_undone t_isLaid t_done t_heading t_bestHeading t_leastLeft t_goesTo t_bestGoes t_leastMonths t_g) H locs → lv_has ls 4 [(0, .ref t_o), (1, .int (x1)), (2, .int (x2)), (3, .int (x3))] → W p l e rm_X13_laysTold s m args below meth c H locs 0 0 (Zn E below args s A none (wX13 E t_o t_q t_thrown t_taped t_tape t_size t_place t_begin t_token t_word t_told t_wrong t_city t_manName t_dangerName t_decreeName t_kind t_skill t_fieldTold t_want t_hates t_restsOn t_sizeTold t_grows t_lineFrom t_lineTo t_codes t_code t_lawLine t_toldLines t_opened t_compared t_kept t_keptBy t_ahead t_against t_sum t_sumBy t_term t_termBy t_byNot t_valueOf t_given t_fresh t_consulsMany t_lines t_lineWhat t_lineA t_lineB out.1 out.2.1 out.2.2.1 out.2.2.2 t_s t_aside t_tried t_marked t_undone t_isLaid t_done t_heading t_bestHeading t_leastLeft t_goesTo t_bestGoes t_leastMonths t_g)) (F0 m 14 ls []) := by
  have hx := X.1.1
  have hb := X.1.2.1
  have ho := X.1.2.2.2.1
  have hts := X.1.2.2.2.2
  intro n
  induction n with
  | zero =>
    intro t_tolds t_toldDanger t_toldMonths t_toldSize x1 x2 x3 H locs ls hf
    have hf : (none : Option ((Nat → Int32) × (Nat → Int32) × (Nat → Int32) × (Nat → Int32))) = some out := hf
    cases hf
  | succ n ih =>
    intro t_tolds t_toldDanger t_toldMonths t_toldSize x1 x2 x3 H locs ls hf hw hl
    rw [f_X13_laysTold_14.eq_2] at hf
    refine lv_iload_n hx hb dX13_laysTold_14 rfl (lv_at hl 3 rfl) ?_
    refine lv_bipush (v := (8 : Int32)) hx hb dX13_laysTold_15 (by decide) ?_
    refine lv_icmp_ge (tgt := 92) hx hb dX13_laysTold_17 (by decide) (fun c_17 => ?_) (fun c_17 => ?_)
    · have hf := (if_pos c_17).symm.trans hf
      obtain rfl := Option.some.inj hf
      exact k_vret X hw dX13_laysTold_92
    · have hf := (if_neg c_17).symm.trans hf
      refine lv_aload_n hx hb dX13_laysTold_20 rfl (lv_at hl 0 rfl) ?_
      refine k_get (q0 := 0) (ci := 11) (C := RX13) (T := TX13) (N := 65) (x := .ref (t_q 48)) X inx_13 hw rfl rfl 48 (by decide) rfl tw_1421 rfl dX13_laysTold_21 ?_
      refine lv_bipush (v := (8 : Int32)) hx hb dX13_laysTold_24 (by decide) ?_
      refine lv_iload_n hx hb dX13_laysTold_26 rfl (lv_at hl 2 rfl) ?_
      refine lv_imul hx hb dX13_laysTold_27 ?_
      refine lv_iload_n hx hb dX13_laysTold_28 rfl (lv_at hl 3 rfl) ?_
      refine lv_iadd hx hb dX13_laysTold_29 ?_
      refine lv_aload_n hx hb dX13_laysTold_30 rfl (lv_at hl 0 rfl) ?_
      refine k_get (q0 := 0) (ci := 11) (C := RX13) (T := TX13) (N := 65) (x := .ref (t_q 48)) X inx_13 hw rfl rfl 48 (by decide) rfl tw_1421 rfl dX13_laysTold_31 ?_
      refine lv_bipush (v := (8 : Int32)) hx hb dX13_laysTold_34 (by decide) ?_
      refine lv_iload_n hx hb dX13_laysTold_36 rfl (lv_at hl 1 rfl) ?_
      refine lv_imul hx hb dX13_laysTold_37 ?_
      refine lv_iload_n hx hb dX13_laysTold_38 rfl (lv_at hl 3 rfl) ?_
      refine lv_iadd hx hb dX13_laysTold_39 ?_
      obtain ⟨hi_40, hf⟩ := gd_some hf
      refine k_iald (q0 := 34) (n := 40) (f := t_toldDanger) X hw rfl hi_40 dX13_laysTold_40 ?_
      obtain ⟨hi_41, hf⟩ := gd_some hf
      refine k_iast (q0 := 34) (n := 40) (f := t_toldDanger) X hw rfl hi_41 dX13_laysTold_41 (fun H locs hw => ?_)
      have hw : Wd E A s.heap (wX13 E t_o t_q t_thrown t_taped t_tape t_size t_place t_begin t_token t_word t_told t_wrong t_city t_manName t_dangerName t_decreeName t_kind t_skill t_fieldTold t_want t_hates t_restsOn t_sizeTold t_grows t_lineFrom t_lineTo t_codes t_code t_lawLine t_toldLines t_opened t_compared t_kept t_keptBy t_ahead t_against t_sum t_sumBy t_term t_termBy t_byNot t_valueOf t_given t_fresh t_consulsMany t_lines t_lineWhat t_lineA t_lineB t_tolds (upd t_toldDanger ((((8 : Int32) * x2) + x3)).toNatClampNeg ((t_toldDanger ((((8 : Int32) * x1) + x3)).toNatClampNeg))) t_toldMonths t_toldSize t_s t_aside t_tried t_marked t_undone t_isLaid t_done t_heading t_bestHeading t_leastLeft t_goesTo t_bestGoes t_leastMonths t_g) H locs := hw
      refine lv_aload_n hx hb dX13_laysTold_42 rfl (lv_at hl 0 rfl) ?_
      refine k_get (q0 := 0) (ci := 11) (C := RX13) (T := TX13) (N := 65) (x := .ref (t_q 49)) X inx_13 hw rfl rfl 49 (by decide) rfl tw_1422 rfl dX13_laysTold_43 ?_
      refine lv_bipush (v := (8 : Int32)) hx hb dX13_laysTold_46 (by decide) ?_
      refine lv_iload_n hx hb dX13_laysTold_48 rfl (lv_at hl 2 rfl) ?_
      refine lv_imul hx hb dX13_laysTold_49 ?_
      refine lv_iload_n hx hb dX13_laysTold_50 rfl (lv_at hl 3 rfl) ?_
      refine lv_iadd hx hb dX13_laysTold_51 ?_
      refine lv_aload_n hx hb dX13_laysTold_52 rfl (lv_at hl 0 rfl) ?_
      refine k_get (q0 := 0) (ci := 11) (C := RX13) (T := TX13) (N := 65) (x := .ref (t_q 49)) X inx_13 hw rfl rfl 49 (by decide) rfl tw_1422 rfl dX13_laysTold_53 ?_
      refine lv_bipush (v := (8 : Int32)) hx hb dX13_laysTold_56 (by decide) ?_
      refine lv_iload_n hx hb dX13_laysTold_58 rfl (lv_at hl 1 rfl) ?_
      refine lv_imul hx hb dX13_laysTold_59 ?_
      refine lv_iload_n hx hb dX13_laysTold_60 rfl (lv_at hl 3 rfl) ?_
      refine lv_iadd hx hb dX13_laysTold_61 ?_
      obtain ⟨hi_62, hf⟩ := gd_some hf
      refine k_iald (q0 := 35) (n := 40) (f := t_toldMonths) X hw rfl hi_62 dX13_laysTold_62 ?_
      obtain ⟨hi_63, hf⟩ := gd_some hf
      refine k_iast (q0 := 35) (n := 40) (f := t_toldMonths) X hw rfl hi_63 dX13_laysTold_63 (fun H locs hw => ?_)
      have hw : Wd E A s.heap (wX13 E t_o t_q t_thrown t_taped t_tape t_size t_place t_begin t_token t_word t_told t_wrong t_city t_manName t_dangerName t_decreeName t_kind t_skill t_fieldTold t_want t_hates t_restsOn t_sizeTold t_grows t_lineFrom t_lineTo t_codes t_code t_lawLine t_toldLines t_opened t_compared t_kept t_keptBy t_ahead t_against t_sum t_sumBy t_term t_termBy t_byNot t_valueOf t_given t_fresh t_consulsMany t_lines t_lineWhat t_lineA t_lineB t_tolds (upd t_toldDanger ((((8 : Int32) * x2) + x3)).toNatClampNeg ((t_toldDanger ((((8 : Int32) * x1) + x3)).toNatClampNeg))) (upd t_toldMonths ((((8 : Int32) * x2) + x3)).toNatClampNeg ((t_toldMonths ((((8 : Int32) * x1) + x3)).toNatClampNeg))) t_toldSize t_s t_aside t_tried t_marked t_undone t_isLaid t_done t_heading t_bestHeading t_leastLeft t_goesTo t_bestGoes t_leastMonths t_g) H locs := hw
      refine lv_aload_n hx hb dX13_laysTold_64 rfl (lv_at hl 0 rfl) ?_
      refine k_get (q0 := 0) (ci := 11) (C := RX13) (T := TX13) (N := 65) (x := .ref (t_q 50)) X inx_13 hw rfl rfl 50 (by decide) rfl tw_1423 rfl dX13_laysTold_65 ?_
      refine lv_bipush (v := (8 : Int32)) hx hb dX13_laysTold_68 (by decide) ?_
      refine lv_iload_n hx hb dX13_laysTold_70 rfl (lv_at hl 2 rfl) ?_
      refine lv_imul hx hb dX13_laysTold_71 ?_
      refine lv_iload_n hx hb dX13_laysTold_72 rfl (lv_at hl 3 rfl) ?_
      refine lv_iadd hx hb dX13_laysTold_73 ?_
      refine lv_aload_n hx hb dX13_laysTold_74 rfl (lv_at hl 0 rfl) ?_
      refine k_get (q0 := 0) (ci := 11) (C := RX13) (T := TX13) (N := 65) (x := .ref (t_q 50)) X inx_13 hw rfl rfl 50 (by decide) rfl tw_1423 rfl dX13_laysTold_75 ?_
      refine lv_bipush (v := (8 : Int32)) hx hb dX13_laysTold_78 (by decide) ?_
      refine lv_iload_n hx hb dX13_laysTold_80 rfl (lv_at hl 1 rfl) ?_
      refine lv_imul hx hb dX13_laysTold_81 ?_
      refine lv_iload_n hx hb dX13_laysTold_82 rfl (lv_at hl 3 rfl) ?_
      refine lv_iadd hx hb dX13_laysTold_83 ?_
      obtain ⟨hi_84, hf⟩ := gd_some hf
      refine k_iald (q0 := 36) (n := 40) (f := t_toldSize) X hw rfl hi_84 dX13_laysTold_84 ?_
      obtain ⟨hi_85, hf⟩ := gd_some hf
      refine k_iast (q0 := 36) (n := 40) (f := t_toldSize) X hw rfl hi_85 dX13_laysTold_85 (fun H locs hw => ?_)
      have hw : Wd E A s.heap (wX13 E t_o t_q t_thrown t_taped t_tape t_size t_place t_begin t_token t_word t_told t_wrong t_city t_manName t_dangerName t_decreeName t_kind t_skill t_fieldTold t_want t_hates t_restsOn t_sizeTold t_grows t_lineFrom t_lineTo t_codes t_code t_lawLine t_toldLines t_opened t_compared t_kept t_keptBy t_ahead t_against t_sum t_sumBy t_term t_termBy t_byNot t_valueOf t_given t_fresh t_consulsMany t_lines t_lineWhat t_lineA t_lineB t_tolds (upd t_toldDanger ((((8 : Int32) * x2) + x3)).toNatClampNeg ((t_toldDanger ((((8 : Int32) * x1) + x3)).toNatClampNeg))) (upd t_toldMonths ((((8 : Int32) * x2) + x3)).toNatClampNeg ((t_toldMonths ((((8 : Int32) * x1) + x3)).toNatClampNeg))) (upd t_toldSize ((((8 : Int32) * x2) + x3)).toNatClampNeg ((t_toldSize ((((8 : Int32) * x1) + x3)).toNatClampNeg))) t_s t_aside t_tried t_marked t_undone t_isLaid t_done t_heading t_bestHeading t_leastLeft t_goesTo t_bestGoes t_leastMonths t_g) H locs := hw
      refine lv_iinc (v := (x3 + (1 : Int32))) (lv' := [(3, .int ((x3 + (1 : Int32)))), (0, .ref t_o), (1, .int (x1)), (2, .int (x2))]) hx hb dX13_laysTold_86 hl (k := 3) rfl rfl (by decide) rfl (fun ls hl => ?_)
      refine lv_goto (tgt := 14) hx hb dX13_laysTold_89 (by decide) ?_
      exact ih hf hw (lv_sub hl [1, 2, 3, 0] rfl)
set_option maxRecDepth 100000 in
set_option maxHeartbeats 4000000 in
theorem c_X13_laysTold {E : En} {l : Launch} {t_o : Nat} {t_q : Nat → Nat} {t_thrown : Int32} {t_taped : Int32} {t_tape : (Nat → Int32)} {t_size : Int32} {t_place : Int32} {t_begin : Int32} {t_token : Int32} {t_word : Int64} {t_told : Int32} {t_wrong : Int32} {t_city : (Nat → Int32)} {t_manName : (Nat → Int64)} {t_dangerName : (Nat → Int64)} {t_decreeName : (Nat → Int64)} {t_kind : (Nat → Int32)} {t_skill : (Nat → Int32)} {t_fieldTold : (Nat → Int32)} {t_want : (Nat → Int32)} {t_hates : (Nat → Int32)} {t_restsOn : (Nat → Int32)} {t_sizeTold : (Nat → Int32)} {t_grows : (Nat → Int32)} {t_lineFrom : (Nat → Int32)} {t_lineTo : (Nat → Int32)} {t_codes : (Nat → Int32)} {t_code : Int32} {t_lawLine : Int32} {t_toldLines : Int32} {t_opened : (Nat → Int32)} {t_compared : (Nat → Int32)} {t_kept : (Nat → Int32)} {t_keptBy : (Nat → Int32)} {t_ahead : (Nat → Int32)} {t_against : (Nat → Int32)} {t_sum : (Nat → Int32)} {t_sumBy : (Nat → Int32)} {t_term : (Nat → Int32)} {t_termBy : (Nat → Int32)} {t_byNot : (Nat → Int32)} {t_valueOf : (Nat → Int32)} {t_given : Int32} {t_fresh : Int64} {t_consulsMany : Int32} {t_lines : (Nat → Int32)} {t_lineWhat : (Nat → Int32)} {t_lineA : (Nat → Int32)} {t_lineB : (Nat → Int32)} {t_tolds : (Nat → Int32)} {t_toldDanger : (Nat → Int32)} {t_toldMonths : (Nat → Int32)} {t_toldSize : (Nat → Int32)} {t_s : (Nat → Int32)} {t_aside : (Nat → Int32)} {t_tried : (Nat → Int32)} {t_marked : (Nat → Int32)} {t_undone : (Nat → Int32)} {t_isLaid : (Nat → Int32)} {t_done : Int32} {t_heading : (Nat → Int32)} {t_bestHeading : (Nat → Int32)} {t_leastLeft : Int32} {t_goesTo : (Nat → Int32)} {t_bestGoes : (Nat → Int32)} {t_leastMonths : Int32} {t_g : Int64} {x1 : Int32} {x2 : Int32} {out : (Nat → Int32) × (Nat → Int32) × (Nat → Int32) × (Nat → Int32)} (hf : f_X13_laysTold t_tolds t_toldDanger t_toldMonths t_toldSize x1 x2 = some out) : Cn E l yX13_laysTold cX13_laysTold 4 none rm_X13_laysTold [.ref t_o, .int (x1), .int (x2)] (wX13 E t_o t_q t_thrown t_taped t_tape t_size t_place t_begin t_token t_word t_told t_wrong t_city t_manName t_dangerName t_decreeName t_kind t_skill t_fieldTold t_want t_hates t_restsOn t_sizeTold t_grows t_lineFrom t_lineTo t_codes t_code t_lawLine t_toldLines t_opened t_compared t_kept t_keptBy t_ahead t_against t_sum t_sumBy t_term t_termBy t_byNot t_valueOf t_given t_fresh t_consulsMany t_lines t_lineWhat t_lineA t_lineB t_tolds t_toldDanger t_toldMonths t_toldSize t_s t_aside t_tried t_marked t_undone t_isLaid t_done t_heading t_bestHeading t_leastLeft t_goesTo t_bestGoes t_leastMonths t_g) none (wX13 E t_o t_q t_thrown t_taped t_tape t_size t_place t_begin t_token t_word t_told t_wrong t_city t_manName t_dangerName t_decreeName t_kind t_skill t_fieldTold t_want t_hates t_restsOn t_sizeTold t_grows t_lineFrom t_lineTo t_codes t_code t_lawLine t_toldLines t_opened t_compared t_kept t_keptBy t_ahead t_against t_sum t_sumBy t_term t_termBy t_byNot t_valueOf t_given t_fresh t_consulsMany t_lines t_lineWhat t_lineA t_lineB out.1 out.2.1 out.2.2.1 out.2.2.2 t_s t_aside t_tried t_marked t_undone t_isLaid t_done t_heading t_bestHeading t_leastLeft t_goesTo t_bestGoes t_leastMonths t_g) := by
  refine Cn.of (by decide) (Nat.le_of_ble_eq_true rfl) rfl ?_
  intro p e s m below meth c A ls args H locs X hw hl
  have hx := X.1.1
  have hb := X.1.2.1
  have ho := X.1.2.2.2.1
  have hts := X.1.2.2.2.2
  have hl : lv_has ls 4 [(0, .ref t_o), (1, .int (x1)), (2, .int (x2))] := hl
  unfold f_X13_laysTold at hf
  refine lv_aload_n hx hb dX13_laysTold_0 rfl (lv_at hl 0 rfl) ?_
  refine k_get (q0 := 0) (ci := 11) (C := RX13) (T := TX13) (N := 65) (x := .ref (t_q 47)) X inx_13 hw rfl rfl 47 (by decide) rfl tw_1420 rfl dX13_laysTold_1 ?_
  refine lv_iload_n hx hb dX13_laysTold_4 rfl (lv_at hl 2 rfl) ?_
  refine lv_aload_n hx hb dX13_laysTold_5 rfl (lv_at hl 0 rfl) ?_
  refine k_get (q0 := 0) (ci := 11) (C := RX13) (T := TX13) (N := 65) (x := .ref (t_q 47)) X inx_13 hw rfl rfl 47 (by decide) rfl tw_1420 rfl dX13_laysTold_6 ?_
  refine lv_iload_n hx hb dX13_laysTold_9 rfl (lv_at hl 1 rfl) ?_
  obtain ⟨hi_10, hf⟩ := gd_some hf
  refine k_iald (q0 := 33) (n := 5) (f := t_tolds) X hw rfl hi_10 dX13_laysTold_10 ?_
  obtain ⟨hi_11, hf⟩ := gd_some hf
  refine k_iast (q0 := 33) (n := 5) (f := t_tolds) X hw rfl hi_11 dX13_laysTold_11 (fun H locs hw => ?_)
  have hw : Wd E A s.heap (wX13 E t_o t_q t_thrown t_taped t_tape t_size t_place t_begin t_token t_word t_told t_wrong t_city t_manName t_dangerName t_decreeName t_kind t_skill t_fieldTold t_want t_hates t_restsOn t_sizeTold t_grows t_lineFrom t_lineTo t_codes t_code t_lawLine t_toldLines t_opened t_compared t_kept t_keptBy t_ahead t_against t_sum t_sumBy t_term t_termBy t_byNot t_valueOf t_given t_fresh t_consulsMany t_lines t_lineWhat t_lineA t_lineB (upd t_tolds (x2).toNatClampNeg ((t_tolds (x1).toNatClampNeg))) t_toldDanger t_toldMonths t_toldSize t_s t_aside t_tried t_marked t_undone t_isLaid t_done t_heading t_bestHeading t_leastLeft t_goesTo t_bestGoes t_leastMonths t_g) H locs := hw
  refine lv_iconst (v := (0 : Int32)) hx hb dX13_laysTold_12 (by decide) ?_
  refine lv_istore_n (lv' := [(3, .int ((0 : Int32))), (0, .ref t_o), (1, .int (x1)), (2, .int (x2))]) hx hb dX13_laysTold_13 rfl hl (by decide) rfl (fun ls hl => ?_)
  exact kb_X13_laysTold_14 X 1100 hf hw (lv_sub hl [1, 2, 3, 0] rfl)
/-! private void fresh(); -/
def f_X13_fresh_70 : Nat → (Nat → Int32) → (Nat → Int32) → (Nat → Int32) → Int32 → Option ((Nat → Int32))
  | 0, _, _, _, _ => none
  | n + 1, t_city, t_fieldTold, t_s, x1 => gd ((0 : Int32)) 10 (if (t_city ((0 : Int32)).toNatClampNeg) ≤ x1 then some (t_s)
    else gd (x1) 12 (gd (((11 : Int32) + x1)) 23 (f_X13_fresh_70 n t_city t_fieldTold (upd t_s (((11 : Int32) + x1)).toNatClampNeg ((t_fieldTold (x1).toNatClampNeg))) ((x1 + (1 : Int32))))))
def f_X13_fresh_37 : Nat → (Nat → Int32) → (Nat → Int32) → (Nat → Int32) → (Nat → Int32) → Int32 → Option ((Nat → Int32))
  | 0, _, _, _, _, _ => none
  | n + 1, t_city, t_fieldTold, t_sizeTold, t_s, x1 => gd ((1 : Int32)) 10 (if (t_city ((1 : Int32)).toNatClampNeg) ≤ x1 then f_X13_fresh_70 1100 t_city t_fieldTold t_s ((0 : Int32))
    else gd (x1) 10 (gd (((6 : Int32) + x1)) 23 (f_X13_fresh_37 n t_city t_fieldTold t_sizeTold (upd t_s (((6 : Int32) + x1)).toNatClampNeg ((t_sizeTold (x1).toNatClampNeg))) ((x1 + (1 : Int32))))))
def f_X13_fresh_2 : Nat → (Nat → Int32) → (Nat → Int32) → (Nat → Int32) → (Nat → Int32) → Int32 → Option ((Nat → Int32))
  | 0, _, _, _, _, _ => none
  | n + 1, t_city, t_fieldTold, t_sizeTold, t_s, x1 => if (23 : Int32) ≤ x1 then gd ((1 : Int32)) 23 (gd ((2 : Int32)) 23 (f_X13_fresh_37 1100 t_city t_fieldTold t_sizeTold (upd (upd t_s ((1 : Int32)).toNatClampNeg ((-1 : Int32))) ((2 : Int32)).toNatClampNeg ((-1 : Int32))) ((0 : Int32))))
    else gd (x1) 23 (f_X13_fresh_2 n t_city t_fieldTold t_sizeTold (upd t_s (x1).toNatClampNeg ((0 : Int32))) ((x1 + (1 : Int32))))
def f_X13_fresh (t_city : (Nat → Int32)) (t_fieldTold : (Nat → Int32)) (t_sizeTold : (Nat → Int32)) (t_s : (Nat → Int32)) : Option ((Nat → Int32)) := f_X13_fresh_2 1100 t_city t_fieldTold t_sizeTold t_s ((0 : Int32))
abbrev rm_X13_fresh : Room := { frames := 0, cells := 0, slots := 0, locals := 0 }
theorem hd_X13_fresh : yX13_fresh.cls = RX13 ∧ yX13_fresh.cls ≠ "java/lang/invoke/MethodHandle" ∧ yX13_fresh.cls ≠ "java/lang/invoke/VarHandle" ∧ (parseMethodDescriptor yX13_fresh.desc).map (fun d => d.parameters.length) = some 0 := by decide +kernel
set_option maxRecDepth 100000 in
set_option maxHeartbeats 4000000 in
theorem kb_X13_fresh_70 {E : En} {p : Program} {l : Launch} {e : Env} {s : State} {m : MethodId} {args : Array Value} {below : List Frame} {meth : Method} {c : Code} {A : Nat → Prop} {t_o : Nat} {t_q : Nat → Nat} {t_thrown : Int32} {t_taped : Int32} {t_tape : (Nat → Int32)} {t_size : Int32} {t_place : Int32} {t_begin : Int32} {t_token : Int32} {t_word : Int64} {t_told : Int32} {t_wrong : Int32} {t_city : (Nat → Int32)} {t_manName : (Nat → Int64)} {t_dangerName : (Nat → Int64)} {t_decreeName : (Nat → Int64)} {t_kind : (Nat → Int32)} {t_skill : (Nat → Int32)} {t_fieldTold : (Nat → Int32)} {t_want : (Nat → Int32)} {t_hates : (Nat → Int32)} {t_restsOn : (Nat → Int32)} {t_sizeTold : (Nat → Int32)} {t_grows : (Nat → Int32)} {t_lineFrom : (Nat → Int32)} {t_lineTo : (Nat → Int32)} {t_codes : (Nat → Int32)} {t_code : Int32} {t_lawLine : Int32} {t_toldLines : Int32} {t_opened : (Nat → Int32)} {t_compared : (Nat → Int32)} {t_kept : (Nat → Int32)} {t_keptBy : (Nat → Int32)} {t_ahead : (Nat → Int32)} {t_against : (Nat → Int32)} {t_sum : (Nat → Int32)} {t_sumBy : (Nat → Int32)} {t_term : (Nat → Int32)} {t_termBy : (Nat → Int32)} {t_byNot : (Nat → Int32)} {t_valueOf : (Nat → Int32)} {t_given : Int32} {t_fresh : Int64} {t_consulsMany : Int32} {t_lines : (Nat → Int32)} {t_lineWhat : (Nat → Int32)} {t_lineA : (Nat → Int32)} {t_lineB : (Nat → Int32)} {t_tolds : (Nat → Int32)} {t_toldDanger : (Nat → Int32)} {t_toldMonths : (Nat → Int32)} {t_toldSize : (Nat → Int32)} {t_aside : (Nat → Int32)} {t_tried : (Nat → Int32)} {t_marked : (Nat → Int32)} {t_undone : (Nat → Int32)} {t_isLaid : (Nat → Int32)} {t_done : Int32} {t_heading : (Nat → Int32)} {t_bestHeading : (Nat → Int32)} {t_leastLeft : Int32} {t_goesTo : (Nat → Int32)} {t_bestGoes : (Nat → Int32)} {t_leastMonths : Int32} {t_g : Int64} {out : (Nat → Int32)} (X : Bx E A p s m args meth c cX13_fresh 2 RX13 none) : ∀ (n : Nat) {t_s : (Nat → Int32)} {x1 : Int32} {H : Heap} {locs : List Loc} {ls : Array Slot}, f_X13_fresh_70 n t_city t_fieldTold t_s x1 = some out → Wd E A s.heap (wX13 E t_o t_q t_thrown t_taped t_tape t_size t_place t_begin t_token t_word t_told t_wrong t_city t_manName t_dangerName t_decreeName t_kind t_skill t_fieldTold t_want t_hates t_restsOn t_sizeTold t_grows t_lineFrom t_lineTo t_codes t_code t_lawLine t_toldLines t_opened t_compared t_kept t_keptBy t_ahead t_against t_sum t_sumBy t_term t_termBy t_byNot t_valueOf t_given t_fresh t_consulsMany t_lines t_lineWhat t_lineA t_lineB t_tolds t_toldDanger t_toldMonths t_toldSize t_s t_aside t_tried t_marked t_undone t_isLaid t_done t_heading t_bestHeading t_leastLeft t_goesTo t_bestGoes t_leastMonths t_g) H locs → lv_has ls 2 [(0, .ref t_o), (1, .int (x1))] → W p l e rm_X13_fresh s m args below meth c H locs 0 0 (Zn E below args s A none (wX13 E t_o t_q t_thrown t_taped t_tape t_size t_place t_begin t_token t_word t_told t_wrong t_city t_manName t_dangerName t_decreeName t_kind t_skill t_fieldTold t_want t_hates t_restsOn t_sizeTold t_grows t_lineFrom t_lineTo t_codes t_code t_lawLine t_toldLines t_opened t_compared t_kept t_keptBy t_ahead t_against t_sum t_sumBy t_term t_termBy t_byNot t_valueOf t_given t_fresh t_consulsMany t_lines t_lineWhat t_lineA t_lineB t_tolds t_toldDanger t_toldMonths t_toldSize out t_aside t_tried t_marked t_undone t_isLaid t_done t_heading t_bestHeading t_leastLeft t_goesTo t_bestGoes t_leastMonths t_g)) (F0 m 70 ls []) := by
  have hx := X.1.1
  have hb := X.1.2.1
  have ho := X.1.2.2.2.1
  have hts := X.1.2.2.2.2
  intro n
  induction n with
  | zero =>
    intro t_s x1 H locs ls hf
    have hf : (none : Option ((Nat → Int32))) = some out := hf
    cases hf
  | succ n ih =>
    intro t_s x1 H locs ls hf hw hl
    rw [f_X13_fresh_70.eq_2] at hf
    refine lv_iload_n hx hb dX13_fresh_70 rfl (lv_at hl 1 rfl) ?_
    refine lv_aload_n hx hb dX13_fresh_71 rfl (lv_at hl 0 rfl) ?_
    refine k_get (q0 := 0) (ci := 11) (C := RX13) (T := TX13) (N := 65) (x := .ref (t_q 10)) X inx_13 hw rfl rfl 10 (by decide) rfl tw_1383 rfl dX13_fresh_72 ?_
    refine lv_iconst (v := (0 : Int32)) hx hb dX13_fresh_75 (by decide) ?_
    obtain ⟨hi_76, hf⟩ := gd_some hf
    refine k_iald (q0 := 2) (n := 10) (f := t_city) X hw rfl hi_76 dX13_fresh_76 ?_
    refine lv_icmp_ge (tgt := 101) hx hb dX13_fresh_77 (by decide) (fun c_77 => ?_) (fun c_77 => ?_)
    · have hf := (if_pos c_77).symm.trans hf
      obtain rfl := Option.some.inj hf
      exact k_vret X hw dX13_fresh_101
    · have hf := (if_neg c_77).symm.trans hf
      refine lv_aload_n hx hb dX13_fresh_80 rfl (lv_at hl 0 rfl) ?_
      refine k_get (q0 := 0) (ci := 11) (C := RX13) (T := TX13) (N := 65) (x := .ref (t_q 51)) X inx_13 hw rfl rfl 51 (by decide) rfl tw_1424 rfl dX13_fresh_81 ?_
      refine lv_bipush (v := (11 : Int32)) hx hb dX13_fresh_84 (by decide) ?_
      refine lv_iload_n hx hb dX13_fresh_86 rfl (lv_at hl 1 rfl) ?_
      refine lv_iadd hx hb dX13_fresh_87 ?_
      refine lv_aload_n hx hb dX13_fresh_88 rfl (lv_at hl 0 rfl) ?_
      refine k_get (q0 := 0) (ci := 11) (C := RX13) (T := TX13) (N := 65) (x := .ref (t_q 16)) X inx_13 hw rfl rfl 16 (by decide) rfl tw_1389 rfl dX13_fresh_89 ?_
      refine lv_iload_n hx hb dX13_fresh_92 rfl (lv_at hl 1 rfl) ?_
      obtain ⟨hi_93, hf⟩ := gd_some hf
      refine k_iald (q0 := 8) (n := 12) (f := t_fieldTold) X hw rfl hi_93 dX13_fresh_93 ?_
      obtain ⟨hi_94, hf⟩ := gd_some hf
      refine k_iast (q0 := 37) (n := 23) (f := t_s) X hw rfl hi_94 dX13_fresh_94 (fun H locs hw => ?_)
      have hw : Wd E A s.heap (wX13 E t_o t_q t_thrown t_taped t_tape t_size t_place t_begin t_token t_word t_told t_wrong t_city t_manName t_dangerName t_decreeName t_kind t_skill t_fieldTold t_want t_hates t_restsOn t_sizeTold t_grows t_lineFrom t_lineTo t_codes t_code t_lawLine t_toldLines t_opened t_compared t_kept t_keptBy t_ahead t_against t_sum t_sumBy t_term t_termBy t_byNot t_valueOf t_given t_fresh t_consulsMany t_lines t_lineWhat t_lineA t_lineB t_tolds t_toldDanger t_toldMonths t_toldSize (upd t_s (((11 : Int32) + x1)).toNatClampNeg ((t_fieldTold (x1).toNatClampNeg))) t_aside t_tried t_marked t_undone t_isLaid t_done t_heading t_bestHeading t_leastLeft t_goesTo t_bestGoes t_leastMonths t_g) H locs := hw
      refine lv_iinc (v := (x1 + (1 : Int32))) (lv' := [(1, .int ((x1 + (1 : Int32)))), (0, .ref t_o)]) hx hb dX13_fresh_95 hl (k := 1) rfl rfl (by decide) rfl (fun ls hl => ?_)
      refine lv_goto (tgt := 70) hx hb dX13_fresh_98 (by decide) ?_
      exact ih hf hw (lv_sub hl [1, 0] rfl)
set_option maxRecDepth 100000 in
set_option maxHeartbeats 4000000 in
theorem kb_X13_fresh_37 {E : En} {p : Program} {l : Launch} {e : Env} {s : State} {m : MethodId} {args : Array Value} {below : List Frame} {meth : Method} {c : Code} {A : Nat → Prop} {t_o : Nat} {t_q : Nat → Nat} {t_thrown : Int32} {t_taped : Int32} {t_tape : (Nat → Int32)} {t_size : Int32} {t_place : Int32} {t_begin : Int32} {t_token : Int32} {t_word : Int64} {t_told : Int32} {t_wrong : Int32} {t_city : (Nat → Int32)} {t_manName : (Nat → Int64)} {t_dangerName : (Nat → Int64)} {t_decreeName : (Nat → Int64)} {t_kind : (Nat → Int32)} {t_skill : (Nat → Int32)} {t_fieldTold : (Nat → Int32)} {t_want : (Nat → Int32)} {t_hates : (Nat → Int32)} {t_restsOn : (Nat → Int32)} {t_sizeTold : (Nat → Int32)} {t_grows : (Nat → Int32)} {t_lineFrom : (Nat → Int32)} {t_lineTo : (Nat → Int32)} {t_codes : (Nat → Int32)} {t_code : Int32} {t_lawLine : Int32} {t_toldLines : Int32} {t_opened : (Nat → Int32)} {t_compared : (Nat → Int32)} {t_kept : (Nat → Int32)} {t_keptBy : (Nat → Int32)} {t_ahead : (Nat → Int32)} {t_against : (Nat → Int32)} {t_sum : (Nat → Int32)} {t_sumBy : (Nat → Int32)} {t_term : (Nat → Int32)} {t_termBy : (Nat → Int32)} {t_byNot : (Nat → Int32)} {t_valueOf : (Nat → Int32)} {t_given : Int32} {t_fresh : Int64} {t_consulsMany : Int32} {t_lines : (Nat → Int32)} {t_lineWhat : (Nat → Int32)} {t_lineA : (Nat → Int32)} {t_lineB : (Nat → Int32)} {t_tolds : (Nat → Int32)} {t_toldDanger : (Nat → Int32)} {t_toldMonths : (Nat → Int32)} {t_toldSize : (Nat → Int32)} {t_aside : (Nat → Int32)} {t_tried : (Nat → Int32)} {t_marked : (Nat → Int32)} {t_undone : (Nat → Int32)} {t_isLaid : (Nat → Int32)} {t_done : Int32} {t_heading : (Nat → Int32)} {t_bestHeading : (Nat → Int32)} {t_leastLeft : Int32} {t_goesTo : (Nat → Int32)} {t_bestGoes : (Nat → Int32)} {t_leastMonths : Int32} {t_g : Int64} {out : (Nat → Int32)} (X : Bx E A p s m args meth c cX13_fresh 2 RX13 none) : ∀ (n : Nat) {t_s : (Nat → Int32)} {x1 : Int32} {H : Heap} {locs : List Loc} {ls : Array Slot}, f_X13_fresh_37 n t_city t_fieldTold t_sizeTold t_s x1 = some out → Wd E A s.heap (wX13 E t_o t_q t_thrown t_taped t_tape t_size t_place t_begin t_token t_word t_told t_wrong t_city t_manName t_dangerName t_decreeName t_kind t_skill t_fieldTold t_want t_hates t_restsOn t_sizeTold t_grows t_lineFrom t_lineTo t_codes t_code t_lawLine t_toldLines t_opened t_compared t_kept t_keptBy t_ahead t_against t_sum t_sumBy t_term t_termBy t_byNot t_valueOf t_given t_fresh t_consulsMany t_lines t_lineWhat t_lineA t_lineB t_tolds t_toldDanger t_toldMonths t_toldSize t_s t_aside t_tried t_marked t_undone t_isLaid t_done t_heading t_bestHeading t_leastLeft t_goesTo t_bestGoes t_leastMonths t_g) H locs → lv_has ls 2 [(0, .ref t_o), (1, .int (x1))] → W p l e rm_X13_fresh s m args below meth c H locs 0 0 (Zn E below args s A none (wX13 E t_o t_q t_thrown t_taped t_tape t_size t_place t_begin t_token t_word t_told t_wrong t_city t_manName t_dangerName t_decreeName t_kind t_skill t_fieldTold t_want t_hates t_restsOn t_sizeTold t_grows t_lineFrom t_lineTo t_codes t_code t_lawLine t_toldLines t_opened t_compared t_kept t_keptBy t_ahead t_against t_sum t_sumBy t_term t_termBy t_byNot t_valueOf t_given t_fresh t_consulsMany t_lines t_lineWhat t_lineA t_lineB t_tolds t_toldDanger t_toldMonths t_toldSize out t_aside t_tried t_marked t_undone t_isLaid t_done t_heading t_bestHeading t_leastLeft t_goesTo t_bestGoes t_leastMonths t_g)) (F0 m 37 ls []) := by
  have hx := X.1.1
  have hb := X.1.2.1
  have ho := X.1.2.2.2.1
  have hts := X.1.2.2.2.2
  intro n
  induction n with
  | zero =>
    intro t_s x1 H locs ls hf
    have hf : (none : Option ((Nat → Int32))) = some out := hf
    cases hf
  | succ n ih =>
    intro t_s x1 H locs ls hf hw hl
    rw [f_X13_fresh_37.eq_2] at hf
    refine lv_iload_n hx hb dX13_fresh_37 rfl (lv_at hl 1 rfl) ?_
    refine lv_aload_n hx hb dX13_fresh_38 rfl (lv_at hl 0 rfl) ?_
    refine k_get (q0 := 0) (ci := 11) (C := RX13) (T := TX13) (N := 65) (x := .ref (t_q 10)) X inx_13 hw rfl rfl 10 (by decide) rfl tw_1383 rfl dX13_fresh_39 ?_
    refine lv_iconst (v := (1 : Int32)) hx hb dX13_fresh_42 (by decide) ?_
    obtain ⟨hi_43, hf⟩ := gd_some hf
    refine k_iald (q0 := 2) (n := 10) (f := t_city) X hw rfl hi_43 dX13_fresh_43 ?_
    refine lv_icmp_ge (tgt := 68) hx hb dX13_fresh_44 (by decide) (fun c_44 => ?_) (fun c_44 => ?_)
    · have hf := (if_pos c_44).symm.trans hf
      refine lv_iconst (v := (0 : Int32)) hx hb dX13_fresh_68 (by decide) ?_
      refine lv_istore_n (lv' := [(1, .int ((0 : Int32))), (0, .ref t_o)]) hx hb dX13_fresh_69 rfl hl (by decide) rfl (fun ls hl => ?_)
      exact kb_X13_fresh_70 X 1100 hf hw (lv_sub hl [1, 0] rfl)
    · have hf := (if_neg c_44).symm.trans hf
      refine lv_aload_n hx hb dX13_fresh_47 rfl (lv_at hl 0 rfl) ?_
      refine k_get (q0 := 0) (ci := 11) (C := RX13) (T := TX13) (N := 65) (x := .ref (t_q 51)) X inx_13 hw rfl rfl 51 (by decide) rfl tw_1424 rfl dX13_fresh_48 ?_
      refine lv_bipush (v := (6 : Int32)) hx hb dX13_fresh_51 (by decide) ?_
      refine lv_iload_n hx hb dX13_fresh_53 rfl (lv_at hl 1 rfl) ?_
      refine lv_iadd hx hb dX13_fresh_54 ?_
      refine lv_aload_n hx hb dX13_fresh_55 rfl (lv_at hl 0 rfl) ?_
      refine k_get (q0 := 0) (ci := 11) (C := RX13) (T := TX13) (N := 65) (x := .ref (t_q 20)) X inx_13 hw rfl rfl 20 (by decide) rfl tw_1393 rfl dX13_fresh_56 ?_
      refine lv_iload_n hx hb dX13_fresh_59 rfl (lv_at hl 1 rfl) ?_
      obtain ⟨hi_60, hf⟩ := gd_some hf
      refine k_iald (q0 := 12) (n := 10) (f := t_sizeTold) X hw rfl hi_60 dX13_fresh_60 ?_
      obtain ⟨hi_61, hf⟩ := gd_some hf
      refine k_iast (q0 := 37) (n := 23) (f := t_s) X hw rfl hi_61 dX13_fresh_61 (fun H locs hw => ?_)
      have hw : Wd E A s.heap (wX13 E t_o t_q t_thrown t_taped t_tape t_size t_place t_begin t_token t_word t_told t_wrong t_city t_manName t_dangerName t_decreeName t_kind t_skill t_fieldTold t_want t_hates t_restsOn t_sizeTold t_grows t_lineFrom t_lineTo t_codes t_code t_lawLine t_toldLines t_opened t_compared t_kept t_keptBy t_ahead t_against t_sum t_sumBy t_term t_termBy t_byNot t_valueOf t_given t_fresh t_consulsMany t_lines t_lineWhat t_lineA t_lineB t_tolds t_toldDanger t_toldMonths t_toldSize (upd t_s (((6 : Int32) + x1)).toNatClampNeg ((t_sizeTold (x1).toNatClampNeg))) t_aside t_tried t_marked t_undone t_isLaid t_done t_heading t_bestHeading t_leastLeft t_goesTo t_bestGoes t_leastMonths t_g) H locs := hw
      refine lv_iinc (v := (x1 + (1 : Int32))) (lv' := [(1, .int ((x1 + (1 : Int32)))), (0, .ref t_o)]) hx hb dX13_fresh_62 hl (k := 1) rfl rfl (by decide) rfl (fun ls hl => ?_)
      refine lv_goto (tgt := 37) hx hb dX13_fresh_65 (by decide) ?_
      exact ih hf hw (lv_sub hl [1, 0] rfl)
set_option maxRecDepth 100000 in
set_option maxHeartbeats 4000000 in
theorem kb_X13_fresh_2 {E : En} {p : Program} {l : Launch} {e : Env} {s : State} {m : MethodId} {args : Array Value} {below : List Frame} {meth : Method} {c : Code} {A : Nat → Prop} {t_o : Nat} {t_q : Nat → Nat} {t_thrown : Int32} {t_taped : Int32} {t_tape : (Nat → Int32)} {t_size : Int32} {t_place : Int32} {t_begin : Int32} {t_token : Int32} {t_word : Int64} {t_told : Int32} {t_wrong : Int32} {t_city : (Nat → Int32)} {t_manName : (Nat → Int64)} {t_dangerName : (Nat → Int64)} {t_decreeName : (Nat → Int64)} {t_kind : (Nat → Int32)} {t_skill : (Nat → Int32)} {t_fieldTold : (Nat → Int32)} {t_want : (Nat → Int32)} {t_hates : (Nat → Int32)} {t_restsOn : (Nat → Int32)} {t_sizeTold : (Nat → Int32)} {t_grows : (Nat → Int32)} {t_lineFrom : (Nat → Int32)} {t_lineTo : (Nat → Int32)} {t_codes : (Nat → Int32)} {t_code : Int32} {t_lawLine : Int32} {t_toldLines : Int32} {t_opened : (Nat → Int32)} {t_compared : (Nat → Int32)} {t_kept : (Nat → Int32)} {t_keptBy : (Nat → Int32)} {t_ahead : (Nat → Int32)} {t_against : (Nat → Int32)} {t_sum : (Nat → Int32)} {t_sumBy : (Nat → Int32)} {t_term : (Nat → Int32)} {t_termBy : (Nat → Int32)} {t_byNot : (Nat → Int32)} {t_valueOf : (Nat → Int32)} {t_given : Int32} {t_fresh : Int64} {t_consulsMany : Int32} {t_lines : (Nat → Int32)} {t_lineWhat : (Nat → Int32)} {t_lineA : (Nat → Int32)} {t_lineB : (Nat → Int32)} {t_tolds : (Nat → Int32)} {t_toldDanger : (Nat → Int32)} {t_toldMonths : (Nat → Int32)} {t_toldSize : (Nat → Int32)} {t_aside : (Nat → Int32)} {t_tried : (Nat → Int32)} {t_marked : (Nat → Int32)} {t_undone : (Nat → Int32)} {t_isLaid : (Nat → Int32)} {t_done : Int32} {t_heading : (Nat → Int32)} {t_bestHeading : (Nat → Int32)} {t_leastLeft : Int32} {t_goesTo : (Nat → Int32)} {t_bestGoes : (Nat → Int32)} {t_leastMonths : Int32} {t_g : Int64} {out : (Nat → Int32)} (X : Bx E A p s m args meth c cX13_fresh 2 RX13 none) : ∀ (n : Nat) {t_s : (Nat → Int32)} {x1 : Int32} {H : Heap} {locs : List Loc} {ls : Array Slot}, f_X13_fresh_2 n t_city t_fieldTold t_sizeTold t_s x1 = some out → Wd E A s.heap (wX13 E t_o t_q t_thrown t_taped t_tape t_size t_place t_begin t_token t_word t_told t_wrong t_city t_manName t_dangerName t_decreeName t_kind t_skill t_fieldTold t_want t_hates t_restsOn t_sizeTold t_grows t_lineFrom t_lineTo t_codes t_code t_lawLine t_toldLines t_opened t_compared t_kept t_keptBy t_ahead t_against t_sum t_sumBy t_term t_termBy t_byNot t_valueOf t_given t_fresh t_consulsMany t_lines t_lineWhat t_lineA t_lineB t_tolds t_toldDanger t_toldMonths t_toldSize t_s t_aside t_tried t_marked t_undone t_isLaid t_done t_heading t_bestHeading t_leastLeft t_goesTo t_bestGoes t_leastMonths t_g) H locs → lv_has ls 2 [(0, .ref t_o), (1, .int (x1))] → W p l e rm_X13_fresh s m args below meth c H locs 0 0 (Zn E below args s A none (wX13 E t_o t_q t_thrown t_taped t_tape t_size t_place t_begin t_token t_word t_told t_wrong t_city t_manName t_dangerName t_decreeName t_kind t_skill t_fieldTold t_want t_hates t_restsOn t_sizeTold t_grows t_lineFrom t_lineTo t_codes t_code t_lawLine t_toldLines t_opened t_compared t_kept t_keptBy t_ahead t_against t_sum t_sumBy t_term t_termBy t_byNot t_valueOf t_given t_fresh t_consulsMany t_lines t_lineWhat t_lineA t_lineB t_tolds t_toldDanger t_toldMonths t_toldSize out t_aside t_tried t_marked t_undone t_isLaid t_done t_heading t_bestHeading t_leastLeft t_goesTo t_bestGoes t_leastMonths t_g)) (F0 m 2 ls []) := by
  have hx := X.1.1
  have hb := X.1.2.1
  have ho := X.1.2.2.2.1
  have hts := X.1.2.2.2.2
  intro n
  induction n with
  | zero =>
    intro t_s x1 H locs ls hf
    have hf : (none : Option ((Nat → Int32))) = some out := hf
    cases hf
  | succ n ih =>
    intro t_s x1 H locs ls hf hw hl
    rw [f_X13_fresh_2.eq_2] at hf
    refine lv_iload_n hx hb dX13_fresh_2 rfl (lv_at hl 1 rfl) ?_
    refine lv_bipush (v := (23 : Int32)) hx hb dX13_fresh_3 (by decide) ?_
    refine lv_icmp_ge (tgt := 21) hx hb dX13_fresh_5 (by decide) (fun c_5 => ?_) (fun c_5 => ?_)
    · have hf := (if_pos c_5).symm.trans hf
      refine lv_aload_n hx hb dX13_fresh_21 rfl (lv_at hl 0 rfl) ?_
      refine k_get (q0 := 0) (ci := 11) (C := RX13) (T := TX13) (N := 65) (x := .ref (t_q 51)) X inx_13 hw rfl rfl 51 (by decide) rfl tw_1424 rfl dX13_fresh_22 ?_
      refine lv_iconst (v := (1 : Int32)) hx hb dX13_fresh_25 (by decide) ?_
      refine lv_iconst (v := (-1 : Int32)) hx hb dX13_fresh_26 (by decide) ?_
      obtain ⟨hi_27, hf⟩ := gd_some hf
      refine k_iast (q0 := 37) (n := 23) (f := t_s) X hw rfl hi_27 dX13_fresh_27 (fun H locs hw => ?_)
      have hw : Wd E A s.heap (wX13 E t_o t_q t_thrown t_taped t_tape t_size t_place t_begin t_token t_word t_told t_wrong t_city t_manName t_dangerName t_decreeName t_kind t_skill t_fieldTold t_want t_hates t_restsOn t_sizeTold t_grows t_lineFrom t_lineTo t_codes t_code t_lawLine t_toldLines t_opened t_compared t_kept t_keptBy t_ahead t_against t_sum t_sumBy t_term t_termBy t_byNot t_valueOf t_given t_fresh t_consulsMany t_lines t_lineWhat t_lineA t_lineB t_tolds t_toldDanger t_toldMonths t_toldSize (upd t_s ((1 : Int32)).toNatClampNeg ((-1 : Int32))) t_aside t_tried t_marked t_undone t_isLaid t_done t_heading t_bestHeading t_leastLeft t_goesTo t_bestGoes t_leastMonths t_g) H locs := hw
      refine lv_aload_n hx hb dX13_fresh_28 rfl (lv_at hl 0 rfl) ?_
      refine k_get (q0 := 0) (ci := 11) (C := RX13) (T := TX13) (N := 65) (x := .ref (t_q 51)) X inx_13 hw rfl rfl 51 (by decide) rfl tw_1424 rfl dX13_fresh_29 ?_
      refine lv_iconst (v := (2 : Int32)) hx hb dX13_fresh_32 (by decide) ?_
      refine lv_iconst (v := (-1 : Int32)) hx hb dX13_fresh_33 (by decide) ?_
      obtain ⟨hi_34, hf⟩ := gd_some hf
      refine k_iast (q0 := 37) (n := 23) (f := (upd t_s ((1 : Int32)).toNatClampNeg ((-1 : Int32)))) X hw rfl hi_34 dX13_fresh_34 (fun H locs hw => ?_)
      have hw : Wd E A s.heap (wX13 E t_o t_q t_thrown t_taped t_tape t_size t_place t_begin t_token t_word t_told t_wrong t_city t_manName t_dangerName t_decreeName t_kind t_skill t_fieldTold t_want t_hates t_restsOn t_sizeTold t_grows t_lineFrom t_lineTo t_codes t_code t_lawLine t_toldLines t_opened t_compared t_kept t_keptBy t_ahead t_against t_sum t_sumBy t_term t_termBy t_byNot t_valueOf t_given t_fresh t_consulsMany t_lines t_lineWhat t_lineA t_lineB t_tolds t_toldDanger t_toldMonths t_toldSize (upd (upd t_s ((1 : Int32)).toNatClampNeg ((-1 : Int32))) ((2 : Int32)).toNatClampNeg ((-1 : Int32))) t_aside t_tried t_marked t_undone t_isLaid t_done t_heading t_bestHeading t_leastLeft t_goesTo t_bestGoes t_leastMonths t_g) H locs := hw
      refine lv_iconst (v := (0 : Int32)) hx hb dX13_fresh_35 (by decide) ?_
      refine lv_istore_n (lv' := [(1, .int ((0 : Int32))), (0, .ref t_o)]) hx hb dX13_fresh_36 rfl hl (by decide) rfl (fun ls hl => ?_)
      exact kb_X13_fresh_37 X 1100 hf hw (lv_sub hl [1, 0] rfl)
    · have hf := (if_neg c_5).symm.trans hf
      refine lv_aload_n hx hb dX13_fresh_8 rfl (lv_at hl 0 rfl) ?_
      refine k_get (q0 := 0) (ci := 11) (C := RX13) (T := TX13) (N := 65) (x := .ref (t_q 51)) X inx_13 hw rfl rfl 51 (by decide) rfl tw_1424 rfl dX13_fresh_9 ?_
      refine lv_iload_n hx hb dX13_fresh_12 rfl (lv_at hl 1 rfl) ?_
      refine lv_iconst (v := (0 : Int32)) hx hb dX13_fresh_13 (by decide) ?_
      obtain ⟨hi_14, hf⟩ := gd_some hf
      refine k_iast (q0 := 37) (n := 23) (f := t_s) X hw rfl hi_14 dX13_fresh_14 (fun H locs hw => ?_)
      have hw : Wd E A s.heap (wX13 E t_o t_q t_thrown t_taped t_tape t_size t_place t_begin t_token t_word t_told t_wrong t_city t_manName t_dangerName t_decreeName t_kind t_skill t_fieldTold t_want t_hates t_restsOn t_sizeTold t_grows t_lineFrom t_lineTo t_codes t_code t_lawLine t_toldLines t_opened t_compared t_kept t_keptBy t_ahead t_against t_sum t_sumBy t_term t_termBy t_byNot t_valueOf t_given t_fresh t_consulsMany t_lines t_lineWhat t_lineA t_lineB t_tolds t_toldDanger t_toldMonths t_toldSize (upd t_s (x1).toNatClampNeg ((0 : Int32))) t_aside t_tried t_marked t_undone t_isLaid t_done t_heading t_bestHeading t_leastLeft t_goesTo t_bestGoes t_leastMonths t_g) H locs := hw
      refine lv_iinc (v := (x1 + (1 : Int32))) (lv' := [(1, .int ((x1 + (1 : Int32)))), (0, .ref t_o)]) hx hb dX13_fresh_15 hl (k := 1) rfl rfl (by decide) rfl (fun ls hl => ?_)
      refine lv_goto (tgt := 2) hx hb dX13_fresh_18 (by decide) ?_
      exact ih hf hw (lv_sub hl [1, 0] rfl)
set_option maxRecDepth 100000 in
set_option maxHeartbeats 4000000 in
theorem c_X13_fresh {E : En} {l : Launch} {t_o : Nat} {t_q : Nat → Nat} {t_thrown : Int32} {t_taped : Int32} {t_tape : (Nat → Int32)} {t_size : Int32} {t_place : Int32} {t_begin : Int32} {t_token : Int32} {t_word : Int64} {t_told : Int32} {t_wrong : Int32} {t_city : (Nat → Int32)} {t_manName : (Nat → Int64)} {t_dangerName : (Nat → Int64)} {t_decreeName : (Nat → Int64)} {t_kind : (Nat → Int32)} {t_skill : (Nat → Int32)} {t_fieldTold : (Nat → Int32)} {t_want : (Nat → Int32)} {t_hates : (Nat → Int32)} {t_restsOn : (Nat → Int32)} {t_sizeTold : (Nat → Int32)} {t_grows : (Nat → Int32)} {t_lineFrom : (Nat → Int32)} {t_lineTo : (Nat → Int32)} {t_codes : (Nat → Int32)} {t_code : Int32} {t_lawLine : Int32} {t_toldLines : Int32} {t_opened : (Nat → Int32)} {t_compared : (Nat → Int32)} {t_kept : (Nat → Int32)} {t_keptBy : (Nat → Int32)} {t_ahead : (Nat → Int32)} {t_against : (Nat → Int32)} {t_sum : (Nat → Int32)} {t_sumBy : (Nat → Int32)} {t_term : (Nat → Int32)} {t_termBy : (Nat → Int32)} {t_byNot : (Nat → Int32)} {t_valueOf : (Nat → Int32)} {t_given : Int32} {t_fresh : Int64} {t_consulsMany : Int32} {t_lines : (Nat → Int32)} {t_lineWhat : (Nat → Int32)} {t_lineA : (Nat → Int32)} {t_lineB : (Nat → Int32)} {t_tolds : (Nat → Int32)} {t_toldDanger : (Nat → Int32)} {t_toldMonths : (Nat → Int32)} {t_toldSize : (Nat → Int32)} {t_s : (Nat → Int32)} {t_aside : (Nat → Int32)} {t_tried : (Nat → Int32)} {t_marked : (Nat → Int32)} {t_undone : (Nat → Int32)} {t_isLaid : (Nat → Int32)} {t_done : Int32} {t_heading : (Nat → Int32)} {t_bestHeading : (Nat → Int32)} {t_leastLeft : Int32} {t_goesTo : (Nat → Int32)} {t_bestGoes : (Nat → Int32)} {t_leastMonths : Int32} {t_g : Int64}  {out : (Nat → Int32)} (hf : f_X13_fresh t_city t_fieldTold t_sizeTold t_s = some out) : Cn E l yX13_fresh cX13_fresh 2 none rm_X13_fresh [.ref t_o] (wX13 E t_o t_q t_thrown t_taped t_tape t_size t_place t_begin t_token t_word t_told t_wrong t_city t_manName t_dangerName t_decreeName t_kind t_skill t_fieldTold t_want t_hates t_restsOn t_sizeTold t_grows t_lineFrom t_lineTo t_codes t_code t_lawLine t_toldLines t_opened t_compared t_kept t_keptBy t_ahead t_against t_sum t_sumBy t_term t_termBy t_byNot t_valueOf t_given t_fresh t_consulsMany t_lines t_lineWhat t_lineA t_lineB t_tolds t_toldDanger t_toldMonths t_toldSize t_s t_aside t_tried t_marked t_undone t_isLaid t_done t_heading t_bestHeading t_leastLeft t_goesTo t_bestGoes t_leastMonths t_g) none (wX13 E t_o t_q t_thrown t_taped t_tape t_size t_place t_begin t_token t_word t_told t_wrong t_city t_manName t_dangerName t_decreeName t_kind t_skill t_fieldTold t_want t_hates t_restsOn t_sizeTold t_grows t_lineFrom t_lineTo t_codes t_code t_lawLine t_toldLines t_opened t_compared t_kept t_keptBy t_ahead t_against t_sum t_sumBy t_term t_termBy t_byNot t_valueOf t_given t_fresh t_consulsMany t_lines t_lineWhat t_lineA t_lineB t_tolds t_toldDanger t_toldMonths t_toldSize out t_aside t_tried t_marked t_undone t_isLaid t_done t_heading t_bestHeading t_leastLeft t_goesTo t_bestGoes t_leastMonths t_g) := by
  refine Cn.of (by decide) (Nat.le_of_ble_eq_true rfl) rfl ?_
  intro p e s m below meth c A ls args H locs X hw hl
  have hx := X.1.1
  have hb := X.1.2.1
  have ho := X.1.2.2.2.1
  have hts := X.1.2.2.2.2
  have hl : lv_has ls 2 [(0, .ref t_o)] := hl
  unfold f_X13_fresh at hf
  refine lv_iconst (v := (0 : Int32)) hx hb dX13_fresh_0 (by decide) ?_
  refine lv_istore_n (lv' := [(1, .int ((0 : Int32))), (0, .ref t_o)]) hx hb dX13_fresh_1 rfl hl (by decide) rfl (fun ls hl => ?_)
  exact kb_X13_fresh_2 X 1100 hf hw (lv_sub hl [1, 0] rfl)
/-! public int city(); -/
def f_X13_city_46 : Nat → Int32 → Int32 → Int32 → Int32 → Int32 → Int32 → Int64 → Int32 → Int32 → (Nat → Int32) → (Nat → Int64) → (Nat → Int64) → (Nat → Int64) → (Nat → Int32) → (Nat → Int32) → (Nat → Int32) → (Nat → Int32) → (Nat → Int32) → (Nat → Int32) → (Nat → Int32) → (Nat → Int32) → (Nat → Int32) → (Nat → Int32) → (Nat → Int32) → Int32 → Int32 → Int32 → (Nat → Int32) → (Nat → Int32) → Int32 → Int64 → Int32 → (Nat → Int32) → (Nat → Int32) → (Nat → Int32) → (Nat → Int32) → Int32 → Int32 → Option (Int32 × Int32 × Int32 × Int32 × Int32 × Int32 × Int32 × Int64 × Int32 × Int32 × (Nat → Int32) × (Nat → Int64) × (Nat → Int64) × (Nat → Int64) × (Nat → Int32) × (Nat → Int32) × (Nat → Int32) × (Nat → Int32) × (Nat → Int32) × (Nat → Int32) × (Nat → Int32) × (Nat → Int32) × (Nat → Int32) × (Nat → Int32) × (Nat → Int32) × Int32 × Int32 × Int32 × (Nat → Int32) × (Nat → Int32) × Int32 × Int64 × Int32 × (Nat → Int32) × (Nat → Int32) × (Nat → Int32) × (Nat → Int32) × Int32)
  | 0, _, _, _, _, _, _, _, _, _, _, _, _, _, _, _, _, _, _, _, _, _, _, _, _, _, _, _, _, _, _, _, _, _, _, _, _, _, _ => none
  | n + 1, t_thrown, t_taped, t_size, t_place, t_begin, t_token, t_word, t_told, t_wrong, t_city, t_manName, t_dangerName, t_decreeName, t_kind, t_skill, t_fieldTold, t_want, t_hates, t_restsOn, t_sizeTold, t_grows, t_lineFrom, t_lineTo, t_codes, t_code, t_lawLine, t_toldLines, t_opened, t_compared, t_given, t_fresh, t_consulsMany, t_lines, t_tolds, t_s, t_isLaid, t_done, x1 => if (4 : Int32) ≤ x1 then some ((0 : Int32), t_thrown, t_taped, t_size, t_place, t_begin, t_token, t_word, t_told, t_wrong, t_city, t_manName, t_dangerName, t_decreeName, t_kind, t_skill, t_fieldTold, t_want, t_hates, t_restsOn, t_sizeTold, t_grows, t_lineFrom, t_lineTo, t_codes, t_code, t_lawLine, t_toldLines, t_opened, t_compared, t_given, t_fresh, t_consulsMany, t_lines, t_tolds, t_s, t_isLaid, t_done)
    else gd (x1) 4 (f_X13_city_46 n t_thrown t_taped t_size t_place t_begin t_token t_word t_told t_wrong t_city t_manName t_dangerName t_decreeName t_kind t_skill t_fieldTold t_want t_hates t_restsOn t_sizeTold t_grows t_lineFrom t_lineTo t_codes t_code t_lawLine t_toldLines t_opened t_compared t_given t_fresh t_consulsMany t_lines t_tolds t_s (upd t_isLaid (x1).toNatClampNeg (vp_nar .boolean ((0 : Int32)))) t_done ((x1 + (1 : Int32))))
def f_X13_city (t_taped : Int32) (t_tape : (Nat → Int32)) (t_wrong : Int32) (t_city : (Nat → Int32)) (t_manName : (Nat → Int64)) (t_dangerName : (Nat → Int64)) (t_decreeName : (Nat → Int64)) (t_kind : (Nat → Int32)) (t_skill : (Nat → Int32)) (t_fieldTold : (Nat → Int32)) (t_want : (Nat → Int32)) (t_hates : (Nat → Int32)) (t_restsOn : (Nat → Int32)) (t_sizeTold : (Nat → Int32)) (t_grows : (Nat → Int32)) (t_lineFrom : (Nat → Int32)) (t_lineTo : (Nat → Int32)) (t_codes : (Nat → Int32)) (t_lawLine : Int32) (t_opened : (Nat → Int32)) (t_compared : (Nat → Int32)) (t_given : Int32) (t_fresh : Int64) (t_lines : (Nat → Int32)) (t_tolds : (Nat → Int32)) (t_s : (Nat → Int32)) (t_isLaid : (Nat → Int32)) (t_done : Int32) : Option (Int32 × Int32 × Int32 × Int32 × Int32 × Int32 × Int32 × Int64 × Int32 × Int32 × (Nat → Int32) × (Nat → Int64) × (Nat → Int64) × (Nat → Int64) × (Nat → Int32) × (Nat → Int32) × (Nat → Int32) × (Nat → Int32) × (Nat → Int32) × (Nat → Int32) × (Nat → Int32) × (Nat → Int32) × (Nat → Int32) × (Nat → Int32) × (Nat → Int32) × Int32 × Int32 × Int32 × (Nat → Int32) × (Nat → Int32) × Int32 × Int64 × Int32 × (Nat → Int32) × (Nat → Int32) × (Nat → Int32) × (Nat → Int32) × Int32) := (f_X13_readsAll t_taped t_tape t_wrong t_city t_manName t_dangerName t_decreeName t_kind t_skill t_fieldTold t_want t_hates t_restsOn t_sizeTold t_grows t_lineFrom t_lineTo t_codes t_lawLine t_opened t_compared t_given t_fresh).bind fun r6 => if r6.1 = (0 : Int32) then some (r6.2.2.2.2.2.2.2.2.1, (0 : Int32), r6.2.1, r6.2.2.1, r6.2.2.2.1, r6.2.2.2.2.1, r6.2.2.2.2.2.1, r6.2.2.2.2.2.2.1, r6.2.2.2.2.2.2.2.1, r6.2.2.2.2.2.2.2.2.1, r6.2.2.2.2.2.2.2.2.2.1, r6.2.2.2.2.2.2.2.2.2.2.1, r6.2.2.2.2.2.2.2.2.2.2.2.1, r6.2.2.2.2.2.2.2.2.2.2.2.2.1, r6.2.2.2.2.2.2.2.2.2.2.2.2.2.1, r6.2.2.2.2.2.2.2.2.2.2.2.2.2.2.1, r6.2.2.2.2.2.2.2.2.2.2.2.2.2.2.2.1, r6.2.2.2.2.2.2.2.2.2.2.2.2.2.2.2.2.1, r6.2.2.2.2.2.2.2.2.2.2.2.2.2.2.2.2.2.1, r6.2.2.2.2.2.2.2.2.2.2.2.2.2.2.2.2.2.2.1, r6.2.2.2.2.2.2.2.2.2.2.2.2.2.2.2.2.2.2.2.1, r6.2.2.2.2.2.2.2.2.2.2.2.2.2.2.2.2.2.2.2.2.1, r6.2.2.2.2.2.2.2.2.2.2.2.2.2.2.2.2.2.2.2.2.2.1, r6.2.2.2.2.2.2.2.2.2.2.2.2.2.2.2.2.2.2.2.2.2.2.1, r6.2.2.2.2.2.2.2.2.2.2.2.2.2.2.2.2.2.2.2.2.2.2.2.1, r6.2.2.2.2.2.2.2.2.2.2.2.2.2.2.2.2.2.2.2.2.2.2.2.2.1, r6.2.2.2.2.2.2.2.2.2.2.2.2.2.2.2.2.2.2.2.2.2.2.2.2.2.1, r6.2.2.2.2.2.2.2.2.2.2.2.2.2.2.2.2.2.2.2.2.2.2.2.2.2.2.1, r6.2.2.2.2.2.2.2.2.2.2.2.2.2.2.2.2.2.2.2.2.2.2.2.2.2.2.2.1, r6.2.2.2.2.2.2.2.2.2.2.2.2.2.2.2.2.2.2.2.2.2.2.2.2.2.2.2.2.1, r6.2.2.2.2.2.2.2.2.2.2.2.2.2.2.2.2.2.2.2.2.2.2.2.2.2.2.2.2.2.1, r6.2.2.2.2.2.2.2.2.2.2.2.2.2.2.2.2.2.2.2.2.2.2.2.2.2.2.2.2.2.2.1, r6.2.2.2.2.2.2.2.2.2.2.2.2.2.2.2.2.2.2.2.2.2.2.2.2.2.2.2.2.2.2.2, t_lines, t_tolds, t_s, t_isLaid, t_done)
  else (f_X13_lays r6.2.2.2.2.2.2.2.2.2.1 r6.2.2.2.2.2.2.2.2.2.2.1 r6.2.2.2.2.2.2.2.2.2.2.2.1 r6.2.2.2.2.2.2.2.2.2.2.2.2.1 r6.2.2.2.2.2.2.2.2.2.2.2.2.2.1 r6.2.2.2.2.2.2.2.2.2.2.2.2.2.2.1 r6.2.2.2.2.2.2.2.2.2.2.2.2.2.2.2.1 r6.2.2.2.2.2.2.2.2.2.2.2.2.2.2.2.2.1 r6.2.2.2.2.2.2.2.2.2.2.2.2.2.2.2.2.2.1 r6.2.2.2.2.2.2.2.2.2.2.2.2.2.2.2.2.2.2.1 r6.2.2.2.2.2.2.2.2.2.2.2.2.2.2.2.2.2.2.2.1 r6.2.2.2.2.2.2.2.2.2.2.2.2.2.2.2.2.2.2.2.2.1 r6.2.2.2.2.2.2.2.2.2.2.2.2.2.2.2.2.2.2.2.2.2.1 r6.2.2.2.2.2.2.2.2.2.2.2.2.2.2.2.2.2.2.2.2.2.2.1 r6.2.2.2.2.2.2.2.2.2.2.2.2.2.2.2.2.2.2.2.2.2.2.2.1).bind fun r18 => (f_X13_fresh r18.1 r18.2.2.2.2.2.2.1 r18.2.2.2.2.2.2.2.2.2.2.1 t_s).bind fun r22 => gd ((0 : Int32)) 6 (gd ((0 : Int32)) 5 (f_X13_city_46 1100 ((0 : Int32)) r6.2.1 r6.2.2.1 r6.2.2.2.1 r6.2.2.2.2.1 r6.2.2.2.2.2.1 r6.2.2.2.2.2.2.1 r6.2.2.2.2.2.2.2.1 r6.2.2.2.2.2.2.2.2.1 r18.1 r18.2.1 r18.2.2.1 r18.2.2.2.1 r18.2.2.2.2.1 r18.2.2.2.2.2.1 r18.2.2.2.2.2.2.1 r18.2.2.2.2.2.2.2.1 r18.2.2.2.2.2.2.2.2.1 r18.2.2.2.2.2.2.2.2.2.1 r18.2.2.2.2.2.2.2.2.2.2.1 r18.2.2.2.2.2.2.2.2.2.2.2.1 r18.2.2.2.2.2.2.2.2.2.2.2.2.1 r18.2.2.2.2.2.2.2.2.2.2.2.2.2.1 r18.2.2.2.2.2.2.2.2.2.2.2.2.2.2 r6.2.2.2.2.2.2.2.2.2.2.2.2.2.2.2.2.2.2.2.2.2.2.2.2.1 r6.2.2.2.2.2.2.2.2.2.2.2.2.2.2.2.2.2.2.2.2.2.2.2.2.2.1 r6.2.2.2.2.2.2.2.2.2.2.2.2.2.2.2.2.2.2.2.2.2.2.2.2.2.2.1 r6.2.2.2.2.2.2.2.2.2.2.2.2.2.2.2.2.2.2.2.2.2.2.2.2.2.2.2.1 r6.2.2.2.2.2.2.2.2.2.2.2.2.2.2.2.2.2.2.2.2.2.2.2.2.2.2.2.2.1 r6.2.2.2.2.2.2.2.2.2.2.2.2.2.2.2.2.2.2.2.2.2.2.2.2.2.2.2.2.2.1 r6.2.2.2.2.2.2.2.2.2.2.2.2.2.2.2.2.2.2.2.2.2.2.2.2.2.2.2.2.2.2.1 r6.2.2.2.2.2.2.2.2.2.2.2.2.2.2.2.2.2.2.2.2.2.2.2.2.2.2.2.2.2.2.2 (upd t_lines ((0 : Int32)).toNatClampNeg ((0 : Int32))) (upd t_tolds ((0 : Int32)).toNatClampNeg ((0 : Int32))) r22 t_isLaid ((0 : Int32)) ((0 : Int32))))
abbrev rm_X13_city : Room := { frames := 6, cells := 0, slots := 0, locals := 130 }
theorem hd_X13_city : yX13_city.cls = RX13 ∧ yX13_city.cls ≠ "java/lang/invoke/MethodHandle" ∧ yX13_city.cls ≠ "java/lang/invoke/VarHandle" ∧ (parseMethodDescriptor yX13_city.desc).map (fun d => d.parameters.length) = some 0 := by decide +kernel
set_option maxRecDepth 100000 in
set_option maxHeartbeats 4000000 in
theorem kb_X13_city_46 {E : En} {p : Program} {l : Launch} {e : Env} {s : State} {m : MethodId} {args : Array Value} {below : List Frame} {meth : Method} {c : Code} {A : Nat → Prop} {t_o : Nat} {t_q : Nat → Nat} {t_tape : (Nat → Int32)} {t_kept : (Nat → Int32)} {t_keptBy : (Nat → Int32)} {t_ahead : (Nat → Int32)} {t_against : (Nat → Int32)} {t_sum : (Nat → Int32)} {t_sumBy : (Nat → Int32)} {t_term : (Nat → Int32)} {t_termBy : (Nat → Int32)} {t_byNot : (Nat → Int32)} {t_valueOf : (Nat → Int32)} {t_lineWhat : (Nat → Int32)} {t_lineA : (Nat → Int32)} {t_lineB : (Nat → Int32)} {t_toldDanger : (Nat → Int32)} {t_toldMonths : (Nat → Int32)} {t_toldSize : (Nat → Int32)} {t_aside : (Nat → Int32)} {t_tried : (Nat → Int32)} {t_marked : (Nat → Int32)} {t_undone : (Nat → Int32)} {t_heading : (Nat → Int32)} {t_bestHeading : (Nat → Int32)} {t_leastLeft : Int32} {t_goesTo : (Nat → Int32)} {t_bestGoes : (Nat → Int32)} {t_leastMonths : Int32} {t_g : Int64} {out : Int32 × Int32 × Int32 × Int32 × Int32 × Int32 × Int32 × Int64 × Int32 × Int32 × (Nat → Int32) × (Nat → Int64) × (Nat → Int64) × (Nat → Int64) × (Nat → Int32) × (Nat → Int32) × (Nat → Int32) × (Nat → Int32) × (Nat → Int32) × (Nat → Int32) × (Nat → Int32) × (Nat → Int32) × (Nat → Int32) × (Nat → Int32) × (Nat → Int32) × Int32 × Int32 × Int32 × (Nat → Int32) × (Nat → Int32) × Int32 × Int64 × Int32 × (Nat → Int32) × (Nat → Int32) × (Nat → Int32) × (Nat → Int32) × Int32} (X : Bx E A p s m args meth c cX13_city 2 RX13 (some .int)) : ∀ (n : Nat) {t_thrown : Int32} {t_taped : Int32} {t_size : Int32} {t_place : Int32} {t_begin : Int32} {t_token : Int32} {t_word : Int64} {t_told : Int32} {t_wrong : Int32} {t_city : (Nat → Int32)} {t_manName : (Nat → Int64)} {t_dangerName : (Nat → Int64)} {t_decreeName : (Nat → Int64)} {t_kind : (Nat → Int32)} {t_skill : (Nat → Int32)} {t_fieldTold : (Nat → Int32)} {t_want : (Nat → Int32)} {t_hates : (Nat → Int32)} {t_restsOn : (Nat → Int32)} {t_sizeTold : (Nat → Int32)} {t_grows : (Nat → Int32)} {t_lineFrom : (Nat → Int32)} {t_lineTo : (Nat → Int32)} {t_codes : (Nat → Int32)} {t_code : Int32} {t_lawLine : Int32} {t_toldLines : Int32} {t_opened : (Nat → Int32)} {t_compared : (Nat → Int32)} {t_given : Int32} {t_fresh : Int64} {t_consulsMany : Int32} {t_lines : (Nat → Int32)} {t_tolds : (Nat → Int32)} {t_s : (Nat → Int32)} {t_isLaid : (Nat → Int32)} {t_done : Int32} {x1 : Int32} {H : Heap} {locs : List Loc} {ls : Array Slot}, f_X13_city_46 n t_thrown t_taped t_size t_place t_begin t_token t_word t_told t_wrong t_city t_manName t_dangerName t_decreeName t_kind t_skill t_fieldTold t_want t_hates t_restsOn t_sizeTold t_grows t_lineFrom t_lineTo t_codes t_code t_lawLine t_toldLines t_opened t_compared t_given t_fresh t_consulsMany t_lines t_tolds t_s t_isLaid t_done x1 = some out → Wd E A s.heap (wX13 E t_o t_q t_thrown t_taped t_tape t_size t_place t_begin t_token t_word t_told t_wrong t_city t_manName t_dangerName t_decreeName t_kind t_skill t_fieldTold t_want t_hates t_restsOn t_sizeTold t_grows t_lineFrom t_lineTo t_codes t_code t_lawLine t_toldLines t_opened t_compared t_kept t_keptBy t_ahead t_against t_sum t_sumBy t_term t_termBy t_byNot t_valueOf t_given t_fresh t_consulsMany t_lines t_lineWhat t_lineA t_lineB t_tolds t_toldDanger t_toldMonths t_toldSize t_s t_aside t_tried t_marked t_undone t_isLaid t_done t_heading t_bestHeading t_leastLeft t_goesTo t_bestGoes t_leastMonths t_g) H locs → lv_has ls 2 [(0, .ref t_o), (1, .int (x1))] → W p l e rm_X13_city s m args below meth c H locs 0 0 (Zn E below args s A (some (.int out.1)) (wX13 E t_o t_q out.2.1 out.2.2.1 t_tape out.2.2.2.1 out.2.2.2.2.1 out.2.2.2.2.2.1 out.2.2.2.2.2.2.1 out.2.2.2.2.2.2.2.1 out.2.2.2.2.2.2.2.2.1 out.2.2.2.2.2.2.2.2.2.1 out.2.2.2.2.2.2.2.2.2.2.1 out.2.2.2.2.2.2.2.2.2.2.2.1 out.2.2.2.2.2.2.2.2.2.2.2.2.1 out.2.2.2.2.2.2.2.2.2.2.2.2.2.1 out.2.2.2.2.2.2.2.2.2.2.2.2.2.2.1 out.2.2.2.2.2.2.2.2.2.2.2.2.2.2.2.1 out.2.2.2.2.2.2.2.2.2.2.2.2.2.2.2.2.1 out.2.2.2.2.2.2.2.2.2.2.2.2.2.2.2.2.2.1 out.2.2.2.2.2.2.2.2.2.2.2.2.2.2.2.2.2.2.1 out.2.2.2.2.2.2.2.2.2.2.2.2.2.2.2.2.2.2.2.1 out.2.2.2.2.2.2.2.2.2.2.2.2.2.2.2.2.2.2.2.2.1 out.2.2.2.2.2.2.2.2.2.2.2.2.2.2.2.2.2.2.2.2.2.1 out.2.2.2.2.2.2.2.2.2.2.2.2.2.2.2.2.2.2.2.2.2.2.1 out.2.2.2.2.2.2.2.2.2.2.2.2.2.2.2.2.2.2.2.2.2.2.2.1 out.2.2.2.2.2.2.2.2.2.2.2.2.2.2.2.2.2.2.2.2.2.2.2.2.1 out.2.2.2.2.2.2.2.2.2.2.2.2.2.2.2.2.2.2.2.2.2.2.2.2.2.1 out.2.2.2.2.2.2.2.2.2.2.2.2.2.2.2.2.2.2.2.2.2.2.2.2.2.2.1 out.2.2.2.2.2.2.2.2.2.2.2.2.2.2.2.2.2.2.2.2.2.2.2.2.2.2.2.1 out.2.2.2.2.2.2.2.2.2.2.2.2.2.2.2.2.2.2.2.2.2.2.2.2.2.2.2.2.1 out.2.2.2.2.2.2.2.2.2.2.2.2.2.2.2.2.2.2.2.2.2.2.2.2.2.2.2.2.2.1 t_kept t_keptBy t_ahead t_against t_sum t_sumBy t_term t_termBy t_byNot t_valueOf out.2.2.2.2.2.2.2.2.2.2.2.2.2.2.2.2.2.2.2.2.2.2.2.2.2.2.2.2.2.2.1 out.2.2.2.2.2.2.2.2.2.2.2.2.2.2.2.2.2.2.2.2.2.2.2.2.2.2.2.2.2.2.2.1 out.2.2.2.2.2.2.2.2.2.2.2.2.2.2.2.2.2.2.2.2.2.2.2.2.2.2.2.2.2.2.2.2.1 out.2.2.2.2.2.2.2.2.2.2.2.2.2.2.2.2.2.2.2.2.2.2.2.2.2.2.2.2.2.2.2.2.2.1 t_lineWhat t_lineA t_lineB out.2.2.2.2.2.2.2.2.2.2.2.2.2.2.2.2.2.2.2.2.2.2.2.2.2.2.2.2.2.2.2.2.2.2.1 t_toldDanger t_toldMonths t_toldSize out.2.2.2.2.2.2.2.2.2.2.2.2.2.2.2.2.2.2.2.2.2.2.2.2.2.2.2.2.2.2.2.2.2.2.2.1 t_aside t_tried t_marked t_undone out.2.2.2.2.2.2.2.2.2.2.2.2.2.2.2.2.2.2.2.2.2.2.2.2.2.2.2.2.2.2.2.2.2.2.2.2.1 out.2.2.2.2.2.2.2.2.2.2.2.2.2.2.2.2.2.2.2.2.2.2.2.2.2.2.2.2.2.2.2.2.2.2.2.2.2 t_heading t_bestHeading t_leastLeft t_goesTo t_bestGoes t_leastMonths t_g)) (F0 m 46 ls []) := by
  have hx := X.1.1
  have hb := X.1.2.1
  have ho := X.1.2.2.2.1
  have hts := X.1.2.2.2.2
  intro n
  induction n with
  | zero =>
    intro t_thrown t_taped t_size t_place t_begin t_token t_word t_told t_wrong t_city t_manName t_dangerName t_decreeName t_kind t_skill t_fieldTold t_want t_hates t_restsOn t_sizeTold t_grows t_lineFrom t_lineTo t_codes t_code t_lawLine t_toldLines t_opened t_compared t_given t_fresh t_consulsMany t_lines t_tolds t_s t_isLaid t_done x1 H locs ls hf
    have hf : (none : Option (Int32 × Int32 × Int32 × Int32 × Int32 × Int32 × Int32 × Int64 × Int32 × Int32 × (Nat → Int32) × (Nat → Int64) × (Nat → Int64) × (Nat → Int64) × (Nat → Int32) × (Nat → Int32) × (Nat → Int32) × (Nat → Int32) × (Nat → Int32) × (Nat → Int32) × (Nat → Int32) × (Nat → Int32) × (Nat → Int32) × (Nat → Int32) × (Nat → Int32) × Int32 × Int32 × Int32 × (Nat → Int32) × (Nat → Int32) × Int32 × Int64 × Int32 × (Nat → Int32) × (Nat → Int32) × (Nat → Int32) × (Nat → Int32) × Int32)) = some out := hf
    cases hf
  | succ n ih =>
    intro t_thrown t_taped t_size t_place t_begin t_token t_word t_told t_wrong t_city t_manName t_dangerName t_decreeName t_kind t_skill t_fieldTold t_want t_hates t_restsOn t_sizeTold t_grows t_lineFrom t_lineTo t_codes t_code t_lawLine t_toldLines t_opened t_compared t_given t_fresh t_consulsMany t_lines t_tolds t_s t_isLaid t_done x1 H locs ls hf hw hl
    rw [f_X13_city_46.eq_2] at hf
    refine lv_iload_n hx hb dX13_city_46 rfl (lv_at hl 1 rfl) ?_
    refine lv_iconst (v := (4 : Int32)) hx hb dX13_city_47 (by decide) ?_
    refine lv_icmp_ge (tgt := 64) hx hb dX13_city_48 (by decide) (fun c_48 => ?_) (fun c_48 => ?_)
    · have hf := (if_pos c_48).symm.trans hf
      refine lv_iconst (v := (0 : Int32)) hx hb dX13_city_64 (by decide) ?_
      obtain rfl := Option.some.inj hf
      exact k_iret X hw dX13_city_65
    · have hf := (if_neg c_48).symm.trans hf
      refine lv_aload_n hx hb dX13_city_51 rfl (lv_at hl 0 rfl) ?_
      refine k_get (q0 := 0) (ci := 11) (C := RX13) (T := TX13) (N := 65) (x := .ref (t_q 56)) X inx_13 hw rfl rfl 56 (by decide) rfl tw_1429 rfl dX13_city_52 ?_
      refine lv_iload_n hx hb dX13_city_55 rfl (lv_at hl 1 rfl) ?_
      refine lv_iconst (v := (0 : Int32)) hx hb dX13_city_56 (by decide) ?_
      obtain ⟨hi_57, hf⟩ := gd_some hf
      refine k_zast (q0 := 42) (n := 4) (f := t_isLaid) X hw rfl hi_57 dX13_city_57 (fun H locs hw => ?_)
      have hw : Wd E A s.heap (wX13 E t_o t_q t_thrown t_taped t_tape t_size t_place t_begin t_token t_word t_told t_wrong t_city t_manName t_dangerName t_decreeName t_kind t_skill t_fieldTold t_want t_hates t_restsOn t_sizeTold t_grows t_lineFrom t_lineTo t_codes t_code t_lawLine t_toldLines t_opened t_compared t_kept t_keptBy t_ahead t_against t_sum t_sumBy t_term t_termBy t_byNot t_valueOf t_given t_fresh t_consulsMany t_lines t_lineWhat t_lineA t_lineB t_tolds t_toldDanger t_toldMonths t_toldSize t_s t_aside t_tried t_marked t_undone (upd t_isLaid (x1).toNatClampNeg (vp_nar .boolean ((0 : Int32)))) t_done t_heading t_bestHeading t_leastLeft t_goesTo t_bestGoes t_leastMonths t_g) H locs := hw
      refine lv_iinc (v := (x1 + (1 : Int32))) (lv' := [(1, .int ((x1 + (1 : Int32)))), (0, .ref t_o)]) hx hb dX13_city_58 hl (k := 1) rfl rfl (by decide) rfl (fun ls hl => ?_)
      refine lv_goto (tgt := 46) hx hb dX13_city_61 (by decide) ?_
      exact ih hf hw (lv_sub hl [1, 0] rfl)
set_option maxRecDepth 100000 in
set_option maxHeartbeats 4000000 in
theorem c_X13_city {E : En} {l : Launch} {t_o : Nat} {t_q : Nat → Nat} {t_thrown : Int32} {t_taped : Int32} {t_tape : (Nat → Int32)} {t_size : Int32} {t_place : Int32} {t_begin : Int32} {t_token : Int32} {t_word : Int64} {t_told : Int32} {t_wrong : Int32} {t_city : (Nat → Int32)} {t_manName : (Nat → Int64)} {t_dangerName : (Nat → Int64)} {t_decreeName : (Nat → Int64)} {t_kind : (Nat → Int32)} {t_skill : (Nat → Int32)} {t_fieldTold : (Nat → Int32)} {t_want : (Nat → Int32)} {t_hates : (Nat → Int32)} {t_restsOn : (Nat → Int32)} {t_sizeTold : (Nat → Int32)} {t_grows : (Nat → Int32)} {t_lineFrom : (Nat → Int32)} {t_lineTo : (Nat → Int32)} {t_codes : (Nat → Int32)} {t_code : Int32} {t_lawLine : Int32} {t_toldLines : Int32} {t_opened : (Nat → Int32)} {t_compared : (Nat → Int32)} {t_kept : (Nat → Int32)} {t_keptBy : (Nat → Int32)} {t_ahead : (Nat → Int32)} {t_against : (Nat → Int32)} {t_sum : (Nat → Int32)} {t_sumBy : (Nat → Int32)} {t_term : (Nat → Int32)} {t_termBy : (Nat → Int32)} {t_byNot : (Nat → Int32)} {t_valueOf : (Nat → Int32)} {t_given : Int32} {t_fresh : Int64} {t_consulsMany : Int32} {t_lines : (Nat → Int32)} {t_lineWhat : (Nat → Int32)} {t_lineA : (Nat → Int32)} {t_lineB : (Nat → Int32)} {t_tolds : (Nat → Int32)} {t_toldDanger : (Nat → Int32)} {t_toldMonths : (Nat → Int32)} {t_toldSize : (Nat → Int32)} {t_s : (Nat → Int32)} {t_aside : (Nat → Int32)} {t_tried : (Nat → Int32)} {t_marked : (Nat → Int32)} {t_undone : (Nat → Int32)} {t_isLaid : (Nat → Int32)} {t_done : Int32} {t_heading : (Nat → Int32)} {t_bestHeading : (Nat → Int32)} {t_leastLeft : Int32} {t_goesTo : (Nat → Int32)} {t_bestGoes : (Nat → Int32)} {t_leastMonths : Int32} {t_g : Int64}  {out : Int32 × Int32 × Int32 × Int32 × Int32 × Int32 × Int32 × Int64 × Int32 × Int32 × (Nat → Int32) × (Nat → Int64) × (Nat → Int64) × (Nat → Int64) × (Nat → Int32) × (Nat → Int32) × (Nat → Int32) × (Nat → Int32) × (Nat → Int32) × (Nat → Int32) × (Nat → Int32) × (Nat → Int32) × (Nat → Int32) × (Nat → Int32) × (Nat → Int32) × Int32 × Int32 × Int32 × (Nat → Int32) × (Nat → Int32) × Int32 × Int64 × Int32 × (Nat → Int32) × (Nat → Int32) × (Nat → Int32) × (Nat → Int32) × Int32} (hf : f_X13_city t_taped t_tape t_wrong t_city t_manName t_dangerName t_decreeName t_kind t_skill t_fieldTold t_want t_hates t_restsOn t_sizeTold t_grows t_lineFrom t_lineTo t_codes t_lawLine t_opened t_compared t_given t_fresh t_lines t_tolds t_s t_isLaid t_done = some out) : Cn E l yX13_city cX13_city 2 (some .int) rm_X13_city [.ref t_o] (wX13 E t_o t_q t_thrown t_taped t_tape t_size t_place t_begin t_token t_word t_told t_wrong t_city t_manName t_dangerName t_decreeName t_kind t_skill t_fieldTold t_want t_hates t_restsOn t_sizeTold t_grows t_lineFrom t_lineTo t_codes t_code t_lawLine t_toldLines t_opened t_compared t_kept t_keptBy t_ahead t_against t_sum t_sumBy t_term t_termBy t_byNot t_valueOf t_given t_fresh t_consulsMany t_lines t_lineWhat t_lineA t_lineB t_tolds t_toldDanger t_toldMonths t_toldSize t_s t_aside t_tried t_marked t_undone t_isLaid t_done t_heading t_bestHeading t_leastLeft t_goesTo t_bestGoes t_leastMonths t_g) (some (.int out.1)) (wX13 E t_o t_q out.2.1 out.2.2.1 t_tape out.2.2.2.1 out.2.2.2.2.1 out.2.2.2.2.2.1 out.2.2.2.2.2.2.1 out.2.2.2.2.2.2.2.1 out.2.2.2.2.2.2.2.2.1 out.2.2.2.2.2.2.2.2.2.1 out.2.2.2.2.2.2.2.2.2.2.1 out.2.2.2.2.2.2.2.2.2.2.2.1 out.2.2.2.2.2.2.2.2.2.2.2.2.1 out.2.2.2.2.2.2.2.2.2.2.2.2.2.1 out.2.2.2.2.2.2.2.2.2.2.2.2.2.2.1 out.2.2.2.2.2.2.2.2.2.2.2.2.2.2.2.1 out.2.2.2.2.2.2.2.2.2.2.2.2.2.2.2.2.1 out.2.2.2.2.2.2.2.2.2.2.2.2.2.2.2.2.2.1 out.2.2.2.2.2.2.2.2.2.2.2.2.2.2.2.2.2.2.1 out.2.2.2.2.2.2.2.2.2.2.2.2.2.2.2.2.2.2.2.1 out.2.2.2.2.2.2.2.2.2.2.2.2.2.2.2.2.2.2.2.2.1 out.2.2.2.2.2.2.2.2.2.2.2.2.2.2.2.2.2.2.2.2.2.1 out.2.2.2.2.2.2.2.2.2.2.2.2.2.2.2.2.2.2.2.2.2.2.1 out.2.2.2.2.2.2.2.2.2.2.2.2.2.2.2.2.2.2.2.2.2.2.2.1 out.2.2.2.2.2.2.2.2.2.2.2.2.2.2.2.2.2.2.2.2.2.2.2.2.1 out.2.2.2.2.2.2.2.2.2.2.2.2.2.2.2.2.2.2.2.2.2.2.2.2.2.1 out.2.2.2.2.2.2.2.2.2.2.2.2.2.2.2.2.2.2.2.2.2.2.2.2.2.2.1 out.2.2.2.2.2.2.2.2.2.2.2.2.2.2.2.2.2.2.2.2.2.2.2.2.2.2.2.1 out.2.2.2.2.2.2.2.2.2.2.2.2.2.2.2.2.2.2.2.2.2.2.2.2.2.2.2.2.1 out.2.2.2.2.2.2.2.2.2.2.2.2.2.2.2.2.2.2.2.2.2.2.2.2.2.2.2.2.2.1 t_kept t_keptBy t_ahead t_against t_sum t_sumBy t_term t_termBy t_byNot t_valueOf out.2.2.2.2.2.2.2.2.2.2.2.2.2.2.2.2.2.2.2.2.2.2.2.2.2.2.2.2.2.2.1 out.2.2.2.2.2.2.2.2.2.2.2.2.2.2.2.2.2.2.2.2.2.2.2.2.2.2.2.2.2.2.2.1 out.2.2.2.2.2.2.2.2.2.2.2.2.2.2.2.2.2.2.2.2.2.2.2.2.2.2.2.2.2.2.2.2.1 out.2.2.2.2.2.2.2.2.2.2.2.2.2.2.2.2.2.2.2.2.2.2.2.2.2.2.2.2.2.2.2.2.2.1 t_lineWhat t_lineA t_lineB out.2.2.2.2.2.2.2.2.2.2.2.2.2.2.2.2.2.2.2.2.2.2.2.2.2.2.2.2.2.2.2.2.2.2.1 t_toldDanger t_toldMonths t_toldSize out.2.2.2.2.2.2.2.2.2.2.2.2.2.2.2.2.2.2.2.2.2.2.2.2.2.2.2.2.2.2.2.2.2.2.2.1 t_aside t_tried t_marked t_undone out.2.2.2.2.2.2.2.2.2.2.2.2.2.2.2.2.2.2.2.2.2.2.2.2.2.2.2.2.2.2.2.2.2.2.2.2.1 out.2.2.2.2.2.2.2.2.2.2.2.2.2.2.2.2.2.2.2.2.2.2.2.2.2.2.2.2.2.2.2.2.2.2.2.2.2 t_heading t_bestHeading t_leastLeft t_goesTo t_bestGoes t_leastMonths t_g) := by
  refine Cn.of (by decide) (Nat.le_of_ble_eq_true rfl) rfl ?_
  intro p e s m below meth c A ls args H locs X hw hl
  have hx := X.1.1
  have hb := X.1.2.1
  have ho := X.1.2.2.2.1
  have hts := X.1.2.2.2.2
  have hl : lv_has ls 2 [(0, .ref t_o)] := hl
  unfold f_X13_city at hf
  refine lv_aload_n hx hb dX13_city_0 rfl (lv_at hl 0 rfl) ?_
  refine lv_iconst (v := (0 : Int32)) hx hb dX13_city_1 (by decide) ?_
  refine k_put (q0 := 0) (ci := 11) (C := RX13) (T := TX13) (N := 65) (ty0 := tyX13) (x := .int ((0 : Int32))) X inx_13 tyX13_ok nmX13 hw rfl rfl 0 (by decide) rfl rfl tw_1373 rfl rfl (Nat.le_of_ble_eq_true rfl) dX13_city_2 (fun H locs hw => ?_)
  have hw : Wd E A s.heap (wX13 E t_o t_q ((0 : Int32)) t_taped t_tape t_size t_place t_begin t_token t_word t_told t_wrong t_city t_manName t_dangerName t_decreeName t_kind t_skill t_fieldTold t_want t_hates t_restsOn t_sizeTold t_grows t_lineFrom t_lineTo t_codes t_code t_lawLine t_toldLines t_opened t_compared t_kept t_keptBy t_ahead t_against t_sum t_sumBy t_term t_termBy t_byNot t_valueOf t_given t_fresh t_consulsMany t_lines t_lineWhat t_lineA t_lineB t_tolds t_toldDanger t_toldMonths t_toldSize t_s t_aside t_tried t_marked t_undone t_isLaid t_done t_heading t_bestHeading t_leastLeft t_goesTo t_bestGoes t_leastMonths t_g) H locs := hw
  refine lv_aload_n hx hb dX13_city_5 rfl (lv_at hl 0 rfl) ?_
  obtain ⟨r6, hc_6, hf⟩ := bd_some hf
  refine k_V (As := []) (rest := []) (index := 387) (C := RX13) X (c_X13_readsAll hc_6) tw_1583 tw_1585 tw_46 tw_130 tw_1586 ⟨rfl, rfl⟩ hd_X13_readsAll ⟨Nat.le_of_ble_eq_true rfl, Nat.le_of_ble_eq_true rfl⟩ ⟨Nat.zero_le _, Nat.zero_le _⟩ hw [0, 1, 2, 3, 4, 5, 6, 7, 8, 9, 10, 11, 12, 13, 14, 15, 16, 17, 18, 19, 20, 21, 22, 23, 24, 25, 26, 27, 28, 29, 30, 31, 32, 33, 34, 35, 36, 37, 38, 39, 40, 41, 42, 43, 44, 45, 46] rfl rfl 0 rfl rfl rfl rfl hl.1 rfl (Nat.le_of_ble_eq_true rfl) dX13_city_6 (fun H locs hw => ?_)
  have hw : Wd E A s.heap (wX13 E t_o t_q ((0 : Int32)) r6.2.1 t_tape r6.2.2.1 r6.2.2.2.1 r6.2.2.2.2.1 r6.2.2.2.2.2.1 r6.2.2.2.2.2.2.1 r6.2.2.2.2.2.2.2.1 r6.2.2.2.2.2.2.2.2.1 r6.2.2.2.2.2.2.2.2.2.1 r6.2.2.2.2.2.2.2.2.2.2.1 r6.2.2.2.2.2.2.2.2.2.2.2.1 r6.2.2.2.2.2.2.2.2.2.2.2.2.1 r6.2.2.2.2.2.2.2.2.2.2.2.2.2.1 r6.2.2.2.2.2.2.2.2.2.2.2.2.2.2.1 r6.2.2.2.2.2.2.2.2.2.2.2.2.2.2.2.1 r6.2.2.2.2.2.2.2.2.2.2.2.2.2.2.2.2.1 r6.2.2.2.2.2.2.2.2.2.2.2.2.2.2.2.2.2.1 r6.2.2.2.2.2.2.2.2.2.2.2.2.2.2.2.2.2.2.1 r6.2.2.2.2.2.2.2.2.2.2.2.2.2.2.2.2.2.2.2.1 r6.2.2.2.2.2.2.2.2.2.2.2.2.2.2.2.2.2.2.2.2.1 r6.2.2.2.2.2.2.2.2.2.2.2.2.2.2.2.2.2.2.2.2.2.1 r6.2.2.2.2.2.2.2.2.2.2.2.2.2.2.2.2.2.2.2.2.2.2.1 r6.2.2.2.2.2.2.2.2.2.2.2.2.2.2.2.2.2.2.2.2.2.2.2.1 r6.2.2.2.2.2.2.2.2.2.2.2.2.2.2.2.2.2.2.2.2.2.2.2.2.1 r6.2.2.2.2.2.2.2.2.2.2.2.2.2.2.2.2.2.2.2.2.2.2.2.2.2.1 r6.2.2.2.2.2.2.2.2.2.2.2.2.2.2.2.2.2.2.2.2.2.2.2.2.2.2.1 r6.2.2.2.2.2.2.2.2.2.2.2.2.2.2.2.2.2.2.2.2.2.2.2.2.2.2.2.1 r6.2.2.2.2.2.2.2.2.2.2.2.2.2.2.2.2.2.2.2.2.2.2.2.2.2.2.2.2.1 t_kept t_keptBy t_ahead t_against t_sum t_sumBy t_term t_termBy t_byNot t_valueOf r6.2.2.2.2.2.2.2.2.2.2.2.2.2.2.2.2.2.2.2.2.2.2.2.2.2.2.2.2.2.1 r6.2.2.2.2.2.2.2.2.2.2.2.2.2.2.2.2.2.2.2.2.2.2.2.2.2.2.2.2.2.2.1 r6.2.2.2.2.2.2.2.2.2.2.2.2.2.2.2.2.2.2.2.2.2.2.2.2.2.2.2.2.2.2.2 t_lines t_lineWhat t_lineA t_lineB t_tolds t_toldDanger t_toldMonths t_toldSize t_s t_aside t_tried t_marked t_undone t_isLaid t_done t_heading t_bestHeading t_leastLeft t_goesTo t_bestGoes t_leastMonths t_g) H locs := hw
  refine lv_if_ne (tgt := 17) hx hb dX13_city_9 (by decide) (fun c_9 => ?_) (fun c_9 => ?_)
  · have hf := (if_neg c_9).symm.trans hf
    refine lv_aload_n hx hb dX13_city_17 rfl (lv_at hl 0 rfl) ?_
    obtain ⟨r18, hc_18, hf⟩ := bd_some hf
    refine k_V (As := []) (rest := []) (index := 390) (C := RX13) X (c_X13_lays hc_18) tw_1731 tw_1733 tw_73 tw_130 tw_1734 ⟨rfl, rfl⟩ hd_X13_lays ⟨Nat.le_of_ble_eq_true rfl, Nat.le_of_ble_eq_true rfl⟩ ⟨Nat.zero_le _, Nat.zero_le _⟩ hw [0, 1, 2, 3, 4, 5, 6, 7, 8, 9, 10, 11, 12, 13, 14, 15, 16, 17, 18, 19, 20, 21, 22, 23, 24, 25, 26, 27, 28, 29, 30, 31, 32, 33, 34, 35, 36, 37, 38, 39, 40, 41, 42, 43, 44, 45, 46] rfl rfl 0 rfl rfl rfl rfl hl.1 rfl (Nat.le_of_ble_eq_true rfl) dX13_city_18 (fun H locs hw => ?_)
    have hw : Wd E A s.heap (wX13 E t_o t_q ((0 : Int32)) r6.2.1 t_tape r6.2.2.1 r6.2.2.2.1 r6.2.2.2.2.1 r6.2.2.2.2.2.1 r6.2.2.2.2.2.2.1 r6.2.2.2.2.2.2.2.1 r6.2.2.2.2.2.2.2.2.1 r18.1 r18.2.1 r18.2.2.1 r18.2.2.2.1 r18.2.2.2.2.1 r18.2.2.2.2.2.1 r18.2.2.2.2.2.2.1 r18.2.2.2.2.2.2.2.1 r18.2.2.2.2.2.2.2.2.1 r18.2.2.2.2.2.2.2.2.2.1 r18.2.2.2.2.2.2.2.2.2.2.1 r18.2.2.2.2.2.2.2.2.2.2.2.1 r18.2.2.2.2.2.2.2.2.2.2.2.2.1 r18.2.2.2.2.2.2.2.2.2.2.2.2.2.1 r18.2.2.2.2.2.2.2.2.2.2.2.2.2.2 r6.2.2.2.2.2.2.2.2.2.2.2.2.2.2.2.2.2.2.2.2.2.2.2.2.1 r6.2.2.2.2.2.2.2.2.2.2.2.2.2.2.2.2.2.2.2.2.2.2.2.2.2.1 r6.2.2.2.2.2.2.2.2.2.2.2.2.2.2.2.2.2.2.2.2.2.2.2.2.2.2.1 r6.2.2.2.2.2.2.2.2.2.2.2.2.2.2.2.2.2.2.2.2.2.2.2.2.2.2.2.1 r6.2.2.2.2.2.2.2.2.2.2.2.2.2.2.2.2.2.2.2.2.2.2.2.2.2.2.2.2.1 t_kept t_keptBy t_ahead t_against t_sum t_sumBy t_term t_termBy t_byNot t_valueOf r6.2.2.2.2.2.2.2.2.2.2.2.2.2.2.2.2.2.2.2.2.2.2.2.2.2.2.2.2.2.1 r6.2.2.2.2.2.2.2.2.2.2.2.2.2.2.2.2.2.2.2.2.2.2.2.2.2.2.2.2.2.2.1 r6.2.2.2.2.2.2.2.2.2.2.2.2.2.2.2.2.2.2.2.2.2.2.2.2.2.2.2.2.2.2.2 t_lines t_lineWhat t_lineA t_lineB t_tolds t_toldDanger t_toldMonths t_toldSize t_s t_aside t_tried t_marked t_undone t_isLaid t_done t_heading t_bestHeading t_leastLeft t_goesTo t_bestGoes t_leastMonths t_g) H locs := hw
    refine lv_aload_n hx hb dX13_city_21 rfl (lv_at hl 0 rfl) ?_
    obtain ⟨r22, hc_22, hf⟩ := bd_some hf
    refine k_V (As := []) (rest := []) (index := 150) (C := RX13) X (c_X13_fresh hc_22) tw_1369 tw_1371 tw_45 tw_130 tw_1372 ⟨rfl, rfl⟩ hd_X13_fresh ⟨Nat.le_of_ble_eq_true rfl, Nat.le_of_ble_eq_true rfl⟩ ⟨Nat.zero_le _, Nat.zero_le _⟩ hw [0, 1, 2, 3, 4, 5, 6, 7, 8, 9, 10, 11, 12, 13, 14, 15, 16, 17, 18, 19, 20, 21, 22, 23, 24, 25, 26, 27, 28, 29, 30, 31, 32, 33, 34, 35, 36, 37, 38, 39, 40, 41, 42, 43, 44, 45, 46] rfl rfl 0 rfl rfl rfl rfl hl.1 rfl (Nat.le_of_ble_eq_true rfl) dX13_city_22 (fun H locs hw => ?_)
    have hw : Wd E A s.heap (wX13 E t_o t_q ((0 : Int32)) r6.2.1 t_tape r6.2.2.1 r6.2.2.2.1 r6.2.2.2.2.1 r6.2.2.2.2.2.1 r6.2.2.2.2.2.2.1 r6.2.2.2.2.2.2.2.1 r6.2.2.2.2.2.2.2.2.1 r18.1 r18.2.1 r18.2.2.1 r18.2.2.2.1 r18.2.2.2.2.1 r18.2.2.2.2.2.1 r18.2.2.2.2.2.2.1 r18.2.2.2.2.2.2.2.1 r18.2.2.2.2.2.2.2.2.1 r18.2.2.2.2.2.2.2.2.2.1 r18.2.2.2.2.2.2.2.2.2.2.1 r18.2.2.2.2.2.2.2.2.2.2.2.1 r18.2.2.2.2.2.2.2.2.2.2.2.2.1 r18.2.2.2.2.2.2.2.2.2.2.2.2.2.1 r18.2.2.2.2.2.2.2.2.2.2.2.2.2.2 r6.2.2.2.2.2.2.2.2.2.2.2.2.2.2.2.2.2.2.2.2.2.2.2.2.1 r6.2.2.2.2.2.2.2.2.2.2.2.2.2.2.2.2.2.2.2.2.2.2.2.2.2.1 r6.2.2.2.2.2.2.2.2.2.2.2.2.2.2.2.2.2.2.2.2.2.2.2.2.2.2.1 r6.2.2.2.2.2.2.2.2.2.2.2.2.2.2.2.2.2.2.2.2.2.2.2.2.2.2.2.1 r6.2.2.2.2.2.2.2.2.2.2.2.2.2.2.2.2.2.2.2.2.2.2.2.2.2.2.2.2.1 t_kept t_keptBy t_ahead t_against t_sum t_sumBy t_term t_termBy t_byNot t_valueOf r6.2.2.2.2.2.2.2.2.2.2.2.2.2.2.2.2.2.2.2.2.2.2.2.2.2.2.2.2.2.1 r6.2.2.2.2.2.2.2.2.2.2.2.2.2.2.2.2.2.2.2.2.2.2.2.2.2.2.2.2.2.2.1 r6.2.2.2.2.2.2.2.2.2.2.2.2.2.2.2.2.2.2.2.2.2.2.2.2.2.2.2.2.2.2.2 t_lines t_lineWhat t_lineA t_lineB t_tolds t_toldDanger t_toldMonths t_toldSize r22 t_aside t_tried t_marked t_undone t_isLaid t_done t_heading t_bestHeading t_leastLeft t_goesTo t_bestGoes t_leastMonths t_g) H locs := hw
    refine lv_aload_n hx hb dX13_city_25 rfl (lv_at hl 0 rfl) ?_
    refine k_get (q0 := 0) (ci := 11) (C := RX13) (T := TX13) (N := 65) (x := .ref (t_q 43)) X inx_13 hw rfl rfl 43 (by decide) rfl tw_1416 rfl dX13_city_26 ?_
    refine lv_iconst (v := (0 : Int32)) hx hb dX13_city_29 (by decide) ?_
    refine lv_iconst (v := (0 : Int32)) hx hb dX13_city_30 (by decide) ?_
    obtain ⟨hi_31, hf⟩ := gd_some hf
    refine k_iast (q0 := 29) (n := 6) (f := t_lines) X hw rfl hi_31 dX13_city_31 (fun H locs hw => ?_)
    have hw : Wd E A s.heap (wX13 E t_o t_q ((0 : Int32)) r6.2.1 t_tape r6.2.2.1 r6.2.2.2.1 r6.2.2.2.2.1 r6.2.2.2.2.2.1 r6.2.2.2.2.2.2.1 r6.2.2.2.2.2.2.2.1 r6.2.2.2.2.2.2.2.2.1 r18.1 r18.2.1 r18.2.2.1 r18.2.2.2.1 r18.2.2.2.2.1 r18.2.2.2.2.2.1 r18.2.2.2.2.2.2.1 r18.2.2.2.2.2.2.2.1 r18.2.2.2.2.2.2.2.2.1 r18.2.2.2.2.2.2.2.2.2.1 r18.2.2.2.2.2.2.2.2.2.2.1 r18.2.2.2.2.2.2.2.2.2.2.2.1 r18.2.2.2.2.2.2.2.2.2.2.2.2.1 r18.2.2.2.2.2.2.2.2.2.2.2.2.2.1 r18.2.2.2.2.2.2.2.2.2.2.2.2.2.2 r6.2.2.2.2.2.2.2.2.2.2.2.2.2.2.2.2.2.2.2.2.2.2.2.2.1 r6.2.2.2.2.2.2.2.2.2.2.2.2.2.2.2.2.2.2.2.2.2.2.2.2.2.1 r6.2.2.2.2.2.2.2.2.2.2.2.2.2.2.2.2.2.2.2.2.2.2.2.2.2.2.1 r6.2.2.2.2.2.2.2.2.2.2.2.2.2.2.2.2.2.2.2.2.2.2.2.2.2.2.2.1 r6.2.2.2.2.2.2.2.2.2.2.2.2.2.2.2.2.2.2.2.2.2.2.2.2.2.2.2.2.1 t_kept t_keptBy t_ahead t_against t_sum t_sumBy t_term t_termBy t_byNot t_valueOf r6.2.2.2.2.2.2.2.2.2.2.2.2.2.2.2.2.2.2.2.2.2.2.2.2.2.2.2.2.2.1 r6.2.2.2.2.2.2.2.2.2.2.2.2.2.2.2.2.2.2.2.2.2.2.2.2.2.2.2.2.2.2.1 r6.2.2.2.2.2.2.2.2.2.2.2.2.2.2.2.2.2.2.2.2.2.2.2.2.2.2.2.2.2.2.2 (upd t_lines ((0 : Int32)).toNatClampNeg ((0 : Int32))) t_lineWhat t_lineA t_lineB t_tolds t_toldDanger t_toldMonths t_toldSize r22 t_aside t_tried t_marked t_undone t_isLaid t_done t_heading t_bestHeading t_leastLeft t_goesTo t_bestGoes t_leastMonths t_g) H locs := hw
    refine lv_aload_n hx hb dX13_city_32 rfl (lv_at hl 0 rfl) ?_
    refine k_get (q0 := 0) (ci := 11) (C := RX13) (T := TX13) (N := 65) (x := .ref (t_q 47)) X inx_13 hw rfl rfl 47 (by decide) rfl tw_1420 rfl dX13_city_33 ?_
    refine lv_iconst (v := (0 : Int32)) hx hb dX13_city_36 (by decide) ?_
    refine lv_iconst (v := (0 : Int32)) hx hb dX13_city_37 (by decide) ?_
    obtain ⟨hi_38, hf⟩ := gd_some hf
    refine k_iast (q0 := 33) (n := 5) (f := t_tolds) X hw rfl hi_38 dX13_city_38 (fun H locs hw => ?_)
    have hw : Wd E A s.heap (wX13 E t_o t_q ((0 : Int32)) r6.2.1 t_tape r6.2.2.1 r6.2.2.2.1 r6.2.2.2.2.1 r6.2.2.2.2.2.1 r6.2.2.2.2.2.2.1 r6.2.2.2.2.2.2.2.1 r6.2.2.2.2.2.2.2.2.1 r18.1 r18.2.1 r18.2.2.1 r18.2.2.2.1 r18.2.2.2.2.1 r18.2.2.2.2.2.1 r18.2.2.2.2.2.2.1 r18.2.2.2.2.2.2.2.1 r18.2.2.2.2.2.2.2.2.1 r18.2.2.2.2.2.2.2.2.2.1 r18.2.2.2.2.2.2.2.2.2.2.1 r18.2.2.2.2.2.2.2.2.2.2.2.1 r18.2.2.2.2.2.2.2.2.2.2.2.2.1 r18.2.2.2.2.2.2.2.2.2.2.2.2.2.1 r18.2.2.2.2.2.2.2.2.2.2.2.2.2.2 r6.2.2.2.2.2.2.2.2.2.2.2.2.2.2.2.2.2.2.2.2.2.2.2.2.1 r6.2.2.2.2.2.2.2.2.2.2.2.2.2.2.2.2.2.2.2.2.2.2.2.2.2.1 r6.2.2.2.2.2.2.2.2.2.2.2.2.2.2.2.2.2.2.2.2.2.2.2.2.2.2.1 r6.2.2.2.2.2.2.2.2.2.2.2.2.2.2.2.2.2.2.2.2.2.2.2.2.2.2.2.1 r6.2.2.2.2.2.2.2.2.2.2.2.2.2.2.2.2.2.2.2.2.2.2.2.2.2.2.2.2.1 t_kept t_keptBy t_ahead t_against t_sum t_sumBy t_term t_termBy t_byNot t_valueOf r6.2.2.2.2.2.2.2.2.2.2.2.2.2.2.2.2.2.2.2.2.2.2.2.2.2.2.2.2.2.1 r6.2.2.2.2.2.2.2.2.2.2.2.2.2.2.2.2.2.2.2.2.2.2.2.2.2.2.2.2.2.2.1 r6.2.2.2.2.2.2.2.2.2.2.2.2.2.2.2.2.2.2.2.2.2.2.2.2.2.2.2.2.2.2.2 (upd t_lines ((0 : Int32)).toNatClampNeg ((0 : Int32))) t_lineWhat t_lineA t_lineB (upd t_tolds ((0 : Int32)).toNatClampNeg ((0 : Int32))) t_toldDanger t_toldMonths t_toldSize r22 t_aside t_tried t_marked t_undone t_isLaid t_done t_heading t_bestHeading t_leastLeft t_goesTo t_bestGoes t_leastMonths t_g) H locs := hw
    refine lv_aload_n hx hb dX13_city_39 rfl (lv_at hl 0 rfl) ?_
    refine lv_iconst (v := (0 : Int32)) hx hb dX13_city_40 (by decide) ?_
    refine k_put (q0 := 0) (ci := 11) (C := RX13) (T := TX13) (N := 65) (ty0 := tyX13) (x := .int ((0 : Int32))) X inx_13 tyX13_ok nmX13 hw rfl rfl 57 (by decide) rfl rfl tw_1430 rfl rfl (Nat.le_of_ble_eq_true rfl) dX13_city_41 (fun H locs hw => ?_)
    have hw : Wd E A s.heap (wX13 E t_o t_q ((0 : Int32)) r6.2.1 t_tape r6.2.2.1 r6.2.2.2.1 r6.2.2.2.2.1 r6.2.2.2.2.2.1 r6.2.2.2.2.2.2.1 r6.2.2.2.2.2.2.2.1 r6.2.2.2.2.2.2.2.2.1 r18.1 r18.2.1 r18.2.2.1 r18.2.2.2.1 r18.2.2.2.2.1 r18.2.2.2.2.2.1 r18.2.2.2.2.2.2.1 r18.2.2.2.2.2.2.2.1 r18.2.2.2.2.2.2.2.2.1 r18.2.2.2.2.2.2.2.2.2.1 r18.2.2.2.2.2.2.2.2.2.2.1 r18.2.2.2.2.2.2.2.2.2.2.2.1 r18.2.2.2.2.2.2.2.2.2.2.2.2.1 r18.2.2.2.2.2.2.2.2.2.2.2.2.2.1 r18.2.2.2.2.2.2.2.2.2.2.2.2.2.2 r6.2.2.2.2.2.2.2.2.2.2.2.2.2.2.2.2.2.2.2.2.2.2.2.2.1 r6.2.2.2.2.2.2.2.2.2.2.2.2.2.2.2.2.2.2.2.2.2.2.2.2.2.1 r6.2.2.2.2.2.2.2.2.2.2.2.2.2.2.2.2.2.2.2.2.2.2.2.2.2.2.1 r6.2.2.2.2.2.2.2.2.2.2.2.2.2.2.2.2.2.2.2.2.2.2.2.2.2.2.2.1 r6.2.2.2.2.2.2.2.2.2.2.2.2.2.2.2.2.2.2.2.2.2.2.2.2.2.2.2.2.1 t_kept t_keptBy t_ahead t_against t_sum t_sumBy t_term t_termBy t_byNot t_valueOf r6.2.2.2.2.2.2.2.2.2.2.2.2.2.2.2.2.2.2.2.2.2.2.2.2.2.2.2.2.2.1 r6.2.2.2.2.2.2.2.2.2.2.2.2.2.2.2.2.2.2.2.2.2.2.2.2.2.2.2.2.2.2.1 r6.2.2.2.2.2.2.2.2.2.2.2.2.2.2.2.2.2.2.2.2.2.2.2.2.2.2.2.2.2.2.2 (upd t_lines ((0 : Int32)).toNatClampNeg ((0 : Int32))) t_lineWhat t_lineA t_lineB (upd t_tolds ((0 : Int32)).toNatClampNeg ((0 : Int32))) t_toldDanger t_toldMonths t_toldSize r22 t_aside t_tried t_marked t_undone t_isLaid ((0 : Int32)) t_heading t_bestHeading t_leastLeft t_goesTo t_bestGoes t_leastMonths t_g) H locs := hw
    refine lv_iconst (v := (0 : Int32)) hx hb dX13_city_44 (by decide) ?_
    refine lv_istore_n (lv' := [(1, .int ((0 : Int32))), (0, .ref t_o)]) hx hb dX13_city_45 rfl hl (by decide) rfl (fun ls hl => ?_)
    exact kb_X13_city_46 X 1100 hf hw (lv_sub hl [1, 0] rfl)
  · have hf := (if_pos c_9).symm.trans hf
    refine lv_aload_n hx hb dX13_city_12 rfl (lv_at hl 0 rfl) ?_
    refine k_get (q0 := 0) (ci := 11) (C := RX13) (T := TX13) (N := 65) (x := .int (r6.2.2.2.2.2.2.2.2.1)) X inx_13 hw rfl rfl 9 (by decide) rfl tw_1382 rfl dX13_city_13 ?_
    obtain rfl := Option.some.inj hf
    exact k_iret X hw dX13_city_16
/-! public int months(); -/
def f_X13_months_16 : Nat → Int32 → Int32 → (Nat → Int32) → Int32 → Int32 → Int32 → Int32 → Int64 → Int32 → Int32 → (Nat → Int32) → (Nat → Int64) → (Nat → Int64) → Int32 → (Nat → Int32) → (Nat → Int32) → (Nat → Int32) → (Nat → Int32) → Option (Int32 × Int32 × Int32 × Int32 × Int32 × Int32 × Int32 × Int64 × Int32 × Int32 × Int32 × (Nat → Int32) × (Nat → Int32) × (Nat → Int32) × (Nat → Int32))
  | 0, _, _, _, _, _, _, _, _, _, _, _, _, _, _, _, _, _, _ => none
  | n + 1, t_thrown, t_taped, t_tape, t_size, t_place, t_begin, t_token, t_word, t_told, t_wrong, t_city, t_manName, t_dangerName, t_given, t_lines, t_lineWhat, t_lineA, t_lineB => if t_token = (0 : Int32) then (f_X13_laysLines t_lines t_lineWhat t_lineA t_lineB ((5 : Int32)) ((0 : Int32))).bind fun r38 => some ((0 : Int32), t_thrown, t_taped, t_size, t_place, t_begin, t_token, t_word, t_told, t_wrong, t_given, r38.1, r38.2.1, r38.2.2.1, r38.2.2.2)
    else (f_X13_readsLine t_tape t_size t_place t_begin t_token t_word t_told t_wrong t_city t_manName t_dangerName t_given t_lines t_lineWhat t_lineA t_lineB).bind fun r24 => if r24.1 = (0 : Int32) then some (r24.2.2.2.2.2.2.1, t_thrown, t_taped, t_size, r24.2.1, r24.2.2.1, r24.2.2.2.1, r24.2.2.2.2.1, r24.2.2.2.2.2.1, r24.2.2.2.2.2.2.1, r24.2.2.2.2.2.2.2.1, r24.2.2.2.2.2.2.2.2.1, r24.2.2.2.2.2.2.2.2.2.1, r24.2.2.2.2.2.2.2.2.2.2.1, r24.2.2.2.2.2.2.2.2.2.2.2)
    else f_X13_months_16 n t_thrown t_taped t_tape t_size r24.2.1 r24.2.2.1 r24.2.2.2.1 r24.2.2.2.2.1 r24.2.2.2.2.2.1 r24.2.2.2.2.2.2.1 t_city t_manName t_dangerName r24.2.2.2.2.2.2.2.1 r24.2.2.2.2.2.2.2.2.1 r24.2.2.2.2.2.2.2.2.2.1 r24.2.2.2.2.2.2.2.2.2.2.1 r24.2.2.2.2.2.2.2.2.2.2.2
def f_X13_months (t_taped : Int32) (t_tape : (Nat → Int32)) (t_wrong : Int32) (t_city : (Nat → Int32)) (t_manName : (Nat → Int64)) (t_dangerName : (Nat → Int64)) (t_given : Int32) (t_lines : (Nat → Int32)) (t_lineWhat : (Nat → Int32)) (t_lineA : (Nat → Int32)) (t_lineB : (Nat → Int32)) : Option (Int32 × Int32 × Int32 × Int32 × Int32 × Int32 × Int32 × Int64 × Int32 × Int32 × Int32 × (Nat → Int32) × (Nat → Int32) × (Nat → Int32) × (Nat → Int32)) := gd ((5 : Int32)) 6 ((f_X13_begins t_taped t_tape).bind fun r13 => f_X13_months_16 1100 ((0 : Int32)) r13.1 t_tape r13.2.1 r13.2.2.1 r13.2.2.2.1 r13.2.2.2.2.1 r13.2.2.2.2.2.1 r13.2.2.2.2.2.2 t_wrong t_city t_manName t_dangerName t_given (upd t_lines ((5 : Int32)).toNatClampNeg ((0 : Int32))) t_lineWhat t_lineA t_lineB)
abbrev rm_X13_months : Room := { frames := 5, cells := 0, slots := 0, locals := 111 }
theorem hd_X13_months : yX13_months.cls = RX13 ∧ yX13_months.cls ≠ "java/lang/invoke/MethodHandle" ∧ yX13_months.cls ≠ "java/lang/invoke/VarHandle" ∧ (parseMethodDescriptor yX13_months.desc).map (fun d => d.parameters.length) = some 0 := by decide +kernel
set_option maxRecDepth 100000 in
set_option maxHeartbeats 4000000 in
theorem kb_X13_months_16 {E : En} {p : Program} {l : Launch} {e : Env} {s : State} {m : MethodId} {args : Array Value} {below : List Frame} {meth : Method} {c : Code} {A : Nat → Prop} {t_o : Nat} {t_q : Nat → Nat} {t_tape : (Nat → Int32)} {t_city : (Nat → Int32)} {t_manName : (Nat → Int64)} {t_dangerName : (Nat → Int64)} {t_decreeName : (Nat → Int64)} {t_kind : (Nat → Int32)} {t_skill : (Nat → Int32)} {t_fieldTold : (Nat → Int32)} {t_want : (Nat → Int32)} {t_hates : (Nat → Int32)} {t_restsOn : (Nat → Int32)} {t_sizeTold : (Nat → Int32)} {t_grows : (Nat → Int32)} {t_lineFrom : (Nat → Int32)} {t_lineTo : (Nat → Int32)} {t_codes : (Nat → Int32)} {t_code : Int32} {t_lawLine : Int32} {t_toldLines : Int32} {t_opened : (Nat → Int32)} {t_compared : (Nat → Int32)} {t_kept : (Nat → Int32)} {t_keptBy : (Nat → Int32)} {t_ahead : (Nat → Int32)} {t_against : (Nat → Int32)} {t_sum : (Nat → Int32)} {t_sumBy : (Nat → Int32)} {t_term : (Nat → Int32)} {t_termBy : (Nat → Int32)} {t_byNot : (Nat → Int32)} {t_valueOf : (Nat → Int32)} {t_fresh : Int64} {t_consulsMany : Int32} {t_tolds : (Nat → Int32)} {t_toldDanger : (Nat → Int32)} {t_toldMonths : (Nat → Int32)} {t_toldSize : (Nat → Int32)} {t_s : (Nat → Int32)} {t_aside : (Nat → Int32)} {t_tried : (Nat → Int32)} {t_marked : (Nat → Int32)} {t_undone : (Nat → Int32)} {t_isLaid : (Nat → Int32)} {t_done : Int32} {t_heading : (Nat → Int32)} {t_bestHeading : (Nat → Int32)} {t_leastLeft : Int32} {t_goesTo : (Nat → Int32)} {t_bestGoes : (Nat → Int32)} {t_leastMonths : Int32} {t_g : Int64} {out : Int32 × Int32 × Int32 × Int32 × Int32 × Int32 × Int32 × Int64 × Int32 × Int32 × Int32 × (Nat → Int32) × (Nat → Int32) × (Nat → Int32) × (Nat → Int32)} (X : Bx E A p s m args meth c cX13_months 1 RX13 (some .int)) : ∀ (n : Nat) {t_thrown : Int32} {t_taped : Int32} {t_size : Int32} {t_place : Int32} {t_begin : Int32} {t_token : Int32} {t_word : Int64} {t_told : Int32} {t_wrong : Int32} {t_given : Int32} {t_lines : (Nat → Int32)} {t_lineWhat : (Nat → Int32)} {t_lineA : (Nat → Int32)} {t_lineB : (Nat → Int32)} {H : Heap} {locs : List Loc} {ls : Array Slot}, f_X13_months_16 n t_thrown t_taped t_tape t_size t_place t_begin t_token t_word t_told t_wrong t_city t_manName t_dangerName t_given t_lines t_lineWhat t_lineA t_lineB = some out → Wd E A s.heap (wX13 E t_o t_q t_thrown t_taped t_tape t_size t_place t_begin t_token t_word t_told t_wrong t_city t_manName t_dangerName t_decreeName t_kind t_skill t_fieldTold t_want t_hates t_restsOn t_sizeTold t_grows t_lineFrom t_lineTo t_codes t_code t_lawLine t_toldLines t_opened t_compared t_kept t_keptBy t_ahead t_against t_sum t_sumBy t_term t_termBy t_byNot t_valueOf t_given t_fresh t_consulsMany t_lines t_lineWhat t_lineA t_lineB t_tolds t_toldDanger t_toldMonths t_toldSize t_s t_aside t_tried t_marked t_undone t_isLaid t_done t_heading t_bestHeading t_leastLeft t_goesTo t_bestGoes t_leastMonths t_g) H locs → lv_has ls 1 [(0, .ref t_o)] → W p l e rm_X13_months s m args below meth c H locs 0 0 (Zn E below args s A (some (.int out.1)) (wX13 E t_o t_q out.2.1 out.2.2.1 t_tape out.2.2.2.1 out.2.2.2.2.1 out.2.2.2.2.2.1 out.2.2.2.2.2.2.1 out.2.2.2.2.2.2.2.1 out.2.2.2.2.2.2.2.2.1 out.2.2.2.2.2.2.2.2.2.1 t_city t_manName t_dangerName t_decreeName t_kind t_skill t_fieldTold t_want t_hates t_restsOn t_sizeTold t_grows t_lineFrom t_lineTo t_codes t_code t_lawLine t_toldLines t_opened t_compared t_kept t_keptBy t_ahead t_against t_sum t_sumBy t_term t_termBy t_byNot t_valueOf out.2.2.2.2.2.2.2.2.2.2.1 t_fresh t_consulsMany out.2.2.2.2.2.2.2.2.2.2.2.1 out.2.2.2.2.2.2.2.2.2.2.2.2.1 out.2.2.2.2.2.2.2.2.2.2.2.2.2.1 out.2.2.2.2.2.2.2.2.2.2.2.2.2.2 t_tolds t_toldDanger t_toldMonths t_toldSize t_s t_aside t_tried t_marked t_undone t_isLaid t_done t_heading t_bestHeading t_leastLeft t_goesTo t_bestGoes t_leastMonths t_g)) (F0 m 16 ls []) := by
  have hx := X.1.1
  have hb := X.1.2.1
  have ho := X.1.2.2.2.1
  have hts := X.1.2.2.2.2
  intro n
  induction n with
  | zero =>
    intro t_thrown t_taped t_size t_place t_begin t_token t_word t_told t_wrong t_given t_lines t_lineWhat t_lineA t_lineB H locs ls hf
    have hf : (none : Option (Int32 × Int32 × Int32 × Int32 × Int32 × Int32 × Int32 × Int64 × Int32 × Int32 × Int32 × (Nat → Int32) × (Nat → Int32) × (Nat → Int32) × (Nat → Int32))) = some out := hf
    cases hf
  | succ n ih =>
    intro t_thrown t_taped t_size t_place t_begin t_token t_word t_told t_wrong t_given t_lines t_lineWhat t_lineA t_lineB H locs ls hf hw hl
    rw [f_X13_months_16.eq_2] at hf
    refine lv_aload_n hx hb dX13_months_16 rfl (lv_at hl 0 rfl) ?_
    refine k_get (q0 := 0) (ci := 11) (C := RX13) (T := TX13) (N := 65) (x := .int (t_token)) X inx_13 hw rfl rfl 6 (by decide) rfl tw_1379 rfl dX13_months_17 ?_
    refine lv_if_eq (tgt := 35) hx hb dX13_months_20 (by decide) (fun c_20 => ?_) (fun c_20 => ?_)
    · have hf := (if_pos c_20).symm.trans hf
      refine lv_aload_n hx hb dX13_months_35 rfl (lv_at hl 0 rfl) ?_
      refine lv_iconst (v := (5 : Int32)) hx hb dX13_months_36 (by decide) ?_
      refine lv_iconst (v := (0 : Int32)) hx hb dX13_months_37 (by decide) ?_
      obtain ⟨r38, hc_38, hf⟩ := bd_some hf
      refine k_V (As := [.int ((5 : Int32)), .int ((0 : Int32))]) (rest := []) (index := 399) (C := RX13) X (c_X13_laysLines hc_38) tw_1757 tw_1759 tw_77 tw_130 tw_1760 ⟨rfl, rfl⟩ hd_X13_laysLines ⟨Nat.le_of_ble_eq_true rfl, Nat.le_of_ble_eq_true rfl⟩ ⟨Nat.zero_le _, Nat.zero_le _⟩ hw [0, 1, 2, 3, 4, 5, 6, 7, 8, 9, 10, 11, 12, 13, 14, 15, 16, 17, 18, 19, 20, 21, 22, 23, 24, 25, 26, 27, 28, 29, 30, 31, 32, 33, 34, 35, 36, 37, 38, 39, 40, 41, 42, 43, 44, 45, 46] rfl rfl 0 rfl rfl rfl rfl hl.1 rfl (Nat.le_of_ble_eq_true rfl) dX13_months_38 (fun H locs hw => ?_)
      have hw : Wd E A s.heap (wX13 E t_o t_q t_thrown t_taped t_tape t_size t_place t_begin t_token t_word t_told t_wrong t_city t_manName t_dangerName t_decreeName t_kind t_skill t_fieldTold t_want t_hates t_restsOn t_sizeTold t_grows t_lineFrom t_lineTo t_codes t_code t_lawLine t_toldLines t_opened t_compared t_kept t_keptBy t_ahead t_against t_sum t_sumBy t_term t_termBy t_byNot t_valueOf t_given t_fresh t_consulsMany r38.1 r38.2.1 r38.2.2.1 r38.2.2.2 t_tolds t_toldDanger t_toldMonths t_toldSize t_s t_aside t_tried t_marked t_undone t_isLaid t_done t_heading t_bestHeading t_leastLeft t_goesTo t_bestGoes t_leastMonths t_g) H locs := hw
      refine lv_iconst (v := (0 : Int32)) hx hb dX13_months_41 (by decide) ?_
      obtain rfl := Option.some.inj hf
      exact k_iret X hw dX13_months_42
    · have hf := (if_neg c_20).symm.trans hf
      refine lv_aload_n hx hb dX13_months_23 rfl (lv_at hl 0 rfl) ?_
      obtain ⟨r24, hc_24, hf⟩ := bd_some hf
      refine k_V (As := []) (rest := []) (index := 396) (C := RX13) X (c_X13_readsLine hc_24) tw_1745 tw_1747 tw_74 tw_130 tw_1748 ⟨rfl, rfl⟩ hd_X13_readsLine ⟨Nat.le_of_ble_eq_true rfl, Nat.le_of_ble_eq_true rfl⟩ ⟨Nat.zero_le _, Nat.zero_le _⟩ hw [0, 1, 2, 3, 4, 5, 6, 7, 8, 9, 10, 11, 12, 13, 14, 15, 16, 17, 18, 19, 20, 21, 22, 23, 24, 25, 26, 27, 28, 29, 30, 31, 32, 33, 34, 35, 36, 37, 38, 39, 40, 41, 42, 43, 44, 45, 46] rfl rfl 0 rfl rfl rfl rfl hl.1 rfl (Nat.le_of_ble_eq_true rfl) dX13_months_24 (fun H locs hw => ?_)
      have hw : Wd E A s.heap (wX13 E t_o t_q t_thrown t_taped t_tape t_size r24.2.1 r24.2.2.1 r24.2.2.2.1 r24.2.2.2.2.1 r24.2.2.2.2.2.1 r24.2.2.2.2.2.2.1 t_city t_manName t_dangerName t_decreeName t_kind t_skill t_fieldTold t_want t_hates t_restsOn t_sizeTold t_grows t_lineFrom t_lineTo t_codes t_code t_lawLine t_toldLines t_opened t_compared t_kept t_keptBy t_ahead t_against t_sum t_sumBy t_term t_termBy t_byNot t_valueOf r24.2.2.2.2.2.2.2.1 t_fresh t_consulsMany r24.2.2.2.2.2.2.2.2.1 r24.2.2.2.2.2.2.2.2.2.1 r24.2.2.2.2.2.2.2.2.2.2.1 r24.2.2.2.2.2.2.2.2.2.2.2 t_tolds t_toldDanger t_toldMonths t_toldSize t_s t_aside t_tried t_marked t_undone t_isLaid t_done t_heading t_bestHeading t_leastLeft t_goesTo t_bestGoes t_leastMonths t_g) H locs := hw
      refine lv_if_ne (tgt := 16) hx hb dX13_months_27 (by decide) (fun c_27 => ?_) (fun c_27 => ?_)
      · have hf := (if_neg c_27).symm.trans hf
        exact ih hf hw (lv_sub hl [0] rfl)
      · have hf := (if_pos c_27).symm.trans hf
        refine lv_aload_n hx hb dX13_months_30 rfl (lv_at hl 0 rfl) ?_
        refine k_get (q0 := 0) (ci := 11) (C := RX13) (T := TX13) (N := 65) (x := .int (r24.2.2.2.2.2.2.1)) X inx_13 hw rfl rfl 9 (by decide) rfl tw_1382 rfl dX13_months_31 ?_
        obtain rfl := Option.some.inj hf
        exact k_iret X hw dX13_months_34
set_option maxRecDepth 100000 in
set_option maxHeartbeats 4000000 in
theorem c_X13_months {E : En} {l : Launch} {t_o : Nat} {t_q : Nat → Nat} {t_thrown : Int32} {t_taped : Int32} {t_tape : (Nat → Int32)} {t_size : Int32} {t_place : Int32} {t_begin : Int32} {t_token : Int32} {t_word : Int64} {t_told : Int32} {t_wrong : Int32} {t_city : (Nat → Int32)} {t_manName : (Nat → Int64)} {t_dangerName : (Nat → Int64)} {t_decreeName : (Nat → Int64)} {t_kind : (Nat → Int32)} {t_skill : (Nat → Int32)} {t_fieldTold : (Nat → Int32)} {t_want : (Nat → Int32)} {t_hates : (Nat → Int32)} {t_restsOn : (Nat → Int32)} {t_sizeTold : (Nat → Int32)} {t_grows : (Nat → Int32)} {t_lineFrom : (Nat → Int32)} {t_lineTo : (Nat → Int32)} {t_codes : (Nat → Int32)} {t_code : Int32} {t_lawLine : Int32} {t_toldLines : Int32} {t_opened : (Nat → Int32)} {t_compared : (Nat → Int32)} {t_kept : (Nat → Int32)} {t_keptBy : (Nat → Int32)} {t_ahead : (Nat → Int32)} {t_against : (Nat → Int32)} {t_sum : (Nat → Int32)} {t_sumBy : (Nat → Int32)} {t_term : (Nat → Int32)} {t_termBy : (Nat → Int32)} {t_byNot : (Nat → Int32)} {t_valueOf : (Nat → Int32)} {t_given : Int32} {t_fresh : Int64} {t_consulsMany : Int32} {t_lines : (Nat → Int32)} {t_lineWhat : (Nat → Int32)} {t_lineA : (Nat → Int32)} {t_lineB : (Nat → Int32)} {t_tolds : (Nat → Int32)} {t_toldDanger : (Nat → Int32)} {t_toldMonths : (Nat → Int32)} {t_toldSize : (Nat → Int32)} {t_s : (Nat → Int32)} {t_aside : (Nat → Int32)} {t_tried : (Nat → Int32)} {t_marked : (Nat → Int32)} {t_undone : (Nat → Int32)} {t_isLaid : (Nat → Int32)} {t_done : Int32} {t_heading : (Nat → Int32)} {t_bestHeading : (Nat → Int32)} {t_leastLeft : Int32} {t_goesTo : (Nat → Int32)} {t_bestGoes : (Nat → Int32)} {t_leastMonths : Int32} {t_g : Int64}  {out : Int32 × Int32 × Int32 × Int32 × Int32 × Int32 × Int32 × Int64 × Int32 × Int32 × Int32 × (Nat → Int32) × (Nat → Int32) × (Nat → Int32) × (Nat → Int32)} (hf : f_X13_months t_taped t_tape t_wrong t_city t_manName t_dangerName t_given t_lines t_lineWhat t_lineA t_lineB = some out) : Cn E l yX13_months cX13_months 1 (some .int) rm_X13_months [.ref t_o] (wX13 E t_o t_q t_thrown t_taped t_tape t_size t_place t_begin t_token t_word t_told t_wrong t_city t_manName t_dangerName t_decreeName t_kind t_skill t_fieldTold t_want t_hates t_restsOn t_sizeTold t_grows t_lineFrom t_lineTo t_codes t_code t_lawLine t_toldLines t_opened t_compared t_kept t_keptBy t_ahead t_against t_sum t_sumBy t_term t_termBy t_byNot t_valueOf t_given t_fresh t_consulsMany t_lines t_lineWhat t_lineA t_lineB t_tolds t_toldDanger t_toldMonths t_toldSize t_s t_aside t_tried t_marked t_undone t_isLaid t_done t_heading t_bestHeading t_leastLeft t_goesTo t_bestGoes t_leastMonths t_g) (some (.int out.1)) (wX13 E t_o t_q out.2.1 out.2.2.1 t_tape out.2.2.2.1 out.2.2.2.2.1 out.2.2.2.2.2.1 out.2.2.2.2.2.2.1 out.2.2.2.2.2.2.2.1 out.2.2.2.2.2.2.2.2.1 out.2.2.2.2.2.2.2.2.2.1 t_city t_manName t_dangerName t_decreeName t_kind t_skill t_fieldTold t_want t_hates t_restsOn t_sizeTold t_grows t_lineFrom t_lineTo t_codes t_code t_lawLine t_toldLines t_opened t_compared t_kept t_keptBy t_ahead t_against t_sum t_sumBy t_term t_termBy t_byNot t_valueOf out.2.2.2.2.2.2.2.2.2.2.1 t_fresh t_consulsMany out.2.2.2.2.2.2.2.2.2.2.2.1 out.2.2.2.2.2.2.2.2.2.2.2.2.1 out.2.2.2.2.2.2.2.2.2.2.2.2.2.1 out.2.2.2.2.2.2.2.2.2.2.2.2.2.2 t_tolds t_toldDanger t_toldMonths t_toldSize t_s t_aside t_tried t_marked t_undone t_isLaid t_done t_heading t_bestHeading t_leastLeft t_goesTo t_bestGoes t_leastMonths t_g) := by
  refine Cn.of (by decide) (Nat.le_of_ble_eq_true rfl) rfl ?_
  intro p e s m below meth c A ls args H locs X hw hl
  have hx := X.1.1
  have hb := X.1.2.1
  have ho := X.1.2.2.2.1
  have hts := X.1.2.2.2.2
  have hl : lv_has ls 1 [(0, .ref t_o)] := hl
  unfold f_X13_months at hf
  refine lv_aload_n hx hb dX13_months_0 rfl (lv_at hl 0 rfl) ?_
  refine lv_iconst (v := (0 : Int32)) hx hb dX13_months_1 (by decide) ?_
  refine k_put (q0 := 0) (ci := 11) (C := RX13) (T := TX13) (N := 65) (ty0 := tyX13) (x := .int ((0 : Int32))) X inx_13 tyX13_ok nmX13 hw rfl rfl 0 (by decide) rfl rfl tw_1373 rfl rfl (Nat.le_of_ble_eq_true rfl) dX13_months_2 (fun H locs hw => ?_)
  have hw : Wd E A s.heap (wX13 E t_o t_q ((0 : Int32)) t_taped t_tape t_size t_place t_begin t_token t_word t_told t_wrong t_city t_manName t_dangerName t_decreeName t_kind t_skill t_fieldTold t_want t_hates t_restsOn t_sizeTold t_grows t_lineFrom t_lineTo t_codes t_code t_lawLine t_toldLines t_opened t_compared t_kept t_keptBy t_ahead t_against t_sum t_sumBy t_term t_termBy t_byNot t_valueOf t_given t_fresh t_consulsMany t_lines t_lineWhat t_lineA t_lineB t_tolds t_toldDanger t_toldMonths t_toldSize t_s t_aside t_tried t_marked t_undone t_isLaid t_done t_heading t_bestHeading t_leastLeft t_goesTo t_bestGoes t_leastMonths t_g) H locs := hw
  refine lv_aload_n hx hb dX13_months_5 rfl (lv_at hl 0 rfl) ?_
  refine k_get (q0 := 0) (ci := 11) (C := RX13) (T := TX13) (N := 65) (x := .ref (t_q 43)) X inx_13 hw rfl rfl 43 (by decide) rfl tw_1416 rfl dX13_months_6 ?_
  refine lv_iconst (v := (5 : Int32)) hx hb dX13_months_9 (by decide) ?_
  refine lv_iconst (v := (0 : Int32)) hx hb dX13_months_10 (by decide) ?_
  obtain ⟨hi_11, hf⟩ := gd_some hf
  refine k_iast (q0 := 29) (n := 6) (f := t_lines) X hw rfl hi_11 dX13_months_11 (fun H locs hw => ?_)
  have hw : Wd E A s.heap (wX13 E t_o t_q ((0 : Int32)) t_taped t_tape t_size t_place t_begin t_token t_word t_told t_wrong t_city t_manName t_dangerName t_decreeName t_kind t_skill t_fieldTold t_want t_hates t_restsOn t_sizeTold t_grows t_lineFrom t_lineTo t_codes t_code t_lawLine t_toldLines t_opened t_compared t_kept t_keptBy t_ahead t_against t_sum t_sumBy t_term t_termBy t_byNot t_valueOf t_given t_fresh t_consulsMany (upd t_lines ((5 : Int32)).toNatClampNeg ((0 : Int32))) t_lineWhat t_lineA t_lineB t_tolds t_toldDanger t_toldMonths t_toldSize t_s t_aside t_tried t_marked t_undone t_isLaid t_done t_heading t_bestHeading t_leastLeft t_goesTo t_bestGoes t_leastMonths t_g) H locs := hw
  refine lv_aload_n hx hb dX13_months_12 rfl (lv_at hl 0 rfl) ?_
  obtain ⟨r13, hc_13, hf⟩ := bd_some hf
  refine k_V (As := []) (rest := []) (index := 348) (C := RX13) X (c_X13_begins hc_13) tw_1587 tw_1589 tw_47 tw_130 tw_1590 ⟨rfl, rfl⟩ hd_X13_begins ⟨Nat.le_of_ble_eq_true rfl, Nat.le_of_ble_eq_true rfl⟩ ⟨Nat.zero_le _, Nat.zero_le _⟩ hw [0, 1, 2, 3, 4, 5, 6, 7, 8, 9, 10, 11, 12, 13, 14, 15, 16, 17, 18, 19, 20, 21, 22, 23, 24, 25, 26, 27, 28, 29, 30, 31, 32, 33, 34, 35, 36, 37, 38, 39, 40, 41, 42, 43, 44, 45, 46] rfl rfl 0 rfl rfl rfl rfl hl.1 rfl (Nat.le_of_ble_eq_true rfl) dX13_months_13 (fun H locs hw => ?_)
  have hw : Wd E A s.heap (wX13 E t_o t_q ((0 : Int32)) r13.1 t_tape r13.2.1 r13.2.2.1 r13.2.2.2.1 r13.2.2.2.2.1 r13.2.2.2.2.2.1 r13.2.2.2.2.2.2 t_wrong t_city t_manName t_dangerName t_decreeName t_kind t_skill t_fieldTold t_want t_hates t_restsOn t_sizeTold t_grows t_lineFrom t_lineTo t_codes t_code t_lawLine t_toldLines t_opened t_compared t_kept t_keptBy t_ahead t_against t_sum t_sumBy t_term t_termBy t_byNot t_valueOf t_given t_fresh t_consulsMany (upd t_lines ((5 : Int32)).toNatClampNeg ((0 : Int32))) t_lineWhat t_lineA t_lineB t_tolds t_toldDanger t_toldMonths t_toldSize t_s t_aside t_tried t_marked t_undone t_isLaid t_done t_heading t_bestHeading t_leastLeft t_goesTo t_bestGoes t_leastMonths t_g) H locs := hw
  exact kb_X13_months_16 X 1100 hf hw (lv_sub hl [0] rfl)
/-! private boolean isMan(int); -/
def f_X13_isMan (t_city : (Nat → Int32)) (x1 : Int32) : Option (Int32) := if x1 < (0 : Int32) then some ((0 : Int32))
  else gd ((0 : Int32)) 10 (if (t_city ((0 : Int32)).toNatClampNeg) ≤ x1 then some ((0 : Int32))
  else some ((1 : Int32)))
abbrev rm_X13_isMan : Room := { frames := 0, cells := 0, slots := 0, locals := 0 }
theorem hd_X13_isMan : yX13_isMan.cls = RX13 ∧ yX13_isMan.cls ≠ "java/lang/invoke/MethodHandle" ∧ yX13_isMan.cls ≠ "java/lang/invoke/VarHandle" ∧ (parseMethodDescriptor yX13_isMan.desc).map (fun d => d.parameters.length) = some 1 := by decide +kernel
set_option maxRecDepth 100000 in
set_option maxHeartbeats 4000000 in
theorem c_X13_isMan {E : En} {l : Launch} {t_o : Nat} {t_q : Nat → Nat} {t_thrown : Int32} {t_taped : Int32} {t_tape : (Nat → Int32)} {t_size : Int32} {t_place : Int32} {t_begin : Int32} {t_token : Int32} {t_word : Int64} {t_told : Int32} {t_wrong : Int32} {t_city : (Nat → Int32)} {t_manName : (Nat → Int64)} {t_dangerName : (Nat → Int64)} {t_decreeName : (Nat → Int64)} {t_kind : (Nat → Int32)} {t_skill : (Nat → Int32)} {t_fieldTold : (Nat → Int32)} {t_want : (Nat → Int32)} {t_hates : (Nat → Int32)} {t_restsOn : (Nat → Int32)} {t_sizeTold : (Nat → Int32)} {t_grows : (Nat → Int32)} {t_lineFrom : (Nat → Int32)} {t_lineTo : (Nat → Int32)} {t_codes : (Nat → Int32)} {t_code : Int32} {t_lawLine : Int32} {t_toldLines : Int32} {t_opened : (Nat → Int32)} {t_compared : (Nat → Int32)} {t_kept : (Nat → Int32)} {t_keptBy : (Nat → Int32)} {t_ahead : (Nat → Int32)} {t_against : (Nat → Int32)} {t_sum : (Nat → Int32)} {t_sumBy : (Nat → Int32)} {t_term : (Nat → Int32)} {t_termBy : (Nat → Int32)} {t_byNot : (Nat → Int32)} {t_valueOf : (Nat → Int32)} {t_given : Int32} {t_fresh : Int64} {t_consulsMany : Int32} {t_lines : (Nat → Int32)} {t_lineWhat : (Nat → Int32)} {t_lineA : (Nat → Int32)} {t_lineB : (Nat → Int32)} {t_tolds : (Nat → Int32)} {t_toldDanger : (Nat → Int32)} {t_toldMonths : (Nat → Int32)} {t_toldSize : (Nat → Int32)} {t_s : (Nat → Int32)} {t_aside : (Nat → Int32)} {t_tried : (Nat → Int32)} {t_marked : (Nat → Int32)} {t_undone : (Nat → Int32)} {t_isLaid : (Nat → Int32)} {t_done : Int32} {t_heading : (Nat → Int32)} {t_bestHeading : (Nat → Int32)} {t_leastLeft : Int32} {t_goesTo : (Nat → Int32)} {t_bestGoes : (Nat → Int32)} {t_leastMonths : Int32} {t_g : Int64} {x1 : Int32} {out : Int32} (hf : f_X13_isMan t_city x1 = some out) : Cn E l yX13_isMan cX13_isMan 2 (some .boolean) rm_X13_isMan [.ref t_o, .int (x1)] (wX13 E t_o t_q t_thrown t_taped t_tape t_size t_place t_begin t_token t_word t_told t_wrong t_city t_manName t_dangerName t_decreeName t_kind t_skill t_fieldTold t_want t_hates t_restsOn t_sizeTold t_grows t_lineFrom t_lineTo t_codes t_code t_lawLine t_toldLines t_opened t_compared t_kept t_keptBy t_ahead t_against t_sum t_sumBy t_term t_termBy t_byNot t_valueOf t_given t_fresh t_consulsMany t_lines t_lineWhat t_lineA t_lineB t_tolds t_toldDanger t_toldMonths t_toldSize t_s t_aside t_tried t_marked t_undone t_isLaid t_done t_heading t_bestHeading t_leastLeft t_goesTo t_bestGoes t_leastMonths t_g) (some (.int out)) (wX13 E t_o t_q t_thrown t_taped t_tape t_size t_place t_begin t_token t_word t_told t_wrong t_city t_manName t_dangerName t_decreeName t_kind t_skill t_fieldTold t_want t_hates t_restsOn t_sizeTold t_grows t_lineFrom t_lineTo t_codes t_code t_lawLine t_toldLines t_opened t_compared t_kept t_keptBy t_ahead t_against t_sum t_sumBy t_term t_termBy t_byNot t_valueOf t_given t_fresh t_consulsMany t_lines t_lineWhat t_lineA t_lineB t_tolds t_toldDanger t_toldMonths t_toldSize t_s t_aside t_tried t_marked t_undone t_isLaid t_done t_heading t_bestHeading t_leastLeft t_goesTo t_bestGoes t_leastMonths t_g) := by
  refine Cn.of (by decide) (Nat.le_of_ble_eq_true rfl) rfl ?_
  intro p e s m below meth c A ls args H locs X hw hl
  have hx := X.1.1
  have hb := X.1.2.1
  have ho := X.1.2.2.2.1
  have hts := X.1.2.2.2.2
  have hl : lv_has ls 2 [(0, .ref t_o), (1, .int (x1))] := hl
  unfold f_X13_isMan at hf
  refine lv_iload_n hx hb dX13_isMan_0 rfl (lv_at hl 1 rfl) ?_
  refine lv_if_lt (tgt := 18) hx hb dX13_isMan_1 (by decide) (fun c_1 => ?_) (fun c_1 => ?_)
  · have hf := (if_pos c_1).symm.trans hf
    refine lv_iconst (v := (0 : Int32)) hx hb dX13_isMan_18 (by decide) ?_
    obtain rfl := Option.some.inj hf
    exact k_zret X (Or.inl rfl) hw dX13_isMan_19
  · have hf := (if_neg c_1).symm.trans hf
    refine lv_iload_n hx hb dX13_isMan_4 rfl (lv_at hl 1 rfl) ?_
    refine lv_aload_n hx hb dX13_isMan_5 rfl (lv_at hl 0 rfl) ?_
    refine k_get (q0 := 0) (ci := 11) (C := RX13) (T := TX13) (N := 65) (x := .ref (t_q 10)) X inx_13 hw rfl rfl 10 (by decide) rfl tw_1383 rfl dX13_isMan_6 ?_
    refine lv_iconst (v := (0 : Int32)) hx hb dX13_isMan_9 (by decide) ?_
    obtain ⟨hi_10, hf⟩ := gd_some hf
    refine k_iald (q0 := 2) (n := 10) (f := t_city) X hw rfl hi_10 dX13_isMan_10 ?_
    refine lv_icmp_ge (tgt := 18) hx hb dX13_isMan_11 (by decide) (fun c_11 => ?_) (fun c_11 => ?_)
    · have hf := (if_pos c_11).symm.trans hf
      refine lv_iconst (v := (0 : Int32)) hx hb dX13_isMan_18 (by decide) ?_
      obtain rfl := Option.some.inj hf
      exact k_zret X (Or.inl rfl) hw dX13_isMan_19
    · have hf := (if_neg c_11).symm.trans hf
      refine lv_iconst (v := (1 : Int32)) hx hb dX13_isMan_14 (by decide) ?_
      refine lv_goto (tgt := 19) hx hb dX13_isMan_15 (by decide) ?_
      obtain rfl := Option.some.inj hf
      exact k_zret X (Or.inr rfl) hw dX13_isMan_19
/-! private boolean isDanger(int); -/
def f_X13_isDanger (t_city : (Nat → Int32)) (x1 : Int32) : Option (Int32) := if x1 < (0 : Int32) then some ((0 : Int32))
  else gd ((1 : Int32)) 10 (if (t_city ((1 : Int32)).toNatClampNeg) ≤ x1 then some ((0 : Int32))
  else some ((1 : Int32)))
abbrev rm_X13_isDanger : Room := { frames := 0, cells := 0, slots := 0, locals := 0 }
theorem hd_X13_isDanger : yX13_isDanger.cls = RX13 ∧ yX13_isDanger.cls ≠ "java/lang/invoke/MethodHandle" ∧ yX13_isDanger.cls ≠ "java/lang/invoke/VarHandle" ∧ (parseMethodDescriptor yX13_isDanger.desc).map (fun d => d.parameters.length) = some 1 := by decide +kernel
set_option maxRecDepth 100000 in
set_option maxHeartbeats 4000000 in
theorem c_X13_isDanger {E : En} {l : Launch} {t_o : Nat} {t_q : Nat → Nat} {t_thrown : Int32} {t_taped : Int32} {t_tape : (Nat → Int32)} {t_size : Int32} {t_place : Int32} {t_begin : Int32} {t_token : Int32} {t_word : Int64} {t_told : Int32} {t_wrong : Int32} {t_city : (Nat → Int32)} {t_manName : (Nat → Int64)} {t_dangerName : (Nat → Int64)} {t_decreeName : (Nat → Int64)} {t_kind : (Nat → Int32)} {t_skill : (Nat → Int32)} {t_fieldTold : (Nat → Int32)} {t_want : (Nat → Int32)} {t_hates : (Nat → Int32)} {t_restsOn : (Nat → Int32)} {t_sizeTold : (Nat → Int32)} {t_grows : (Nat → Int32)} {t_lineFrom : (Nat → Int32)} {t_lineTo : (Nat → Int32)} {t_codes : (Nat → Int32)} {t_code : Int32} {t_lawLine : Int32} {t_toldLines : Int32} {t_opened : (Nat → Int32)} {t_compared : (Nat → Int32)} {t_kept : (Nat → Int32)} {t_keptBy : (Nat → Int32)} {t_ahead : (Nat → Int32)} {t_against : (Nat → Int32)} {t_sum : (Nat → Int32)} {t_sumBy : (Nat → Int32)} {t_term : (Nat → Int32)} {t_termBy : (Nat → Int32)} {t_byNot : (Nat → Int32)} {t_valueOf : (Nat → Int32)} {t_given : Int32} {t_fresh : Int64} {t_consulsMany : Int32} {t_lines : (Nat → Int32)} {t_lineWhat : (Nat → Int32)} {t_lineA : (Nat → Int32)} {t_lineB : (Nat → Int32)} {t_tolds : (Nat → Int32)} {t_toldDanger : (Nat → Int32)} {t_toldMonths : (Nat → Int32)} {t_toldSize : (Nat → Int32)} {t_s : (Nat → Int32)} {t_aside : (Nat → Int32)} {t_tried : (Nat → Int32)} {t_marked : (Nat → Int32)} {t_undone : (Nat → Int32)} {t_isLaid : (Nat → Int32)} {t_done : Int32} {t_heading : (Nat → Int32)} {t_bestHeading : (Nat → Int32)} {t_leastLeft : Int32} {t_goesTo : (Nat → Int32)} {t_bestGoes : (Nat → Int32)} {t_leastMonths : Int32} {t_g : Int64} {x1 : Int32} {out : Int32} (hf : f_X13_isDanger t_city x1 = some out) : Cn E l yX13_isDanger cX13_isDanger 2 (some .boolean) rm_X13_isDanger [.ref t_o, .int (x1)] (wX13 E t_o t_q t_thrown t_taped t_tape t_size t_place t_begin t_token t_word t_told t_wrong t_city t_manName t_dangerName t_decreeName t_kind t_skill t_fieldTold t_want t_hates t_restsOn t_sizeTold t_grows t_lineFrom t_lineTo t_codes t_code t_lawLine t_toldLines t_opened t_compared t_kept t_keptBy t_ahead t_against t_sum t_sumBy t_term t_termBy t_byNot t_valueOf t_given t_fresh t_consulsMany t_lines t_lineWhat t_lineA t_lineB t_tolds t_toldDanger t_toldMonths t_toldSize t_s t_aside t_tried t_marked t_undone t_isLaid t_done t_heading t_bestHeading t_leastLeft t_goesTo t_bestGoes t_leastMonths t_g) (some (.int out)) (wX13 E t_o t_q t_thrown t_taped t_tape t_size t_place t_begin t_token t_word t_told t_wrong t_city t_manName t_dangerName t_decreeName t_kind t_skill t_fieldTold t_want t_hates t_restsOn t_sizeTold t_grows t_lineFrom t_lineTo t_codes t_code t_lawLine t_toldLines t_opened t_compared t_kept t_keptBy t_ahead t_against t_sum t_sumBy t_term t_termBy t_byNot t_valueOf t_given t_fresh t_consulsMany t_lines t_lineWhat t_lineA t_lineB t_tolds t_toldDanger t_toldMonths t_toldSize t_s t_aside t_tried t_marked t_undone t_isLaid t_done t_heading t_bestHeading t_leastLeft t_goesTo t_bestGoes t_leastMonths t_g) := by
  refine Cn.of (by decide) (Nat.le_of_ble_eq_true rfl) rfl ?_
  intro p e s m below meth c A ls args H locs X hw hl
  have hx := X.1.1
  have hb := X.1.2.1
  have ho := X.1.2.2.2.1
  have hts := X.1.2.2.2.2
  have hl : lv_has ls 2 [(0, .ref t_o), (1, .int (x1))] := hl
  unfold f_X13_isDanger at hf
  refine lv_iload_n hx hb dX13_isDanger_0 rfl (lv_at hl 1 rfl) ?_
  refine lv_if_lt (tgt := 18) hx hb dX13_isDanger_1 (by decide) (fun c_1 => ?_) (fun c_1 => ?_)
  · have hf := (if_pos c_1).symm.trans hf
    refine lv_iconst (v := (0 : Int32)) hx hb dX13_isDanger_18 (by decide) ?_
    obtain rfl := Option.some.inj hf
    exact k_zret X (Or.inl rfl) hw dX13_isDanger_19
  · have hf := (if_neg c_1).symm.trans hf
    refine lv_iload_n hx hb dX13_isDanger_4 rfl (lv_at hl 1 rfl) ?_
    refine lv_aload_n hx hb dX13_isDanger_5 rfl (lv_at hl 0 rfl) ?_
    refine k_get (q0 := 0) (ci := 11) (C := RX13) (T := TX13) (N := 65) (x := .ref (t_q 10)) X inx_13 hw rfl rfl 10 (by decide) rfl tw_1383 rfl dX13_isDanger_6 ?_
    refine lv_iconst (v := (1 : Int32)) hx hb dX13_isDanger_9 (by decide) ?_
    obtain ⟨hi_10, hf⟩ := gd_some hf
    refine k_iald (q0 := 2) (n := 10) (f := t_city) X hw rfl hi_10 dX13_isDanger_10 ?_
    refine lv_icmp_ge (tgt := 18) hx hb dX13_isDanger_11 (by decide) (fun c_11 => ?_) (fun c_11 => ?_)
    · have hf := (if_pos c_11).symm.trans hf
      refine lv_iconst (v := (0 : Int32)) hx hb dX13_isDanger_18 (by decide) ?_
      obtain rfl := Option.some.inj hf
      exact k_zret X (Or.inl rfl) hw dX13_isDanger_19
    · have hf := (if_neg c_11).symm.trans hf
      refine lv_iconst (v := (1 : Int32)) hx hb dX13_isDanger_14 (by decide) ?_
      refine lv_goto (tgt := 19) hx hb dX13_isDanger_15 (by decide) ?_
      obtain rfl := Option.some.inj hf
      exact k_zret X (Or.inr rfl) hw dX13_isDanger_19
/-! private boolean isConsul(int); -/
def f_X13_isConsul (t_city : (Nat → Int32)) (x1 : Int32) : Option (Int32) := gd ((3 : Int32)) 10 (if (((t_city ((3 : Int32)).toNatClampNeg) >>> (x1 &&& (31 : Int32))) &&& (1 : Int32)) = (1 : Int32) then some ((1 : Int32))
  else some ((0 : Int32)))
abbrev rm_X13_isConsul : Room := { frames := 0, cells := 0, slots := 0, locals := 0 }
theorem hd_X13_isConsul : yX13_isConsul.cls = RX13 ∧ yX13_isConsul.cls ≠ "java/lang/invoke/MethodHandle" ∧ yX13_isConsul.cls ≠ "java/lang/invoke/VarHandle" ∧ (parseMethodDescriptor yX13_isConsul.desc).map (fun d => d.parameters.length) = some 1 := by decide +kernel
set_option maxRecDepth 100000 in
set_option maxHeartbeats 4000000 in
theorem c_X13_isConsul {E : En} {l : Launch} {t_o : Nat} {t_q : Nat → Nat} {t_thrown : Int32} {t_taped : Int32} {t_tape : (Nat → Int32)} {t_size : Int32} {t_place : Int32} {t_begin : Int32} {t_token : Int32} {t_word : Int64} {t_told : Int32} {t_wrong : Int32} {t_city : (Nat → Int32)} {t_manName : (Nat → Int64)} {t_dangerName : (Nat → Int64)} {t_decreeName : (Nat → Int64)} {t_kind : (Nat → Int32)} {t_skill : (Nat → Int32)} {t_fieldTold : (Nat → Int32)} {t_want : (Nat → Int32)} {t_hates : (Nat → Int32)} {t_restsOn : (Nat → Int32)} {t_sizeTold : (Nat → Int32)} {t_grows : (Nat → Int32)} {t_lineFrom : (Nat → Int32)} {t_lineTo : (Nat → Int32)} {t_codes : (Nat → Int32)} {t_code : Int32} {t_lawLine : Int32} {t_toldLines : Int32} {t_opened : (Nat → Int32)} {t_compared : (Nat → Int32)} {t_kept : (Nat → Int32)} {t_keptBy : (Nat → Int32)} {t_ahead : (Nat → Int32)} {t_against : (Nat → Int32)} {t_sum : (Nat → Int32)} {t_sumBy : (Nat → Int32)} {t_term : (Nat → Int32)} {t_termBy : (Nat → Int32)} {t_byNot : (Nat → Int32)} {t_valueOf : (Nat → Int32)} {t_given : Int32} {t_fresh : Int64} {t_consulsMany : Int32} {t_lines : (Nat → Int32)} {t_lineWhat : (Nat → Int32)} {t_lineA : (Nat → Int32)} {t_lineB : (Nat → Int32)} {t_tolds : (Nat → Int32)} {t_toldDanger : (Nat → Int32)} {t_toldMonths : (Nat → Int32)} {t_toldSize : (Nat → Int32)} {t_s : (Nat → Int32)} {t_aside : (Nat → Int32)} {t_tried : (Nat → Int32)} {t_marked : (Nat → Int32)} {t_undone : (Nat → Int32)} {t_isLaid : (Nat → Int32)} {t_done : Int32} {t_heading : (Nat → Int32)} {t_bestHeading : (Nat → Int32)} {t_leastLeft : Int32} {t_goesTo : (Nat → Int32)} {t_bestGoes : (Nat → Int32)} {t_leastMonths : Int32} {t_g : Int64} {x1 : Int32} {out : Int32} (hf : f_X13_isConsul t_city x1 = some out) : Cn E l yX13_isConsul cX13_isConsul 2 (some .boolean) rm_X13_isConsul [.ref t_o, .int (x1)] (wX13 E t_o t_q t_thrown t_taped t_tape t_size t_place t_begin t_token t_word t_told t_wrong t_city t_manName t_dangerName t_decreeName t_kind t_skill t_fieldTold t_want t_hates t_restsOn t_sizeTold t_grows t_lineFrom t_lineTo t_codes t_code t_lawLine t_toldLines t_opened t_compared t_kept t_keptBy t_ahead t_against t_sum t_sumBy t_term t_termBy t_byNot t_valueOf t_given t_fresh t_consulsMany t_lines t_lineWhat t_lineA t_lineB t_tolds t_toldDanger t_toldMonths t_toldSize t_s t_aside t_tried t_marked t_undone t_isLaid t_done t_heading t_bestHeading t_leastLeft t_goesTo t_bestGoes t_leastMonths t_g) (some (.int out)) (wX13 E t_o t_q t_thrown t_taped t_tape t_size t_place t_begin t_token t_word t_told t_wrong t_city t_manName t_dangerName t_decreeName t_kind t_skill t_fieldTold t_want t_hates t_restsOn t_sizeTold t_grows t_lineFrom t_lineTo t_codes t_code t_lawLine t_toldLines t_opened t_compared t_kept t_keptBy t_ahead t_against t_sum t_sumBy t_term t_termBy t_byNot t_valueOf t_given t_fresh t_consulsMany t_lines t_lineWhat t_lineA t_lineB t_tolds t_toldDanger t_toldMonths t_toldSize t_s t_aside t_tried t_marked t_undone t_isLaid t_done t_heading t_bestHeading t_leastLeft t_goesTo t_bestGoes t_leastMonths t_g) := by
  refine Cn.of (by decide) (Nat.le_of_ble_eq_true rfl) rfl ?_
  intro p e s m below meth c A ls args H locs X hw hl
  have hx := X.1.1
  have hb := X.1.2.1
  have ho := X.1.2.2.2.1
  have hts := X.1.2.2.2.2
  have hl : lv_has ls 2 [(0, .ref t_o), (1, .int (x1))] := hl
  unfold f_X13_isConsul at hf
  refine lv_aload_n hx hb dX13_isConsul_0 rfl (lv_at hl 0 rfl) ?_
  refine k_get (q0 := 0) (ci := 11) (C := RX13) (T := TX13) (N := 65) (x := .ref (t_q 10)) X inx_13 hw rfl rfl 10 (by decide) rfl tw_1383 rfl dX13_isConsul_1 ?_
  refine lv_iconst (v := (3 : Int32)) hx hb dX13_isConsul_4 (by decide) ?_
  obtain ⟨hi_5, hf⟩ := gd_some hf
  refine k_iald (q0 := 2) (n := 10) (f := t_city) X hw rfl hi_5 dX13_isConsul_5 ?_
  refine lv_iload_n hx hb dX13_isConsul_6 rfl (lv_at hl 1 rfl) ?_
  refine lv_ishr hx hb dX13_isConsul_7 ?_
  refine lv_iconst (v := (1 : Int32)) hx hb dX13_isConsul_8 (by decide) ?_
  refine lv_iand hx hb dX13_isConsul_9 ?_
  refine lv_iconst (v := (1 : Int32)) hx hb dX13_isConsul_10 (by decide) ?_
  refine lv_icmp_ne (tgt := 18) hx hb dX13_isConsul_11 (by decide) (fun c_11 => ?_) (fun c_11 => ?_)
  · have hf := (if_neg c_11).symm.trans hf
    refine lv_iconst (v := (0 : Int32)) hx hb dX13_isConsul_18 (by decide) ?_
    obtain rfl := Option.some.inj hf
    exact k_zret X (Or.inl rfl) hw dX13_isConsul_19
  · have hf := (if_pos c_11).symm.trans hf
    refine lv_iconst (v := (1 : Int32)) hx hb dX13_isConsul_14 (by decide) ?_
    refine lv_goto (tgt := 19) hx hb dX13_isConsul_15 (by decide) ?_
    obtain rfl := Option.some.inj hf
    exact k_zret X (Or.inr rfl) hw dX13_isConsul_19
/-! private int together(); -/
def f_X13_together_4 : Nat → (Nat → Int32) → (Nat → Int32) → Int32 → Int32 → Option (Int32)
  | 0, _, _, _, _ => none
  | n + 1, t_city, t_s, x1, x2 => gd ((1 : Int32)) 10 (if (t_city ((1 : Int32)).toNatClampNeg) ≤ x2 then some (x1)
    else gd (((6 : Int32) + x2)) 23 (f_X13_together_4 n t_city t_s ((x1 + (t_s (((6 : Int32) + x2)).toNatClampNeg))) ((x2 + (1 : Int32)))))
def f_X13_together (t_city : (Nat → Int32)) (t_s : (Nat → Int32)) : Option (Int32) := f_X13_together_4 1100 t_city t_s ((0 : Int32)) ((0 : Int32))
abbrev rm_X13_together : Room := { frames := 0, cells := 0, slots := 0, locals := 0 }
theorem hd_X13_together : yX13_together.cls = RX13 ∧ yX13_together.cls ≠ "java/lang/invoke/MethodHandle" ∧ yX13_together.cls ≠ "java/lang/invoke/VarHandle" ∧ (parseMethodDescriptor yX13_together.desc).map (fun d => d.parameters.length) = some 0 := by decide +kernel
set_option maxRecDepth 100000 in
set_option maxHeartbeats 4000000 in
theorem kb_X13_together_4 {E : En} {p : Program} {l : Launch} {e : Env} {s : State} {m : MethodId} {args : Array Value} {below : List Frame} {meth : Method} {c : Code} {A : Nat → Prop} {t_o : Nat} {t_q : Nat → Nat} {t_thrown : Int32} {t_taped : Int32} {t_tape : (Nat → Int32)} {t_size : Int32} {t_place : Int32} {t_begin : Int32} {t_token : Int32} {t_word : Int64} {t_told : Int32} {t_wrong : Int32} {t_city : (Nat → Int32)} {t_manName : (Nat → Int64)} {t_dangerName : (Nat → Int64)} {t_decreeName : (Nat → Int64)} {t_kind : (Nat → Int32)} {t_skill : (Nat → Int32)} {t_fieldTold : (Nat → Int32)} {t_want : (Nat → Int32)} {t_hates : (Nat → Int32)} {t_restsOn : (Nat → Int32)} {t_sizeTold : (Nat → Int32)} {t_grows : (Nat → Int32)} {t_lineFrom : (Nat → Int32)} {t_lineTo : (Nat → Int32)} {t_codes : (Nat → Int32)} {t_code : Int32} {t_lawLine : Int32} {t_toldLines : Int32} {t_opened : (Nat → Int32)} {t_compared : (Nat → Int32)} {t_kept : (Nat → Int32)} {t_keptBy : (Nat → Int32)} {t_ahead : (Nat → Int32)} {t_against : (Nat → Int32)} {t_sum : (Nat → Int32)} {t_sumBy : (Nat → Int32)} {t_term : (Nat → Int32)} {t_termBy : (Nat → Int32)} {t_byNot : (Nat → Int32)} {t_valueOf : (Nat → Int32)} {t_given : Int32} {t_fresh : Int64} {t_consulsMany : Int32} {t_lines : (Nat → Int32)} {t_lineWhat : (Nat → Int32)} {t_lineA : (Nat → Int32)} {t_lineB : (Nat → Int32)} {t_tolds : (Nat → Int32)} {t_toldDanger : (Nat → Int32)} {t_toldMonths : (Nat → Int32)} {t_toldSize : (Nat → Int32)} {t_s : (Nat → Int32)} {t_aside : (Nat → Int32)} {t_tried : (Nat → Int32)} {t_marked : (Nat → Int32)} {t_undone : (Nat → Int32)} {t_isLaid : (Nat → Int32)} {t_done : Int32} {t_heading : (Nat → Int32)} {t_bestHeading : (Nat → Int32)} {t_leastLeft : Int32} {t_goesTo : (Nat → Int32)} {t_bestGoes : (Nat → Int32)} {t_leastMonths : Int32} {t_g : Int64} {out : Int32} (X : Bx E A p s m args meth c cX13_together 3 RX13 (some .int)) : ∀ (n : Nat) {x1 : Int32} {x2 : Int32} {H : Heap} {locs : List Loc} {ls : Array Slot}, f_X13_together_4 n t_city t_s x1 x2 = some out → Wd E A s.heap (wX13 E t_o t_q t_thrown t_taped t_tape t_size t_place t_begin t_token t_word t_told t_wrong t_city t_manName t_dangerName t_decreeName t_kind t_skill t_fieldTold t_want t_hates t_restsOn t_sizeTold t_grows t_lineFrom t_lineTo t_codes t_code t_lawLine t_toldLines t_opened t_compared t_kept t_keptBy t_ahead t_against t_sum t_sumBy t_term t_termBy t_byNot t_valueOf t_given t_fresh t_consulsMany t_lines t_lineWhat t_lineA t_lineB t_tolds t_toldDanger t_toldMonths t_toldSize t_s t_aside t_tried t_marked t_undone t_isLaid t_done t_heading t_bestHeading t_leastLeft t_goesTo t_bestGoes t_leastMonths t_g) H locs → lv_has ls 3 [(0, .ref t_o), (1, .int (x1)), (2, .int (x2))] → W p l e rm_X13_together s m args below meth c H locs 0 0 (Zn E below args s A (some (.int out)) (wX13 E t_o t_q t_thrown t_taped t_tape t_size t_place t_begin t_token t_word t_told t_wrong t_city t_manName t_dangerName t_decreeName t_kind t_skill t_fieldTold t_want t_hates t_restsOn t_sizeTold t_grows t_lineFrom t_lineTo t_codes t_code t_lawLine t_toldLines t_opened t_compared t_kept t_keptBy t_ahead t_against t_sum t_sumBy t_term t_termBy t_byNot t_valueOf t_given t_fresh t_consulsMany t_lines t_lineWhat t_lineA t_lineB t_tolds t_toldDanger t_toldMonths t_toldSize t_s t_aside t_tried t_marked t_undone t_isLaid t_done t_heading t_bestHeading t_leastLeft t_goesTo t_bestGoes t_leastMonths t_g)) (F0 m 4 ls []) := by
  have hx := X.1.1
  have hb := X.1.2.1
  have ho := X.1.2.2.2.1
  have hts := X.1.2.2.2.2
  intro n
  induction n with
  | zero =>
    intro x1 x2 H locs ls hf
    have hf : (none : Option (Int32)) = some out := hf
    cases hf
  | succ n ih =>
    intro x1 x2 H locs ls hf hw hl
    rw [f_X13_together_4.eq_2] at hf
    refine lv_iload_n hx hb dX13_together_4 rfl (lv_at hl 2 rfl) ?_
    refine lv_aload_n hx hb dX13_together_5 rfl (lv_at hl 0 rfl) ?_
    refine k_get (q0 := 0) (ci := 11) (C := RX13) (T := TX13) (N := 65) (x := .ref (t_q 10)) X inx_13 hw rfl rfl 10 (by decide) rfl tw_1383 rfl dX13_together_6 ?_
    refine lv_iconst (v := (1 : Int32)) hx hb dX13_together_9 (by decide) ?_
    obtain ⟨hi_10, hf⟩ := gd_some hf
    refine k_iald (q0 := 2) (n := 10) (f := t_city) X hw rfl hi_10 dX13_together_10 ?_
    refine lv_icmp_ge (tgt := 32) hx hb dX13_together_11 (by decide) (fun c_11 => ?_) (fun c_11 => ?_)
    · have hf := (if_pos c_11).symm.trans hf
      refine lv_iload_n hx hb dX13_together_32 rfl (lv_at hl 1 rfl) ?_
      obtain rfl := Option.some.inj hf
      exact k_iret X hw dX13_together_33
    · have hf := (if_neg c_11).symm.trans hf
      refine lv_iload_n hx hb dX13_together_14 rfl (lv_at hl 1 rfl) ?_
      refine lv_aload_n hx hb dX13_together_15 rfl (lv_at hl 0 rfl) ?_
      refine k_get (q0 := 0) (ci := 11) (C := RX13) (T := TX13) (N := 65) (x := .ref (t_q 51)) X inx_13 hw rfl rfl 51 (by decide) rfl tw_1424 rfl dX13_together_16 ?_
      refine lv_bipush (v := (6 : Int32)) hx hb dX13_together_19 (by decide) ?_
      refine lv_iload_n hx hb dX13_together_21 rfl (lv_at hl 2 rfl) ?_
      refine lv_iadd hx hb dX13_together_22 ?_
      obtain ⟨hi_23, hf⟩ := gd_some hf
      refine k_iald (q0 := 37) (n := 23) (f := t_s) X hw rfl hi_23 dX13_together_23 ?_
      refine lv_iadd hx hb dX13_together_24 ?_
      refine lv_istore_n (lv' := [(1, .int ((x1 + (t_s (((6 : Int32) + x2)).toNatClampNeg)))), (0, .ref t_o), (2, .int (x2))]) hx hb dX13_together_25 rfl hl (by decide) rfl (fun ls hl => ?_)
      refine lv_iinc (v := (x2 + (1 : Int32))) (lv' := [(2, .int ((x2 + (1 : Int32)))), (1, .int ((x1 + (t_s (((6 : Int32) + x2)).toNatClampNeg)))), (0, .ref t_o)]) hx hb dX13_together_26 hl (k := 2) rfl rfl (by decide) rfl (fun ls hl => ?_)
      refine lv_goto (tgt := 4) hx hb dX13_together_29 (by decide) ?_
      exact ih hf hw (lv_sub hl [2, 1, 0] rfl)
set_option maxRecDepth 100000 in
set_option maxHeartbeats 4000000 in
theorem c_X13_together {E : En} {l : Launch} {t_o : Nat} {t_q : Nat → Nat} {t_thrown : Int32} {t_taped : Int32} {t_tape : (Nat → Int32)} {t_size : Int32} {t_place : Int32} {t_begin : Int32} {t_token : Int32} {t_word : Int64} {t_told : Int32} {t_wrong : Int32} {t_city : (Nat → Int32)} {t_manName : (Nat → Int64)} {t_dangerName : (Nat → Int64)} {t_decreeName : (Nat → Int64)} {t_kind : (Nat → Int32)} {t_skill : (Nat → Int32)} {t_fieldTold : (Nat → Int32)} {t_want : (Nat → Int32)} {t_hates : (Nat → Int32)} {t_restsOn : (Nat → Int32)} {t_sizeTold : (Nat → Int32)} {t_grows : (Nat → Int32)} {t_lineFrom : (Nat → Int32)} {t_lineTo : (Nat → Int32)} {t_codes : (Nat → Int32)} {t_code : Int32} {t_lawLine : Int32} {t_toldLines : Int32} {t_opened : (Nat → Int32)} {t_compared : (Nat → Int32)} {t_kept : (Nat → Int32)} {t_keptBy : (Nat → Int32)} {t_ahead : (Nat → Int32)} {t_against : (Nat → Int32)} {t_sum : (Nat → Int32)} {t_sumBy : (Nat → Int32)} {t_term : (Nat → Int32)} {t_termBy : (Nat → Int32)} {t_byNot : (Nat → Int32)} {t_valueOf : (Nat → Int32)} {t_given : Int32} {t_fresh : Int64} {t_consulsMany : Int32} {t_lines : (Nat → Int32)} {t_lineWhat : (Nat → Int32)} {t_lineA : (Nat → Int32)} {t_lineB : (Nat → Int32)} {t_tolds : (Nat → Int32)} {t_toldDanger : (Nat → Int32)} {t_toldMonths : (Nat → Int32)} {t_toldSize : (Nat → Int32)} {t_s : (Nat → Int32)} {t_aside : (Nat → Int32)} {t_tried : (Nat → Int32)} {t_marked : (Nat → Int32)} {t_undone : (Nat → Int32)} {t_isLaid : (Nat → Int32)} {t_done : Int32} {t_heading : (Nat → Int32)} {t_bestHeading : (Nat → Int32)} {t_leastLeft : Int32} {t_goesTo : (Nat → Int32)} {t_bestGoes : (Nat → Int32)} {t_leastMonths : Int32} {t_g : Int64}  {out : Int32} (hf : f_X13_together t_city t_s = some out) : Cn E l yX13_together cX13_together 3 (some .int) rm_X13_together [.ref t_o] (wX13 E t_o t_q t_thrown t_taped t_tape t_size t_place t_begin t_token t_word t_told t_wrong t_city t_manName t_dangerName t_decreeName t_kind t_skill t_fieldTold t_want t_hates t_restsOn t_sizeTold t_grows t_lineFrom t_lineTo t_codes t_code t_lawLine t_toldLines t_opened t_compared t_kept t_keptBy t_ahead t_against t_sum t_sumBy t_term t_termBy t_byNot t_valueOf t_given t_fresh t_consulsMany t_lines t_lineWhat t_lineA t_lineB t_tolds t_toldDanger t_toldMonths t_toldSize t_s t_aside t_tried t_marked t_undone t_isLaid t_done t_heading t_bestHeading t_leastLeft t_goesTo t_bestGoes t_leastMonths t_g) (some (.int out)) (wX13 E t_o t_q t_thrown t_taped t_tape t_size t_place t_begin t_token t_word t_told t_wrong t_city t_manName t_dangerName t_decreeName t_kind t_skill t_fieldTold t_want t_hates t_restsOn t_sizeTold t_grows t_lineFrom t_lineTo t_codes t_code t_lawLine t_toldLines t_opened t_compared t_kept t_keptBy t_ahead t_against t_sum t_sumBy t_term t_termBy t_byNot t_valueOf t_given t_fresh t_consulsMany t_lines t_lineWhat t_lineA t_lineB t_tolds t_toldDanger t_toldMonths t_toldSize t_s t_aside t_tried t_marked t_undone t_isLaid t_done t_heading t_bestHeading t_leastLeft t_goesTo t_bestGoes t_leastMonths t_g) := by
  refine Cn.of (by decide) (Nat.le_of_ble_eq_true rfl) rfl ?_
  intro p e s m below meth c A ls args H locs X hw hl
  have hx := X.1.1
  have hb := X.1.2.1
  have ho := X.1.2.2.2.1
  have hts := X.1.2.2.2.2
  have hl : lv_has ls 3 [(0, .ref t_o)] := hl
  unfold f_X13_together at hf
  refine lv_iconst (v := (0 : Int32)) hx hb dX13_together_0 (by decide) ?_
  refine lv_istore_n (lv' := [(1, .int ((0 : Int32))), (0, .ref t_o)]) hx hb dX13_together_1 rfl hl (by decide) rfl (fun ls hl => ?_)
  refine lv_iconst (v := (0 : Int32)) hx hb dX13_together_2 (by decide) ?_
  refine lv_istore_n (lv' := [(2, .int ((0 : Int32))), (1, .int ((0 : Int32))), (0, .ref t_o)]) hx hb dX13_together_3 rfl hl (by decide) rfl (fun ls hl => ?_)
  exact kb_X13_together_4 X 1100 hf hw (lv_sub hl [2, 1, 0] rfl)
