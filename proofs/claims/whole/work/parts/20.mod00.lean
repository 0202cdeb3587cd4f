/-! public int thrown(); -/
def f_X13_thrown (t_thrown : Int32) : Int32 := (t_thrown)
abbrev rm_X13_thrown : Room := { frames := 0, cells := 0, slots := 0, locals := 0 }
theorem hd_X13_thrown : yX13_thrown.cls = RX13 ∧ yX13_thrown.cls ≠ "java/lang/invoke/MethodHandle" ∧ yX13_thrown.cls ≠ "java/lang/invoke/VarHandle" ∧ (parseMethodDescriptor yX13_thrown.desc).map (fun d => d.parameters.length) = some 0 := by decide +kernel
set_option maxRecDepth 100000 in
set_option maxHeartbeats 4000000 in
theorem c_X13_thrown {E : En} {l : Launch} {t_o : Nat} {t_q : Nat → Nat} {t_thrown : Int32} {t_taped : Int32} {t_tape : (Nat → Int32)} {t_size : Int32} {t_place : Int32} {t_begin : Int32} {t_token : Int32} {t_word : Int64} {t_told : Int32} {t_wrong : Int32} {t_city : (Nat → Int32)} {t_manName : (Nat → Int64)} {t_dangerName : (Nat → Int64)} {t_decreeName : (Nat → Int64)} {t_kind : (Nat → Int32)} {t_skill : (Nat → Int32)} {t_fieldTold : (Nat → Int32)} {t_want : (Nat → Int32)} {t_hates : (Nat → Int32)} {t_restsOn : (Nat → Int32)} {t_sizeTold : (Nat → Int32)} {t_grows : (Nat → Int32)} {t_lineFrom : (Nat → Int32)} {t_lineTo : (Nat → Int32)} {t_codes : (Nat → Int32)} {t_code : Int32} {t_lawLine : Int32} {t_toldLines : Int32} {t_opened : (Nat → Int32)} {t_compared : (Nat → Int32)} {t_kept : (Nat → Int32)} {t_keptBy : (Nat → Int32)} {t_ahead : (Nat → Int32)} {t_against : (Nat → Int32)} {t_sum : (Nat → Int32)} {t_sumBy : (Nat → Int32)} {t_term : (Nat → Int32)} {t_termBy : (Nat → Int32)} {t_byNot : (Nat → Int32)} {t_valueOf : (Nat → Int32)} {t_given : Int32} {t_fresh : Int64} {t_consulsMany : Int32} {t_lines : (Nat → Int32)} {t_lineWhat : (Nat → Int32)} {t_lineA : (Nat → Int32)} {t_lineB : (Nat → Int32)} {t_tolds : (Nat → Int32)} {t_toldDanger : (Nat → Int32)} {t_toldMonths : (Nat → Int32)} {t_toldSize : (Nat → Int32)} {t_s : (Nat → Int32)} {t_aside : (Nat → Int32)} {t_tried : (Nat → Int32)} {t_marked : (Nat → Int32)} {t_undone : (Nat → Int32)} {t_isLaid : (Nat → Int32)} {t_done : Int32} {t_heading : (Nat → Int32)} {t_bestHeading : (Nat → Int32)} {t_leastLeft : Int32} {t_goesTo : (Nat → Int32)} {t_bestGoes : (Nat → Int32)} {t_leastMonths : Int32} {t_g : Int64}  {out : Int32} (hf : f_X13_thrown t_thrown = out) : Cn E l yX13_thrown cX13_thrown 1 (some .int) rm_X13_thrown [.ref t_o] (wX13 E t_o t_q t_thrown t_taped t_tape t_size t_place t_begin t_token t_word t_told t_wrong t_city t_manName t_dangerName t_decreeName t_kind t_skill t_fieldTold t_want t_hates t_restsOn t_sizeTold t_grows t_lineFrom t_lineTo t_codes t_code t_lawLine t_toldLines t_opened t_compared t_kept t_keptBy t_ahead t_against t_sum t_sumBy t_term t_termBy t_byNot t_valueOf t_given t_fresh t_consulsMany t_lines t_lineWhat t_lineA t_lineB t_tolds t_toldDanger t_toldMonths t_toldSize t_s t_aside t_tried t_marked t_undone t_isLaid t_done t_heading t_bestHeading t_leastLeft t_goesTo t_bestGoes t_leastMonths t_g) (some (.int out)) (wX13 E t_o t_q t_thrown t_taped t_tape t_size t_place t_begin t_token t_word t_told t_wrong t_city t_manName t_dangerName t_decreeName t_kind t_skill t_fieldTold t_want t_hates t_restsOn t_sizeTold t_grows t_lineFrom t_lineTo t_codes t_code t_lawLine t_toldLines t_opened t_compared t_kept t_keptBy t_ahead t_against t_sum t_sumBy t_term t_termBy t_byNot t_valueOf t_given t_fresh t_consulsMany t_lines t_lineWhat t_lineA t_lineB t_tolds t_toldDanger t_toldMonths t_toldSize t_s t_aside t_tried t_marked t_undone t_isLaid t_done t_heading t_bestHeading t_leastLeft t_goesTo t_bestGoes t_leastMonths t_g) := by
  refine Cn.of (by decide) (Nat.le_of_ble_eq_true rfl) rfl ?_
  intro p e s m below meth c A ls args H locs X hw hl
  have hx := X.1.1
  have hb := X.1.2.1
  have ho := X.1.2.2.2.1
  have hts := X.1.2.2.2.2
  have hl : lv_has ls 1 [(0, .ref t_o)] := hl
  unfold f_X13_thrown at hf
  refine lv_aload_n hx hb dX13_thrown_0 rfl (lv_at hl 0 rfl) ?_
  refine k_get (q0 := 0) (ci := 11) (C := RX13) (T := TX13) (N := 65) (x := .int (t_thrown)) X inx_13 hw rfl rfl 0 (by decide) rfl tw_1373 rfl dX13_thrown_1 ?_
  subst hf
  exact k_iret X hw dX13_thrown_4
/-! private static boolean within(int, int, int); -/
def f_X13_within (x0 : Int32) (x1 : Int32) (x2 : Int32) : Int32 := if x0 < x1 then ((0 : Int32))
  else if x2 < x0 then ((0 : Int32))
  else ((1 : Int32))
abbrev rm_X13_within : Room := { frames := 0, cells := 0, slots := 0, locals := 0 }
theorem hd_X13_within : yX13_within.cls = RX13 ∧ yX13_within.cls ≠ "java/lang/invoke/MethodHandle" ∧ yX13_within.cls ≠ "java/lang/invoke/VarHandle" ∧ (parseMethodDescriptor yX13_within.desc).map (fun d => d.parameters.length) = some 3 := by decide +kernel
set_option maxRecDepth 100000 in
set_option maxHeartbeats 4000000 in
theorem c_X13_within {E : En} {l : Launch}  {x0 : Int32} {x1 : Int32} {x2 : Int32} {out : Int32} (hf : f_X13_within x0 x1 x2 = out) : Cn E l yX13_within cX13_within 3 (some .boolean) rm_X13_within [.int (x0), .int (x1), .int (x2)] (([] : va_W)) (some (.int out)) (([] : va_W)) := by
  refine Cn.of (by decide) (Nat.le_of_ble_eq_true rfl) rfl ?_
  intro p e s m below meth c A ls args H locs X hw hl
  have hx := X.1.1
  have hb := X.1.2.1
  have ho := X.1.2.2.2.1
  have hts := X.1.2.2.2.2
  have hl : lv_has ls 3 [(0, .int (x0)), (1, .int (x1)), (2, .int (x2))] := hl
  unfold f_X13_within at hf
  refine lv_iload_n hx hb dX13_within_0 rfl (lv_at hl 0 rfl) ?_
  refine lv_iload_n hx hb dX13_within_1 rfl (lv_at hl 1 rfl) ?_
  refine lv_icmp_lt (tgt := 14) hx hb dX13_within_2 (by decide) (fun c_2 => ?_) (fun c_2 => ?_)
  · have hf := (if_pos c_2).symm.trans hf
    refine lv_iconst (v := (0 : Int32)) hx hb dX13_within_14 (by decide) ?_
    subst hf
    exact k_zret X (Or.inl rfl) hw dX13_within_15
  · have hf := (if_neg c_2).symm.trans hf
    refine lv_iload_n hx hb dX13_within_5 rfl (lv_at hl 0 rfl) ?_
    refine lv_iload_n hx hb dX13_within_6 rfl (lv_at hl 2 rfl) ?_
    refine lv_icmp_gt (tgt := 14) hx hb dX13_within_7 (by decide) (fun c_7 => ?_) (fun c_7 => ?_)
    · have hf := (if_pos c_7).symm.trans hf
      refine lv_iconst (v := (0 : Int32)) hx hb dX13_within_14 (by decide) ?_
      subst hf
      exact k_zret X (Or.inl rfl) hw dX13_within_15
    · have hf := (if_neg c_7).symm.trans hf
      refine lv_iconst (v := (1 : Int32)) hx hb dX13_within_10 (by decide) ?_
      refine lv_goto (tgt := 15) hx hb dX13_within_11 (by decide) ?_
      subst hf
      exact k_zret X (Or.inr rfl) hw dX13_within_15
theorem zb_X13_within (x0 : Int32) (x1 : Int32) (x2 : Int32) : f_X13_within x0 x1 x2 = 0 ∨ f_X13_within x0 x1 x2 = 1 := by
  unfold f_X13_within
  repeat' apply ite_z
  all_goals first | exact Or.inl rfl | exact Or.inr rfl
/-! private static int between(int, int, int); -/
def f_X13_between (x0 : Int32) (x1 : Int32) (x2 : Int32) : Int32 := if x1 ≤ x0 then if x0 ≤ x2 then (x0)
    else (x2)
  else (x1)
abbrev rm_X13_between : Room := { frames := 0, cells := 0, slots := 0, locals := 0 }
theorem hd_X13_between : yX13_between.cls = RX13 ∧ yX13_between.cls ≠ "java/lang/invoke/MethodHandle" ∧ yX13_between.cls ≠ "java/lang/invoke/VarHandle" ∧ (parseMethodDescriptor yX13_between.desc).map (fun d => d.parameters.length) = some 3 := by decide +kernel
set_option maxRecDepth 100000 in
set_option maxHeartbeats 4000000 in
theorem c_X13_between {E : En} {l : Launch}  {x0 : Int32} {x1 : Int32} {x2 : Int32} {out : Int32} (hf : f_X13_between x0 x1 x2 = out) : Cn E l yX13_between cX13_between 3 (some .int) rm_X13_between [.int (x0), .int (x1), .int (x2)] (([] : va_W)) (some (.int out)) (([] : va_W)) := by
  refine Cn.of (by decide) (Nat.le_of_ble_eq_true rfl) rfl ?_
  intro p e s m below meth c A ls args H locs X hw hl
  have hx := X.1.1
  have hb := X.1.2.1
  have ho := X.1.2.2.2.1
  have hts := X.1.2.2.2.2
  have hl : lv_has ls 3 [(0, .int (x0)), (1, .int (x1)), (2, .int (x2))] := hl
  unfold f_X13_between at hf
  refine lv_iload_n hx hb dX13_between_0 rfl (lv_at hl 0 rfl) ?_
  refine lv_iload_n hx hb dX13_between_1 rfl (lv_at hl 1 rfl) ?_
  refine lv_icmp_ge (tgt := 9) hx hb dX13_between_2 (by decide) (fun c_2 => ?_) (fun c_2 => ?_)
  · have hf := (if_pos c_2).symm.trans hf
    refine lv_iload_n hx hb dX13_between_9 rfl (lv_at hl 0 rfl) ?_
    refine lv_iload_n hx hb dX13_between_10 rfl (lv_at hl 2 rfl) ?_
    refine lv_icmp_le (tgt := 18) hx hb dX13_between_11 (by decide) (fun c_11 => ?_) (fun c_11 => ?_)
    · have hf := (if_pos c_11).symm.trans hf
      refine lv_iload_n hx hb dX13_between_18 rfl (lv_at hl 0 rfl) ?_
      subst hf
      exact k_iret X hw dX13_between_19
    · have hf := (if_neg c_11).symm.trans hf
      refine lv_iload_n hx hb dX13_between_14 rfl (lv_at hl 2 rfl) ?_
      refine lv_goto (tgt := 19) hx hb dX13_between_15 (by decide) ?_
      subst hf
      exact k_iret X hw dX13_between_19
  · have hf := (if_neg c_2).symm.trans hf
    refine lv_iload_n hx hb dX13_between_5 rfl (lv_at hl 1 rfl) ?_
    refine lv_goto (tgt := 19) hx hb dX13_between_6 (by decide) ?_
    subst hf
    exact k_iret X hw dX13_between_19
/-! public int feed(long, long, long); -/
def f_X13_feed_93 (K8 : Int32 → Int32 → (Nat → Int32) → Int64 → Int64 → Int64 → Int32 → Option (Int32 × Int32 × Int32 × (Nat → Int32))) (t_thrown : Int32) (t_taped : Int32) (t_tape : (Nat → Int32)) (x1 : Int64) (x3 : Int64) (x5 : Int64) (x7 : Int32) (x10 : Int32) : Option (Int32 × Int32 × Int32 × (Nat → Int32)) := gd (t_taped) 1000 (K8 t_thrown ((t_taped + (1 : Int32))) (upd t_tape (t_taped).toNatClampNeg (x10)) x1 x3 x5 ((x7 + (1 : Int32))))
def f_X13_feed_39 (K8 : Int32 → Int32 → (Nat → Int32) → Int64 → Int64 → Int64 → Int32 → Option (Int32 × Int32 × Int32 × (Nat → Int32))) (t_thrown : Int32) (t_taped : Int32) (t_tape : (Nat → Int32)) (x1 : Int64) (x3 : Int64) (x5 : Int64) (x7 : Int32) (s0 : Int64) : Option (Int32 × Int32 × Int32 × (Nat → Int32)) := if (1000 : Int32) ≤ t_taped then K8 t_thrown t_taped t_tape x1 x3 x5 ((x7 + (1 : Int32)))
  else if ((((((s0).toUInt64 >>> ((((56 : Int32) - ((8 : Int32) * (x7 &&& (7 : Int32))))).toInt64.toUInt64 &&& Int64.toUInt64 63)).toInt64) &&& (255 : Int64))).toInt32) = (10 : Int32) then f_X13_feed_93 K8 t_thrown t_taped t_tape x1 x3 x5 x7 (((((((s0).toUInt64 >>> ((((56 : Int32) - ((8 : Int32) * (x7 &&& (7 : Int32))))).toInt64.toUInt64 &&& Int64.toUInt64 63)).toInt64) &&& (255 : Int64))).toInt32))
  else if ((((((s0).toUInt64 >>> ((((56 : Int32) - ((8 : Int32) * (x7 &&& (7 : Int32))))).toInt64.toUInt64 &&& Int64.toUInt64 63)).toInt64) &&& (255 : Int64))).toInt32) < (32 : Int32) then K8 t_thrown t_taped t_tape x1 x3 x5 ((x7 + (1 : Int32)))
  else if (126 : Int32) < ((((((s0).toUInt64 >>> ((((56 : Int32) - ((8 : Int32) * (x7 &&& (7 : Int32))))).toInt64.toUInt64 &&& Int64.toUInt64 63)).toInt64) &&& (255 : Int64))).toInt32) then K8 t_thrown t_taped t_tape x1 x3 x5 ((x7 + (1 : Int32)))
  else f_X13_feed_93 K8 t_thrown t_taped t_tape x1 x3 x5 x7 (((((((s0).toUInt64 >>> ((((56 : Int32) - ((8 : Int32) * (x7 &&& (7 : Int32))))).toInt64.toUInt64 &&& Int64.toUInt64 63)).toInt64) &&& (255 : Int64))).toInt32))
def f_X13_feed_8 : Nat → Int32 → Int32 → (Nat → Int32) → Int64 → Int64 → Int64 → Int32 → Option (Int32 × Int32 × Int32 × (Nat → Int32))
  | 0, _, _, _, _, _, _, _ => none
  | n + 1, t_thrown, t_taped, t_tape, x1, x3, x5, x7 => if (24 : Int32) ≤ x7 then some (t_taped, t_thrown, t_taped, t_tape)
    else if (8 : Int32) ≤ x7 then if (16 : Int32) ≤ x7 then f_X13_feed_39 (f_X13_feed_8 n) t_thrown t_taped t_tape x1 x3 x5 x7 x5
      else f_X13_feed_39 (f_X13_feed_8 n) t_thrown t_taped t_tape x1 x3 x5 x7 x3
    else f_X13_feed_39 (f_X13_feed_8 n) t_thrown t_taped t_tape x1 x3 x5 x7 x1
def f_X13_feed (t_taped : Int32) (t_tape : (Nat → Int32)) (x1 : Int64) (x3 : Int64) (x5 : Int64) : Option (Int32 × Int32 × Int32 × (Nat → Int32)) := f_X13_feed_8 1100 ((0 : Int32)) t_taped t_tape x1 x3 x5 ((0 : Int32))
abbrev rm_X13_feed : Room := { frames := 0, cells := 0, slots := 0, locals := 0 }
theorem hd_X13_feed : yX13_feed.cls = RX13 ∧ yX13_feed.cls ≠ "java/lang/invoke/MethodHandle" ∧ yX13_feed.cls ≠ "java/lang/invoke/VarHandle" ∧ (parseMethodDescriptor yX13_feed.desc).map (fun d => d.parameters.length) = some 3 := by decide +kernel
set_option maxRecDepth 100000 in
set_option maxHeartbeats 4000000 in
theorem kb_X13_feed_93 {E : En} {p : Program} {l : Launch} {e : Env} {s : State} {m : MethodId} {args : Array Value} {below : List Frame} {meth : Method} {c : Code} {A : Nat → Prop} {t_o : Nat} {t_q : Nat → Nat} {t_size : Int32} {t_place : Int32} {t_begin : Int32} {t_token : Int32} {t_word : Int64} {t_told : Int32} {t_wrong : Int32} {t_city : (Nat → Int32)} {t_manName : (Nat → Int64)} {t_dangerName : (Nat → Int64)} {t_decreeName : (Nat → Int64)} {t_kind : (Nat → Int32)} {t_skill : (Nat → Int32)} {t_fieldTold : (Nat → Int32)} {t_want : (Nat → Int32)} {t_hates : (Nat → Int32)} {t_restsOn : (Nat → Int32)} {t_sizeTold : (Nat → Int32)} {t_grows : (Nat → Int32)} {t_lineFrom : (Nat → Int32)} {t_lineTo : (Nat → Int32)} {t_codes : (Nat → Int32)} {t_code : Int32} {t_lawLine : Int32} {t_toldLines : Int32} {t_opened : (Nat → Int32)} {t_compared : (Nat → Int32)} {t_kept : (Nat → Int32)} {t_keptBy : (Nat → Int32)} {t_ahead : (Nat → Int32)} {t_against : (Nat → Int32)} {t_sum : (Nat → Int32)} {t_sumBy : (Nat → Int32)} {t_term : (Nat → Int32)} {t_termBy : (Nat → Int32)} {t_byNot : (Nat → Int32)} {t_valueOf : (Nat → Int32)} {t_given : Int32} {t_fresh : Int64} {t_consulsMany : Int32} {t_lines : (Nat → Int32)} {t_lineWhat : (Nat → Int32)} {t_lineA : (Nat → Int32)} {t_lineB : (Nat → Int32)} {t_tolds : (Nat → Int32)} {t_toldDanger : (Nat → Int32)} {t_toldMonths : (Nat → Int32)} {t_toldSize : (Nat → Int32)} {t_s : (Nat → Int32)} {t_aside : (Nat → Int32)} {t_tried : (Nat → Int32)} {t_marked : (Nat → Int32)} {t_undone : (Nat → Int32)} {t_isLaid : (Nat → Int32)} {t_done : Int32} {t_heading : (Nat → Int32)} {t_bestHeading : (Nat → Int32)} {t_leastLeft : Int32} {t_goesTo : (Nat → Int32)} {t_bestGoes : (Nat → Int32)} {t_leastMonths : Int32} {t_g : Int64} {out : Int32 × Int32 × Int32 × (Nat → Int32)} (X : Bx E A p s m args meth c cX13_feed 11 RX13 (some .int)) {K8 : Int32 → Int32 → (Nat → Int32) → Int64 → Int64 → Int64 → Int32 → Option (Int32 × Int32 × Int32 × (Nat → Int32))} (hK8 : ∀ {t_thrown : Int32} {t_taped : Int32} {t_tape : (Nat → Int32)} {x1 : Int64} {x3 : Int64} {x5 : Int64} {x7 : Int32} {H : Heap} {locs : List Loc} {ls : Array Slot}, K8 t_thrown t_taped t_tape x1 x3 x5 x7 = some out → Wd E A s.heap (wX13 E t_o t_q t_thrown t_taped t_tape t_size t_place t_begin t_token t_word t_told t_wrong t_city t_manName t_dangerName t_decreeName t_kind t_skill t_fieldTold t_want t_hates t_restsOn t_sizeTold t_grows t_lineFrom t_lineTo t_codes t_code t_lawLine t_toldLines t_opened t_compared t_kept t_keptBy t_ahead t_against t_sum t_sumBy t_term t_termBy t_byNot t_valueOf t_given t_fresh t_consulsMany t_lines t_lineWhat t_lineA t_lineB t_tolds t_toldDanger t_toldMonths t_toldSize t_s t_aside t_tried t_marked t_undone t_isLaid t_done t_heading t_bestHeading t_leastLeft t_goesTo t_bestGoes t_leastMonths t_g) H locs → lv_has ls 11 [(0, .ref t_o), (1, .long (x1)), (3, .long (x3)), (5, .long (x5)), (7, .int (x7))] → W p l e rm_X13_feed s m args below meth c H locs 0 0 (Zn E below args s A (some (.int out.1)) (wX13 E t_o t_q out.2.1 out.2.2.1 out.2.2.2 t_size t_place t_begin t_token t_word t_told t_wrong t_city t_manName t_dangerName t_decreeName t_kind t_skill t_fieldTold t_want t_hates t_restsOn t_sizeTold t_grows t_lineFrom t_lineTo t_codes t_code t_lawLine t_toldLines t_opened t_compared t_kept t_keptBy t_ahead t_against t_sum t_sumBy t_term t_termBy t_byNot t_valueOf t_given t_fresh t_consulsMany t_lines t_lineWhat t_lineA t_lineB t_tolds t_toldDanger t_toldMonths t_toldSize t_s t_aside t_tried t_marked t_undone t_isLaid t_done t_heading t_bestHeading t_leastLeft t_goesTo t_bestGoes t_leastMonths t_g)) (F0 m 8 ls [])) {t_thrown : Int32} {t_taped : Int32} {t_tape : (Nat → Int32)} {x1 : Int64} {x3 : Int64} {x5 : Int64} {x7 : Int32} {x10 : Int32} {H : Heap} {locs : List Loc} {ls : Array Slot} (hf : f_X13_feed_93 K8 t_thrown t_taped t_tape x1 x3 x5 x7 x10 = some out) : Wd E A s.heap (wX13 E t_o t_q t_thrown t_taped t_tape t_size t_place t_begin t_token t_word t_told t_wrong t_city t_manName t_dangerName t_decreeName t_kind t_skill t_fieldTold t_want t_hates t_restsOn t_sizeTold t_grows t_lineFrom t_lineTo t_codes t_code t_lawLine t_toldLines t_opened t_compared t_kept t_keptBy t_ahead t_against t_sum t_sumBy t_term t_termBy t_byNot t_valueOf t_given t_fresh t_consulsMany t_lines t_lineWhat t_lineA t_lineB t_tolds t_toldDanger t_toldMonths t_toldSize t_s t_aside t_tried t_marked t_undone t_isLaid t_done t_heading t_bestHeading t_leastLeft t_goesTo t_bestGoes t_leastMonths t_g) H locs → lv_has ls 11 [(0, .ref t_o), (1, .long (x1)), (3, .long (x3)), (5, .long (x5)), (7, .int (x7)), (10, .int (x10))] → W p l e rm_X13_feed s m args below meth c H locs 0 0 (Zn E below args s A (some (.int out.1)) (wX13 E t_o t_q out.2.1 out.2.2.1 out.2.2.2 t_size t_place t_begin t_token t_word t_told t_wrong t_city t_manName t_dangerName t_decreeName t_kind t_skill t_fieldTold t_want t_hates t_restsOn t_sizeTold t_grows t_lineFrom t_lineTo t_codes t_code t_lawLine t_toldLines t_opened t_compared t_kept t_keptBy t_ahead t_against t_sum t_sumBy t_term t_termBy t_byNot t_valueOf t_given t_fresh t_consulsMany t_lines t_lineWhat t_lineA t_lineB t_tolds t_toldDanger t_toldMonths t_toldSize t_s t_aside t_tried t_marked t_undone t_isLaid t_done t_heading t_bestHeading t_leastLeft t_goesTo t_bestGoes t_leastMonths t_g)) (F0 m 93 ls []) := by
  have hx := X.1.1
  have hb := X.1.2.1
  have ho := X.1.2.2.2.1
  have hts := X.1.2.2.2.2
  intro hw hl
  unfold f_X13_feed_93 at hf
  refine lv_aload_n hx hb dX13_feed_93 rfl (lv_at hl 0 rfl) ?_
  refine k_get (q0 := 0) (ci := 11) (C := RX13) (T := TX13) (N := 65) (x := .ref (t_q 2)) X inx_13 hw rfl rfl 2 (by decide) rfl tw_1375 rfl dX13_feed_94 ?_
  refine lv_aload_n hx hb dX13_feed_97 rfl (lv_at hl 0 rfl) ?_
  refine k_get (q0 := 0) (ci := 11) (C := RX13) (T := TX13) (N := 65) (x := .int (t_taped)) X inx_13 hw rfl rfl 1 (by decide) rfl tw_1374 rfl dX13_feed_98 ?_
  refine lv_iload hx hb dX13_feed_101 (lv_at hl 5 rfl) ?_
  obtain ⟨hi_103, hf⟩ := gd_some hf
  refine k_iast (q0 := 1) (n := 1000) (f := t_tape) X hw rfl hi_103 dX13_feed_103 (fun H locs hw => ?_)
  have hw : Wd E A s.heap (wX13 E t_o t_q t_thrown t_taped (upd t_tape (t_taped).toNatClampNeg (x10)) t_size t_place t_begin t_token t_word t_told t_wrong t_city t_manName t_dangerName t_decreeName t_kind t_skill t_fieldTold t_want t_hates t_restsOn t_sizeTold t_grows t_lineFrom t_lineTo t_codes t_code t_lawLine t_toldLines t_opened t_compared t_kept t_keptBy t_ahead t_against t_sum t_sumBy t_term t_termBy t_byNot t_valueOf t_given t_fresh t_consulsMany t_lines t_lineWhat t_lineA t_lineB t_tolds t_toldDanger t_toldMonths t_toldSize t_s t_aside t_tried t_marked t_undone t_isLaid t_done t_heading t_bestHeading t_leastLeft t_goesTo t_bestGoes t_leastMonths t_g) H locs := hw
  refine lv_aload_n hx hb dX13_feed_104 rfl (lv_at hl 0 rfl) ?_
  refine lv_dup hx hb dX13_feed_105 rfl ?_
  refine k_get (q0 := 0) (ci := 11) (C := RX13) (T := TX13) (N := 65) (x := .int (t_taped)) X inx_13 hw rfl rfl 1 (by decide) rfl tw_1374 rfl dX13_feed_106 ?_
  refine lv_iconst (v := (1 : Int32)) hx hb dX13_feed_109 (by decide) ?_
  refine lv_iadd hx hb dX13_feed_110 ?_
  refine k_put (q0 := 0) (ci := 11) (C := RX13) (T := TX13) (N := 65) (ty0 := tyX13) (x := .int ((t_taped + (1 : Int32)))) X inx_13 tyX13_ok nmX13 hw rfl rfl 1 (by decide) rfl rfl tw_1374 rfl rfl (Nat.le_of_ble_eq_true rfl) dX13_feed_111 (fun H locs hw => ?_)
  have hw : Wd E A s.heap (wX13 E t_o t_q t_thrown ((t_taped + (1 : Int32))) (upd t_tape (t_taped).toNatClampNeg (x10)) t_size t_place t_begin t_token t_word t_told t_wrong t_city t_manName t_dangerName t_decreeName t_kind t_skill t_fieldTold t_want t_hates t_restsOn t_sizeTold t_grows t_lineFrom t_lineTo t_codes t_code t_lawLine t_toldLines t_opened t_compared t_kept t_keptBy t_ahead t_against t_sum t_sumBy t_term t_termBy t_byNot t_valueOf t_given t_fresh t_consulsMany t_lines t_lineWhat t_lineA t_lineB t_tolds t_toldDanger t_toldMonths t_toldSize t_s t_aside t_tried t_marked t_undone t_isLaid t_done t_heading t_bestHeading t_leastLeft t_goesTo t_bestGoes t_leastMonths t_g) H locs := hw
  refine lv_iinc (v := (x7 + (1 : Int32))) (lv' := [(7, .int ((x7 + (1 : Int32)))), (0, .ref t_o), (1, .long (x1)), (3, .long (x3)), (5, .long (x5)), (10, .int (x10))]) hx hb dX13_feed_114 hl (k := 4) rfl rfl (by decide) rfl (fun ls hl => ?_)
  refine lv_goto (tgt := 8) hx hb dX13_feed_117 (by decide) ?_
  exact hK8 hf hw (lv_sub hl [1, 2, 3, 4, 0] rfl)
set_option maxRecDepth 100000 in
set_option maxHeartbeats 4000000 in
theorem kb_X13_feed_39 {E : En} {p : Program} {l : Launch} {e : Env} {s : State} {m : MethodId} {args : Array Value} {below : List Frame} {meth : Method} {c : Code} {A : Nat → Prop} {t_o : Nat} {t_q : Nat → Nat} {t_size : Int32} {t_place : Int32} {t_begin : Int32} {t_token : Int32} {t_word : Int64} {t_told : Int32} {t_wrong : Int32} {t_city : (Nat → Int32)} {t_manName : (Nat → Int64)} {t_dangerName : (Nat → Int64)} {t_decreeName : (Nat → Int64)} {t_kind : (Nat → Int32)} {t_skill : (Nat → Int32)} {t_fieldTold : (Nat → Int32)} {t_want : (Nat → Int32)} {t_hates : (Nat → Int32)} {t_restsOn : (Nat → Int32)} {t_sizeTold : (Nat → Int32)} {t_grows : (Nat → Int32)} {t_lineFrom : (Nat → Int32)} {t_lineTo : (Nat → Int32)} {t_codes : (Nat → Int32)} {t_code : Int32} {t_lawLine : Int32} {t_toldLines : Int32} {t_opened : (Nat → Int32)} {t_compared : (Nat → Int32)} {t_kept : (Nat → Int32)} {t_keptBy : (Nat → Int32)} {t_ahead : (Nat → Int32)} {t_against : (Nat → Int32)} {t_sum : (Nat → Int32)} {t_sumBy : (Nat → Int32)} {t_term : (Nat → Int32)} {t_termBy : (Nat → Int32)} {t_byNot : (Nat → Int32)} {t_valueOf : (Nat → Int32)} {t_given : Int32} {t_fresh : Int64} {t_consulsMany : Int32} {t_lines : (Nat → Int32)} {t_lineWhat : (Nat → Int32)} {t_lineA : (Nat → Int32)} {t_lineB : (Nat → Int32)} {t_tolds : (Nat → Int32)} {t_toldDanger : (Nat → Int32)} {t_toldMonths : (Nat → Int32)} {t_toldSize : (Nat → Int32)} {t_s : (Nat → Int32)} {t_aside : (Nat → Int32)} {t_tried : (Nat → Int32)} {t_marked : (Nat → Int32)} {t_undone : (Nat → Int32)} {t_isLaid : (Nat → Int32)} {t_done : Int32} {t_heading : (Nat → Int32)} {t_bestHeading : (Nat → Int32)} {t_leastLeft : Int32} {t_goesTo : (Nat → Int32)} {t_bestGoes : (Nat → Int32)} {t_leastMonths : Int32} {t_g : Int64} {out : Int32 × Int32 × Int32 × (Nat → Int32)} (X : Bx E A p s m args meth c cX13_feed 11 RX13 (some .int)) {K8 : Int32 → Int32 → (Nat → Int32) → Int64 → Int64 → Int64 → Int32 → Option (Int32 × Int32 × Int32 × (Nat → Int32))} (hK8 : ∀ {t_thrown : Int32} {t_taped : Int32} {t_tape : (Nat → Int32)} {x1 : Int64} {x3 : Int64} {x5 : Int64} {x7 : Int32} {H : Heap} {locs : List Loc} {ls : Array Slot}, K8 t_thrown t_taped t_tape x1 x3 x5 x7 = some out → Wd E A s.heap (wX13 E t_o t_q t_thrown t_taped t_tape t_size t_place t_begin t_token t_word t_told t_wrong t_city t_manName t_dangerName t_decreeName t_kind t_skill t_fieldTold t_want t_hates t_restsOn t_sizeTold t_grows t_lineFrom t_lineTo t_codes t_code t_lawLine t_toldLines t_opened t_compared t_kept t_keptBy t_ahead t_against t_sum t_sumBy t_term t_termBy t_byNot t_valueOf t_given t_fresh t_consulsMany t_lines t_lineWhat t_lineA t_lineB t_tolds t_toldDanger t_toldMonths t_toldSize t_s t_aside t_tried t_marked t_undone t_isLaid t_done t_heading t_bestHeading t_leastLeft t_goesTo t_bestGoes t_leastMonths t_g) H locs → lv_has ls 11 [(0, .ref t_o), (1, .long (x1)), (3, .long (x3)), (5, .long (x5)), (7, .int (x7))] → W p l e rm_X13_feed s m args below meth c H locs 0 0 (Zn E below args s A (some (.int out.1)) (wX13 E t_o t_q out.2.1 out.2.2.1 out.2.2.2 t_size t_place t_begin t_token t_word t_told t_wrong t_city t_manName t_dangerName t_decreeName t_kind t_skill t_fieldTold t_want t_hates t_restsOn t_sizeTold t_grows t_lineFrom t_lineTo t_codes t_code t_lawLine t_toldLines t_opened t_compared t_kept t_keptBy t_ahead t_against t_sum t_sumBy t_term t_termBy t_byNot t_valueOf t_given t_fresh t_consulsMany t_lines t_lineWhat t_lineA t_lineB t_tolds t_toldDanger t_toldMonths t_toldSize t_s t_aside t_tried t_marked t_undone t_isLaid t_done t_heading t_bestHeading t_leastLeft t_goesTo t_bestGoes t_leastMonths t_g)) (F0 m 8 ls [])) {t_thrown : Int32} {t_taped : Int32} {t_tape : (Nat → Int32)} {x1 : Int64} {x3 : Int64} {x5 : Int64} {x7 : Int32} {s0 : Int64} {H : Heap} {locs : List Loc} {ls : Array Slot} (hf : f_X13_feed_39 K8 t_thrown t_taped t_tape x1 x3 x5 x7 s0 = some out) : Wd E A s.heap (wX13 E t_o t_q t_thrown t_taped t_tape t_size t_place t_begin t_token t_word t_told t_wrong t_city t_manName t_dangerName t_decreeName t_kind t_skill t_fieldTold t_want t_hates t_restsOn t_sizeTold t_grows t_lineFrom t_lineTo t_codes t_code t_lawLine t_toldLines t_opened t_compared t_kept t_keptBy t_ahead t_against t_sum t_sumBy t_term t_termBy t_byNot t_valueOf t_given t_fresh t_consulsMany t_lines t_lineWhat t_lineA t_lineB t_tolds t_toldDanger t_toldMonths t_toldSize t_s t_aside t_tried t_marked t_undone t_isLaid t_done t_heading t_bestHeading t_leastLeft t_goesTo t_bestGoes t_leastMonths t_g) H locs → lv_has ls 11 [(0, .ref t_o), (1, .long (x1)), (3, .long (x3)), (5, .long (x5)), (7, .int (x7))] → W p l e rm_X13_feed s m args below meth c H locs 0 0 (Zn E below args s A (some (.int out.1)) (wX13 E t_o t_q out.2.1 out.2.2.1 out.2.2.2 t_size t_place t_begin t_token t_word t_told t_wrong t_city t_manName t_dangerName t_decreeName t_kind t_skill t_fieldTold t_want t_hates t_restsOn t_sizeTold t_grows t_lineFrom t_lineTo t_codes t_code t_lawLine t_toldLines t_opened t_compared t_kept t_keptBy t_ahead t_against t_sum t_sumBy t_term t_termBy t_byNot t_valueOf t_given t_fresh t_consulsMany t_lines t_lineWhat t_lineA t_lineB t_tolds t_toldDanger t_toldMonths t_toldSize t_s t_aside t_tried t_marked t_undone t_isLaid t_done t_heading t_bestHeading t_leastLeft t_goesTo t_bestGoes t_leastMonths t_g)) (F0 m 39 ls [.long (s0)]) := by
  have hx := X.1.1
  have hb := X.1.2.1
  have ho := X.1.2.2.2.1
  have hts := X.1.2.2.2.2
  intro hw hl
  unfold f_X13_feed_39 at hf
  refine lv_lstore (lv' := [(8, .long (s0)), (0, .ref t_o), (1, .long (x1)), (3, .long (x3)), (5, .long (x5)), (7, .int (x7))]) hx hb dX13_feed_39 hl (by decide) rfl (fun ls hl => ?_)
  refine lv_lload hx hb dX13_feed_41 (lv_at hl 0 rfl) ?_
  refine lv_bipush (v := (56 : Int32)) hx hb dX13_feed_43 (by decide) ?_
  refine lv_bipush (v := (8 : Int32)) hx hb dX13_feed_45 (by decide) ?_
  refine lv_iload hx hb dX13_feed_47 (lv_at hl 5 rfl) ?_
  refine lv_bipush (v := (7 : Int32)) hx hb dX13_feed_49 (by decide) ?_
  refine lv_iand hx hb dX13_feed_51 ?_
  refine lv_imul hx hb dX13_feed_52 ?_
  refine lv_isub hx hb dX13_feed_53 ?_
  refine lv_lushr (v := ((s0).toUInt64 >>> ((((56 : Int32) - ((8 : Int32) * (x7 &&& (7 : Int32))))).toInt64.toUInt64 &&& Int64.toUInt64 63)).toInt64) hx hb dX13_feed_54 rfl ?_
  refine lv_ldc2 (v := (255 : Int64)) hx hb ho (hts _ tw_1578) dX13_feed_55 ?_
  refine lv_land hx hb dX13_feed_58 ?_
  refine lv_l2i (v := (((((s0).toUInt64 >>> ((((56 : Int32) - ((8 : Int32) * (x7 &&& (7 : Int32))))).toInt64.toUInt64 &&& Int64.toUInt64 63)).toInt64) &&& (255 : Int64))).toInt32) hx hb dX13_feed_59 rfl ?_
  refine lv_istore (lv' := [(10, .int (((((((s0).toUInt64 >>> ((((56 : Int32) - ((8 : Int32) * (x7 &&& (7 : Int32))))).toInt64.toUInt64 &&& Int64.toUInt64 63)).toInt64) &&& (255 : Int64))).toInt32))), (8, .long (s0)), (0, .ref t_o), (1, .long (x1)), (3, .long (x3)), (5, .long (x5)), (7, .int (x7))]) hx hb dX13_feed_60 hl (by decide) rfl (fun ls hl => ?_)
  refine lv_aload_n hx hb dX13_feed_62 rfl (lv_at hl 2 rfl) ?_
  refine k_get (q0 := 0) (ci := 11) (C := RX13) (T := TX13) (N := 65) (x := .int (t_taped)) X inx_13 hw rfl rfl 1 (by decide) rfl tw_1374 rfl dX13_feed_63 ?_
  refine lv_sipush (v := (1000 : Int32)) hx hb dX13_feed_66 (by decide) ?_
  refine lv_icmp_ge (tgt := 114) hx hb dX13_feed_69 (by decide) (fun c_69 => ?_) (fun c_69 => ?_)
  · have hf := (if_pos c_69).symm.trans hf
    refine lv_iinc (v := (x7 + (1 : Int32))) (lv' := [(7, .int ((x7 + (1 : Int32)))), (10, .int (((((((s0).toUInt64 >>> ((((56 : Int32) - ((8 : Int32) * (x7 &&& (7 : Int32))))).toInt64.toUInt64 &&& Int64.toUInt64 63)).toInt64) &&& (255 : Int64))).toInt32))), (8, .long (s0)), (0, .ref t_o), (1, .long (x1)), (3, .long (x3)), (5, .long (x5))]) hx hb dX13_feed_114 hl (k := 6) rfl rfl (by decide) rfl (fun ls hl => ?_)
    refine lv_goto (tgt := 8) hx hb dX13_feed_117 (by decide) ?_
    exact hK8 hf hw (lv_sub hl [3, 4, 5, 6, 0] rfl)
  · have hf := (if_neg c_69).symm.trans hf
    refine lv_iload hx hb dX13_feed_72 (lv_at hl 0 rfl) ?_
    refine lv_bipush (v := (10 : Int32)) hx hb dX13_feed_74 (by decide) ?_
    refine lv_icmp_eq (tgt := 93) hx hb dX13_feed_76 (by decide) (fun c_76 => ?_) (fun c_76 => ?_)
    · have hf := (if_pos c_76).symm.trans hf
      exact kb_X13_feed_93 X (fun hf hw hl => hK8 hf hw hl) hf hw (lv_sub hl [2, 3, 4, 5, 6, 0] rfl)
    · have hf := (if_neg c_76).symm.trans hf
      refine lv_iload hx hb dX13_feed_79 (lv_at hl 0 rfl) ?_
      refine lv_bipush (v := (32 : Int32)) hx hb dX13_feed_81 (by decide) ?_
      refine lv_icmp_lt (tgt := 114) hx hb dX13_feed_83 (by decide) (fun c_83 => ?_) (fun c_83 => ?_)
      · have hf := (if_pos c_83).symm.trans hf
        refine lv_iinc (v := (x7 + (1 : Int32))) (lv' := [(7, .int ((x7 + (1 : Int32)))), (10, .int (((((((s0).toUInt64 >>> ((((56 : Int32) - ((8 : Int32) * (x7 &&& (7 : Int32))))).toInt64.toUInt64 &&& Int64.toUInt64 63)).toInt64) &&& (255 : Int64))).toInt32))), (8, .long (s0)), (0, .ref t_o), (1, .long (x1)), (3, .long (x3)), (5, .long (x5))]) hx hb dX13_feed_114 hl (k := 6) rfl rfl (by decide) rfl (fun ls hl => ?_)
        refine lv_goto (tgt := 8) hx hb dX13_feed_117 (by decide) ?_
        exact hK8 hf hw (lv_sub hl [3, 4, 5, 6, 0] rfl)
      · have hf := (if_neg c_83).symm.trans hf
        refine lv_iload hx hb dX13_feed_86 (lv_at hl 0 rfl) ?_
        refine lv_bipush (v := (126 : Int32)) hx hb dX13_feed_88 (by decide) ?_
        refine lv_icmp_gt (tgt := 114) hx hb dX13_feed_90 (by decide) (fun c_90 => ?_) (fun c_90 => ?_)
        · have hf := (if_pos c_90).symm.trans hf
          refine lv_iinc (v := (x7 + (1 : Int32))) (lv' := [(7, .int ((x7 + (1 : Int32)))), (10, .int (((((((s0).toUInt64 >>> ((((56 : Int32) - ((8 : Int32) * (x7 &&& (7 : Int32))))).toInt64.toUInt64 &&& Int64.toUInt64 63)).toInt64) &&& (255 : Int64))).toInt32))), (8, .long (s0)), (0, .ref t_o), (1, .long (x1)), (3, .long (x3)), (5, .long (x5))]) hx hb dX13_feed_114 hl (k := 6) rfl rfl (by decide) rfl (fun ls hl => ?_)
          refine lv_goto (tgt := 8) hx hb dX13_feed_117 (by decide) ?_
          exact hK8 hf hw (lv_sub hl [3, 4, 5, 6, 0] rfl)
        · have hf := (if_neg c_90).symm.trans hf
          exact kb_X13_feed_93 X (fun hf hw hl => hK8 hf hw hl) hf hw (lv_sub hl [2, 3, 4, 5, 6, 0] rfl)
set_option maxRecDepth 100000 in
set_option maxHeartbeats 4000000 in
theorem kb_X13_feed_8 {E : En} {p : Program} {l : Launch} {e : Env} {s : State} {m : MethodId} {args : Array Value} {below : List Frame} {meth : Method} {c : Code} {A : Nat → Prop} {t_o : Nat} {t_q : Nat → Nat} {t_size : Int32} {t_place : Int32} {t_begin : Int32} {t_token : Int32} {t_word : Int64} {t_told : Int32} {t_wrong : Int32} {t_city : (Nat → Int32)} {t_manName : (Nat → Int64)} {t_dangerName : (Nat → Int64)} {t_decreeName : (Nat → Int64)} {t_kind : (Nat → Int32)} {t_skill : (Nat → Int32)} {t_fieldTold : (Nat → Int32)} {t_want : (Nat → Int32)} {t_hates : (Nat → Int32)} {t_restsOn : (Nat → Int32)} {t_sizeTold : (Nat → Int32)} {t_grows : (Nat → Int32)} {t_lineFrom : (Nat → Int32)} {t_lineTo : (Nat → Int32)} {t_codes : (Nat → Int32)} {t_code : Int32} {t_lawLine : Int32} {t_toldLines : Int32} {t_opened : (Nat → Int32)} {t_compared : (Nat → Int32)} {t_kept : (Nat → Int32)} {t_keptBy : (Nat → Int32)} {t_ahead : (Nat → Int32)} {t_against : (Nat → Int32)} {t_sum : (Nat → Int32)} {t_sumBy : (Nat → Int32)} {t_term : (Nat → Int32)} {t_termBy : (Nat → Int32)} {t_byNot : (Nat → Int32)} {t_valueOf : (Nat → Int32)} {t_given : Int32} {t_fresh : Int64} {t_consulsMany : Int32} {t_lines : (Nat → Int32)} {t_lineWhat : (Nat → Int32)} {t_lineA : (Nat → Int32)} {t_lineB : (Nat → Int32)} {t_tolds : (Nat → Int32)} {t_toldDanger : (Nat → Int32)} {t_toldMonths : (Nat → Int32)} {t_toldSize : (Nat → Int32)} {t_s : (Nat → Int32)} {t_aside : (Nat → Int32)} {t_tried : (Nat → Int32)} {t_marked : (Nat → Int32)} {t_undone : (Nat → Int32)} {t_isLaid : (Nat → Int32)} {t_done : Int32} {t_heading : (Nat → Int32)} {t_bestHeading : (Nat → Int32)} {t_leastLeft : Int32} {t_goesTo : (Nat → Int32)} {t_bestGoes : (Nat → Int32)} {t_leastMonths : Int32} {t_g : Int64} {out : Int32 × Int32 × Int32 × (Nat → Int32)} (X : Bx E A p s m args meth c cX13_feed 11 RX13 (some .int)) : ∀ (n : Nat) {t_thrown : Int32} {t_taped : Int32} {t_tape : (Nat → Int32)} {x1 : Int64} {x3 : Int64} {x5 : Int64} {x7 : Int32} {H : Heap} {locs : List Loc} {ls : Array Slot}, f_X13_feed_8 n t_thrown t_taped t_tape x1 x3 x5 x7 = some out → Wd E A s.heap (wX13 E t_o t_q t_thrown t_taped t_tape t_size t_place t_begin t_token t_word t_told t_wrong t_city t_manName t_dangerName t_decreeName t_kind t_skill t_fieldTold t_want t_hates t_restsOn t_sizeTold t_grows t_lineFrom t_lineTo t_codes t_code t_lawLine t_toldLines t_opened t_compared t_kept t_keptBy t_ahead t_against t_sum t_sumBy t_term t_termBy t_byNot t_valueOf t_given t_fresh t_consulsMany t_lines t_lineWhat t_lineA t_lineB t_tolds t_toldDanger t_toldMonths t_toldSize t_s t_aside t_tried t_marked t_undone t_isLaid t_done t_heading t_bestHeading t_leastLeft t_goesTo t_bestGoes t_leastMonths t_g) H locs → lv_has ls 11 [(0, .ref t_o), (1, .long (x1)), (3, .long (x3)), (5, .long (x5)), (7, .int (x7))] → W p l e rm_X13_feed s m args below meth c H locs 0 0 (Zn E below args s A (some (.int out.1)) (wX13 E t_o t_q out.2.1 out.2.2.1 out.2.2.2 t_size t_place t_begin t_token t_word t_told t_wrong t_city t_manName t_dangerName t_decreeName t_kind t_skill t_fieldTold t_want t_hates t_restsOn t_sizeTold t_grows t_lineFrom t_lineTo t_codes t_code t_lawLine t_toldLines t_opened t_compared t_kept t_keptBy t_ahead t_against t_sum t_sumBy t_term t_termBy t_byNot t_valueOf t_given t_fresh t_consulsMany t_lines t_lineWhat t_lineA t_lineB t_tolds t_toldDanger t_toldMonths t_toldSize t_s t_aside t_tried t_marked t_undone t_isLaid t_done t_heading t_bestHeading t_leastLeft t_goesTo t_bestGoes t_leastMonths t_g)) (F0 m 8 ls []) := by
  have hx := X.1.1
  have hb := X.1.2.1
  have ho := X.1.2.2.2.1
  have hts := X.1.2.2.2.2
  intro n
  induction n with
  | zero =>
    intro t_thrown t_taped t_tape x1 x3 x5 x7 H locs ls hf
    have hf : (none : Option (Int32 × Int32 × Int32 × (Nat → Int32))) = some out := hf
    cases hf
  | succ n ih =>
    intro t_thrown t_taped t_tape x1 x3 x5 x7 H locs ls hf hw hl
    rw [f_X13_feed_8.eq_2] at hf
    refine lv_iload hx hb dX13_feed_8 (lv_at hl 4 rfl) ?_
    refine lv_bipush (v := (24 : Int32)) hx hb dX13_feed_10 (by decide) ?_
    refine lv_icmp_ge (tgt := 120) hx hb dX13_feed_12 (by decide) (fun c_12 => ?_) (fun c_12 => ?_)
    · have hf := (if_pos c_12).symm.trans hf
      refine lv_aload_n hx hb dX13_feed_120 rfl (lv_at hl 0 rfl) ?_
      refine k_get (q0 := 0) (ci := 11) (C := RX13) (T := TX13) (N := 65) (x := .int (t_taped)) X inx_13 hw rfl rfl 1 (by decide) rfl tw_1374 rfl dX13_feed_121 ?_
      obtain rfl := Option.some.inj hf
      exact k_iret X hw dX13_feed_124
    · have hf := (if_neg c_12).symm.trans hf
      refine lv_iload hx hb dX13_feed_15 (lv_at hl 4 rfl) ?_
      refine lv_bipush (v := (8 : Int32)) hx hb dX13_feed_17 (by decide) ?_
      refine lv_icmp_ge (tgt := 26) hx hb dX13_feed_19 (by decide) (fun c_19 => ?_) (fun c_19 => ?_)
      · have hf := (if_pos c_19).symm.trans hf
        refine lv_iload hx hb dX13_feed_26 (lv_at hl 4 rfl) ?_
        refine lv_bipush (v := (16 : Int32)) hx hb dX13_feed_28 (by decide) ?_
        refine lv_icmp_ge (tgt := 37) hx hb dX13_feed_30 (by decide) (fun c_30 => ?_) (fun c_30 => ?_)
        · have hf := (if_pos c_30).symm.trans hf
          refine lv_lload hx hb dX13_feed_37 (lv_at hl 3 rfl) ?_
          exact kb_X13_feed_39 X (fun hf hw hl => ih hf hw hl) hf hw (lv_sub hl [0, 1, 2, 3, 4] rfl)
        · have hf := (if_neg c_30).symm.trans hf
          refine lv_lload_n hx hb dX13_feed_33 rfl (lv_at hl 2 rfl) ?_
          refine lv_goto (tgt := 39) hx hb dX13_feed_34 (by decide) ?_
          exact kb_X13_feed_39 X (fun hf hw hl => ih hf hw hl) hf hw (lv_sub hl [0, 1, 2, 3, 4] rfl)
      · have hf := (if_neg c_19).symm.trans hf
        refine lv_lload_n hx hb dX13_feed_22 rfl (lv_at hl 1 rfl) ?_
        refine lv_goto (tgt := 39) hx hb dX13_feed_23 (by decide) ?_
        exact kb_X13_feed_39 X (fun hf hw hl => ih hf hw hl) hf hw (lv_sub hl [0, 1, 2, 3, 4] rfl)
set_option maxRecDepth 100000 in
set_option maxHeartbeats 4000000 in
theorem c_X13_feed {E : En} {l : Launch} {t_o : Nat} {t_q : Nat → Nat} {t_thrown : Int32} {t_taped : Int32} {t_tape : (Nat → Int32)} {t_size : Int32} {t_place : Int32} {t_begin : Int32} {t_token : Int32} {t_word : Int64} {t_told : Int32} {t_wrong : Int32} {t_city : (Nat → Int32)} {t_manName : (Nat → Int64)} {t_dangerName : (Nat → Int64)} {t_decreeName : (Nat → Int64)} {t_kind : (Nat → Int32)} {t_skill : (Nat → Int32)} {t_fieldTold : (Nat → Int32)} {t_want : (Nat → Int32)} {t_hates : (Nat → Int32)} {t_restsOn : (Nat → Int32)} {t_sizeTold : (Nat → Int32)} {t_grows : (Nat → Int32)} {t_lineFrom : (Nat → Int32)} {t_lineTo : (Nat → Int32)} {t_codes : (Nat → Int32)} {t_code : Int32} {t_lawLine : Int32} {t_toldLines : Int32} {t_opened : (Nat → Int32)} {t_compared : (Nat → Int32)} {t_kept : (Nat → Int32)} {t_keptBy : (Nat → Int32)} {t_ahead : (Nat → Int32)} {t_against : (Nat → Int32)} {t_sum : (Nat → Int32)} {t_sumBy : (Nat → Int32)} {t_term : (Nat → Int32)} {t_termBy : (Nat → Int32)} {t_byNot : (Nat → Int32)} {t_valueOf : (Nat → Int32)} {t_given : Int32} {t_fresh : Int64} {t_consulsMany : Int32} {t_lines : (Nat → Int32)} {t_lineWhat : (Nat → Int32)} {t_lineA : (Nat → Int32)} {t_lineB : (Nat → Int32)} {t_tolds : (Nat → Int32)} {t_toldDanger : (Nat → Int32)} {t_toldMonths : (Nat → Int32)} {t_toldSize : (Nat → Int32)} {t_s : (Nat → Int32)} {t_aside : (Nat → Int32)} {t_tried : (Nat → Int32)} {t_marked : (Nat → Int32)} {t_undone : (Nat → Int32)} {t_isLaid : (Nat → Int32)} {t_done : Int32} {t_heading : (Nat → Int32)} {t_bestHeading : (Nat → Int32)} {t_leastLeft : Int32} {t_goesTo : (Nat → Int32)} {t_bestGoes : (Nat → Int32)} {t_leastMonths : Int32} {t_g : Int64} {x1 : Int64} {x3 : Int64} {x5 : Int64} {out : Int32 × Int32 × Int32 × (Nat → Int32)} (hf : f_X13_feed t_taped t_tape x1 x3 x5 = some out) : Cn E l yX13_feed cX13_feed 11 (some .int) rm_X13_feed [.ref t_o, .long (x1), .long (x3), .long (x5)] (wX13 E t_o t_q t_thrown t_taped t_tape t_size t_place t_begin t_token t_word t_told t_wrong t_city t_manName t_dangerName t_decreeName t_kind t_skill t_fieldTold t_want t_hates t_restsOn t_sizeTold t_grows t_lineFrom t_lineTo t_codes t_code t_lawLine t_toldLines t_opened t_compared t_kept t_keptBy t_ahead t_against t_sum t_sumBy t_term t_termBy t_byNot t_valueOf t_given t_fresh t_consulsMany t_lines t_lineWhat t_lineA t_lineB t_tolds t_toldDanger t_toldMonths t_toldSize t_s t_aside t_tried t_marked t_undone t_isLaid t_done t_heading t_bestHeading t_leastLeft t_goesTo t_bestGoes t_leastMonths t_g) (some (.int out.1)) (wX13 E t_o t_q out.2.1 out.2.2.1 out.2.2.2 t_size t_place t_begin t_token t_word t_told t_wrong t_city t_manName t_dangerName t_decreeName t_kind t_skill t_fieldTold t_want t_hates t_restsOn t_sizeTold t_grows t_lineFrom t_lineTo t_codes t_code t_lawLine t_toldLines t_opened t_compared t_kept t_keptBy t_ahead t_against t_sum t_sumBy t_term t_termBy t_byNot t_valueOf t_given t_fresh t_consulsMany t_lines t_lineWhat t_lineA t_lineB t_tolds t_toldDanger t_toldMonths t_toldSize t_s t_aside t_tried t_marked t_undone t_isLaid t_done t_heading t_bestHeading t_leastLeft t_goesTo t_bestGoes t_leastMonths t_g) := by
  refine Cn.of (by decide) (Nat.le_of_ble_eq_true rfl) rfl ?_
  intro p e s m below meth c A ls args H locs X hw hl
  have hx := X.1.1
  have hb := X.1.2.1
  have ho := X.1.2.2.2.1
  have hts := X.1.2.2.2.2
  have hl : lv_has ls 11 [(0, .ref t_o), (1, .long (x1)), (3, .long (x3)), (5, .long (x5))] := hl
  unfold f_X13_feed at hf
  refine lv_aload_n hx hb dX13_feed_0 rfl (lv_at hl 0 rfl) ?_
  refine lv_iconst (v := (0 : Int32)) hx hb dX13_feed_1 (by decide) ?_
  refine k_put (q0 := 0) (ci := 11) (C := RX13) (T := TX13) (N := 65) (ty0 := tyX13) (x := .int ((0 : Int32))) X inx_13 tyX13_ok nmX13 hw rfl rfl 0 (by decide) rfl rfl tw_1373 rfl rfl (Nat.le_of_ble_eq_true rfl) dX13_feed_2 (fun H locs hw => ?_)
  have hw : Wd E A s.heap (wX13 E t_o t_q ((0 : Int32)) t_taped t_tape t_size t_place t_begin t_token t_word t_told t_wrong t_city t_manName t_dangerName t_decreeName t_kind t_skill t_fieldTold t_want t_hates t_restsOn t_sizeTold t_grows t_lineFrom t_lineTo t_codes t_code t_lawLine t_toldLines t_opened t_compared t_kept t_keptBy t_ahead t_against t_sum t_sumBy t_term t_termBy t_byNot t_valueOf t_given t_fresh t_consulsMany t_lines t_lineWhat t_lineA t_lineB t_tolds t_toldDanger t_toldMonths t_toldSize t_s t_aside t_tried t_marked t_undone t_isLaid t_done t_heading t_bestHeading t_leastLeft t_goesTo t_bestGoes t_leastMonths t_g) H locs := hw
  refine lv_iconst (v := (0 : Int32)) hx hb dX13_feed_5 (by decide) ?_
  refine lv_istore (lv' := [(7, .int ((0 : Int32))), (0, .ref t_o), (1, .long (x1)), (3, .long (x3)), (5, .long (x5))]) hx hb dX13_feed_6 hl (by decide) rfl (fun ls hl => ?_)
  exact kb_X13_feed_8 X 1100 hf hw (lv_sub hl [1, 2, 3, 4, 0] rfl)
/-! private int signAt(int); -/
def f_X13_signAt (t_tape : (Nat → Int32)) (t_size : Int32) (x1 : Int32) : Option (Int32) := if t_size ≤ x1 then some ((0 : Int32))
  else gd (x1) 1000 (some ((t_tape (x1).toNatClampNeg)))
abbrev rm_X13_signAt : Room := { frames := 0, cells := 0, slots := 0, locals := 0 }
theorem hd_X13_signAt : yX13_signAt.cls = RX13 ∧ yX13_signAt.cls ≠ "java/lang/invoke/MethodHandle" ∧ yX13_signAt.cls ≠ "java/lang/invoke/VarHandle" ∧ (parseMethodDescriptor yX13_signAt.desc).map (fun d => d.parameters.length) = some 1 := by decide +kernel
set_option maxRecDepth 100000 in
set_option maxHeartbeats 4000000 in
theorem c_X13_signAt {E : En} {l : Launch} {t_o : Nat} {t_q : Nat → Nat} {t_thrown : Int32} {t_taped : Int32} {t_tape : (Nat → Int32)} {t_size : Int32} {t_place : Int32} {t_begin : Int32} {t_token : Int32} {t_word : Int64} {t_told : Int32} {t_wrong : Int32} {t_city : (Nat → Int32)} {t_manName : (Nat → Int64)} {t_dangerName : (Nat → Int64)} {t_decreeName : (Nat → Int64)} {t_kind : (Nat → Int32)} {t_skill : (Nat → Int32)} {t_fieldTold : (Nat → Int32)} {t_want : (Nat → Int32)} {t_hates : (Nat → Int32)} {t_restsOn : (Nat → Int32)} {t_sizeTold : (Nat → Int32)} {t_grows : (Nat → Int32)} {t_lineFrom : (Nat → Int32)} {t_lineTo : (Nat → Int32)} {t_codes : (Nat → Int32)} {t_code : Int32} {t_lawLine : Int32} {t_toldLines : Int32} {t_opened : (Nat → Int32)} {t_compared : (Nat → Int32)} {t_kept : (Nat → Int32)} {t_keptBy : (Nat → Int32)} {t_ahead : (Nat → Int32)} {t_against : (Nat → Int32)} {t_sum : (Nat → Int32)} {t_sumBy : (Nat → Int32)} {t_term : (Nat → Int32)} {t_termBy : (Nat → Int32)} {t_byNot : (Nat → Int32)} {t_valueOf : (Nat → Int32)} {t_given : Int32} {t_fresh : Int64} {t_consulsMany : Int32} {t_lines : (Nat → Int32)} {t_lineWhat : (Nat → Int32)} {t_lineA : (Nat → Int32)} {t_lineB : (Nat → Int32)} {t_tolds : (Nat → Int32)} {t_toldDanger : (Nat → Int32)} {t_toldMonths : (Nat → Int32)} {t_toldSize : (Nat → Int32)} {t_s : (Nat → Int32)} {t_aside : (Nat → Int32)} {t_tried : (Nat → Int32)} {t_marked : (Nat → Int32)} {t_undone : (Nat → Int32)} {t_isLaid : (Nat → Int32)} {t_done : Int32} {t_heading : (Nat → Int32)} {t_bestHeading : (Nat → Int32)} {t_leastLeft : Int32} {t_goesTo : (Nat → Int32)} {t_bestGoes : (Nat → Int32)} {t_leastMonths : Int32} {t_g : Int64} {x1 : Int32} {out : Int32} (hf : f_X13_signAt t_tape t_size x1 = some out) : Cn E l yX13_signAt cX13_signAt 2 (some .int) rm_X13_signAt [.ref t_o, .int (x1)] (wX13 E t_o t_q t_thrown t_taped t_tape t_size t_place t_begin t_token t_word t_told t_wrong t_city t_manName t_dangerName t_decreeName t_kind t_skill t_fieldTold t_want t_hates t_restsOn t_sizeTold t_grows t_lineFrom t_lineTo t_codes t_code t_lawLine t_toldLines t_opened t_compared t_kept t_keptBy t_ahead t_against t_sum t_sumBy t_term t_termBy t_byNot t_valueOf t_given t_fresh t_consulsMany t_lines t_lineWhat t_lineA t_lineB t_tolds t_toldDanger t_toldMonths t_toldSize t_s t_aside t_tried t_marked t_undone t_isLaid t_done t_heading t_bestHeading t_leastLeft t_goesTo t_bestGoes t_leastMonths t_g) (some (.int out)) (wX13 E t_o t_q t_thrown t_taped t_tape t_size t_place t_begin t_token t_word t_told t_wrong t_city t_manName t_dangerName t_decreeName t_kind t_skill t_fieldTold t_want t_hates t_restsOn t_sizeTold t_grows t_lineFrom t_lineTo t_codes t_code t_lawLine t_toldLines t_opened t_compared t_kept t_keptBy t_ahead t_against t_sum t_sumBy t_term t_termBy t_byNot t_valueOf t_given t_fresh t_consulsMany t_lines t_lineWhat t_lineA t_lineB t_tolds t_toldDanger t_toldMonths t_toldSize t_s t_aside t_tried t_marked t_undone t_isLaid t_done t_heading t_bestHeading t_leastLeft t_goesTo t_bestGoes t_leastMonths t_g) := by
  refine Cn.of (by decide) (Nat.le_of_ble_eq_true rfl) rfl ?_
  intro p e s m below meth c A ls args H locs X hw hl
  have hx := X.1.1
  have hb := X.1.2.1
  have ho := X.1.2.2.2.1
  have hts := X.1.2.2.2.2
  have hl : lv_has ls 2 [(0, .ref t_o), (1, .int (x1))] := hl
  unfold f_X13_signAt at hf
  refine lv_iload_n hx hb dX13_signAt_0 rfl (lv_at hl 1 rfl) ?_
  refine lv_aload_n hx hb dX13_signAt_1 rfl (lv_at hl 0 rfl) ?_
  refine k_get (q0 := 0) (ci := 11) (C := RX13) (T := TX13) (N := 65) (x := .int (t_size)) X inx_13 hw rfl rfl 3 (by decide) rfl tw_1376 rfl dX13_signAt_2 ?_
  refine lv_icmp_ge (tgt := 17) hx hb dX13_signAt_5 (by decide) (fun c_5 => ?_) (fun c_5 => ?_)
  · have hf := (if_pos c_5).symm.trans hf
    refine lv_iconst (v := (0 : Int32)) hx hb dX13_signAt_17 (by decide) ?_
    obtain rfl := Option.some.inj hf
    exact k_iret X hw dX13_signAt_18
  · have hf := (if_neg c_5).symm.trans hf
    refine lv_aload_n hx hb dX13_signAt_8 rfl (lv_at hl 0 rfl) ?_
    refine k_get (q0 := 0) (ci := 11) (C := RX13) (T := TX13) (N := 65) (x := .ref (t_q 2)) X inx_13 hw rfl rfl 2 (by decide) rfl tw_1375 rfl dX13_signAt_9 ?_
    refine lv_iload_n hx hb dX13_signAt_12 rfl (lv_at hl 1 rfl) ?_
    obtain ⟨hi_13, hf⟩ := gd_some hf
    refine k_iald (q0 := 1) (n := 1000) (f := t_tape) X hw rfl hi_13 dX13_signAt_13 ?_
    refine lv_goto (tgt := 18) hx hb dX13_signAt_14 (by decide) ?_
    obtain rfl := Option.some.inj hf
    exact k_iret X hw dX13_signAt_18
/-! private void nextToken(); -/
def f_X13_nextToken_39 (K0 : (Nat → Int32) → Int32 → Int32 → Option (Int32 × Int32 × Int32 × Int64 × Int32)) (t_tape : (Nat → Int32)) (t_size : Int32) (t_place : Int32) : Option (Int32 × Int32 × Int32 × Int64 × Int32) := K0 t_tape t_size ((t_place + (1 : Int32)))
def f_X13_nextToken_175 (K109 : (Nat → Int32) → Int32 → Int32 → Int32 → Int64 → Int32 → Option (Int32 × Int32 × Int32 × Int64 × Int32)) (t_tape : (Nat → Int32)) (t_size : Int32) (t_place : Int32) (t_begin : Int32) (t_word : Int64) (t_told : Int32) : Option (Int32 × Int32 × Int32 × Int64 × Int32) := K109 t_tape t_size ((t_place + (1 : Int32))) t_begin t_word t_told
def f_X13_nextToken_208 (t_place : Int32) (t_begin : Int32) (t_word : Int64) (t_told : Int32) (s1 : Int32) : Option (Int32 × Int32 × Int32 × Int64 × Int32) := some (t_place, t_begin, s1, t_word, t_told)
def f_X13_nextToken_188 (t_place : Int32) (t_begin : Int32) (t_word : Int64) (t_told : Int32) : Option (Int32 × Int32 × Int32 × Int64 × Int32) := if (t_place - t_begin) ≤ (8 : Int32) then f_X13_nextToken_208 t_place t_begin t_word t_told ((1 : Int32))
  else f_X13_nextToken_208 t_place t_begin t_word t_told ((4 : Int32))
def f_X13_nextToken_109 : Nat → (Nat → Int32) → Int32 → Int32 → Int32 → Int64 → Int32 → Option (Int32 × Int32 × Int32 × Int64 × Int32)
  | 0, _, _, _, _, _, _ => none
  | n + 1, t_tape, t_size, t_place, t_begin, t_word, t_told => (f_X13_signAt t_tape t_size (t_place)).bind fun r114 => if r114 < (97 : Int32) then f_X13_nextToken_188 t_place t_begin t_word t_told
    else (f_X13_signAt t_tape t_size (t_place)).bind fun r127 => if (122 : Int32) < r127 then f_X13_nextToken_188 t_place t_begin t_word t_told
    else if (8 : Int32) ≤ (t_place - t_begin) then f_X13_nextToken_175 (f_X13_nextToken_109 n) t_tape t_size t_place t_begin t_word t_told
    else (f_X13_signAt t_tape t_size (t_place)).bind fun r163 => f_X13_nextToken_175 (f_X13_nextToken_109 n) t_tape t_size t_place t_begin ((((t_word * (27 : Int64)) + ((r163).toInt64)) - (96 : Int64))) t_told
def f_X13_nextToken_286 (K224 : (Nat → Int32) → Int32 → Int32 → Int32 → Int64 → Int32 → Option (Int32 × Int32 × Int32 × Int64 × Int32)) (t_tape : (Nat → Int32)) (t_size : Int32) (t_place : Int32) (t_begin : Int32) (t_word : Int64) (t_told : Int32) : Option (Int32 × Int32 × Int32 × Int64 × Int32) := K224 t_tape t_size ((t_place + (1 : Int32))) t_begin t_word t_told
def f_X13_nextToken_318 (t_place : Int32) (t_begin : Int32) (t_word : Int64) (t_told : Int32) (s1 : Int32) : Option (Int32 × Int32 × Int32 × Int64 × Int32) := some (t_place, t_begin, s1, t_word, t_told)
def f_X13_nextToken_299 (t_place : Int32) (t_begin : Int32) (t_word : Int64) (t_told : Int32) : Option (Int32 × Int32 × Int32 × Int64 × Int32) := if (t_place - t_begin) ≤ (4 : Int32) then f_X13_nextToken_318 t_place t_begin t_word t_told ((2 : Int32))
  else f_X13_nextToken_318 t_place t_begin t_word t_told ((4 : Int32))
def f_X13_nextToken_224 : Nat → (Nat → Int32) → Int32 → Int32 → Int32 → Int64 → Int32 → Option (Int32 × Int32 × Int32 × Int64 × Int32)
  | 0, _, _, _, _, _, _ => none
  | n + 1, t_tape, t_size, t_place, t_begin, t_word, t_told => (f_X13_signAt t_tape t_size (t_place)).bind fun r229 => if r229 < (48 : Int32) then f_X13_nextToken_299 t_place t_begin t_word t_told
    else (f_X13_signAt t_tape t_size (t_place)).bind fun r242 => if (57 : Int32) < r242 then f_X13_nextToken_299 t_place t_begin t_word t_told
    else if (4 : Int32) ≤ (t_place - t_begin) then f_X13_nextToken_286 (f_X13_nextToken_224 n) t_tape t_size t_place t_begin t_word t_told
    else (f_X13_signAt t_tape t_size (t_place)).bind fun r276 => f_X13_nextToken_286 (f_X13_nextToken_224 n) t_tape t_size t_place t_begin t_word ((((t_told * (10 : Int32)) + r276) - (48 : Int32)))
def f_X13_nextToken_368 (t_place : Int32) (t_begin : Int32) (t_word : Int64) (t_told : Int32) (s1 : Int32) : Option (Int32 × Int32 × Int32 × Int64 × Int32) := some (t_place, t_begin, s1, t_word, t_told)
def f_X13_nextToken_367 (t_place : Int32) (t_begin : Int32) (t_word : Int64) (t_told : Int32) : Option (Int32 × Int32 × Int32 × Int64 × Int32) := f_X13_nextToken_368 t_place t_begin t_word t_told ((4 : Int32))
def f_X13_nextToken_345 (t_place : Int32) (t_begin : Int32) (t_word : Int64) (t_told : Int32) (x1 : Int32) : Option (Int32 × Int32 × Int32 × Int64 × Int32) := if x1 = (45 : Int32) then f_X13_nextToken_368 t_place t_begin t_word t_told ((3 : Int32))
  else if x1 < (59 : Int32) then f_X13_nextToken_367 t_place t_begin t_word t_told
  else if (61 : Int32) < x1 then f_X13_nextToken_367 t_place t_begin t_word t_told
  else f_X13_nextToken_368 t_place t_begin t_word t_told ((3 : Int32))
def f_X13_nextToken_322 (t_place : Int32) (t_begin : Int32) (t_word : Int64) (t_told : Int32) (x1 : Int32) : Option (Int32 × Int32 × Int32 × Int64 × Int32) := if x1 < (40 : Int32) then f_X13_nextToken_345 ((t_place + (1 : Int32))) t_begin t_word t_told x1
  else if x1 ≤ (43 : Int32) then f_X13_nextToken_368 ((t_place + (1 : Int32))) t_begin t_word t_told ((3 : Int32))
  else f_X13_nextToken_345 ((t_place + (1 : Int32))) t_begin t_word t_told x1
def f_X13_nextToken_212 (t_tape : (Nat → Int32)) (t_size : Int32) (t_place : Int32) (t_begin : Int32) (t_word : Int64) (t_told : Int32) (x1 : Int32) : Option (Int32 × Int32 × Int32 × Int64 × Int32) := if x1 < (48 : Int32) then f_X13_nextToken_322 t_place t_begin t_word t_told x1
  else if (57 : Int32) < x1 then f_X13_nextToken_322 t_place t_begin t_word t_told x1
  else f_X13_nextToken_224 1100 t_tape t_size t_place t_begin t_word t_told
def f_X13_nextToken_52 (t_tape : (Nat → Int32)) (t_size : Int32) (t_place : Int32) : Option (Int32 × Int32 × Int32 × Int64 × Int32) := if t_place = t_size then some (t_place, t_place, (0 : Int32), (0 : Int64), (0 : Int32))
  else gd (t_place) 1000 (if (t_tape (t_place).toNatClampNeg) < (97 : Int32) then f_X13_nextToken_212 t_tape t_size t_place t_place ((0 : Int64)) ((0 : Int32)) ((t_tape (t_place).toNatClampNeg))
  else if (122 : Int32) < (t_tape (t_place).toNatClampNeg) then f_X13_nextToken_212 t_tape t_size t_place t_place ((0 : Int64)) ((0 : Int32)) ((t_tape (t_place).toNatClampNeg))
  else f_X13_nextToken_109 1100 t_tape t_size t_place t_place ((0 : Int64)) ((0 : Int32)))
def f_X13_nextToken_0 : Nat → (Nat → Int32) → Int32 → Int32 → Option (Int32 × Int32 × Int32 × Int64 × Int32)
  | 0, _, _, _ => none
  | n + 1, t_tape, t_size, t_place => if t_size ≤ t_place then f_X13_nextToken_52 t_tape t_size t_place
    else gd (t_place) 1000 (if (t_tape (t_place).toNatClampNeg) = (32 : Int32) then f_X13_nextToken_39 (f_X13_nextToken_0 n) t_tape t_size t_place
    else gd (t_place) 1000 (if (t_tape (t_place).toNatClampNeg) = (10 : Int32) then f_X13_nextToken_39 (f_X13_nextToken_0 n) t_tape t_size t_place
    else f_X13_nextToken_52 t_tape t_size t_place))
def f_X13_nextToken (t_tape : (Nat → Int32)) (t_size : Int32) (t_place : Int32) : Option (Int32 × Int32 × Int32 × Int64 × Int32) := f_X13_nextToken_0 1100 t_tape t_size t_place
abbrev rm_X13_nextToken : Room := { frames := 1, cells := 0, slots := 0, locals := 21 }
theorem hd_X13_nextToken : yX13_nextToken.cls = RX13 ∧ yX13_nextToken.cls ≠ "java/lang/invoke/MethodHandle" ∧ yX13_nextToken.cls ≠ "java/lang/invoke/VarHandle" ∧ (parseMethodDescriptor yX13_nextToken.desc).map (fun d => d.parameters.length) = some 0 := by decide +kernel
set_option maxRecDepth 100000 in
set_option maxHeartbeats 4000000 in
theorem kb_X13_nextToken_39 {E : En} {p : Program} {l : Launch} {e : Env} {s : State} {m : MethodId} {args : Array Value} {below : List Frame} {meth : Method} {c : Code} {A : Nat → Prop} {t_o : Nat} {t_q : Nat → Nat} {t_thrown : Int32} {t_taped : Int32} {t_tape : (Nat → Int32)} {t_size : Int32} {t_wrong : Int32} {t_city : (Nat → Int32)} {t_manName : (Nat → Int64)} {t_dangerName : (Nat → Int64)} {t_decreeName : (Nat → Int64)} {t_kind : (Nat → Int32)} {t_skill : (Nat → Int32)} {t_fieldTold : (Nat → Int32)} {t_want : (Nat → Int32)} {t_hates : (Nat → Int32)} {t_restsOn : (Nat → Int32)} {t_sizeTold : (Nat → Int32)} {t_grows : (Nat → Int32)} {t_lineFrom : (Nat → Int32)} {t_lineTo : (Nat → Int32)} {t_codes : (Nat → Int32)} {t_code : Int32} {t_lawLine : Int32} {t_toldLines : Int32} {t_opened : (Nat → Int32)} {t_compared : (Nat → Int32)} {t_kept : (Nat → Int32)} {t_keptBy : (Nat → Int32)} {t_ahead : (Nat → Int32)} {t_against : (Nat → Int32)} {t_sum : (Nat → Int32)} {t_sumBy : (Nat → Int32)} {t_term : (Nat → Int32)} {t_termBy : (Nat → Int32)} {t_byNot : (Nat → Int32)} {t_valueOf : (Nat → Int32)} {t_given : Int32} {t_fresh : Int64} {t_consulsMany : Int32} {t_lines : (Nat → Int32)} {t_lineWhat : (Nat → Int32)} {t_lineA : (Nat → Int32)} {t_lineB : (Nat → Int32)} {t_tolds : (Nat → Int32)} {t_toldDanger : (Nat → Int32)} {t_toldMonths : (Nat → Int32)} {t_toldSize : (Nat → Int32)} {t_s : (Nat → Int32)} {t_aside : (Nat → Int32)} {t_tried : (Nat → Int32)} {t_marked : (Nat → Int32)} {t_undone : (Nat → Int32)} {t_isLaid : (Nat → Int32)} {t_done : Int32} {t_heading : (Nat → Int32)} {t_bestHeading : (Nat → Int32)} {t_leastLeft : Int32} {t_goesTo : (Nat → Int32)} {t_bestGoes : (Nat → Int32)} {t_leastMonths : Int32} {t_g : Int64} {out : Int32 × Int32 × Int32 × Int64 × Int32} (X : Bx E A p s m args meth c cX13_nextToken 2 RX13 none) {K0 : (Nat → Int32) → Int32 → Int32 → Option (Int32 × Int32 × Int32 × Int64 × Int32)} (hK0 : ∀ {t_place : Int32} {t_begin : Int32} {t_token : Int32} {t_word : Int64} {t_told : Int32} {H : Heap} {locs : List Loc} {ls : Array Slot}, K0 t_tape t_size t_place = some out → Wd E A s.heap (wX13 E t_o t_q t_thrown t_taped t_tape t_size t_place t_begin t_token t_word t_told t_wrong t_city t_manName t_dangerName t_decreeName t_kind t_skill t_fieldTold t_want t_hates t_restsOn t_sizeTold t_grows t_lineFrom t_lineTo t_codes t_code t_lawLine t_toldLines t_opened t_compared t_kept t_keptBy t_ahead t_against t_sum t_sumBy t_term t_termBy t_byNot t_valueOf t_given t_fresh t_consulsMany t_lines t_lineWhat t_lineA t_lineB t_tolds t_toldDanger t_toldMonths t_toldSize t_s t_aside t_tried t_marked t_undone t_isLaid t_done t_heading t_bestHeading t_leastLeft t_goesTo t_bestGoes t_leastMonths t_g) H locs → lv_has ls 2 [(0, .ref t_o)] → W p l e rm_X13_nextToken s m args below meth c H locs 0 0 (Zn E below args s A none (wX13 E t_o t_q t_thrown t_taped t_tape t_size out.1 out.2.1 out.2.2.1 out.2.2.2.1 out.2.2.2.2 t_wrong t_city t_manName t_dangerName t_decreeName t_kind t_skill t_fieldTold t_want t_hates t_restsOn t_sizeTold t_grows t_lineFrom t_lineTo t_codes t_code t_lawLine t_toldLines t_opened t_compared t_kept t_keptBy t_ahead t_against t_sum t_sumBy t_term t_termBy t_byNot t_valueOf t_given t_fresh t_consulsMany t_lines t_lineWhat t_lineA t_lineB t_tolds t_toldDanger t_toldMonths t_toldSize t_s t_aside t_tried t_marked t_undone t_isLaid t_done t_heading t_bestHeading t_leastLeft t_goesTo t_bestGoes t_leastMonths t_g)) (F0 m 0 ls [])) {t_place : Int32} {t_begin : Int32} {t_token : Int32} {t_word : Int64} {t_told : Int32} {H : Heap} {locs : List Loc} {ls : Array Slot} (hf : f_X13_nextToken_39 K0 t_tape t_size t_place = some out) : Wd E A s.heap (wX13 E t_o t_q t_thrown t_taped t_tape t_size t_place t_begin t_token t_word t_told t_wrong t_city t_manName t_dangerName t_decreeName t_kind t_skill t_fieldTold t_want t_hates t_restsOn t_sizeTold t_grows t_lineFrom t_lineTo t_codes t_code t_lawLine t_toldLines t_opened t_compared t_kept t_keptBy t_ahead t_against t_sum t_sumBy t_term t_termBy t_byNot t_valueOf t_given t_fresh t_consulsMany t_lines t_lineWhat t_lineA t_lineB t_tolds t_toldDanger t_toldMonths t_toldSize t_s t_aside t_tried t_marked t_undone t_isLaid t_done t_heading t_bestHeading t_leastLeft t_goesTo t_bestGoes t_leastMonths t_g) H locs → lv_has ls 2 [(0, .ref t_o)] → W p l e rm_X13_nextToken s m args below meth c H locs 0 0 (Zn E below args s A none (wX13 E t_o t_q t_thrown t_taped t_tape t_size out.1 out.2.1 out.2.2.1 out.2.2.2.1 out.2.2.2.2 t_wrong t_city t_manName t_dangerName t_decreeName t_kind t_skill t_fieldTold t_want t_hates t_restsOn t_sizeTold t_grows t_lineFrom t_lineTo t_codes t_code t_lawLine t_toldLines t_opened t_compared t_kept t_keptBy t_ahead t_against t_sum t_sumBy t_term t_termBy t_byNot t_valueOf t_given t_fresh t_consulsMany t_lines t_lineWhat t_lineA t_lineB t_tolds t_toldDanger t_toldMonths t_toldSize t_s t_aside t_tried t_marked t_undone t_isLaid t_done t_heading t_bestHeading t_leastLeft t_goesTo t_bestGoes t_leastMonths t_g)) (F0 m 39 ls []) := by
  have hx := X.1.1
  have hb := X.1.2.1
  have ho := X.1.2.2.2.1
  have hts := X.1.2.2.2.2
  intro hw hl
  unfold f_X13_nextToken_39 at hf
  refine lv_aload_n hx hb dX13_nextToken_39 rfl (lv_at hl 0 rfl) ?_
  refine lv_dup hx hb dX13_nextToken_40 rfl ?_
  refine k_get (q0 := 0) (ci := 11) (C := RX13) (T := TX13) (N := 65) (x := .int (t_place)) X inx_13 hw rfl rfl 4 (by decide) rfl tw_1377 rfl dX13_nextToken_41 ?_
  refine lv_iconst (v := (1 : Int32)) hx hb dX13_nextToken_44 (by decide) ?_
  refine lv_iadd hx hb dX13_nextToken_45 ?_
  refine k_put (q0 := 0) (ci := 11) (C := RX13) (T := TX13) (N := 65) (ty0 := tyX13) (x := .int ((t_place + (1 : Int32)))) X inx_13 tyX13_ok nmX13 hw rfl rfl 4 (by decide) rfl rfl tw_1377 rfl rfl (Nat.le_of_ble_eq_true rfl) dX13_nextToken_46 (fun H locs hw => ?_)
  have hw : Wd E A s.heap (wX13 E t_o t_q t_thrown t_taped t_tape t_size ((t_place + (1 : Int32))) t_begin t_token t_word t_told t_wrong t_city t_manName t_dangerName t_decreeName t_kind t_skill t_fieldTold t_want t_hates t_restsOn t_sizeTold t_grows t_lineFrom t_lineTo t_codes t_code t_lawLine t_toldLines t_opened t_compared t_kept t_keptBy t_ahead t_against t_sum t_sumBy t_term t_termBy t_byNot t_valueOf t_given t_fresh t_consulsMany t_lines t_lineWhat t_lineA t_lineB t_tolds t_toldDanger t_toldMonths t_toldSize t_s t_aside t_tried t_marked t_undone t_isLaid t_done t_heading t_bestHeading t_leastLeft t_goesTo t_bestGoes t_leastMonths t_g) H locs := hw
  refine lv_goto (tgt := 0) hx hb dX13_nextToken_49 (by decide) ?_
  exact hK0 hf hw (lv_sub hl [0] rfl)
set_option maxRecDepth 100000 in
set_option maxHeartbeats 4000000 in
theorem kb_X13_nextToken_175 {E : En} {p : Program} {l : Launch} {e : Env} {s : State} {m : MethodId} {args : Array Value} {below : List Frame} {meth : Method} {c : Code} {A : Nat → Prop} {t_o : Nat} {t_q : Nat → Nat} {t_thrown : Int32} {t_taped : Int32} {t_tape : (Nat → Int32)} {t_size : Int32} {t_wrong : Int32} {t_city : (Nat → Int32)} {t_manName : (Nat → Int64)} {t_dangerName : (Nat → Int64)} {t_decreeName : (Nat → Int64)} {t_kind : (Nat → Int32)} {t_skill : (Nat → Int32)} {t_fieldTold : (Nat → Int32)} {t_want : (Nat → Int32)} {t_hates : (Nat → Int32)} {t_restsOn : (Nat → Int32)} {t_sizeTold : (Nat → Int32)} {t_grows : (Nat → Int32)} {t_lineFrom : (Nat → Int32)} {t_lineTo : (Nat → Int32)} {t_codes : (Nat → Int32)} {t_code : Int32} {t_lawLine : Int32} {t_toldLines : Int32} {t_opened : (Nat → Int32)} {t_compared : (Nat → Int32)} {t_kept : (Nat → Int32)} {t_keptBy : (Nat → Int32)} {t_ahead : (Nat → Int32)} {t_against : (Nat → Int32)} {t_sum : (Nat → Int32)} {t_sumBy : (Nat → Int32)} {t_term : (Nat → Int32)} {t_termBy : (Nat → Int32)} {t_byNot : (Nat → Int32)} {t_valueOf : (Nat → Int32)} {t_given : Int32} {t_fresh : Int64} {t_consulsMany : Int32} {t_lines : (Nat → Int32)} {t_lineWhat : (Nat → Int32)} {t_lineA : (Nat → Int32)} {t_lineB : (Nat → Int32)} {t_tolds : (Nat → Int32)} {t_toldDanger : (Nat → Int32)} {t_toldMonths : (Nat → Int32)} {t_toldSize : (Nat → Int32)} {t_s : (Nat → Int32)} {t_aside : (Nat → Int32)} {t_tried : (Nat → Int32)} {t_marked : (Nat → Int32)} {t_undone : (Nat → Int32)} {t_isLaid : (Nat → Int32)} {t_done : Int32} {t_heading : (Nat → Int32)} {t_bestHeading : (Nat → Int32)} {t_leastLeft : Int32} {t_goesTo : (Nat → Int32)} {t_bestGoes : (Nat → Int32)} {t_leastMonths : Int32} {t_g : Int64} {out : Int32 × Int32 × Int32 × Int64 × Int32} (X : Bx E A p s m args meth c cX13_nextToken 2 RX13 none) {K109 : (Nat → Int32) → Int32 → Int32 → Int32 → Int64 → Int32 → Option (Int32 × Int32 × Int32 × Int64 × Int32)} (hK109 : ∀ {t_place : Int32} {t_begin : Int32} {t_token : Int32} {t_word : Int64} {t_told : Int32} {H : Heap} {locs : List Loc} {ls : Array Slot}, K109 t_tape t_size t_place t_begin t_word t_told = some out → Wd E A s.heap (wX13 E t_o t_q t_thrown t_taped t_tape t_size t_place t_begin t_token t_word t_told t_wrong t_city t_manName t_dangerName t_decreeName t_kind t_skill t_fieldTold t_want t_hates t_restsOn t_sizeTold t_grows t_lineFrom t_lineTo t_codes t_code t_lawLine t_toldLines t_opened t_compared t_kept t_keptBy t_ahead t_against t_sum t_sumBy t_term t_termBy t_byNot t_valueOf t_given t_fresh t_consulsMany t_lines t_lineWhat t_lineA t_lineB t_tolds t_toldDanger t_toldMonths t_toldSize t_s t_aside t_tried t_marked t_undone t_isLaid t_done t_heading t_bestHeading t_leastLeft t_goesTo t_bestGoes t_leastMonths t_g) H locs → lv_has ls 2 [(0, .ref t_o)] → W p l e rm_X13_nextToken s m args below meth c H locs 0 0 (Zn E below args s A none (wX13 E t_o t_q t_thrown t_taped t_tape t_size out.1 out.2.1 out.2.2.1 out.2.2.2.1 out.2.2.2.2 t_wrong t_city t_manName t_dangerName t_decreeName t_kind t_skill t_fieldTold t_want t_hates t_restsOn t_sizeTold t_grows t_lineFrom t_lineTo t_codes t_code t_lawLine t_toldLines t_opened t_compared t_kept t_keptBy t_ahead t_against t_sum t_sumBy t_term t_termBy t_byNot t_valueOf t_given t_fresh t_consulsMany t_lines t_lineWhat t_lineA t_lineB t_tolds t_toldDanger t_toldMonths t_toldSize t_s t_aside t_tried t_marked t_undone t_isLaid t_done t_heading t_bestHeading t_leastLeft t_goesTo t_bestGoes t_leastMonths t_g)) (F0 m 109 ls [])) {t_place : Int32} {t_begin : Int32} {t_token : Int32} {t_word : Int64} {t_told : Int32} {H : Heap} {locs : List Loc} {ls : Array Slot} (hf : f_X13_nextToken_175 K109 t_tape t_size t_place t_begin t_word t_told = some out) : Wd E A s.heap (wX13 E t_o t_q t_thrown t_taped t_tape t_size t_place t_begin t_token t_word t_told t_wrong t_city t_manName t_dangerName t_decreeName t_kind t_skill t_fieldTold t_want t_hates t_restsOn t_sizeTold t_grows t_lineFrom t_lineTo t_codes t_code t_lawLine t_toldLines t_opened t_compared t_kept t_keptBy t_ahead t_against t_sum t_sumBy t_term t_termBy t_byNot t_valueOf t_given t_fresh t_consulsMany t_lines t_lineWhat t_lineA t_lineB t_tolds t_toldDanger t_toldMonths t_toldSize t_s t_aside t_tried t_marked t_undone t_isLaid t_done t_heading t_bestHeading t_leastLeft t_goesTo t_bestGoes t_leastMonths t_g) H locs → lv_has ls 2 [(0, .ref t_o)] → W p l e rm_X13_nextToken s m args below meth c H locs 0 0 (Zn E below args s A none (wX13 E t_o t_q t_thrown t_taped t_tape t_size out.1 out.2.1 out.2.2.1 out.2.2.2.1 out.2.2.2.2 t_wrong t_city t_manName t_dangerName t_decreeName t_kind t_skill t_fieldTold t_want t_hates t_restsOn t_sizeTold t_grows t_lineFrom t_lineTo t_codes t_code t_lawLine t_toldLines t_opened t_compared t_kept t_keptBy t_ahead t_against t_sum t_sumBy t_term t_termBy t_byNot t_valueOf t_given t_fresh t_consulsMany t_lines t_lineWhat t_lineA t_lineB t_tolds t_toldDanger t_toldMonths t_toldSize t_s t_aside t_tried t_marked t_undone t_isLaid t_done t_heading t_bestHeading t_leastLeft t_goesTo t_bestGoes t_leastMonths t_g)) (F0 m 175 ls []) := by
  have hx := X.1.1
  have hb := X.1.2.1
  have ho := X.1.2.2.2.1
  have hts := X.1.2.2.2.2
  intro hw hl
  unfold f_X13_nextToken_175 at hf
  refine lv_aload_n hx hb dX13_nextToken_175 rfl (lv_at hl 0 rfl) ?_
  refine lv_dup hx hb dX13_nextToken_176 rfl ?_
  refine k_get (q0 := 0) (ci := 11) (C := RX13) (T := TX13) (N := 65) (x := .int (t_place)) X inx_13 hw rfl rfl 4 (by decide) rfl tw_1377 rfl dX13_nextToken_177 ?_
  refine lv_iconst (v := (1 : Int32)) hx hb dX13_nextToken_180 (by decide) ?_
  refine lv_iadd hx hb dX13_nextToken_181 ?_
  refine k_put (q0 := 0) (ci := 11) (C := RX13) (T := TX13) (N := 65) (ty0 := tyX13) (x := .int ((t_place + (1 : Int32)))) X inx_13 tyX13_ok nmX13 hw rfl rfl 4 (by decide) rfl rfl tw_1377 rfl rfl (Nat.le_of_ble_eq_true rfl) dX13_nextToken_182 (fun H locs hw => ?_)
  have hw : Wd E A s.heap (wX13 E t_o t_q t_thrown t_taped t_tape t_size ((t_place + (1 : Int32))) t_begin t_token t_word t_told t_wrong t_city t_manName t_dangerName t_decreeName t_kind t_skill t_fieldTold t_want t_hates t_restsOn t_sizeTold t_grows t_lineFrom t_lineTo t_codes t_code t_lawLine t_toldLines t_opened t_compared t_kept t_keptBy t_ahead t_against t_sum t_sumBy t_term t_termBy t_byNot t_valueOf t_given t_fresh t_consulsMany t_lines t_lineWhat t_lineA t_lineB t_tolds t_toldDanger t_toldMonths t_toldSize t_s t_aside t_tried t_marked t_undone t_isLaid t_done t_heading t_bestHeading t_leastLeft t_goesTo t_bestGoes t_leastMonths t_g) H locs := hw
  refine lv_goto (tgt := 109) hx hb dX13_nextToken_185 (by decide) ?_
  exact hK109 hf hw (lv_sub hl [0] rfl)
set_option maxRecDepth 100000 in
set_option maxHeartbeats 4000000 in
theorem kb_X13_nextToken_208 {E : En} {p : Program} {l : Launch} {e : Env} {s : State} {m : MethodId} {args : Array Value} {below : List Frame} {meth : Method} {c : Code} {A : Nat → Prop} {t_o : Nat} {t_q : Nat → Nat} {t_thrown : Int32} {t_taped : Int32} {t_tape : (Nat → Int32)} {t_size : Int32} {t_wrong : Int32} {t_city : (Nat → Int32)} {t_manName : (Nat → Int64)} {t_dangerName : (Nat → Int64)} {t_decreeName : (Nat → Int64)} {t_kind : (Nat → Int32)} {t_skill : (Nat → Int32)} {t_fieldTold : (Nat → Int32)} {t_want : (Nat → Int32)} {t_hates : (Nat → Int32)} {t_restsOn : (Nat → Int32)} {t_sizeTold : (Nat → Int32)} {t_grows : (Nat → Int32)} {t_lineFrom : (Nat → Int32)} {t_lineTo : (Nat → Int32)} {t_codes : (Nat → Int32)} {t_code : Int32} {t_lawLine : Int32} {t_toldLines : Int32} {t_opened : (Nat → Int32)} {t_compared : (Nat → Int32)} {t_kept : (Nat → Int32)} {t_keptBy : (Nat → Int32)} {t_ahead : (Nat → Int32)} {t_against : (Nat → Int32)} {t_sum : (Nat → Int32)} {t_sumBy : (Nat → Int32)} {t_term : (Nat → Int32)} {t_termBy : (Nat → Int32)} {t_byNot : (Nat → Int32)} {t_valueOf : (Nat → Int32)} {t_given : Int32} {t_fresh : Int64} {t_consulsMany : Int32} {t_lines : (Nat → Int32)} {t_lineWhat : (Nat → Int32)} {t_lineA : (Nat → Int32)} {t_lineB : (Nat → Int32)} {t_tolds : (Nat → Int32)} {t_toldDanger : (Nat → Int32)} {t_toldMonths : (Nat → Int32)} {t_toldSize : (Nat → Int32)} {t_s : (Nat → Int32)} {t_aside : (Nat → Int32)} {t_tried : (Nat → Int32)} {t_marked : (Nat → Int32)} {t_undone : (Nat → Int32)} {t_isLaid : (Nat → Int32)} {t_done : Int32} {t_heading : (Nat → Int32)} {t_bestHeading : (Nat → Int32)} {t_leastLeft : Int32} {t_goesTo : (Nat → Int32)} {t_bestGoes : (Nat → Int32)} {t_leastMonths : Int32} {t_g : Int64} {out : Int32 × Int32 × Int32 × Int64 × Int32} (X : Bx E A p s m args meth c cX13_nextToken 2 RX13 none) {t_place : Int32} {t_begin : Int32} {t_token : Int32} {t_word : Int64} {t_told : Int32} {s1 : Int32} {H : Heap} {locs : List Loc} {ls : Array Slot} (hf : f_X13_nextToken_208 t_place t_begin t_word t_told s1 = some out) : Wd E A s.heap (wX13 E t_o t_q t_thrown t_taped t_tape t_size t_place t_begin t_token t_word t_told t_wrong t_city t_manName t_dangerName t_decreeName t_kind t_skill t_fieldTold t_want t_hates t_restsOn t_sizeTold t_grows t_lineFrom t_lineTo t_codes t_code t_lawLine t_toldLines t_opened t_compared t_kept t_keptBy t_ahead t_against t_sum t_sumBy t_term t_termBy t_byNot t_valueOf t_given t_fresh t_consulsMany t_lines t_lineWhat t_lineA t_lineB t_tolds t_toldDanger t_toldMonths t_toldSize t_s t_aside t_tried t_marked t_undone t_isLaid t_done t_heading t_bestHeading t_leastLeft t_goesTo t_bestGoes t_leastMonths t_g) H locs → lv_has ls 2 [] → W p l e rm_X13_nextToken s m args below meth c H locs 0 0 (Zn E below args s A none (wX13 E t_o t_q t_thrown t_taped t_tape t_size out.1 out.2.1 out.2.2.1 out.2.2.2.1 out.2.2.2.2 t_wrong t_city t_manName t_dangerName t_decreeName t_kind t_skill t_fieldTold t_want t_hates t_restsOn t_sizeTold t_grows t_lineFrom t_lineTo t_codes t_code t_lawLine t_toldLines t_opened t_compared t_kept t_keptBy t_ahead t_against t_sum t_sumBy t_term t_termBy t_byNot t_valueOf t_given t_fresh t_consulsMany t_lines t_lineWhat t_lineA t_lineB t_tolds t_toldDanger t_toldMonths t_toldSize t_s t_aside t_tried t_marked t_undone t_isLaid t_done t_heading t_bestHeading t_leastLeft t_goesTo t_bestGoes t_leastMonths t_g)) (F0 m 208 ls [.int (s1), .ref t_o]) := by
  have hx := X.1.1
  have hb := X.1.2.1
  have ho := X.1.2.2.2.1
  have hts := X.1.2.2.2.2
  intro hw hl
  unfold f_X13_nextToken_208 at hf
  refine k_put (q0 := 0) (ci := 11) (C := RX13) (T := TX13) (N := 65) (ty0 := tyX13) (x := .int (s1)) X inx_13 tyX13_ok nmX13 hw rfl rfl 6 (by decide) rfl rfl tw_1379 rfl rfl (Nat.le_of_ble_eq_true rfl) dX13_nextToken_208 (fun H locs hw => ?_)
  have hw : Wd E A s.heap (wX13 E t_o t_q t_thrown t_taped t_tape t_size t_place t_begin s1 t_word t_told t_wrong t_city t_manName t_dangerName t_decreeName t_kind t_skill t_fieldTold t_want t_hates t_restsOn t_sizeTold t_grows t_lineFrom t_lineTo t_codes t_code t_lawLine t_toldLines t_opened t_compared t_kept t_keptBy t_ahead t_against t_sum t_sumBy t_term t_termBy t_byNot t_valueOf t_given t_fresh t_consulsMany t_lines t_lineWhat t_lineA t_lineB t_tolds t_toldDanger t_toldMonths t_toldSize t_s t_aside t_tried t_marked t_undone t_isLaid t_done t_heading t_bestHeading t_leastLeft t_goesTo t_bestGoes t_leastMonths t_g) H locs := hw
  obtain rfl := Option.some.inj hf
  exact k_vret X hw dX13_nextToken_211
set_option maxRecDepth 100000 in
set_option maxHeartbeats 4000000 in
theorem kb_X13_nextToken_188 {E : En} {p : Program} {l : Launch} {e : Env} {s : State} {m : MethodId} {args : Array Value} {below : List Frame} {meth : Method} {c : Code} {A : Nat → Prop} {t_o : Nat} {t_q : Nat → Nat} {t_thrown : Int32} {t_taped : Int32} {t_tape : (Nat → Int32)} {t_size : Int32} {t_wrong : Int32} {t_city : (Nat → Int32)} {t_manName : (Nat → Int64)} {t_dangerName : (Nat → Int64)} {t_decreeName : (Nat → Int64)} {t_kind : (Nat → Int32)} {t_skill : (Nat → Int32)} {t_fieldTold : (Nat → Int32)} {t_want : (Nat → Int32)} {t_hates : (Nat → Int32)} {t_restsOn : (Nat → Int32)} {t_sizeTold : (Nat → Int32)} {t_grows : (Nat → Int32)} {t_lineFrom : (Nat → Int32)} {t_lineTo : (Nat → Int32)} {t_codes : (Nat → Int32)} {t_code : Int32} {t_lawLine : Int32} {t_toldLines : Int32} {t_opened : (Nat → Int32)} {t_compared : (Nat → Int32)} {t_kept : (Nat → Int32)} {t_keptBy : (Nat → Int32)} {t_ahead : (Nat → Int32)} {t_against : (Nat → Int32)} {t_sum : (Nat → Int32)} {t_sumBy : (Nat → Int32)} {t_term : (Nat → Int32)} {t_termBy : (Nat → Int32)} {t_byNot : (Nat → Int32)} {t_valueOf : (Nat → Int32)} {t_given : Int32} {t_fresh : Int64} {t_consulsMany : Int32} {t_lines : (Nat → Int32)} {t_lineWhat : (Nat → Int32)} {t_lineA : (Nat → Int32)} {t_lineB : (Nat → Int32)} {t_tolds : (Nat → Int32)} {t_toldDanger : (Nat → Int32)} {t_toldMonths : (Nat → Int32)} {t_toldSize : (Nat → Int32)} {t_s : (Nat → Int32)} {t_aside : (Nat → Int32)} {t_tried : (Nat → Int32)} {t_marked : (Nat → Int32)} {t_undone : (Nat → Int32)} {t_isLaid : (Nat → Int32)} {t_done : Int32} {t_heading : (Nat → Int32)} {t_bestHeading : (Nat → Int32)} {t_leastLeft : Int32} {t_goesTo : (Nat → Int32)} {t_bestGoes : (Nat → Int32)} {t_leastMonths : Int32} {t_g : Int64} {out : Int32 × Int32 × Int32 × Int64 × Int32} (X : Bx E A p s m args meth c cX13_nextToken 2 RX13 none) {t_place : Int32} {t_begin : Int32} {t_token : Int32} {t_word : Int64} {t_told : Int32} {H : Heap} {locs : List Loc} {ls : Array Slot} (hf : f_X13_nextToken_188 t_place t_begin t_word t_told = some out) : Wd E A s.heap (wX13 E t_o t_q t_thrown t_taped t_tape t_size t_place t_begin t_token t_word t_told t_wrong t_city t_manName t_dangerName t_decreeName t_kind t_skill t_fieldTold t_want t_hates t_restsOn t_sizeTold t_grows t_lineFrom t_lineTo t_codes t_code t_lawLine t_toldLines t_opened t_compared t_kept t_keptBy t_ahead t_against t_sum t_sumBy t_term t_termBy t_byNot t_valueOf t_given t_fresh t_consulsMany t_lines t_lineWhat t_lineA t_lineB t_tolds t_toldDanger t_toldMonths t_toldSize t_s t_aside t_tried t_marked t_undone t_isLaid t_done t_heading t_bestHeading t_leastLeft t_goesTo t_bestGoes t_leastMonths t_g) H locs → lv_has ls 2 [(0, .ref t_o)] → W p l e rm_X13_nextToken s m args below meth c H locs 0 0 (Zn E below args s A none (wX13 E t_o t_q t_thrown t_taped t_tape t_size out.1 out.2.1 out.2.2.1 out.2.2.2.1 out.2.2.2.2 t_wrong t_city t_manName t_dangerName t_decreeName t_kind t_skill t_fieldTold t_want t_hates t_restsOn t_sizeTold t_grows t_lineFrom t_lineTo t_codes t_code t_lawLine t_toldLines t_opened t_compared t_kept t_keptBy t_ahead t_against t_sum t_sumBy t_term t_termBy t_byNot t_valueOf t_given t_fresh t_consulsMany t_lines t_lineWhat t_lineA t_lineB t_tolds t_toldDanger t_toldMonths t_toldSize t_s t_aside t_tried t_marked t_undone t_isLaid t_done t_heading t_bestHeading t_leastLeft t_goesTo t_bestGoes t_leastMonths t_g)) (F0 m 188 ls []) := by
  have hx := X.1.1
  have hb := X.1.2.1
  have ho := X.1.2.2.2.1
  have hts := X.1.2.2.2.2
  intro hw hl
  unfold f_X13_nextToken_188 at hf
  refine lv_aload_n hx hb dX13_nextToken_188 rfl (lv_at hl 0 rfl) ?_
  refine lv_aload_n hx hb dX13_nextToken_189 rfl (lv_at hl 0 rfl) ?_
  refine k_get (q0 := 0) (ci := 11) (C := RX13) (T := TX13) (N := 65) (x := .int (t_place)) X inx_13 hw rfl rfl 4 (by decide) rfl tw_1377 rfl dX13_nextToken_190 ?_
  refine lv_aload_n hx hb dX13_nextToken_193 rfl (lv_at hl 0 rfl) ?_
  refine k_get (q0 := 0) (ci := 11) (C := RX13) (T := TX13) (N := 65) (x := .int (t_begin)) X inx_13 hw rfl rfl 5 (by decide) rfl tw_1378 rfl dX13_nextToken_194 ?_
  refine lv_isub hx hb dX13_nextToken_197 ?_
  refine lv_bipush (v := (8 : Int32)) hx hb dX13_nextToken_198 (by decide) ?_
  refine lv_icmp_le (tgt := 207) hx hb dX13_nextToken_200 (by decide) (fun c_200 => ?_) (fun c_200 => ?_)
  · have hf := (if_pos c_200).symm.trans hf
    refine lv_iconst (v := (1 : Int32)) hx hb dX13_nextToken_207 (by decide) ?_
    exact kb_X13_nextToken_208 X hf hw (lv_sub hl [] rfl)
  · have hf := (if_neg c_200).symm.trans hf
    refine lv_iconst (v := (4 : Int32)) hx hb dX13_nextToken_203 (by decide) ?_
    refine lv_goto (tgt := 208) hx hb dX13_nextToken_204 (by decide) ?_
    exact kb_X13_nextToken_208 X hf hw (lv_sub hl [] rfl)
set_option maxRecDepth 100000 in
set_option maxHeartbeats 4000000 in
theorem kb_X13_nextToken_109 {E : En} {p : Program} {l : Launch} {e : Env} {s : State} {m : MethodId} {args : Array Value} {below : List Frame} {meth : Method} {c : Code} {A : Nat → Prop} {t_o : Nat} {t_q : Nat → Nat} {t_thrown : Int32} {t_taped : Int32} {t_tape : (Nat → Int32)} {t_size : Int32} {t_wrong : Int32} {t_city : (Nat → Int32)} {t_manName : (Nat → Int64)} {t_dangerName : (Nat → Int64)} {t_decreeName : (Nat → Int64)} {t_kind : (Nat → Int32)} {t_skill : (Nat → Int32)} {t_fieldTold : (Nat → Int32)} {t_want : (Nat → Int32)} {t_hates : (Nat → Int32)} {t_restsOn : (Nat → Int32)} {t_sizeTold : (Nat → Int32)} {t_grows : (Nat → Int32)} {t_lineFrom : (Nat → Int32)} {t_lineTo : (Nat → Int32)} {t_codes : (Nat → Int32)} {t_code : Int32} {t_lawLine : Int32} {t_toldLines : Int32} {t_opened : (Nat → Int32)} {t_compared : (Nat → Int32)} {t_kept : (Nat → Int32)} {t_keptBy : (Nat → Int32)} {t_ahead : (Nat → Int32)} {t_against : (Nat → Int32)} {t_sum : (Nat → Int32)} {t_sumBy : (Nat → Int32)} {t_term : (Nat → Int32)} {t_termBy : (Nat → Int32)} {t_byNot : (Nat → Int32)} {t_valueOf : (Nat → Int32)} {t_given : Int32} {t_fresh : Int64} {t_consulsMany : Int32} {t_lines : (Nat → Int32)} {t_lineWhat : (Nat → Int32)} {t_lineA : (Nat → Int32)} {t_lineB : (Nat → Int32)} {t_tolds : (Nat → Int32)} {t_toldDanger : (Nat → Int32)} {t_toldMonths : (Nat → Int32)} {t_toldSize : (Nat → Int32)} {t_s : (Nat → Int32)} {t_aside : (Nat → Int32)} {t_tried : (Nat → Int32)} {t_marked : (Nat → Int32)} {t_undone : (Nat → Int32)} {t_isLaid : (Nat → Int32)} {t_done : Int32} {t_heading : (Nat → Int32)} {t_bestHeading : (Nat → Int32)} {t_leastLeft : Int32} {t_goesTo : (Nat → Int32)} {t_bestGoes : (Nat → Int32)} {t_leastMonths : Int32} {t_g : Int64} {out : Int32 × Int32 × Int32 × Int64 × Int32} (X : Bx E A p s m args meth c cX13_nextToken 2 RX13 none) : ∀ (n : Nat) {t_place : Int32} {t_begin : Int32} {t_token : Int32} {t_word : Int64} {t_told : Int32} {H : Heap} {locs : List Loc} {ls : Array Slot}, f_X13_nextToken_109 n t_tape t_size t_place t_begin t_word t_told = some out → Wd E A s.heap (wX13 E t_o t_q t_thrown t_taped t_tape t_size t_place t_begin t_token t_word t_told t_wrong t_city t_manName t_dangerName t_decreeName t_kind t_skill t_fieldTold t_want t_hates t_restsOn t_sizeTold t_grows t_lineFrom t_lineTo t_codes t_code t_lawLine t_toldLines t_opened t_compared t_kept t_keptBy t_ahead t_against t_sum t_sumBy t_term t_termBy t_byNot t_valueOf t_given t_fresh t_consulsMany t_lines t_lineWhat t_lineA t_lineB t_tolds t_toldDanger t_toldMonths t_toldSize t_s t_aside t_tried t_marked t_undone t_isLaid t_done t_heading t_bestHeading t_leastLeft t_goesTo t_bestGoes t_leastMonths t_g) H locs → lv_has ls 2 [(0, .ref t_o)] → W p l e rm_X13_nextToken s m args below meth c H locs 0 0 (Zn E below args s A none (wX13 E t_o t_q t_thrown t_taped t_tape t_size out.1 out.2.1 out.2.2.1 out.2.2.2.1 out.2.2.2.2 t_wrong t_city t_manName t_dangerName t_decreeName t_kind t_skill t_fieldTold t_want t_hates t_restsOn t_sizeTold t_grows t_lineFrom t_lineTo t_codes t_code t_lawLine t_toldLines t_opened t_compared t_kept t_keptBy t_ahead t_against t_sum t_sumBy t_term t_termBy t_byNot t_valueOf t_given t_fresh t_consulsMany t_lines t_lineWhat t_lineA t_lineB t_tolds t_toldDanger t_toldMonths t_toldSize t_s t_aside t_tried t_marked t_undone t_isLaid t_done t_heading t_bestHeading t_leastLeft t_goesTo t_bestGoes t_leastMonths t_g)) (F0 m 109 ls []) := by
  have hx := X.1.1
  have hb := X.1.2.1
  have ho := X.1.2.2.2.1
  have hts := X.1.2.2.2.2
  intro n
  induction n with
  | zero =>
    intro t_place t_begin t_token t_word t_told H locs ls hf
    have hf : (none : Option (Int32 × Int32 × Int32 × Int64 × Int32)) = some out := hf
    cases hf
  | succ n ih =>
    intro t_place t_begin t_token t_word t_told H locs ls hf hw hl
    rw [f_X13_nextToken_109.eq_2] at hf
    refine lv_aload_n hx hb dX13_nextToken_109 rfl (lv_at hl 0 rfl) ?_
    refine lv_aload_n hx hb dX13_nextToken_110 rfl (lv_at hl 0 rfl) ?_
    refine k_get (q0 := 0) (ci := 11) (C := RX13) (T := TX13) (N := 65) (x := .int (t_place)) X inx_13 hw rfl rfl 4 (by decide) rfl tw_1377 rfl dX13_nextToken_111 ?_
    obtain ⟨r114, hc_114, hf⟩ := bd_some hf
    refine k_V (As := [.int (t_place)]) (rest := []) (index := 181) (C := RX13) X (c_X13_signAt hc_114) tw_1595 tw_1597 tw_49 tw_130 tw_1598 ⟨rfl, rfl⟩ hd_X13_signAt ⟨Nat.le_of_ble_eq_true rfl, Nat.le_of_ble_eq_true rfl⟩ ⟨Nat.zero_le _, Nat.zero_le _⟩ hw [0, 1, 2, 3, 4, 5, 6, 7, 8, 9, 10, 11, 12, 13, 14, 15, 16, 17, 18, 19, 20, 21, 22, 23, 24, 25, 26, 27, 28, 29, 30, 31, 32, 33, 34, 35, 36, 37, 38, 39, 40, 41, 42, 43, 44, 45, 46] rfl rfl 0 rfl rfl rfl rfl hl.1 rfl (Nat.le_of_ble_eq_true rfl) dX13_nextToken_114 (fun H locs hw => ?_)
    have hw : Wd E A s.heap (wX13 E t_o t_q t_thrown t_taped t_tape t_size t_place t_begin t_token t_word t_told t_wrong t_city t_manName t_dangerName t_decreeName t_kind t_skill t_fieldTold t_want t_hates t_restsOn t_sizeTold t_grows t_lineFrom t_lineTo t_codes t_code t_lawLine t_toldLines t_opened t_compared t_kept t_keptBy t_ahead t_against t_sum t_sumBy t_term t_termBy t_byNot t_valueOf t_given t_fresh t_consulsMany t_lines t_lineWhat t_lineA t_lineB t_tolds t_toldDanger t_toldMonths t_toldSize t_s t_aside t_tried t_marked t_undone t_isLaid t_done t_heading t_bestHeading t_leastLeft t_goesTo t_bestGoes t_leastMonths t_g) H locs := hw
    refine lv_bipush (v := (97 : Int32)) hx hb dX13_nextToken_117 (by decide) ?_
    refine lv_icmp_lt (tgt := 188) hx hb dX13_nextToken_119 (by decide) (fun c_119 => ?_) (fun c_119 => ?_)
    · have hf := (if_pos c_119).symm.trans hf
      exact kb_X13_nextToken_188 X hf hw (lv_sub hl [0] rfl)
    · have hf := (if_neg c_119).symm.trans hf
      refine lv_aload_n hx hb dX13_nextToken_122 rfl (lv_at hl 0 rfl) ?_
      refine lv_aload_n hx hb dX13_nextToken_123 rfl (lv_at hl 0 rfl) ?_
      refine k_get (q0 := 0) (ci := 11) (C := RX13) (T := TX13) (N := 65) (x := .int (t_place)) X inx_13 hw rfl rfl 4 (by decide) rfl tw_1377 rfl dX13_nextToken_124 ?_
      obtain ⟨r127, hc_127, hf⟩ := bd_some hf
      refine k_V (As := [.int (t_place)]) (rest := []) (index := 181) (C := RX13) X (c_X13_signAt hc_127) tw_1595 tw_1597 tw_49 tw_130 tw_1598 ⟨rfl, rfl⟩ hd_X13_signAt ⟨Nat.le_of_ble_eq_true rfl, Nat.le_of_ble_eq_true rfl⟩ ⟨Nat.zero_le _, Nat.zero_le _⟩ hw [0, 1, 2, 3, 4, 5, 6, 7, 8, 9, 10, 11, 12, 13, 14, 15, 16, 17, 18, 19, 20, 21, 22, 23, 24, 25, 26, 27, 28, 29, 30, 31, 32, 33, 34, 35, 36, 37, 38, 39, 40, 41, 42, 43, 44, 45, 46] rfl rfl 0 rfl rfl rfl rfl hl.1 rfl (Nat.le_of_ble_eq_true rfl) dX13_nextToken_127 (fun H locs hw => ?_)
      have hw : Wd E A s.heap (wX13 E t_o t_q t_thrown t_taped t_tape t_size t_place t_begin t_token t_word t_told t_wrong t_city t_manName t_dangerName t_decreeName t_kind t_skill t_fieldTold t_want t_hates t_restsOn t_sizeTold t_grows t_lineFrom t_lineTo t_codes t_code t_lawLine t_toldLines t_opened t_compared t_kept t_keptBy t_ahead t_against t_sum t_sumBy t_term t_termBy t_byNot t_valueOf t_given t_fresh t_consulsMany t_lines t_lineWhat t_lineA t_lineB t_tolds t_toldDanger t_toldMonths t_toldSize t_s t_aside t_tried t_marked t_undone t_isLaid t_done t_heading t_bestHeading t_leastLeft t_goesTo t_bestGoes t_leastMonths t_g) H locs := hw
      refine lv_bipush (v := (122 : Int32)) hx hb dX13_nextToken_130 (by decide) ?_
      refine lv_icmp_gt (tgt := 188) hx hb dX13_nextToken_132 (by decide) (fun c_132 => ?_) (fun c_132 => ?_)
      · have hf := (if_pos c_132).symm.trans hf
        exact kb_X13_nextToken_188 X hf hw (lv_sub hl [0] rfl)
      · have hf := (if_neg c_132).symm.trans hf
        refine lv_aload_n hx hb dX13_nextToken_135 rfl (lv_at hl 0 rfl) ?_
        refine k_get (q0 := 0) (ci := 11) (C := RX13) (T := TX13) (N := 65) (x := .int (t_place)) X inx_13 hw rfl rfl 4 (by decide) rfl tw_1377 rfl dX13_nextToken_136 ?_
        refine lv_aload_n hx hb dX13_nextToken_139 rfl (lv_at hl 0 rfl) ?_
        refine k_get (q0 := 0) (ci := 11) (C := RX13) (T := TX13) (N := 65) (x := .int (t_begin)) X inx_13 hw rfl rfl 5 (by decide) rfl tw_1378 rfl dX13_nextToken_140 ?_
        refine lv_isub hx hb dX13_nextToken_143 ?_
        refine lv_bipush (v := (8 : Int32)) hx hb dX13_nextToken_144 (by decide) ?_
        refine lv_icmp_ge (tgt := 175) hx hb dX13_nextToken_146 (by decide) (fun c_146 => ?_) (fun c_146 => ?_)
        · have hf := (if_pos c_146).symm.trans hf
          exact kb_X13_nextToken_175 X (fun hf hw hl => ih hf hw hl) hf hw (lv_sub hl [0] rfl)
        · have hf := (if_neg c_146).symm.trans hf
          refine lv_aload_n hx hb dX13_nextToken_149 rfl (lv_at hl 0 rfl) ?_
          refine lv_aload_n hx hb dX13_nextToken_150 rfl (lv_at hl 0 rfl) ?_
          refine k_get (q0 := 0) (ci := 11) (C := RX13) (T := TX13) (N := 65) (x := .long (t_word)) X inx_13 hw rfl rfl 7 (by decide) rfl tw_1380 rfl dX13_nextToken_151 ?_
          refine lv_ldc2 (v := (27 : Int64)) hx hb ho (hts _ tw_1599) dX13_nextToken_154 ?_
          refine lv_lmul hx hb dX13_nextToken_157 ?_
          refine lv_aload_n hx hb dX13_nextToken_158 rfl (lv_at hl 0 rfl) ?_
          refine lv_aload_n hx hb dX13_nextToken_159 rfl (lv_at hl 0 rfl) ?_
          refine k_get (q0 := 0) (ci := 11) (C := RX13) (T := TX13) (N := 65) (x := .int (t_place)) X inx_13 hw rfl rfl 4 (by decide) rfl tw_1377 rfl dX13_nextToken_160 ?_
          obtain ⟨r163, hc_163, hf⟩ := bd_some hf
          refine k_V (As := [.int (t_place)]) (rest := [.long ((t_word * (27 : Int64))), .ref t_o]) (index := 181) (C := RX13) X (c_X13_signAt hc_163) tw_1595 tw_1597 tw_49 tw_130 tw_1598 ⟨rfl, rfl⟩ hd_X13_signAt ⟨Nat.le_of_ble_eq_true rfl, Nat.le_of_ble_eq_true rfl⟩ ⟨Nat.zero_le _, Nat.zero_le _⟩ hw [0, 1, 2, 3, 4, 5, 6, 7, 8, 9, 10, 11, 12, 13, 14, 15, 16, 17, 18, 19, 20, 21, 22, 23, 24, 25, 26, 27, 28, 29, 30, 31, 32, 33, 34, 35, 36, 37, 38, 39, 40, 41, 42, 43, 44, 45, 46] rfl rfl 0 rfl rfl rfl rfl hl.1 rfl (Nat.le_of_ble_eq_true rfl) dX13_nextToken_163 (fun H locs hw => ?_)
          have hw : Wd E A s.heap (wX13 E t_o t_q t_thrown t_taped t_tape t_size t_place t_begin t_token t_word t_told t_wrong t_city t_manName t_dangerName t_decreeName t_kind t_skill t_fieldTold t_want t_hates t_restsOn t_sizeTold t_grows t_lineFrom t_lineTo t_codes t_code t_lawLine t_toldLines t_opened t_compared t_kept t_keptBy t_ahead t_against t_sum t_sumBy t_term t_termBy t_byNot t_valueOf t_given t_fresh t_consulsMany t_lines t_lineWhat t_lineA t_lineB t_tolds t_toldDanger t_toldMonths t_toldSize t_s t_aside t_tried t_marked t_undone t_isLaid t_done t_heading t_bestHeading t_leastLeft t_goesTo t_bestGoes t_leastMonths t_g) H locs := hw
          refine lv_i2l (v := (r163).toInt64) hx hb dX13_nextToken_166 rfl ?_
          refine lv_ladd hx hb dX13_nextToken_167 ?_
          refine lv_ldc2 (v := (96 : Int64)) hx hb ho (hts _ tw_1600) dX13_nextToken_168 ?_
          refine lv_lsub hx hb dX13_nextToken_171 ?_
          refine k_put (q0 := 0) (ci := 11) (C := RX13) (T := TX13) (N := 65) (ty0 := tyX13) (x := .long ((((t_word * (27 : Int64)) + ((r163).toInt64)) - (96 : Int64)))) X inx_13 tyX13_ok nmX13 hw rfl rfl 7 (by decide) rfl rfl tw_1380 rfl rfl (Nat.le_of_ble_eq_true rfl) dX13_nextToken_172 (fun H locs hw => ?_)
          have hw : Wd E A s.heap (wX13 E t_o t_q t_thrown t_taped t_tape t_size t_place t_begin t_token ((((t_word * (27 : Int64)) + ((r163).toInt64)) - (96 : Int64))) t_told t_wrong t_city t_manName t_dangerName t_decreeName t_kind t_skill t_fieldTold t_want t_hates t_restsOn t_sizeTold t_grows t_lineFrom t_lineTo t_codes t_code t_lawLine t_toldLines t_opened t_compared t_kept t_keptBy t_ahead t_against t_sum t_sumBy t_term t_termBy t_byNot t_valueOf t_given t_fresh t_consulsMany t_lines t_lineWhat t_lineA t_lineB t_tolds t_toldDanger t_toldMonths t_toldSize t_s t_aside t_tried t_marked t_undone t_isLaid t_done t_heading t_bestHeading t_leastLeft t_goesTo t_bestGoes t_leastMonths t_g) H locs := hw
          exact kb_X13_nextToken_175 X (fun hf hw hl => ih hf hw hl) hf hw (lv_sub hl [0] rfl)
set_option maxRecDepth 100000 in
set_option maxHeartbeats 4000000 in
theorem kb_X13_nextToken_286 {E : En} {p : Program} {l : Launch} {e : Env} {s : State} {m : MethodId} {args : Array Value} {below : List Frame} {meth : Method} {c : Code} {A : Nat → Prop} {t_o : Nat} {t_q : Nat → Nat} {t_thrown : Int32} {t_taped : Int32} {t_tape : (Nat → Int32)} {t_size : Int32} {t_wrong : Int32} {t_city : (Nat → Int32)} {t_manName : (Nat → Int64)} {t_dangerName : (Nat → Int64)} {t_decreeName : (Nat → Int64)} {t_kind : (Nat → Int32)} {t_skill : (Nat → Int32)} {t_fieldTold : (Nat → Int32)} {t_want : (Nat → Int32)} {t_hates : (Nat → Int32)} {t_restsOn : (Nat → Int32)} {t_sizeTold : (Nat → Int32)} {t_grows : (Nat → Int32)} {t_lineFrom : (Nat → Int32)} {t_lineTo : (Nat → Int32)} {t_codes : (Nat → Int32)} {t_code : Int32} {t_lawLine : Int32} {t_toldLines : Int32} {t_opened : (Nat → Int32)} {t_compared : (Nat → Int32)} {t_kept : (Nat → Int32)} {t_keptBy : (Nat → Int32)} {t_ahead : (Nat → Int32)} {t_against : (Nat → Int32)} {t_sum : (Nat → Int32)} {t_sumBy : (Nat → Int32)} {t_term : (Nat → Int32)} {t_termBy : (Nat → Int32)} {t_byNot : (Nat → Int32)} {t_valueOf : (Nat → Int32)} {t_given : Int32} {t_fresh : Int64} {t_consulsMany : Int32} {t_lines : (Nat → Int32)} {t_lineWhat : (Nat → Int32)} {t_lineA : (Nat → Int32)} {t_lineB : (Nat → Int32)} {t_tolds : (Nat → Int32)} {t_toldDanger : (Nat → Int32)} {t_toldMonths : (Nat → Int32)} {t_toldSize : (Nat → Int32)} {t_s : (Nat → Int32)} {t_aside : (Nat → Int32)} {t_tried : (Nat → Int32)} {t_marked : (Nat → Int32)} {t_undone : (Nat → Int32)} {t_isLaid : (Nat → Int32)} {t_done : Int32} {t_heading : (Nat → Int32)} {t_bestHeading : (Nat → Int32)} {t_leastLeft : Int32} {t_goesTo : (Nat → Int32)} {t_bestGoes : (Nat → Int32)} {t_leastMonths : Int32} {t_g : Int64} {out : Int32 × Int32 × Int32 × Int64 × Int32} (X : Bx E A p s m args meth c cX13_nextToken 2 RX13 none) {K224 : (Nat → Int32) → Int32 → Int32 → Int32 → Int64 → Int32 → Option (Int32 × Int32 × Int32 × Int64 × Int32)} (hK224 : ∀ {t_place : Int32} {t_begin : Int32} {t_token : Int32} {t_word : Int64} {t_told : Int32} {H : Heap} {locs : List Loc} {ls : Array Slot}, K224 t_tape t_size t_place t_begin t_word t_told = some out → Wd E A s.heap (wX13 E t_o t_q t_thrown t_taped t_tape t_size t_place t_begin t_token t_word t_told t_wrong t_city t_manName t_dangerName t_decreeName t_kind t_skill t_fieldTold t_want t_hates t_restsOn t_sizeTold t_grows t_lineFrom t_lineTo t_codes t_code t_lawLine t_toldLines t_opened t_compared t_kept t_keptBy t_ahead t_against t_sum t_sumBy t_term t_termBy t_byNot t_valueOf t_given t_fresh t_consulsMany t_lines t_lineWhat t_lineA t_lineB t_tolds t_toldDanger t_toldMonths t_toldSize t_s t_aside t_tried t_marked t_undone t_isLaid t_done t_heading t_bestHeading t_leastLeft t_goesTo t_bestGoes t_leastMonths t_g) H locs → lv_has ls 2 [(0, .ref t_o)] → W p l e rm_X13_nextToken s m args below meth c H locs 0 0 (Zn E below args s A none (wX13 E t_o t_q t_thrown t_taped t_tape t_size out.1 out.2.1 out.2.2.1 out.2.2.2.1 out.2.2.2.2 t_wrong t_city t_manName t_dangerName t_decreeName t_kind t_skill t_fieldTold t_want t_hates t_restsOn t_sizeTold t_grows t_lineFrom t_lineTo t_codes t_code t_lawLine t_toldLines t_opened t_compared t_kept t_keptBy t_ahead t_against t_sum t_sumBy t_term t_termBy t_byNot t_valueOf t_given t_fresh t_consulsMany t_lines t_lineWhat t_lineA t_lineB t_tolds t_toldDanger t_toldMonths t_toldSize t_s t_aside t_tried t_marked t_undone t_isLaid t_done t_heading t_bestHeading t_leastLeft t_goesTo t_bestGoes t_leastMonths t_g)) (F0 m 224 ls [])) {t_place : Int32} {t_begin : Int32} {t_token : Int32} {t_word : Int64} {t_told : Int32} {H : Heap} {locs : List Loc} {ls : Array Slot} (hf : f_X13_nextToken_286 K224 t_tape t_size t_place t_begin t_word t_told = some out) : Wd E A s.heap (wX13 E t_o t_q t_thrown t_taped t_tape t_size t_place t_begin t_token t_word t_told t_wrong t_city t_manName t_dangerName t_decreeName t_kind t_skill t_fieldTold t_want t_hates t_restsOn t_sizeTold t_grows t_lineFrom t_lineTo t_codes t_code t_lawLine t_toldLines t_opened t_compared t_kept t_keptBy t_ahead t_against t_sum t_sumBy t_term t_termBy t_byNot t_valueOf t_given t_fresh t_consulsMany t_lines t_lineWhat t_lineA t_lineB t_tolds t_toldDanger t_toldMonths t_toldSize t_s t_aside t_tried t_marked t_undone t_isLaid t_done t_heading t_bestHeading t_leastLeft t_goesTo t_bestGoes t_leastMonths t_g) H locs → lv_has ls 2 [(0, .ref t_o)] → W p l e rm_X13_nextToken s m args below meth c H locs 0 0 (Zn E below args s A none (wX13 E t_o t_q t_thrown t_taped t_tape t_size out.1 out.2.1 out.2.2.1 out.2.2.2.1 out.2.2.2.2 t_wrong t_city t_manName t_dangerName t_decreeName t_kind t_skill t_fieldTold t_want t_hates t_restsOn t_sizeTold t_grows t_lineFrom t_lineTo t_codes t_code t_lawLine t_toldLines t_opened t_compared t_kept t_keptBy t_ahead t_against t_sum t_sumBy t_term t_termBy t_byNot t_valueOf t_given t_fresh t_consulsMany t_lines t_lineWhat t_lineA t_lineB t_tolds t_toldDanger t_toldMonths t_toldSize t_s t_aside t_tried t_marked t_undone t_isLaid t_done t_heading t_bestHeading t_leastLeft t_goesTo t_bestGoes t_leastMonths t_g)) (F0 m 286 ls []) := by
  have hx := X.1.1
  have hb := X.1.2.1
  have ho := X.1.2.2.2.1
  have hts := X.1.2.2.2.2
  intro hw hl
  unfold f_X13_nextToken_286 at hf
  refine lv_aload_n hx hb dX13_nextToken_286 rfl (lv_at hl 0 rfl) ?_
  refine lv_dup hx hb dX13_nextToken_287 rfl ?_
  refine k_get (q0 := 0) (ci := 11) (C := RX13) (T := TX13) (N := 65) (x := .int (t_place)) X inx_13 hw rfl rfl 4 (by decide) rfl tw_1377 rfl dX13_nextToken_288 ?_
  refine lv_iconst (v := (1 : Int32)) hx hb dX13_nextToken_291 (by decide) ?_
  refine lv_iadd hx hb dX13_nextToken_292 ?_
  refine k_put (q0 := 0) (ci := 11) (C := RX13) (T := TX13) (N := 65) (ty0 := tyX13) (x := .int ((t_place + (1 : Int32)))) X inx_13 tyX13_ok nmX13 hw rfl rfl 4 (by decide) rfl rfl tw_1377 rfl rfl (Nat.le_of_ble_eq_true rfl) dX13_nextToken_293 (fun H locs hw => ?_)
  have hw : Wd E A s.heap (wX13 E t_o t_q t_thrown t_taped t_tape t_size ((t_place + (1 : Int32))) t_begin t_token t_word t_told t_wrong t_city t_manName t_dangerName t_decreeName t_kind t_skill t_fieldTold t_want t_hates t_restsOn t_sizeTold t_grows t_lineFrom t_lineTo t_codes t_code t_lawLine t_toldLines t_opened t_compared t_kept t_keptBy t_ahead t_against t_sum t_sumBy t_term t_termBy t_byNot t_valueOf t_given t_fresh t_consulsMany t_lines t_lineWhat t_lineA t_lineB t_tolds t_toldDanger t_toldMonths t_toldSize t_s t_aside t_tried t_marked t_undone t_isLaid t_done t_heading t_bestHeading t_leastLeft t_goesTo t_bestGoes t_leastMonths t_g) H locs := hw
  refine lv_goto (tgt := 224) hx hb dX13_nextToken_296 (by decide) ?_
  exact hK224 hf hw (lv_sub hl [0] rfl)
set_option maxRecDepth 100000 in
set_option maxHeartbeats 4000000 in
theorem kb_X13_nextToken_318 {E : En} {p : Program} {l : Launch} {e : Env} {s : State} {m : MethodId} {args : Array Value} {below : List Frame} {meth : Method} {c : Code} {A : Nat → Prop} {t_o : Nat} {t_q : Nat → Nat} {t_thrown : Int32} {t_taped : Int32} {t_tape : (Nat → Int32)} {t_size : Int32} {t_wrong : Int32} {t_city : (Nat → Int32)} {t_manName : (Nat → Int64)} {t_dangerName : (Nat → Int64)} {t_decreeName : (Nat → Int64)} {t_kind : (Nat → Int32)} {t_skill : (Nat → Int32)} {t_fieldTold : (Nat → Int32)} {t_want : (Nat → Int32)} {t_hates : (Nat → Int32)} {t_restsOn : (Nat → Int32)} {t_sizeTold : (Nat → Int32)} {t_grows : (Nat → Int32)} {t_lineFrom : (Nat → Int32)} {t_lineTo : (Nat → Int32)} {t_codes : (Nat → Int32)} {t_code : Int32} {t_lawLine : Int32} {t_toldLines : Int32} {t_opened : (Nat → Int32)} {t_compared : (Nat → Int32)} {t_kept : (Nat → Int32)} {t_keptBy : (Nat → Int32)} {t_ahead : (Nat → Int32)} {t_against : (Nat → Int32)} {t_sum : (Nat → Int32)} {t_sumBy : (Nat → Int32)} {t_term : (Nat → Int32)} {t_termBy : (Nat → Int32)} {t_byNot : (Nat → Int32)} {t_valueOf : (Nat → Int32)} {t_given : Int32} {t_fresh : Int64} {t_consulsMany : Int32} {t_lines : (Nat → Int32)} {t_lineWhat : (Nat → Int32)} {t_lineA : (Nat → Int32)} {t_lineB : (Nat → Int32)} {t_tolds : (Nat → Int32)} {t_toldDanger : (Nat → Int32)} {t_toldMonths : (Nat → Int32)} {t_toldSize : (Nat → Int32)} {t_s : (Nat → Int32)} {t_aside : (Nat → Int32)} {t_tried : (Nat → Int32)} {t_marked : (Nat → Int32)} {t_undone : (Nat → Int32)} {t_isLaid : (Nat → Int32)} {t_done : Int32} {t_heading : (Nat → Int32)} {t_bestHeading : (Nat → Int32)} {t_leastLeft : Int32} {t_goesTo : (Nat → Int32)} {t_bestGoes : (Nat → Int32)} {t_leastMonths : Int32} {t_g : Int64} {out : Int32 × Int32 × Int32 × Int64 × Int32} (X : Bx E A p s m args meth c cX13_nextToken 2 RX13 none) {t_place : Int32} {t_begin : Int32} {t_token : Int32} {t_word : Int64} {t_told : Int32} {s1 : Int32} {H : Heap} {locs : List Loc} {ls : Array Slot} (hf : f_X13_nextToken_318 t_place t_begin t_word t_told s1 = some out) : Wd E A s.heap (wX13 E t_o t_q t_thrown t_taped t_tape t_size t_place t_begin t_token t_word t_told t_wrong t_city t_manName t_dangerName t_decreeName t_kind t_skill t_fieldTold t_want t_hates t_restsOn t_sizeTold t_grows t_lineFrom t_lineTo t_codes t_code t_lawLine t_toldLines t_opened t_compared t_kept t_keptBy t_ahead t_against t_sum t_sumBy t_term t_termBy t_byNot t_valueOf t_given t_fresh t_consulsMany t_lines t_lineWhat t_lineA t_lineB t_tolds t_toldDanger t_toldMonths t_toldSize t_s t_aside t_tried t_marked t_undone t_isLaid t_done t_heading t_bestHeading t_leastLeft t_goesTo t_bestGoes t_leastMonths t_g) H locs → lv_has ls 2 [] → W p l e rm_X13_nextToken s m args below meth c H locs 0 0 (Zn E below args s A none (wX13 E t_o t_q t_thrown t_taped t_tape t_size out.1 out.2.1 out.2.2.1 out.2.2.2.1 out.2.2.2.2 t_wrong t_city t_manName t_dangerName t_decreeName t_kind t_skill t_fieldTold t_want t_hates t_restsOn t_sizeTold t_grows t_lineFrom t_lineTo t_codes t_code t_lawLine t_toldLines t_opened t_compared t_kept t_keptBy t_ahead t_against t_sum t_sumBy t_term t_termBy t_byNot t_valueOf t_given t_fresh t_consulsMany t_lines t_lineWhat t_lineA t_lineB t_tolds t_toldDanger t_toldMonths t_toldSize t_s t_aside t_tried t_marked t_undone t_isLaid t_done t_heading t_bestHeading t_leastLeft t_goesTo t_bestGoes t_leastMonths t_g)) (F0 m 318 ls [.int (s1), .ref t_o]) := by
  have hx := X.1.1
  have hb := X.1.2.1
  have ho := X.1.2.2.2.1
  have hts := X.1.2.2.2.2
  intro hw hl
  unfold f_X13_nextToken_318 at hf
  refine k_put (q0 := 0) (ci := 11) (C := RX13) (T := TX13) (N := 65) (ty0 := tyX13) (x := .int (s1)) X inx_13 tyX13_ok nmX13 hw rfl rfl 6 (by decide) rfl rfl tw_1379 rfl rfl (Nat.le_of_ble_eq_true rfl) dX13_nextToken_318 (fun H locs hw => ?_)
  have hw : Wd E A s.heap (wX13 E t_o t_q t_thrown t_taped t_tape t_size t_place t_begin s1 t_word t_told t_wrong t_city t_manName t_dangerName t_decreeName t_kind t_skill t_fieldTold t_want t_hates t_restsOn t_sizeTold t_grows t_lineFrom t_lineTo t_codes t_code t_lawLine t_toldLines t_opened t_compared t_kept t_keptBy t_ahead t_against t_sum t_sumBy t_term t_termBy t_byNot t_valueOf t_given t_fresh t_consulsMany t_lines t_lineWhat t_lineA t_lineB t_tolds t_toldDanger t_toldMonths t_toldSize t_s t_aside t_tried t_marked t_undone t_isLaid t_done t_heading t_bestHeading t_leastLeft t_goesTo t_bestGoes t_leastMonths t_g) H locs := hw
  obtain rfl := Option.some.inj hf
  exact k_vret X hw dX13_nextToken_321
set_option maxRecDepth 100000 in
set_option maxHeartbeats 4000000 in
theorem kb_X13_nextToken_299 {E : En} {p : Program} {l : Launch} {e : Env} {s : State} {m : MethodId} {args : Array Value} {below : List Frame} {meth : Method} {c : Code} {A : Nat → Prop} {t_o : Nat} {t_q : Nat → Nat} {t_thrown : Int32} {t_taped : Int32} {t_tape : (Nat → Int32)} {t_size : Int32} {t_wrong : Int32} {t_city : (Nat → Int32)} {t_manName : (Nat → Int64)} {t_dangerName : (Nat → Int64)} {t_decreeName : (Nat → Int64)} {t_kind : (Nat → Int32)} {t_skill : (Nat → Int32)} {t_fieldTold : (Nat → Int32)} {t_want : (Nat → Int32)} {t_hates : (Nat → Int32)} {t_restsOn : (Nat → Int32)} {t_sizeTold : (Nat → Int32)} {t_grows : (Nat → Int32)} {t_lineFrom : (Nat → Int32)} {t_lineTo : (Nat → Int32)} {t_codes : (Nat → Int32)} {t_code : Int32} {t_lawLine : Int32} {t_toldLines : Int32} {t_opened : (Nat → Int32)} {t_compared : (Nat → Int32)} {t_kept : (Nat → Int32)} {t_keptBy : (Nat → Int32)} {t_ahead : (Nat → Int32)} {t_against : (Nat → Int32)} {t_sum : (Nat → Int32)} {t_sumBy : (Nat → Int32)} {t_term : (Nat → Int32)} {t_termBy : (Nat → Int32)} {t_byNot : (Nat → Int32)} {t_valueOf : (Nat → Int32)} {t_given : Int32} {t_fresh : Int64} {t_consulsMany : Int32} {t_lines : (Nat → Int32)} {t_lineWhat : (Nat → Int32)} {t_lineA : (Nat → Int32)} {t_lineB : (Nat → Int32)} {t_tolds : (Nat → Int32)} {t_toldDanger : (Nat → Int32)} {t_toldMonths : (Nat → Int32)} {t_toldSize : (Nat → Int32)} {t_s : (Nat → Int32)} {t_aside : (Nat → Int32)} {t_tried : (Nat → Int32)} {t_marked : (Nat → Int32)} {t_undone : (Nat → Int32)} {t_isLaid : (Nat → Int32)} {t_done : Int32} {t_heading : (Nat → Int32)} {t_bestHeading : (Nat → Int32)} {t_leastLeft : Int32} {t_goesTo : (Nat → Int32)} {t_bestGoes : (Nat → Int32)} {t_leastMonths : Int32} {t_g : Int64} {out : Int32 × Int32 × Int32 × Int64 × Int32} (X : Bx E A p s m args meth c cX13_nextToken 2 RX13 none) {t_place : Int32} {t_begin : Int32} {t_token : Int32} {t_word : Int64} {t_told : Int32} {H : Heap} {locs : List Loc} {ls : Array Slot} (hf : f_X13_nextToken_299 t_place t_begin t_word t_told = some out) : Wd E A s.heap (wX13 E t_o t_q t_thrown t_taped t_tape t_size t_place t_begin t_token t_word t_told t_wrong t_city t_manName t_dangerName t_decreeName t_kind t_skill t_fieldTold t_want t_hates t_restsOn t_sizeTold t_grows t_lineFrom t_lineTo t_codes t_code t_lawLine t_toldLines t_opened t_compared t_kept t_keptBy t_ahead t_against t_sum t_sumBy t_term t_termBy t_byNot t_valueOf t_given t_fresh t_consulsMany t_lines t_lineWhat t_lineA t_lineB t_tolds t_toldDanger t_toldMonths t_toldSize t_s t_aside t_tried t_marked t_undone t_isLaid t_done t_heading t_bestHeading t_leastLeft t_goesTo t_bestGoes t_leastMonths t_g) H locs → lv_has ls 2 [(0, .ref t_o)] → W p l e rm_X13_nextToken s m args below meth c H locs 0 0 (Zn E below args s A none (wX13 E t_o t_q t_thrown t_taped t_tape t_size out.1 out.2.1 out.2.2.1 out.2.2.2.1 out.2.2.2.2 t_wrong t_city t_manName t_dangerName t_decreeName t_kind t_skill t_fieldTold t_want t_hates t_restsOn t_sizeTold t_grows t_lineFrom t_lineTo t_codes t_code t_lawLine t_toldLines t_opened t_compared t_kept t_keptBy t_ahead t_against t_sum t_sumBy t_term t_termBy t_byNot t_valueOf t_given t_fresh t_consulsMany t_lines t_lineWhat t_lineA t_lineB t_tolds t_toldDanger t_toldMonths t_toldSize t_s t_aside t_tried t_marked t_undone t_isLaid t_done t_heading t_bestHeading t_leastLeft t_goesTo t_bestGoes t_leastMonths t_g)) (F0 m 299 ls []) := by
  have hx := X.1.1
  have hb := X.1.2.1
  have ho := X.1.2.2.2.1
  have hts := X.1.2.2.2.2
  intro hw hl
  unfold f_X13_nextToken_299 at hf
  refine lv_aload_n hx hb dX13_nextToken_299 rfl (lv_at hl 0 rfl) ?_
  refine lv_aload_n hx hb dX13_nextToken_300 rfl (lv_at hl 0 rfl) ?_
  refine k_get (q0 := 0) (ci := 11) (C := RX13) (T := TX13) (N := 65) (x := .int (t_place)) X inx_13 hw rfl rfl 4 (by decide) rfl tw_1377 rfl dX13_nextToken_301 ?_
  refine lv_aload_n hx hb dX13_nextToken_304 rfl (lv_at hl 0 rfl) ?_
  refine k_get (q0 := 0) (ci := 11) (C := RX13) (T := TX13) (N := 65) (x := .int (t_begin)) X inx_13 hw rfl rfl 5 (by decide) rfl tw_1378 rfl dX13_nextToken_305 ?_
  refine lv_isub hx hb dX13_nextToken_308 ?_
  refine lv_iconst (v := (4 : Int32)) hx hb dX13_nextToken_309 (by decide) ?_
  refine lv_icmp_le (tgt := 317) hx hb dX13_nextToken_310 (by decide) (fun c_310 => ?_) (fun c_310 => ?_)
  · have hf := (if_pos c_310).symm.trans hf
    refine lv_iconst (v := (2 : Int32)) hx hb dX13_nextToken_317 (by decide) ?_
    exact kb_X13_nextToken_318 X hf hw (lv_sub hl [] rfl)
  · have hf := (if_neg c_310).symm.trans hf
    refine lv_iconst (v := (4 : Int32)) hx hb dX13_nextToken_313 (by decide) ?_
    refine lv_goto (tgt := 318) hx hb dX13_nextToken_314 (by decide) ?_
    exact kb_X13_nextToken_318 X hf hw (lv_sub hl [] rfl)
set_option maxRecDepth 100000 in
set_option maxHeartbeats 4000000 in
theorem kb_X13_nextToken_224 {E : En} {p : Program} {l : Launch} {e : Env} {s : State} {m : MethodId} {args : Array Value} {below : List Frame} {meth : Method} {c : Code} {A : Nat → Prop} {t_o : Nat} {t_q : Nat → Nat} {t_thrown : Int32} {t_taped : Int32} {t_tape : (Nat → Int32)} {t_size : Int32} {t_wrong : Int32} {t_city : (Nat → Int32)} {t_manName : (Nat → Int64)} {t_dangerName : (Nat → Int64)} {t_decreeName : (Nat → Int64)} {t_kind : (Nat → Int32)} {t_skill : (Nat → Int32)} {t_fieldTold : (Nat → Int32)} {t_want : (Nat → Int32)} {t_hates : (Nat → Int32)} {t_restsOn : (Nat → Int32)} {t_sizeTold : (Nat → Int32)} {t_grows : (Nat → Int32)} {t_lineFrom : (Nat → Int32)} {t_lineTo : (Nat → Int32)} {t_codes : (Nat → Int32)} {t_code : Int32} {t_lawLine : Int32} {t_toldLines : Int32} {t_opened : (Nat → Int32)} {t_compared : (Nat → Int32)} {t_kept : (Nat → Int32)} {t_keptBy : (Nat → Int32)} {t_ahead : (Nat → Int32)} {t_against : (Nat → Int32)} {t_sum : (Nat → Int32)} {t_sumBy : (Nat → Int32)} {t_term : (Nat → Int32)} {t_termBy : (Nat → Int32)} {t_byNot : (Nat → Int32)} {t_valueOf : (Nat → Int32)} {t_given : Int32} {t_fresh : Int64} {t_consulsMany : Int32} {t_lines : (Nat → Int32)} {t_lineWhat : (Nat → Int32)} {t_lineA : (Nat → Int32)} {t_lineB : (Nat → Int32)} {t_tolds : (Nat → Int32)} {t_toldDanger : (Nat → Int32)} {t_toldMonths : (Nat → Int32)} {t_toldSize : (Nat → Int32)} {t_s : (Nat → Int32)} {t_aside : (Nat → Int32)} {t_tried : (Nat → Int32)} {t_marked : (Nat → Int32)} {t_undone : (Nat → Int32)} {t_isLaid : (Nat → Int32)} {t_done : Int32} {t_heading : (Nat → Int32)} {t_bestHeading : (Nat → Int32)} {t_leastLeft : Int32} {t_goesTo : (Nat → Int32)} {t_bestGoes : (Nat → Int32)} {t_leastMonths : Int32} {t_g : Int64} {out : Int32 × Int32 × Int32 × Int64 × Int32} (X : Bx E A p s m args meth c cX13_nextToken 2 RX13 none) : ∀ (n : Nat) {t_place : Int32} {t_begin : Int32} {t_token : Int32} {t_word : Int64} {t_told : Int32} {H : Heap} {locs : List Loc} {ls : Array Slot}, f_X13_nextToken_224 n t_tape t_size t_place t_begin t_word t_told = some out → Wd E A s.heap (wX13 E t_o t_q t_thrown t_taped t_tape t_size t_place t_begin t_token t_word t_told t_wrong t_city t_manName t_dangerName t_decreeName t_kind t_skill t_fieldTold t_want t_hates t_restsOn t_sizeTold t_grows t_lineFrom t_lineTo t_codes t_code t_lawLine t_toldLines t_opened t_compared t_kept t_keptBy t_ahead t_against t_sum t_sumBy t_term t_termBy t_byNot t_valueOf t_given t_fresh t_consulsMany t_lines t_lineWhat t_lineA t_lineB t_tolds t_toldDanger t_toldMonths t_toldSize t_s t_aside t_tried t_marked t_undone t_isLaid t_done t_heading t_bestHeading t_leastLeft t_goesTo t_bestGoes t_leastMonths t_g) H locs → lv_has ls 2 [(0, .ref t_o)] → W p l e rm_X13_nextToken s m args below meth c H locs 0 0 (Zn E below args s A none (wX13 E t_o t_q t_thrown t_taped t_tape t_size out.1 out.2.1 out.2.2.1 out.2.2.2.1 out.2.2.2.2 t_wrong t_city t_manName t_dangerName t_decreeName t_kind t_skill t_fieldTold t_want t_hates t_restsOn t_sizeTold t_grows t_lineFrom t_lineTo t_codes t_code t_lawLine t_toldLines t_opened t_compared t_kept t_keptBy t_ahead t_against t_sum t_sumBy t_term t_termBy t_byNot t_valueOf t_given t_fresh t_consulsMany t_lines t_lineWhat t_lineA t_lineB t_tolds t_toldDanger t_toldMonths t_toldSize t_s t_aside t_tried t_marked t_undone t_isLaid t_done t_heading t_bestHeading t_leastLeft t_goesTo t_bestGoes t_leastMonths t_g)) (F0 m 224 ls []) := by
  have hx := X.1.1
  have hb := X.1.2.1
  have ho := X.1.2.2.2.1
  have hts := X.1.2.2.2.2
  intro n
  induction n with
  | zero =>
    intro t_place t_begin t_token t_word t_told H locs ls hf
    have hf : (none : Option (Int32 × Int32 × Int32 × Int64 × Int32)) = some out := hf
    cases hf
  | succ n ih =>
    intro t_place t_begin t_token t_word t_told H locs ls hf hw hl
    rw [f_X13_nextToken_224.eq_2] at hf
    refine lv_aload_n hx hb dX13_nextToken_224 rfl (lv_at hl 0 rfl) ?_
    refine lv_aload_n hx hb dX13_nextToken_225 rfl (lv_at hl 0 rfl) ?_
    refine k_get (q0 := 0) (ci := 11) (C := RX13) (T := TX13) (N := 65) (x := .int (t_place)) X inx_13 hw rfl rfl 4 (by decide) rfl tw_1377 rfl dX13_nextToken_226 ?_
    obtain ⟨r229, hc_229, hf⟩ := bd_some hf
    refine k_V (As := [.int (t_place)]) (rest := []) (index := 181) (C := RX13) X (c_X13_signAt hc_229) tw_1595 tw_1597 tw_49 tw_130 tw_1598 ⟨rfl, rfl⟩ hd_X13_signAt ⟨Nat.le_of_ble_eq_true rfl, Nat.le_of_ble_eq_true rfl⟩ ⟨Nat.zero_le _, Nat.zero_le _⟩ hw [0, 1, 2, 3, 4, 5, 6, 7, 8, 9, 10, 11, 12, 13, 14, 15, 16, 17, 18, 19, 20, 21, 22, 23, 24, 25, 26, 27, 28, 29, 30, 31, 32, 33, 34, 35, 36, 37, 38, 39, 40, 41, 42, 43, 44, 45, 46] rfl rfl 0 rfl rfl rfl rfl hl.1 rfl (Nat.le_of_ble_eq_true rfl) dX13_nextToken_229 (fun H locs hw => ?_)
    have hw : Wd E A s.heap (wX13 E t_o t_q t_thrown t_taped t_tape t_size t_place t_begin t_token t_word t_told t_wrong t_city t_manName t_dangerName t_decreeName t_kind t_skill t_fieldTold t_want t_hates t_restsOn t_sizeTold t_grows t_lineFrom t_lineTo t_codes t_code t_lawLine t_toldLines t_opened t_compared t_kept t_keptBy t_ahead t_against t_sum t_sumBy t_term t_termBy t_byNot t_valueOf t_given t_fresh t_consulsMany t_lines t_lineWhat t_lineA t_lineB t_tolds t_toldDanger t_toldMonths t_toldSize t_s t_aside t_tried t_marked t_undone t_isLaid t_done t_heading t_bestHeading t_leastLeft t_goesTo t_bestGoes t_leastMonths t_g) H locs := hw
    refine lv_bipush (v := (48 : Int32)) hx hb dX13_nextToken_232 (by decide) ?_
    refine lv_icmp_lt (tgt := 299) hx hb dX13_nextToken_234 (by decide) (fun c_234 => ?_) (fun c_234 => ?_)
    · have hf := (if_pos c_234).symm.trans hf
      exact kb_X13_nextToken_299 X hf hw (lv_sub hl [0] rfl)
    · have hf := (if_neg c_234).symm.trans hf
      refine lv_aload_n hx hb dX13_nextToken_237 rfl (lv_at hl 0 rfl) ?_
      refine lv_aload_n hx hb dX13_nextToken_238 rfl (lv_at hl 0 rfl) ?_
      refine k_get (q0 := 0) (ci := 11) (C := RX13) (T := TX13) (N := 65) (x := .int (t_place)) X inx_13 hw rfl rfl 4 (by decide) rfl tw_1377 rfl dX13_nextToken_239 ?_
      obtain ⟨r242, hc_242, hf⟩ := bd_some hf
      refine k_V (As := [.int (t_place)]) (rest := []) (index := 181) (C := RX13) X (c_X13_signAt hc_242) tw_1595 tw_1597 tw_49 tw_130 tw_1598 ⟨rfl, rfl⟩ hd_X13_signAt ⟨Nat.le_of_ble_eq_true rfl, Nat.le_of_ble_eq_true rfl⟩ ⟨Nat.zero_le _, Nat.zero_le _⟩ hw [0, 1, 2, 3, 4, 5, 6, 7, 8, 9, 10, 11, 12, 13, 14, 15, 16, 17, 18, 19, 20, 21, 22, 23, 24, 25, 26, 27, 28, 29, 30, 31, 32, 33, 34, 35, 36, 37, 38, 39, 40, 41, 42, 43, 44, 45, 46] rfl rfl 0 rfl rfl rfl rfl hl.1 rfl (Nat.le_of_ble_eq_true rfl) dX13_nextToken_242 (fun H locs hw => ?_)
      have hw : Wd E A s.heap (wX13 E t_o t_q t_thrown t_taped t_tape t_size t_place t_begin t_token t_word t_told t_wrong t_city t_manName t_dangerName t_decreeName t_kind t_skill t_fieldTold t_want t_hates t_restsOn t_sizeTold t_grows t_lineFrom t_lineTo t_codes t_code t_lawLine t_toldLines t_opened t_compared t_kept t_keptBy t_ahead t_against t_sum t_sumBy t_term t_termBy t_byNot t_valueOf t_given t_fresh t_consulsMany t_lines t_lineWhat t_lineA t_lineB t_tolds t_toldDanger t_toldMonths t_toldSize t_s t_aside t_tried t_marked t_undone t_isLaid t_done t_heading t_bestHeading t_leastLeft t_goesTo t_bestGoes t_leastMonths t_g) H locs := hw
      refine lv_bipush (v := (57 : Int32)) hx hb dX13_nextToken_245 (by decide) ?_
      refine lv_icmp_gt (tgt := 299) hx hb dX13_nextToken_247 (by decide) (fun c_247 => ?_) (fun c_247 => ?_)
      · have hf := (if_pos c_247).symm.trans hf
        exact kb_X13_nextToken_299 X hf hw (lv_sub hl [0] rfl)
      · have hf := (if_neg c_247).symm.trans hf
        refine lv_aload_n hx hb dX13_nextToken_250 rfl (lv_at hl 0 rfl) ?_
        refine k_get (q0 := 0) (ci := 11) (C := RX13) (T := TX13) (N := 65) (x := .int (t_place)) X inx_13 hw rfl rfl 4 (by decide) rfl tw_1377 rfl dX13_nextToken_251 ?_
        refine lv_aload_n hx hb dX13_nextToken_254 rfl (lv_at hl 0 rfl) ?_
        refine k_get (q0 := 0) (ci := 11) (C := RX13) (T := TX13) (N := 65) (x := .int (t_begin)) X inx_13 hw rfl rfl 5 (by decide) rfl tw_1378 rfl dX13_nextToken_255 ?_
        refine lv_isub hx hb dX13_nextToken_258 ?_
        refine lv_iconst (v := (4 : Int32)) hx hb dX13_nextToken_259 (by decide) ?_
        refine lv_icmp_ge (tgt := 286) hx hb dX13_nextToken_260 (by decide) (fun c_260 => ?_) (fun c_260 => ?_)
        · have hf := (if_pos c_260).symm.trans hf
          exact kb_X13_nextToken_286 X (fun hf hw hl => ih hf hw hl) hf hw (lv_sub hl [0] rfl)
        · have hf := (if_neg c_260).symm.trans hf
          refine lv_aload_n hx hb dX13_nextToken_263 rfl (lv_at hl 0 rfl) ?_
          refine lv_aload_n hx hb dX13_nextToken_264 rfl (lv_at hl 0 rfl) ?_
          refine k_get (q0 := 0) (ci := 11) (C := RX13) (T := TX13) (N := 65) (x := .int (t_told)) X inx_13 hw rfl rfl 8 (by decide) rfl tw_1381 rfl dX13_nextToken_265 ?_
          refine lv_bipush (v := (10 : Int32)) hx hb dX13_nextToken_268 (by decide) ?_
          refine lv_imul hx hb dX13_nextToken_270 ?_
          refine lv_aload_n hx hb dX13_nextToken_271 rfl (lv_at hl 0 rfl) ?_
          refine lv_aload_n hx hb dX13_nextToken_272 rfl (lv_at hl 0 rfl) ?_
          refine k_get (q0 := 0) (ci := 11) (C := RX13) (T := TX13) (N := 65) (x := .int (t_place)) X inx_13 hw rfl rfl 4 (by decide) rfl tw_1377 rfl dX13_nextToken_273 ?_
          obtain ⟨r276, hc_276, hf⟩ := bd_some hf
          refine k_V (As := [.int (t_place)]) (rest := [.int ((t_told * (10 : Int32))), .ref t_o]) (index := 181) (C := RX13) X (c_X13_signAt hc_276) tw_1595 tw_1597 tw_49 tw_130 tw_1598 ⟨rfl, rfl⟩ hd_X13_signAt ⟨Nat.le_of_ble_eq_true rfl, Nat.le_of_ble_eq_true rfl⟩ ⟨Nat.zero_le _, Nat.zero_le _⟩ hw [0, 1, 2, 3, 4, 5, 6, 7, 8, 9, 10, 11, 12, 13, 14, 15, 16, 17, 18, 19, 20, 21, 22, 23, 24, 25, 26, 27, 28, 29, 30, 31, 32, 33, 34, 35, 36, 37, 38, 39, 40, 41, 42, 43, 44, 45, 46] rfl rfl 0 rfl rfl rfl rfl hl.1 rfl (Nat.le_of_ble_eq_true rfl) dX13_nextToken_276 (fun H locs hw => ?_)
          have hw : Wd E A s.heap (wX13 E t_o t_q t_thrown t_taped t_tape t_size t_place t_begin t_token t_word t_told t_wrong t_city t_manName t_dangerName t_decreeName t_kind t_skill t_fieldTold t_want t_hates t_restsOn t_sizeTold t_grows t_lineFrom t_lineTo t_codes t_code t_lawLine t_toldLines t_opened t_compared t_kept t_keptBy t_ahead t_against t_sum t_sumBy t_term t_termBy t_byNot t_valueOf t_given t_fresh t_consulsMany t_lines t_lineWhat t_lineA t_lineB t_tolds t_toldDanger t_toldMonths t_toldSize t_s t_aside t_tried t_marked t_undone t_isLaid t_done t_heading t_bestHeading t_leastLeft t_goesTo t_bestGoes t_leastMonths t_g) H locs := hw
          refine lv_iadd hx hb dX13_nextToken_279 ?_
          refine lv_bipush (v := (48 : Int32)) hx hb dX13_nextToken_280 (by decide) ?_
          refine lv_isub hx hb dX13_nextToken_282 ?_
          refine k_put (q0 := 0) (ci := 11) (C := RX13) (T := TX13) (N := 65) (ty0 := tyX13) (x := .int ((((t_told * (10 : Int32)) + r276) - (48 : Int32)))) X inx_13 tyX13_ok nmX13 hw rfl rfl 8 (by decide) rfl rfl tw_1381 rfl rfl (Nat.le_of_ble_eq_true rfl) dX13_nextToken_283 (fun H locs hw => ?_)
          have hw : Wd E A s.heap (wX13 E t_o t_q t_thrown t_taped t_tape t_size t_place t_begin t_token t_word ((((t_told * (10 : Int32)) + r276) - (48 : Int32))) t_wrong t_city t_manName t_dangerName t_decreeName t_kind t_skill t_fieldTold t_want t_hates t_restsOn t_sizeTold t_grows t_lineFrom t_lineTo t_codes t_code t_lawLine t_toldLines t_opened t_compared t_kept t_keptBy t_ahead t_against t_sum t_sumBy t_term t_termBy t_byNot t_valueOf t_given t_fresh t_consulsMany t_lines t_lineWhat t_lineA t_lineB t_tolds t_toldDanger t_toldMonths t_toldSize t_s t_aside t_tried t_marked t_undone t_isLaid t_done t_heading t_bestHeading t_leastLeft t_goesTo t_bestGoes t_leastMonths t_g) H locs := hw
          exact kb_X13_nextToken_286 X (fun hf hw hl => ih hf hw hl) hf hw (lv_sub hl [0] rfl)
set_option maxRecDepth 100000 in
set_option maxHeartbeats 4000000 in
theorem kb_X13_nextToken_368 {E : En} {p : Program} {l : Launch} {e : Env} {s : State} {m : MethodId} {args : Array Value} {below : List Frame} {meth : Method} {c : Code} {A : Nat → Prop} {t_o : Nat} {t_q : Nat → Nat} {t_thrown : Int32} {t_taped : Int32} {t_tape : (Nat → Int32)} {t_size : Int32} {t_wrong : Int32} {t_city : (Nat → Int32)} {t_manName : (Nat → Int64)} {t_dangerName : (Nat → Int64)} {t_decreeName : (Nat → Int64)} {t_kind : (Nat → Int32)} {t_skill : (Nat → Int32)} {t_fieldTold : (Nat → Int32)} {t_want : (Nat → Int32)} {t_hates : (Nat → Int32)} {t_restsOn : (Nat → Int32)} {t_sizeTold : (Nat → Int32)} {t_grows : (Nat → Int32)} {t_lineFrom : (Nat → Int32)} {t_lineTo : (Nat → Int32)} {t_codes : (Nat → Int32)} {t_code : Int32} {t_lawLine : Int32} {t_toldLines : Int32} {t_opened : (Nat → Int32)} {t_compared : (Nat → Int32)} {t_kept : (Nat → Int32)} {t_keptBy : (Nat → Int32)} {t_ahead : (Nat → Int32)} {t_against : (Nat → Int32)} {t_sum : (Nat → Int32)} {t_sumBy : (Nat → Int32)} {t_term : (Nat → Int32)} {t_termBy : (Nat → Int32)} {t_byNot : (Nat → Int32)} {t_valueOf : (Nat → Int32)} {t_given : Int32} {t_fresh : Int64} {t_consulsMany : Int32} {t_lines : (Nat → Int32)} {t_lineWhat : (Nat → Int32)} {t_lineA : (Nat → Int32)} {t_lineB : (Nat → Int32)} {t_tolds : (Nat → Int32)} {t_toldDanger : (Nat → Int32)} {t_toldMonths : (Nat → Int32)} {t_toldSize : (Nat → Int32)} {t_s : (Nat → Int32)} {t_aside : (Nat → Int32)} {t_tried : (Nat → Int32)} {t_marked : (Nat → Int32)} {t_undone : (Nat → Int32)} {t_isLaid : (Nat → Int32)} {t_done : Int32} {t_heading : (Nat → Int32)} {t_bestHeading : (Nat → Int32)} {t_leastLeft : Int32} {t_goesTo : (Nat → Int32)} {t_bestGoes : (Nat → Int32)} {t_leastMonths : Int32} {t_g : Int64} {out : Int32 × Int32 × Int32 × Int64 × Int32} (X : Bx E A p s m args meth c cX13_nextToken 2 RX13 none) {t_place : Int32} {t_begin : Int32} {t_token : Int32} {t_word : Int64} {t_told : Int32} {s1 : Int32} {H : Heap} {locs : List Loc} {ls : Array Slot} (hf : f_X13_nextToken_368 t_place t_begin t_word t_told s1 = some out) : Wd E A s.heap (wX13 E t_o t_q t_thrown t_taped t_tape t_size t_place t_begin t_token t_word t_told t_wrong t_city t_manName t_dangerName t_decreeName t_kind t_skill t_fieldTold t_want t_hates t_restsOn t_sizeTold t_grows t_lineFrom t_lineTo t_codes t_code t_lawLine t_toldLines t_opened t_compared t_kept t_keptBy t_ahead t_against t_sum t_sumBy t_term t_termBy t_byNot t_valueOf t_given t_fresh t_consulsMany t_lines t_lineWhat t_lineA t_lineB t_tolds t_toldDanger t_toldMonths t_toldSize t_s t_aside t_tried t_marked t_undone t_isLaid t_done t_heading t_bestHeading t_leastLeft t_goesTo t_bestGoes t_leastMonths t_g) H locs → lv_has ls 2 [] → W p l e rm_X13_nextToken s m args below meth c H locs 0 0 (Zn E below args s A none (wX13 E t_o t_q t_thrown t_taped t_tape t_size out.1 out.2.1 out.2.2.1 out.2.2.2.1 out.2.2.2.2 t_wrong t_city t_manName t_dangerName t_decreeName t_kind t_skill t_fieldTold t_want t_hates t_restsOn t_sizeTold t_grows t_lineFrom t_lineTo t_codes t_code t_lawLine t_toldLines t_opened t_compared t_kept t_keptBy t_ahead t_against t_sum t_sumBy t_term t_termBy t_byNot t_valueOf t_given t_fresh t_consulsMany t_lines t_lineWhat t_lineA t_lineB t_tolds t_toldDanger t_toldMonths t_toldSize t_s t_aside t_tried t_marked t_undone t_isLaid t_done t_heading t_bestHeading t_leastLeft t_goesTo t_bestGoes t_leastMonths t_g)) (F0 m 368 ls [.int (s1), .ref t_o]) := by
  have hx := X.1.1
  have hb := X.1.2.1
  have ho := X.1.2.2.2.1
  have hts := X.1.2.2.2.2
  intro hw hl
  unfold f_X13_nextToken_368 at hf
  refine k_put (q0 := 0) (ci := 11) (C := RX13) (T := TX13) (N := 65) (ty0 := tyX13) (x := .int (s1)) X inx_13 tyX13_ok nmX13 hw rfl rfl 6 (by decide) rfl rfl tw_1379 rfl rfl (Nat.le_of_ble_eq_true rfl) dX13_nextToken_368 (fun H locs hw => ?_)
  have hw : Wd E A s.heap (wX13 E t_o t_q t_thrown t_taped t_tape t_size t_place t_begin s1 t_word t_told t_wrong t_city t_manName t_dangerName t_decreeName t_kind t_skill t_fieldTold t_want t_hates t_restsOn t_sizeTold t_grows t_lineFrom t_lineTo t_codes t_code t_lawLine t_toldLines t_opened t_compared t_kept t_keptBy t_ahead t_against t_sum t_sumBy t_term t_termBy t_byNot t_valueOf t_given t_fresh t_consulsMany t_lines t_lineWhat t_lineA t_lineB t_tolds t_toldDanger t_toldMonths t_toldSize t_s t_aside t_tried t_marked t_undone t_isLaid t_done t_heading t_bestHeading t_leastLeft t_goesTo t_bestGoes t_leastMonths t_g) H locs := hw
  obtain rfl := Option.some.inj hf
  exact k_vret X hw dX13_nextToken_371
set_option maxRecDepth 100000 in
set_option maxHeartbeats 4000000 in
theorem kb_X13_nextToken_367 {E : En} {p : Program} {l : Launch} {e : Env} {s : State} {m : MethodId} {args : Array Value} {below : List Frame} {meth : Method} {c : Code} {A : Nat → Prop} {t_o : Nat} {t_q : Nat → Nat} {t_thrown : Int32} {t_taped : Int32} {t_tape : (Nat → Int32)} {t_size : Int32} {t_wrong : Int32} {t_city : (Nat → Int32)} {t_manName : (Nat → Int64)} {t_dangerName : (Nat → Int64)} {t_decreeName : (Nat → Int64)} {t_kind : (Nat → Int32)} {t_skill : (Nat → Int32)} {t_fieldTold : (Nat → Int32)} {t_want : (Nat → Int32)} {t_hates : (Nat → Int32)} {t_restsOn : (Nat → Int32)} {t_sizeTold : (Nat → Int32)} {t_grows : (Nat → Int32)} {t_lineFrom : (Nat → Int32)} {t_lineTo : (Nat → Int32)} {t_codes : (Nat → Int32)} {t_code : Int32} {t_lawLine : Int32} {t_toldLines : Int32} {t_opened : (Nat → Int32)} {t_compared : (Nat → Int32)} {t_kept : (Nat → Int32)} {t_keptBy : (Nat → Int32)} {t_ahead : (Nat → Int32)} {t_against : (Nat → Int32)} {t_sum : (Nat → Int32)} {t_sumBy : (Nat → Int32)} {t_term : (Nat → Int32)} {t_termBy : (Nat → Int32)} {t_byNot : (Nat → Int32)} {t_valueOf : (Nat → Int32)} {t_given : Int32} {t_fresh : Int64} {t_consulsMany : Int32} {t_lines : (Nat → Int32)} {t_lineWhat : (Nat → Int32)} {t_lineA : (Nat → Int32)} {t_lineB : (Nat → Int32)} {t_tolds : (Nat → Int32)} {t_toldDanger : (Nat → Int32)} {t_toldMonths : (Nat → Int32)} {t_toldSize : (Nat → Int32)} {t_s : (Nat → Int32)} {t_aside : (Nat → Int32)} {t_tried : (Nat → Int32)} {t_marked : (Nat → Int32)} {t_undone : (Nat → Int32)} {t_isLaid : (Nat → Int32)} {t_done : Int32} {t_heading : (Nat → Int32)} {t_bestHeading : (Nat → Int32)} {t_leastLeft : Int32} {t_goesTo : (Nat → Int32)} {t_bestGoes : (Nat → Int32)} {t_leastMonths : Int32} {t_g : Int64} {out : Int32 × Int32 × Int32 × Int64 × Int32} (X : Bx E A p s m args meth c cX13_nextToken 2 RX13 none) {t_place : Int32} {t_begin : Int32} {t_token : Int32} {t_word : Int64} {t_told : Int32} {H : Heap} {locs : List Loc} {ls : Array Slot} (hf : f_X13_nextToken_367 t_place t_begin t_word t_told = some out) : Wd E A s.heap (wX13 E t_o t_q t_thrown t_taped t_tape t_size t_place t_begin t_token t_word t_told t_wrong t_city t_manName t_dangerName t_decreeName t_kind t_skill t_fieldTold t_want t_hates t_restsOn t_sizeTold t_grows t_lineFrom t_lineTo t_codes t_code t_lawLine t_toldLines t_opened t_compared t_kept t_keptBy t_ahead t_against t_sum t_sumBy t_term t_termBy t_byNot t_valueOf t_given t_fresh t_consulsMany t_lines t_lineWhat t_lineA t_lineB t_tolds t_toldDanger t_toldMonths t_toldSize t_s t_aside t_tried t_marked t_undone t_isLaid t_done t_heading t_bestHeading t_leastLeft t_goesTo t_bestGoes t_leastMonths t_g) H locs → lv_has ls 2 [] → W p l e rm_X13_nextToken s m args below meth c H locs 0 0 (Zn E below args s A none (wX13 E t_o t_q t_thrown t_taped t_tape t_size out.1 out.2.1 out.2.2.1 out.2.2.2.1 out.2.2.2.2 t_wrong t_city t_manName t_dangerName t_decreeName t_kind t_skill t_fieldTold t_want t_hates t_restsOn t_sizeTold t_grows t_lineFrom t_lineTo t_codes t_code t_lawLine t_toldLines t_opened t_compared t_kept t_keptBy t_ahead t_against t_sum t_sumBy t_term t_termBy t_byNot t_valueOf t_given t_fresh t_consulsMany t_lines t_lineWhat t_lineA t_lineB t_tolds t_toldDanger t_toldMonths t_toldSize t_s t_aside t_tried t_marked t_undone t_isLaid t_done t_heading t_bestHeading t_leastLeft t_goesTo t_bestGoes t_leastMonths t_g)) (F0 m 367 ls [.ref t_o]) := by
  have hx := X.1.1
  have hb := X.1.2.1
  have ho := X.1.2.2.2.1
  have hts := X.1.2.2.2.2
  intro hw hl
  unfold f_X13_nextToken_367 at hf
  refine lv_iconst (v := (4 : Int32)) hx hb dX13_nextToken_367 (by decide) ?_
  exact kb_X13_nextToken_368 X hf hw (lv_sub hl [] rfl)
set_option maxRecDepth 100000 in
set_option maxHeartbeats 4000000 in
theorem kb_X13_nextToken_345 {E : En} {p : Program} {l : Launch} {e : Env} {s : State} {m : MethodId} {args : Array Value} {below : List Frame} {meth : Method} {c : Code} {A : Nat → Prop} {t_o : Nat} {t_q : Nat → Nat} {t_thrown : Int32} {t_taped : Int32} {t_tape : (Nat → Int32)} {t_size : Int32} {t_wrong : Int32} {t_city : (Nat → Int32)} {t_manName : (Nat → Int64)} {t_dangerName : (Nat → Int64)} {t_decreeName : (Nat → Int64)} {t_kind : (Nat → Int32)} {t_skill : (Nat → Int32)} {t_fieldTold : (Nat → Int32)} {t_want : (Nat → Int32)} {t_hates : (Nat → Int32)} {t_restsOn : (Nat → Int32)} {t_sizeTold : (Nat → Int32)} {t_grows : (Nat → Int32)} {t_lineFrom : (Nat → Int32)} {t_lineTo : (Nat → Int32)} {t_codes : (Nat → Int32)} {t_code : Int32} {t_lawLine : Int32} {t_toldLines : Int32} {t_opened : (Nat → Int32)} {t_compared : (Nat → Int32)} {t_kept : (Nat → Int32)} {t_keptBy : (Nat → Int32)} {t_ahead : (Nat → Int32)} {t_against : (Nat → Int32)} {t_sum : (Nat → Int32)} {t_sumBy : (Nat → Int32)} {t_term : (Nat → Int32)} {t_termBy : (Nat → Int32)} {t_byNot : (Nat → Int32)} {t_valueOf : (Nat → Int32)} {t_given : Int32} {t_fresh : Int64} {t_consulsMany : Int32} {t_lines : (Nat → Int32)} {t_lineWhat : (Nat → Int32)} {t_lineA : (Nat → Int32)} {t_lineB : (Nat → Int32)} {t_tolds : (Nat → Int32)} {t_toldDanger : (Nat → Int32)} {t_toldMonths : (Nat → Int32)} {t_toldSize : (Nat → Int32)} {t_s : (Nat → Int32)} {t_aside : (Nat → Int32)} {t_tried : (Nat → Int32)} {t_marked : (Nat → Int32)} {t_undone : (Nat → Int32)} {t_isLaid : (Nat → Int32)} {t_done : Int32} {t_heading : (Nat → Int32)} {t_bestHeading : (Nat → Int32)} {t_leastLeft : Int32} {t_goesTo : (Nat → Int32)} {t_bestGoes : (Nat → Int32)} {t_leastMonths : Int32} {t_g : Int64} {out : Int32 × Int32 × Int32 × Int64 × Int32} (X : Bx E A p s m args meth c cX13_nextToken 2 RX13 none) {t_place : Int32} {t_begin : Int32} {t_token : Int32} {t_word : Int64} {t_told : Int32} {x1 : Int32} {H : Heap} {locs : List Loc} {ls : Array Slot} (hf : f_X13_nextToken_345 t_place t_begin t_word t_told x1 = some out) : Wd E A s.heap (wX13 E t_o t_q t_thrown t_taped t_tape t_size t_place t_begin t_token t_word t_told t_wrong t_city t_manName t_dangerName t_decreeName t_kind t_skill t_fieldTold t_want t_hates t_restsOn t_sizeTold t_grows t_lineFrom t_lineTo t_codes t_code t_lawLine t_toldLines t_opened t_compared t_kept t_keptBy t_ahead t_against t_sum t_sumBy t_term t_termBy t_byNot t_valueOf t_given t_fresh t_consulsMany t_lines t_lineWhat t_lineA t_lineB t_tolds t_toldDanger t_toldMonths t_toldSize t_s t_aside t_tried t_marked t_undone t_isLaid t_done t_heading t_bestHeading t_leastLeft t_goesTo t_bestGoes t_leastMonths t_g) H locs → lv_has ls 2 [(1, .int (x1))] → W p l e rm_X13_nextToken s m args below meth c H locs 0 0 (Zn E below args s A none (wX13 E t_o t_q t_thrown t_taped t_tape t_size out.1 out.2.1 out.2.2.1 out.2.2.2.1 out.2.2.2.2 t_wrong t_city t_manName t_dangerName t_decreeName t_kind t_skill t_fieldTold t_want t_hates t_restsOn t_sizeTold t_grows t_lineFrom t_lineTo t_codes t_code t_lawLine t_toldLines t_opened t_compared t_kept t_keptBy t_ahead t_against t_sum t_sumBy t_term t_termBy t_byNot t_valueOf t_given t_fresh t_consulsMany t_lines t_lineWhat t_lineA t_lineB t_tolds t_toldDanger t_toldMonths t_toldSize t_s t_aside t_tried t_marked t_undone t_isLaid t_done t_heading t_bestHeading t_leastLeft t_goesTo t_bestGoes t_leastMonths t_g)) (F0 m 345 ls [.ref t_o]) := by
  have hx := X.1.1
  have hb := X.1.2.1
  have ho := X.1.2.2.2.1
  have hts := X.1.2.2.2.2
  intro hw hl
  unfold f_X13_nextToken_345 at hf
  refine lv_iload_n hx hb dX13_nextToken_345 rfl (lv_at hl 0 rfl) ?_
  refine lv_bipush (v := (45 : Int32)) hx hb dX13_nextToken_346 (by decide) ?_
  refine lv_icmp_eq (tgt := 363) hx hb dX13_nextToken_348 (by decide) (fun c_348 => ?_) (fun c_348 => ?_)
  · have hf := (if_pos c_348).symm.trans hf
    refine lv_iconst (v := (3 : Int32)) hx hb dX13_nextToken_363 (by decide) ?_
    refine lv_goto (tgt := 368) hx hb dX13_nextToken_364 (by decide) ?_
    exact kb_X13_nextToken_368 X hf hw (lv_sub hl [] rfl)
  · have hf := (if_neg c_348).symm.trans hf
    refine lv_iload_n hx hb dX13_nextToken_351 rfl (lv_at hl 0 rfl) ?_
    refine lv_bipush (v := (59 : Int32)) hx hb dX13_nextToken_352 (by decide) ?_
    refine lv_icmp_lt (tgt := 367) hx hb dX13_nextToken_354 (by decide) (fun c_354 => ?_) (fun c_354 => ?_)
    · have hf := (if_pos c_354).symm.trans hf
      exact kb_X13_nextToken_367 X hf hw (lv_sub hl [] rfl)
    · have hf := (if_neg c_354).symm.trans hf
      refine lv_iload_n hx hb dX13_nextToken_357 rfl (lv_at hl 0 rfl) ?_
      refine lv_bipush (v := (61 : Int32)) hx hb dX13_nextToken_358 (by decide) ?_
      refine lv_icmp_gt (tgt := 367) hx hb dX13_nextToken_360 (by decide) (fun c_360 => ?_) (fun c_360 => ?_)
      · have hf := (if_pos c_360).symm.trans hf
        exact kb_X13_nextToken_367 X hf hw (lv_sub hl [] rfl)
      · have hf := (if_neg c_360).symm.trans hf
        refine lv_iconst (v := (3 : Int32)) hx hb dX13_nextToken_363 (by decide) ?_
        refine lv_goto (tgt := 368) hx hb dX13_nextToken_364 (by decide) ?_
        exact kb_X13_nextToken_368 X hf hw (lv_sub hl [] rfl)
set_option maxRecDepth 100000 in
set_option maxHeartbeats 4000000 in
theorem kb_X13_nextToken_322 {E : En} {p : Program} {l : Launch} {e : Env} {s : State} {m : MethodId} {args : Array Value} {below : List Frame} {meth : Method} {c : Code} {A : Nat → Prop} {t_o : Nat} {t_q : Nat → Nat} {t_thrown : Int32} {t_taped : Int32} {t_tape : (Nat → Int32)} {t_size : Int32} {t_wrong : Int32} {t_city : (Nat → Int32)} {t_manName : (Nat → Int64)} {t_dangerName : (Nat → Int64)} {t_decreeName : (Nat → Int64)} {t_kind : (Nat → Int32)} {t_skill : (Nat → Int32)} {t_fieldTold : (Nat → Int32)} {t_want : (Nat → Int32)} {t_hates : (Nat → Int32)} {t_restsOn : (Nat → Int32)} {t_sizeTold : (Nat → Int32)} {t_grows : (Nat → Int32)} {t_lineFrom : (Nat → Int32)} {t_lineTo : (Nat → Int32)} {t_codes : (Nat → Int32)} {t_code : Int32} {t_lawLine : Int32} {t_toldLines : Int32} {t_opened : (Nat → Int32)} {t_compared : (Nat → Int32)} {t_kept : (Nat → Int32)} {t_keptBy : (Nat → Int32)} {t_ahead : (Nat → Int32)} {t_against : (Nat → Int32)} {t_sum : (Nat → Int32)} {t_sumBy : (Nat → Int32)} {t_term : (Nat → Int32)} {t_termBy : (Nat → Int32)} {t_byNot : (Nat → Int32)} {t_valueOf : (Nat → Int32)} {t_given : Int32} {t_fresh : Int64} {t_consulsMany : Int32} {t_lines : (Nat → Int32)} {t_lineWhat : (Nat → Int32)} {t_lineA : (Nat → Int32)} {t_lineB : (Nat → Int32)} {t_tolds : (Nat → Int32)} {t_toldDanger : (Nat → Int32)} {t_toldMonths : (Nat → Int32)} {t_toldSize : (Nat → Int32)} {t_s : (Nat → Int32)} {t_aside : (Nat → Int32)} {t_tried : (Nat → Int32)} {t_marked : (Nat → Int32)} {t_undone : (Nat → Int32)} {t_isLaid : (Nat → Int32)} {t_done : Int32} {t_heading : (Nat → Int32)} {t_bestHeading : (Nat → Int32)} {t_leastLeft : Int32} {t_goesTo : (Nat → Int32)} {t_bestGoes : (Nat → Int32)} {t_leastMonths : Int32} {t_g : Int64} {out : Int32 × Int32 × Int32 × Int64 × Int32} (X : Bx E A p s m args meth c cX13_nextToken 2 RX13 none) {t_place : Int32} {t_begin : Int32} {t_token : Int32} {t_word : Int64} {t_told : Int32} {x1 : Int32} {H : Heap} {locs : List Loc} {ls : Array Slot} (hf : f_X13_nextToken_322 t_place t_begin t_word t_told x1 = some out) : Wd E A s.heap (wX13 E t_o t_q t_thrown t_taped t_tape t_size t_place t_begin t_token t_word t_told t_wrong t_city t_manName t_dangerName t_decreeName t_kind t_skill t_fieldTold t_want t_hates t_restsOn t_sizeTold t_grows t_lineFrom t_lineTo t_codes t_code t_lawLine t_toldLines t_opened t_compared t_kept t_keptBy t_ahead t_against t_sum t_sumBy t_term t_termBy t_byNot t_valueOf t_given t_fresh t_consulsMany t_lines t_lineWhat t_lineA t_lineB t_tolds t_toldDanger t_toldMonths t_toldSize t_s t_aside t_tried t_marked t_undone t_isLaid t_done t_heading t_bestHeading t_leastLeft t_goesTo t_bestGoes t_leastMonths t_g) H locs → lv_has ls 2 [(0, .ref t_o), (1, .int (x1))] → W p l e rm_X13_nextToken s m args below meth c H locs 0 0 (Zn E below args s A none (wX13 E t_o t_q t_thrown t_taped t_tape t_size out.1 out.2.1 out.2.2.1 out.2.2.2.1 out.2.2.2.2 t_wrong t_city t_manName t_dangerName t_decreeName t_kind t_skill t_fieldTold t_want t_hates t_restsOn t_sizeTold t_grows t_lineFrom t_lineTo t_codes t_code t_lawLine t_toldLines t_opened t_compared t_kept t_keptBy t_ahead t_against t_sum t_sumBy t_term t_termBy t_byNot t_valueOf t_given t_fresh t_consulsMany t_lines t_lineWhat t_lineA t_lineB t_tolds t_toldDanger t_toldMonths t_toldSize t_s t_aside t_tried t_marked t_undone t_isLaid t_done t_heading t_bestHeading t_leastLeft t_goesTo t_bestGoes t_leastMonths t_g)) (F0 m 322 ls []) := by
  have hx := X.1.1
  have hb := X.1.2.1
  have ho := X.1.2.2.2.1
  have hts := X.1.2.2.2.2
  intro hw hl
  unfold f_X13_nextToken_322 at hf
  refine lv_aload_n hx hb dX13_nextToken_322 rfl (lv_at hl 0 rfl) ?_
  refine lv_dup hx hb dX13_nextToken_323 rfl ?_
  refine k_get (q0 := 0) (ci := 11) (C := RX13) (T := TX13) (N := 65) (x := .int (t_place)) X inx_13 hw rfl rfl 4 (by decide) rfl tw_1377 rfl dX13_nextToken_324 ?_
  refine lv_iconst (v := (1 : Int32)) hx hb dX13_nextToken_327 (by decide) ?_
  refine lv_iadd hx hb dX13_nextToken_328 ?_
  refine k_put (q0 := 0) (ci := 11) (C := RX13) (T := TX13) (N := 65) (ty0 := tyX13) (x := .int ((t_place + (1 : Int32)))) X inx_13 tyX13_ok nmX13 hw rfl rfl 4 (by decide) rfl rfl tw_1377 rfl rfl (Nat.le_of_ble_eq_true rfl) dX13_nextToken_329 (fun H locs hw => ?_)
  have hw : Wd E A s.heap (wX13 E t_o t_q t_thrown t_taped t_tape t_size ((t_place + (1 : Int32))) t_begin t_token t_word t_told t_wrong t_city t_manName t_dangerName t_decreeName t_kind t_skill t_fieldTold t_want t_hates t_restsOn t_sizeTold t_grows t_lineFrom t_lineTo t_codes t_code t_lawLine t_toldLines t_opened t_compared t_kept t_keptBy t_ahead t_against t_sum t_sumBy t_term t_termBy t_byNot t_valueOf t_given t_fresh t_consulsMany t_lines t_lineWhat t_lineA t_lineB t_tolds t_toldDanger t_toldMonths t_toldSize t_s t_aside t_tried t_marked t_undone t_isLaid t_done t_heading t_bestHeading t_leastLeft t_goesTo t_bestGoes t_leastMonths t_g) H locs := hw
  refine lv_aload_n hx hb dX13_nextToken_332 rfl (lv_at hl 0 rfl) ?_
  refine lv_iload_n hx hb dX13_nextToken_333 rfl (lv_at hl 1 rfl) ?_
  refine lv_bipush (v := (40 : Int32)) hx hb dX13_nextToken_334 (by decide) ?_
  refine lv_icmp_lt (tgt := 345) hx hb dX13_nextToken_336 (by decide) (fun c_336 => ?_) (fun c_336 => ?_)
  · have hf := (if_pos c_336).symm.trans hf
    exact kb_X13_nextToken_345 X hf hw (lv_sub hl [1] rfl)
  · have hf := (if_neg c_336).symm.trans hf
    refine lv_iload_n hx hb dX13_nextToken_339 rfl (lv_at hl 1 rfl) ?_
    refine lv_bipush (v := (43 : Int32)) hx hb dX13_nextToken_340 (by decide) ?_
    refine lv_icmp_le (tgt := 363) hx hb dX13_nextToken_342 (by decide) (fun c_342 => ?_) (fun c_342 => ?_)
    · have hf := (if_pos c_342).symm.trans hf
      refine lv_iconst (v := (3 : Int32)) hx hb dX13_nextToken_363 (by decide) ?_
      refine lv_goto (tgt := 368) hx hb dX13_nextToken_364 (by decide) ?_
      exact kb_X13_nextToken_368 X hf hw (lv_sub hl [] rfl)
    · have hf := (if_neg c_342).symm.trans hf
      exact kb_X13_nextToken_345 X hf hw (lv_sub hl [1] rfl)
set_option maxRecDepth 100000 in
set_option maxHeartbeats 4000000 in
theorem kb_X13_nextToken_212 {E : En} {p : Program} {l : Launch} {e : Env} {s : State} {m : MethodId} {args : Array Value} {below : List Frame} {meth : Method} {c : Code} {A : Nat → Prop} {t_o : Nat} {t_q : Nat → Nat} {t_thrown : Int32} {t_taped : Int32} {t_tape : (Nat → Int32)} {t_size : Int32} {t_wrong : Int32} {t_city : (Nat → Int32)} {t_manName : (Nat → Int64)} {t_dangerName : (Nat → Int64)} {t_decreeName : (Nat → Int64)} {t_kind : (Nat → Int32)} {t_skill : (Nat → Int32)} {t_fieldTold : (Nat → Int32)} {t_want : (Nat → Int32)} {t_hates : (Nat → Int32)} {t_restsOn : (Nat → Int32)} {t_sizeTold : (Nat → Int32)} {t_grows : (Nat → Int32)} {t_lineFrom : (Nat → Int32)} {t_lineTo : (Nat → Int32)} {t_codes : (Nat → Int32)} {t_code : Int32} {t_lawLine : Int32} {t_toldLines : Int32} {t_opened : (Nat → Int32)} {t_compared : (Nat → Int32)} {t_kept : (Nat → Int32)} {t_keptBy : (Nat → Int32)} {t_ahead : (Nat → Int32)} {t_against : (Nat → Int32)} {t_sum : (Nat → Int32)} {t_sumBy : (Nat → Int32)} {t_term : (Nat → Int32)} {t_termBy : (Nat → Int32)} {t_byNot : (Nat → Int32)} {t_valueOf : (Nat → Int32)} {t_given : Int32} {t_fresh : Int64} {t_consulsMany : Int32} {t_lines : (Nat → Int32)} {t_lineWhat : (Nat → Int32)} {t_lineA : (Nat → Int32)} {t_lineB : (Nat → Int32)} {t_tolds : (Nat → Int32)} {t_toldDanger : (Nat → Int32)} {t_toldMonths : (Nat → Int32)} {t_toldSize : (Nat → Int32)} {t_s : (Nat → Int32)} {t_aside : (Nat → Int32)} {t_tried : (Nat → Int32)} {t_marked : (Nat → Int32)} {t_undone : (Nat → Int32)} {t_isLaid : (Nat → Int32)} {t_done : Int32} {t_heading : (Nat → Int32)} {t_bestHeading : (Nat → Int32)} {t_leastLeft : Int32} {t_goesTo : (Nat → Int32)} {t_bestGoes : (Nat → Int32)} {t_leastMonths : Int32} {t_g : Int64} {out : Int32 × Int32 × Int32 × Int64 × Int32} (X : Bx E A p s m args meth c cX13_nextToken 2 RX13 none) {t_place : Int32} {t_begin : Int32} {t_token : Int32} {t_word : Int64} {t_told : Int32} {x1 : Int32} {H : Heap} {locs : List Loc} {ls : Array Slot} (hf : f_X13_nextToken_212 t_tape t_size t_place t_begin t_word t_told x1 = some out) : Wd E A s.heap (wX13 E t_o t_q t_thrown t_taped t_tape t_size t_place t_begin t_token t_word t_told t_wrong t_city t_manName t_dangerName t_decreeName t_kind t_skill t_fieldTold t_want t_hates t_restsOn t_sizeTold t_grows t_lineFrom t_lineTo t_codes t_code t_lawLine t_toldLines t_opened t_compared t_kept t_keptBy t_ahead t_against t_sum t_sumBy t_term t_termBy t_byNot t_valueOf t_given t_fresh t_consulsMany t_lines t_lineWhat t_lineA t_lineB t_tolds t_toldDanger t_toldMonths t_toldSize t_s t_aside t_tried t_marked t_undone t_isLaid t_done t_heading t_bestHeading t_leastLeft t_goesTo t_bestGoes t_leastMonths t_g) H locs → lv_has ls 2 [(0, .ref t_o), (1, .int (x1))] → W p l e rm_X13_nextToken s m args below meth c H locs 0 0 (Zn E below args s A none (wX13 E t_o t_q t_thrown t_taped t_tape t_size out.1 out.2.1 out.2.2.1 out.2.2.2.1 out.2.2.2.2 t_wrong t_city t_manName t_dangerName t_decreeName t_kind t_skill t_fieldTold t_want t_hates t_restsOn t_sizeTold t_grows t_lineFrom t_lineTo t_codes t_code t_lawLine t_toldLines t_opened t_compared t_kept t_keptBy t_ahead t_against t_sum t_sumBy t_term t_termBy t_byNot t_valueOf t_given t_fresh t_consulsMany t_lines t_lineWhat t_lineA t_lineB t_tolds t_toldDanger t_toldMonths t_toldSize t_s t_aside t_tried t_marked t_undone t_isLaid t_done t_heading t_bestHeading t_leastLeft t_goesTo t_bestGoes t_leastMonths t_g)) (F0 m 212 ls []) := by
  have hx := X.1.1
  have hb := X.1.2.1
  have ho := X.1.2.2.2.1
  have hts := X.1.2.2.2.2
  intro hw hl
  unfold f_X13_nextToken_212 at hf
  refine lv_iload_n hx hb dX13_nextToken_212 rfl (lv_at hl 1 rfl) ?_
  refine lv_bipush (v := (48 : Int32)) hx hb dX13_nextToken_213 (by decide) ?_
  refine lv_icmp_lt (tgt := 322) hx hb dX13_nextToken_215 (by decide) (fun c_215 => ?_) (fun c_215 => ?_)
  · have hf := (if_pos c_215).symm.trans hf
    exact kb_X13_nextToken_322 X hf hw (lv_sub hl [0, 1] rfl)
  · have hf := (if_neg c_215).symm.trans hf
    refine lv_iload_n hx hb dX13_nextToken_218 rfl (lv_at hl 1 rfl) ?_
    refine lv_bipush (v := (57 : Int32)) hx hb dX13_nextToken_219 (by decide) ?_
    refine lv_icmp_gt (tgt := 322) hx hb dX13_nextToken_221 (by decide) (fun c_221 => ?_) (fun c_221 => ?_)
    · have hf := (if_pos c_221).symm.trans hf
      exact kb_X13_nextToken_322 X hf hw (lv_sub hl [0, 1] rfl)
    · have hf := (if_neg c_221).symm.trans hf
      exact kb_X13_nextToken_224 X 1100 hf hw (lv_sub hl [0] rfl)
set_option maxRecDepth 100000 in
set_option maxHeartbeats 4000000 in
theorem kb_X13_nextToken_52 {E : En} {p : Program} {l : Launch} {e : Env} {s : State} {m : MethodId} {args : Array Value} {below : List Frame} {meth : Method} {c : Code} {A : Nat → Prop} {t_o : Nat} {t_q : Nat → Nat} {t_thrown : Int32} {t_taped : Int32} {t_tape : (Nat → Int32)} {t_size : Int32} {t_wrong : Int32} {t_city : (Nat → Int32)} {t_manName : (Nat → Int64)} {t_dangerName : (Nat → Int64)} {t_decreeName : (Nat → Int64)} {t_kind : (Nat → Int32)} {t_skill : (Nat → Int32)} {t_fieldTold : (Nat → Int32)} {t_want : (Nat → Int32)} {t_hates : (Nat → Int32)} {t_restsOn : (Nat → Int32)} {t_sizeTold : (Nat → Int32)} {t_grows : (Nat → Int32)} {t_lineFrom : (Nat → Int32)} {t_lineTo : (Nat → Int32)} {t_codes : (Nat → Int32)} {t_code : Int32} {t_lawLine : Int32} {t_toldLines : Int32} {t_opened : (Nat → Int32)} {t_compared : (Nat → Int32)} {t_kept : (Nat → Int32)} {t_keptBy : (Nat → Int32)} {t_ahead : (Nat → Int32)} {t_against : (Nat → Int32)} {t_sum : (Nat → Int32)} {t_sumBy : (Nat → Int32)} {t_term : (Nat → Int32)} {t_termBy : (Nat → Int32)} {t_byNot : (Nat → Int32)} {t_valueOf : (Nat → Int32)} {t_given : Int32} {t_fresh : Int64} {t_consulsMany : Int32} {t_lines : (Nat → Int32)} {t_lineWhat : (Nat → Int32)} {t_lineA : (Nat → Int32)} {t_lineB : (Nat → Int32)} {t_tolds : (Nat → Int32)} {t_toldDanger : (Nat → Int32)} {t_toldMonths : (Nat → Int32)} {t_toldSize : (Nat → Int32)} {t_s : (Nat → Int32)} {t_aside : (Nat → Int32)} {t_tried : (Nat → Int32)} {t_marked : (Nat → Int32)} {t_undone : (Nat → Int32)} {t_isLaid : (Nat → Int32)} {t_done : Int32} {t_heading : (Nat → Int32)} {t_bestHeading : (Nat → Int32)} {t_leastLeft : Int32} {t_goesTo : (Nat → Int32)} {t_bestGoes : (Nat → Int32)} {t_leastMonths : Int32} {t_g : Int64} {out : Int32 × Int32 × Int32 × Int64 × Int32} (X : Bx E A p s m args meth c cX13_nextToken 2 RX13 none) {t_place : Int32} {t_begin : Int32} {t_token : Int32} {t_word : Int64} {t_told : Int32} {H : Heap} {locs : List Loc} {ls : Array Slot} (hf : f_X13_nextToken_52 t_tape t_size t_place = some out) : Wd E A s.heap (wX13 E t_o t_q t_thrown t_taped t_tape t_size t_place t_begin t_token t_word t_told t_wrong t_city t_manName t_dangerName t_decreeName t_kind t_skill t_fieldTold t_want t_hates t_restsOn t_sizeTold t_grows t_lineFrom t_lineTo t_codes t_code t_lawLine t_toldLines t_opened t_compared t_kept t_keptBy t_ahead t_against t_sum t_sumBy t_term t_termBy t_byNot t_valueOf t_given t_fresh t_consulsMany t_lines t_lineWhat t_lineA t_lineB t_tolds t_toldDanger t_toldMonths t_toldSize t_s t_aside t_tried t_marked t_undone t_isLaid t_done t_heading t_bestHeading t_leastLeft t_goesTo t_bestGoes t_leastMonths t_g) H locs → lv_has ls 2 [(0, .ref t_o)] → W p l e rm_X13_nextToken s m args below meth c H locs 0 0 (Zn E below args s A none (wX13 E t_o t_q t_thrown t_taped t_tape t_size out.1 out.2.1 out.2.2.1 out.2.2.2.1 out.2.2.2.2 t_wrong t_city t_manName t_dangerName t_decreeName t_kind t_skill t_fieldTold t_want t_hates t_restsOn t_sizeTold t_grows t_lineFrom t_lineTo t_codes t_code t_lawLine t_toldLines t_opened t_compared t_kept t_keptBy t_ahead t_against t_sum t_sumBy t_term t_termBy t_byNot t_valueOf t_given t_fresh t_consulsMany t_lines t_lineWhat t_lineA t_lineB t_tolds t_toldDanger t_toldMonths t_toldSize t_s t_aside t_tried t_marked t_undone t_isLaid t_done t_heading t_bestHeading t_leastLeft t_goesTo t_bestGoes t_leastMonths t_g)) (F0 m 52 ls []) := by
  have hx := X.1.1
  have hb := X.1.2.1
  have ho := X.1.2.2.2.1
  have hts := X.1.2.2.2.2
  intro hw hl
  unfold f_X13_nextToken_52 at hf
  refine lv_aload_n hx hb dX13_nextToken_52 rfl (lv_at hl 0 rfl) ?_
  refine lv_aload_n hx hb dX13_nextToken_53 rfl (lv_at hl 0 rfl) ?_
  refine k_get (q0 := 0) (ci := 11) (C := RX13) (T := TX13) (N := 65) (x := .int (t_place)) X inx_13 hw rfl rfl 4 (by decide) rfl tw_1377 rfl dX13_nextToken_54 ?_
  refine k_put (q0 := 0) (ci := 11) (C := RX13) (T := TX13) (N := 65) (ty0 := tyX13) (x := .int (t_place)) X inx_13 tyX13_ok nmX13 hw rfl rfl 5 (by decide) rfl rfl tw_1378 rfl rfl (Nat.le_of_ble_eq_true rfl) dX13_nextToken_57 (fun H locs hw => ?_)
  have hw : Wd E A s.heap (wX13 E t_o t_q t_thrown t_taped t_tape t_size t_place t_place t_token t_word t_told t_wrong t_city t_manName t_dangerName t_decreeName t_kind t_skill t_fieldTold t_want t_hates t_restsOn t_sizeTold t_grows t_lineFrom t_lineTo t_codes t_code t_lawLine t_toldLines t_opened t_compared t_kept t_keptBy t_ahead t_against t_sum t_sumBy t_term t_termBy t_byNot t_valueOf t_given t_fresh t_consulsMany t_lines t_lineWhat t_lineA t_lineB t_tolds t_toldDanger t_toldMonths t_toldSize t_s t_aside t_tried t_marked t_undone t_isLaid t_done t_heading t_bestHeading t_leastLeft t_goesTo t_bestGoes t_leastMonths t_g) H locs := hw
  refine lv_aload_n hx hb dX13_nextToken_60 rfl (lv_at hl 0 rfl) ?_
  refine lv_lconst (v := (0 : Int64)) hx hb dX13_nextToken_61 (by decide) ?_
  refine k_put (q0 := 0) (ci := 11) (C := RX13) (T := TX13) (N := 65) (ty0 := tyX13) (x := .long ((0 : Int64))) X inx_13 tyX13_ok nmX13 hw rfl rfl 7 (by decide) rfl rfl tw_1380 rfl rfl (Nat.le_of_ble_eq_true rfl) dX13_nextToken_62 (fun H locs hw => ?_)
  have hw : Wd E A s.heap (wX13 E t_o t_q t_thrown t_taped t_tape t_size t_place t_place t_token ((0 : Int64)) t_told t_wrong t_city t_manName t_dangerName t_decreeName t_kind t_skill t_fieldTold t_want t_hates t_restsOn t_sizeTold t_grows t_lineFrom t_lineTo t_codes t_code t_lawLine t_toldLines t_opened t_compared t_kept t_keptBy t_ahead t_against t_sum t_sumBy t_term t_termBy t_byNot t_valueOf t_given t_fresh t_consulsMany t_lines t_lineWhat t_lineA t_lineB t_tolds t_toldDanger t_toldMonths t_toldSize t_s t_aside t_tried t_marked t_undone t_isLaid t_done t_heading t_bestHeading t_leastLeft t_goesTo t_bestGoes t_leastMonths t_g) H locs := hw
  refine lv_aload_n hx hb dX13_nextToken_65 rfl (lv_at hl 0 rfl) ?_
  refine lv_iconst (v := (0 : Int32)) hx hb dX13_nextToken_66 (by decide) ?_
  refine k_put (q0 := 0) (ci := 11) (C := RX13) (T := TX13) (N := 65) (ty0 := tyX13) (x := .int ((0 : Int32))) X inx_13 tyX13_ok nmX13 hw rfl rfl 8 (by decide) rfl rfl tw_1381 rfl rfl (Nat.le_of_ble_eq_true rfl) dX13_nextToken_67 (fun H locs hw => ?_)
  have hw : Wd E A s.heap (wX13 E t_o t_q t_thrown t_taped t_tape t_size t_place t_place t_token ((0 : Int64)) ((0 : Int32)) t_wrong t_city t_manName t_dangerName t_decreeName t_kind t_skill t_fieldTold t_want t_hates t_restsOn t_sizeTold t_grows t_lineFrom t_lineTo t_codes t_code t_lawLine t_toldLines t_opened t_compared t_kept t_keptBy t_ahead t_against t_sum t_sumBy t_term t_termBy t_byNot t_valueOf t_given t_fresh t_consulsMany t_lines t_lineWhat t_lineA t_lineB t_tolds t_toldDanger t_toldMonths t_toldSize t_s t_aside t_tried t_marked t_undone t_isLaid t_done t_heading t_bestHeading t_leastLeft t_goesTo t_bestGoes t_leastMonths t_g) H locs := hw
  refine lv_aload_n hx hb dX13_nextToken_70 rfl (lv_at hl 0 rfl) ?_
  refine k_get (q0 := 0) (ci := 11) (C := RX13) (T := TX13) (N := 65) (x := .int (t_place)) X inx_13 hw rfl rfl 4 (by decide) rfl tw_1377 rfl dX13_nextToken_71 ?_
  refine lv_aload_n hx hb dX13_nextToken_74 rfl (lv_at hl 0 rfl) ?_
  refine k_get (q0 := 0) (ci := 11) (C := RX13) (T := TX13) (N := 65) (x := .int (t_size)) X inx_13 hw rfl rfl 3 (by decide) rfl tw_1376 rfl dX13_nextToken_75 ?_
  refine lv_icmp_ne (tgt := 87) hx hb dX13_nextToken_78 (by decide) (fun c_78 => ?_) (fun c_78 => ?_)
  · have hf := (if_neg c_78).symm.trans hf
    refine lv_aload_n hx hb dX13_nextToken_87 rfl (lv_at hl 0 rfl) ?_
    refine k_get (q0 := 0) (ci := 11) (C := RX13) (T := TX13) (N := 65) (x := .ref (t_q 2)) X inx_13 hw rfl rfl 2 (by decide) rfl tw_1375 rfl dX13_nextToken_88 ?_
    refine lv_aload_n hx hb dX13_nextToken_91 rfl (lv_at hl 0 rfl) ?_
    refine k_get (q0 := 0) (ci := 11) (C := RX13) (T := TX13) (N := 65) (x := .int (t_place)) X inx_13 hw rfl rfl 4 (by decide) rfl tw_1377 rfl dX13_nextToken_92 ?_
    obtain ⟨hi_95, hf⟩ := gd_some hf
    refine k_iald (q0 := 1) (n := 1000) (f := t_tape) X hw rfl hi_95 dX13_nextToken_95 ?_
    refine lv_istore_n (lv' := [(1, .int ((t_tape (t_place).toNatClampNeg))), (0, .ref t_o)]) hx hb dX13_nextToken_96 rfl hl (by decide) rfl (fun ls hl => ?_)
    refine lv_iload_n hx hb dX13_nextToken_97 rfl (lv_at hl 0 rfl) ?_
    refine lv_bipush (v := (97 : Int32)) hx hb dX13_nextToken_98 (by decide) ?_
    refine lv_icmp_lt (tgt := 212) hx hb dX13_nextToken_100 (by decide) (fun c_100 => ?_) (fun c_100 => ?_)
    · have hf := (if_pos c_100).symm.trans hf
      exact kb_X13_nextToken_212 X hf hw (lv_sub hl [1, 0] rfl)
    · have hf := (if_neg c_100).symm.trans hf
      refine lv_iload_n hx hb dX13_nextToken_103 rfl (lv_at hl 0 rfl) ?_
      refine lv_bipush (v := (122 : Int32)) hx hb dX13_nextToken_104 (by decide) ?_
      refine lv_icmp_gt (tgt := 212) hx hb dX13_nextToken_106 (by decide) (fun c_106 => ?_) (fun c_106 => ?_)
      · have hf := (if_pos c_106).symm.trans hf
        exact kb_X13_nextToken_212 X hf hw (lv_sub hl [1, 0] rfl)
      · have hf := (if_neg c_106).symm.trans hf
        exact kb_X13_nextToken_109 X 1100 hf hw (lv_sub hl [1] rfl)
  · have hf := (if_pos c_78).symm.trans hf
    refine lv_aload_n hx hb dX13_nextToken_81 rfl (lv_at hl 0 rfl) ?_
    refine lv_iconst (v := (0 : Int32)) hx hb dX13_nextToken_82 (by decide) ?_
    refine k_put (q0 := 0) (ci := 11) (C := RX13) (T := TX13) (N := 65) (ty0 := tyX13) (x := .int ((0 : Int32))) X inx_13 tyX13_ok nmX13 hw rfl rfl 6 (by decide) rfl rfl tw_1379 rfl rfl (Nat.le_of_ble_eq_true rfl) dX13_nextToken_83 (fun H locs hw => ?_)
    have hw : Wd E A s.heap (wX13 E t_o t_q t_thrown t_taped t_tape t_size t_place t_place ((0 : Int32)) ((0 : Int64)) ((0 : Int32)) t_wrong t_city t_manName t_dangerName t_decreeName t_kind t_skill t_fieldTold t_want t_hates t_restsOn t_sizeTold t_grows t_lineFrom t_lineTo t_codes t_code t_lawLine t_toldLines t_opened t_compared t_kept t_keptBy t_ahead t_against t_sum t_sumBy t_term t_termBy t_byNot t_valueOf t_given t_fresh t_consulsMany t_lines t_lineWhat t_lineA t_lineB t_tolds t_toldDanger t_toldMonths t_toldSize t_s t_aside t_tried t_marked t_undone t_isLaid t_done t_heading t_bestHeading t_leastLeft t_goesTo t_bestGoes t_leastMonths t_g) H locs := hw
    obtain rfl := Option.some.inj hf
    exact k_vret X hw dX13_nextToken_86
set_option maxRecDepth 100000 in
set_option maxHeartbeats 4000000 in
theorem kb_X13_nextToken_0 {E : En} {p : Program} {l : Launch} {e : Env} {s : State} {m : MethodId} {args : Array Value} {below : List Frame} {meth : Method} {c : Code} {A : Nat → Prop} {t_o : Nat} {t_q : Nat → Nat} {t_thrown : Int32} {t_taped : Int32} {t_tape : (Nat → Int32)} {t_size : Int32} {t_wrong : Int32} {t_city : (Nat → Int32)} {t_manName : (Nat → Int64)} {t_dangerName : (Nat → Int64)} {t_decreeName : (Nat → Int64)} {t_kind : (Nat → Int32)} {t_skill : (Nat → Int32)} {t_fieldTold : (Nat → Int32)} {t_want : (Nat → Int32)} {t_hates : (Nat → Int32)} {t_restsOn : (Nat → Int32)} {t_sizeTold : (Nat → Int32)} {t_grows : (Nat → Int32)} {t_lineFrom : (Nat → Int32)} {t_lineTo : (Nat → Int32)} {t_codes : (Nat → Int32)} {t_code : Int32} {t_lawLine : Int32} {t_toldLines : Int32} {t_opened : (Nat → Int32)} {t_compared : (Nat → Int32)} {t_kept : (Nat → Int32)} {t_keptBy : (Nat → Int32)} {t_ahead : (Nat → Int32)} {t_against : (Nat → Int32)} {t_sum : (Nat → Int32)} {t_sumBy : (Nat → Int32)} {t_term : (Nat → Int32)} {t_termBy : (Nat → Int32)} {t_byNot : (Nat → Int32)} {t_valueOf : (Nat → Int32)} {t_given : Int32} {t_fresh : Int64} {t_consulsMany : Int32} {t_lines : (Nat → Int32)} {t_lineWhat : (Nat → Int32)} {t_lineA : (Nat → Int32)} {t_lineB : (Nat → Int32)} {t_tolds : (Nat → Int32)} {t_toldDanger : (Nat → Int32)} {t_toldMonths : (Nat → Int32)} {t_toldSize : (Nat → Int32)} {t_s : (Nat → Int32)} {t_aside : (Nat → Int32)} {t_tried : (Nat → Int32)} {t_marked : (Nat → Int32)} {t_undone : (Nat → Int32)} {t_isLaid : (Nat → Int32)} {t_done : Int32} {t_heading : (Nat → Int32)} {t_bestHeading : (Nat → Int32)} {t_leastLeft : Int32} {t_goesTo : (Nat → Int32)} {t_bestGoes : (Nat → Int32)} {t_leastMonths : Int32} {t_g : Int64} {out : Int32 × Int32 × Int32 × Int64 × Int32} (X : Bx E A p s m args meth c cX13_nextToken 2 RX13 none) : ∀ (n : Nat) {t_place : Int32} {t_begin : Int32} {t_token : Int32} {t_word : Int64} {t_told : Int32} {H : Heap} {locs : List Loc} {ls : Array Slot}, f_X13_nextToken_0 n t_tape t_size t_place = some out → Wd E A s.heap (wX13 E t_o t_q t_thrown t_taped t_tape t_size t_place t_begin t_token t_word t_told t_wrong t_city t_manName t_dangerName t_decreeName t_kind t_skill t_fieldTold t_want t_hates t_restsOn t_sizeTold t_grows t_lineFrom t_lineTo t_codes t_code t_lawLine t_toldLines t_opened t_compared t_kept t_keptBy t_ahead t_against t_sum t_sumBy t_term t_termBy t_byNot t_valueOf t_given t_fresh t_consulsMany t_lines t_lineWhat t_lineA t_lineB t_tolds t_toldDanger t_toldMonths t_toldSize t_s t_aside t_tried t_marked t_undone t_isLaid t_done t_heading t_bestHeading t_leastLeft t_goesTo t_bestGoes t_leastMonths t_g) H locs → lv_has ls 2 [(0, .ref t_o)] → W p l e rm_X13_nextToken s m args below meth c H locs 0 0 (Zn E below args s A none (wX13 E t_o t_q t_thrown t_taped t_tape t_size out.1 out.2.1 out.2.2.1 out.2.2.2.1 out.2.2.2.2 t_wrong t_city t_manName t_dangerName t_decreeName t_kind t_skill t_fieldTold t_want t_hates t_restsOn t_sizeTold t_grows t_lineFrom t_lineTo t_codes t_code t_lawLine t_toldLines t_opened t_compared t_kept t_keptBy t_ahead t_against t_sum t_sumBy t_term t_termBy t_byNot t_valueOf t_given t_fresh t_consulsMany t_lines t_lineWhat t_lineA t_lineB t_tolds t_toldDanger t_toldMonths t_toldSize t_s t_aside t_tried t_marked t_undone t_isLaid t_done t_heading t_bestHeading t_leastLeft t_goesTo t_bestGoes t_leastMonths t_g)) (F0 m 0 ls []) := by
  have hx := X.1.1
  have hb := X.1.2.1
  have ho := X.1.2.2.2.1
  have hts := X.1.2.2.2.2
  intro n
  induction n with
  | zero =>
    intro t_place t_begin t_token t_word t_told H locs ls hf
    have hf : (none : Option (Int32 × Int32 × Int32 × Int64 × Int32)) = some out := hf
    cases hf
  | succ n ih =>
    intro t_place t_begin t_token t_word t_told H locs ls hf hw hl
    rw [f_X13_nextToken_0.eq_2] at hf
    refine lv_aload_n hx hb dX13_nextToken_0 rfl (lv_at hl 0 rfl) ?_
    refine k_get (q0 := 0) (ci := 11) (C := RX13) (T := TX13) (N := 65) (x := .int (t_place)) X inx_13 hw rfl rfl 4 (by decide) rfl tw_1377 rfl dX13_nextToken_1 ?_
    refine lv_aload_n hx hb dX13_nextToken_4 rfl (lv_at hl 0 rfl) ?_
    refine k_get (q0 := 0) (ci := 11) (C := RX13) (T := TX13) (N := 65) (x := .int (t_size)) X inx_13 hw rfl rfl 3 (by decide) rfl tw_1376 rfl dX13_nextToken_5 ?_
    refine lv_icmp_ge (tgt := 52) hx hb dX13_nextToken_8 (by decide) (fun c_8 => ?_) (fun c_8 => ?_)
    · have hf := (if_pos c_8).symm.trans hf
      exact kb_X13_nextToken_52 X hf hw (lv_sub hl [0] rfl)
    · have hf := (if_neg c_8).symm.trans hf
      refine lv_aload_n hx hb dX13_nextToken_11 rfl (lv_at hl 0 rfl) ?_
      refine k_get (q0 := 0) (ci := 11) (C := RX13) (T := TX13) (N := 65) (x := .ref (t_q 2)) X inx_13 hw rfl rfl 2 (by decide) rfl tw_1375 rfl dX13_nextToken_12 ?_
      refine lv_aload_n hx hb dX13_nextToken_15 rfl (lv_at hl 0 rfl) ?_
      refine k_get (q0 := 0) (ci := 11) (C := RX13) (T := TX13) (N := 65) (x := .int (t_place)) X inx_13 hw rfl rfl 4 (by decide) rfl tw_1377 rfl dX13_nextToken_16 ?_
      obtain ⟨hi_19, hf⟩ := gd_some hf
      refine k_iald (q0 := 1) (n := 1000) (f := t_tape) X hw rfl hi_19 dX13_nextToken_19 ?_
      refine lv_bipush (v := (32 : Int32)) hx hb dX13_nextToken_20 (by decide) ?_
      refine lv_icmp_eq (tgt := 39) hx hb dX13_nextToken_22 (by decide) (fun c_22 => ?_) (fun c_22 => ?_)
      · have hf := (if_pos c_22).symm.trans hf
        exact kb_X13_nextToken_39 X (fun hf hw hl => ih hf hw hl) hf hw (lv_sub hl [0] rfl)
      · have hf := (if_neg c_22).symm.trans hf
        refine lv_aload_n hx hb dX13_nextToken_25 rfl (lv_at hl 0 rfl) ?_
        refine k_get (q0 := 0) (ci := 11) (C := RX13) (T := TX13) (N := 65) (x := .ref (t_q 2)) X inx_13 hw rfl rfl 2 (by decide) rfl tw_1375 rfl dX13_nextToken_26 ?_
        refine lv_aload_n hx hb dX13_nextToken_29 rfl (lv_at hl 0 rfl) ?_
        refine k_get (q0 := 0) (ci := 11) (C := RX13) (T := TX13) (N := 65) (x := .int (t_place)) X inx_13 hw rfl rfl 4 (by decide) rfl tw_1377 rfl dX13_nextToken_30 ?_
        obtain ⟨hi_33, hf⟩ := gd_some hf
        refine k_iald (q0 := 1) (n := 1000) (f := t_tape) X hw rfl hi_33 dX13_nextToken_33 ?_
        refine lv_bipush (v := (10 : Int32)) hx hb dX13_nextToken_34 (by decide) ?_
        refine lv_icmp_ne (tgt := 52) hx hb dX13_nextToken_36 (by decide) (fun c_36 => ?_) (fun c_36 => ?_)
        · have hf := (if_neg c_36).symm.trans hf
          exact kb_X13_nextToken_52 X hf hw (lv_sub hl [0] rfl)
        · have hf := (if_pos c_36).symm.trans hf
          exact kb_X13_nextToken_39 X (fun hf hw hl => ih hf hw hl) hf hw (lv_sub hl [0] rfl)
set_option maxRecDepth 100000 in
set_option maxHeartbeats 4000000 in
theorem c_X13_nextToken {E : En} {l : Launch} {t_o : Nat} {t_q : Nat → Nat} {t_thrown : Int32} {t_taped : Int32} {t_tape : (Nat → Int32)} {t_size : Int32} {t_place : Int32} {t_begin : Int32} {t_token : Int32} {t_word : Int64} {t_told : Int32} {t_wrong : Int32} {t_city : (Nat → Int32)} {t_manName : (Nat → Int64)} {t_dangerName : (Nat → Int64)} {t_decreeName : (Nat → Int64)} {t_kind : (Nat → Int32)} {t_skill : (Nat → Int32)} {t_fieldTold : (Nat → Int32)} {t_want : (Nat → Int32)} {t_hates : (Nat → Int32)} {t_restsOn : (Nat → Int32)} {t_sizeTold : (Nat → Int32)} {t_grows : (Nat → Int32)} {t_lineFrom : (Nat → Int32)} {t_lineTo : (Nat → Int32)} {t_codes : (Nat → Int32)} {t_code : Int32} {t_lawLine : Int32} {t_toldLines : Int32} {t_opened : (Nat → Int32)} {t_compared : (Nat → Int32)} {t_kept : (Nat → Int32)} {t_keptBy : (Nat → Int32)} {t_ahead : (Nat → Int32)} {t_against : (Nat → Int32)} {t_sum : (Nat → Int32)} {t_sumBy : (Nat → Int32)} {t_term : (Nat → Int32)} {t_termBy : (Nat → Int32)} {t_byNot : (Nat → Int32)} {t_valueOf : (Nat → Int32)} {t_given : Int32} {t_fresh : Int64} {t_consulsMany : Int32} {t_lines : (Nat → Int32)} {t_lineWhat : (Nat → Int32)} {t_lineA : (Nat → Int32)} {t_lineB : (Nat → Int32)} {t_tolds : (Nat → Int32)} {t_toldDanger : (Nat → Int32)} {t_toldMonths : (Nat → Int32)} {t_toldSize : (Nat → Int32)} {t_s : (Nat → Int32)} {t_aside : (Nat → Int32)} {t_tried : (Nat → Int32)} {t_marked : (Nat → Int32)} {t_undone : (Nat → Int32)} {t_isLaid : (Nat → Int32)} {t_done : Int32} {t_heading : (Nat → Int32)} {t_bestHeading : (Nat → Int32)} {t_leastLeft : Int32} {t_goesTo : (Nat → Int32)} {t_bestGoes : (Nat → Int32)} {t_leastMonths : Int32} {t_g : Int64}  {out : Int32 × Int32 × Int32 × Int64 × Int32} (hf : f_X13_nextToken t_tape t_size t_place = some out) : Cn E l yX13_nextToken cX13_nextToken 2 none rm_X13_nextToken [.ref t_o] (wX13 E t_o t_q t_thrown t_taped t_tape t_size t_place t_begin t_token t_word t_told t_wrong t_city t_manName t_dangerName t_decreeName t_kind t_skill t_fieldTold t_want t_hates t_restsOn t_sizeTold t_grows t_lineFrom t_lineTo t_codes t_code t_lawLine t_toldLines t_opened t_compared t_kept t_keptBy t_ahead t_against t_sum t_sumBy t_term t_termBy t_byNot t_valueOf t_given t_fresh t_consulsMany t_lines t_lineWhat t_lineA t_lineB t_tolds t_toldDanger t_toldMonths t_toldSize t_s t_aside t_tried t_marked t_undone t_isLaid t_done t_heading t_bestHeading t_leastLeft t_goesTo t_bestGoes t_leastMonths t_g) none (wX13 E t_o t_q t_thrown t_taped t_tape t_size out.1 out.2.1 out.2.2.1 out.2.2.2.1 out.2.2.2.2 t_wrong t_city t_manName t_dangerName t_decreeName t_kind t_skill t_fieldTold t_want t_hates t_restsOn t_sizeTold t_grows t_lineFrom t_lineTo t_codes t_code t_lawLine t_toldLines t_opened t_compared t_kept t_keptBy t_ahead t_against t_sum t_sumBy t_term t_termBy t_byNot t_valueOf t_given t_fresh t_consulsMany t_lines t_lineWhat t_lineA t_lineB t_tolds t_toldDanger t_toldMonths t_toldSize t_s t_aside t_tried t_marked t_undone t_isLaid t_done t_heading t_bestHeading t_leastLeft t_goesTo t_bestGoes t_leastMonths t_g) := by
  refine Cn.of (by decide) (Nat.le_of_ble_eq_true rfl) rfl ?_
  intro p e s m below meth c A ls args H locs X hw hl
  have hx := X.1.1
  have hb := X.1.2.1
  have ho := X.1.2.2.2.1
  have hts := X.1.2.2.2.2
  have hl : lv_has ls 2 [(0, .ref t_o)] := hl
  unfold f_X13_nextToken at hf
  exact kb_X13_nextToken_0 X 1100 hf hw (lv_sub hl [0] rfl)
