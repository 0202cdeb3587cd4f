/-! public int whom(int); -/
def f_X13_whom (t_city : (Nat → Int32)) (t_kind : (Nat → Int32)) (t_skill : (Nat → Int32)) (t_want : (Nat → Int32)) (t_hates : (Nat → Int32)) (t_grows : (Nat → Int32)) (t_lineFrom : (Nat → Int32)) (t_lineTo : (Nat → Int32)) (t_codes : (Nat → Int32)) (t_kept : (Nat → Int32)) (t_keptBy : (Nat → Int32)) (t_ahead : (Nat → Int32)) (t_against : (Nat → Int32)) (t_sum : (Nat → Int32)) (t_sumBy : (Nat → Int32)) (t_term : (Nat → Int32)) (t_termBy : (Nat → Int32)) (t_byNot : (Nat → Int32)) (t_valueOf : (Nat → Int32)) (t_s : (Nat → Int32)) (x1 : Int32) : Option (Int32 × Int32 × (Nat → Int32) × (Nat → Int32) × (Nat → Int32) × (Nat → Int32) × (Nat → Int32) × (Nat → Int32) × (Nat → Int32) × (Nat → Int32) × (Nat → Int32) × (Nat → Int32)) := (f_X13_isDanger t_city (x1)).bind fun r7 => if r7 = (0 : Int32) then some ((-1 : Int32), (0 : Int32), t_kept, t_keptBy, t_ahead, t_against, t_sum, t_sumBy, t_term, t_termBy, t_byNot, t_valueOf)
  else gd ((4 : Int32)) 10 ((f_X13_whomFor t_city t_kind t_skill t_want t_hates t_grows t_lineFrom t_lineTo t_codes t_kept t_keptBy t_ahead t_against t_sum t_sumBy t_term t_termBy t_byNot t_valueOf t_s (x1) ((t_city ((4 : Int32)).toNatClampNeg))).bind fun r21 => some (r21.1, (0 : Int32), r21.2.1, r21.2.2.1, r21.2.2.2.1, r21.2.2.2.2.1, r21.2.2.2.2.2.1, r21.2.2.2.2.2.2.1, r21.2.2.2.2.2.2.2.1, r21.2.2.2.2.2.2.2.2.1, r21.2.2.2.2.2.2.2.2.2.1, r21.2.2.2.2.2.2.2.2.2.2))
abbrev rm_X13_whom : Room := { frames := 6, cells := 0, slots := 0, locals := 144 }
theorem hd_X13_whom : yX13_whom.cls = RX13 ∧ yX13_whom.cls ≠ "java/lang/invoke/MethodHandle" ∧ yX13_whom.cls ≠ "java/lang/invoke/VarHandle" ∧ (parseMethodDescriptor yX13_whom.desc).map (fun d => d.parameters.length) = some 1 := by decide +kernel
set_option maxRecDepth 100000 in
set_option maxHeartbeats 4000000 in
theorem c_X13_whom {E : En} {l : Launch} {t_o : Nat} {t_q : Nat → Nat} {t_thrown : Int32} {t_taped : Int32} {t_tape : (Nat → Int32)} {t_size : Int32} {t_place : Int32} {t_begin : Int32} {t_token : Int32} {t_word : Int64} {t_told : Int32} {t_wrong : Int32} {t_city : (Nat → Int32)} {t_manName : (Nat → Int64)} {t_dangerName : (Nat → Int64)} {t_decreeName : (Nat → Int64)} {t_kind : (Nat → Int32)} {t_skill : (Nat → Int32)} {t_fieldTold : (Nat → Int32)} {t_want : (Nat → Int32)} {t_hates : (Nat → Int32)} {t_restsOn : (Nat → Int32)} {t_sizeTold : (Nat → Int32)} {t_grows : (Nat → Int32)} {t_lineFrom : (Nat → Int32)} {t_lineTo : (Nat → Int32)} {t_codes : (Nat → Int32)} {t_code : Int32} {t_lawLine : Int32} {t_toldLines : Int32} {t_opened : (Nat → Int32)} {t_compared : (Nat → Int32)} {t_kept : (Nat → Int32)} {t_keptBy : (Nat → Int32)} {t_ahead : (Nat → Int32)} {t_against : (Nat → Int32)} {t_sum : (Nat → Int32)} {t_sumBy : (Nat → Int32)} {t_term : (Nat → Int32)} {t_termBy : (Nat → Int32)} {t_byNot : (Nat → Int32)} {t_valueOf : (Nat → Int32)} {t_given : Int32} {t_fresh : Int64} {t_consulsMany : Int32} {t_lines : (Nat → Int32)} {t_lineWhat : (Nat → Int32)} {t_lineA : (Nat → Int32)} {t_lineB : (Nat → Int32)} {t_tolds : (Nat → Int32)} {t_toldDanger : (Nat → Int32)} {t_toldMonths : (Nat → Int32)} {t_toldSize : (Nat → Int32)} {t_s : (Nat → Int32)} {t_aside : (Nat → Int32)} {t_tried : (Nat → Int32)} {t_marked : (Nat → Int32)} {t_undone : (Nat → Int32)} {t_isLaid : (Nat → Int32)} {t_done : Int32} {t_heading : (Nat → Int32)} {t_bestHeading : (Nat → Int32)} {t_leastLeft : Int32} {t_goesTo : (Nat → Int32)} {t_bestGoes : (Nat → Int32)} {t_leastMonths : Int32} {t_g : Int64} {x1 : Int32} {out : Int32 × Int32 × (Nat → Int32) × (Nat → Int32) × (Nat → Int32) × (Nat → Int32) × (Nat → Int32) × (Nat → Int32) × (Nat → Int32) × (Nat → Int32) × (Nat → Int32) × (Nat → Int32)} (hf : f_X13_whom t_city t_kind t_skill t_want t_hates t_grows t_lineFrom t_lineTo t_codes t_kept t_keptBy t_ahead t_against t_sum t_sumBy t_term t_termBy t_byNot t_valueOf t_s x1 = some out) : Cn E l yX13_whom cX13_whom 2 (some .int) rm_X13_whom [.ref t_o, .int (x1)] (wX13 E t_o t_q t_thrown t_taped t_tape t_size t_place t_begin t_token t_word t_told t_wrong t_city t_manName t_dangerName t_decreeName t_kind t_skill t_fieldTold t_want t_hates t_restsOn t_sizeTold t_grows t_lineFrom t_lineTo t_codes t_code t_lawLine t_toldLines t_opened t_compared t_kept t_keptBy t_ahead t_against t_sum t_sumBy t_term t_termBy t_byNot t_valueOf t_given t_fresh t_consulsMany t_lines t_lineWhat t_lineA t_lineB t_tolds t_toldDanger t_toldMonths t_toldSize t_s t_aside t_tried t_marked t_undone t_isLaid t_done t_heading t_bestHeading t_leastLeft t_goesTo t_bestGoes t_leastMonths t_g) (some (.int out.1)) (wX13 E t_o t_q out.2.1 t_taped t_tape t_size t_place t_begin t_token t_word t_told t_wrong t_city t_manName t_dangerName t_decreeName t_kind t_skill t_fieldTold t_want t_hates t_restsOn t_sizeTold t_grows t_lineFrom t_lineTo t_codes t_code t_lawLine t_toldLines t_opened t_compared out.2.2.1 out.2.2.2.1 out.2.2.2.2.1 out.2.2.2.2.2.1 out.2.2.2.2.2.2.1 out.2.2.2.2.2.2.2.1 out.2.2.2.2.2.2.2.2.1 out.2.2.2.2.2.2.2.2.2.1 out.2.2.2.2.2.2.2.2.2.2.1 out.2.2.2.2.2.2.2.2.2.2.2 t_given t_fresh t_consulsMany t_lines t_lineWhat t_lineA t_lineB t_tolds t_toldDanger t_toldMonths t_toldSize t_s t_aside t_tried t_marked t_undone t_isLaid t_done t_heading t_bestHeading t_leastLeft t_goesTo t_bestGoes t_leastMonths t_g) := by
  refine Cn.of (by decide) (Nat.le_of_ble_eq_true rfl) rfl ?_
  intro p e s m below meth c A ls args H locs X hw hl
  have hx := X.1.1
  have hb := X.1.2.1
  have ho := X.1.2.2.2.1
  have hts := X.1.2.2.2.2
  have hl : lv_has ls 2 [(0, .ref t_o), (1, .int (x1))] := hl
  unfold f_X13_whom at hf
  refine lv_aload_n hx hb dX13_whom_0 rfl (lv_at hl 0 rfl) ?_
  refine lv_iconst (v := (0 : Int32)) hx hb dX13_whom_1 (by decide) ?_
  refine k_put (q0 := 0) (ci := 11) (C := RX13) (T := TX13) (N := 65) (ty0 := tyX13) (x := .int ((0 : Int32))) X inx_13 tyX13_ok nmX13 hw rfl rfl 0 (by decide) rfl rfl tw_1373 rfl rfl (Nat.le_of_ble_eq_true rfl) dX13_whom_2 (fun H locs hw => ?_)
  have hw : Wd E A s.heap (wX13 E t_o t_q ((0 : Int32)) t_taped t_tape t_size t_place t_begin t_token t_word t_told t_wrong t_city t_manName t_dangerName t_decreeName t_kind t_skill t_fieldTold t_want t_hates t_restsOn t_sizeTold t_grows t_lineFrom t_lineTo t_codes t_code t_lawLine t_toldLines t_opened t_compared t_kept t_keptBy t_ahead t_against t_sum t_sumBy t_term t_termBy t_byNot t_valueOf t_given t_fresh t_consulsMany t_lines t_lineWhat t_lineA t_lineB t_tolds t_toldDanger t_toldMonths t_toldSize t_s t_aside t_tried t_marked t_undone t_isLaid t_done t_heading t_bestHeading t_leastLeft t_goesTo t_bestGoes t_leastMonths t_g) H locs := hw
  refine lv_aload_n hx hb dX13_whom_5 rfl (lv_at hl 0 rfl) ?_
  refine lv_iload_n hx hb dX13_whom_6 rfl (lv_at hl 1 rfl) ?_
  obtain ⟨r7, hc_7, hf⟩ := bd_some hf
  refine k_V (As := [.int (x1)]) (rest := []) (index := 446) (C := RX13) X (c_X13_isDanger hc_7) tw_1777 tw_1779 tw_80 tw_130 tw_1780 ⟨rfl, rfl⟩ hd_X13_isDanger ⟨Nat.le_of_ble_eq_true rfl, Nat.le_of_ble_eq_true rfl⟩ ⟨Nat.zero_le _, Nat.zero_le _⟩ hw [0, 1, 2, 3, 4, 5, 6, 7, 8, 9, 10, 11, 12, 13, 14, 15, 16, 17, 18, 19, 20, 21, 22, 23, 24, 25, 26, 27, 28, 29, 30, 31, 32, 33, 34, 35, 36, 37, 38, 39, 40, 41, 42, 43, 44, 45, 46] rfl rfl 0 rfl rfl rfl rfl hl.1 rfl (Nat.le_of_ble_eq_true rfl) dX13_whom_7 (fun H locs hw => ?_)
  have hw : Wd E A s.heap (wX13 E t_o t_q ((0 : Int32)) t_taped t_tape t_size t_place t_begin t_token t_word t_told t_wrong t_city t_manName t_dangerName t_decreeName t_kind t_skill t_fieldTold t_want t_hates t_restsOn t_sizeTold t_grows t_lineFrom t_lineTo t_codes t_code t_lawLine t_toldLines t_opened t_compared t_kept t_keptBy t_ahead t_against t_sum t_sumBy t_term t_termBy t_byNot t_valueOf t_given t_fresh t_consulsMany t_lines t_lineWhat t_lineA t_lineB t_tolds t_toldDanger t_toldMonths t_toldSize t_s t_aside t_tried t_marked t_undone t_isLaid t_done t_heading t_bestHeading t_leastLeft t_goesTo t_bestGoes t_leastMonths t_g) H locs := hw
  refine lv_if_eq (tgt := 27) hx hb dX13_whom_10 (by decide) (fun c_10 => ?_) (fun c_10 => ?_)
  · have hf := (if_pos c_10).symm.trans hf
    refine lv_iconst (v := (-1 : Int32)) hx hb dX13_whom_27 (by decide) ?_
    obtain rfl := Option.some.inj hf
    exact k_iret X hw dX13_whom_28
  · have hf := (if_neg c_10).symm.trans hf
    refine lv_aload_n hx hb dX13_whom_13 rfl (lv_at hl 0 rfl) ?_
    refine lv_iload_n hx hb dX13_whom_14 rfl (lv_at hl 1 rfl) ?_
    refine lv_aload_n hx hb dX13_whom_15 rfl (lv_at hl 0 rfl) ?_
    refine k_get (q0 := 0) (ci := 11) (C := RX13) (T := TX13) (N := 65) (x := .ref (t_q 10)) X inx_13 hw rfl rfl 10 (by decide) rfl tw_1383 rfl dX13_whom_16 ?_
    refine lv_iconst (v := (4 : Int32)) hx hb dX13_whom_19 (by decide) ?_
    obtain ⟨hi_20, hf⟩ := gd_some hf
    refine k_iald (q0 := 2) (n := 10) (f := t_city) X hw rfl hi_20 dX13_whom_20 ?_
    obtain ⟨r21, hc_21, hf⟩ := bd_some hf
    refine k_V (As := [.int (x1), .int ((t_city ((4 : Int32)).toNatClampNeg))]) (rest := []) (index := 492) (C := RX13) X (c_X13_whomFor hc_21) tw_1913 tw_1915 tw_102 tw_130 tw_1916 ⟨rfl, rfl⟩ hd_X13_whomFor ⟨Nat.le_of_ble_eq_true rfl, Nat.le_of_ble_eq_true rfl⟩ ⟨Nat.zero_le _, Nat.zero_le _⟩ hw [0, 1, 2, 3, 4, 5, 6, 7, 8, 9, 10, 11, 12, 13, 14, 15, 16, 17, 18, 19, 20, 21, 22, 23, 24, 25, 26, 27, 28, 29, 30, 31, 32, 33, 34, 35, 36, 37, 38, 39, 40, 41, 42, 43, 44, 45, 46] rfl rfl 0 rfl rfl rfl rfl hl.1 rfl (Nat.le_of_ble_eq_true rfl) dX13_whom_21 (fun H locs hw => ?_)
    have hw : Wd E A s.heap (wX13 E t_o t_q ((0 : Int32)) t_taped t_tape t_size t_place t_begin t_token t_word t_told t_wrong t_city t_manName t_dangerName t_decreeName t_kind t_skill t_fieldTold t_want t_hates t_restsOn t_sizeTold t_grows t_lineFrom t_lineTo t_codes t_code t_lawLine t_toldLines t_opened t_compared r21.2.1 r21.2.2.1 r21.2.2.2.1 r21.2.2.2.2.1 r21.2.2.2.2.2.1 r21.2.2.2.2.2.2.1 r21.2.2.2.2.2.2.2.1 r21.2.2.2.2.2.2.2.2.1 r21.2.2.2.2.2.2.2.2.2.1 r21.2.2.2.2.2.2.2.2.2.2 t_given t_fresh t_consulsMany t_lines t_lineWhat t_lineA t_lineB t_tolds t_toldDanger t_toldMonths t_toldSize t_s t_aside t_tried t_marked t_undone t_isLaid t_done t_heading t_bestHeading t_leastLeft t_goesTo t_bestGoes t_leastMonths t_g) H locs := hw
    refine lv_goto (tgt := 28) hx hb dX13_whom_24 (by decide) ?_
    obtain rfl := Option.some.inj hf
    exact k_iret X hw dX13_whom_28
/-! public int terms(int); -/
def f_X13_terms_7 : Nat → Int32 → (Nat → Int32) → (Nat → Int32) → (Nat → Int32) → (Nat → Int32) → (Nat → Int32) → (Nat → Int32) → (Nat → Int32) → (Nat → Int32) → (Nat → Int32) → (Nat → Int32) → (Nat → Int32) → (Nat → Int32) → (Nat → Int32) → (Nat → Int32) → (Nat → Int32) → (Nat → Int32) → (Nat → Int32) → (Nat → Int32) → (Nat → Int32) → (Nat → Int32) → Int32 → Int32 → Option (Int32 × Int32 × (Nat → Int32) × (Nat → Int32) × (Nat → Int32) × (Nat → Int32) × (Nat → Int32) × (Nat → Int32) × (Nat → Int32) × (Nat → Int32) × (Nat → Int32) × (Nat → Int32))
  | 0, _, _, _, _, _, _, _, _, _, _, _, _, _, _, _, _, _, _, _, _, _, _, _ => none
  | n + 1, t_thrown, t_city, t_kind, t_skill, t_want, t_hates, t_grows, t_lineFrom, t_lineTo, t_codes, t_kept, t_keptBy, t_ahead, t_against, t_sum, t_sumBy, t_term, t_termBy, t_byNot, t_valueOf, t_s, x1, x2 => if (13 : Int32) ≤ x2 then some ((-1 : Int32), t_thrown, t_kept, t_keptBy, t_ahead, t_against, t_sum, t_sumBy, t_term, t_termBy, t_byNot, t_valueOf)
    else (f_X13_isDanger t_city (x1)).bind fun r15 => if r15 = (0 : Int32) then some ((-1 : Int32), t_thrown, t_kept, t_keptBy, t_ahead, t_against, t_sum, t_sumBy, t_term, t_termBy, t_byNot, t_valueOf)
    else (f_X13_whomFor t_city t_kind t_skill t_want t_hates t_grows t_lineFrom t_lineTo t_codes t_kept t_keptBy t_ahead t_against t_sum t_sumBy t_term t_termBy t_byNot t_valueOf t_s (x1) (x2)).bind fun r24 => if r24.1 < (0 : Int32) then f_X13_terms_7 n t_thrown t_city t_kind t_skill t_want t_hates t_grows t_lineFrom t_lineTo t_codes r24.2.1 r24.2.2.1 r24.2.2.2.1 r24.2.2.2.2.1 r24.2.2.2.2.2.1 r24.2.2.2.2.2.2.1 r24.2.2.2.2.2.2.2.1 r24.2.2.2.2.2.2.2.2.1 r24.2.2.2.2.2.2.2.2.2.1 r24.2.2.2.2.2.2.2.2.2.2 t_s x1 ((x2 + (1 : Int32)))
    else some (x2, t_thrown, r24.2.1, r24.2.2.1, r24.2.2.2.1, r24.2.2.2.2.1, r24.2.2.2.2.2.1, r24.2.2.2.2.2.2.1, r24.2.2.2.2.2.2.2.1, r24.2.2.2.2.2.2.2.2.1, r24.2.2.2.2.2.2.2.2.2.1, r24.2.2.2.2.2.2.2.2.2.2)
def f_X13_terms (t_city : (Nat → Int32)) (t_kind : (Nat → Int32)) (t_skill : (Nat → Int32)) (t_want : (Nat → Int32)) (t_hates : (Nat → Int32)) (t_grows : (Nat → Int32)) (t_lineFrom : (Nat → Int32)) (t_lineTo : (Nat → Int32)) (t_codes : (Nat → Int32)) (t_kept : (Nat → Int32)) (t_keptBy : (Nat → Int32)) (t_ahead : (Nat → Int32)) (t_against : (Nat → Int32)) (t_sum : (Nat → Int32)) (t_sumBy : (Nat → Int32)) (t_term : (Nat → Int32)) (t_termBy : (Nat → Int32)) (t_byNot : (Nat → Int32)) (t_valueOf : (Nat → Int32)) (t_s : (Nat → Int32)) (x1 : Int32) : Option (Int32 × Int32 × (Nat → Int32) × (Nat → Int32) × (Nat → Int32) × (Nat → Int32) × (Nat → Int32) × (Nat → Int32) × (Nat → Int32) × (Nat → Int32) × (Nat → Int32) × (Nat → Int32)) := f_X13_terms_7 1100 ((0 : Int32)) t_city t_kind t_skill t_want t_hates t_grows t_lineFrom t_lineTo t_codes t_kept t_keptBy t_ahead t_against t_sum t_sumBy t_term t_termBy t_byNot t_valueOf t_s x1 ((1 : Int32))
abbrev rm_X13_terms : Room := { frames := 6, cells := 0, slots := 0, locals := 144 }
theorem hd_X13_terms : yX13_terms.cls = RX13 ∧ yX13_terms.cls ≠ "java/lang/invoke/MethodHandle" ∧ yX13_terms.cls ≠ "java/lang/invoke/VarHandle" ∧ (parseMethodDescriptor yX13_terms.desc).map (fun d => d.parameters.length) = some 1 := by decide +kernel
set_option maxRecDepth 100000 in
set_option maxHeartbeats 4000000 in
theorem kb_X13_terms_7 {E : En} {p : Program} {l : Launch} {e : Env} {s : State} {m : MethodId} {args : Array Value} {below : List Frame} {meth : Method} {c : Code} {A : Nat → Prop} {t_o : Nat} {t_q : Nat → Nat} {t_taped : Int32} {t_tape : (Nat → Int32)} {t_size : Int32} {t_place : Int32} {t_begin : Int32} {t_token : Int32} {t_word : Int64} {t_told : Int32} {t_wrong : Int32} {t_city : (Nat → Int32)} {t_manName : (Nat → Int64)} {t_dangerName : (Nat → Int64)} {t_decreeName : (Nat → Int64)} {t_kind : (Nat → Int32)} {t_skill : (Nat → Int32)} {t_fieldTold : (Nat → Int32)} {t_want : (Nat → Int32)} {t_hates : (Nat → Int32)} {t_restsOn : (Nat → Int32)} {t_sizeTold : (Nat → Int32)} {t_grows : (Nat → Int32)} {t_lineFrom : (Nat → Int32)} {t_lineTo : (Nat → Int32)} {t_codes : (Nat → Int32)} {t_code : Int32} {t_lawLine : Int32} {t_toldLines : Int32} {t_opened : (Nat → Int32)} {t_compared : (Nat → Int32)} {t_given : Int32} {t_fresh : Int64} {t_consulsMany : Int32} {t_lines : (Nat → Int32)} {t_lineWhat : (Nat → Int32)} {t_lineA : (Nat → Int32)} {t_lineB : (Nat → Int32)} {t_tolds : (Nat → Int32)} {t_toldDanger : (Nat → Int32)} {t_toldMonths : (Nat → Int32)} {t_toldSize : (Nat → Int32)} {t_s : (Nat → Int32)} {t_aside : (Nat → Int32)} {t_tried : (Nat → Int32)} {t_marked : (Nat → Int32)} {t_undone : (Nat → Int32)} {t_isLaid : (Nat → Int32)} {t_done : Int32} {t_heading : (Nat → Int32)} {t_bestHeading : (Nat → Int32)} {t_leastLeft : Int32} {t_goesTo : (Nat → Int32)} {t_bestGoes : (Nat → Int32)} {t_leastMonths : Int32} {t_g : Int64} {out : Int32 × Int32 × (Nat → Int32) × (Nat → Int32) × (Nat → Int32) × (Nat → Int32) × (Nat → Int32) × (Nat → Int32) × (Nat → Int32) × (Nat → Int32) × (Nat → Int32) × (Nat → Int32)} (X : Bx E A p s m args meth c cX13_terms 3 RX13 (some .int)) : ∀ (n : Nat) {t_thrown : Int32} {t_kept : (Nat → Int32)} {t_keptBy : (Nat → Int32)} {t_ahead : (Nat → Int32)} {t_against : (Nat → Int32)} {t_sum : (Nat → Int32)} {t_sumBy : (Nat → Int32)} {t_term : (Nat → Int32)} {t_termBy : (Nat → Int32)} {t_byNot : (Nat → Int32)} {t_valueOf : (Nat → Int32)} {x1 : Int32} {x2 : Int32} {H : Heap} {locs : List Loc} {ls : Array Slot}, f_X13_terms_7 n t_thrown t_city t_kind t_skill t_want t_hates t_grows t_lineFrom t_lineTo t_codes t_kept t_keptBy t_ahead t_against t_sum t_sumBy t_term t_termBy t_byNot t_valueOf t_s x1 x2 = some out → Wd E A s.heap (wX13 E t_o t_q t_thrown t_taped t_tape t_size t_place t_begin t_token t_word t_told t_wrong t_city t_manName t_dangerName t_decreeName t_kind t_skill t_fieldTold t_want t_hates t_restsOn t_sizeTold t_grows t_lineFrom t_lineTo t_codes t_code t_lawLine t_toldLines t_opened t_compared t_kept t_keptBy t_ahead t_against t_sum t_sumBy t_term t_termBy t_byNot t_valueOf t_given t_fresh t_consulsMany t_lines t_lineWhat t_lineA t_lineB t_tolds t_toldDanger t_toldMonths t_toldSize t_s t_aside t_tried t_marked t_undone t_isLaid t_done t_heading t_bestHeading t_leastLeft t_goesTo t_bestGoes t_leastMonths t_g) H locs → lv_has ls 3 [(0, .ref t_o), (1, .int (x1)), (2, .int (x2))] → W p l e rm_X13_terms s m args below meth c H locs 0 0 (Zn E below args s A (some (.int out.1)) (wX13 E t_o t_q out.2.1 t_taped t_tape t_size t_place t_begin t_token t_word t_told t_wrong t_city t_manName t_dangerName t_decreeName t_kind t_skill t_fieldTold t_want t_hates t_restsOn t_sizeTold t_grows t_lineFrom t_lineTo t_codes t_code t_lawLine t_toldLines t_opened t_compared out.2.2.1 out.2.2.2.1 out.2.2.2.2.1 out.2.2.2.2.2.1 out.2.2.2.2.2.2.1 out.2.2.2.2.2.2.2.1 out.2.2.2.2.2.2.2.2.1 out.2.2.2.2.2.2.2.2.2.1 out.2.2.2.2.2.2.2.2.2.2.1 out.2.2.2.2.2.2.2.2.2.2.2 t_given t_fresh t_consulsMany t_lines t_lineWhat t_lineA t_lineB t_tolds t_toldDanger t_toldMonths t_toldSize t_s t_aside t_tried t_marked t_undone t_isLaid t_done t_heading t_bestHeading t_leastLeft t_goesTo t_bestGoes t_leastMonths t_g)) (F0 m 7 ls []) := by
  have hx := X.1.1
  have hb := X.1.2.1
  have ho := X.1.2.2.2.1
  have hts := X.1.2.2.2.2
  intro n
  induction n with
  | zero =>
    intro t_thrown t_kept t_keptBy t_ahead t_against t_sum t_sumBy t_term t_termBy t_byNot t_valueOf x1 x2 H locs ls hf
    have hf : (none : Option (Int32 × Int32 × (Nat → Int32) × (Nat → Int32) × (Nat → Int32) × (Nat → Int32) × (Nat → Int32) × (Nat → Int32) × (Nat → Int32) × (Nat → Int32) × (Nat → Int32) × (Nat → Int32))) = some out := hf
    cases hf
  | succ n ih =>
    intro t_thrown t_kept t_keptBy t_ahead t_against t_sum t_sumBy t_term t_termBy t_byNot t_valueOf x1 x2 H locs ls hf hw hl
    rw [f_X13_terms_7.eq_2] at hf
    refine lv_iload_n hx hb dX13_terms_7 rfl (lv_at hl 2 rfl) ?_
    refine lv_bipush (v := (13 : Int32)) hx hb dX13_terms_8 (by decide) ?_
    refine lv_icmp_ge (tgt := 38) hx hb dX13_terms_10 (by decide) (fun c_10 => ?_) (fun c_10 => ?_)
    · have hf := (if_pos c_10).symm.trans hf
      refine lv_iconst (v := (-1 : Int32)) hx hb dX13_terms_38 (by decide) ?_
      obtain rfl := Option.some.inj hf
      exact k_iret X hw dX13_terms_39
    · have hf := (if_neg c_10).symm.trans hf
      refine lv_aload_n hx hb dX13_terms_13 rfl (lv_at hl 0 rfl) ?_
      refine lv_iload_n hx hb dX13_terms_14 rfl (lv_at hl 1 rfl) ?_
      obtain ⟨r15, hc_15, hf⟩ := bd_some hf
      refine k_V (As := [.int (x1)]) (rest := []) (index := 446) (C := RX13) X (c_X13_isDanger hc_15) tw_1777 tw_1779 tw_80 tw_130 tw_1780 ⟨rfl, rfl⟩ hd_X13_isDanger ⟨Nat.le_of_ble_eq_true rfl, Nat.le_of_ble_eq_true rfl⟩ ⟨Nat.zero_le _, Nat.zero_le _⟩ hw [0, 1, 2, 3, 4, 5, 6, 7, 8, 9, 10, 11, 12, 13, 14, 15, 16, 17, 18, 19, 20, 21, 22, 23, 24, 25, 26, 27, 28, 29, 30, 31, 32, 33, 34, 35, 36, 37, 38, 39, 40, 41, 42, 43, 44, 45, 46] rfl rfl 0 rfl rfl rfl rfl hl.1 rfl (Nat.le_of_ble_eq_true rfl) dX13_terms_15 (fun H locs hw => ?_)
      have hw : Wd E A s.heap (wX13 E t_o t_q t_thrown t_taped t_tape t_size t_place t_begin t_token t_word t_told t_wrong t_city t_manName t_dangerName t_decreeName t_kind t_skill t_fieldTold t_want t_hates t_restsOn t_sizeTold t_grows t_lineFrom t_lineTo t_codes t_code t_lawLine t_toldLines t_opened t_compared t_kept t_keptBy t_ahead t_against t_sum t_sumBy t_term t_termBy t_byNot t_valueOf t_given t_fresh t_consulsMany t_lines t_lineWhat t_lineA t_lineB t_tolds t_toldDanger t_toldMonths t_toldSize t_s t_aside t_tried t_marked t_undone t_isLaid t_done t_heading t_bestHeading t_leastLeft t_goesTo t_bestGoes t_leastMonths t_g) H locs := hw
      refine lv_if_eq (tgt := 38) hx hb dX13_terms_18 (by decide) (fun c_18 => ?_) (fun c_18 => ?_)
      · have hf := (if_pos c_18).symm.trans hf
        refine lv_iconst (v := (-1 : Int32)) hx hb dX13_terms_38 (by decide) ?_
        obtain rfl := Option.some.inj hf
        exact k_iret X hw dX13_terms_39
      · have hf := (if_neg c_18).symm.trans hf
        refine lv_aload_n hx hb dX13_terms_21 rfl (lv_at hl 0 rfl) ?_
        refine lv_iload_n hx hb dX13_terms_22 rfl (lv_at hl 1 rfl) ?_
        refine lv_iload_n hx hb dX13_terms_23 rfl (lv_at hl 2 rfl) ?_
        obtain ⟨r24, hc_24, hf⟩ := bd_some hf
        refine k_V (As := [.int (x1), .int (x2)]) (rest := []) (index := 492) (C := RX13) X (c_X13_whomFor hc_24) tw_1913 tw_1915 tw_102 tw_130 tw_1916 ⟨rfl, rfl⟩ hd_X13_whomFor ⟨Nat.le_of_ble_eq_true rfl, Nat.le_of_ble_eq_true rfl⟩ ⟨Nat.zero_le _, Nat.zero_le _⟩ hw [0, 1, 2, 3, 4, 5, 6, 7, 8, 9, 10, 11, 12, 13, 14, 15, 16, 17, 18, 19, 20, 21, 22, 23, 24, 25, 26, 27, 28, 29, 30, 31, 32, 33, 34, 35, 36, 37, 38, 39, 40, 41, 42, 43, 44, 45, 46] rfl rfl 0 rfl rfl rfl rfl hl.1 rfl (Nat.le_of_ble_eq_true rfl) dX13_terms_24 (fun H locs hw => ?_)
        have hw : Wd E A s.heap (wX13 E t_o t_q t_thrown t_taped t_tape t_size t_place t_begin t_token t_word t_told t_wrong t_city t_manName t_dangerName t_decreeName t_kind t_skill t_fieldTold t_want t_hates t_restsOn t_sizeTold t_grows t_lineFrom t_lineTo t_codes t_code t_lawLine t_toldLines t_opened t_compared r24.2.1 r24.2.2.1 r24.2.2.2.1 r24.2.2.2.2.1 r24.2.2.2.2.2.1 r24.2.2.2.2.2.2.1 r24.2.2.2.2.2.2.2.1 r24.2.2.2.2.2.2.2.2.1 r24.2.2.2.2.2.2.2.2.2.1 r24.2.2.2.2.2.2.2.2.2.2 t_given t_fresh t_consulsMany t_lines t_lineWhat t_lineA t_lineB t_tolds t_toldDanger t_toldMonths t_toldSize t_s t_aside t_tried t_marked t_undone t_isLaid t_done t_heading t_bestHeading t_leastLeft t_goesTo t_bestGoes t_leastMonths t_g) H locs := hw
        refine lv_if_lt (tgt := 32) hx hb dX13_terms_27 (by decide) (fun c_27 => ?_) (fun c_27 => ?_)
        · have hf := (if_pos c_27).symm.trans hf
          refine lv_iinc (v := (x2 + (1 : Int32))) (lv' := [(2, .int ((x2 + (1 : Int32)))), (0, .ref t_o), (1, .int (x1))]) hx hb dX13_terms_32 hl (k := 2) rfl rfl (by decide) rfl (fun ls hl => ?_)
          refine lv_goto (tgt := 7) hx hb dX13_terms_35 (by decide) ?_
          exact ih hf hw (lv_sub hl [1, 2, 0] rfl)
        · have hf := (if_neg c_27).symm.trans hf
          refine lv_iload_n hx hb dX13_terms_30 rfl (lv_at hl 2 rfl) ?_
          obtain rfl := Option.some.inj hf
          exact k_iret X hw dX13_terms_31
set_option maxRecDepth 100000 in
set_option maxHeartbeats 4000000 in
theorem c_X13_terms {E : En} {l : Launch} {t_o : Nat} {t_q : Nat → Nat} {t_thrown : Int32} {t_taped : Int32} {t_tape : (Nat → Int32)} {t_size : Int32} {t_place : Int32} {t_begin : Int32} {t_token : Int32} {t_word : Int64} {t_told : Int32} {t_wrong : Int32} {t_city : (Nat → Int32)} {t_manName : (Nat → Int64)} {t_dangerName : (Nat → Int64)} {t_decreeName : (Nat → Int64)} {t_kind : (Nat → Int32)} {t_skill : (Nat → Int32)} {t_fieldTold : (Nat → Int32)} {t_want : (Nat → Int32)} {t_hates : (Nat → Int32)} {t_restsOn : (Nat → Int32)} {t_sizeTold : (Nat → Int32)} {t_grows : (Nat → Int32)} {t_lineFrom : (Nat → Int32)} {t_lineTo : (Nat → Int32)} {t_codes : (Nat → Int32)} {t_code : Int32} {t_lawLine : Int32} {t_toldLines : Int32} {t_opened : (Nat → Int32)} {t_compared : (Nat → Int32)} {t_kept : (Nat → Int32)} {t_keptBy : (Nat → Int32)} {t_ahead : (Nat → Int32)} {t_against : (Nat → Int32)} {t_sum : (Nat → Int32)} {t_sumBy : (Nat → Int32)} {t_term : (Nat → Int32)} {t_termBy : (Nat → Int32)} {t_byNot : (Nat → Int32)} {t_valueOf : (Nat → Int32)} {t_given : Int32} {t_fresh : Int64} {t_consulsMany : Int32} {t_lines : (Nat → Int32)} {t_lineWhat : (Nat → Int32)} {t_lineA : (Nat → Int32)} {t_lineB : (Nat → Int32)} {t_tolds : (Nat → Int32)} {t_toldDanger : (Nat → Int32)} {t_toldMonths : (Nat → Int32)} {t_toldSize : (Nat → Int32)} {t_s : (Nat → Int32)} {t_aside : (Nat → Int32)} {t_tried : (Nat → Int32)} {t_marked : (Nat → Int32)} {t_undone : (Nat → Int32)} {t_isLaid : (Nat → Int32)} {t_done : Int32} {t_heading : (Nat → Int32)} {t_bestHeading : (Nat → Int32)} {t_leastLeft : Int32} {t_goesTo : (Nat → Int32)} {t_bestGoes : (Nat → Int32)} {t_leastMonths : Int32} {t_g : Int64} {x1 : Int32} {out : Int32 × Int32 × (Nat → Int32) × (Nat → Int32) × (Nat → Int32) × (Nat → Int32) × (Nat → Int32) × (Nat → Int32) × (Nat → Int32) × (Nat → Int32) × (Nat → Int32) × (Nat → Int32)} (hf : f_X13_terms t_city t_kind t_skill t_want t_hates t_grows t_lineFrom t_lineTo t_codes t_kept t_keptBy t_ahead t_against t_sum t_sumBy t_term t_termBy t_byNot t_valueOf t_s x1 = some out) : Cn E l yX13_terms cX13_terms 3 (some .int) rm_X13_terms [.ref t_o, .int (x1)] (wX13 E t_o t_q t_thrown t_taped t_tape t_size t_place t_begin t_token t_word t_told t_wrong t_city t_manName t_dangerName t_decreeName t_kind t_skill t_fieldTold t_want t_hates t_restsOn t_sizeTold t_grows t_lineFrom t_lineTo t_codes t_code t_lawLine t_toldLines t_opened t_compared t_kept t_keptBy t_ahead t_against t_sum t_sumBy t_term t_termBy t_byNot t_valueOf t_given t_fresh t_consulsMany t_lines t_lineWhat t_lineA t_lineB t_tolds t_toldDanger t_toldMonths t_toldSize t_s t_aside t_tried t_marked t_undone t_isLaid t_done t_heading t_bestHeading t_leastLeft t_goesTo t_bestGoes t_leastMonths t_g) (some (.int out.1)) (wX13 E t_o t_q out.2.1 t_taped t_tape t_size t_place t_begin t_token t_word t_told t_wrong t_city t_manName t_dangerName t_decreeName t_kind t_skill t_fieldTold t_want t_hates t_restsOn t_sizeTold t_grows t_lineFrom t_lineTo t_codes t_code t_lawLine t_toldLines t_opened t_compared out.2.2.1 out.2.2.2.1 out.2.2.2.2.1 out.2.2.2.2.2.1 out.2.2.2.2.2.2.1 out.2.2.2.2.2.2.2.1 out.2.2.2.2.2.2.2.2.1 out.2.2.2.2.2.2.2.2.2.1 out.2.2.2.2.2.2.2.2.2.2.1 out.2.2.2.2.2.2.2.2.2.2.2 t_given t_fresh t_consulsMany t_lines t_lineWhat t_lineA t_lineB t_tolds t_toldDanger t_toldMonths t_toldSize t_s t_aside t_tried t_marked t_undone t_isLaid t_done t_heading t_bestHeading t_leastLeft t_goesTo t_bestGoes t_leastMonths t_g) := by
  refine Cn.of (by decide) (Nat.le_of_ble_eq_true rfl) rfl ?_
  intro p e s m below meth c A ls args H locs X hw hl
  have hx := X.1.1
  have hb := X.1.2.1
  have ho := X.1.2.2.2.1
  have hts := X.1.2.2.2.2
  have hl : lv_has ls 3 [(0, .ref t_o), (1, .int (x1))] := hl
  unfold f_X13_terms at hf
  refine lv_aload_n hx hb dX13_terms_0 rfl (lv_at hl 0 rfl) ?_
  refine lv_iconst (v := (0 : Int32)) hx hb dX13_terms_1 (by decide) ?_
  refine k_put (q0 := 0) (ci := 11) (C := RX13) (T := TX13) (N := 65) (ty0 := tyX13) (x := .int ((0 : Int32))) X inx_13 tyX13_ok nmX13 hw rfl rfl 0 (by decide) rfl rfl tw_1373 rfl rfl (Nat.le_of_ble_eq_true rfl) dX13_terms_2 (fun H locs hw => ?_)
  have hw : Wd E A s.heap (wX13 E t_o t_q ((0 : Int32)) t_taped t_tape t_size t_place t_begin t_token t_word t_told t_wrong t_city t_manName t_dangerName t_decreeName t_kind t_skill t_fieldTold t_want t_hates t_restsOn t_sizeTold t_grows t_lineFrom t_lineTo t_codes t_code t_lawLine t_toldLines t_opened t_compared t_kept t_keptBy t_ahead t_against t_sum t_sumBy t_term t_termBy t_byNot t_valueOf t_given t_fresh t_consulsMany t_lines t_lineWhat t_lineA t_lineB t_tolds t_toldDanger t_toldMonths t_toldSize t_s t_aside t_tried t_marked t_undone t_isLaid t_done t_heading t_bestHeading t_leastLeft t_goesTo t_bestGoes t_leastMonths t_g) H locs := hw
  refine lv_iconst (v := (1 : Int32)) hx hb dX13_terms_5 (by decide) ?_
  refine lv_istore_n (lv' := [(2, .int ((1 : Int32))), (0, .ref t_o), (1, .int (x1))]) hx hb dX13_terms_6 rfl hl (by decide) rfl (fun ls hl => ?_)
  exact kb_X13_terms_7 X 1100 hf hw (lv_sub hl [1, 2, 0] rfl)
/-! public int waits(int); -/
def f_X13_waits_31 (K20 : Int32 → (Nat → Int32) → (Nat → Int32) → (Nat → Int32) → Int32 → Int32 → Option (Int32 × Int32)) : Nat → Int32 → (Nat → Int32) → (Nat → Int32) → (Nat → Int32) → Int32 → Int32 → Int32 → Int32 → Option (Int32 × Int32)
  | 0, _, _, _, _, _, _, _, _ => none
  | n + 1, t_thrown, t_city, t_grows, t_s, x1, x2, x3, x4 => gd ((1 : Int32)) 10 (if (t_city ((1 : Int32)).toNatClampNeg) ≤ x4 then if x3 < x1 then K20 t_thrown t_city t_grows t_s x1 ((x2 + (1 : Int32)))
      else some (x2, t_thrown)
    else (f_X13_grownBy t_grows t_s (x4) (x2)).bind fun r47 => f_X13_waits_31 K20 n t_thrown t_city t_grows t_s x1 x2 ((x3 + r47)) ((x4 + (1 : Int32))))
def f_X13_waits_20 : Nat → Int32 → (Nat → Int32) → (Nat → Int32) → (Nat → Int32) → Int32 → Int32 → Option (Int32 × Int32)
  | 0, _, _, _, _, _, _ => none
  | n + 1, t_thrown, t_city, t_grows, t_s, x1, x2 => if (100 : Int32) ≤ x2 then some ((-1 : Int32), t_thrown)
    else f_X13_waits_31 (f_X13_waits_20 n) 1100 t_thrown t_city t_grows t_s x1 x2 ((0 : Int32)) ((0 : Int32))
def f_X13_waits (t_city : (Nat → Int32)) (t_grows : (Nat → Int32)) (t_s : (Nat → Int32)) (x1 : Int32) : Option (Int32 × Int32) := if (f_X13_within (x1) ((1 : Int32)) ((495 : Int32))) = (0 : Int32) then some ((-1 : Int32), (0 : Int32))
  else f_X13_waits_20 1100 ((0 : Int32)) t_city t_grows t_s x1 ((0 : Int32))
abbrev rm_X13_waits : Room := { frames := 2, cells := 0, slots := 0, locals := 43 }
theorem hd_X13_waits : yX13_waits.cls = RX13 ∧ yX13_waits.cls ≠ "java/lang/invoke/MethodHandle" ∧ yX13_waits.cls ≠ "java/lang/invoke/VarHandle" ∧ (parseMethodDescriptor yX13_waits.desc).map (fun d => d.parameters.length) = some 1 := by decide +kernel
set_option maxRecDepth 100000 in
set_option maxHeartbeats 4000000 in
theorem kb_X13_waits_31 {E : En} {p : Program} {l : Launch} {e : Env} {s : State} {m : MethodId} {args : Array Value} {below : List Frame} {meth : Method} {c : Code} {A : Nat → Prop} {t_o : Nat} {t_q : Nat → Nat} {t_taped : Int32} {t_tape : (Nat → Int32)} {t_size : Int32} {t_place : Int32} {t_begin : Int32} {t_token : Int32} {t_word : Int64} {t_told : Int32} {t_wrong : Int32} {t_city : (Nat → Int32)} {t_manName : (Nat → Int64)} {t_dangerName : (Nat → Int64)} {t_decreeName : (Nat → Int64)} {t_kind : (Nat → Int32)} {t_skill : (Nat → Int32)} {t_fieldTold : (Nat → Int32)} {t_want : (Nat → Int32)} {t_hates : (Nat → Int32)} {t_restsOn : (Nat → Int32)} {t_sizeTold : (Nat → Int32)} {t_grows : (Nat → Int32)} {t_lineFrom : (Nat → Int32)} {t_lineTo : (Nat → Int32)} {t_codes : (Nat → Int32)} {t_code : Int32} {t_lawLine : Int32} {t_toldLines : Int32} {t_opened : (Nat → Int32)} {t_compared : (Nat → Int32)} {t_kept : (Nat → Int32)} {t_keptBy : (Nat → Int32)} {t_ahead : (Nat → Int32)} {t_against : (Nat → Int32)} {t_sum : (Nat → Int32)} {t_sumBy : (Nat → Int32)} {t_term : (Nat → Int32)} {t_termBy : (Nat → Int32)} {t_byNot : (Nat → Int32)} {t_valueOf : (Nat → Int32)} {t_given : Int32} {t_fresh : Int64} {t_consulsMany : Int32} {t_lines : (Nat → Int32)} {t_lineWhat : (Nat → Int32)} {t_lineA : (Nat → Int32)} {t_lineB : (Nat → Int32)} {t_tolds : (Nat → Int32)} {t_toldDanger : (Nat → Int32)} {t_toldMonths : (Nat → Int32)} {t_toldSize : (Nat → Int32)} {t_s : (Nat → Int32)} {t_aside : (Nat → Int32)} {t_tried : (Nat → Int32)} {t_marked : (Nat → Int32)} {t_undone : (Nat → Int32)} {t_isLaid : (Nat → Int32)} {t_done : Int32} {t_heading : (Nat → Int32)} {t_bestHeading : (Nat → Int32)} {t_leastLeft : Int32} {t_goesTo : (Nat → Int32)} {t_bestGoes : (Nat → Int32)} {t_leastMonths : Int32} {t_g : Int64} {out : Int32 × Int32} (X : Bx E A p s m args meth c cX13_waits 5 RX13 (some .int)) {K20 : Int32 → (Nat → Int32) → (Nat → Int32) → (Nat → Int32) → Int32 → Int32 → Option (Int32 × Int32)} (hK20 : ∀ {t_thrown : Int32} {x1 : Int32} {x2 : Int32} {H : Heap} {locs : List Loc} {ls : Array Slot}, K20 t_thrown t_city t_grows t_s x1 x2 = some out → Wd E A s.heap (wX13 E t_o t_q t_thrown t_taped t_tape t_size t_place t_begin t_token t_word t_told t_wrong t_city t_manName t_dangerName t_decreeName t_kind t_skill t_fieldTold t_want t_hates t_restsOn t_sizeTold t_grows t_lineFrom t_lineTo t_codes t_code t_lawLine t_toldLines t_opened t_compared t_kept t_keptBy t_ahead t_against t_sum t_sumBy t_term t_termBy t_byNot t_valueOf t_given t_fresh t_consulsMany t_lines t_lineWhat t_lineA t_lineB t_tolds t_toldDanger t_toldMonths t_toldSize t_s t_aside t_tried t_marked t_undone t_isLaid t_done t_heading t_bestHeading t_leastLeft t_goesTo t_bestGoes t_leastMonths t_g) H locs → lv_has ls 5 [(0, .ref t_o), (1, .int (x1)), (2, .int (x2))] → W p l e rm_X13_waits s m args below meth c H locs 0 0 (Zn E below args s A (some (.int out.1)) (wX13 E t_o t_q out.2 t_taped t_tape t_size t_place t_begin t_token t_word t_told t_wrong t_city t_manName t_dangerName t_decreeName t_kind t_skill t_fieldTold t_want t_hates t_restsOn t_sizeTold t_grows t_lineFrom t_lineTo t_codes t_code t_lawLine t_toldLines t_opened t_compared t_kept t_keptBy t_ahead t_against t_sum t_sumBy t_term t_termBy t_byNot t_valueOf t_given t_fresh t_consulsMany t_lines t_lineWhat t_lineA t_lineB t_tolds t_toldDanger t_toldMonths t_toldSize t_s t_aside t_tried t_marked t_undone t_isLaid t_done t_heading t_bestHeading t_leastLeft t_goesTo t_bestGoes t_leastMonths t_g)) (F0 m 20 ls [])) : ∀ (n : Nat) {t_thrown : Int32} {x1 : Int32} {x2 : Int32} {x3 : Int32} {x4 : Int32} {H : Heap} {locs : List Loc} {ls : Array Slot}, f_X13_waits_31 K20 n t_thrown t_city t_grows t_s x1 x2 x3 x4 = some out → Wd E A s.heap (wX13 E t_o t_q t_thrown t_taped t_tape t_size t_place t_begin t_token t_word t_told t_wrong t_city t_manName t_dangerName t_decreeName t_kind t_skill t_fieldTold t_want t_hates t_restsOn t_sizeTold t_grows t_lineFrom t_lineTo t_codes t_code t_lawLine t_toldLines t_opened t_compared t_kept t_keptBy t_ahead t_against t_sum t_sumBy t_term t_termBy t_byNot t_valueOf t_given t_fresh t_consulsMany t_lines t_lineWhat t_lineA t_lineB t_tolds t_toldDanger t_toldMonths t_toldSize t_s t_aside t_tried t_marked t_undone t_isLaid t_done t_heading t_bestHeading t_leastLeft t_goesTo t_bestGoes t_leastMonths t_g) H locs → lv_has ls 5 [(0, .ref t_o), (1, .int (x1)), (2, .int (x2)), (3, .int (x3)), (4, .int (x4))] → W p l e rm_X13_waits s m args below meth c H locs 0 0 (Zn E below args s A (some (.int out.1)) (wX13 E t_o t_q out.2 t_taped t_tape t_size t_place t_begin t_token t_word t_told t_wrong t_city t_manName t_dangerName t_decreeName t_kind t_skill t_fieldTold t_want t_hates t_restsOn t_sizeTold t_grows t_lineFrom t_lineTo t_codes t_code t_lawLine t_toldLines t_opened t_compared t_kept t_keptBy t_ahead t_against t_sum t_sumBy t_term t_termBy t_byNot t_valueOf t_given t_fresh t_consulsMany t_lines t_lineWhat t_lineA t_lineB t_tolds t_toldDanger t_toldMonths t_toldSize t_s t_aside t_tried t_marked t_undone t_isLaid t_done t_heading t_bestHeading t_leastLeft t_goesTo t_bestGoes t_leastMonths t_g)) (F0 m 31 ls []) := by
  have hx := X.1.1
  have hb := X.1.2.1
  have ho := X.1.2.2.2.1
  have hts := X.1.2.2.2.2
  intro n
  induction n with
  | zero =>
    intro t_thrown x1 x2 x3 x4 H locs ls hf
    have hf : (none : Option (Int32 × Int32)) = some out := hf
    cases hf
  | succ n ih =>
    intro t_thrown x1 x2 x3 x4 H locs ls hf hw hl
    rw [f_X13_waits_31.eq_2] at hf
    refine lv_iload hx hb dX13_waits_31 (lv_at hl 4 rfl) ?_
    refine lv_aload_n hx hb dX13_waits_33 rfl (lv_at hl 0 rfl) ?_
    refine k_get (q0 := 0) (ci := 11) (C := RX13) (T := TX13) (N := 65) (x := .ref (t_q 10)) X inx_13 hw rfl rfl 10 (by decide) rfl tw_1383 rfl dX13_waits_34 ?_
    refine lv_iconst (v := (1 : Int32)) hx hb dX13_waits_37 (by decide) ?_
    obtain ⟨hi_38, hf⟩ := gd_some hf
    refine k_iald (q0 := 2) (n := 10) (f := t_city) X hw rfl hi_38 dX13_waits_38 ?_
    refine lv_icmp_ge (tgt := 58) hx hb dX13_waits_39 (by decide) (fun c_39 => ?_) (fun c_39 => ?_)
    · have hf := (if_pos c_39).symm.trans hf
      refine lv_iload_n hx hb dX13_waits_58 rfl (lv_at hl 3 rfl) ?_
      refine lv_iload_n hx hb dX13_waits_59 rfl (lv_at hl 1 rfl) ?_
      refine lv_icmp_lt (tgt := 65) hx hb dX13_waits_60 (by decide) (fun c_60 => ?_) (fun c_60 => ?_)
      · have hf := (if_pos c_60).symm.trans hf
        refine lv_iinc (v := (x2 + (1 : Int32))) (lv' := [(2, .int ((x2 + (1 : Int32)))), (0, .ref t_o), (1, .int (x1)), (3, .int (x3)), (4, .int (x4))]) hx hb dX13_waits_65 hl (k := 2) rfl rfl (by decide) rfl (fun ls hl => ?_)
        refine lv_goto (tgt := 20) hx hb dX13_waits_68 (by decide) ?_
        exact hK20 hf hw (lv_sub hl [1, 2, 0] rfl)
      · have hf := (if_neg c_60).symm.trans hf
        refine lv_iload_n hx hb dX13_waits_63 rfl (lv_at hl 2 rfl) ?_
        obtain rfl := Option.some.inj hf
        exact k_iret X hw dX13_waits_64
    · have hf := (if_neg c_39).symm.trans hf
      refine lv_iload_n hx hb dX13_waits_42 rfl (lv_at hl 3 rfl) ?_
      refine lv_aload_n hx hb dX13_waits_43 rfl (lv_at hl 0 rfl) ?_
      refine lv_iload hx hb dX13_waits_44 (lv_at hl 4 rfl) ?_
      refine lv_iload_n hx hb dX13_waits_46 rfl (lv_at hl 2 rfl) ?_
      obtain ⟨r47, hc_47, hf⟩ := bd_some hf
      refine k_V (As := [.int (x4), .int (x2)]) (rest := [.int (x3)]) (index := 483) (C := RX13) X (c_X13_grownBy hc_47) tw_1925 tw_1927 tw_105 tw_130 tw_1928 ⟨rfl, rfl⟩ hd_X13_grownBy ⟨Nat.le_of_ble_eq_true rfl, Nat.le_of_ble_eq_true rfl⟩ ⟨Nat.zero_le _, Nat.zero_le _⟩ hw [0, 1, 2, 3, 4, 5, 6, 7, 8, 9, 10, 11, 12, 13, 14, 15, 16, 17, 18, 19, 20, 21, 22, 23, 24, 25, 26, 27, 28, 29, 30, 31, 32, 33, 34, 35, 36, 37, 38, 39, 40, 41, 42, 43, 44, 45, 46] rfl rfl 0 rfl rfl rfl rfl hl.1 rfl (Nat.le_of_ble_eq_true rfl) dX13_waits_47 (fun H locs hw => ?_)
      have hw : Wd E A s.heap (wX13 E t_o t_q t_thrown t_taped t_tape t_size t_place t_begin t_token t_word t_told t_wrong t_city t_manName t_dangerName t_decreeName t_kind t_skill t_fieldTold t_want t_hates t_restsOn t_sizeTold t_grows t_lineFrom t_lineTo t_codes t_code t_lawLine t_toldLines t_opened t_compared t_kept t_keptBy t_ahead t_against t_sum t_sumBy t_term t_termBy t_byNot t_valueOf t_given t_fresh t_consulsMany t_lines t_lineWhat t_lineA t_lineB t_tolds t_toldDanger t_toldMonths t_toldSize t_s t_aside t_tried t_marked t_undone t_isLaid t_done t_heading t_bestHeading t_leastLeft t_goesTo t_bestGoes t_leastMonths t_g) H locs := hw
      refine lv_iadd hx hb dX13_waits_50 ?_
      refine lv_istore_n (lv' := [(3, .int ((x3 + r47))), (0, .ref t_o), (1, .int (x1)), (2, .int (x2)), (4, .int (x4))]) hx hb dX13_waits_51 rfl hl (by decide) rfl (fun ls hl => ?_)
      refine lv_iinc (v := (x4 + (1 : Int32))) (lv' := [(4, .int ((x4 + (1 : Int32)))), (3, .int ((x3 + r47))), (0, .ref t_o), (1, .int (x1)), (2, .int (x2))]) hx hb dX13_waits_52 hl (k := 4) rfl rfl (by decide) rfl (fun ls hl => ?_)
      refine lv_goto (tgt := 31) hx hb dX13_waits_55 (by decide) ?_
      exact ih hf hw (lv_sub hl [2, 3, 4, 1, 0] rfl)
set_option maxRecDepth 100000 in
set_option maxHeartbeats 4000000 in
theorem kb_X13_waits_20 {E : En} {p : Program} {l : Launch} {e : Env} {s : State} {m : MethodId} {args : Array Value} {below : List Frame} {meth : Method} {c : Code} {A : Nat → Prop} {t_o : Nat} {t_q : Nat → Nat} {t_taped : Int32} {t_tape : (Nat → Int32)} {t_size : Int32} {t_place : Int32} {t_begin : Int32} {t_token : Int32} {t_word : Int64} {t_told : Int32} {t_wrong : Int32} {t_city : (Nat → Int32)} {t_manName : (Nat → Int64)} {t_dangerName : (Nat → Int64)} {t_decreeName : (Nat → Int64)} {t_kind : (Nat → Int32)} {t_skill : (Nat → Int32)} {t_fieldTold : (Nat → Int32)} {t_want : (Nat → Int32)} {t_hates : (Nat → Int32)} {t_restsOn : (Nat → Int32)} {t_sizeTold : (Nat → Int32)} {t_grows : (Nat → Int32)} {t_lineFrom : (Nat → Int32)} {t_lineTo : (Nat → Int32)} {t_codes : (Nat → Int32)} {t_code : Int32} {t_lawLine : Int32} {t_toldLines : Int32} {t_opened : (Nat → Int32)} {t_compared : (Nat → Int32)} {t_kept : (Nat → Int32)} {t_keptBy : (Nat → Int32)} {t_ahead : (Nat → Int32)} {t_against : (Nat → Int32)} {t_sum : (Nat → Int32)} {t_sumBy : (Nat → Int32)} {t_term : (Nat → Int32)} {t_termBy : (Nat → Int32)} {t_byNot : (Nat → Int32)} {t_valueOf : (Nat → Int32)} {t_given : Int32} {t_fresh : Int64} {t_consulsMany : Int32} {t_lines : (Nat → Int32)} {t_lineWhat : (Nat → Int32)} {t_lineA : (Nat → Int32)} {t_lineB : (Nat → Int32)} {t_tolds : (Nat → Int32)} {t_toldDanger : (Nat → Int32)} {t_toldMonths : (Nat → Int32)} {t_toldSize : (Nat → Int32)} {t_s : (Nat → Int32)} {t_aside : (Nat → Int32)} {t_tried : (Nat → Int32)} {t_marked : (Nat → Int32)} {t_undone : (Nat → Int32)} {t_isLaid : (Nat → Int32)} {t_done : Int32} {t_heading : (Nat → Int32)} {t_bestHeading : (Nat → Int32)} {t_leastLeft : Int32} {t_goesTo : (Nat → Int32)} {t_bestGoes : (Nat → Int32)} {t_leastMonths : Int32} {t_g : Int64} {out : Int32 × Int32} (X : Bx E A p s m args meth c cX13_waits 5 RX13 (some .int)) : ∀ (n : Nat) {t_thrown : Int32} {x1 : Int32} {x2 : Int32} {H : Heap} {locs : List Loc} {ls : Array Slot}, f_X13_waits_20 n t_thrown t_city t_grows t_s x1 x2 = some out → Wd E A s.heap (wX13 E t_o t_q t_thrown t_taped t_tape t_size t_place t_begin t_token t_word t_told t_wrong t_city t_manName t_dangerName t_decreeName t_kind t_skill t_fieldTold t_want t_hates t_restsOn t_sizeTold t_grows t_lineFrom t_lineTo t_codes t_code t_lawLine t_toldLines t_opened t_compared t_kept t_keptBy t_ahead t_against t_sum t_sumBy t_term t_termBy t_byNot t_valueOf t_given t_fresh t_consulsMany t_lines t_lineWhat t_lineA t_lineB t_tolds t_toldDanger t_toldMonths t_toldSize t_s t_aside t_tried t_marked t_undone t_isLaid t_done t_heading t_bestHeading t_leastLeft t_goesTo t_bestGoes t_leastMonths t_g) H locs → lv_has ls 5 [(0, .ref t_o), (1, .int (x1)), (2, .int (x2))] → W p l e rm_X13_waits s m args below meth c H locs 0 0 (Zn E below args s A (some (.int out.1)) (wX13 E t_o t_q out.2 t_taped t_tape t_size t_place t_begin t_token t_word t_told t_wrong t_city t_manName t_dangerName t_decreeName t_kind t_skill t_fieldTold t_want t_hates t_restsOn t_sizeTold t_grows t_lineFrom t_lineTo t_codes t_code t_lawLine t_toldLines t_opened t_compared t_kept t_keptBy t_ahead t_against t_sum t_sumBy t_term t_termBy t_byNot t_valueOf t_given t_fresh t_consulsMany t_lines t_lineWhat t_lineA t_lineB t_tolds t_toldDanger t_toldMonths t_toldSize t_s t_aside t_tried t_marked t_undone t_isLaid t_done t_heading t_bestHeading t_leastLeft t_goesTo t_bestGoes t_leastMonths t_g)) (F0 m 20 ls []) := by
  have hx := X.1.1
  have hb := X.1.2.1
  have ho := X.1.2.2.2.1
  have hts := X.1.2.2.2.2
  intro n
  induction n with
  | zero =>
    intro t_thrown x1 x2 H locs ls hf
    have hf : (none : Option (Int32 × Int32)) = some out := hf
    cases hf
  | succ n ih =>
    intro t_thrown x1 x2 H locs ls hf hw hl
    rw [f_X13_waits_20.eq_2] at hf
    refine lv_iload_n hx hb dX13_waits_20 rfl (lv_at hl 2 rfl) ?_
    refine lv_bipush (v := (100 : Int32)) hx hb dX13_waits_21 (by decide) ?_
    refine lv_icmp_ge (tgt := 71) hx hb dX13_waits_23 (by decide) (fun c_23 => ?_) (fun c_23 => ?_)
    · have hf := (if_pos c_23).symm.trans hf
      refine lv_iconst (v := (-1 : Int32)) hx hb dX13_waits_71 (by decide) ?_
      obtain rfl := Option.some.inj hf
      exact k_iret X hw dX13_waits_72
    · have hf := (if_neg c_23).symm.trans hf
      refine lv_iconst (v := (0 : Int32)) hx hb dX13_waits_26 (by decide) ?_
      refine lv_istore_n (lv' := [(3, .int ((0 : Int32))), (0, .ref t_o), (1, .int (x1)), (2, .int (x2))]) hx hb dX13_waits_27 rfl hl (by decide) rfl (fun ls hl => ?_)
      refine lv_iconst (v := (0 : Int32)) hx hb dX13_waits_28 (by decide) ?_
      refine lv_istore (lv' := [(4, .int ((0 : Int32))), (3, .int ((0 : Int32))), (0, .ref t_o), (1, .int (x1)), (2, .int (x2))]) hx hb dX13_waits_29 hl (by decide) rfl (fun ls hl => ?_)
      exact kb_X13_waits_31 X (fun hf hw hl => ih hf hw hl) 1100 hf hw (lv_sub hl [2, 3, 4, 1, 0] rfl)
set_option maxRecDepth 100000 in
set_option maxHeartbeats 4000000 in
theorem c_X13_waits {E : En} {l : Launch} {t_o : Nat} {t_q : Nat → Nat} {t_thrown : Int32} {t_taped : Int32} {t_tape : (Nat → Int32)} {t_size : Int32} {t_place : Int32} {t_begin : Int32} {t_token : Int32} {t_word : Int64} {t_told : Int32} {t_wrong : Int32} {t_city : (Nat → Int32)} {t_manName : (Nat → Int64)} {t_dangerName : (Nat → Int64)} {t_decreeName : (Nat → Int64)} {t_kind : (Nat → Int32)} {t_skill : (Nat → Int32)} {t_fieldTold : (Nat → Int32)} {t_want : (Nat → Int32)} {t_hates : (Nat → Int32)} {t_restsOn : (Nat → Int32)} {t_sizeTold : (Nat → Int32)} {t_grows : (Nat → Int32)} {t_lineFrom : (Nat → Int32)} {t_lineTo : (Nat → Int32)} {t_codes : (Nat → Int32)} {t_code : Int32} {t_lawLine : Int32} {t_toldLines : Int32} {t_opened : (Nat → Int32)} {t_compared : (Nat → Int32)} {t_kept : (Nat → Int32)} {t_keptBy : (Nat → Int32)} {t_ahead : (Nat → Int32)} {t_against : (Nat → Int32)} {t_sum : (Nat → Int32)} {t_sumBy : (Nat → Int32)} {t_term : (Nat → Int32)} {t_termBy : (Nat → Int32)} {t_byNot : (Nat → Int32)} {t_valueOf : (Nat → Int32)} {t_given : Int32} {t_fresh : Int64} {t_consulsMany : Int32} {t_lines : (Nat → Int32)} {t_lineWhat : (Nat → Int32)} {t_lineA : (Nat → Int32)} {t_lineB : (Nat → Int32)} {t_tolds : (Nat → Int32)} {t_toldDanger : (Nat → Int32)} {t_toldMonths : (Nat → Int32)} {t_toldSize : (Nat → Int32)} {t_s : (Nat → Int32)} {t_aside : (Nat → Int32)} {t_tried : (Nat → Int32)} {t_marked : (Nat → Int32)} {t_undone : (Nat → Int32)} {t_isLaid : (Nat → Int32)} {t_done : Int32} {t_heading : (Nat → Int32)} {t_bestHeading : (Nat → Int32)} {t_leastLeft : Int32} {t_goesTo : (Nat → Int32)} {t_bestGoes : (Nat → Int32)} {t_leastMonths : Int32} {t_g : Int64} {x1 : Int32} {out : Int32 × Int32} (hf : f_X13_waits t_city t_grows t_s x1 = some out) : Cn E l yX13_waits cX13_waits 5 (some .int) rm_X13_waits [.ref t_o, .int (x1)] (wX13 E t_o t_q t_thrown t_taped t_tape t_size t_place t_begin t_token t_word t_told t_wrong t_city t_manName t_dangerName t_decreeName t_kind t_skill t_fieldTold t_want t_hates t_restsOn t_sizeTold t_grows t_lineFrom t_lineTo t_codes t_code t_lawLine t_toldLines t_opened t_compared t_kept t_keptBy t_ahead t_against t_sum t_sumBy t_term t_termBy t_byNot t_valueOf t_given t_fresh t_consulsMany t_lines t_lineWhat t_lineA t_lineB t_tolds t_toldDanger t_toldMonths t_toldSize t_s t_aside t_tried t_marked t_undone t_isLaid t_done t_heading t_bestHeading t_leastLeft t_goesTo t_bestGoes t_leastMonths t_g) (some (.int out.1)) (wX13 E t_o t_q out.2 t_taped t_tape t_size t_place t_begin t_token t_word t_told t_wrong t_city t_manName t_dangerName t_decreeName t_kind t_skill t_fieldTold t_want t_hates t_restsOn t_sizeTold t_grows t_lineFrom t_lineTo t_codes t_code t_lawLine t_toldLines t_opened t_compared t_kept t_keptBy t_ahead t_against t_sum t_sumBy t_term t_termBy t_byNot t_valueOf t_given t_fresh t_consulsMany t_lines t_lineWhat t_lineA t_lineB t_tolds t_toldDanger t_toldMonths t_toldSize t_s t_aside t_tried t_marked t_undone t_isLaid t_done t_heading t_bestHeading t_leastLeft t_goesTo t_bestGoes t_leastMonths t_g) := by
  refine Cn.of (by decide) (Nat.le_of_ble_eq_true rfl) rfl ?_
  intro p e s m below meth c A ls args H locs X hw hl
  have hx := X.1.1
  have hb := X.1.2.1
  have ho := X.1.2.2.2.1
  have hts := X.1.2.2.2.2
  have hl : lv_has ls 5 [(0, .ref t_o), (1, .int (x1))] := hl
  unfold f_X13_waits at hf
  refine lv_aload_n hx hb dX13_waits_0 rfl (lv_at hl 0 rfl) ?_
  refine lv_iconst (v := (0 : Int32)) hx hb dX13_waits_1 (by decide) ?_
  refine k_put (q0 := 0) (ci := 11) (C := RX13) (T := TX13) (N := 65) (ty0 := tyX13) (x := .int ((0 : Int32))) X inx_13 tyX13_ok nmX13 hw rfl rfl 0 (by decide) rfl rfl tw_1373 rfl rfl (Nat.le_of_ble_eq_true rfl) dX13_waits_2 (fun H locs hw => ?_)
  have hw : Wd E A s.heap (wX13 E t_o t_q ((0 : Int32)) t_taped t_tape t_size t_place t_begin t_token t_word t_told t_wrong t_city t_manName t_dangerName t_decreeName t_kind t_skill t_fieldTold t_want t_hates t_restsOn t_sizeTold t_grows t_lineFrom t_lineTo t_codes t_code t_lawLine t_toldLines t_opened t_compared t_kept t_keptBy t_ahead t_against t_sum t_sumBy t_term t_termBy t_byNot t_valueOf t_given t_fresh t_consulsMany t_lines t_lineWhat t_lineA t_lineB t_tolds t_toldDanger t_toldMonths t_toldSize t_s t_aside t_tried t_marked t_undone t_isLaid t_done t_heading t_bestHeading t_leastLeft t_goesTo t_bestGoes t_leastMonths t_g) H locs := hw
  refine lv_iload_n hx hb dX13_waits_5 rfl (lv_at hl 1 rfl) ?_
  refine lv_iconst (v := (1 : Int32)) hx hb dX13_waits_6 (by decide) ?_
  refine lv_sipush (v := (495 : Int32)) hx hb dX13_waits_7 (by decide) ?_
  refine k_S (As := [.int (x1), .int ((1 : Int32)), .int ((495 : Int32))]) (rest := []) (index := 297) X (c_X13_within (out := (f_X13_within (x1) ((1 : Int32)) ((495 : Int32)))) rfl) tw_1670 tw_1671 tw_130 tw_1672 ⟨rfl, rfl⟩ hd_X13_within ⟨Nat.le_of_ble_eq_true rfl, Nat.le_of_ble_eq_true rfl⟩ ⟨Nat.zero_le _, Nat.zero_le _⟩ hw [] rfl rfl rfl hl.1 rfl (Nat.le_of_ble_eq_true rfl) dX13_waits_10 (fun H locs hw => ?_)
  have hw : Wd E A s.heap (wX13 E t_o t_q ((0 : Int32)) t_taped t_tape t_size t_place t_begin t_token t_word t_told t_wrong t_city t_manName t_dangerName t_decreeName t_kind t_skill t_fieldTold t_want t_hates t_restsOn t_sizeTold t_grows t_lineFrom t_lineTo t_codes t_code t_lawLine t_toldLines t_opened t_compared t_kept t_keptBy t_ahead t_against t_sum t_sumBy t_term t_termBy t_byNot t_valueOf t_given t_fresh t_consulsMany t_lines t_lineWhat t_lineA t_lineB t_tolds t_toldDanger t_toldMonths t_toldSize t_s t_aside t_tried t_marked t_undone t_isLaid t_done t_heading t_bestHeading t_leastLeft t_goesTo t_bestGoes t_leastMonths t_g) H locs := hw
  refine lv_if_ne (tgt := 18) hx hb dX13_waits_13 (by decide) (fun c_13 => ?_) (fun c_13 => ?_)
  · have hf := (if_neg c_13).symm.trans hf
    refine lv_iconst (v := (0 : Int32)) hx hb dX13_waits_18 (by decide) ?_
    refine lv_istore_n (lv' := [(2, .int ((0 : Int32))), (0, .ref t_o), (1, .int (x1))]) hx hb dX13_waits_19 rfl hl (by decide) rfl (fun ls hl => ?_)
    exact kb_X13_waits_20 X 1100 hf hw (lv_sub hl [1, 2, 0] rfl)
  · have hf := (if_pos c_13).symm.trans hf
    refine lv_iconst (v := (-1 : Int32)) hx hb dX13_waits_16 (by decide) ?_
    obtain rfl := Option.some.inj hf
    exact k_iret X hw dX13_waits_17
/-! private int fallen(int); -/
def f_X13_fallen_4 : Nat → (Nat → Int32) → (Nat → Int32) → Int32 → Int32 → Option (Int32)
  | 0, _, _, _, _ => none
  | n + 1, t_city, t_restsOn, x2, x3 => gd ((2 : Int32)) 10 (if (t_city ((2 : Int32)).toNatClampNeg) ≤ x3 then some (x2)
    else gd (x3) 12 (if ((t_restsOn (x3).toNatClampNeg) &&& x2) = (0 : Int32) then f_X13_fallen_4 n t_city t_restsOn x2 ((x3 + (1 : Int32)))
    else f_X13_fallen_4 n t_city t_restsOn ((x2 ||| ((1 : Int32) <<< (x3 &&& (31 : Int32))))) ((x3 + (1 : Int32)))))
def f_X13_fallen (t_city : (Nat → Int32)) (t_restsOn : (Nat → Int32)) (x1 : Int32) : Option (Int32) := f_X13_fallen_4 1100 t_city t_restsOn x1 ((0 : Int32))
abbrev rm_X13_fallen : Room := { frames := 0, cells := 0, slots := 0, locals := 0 }
theorem hd_X13_fallen : yX13_fallen.cls = RX13 ∧ yX13_fallen.cls ≠ "java/lang/invoke/MethodHandle" ∧ yX13_fallen.cls ≠ "java/lang/invoke/VarHandle" ∧ (parseMethodDescriptor yX13_fallen.desc).map (fun d => d.parameters.length) = some 1 := by decide +kernel
set_option maxRecDepth 100000 in
set_option maxHeartbeats 4000000 in
theorem kb_X13_fallen_4 {E : En} {p : Program} {l : Launch} {e : Env} {s : State} {m : MethodId} {args : Array Value} {below : List Frame} {meth : Method} {c : Code} {A : Nat → Prop} {t_o : Nat} {t_q : Nat → Nat} {t_thrown : Int32} {t_taped : Int32} {t_tape : (Nat → Int32)} {t_size : Int32} {t_place : Int32} {t_begin : Int32} {t_token : Int32} {t_word : Int64} {t_told : Int32} {t_wrong : Int32} {t_city : (Nat → Int32)} {t_manName : (Nat → Int64)} {t_dangerName : (Nat → Int64)} {t_decreeName : (Nat → Int64)} {t_kind : (Nat → Int32)} {t_skill : (Nat → Int32)} {t_fieldTold : (Nat → Int32)} {t_want : (Nat → Int32)} {t_hates : (Nat → Int32)} {t_restsOn : (Nat → Int32)} {t_sizeTold : (Nat → Int32)} {t_grows : (Nat → Int32)} {t_lineFrom : (Nat → Int32)} {t_lineTo : (Nat → Int32)} {t_codes : (Nat → Int32)} {t_code : Int32} {t_lawLine : Int32} {t_toldLines : Int32} {t_opened : (Nat → Int32)} {t_compared : (Nat → Int32)} {t_kept : (Nat → Int32)} {t_keptBy : (Nat → Int32)} {t_ahead : (Nat → Int32)} {t_against : (Nat → Int32)} {t_sum : (Nat → Int32)} {t_sumBy : (Nat → Int32)} {t_term : (Nat → Int32)} {t_termBy : (Nat → Int32)} {t_byNot : (Nat → Int32)} {t_valueOf : (Nat → Int32)} {t_given : Int32} {t_fresh : Int64} {t_consulsMany : Int32} {t_lines : (Nat → Int32)} {t_lineWhat : (Nat → Int32)} {t_lineA : (Nat → Int32)} {t_lineB : (Nat → Int32)} {t_tolds : (Nat → Int32)} {t_toldDanger : (Nat → Int32)} {t_toldMonths : (Nat → Int32)} {t_toldSize : (Nat → Int32)} {t_s : (Nat → Int32)} {t_aside : (Nat → Int32)} {t_tried : (Nat → Int32)} {t_marked : (Nat → Int32)} {t_undone : (Nat → Int32)} {t_isLaid : (Nat → Int32)} {t_done : Int32} {t_heading : (Nat → Int32)} {t_bestHeading : (Nat → Int32)} {t_leastLeft : Int32} {t_goesTo : (Nat → Int32)} {t_bestGoes : (Nat → Int32)} {t_leastMonths : Int32} {t_g : Int64} {out : Int32} (X : Bx E A p s m args meth c cX13_fallen 4 RX13 (some .int)) : ∀ (n : Nat) {x2 : Int32} {x3 : Int32} {H : Heap} {locs : List Loc} {ls : Array Slot}, f_X13_fallen_4 n t_city t_restsOn x2 x3 = some out → Wd E A s.heap (wX13 E t_o t_q t_thrown t_taped t_tape t_size t_place t_begin t_token t_word t_told t_wrong t_city t_manName t_dangerName t_decreeName t_kind t_skill t_fieldTold t_want t_hates t_restsOn t_sizeTold t_grows t_lineFrom t_lineTo t_codes t_code t_lawLine t_toldLines t_opened t_compared t_kept t_keptBy t_ahead t_against t_sum t_sumBy t_term t_termBy t_byNot t_valueOf t_given t_fresh t_consulsMany t_lines t_lineWhat t_lineA t_lineB t_tolds t_toldDanger t_toldMonths t_toldSize t_s t_aside t_tried t_marked t_undone t_isLaid t_done t_heading t_bestHeading t_leastLeft t_goesTo t_bestGoes t_leastMonths t_g) H locs → lv_has ls 4 [(0, .ref t_o), (2, .int (x2)), (3, .int (x3))] → W p l e rm_X13_fallen s m args below meth c H locs 0 0 (Zn E below args s A (some (.int out)) (wX13 E t_o t_q t_thrown t_taped t_tape t_size t_place t_begin t_token t_word t_told t_wrong t_city t_manName t_dangerName t_decreeName t_kind t_skill t_fieldTold t_want t_hates t_restsOn t_sizeTold t_grows t_lineFrom t_lineTo t_codes t_code t_lawLine t_toldLines t_opened t_compared t_kept t_keptBy t_ahead t_against t_sum t_sumBy t_term t_termBy t_byNot t_valueOf t_given t_fresh t_consulsMany t_lines t_lineWhat t_lineA t_lineB t_tolds t_toldDanger t_toldMonths t_toldSize t_s t_aside t_tried t_marked t_undone t_isLaid t_done t_heading t_bestHeading t_leastLeft t_goesTo t_bestGoes t_leastMonths t_g)) (F0 m 4 ls []) := by
  have hx := X.1.1
  have hb := X.1.2.1
  have ho := X.1.2.2.2.1
  have hts := X.1.2.2.2.2
  intro n
  induction n with
  | zero =>
    intro x2 x3 H locs ls hf
    have hf : (none : Option (Int32)) = some out := hf
    cases hf
  | succ n ih =>
    intro x2 x3 H locs ls hf hw hl
    rw [f_X13_fallen_4.eq_2] at hf
    refine lv_iload_n hx hb dX13_fallen_4 rfl (lv_at hl 2 rfl) ?_
    refine lv_aload_n hx hb dX13_fallen_5 rfl (lv_at hl 0 rfl) ?_
    refine k_get (q0 := 0) (ci := 11) (C := RX13) (T := TX13) (N := 65) (x := .ref (t_q 10)) X inx_13 hw rfl rfl 10 (by decide) rfl tw_1383 rfl dX13_fallen_6 ?_
    refine lv_iconst (v := (2 : Int32)) hx hb dX13_fallen_9 (by decide) ?_
    obtain ⟨hi_10, hf⟩ := gd_some hf
    refine k_iald (q0 := 2) (n := 10) (f := t_city) X hw rfl hi_10 dX13_fallen_10 ?_
    refine lv_icmp_ge (tgt := 37) hx hb dX13_fallen_11 (by decide) (fun c_11 => ?_) (fun c_11 => ?_)
    · have hf := (if_pos c_11).symm.trans hf
      refine lv_iload_n hx hb dX13_fallen_37 rfl (lv_at hl 1 rfl) ?_
      obtain rfl := Option.some.inj hf
      exact k_iret X hw dX13_fallen_38
    · have hf := (if_neg c_11).symm.trans hf
      refine lv_aload_n hx hb dX13_fallen_14 rfl (lv_at hl 0 rfl) ?_
      refine k_get (q0 := 0) (ci := 11) (C := RX13) (T := TX13) (N := 65) (x := .ref (t_q 19)) X inx_13 hw rfl rfl 19 (by decide) rfl tw_1392 rfl dX13_fallen_15 ?_
      refine lv_iload_n hx hb dX13_fallen_18 rfl (lv_at hl 2 rfl) ?_
      obtain ⟨hi_19, hf⟩ := gd_some hf
      refine k_iald (q0 := 11) (n := 12) (f := t_restsOn) X hw rfl hi_19 dX13_fallen_19 ?_
      refine lv_iload_n hx hb dX13_fallen_20 rfl (lv_at hl 1 rfl) ?_
      refine lv_iand hx hb dX13_fallen_21 ?_
      refine lv_if_eq (tgt := 31) hx hb dX13_fallen_22 (by decide) (fun c_22 => ?_) (fun c_22 => ?_)
      · have hf := (if_pos c_22).symm.trans hf
        refine lv_iinc (v := (x3 + (1 : Int32))) (lv' := [(3, .int ((x3 + (1 : Int32)))), (0, .ref t_o), (2, .int (x2))]) hx hb dX13_fallen_31 hl (k := 2) rfl rfl (by decide) rfl (fun ls hl => ?_)
        refine lv_goto (tgt := 4) hx hb dX13_fallen_34 (by decide) ?_
        exact ih hf hw (lv_sub hl [1, 2, 0] rfl)
      · have hf := (if_neg c_22).symm.trans hf
        refine lv_iload_n hx hb dX13_fallen_25 rfl (lv_at hl 1 rfl) ?_
        refine lv_iconst (v := (1 : Int32)) hx hb dX13_fallen_26 (by decide) ?_
        refine lv_iload_n hx hb dX13_fallen_27 rfl (lv_at hl 2 rfl) ?_
        refine lv_ishl hx hb dX13_fallen_28 ?_
        refine lv_ior hx hb dX13_fallen_29 ?_
        refine lv_istore_n (lv' := [(2, .int ((x2 ||| ((1 : Int32) <<< (x3 &&& (31 : Int32)))))), (0, .ref t_o), (3, .int (x3))]) hx hb dX13_fallen_30 rfl hl (by decide) rfl (fun ls hl => ?_)
        refine lv_iinc (v := (x3 + (1 : Int32))) (lv' := [(3, .int ((x3 + (1 : Int32)))), (2, .int ((x2 ||| ((1 : Int32) <<< (x3 &&& (31 : Int32)))))), (0, .ref t_o)]) hx hb dX13_fallen_31 hl (k := 2) rfl rfl (by decide) rfl (fun ls hl => ?_)
        refine lv_goto (tgt := 4) hx hb dX13_fallen_34 (by decide) ?_
        exact ih hf hw (lv_sub hl [2, 1, 0] rfl)
set_option maxRecDepth 100000 in
set_option maxHeartbeats 4000000 in
theorem c_X13_fallen {E : En} {l : Launch} {t_o : Nat} {t_q : Nat → Nat} {t_thrown : Int32} {t_taped : Int32} {t_tape : (Nat → Int32)} {t_size : Int32} {t_place : Int32} {t_begin : Int32} {t_token : Int32} {t_word : Int64} {t_told : Int32} {t_wrong : Int32} {t_city : (Nat → Int32)} {t_manName : (Nat → Int64)} {t_dangerName : (Nat → Int64)} {t_decreeName : (Nat → Int64)} {t_kind : (Nat → Int32)} {t_skill : (Nat → Int32)} {t_fieldTold : (Nat → Int32)} {t_want : (Nat → Int32)} {t_hates : (Nat → Int32)} {t_restsOn : (Nat → Int32)} {t_sizeTold : (Nat → Int32)} {t_grows : (Nat → Int32)} {t_lineFrom : (Nat → Int32)} {t_lineTo : (Nat → Int32)} {t_codes : (Nat → Int32)} {t_code : Int32} {t_lawLine : Int32} {t_toldLines : Int32} {t_opened : (Nat → Int32)} {t_compared : (Nat → Int32)} {t_kept : (Nat → Int32)} {t_keptBy : (Nat → Int32)} {t_ahead : (Nat → Int32)} {t_against : (Nat → Int32)} {t_sum : (Nat → Int32)} {t_sumBy : (Nat → Int32)} {t_term : (Nat → Int32)} {t_termBy : (Nat → Int32)} {t_byNot : (Nat → Int32)} {t_valueOf : (Nat → Int32)} {t_given : Int32} {t_fresh : Int64} {t_consulsMany : Int32} {t_lines : (Nat → Int32)} {t_lineWhat : (Nat → Int32)} {t_lineA : (Nat → Int32)} {t_lineB : (Nat → Int32)} {t_tolds : (Nat → Int32)} {t_toldDanger : (Nat → Int32)} {t_toldMonths : (Nat → Int32)} {t_toldSize : (Nat → Int32)} {t_s : (Nat → Int32)} {t_aside : (Nat → Int32)} {t_tried : (Nat → Int32)} {t_marked : (Nat → Int32)} {t_undone : (Nat → Int32)} {t_isLaid : (Nat → Int32)} {t_done : Int32} {t_heading : (Nat → Int32)} {t_bestHeading : (Nat → Int32)} {t_leastLeft : Int32} {t_goesTo : (Nat → Int32)} {t_bestGoes : (Nat → Int32)} {t_leastMonths : Int32} {t_g : Int64} {x1 : Int32} {out : Int32} (hf : f_X13_fallen t_city t_restsOn x1 = some out) : Cn E l yX13_fallen cX13_fallen 4 (some .int) rm_X13_fallen [.ref t_o, .int (x1)] (wX13 E t_o t_q t_thrown t_taped t_tape t_size t_place t_begin t_token t_word t_told t_wrong t_city t_manName t_dangerName t_decreeName t_kind t_skill t_fieldTold t_want t_hates t_restsOn t_sizeTold t_grows t_lineFrom t_lineTo t_codes t_code t_lawLine t_toldLines t_opened t_compared t_kept t_keptBy t_ahead t_against t_sum t_sumBy t_term t_termBy t_byNot t_valueOf t_given t_fresh t_consulsMany t_lines t_lineWhat t_lineA t_lineB t_tolds t_toldDanger t_toldMonths t_toldSize t_s t_aside t_tried t_marked t_undone t_isLaid t_done t_heading t_bestHeading t_leastLeft t_goesTo t_bestGoes t_leastMonths t_g) (some (.int out)) (wX13 E t_o t_q t_thrown t_taped t_tape t_size t_place t_begin t_token t_word t_told t_wrong t_city t_manName t_dangerName t_decreeName t_kind t_skill t_fieldTold t_want t_hates t_restsOn t_sizeTold t_grows t_lineFrom t_lineTo t_codes t_code t_lawLine t_toldLines t_opened t_compared t_kept t_keptBy t_ahead t_against t_sum t_sumBy t_term t_termBy t_byNot t_valueOf t_given t_fresh t_consulsMany t_lines t_lineWhat t_lineA t_lineB t_tolds t_toldDanger t_toldMonths t_toldSize t_s t_aside t_tried t_marked t_undone t_isLaid t_done t_heading t_bestHeading t_leastLeft t_goesTo t_bestGoes t_leastMonths t_g) := by
  refine Cn.of (by decide) (Nat.le_of_ble_eq_true rfl) rfl ?_
  intro p e s m below meth c A ls args H locs X hw hl
  have hx := X.1.1
  have hb := X.1.2.1
  have ho := X.1.2.2.2.1
  have hts := X.1.2.2.2.2
  have hl : lv_has ls 4 [(0, .ref t_o), (1, .int (x1))] := hl
  unfold f_X13_fallen at hf
  refine lv_iload_n hx hb dX13_fallen_0 rfl (lv_at hl 1 rfl) ?_
  refine lv_istore_n (lv' := [(2, .int (x1)), (0, .ref t_o), (1, .int (x1))]) hx hb dX13_fallen_1 rfl hl (by decide) rfl (fun ls hl => ?_)
  refine lv_iconst (v := (0 : Int32)) hx hb dX13_fallen_2 (by decide) ?_
  refine lv_istore_n (lv' := [(3, .int ((0 : Int32))), (2, .int (x1)), (0, .ref t_o), (1, .int (x1))]) hx hb dX13_fallen_3 rfl hl (by decide) rfl (fun ls hl => ?_)
  exact kb_X13_fallen_4 X 1100 hf hw (lv_sub hl [2, 1, 0] rfl)
/-! private boolean areDecrees(int); -/
def f_X13_areDecrees (t_city : (Nat → Int32)) (x1 : Int32) : Option (Int32) := if x1 < (0 : Int32) then some ((0 : Int32))
  else gd ((2 : Int32)) 10 (if ((1 : Int32) <<< ((t_city ((2 : Int32)).toNatClampNeg) &&& (31 : Int32))) ≤ x1 then some ((0 : Int32))
  else some ((1 : Int32)))
abbrev rm_X13_areDecrees : Room := { frames := 0, cells := 0, slots := 0, locals := 0 }
theorem hd_X13_areDecrees : yX13_areDecrees.cls = RX13 ∧ yX13_areDecrees.cls ≠ "java/lang/invoke/MethodHandle" ∧ yX13_areDecrees.cls ≠ "java/lang/invoke/VarHandle" ∧ (parseMethodDescriptor yX13_areDecrees.desc).map (fun d => d.parameters.length) = some 1 := by decide +kernel
set_option maxRecDepth 100000 in
set_option maxHeartbeats 4000000 in
theorem c_X13_areDecrees {E : En} {l : Launch} {t_o : Nat} {t_q : Nat → Nat} {t_thrown : Int32} {t_taped : Int32} {t_tape : (Nat → Int32)} {t_size : Int32} {t_place : Int32} {t_begin : Int32} {t_token : Int32} {t_word : Int64} {t_told : Int32} {t_wrong : Int32} {t_city : (Nat → Int32)} {t_manName : (Nat → Int64)} {t_dangerName : (Nat → Int64)} {t_decreeName : (Nat → Int64)} {t_kind : (Nat → Int32)} {t_skill : (Nat → Int32)} {t_fieldTold : (Nat → Int32)} {t_want : (Nat → Int32)} {t_hates : (Nat → Int32)} {t_restsOn : (Nat → Int32)} {t_sizeTold : (Nat → Int32)} {t_grows : (Nat → Int32)} {t_lineFrom : (Nat → Int32)} {t_lineTo : (Nat → Int32)} {t_codes : (Nat → Int32)} {t_code : Int32} {t_lawLine : Int32} {t_toldLines : Int32} {t_opened : (Nat → Int32)} {t_compared : (Nat → Int32)} {t_kept : (Nat → Int32)} {t_keptBy : (Nat → Int32)} {t_ahead : (Nat → Int32)} {t_against : (Nat → Int32)} {t_sum : (Nat → Int32)} {t_sumBy : (Nat → Int32)} {t_term : (Nat → Int32)} {t_termBy : (Nat → Int32)} {t_byNot : (Nat → Int32)} {t_valueOf : (Nat → Int32)} {t_given : Int32} {t_fresh : Int64} {t_consulsMany : Int32} {t_lines : (Nat → Int32)} {t_lineWhat : (Nat → Int32)} {t_lineA : (Nat → Int32)} {t_lineB : (Nat → Int32)} {t_tolds : (Nat → Int32)} {t_toldDanger : (Nat → Int32)} {t_toldMonths : (Nat → Int32)} {t_toldSize : (Nat → Int32)} {t_s : (Nat → Int32)} {t_aside : (Nat → Int32)} {t_tried : (Nat → Int32)} {t_marked : (Nat → Int32)} {t_undone : (Nat → Int32)} {t_isLaid : (Nat → Int32)} {t_done : Int32} {t_heading : (Nat → Int32)} {t_bestHeading : (Nat → Int32)} {t_leastLeft : Int32} {t_goesTo : (Nat → Int32)} {t_bestGoes : (Nat → Int32)} {t_leastMonths : Int32} {t_g : Int64} {x1 : Int32} {out : Int32} (hf : f_X13_areDecrees t_city x1 = some out) : Cn E l yX13_areDecrees cX13_areDecrees 2 (some .boolean) rm_X13_areDecrees [.ref t_o, .int (x1)] (wX13 E t_o t_q t_thrown t_taped t_tape t_size t_place t_begin t_token t_word t_told t_wrong t_city t_manName t_dangerName t_decreeName t_kind t_skill t_fieldTold t_want t_hates t_restsOn t_sizeTold t_grows t_lineFrom t_lineTo t_codes t_code t_lawLine t_toldLines t_opened t_compared t_kept t_keptBy t_ahead t_against t_sum t_sumBy t_term t_termBy t_byNot t_valueOf t_given t_fresh t_consulsMany t_lines t_lineWhat t_lineA t_lineB t_tolds t_toldDanger t_toldMonths t_toldSize t_s t_aside t_tried t_marked t_undone t_isLaid t_done t_heading t_bestHeading t_leastLeft t_goesTo t_bestGoes t_leastMonths t_g) (some (.int out)) (wX13 E t_o t_q t_thrown t_taped t_tape t_size t_place t_begin t_token t_word t_told t_wrong t_city t_manName t_dangerName t_decreeName t_kind t_skill t_fieldTold t_want t_hates t_restsOn t_sizeTold t_grows t_lineFrom t_lineTo t_codes t_code t_lawLine t_toldLines t_opened t_compared t_kept t_keptBy t_ahead t_against t_sum t_sumBy t_term t_termBy t_byNot t_valueOf t_given t_fresh t_consulsMany t_lines t_lineWhat t_lineA t_lineB t_tolds t_toldDanger t_toldMonths t_toldSize t_s t_aside t_tried t_marked t_undone t_isLaid t_done t_heading t_bestHeading t_leastLeft t_goesTo t_bestGoes t_leastMonths t_g) := by
  refine Cn.of (by decide) (Nat.le_of_ble_eq_true rfl) rfl ?_
  intro p e s m below meth c A ls args H locs X hw hl
  have hx := X.1.1
  have hb := X.1.2.1
  have ho := X.1.2.2.2.1
  have hts := X.1.2.2.2.2
  have hl : lv_has ls 2 [(0, .ref t_o), (1, .int (x1))] := hl
  unfold f_X13_areDecrees at hf
  refine lv_iload_n hx hb dX13_areDecrees_0 rfl (lv_at hl 1 rfl) ?_
  refine lv_if_lt (tgt := 20) hx hb dX13_areDecrees_1 (by decide) (fun c_1 => ?_) (fun c_1 => ?_)
  · have hf := (if_pos c_1).symm.trans hf
    refine lv_iconst (v := (0 : Int32)) hx hb dX13_areDecrees_20 (by decide) ?_
    obtain rfl := Option.some.inj hf
    exact k_zret X (Or.inl rfl) hw dX13_areDecrees_21
  · have hf := (if_neg c_1).symm.trans hf
    refine lv_iload_n hx hb dX13_areDecrees_4 rfl (lv_at hl 1 rfl) ?_
    refine lv_iconst (v := (1 : Int32)) hx hb dX13_areDecrees_5 (by decide) ?_
    refine lv_aload_n hx hb dX13_areDecrees_6 rfl (lv_at hl 0 rfl) ?_
    refine k_get (q0 := 0) (ci := 11) (C := RX13) (T := TX13) (N := 65) (x := .ref (t_q 10)) X inx_13 hw rfl rfl 10 (by decide) rfl tw_1383 rfl dX13_areDecrees_7 ?_
    refine lv_iconst (v := (2 : Int32)) hx hb dX13_areDecrees_10 (by decide) ?_
    obtain ⟨hi_11, hf⟩ := gd_some hf
    refine k_iald (q0 := 2) (n := 10) (f := t_city) X hw rfl hi_11 dX13_areDecrees_11 ?_
    refine lv_ishl hx hb dX13_areDecrees_12 ?_
    refine lv_icmp_ge (tgt := 20) hx hb dX13_areDecrees_13 (by decide) (fun c_13 => ?_) (fun c_13 => ?_)
    · have hf := (if_pos c_13).symm.trans hf
      refine lv_iconst (v := (0 : Int32)) hx hb dX13_areDecrees_20 (by decide) ?_
      obtain rfl := Option.some.inj hf
      exact k_zret X (Or.inl rfl) hw dX13_areDecrees_21
    · have hf := (if_neg c_13).symm.trans hf
      refine lv_iconst (v := (1 : Int32)) hx hb dX13_areDecrees_16 (by decide) ?_
      refine lv_goto (tgt := 21) hx hb dX13_areDecrees_17 (by decide) ?_
      obtain rfl := Option.some.inj hf
      exact k_zret X (Or.inr rfl) hw dX13_areDecrees_21
/-! public int falls(int); -/
def f_X13_falls (t_city : (Nat → Int32)) (t_restsOn : (Nat → Int32)) (x1 : Int32) : Option (Int32 × Int32) := (f_X13_areDecrees t_city (x1)).bind fun r7 => if r7 = (0 : Int32) then some ((-1 : Int32), (0 : Int32))
  else (f_X13_fallen t_city t_restsOn (x1)).bind fun r15 => some (r15, (0 : Int32))
abbrev rm_X13_falls : Room := { frames := 1, cells := 0, slots := 0, locals := 23 }
theorem hd_X13_falls : yX13_falls.cls = RX13 ∧ yX13_falls.cls ≠ "java/lang/invoke/MethodHandle" ∧ yX13_falls.cls ≠ "java/lang/invoke/VarHandle" ∧ (parseMethodDescriptor yX13_falls.desc).map (fun d => d.parameters.length) = some 1 := by decide +kernel
set_option maxRecDepth 100000 in
set_option maxHeartbeats 4000000 in
theorem c_X13_falls {E : En} {l : Launch} {t_o : Nat} {t_q : Nat → Nat} {t_thrown : Int32} {t_taped : Int32} {t_tape : (Nat → Int32)} {t_size : Int32} {t_place : Int32} {t_begin : Int32} {t_token : Int32} {t_word : Int64} {t_told : Int32} {t_wrong : Int32} {t_city : (Nat → Int32)} {t_manName : (Nat → Int64)} {t_dangerName : (Nat → Int64)} {t_decreeName : (Nat → Int64)} {t_kind : (Nat → Int32)} {t_skill : (Nat → Int32)} {t_fieldTold : (Nat → Int32)} {t_want : (Nat → Int32)} {t_hates : (Nat → Int32)} {t_restsOn : (Nat → Int32)} {t_sizeTold : (Nat → Int32)} {t_grows : (Nat → Int32)} {t_lineFrom : (Nat → Int32)} {t_lineTo : (Nat → Int32)} {t_codes : (Nat → Int32)} {t_code : Int32} {t_lawLine : Int32} {t_toldLines : Int32} {t_opened : (Nat → Int32)} {t_compared : (Nat → Int32)} {t_kept : (Nat → Int32)} {t_keptBy : (Nat → Int32)} {t_ahead : (Nat → Int32)} {t_against : (Nat → Int32)} {t_sum : (Nat → Int32)} {t_sumBy : (Nat → Int32)} {t_term : (Nat → Int32)} {t_termBy : (Nat → Int32)} {t_byNot : (Nat → Int32)} {t_valueOf : (Nat → Int32)} {t_given : Int32} {t_fresh : Int64} {t_consulsMany : Int32} {t_lines : (Nat → Int32)} {t_lineWhat : (Nat → Int32)} {t_lineA : (Nat → Int32)} {t_lineB : (Nat → Int32)} {t_tolds : (Nat → Int32)} {t_toldDanger : (Nat → Int32)} {t_toldMonths : (Nat → Int32)} {t_toldSize : (Nat → Int32)} {t_s : (Nat → Int32)} {t_aside : (Nat → Int32)} {t_tried : (Nat → Int32)} {t_marked : (Nat → Int32)} {t_undone : (Nat → Int32)} {t_isLaid : (Nat → Int32)} {t_done : Int32} {t_heading : (Nat → Int32)} {t_bestHeading : (Nat → Int32)} {t_leastLeft : Int32} {t_goesTo : (Nat → Int32)} {t_bestGoes : (Nat → Int32)} {t_leastMonths : Int32} {t_g : Int64} {x1 : Int32} {out : Int32 × Int32} (hf : f_X13_falls t_city t_restsOn x1 = some out) : Cn E l yX13_falls cX13_falls 2 (some .int) rm_X13_falls [.ref t_o, .int (x1)] (wX13 E t_o t_q t_thrown t_taped t_tape t_size t_place t_begin t_token t_word t_told t_wrong t_city t_manName t_dangerName t_decreeName t_kind t_skill t_fieldTold t_want t_hates t_restsOn t_sizeTold t_grows t_lineFrom t_lineTo t_codes t_code t_lawLine t_toldLines t_opened t_compared t_kept t_keptBy t_ahead t_against t_sum t_sumBy t_term t_termBy t_byNot t_valueOf t_given t_fresh t_consulsMany t_lines t_lineWhat t_lineA t_lineB t_tolds t_toldDanger t_toldMonths t_toldSize t_s t_aside t_tried t_marked t_undone t_isLaid t_done t_heading t_bestHeading t_leastLeft t_goesTo t_bestGoes t_leastMonths t_g) (some (.int out.1)) (wX13 E t_o t_q out.2 t_taped t_tape t_size t_place t_begin t_token t_word t_told t_wrong t_city t_manName t_dangerName t_decreeName t_kind t_skill t_fieldTold t_want t_hates t_restsOn t_sizeTold t_grows t_lineFrom t_lineTo t_codes t_code t_lawLine t_toldLines t_opened t_compared t_kept t_keptBy t_ahead t_against t_sum t_sumBy t_term t_termBy t_byNot t_valueOf t_given t_fresh t_consulsMany t_lines t_lineWhat t_lineA t_lineB t_tolds t_toldDanger t_toldMonths t_toldSize t_s t_aside t_tried t_marked t_undone t_isLaid t_done t_heading t_bestHeading t_leastLeft t_goesTo t_bestGoes t_leastMonths t_g) := by
  refine Cn.of (by decide) (Nat.le_of_ble_eq_true rfl) rfl ?_
  intro p e s m below meth c A ls args H locs X hw hl
  have hx := X.1.1
  have hb := X.1.2.1
  have ho := X.1.2.2.2.1
  have hts := X.1.2.2.2.2
  have hl : lv_has ls 2 [(0, .ref t_o), (1, .int (x1))] := hl
  unfold f_X13_falls at hf
  refine lv_aload_n hx hb dX13_falls_0 rfl (lv_at hl 0 rfl) ?_
  refine lv_iconst (v := (0 : Int32)) hx hb dX13_falls_1 (by decide) ?_
  refine k_put (q0 := 0) (ci := 11) (C := RX13) (T := TX13) (N := 65) (ty0 := tyX13) (x := .int ((0 : Int32))) X inx_13 tyX13_ok nmX13 hw rfl rfl 0 (by decide) rfl rfl tw_1373 rfl rfl (Nat.le_of_ble_eq_true rfl) dX13_falls_2 (fun H locs hw => ?_)
  have hw : Wd E A s.heap (wX13 E t_o t_q ((0 : Int32)) t_taped t_tape t_size t_place t_begin t_token t_word t_told t_wrong t_city t_manName t_dangerName t_decreeName t_kind t_skill t_fieldTold t_want t_hates t_restsOn t_sizeTold t_grows t_lineFrom t_lineTo t_codes t_code t_lawLine t_toldLines t_opened t_compared t_kept t_keptBy t_ahead t_against t_sum t_sumBy t_term t_termBy t_byNot t_valueOf t_given t_fresh t_consulsMany t_lines t_lineWhat t_lineA t_lineB t_tolds t_toldDanger t_toldMonths t_toldSize t_s t_aside t_tried t_marked t_undone t_isLaid t_done t_heading t_bestHeading t_leastLeft t_goesTo t_bestGoes t_leastMonths t_g) H locs := hw
  refine lv_aload_n hx hb dX13_falls_5 rfl (lv_at hl 0 rfl) ?_
  refine lv_iload_n hx hb dX13_falls_6 rfl (lv_at hl 1 rfl) ?_
  obtain ⟨r7, hc_7, hf⟩ := bd_some hf
  refine k_V (As := [.int (x1)]) (rest := []) (index := 516) (C := RX13) X (c_X13_areDecrees hc_7) tw_1967 tw_1969 tw_109 tw_130 tw_1970 ⟨rfl, rfl⟩ hd_X13_areDecrees ⟨Nat.le_of_ble_eq_true rfl, Nat.le_of_ble_eq_true rfl⟩ ⟨Nat.zero_le _, Nat.zero_le _⟩ hw [0, 1, 2, 3, 4, 5, 6, 7, 8, 9, 10, 11, 12, 13, 14, 15, 16, 17, 18, 19, 20, 21, 22, 23, 24, 25, 26, 27, 28, 29, 30, 31, 32, 33, 34, 35, 36, 37, 38, 39, 40, 41, 42, 43, 44, 45, 46] rfl rfl 0 rfl rfl rfl rfl hl.1 rfl (Nat.le_of_ble_eq_true rfl) dX13_falls_7 (fun H locs hw => ?_)
  have hw : Wd E A s.heap (wX13 E t_o t_q ((0 : Int32)) t_taped t_tape t_size t_place t_begin t_token t_word t_told t_wrong t_city t_manName t_dangerName t_decreeName t_kind t_skill t_fieldTold t_want t_hates t_restsOn t_sizeTold t_grows t_lineFrom t_lineTo t_codes t_code t_lawLine t_toldLines t_opened t_compared t_kept t_keptBy t_ahead t_against t_sum t_sumBy t_term t_termBy t_byNot t_valueOf t_given t_fresh t_consulsMany t_lines t_lineWhat t_lineA t_lineB t_tolds t_toldDanger t_toldMonths t_toldSize t_s t_aside t_tried t_marked t_undone t_isLaid t_done t_heading t_bestHeading t_leastLeft t_goesTo t_bestGoes t_leastMonths t_g) H locs := hw
  refine lv_if_eq (tgt := 21) hx hb dX13_falls_10 (by decide) (fun c_10 => ?_) (fun c_10 => ?_)
  · have hf := (if_pos c_10).symm.trans hf
    refine lv_iconst (v := (-1 : Int32)) hx hb dX13_falls_21 (by decide) ?_
    obtain rfl := Option.some.inj hf
    exact k_iret X hw dX13_falls_22
  · have hf := (if_neg c_10).symm.trans hf
    refine lv_aload_n hx hb dX13_falls_13 rfl (lv_at hl 0 rfl) ?_
    refine lv_iload_n hx hb dX13_falls_14 rfl (lv_at hl 1 rfl) ?_
    obtain ⟨r15, hc_15, hf⟩ := bd_some hf
    refine k_V (As := [.int (x1)]) (rest := []) (index := 519) (C := RX13) X (c_X13_fallen hc_15) tw_1971 tw_1973 tw_110 tw_130 tw_1974 ⟨rfl, rfl⟩ hd_X13_fallen ⟨Nat.le_of_ble_eq_true rfl, Nat.le_of_ble_eq_true rfl⟩ ⟨Nat.zero_le _, Nat.zero_le _⟩ hw [0, 1, 2, 3, 4, 5, 6, 7, 8, 9, 10, 11, 12, 13, 14, 15, 16, 17, 18, 19, 20, 21, 22, 23, 24, 25, 26, 27, 28, 29, 30, 31, 32, 33, 34, 35, 36, 37, 38, 39, 40, 41, 42, 43, 44, 45, 46] rfl rfl 0 rfl rfl rfl rfl hl.1 rfl (Nat.le_of_ble_eq_true rfl) dX13_falls_15 (fun H locs hw => ?_)
    have hw : Wd E A s.heap (wX13 E t_o t_q ((0 : Int32)) t_taped t_tape t_size t_place t_begin t_token t_word t_told t_wrong t_city t_manName t_dangerName t_decreeName t_kind t_skill t_fieldTold t_want t_hates t_restsOn t_sizeTold t_grows t_lineFrom t_lineTo t_codes t_code t_lawLine t_toldLines t_opened t_compared t_kept t_keptBy t_ahead t_against t_sum t_sumBy t_term t_termBy t_byNot t_valueOf t_given t_fresh t_consulsMany t_lines t_lineWhat t_lineA t_lineB t_tolds t_toldDanger t_toldMonths t_toldSize t_s t_aside t_tried t_marked t_undone t_isLaid t_done t_heading t_bestHeading t_leastLeft t_goesTo t_bestGoes t_leastMonths t_g) H locs := hw
    refine lv_goto (tgt := 22) hx hb dX13_falls_18 (by decide) ?_
    obtain rfl := Option.some.inj hf
    exact k_iret X hw dX13_falls_22
/-! public int anew(int, int); -/
def f_X13_anew_38 : Nat → Int32 → (Nat → Int32) → (Nat → Int32) → Int32 → Int32 → Int32 → Option (Int32 × Int32)
  | 0, _, _, _, _, _, _ => none
  | n + 1, t_thrown, t_city, t_restsOn, x1, x3, x4 => if x4 < (0 : Int32) then (f_X13_fallen t_city t_restsOn (x1)).bind fun r76 => some ((x3 &&& r76), t_thrown)
    else if ((x3 >>> (x4 &&& (31 : Int32))) &&& (1 : Int32)) = (1 : Int32) then gd (x4) 12 (f_X13_anew_38 n t_thrown t_city t_restsOn x1 ((x3 ||| (t_restsOn (x4).toNatClampNeg))) ((x4 + (-1 : Int32))))
    else f_X13_anew_38 n t_thrown t_city t_restsOn x1 ((x3 ||| (0 : Int32))) ((x4 + (-1 : Int32)))
def f_X13_anew (t_city : (Nat → Int32)) (t_restsOn : (Nat → Int32)) (x1 : Int32) (x2 : Int32) : Option (Int32 × Int32) := (f_X13_areDecrees t_city (x1)).bind fun r7 => if r7 = (0 : Int32) then some ((-1 : Int32), (0 : Int32))
  else gd ((2 : Int32)) 10 (if (f_X13_within (x2) ((0 : Int32)) (((t_city ((2 : Int32)).toNatClampNeg) - (1 : Int32)))) = (0 : Int32) then some ((-1 : Int32), (0 : Int32))
  else f_X13_anew_38 1100 ((0 : Int32)) t_city t_restsOn x1 (((1 : Int32) <<< (x2 &&& (31 : Int32)))) x2)
abbrev rm_X13_anew : Room := { frames := 1, cells := 0, slots := 0, locals := 23 }
theorem hd_X13_anew : yX13_anew.cls = RX13 ∧ yX13_anew.cls ≠ "java/lang/invoke/MethodHandle" ∧ yX13_anew.cls ≠ "java/lang/invoke/VarHandle" ∧ (parseMethodDescriptor yX13_anew.desc).map (fun d => d.parameters.length) = some 2 := by decide +kernel
set_option maxRecDepth 100000 in
set_option maxHeartbeats 4000000 in
theorem kb_X13_anew_38 {E : En} {p : Program} {l : Launch} {e : Env} {s : State} {m : MethodId} {args : Array Value} {below : List Frame} {meth : Method} {c : Code} {A : Nat → Prop} {t_o : Nat} {t_q : Nat → Nat} {t_taped : Int32} {t_tape : (Nat → Int32)} {t_size : Int32} {t_place : Int32} {t_begin : Int32} {t_token : Int32} {t_word : Int64} {t_told : Int32} {t_wrong : Int32} {t_city : (Nat → Int32)} {t_manName : (Nat → Int64)} {t_dangerName : (Nat → Int64)} {t_decreeName : (Nat → Int64)} {t_kind : (Nat → Int32)} {t_skill : (Nat → Int32)} {t_fieldTold : (Nat → Int32)} {t_want : (Nat → Int32)} {t_hates : (Nat → Int32)} {t_restsOn : (Nat → Int32)} {t_sizeTold : (Nat → Int32)} {t_grows : (Nat → Int32)} {t_lineFrom : (Nat → Int32)} {t_lineTo : (Nat → Int32)} {t_codes : (Nat → Int32)} {t_code : Int32} {t_lawLine : Int32} {t_toldLines : Int32} {t_opened : (Nat → Int32)} {t_compared : (Nat → Int32)} {t_kept : (Nat → Int32)} {t_keptBy : (Nat → Int32)} {t_ahead : (Nat → Int32)} {t_against : (Nat → Int32)} {t_sum : (Nat → Int32)} {t_sumBy : (Nat → Int32)} {t_term : (Nat → Int32)} {t_termBy : (Nat → Int32)} {t_byNot : (Nat → Int32)} {t_valueOf : (Nat → Int32)} {t_given : Int32} {t_fresh : Int64} {t_consulsMany : Int32} {t_lines : (Nat → Int32)} {t_lineWhat : (Nat → Int32)} {t_lineA : (Nat → Int32)} {t_lineB : (Nat → Int32)} {t_tolds : (Nat → Int32)} {t_toldDanger : (Nat → Int32)} {t_toldMonths : (Nat → Int32)} {t_toldSize : (Nat → Int32)} {t_s : (Nat → Int32)} {t_aside : (Nat → Int32)} {t_tried : (Nat → Int32)} {t_marked : (Nat → Int32)} {t_undone : (Nat → Int32)} {t_isLaid : (Nat → Int32)} {t_done : Int32} {t_heading : (Nat → Int32)} {t_bestHeading : (Nat → Int32)} {t_leastLeft : Int32} {t_goesTo : (Nat → Int32)} {t_bestGoes : (Nat → Int32)} {t_leastMonths : Int32} {t_g : Int64} {out : Int32 × Int32} (X : Bx E A p s m args meth c cX13_anew 5 RX13 (some .int)) : ∀ (n : Nat) {t_thrown : Int32} {x1 : Int32} {x3 : Int32} {x4 : Int32} {H : Heap} {locs : List Loc} {ls : Array Slot}, f_X13_anew_38 n t_thrown t_city t_restsOn x1 x3 x4 = some out → Wd E A s.heap (wX13 E t_o t_q t_thrown t_taped t_tape t_size t_place t_begin t_token t_word t_told t_wrong t_city t_manName t_dangerName t_decreeName t_kind t_skill t_fieldTold t_want t_hates t_restsOn t_sizeTold t_grows t_lineFrom t_lineTo t_codes t_code t_lawLine t_toldLines t_opened t_compared t_kept t_keptBy t_ahead t_against t_sum t_sumBy t_term t_termBy t_byNot t_valueOf t_given t_fresh t_consulsMany t_lines t_lineWhat t_lineA t_lineB t_tolds t_toldDanger t_toldMonths t_toldSize t_s t_aside t_tried t_marked t_undone t_isLaid t_done t_heading t_bestHeading t_leastLeft t_goesTo t_bestGoes t_leastMonths t_g) H locs → lv_has ls 5 [(0, .ref t_o), (1, .int (x1)), (3, .int (x3)), (4, .int (x4))] → W p l e rm_X13_anew s m args below meth c H locs 0 0 (Zn E below args s A (some (.int out.1)) (wX13 E t_o t_q out.2 t_taped t_tape t_size t_place t_begin t_token t_word t_told t_wrong t_city t_manName t_dangerName t_decreeName t_kind t_skill t_fieldTold t_want t_hates t_restsOn t_sizeTold t_grows t_lineFrom t_lineTo t_codes t_code t_lawLine t_toldLines t_opened t_compared t_kept t_keptBy t_ahead t_against t_sum t_sumBy t_term t_termBy t_byNot t_valueOf t_given t_fresh t_consulsMany t_lines t_lineWhat t_lineA t_lineB t_tolds t_toldDanger t_toldMonths t_toldSize t_s t_aside t_tried t_marked t_undone t_isLaid t_done t_heading t_bestHeading t_leastLeft t_goesTo t_bestGoes t_leastMonths t_g)) (F0 m 38 ls []) := by
  have hx := X.1.1
  have hb := X.1.2.1
  have ho := X.1.2.2.2.1
  have hts := X.1.2.2.2.2
  intro n
  induction n with
  | zero =>
    intro t_thrown x1 x3 x4 H locs ls hf
    have hf : (none : Option (Int32 × Int32)) = some out := hf
    cases hf
  | succ n ih =>
    intro t_thrown x1 x3 x4 H locs ls hf hw hl
    rw [f_X13_anew_38.eq_2] at hf
    refine lv_iload hx hb dX13_anew_38 (lv_at hl 3 rfl) ?_
    refine lv_if_lt (tgt := 73) hx hb dX13_anew_40 (by decide) (fun c_40 => ?_) (fun c_40 => ?_)
    · have hf := (if_pos c_40).symm.trans hf
      refine lv_iload_n hx hb dX13_anew_73 rfl (lv_at hl 2 rfl) ?_
      refine lv_aload_n hx hb dX13_anew_74 rfl (lv_at hl 0 rfl) ?_
      refine lv_iload_n hx hb dX13_anew_75 rfl (lv_at hl 1 rfl) ?_
      obtain ⟨r76, hc_76, hf⟩ := bd_some hf
      refine k_V (As := [.int (x1)]) (rest := [.int (x3)]) (index := 519) (C := RX13) X (c_X13_fallen hc_76) tw_1971 tw_1973 tw_110 tw_130 tw_1974 ⟨rfl, rfl⟩ hd_X13_fallen ⟨Nat.le_of_ble_eq_true rfl, Nat.le_of_ble_eq_true rfl⟩ ⟨Nat.zero_le _, Nat.zero_le _⟩ hw [0, 1, 2, 3, 4, 5, 6, 7, 8, 9, 10, 11, 12, 13, 14, 15, 16, 17, 18, 19, 20, 21, 22, 23, 24, 25, 26, 27, 28, 29, 30, 31, 32, 33, 34, 35, 36, 37, 38, 39, 40, 41, 42, 43, 44, 45, 46] rfl rfl 0 rfl rfl rfl rfl hl.1 rfl (Nat.le_of_ble_eq_true rfl) dX13_anew_76 (fun H locs hw => ?_)
      have hw : Wd E A s.heap (wX13 E t_o t_q t_thrown t_taped t_tape t_size t_place t_begin t_token t_word t_told t_wrong t_city t_manName t_dangerName t_decreeName t_kind t_skill t_fieldTold t_want t_hates t_restsOn t_sizeTold t_grows t_lineFrom t_lineTo t_codes t_code t_lawLine t_toldLines t_opened t_compared t_kept t_keptBy t_ahead t_against t_sum t_sumBy t_term t_termBy t_byNot t_valueOf t_given t_fresh t_consulsMany t_lines t_lineWhat t_lineA t_lineB t_tolds t_toldDanger t_toldMonths t_toldSize t_s t_aside t_tried t_marked t_undone t_isLaid t_done t_heading t_bestHeading t_leastLeft t_goesTo t_bestGoes t_leastMonths t_g) H locs := hw
      refine lv_iand hx hb dX13_anew_79 ?_
      obtain rfl := Option.some.inj hf
      exact k_iret X hw dX13_anew_80
    · have hf := (if_neg c_40).symm.trans hf
      refine lv_iload_n hx hb dX13_anew_43 rfl (lv_at hl 2 rfl) ?_
      refine lv_iload_n hx hb dX13_anew_44 rfl (lv_at hl 2 rfl) ?_
      refine lv_iload hx hb dX13_anew_45 (lv_at hl 3 rfl) ?_
      refine lv_ishr hx hb dX13_anew_47 ?_
      refine lv_iconst (v := (1 : Int32)) hx hb dX13_anew_48 (by decide) ?_
      refine lv_iand hx hb dX13_anew_49 ?_
      refine lv_iconst (v := (1 : Int32)) hx hb dX13_anew_50 (by decide) ?_
      refine lv_icmp_ne (tgt := 64) hx hb dX13_anew_51 (by decide) (fun c_51 => ?_) (fun c_51 => ?_)
      · have hf := (if_neg c_51).symm.trans hf
        refine lv_iconst (v := (0 : Int32)) hx hb dX13_anew_64 (by decide) ?_
        refine lv_ior hx hb dX13_anew_65 ?_
        refine lv_istore_n (lv' := [(3, .int ((x3 ||| (0 : Int32)))), (0, .ref t_o), (1, .int (x1)), (4, .int (x4))]) hx hb dX13_anew_66 rfl hl (by decide) rfl (fun ls hl => ?_)
        refine lv_iinc (v := (x4 + (-1 : Int32))) (lv' := [(4, .int ((x4 + (-1 : Int32)))), (3, .int ((x3 ||| (0 : Int32)))), (0, .ref t_o), (1, .int (x1))]) hx hb dX13_anew_67 hl (k := 3) rfl rfl (by decide) rfl (fun ls hl => ?_)
        refine lv_goto (tgt := 38) hx hb dX13_anew_70 (by decide) ?_
        exact ih hf hw (lv_sub hl [2, 3, 1, 0] rfl)
      · have hf := (if_pos c_51).symm.trans hf
        refine lv_aload_n hx hb dX13_anew_54 rfl (lv_at hl 0 rfl) ?_
        refine k_get (q0 := 0) (ci := 11) (C := RX13) (T := TX13) (N := 65) (x := .ref (t_q 19)) X inx_13 hw rfl rfl 19 (by decide) rfl tw_1392 rfl dX13_anew_55 ?_
        refine lv_iload hx hb dX13_anew_58 (lv_at hl 3 rfl) ?_
        obtain ⟨hi_60, hf⟩ := gd_some hf
        refine k_iald (q0 := 11) (n := 12) (f := t_restsOn) X hw rfl hi_60 dX13_anew_60 ?_
        refine lv_goto (tgt := 65) hx hb dX13_anew_61 (by decide) ?_
        refine lv_ior hx hb dX13_anew_65 ?_
        refine lv_istore_n (lv' := [(3, .int ((x3 ||| (t_restsOn (x4).toNatClampNeg)))), (0, .ref t_o), (1, .int (x1)), (4, .int (x4))]) hx hb dX13_anew_66 rfl hl (by decide) rfl (fun ls hl => ?_)
        refine lv_iinc (v := (x4 + (-1 : Int32))) (lv' := [(4, .int ((x4 + (-1 : Int32)))), (3, .int ((x3 ||| (t_restsOn (x4).toNatClampNeg)))), (0, .ref t_o), (1, .int (x1))]) hx hb dX13_anew_67 hl (k := 3) rfl rfl (by decide) rfl (fun ls hl => ?_)
        refine lv_goto (tgt := 38) hx hb dX13_anew_70 (by decide) ?_
        exact ih hf hw (lv_sub hl [2, 3, 1, 0] rfl)
set_option maxRecDepth 100000 in
set_option maxHeartbeats 4000000 in
theorem c_X13_anew {E : En} {l : Launch} {t_o : Nat} {t_q : Nat → Nat} {t_thrown : Int32} {t_taped : Int32} {t_tape : (Nat → Int32)} {t_size : Int32} {t_place : Int32} {t_begin : Int32} {t_token : Int32} {t_word : Int64} {t_told : Int32} {t_wrong : Int32} {t_city : (Nat → Int32)} {t_manName : (Nat → Int64)} {t_dangerName : (Nat → Int64)} {t_decreeName : (Nat → Int64)} {t_kind : (Nat → Int32)} {t_skill : (Nat → Int32)} {t_fieldTold : (Nat → Int32)} {t_want : (Nat → Int32)} {t_hates : (Nat → Int32)} {t_restsOn : (Nat → Int32)} {t_sizeTold : (Nat → Int32)} {t_grows : (Nat → Int32)} {t_lineFrom : (Nat → Int32)} {t_lineTo : (Nat → Int32)} {t_codes : (Nat → Int32)} {t_code : Int32} {t_lawLine : Int32} {t_toldLines : Int32} {t_opened : (Nat → Int32)} {t_compared : (Nat → Int32)} {t_kept : (Nat → Int32)} {t_keptBy : (Nat → Int32)} {t_ahead : (Nat → Int32)} {t_against : (Nat → Int32)} {t_sum : (Nat → Int32)} {t_sumBy : (Nat → Int32)} {t_term : (Nat → Int32)} {t_termBy : (Nat → Int32)} {t_byNot : (Nat → Int32)} {t_valueOf : (Nat → Int32)} {t_given : Int32} {t_fresh : Int64} {t_consulsMany : Int32} {t_lines : (Nat → Int32)} {t_lineWhat : (Nat → Int32)} {t_lineA : (Nat → Int32)} {t_lineB : (Nat → Int32)} {t_tolds : (Nat → Int32)} {t_toldDanger : (Nat → Int32)} {t_toldMonths : (Nat → Int32)} {t_toldSize : (Nat → Int32)} {t_s : (Nat → Int32)} {t_aside : (Nat → Int32)} {t_tried : (Nat → Int32)} {t_marked : (Nat → Int32)} {t_undone : (Nat → Int32)} {t_isLaid : (Nat → Int32)} {t_done : Int32} {t_heading : (Nat → Int32)} {t_bestHeading : (Nat → Int32)} {t_leastLeft : Int32} {t_goesTo : (Nat → Int32)} {t_bestGoes : (Nat → Int32)} {t_leastMonths : Int32} {t_g : Int64} {x1 : Int32} {x2 : Int32} {out : Int32 × Int32} (hf : f_X13_anew t_city t_restsOn x1 x2 = some out) : Cn E l yX13_anew cX13_anew 5 (some .int) rm_X13_anew [.ref t_o, .int (x1), .int (x2)] (wX13 E t_o t_q t_thrown t_taped t_tape t_size t_place t_begin t_token t_word t_told t_wrong t_city t_manName t_dangerName t_decreeName t_kind t_skill t_fieldTold t_want t_hates t_restsOn t_sizeTold t_grows t_lineFrom t_lineTo t_codes t_code t_lawLine t_toldLines t_opened t_compared t_kept t_keptBy t_ahead t_against t_sum t_sumBy t_term t_termBy t_byNot t_valueOf t_given t_fresh t_consulsMany t_lines t_lineWhat t_lineA t_lineB t_tolds t_toldDanger t_toldMonths t_toldSize t_s t_aside t_tried t_marked t_undone t_isLaid t_done t_heading t_bestHeading t_leastLeft t_goesTo t_bestGoes t_leastMonths t_g) (some (.int out.1)) (wX13 E t_o t_q out.2 t_taped t_tape t_size t_place t_begin t_token t_word t_told t_wrong t_city t_manName t_dangerName t_decreeName t_kind t_skill t_fieldTold t_want t_hates t_restsOn t_sizeTold t_grows t_lineFrom t_lineTo t_codes t_code t_lawLine t_toldLines t_opened t_compared t_kept t_keptBy t_ahead t_against t_sum t_sumBy t_term t_termBy t_byNot t_valueOf t_given t_fresh t_consulsMany t_lines t_lineWhat t_lineA t_lineB t_tolds t_toldDanger t_toldMonths t_toldSize t_s t_aside t_tried t_marked t_undone t_isLaid t_done t_heading t_bestHeading t_leastLeft t_goesTo t_bestGoes t_leastMonths t_g) := by
  refine Cn.of (by decide) (Nat.le_of_ble_eq_true rfl) rfl ?_
  intro p e s m below meth c A ls args H locs X hw hl
  have hx := X.1.1
  have hb := X.1.2.1
  have ho := X.1.2.2.2.1
  have hts := X.1.2.2.2.2
  have hl : lv_has ls 5 [(0, .ref t_o), (1, .int (x1)), (2, .int (x2))] := hl
  unfold f_X13_anew at hf
  refine lv_aload_n hx hb dX13_anew_0 rfl (lv_at hl 0 rfl) ?_
  refine lv_iconst (v := (0 : Int32)) hx hb dX13_anew_1 (by decide) ?_
  refine k_put (q0 := 0) (ci := 11) (C := RX13) (T := TX13) (N := 65) (ty0 := tyX13) (x := .int ((0 : Int32))) X inx_13 tyX13_ok nmX13 hw rfl rfl 0 (by decide) rfl rfl tw_1373 rfl rfl (Nat.le_of_ble_eq_true rfl) dX13_anew_2 (fun H locs hw => ?_)
  have hw : Wd E A s.heap (wX13 E t_o t_q ((0 : Int32)) t_taped t_tape t_size t_place t_begin t_token t_word t_told t_wrong t_city t_manName t_dangerName t_decreeName t_kind t_skill t_fieldTold t_want t_hates t_restsOn t_sizeTold t_grows t_lineFrom t_lineTo t_codes t_code t_lawLine t_toldLines t_opened t_compared t_kept t_keptBy t_ahead t_against t_sum t_sumBy t_term t_termBy t_byNot t_valueOf t_given t_fresh t_consulsMany t_lines t_lineWhat t_lineA t_lineB t_tolds t_toldDanger t_toldMonths t_toldSize t_s t_aside t_tried t_marked t_undone t_isLaid t_done t_heading t_bestHeading t_leastLeft t_goesTo t_bestGoes t_leastMonths t_g) H locs := hw
  refine lv_aload_n hx hb dX13_anew_5 rfl (lv_at hl 0 rfl) ?_
  refine lv_iload_n hx hb dX13_anew_6 rfl (lv_at hl 1 rfl) ?_
  obtain ⟨r7, hc_7, hf⟩ := bd_some hf
  refine k_V (As := [.int (x1)]) (rest := []) (index := 516) (C := RX13) X (c_X13_areDecrees hc_7) tw_1967 tw_1969 tw_109 tw_130 tw_1970 ⟨rfl, rfl⟩ hd_X13_areDecrees ⟨Nat.le_of_ble_eq_true rfl, Nat.le_of_ble_eq_true rfl⟩ ⟨Nat.zero_le _, Nat.zero_le _⟩ hw [0, 1, 2, 3, 4, 5, 6, 7, 8, 9, 10, 11, 12, 13, 14, 15, 16, 17, 18, 19, 20, 21, 22, 23, 24, 25, 26, 27, 28, 29, 30, 31, 32, 33, 34, 35, 36, 37, 38, 39, 40, 41, 42, 43, 44, 45, 46] rfl rfl 0 rfl rfl rfl rfl hl.1 rfl (Nat.le_of_ble_eq_true rfl) dX13_anew_7 (fun H locs hw => ?_)
  have hw : Wd E A s.heap (wX13 E t_o t_q ((0 : Int32)) t_taped t_tape t_size t_place t_begin t_token t_word t_told t_wrong t_city t_manName t_dangerName t_decreeName t_kind t_skill t_fieldTold t_want t_hates t_restsOn t_sizeTold t_grows t_lineFrom t_lineTo t_codes t_code t_lawLine t_toldLines t_opened t_compared t_kept t_keptBy t_ahead t_against t_sum t_sumBy t_term t_termBy t_byNot t_valueOf t_given t_fresh t_consulsMany t_lines t_lineWhat t_lineA t_lineB t_tolds t_toldDanger t_toldMonths t_toldSize t_s t_aside t_tried t_marked t_undone t_isLaid t_done t_heading t_bestHeading t_leastLeft t_goesTo t_bestGoes t_leastMonths t_g) H locs := hw
  refine lv_if_eq (tgt := 29) hx hb dX13_anew_10 (by decide) (fun c_10 => ?_) (fun c_10 => ?_)
  · have hf := (if_pos c_10).symm.trans hf
    refine lv_iconst (v := (-1 : Int32)) hx hb dX13_anew_29 (by decide) ?_
    obtain rfl := Option.some.inj hf
    exact k_iret X hw dX13_anew_30
  · have hf := (if_neg c_10).symm.trans hf
    refine lv_iload_n hx hb dX13_anew_13 rfl (lv_at hl 2 rfl) ?_
    refine lv_iconst (v := (0 : Int32)) hx hb dX13_anew_14 (by decide) ?_
    refine lv_aload_n hx hb dX13_anew_15 rfl (lv_at hl 0 rfl) ?_
    refine k_get (q0 := 0) (ci := 11) (C := RX13) (T := TX13) (N := 65) (x := .ref (t_q 10)) X inx_13 hw rfl rfl 10 (by decide) rfl tw_1383 rfl dX13_anew_16 ?_
    refine lv_iconst (v := (2 : Int32)) hx hb dX13_anew_19 (by decide) ?_
    obtain ⟨hi_20, hf⟩ := gd_some hf
    refine k_iald (q0 := 2) (n := 10) (f := t_city) X hw rfl hi_20 dX13_anew_20 ?_
    refine lv_iconst (v := (1 : Int32)) hx hb dX13_anew_21 (by decide) ?_
    refine lv_isub hx hb dX13_anew_22 ?_
    refine k_S (As := [.int (x2), .int ((0 : Int32)), .int (((t_city ((2 : Int32)).toNatClampNeg) - (1 : Int32)))]) (rest := []) (index := 297) X (c_X13_within (out := (f_X13_within (x2) ((0 : Int32)) (((t_city ((2 : Int32)).toNatClampNeg) - (1 : Int32))))) rfl) tw_1670 tw_1671 tw_130 tw_1672 ⟨rfl, rfl⟩ hd_X13_within ⟨Nat.le_of_ble_eq_true rfl, Nat.le_of_ble_eq_true rfl⟩ ⟨Nat.zero_le _, Nat.zero_le _⟩ hw [] rfl rfl rfl hl.1 rfl (Nat.le_of_ble_eq_true rfl) dX13_anew_23 (fun H locs hw => ?_)
    have hw : Wd E A s.heap (wX13 E t_o t_q ((0 : Int32)) t_taped t_tape t_size t_place t_begin t_token t_word t_told t_wrong t_city t_manName t_dangerName t_decreeName t_kind t_skill t_fieldTold t_want t_hates t_restsOn t_sizeTold t_grows t_lineFrom t_lineTo t_codes t_code t_lawLine t_toldLines t_opened t_compared t_kept t_keptBy t_ahead t_against t_sum t_sumBy t_term t_termBy t_byNot t_valueOf t_given t_fresh t_consulsMany t_lines t_lineWhat t_lineA t_lineB t_tolds t_toldDanger t_toldMonths t_toldSize t_s t_aside t_tried t_marked t_undone t_isLaid t_done t_heading t_bestHeading t_leastLeft t_goesTo t_bestGoes t_leastMonths t_g) H locs := hw
    refine lv_if_ne (tgt := 31) hx hb dX13_anew_26 (by decide) (fun c_26 => ?_) (fun c_26 => ?_)
    · have hf := (if_neg c_26).symm.trans hf
      refine lv_iconst (v := (1 : Int32)) hx hb dX13_anew_31 (by decide) ?_
      refine lv_iload_n hx hb dX13_anew_32 rfl (lv_at hl 2 rfl) ?_
      refine lv_ishl hx hb dX13_anew_33 ?_
      refine lv_istore_n (lv' := [(3, .int (((1 : Int32) <<< (x2 &&& (31 : Int32))))), (0, .ref t_o), (1, .int (x1)), (2, .int (x2))]) hx hb dX13_anew_34 rfl hl (by decide) rfl (fun ls hl => ?_)
      refine lv_iload_n hx hb dX13_anew_35 rfl (lv_at hl 3 rfl) ?_
      refine lv_istore (lv' := [(4, .int (x2)), (3, .int (((1 : Int32) <<< (x2 &&& (31 : Int32))))), (0, .ref t_o), (1, .int (x1)), (2, .int (x2))]) hx hb dX13_anew_36 hl (by decide) rfl (fun ls hl => ?_)
      exact kb_X13_anew_38 X 1100 hf hw (lv_sub hl [2, 3, 1, 0] rfl)
    · have hf := (if_pos c_26).symm.trans hf
      refine lv_iconst (v := (-1 : Int32)) hx hb dX13_anew_29 (by decide) ?_
      obtain rfl := Option.some.inj hf
      exact k_iret X hw dX13_anew_30
/-! public boolean tell(int, int, int); -/
def f_X13_tell (t_city : (Nat → Int32)) (t_tolds : (Nat → Int32)) (t_toldDanger : (Nat → Int32)) (t_toldMonths : (Nat → Int32)) (t_toldSize : (Nat → Int32)) (x1 : Int32) (x2 : Int32) (x3 : Int32) : Option (Int32 × Int32 × (Nat → Int32) × (Nat → Int32) × (Nat → Int32) × (Nat → Int32)) := (f_X13_isDanger t_city (x1)).bind fun r7 => if r7 = (0 : Int32) then some ((0 : Int32), (0 : Int32), t_tolds, t_toldDanger, t_toldMonths, t_toldSize)
  else if (f_X13_within (x2) ((0 : Int32)) ((12 : Int32))) = (0 : Int32) then some ((0 : Int32), (0 : Int32), t_tolds, t_toldDanger, t_toldMonths, t_toldSize)
  else if (f_X13_within (x3) ((0 : Int32)) ((99 : Int32))) = (0 : Int32) then some ((0 : Int32), (0 : Int32), t_tolds, t_toldDanger, t_toldMonths, t_toldSize)
  else gd ((0 : Int32)) 5 (if (t_tolds ((0 : Int32)).toNatClampNeg) = (8 : Int32) then some ((0 : Int32), (0 : Int32), t_tolds, t_toldDanger, t_toldMonths, t_toldSize)
  else gd ((0 : Int32)) 5 (gd ((t_tolds ((0 : Int32)).toNatClampNeg)) 40 (gd ((0 : Int32)) 5 (gd ((t_tolds ((0 : Int32)).toNatClampNeg)) 40 (gd ((0 : Int32)) 5 (gd ((t_tolds ((0 : Int32)).toNatClampNeg)) 40 (gd ((0 : Int32)) 5 (gd ((0 : Int32)) 5 (some ((1 : Int32), (0 : Int32), upd t_tolds ((0 : Int32)).toNatClampNeg (((t_tolds ((0 : Int32)).toNatClampNeg) + (1 : Int32))), upd t_toldDanger ((t_tolds ((0 : Int32)).toNatClampNeg)).toNatClampNeg (x1), upd t_toldMonths ((t_tolds ((0 : Int32)).toNatClampNeg)).toNatClampNeg (x2), upd t_toldSize ((t_tolds ((0 : Int32)).toNatClampNeg)).toNatClampNeg (x3)))))))))))
abbrev rm_X13_tell : Room := { frames := 1, cells := 0, slots := 0, locals := 22 }
theorem hd_X13_tell : yX13_tell.cls = RX13 ∧ yX13_tell.cls ≠ "java/lang/invoke/MethodHandle" ∧ yX13_tell.cls ≠ "java/lang/invoke/VarHandle" ∧ (parseMethodDescriptor yX13_tell.desc).map (fun d => d.parameters.length) = some 3 := by decide +kernel
set_option maxRecDepth 100000 in
set_option maxHeartbeats 4000000 in
theorem c_X13_tell {E : En} {l : Launch} {t_o : Nat} {t_q : Nat → Nat} {t_thrown : Int32} {t_taped : Int32} {t_tape : (Nat → Int32)} {t_size : Int32} {t_place : Int32} {t_begin : Int32} {t_token : Int32} {t_word : Int64} {t_told : Int32} {t_wrong : Int32} {t_city : (Nat → Int32)} {t_manName : (Nat → Int64)} {t_dangerName : (Nat → Int64)} {t_decreeName : (Nat → Int64)} {t_kind : (Nat → Int32)} {t_skill : (Nat → Int32)} {t_fieldTold : (Nat → Int32)} {t_want : (Nat → Int32)} {t_hates : (Nat → Int32)} {t_restsOn : (Nat → Int32)} {t_sizeTold : (Nat → Int32)} {t_grows : (Nat → Int32)} {t_lineFrom : (Nat → Int32)} {t_lineTo : (Nat → Int32)} {t_codes : (Nat → Int32)} {t_code : Int32} {t_lawLine : Int32} {t_toldLines : Int32} {t_opened : (Nat → Int32)} {t_compared : (Nat → Int32)} {t_kept : (Nat → Int32)} {t_keptBy : (Nat → Int32)} {t_ahead : (Nat → Int32)} {t_against : (Nat → Int32)} {t_sum : (Nat → Int32)} {t_sumBy : (Nat → Int32)} {t_term : (Nat → Int32)} {t_termBy : (Nat → Int32)} {t_byNot : (Nat → Int32)} {t_valueOf : (Nat → Int32)} {t_given : Int32} {t_fresh : Int64} {t_consulsMany : Int32} {t_lines : (Nat → Int32)} {t_lineWhat : (Nat → Int32)} {t_lineA : (Nat → Int32)} {t_lineB : (Nat → Int32)} {t_tolds : (Nat → Int32)} {t_toldDanger : (Nat → Int32)} {t_toldMonths : (Nat → Int32)} {t_toldSize : (Nat → Int32)} {t_s : (Nat → Int32)} {t_aside : (Nat → Int32)} {t_tried : (Nat → Int32)} {t_marked : (Nat → Int32)} {t_undone : (Nat → Int32)} {t_isLaid : (Nat → Int32)} {t_done : Int32} {t_heading : (Nat → Int32)} {t_bestHeading : (Nat → Int32)} {t_leastLeft : Int32} {t_goesTo : (Nat → Int32)} {t_bestGoes : (Nat → Int32)} {t_leastMonths : Int32} {t_g : Int64} {x1 : Int32} {x2 : Int32} {x3 : Int32} {out : Int32 × Int32 × (Nat → Int32) × (Nat → Int32) × (Nat → Int32) × (Nat → Int32)} (hf : f_X13_tell t_city t_tolds t_toldDanger t_toldMonths t_toldSize x1 x2 x3 = some out) : Cn E l yX13_tell cX13_tell 4 (some .boolean) rm_X13_tell [.ref t_o, .int (x1), .int (x2), .int (x3)] (wX13 E t_o t_q t_thrown t_taped t_tape t_size t_place t_begin t_token t_word t_told t_wrong t_city t_manName t_dangerName t_decreeName t_kind t_skill t_fieldTold t_want t_hates t_restsOn t_sizeTold t_grows t_lineFrom t_lineTo t_codes t_code t_lawLine t_toldLines t_opened t_compared t_kept t_keptBy t_ahead t_against t_sum t_sumBy t_term t_termBy t_byNot t_valueOf t_given t_fresh t_consulsMany t_lines t_lineWhat t_lineA t_lineB t_tolds t_toldDanger t_toldMonths t_toldSize t_s t_aside t_tried t_marked t_undone t_isLaid t_done t_heading t_bestHeading t_leastLeft t_goesTo t_bestGoes t_leastMonths t_g) (some (.int out.1)) (wX13 E t_o t_q out.2.1 t_taped t_tape t_size t_place t_begin t_token t_word t_told t_wrong t_city t_manName t_dangerName t_decreeName t_kind t_skill t_fieldTold t_want t_hates t_restsOn t_sizeTold t_grows t_lineFrom t_lineTo t_codes t_code t_lawLine t_toldLines t_opened t_compared t_kept t_keptBy t_ahead t_against t_sum t_sumBy t_term t_termBy t_byNot t_valueOf t_given t_fresh t_consulsMany t_lines t_lineWhat t_lineA t_lineB out.2.2.1 out.2.2.2.1 out.2.2.2.2.1 out.2.2.2.2.2 t_s t_aside t_tried t_marked t_undone t_isLaid t_done t_heading t_bestHeading t_leastLeft t_goesTo t_bestGoes t_leastMonths t_g) := by
  refine Cn.of (by decide) (Nat.le_of_ble_eq_true rfl) rfl ?_
  intro p e s m below meth c A ls args H locs X hw hl
  have hx := X.1.1
  have hb := X.1.2.1
  have ho := X.1.2.2.2.1
  have hts := X.1.2.2.2.2
  have hl : lv_has ls 4 [(0, .ref t_o), (1, .int (x1)), (2, .int (x2)), (3, .int (x3))] := hl
  unfold f_X13_tell at hf
  refine lv_aload_n hx hb dX13_tell_0 rfl (lv_at hl 0 rfl) ?_
  refine lv_iconst (v := (0 : Int32)) hx hb dX13_tell_1 (by decide) ?_
  refine k_put (q0 := 0) (ci := 11) (C := RX13) (T := TX13) (N := 65) (ty0 := tyX13) (x := .int ((0 : Int32))) X inx_13 tyX13_ok nmX13 hw rfl rfl 0 (by decide) rfl rfl tw_1373 rfl rfl (Nat.le_of_ble_eq_true rfl) dX13_tell_2 (fun H locs hw => ?_)
  have hw : Wd E A s.heap (wX13 E t_o t_q ((0 : Int32)) t_taped t_tape t_size t_place t_begin t_token t_word t_told t_wrong t_city t_manName t_dangerName t_decreeName t_kind t_skill t_fieldTold t_want t_hates t_restsOn t_sizeTold t_grows t_lineFrom t_lineTo t_codes t_code t_lawLine t_toldLines t_opened t_compared t_kept t_keptBy t_ahead t_against t_sum t_sumBy t_term t_termBy t_byNot t_valueOf t_given t_fresh t_consulsMany t_lines t_lineWhat t_lineA t_lineB t_tolds t_toldDanger t_toldMonths t_toldSize t_s t_aside t_tried t_marked t_undone t_isLaid t_done t_heading t_bestHeading t_leastLeft t_goesTo t_bestGoes t_leastMonths t_g) H locs := hw
  refine lv_aload_n hx hb dX13_tell_5 rfl (lv_at hl 0 rfl) ?_
  refine lv_iload_n hx hb dX13_tell_6 rfl (lv_at hl 1 rfl) ?_
  obtain ⟨r7, hc_7, hf⟩ := bd_some hf
  refine k_V (As := [.int (x1)]) (rest := []) (index := 446) (C := RX13) X (c_X13_isDanger hc_7) tw_1777 tw_1779 tw_80 tw_130 tw_1780 ⟨rfl, rfl⟩ hd_X13_isDanger ⟨Nat.le_of_ble_eq_true rfl, Nat.le_of_ble_eq_true rfl⟩ ⟨Nat.zero_le _, Nat.zero_le _⟩ hw [0, 1, 2, 3, 4, 5, 6, 7, 8, 9, 10, 11, 12, 13, 14, 15, 16, 17, 18, 19, 20, 21, 22, 23, 24, 25, 26, 27, 28, 29, 30, 31, 32, 33, 34, 35, 36, 37, 38, 39, 40, 41, 42, 43, 44, 45, 46] rfl rfl 0 rfl rfl rfl rfl hl.1 rfl (Nat.le_of_ble_eq_true rfl) dX13_tell_7 (fun H locs hw => ?_)
  have hw : Wd E A s.heap (wX13 E t_o t_q ((0 : Int32)) t_taped t_tape t_size t_place t_begin t_token t_word t_told t_wrong t_city t_manName t_dangerName t_decreeName t_kind t_skill t_fieldTold t_want t_hates t_restsOn t_sizeTold t_grows t_lineFrom t_lineTo t_codes t_code t_lawLine t_toldLines t_opened t_compared t_kept t_keptBy t_ahead t_against t_sum t_sumBy t_term t_termBy t_byNot t_valueOf t_given t_fresh t_consulsMany t_lines t_lineWhat t_lineA t_lineB t_tolds t_toldDanger t_toldMonths t_toldSize t_s t_aside t_tried t_marked t_undone t_isLaid t_done t_heading t_bestHeading t_leastLeft t_goesTo t_bestGoes t_leastMonths t_g) H locs := hw
  refine lv_if_eq (tgt := 44) hx hb dX13_tell_10 (by decide) (fun c_10 => ?_) (fun c_10 => ?_)
  · have hf := (if_pos c_10).symm.trans hf
    refine lv_iconst (v := (0 : Int32)) hx hb dX13_tell_44 (by decide) ?_
    obtain rfl := Option.some.inj hf
    exact k_zret X (Or.inl rfl) hw dX13_tell_45
  · have hf := (if_neg c_10).symm.trans hf
    refine lv_iload_n hx hb dX13_tell_13 rfl (lv_at hl 2 rfl) ?_
    refine lv_iconst (v := (0 : Int32)) hx hb dX13_tell_14 (by decide) ?_
    refine lv_bipush (v := (12 : Int32)) hx hb dX13_tell_15 (by decide) ?_
    refine k_S (As := [.int (x2), .int ((0 : Int32)), .int ((12 : Int32))]) (rest := []) (index := 297) X (c_X13_within (out := (f_X13_within (x2) ((0 : Int32)) ((12 : Int32)))) rfl) tw_1670 tw_1671 tw_130 tw_1672 ⟨rfl, rfl⟩ hd_X13_within ⟨Nat.le_of_ble_eq_true rfl, Nat.le_of_ble_eq_true rfl⟩ ⟨Nat.zero_le _, Nat.zero_le _⟩ hw [] rfl rfl rfl hl.1 rfl (Nat.le_of_ble_eq_true rfl) dX13_tell_17 (fun H locs hw => ?_)
    have hw : Wd E A s.heap (wX13 E t_o t_q ((0 : Int32)) t_taped t_tape t_size t_place t_begin t_token t_word t_told t_wrong t_city t_manName t_dangerName t_decreeName t_kind t_skill t_fieldTold t_want t_hates t_restsOn t_sizeTold t_grows t_lineFrom t_lineTo t_codes t_code t_lawLine t_toldLines t_opened t_compared t_kept t_keptBy t_ahead t_against t_sum t_sumBy t_term t_termBy t_byNot t_valueOf t_given t_fresh t_consulsMany t_lines t_lineWhat t_lineA t_lineB t_tolds t_toldDanger t_toldMonths t_toldSize t_s t_aside t_tried t_marked t_undone t_isLaid t_done t_heading t_bestHeading t_leastLeft t_goesTo t_bestGoes t_leastMonths t_g) H locs := hw
    refine lv_if_eq (tgt := 44) hx hb dX13_tell_20 (by decide) (fun c_20 => ?_) (fun c_20 => ?_)
    · have hf := (if_pos c_20).symm.trans hf
      refine lv_iconst (v := (0 : Int32)) hx hb dX13_tell_44 (by decide) ?_
      obtain rfl := Option.some.inj hf
      exact k_zret X (Or.inl rfl) hw dX13_tell_45
    · have hf := (if_neg c_20).symm.trans hf
      refine lv_iload_n hx hb dX13_tell_23 rfl (lv_at hl 3 rfl) ?_
      refine lv_iconst (v := (0 : Int32)) hx hb dX13_tell_24 (by decide) ?_
      refine lv_bipush (v := (99 : Int32)) hx hb dX13_tell_25 (by decide) ?_
      refine k_S (As := [.int (x3), .int ((0 : Int32)), .int ((99 : Int32))]) (rest := []) (index := 297) X (c_X13_within (out := (f_X13_within (x3) ((0 : Int32)) ((99 : Int32)))) rfl) tw_1670 tw_1671 tw_130 tw_1672 ⟨rfl, rfl⟩ hd_X13_within ⟨Nat.le_of_ble_eq_true rfl, Nat.le_of_ble_eq_true rfl⟩ ⟨Nat.zero_le _, Nat.zero_le _⟩ hw [] rfl rfl rfl hl.1 rfl (Nat.le_of_ble_eq_true rfl) dX13_tell_27 (fun H locs hw => ?_)
      have hw : Wd E A s.heap (wX13 E t_o t_q ((0 : Int32)) t_taped t_tape t_size t_place t_begin t_token t_word t_told t_wrong t_city t_manName t_dangerName t_decreeName t_kind t_skill t_fieldTold t_want t_hates t_restsOn t_sizeTold t_grows t_lineFrom t_lineTo t_codes t_code t_lawLine t_toldLines t_opened t_compared t_kept t_keptBy t_ahead t_against t_sum t_sumBy t_term t_termBy t_byNot t_valueOf t_given t_fresh t_consulsMany t_lines t_lineWhat t_lineA t_lineB t_tolds t_toldDanger t_toldMonths t_toldSize t_s t_aside t_tried t_marked t_undone t_isLaid t_done t_heading t_bestHeading t_leastLeft t_goesTo t_bestGoes t_leastMonths t_g) H locs := hw
      refine lv_if_eq (tgt := 44) hx hb dX13_tell_30 (by decide) (fun c_30 => ?_) (fun c_30 => ?_)
      · have hf := (if_pos c_30).symm.trans hf
        refine lv_iconst (v := (0 : Int32)) hx hb dX13_tell_44 (by decide) ?_
        obtain rfl := Option.some.inj hf
        exact k_zret X (Or.inl rfl) hw dX13_tell_45
      · have hf := (if_neg c_30).symm.trans hf
        refine lv_aload_n hx hb dX13_tell_33 rfl (lv_at hl 0 rfl) ?_
        refine k_get (q0 := 0) (ci := 11) (C := RX13) (T := TX13) (N := 65) (x := .ref (t_q 47)) X inx_13 hw rfl rfl 47 (by decide) rfl tw_1420 rfl dX13_tell_34 ?_
        refine lv_iconst (v := (0 : Int32)) hx hb dX13_tell_37 (by decide) ?_
        obtain ⟨hi_38, hf⟩ := gd_some hf
        refine k_iald (q0 := 33) (n := 5) (f := t_tolds) X hw rfl hi_38 dX13_tell_38 ?_
        refine lv_bipush (v := (8 : Int32)) hx hb dX13_tell_39 (by decide) ?_
        refine lv_icmp_ne (tgt := 46) hx hb dX13_tell_41 (by decide) (fun c_41 => ?_) (fun c_41 => ?_)
        · have hf := (if_neg c_41).symm.trans hf
          refine lv_aload_n hx hb dX13_tell_46 rfl (lv_at hl 0 rfl) ?_
          refine k_get (q0 := 0) (ci := 11) (C := RX13) (T := TX13) (N := 65) (x := .ref (t_q 48)) X inx_13 hw rfl rfl 48 (by decide) rfl tw_1421 rfl dX13_tell_47 ?_
          refine lv_aload_n hx hb dX13_tell_50 rfl (lv_at hl 0 rfl) ?_
          refine k_get (q0 := 0) (ci := 11) (C := RX13) (T := TX13) (N := 65) (x := .ref (t_q 47)) X inx_13 hw rfl rfl 47 (by decide) rfl tw_1420 rfl dX13_tell_51 ?_
          refine lv_iconst (v := (0 : Int32)) hx hb dX13_tell_54 (by decide) ?_
          obtain ⟨hi_55, hf⟩ := gd_some hf
          refine k_iald (q0 := 33) (n := 5) (f := t_tolds) X hw rfl hi_55 dX13_tell_55 ?_
          refine lv_iload_n hx hb dX13_tell_56 rfl (lv_at hl 1 rfl) ?_
          obtain ⟨hi_57, hf⟩ := gd_some hf
          refine k_iast (q0 := 34) (n := 40) (f := t_toldDanger) X hw rfl hi_57 dX13_tell_57 (fun H locs hw => ?_)
          have hw : Wd E A s.heap (wX13 E t_o t_q ((0 : Int32)) t_taped t_tape t_size t_place t_begin t_token t_word t_told t_wrong t_city t_manName t_dangerName t_decreeName t_kind t_skill t_fieldTold t_want t_hates t_restsOn t_sizeTold t_grows t_lineFrom t_lineTo t_codes t_code t_lawLine t_toldLines t_opened t_compared t_kept t_keptBy t_ahead t_against t_sum t_sumBy t_term t_termBy t_byNot t_valueOf t_given t_fresh t_consulsMany t_lines t_lineWhat t_lineA t_lineB t_tolds (upd t_toldDanger ((t_tolds ((0 : Int32)).toNatClampNeg)).toNatClampNeg (x1)) t_toldMonths t_toldSize t_s t_aside t_tried t_marked t_undone t_isLaid t_done t_heading t_bestHeading t_leastLeft t_goesTo t_bestGoes t_leastMonths t_g) H locs := hw
          refine lv_aload_n hx hb dX13_tell_58 rfl (lv_at hl 0 rfl) ?_
          refine k_get (q0 := 0) (ci := 11) (C := RX13) (T := TX13) (N := 65) (x := .ref (t_q 49)) X inx_13 hw rfl rfl 49 (by decide) rfl tw_1422 rfl dX13_tell_59 ?_
          refine lv_aload_n hx hb dX13_tell_62 rfl (lv_at hl 0 rfl) ?_
          refine k_get (q0 := 0) (ci := 11) (C := RX13) (T := TX13) (N := 65) (x := .ref (t_q 47)) X inx_13 hw rfl rfl 47 (by decide) rfl tw_1420 rfl dX13_tell_63 ?_
          refine lv_iconst (v := (0 : Int32)) hx hb dX13_tell_66 (by decide) ?_
          obtain ⟨hi_67, hf⟩ := gd_some hf
          refine k_iald (q0 := 33) (n := 5) (f := t_tolds) X hw rfl hi_67 dX13_tell_67 ?_
          refine lv_iload_n hx hb dX13_tell_68 rfl (lv_at hl 2 rfl) ?_
          obtain ⟨hi_69, hf⟩ := gd_some hf
          refine k_iast (q0 := 35) (n := 40) (f := t_toldMonths) X hw rfl hi_69 dX13_tell_69 (fun H locs hw => ?_)
          have hw : Wd E A s.heap (wX13 E t_o t_q ((0 : Int32)) t_taped t_tape t_size t_place t_begin t_token t_word t_told t_wrong t_city t_manName t_dangerName t_decreeName t_kind t_skill t_fieldTold t_want t_hates t_restsOn t_sizeTold t_grows t_lineFrom t_lineTo t_codes t_code t_lawLine t_toldLines t_opened t_compared t_kept t_keptBy t_ahead t_against t_sum t_sumBy t_term t_termBy t_byNot t_valueOf t_given t_fresh t_consulsMany t_lines t_lineWhat t_lineA t_lineB t_tolds (upd t_toldDanger ((t_tolds ((0 : Int32)).toNatClampNeg)).toNatClampNeg (x1)) (upd t_toldMonths ((t_tolds ((0 : Int32)).toNatClampNeg)).toNatClampNeg (x2)) t_toldSize t_s t_aside t_tried t_marked t_undone t_isLaid t_done t_heading t_bestHeading t_leastLeft t_goesTo t_bestGoes t_leastMonths t_g) H locs := hw
          refine lv_aload_n hx hb dX13_tell_70 rfl (lv_at hl 0 rfl) ?_
          refine k_get (q0 := 0) (ci := 11) (C := RX13) (T := TX13) (N := 65) (x := .ref (t_q 50)) X inx_13 hw rfl rfl 50 (by decide) rfl tw_1423 rfl dX13_tell_71 ?_
          refine lv_aload_n hx hb dX13_tell_74 rfl (lv_at hl 0 rfl) ?_
          refine k_get (q0 := 0) (ci := 11) (C := RX13) (T := TX13) (N := 65) (x := .ref (t_q 47)) X inx_13 hw rfl rfl 47 (by decide) rfl tw_1420 rfl dX13_tell_75 ?_
          refine lv_iconst (v := (0 : Int32)) hx hb dX13_tell_78 (by decide) ?_
          obtain ⟨hi_79, hf⟩ := gd_some hf
          refine k_iald (q0 := 33) (n := 5) (f := t_tolds) X hw rfl hi_79 dX13_tell_79 ?_
          refine lv_iload_n hx hb dX13_tell_80 rfl (lv_at hl 3 rfl) ?_
          obtain ⟨hi_81, hf⟩ := gd_some hf
          refine k_iast (q0 := 36) (n := 40) (f := t_toldSize) X hw rfl hi_81 dX13_tell_81 (fun H locs hw => ?_)
          have hw : Wd E A s.heap (wX13 E t_o t_q ((0 : Int32)) t_taped t_tape t_size t_place t_begin t_token t_word t_told t_wrong t_city t_manName t_dangerName t_decreeName t_kind t_skill t_fieldTold t_want t_hates t_restsOn t_sizeTold t_grows t_lineFrom t_lineTo t_codes t_code t_lawLine t_toldLines t_opened t_compared t_kept t_keptBy t_ahead t_against t_sum t_sumBy t_term t_termBy t_byNot t_valueOf t_given t_fresh t_consulsMany t_lines t_lineWhat t_lineA t_lineB t_tolds (upd t_toldDanger ((t_tolds ((0 : Int32)).toNatClampNeg)).toNatClampNeg (x1)) (upd t_toldMonths ((t_tolds ((0 : Int32)).toNatClampNeg)).toNatClampNeg (x2)) (upd t_toldSize ((t_tolds ((0 : Int32)).toNatClampNeg)).toNatClampNeg (x3)) t_s t_aside t_tried t_marked t_undone t_isLaid t_done t_heading t_bestHeading t_leastLeft t_goesTo t_bestGoes t_leastMonths t_g) H locs := hw
          refine lv_aload_n hx hb dX13_tell_82 rfl (lv_at hl 0 rfl) ?_
          refine k_get (q0 := 0) (ci := 11) (C := RX13) (T := TX13) (N := 65) (x := .ref (t_q 47)) X inx_13 hw rfl rfl 47 (by decide) rfl tw_1420 rfl dX13_tell_83 ?_
          refine lv_iconst (v := (0 : Int32)) hx hb dX13_tell_86 (by decide) ?_
          refine lv_dup2_11 hx hb dX13_tell_87 rfl rfl ?_
          obtain ⟨hi_88, hf⟩ := gd_some hf
          refine k_iald (q0 := 33) (n := 5) (f := t_tolds) X hw rfl hi_88 dX13_tell_88 ?_
          refine lv_iconst (v := (1 : Int32)) hx hb dX13_tell_89 (by decide) ?_
          refine lv_iadd hx hb dX13_tell_90 ?_
          obtain ⟨hi_91, hf⟩ := gd_some hf
          refine k_iast (q0 := 33) (n := 5) (f := t_tolds) X hw rfl hi_91 dX13_tell_91 (fun H locs hw => ?_)
          have hw : Wd E A s.heap (wX13 E t_o t_q ((0 : Int32)) t_taped t_tape t_size t_place t_begin t_token t_word t_told t_wrong t_city t_manName t_dangerName t_decreeName t_kind t_skill t_fieldTold t_want t_hates t_restsOn t_sizeTold t_grows t_lineFrom t_lineTo t_codes t_code t_lawLine t_toldLines t_opened t_compared t_kept t_keptBy t_ahead t_against t_sum t_sumBy t_term t_termBy t_byNot t_valueOf t_given t_fresh t_consulsMany t_lines t_lineWhat t_lineA t_lineB (upd t_tolds ((0 : Int32)).toNatClampNeg (((t_tolds ((0 : Int32)).toNatClampNeg) + (1 : Int32)))) (upd t_toldDanger ((t_tolds ((0 : Int32)).toNatClampNeg)).toNatClampNeg (x1)) (upd t_toldMonths ((t_tolds ((0 : Int32)).toNatClampNeg)).toNatClampNeg (x2)) (upd t_toldSize ((t_tolds ((0 : Int32)).toNatClampNeg)).toNatClampNeg (x3)) t_s t_aside t_tried t_marked t_undone t_isLaid t_done t_heading t_bestHeading t_leastLeft t_goesTo t_bestGoes t_leastMonths t_g) H locs := hw
          refine lv_iconst (v := (1 : Int32)) hx hb dX13_tell_92 (by decide) ?_
          obtain rfl := Option.some.inj hf
          exact k_zret X (Or.inr rfl) hw dX13_tell_93
        · have hf := (if_pos c_41).symm.trans hf
          refine lv_iconst (v := (0 : Int32)) hx hb dX13_tell_44 (by decide) ?_
          obtain rfl := Option.some.inj hf
          exact k_zret X (Or.inl rfl) hw dX13_tell_45
/-! private int sizeBy(int, int, int); -/
def f_X13_sizeBy_11 : Nat → (Nat → Int32) → (Nat → Int32) → (Nat → Int32) → (Nat → Int32) → (Nat → Int32) → (Nat → Int32) → (Nat → Int32) → (Nat → Int32) → (Nat → Int32) → (Nat → Int32) → (Nat → Int32) → (Nat → Int32) → (Nat → Int32) → (Nat → Int32) → (Nat → Int32) → (Nat → Int32) → Int32 → Int32 → Int32 → Int32 → Option (Int32 × (Nat → Int32) × (Nat → Int32) × (Nat → Int32) × (Nat → Int32) × (Nat → Int32) × (Nat → Int32) × (Nat → Int32) × (Nat → Int32) × (Nat → Int32) × (Nat → Int32))
  | 0, _, _, _, _, _, _, _, _, _, _, _, _, _, _, _, _, _, _, _, _ => none
  | n + 1, t_kind, t_skill, t_want, t_lineFrom, t_lineTo, t_codes, t_kept, t_keptBy, t_ahead, t_against, t_sum, t_sumBy, t_term, t_termBy, t_byNot, t_valueOf, x1, x3, x4, x5 => if x3 ≤ x5 then some (x4, t_kept, t_keptBy, t_ahead, t_against, t_sum, t_sumBy, t_term, t_termBy, t_byNot, t_valueOf)
    else (f_X13_worksBy t_kind t_skill t_want t_lineFrom t_lineTo t_codes t_kept t_keptBy t_ahead t_against t_sum t_sumBy t_term t_termBy t_byNot t_valueOf (x1) (x4) (x5)).bind fun r26 => f_X13_sizeBy_11 n t_kind t_skill t_want t_lineFrom t_lineTo t_codes r26.2.1 r26.2.2.1 r26.2.2.2.1 r26.2.2.2.2.1 r26.2.2.2.2.2.1 r26.2.2.2.2.2.2.1 r26.2.2.2.2.2.2.2.1 r26.2.2.2.2.2.2.2.2.1 r26.2.2.2.2.2.2.2.2.2.1 r26.2.2.2.2.2.2.2.2.2.2 x1 x3 ((imax (0 : Int32) (x4 - r26.1))) ((x5 + (1 : Int32)))
def f_X13_sizeBy (t_kind : (Nat → Int32)) (t_skill : (Nat → Int32)) (t_want : (Nat → Int32)) (t_sizeTold : (Nat → Int32)) (t_lineFrom : (Nat → Int32)) (t_lineTo : (Nat → Int32)) (t_codes : (Nat → Int32)) (t_kept : (Nat → Int32)) (t_keptBy : (Nat → Int32)) (t_ahead : (Nat → Int32)) (t_against : (Nat → Int32)) (t_sum : (Nat → Int32)) (t_sumBy : (Nat → Int32)) (t_term : (Nat → Int32)) (t_termBy : (Nat → Int32)) (t_byNot : (Nat → Int32)) (t_valueOf : (Nat → Int32)) (x1 : Int32) (x2 : Int32) (x3 : Int32) : Option (Int32 × (Nat → Int32) × (Nat → Int32) × (Nat → Int32) × (Nat → Int32) × (Nat → Int32) × (Nat → Int32) × (Nat → Int32) × (Nat → Int32) × (Nat → Int32) × (Nat → Int32)) := gd (x2) 10 (f_X13_sizeBy_11 1100 t_kind t_skill t_want t_lineFrom t_lineTo t_codes t_kept t_keptBy t_ahead t_against t_sum t_sumBy t_term t_termBy t_byNot t_valueOf x1 x3 ((t_sizeTold (x2).toNatClampNeg)) ((0 : Int32)))
abbrev rm_X13_sizeBy : Room := { frames := 4, cells := 0, slots := 0, locals := 92 }
theorem hd_X13_sizeBy : yX13_sizeBy.cls = RX13 ∧ yX13_sizeBy.cls ≠ "java/lang/invoke/MethodHandle" ∧ yX13_sizeBy.cls ≠ "java/lang/invoke/VarHandle" ∧ (parseMethodDescriptor yX13_sizeBy.desc).map (fun d => d.parameters.length) = some 3 := by decide +kernel
set_option maxRecDepth 100000 in
set_option maxHeartbeats 4000000 in
theorem kb_X13_sizeBy_11 {E : En} {p : Program} {l : Launch} {e : Env} {s : State} {m : MethodId} {args : Array Value} {below : List Frame} {meth : Method} {c : Code} {A : Nat → Prop} {t_o : Nat} {t_q : Nat → Nat} {t_thrown : Int32} {t_taped : Int32} {t_tape : (Nat → Int32)} {t_size : Int32} {t_place : Int32} {t_begin : Int32} {t_token : Int32} {t_word : Int64} {t_told : Int32} {t_wrong : Int32} {t_city : (Nat → Int32)} {t_manName : (Nat → Int64)} {t_dangerName : (Nat → Int64)} {t_decreeName : (Nat → Int64)} {t_kind : (Nat → Int32)} {t_skill : (Nat → Int32)} {t_fieldTold : (Nat → Int32)} {t_want : (Nat → Int32)} {t_hates : (Nat → Int32)} {t_restsOn : (Nat → Int32)} {t_sizeTold : (Nat → Int32)} {t_grows : (Nat → Int32)} {t_lineFrom : (Nat → Int32)} {t_lineTo : (Nat → Int32)} {t_codes : (Nat → Int32)} {t_code : Int32} {t_lawLine : Int32} {t_toldLines : Int32} {t_opened : (Nat → Int32)} {t_compared : (Nat → Int32)} {t_given : Int32} {t_fresh : Int64} {t_consulsMany : Int32} {t_lines : (Nat → Int32)} {t_lineWhat : (Nat → Int32)} {t_lineA : (Nat → Int32)} {t_lineB : (Nat → Int32)} {t_tolds : (Nat → Int32)} {t_toldDanger : (Nat → Int32)} {t_toldMonths : (Nat → Int32)} {t_toldSize : (Nat → Int32)} {t_s : (Nat → Int32)} {t_aside : (Nat → Int32)} {t_tried : (Nat → Int32)} {t_marked : (Nat → Int32)} {t_undone : (Nat → Int32)} {t_isLaid : (Nat → Int32)} {t_done : Int32} {t_heading : (Nat → Int32)} {t_bestHeading : (Nat → Int32)} {t_leastLeft : Int32} {t_goesTo : (Nat → Int32)} {t_bestGoes : (Nat → Int32)} {t_leastMonths : Int32} {t_g : Int64} {out : Int32 × (Nat → Int32) × (Nat → Int32) × (Nat → Int32) × (Nat → Int32) × (Nat → Int32) × (Nat → Int32) × (Nat → Int32) × (Nat → Int32) × (Nat → Int32) × (Nat → Int32)} (X : Bx E A p s m args meth c cX13_sizeBy 6 RX13 (some .int)) : ∀ (n : Nat) {t_kept : (Nat → Int32)} {t_keptBy : (Nat → Int32)} {t_ahead : (Nat → Int32)} {t_against : (Nat → Int32)} {t_sum : (Nat → Int32)} {t_sumBy : (Nat → Int32)} {t_term : (Nat → Int32)} {t_termBy : (Nat → Int32)} {t_byNot : (Nat → Int32)} {t_valueOf : (Nat → Int32)} {x1 : Int32} {x3 : Int32} {x4 : Int32} {x5 : Int32} {H : Heap} {locs : List Loc} {ls : Array Slot}, f_X13_sizeBy_11 n t_kind t_skill t_want t_lineFrom t_lineTo t_codes t_kept t_keptBy t_ahead t_against t_sum t_sumBy t_term t_termBy t_byNot t_valueOf x1 x3 x4 x5 = some out → Wd E A s.heap (wX13 E t_o t_q t_thrown t_taped t_tape t_size t_place t_begin t_token t_word t_told t_wrong t_city t_manName t_dangerName t_decreeName t_kind t_skill t_fieldTold t_want t_hates t_restsOn t_sizeTold t_grows t_lineFrom t_lineTo t_codes t_code t_lawLine t_toldLines t_opened t_compared t_kept t_keptBy t_ahead t_against t_sum t_sumBy t_term t_termBy t_byNot t_valueOf t_given t_fresh t_consulsMany t_lines t_lineWhat t_lineA t_lineB t_tolds t_toldDanger t_toldMonths t_toldSize t_s t_aside t_tried t_marked t_undone t_isLaid t_done t_heading t_bestHeading t_leastLeft t_goesTo t_bestGoes t_leastMonths t_g) H locs → lv_has ls 6 [(0, .ref t_o), (1, .int (x1)), (3, .int (x3)), (4, .int (x4)), (5, .int (x5))] → W p l e rm_X13_sizeBy s m args below meth c H locs 0 0 (Zn E below args s A (some (.int out.1)) (wX13 E t_o t_q t_thrown t_taped t_tape t_size t_place t_begin t_token t_word t_told t_wrong t_city t_manName t_dangerName t_decreeName t_kind t_skill t_fieldTold t_want t_hates t_restsOn t_sizeTold t_grows t_lineFrom t_lineTo t_codes t_code t_lawLine t_toldLines t_opened t_compared out.2.1 out.2.2.1 out.2.2.2.1 out.2.2.2.2.1 out.2.2.2.2.2.1 out.2.2.2.2.2.2.1 out.2.2.2.2.2.2.2.1 out.2.2.2.2.2.2.2.2.1 out.2.2.2.2.2.2.2.2.2.1 out.2.2.2.2.2.2.2.2.2.2 t_given t_fresh t_consulsMany t_lines t_lineWhat t_lineA t_lineB t_tolds t_toldDanger t_toldMonths t_toldSize t_s t_aside t_tried t_marked t_undone t_isLaid t_done t_heading t_bestHeading t_leastLeft t_goesTo t_bestGoes t_leastMonths t_g)) (F0 m 11 ls []) := by
  have hx := X.1.1
  have hb := X.1.2.1
  have ho := X.1.2.2.2.1
  have hts := X.1.2.2.2.2
  intro n
  induction n with
  | zero =>
    intro t_kept t_keptBy t_ahead t_against t_sum t_sumBy t_term t_termBy t_byNot t_valueOf x1 x3 x4 x5 H locs ls hf
    have hf : (none : Option (Int32 × (Nat → Int32) × (Nat → Int32) × (Nat → Int32) × (Nat → Int32) × (Nat → Int32) × (Nat → Int32) × (Nat → Int32) × (Nat → Int32) × (Nat → Int32) × (Nat → Int32))) = some out := hf
    cases hf
  | succ n ih =>
    intro t_kept t_keptBy t_ahead t_against t_sum t_sumBy t_term t_termBy t_byNot t_valueOf x1 x3 x4 x5 H locs ls hf hw hl
    rw [f_X13_sizeBy_11.eq_2] at hf
    refine lv_iload hx hb dX13_sizeBy_11 (lv_at hl 4 rfl) ?_
    refine lv_iload_n hx hb dX13_sizeBy_13 rfl (lv_at hl 2 rfl) ?_
    refine lv_icmp_ge (tgt := 41) hx hb dX13_sizeBy_14 (by decide) (fun c_14 => ?_) (fun c_14 => ?_)
    · have hf := (if_pos c_14).symm.trans hf
      refine lv_iload hx hb dX13_sizeBy_41 (lv_at hl 3 rfl) ?_
      obtain rfl := Option.some.inj hf
      exact k_iret X hw dX13_sizeBy_43
    · have hf := (if_neg c_14).symm.trans hf
      refine lv_iconst (v := (0 : Int32)) hx hb dX13_sizeBy_17 (by decide) ?_
      refine lv_iload hx hb dX13_sizeBy_18 (lv_at hl 3 rfl) ?_
      refine lv_aload_n hx hb dX13_sizeBy_20 rfl (lv_at hl 0 rfl) ?_
      refine lv_iload_n hx hb dX13_sizeBy_21 rfl (lv_at hl 1 rfl) ?_
      refine lv_iload hx hb dX13_sizeBy_22 (lv_at hl 3 rfl) ?_
      refine lv_iload hx hb dX13_sizeBy_24 (lv_at hl 4 rfl) ?_
      obtain ⟨r26, hc_26, hf⟩ := bd_some hf
      refine k_V (As := [.int (x1), .int (x4), .int (x5)]) (rest := [.int (x4), .int ((0 : Int32))]) (index := 425) (C := RX13) X (c_X13_worksBy hc_26) tw_1824 tw_1826 tw_87 tw_130 tw_1827 ⟨rfl, rfl⟩ hd_X13_worksBy ⟨Nat.le_of_ble_eq_true rfl, Nat.le_of_ble_eq_true rfl⟩ ⟨Nat.zero_le _, Nat.zero_le _⟩ hw [0, 1, 2, 3, 4, 5, 6, 7, 8, 9, 10, 11, 12, 13, 14, 15, 16, 17, 18, 19, 20, 21, 22, 23, 24, 25, 26, 27, 28, 29, 30, 31, 32, 33, 34, 35, 36, 37, 38, 39, 40, 41, 42, 43, 44, 45, 46] rfl rfl 0 rfl rfl rfl rfl hl.1 rfl (Nat.le_of_ble_eq_true rfl) dX13_sizeBy_26 (fun H locs hw => ?_)
      have hw : Wd E A s.heap (wX13 E t_o t_q t_thrown t_taped t_tape t_size t_place t_begin t_token t_word t_told t_wrong t_city t_manName t_dangerName t_decreeName t_kind t_skill t_fieldTold t_want t_hates t_restsOn t_sizeTold t_grows t_lineFrom t_lineTo t_codes t_code t_lawLine t_toldLines t_opened t_compared r26.2.1 r26.2.2.1 r26.2.2.2.1 r26.2.2.2.2.1 r26.2.2.2.2.2.1 r26.2.2.2.2.2.2.1 r26.2.2.2.2.2.2.2.1 r26.2.2.2.2.2.2.2.2.1 r26.2.2.2.2.2.2.2.2.2.1 r26.2.2.2.2.2.2.2.2.2.2 t_given t_fresh t_consulsMany t_lines t_lineWhat t_lineA t_lineB t_tolds t_toldDanger t_toldMonths t_toldSize t_s t_aside t_tried t_marked t_undone t_isLaid t_done t_heading t_bestHeading t_leastLeft t_goesTo t_bestGoes t_leastMonths t_g) H locs := hw
      refine lv_isub hx hb dX13_sizeBy_29 ?_
      refine k_max (index := 422) X tw_1851 tw_977 tw_135 tw_978 (Nat.le_of_ble_eq_true rfl) (Nat.le_of_ble_eq_true rfl) ⟨Nat.zero_le _, Nat.zero_le _⟩ hl.1 dX13_sizeBy_30 ?_
      refine lv_istore (lv' := [(4, .int ((imax (0 : Int32) (x4 - r26.1)))), (0, .ref t_o), (1, .int (x1)), (3, .int (x3)), (5, .int (x5))]) hx hb dX13_sizeBy_33 hl (by decide) rfl (fun ls hl => ?_)
      refine lv_iinc (v := (x5 + (1 : Int32))) (lv' := [(5, .int ((x5 + (1 : Int32)))), (4, .int ((imax (0 : Int32) (x4 - r26.1)))), (0, .ref t_o), (1, .int (x1)), (3, .int (x3))]) hx hb dX13_sizeBy_35 hl (k := 4) rfl rfl (by decide) rfl (fun ls hl => ?_)
      refine lv_goto (tgt := 11) hx hb dX13_sizeBy_38 (by decide) ?_
      exact ih hf hw (lv_sub hl [2, 3, 4, 1, 0] rfl)
set_option maxRecDepth 100000 in
set_option maxHeartbeats 4000000 in
theorem c_X13_sizeBy {E : En} {l : Launch} {t_o : Nat} {t_q : Nat → Nat} {t_thrown : Int32} {t_taped : Int32} {t_tape : (Nat → Int32)} {t_size : Int32} {t_place : Int32} {t_begin : Int32} {t_token : Int32} {t_word : Int64} {t_told : Int32} {t_wrong : Int32} {t_city : (Nat → Int32)} {t_manName : (Nat → Int64)} {t_dangerName : (Nat → Int64)} {t_decreeName : (Nat → Int64)} {t_kind : (Nat → Int32)} {t_skill : (Nat → Int32)} {t_fieldTold : (Nat → Int32)} {t_want : (Nat → Int32)} {t_hates : (Nat → Int32)} {t_restsOn : (Nat → Int32)} {t_sizeTold : (Nat → Int32)} {t_grows : (Nat → Int32)} {t_lineFrom : (Nat → Int32)} {t_lineTo : (Nat → Int32)} {t_codes : (Nat → Int32)} {t_code : Int32} {t_lawLine : Int32} {t_toldLines : Int32} {t_opened : (Nat → Int32)} {t_compared : (Nat → Int32)} {t_kept : (Nat → Int32)} {t_keptBy : (Nat → Int32)} {t_ahead : (Nat → Int32)} {t_against : (Nat → Int32)} {t_sum : (Nat → Int32)} {t_sumBy : (Nat → Int32)} {t_term : (Nat → Int32)} {t_termBy : (Nat → Int32)} {t_byNot : (Nat → Int32)} {t_valueOf : (Nat → Int32)} {t_given : Int32} {t_fresh : Int64} {t_consulsMany : Int32} {t_lines : (Nat → Int32)} {t_lineWhat : (Nat → Int32)} {t_lineA : (Nat → Int32)} {t_lineB : (Nat → Int32)} {t_tolds : (Nat → Int32)} {t_toldDanger : (Nat → Int32)} {t_toldMonths : (Nat → Int32)} {t_toldSize : (Nat → Int32)} {t_s : (Nat → Int32)} {t_aside : (Nat → Int32)} {t_tried : (Nat → Int32)} {t_marked : (Nat → Int32)} {t_undone : (Nat → Int32)} {t_isLaid : (Nat → Int32)} {t_done : Int32} {t_heading : (Nat → Int32)} {t_bestHeading : (Nat → Int32)} {t_leastLeft : Int32} {t_goesTo : (Nat → Int32)} {t_bestGoes : (Nat → Int32)} {t_leastMonths : Int32} {t_g : Int64} {x1 : Int32} {x2 : Int32} {x3 : Int32} {out : Int32 × (Nat → Int32) × (Nat → Int32) × (Nat → Int32) × (Nat → Int32) × (Nat → Int32) × (Nat → Int32) × (Nat → Int32) × (Nat → Int32) × (Nat → Int32) × (Nat → Int32)} (hf : f_X13_sizeBy t_kind t_skill t_want t_sizeTold t_lineFrom t_lineTo t_codes t_kept t_keptBy t_ahead t_against t_sum t_sumBy t_term t_termBy t_byNot t_valueOf x1 x2 x3 = some out) : Cn E l yX13_sizeBy cX13_sizeBy 6 (some .int) rm_X13_sizeBy [.ref t_o, .int (x1), .int (x2), .int (x3)] (wX13 E t_o t_q t_thrown t_taped t_tape t_size t_place t_begin t_token t_word t_told t_wrong t_city t_manName t_dangerName t_decreeName t_kind t_skill t_fieldTold t_want t_hates t_restsOn t_sizeTold t_grows t_lineFrom t_lineTo t_codes t_code t_lawLine t_toldLines t_opened t_compared t_kept t_keptBy t_ahead t_against t_sum t_sumBy t_term t_termBy t_byNot t_valueOf t_given t_fresh t_consulsMany t_lines t_lineWhat t_lineA t_lineB t_tolds t_toldDanger t_toldMonths t_toldSize t_s t_aside t_tried t_marked t_undone t_isLaid t_done t_heading t_bestHeading t_leastLeft t_goesTo t_bestGoes t_leastMonths t_g) (some (.int out.1)) (wX13 E t_o t_q t_thrown t_taped t_tape t_size t_place t_begin t_token t_word t_told t_wrong t_city t_manName t_dangerName t_decreeName t_kind t_skill t_fieldTold t_want t_hates t_restsOn t_sizeTold t_grows t_lineFrom t_lineTo t_codes t_code t_lawLine t_toldLines t_opened t_compared out.2.1 out.2.2.1 out.2.2.2.1 out.2.2.2.2.1 out.2.2.2.2.2.1 out.2.2.2.2.2.2.1 out.2.2.2.2.2.2.2.1 out.2.2.2.2.2.2.2.2.1 out.2.2.2.2.2.2.2.2.2.1 out.2.2.2.2.2.2.2.2.2.2 t_given t_fresh t_consulsMany t_lines t_lineWhat t_lineA t_lineB t_tolds t_toldDanger t_toldMonths t_toldSize t_s t_aside t_tried t_marked t_undone t_isLaid t_done t_heading t_bestHeading t_leastLeft t_goesTo t_bestGoes t_leastMonths t_g) := by
  refine Cn.of (by decide) (Nat.le_of_ble_eq_true rfl) rfl ?_
  intro p e s m below meth c A ls args H locs X hw hl
  have hx := X.1.1
  have hb := X.1.2.1
  have ho := X.1.2.2.2.1
  have hts := X.1.2.2.2.2
  have hl : lv_has ls 6 [(0, .ref t_o), (1, .int (x1)), (2, .int (x2)), (3, .int (x3))] := hl
  unfold f_X13_sizeBy at hf
  refine lv_aload_n hx hb dX13_sizeBy_0 rfl (lv_at hl 0 rfl) ?_
  refine k_get (q0 := 0) (ci := 11) (C := RX13) (T := TX13) (N := 65) (x := .ref (t_q 20)) X inx_13 hw rfl rfl 20 (by decide) rfl tw_1393 rfl dX13_sizeBy_1 ?_
  refine lv_iload_n hx hb dX13_sizeBy_4 rfl (lv_at hl 2 rfl) ?_
  obtain ⟨hi_5, hf⟩ := gd_some hf
  refine k_iald (q0 := 12) (n := 10) (f := t_sizeTold) X hw rfl hi_5 dX13_sizeBy_5 ?_
  refine lv_istore (lv' := [(4, .int ((t_sizeTold (x2).toNatClampNeg))), (0, .ref t_o), (1, .int (x1)), (2, .int (x2)), (3, .int (x3))]) hx hb dX13_sizeBy_6 hl (by decide) rfl (fun ls hl => ?_)
  refine lv_iconst (v := (0 : Int32)) hx hb dX13_sizeBy_8 (by decide) ?_
  refine lv_istore (lv' := [(5, .int ((0 : Int32))), (4, .int ((t_sizeTold (x2).toNatClampNeg))), (0, .ref t_o), (1, .int (x1)), (2, .int (x2)), (3, .int (x3))]) hx hb dX13_sizeBy_9 hl (by decide) rfl (fun ls hl => ?_)
  exact kb_X13_sizeBy_11 X 1100 hf hw (lv_sub hl [2, 3, 5, 1, 0] rfl)
