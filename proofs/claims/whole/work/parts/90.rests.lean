/-! the two calls that may throw: their texts, and their contracts where they return -/
def f_X12_rests_30 : Option (Int32) := none
def f_X12_rests_47 : Nat → Int32 → Int32 → Int32 → Int32 → Int32 → Int32 → Option (Int32)
  | 0, _, _, _, _, _, _ => none
  | n + 1, x1, x2, x3, x4, x5, x6 => if (4 : Int32) ≤ x6 then if x4 = (-1 : Int32) then some (x5)
      else none
    else if (f_X12_isAtRest (x1) (x2) (x3) (x6)) = (0 : Int32) then f_X12_rests_47 n x1 x2 x3 x4 x5 ((x6 + (1 : Int32)))
    else if x5 = x4 then some (x6)
    else f_X12_rests_47 n x1 x2 x3 x4 ((x5 + (1 : Int32))) ((x6 + (1 : Int32)))
def f_X12_rests (x1 : Int32) (x2 : Int32) (x3 : Int32) (x4 : Int32) : Option (Int32) := if (f_X12_within (x1) ((0 : Int32)) ((9 : Int32))) = (0 : Int32) then f_X12_rests_30
  else if (f_X12_within (x2) ((0 : Int32)) ((9 : Int32))) = (0 : Int32) then f_X12_rests_30
  else if (f_X12_within (x3) ((0 : Int32)) ((9 : Int32))) = (0 : Int32) then f_X12_rests_30
  else f_X12_rests_47 1100 x1 x2 x3 x4 ((0 : Int32)) ((0 : Int32))
abbrev rm_X12_rests : Room := { frames := 2, cells := 0, slots := 0, locals := 49 }
theorem hd_X12_rests : yX12_rests.cls = RX12 ∧ yX12_rests.cls ≠ "java/lang/invoke/MethodHandle" ∧ yX12_rests.cls ≠ "java/lang/invoke/VarHandle" ∧ (parseMethodDescriptor yX12_rests.desc).map (fun d => d.parameters.length) = some 4 := by decide +kernel
set_option maxRecDepth 100000 in
set_option maxHeartbeats 4000000 in
theorem kb_X12_rests_30 {E : En} {p : Program} {l : Launch} {e : Env} {s : State} {m : MethodId} {args : Array Value} {below : List Frame} {meth : Method} {c : Code} {A : Nat → Prop} {t_o : Nat} {t_q : Nat → Nat} {t_tape : Value} {t_reader : Value} {t_counsel : Value} {t_now : Value} {t_trial : Value} {t_past : Value} {t_reports : Value} {t_marks : (Nat → Option Nat)} {t_city : Value} {t_spareCity : Value} {t_script : Value} {t_spareScript : Value} {t_firstRefused : Int32} {t_firstKept : Int32} {out : Int32} (X : Bx E A p s m args meth c cX12_rests 7 RX12 (some .int)) {H : Heap} {locs : List Loc} {ls : Array Slot} (hf : f_X12_rests_30 = some out) : Wd E A s.heap (wX12 E t_o t_q t_tape t_reader t_counsel t_now t_trial t_past t_reports t_marks t_city t_spareCity t_script t_spareScript t_firstRefused t_firstKept) H locs → lv_has ls 7 [] → W p l e rm_X12_rests s m args below meth c H locs 0 0 (Zn E below args s A (some (.int out)) (wX12 E t_o t_q t_tape t_reader t_counsel t_now t_trial t_past t_reports t_marks t_city t_spareCity t_script t_spareScript t_firstRefused t_firstKept)) (F0 m 30 ls []) := by
  have hx := X.1.1
  have hb := X.1.2.1
  have ho := X.1.2.2.2.1
  have hts := X.1.2.2.2.2
  intro hw hl
  unfold f_X12_rests_30 at hf
  cases hf
set_option maxRecDepth 100000 in
set_option maxHeartbeats 4000000 in
theorem kb_X12_rests_47 {E : En} {p : Program} {l : Launch} {e : Env} {s : State} {m : MethodId} {args : Array Value} {below : List Frame} {meth : Method} {c : Code} {A : Nat → Prop} {t_o : Nat} {t_q : Nat → Nat} {t_tape : Value} {t_reader : Value} {t_counsel : Value} {t_now : Value} {t_trial : Value} {t_past : Value} {t_reports : Value} {t_marks : (Nat → Option Nat)} {t_city : Value} {t_spareCity : Value} {t_script : Value} {t_spareScript : Value} {t_firstRefused : Int32} {t_firstKept : Int32} {out : Int32} (X : Bx E A p s m args meth c cX12_rests 7 RX12 (some .int)) : ∀ (n : Nat) {x1 : Int32} {x2 : Int32} {x3 : Int32} {x4 : Int32} {x5 : Int32} {x6 : Int32} {H : Heap} {locs : List Loc} {ls : Array Slot}, f_X12_rests_47 n x1 x2 x3 x4 x5 x6 = some out → Wd E A s.heap (wX12 E t_o t_q t_tape t_reader t_counsel t_now t_trial t_past t_reports t_marks t_city t_spareCity t_script t_spareScript t_firstRefused t_firstKept) H locs → lv_has ls 7 [(1, .int (x1)), (2, .int (x2)), (3, .int (x3)), (4, .int (x4)), (5, .int (x5)), (6, .int (x6))] → W p l e rm_X12_rests s m args below meth c H locs 0 0 (Zn E below args s A (some (.int out)) (wX12 E t_o t_q t_tape t_reader t_counsel t_now t_trial t_past t_reports t_marks t_city t_spareCity t_script t_spareScript t_firstRefused t_firstKept)) (F0 m 47 ls []) := by
  have hx := X.1.1
  have hb := X.1.2.1
  have ho := X.1.2.2.2.1
  have hts := X.1.2.2.2.2
  intro n
  induction n with
  | zero =>
    intro x1 x2 x3 x4 x5 x6 H locs ls hf
    have hf : (none : Option (Int32)) = some out := hf
    cases hf
  | succ n ih =>
    intro x1 x2 x3 x4 x5 x6 H locs ls hf hw hl
    rw [f_X12_rests_47.eq_2] at hf
    refine lv_iload hx hb dX12_rests_47 (lv_at hl 5 rfl) ?_
    refine lv_iconst (v := (4 : Int32)) hx hb dX12_rests_49 (by decide) ?_
    refine lv_icmp_ge (tgt := 83) hx hb dX12_rests_50 (by decide) (fun c_50 => ?_) (fun c_50 => ?_)
    · have hf := (if_pos c_50).symm.trans hf
      refine lv_iload hx hb dX12_rests_83 (lv_at hl 3 rfl) ?_
      refine lv_iconst (v := (-1 : Int32)) hx hb dX12_rests_85 (by decide) ?_
      refine lv_icmp_eq (tgt := 100) hx hb dX12_rests_86 (by decide) (fun c_86 => ?_) (fun c_86 => ?_)
      · have hf := (if_pos c_86).symm.trans hf
        refine lv_iload hx hb dX12_rests_100 (lv_at hl 4 rfl) ?_
        obtain rfl := Option.some.inj hf
        exact k_iret X hw dX12_rests_102
      · have hf := (if_neg c_86).symm.trans hf
        cases hf
    · have hf := (if_neg c_50).symm.trans hf
      refine lv_iload_n hx hb dX12_rests_53 rfl (lv_at hl 0 rfl) ?_
      refine lv_iload_n hx hb dX12_rests_54 rfl (lv_at hl 1 rfl) ?_
      refine lv_iload_n hx hb dX12_rests_55 rfl (lv_at hl 2 rfl) ?_
      refine lv_iload hx hb dX12_rests_56 (lv_at hl 5 rfl) ?_
      refine k_S (As := [.int (x1), .int (x2), .int (x3), .int (x6)]) (rest := []) (index := 297) X (c_X12_isAtRest (out := (f_X12_isAtRest (x1) (x2) (x3) (x6))) rfl) tw_1356 tw_1357 tw_119 tw_1358 ⟨rfl, rfl⟩ hd_X12_isAtRest ⟨Nat.le_of_ble_eq_true rfl, Nat.le_of_ble_eq_true rfl⟩ ⟨Nat.zero_le _, Nat.zero_le _⟩ hw [] rfl rfl rfl hl.1 rfl (Nat.le_of_ble_eq_true rfl) dX12_rests_58 (fun H locs hw => ?_)
      have hw : Wd E A s.heap (wX12 E t_o t_q t_tape t_reader t_counsel t_now t_trial t_past t_reports t_marks t_city t_spareCity t_script t_spareScript t_firstRefused t_firstKept) H locs := hw
      refine lv_if_eq (tgt := 77) hx hb dX12_rests_61 (by decide) (fun c_61 => ?_) (fun c_61 => ?_)
      · have hf := (if_pos c_61).symm.trans hf
        refine lv_iinc (v := (x6 + (1 : Int32))) (lv' := [(6, .int ((x6 + (1 : Int32)))), (1, .int (x1)), (2, .int (x2)), (3, .int (x3)), (4, .int (x4)), (5, .int (x5))]) hx hb dX12_rests_77 hl (k := 5) rfl rfl (by decide) rfl (fun ls hl => ?_)
        refine lv_goto (tgt := 47) hx hb dX12_rests_80 (by decide) ?_
        exact ih hf hw (lv_sub hl [1, 2, 3, 4, 5, 0] rfl)
      · have hf := (if_neg c_61).symm.trans hf
        refine lv_iload hx hb dX12_rests_64 (lv_at hl 4 rfl) ?_
        refine lv_iload hx hb dX12_rests_66 (lv_at hl 3 rfl) ?_
        refine lv_icmp_ne (tgt := 74) hx hb dX12_rests_68 (by decide) (fun c_68 => ?_) (fun c_68 => ?_)
        · have hf := (if_neg c_68).symm.trans hf
          refine lv_iinc (v := (x5 + (1 : Int32))) (lv' := [(5, .int ((x5 + (1 : Int32)))), (1, .int (x1)), (2, .int (x2)), (3, .int (x3)), (4, .int (x4)), (6, .int (x6))]) hx hb dX12_rests_74 hl (k := 4) rfl rfl (by decide) rfl (fun ls hl => ?_)
          refine lv_iinc (v := (x6 + (1 : Int32))) (lv' := [(6, .int ((x6 + (1 : Int32)))), (5, .int ((x5 + (1 : Int32)))), (1, .int (x1)), (2, .int (x2)), (3, .int (x3)), (4, .int (x4))]) hx hb dX12_rests_77 hl (k := 5) rfl rfl (by decide) rfl (fun ls hl => ?_)
          refine lv_goto (tgt := 47) hx hb dX12_rests_80 (by decide) ?_
          exact ih hf hw (lv_sub hl [2, 3, 4, 5, 1, 0] rfl)
        · have hf := (if_pos c_68).symm.trans hf
          refine lv_iload hx hb dX12_rests_71 (lv_at hl 5 rfl) ?_
          obtain rfl := Option.some.inj hf
          exact k_iret X hw dX12_rests_73
set_option maxRecDepth 100000 in
set_option maxHeartbeats 4000000 in
theorem c_X12_rests {E : En} {l : Launch} {t_o : Nat} {t_q : Nat → Nat} {t_tape : Value} {t_reader : Value} {t_counsel : Value} {t_now : Value} {t_trial : Value} {t_past : Value} {t_reports : Value} {t_marks : (Nat → Option Nat)} {t_city : Value} {t_spareCity : Value} {t_script : Value} {t_spareScript : Value} {t_firstRefused : Int32} {t_firstKept : Int32} {x1 : Int32} {x2 : Int32} {x3 : Int32} {x4 : Int32} {out : Int32} (hf : f_X12_rests x1 x2 x3 x4 = some out) : Cn E l yX12_rests cX12_rests 7 (some .int) rm_X12_rests [.ref t_o, .int (x1), .int (x2), .int (x3), .int (x4)] (wX12 E t_o t_q t_tape t_reader t_counsel t_now t_trial t_past t_reports t_marks t_city t_spareCity t_script t_spareScript t_firstRefused t_firstKept) (some (.int out)) (wX12 E t_o t_q t_tape t_reader t_counsel t_now t_trial t_past t_reports t_marks t_city t_spareCity t_script t_spareScript t_firstRefused t_firstKept) := by
  refine Cn.of (by decide) (Nat.le_of_ble_eq_true rfl) rfl ?_
  intro p e s m below meth c A ls args H locs X hw hl
  have hx := X.1.1
  have hb := X.1.2.1
  have ho := X.1.2.2.2.1
  have hts := X.1.2.2.2.2
  have hl : lv_has ls 7 [(0, .ref t_o), (1, .int (x1)), (2, .int (x2)), (3, .int (x3)), (4, .int (x4))] := hl
  unfold f_X12_rests at hf
  refine lv_iload_n hx hb dX12_rests_0 rfl (lv_at hl 1 rfl) ?_
  refine lv_iconst (v := (0 : Int32)) hx hb dX12_rests_1 (by decide) ?_
  refine lv_bipush (v := (9 : Int32)) hx hb dX12_rests_2 (by decide) ?_
  refine k_S (As := [.int (x1), .int ((0 : Int32)), .int ((9 : Int32))]) (rest := []) (index := 227) X (c_X12_within (out := (f_X12_within (x1) ((0 : Int32)) ((9 : Int32)))) rfl) tw_1105 tw_560 tw_119 tw_561 ⟨rfl, rfl⟩ hd_X12_within ⟨Nat.le_of_ble_eq_true rfl, Nat.le_of_ble_eq_true rfl⟩ ⟨Nat.zero_le _, Nat.zero_le _⟩ hw [] rfl rfl rfl hl.1 rfl (Nat.le_of_ble_eq_true rfl) dX12_rests_4 (fun H locs hw => ?_)
  have hw : Wd E A s.heap (wX12 E t_o t_q t_tape t_reader t_counsel t_now t_trial t_past t_reports t_marks t_city t_spareCity t_script t_spareScript t_firstRefused t_firstKept) H locs := hw
  refine lv_if_eq (tgt := 30) hx hb dX12_rests_7 (by decide) (fun c_7 => ?_) (fun c_7 => ?_)
  · have hf := (if_pos c_7).symm.trans hf
    exact kb_X12_rests_30 X hf hw (lv_sub hl [] rfl)
  · have hf := (if_neg c_7).symm.trans hf
    refine lv_iload_n hx hb dX12_rests_10 rfl (lv_at hl 2 rfl) ?_
    refine lv_iconst (v := (0 : Int32)) hx hb dX12_rests_11 (by decide) ?_
    refine lv_bipush (v := (9 : Int32)) hx hb dX12_rests_12 (by decide) ?_
    refine k_S (As := [.int (x2), .int ((0 : Int32)), .int ((9 : Int32))]) (rest := []) (index := 227) X (c_X12_within (out := (f_X12_within (x2) ((0 : Int32)) ((9 : Int32)))) rfl) tw_1105 tw_560 tw_119 tw_561 ⟨rfl, rfl⟩ hd_X12_within ⟨Nat.le_of_ble_eq_true rfl, Nat.le_of_ble_eq_true rfl⟩ ⟨Nat.zero_le _, Nat.zero_le _⟩ hw [] rfl rfl rfl hl.1 rfl (Nat.le_of_ble_eq_true rfl) dX12_rests_14 (fun H locs hw => ?_)
    have hw : Wd E A s.heap (wX12 E t_o t_q t_tape t_reader t_counsel t_now t_trial t_past t_reports t_marks t_city t_spareCity t_script t_spareScript t_firstRefused t_firstKept) H locs := hw
    refine lv_if_eq (tgt := 30) hx hb dX12_rests_17 (by decide) (fun c_17 => ?_) (fun c_17 => ?_)
    · have hf := (if_pos c_17).symm.trans hf
      exact kb_X12_rests_30 X hf hw (lv_sub hl [] rfl)
    · have hf := (if_neg c_17).symm.trans hf
      refine lv_iload_n hx hb dX12_rests_20 rfl (lv_at hl 3 rfl) ?_
      refine lv_iconst (v := (0 : Int32)) hx hb dX12_rests_21 (by decide) ?_
      refine lv_bipush (v := (9 : Int32)) hx hb dX12_rests_22 (by decide) ?_
      refine k_S (As := [.int (x3), .int ((0 : Int32)), .int ((9 : Int32))]) (rest := []) (index := 227) X (c_X12_within (out := (f_X12_within (x3) ((0 : Int32)) ((9 : Int32)))) rfl) tw_1105 tw_560 tw_119 tw_561 ⟨rfl, rfl⟩ hd_X12_within ⟨Nat.le_of_ble_eq_true rfl, Nat.le_of_ble_eq_true rfl⟩ ⟨Nat.zero_le _, Nat.zero_le _⟩ hw [] rfl rfl rfl hl.1 rfl (Nat.le_of_ble_eq_true rfl) dX12_rests_24 (fun H locs hw => ?_)
      have hw : Wd E A s.heap (wX12 E t_o t_q t_tape t_reader t_counsel t_now t_trial t_past t_reports t_marks t_city t_spareCity t_script t_spareScript t_firstRefused t_firstKept) H locs := hw
      refine lv_if_ne (tgt := 41) hx hb dX12_rests_27 (by decide) (fun c_27 => ?_) (fun c_27 => ?_)
      · have hf := (if_neg c_27).symm.trans hf
        refine lv_iconst (v := (0 : Int32)) hx hb dX12_rests_41 (by decide) ?_
        refine lv_istore (lv' := [(5, .int ((0 : Int32))), (0, .ref t_o), (1, .int (x1)), (2, .int (x2)), (3, .int (x3)), (4, .int (x4))]) hx hb dX12_rests_42 hl (by decide) rfl (fun ls hl => ?_)
        refine lv_iconst (v := (0 : Int32)) hx hb dX12_rests_44 (by decide) ?_
        refine lv_istore (lv' := [(6, .int ((0 : Int32))), (5, .int ((0 : Int32))), (0, .ref t_o), (1, .int (x1)), (2, .int (x2)), (3, .int (x3)), (4, .int (x4))]) hx hb dX12_rests_45 hl (by decide) rfl (fun ls hl => ?_)
        exact kb_X12_rests_47 X 1100 hf hw (lv_sub hl [3, 4, 5, 6, 1, 0] rfl)
      · have hf := (if_pos c_27).symm.trans hf
        exact kb_X12_rests_30 X hf hw (lv_sub hl [] rfl)
def f_X12_chance_22 : Option (Int32 × (Nat → Int32) × (Nat → Int64) × (Nat → Int64) × Bool) := none
def f_X12_chance_54 : Option (Int32 × (Nat → Int32) × (Nat → Int64) × (Nat → Int64) × Bool) := none
def f_X12_chance (tscity_men : Int32) (tscity_dangers : Int32) (tscity_kinds : (Nat → Int32)) (tscity_skills : (Nat → Int32)) (tscity_wants : (Nat → Int32)) (tscity_grows : (Nat → Int32)) (tscityslaws_ops : (Nat → Int32)) (tscityslaws_stack : (Nat → Int32)) (tscityslaws_worksFrom : Int32) (tscityslaws_worksTo : Int32) (tscityslaws_keepsFrom : Int32) (tscityslaws_keepsTo : Int32) (tscounselsnextWays_f : (Nat → Int64)) (tscounselsways_f : (Nat → Int64)) (tsnow_sizes : (Nat → Int32)) (x1 : Int32) (x2 : Int32) (x3 : Int32) (x4 : Int32) : Option (Int32 × (Nat → Int32) × (Nat → Int64) × (Nat → Int64) × Bool) := if (f_X1_hasMan tscity_men (x1)) = (0 : Int32) then f_X12_chance_22
  else if (f_X1_hasDanger tscity_dangers (x2)) = (0 : Int32) then f_X12_chance_22
  else if (f_X12_within (x3) ((0 : Int32)) ((10 : Int32))) = (0 : Int32) then f_X12_chance_54
  else if (f_X12_within (x4) ((1 : Int32)) ((12 : Int32))) = (0 : Int32) then f_X12_chance_54
  else (f_X2_chanceToEnd tscounselsnextWays_f tscounselsways_f tscity_kinds tscity_skills tscity_wants tscity_grows tscityslaws_ops tscityslaws_stack tscityslaws_worksFrom tscityslaws_worksTo tscityslaws_keepsFrom tscityslaws_keepsTo (x1) (x2) ((ga (5) tsnow_sizes (x2))) (x3) (x4)).bind fun r89 => some (r89.1, r89.2.2.2.1, r89.2.1, r89.2.2.1, r89.2.2.2.2)
abbrev rm_X12_chance : Room := { frames := 5, cells := 0, slots := 0, locals := 136 }
theorem hd_X12_chance : yX12_chance.cls = RX12 ∧ yX12_chance.cls ≠ "java/lang/invoke/MethodHandle" ∧ yX12_chance.cls ≠ "java/lang/invoke/VarHandle" ∧ (parseMethodDescriptor yX12_chance.desc).map (fun d => d.parameters.length) = some 4 := by decide +kernel
set_option maxRecDepth 100000 in
set_option maxHeartbeats 4000000 in
theorem kb_X12_chance_22 {E : En} {p : Program} {l : Launch} {e : Env} {s : State} {m : MethodId} {args : Array Value} {below : List Frame} {meth : Method} {c : Code} {A : Nat → Prop} {t_o : Nat} {t_q : Nat → Nat} {t_tape : Value} {t_reader : Value} {t_trial : Value} {t_past : Value} {t_reports : Value} {t_marks : (Nat → Option Nat)} {t_spareCity : Value} {t_script : Value} {t_spareScript : Value} {t_firstRefused : Int32} {t_firstKept : Int32} {tscity_o : Nat} {tscity_q : Nat → Nat} {tscity_men : Int32} {tscity_consuls : Int32} {tscity_dangers : Int32} {tscity_decrees : Int32} {tscity_term : Int32} {tscity_termTold : Int32} {tscity_manNames : (Nat → Int64)} {tscity_kinds : (Nat → Int32)} {tscity_skills : (Nat → Int32)} {tscity_fields : (Nat → Int32)} {tscity_wants : (Nat → Int32)} {tscity_hated : (Nat → Int32)} {tscity_dangerNames : (Nat → Int64)} {tscity_sizes : (Nat → Int32)} {tscity_grows : (Nat → Int32)} {tscity_decreeNames : (Nat → Int64)} {tscity_grounds : (Nat → Int32)} {tscityslaws_o : Nat} {tscityslaws_q : Nat → Nat} {tscityslaws_ops : (Nat → Int32)} {tscityslaws_size : Int32} {tscityslaws_worksFrom : Int32} {tscityslaws_worksTo : Int32} {tscityslaws_keepsFrom : Int32} {tscityslaws_keepsTo : Int32} {tscounsel_o : Nat} {tscounsel_q : Nat → Nat} {tscounsel_path : (Nat → Option Nat)} {tscounsel_row : (Nat → Int32)} {tscounsel_leastRow : (Nat → Int32)} {tscounsel_needed : (Nat → Int32)} {tscounsel_likeSizes : (Nat → Int32)} {tscounsel_least : Int32} {tscounsel_ended : Int32} {tscounsel_monthsKept : Int32} {tscounselsnextWays_o : Nat} {tscounselsways_o : Nat} {tsnow_o : Nat} {tsnow_q : Nat → Nat} {tsnow_month : Int32} {tsnow_power : Int32} {tsnow_master : Int32} {tsnow_left : Int32} {tsnow_kept : Int32} {tsnow_passed : Int32} {tsnow_sizes : (Nat → Int32)} {tsnow_fields : (Nat → Int32)} {tsnow_liked : (Nat → Int32)} {out : Int32 × (Nat → Int32) × (Nat → Int64) × (Nat → Int64) × Bool} (X : Bx E A p s m args meth c cX12_chance 5 RX12 (some .int)) {tscityslaws_stack : (Nat → Int32)} {tscounselsnextWays_f : (Nat → Int64)} {tscounselsways_f : (Nat → Int64)} {H : Heap} {locs : List Loc} {ls : Array Slot} (hf : f_X12_chance_22 = some out) : Wd E A s.heap (wX12 E t_o t_q t_tape t_reader (.ref tscounsel_o) (.ref tsnow_o) t_trial t_past t_reports t_marks (.ref tscity_o) t_spareCity t_script t_spareScript t_firstRefused t_firstKept ++ (wX1 E tscity_o tscity_q tscity_men tscity_consuls tscity_dangers tscity_decrees tscity_term tscity_termTold tscity_manNames tscity_kinds tscity_skills tscity_fields tscity_wants tscity_hated tscity_dangerNames tscity_sizes tscity_grows tscity_decreeNames tscity_grounds (.ref tscityslaws_o) ++ (wX3 E tscityslaws_o tscityslaws_q tscityslaws_ops tscityslaws_stack tscityslaws_size tscityslaws_worksFrom tscityslaws_worksTo tscityslaws_keepsFrom tscityslaws_keepsTo ++ (wX2 E tscounsel_o tscounsel_q tscounsel_path tscounsel_row tscounsel_leastRow tscounsel_needed tscounsel_likeSizes (.ref tscounselsways_o) (.ref tscounselsnextWays_o) tscounsel_least tscounsel_ended tscounsel_monthsKept ++ (wL E tscounselsnextWays_o 100 tscounselsnextWays_f ++ (wL E tscounselsways_o 100 tscounselsways_f ++ (wX9 E tsnow_o tsnow_q tsnow_month tsnow_power tsnow_master tsnow_left tsnow_kept tsnow_passed tsnow_sizes tsnow_fields tsnow_liked))))))) H locs → lv_has ls 5 [] → W p l e rm_X12_chance s m args below meth c H locs 0 0 (Zn E below args s A (some (.int out.1)) (wX12 E t_o t_q t_tape t_reader (.ref tscounsel_o) (.ref tsnow_o) t_trial t_past t_reports t_marks (.ref tscity_o) t_spareCity t_script t_spareScript t_firstRefused t_firstKept ++ (wX1 E tscity_o tscity_q tscity_men tscity_consuls tscity_dangers tscity_decrees tscity_term tscity_termTold tscity_manNames tscity_kinds tscity_skills tscity_fields tscity_wants tscity_hated tscity_dangerNames tscity_sizes tscity_grows tscity_decreeNames tscity_grounds (.ref tscityslaws_o) ++ (wX3 E tscityslaws_o tscityslaws_q tscityslaws_ops out.2.1 tscityslaws_size tscityslaws_worksFrom tscityslaws_worksTo tscityslaws_keepsFrom tscityslaws_keepsTo ++ (wX2 E tscounsel_o tscounsel_q tscounsel_path tscounsel_row tscounsel_leastRow tscounsel_needed tscounsel_likeSizes (cond out.2.2.2.2 (.ref tscounselsnextWays_o) (.ref tscounselsways_o)) (cond out.2.2.2.2 (.ref tscounselsways_o) (.ref tscounselsnextWays_o)) tscounsel_least tscounsel_ended tscounsel_monthsKept ++ (wL E tscounselsnextWays_o 100 out.2.2.1 ++ (wL E tscounselsways_o 100 out.2.2.2.1 ++ (wX9 E tsnow_o tsnow_q tsnow_month tsnow_power tsnow_master tsnow_left tsnow_kept tsnow_passed tsnow_sizes tsnow_fields tsnow_liked)))))))) (F0 m 22 ls []) := by
  have hx := X.1.1
  have hb := X.1.2.1
  have ho := X.1.2.2.2.1
  have hts := X.1.2.2.2.2
  intro hw hl
  unfold f_X12_chance_22 at hf
  cases hf
set_option maxRecDepth 100000 in
set_option maxHeartbeats 4000000 in
theorem kb_X12_chance_54 {E : En} {p : Program} {l : Launch} {e : Env} {s : State} {m : MethodId} {args : Array Value} {below : List Frame} {meth : Method} {c : Code} {A : Nat → Prop} {t_o : Nat} {t_q : Nat → Nat} {t_tape : Value} {t_reader : Value} {t_trial : Value} {t_past : Value} {t_reports : Value} {t_marks : (Nat → Option Nat)} {t_spareCity : Value} {t_script : Value} {t_spareScript : Value} {t_firstRefused : Int32} {t_firstKept : Int32} {tscity_o : Nat} {tscity_q : Nat → Nat} {tscity_men : Int32} {tscity_consuls : Int32} {tscity_dangers : Int32} {tscity_decrees : Int32} {tscity_term : Int32} {tscity_termTold : Int32} {tscity_manNames : (Nat → Int64)} {tscity_kinds : (Nat → Int32)} {tscity_skills : (Nat → Int32)} {tscity_fields : (Nat → Int32)} {tscity_wants : (Nat → Int32)} {tscity_hated : (Nat → Int32)} {tscity_dangerNames : (Nat → Int64)} {tscity_sizes : (Nat → Int32)} {tscity_grows : (Nat → Int32)} {tscity_decreeNames : (Nat → Int64)} {tscity_grounds : (Nat → Int32)} {tscityslaws_o : Nat} {tscityslaws_q : Nat → Nat} {tscityslaws_ops : (Nat → Int32)} {tscityslaws_size : Int32} {tscityslaws_worksFrom : Int32} {tscityslaws_worksTo : Int32} {tscityslaws_keepsFrom : Int32} {tscityslaws_keepsTo : Int32} {tscounsel_o : Nat} {tscounsel_q : Nat → Nat} {tscounsel_path : (Nat → Option Nat)} {tscounsel_row : (Nat → Int32)} {tscounsel_leastRow : (Nat → Int32)} {tscounsel_needed : (Nat → Int32)} {tscounsel_likeSizes : (Nat → Int32)} {tscounsel_least : Int32} {tscounsel_ended : Int32} {tscounsel_monthsKept : Int32} {tscounselsnextWays_o : Nat} {tscounselsways_o : Nat} {tsnow_o : Nat} {tsnow_q : Nat → Nat} {tsnow_month : Int32} {tsnow_power : Int32} {tsnow_master : Int32} {tsnow_left : Int32} {tsnow_kept : Int32} {tsnow_passed : Int32} {tsnow_sizes : (Nat → Int32)} {tsnow_fields : (Nat → Int32)} {tsnow_liked : (Nat → Int32)} {out : Int32 × (Nat → Int32) × (Nat → Int64) × (Nat → Int64) × Bool} (X : Bx E A p s m args meth c cX12_chance 5 RX12 (some .int)) {tscityslaws_stack : (Nat → Int32)} {tscounselsnextWays_f : (Nat → Int64)} {tscounselsways_f : (Nat → Int64)} {H : Heap} {locs : List Loc} {ls : Array Slot} (hf : f_X12_chance_54 = some out) : Wd E A s.heap (wX12 E t_o t_q t_tape t_reader (.ref tscounsel_o) (.ref tsnow_o) t_trial t_past t_reports t_marks (.ref tscity_o) t_spareCity t_script t_spareScript t_firstRefused t_firstKept ++ (wX1 E tscity_o tscity_q tscity_men tscity_consuls tscity_dangers tscity_decrees tscity_term tscity_termTold tscity_manNames tscity_kinds tscity_skills tscity_fields tscity_wants tscity_hated tscity_dangerNames tscity_sizes tscity_grows tscity_decreeNames tscity_grounds (.ref tscityslaws_o) ++ (wX3 E tscityslaws_o tscityslaws_q tscityslaws_ops tscityslaws_stack tscityslaws_size tscityslaws_worksFrom tscityslaws_worksTo tscityslaws_keepsFrom tscityslaws_keepsTo ++ (wX2 E tscounsel_o tscounsel_q tscounsel_path tscounsel_row tscounsel_leastRow tscounsel_needed tscounsel_likeSizes (.ref tscounselsways_o) (.ref tscounselsnextWays_o) tscounsel_least tscounsel_ended tscounsel_monthsKept ++ (wL E tscounselsnextWays_o 100 tscounselsnextWays_f ++ (wL E tscounselsways_o 100 tscounselsways_f ++ (wX9 E tsnow_o tsnow_q tsnow_month tsnow_power tsnow_master tsnow_left tsnow_kept tsnow_passed tsnow_sizes tsnow_fields tsnow_liked))))))) H locs → lv_has ls 5 [] → W p l e rm_X12_chance s m args below meth c H locs 0 0 (Zn E below args s A (some (.int out.1)) (wX12 E t_o t_q t_tape t_reader (.ref tscounsel_o) (.ref tsnow_o) t_trial t_past t_reports t_marks (.ref tscity_o) t_spareCity t_script t_spareScript t_firstRefused t_firstKept ++ (wX1 E tscity_o tscity_q tscity_men tscity_consuls tscity_dangers tscity_decrees tscity_term tscity_termTold tscity_manNames tscity_kinds tscity_skills tscity_fields tscity_wants tscity_hated tscity_dangerNames tscity_sizes tscity_grows tscity_decreeNames tscity_grounds (.ref tscityslaws_o) ++ (wX3 E tscityslaws_o tscityslaws_q tscityslaws_ops out.2.1 tscityslaws_size tscityslaws_worksFrom tscityslaws_worksTo tscityslaws_keepsFrom tscityslaws_keepsTo ++ (wX2 E tscounsel_o tscounsel_q tscounsel_path tscounsel_row tscounsel_leastRow tscounsel_needed tscounsel_likeSizes (cond out.2.2.2.2 (.ref tscounselsnextWays_o) (.ref tscounselsways_o)) (cond out.2.2.2.2 (.ref tscounselsways_o) (.ref tscounselsnextWays_o)) tscounsel_least tscounsel_ended tscounsel_monthsKept ++ (wL E tscounselsnextWays_o 100 out.2.2.1 ++ (wL E tscounselsways_o 100 out.2.2.2.1 ++ (wX9 E tsnow_o tsnow_q tsnow_month tsnow_power tsnow_master tsnow_left tsnow_kept tsnow_passed tsnow_sizes tsnow_fields tsnow_liked)))))))) (F0 m 54 ls []) := by
  have hx := X.1.1
  have hb := X.1.2.1
  have ho := X.1.2.2.2.1
  have hts := X.1.2.2.2.2
  intro hw hl
  unfold f_X12_chance_54 at hf
  cases hf
set_option maxRecDepth 100000 in
set_option maxHeartbeats 4000000 in
theorem c_X12_chance {E : En} {l : Launch} {t_o : Nat} {t_q : Nat → Nat} {t_tape : Value} {t_reader : Value} {t_trial : Value} {t_past : Value} {t_reports : Value} {t_marks : (Nat → Option Nat)} {t_spareCity : Value} {t_script : Value} {t_spareScript : Value} {t_firstRefused : Int32} {t_firstKept : Int32} {tscity_o : Nat} {tscity_q : Nat → Nat} {tscity_men : Int32} {tscity_consuls : Int32} {tscity_dangers : Int32} {tscity_decrees : Int32} {tscity_term : Int32} {tscity_termTold : Int32} {tscity_manNames : (Nat → Int64)} {tscity_kinds : (Nat → Int32)} {tscity_skills : (Nat → Int32)} {tscity_fields : (Nat → Int32)} {tscity_wants : (Nat → Int32)} {tscity_hated : (Nat → Int32)} {tscity_dangerNames : (Nat → Int64)} {tscity_sizes : (Nat → Int32)} {tscity_grows : (Nat → Int32)} {tscity_decreeNames : (Nat → Int64)} {tscity_grounds : (Nat → Int32)} {tscityslaws_o : Nat} {tscityslaws_q : Nat → Nat} {tscityslaws_ops : (Nat → Int32)} {tscityslaws_stack : (Nat → Int32)} {tscityslaws_size : Int32} {tscityslaws_worksFrom : Int32} {tscityslaws_worksTo : Int32} {tscityslaws_keepsFrom : Int32} {tscityslaws_keepsTo : Int32} {tscounsel_o : Nat} {tscounsel_q : Nat → Nat} {tscounsel_path : (Nat → Option Nat)} {tscounsel_row : (Nat → Int32)} {tscounsel_leastRow : (Nat → Int32)} {tscounsel_needed : (Nat → Int32)} {tscounsel_likeSizes : (Nat → Int32)} {tscounsel_least : Int32} {tscounsel_ended : Int32} {tscounsel_monthsKept : Int32} {tscounselsnextWays_o : Nat} {tscounselsnextWays_f : (Nat → Int64)} {tscounselsways_o : Nat} {tscounselsways_f : (Nat → Int64)} {tsnow_o : Nat} {tsnow_q : Nat → Nat} {tsnow_month : Int32} {tsnow_power : Int32} {tsnow_master : Int32} {tsnow_left : Int32} {tsnow_kept : Int32} {tsnow_passed : Int32} {tsnow_sizes : (Nat → Int32)} {tsnow_fields : (Nat → Int32)} {tsnow_liked : (Nat → Int32)} {x1 : Int32} {x2 : Int32} {x3 : Int32} {x4 : Int32} {out : Int32 × (Nat → Int32) × (Nat → Int64) × (Nat → Int64) × Bool} (hf : f_X12_chance tscity_men tscity_dangers tscity_kinds tscity_skills tscity_wants tscity_grows tscityslaws_ops tscityslaws_stack tscityslaws_worksFrom tscityslaws_worksTo tscityslaws_keepsFrom tscityslaws_keepsTo tscounselsnextWays_f tscounselsways_f tsnow_sizes x1 x2 x3 x4 = some out) : Cn E l yX12_chance cX12_chance 5 (some .int) rm_X12_chance [.ref t_o, .int (x1), .int (x2), .int (x3), .int (x4)] (wX12 E t_o t_q t_tape t_reader (.ref tscounsel_o) (.ref tsnow_o) t_trial t_past t_reports t_marks (.ref tscity_o) t_spareCity t_script t_spareScript t_firstRefused t_firstKept ++ (wX1 E tscity_o tscity_q tscity_men tscity_consuls tscity_dangers tscity_decrees tscity_term tscity_termTold tscity_manNames tscity_kinds tscity_skills tscity_fields tscity_wants tscity_hated tscity_dangerNames tscity_sizes tscity_grows tscity_decreeNames tscity_grounds (.ref tscityslaws_o) ++ (wX3 E tscityslaws_o tscityslaws_q tscityslaws_ops tscityslaws_stack tscityslaws_size tscityslaws_worksFrom tscityslaws_worksTo tscityslaws_keepsFrom tscityslaws_keepsTo ++ (wX2 E tscounsel_o tscounsel_q tscounsel_path tscounsel_row tscounsel_leastRow tscounsel_needed tscounsel_likeSizes (.ref tscounselsways_o) (.ref tscounselsnextWays_o) tscounsel_least tscounsel_ended tscounsel_monthsKept ++ (wL E tscounselsnextWays_o 100 tscounselsnextWays_f ++ (wL E tscounselsways_o 100 tscounselsways_f ++ (wX9 E tsnow_o tsnow_q tsnow_month tsnow_power tsnow_master tsnow_left tsnow_kept tsnow_passed tsnow_sizes tsnow_fields tsnow_liked))))))) (some (.int out.1)) (wX12 E t_o t_q t_tape t_reader (.ref tscounsel_o) (.ref tsnow_o) t_trial t_past t_reports t_marks (.ref tscity_o) t_spareCity t_script t_spareScript t_firstRefused t_firstKept ++ (wX1 E tscity_o tscity_q tscity_men tscity_consuls tscity_dangers tscity_decrees tscity_term tscity_termTold tscity_manNames tscity_kinds tscity_skills tscity_fields tscity_wants tscity_hated tscity_dangerNames tscity_sizes tscity_grows tscity_decreeNames tscity_grounds (.ref tscityslaws_o) ++ (wX3 E tscityslaws_o tscityslaws_q tscityslaws_ops out.2.1 tscityslaws_size tscityslaws_worksFrom tscityslaws_worksTo tscityslaws_keepsFrom tscityslaws_keepsTo ++ (wX2 E tscounsel_o tscounsel_q tscounsel_path tscounsel_row tscounsel_leastRow tscounsel_needed tscounsel_likeSizes (cond out.2.2.2.2 (.ref tscounselsnextWays_o) (.ref tscounselsways_o)) (cond out.2.2.2.2 (.ref tscounselsways_o) (.ref tscounselsnextWays_o)) tscounsel_least tscounsel_ended tscounsel_monthsKept ++ (wL E tscounselsnextWays_o 100 out.2.2.1 ++ (wL E tscounselsways_o 100 out.2.2.2.1 ++ (wX9 E tsnow_o tsnow_q tsnow_month tsnow_power tsnow_master tsnow_left tsnow_kept tsnow_passed tsnow_sizes tsnow_fields tsnow_liked))))))) := by
  refine Cn.of (by decide) (Nat.le_of_ble_eq_true rfl) rfl ?_
  intro p e s m below meth c A ls args H locs X hw hl
  have hx := X.1.1
  have hb := X.1.2.1
  have ho := X.1.2.2.2.1
  have hts := X.1.2.2.2.2
  have hl : lv_has ls 5 [(0, .ref t_o), (1, .int (x1)), (2, .int (x2)), (3, .int (x3)), (4, .int (x4))] := hl
  unfold f_X12_chance at hf
  refine lv_aload_n hx hb dX12_chance_0 rfl (lv_at hl 0 rfl) ?_
  refine k_get (q0 := 0) (ci := 10) (C := RX12) (T := TX12) (N := 14) (x := .ref tscity_o) X inx_12 hw rfl rfl 8 (by decide) rfl tw_516 rfl dX12_chance_1 ?_
  refine lv_iload_n hx hb dX12_chance_4 rfl (lv_at hl 1 rfl) ?_
  refine k_V (As := [.int (x1)]) (rest := []) (index := 120) (C := RX1) X (c_X1_hasMan (out := (f_X1_hasMan tscity_men (x1))) rfl) tw_876 tw_717 tw_718 tw_126 tw_719 ⟨rfl, rfl⟩ hd_X1_hasMan ⟨Nat.le_of_ble_eq_true rfl, Nat.le_of_ble_eq_true rfl⟩ ⟨Nat.zero_le _, Nat.zero_le _⟩ hw [2, 3, 4, 5, 6, 7, 8, 9, 10, 11, 12, 13] rfl rfl 2 rfl rfl rfl rfl hl.1 rfl (Nat.le_of_ble_eq_true rfl) dX12_chance_5 (fun H locs hw => ?_)
  have hw : Wd E A s.heap (wX12 E t_o t_q t_tape t_reader (.ref tscounsel_o) (.ref tsnow_o) t_trial t_past t_reports t_marks (.ref tscity_o) t_spareCity t_script t_spareScript t_firstRefused t_firstKept ++ (wX1 E tscity_o tscity_q tscity_men tscity_consuls tscity_dangers tscity_decrees tscity_term tscity_termTold tscity_manNames tscity_kinds tscity_skills tscity_fields tscity_wants tscity_hated tscity_dangerNames tscity_sizes tscity_grows tscity_decreeNames tscity_grounds (.ref tscityslaws_o) ++ (wX3 E tscityslaws_o tscityslaws_q tscityslaws_ops tscityslaws_stack tscityslaws_size tscityslaws_worksFrom tscityslaws_worksTo tscityslaws_keepsFrom tscityslaws_keepsTo ++ (wX2 E tscounsel_o tscounsel_q tscounsel_path tscounsel_row tscounsel_leastRow tscounsel_needed tscounsel_likeSizes (.ref tscounselsways_o) (.ref tscounselsnextWays_o) tscounsel_least tscounsel_ended tscounsel_monthsKept ++ (wL E tscounselsnextWays_o 100 tscounselsnextWays_f ++ (wL E tscounselsways_o 100 tscounselsways_f ++ (wX9 E tsnow_o tsnow_q tsnow_month tsnow_power tsnow_master tsnow_left tsnow_kept tsnow_passed tsnow_sizes tsnow_fields tsnow_liked))))))) H locs := hw
  refine lv_if_eq (tgt := 22) hx hb dX12_chance_8 (by decide) (fun c_8 => ?_) (fun c_8 => ?_)
  · have hf := (if_pos c_8).symm.trans hf
    exact kb_X12_chance_22 X hf hw (lv_sub hl [] rfl)
  · have hf := (if_neg c_8).symm.trans hf
    refine lv_aload_n hx hb dX12_chance_11 rfl (lv_at hl 0 rfl) ?_
    refine k_get (q0 := 0) (ci := 10) (C := RX12) (T := TX12) (N := 14) (x := .ref tscity_o) X inx_12 hw rfl rfl 8 (by decide) rfl tw_516 rfl dX12_chance_12 ?_
    refine lv_iload_n hx hb dX12_chance_15 rfl (lv_at hl 2 rfl) ?_
    refine k_V (As := [.int (x2)]) (rest := []) (index := 147) (C := RX1) X (c_X1_hasDanger (out := (f_X1_hasDanger tscity_dangers (x2))) rfl) tw_883 tw_884 tw_885 tw_126 tw_886 ⟨rfl, rfl⟩ hd_X1_hasDanger ⟨Nat.le_of_ble_eq_true rfl, Nat.le_of_ble_eq_true rfl⟩ ⟨Nat.zero_le _, Nat.zero_le _⟩ hw [2, 3, 4, 5, 6, 7, 8, 9, 10, 11, 12, 13] rfl rfl 2 rfl rfl rfl rfl hl.1 rfl (Nat.le_of_ble_eq_true rfl) dX12_chance_16 (fun H locs hw => ?_)
    have hw : Wd E A s.heap (wX12 E t_o t_q t_tape t_reader (.ref tscounsel_o) (.ref tsnow_o) t_trial t_past t_reports t_marks (.ref tscity_o) t_spareCity t_script t_spareScript t_firstRefused t_firstKept ++ (wX1 E tscity_o tscity_q tscity_men tscity_consuls tscity_dangers tscity_decrees tscity_term tscity_termTold tscity_manNames tscity_kinds tscity_skills tscity_fields tscity_wants tscity_hated tscity_dangerNames tscity_sizes tscity_grows tscity_decreeNames tscity_grounds (.ref tscityslaws_o) ++ (wX3 E tscityslaws_o tscityslaws_q tscityslaws_ops tscityslaws_stack tscityslaws_size tscityslaws_worksFrom tscityslaws_worksTo tscityslaws_keepsFrom tscityslaws_keepsTo ++ (wX2 E tscounsel_o tscounsel_q tscounsel_path tscounsel_row tscounsel_leastRow tscounsel_needed tscounsel_likeSizes (.ref tscounselsways_o) (.ref tscounselsnextWays_o) tscounsel_least tscounsel_ended tscounsel_monthsKept ++ (wL E tscounselsnextWays_o 100 tscounselsnextWays_f ++ (wL E tscounselsways_o 100 tscounselsways_f ++ (wX9 E tsnow_o tsnow_q tsnow_month tsnow_power tsnow_master tsnow_left tsnow_kept tsnow_passed tsnow_sizes tsnow_fields tsnow_liked))))))) H locs := hw
    refine lv_if_ne (tgt := 33) hx hb dX12_chance_19 (by decide) (fun c_19 => ?_) (fun c_19 => ?_)
    · have hf := (if_neg c_19).symm.trans hf
      refine lv_iload_n hx hb dX12_chance_33 rfl (lv_at hl 3 rfl) ?_
      refine lv_iconst (v := (0 : Int32)) hx hb dX12_chance_34 (by decide) ?_
      refine lv_bipush (v := (10 : Int32)) hx hb dX12_chance_35 (by decide) ?_
      refine k_S (As := [.int (x3), .int ((0 : Int32)), .int ((10 : Int32))]) (rest := []) (index := 227) X (c_X12_within (out := (f_X12_within (x3) ((0 : Int32)) ((10 : Int32)))) rfl) tw_1105 tw_560 tw_119 tw_561 ⟨rfl, rfl⟩ hd_X12_within ⟨Nat.le_of_ble_eq_true rfl, Nat.le_of_ble_eq_true rfl⟩ ⟨Nat.zero_le _, Nat.zero_le _⟩ hw [] rfl rfl rfl hl.1 rfl (Nat.le_of_ble_eq_true rfl) dX12_chance_37 (fun H locs hw => ?_)
      have hw : Wd E A s.heap (wX12 E t_o t_q t_tape t_reader (.ref tscounsel_o) (.ref tsnow_o) t_trial t_past t_reports t_marks (.ref tscity_o) t_spareCity t_script t_spareScript t_firstRefused t_firstKept ++ (wX1 E tscity_o tscity_q tscity_men tscity_consuls tscity_dangers tscity_decrees tscity_term tscity_termTold tscity_manNames tscity_kinds tscity_skills tscity_fields tscity_wants tscity_hated tscity_dangerNames tscity_sizes tscity_grows tscity_decreeNames tscity_grounds (.ref tscityslaws_o) ++ (wX3 E tscityslaws_o tscityslaws_q tscityslaws_ops tscityslaws_stack tscityslaws_size tscityslaws_worksFrom tscityslaws_worksTo tscityslaws_keepsFrom tscityslaws_keepsTo ++ (wX2 E tscounsel_o tscounsel_q tscounsel_path tscounsel_row tscounsel_leastRow tscounsel_needed tscounsel_likeSizes (.ref tscounselsways_o) (.ref tscounselsnextWays_o) tscounsel_least tscounsel_ended tscounsel_monthsKept ++ (wL E tscounselsnextWays_o 100 tscounselsnextWays_f ++ (wL E tscounselsways_o 100 tscounselsways_f ++ (wX9 E tsnow_o tsnow_q tsnow_month tsnow_power tsnow_master tsnow_left tsnow_kept tsnow_passed tsnow_sizes tsnow_fields tsnow_liked))))))) H locs := hw
      refine lv_if_eq (tgt := 54) hx hb dX12_chance_40 (by decide) (fun c_40 => ?_) (fun c_40 => ?_)
      · have hf := (if_pos c_40).symm.trans hf
        exact kb_X12_chance_54 X hf hw (lv_sub hl [] rfl)
      · have hf := (if_neg c_40).symm.trans hf
        refine lv_iload hx hb dX12_chance_43 (lv_at hl 4 rfl) ?_
        refine lv_iconst (v := (1 : Int32)) hx hb dX12_chance_45 (by decide) ?_
        refine lv_bipush (v := (12 : Int32)) hx hb dX12_chance_46 (by decide) ?_
        refine k_S (As := [.int (x4), .int ((1 : Int32)), .int ((12 : Int32))]) (rest := []) (index := 227) X (c_X12_within (out := (f_X12_within (x4) ((1 : Int32)) ((12 : Int32)))) rfl) tw_1105 tw_560 tw_119 tw_561 ⟨rfl, rfl⟩ hd_X12_within ⟨Nat.le_of_ble_eq_true rfl, Nat.le_of_ble_eq_true rfl⟩ ⟨Nat.zero_le _, Nat.zero_le _⟩ hw [] rfl rfl rfl hl.1 rfl (Nat.le_of_ble_eq_true rfl) dX12_chance_48 (fun H locs hw => ?_)
        have hw : Wd E A s.heap (wX12 E t_o t_q t_tape t_reader (.ref tscounsel_o) (.ref tsnow_o) t_trial t_past t_reports t_marks (.ref tscity_o) t_spareCity t_script t_spareScript t_firstRefused t_firstKept ++ (wX1 E tscity_o tscity_q tscity_men tscity_consuls tscity_dangers tscity_decrees tscity_term tscity_termTold tscity_manNames tscity_kinds tscity_skills tscity_fields tscity_wants tscity_hated tscity_dangerNames tscity_sizes tscity_grows tscity_decreeNames tscity_grounds (.ref tscityslaws_o) ++ (wX3 E tscityslaws_o tscityslaws_q tscityslaws_ops tscityslaws_stack tscityslaws_size tscityslaws_worksFrom tscityslaws_worksTo tscityslaws_keepsFrom tscityslaws_keepsTo ++ (wX2 E tscounsel_o tscounsel_q tscounsel_path tscounsel_row tscounsel_leastRow tscounsel_needed tscounsel_likeSizes (.ref tscounselsways_o) (.ref tscounselsnextWays_o) tscounsel_least tscounsel_ended tscounsel_monthsKept ++ (wL E tscounselsnextWays_o 100 tscounselsnextWays_f ++ (wL E tscounselsways_o 100 tscounselsways_f ++ (wX9 E tsnow_o tsnow_q tsnow_month tsnow_power tsnow_master tsnow_left tsnow_kept tsnow_passed tsnow_sizes tsnow_fields tsnow_liked))))))) H locs := hw
        refine lv_if_ne (tgt := 65) hx hb dX12_chance_51 (by decide) (fun c_51 => ?_) (fun c_51 => ?_)
        · have hf := (if_neg c_51).symm.trans hf
          refine lv_aload_n hx hb dX12_chance_65 rfl (lv_at hl 0 rfl) ?_
          refine k_get (q0 := 0) (ci := 10) (C := RX12) (T := TX12) (N := 14) (x := .ref tscounsel_o) X inx_12 hw rfl rfl 2 (by decide) rfl tw_510 rfl dX12_chance_66 ?_
          refine lv_aload_n hx hb dX12_chance_69 rfl (lv_at hl 0 rfl) ?_
          refine k_get (q0 := 0) (ci := 10) (C := RX12) (T := TX12) (N := 14) (x := .ref tscity_o) X inx_12 hw rfl rfl 8 (by decide) rfl tw_516 rfl dX12_chance_70 ?_
          refine lv_iload_n hx hb dX12_chance_73 rfl (lv_at hl 1 rfl) ?_
          refine lv_iload_n hx hb dX12_chance_74 rfl (lv_at hl 2 rfl) ?_
          refine lv_aload_n hx hb dX12_chance_75 rfl (lv_at hl 0 rfl) ?_
          refine k_get (q0 := 0) (ci := 10) (C := RX12) (T := TX12) (N := 14) (x := .ref tsnow_o) X inx_12 hw rfl rfl 3 (by decide) rfl tw_511 rfl dX12_chance_76 ?_
          refine k_getN (q0 := 25) (ci := 8) (C := RX9) (T := TX9) (N := 9) (host := "PloughCall") (x := .ref (tsnow_q 6)) X inx_9 hw rfl rfl 6 (by decide) rfl nw_17 rfl dX12_chance_79 ?_
          refine lv_iload_n hx hb dX12_chance_82 rfl (lv_at hl 2 rfl) ?_
          refine k_S (As := [.ref (tsnow_q 6), .int (x2)]) (rest := [.int (x2), .int (x1), .ref tscity_o, .ref tscounsel_o]) (index := 128) X (ct_X12_at (out := (ga (5) tsnow_sizes (x2))) rfl) tw_877 tw_591 tw_119 tw_592 ⟨rfl, rfl⟩ hd_X12_at ⟨Nat.le_of_ble_eq_true rfl, Nat.le_of_ble_eq_true rfl⟩ ⟨Nat.zero_le _, Nat.zero_le _⟩ hw [26] rfl rfl rfl hl.1 rfl (Nat.le_of_ble_eq_true rfl) dX12_chance_83 (fun H locs hw => ?_)
          have hw : Wd E A s.heap (wX12 E t_o t_q t_tape t_reader (.ref tscounsel_o) (.ref tsnow_o) t_trial t_past t_reports t_marks (.ref tscity_o) t_spareCity t_script t_spareScript t_firstRefused t_firstKept ++ (wX1 E tscity_o tscity_q tscity_men tscity_consuls tscity_dangers tscity_decrees tscity_term tscity_termTold tscity_manNames tscity_kinds tscity_skills tscity_fields tscity_wants tscity_hated tscity_dangerNames tscity_sizes tscity_grows tscity_decreeNames tscity_grounds (.ref tscityslaws_o) ++ (wX3 E tscityslaws_o tscityslaws_q tscityslaws_ops tscityslaws_stack tscityslaws_size tscityslaws_worksFrom tscityslaws_worksTo tscityslaws_keepsFrom tscityslaws_keepsTo ++ (wX2 E tscounsel_o tscounsel_q tscounsel_path tscounsel_row tscounsel_leastRow tscounsel_needed tscounsel_likeSizes (.ref tscounselsways_o) (.ref tscounselsnextWays_o) tscounsel_least tscounsel_ended tscounsel_monthsKept ++ (wL E tscounselsnextWays_o 100 tscounselsnextWays_f ++ (wL E tscounselsways_o 100 tscounselsways_f ++ (wX9 E tsnow_o tsnow_q tsnow_month tsnow_power tsnow_master tsnow_left tsnow_kept tsnow_passed tsnow_sizes tsnow_fields tsnow_liked))))))) H locs := hw
          refine lv_iload_n hx hb dX12_chance_86 rfl (lv_at hl 3 rfl) ?_
          refine lv_iload hx hb dX12_chance_87 (lv_at hl 4 rfl) ?_
          obtain ⟨r89, hc_89, hf⟩ := bd_some hf
          refine k_V (As := [.ref tscity_o, .int (x1), .int (x2), .int ((ga (5) tsnow_sizes (x2))), .int (x3), .int (x4)]) (rest := []) (index := 269) (C := RX2) X (c_X2_chanceToEnd hc_89) tw_1332 tw_1333 tw_1334 tw_122 tw_1335 ⟨rfl, rfl⟩ hd_X2_chanceToEnd ⟨Nat.le_of_ble_eq_true rfl, Nat.le_of_ble_eq_true rfl⟩ ⟨Nat.zero_le _, Nat.zero_le _⟩ hw [17, 18, 19, 20, 21, 22, 23, 24, 2, 3, 4, 5, 6, 7, 8, 9, 10, 11, 12, 13, 14, 15, 16] rfl rfl 17 rfl rfl rfl rfl hl.1 rfl (Nat.le_of_ble_eq_true rfl) dX12_chance_89 (fun H locs hw => ?_)
          have hw : Wd E A s.heap (wX12 E t_o t_q t_tape t_reader (.ref tscounsel_o) (.ref tsnow_o) t_trial t_past t_reports t_marks (.ref tscity_o) t_spareCity t_script t_spareScript t_firstRefused t_firstKept ++ (wX1 E tscity_o tscity_q tscity_men tscity_consuls tscity_dangers tscity_decrees tscity_term tscity_termTold tscity_manNames tscity_kinds tscity_skills tscity_fields tscity_wants tscity_hated tscity_dangerNames tscity_sizes tscity_grows tscity_decreeNames tscity_grounds (.ref tscityslaws_o) ++ (wX3 E tscityslaws_o tscityslaws_q tscityslaws_ops r89.2.2.2.1 tscityslaws_size tscityslaws_worksFrom tscityslaws_worksTo tscityslaws_keepsFrom tscityslaws_keepsTo ++ (wX2 E tscounsel_o tscounsel_q tscounsel_path tscounsel_row tscounsel_leastRow tscounsel_needed tscounsel_likeSizes (cond r89.2.2.2.2 (.ref tscounselsnextWays_o) (.ref tscounselsways_o)) (cond r89.2.2.2.2 (.ref tscounselsways_o) (.ref tscounselsnextWays_o)) tscounsel_least tscounsel_ended tscounsel_monthsKept ++ (wL E tscounselsnextWays_o 100 r89.2.1 ++ (wL E tscounselsways_o 100 r89.2.2.1 ++ (wX9 E tsnow_o tsnow_q tsnow_month tsnow_power tsnow_master tsnow_left tsnow_kept tsnow_passed tsnow_sizes tsnow_fields tsnow_liked))))))) H locs := hw
          obtain rfl := Option.some.inj hf
          exact k_iret X hw dX12_chance_92
        · have hf := (if_pos c_51).symm.trans hf
          exact kb_X12_chance_54 X hf hw (lv_sub hl [] rfl)
    · have hf := (if_pos c_19).symm.trans hf
      exact kb_X12_chance_22 X hf hw (lv_sub hl [] rfl)
def g_X12_rests_30 : Bool := true
def g_X12_rests_47 : Nat → Int32 → Int32 → Int32 → Int32 → Int32 → Int32 → Bool
  | 0, _, _, _, _, _, _ => false
  | n + 1, x1, x2, x3, x4, x5, x6 => if (4 : Int32) ≤ x6 then if x4 = (-1 : Int32) then false
      else true
    else if (f_X12_isAtRest (x1) (x2) (x3) (x6)) = (0 : Int32) then g_X12_rests_47 n x1 x2 x3 x4 x5 ((x6 + (1 : Int32)))
    else if x5 = x4 then false
    else g_X12_rests_47 n x1 x2 x3 x4 ((x5 + (1 : Int32))) ((x6 + (1 : Int32)))
def g_X12_rests (x1 : Int32) (x2 : Int32) (x3 : Int32) (x4 : Int32) : Bool := if (f_X12_within (x1) ((0 : Int32)) ((9 : Int32))) = (0 : Int32) then g_X12_rests_30
  else if (f_X12_within (x2) ((0 : Int32)) ((9 : Int32))) = (0 : Int32) then g_X12_rests_30
  else if (f_X12_within (x3) ((0 : Int32)) ((9 : Int32))) = (0 : Int32) then g_X12_rests_30
  else g_X12_rests_47 1100 x1 x2 x3 x4 ((0 : Int32)) ((0 : Int32))
def g_X12_chance_22 : Bool := true
def g_X12_chance_54 : Bool := true
def g_X12_chance (tscity_men : Int32) (tscity_dangers : Int32) (x1 : Int32) (x2 : Int32) (x3 : Int32) (x4 : Int32) : Bool := if (f_X1_hasMan tscity_men (x1)) = (0 : Int32) then g_X12_chance_22
  else if (f_X1_hasDanger tscity_dangers (x2)) = (0 : Int32) then g_X12_chance_22
  else if (f_X12_within (x3) ((0 : Int32)) ((10 : Int32))) = (0 : Int32) then g_X12_chance_54
  else if (f_X12_within (x4) ((1 : Int32)) ((12 : Int32))) = (0 : Int32) then g_X12_chance_54
  else false
