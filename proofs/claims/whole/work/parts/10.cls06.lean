/-! public int danger(int, int); -/
def f_X12_danger (tscity_dangers : Int32) (tscity_sizes : (Nat → Int32)) (tscity_grows : (Nat → Int32)) (tsnow_sizes : (Nat → Int32)) (x1 : Int32) (x2 : Int32) : Int32 := if (f_X1_hasDanger tscity_dangers (x1)) = (0 : Int32) then ((-2 : Int32))
  else if x2 = (0 : Int32) then ((ga (5) tsnow_sizes (x1)))
  else if x2 = (1 : Int32) then ((ga (5) tscity_grows (x1)))
  else if x2 = (2 : Int32) then ((ga (5) tscity_sizes (x1)))
  else ((-2 : Int32))
abbrev rm_X12_danger : Room := { frames := 1, cells := 0, slots := 0, locals := 21 }
theorem hd_X12_danger : yX12_danger.cls = RX12 ∧ yX12_danger.cls ≠ "java/lang/invoke/MethodHandle" ∧ yX12_danger.cls ≠ "java/lang/invoke/VarHandle" ∧ (parseMethodDescriptor yX12_danger.desc).map (fun d => d.parameters.length) = some 2 := by decide +kernel
set_option maxRecDepth 100000 in
set_option maxHeartbeats 4000000 in
theorem c_X12_danger {E : En} {l : Launch} {t_o : Nat} {t_q : Nat → Nat} {t_tape : Value} {t_reader : Value} {t_counsel : Value} {t_trial : Value} {t_past : Value} {t_reports : Value} {t_marks : (Nat → Option Nat)} {t_spareCity : Value} {t_script : Value} {t_spareScript : Value} {t_firstRefused : Int32} {t_firstKept : Int32} {tscity_o : Nat} {tscity_q : Nat → Nat} {tscity_men : Int32} {tscity_consuls : Int32} {tscity_dangers : Int32} {tscity_decrees : Int32} {tscity_term : Int32} {tscity_termTold : Int32} {tscity_manNames : (Nat → Int64)} {tscity_kinds : (Nat → Int32)} {tscity_skills : (Nat → Int32)} {tscity_fields : (Nat → Int32)} {tscity_wants : (Nat → Int32)} {tscity_hated : (Nat → Int32)} {tscity_dangerNames : (Nat → Int64)} {tscity_sizes : (Nat → Int32)} {tscity_grows : (Nat → Int32)} {tscity_decreeNames : (Nat → Int64)} {tscity_grounds : (Nat → Int32)} {tscity_laws : Value} {tsnow_o : Nat} {tsnow_q : Nat → Nat} {tsnow_month : Int32} {tsnow_power : Int32} {tsnow_master : Int32} {tsnow_left : Int32} {tsnow_kept : Int32} {tsnow_passed : Int32} {tsnow_sizes : (Nat → Int32)} {tsnow_fields : (Nat → Int32)} {tsnow_liked : (Nat → Int32)} {x1 : Int32} {x2 : Int32} {out : Int32} (hf : f_X12_danger tscity_dangers tscity_sizes tscity_grows tsnow_sizes x1 x2 = out) : Cn E l yX12_danger cX12_danger 3 (some .int) rm_X12_danger [.ref t_o, .int (x1), .int (x2)] (wX12 E t_o t_q t_tape t_reader t_counsel (.ref tsnow_o) t_trial t_past t_reports t_marks (.ref tscity_o) t_spareCity t_script t_spareScript t_firstRefused t_firstKept ++ (wX1 E tscity_o tscity_q tscity_men tscity_consuls tscity_dangers tscity_decrees tscity_term tscity_termTold tscity_manNames tscity_kinds tscity_skills tscity_fields tscity_wants tscity_hated tscity_dangerNames tscity_sizes tscity_grows tscity_decreeNames tscity_grounds tscity_laws ++ (wX9 E tsnow_o tsnow_q tsnow_month tsnow_power tsnow_master tsnow_left tsnow_kept tsnow_passed tsnow_sizes tsnow_fields tsnow_liked))) (some (.int out)) (wX12 E t_o t_q t_tape t_reader t_counsel (.ref tsnow_o) t_trial t_past t_reports t_marks (.ref tscity_o) t_spareCity t_script t_spareScript t_firstRefused t_firstKept ++ (wX1 E tscity_o tscity_q tscity_men tscity_consuls tscity_dangers tscity_decrees tscity_term tscity_termTold tscity_manNames tscity_kinds tscity_skills tscity_fields tscity_wants tscity_hated tscity_dangerNames tscity_sizes tscity_grows tscity_decreeNames tscity_grounds tscity_laws ++ (wX9 E tsnow_o tsnow_q tsnow_month tsnow_power tsnow_master tsnow_left tsnow_kept tsnow_passed tsnow_sizes tsnow_fields tsnow_liked))) := by
  refine Cn.of (by decide) (Nat.le_of_ble_eq_true rfl) rfl ?_
  intro p e s m below meth c A ls args H locs X hw hl
  have hx := X.1.1
  have hb := X.1.2.1
  have ho := X.1.2.2.2.1
  have hts := X.1.2.2.2.2
  have hl : lv_has ls 3 [(0, .ref t_o), (1, .int (x1)), (2, .int (x2))] := hl
  unfold f_X12_danger at hf
  refine lv_aload_n hx hb dX12_danger_0 rfl (lv_at hl 0 rfl) ?_
  refine k_get (q0 := 0) (ci := 10) (C := RX12) (T := TX12) (N := 14) (x := .ref tscity_o) X inx_12 hw rfl rfl 8 (by decide) rfl tw_516 rfl dX12_danger_1 ?_
  refine lv_iload_n hx hb dX12_danger_4 rfl (lv_at hl 1 rfl) ?_
  refine k_V (As := [.int (x1)]) (rest := []) (index := 147) (C := RX1) X (c_X1_hasDanger (out := (f_X1_hasDanger tscity_dangers (x1))) rfl) tw_883 tw_884 tw_885 tw_126 tw_886 ⟨rfl, rfl⟩ hd_X1_hasDanger ⟨Nat.le_of_ble_eq_true rfl, Nat.le_of_ble_eq_true rfl⟩ ⟨Nat.zero_le _, Nat.zero_le _⟩ hw [2, 3, 4, 5, 6, 7, 8, 9, 10, 11, 12, 13] rfl rfl 2 rfl rfl rfl rfl hl.1 rfl (Nat.le_of_ble_eq_true rfl) dX12_danger_5 (fun H locs hw => ?_)
  have hw : Wd E A s.heap (wX12 E t_o t_q t_tape t_reader t_counsel (.ref tsnow_o) t_trial t_past t_reports t_marks (.ref tscity_o) t_spareCity t_script t_spareScript t_firstRefused t_firstKept ++ (wX1 E tscity_o tscity_q tscity_men tscity_consuls tscity_dangers tscity_decrees tscity_term tscity_termTold tscity_manNames tscity_kinds tscity_skills tscity_fields tscity_wants tscity_hated tscity_dangerNames tscity_sizes tscity_grows tscity_decreeNames tscity_grounds tscity_laws ++ (wX9 E tsnow_o tsnow_q tsnow_month tsnow_power tsnow_master tsnow_left tsnow_kept tsnow_passed tsnow_sizes tsnow_fields tsnow_liked))) H locs := hw
  refine lv_if_ne (tgt := 14) hx hb dX12_danger_8 (by decide) (fun c_8 => ?_) (fun c_8 => ?_)
  · have hf := (if_neg c_8).symm.trans hf
    refine lv_iload_n hx hb dX12_danger_14 rfl (lv_at hl 2 rfl) ?_
    by_cases c_15_0 : x2 = (0 : Int32)
    · have hf := (if_pos c_15_0).symm.trans hf
      refine lv_tableIn (tgt := 40) hx hb dX12_danger_15 (by rw [c_15_0]; decide) (by rw [c_15_0]; decide) (by rw [c_15_0]; rfl) (by decide) ?_
      refine lv_aload_n hx hb dX12_danger_40 rfl (lv_at hl 0 rfl) ?_
      refine k_get (q0 := 0) (ci := 10) (C := RX12) (T := TX12) (N := 14) (x := .ref tsnow_o) X inx_12 hw rfl rfl 3 (by decide) rfl tw_511 rfl dX12_danger_41 ?_
      refine k_getN (q0 := 14) (ci := 8) (C := RX9) (T := TX9) (N := 9) (host := "PloughCall") (x := .ref (tsnow_q 6)) X inx_9 hw rfl rfl 6 (by decide) rfl nw_17 rfl dX12_danger_44 ?_
      refine lv_iload_n hx hb dX12_danger_47 rfl (lv_at hl 1 rfl) ?_
      refine k_S (As := [.ref (tsnow_q 6), .int (x1)]) (rest := []) (index := 128) X (ct_X12_at (out := (ga (5) tsnow_sizes (x1))) rfl) tw_877 tw_591 tw_119 tw_592 ⟨rfl, rfl⟩ hd_X12_at ⟨Nat.le_of_ble_eq_true rfl, Nat.le_of_ble_eq_true rfl⟩ ⟨Nat.zero_le _, Nat.zero_le _⟩ hw [15] rfl rfl rfl hl.1 rfl (Nat.le_of_ble_eq_true rfl) dX12_danger_48 (fun H locs hw => ?_)
      have hw : Wd E A s.heap (wX12 E t_o t_q t_tape t_reader t_counsel (.ref tsnow_o) t_trial t_past t_reports t_marks (.ref tscity_o) t_spareCity t_script t_spareScript t_firstRefused t_firstKept ++ (wX1 E tscity_o tscity_q tscity_men tscity_consuls tscity_dangers tscity_decrees tscity_term tscity_termTold tscity_manNames tscity_kinds tscity_skills tscity_fields tscity_wants tscity_hated tscity_dangerNames tscity_sizes tscity_grows tscity_decreeNames tscity_grounds tscity_laws ++ (wX9 E tsnow_o tsnow_q tsnow_month tsnow_power tsnow_master tsnow_left tsnow_kept tsnow_passed tsnow_sizes tsnow_fields tsnow_liked))) H locs := hw
      subst hf
      exact k_iret X hw dX12_danger_51
    have hf := (if_neg c_15_0).symm.trans hf
    by_cases c_15_1 : x2 = (1 : Int32)
    · have hf := (if_pos c_15_1).symm.trans hf
      refine lv_tableIn (tgt := 52) hx hb dX12_danger_15 (by rw [c_15_1]; decide) (by rw [c_15_1]; decide) (by rw [c_15_1]; rfl) (by decide) ?_
      refine lv_aload_n hx hb dX12_danger_52 rfl (lv_at hl 0 rfl) ?_
      refine k_get (q0 := 0) (ci := 10) (C := RX12) (T := TX12) (N := 14) (x := .ref tscity_o) X inx_12 hw rfl rfl 8 (by decide) rfl tw_516 rfl dX12_danger_53 ?_
      refine k_getN (q0 := 2) (ci := 0) (C := RX1) (T := TX1) (N := 18) (host := "PloughCall") (x := .ref (tscity_q 14)) X inx_1 hw rfl rfl 14 (by decide) rfl nw_60 rfl dX12_danger_56 ?_
      refine lv_iload_n hx hb dX12_danger_59 rfl (lv_at hl 1 rfl) ?_
      refine k_S (As := [.ref (tscity_q 14), .int (x1)]) (rest := []) (index := 128) X (ct_X12_at (out := (ga (5) tscity_grows (x1))) rfl) tw_877 tw_591 tw_119 tw_592 ⟨rfl, rfl⟩ hd_X12_at ⟨Nat.le_of_ble_eq_true rfl, Nat.le_of_ble_eq_true rfl⟩ ⟨Nat.zero_le _, Nat.zero_le _⟩ hw [11] rfl rfl rfl hl.1 rfl (Nat.le_of_ble_eq_true rfl) dX12_danger_60 (fun H locs hw => ?_)
      have hw : Wd E A s.heap (wX12 E t_o t_q t_tape t_reader t_counsel (.ref tsnow_o) t_trial t_past t_reports t_marks (.ref tscity_o) t_spareCity t_script t_spareScript t_firstRefused t_firstKept ++ (wX1 E tscity_o tscity_q tscity_men tscity_consuls tscity_dangers tscity_decrees tscity_term tscity_termTold tscity_manNames tscity_kinds tscity_skills tscity_fields tscity_wants tscity_hated tscity_dangerNames tscity_sizes tscity_grows tscity_decreeNames tscity_grounds tscity_laws ++ (wX9 E tsnow_o tsnow_q tsnow_month tsnow_power tsnow_master tsnow_left tsnow_kept tsnow_passed tsnow_sizes tsnow_fields tsnow_liked))) H locs := hw
      subst hf
      exact k_iret X hw dX12_danger_63
    have hf := (if_neg c_15_1).symm.trans hf
    by_cases c_15_2 : x2 = (2 : Int32)
    · have hf := (if_pos c_15_2).symm.trans hf
      refine lv_tableIn (tgt := 64) hx hb dX12_danger_15 (by rw [c_15_2]; decide) (by rw [c_15_2]; decide) (by rw [c_15_2]; rfl) (by decide) ?_
      refine lv_aload_n hx hb dX12_danger_64 rfl (lv_at hl 0 rfl) ?_
      refine k_get (q0 := 0) (ci := 10) (C := RX12) (T := TX12) (N := 14) (x := .ref tscity_o) X inx_12 hw rfl rfl 8 (by decide) rfl tw_516 rfl dX12_danger_65 ?_
      refine k_getN (q0 := 2) (ci := 0) (C := RX1) (T := TX1) (N := 18) (host := "PloughCall") (x := .ref (tscity_q 13)) X inx_1 hw rfl rfl 13 (by decide) rfl nw_58 rfl dX12_danger_68 ?_
      refine lv_iload_n hx hb dX12_danger_71 rfl (lv_at hl 1 rfl) ?_
      refine k_S (As := [.ref (tscity_q 13), .int (x1)]) (rest := []) (index := 128) X (ct_X12_at (out := (ga (5) tscity_sizes (x1))) rfl) tw_877 tw_591 tw_119 tw_592 ⟨rfl, rfl⟩ hd_X12_at ⟨Nat.le_of_ble_eq_true rfl, Nat.le_of_ble_eq_true rfl⟩ ⟨Nat.zero_le _, Nat.zero_le _⟩ hw [10] rfl rfl rfl hl.1 rfl (Nat.le_of_ble_eq_true rfl) dX12_danger_72 (fun H locs hw => ?_)
      have hw : Wd E A s.heap (wX12 E t_o t_q t_tape t_reader t_counsel (.ref tsnow_o) t_trial t_past t_reports t_marks (.ref tscity_o) t_spareCity t_script t_spareScript t_firstRefused t_firstKept ++ (wX1 E tscity_o tscity_q tscity_men tscity_consuls tscity_dangers tscity_decrees tscity_term tscity_termTold tscity_manNames tscity_kinds tscity_skills tscity_fields tscity_wants tscity_hated tscity_dangerNames tscity_sizes tscity_grows tscity_decreeNames tscity_grounds tscity_laws ++ (wX9 E tsnow_o tsnow_q tsnow_month tsnow_power tsnow_master tsnow_left tsnow_kept tsnow_passed tsnow_sizes tsnow_fields tsnow_liked))) H locs := hw
      subst hf
      exact k_iret X hw dX12_danger_75
    have hf := (if_neg c_15_2).symm.trans hf
    have nc_15_0 : (x2).toInt ≠ 0 := fun h => c_15_0 (Int32.toInt_inj.mp (h.trans (by decide)))
    have nc_15_1 : (x2).toInt ≠ 1 := fun h => c_15_1 (Int32.toInt_inj.mp (h.trans (by decide)))
    have nc_15_2 : (x2).toInt ≠ 2 := fun h => c_15_2 (Int32.toInt_inj.mp (h.trans (by decide)))
    refine lv_tableOut (tgt := 76) hx hb dX12_danger_15 (by omega) (by decide) ?_
    refine lv_bipush (v := (-2 : Int32)) hx hb dX12_danger_76 (by decide) ?_
    subst hf
    exact k_iret X hw dX12_danger_78
  · have hf := (if_pos c_8).symm.trans hf
    refine lv_bipush (v := (-2 : Int32)) hx hb dX12_danger_11 (by decide) ?_
    subst hf
    exact k_iret X hw dX12_danger_13
/-! public boolean may(int, int); -/
def f_X12_may (tscity_men : Int32) (tscity_consuls : Int32) (tscity_hated : (Nat → Int32)) (x1 : Int32) (x2 : Int32) : Int32 := ((f_X1_couldName tscity_men tscity_consuls tscity_hated (x1) (x2)))
abbrev rm_X12_may : Room := { frames := 3, cells := 0, slots := 0, locals := 65 }
theorem hd_X12_may : yX12_may.cls = RX12 ∧ yX12_may.cls ≠ "java/lang/invoke/MethodHandle" ∧ yX12_may.cls ≠ "java/lang/invoke/VarHandle" ∧ (parseMethodDescriptor yX12_may.desc).map (fun d => d.parameters.length) = some 2 := by decide +kernel
set_option maxRecDepth 100000 in
set_option maxHeartbeats 4000000 in
theorem c_X12_may {E : En} {l : Launch} {t_o : Nat} {t_q : Nat → Nat} {t_tape : Value} {t_reader : Value} {t_counsel : Value} {t_now : Value} {t_trial : Value} {t_past : Value} {t_reports : Value} {t_marks : (Nat → Option Nat)} {t_spareCity : Value} {t_script : Value} {t_spareScript : Value} {t_firstRefused : Int32} {t_firstKept : Int32} {tscity_o : Nat} {tscity_q : Nat → Nat} {tscity_men : Int32} {tscity_consuls : Int32} {tscity_dangers : Int32} {tscity_decrees : Int32} {tscity_term : Int32} {tscity_termTold : Int32} {tscity_manNames : (Nat → Int64)} {tscity_kinds : (Nat → Int32)} {tscity_skills : (Nat → Int32)} {tscity_fields : (Nat → Int32)} {tscity_wants : (Nat → Int32)} {tscity_hated : (Nat → Int32)} {tscity_dangerNames : (Nat → Int64)} {tscity_sizes : (Nat → Int32)} {tscity_grows : (Nat → Int32)} {tscity_decreeNames : (Nat → Int64)} {tscity_grounds : (Nat → Int32)} {tscity_laws : Value} {x1 : Int32} {x2 : Int32} {out : Int32} (hf : f_X12_may tscity_men tscity_consuls tscity_hated x1 x2 = out) : Cn E l yX12_may cX12_may 3 (some .boolean) rm_X12_may [.ref t_o, .int (x1), .int (x2)] (wX12 E t_o t_q t_tape t_reader t_counsel t_now t_trial t_past t_reports t_marks (.ref tscity_o) t_spareCity t_script t_spareScript t_firstRefused t_firstKept ++ (wX1 E tscity_o tscity_q tscity_men tscity_consuls tscity_dangers tscity_decrees tscity_term tscity_termTold tscity_manNames tscity_kinds tscity_skills tscity_fields tscity_wants tscity_hated tscity_dangerNames tscity_sizes tscity_grows tscity_decreeNames tscity_grounds tscity_laws)) (some (.int out)) (wX12 E t_o t_q t_tape t_reader t_counsel t_now t_trial t_past t_reports t_marks (.ref tscity_o) t_spareCity t_script t_spareScript t_firstRefused t_firstKept ++ (wX1 E tscity_o tscity_q tscity_men tscity_consuls tscity_dangers tscity_decrees tscity_term tscity_termTold tscity_manNames tscity_kinds tscity_skills tscity_fields tscity_wants tscity_hated tscity_dangerNames tscity_sizes tscity_grows tscity_decreeNames tscity_grounds tscity_laws)) := by
  refine Cn.of (by decide) (Nat.le_of_ble_eq_true rfl) rfl ?_
  intro p e s m below meth c A ls args H locs X hw hl
  have hx := X.1.1
  have hb := X.1.2.1
  have ho := X.1.2.2.2.1
  have hts := X.1.2.2.2.2
  have hl : lv_has ls 3 [(0, .ref t_o), (1, .int (x1)), (2, .int (x2))] := hl
  unfold f_X12_may at hf
  refine lv_aload_n hx hb dX12_may_0 rfl (lv_at hl 0 rfl) ?_
  refine k_get (q0 := 0) (ci := 10) (C := RX12) (T := TX12) (N := 14) (x := .ref tscity_o) X inx_12 hw rfl rfl 8 (by decide) rfl tw_516 rfl dX12_may_1 ?_
  refine lv_iload_n hx hb dX12_may_4 rfl (lv_at hl 1 rfl) ?_
  refine lv_iload_n hx hb dX12_may_5 rfl (lv_at hl 2 rfl) ?_
  refine k_V (As := [.int (x1), .int (x2)]) (rest := []) (index := 157) (C := RX1) X (c_X1_couldName (out := (f_X1_couldName tscity_men tscity_consuls tscity_hated (x1) (x2))) rfl) tw_891 tw_892 tw_893 tw_126 tw_894 ⟨rfl, rfl⟩ hd_X1_couldName ⟨Nat.le_of_ble_eq_true rfl, Nat.le_of_ble_eq_true rfl⟩ ⟨Nat.zero_le _, Nat.zero_le _⟩ hw [2, 3, 4, 5, 6, 7, 8, 9, 10, 11, 12, 13] rfl rfl 2 rfl rfl rfl rfl hl.1 rfl (Nat.le_of_ble_eq_true rfl) dX12_may_6 (fun H locs hw => ?_)
  have hw : Wd E A s.heap (wX12 E t_o t_q t_tape t_reader t_counsel t_now t_trial t_past t_reports t_marks (.ref tscity_o) t_spareCity t_script t_spareScript t_firstRefused t_firstKept ++ (wX1 E tscity_o tscity_q tscity_men tscity_consuls tscity_dangers tscity_decrees tscity_term tscity_termTold tscity_manNames tscity_kinds tscity_skills tscity_fields tscity_wants tscity_hated tscity_dangerNames tscity_sizes tscity_grows tscity_decreeNames tscity_grounds tscity_laws)) H locs := hw
  subst hf
  exact k_zret X (by first | exact zb_X1_couldName _ _ _ _ _) hw dX12_may_9
theorem zb_X12_may (tscity_men : Int32) (tscity_consuls : Int32) (tscity_hated : (Nat → Int32)) (x1 : Int32) (x2 : Int32) : f_X12_may tscity_men tscity_consuls tscity_hated x1 x2 = 0 ∨ f_X12_may tscity_men tscity_consuls tscity_hated x1 x2 = 1 := by
  unfold f_X12_may
  repeat' apply ite_z
  all_goals first | exact Or.inl rfl | exact Or.inr rfl | exact zb_X1_couldName _ _ _ _ _
/-! public int waits(int); -/
def f_X12_waits_15 : Nat → Int32 → (Nat → Int32) → (Nat → Int32) → Int32 → Int32 → Option (Int32)
  | 0, _, _, _, _, _ => none
  | n + 1, tscity_dangers, tscity_grows, tsnow_sizes, x1, x2 => if (99 : Int32) < x2 then some ((-1 : Int32))
    else (f_X9_togetherGrown tsnow_sizes tscity_dangers tscity_grows ((-1 : Int32)) (x2)).bind fun r31 => if r31 < x1 then f_X12_waits_15 n tscity_dangers tscity_grows tsnow_sizes x1 ((x2 + (1 : Int32)))
    else some (x2)
def f_X12_waits (tscity_dangers : Int32) (tscity_grows : (Nat → Int32)) (tsnow_sizes : (Nat → Int32)) (x1 : Int32) : Option (Int32) := if (f_X12_within (x1) ((1 : Int32)) ((495 : Int32))) = (0 : Int32) then some ((-1 : Int32))
  else f_X12_waits_15 1100 tscity_dangers tscity_grows tsnow_sizes x1 ((0 : Int32))
abbrev rm_X12_waits : Room := { frames := 3, cells := 0, slots := 0, locals := 70 }
theorem hd_X12_waits : yX12_waits.cls = RX12 ∧ yX12_waits.cls ≠ "java/lang/invoke/MethodHandle" ∧ yX12_waits.cls ≠ "java/lang/invoke/VarHandle" ∧ (parseMethodDescriptor yX12_waits.desc).map (fun d => d.parameters.length) = some 1 := by decide +kernel
set_option maxRecDepth 100000 in
set_option maxHeartbeats 4000000 in
theorem kb_X12_waits_15 {E : En} {p : Program} {l : Launch} {e : Env} {s : State} {m : MethodId} {args : Array Value} {below : List Frame} {meth : Method} {c : Code} {A : Nat → Prop} {t_o : Nat} {t_q : Nat → Nat} {t_tape : Value} {t_reader : Value} {t_counsel : Value} {t_trial : Value} {t_past : Value} {t_reports : Value} {t_marks : (Nat → Option Nat)} {t_spareCity : Value} {t_script : Value} {t_spareScript : Value} {t_firstRefused : Int32} {t_firstKept : Int32} {tscity_o : Nat} {tscity_q : Nat → Nat} {tscity_men : Int32} {tscity_consuls : Int32} {tscity_dangers : Int32} {tscity_decrees : Int32} {tscity_term : Int32} {tscity_termTold : Int32} {tscity_manNames : (Nat → Int64)} {tscity_kinds : (Nat → Int32)} {tscity_skills : (Nat → Int32)} {tscity_fields : (Nat → Int32)} {tscity_wants : (Nat → Int32)} {tscity_hated : (Nat → Int32)} {tscity_dangerNames : (Nat → Int64)} {tscity_sizes : (Nat → Int32)} {tscity_grows : (Nat → Int32)} {tscity_decreeNames : (Nat → Int64)} {tscity_grounds : (Nat → Int32)} {tscity_laws : Value} {tsnow_o : Nat} {tsnow_q : Nat → Nat} {tsnow_month : Int32} {tsnow_power : Int32} {tsnow_master : Int32} {tsnow_left : Int32} {tsnow_kept : Int32} {tsnow_passed : Int32} {tsnow_sizes : (Nat → Int32)} {tsnow_fields : (Nat → Int32)} {tsnow_liked : (Nat → Int32)} {out : Int32} (X : Bx E A p s m args meth c cX12_waits 3 RX12 (some .int)) : ∀ (n : Nat) {x1 : Int32} {x2 : Int32} {H : Heap} {locs : List Loc} {ls : Array Slot}, f_X12_waits_15 n tscity_dangers tscity_grows tsnow_sizes x1 x2 = some out → Wd E A s.heap (wX12 E t_o t_q t_tape t_reader t_counsel (.ref tsnow_o) t_trial t_past t_reports t_marks (.ref tscity_o) t_spareCity t_script t_spareScript t_firstRefused t_firstKept ++ (wX1 E tscity_o tscity_q tscity_men tscity_consuls tscity_dangers tscity_decrees tscity_term tscity_termTold tscity_manNames tscity_kinds tscity_skills tscity_fields tscity_wants tscity_hated tscity_dangerNames tscity_sizes tscity_grows tscity_decreeNames tscity_grounds tscity_laws ++ (wX9 E tsnow_o tsnow_q tsnow_month tsnow_power tsnow_master tsnow_left tsnow_kept tsnow_passed tsnow_sizes tsnow_fields tsnow_liked))) H locs → lv_has ls 3 [(0, .ref t_o), (1, .int (x1)), (2, .int (x2))] → W p l e rm_X12_waits s m args below meth c H locs 0 0 (Zn E below args s A (some (.int out)) (wX12 E t_o t_q t_tape t_reader t_counsel (.ref tsnow_o) t_trial t_past t_reports t_marks (.ref tscity_o) t_spareCity t_script t_spareScript t_firstRefused t_firstKept ++ (wX1 E tscity_o tscity_q tscity_men tscity_consuls tscity_dangers tscity_decrees tscity_term tscity_termTold tscity_manNames tscity_kinds tscity_skills tscity_fields tscity_wants tscity_hated tscity_dangerNames tscity_sizes tscity_grows tscity_decreeNames tscity_grounds tscity_laws ++ (wX9 E tsnow_o tsnow_q tsnow_month tsnow_power tsnow_master tsnow_left tsnow_kept tsnow_passed tsnow_sizes tsnow_fields tsnow_liked)))) (F0 m 15 ls []) := by
  have hx := X.1.1
  have hb := X.1.2.1
  have ho := X.1.2.2.2.1
  have hts := X.1.2.2.2.2
  intro n
  induction n with
  | zero =>
    intro x1 x2 H locs ls hf
    have hf : (none : Option (Int32)) = some out := hf
    cases hf
  | succ n ih =>
    intro x1 x2 H locs ls hf hw hl
    rw [f_X12_waits_15.eq_2] at hf
    refine lv_iload_n hx hb dX12_waits_15 rfl (lv_at hl 2 rfl) ?_
    refine lv_bipush (v := (99 : Int32)) hx hb dX12_waits_16 (by decide) ?_
    refine lv_icmp_gt (tgt := 46) hx hb dX12_waits_18 (by decide) (fun c_18 => ?_) (fun c_18 => ?_)
    · have hf := (if_pos c_18).symm.trans hf
      refine lv_iconst (v := (-1 : Int32)) hx hb dX12_waits_46 (by decide) ?_
      obtain rfl := Option.some.inj hf
      exact k_iret X hw dX12_waits_47
    · have hf := (if_neg c_18).symm.trans hf
      refine lv_aload_n hx hb dX12_waits_21 rfl (lv_at hl 0 rfl) ?_
      refine k_get (q0 := 0) (ci := 10) (C := RX12) (T := TX12) (N := 14) (x := .ref tsnow_o) X inx_12 hw rfl rfl 3 (by decide) rfl tw_511 rfl dX12_waits_22 ?_
      refine lv_aload_n hx hb dX12_waits_25 rfl (lv_at hl 0 rfl) ?_
      refine k_get (q0 := 0) (ci := 10) (C := RX12) (T := TX12) (N := 14) (x := .ref tscity_o) X inx_12 hw rfl rfl 8 (by decide) rfl tw_516 rfl dX12_waits_26 ?_
      refine lv_iconst (v := (-1 : Int32)) hx hb dX12_waits_29 (by decide) ?_
      refine lv_iload_n hx hb dX12_waits_30 rfl (lv_at hl 2 rfl) ?_
      obtain ⟨r31, hc_31, hf⟩ := bd_some hf
      refine k_V (As := [.ref tscity_o, .int ((-1 : Int32)), .int (x2)]) (rest := []) (index := 257) (C := RX9) X (c_X9_togetherGrown hc_31) tw_1148 tw_1092 tw_1093 tw_123 tw_1094 ⟨rfl, rfl⟩ hd_X9_togetherGrown ⟨Nat.le_of_ble_eq_true rfl, Nat.le_of_ble_eq_true rfl⟩ ⟨Nat.zero_le _, Nat.zero_le _⟩ hw [14, 15, 16, 17, 2, 3, 4, 5, 6, 7, 8, 9, 10, 11, 12, 13] rfl rfl 14 rfl rfl rfl rfl hl.1 rfl (Nat.le_of_ble_eq_true rfl) dX12_waits_31 (fun H locs hw => ?_)
      have hw : Wd E A s.heap (wX12 E t_o t_q t_tape t_reader t_counsel (.ref tsnow_o) t_trial t_past t_reports t_marks (.ref tscity_o) t_spareCity t_script t_spareScript t_firstRefused t_firstKept ++ (wX1 E tscity_o tscity_q tscity_men tscity_consuls tscity_dangers tscity_decrees tscity_term tscity_termTold tscity_manNames tscity_kinds tscity_skills tscity_fields tscity_wants tscity_hated tscity_dangerNames tscity_sizes tscity_grows tscity_decreeNames tscity_grounds tscity_laws ++ (wX9 E tsnow_o tsnow_q tsnow_month tsnow_power tsnow_master tsnow_left tsnow_kept tsnow_passed tsnow_sizes tsnow_fields tsnow_liked))) H locs := hw
      refine lv_iload_n hx hb dX12_waits_34 rfl (lv_at hl 1 rfl) ?_
      refine lv_icmp_lt (tgt := 40) hx hb dX12_waits_35 (by decide) (fun c_35 => ?_) (fun c_35 => ?_)
      · have hf := (if_pos c_35).symm.trans hf
        refine lv_iinc (v := (x2 + (1 : Int32))) (lv' := [(2, .int ((x2 + (1 : Int32)))), (0, .ref t_o), (1, .int (x1))]) hx hb dX12_waits_40 hl (k := 2) rfl rfl (by decide) rfl (fun ls hl => ?_)
        refine lv_goto (tgt := 15) hx hb dX12_waits_43 (by decide) ?_
        exact ih hf hw (lv_sub hl [1, 2, 0] rfl)
      · have hf := (if_neg c_35).symm.trans hf
        refine lv_iload_n hx hb dX12_waits_38 rfl (lv_at hl 2 rfl) ?_
        obtain rfl := Option.some.inj hf
        exact k_iret X hw dX12_waits_39
set_option maxRecDepth 100000 in
set_option maxHeartbeats 4000000 in
theorem c_X12_waits {E : En} {l : Launch} {t_o : Nat} {t_q : Nat → Nat} {t_tape : Value} {t_reader : Value} {t_counsel : Value} {t_trial : Value} {t_past : Value} {t_reports : Value} {t_marks : (Nat → Option Nat)} {t_spareCity : Value} {t_script : Value} {t_spareScript : Value} {t_firstRefused : Int32} {t_firstKept : Int32} {tscity_o : Nat} {tscity_q : Nat → Nat} {tscity_men : Int32} {tscity_consuls : Int32} {tscity_dangers : Int32} {tscity_decrees : Int32} {tscity_term : Int32} {tscity_termTold : Int32} {tscity_manNames : (Nat → Int64)} {tscity_kinds : (Nat → Int32)} {tscity_skills : (Nat → Int32)} {tscity_fields : (Nat → Int32)} {tscity_wants : (Nat → Int32)} {tscity_hated : (Nat → Int32)} {tscity_dangerNames : (Nat → Int64)} {tscity_sizes : (Nat → Int32)} {tscity_grows : (Nat → Int32)} {tscity_decreeNames : (Nat → Int64)} {tscity_grounds : (Nat → Int32)} {tscity_laws : Value} {tsnow_o : Nat} {tsnow_q : Nat → Nat} {tsnow_month : Int32} {tsnow_power : Int32} {tsnow_master : Int32} {tsnow_left : Int32} {tsnow_kept : Int32} {tsnow_passed : Int32} {tsnow_sizes : (Nat → Int32)} {tsnow_fields : (Nat → Int32)} {tsnow_liked : (Nat → Int32)} {x1 : Int32} {out : Int32} (hf : f_X12_waits tscity_dangers tscity_grows tsnow_sizes x1 = some out) : Cn E l yX12_waits cX12_waits 3 (some .int) rm_X12_waits [.ref t_o, .int (x1)] (wX12 E t_o t_q t_tape t_reader t_counsel (.ref tsnow_o) t_trial t_past t_reports t_marks (.ref tscity_o) t_spareCity t_script t_spareScript t_firstRefused t_firstKept ++ (wX1 E tscity_o tscity_q tscity_men tscity_consuls tscity_dangers tscity_decrees tscity_term tscity_termTold tscity_manNames tscity_kinds tscity_skills tscity_fields tscity_wants tscity_hated tscity_dangerNames tscity_sizes tscity_grows tscity_decreeNames tscity_grounds tscity_laws ++ (wX9 E tsnow_o tsnow_q tsnow_month tsnow_power tsnow_master tsnow_left tsnow_kept tsnow_passed tsnow_sizes tsnow_fields tsnow_liked))) (some (.int out)) (wX12 E t_o t_q t_tape t_reader t_counsel (.ref tsnow_o) t_trial t_past t_reports t_marks (.ref tscity_o) t_spareCity t_script t_spareScript t_firstRefused t_firstKept ++ (wX1 E tscity_o tscity_q tscity_men tscity_consuls tscity_dangers tscity_decrees tscity_term tscity_termTold tscity_manNames tscity_kinds tscity_skills tscity_fields tscity_wants tscity_hated tscity_dangerNames tscity_sizes tscity_grows tscity_decreeNames tscity_grounds tscity_laws ++ (wX9 E tsnow_o tsnow_q tsnow_month tsnow_power tsnow_master tsnow_left tsnow_kept tsnow_passed tsnow_sizes tsnow_fields tsnow_liked))) := by
  refine Cn.of (by decide) (Nat.le_of_ble_eq_true rfl) rfl ?_
  intro p e s m below meth c A ls args H locs X hw hl
  have hx := X.1.1
  have hb := X.1.2.1
  have ho := X.1.2.2.2.1
  have hts := X.1.2.2.2.2
  have hl : lv_has ls 3 [(0, .ref t_o), (1, .int (x1))] := hl
  unfold f_X12_waits at hf
  refine lv_iload_n hx hb dX12_waits_0 rfl (lv_at hl 1 rfl) ?_
  refine lv_iconst (v := (1 : Int32)) hx hb dX12_waits_1 (by decide) ?_
  refine lv_sipush (v := (495 : Int32)) hx hb dX12_waits_2 (by decide) ?_
  refine k_S (As := [.int (x1), .int ((1 : Int32)), .int ((495 : Int32))]) (rest := []) (index := 227) X (c_X12_within (out := (f_X12_within (x1) ((1 : Int32)) ((495 : Int32)))) rfl) tw_1105 tw_560 tw_119 tw_561 ⟨rfl, rfl⟩ hd_X12_within ⟨Nat.le_of_ble_eq_true rfl, Nat.le_of_ble_eq_true rfl⟩ ⟨Nat.zero_le _, Nat.zero_le _⟩ hw [] rfl rfl rfl hl.1 rfl (Nat.le_of_ble_eq_true rfl) dX12_waits_5 (fun H locs hw => ?_)
  have hw : Wd E A s.heap (wX12 E t_o t_q t_tape t_reader t_counsel (.ref tsnow_o) t_trial t_past t_reports t_marks (.ref tscity_o) t_spareCity t_script t_spareScript t_firstRefused t_firstKept ++ (wX1 E tscity_o tscity_q tscity_men tscity_consuls tscity_dangers tscity_decrees tscity_term tscity_termTold tscity_manNames tscity_kinds tscity_skills tscity_fields tscity_wants tscity_hated tscity_dangerNames tscity_sizes tscity_grows tscity_decreeNames tscity_grounds tscity_laws ++ (wX9 E tsnow_o tsnow_q tsnow_month tsnow_power tsnow_master tsnow_left tsnow_kept tsnow_passed tsnow_sizes tsnow_fields tsnow_liked))) H locs := hw
  refine lv_if_ne (tgt := 13) hx hb dX12_waits_8 (by decide) (fun c_8 => ?_) (fun c_8 => ?_)
  · have hf := (if_neg c_8).symm.trans hf
    refine lv_iconst (v := (0 : Int32)) hx hb dX12_waits_13 (by decide) ?_
    refine lv_istore_n (lv' := [(2, .int ((0 : Int32))), (0, .ref t_o), (1, .int (x1))]) hx hb dX12_waits_14 rfl hl (by decide) rfl (fun ls hl => ?_)
    exact kb_X12_waits_15 X 1100 hf hw (lv_sub hl [1, 2, 0] rfl)
  · have hf := (if_pos c_8).symm.trans hf
    refine lv_iconst (v := (-1 : Int32)) hx hb dX12_waits_11 (by decide) ?_
    obtain rfl := Option.some.inj hf
    exact k_iret X hw dX12_waits_12
/-! public int falls(int); -/
def f_X12_falls (tscity_decrees : Int32) (tscity_grounds : (Nat → Int32)) (x1 : Int32) : Option (Int32) := if (f_X1_hasDecrees tscity_decrees (x1)) = (0 : Int32) then some ((-1 : Int32))
  else (f_X1_fallen tscity_decrees tscity_grounds (x1)).bind fun r16 => some (r16)
abbrev rm_X12_falls : Room := { frames := 2, cells := 0, slots := 0, locals := 44 }
theorem hd_X12_falls : yX12_falls.cls = RX12 ∧ yX12_falls.cls ≠ "java/lang/invoke/MethodHandle" ∧ yX12_falls.cls ≠ "java/lang/invoke/VarHandle" ∧ (parseMethodDescriptor yX12_falls.desc).map (fun d => d.parameters.length) = some 1 := by decide +kernel
set_option maxRecDepth 100000 in
set_option maxHeartbeats 4000000 in
theorem c_X12_falls {E : En} {l : Launch} {t_o : Nat} {t_q : Nat → Nat} {t_tape : Value} {t_reader : Value} {t_counsel : Value} {t_now : Value} {t_trial : Value} {t_past : Value} {t_reports : Value} {t_marks : (Nat → Option Nat)} {t_spareCity : Value} {t_script : Value} {t_spareScript : Value} {t_firstRefused : Int32} {t_firstKept : Int32} {tscity_o : Nat} {tscity_q : Nat → Nat} {tscity_men : Int32} {tscity_consuls : Int32} {tscity_dangers : Int32} {tscity_decrees : Int32} {tscity_term : Int32} {tscity_termTold : Int32} {tscity_manNames : (Nat → Int64)} {tscity_kinds : (Nat → Int32)} {tscity_skills : (Nat → Int32)} {tscity_fields : (Nat → Int32)} {tscity_wants : (Nat → Int32)} {tscity_hated : (Nat → Int32)} {tscity_dangerNames : (Nat → Int64)} {tscity_sizes : (Nat → Int32)} {tscity_grows : (Nat → Int32)} {tscity_decreeNames : (Nat → Int64)} {tscity_grounds : (Nat → Int32)} {tscity_laws : Value} {x1 : Int32} {out : Int32} (hf : f_X12_falls tscity_decrees tscity_grounds x1 = some out) : Cn E l yX12_falls cX12_falls 2 (some .int) rm_X12_falls [.ref t_o, .int (x1)] (wX12 E t_o t_q t_tape t_reader t_counsel t_now t_trial t_past t_reports t_marks (.ref tscity_o) t_spareCity t_script t_spareScript t_firstRefused t_firstKept ++ (wX1 E tscity_o tscity_q tscity_men tscity_consuls tscity_dangers tscity_decrees tscity_term tscity_termTold tscity_manNames tscity_kinds tscity_skills tscity_fields tscity_wants tscity_hated tscity_dangerNames tscity_sizes tscity_grows tscity_decreeNames tscity_grounds tscity_laws)) (some (.int out)) (wX12 E t_o t_q t_tape t_reader t_counsel t_now t_trial t_past t_reports t_marks (.ref tscity_o) t_spareCity t_script t_spareScript t_firstRefused t_firstKept ++ (wX1 E tscity_o tscity_q tscity_men tscity_consuls tscity_dangers tscity_decrees tscity_term tscity_termTold tscity_manNames tscity_kinds tscity_skills tscity_fields tscity_wants tscity_hated tscity_dangerNames tscity_sizes tscity_grows tscity_decreeNames tscity_grounds tscity_laws)) := by
  refine Cn.of (by decide) (Nat.le_of_ble_eq_true rfl) rfl ?_
  intro p e s m below meth c A ls args H locs X hw hl
  have hx := X.1.1
  have hb := X.1.2.1
  have ho := X.1.2.2.2.1
  have hts := X.1.2.2.2.2
  have hl : lv_has ls 2 [(0, .ref t_o), (1, .int (x1))] := hl
  unfold f_X12_falls at hf
  refine lv_aload_n hx hb dX12_falls_0 rfl (lv_at hl 0 rfl) ?_
  refine k_get (q0 := 0) (ci := 10) (C := RX12) (T := TX12) (N := 14) (x := .ref tscity_o) X inx_12 hw rfl rfl 8 (by decide) rfl tw_516 rfl dX12_falls_1 ?_
  refine lv_iload_n hx hb dX12_falls_4 rfl (lv_at hl 1 rfl) ?_
  refine k_V (As := [.int (x1)]) (rest := []) (index := 273) (C := RX1) X (c_X1_hasDecrees (out := (f_X1_hasDecrees tscity_decrees (x1))) rfl) tw_1153 tw_1154 tw_1155 tw_126 tw_1156 ⟨rfl, rfl⟩ hd_X1_hasDecrees ⟨Nat.le_of_ble_eq_true rfl, Nat.le_of_ble_eq_true rfl⟩ ⟨Nat.zero_le _, Nat.zero_le _⟩ hw [2, 3, 4, 5, 6, 7, 8, 9, 10, 11, 12, 13] rfl rfl 2 rfl rfl rfl rfl hl.1 rfl (Nat.le_of_ble_eq_true rfl) dX12_falls_5 (fun H locs hw => ?_)
  have hw : Wd E A s.heap (wX12 E t_o t_q t_tape t_reader t_counsel t_now t_trial t_past t_reports t_marks (.ref tscity_o) t_spareCity t_script t_spareScript t_firstRefused t_firstKept ++ (wX1 E tscity_o tscity_q tscity_men tscity_consuls tscity_dangers tscity_decrees tscity_term tscity_termTold tscity_manNames tscity_kinds tscity_skills tscity_fields tscity_wants tscity_hated tscity_dangerNames tscity_sizes tscity_grows tscity_decreeNames tscity_grounds tscity_laws)) H locs := hw
  refine lv_if_eq (tgt := 22) hx hb dX12_falls_8 (by decide) (fun c_8 => ?_) (fun c_8 => ?_)
  · have hf := (if_pos c_8).symm.trans hf
    refine lv_iconst (v := (-1 : Int32)) hx hb dX12_falls_22 (by decide) ?_
    obtain rfl := Option.some.inj hf
    exact k_iret X hw dX12_falls_23
  · have hf := (if_neg c_8).symm.trans hf
    refine lv_aload_n hx hb dX12_falls_11 rfl (lv_at hl 0 rfl) ?_
    refine k_get (q0 := 0) (ci := 10) (C := RX12) (T := TX12) (N := 14) (x := .ref tscity_o) X inx_12 hw rfl rfl 8 (by decide) rfl tw_516 rfl dX12_falls_12 ?_
    refine lv_iload_n hx hb dX12_falls_15 rfl (lv_at hl 1 rfl) ?_
    obtain ⟨r16, hc_16, hf⟩ := bd_some hf
    refine k_V (As := [.int (x1)]) (rest := []) (index := 276) (C := RX1) X (c_X1_fallen hc_16) tw_1157 tw_1158 tw_1159 tw_126 tw_1160 ⟨rfl, rfl⟩ hd_X1_fallen ⟨Nat.le_of_ble_eq_true rfl, Nat.le_of_ble_eq_true rfl⟩ ⟨Nat.zero_le _, Nat.zero_le _⟩ hw [2, 3, 4, 5, 6, 7, 8, 9, 10, 11, 12, 13] rfl rfl 2 rfl rfl rfl rfl hl.1 rfl (Nat.le_of_ble_eq_true rfl) dX12_falls_16 (fun H locs hw => ?_)
    have hw : Wd E A s.heap (wX12 E t_o t_q t_tape t_reader t_counsel t_now t_trial t_past t_reports t_marks (.ref tscity_o) t_spareCity t_script t_spareScript t_firstRefused t_firstKept ++ (wX1 E tscity_o tscity_q tscity_men tscity_consuls tscity_dangers tscity_decrees tscity_term tscity_termTold tscity_manNames tscity_kinds tscity_skills tscity_fields tscity_wants tscity_hated tscity_dangerNames tscity_sizes tscity_grows tscity_decreeNames tscity_grounds tscity_laws)) H locs := hw
    refine lv_goto (tgt := 23) hx hb dX12_falls_19 (by decide) ?_
    obtain rfl := Option.some.inj hf
    exact k_iret X hw dX12_falls_23
/-! public int anew(int, int); -/
def f_X12_anew (tscity_decrees : Int32) (tscity_grounds : (Nat → Int32)) (x1 : Int32) (x2 : Int32) : Option (Int32) := if (f_X1_hasDecrees tscity_decrees (x1)) = (0 : Int32) then some ((-1 : Int32))
  else if (f_X12_within (x2) ((0 : Int32)) ((tscity_decrees - (1 : Int32)))) = (0 : Int32) then some ((-1 : Int32))
  else (f_X1_fallen tscity_decrees tscity_grounds (x1)).bind fun r35 => (f_X1_neededBy tscity_grounds (x2)).bind fun r43 => some ((r35 &&& r43))
abbrev rm_X12_anew : Room := { frames := 2, cells := 0, slots := 0, locals := 44 }
theorem hd_X12_anew : yX12_anew.cls = RX12 ∧ yX12_anew.cls ≠ "java/lang/invoke/MethodHandle" ∧ yX12_anew.cls ≠ "java/lang/invoke/VarHandle" ∧ (parseMethodDescriptor yX12_anew.desc).map (fun d => d.parameters.length) = some 2 := by decide +kernel
set_option maxRecDepth 100000 in
set_option maxHeartbeats 4000000 in
theorem c_X12_anew {E : En} {l : Launch} {t_o : Nat} {t_q : Nat → Nat} {t_tape : Value} {t_reader : Value} {t_counsel : Value} {t_now : Value} {t_trial : Value} {t_past : Value} {t_reports : Value} {t_marks : (Nat → Option Nat)} {t_spareCity : Value} {t_script : Value} {t_spareScript : Value} {t_firstRefused : Int32} {t_firstKept : Int32} {tscity_o : Nat} {tscity_q : Nat → Nat} {tscity_men : Int32} {tscity_consuls : Int32} {tscity_dangers : Int32} {tscity_decrees : Int32} {tscity_term : Int32} {tscity_termTold : Int32} {tscity_manNames : (Nat → Int64)} {tscity_kinds : (Nat → Int32)} {tscity_skills : (Nat → Int32)} {tscity_fields : (Nat → Int32)} {tscity_wants : (Nat → Int32)} {tscity_hated : (Nat → Int32)} {tscity_dangerNames : (Nat → Int64)} {tscity_sizes : (Nat → Int32)} {tscity_grows : (Nat → Int32)} {tscity_decreeNames : (Nat → Int64)} {tscity_grounds : (Nat → Int32)} {tscity_laws : Value} {x1 : Int32} {x2 : Int32} {out : Int32} (hf : f_X12_anew tscity_decrees tscity_grounds x1 x2 = some out) : Cn E l yX12_anew cX12_anew 3 (some .int) rm_X12_anew [.ref t_o, .int (x1), .int (x2)] (wX12 E t_o t_q t_tape t_reader t_counsel t_now t_trial t_past t_reports t_marks (.ref tscity_o) t_spareCity t_script t_spareScript t_firstRefused t_firstKept ++ (wX1 E tscity_o tscity_q tscity_men tscity_consuls tscity_dangers tscity_decrees tscity_term tscity_termTold tscity_manNames tscity_kinds tscity_skills tscity_fields tscity_wants tscity_hated tscity_dangerNames tscity_sizes tscity_grows tscity_decreeNames tscity_grounds tscity_laws)) (some (.int out)) (wX12 E t_o t_q t_tape t_reader t_counsel t_now t_trial t_past t_reports t_marks (.ref tscity_o) t_spareCity t_script t_spareScript t_firstRefused t_firstKept ++ (wX1 E tscity_o tscity_q tscity_men tscity_consuls tscity_dangers tscity_decrees tscity_term tscity_termTold tscity_manNames tscity_kinds tscity_skills tscity_fields tscity_wants tscity_hated tscity_dangerNames tscity_sizes tscity_grows tscity_decreeNames tscity_grounds tscity_laws)) := by
  refine Cn.of (by decide) (Nat.le_of_ble_eq_true rfl) rfl ?_
  intro p e s m below meth c A ls args H locs X hw hl
  have hx := X.1.1
  have hb := X.1.2.1
  have ho := X.1.2.2.2.1
  have hts := X.1.2.2.2.2
  have hl : lv_has ls 3 [(0, .ref t_o), (1, .int (x1)), (2, .int (x2))] := hl
  unfold f_X12_anew at hf
  refine lv_aload_n hx hb dX12_anew_0 rfl (lv_at hl 0 rfl) ?_
  refine k_get (q0 := 0) (ci := 10) (C := RX12) (T := TX12) (N := 14) (x := .ref tscity_o) X inx_12 hw rfl rfl 8 (by decide) rfl tw_516 rfl dX12_anew_1 ?_
  refine lv_iload_n hx hb dX12_anew_4 rfl (lv_at hl 1 rfl) ?_
  refine k_V (As := [.int (x1)]) (rest := []) (index := 273) (C := RX1) X (c_X1_hasDecrees (out := (f_X1_hasDecrees tscity_decrees (x1))) rfl) tw_1153 tw_1154 tw_1155 tw_126 tw_1156 ⟨rfl, rfl⟩ hd_X1_hasDecrees ⟨Nat.le_of_ble_eq_true rfl, Nat.le_of_ble_eq_true rfl⟩ ⟨Nat.zero_le _, Nat.zero_le _⟩ hw [2, 3, 4, 5, 6, 7, 8, 9, 10, 11, 12, 13] rfl rfl 2 rfl rfl rfl rfl hl.1 rfl (Nat.le_of_ble_eq_true rfl) dX12_anew_5 (fun H locs hw => ?_)
  have hw : Wd E A s.heap (wX12 E t_o t_q t_tape t_reader t_counsel t_now t_trial t_past t_reports t_marks (.ref tscity_o) t_spareCity t_script t_spareScript t_firstRefused t_firstKept ++ (wX1 E tscity_o tscity_q tscity_men tscity_consuls tscity_dangers tscity_decrees tscity_term tscity_termTold tscity_manNames tscity_kinds tscity_skills tscity_fields tscity_wants tscity_hated tscity_dangerNames tscity_sizes tscity_grows tscity_decreeNames tscity_grounds tscity_laws)) H locs := hw
  refine lv_if_eq (tgt := 28) hx hb dX12_anew_8 (by decide) (fun c_8 => ?_) (fun c_8 => ?_)
  · have hf := (if_pos c_8).symm.trans hf
    refine lv_iconst (v := (-1 : Int32)) hx hb dX12_anew_28 (by decide) ?_
    obtain rfl := Option.some.inj hf
    exact k_iret X hw dX12_anew_29
  · have hf := (if_neg c_8).symm.trans hf
    refine lv_iload_n hx hb dX12_anew_11 rfl (lv_at hl 2 rfl) ?_
    refine lv_iconst (v := (0 : Int32)) hx hb dX12_anew_12 (by decide) ?_
    refine lv_aload_n hx hb dX12_anew_13 rfl (lv_at hl 0 rfl) ?_
    refine k_get (q0 := 0) (ci := 10) (C := RX12) (T := TX12) (N := 14) (x := .ref tscity_o) X inx_12 hw rfl rfl 8 (by decide) rfl tw_516 rfl dX12_anew_14 ?_
    refine k_getN (q0 := 2) (ci := 0) (C := RX1) (T := TX1) (N := 18) (host := "PloughCall") (x := .int (tscity_decrees)) X inx_1 hw rfl rfl 3 (by decide) rfl nw_44 rfl dX12_anew_17 ?_
    refine lv_iconst (v := (1 : Int32)) hx hb dX12_anew_20 (by decide) ?_
    refine lv_isub hx hb dX12_anew_21 ?_
    refine k_S (As := [.int (x2), .int ((0 : Int32)), .int ((tscity_decrees - (1 : Int32)))]) (rest := []) (index := 227) X (c_X12_within (out := (f_X12_within (x2) ((0 : Int32)) ((tscity_decrees - (1 : Int32))))) rfl) tw_1105 tw_560 tw_119 tw_561 ⟨rfl, rfl⟩ hd_X12_within ⟨Nat.le_of_ble_eq_true rfl, Nat.le_of_ble_eq_true rfl⟩ ⟨Nat.zero_le _, Nat.zero_le _⟩ hw [] rfl rfl rfl hl.1 rfl (Nat.le_of_ble_eq_true rfl) dX12_anew_22 (fun H locs hw => ?_)
    have hw : Wd E A s.heap (wX12 E t_o t_q t_tape t_reader t_counsel t_now t_trial t_past t_reports t_marks (.ref tscity_o) t_spareCity t_script t_spareScript t_firstRefused t_firstKept ++ (wX1 E tscity_o tscity_q tscity_men tscity_consuls tscity_dangers tscity_decrees tscity_term tscity_termTold tscity_manNames tscity_kinds tscity_skills tscity_fields tscity_wants tscity_hated tscity_dangerNames tscity_sizes tscity_grows tscity_decreeNames tscity_grounds tscity_laws)) H locs := hw
    refine lv_if_ne (tgt := 30) hx hb dX12_anew_25 (by decide) (fun c_25 => ?_) (fun c_25 => ?_)
    · have hf := (if_neg c_25).symm.trans hf
      refine lv_aload_n hx hb dX12_anew_30 rfl (lv_at hl 0 rfl) ?_
      refine k_get (q0 := 0) (ci := 10) (C := RX12) (T := TX12) (N := 14) (x := .ref tscity_o) X inx_12 hw rfl rfl 8 (by decide) rfl tw_516 rfl dX12_anew_31 ?_
      refine lv_iload_n hx hb dX12_anew_34 rfl (lv_at hl 1 rfl) ?_
      obtain ⟨r35, hc_35, hf⟩ := bd_some hf
      refine k_V (As := [.int (x1)]) (rest := []) (index := 276) (C := RX1) X (c_X1_fallen hc_35) tw_1157 tw_1158 tw_1159 tw_126 tw_1160 ⟨rfl, rfl⟩ hd_X1_fallen ⟨Nat.le_of_ble_eq_true rfl, Nat.le_of_ble_eq_true rfl⟩ ⟨Nat.zero_le _, Nat.zero_le _⟩ hw [2, 3, 4, 5, 6, 7, 8, 9, 10, 11, 12, 13] rfl rfl 2 rfl rfl rfl rfl hl.1 rfl (Nat.le_of_ble_eq_true rfl) dX12_anew_35 (fun H locs hw => ?_)
      have hw : Wd E A s.heap (wX12 E t_o t_q t_tape t_reader t_counsel t_now t_trial t_past t_reports t_marks (.ref tscity_o) t_spareCity t_script t_spareScript t_firstRefused t_firstKept ++ (wX1 E tscity_o tscity_q tscity_men tscity_consuls tscity_dangers tscity_decrees tscity_term tscity_termTold tscity_manNames tscity_kinds tscity_skills tscity_fields tscity_wants tscity_hated tscity_dangerNames tscity_sizes tscity_grows tscity_decreeNames tscity_grounds tscity_laws)) H locs := hw
      refine lv_aload_n hx hb dX12_anew_38 rfl (lv_at hl 0 rfl) ?_
      refine k_get (q0 := 0) (ci := 10) (C := RX12) (T := TX12) (N := 14) (x := .ref tscity_o) X inx_12 hw rfl rfl 8 (by decide) rfl tw_516 rfl dX12_anew_39 ?_
      refine lv_iload_n hx hb dX12_anew_42 rfl (lv_at hl 2 rfl) ?_
      obtain ⟨r43, hc_43, hf⟩ := bd_some hf
      refine k_V (As := [.int (x2)]) (rest := [.int (r35)]) (index := 283) (C := RX1) X (c_X1_neededBy hc_43) tw_1165 tw_1166 tw_1167 tw_126 tw_1168 ⟨rfl, rfl⟩ hd_X1_neededBy ⟨Nat.le_of_ble_eq_true rfl, Nat.le_of_ble_eq_true rfl⟩ ⟨Nat.zero_le _, Nat.zero_le _⟩ hw [2, 3, 4, 5, 6, 7, 8, 9, 10, 11, 12, 13] rfl rfl 2 rfl rfl rfl rfl hl.1 rfl (Nat.le_of_ble_eq_true rfl) dX12_anew_43 (fun H locs hw => ?_)
      have hw : Wd E A s.heap (wX12 E t_o t_q t_tape t_reader t_counsel t_now t_trial t_past t_reports t_marks (.ref tscity_o) t_spareCity t_script t_spareScript t_firstRefused t_firstKept ++ (wX1 E tscity_o tscity_q tscity_men tscity_consuls tscity_dangers tscity_decrees tscity_term tscity_termTold tscity_manNames tscity_kinds tscity_skills tscity_fields tscity_wants tscity_hated tscity_dangerNames tscity_sizes tscity_grows tscity_decreeNames tscity_grounds tscity_laws)) H locs := hw
      refine lv_iand hx hb dX12_anew_46 ?_
      obtain rfl := Option.some.inj hf
      exact k_iret X hw dX12_anew_47
    · have hf := (if_pos c_25).symm.trans hf
      refine lv_iconst (v := (-1 : Int32)) hx hb dX12_anew_28 (by decide) ?_
      obtain rfl := Option.some.inj hf
      exact k_iret X hw dX12_anew_29
/-! public boolean tell(int, int, int); -/
def f_X12_tell (tscity_dangers : Int32) (tsreports_told : Int32) (tsreports_dangers : (Nat → Int32)) (tsreports_months : (Nat → Int32)) (tsreports_sizes : (Nat → Int32)) (x1 : Int32) (x2 : Int32) (x3 : Int32) : Option (Int32 × Int32 × (Nat → Int32) × (Nat → Int32) × (Nat → Int32)) := if (f_X1_hasDanger tscity_dangers (x1)) = (0 : Int32) then some ((0 : Int32), tsreports_told, tsreports_dangers, tsreports_months, tsreports_sizes)
  else if (f_X12_within (x2) ((0 : Int32)) ((12 : Int32))) = (0 : Int32) then some ((0 : Int32), tsreports_told, tsreports_dangers, tsreports_months, tsreports_sizes)
  else if (f_X12_within (x3) ((0 : Int32)) ((99 : Int32))) = (0 : Int32) then some ((0 : Int32), tsreports_told, tsreports_dangers, tsreports_months, tsreports_sizes)
  else zg ((f_X7_add tsreports_told tsreports_dangers tsreports_months tsreports_sizes (x1) (x2) (x3)).1) (some ((f_X7_add tsreports_told tsreports_dangers tsreports_months tsreports_sizes (x1) (x2) (x3)).1, (f_X7_add tsreports_told tsreports_dangers tsreports_months tsreports_sizes (x1) (x2) (x3)).2.1, (f_X7_add tsreports_told tsreports_dangers tsreports_months tsreports_sizes (x1) (x2) (x3)).2.2.1, (f_X7_add tsreports_told tsreports_dangers tsreports_months tsreports_sizes (x1) (x2) (x3)).2.2.2.1, (f_X7_add tsreports_told tsreports_dangers tsreports_months tsreports_sizes (x1) (x2) (x3)).2.2.2.2))
abbrev rm_X12_tell : Room := { frames := 2, cells := 0, slots := 0, locals := 45 }
theorem hd_X12_tell : yX12_tell.cls = RX12 ∧ yX12_tell.cls ≠ "java/lang/invoke/MethodHandle" ∧ yX12_tell.cls ≠ "java/lang/invoke/VarHandle" ∧ (parseMethodDescriptor yX12_tell.desc).map (fun d => d.parameters.length) = some 3 := by decide +kernel
set_option maxRecDepth 100000 in
set_option maxHeartbeats 4000000 in
theorem c_X12_tell {E : En} {l : Launch} {t_o : Nat} {t_q : Nat → Nat} {t_tape : Value} {t_reader : Value} {t_counsel : Value} {t_now : Value} {t_trial : Value} {t_past : Value} {t_marks : (Nat → Option Nat)} {t_spareCity : Value} {t_script : Value} {t_spareScript : Value} {t_firstRefused : Int32} {t_firstKept : Int32} {tscity_o : Nat} {tscity_q : Nat → Nat} {tscity_men : Int32} {tscity_consuls : Int32} {tscity_dangers : Int32} {tscity_decrees : Int32} {tscity_term : Int32} {tscity_termTold : Int32} {tscity_manNames : (Nat → Int64)} {tscity_kinds : (Nat → Int32)} {tscity_skills : (Nat → Int32)} {tscity_fields : (Nat → Int32)} {tscity_wants : (Nat → Int32)} {tscity_hated : (Nat → Int32)} {tscity_dangerNames : (Nat → Int64)} {tscity_sizes : (Nat → Int32)} {tscity_grows : (Nat → Int32)} {tscity_decreeNames : (Nat → Int64)} {tscity_grounds : (Nat → Int32)} {tscity_laws : Value} {tsreports_o : Nat} {tsreports_q : Nat → Nat} {tsreports_told : Int32} {tsreports_dangers : (Nat → Int32)} {tsreports_months : (Nat → Int32)} {tsreports_sizes : (Nat → Int32)} {x1 : Int32} {x2 : Int32} {x3 : Int32} {out : Int32 × Int32 × (Nat → Int32) × (Nat → Int32) × (Nat → Int32)} (hf : f_X12_tell tscity_dangers tsreports_told tsreports_dangers tsreports_months tsreports_sizes x1 x2 x3 = some out) : Cn E l yX12_tell cX12_tell 4 (some .boolean) rm_X12_tell [.ref t_o, .int (x1), .int (x2), .int (x3)] (wX12 E t_o t_q t_tape t_reader t_counsel t_now t_trial t_past (.ref tsreports_o) t_marks (.ref tscity_o) t_spareCity t_script t_spareScript t_firstRefused t_firstKept ++ (wX1 E tscity_o tscity_q tscity_men tscity_consuls tscity_dangers tscity_decrees tscity_term tscity_termTold tscity_manNames tscity_kinds tscity_skills tscity_fields tscity_wants tscity_hated tscity_dangerNames tscity_sizes tscity_grows tscity_decreeNames tscity_grounds tscity_laws ++ (wX7 E tsreports_o tsreports_q tsreports_told tsreports_dangers tsreports_months tsreports_sizes))) (some (.int out.1)) (wX12 E t_o t_q t_tape t_reader t_counsel t_now t_trial t_past (.ref tsreports_o) t_marks (.ref tscity_o) t_spareCity t_script t_spareScript t_firstRefused t_firstKept ++ (wX1 E tscity_o tscity_q tscity_men tscity_consuls tscity_dangers tscity_decrees tscity_term tscity_termTold tscity_manNames tscity_kinds tscity_skills tscity_fields tscity_wants tscity_hated tscity_dangerNames tscity_sizes tscity_grows tscity_decreeNames tscity_grounds tscity_laws ++ (wX7 E tsreports_o tsreports_q out.2.1 out.2.2.1 out.2.2.2.1 out.2.2.2.2))) := by
  refine Cn.of (by decide) (Nat.le_of_ble_eq_true rfl) rfl ?_
  intro p e s m below meth c A ls args H locs X hw hl
  have hx := X.1.1
  have hb := X.1.2.1
  have ho := X.1.2.2.2.1
  have hts := X.1.2.2.2.2
  have hl : lv_has ls 4 [(0, .ref t_o), (1, .int (x1)), (2, .int (x2)), (3, .int (x3))] := hl
  unfold f_X12_tell at hf
  refine lv_aload_n hx hb dX12_tell_0 rfl (lv_at hl 0 rfl) ?_
  refine k_get (q0 := 0) (ci := 10) (C := RX12) (T := TX12) (N := 14) (x := .ref tscity_o) X inx_12 hw rfl rfl 8 (by decide) rfl tw_516 rfl dX12_tell_1 ?_
  refine lv_iload_n hx hb dX12_tell_4 rfl (lv_at hl 1 rfl) ?_
  refine k_V (As := [.int (x1)]) (rest := []) (index := 147) (C := RX1) X (c_X1_hasDanger (out := (f_X1_hasDanger tscity_dangers (x1))) rfl) tw_883 tw_884 tw_885 tw_126 tw_886 ⟨rfl, rfl⟩ hd_X1_hasDanger ⟨Nat.le_of_ble_eq_true rfl, Nat.le_of_ble_eq_true rfl⟩ ⟨Nat.zero_le _, Nat.zero_le _⟩ hw [2, 3, 4, 5, 6, 7, 8, 9, 10, 11, 12, 13] rfl rfl 2 rfl rfl rfl rfl hl.1 rfl (Nat.le_of_ble_eq_true rfl) dX12_tell_5 (fun H locs hw => ?_)
  have hw : Wd E A s.heap (wX12 E t_o t_q t_tape t_reader t_counsel t_now t_trial t_past (.ref tsreports_o) t_marks (.ref tscity_o) t_spareCity t_script t_spareScript t_firstRefused t_firstKept ++ (wX1 E tscity_o tscity_q tscity_men tscity_consuls tscity_dangers tscity_decrees tscity_term tscity_termTold tscity_manNames tscity_kinds tscity_skills tscity_fields tscity_wants tscity_hated tscity_dangerNames tscity_sizes tscity_grows tscity_decreeNames tscity_grounds tscity_laws ++ (wX7 E tsreports_o tsreports_q tsreports_told tsreports_dangers tsreports_months tsreports_sizes))) H locs := hw
  refine lv_if_eq (tgt := 31) hx hb dX12_tell_8 (by decide) (fun c_8 => ?_) (fun c_8 => ?_)
  · have hf := (if_pos c_8).symm.trans hf
    refine lv_iconst (v := (0 : Int32)) hx hb dX12_tell_31 (by decide) ?_
    obtain rfl := Option.some.inj hf
    exact k_zret X (Or.inl rfl) hw dX12_tell_32
  · have hf := (if_neg c_8).symm.trans hf
    refine lv_iload_n hx hb dX12_tell_11 rfl (lv_at hl 2 rfl) ?_
    refine lv_iconst (v := (0 : Int32)) hx hb dX12_tell_12 (by decide) ?_
    refine lv_bipush (v := (12 : Int32)) hx hb dX12_tell_13 (by decide) ?_
    refine k_S (As := [.int (x2), .int ((0 : Int32)), .int ((12 : Int32))]) (rest := []) (index := 227) X (c_X12_within (out := (f_X12_within (x2) ((0 : Int32)) ((12 : Int32)))) rfl) tw_1105 tw_560 tw_119 tw_561 ⟨rfl, rfl⟩ hd_X12_within ⟨Nat.le_of_ble_eq_true rfl, Nat.le_of_ble_eq_true rfl⟩ ⟨Nat.zero_le _, Nat.zero_le _⟩ hw [] rfl rfl rfl hl.1 rfl (Nat.le_of_ble_eq_true rfl) dX12_tell_15 (fun H locs hw => ?_)
    have hw : Wd E A s.heap (wX12 E t_o t_q t_tape t_reader t_counsel t_now t_trial t_past (.ref tsreports_o) t_marks (.ref tscity_o) t_spareCity t_script t_spareScript t_firstRefused t_firstKept ++ (wX1 E tscity_o tscity_q tscity_men tscity_consuls tscity_dangers tscity_decrees tscity_term tscity_termTold tscity_manNames tscity_kinds tscity_skills tscity_fields tscity_wants tscity_hated tscity_dangerNames tscity_sizes tscity_grows tscity_decreeNames tscity_grounds tscity_laws ++ (wX7 E tsreports_o tsreports_q tsreports_told tsreports_dangers tsreports_months tsreports_sizes))) H locs := hw
    refine lv_if_eq (tgt := 31) hx hb dX12_tell_18 (by decide) (fun c_18 => ?_) (fun c_18 => ?_)
    · have hf := (if_pos c_18).symm.trans hf
      refine lv_iconst (v := (0 : Int32)) hx hb dX12_tell_31 (by decide) ?_
      obtain rfl := Option.some.inj hf
      exact k_zret X (Or.inl rfl) hw dX12_tell_32
    · have hf := (if_neg c_18).symm.trans hf
      refine lv_iload_n hx hb dX12_tell_21 rfl (lv_at hl 3 rfl) ?_
      refine lv_iconst (v := (0 : Int32)) hx hb dX12_tell_22 (by decide) ?_
      refine lv_bipush (v := (99 : Int32)) hx hb dX12_tell_23 (by decide) ?_
      refine k_S (As := [.int (x3), .int ((0 : Int32)), .int ((99 : Int32))]) (rest := []) (index := 227) X (c_X12_within (out := (f_X12_within (x3) ((0 : Int32)) ((99 : Int32)))) rfl) tw_1105 tw_560 tw_119 tw_561 ⟨rfl, rfl⟩ hd_X12_within ⟨Nat.le_of_ble_eq_true rfl, Nat.le_of_ble_eq_true rfl⟩ ⟨Nat.zero_le _, Nat.zero_le _⟩ hw [] rfl rfl rfl hl.1 rfl (Nat.le_of_ble_eq_true rfl) dX12_tell_25 (fun H locs hw => ?_)
      have hw : Wd E A s.heap (wX12 E t_o t_q t_tape t_reader t_counsel t_now t_trial t_past (.ref tsreports_o) t_marks (.ref tscity_o) t_spareCity t_script t_spareScript t_firstRefused t_firstKept ++ (wX1 E tscity_o tscity_q tscity_men tscity_consuls tscity_dangers tscity_decrees tscity_term tscity_termTold tscity_manNames tscity_kinds tscity_skills tscity_fields tscity_wants tscity_hated tscity_dangerNames tscity_sizes tscity_grows tscity_decreeNames tscity_grounds tscity_laws ++ (wX7 E tsreports_o tsreports_q tsreports_told tsreports_dangers tsreports_months tsreports_sizes))) H locs := hw
      refine lv_if_ne (tgt := 33) hx hb dX12_tell_28 (by decide) (fun c_28 => ?_) (fun c_28 => ?_)
      · have hf := (if_neg c_28).symm.trans hf
        refine lv_aload_n hx hb dX12_tell_33 rfl (lv_at hl 0 rfl) ?_
        refine k_get (q0 := 0) (ci := 10) (C := RX12) (T := TX12) (N := 14) (x := .ref tsreports_o) X inx_12 hw rfl rfl 6 (by decide) rfl tw_514 rfl dX12_tell_34 ?_
        refine lv_iload_n hx hb dX12_tell_37 rfl (lv_at hl 1 rfl) ?_
        refine lv_iload_n hx hb dX12_tell_38 rfl (lv_at hl 2 rfl) ?_
        refine lv_iload_n hx hb dX12_tell_39 rfl (lv_at hl 3 rfl) ?_
        refine k_V (As := [.int (x1), .int (x2), .int (x3)]) (rest := []) (index := 286) (C := RX7) X (c_X7_add (out := (f_X7_add tsreports_told tsreports_dangers tsreports_months tsreports_sizes (x1) (x2) (x3))) rfl) tw_1173 tw_1174 tw_1175 tw_125 tw_1176 ⟨rfl, rfl⟩ hd_X7_add ⟨Nat.le_of_ble_eq_true rfl, Nat.le_of_ble_eq_true rfl⟩ ⟨Nat.zero_le _, Nat.zero_le _⟩ hw [14, 15, 16, 17] rfl rfl 14 rfl rfl rfl rfl hl.1 rfl (Nat.le_of_ble_eq_true rfl) dX12_tell_40 (fun H locs hw => ?_)
        have hw : Wd E A s.heap (wX12 E t_o t_q t_tape t_reader t_counsel t_now t_trial t_past (.ref tsreports_o) t_marks (.ref tscity_o) t_spareCity t_script t_spareScript t_firstRefused t_firstKept ++ (wX1 E tscity_o tscity_q tscity_men tscity_consuls tscity_dangers tscity_decrees tscity_term tscity_termTold tscity_manNames tscity_kinds tscity_skills tscity_fields tscity_wants tscity_hated tscity_dangerNames tscity_sizes tscity_grows tscity_decreeNames tscity_grounds tscity_laws ++ (wX7 E tsreports_o tsreports_q ((f_X7_add tsreports_told tsreports_dangers tsreports_months tsreports_sizes (x1) (x2) (x3)).2.1) ((f_X7_add tsreports_told tsreports_dangers tsreports_months tsreports_sizes (x1) (x2) (x3)).2.2.1) ((f_X7_add tsreports_told tsreports_dangers tsreports_months tsreports_sizes (x1) (x2) (x3)).2.2.2.1) ((f_X7_add tsreports_told tsreports_dangers tsreports_months tsreports_sizes (x1) (x2) (x3)).2.2.2.2)))) H locs := hw
        obtain ⟨hz_43, hf⟩ := zg_some hf
        obtain rfl := Option.some.inj hf
        exact k_zret X hz_43 hw dX12_tell_43
      · have hf := (if_pos c_28).symm.trans hf
        refine lv_iconst (v := (0 : Int32)) hx hb dX12_tell_31 (by decide) ?_
        obtain rfl := Option.some.inj hf
        exact k_zret X (Or.inl rfl) hw dX12_tell_32
/-! public int count(int); -/
def f_X12_count (tscity_men : Int32) (tscity_consuls : Int32) (tscity_dangers : Int32) (tscity_decrees : Int32) (tscity_term : Int32) (tsnow_month : Int32) (tsnow_power : Int32) (tsnow_master : Int32) (tsnow_left : Int32) (tsnow_kept : Int32) (tsnow_sizes : (Nat → Int32)) (tspast_steps : Int32) (tsreports_told : Int32) (tsscript_lines : Int32) (tstape_length : Int32) (x1 : Int32) : Option (Int32) := if x1 = (0 : Int32) then some (tscity_men)
  else if x1 = (1 : Int32) then some (tscity_dangers)
  else if x1 = (2 : Int32) then some (tscity_decrees)
  else if x1 = (3 : Int32) then some (tscity_consuls)
  else if x1 = (4 : Int32) then some (tsnow_month)
  else if x1 = (5 : Int32) then some (tsnow_power)
  else if x1 = (6 : Int32) then some (tsnow_master)
  else if x1 = (7 : Int32) then some (tsnow_left)
  else if x1 = (8 : Int32) then if tsnow_kept = (0 : Int32) then some ((0 : Int32))
    else some ((1 : Int32))
  else if x1 = (9 : Int32) then (f_X9_together tsnow_sizes).bind fun r160 => some (r160)
  else if x1 = (10 : Int32) then some (tsscript_lines)
  else if x1 = (11 : Int32) then some (tsreports_told)
  else if x1 = (12 : Int32) then some (tspast_steps)
  else if x1 = (13 : Int32) then some (tstape_length)
  else if x1 = (14 : Int32) then some (tscity_term)
  else some ((-1 : Int32))
abbrev rm_X12_count : Room := { frames := 2, cells := 0, slots := 0, locals := 43 }
theorem hd_X12_count : yX12_count.cls = RX12 ∧ yX12_count.cls ≠ "java/lang/invoke/MethodHandle" ∧ yX12_count.cls ≠ "java/lang/invoke/VarHandle" ∧ (parseMethodDescriptor yX12_count.desc).map (fun d => d.parameters.length) = some 1 := by decide +kernel
set_option maxRecDepth 100000 in
set_option maxHeartbeats 4000000 in
theorem c_X12_count {E : En} {l : Launch} {t_o : Nat} {t_q : Nat → Nat} {t_reader : Value} {t_counsel : Value} {t_trial : Value} {t_marks : (Nat → Option Nat)} {t_spareCity : Value} {t_spareScript : Value} {t_firstRefused : Int32} {t_firstKept : Int32} {tscity_o : Nat} {tscity_q : Nat → Nat} {tscity_men : Int32} {tscity_consuls : Int32} {tscity_dangers : Int32} {tscity_decrees : Int32} {tscity_term : Int32} {tscity_termTold : Int32} {tscity_manNames : (Nat → Int64)} {tscity_kinds : (Nat → Int32)} {tscity_skills : (Nat → Int32)} {tscity_fields : (Nat → Int32)} {tscity_wants : (Nat → Int32)} {tscity_hated : (Nat → Int32)} {tscity_dangerNames : (Nat → Int64)} {tscity_sizes : (Nat → Int32)} {tscity_grows : (Nat → Int32)} {tscity_decreeNames : (Nat → Int64)} {tscity_grounds : (Nat → Int32)} {tscity_laws : Value} {tsnow_o : Nat} {tsnow_q : Nat → Nat} {tsnow_month : Int32} {tsnow_power : Int32} {tsnow_master : Int32} {tsnow_left : Int32} {tsnow_kept : Int32} {tsnow_passed : Int32} {tsnow_sizes : (Nat → Int32)} {tsnow_fields : (Nat → Int32)} {tsnow_liked : (Nat → Int32)} {tspast_o : Nat} {tspast_q : Nat → Nat} {tspast_befores : (Nat → Option Nat)} {tspast_steps : Int32} {tspast_next : Int32} {tsreports_o : Nat} {tsreports_q : Nat → Nat} {tsreports_told : Int32} {tsreports_dangers : (Nat → Int32)} {tsreports_months : (Nat → Int32)} {tsreports_sizes : (Nat → Int32)} {tsscript_o : Nat} {tsscript_q : Nat → Nat} {tsscript_lines : Int32} {tsscript_kinds : (Nat → Int32)} {tsscript_firsts : (Nat → Int32)} {tsscript_seconds : (Nat → Int32)} {tstape_o : Nat} {tstape_q : Nat → Nat} {tstape_signs : (Nat → Int32)} {tstape_length : Int32} {tstape_place : Int32} {tstape_behind : Int32} {tstape_kind : Int32} {tstape_value : Int32} {tstape_letters : Int64} {tstape_word : (Option Nat)} {x1 : Int32} {out : Int32} (hf : f_X12_count tscity_men tscity_consuls tscity_dangers tscity_decrees tscity_term tsnow_month tsnow_power tsnow_master tsnow_left tsnow_kept tsnow_sizes tspast_steps tsreports_told tsscript_lines tstape_length x1 = some out) : Cn E l yX12_count cX12_count 2 (some .int) rm_X12_count [.ref t_o, .int (x1)] (wX12 E t_o t_q (.ref tstape_o) t_reader t_counsel (.ref tsnow_o) t_trial (.ref tspast_o) (.ref tsreports_o) t_marks (.ref tscity_o) t_spareCity (.ref tsscript_o) t_spareScript t_firstRefused t_firstKept ++ (wX1 E tscity_o tscity_q tscity_men tscity_consuls tscity_dangers tscity_decrees tscity_term tscity_termTold tscity_manNames tscity_kinds tscity_skills tscity_fields tscity_wants tscity_hated tscity_dangerNames tscity_sizes tscity_grows tscity_decreeNames tscity_grounds tscity_laws ++ (wX9 E tsnow_o tsnow_q tsnow_month tsnow_power tsnow_master tsnow_left tsnow_kept tsnow_passed tsnow_sizes tsnow_fields tsnow_liked ++ (wX5 E tspast_o tspast_q tspast_befores tspast_steps tspast_next ++ (wX7 E tsreports_o tsreports_q tsreports_told tsreports_dangers tsreports_months tsreports_sizes ++ (wX8 E tsscript_o tsscript_q tsscript_lines tsscript_kinds tsscript_firsts tsscript_seconds ++ (wX10 E tstape_o tstape_q tstape_signs tstape_length tstape_place tstape_behind tstape_kind tstape_value tstape_letters tstape_word))))))) (some (.int out)) (wX12 E t_o t_q (.ref tstape_o) t_reader t_counsel (.ref tsnow_o) t_trial (.ref tspast_o) (.ref tsreports_o) t_marks (.ref tscity_o) t_spareCity (.ref tsscript_o) t_spareScript t_firstRefused t_firstKept ++ (wX1 E tscity_o tscity_q tscity_men tscity_consuls tscity_dangers tscity_decrees tscity_term tscity_termTold tscity_manNames tscity_kinds tscity_skills tscity_fields tscity_wants tscity_hated tscity_dangerNames tscity_sizes tscity_grows tscity_decreeNames tscity_grounds tscity_laws ++ (wX9 E tsnow_o tsnow_q tsnow_month tsnow_power tsnow_master tsnow_left tsnow_kept tsnow_passed tsnow_sizes tsnow_fields tsnow_liked ++ (wX5 E tspast_o tspast_q tspast_befores tspast_steps tspast_next ++ (wX7 E tsreports_o tsreports_q tsreports_told tsreports_dangers tsreports_months tsreports_sizes ++ (wX8 E tsscript_o tsscript_q tsscript_lines tsscript_kinds tsscript_firsts tsscript_seconds ++ (wX10 E tstape_o tstape_q tstape_signs tstape_length tstape_place tstape_behind tstape_kind tstape_value tstape_letters tstape_word))))))) := by
  refine Cn.of (by decide) (Nat.le_of_ble_eq_true rfl) rfl ?_
  intro p e s m below meth c A ls args H locs X hw hl
  have hx := X.1.1
  have hb := X.1.2.1
  have ho := X.1.2.2.2.1
  have hts := X.1.2.2.2.2
  have hl : lv_has ls 2 [(0, .ref t_o), (1, .int (x1))] := hl
  unfold f_X12_count at hf
  refine lv_iload_n hx hb dX12_count_0 rfl (lv_at hl 1 rfl) ?_
  by_cases c_1_0 : x1 = (0 : Int32)
  · have hf := (if_pos c_1_0).symm.trans hf
    refine lv_tableIn (tgt := 76) hx hb dX12_count_1 (by rw [c_1_0]; decide) (by rw [c_1_0]; decide) (by rw [c_1_0]; rfl) (by decide) ?_
    refine lv_aload_n hx hb dX12_count_76 rfl (lv_at hl 0 rfl) ?_
    refine k_get (q0 := 0) (ci := 10) (C := RX12) (T := TX12) (N := 14) (x := .ref tscity_o) X inx_12 hw rfl rfl 8 (by decide) rfl tw_516 rfl dX12_count_77 ?_
    refine k_getN (q0 := 2) (ci := 0) (C := RX1) (T := TX1) (N := 18) (host := "PloughCall") (x := .int (tscity_men)) X inx_1 hw rfl rfl 0 (by decide) rfl nw_36 rfl dX12_count_80 ?_
    obtain rfl := Option.some.inj hf
    exact k_iret X hw dX12_count_83
  have hf := (if_neg c_1_0).symm.trans hf
  by_cases c_1_1 : x1 = (1 : Int32)
  · have hf := (if_pos c_1_1).symm.trans hf
    refine lv_tableIn (tgt := 84) hx hb dX12_count_1 (by rw [c_1_1]; decide) (by rw [c_1_1]; decide) (by rw [c_1_1]; rfl) (by decide) ?_
    refine lv_aload_n hx hb dX12_count_84 rfl (lv_at hl 0 rfl) ?_
    refine k_get (q0 := 0) (ci := 10) (C := RX12) (T := TX12) (N := 14) (x := .ref tscity_o) X inx_12 hw rfl rfl 8 (by decide) rfl tw_516 rfl dX12_count_85 ?_
    refine k_getN (q0 := 2) (ci := 0) (C := RX1) (T := TX1) (N := 18) (host := "PloughCall") (x := .int (tscity_dangers)) X inx_1 hw rfl rfl 2 (by decide) rfl nw_42 rfl dX12_count_88 ?_
    obtain rfl := Option.some.inj hf
    exact k_iret X hw dX12_count_91
  have hf := (if_neg c_1_1).symm.trans hf
  by_cases c_1_2 : x1 = (2 : Int32)
  · have hf := (if_pos c_1_2).symm.trans hf
    refine lv_tableIn (tgt := 92) hx hb dX12_count_1 (by rw [c_1_2]; decide) (by rw [c_1_2]; decide) (by rw [c_1_2]; rfl) (by decide) ?_
    refine lv_aload_n hx hb dX12_count_92 rfl (lv_at hl 0 rfl) ?_
    refine k_get (q0 := 0) (ci := 10) (C := RX12) (T := TX12) (N := 14) (x := .ref tscity_o) X inx_12 hw rfl rfl 8 (by decide) rfl tw_516 rfl dX12_count_93 ?_
    refine k_getN (q0 := 2) (ci := 0) (C := RX1) (T := TX1) (N := 18) (host := "PloughCall") (x := .int (tscity_decrees)) X inx_1 hw rfl rfl 3 (by decide) rfl nw_44 rfl dX12_count_96 ?_
    obtain rfl := Option.some.inj hf
    exact k_iret X hw dX12_count_99
  have hf := (if_neg c_1_2).symm.trans hf
  by_cases c_1_3 : x1 = (3 : Int32)
  · have hf := (if_pos c_1_3).symm.trans hf
    refine lv_tableIn (tgt := 100) hx hb dX12_count_1 (by rw [c_1_3]; decide) (by rw [c_1_3]; decide) (by rw [c_1_3]; rfl) (by decide) ?_
    refine lv_aload_n hx hb dX12_count_100 rfl (lv_at hl 0 rfl) ?_
    refine k_get (q0 := 0) (ci := 10) (C := RX12) (T := TX12) (N := 14) (x := .ref tscity_o) X inx_12 hw rfl rfl 8 (by decide) rfl tw_516 rfl dX12_count_101 ?_
    refine k_getN (q0 := 2) (ci := 0) (C := RX1) (T := TX1) (N := 18) (host := "PloughCall") (x := .int (tscity_consuls)) X inx_1 hw rfl rfl 1 (by decide) rfl nw_38 rfl dX12_count_104 ?_
    obtain rfl := Option.some.inj hf
    exact k_iret X hw dX12_count_107
  have hf := (if_neg c_1_3).symm.trans hf
  by_cases c_1_4 : x1 = (4 : Int32)
  · have hf := (if_pos c_1_4).symm.trans hf
    refine lv_tableIn (tgt := 108) hx hb dX12_count_1 (by rw [c_1_4]; decide) (by rw [c_1_4]; decide) (by rw [c_1_4]; rfl) (by decide) ?_
    refine lv_aload_n hx hb dX12_count_108 rfl (lv_at hl 0 rfl) ?_
    refine k_get (q0 := 0) (ci := 10) (C := RX12) (T := TX12) (N := 14) (x := .ref tsnow_o) X inx_12 hw rfl rfl 3 (by decide) rfl tw_511 rfl dX12_count_109 ?_
    refine k_getN (q0 := 14) (ci := 8) (C := RX9) (T := TX9) (N := 9) (host := "PloughCall") (x := .int (tsnow_month)) X inx_9 hw rfl rfl 0 (by decide) rfl nw_8 rfl dX12_count_112 ?_
    obtain rfl := Option.some.inj hf
    exact k_iret X hw dX12_count_115
  have hf := (if_neg c_1_4).symm.trans hf
  by_cases c_1_5 : x1 = (5 : Int32)
  · have hf := (if_pos c_1_5).symm.trans hf
    refine lv_tableIn (tgt := 116) hx hb dX12_count_1 (by rw [c_1_5]; decide) (by rw [c_1_5]; decide) (by rw [c_1_5]; rfl) (by decide) ?_
    refine lv_aload_n hx hb dX12_count_116 rfl (lv_at hl 0 rfl) ?_
    refine k_get (q0 := 0) (ci := 10) (C := RX12) (T := TX12) (N := 14) (x := .ref tsnow_o) X inx_12 hw rfl rfl 3 (by decide) rfl tw_511 rfl dX12_count_117 ?_
    refine k_getN (q0 := 14) (ci := 8) (C := RX9) (T := TX9) (N := 9) (host := "PloughCall") (x := .int (tsnow_power)) X inx_9 hw rfl rfl 1 (by decide) rfl nw_10 rfl dX12_count_120 ?_
    obtain rfl := Option.some.inj hf
    exact k_iret X hw dX12_count_123
  have hf := (if_neg c_1_5).symm.trans hf
  by_cases c_1_6 : x1 = (6 : Int32)
  · have hf := (if_pos c_1_6).symm.trans hf
    refine lv_tableIn (tgt := 124) hx hb dX12_count_1 (by rw [c_1_6]; decide) (by rw [c_1_6]; decide) (by rw [c_1_6]; rfl) (by decide) ?_
    refine lv_aload_n hx hb dX12_count_124 rfl (lv_at hl 0 rfl) ?_
    refine k_get (q0 := 0) (ci := 10) (C := RX12) (T := TX12) (N := 14) (x := .ref tsnow_o) X inx_12 hw rfl rfl 3 (by decide) rfl tw_511 rfl dX12_count_125 ?_
    refine k_getN (q0 := 14) (ci := 8) (C := RX9) (T := TX9) (N := 9) (host := "PloughCall") (x := .int (tsnow_master)) X inx_9 hw rfl rfl 2 (by decide) rfl nw_12 rfl dX12_count_128 ?_
    obtain rfl := Option.some.inj hf
    exact k_iret X hw dX12_count_131
  have hf := (if_neg c_1_6).symm.trans hf
  by_cases c_1_7 : x1 = (7 : Int32)
  · have hf := (if_pos c_1_7).symm.trans hf
    refine lv_tableIn (tgt := 132) hx hb dX12_count_1 (by rw [c_1_7]; decide) (by rw [c_1_7]; decide) (by rw [c_1_7]; rfl) (by decide) ?_
    refine lv_aload_n hx hb dX12_count_132 rfl (lv_at hl 0 rfl) ?_
    refine k_get (q0 := 0) (ci := 10) (C := RX12) (T := TX12) (N := 14) (x := .ref tsnow_o) X inx_12 hw rfl rfl 3 (by decide) rfl tw_511 rfl dX12_count_133 ?_
    refine k_getN (q0 := 14) (ci := 8) (C := RX9) (T := TX9) (N := 9) (host := "PloughCall") (x := .int (tsnow_left)) X inx_9 hw rfl rfl 3 (by decide) rfl nw_13 rfl dX12_count_136 ?_
    obtain rfl := Option.some.inj hf
    exact k_iret X hw dX12_count_139
  have hf := (if_neg c_1_7).symm.trans hf
  by_cases c_1_8 : x1 = (8 : Int32)
  · have hf := (if_pos c_1_8).symm.trans hf
    refine lv_tableIn (tgt := 140) hx hb dX12_count_1 (by rw [c_1_8]; decide) (by rw [c_1_8]; decide) (by rw [c_1_8]; rfl) (by decide) ?_
    refine lv_aload_n hx hb dX12_count_140 rfl (lv_at hl 0 rfl) ?_
    refine k_get (q0 := 0) (ci := 10) (C := RX12) (T := TX12) (N := 14) (x := .ref tsnow_o) X inx_12 hw rfl rfl 3 (by decide) rfl tw_511 rfl dX12_count_141 ?_
    refine k_getN (q0 := 14) (ci := 8) (C := RX9) (T := TX9) (N := 9) (host := "PloughCall") (x := .int (tsnow_kept)) X inx_9 hw rfl rfl 4 (by decide) rfl nw_15 rfl dX12_count_144 ?_
    refine lv_if_eq (tgt := 154) hx hb dX12_count_147 (by decide) (fun c_147 => ?_) (fun c_147 => ?_)
    · have hf := (if_pos c_147).symm.trans hf
      refine lv_iconst (v := (0 : Int32)) hx hb dX12_count_154 (by decide) ?_
      obtain rfl := Option.some.inj hf
      exact k_iret X hw dX12_count_155
    · have hf := (if_neg c_147).symm.trans hf
      refine lv_iconst (v := (1 : Int32)) hx hb dX12_count_150 (by decide) ?_
      refine lv_goto (tgt := 155) hx hb dX12_count_151 (by decide) ?_
      obtain rfl := Option.some.inj hf
      exact k_iret X hw dX12_count_155
  have hf := (if_neg c_1_8).symm.trans hf
  by_cases c_1_9 : x1 = (9 : Int32)
  · have hf := (if_pos c_1_9).symm.trans hf
    refine lv_tableIn (tgt := 156) hx hb dX12_count_1 (by rw [c_1_9]; decide) (by rw [c_1_9]; decide) (by rw [c_1_9]; rfl) (by decide) ?_
    refine lv_aload_n hx hb dX12_count_156 rfl (lv_at hl 0 rfl) ?_
    refine k_get (q0 := 0) (ci := 10) (C := RX12) (T := TX12) (N := 14) (x := .ref tsnow_o) X inx_12 hw rfl rfl 3 (by decide) rfl tw_511 rfl dX12_count_157 ?_
    obtain ⟨r160, hc_160, hf⟩ := bd_some hf
    refine k_V (As := []) (rest := []) (index := 208) (C := RX9) X (c_X9_together hc_160) tw_1060 tw_1001 tw_1002 tw_123 tw_1003 ⟨rfl, rfl⟩ hd_X9_together ⟨Nat.le_of_ble_eq_true rfl, Nat.le_of_ble_eq_true rfl⟩ ⟨Nat.zero_le _, Nat.zero_le _⟩ hw [14, 15, 16, 17] rfl rfl 14 rfl rfl rfl rfl hl.1 rfl (Nat.le_of_ble_eq_true rfl) dX12_count_160 (fun H locs hw => ?_)
    have hw : Wd E A s.heap (wX12 E t_o t_q (.ref tstape_o) t_reader t_counsel (.ref tsnow_o) t_trial (.ref tspast_o) (.ref tsreports_o) t_marks (.ref tscity_o) t_spareCity (.ref tsscript_o) t_spareScript t_firstRefused t_firstKept ++ (wX1 E tscity_o tscity_q tscity_men tscity_consuls tscity_dangers tscity_decrees tscity_term tscity_termTold tscity_manNames tscity_kinds tscity_skills tscity_fields tscity_wants tscity_hated tscity_dangerNames tscity_sizes tscity_grows tscity_decreeNames tscity_grounds tscity_laws ++ (wX9 E tsnow_o tsnow_q tsnow_month tsnow_power tsnow_master tsnow_left tsnow_kept tsnow_passed tsnow_sizes tsnow_fields tsnow_liked ++ (wX5 E tspast_o tspast_q tspast_befores tspast_steps tspast_next ++ (wX7 E tsreports_o tsreports_q tsreports_told tsreports_dangers tsreports_months tsreports_sizes ++ (wX8 E tsscript_o tsscript_q tsscript_lines tsscript_kinds tsscript_firsts tsscript_seconds ++ (wX10 E tstape_o tstape_q tstape_signs tstape_length tstape_place tstape_behind tstape_kind tstape_value tstape_letters tstape_word))))))) H locs := hw
    obtain rfl := Option.some.inj hf
    exact k_iret X hw dX12_count_163
  have hf := (if_neg c_1_9).symm.trans hf
  by_cases c_1_10 : x1 = (10 : Int32)
  · have hf := (if_pos c_1_10).symm.trans hf
    refine lv_tableIn (tgt := 164) hx hb dX12_count_1 (by rw [c_1_10]; decide) (by rw [c_1_10]; decide) (by rw [c_1_10]; rfl) (by decide) ?_
    refine lv_aload_n hx hb dX12_count_164 rfl (lv_at hl 0 rfl) ?_
    refine k_get (q0 := 0) (ci := 10) (C := RX12) (T := TX12) (N := 14) (x := .ref tsscript_o) X inx_12 hw rfl rfl 10 (by decide) rfl tw_518 rfl dX12_count_165 ?_
    refine k_getN (q0 := 24) (ci := 7) (C := RX8) (T := TX8) (N := 4) (host := "PloughCall") (x := .int (tsscript_lines)) X inx_8 hw rfl rfl 0 (by decide) rfl nw_66 rfl dX12_count_168 ?_
    obtain rfl := Option.some.inj hf
    exact k_iret X hw dX12_count_171
  have hf := (if_neg c_1_10).symm.trans hf
  by_cases c_1_11 : x1 = (11 : Int32)
  · have hf := (if_pos c_1_11).symm.trans hf
    refine lv_tableIn (tgt := 172) hx hb dX12_count_1 (by rw [c_1_11]; decide) (by rw [c_1_11]; decide) (by rw [c_1_11]; rfl) (by decide) ?_
    refine lv_aload_n hx hb dX12_count_172 rfl (lv_at hl 0 rfl) ?_
    refine k_get (q0 := 0) (ci := 10) (C := RX12) (T := TX12) (N := 14) (x := .ref tsreports_o) X inx_12 hw rfl rfl 6 (by decide) rfl tw_514 rfl dX12_count_173 ?_
    refine k_getN (q0 := 20) (ci := 6) (C := RX7) (T := TX7) (N := 4) (host := "PloughCall") (x := .int (tsreports_told)) X inx_7 hw rfl rfl 0 (by decide) rfl nw_28 rfl dX12_count_176 ?_
    obtain rfl := Option.some.inj hf
    exact k_iret X hw dX12_count_179
  have hf := (if_neg c_1_11).symm.trans hf
  by_cases c_1_12 : x1 = (12 : Int32)
  · have hf := (if_pos c_1_12).symm.trans hf
    refine lv_tableIn (tgt := 180) hx hb dX12_count_1 (by rw [c_1_12]; decide) (by rw [c_1_12]; decide) (by rw [c_1_12]; rfl) (by decide) ?_
    refine lv_aload_n hx hb dX12_count_180 rfl (lv_at hl 0 rfl) ?_
    refine k_get (q0 := 0) (ci := 10) (C := RX12) (T := TX12) (N := 14) (x := .ref tspast_o) X inx_12 hw rfl rfl 5 (by decide) rfl tw_513 rfl dX12_count_181 ?_
    refine k_getN (q0 := 18) (ci := 4) (C := RX5) (T := TX5) (N := 3) (host := "PloughCall") (x := .int (tspast_steps)) X inx_5 hw rfl rfl 1 (by decide) rfl nw_26 rfl dX12_count_184 ?_
    obtain rfl := Option.some.inj hf
    exact k_iret X hw dX12_count_187
  have hf := (if_neg c_1_12).symm.trans hf
  by_cases c_1_13 : x1 = (13 : Int32)
  · have hf := (if_pos c_1_13).symm.trans hf
    refine lv_tableIn (tgt := 188) hx hb dX12_count_1 (by rw [c_1_13]; decide) (by rw [c_1_13]; decide) (by rw [c_1_13]; rfl) (by decide) ?_
    refine lv_aload_n hx hb dX12_count_188 rfl (lv_at hl 0 rfl) ?_
    refine k_get (q0 := 0) (ci := 10) (C := RX12) (T := TX12) (N := 14) (x := .ref tstape_o) X inx_12 hw rfl rfl 0 (by decide) rfl tw_508 rfl dX12_count_189 ?_
    refine k_getN (q0 := 28) (ci := 9) (C := RX10) (T := TX10) (N := 8) (host := "PloughCall") (x := .int (tstape_length)) X inx_10 hw rfl rfl 1 (by decide) rfl nw_1 rfl dX12_count_192 ?_
    obtain rfl := Option.some.inj hf
    exact k_iret X hw dX12_count_195
  have hf := (if_neg c_1_13).symm.trans hf
  by_cases c_1_14 : x1 = (14 : Int32)
  · have hf := (if_pos c_1_14).symm.trans hf
    refine lv_tableIn (tgt := 196) hx hb dX12_count_1 (by rw [c_1_14]; decide) (by rw [c_1_14]; decide) (by rw [c_1_14]; rfl) (by decide) ?_
    refine lv_aload_n hx hb dX12_count_196 rfl (lv_at hl 0 rfl) ?_
    refine k_get (q0 := 0) (ci := 10) (C := RX12) (T := TX12) (N := 14) (x := .ref tscity_o) X inx_12 hw rfl rfl 8 (by decide) rfl tw_516 rfl dX12_count_197 ?_
    refine k_getN (q0 := 2) (ci := 0) (C := RX1) (T := TX1) (N := 18) (host := "PloughCall") (x := .int (tscity_term)) X inx_1 hw rfl rfl 4 (by decide) rfl nw_47 rfl dX12_count_200 ?_
    obtain rfl := Option.some.inj hf
    exact k_iret X hw dX12_count_203
  have hf := (if_neg c_1_14).symm.trans hf
  have nc_1_0 : (x1).toInt ≠ 0 := fun h => c_1_0 (Int32.toInt_inj.mp (h.trans (by decide)))
  have nc_1_1 : (x1).toInt ≠ 1 := fun h => c_1_1 (Int32.toInt_inj.mp (h.trans (by decide)))
  have nc_1_2 : (x1).toInt ≠ 2 := fun h => c_1_2 (Int32.toInt_inj.mp (h.trans (by decide)))
  have nc_1_3 : (x1).toInt ≠ 3 := fun h => c_1_3 (Int32.toInt_inj.mp (h.trans (by decide)))
  have nc_1_4 : (x1).toInt ≠ 4 := fun h => c_1_4 (Int32.toInt_inj.mp (h.trans (by decide)))
  have nc_1_5 : (x1).toInt ≠ 5 := fun h => c_1_5 (Int32.toInt_inj.mp (h.trans (by decide)))
  have nc_1_6 : (x1).toInt ≠ 6 := fun h => c_1_6 (Int32.toInt_inj.mp (h.trans (by decide)))
  have nc_1_7 : (x1).toInt ≠ 7 := fun h => c_1_7 (Int32.toInt_inj.mp (h.trans (by decide)))
  have nc_1_8 : (x1).toInt ≠ 8 := fun h => c_1_8 (Int32.toInt_inj.mp (h.trans (by decide)))
  have nc_1_9 : (x1).toInt ≠ 9 := fun h => c_1_9 (Int32.toInt_inj.mp (h.trans (by decide)))
  have nc_1_10 : (x1).toInt ≠ 10 := fun h => c_1_10 (Int32.toInt_inj.mp (h.trans (by decide)))
  have nc_1_11 : (x1).toInt ≠ 11 := fun h => c_1_11 (Int32.toInt_inj.mp (h.trans (by decide)))
  have nc_1_12 : (x1).toInt ≠ 12 := fun h => c_1_12 (Int32.toInt_inj.mp (h.trans (by decide)))
  have nc_1_13 : (x1).toInt ≠ 13 := fun h => c_1_13 (Int32.toInt_inj.mp (h.trans (by decide)))
  have nc_1_14 : (x1).toInt ≠ 14 := fun h => c_1_14 (Int32.toInt_inj.mp (h.trans (by decide)))
  refine lv_tableOut (tgt := 204) hx hb dX12_count_1 (by omega) (by decide) ?_
  refine lv_iconst (v := (-1 : Int32)) hx hb dX12_count_204 (by decide) ?_
  obtain rfl := Option.some.inj hf
  exact k_iret X hw dX12_count_205
/-! private static boolean isAtRest(int, int, int, int); -/
def f_X12_isAtRest (x0 : Int32) (x1 : Int32) (x2 : Int32) (x3 : Int32) : Int32 := if (f_X12_gets (x0) (x1) (x2) ((x3 >>> ((1 : Int32) &&& (31 : Int32)))) ((x3 &&& (1 : Int32)))) < (f_X12_gets (x0) (x1) (x2) (((1 : Int32) - (x3 >>> ((1 : Int32) &&& (31 : Int32))))) ((x3 &&& (1 : Int32)))) then ((0 : Int32))
  else if (f_X12_gets (x0) (x1) (x2) ((x3 &&& (1 : Int32))) ((x3 >>> ((1 : Int32) &&& (31 : Int32))))) < (f_X12_gets (x0) (x1) (x2) (((1 : Int32) - (x3 &&& (1 : Int32)))) ((x3 >>> ((1 : Int32) &&& (31 : Int32))))) then ((0 : Int32))
  else ((1 : Int32))
abbrev rm_X12_isAtRest : Room := { frames := 1, cells := 0, slots := 0, locals := 24 }
theorem hd_X12_isAtRest : yX12_isAtRest.cls = RX12 ∧ yX12_isAtRest.cls ≠ "java/lang/invoke/MethodHandle" ∧ yX12_isAtRest.cls ≠ "java/lang/invoke/VarHandle" ∧ (parseMethodDescriptor yX12_isAtRest.desc).map (fun d => d.parameters.length) = some 4 := by decide +kernel
set_option maxRecDepth 100000 in
set_option maxHeartbeats 4000000 in
theorem c_X12_isAtRest {E : En} {l : Launch}  {x0 : Int32} {x1 : Int32} {x2 : Int32} {x3 : Int32} {out : Int32} (hf : f_X12_isAtRest x0 x1 x2 x3 = out) : Cn E l yX12_isAtRest cX12_isAtRest 6 (some .boolean) rm_X12_isAtRest [.int (x0), .int (x1), .int (x2), .int (x3)] (([] : va_W)) (some (.int out)) (([] : va_W)) := by
  refine Cn.of (by decide) (Nat.le_of_ble_eq_true rfl) rfl ?_
  intro p e s m below meth c A ls args H locs X hw hl
  have hx := X.1.1
  have hb := X.1.2.1
  have ho := X.1.2.2.2.1
  have hts := X.1.2.2.2.2
  have hl : lv_has ls 6 [(0, .int (x0)), (1, .int (x1)), (2, .int (x2)), (3, .int (x3))] := hl
  unfold f_X12_isAtRest at hf
  refine lv_iload_n hx hb dX12_isAtRest_0 rfl (lv_at hl 3 rfl) ?_
  refine lv_iconst (v := (1 : Int32)) hx hb dX12_isAtRest_1 (by decide) ?_
  refine lv_ishr hx hb dX12_isAtRest_2 ?_
  refine lv_istore (lv' := [(4, .int ((x3 >>> ((1 : Int32) &&& (31 : Int32))))), (0, .int (x0)), (1, .int (x1)), (2, .int (x2)), (3, .int (x3))]) hx hb dX12_isAtRest_3 hl (by decide) rfl (fun ls hl => ?_)
  refine lv_iload_n hx hb dX12_isAtRest_5 rfl (lv_at hl 4 rfl) ?_
  refine lv_iconst (v := (1 : Int32)) hx hb dX12_isAtRest_6 (by decide) ?_
  refine lv_iand hx hb dX12_isAtRest_7 ?_
  refine lv_istore (lv' := [(5, .int ((x3 &&& (1 : Int32)))), (4, .int ((x3 >>> ((1 : Int32) &&& (31 : Int32))))), (0, .int (x0)), (1, .int (x1)), (2, .int (x2)), (3, .int (x3))]) hx hb dX12_isAtRest_8 hl (by decide) rfl (fun ls hl => ?_)
  refine lv_iload_n hx hb dX12_isAtRest_10 rfl (lv_at hl 2 rfl) ?_
  refine lv_iload_n hx hb dX12_isAtRest_11 rfl (lv_at hl 3 rfl) ?_
  refine lv_iload_n hx hb dX12_isAtRest_12 rfl (lv_at hl 4 rfl) ?_
  refine lv_iload hx hb dX12_isAtRest_13 (lv_at hl 1 rfl) ?_
  refine lv_iload hx hb dX12_isAtRest_15 (lv_at hl 0 rfl) ?_
  refine k_S (As := [.int (x0), .int (x1), .int (x2), .int ((x3 >>> ((1 : Int32) &&& (31 : Int32)))), .int ((x3 &&& (1 : Int32)))]) (rest := []) (index := 350) X (c_X12_gets (out := (f_X12_gets (x0) (x1) (x2) ((x3 >>> ((1 : Int32) &&& (31 : Int32)))) ((x3 &&& (1 : Int32))))) rfl) tw_1359 tw_1360 tw_119 tw_1361 ⟨rfl, rfl⟩ hd_X12_gets ⟨Nat.le_of_ble_eq_true rfl, Nat.le_of_ble_eq_true rfl⟩ ⟨Nat.zero_le _, Nat.zero_le _⟩ hw [] rfl rfl rfl hl.1 rfl (Nat.le_of_ble_eq_true rfl) dX12_isAtRest_17 (fun H locs hw => ?_)
  have hw : Wd E A s.heap (([] : va_W)) H locs := hw
  refine lv_iload_n hx hb dX12_isAtRest_20 rfl (lv_at hl 2 rfl) ?_
  refine lv_iload_n hx hb dX12_isAtRest_21 rfl (lv_at hl 3 rfl) ?_
  refine lv_iload_n hx hb dX12_isAtRest_22 rfl (lv_at hl 4 rfl) ?_
  refine lv_iconst (v := (1 : Int32)) hx hb dX12_isAtRest_23 (by decide) ?_
  refine lv_iload hx hb dX12_isAtRest_24 (lv_at hl 1 rfl) ?_
  refine lv_isub hx hb dX12_isAtRest_26 ?_
  refine lv_iload hx hb dX12_isAtRest_27 (lv_at hl 0 rfl) ?_
  refine k_S (As := [.int (x0), .int (x1), .int (x2), .int (((1 : Int32) - (x3 >>> ((1 : Int32) &&& (31 : Int32))))), .int ((x3 &&& (1 : Int32)))]) (rest := [.int ((f_X12_gets (x0) (x1) (x2) ((x3 >>> ((1 : Int32) &&& (31 : Int32)))) ((x3 &&& (1 : Int32)))))]) (index := 350) X (c_X12_gets (out := (f_X12_gets (x0) (x1) (x2) (((1 : Int32) - (x3 >>> ((1 : Int32) &&& (31 : Int32))))) ((x3 &&& (1 : Int32))))) rfl) tw_1359 tw_1360 tw_119 tw_1361 ⟨rfl, rfl⟩ hd_X12_gets ⟨Nat.le_of_ble_eq_true rfl, Nat.le_of_ble_eq_true rfl⟩ ⟨Nat.zero_le _, Nat.zero_le _⟩ hw [] rfl rfl rfl hl.1 rfl (Nat.le_of_ble_eq_true rfl) dX12_isAtRest_29 (fun H locs hw => ?_)
  have hw : Wd E A s.heap (([] : va_W)) H locs := hw
  refine lv_icmp_lt (tgt := 64) hx hb dX12_isAtRest_32 (by decide) (fun c_32 => ?_) (fun c_32 => ?_)
  · have hf := (if_pos c_32).symm.trans hf
    refine lv_iconst (v := (0 : Int32)) hx hb dX12_isAtRest_64 (by decide) ?_
    subst hf
    exact k_zret X (Or.inl rfl) hw dX12_isAtRest_65
  · have hf := (if_neg c_32).symm.trans hf
    refine lv_iload_n hx hb dX12_isAtRest_35 rfl (lv_at hl 2 rfl) ?_
    refine lv_iload_n hx hb dX12_isAtRest_36 rfl (lv_at hl 3 rfl) ?_
    refine lv_iload_n hx hb dX12_isAtRest_37 rfl (lv_at hl 4 rfl) ?_
    refine lv_iload hx hb dX12_isAtRest_38 (lv_at hl 0 rfl) ?_
    refine lv_iload hx hb dX12_isAtRest_40 (lv_at hl 1 rfl) ?_
    refine k_S (As := [.int (x0), .int (x1), .int (x2), .int ((x3 &&& (1 : Int32))), .int ((x3 >>> ((1 : Int32) &&& (31 : Int32))))]) (rest := []) (index := 350) X (c_X12_gets (out := (f_X12_gets (x0) (x1) (x2) ((x3 &&& (1 : Int32))) ((x3 >>> ((1 : Int32) &&& (31 : Int32)))))) rfl) tw_1359 tw_1360 tw_119 tw_1361 ⟨rfl, rfl⟩ hd_X12_gets ⟨Nat.le_of_ble_eq_true rfl, Nat.le_of_ble_eq_true rfl⟩ ⟨Nat.zero_le _, Nat.zero_le _⟩ hw [] rfl rfl rfl hl.1 rfl (Nat.le_of_ble_eq_true rfl) dX12_isAtRest_42 (fun H locs hw => ?_)
    have hw : Wd E A s.heap (([] : va_W)) H locs := hw
    refine lv_iload_n hx hb dX12_isAtRest_45 rfl (lv_at hl 2 rfl) ?_
    refine lv_iload_n hx hb dX12_isAtRest_46 rfl (lv_at hl 3 rfl) ?_
    refine lv_iload_n hx hb dX12_isAtRest_47 rfl (lv_at hl 4 rfl) ?_
    refine lv_iconst (v := (1 : Int32)) hx hb dX12_isAtRest_48 (by decide) ?_
    refine lv_iload hx hb dX12_isAtRest_49 (lv_at hl 0 rfl) ?_
    refine lv_isub hx hb dX12_isAtRest_51 ?_
    refine lv_iload hx hb dX12_isAtRest_52 (lv_at hl 1 rfl) ?_
    refine k_S (As := [.int (x0), .int (x1), .int (x2), .int (((1 : Int32) - (x3 &&& (1 : Int32)))), .int ((x3 >>> ((1 : Int32) &&& (31 : Int32))))]) (rest := [.int ((f_X12_gets (x0) (x1) (x2) ((x3 &&& (1 : Int32))) ((x3 >>> ((1 : Int32) &&& (31 : Int32))))))]) (index := 350) X (c_X12_gets (out := (f_X12_gets (x0) (x1) (x2) (((1 : Int32) - (x3 &&& (1 : Int32)))) ((x3 >>> ((1 : Int32) &&& (31 : Int32)))))) rfl) tw_1359 tw_1360 tw_119 tw_1361 ⟨rfl, rfl⟩ hd_X12_gets ⟨Nat.le_of_ble_eq_true rfl, Nat.le_of_ble_eq_true rfl⟩ ⟨Nat.zero_le _, Nat.zero_le _⟩ hw [] rfl rfl rfl hl.1 rfl (Nat.le_of_ble_eq_true rfl) dX12_isAtRest_54 (fun H locs hw => ?_)
    have hw : Wd E A s.heap (([] : va_W)) H locs := hw
    refine lv_icmp_lt (tgt := 64) hx hb dX12_isAtRest_57 (by decide) (fun c_57 => ?_) (fun c_57 => ?_)
    · have hf := (if_pos c_57).symm.trans hf
      refine lv_iconst (v := (0 : Int32)) hx hb dX12_isAtRest_64 (by decide) ?_
      subst hf
      exact k_zret X (Or.inl rfl) hw dX12_isAtRest_65
    · have hf := (if_neg c_57).symm.trans hf
      refine lv_iconst (v := (1 : Int32)) hx hb dX12_isAtRest_60 (by decide) ?_
      refine lv_goto (tgt := 65) hx hb dX12_isAtRest_61 (by decide) ?_
      subst hf
      exact k_zret X (Or.inr rfl) hw dX12_isAtRest_65
theorem zb_X12_isAtRest (x0 : Int32) (x1 : Int32) (x2 : Int32) (x3 : Int32) : f_X12_isAtRest x0 x1 x2 x3 = 0 ∨ f_X12_isAtRest x0 x1 x2 x3 = 1 := by
  unfold f_X12_isAtRest
  repeat' apply ite_z
  all_goals first | exact Or.inl rfl | exact Or.inr rfl
