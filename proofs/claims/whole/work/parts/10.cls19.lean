/-! private boolean lineEnds(); -/
def f_X6_lineEnds (t_fault : Int32) (tstape_signs : (Nat → Int32)) (tstape_length : Int32) (tstape_place : Int32) (tstape_behind : Int32) (tstape_kind : Int32) (tstape_value : Int32) (tstape_letters : Int64) (tstape_word : (Option Nat)) : Option (Int32 × Int32 × Int32 × Int32 × Int32 × Int32 × Int64 × (Option Nat)) := if (f_X10_isSign tstape_kind tstape_value ((59 : Int32))) = (0 : Int32) then zg ((f_X6_wrong tstape_place ((1 : Int32))).1) (some ((f_X6_wrong tstape_place ((1 : Int32))).1, (f_X6_wrong tstape_place ((1 : Int32))).2, tstape_place, tstape_behind, tstape_kind, tstape_value, tstape_letters, tstape_word))
  else (f_X10_advance tstape_signs tstape_length tstape_behind).bind fun r22 => some ((1 : Int32), t_fault, r22.1, r22.2.1, r22.2.2.1, r22.2.2.2.1, r22.2.2.2.2.1, r22.2.2.2.2.2)
abbrev rm_X6_lineEnds : Room := { frames := 3, cells := 0, slots := 0, locals := 64 }
theorem hd_X6_lineEnds : yX6_lineEnds.cls = RX6 ∧ yX6_lineEnds.cls ≠ "java/lang/invoke/MethodHandle" ∧ yX6_lineEnds.cls ≠ "java/lang/invoke/VarHandle" ∧ (parseMethodDescriptor yX6_lineEnds.desc).map (fun d => d.parameters.length) = some 0 := by decide +kernel
set_option maxRecDepth 100000 in
set_option maxHeartbeats 4000000 in
theorem c_X6_lineEnds {E : En} {l : Launch} {t_o : Nat} {t_city : Value} {t_script : Value} {t_fault : Int32} {tstape_o : Nat} {tstape_q : Nat → Nat} {tstape_signs : (Nat → Int32)} {tstape_length : Int32} {tstape_place : Int32} {tstape_behind : Int32} {tstape_kind : Int32} {tstape_value : Int32} {tstape_letters : Int64} {tstape_word : (Option Nat)}  {out : Int32 × Int32 × Int32 × Int32 × Int32 × Int32 × Int64 × (Option Nat)} (hf : f_X6_lineEnds t_fault tstape_signs tstape_length tstape_place tstape_behind tstape_kind tstape_value tstape_letters tstape_word = some out) : Cn E l yX6_lineEnds cX6_lineEnds 1 (some .boolean) rm_X6_lineEnds [.ref t_o] (wX6 E t_o (.ref tstape_o) t_city t_script t_fault ++ (wX10 E tstape_o tstape_q tstape_signs tstape_length tstape_place tstape_behind tstape_kind tstape_value tstape_letters tstape_word)) (some (.int out.1)) (wX6 E t_o (.ref tstape_o) t_city t_script out.2.1 ++ (wX10 E tstape_o tstape_q tstape_signs tstape_length out.2.2.1 out.2.2.2.1 out.2.2.2.2.1 out.2.2.2.2.2.1 out.2.2.2.2.2.2.1 out.2.2.2.2.2.2.2)) := by
  refine Cn.of (by decide) (Nat.le_of_ble_eq_true rfl) rfl ?_
  intro p e s m below meth c A ls args H locs X hw hl
  have hx := X.1.1
  have hb := X.1.2.1
  have ho := X.1.2.2.2.1
  have hts := X.1.2.2.2.2
  have hl : lv_has ls 1 [(0, .ref t_o)] := hl
  unfold f_X6_lineEnds at hf
  refine lv_aload_n hx hb dX6_lineEnds_0 rfl (lv_at hl 0 rfl) ?_
  refine k_get (q0 := 0) (ci := 5) (C := RX6) (T := TX6) (N := 4) (x := .ref tstape_o) X inx_6 hw rfl rfl 0 (by decide) rfl tw_192 rfl dX6_lineEnds_1 ?_
  refine lv_bipush (v := (59 : Int32)) hx hb dX6_lineEnds_4 (by decide) ?_
  refine k_V (As := [.int ((59 : Int32))]) (rest := []) (index := 281) (C := RX10) X (c_X10_isSign (out := (f_X10_isSign tstape_kind tstape_value ((59 : Int32)))) rfl) tw_688 tw_689 tw_690 tw_120 tw_691 ⟨rfl, rfl⟩ hd_X10_isSign ⟨Nat.le_of_ble_eq_true rfl, Nat.le_of_ble_eq_true rfl⟩ ⟨Nat.zero_le _, Nat.zero_le _⟩ hw [1, 2] rfl rfl 1 rfl rfl rfl rfl hl.1 rfl (Nat.le_of_ble_eq_true rfl) dX6_lineEnds_6 (fun H locs hw => ?_)
  have hw : Wd E A s.heap (wX6 E t_o (.ref tstape_o) t_city t_script t_fault ++ (wX10 E tstape_o tstape_q tstape_signs tstape_length tstape_place tstape_behind tstape_kind tstape_value tstape_letters tstape_word)) H locs := hw
  refine lv_if_ne (tgt := 18) hx hb dX6_lineEnds_9 (by decide) (fun c_9 => ?_) (fun c_9 => ?_)
  · have hf := (if_neg c_9).symm.trans hf
    refine lv_aload_n hx hb dX6_lineEnds_18 rfl (lv_at hl 0 rfl) ?_
    refine k_get (q0 := 0) (ci := 5) (C := RX6) (T := TX6) (N := 4) (x := .ref tstape_o) X inx_6 hw rfl rfl 0 (by decide) rfl tw_192 rfl dX6_lineEnds_19 ?_
    obtain ⟨r22, hc_22, hf⟩ := bd_some hf
    refine k_V (As := []) (rest := []) (index := 103) (C := RX10) X (c_X10_advance hc_22) tw_633 tw_587 tw_588 tw_120 tw_589 ⟨rfl, rfl⟩ hd_X10_advance ⟨Nat.le_of_ble_eq_true rfl, Nat.le_of_ble_eq_true rfl⟩ ⟨Nat.zero_le _, Nat.zero_le _⟩ hw [1, 2] rfl rfl 1 rfl rfl rfl rfl hl.1 rfl (Nat.le_of_ble_eq_true rfl) dX6_lineEnds_22 (fun H locs hw => ?_)
    have hw : Wd E A s.heap (wX6 E t_o (.ref tstape_o) t_city t_script t_fault ++ (wX10 E tstape_o tstape_q tstape_signs tstape_length r22.1 r22.2.1 r22.2.2.1 r22.2.2.2.1 r22.2.2.2.2.1 r22.2.2.2.2.2)) H locs := hw
    refine lv_iconst (v := (1 : Int32)) hx hb dX6_lineEnds_25 (by decide) ?_
    obtain rfl := Option.some.inj hf
    exact k_zret X (Or.inr rfl) hw dX6_lineEnds_26
  · have hf := (if_pos c_9).symm.trans hf
    refine lv_aload_n hx hb dX6_lineEnds_12 rfl (lv_at hl 0 rfl) ?_
    refine lv_iconst (v := (1 : Int32)) hx hb dX6_lineEnds_13 (by decide) ?_
    refine k_V (As := [.int ((1 : Int32))]) (rest := []) (index := 62) (C := RX6) X (c_X6_wrong (out := (f_X6_wrong tstape_place ((1 : Int32)))) rfl) tw_617 tw_619 tw_3 tw_121 tw_620 ⟨rfl, rfl⟩ hd_X6_wrong ⟨Nat.le_of_ble_eq_true rfl, Nat.le_of_ble_eq_true rfl⟩ ⟨Nat.zero_le _, Nat.zero_le _⟩ hw [0, 1, 2] rfl rfl 0 rfl rfl rfl rfl hl.1 rfl (Nat.le_of_ble_eq_true rfl) dX6_lineEnds_14 (fun H locs hw => ?_)
    have hw : Wd E A s.heap (wX6 E t_o (.ref tstape_o) t_city t_script ((f_X6_wrong tstape_place ((1 : Int32))).2) ++ (wX10 E tstape_o tstape_q tstape_signs tstape_length tstape_place tstape_behind tstape_kind tstape_value tstape_letters tstape_word)) H locs := hw
    obtain ⟨hz_17, hf⟩ := zg_some hf
    obtain rfl := Option.some.inj hf
    exact k_zret X hz_17 hw dX6_lineEnds_17
/-! int suspects(PloughCall$City); -/
def f_X7_suspects_4 : Nat → Int32 → (Nat → Int32) → (Nat → Int32) → (Nat → Int32) → Int32 → (Nat → Int32) → (Nat → Int32) → (Nat → Int32) → (Nat → Int32) → (Nat → Int32) → (Nat → Int32) → Int32 → Int32 → Int32 → Int32 → Int32 → Int32 → Option (Int32 × (Nat → Int32))
  | 0, _, _, _, _, _, _, _, _, _, _, _, _, _, _, _, _, _ => none
  | n + 1, t_told, t_dangers, t_months, t_sizes, p1_men, p1_kinds, p1_skills, p1_wants, p1_sizes, p1slaws_ops, p1slaws_stack, p1slaws_worksFrom, p1slaws_worksTo, p1slaws_keepsFrom, p1slaws_keepsTo, x2, x3 => if p1_men ≤ x3 then some (x2, p1slaws_stack)
    else (f_X7_fits t_told t_dangers t_months t_sizes p1_kinds p1_skills p1_wants p1_sizes p1slaws_ops p1slaws_stack p1slaws_worksFrom p1slaws_worksTo p1slaws_keepsFrom p1slaws_keepsTo (x3)).bind fun r15 => if r15.1 = (0 : Int32) then f_X7_suspects_4 n t_told t_dangers t_months t_sizes p1_men p1_kinds p1_skills p1_wants p1_sizes p1slaws_ops r15.2 p1slaws_worksFrom p1slaws_worksTo p1slaws_keepsFrom p1slaws_keepsTo x2 ((x3 + (1 : Int32)))
    else f_X7_suspects_4 n t_told t_dangers t_months t_sizes p1_men p1_kinds p1_skills p1_wants p1_sizes p1slaws_ops r15.2 p1slaws_worksFrom p1slaws_worksTo p1slaws_keepsFrom p1slaws_keepsTo ((x2 ||| ((1 : Int32) <<< (x3 &&& (31 : Int32))))) ((x3 + (1 : Int32)))
def f_X7_suspects (t_told : Int32) (t_dangers : (Nat → Int32)) (t_months : (Nat → Int32)) (t_sizes : (Nat → Int32)) (p1_men : Int32) (p1_kinds : (Nat → Int32)) (p1_skills : (Nat → Int32)) (p1_wants : (Nat → Int32)) (p1_sizes : (Nat → Int32)) (p1slaws_ops : (Nat → Int32)) (p1slaws_stack : (Nat → Int32)) (p1slaws_worksFrom : Int32) (p1slaws_worksTo : Int32) (p1slaws_keepsFrom : Int32) (p1slaws_keepsTo : Int32) : Option (Int32 × (Nat → Int32)) := f_X7_suspects_4 1100 t_told t_dangers t_months t_sizes p1_men p1_kinds p1_skills p1_wants p1_sizes p1slaws_ops p1slaws_stack p1slaws_worksFrom p1slaws_worksTo p1slaws_keepsFrom p1slaws_keepsTo ((0 : Int32)) ((0 : Int32))
abbrev rm_X7_suspects : Room := { frames := 5, cells := 0, slots := 0, locals := 128 }
theorem hd_X7_suspects : yX7_suspects.cls = RX7 ∧ yX7_suspects.cls ≠ "java/lang/invoke/MethodHandle" ∧ yX7_suspects.cls ≠ "java/lang/invoke/VarHandle" ∧ (parseMethodDescriptor yX7_suspects.desc).map (fun d => d.parameters.length) = some 1 := by decide +kernel
set_option maxRecDepth 100000 in
set_option maxHeartbeats 4000000 in
theorem kb_X7_suspects_4 {E : En} {p : Program} {l : Launch} {e : Env} {s : State} {m : MethodId} {args : Array Value} {below : List Frame} {meth : Method} {c : Code} {A : Nat → Prop} {t_o : Nat} {t_q : Nat → Nat} {t_told : Int32} {t_dangers : (Nat → Int32)} {t_months : (Nat → Int32)} {t_sizes : (Nat → Int32)} {p1_o : Nat} {p1_q : Nat → Nat} {p1_men : Int32} {p1_consuls : Int32} {p1_dangers : Int32} {p1_decrees : Int32} {p1_term : Int32} {p1_termTold : Int32} {p1_manNames : (Nat → Int64)} {p1_kinds : (Nat → Int32)} {p1_skills : (Nat → Int32)} {p1_fields : (Nat → Int32)} {p1_wants : (Nat → Int32)} {p1_hated : (Nat → Int32)} {p1_dangerNames : (Nat → Int64)} {p1_sizes : (Nat → Int32)} {p1_grows : (Nat → Int32)} {p1_decreeNames : (Nat → Int64)} {p1_grounds : (Nat → Int32)} {p1slaws_o : Nat} {p1slaws_q : Nat → Nat} {p1slaws_ops : (Nat → Int32)} {p1slaws_size : Int32} {p1slaws_worksFrom : Int32} {p1slaws_worksTo : Int32} {p1slaws_keepsFrom : Int32} {p1slaws_keepsTo : Int32} {out : Int32 × (Nat → Int32)} (X : Bx E A p s m args meth c cX7_suspects 4 RX7 (some .int)) : ∀ (n : Nat) {p1slaws_stack : (Nat → Int32)} {x2 : Int32} {x3 : Int32} {H : Heap} {locs : List Loc} {ls : Array Slot}, f_X7_suspects_4 n t_told t_dangers t_months t_sizes p1_men p1_kinds p1_skills p1_wants p1_sizes p1slaws_ops p1slaws_stack p1slaws_worksFrom p1slaws_worksTo p1slaws_keepsFrom p1slaws_keepsTo x2 x3 = some out → Wd E A s.heap (wX7 E t_o t_q t_told t_dangers t_months t_sizes ++ (wX1 E p1_o p1_q p1_men p1_consuls p1_dangers p1_decrees p1_term p1_termTold p1_manNames p1_kinds p1_skills p1_fields p1_wants p1_hated p1_dangerNames p1_sizes p1_grows p1_decreeNames p1_grounds (.ref p1slaws_o) ++ (wX3 E p1slaws_o p1slaws_q p1slaws_ops p1slaws_stack p1slaws_size p1slaws_worksFrom p1slaws_worksTo p1slaws_keepsFrom p1slaws_keepsTo))) H locs → lv_has ls 4 [(0, .ref t_o), (1, .ref p1_o), (2, .int (x2)), (3, .int (x3))] → W p l e rm_X7_suspects s m args below meth c H locs 0 0 (Zn E below args s A (some (.int out.1)) (wX7 E t_o t_q t_told t_dangers t_months t_sizes ++ (wX1 E p1_o p1_q p1_men p1_consuls p1_dangers p1_decrees p1_term p1_termTold p1_manNames p1_kinds p1_skills p1_fields p1_wants p1_hated p1_dangerNames p1_sizes p1_grows p1_decreeNames p1_grounds (.ref p1slaws_o) ++ (wX3 E p1slaws_o p1slaws_q p1slaws_ops out.2 p1slaws_size p1slaws_worksFrom p1slaws_worksTo p1slaws_keepsFrom p1slaws_keepsTo)))) (F0 m 4 ls []) := by
  have hx := X.1.1
  have hb := X.1.2.1
  have ho := X.1.2.2.2.1
  have hts := X.1.2.2.2.2
  intro n
  induction n with
  | zero =>
    intro p1slaws_stack x2 x3 H locs ls hf
    have hf : (none : Option (Int32 × (Nat → Int32))) = some out := hf
    cases hf
  | succ n ih =>
    intro p1slaws_stack x2 x3 H locs ls hf hw hl
    rw [f_X7_suspects_4.eq_2] at hf
    refine lv_iload_n hx hb dX7_suspects_4 rfl (lv_at hl 3 rfl) ?_
    refine lv_aload_n hx hb dX7_suspects_5 rfl (lv_at hl 1 rfl) ?_
    refine k_getN (q0 := 4) (ci := 0) (C := RX1) (T := TX1) (N := 18) (host := "PloughCall") (x := .int (p1_men)) X inx_1 hw rfl rfl 0 (by decide) rfl nw_34 rfl dX7_suspects_6 ?_
    refine lv_icmp_ge (tgt := 33) hx hb dX7_suspects_9 (by decide) (fun c_9 => ?_) (fun c_9 => ?_)
    · have hf := (if_pos c_9).symm.trans hf
      refine lv_iload_n hx hb dX7_suspects_33 rfl (lv_at hl 2 rfl) ?_
      obtain rfl := Option.some.inj hf
      exact k_iret X hw dX7_suspects_34
    · have hf := (if_neg c_9).symm.trans hf
      refine lv_aload_n hx hb dX7_suspects_12 rfl (lv_at hl 0 rfl) ?_
      refine lv_aload_n hx hb dX7_suspects_13 rfl (lv_at hl 1 rfl) ?_
      refine lv_iload_n hx hb dX7_suspects_14 rfl (lv_at hl 3 rfl) ?_
      obtain ⟨r15, hc_15, hf⟩ := bd_some hf
      refine k_V (As := [.ref p1_o, .int (x3)]) (rest := []) (index := 38) (C := RX7) X (c_X7_fits hc_15) tw_1186 tw_1188 tw_40 tw_125 tw_1189 ⟨rfl, rfl⟩ hd_X7_fits ⟨Nat.le_of_ble_eq_true rfl, Nat.le_of_ble_eq_true rfl⟩ ⟨Nat.zero_le _, Nat.zero_le _⟩ hw [0, 1, 2, 3, 4, 5, 6, 7, 8, 9, 10, 11, 12, 13, 14, 15, 16, 17, 18] rfl rfl 0 rfl rfl rfl rfl hl.1 rfl (Nat.le_of_ble_eq_true rfl) dX7_suspects_15 (fun H locs hw => ?_)
      have hw : Wd E A s.heap (wX7 E t_o t_q t_told t_dangers t_months t_sizes ++ (wX1 E p1_o p1_q p1_men p1_consuls p1_dangers p1_decrees p1_term p1_termTold p1_manNames p1_kinds p1_skills p1_fields p1_wants p1_hated p1_dangerNames p1_sizes p1_grows p1_decreeNames p1_grounds (.ref p1slaws_o) ++ (wX3 E p1slaws_o p1slaws_q p1slaws_ops r15.2 p1slaws_size p1slaws_worksFrom p1slaws_worksTo p1slaws_keepsFrom p1slaws_keepsTo))) H locs := hw
      refine lv_if_eq (tgt := 27) hx hb dX7_suspects_18 (by decide) (fun c_18 => ?_) (fun c_18 => ?_)
      · have hf := (if_pos c_18).symm.trans hf
        refine lv_iinc (v := (x3 + (1 : Int32))) (lv' := [(3, .int ((x3 + (1 : Int32)))), (0, .ref t_o), (1, .ref p1_o), (2, .int (x2))]) hx hb dX7_suspects_27 hl (k := 3) rfl rfl (by decide) rfl (fun ls hl => ?_)
        refine lv_goto (tgt := 4) hx hb dX7_suspects_30 (by decide) ?_
        exact ih hf hw (lv_sub hl [1, 2, 3, 0] rfl)
      · have hf := (if_neg c_18).symm.trans hf
        refine lv_iload_n hx hb dX7_suspects_21 rfl (lv_at hl 2 rfl) ?_
        refine lv_iconst (v := (1 : Int32)) hx hb dX7_suspects_22 (by decide) ?_
        refine lv_iload_n hx hb dX7_suspects_23 rfl (lv_at hl 3 rfl) ?_
        refine lv_ishl hx hb dX7_suspects_24 ?_
        refine lv_ior hx hb dX7_suspects_25 ?_
        refine lv_istore_n (lv' := [(2, .int ((x2 ||| ((1 : Int32) <<< (x3 &&& (31 : Int32)))))), (0, .ref t_o), (1, .ref p1_o), (3, .int (x3))]) hx hb dX7_suspects_26 rfl hl (by decide) rfl (fun ls hl => ?_)
        refine lv_iinc (v := (x3 + (1 : Int32))) (lv' := [(3, .int ((x3 + (1 : Int32)))), (2, .int ((x2 ||| ((1 : Int32) <<< (x3 &&& (31 : Int32)))))), (0, .ref t_o), (1, .ref p1_o)]) hx hb dX7_suspects_27 hl (k := 3) rfl rfl (by decide) rfl (fun ls hl => ?_)
        refine lv_goto (tgt := 4) hx hb dX7_suspects_30 (by decide) ?_
        exact ih hf hw (lv_sub hl [2, 3, 1, 0] rfl)
set_option maxRecDepth 100000 in
set_option maxHeartbeats 4000000 in
theorem c_X7_suspects {E : En} {l : Launch} {t_o : Nat} {t_q : Nat → Nat} {t_told : Int32} {t_dangers : (Nat → Int32)} {t_months : (Nat → Int32)} {t_sizes : (Nat → Int32)} {p1_o : Nat} {p1_q : Nat → Nat} {p1_men : Int32} {p1_consuls : Int32} {p1_dangers : Int32} {p1_decrees : Int32} {p1_term : Int32} {p1_termTold : Int32} {p1_manNames : (Nat → Int64)} {p1_kinds : (Nat → Int32)} {p1_skills : (Nat → Int32)} {p1_fields : (Nat → Int32)} {p1_wants : (Nat → Int32)} {p1_hated : (Nat → Int32)} {p1_dangerNames : (Nat → Int64)} {p1_sizes : (Nat → Int32)} {p1_grows : (Nat → Int32)} {p1_decreeNames : (Nat → Int64)} {p1_grounds : (Nat → Int32)} {p1slaws_o : Nat} {p1slaws_q : Nat → Nat} {p1slaws_ops : (Nat → Int32)} {p1slaws_stack : (Nat → Int32)} {p1slaws_size : Int32} {p1slaws_worksFrom : Int32} {p1slaws_worksTo : Int32} {p1slaws_keepsFrom : Int32} {p1slaws_keepsTo : Int32}  {out : Int32 × (Nat → Int32)} (hf : f_X7_suspects t_told t_dangers t_months t_sizes p1_men p1_kinds p1_skills p1_wants p1_sizes p1slaws_ops p1slaws_stack p1slaws_worksFrom p1slaws_worksTo p1slaws_keepsFrom p1slaws_keepsTo = some out) : Cn E l yX7_suspects cX7_suspects 4 (some .int) rm_X7_suspects [.ref t_o, .ref p1_o] (wX7 E t_o t_q t_told t_dangers t_months t_sizes ++ (wX1 E p1_o p1_q p1_men p1_consuls p1_dangers p1_decrees p1_term p1_termTold p1_manNames p1_kinds p1_skills p1_fields p1_wants p1_hated p1_dangerNames p1_sizes p1_grows p1_decreeNames p1_grounds (.ref p1slaws_o) ++ (wX3 E p1slaws_o p1slaws_q p1slaws_ops p1slaws_stack p1slaws_size p1slaws_worksFrom p1slaws_worksTo p1slaws_keepsFrom p1slaws_keepsTo))) (some (.int out.1)) (wX7 E t_o t_q t_told t_dangers t_months t_sizes ++ (wX1 E p1_o p1_q p1_men p1_consuls p1_dangers p1_decrees p1_term p1_termTold p1_manNames p1_kinds p1_skills p1_fields p1_wants p1_hated p1_dangerNames p1_sizes p1_grows p1_decreeNames p1_grounds (.ref p1slaws_o) ++ (wX3 E p1slaws_o p1slaws_q p1slaws_ops out.2 p1slaws_size p1slaws_worksFrom p1slaws_worksTo p1slaws_keepsFrom p1slaws_keepsTo))) := by
  refine Cn.of (by decide) (Nat.le_of_ble_eq_true rfl) rfl ?_
  intro p e s m below meth c A ls args H locs X hw hl
  have hx := X.1.1
  have hb := X.1.2.1
  have ho := X.1.2.2.2.1
  have hts := X.1.2.2.2.2
  have hl : lv_has ls 4 [(0, .ref t_o), (1, .ref p1_o)] := hl
  unfold f_X7_suspects at hf
  refine lv_iconst (v := (0 : Int32)) hx hb dX7_suspects_0 (by decide) ?_
  refine lv_istore_n (lv' := [(2, .int ((0 : Int32))), (0, .ref t_o), (1, .ref p1_o)]) hx hb dX7_suspects_1 rfl hl (by decide) rfl (fun ls hl => ?_)
  refine lv_iconst (v := (0 : Int32)) hx hb dX7_suspects_2 (by decide) ?_
  refine lv_istore_n (lv' := [(3, .int ((0 : Int32))), (2, .int ((0 : Int32))), (0, .ref t_o), (1, .ref p1_o)]) hx hb dX7_suspects_3 rfl hl (by decide) rfl (fun ls hl => ?_)
  exact kb_X7_suspects_4 X 1100 hf hw (lv_sub hl [2, 3, 1, 0] rfl)
/-! int layDown(); -/
def f_X9_layDown (t_power : Int32) (t_left : Int32) (t_liked : (Nat → Int32)) : Int32 × Int32 × Int32 × Int32 × Int32 × Int32 × (Nat → Int32) := (t_left, (f_X9_release).1, (f_X9_release).2.1, (f_X9_release).2.2.1, (f_X9_release).2.2.2.1, (f_X9_release).2.2.2.2, (f_X9_like t_liked (t_power) (t_left)))
abbrev rm_X9_layDown : Room := { frames := 3, cells := 0, slots := 0, locals := 65 }
theorem hd_X9_layDown : yX9_layDown.cls = RX9 ∧ yX9_layDown.cls ≠ "java/lang/invoke/MethodHandle" ∧ yX9_layDown.cls ≠ "java/lang/invoke/VarHandle" ∧ (parseMethodDescriptor yX9_layDown.desc).map (fun d => d.parameters.length) = some 0 := by decide +kernel
set_option maxRecDepth 100000 in
set_option maxHeartbeats 4000000 in
theorem c_X9_layDown {E : En} {l : Launch} {t_o : Nat} {t_q : Nat → Nat} {t_month : Int32} {t_power : Int32} {t_master : Int32} {t_left : Int32} {t_kept : Int32} {t_passed : Int32} {t_sizes : (Nat → Int32)} {t_fields : (Nat → Int32)} {t_liked : (Nat → Int32)}  {out : Int32 × Int32 × Int32 × Int32 × Int32 × Int32 × (Nat → Int32)} (hf : f_X9_layDown t_power t_left t_liked = out) : Cn E l yX9_layDown cX9_layDown 2 (some .int) rm_X9_layDown [.ref t_o] (wX9 E t_o t_q t_month t_power t_master t_left t_kept t_passed t_sizes t_fields t_liked) (some (.int out.1)) (wX9 E t_o t_q t_month out.2.1 out.2.2.1 out.2.2.2.1 out.2.2.2.2.1 out.2.2.2.2.2.1 t_sizes t_fields out.2.2.2.2.2.2) := by
  refine Cn.of (by decide) (Nat.le_of_ble_eq_true rfl) rfl ?_
  intro p e s m below meth c A ls args H locs X hw hl
  have hx := X.1.1
  have hb := X.1.2.1
  have ho := X.1.2.2.2.1
  have hts := X.1.2.2.2.2
  have hl : lv_has ls 2 [(0, .ref t_o)] := hl
  unfold f_X9_layDown at hf
  refine lv_aload_n hx hb dX9_layDown_0 rfl (lv_at hl 0 rfl) ?_
  refine k_get (q0 := 0) (ci := 8) (C := RX9) (T := TX9) (N := 9) (x := .int (t_left)) X inx_9 hw rfl rfl 3 (by decide) rfl tw_226 rfl dX9_layDown_1 ?_
  refine lv_istore_n (lv' := [(1, .int (t_left)), (0, .ref t_o)]) hx hb dX9_layDown_4 rfl hl (by decide) rfl (fun ls hl => ?_)
  refine lv_aload_n hx hb dX9_layDown_5 rfl (lv_at hl 1 rfl) ?_
  refine lv_aload_n hx hb dX9_layDown_6 rfl (lv_at hl 1 rfl) ?_
  refine k_get (q0 := 0) (ci := 8) (C := RX9) (T := TX9) (N := 9) (x := .int (t_power)) X inx_9 hw rfl rfl 1 (by decide) rfl tw_220 rfl dX9_layDown_7 ?_
  refine lv_iload_n hx hb dX9_layDown_10 rfl (lv_at hl 0 rfl) ?_
  refine k_V (As := [.int (t_power), .int (t_left)]) (rest := []) (index := 83) (C := RX9) X (c_X9_like (out := (f_X9_like t_liked (t_power) (t_left))) rfl) tw_984 tw_986 tw_32 tw_123 tw_987 ⟨rfl, rfl⟩ hd_X9_like ⟨Nat.le_of_ble_eq_true rfl, Nat.le_of_ble_eq_true rfl⟩ ⟨Nat.zero_le _, Nat.zero_le _⟩ hw [0, 1, 2, 3] rfl rfl 0 rfl rfl rfl rfl hl.1 rfl (Nat.le_of_ble_eq_true rfl) dX9_layDown_11 (fun H locs hw => ?_)
  have hw : Wd E A s.heap (wX9 E t_o t_q t_month t_power t_master t_left t_kept t_passed t_sizes t_fields ((f_X9_like t_liked (t_power) (t_left)))) H locs := hw
  refine lv_aload_n hx hb dX9_layDown_14 rfl (lv_at hl 1 rfl) ?_
  refine k_V (As := []) (rest := []) (index := 31) (C := RX9) X (c_X9_release (out := (f_X9_release)) rfl) tw_831 tw_833 tw_23 tw_123 tw_834 ⟨rfl, rfl⟩ hd_X9_release ⟨Nat.le_of_ble_eq_true rfl, Nat.le_of_ble_eq_true rfl⟩ ⟨Nat.zero_le _, Nat.zero_le _⟩ hw [0, 1, 2, 3] rfl rfl 0 rfl rfl rfl rfl hl.1 rfl (Nat.le_of_ble_eq_true rfl) dX9_layDown_15 (fun H locs hw => ?_)
  have hw : Wd E A s.heap (wX9 E t_o t_q t_month ((f_X9_release).1) ((f_X9_release).2.1) ((f_X9_release).2.2.1) ((f_X9_release).2.2.2.1) ((f_X9_release).2.2.2.2) t_sizes t_fields ((f_X9_like t_liked (t_power) (t_left)))) H locs := hw
  refine lv_iload_n hx hb dX9_layDown_18 rfl (lv_at hl 0 rfl) ?_
  subst hf
  exact k_iret X hw dX9_layDown_19
/-! private int turn(PloughCall$City, int, int); -/
def f_X9_turn_45 (t_master : Int32) (t_sizes : (Nat → Int32)) (t_liked : (Nat → Int32)) (p1slaws_stack : (Nat → Int32)) (x2 : Int32) (x3 : Int32) (x4 : Int32) (s0 : Int32) : Option (Int32 × (Nat → Int32) × (Nat → Int32) × (Nat → Int32)) := if x3 = (-1 : Int32) then some ((f_X9_lessen t_sizes (x2) ((x4 + (s0 / (2 : Int32))))).1, (f_X9_lessen t_sizes (x2) ((x4 + (s0 / (2 : Int32))))).2, t_liked, p1slaws_stack)
  else some (((f_X9_lessen t_sizes (x2) (x4)).1 + (f_X9_lessen ((f_X9_lessen t_sizes (x2) (x4)).2) (x3) (s0)).1), (f_X9_lessen ((f_X9_lessen t_sizes (x2) (x4)).2) (x3) (s0)).2, (f_X9_like t_liked (t_master) ((1 : Int32))), p1slaws_stack)
def f_X9_turn (t_power : Int32) (t_master : Int32) (t_passed : Int32) (t_sizes : (Nat → Int32)) (t_liked : (Nat → Int32)) (p1_kinds : (Nat → Int32)) (p1_skills : (Nat → Int32)) (p1_wants : (Nat → Int32)) (p1slaws_ops : (Nat → Int32)) (p1slaws_stack : (Nat → Int32)) (p1slaws_worksFrom : Int32) (p1slaws_worksTo : Int32) (p1slaws_keepsFrom : Int32) (p1slaws_keepsTo : Int32) (x2 : Int32) (x3 : Int32) : Option (Int32 × (Nat → Int32) × (Nat → Int32) × (Nat → Int32)) := (f_X1_strength p1_kinds p1_skills p1_wants p1slaws_ops p1slaws_stack p1slaws_worksFrom p1slaws_worksTo p1slaws_keepsFrom p1slaws_keepsTo (t_power) ((ga (5) t_sizes (x2))) (t_passed)).bind fun r17 => if t_master = (-1 : Int32) then f_X9_turn_45 t_master t_sizes t_liked r17.2 x2 x3 r17.1 ((0 : Int32))
  else f_X9_turn_45 t_master t_sizes t_liked r17.2 x2 x3 r17.1 ((ga (6) p1_skills (t_master)))
abbrev rm_X9_turn : Room := { frames := 3, cells := 0, slots := 0, locals := 79 }
theorem hd_X9_turn : yX9_turn.cls = RX9 ∧ yX9_turn.cls ≠ "java/lang/invoke/MethodHandle" ∧ yX9_turn.cls ≠ "java/lang/invoke/VarHandle" ∧ (parseMethodDescriptor yX9_turn.desc).map (fun d => d.parameters.length) = some 3 := by decide +kernel
set_option maxRecDepth 100000 in
set_option maxHeartbeats 4000000 in
theorem kb_X9_turn_45 {E : En} {p : Program} {l : Launch} {e : Env} {s : State} {m : MethodId} {args : Array Value} {below : List Frame} {meth : Method} {c : Code} {A : Nat → Prop} {t_o : Nat} {t_q : Nat → Nat} {t_month : Int32} {t_power : Int32} {t_master : Int32} {t_left : Int32} {t_kept : Int32} {t_passed : Int32} {t_fields : (Nat → Int32)} {p1_o : Nat} {p1_q : Nat → Nat} {p1_men : Int32} {p1_consuls : Int32} {p1_dangers : Int32} {p1_decrees : Int32} {p1_term : Int32} {p1_termTold : Int32} {p1_manNames : (Nat → Int64)} {p1_kinds : (Nat → Int32)} {p1_skills : (Nat → Int32)} {p1_fields : (Nat → Int32)} {p1_wants : (Nat → Int32)} {p1_hated : (Nat → Int32)} {p1_dangerNames : (Nat → Int64)} {p1_sizes : (Nat → Int32)} {p1_grows : (Nat → Int32)} {p1_decreeNames : (Nat → Int64)} {p1_grounds : (Nat → Int32)} {p1slaws_o : Nat} {p1slaws_q : Nat → Nat} {p1slaws_ops : (Nat → Int32)} {p1slaws_size : Int32} {p1slaws_worksFrom : Int32} {p1slaws_worksTo : Int32} {p1slaws_keepsFrom : Int32} {p1slaws_keepsTo : Int32} {out : Int32 × (Nat → Int32) × (Nat → Int32) × (Nat → Int32)} (X : Bx E A p s m args meth c cX9_turn 6 RX9 (some .int)) {t_sizes : (Nat → Int32)} {t_liked : (Nat → Int32)} {p1slaws_stack : (Nat → Int32)} {x2 : Int32} {x3 : Int32} {x4 : Int32} {s0 : Int32} {H : Heap} {locs : List Loc} {ls : Array Slot} (hf : f_X9_turn_45 t_master t_sizes t_liked p1slaws_stack x2 x3 x4 s0 = some out) : Wd E A s.heap (wX9 E t_o t_q t_month t_power t_master t_left t_kept t_passed t_sizes t_fields t_liked ++ (wX1 E p1_o p1_q p1_men p1_consuls p1_dangers p1_decrees p1_term p1_termTold p1_manNames p1_kinds p1_skills p1_fields p1_wants p1_hated p1_dangerNames p1_sizes p1_grows p1_decreeNames p1_grounds (.ref p1slaws_o) ++ (wX3 E p1slaws_o p1slaws_q p1slaws_ops p1slaws_stack p1slaws_size p1slaws_worksFrom p1slaws_worksTo p1slaws_keepsFrom p1slaws_keepsTo))) H locs → lv_has ls 6 [(0, .ref t_o), (2, .int (x2)), (3, .int (x3)), (4, .int (x4))] → W p l e rm_X9_turn s m args below meth c H locs 0 0 (Zn E below args s A (some (.int out.1)) (wX9 E t_o t_q t_month t_power t_master t_left t_kept t_passed out.2.1 t_fields out.2.2.1 ++ (wX1 E p1_o p1_q p1_men p1_consuls p1_dangers p1_decrees p1_term p1_termTold p1_manNames p1_kinds p1_skills p1_fields p1_wants p1_hated p1_dangerNames p1_sizes p1_grows p1_decreeNames p1_grounds (.ref p1slaws_o) ++ (wX3 E p1slaws_o p1slaws_q p1slaws_ops out.2.2.2 p1slaws_size p1slaws_worksFrom p1slaws_worksTo p1slaws_keepsFrom p1slaws_keepsTo)))) (F0 m 45 ls [.int (s0)]) := by
  have hx := X.1.1
  have hb := X.1.2.1
  have ho := X.1.2.2.2.1
  have hts := X.1.2.2.2.2
  intro hw hl
  unfold f_X9_turn_45 at hf
  refine lv_istore (lv' := [(5, .int (s0)), (0, .ref t_o), (2, .int (x2)), (3, .int (x3)), (4, .int (x4))]) hx hb dX9_turn_45 hl (by decide) rfl (fun ls hl => ?_)
  refine lv_iload_n hx hb dX9_turn_47 rfl (lv_at hl 3 rfl) ?_
  refine lv_iconst (v := (-1 : Int32)) hx hb dX9_turn_48 (by decide) ?_
  refine lv_icmp_ne (tgt := 65) hx hb dX9_turn_49 (by decide) (fun c_49 => ?_) (fun c_49 => ?_)
  · have hf := (if_neg c_49).symm.trans hf
    refine lv_aload_n hx hb dX9_turn_65 rfl (lv_at hl 1 rfl) ?_
    refine lv_aload_n hx hb dX9_turn_66 rfl (lv_at hl 1 rfl) ?_
    refine k_get (q0 := 0) (ci := 8) (C := RX9) (T := TX9) (N := 9) (x := .int (t_master)) X inx_9 hw rfl rfl 2 (by decide) rfl tw_223 rfl dX9_turn_67 ?_
    refine lv_iconst (v := (1 : Int32)) hx hb dX9_turn_70 (by decide) ?_
    refine k_V (As := [.int (t_master), .int ((1 : Int32))]) (rest := []) (index := 83) (C := RX9) X (c_X9_like (out := (f_X9_like t_liked (t_master) ((1 : Int32)))) rfl) tw_984 tw_986 tw_32 tw_123 tw_987 ⟨rfl, rfl⟩ hd_X9_like ⟨Nat.le_of_ble_eq_true rfl, Nat.le_of_ble_eq_true rfl⟩ ⟨Nat.zero_le _, Nat.zero_le _⟩ hw [0, 1, 2, 3] rfl rfl 0 rfl rfl rfl rfl hl.1 rfl (Nat.le_of_ble_eq_true rfl) dX9_turn_71 (fun H locs hw => ?_)
    have hw : Wd E A s.heap (wX9 E t_o t_q t_month t_power t_master t_left t_kept t_passed t_sizes t_fields ((f_X9_like t_liked (t_master) ((1 : Int32)))) ++ (wX1 E p1_o p1_q p1_men p1_consuls p1_dangers p1_decrees p1_term p1_termTold p1_manNames p1_kinds p1_skills p1_fields p1_wants p1_hated p1_dangerNames p1_sizes p1_grows p1_decreeNames p1_grounds (.ref p1slaws_o) ++ (wX3 E p1slaws_o p1slaws_q p1slaws_ops p1slaws_stack p1slaws_size p1slaws_worksFrom p1slaws_worksTo p1slaws_keepsFrom p1slaws_keepsTo))) H locs := hw
    refine lv_aload_n hx hb dX9_turn_74 rfl (lv_at hl 1 rfl) ?_
    refine lv_iload_n hx hb dX9_turn_75 rfl (lv_at hl 2 rfl) ?_
    refine lv_iload hx hb dX9_turn_76 (lv_at hl 4 rfl) ?_
    refine k_V (As := [.int (x2), .int (x4)]) (rest := []) (index := 106) (C := RX9) X (c_X9_lessen (out := (f_X9_lessen t_sizes (x2) (x4))) rfl) tw_979 tw_981 tw_31 tw_123 tw_982 ⟨rfl, rfl⟩ hd_X9_lessen ⟨Nat.le_of_ble_eq_true rfl, Nat.le_of_ble_eq_true rfl⟩ ⟨Nat.zero_le _, Nat.zero_le _⟩ hw [0, 1, 2, 3] rfl rfl 0 rfl rfl rfl rfl hl.1 rfl (Nat.le_of_ble_eq_true rfl) dX9_turn_78 (fun H locs hw => ?_)
    have hw : Wd E A s.heap (wX9 E t_o t_q t_month t_power t_master t_left t_kept t_passed ((f_X9_lessen t_sizes (x2) (x4)).2) t_fields ((f_X9_like t_liked (t_master) ((1 : Int32)))) ++ (wX1 E p1_o p1_q p1_men p1_consuls p1_dangers p1_decrees p1_term p1_termTold p1_manNames p1_kinds p1_skills p1_fields p1_wants p1_hated p1_dangerNames p1_sizes p1_grows p1_decreeNames p1_grounds (.ref p1slaws_o) ++ (wX3 E p1slaws_o p1slaws_q p1slaws_ops p1slaws_stack p1slaws_size p1slaws_worksFrom p1slaws_worksTo p1slaws_keepsFrom p1slaws_keepsTo))) H locs := hw
    refine lv_aload_n hx hb dX9_turn_81 rfl (lv_at hl 1 rfl) ?_
    refine lv_iload_n hx hb dX9_turn_82 rfl (lv_at hl 3 rfl) ?_
    refine lv_iload hx hb dX9_turn_83 (lv_at hl 0 rfl) ?_
    refine k_V (As := [.int (x3), .int (s0)]) (rest := [.int ((f_X9_lessen t_sizes (x2) (x4)).1)]) (index := 106) (C := RX9) X (c_X9_lessen (out := (f_X9_lessen ((f_X9_lessen t_sizes (x2) (x4)).2) (x3) (s0))) rfl) tw_979 tw_981 tw_31 tw_123 tw_982 ⟨rfl, rfl⟩ hd_X9_lessen ⟨Nat.le_of_ble_eq_true rfl, Nat.le_of_ble_eq_true rfl⟩ ⟨Nat.zero_le _, Nat.zero_le _⟩ hw [0, 1, 2, 3] rfl rfl 0 rfl rfl rfl rfl hl.1 rfl (Nat.le_of_ble_eq_true rfl) dX9_turn_85 (fun H locs hw => ?_)
    have hw : Wd E A s.heap (wX9 E t_o t_q t_month t_power t_master t_left t_kept t_passed ((f_X9_lessen ((f_X9_lessen t_sizes (x2) (x4)).2) (x3) (s0)).2) t_fields ((f_X9_like t_liked (t_master) ((1 : Int32)))) ++ (wX1 E p1_o p1_q p1_men p1_consuls p1_dangers p1_decrees p1_term p1_termTold p1_manNames p1_kinds p1_skills p1_fields p1_wants p1_hated p1_dangerNames p1_sizes p1_grows p1_decreeNames p1_grounds (.ref p1slaws_o) ++ (wX3 E p1slaws_o p1slaws_q p1slaws_ops p1slaws_stack p1slaws_size p1slaws_worksFrom p1slaws_worksTo p1slaws_keepsFrom p1slaws_keepsTo))) H locs := hw
    refine lv_iadd hx hb dX9_turn_88 ?_
    obtain rfl := Option.some.inj hf
    exact k_iret X hw dX9_turn_89
  · have hf := (if_pos c_49).symm.trans hf
    refine lv_aload_n hx hb dX9_turn_52 rfl (lv_at hl 1 rfl) ?_
    refine lv_iload_n hx hb dX9_turn_53 rfl (lv_at hl 2 rfl) ?_
    refine lv_iload hx hb dX9_turn_54 (lv_at hl 4 rfl) ?_
    refine lv_iload hx hb dX9_turn_56 (lv_at hl 0 rfl) ?_
    refine lv_iconst (v := (2 : Int32)) hx hb dX9_turn_58 (by decide) ?_
    refine lv_idiv hx hb dX9_turn_59 (by decide) ?_
    refine lv_iadd hx hb dX9_turn_60 ?_
    refine k_V (As := [.int (x2), .int ((x4 + (s0 / (2 : Int32))))]) (rest := []) (index := 106) (C := RX9) X (c_X9_lessen (out := (f_X9_lessen t_sizes (x2) ((x4 + (s0 / (2 : Int32)))))) rfl) tw_979 tw_981 tw_31 tw_123 tw_982 ⟨rfl, rfl⟩ hd_X9_lessen ⟨Nat.le_of_ble_eq_true rfl, Nat.le_of_ble_eq_true rfl⟩ ⟨Nat.zero_le _, Nat.zero_le _⟩ hw [0, 1, 2, 3] rfl rfl 0 rfl rfl rfl rfl hl.1 rfl (Nat.le_of_ble_eq_true rfl) dX9_turn_61 (fun H locs hw => ?_)
    have hw : Wd E A s.heap (wX9 E t_o t_q t_month t_power t_master t_left t_kept t_passed ((f_X9_lessen t_sizes (x2) ((x4 + (s0 / (2 : Int32))))).2) t_fields t_liked ++ (wX1 E p1_o p1_q p1_men p1_consuls p1_dangers p1_decrees p1_term p1_termTold p1_manNames p1_kinds p1_skills p1_fields p1_wants p1_hated p1_dangerNames p1_sizes p1_grows p1_decreeNames p1_grounds (.ref p1slaws_o) ++ (wX3 E p1slaws_o p1slaws_q p1slaws_ops p1slaws_stack p1slaws_size p1slaws_worksFrom p1slaws_worksTo p1slaws_keepsFrom p1slaws_keepsTo))) H locs := hw
    obtain rfl := Option.some.inj hf
    exact k_iret X hw dX9_turn_64
set_option maxRecDepth 100000 in
set_option maxHeartbeats 4000000 in
theorem c_X9_turn {E : En} {l : Launch} {t_o : Nat} {t_q : Nat → Nat} {t_month : Int32} {t_power : Int32} {t_master : Int32} {t_left : Int32} {t_kept : Int32} {t_passed : Int32} {t_sizes : (Nat → Int32)} {t_fields : (Nat → Int32)} {t_liked : (Nat → Int32)} {p1_o : Nat} {p1_q : Nat → Nat} {p1_men : Int32} {p1_consuls : Int32} {p1_dangers : Int32} {p1_decrees : Int32} {p1_term : Int32} {p1_termTold : Int32} {p1_manNames : (Nat → Int64)} {p1_kinds : (Nat → Int32)} {p1_skills : (Nat → Int32)} {p1_fields : (Nat → Int32)} {p1_wants : (Nat → Int32)} {p1_hated : (Nat → Int32)} {p1_dangerNames : (Nat → Int64)} {p1_sizes : (Nat → Int32)} {p1_grows : (Nat → Int32)} {p1_decreeNames : (Nat → Int64)} {p1_grounds : (Nat → Int32)} {p1slaws_o : Nat} {p1slaws_q : Nat → Nat} {p1slaws_ops : (Nat → Int32)} {p1slaws_stack : (Nat → Int32)} {p1slaws_size : Int32} {p1slaws_worksFrom : Int32} {p1slaws_worksTo : Int32} {p1slaws_keepsFrom : Int32} {p1slaws_keepsTo : Int32} {x2 : Int32} {x3 : Int32} {out : Int32 × (Nat → Int32) × (Nat → Int32) × (Nat → Int32)} (hf : f_X9_turn t_power t_master t_passed t_sizes t_liked p1_kinds p1_skills p1_wants p1slaws_ops p1slaws_stack p1slaws_worksFrom p1slaws_worksTo p1slaws_keepsFrom p1slaws_keepsTo x2 x3 = some out) : Cn E l yX9_turn cX9_turn 6 (some .int) rm_X9_turn [.ref t_o, .ref p1_o, .int (x2), .int (x3)] (wX9 E t_o t_q t_month t_power t_master t_left t_kept t_passed t_sizes t_fields t_liked ++ (wX1 E p1_o p1_q p1_men p1_consuls p1_dangers p1_decrees p1_term p1_termTold p1_manNames p1_kinds p1_skills p1_fields p1_wants p1_hated p1_dangerNames p1_sizes p1_grows p1_decreeNames p1_grounds (.ref p1slaws_o) ++ (wX3 E p1slaws_o p1slaws_q p1slaws_ops p1slaws_stack p1slaws_size p1slaws_worksFrom p1slaws_worksTo p1slaws_keepsFrom p1slaws_keepsTo))) (some (.int out.1)) (wX9 E t_o t_q t_month t_power t_master t_left t_kept t_passed out.2.1 t_fields out.2.2.1 ++ (wX1 E p1_o p1_q p1_men p1_consuls p1_dangers p1_decrees p1_term p1_termTold p1_manNames p1_kinds p1_skills p1_fields p1_wants p1_hated p1_dangerNames p1_sizes p1_grows p1_decreeNames p1_grounds (.ref p1slaws_o) ++ (wX3 E p1slaws_o p1slaws_q p1slaws_ops out.2.2.2 p1slaws_size p1slaws_worksFrom p1slaws_worksTo p1slaws_keepsFrom p1slaws_keepsTo))) := by
  refine Cn.of (by decide) (Nat.le_of_ble_eq_true rfl) rfl ?_
  intro p e s m below meth c A ls args H locs X hw hl
  have hx := X.1.1
  have hb := X.1.2.1
  have ho := X.1.2.2.2.1
  have hts := X.1.2.2.2.2
  have hl : lv_has ls 6 [(0, .ref t_o), (1, .ref p1_o), (2, .int (x2)), (3, .int (x3))] := hl
  unfold f_X9_turn at hf
  refine lv_aload_n hx hb dX9_turn_0 rfl (lv_at hl 1 rfl) ?_
  refine lv_aload_n hx hb dX9_turn_1 rfl (lv_at hl 0 rfl) ?_
  refine k_get (q0 := 0) (ci := 8) (C := RX9) (T := TX9) (N := 9) (x := .int (t_power)) X inx_9 hw rfl rfl 1 (by decide) rfl tw_220 rfl dX9_turn_2 ?_
  refine lv_aload_n hx hb dX9_turn_5 rfl (lv_at hl 0 rfl) ?_
  refine k_get (q0 := 0) (ci := 8) (C := RX9) (T := TX9) (N := 9) (x := .ref (t_q 6)) X inx_9 hw rfl rfl 6 (by decide) rfl tw_232 rfl dX9_turn_6 ?_
  refine lv_iload_n hx hb dX9_turn_9 rfl (lv_at hl 2 rfl) ?_
  refine k_SN (As := [.ref (t_q 6), .int (x2)]) (rest := [.int (t_power), .ref p1_o]) (host := "PloughCall") (index := 40) X (ct_X12_at (out := (ga (5) t_sizes (x2))) rfl) nw_84 tw_119 tw_591 tw_592 ⟨rfl, rfl⟩ hd_X12_at.2 ⟨Nat.le_of_ble_eq_true rfl, Nat.le_of_ble_eq_true rfl⟩ ⟨Nat.zero_le _, Nat.zero_le _⟩ hw [1] rfl rfl rfl hl.1 rfl (Nat.le_of_ble_eq_true rfl) dX9_turn_10 (fun H locs hw => ?_)
  have hw : Wd E A s.heap (wX9 E t_o t_q t_month t_power t_master t_left t_kept t_passed t_sizes t_fields t_liked ++ (wX1 E p1_o p1_q p1_men p1_consuls p1_dangers p1_decrees p1_term p1_termTold p1_manNames p1_kinds p1_skills p1_fields p1_wants p1_hated p1_dangerNames p1_sizes p1_grows p1_decreeNames p1_grounds (.ref p1slaws_o) ++ (wX3 E p1slaws_o p1slaws_q p1slaws_ops p1slaws_stack p1slaws_size p1slaws_worksFrom p1slaws_worksTo p1slaws_keepsFrom p1slaws_keepsTo))) H locs := hw
  refine lv_aload_n hx hb dX9_turn_13 rfl (lv_at hl 0 rfl) ?_
  refine k_get (q0 := 0) (ci := 8) (C := RX9) (T := TX9) (N := 9) (x := .int (t_passed)) X inx_9 hw rfl rfl 5 (by decide) rfl tw_231 rfl dX9_turn_14 ?_
  obtain ⟨r17, hc_17, hf⟩ := bd_some hf
  refine k_V (As := [.int (t_power), .int ((ga (5) t_sizes (x2))), .int (t_passed)]) (rest := []) (index := 99) (C := RX1) X (c_X1_strength hc_17) tw_959 tw_960 tw_961 tw_126 tw_962 ⟨rfl, rfl⟩ hd_X1_strength ⟨Nat.le_of_ble_eq_true rfl, Nat.le_of_ble_eq_true rfl⟩ ⟨Nat.zero_le _, Nat.zero_le _⟩ hw [4, 5, 6, 7, 8, 9, 10, 11, 12, 13, 14, 15, 16, 17, 18] rfl rfl 4 rfl rfl rfl rfl hl.1 rfl (Nat.le_of_ble_eq_true rfl) dX9_turn_17 (fun H locs hw => ?_)
  have hw : Wd E A s.heap (wX9 E t_o t_q t_month t_power t_master t_left t_kept t_passed t_sizes t_fields t_liked ++ (wX1 E p1_o p1_q p1_men p1_consuls p1_dangers p1_decrees p1_term p1_termTold p1_manNames p1_kinds p1_skills p1_fields p1_wants p1_hated p1_dangerNames p1_sizes p1_grows p1_decreeNames p1_grounds (.ref p1slaws_o) ++ (wX3 E p1slaws_o p1slaws_q p1slaws_ops r17.2 p1slaws_size p1slaws_worksFrom p1slaws_worksTo p1slaws_keepsFrom p1slaws_keepsTo))) H locs := hw
  refine lv_istore (lv' := [(4, .int (r17.1)), (0, .ref t_o), (1, .ref p1_o), (2, .int (x2)), (3, .int (x3))]) hx hb dX9_turn_20 hl (by decide) rfl (fun ls hl => ?_)
  refine lv_aload_n hx hb dX9_turn_22 rfl (lv_at hl 1 rfl) ?_
  refine k_get (q0 := 0) (ci := 8) (C := RX9) (T := TX9) (N := 9) (x := .int (t_master)) X inx_9 hw rfl rfl 2 (by decide) rfl tw_223 rfl dX9_turn_23 ?_
  refine lv_iconst (v := (-1 : Int32)) hx hb dX9_turn_26 (by decide) ?_
  refine lv_icmp_ne (tgt := 34) hx hb dX9_turn_27 (by decide) (fun c_27 => ?_) (fun c_27 => ?_)
  · have hf := (if_neg c_27).symm.trans hf
    refine lv_aload_n hx hb dX9_turn_34 rfl (lv_at hl 2 rfl) ?_
    refine k_getN (q0 := 4) (ci := 0) (C := RX1) (T := TX1) (N := 18) (host := "PloughCall") (x := .ref (p1_q 8)) X inx_1 hw rfl rfl 8 (by decide) rfl nw_52 rfl dX9_turn_35 ?_
    refine lv_aload_n hx hb dX9_turn_38 rfl (lv_at hl 1 rfl) ?_
    refine k_get (q0 := 0) (ci := 8) (C := RX9) (T := TX9) (N := 9) (x := .int (t_master)) X inx_9 hw rfl rfl 2 (by decide) rfl tw_223 rfl dX9_turn_39 ?_
    refine k_SN (As := [.ref (p1_q 8), .int (t_master)]) (rest := []) (host := "PloughCall") (index := 40) X (ct_X12_at (out := (ga (6) p1_skills (t_master))) rfl) nw_84 tw_119 tw_591 tw_592 ⟨rfl, rfl⟩ hd_X12_at.2 ⟨Nat.le_of_ble_eq_true rfl, Nat.le_of_ble_eq_true rfl⟩ ⟨Nat.zero_le _, Nat.zero_le _⟩ hw [7] rfl rfl rfl hl.1 rfl (Nat.le_of_ble_eq_true rfl) dX9_turn_42 (fun H locs hw => ?_)
    have hw : Wd E A s.heap (wX9 E t_o t_q t_month t_power t_master t_left t_kept t_passed t_sizes t_fields t_liked ++ (wX1 E p1_o p1_q p1_men p1_consuls p1_dangers p1_decrees p1_term p1_termTold p1_manNames p1_kinds p1_skills p1_fields p1_wants p1_hated p1_dangerNames p1_sizes p1_grows p1_decreeNames p1_grounds (.ref p1slaws_o) ++ (wX3 E p1slaws_o p1slaws_q p1slaws_ops r17.2 p1slaws_size p1slaws_worksFrom p1slaws_worksTo p1slaws_keepsFrom p1slaws_keepsTo))) H locs := hw
    exact kb_X9_turn_45 X hf hw (lv_sub hl [1, 3, 4, 0] rfl)
  · have hf := (if_pos c_27).symm.trans hf
    refine lv_iconst (v := (0 : Int32)) hx hb dX9_turn_30 (by decide) ?_
    refine lv_goto (tgt := 45) hx hb dX9_turn_31 (by decide) ?_
    exact kb_X9_turn_45 X hf hw (lv_sub hl [1, 3, 4, 0] rfl)
/-! private void closeMonth(PloughCall$City, int); -/
def f_X9_closeMonth_39 (t_power : Int32) (t_master : Int32) (t_left : Int32) (t_kept : Int32) (t_passed : Int32) (t_sizes : (Nat → Int32)) (t_fields : (Nat → Int32)) (t_liked : (Nat → Int32)) (p1_skills : (Nat → Int32)) (p1_wants : (Nat → Int32)) (p1slaws_ops : (Nat → Int32)) (p1slaws_stack : (Nat → Int32)) (p1slaws_worksFrom : Int32) (p1slaws_worksTo : Int32) (p1slaws_keepsFrom : Int32) (p1slaws_keepsTo : Int32) (s0 : Int32) : Option (Int32 × Int32 × Int32 × Int32 × Int32 × (Nat → Int32) × (Nat → Int32) × (Nat → Int32)) := if t_kept = (0 : Int32) then if ((t_left - (1 : Int32))) ≤ (0 : Int32) then (f_X9_together t_sizes).bind fun r121 => (f_X1_wouldKeep p1_skills p1_wants p1slaws_ops p1slaws_stack p1slaws_worksFrom p1slaws_worksTo p1slaws_keepsFrom p1slaws_keepsTo (t_power) ((ga (6) t_liked (t_power))) (r121)).bind fun r124 => if r124.1 = (0 : Int32) then some ((f_X9_release).1, (f_X9_release).2.1, (f_X9_release).2.2.1, (f_X9_release).2.2.2.1, (f_X9_release).2.2.2.2, (gp (6) t_fields (t_power) ((imax (0 : Int32) ((ga (6) t_fields (t_power)) - s0)))), t_liked, r124.2)
      else some (t_power, t_master, (0 : Int32), (1 : Int32), (t_passed + (1 : Int32)), (gp (6) t_fields (t_power) ((imax (0 : Int32) ((ga (6) t_fields (t_power)) - s0)))), t_liked, r124.2)
    else some (t_power, t_master, (t_left - (1 : Int32)), t_kept, (t_passed + (1 : Int32)), (gp (6) t_fields (t_power) ((imax (0 : Int32) ((ga (6) t_fields (t_power)) - s0)))), t_liked, p1slaws_stack)
  else some (t_power, t_master, t_left, t_kept, (t_passed + (1 : Int32)), (gp (6) t_fields (t_power) ((imax (0 : Int32) ((ga (6) t_fields (t_power)) - s0)))), t_liked, p1slaws_stack)
def f_X9_closeMonth (t_power : Int32) (t_master : Int32) (t_left : Int32) (t_kept : Int32) (t_passed : Int32) (t_sizes : (Nat → Int32)) (t_fields : (Nat → Int32)) (t_liked : (Nat → Int32)) (p1_kinds : (Nat → Int32)) (p1_skills : (Nat → Int32)) (p1_wants : (Nat → Int32)) (p1slaws_ops : (Nat → Int32)) (p1slaws_stack : (Nat → Int32)) (p1slaws_worksFrom : Int32) (p1slaws_worksTo : Int32) (p1slaws_keepsFrom : Int32) (p1slaws_keepsTo : Int32) (x2 : Int32) : Option (Int32 × Int32 × Int32 × Int32 × Int32 × (Nat → Int32) × (Nat → Int32) × (Nat → Int32)) := if (ga (6) p1_kinds (t_power)) = (1 : Int32) then f_X9_closeMonth_39 t_power t_master t_left t_kept t_passed t_sizes t_fields ((f_X9_like t_liked (t_power) ((x2 * (f_X1_likedForEnding p1_kinds (t_power)))))) p1_skills p1_wants p1slaws_ops p1slaws_stack p1slaws_worksFrom p1slaws_worksTo p1slaws_keepsFrom p1slaws_keepsTo ((10 : Int32))
  else f_X9_closeMonth_39 t_power t_master t_left t_kept t_passed t_sizes t_fields ((f_X9_like t_liked (t_power) ((x2 * (f_X1_likedForEnding p1_kinds (t_power)))))) p1_skills p1_wants p1slaws_ops p1slaws_stack p1slaws_worksFrom p1slaws_worksTo p1slaws_keepsFrom p1slaws_keepsTo ((5 : Int32))
abbrev rm_X9_closeMonth : Room := { frames := 3, cells := 0, slots := 0, locals := 77 }
theorem hd_X9_closeMonth : yX9_closeMonth.cls = RX9 ∧ yX9_closeMonth.cls ≠ "java/lang/invoke/MethodHandle" ∧ yX9_closeMonth.cls ≠ "java/lang/invoke/VarHandle" ∧ (parseMethodDescriptor yX9_closeMonth.desc).map (fun d => d.parameters.length) = some 2 := by decide +kernel
set_option maxRecDepth 100000 in
set_option maxHeartbeats 4000000 in
theorem kb_X9_closeMonth_39 {E : En} {p : Program} {l : Launch} {e : Env} {s : State} {m : MethodId} {args : Array Value} {below : List Frame} {meth : Method} {c : Code} {A : Nat → Prop} {t_o : Nat} {t_q : Nat → Nat} {t_month : Int32} {t_sizes : (Nat → Int32)} {p1_o : Nat} {p1_q : Nat → Nat} {p1_men : Int32} {p1_consuls : Int32} {p1_dangers : Int32} {p1_decrees : Int32} {p1_term : Int32} {p1_termTold : Int32} {p1_manNames : (Nat → Int64)} {p1_kinds : (Nat → Int32)} {p1_skills : (Nat → Int32)} {p1_fields : (Nat → Int32)} {p1_wants : (Nat → Int32)} {p1_hated : (Nat → Int32)} {p1_dangerNames : (Nat → Int64)} {p1_sizes : (Nat → Int32)} {p1_grows : (Nat → Int32)} {p1_decreeNames : (Nat → Int64)} {p1_grounds : (Nat → Int32)} {p1slaws_o : Nat} {p1slaws_q : Nat → Nat} {p1slaws_ops : (Nat → Int32)} {p1slaws_size : Int32} {p1slaws_worksFrom : Int32} {p1slaws_worksTo : Int32} {p1slaws_keepsFrom : Int32} {p1slaws_keepsTo : Int32} {out : Int32 × Int32 × Int32 × Int32 × Int32 × (Nat → Int32) × (Nat → Int32) × (Nat → Int32)} (X : Bx E A p s m args meth c cX9_closeMonth 4 RX9 none) {t_power : Int32} {t_master : Int32} {t_left : Int32} {t_kept : Int32} {t_passed : Int32} {t_fields : (Nat → Int32)} {t_liked : (Nat → Int32)} {p1slaws_stack : (Nat → Int32)} {s0 : Int32} {H : Heap} {locs : List Loc} {ls : Array Slot} (hf : f_X9_closeMonth_39 t_power t_master t_left t_kept t_passed t_sizes t_fields t_liked p1_skills p1_wants p1slaws_ops p1slaws_stack p1slaws_worksFrom p1slaws_worksTo p1slaws_keepsFrom p1slaws_keepsTo s0 = some out) : Wd E A s.heap (wX9 E t_o t_q t_month t_power t_master t_left t_kept t_passed t_sizes t_fields t_liked ++ (wX1 E p1_o p1_q p1_men p1_consuls p1_dangers p1_decrees p1_term p1_termTold p1_manNames p1_kinds p1_skills p1_fields p1_wants p1_hated p1_dangerNames p1_sizes p1_grows p1_decreeNames p1_grounds (.ref p1slaws_o) ++ (wX3 E p1slaws_o p1slaws_q p1slaws_ops p1slaws_stack p1slaws_size p1slaws_worksFrom p1slaws_worksTo p1slaws_keepsFrom p1slaws_keepsTo))) H locs → lv_has ls 4 [(0, .ref t_o), (1, .ref p1_o)] → W p l e rm_X9_closeMonth s m args below meth c H locs 0 0 (Zn E below args s A none (wX9 E t_o t_q t_month out.1 out.2.1 out.2.2.1 out.2.2.2.1 out.2.2.2.2.1 t_sizes out.2.2.2.2.2.1 out.2.2.2.2.2.2.1 ++ (wX1 E p1_o p1_q p1_men p1_consuls p1_dangers p1_decrees p1_term p1_termTold p1_manNames p1_kinds p1_skills p1_fields p1_wants p1_hated p1_dangerNames p1_sizes p1_grows p1_decreeNames p1_grounds (.ref p1slaws_o) ++ (wX3 E p1slaws_o p1slaws_q p1slaws_ops out.2.2.2.2.2.2.2 p1slaws_size p1slaws_worksFrom p1slaws_worksTo p1slaws_keepsFrom p1slaws_keepsTo)))) (F0 m 39 ls [.int (s0)]) := by
  have hx := X.1.1
  have hb := X.1.2.1
  have ho := X.1.2.2.2.1
  have hts := X.1.2.2.2.2
  intro hw hl
  unfold f_X9_closeMonth_39 at hf
  refine lv_istore_n (lv' := [(3, .int (s0)), (0, .ref t_o), (1, .ref p1_o)]) hx hb dX9_closeMonth_39 rfl hl (by decide) rfl (fun ls hl => ?_)
  refine lv_aload_n hx hb dX9_closeMonth_40 rfl (lv_at hl 1 rfl) ?_
  refine k_get (q0 := 0) (ci := 8) (C := RX9) (T := TX9) (N := 9) (x := .ref (t_q 7)) X inx_9 hw rfl rfl 7 (by decide) rfl tw_235 rfl dX9_closeMonth_41 ?_
  refine lv_aload_n hx hb dX9_closeMonth_44 rfl (lv_at hl 1 rfl) ?_
  refine k_get (q0 := 0) (ci := 8) (C := RX9) (T := TX9) (N := 9) (x := .int (t_power)) X inx_9 hw rfl rfl 1 (by decide) rfl tw_220 rfl dX9_closeMonth_45 ?_
  refine lv_iconst (v := (0 : Int32)) hx hb dX9_closeMonth_48 (by decide) ?_
  refine lv_aload_n hx hb dX9_closeMonth_49 rfl (lv_at hl 1 rfl) ?_
  refine k_get (q0 := 0) (ci := 8) (C := RX9) (T := TX9) (N := 9) (x := .ref (t_q 7)) X inx_9 hw rfl rfl 7 (by decide) rfl tw_235 rfl dX9_closeMonth_50 ?_
  refine lv_aload_n hx hb dX9_closeMonth_53 rfl (lv_at hl 1 rfl) ?_
  refine k_get (q0 := 0) (ci := 8) (C := RX9) (T := TX9) (N := 9) (x := .int (t_power)) X inx_9 hw rfl rfl 1 (by decide) rfl tw_220 rfl dX9_closeMonth_54 ?_
  refine k_SN (As := [.ref (t_q 7), .int (t_power)]) (rest := [.int ((0 : Int32)), .int (t_power), .ref (t_q 7)]) (host := "PloughCall") (index := 40) X (ct_X12_at (out := (ga (6) t_fields (t_power))) rfl) nw_84 tw_119 tw_591 tw_592 ⟨rfl, rfl⟩ hd_X12_at.2 ⟨Nat.le_of_ble_eq_true rfl, Nat.le_of_ble_eq_true rfl⟩ ⟨Nat.zero_le _, Nat.zero_le _⟩ hw [2] rfl rfl rfl hl.1 rfl (Nat.le_of_ble_eq_true rfl) dX9_closeMonth_57 (fun H locs hw => ?_)
  have hw : Wd E A s.heap (wX9 E t_o t_q t_month t_power t_master t_left t_kept t_passed t_sizes t_fields t_liked ++ (wX1 E p1_o p1_q p1_men p1_consuls p1_dangers p1_decrees p1_term p1_termTold p1_manNames p1_kinds p1_skills p1_fields p1_wants p1_hated p1_dangerNames p1_sizes p1_grows p1_decreeNames p1_grounds (.ref p1slaws_o) ++ (wX3 E p1slaws_o p1slaws_q p1slaws_ops p1slaws_stack p1slaws_size p1slaws_worksFrom p1slaws_worksTo p1slaws_keepsFrom p1slaws_keepsTo))) H locs := hw
  refine lv_iload_n hx hb dX9_closeMonth_60 rfl (lv_at hl 0 rfl) ?_
  refine lv_isub hx hb dX9_closeMonth_61 ?_
  refine k_max (index := 110) X tw_983 tw_977 tw_135 tw_978 (Nat.le_of_ble_eq_true rfl) (Nat.le_of_ble_eq_true rfl) ⟨Nat.zero_le _, Nat.zero_le _⟩ hl.1 dX9_closeMonth_62 ?_
  refine k_SN (As := [.ref (t_q 7), .int (t_power), .int ((imax (0 : Int32) ((ga (6) t_fields (t_power)) - s0)))]) (rest := []) (host := "PloughCall") (index := 44) X (ct_X12_put (out := (gp (6) t_fields (t_power) ((imax (0 : Int32) ((ga (6) t_fields (t_power)) - s0))))) rfl) nw_85 tw_119 tw_563 tw_564 ⟨rfl, rfl⟩ hd_X12_put.2 ⟨Nat.le_of_ble_eq_true rfl, Nat.le_of_ble_eq_true rfl⟩ ⟨Nat.zero_le _, Nat.zero_le _⟩ hw [2] rfl rfl rfl hl.1 rfl (Nat.le_of_ble_eq_true rfl) dX9_closeMonth_65 (fun H locs hw => ?_)
  have hw : Wd E A s.heap (wX9 E t_o t_q t_month t_power t_master t_left t_kept t_passed t_sizes ((gp (6) t_fields (t_power) ((imax (0 : Int32) ((ga (6) t_fields (t_power)) - s0))))) t_liked ++ (wX1 E p1_o p1_q p1_men p1_consuls p1_dangers p1_decrees p1_term p1_termTold p1_manNames p1_kinds p1_skills p1_fields p1_wants p1_hated p1_dangerNames p1_sizes p1_grows p1_decreeNames p1_grounds (.ref p1slaws_o) ++ (wX3 E p1slaws_o p1slaws_q p1slaws_ops p1slaws_stack p1slaws_size p1slaws_worksFrom p1slaws_worksTo p1slaws_keepsFrom p1slaws_keepsTo))) H locs := hw
  refine lv_aload_n hx hb dX9_closeMonth_68 rfl (lv_at hl 1 rfl) ?_
  refine lv_dup hx hb dX9_closeMonth_69 rfl ?_
  refine k_get (q0 := 0) (ci := 8) (C := RX9) (T := TX9) (N := 9) (x := .int (t_passed)) X inx_9 hw rfl rfl 5 (by decide) rfl tw_231 rfl dX9_closeMonth_70 ?_
  refine lv_iconst (v := (1 : Int32)) hx hb dX9_closeMonth_73 (by decide) ?_
  refine lv_iadd hx hb dX9_closeMonth_74 ?_
  refine k_put (q0 := 0) (ci := 8) (C := RX9) (T := TX9) (N := 9) (ty0 := tyX9) (x := .int ((t_passed + (1 : Int32)))) X inx_9 tyX9_ok nmX9 hw rfl rfl 5 (by decide) rfl rfl tw_231 rfl rfl (Nat.le_of_ble_eq_true rfl) dX9_closeMonth_75 (fun H locs hw => ?_)
  have hw : Wd E A s.heap (wX9 E t_o t_q t_month t_power t_master t_left t_kept ((t_passed + (1 : Int32))) t_sizes ((gp (6) t_fields (t_power) ((imax (0 : Int32) ((ga (6) t_fields (t_power)) - s0))))) t_liked ++ (wX1 E p1_o p1_q p1_men p1_consuls p1_dangers p1_decrees p1_term p1_termTold p1_manNames p1_kinds p1_skills p1_fields p1_wants p1_hated p1_dangerNames p1_sizes p1_grows p1_decreeNames p1_grounds (.ref p1slaws_o) ++ (wX3 E p1slaws_o p1slaws_q p1slaws_ops p1slaws_stack p1slaws_size p1slaws_worksFrom p1slaws_worksTo p1slaws_keepsFrom p1slaws_keepsTo))) H locs := hw
  refine lv_aload_n hx hb dX9_closeMonth_78 rfl (lv_at hl 1 rfl) ?_
  refine k_get (q0 := 0) (ci := 8) (C := RX9) (T := TX9) (N := 9) (x := .int (t_kept)) X inx_9 hw rfl rfl 4 (by decide) rfl tw_228 rfl dX9_closeMonth_79 ?_
  refine lv_if_eq (tgt := 86) hx hb dX9_closeMonth_82 (by decide) (fun c_82 => ?_) (fun c_82 => ?_)
  · have hf := (if_pos c_82).symm.trans hf
    refine lv_aload_n hx hb dX9_closeMonth_86 rfl (lv_at hl 1 rfl) ?_
    refine lv_dup hx hb dX9_closeMonth_87 rfl ?_
    refine k_get (q0 := 0) (ci := 8) (C := RX9) (T := TX9) (N := 9) (x := .int (t_left)) X inx_9 hw rfl rfl 3 (by decide) rfl tw_226 rfl dX9_closeMonth_88 ?_
    refine lv_iconst (v := (1 : Int32)) hx hb dX9_closeMonth_91 (by decide) ?_
    refine lv_isub hx hb dX9_closeMonth_92 ?_
    refine k_put (q0 := 0) (ci := 8) (C := RX9) (T := TX9) (N := 9) (ty0 := tyX9) (x := .int ((t_left - (1 : Int32)))) X inx_9 tyX9_ok nmX9 hw rfl rfl 3 (by decide) rfl rfl tw_226 rfl rfl (Nat.le_of_ble_eq_true rfl) dX9_closeMonth_93 (fun H locs hw => ?_)
    have hw : Wd E A s.heap (wX9 E t_o t_q t_month t_power t_master ((t_left - (1 : Int32))) t_kept ((t_passed + (1 : Int32))) t_sizes ((gp (6) t_fields (t_power) ((imax (0 : Int32) ((ga (6) t_fields (t_power)) - s0))))) t_liked ++ (wX1 E p1_o p1_q p1_men p1_consuls p1_dangers p1_decrees p1_term p1_termTold p1_manNames p1_kinds p1_skills p1_fields p1_wants p1_hated p1_dangerNames p1_sizes p1_grows p1_decreeNames p1_grounds (.ref p1slaws_o) ++ (wX3 E p1slaws_o p1slaws_q p1slaws_ops p1slaws_stack p1slaws_size p1slaws_worksFrom p1slaws_worksTo p1slaws_keepsFrom p1slaws_keepsTo))) H locs := hw
    refine lv_aload_n hx hb dX9_closeMonth_96 rfl (lv_at hl 1 rfl) ?_
    refine k_get (q0 := 0) (ci := 8) (C := RX9) (T := TX9) (N := 9) (x := .int (((t_left - (1 : Int32))))) X inx_9 hw rfl rfl 3 (by decide) rfl tw_226 rfl dX9_closeMonth_97 ?_
    refine lv_if_le (tgt := 104) hx hb dX9_closeMonth_100 (by decide) (fun c_100 => ?_) (fun c_100 => ?_)
    · have hf := (if_pos c_100).symm.trans hf
      refine lv_aload_n hx hb dX9_closeMonth_104 rfl (lv_at hl 2 rfl) ?_
      refine lv_aload_n hx hb dX9_closeMonth_105 rfl (lv_at hl 1 rfl) ?_
      refine k_get (q0 := 0) (ci := 8) (C := RX9) (T := TX9) (N := 9) (x := .int (t_power)) X inx_9 hw rfl rfl 1 (by decide) rfl tw_220 rfl dX9_closeMonth_106 ?_
      refine lv_aload_n hx hb dX9_closeMonth_109 rfl (lv_at hl 1 rfl) ?_
      refine k_get (q0 := 0) (ci := 8) (C := RX9) (T := TX9) (N := 9) (x := .ref (t_q 8)) X inx_9 hw rfl rfl 8 (by decide) rfl tw_237 rfl dX9_closeMonth_110 ?_
      refine lv_aload_n hx hb dX9_closeMonth_113 rfl (lv_at hl 1 rfl) ?_
      refine k_get (q0 := 0) (ci := 8) (C := RX9) (T := TX9) (N := 9) (x := .int (t_power)) X inx_9 hw rfl rfl 1 (by decide) rfl tw_220 rfl dX9_closeMonth_114 ?_
      refine k_SN (As := [.ref (t_q 8), .int (t_power)]) (rest := [.int (t_power), .ref p1_o]) (host := "PloughCall") (index := 40) X (ct_X12_at (out := (ga (6) t_liked (t_power))) rfl) nw_84 tw_119 tw_591 tw_592 ⟨rfl, rfl⟩ hd_X12_at.2 ⟨Nat.le_of_ble_eq_true rfl, Nat.le_of_ble_eq_true rfl⟩ ⟨Nat.zero_le _, Nat.zero_le _⟩ hw [3] rfl rfl rfl hl.1 rfl (Nat.le_of_ble_eq_true rfl) dX9_closeMonth_117 (fun H locs hw => ?_)
      have hw : Wd E A s.heap (wX9 E t_o t_q t_month t_power t_master ((t_left - (1 : Int32))) t_kept ((t_passed + (1 : Int32))) t_sizes ((gp (6) t_fields (t_power) ((imax (0 : Int32) ((ga (6) t_fields (t_power)) - s0))))) t_liked ++ (wX1 E p1_o p1_q p1_men p1_consuls p1_dangers p1_decrees p1_term p1_termTold p1_manNames p1_kinds p1_skills p1_fields p1_wants p1_hated p1_dangerNames p1_sizes p1_grows p1_decreeNames p1_grounds (.ref p1slaws_o) ++ (wX3 E p1slaws_o p1slaws_q p1slaws_ops p1slaws_stack p1slaws_size p1slaws_worksFrom p1slaws_worksTo p1slaws_keepsFrom p1slaws_keepsTo))) H locs := hw
      refine lv_aload_n hx hb dX9_closeMonth_120 rfl (lv_at hl 1 rfl) ?_
      obtain ⟨r121, hc_121, hf⟩ := bd_some hf
      refine k_V (As := []) (rest := [.int ((ga (6) t_liked (t_power))), .int (t_power), .ref p1_o]) (index := 131) (C := RX9) X (c_X9_together hc_121) tw_1000 tw_1001 tw_1002 tw_123 tw_1003 ⟨rfl, rfl⟩ hd_X9_together ⟨Nat.le_of_ble_eq_true rfl, Nat.le_of_ble_eq_true rfl⟩ ⟨Nat.zero_le _, Nat.zero_le _⟩ hw [0, 1, 2, 3] rfl rfl 0 rfl rfl rfl rfl hl.1 rfl (Nat.le_of_ble_eq_true rfl) dX9_closeMonth_121 (fun H locs hw => ?_)
      have hw : Wd E A s.heap (wX9 E t_o t_q t_month t_power t_master ((t_left - (1 : Int32))) t_kept ((t_passed + (1 : Int32))) t_sizes ((gp (6) t_fields (t_power) ((imax (0 : Int32) ((ga (6) t_fields (t_power)) - s0))))) t_liked ++ (wX1 E p1_o p1_q p1_men p1_consuls p1_dangers p1_decrees p1_term p1_termTold p1_manNames p1_kinds p1_skills p1_fields p1_wants p1_hated p1_dangerNames p1_sizes p1_grows p1_decreeNames p1_grounds (.ref p1slaws_o) ++ (wX3 E p1slaws_o p1slaws_q p1slaws_ops p1slaws_stack p1slaws_size p1slaws_worksFrom p1slaws_worksTo p1slaws_keepsFrom p1slaws_keepsTo))) H locs := hw
      obtain ⟨r124, hc_124, hf⟩ := bd_some hf
      refine k_V (As := [.int (t_power), .int ((ga (6) t_liked (t_power))), .int (r121)]) (rest := []) (index := 135) (C := RX1) X (c_X1_wouldKeep hc_124) tw_1007 tw_1008 tw_1009 tw_126 tw_1010 ⟨rfl, rfl⟩ hd_X1_wouldKeep ⟨Nat.le_of_ble_eq_true rfl, Nat.le_of_ble_eq_true rfl⟩ ⟨Nat.zero_le _, Nat.zero_le _⟩ hw [4, 5, 6, 7, 8, 9, 10, 11, 12, 13, 14, 15, 16, 17, 18] rfl rfl 4 rfl rfl rfl rfl hl.1 rfl (Nat.le_of_ble_eq_true rfl) dX9_closeMonth_124 (fun H locs hw => ?_)
      have hw : Wd E A s.heap (wX9 E t_o t_q t_month t_power t_master ((t_left - (1 : Int32))) t_kept ((t_passed + (1 : Int32))) t_sizes ((gp (6) t_fields (t_power) ((imax (0 : Int32) ((ga (6) t_fields (t_power)) - s0))))) t_liked ++ (wX1 E p1_o p1_q p1_men p1_consuls p1_dangers p1_decrees p1_term p1_termTold p1_manNames p1_kinds p1_skills p1_fields p1_wants p1_hated p1_dangerNames p1_sizes p1_grows p1_decreeNames p1_grounds (.ref p1slaws_o) ++ (wX3 E p1slaws_o p1slaws_q p1slaws_ops r124.2 p1slaws_size p1slaws_worksFrom p1slaws_worksTo p1slaws_keepsFrom p1slaws_keepsTo))) H locs := hw
      refine lv_if_eq (tgt := 143) hx hb dX9_closeMonth_127 (by decide) (fun c_127 => ?_) (fun c_127 => ?_)
      · have hf := (if_pos c_127).symm.trans hf
        refine lv_aload_n hx hb dX9_closeMonth_143 rfl (lv_at hl 1 rfl) ?_
        refine k_V (As := []) (rest := []) (index := 31) (C := RX9) X (c_X9_release (out := (f_X9_release)) rfl) tw_831 tw_833 tw_23 tw_123 tw_834 ⟨rfl, rfl⟩ hd_X9_release ⟨Nat.le_of_ble_eq_true rfl, Nat.le_of_ble_eq_true rfl⟩ ⟨Nat.zero_le _, Nat.zero_le _⟩ hw [0, 1, 2, 3] rfl rfl 0 rfl rfl rfl rfl hl.1 rfl (Nat.le_of_ble_eq_true rfl) dX9_closeMonth_144 (fun H locs hw => ?_)
        have hw : Wd E A s.heap (wX9 E t_o t_q t_month ((f_X9_release).1) ((f_X9_release).2.1) ((f_X9_release).2.2.1) ((f_X9_release).2.2.2.1) ((f_X9_release).2.2.2.2) t_sizes ((gp (6) t_fields (t_power) ((imax (0 : Int32) ((ga (6) t_fields (t_power)) - s0))))) t_liked ++ (wX1 E p1_o p1_q p1_men p1_consuls p1_dangers p1_decrees p1_term p1_termTold p1_manNames p1_kinds p1_skills p1_fields p1_wants p1_hated p1_dangerNames p1_sizes p1_grows p1_decreeNames p1_grounds (.ref p1slaws_o) ++ (wX3 E p1slaws_o p1slaws_q p1slaws_ops r124.2 p1slaws_size p1slaws_worksFrom p1slaws_worksTo p1slaws_keepsFrom p1slaws_keepsTo))) H locs := hw
        obtain rfl := Option.some.inj hf
        exact k_vret X hw dX9_closeMonth_147
      · have hf := (if_neg c_127).symm.trans hf
        refine lv_aload_n hx hb dX9_closeMonth_130 rfl (lv_at hl 1 rfl) ?_
        refine lv_iconst (v := (1 : Int32)) hx hb dX9_closeMonth_131 (by decide) ?_
        refine k_put (q0 := 0) (ci := 8) (C := RX9) (T := TX9) (N := 9) (ty0 := tyX9) (x := .int ((1 : Int32))) X inx_9 tyX9_ok nmX9 hw rfl rfl 4 (by decide) rfl rfl tw_228 rfl rfl (Nat.le_of_ble_eq_true rfl) dX9_closeMonth_132 (fun H locs hw => ?_)
        have hw : Wd E A s.heap (wX9 E t_o t_q t_month t_power t_master ((t_left - (1 : Int32))) ((1 : Int32)) ((t_passed + (1 : Int32))) t_sizes ((gp (6) t_fields (t_power) ((imax (0 : Int32) ((ga (6) t_fields (t_power)) - s0))))) t_liked ++ (wX1 E p1_o p1_q p1_men p1_consuls p1_dangers p1_decrees p1_term p1_termTold p1_manNames p1_kinds p1_skills p1_fields p1_wants p1_hated p1_dangerNames p1_sizes p1_grows p1_decreeNames p1_grounds (.ref p1slaws_o) ++ (wX3 E p1slaws_o p1slaws_q p1slaws_ops r124.2 p1slaws_size p1slaws_worksFrom p1slaws_worksTo p1slaws_keepsFrom p1slaws_keepsTo))) H locs := hw
        refine lv_aload_n hx hb dX9_closeMonth_135 rfl (lv_at hl 1 rfl) ?_
        refine lv_iconst (v := (0 : Int32)) hx hb dX9_closeMonth_136 (by decide) ?_
        refine k_put (q0 := 0) (ci := 8) (C := RX9) (T := TX9) (N := 9) (ty0 := tyX9) (x := .int ((0 : Int32))) X inx_9 tyX9_ok nmX9 hw rfl rfl 3 (by decide) rfl rfl tw_226 rfl rfl (Nat.le_of_ble_eq_true rfl) dX9_closeMonth_137 (fun H locs hw => ?_)
        have hw : Wd E A s.heap (wX9 E t_o t_q t_month t_power t_master ((0 : Int32)) ((1 : Int32)) ((t_passed + (1 : Int32))) t_sizes ((gp (6) t_fields (t_power) ((imax (0 : Int32) ((ga (6) t_fields (t_power)) - s0))))) t_liked ++ (wX1 E p1_o p1_q p1_men p1_consuls p1_dangers p1_decrees p1_term p1_termTold p1_manNames p1_kinds p1_skills p1_fields p1_wants p1_hated p1_dangerNames p1_sizes p1_grows p1_decreeNames p1_grounds (.ref p1slaws_o) ++ (wX3 E p1slaws_o p1slaws_q p1slaws_ops r124.2 p1slaws_size p1slaws_worksFrom p1slaws_worksTo p1slaws_keepsFrom p1slaws_keepsTo))) H locs := hw
        refine lv_goto (tgt := 147) hx hb dX9_closeMonth_140 (by decide) ?_
        obtain rfl := Option.some.inj hf
        exact k_vret X hw dX9_closeMonth_147
    · have hf := (if_neg c_100).symm.trans hf
      obtain rfl := Option.some.inj hf
      exact k_vret X hw dX9_closeMonth_103
  · have hf := (if_neg c_82).symm.trans hf
    obtain rfl := Option.some.inj hf
    exact k_vret X hw dX9_closeMonth_85
set_option maxRecDepth 100000 in
set_option maxHeartbeats 4000000 in
theorem c_X9_closeMonth {E : En} {l : Launch} {t_o : Nat} {t_q : Nat → Nat} {t_month : Int32} {t_power : Int32} {t_master : Int32} {t_left : Int32} {t_kept : Int32} {t_passed : Int32} {t_sizes : (Nat → Int32)} {t_fields : (Nat → Int32)} {t_liked : (Nat → Int32)} {p1_o : Nat} {p1_q : Nat → Nat} {p1_men : Int32} {p1_consuls : Int32} {p1_dangers : Int32} {p1_decrees : Int32} {p1_term : Int32} {p1_termTold : Int32} {p1_manNames : (Nat → Int64)} {p1_kinds : (Nat → Int32)} {p1_skills : (Nat → Int32)} {p1_fields : (Nat → Int32)} {p1_wants : (Nat → Int32)} {p1_hated : (Nat → Int32)} {p1_dangerNames : (Nat → Int64)} {p1_sizes : (Nat → Int32)} {p1_grows : (Nat → Int32)} {p1_decreeNames : (Nat → Int64)} {p1_grounds : (Nat → Int32)} {p1slaws_o : Nat} {p1slaws_q : Nat → Nat} {p1slaws_ops : (Nat → Int32)} {p1slaws_stack : (Nat → Int32)} {p1slaws_size : Int32} {p1slaws_worksFrom : Int32} {p1slaws_worksTo : Int32} {p1slaws_keepsFrom : Int32} {p1slaws_keepsTo : Int32} {x2 : Int32} {out : Int32 × Int32 × Int32 × Int32 × Int32 × (Nat → Int32) × (Nat → Int32) × (Nat → Int32)} (hf : f_X9_closeMonth t_power t_master t_left t_kept t_passed t_sizes t_fields t_liked p1_kinds p1_skills p1_wants p1slaws_ops p1slaws_stack p1slaws_worksFrom p1slaws_worksTo p1slaws_keepsFrom p1slaws_keepsTo x2 = some out) : Cn E l yX9_closeMonth cX9_closeMonth 4 none rm_X9_closeMonth [.ref t_o, .ref p1_o, .int (x2)] (wX9 E t_o t_q t_month t_power t_master t_left t_kept t_passed t_sizes t_fields t_liked ++ (wX1 E p1_o p1_q p1_men p1_consuls p1_dangers p1_decrees p1_term p1_termTold p1_manNames p1_kinds p1_skills p1_fields p1_wants p1_hated p1_dangerNames p1_sizes p1_grows p1_decreeNames p1_grounds (.ref p1slaws_o) ++ (wX3 E p1slaws_o p1slaws_q p1slaws_ops p1slaws_stack p1slaws_size p1slaws_worksFrom p1slaws_worksTo p1slaws_keepsFrom p1slaws_keepsTo))) none (wX9 E t_o t_q t_month out.1 out.2.1 out.2.2.1 out.2.2.2.1 out.2.2.2.2.1 t_sizes out.2.2.2.2.2.1 out.2.2.2.2.2.2.1 ++ (wX1 E p1_o p1_q p1_men p1_consuls p1_dangers p1_decrees p1_term p1_termTold p1_manNames p1_kinds p1_skills p1_fields p1_wants p1_hated p1_dangerNames p1_sizes p1_grows p1_decreeNames p1_grounds (.ref p1slaws_o) ++ (wX3 E p1slaws_o p1slaws_q p1slaws_ops out.2.2.2.2.2.2.2 p1slaws_size p1slaws_worksFrom p1slaws_worksTo p1slaws_keepsFrom p1slaws_keepsTo))) := by
  refine Cn.of (by decide) (Nat.le_of_ble_eq_true rfl) rfl ?_
  intro p e s m below meth c A ls args H locs X hw hl
  have hx := X.1.1
  have hb := X.1.2.1
  have ho := X.1.2.2.2.1
  have hts := X.1.2.2.2.2
  have hl : lv_has ls 4 [(0, .ref t_o), (1, .ref p1_o), (2, .int (x2))] := hl
  unfold f_X9_closeMonth at hf
  refine lv_aload_n hx hb dX9_closeMonth_0 rfl (lv_at hl 0 rfl) ?_
  refine lv_aload_n hx hb dX9_closeMonth_1 rfl (lv_at hl 0 rfl) ?_
  refine k_get (q0 := 0) (ci := 8) (C := RX9) (T := TX9) (N := 9) (x := .int (t_power)) X inx_9 hw rfl rfl 1 (by decide) rfl tw_220 rfl dX9_closeMonth_2 ?_
  refine lv_iload_n hx hb dX9_closeMonth_5 rfl (lv_at hl 2 rfl) ?_
  refine lv_aload_n hx hb dX9_closeMonth_6 rfl (lv_at hl 1 rfl) ?_
  refine lv_aload_n hx hb dX9_closeMonth_7 rfl (lv_at hl 0 rfl) ?_
  refine k_get (q0 := 0) (ci := 8) (C := RX9) (T := TX9) (N := 9) (x := .int (t_power)) X inx_9 hw rfl rfl 1 (by decide) rfl tw_220 rfl dX9_closeMonth_8 ?_
  refine k_V (As := [.int (t_power)]) (rest := [.int (x2), .int (t_power), .ref t_o]) (index := 124) (C := RX1) X (c_X1_likedForEnding (out := (f_X1_likedForEnding p1_kinds (t_power))) rfl) tw_996 tw_997 tw_998 tw_126 tw_999 ⟨rfl, rfl⟩ hd_X1_likedForEnding ⟨Nat.le_of_ble_eq_true rfl, Nat.le_of_ble_eq_true rfl⟩ ⟨Nat.zero_le _, Nat.zero_le _⟩ hw [4, 5, 6, 7, 8, 9, 10, 11, 12, 13, 14, 15] rfl rfl 4 rfl rfl rfl rfl hl.1 rfl (Nat.le_of_ble_eq_true rfl) dX9_closeMonth_11 (fun H locs hw => ?_)
  have hw : Wd E A s.heap (wX9 E t_o t_q t_month t_power t_master t_left t_kept t_passed t_sizes t_fields t_liked ++ (wX1 E p1_o p1_q p1_men p1_consuls p1_dangers p1_decrees p1_term p1_termTold p1_manNames p1_kinds p1_skills p1_fields p1_wants p1_hated p1_dangerNames p1_sizes p1_grows p1_decreeNames p1_grounds (.ref p1slaws_o) ++ (wX3 E p1slaws_o p1slaws_q p1slaws_ops p1slaws_stack p1slaws_size p1slaws_worksFrom p1slaws_worksTo p1slaws_keepsFrom p1slaws_keepsTo))) H locs := hw
  refine lv_imul hx hb dX9_closeMonth_14 ?_
  refine k_V (As := [.int (t_power), .int ((x2 * (f_X1_likedForEnding p1_kinds (t_power))))]) (rest := []) (index := 83) (C := RX9) X (c_X9_like (out := (f_X9_like t_liked (t_power) ((x2 * (f_X1_likedForEnding p1_kinds (t_power)))))) rfl) tw_984 tw_986 tw_32 tw_123 tw_987 ⟨rfl, rfl⟩ hd_X9_like ⟨Nat.le_of_ble_eq_true rfl, Nat.le_of_ble_eq_true rfl⟩ ⟨Nat.zero_le _, Nat.zero_le _⟩ hw [0, 1, 2, 3] rfl rfl 0 rfl rfl rfl rfl hl.1 rfl (Nat.le_of_ble_eq_true rfl) dX9_closeMonth_15 (fun H locs hw => ?_)
  have hw : Wd E A s.heap (wX9 E t_o t_q t_month t_power t_master t_left t_kept t_passed t_sizes t_fields ((f_X9_like t_liked (t_power) ((x2 * (f_X1_likedForEnding p1_kinds (t_power)))))) ++ (wX1 E p1_o p1_q p1_men p1_consuls p1_dangers p1_decrees p1_term p1_termTold p1_manNames p1_kinds p1_skills p1_fields p1_wants p1_hated p1_dangerNames p1_sizes p1_grows p1_decreeNames p1_grounds (.ref p1slaws_o) ++ (wX3 E p1slaws_o p1slaws_q p1slaws_ops p1slaws_stack p1slaws_size p1slaws_worksFrom p1slaws_worksTo p1slaws_keepsFrom p1slaws_keepsTo))) H locs := hw
  refine lv_aload_n hx hb dX9_closeMonth_18 rfl (lv_at hl 1 rfl) ?_
  refine k_getN (q0 := 4) (ci := 0) (C := RX1) (T := TX1) (N := 18) (host := "PloughCall") (x := .ref (p1_q 7)) X inx_1 hw rfl rfl 7 (by decide) rfl nw_50 rfl dX9_closeMonth_19 ?_
  refine lv_aload_n hx hb dX9_closeMonth_22 rfl (lv_at hl 0 rfl) ?_
  refine k_get (q0 := 0) (ci := 8) (C := RX9) (T := TX9) (N := 9) (x := .int (t_power)) X inx_9 hw rfl rfl 1 (by decide) rfl tw_220 rfl dX9_closeMonth_23 ?_
  refine k_SN (As := [.ref (p1_q 7), .int (t_power)]) (rest := []) (host := "PloughCall") (index := 40) X (ct_X12_at (out := (ga (6) p1_kinds (t_power))) rfl) nw_84 tw_119 tw_591 tw_592 ⟨rfl, rfl⟩ hd_X12_at.2 ⟨Nat.le_of_ble_eq_true rfl, Nat.le_of_ble_eq_true rfl⟩ ⟨Nat.zero_le _, Nat.zero_le _⟩ hw [6] rfl rfl rfl hl.1 rfl (Nat.le_of_ble_eq_true rfl) dX9_closeMonth_26 (fun H locs hw => ?_)
  have hw : Wd E A s.heap (wX9 E t_o t_q t_month t_power t_master t_left t_kept t_passed t_sizes t_fields ((f_X9_like t_liked (t_power) ((x2 * (f_X1_likedForEnding p1_kinds (t_power)))))) ++ (wX1 E p1_o p1_q p1_men p1_consuls p1_dangers p1_decrees p1_term p1_termTold p1_manNames p1_kinds p1_skills p1_fields p1_wants p1_hated p1_dangerNames p1_sizes p1_grows p1_decreeNames p1_grounds (.ref p1slaws_o) ++ (wX3 E p1slaws_o p1slaws_q p1slaws_ops p1slaws_stack p1slaws_size p1slaws_worksFrom p1slaws_worksTo p1slaws_keepsFrom p1slaws_keepsTo))) H locs := hw
  refine lv_iconst (v := (1 : Int32)) hx hb dX9_closeMonth_29 (by decide) ?_
  refine lv_icmp_ne (tgt := 38) hx hb dX9_closeMonth_30 (by decide) (fun c_30 => ?_) (fun c_30 => ?_)
  · have hf := (if_neg c_30).symm.trans hf
    refine lv_iconst (v := (5 : Int32)) hx hb dX9_closeMonth_38 (by decide) ?_
    exact kb_X9_closeMonth_39 X hf hw (lv_sub hl [0, 1] rfl)
  · have hf := (if_pos c_30).symm.trans hf
    refine lv_bipush (v := (10 : Int32)) hx hb dX9_closeMonth_33 (by decide) ?_
    refine lv_goto (tgt := 39) hx hb dX9_closeMonth_35 (by decide) ?_
    exact kb_X9_closeMonth_39 X hf hw (lv_sub hl [0, 1] rfl)
/-! void open(); -/
def f_X10_open (t_signs : (Nat → Int32)) (t_length : Int32) : Option (Int32 × Int32 × Int32 × Int32 × Int64 × (Option Nat)) := (f_X10_advance t_signs t_length ((0 : Int32))).bind fun r6 => some (r6.1, r6.2.1, r6.2.2.1, r6.2.2.2.1, r6.2.2.2.2.1, r6.2.2.2.2.2)
abbrev rm_X10_open : Room := { frames := 3, cells := 0, slots := 0, locals := 64 }
theorem hd_X10_open : yX10_open.cls = RX10 ∧ yX10_open.cls ≠ "java/lang/invoke/MethodHandle" ∧ yX10_open.cls ≠ "java/lang/invoke/VarHandle" ∧ (parseMethodDescriptor yX10_open.desc).map (fun d => d.parameters.length) = some 0 := by decide +kernel
set_option maxRecDepth 100000 in
set_option maxHeartbeats 4000000 in
theorem c_X10_open {E : En} {l : Launch} {t_o : Nat} {t_q : Nat → Nat} {t_signs : (Nat → Int32)} {t_length : Int32} {t_place : Int32} {t_behind : Int32} {t_kind : Int32} {t_value : Int32} {t_letters : Int64} {t_word : (Option Nat)}  {out : Int32 × Int32 × Int32 × Int32 × Int64 × (Option Nat)} (hf : f_X10_open t_signs t_length = some out) : Cn E l yX10_open cX10_open 1 none rm_X10_open [.ref t_o] (wX10 E t_o t_q t_signs t_length t_place t_behind t_kind t_value t_letters t_word) none (wX10 E t_o t_q t_signs t_length out.1 out.2.1 out.2.2.1 out.2.2.2.1 out.2.2.2.2.1 out.2.2.2.2.2) := by
  refine Cn.of (by decide) (Nat.le_of_ble_eq_true rfl) rfl ?_
  intro p e s m below meth c A ls args H locs X hw hl
  have hx := X.1.1
  have hb := X.1.2.1
  have ho := X.1.2.2.2.1
  have hts := X.1.2.2.2.2
  have hl : lv_has ls 1 [(0, .ref t_o)] := hl
  unfold f_X10_open at hf
  refine lv_aload_n hx hb dX10_open_0 rfl (lv_at hl 0 rfl) ?_
  refine lv_iconst (v := (0 : Int32)) hx hb dX10_open_1 (by decide) ?_
  refine k_put (q0 := 0) (ci := 9) (C := RX10) (T := TX10) (N := 8) (ty0 := tyX10) (x := .int ((0 : Int32))) X inx_10 tyX10_ok nmX10 hw rfl rfl 3 (by decide) rfl rfl tw_159 rfl rfl (Nat.le_of_ble_eq_true rfl) dX10_open_2 (fun H locs hw => ?_)
  have hw : Wd E A s.heap (wX10 E t_o t_q t_signs t_length t_place ((0 : Int32)) t_kind t_value t_letters t_word) H locs := hw
  refine lv_aload_n hx hb dX10_open_5 rfl (lv_at hl 0 rfl) ?_
  obtain ⟨r6, hc_6, hf⟩ := bd_some hf
  refine k_V (As := []) (rest := []) (index := 30) (C := RX10) X (c_X10_advance hc_6) tw_586 tw_587 tw_588 tw_120 tw_589 ⟨rfl, rfl⟩ hd_X10_advance ⟨Nat.le_of_ble_eq_true rfl, Nat.le_of_ble_eq_true rfl⟩ ⟨Nat.zero_le _, Nat.zero_le _⟩ hw [0, 1] rfl rfl 0 rfl rfl rfl rfl hl.1 rfl (Nat.le_of_ble_eq_true rfl) dX10_open_6 (fun H locs hw => ?_)
  have hw : Wd E A s.heap (wX10 E t_o t_q t_signs t_length r6.1 r6.2.1 r6.2.2.1 r6.2.2.2.1 r6.2.2.2.2.1 r6.2.2.2.2.2) H locs := hw
  obtain rfl := Option.some.inj hf
  exact k_vret X hw dX10_open_9
/-! public int lay(); -/
def f_X12_lay (tsnow_month : Int32) (tsnow_power : Int32) (tsnow_master : Int32) (tsnow_left : Int32) (tsnow_kept : Int32) (tsnow_passed : Int32) (tsnow_sizes : (Nat → Int32)) (tsnow_fields : (Nat → Int32)) (tsnow_liked : (Nat → Int32)) (tspast_steps : Int32) (tspast_next : Int32) (tspastsbefores_month : (Nat → Int32)) (tspastsbefores_power : (Nat → Int32)) (tspastsbefores_master : (Nat → Int32)) (tspastsbefores_left : (Nat → Int32)) (tspastsbefores_kept : (Nat → Int32)) (tspastsbefores_passed : (Nat → Int32)) (tspastsbefores_sizes : (Nat → (Nat → Int32))) (tspastsbefores_fields : (Nat → (Nat → Int32))) (tspastsbefores_liked : (Nat → (Nat → Int32))) : Option (Int32 × Int32 × Int32 × Int32 × Int32 × Int32 × (Nat → Int32) × Int32 × Int32 × (Nat → Int32) × (Nat → Int32) × (Nat → Int32) × (Nat → Int32) × (Nat → Int32) × (Nat → Int32) × (Nat → (Nat → Int32)) × (Nat → (Nat → Int32)) × (Nat → (Nat → Int32))) := if (f_X9_canLay tsnow_power tsnow_kept) = (0 : Int32) then some ((-1 : Int32), tsnow_power, tsnow_master, tsnow_left, tsnow_kept, tsnow_passed, tsnow_liked, tspast_steps, tspast_next, tspastsbefores_month, tspastsbefores_power, tspastsbefores_master, tspastsbefores_left, tspastsbefores_kept, tspastsbefores_passed, tspastsbefores_sizes, tspastsbefores_fields, tspastsbefores_liked)
  else (f_X5_push tspast_steps tspast_next tspastsbefores_month tspastsbefores_power tspastsbefores_master tspastsbefores_left tspastsbefores_kept tspastsbefores_passed tspastsbefores_sizes tspastsbefores_fields tspastsbefores_liked tsnow_month tsnow_power tsnow_master tsnow_left tsnow_kept tsnow_passed tsnow_sizes tsnow_fields tsnow_liked).bind fun r20 => some ((f_X9_layDown tsnow_power tsnow_left tsnow_liked).1, (f_X9_layDown tsnow_power tsnow_left tsnow_liked).2.1, (f_X9_layDown tsnow_power tsnow_left tsnow_liked).2.2.1, (f_X9_layDown tsnow_power tsnow_left tsnow_liked).2.2.2.1, (f_X9_layDown tsnow_power tsnow_left tsnow_liked).2.2.2.2.1, (f_X9_layDown tsnow_power tsnow_left tsnow_liked).2.2.2.2.2.1, (f_X9_layDown tsnow_power tsnow_left tsnow_liked).2.2.2.2.2.2, r20.1, r20.2.1, r20.2.2.1, r20.2.2.2.1, r20.2.2.2.2.1, r20.2.2.2.2.2.1, r20.2.2.2.2.2.2.1, r20.2.2.2.2.2.2.2.1, r20.2.2.2.2.2.2.2.2.1, r20.2.2.2.2.2.2.2.2.2.1, r20.2.2.2.2.2.2.2.2.2.2)
abbrev rm_X12_lay : Room := { frames := 4, cells := 0, slots := 0, locals := 86 }
theorem hd_X12_lay : yX12_lay.cls = RX12 ∧ yX12_lay.cls ≠ "java/lang/invoke/MethodHandle" ∧ yX12_lay.cls ≠ "java/lang/invoke/VarHandle" ∧ (parseMethodDescriptor yX12_lay.desc).map (fun d => d.parameters.length) = some 0 := by decide +kernel
set_option maxRecDepth 100000 in
set_option maxHeartbeats 4000000 in
theorem c_X12_lay {E : En} {l : Launch} {t_o : Nat} {t_q : Nat → Nat} {t_tape : Value} {t_reader : Value} {t_counsel : Value} {t_trial : Value} {t_reports : Value} {t_marks : (Nat → Option Nat)} {t_city : Value} {t_spareCity : Value} {t_script : Value} {t_spareScript : Value} {t_firstRefused : Int32} {t_firstKept : Int32} {tsnow_o : Nat} {tsnow_q : Nat → Nat} {tsnow_month : Int32} {tsnow_power : Int32} {tsnow_master : Int32} {tsnow_left : Int32} {tsnow_kept : Int32} {tsnow_passed : Int32} {tsnow_sizes : (Nat → Int32)} {tsnow_fields : (Nat → Int32)} {tsnow_liked : (Nat → Int32)} {tspast_o : Nat} {tspast_q : Nat → Nat} {tspast_steps : Int32} {tspast_next : Int32} {tspastsbefores_o : Nat → Nat} {tspastsbefores_q : Nat → Nat → Nat} {tspastsbefores_month : Nat → Int32} {tspastsbefores_power : Nat → Int32} {tspastsbefores_master : Nat → Int32} {tspastsbefores_left : Nat → Int32} {tspastsbefores_kept : Nat → Int32} {tspastsbefores_passed : Nat → Int32} {tspastsbefores_sizes : Nat → (Nat → Int32)} {tspastsbefores_fields : Nat → (Nat → Int32)} {tspastsbefores_liked : Nat → (Nat → Int32)}  {out : Int32 × Int32 × Int32 × Int32 × Int32 × Int32 × (Nat → Int32) × Int32 × Int32 × (Nat → Int32) × (Nat → Int32) × (Nat → Int32) × (Nat → Int32) × (Nat → Int32) × (Nat → Int32) × (Nat → (Nat → Int32)) × (Nat → (Nat → Int32)) × (Nat → (Nat → Int32))} (hf : f_X12_lay tsnow_month tsnow_power tsnow_master tsnow_left tsnow_kept tsnow_passed tsnow_sizes tsnow_fields tsnow_liked tspast_steps tspast_next tspastsbefores_month tspastsbefores_power tspastsbefores_master tspastsbefores_left tspastsbefores_kept tspastsbefores_passed tspastsbefores_sizes tspastsbefores_fields tspastsbefores_liked = some out) : Cn E l yX12_lay cX12_lay 1 (some .int) rm_X12_lay [.ref t_o] (wX12 E t_o t_q t_tape t_reader t_counsel (.ref tsnow_o) t_trial (.ref tspast_o) t_reports t_marks t_city t_spareCity t_script t_spareScript t_firstRefused t_firstKept ++ (wX9 E tsnow_o tsnow_q tsnow_month tsnow_power tsnow_master tsnow_left tsnow_kept tsnow_passed tsnow_sizes tsnow_fields tsnow_liked ++ (wX5 E tspast_o tspast_q ((fun j => some (tspastsbefores_o j))) tspast_steps tspast_next ++ (w16 (fun k => wX9 E (tspastsbefores_o k) (tspastsbefores_q k) (tspastsbefores_month k) (tspastsbefores_power k) (tspastsbefores_master k) (tspastsbefores_left k) (tspastsbefores_kept k) (tspastsbefores_passed k) (tspastsbefores_sizes k) (tspastsbefores_fields k) (tspastsbefores_liked k)))))) (some (.int out.1)) (wX12 E t_o t_q t_tape t_reader t_counsel (.ref tsnow_o) t_trial (.ref tspast_o) t_reports t_marks t_city t_spareCity t_script t_spareScript t_firstRefused t_firstKept ++ (wX9 E tsnow_o tsnow_q tsnow_month out.2.1 out.2.2.1 out.2.2.2.1 out.2.2.2.2.1 out.2.2.2.2.2.1 tsnow_sizes tsnow_fields out.2.2.2.2.2.2.1 ++ (wX5 E tspast_o tspast_q ((fun j => some (tspastsbefores_o j))) out.2.2.2.2.2.2.2.1 out.2.2.2.2.2.2.2.2.1 ++ (w16 (fun k => wX9 E (tspastsbefores_o k) (tspastsbefores_q k) (out.2.2.2.2.2.2.2.2.2.1 k) (out.2.2.2.2.2.2.2.2.2.2.1 k) (out.2.2.2.2.2.2.2.2.2.2.2.1 k) (out.2.2.2.2.2.2.2.2.2.2.2.2.1 k) (out.2.2.2.2.2.2.2.2.2.2.2.2.2.1 k) (out.2.2.2.2.2.2.2.2.2.2.2.2.2.2.1 k) (out.2.2.2.2.2.2.2.2.2.2.2.2.2.2.2.1 k) (out.2.2.2.2.2.2.2.2.2.2.2.2.2.2.2.2.1 k) (out.2.2.2.2.2.2.2.2.2.2.2.2.2.2.2.2.2 k)))))) := by
  refine Cn.of (by decide) (Nat.le_of_ble_eq_true rfl) rfl ?_
  intro p e s m below meth c A ls args H locs X hw hl
  have hx := X.1.1
  have hb := X.1.2.1
  have ho := X.1.2.2.2.1
  have hts := X.1.2.2.2.2
  have hl : lv_has ls 1 [(0, .ref t_o)] := hl
  unfold f_X12_lay at hf
  refine lv_aload_n hx hb dX12_lay_0 rfl (lv_at hl 0 rfl) ?_
  refine k_get (q0 := 0) (ci := 10) (C := RX12) (T := TX12) (N := 14) (x := .ref tsnow_o) X inx_12 hw rfl rfl 3 (by decide) rfl tw_511 rfl dX12_lay_1 ?_
  refine k_V (As := []) (rest := []) (index := 187) (C := RX9) X (c_X9_canLay (out := (f_X9_canLay tsnow_power tsnow_kept)) rfl) tw_1024 tw_1025 tw_1026 tw_123 tw_1027 ⟨rfl, rfl⟩ hd_X9_canLay ⟨Nat.le_of_ble_eq_true rfl, Nat.le_of_ble_eq_true rfl⟩ ⟨Nat.zero_le _, Nat.zero_le _⟩ hw [2, 3, 4, 5] rfl rfl 2 rfl rfl rfl rfl hl.1 rfl (Nat.le_of_ble_eq_true rfl) dX12_lay_4 (fun H locs hw => ?_)
  have hw : Wd E A s.heap (wX12 E t_o t_q t_tape t_reader t_counsel (.ref tsnow_o) t_trial (.ref tspast_o) t_reports t_marks t_city t_spareCity t_script t_spareScript t_firstRefused t_firstKept ++ (wX9 E tsnow_o tsnow_q tsnow_month tsnow_power tsnow_master tsnow_left tsnow_kept tsnow_passed tsnow_sizes tsnow_fields tsnow_liked ++ (wX5 E tspast_o tspast_q ((fun j => some (tspastsbefores_o j))) tspast_steps tspast_next ++ (w16 (fun k => wX9 E (tspastsbefores_o k) (tspastsbefores_q k) (tspastsbefores_month k) (tspastsbefores_power k) (tspastsbefores_master k) (tspastsbefores_left k) (tspastsbefores_kept k) (tspastsbefores_passed k) (tspastsbefores_sizes k) (tspastsbefores_fields k) (tspastsbefores_liked k)))))) H locs := hw
  refine lv_if_ne (tgt := 12) hx hb dX12_lay_7 (by decide) (fun c_7 => ?_) (fun c_7 => ?_)
  · have hf := (if_neg c_7).symm.trans hf
    refine lv_aload_n hx hb dX12_lay_12 rfl (lv_at hl 0 rfl) ?_
    refine k_get (q0 := 0) (ci := 10) (C := RX12) (T := TX12) (N := 14) (x := .ref tspast_o) X inx_12 hw rfl rfl 5 (by decide) rfl tw_513 rfl dX12_lay_13 ?_
    refine lv_aload_n hx hb dX12_lay_16 rfl (lv_at hl 0 rfl) ?_
    refine k_get (q0 := 0) (ci := 10) (C := RX12) (T := TX12) (N := 14) (x := .ref tsnow_o) X inx_12 hw rfl rfl 3 (by decide) rfl tw_511 rfl dX12_lay_17 ?_
    obtain ⟨r20, hc_20, hf⟩ := bd_some hf
    refine k_V (As := [.ref tsnow_o]) (rest := []) (index := 165) (C := RX5) X (c_X5_push hc_20) tw_906 tw_907 tw_908 tw_124 tw_909 ⟨rfl, rfl⟩ hd_X5_push ⟨Nat.le_of_ble_eq_true rfl, Nat.le_of_ble_eq_true rfl⟩ ⟨Nat.zero_le _, Nat.zero_le _⟩ hw [6, 7, 8, 9, 10, 11, 12, 13, 14, 15, 16, 17, 18, 19, 20, 21, 22, 23, 24, 25, 26, 27, 28, 29, 30, 31, 32, 33, 34, 35, 36, 37, 38, 39, 40, 41, 42, 43, 44, 45, 46, 47, 48, 49, 50, 51, 52, 53, 54, 55, 56, 57, 58, 59, 60, 61, 62, 63, 64, 65, 66, 67, 68, 69, 70, 71, 2, 3, 4, 5] rfl rfl 6 rfl rfl rfl rfl hl.1 rfl (Nat.le_of_ble_eq_true rfl) dX12_lay_20 (fun H locs hw => ?_)
    have hw : Wd E A s.heap (wX12 E t_o t_q t_tape t_reader t_counsel (.ref tsnow_o) t_trial (.ref tspast_o) t_reports t_marks t_city t_spareCity t_script t_spareScript t_firstRefused t_firstKept ++ (wX9 E tsnow_o tsnow_q tsnow_month tsnow_power tsnow_master tsnow_left tsnow_kept tsnow_passed tsnow_sizes tsnow_fields tsnow_liked ++ (wX5 E tspast_o tspast_q ((fun j => some (tspastsbefores_o j))) r20.1 r20.2.1 ++ (w16 (fun k => wX9 E (tspastsbefores_o k) (tspastsbefores_q k) (r20.2.2.1 k) (r20.2.2.2.1 k) (r20.2.2.2.2.1 k) (r20.2.2.2.2.2.1 k) (r20.2.2.2.2.2.2.1 k) (r20.2.2.2.2.2.2.2.1 k) (r20.2.2.2.2.2.2.2.2.1 k) (r20.2.2.2.2.2.2.2.2.2.1 k) (r20.2.2.2.2.2.2.2.2.2.2 k)))))) H locs := hw
    refine lv_aload_n hx hb dX12_lay_23 rfl (lv_at hl 0 rfl) ?_
    refine k_get (q0 := 0) (ci := 10) (C := RX12) (T := TX12) (N := 14) (x := .ref tsnow_o) X inx_12 hw rfl rfl 3 (by decide) rfl tw_511 rfl dX12_lay_24 ?_
    refine k_V (As := []) (rest := []) (index := 191) (C := RX9) X (c_X9_layDown (out := (f_X9_layDown tsnow_power tsnow_left tsnow_liked)) rfl) tw_1028 tw_1029 tw_1030 tw_123 tw_1031 ⟨rfl, rfl⟩ hd_X9_layDown ⟨Nat.le_of_ble_eq_true rfl, Nat.le_of_ble_eq_true rfl⟩ ⟨Nat.zero_le _, Nat.zero_le _⟩ hw [2, 3, 4, 5] rfl rfl 2 rfl rfl rfl rfl hl.1 rfl (Nat.le_of_ble_eq_true rfl) dX12_lay_27 (fun H locs hw => ?_)
    have hw : Wd E A s.heap (wX12 E t_o t_q t_tape t_reader t_counsel (.ref tsnow_o) t_trial (.ref tspast_o) t_reports t_marks t_city t_spareCity t_script t_spareScript t_firstRefused t_firstKept ++ (wX9 E tsnow_o tsnow_q tsnow_month ((f_X9_layDown tsnow_power tsnow_left tsnow_liked).2.1) ((f_X9_layDown tsnow_power tsnow_left tsnow_liked).2.2.1) ((f_X9_layDown tsnow_power tsnow_left tsnow_liked).2.2.2.1) ((f_X9_layDown tsnow_power tsnow_left tsnow_liked).2.2.2.2.1) ((f_X9_layDown tsnow_power tsnow_left tsnow_liked).2.2.2.2.2.1) tsnow_sizes tsnow_fields ((f_X9_layDown tsnow_power tsnow_left tsnow_liked).2.2.2.2.2.2) ++ (wX5 E tspast_o tspast_q ((fun j => some (tspastsbefores_o j))) r20.1 r20.2.1 ++ (w16 (fun k => wX9 E (tspastsbefores_o k) (tspastsbefores_q k) (r20.2.2.1 k) (r20.2.2.2.1 k) (r20.2.2.2.2.1 k) (r20.2.2.2.2.2.1 k) (r20.2.2.2.2.2.2.1 k) (r20.2.2.2.2.2.2.2.1 k) (r20.2.2.2.2.2.2.2.2.1 k) (r20.2.2.2.2.2.2.2.2.2.1 k) (r20.2.2.2.2.2.2.2.2.2.2 k)))))) H locs := hw
    obtain rfl := Option.some.inj hf
    exact k_iret X hw dX12_lay_30
  · have hf := (if_pos c_7).symm.trans hf
    refine lv_iconst (v := (-1 : Int32)) hx hb dX12_lay_10 (by decide) ?_
    obtain rfl := Option.some.inj hf
    exact k_iret X hw dX12_lay_11
/-! public int whom(int); -/
def f_X12_whom (tscity_men : Int32) (tscity_consuls : Int32) (tscity_dangers : Int32) (tscity_term : Int32) (tscity_kinds : (Nat → Int32)) (tscity_skills : (Nat → Int32)) (tscity_wants : (Nat → Int32)) (tscity_hated : (Nat → Int32)) (tscity_grows : (Nat → Int32)) (tscityslaws_ops : (Nat → Int32)) (tscityslaws_stack : (Nat → Int32)) (tscityslaws_worksFrom : Int32) (tscityslaws_worksTo : Int32) (tscityslaws_keepsFrom : Int32) (tscityslaws_keepsTo : Int32) (tsnow_sizes : (Nat → Int32)) (tsnow_liked : (Nat → Int32)) (x1 : Int32) : Option (Int32 × (Nat → Int32)) := if (f_X1_hasDanger tscity_dangers (x1)) = (0 : Int32) then some ((-1 : Int32), tscityslaws_stack)
  else (f_X2_soonest tscity_men tscity_consuls tscity_dangers tscity_kinds tscity_skills tscity_wants tscity_hated tscity_grows tscityslaws_ops tscityslaws_stack tscityslaws_worksFrom tscityslaws_worksTo tscityslaws_keepsFrom tscityslaws_keepsTo tsnow_sizes tsnow_liked (x1) (tscity_term)).bind fun r33 => some (r33.1, r33.2)
abbrev rm_X12_whom : Room := { frames := 5, cells := 0, slots := 0, locals := 131 }
theorem hd_X12_whom : yX12_whom.cls = RX12 ∧ yX12_whom.cls ≠ "java/lang/invoke/MethodHandle" ∧ yX12_whom.cls ≠ "java/lang/invoke/VarHandle" ∧ (parseMethodDescriptor yX12_whom.desc).map (fun d => d.parameters.length) = some 1 := by decide +kernel
set_option maxRecDepth 100000 in
set_option maxHeartbeats 4000000 in
theorem c_X12_whom {E : En} {l : Launch} {t_o : Nat} {t_q : Nat → Nat} {t_tape : Value} {t_reader : Value} {t_trial : Value} {t_past : Value} {t_reports : Value} {t_marks : (Nat → Option Nat)} {t_spareCity : Value} {t_script : Value} {t_spareScript : Value} {t_firstRefused : Int32} {t_firstKept : Int32} {tscity_o : Nat} {tscity_q : Nat → Nat} {tscity_men : Int32} {tscity_consuls : Int32} {tscity_dangers : Int32} {tscity_decrees : Int32} {tscity_term : Int32} {tscity_termTold : Int32} {tscity_manNames : (Nat → Int64)} {tscity_kinds : (Nat → Int32)} {tscity_skills : (Nat → Int32)} {tscity_fields : (Nat → Int32)} {tscity_wants : (Nat → Int32)} {tscity_hated : (Nat → Int32)} {tscity_dangerNames : (Nat → Int64)} {tscity_sizes : (Nat → Int32)} {tscity_grows : (Nat → Int32)} {tscity_decreeNames : (Nat → Int64)} {tscity_grounds : (Nat → Int32)} {tscityslaws_o : Nat} {tscityslaws_q : Nat → Nat} {tscityslaws_ops : (Nat → Int32)} {tscityslaws_stack : (Nat → Int32)} {tscityslaws_size : Int32} {tscityslaws_worksFrom : Int32} {tscityslaws_worksTo : Int32} {tscityslaws_keepsFrom : Int32} {tscityslaws_keepsTo : Int32} {tscounsel_o : Nat} {tscounsel_q : Nat → Nat} {tscounsel_path : (Nat → Option Nat)} {tscounsel_row : (Nat → Int32)} {tscounsel_leastRow : (Nat → Int32)} {tscounsel_needed : (Nat → Int32)} {tscounsel_likeSizes : (Nat → Int32)} {tscounsel_ways : Value} {tscounsel_nextWays : Value} {tscounsel_least : Int32} {tscounsel_ended : Int32} {tscounsel_monthsKept : Int32} {tsnow_o : Nat} {tsnow_q : Nat → Nat} {tsnow_month : Int32} {tsnow_power : Int32} {tsnow_master : Int32} {tsnow_left : Int32} {tsnow_kept : Int32} {tsnow_passed : Int32} {tsnow_sizes : (Nat → Int32)} {tsnow_fields : (Nat → Int32)} {tsnow_liked : (Nat → Int32)} {x1 : Int32} {out : Int32 × (Nat → Int32)} (hf : f_X12_whom tscity_men tscity_consuls tscity_dangers tscity_term tscity_kinds tscity_skills tscity_wants tscity_hated tscity_grows tscityslaws_ops tscityslaws_stack tscityslaws_worksFrom tscityslaws_worksTo tscityslaws_keepsFrom tscityslaws_keepsTo tsnow_sizes tsnow_liked x1 = some out) : Cn E l yX12_whom cX12_whom 2 (some .int) rm_X12_whom [.ref t_o, .int (x1)] (wX12 E t_o t_q t_tape t_reader (.ref tscounsel_o) (.ref tsnow_o) t_trial t_past t_reports t_marks (.ref tscity_o) t_spareCity t_script t_spareScript t_firstRefused t_firstKept ++ (wX1 E tscity_o tscity_q tscity_men tscity_consuls tscity_dangers tscity_decrees tscity_term tscity_termTold tscity_manNames tscity_kinds tscity_skills tscity_fields tscity_wants tscity_hated tscity_dangerNames tscity_sizes tscity_grows tscity_decreeNames tscity_grounds (.ref tscityslaws_o) ++ (wX3 E tscityslaws_o tscityslaws_q tscityslaws_ops tscityslaws_stack tscityslaws_size tscityslaws_worksFrom tscityslaws_worksTo tscityslaws_keepsFrom tscityslaws_keepsTo ++ (wX2 E tscounsel_o tscounsel_q tscounsel_path tscounsel_row tscounsel_leastRow tscounsel_needed tscounsel_likeSizes tscounsel_ways tscounsel_nextWays tscounsel_least tscounsel_ended tscounsel_monthsKept ++ (wX9 E tsnow_o tsnow_q tsnow_month tsnow_power tsnow_master tsnow_left tsnow_kept tsnow_passed tsnow_sizes tsnow_fields tsnow_liked))))) (some (.int out.1)) (wX12 E t_o t_q t_tape t_reader (.ref tscounsel_o) (.ref tsnow_o) t_trial t_past t_reports t_marks (.ref tscity_o) t_spareCity t_script t_spareScript t_firstRefused t_firstKept ++ (wX1 E tscity_o tscity_q tscity_men tscity_consuls tscity_dangers tscity_decrees tscity_term tscity_termTold tscity_manNames tscity_kinds tscity_skills tscity_fields tscity_wants tscity_hated tscity_dangerNames tscity_sizes tscity_grows tscity_decreeNames tscity_grounds (.ref tscityslaws_o) ++ (wX3 E tscityslaws_o tscityslaws_q tscityslaws_ops out.2 tscityslaws_size tscityslaws_worksFrom tscityslaws_worksTo tscityslaws_keepsFrom tscityslaws_keepsTo ++ (wX2 E tscounsel_o tscounsel_q tscounsel_path tscounsel_row tscounsel_leastRow tscounsel_needed tscounsel_likeSizes tscounsel_ways tscounsel_nextWays tscounsel_least tscounsel_ended tscounsel_monthsKept ++ (wX9 E tsnow_o tsnow_q tsnow_month tsnow_power tsnow_master tsnow_left tsnow_kept tsnow_passed tsnow_sizes tsnow_fields tsnow_liked))))) := by
  refine Cn.of (by decide) (Nat.le_of_ble_eq_true rfl) rfl ?_
  intro p e s m below meth c A ls args H locs X hw hl
  have hx := X.1.1
  have hb := X.1.2.1
  have ho := X.1.2.2.2.1
  have hts := X.1.2.2.2.2
  have hl : lv_has ls 2 [(0, .ref t_o), (1, .int (x1))] := hl
  unfold f_X12_whom at hf
  refine lv_aload_n hx hb dX12_whom_0 rfl (lv_at hl 0 rfl) ?_
  refine k_get (q0 := 0) (ci := 10) (C := RX12) (T := TX12) (N := 14) (x := .ref tscity_o) X inx_12 hw rfl rfl 8 (by decide) rfl tw_516 rfl dX12_whom_1 ?_
  refine lv_iload_n hx hb dX12_whom_4 rfl (lv_at hl 1 rfl) ?_
  refine k_V (As := [.int (x1)]) (rest := []) (index := 147) (C := RX1) X (c_X1_hasDanger (out := (f_X1_hasDanger tscity_dangers (x1))) rfl) tw_883 tw_884 tw_885 tw_126 tw_886 ⟨rfl, rfl⟩ hd_X1_hasDanger ⟨Nat.le_of_ble_eq_true rfl, Nat.le_of_ble_eq_true rfl⟩ ⟨Nat.zero_le _, Nat.zero_le _⟩ hw [2, 3, 4, 5, 6, 7, 8, 9, 10, 11, 12, 13] rfl rfl 2 rfl rfl rfl rfl hl.1 rfl (Nat.le_of_ble_eq_true rfl) dX12_whom_5 (fun H locs hw => ?_)
  have hw : Wd E A s.heap (wX12 E t_o t_q t_tape t_reader (.ref tscounsel_o) (.ref tsnow_o) t_trial t_past t_reports t_marks (.ref tscity_o) t_spareCity t_script t_spareScript t_firstRefused t_firstKept ++ (wX1 E tscity_o tscity_q tscity_men tscity_consuls tscity_dangers tscity_decrees tscity_term tscity_termTold tscity_manNames tscity_kinds tscity_skills tscity_fields tscity_wants tscity_hated tscity_dangerNames tscity_sizes tscity_grows tscity_decreeNames tscity_grounds (.ref tscityslaws_o) ++ (wX3 E tscityslaws_o tscityslaws_q tscityslaws_ops tscityslaws_stack tscityslaws_size tscityslaws_worksFrom tscityslaws_worksTo tscityslaws_keepsFrom tscityslaws_keepsTo ++ (wX2 E tscounsel_o tscounsel_q tscounsel_path tscounsel_row tscounsel_leastRow tscounsel_needed tscounsel_likeSizes tscounsel_ways tscounsel_nextWays tscounsel_least tscounsel_ended tscounsel_monthsKept ++ (wX9 E tsnow_o tsnow_q tsnow_month tsnow_power tsnow_master tsnow_left tsnow_kept tsnow_passed tsnow_sizes tsnow_fields tsnow_liked))))) H locs := hw
  refine lv_if_ne (tgt := 13) hx hb dX12_whom_8 (by decide) (fun c_8 => ?_) (fun c_8 => ?_)
  · have hf := (if_neg c_8).symm.trans hf
    refine lv_aload_n hx hb dX12_whom_13 rfl (lv_at hl 0 rfl) ?_
    refine k_get (q0 := 0) (ci := 10) (C := RX12) (T := TX12) (N := 14) (x := .ref tscounsel_o) X inx_12 hw rfl rfl 2 (by decide) rfl tw_510 rfl dX12_whom_14 ?_
    refine lv_aload_n hx hb dX12_whom_17 rfl (lv_at hl 0 rfl) ?_
    refine k_get (q0 := 0) (ci := 10) (C := RX12) (T := TX12) (N := 14) (x := .ref tscity_o) X inx_12 hw rfl rfl 8 (by decide) rfl tw_516 rfl dX12_whom_18 ?_
    refine lv_aload_n hx hb dX12_whom_21 rfl (lv_at hl 0 rfl) ?_
    refine k_get (q0 := 0) (ci := 10) (C := RX12) (T := TX12) (N := 14) (x := .ref tsnow_o) X inx_12 hw rfl rfl 3 (by decide) rfl tw_511 rfl dX12_whom_22 ?_
    refine lv_iload_n hx hb dX12_whom_25 rfl (lv_at hl 1 rfl) ?_
    refine lv_aload_n hx hb dX12_whom_26 rfl (lv_at hl 0 rfl) ?_
    refine k_get (q0 := 0) (ci := 10) (C := RX12) (T := TX12) (N := 14) (x := .ref tscity_o) X inx_12 hw rfl rfl 8 (by decide) rfl tw_516 rfl dX12_whom_27 ?_
    refine k_getN (q0 := 2) (ci := 0) (C := RX1) (T := TX1) (N := 18) (host := "PloughCall") (x := .int (tscity_term)) X inx_1 hw rfl rfl 4 (by decide) rfl nw_47 rfl dX12_whom_30 ?_
    obtain ⟨r33, hc_33, hf⟩ := bd_some hf
    refine k_V (As := [.ref tscity_o, .ref tsnow_o, .int (x1), .int (tscity_term)]) (rest := []) (index := 218) (C := RX2) X (c_X2_soonest hc_33) tw_1074 tw_1075 tw_1076 tw_122 tw_1077 ⟨rfl, rfl⟩ hd_X2_soonest ⟨Nat.le_of_ble_eq_true rfl, Nat.le_of_ble_eq_true rfl⟩ ⟨Nat.zero_le _, Nat.zero_le _⟩ hw [17, 18, 19, 20, 21, 22, 2, 3, 4, 5, 6, 7, 8, 9, 10, 11, 12, 13, 14, 15, 16, 23, 24, 25, 26] rfl rfl 17 rfl rfl rfl rfl hl.1 rfl (Nat.le_of_ble_eq_true rfl) dX12_whom_33 (fun H locs hw => ?_)
    have hw : Wd E A s.heap (wX12 E t_o t_q t_tape t_reader (.ref tscounsel_o) (.ref tsnow_o) t_trial t_past t_reports t_marks (.ref tscity_o) t_spareCity t_script t_spareScript t_firstRefused t_firstKept ++ (wX1 E tscity_o tscity_q tscity_men tscity_consuls tscity_dangers tscity_decrees tscity_term tscity_termTold tscity_manNames tscity_kinds tscity_skills tscity_fields tscity_wants tscity_hated tscity_dangerNames tscity_sizes tscity_grows tscity_decreeNames tscity_grounds (.ref tscityslaws_o) ++ (wX3 E tscityslaws_o tscityslaws_q tscityslaws_ops r33.2 tscityslaws_size tscityslaws_worksFrom tscityslaws_worksTo tscityslaws_keepsFrom tscityslaws_keepsTo ++ (wX2 E tscounsel_o tscounsel_q tscounsel_path tscounsel_row tscounsel_leastRow tscounsel_needed tscounsel_likeSizes tscounsel_ways tscounsel_nextWays tscounsel_least tscounsel_ended tscounsel_monthsKept ++ (wX9 E tsnow_o tsnow_q tsnow_month tsnow_power tsnow_master tsnow_left tsnow_kept tsnow_passed tsnow_sizes tsnow_fields tsnow_liked))))) H locs := hw
    obtain rfl := Option.some.inj hf
    exact k_iret X hw dX12_whom_36
  · have hf := (if_pos c_8).symm.trans hf
    refine lv_iconst (v := (-1 : Int32)) hx hb dX12_whom_11 (by decide) ?_
    obtain rfl := Option.some.inj hf
    exact k_iret X hw dX12_whom_12
/-! public int terms(int); -/
def f_X12_terms (tscity_men : Int32) (tscity_consuls : Int32) (tscity_dangers : Int32) (tscity_kinds : (Nat → Int32)) (tscity_skills : (Nat → Int32)) (tscity_wants : (Nat → Int32)) (tscity_hated : (Nat → Int32)) (tscity_grows : (Nat → Int32)) (tscityslaws_ops : (Nat → Int32)) (tscityslaws_stack : (Nat → Int32)) (tscityslaws_worksFrom : Int32) (tscityslaws_worksTo : Int32) (tscityslaws_keepsFrom : Int32) (tscityslaws_keepsTo : Int32) (tsnow_sizes : (Nat → Int32)) (tsnow_liked : (Nat → Int32)) (x1 : Int32) : Option (Int32 × (Nat → Int32)) := if (f_X1_hasDanger tscity_dangers (x1)) = (0 : Int32) then some ((-1 : Int32), tscityslaws_stack)
  else (f_X2_soonest tscity_men tscity_consuls tscity_dangers tscity_kinds tscity_skills tscity_wants tscity_hated tscity_grows tscityslaws_ops tscityslaws_stack tscityslaws_worksFrom tscityslaws_worksTo tscityslaws_keepsFrom tscityslaws_keepsTo tsnow_sizes tsnow_liked (x1) ((12 : Int32))).bind fun r28 => if r28.1 = (-1 : Int32) then some ((-1 : Int32), r28.2)
  else (f_X1_monthsToEnd tscity_kinds tscity_skills tscity_wants tscityslaws_ops r28.2 tscityslaws_worksFrom tscityslaws_worksTo tscityslaws_keepsFrom tscityslaws_keepsTo (r28.1) ((ga (5) tsnow_sizes (x1)))).bind fun r56 => some ((imax (1 : Int32) r56.1), r56.2)
abbrev rm_X12_terms : Room := { frames := 5, cells := 0, slots := 0, locals := 131 }
theorem hd_X12_terms : yX12_terms.cls = RX12 ∧ yX12_terms.cls ≠ "java/lang/invoke/MethodHandle" ∧ yX12_terms.cls ≠ "java/lang/invoke/VarHandle" ∧ (parseMethodDescriptor yX12_terms.desc).map (fun d => d.parameters.length) = some 1 := by decide +kernel
set_option maxRecDepth 100000 in
set_option maxHeartbeats 4000000 in
theorem c_X12_terms {E : En} {l : Launch} {t_o : Nat} {t_q : Nat → Nat} {t_tape : Value} {t_reader : Value} {t_trial : Value} {t_past : Value} {t_reports : Value} {t_marks : (Nat → Option Nat)} {t_spareCity : Value} {t_script : Value} {t_spareScript : Value} {t_firstRefused : Int32} {t_firstKept : Int32} {tscity_o : Nat} {tscity_q : Nat → Nat} {tscity_men : Int32} {tscity_consuls : Int32} {tscity_dangers : Int32} {tscity_decrees : Int32} {tscity_term : Int32} {tscity_termTold : Int32} {tscity_manNames : (Nat → Int64)} {tscity_kinds : (Nat → Int32)} {tscity_skills : (Nat → Int32)} {tscity_fields : (Nat → Int32)} {tscity_wants : (Nat → Int32)} {tscity_hated : (Nat → Int32)} {tscity_dangerNames : (Nat → Int64)} {tscity_sizes : (Nat → Int32)} {tscity_grows : (Nat → Int32)} {tscity_decreeNames : (Nat → Int64)} {tscity_grounds : (Nat → Int32)} {tscityslaws_o : Nat} {tscityslaws_q : Nat → Nat} {tscityslaws_ops : (Nat → Int32)} {tscityslaws_stack : (Nat → Int32)} {tscityslaws_size : Int32} {tscityslaws_worksFrom : Int32} {tscityslaws_worksTo : Int32} {tscityslaws_keepsFrom : Int32} {tscityslaws_keepsTo : Int32} {tscounsel_o : Nat} {tscounsel_q : Nat → Nat} {tscounsel_path : (Nat → Option Nat)} {tscounsel_row : (Nat → Int32)} {tscounsel_leastRow : (Nat → Int32)} {tscounsel_needed : (Nat → Int32)} {tscounsel_likeSizes : (Nat → Int32)} {tscounsel_ways : Value} {tscounsel_nextWays : Value} {tscounsel_least : Int32} {tscounsel_ended : Int32} {tscounsel_monthsKept : Int32} {tsnow_o : Nat} {tsnow_q : Nat → Nat} {tsnow_month : Int32} {tsnow_power : Int32} {tsnow_master : Int32} {tsnow_left : Int32} {tsnow_kept : Int32} {tsnow_passed : Int32} {tsnow_sizes : (Nat → Int32)} {tsnow_fields : (Nat → Int32)} {tsnow_liked : (Nat → Int32)} {x1 : Int32} {out : Int32 × (Nat → Int32)} (hf : f_X12_terms tscity_men tscity_consuls tscity_dangers tscity_kinds tscity_skills tscity_wants tscity_hated tscity_grows tscityslaws_ops tscityslaws_stack tscityslaws_worksFrom tscityslaws_worksTo tscityslaws_keepsFrom tscityslaws_keepsTo tsnow_sizes tsnow_liked x1 = some out) : Cn E l yX12_terms cX12_terms 3 (some .int) rm_X12_terms [.ref t_o, .int (x1)] (wX12 E t_o t_q t_tape t_reader (.ref tscounsel_o) (.ref tsnow_o) t_trial t_past t_reports t_marks (.ref tscity_o) t_spareCity t_script t_spareScript t_firstRefused t_firstKept ++ (wX1 E tscity_o tscity_q tscity_men tscity_consuls tscity_dangers tscity_decrees tscity_term tscity_termTold tscity_manNames tscity_kinds tscity_skills tscity_fields tscity_wants tscity_hated tscity_dangerNames tscity_sizes tscity_grows tscity_decreeNames tscity_grounds (.ref tscityslaws_o) ++ (wX3 E tscityslaws_o tscityslaws_q tscityslaws_ops tscityslaws_stack tscityslaws_size tscityslaws_worksFrom tscityslaws_worksTo tscityslaws_keepsFrom tscityslaws_keepsTo ++ (wX2 E tscounsel_o tscounsel_q tscounsel_path tscounsel_row tscounsel_leastRow tscounsel_needed tscounsel_likeSizes tscounsel_ways tscounsel_nextWays tscounsel_least tscounsel_ended tscounsel_monthsKept ++ (wX9 E tsnow_o tsnow_q tsnow_month tsnow_power tsnow_master tsnow_left tsnow_kept tsnow_passed tsnow_sizes tsnow_fields tsnow_liked))))) (some (.int out.1)) (wX12 E t_o t_q t_tape t_reader (.ref tscounsel_o) (.ref tsnow_o) t_trial t_past t_reports t_marks (.ref tscity_o) t_spareCity t_script t_spareScript t_firstRefused t_firstKept ++ (wX1 E tscity_o tscity_q tscity_men tscity_consuls tscity_dangers tscity_decrees tscity_term tscity_termTold tscity_manNames tscity_kinds tscity_skills tscity_fields tscity_wants tscity_hated tscity_dangerNames tscity_sizes tscity_grows tscity_decreeNames tscity_grounds (.ref tscityslaws_o) ++ (wX3 E tscityslaws_o tscityslaws_q tscityslaws_ops out.2 tscityslaws_size tscityslaws_worksFrom tscityslaws_worksTo tscityslaws_keepsFrom tscityslaws_keepsTo ++ (wX2 E tscounsel_o tscounsel_q tscounsel_path tscounsel_row tscounsel_leastRow tscounsel_needed tscounsel_likeSizes tscounsel_ways tscounsel_nextWays tscounsel_least tscounsel_ended tscounsel_monthsKept ++ (wX9 E tsnow_o tsnow_q tsnow_month tsnow_power tsnow_master tsnow_left tsnow_kept tsnow_passed tsnow_sizes tsnow_fields tsnow_liked))))) := by
  refine Cn.of (by decide) (Nat.le_of_ble_eq_true rfl) rfl ?_
  intro p e s m below meth c A ls args H locs X hw hl
  have hx := X.1.1
  have hb := X.1.2.1
  have ho := X.1.2.2.2.1
  have hts := X.1.2.2.2.2
  have hl : lv_has ls 3 [(0, .ref t_o), (1, .int (x1))] := hl
  unfold f_X12_terms at hf
  refine lv_aload_n hx hb dX12_terms_0 rfl (lv_at hl 0 rfl) ?_
  refine k_get (q0 := 0) (ci := 10) (C := RX12) (T := TX12) (N := 14) (x := .ref tscity_o) X inx_12 hw rfl rfl 8 (by decide) rfl tw_516 rfl dX12_terms_1 ?_
  refine lv_iload_n hx hb dX12_terms_4 rfl (lv_at hl 1 rfl) ?_
  refine k_V (As := [.int (x1)]) (rest := []) (index := 147) (C := RX1) X (c_X1_hasDanger (out := (f_X1_hasDanger tscity_dangers (x1))) rfl) tw_883 tw_884 tw_885 tw_126 tw_886 ⟨rfl, rfl⟩ hd_X1_hasDanger ⟨Nat.le_of_ble_eq_true rfl, Nat.le_of_ble_eq_true rfl⟩ ⟨Nat.zero_le _, Nat.zero_le _⟩ hw [2, 3, 4, 5, 6, 7, 8, 9, 10, 11, 12, 13] rfl rfl 2 rfl rfl rfl rfl hl.1 rfl (Nat.le_of_ble_eq_true rfl) dX12_terms_5 (fun H locs hw => ?_)
  have hw : Wd E A s.heap (wX12 E t_o t_q t_tape t_reader (.ref tscounsel_o) (.ref tsnow_o) t_trial t_past t_reports t_marks (.ref tscity_o) t_spareCity t_script t_spareScript t_firstRefused t_firstKept ++ (wX1 E tscity_o tscity_q tscity_men tscity_consuls tscity_dangers tscity_decrees tscity_term tscity_termTold tscity_manNames tscity_kinds tscity_skills tscity_fields tscity_wants tscity_hated tscity_dangerNames tscity_sizes tscity_grows tscity_decreeNames tscity_grounds (.ref tscityslaws_o) ++ (wX3 E tscityslaws_o tscityslaws_q tscityslaws_ops tscityslaws_stack tscityslaws_size tscityslaws_worksFrom tscityslaws_worksTo tscityslaws_keepsFrom tscityslaws_keepsTo ++ (wX2 E tscounsel_o tscounsel_q tscounsel_path tscounsel_row tscounsel_leastRow tscounsel_needed tscounsel_likeSizes tscounsel_ways tscounsel_nextWays tscounsel_least tscounsel_ended tscounsel_monthsKept ++ (wX9 E tsnow_o tsnow_q tsnow_month tsnow_power tsnow_master tsnow_left tsnow_kept tsnow_passed tsnow_sizes tsnow_fields tsnow_liked))))) H locs := hw
  refine lv_if_ne (tgt := 13) hx hb dX12_terms_8 (by decide) (fun c_8 => ?_) (fun c_8 => ?_)
  · have hf := (if_neg c_8).symm.trans hf
    refine lv_aload_n hx hb dX12_terms_13 rfl (lv_at hl 0 rfl) ?_
    refine k_get (q0 := 0) (ci := 10) (C := RX12) (T := TX12) (N := 14) (x := .ref tscounsel_o) X inx_12 hw rfl rfl 2 (by decide) rfl tw_510 rfl dX12_terms_14 ?_
    refine lv_aload_n hx hb dX12_terms_17 rfl (lv_at hl 0 rfl) ?_
    refine k_get (q0 := 0) (ci := 10) (C := RX12) (T := TX12) (N := 14) (x := .ref tscity_o) X inx_12 hw rfl rfl 8 (by decide) rfl tw_516 rfl dX12_terms_18 ?_
    refine lv_aload_n hx hb dX12_terms_21 rfl (lv_at hl 0 rfl) ?_
    refine k_get (q0 := 0) (ci := 10) (C := RX12) (T := TX12) (N := 14) (x := .ref tsnow_o) X inx_12 hw rfl rfl 3 (by decide) rfl tw_511 rfl dX12_terms_22 ?_
    refine lv_iload_n hx hb dX12_terms_25 rfl (lv_at hl 1 rfl) ?_
    refine lv_bipush (v := (12 : Int32)) hx hb dX12_terms_26 (by decide) ?_
    obtain ⟨r28, hc_28, hf⟩ := bd_some hf
    refine k_V (As := [.ref tscity_o, .ref tsnow_o, .int (x1), .int ((12 : Int32))]) (rest := []) (index := 218) (C := RX2) X (c_X2_soonest hc_28) tw_1074 tw_1075 tw_1076 tw_122 tw_1077 ⟨rfl, rfl⟩ hd_X2_soonest ⟨Nat.le_of_ble_eq_true rfl, Nat.le_of_ble_eq_true rfl⟩ ⟨Nat.zero_le _, Nat.zero_le _⟩ hw [17, 18, 19, 20, 21, 22, 2, 3, 4, 5, 6, 7, 8, 9, 10, 11, 12, 13, 14, 15, 16, 23, 24, 25, 26] rfl rfl 17 rfl rfl rfl rfl hl.1 rfl (Nat.le_of_ble_eq_true rfl) dX12_terms_28 (fun H locs hw => ?_)
    have hw : Wd E A s.heap (wX12 E t_o t_q t_tape t_reader (.ref tscounsel_o) (.ref tsnow_o) t_trial t_past t_reports t_marks (.ref tscity_o) t_spareCity t_script t_spareScript t_firstRefused t_firstKept ++ (wX1 E tscity_o tscity_q tscity_men tscity_consuls tscity_dangers tscity_decrees tscity_term tscity_termTold tscity_manNames tscity_kinds tscity_skills tscity_fields tscity_wants tscity_hated tscity_dangerNames tscity_sizes tscity_grows tscity_decreeNames tscity_grounds (.ref tscityslaws_o) ++ (wX3 E tscityslaws_o tscityslaws_q tscityslaws_ops r28.2 tscityslaws_size tscityslaws_worksFrom tscityslaws_worksTo tscityslaws_keepsFrom tscityslaws_keepsTo ++ (wX2 E tscounsel_o tscounsel_q tscounsel_path tscounsel_row tscounsel_leastRow tscounsel_needed tscounsel_likeSizes tscounsel_ways tscounsel_nextWays tscounsel_least tscounsel_ended tscounsel_monthsKept ++ (wX9 E tsnow_o tsnow_q tsnow_month tsnow_power tsnow_master tsnow_left tsnow_kept tsnow_passed tsnow_sizes tsnow_fields tsnow_liked))))) H locs := hw
    refine lv_istore_n (lv' := [(2, .int (r28.1)), (0, .ref t_o), (1, .int (x1))]) hx hb dX12_terms_31 rfl hl (by decide) rfl (fun ls hl => ?_)
    refine lv_iload_n hx hb dX12_terms_32 rfl (lv_at hl 0 rfl) ?_
    refine lv_iconst (v := (-1 : Int32)) hx hb dX12_terms_33 (by decide) ?_
    refine lv_icmp_ne (tgt := 39) hx hb dX12_terms_34 (by decide) (fun c_34 => ?_) (fun c_34 => ?_)
    · have hf := (if_neg c_34).symm.trans hf
      refine lv_iconst (v := (1 : Int32)) hx hb dX12_terms_39 (by decide) ?_
      refine lv_aload_n hx hb dX12_terms_40 rfl (lv_at hl 1 rfl) ?_
      refine k_get (q0 := 0) (ci := 10) (C := RX12) (T := TX12) (N := 14) (x := .ref tscity_o) X inx_12 hw rfl rfl 8 (by decide) rfl tw_516 rfl dX12_terms_41 ?_
      refine lv_iload_n hx hb dX12_terms_44 rfl (lv_at hl 0 rfl) ?_
      refine lv_aload_n hx hb dX12_terms_45 rfl (lv_at hl 1 rfl) ?_
      refine k_get (q0 := 0) (ci := 10) (C := RX12) (T := TX12) (N := 14) (x := .ref tsnow_o) X inx_12 hw rfl rfl 3 (by decide) rfl tw_511 rfl dX12_terms_46 ?_
      refine k_getN (q0 := 23) (ci := 8) (C := RX9) (T := TX9) (N := 9) (host := "PloughCall") (x := .ref (tsnow_q 6)) X inx_9 hw rfl rfl 6 (by decide) rfl nw_17 rfl dX12_terms_49 ?_
      refine lv_iload_n hx hb dX12_terms_52 rfl (lv_at hl 2 rfl) ?_
      refine k_S (As := [.ref (tsnow_q 6), .int (x1)]) (rest := [.int (r28.1), .ref tscity_o, .int ((1 : Int32))]) (index := 128) X (ct_X12_at (out := (ga (5) tsnow_sizes (x1))) rfl) tw_877 tw_591 tw_119 tw_592 ⟨rfl, rfl⟩ hd_X12_at ⟨Nat.le_of_ble_eq_true rfl, Nat.le_of_ble_eq_true rfl⟩ ⟨Nat.zero_le _, Nat.zero_le _⟩ hw [24] rfl rfl rfl hl.1 rfl (Nat.le_of_ble_eq_true rfl) dX12_terms_53 (fun H locs hw => ?_)
      have hw : Wd E A s.heap (wX12 E t_o t_q t_tape t_reader (.ref tscounsel_o) (.ref tsnow_o) t_trial t_past t_reports t_marks (.ref tscity_o) t_spareCity t_script t_spareScript t_firstRefused t_firstKept ++ (wX1 E tscity_o tscity_q tscity_men tscity_consuls tscity_dangers tscity_decrees tscity_term tscity_termTold tscity_manNames tscity_kinds tscity_skills tscity_fields tscity_wants tscity_hated tscity_dangerNames tscity_sizes tscity_grows tscity_decreeNames tscity_grounds (.ref tscityslaws_o) ++ (wX3 E tscityslaws_o tscityslaws_q tscityslaws_ops r28.2 tscityslaws_size tscityslaws_worksFrom tscityslaws_worksTo tscityslaws_keepsFrom tscityslaws_keepsTo ++ (wX2 E tscounsel_o tscounsel_q tscounsel_path tscounsel_row tscounsel_leastRow tscounsel_needed tscounsel_likeSizes tscounsel_ways tscounsel_nextWays tscounsel_least tscounsel_ended tscounsel_monthsKept ++ (wX9 E tsnow_o tsnow_q tsnow_month tsnow_power tsnow_master tsnow_left tsnow_kept tsnow_passed tsnow_sizes tsnow_fields tsnow_liked))))) H locs := hw
      obtain ⟨r56, hc_56, hf⟩ := bd_some hf
      refine k_V (As := [.int (r28.1), .int ((ga (5) tsnow_sizes (x1)))]) (rest := [.int ((1 : Int32))]) (index := 211) (C := RX1) X (c_X1_monthsToEnd hc_56) tw_1065 tw_1066 tw_1067 tw_126 tw_1068 ⟨rfl, rfl⟩ hd_X1_monthsToEnd ⟨Nat.le_of_ble_eq_true rfl, Nat.le_of_ble_eq_true rfl⟩ ⟨Nat.zero_le _, Nat.zero_le _⟩ hw [2, 3, 4, 5, 6, 7, 8, 9, 10, 11, 12, 13, 14, 15, 16] rfl rfl 2 rfl rfl rfl rfl hl.1 rfl (Nat.le_of_ble_eq_true rfl) dX12_terms_56 (fun H locs hw => ?_)
      have hw : Wd E A s.heap (wX12 E t_o t_q t_tape t_reader (.ref tscounsel_o) (.ref tsnow_o) t_trial t_past t_reports t_marks (.ref tscity_o) t_spareCity t_script t_spareScript t_firstRefused t_firstKept ++ (wX1 E tscity_o tscity_q tscity_men tscity_consuls tscity_dangers tscity_decrees tscity_term tscity_termTold tscity_manNames tscity_kinds tscity_skills tscity_fields tscity_wants tscity_hated tscity_dangerNames tscity_sizes tscity_grows tscity_decreeNames tscity_grounds (.ref tscityslaws_o) ++ (wX3 E tscityslaws_o tscityslaws_q tscityslaws_ops r56.2 tscityslaws_size tscityslaws_worksFrom tscityslaws_worksTo tscityslaws_keepsFrom tscityslaws_keepsTo ++ (wX2 E tscounsel_o tscounsel_q tscounsel_path tscounsel_row tscounsel_leastRow tscounsel_needed tscounsel_likeSizes tscounsel_ways tscounsel_nextWays tscounsel_least tscounsel_ended tscounsel_monthsKept ++ (wX9 E tsnow_o tsnow_q tsnow_month tsnow_power tsnow_master tsnow_left tsnow_kept tsnow_passed tsnow_sizes tsnow_fields tsnow_liked))))) H locs := hw
      refine k_max (index := 222) X tw_1100 tw_977 tw_135 tw_978 (Nat.le_of_ble_eq_true rfl) (Nat.le_of_ble_eq_true rfl) ⟨Nat.zero_le _, Nat.zero_le _⟩ hl.1 dX12_terms_59 ?_
      obtain rfl := Option.some.inj hf
      exact k_iret X hw dX12_terms_62
    · have hf := (if_pos c_34).symm.trans hf
      refine lv_iconst (v := (-1 : Int32)) hx hb dX12_terms_37 (by decide) ?_
      obtain rfl := Option.some.inj hf
      exact k_iret X hw dX12_terms_38
  · have hf := (if_pos c_8).symm.trans hf
    refine lv_iconst (v := (-1 : Int32)) hx hb dX12_terms_11 (by decide) ?_
    obtain rfl := Option.some.inj hf
    exact k_iret X hw dX12_terms_12
