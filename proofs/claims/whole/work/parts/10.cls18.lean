/-! int soonest(PloughCall$City, PloughCall$Standing, int, int); -/
def f_X2_soonest_76 (K9 : Int32 → Int32 → Int32 → (Nat → Int32) → (Nat → Int32) → (Nat → Int32) → (Nat → Int32) → (Nat → Int32) → (Nat → Int32) → (Nat → Int32) → Int32 → Int32 → Int32 → Int32 → (Nat → Int32) → (Nat → Int32) → Int32 → Int32 → Int32 → Int32 → Int32 → Option (Int32 × (Nat → Int32))) (p1_men : Int32) (p1_consuls : Int32) (p1_dangers : Int32) (p1_kinds : (Nat → Int32)) (p1_skills : (Nat → Int32)) (p1_wants : (Nat → Int32)) (p1_hated : (Nat → Int32)) (p1_grows : (Nat → Int32)) (p1slaws_ops : (Nat → Int32)) (p1slaws_stack : (Nat → Int32)) (p1slaws_worksFrom : Int32) (p1slaws_worksTo : Int32) (p1slaws_keepsFrom : Int32) (p1slaws_keepsTo : Int32) (p2_sizes : (Nat → Int32)) (p2_liked : (Nat → Int32)) (x3 : Int32) (x4 : Int32) (x5 : Int32) (x6 : Int32) (x7 : Int32) (x8 : Int32) : Option (Int32 × (Nat → Int32)) := (f_X2_wouldKeepThen p1_dangers p1_kinds p1_skills p1_wants p1_grows p1slaws_ops p1slaws_stack p1slaws_worksFrom p1slaws_worksTo p1slaws_keepsFrom p1slaws_keepsTo p2_sizes p2_liked (x7) (x3) (x8)).bind fun r84 => if r84.1 = (0 : Int32) then K9 p1_men p1_consuls p1_dangers p1_kinds p1_skills p1_wants p1_hated p1_grows p1slaws_ops r84.2 p1slaws_worksFrom p1slaws_worksTo p1slaws_keepsFrom p1slaws_keepsTo p2_sizes p2_liked x3 x4 x7 x8 ((x7 + (1 : Int32)))
  else K9 p1_men p1_consuls p1_dangers p1_kinds p1_skills p1_wants p1_hated p1_grows p1slaws_ops r84.2 p1slaws_worksFrom p1slaws_worksTo p1slaws_keepsFrom p1slaws_keepsTo p2_sizes p2_liked x3 x4 x5 x6 ((x7 + (1 : Int32)))
def f_X2_soonest_45 (K9 : Int32 → Int32 → Int32 → (Nat → Int32) → (Nat → Int32) → (Nat → Int32) → (Nat → Int32) → (Nat → Int32) → (Nat → Int32) → (Nat → Int32) → Int32 → Int32 → Int32 → Int32 → (Nat → Int32) → (Nat → Int32) → Int32 → Int32 → Int32 → Int32 → Int32 → Option (Int32 × (Nat → Int32))) (p1_men : Int32) (p1_consuls : Int32) (p1_dangers : Int32) (p1_kinds : (Nat → Int32)) (p1_skills : (Nat → Int32)) (p1_wants : (Nat → Int32)) (p1_hated : (Nat → Int32)) (p1_grows : (Nat → Int32)) (p1slaws_ops : (Nat → Int32)) (p1slaws_stack : (Nat → Int32)) (p1slaws_worksFrom : Int32) (p1slaws_worksTo : Int32) (p1slaws_keepsFrom : Int32) (p1slaws_keepsTo : Int32) (p2_sizes : (Nat → Int32)) (p2_liked : (Nat → Int32)) (x3 : Int32) (x4 : Int32) (x5 : Int32) (x6 : Int32) (x7 : Int32) (s0 : Int32) : Option (Int32 × (Nat → Int32)) := if s0 = (-1 : Int32) then K9 p1_men p1_consuls p1_dangers p1_kinds p1_skills p1_wants p1_hated p1_grows p1slaws_ops p1slaws_stack p1slaws_worksFrom p1slaws_worksTo p1slaws_keepsFrom p1slaws_keepsTo p2_sizes p2_liked x3 x4 x5 x6 ((x7 + (1 : Int32)))
  else if x4 < s0 then K9 p1_men p1_consuls p1_dangers p1_kinds p1_skills p1_wants p1_hated p1_grows p1slaws_ops p1slaws_stack p1slaws_worksFrom p1slaws_worksTo p1slaws_keepsFrom p1slaws_keepsTo p2_sizes p2_liked x3 x4 x5 x6 ((x7 + (1 : Int32)))
  else if x5 = (-1 : Int32) then f_X2_soonest_76 K9 p1_men p1_consuls p1_dangers p1_kinds p1_skills p1_wants p1_hated p1_grows p1slaws_ops p1slaws_stack p1slaws_worksFrom p1slaws_worksTo p1slaws_keepsFrom p1slaws_keepsTo p2_sizes p2_liked x3 x4 x5 x6 x7 s0
  else if s0 < x6 then f_X2_soonest_76 K9 p1_men p1_consuls p1_dangers p1_kinds p1_skills p1_wants p1_hated p1_grows p1slaws_ops p1slaws_stack p1slaws_worksFrom p1slaws_worksTo p1slaws_keepsFrom p1slaws_keepsTo p2_sizes p2_liked x3 x4 x5 x6 x7 s0
  else K9 p1_men p1_consuls p1_dangers p1_kinds p1_skills p1_wants p1_hated p1_grows p1slaws_ops p1slaws_stack p1slaws_worksFrom p1slaws_worksTo p1slaws_keepsFrom p1slaws_keepsTo p2_sizes p2_liked x3 x4 x5 x6 ((x7 + (1 : Int32)))
def f_X2_soonest_9 : Nat → Int32 → Int32 → Int32 → (Nat → Int32) → (Nat → Int32) → (Nat → Int32) → (Nat → Int32) → (Nat → Int32) → (Nat → Int32) → (Nat → Int32) → Int32 → Int32 → Int32 → Int32 → (Nat → Int32) → (Nat → Int32) → Int32 → Int32 → Int32 → Int32 → Int32 → Option (Int32 × (Nat → Int32))
  | 0, _, _, _, _, _, _, _, _, _, _, _, _, _, _, _, _, _, _, _, _, _ => none
  | n + 1, p1_men, p1_consuls, p1_dangers, p1_kinds, p1_skills, p1_wants, p1_hated, p1_grows, p1slaws_ops, p1slaws_stack, p1slaws_worksFrom, p1slaws_worksTo, p1slaws_keepsFrom, p1slaws_keepsTo, p2_sizes, p2_liked, x3, x4, x5, x6, x7 => if p1_men ≤ x7 then some (x5, p1slaws_stack)
    else (f_X1_someConsulCouldName p1_men p1_consuls p1_hated (x7)).bind fun r21 => if r21 = (0 : Int32) then f_X2_soonest_45 (f_X2_soonest_9 n) p1_men p1_consuls p1_dangers p1_kinds p1_skills p1_wants p1_hated p1_grows p1slaws_ops p1slaws_stack p1slaws_worksFrom p1slaws_worksTo p1slaws_keepsFrom p1slaws_keepsTo p2_sizes p2_liked x3 x4 x5 x6 x7 ((-1 : Int32))
    else (f_X1_monthsToEnd p1_kinds p1_skills p1_wants p1slaws_ops p1slaws_stack p1slaws_worksFrom p1slaws_worksTo p1slaws_keepsFrom p1slaws_keepsTo (x7) ((ga (5) p2_sizes (x3)))).bind fun r38 => f_X2_soonest_45 (f_X2_soonest_9 n) p1_men p1_consuls p1_dangers p1_kinds p1_skills p1_wants p1_hated p1_grows p1slaws_ops r38.2 p1slaws_worksFrom p1slaws_worksTo p1slaws_keepsFrom p1slaws_keepsTo p2_sizes p2_liked x3 x4 x5 x6 x7 r38.1
def f_X2_soonest (p1_men : Int32) (p1_consuls : Int32) (p1_dangers : Int32) (p1_kinds : (Nat → Int32)) (p1_skills : (Nat → Int32)) (p1_wants : (Nat → Int32)) (p1_hated : (Nat → Int32)) (p1_grows : (Nat → Int32)) (p1slaws_ops : (Nat → Int32)) (p1slaws_stack : (Nat → Int32)) (p1slaws_worksFrom : Int32) (p1slaws_worksTo : Int32) (p1slaws_keepsFrom : Int32) (p1slaws_keepsTo : Int32) (p2_sizes : (Nat → Int32)) (p2_liked : (Nat → Int32)) (x3 : Int32) (x4 : Int32) : Option (Int32 × (Nat → Int32)) := f_X2_soonest_9 1100 p1_men p1_consuls p1_dangers p1_kinds p1_skills p1_wants p1_hated p1_grows p1slaws_ops p1slaws_stack p1slaws_worksFrom p1slaws_worksTo p1slaws_keepsFrom p1slaws_keepsTo p2_sizes p2_liked x3 x4 ((-1 : Int32)) ((0 : Int32)) ((0 : Int32))
abbrev rm_X2_soonest : Room := { frames := 4, cells := 0, slots := 0, locals := 103 }
theorem hd_X2_soonest : yX2_soonest.cls = RX2 ∧ yX2_soonest.cls ≠ "java/lang/invoke/MethodHandle" ∧ yX2_soonest.cls ≠ "java/lang/invoke/VarHandle" ∧ (parseMethodDescriptor yX2_soonest.desc).map (fun d => d.parameters.length) = some 4 := by decide +kernel
set_option maxRecDepth 100000 in
set_option maxHeartbeats 4000000 in
theorem kb_X2_soonest_76 {E : En} {p : Program} {l : Launch} {e : Env} {s : State} {m : MethodId} {args : Array Value} {below : List Frame} {meth : Method} {c : Code} {A : Nat → Prop} {t_o : Nat} {t_q : Nat → Nat} {t_path : (Nat → Option Nat)} {t_row : (Nat → Int32)} {t_leastRow : (Nat → Int32)} {t_needed : (Nat → Int32)} {t_likeSizes : (Nat → Int32)} {t_ways : Value} {t_nextWays : Value} {t_least : Int32} {t_ended : Int32} {t_monthsKept : Int32} {p1_o : Nat} {p1_q : Nat → Nat} {p1_men : Int32} {p1_consuls : Int32} {p1_dangers : Int32} {p1_decrees : Int32} {p1_term : Int32} {p1_termTold : Int32} {p1_manNames : (Nat → Int64)} {p1_kinds : (Nat → Int32)} {p1_skills : (Nat → Int32)} {p1_fields : (Nat → Int32)} {p1_wants : (Nat → Int32)} {p1_hated : (Nat → Int32)} {p1_dangerNames : (Nat → Int64)} {p1_sizes : (Nat → Int32)} {p1_grows : (Nat → Int32)} {p1_decreeNames : (Nat → Int64)} {p1_grounds : (Nat → Int32)} {p1slaws_o : Nat} {p1slaws_q : Nat → Nat} {p1slaws_ops : (Nat → Int32)} {p1slaws_size : Int32} {p1slaws_worksFrom : Int32} {p1slaws_worksTo : Int32} {p1slaws_keepsFrom : Int32} {p1slaws_keepsTo : Int32} {p2_o : Nat} {p2_q : Nat → Nat} {p2_month : Int32} {p2_power : Int32} {p2_master : Int32} {p2_left : Int32} {p2_kept : Int32} {p2_passed : Int32} {p2_sizes : (Nat → Int32)} {p2_fields : (Nat → Int32)} {p2_liked : (Nat → Int32)} {out : Int32 × (Nat → Int32)} (X : Bx E A p s m args meth c cX2_soonest 9 RX2 (some .int)) {K9 : Int32 → Int32 → Int32 → (Nat → Int32) → (Nat → Int32) → (Nat → Int32) → (Nat → Int32) → (Nat → Int32) → (Nat → Int32) → (Nat → Int32) → Int32 → Int32 → Int32 → Int32 → (Nat → Int32) → (Nat → Int32) → Int32 → Int32 → Int32 → Int32 → Int32 → Option (Int32 × (Nat → Int32))} (hK9 : ∀ {p1slaws_stack : (Nat → Int32)} {x3 : Int32} {x4 : Int32} {x5 : Int32} {x6 : Int32} {x7 : Int32} {H : Heap} {locs : List Loc} {ls : Array Slot}, K9 p1_men p1_consuls p1_dangers p1_kinds p1_skills p1_wants p1_hated p1_grows p1slaws_ops p1slaws_stack p1slaws_worksFrom p1slaws_worksTo p1slaws_keepsFrom p1slaws_keepsTo p2_sizes p2_liked x3 x4 x5 x6 x7 = some out → Wd E A s.heap (wX2 E t_o t_q t_path t_row t_leastRow t_needed t_likeSizes t_ways t_nextWays t_least t_ended t_monthsKept ++ (wX1 E p1_o p1_q p1_men p1_consuls p1_dangers p1_decrees p1_term p1_termTold p1_manNames p1_kinds p1_skills p1_fields p1_wants p1_hated p1_dangerNames p1_sizes p1_grows p1_decreeNames p1_grounds (.ref p1slaws_o) ++ (wX3 E p1slaws_o p1slaws_q p1slaws_ops p1slaws_stack p1slaws_size p1slaws_worksFrom p1slaws_worksTo p1slaws_keepsFrom p1slaws_keepsTo ++ (wX9 E p2_o p2_q p2_month p2_power p2_master p2_left p2_kept p2_passed p2_sizes p2_fields p2_liked)))) H locs → lv_has ls 9 [(0, .ref t_o), (1, .ref p1_o), (2, .ref p2_o), (3, .int (x3)), (4, .int (x4)), (5, .int (x5)), (6, .int (x6)), (7, .int (x7))] → W p l e rm_X2_soonest s m args below meth c H locs 0 0 (Zn E below args s A (some (.int out.1)) (wX2 E t_o t_q t_path t_row t_leastRow t_needed t_likeSizes t_ways t_nextWays t_least t_ended t_monthsKept ++ (wX1 E p1_o p1_q p1_men p1_consuls p1_dangers p1_decrees p1_term p1_termTold p1_manNames p1_kinds p1_skills p1_fields p1_wants p1_hated p1_dangerNames p1_sizes p1_grows p1_decreeNames p1_grounds (.ref p1slaws_o) ++ (wX3 E p1slaws_o p1slaws_q p1slaws_ops out.2 p1slaws_size p1slaws_worksFrom p1slaws_worksTo p1slaws_keepsFrom p1slaws_keepsTo ++ (wX9 E p2_o p2_q p2_month p2_power p2_master p2_left p2_kept p2_passed p2_sizes p2_fields p2_liked))))) (F0 m 9 ls [])) {p1slaws_stack : (Nat → Int32)} {x3 : Int32} {x4 : Int32} {x5 : Int32} {x6 : Int32} {x7 : Int32} {x8 : Int32} {H : Heap} {locs : List Loc} {ls : Array Slot} (hf : f_X2_soonest_76 K9 p1_men p1_consuls p1_dangers p1_kinds p1_skills p1_wants p1_hated p1_grows p1slaws_ops p1slaws_stack p1slaws_worksFrom p1slaws_worksTo p1slaws_keepsFrom p1slaws_keepsTo p2_sizes p2_liked x3 x4 x5 x6 x7 x8 = some out) : Wd E A s.heap (wX2 E t_o t_q t_path t_row t_leastRow t_needed t_likeSizes t_ways t_nextWays t_least t_ended t_monthsKept ++ (wX1 E p1_o p1_q p1_men p1_consuls p1_dangers p1_decrees p1_term p1_termTold p1_manNames p1_kinds p1_skills p1_fields p1_wants p1_hated p1_dangerNames p1_sizes p1_grows p1_decreeNames p1_grounds (.ref p1slaws_o) ++ (wX3 E p1slaws_o p1slaws_q p1slaws_ops p1slaws_stack p1slaws_size p1slaws_worksFrom p1slaws_worksTo p1slaws_keepsFrom p1slaws_keepsTo ++ (wX9 E p2_o p2_q p2_month p2_power p2_master p2_left p2_kept p2_passed p2_sizes p2_fields p2_liked)))) H locs → lv_has ls 9 [(0, .ref t_o), (1, .ref p1_o), (2, .ref p2_o), (3, .int (x3)), (4, .int (x4)), (5, .int (x5)), (6, .int (x6)), (7, .int (x7)), (8, .int (x8))] → W p l e rm_X2_soonest s m args below meth c H locs 0 0 (Zn E below args s A (some (.int out.1)) (wX2 E t_o t_q t_path t_row t_leastRow t_needed t_likeSizes t_ways t_nextWays t_least t_ended t_monthsKept ++ (wX1 E p1_o p1_q p1_men p1_consuls p1_dangers p1_decrees p1_term p1_termTold p1_manNames p1_kinds p1_skills p1_fields p1_wants p1_hated p1_dangerNames p1_sizes p1_grows p1_decreeNames p1_grounds (.ref p1slaws_o) ++ (wX3 E p1slaws_o p1slaws_q p1slaws_ops out.2 p1slaws_size p1slaws_worksFrom p1slaws_worksTo p1slaws_keepsFrom p1slaws_keepsTo ++ (wX9 E p2_o p2_q p2_month p2_power p2_master p2_left p2_kept p2_passed p2_sizes p2_fields p2_liked))))) (F0 m 76 ls []) := by
  have hx := X.1.1
  have hb := X.1.2.1
  have ho := X.1.2.2.2.1
  have hts := X.1.2.2.2.2
  intro hw hl
  unfold f_X2_soonest_76 at hf
  refine lv_aload_n hx hb dX2_soonest_76 rfl (lv_at hl 0 rfl) ?_
  refine lv_aload_n hx hb dX2_soonest_77 rfl (lv_at hl 1 rfl) ?_
  refine lv_aload_n hx hb dX2_soonest_78 rfl (lv_at hl 2 rfl) ?_
  refine lv_iload hx hb dX2_soonest_79 (lv_at hl 7 rfl) ?_
  refine lv_iload_n hx hb dX2_soonest_81 rfl (lv_at hl 3 rfl) ?_
  refine lv_iload hx hb dX2_soonest_82 (lv_at hl 8 rfl) ?_
  obtain ⟨r84, hc_84, hf⟩ := bd_some hf
  refine k_V (As := [.ref p1_o, .ref p2_o, .int (x7), .int (x3), .int (x8)]) (rest := []) (index := 59) (C := RX2) X (c_X2_wouldKeepThen hc_84) tw_1085 tw_1087 tw_35 tw_122 tw_1088 ⟨rfl, rfl⟩ hd_X2_wouldKeepThen ⟨Nat.le_of_ble_eq_true rfl, Nat.le_of_ble_eq_true rfl⟩ ⟨Nat.zero_le _, Nat.zero_le _⟩ hw [0, 1, 2, 3, 4, 5, 6, 7, 8, 9, 10, 11, 12, 13, 14, 15, 16, 17, 18, 19, 20, 21, 22, 23, 24] rfl rfl 0 rfl rfl rfl rfl hl.1 rfl (Nat.le_of_ble_eq_true rfl) dX2_soonest_84 (fun H locs hw => ?_)
  have hw : Wd E A s.heap (wX2 E t_o t_q t_path t_row t_leastRow t_needed t_likeSizes t_ways t_nextWays t_least t_ended t_monthsKept ++ (wX1 E p1_o p1_q p1_men p1_consuls p1_dangers p1_decrees p1_term p1_termTold p1_manNames p1_kinds p1_skills p1_fields p1_wants p1_hated p1_dangerNames p1_sizes p1_grows p1_decreeNames p1_grounds (.ref p1slaws_o) ++ (wX3 E p1slaws_o p1slaws_q p1slaws_ops r84.2 p1slaws_size p1slaws_worksFrom p1slaws_worksTo p1slaws_keepsFrom p1slaws_keepsTo ++ (wX9 E p2_o p2_q p2_month p2_power p2_master p2_left p2_kept p2_passed p2_sizes p2_fields p2_liked)))) H locs := hw
  refine lv_if_ne (tgt := 98) hx hb dX2_soonest_87 (by decide) (fun c_87 => ?_) (fun c_87 => ?_)
  · have hf := (if_neg c_87).symm.trans hf
    refine lv_iinc (v := (x7 + (1 : Int32))) (lv' := [(7, .int ((x7 + (1 : Int32)))), (0, .ref t_o), (1, .ref p1_o), (2, .ref p2_o), (3, .int (x3)), (4, .int (x4)), (5, .int (x5)), (6, .int (x6)), (8, .int (x8))]) hx hb dX2_soonest_98 hl (k := 7) rfl rfl (by decide) rfl (fun ls hl => ?_)
    refine lv_goto (tgt := 9) hx hb dX2_soonest_101 (by decide) ?_
    exact hK9 hf hw (lv_sub hl [1, 2, 3, 4, 5, 6, 7, 0] rfl)
  · have hf := (if_pos c_87).symm.trans hf
    refine lv_iload hx hb dX2_soonest_90 (lv_at hl 7 rfl) ?_
    refine lv_istore (lv' := [(5, .int (x7)), (0, .ref t_o), (1, .ref p1_o), (2, .ref p2_o), (3, .int (x3)), (4, .int (x4)), (6, .int (x6)), (7, .int (x7)), (8, .int (x8))]) hx hb dX2_soonest_92 hl (by decide) rfl (fun ls hl => ?_)
    refine lv_iload hx hb dX2_soonest_94 (lv_at hl 8 rfl) ?_
    refine lv_istore (lv' := [(6, .int (x8)), (5, .int (x7)), (0, .ref t_o), (1, .ref p1_o), (2, .ref p2_o), (3, .int (x3)), (4, .int (x4)), (7, .int (x7)), (8, .int (x8))]) hx hb dX2_soonest_96 hl (by decide) rfl (fun ls hl => ?_)
    refine lv_iinc (v := (x7 + (1 : Int32))) (lv' := [(7, .int ((x7 + (1 : Int32)))), (6, .int (x8)), (5, .int (x7)), (0, .ref t_o), (1, .ref p1_o), (2, .ref p2_o), (3, .int (x3)), (4, .int (x4)), (8, .int (x8))]) hx hb dX2_soonest_98 hl (k := 7) rfl rfl (by decide) rfl (fun ls hl => ?_)
    refine lv_goto (tgt := 9) hx hb dX2_soonest_101 (by decide) ?_
    exact hK9 hf hw (lv_sub hl [3, 4, 5, 6, 7, 2, 1, 0] rfl)
set_option maxRecDepth 100000 in
set_option maxHeartbeats 4000000 in
theorem kb_X2_soonest_45 {E : En} {p : Program} {l : Launch} {e : Env} {s : State} {m : MethodId} {args : Array Value} {below : List Frame} {meth : Method} {c : Code} {A : Nat → Prop} {t_o : Nat} {t_q : Nat → Nat} {t_path : (Nat → Option Nat)} {t_row : (Nat → Int32)} {t_leastRow : (Nat → Int32)} {t_needed : (Nat → Int32)} {t_likeSizes : (Nat → Int32)} {t_ways : Value} {t_nextWays : Value} {t_least : Int32} {t_ended : Int32} {t_monthsKept : Int32} {p1_o : Nat} {p1_q : Nat → Nat} {p1_men : Int32} {p1_consuls : Int32} {p1_dangers : Int32} {p1_decrees : Int32} {p1_term : Int32} {p1_termTold : Int32} {p1_manNames : (Nat → Int64)} {p1_kinds : (Nat → Int32)} {p1_skills : (Nat → Int32)} {p1_fields : (Nat → Int32)} {p1_wants : (Nat → Int32)} {p1_hated : (Nat → Int32)} {p1_dangerNames : (Nat → Int64)} {p1_sizes : (Nat → Int32)} {p1_grows : (Nat → Int32)} {p1_decreeNames : (Nat → Int64)} {p1_grounds : (Nat → Int32)} {p1slaws_o : Nat} {p1slaws_q : Nat → Nat} {p1slaws_ops : (Nat → Int32)} {p1slaws_size : Int32} {p1slaws_worksFrom : Int32} {p1slaws_worksTo : Int32} {p1slaws_keepsFrom : Int32} {p1slaws_keepsTo : Int32} {p2_o : Nat} {p2_q : Nat → Nat} {p2_month : Int32} {p2_power : Int32} {p2_master : Int32} {p2_left : Int32} {p2_kept : Int32} {p2_passed : Int32} {p2_sizes : (Nat → Int32)} {p2_fields : (Nat → Int32)} {p2_liked : (Nat → Int32)} {out : Int32 × (Nat → Int32)} (X : Bx E A p s m args meth c cX2_soonest 9 RX2 (some .int)) {K9 : Int32 → Int32 → Int32 → (Nat → Int32) → (Nat → Int32) → (Nat → Int32) → (Nat → Int32) → (Nat → Int32) → (Nat → Int32) → (Nat → Int32) → Int32 → Int32 → Int32 → Int32 → (Nat → Int32) → (Nat → Int32) → Int32 → Int32 → Int32 → Int32 → Int32 → Option (Int32 × (Nat → Int32))} (hK9 : ∀ {p1slaws_stack : (Nat → Int32)} {x3 : Int32} {x4 : Int32} {x5 : Int32} {x6 : Int32} {x7 : Int32} {H : Heap} {locs : List Loc} {ls : Array Slot}, K9 p1_men p1_consuls p1_dangers p1_kinds p1_skills p1_wants p1_hated p1_grows p1slaws_ops p1slaws_stack p1slaws_worksFrom p1slaws_worksTo p1slaws_keepsFrom p1slaws_keepsTo p2_sizes p2_liked x3 x4 x5 x6 x7 = some out → Wd E A s.heap (wX2 E t_o t_q t_path t_row t_leastRow t_needed t_likeSizes t_ways t_nextWays t_least t_ended t_monthsKept ++ (wX1 E p1_o p1_q p1_men p1_consuls p1_dangers p1_decrees p1_term p1_termTold p1_manNames p1_kinds p1_skills p1_fields p1_wants p1_hated p1_dangerNames p1_sizes p1_grows p1_decreeNames p1_grounds (.ref p1slaws_o) ++ (wX3 E p1slaws_o p1slaws_q p1slaws_ops p1slaws_stack p1slaws_size p1slaws_worksFrom p1slaws_worksTo p1slaws_keepsFrom p1slaws_keepsTo ++ (wX9 E p2_o p2_q p2_month p2_power p2_master p2_left p2_kept p2_passed p2_sizes p2_fields p2_liked)))) H locs → lv_has ls 9 [(0, .ref t_o), (1, .ref p1_o), (2, .ref p2_o), (3, .int (x3)), (4, .int (x4)), (5, .int (x5)), (6, .int (x6)), (7, .int (x7))] → W p l e rm_X2_soonest s m args below meth c H locs 0 0 (Zn E below args s A (some (.int out.1)) (wX2 E t_o t_q t_path t_row t_leastRow t_needed t_likeSizes t_ways t_nextWays t_least t_ended t_monthsKept ++ (wX1 E p1_o p1_q p1_men p1_consuls p1_dangers p1_decrees p1_term p1_termTold p1_manNames p1_kinds p1_skills p1_fields p1_wants p1_hated p1_dangerNames p1_sizes p1_grows p1_decreeNames p1_grounds (.ref p1slaws_o) ++ (wX3 E p1slaws_o p1slaws_q p1slaws_ops out.2 p1slaws_size p1slaws_worksFrom p1slaws_worksTo p1slaws_keepsFrom p1slaws_keepsTo ++ (wX9 E p2_o p2_q p2_month p2_power p2_master p2_left p2_kept p2_passed p2_sizes p2_fields p2_liked))))) (F0 m 9 ls [])) {p1slaws_stack : (Nat → Int32)} {x3 : Int32} {x4 : Int32} {x5 : Int32} {x6 : Int32} {x7 : Int32} {s0 : Int32} {H : Heap} {locs : List Loc} {ls : Array Slot} (hf : f_X2_soonest_45 K9 p1_men p1_consuls p1_dangers p1_kinds p1_skills p1_wants p1_hated p1_grows p1slaws_ops p1slaws_stack p1slaws_worksFrom p1slaws_worksTo p1slaws_keepsFrom p1slaws_keepsTo p2_sizes p2_liked x3 x4 x5 x6 x7 s0 = some out) : Wd E A s.heap (wX2 E t_o t_q t_path t_row t_leastRow t_needed t_likeSizes t_ways t_nextWays t_least t_ended t_monthsKept ++ (wX1 E p1_o p1_q p1_men p1_consuls p1_dangers p1_decrees p1_term p1_termTold p1_manNames p1_kinds p1_skills p1_fields p1_wants p1_hated p1_dangerNames p1_sizes p1_grows p1_decreeNames p1_grounds (.ref p1slaws_o) ++ (wX3 E p1slaws_o p1slaws_q p1slaws_ops p1slaws_stack p1slaws_size p1slaws_worksFrom p1slaws_worksTo p1slaws_keepsFrom p1slaws_keepsTo ++ (wX9 E p2_o p2_q p2_month p2_power p2_master p2_left p2_kept p2_passed p2_sizes p2_fields p2_liked)))) H locs → lv_has ls 9 [(0, .ref t_o), (1, .ref p1_o), (2, .ref p2_o), (3, .int (x3)), (4, .int (x4)), (5, .int (x5)), (6, .int (x6)), (7, .int (x7))] → W p l e rm_X2_soonest s m args below meth c H locs 0 0 (Zn E below args s A (some (.int out.1)) (wX2 E t_o t_q t_path t_row t_leastRow t_needed t_likeSizes t_ways t_nextWays t_least t_ended t_monthsKept ++ (wX1 E p1_o p1_q p1_men p1_consuls p1_dangers p1_decrees p1_term p1_termTold p1_manNames p1_kinds p1_skills p1_fields p1_wants p1_hated p1_dangerNames p1_sizes p1_grows p1_decreeNames p1_grounds (.ref p1slaws_o) ++ (wX3 E p1slaws_o p1slaws_q p1slaws_ops out.2 p1slaws_size p1slaws_worksFrom p1slaws_worksTo p1slaws_keepsFrom p1slaws_keepsTo ++ (wX9 E p2_o p2_q p2_month p2_power p2_master p2_left p2_kept p2_passed p2_sizes p2_fields p2_liked))))) (F0 m 45 ls [.int (s0)]) := by
  have hx := X.1.1
  have hb := X.1.2.1
  have ho := X.1.2.2.2.1
  have hts := X.1.2.2.2.2
  intro hw hl
  unfold f_X2_soonest_45 at hf
  refine lv_istore (lv' := [(8, .int (s0)), (0, .ref t_o), (1, .ref p1_o), (2, .ref p2_o), (3, .int (x3)), (4, .int (x4)), (5, .int (x5)), (6, .int (x6)), (7, .int (x7))]) hx hb dX2_soonest_45 hl (by decide) rfl (fun ls hl => ?_)
  refine lv_iload hx hb dX2_soonest_47 (lv_at hl 0 rfl) ?_
  refine lv_iconst (v := (-1 : Int32)) hx hb dX2_soonest_49 (by decide) ?_
  refine lv_icmp_eq (tgt := 98) hx hb dX2_soonest_50 (by decide) (fun c_50 => ?_) (fun c_50 => ?_)
  · have hf := (if_pos c_50).symm.trans hf
    refine lv_iinc (v := (x7 + (1 : Int32))) (lv' := [(7, .int ((x7 + (1 : Int32)))), (8, .int (s0)), (0, .ref t_o), (1, .ref p1_o), (2, .ref p2_o), (3, .int (x3)), (4, .int (x4)), (5, .int (x5)), (6, .int (x6))]) hx hb dX2_soonest_98 hl (k := 8) rfl rfl (by decide) rfl (fun ls hl => ?_)
    refine lv_goto (tgt := 9) hx hb dX2_soonest_101 (by decide) ?_
    exact hK9 hf hw (lv_sub hl [2, 3, 4, 5, 6, 7, 8, 0] rfl)
  · have hf := (if_neg c_50).symm.trans hf
    refine lv_iload hx hb dX2_soonest_53 (lv_at hl 0 rfl) ?_
    refine lv_iload hx hb dX2_soonest_55 (lv_at hl 5 rfl) ?_
    refine lv_icmp_gt (tgt := 98) hx hb dX2_soonest_57 (by decide) (fun c_57 => ?_) (fun c_57 => ?_)
    · have hf := (if_pos c_57).symm.trans hf
      refine lv_iinc (v := (x7 + (1 : Int32))) (lv' := [(7, .int ((x7 + (1 : Int32)))), (8, .int (s0)), (0, .ref t_o), (1, .ref p1_o), (2, .ref p2_o), (3, .int (x3)), (4, .int (x4)), (5, .int (x5)), (6, .int (x6))]) hx hb dX2_soonest_98 hl (k := 8) rfl rfl (by decide) rfl (fun ls hl => ?_)
      refine lv_goto (tgt := 9) hx hb dX2_soonest_101 (by decide) ?_
      exact hK9 hf hw (lv_sub hl [2, 3, 4, 5, 6, 7, 8, 0] rfl)
    · have hf := (if_neg c_57).symm.trans hf
      refine lv_iload hx hb dX2_soonest_60 (lv_at hl 6 rfl) ?_
      refine lv_iconst (v := (-1 : Int32)) hx hb dX2_soonest_62 (by decide) ?_
      refine lv_icmp_eq (tgt := 76) hx hb dX2_soonest_63 (by decide) (fun c_63 => ?_) (fun c_63 => ?_)
      · have hf := (if_pos c_63).symm.trans hf
        exact kb_X2_soonest_76 X (fun hf hw hl => hK9 hf hw hl) hf hw (lv_sub hl [1, 2, 3, 4, 5, 6, 7, 8, 0] rfl)
      · have hf := (if_neg c_63).symm.trans hf
        refine lv_iload hx hb dX2_soonest_66 (lv_at hl 0 rfl) ?_
        refine lv_iload hx hb dX2_soonest_68 (lv_at hl 7 rfl) ?_
        refine lv_icmp_lt (tgt := 76) hx hb dX2_soonest_70 (by decide) (fun c_70 => ?_) (fun c_70 => ?_)
        · have hf := (if_pos c_70).symm.trans hf
          exact kb_X2_soonest_76 X (fun hf hw hl => hK9 hf hw hl) hf hw (lv_sub hl [1, 2, 3, 4, 5, 6, 7, 8, 0] rfl)
        · have hf := (if_neg c_70).symm.trans hf
          refine lv_goto (tgt := 98) hx hb dX2_soonest_73 (by decide) ?_
          refine lv_iinc (v := (x7 + (1 : Int32))) (lv' := [(7, .int ((x7 + (1 : Int32)))), (8, .int (s0)), (0, .ref t_o), (1, .ref p1_o), (2, .ref p2_o), (3, .int (x3)), (4, .int (x4)), (5, .int (x5)), (6, .int (x6))]) hx hb dX2_soonest_98 hl (k := 8) rfl rfl (by decide) rfl (fun ls hl => ?_)
          refine lv_goto (tgt := 9) hx hb dX2_soonest_101 (by decide) ?_
          exact hK9 hf hw (lv_sub hl [2, 3, 4, 5, 6, 7, 8, 0] rfl)
set_option maxRecDepth 100000 in
set_option maxHeartbeats 4000000 in
theorem kb_X2_soonest_9 {E : En} {p : Program} {l : Launch} {e : Env} {s : State} {m : MethodId} {args : Array Value} {below : List Frame} {meth : Method} {c : Code} {A : Nat → Prop} {t_o : Nat} {t_q : Nat → Nat} {t_path : (Nat → Option Nat)} {t_row : (Nat → Int32)} {t_leastRow : (Nat → Int32)} {t_needed : (Nat → Int32)} {t_likeSizes : (Nat → Int32)} {t_ways : Value} {t_nextWays : Value} {t_least : Int32} {t_ended : Int32} {t_monthsKept : Int32} {p1_o : Nat} {p1_q : Nat → Nat} {p1_men : Int32} {p1_consuls : Int32} {p1_dangers : Int32} {p1_decrees : Int32} {p1_term : Int32} {p1_termTold : Int32} {p1_manNames : (Nat → Int64)} {p1_kinds : (Nat → Int32)} {p1_skills : (Nat → Int32)} {p1_fields : (Nat → Int32)} {p1_wants : (Nat → Int32)} {p1_hated : (Nat → Int32)} {p1_dangerNames : (Nat → Int64)} {p1_sizes : (Nat → Int32)} {p1_grows : (Nat → Int32)} {p1_decreeNames : (Nat → Int64)} {p1_grounds : (Nat → Int32)} {p1slaws_o : Nat} {p1slaws_q : Nat → Nat} {p1slaws_ops : (Nat → Int32)} {p1slaws_size : Int32} {p1slaws_worksFrom : Int32} {p1slaws_worksTo : Int32} {p1slaws_keepsFrom : Int32} {p1slaws_keepsTo : Int32} {p2_o : Nat} {p2_q : Nat → Nat} {p2_month : Int32} {p2_power : Int32} {p2_master : Int32} {p2_left : Int32} {p2_kept : Int32} {p2_passed : Int32} {p2_sizes : (Nat → Int32)} {p2_fields : (Nat → Int32)} {p2_liked : (Nat → Int32)} {out : Int32 × (Nat → Int32)} (X : Bx E A p s m args meth c cX2_soonest 9 RX2 (some .int)) : ∀ (n : Nat) {p1slaws_stack : (Nat → Int32)} {x3 : Int32} {x4 : Int32} {x5 : Int32} {x6 : Int32} {x7 : Int32} {H : Heap} {locs : List Loc} {ls : Array Slot}, f_X2_soonest_9 n p1_men p1_consuls p1_dangers p1_kinds p1_skills p1_wants p1_hated p1_grows p1slaws_ops p1slaws_stack p1slaws_worksFrom p1slaws_worksTo p1slaws_keepsFrom p1slaws_keepsTo p2_sizes p2_liked x3 x4 x5 x6 x7 = some out → Wd E A s.heap (wX2 E t_o t_q t_path t_row t_leastRow t_needed t_likeSizes t_ways t_nextWays t_least t_ended t_monthsKept ++ (wX1 E p1_o p1_q p1_men p1_consuls p1_dangers p1_decrees p1_term p1_termTold p1_manNames p1_kinds p1_skills p1_fields p1_wants p1_hated p1_dangerNames p1_sizes p1_grows p1_decreeNames p1_grounds (.ref p1slaws_o) ++ (wX3 E p1slaws_o p1slaws_q p1slaws_ops p1slaws_stack p1slaws_size p1slaws_worksFrom p1slaws_worksTo p1slaws_keepsFrom p1slaws_keepsTo ++ (wX9 E p2_o p2_q p2_month p2_power p2_master p2_left p2_kept p2_passed p2_sizes p2_fields p2_liked)))) H locs → lv_has ls 9 [(0, .ref t_o), (1, .ref p1_o), (2, .ref p2_o), (3, .int (x3)), (4, .int (x4)), (5, .int (x5)), (6, .int (x6)), (7, .int (x7))] → W p l e rm_X2_soonest s m args below meth c H locs 0 0 (Zn E below args s A (some (.int out.1)) (wX2 E t_o t_q t_path t_row t_leastRow t_needed t_likeSizes t_ways t_nextWays t_least t_ended t_monthsKept ++ (wX1 E p1_o p1_q p1_men p1_consuls p1_dangers p1_decrees p1_term p1_termTold p1_manNames p1_kinds p1_skills p1_fields p1_wants p1_hated p1_dangerNames p1_sizes p1_grows p1_decreeNames p1_grounds (.ref p1slaws_o) ++ (wX3 E p1slaws_o p1slaws_q p1slaws_ops out.2 p1slaws_size p1slaws_worksFrom p1slaws_worksTo p1slaws_keepsFrom p1slaws_keepsTo ++ (wX9 E p2_o p2_q p2_month p2_power p2_master p2_left p2_kept p2_passed p2_sizes p2_fields p2_liked))))) (F0 m 9 ls []) := by
  have hx := X.1.1
  have hb := X.1.2.1
  have ho := X.1.2.2.2.1
  have hts := X.1.2.2.2.2
  intro n
  induction n with
  | zero =>
    intro p1slaws_stack x3 x4 x5 x6 x7 H locs ls hf
    have hf : (none : Option (Int32 × (Nat → Int32))) = some out := hf
    cases hf
  | succ n ih =>
    intro p1slaws_stack x3 x4 x5 x6 x7 H locs ls hf hw hl
    rw [f_X2_soonest_9.eq_2] at hf
    refine lv_iload hx hb dX2_soonest_9 (lv_at hl 7 rfl) ?_
    refine lv_aload_n hx hb dX2_soonest_11 rfl (lv_at hl 1 rfl) ?_
    refine k_getN (q0 := 6) (ci := 0) (C := RX1) (T := TX1) (N := 18) (host := "PloughCall") (x := .int (p1_men)) X inx_1 hw rfl rfl 0 (by decide) rfl nw_32 rfl dX2_soonest_12 ?_
    refine lv_icmp_ge (tgt := 104) hx hb dX2_soonest_15 (by decide) (fun c_15 => ?_) (fun c_15 => ?_)
    · have hf := (if_pos c_15).symm.trans hf
      refine lv_iload hx hb dX2_soonest_104 (lv_at hl 5 rfl) ?_
      obtain rfl := Option.some.inj hf
      exact k_iret X hw dX2_soonest_106
    · have hf := (if_neg c_15).symm.trans hf
      refine lv_aload_n hx hb dX2_soonest_18 rfl (lv_at hl 1 rfl) ?_
      refine lv_iload hx hb dX2_soonest_19 (lv_at hl 7 rfl) ?_
      obtain ⟨r21, hc_21, hf⟩ := bd_some hf
      refine k_V (As := [.int (x7)]) (rest := []) (index := 44) (C := RX1) X (c_X1_someConsulCouldName hc_21) tw_1078 tw_1079 tw_1080 tw_126 tw_1081 ⟨rfl, rfl⟩ hd_X1_someConsulCouldName ⟨Nat.le_of_ble_eq_true rfl, Nat.le_of_ble_eq_true rfl⟩ ⟨Nat.zero_le _, Nat.zero_le _⟩ hw [6, 7, 8, 9, 10, 11, 12, 13, 14, 15, 16, 17] rfl rfl 6 rfl rfl rfl rfl hl.1 rfl (Nat.le_of_ble_eq_true rfl) dX2_soonest_21 (fun H locs hw => ?_)
      have hw : Wd E A s.heap (wX2 E t_o t_q t_path t_row t_leastRow t_needed t_likeSizes t_ways t_nextWays t_least t_ended t_monthsKept ++ (wX1 E p1_o p1_q p1_men p1_consuls p1_dangers p1_decrees p1_term p1_termTold p1_manNames p1_kinds p1_skills p1_fields p1_wants p1_hated p1_dangerNames p1_sizes p1_grows p1_decreeNames p1_grounds (.ref p1slaws_o) ++ (wX3 E p1slaws_o p1slaws_q p1slaws_ops p1slaws_stack p1slaws_size p1slaws_worksFrom p1slaws_worksTo p1slaws_keepsFrom p1slaws_keepsTo ++ (wX9 E p2_o p2_q p2_month p2_power p2_master p2_left p2_kept p2_passed p2_sizes p2_fields p2_liked)))) H locs := hw
      refine lv_if_eq (tgt := 44) hx hb dX2_soonest_24 (by decide) (fun c_24 => ?_) (fun c_24 => ?_)
      · have hf := (if_pos c_24).symm.trans hf
        refine lv_iconst (v := (-1 : Int32)) hx hb dX2_soonest_44 (by decide) ?_
        exact kb_X2_soonest_45 X (fun hf hw hl => ih hf hw hl) hf hw (lv_sub hl [0, 1, 2, 3, 4, 5, 6, 7] rfl)
      · have hf := (if_neg c_24).symm.trans hf
        refine lv_aload_n hx hb dX2_soonest_27 rfl (lv_at hl 1 rfl) ?_
        refine lv_iload hx hb dX2_soonest_28 (lv_at hl 7 rfl) ?_
        refine lv_aload_n hx hb dX2_soonest_30 rfl (lv_at hl 2 rfl) ?_
        refine k_getN (q0 := 21) (ci := 8) (C := RX9) (T := TX9) (N := 9) (host := "PloughCall") (x := .ref (p2_q 6)) X inx_9 hw rfl rfl 6 (by decide) rfl nw_16 rfl dX2_soonest_31 ?_
        refine lv_iload_n hx hb dX2_soonest_34 rfl (lv_at hl 3 rfl) ?_
        refine k_SN (As := [.ref (p2_q 6), .int (x3)]) (rest := [.int (x7), .ref p1_o]) (host := "PloughCall") (index := 51) X (ct_X12_at (out := (ga (5) p2_sizes (x3))) rfl) nw_91 tw_119 tw_591 tw_592 ⟨rfl, rfl⟩ hd_X12_at.2 ⟨Nat.le_of_ble_eq_true rfl, Nat.le_of_ble_eq_true rfl⟩ ⟨Nat.zero_le _, Nat.zero_le _⟩ hw [22] rfl rfl rfl hl.1 rfl (Nat.le_of_ble_eq_true rfl) dX2_soonest_35 (fun H locs hw => ?_)
        have hw : Wd E A s.heap (wX2 E t_o t_q t_path t_row t_leastRow t_needed t_likeSizes t_ways t_nextWays t_least t_ended t_monthsKept ++ (wX1 E p1_o p1_q p1_men p1_consuls p1_dangers p1_decrees p1_term p1_termTold p1_manNames p1_kinds p1_skills p1_fields p1_wants p1_hated p1_dangerNames p1_sizes p1_grows p1_decreeNames p1_grounds (.ref p1slaws_o) ++ (wX3 E p1slaws_o p1slaws_q p1slaws_ops p1slaws_stack p1slaws_size p1slaws_worksFrom p1slaws_worksTo p1slaws_keepsFrom p1slaws_keepsTo ++ (wX9 E p2_o p2_q p2_month p2_power p2_master p2_left p2_kept p2_passed p2_sizes p2_fields p2_liked)))) H locs := hw
        obtain ⟨r38, hc_38, hf⟩ := bd_some hf
        refine k_V (As := [.int (x7), .int ((ga (5) p2_sizes (x3)))]) (rest := []) (index := 55) (C := RX1) X (c_X1_monthsToEnd hc_38) tw_1084 tw_1066 tw_1067 tw_126 tw_1068 ⟨rfl, rfl⟩ hd_X1_monthsToEnd ⟨Nat.le_of_ble_eq_true rfl, Nat.le_of_ble_eq_true rfl⟩ ⟨Nat.zero_le _, Nat.zero_le _⟩ hw [6, 7, 8, 9, 10, 11, 12, 13, 14, 15, 16, 17, 18, 19, 20] rfl rfl 6 rfl rfl rfl rfl hl.1 rfl (Nat.le_of_ble_eq_true rfl) dX2_soonest_38 (fun H locs hw => ?_)
        have hw : Wd E A s.heap (wX2 E t_o t_q t_path t_row t_leastRow t_needed t_likeSizes t_ways t_nextWays t_least t_ended t_monthsKept ++ (wX1 E p1_o p1_q p1_men p1_consuls p1_dangers p1_decrees p1_term p1_termTold p1_manNames p1_kinds p1_skills p1_fields p1_wants p1_hated p1_dangerNames p1_sizes p1_grows p1_decreeNames p1_grounds (.ref p1slaws_o) ++ (wX3 E p1slaws_o p1slaws_q p1slaws_ops r38.2 p1slaws_size p1slaws_worksFrom p1slaws_worksTo p1slaws_keepsFrom p1slaws_keepsTo ++ (wX9 E p2_o p2_q p2_month p2_power p2_master p2_left p2_kept p2_passed p2_sizes p2_fields p2_liked)))) H locs := hw
        refine lv_goto (tgt := 45) hx hb dX2_soonest_41 (by decide) ?_
        exact kb_X2_soonest_45 X (fun hf hw hl => ih hf hw hl) hf hw (lv_sub hl [0, 1, 2, 3, 4, 5, 6, 7] rfl)
set_option maxRecDepth 100000 in
set_option maxHeartbeats 4000000 in
theorem c_X2_soonest {E : En} {l : Launch} {t_o : Nat} {t_q : Nat → Nat} {t_path : (Nat → Option Nat)} {t_row : (Nat → Int32)} {t_leastRow : (Nat → Int32)} {t_needed : (Nat → Int32)} {t_likeSizes : (Nat → Int32)} {t_ways : Value} {t_nextWays : Value} {t_least : Int32} {t_ended : Int32} {t_monthsKept : Int32} {p1_o : Nat} {p1_q : Nat → Nat} {p1_men : Int32} {p1_consuls : Int32} {p1_dangers : Int32} {p1_decrees : Int32} {p1_term : Int32} {p1_termTold : Int32} {p1_manNames : (Nat → Int64)} {p1_kinds : (Nat → Int32)} {p1_skills : (Nat → Int32)} {p1_fields : (Nat → Int32)} {p1_wants : (Nat → Int32)} {p1_hated : (Nat → Int32)} {p1_dangerNames : (Nat → Int64)} {p1_sizes : (Nat → Int32)} {p1_grows : (Nat → Int32)} {p1_decreeNames : (Nat → Int64)} {p1_grounds : (Nat → Int32)} {p1slaws_o : Nat} {p1slaws_q : Nat → Nat} {p1slaws_ops : (Nat → Int32)} {p1slaws_stack : (Nat → Int32)} {p1slaws_size : Int32} {p1slaws_worksFrom : Int32} {p1slaws_worksTo : Int32} {p1slaws_keepsFrom : Int32} {p1slaws_keepsTo : Int32} {p2_o : Nat} {p2_q : Nat → Nat} {p2_month : Int32} {p2_power : Int32} {p2_master : Int32} {p2_left : Int32} {p2_kept : Int32} {p2_passed : Int32} {p2_sizes : (Nat → Int32)} {p2_fields : (Nat → Int32)} {p2_liked : (Nat → Int32)} {x3 : Int32} {x4 : Int32} {out : Int32 × (Nat → Int32)} (hf : f_X2_soonest p1_men p1_consuls p1_dangers p1_kinds p1_skills p1_wants p1_hated p1_grows p1slaws_ops p1slaws_stack p1slaws_worksFrom p1slaws_worksTo p1slaws_keepsFrom p1slaws_keepsTo p2_sizes p2_liked x3 x4 = some out) : Cn E l yX2_soonest cX2_soonest 9 (some .int) rm_X2_soonest [.ref t_o, .ref p1_o, .ref p2_o, .int (x3), .int (x4)] (wX2 E t_o t_q t_path t_row t_leastRow t_needed t_likeSizes t_ways t_nextWays t_least t_ended t_monthsKept ++ (wX1 E p1_o p1_q p1_men p1_consuls p1_dangers p1_decrees p1_term p1_termTold p1_manNames p1_kinds p1_skills p1_fields p1_wants p1_hated p1_dangerNames p1_sizes p1_grows p1_decreeNames p1_grounds (.ref p1slaws_o) ++ (wX3 E p1slaws_o p1slaws_q p1slaws_ops p1slaws_stack p1slaws_size p1slaws_worksFrom p1slaws_worksTo p1slaws_keepsFrom p1slaws_keepsTo ++ (wX9 E p2_o p2_q p2_month p2_power p2_master p2_left p2_kept p2_passed p2_sizes p2_fields p2_liked)))) (some (.int out.1)) (wX2 E t_o t_q t_path t_row t_leastRow t_needed t_likeSizes t_ways t_nextWays t_least t_ended t_monthsKept ++ (wX1 E p1_o p1_q p1_men p1_consuls p1_dangers p1_decrees p1_term p1_termTold p1_manNames p1_kinds p1_skills p1_fields p1_wants p1_hated p1_dangerNames p1_sizes p1_grows p1_decreeNames p1_grounds (.ref p1slaws_o) ++ (wX3 E p1slaws_o p1slaws_q p1slaws_ops out.2 p1slaws_size p1slaws_worksFrom p1slaws_worksTo p1slaws_keepsFrom p1slaws_keepsTo ++ (wX9 E p2_o p2_q p2_month p2_power p2_master p2_left p2_kept p2_passed p2_sizes p2_fields p2_liked)))) := by
  refine Cn.of (by decide) (Nat.le_of_ble_eq_true rfl) rfl ?_
  intro p e s m below meth c A ls args H locs X hw hl
  have hx := X.1.1
  have hb := X.1.2.1
  have ho := X.1.2.2.2.1
  have hts := X.1.2.2.2.2
  have hl : lv_has ls 9 [(0, .ref t_o), (1, .ref p1_o), (2, .ref p2_o), (3, .int (x3)), (4, .int (x4))] := hl
  unfold f_X2_soonest at hf
  refine lv_iconst (v := (-1 : Int32)) hx hb dX2_soonest_0 (by decide) ?_
  refine lv_istore (lv' := [(5, .int ((-1 : Int32))), (0, .ref t_o), (1, .ref p1_o), (2, .ref p2_o), (3, .int (x3)), (4, .int (x4))]) hx hb dX2_soonest_1 hl (by decide) rfl (fun ls hl => ?_)
  refine lv_iconst (v := (0 : Int32)) hx hb dX2_soonest_3 (by decide) ?_
  refine lv_istore (lv' := [(6, .int ((0 : Int32))), (5, .int ((-1 : Int32))), (0, .ref t_o), (1, .ref p1_o), (2, .ref p2_o), (3, .int (x3)), (4, .int (x4))]) hx hb dX2_soonest_4 hl (by decide) rfl (fun ls hl => ?_)
  refine lv_iconst (v := (0 : Int32)) hx hb dX2_soonest_6 (by decide) ?_
  refine lv_istore (lv' := [(7, .int ((0 : Int32))), (6, .int ((0 : Int32))), (5, .int ((-1 : Int32))), (0, .ref t_o), (1, .ref p1_o), (2, .ref p2_o), (3, .int (x3)), (4, .int (x4))]) hx hb dX2_soonest_7 hl (by decide) rfl (fun ls hl => ?_)
  exact kb_X2_soonest_9 X 1100 hf hw (lv_sub hl [3, 4, 5, 6, 7, 2, 1, 0] rfl)
/-! int chanceToEnd(PloughCall$City, int, int, int, int, int); -/
def f_X2_chanceToEnd_100056 (K56 : (Nat → Int64) → (Nat → Int64) → (Nat → Int32) → (Nat → Int32) → (Nat → Int32) → (Nat → Int32) → (Nat → Int32) → (Nat → Int32) → Int32 → Int32 → Int32 → Int32 → Int32 → Int32 → Int32 → Int32 → Int64 → Int32 → Option (Int32 × (Nat → Int64) × (Nat → Int64) × (Nat → Int32) × Bool)) (tsnextWays_f : (Nat → Int64)) (tsways_f : (Nat → Int64)) (p1_kinds : (Nat → Int32)) (p1_skills : (Nat → Int32)) (p1_wants : (Nat → Int32)) (p1_grows : (Nat → Int32)) (p1slaws_ops : (Nat → Int32)) (p1slaws_stack : (Nat → Int32)) (p1slaws_worksFrom : Int32) (p1slaws_worksTo : Int32) (p1slaws_keepsFrom : Int32) (p1slaws_keepsTo : Int32) (x2 : Int32) (x3 : Int32) (x5 : Int32) (x6 : Int32) (x7 : Int64) (x9 : Int32) : Option (Int32 × (Nat → Int64) × (Nat → Int64) × (Nat → Int32) × Bool) := if x6 ≤ x9 then if (lg_cmp x7 (0 : Int64)) ≤ (0 : Int32) then some ((0 : Int32), tsnextWays_f, tsways_f, p1slaws_stack, true)
    else if (100 : Int32) ≤ (0 : Int32) then some ((0 : Int32), tsnextWays_f, tsways_f, p1slaws_stack, true)
    else gd ((0 : Int32)) 100 (ngl (x7) (some ((((((tsnextWays_f ((0 : Int32)).toNatClampNeg) * (1000000 : Int64)) / x7)).toInt32), tsnextWays_f, tsways_f, p1slaws_stack, true)))
  else (f_X2_spread tsways_f tsnextWays_f p1_kinds p1_skills p1_wants p1slaws_ops p1slaws_stack p1slaws_worksFrom p1slaws_worksTo p1slaws_keepsFrom p1slaws_keepsTo (x2) ((ga (5) p1_grows (x3))) (x5) (x9)).bind fun r78 => K56 tsnextWays_f r78.1 p1_kinds p1_skills p1_wants p1_grows p1slaws_ops r78.2 p1slaws_worksFrom p1slaws_worksTo p1slaws_keepsFrom p1slaws_keepsTo x2 x3 x5 x6 ((x7 * (10 : Int64))) ((x9 + (1 : Int32)))
def f_X2_chanceToEnd_56 : Nat → (Nat → Int64) → (Nat → Int64) → (Nat → Int32) → (Nat → Int32) → (Nat → Int32) → (Nat → Int32) → (Nat → Int32) → (Nat → Int32) → Int32 → Int32 → Int32 → Int32 → Int32 → Int32 → Int32 → Int32 → Int64 → Int32 → Option (Int32 × (Nat → Int64) × (Nat → Int64) × (Nat → Int32) × Bool)
  | 0, _, _, _, _, _, _, _, _, _, _, _, _, _, _, _, _, _, _ => none
  | n + 1, tsnextWays_f, tsways_f, p1_kinds, p1_skills, p1_wants, p1_grows, p1slaws_ops, p1slaws_stack, p1slaws_worksFrom, p1slaws_worksTo, p1slaws_keepsFrom, p1slaws_keepsTo, x2, x3, x5, x6, x7, x9 => if x6 ≤ x9 then if (lg_cmp x7 (0 : Int64)) ≤ (0 : Int32) then some ((0 : Int32), tsnextWays_f, tsways_f, p1slaws_stack, false)
      else if (100 : Int32) ≤ (0 : Int32) then some ((0 : Int32), tsnextWays_f, tsways_f, p1slaws_stack, false)
      else gd ((0 : Int32)) 100 (ngl (x7) (some ((((((tsways_f ((0 : Int32)).toNatClampNeg) * (1000000 : Int64)) / x7)).toInt32), tsnextWays_f, tsways_f, p1slaws_stack, false)))
    else (f_X2_spread tsnextWays_f tsways_f p1_kinds p1_skills p1_wants p1slaws_ops p1slaws_stack p1slaws_worksFrom p1slaws_worksTo p1slaws_keepsFrom p1slaws_keepsTo (x2) ((ga (5) p1_grows (x3))) (x5) (x9)).bind fun r78 => f_X2_chanceToEnd_100056 (f_X2_chanceToEnd_56 n) r78.1 tsways_f p1_kinds p1_skills p1_wants p1_grows p1slaws_ops r78.2 p1slaws_worksFrom p1slaws_worksTo p1slaws_keepsFrom p1slaws_keepsTo x2 x3 x5 x6 ((x7 * (10 : Int64))) ((x9 + (1 : Int32)))
def f_X2_chanceToEnd_3 : Nat → (Nat → Int64) → (Nat → Int64) → (Nat → Int32) → (Nat → Int32) → (Nat → Int32) → (Nat → Int32) → (Nat → Int32) → (Nat → Int32) → Int32 → Int32 → Int32 → Int32 → Int32 → Int32 → Int32 → Int32 → Int32 → Int32 → Option (Int32 × (Nat → Int64) × (Nat → Int64) × (Nat → Int32) × Bool)
  | 0, _, _, _, _, _, _, _, _, _, _, _, _, _, _, _, _, _, _ => none
  | n + 1, tsnextWays_f, tsways_f, p1_kinds, p1_skills, p1_wants, p1_grows, p1slaws_ops, p1slaws_stack, p1slaws_worksFrom, p1slaws_worksTo, p1slaws_keepsFrom, p1slaws_keepsTo, x2, x3, x4, x5, x6, x7 => if (100 : Int32) ≤ x7 then if x4 < (0 : Int32) then f_X2_chanceToEnd_56 1100 tsnextWays_f tsways_f p1_kinds p1_skills p1_wants p1_grows p1slaws_ops p1slaws_stack p1slaws_worksFrom p1slaws_worksTo p1slaws_keepsFrom p1slaws_keepsTo x2 x3 x5 x6 ((1 : Int64)) ((0 : Int32))
      else if (100 : Int32) ≤ x4 then f_X2_chanceToEnd_56 1100 tsnextWays_f tsways_f p1_kinds p1_skills p1_wants p1_grows p1slaws_ops p1slaws_stack p1slaws_worksFrom p1slaws_worksTo p1slaws_keepsFrom p1slaws_keepsTo x2 x3 x5 x6 ((1 : Int64)) ((0 : Int32))
      else gd (x4) 100 (f_X2_chanceToEnd_56 1100 tsnextWays_f (vp_updL tsways_f (x4).toNatClampNeg ((1 : Int64))) p1_kinds p1_skills p1_wants p1_grows p1slaws_ops p1slaws_stack p1slaws_worksFrom p1slaws_worksTo p1slaws_keepsFrom p1slaws_keepsTo x2 x3 x5 x6 ((1 : Int64)) ((0 : Int32)))
    else gd (x7) 100 (f_X2_chanceToEnd_3 n tsnextWays_f (vp_updL tsways_f (x7).toNatClampNeg ((0 : Int64))) p1_kinds p1_skills p1_wants p1_grows p1slaws_ops p1slaws_stack p1slaws_worksFrom p1slaws_worksTo p1slaws_keepsFrom p1slaws_keepsTo x2 x3 x4 x5 x6 ((x7 + (1 : Int32))))
def f_X2_chanceToEnd (tsnextWays_f : (Nat → Int64)) (tsways_f : (Nat → Int64)) (p1_kinds : (Nat → Int32)) (p1_skills : (Nat → Int32)) (p1_wants : (Nat → Int32)) (p1_grows : (Nat → Int32)) (p1slaws_ops : (Nat → Int32)) (p1slaws_stack : (Nat → Int32)) (p1slaws_worksFrom : Int32) (p1slaws_worksTo : Int32) (p1slaws_keepsFrom : Int32) (p1slaws_keepsTo : Int32) (x2 : Int32) (x3 : Int32) (x4 : Int32) (x5 : Int32) (x6 : Int32) : Option (Int32 × (Nat → Int64) × (Nat → Int64) × (Nat → Int32) × Bool) := f_X2_chanceToEnd_3 1100 tsnextWays_f tsways_f p1_kinds p1_skills p1_wants p1_grows p1slaws_ops p1slaws_stack p1slaws_worksFrom p1slaws_worksTo p1slaws_keepsFrom p1slaws_keepsTo x2 x3 x4 x5 x6 ((0 : Int32))
abbrev rm_X2_chanceToEnd : Room := { frames := 4, cells := 0, slots := 0, locals := 107 }
theorem hd_X2_chanceToEnd : yX2_chanceToEnd.cls = RX2 ∧ yX2_chanceToEnd.cls ≠ "java/lang/invoke/MethodHandle" ∧ yX2_chanceToEnd.cls ≠ "java/lang/invoke/VarHandle" ∧ (parseMethodDescriptor yX2_chanceToEnd.desc).map (fun d => d.parameters.length) = some 6 := by decide +kernel
set_option maxRecDepth 100000 in
set_option maxHeartbeats 4000000 in
theorem kb_X2_chanceToEnd_100056 {E : En} {p : Program} {l : Launch} {e : Env} {s : State} {m : MethodId} {args : Array Value} {below : List Frame} {meth : Method} {c : Code} {A : Nat → Prop} {t_o : Nat} {t_q : Nat → Nat} {t_path : (Nat → Option Nat)} {t_row : (Nat → Int32)} {t_leastRow : (Nat → Int32)} {t_needed : (Nat → Int32)} {t_likeSizes : (Nat → Int32)} {t_least : Int32} {t_ended : Int32} {t_monthsKept : Int32} {tsnextWays_o : Nat} {tsways_o : Nat} {p1_o : Nat} {p1_q : Nat → Nat} {p1_men : Int32} {p1_consuls : Int32} {p1_dangers : Int32} {p1_decrees : Int32} {p1_term : Int32} {p1_termTold : Int32} {p1_manNames : (Nat → Int64)} {p1_kinds : (Nat → Int32)} {p1_skills : (Nat → Int32)} {p1_fields : (Nat → Int32)} {p1_wants : (Nat → Int32)} {p1_hated : (Nat → Int32)} {p1_dangerNames : (Nat → Int64)} {p1_sizes : (Nat → Int32)} {p1_grows : (Nat → Int32)} {p1_decreeNames : (Nat → Int64)} {p1_grounds : (Nat → Int32)} {p1slaws_o : Nat} {p1slaws_q : Nat → Nat} {p1slaws_ops : (Nat → Int32)} {p1slaws_size : Int32} {p1slaws_worksFrom : Int32} {p1slaws_worksTo : Int32} {p1slaws_keepsFrom : Int32} {p1slaws_keepsTo : Int32} {out : Int32 × (Nat → Int64) × (Nat → Int64) × (Nat → Int32) × Bool} (X : Bx E A p s m args meth c cX2_chanceToEnd 10 RX2 (some .int)) {K56 : (Nat → Int64) → (Nat → Int64) → (Nat → Int32) → (Nat → Int32) → (Nat → Int32) → (Nat → Int32) → (Nat → Int32) → (Nat → Int32) → Int32 → Int32 → Int32 → Int32 → Int32 → Int32 → Int32 → Int32 → Int64 → Int32 → Option (Int32 × (Nat → Int64) × (Nat → Int64) × (Nat → Int32) × Bool)} (hK56 : ∀ {tsnextWays_f : (Nat → Int64)} {tsways_f : (Nat → Int64)} {p1slaws_stack : (Nat → Int32)} {x2 : Int32} {x3 : Int32} {x5 : Int32} {x6 : Int32} {x7 : Int64} {x9 : Int32} {H : Heap} {locs : List Loc} {ls : Array Slot}, K56 tsnextWays_f tsways_f p1_kinds p1_skills p1_wants p1_grows p1slaws_ops p1slaws_stack p1slaws_worksFrom p1slaws_worksTo p1slaws_keepsFrom p1slaws_keepsTo x2 x3 x5 x6 x7 x9 = some out → Wd E A s.heap (wX2 E t_o t_q t_path t_row t_leastRow t_needed t_likeSizes (.ref tsways_o) (.ref tsnextWays_o) t_least t_ended t_monthsKept ++ (wL E tsnextWays_o 100 tsnextWays_f ++ (wL E tsways_o 100 tsways_f ++ (wX1 E p1_o p1_q p1_men p1_consuls p1_dangers p1_decrees p1_term p1_termTold p1_manNames p1_kinds p1_skills p1_fields p1_wants p1_hated p1_dangerNames p1_sizes p1_grows p1_decreeNames p1_grounds (.ref p1slaws_o) ++ (wX3 E p1slaws_o p1slaws_q p1slaws_ops p1slaws_stack p1slaws_size p1slaws_worksFrom p1slaws_worksTo p1slaws_keepsFrom p1slaws_keepsTo))))) H locs → lv_has ls 10 [(0, .ref t_o), (1, .ref p1_o), (2, .int (x2)), (3, .int (x3)), (5, .int (x5)), (6, .int (x6)), (7, .long (x7)), (9, .int (x9))] → W p l e rm_X2_chanceToEnd s m args below meth c H locs 0 0 (Zn E below args s A (some (.int out.1)) (wX2 E t_o t_q t_path t_row t_leastRow t_needed t_likeSizes (cond out.2.2.2.2 (.ref tsnextWays_o) (.ref tsways_o)) (cond out.2.2.2.2 (.ref tsways_o) (.ref tsnextWays_o)) t_least t_ended t_monthsKept ++ (wL E tsnextWays_o 100 out.2.1 ++ (wL E tsways_o 100 out.2.2.1 ++ (wX1 E p1_o p1_q p1_men p1_consuls p1_dangers p1_decrees p1_term p1_termTold p1_manNames p1_kinds p1_skills p1_fields p1_wants p1_hated p1_dangerNames p1_sizes p1_grows p1_decreeNames p1_grounds (.ref p1slaws_o) ++ (wX3 E p1slaws_o p1slaws_q p1slaws_ops out.2.2.2.1 p1slaws_size p1slaws_worksFrom p1slaws_worksTo p1slaws_keepsFrom p1slaws_keepsTo)))))) (F0 m 56 ls [])) {tsnextWays_f : (Nat → Int64)} {tsways_f : (Nat → Int64)} {p1slaws_stack : (Nat → Int32)} {x2 : Int32} {x3 : Int32} {x5 : Int32} {x6 : Int32} {x7 : Int64} {x9 : Int32} {H : Heap} {locs : List Loc} {ls : Array Slot} (hf : f_X2_chanceToEnd_100056 K56 tsnextWays_f tsways_f p1_kinds p1_skills p1_wants p1_grows p1slaws_ops p1slaws_stack p1slaws_worksFrom p1slaws_worksTo p1slaws_keepsFrom p1slaws_keepsTo x2 x3 x5 x6 x7 x9 = some out) : Wd E A s.heap (wX2 E t_o t_q t_path t_row t_leastRow t_needed t_likeSizes (.ref tsnextWays_o) (.ref tsways_o) t_least t_ended t_monthsKept ++ (wL E tsnextWays_o 100 tsnextWays_f ++ (wL E tsways_o 100 tsways_f ++ (wX1 E p1_o p1_q p1_men p1_consuls p1_dangers p1_decrees p1_term p1_termTold p1_manNames p1_kinds p1_skills p1_fields p1_wants p1_hated p1_dangerNames p1_sizes p1_grows p1_decreeNames p1_grounds (.ref p1slaws_o) ++ (wX3 E p1slaws_o p1slaws_q p1slaws_ops p1slaws_stack p1slaws_size p1slaws_worksFrom p1slaws_worksTo p1slaws_keepsFrom p1slaws_keepsTo))))) H locs → lv_has ls 10 [(0, .ref t_o), (1, .ref p1_o), (2, .int (x2)), (3, .int (x3)), (5, .int (x5)), (6, .int (x6)), (7, .long (x7)), (9, .int (x9))] → W p l e rm_X2_chanceToEnd s m args below meth c H locs 0 0 (Zn E below args s A (some (.int out.1)) (wX2 E t_o t_q t_path t_row t_leastRow t_needed t_likeSizes (cond out.2.2.2.2 (.ref tsnextWays_o) (.ref tsways_o)) (cond out.2.2.2.2 (.ref tsways_o) (.ref tsnextWays_o)) t_least t_ended t_monthsKept ++ (wL E tsnextWays_o 100 out.2.1 ++ (wL E tsways_o 100 out.2.2.1 ++ (wX1 E p1_o p1_q p1_men p1_consuls p1_dangers p1_decrees p1_term p1_termTold p1_manNames p1_kinds p1_skills p1_fields p1_wants p1_hated p1_dangerNames p1_sizes p1_grows p1_decreeNames p1_grounds (.ref p1slaws_o) ++ (wX3 E p1slaws_o p1slaws_q p1slaws_ops out.2.2.2.1 p1slaws_size p1slaws_worksFrom p1slaws_worksTo p1slaws_keepsFrom p1slaws_keepsTo)))))) (F0 m 56 ls []) := by
  have hx := X.1.1
  have hb := X.1.2.1
  have ho := X.1.2.2.2.1
  have hts := X.1.2.2.2.2
  intro hw hl
  unfold f_X2_chanceToEnd_100056 at hf
  refine lv_iload hx hb dX2_chanceToEnd_56 (lv_at hl 7 rfl) ?_
  refine lv_iload hx hb dX2_chanceToEnd_58 (lv_at hl 5 rfl) ?_
  refine lv_icmp_ge (tgt := 95) hx hb dX2_chanceToEnd_60 (by decide) (fun c_60 => ?_) (fun c_60 => ?_)
  · have hf := (if_pos c_60).symm.trans hf
    refine lv_lload hx hb dX2_chanceToEnd_95 (lv_at hl 6 rfl) ?_
    refine lv_lconst (v := (0 : Int64)) hx hb dX2_chanceToEnd_97 (by decide) ?_
    refine W.lcmp hx hb dX2_chanceToEnd_98 ?_
    refine lv_if_le (tgt := 127) hx hb dX2_chanceToEnd_99 (by decide) (fun c_99 => ?_) (fun c_99 => ?_)
    · have hf := (if_pos c_99).symm.trans hf
      refine lv_iconst (v := (0 : Int32)) hx hb dX2_chanceToEnd_127 (by decide) ?_
      obtain rfl := Option.some.inj hf
      exact k_iret X hw dX2_chanceToEnd_128
    · have hf := (if_neg c_99).symm.trans hf
      refine lv_aload_n hx hb dX2_chanceToEnd_102 rfl (lv_at hl 0 rfl) ?_
      refine k_get (q0 := 0) (ci := 1) (C := RX2) (T := TX2) (N := 10) (x := .ref tsnextWays_o) X inx_2 hw rfl rfl 5 (by decide) rfl tw_265 rfl dX2_chanceToEnd_103 ?_
      refine k_alen (q0 := 6) (t0 := 1) (v9 := (100 : Int32)) X hw rfl rfl rfl dX2_chanceToEnd_106 ?_
      refine lv_if_le (tgt := 127) hx hb dX2_chanceToEnd_107 (by decide) (fun c_107 => ?_) (fun c_107 => ?_)
      · have hf := (if_pos c_107).symm.trans hf
        refine lv_iconst (v := (0 : Int32)) hx hb dX2_chanceToEnd_127 (by decide) ?_
        obtain rfl := Option.some.inj hf
        exact k_iret X hw dX2_chanceToEnd_128
      · have hf := (if_neg c_107).symm.trans hf
        refine lv_aload_n hx hb dX2_chanceToEnd_110 rfl (lv_at hl 0 rfl) ?_
        refine k_get (q0 := 0) (ci := 1) (C := RX2) (T := TX2) (N := 10) (x := .ref tsnextWays_o) X inx_2 hw rfl rfl 5 (by decide) rfl tw_265 rfl dX2_chanceToEnd_111 ?_
        refine lv_iconst (v := (0 : Int32)) hx hb dX2_chanceToEnd_114 (by decide) ?_
        obtain ⟨hi_115, hf⟩ := gd_some hf
        refine k_lald (q0 := 6) (n := 100) (f := tsnextWays_f) X hw rfl hi_115 dX2_chanceToEnd_115 ?_
        refine lv_ldc2 (v := (1000000 : Int64)) hx hb ho (hts _ tw_1347) dX2_chanceToEnd_116 ?_
        refine lv_lmul hx hb dX2_chanceToEnd_119 ?_
        refine lv_lload hx hb dX2_chanceToEnd_120 (lv_at hl 6 rfl) ?_
        obtain ⟨hz_122, hf⟩ := ngl_some hf
        refine lv_ldiv hx hb dX2_chanceToEnd_122 hz_122 ?_
        refine lv_l2i (v := ((((tsnextWays_f ((0 : Int32)).toNatClampNeg) * (1000000 : Int64)) / x7)).toInt32) hx hb dX2_chanceToEnd_123 rfl ?_
        refine lv_goto (tgt := 128) hx hb dX2_chanceToEnd_124 (by decide) ?_
        obtain rfl := Option.some.inj hf
        exact k_iret X hw dX2_chanceToEnd_128
  · have hf := (if_neg c_60).symm.trans hf
    refine lv_aload_n hx hb dX2_chanceToEnd_63 rfl (lv_at hl 0 rfl) ?_
    refine lv_aload_n hx hb dX2_chanceToEnd_64 rfl (lv_at hl 1 rfl) ?_
    refine lv_iload_n hx hb dX2_chanceToEnd_65 rfl (lv_at hl 2 rfl) ?_
    refine lv_aload_n hx hb dX2_chanceToEnd_66 rfl (lv_at hl 1 rfl) ?_
    refine k_getN (q0 := 8) (ci := 0) (C := RX1) (T := TX1) (N := 18) (host := "PloughCall") (x := .ref (p1_q 14)) X inx_1 hw rfl rfl 14 (by decide) rfl nw_61 rfl dX2_chanceToEnd_67 ?_
    refine lv_iload_n hx hb dX2_chanceToEnd_70 rfl (lv_at hl 3 rfl) ?_
    refine k_SN (As := [.ref (p1_q 14), .int (x3)]) (rest := [.int (x2), .ref p1_o, .ref t_o]) (host := "PloughCall") (index := 51) X (ct_X12_at (out := (ga (5) p1_grows (x3))) rfl) nw_91 tw_119 tw_591 tw_592 ⟨rfl, rfl⟩ hd_X12_at.2 ⟨Nat.le_of_ble_eq_true rfl, Nat.le_of_ble_eq_true rfl⟩ ⟨Nat.zero_le _, Nat.zero_le _⟩ hw [17] rfl rfl rfl hl.1 rfl (Nat.le_of_ble_eq_true rfl) dX2_chanceToEnd_71 (fun H locs hw => ?_)
    have hw : Wd E A s.heap (wX2 E t_o t_q t_path t_row t_leastRow t_needed t_likeSizes (.ref tsnextWays_o) (.ref tsways_o) t_least t_ended t_monthsKept ++ (wL E tsnextWays_o 100 tsnextWays_f ++ (wL E tsways_o 100 tsways_f ++ (wX1 E p1_o p1_q p1_men p1_consuls p1_dangers p1_decrees p1_term p1_termTold p1_manNames p1_kinds p1_skills p1_fields p1_wants p1_hated p1_dangerNames p1_sizes p1_grows p1_decreeNames p1_grounds (.ref p1slaws_o) ++ (wX3 E p1slaws_o p1slaws_q p1slaws_ops p1slaws_stack p1slaws_size p1slaws_worksFrom p1slaws_worksTo p1slaws_keepsFrom p1slaws_keepsTo))))) H locs := hw
    refine lv_iload hx hb dX2_chanceToEnd_74 (lv_at hl 4 rfl) ?_
    refine lv_iload hx hb dX2_chanceToEnd_76 (lv_at hl 7 rfl) ?_
    obtain ⟨r78, hc_78, hf⟩ := bd_some hf
    refine k_V (As := [.ref p1_o, .int (x2), .int ((ga (5) p1_grows (x3))), .int (x5), .int (x9)]) (rest := []) (index := 123) (C := RX2) X (c_X2_spread hc_78) tw_1336 tw_1338 tw_43 tw_122 tw_1339 ⟨rfl, rfl⟩ hd_X2_spread ⟨Nat.le_of_ble_eq_true rfl, Nat.le_of_ble_eq_true rfl⟩ ⟨Nat.zero_le _, Nat.zero_le _⟩ hw [0, 1, 2, 3, 4, 5, 7, 6, 8, 9, 10, 11, 12, 13, 14, 15, 16, 17, 18, 19, 20, 21, 22] rfl rfl 0 rfl rfl rfl rfl hl.1 rfl (Nat.le_of_ble_eq_true rfl) dX2_chanceToEnd_78 (fun H locs hw => ?_)
    have hw : Wd E A s.heap (wX2 E t_o t_q t_path t_row t_leastRow t_needed t_likeSizes (.ref tsways_o) (.ref tsnextWays_o) t_least t_ended t_monthsKept ++ (wL E tsnextWays_o 100 tsnextWays_f ++ (wL E tsways_o 100 r78.1 ++ (wX1 E p1_o p1_q p1_men p1_consuls p1_dangers p1_decrees p1_term p1_termTold p1_manNames p1_kinds p1_skills p1_fields p1_wants p1_hated p1_dangerNames p1_sizes p1_grows p1_decreeNames p1_grounds (.ref p1slaws_o) ++ (wX3 E p1slaws_o p1slaws_q p1slaws_ops r78.2 p1slaws_size p1slaws_worksFrom p1slaws_worksTo p1slaws_keepsFrom p1slaws_keepsTo))))) H locs := hw
    refine lv_lload hx hb dX2_chanceToEnd_81 (lv_at hl 6 rfl) ?_
    refine lv_ldc2 (v := (10 : Int64)) hx hb ho (hts _ tw_1340) dX2_chanceToEnd_83 ?_
    refine lv_lmul hx hb dX2_chanceToEnd_86 ?_
    refine lv_lstore (lv' := [(7, .long ((x7 * (10 : Int64)))), (0, .ref t_o), (1, .ref p1_o), (2, .int (x2)), (3, .int (x3)), (5, .int (x5)), (6, .int (x6)), (9, .int (x9))]) hx hb dX2_chanceToEnd_87 hl (by decide) rfl (fun ls hl => ?_)
    refine lv_iinc (v := (x9 + (1 : Int32))) (lv' := [(9, .int ((x9 + (1 : Int32)))), (7, .long ((x7 * (10 : Int64)))), (0, .ref t_o), (1, .ref p1_o), (2, .int (x2)), (3, .int (x3)), (5, .int (x5)), (6, .int (x6))]) hx hb dX2_chanceToEnd_89 hl (k := 7) rfl rfl (by decide) rfl (fun ls hl => ?_)
    refine lv_goto (tgt := 56) hx hb dX2_chanceToEnd_92 (by decide) ?_
    exact hK56 hf hw (lv_sub hl [2, 3, 4, 5, 6, 7, 1, 0] rfl)
set_option maxRecDepth 100000 in
set_option maxHeartbeats 4000000 in
theorem kb_X2_chanceToEnd_56 {E : En} {p : Program} {l : Launch} {e : Env} {s : State} {m : MethodId} {args : Array Value} {below : List Frame} {meth : Method} {c : Code} {A : Nat → Prop} {t_o : Nat} {t_q : Nat → Nat} {t_path : (Nat → Option Nat)} {t_row : (Nat → Int32)} {t_leastRow : (Nat → Int32)} {t_needed : (Nat → Int32)} {t_likeSizes : (Nat → Int32)} {t_least : Int32} {t_ended : Int32} {t_monthsKept : Int32} {tsnextWays_o : Nat} {tsways_o : Nat} {p1_o : Nat} {p1_q : Nat → Nat} {p1_men : Int32} {p1_consuls : Int32} {p1_dangers : Int32} {p1_decrees : Int32} {p1_term : Int32} {p1_termTold : Int32} {p1_manNames : (Nat → Int64)} {p1_kinds : (Nat → Int32)} {p1_skills : (Nat → Int32)} {p1_fields : (Nat → Int32)} {p1_wants : (Nat → Int32)} {p1_hated : (Nat → Int32)} {p1_dangerNames : (Nat → Int64)} {p1_sizes : (Nat → Int32)} {p1_grows : (Nat → Int32)} {p1_decreeNames : (Nat → Int64)} {p1_grounds : (Nat → Int32)} {p1slaws_o : Nat} {p1slaws_q : Nat → Nat} {p1slaws_ops : (Nat → Int32)} {p1slaws_size : Int32} {p1slaws_worksFrom : Int32} {p1slaws_worksTo : Int32} {p1slaws_keepsFrom : Int32} {p1slaws_keepsTo : Int32} {out : Int32 × (Nat → Int64) × (Nat → Int64) × (Nat → Int32) × Bool} (X : Bx E A p s m args meth c cX2_chanceToEnd 10 RX2 (some .int)) : ∀ (n : Nat) {tsnextWays_f : (Nat → Int64)} {tsways_f : (Nat → Int64)} {p1slaws_stack : (Nat → Int32)} {x2 : Int32} {x3 : Int32} {x5 : Int32} {x6 : Int32} {x7 : Int64} {x9 : Int32} {H : Heap} {locs : List Loc} {ls : Array Slot}, f_X2_chanceToEnd_56 n tsnextWays_f tsways_f p1_kinds p1_skills p1_wants p1_grows p1slaws_ops p1slaws_stack p1slaws_worksFrom p1slaws_worksTo p1slaws_keepsFrom p1slaws_keepsTo x2 x3 x5 x6 x7 x9 = some out → Wd E A s.heap (wX2 E t_o t_q t_path t_row t_leastRow t_needed t_likeSizes (.ref tsways_o) (.ref tsnextWays_o) t_least t_ended t_monthsKept ++ (wL E tsnextWays_o 100 tsnextWays_f ++ (wL E tsways_o 100 tsways_f ++ (wX1 E p1_o p1_q p1_men p1_consuls p1_dangers p1_decrees p1_term p1_termTold p1_manNames p1_kinds p1_skills p1_fields p1_wants p1_hated p1_dangerNames p1_sizes p1_grows p1_decreeNames p1_grounds (.ref p1slaws_o) ++ (wX3 E p1slaws_o p1slaws_q p1slaws_ops p1slaws_stack p1slaws_size p1slaws_worksFrom p1slaws_worksTo p1slaws_keepsFrom p1slaws_keepsTo))))) H locs → lv_has ls 10 [(0, .ref t_o), (1, .ref p1_o), (2, .int (x2)), (3, .int (x3)), (5, .int (x5)), (6, .int (x6)), (7, .long (x7)), (9, .int (x9))] → W p l e rm_X2_chanceToEnd s m args below meth c H locs 0 0 (Zn E below args s A (some (.int out.1)) (wX2 E t_o t_q t_path t_row t_leastRow t_needed t_likeSizes (cond out.2.2.2.2 (.ref tsnextWays_o) (.ref tsways_o)) (cond out.2.2.2.2 (.ref tsways_o) (.ref tsnextWays_o)) t_least t_ended t_monthsKept ++ (wL E tsnextWays_o 100 out.2.1 ++ (wL E tsways_o 100 out.2.2.1 ++ (wX1 E p1_o p1_q p1_men p1_consuls p1_dangers p1_decrees p1_term p1_termTold p1_manNames p1_kinds p1_skills p1_fields p1_wants p1_hated p1_dangerNames p1_sizes p1_grows p1_decreeNames p1_grounds (.ref p1slaws_o) ++ (wX3 E p1slaws_o p1slaws_q p1slaws_ops out.2.2.2.1 p1slaws_size p1slaws_worksFrom p1slaws_worksTo p1slaws_keepsFrom p1slaws_keepsTo)))))) (F0 m 56 ls []) := by
  have hx := X.1.1
  have hb := X.1.2.1
  have ho := X.1.2.2.2.1
  have hts := X.1.2.2.2.2
  intro n
  induction n with
  | zero =>
    intro tsnextWays_f tsways_f p1slaws_stack x2 x3 x5 x6 x7 x9 H locs ls hf
    have hf : (none : Option (Int32 × (Nat → Int64) × (Nat → Int64) × (Nat → Int32) × Bool)) = some out := hf
    cases hf
  | succ n ih =>
    intro tsnextWays_f tsways_f p1slaws_stack x2 x3 x5 x6 x7 x9 H locs ls hf hw hl
    rw [f_X2_chanceToEnd_56.eq_2] at hf
    refine lv_iload hx hb dX2_chanceToEnd_56 (lv_at hl 7 rfl) ?_
    refine lv_iload hx hb dX2_chanceToEnd_58 (lv_at hl 5 rfl) ?_
    refine lv_icmp_ge (tgt := 95) hx hb dX2_chanceToEnd_60 (by decide) (fun c_60 => ?_) (fun c_60 => ?_)
    · have hf := (if_pos c_60).symm.trans hf
      refine lv_lload hx hb dX2_chanceToEnd_95 (lv_at hl 6 rfl) ?_
      refine lv_lconst (v := (0 : Int64)) hx hb dX2_chanceToEnd_97 (by decide) ?_
      refine W.lcmp hx hb dX2_chanceToEnd_98 ?_
      refine lv_if_le (tgt := 127) hx hb dX2_chanceToEnd_99 (by decide) (fun c_99 => ?_) (fun c_99 => ?_)
      · have hf := (if_pos c_99).symm.trans hf
        refine lv_iconst (v := (0 : Int32)) hx hb dX2_chanceToEnd_127 (by decide) ?_
        obtain rfl := Option.some.inj hf
        exact k_iret X hw dX2_chanceToEnd_128
      · have hf := (if_neg c_99).symm.trans hf
        refine lv_aload_n hx hb dX2_chanceToEnd_102 rfl (lv_at hl 0 rfl) ?_
        refine k_get (q0 := 0) (ci := 1) (C := RX2) (T := TX2) (N := 10) (x := .ref tsways_o) X inx_2 hw rfl rfl 5 (by decide) rfl tw_265 rfl dX2_chanceToEnd_103 ?_
        refine k_alen (q0 := 7) (t0 := 1) (v9 := (100 : Int32)) X hw rfl rfl rfl dX2_chanceToEnd_106 ?_
        refine lv_if_le (tgt := 127) hx hb dX2_chanceToEnd_107 (by decide) (fun c_107 => ?_) (fun c_107 => ?_)
        · have hf := (if_pos c_107).symm.trans hf
          refine lv_iconst (v := (0 : Int32)) hx hb dX2_chanceToEnd_127 (by decide) ?_
          obtain rfl := Option.some.inj hf
          exact k_iret X hw dX2_chanceToEnd_128
        · have hf := (if_neg c_107).symm.trans hf
          refine lv_aload_n hx hb dX2_chanceToEnd_110 rfl (lv_at hl 0 rfl) ?_
          refine k_get (q0 := 0) (ci := 1) (C := RX2) (T := TX2) (N := 10) (x := .ref tsways_o) X inx_2 hw rfl rfl 5 (by decide) rfl tw_265 rfl dX2_chanceToEnd_111 ?_
          refine lv_iconst (v := (0 : Int32)) hx hb dX2_chanceToEnd_114 (by decide) ?_
          obtain ⟨hi_115, hf⟩ := gd_some hf
          refine k_lald (q0 := 7) (n := 100) (f := tsways_f) X hw rfl hi_115 dX2_chanceToEnd_115 ?_
          refine lv_ldc2 (v := (1000000 : Int64)) hx hb ho (hts _ tw_1347) dX2_chanceToEnd_116 ?_
          refine lv_lmul hx hb dX2_chanceToEnd_119 ?_
          refine lv_lload hx hb dX2_chanceToEnd_120 (lv_at hl 6 rfl) ?_
          obtain ⟨hz_122, hf⟩ := ngl_some hf
          refine lv_ldiv hx hb dX2_chanceToEnd_122 hz_122 ?_
          refine lv_l2i (v := ((((tsways_f ((0 : Int32)).toNatClampNeg) * (1000000 : Int64)) / x7)).toInt32) hx hb dX2_chanceToEnd_123 rfl ?_
          refine lv_goto (tgt := 128) hx hb dX2_chanceToEnd_124 (by decide) ?_
          obtain rfl := Option.some.inj hf
          exact k_iret X hw dX2_chanceToEnd_128
    · have hf := (if_neg c_60).symm.trans hf
      refine lv_aload_n hx hb dX2_chanceToEnd_63 rfl (lv_at hl 0 rfl) ?_
      refine lv_aload_n hx hb dX2_chanceToEnd_64 rfl (lv_at hl 1 rfl) ?_
      refine lv_iload_n hx hb dX2_chanceToEnd_65 rfl (lv_at hl 2 rfl) ?_
      refine lv_aload_n hx hb dX2_chanceToEnd_66 rfl (lv_at hl 1 rfl) ?_
      refine k_getN (q0 := 8) (ci := 0) (C := RX1) (T := TX1) (N := 18) (host := "PloughCall") (x := .ref (p1_q 14)) X inx_1 hw rfl rfl 14 (by decide) rfl nw_61 rfl dX2_chanceToEnd_67 ?_
      refine lv_iload_n hx hb dX2_chanceToEnd_70 rfl (lv_at hl 3 rfl) ?_
      refine k_SN (As := [.ref (p1_q 14), .int (x3)]) (rest := [.int (x2), .ref p1_o, .ref t_o]) (host := "PloughCall") (index := 51) X (ct_X12_at (out := (ga (5) p1_grows (x3))) rfl) nw_91 tw_119 tw_591 tw_592 ⟨rfl, rfl⟩ hd_X12_at.2 ⟨Nat.le_of_ble_eq_true rfl, Nat.le_of_ble_eq_true rfl⟩ ⟨Nat.zero_le _, Nat.zero_le _⟩ hw [17] rfl rfl rfl hl.1 rfl (Nat.le_of_ble_eq_true rfl) dX2_chanceToEnd_71 (fun H locs hw => ?_)
      have hw : Wd E A s.heap (wX2 E t_o t_q t_path t_row t_leastRow t_needed t_likeSizes (.ref tsways_o) (.ref tsnextWays_o) t_least t_ended t_monthsKept ++ (wL E tsnextWays_o 100 tsnextWays_f ++ (wL E tsways_o 100 tsways_f ++ (wX1 E p1_o p1_q p1_men p1_consuls p1_dangers p1_decrees p1_term p1_termTold p1_manNames p1_kinds p1_skills p1_fields p1_wants p1_hated p1_dangerNames p1_sizes p1_grows p1_decreeNames p1_grounds (.ref p1slaws_o) ++ (wX3 E p1slaws_o p1slaws_q p1slaws_ops p1slaws_stack p1slaws_size p1slaws_worksFrom p1slaws_worksTo p1slaws_keepsFrom p1slaws_keepsTo))))) H locs := hw
      refine lv_iload hx hb dX2_chanceToEnd_74 (lv_at hl 4 rfl) ?_
      refine lv_iload hx hb dX2_chanceToEnd_76 (lv_at hl 7 rfl) ?_
      obtain ⟨r78, hc_78, hf⟩ := bd_some hf
      refine k_V (As := [.ref p1_o, .int (x2), .int ((ga (5) p1_grows (x3))), .int (x5), .int (x9)]) (rest := []) (index := 123) (C := RX2) X (c_X2_spread hc_78) tw_1336 tw_1338 tw_43 tw_122 tw_1339 ⟨rfl, rfl⟩ hd_X2_spread ⟨Nat.le_of_ble_eq_true rfl, Nat.le_of_ble_eq_true rfl⟩ ⟨Nat.zero_le _, Nat.zero_le _⟩ hw [0, 1, 2, 3, 4, 5, 6, 7, 8, 9, 10, 11, 12, 13, 14, 15, 16, 17, 18, 19, 20, 21, 22] rfl rfl 0 rfl rfl rfl rfl hl.1 rfl (Nat.le_of_ble_eq_true rfl) dX2_chanceToEnd_78 (fun H locs hw => ?_)
      have hw : Wd E A s.heap (wX2 E t_o t_q t_path t_row t_leastRow t_needed t_likeSizes (.ref tsnextWays_o) (.ref tsways_o) t_least t_ended t_monthsKept ++ (wL E tsnextWays_o 100 r78.1 ++ (wL E tsways_o 100 tsways_f ++ (wX1 E p1_o p1_q p1_men p1_consuls p1_dangers p1_decrees p1_term p1_termTold p1_manNames p1_kinds p1_skills p1_fields p1_wants p1_hated p1_dangerNames p1_sizes p1_grows p1_decreeNames p1_grounds (.ref p1slaws_o) ++ (wX3 E p1slaws_o p1slaws_q p1slaws_ops r78.2 p1slaws_size p1slaws_worksFrom p1slaws_worksTo p1slaws_keepsFrom p1slaws_keepsTo))))) H locs := hw
      refine lv_lload hx hb dX2_chanceToEnd_81 (lv_at hl 6 rfl) ?_
      refine lv_ldc2 (v := (10 : Int64)) hx hb ho (hts _ tw_1340) dX2_chanceToEnd_83 ?_
      refine lv_lmul hx hb dX2_chanceToEnd_86 ?_
      refine lv_lstore (lv' := [(7, .long ((x7 * (10 : Int64)))), (0, .ref t_o), (1, .ref p1_o), (2, .int (x2)), (3, .int (x3)), (5, .int (x5)), (6, .int (x6)), (9, .int (x9))]) hx hb dX2_chanceToEnd_87 hl (by decide) rfl (fun ls hl => ?_)
      refine lv_iinc (v := (x9 + (1 : Int32))) (lv' := [(9, .int ((x9 + (1 : Int32)))), (7, .long ((x7 * (10 : Int64)))), (0, .ref t_o), (1, .ref p1_o), (2, .int (x2)), (3, .int (x3)), (5, .int (x5)), (6, .int (x6))]) hx hb dX2_chanceToEnd_89 hl (k := 7) rfl rfl (by decide) rfl (fun ls hl => ?_)
      refine lv_goto (tgt := 56) hx hb dX2_chanceToEnd_92 (by decide) ?_
      exact kb_X2_chanceToEnd_100056 X (fun hf hw hl => ih hf hw hl) hf hw (lv_sub hl [2, 3, 4, 5, 6, 7, 1, 0] rfl)
set_option maxRecDepth 100000 in
set_option maxHeartbeats 4000000 in
theorem kb_X2_chanceToEnd_3 {E : En} {p : Program} {l : Launch} {e : Env} {s : State} {m : MethodId} {args : Array Value} {below : List Frame} {meth : Method} {c : Code} {A : Nat → Prop} {t_o : Nat} {t_q : Nat → Nat} {t_path : (Nat → Option Nat)} {t_row : (Nat → Int32)} {t_leastRow : (Nat → Int32)} {t_needed : (Nat → Int32)} {t_likeSizes : (Nat → Int32)} {t_least : Int32} {t_ended : Int32} {t_monthsKept : Int32} {tsnextWays_o : Nat} {tsways_o : Nat} {p1_o : Nat} {p1_q : Nat → Nat} {p1_men : Int32} {p1_consuls : Int32} {p1_dangers : Int32} {p1_decrees : Int32} {p1_term : Int32} {p1_termTold : Int32} {p1_manNames : (Nat → Int64)} {p1_kinds : (Nat → Int32)} {p1_skills : (Nat → Int32)} {p1_fields : (Nat → Int32)} {p1_wants : (Nat → Int32)} {p1_hated : (Nat → Int32)} {p1_dangerNames : (Nat → Int64)} {p1_sizes : (Nat → Int32)} {p1_grows : (Nat → Int32)} {p1_decreeNames : (Nat → Int64)} {p1_grounds : (Nat → Int32)} {p1slaws_o : Nat} {p1slaws_q : Nat → Nat} {p1slaws_ops : (Nat → Int32)} {p1slaws_size : Int32} {p1slaws_worksFrom : Int32} {p1slaws_worksTo : Int32} {p1slaws_keepsFrom : Int32} {p1slaws_keepsTo : Int32} {out : Int32 × (Nat → Int64) × (Nat → Int64) × (Nat → Int32) × Bool} (X : Bx E A p s m args meth c cX2_chanceToEnd 10 RX2 (some .int)) : ∀ (n : Nat) {tsnextWays_f : (Nat → Int64)} {tsways_f : (Nat → Int64)} {p1slaws_stack : (Nat → Int32)} {x2 : Int32} {x3 : Int32} {x4 : Int32} {x5 : Int32} {x6 : Int32} {x7 : Int32} {H : Heap} {locs : List Loc} {ls : Array Slot}, f_X2_chanceToEnd_3 n tsnextWays_f tsways_f p1_kinds p1_skills p1_wants p1_grows p1slaws_ops p1slaws_stack p1slaws_worksFrom p1slaws_worksTo p1slaws_keepsFrom p1slaws_keepsTo x2 x3 x4 x5 x6 x7 = some out → Wd E A s.heap (wX2 E t_o t_q t_path t_row t_leastRow t_needed t_likeSizes (.ref tsways_o) (.ref tsnextWays_o) t_least t_ended t_monthsKept ++ (wL E tsnextWays_o 100 tsnextWays_f ++ (wL E tsways_o 100 tsways_f ++ (wX1 E p1_o p1_q p1_men p1_consuls p1_dangers p1_decrees p1_term p1_termTold p1_manNames p1_kinds p1_skills p1_fields p1_wants p1_hated p1_dangerNames p1_sizes p1_grows p1_decreeNames p1_grounds (.ref p1slaws_o) ++ (wX3 E p1slaws_o p1slaws_q p1slaws_ops p1slaws_stack p1slaws_size p1slaws_worksFrom p1slaws_worksTo p1slaws_keepsFrom p1slaws_keepsTo))))) H locs → lv_has ls 10 [(0, .ref t_o), (1, .ref p1_o), (2, .int (x2)), (3, .int (x3)), (4, .int (x4)), (5, .int (x5)), (6, .int (x6)), (7, .int (x7))] → W p l e rm_X2_chanceToEnd s m args below meth c H locs 0 0 (Zn E below args s A (some (.int out.1)) (wX2 E t_o t_q t_path t_row t_leastRow t_needed t_likeSizes (cond out.2.2.2.2 (.ref tsnextWays_o) (.ref tsways_o)) (cond out.2.2.2.2 (.ref tsways_o) (.ref tsnextWays_o)) t_least t_ended t_monthsKept ++ (wL E tsnextWays_o 100 out.2.1 ++ (wL E tsways_o 100 out.2.2.1 ++ (wX1 E p1_o p1_q p1_men p1_consuls p1_dangers p1_decrees p1_term p1_termTold p1_manNames p1_kinds p1_skills p1_fields p1_wants p1_hated p1_dangerNames p1_sizes p1_grows p1_decreeNames p1_grounds (.ref p1slaws_o) ++ (wX3 E p1slaws_o p1slaws_q p1slaws_ops out.2.2.2.1 p1slaws_size p1slaws_worksFrom p1slaws_worksTo p1slaws_keepsFrom p1slaws_keepsTo)))))) (F0 m 3 ls []) := by
  have hx := X.1.1
  have hb := X.1.2.1
  have ho := X.1.2.2.2.1
  have hts := X.1.2.2.2.2
  intro n
  induction n with
  | zero =>
    intro tsnextWays_f tsways_f p1slaws_stack x2 x3 x4 x5 x6 x7 H locs ls hf
    have hf : (none : Option (Int32 × (Nat → Int64) × (Nat → Int64) × (Nat → Int32) × Bool)) = some out := hf
    cases hf
  | succ n ih =>
    intro tsnextWays_f tsways_f p1slaws_stack x2 x3 x4 x5 x6 x7 H locs ls hf hw hl
    rw [f_X2_chanceToEnd_3.eq_2] at hf
    refine lv_iload hx hb dX2_chanceToEnd_3 (lv_at hl 7 rfl) ?_
    refine lv_aload_n hx hb dX2_chanceToEnd_5 rfl (lv_at hl 0 rfl) ?_
    refine k_get (q0 := 0) (ci := 1) (C := RX2) (T := TX2) (N := 10) (x := .ref tsways_o) X inx_2 hw rfl rfl 5 (by decide) rfl tw_265 rfl dX2_chanceToEnd_6 ?_
    refine k_alen (q0 := 7) (t0 := 1) (v9 := (100 : Int32)) X hw rfl rfl rfl dX2_chanceToEnd_9 ?_
    refine lv_icmp_ge (tgt := 27) hx hb dX2_chanceToEnd_10 (by decide) (fun c_10 => ?_) (fun c_10 => ?_)
    · have hf := (if_pos c_10).symm.trans hf
      refine lv_iload hx hb dX2_chanceToEnd_27 (lv_at hl 4 rfl) ?_
      refine lv_if_lt (tgt := 50) hx hb dX2_chanceToEnd_29 (by decide) (fun c_29 => ?_) (fun c_29 => ?_)
      · have hf := (if_pos c_29).symm.trans hf
        refine lv_lconst (v := (1 : Int64)) hx hb dX2_chanceToEnd_50 (by decide) ?_
        refine lv_lstore (lv' := [(7, .long ((1 : Int64))), (0, .ref t_o), (1, .ref p1_o), (2, .int (x2)), (3, .int (x3)), (4, .int (x4)), (5, .int (x5)), (6, .int (x6))]) hx hb dX2_chanceToEnd_51 hl (by decide) rfl (fun ls hl => ?_)
        refine lv_iconst (v := (0 : Int32)) hx hb dX2_chanceToEnd_53 (by decide) ?_
        refine lv_istore (lv' := [(9, .int ((0 : Int32))), (7, .long ((1 : Int64))), (0, .ref t_o), (1, .ref p1_o), (2, .int (x2)), (3, .int (x3)), (4, .int (x4)), (5, .int (x5)), (6, .int (x6))]) hx hb dX2_chanceToEnd_54 hl (by decide) rfl (fun ls hl => ?_)
        exact kb_X2_chanceToEnd_56 X 1100 hf hw (lv_sub hl [2, 3, 4, 5, 7, 8, 1, 0] rfl)
      · have hf := (if_neg c_29).symm.trans hf
        refine lv_iload hx hb dX2_chanceToEnd_32 (lv_at hl 4 rfl) ?_
        refine lv_aload_n hx hb dX2_chanceToEnd_34 rfl (lv_at hl 0 rfl) ?_
        refine k_get (q0 := 0) (ci := 1) (C := RX2) (T := TX2) (N := 10) (x := .ref tsways_o) X inx_2 hw rfl rfl 5 (by decide) rfl tw_265 rfl dX2_chanceToEnd_35 ?_
        refine k_alen (q0 := 7) (t0 := 1) (v9 := (100 : Int32)) X hw rfl rfl rfl dX2_chanceToEnd_38 ?_
        refine lv_icmp_ge (tgt := 50) hx hb dX2_chanceToEnd_39 (by decide) (fun c_39 => ?_) (fun c_39 => ?_)
        · have hf := (if_pos c_39).symm.trans hf
          refine lv_lconst (v := (1 : Int64)) hx hb dX2_chanceToEnd_50 (by decide) ?_
          refine lv_lstore (lv' := [(7, .long ((1 : Int64))), (0, .ref t_o), (1, .ref p1_o), (2, .int (x2)), (3, .int (x3)), (4, .int (x4)), (5, .int (x5)), (6, .int (x6))]) hx hb dX2_chanceToEnd_51 hl (by decide) rfl (fun ls hl => ?_)
          refine lv_iconst (v := (0 : Int32)) hx hb dX2_chanceToEnd_53 (by decide) ?_
          refine lv_istore (lv' := [(9, .int ((0 : Int32))), (7, .long ((1 : Int64))), (0, .ref t_o), (1, .ref p1_o), (2, .int (x2)), (3, .int (x3)), (4, .int (x4)), (5, .int (x5)), (6, .int (x6))]) hx hb dX2_chanceToEnd_54 hl (by decide) rfl (fun ls hl => ?_)
          exact kb_X2_chanceToEnd_56 X 1100 hf hw (lv_sub hl [2, 3, 4, 5, 7, 8, 1, 0] rfl)
        · have hf := (if_neg c_39).symm.trans hf
          refine lv_aload_n hx hb dX2_chanceToEnd_42 rfl (lv_at hl 0 rfl) ?_
          refine k_get (q0 := 0) (ci := 1) (C := RX2) (T := TX2) (N := 10) (x := .ref tsways_o) X inx_2 hw rfl rfl 5 (by decide) rfl tw_265 rfl dX2_chanceToEnd_43 ?_
          refine lv_iload hx hb dX2_chanceToEnd_46 (lv_at hl 4 rfl) ?_
          refine lv_lconst (v := (1 : Int64)) hx hb dX2_chanceToEnd_48 (by decide) ?_
          obtain ⟨hi_49, hf⟩ := gd_some hf
          refine k_last (q0 := 7) (n := 100) (f := tsways_f) X hw rfl hi_49 dX2_chanceToEnd_49 (fun H locs hw => ?_)
          have hw : Wd E A s.heap (wX2 E t_o t_q t_path t_row t_leastRow t_needed t_likeSizes (.ref tsways_o) (.ref tsnextWays_o) t_least t_ended t_monthsKept ++ (wL E tsnextWays_o 100 tsnextWays_f ++ (wL E tsways_o 100 (vp_updL tsways_f (x4).toNatClampNeg ((1 : Int64))) ++ (wX1 E p1_o p1_q p1_men p1_consuls p1_dangers p1_decrees p1_term p1_termTold p1_manNames p1_kinds p1_skills p1_fields p1_wants p1_hated p1_dangerNames p1_sizes p1_grows p1_decreeNames p1_grounds (.ref p1slaws_o) ++ (wX3 E p1slaws_o p1slaws_q p1slaws_ops p1slaws_stack p1slaws_size p1slaws_worksFrom p1slaws_worksTo p1slaws_keepsFrom p1slaws_keepsTo))))) H locs := hw
          refine lv_lconst (v := (1 : Int64)) hx hb dX2_chanceToEnd_50 (by decide) ?_
          refine lv_lstore (lv' := [(7, .long ((1 : Int64))), (0, .ref t_o), (1, .ref p1_o), (2, .int (x2)), (3, .int (x3)), (4, .int (x4)), (5, .int (x5)), (6, .int (x6))]) hx hb dX2_chanceToEnd_51 hl (by decide) rfl (fun ls hl => ?_)
          refine lv_iconst (v := (0 : Int32)) hx hb dX2_chanceToEnd_53 (by decide) ?_
          refine lv_istore (lv' := [(9, .int ((0 : Int32))), (7, .long ((1 : Int64))), (0, .ref t_o), (1, .ref p1_o), (2, .int (x2)), (3, .int (x3)), (4, .int (x4)), (5, .int (x5)), (6, .int (x6))]) hx hb dX2_chanceToEnd_54 hl (by decide) rfl (fun ls hl => ?_)
          exact kb_X2_chanceToEnd_56 X 1100 hf hw (lv_sub hl [2, 3, 4, 5, 7, 8, 1, 0] rfl)
    · have hf := (if_neg c_10).symm.trans hf
      refine lv_aload_n hx hb dX2_chanceToEnd_13 rfl (lv_at hl 0 rfl) ?_
      refine k_get (q0 := 0) (ci := 1) (C := RX2) (T := TX2) (N := 10) (x := .ref tsways_o) X inx_2 hw rfl rfl 5 (by decide) rfl tw_265 rfl dX2_chanceToEnd_14 ?_
      refine lv_iload hx hb dX2_chanceToEnd_17 (lv_at hl 7 rfl) ?_
      refine lv_lconst (v := (0 : Int64)) hx hb dX2_chanceToEnd_19 (by decide) ?_
      obtain ⟨hi_20, hf⟩ := gd_some hf
      refine k_last (q0 := 7) (n := 100) (f := tsways_f) X hw rfl hi_20 dX2_chanceToEnd_20 (fun H locs hw => ?_)
      have hw : Wd E A s.heap (wX2 E t_o t_q t_path t_row t_leastRow t_needed t_likeSizes (.ref tsways_o) (.ref tsnextWays_o) t_least t_ended t_monthsKept ++ (wL E tsnextWays_o 100 tsnextWays_f ++ (wL E tsways_o 100 (vp_updL tsways_f (x7).toNatClampNeg ((0 : Int64))) ++ (wX1 E p1_o p1_q p1_men p1_consuls p1_dangers p1_decrees p1_term p1_termTold p1_manNames p1_kinds p1_skills p1_fields p1_wants p1_hated p1_dangerNames p1_sizes p1_grows p1_decreeNames p1_grounds (.ref p1slaws_o) ++ (wX3 E p1slaws_o p1slaws_q p1slaws_ops p1slaws_stack p1slaws_size p1slaws_worksFrom p1slaws_worksTo p1slaws_keepsFrom p1slaws_keepsTo))))) H locs := hw
      refine lv_iinc (v := (x7 + (1 : Int32))) (lv' := [(7, .int ((x7 + (1 : Int32)))), (0, .ref t_o), (1, .ref p1_o), (2, .int (x2)), (3, .int (x3)), (4, .int (x4)), (5, .int (x5)), (6, .int (x6))]) hx hb dX2_chanceToEnd_21 hl (k := 7) rfl rfl (by decide) rfl (fun ls hl => ?_)
      refine lv_goto (tgt := 3) hx hb dX2_chanceToEnd_24 (by decide) ?_
      exact ih hf hw (lv_sub hl [1, 2, 3, 4, 5, 6, 7, 0] rfl)
set_option maxRecDepth 100000 in
set_option maxHeartbeats 4000000 in
theorem c_X2_chanceToEnd {E : En} {l : Launch} {t_o : Nat} {t_q : Nat → Nat} {t_path : (Nat → Option Nat)} {t_row : (Nat → Int32)} {t_leastRow : (Nat → Int32)} {t_needed : (Nat → Int32)} {t_likeSizes : (Nat → Int32)} {t_least : Int32} {t_ended : Int32} {t_monthsKept : Int32} {tsnextWays_o : Nat} {tsnextWays_f : (Nat → Int64)} {tsways_o : Nat} {tsways_f : (Nat → Int64)} {p1_o : Nat} {p1_q : Nat → Nat} {p1_men : Int32} {p1_consuls : Int32} {p1_dangers : Int32} {p1_decrees : Int32} {p1_term : Int32} {p1_termTold : Int32} {p1_manNames : (Nat → Int64)} {p1_kinds : (Nat → Int32)} {p1_skills : (Nat → Int32)} {p1_fields : (Nat → Int32)} {p1_wants : (Nat → Int32)} {p1_hated : (Nat → Int32)} {p1_dangerNames : (Nat → Int64)} {p1_sizes : (Nat → Int32)} {p1_grows : (Nat → Int32)} {p1_decreeNames : (Nat → Int64)} {p1_grounds : (Nat → Int32)} {p1slaws_o : Nat} {p1slaws_q : Nat → Nat} {p1slaws_ops : (Nat → Int32)} {p1slaws_stack : (Nat → Int32)} {p1slaws_size : Int32} {p1slaws_worksFrom : Int32} {p1slaws_worksTo : Int32} {p1slaws_keepsFrom : Int32} {p1slaws_keepsTo : Int32} {x2 : Int32} {x3 : Int32} {x4 : Int32} {x5 : Int32} {x6 : Int32} {out : Int32 × (Nat → Int64) × (Nat → Int64) × (Nat → Int32) × Bool} (hf : f_X2_chanceToEnd tsnextWays_f tsways_f p1_kinds p1_skills p1_wants p1_grows p1slaws_ops p1slaws_stack p1slaws_worksFrom p1slaws_worksTo p1slaws_keepsFrom p1slaws_keepsTo x2 x3 x4 x5 x6 = some out) : Cn E l yX2_chanceToEnd cX2_chanceToEnd 10 (some .int) rm_X2_chanceToEnd [.ref t_o, .ref p1_o, .int (x2), .int (x3), .int (x4), .int (x5), .int (x6)] (wX2 E t_o t_q t_path t_row t_leastRow t_needed t_likeSizes (.ref tsways_o) (.ref tsnextWays_o) t_least t_ended t_monthsKept ++ (wL E tsnextWays_o 100 tsnextWays_f ++ (wL E tsways_o 100 tsways_f ++ (wX1 E p1_o p1_q p1_men p1_consuls p1_dangers p1_decrees p1_term p1_termTold p1_manNames p1_kinds p1_skills p1_fields p1_wants p1_hated p1_dangerNames p1_sizes p1_grows p1_decreeNames p1_grounds (.ref p1slaws_o) ++ (wX3 E p1slaws_o p1slaws_q p1slaws_ops p1slaws_stack p1slaws_size p1slaws_worksFrom p1slaws_worksTo p1slaws_keepsFrom p1slaws_keepsTo))))) (some (.int out.1)) (wX2 E t_o t_q t_path t_row t_leastRow t_needed t_likeSizes (cond out.2.2.2.2 (.ref tsnextWays_o) (.ref tsways_o)) (cond out.2.2.2.2 (.ref tsways_o) (.ref tsnextWays_o)) t_least t_ended t_monthsKept ++ (wL E tsnextWays_o 100 out.2.1 ++ (wL E tsways_o 100 out.2.2.1 ++ (wX1 E p1_o p1_q p1_men p1_consuls p1_dangers p1_decrees p1_term p1_termTold p1_manNames p1_kinds p1_skills p1_fields p1_wants p1_hated p1_dangerNames p1_sizes p1_grows p1_decreeNames p1_grounds (.ref p1slaws_o) ++ (wX3 E p1slaws_o p1slaws_q p1slaws_ops out.2.2.2.1 p1slaws_size p1slaws_worksFrom p1slaws_worksTo p1slaws_keepsFrom p1slaws_keepsTo))))) := by
  refine Cn.of (by decide) (Nat.le_of_ble_eq_true rfl) rfl ?_
  intro p e s m below meth c A ls args H locs X hw hl
  have hx := X.1.1
  have hb := X.1.2.1
  have ho := X.1.2.2.2.1
  have hts := X.1.2.2.2.2
  have hl : lv_has ls 10 [(0, .ref t_o), (1, .ref p1_o), (2, .int (x2)), (3, .int (x3)), (4, .int (x4)), (5, .int (x5)), (6, .int (x6))] := hl
  unfold f_X2_chanceToEnd at hf
  refine lv_iconst (v := (0 : Int32)) hx hb dX2_chanceToEnd_0 (by decide) ?_
  refine lv_istore (lv' := [(7, .int ((0 : Int32))), (0, .ref t_o), (1, .ref p1_o), (2, .int (x2)), (3, .int (x3)), (4, .int (x4)), (5, .int (x5)), (6, .int (x6))]) hx hb dX2_chanceToEnd_1 hl (by decide) rfl (fun ls hl => ?_)
  exact kb_X2_chanceToEnd_3 X 1100 hf hw (lv_sub hl [1, 2, 3, 4, 5, 6, 7, 0] rfl)
/-! int parting(PloughCall$City, int, int); -/
def f_X2_parting_16 : Nat → (Nat → Int32) → Int32 → (Nat → Int32) → (Nat → Int32) → (Nat → Int32) → (Nat → Int32) → (Nat → Int32) → (Nat → Int32) → Int32 → Int32 → Int32 → Int32 → Int32 → Int32 → Int32 → Int32 → Int32 → Option (Int32 × (Nat → Int32) × (Nat → Int32))
  | 0, _, _, _, _, _, _, _, _, _, _, _, _, _, _, _, _, _ => none
  | n + 1, t_likeSizes, p1_men, p1_kinds, p1_skills, p1_wants, p1_sizes, p1slaws_ops, p1slaws_stack, p1slaws_worksFrom, p1slaws_worksTo, p1slaws_keepsFrom, p1slaws_keepsTo, x2, x3, x5, x6, x7 => if (12 : Int32) < x7 then some (x5, t_likeSizes, p1slaws_stack)
    else (f_X2_mostAlike t_likeSizes p1_men p1_kinds p1_skills p1_wants p1slaws_ops p1slaws_stack p1slaws_worksFrom p1slaws_worksTo p1slaws_keepsFrom p1slaws_keepsTo ((ga (5) p1_sizes (x2))) (x3) (x7)).bind fun r36 => if x6 ≤ r36.1 then f_X2_parting_16 n r36.2.1 p1_men p1_kinds p1_skills p1_wants p1_sizes p1slaws_ops r36.2.2 p1slaws_worksFrom p1slaws_worksTo p1slaws_keepsFrom p1slaws_keepsTo x2 x3 x5 x6 ((x7 + (1 : Int32)))
    else f_X2_parting_16 n r36.2.1 p1_men p1_kinds p1_skills p1_wants p1_sizes p1slaws_ops r36.2.2 p1slaws_worksFrom p1slaws_worksTo p1slaws_keepsFrom p1slaws_keepsTo x2 x3 x7 r36.1 ((x7 + (1 : Int32)))
def f_X2_parting (t_likeSizes : (Nat → Int32)) (p1_men : Int32) (p1_kinds : (Nat → Int32)) (p1_skills : (Nat → Int32)) (p1_wants : (Nat → Int32)) (p1_sizes : (Nat → Int32)) (p1slaws_ops : (Nat → Int32)) (p1slaws_stack : (Nat → Int32)) (p1slaws_worksFrom : Int32) (p1slaws_worksTo : Int32) (p1slaws_keepsFrom : Int32) (p1slaws_keepsTo : Int32) (x2 : Int32) (x3 : Int32) : Option (Int32 × (Nat → Int32) × (Nat → Int32)) := f_X2_parting_16 1100 t_likeSizes p1_men p1_kinds p1_skills p1_wants p1_sizes p1slaws_ops p1slaws_stack p1slaws_worksFrom p1slaws_worksTo p1slaws_keepsFrom p1slaws_keepsTo x2 x3 ((-1 : Int32)) ((f_X20_bitCount (x3))) ((0 : Int32))
abbrev rm_X2_parting : Room := { frames := 5, cells := 0, slots := 0, locals := 131 }
theorem hd_X2_parting : yX2_parting.cls = RX2 ∧ yX2_parting.cls ≠ "java/lang/invoke/MethodHandle" ∧ yX2_parting.cls ≠ "java/lang/invoke/VarHandle" ∧ (parseMethodDescriptor yX2_parting.desc).map (fun d => d.parameters.length) = some 3 := by decide +kernel
set_option maxRecDepth 100000 in
set_option maxHeartbeats 4000000 in
theorem kb_X2_parting_16 {E : En} {p : Program} {l : Launch} {e : Env} {s : State} {m : MethodId} {args : Array Value} {below : List Frame} {meth : Method} {c : Code} {A : Nat → Prop} {t_o : Nat} {t_q : Nat → Nat} {t_path : (Nat → Option Nat)} {t_row : (Nat → Int32)} {t_leastRow : (Nat → Int32)} {t_needed : (Nat → Int32)} {t_ways : Value} {t_nextWays : Value} {t_least : Int32} {t_ended : Int32} {t_monthsKept : Int32} {p1_o : Nat} {p1_q : Nat → Nat} {p1_men : Int32} {p1_consuls : Int32} {p1_dangers : Int32} {p1_decrees : Int32} {p1_term : Int32} {p1_termTold : Int32} {p1_manNames : (Nat → Int64)} {p1_kinds : (Nat → Int32)} {p1_skills : (Nat → Int32)} {p1_fields : (Nat → Int32)} {p1_wants : (Nat → Int32)} {p1_hated : (Nat → Int32)} {p1_dangerNames : (Nat → Int64)} {p1_sizes : (Nat → Int32)} {p1_grows : (Nat → Int32)} {p1_decreeNames : (Nat → Int64)} {p1_grounds : (Nat → Int32)} {p1slaws_o : Nat} {p1slaws_q : Nat → Nat} {p1slaws_ops : (Nat → Int32)} {p1slaws_size : Int32} {p1slaws_worksFrom : Int32} {p1slaws_worksTo : Int32} {p1slaws_keepsFrom : Int32} {p1slaws_keepsTo : Int32} {out : Int32 × (Nat → Int32) × (Nat → Int32)} (X : Bx E A p s m args meth c cX2_parting 9 RX2 (some .int)) : ∀ (n : Nat) {t_likeSizes : (Nat → Int32)} {p1slaws_stack : (Nat → Int32)} {x2 : Int32} {x3 : Int32} {x5 : Int32} {x6 : Int32} {x7 : Int32} {H : Heap} {locs : List Loc} {ls : Array Slot}, f_X2_parting_16 n t_likeSizes p1_men p1_kinds p1_skills p1_wants p1_sizes p1slaws_ops p1slaws_stack p1slaws_worksFrom p1slaws_worksTo p1slaws_keepsFrom p1slaws_keepsTo x2 x3 x5 x6 x7 = some out → Wd E A s.heap (wX2 E t_o t_q t_path t_row t_leastRow t_needed t_likeSizes t_ways t_nextWays t_least t_ended t_monthsKept ++ (wX1 E p1_o p1_q p1_men p1_consuls p1_dangers p1_decrees p1_term p1_termTold p1_manNames p1_kinds p1_skills p1_fields p1_wants p1_hated p1_dangerNames p1_sizes p1_grows p1_decreeNames p1_grounds (.ref p1slaws_o) ++ (wX3 E p1slaws_o p1slaws_q p1slaws_ops p1slaws_stack p1slaws_size p1slaws_worksFrom p1slaws_worksTo p1slaws_keepsFrom p1slaws_keepsTo))) H locs → lv_has ls 9 [(0, .ref t_o), (1, .ref p1_o), (2, .int (x2)), (3, .int (x3)), (5, .int (x5)), (6, .int (x6)), (7, .int (x7))] → W p l e rm_X2_parting s m args below meth c H locs 0 0 (Zn E below args s A (some (.int out.1)) (wX2 E t_o t_q t_path t_row t_leastRow t_needed out.2.1 t_ways t_nextWays t_least t_ended t_monthsKept ++ (wX1 E p1_o p1_q p1_men p1_consuls p1_dangers p1_decrees p1_term p1_termTold p1_manNames p1_kinds p1_skills p1_fields p1_wants p1_hated p1_dangerNames p1_sizes p1_grows p1_decreeNames p1_grounds (.ref p1slaws_o) ++ (wX3 E p1slaws_o p1slaws_q p1slaws_ops out.2.2 p1slaws_size p1slaws_worksFrom p1slaws_worksTo p1slaws_keepsFrom p1slaws_keepsTo)))) (F0 m 16 ls []) := by
  have hx := X.1.1
  have hb := X.1.2.1
  have ho := X.1.2.2.2.1
  have hts := X.1.2.2.2.2
  intro n
  induction n with
  | zero =>
    intro t_likeSizes p1slaws_stack x2 x3 x5 x6 x7 H locs ls hf
    have hf : (none : Option (Int32 × (Nat → Int32) × (Nat → Int32))) = some out := hf
    cases hf
  | succ n ih =>
    intro t_likeSizes p1slaws_stack x2 x3 x5 x6 x7 H locs ls hf hw hl
    rw [f_X2_parting_16.eq_2] at hf
    refine lv_iload hx hb dX2_parting_16 (lv_at hl 6 rfl) ?_
    refine lv_bipush (v := (12 : Int32)) hx hb dX2_parting_18 (by decide) ?_
    refine lv_icmp_gt (tgt := 62) hx hb dX2_parting_20 (by decide) (fun c_20 => ?_) (fun c_20 => ?_)
    · have hf := (if_pos c_20).symm.trans hf
      refine lv_iload hx hb dX2_parting_62 (lv_at hl 4 rfl) ?_
      obtain rfl := Option.some.inj hf
      exact k_iret X hw dX2_parting_64
    · have hf := (if_neg c_20).symm.trans hf
      refine lv_aload_n hx hb dX2_parting_23 rfl (lv_at hl 0 rfl) ?_
      refine lv_aload_n hx hb dX2_parting_24 rfl (lv_at hl 1 rfl) ?_
      refine lv_aload_n hx hb dX2_parting_25 rfl (lv_at hl 1 rfl) ?_
      refine k_getN (q0 := 6) (ci := 0) (C := RX1) (T := TX1) (N := 18) (host := "PloughCall") (x := .ref (p1_q 13)) X inx_1 hw rfl rfl 13 (by decide) rfl nw_59 rfl dX2_parting_26 ?_
      refine lv_iload_n hx hb dX2_parting_29 rfl (lv_at hl 2 rfl) ?_
      refine k_SN (As := [.ref (p1_q 13), .int (x2)]) (rest := [.ref p1_o, .ref t_o]) (host := "PloughCall") (index := 51) X (ct_X12_at (out := (ga (5) p1_sizes (x2))) rfl) nw_91 tw_119 tw_591 tw_592 ⟨rfl, rfl⟩ hd_X12_at.2 ⟨Nat.le_of_ble_eq_true rfl, Nat.le_of_ble_eq_true rfl⟩ ⟨Nat.zero_le _, Nat.zero_le _⟩ hw [14] rfl rfl rfl hl.1 rfl (Nat.le_of_ble_eq_true rfl) dX2_parting_30 (fun H locs hw => ?_)
      have hw : Wd E A s.heap (wX2 E t_o t_q t_path t_row t_leastRow t_needed t_likeSizes t_ways t_nextWays t_least t_ended t_monthsKept ++ (wX1 E p1_o p1_q p1_men p1_consuls p1_dangers p1_decrees p1_term p1_termTold p1_manNames p1_kinds p1_skills p1_fields p1_wants p1_hated p1_dangerNames p1_sizes p1_grows p1_decreeNames p1_grounds (.ref p1slaws_o) ++ (wX3 E p1slaws_o p1slaws_q p1slaws_ops p1slaws_stack p1slaws_size p1slaws_worksFrom p1slaws_worksTo p1slaws_keepsFrom p1slaws_keepsTo))) H locs := hw
      refine lv_iload_n hx hb dX2_parting_33 rfl (lv_at hl 3 rfl) ?_
      refine lv_iload hx hb dX2_parting_34 (lv_at hl 6 rfl) ?_
      obtain ⟨r36, hc_36, hf⟩ := bd_some hf
      refine k_V (As := [.ref p1_o, .int ((ga (5) p1_sizes (x2))), .int (x3), .int (x7)]) (rest := []) (index := 153) (C := RX2) X (c_X2_mostAlike hc_36) tw_1204 tw_1206 tw_41 tw_122 tw_1207 ⟨rfl, rfl⟩ hd_X2_mostAlike ⟨Nat.le_of_ble_eq_true rfl, Nat.le_of_ble_eq_true rfl⟩ ⟨Nat.zero_le _, Nat.zero_le _⟩ hw [0, 1, 2, 3, 4, 5, 6, 7, 8, 9, 10, 11, 12, 13, 14, 15, 16, 17, 18, 19, 20] rfl rfl 0 rfl rfl rfl rfl hl.1 rfl (Nat.le_of_ble_eq_true rfl) dX2_parting_36 (fun H locs hw => ?_)
      have hw : Wd E A s.heap (wX2 E t_o t_q t_path t_row t_leastRow t_needed r36.2.1 t_ways t_nextWays t_least t_ended t_monthsKept ++ (wX1 E p1_o p1_q p1_men p1_consuls p1_dangers p1_decrees p1_term p1_termTold p1_manNames p1_kinds p1_skills p1_fields p1_wants p1_hated p1_dangerNames p1_sizes p1_grows p1_decreeNames p1_grounds (.ref p1slaws_o) ++ (wX3 E p1slaws_o p1slaws_q p1slaws_ops r36.2.2 p1slaws_size p1slaws_worksFrom p1slaws_worksTo p1slaws_keepsFrom p1slaws_keepsTo))) H locs := hw
      refine lv_istore (lv' := [(8, .int (r36.1)), (0, .ref t_o), (1, .ref p1_o), (2, .int (x2)), (3, .int (x3)), (5, .int (x5)), (6, .int (x6)), (7, .int (x7))]) hx hb dX2_parting_39 hl (by decide) rfl (fun ls hl => ?_)
      refine lv_iload hx hb dX2_parting_41 (lv_at hl 0 rfl) ?_
      refine lv_iload hx hb dX2_parting_43 (lv_at hl 6 rfl) ?_
      refine lv_icmp_ge (tgt := 56) hx hb dX2_parting_45 (by decide) (fun c_45 => ?_) (fun c_45 => ?_)
      · have hf := (if_pos c_45).symm.trans hf
        refine lv_iinc (v := (x7 + (1 : Int32))) (lv' := [(7, .int ((x7 + (1 : Int32)))), (8, .int (r36.1)), (0, .ref t_o), (1, .ref p1_o), (2, .int (x2)), (3, .int (x3)), (5, .int (x5)), (6, .int (x6))]) hx hb dX2_parting_56 hl (k := 7) rfl rfl (by decide) rfl (fun ls hl => ?_)
        refine lv_goto (tgt := 16) hx hb dX2_parting_59 (by decide) ?_
        exact ih hf hw (lv_sub hl [2, 3, 4, 5, 6, 7, 0] rfl)
      · have hf := (if_neg c_45).symm.trans hf
        refine lv_iload hx hb dX2_parting_48 (lv_at hl 0 rfl) ?_
        refine lv_istore (lv' := [(6, .int (r36.1)), (8, .int (r36.1)), (0, .ref t_o), (1, .ref p1_o), (2, .int (x2)), (3, .int (x3)), (5, .int (x5)), (7, .int (x7))]) hx hb dX2_parting_50 hl (by decide) rfl (fun ls hl => ?_)
        refine lv_iload hx hb dX2_parting_52 (lv_at hl 7 rfl) ?_
        refine lv_istore (lv' := [(5, .int (x7)), (6, .int (r36.1)), (8, .int (r36.1)), (0, .ref t_o), (1, .ref p1_o), (2, .int (x2)), (3, .int (x3)), (7, .int (x7))]) hx hb dX2_parting_54 hl (by decide) rfl (fun ls hl => ?_)
        refine lv_iinc (v := (x7 + (1 : Int32))) (lv' := [(7, .int ((x7 + (1 : Int32)))), (5, .int (x7)), (6, .int (r36.1)), (8, .int (r36.1)), (0, .ref t_o), (1, .ref p1_o), (2, .int (x2)), (3, .int (x3))]) hx hb dX2_parting_56 hl (k := 7) rfl rfl (by decide) rfl (fun ls hl => ?_)
        refine lv_goto (tgt := 16) hx hb dX2_parting_59 (by decide) ?_
        exact ih hf hw (lv_sub hl [4, 5, 6, 7, 1, 2, 0] rfl)
set_option maxRecDepth 100000 in
set_option maxHeartbeats 4000000 in
theorem c_X2_parting {E : En} {l : Launch} {t_o : Nat} {t_q : Nat → Nat} {t_path : (Nat → Option Nat)} {t_row : (Nat → Int32)} {t_leastRow : (Nat → Int32)} {t_needed : (Nat → Int32)} {t_likeSizes : (Nat → Int32)} {t_ways : Value} {t_nextWays : Value} {t_least : Int32} {t_ended : Int32} {t_monthsKept : Int32} {p1_o : Nat} {p1_q : Nat → Nat} {p1_men : Int32} {p1_consuls : Int32} {p1_dangers : Int32} {p1_decrees : Int32} {p1_term : Int32} {p1_termTold : Int32} {p1_manNames : (Nat → Int64)} {p1_kinds : (Nat → Int32)} {p1_skills : (Nat → Int32)} {p1_fields : (Nat → Int32)} {p1_wants : (Nat → Int32)} {p1_hated : (Nat → Int32)} {p1_dangerNames : (Nat → Int64)} {p1_sizes : (Nat → Int32)} {p1_grows : (Nat → Int32)} {p1_decreeNames : (Nat → Int64)} {p1_grounds : (Nat → Int32)} {p1slaws_o : Nat} {p1slaws_q : Nat → Nat} {p1slaws_ops : (Nat → Int32)} {p1slaws_stack : (Nat → Int32)} {p1slaws_size : Int32} {p1slaws_worksFrom : Int32} {p1slaws_worksTo : Int32} {p1slaws_keepsFrom : Int32} {p1slaws_keepsTo : Int32} {x2 : Int32} {x3 : Int32} {out : Int32 × (Nat → Int32) × (Nat → Int32)} (hf : f_X2_parting t_likeSizes p1_men p1_kinds p1_skills p1_wants p1_sizes p1slaws_ops p1slaws_stack p1slaws_worksFrom p1slaws_worksTo p1slaws_keepsFrom p1slaws_keepsTo x2 x3 = some out) : Cn E l yX2_parting cX2_parting 9 (some .int) rm_X2_parting [.ref t_o, .ref p1_o, .int (x2), .int (x3)] (wX2 E t_o t_q t_path t_row t_leastRow t_needed t_likeSizes t_ways t_nextWays t_least t_ended t_monthsKept ++ (wX1 E p1_o p1_q p1_men p1_consuls p1_dangers p1_decrees p1_term p1_termTold p1_manNames p1_kinds p1_skills p1_fields p1_wants p1_hated p1_dangerNames p1_sizes p1_grows p1_decreeNames p1_grounds (.ref p1slaws_o) ++ (wX3 E p1slaws_o p1slaws_q p1slaws_ops p1slaws_stack p1slaws_size p1slaws_worksFrom p1slaws_worksTo p1slaws_keepsFrom p1slaws_keepsTo))) (some (.int out.1)) (wX2 E t_o t_q t_path t_row t_leastRow t_needed out.2.1 t_ways t_nextWays t_least t_ended t_monthsKept ++ (wX1 E p1_o p1_q p1_men p1_consuls p1_dangers p1_decrees p1_term p1_termTold p1_manNames p1_kinds p1_skills p1_fields p1_wants p1_hated p1_dangerNames p1_sizes p1_grows p1_decreeNames p1_grounds (.ref p1slaws_o) ++ (wX3 E p1slaws_o p1slaws_q p1slaws_ops out.2.2 p1slaws_size p1slaws_worksFrom p1slaws_worksTo p1slaws_keepsFrom p1slaws_keepsTo))) := by
  refine Cn.of (by decide) (Nat.le_of_ble_eq_true rfl) rfl ?_
  intro p e s m below meth c A ls args H locs X hw hl
  have hx := X.1.1
  have hb := X.1.2.1
  have ho := X.1.2.2.2.1
  have hts := X.1.2.2.2.2
  have hl : lv_has ls 9 [(0, .ref t_o), (1, .ref p1_o), (2, .int (x2)), (3, .int (x3))] := hl
  unfold f_X2_parting at hf
  refine lv_iload_n hx hb dX2_parting_0 rfl (lv_at hl 3 rfl) ?_
  refine k_SX (As := [.int (x3)]) (rest := []) (index := 147) X (c_X20_bitCount (out := (f_X20_bitCount (x3))) rfl) tw_1203 tw_701 tw_134 tw_702 ⟨rfl, rfl⟩ hd_X20_bitCount.2 ⟨Nat.le_of_ble_eq_true rfl, Nat.le_of_ble_eq_true rfl⟩ ⟨Nat.zero_le _, Nat.zero_le _⟩ hw [] rfl rfl rfl hl.1 rfl (Nat.le_of_ble_eq_true rfl) dX2_parting_1 (fun H locs hw => ?_)
  have hw : Wd E A s.heap (wX2 E t_o t_q t_path t_row t_leastRow t_needed t_likeSizes t_ways t_nextWays t_least t_ended t_monthsKept ++ (wX1 E p1_o p1_q p1_men p1_consuls p1_dangers p1_decrees p1_term p1_termTold p1_manNames p1_kinds p1_skills p1_fields p1_wants p1_hated p1_dangerNames p1_sizes p1_grows p1_decreeNames p1_grounds (.ref p1slaws_o) ++ (wX3 E p1slaws_o p1slaws_q p1slaws_ops p1slaws_stack p1slaws_size p1slaws_worksFrom p1slaws_worksTo p1slaws_keepsFrom p1slaws_keepsTo))) H locs := hw
  refine lv_istore (lv' := [(4, .int ((f_X20_bitCount (x3)))), (0, .ref t_o), (1, .ref p1_o), (2, .int (x2)), (3, .int (x3))]) hx hb dX2_parting_4 hl (by decide) rfl (fun ls hl => ?_)
  refine lv_iconst (v := (-1 : Int32)) hx hb dX2_parting_6 (by decide) ?_
  refine lv_istore (lv' := [(5, .int ((-1 : Int32))), (4, .int ((f_X20_bitCount (x3)))), (0, .ref t_o), (1, .ref p1_o), (2, .int (x2)), (3, .int (x3))]) hx hb dX2_parting_7 hl (by decide) rfl (fun ls hl => ?_)
  refine lv_iload hx hb dX2_parting_9 (lv_at hl 1 rfl) ?_
  refine lv_istore (lv' := [(6, .int ((f_X20_bitCount (x3)))), (5, .int ((-1 : Int32))), (4, .int ((f_X20_bitCount (x3)))), (0, .ref t_o), (1, .ref p1_o), (2, .int (x2)), (3, .int (x3))]) hx hb dX2_parting_11 hl (by decide) rfl (fun ls hl => ?_)
  refine lv_iconst (v := (0 : Int32)) hx hb dX2_parting_13 (by decide) ?_
  refine lv_istore (lv' := [(7, .int ((0 : Int32))), (6, .int ((f_X20_bitCount (x3)))), (5, .int ((-1 : Int32))), (4, .int ((f_X20_bitCount (x3)))), (0, .ref t_o), (1, .ref p1_o), (2, .int (x2)), (3, .int (x3))]) hx hb dX2_parting_14 hl (by decide) rfl (fun ls hl => ?_)
  exact kb_X2_parting_16 X 1100 hf hw (lv_sub hl [4, 5, 6, 7, 2, 1, 0] rfl)
/-! private int groundsTold(); -/
def f_X6_groundsTold_24 (K4 : Int32 → Int32 → (Nat → Int64) → (Nat → Int32) → Int32 → Int32 → Int32 → Int32 → Int32 → Int64 → (Option Nat) → Int32 → Int32 → Option (Int32 × Int32 × Int32 × Int32 × Int32 × Int32 × Int64 × (Option Nat))) (t_fault : Int32) (tscity_decrees : Int32) (tscity_decreeNames : (Nat → Int64)) (tstape_signs : (Nat → Int32)) (tstape_length : Int32) (tstape_place : Int32) (tstape_behind : Int32) (tstape_kind : Int32) (tstape_value : Int32) (tstape_letters : Int64) (tstape_word : (Option Nat)) (x1 : Int32) (x2 : Int32) : Option (Int32 × Int32 × Int32 × Int32 × Int32 × Int32 × Int64 × (Option Nat)) := (f_X10_isName tstape_kind tstape_word).bind fun r28 => if r28 = (0 : Int32) then some ((-1 : Int32), (f_X6_wrong tstape_place ((1 : Int32))).2, tstape_place, tstape_behind, tstape_kind, tstape_value, tstape_letters, tstape_word)
  else (f_X1_decreeNamed tscity_decrees tscity_decreeNames (tstape_letters)).bind fun r53 => if r53 = (-1 : Int32) then some ((-1 : Int32), (f_X6_wrong tstape_place ((2 : Int32))).2, tstape_place, tstape_behind, tstape_kind, tstape_value, tstape_letters, tstape_word)
  else if ((x1 >>> (r53 &&& (31 : Int32))) &&& (1 : Int32)) = (1 : Int32) then some ((-1 : Int32), (f_X6_wrong tstape_place ((3 : Int32))).2, tstape_place, tstape_behind, tstape_kind, tstape_value, tstape_letters, tstape_word)
  else (f_X10_advance tstape_signs tstape_length tstape_behind).bind fun r97 => K4 t_fault tscity_decrees tscity_decreeNames tstape_signs tstape_length r97.1 r97.2.1 r97.2.2.1 r97.2.2.2.1 r97.2.2.2.2.1 r97.2.2.2.2.2 ((x1 ||| ((1 : Int32) <<< (r53 &&& (31 : Int32))))) ((x2 + (1 : Int32)))
def f_X6_groundsTold_4 : Nat → Int32 → Int32 → (Nat → Int64) → (Nat → Int32) → Int32 → Int32 → Int32 → Int32 → Int32 → Int64 → (Option Nat) → Int32 → Int32 → Option (Int32 × Int32 × Int32 × Int32 × Int32 × Int32 × Int64 × (Option Nat))
  | 0, _, _, _, _, _, _, _, _, _, _, _, _, _ => none
  | n + 1, t_fault, tscity_decrees, tscity_decreeNames, tstape_signs, tstape_length, tstape_place, tstape_behind, tstape_kind, tstape_value, tstape_letters, tstape_word, x1, x2 => if (6 : Int32) < x2 then some (x1, t_fault, tstape_place, tstape_behind, tstape_kind, tstape_value, tstape_letters, tstape_word)
    else if x2 = (0 : Int32) then f_X6_groundsTold_24 (f_X6_groundsTold_4 n) t_fault tscity_decrees tscity_decreeNames tstape_signs tstape_length tstape_place tstape_behind tstape_kind tstape_value tstape_letters tstape_word x1 x2
    else (f_X10_isName tstape_kind tstape_word).bind fun r18 => if r18 = (0 : Int32) then some (x1, t_fault, tstape_place, tstape_behind, tstape_kind, tstape_value, tstape_letters, tstape_word)
    else f_X6_groundsTold_24 (f_X6_groundsTold_4 n) t_fault tscity_decrees tscity_decreeNames tstape_signs tstape_length tstape_place tstape_behind tstape_kind tstape_value tstape_letters tstape_word x1 x2
def f_X6_groundsTold (t_fault : Int32) (tscity_decrees : Int32) (tscity_decreeNames : (Nat → Int64)) (tstape_signs : (Nat → Int32)) (tstape_length : Int32) (tstape_place : Int32) (tstape_behind : Int32) (tstape_kind : Int32) (tstape_value : Int32) (tstape_letters : Int64) (tstape_word : (Option Nat)) : Option (Int32 × Int32 × Int32 × Int32 × Int32 × Int32 × Int64 × (Option Nat)) := f_X6_groundsTold_4 1100 t_fault tscity_decrees tscity_decreeNames tstape_signs tstape_length tstape_place tstape_behind tstape_kind tstape_value tstape_letters tstape_word ((0 : Int32)) ((0 : Int32))
abbrev rm_X6_groundsTold : Room := { frames := 3, cells := 0, slots := 0, locals := 64 }
theorem hd_X6_groundsTold : yX6_groundsTold.cls = RX6 ∧ yX6_groundsTold.cls ≠ "java/lang/invoke/MethodHandle" ∧ yX6_groundsTold.cls ≠ "java/lang/invoke/VarHandle" ∧ (parseMethodDescriptor yX6_groundsTold.desc).map (fun d => d.parameters.length) = some 0 := by decide +kernel
set_option maxRecDepth 100000 in
set_option maxHeartbeats 4000000 in
theorem kb_X6_groundsTold_24 {E : En} {p : Program} {l : Launch} {e : Env} {s : State} {m : MethodId} {args : Array Value} {below : List Frame} {meth : Method} {c : Code} {A : Nat → Prop} {t_o : Nat} {t_script : Value} {tscity_o : Nat} {tscity_q : Nat → Nat} {tscity_men : Int32} {tscity_consuls : Int32} {tscity_dangers : Int32} {tscity_decrees : Int32} {tscity_term : Int32} {tscity_termTold : Int32} {tscity_manNames : (Nat → Int64)} {tscity_kinds : (Nat → Int32)} {tscity_skills : (Nat → Int32)} {tscity_fields : (Nat → Int32)} {tscity_wants : (Nat → Int32)} {tscity_hated : (Nat → Int32)} {tscity_dangerNames : (Nat → Int64)} {tscity_sizes : (Nat → Int32)} {tscity_grows : (Nat → Int32)} {tscity_decreeNames : (Nat → Int64)} {tscity_grounds : (Nat → Int32)} {tscity_laws : Value} {tstape_o : Nat} {tstape_q : Nat → Nat} {tstape_signs : (Nat → Int32)} {tstape_length : Int32} {out : Int32 × Int32 × Int32 × Int32 × Int32 × Int32 × Int64 × (Option Nat)} (X : Bx E A p s m args meth c cX6_groundsTold 4 RX6 (some .int)) {K4 : Int32 → Int32 → (Nat → Int64) → (Nat → Int32) → Int32 → Int32 → Int32 → Int32 → Int32 → Int64 → (Option Nat) → Int32 → Int32 → Option (Int32 × Int32 × Int32 × Int32 × Int32 × Int32 × Int64 × (Option Nat))} (hK4 : ∀ {t_fault : Int32} {tstape_place : Int32} {tstape_behind : Int32} {tstape_kind : Int32} {tstape_value : Int32} {tstape_letters : Int64} {tstape_word : (Option Nat)} {x1 : Int32} {x2 : Int32} {H : Heap} {locs : List Loc} {ls : Array Slot}, K4 t_fault tscity_decrees tscity_decreeNames tstape_signs tstape_length tstape_place tstape_behind tstape_kind tstape_value tstape_letters tstape_word x1 x2 = some out → Wd E A s.heap (wX6 E t_o (.ref tstape_o) (.ref tscity_o) t_script t_fault ++ (wX1 E tscity_o tscity_q tscity_men tscity_consuls tscity_dangers tscity_decrees tscity_term tscity_termTold tscity_manNames tscity_kinds tscity_skills tscity_fields tscity_wants tscity_hated tscity_dangerNames tscity_sizes tscity_grows tscity_decreeNames tscity_grounds tscity_laws ++ (wX10 E tstape_o tstape_q tstape_signs tstape_length tstape_place tstape_behind tstape_kind tstape_value tstape_letters tstape_word))) H locs → lv_has ls 4 [(0, .ref t_o), (1, .int (x1)), (2, .int (x2))] → W p l e rm_X6_groundsTold s m args below meth c H locs 0 0 (Zn E below args s A (some (.int out.1)) (wX6 E t_o (.ref tstape_o) (.ref tscity_o) t_script out.2.1 ++ (wX1 E tscity_o tscity_q tscity_men tscity_consuls tscity_dangers tscity_decrees tscity_term tscity_termTold tscity_manNames tscity_kinds tscity_skills tscity_fields tscity_wants tscity_hated tscity_dangerNames tscity_sizes tscity_grows tscity_decreeNames tscity_grounds tscity_laws ++ (wX10 E tstape_o tstape_q tstape_signs tstape_length out.2.2.1 out.2.2.2.1 out.2.2.2.2.1 out.2.2.2.2.2.1 out.2.2.2.2.2.2.1 out.2.2.2.2.2.2.2)))) (F0 m 4 ls [])) {t_fault : Int32} {tstape_place : Int32} {tstape_behind : Int32} {tstape_kind : Int32} {tstape_value : Int32} {tstape_letters : Int64} {tstape_word : (Option Nat)} {x1 : Int32} {x2 : Int32} {H : Heap} {locs : List Loc} {ls : Array Slot} (hf : f_X6_groundsTold_24 K4 t_fault tscity_decrees tscity_decreeNames tstape_signs tstape_length tstape_place tstape_behind tstape_kind tstape_value tstape_letters tstape_word x1 x2 = some out) : Wd E A s.heap (wX6 E t_o (.ref tstape_o) (.ref tscity_o) t_script t_fault ++ (wX1 E tscity_o tscity_q tscity_men tscity_consuls tscity_dangers tscity_decrees tscity_term tscity_termTold tscity_manNames tscity_kinds tscity_skills tscity_fields tscity_wants tscity_hated tscity_dangerNames tscity_sizes tscity_grows tscity_decreeNames tscity_grounds tscity_laws ++ (wX10 E tstape_o tstape_q tstape_signs tstape_length tstape_place tstape_behind tstape_kind tstape_value tstape_letters tstape_word))) H locs → lv_has ls 4 [(0, .ref t_o), (1, .int (x1)), (2, .int (x2))] → W p l e rm_X6_groundsTold s m args below meth c H locs 0 0 (Zn E below args s A (some (.int out.1)) (wX6 E t_o (.ref tstape_o) (.ref tscity_o) t_script out.2.1 ++ (wX1 E tscity_o tscity_q tscity_men tscity_consuls tscity_dangers tscity_decrees tscity_term tscity_termTold tscity_manNames tscity_kinds tscity_skills tscity_fields tscity_wants tscity_hated tscity_dangerNames tscity_sizes tscity_grows tscity_decreeNames tscity_grounds tscity_laws ++ (wX10 E tstape_o tstape_q tstape_signs tstape_length out.2.2.1 out.2.2.2.1 out.2.2.2.2.1 out.2.2.2.2.2.1 out.2.2.2.2.2.2.1 out.2.2.2.2.2.2.2)))) (F0 m 24 ls []) := by
  have hx := X.1.1
  have hb := X.1.2.1
  have ho := X.1.2.2.2.1
  have hts := X.1.2.2.2.2
  intro hw hl
  unfold f_X6_groundsTold_24 at hf
  refine lv_aload_n hx hb dX6_groundsTold_24 rfl (lv_at hl 0 rfl) ?_
  refine k_get (q0 := 0) (ci := 5) (C := RX6) (T := TX6) (N := 4) (x := .ref tstape_o) X inx_6 hw rfl rfl 0 (by decide) rfl tw_192 rfl dX6_groundsTold_25 ?_
  obtain ⟨r28, hc_28, hf⟩ := bd_some hf
  refine k_V (As := []) (rest := []) (index := 205) (C := RX10) X (c_X10_isName hc_28) tw_638 tw_639 tw_640 tw_120 tw_641 ⟨rfl, rfl⟩ hd_X10_isName ⟨Nat.le_of_ble_eq_true rfl, Nat.le_of_ble_eq_true rfl⟩ ⟨Nat.zero_le _, Nat.zero_le _⟩ hw [13, 14] rfl rfl 13 rfl rfl rfl rfl hl.1 rfl (Nat.le_of_ble_eq_true rfl) dX6_groundsTold_28 (fun H locs hw => ?_)
  have hw : Wd E A s.heap (wX6 E t_o (.ref tstape_o) (.ref tscity_o) t_script t_fault ++ (wX1 E tscity_o tscity_q tscity_men tscity_consuls tscity_dangers tscity_decrees tscity_term tscity_termTold tscity_manNames tscity_kinds tscity_skills tscity_fields tscity_wants tscity_hated tscity_dangerNames tscity_sizes tscity_grows tscity_decreeNames tscity_grounds tscity_laws ++ (wX10 E tstape_o tstape_q tstape_signs tstape_length tstape_place tstape_behind tstape_kind tstape_value tstape_letters tstape_word))) H locs := hw
  refine lv_if_ne (tgt := 42) hx hb dX6_groundsTold_31 (by decide) (fun c_31 => ?_) (fun c_31 => ?_)
  · have hf := (if_neg c_31).symm.trans hf
    refine lv_aload_n hx hb dX6_groundsTold_42 rfl (lv_at hl 0 rfl) ?_
    refine k_get (q0 := 0) (ci := 5) (C := RX6) (T := TX6) (N := 4) (x := .ref tscity_o) X inx_6 hw rfl rfl 1 (by decide) rfl tw_193 rfl dX6_groundsTold_43 ?_
    refine lv_aload_n hx hb dX6_groundsTold_46 rfl (lv_at hl 0 rfl) ?_
    refine k_get (q0 := 0) (ci := 5) (C := RX6) (T := TX6) (N := 4) (x := .ref tstape_o) X inx_6 hw rfl rfl 0 (by decide) rfl tw_192 rfl dX6_groundsTold_47 ?_
    refine k_getN (q0 := 13) (ci := 9) (C := RX10) (T := TX10) (N := 8) (host := "PloughCall") (x := .long (tstape_letters)) X inx_10 hw rfl rfl 6 (by decide) rfl nw_5 rfl dX6_groundsTold_50 ?_
    obtain ⟨r53, hc_53, hf⟩ := bd_some hf
    refine k_V (As := [.long (tstape_letters)]) (rest := []) (index := 208) (C := RX1) X (c_X1_decreeNamed hc_53) tw_753 tw_658 tw_659 tw_126 tw_660 ⟨rfl, rfl⟩ hd_X1_decreeNamed ⟨Nat.le_of_ble_eq_true rfl, Nat.le_of_ble_eq_true rfl⟩ ⟨Nat.zero_le _, Nat.zero_le _⟩ hw [1, 2, 3, 4, 5, 6, 7, 8, 9, 10, 11, 12] rfl rfl 1 rfl rfl rfl rfl hl.1 rfl (Nat.le_of_ble_eq_true rfl) dX6_groundsTold_53 (fun H locs hw => ?_)
    have hw : Wd E A s.heap (wX6 E t_o (.ref tstape_o) (.ref tscity_o) t_script t_fault ++ (wX1 E tscity_o tscity_q tscity_men tscity_consuls tscity_dangers tscity_decrees tscity_term tscity_termTold tscity_manNames tscity_kinds tscity_skills tscity_fields tscity_wants tscity_hated tscity_dangerNames tscity_sizes tscity_grows tscity_decreeNames tscity_grounds tscity_laws ++ (wX10 E tstape_o tstape_q tstape_signs tstape_length tstape_place tstape_behind tstape_kind tstape_value tstape_letters tstape_word))) H locs := hw
    refine lv_istore_n (lv' := [(3, .int (r53)), (0, .ref t_o), (1, .int (x1)), (2, .int (x2))]) hx hb dX6_groundsTold_56 rfl hl (by decide) rfl (fun ls hl => ?_)
    refine lv_iload_n hx hb dX6_groundsTold_57 rfl (lv_at hl 0 rfl) ?_
    refine lv_iconst (v := (-1 : Int32)) hx hb dX6_groundsTold_58 (by decide) ?_
    refine lv_icmp_ne (tgt := 70) hx hb dX6_groundsTold_59 (by decide) (fun c_59 => ?_) (fun c_59 => ?_)
    · have hf := (if_neg c_59).symm.trans hf
      refine lv_iload_n hx hb dX6_groundsTold_70 rfl (lv_at hl 2 rfl) ?_
      refine lv_iload_n hx hb dX6_groundsTold_71 rfl (lv_at hl 0 rfl) ?_
      refine lv_ishr hx hb dX6_groundsTold_72 ?_
      refine lv_iconst (v := (1 : Int32)) hx hb dX6_groundsTold_73 (by decide) ?_
      refine lv_iand hx hb dX6_groundsTold_74 ?_
      refine lv_iconst (v := (1 : Int32)) hx hb dX6_groundsTold_75 (by decide) ?_
      refine lv_icmp_ne (tgt := 87) hx hb dX6_groundsTold_76 (by decide) (fun c_76 => ?_) (fun c_76 => ?_)
      · have hf := (if_neg c_76).symm.trans hf
        refine lv_iload_n hx hb dX6_groundsTold_87 rfl (lv_at hl 2 rfl) ?_
        refine lv_iconst (v := (1 : Int32)) hx hb dX6_groundsTold_88 (by decide) ?_
        refine lv_iload_n hx hb dX6_groundsTold_89 rfl (lv_at hl 0 rfl) ?_
        refine lv_ishl hx hb dX6_groundsTold_90 ?_
        refine lv_ior hx hb dX6_groundsTold_91 ?_
        refine lv_istore_n (lv' := [(1, .int ((x1 ||| ((1 : Int32) <<< (r53 &&& (31 : Int32)))))), (3, .int (r53)), (0, .ref t_o), (2, .int (x2))]) hx hb dX6_groundsTold_92 rfl hl (by decide) rfl (fun ls hl => ?_)
        refine lv_aload_n hx hb dX6_groundsTold_93 rfl (lv_at hl 2 rfl) ?_
        refine k_get (q0 := 0) (ci := 5) (C := RX6) (T := TX6) (N := 4) (x := .ref tstape_o) X inx_6 hw rfl rfl 0 (by decide) rfl tw_192 rfl dX6_groundsTold_94 ?_
        obtain ⟨r97, hc_97, hf⟩ := bd_some hf
        refine k_V (As := []) (rest := []) (index := 103) (C := RX10) X (c_X10_advance hc_97) tw_633 tw_587 tw_588 tw_120 tw_589 ⟨rfl, rfl⟩ hd_X10_advance ⟨Nat.le_of_ble_eq_true rfl, Nat.le_of_ble_eq_true rfl⟩ ⟨Nat.zero_le _, Nat.zero_le _⟩ hw [13, 14] rfl rfl 13 rfl rfl rfl rfl hl.1 rfl (Nat.le_of_ble_eq_true rfl) dX6_groundsTold_97 (fun H locs hw => ?_)
        have hw : Wd E A s.heap (wX6 E t_o (.ref tstape_o) (.ref tscity_o) t_script t_fault ++ (wX1 E tscity_o tscity_q tscity_men tscity_consuls tscity_dangers tscity_decrees tscity_term tscity_termTold tscity_manNames tscity_kinds tscity_skills tscity_fields tscity_wants tscity_hated tscity_dangerNames tscity_sizes tscity_grows tscity_decreeNames tscity_grounds tscity_laws ++ (wX10 E tstape_o tstape_q tstape_signs tstape_length r97.1 r97.2.1 r97.2.2.1 r97.2.2.2.1 r97.2.2.2.2.1 r97.2.2.2.2.2))) H locs := hw
        refine lv_iinc (v := (x2 + (1 : Int32))) (lv' := [(2, .int ((x2 + (1 : Int32)))), (1, .int ((x1 ||| ((1 : Int32) <<< (r53 &&& (31 : Int32)))))), (3, .int (r53)), (0, .ref t_o)]) hx hb dX6_groundsTold_100 hl (k := 3) rfl rfl (by decide) rfl (fun ls hl => ?_)
        refine lv_goto (tgt := 4) hx hb dX6_groundsTold_103 (by decide) ?_
        exact hK4 hf hw (lv_sub hl [3, 1, 0] rfl)
      · have hf := (if_pos c_76).symm.trans hf
        refine lv_aload_n hx hb dX6_groundsTold_79 rfl (lv_at hl 1 rfl) ?_
        refine lv_iconst (v := (3 : Int32)) hx hb dX6_groundsTold_80 (by decide) ?_
        refine k_V (As := [.int ((3 : Int32))]) (rest := []) (index := 62) (C := RX6) X (c_X6_wrong (out := (f_X6_wrong tstape_place ((3 : Int32)))) rfl) tw_617 tw_619 tw_3 tw_121 tw_620 ⟨rfl, rfl⟩ hd_X6_wrong ⟨Nat.le_of_ble_eq_true rfl, Nat.le_of_ble_eq_true rfl⟩ ⟨Nat.zero_le _, Nat.zero_le _⟩ hw [0, 13, 14] rfl rfl 0 rfl rfl rfl rfl hl.1 rfl (Nat.le_of_ble_eq_true rfl) dX6_groundsTold_81 (fun H locs hw => ?_)
        have hw : Wd E A s.heap (wX6 E t_o (.ref tstape_o) (.ref tscity_o) t_script ((f_X6_wrong tstape_place ((3 : Int32))).2) ++ (wX1 E tscity_o tscity_q tscity_men tscity_consuls tscity_dangers tscity_decrees tscity_term tscity_termTold tscity_manNames tscity_kinds tscity_skills tscity_fields tscity_wants tscity_hated tscity_dangerNames tscity_sizes tscity_grows tscity_decreeNames tscity_grounds tscity_laws ++ (wX10 E tstape_o tstape_q tstape_signs tstape_length tstape_place tstape_behind tstape_kind tstape_value tstape_letters tstape_word))) H locs := hw
        refine lv_pop hx hb dX6_groundsTold_84 rfl ?_
        refine lv_iconst (v := (-1 : Int32)) hx hb dX6_groundsTold_85 (by decide) ?_
        obtain rfl := Option.some.inj hf
        exact k_iret X hw dX6_groundsTold_86
    · have hf := (if_pos c_59).symm.trans hf
      refine lv_aload_n hx hb dX6_groundsTold_62 rfl (lv_at hl 1 rfl) ?_
      refine lv_iconst (v := (2 : Int32)) hx hb dX6_groundsTold_63 (by decide) ?_
      refine k_V (As := [.int ((2 : Int32))]) (rest := []) (index := 62) (C := RX6) X (c_X6_wrong (out := (f_X6_wrong tstape_place ((2 : Int32)))) rfl) tw_617 tw_619 tw_3 tw_121 tw_620 ⟨rfl, rfl⟩ hd_X6_wrong ⟨Nat.le_of_ble_eq_true rfl, Nat.le_of_ble_eq_true rfl⟩ ⟨Nat.zero_le _, Nat.zero_le _⟩ hw [0, 13, 14] rfl rfl 0 rfl rfl rfl rfl hl.1 rfl (Nat.le_of_ble_eq_true rfl) dX6_groundsTold_64 (fun H locs hw => ?_)
      have hw : Wd E A s.heap (wX6 E t_o (.ref tstape_o) (.ref tscity_o) t_script ((f_X6_wrong tstape_place ((2 : Int32))).2) ++ (wX1 E tscity_o tscity_q tscity_men tscity_consuls tscity_dangers tscity_decrees tscity_term tscity_termTold tscity_manNames tscity_kinds tscity_skills tscity_fields tscity_wants tscity_hated tscity_dangerNames tscity_sizes tscity_grows tscity_decreeNames tscity_grounds tscity_laws ++ (wX10 E tstape_o tstape_q tstape_signs tstape_length tstape_place tstape_behind tstape_kind tstape_value tstape_letters tstape_word))) H locs := hw
      refine lv_pop hx hb dX6_groundsTold_67 rfl ?_
      refine lv_iconst (v := (-1 : Int32)) hx hb dX6_groundsTold_68 (by decide) ?_
      obtain rfl := Option.some.inj hf
      exact k_iret X hw dX6_groundsTold_69
  · have hf := (if_pos c_31).symm.trans hf
    refine lv_aload_n hx hb dX6_groundsTold_34 rfl (lv_at hl 0 rfl) ?_
    refine lv_iconst (v := (1 : Int32)) hx hb dX6_groundsTold_35 (by decide) ?_
    refine k_V (As := [.int ((1 : Int32))]) (rest := []) (index := 62) (C := RX6) X (c_X6_wrong (out := (f_X6_wrong tstape_place ((1 : Int32)))) rfl) tw_617 tw_619 tw_3 tw_121 tw_620 ⟨rfl, rfl⟩ hd_X6_wrong ⟨Nat.le_of_ble_eq_true rfl, Nat.le_of_ble_eq_true rfl⟩ ⟨Nat.zero_le _, Nat.zero_le _⟩ hw [0, 13, 14] rfl rfl 0 rfl rfl rfl rfl hl.1 rfl (Nat.le_of_ble_eq_true rfl) dX6_groundsTold_36 (fun H locs hw => ?_)
    have hw : Wd E A s.heap (wX6 E t_o (.ref tstape_o) (.ref tscity_o) t_script ((f_X6_wrong tstape_place ((1 : Int32))).2) ++ (wX1 E tscity_o tscity_q tscity_men tscity_consuls tscity_dangers tscity_decrees tscity_term tscity_termTold tscity_manNames tscity_kinds tscity_skills tscity_fields tscity_wants tscity_hated tscity_dangerNames tscity_sizes tscity_grows tscity_decreeNames tscity_grounds tscity_laws ++ (wX10 E tstape_o tstape_q tstape_signs tstape_length tstape_place tstape_behind tstape_kind tstape_value tstape_letters tstape_word))) H locs := hw
    refine lv_pop hx hb dX6_groundsTold_39 rfl ?_
    refine lv_iconst (v := (-1 : Int32)) hx hb dX6_groundsTold_40 (by decide) ?_
    obtain rfl := Option.some.inj hf
    exact k_iret X hw dX6_groundsTold_41
set_option maxRecDepth 100000 in
set_option maxHeartbeats 4000000 in
theorem kb_X6_groundsTold_4 {E : En} {p : Program} {l : Launch} {e : Env} {s : State} {m : MethodId} {args : Array Value} {below : List Frame} {meth : Method} {c : Code} {A : Nat → Prop} {t_o : Nat} {t_script : Value} {tscity_o : Nat} {tscity_q : Nat → Nat} {tscity_men : Int32} {tscity_consuls : Int32} {tscity_dangers : Int32} {tscity_decrees : Int32} {tscity_term : Int32} {tscity_termTold : Int32} {tscity_manNames : (Nat → Int64)} {tscity_kinds : (Nat → Int32)} {tscity_skills : (Nat → Int32)} {tscity_fields : (Nat → Int32)} {tscity_wants : (Nat → Int32)} {tscity_hated : (Nat → Int32)} {tscity_dangerNames : (Nat → Int64)} {tscity_sizes : (Nat → Int32)} {tscity_grows : (Nat → Int32)} {tscity_decreeNames : (Nat → Int64)} {tscity_grounds : (Nat → Int32)} {tscity_laws : Value} {tstape_o : Nat} {tstape_q : Nat → Nat} {tstape_signs : (Nat → Int32)} {tstape_length : Int32} {out : Int32 × Int32 × Int32 × Int32 × Int32 × Int32 × Int64 × (Option Nat)} (X : Bx E A p s m args meth c cX6_groundsTold 4 RX6 (some .int)) : ∀ (n : Nat) {t_fault : Int32} {tstape_place : Int32} {tstape_behind : Int32} {tstape_kind : Int32} {tstape_value : Int32} {tstape_letters : Int64} {tstape_word : (Option Nat)} {x1 : Int32} {x2 : Int32} {H : Heap} {locs : List Loc} {ls : Array Slot}, f_X6_groundsTold_4 n t_fault tscity_decrees tscity_decreeNames tstape_signs tstape_length tstape_place tstape_behind tstape_kind tstape_value tstape_letters tstape_word x1 x2 = some out → Wd E A s.heap (wX6 E t_o (.ref tstape_o) (.ref tscity_o) t_script t_fault ++ (wX1 E tscity_o tscity_q tscity_men tscity_consuls tscity_dangers tscity_decrees tscity_term tscity_termTold tscity_manNames tscity_kinds tscity_skills tscity_fields tscity_wants tscity_hated tscity_dangerNames tscity_sizes tscity_grows tscity_decreeNames tscity_grounds tscity_laws ++ (wX10 E tstape_o tstape_q tstape_signs tstape_length tstape_place tstape_behind tstape_kind tstape_value tstape_letters tstape_word))) H locs → lv_has ls 4 [(0, .ref t_o), (1, .int (x1)), (2, .int (x2))] → W p l e rm_X6_groundsTold s m args below meth c H locs 0 0 (Zn E below args s A (some (.int out.1)) (wX6 E t_o (.ref tstape_o) (.ref tscity_o) t_script out.2.1 ++ (wX1 E tscity_o tscity_q tscity_men tscity_consuls tscity_dangers tscity_decrees tscity_term tscity_termTold tscity_manNames tscity_kinds tscity_skills tscity_fields tscity_wants tscity_hated tscity_dangerNames tscity_sizes tscity_grows tscity_decreeNames tscity_grounds tscity_laws ++ (wX10 E tstape_o tstape_q tstape_signs tstape_length out.2.2.1 out.2.2.2.1 out.2.2.2.2.1 out.2.2.2.2.2.1 out.2.2.2.2.2.2.1 out.2.2.2.2.2.2.2)))) (F0 m 4 ls []) := by
  have hx := X.1.1
  have hb := X.1.2.1
  have ho := X.1.2.2.2.1
  have hts := X.1.2.2.2.2
  intro n
  induction n with
  | zero =>
    intro t_fault tstape_place tstape_behind tstape_kind tstape_value tstape_letters tstape_word x1 x2 H locs ls hf
    have hf : (none : Option (Int32 × Int32 × Int32 × Int32 × Int32 × Int32 × Int64 × (Option Nat))) = some out := hf
    cases hf
  | succ n ih =>
    intro t_fault tstape_place tstape_behind tstape_kind tstape_value tstape_letters tstape_word x1 x2 H locs ls hf hw hl
    rw [f_X6_groundsTold_4.eq_2] at hf
    refine lv_iload_n hx hb dX6_groundsTold_4 rfl (lv_at hl 2 rfl) ?_
    refine lv_bipush (v := (6 : Int32)) hx hb dX6_groundsTold_5 (by decide) ?_
    refine lv_icmp_gt (tgt := 106) hx hb dX6_groundsTold_7 (by decide) (fun c_7 => ?_) (fun c_7 => ?_)
    · have hf := (if_pos c_7).symm.trans hf
      refine lv_iload_n hx hb dX6_groundsTold_106 rfl (lv_at hl 1 rfl) ?_
      obtain rfl := Option.some.inj hf
      exact k_iret X hw dX6_groundsTold_107
    · have hf := (if_neg c_7).symm.trans hf
      refine lv_iload_n hx hb dX6_groundsTold_10 rfl (lv_at hl 2 rfl) ?_
      refine lv_if_eq (tgt := 24) hx hb dX6_groundsTold_11 (by decide) (fun c_11 => ?_) (fun c_11 => ?_)
      · have hf := (if_pos c_11).symm.trans hf
        exact kb_X6_groundsTold_24 X (fun hf hw hl => ih hf hw hl) hf hw (lv_sub hl [0, 1, 2] rfl)
      · have hf := (if_neg c_11).symm.trans hf
        refine lv_aload_n hx hb dX6_groundsTold_14 rfl (lv_at hl 0 rfl) ?_
        refine k_get (q0 := 0) (ci := 5) (C := RX6) (T := TX6) (N := 4) (x := .ref tstape_o) X inx_6 hw rfl rfl 0 (by decide) rfl tw_192 rfl dX6_groundsTold_15 ?_
        obtain ⟨r18, hc_18, hf⟩ := bd_some hf
        refine k_V (As := []) (rest := []) (index := 205) (C := RX10) X (c_X10_isName hc_18) tw_638 tw_639 tw_640 tw_120 tw_641 ⟨rfl, rfl⟩ hd_X10_isName ⟨Nat.le_of_ble_eq_true rfl, Nat.le_of_ble_eq_true rfl⟩ ⟨Nat.zero_le _, Nat.zero_le _⟩ hw [13, 14] rfl rfl 13 rfl rfl rfl rfl hl.1 rfl (Nat.le_of_ble_eq_true rfl) dX6_groundsTold_18 (fun H locs hw => ?_)
        have hw : Wd E A s.heap (wX6 E t_o (.ref tstape_o) (.ref tscity_o) t_script t_fault ++ (wX1 E tscity_o tscity_q tscity_men tscity_consuls tscity_dangers tscity_decrees tscity_term tscity_termTold tscity_manNames tscity_kinds tscity_skills tscity_fields tscity_wants tscity_hated tscity_dangerNames tscity_sizes tscity_grows tscity_decreeNames tscity_grounds tscity_laws ++ (wX10 E tstape_o tstape_q tstape_signs tstape_length tstape_place tstape_behind tstape_kind tstape_value tstape_letters tstape_word))) H locs := hw
        refine lv_if_eq (tgt := 106) hx hb dX6_groundsTold_21 (by decide) (fun c_21 => ?_) (fun c_21 => ?_)
        · have hf := (if_pos c_21).symm.trans hf
          refine lv_iload_n hx hb dX6_groundsTold_106 rfl (lv_at hl 1 rfl) ?_
          obtain rfl := Option.some.inj hf
          exact k_iret X hw dX6_groundsTold_107
        · have hf := (if_neg c_21).symm.trans hf
          exact kb_X6_groundsTold_24 X (fun hf hw hl => ih hf hw hl) hf hw (lv_sub hl [0, 1, 2] rfl)
set_option maxRecDepth 100000 in
set_option maxHeartbeats 4000000 in
theorem c_X6_groundsTold {E : En} {l : Launch} {t_o : Nat} {t_script : Value} {t_fault : Int32} {tscity_o : Nat} {tscity_q : Nat → Nat} {tscity_men : Int32} {tscity_consuls : Int32} {tscity_dangers : Int32} {tscity_decrees : Int32} {tscity_term : Int32} {tscity_termTold : Int32} {tscity_manNames : (Nat → Int64)} {tscity_kinds : (Nat → Int32)} {tscity_skills : (Nat → Int32)} {tscity_fields : (Nat → Int32)} {tscity_wants : (Nat → Int32)} {tscity_hated : (Nat → Int32)} {tscity_dangerNames : (Nat → Int64)} {tscity_sizes : (Nat → Int32)} {tscity_grows : (Nat → Int32)} {tscity_decreeNames : (Nat → Int64)} {tscity_grounds : (Nat → Int32)} {tscity_laws : Value} {tstape_o : Nat} {tstape_q : Nat → Nat} {tstape_signs : (Nat → Int32)} {tstape_length : Int32} {tstape_place : Int32} {tstape_behind : Int32} {tstape_kind : Int32} {tstape_value : Int32} {tstape_letters : Int64} {tstape_word : (Option Nat)}  {out : Int32 × Int32 × Int32 × Int32 × Int32 × Int32 × Int64 × (Option Nat)} (hf : f_X6_groundsTold t_fault tscity_decrees tscity_decreeNames tstape_signs tstape_length tstape_place tstape_behind tstape_kind tstape_value tstape_letters tstape_word = some out) : Cn E l yX6_groundsTold cX6_groundsTold 4 (some .int) rm_X6_groundsTold [.ref t_o] (wX6 E t_o (.ref tstape_o) (.ref tscity_o) t_script t_fault ++ (wX1 E tscity_o tscity_q tscity_men tscity_consuls tscity_dangers tscity_decrees tscity_term tscity_termTold tscity_manNames tscity_kinds tscity_skills tscity_fields tscity_wants tscity_hated tscity_dangerNames tscity_sizes tscity_grows tscity_decreeNames tscity_grounds tscity_laws ++ (wX10 E tstape_o tstape_q tstape_signs tstape_length tstape_place tstape_behind tstape_kind tstape_value tstape_letters tstape_word))) (some (.int out.1)) (wX6 E t_o (.ref tstape_o) (.ref tscity_o) t_script out.2.1 ++ (wX1 E tscity_o tscity_q tscity_men tscity_consuls tscity_dangers tscity_decrees tscity_term tscity_termTold tscity_manNames tscity_kinds tscity_skills tscity_fields tscity_wants tscity_hated tscity_dangerNames tscity_sizes tscity_grows tscity_decreeNames tscity_grounds tscity_laws ++ (wX10 E tstape_o tstape_q tstape_signs tstape_length out.2.2.1 out.2.2.2.1 out.2.2.2.2.1 out.2.2.2.2.2.1 out.2.2.2.2.2.2.1 out.2.2.2.2.2.2.2))) := by
  refine Cn.of (by decide) (Nat.le_of_ble_eq_true rfl) rfl ?_
  intro p e s m below meth c A ls args H locs X hw hl
  have hx := X.1.1
  have hb := X.1.2.1
  have ho := X.1.2.2.2.1
  have hts := X.1.2.2.2.2
  have hl : lv_has ls 4 [(0, .ref t_o)] := hl
  unfold f_X6_groundsTold at hf
  refine lv_iconst (v := (0 : Int32)) hx hb dX6_groundsTold_0 (by decide) ?_
  refine lv_istore_n (lv' := [(1, .int ((0 : Int32))), (0, .ref t_o)]) hx hb dX6_groundsTold_1 rfl hl (by decide) rfl (fun ls hl => ?_)
  refine lv_iconst (v := (0 : Int32)) hx hb dX6_groundsTold_2 (by decide) ?_
  refine lv_istore_n (lv' := [(2, .int ((0 : Int32))), (1, .int ((0 : Int32))), (0, .ref t_o)]) hx hb dX6_groundsTold_3 rfl hl (by decide) rfl (fun ls hl => ?_)
  exact kb_X6_groundsTold_4 X 1100 hf hw (lv_sub hl [2, 1, 0] rfl)
/-! private boolean freshName(); -/
def f_X6_freshName (t_fault : Int32) (tscity_men : Int32) (tscity_dangers : Int32) (tscity_decrees : Int32) (tscity_manNames : (Nat → Int64)) (tscity_dangerNames : (Nat → Int64)) (tscity_decreeNames : (Nat → Int64)) (tstape_signs : (Nat → Int32)) (tstape_length : Int32) (tstape_place : Int32) (tstape_behind : Int32) (tstape_kind : Int32) (tstape_value : Int32) (tstape_letters : Int64) (tstape_word : (Option Nat)) : Option (Int32 × Int32 × Int32 × Int32 × Int32 × Int32 × Int64 × (Option Nat)) := (f_X10_isName tstape_kind tstape_word).bind fun r4 => if r4 = (0 : Int32) then zg ((f_X6_wrong tstape_place ((1 : Int32))).1) (some ((f_X6_wrong tstape_place ((1 : Int32))).1, (f_X6_wrong tstape_place ((1 : Int32))).2, tstape_place, tstape_behind, tstape_kind, tstape_value, tstape_letters, tstape_word))
  else (f_X1_isNamed tscity_men tscity_dangers tscity_decrees tscity_manNames tscity_dangerNames tscity_decreeNames (tstape_letters)).bind fun r27 => if r27 = (0 : Int32) then (f_X10_advance tstape_signs tstape_length tstape_behind).bind fun r43 => some ((1 : Int32), t_fault, r43.1, r43.2.1, r43.2.2.1, r43.2.2.2.1, r43.2.2.2.2.1, r43.2.2.2.2.2)
  else zg ((f_X6_wrong tstape_place ((3 : Int32))).1) (some ((f_X6_wrong tstape_place ((3 : Int32))).1, (f_X6_wrong tstape_place ((3 : Int32))).2, tstape_place, tstape_behind, tstape_kind, tstape_value, tstape_letters, tstape_word))
abbrev rm_X6_freshName : Room := { frames := 3, cells := 0, slots := 0, locals := 68 }
theorem hd_X6_freshName : yX6_freshName.cls = RX6 ∧ yX6_freshName.cls ≠ "java/lang/invoke/MethodHandle" ∧ yX6_freshName.cls ≠ "java/lang/invoke/VarHandle" ∧ (parseMethodDescriptor yX6_freshName.desc).map (fun d => d.parameters.length) = some 0 := by decide +kernel
set_option maxRecDepth 100000 in
set_option maxHeartbeats 4000000 in
theorem c_X6_freshName {E : En} {l : Launch} {t_o : Nat} {t_script : Value} {t_fault : Int32} {tscity_o : Nat} {tscity_q : Nat → Nat} {tscity_men : Int32} {tscity_consuls : Int32} {tscity_dangers : Int32} {tscity_decrees : Int32} {tscity_term : Int32} {tscity_termTold : Int32} {tscity_manNames : (Nat → Int64)} {tscity_kinds : (Nat → Int32)} {tscity_skills : (Nat → Int32)} {tscity_fields : (Nat → Int32)} {tscity_wants : (Nat → Int32)} {tscity_hated : (Nat → Int32)} {tscity_dangerNames : (Nat → Int64)} {tscity_sizes : (Nat → Int32)} {tscity_grows : (Nat → Int32)} {tscity_decreeNames : (Nat → Int64)} {tscity_grounds : (Nat → Int32)} {tscity_laws : Value} {tstape_o : Nat} {tstape_q : Nat → Nat} {tstape_signs : (Nat → Int32)} {tstape_length : Int32} {tstape_place : Int32} {tstape_behind : Int32} {tstape_kind : Int32} {tstape_value : Int32} {tstape_letters : Int64} {tstape_word : (Option Nat)}  {out : Int32 × Int32 × Int32 × Int32 × Int32 × Int32 × Int64 × (Option Nat)} (hf : f_X6_freshName t_fault tscity_men tscity_dangers tscity_decrees tscity_manNames tscity_dangerNames tscity_decreeNames tstape_signs tstape_length tstape_place tstape_behind tstape_kind tstape_value tstape_letters tstape_word = some out) : Cn E l yX6_freshName cX6_freshName 1 (some .boolean) rm_X6_freshName [.ref t_o] (wX6 E t_o (.ref tstape_o) (.ref tscity_o) t_script t_fault ++ (wX1 E tscity_o tscity_q tscity_men tscity_consuls tscity_dangers tscity_decrees tscity_term tscity_termTold tscity_manNames tscity_kinds tscity_skills tscity_fields tscity_wants tscity_hated tscity_dangerNames tscity_sizes tscity_grows tscity_decreeNames tscity_grounds tscity_laws ++ (wX10 E tstape_o tstape_q tstape_signs tstape_length tstape_place tstape_behind tstape_kind tstape_value tstape_letters tstape_word))) (some (.int out.1)) (wX6 E t_o (.ref tstape_o) (.ref tscity_o) t_script out.2.1 ++ (wX1 E tscity_o tscity_q tscity_men tscity_consuls tscity_dangers tscity_decrees tscity_term tscity_termTold tscity_manNames tscity_kinds tscity_skills tscity_fields tscity_wants tscity_hated tscity_dangerNames tscity_sizes tscity_grows tscity_decreeNames tscity_grounds tscity_laws ++ (wX10 E tstape_o tstape_q tstape_signs tstape_length out.2.2.1 out.2.2.2.1 out.2.2.2.2.1 out.2.2.2.2.2.1 out.2.2.2.2.2.2.1 out.2.2.2.2.2.2.2))) := by
  refine Cn.of (by decide) (Nat.le_of_ble_eq_true rfl) rfl ?_
  intro p e s m below meth c A ls args H locs X hw hl
  have hx := X.1.1
  have hb := X.1.2.1
  have ho := X.1.2.2.2.1
  have hts := X.1.2.2.2.2
  have hl : lv_has ls 1 [(0, .ref t_o)] := hl
  unfold f_X6_freshName at hf
  refine lv_aload_n hx hb dX6_freshName_0 rfl (lv_at hl 0 rfl) ?_
  refine k_get (q0 := 0) (ci := 5) (C := RX6) (T := TX6) (N := 4) (x := .ref tstape_o) X inx_6 hw rfl rfl 0 (by decide) rfl tw_192 rfl dX6_freshName_1 ?_
  obtain ⟨r4, hc_4, hf⟩ := bd_some hf
  refine k_V (As := []) (rest := []) (index := 205) (C := RX10) X (c_X10_isName hc_4) tw_638 tw_639 tw_640 tw_120 tw_641 ⟨rfl, rfl⟩ hd_X10_isName ⟨Nat.le_of_ble_eq_true rfl, Nat.le_of_ble_eq_true rfl⟩ ⟨Nat.zero_le _, Nat.zero_le _⟩ hw [13, 14] rfl rfl 13 rfl rfl rfl rfl hl.1 rfl (Nat.le_of_ble_eq_true rfl) dX6_freshName_4 (fun H locs hw => ?_)
  have hw : Wd E A s.heap (wX6 E t_o (.ref tstape_o) (.ref tscity_o) t_script t_fault ++ (wX1 E tscity_o tscity_q tscity_men tscity_consuls tscity_dangers tscity_decrees tscity_term tscity_termTold tscity_manNames tscity_kinds tscity_skills tscity_fields tscity_wants tscity_hated tscity_dangerNames tscity_sizes tscity_grows tscity_decreeNames tscity_grounds tscity_laws ++ (wX10 E tstape_o tstape_q tstape_signs tstape_length tstape_place tstape_behind tstape_kind tstape_value tstape_letters tstape_word))) H locs := hw
  refine lv_if_ne (tgt := 16) hx hb dX6_freshName_7 (by decide) (fun c_7 => ?_) (fun c_7 => ?_)
  · have hf := (if_neg c_7).symm.trans hf
    refine lv_aload_n hx hb dX6_freshName_16 rfl (lv_at hl 0 rfl) ?_
    refine k_get (q0 := 0) (ci := 5) (C := RX6) (T := TX6) (N := 4) (x := .ref tscity_o) X inx_6 hw rfl rfl 1 (by decide) rfl tw_193 rfl dX6_freshName_17 ?_
    refine lv_aload_n hx hb dX6_freshName_20 rfl (lv_at hl 0 rfl) ?_
    refine k_get (q0 := 0) (ci := 5) (C := RX6) (T := TX6) (N := 4) (x := .ref tstape_o) X inx_6 hw rfl rfl 0 (by decide) rfl tw_192 rfl dX6_freshName_21 ?_
    refine k_getN (q0 := 13) (ci := 9) (C := RX10) (T := TX10) (N := 8) (host := "PloughCall") (x := .long (tstape_letters)) X inx_10 hw rfl rfl 6 (by decide) rfl nw_5 rfl dX6_freshName_24 ?_
    obtain ⟨r27, hc_27, hf⟩ := bd_some hf
    refine k_V (As := [.long (tstape_letters)]) (rest := []) (index := 264) (C := RX1) X (c_X1_isNamed hc_27) tw_642 tw_643 tw_644 tw_126 tw_645 ⟨rfl, rfl⟩ hd_X1_isNamed ⟨Nat.le_of_ble_eq_true rfl, Nat.le_of_ble_eq_true rfl⟩ ⟨Nat.zero_le _, Nat.zero_le _⟩ hw [1, 2, 3, 4, 5, 6, 7, 8, 9, 10, 11, 12] rfl rfl 1 rfl rfl rfl rfl hl.1 rfl (Nat.le_of_ble_eq_true rfl) dX6_freshName_27 (fun H locs hw => ?_)
    have hw : Wd E A s.heap (wX6 E t_o (.ref tstape_o) (.ref tscity_o) t_script t_fault ++ (wX1 E tscity_o tscity_q tscity_men tscity_consuls tscity_dangers tscity_decrees tscity_term tscity_termTold tscity_manNames tscity_kinds tscity_skills tscity_fields tscity_wants tscity_hated tscity_dangerNames tscity_sizes tscity_grows tscity_decreeNames tscity_grounds tscity_laws ++ (wX10 E tstape_o tstape_q tstape_signs tstape_length tstape_place tstape_behind tstape_kind tstape_value tstape_letters tstape_word))) H locs := hw
    refine lv_if_eq (tgt := 39) hx hb dX6_freshName_30 (by decide) (fun c_30 => ?_) (fun c_30 => ?_)
    · have hf := (if_pos c_30).symm.trans hf
      refine lv_aload_n hx hb dX6_freshName_39 rfl (lv_at hl 0 rfl) ?_
      refine k_get (q0 := 0) (ci := 5) (C := RX6) (T := TX6) (N := 4) (x := .ref tstape_o) X inx_6 hw rfl rfl 0 (by decide) rfl tw_192 rfl dX6_freshName_40 ?_
      obtain ⟨r43, hc_43, hf⟩ := bd_some hf
      refine k_V (As := []) (rest := []) (index := 103) (C := RX10) X (c_X10_advance hc_43) tw_633 tw_587 tw_588 tw_120 tw_589 ⟨rfl, rfl⟩ hd_X10_advance ⟨Nat.le_of_ble_eq_true rfl, Nat.le_of_ble_eq_true rfl⟩ ⟨Nat.zero_le _, Nat.zero_le _⟩ hw [13, 14] rfl rfl 13 rfl rfl rfl rfl hl.1 rfl (Nat.le_of_ble_eq_true rfl) dX6_freshName_43 (fun H locs hw => ?_)
      have hw : Wd E A s.heap (wX6 E t_o (.ref tstape_o) (.ref tscity_o) t_script t_fault ++ (wX1 E tscity_o tscity_q tscity_men tscity_consuls tscity_dangers tscity_decrees tscity_term tscity_termTold tscity_manNames tscity_kinds tscity_skills tscity_fields tscity_wants tscity_hated tscity_dangerNames tscity_sizes tscity_grows tscity_decreeNames tscity_grounds tscity_laws ++ (wX10 E tstape_o tstape_q tstape_signs tstape_length r43.1 r43.2.1 r43.2.2.1 r43.2.2.2.1 r43.2.2.2.2.1 r43.2.2.2.2.2))) H locs := hw
      refine lv_iconst (v := (1 : Int32)) hx hb dX6_freshName_46 (by decide) ?_
      obtain rfl := Option.some.inj hf
      exact k_zret X (Or.inr rfl) hw dX6_freshName_47
    · have hf := (if_neg c_30).symm.trans hf
      refine lv_aload_n hx hb dX6_freshName_33 rfl (lv_at hl 0 rfl) ?_
      refine lv_iconst (v := (3 : Int32)) hx hb dX6_freshName_34 (by decide) ?_
      refine k_V (As := [.int ((3 : Int32))]) (rest := []) (index := 62) (C := RX6) X (c_X6_wrong (out := (f_X6_wrong tstape_place ((3 : Int32)))) rfl) tw_617 tw_619 tw_3 tw_121 tw_620 ⟨rfl, rfl⟩ hd_X6_wrong ⟨Nat.le_of_ble_eq_true rfl, Nat.le_of_ble_eq_true rfl⟩ ⟨Nat.zero_le _, Nat.zero_le _⟩ hw [0, 13, 14] rfl rfl 0 rfl rfl rfl rfl hl.1 rfl (Nat.le_of_ble_eq_true rfl) dX6_freshName_35 (fun H locs hw => ?_)
      have hw : Wd E A s.heap (wX6 E t_o (.ref tstape_o) (.ref tscity_o) t_script ((f_X6_wrong tstape_place ((3 : Int32))).2) ++ (wX1 E tscity_o tscity_q tscity_men tscity_consuls tscity_dangers tscity_decrees tscity_term tscity_termTold tscity_manNames tscity_kinds tscity_skills tscity_fields tscity_wants tscity_hated tscity_dangerNames tscity_sizes tscity_grows tscity_decreeNames tscity_grounds tscity_laws ++ (wX10 E tstape_o tstape_q tstape_signs tstape_length tstape_place tstape_behind tstape_kind tstape_value tstape_letters tstape_word))) H locs := hw
      obtain ⟨hz_38, hf⟩ := zg_some hf
      obtain rfl := Option.some.inj hf
      exact k_zret X hz_38 hw dX6_freshName_38
  · have hf := (if_pos c_7).symm.trans hf
    refine lv_aload_n hx hb dX6_freshName_10 rfl (lv_at hl 0 rfl) ?_
    refine lv_iconst (v := (1 : Int32)) hx hb dX6_freshName_11 (by decide) ?_
    refine k_V (As := [.int ((1 : Int32))]) (rest := []) (index := 62) (C := RX6) X (c_X6_wrong (out := (f_X6_wrong tstape_place ((1 : Int32)))) rfl) tw_617 tw_619 tw_3 tw_121 tw_620 ⟨rfl, rfl⟩ hd_X6_wrong ⟨Nat.le_of_ble_eq_true rfl, Nat.le_of_ble_eq_true rfl⟩ ⟨Nat.zero_le _, Nat.zero_le _⟩ hw [0, 13, 14] rfl rfl 0 rfl rfl rfl rfl hl.1 rfl (Nat.le_of_ble_eq_true rfl) dX6_freshName_12 (fun H locs hw => ?_)
    have hw : Wd E A s.heap (wX6 E t_o (.ref tstape_o) (.ref tscity_o) t_script ((f_X6_wrong tstape_place ((1 : Int32))).2) ++ (wX1 E tscity_o tscity_q tscity_men tscity_consuls tscity_dangers tscity_decrees tscity_term tscity_termTold tscity_manNames tscity_kinds tscity_skills tscity_fields tscity_wants tscity_hated tscity_dangerNames tscity_sizes tscity_grows tscity_decreeNames tscity_grounds tscity_laws ++ (wX10 E tstape_o tstape_q tstape_signs tstape_length tstape_place tstape_behind tstape_kind tstape_value tstape_letters tstape_word))) H locs := hw
    obtain ⟨hz_15, hf⟩ := zg_some hf
    obtain rfl := Option.some.inj hf
    exact k_zret X hz_15 hw dX6_freshName_15
/-! private int labelled(PloughCall$Word, int, int); -/
def f_X6_labelled (t_fault : Int32) (tstape_signs : (Nat → Int32)) (tstape_length : Int32) (tstape_place : Int32) (tstape_behind : Int32) (tstape_kind : Int32) (tstape_value : Int32) (tstape_letters : Int64) (tstape_word : (Option Nat)) (x1 : (Option Nat)) (x2 : Int32) (x3 : Int32) : Option (Int32 × Int32 × Int32 × Int32 × Int32 × Int32 × Int64 × (Option Nat)) := eg (tstape_word) (eg (x1) (if tstape_word = x1 then (f_X10_advance tstape_signs tstape_length tstape_behind).bind fun r23 => if r23.2.2.1 = (3 : Int32) then if (f_X12_within (r23.2.2.2.1) (x2) (x3)) = (0 : Int32) then some ((-1 : Int32), (f_X6_wrong r23.1 ((4 : Int32))).2, r23.1, r23.2.1, r23.2.2.1, r23.2.2.2.1, r23.2.2.2.2.1, r23.2.2.2.2.2)
      else (f_X10_advance tstape_signs tstape_length r23.2.1).bind fun r76 => some (r23.2.2.2.1, t_fault, r76.1, r76.2.1, r76.2.2.1, r76.2.2.2.1, r76.2.2.2.2.1, r76.2.2.2.2.2)
    else some ((-1 : Int32), (f_X6_wrong r23.1 ((1 : Int32))).2, r23.1, r23.2.1, r23.2.2.1, r23.2.2.2.1, r23.2.2.2.2.1, r23.2.2.2.2.2)
  else some ((-1 : Int32), (f_X6_wrong tstape_place ((1 : Int32))).2, tstape_place, tstape_behind, tstape_kind, tstape_value, tstape_letters, tstape_word)))
abbrev rm_X6_labelled : Room := { frames := 3, cells := 0, slots := 0, locals := 64 }
theorem hd_X6_labelled : yX6_labelled.cls = RX6 ∧ yX6_labelled.cls ≠ "java/lang/invoke/MethodHandle" ∧ yX6_labelled.cls ≠ "java/lang/invoke/VarHandle" ∧ (parseMethodDescriptor yX6_labelled.desc).map (fun d => d.parameters.length) = some 3 := by decide +kernel
set_option maxRecDepth 100000 in
set_option maxHeartbeats 4000000 in
theorem c_X6_labelled {E : En} {l : Launch} {t_o : Nat} {t_city : Value} {t_script : Value} {t_fault : Int32} {tstape_o : Nat} {tstape_q : Nat → Nat} {tstape_signs : (Nat → Int32)} {tstape_length : Int32} {tstape_place : Int32} {tstape_behind : Int32} {tstape_kind : Int32} {tstape_value : Int32} {tstape_letters : Int64} {tstape_word : (Option Nat)} {x1 : (Option Nat)} {x2 : Int32} {x3 : Int32} {out : Int32 × Int32 × Int32 × Int32 × Int32 × Int32 × Int64 × (Option Nat)} (hf : f_X6_labelled t_fault tstape_signs tstape_length tstape_place tstape_behind tstape_kind tstape_value tstape_letters tstape_word x1 x2 x3 = some out) : Cn E l yX6_labelled cX6_labelled 5 (some .int) rm_X6_labelled [.ref t_o, va_re E.2.2 (x1), .int (x2), .int (x3)] (wX6 E t_o (.ref tstape_o) t_city t_script t_fault ++ (wX10 E tstape_o tstape_q tstape_signs tstape_length tstape_place tstape_behind tstape_kind tstape_value tstape_letters tstape_word)) (some (.int out.1)) (wX6 E t_o (.ref tstape_o) t_city t_script out.2.1 ++ (wX10 E tstape_o tstape_q tstape_signs tstape_length out.2.2.1 out.2.2.2.1 out.2.2.2.2.1 out.2.2.2.2.2.1 out.2.2.2.2.2.2.1 out.2.2.2.2.2.2.2)) := by
  refine Cn.of (by decide) (by cases x1 <;> exact Nat.le_of_ble_eq_true rfl) rfl ?_
  intro p e s m below meth c A ls args H locs X hw hl
  have hx := X.1.1
  have hb := X.1.2.1
  have ho := X.1.2.2.2.1
  have hts := X.1.2.2.2.2
  have hl : lv_has ls 5 [(0, .ref t_o), (1, va_re E.2.2 (x1)), (2, .int (x2)), (3, .int (x3))] := by cases x1 <;> exact hl
  unfold f_X6_labelled at hf
  refine lv_aload_n hx hb dX6_labelled_0 rfl (lv_at hl 0 rfl) ?_
  refine k_get (q0 := 0) (ci := 5) (C := RX6) (T := TX6) (N := 4) (x := .ref tstape_o) X inx_6 hw rfl rfl 0 (by decide) rfl tw_192 rfl dX6_labelled_1 ?_
  refine k_getN (q0 := 1) (ci := 9) (C := RX10) (T := TX10) (N := 8) (host := "PloughCall") (x := va_re E.2.2 (tstape_word)) X inx_10 hw rfl rfl 7 (by decide) rfl nw_6 rfl dX6_labelled_4 ?_
  refine k_aload_nE (ad := E.2.2) (x := x1) hx hb dX6_labelled_7 rfl (lv_at hl 1 rfl) ?_
  obtain ⟨hex_8, hf⟩ := eg_some hf
  obtain ⟨hez_8, hf⟩ := eg_some hf
  refine k_acmp_eq (x := tstape_word) (z := x1) (tgt := 19) X hex_8 hez_8 dX6_labelled_8 (by decide) (fun c_8 => ?_) (fun c_8 => ?_)
  · have hf := (if_pos c_8).symm.trans hf
    refine lv_aload_n hx hb dX6_labelled_19 rfl (lv_at hl 0 rfl) ?_
    refine k_get (q0 := 0) (ci := 5) (C := RX6) (T := TX6) (N := 4) (x := .ref tstape_o) X inx_6 hw rfl rfl 0 (by decide) rfl tw_192 rfl dX6_labelled_20 ?_
    obtain ⟨r23, hc_23, hf⟩ := bd_some hf
    refine k_V (As := []) (rest := []) (index := 103) (C := RX10) X (c_X10_advance hc_23) tw_633 tw_587 tw_588 tw_120 tw_589 ⟨rfl, rfl⟩ hd_X10_advance ⟨Nat.le_of_ble_eq_true rfl, Nat.le_of_ble_eq_true rfl⟩ ⟨Nat.zero_le _, Nat.zero_le _⟩ hw [1, 2] rfl rfl 1 rfl rfl rfl rfl hl.1 rfl (Nat.le_of_ble_eq_true rfl) dX6_labelled_23 (fun H locs hw => ?_)
    have hw : Wd E A s.heap (wX6 E t_o (.ref tstape_o) t_city t_script t_fault ++ (wX10 E tstape_o tstape_q tstape_signs tstape_length r23.1 r23.2.1 r23.2.2.1 r23.2.2.2.1 r23.2.2.2.2.1 r23.2.2.2.2.2)) H locs := hw
    refine lv_aload_n hx hb dX6_labelled_26 rfl (lv_at hl 0 rfl) ?_
    refine k_get (q0 := 0) (ci := 5) (C := RX6) (T := TX6) (N := 4) (x := .ref tstape_o) X inx_6 hw rfl rfl 0 (by decide) rfl tw_192 rfl dX6_labelled_27 ?_
    refine k_getN (q0 := 1) (ci := 9) (C := RX10) (T := TX10) (N := 8) (host := "PloughCall") (x := .int (r23.2.2.1)) X inx_10 hw rfl rfl 4 (by decide) rfl nw_3 rfl dX6_labelled_30 ?_
    refine lv_iconst (v := (3 : Int32)) hx hb dX6_labelled_33 (by decide) ?_
    refine lv_icmp_eq (tgt := 45) hx hb dX6_labelled_34 (by decide) (fun c_34 => ?_) (fun c_34 => ?_)
    · have hf := (if_pos c_34).symm.trans hf
      refine lv_aload_n hx hb dX6_labelled_45 rfl (lv_at hl 0 rfl) ?_
      refine k_get (q0 := 0) (ci := 5) (C := RX6) (T := TX6) (N := 4) (x := .ref tstape_o) X inx_6 hw rfl rfl 0 (by decide) rfl tw_192 rfl dX6_labelled_46 ?_
      refine k_getN (q0 := 1) (ci := 9) (C := RX10) (T := TX10) (N := 8) (host := "PloughCall") (x := .int (r23.2.2.2.1)) X inx_10 hw rfl rfl 5 (by decide) rfl nw_4 rfl dX6_labelled_49 ?_
      refine lv_istore (lv' := [(4, .int (r23.2.2.2.1)), (0, .ref t_o), (1, va_re E.2.2 (x1)), (2, .int (x2)), (3, .int (x3))]) hx hb dX6_labelled_52 hl (by decide) rfl (fun ls hl => ?_)
      refine lv_iload hx hb dX6_labelled_54 (lv_at hl 0 rfl) ?_
      refine lv_iload_n hx hb dX6_labelled_56 rfl (lv_at hl 3 rfl) ?_
      refine lv_iload_n hx hb dX6_labelled_57 rfl (lv_at hl 4 rfl) ?_
      refine k_SN (As := [.int (r23.2.2.2.1), .int (x2), .int (x3)]) (rest := []) (host := "PloughCall") (index := 277) X (c_X12_within (out := (f_X12_within (r23.2.2.2.1) (x2) (x3))) rfl) nw_79 tw_119 tw_560 tw_561 ⟨rfl, rfl⟩ hd_X12_within.2 ⟨Nat.le_of_ble_eq_true rfl, Nat.le_of_ble_eq_true rfl⟩ ⟨Nat.zero_le _, Nat.zero_le _⟩ hw [] rfl rfl rfl hl.1 rfl (Nat.le_of_ble_eq_true rfl) dX6_labelled_58 (fun H locs hw => ?_)
      have hw : Wd E A s.heap (wX6 E t_o (.ref tstape_o) t_city t_script t_fault ++ (wX10 E tstape_o tstape_q tstape_signs tstape_length r23.1 r23.2.1 r23.2.2.1 r23.2.2.2.1 r23.2.2.2.2.1 r23.2.2.2.2.2)) H locs := hw
      refine lv_if_ne (tgt := 72) hx hb dX6_labelled_61 (by decide) (fun c_61 => ?_) (fun c_61 => ?_)
      · have hf := (if_neg c_61).symm.trans hf
        refine lv_aload_n hx hb dX6_labelled_72 rfl (lv_at hl 1 rfl) ?_
        refine k_get (q0 := 0) (ci := 5) (C := RX6) (T := TX6) (N := 4) (x := .ref tstape_o) X inx_6 hw rfl rfl 0 (by decide) rfl tw_192 rfl dX6_labelled_73 ?_
        obtain ⟨r76, hc_76, hf⟩ := bd_some hf
        refine k_V (As := []) (rest := []) (index := 103) (C := RX10) X (c_X10_advance hc_76) tw_633 tw_587 tw_588 tw_120 tw_589 ⟨rfl, rfl⟩ hd_X10_advance ⟨Nat.le_of_ble_eq_true rfl, Nat.le_of_ble_eq_true rfl⟩ ⟨Nat.zero_le _, Nat.zero_le _⟩ hw [1, 2] rfl rfl 1 rfl rfl rfl rfl hl.1 rfl (Nat.le_of_ble_eq_true rfl) dX6_labelled_76 (fun H locs hw => ?_)
        have hw : Wd E A s.heap (wX6 E t_o (.ref tstape_o) t_city t_script t_fault ++ (wX10 E tstape_o tstape_q tstape_signs tstape_length r76.1 r76.2.1 r76.2.2.1 r76.2.2.2.1 r76.2.2.2.2.1 r76.2.2.2.2.2)) H locs := hw
        refine lv_iload hx hb dX6_labelled_79 (lv_at hl 0 rfl) ?_
        obtain rfl := Option.some.inj hf
        exact k_iret X hw dX6_labelled_81
      · have hf := (if_pos c_61).symm.trans hf
        refine lv_aload_n hx hb dX6_labelled_64 rfl (lv_at hl 1 rfl) ?_
        refine lv_iconst (v := (4 : Int32)) hx hb dX6_labelled_65 (by decide) ?_
        refine k_V (As := [.int ((4 : Int32))]) (rest := []) (index := 62) (C := RX6) X (c_X6_wrong (out := (f_X6_wrong r23.1 ((4 : Int32)))) rfl) tw_617 tw_619 tw_3 tw_121 tw_620 ⟨rfl, rfl⟩ hd_X6_wrong ⟨Nat.le_of_ble_eq_true rfl, Nat.le_of_ble_eq_true rfl⟩ ⟨Nat.zero_le _, Nat.zero_le _⟩ hw [0, 1, 2] rfl rfl 0 rfl rfl rfl rfl hl.1 rfl (Nat.le_of_ble_eq_true rfl) dX6_labelled_66 (fun H locs hw => ?_)
        have hw : Wd E A s.heap (wX6 E t_o (.ref tstape_o) t_city t_script ((f_X6_wrong r23.1 ((4 : Int32))).2) ++ (wX10 E tstape_o tstape_q tstape_signs tstape_length r23.1 r23.2.1 r23.2.2.1 r23.2.2.2.1 r23.2.2.2.2.1 r23.2.2.2.2.2)) H locs := hw
        refine lv_pop hx hb dX6_labelled_69 rfl ?_
        refine lv_iconst (v := (-1 : Int32)) hx hb dX6_labelled_70 (by decide) ?_
        obtain rfl := Option.some.inj hf
        exact k_iret X hw dX6_labelled_71
    · have hf := (if_neg c_34).symm.trans hf
      refine lv_aload_n hx hb dX6_labelled_37 rfl (lv_at hl 0 rfl) ?_
      refine lv_iconst (v := (1 : Int32)) hx hb dX6_labelled_38 (by decide) ?_
      refine k_V (As := [.int ((1 : Int32))]) (rest := []) (index := 62) (C := RX6) X (c_X6_wrong (out := (f_X6_wrong r23.1 ((1 : Int32)))) rfl) tw_617 tw_619 tw_3 tw_121 tw_620 ⟨rfl, rfl⟩ hd_X6_wrong ⟨Nat.le_of_ble_eq_true rfl, Nat.le_of_ble_eq_true rfl⟩ ⟨Nat.zero_le _, Nat.zero_le _⟩ hw [0, 1, 2] rfl rfl 0 rfl rfl rfl rfl hl.1 rfl (Nat.le_of_ble_eq_true rfl) dX6_labelled_39 (fun H locs hw => ?_)
      have hw : Wd E A s.heap (wX6 E t_o (.ref tstape_o) t_city t_script ((f_X6_wrong r23.1 ((1 : Int32))).2) ++ (wX10 E tstape_o tstape_q tstape_signs tstape_length r23.1 r23.2.1 r23.2.2.1 r23.2.2.2.1 r23.2.2.2.2.1 r23.2.2.2.2.2)) H locs := hw
      refine lv_pop hx hb dX6_labelled_42 rfl ?_
      refine lv_iconst (v := (-1 : Int32)) hx hb dX6_labelled_43 (by decide) ?_
      obtain rfl := Option.some.inj hf
      exact k_iret X hw dX6_labelled_44
  · have hf := (if_neg c_8).symm.trans hf
    refine lv_aload_n hx hb dX6_labelled_11 rfl (lv_at hl 0 rfl) ?_
    refine lv_iconst (v := (1 : Int32)) hx hb dX6_labelled_12 (by decide) ?_
    refine k_V (As := [.int ((1 : Int32))]) (rest := []) (index := 62) (C := RX6) X (c_X6_wrong (out := (f_X6_wrong tstape_place ((1 : Int32)))) rfl) tw_617 tw_619 tw_3 tw_121 tw_620 ⟨rfl, rfl⟩ hd_X6_wrong ⟨Nat.le_of_ble_eq_true rfl, Nat.le_of_ble_eq_true rfl⟩ ⟨Nat.zero_le _, Nat.zero_le _⟩ hw [0, 1, 2] rfl rfl 0 rfl rfl rfl rfl hl.1 rfl (Nat.le_of_ble_eq_true rfl) dX6_labelled_13 (fun H locs hw => ?_)
    have hw : Wd E A s.heap (wX6 E t_o (.ref tstape_o) t_city t_script ((f_X6_wrong tstape_place ((1 : Int32))).2) ++ (wX10 E tstape_o tstape_q tstape_signs tstape_length tstape_place tstape_behind tstape_kind tstape_value tstape_letters tstape_word)) H locs := hw
    refine lv_pop hx hb dX6_labelled_16 rfl ?_
    refine lv_iconst (v := (-1 : Int32)) hx hb dX6_labelled_17 (by decide) ?_
    obtain rfl := Option.some.inj hf
    exact k_iret X hw dX6_labelled_18
