/-! private int mostAlike(PloughCall$City, int, int, int); -/
def f_X2_mostAlike_33 : Nat → (Nat → Int32) → Int32 → (Nat → Int32) → (Nat → Int32) → (Nat → Int32) → (Nat → Int32) → (Nat → Int32) → Int32 → Int32 → Int32 → Int32 → Int32 → Int32 → Int32 → Int32 → Int32 → Option (Int32 × (Nat → Int32) × (Nat → Int32))
  | 0, _, _, _, _, _, _, _, _, _, _, _, _, _, _, _, _ => none
  | n + 1, t_likeSizes, p1_men, p1_kinds, p1_skills, p1_wants, p1slaws_ops, p1slaws_stack, p1slaws_worksFrom, p1slaws_worksTo, p1slaws_keepsFrom, p1slaws_keepsTo, x2, x3, x4, x5, x6 => if p1_men ≤ x6 then some (x5, t_likeSizes, p1slaws_stack)
    else if ((x3 >>> (x6 &&& (31 : Int32))) &&& (1 : Int32)) = (1 : Int32) then (f_X1_sizeBehind p1_kinds p1_skills p1_wants p1slaws_ops p1slaws_stack p1slaws_worksFrom p1slaws_worksTo p1slaws_keepsFrom p1slaws_keepsTo (x6) (x2) (x4)).bind fun r58 => f_X2_mostAlike_33 n ((gp (100) t_likeSizes (r58.1) (((ga (100) t_likeSizes (r58.1)) + (1 : Int32))))) p1_men p1_kinds p1_skills p1_wants p1slaws_ops r58.2 p1slaws_worksFrom p1slaws_worksTo p1slaws_keepsFrom p1slaws_keepsTo x2 x3 x4 ((imax x5 (ga (100) ((gp (100) t_likeSizes (r58.1) (((ga (100) t_likeSizes (r58.1)) + (1 : Int32))))) (r58.1)))) ((x6 + (1 : Int32)))
    else f_X2_mostAlike_33 n t_likeSizes p1_men p1_kinds p1_skills p1_wants p1slaws_ops p1slaws_stack p1slaws_worksFrom p1slaws_worksTo p1slaws_keepsFrom p1slaws_keepsTo x2 x3 x4 x5 ((x6 + (1 : Int32)))
def f_X2_mostAlike_3 : Nat → (Nat → Int32) → Int32 → (Nat → Int32) → (Nat → Int32) → (Nat → Int32) → (Nat → Int32) → (Nat → Int32) → Int32 → Int32 → Int32 → Int32 → Int32 → Int32 → Int32 → Int32 → Option (Int32 × (Nat → Int32) × (Nat → Int32))
  | 0, _, _, _, _, _, _, _, _, _, _, _, _, _, _, _ => none
  | n + 1, t_likeSizes, p1_men, p1_kinds, p1_skills, p1_wants, p1slaws_ops, p1slaws_stack, p1slaws_worksFrom, p1slaws_worksTo, p1slaws_keepsFrom, p1slaws_keepsTo, x2, x3, x4, x5 => if (100 : Int32) ≤ x5 then f_X2_mostAlike_33 1100 t_likeSizes p1_men p1_kinds p1_skills p1_wants p1slaws_ops p1slaws_stack p1slaws_worksFrom p1slaws_worksTo p1slaws_keepsFrom p1slaws_keepsTo x2 x3 x4 ((0 : Int32)) ((0 : Int32))
    else gd (x5) 100 (f_X2_mostAlike_3 n (upd t_likeSizes (x5).toNatClampNeg ((0 : Int32))) p1_men p1_kinds p1_skills p1_wants p1slaws_ops p1slaws_stack p1slaws_worksFrom p1slaws_worksTo p1slaws_keepsFrom p1slaws_keepsTo x2 x3 x4 ((x5 + (1 : Int32))))
def f_X2_mostAlike (t_likeSizes : (Nat → Int32)) (p1_men : Int32) (p1_kinds : (Nat → Int32)) (p1_skills : (Nat → Int32)) (p1_wants : (Nat → Int32)) (p1slaws_ops : (Nat → Int32)) (p1slaws_stack : (Nat → Int32)) (p1slaws_worksFrom : Int32) (p1slaws_worksTo : Int32) (p1slaws_keepsFrom : Int32) (p1slaws_keepsTo : Int32) (x2 : Int32) (x3 : Int32) (x4 : Int32) : Option (Int32 × (Nat → Int32) × (Nat → Int32)) := f_X2_mostAlike_3 1100 t_likeSizes p1_men p1_kinds p1_skills p1_wants p1slaws_ops p1slaws_stack p1slaws_worksFrom p1slaws_worksTo p1slaws_keepsFrom p1slaws_keepsTo x2 x3 x4 ((0 : Int32))
abbrev rm_X2_mostAlike : Room := { frames := 4, cells := 0, slots := 0, locals := 104 }
theorem hd_X2_mostAlike : yX2_mostAlike.cls = RX2 ∧ yX2_mostAlike.cls ≠ "java/lang/invoke/MethodHandle" ∧ yX2_mostAlike.cls ≠ "java/lang/invoke/VarHandle" ∧ (parseMethodDescriptor yX2_mostAlike.desc).map (fun d => d.parameters.length) = some 4 := by decide +kernel
set_option maxRecDepth 100000 in
set_option maxHeartbeats 4000000 in
theorem kb_X2_mostAlike_33 {E : En} {p : Program} {l : Launch} {e : Env} {s : State} {m : MethodId} {args : Array Value} {below : List Frame} {meth : Method} {c : Code} {A : Nat → Prop} {t_o : Nat} {t_q : Nat → Nat} {t_path : (Nat → Option Nat)} {t_row : (Nat → Int32)} {t_leastRow : (Nat → Int32)} {t_needed : (Nat → Int32)} {t_ways : Value} {t_nextWays : Value} {t_least : Int32} {t_ended : Int32} {t_monthsKept : Int32} {p1_o : Nat} {p1_q : Nat → Nat} {p1_men : Int32} {p1_consuls : Int32} {p1_dangers : Int32} {p1_decrees : Int32} {p1_term : Int32} {p1_termTold : Int32} {p1_manNames : (Nat → Int64)} {p1_kinds : (Nat → Int32)} {p1_skills : (Nat → Int32)} {p1_fields : (Nat → Int32)} {p1_wants : (Nat → Int32)} {p1_hated : (Nat → Int32)} {p1_dangerNames : (Nat → Int64)} {p1_sizes : (Nat → Int32)} {p1_grows : (Nat → Int32)} {p1_decreeNames : (Nat → Int64)} {p1_grounds : (Nat → Int32)} {p1slaws_o : Nat} {p1slaws_q : Nat → Nat} {p1slaws_ops : (Nat → Int32)} {p1slaws_size : Int32} {p1slaws_worksFrom : Int32} {p1slaws_worksTo : Int32} {p1slaws_keepsFrom : Int32} {p1slaws_keepsTo : Int32} {out : Int32 × (Nat → Int32) × (Nat → Int32)} (X : Bx E A p s m args meth c cX2_mostAlike 8 RX2 (some .int)) : ∀ (n : Nat) {t_likeSizes : (Nat → Int32)} {p1slaws_stack : (Nat → Int32)} {x2 : Int32} {x3 : Int32} {x4 : Int32} {x5 : Int32} {x6 : Int32} {H : Heap} {locs : List Loc} {ls : Array Slot}, f_X2_mostAlike_33 n t_likeSizes p1_men p1_kinds p1_skills p1_wants p1slaws_ops p1slaws_stack p1slaws_worksFrom p1slaws_worksTo p1slaws_keepsFrom p1slaws_keepsTo x2 x3 x4 x5 x6 = some out → Wd E A s.heap (wX2 E t_o t_q t_path t_row t_leastRow t_needed t_likeSizes t_ways t_nextWays t_least t_ended t_monthsKept ++ (wX1 E p1_o p1_q p1_men p1_consuls p1_dangers p1_decrees p1_term p1_termTold p1_manNames p1_kinds p1_skills p1_fields p1_wants p1_hated p1_dangerNames p1_sizes p1_grows p1_decreeNames p1_grounds (.ref p1slaws_o) ++ (wX3 E p1slaws_o p1slaws_q p1slaws_ops p1slaws_stack p1slaws_size p1slaws_worksFrom p1slaws_worksTo p1slaws_keepsFrom p1slaws_keepsTo))) H locs → lv_has ls 8 [(0, .ref t_o), (1, .ref p1_o), (2, .int (x2)), (3, .int (x3)), (4, .int (x4)), (5, .int (x5)), (6, .int (x6))] → W p l e rm_X2_mostAlike s m args below meth c H locs 0 0 (Zn E below args s A (some (.int out.1)) (wX2 E t_o t_q t_path t_row t_leastRow t_needed out.2.1 t_ways t_nextWays t_least t_ended t_monthsKept ++ (wX1 E p1_o p1_q p1_men p1_consuls p1_dangers p1_decrees p1_term p1_termTold p1_manNames p1_kinds p1_skills p1_fields p1_wants p1_hated p1_dangerNames p1_sizes p1_grows p1_decreeNames p1_grounds (.ref p1slaws_o) ++ (wX3 E p1slaws_o p1slaws_q p1slaws_ops out.2.2 p1slaws_size p1slaws_worksFrom p1slaws_worksTo p1slaws_keepsFrom p1slaws_keepsTo)))) (F0 m 33 ls []) := by
  have hx := X.1.1
  have hb := X.1.2.1
  have ho := X.1.2.2.2.1
  have hts := X.1.2.2.2.2
  intro n
  induction n with
  | zero =>
    intro t_likeSizes p1slaws_stack x2 x3 x4 x5 x6 H locs ls hf
    have hf : (none : Option (Int32 × (Nat → Int32) × (Nat → Int32))) = some out := hf
    cases hf
  | succ n ih =>
    intro t_likeSizes p1slaws_stack x2 x3 x4 x5 x6 H locs ls hf hw hl
    rw [f_X2_mostAlike_33.eq_2] at hf
    refine lv_iload hx hb dX2_mostAlike_33 (lv_at hl 6 rfl) ?_
    refine lv_aload_n hx hb dX2_mostAlike_35 rfl (lv_at hl 1 rfl) ?_
    refine k_getN (q0 := 6) (ci := 0) (C := RX1) (T := TX1) (N := 18) (host := "PloughCall") (x := .int (p1_men)) X inx_1 hw rfl rfl 0 (by decide) rfl nw_32 rfl dX2_mostAlike_36 ?_
    refine lv_icmp_ge (tgt := 105) hx hb dX2_mostAlike_39 (by decide) (fun c_39 => ?_) (fun c_39 => ?_)
    · have hf := (if_pos c_39).symm.trans hf
      refine lv_iload hx hb dX2_mostAlike_105 (lv_at hl 5 rfl) ?_
      obtain rfl := Option.some.inj hf
      exact k_iret X hw dX2_mostAlike_107
    · have hf := (if_neg c_39).symm.trans hf
      refine lv_iload_n hx hb dX2_mostAlike_42 rfl (lv_at hl 3 rfl) ?_
      refine lv_iload hx hb dX2_mostAlike_43 (lv_at hl 6 rfl) ?_
      refine lv_ishr hx hb dX2_mostAlike_45 ?_
      refine lv_iconst (v := (1 : Int32)) hx hb dX2_mostAlike_46 (by decide) ?_
      refine lv_iand hx hb dX2_mostAlike_47 ?_
      refine lv_iconst (v := (1 : Int32)) hx hb dX2_mostAlike_48 (by decide) ?_
      refine lv_icmp_ne (tgt := 99) hx hb dX2_mostAlike_49 (by decide) (fun c_49 => ?_) (fun c_49 => ?_)
      · have hf := (if_neg c_49).symm.trans hf
        refine lv_iinc (v := (x6 + (1 : Int32))) (lv' := [(6, .int ((x6 + (1 : Int32)))), (0, .ref t_o), (1, .ref p1_o), (2, .int (x2)), (3, .int (x3)), (4, .int (x4)), (5, .int (x5))]) hx hb dX2_mostAlike_99 hl (k := 6) rfl rfl (by decide) rfl (fun ls hl => ?_)
        refine lv_goto (tgt := 33) hx hb dX2_mostAlike_102 (by decide) ?_
        exact ih hf hw (lv_sub hl [1, 2, 3, 4, 5, 6, 0] rfl)
      · have hf := (if_pos c_49).symm.trans hf
        refine lv_aload_n hx hb dX2_mostAlike_52 rfl (lv_at hl 1 rfl) ?_
        refine lv_iload hx hb dX2_mostAlike_53 (lv_at hl 6 rfl) ?_
        refine lv_iload_n hx hb dX2_mostAlike_55 rfl (lv_at hl 2 rfl) ?_
        refine lv_iload hx hb dX2_mostAlike_56 (lv_at hl 4 rfl) ?_
        obtain ⟨r58, hc_58, hf⟩ := bd_some hf
        refine k_V (As := [.int (x6), .int (x2), .int (x4)]) (rest := []) (index := 157) (C := RX1) X (c_X1_sizeBehind hc_58) tw_1208 tw_1192 tw_1193 tw_126 tw_1194 ⟨rfl, rfl⟩ hd_X1_sizeBehind ⟨Nat.le_of_ble_eq_true rfl, Nat.le_of_ble_eq_true rfl⟩ ⟨Nat.zero_le _, Nat.zero_le _⟩ hw [6, 7, 8, 9, 10, 11, 12, 13, 14, 15, 16, 17, 18, 19, 20] rfl rfl 6 rfl rfl rfl rfl hl.1 rfl (Nat.le_of_ble_eq_true rfl) dX2_mostAlike_58 (fun H locs hw => ?_)
        have hw : Wd E A s.heap (wX2 E t_o t_q t_path t_row t_leastRow t_needed t_likeSizes t_ways t_nextWays t_least t_ended t_monthsKept ++ (wX1 E p1_o p1_q p1_men p1_consuls p1_dangers p1_decrees p1_term p1_termTold p1_manNames p1_kinds p1_skills p1_fields p1_wants p1_hated p1_dangerNames p1_sizes p1_grows p1_decreeNames p1_grounds (.ref p1slaws_o) ++ (wX3 E p1slaws_o p1slaws_q p1slaws_ops r58.2 p1slaws_size p1slaws_worksFrom p1slaws_worksTo p1slaws_keepsFrom p1slaws_keepsTo))) H locs := hw
        refine lv_istore (lv' := [(7, .int (r58.1)), (0, .ref t_o), (1, .ref p1_o), (2, .int (x2)), (3, .int (x3)), (4, .int (x4)), (5, .int (x5)), (6, .int (x6))]) hx hb dX2_mostAlike_61 hl (by decide) rfl (fun ls hl => ?_)
        refine lv_aload_n hx hb dX2_mostAlike_63 rfl (lv_at hl 1 rfl) ?_
        refine k_get (q0 := 0) (ci := 1) (C := RX2) (T := TX2) (N := 10) (x := .ref (t_q 4)) X inx_2 hw rfl rfl 4 (by decide) rfl tw_264 rfl dX2_mostAlike_64 ?_
        refine lv_iload hx hb dX2_mostAlike_67 (lv_at hl 0 rfl) ?_
        refine lv_aload_n hx hb dX2_mostAlike_69 rfl (lv_at hl 1 rfl) ?_
        refine k_get (q0 := 0) (ci := 1) (C := RX2) (T := TX2) (N := 10) (x := .ref (t_q 4)) X inx_2 hw rfl rfl 4 (by decide) rfl tw_264 rfl dX2_mostAlike_70 ?_
        refine lv_iload hx hb dX2_mostAlike_73 (lv_at hl 0 rfl) ?_
        refine k_SN (As := [.ref (t_q 4), .int (r58.1)]) (rest := [.int (r58.1), .ref (t_q 4)]) (host := "PloughCall") (index := 51) X (ct_X12_at (out := (ga (100) t_likeSizes (r58.1))) rfl) nw_91 tw_119 tw_591 tw_592 ⟨rfl, rfl⟩ hd_X12_at.2 ⟨Nat.le_of_ble_eq_true rfl, Nat.le_of_ble_eq_true rfl⟩ ⟨Nat.zero_le _, Nat.zero_le _⟩ hw [5] rfl rfl rfl hl.1 rfl (Nat.le_of_ble_eq_true rfl) dX2_mostAlike_75 (fun H locs hw => ?_)
        have hw : Wd E A s.heap (wX2 E t_o t_q t_path t_row t_leastRow t_needed t_likeSizes t_ways t_nextWays t_least t_ended t_monthsKept ++ (wX1 E p1_o p1_q p1_men p1_consuls p1_dangers p1_decrees p1_term p1_termTold p1_manNames p1_kinds p1_skills p1_fields p1_wants p1_hated p1_dangerNames p1_sizes p1_grows p1_decreeNames p1_grounds (.ref p1slaws_o) ++ (wX3 E p1slaws_o p1slaws_q p1slaws_ops r58.2 p1slaws_size p1slaws_worksFrom p1slaws_worksTo p1slaws_keepsFrom p1slaws_keepsTo))) H locs := hw
        refine lv_iconst (v := (1 : Int32)) hx hb dX2_mostAlike_78 (by decide) ?_
        refine lv_iadd hx hb dX2_mostAlike_79 ?_
        refine k_SN (As := [.ref (t_q 4), .int (r58.1), .int (((ga (100) t_likeSizes (r58.1)) + (1 : Int32)))]) (rest := []) (host := "PloughCall") (index := 108) X (ct_X12_put (out := (gp (100) t_likeSizes (r58.1) (((ga (100) t_likeSizes (r58.1)) + (1 : Int32))))) rfl) nw_93 tw_119 tw_563 tw_564 ⟨rfl, rfl⟩ hd_X12_put.2 ⟨Nat.le_of_ble_eq_true rfl, Nat.le_of_ble_eq_true rfl⟩ ⟨Nat.zero_le _, Nat.zero_le _⟩ hw [5] rfl rfl rfl hl.1 rfl (Nat.le_of_ble_eq_true rfl) dX2_mostAlike_80 (fun H locs hw => ?_)
        have hw : Wd E A s.heap (wX2 E t_o t_q t_path t_row t_leastRow t_needed ((gp (100) t_likeSizes (r58.1) (((ga (100) t_likeSizes (r58.1)) + (1 : Int32))))) t_ways t_nextWays t_least t_ended t_monthsKept ++ (wX1 E p1_o p1_q p1_men p1_consuls p1_dangers p1_decrees p1_term p1_termTold p1_manNames p1_kinds p1_skills p1_fields p1_wants p1_hated p1_dangerNames p1_sizes p1_grows p1_decreeNames p1_grounds (.ref p1slaws_o) ++ (wX3 E p1slaws_o p1slaws_q p1slaws_ops r58.2 p1slaws_size p1slaws_worksFrom p1slaws_worksTo p1slaws_keepsFrom p1slaws_keepsTo))) H locs := hw
        refine lv_iload hx hb dX2_mostAlike_83 (lv_at hl 6 rfl) ?_
        refine lv_aload_n hx hb dX2_mostAlike_85 rfl (lv_at hl 1 rfl) ?_
        refine k_get (q0 := 0) (ci := 1) (C := RX2) (T := TX2) (N := 10) (x := .ref (t_q 4)) X inx_2 hw rfl rfl 4 (by decide) rfl tw_264 rfl dX2_mostAlike_86 ?_
        refine lv_iload hx hb dX2_mostAlike_89 (lv_at hl 0 rfl) ?_
        refine k_SN (As := [.ref (t_q 4), .int (r58.1)]) (rest := [.int (x5)]) (host := "PloughCall") (index := 51) X (ct_X12_at (out := (ga (100) ((gp (100) t_likeSizes (r58.1) (((ga (100) t_likeSizes (r58.1)) + (1 : Int32))))) (r58.1))) rfl) nw_91 tw_119 tw_591 tw_592 ⟨rfl, rfl⟩ hd_X12_at.2 ⟨Nat.le_of_ble_eq_true rfl, Nat.le_of_ble_eq_true rfl⟩ ⟨Nat.zero_le _, Nat.zero_le _⟩ hw [5] rfl rfl rfl hl.1 rfl (Nat.le_of_ble_eq_true rfl) dX2_mostAlike_91 (fun H locs hw => ?_)
        have hw : Wd E A s.heap (wX2 E t_o t_q t_path t_row t_leastRow t_needed ((gp (100) t_likeSizes (r58.1) (((ga (100) t_likeSizes (r58.1)) + (1 : Int32))))) t_ways t_nextWays t_least t_ended t_monthsKept ++ (wX1 E p1_o p1_q p1_men p1_consuls p1_dangers p1_decrees p1_term p1_termTold p1_manNames p1_kinds p1_skills p1_fields p1_wants p1_hated p1_dangerNames p1_sizes p1_grows p1_decreeNames p1_grounds (.ref p1slaws_o) ++ (wX3 E p1slaws_o p1slaws_q p1slaws_ops r58.2 p1slaws_size p1slaws_worksFrom p1slaws_worksTo p1slaws_keepsFrom p1slaws_keepsTo))) H locs := hw
        refine k_max (index := 139) X tw_1209 tw_977 tw_135 tw_978 (Nat.le_of_ble_eq_true rfl) (Nat.le_of_ble_eq_true rfl) ⟨Nat.zero_le _, Nat.zero_le _⟩ hl.1 dX2_mostAlike_94 ?_
        refine lv_istore (lv' := [(5, .int ((imax x5 (ga (100) ((gp (100) t_likeSizes (r58.1) (((ga (100) t_likeSizes (r58.1)) + (1 : Int32))))) (r58.1))))), (7, .int (r58.1)), (0, .ref t_o), (1, .ref p1_o), (2, .int (x2)), (3, .int (x3)), (4, .int (x4)), (6, .int (x6))]) hx hb dX2_mostAlike_97 hl (by decide) rfl (fun ls hl => ?_)
        refine lv_iinc (v := (x6 + (1 : Int32))) (lv' := [(6, .int ((x6 + (1 : Int32)))), (5, .int ((imax x5 (ga (100) ((gp (100) t_likeSizes (r58.1) (((ga (100) t_likeSizes (r58.1)) + (1 : Int32))))) (r58.1))))), (7, .int (r58.1)), (0, .ref t_o), (1, .ref p1_o), (2, .int (x2)), (3, .int (x3)), (4, .int (x4))]) hx hb dX2_mostAlike_99 hl (k := 7) rfl rfl (by decide) rfl (fun ls hl => ?_)
        refine lv_goto (tgt := 33) hx hb dX2_mostAlike_102 (by decide) ?_
        exact ih hf hw (lv_sub hl [3, 4, 5, 6, 7, 1, 0] rfl)
set_option maxRecDepth 100000 in
set_option maxHeartbeats 4000000 in
theorem kb_X2_mostAlike_3 {E : En} {p : Program} {l : Launch} {e : Env} {s : State} {m : MethodId} {args : Array Value} {below : List Frame} {meth : Method} {c : Code} {A : Nat → Prop} {t_o : Nat} {t_q : Nat → Nat} {t_path : (Nat → Option Nat)} {t_row : (Nat → Int32)} {t_leastRow : (Nat → Int32)} {t_needed : (Nat → Int32)} {t_ways : Value} {t_nextWays : Value} {t_least : Int32} {t_ended : Int32} {t_monthsKept : Int32} {p1_o : Nat} {p1_q : Nat → Nat} {p1_men : Int32} {p1_consuls : Int32} {p1_dangers : Int32} {p1_decrees : Int32} {p1_term : Int32} {p1_termTold : Int32} {p1_manNames : (Nat → Int64)} {p1_kinds : (Nat → Int32)} {p1_skills : (Nat → Int32)} {p1_fields : (Nat → Int32)} {p1_wants : (Nat → Int32)} {p1_hated : (Nat → Int32)} {p1_dangerNames : (Nat → Int64)} {p1_sizes : (Nat → Int32)} {p1_grows : (Nat → Int32)} {p1_decreeNames : (Nat → Int64)} {p1_grounds : (Nat → Int32)} {p1slaws_o : Nat} {p1slaws_q : Nat → Nat} {p1slaws_ops : (Nat → Int32)} {p1slaws_size : Int32} {p1slaws_worksFrom : Int32} {p1slaws_worksTo : Int32} {p1slaws_keepsFrom : Int32} {p1slaws_keepsTo : Int32} {out : Int32 × (Nat → Int32) × (Nat → Int32)} (X : Bx E A p s m args meth c cX2_mostAlike 8 RX2 (some .int)) : ∀ (n : Nat) {t_likeSizes : (Nat → Int32)} {p1slaws_stack : (Nat → Int32)} {x2 : Int32} {x3 : Int32} {x4 : Int32} {x5 : Int32} {H : Heap} {locs : List Loc} {ls : Array Slot}, f_X2_mostAlike_3 n t_likeSizes p1_men p1_kinds p1_skills p1_wants p1slaws_ops p1slaws_stack p1slaws_worksFrom p1slaws_worksTo p1slaws_keepsFrom p1slaws_keepsTo x2 x3 x4 x5 = some out → Wd E A s.heap (wX2 E t_o t_q t_path t_row t_leastRow t_needed t_likeSizes t_ways t_nextWays t_least t_ended t_monthsKept ++ (wX1 E p1_o p1_q p1_men p1_consuls p1_dangers p1_decrees p1_term p1_termTold p1_manNames p1_kinds p1_skills p1_fields p1_wants p1_hated p1_dangerNames p1_sizes p1_grows p1_decreeNames p1_grounds (.ref p1slaws_o) ++ (wX3 E p1slaws_o p1slaws_q p1slaws_ops p1slaws_stack p1slaws_size p1slaws_worksFrom p1slaws_worksTo p1slaws_keepsFrom p1slaws_keepsTo))) H locs → lv_has ls 8 [(0, .ref t_o), (1, .ref p1_o), (2, .int (x2)), (3, .int (x3)), (4, .int (x4)), (5, .int (x5))] → W p l e rm_X2_mostAlike s m args below meth c H locs 0 0 (Zn E below args s A (some (.int out.1)) (wX2 E t_o t_q t_path t_row t_leastRow t_needed out.2.1 t_ways t_nextWays t_least t_ended t_monthsKept ++ (wX1 E p1_o p1_q p1_men p1_consuls p1_dangers p1_decrees p1_term p1_termTold p1_manNames p1_kinds p1_skills p1_fields p1_wants p1_hated p1_dangerNames p1_sizes p1_grows p1_decreeNames p1_grounds (.ref p1slaws_o) ++ (wX3 E p1slaws_o p1slaws_q p1slaws_ops out.2.2 p1slaws_size p1slaws_worksFrom p1slaws_worksTo p1slaws_keepsFrom p1slaws_keepsTo)))) (F0 m 3 ls []) := by
  have hx := X.1.1
  have hb := X.1.2.1
  have ho := X.1.2.2.2.1
  have hts := X.1.2.2.2.2
  intro n
  induction n with
  | zero =>
    intro t_likeSizes p1slaws_stack x2 x3 x4 x5 H locs ls hf
    have hf : (none : Option (Int32 × (Nat → Int32) × (Nat → Int32))) = some out := hf
    cases hf
  | succ n ih =>
    intro t_likeSizes p1slaws_stack x2 x3 x4 x5 H locs ls hf hw hl
    rw [f_X2_mostAlike_3.eq_2] at hf
    refine lv_iload hx hb dX2_mostAlike_3 (lv_at hl 5 rfl) ?_
    refine lv_aload_n hx hb dX2_mostAlike_5 rfl (lv_at hl 0 rfl) ?_
    refine k_get (q0 := 0) (ci := 1) (C := RX2) (T := TX2) (N := 10) (x := .ref (t_q 4)) X inx_2 hw rfl rfl 4 (by decide) rfl tw_264 rfl dX2_mostAlike_6 ?_
    refine k_alen (q0 := 5) (t0 := 0) (v9 := (100 : Int32)) X hw rfl rfl rfl dX2_mostAlike_9 ?_
    refine lv_icmp_ge (tgt := 27) hx hb dX2_mostAlike_10 (by decide) (fun c_10 => ?_) (fun c_10 => ?_)
    · have hf := (if_pos c_10).symm.trans hf
      refine lv_iconst (v := (0 : Int32)) hx hb dX2_mostAlike_27 (by decide) ?_
      refine lv_istore (lv' := [(5, .int ((0 : Int32))), (0, .ref t_o), (1, .ref p1_o), (2, .int (x2)), (3, .int (x3)), (4, .int (x4))]) hx hb dX2_mostAlike_28 hl (by decide) rfl (fun ls hl => ?_)
      refine lv_iconst (v := (0 : Int32)) hx hb dX2_mostAlike_30 (by decide) ?_
      refine lv_istore (lv' := [(6, .int ((0 : Int32))), (5, .int ((0 : Int32))), (0, .ref t_o), (1, .ref p1_o), (2, .int (x2)), (3, .int (x3)), (4, .int (x4))]) hx hb dX2_mostAlike_31 hl (by decide) rfl (fun ls hl => ?_)
      exact kb_X2_mostAlike_33 X 1100 hf hw (lv_sub hl [2, 3, 4, 5, 6, 1, 0] rfl)
    · have hf := (if_neg c_10).symm.trans hf
      refine lv_aload_n hx hb dX2_mostAlike_13 rfl (lv_at hl 0 rfl) ?_
      refine k_get (q0 := 0) (ci := 1) (C := RX2) (T := TX2) (N := 10) (x := .ref (t_q 4)) X inx_2 hw rfl rfl 4 (by decide) rfl tw_264 rfl dX2_mostAlike_14 ?_
      refine lv_iload hx hb dX2_mostAlike_17 (lv_at hl 5 rfl) ?_
      refine lv_iconst (v := (0 : Int32)) hx hb dX2_mostAlike_19 (by decide) ?_
      obtain ⟨hi_20, hf⟩ := gd_some hf
      refine k_iast (q0 := 5) (n := 100) (f := t_likeSizes) X hw rfl hi_20 dX2_mostAlike_20 (fun H locs hw => ?_)
      have hw : Wd E A s.heap (wX2 E t_o t_q t_path t_row t_leastRow t_needed (upd t_likeSizes (x5).toNatClampNeg ((0 : Int32))) t_ways t_nextWays t_least t_ended t_monthsKept ++ (wX1 E p1_o p1_q p1_men p1_consuls p1_dangers p1_decrees p1_term p1_termTold p1_manNames p1_kinds p1_skills p1_fields p1_wants p1_hated p1_dangerNames p1_sizes p1_grows p1_decreeNames p1_grounds (.ref p1slaws_o) ++ (wX3 E p1slaws_o p1slaws_q p1slaws_ops p1slaws_stack p1slaws_size p1slaws_worksFrom p1slaws_worksTo p1slaws_keepsFrom p1slaws_keepsTo))) H locs := hw
      refine lv_iinc (v := (x5 + (1 : Int32))) (lv' := [(5, .int ((x5 + (1 : Int32)))), (0, .ref t_o), (1, .ref p1_o), (2, .int (x2)), (3, .int (x3)), (4, .int (x4))]) hx hb dX2_mostAlike_21 hl (k := 5) rfl rfl (by decide) rfl (fun ls hl => ?_)
      refine lv_goto (tgt := 3) hx hb dX2_mostAlike_24 (by decide) ?_
      exact ih hf hw (lv_sub hl [1, 2, 3, 4, 5, 0] rfl)
set_option maxRecDepth 100000 in
set_option maxHeartbeats 4000000 in
theorem c_X2_mostAlike {E : En} {l : Launch} {t_o : Nat} {t_q : Nat → Nat} {t_path : (Nat → Option Nat)} {t_row : (Nat → Int32)} {t_leastRow : (Nat → Int32)} {t_needed : (Nat → Int32)} {t_likeSizes : (Nat → Int32)} {t_ways : Value} {t_nextWays : Value} {t_least : Int32} {t_ended : Int32} {t_monthsKept : Int32} {p1_o : Nat} {p1_q : Nat → Nat} {p1_men : Int32} {p1_consuls : Int32} {p1_dangers : Int32} {p1_decrees : Int32} {p1_term : Int32} {p1_termTold : Int32} {p1_manNames : (Nat → Int64)} {p1_kinds : (Nat → Int32)} {p1_skills : (Nat → Int32)} {p1_fields : (Nat → Int32)} {p1_wants : (Nat → Int32)} {p1_hated : (Nat → Int32)} {p1_dangerNames : (Nat → Int64)} {p1_sizes : (Nat → Int32)} {p1_grows : (Nat → Int32)} {p1_decreeNames : (Nat → Int64)} {p1_grounds : (Nat → Int32)} {p1slaws_o : Nat} {p1slaws_q : Nat → Nat} {p1slaws_ops : (Nat → Int32)} {p1slaws_stack : (Nat → Int32)} {p1slaws_size : Int32} {p1slaws_worksFrom : Int32} {p1slaws_worksTo : Int32} {p1slaws_keepsFrom : Int32} {p1slaws_keepsTo : Int32} {x2 : Int32} {x3 : Int32} {x4 : Int32} {out : Int32 × (Nat → Int32) × (Nat → Int32)} (hf : f_X2_mostAlike t_likeSizes p1_men p1_kinds p1_skills p1_wants p1slaws_ops p1slaws_stack p1slaws_worksFrom p1slaws_worksTo p1slaws_keepsFrom p1slaws_keepsTo x2 x3 x4 = some out) : Cn E l yX2_mostAlike cX2_mostAlike 8 (some .int) rm_X2_mostAlike [.ref t_o, .ref p1_o, .int (x2), .int (x3), .int (x4)] (wX2 E t_o t_q t_path t_row t_leastRow t_needed t_likeSizes t_ways t_nextWays t_least t_ended t_monthsKept ++ (wX1 E p1_o p1_q p1_men p1_consuls p1_dangers p1_decrees p1_term p1_termTold p1_manNames p1_kinds p1_skills p1_fields p1_wants p1_hated p1_dangerNames p1_sizes p1_grows p1_decreeNames p1_grounds (.ref p1slaws_o) ++ (wX3 E p1slaws_o p1slaws_q p1slaws_ops p1slaws_stack p1slaws_size p1slaws_worksFrom p1slaws_worksTo p1slaws_keepsFrom p1slaws_keepsTo))) (some (.int out.1)) (wX2 E t_o t_q t_path t_row t_leastRow t_needed out.2.1 t_ways t_nextWays t_least t_ended t_monthsKept ++ (wX1 E p1_o p1_q p1_men p1_consuls p1_dangers p1_decrees p1_term p1_termTold p1_manNames p1_kinds p1_skills p1_fields p1_wants p1_hated p1_dangerNames p1_sizes p1_grows p1_decreeNames p1_grounds (.ref p1slaws_o) ++ (wX3 E p1slaws_o p1slaws_q p1slaws_ops out.2.2 p1slaws_size p1slaws_worksFrom p1slaws_worksTo p1slaws_keepsFrom p1slaws_keepsTo))) := by
  refine Cn.of (by decide) (Nat.le_of_ble_eq_true rfl) rfl ?_
  intro p e s m below meth c A ls args H locs X hw hl
  have hx := X.1.1
  have hb := X.1.2.1
  have ho := X.1.2.2.2.1
  have hts := X.1.2.2.2.2
  have hl : lv_has ls 8 [(0, .ref t_o), (1, .ref p1_o), (2, .int (x2)), (3, .int (x3)), (4, .int (x4))] := hl
  unfold f_X2_mostAlike at hf
  refine lv_iconst (v := (0 : Int32)) hx hb dX2_mostAlike_0 (by decide) ?_
  refine lv_istore (lv' := [(5, .int ((0 : Int32))), (0, .ref t_o), (1, .ref p1_o), (2, .int (x2)), (3, .int (x3)), (4, .int (x4))]) hx hb dX2_mostAlike_1 hl (by decide) rfl (fun ls hl => ?_)
  exact kb_X2_mostAlike_3 X 1100 hf hw (lv_sub hl [1, 2, 3, 4, 5, 0] rfl)
