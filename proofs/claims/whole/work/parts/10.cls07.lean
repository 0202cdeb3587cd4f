/-! private void shareFrom(PloughCall$City, PloughCall$Standing, int, int, int); -/
theorem hd_X2_shareFrom : yX2_shareFrom.cls = RX2 ∧ yX2_shareFrom.cls ≠ "java/lang/invoke/MethodHandle" ∧ yX2_shareFrom.cls ≠ "java/lang/invoke/VarHandle" ∧ (parseMethodDescriptor yX2_shareFrom.desc).map (fun d => d.parameters.length) = some 5 := by decide +kernel
abbrev rm_X2_shareFrom (d : Nat) : Room := { frames := 2 + d * 1, cells := 0, slots := 0, locals := 43 + d * 27 }
def f_X2_shareFrom_52 (F : (Nat → Int32) → (Nat → Int32) → (Nat → Int32) → Int32 → Int32 → Int32 → (Nat → Int32) → Int32 → Int32 → Int32 → Option ((Nat → Int32) × (Nat → Int32) × Int32)) : Nat → (Nat → Int32) → (Nat → Int32) → (Nat → Int32) → Int32 → Int32 → Int32 → (Nat → Int32) → Int32 → Int32 → Int32 → Int32 → Option ((Nat → Int32) × (Nat → Int32) × Int32)
  | 0, _, _, _, _, _, _, _, _, _, _, _ => none
  | n + 1, t_row, t_leastRow, t_needed, t_least, p1_men, p1_dangers, p2_sizes, x3, x4, x5, x6 => if p1_men ≤ x6 then some (t_row, t_leastRow, t_least)
    else if ((x4 >>> (x6 &&& (31 : Int32))) &&& (1 : Int32)) = (0 : Int32) then (F ((gp (5) t_row (x3) (x6))) t_leastRow t_needed t_least p1_men p1_dangers p2_sizes ((x3 + (1 : Int32))) ((x4 ||| ((1 : Int32) <<< (x6 &&& (31 : Int32))))) ((x5 + (ga (30) t_needed (((x3 * (6 : Int32)) + x6)))))).bind fun r115 => f_X2_shareFrom_52 F n r115.1 r115.2.1 t_needed r115.2.2 p1_men p1_dangers p2_sizes x3 x4 x5 ((x6 + (1 : Int32)))
    else f_X2_shareFrom_52 F n t_row t_leastRow t_needed t_least p1_men p1_dangers p2_sizes x3 x4 x5 ((x6 + (1 : Int32)))
def f_X2_shareFrom_s (F : (Nat → Int32) → (Nat → Int32) → (Nat → Int32) → Int32 → Int32 → Int32 → (Nat → Int32) → Int32 → Int32 → Int32 → Option ((Nat → Int32) × (Nat → Int32) × Int32)) (t_row : (Nat → Int32)) (t_leastRow : (Nat → Int32)) (t_needed : (Nat → Int32)) (t_least : Int32) (p1_men : Int32) (p1_dangers : Int32) (p2_sizes : (Nat → Int32)) (x3 : Int32) (x4 : Int32) (x5 : Int32) : Option ((Nat → Int32) × (Nat → Int32) × Int32) := if x3 < p1_dangers then if (ga (5) p2_sizes (x3)) = (0 : Int32) then (F ((gp (5) t_row (x3) ((-1 : Int32)))) t_leastRow t_needed t_least p1_men p1_dangers p2_sizes ((x3 + (1 : Int32))) (x4) (x5)).bind fun r45 => some (r45.1, r45.2.1, r45.2.2)
    else f_X2_shareFrom_52 F 1100 t_row t_leastRow t_needed t_least p1_men p1_dangers p2_sizes x3 x4 x5 ((0 : Int32))
  else (f_X2_keepIfLess t_row t_leastRow t_least (x5)).bind fun r11 => some (t_row, r11.1, r11.2)
def f_X2_shareFrom : Nat → (Nat → Int32) → (Nat → Int32) → (Nat → Int32) → Int32 → Int32 → Int32 → (Nat → Int32) → Int32 → Int32 → Int32 → Option ((Nat → Int32) × (Nat → Int32) × Int32)
  | 0, _, _, _, _, _, _, _, _, _, _ => none
  | d + 1, t_row, t_leastRow, t_needed, t_least, p1_men, p1_dangers, p2_sizes, x3, x4, x5 => f_X2_shareFrom_s (f_X2_shareFrom d) t_row t_leastRow t_needed t_least p1_men p1_dangers p2_sizes x3 x4 x5
set_option maxRecDepth 100000 in
set_option maxHeartbeats 4000000 in
theorem kb_X2_shareFrom_52 {E : En} {p : Program} {l : Launch} {e : Env} {s : State} {m : MethodId} {args : Array Value} {below : List Frame} {meth : Method} {c : Code} {A : Nat → Prop} {t_o : Nat} {t_q : Nat → Nat} {t_path : (Nat → Option Nat)} {t_needed : (Nat → Int32)} {t_likeSizes : (Nat → Int32)} {t_ways : Value} {t_nextWays : Value} {t_ended : Int32} {t_monthsKept : Int32} {p1_o : Nat} {p1_q : Nat → Nat} {p1_men : Int32} {p1_consuls : Int32} {p1_dangers : Int32} {p1_decrees : Int32} {p1_term : Int32} {p1_termTold : Int32} {p1_manNames : (Nat → Int64)} {p1_kinds : (Nat → Int32)} {p1_skills : (Nat → Int32)} {p1_fields : (Nat → Int32)} {p1_wants : (Nat → Int32)} {p1_hated : (Nat → Int32)} {p1_dangerNames : (Nat → Int64)} {p1_sizes : (Nat → Int32)} {p1_grows : (Nat → Int32)} {p1_decreeNames : (Nat → Int64)} {p1_grounds : (Nat → Int32)} {p1_laws : Value} {p2_o : Nat} {p2_q : Nat → Nat} {p2_month : Int32} {p2_power : Int32} {p2_master : Int32} {p2_left : Int32} {p2_kept : Int32} {p2_passed : Int32} {p2_sizes : (Nat → Int32)} {p2_fields : (Nat → Int32)} {p2_liked : (Nat → Int32)} {out : (Nat → Int32) × (Nat → Int32) × Int32} (X : Bx E A p s m args meth c cX2_shareFrom 8 RX2 none) {F : (Nat → Int32) → (Nat → Int32) → (Nat → Int32) → Int32 → Int32 → Int32 → (Nat → Int32) → Int32 → Int32 → Int32 → Option ((Nat → Int32) × (Nat → Int32) × Int32)} {d : Nat} (hF : ∀ {t_o : Nat} {t_q : Nat → Nat} {t_path : (Nat → Option Nat)} {t_row : (Nat → Int32)} {t_leastRow : (Nat → Int32)} {t_needed : (Nat → Int32)} {t_likeSizes : (Nat → Int32)} {t_ways : Value} {t_nextWays : Value} {t_least : Int32} {t_ended : Int32} {t_monthsKept : Int32} {p1_o : Nat} {p1_q : Nat → Nat} {p1_men : Int32} {p1_consuls : Int32} {p1_dangers : Int32} {p1_decrees : Int32} {p1_term : Int32} {p1_termTold : Int32} {p1_manNames : (Nat → Int64)} {p1_kinds : (Nat → Int32)} {p1_skills : (Nat → Int32)} {p1_fields : (Nat → Int32)} {p1_wants : (Nat → Int32)} {p1_hated : (Nat → Int32)} {p1_dangerNames : (Nat → Int64)} {p1_sizes : (Nat → Int32)} {p1_grows : (Nat → Int32)} {p1_decreeNames : (Nat → Int64)} {p1_grounds : (Nat → Int32)} {p1_laws : Value} {p2_o : Nat} {p2_q : Nat → Nat} {p2_month : Int32} {p2_power : Int32} {p2_master : Int32} {p2_left : Int32} {p2_kept : Int32} {p2_passed : Int32} {p2_sizes : (Nat → Int32)} {p2_fields : (Nat → Int32)} {p2_liked : (Nat → Int32)} {x3 : Int32} {x4 : Int32} {x5 : Int32} {out : (Nat → Int32) × (Nat → Int32) × Int32}, F t_row t_leastRow t_needed t_least p1_men p1_dangers p2_sizes x3 x4 x5 = some out → Cn E l yX2_shareFrom cX2_shareFrom 8 none (rm_X2_shareFrom d) [.ref t_o, .ref p1_o, .ref p2_o, .int (x3), .int (x4), .int (x5)] (wX2 E t_o t_q t_path t_row t_leastRow t_needed t_likeSizes t_ways t_nextWays t_least t_ended t_monthsKept ++ (wX1 E p1_o p1_q p1_men p1_consuls p1_dangers p1_decrees p1_term p1_termTold p1_manNames p1_kinds p1_skills p1_fields p1_wants p1_hated p1_dangerNames p1_sizes p1_grows p1_decreeNames p1_grounds p1_laws ++ (wX9 E p2_o p2_q p2_month p2_power p2_master p2_left p2_kept p2_passed p2_sizes p2_fields p2_liked))) none (wX2 E t_o t_q t_path out.1 out.2.1 t_needed t_likeSizes t_ways t_nextWays out.2.2 t_ended t_monthsKept ++ (wX1 E p1_o p1_q p1_men p1_consuls p1_dangers p1_decrees p1_term p1_termTold p1_manNames p1_kinds p1_skills p1_fields p1_wants p1_hated p1_dangerNames p1_sizes p1_grows p1_decreeNames p1_grounds p1_laws ++ (wX9 E p2_o p2_q p2_month p2_power p2_master p2_left p2_kept p2_passed p2_sizes p2_fields p2_liked)))) : ∀ (n : Nat) {t_row : (Nat → Int32)} {t_leastRow : (Nat → Int32)} {t_least : Int32} {x3 : Int32} {x4 : Int32} {x5 : Int32} {x6 : Int32} {H : Heap} {locs : List Loc} {ls : Array Slot}, f_X2_shareFrom_52 F n t_row t_leastRow t_needed t_least p1_men p1_dangers p2_sizes x3 x4 x5 x6 = some out → Wd E A s.heap (wX2 E t_o t_q t_path t_row t_leastRow t_needed t_likeSizes t_ways t_nextWays t_least t_ended t_monthsKept ++ (wX1 E p1_o p1_q p1_men p1_consuls p1_dangers p1_decrees p1_term p1_termTold p1_manNames p1_kinds p1_skills p1_fields p1_wants p1_hated p1_dangerNames p1_sizes p1_grows p1_decreeNames p1_grounds p1_laws ++ (wX9 E p2_o p2_q p2_month p2_power p2_master p2_left p2_kept p2_passed p2_sizes p2_fields p2_liked))) H locs → lv_has ls 8 [(0, .ref t_o), (1, .ref p1_o), (2, .ref p2_o), (3, .int (x3)), (4, .int (x4)), (5, .int (x5)), (6, .int (x6))] → W p l e (rm_X2_shareFrom (d + 1)) s m args below meth c H locs 0 0 (Zn E below args s A none (wX2 E t_o t_q t_path out.1 out.2.1 t_needed t_likeSizes t_ways t_nextWays out.2.2 t_ended t_monthsKept ++ (wX1 E p1_o p1_q p1_men p1_consuls p1_dangers p1_decrees p1_term p1_termTold p1_manNames p1_kinds p1_skills p1_fields p1_wants p1_hated p1_dangerNames p1_sizes p1_grows p1_decreeNames p1_grounds p1_laws ++ (wX9 E p2_o p2_q p2_month p2_power p2_master p2_left p2_kept p2_passed p2_sizes p2_fields p2_liked)))) (F0 m 52 ls []) := by
  have hx := X.1.1
  have hb := X.1.2.1
  have ho := X.1.2.2.2.1
  have hts := X.1.2.2.2.2
  intro n
  induction n with
  | zero =>
    intro t_row t_leastRow t_least x3 x4 x5 x6 H locs ls hf
    have hf : (none : Option ((Nat → Int32) × (Nat → Int32) × Int32)) = some out := hf
    cases hf
  | succ n ih =>
    intro t_row t_leastRow t_least x3 x4 x5 x6 H locs ls hf hw hl
    rw [f_X2_shareFrom_52.eq_2] at hf
    refine lv_iload hx hb dX2_shareFrom_52 (lv_at hl 6 rfl) ?_
    refine lv_aload_n hx hb dX2_shareFrom_54 rfl (lv_at hl 1 rfl) ?_
    refine k_getN (q0 := 6) (ci := 0) (C := RX1) (T := TX1) (N := 18) (host := "PloughCall") (x := .int (p1_men)) X inx_1 hw rfl rfl 0 (by decide) rfl nw_32 rfl dX2_shareFrom_55 ?_
    refine lv_icmp_ge (tgt := 124) hx hb dX2_shareFrom_58 (by decide) (fun c_58 => ?_) (fun c_58 => ?_)
    · have hf := (if_pos c_58).symm.trans hf
      obtain rfl := Option.some.inj hf
      exact k_vret X hw dX2_shareFrom_124
    · have hf := (if_neg c_58).symm.trans hf
      refine lv_iload hx hb dX2_shareFrom_61 (lv_at hl 4 rfl) ?_
      refine lv_iload hx hb dX2_shareFrom_63 (lv_at hl 6 rfl) ?_
      refine lv_ishr hx hb dX2_shareFrom_65 ?_
      refine lv_iconst (v := (1 : Int32)) hx hb dX2_shareFrom_66 (by decide) ?_
      refine lv_iand hx hb dX2_shareFrom_67 ?_
      refine lv_if_ne (tgt := 118) hx hb dX2_shareFrom_68 (by decide) (fun c_68 => ?_) (fun c_68 => ?_)
      · have hf := (if_neg c_68).symm.trans hf
        refine lv_iinc (v := (x6 + (1 : Int32))) (lv' := [(6, .int ((x6 + (1 : Int32)))), (0, .ref t_o), (1, .ref p1_o), (2, .ref p2_o), (3, .int (x3)), (4, .int (x4)), (5, .int (x5))]) hx hb dX2_shareFrom_118 hl (k := 6) rfl rfl (by decide) rfl (fun ls hl => ?_)
        refine lv_goto (tgt := 52) hx hb dX2_shareFrom_121 (by decide) ?_
        exact ih hf hw (lv_sub hl [1, 2, 3, 4, 5, 6, 0] rfl)
      · have hf := (if_pos c_68).symm.trans hf
        refine lv_aload_n hx hb dX2_shareFrom_71 rfl (lv_at hl 0 rfl) ?_
        refine k_get (q0 := 0) (ci := 1) (C := RX2) (T := TX2) (N := 10) (x := .ref (t_q 1)) X inx_2 hw rfl rfl 1 (by decide) rfl tw_260 rfl dX2_shareFrom_72 ?_
        refine lv_iload_n hx hb dX2_shareFrom_75 rfl (lv_at hl 3 rfl) ?_
        refine lv_iload hx hb dX2_shareFrom_76 (lv_at hl 6 rfl) ?_
        refine k_SN (As := [.ref (t_q 1), .int (x3), .int (x6)]) (rest := []) (host := "PloughCall") (index := 108) X (ct_X12_put (out := (gp (5) t_row (x3) (x6))) rfl) nw_93 tw_119 tw_563 tw_564 ⟨rfl, rfl⟩ hd_X12_put.2 ⟨by dsimp only [rm_X2_shareFrom, rm_X12_put]; omega, by dsimp only [rm_X2_shareFrom, rm_X12_put]; omega⟩ ⟨Nat.zero_le _, Nat.zero_le _⟩ hw [2] rfl rfl rfl hl.1 rfl (Nat.le_of_ble_eq_true rfl) dX2_shareFrom_78 (fun H locs hw => ?_)
        have hw : Wd E A s.heap (wX2 E t_o t_q t_path ((gp (5) t_row (x3) (x6))) t_leastRow t_needed t_likeSizes t_ways t_nextWays t_least t_ended t_monthsKept ++ (wX1 E p1_o p1_q p1_men p1_consuls p1_dangers p1_decrees p1_term p1_termTold p1_manNames p1_kinds p1_skills p1_fields p1_wants p1_hated p1_dangerNames p1_sizes p1_grows p1_decreeNames p1_grounds p1_laws ++ (wX9 E p2_o p2_q p2_month p2_power p2_master p2_left p2_kept p2_passed p2_sizes p2_fields p2_liked))) H locs := hw
        refine lv_aload_n hx hb dX2_shareFrom_81 rfl (lv_at hl 0 rfl) ?_
        refine k_get (q0 := 0) (ci := 1) (C := RX2) (T := TX2) (N := 10) (x := .ref (t_q 3)) X inx_2 hw rfl rfl 3 (by decide) rfl tw_263 rfl dX2_shareFrom_82 ?_
        refine lv_iload_n hx hb dX2_shareFrom_85 rfl (lv_at hl 3 rfl) ?_
        refine lv_bipush (v := (6 : Int32)) hx hb dX2_shareFrom_86 (by decide) ?_
        refine lv_imul hx hb dX2_shareFrom_88 ?_
        refine lv_iload hx hb dX2_shareFrom_89 (lv_at hl 6 rfl) ?_
        refine lv_iadd hx hb dX2_shareFrom_91 ?_
        refine k_SN (As := [.ref (t_q 3), .int (((x3 * (6 : Int32)) + x6))]) (rest := []) (host := "PloughCall") (index := 51) X (ct_X12_at (out := (ga (30) t_needed (((x3 * (6 : Int32)) + x6)))) rfl) nw_91 tw_119 tw_591 tw_592 ⟨rfl, rfl⟩ hd_X12_at.2 ⟨by dsimp only [rm_X2_shareFrom, rm_X12_at]; omega, by dsimp only [rm_X2_shareFrom, rm_X12_at]; omega⟩ ⟨Nat.zero_le _, Nat.zero_le _⟩ hw [4] rfl rfl rfl hl.1 rfl (Nat.le_of_ble_eq_true rfl) dX2_shareFrom_92 (fun H locs hw => ?_)
        have hw : Wd E A s.heap (wX2 E t_o t_q t_path ((gp (5) t_row (x3) (x6))) t_leastRow t_needed t_likeSizes t_ways t_nextWays t_least t_ended t_monthsKept ++ (wX1 E p1_o p1_q p1_men p1_consuls p1_dangers p1_decrees p1_term p1_termTold p1_manNames p1_kinds p1_skills p1_fields p1_wants p1_hated p1_dangerNames p1_sizes p1_grows p1_decreeNames p1_grounds p1_laws ++ (wX9 E p2_o p2_q p2_month p2_power p2_master p2_left p2_kept p2_passed p2_sizes p2_fields p2_liked))) H locs := hw
        refine lv_istore (lv' := [(7, .int ((ga (30) t_needed (((x3 * (6 : Int32)) + x6))))), (0, .ref t_o), (1, .ref p1_o), (2, .ref p2_o), (3, .int (x3)), (4, .int (x4)), (5, .int (x5)), (6, .int (x6))]) hx hb dX2_shareFrom_95 hl (by decide) rfl (fun ls hl => ?_)
        refine lv_aload_n hx hb dX2_shareFrom_97 rfl (lv_at hl 1 rfl) ?_
        refine lv_aload_n hx hb dX2_shareFrom_98 rfl (lv_at hl 2 rfl) ?_
        refine lv_aload_n hx hb dX2_shareFrom_99 rfl (lv_at hl 3 rfl) ?_
        refine lv_iload_n hx hb dX2_shareFrom_100 rfl (lv_at hl 4 rfl) ?_
        refine lv_iconst (v := (1 : Int32)) hx hb dX2_shareFrom_101 (by decide) ?_
        refine lv_iadd hx hb dX2_shareFrom_102 ?_
        refine lv_iload hx hb dX2_shareFrom_103 (lv_at hl 5 rfl) ?_
        refine lv_iconst (v := (1 : Int32)) hx hb dX2_shareFrom_105 (by decide) ?_
        refine lv_iload hx hb dX2_shareFrom_106 (lv_at hl 7 rfl) ?_
        refine lv_ishl hx hb dX2_shareFrom_108 ?_
        refine lv_ior hx hb dX2_shareFrom_109 ?_
        refine lv_iload hx hb dX2_shareFrom_110 (lv_at hl 6 rfl) ?_
        refine lv_iload hx hb dX2_shareFrom_112 (lv_at hl 0 rfl) ?_
        refine lv_iadd hx hb dX2_shareFrom_114 ?_
        obtain ⟨r115, hc_115, hf⟩ := bd_some hf
        refine k_V (As := [.ref p1_o, .ref p2_o, .int ((x3 + (1 : Int32))), .int ((x4 ||| ((1 : Int32) <<< (x6 &&& (31 : Int32))))), .int ((x5 + (ga (30) t_needed (((x3 * (6 : Int32)) + x6)))))]) (rest := []) (index := 116) (C := RX2) X (hF hc_115) tw_1140 tw_1142 tw_39 tw_122 tw_1143 ⟨rfl, rfl⟩ hd_X2_shareFrom ⟨by dsimp only [rm_X2_shareFrom, rm_X2_shareFrom]; omega, by dsimp only [rm_X2_shareFrom, rm_X2_shareFrom]; omega⟩ ⟨Nat.zero_le _, Nat.zero_le _⟩ hw [0, 1, 2, 3, 4, 5, 6, 7, 8, 9, 10, 11, 12, 13, 14, 15, 16, 17, 18, 19, 20, 21] rfl rfl 0 rfl rfl rfl rfl hl.1 rfl (Nat.le_of_ble_eq_true rfl) dX2_shareFrom_115 (fun H locs hw => ?_)
        have hw : Wd E A s.heap (wX2 E t_o t_q t_path r115.1 r115.2.1 t_needed t_likeSizes t_ways t_nextWays r115.2.2 t_ended t_monthsKept ++ (wX1 E p1_o p1_q p1_men p1_consuls p1_dangers p1_decrees p1_term p1_termTold p1_manNames p1_kinds p1_skills p1_fields p1_wants p1_hated p1_dangerNames p1_sizes p1_grows p1_decreeNames p1_grounds p1_laws ++ (wX9 E p2_o p2_q p2_month p2_power p2_master p2_left p2_kept p2_passed p2_sizes p2_fields p2_liked))) H locs := hw
        refine lv_iinc (v := (x6 + (1 : Int32))) (lv' := [(6, .int ((x6 + (1 : Int32)))), (7, .int ((ga (30) t_needed (((x3 * (6 : Int32)) + x6))))), (0, .ref t_o), (1, .ref p1_o), (2, .ref p2_o), (3, .int (x3)), (4, .int (x4)), (5, .int (x5))]) hx hb dX2_shareFrom_118 hl (k := 7) rfl rfl (by decide) rfl (fun ls hl => ?_)
        refine lv_goto (tgt := 52) hx hb dX2_shareFrom_121 (by decide) ?_
        exact ih hf hw (lv_sub hl [2, 3, 4, 5, 6, 7, 0] rfl)
set_option maxRecDepth 100000 in
set_option maxHeartbeats 4000000 in
theorem cs_X2_shareFrom {E : En} {l : Launch} {F : (Nat → Int32) → (Nat → Int32) → (Nat → Int32) → Int32 → Int32 → Int32 → (Nat → Int32) → Int32 → Int32 → Int32 → Option ((Nat → Int32) × (Nat → Int32) × Int32)} {d : Nat} (hF : ∀ {t_o : Nat} {t_q : Nat → Nat} {t_path : (Nat → Option Nat)} {t_row : (Nat → Int32)} {t_leastRow : (Nat → Int32)} {t_needed : (Nat → Int32)} {t_likeSizes : (Nat → Int32)} {t_ways : Value} {t_nextWays : Value} {t_least : Int32} {t_ended : Int32} {t_monthsKept : Int32} {p1_o : Nat} {p1_q : Nat → Nat} {p1_men : Int32} {p1_consuls : Int32} {p1_dangers : Int32} {p1_decrees : Int32} {p1_term : Int32} {p1_termTold : Int32} {p1_manNames : (Nat → Int64)} {p1_kinds : (Nat → Int32)} {p1_skills : (Nat → Int32)} {p1_fields : (Nat → Int32)} {p1_wants : (Nat → Int32)} {p1_hated : (Nat → Int32)} {p1_dangerNames : (Nat → Int64)} {p1_sizes : (Nat → Int32)} {p1_grows : (Nat → Int32)} {p1_decreeNames : (Nat → Int64)} {p1_grounds : (Nat → Int32)} {p1_laws : Value} {p2_o : Nat} {p2_q : Nat → Nat} {p2_month : Int32} {p2_power : Int32} {p2_master : Int32} {p2_left : Int32} {p2_kept : Int32} {p2_passed : Int32} {p2_sizes : (Nat → Int32)} {p2_fields : (Nat → Int32)} {p2_liked : (Nat → Int32)} {x3 : Int32} {x4 : Int32} {x5 : Int32} {out : (Nat → Int32) × (Nat → Int32) × Int32}, F t_row t_leastRow t_needed t_least p1_men p1_dangers p2_sizes x3 x4 x5 = some out → Cn E l yX2_shareFrom cX2_shareFrom 8 none (rm_X2_shareFrom d) [.ref t_o, .ref p1_o, .ref p2_o, .int (x3), .int (x4), .int (x5)] (wX2 E t_o t_q t_path t_row t_leastRow t_needed t_likeSizes t_ways t_nextWays t_least t_ended t_monthsKept ++ (wX1 E p1_o p1_q p1_men p1_consuls p1_dangers p1_decrees p1_term p1_termTold p1_manNames p1_kinds p1_skills p1_fields p1_wants p1_hated p1_dangerNames p1_sizes p1_grows p1_decreeNames p1_grounds p1_laws ++ (wX9 E p2_o p2_q p2_month p2_power p2_master p2_left p2_kept p2_passed p2_sizes p2_fields p2_liked))) none (wX2 E t_o t_q t_path out.1 out.2.1 t_needed t_likeSizes t_ways t_nextWays out.2.2 t_ended t_monthsKept ++ (wX1 E p1_o p1_q p1_men p1_consuls p1_dangers p1_decrees p1_term p1_termTold p1_manNames p1_kinds p1_skills p1_fields p1_wants p1_hated p1_dangerNames p1_sizes p1_grows p1_decreeNames p1_grounds p1_laws ++ (wX9 E p2_o p2_q p2_month p2_power p2_master p2_left p2_kept p2_passed p2_sizes p2_fields p2_liked)))) {t_o : Nat} {t_q : Nat → Nat} {t_path : (Nat → Option Nat)} {t_row : (Nat → Int32)} {t_leastRow : (Nat → Int32)} {t_needed : (Nat → Int32)} {t_likeSizes : (Nat → Int32)} {t_ways : Value} {t_nextWays : Value} {t_least : Int32} {t_ended : Int32} {t_monthsKept : Int32} {p1_o : Nat} {p1_q : Nat → Nat} {p1_men : Int32} {p1_consuls : Int32} {p1_dangers : Int32} {p1_decrees : Int32} {p1_term : Int32} {p1_termTold : Int32} {p1_manNames : (Nat → Int64)} {p1_kinds : (Nat → Int32)} {p1_skills : (Nat → Int32)} {p1_fields : (Nat → Int32)} {p1_wants : (Nat → Int32)} {p1_hated : (Nat → Int32)} {p1_dangerNames : (Nat → Int64)} {p1_sizes : (Nat → Int32)} {p1_grows : (Nat → Int32)} {p1_decreeNames : (Nat → Int64)} {p1_grounds : (Nat → Int32)} {p1_laws : Value} {p2_o : Nat} {p2_q : Nat → Nat} {p2_month : Int32} {p2_power : Int32} {p2_master : Int32} {p2_left : Int32} {p2_kept : Int32} {p2_passed : Int32} {p2_sizes : (Nat → Int32)} {p2_fields : (Nat → Int32)} {p2_liked : (Nat → Int32)} {x3 : Int32} {x4 : Int32} {x5 : Int32} {out : (Nat → Int32) × (Nat → Int32) × Int32} (hf : f_X2_shareFrom_s F t_row t_leastRow t_needed t_least p1_men p1_dangers p2_sizes x3 x4 x5 = some out) : Cn E l yX2_shareFrom cX2_shareFrom 8 none (rm_X2_shareFrom (d + 1)) [.ref t_o, .ref p1_o, .ref p2_o, .int (x3), .int (x4), .int (x5)] (wX2 E t_o t_q t_path t_row t_leastRow t_needed t_likeSizes t_ways t_nextWays t_least t_ended t_monthsKept ++ (wX1 E p1_o p1_q p1_men p1_consuls p1_dangers p1_decrees p1_term p1_termTold p1_manNames p1_kinds p1_skills p1_fields p1_wants p1_hated p1_dangerNames p1_sizes p1_grows p1_decreeNames p1_grounds p1_laws ++ (wX9 E p2_o p2_q p2_month p2_power p2_master p2_left p2_kept p2_passed p2_sizes p2_fields p2_liked))) none (wX2 E t_o t_q t_path out.1 out.2.1 t_needed t_likeSizes t_ways t_nextWays out.2.2 t_ended t_monthsKept ++ (wX1 E p1_o p1_q p1_men p1_consuls p1_dangers p1_decrees p1_term p1_termTold p1_manNames p1_kinds p1_skills p1_fields p1_wants p1_hated p1_dangerNames p1_sizes p1_grows p1_decreeNames p1_grounds p1_laws ++ (wX9 E p2_o p2_q p2_month p2_power p2_master p2_left p2_kept p2_passed p2_sizes p2_fields p2_liked))) := by
  refine Cn.of (by decide) (Nat.le_of_ble_eq_true rfl) rfl ?_
  intro p e s m below meth c A ls args H locs X hw hl
  have hx := X.1.1
  have hb := X.1.2.1
  have ho := X.1.2.2.2.1
  have hts := X.1.2.2.2.2
  have hl : lv_has ls 8 [(0, .ref t_o), (1, .ref p1_o), (2, .ref p2_o), (3, .int (x3)), (4, .int (x4)), (5, .int (x5))] := hl
  unfold f_X2_shareFrom_s at hf
  refine lv_iload_n hx hb dX2_shareFrom_0 rfl (lv_at hl 3 rfl) ?_
  refine lv_aload_n hx hb dX2_shareFrom_1 rfl (lv_at hl 1 rfl) ?_
  refine k_getN (q0 := 6) (ci := 0) (C := RX1) (T := TX1) (N := 18) (host := "PloughCall") (x := .int (p1_dangers)) X inx_1 hw rfl rfl 2 (by decide) rfl nw_40 rfl dX2_shareFrom_2 ?_
  refine lv_icmp_lt (tgt := 15) hx hb dX2_shareFrom_5 (by decide) (fun c_5 => ?_) (fun c_5 => ?_)
  · have hf := (if_pos c_5).symm.trans hf
    refine lv_aload_n hx hb dX2_shareFrom_15 rfl (lv_at hl 2 rfl) ?_
    refine k_getN (q0 := 18) (ci := 8) (C := RX9) (T := TX9) (N := 9) (host := "PloughCall") (x := .ref (p2_q 6)) X inx_9 hw rfl rfl 6 (by decide) rfl nw_16 rfl dX2_shareFrom_16 ?_
    refine lv_iload_n hx hb dX2_shareFrom_19 rfl (lv_at hl 3 rfl) ?_
    refine k_SN (As := [.ref (p2_q 6), .int (x3)]) (rest := []) (host := "PloughCall") (index := 51) X (ct_X12_at (out := (ga (5) p2_sizes (x3))) rfl) nw_91 tw_119 tw_591 tw_592 ⟨rfl, rfl⟩ hd_X12_at.2 ⟨by dsimp only [rm_X2_shareFrom, rm_X12_at]; omega, by dsimp only [rm_X2_shareFrom, rm_X12_at]; omega⟩ ⟨Nat.zero_le _, Nat.zero_le _⟩ hw [19] rfl rfl rfl hl.1 rfl (Nat.le_of_ble_eq_true rfl) dX2_shareFrom_20 (fun H locs hw => ?_)
    have hw : Wd E A s.heap (wX2 E t_o t_q t_path t_row t_leastRow t_needed t_likeSizes t_ways t_nextWays t_least t_ended t_monthsKept ++ (wX1 E p1_o p1_q p1_men p1_consuls p1_dangers p1_decrees p1_term p1_termTold p1_manNames p1_kinds p1_skills p1_fields p1_wants p1_hated p1_dangerNames p1_sizes p1_grows p1_decreeNames p1_grounds p1_laws ++ (wX9 E p2_o p2_q p2_month p2_power p2_master p2_left p2_kept p2_passed p2_sizes p2_fields p2_liked))) H locs := hw
    refine lv_if_ne (tgt := 49) hx hb dX2_shareFrom_23 (by decide) (fun c_23 => ?_) (fun c_23 => ?_)
    · have hf := (if_neg c_23).symm.trans hf
      refine lv_iconst (v := (0 : Int32)) hx hb dX2_shareFrom_49 (by decide) ?_
      refine lv_istore (lv' := [(6, .int ((0 : Int32))), (0, .ref t_o), (1, .ref p1_o), (2, .ref p2_o), (3, .int (x3)), (4, .int (x4)), (5, .int (x5))]) hx hb dX2_shareFrom_50 hl (by decide) rfl (fun ls hl => ?_)
      exact kb_X2_shareFrom_52 X hF 1100 hf hw (lv_sub hl [1, 2, 3, 4, 5, 6, 0] rfl)
    · have hf := (if_pos c_23).symm.trans hf
      refine lv_aload_n hx hb dX2_shareFrom_26 rfl (lv_at hl 0 rfl) ?_
      refine k_get (q0 := 0) (ci := 1) (C := RX2) (T := TX2) (N := 10) (x := .ref (t_q 1)) X inx_2 hw rfl rfl 1 (by decide) rfl tw_260 rfl dX2_shareFrom_27 ?_
      refine lv_iload_n hx hb dX2_shareFrom_30 rfl (lv_at hl 3 rfl) ?_
      refine lv_iconst (v := (-1 : Int32)) hx hb dX2_shareFrom_31 (by decide) ?_
      refine k_SN (As := [.ref (t_q 1), .int (x3), .int ((-1 : Int32))]) (rest := []) (host := "PloughCall") (index := 108) X (ct_X12_put (out := (gp (5) t_row (x3) ((-1 : Int32)))) rfl) nw_93 tw_119 tw_563 tw_564 ⟨rfl, rfl⟩ hd_X12_put.2 ⟨by dsimp only [rm_X2_shareFrom, rm_X12_put]; omega, by dsimp only [rm_X2_shareFrom, rm_X12_put]; omega⟩ ⟨Nat.zero_le _, Nat.zero_le _⟩ hw [2] rfl rfl rfl hl.1 rfl (Nat.le_of_ble_eq_true rfl) dX2_shareFrom_32 (fun H locs hw => ?_)
      have hw : Wd E A s.heap (wX2 E t_o t_q t_path ((gp (5) t_row (x3) ((-1 : Int32)))) t_leastRow t_needed t_likeSizes t_ways t_nextWays t_least t_ended t_monthsKept ++ (wX1 E p1_o p1_q p1_men p1_consuls p1_dangers p1_decrees p1_term p1_termTold p1_manNames p1_kinds p1_skills p1_fields p1_wants p1_hated p1_dangerNames p1_sizes p1_grows p1_decreeNames p1_grounds p1_laws ++ (wX9 E p2_o p2_q p2_month p2_power p2_master p2_left p2_kept p2_passed p2_sizes p2_fields p2_liked))) H locs := hw
      refine lv_aload_n hx hb dX2_shareFrom_35 rfl (lv_at hl 0 rfl) ?_
      refine lv_aload_n hx hb dX2_shareFrom_36 rfl (lv_at hl 1 rfl) ?_
      refine lv_aload_n hx hb dX2_shareFrom_37 rfl (lv_at hl 2 rfl) ?_
      refine lv_iload_n hx hb dX2_shareFrom_38 rfl (lv_at hl 3 rfl) ?_
      refine lv_iconst (v := (1 : Int32)) hx hb dX2_shareFrom_39 (by decide) ?_
      refine lv_iadd hx hb dX2_shareFrom_40 ?_
      refine lv_iload hx hb dX2_shareFrom_41 (lv_at hl 4 rfl) ?_
      refine lv_iload hx hb dX2_shareFrom_43 (lv_at hl 5 rfl) ?_
      obtain ⟨r45, hc_45, hf⟩ := bd_some hf
      refine k_V (As := [.ref p1_o, .ref p2_o, .int ((x3 + (1 : Int32))), .int (x4), .int (x5)]) (rest := []) (index := 116) (C := RX2) X (hF hc_45) tw_1140 tw_1142 tw_39 tw_122 tw_1143 ⟨rfl, rfl⟩ hd_X2_shareFrom ⟨by dsimp only [rm_X2_shareFrom, rm_X2_shareFrom]; omega, by dsimp only [rm_X2_shareFrom, rm_X2_shareFrom]; omega⟩ ⟨Nat.zero_le _, Nat.zero_le _⟩ hw [0, 1, 2, 3, 4, 5, 6, 7, 8, 9, 10, 11, 12, 13, 14, 15, 16, 17, 18, 19, 20, 21] rfl rfl 0 rfl rfl rfl rfl hl.1 rfl (Nat.le_of_ble_eq_true rfl) dX2_shareFrom_45 (fun H locs hw => ?_)
      have hw : Wd E A s.heap (wX2 E t_o t_q t_path r45.1 r45.2.1 t_needed t_likeSizes t_ways t_nextWays r45.2.2 t_ended t_monthsKept ++ (wX1 E p1_o p1_q p1_men p1_consuls p1_dangers p1_decrees p1_term p1_termTold p1_manNames p1_kinds p1_skills p1_fields p1_wants p1_hated p1_dangerNames p1_sizes p1_grows p1_decreeNames p1_grounds p1_laws ++ (wX9 E p2_o p2_q p2_month p2_power p2_master p2_left p2_kept p2_passed p2_sizes p2_fields p2_liked))) H locs := hw
      obtain rfl := Option.some.inj hf
      exact k_vret X hw dX2_shareFrom_48
  · have hf := (if_neg c_5).symm.trans hf
    refine lv_aload_n hx hb dX2_shareFrom_8 rfl (lv_at hl 0 rfl) ?_
    refine lv_iload hx hb dX2_shareFrom_9 (lv_at hl 5 rfl) ?_
    obtain ⟨r11, hc_11, hf⟩ := bd_some hf
    refine k_V (As := [.int (x5)]) (rest := []) (index := 98) (C := RX2) X (c_X2_keepIfLess hc_11) tw_1121 tw_1123 tw_38 tw_122 tw_1124 ⟨rfl, rfl⟩ hd_X2_keepIfLess ⟨by dsimp only [rm_X2_shareFrom, rm_X2_keepIfLess]; omega, by dsimp only [rm_X2_shareFrom, rm_X2_keepIfLess]; omega⟩ ⟨Nat.zero_le _, Nat.zero_le _⟩ hw [0, 1, 2, 3, 4, 5] rfl rfl 0 rfl rfl rfl rfl hl.1 rfl (Nat.le_of_ble_eq_true rfl) dX2_shareFrom_11 (fun H locs hw => ?_)
    have hw : Wd E A s.heap (wX2 E t_o t_q t_path t_row r11.1 t_needed t_likeSizes t_ways t_nextWays r11.2 t_ended t_monthsKept ++ (wX1 E p1_o p1_q p1_men p1_consuls p1_dangers p1_decrees p1_term p1_termTold p1_manNames p1_kinds p1_skills p1_fields p1_wants p1_hated p1_dangerNames p1_sizes p1_grows p1_decreeNames p1_grounds p1_laws ++ (wX9 E p2_o p2_q p2_month p2_power p2_master p2_left p2_kept p2_passed p2_sizes p2_fields p2_liked))) H locs := hw
    obtain rfl := Option.some.inj hf
    exact k_vret X hw dX2_shareFrom_14
set_option maxRecDepth 100000 in
set_option maxHeartbeats 4000000 in
theorem c_X2_shareFrom {E : En} {l : Launch} : ∀ (d : Nat) {t_o : Nat} {t_q : Nat → Nat} {t_path : (Nat → Option Nat)} {t_row : (Nat → Int32)} {t_leastRow : (Nat → Int32)} {t_needed : (Nat → Int32)} {t_likeSizes : (Nat → Int32)} {t_ways : Value} {t_nextWays : Value} {t_least : Int32} {t_ended : Int32} {t_monthsKept : Int32} {p1_o : Nat} {p1_q : Nat → Nat} {p1_men : Int32} {p1_consuls : Int32} {p1_dangers : Int32} {p1_decrees : Int32} {p1_term : Int32} {p1_termTold : Int32} {p1_manNames : (Nat → Int64)} {p1_kinds : (Nat → Int32)} {p1_skills : (Nat → Int32)} {p1_fields : (Nat → Int32)} {p1_wants : (Nat → Int32)} {p1_hated : (Nat → Int32)} {p1_dangerNames : (Nat → Int64)} {p1_sizes : (Nat → Int32)} {p1_grows : (Nat → Int32)} {p1_decreeNames : (Nat → Int64)} {p1_grounds : (Nat → Int32)} {p1_laws : Value} {p2_o : Nat} {p2_q : Nat → Nat} {p2_month : Int32} {p2_power : Int32} {p2_master : Int32} {p2_left : Int32} {p2_kept : Int32} {p2_passed : Int32} {p2_sizes : (Nat → Int32)} {p2_fields : (Nat → Int32)} {p2_liked : (Nat → Int32)} {x3 : Int32} {x4 : Int32} {x5 : Int32} {out : (Nat → Int32) × (Nat → Int32) × Int32}, f_X2_shareFrom d t_row t_leastRow t_needed t_least p1_men p1_dangers p2_sizes x3 x4 x5 = some out → Cn E l yX2_shareFrom cX2_shareFrom 8 none (rm_X2_shareFrom d) [.ref t_o, .ref p1_o, .ref p2_o, .int (x3), .int (x4), .int (x5)] (wX2 E t_o t_q t_path t_row t_leastRow t_needed t_likeSizes t_ways t_nextWays t_least t_ended t_monthsKept ++ (wX1 E p1_o p1_q p1_men p1_consuls p1_dangers p1_decrees p1_term p1_termTold p1_manNames p1_kinds p1_skills p1_fields p1_wants p1_hated p1_dangerNames p1_sizes p1_grows p1_decreeNames p1_grounds p1_laws ++ (wX9 E p2_o p2_q p2_month p2_power p2_master p2_left p2_kept p2_passed p2_sizes p2_fields p2_liked))) none (wX2 E t_o t_q t_path out.1 out.2.1 t_needed t_likeSizes t_ways t_nextWays out.2.2 t_ended t_monthsKept ++ (wX1 E p1_o p1_q p1_men p1_consuls p1_dangers p1_decrees p1_term p1_termTold p1_manNames p1_kinds p1_skills p1_fields p1_wants p1_hated p1_dangerNames p1_sizes p1_grows p1_decreeNames p1_grounds p1_laws ++ (wX9 E p2_o p2_q p2_month p2_power p2_master p2_left p2_kept p2_passed p2_sizes p2_fields p2_liked))) := by
  intro d
  induction d with
  | zero =>
    intro t_o t_q t_path t_row t_leastRow t_needed t_likeSizes t_ways t_nextWays t_least t_ended t_monthsKept p1_o p1_q p1_men p1_consuls p1_dangers p1_decrees p1_term p1_termTold p1_manNames p1_kinds p1_skills p1_fields p1_wants p1_hated p1_dangerNames p1_sizes p1_grows p1_decreeNames p1_grounds p1_laws p2_o p2_q p2_month p2_power p2_master p2_left p2_kept p2_passed p2_sizes p2_fields p2_liked x3 x4 x5 out hf
    have hf : (none : Option ((Nat → Int32) × (Nat → Int32) × Int32)) = some out := hf
    cases hf
  | succ d ih =>
    intro t_o t_q t_path t_row t_leastRow t_needed t_likeSizes t_ways t_nextWays t_least t_ended t_monthsKept p1_o p1_q p1_men p1_consuls p1_dangers p1_decrees p1_term p1_termTold p1_manNames p1_kinds p1_skills p1_fields p1_wants p1_hated p1_dangerNames p1_sizes p1_grows p1_decreeNames p1_grounds p1_laws p2_o p2_q p2_month p2_power p2_master p2_left p2_kept p2_passed p2_sizes p2_fields p2_liked x3 x4 x5 out hf
    exact cs_X2_shareFrom (fun h => ih h) hf
