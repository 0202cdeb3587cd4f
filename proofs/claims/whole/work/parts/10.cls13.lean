/-! private boolean fits(PloughCall$City, int); -/
def f_X7_fits_2 : Nat → Int32 → (Nat → Int32) → (Nat → Int32) → (Nat → Int32) → (Nat → Int32) → (Nat → Int32) → (Nat → Int32) → (Nat → Int32) → (Nat → Int32) → (Nat → Int32) → Int32 → Int32 → Int32 → Int32 → Int32 → Int32 → Option (Int32 × (Nat → Int32))
  | 0, _, _, _, _, _, _, _, _, _, _, _, _, _, _, _, _ => none
  | n + 1, t_told, t_dangers, t_months, t_sizes, p1_kinds, p1_skills, p1_wants, p1_sizes, p1slaws_ops, p1slaws_stack, p1slaws_worksFrom, p1slaws_worksTo, p1slaws_keepsFrom, p1slaws_keepsTo, x2, x3 => if t_told ≤ x3 then some ((1 : Int32), p1slaws_stack)
    else (f_X1_sizeBehind p1_kinds p1_skills p1_wants p1slaws_ops p1slaws_stack p1slaws_worksFrom p1slaws_worksTo p1slaws_keepsFrom p1slaws_keepsTo (x2) ((ga (5) p1_sizes ((ga (8) t_dangers (x3))))) ((ga (8) t_months (x3)))).bind fun r39 => if r39.1 = (ga (8) t_sizes (x3)) then f_X7_fits_2 n t_told t_dangers t_months t_sizes p1_kinds p1_skills p1_wants p1_sizes p1slaws_ops r39.2 p1slaws_worksFrom p1slaws_worksTo p1slaws_keepsFrom p1slaws_keepsTo x2 ((x3 + (1 : Int32)))
    else some ((0 : Int32), r39.2)
def f_X7_fits (t_told : Int32) (t_dangers : (Nat → Int32)) (t_months : (Nat → Int32)) (t_sizes : (Nat → Int32)) (p1_kinds : (Nat → Int32)) (p1_skills : (Nat → Int32)) (p1_wants : (Nat → Int32)) (p1_sizes : (Nat → Int32)) (p1slaws_ops : (Nat → Int32)) (p1slaws_stack : (Nat → Int32)) (p1slaws_worksFrom : Int32) (p1slaws_worksTo : Int32) (p1slaws_keepsFrom : Int32) (p1slaws_keepsTo : Int32) (x2 : Int32) : Option (Int32 × (Nat → Int32)) := f_X7_fits_2 1100 t_told t_dangers t_months t_sizes p1_kinds p1_skills p1_wants p1_sizes p1slaws_ops p1slaws_stack p1slaws_worksFrom p1slaws_worksTo p1slaws_keepsFrom p1slaws_keepsTo x2 ((0 : Int32))
abbrev rm_X7_fits : Room := { frames := 4, cells := 0, slots := 0, locals := 104 }
theorem hd_X7_fits : yX7_fits.cls = RX7 ∧ yX7_fits.cls ≠ "java/lang/invoke/MethodHandle" ∧ yX7_fits.cls ≠ "java/lang/invoke/VarHandle" ∧ (parseMethodDescriptor yX7_fits.desc).map (fun d => d.parameters.length) = some 2 := by decide +kernel
set_option maxRecDepth 100000 in
set_option maxHeartbeats 4000000 in
theorem kb_X7_fits_2 {E : En} {p : Program} {l : Launch} {e : Env} {s : State} {m : MethodId} {args : Array Value} {below : List Frame} {meth : Method} {c : Code} {A : Nat → Prop} {t_o : Nat} {t_q : Nat → Nat} {t_told : Int32} {t_dangers : (Nat → Int32)} {t_months : (Nat → Int32)} {t_sizes : (Nat → Int32)} {p1_o : Nat} {p1_q : Nat → Nat} {p1_men : Int32} {p1_consuls : Int32} {p1_dangers : Int32} {p1_decrees : Int32} {p1_term : Int32} {p1_termTold : Int32} {p1_manNames : (Nat → Int64)} {p1_kinds : (Nat → Int32)} {p1_skills : (Nat → Int32)} {p1_fields : (Nat → Int32)} {p1_wants : (Nat → Int32)} {p1_hated : (Nat → Int32)} {p1_dangerNames : (Nat → Int64)} {p1_sizes : (Nat → Int32)} {p1_grows : (Nat → Int32)} {p1_decreeNames : (Nat → Int64)} {p1_grounds : (Nat → Int32)} {p1slaws_o : Nat} {p1slaws_q : Nat → Nat} {p1slaws_ops : (Nat → Int32)} {p1slaws_size : Int32} {p1slaws_worksFrom : Int32} {p1slaws_worksTo : Int32} {p1slaws_keepsFrom : Int32} {p1slaws_keepsTo : Int32} {out : Int32 × (Nat → Int32)} (X : Bx E A p s m args meth c cX7_fits 5 RX7 (some .boolean)) : ∀ (n : Nat) {p1slaws_stack : (Nat → Int32)} {x2 : Int32} {x3 : Int32} {H : Heap} {locs : List Loc} {ls : Array Slot}, f_X7_fits_2 n t_told t_dangers t_months t_sizes p1_kinds p1_skills p1_wants p1_sizes p1slaws_ops p1slaws_stack p1slaws_worksFrom p1slaws_worksTo p1slaws_keepsFrom p1slaws_keepsTo x2 x3 = some out → Wd E A s.heap (wX7 E t_o t_q t_told t_dangers t_months t_sizes ++ (wX1 E p1_o p1_q p1_men p1_consuls p1_dangers p1_decrees p1_term p1_termTold p1_manNames p1_kinds p1_skills p1_fields p1_wants p1_hated p1_dangerNames p1_sizes p1_grows p1_decreeNames p1_grounds (.ref p1slaws_o) ++ (wX3 E p1slaws_o p1slaws_q p1slaws_ops p1slaws_stack p1slaws_size p1slaws_worksFrom p1slaws_worksTo p1slaws_keepsFrom p1slaws_keepsTo))) H locs → lv_has ls 5 [(0, .ref t_o), (1, .ref p1_o), (2, .int (x2)), (3, .int (x3))] → W p l e rm_X7_fits s m args below meth c H locs 0 0 (Zn E below args s A (some (.int out.1)) (wX7 E t_o t_q t_told t_dangers t_months t_sizes ++ (wX1 E p1_o p1_q p1_men p1_consuls p1_dangers p1_decrees p1_term p1_termTold p1_manNames p1_kinds p1_skills p1_fields p1_wants p1_hated p1_dangerNames p1_sizes p1_grows p1_decreeNames p1_grounds (.ref p1slaws_o) ++ (wX3 E p1slaws_o p1slaws_q p1slaws_ops out.2 p1slaws_size p1slaws_worksFrom p1slaws_worksTo p1slaws_keepsFrom p1slaws_keepsTo)))) (F0 m 2 ls []) := by
  have hx := X.1.1
  have hb := X.1.2.1
  have ho := X.1.2.2.2.1
  have hts := X.1.2.2.2.2
  intro n
  induction n with
  | zero =>
    intro p1slaws_stack x2 x3 H locs ls hf
    have hf : (none : Option (Int32 × (Nat → Int32))) = some out := hf
    cases hf
  | succ n ih =>
    intro p1slaws_stack x2 x3 H locs ls hf hw hl
    rw [f_X7_fits_2.eq_2] at hf
    refine lv_iload_n hx hb dX7_fits_2 rfl (lv_at hl 3 rfl) ?_
    refine lv_aload_n hx hb dX7_fits_3 rfl (lv_at hl 0 rfl) ?_
    refine k_get (q0 := 0) (ci := 6) (C := RX7) (T := TX7) (N := 4) (x := .int (t_told)) X inx_7 hw rfl rfl 0 (by decide) rfl tw_321 rfl dX7_fits_4 ?_
    refine lv_icmp_ge (tgt := 61) hx hb dX7_fits_7 (by decide) (fun c_7 => ?_) (fun c_7 => ?_)
    · have hf := (if_pos c_7).symm.trans hf
      refine lv_iconst (v := (1 : Int32)) hx hb dX7_fits_61 (by decide) ?_
      obtain rfl := Option.some.inj hf
      exact k_zret X (Or.inr rfl) hw dX7_fits_62
    · have hf := (if_neg c_7).symm.trans hf
      refine lv_aload_n hx hb dX7_fits_10 rfl (lv_at hl 1 rfl) ?_
      refine k_getN (q0 := 4) (ci := 0) (C := RX1) (T := TX1) (N := 18) (host := "PloughCall") (x := .ref (p1_q 13)) X inx_1 hw rfl rfl 13 (by decide) rfl nw_57 rfl dX7_fits_11 ?_
      refine lv_aload_n hx hb dX7_fits_14 rfl (lv_at hl 0 rfl) ?_
      refine k_get (q0 := 0) (ci := 6) (C := RX7) (T := TX7) (N := 4) (x := .ref (t_q 1)) X inx_7 hw rfl rfl 1 (by decide) rfl tw_323 rfl dX7_fits_15 ?_
      refine lv_iload_n hx hb dX7_fits_18 rfl (lv_at hl 3 rfl) ?_
      refine k_SN (As := [.ref (t_q 1), .int (x3)]) (rest := [.ref (p1_q 13)]) (host := "PloughCall") (index := 43) X (ct_X12_at (out := (ga (8) t_dangers (x3))) rfl) nw_95 tw_119 tw_591 tw_592 ⟨rfl, rfl⟩ hd_X12_at.2 ⟨Nat.le_of_ble_eq_true rfl, Nat.le_of_ble_eq_true rfl⟩ ⟨Nat.zero_le _, Nat.zero_le _⟩ hw [1] rfl rfl rfl hl.1 rfl (Nat.le_of_ble_eq_true rfl) dX7_fits_19 (fun H locs hw => ?_)
      have hw : Wd E A s.heap (wX7 E t_o t_q t_told t_dangers t_months t_sizes ++ (wX1 E p1_o p1_q p1_men p1_consuls p1_dangers p1_decrees p1_term p1_termTold p1_manNames p1_kinds p1_skills p1_fields p1_wants p1_hated p1_dangerNames p1_sizes p1_grows p1_decreeNames p1_grounds (.ref p1slaws_o) ++ (wX3 E p1slaws_o p1slaws_q p1slaws_ops p1slaws_stack p1slaws_size p1slaws_worksFrom p1slaws_worksTo p1slaws_keepsFrom p1slaws_keepsTo))) H locs := hw
      refine k_SN (As := [.ref (p1_q 13), .int ((ga (8) t_dangers (x3)))]) (rest := []) (host := "PloughCall") (index := 43) X (ct_X12_at (out := (ga (5) p1_sizes ((ga (8) t_dangers (x3))))) rfl) nw_95 tw_119 tw_591 tw_592 ⟨rfl, rfl⟩ hd_X12_at.2 ⟨Nat.le_of_ble_eq_true rfl, Nat.le_of_ble_eq_true rfl⟩ ⟨Nat.zero_le _, Nat.zero_le _⟩ hw [12] rfl rfl rfl hl.1 rfl (Nat.le_of_ble_eq_true rfl) dX7_fits_22 (fun H locs hw => ?_)
      have hw : Wd E A s.heap (wX7 E t_o t_q t_told t_dangers t_months t_sizes ++ (wX1 E p1_o p1_q p1_men p1_consuls p1_dangers p1_decrees p1_term p1_termTold p1_manNames p1_kinds p1_skills p1_fields p1_wants p1_hated p1_dangerNames p1_sizes p1_grows p1_decreeNames p1_grounds (.ref p1slaws_o) ++ (wX3 E p1slaws_o p1slaws_q p1slaws_ops p1slaws_stack p1slaws_size p1slaws_worksFrom p1slaws_worksTo p1slaws_keepsFrom p1slaws_keepsTo))) H locs := hw
      refine lv_istore (lv' := [(4, .int ((ga (5) p1_sizes ((ga (8) t_dangers (x3)))))), (0, .ref t_o), (1, .ref p1_o), (2, .int (x2)), (3, .int (x3))]) hx hb dX7_fits_25 hl (by decide) rfl (fun ls hl => ?_)
      refine lv_aload_n hx hb dX7_fits_27 rfl (lv_at hl 2 rfl) ?_
      refine lv_iload_n hx hb dX7_fits_28 rfl (lv_at hl 3 rfl) ?_
      refine lv_iload hx hb dX7_fits_29 (lv_at hl 0 rfl) ?_
      refine lv_aload_n hx hb dX7_fits_31 rfl (lv_at hl 1 rfl) ?_
      refine k_get (q0 := 0) (ci := 6) (C := RX7) (T := TX7) (N := 4) (x := .ref (t_q 2)) X inx_7 hw rfl rfl 2 (by decide) rfl tw_324 rfl dX7_fits_32 ?_
      refine lv_iload_n hx hb dX7_fits_35 rfl (lv_at hl 4 rfl) ?_
      refine k_SN (As := [.ref (t_q 2), .int (x3)]) (rest := [.int ((ga (5) p1_sizes ((ga (8) t_dangers (x3))))), .int (x2), .ref p1_o]) (host := "PloughCall") (index := 43) X (ct_X12_at (out := (ga (8) t_months (x3))) rfl) nw_95 tw_119 tw_591 tw_592 ⟨rfl, rfl⟩ hd_X12_at.2 ⟨Nat.le_of_ble_eq_true rfl, Nat.le_of_ble_eq_true rfl⟩ ⟨Nat.zero_le _, Nat.zero_le _⟩ hw [2] rfl rfl rfl hl.1 rfl (Nat.le_of_ble_eq_true rfl) dX7_fits_36 (fun H locs hw => ?_)
      have hw : Wd E A s.heap (wX7 E t_o t_q t_told t_dangers t_months t_sizes ++ (wX1 E p1_o p1_q p1_men p1_consuls p1_dangers p1_decrees p1_term p1_termTold p1_manNames p1_kinds p1_skills p1_fields p1_wants p1_hated p1_dangerNames p1_sizes p1_grows p1_decreeNames p1_grounds (.ref p1slaws_o) ++ (wX3 E p1slaws_o p1slaws_q p1slaws_ops p1slaws_stack p1slaws_size p1slaws_worksFrom p1slaws_worksTo p1slaws_keepsFrom p1slaws_keepsTo))) H locs := hw
      obtain ⟨r39, hc_39, hf⟩ := bd_some hf
      refine k_V (As := [.int (x2), .int ((ga (5) p1_sizes ((ga (8) t_dangers (x3))))), .int ((ga (8) t_months (x3)))]) (rest := []) (index := 47) (C := RX1) X (c_X1_sizeBehind hc_39) tw_1191 tw_1192 tw_1193 tw_126 tw_1194 ⟨rfl, rfl⟩ hd_X1_sizeBehind ⟨Nat.le_of_ble_eq_true rfl, Nat.le_of_ble_eq_true rfl⟩ ⟨Nat.zero_le _, Nat.zero_le _⟩ hw [4, 5, 6, 7, 8, 9, 10, 11, 12, 13, 14, 15, 16, 17, 18] rfl rfl 4 rfl rfl rfl rfl hl.1 rfl (Nat.le_of_ble_eq_true rfl) dX7_fits_39 (fun H locs hw => ?_)
      have hw : Wd E A s.heap (wX7 E t_o t_q t_told t_dangers t_months t_sizes ++ (wX1 E p1_o p1_q p1_men p1_consuls p1_dangers p1_decrees p1_term p1_termTold p1_manNames p1_kinds p1_skills p1_fields p1_wants p1_hated p1_dangerNames p1_sizes p1_grows p1_decreeNames p1_grounds (.ref p1slaws_o) ++ (wX3 E p1slaws_o p1slaws_q p1slaws_ops r39.2 p1slaws_size p1slaws_worksFrom p1slaws_worksTo p1slaws_keepsFrom p1slaws_keepsTo))) H locs := hw
      refine lv_aload_n hx hb dX7_fits_42 rfl (lv_at hl 1 rfl) ?_
      refine k_get (q0 := 0) (ci := 6) (C := RX7) (T := TX7) (N := 4) (x := .ref (t_q 3)) X inx_7 hw rfl rfl 3 (by decide) rfl tw_325 rfl dX7_fits_43 ?_
      refine lv_iload_n hx hb dX7_fits_46 rfl (lv_at hl 4 rfl) ?_
      refine k_SN (As := [.ref (t_q 3), .int (x3)]) (rest := [.int (r39.1)]) (host := "PloughCall") (index := 43) X (ct_X12_at (out := (ga (8) t_sizes (x3))) rfl) nw_95 tw_119 tw_591 tw_592 ⟨rfl, rfl⟩ hd_X12_at.2 ⟨Nat.le_of_ble_eq_true rfl, Nat.le_of_ble_eq_true rfl⟩ ⟨Nat.zero_le _, Nat.zero_le _⟩ hw [3] rfl rfl rfl hl.1 rfl (Nat.le_of_ble_eq_true rfl) dX7_fits_47 (fun H locs hw => ?_)
      have hw : Wd E A s.heap (wX7 E t_o t_q t_told t_dangers t_months t_sizes ++ (wX1 E p1_o p1_q p1_men p1_consuls p1_dangers p1_decrees p1_term p1_termTold p1_manNames p1_kinds p1_skills p1_fields p1_wants p1_hated p1_dangerNames p1_sizes p1_grows p1_decreeNames p1_grounds (.ref p1slaws_o) ++ (wX3 E p1slaws_o p1slaws_q p1slaws_ops r39.2 p1slaws_size p1slaws_worksFrom p1slaws_worksTo p1slaws_keepsFrom p1slaws_keepsTo))) H locs := hw
      refine lv_icmp_eq (tgt := 55) hx hb dX7_fits_50 (by decide) (fun c_50 => ?_) (fun c_50 => ?_)
      · have hf := (if_pos c_50).symm.trans hf
        refine lv_iinc (v := (x3 + (1 : Int32))) (lv' := [(3, .int ((x3 + (1 : Int32)))), (4, .int ((ga (5) p1_sizes ((ga (8) t_dangers (x3)))))), (0, .ref t_o), (1, .ref p1_o), (2, .int (x2))]) hx hb dX7_fits_55 hl (k := 4) rfl rfl (by decide) rfl (fun ls hl => ?_)
        refine lv_goto (tgt := 2) hx hb dX7_fits_58 (by decide) ?_
        exact ih hf hw (lv_sub hl [2, 3, 4, 0] rfl)
      · have hf := (if_neg c_50).symm.trans hf
        refine lv_iconst (v := (0 : Int32)) hx hb dX7_fits_53 (by decide) ?_
        obtain rfl := Option.some.inj hf
        exact k_zret X (Or.inl rfl) hw dX7_fits_54
set_option maxRecDepth 100000 in
set_option maxHeartbeats 4000000 in
theorem c_X7_fits {E : En} {l : Launch} {t_o : Nat} {t_q : Nat → Nat} {t_told : Int32} {t_dangers : (Nat → Int32)} {t_months : (Nat → Int32)} {t_sizes : (Nat → Int32)} {p1_o : Nat} {p1_q : Nat → Nat} {p1_men : Int32} {p1_consuls : Int32} {p1_dangers : Int32} {p1_decrees : Int32} {p1_term : Int32} {p1_termTold : Int32} {p1_manNames : (Nat → Int64)} {p1_kinds : (Nat → Int32)} {p1_skills : (Nat → Int32)} {p1_fields : (Nat → Int32)} {p1_wants : (Nat → Int32)} {p1_hated : (Nat → Int32)} {p1_dangerNames : (Nat → Int64)} {p1_sizes : (Nat → Int32)} {p1_grows : (Nat → Int32)} {p1_decreeNames : (Nat → Int64)} {p1_grounds : (Nat → Int32)} {p1slaws_o : Nat} {p1slaws_q : Nat → Nat} {p1slaws_ops : (Nat → Int32)} {p1slaws_stack : (Nat → Int32)} {p1slaws_size : Int32} {p1slaws_worksFrom : Int32} {p1slaws_worksTo : Int32} {p1slaws_keepsFrom : Int32} {p1slaws_keepsTo : Int32} {x2 : Int32} {out : Int32 × (Nat → Int32)} (hf : f_X7_fits t_told t_dangers t_months t_sizes p1_kinds p1_skills p1_wants p1_sizes p1slaws_ops p1slaws_stack p1slaws_worksFrom p1slaws_worksTo p1slaws_keepsFrom p1slaws_keepsTo x2 = some out) : Cn E l yX7_fits cX7_fits 5 (some .boolean) rm_X7_fits [.ref t_o, .ref p1_o, .int (x2)] (wX7 E t_o t_q t_told t_dangers t_months t_sizes ++ (wX1 E p1_o p1_q p1_men p1_consuls p1_dangers p1_decrees p1_term p1_termTold p1_manNames p1_kinds p1_skills p1_fields p1_wants p1_hated p1_dangerNames p1_sizes p1_grows p1_decreeNames p1_grounds (.ref p1slaws_o) ++ (wX3 E p1slaws_o p1slaws_q p1slaws_ops p1slaws_stack p1slaws_size p1slaws_worksFrom p1slaws_worksTo p1slaws_keepsFrom p1slaws_keepsTo))) (some (.int out.1)) (wX7 E t_o t_q t_told t_dangers t_months t_sizes ++ (wX1 E p1_o p1_q p1_men p1_consuls p1_dangers p1_decrees p1_term p1_termTold p1_manNames p1_kinds p1_skills p1_fields p1_wants p1_hated p1_dangerNames p1_sizes p1_grows p1_decreeNames p1_grounds (.ref p1slaws_o) ++ (wX3 E p1slaws_o p1slaws_q p1slaws_ops out.2 p1slaws_size p1slaws_worksFrom p1slaws_worksTo p1slaws_keepsFrom p1slaws_keepsTo))) := by
  refine Cn.of (by decide) (Nat.le_of_ble_eq_true rfl) rfl ?_
  intro p e s m below meth c A ls args H locs X hw hl
  have hx := X.1.1
  have hb := X.1.2.1
  have ho := X.1.2.2.2.1
  have hts := X.1.2.2.2.2
  have hl : lv_has ls 5 [(0, .ref t_o), (1, .ref p1_o), (2, .int (x2))] := hl
  unfold f_X7_fits at hf
  refine lv_iconst (v := (0 : Int32)) hx hb dX7_fits_0 (by decide) ?_
  refine lv_istore_n (lv' := [(3, .int ((0 : Int32))), (0, .ref t_o), (1, .ref p1_o), (2, .int (x2))]) hx hb dX7_fits_1 rfl hl (by decide) rfl (fun ls hl => ?_)
  exact kb_X7_fits_2 X 1100 hf hw (lv_sub hl [1, 2, 3, 0] rfl)
/-! private void grow(PloughCall$City, int, int); -/
def f_X9_grow_3 : Nat → (Nat → Int32) → Int32 → (Nat → Int32) → Int32 → Int32 → Int32 → Option ((Nat → Int32))
  | 0, _, _, _, _, _, _ => none
  | n + 1, t_sizes, p1_dangers, p1_grows, x2, x3, x4 => if p1_dangers ≤ x4 then some (t_sizes)
    else if x4 = x2 then f_X9_grow_3 n t_sizes p1_dangers p1_grows x2 x3 ((x4 + (1 : Int32)))
    else if x4 = x3 then f_X9_grow_3 n t_sizes p1_dangers p1_grows x2 x3 ((x4 + (1 : Int32)))
    else f_X9_grow_3 n ((gp (5) t_sizes (x4) ((f_X9_grown t_sizes p1_grows (x4) ((1 : Int32)))))) p1_dangers p1_grows x2 x3 ((x4 + (1 : Int32)))
def f_X9_grow (t_sizes : (Nat → Int32)) (p1_dangers : Int32) (p1_grows : (Nat → Int32)) (x2 : Int32) (x3 : Int32) : Option ((Nat → Int32)) := f_X9_grow_3 1100 t_sizes p1_dangers p1_grows x2 x3 ((0 : Int32))
abbrev rm_X9_grow : Room := { frames := 2, cells := 0, slots := 0, locals := 45 }
theorem hd_X9_grow : yX9_grow.cls = RX9 ∧ yX9_grow.cls ≠ "java/lang/invoke/MethodHandle" ∧ yX9_grow.cls ≠ "java/lang/invoke/VarHandle" ∧ (parseMethodDescriptor yX9_grow.desc).map (fun d => d.parameters.length) = some 3 := by decide +kernel
set_option maxRecDepth 100000 in
set_option maxHeartbeats 4000000 in
theorem kb_X9_grow_3 {E : En} {p : Program} {l : Launch} {e : Env} {s : State} {m : MethodId} {args : Array Value} {below : List Frame} {meth : Method} {c : Code} {A : Nat → Prop} {t_o : Nat} {t_q : Nat → Nat} {t_month : Int32} {t_power : Int32} {t_master : Int32} {t_left : Int32} {t_kept : Int32} {t_passed : Int32} {t_fields : (Nat → Int32)} {t_liked : (Nat → Int32)} {p1_o : Nat} {p1_q : Nat → Nat} {p1_men : Int32} {p1_consuls : Int32} {p1_dangers : Int32} {p1_decrees : Int32} {p1_term : Int32} {p1_termTold : Int32} {p1_manNames : (Nat → Int64)} {p1_kinds : (Nat → Int32)} {p1_skills : (Nat → Int32)} {p1_fields : (Nat → Int32)} {p1_wants : (Nat → Int32)} {p1_hated : (Nat → Int32)} {p1_dangerNames : (Nat → Int64)} {p1_sizes : (Nat → Int32)} {p1_grows : (Nat → Int32)} {p1_decreeNames : (Nat → Int64)} {p1_grounds : (Nat → Int32)} {p1_laws : Value} {out : (Nat → Int32)} (X : Bx E A p s m args meth c cX9_grow 5 RX9 none) : ∀ (n : Nat) {t_sizes : (Nat → Int32)} {x2 : Int32} {x3 : Int32} {x4 : Int32} {H : Heap} {locs : List Loc} {ls : Array Slot}, f_X9_grow_3 n t_sizes p1_dangers p1_grows x2 x3 x4 = some out → Wd E A s.heap (wX9 E t_o t_q t_month t_power t_master t_left t_kept t_passed t_sizes t_fields t_liked ++ (wX1 E p1_o p1_q p1_men p1_consuls p1_dangers p1_decrees p1_term p1_termTold p1_manNames p1_kinds p1_skills p1_fields p1_wants p1_hated p1_dangerNames p1_sizes p1_grows p1_decreeNames p1_grounds p1_laws)) H locs → lv_has ls 5 [(0, .ref t_o), (1, .ref p1_o), (2, .int (x2)), (3, .int (x3)), (4, .int (x4))] → W p l e rm_X9_grow s m args below meth c H locs 0 0 (Zn E below args s A none (wX9 E t_o t_q t_month t_power t_master t_left t_kept t_passed out t_fields t_liked ++ (wX1 E p1_o p1_q p1_men p1_consuls p1_dangers p1_decrees p1_term p1_termTold p1_manNames p1_kinds p1_skills p1_fields p1_wants p1_hated p1_dangerNames p1_sizes p1_grows p1_decreeNames p1_grounds p1_laws))) (F0 m 3 ls []) := by
  have hx := X.1.1
  have hb := X.1.2.1
  have ho := X.1.2.2.2.1
  have hts := X.1.2.2.2.2
  intro n
  induction n with
  | zero =>
    intro t_sizes x2 x3 x4 H locs ls hf
    have hf : (none : Option ((Nat → Int32))) = some out := hf
    cases hf
  | succ n ih =>
    intro t_sizes x2 x3 x4 H locs ls hf hw hl
    rw [f_X9_grow_3.eq_2] at hf
    refine lv_iload hx hb dX9_grow_3 (lv_at hl 4 rfl) ?_
    refine lv_aload_n hx hb dX9_grow_5 rfl (lv_at hl 1 rfl) ?_
    refine k_getN (q0 := 4) (ci := 0) (C := RX1) (T := TX1) (N := 18) (host := "PloughCall") (x := .int (p1_dangers)) X inx_1 hw rfl rfl 2 (by decide) rfl nw_39 rfl dX9_grow_6 ?_
    refine lv_icmp_ge (tgt := 47) hx hb dX9_grow_9 (by decide) (fun c_9 => ?_) (fun c_9 => ?_)
    · have hf := (if_pos c_9).symm.trans hf
      obtain rfl := Option.some.inj hf
      exact k_vret X hw dX9_grow_47
    · have hf := (if_neg c_9).symm.trans hf
      refine lv_iload hx hb dX9_grow_12 (lv_at hl 4 rfl) ?_
      refine lv_iload_n hx hb dX9_grow_14 rfl (lv_at hl 2 rfl) ?_
      refine lv_icmp_eq (tgt := 41) hx hb dX9_grow_15 (by decide) (fun c_15 => ?_) (fun c_15 => ?_)
      · have hf := (if_pos c_15).symm.trans hf
        refine lv_iinc (v := (x4 + (1 : Int32))) (lv' := [(4, .int ((x4 + (1 : Int32)))), (0, .ref t_o), (1, .ref p1_o), (2, .int (x2)), (3, .int (x3))]) hx hb dX9_grow_41 hl (k := 4) rfl rfl (by decide) rfl (fun ls hl => ?_)
        refine lv_goto (tgt := 3) hx hb dX9_grow_44 (by decide) ?_
        exact ih hf hw (lv_sub hl [1, 2, 3, 4, 0] rfl)
      · have hf := (if_neg c_15).symm.trans hf
        refine lv_iload hx hb dX9_grow_18 (lv_at hl 4 rfl) ?_
        refine lv_iload_n hx hb dX9_grow_20 rfl (lv_at hl 3 rfl) ?_
        refine lv_icmp_eq (tgt := 41) hx hb dX9_grow_21 (by decide) (fun c_21 => ?_) (fun c_21 => ?_)
        · have hf := (if_pos c_21).symm.trans hf
          refine lv_iinc (v := (x4 + (1 : Int32))) (lv' := [(4, .int ((x4 + (1 : Int32)))), (0, .ref t_o), (1, .ref p1_o), (2, .int (x2)), (3, .int (x3))]) hx hb dX9_grow_41 hl (k := 4) rfl rfl (by decide) rfl (fun ls hl => ?_)
          refine lv_goto (tgt := 3) hx hb dX9_grow_44 (by decide) ?_
          exact ih hf hw (lv_sub hl [1, 2, 3, 4, 0] rfl)
        · have hf := (if_neg c_21).symm.trans hf
          refine lv_aload_n hx hb dX9_grow_24 rfl (lv_at hl 0 rfl) ?_
          refine k_get (q0 := 0) (ci := 8) (C := RX9) (T := TX9) (N := 9) (x := .ref (t_q 6)) X inx_9 hw rfl rfl 6 (by decide) rfl tw_232 rfl dX9_grow_25 ?_
          refine lv_iload hx hb dX9_grow_28 (lv_at hl 4 rfl) ?_
          refine lv_aload_n hx hb dX9_grow_30 rfl (lv_at hl 0 rfl) ?_
          refine lv_aload_n hx hb dX9_grow_31 rfl (lv_at hl 1 rfl) ?_
          refine lv_iload hx hb dX9_grow_32 (lv_at hl 4 rfl) ?_
          refine lv_iconst (v := (1 : Int32)) hx hb dX9_grow_34 (by decide) ?_
          refine k_V (As := [.ref p1_o, .int (x4), .int ((1 : Int32))]) (rest := [.int (x4), .ref (t_q 6)]) (index := 115) (C := RX9) X (c_X9_grown (out := (f_X9_grown t_sizes p1_grows (x4) ((1 : Int32)))) rfl) tw_950 tw_952 tw_29 tw_123 tw_953 ⟨rfl, rfl⟩ hd_X9_grown ⟨Nat.le_of_ble_eq_true rfl, Nat.le_of_ble_eq_true rfl⟩ ⟨Nat.zero_le _, Nat.zero_le _⟩ hw [0, 1, 2, 3, 4, 5, 6, 7, 8, 9, 10, 11, 12, 13, 14, 15] rfl rfl 0 rfl rfl rfl rfl hl.1 rfl (Nat.le_of_ble_eq_true rfl) dX9_grow_35 (fun H locs hw => ?_)
          have hw : Wd E A s.heap (wX9 E t_o t_q t_month t_power t_master t_left t_kept t_passed t_sizes t_fields t_liked ++ (wX1 E p1_o p1_q p1_men p1_consuls p1_dangers p1_decrees p1_term p1_termTold p1_manNames p1_kinds p1_skills p1_fields p1_wants p1_hated p1_dangerNames p1_sizes p1_grows p1_decreeNames p1_grounds p1_laws)) H locs := hw
          refine k_SN (As := [.ref (t_q 6), .int (x4), .int ((f_X9_grown t_sizes p1_grows (x4) ((1 : Int32))))]) (rest := []) (host := "PloughCall") (index := 44) X (ct_X12_put (out := (gp (5) t_sizes (x4) ((f_X9_grown t_sizes p1_grows (x4) ((1 : Int32)))))) rfl) nw_85 tw_119 tw_563 tw_564 ⟨rfl, rfl⟩ hd_X12_put.2 ⟨Nat.le_of_ble_eq_true rfl, Nat.le_of_ble_eq_true rfl⟩ ⟨Nat.zero_le _, Nat.zero_le _⟩ hw [1] rfl rfl rfl hl.1 rfl (Nat.le_of_ble_eq_true rfl) dX9_grow_38 (fun H locs hw => ?_)
          have hw : Wd E A s.heap (wX9 E t_o t_q t_month t_power t_master t_left t_kept t_passed ((gp (5) t_sizes (x4) ((f_X9_grown t_sizes p1_grows (x4) ((1 : Int32)))))) t_fields t_liked ++ (wX1 E p1_o p1_q p1_men p1_consuls p1_dangers p1_decrees p1_term p1_termTold p1_manNames p1_kinds p1_skills p1_fields p1_wants p1_hated p1_dangerNames p1_sizes p1_grows p1_decreeNames p1_grounds p1_laws)) H locs := hw
          refine lv_iinc (v := (x4 + (1 : Int32))) (lv' := [(4, .int ((x4 + (1 : Int32)))), (0, .ref t_o), (1, .ref p1_o), (2, .int (x2)), (3, .int (x3))]) hx hb dX9_grow_41 hl (k := 4) rfl rfl (by decide) rfl (fun ls hl => ?_)
          refine lv_goto (tgt := 3) hx hb dX9_grow_44 (by decide) ?_
          exact ih hf hw (lv_sub hl [1, 2, 3, 4, 0] rfl)
set_option maxRecDepth 100000 in
set_option maxHeartbeats 4000000 in
theorem c_X9_grow {E : En} {l : Launch} {t_o : Nat} {t_q : Nat → Nat} {t_month : Int32} {t_power : Int32} {t_master : Int32} {t_left : Int32} {t_kept : Int32} {t_passed : Int32} {t_sizes : (Nat → Int32)} {t_fields : (Nat → Int32)} {t_liked : (Nat → Int32)} {p1_o : Nat} {p1_q : Nat → Nat} {p1_men : Int32} {p1_consuls : Int32} {p1_dangers : Int32} {p1_decrees : Int32} {p1_term : Int32} {p1_termTold : Int32} {p1_manNames : (Nat → Int64)} {p1_kinds : (Nat → Int32)} {p1_skills : (Nat → Int32)} {p1_fields : (Nat → Int32)} {p1_wants : (Nat → Int32)} {p1_hated : (Nat → Int32)} {p1_dangerNames : (Nat → Int64)} {p1_sizes : (Nat → Int32)} {p1_grows : (Nat → Int32)} {p1_decreeNames : (Nat → Int64)} {p1_grounds : (Nat → Int32)} {p1_laws : Value} {x2 : Int32} {x3 : Int32} {out : (Nat → Int32)} (hf : f_X9_grow t_sizes p1_dangers p1_grows x2 x3 = some out) : Cn E l yX9_grow cX9_grow 5 none rm_X9_grow [.ref t_o, .ref p1_o, .int (x2), .int (x3)] (wX9 E t_o t_q t_month t_power t_master t_left t_kept t_passed t_sizes t_fields t_liked ++ (wX1 E p1_o p1_q p1_men p1_consuls p1_dangers p1_decrees p1_term p1_termTold p1_manNames p1_kinds p1_skills p1_fields p1_wants p1_hated p1_dangerNames p1_sizes p1_grows p1_decreeNames p1_grounds p1_laws)) none (wX9 E t_o t_q t_month t_power t_master t_left t_kept t_passed out t_fields t_liked ++ (wX1 E p1_o p1_q p1_men p1_consuls p1_dangers p1_decrees p1_term p1_termTold p1_manNames p1_kinds p1_skills p1_fields p1_wants p1_hated p1_dangerNames p1_sizes p1_grows p1_decreeNames p1_grounds p1_laws)) := by
  refine Cn.of (by decide) (Nat.le_of_ble_eq_true rfl) rfl ?_
  intro p e s m below meth c A ls args H locs X hw hl
  have hx := X.1.1
  have hb := X.1.2.1
  have ho := X.1.2.2.2.1
  have hts := X.1.2.2.2.2
  have hl : lv_has ls 5 [(0, .ref t_o), (1, .ref p1_o), (2, .int (x2)), (3, .int (x3))] := hl
  unfold f_X9_grow at hf
  refine lv_iconst (v := (0 : Int32)) hx hb dX9_grow_0 (by decide) ?_
  refine lv_istore (lv' := [(4, .int ((0 : Int32))), (0, .ref t_o), (1, .ref p1_o), (2, .int (x2)), (3, .int (x3))]) hx hb dX9_grow_1 hl (by decide) rfl (fun ls hl => ?_)
  exact kb_X9_grow_3 X 1100 hf hw (lv_sub hl [1, 2, 3, 4, 0] rfl)
/-! private void like(int, int); -/
def f_X9_like (t_liked : (Nat → Int32)) (x1 : Int32) (x2 : Int32) : (Nat → Int32) := ((gp (6) t_liked (x1) ((f_X9_likedWith t_liked (x1) (x2)))))
abbrev rm_X9_like : Room := { frames := 2, cells := 0, slots := 0, locals := 43 }
theorem hd_X9_like : yX9_like.cls = RX9 ∧ yX9_like.cls ≠ "java/lang/invoke/MethodHandle" ∧ yX9_like.cls ≠ "java/lang/invoke/VarHandle" ∧ (parseMethodDescriptor yX9_like.desc).map (fun d => d.parameters.length) = some 2 := by decide +kernel
set_option maxRecDepth 100000 in
set_option maxHeartbeats 4000000 in
theorem c_X9_like {E : En} {l : Launch} {t_o : Nat} {t_q : Nat → Nat} {t_month : Int32} {t_power : Int32} {t_master : Int32} {t_left : Int32} {t_kept : Int32} {t_passed : Int32} {t_sizes : (Nat → Int32)} {t_fields : (Nat → Int32)} {t_liked : (Nat → Int32)} {x1 : Int32} {x2 : Int32} {out : (Nat → Int32)} (hf : f_X9_like t_liked x1 x2 = out) : Cn E l yX9_like cX9_like 3 none rm_X9_like [.ref t_o, .int (x1), .int (x2)] (wX9 E t_o t_q t_month t_power t_master t_left t_kept t_passed t_sizes t_fields t_liked) none (wX9 E t_o t_q t_month t_power t_master t_left t_kept t_passed t_sizes t_fields out) := by
  refine Cn.of (by decide) (Nat.le_of_ble_eq_true rfl) rfl ?_
  intro p e s m below meth c A ls args H locs X hw hl
  have hx := X.1.1
  have hb := X.1.2.1
  have ho := X.1.2.2.2.1
  have hts := X.1.2.2.2.2
  have hl : lv_has ls 3 [(0, .ref t_o), (1, .int (x1)), (2, .int (x2))] := hl
  unfold f_X9_like at hf
  refine lv_aload_n hx hb dX9_like_0 rfl (lv_at hl 0 rfl) ?_
  refine k_get (q0 := 0) (ci := 8) (C := RX9) (T := TX9) (N := 9) (x := .ref (t_q 8)) X inx_9 hw rfl rfl 8 (by decide) rfl tw_237 rfl dX9_like_1 ?_
  refine lv_iload_n hx hb dX9_like_4 rfl (lv_at hl 1 rfl) ?_
  refine lv_aload_n hx hb dX9_like_5 rfl (lv_at hl 0 rfl) ?_
  refine lv_iload_n hx hb dX9_like_6 rfl (lv_at hl 1 rfl) ?_
  refine lv_iload_n hx hb dX9_like_7 rfl (lv_at hl 2 rfl) ?_
  refine k_V (As := [.int (x1), .int (x2)]) (rest := [.int (x1), .ref (t_q 8)]) (index := 139) (C := RX9) X (c_X9_likedWith (out := (f_X9_likedWith t_liked (x1) (x2))) rfl) tw_988 tw_989 tw_990 tw_123 tw_991 ⟨rfl, rfl⟩ hd_X9_likedWith ⟨Nat.le_of_ble_eq_true rfl, Nat.le_of_ble_eq_true rfl⟩ ⟨Nat.zero_le _, Nat.zero_le _⟩ hw [0, 1, 2, 3] rfl rfl 0 rfl rfl rfl rfl hl.1 rfl (Nat.le_of_ble_eq_true rfl) dX9_like_8 (fun H locs hw => ?_)
  have hw : Wd E A s.heap (wX9 E t_o t_q t_month t_power t_master t_left t_kept t_passed t_sizes t_fields t_liked) H locs := hw
  refine k_SN (As := [.ref (t_q 8), .int (x1), .int ((f_X9_likedWith t_liked (x1) (x2)))]) (rest := []) (host := "PloughCall") (index := 44) X (ct_X12_put (out := (gp (6) t_liked (x1) ((f_X9_likedWith t_liked (x1) (x2))))) rfl) nw_85 tw_119 tw_563 tw_564 ⟨rfl, rfl⟩ hd_X12_put.2 ⟨Nat.le_of_ble_eq_true rfl, Nat.le_of_ble_eq_true rfl⟩ ⟨Nat.zero_le _, Nat.zero_le _⟩ hw [3] rfl rfl rfl hl.1 rfl (Nat.le_of_ble_eq_true rfl) dX9_like_11 (fun H locs hw => ?_)
  have hw : Wd E A s.heap (wX9 E t_o t_q t_month t_power t_master t_left t_kept t_passed t_sizes t_fields ((gp (6) t_liked (x1) ((f_X9_likedWith t_liked (x1) (x2)))))) H locs := hw
  subst hf
  exact k_vret X hw dX9_like_14
/-! void advance(); -/
def f_X10_advance_51 (K8 : (Nat → Int32) → Int32 → Int32 → Option (Int32 × Int32 × Int32 × Int32 × Int64 × (Option Nat))) (t_signs : (Nat → Int32)) (t_length : Int32) (t_place : Int32) : Option (Int32 × Int32 × Int32 × Int32 × Int64 × (Option Nat)) := K8 t_signs t_length ((t_place + (1 : Int32)))
def f_X10_advance_182 (t_place : Int32) (t_letters : Int64) (t_word : (Option Nat)) (x1 : Int32) (s1 : Int32) : Option (Int32 × Int32 × Int32 × Int32 × Int64 × (Option Nat)) := some (t_place, (t_place + (1 : Int32)), s1, x1, t_letters, t_word)
def f_X10_advance_105 (t_signs : (Nat → Int32)) (t_length : Int32) (t_place : Int32) (t_value : Int32) (t_letters : Int64) (t_word : (Option Nat)) (s0 : Int32) : Option (Int32 × Int32 × Int32 × Int32 × Int64 × (Option Nat)) := if t_place < t_length then if (f_X12_within (s0) ((97 : Int32)) ((122 : Int32))) = (0 : Int32) then if (f_X12_within (s0) ((48 : Int32)) ((57 : Int32))) = (0 : Int32) then if (f_X10_isOwnToken (s0)) = (0 : Int32) then f_X10_advance_182 t_place t_letters t_word s0 ((1 : Int32))
        else f_X10_advance_182 t_place t_letters t_word s0 ((4 : Int32))
      else (f_X10_readNumber t_signs t_length t_place t_value).bind fun r163 => some (t_place, r163.1, r163.2.1, r163.2.2, t_letters, t_word)
    else (f_X10_readWord t_signs t_length t_place t_letters).bind fun r145 => some (t_place, r145.1, r145.2.1, t_value, r145.2.2.1, r145.2.2.2)
  else some (t_place, t_length, (0 : Int32), t_value, t_letters, t_word)
def f_X10_advance_64 (t_signs : (Nat → Int32)) (t_length : Int32) (t_place : Int32) : Option (Int32 × Int32 × Int32 × Int32 × Int64 × (Option Nat)) := if t_length ≤ t_place then f_X10_advance_105 t_signs t_length t_place ((0 : Int32)) ((0 : Int64)) none ((0 : Int32))
  else f_X10_advance_105 t_signs t_length t_place ((0 : Int32)) ((0 : Int64)) none ((ga (1000) t_signs (t_place)))
def f_X10_advance_8 : Nat → (Nat → Int32) → Int32 → Int32 → Option (Int32 × Int32 × Int32 × Int32 × Int64 × (Option Nat))
  | 0, _, _, _ => none
  | n + 1, t_signs, t_length, t_place => if t_length ≤ t_place then f_X10_advance_64 t_signs t_length t_place
    else if (ga (1000) t_signs (t_place)) = (10 : Int32) then f_X10_advance_51 (f_X10_advance_8 n) t_signs t_length t_place
    else if (ga (1000) t_signs (t_place)) = (32 : Int32) then f_X10_advance_51 (f_X10_advance_8 n) t_signs t_length t_place
    else f_X10_advance_64 t_signs t_length t_place
def f_X10_advance (t_signs : (Nat → Int32)) (t_length : Int32) (t_behind : Int32) : Option (Int32 × Int32 × Int32 × Int32 × Int64 × (Option Nat)) := f_X10_advance_8 1100 t_signs t_length t_behind
abbrev rm_X10_advance : Room := { frames := 2, cells := 0, slots := 0, locals := 43 }
theorem hd_X10_advance : yX10_advance.cls = RX10 ∧ yX10_advance.cls ≠ "java/lang/invoke/MethodHandle" ∧ yX10_advance.cls ≠ "java/lang/invoke/VarHandle" ∧ (parseMethodDescriptor yX10_advance.desc).map (fun d => d.parameters.length) = some 0 := by decide +kernel
set_option maxRecDepth 100000 in
set_option maxHeartbeats 4000000 in
theorem kb_X10_advance_51 {E : En} {p : Program} {l : Launch} {e : Env} {s : State} {m : MethodId} {args : Array Value} {below : List Frame} {meth : Method} {c : Code} {A : Nat → Prop} {t_o : Nat} {t_q : Nat → Nat} {t_signs : (Nat → Int32)} {t_length : Int32} {out : Int32 × Int32 × Int32 × Int32 × Int64 × (Option Nat)} (X : Bx E A p s m args meth c cX10_advance 2 RX10 none) {K8 : (Nat → Int32) → Int32 → Int32 → Option (Int32 × Int32 × Int32 × Int32 × Int64 × (Option Nat))} (hK8 : ∀ {t_place : Int32} {t_behind : Int32} {t_kind : Int32} {t_value : Int32} {t_letters : Int64} {t_word : (Option Nat)} {H : Heap} {locs : List Loc} {ls : Array Slot}, K8 t_signs t_length t_place = some out → Wd E A s.heap (wX10 E t_o t_q t_signs t_length t_place t_behind t_kind t_value t_letters t_word) H locs → lv_has ls 2 [(0, .ref t_o)] → W p l e rm_X10_advance s m args below meth c H locs 0 0 (Zn E below args s A none (wX10 E t_o t_q t_signs t_length out.1 out.2.1 out.2.2.1 out.2.2.2.1 out.2.2.2.2.1 out.2.2.2.2.2)) (F0 m 8 ls [])) {t_place : Int32} {t_behind : Int32} {t_kind : Int32} {t_value : Int32} {t_letters : Int64} {t_word : (Option Nat)} {H : Heap} {locs : List Loc} {ls : Array Slot} (hf : f_X10_advance_51 K8 t_signs t_length t_place = some out) : Wd E A s.heap (wX10 E t_o t_q t_signs t_length t_place t_behind t_kind t_value t_letters t_word) H locs → lv_has ls 2 [(0, .ref t_o)] → W p l e rm_X10_advance s m args below meth c H locs 0 0 (Zn E below args s A none (wX10 E t_o t_q t_signs t_length out.1 out.2.1 out.2.2.1 out.2.2.2.1 out.2.2.2.2.1 out.2.2.2.2.2)) (F0 m 51 ls []) := by
  have hx := X.1.1
  have hb := X.1.2.1
  have ho := X.1.2.2.2.1
  have hts := X.1.2.2.2.2
  intro hw hl
  unfold f_X10_advance_51 at hf
  refine lv_aload_n hx hb dX10_advance_51 rfl (lv_at hl 0 rfl) ?_
  refine lv_dup hx hb dX10_advance_52 rfl ?_
  refine k_get (q0 := 0) (ci := 9) (C := RX10) (T := TX10) (N := 8) (x := .int (t_place)) X inx_10 hw rfl rfl 2 (by decide) rfl tw_158 rfl dX10_advance_53 ?_
  refine lv_iconst (v := (1 : Int32)) hx hb dX10_advance_56 (by decide) ?_
  refine lv_iadd hx hb dX10_advance_57 ?_
  refine k_put (q0 := 0) (ci := 9) (C := RX10) (T := TX10) (N := 8) (ty0 := tyX10) (x := .int ((t_place + (1 : Int32)))) X inx_10 tyX10_ok nmX10 hw rfl rfl 2 (by decide) rfl rfl tw_158 rfl rfl (Nat.le_of_ble_eq_true rfl) dX10_advance_58 (fun H locs hw => ?_)
  have hw : Wd E A s.heap (wX10 E t_o t_q t_signs t_length ((t_place + (1 : Int32))) t_behind t_kind t_value t_letters t_word) H locs := hw
  refine lv_goto (tgt := 8) hx hb dX10_advance_61 (by decide) ?_
  exact hK8 hf hw (lv_sub hl [0] rfl)
set_option maxRecDepth 100000 in
set_option maxHeartbeats 4000000 in
theorem kb_X10_advance_182 {E : En} {p : Program} {l : Launch} {e : Env} {s : State} {m : MethodId} {args : Array Value} {below : List Frame} {meth : Method} {c : Code} {A : Nat → Prop} {t_o : Nat} {t_q : Nat → Nat} {t_signs : (Nat → Int32)} {t_length : Int32} {out : Int32 × Int32 × Int32 × Int32 × Int64 × (Option Nat)} (X : Bx E A p s m args meth c cX10_advance 2 RX10 none) {t_place : Int32} {t_behind : Int32} {t_kind : Int32} {t_value : Int32} {t_letters : Int64} {t_word : (Option Nat)} {x1 : Int32} {s1 : Int32} {H : Heap} {locs : List Loc} {ls : Array Slot} (hf : f_X10_advance_182 t_place t_letters t_word x1 s1 = some out) : Wd E A s.heap (wX10 E t_o t_q t_signs t_length t_place t_behind t_kind t_value t_letters t_word) H locs → lv_has ls 2 [(0, .ref t_o), (1, .int (x1))] → W p l e rm_X10_advance s m args below meth c H locs 0 0 (Zn E below args s A none (wX10 E t_o t_q t_signs t_length out.1 out.2.1 out.2.2.1 out.2.2.2.1 out.2.2.2.2.1 out.2.2.2.2.2)) (F0 m 182 ls [.int (s1), .ref t_o]) := by
  have hx := X.1.1
  have hb := X.1.2.1
  have ho := X.1.2.2.2.1
  have hts := X.1.2.2.2.2
  intro hw hl
  unfold f_X10_advance_182 at hf
  refine k_put (q0 := 0) (ci := 9) (C := RX10) (T := TX10) (N := 8) (ty0 := tyX10) (x := .int (s1)) X inx_10 tyX10_ok nmX10 hw rfl rfl 4 (by decide) rfl rfl tw_161 rfl rfl (Nat.le_of_ble_eq_true rfl) dX10_advance_182 (fun H locs hw => ?_)
  have hw : Wd E A s.heap (wX10 E t_o t_q t_signs t_length t_place t_behind s1 t_value t_letters t_word) H locs := hw
  refine lv_aload_n hx hb dX10_advance_185 rfl (lv_at hl 0 rfl) ?_
  refine lv_iload_n hx hb dX10_advance_186 rfl (lv_at hl 1 rfl) ?_
  refine k_put (q0 := 0) (ci := 9) (C := RX10) (T := TX10) (N := 8) (ty0 := tyX10) (x := .int (x1)) X inx_10 tyX10_ok nmX10 hw rfl rfl 5 (by decide) rfl rfl tw_162 rfl rfl (Nat.le_of_ble_eq_true rfl) dX10_advance_187 (fun H locs hw => ?_)
  have hw : Wd E A s.heap (wX10 E t_o t_q t_signs t_length t_place t_behind s1 x1 t_letters t_word) H locs := hw
  refine lv_aload_n hx hb dX10_advance_190 rfl (lv_at hl 0 rfl) ?_
  refine lv_aload_n hx hb dX10_advance_191 rfl (lv_at hl 0 rfl) ?_
  refine k_get (q0 := 0) (ci := 9) (C := RX10) (T := TX10) (N := 8) (x := .int (t_place)) X inx_10 hw rfl rfl 2 (by decide) rfl tw_158 rfl dX10_advance_192 ?_
  refine lv_iconst (v := (1 : Int32)) hx hb dX10_advance_195 (by decide) ?_
  refine lv_iadd hx hb dX10_advance_196 ?_
  refine k_put (q0 := 0) (ci := 9) (C := RX10) (T := TX10) (N := 8) (ty0 := tyX10) (x := .int ((t_place + (1 : Int32)))) X inx_10 tyX10_ok nmX10 hw rfl rfl 3 (by decide) rfl rfl tw_159 rfl rfl (Nat.le_of_ble_eq_true rfl) dX10_advance_197 (fun H locs hw => ?_)
  have hw : Wd E A s.heap (wX10 E t_o t_q t_signs t_length t_place ((t_place + (1 : Int32))) s1 x1 t_letters t_word) H locs := hw
  obtain rfl := Option.some.inj hf
  exact k_vret X hw dX10_advance_200
set_option maxRecDepth 100000 in
set_option maxHeartbeats 4000000 in
theorem kb_X10_advance_105 {E : En} {p : Program} {l : Launch} {e : Env} {s : State} {m : MethodId} {args : Array Value} {below : List Frame} {meth : Method} {c : Code} {A : Nat → Prop} {t_o : Nat} {t_q : Nat → Nat} {t_signs : (Nat → Int32)} {t_length : Int32} {out : Int32 × Int32 × Int32 × Int32 × Int64 × (Option Nat)} (X : Bx E A p s m args meth c cX10_advance 2 RX10 none) {t_place : Int32} {t_behind : Int32} {t_kind : Int32} {t_value : Int32} {t_letters : Int64} {t_word : (Option Nat)} {s0 : Int32} {H : Heap} {locs : List Loc} {ls : Array Slot} (hf : f_X10_advance_105 t_signs t_length t_place t_value t_letters t_word s0 = some out) : Wd E A s.heap (wX10 E t_o t_q t_signs t_length t_place t_behind t_kind t_value t_letters t_word) H locs → lv_has ls 2 [(0, .ref t_o)] → W p l e rm_X10_advance s m args below meth c H locs 0 0 (Zn E below args s A none (wX10 E t_o t_q t_signs t_length out.1 out.2.1 out.2.2.1 out.2.2.2.1 out.2.2.2.2.1 out.2.2.2.2.2)) (F0 m 105 ls [.int (s0)]) := by
  have hx := X.1.1
  have hb := X.1.2.1
  have ho := X.1.2.2.2.1
  have hts := X.1.2.2.2.2
  intro hw hl
  unfold f_X10_advance_105 at hf
  refine lv_istore_n (lv' := [(1, .int (s0)), (0, .ref t_o)]) hx hb dX10_advance_105 rfl hl (by decide) rfl (fun ls hl => ?_)
  refine lv_aload_n hx hb dX10_advance_106 rfl (lv_at hl 1 rfl) ?_
  refine k_get (q0 := 0) (ci := 9) (C := RX10) (T := TX10) (N := 8) (x := .int (t_place)) X inx_10 hw rfl rfl 2 (by decide) rfl tw_158 rfl dX10_advance_107 ?_
  refine lv_aload_n hx hb dX10_advance_110 rfl (lv_at hl 1 rfl) ?_
  refine k_get (q0 := 0) (ci := 9) (C := RX10) (T := TX10) (N := 8) (x := .int (t_length)) X inx_10 hw rfl rfl 1 (by decide) rfl tw_156 rfl dX10_advance_111 ?_
  refine lv_icmp_lt (tgt := 133) hx hb dX10_advance_114 (by decide) (fun c_114 => ?_) (fun c_114 => ?_)
  · have hf := (if_pos c_114).symm.trans hf
    refine lv_iload_n hx hb dX10_advance_133 rfl (lv_at hl 0 rfl) ?_
    refine lv_bipush (v := (97 : Int32)) hx hb dX10_advance_134 (by decide) ?_
    refine lv_bipush (v := (122 : Int32)) hx hb dX10_advance_136 (by decide) ?_
    refine k_SN (As := [.int (s0), .int ((97 : Int32)), .int ((122 : Int32))]) (rest := []) (host := "PloughCall") (index := 15) X (c_X12_within (out := (f_X12_within (s0) ((97 : Int32)) ((122 : Int32)))) rfl) nw_75 tw_119 tw_560 tw_561 ⟨rfl, rfl⟩ hd_X12_within.2 ⟨Nat.le_of_ble_eq_true rfl, Nat.le_of_ble_eq_true rfl⟩ ⟨Nat.zero_le _, Nat.zero_le _⟩ hw [] rfl rfl rfl hl.1 rfl (Nat.le_of_ble_eq_true rfl) dX10_advance_138 (fun H locs hw => ?_)
    have hw : Wd E A s.heap (wX10 E t_o t_q t_signs t_length t_place t_behind t_kind t_value t_letters t_word) H locs := hw
    refine lv_if_eq (tgt := 151) hx hb dX10_advance_141 (by decide) (fun c_141 => ?_) (fun c_141 => ?_)
    · have hf := (if_pos c_141).symm.trans hf
      refine lv_iload_n hx hb dX10_advance_151 rfl (lv_at hl 0 rfl) ?_
      refine lv_bipush (v := (48 : Int32)) hx hb dX10_advance_152 (by decide) ?_
      refine lv_bipush (v := (57 : Int32)) hx hb dX10_advance_154 (by decide) ?_
      refine k_SN (As := [.int (s0), .int ((48 : Int32)), .int ((57 : Int32))]) (rest := []) (host := "PloughCall") (index := 15) X (c_X12_within (out := (f_X12_within (s0) ((48 : Int32)) ((57 : Int32)))) rfl) nw_75 tw_119 tw_560 tw_561 ⟨rfl, rfl⟩ hd_X12_within.2 ⟨Nat.le_of_ble_eq_true rfl, Nat.le_of_ble_eq_true rfl⟩ ⟨Nat.zero_le _, Nat.zero_le _⟩ hw [] rfl rfl rfl hl.1 rfl (Nat.le_of_ble_eq_true rfl) dX10_advance_156 (fun H locs hw => ?_)
      have hw : Wd E A s.heap (wX10 E t_o t_q t_signs t_length t_place t_behind t_kind t_value t_letters t_word) H locs := hw
      refine lv_if_eq (tgt := 169) hx hb dX10_advance_159 (by decide) (fun c_159 => ?_) (fun c_159 => ?_)
      · have hf := (if_pos c_159).symm.trans hf
        refine lv_aload_n hx hb dX10_advance_169 rfl (lv_at hl 1 rfl) ?_
        refine lv_iload_n hx hb dX10_advance_170 rfl (lv_at hl 0 rfl) ?_
        refine k_S (As := [.int (s0)]) (rest := [.ref t_o]) (index := 60) X (c_X10_isOwnToken (out := (f_X10_isOwnToken (s0))) rfl) tw_610 tw_611 tw_120 tw_612 ⟨rfl, rfl⟩ hd_X10_isOwnToken ⟨Nat.le_of_ble_eq_true rfl, Nat.le_of_ble_eq_true rfl⟩ ⟨Nat.zero_le _, Nat.zero_le _⟩ hw [] rfl rfl rfl hl.1 rfl (Nat.le_of_ble_eq_true rfl) dX10_advance_171 (fun H locs hw => ?_)
        have hw : Wd E A s.heap (wX10 E t_o t_q t_signs t_length t_place t_behind t_kind t_value t_letters t_word) H locs := hw
        refine lv_if_eq (tgt := 181) hx hb dX10_advance_174 (by decide) (fun c_174 => ?_) (fun c_174 => ?_)
        · have hf := (if_pos c_174).symm.trans hf
          refine lv_iconst (v := (1 : Int32)) hx hb dX10_advance_181 (by decide) ?_
          exact kb_X10_advance_182 X hf hw (lv_sub hl [1, 0] rfl)
        · have hf := (if_neg c_174).symm.trans hf
          refine lv_iconst (v := (4 : Int32)) hx hb dX10_advance_177 (by decide) ?_
          refine lv_goto (tgt := 182) hx hb dX10_advance_178 (by decide) ?_
          exact kb_X10_advance_182 X hf hw (lv_sub hl [1, 0] rfl)
      · have hf := (if_neg c_159).symm.trans hf
        refine lv_aload_n hx hb dX10_advance_162 rfl (lv_at hl 1 rfl) ?_
        obtain ⟨r163, hc_163, hf⟩ := bd_some hf
        refine k_V (As := []) (rest := []) (index := 57) (C := RX10) X (c_X10_readNumber hc_163) tw_606 tw_608 tw_1 tw_120 tw_609 ⟨rfl, rfl⟩ hd_X10_readNumber ⟨Nat.le_of_ble_eq_true rfl, Nat.le_of_ble_eq_true rfl⟩ ⟨Nat.zero_le _, Nat.zero_le _⟩ hw [0, 1] rfl rfl 0 rfl rfl rfl rfl hl.1 rfl (Nat.le_of_ble_eq_true rfl) dX10_advance_163 (fun H locs hw => ?_)
        have hw : Wd E A s.heap (wX10 E t_o t_q t_signs t_length t_place r163.1 r163.2.1 r163.2.2 t_letters t_word) H locs := hw
        refine lv_goto (tgt := 200) hx hb dX10_advance_166 (by decide) ?_
        obtain rfl := Option.some.inj hf
        exact k_vret X hw dX10_advance_200
    · have hf := (if_neg c_141).symm.trans hf
      refine lv_aload_n hx hb dX10_advance_144 rfl (lv_at hl 1 rfl) ?_
      obtain ⟨r145, hc_145, hf⟩ := bd_some hf
      refine k_V (As := []) (rest := []) (index := 54) (C := RX10) X (c_X10_readWord hc_145) tw_593 tw_595 tw_0 tw_120 tw_596 ⟨rfl, rfl⟩ hd_X10_readWord ⟨Nat.le_of_ble_eq_true rfl, Nat.le_of_ble_eq_true rfl⟩ ⟨Nat.zero_le _, Nat.zero_le _⟩ hw [0, 1] rfl rfl 0 rfl rfl rfl rfl hl.1 rfl (Nat.le_of_ble_eq_true rfl) dX10_advance_145 (fun H locs hw => ?_)
      have hw : Wd E A s.heap (wX10 E t_o t_q t_signs t_length t_place r145.1 r145.2.1 t_value r145.2.2.1 r145.2.2.2) H locs := hw
      refine lv_goto (tgt := 200) hx hb dX10_advance_148 (by decide) ?_
      obtain rfl := Option.some.inj hf
      exact k_vret X hw dX10_advance_200
  · have hf := (if_neg c_114).symm.trans hf
    refine lv_aload_n hx hb dX10_advance_117 rfl (lv_at hl 1 rfl) ?_
    refine lv_iconst (v := (0 : Int32)) hx hb dX10_advance_118 (by decide) ?_
    refine k_put (q0 := 0) (ci := 9) (C := RX10) (T := TX10) (N := 8) (ty0 := tyX10) (x := .int ((0 : Int32))) X inx_10 tyX10_ok nmX10 hw rfl rfl 4 (by decide) rfl rfl tw_161 rfl rfl (Nat.le_of_ble_eq_true rfl) dX10_advance_119 (fun H locs hw => ?_)
    have hw : Wd E A s.heap (wX10 E t_o t_q t_signs t_length t_place t_behind ((0 : Int32)) t_value t_letters t_word) H locs := hw
    refine lv_aload_n hx hb dX10_advance_122 rfl (lv_at hl 1 rfl) ?_
    refine lv_aload_n hx hb dX10_advance_123 rfl (lv_at hl 1 rfl) ?_
    refine k_get (q0 := 0) (ci := 9) (C := RX10) (T := TX10) (N := 8) (x := .int (t_length)) X inx_10 hw rfl rfl 1 (by decide) rfl tw_156 rfl dX10_advance_124 ?_
    refine k_put (q0 := 0) (ci := 9) (C := RX10) (T := TX10) (N := 8) (ty0 := tyX10) (x := .int (t_length)) X inx_10 tyX10_ok nmX10 hw rfl rfl 3 (by decide) rfl rfl tw_159 rfl rfl (Nat.le_of_ble_eq_true rfl) dX10_advance_127 (fun H locs hw => ?_)
    have hw : Wd E A s.heap (wX10 E t_o t_q t_signs t_length t_place t_length ((0 : Int32)) t_value t_letters t_word) H locs := hw
    refine lv_goto (tgt := 200) hx hb dX10_advance_130 (by decide) ?_
    obtain rfl := Option.some.inj hf
    exact k_vret X hw dX10_advance_200
set_option maxRecDepth 100000 in
set_option maxHeartbeats 4000000 in
theorem kb_X10_advance_64 {E : En} {p : Program} {l : Launch} {e : Env} {s : State} {m : MethodId} {args : Array Value} {below : List Frame} {meth : Method} {c : Code} {A : Nat → Prop} {t_o : Nat} {t_q : Nat → Nat} {t_signs : (Nat → Int32)} {t_length : Int32} {out : Int32 × Int32 × Int32 × Int32 × Int64 × (Option Nat)} (X : Bx E A p s m args meth c cX10_advance 2 RX10 none) {t_place : Int32} {t_behind : Int32} {t_kind : Int32} {t_value : Int32} {t_letters : Int64} {t_word : (Option Nat)} {H : Heap} {locs : List Loc} {ls : Array Slot} (hf : f_X10_advance_64 t_signs t_length t_place = some out) : Wd E A s.heap (wX10 E t_o t_q t_signs t_length t_place t_behind t_kind t_value t_letters t_word) H locs → lv_has ls 2 [(0, .ref t_o)] → W p l e rm_X10_advance s m args below meth c H locs 0 0 (Zn E below args s A none (wX10 E t_o t_q t_signs t_length out.1 out.2.1 out.2.2.1 out.2.2.2.1 out.2.2.2.2.1 out.2.2.2.2.2)) (F0 m 64 ls []) := by
  have hx := X.1.1
  have hb := X.1.2.1
  have ho := X.1.2.2.2.1
  have hts := X.1.2.2.2.2
  intro hw hl
  unfold f_X10_advance_64 at hf
  refine lv_aload_n hx hb dX10_advance_64 rfl (lv_at hl 0 rfl) ?_
  refine lv_null hx hb dX10_advance_65 ?_
  refine k_put (q0 := 0) (ci := 9) (C := RX10) (T := TX10) (N := 8) (ty0 := tyX10) (x := .null) X inx_10 tyX10_ok nmX10 hw rfl rfl 7 (by decide) rfl rfl tw_167 rfl rfl (Nat.le_of_ble_eq_true rfl) dX10_advance_66 (fun H locs hw => ?_)
  have hw : Wd E A s.heap (wX10 E t_o t_q t_signs t_length t_place t_behind t_kind t_value t_letters none) H locs := hw
  refine lv_aload_n hx hb dX10_advance_69 rfl (lv_at hl 0 rfl) ?_
  refine lv_lconst (v := (0 : Int64)) hx hb dX10_advance_70 (by decide) ?_
  refine k_put (q0 := 0) (ci := 9) (C := RX10) (T := TX10) (N := 8) (ty0 := tyX10) (x := .long ((0 : Int64))) X inx_10 tyX10_ok nmX10 hw rfl rfl 6 (by decide) rfl rfl tw_164 rfl rfl (Nat.le_of_ble_eq_true rfl) dX10_advance_71 (fun H locs hw => ?_)
  have hw : Wd E A s.heap (wX10 E t_o t_q t_signs t_length t_place t_behind t_kind t_value ((0 : Int64)) none) H locs := hw
  refine lv_aload_n hx hb dX10_advance_74 rfl (lv_at hl 0 rfl) ?_
  refine lv_iconst (v := (0 : Int32)) hx hb dX10_advance_75 (by decide) ?_
  refine k_put (q0 := 0) (ci := 9) (C := RX10) (T := TX10) (N := 8) (ty0 := tyX10) (x := .int ((0 : Int32))) X inx_10 tyX10_ok nmX10 hw rfl rfl 5 (by decide) rfl rfl tw_162 rfl rfl (Nat.le_of_ble_eq_true rfl) dX10_advance_76 (fun H locs hw => ?_)
  have hw : Wd E A s.heap (wX10 E t_o t_q t_signs t_length t_place t_behind t_kind ((0 : Int32)) ((0 : Int64)) none) H locs := hw
  refine lv_aload_n hx hb dX10_advance_79 rfl (lv_at hl 0 rfl) ?_
  refine k_get (q0 := 0) (ci := 9) (C := RX10) (T := TX10) (N := 8) (x := .int (t_place)) X inx_10 hw rfl rfl 2 (by decide) rfl tw_158 rfl dX10_advance_80 ?_
  refine lv_aload_n hx hb dX10_advance_83 rfl (lv_at hl 0 rfl) ?_
  refine k_get (q0 := 0) (ci := 9) (C := RX10) (T := TX10) (N := 8) (x := .int (t_length)) X inx_10 hw rfl rfl 1 (by decide) rfl tw_156 rfl dX10_advance_84 ?_
  refine lv_icmp_ge (tgt := 104) hx hb dX10_advance_87 (by decide) (fun c_87 => ?_) (fun c_87 => ?_)
  · have hf := (if_pos c_87).symm.trans hf
    refine lv_iconst (v := (0 : Int32)) hx hb dX10_advance_104 (by decide) ?_
    exact kb_X10_advance_105 X hf hw (lv_sub hl [0] rfl)
  · have hf := (if_neg c_87).symm.trans hf
    refine lv_aload_n hx hb dX10_advance_90 rfl (lv_at hl 0 rfl) ?_
    refine k_get (q0 := 0) (ci := 9) (C := RX10) (T := TX10) (N := 8) (x := .ref (t_q 0)) X inx_10 hw rfl rfl 0 (by decide) rfl tw_154 rfl dX10_advance_91 ?_
    refine lv_aload_n hx hb dX10_advance_94 rfl (lv_at hl 0 rfl) ?_
    refine k_get (q0 := 0) (ci := 9) (C := RX10) (T := TX10) (N := 8) (x := .int (t_place)) X inx_10 hw rfl rfl 2 (by decide) rfl tw_158 rfl dX10_advance_95 ?_
    refine k_SN (As := [.ref (t_q 0), .int (t_place)]) (rest := []) (host := "PloughCall") (index := 36) X (ct_X12_at (out := (ga (1000) t_signs (t_place))) rfl) nw_78 tw_119 tw_591 tw_592 ⟨rfl, rfl⟩ hd_X12_at.2 ⟨Nat.le_of_ble_eq_true rfl, Nat.le_of_ble_eq_true rfl⟩ ⟨Nat.zero_le _, Nat.zero_le _⟩ hw [1] rfl rfl rfl hl.1 rfl (Nat.le_of_ble_eq_true rfl) dX10_advance_98 (fun H locs hw => ?_)
    have hw : Wd E A s.heap (wX10 E t_o t_q t_signs t_length t_place t_behind t_kind ((0 : Int32)) ((0 : Int64)) none) H locs := hw
    refine lv_goto (tgt := 105) hx hb dX10_advance_101 (by decide) ?_
    exact kb_X10_advance_105 X hf hw (lv_sub hl [0] rfl)
set_option maxRecDepth 100000 in
set_option maxHeartbeats 4000000 in
theorem kb_X10_advance_8 {E : En} {p : Program} {l : Launch} {e : Env} {s : State} {m : MethodId} {args : Array Value} {below : List Frame} {meth : Method} {c : Code} {A : Nat → Prop} {t_o : Nat} {t_q : Nat → Nat} {t_signs : (Nat → Int32)} {t_length : Int32} {out : Int32 × Int32 × Int32 × Int32 × Int64 × (Option Nat)} (X : Bx E A p s m args meth c cX10_advance 2 RX10 none) : ∀ (n : Nat) {t_place : Int32} {t_behind : Int32} {t_kind : Int32} {t_value : Int32} {t_letters : Int64} {t_word : (Option Nat)} {H : Heap} {locs : List Loc} {ls : Array Slot}, f_X10_advance_8 n t_signs t_length t_place = some out → Wd E A s.heap (wX10 E t_o t_q t_signs t_length t_place t_behind t_kind t_value t_letters t_word) H locs → lv_has ls 2 [(0, .ref t_o)] → W p l e rm_X10_advance s m args below meth c H locs 0 0 (Zn E below args s A none (wX10 E t_o t_q t_signs t_length out.1 out.2.1 out.2.2.1 out.2.2.2.1 out.2.2.2.2.1 out.2.2.2.2.2)) (F0 m 8 ls []) := by
  have hx := X.1.1
  have hb := X.1.2.1
  have ho := X.1.2.2.2.1
  have hts := X.1.2.2.2.2
  intro n
  induction n with
  | zero =>
    intro t_place t_behind t_kind t_value t_letters t_word H locs ls hf
    have hf : (none : Option (Int32 × Int32 × Int32 × Int32 × Int64 × (Option Nat))) = some out := hf
    cases hf
  | succ n ih =>
    intro t_place t_behind t_kind t_value t_letters t_word H locs ls hf hw hl
    rw [f_X10_advance_8.eq_2] at hf
    refine lv_aload_n hx hb dX10_advance_8 rfl (lv_at hl 0 rfl) ?_
    refine k_get (q0 := 0) (ci := 9) (C := RX10) (T := TX10) (N := 8) (x := .int (t_place)) X inx_10 hw rfl rfl 2 (by decide) rfl tw_158 rfl dX10_advance_9 ?_
    refine lv_aload_n hx hb dX10_advance_12 rfl (lv_at hl 0 rfl) ?_
    refine k_get (q0 := 0) (ci := 9) (C := RX10) (T := TX10) (N := 8) (x := .int (t_length)) X inx_10 hw rfl rfl 1 (by decide) rfl tw_156 rfl dX10_advance_13 ?_
    refine lv_icmp_ge (tgt := 64) hx hb dX10_advance_16 (by decide) (fun c_16 => ?_) (fun c_16 => ?_)
    · have hf := (if_pos c_16).symm.trans hf
      exact kb_X10_advance_64 X hf hw (lv_sub hl [0] rfl)
    · have hf := (if_neg c_16).symm.trans hf
      refine lv_aload_n hx hb dX10_advance_19 rfl (lv_at hl 0 rfl) ?_
      refine k_get (q0 := 0) (ci := 9) (C := RX10) (T := TX10) (N := 8) (x := .ref (t_q 0)) X inx_10 hw rfl rfl 0 (by decide) rfl tw_154 rfl dX10_advance_20 ?_
      refine lv_aload_n hx hb dX10_advance_23 rfl (lv_at hl 0 rfl) ?_
      refine k_get (q0 := 0) (ci := 9) (C := RX10) (T := TX10) (N := 8) (x := .int (t_place)) X inx_10 hw rfl rfl 2 (by decide) rfl tw_158 rfl dX10_advance_24 ?_
      refine k_SN (As := [.ref (t_q 0), .int (t_place)]) (rest := []) (host := "PloughCall") (index := 36) X (ct_X12_at (out := (ga (1000) t_signs (t_place))) rfl) nw_78 tw_119 tw_591 tw_592 ⟨rfl, rfl⟩ hd_X12_at.2 ⟨Nat.le_of_ble_eq_true rfl, Nat.le_of_ble_eq_true rfl⟩ ⟨Nat.zero_le _, Nat.zero_le _⟩ hw [1] rfl rfl rfl hl.1 rfl (Nat.le_of_ble_eq_true rfl) dX10_advance_27 (fun H locs hw => ?_)
      have hw : Wd E A s.heap (wX10 E t_o t_q t_signs t_length t_place t_behind t_kind t_value t_letters t_word) H locs := hw
      refine lv_bipush (v := (10 : Int32)) hx hb dX10_advance_30 (by decide) ?_
      refine lv_icmp_eq (tgt := 51) hx hb dX10_advance_32 (by decide) (fun c_32 => ?_) (fun c_32 => ?_)
      · have hf := (if_pos c_32).symm.trans hf
        exact kb_X10_advance_51 X (fun hf hw hl => ih hf hw hl) hf hw (lv_sub hl [0] rfl)
      · have hf := (if_neg c_32).symm.trans hf
        refine lv_aload_n hx hb dX10_advance_35 rfl (lv_at hl 0 rfl) ?_
        refine k_get (q0 := 0) (ci := 9) (C := RX10) (T := TX10) (N := 8) (x := .ref (t_q 0)) X inx_10 hw rfl rfl 0 (by decide) rfl tw_154 rfl dX10_advance_36 ?_
        refine lv_aload_n hx hb dX10_advance_39 rfl (lv_at hl 0 rfl) ?_
        refine k_get (q0 := 0) (ci := 9) (C := RX10) (T := TX10) (N := 8) (x := .int (t_place)) X inx_10 hw rfl rfl 2 (by decide) rfl tw_158 rfl dX10_advance_40 ?_
        refine k_SN (As := [.ref (t_q 0), .int (t_place)]) (rest := []) (host := "PloughCall") (index := 36) X (ct_X12_at (out := (ga (1000) t_signs (t_place))) rfl) nw_78 tw_119 tw_591 tw_592 ⟨rfl, rfl⟩ hd_X12_at.2 ⟨Nat.le_of_ble_eq_true rfl, Nat.le_of_ble_eq_true rfl⟩ ⟨Nat.zero_le _, Nat.zero_le _⟩ hw [1] rfl rfl rfl hl.1 rfl (Nat.le_of_ble_eq_true rfl) dX10_advance_43 (fun H locs hw => ?_)
        have hw : Wd E A s.heap (wX10 E t_o t_q t_signs t_length t_place t_behind t_kind t_value t_letters t_word) H locs := hw
        refine lv_bipush (v := (32 : Int32)) hx hb dX10_advance_46 (by decide) ?_
        refine lv_icmp_ne (tgt := 64) hx hb dX10_advance_48 (by decide) (fun c_48 => ?_) (fun c_48 => ?_)
        · have hf := (if_neg c_48).symm.trans hf
          exact kb_X10_advance_64 X hf hw (lv_sub hl [0] rfl)
        · have hf := (if_pos c_48).symm.trans hf
          exact kb_X10_advance_51 X (fun hf hw hl => ih hf hw hl) hf hw (lv_sub hl [0] rfl)
set_option maxRecDepth 100000 in
set_option maxHeartbeats 4000000 in
theorem c_X10_advance {E : En} {l : Launch} {t_o : Nat} {t_q : Nat → Nat} {t_signs : (Nat → Int32)} {t_length : Int32} {t_place : Int32} {t_behind : Int32} {t_kind : Int32} {t_value : Int32} {t_letters : Int64} {t_word : (Option Nat)}  {out : Int32 × Int32 × Int32 × Int32 × Int64 × (Option Nat)} (hf : f_X10_advance t_signs t_length t_behind = some out) : Cn E l yX10_advance cX10_advance 2 none rm_X10_advance [.ref t_o] (wX10 E t_o t_q t_signs t_length t_place t_behind t_kind t_value t_letters t_word) none (wX10 E t_o t_q t_signs t_length out.1 out.2.1 out.2.2.1 out.2.2.2.1 out.2.2.2.2.1 out.2.2.2.2.2) := by
  refine Cn.of (by decide) (Nat.le_of_ble_eq_true rfl) rfl ?_
  intro p e s m below meth c A ls args H locs X hw hl
  have hx := X.1.1
  have hb := X.1.2.1
  have ho := X.1.2.2.2.1
  have hts := X.1.2.2.2.2
  have hl : lv_has ls 2 [(0, .ref t_o)] := hl
  unfold f_X10_advance at hf
  refine lv_aload_n hx hb dX10_advance_0 rfl (lv_at hl 0 rfl) ?_
  refine lv_aload_n hx hb dX10_advance_1 rfl (lv_at hl 0 rfl) ?_
  refine k_get (q0 := 0) (ci := 9) (C := RX10) (T := TX10) (N := 8) (x := .int (t_behind)) X inx_10 hw rfl rfl 3 (by decide) rfl tw_159 rfl dX10_advance_2 ?_
  refine k_put (q0 := 0) (ci := 9) (C := RX10) (T := TX10) (N := 8) (ty0 := tyX10) (x := .int (t_behind)) X inx_10 tyX10_ok nmX10 hw rfl rfl 2 (by decide) rfl rfl tw_158 rfl rfl (Nat.le_of_ble_eq_true rfl) dX10_advance_5 (fun H locs hw => ?_)
  have hw : Wd E A s.heap (wX10 E t_o t_q t_signs t_length t_behind t_behind t_kind t_value t_letters t_word) H locs := hw
  exact kb_X10_advance_8 X 1100 hf hw (lv_sub hl [0] rfl)
