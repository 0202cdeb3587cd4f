/-! boolean pop(PloughCall$Standing); -/
def f_X5_pop (t_steps : Int32) (t_next : Int32) (tsbefores_month : (Nat → Int32)) (tsbefores_power : (Nat → Int32)) (tsbefores_master : (Nat → Int32)) (tsbefores_left : (Nat → Int32)) (tsbefores_kept : (Nat → Int32)) (tsbefores_passed : (Nat → Int32)) (tsbefores_sizes : (Nat → (Nat → Int32))) (tsbefores_fields : (Nat → (Nat → Int32))) (tsbefores_liked : (Nat → (Nat → Int32))) (p1_month : Int32) (p1_power : Int32) (p1_master : Int32) (p1_left : Int32) (p1_kept : Int32) (p1_passed : Int32) (p1_sizes : (Nat → Int32)) (p1_fields : (Nat → Int32)) (p1_liked : (Nat → Int32)) : Option (Int32 × Int32 × Int32 × Int32 × Int32 × Int32 × Int32 × Int32 × Int32 × (Nat → Int32) × (Nat → Int32) × (Nat → Int32)) := (f_X5_beforeAt ((((t_next + (16 : Int32)) - (1 : Int32)) - ((t_next + (16 : Int32)) - (1 : Int32)) / (16 : Int32) * (16 : Int32)))).bind fun r15 => if t_steps = (0 : Int32) then some ((0 : Int32), t_steps, t_next, p1_month, p1_power, p1_master, p1_left, p1_kept, p1_passed, p1_sizes, p1_fields, p1_liked)
  else if r15 = none then some ((0 : Int32), t_steps, t_next, p1_month, p1_power, p1_master, p1_left, p1_kept, p1_passed, p1_sizes, p1_fields, p1_liked)
  else ex 16 (r15) fun k34b => (f_X9_copy p1_sizes p1_fields p1_liked (tsbefores_month k34b) (tsbefores_power k34b) (tsbefores_master k34b) (tsbefores_left k34b) (tsbefores_kept k34b) (tsbefores_passed k34b) (tsbefores_sizes k34b) (tsbefores_fields k34b) (tsbefores_liked k34b)).bind fun r34 => some ((1 : Int32), (t_steps - (1 : Int32)), (((t_next + (16 : Int32)) - (1 : Int32)) - ((t_next + (16 : Int32)) - (1 : Int32)) / (16 : Int32) * (16 : Int32)), r34.1, r34.2.1, r34.2.2.1, r34.2.2.2.1, r34.2.2.2.2.1, r34.2.2.2.2.2.1, r34.2.2.2.2.2.2.1, r34.2.2.2.2.2.2.2.1, r34.2.2.2.2.2.2.2.2)
abbrev rm_X5_pop : Room := { frames := 2, cells := 0, slots := 0, locals := 43 }
theorem hd_X5_pop : yX5_pop.cls = RX5 ∧ yX5_pop.cls ≠ "java/lang/invoke/MethodHandle" ∧ yX5_pop.cls ≠ "java/lang/invoke/VarHandle" ∧ (parseMethodDescriptor yX5_pop.desc).map (fun d => d.parameters.length) = some 1 := by decide +kernel
set_option maxRecDepth 100000 in
set_option maxHeartbeats 4000000 in
theorem c_X5_pop {E : En} {l : Launch} {t_o : Nat} {t_q : Nat → Nat} {t_steps : Int32} {t_next : Int32} {tsbefores_o : Nat → Nat} {tsbefores_q : Nat → Nat → Nat} {tsbefores_month : Nat → Int32} {tsbefores_power : Nat → Int32} {tsbefores_master : Nat → Int32} {tsbefores_left : Nat → Int32} {tsbefores_kept : Nat → Int32} {tsbefores_passed : Nat → Int32} {tsbefores_sizes : Nat → (Nat → Int32)} {tsbefores_fields : Nat → (Nat → Int32)} {tsbefores_liked : Nat → (Nat → Int32)} {p1_o : Nat} {p1_q : Nat → Nat} {p1_month : Int32} {p1_power : Int32} {p1_master : Int32} {p1_left : Int32} {p1_kept : Int32} {p1_passed : Int32} {p1_sizes : (Nat → Int32)} {p1_fields : (Nat → Int32)} {p1_liked : (Nat → Int32)}  {out : Int32 × Int32 × Int32 × Int32 × Int32 × Int32 × Int32 × Int32 × Int32 × (Nat → Int32) × (Nat → Int32) × (Nat → Int32)} (hf : f_X5_pop t_steps t_next tsbefores_month tsbefores_power tsbefores_master tsbefores_left tsbefores_kept tsbefores_passed tsbefores_sizes tsbefores_fields tsbefores_liked p1_month p1_power p1_master p1_left p1_kept p1_passed p1_sizes p1_fields p1_liked = some out) : Cn E l yX5_pop cX5_pop 4 (some .boolean) rm_X5_pop [.ref t_o, .ref p1_o] (wX5 E t_o t_q ((fun j => some (tsbefores_o j))) t_steps t_next ++ (w16 (fun k => wX9 E (tsbefores_o k) (tsbefores_q k) (tsbefores_month k) (tsbefores_power k) (tsbefores_master k) (tsbefores_left k) (tsbefores_kept k) (tsbefores_passed k) (tsbefores_sizes k) (tsbefores_fields k) (tsbefores_liked k)) ++ (wX9 E p1_o p1_q p1_month p1_power p1_master p1_left p1_kept p1_passed p1_sizes p1_fields p1_liked))) (some (.int out.1)) (wX5 E t_o t_q ((fun j => some (tsbefores_o j))) out.2.1 out.2.2.1 ++ (w16 (fun k => wX9 E (tsbefores_o k) (tsbefores_q k) (tsbefores_month k) (tsbefores_power k) (tsbefores_master k) (tsbefores_left k) (tsbefores_kept k) (tsbefores_passed k) (tsbefores_sizes k) (tsbefores_fields k) (tsbefores_liked k)) ++ (wX9 E p1_o p1_q out.2.2.2.1 out.2.2.2.2.1 out.2.2.2.2.2.1 out.2.2.2.2.2.2.1 out.2.2.2.2.2.2.2.1 out.2.2.2.2.2.2.2.2.1 out.2.2.2.2.2.2.2.2.2.1 out.2.2.2.2.2.2.2.2.2.2.1 out.2.2.2.2.2.2.2.2.2.2.2))) := by
  refine Cn.of (by decide) (Nat.le_of_ble_eq_true rfl) rfl ?_
  intro p e s m below meth c A ls args H locs X hw hl
  have hx := X.1.1
  have hb := X.1.2.1
  have ho := X.1.2.2.2.1
  have hts := X.1.2.2.2.2
  have hl : lv_has ls 4 [(0, .ref t_o), (1, .ref p1_o)] := hl
  unfold f_X5_pop at hf
  refine lv_aload_n hx hb dX5_pop_0 rfl (lv_at hl 0 rfl) ?_
  refine k_get (q0 := 0) (ci := 4) (C := RX5) (T := TX5) (N := 3) (x := .int (t_next)) X inx_5 hw rfl rfl 2 (by decide) rfl tw_307 rfl dX5_pop_1 ?_
  refine lv_bipush (v := (16 : Int32)) hx hb dX5_pop_4 (by decide) ?_
  refine lv_iadd hx hb dX5_pop_6 ?_
  refine lv_iconst (v := (1 : Int32)) hx hb dX5_pop_7 (by decide) ?_
  refine lv_isub hx hb dX5_pop_8 ?_
  refine lv_bipush (v := (16 : Int32)) hx hb dX5_pop_9 (by decide) ?_
  refine lv_irem hx hb dX5_pop_11 (by decide) ?_
  refine lv_istore_n (lv' := [(2, .int ((((t_next + (16 : Int32)) - (1 : Int32)) - ((t_next + (16 : Int32)) - (1 : Int32)) / (16 : Int32) * (16 : Int32)))), (0, .ref t_o), (1, .ref p1_o)]) hx hb dX5_pop_12 rfl hl (by decide) rfl (fun ls hl => ?_)
  refine lv_aload_n hx hb dX5_pop_13 rfl (lv_at hl 1 rfl) ?_
  refine lv_iload_n hx hb dX5_pop_14 rfl (lv_at hl 0 rfl) ?_
  obtain ⟨r15, hc_15, hf⟩ := bd_some hf
  refine k_V (As := [.int ((((t_next + (16 : Int32)) - (1 : Int32)) - ((t_next + (16 : Int32)) - (1 : Int32)) / (16 : Int32) * (16 : Int32)))]) (rest := []) (index := 22) (C := RX5) X (c_X5_beforeAt hc_15) tw_910 tw_912 tw_27 tw_124 tw_913 ⟨rfl, rfl⟩ hd_X5_beforeAt ⟨Nat.le_of_ble_eq_true rfl, Nat.le_of_ble_eq_true rfl⟩ ⟨Nat.zero_le _, Nat.zero_le _⟩ hw [0, 1] rfl rfl 0 rfl rfl rfl rfl hl.1 rfl (Nat.le_of_ble_eq_true rfl) dX5_pop_15 (fun H locs hw => ?_)
  have hw : Wd E A s.heap (wX5 E t_o t_q ((fun j => some (tsbefores_o j))) t_steps t_next ++ (w16 (fun k => wX9 E (tsbefores_o k) (tsbefores_q k) (tsbefores_month k) (tsbefores_power k) (tsbefores_master k) (tsbefores_left k) (tsbefores_kept k) (tsbefores_passed k) (tsbefores_sizes k) (tsbefores_fields k) (tsbefores_liked k)) ++ (wX9 E p1_o p1_q p1_month p1_power p1_master p1_left p1_kept p1_passed p1_sizes p1_fields p1_liked))) H locs := hw
  refine k_astore_nE (ad := tsbefores_o) (x := r15) (lv' := [(3, va_re tsbefores_o (r15)), (2, .int ((((t_next + (16 : Int32)) - (1 : Int32)) - ((t_next + (16 : Int32)) - (1 : Int32)) / (16 : Int32) * (16 : Int32)))), (0, .ref t_o), (1, .ref p1_o)]) hx hb dX5_pop_18 rfl hl (by decide) rfl (fun ls hl => ?_)
  refine lv_aload_n hx hb dX5_pop_19 rfl (lv_at hl 2 rfl) ?_
  refine k_get (q0 := 0) (ci := 4) (C := RX5) (T := TX5) (N := 3) (x := .int (t_steps)) X inx_5 hw rfl rfl 1 (by decide) rfl tw_305 rfl dX5_pop_20 ?_
  refine lv_if_eq (tgt := 30) hx hb dX5_pop_23 (by decide) (fun c_23 => ?_) (fun c_23 => ?_)
  · have hf := (if_pos c_23).symm.trans hf
    refine lv_iconst (v := (0 : Int32)) hx hb dX5_pop_30 (by decide) ?_
    obtain rfl := Option.some.inj hf
    exact k_zret X (Or.inl rfl) hw dX5_pop_31
  · have hf := (if_neg c_23).symm.trans hf
    refine k_aload_nE (ad := tsbefores_o) (x := r15) hx hb dX5_pop_26 rfl (lv_at hl 0 rfl) ?_
    refine k_ifnonnullE (ad := tsbefores_o) (x := r15) (tgt := 32) hx hb dX5_pop_27 (by decide) (fun c_27 => ?_) (fun c_27 => ?_)
    · have hf := (if_neg c_27).symm.trans hf
      refine lv_aload_n hx hb dX5_pop_32 rfl (lv_at hl 3 rfl) ?_
      refine k_aload_nE (ad := tsbefores_o) (x := r15) hx hb dX5_pop_33 rfl (lv_at hl 0 rfl) ?_
      obtain ⟨k34b, hx_34b, hk_34b, hf⟩ := ex_some hf
      obtain ⟨r34, hc_34, hf⟩ := bd_some hf
      suffices kk : ∀ (H1 : Heap) (locs1 : List Loc), Wd E A s.heap (wX5 E t_o t_q ((fun j => some (tsbefores_o j))) t_steps t_next ++ (w16 (fun k => wX9 E (tsbefores_o k) (tsbefores_q k) (tsbefores_month k) (tsbefores_power k) (tsbefores_master k) (tsbefores_left k) (tsbefores_kept k) (tsbefores_passed k) (tsbefores_sizes k) (tsbefores_fields k) (tsbefores_liked k)) ++ (wX9 E p1_o p1_q r34.1 r34.2.1 r34.2.2.1 r34.2.2.2.1 r34.2.2.2.2.1 r34.2.2.2.2.2.1 r34.2.2.2.2.2.2.1 r34.2.2.2.2.2.2.2.1 r34.2.2.2.2.2.2.2.2))) H1 locs1 → W p l e rm_X5_pop s m args below meth c H1 locs1 0 0 (Zn E below args s A (some (.int out.1)) (wX5 E t_o t_q ((fun j => some (tsbefores_o j))) out.2.1 out.2.2.1 ++ (w16 (fun k => wX9 E (tsbefores_o k) (tsbefores_q k) (tsbefores_month k) (tsbefores_power k) (tsbefores_master k) (tsbefores_left k) (tsbefores_kept k) (tsbefores_passed k) (tsbefores_sizes k) (tsbefores_fields k) (tsbefores_liked k)) ++ (wX9 E p1_o p1_q out.2.2.2.1 out.2.2.2.2.1 out.2.2.2.2.2.1 out.2.2.2.2.2.2.1 out.2.2.2.2.2.2.2.1 out.2.2.2.2.2.2.2.2.1 out.2.2.2.2.2.2.2.2.2.1 out.2.2.2.2.2.2.2.2.2.2.1 out.2.2.2.2.2.2.2.2.2.2.2)))) (F0 m (37) ls []) by
        rw [hx_34b]
        rcases (show k34b = 0 ∨ k34b = 1 ∨ k34b = 2 ∨ k34b = 3 ∨ k34b = 4 ∨ k34b = 5 ∨ k34b = 6 ∨ k34b = 7 ∨ k34b = 8 ∨ k34b = 9 ∨ k34b = 10 ∨ k34b = 11 ∨ k34b = 12 ∨ k34b = 13 ∨ k34b = 14 ∨ k34b = 15 by omega) with rfl | rfl | rfl | rfl | rfl | rfl | rfl | rfl | rfl | rfl | rfl | rfl | rfl | rfl | rfl | rfl
        · skip
          exact k_V (As := [.ref (tsbefores_o 0)]) (rest := []) (index := 26) (C := RX9) X (c_X9_copy hc_34) tw_914 tw_915 tw_916 tw_123 tw_917 ⟨rfl, rfl⟩ hd_X9_copy ⟨Nat.le_of_ble_eq_true rfl, Nat.le_of_ble_eq_true rfl⟩ ⟨Nat.zero_le _, Nat.zero_le _⟩ hw [66, 67, 68, 69, 2, 3, 4, 5] rfl rfl 66 rfl rfl rfl rfl hl.1 rfl (Nat.le_of_ble_eq_true rfl) dX5_pop_34 (fun H locs hw => kk H locs hw)
        · skip
          exact k_V (As := [.ref (tsbefores_o 1)]) (rest := []) (index := 26) (C := RX9) X (c_X9_copy hc_34) tw_914 tw_915 tw_916 tw_123 tw_917 ⟨rfl, rfl⟩ hd_X9_copy ⟨Nat.le_of_ble_eq_true rfl, Nat.le_of_ble_eq_true rfl⟩ ⟨Nat.zero_le _, Nat.zero_le _⟩ hw [66, 67, 68, 69, 6, 7, 8, 9] rfl rfl 66 rfl rfl rfl rfl hl.1 rfl (Nat.le_of_ble_eq_true rfl) dX5_pop_34 (fun H locs hw => kk H locs hw)
        · skip
          exact k_V (As := [.ref (tsbefores_o 2)]) (rest := []) (index := 26) (C := RX9) X (c_X9_copy hc_34) tw_914 tw_915 tw_916 tw_123 tw_917 ⟨rfl, rfl⟩ hd_X9_copy ⟨Nat.le_of_ble_eq_true rfl, Nat.le_of_ble_eq_true rfl⟩ ⟨Nat.zero_le _, Nat.zero_le _⟩ hw [66, 67, 68, 69, 10, 11, 12, 13] rfl rfl 66 rfl rfl rfl rfl hl.1 rfl (Nat.le_of_ble_eq_true rfl) dX5_pop_34 (fun H locs hw => kk H locs hw)
        · skip
          exact k_V (As := [.ref (tsbefores_o 3)]) (rest := []) (index := 26) (C := RX9) X (c_X9_copy hc_34) tw_914 tw_915 tw_916 tw_123 tw_917 ⟨rfl, rfl⟩ hd_X9_copy ⟨Nat.le_of_ble_eq_true rfl, Nat.le_of_ble_eq_true rfl⟩ ⟨Nat.zero_le _, Nat.zero_le _⟩ hw [66, 67, 68, 69, 14, 15, 16, 17] rfl rfl 66 rfl rfl rfl rfl hl.1 rfl (Nat.le_of_ble_eq_true rfl) dX5_pop_34 (fun H locs hw => kk H locs hw)
        · skip
          exact k_V (As := [.ref (tsbefores_o 4)]) (rest := []) (index := 26) (C := RX9) X (c_X9_copy hc_34) tw_914 tw_915 tw_916 tw_123 tw_917 ⟨rfl, rfl⟩ hd_X9_copy ⟨Nat.le_of_ble_eq_true rfl, Nat.le_of_ble_eq_true rfl⟩ ⟨Nat.zero_le _, Nat.zero_le _⟩ hw [66, 67, 68, 69, 18, 19, 20, 21] rfl rfl 66 rfl rfl rfl rfl hl.1 rfl (Nat.le_of_ble_eq_true rfl) dX5_pop_34 (fun H locs hw => kk H locs hw)
        · skip
          exact k_V (As := [.ref (tsbefores_o 5)]) (rest := []) (index := 26) (C := RX9) X (c_X9_copy hc_34) tw_914 tw_915 tw_916 tw_123 tw_917 ⟨rfl, rfl⟩ hd_X9_copy ⟨Nat.le_of_ble_eq_true rfl, Nat.le_of_ble_eq_true rfl⟩ ⟨Nat.zero_le _, Nat.zero_le _⟩ hw [66, 67, 68, 69, 22, 23, 24, 25] rfl rfl 66 rfl rfl rfl rfl hl.1 rfl (Nat.le_of_ble_eq_true rfl) dX5_pop_34 (fun H locs hw => kk H locs hw)
        · skip
          exact k_V (As := [.ref (tsbefores_o 6)]) (rest := []) (index := 26) (C := RX9) X (c_X9_copy hc_34) tw_914 tw_915 tw_916 tw_123 tw_917 ⟨rfl, rfl⟩ hd_X9_copy ⟨Nat.le_of_ble_eq_true rfl, Nat.le_of_ble_eq_true rfl⟩ ⟨Nat.zero_le _, Nat.zero_le _⟩ hw [66, 67, 68, 69, 26, 27, 28, 29] rfl rfl 66 rfl rfl rfl rfl hl.1 rfl (Nat.le_of_ble_eq_true rfl) dX5_pop_34 (fun H locs hw => kk H locs hw)
        · skip
          exact k_V (As := [.ref (tsbefores_o 7)]) (rest := []) (index := 26) (C := RX9) X (c_X9_copy hc_34) tw_914 tw_915 tw_916 tw_123 tw_917 ⟨rfl, rfl⟩ hd_X9_copy ⟨Nat.le_of_ble_eq_true rfl, Nat.le_of_ble_eq_true rfl⟩ ⟨Nat.zero_le _, Nat.zero_le _⟩ hw [66, 67, 68, 69, 30, 31, 32, 33] rfl rfl 66 rfl rfl rfl rfl hl.1 rfl (Nat.le_of_ble_eq_true rfl) dX5_pop_34 (fun H locs hw => kk H locs hw)
        · skip
          exact k_V (As := [.ref (tsbefores_o 8)]) (rest := []) (index := 26) (C := RX9) X (c_X9_copy hc_34) tw_914 tw_915 tw_916 tw_123 tw_917 ⟨rfl, rfl⟩ hd_X9_copy ⟨Nat.le_of_ble_eq_true rfl, Nat.le_of_ble_eq_true rfl⟩ ⟨Nat.zero_le _, Nat.zero_le _⟩ hw [66, 67, 68, 69, 34, 35, 36, 37] rfl rfl 66 rfl rfl rfl rfl hl.1 rfl (Nat.le_of_ble_eq_true rfl) dX5_pop_34 (fun H locs hw => kk H locs hw)
        · skip
          exact k_V (As := [.ref (tsbefores_o 9)]) (rest := []) (index := 26) (C := RX9) X (c_X9_copy hc_34) tw_914 tw_915 tw_916 tw_123 tw_917 ⟨rfl, rfl⟩ hd_X9_copy ⟨Nat.le_of_ble_eq_true rfl, Nat.le_of_ble_eq_true rfl⟩ ⟨Nat.zero_le _, Nat.zero_le _⟩ hw [66, 67, 68, 69, 38, 39, 40, 41] rfl rfl 66 rfl rfl rfl rfl hl.1 rfl (Nat.le_of_ble_eq_true rfl) dX5_pop_34 (fun H locs hw => kk H locs hw)
        · skip
          exact k_V (As := [.ref (tsbefores_o 10)]) (rest := []) (index := 26) (C := RX9) X (c_X9_copy hc_34) tw_914 tw_915 tw_916 tw_123 tw_917 ⟨rfl, rfl⟩ hd_X9_copy ⟨Nat.le_of_ble_eq_true rfl, Nat.le_of_ble_eq_true rfl⟩ ⟨Nat.zero_le _, Nat.zero_le _⟩ hw [66, 67, 68, 69, 42, 43, 44, 45] rfl rfl 66 rfl rfl rfl rfl hl.1 rfl (Nat.le_of_ble_eq_true rfl) dX5_pop_34 (fun H locs hw => kk H locs hw)
        · skip
          exact k_V (As := [.ref (tsbefores_o 11)]) (rest := []) (index := 26) (C := RX9) X (c_X9_copy hc_34) tw_914 tw_915 tw_916 tw_123 tw_917 ⟨rfl, rfl⟩ hd_X9_copy ⟨Nat.le_of_ble_eq_true rfl, Nat.le_of_ble_eq_true rfl⟩ ⟨Nat.zero_le _, Nat.zero_le _⟩ hw [66, 67, 68, 69, 46, 47, 48, 49] rfl rfl 66 rfl rfl rfl rfl hl.1 rfl (Nat.le_of_ble_eq_true rfl) dX5_pop_34 (fun H locs hw => kk H locs hw)
        · skip
          exact k_V (As := [.ref (tsbefores_o 12)]) (rest := []) (index := 26) (C := RX9) X (c_X9_copy hc_34) tw_914 tw_915 tw_916 tw_123 tw_917 ⟨rfl, rfl⟩ hd_X9_copy ⟨Nat.le_of_ble_eq_true rfl, Nat.le_of_ble_eq_true rfl⟩ ⟨Nat.zero_le _, Nat.zero_le _⟩ hw [66, 67, 68, 69, 50, 51, 52, 53] rfl rfl 66 rfl rfl rfl rfl hl.1 rfl (Nat.le_of_ble_eq_true rfl) dX5_pop_34 (fun H locs hw => kk H locs hw)
        · skip
          exact k_V (As := [.ref (tsbefores_o 13)]) (rest := []) (index := 26) (C := RX9) X (c_X9_copy hc_34) tw_914 tw_915 tw_916 tw_123 tw_917 ⟨rfl, rfl⟩ hd_X9_copy ⟨Nat.le_of_ble_eq_true rfl, Nat.le_of_ble_eq_true rfl⟩ ⟨Nat.zero_le _, Nat.zero_le _⟩ hw [66, 67, 68, 69, 54, 55, 56, 57] rfl rfl 66 rfl rfl rfl rfl hl.1 rfl (Nat.le_of_ble_eq_true rfl) dX5_pop_34 (fun H locs hw => kk H locs hw)
        · skip
          exact k_V (As := [.ref (tsbefores_o 14)]) (rest := []) (index := 26) (C := RX9) X (c_X9_copy hc_34) tw_914 tw_915 tw_916 tw_123 tw_917 ⟨rfl, rfl⟩ hd_X9_copy ⟨Nat.le_of_ble_eq_true rfl, Nat.le_of_ble_eq_true rfl⟩ ⟨Nat.zero_le _, Nat.zero_le _⟩ hw [66, 67, 68, 69, 58, 59, 60, 61] rfl rfl 66 rfl rfl rfl rfl hl.1 rfl (Nat.le_of_ble_eq_true rfl) dX5_pop_34 (fun H locs hw => kk H locs hw)
        · skip
          exact k_V (As := [.ref (tsbefores_o 15)]) (rest := []) (index := 26) (C := RX9) X (c_X9_copy hc_34) tw_914 tw_915 tw_916 tw_123 tw_917 ⟨rfl, rfl⟩ hd_X9_copy ⟨Nat.le_of_ble_eq_true rfl, Nat.le_of_ble_eq_true rfl⟩ ⟨Nat.zero_le _, Nat.zero_le _⟩ hw [66, 67, 68, 69, 62, 63, 64, 65] rfl rfl 66 rfl rfl rfl rfl hl.1 rfl (Nat.le_of_ble_eq_true rfl) dX5_pop_34 (fun H locs hw => kk H locs hw)
      intro H locs hw
      refine lv_aload_n hx hb dX5_pop_37 rfl (lv_at hl 2 rfl) ?_
      refine lv_iload_n hx hb dX5_pop_38 rfl (lv_at hl 1 rfl) ?_
      refine k_put (q0 := 0) (ci := 4) (C := RX5) (T := TX5) (N := 3) (ty0 := tyX5) (x := .int ((((t_next + (16 : Int32)) - (1 : Int32)) - ((t_next + (16 : Int32)) - (1 : Int32)) / (16 : Int32) * (16 : Int32)))) X inx_5 tyX5_ok nmX5 hw rfl rfl 2 (by decide) rfl rfl tw_307 rfl rfl (Nat.le_of_ble_eq_true rfl) dX5_pop_39 (fun H locs hw => ?_)
      have hw : Wd E A s.heap (wX5 E t_o t_q ((fun j => some (tsbefores_o j))) t_steps ((((t_next + (16 : Int32)) - (1 : Int32)) - ((t_next + (16 : Int32)) - (1 : Int32)) / (16 : Int32) * (16 : Int32))) ++ (w16 (fun k => wX9 E (tsbefores_o k) (tsbefores_q k) (tsbefores_month k) (tsbefores_power k) (tsbefores_master k) (tsbefores_left k) (tsbefores_kept k) (tsbefores_passed k) (tsbefores_sizes k) (tsbefores_fields k) (tsbefores_liked k)) ++ (wX9 E p1_o p1_q r34.1 r34.2.1 r34.2.2.1 r34.2.2.2.1 r34.2.2.2.2.1 r34.2.2.2.2.2.1 r34.2.2.2.2.2.2.1 r34.2.2.2.2.2.2.2.1 r34.2.2.2.2.2.2.2.2))) H locs := hw
      refine lv_aload_n hx hb dX5_pop_42 rfl (lv_at hl 2 rfl) ?_
      refine lv_dup hx hb dX5_pop_43 rfl ?_
      refine k_get (q0 := 0) (ci := 4) (C := RX5) (T := TX5) (N := 3) (x := .int (t_steps)) X inx_5 hw rfl rfl 1 (by decide) rfl tw_305 rfl dX5_pop_44 ?_
      refine lv_iconst (v := (1 : Int32)) hx hb dX5_pop_47 (by decide) ?_
      refine lv_isub hx hb dX5_pop_48 ?_
      refine k_put (q0 := 0) (ci := 4) (C := RX5) (T := TX5) (N := 3) (ty0 := tyX5) (x := .int ((t_steps - (1 : Int32)))) X inx_5 tyX5_ok nmX5 hw rfl rfl 1 (by decide) rfl rfl tw_305 rfl rfl (Nat.le_of_ble_eq_true rfl) dX5_pop_49 (fun H locs hw => ?_)
      have hw : Wd E A s.heap (wX5 E t_o t_q ((fun j => some (tsbefores_o j))) ((t_steps - (1 : Int32))) ((((t_next + (16 : Int32)) - (1 : Int32)) - ((t_next + (16 : Int32)) - (1 : Int32)) / (16 : Int32) * (16 : Int32))) ++ (w16 (fun k => wX9 E (tsbefores_o k) (tsbefores_q k) (tsbefores_month k) (tsbefores_power k) (tsbefores_master k) (tsbefores_left k) (tsbefores_kept k) (tsbefores_passed k) (tsbefores_sizes k) (tsbefores_fields k) (tsbefores_liked k)) ++ (wX9 E p1_o p1_q r34.1 r34.2.1 r34.2.2.1 r34.2.2.2.1 r34.2.2.2.2.1 r34.2.2.2.2.2.1 r34.2.2.2.2.2.2.1 r34.2.2.2.2.2.2.2.1 r34.2.2.2.2.2.2.2.2))) H locs := hw
      refine lv_iconst (v := (1 : Int32)) hx hb dX5_pop_52 (by decide) ?_
      obtain rfl := Option.some.inj hf
      exact k_zret X (Or.inr rfl) hw dX5_pop_53
    · have hf := (if_pos c_27).symm.trans hf
      refine lv_iconst (v := (0 : Int32)) hx hb dX5_pop_30 (by decide) ?_
      obtain rfl := Option.some.inj hf
      exact k_zret X (Or.inl rfl) hw dX5_pop_31
