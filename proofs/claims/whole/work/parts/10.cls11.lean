/-! void push(PloughCall$Standing); -/
def f_X5_push (t_steps : Int32) (t_next : Int32) (tsbefores_month : (Nat → Int32)) (tsbefores_power : (Nat → Int32)) (tsbefores_master : (Nat → Int32)) (tsbefores_left : (Nat → Int32)) (tsbefores_kept : (Nat → Int32)) (tsbefores_passed : (Nat → Int32)) (tsbefores_sizes : (Nat → (Nat → Int32))) (tsbefores_fields : (Nat → (Nat → Int32))) (tsbefores_liked : (Nat → (Nat → Int32))) (p1_month : Int32) (p1_power : Int32) (p1_master : Int32) (p1_left : Int32) (p1_kept : Int32) (p1_passed : Int32) (p1_sizes : (Nat → Int32)) (p1_fields : (Nat → Int32)) (p1_liked : (Nat → Int32)) : Option (Int32 × Int32 × (Nat → Int32) × (Nat → Int32) × (Nat → Int32) × (Nat → Int32) × (Nat → Int32) × (Nat → Int32) × (Nat → (Nat → Int32)) × (Nat → (Nat → Int32)) × (Nat → (Nat → Int32))) := (f_X5_beforeAt (t_next)).bind fun r5 => if r5 = none then some (t_steps, t_next, tsbefores_month, tsbefores_power, tsbefores_master, tsbefores_left, tsbefores_kept, tsbefores_passed, tsbefores_sizes, tsbefores_fields, tsbefores_liked)
  else ex 16 (r5) fun k15a => (f_X9_copy (tsbefores_sizes k15a) (tsbefores_fields k15a) (tsbefores_liked k15a) p1_month p1_power p1_master p1_left p1_kept p1_passed p1_sizes p1_fields p1_liked).bind fun r15 => some ((imin (16 : Int32) (t_steps + (1 : Int32))), ((t_next + (1 : Int32)) - (t_next + (1 : Int32)) / (16 : Int32) * (16 : Int32)), va_up tsbefores_month k15a (r15.1), va_up tsbefores_power k15a (r15.2.1), va_up tsbefores_master k15a (r15.2.2.1), va_up tsbefores_left k15a (r15.2.2.2.1), va_up tsbefores_kept k15a (r15.2.2.2.2.1), va_up tsbefores_passed k15a (r15.2.2.2.2.2.1), va_up tsbefores_sizes k15a (r15.2.2.2.2.2.2.1), va_up tsbefores_fields k15a (r15.2.2.2.2.2.2.2.1), va_up tsbefores_liked k15a (r15.2.2.2.2.2.2.2.2))
abbrev rm_X5_push : Room := { frames := 2, cells := 0, slots := 0, locals := 43 }
theorem hd_X5_push : yX5_push.cls = RX5 ∧ yX5_push.cls ≠ "java/lang/invoke/MethodHandle" ∧ yX5_push.cls ≠ "java/lang/invoke/VarHandle" ∧ (parseMethodDescriptor yX5_push.desc).map (fun d => d.parameters.length) = some 1 := by decide +kernel
set_option maxRecDepth 100000 in
set_option maxHeartbeats 4000000 in
theorem c_X5_push {E : En} {l : Launch} {t_o : Nat} {t_q : Nat → Nat} {t_steps : Int32} {t_next : Int32} {tsbefores_o : Nat → Nat} {tsbefores_q : Nat → Nat → Nat} {tsbefores_month : Nat → Int32} {tsbefores_power : Nat → Int32} {tsbefores_master : Nat → Int32} {tsbefores_left : Nat → Int32} {tsbefores_kept : Nat → Int32} {tsbefores_passed : Nat → Int32} {tsbefores_sizes : Nat → (Nat → Int32)} {tsbefores_fields : Nat → (Nat → Int32)} {tsbefores_liked : Nat → (Nat → Int32)} {p1_o : Nat} {p1_q : Nat → Nat} {p1_month : Int32} {p1_power : Int32} {p1_master : Int32} {p1_left : Int32} {p1_kept : Int32} {p1_passed : Int32} {p1_sizes : (Nat → Int32)} {p1_fields : (Nat → Int32)} {p1_liked : (Nat → Int32)}  {out : Int32 × Int32 × (Nat → Int32) × (Nat → Int32) × (Nat → Int32) × (Nat → Int32) × (Nat → Int32) × (Nat → Int32) × (Nat → (Nat → Int32)) × (Nat → (Nat → Int32)) × (Nat → (Nat → Int32))} (hf : f_X5_push t_steps t_next tsbefores_month tsbefores_power tsbefores_master tsbefores_left tsbefores_kept tsbefores_passed tsbefores_sizes tsbefores_fields tsbefores_liked p1_month p1_power p1_master p1_left p1_kept p1_passed p1_sizes p1_fields p1_liked = some out) : Cn E l yX5_push cX5_push 3 none rm_X5_push [.ref t_o, .ref p1_o] (wX5 E t_o t_q ((fun j => some (tsbefores_o j))) t_steps t_next ++ (w16 (fun k => wX9 E (tsbefores_o k) (tsbefores_q k) (tsbefores_month k) (tsbefores_power k) (tsbefores_master k) (tsbefores_left k) (tsbefores_kept k) (tsbefores_passed k) (tsbefores_sizes k) (tsbefores_fields k) (tsbefores_liked k)) ++ (wX9 E p1_o p1_q p1_month p1_power p1_master p1_left p1_kept p1_passed p1_sizes p1_fields p1_liked))) none (wX5 E t_o t_q ((fun j => some (tsbefores_o j))) out.1 out.2.1 ++ (w16 (fun k => wX9 E (tsbefores_o k) (tsbefores_q k) (out.2.2.1 k) (out.2.2.2.1 k) (out.2.2.2.2.1 k) (out.2.2.2.2.2.1 k) (out.2.2.2.2.2.2.1 k) (out.2.2.2.2.2.2.2.1 k) (out.2.2.2.2.2.2.2.2.1 k) (out.2.2.2.2.2.2.2.2.2.1 k) (out.2.2.2.2.2.2.2.2.2.2 k)) ++ (wX9 E p1_o p1_q p1_month p1_power p1_master p1_left p1_kept p1_passed p1_sizes p1_fields p1_liked))) := by
  refine Cn.of (by decide) (Nat.le_of_ble_eq_true rfl) rfl ?_
  intro p e s m below meth c A ls args H locs X hw hl
  have hx := X.1.1
  have hb := X.1.2.1
  have ho := X.1.2.2.2.1
  have hts := X.1.2.2.2.2
  have hl : lv_has ls 3 [(0, .ref t_o), (1, .ref p1_o)] := hl
  unfold f_X5_push at hf
  refine lv_aload_n hx hb dX5_push_0 rfl (lv_at hl 0 rfl) ?_
  refine lv_aload_n hx hb dX5_push_1 rfl (lv_at hl 0 rfl) ?_
  refine k_get (q0 := 0) (ci := 4) (C := RX5) (T := TX5) (N := 3) (x := .int (t_next)) X inx_5 hw rfl rfl 2 (by decide) rfl tw_307 rfl dX5_push_2 ?_
  obtain ⟨r5, hc_5, hf⟩ := bd_some hf
  refine k_V (As := [.int (t_next)]) (rest := []) (index := 22) (C := RX5) X (c_X5_beforeAt hc_5) tw_910 tw_912 tw_27 tw_124 tw_913 ⟨rfl, rfl⟩ hd_X5_beforeAt ⟨Nat.le_of_ble_eq_true rfl, Nat.le_of_ble_eq_true rfl⟩ ⟨Nat.zero_le _, Nat.zero_le _⟩ hw [0, 1] rfl rfl 0 rfl rfl rfl rfl hl.1 rfl (Nat.le_of_ble_eq_true rfl) dX5_push_5 (fun H locs hw => ?_)
  have hw : Wd E A s.heap (wX5 E t_o t_q ((fun j => some (tsbefores_o j))) t_steps t_next ++ (w16 (fun k => wX9 E (tsbefores_o k) (tsbefores_q k) (tsbefores_month k) (tsbefores_power k) (tsbefores_master k) (tsbefores_left k) (tsbefores_kept k) (tsbefores_passed k) (tsbefores_sizes k) (tsbefores_fields k) (tsbefores_liked k)) ++ (wX9 E p1_o p1_q p1_month p1_power p1_master p1_left p1_kept p1_passed p1_sizes p1_fields p1_liked))) H locs := hw
  refine k_astore_nE (ad := tsbefores_o) (x := r5) (lv' := [(2, va_re tsbefores_o (r5)), (0, .ref t_o), (1, .ref p1_o)]) hx hb dX5_push_8 rfl hl (by decide) rfl (fun ls hl => ?_)
  refine k_aload_nE (ad := tsbefores_o) (x := r5) hx hb dX5_push_9 rfl (lv_at hl 0 rfl) ?_
  refine k_ifnullE (ad := tsbefores_o) (x := r5) (tgt := 46) hx hb dX5_push_10 (by decide) (fun c_10 => ?_) (fun c_10 => ?_)
  · have hf := (if_pos c_10).symm.trans hf
    obtain rfl := Option.some.inj hf
    exact k_vret X hw dX5_push_46
  · have hf := (if_neg c_10).symm.trans hf
    refine k_aload_nE (ad := tsbefores_o) (x := r5) hx hb dX5_push_13 rfl (lv_at hl 0 rfl) ?_
    refine lv_aload_n hx hb dX5_push_14 rfl (lv_at hl 2 rfl) ?_
    obtain ⟨k15a, hx_15a, hk_15a, hf⟩ := ex_some hf
    obtain ⟨r15, hc_15, hf⟩ := bd_some hf
    suffices kk : ∀ (H1 : Heap) (locs1 : List Loc), Wd E A s.heap (wX5 E t_o t_q ((fun j => some (tsbefores_o j))) t_steps t_next ++ (w16 (fun k => wX9 E (tsbefores_o k) (tsbefores_q k) ((va_up tsbefores_month k15a (r15.1)) k) ((va_up tsbefores_power k15a (r15.2.1)) k) ((va_up tsbefores_master k15a (r15.2.2.1)) k) ((va_up tsbefores_left k15a (r15.2.2.2.1)) k) ((va_up tsbefores_kept k15a (r15.2.2.2.2.1)) k) ((va_up tsbefores_passed k15a (r15.2.2.2.2.2.1)) k) ((va_up tsbefores_sizes k15a (r15.2.2.2.2.2.2.1)) k) ((va_up tsbefores_fields k15a (r15.2.2.2.2.2.2.2.1)) k) ((va_up tsbefores_liked k15a (r15.2.2.2.2.2.2.2.2)) k)) ++ (wX9 E p1_o p1_q p1_month p1_power p1_master p1_left p1_kept p1_passed p1_sizes p1_fields p1_liked))) H1 locs1 → W p l e rm_X5_push s m args below meth c H1 locs1 0 0 (Zn E below args s A none (wX5 E t_o t_q ((fun j => some (tsbefores_o j))) out.1 out.2.1 ++ (w16 (fun k => wX9 E (tsbefores_o k) (tsbefores_q k) (out.2.2.1 k) (out.2.2.2.1 k) (out.2.2.2.2.1 k) (out.2.2.2.2.2.1 k) (out.2.2.2.2.2.2.1 k) (out.2.2.2.2.2.2.2.1 k) (out.2.2.2.2.2.2.2.2.1 k) (out.2.2.2.2.2.2.2.2.2.1 k) (out.2.2.2.2.2.2.2.2.2.2 k)) ++ (wX9 E p1_o p1_q p1_month p1_power p1_master p1_left p1_kept p1_passed p1_sizes p1_fields p1_liked)))) (F0 m (18) ls []) by
      rw [hx_15a]
      rcases (show k15a = 0 ∨ k15a = 1 ∨ k15a = 2 ∨ k15a = 3 ∨ k15a = 4 ∨ k15a = 5 ∨ k15a = 6 ∨ k15a = 7 ∨ k15a = 8 ∨ k15a = 9 ∨ k15a = 10 ∨ k15a = 11 ∨ k15a = 12 ∨ k15a = 13 ∨ k15a = 14 ∨ k15a = 15 by omega) with rfl | rfl | rfl | rfl | rfl | rfl | rfl | rfl | rfl | rfl | rfl | rfl | rfl | rfl | rfl | rfl
      · skip
        exact k_V (As := [.ref p1_o]) (rest := []) (index := 26) (C := RX9) X (c_X9_copy hc_15) tw_914 tw_915 tw_916 tw_123 tw_917 ⟨rfl, rfl⟩ hd_X9_copy ⟨Nat.le_of_ble_eq_true rfl, Nat.le_of_ble_eq_true rfl⟩ ⟨Nat.zero_le _, Nat.zero_le _⟩ hw [2, 3, 4, 5, 66, 67, 68, 69] rfl rfl 2 rfl rfl rfl rfl hl.1 rfl (Nat.le_of_ble_eq_true rfl) dX5_push_15 (fun H locs hw => kk H locs hw)
      · skip
        exact k_V (As := [.ref p1_o]) (rest := []) (index := 26) (C := RX9) X (c_X9_copy hc_15) tw_914 tw_915 tw_916 tw_123 tw_917 ⟨rfl, rfl⟩ hd_X9_copy ⟨Nat.le_of_ble_eq_true rfl, Nat.le_of_ble_eq_true rfl⟩ ⟨Nat.zero_le _, Nat.zero_le _⟩ hw [6, 7, 8, 9, 66, 67, 68, 69] rfl rfl 6 rfl rfl rfl rfl hl.1 rfl (Nat.le_of_ble_eq_true rfl) dX5_push_15 (fun H locs hw => kk H locs hw)
      · skip
        exact k_V (As := [.ref p1_o]) (rest := []) (index := 26) (C := RX9) X (c_X9_copy hc_15) tw_914 tw_915 tw_916 tw_123 tw_917 ⟨rfl, rfl⟩ hd_X9_copy ⟨Nat.le_of_ble_eq_true rfl, Nat.le_of_ble_eq_true rfl⟩ ⟨Nat.zero_le _, Nat.zero_le _⟩ hw [10, 11, 12, 13, 66, 67, 68, 69] rfl rfl 10 rfl rfl rfl rfl hl.1 rfl (Nat.le_of_ble_eq_true rfl) dX5_push_15 (fun H locs hw => kk H locs hw)
      · skip
        exact k_V (As := [.ref p1_o]) (rest := []) (index := 26) (C := RX9) X (c_X9_copy hc_15) tw_914 tw_915 tw_916 tw_123 tw_917 ⟨rfl, rfl⟩ hd_X9_copy ⟨Nat.le_of_ble_eq_true rfl, Nat.le_of_ble_eq_true rfl⟩ ⟨Nat.zero_le _, Nat.zero_le _⟩ hw [14, 15, 16, 17, 66, 67, 68, 69] rfl rfl 14 rfl rfl rfl rfl hl.1 rfl (Nat.le_of_ble_eq_true rfl) dX5_push_15 (fun H locs hw => kk H locs hw)
      · skip
        exact k_V (As := [.ref p1_o]) (rest := []) (index := 26) (C := RX9) X (c_X9_copy hc_15) tw_914 tw_915 tw_916 tw_123 tw_917 ⟨rfl, rfl⟩ hd_X9_copy ⟨Nat.le_of_ble_eq_true rfl, Nat.le_of_ble_eq_true rfl⟩ ⟨Nat.zero_le _, Nat.zero_le _⟩ hw [18, 19, 20, 21, 66, 67, 68, 69] rfl rfl 18 rfl rfl rfl rfl hl.1 rfl (Nat.le_of_ble_eq_true rfl) dX5_push_15 (fun H locs hw => kk H locs hw)
      · skip
        exact k_V (As := [.ref p1_o]) (rest := []) (index := 26) (C := RX9) X (c_X9_copy hc_15) tw_914 tw_915 tw_916 tw_123 tw_917 ⟨rfl, rfl⟩ hd_X9_copy ⟨Nat.le_of_ble_eq_true rfl, Nat.le_of_ble_eq_true rfl⟩ ⟨Nat.zero_le _, Nat.zero_le _⟩ hw [22, 23, 24, 25, 66, 67, 68, 69] rfl rfl 22 rfl rfl rfl rfl hl.1 rfl (Nat.le_of_ble_eq_true rfl) dX5_push_15 (fun H locs hw => kk H locs hw)
      · skip
        exact k_V (As := [.ref p1_o]) (rest := []) (index := 26) (C := RX9) X (c_X9_copy hc_15) tw_914 tw_915 tw_916 tw_123 tw_917 ⟨rfl, rfl⟩ hd_X9_copy ⟨Nat.le_of_ble_eq_true rfl, Nat.le_of_ble_eq_true rfl⟩ ⟨Nat.zero_le _, Nat.zero_le _⟩ hw [26, 27, 28, 29, 66, 67, 68, 69] rfl rfl 26 rfl rfl rfl rfl hl.1 rfl (Nat.le_of_ble_eq_true rfl) dX5_push_15 (fun H locs hw => kk H locs hw)
      · skip
        exact k_V (As := [.ref p1_o]) (rest := []) (index := 26) (C := RX9) X (c_X9_copy hc_15) tw_914 tw_915 tw_916 tw_123 tw_917 ⟨rfl, rfl⟩ hd_X9_copy ⟨Nat.le_of_ble_eq_true rfl, Nat.le_of_ble_eq_true rfl⟩ ⟨Nat.zero_le _, Nat.zero_le _⟩ hw [30, 31, 32, 33, 66, 67, 68, 69] rfl rfl 30 rfl rfl rfl rfl hl.1 rfl (Nat.le_of_ble_eq_true rfl) dX5_push_15 (fun H locs hw => kk H locs hw)
      · skip
        exact k_V (As := [.ref p1_o]) (rest := []) (index := 26) (C := RX9) X (c_X9_copy hc_15) tw_914 tw_915 tw_916 tw_123 tw_917 ⟨rfl, rfl⟩ hd_X9_copy ⟨Nat.le_of_ble_eq_true rfl, Nat.le_of_ble_eq_true rfl⟩ ⟨Nat.zero_le _, Nat.zero_le _⟩ hw [34, 35, 36, 37, 66, 67, 68, 69] rfl rfl 34 rfl rfl rfl rfl hl.1 rfl (Nat.le_of_ble_eq_true rfl) dX5_push_15 (fun H locs hw => kk H locs hw)
      · skip
        exact k_V (As := [.ref p1_o]) (rest := []) (index := 26) (C := RX9) X (c_X9_copy hc_15) tw_914 tw_915 tw_916 tw_123 tw_917 ⟨rfl, rfl⟩ hd_X9_copy ⟨Nat.le_of_ble_eq_true rfl, Nat.le_of_ble_eq_true rfl⟩ ⟨Nat.zero_le _, Nat.zero_le _⟩ hw [38, 39, 40, 41, 66, 67, 68, 69] rfl rfl 38 rfl rfl rfl rfl hl.1 rfl (Nat.le_of_ble_eq_true rfl) dX5_push_15 (fun H locs hw => kk H locs hw)
      · skip
        exact k_V (As := [.ref p1_o]) (rest := []) (index := 26) (C := RX9) X (c_X9_copy hc_15) tw_914 tw_915 tw_916 tw_123 tw_917 ⟨rfl, rfl⟩ hd_X9_copy ⟨Nat.le_of_ble_eq_true rfl, Nat.le_of_ble_eq_true rfl⟩ ⟨Nat.zero_le _, Nat.zero_le _⟩ hw [42, 43, 44, 45, 66, 67, 68, 69] rfl rfl 42 rfl rfl rfl rfl hl.1 rfl (Nat.le_of_ble_eq_true rfl) dX5_push_15 (fun H locs hw => kk H locs hw)
      · skip
        exact k_V (As := [.ref p1_o]) (rest := []) (index := 26) (C := RX9) X (c_X9_copy hc_15) tw_914 tw_915 tw_916 tw_123 tw_917 ⟨rfl, rfl⟩ hd_X9_copy ⟨Nat.le_of_ble_eq_true rfl, Nat.le_of_ble_eq_true rfl⟩ ⟨Nat.zero_le _, Nat.zero_le _⟩ hw [46, 47, 48, 49, 66, 67, 68, 69] rfl rfl 46 rfl rfl rfl rfl hl.1 rfl (Nat.le_of_ble_eq_true rfl) dX5_push_15 (fun H locs hw => kk H locs hw)
      · skip
        exact k_V (As := [.ref p1_o]) (rest := []) (index := 26) (C := RX9) X (c_X9_copy hc_15) tw_914 tw_915 tw_916 tw_123 tw_917 ⟨rfl, rfl⟩ hd_X9_copy ⟨Nat.le_of_ble_eq_true rfl, Nat.le_of_ble_eq_true rfl⟩ ⟨Nat.zero_le _, Nat.zero_le _⟩ hw [50, 51, 52, 53, 66, 67, 68, 69] rfl rfl 50 rfl rfl rfl rfl hl.1 rfl (Nat.le_of_ble_eq_true rfl) dX5_push_15 (fun H locs hw => kk H locs hw)
      · skip
        exact k_V (As := [.ref p1_o]) (rest := []) (index := 26) (C := RX9) X (c_X9_copy hc_15) tw_914 tw_915 tw_916 tw_123 tw_917 ⟨rfl, rfl⟩ hd_X9_copy ⟨Nat.le_of_ble_eq_true rfl, Nat.le_of_ble_eq_true rfl⟩ ⟨Nat.zero_le _, Nat.zero_le _⟩ hw [54, 55, 56, 57, 66, 67, 68, 69] rfl rfl 54 rfl rfl rfl rfl hl.1 rfl (Nat.le_of_ble_eq_true rfl) dX5_push_15 (fun H locs hw => kk H locs hw)
      · skip
        exact k_V (As := [.ref p1_o]) (rest := []) (index := 26) (C := RX9) X (c_X9_copy hc_15) tw_914 tw_915 tw_916 tw_123 tw_917 ⟨rfl, rfl⟩ hd_X9_copy ⟨Nat.le_of_ble_eq_true rfl, Nat.le_of_ble_eq_true rfl⟩ ⟨Nat.zero_le _, Nat.zero_le _⟩ hw [58, 59, 60, 61, 66, 67, 68, 69] rfl rfl 58 rfl rfl rfl rfl hl.1 rfl (Nat.le_of_ble_eq_true rfl) dX5_push_15 (fun H locs hw => kk H locs hw)
      · skip
        exact k_V (As := [.ref p1_o]) (rest := []) (index := 26) (C := RX9) X (c_X9_copy hc_15) tw_914 tw_915 tw_916 tw_123 tw_917 ⟨rfl, rfl⟩ hd_X9_copy ⟨Nat.le_of_ble_eq_true rfl, Nat.le_of_ble_eq_true rfl⟩ ⟨Nat.zero_le _, Nat.zero_le _⟩ hw [62, 63, 64, 65, 66, 67, 68, 69] rfl rfl 62 rfl rfl rfl rfl hl.1 rfl (Nat.le_of_ble_eq_true rfl) dX5_push_15 (fun H locs hw => kk H locs hw)
    intro H locs hw
    refine lv_aload_n hx hb dX5_push_18 rfl (lv_at hl 1 rfl) ?_
    refine lv_aload_n hx hb dX5_push_19 rfl (lv_at hl 1 rfl) ?_
    refine k_get (q0 := 0) (ci := 4) (C := RX5) (T := TX5) (N := 3) (x := .int (t_next)) X inx_5 hw rfl rfl 2 (by decide) rfl tw_307 rfl dX5_push_20 ?_
    refine lv_iconst (v := (1 : Int32)) hx hb dX5_push_23 (by decide) ?_
    refine lv_iadd hx hb dX5_push_24 ?_
    refine lv_bipush (v := (16 : Int32)) hx hb dX5_push_25 (by decide) ?_
    refine lv_irem hx hb dX5_push_27 (by decide) ?_
    refine k_put (q0 := 0) (ci := 4) (C := RX5) (T := TX5) (N := 3) (ty0 := tyX5) (x := .int (((t_next + (1 : Int32)) - (t_next + (1 : Int32)) / (16 : Int32) * (16 : Int32)))) X inx_5 tyX5_ok nmX5 hw rfl rfl 2 (by decide) rfl rfl tw_307 rfl rfl (Nat.le_of_ble_eq_true rfl) dX5_push_28 (fun H locs hw => ?_)
    have hw : Wd E A s.heap (wX5 E t_o t_q ((fun j => some (tsbefores_o j))) t_steps (((t_next + (1 : Int32)) - (t_next + (1 : Int32)) / (16 : Int32) * (16 : Int32))) ++ (w16 (fun k => wX9 E (tsbefores_o k) (tsbefores_q k) ((va_up tsbefores_month k15a (r15.1)) k) ((va_up tsbefores_power k15a (r15.2.1)) k) ((va_up tsbefores_master k15a (r15.2.2.1)) k) ((va_up tsbefores_left k15a (r15.2.2.2.1)) k) ((va_up tsbefores_kept k15a (r15.2.2.2.2.1)) k) ((va_up tsbefores_passed k15a (r15.2.2.2.2.2.1)) k) ((va_up tsbefores_sizes k15a (r15.2.2.2.2.2.2.1)) k) ((va_up tsbefores_fields k15a (r15.2.2.2.2.2.2.2.1)) k) ((va_up tsbefores_liked k15a (r15.2.2.2.2.2.2.2.2)) k)) ++ (wX9 E p1_o p1_q p1_month p1_power p1_master p1_left p1_kept p1_passed p1_sizes p1_fields p1_liked))) H locs := hw
    refine lv_aload_n hx hb dX5_push_31 rfl (lv_at hl 1 rfl) ?_
    refine lv_bipush (v := (16 : Int32)) hx hb dX5_push_32 (by decide) ?_
    refine lv_aload_n hx hb dX5_push_34 rfl (lv_at hl 1 rfl) ?_
    refine k_get (q0 := 0) (ci := 4) (C := RX5) (T := TX5) (N := 3) (x := .int (t_steps)) X inx_5 hw rfl rfl 1 (by decide) rfl tw_305 rfl dX5_push_35 ?_
    refine lv_iconst (v := (1 : Int32)) hx hb dX5_push_38 (by decide) ?_
    refine lv_iadd hx hb dX5_push_39 ?_
    refine k_min (index := 33) X tw_921 tw_922 tw_135 tw_923 (Nat.le_of_ble_eq_true rfl) (Nat.le_of_ble_eq_true rfl) ⟨Nat.zero_le _, Nat.zero_le _⟩ hl.1 dX5_push_40 ?_
    refine k_put (q0 := 0) (ci := 4) (C := RX5) (T := TX5) (N := 3) (ty0 := tyX5) (x := .int ((imin (16 : Int32) (t_steps + (1 : Int32))))) X inx_5 tyX5_ok nmX5 hw rfl rfl 1 (by decide) rfl rfl tw_305 rfl rfl (Nat.le_of_ble_eq_true rfl) dX5_push_43 (fun H locs hw => ?_)
    have hw : Wd E A s.heap (wX5 E t_o t_q ((fun j => some (tsbefores_o j))) ((imin (16 : Int32) (t_steps + (1 : Int32)))) (((t_next + (1 : Int32)) - (t_next + (1 : Int32)) / (16 : Int32) * (16 : Int32))) ++ (w16 (fun k => wX9 E (tsbefores_o k) (tsbefores_q k) ((va_up tsbefores_month k15a (r15.1)) k) ((va_up tsbefores_power k15a (r15.2.1)) k) ((va_up tsbefores_master k15a (r15.2.2.1)) k) ((va_up tsbefores_left k15a (r15.2.2.2.1)) k) ((va_up tsbefores_kept k15a (r15.2.2.2.2.1)) k) ((va_up tsbefores_passed k15a (r15.2.2.2.2.2.1)) k) ((va_up tsbefores_sizes k15a (r15.2.2.2.2.2.2.1)) k) ((va_up tsbefores_fields k15a (r15.2.2.2.2.2.2.2.1)) k) ((va_up tsbefores_liked k15a (r15.2.2.2.2.2.2.2.2)) k)) ++ (wX9 E p1_o p1_q p1_month p1_power p1_master p1_left p1_kept p1_passed p1_sizes p1_fields p1_liked))) H locs := hw
    obtain rfl := Option.some.inj hf
    exact k_vret X hw dX5_push_46
