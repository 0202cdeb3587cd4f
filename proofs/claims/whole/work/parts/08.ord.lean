theorem setAt_nil : ∀ (ws : va_W) (k : Nat), setAt k ws [] [] = ws := by
  intro ws
  induction ws with
  | nil => intro k; rfl
  | cons w ws ih => intro k; show w :: setAt (k + 1) ws [] [] = w :: ws; rw [ih]
abbrev RX18 : String := "java/lang/Enum"
abbrev cX18_ordinal : ByteArray := prog_18_method_2_code
def yX18_ordinal : MethodName := ⟨RX18, "ordinal", "()I"⟩
def xX11_ordinal : MethodName := ⟨RX11, "ordinal", "()I"⟩
theorem dX18_ordinal_0 : decode cX18_ordinal 0 = .ok (.aload_n 0, 1) := by decide +kernel
theorem dX18_ordinal_1 : decode cX18_ordinal 1 = .ok (.getfield 7, 3) := by decide +kernel
theorem dX18_ordinal_4 : decode cX18_ordinal 4 = .ok (.ireturn, 1) := by decide +kernel
abbrev rm_ord : Room := { frames := 0, cells := 0, slots := 0, locals := 0 }
theorem tw_same : Cond.sameMethod RX11 RX18 "ordinal" "()I" ∈ lwg := lm2 (ltb_3 (List.mem_of_getElem? (i := 26) (by decide +kernel))) rfl
theorem ord_get : ∀ i, i < 32 → ((List.range 32).map Int32.ofNat).getD i 0 = Int32.ofNat i := by decide +kernel
theorem c_ord {E : En} {l : Launch} {i : Nat} (hi : i < 32) : Cn E l yX18_ordinal cX18_ordinal 1 (some .int) rm_ord [.ref (E.2.2 i)] [] (some (.int (Int32.ofNat i))) [] := by
  refine Cn.of (by decide) (Nat.le_of_ble_eq_true rfl) rfl ?_
  intro p e s m below meth c A ls args H locs X hw hl
  refine lv_aload_n X.1.1 X.1.2.1 dX18_ordinal_0 rfl (lv_at hl 0 rfl) ?_
  refine va_getE (ref := RX18) (q := ("java/lang/Enum", "ordinal", "I", (List.range 32).map Int32.ofNat)) X.1.1 X.1.2.1 X.2.2.2.2.1 hi hw.2.2.1 X.1.2.2.2.1 (by simp [eF]) (X.1.2.2.2.2 _ tw_2061) (fun _ h => h) dX18_ordinal_1 ?_
  rw [ord_get i hi]
  exact k_iret X hw dX18_ordinal_4
theorem k_ord {E : En} {p : Program} {l : Launch} {e : Env} {R : Room} {s : State} {m : MethodId} {args : Array Value} {below : List Frame} {meth : Method} {c : Code} {H : Heap} {locs : List Loc} {Q : State → Prop} {A : Nat → Prop} {ws : va_W} {pc : Nat} {ls : Array Slot} {rest : List Value} {cc : ByteArray} {nL index i : Nat} {own : String} {ret : Option FieldType} {x : Option Nat} (X : Bx E A p s m args meth c cc nL own ret) (hw : Wd E A s.heap ws H locs) (hxi : x = some i) (hi : i < 32) (hlink : Cond.methodLink own index xX11_ordinal ∈ lwg) (hfr : 1 ≤ R.frames) (hlo : 21 ≤ R.locals) (hls : ls.size = nL) (hrest : (rest.map fun v => v.category).sum ≤ 8) (hdg : decode cc pc = .ok (.invokevirtual index, 3))
    (kk : ∀ (H1 : Heap) (locs1 : List Loc), Wd E A s.heap ws H1 locs1 → W p l e R s m args below meth c H1 locs1 0 0 Q (F0 m (pc + 3) ls (.int (Int32.ofNat i) :: rest))) : W p l e R s m args below meth c H locs 0 0 Q (F0 m pc ls (va_re E.2.2 x :: rest)) := by
  subst hxi
  have hG : GoodIn lwg (va_wsU own index RX11 RX18 xX11_ordinal yX18_ordinal (wsU yX18_ordinal cX18_ordinal 1 (some .int))) := by
    intro w hw
    rcases List.mem_append.mp hw with hw | hw
    · simp only [List.mem_cons, List.not_mem_nil, or_false] at hw
      rcases hw with rfl | rfl | rfl | rfl | rfl
      · exact lwg_good hlink
      · exact lwg_good tw_same
      · exact lwg_good tw_626
      · exact lwg_good tw_627
      · exact lwg_good tw_131
    · exact gdU tw_628 w hw
  refine k_call (Wc := []) (Wc' := []) (v := some (.int (Int32.ofNat i))) (rest := rest) (va_runU (C := RX11) (owner := RX18) (x := xX11_ordinal) (b := E.2.2 i) (As := []) (rest := rest) X.1 ((c_ord hi).2 H.size) (va_cwU 0 X.1.2.2.2.2 hG rfl rfl rfl rfl (by decide +kernel) ⟨hfr, Nat.le_trans (by decide) hlo⟩) ⟨blind_Pst, ?_, fun U hU hW => k_pre X.2.2.1 X.2.2.2.2 hw [] rfl rfl hU hW⟩ rfl rfl hls rfl (lv_room hrest) hdg ⟨Nat.zero_le _, Nat.zero_le _⟩) hw [] rfl rfl (fun H1 locs1 hw1 => kk H1 locs1 (by rw [show setPl ws [] [] = ws from setAt_nil ws 0] at hw1; exact hw1))
  exact va_recvE X.2.2.2.2.1 hi hw.2.2.1
section KSX
variable {E : En} {p : Program} {l : Launch} {e : Env} {R : Room} {s : State} {m : MethodId} {args : Array Value} {below : List Frame} {meth : Method} {c : Code} {H : Heap} {locs : List Loc} {cells slots : Nat} {Q : State → Prop}
variable {A : Nat → Prop} {ws Wc Wc' : va_W} {v : Option Value} {pc : Nat} {ls : Array Slot} {rest st0 As : List Value} {cc bytes : ByteArray} {nL maxL index n : Nat} {own : String} {ret ret' : Option FieldType} {y : MethodName} {rm : Room}
theorem gdSX {b : ByteArray} {r : Option FieldType} {n9 idx : Nat} (h1 : Cond.methodLink own idx y ∈ lwg) (h2 : Cond.static y ∈ lwg) (h4 : Cond.initialized y.cls ∈ lwg) (h5 : Cond.code y b n9 r ∈ lwg) : GoodIn lwg (va_wsS own idx y (wsU y b n9 r)) := fun w hw => by
  rcases List.mem_append.mp hw with hw | hw
  · simp only [List.mem_cons, List.not_mem_nil, or_false] at hw
    rcases hw with rfl | rfl | rfl
    · exact lwg_good h1
    · exact lwg_good h2
    · exact lwg_good h4
  · exact gdU h5 w hw
theorem k_SX (X : Bx E A p s m args meth c cc nL own ret) (hC : Cn E l y bytes maxL ret' rm As Wc v Wc') (h1 : Cond.methodLink own index y ∈ lwg) (h2 : Cond.static y ∈ lwg) (h4 : Cond.initialized y.cls ∈ lwg) (h5 : Cond.code y bytes maxL ret' ∈ lwg) (hrm : rm.cells = 0 ∧ rm.slots = 0) (hd : y.cls ≠ "java/lang/invoke/MethodHandle" ∧ y.cls ≠ "java/lang/invoke/VarHandle" ∧ (parseMethodDescriptor y.desc).map (fun d => d.parameters.length) = some n) (hR : rm.frames + 1 ≤ R.frames ∧ 8 + (maxL + 11) + rm.locals ≤ R.locals) (hf : cells ≤ R.cells ∧ slots ≤ R.slots)
    (hw : Wd E A s.heap ws H locs) (pl : List Nat) (hnd : va_nd pl = true) (hsub : pl.map (fun i => ws[i]?) = Wc.map some) (hn : As.length = n) (hls : ls.size = nL) (hst : st0 = As.reverse ++ rest) (hrest : (rest.map fun v => v.category).sum ≤ 8) (hdg : decode cc pc = .ok (.invokestatic index, 3))
    (kk : ∀ (H1 : Heap) (locs1 : List Loc), Wd E A s.heap (setPl ws pl Wc') H1 locs1 → W p l e R s m args below meth c H1 locs1 cells slots Q (F0 m (pc + 3) ls (v.toList ++ rest))) : W p l e R s m args below meth c H locs cells slots Q (F0 m pc ls st0) :=
  k_call (va_runS (As := As) (rest := rest) X.1 (hC.2 H.size) (va_cwS n X.1.2.2.2.2 (gdSX h1 h2 h4 h5) rfl hrm.1 hrm.2 hd hR) ⟨blind_Pst, fun U hU hW => k_pre X.2.2.1 X.2.2.2.2 hw pl hnd hsub hU hW⟩ rfl hn hls hst (lv_room hrest) hdg ⟨by simpa using hf.1, by simpa using hf.2⟩) hw pl hsub hC.1 kk
end KSX
theorem k_astoreE {p : Program} {l : Launch} {e : Env} {R : Room} {s : State} {m : MethodId} {args : Array Value} {below : List Frame} {meth : Method} {c : Code} {H : Heap} {locs : List Loc} {cells slots : Nat} {Q : State → Prop} {pc nL : Nat} {ls : Array Slot} {rest : List Value} {cc : ByteArray} {ad : Nat → Nat} {x : Option Nat} {i : Nat} {lv lv' : List (Nat × Value)} (hx : p.tables.exec = Jvm.exec) (hb : c.code = cc) (hdg : decode cc pc = .ok (.astore i, 2)) (h : lv_has ls nL lv) (hn : i < nL) (hl : (i, va_re ad x) :: lv.filter (fun q => !(q.1 == i) && !(q.1 + 1 == i && q.2.category == 2)) = lv')
    (kk : ∀ ls' : Array Slot, lv_has ls' nL lv' → W p l e R s m args below meth c H locs cells slots Q (F0 m (pc + 2) ls' rest)) : W p l e R s m args below meth c H locs cells slots Q (F0 m pc ls (va_re ad x :: rest)) := by
  cases x with
  | none => exact lv_astoreN hx hb hdg h hn hl kk
  | some a => exact lv_astore hx hb hdg h hn hl kk
