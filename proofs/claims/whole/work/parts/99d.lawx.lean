/-! the law's calls of its wrappers -/
theorem cw_chance : Cond.codeWith yL_chance cL_chance 7 (some .int) [(0, 14, 17, 13)] ∈ lwg := lm2 (ltb_5 (List.mem_of_getElem? (i := 181) (by decide +kernel))) rfl
theorem cw_rests : Cond.codeWith yL_rests cL_rests 7 (some .int) [(0, 14, 17, 13)] ∈ lwg := lm2 (ltb_6 (List.mem_of_getElem? (i := 32) (by decide +kernel))) rfl
theorem hd_Lchance : yL_chance.cls ≠ "java/lang/invoke/MethodHandle" ∧ yL_chance.cls ≠ "java/lang/invoke/VarHandle" ∧ (parseMethodDescriptor yL_chance.desc).map (fun d => d.parameters.length) = some 6 := by decide +kernel
theorem hd_Lrests : yL_rests.cls ≠ "java/lang/invoke/MethodHandle" ∧ yL_rests.cls ≠ "java/lang/invoke/VarHandle" ∧ (parseMethodDescriptor yL_rests.desc).map (fun d => d.parameters.length) = some 6 := by decide +kernel
theorem gdSW {own : String} {idx : Nat} {y : MethodName} {b : ByteArray} {n : Nat} {r : Option FieldType} {hh : List (Nat × Nat × Nat × Nat)} (h1 : Cond.methodLink own idx y ∈ lwg) (h2 : Cond.static y ∈ lwg) (h4 : Cond.initialized y.cls ∈ lwg) (h5 : Cond.codeWith y b n r hh ∈ lwg) : GoodIn lwg (va_wsS own idx y (Cond.codeWith y b n r hh :: lwg)) := fun w hw => by
  rcases List.mem_append.mp hw with hw | hw
  · simp only [List.mem_cons, List.not_mem_nil, or_false] at hw
    rcases hw with rfl | rfl | rfl
    · exact lwg_good h1
    · exact lwg_good h2
    · exact lwg_good h4
  · rcases List.mem_cons.mp hw with rfl | hw
    · exact lwg_good h5
    · exact lwg_good hw
section
variable {E : En} {p : Program} {l : Launch} {e : Env} {R : Room} {s : State} {m : MethodId} {args : Array Value} {below : List Frame} {meth : Method} {c : Code} {H : Heap} {locs : List Loc} {cells slots : Nat} {Q : State → Prop}
variable {A : Nat → Prop} {H0 : Heap} {ws Wc Wc' : va_W} {v : Option Value} {pc : Nat} {ls : Array Slot} {rest st0 As : List Value} {cc bytes : ByteArray} {nL maxL index n mc ms : Nat} {own : String} {ret ret' : Option FieldType} {y : MethodName} {rm : Room} {sa : Nat → Nat} {hh : List (Nat × Nat × Nat × Nat)} {a : Array Value}
theorem k_callM (hr : va_Run p l e R s m args below meth c H locs cells slots mc ms (F0 m pc ls st0) rest (Qg E v Wc' (va_A Wc H.size) a) (va_A Wc H.size)) (hw : Wd E A H0 ws H locs) (pl : List Nat) (hsub : pl.map (fun i => ws[i]?) = Wc.map some) (had : Wc'.map Prod.fst = Wc.map Prod.fst)
    (kk : ∀ (H1 : Heap) (locs1 : List Loc), Wd E A H0 (setPl ws pl Wc') H1 locs1 → W p l e R s m args below meth c H1 locs1 (cells + mc) (slots + ms) Q (F0 m (pc + 3) ls (v.toList ++ rest))) : W p l e R s m args below meth c H locs cells slots Q (F0 m pc ls st0) := by
  intro T hT X
  obtain ⟨hP, hD, hS, hA⟩ := hw
  obtain ⟨v9, st₀, t, T', L, h0, X', hL, e1, e2, ⟨⟨hv, hP1⟩, hz, hk⟩, st⟩ := hr T hT X
  obtain rfl : v9 = v := by injection hv
  rw [h0] at hz hk
  have hF : ∀ q, va_A Wc H.size q → A q := va_free hD hS hA pl hsub
  have hj := wd_join (H1 := T'.heap) hP hD pl hsub had (fun q h1 h2 => by rw [e1]; exact hk q h1 h2) (by rw [e1]; exact hP1)
  obtain ⟨t2, a1, b1⟩ := kk T'.heap (locs ++ L) ⟨hj.1, hj.2, ⟨Nat.le_trans hS.1 (by rw [e1]; exact hz), fun q h1 h2 => by rw [e1, hk q (Nat.lt_of_lt_of_le h1 hS.1) (fun z => h2 (hF q z))]; exact hS.2.1 q h1 h2, fun q hq => by
      rcases List.mem_append.mp hq with h | h
      · exact hS.2.2 q h
      · exact hF _ (hL q h)⟩, hA⟩ T' rfl X'
  exact ⟨t2, st t2 a1, b1⟩
theorem k_SW (X : Bx E A p s m args meth c cc nL own ret) (hC : CnW E l y bytes maxL ret' hh rm As Wc v Wc') (h1 : Cond.methodLink own index y ∈ lwg) (h2 : Cond.static y ∈ lwg) (h4 : Cond.initialized y.cls ∈ lwg) (h5 : Cond.codeWith y bytes maxL ret' hh ∈ lwg) (hrm : rm.cells = 0 ∧ rm.slots = 0) (hd : y.cls ≠ "java/lang/invoke/MethodHandle" ∧ y.cls ≠ "java/lang/invoke/VarHandle" ∧ (parseMethodDescriptor y.desc).map (fun d => d.parameters.length) = some n) (hR : rm.frames + 1 ≤ R.frames ∧ 8 + (maxL + 11) + rm.locals ≤ R.locals) (hf : cells ≤ R.cells ∧ slots ≤ R.slots)
    (hw : Wd E A s.heap ws H locs) (pl : List Nat) (hnd : va_nd pl = true) (hsub : pl.map (fun i => ws[i]?) = Wc.map some) (hn : As.length = n) (hls : ls.size = nL) (hst : st0 = As.reverse ++ rest) (hrest : (rest.map fun v => v.category).sum ≤ 8) (hdg : decode cc pc = .ok (.invokestatic index, 3))
    (kk : ∀ (H1 : Heap) (locs1 : List Loc), Wd E A s.heap (setPl ws pl Wc') H1 locs1 → W p l e R s m args below meth c H1 locs1 cells slots Q (F0 m (pc + 3) ls (v.toList ++ rest))) : W p l e R s m args below meth c H locs cells slots Q (F0 m pc ls st0) :=
  k_call (vx_runSW (As := As) (rest := rest) X.1 (hC.2 H.size) (vx_cwSW n X.1.2.2.2.2 (gdSW h1 h2 h4 h5) rfl hrm.1 hrm.2 hd hR) ⟨blind_Pst, fun U hU hW => k_pre X.2.2.1 X.2.2.2.2 hw pl hnd hsub hU hW⟩ rfl hn hls hst (lv_room hrest) hdg ⟨by simpa using hf.1, by simpa using hf.2⟩) hw pl hsub hC.1 kk
theorem k_SWT (X : Bx E A p s m args meth c cc nL own ret) (hv : Xv sa s) (hc : Xc A s s.heap) (hC : CtW E l y bytes maxL hh rm As Wc sa) (h1 : Cond.methodLink own index y ∈ lwg) (h2 : Cond.static y ∈ lwg) (h4 : Cond.initialized y.cls ∈ lwg) (h5 : Cond.codeWith y bytes maxL (some .int) hh ∈ lwg) (hrm : rm.cells = 1 ∧ rm.slots = 6) (hd : y.cls ≠ "java/lang/invoke/MethodHandle" ∧ y.cls ≠ "java/lang/invoke/VarHandle" ∧ (parseMethodDescriptor y.desc).map (fun d => d.parameters.length) = some n) (hR : rm.frames + 1 ≤ R.frames ∧ 8 + (maxL + 11) + rm.locals ≤ R.locals) (hf : cells + 1 ≤ R.cells ∧ slots + 6 ≤ R.slots)
    (hw : Wd E A s.heap ws H locs) (pl : List Nat) (hnd : va_nd pl = true) (hsub : pl.map (fun i => ws[i]?) = Wc.map some) (hn : As.length = n) (hls : ls.size = nL) (hst : st0 = As.reverse ++ rest) (hrest : (rest.map fun v => v.category).sum ≤ 8) (hdg : decode cc pc = .ok (.invokestatic index, 3))
    (kk : ∀ (H1 : Heap) (locs1 : List Loc), Wd E A s.heap (setPl ws pl Wc) H1 locs1 → W p l e R s m args below meth c H1 locs1 (cells + 1) (slots + 6) Q (F0 m (pc + 3) ls (.int 1 :: rest))) : W p l e R s m args below meth c H locs cells slots Q (F0 m pc ls st0) :=
  k_callM (vx_runSW (As := As) (rest := rest) X.1 (hC H.size) (vx_cwSW n X.1.2.2.2.2 (gdSW h1 h2 h4 h5) rfl hrm.1 hrm.2 hd hR) ⟨blind_PsX, fun U hU hW => k_preX X.2.2.1 X.2.2.2.2 hv hc hw pl hnd hsub hU hW⟩ rfl hn hls hst (lv_room hrest) hdg hf) hw pl hsub rfl kk
end
