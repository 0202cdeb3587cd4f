/-! what a throw needs, and a method that throws -/
def nse : String := "java/util/NoSuchElementException"
def xnm : List String := ["java/lang/RuntimeException", "java/lang/Exception"]
def xwB : List Cond := (vx_atS RX12 264 nse xnm).filter (fun w => !goodWord w)
def x_one : Cond → Bool := fun w => match w with
  | .declares _ => true
  | .castable _ _ => true
  | _ => false
theorem xwB_all : ∀ w ∈ xwB, x_one w = true := by decide +kernel
theorem xwG : ∀ w ∈ (vx_atS RX12 264 nse xnm).filter goodWord, w ∈ lw_tbl := by decide +kernel
theorem xwO : ∀ w ∈ Cond.classLink RX12 260 nse :: Cond.initialized nse :: vx_atS RX12 264 nse xnm, vx_ot w = true := by decide +kernel
theorem xw_cast : Cond.castable nse nse ∈ xwB := by decide +kernel
def Xw (U : State) : Prop := ∀ w ∈ xwB, va_Nw w U
theorem Xw.warm {s U : State} (hW : s.WarmedH U.vm) (h : Xw s) : Xw U := by
  intro w hw
  have h1 : x_one w = true := xwB_all w hw
  have h2 := h w hw
  cases w <;> first | exact va_Nw.warmD hW h2 | exact va_Nw.warmC hW h2 | exact absurd h1 (by simp [x_one])
theorem Xw.same {s U : State} (hv : s.vm = U.vm) (h : Xw s) : Xw U := by
  intro w hw
  have h1 : x_one w = true := xwB_all w hw
  have h2 := h w hw
  cases w <;> first | exact va_Nw.same rfl hv h2 | exact absurd h1 (by simp [x_one])
def Xv (sa : Nat → Nat) (U : State) : Prop := Xw U ∧ vk_R RX12 262 "no such man or danger" (sa 0) U ∧ vk_R RX12 267 "no such odds or months" (sa 1) U ∧ vk_R RX12 295 "nobody gets that" (sa 2) U ∧ vk_R RX12 301 "no such rest" (sa 3) U
theorem Xv.warm {sa : Nat → Nat} {s U : State} (hW : s.WarmedH U.vm) (h : Xv sa s) : Xv sa U := ⟨h.1.warm hW, vk_R.warm hW h.2.1, vk_R.warm hW h.2.2.1, vk_R.warm hW h.2.2.2.1, vk_R.warm hW h.2.2.2.2⟩
theorem Xv.same {sa : Nat → Nat} {s U : State} (hv : U.vm = s.vm) (h : Xv sa s) : Xv sa U := ⟨h.1.same hv.symm, vk_R.same hv h.2.1, vk_R.same hv h.2.2.1, vk_R.same hv h.2.2.2.1, vk_R.same hv h.2.2.2.2⟩
def Xc (A : Nat → Prop) (U : State) (H : Heap) : Prop := vx_Zq Bundle.tN "UNASSIGNED_STACK" Bundle.steD A U H ∧ vx_Zq Bundle.tN "SUPPRESSED_SENTINEL" Bundle.listD A U H
theorem Xc.pass {A B : Nat → Prop} {s U : State} {H H' : Heap} (hvm : s.vm.Alike U.vm) (hq : ∀ a : Nat, a < H.size → ¬ A a → H'[a]? = H[a]?) (hAB : ∀ q, B q → A q) (h : Xc A s H) : Xc B U H' :=
  ⟨(vx_Zq.moved hvm (h.1.kept hq)).narrow hAB, (vx_Zq.moved hvm (h.2.kept hq)).narrow hAB⟩
/-- what is so where it has thrown -/
def Xt (E : En) (A : Nat → Prop) (ws : va_W) : String → State → State → Prop := vx_X (S := Unit) (fun _ => True) (fun E9 _ t => E9 = nse ∧ va_P E.1 vwCl ws t.heap) A
section
variable {E : En} {p : Program} {l : Launch} {e : Env} {R : Room} {s : State} {m : MethodId} {args : Array Value} {below : List Frame} {meth : Method} {c : Code} {H : Heap} {locs : List Loc}
variable {A : Nat → Prop} {ws : va_W} {pc : Nat} {ls : Array Slot} {rest : List Value} {cc : ByteArray} {nL : Nat} {ret : Option FieldType} {sa : Nat → Nat}
theorem k_throw {Qc : Array Value → State → Outcome → State → Prop} {is a : Nat} {tx : String} (X : Bx E A p s m args meth c cc nL RX12 ret) (hlt : l.stackTraces = false) (hv : Xw s) (hstr : vk_R RX12 is tx a s) (hc : Xc A s s.heap) (hout : ∀ x ∈ c.exceptionTable.toList, False) (hw : Wd E A s.heap ws H locs) (hls : ls.size = nL) (hR : 5 < R.frames ∧ (rest.map fun v => v.category).sum + 82 ≤ R.locals ∧ 1 ≤ R.cells ∧ 6 ≤ R.slots)
    (d0 : decode cc pc = .ok (.new 260, 3)) (d3 : decode cc (pc + 3) = .ok (.dup, 1)) (d4 : decode cc (pc + 4) = .ok (.ldc_w is, 3)) (d7 : decode cc (pc + 7) = .ok (.invokespecial 264, 3)) (d10 : decode cc (pc + 10) = .ok (.athrow, 1)) :
    W p l e R s m args below meth c H locs 0 0 (vx_MQ below Qc (Xt E A ws) args s 1 6 A) (F0 m pc ls rest) := by
  have hts := X.1.2.2.2.2
  refine vx_throwSW X.1.1 X.1.2.1 hlt (own := RX12) (cls := nse) (names := xnm) (ik := 260) (ic := 264) X.1.2.2.2.1 (by decide +kernel) (by decide +kernel) (hts _ tw_1265) (hts _ tw_139) hstr (vx_hat (B := xwB) (fun w hw => hts _ (lm2 (xwG w hw) (List.mem_filter.mp hw).2)) (fun w h => h) (fun w hw => va_Nw.use (by have h1 : x_one w = true := xwB_all w hw; cases w <;> first | rfl | exact absurd h1 (by simp [x_one])) (hv w hw))) xwO hc.1 hc.2 hw.2.2.1 (hls.trans X.1.2.2.1.symm) d0 d3 d4 d7 d10 (fun x hx => (hout x hx).elim) hR.1 hR.2.1 (by simpa using hR.2.2.1) (by simpa using hR.2.2.2) X.2.2.2.1 (fun t _ hz hk => ⟨(), trivial, ⟨rfl, hw.1.kept (fun k q hq => hk q.1 (hw.1 k q hq).lt)⟩, Nat.le_trans hw.2.2.1.1 hz, fun q h1 h2 => (hk q (Nat.lt_of_lt_of_le h1 hw.2.2.1.1)).trans (hw.2.2.1.2.1 q h1 h2)⟩) hw.2.2.1.2.2 (by decide) (by decide)
end
def PsX (E : En) (W : va_W) (sa : Nat → Nat) (sz : Nat) : State → Prop := fun U => Pst E W sz U ∧ Xv sa U ∧ Xc (va_A W sz) U U.heap
theorem blind_PsX {E : En} {W : va_W} {sa : Nat → Nat} {sz : Nat} {av : List Value} : FrameBlind (va_Pc av (PsX E W sa sz)) := by
  intro a U g mk h
  obtain ⟨h0, h1, h2, h3⟩ := h
  have hb := blind_Pst (E := E) (W := W) (sz := sz) (av := av) a U g mk ⟨h0, h1⟩
  exact ⟨hb.1, hb.2, h2.same rfl, h3.pass (s := U) (U := U.calling g mk a) (H := U.heap) (H' := U.heap) (Vm.Alike.refl U.vm) (fun _ _ _ => rfl) (fun _ h => h)⟩
/-- the contract of a method where it throws: the world stays, one thing of six slots is made -/
def Ct (E : En) (l : Launch) (y : MethodName) (cc : ByteArray) (nL : Nat) (rm : Room) (av : List Value) (W : va_W) (sa : Nat → Nat) : Prop := ∀ sz : Nat, vx_Met l y (wsU y cc nL (some .int)) rm (va_Pc av (PsX E W sa sz)) (va_Qi (S := Unit) (fun _ _ => False) (fun _ _ => True) (va_A W sz)) (Xt E (va_A W sz) W) 1 6 (va_A W sz)
theorem Ct.of {E : En} {l : Launch} {y : MethodName} {rm : Room} {av : List Value} {Wo : va_W} {sa : Nat → Nat} {cc : ByteArray} {nL : Nat} (hy : plainName y.cls = true) (hlen : (lg_sl av).length ≤ nL)
    (body : ∀ (p : Program) (e : Env) (s : State) (m : MethodId) (below : List Frame) (meth : Method) (c : Code) (A : Nat → Prop) (ls : Array Slot) (args : Array Value) (H : Heap) (locs : List Loc), Bx E A p s m args meth c cc nL y.cls (some .int) → Xv sa s → Xc A s s.heap → (∀ x ∈ c.exceptionTable.toList, False) → Wd E A s.heap Wo H locs → lv_has ls nL (lv_args 0 av) → W p l e rm s m args below meth c H locs 0 0 (vx_MQ below (va_Qi (S := Unit) (fun _ _ => False) (fun _ _ => True) A) (Xt E A Wo) args s 1 6 A) (F0 m 0 ls [])) : Ct E l y cc nL rm av Wo sa := by
  intro sz
  refine vx_ofW hy rfl ?_
  intro p e s m args below meth c s₁ B hml ht hv
  obtain ⟨rfl, ⟨hsz, hP, hE, hD0, hC⟩, hv, hc⟩ := hv
  subst hsz
  have hD := hD0.self (sz := s.heap.size)
  have hl := lv_entry av (n := nL) hlen
  rw [lg_entry_eq]
  exact body p e s m below meth c (va_A Wo s.heap.size) _ _ _ _ ⟨⟨B.exec, B.bytes, hml, findClass_of_methodNamed B.named, fun w hw => atoms_spec (ws := wsU y cc nL (some .int)) B.pre w (List.mem_cons_of_mem _ hw)⟩, B.returns, hE, B.notSynchronized, hC⟩ hv hc ht ⟨hP, hD, va_S.rf, fun q h => Or.inr h⟩ hl
