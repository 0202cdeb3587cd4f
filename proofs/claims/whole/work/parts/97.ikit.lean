/-! constructors: what they make -/
abbrev ZI : Nat → Int32 := fun _ => 0
abbrev ZL : Nat → Int64 := fun _ => 0
def Ao (U : State) : Prop := va_AO "PloughCall$Mark" U ∧ va_AO "PloughCall$Standing" U
theorem Ao.moved {u U : State} (hvm : u.vm.Alike U.vm) (h : Ao u) : Ao U := ⟨h.1.moved hvm, h.2.moved hvm⟩
def PsI (E : En) (W : va_W) (sz : Nat) : State → Prop := fun U => Pst E W sz U ∧ Ao U
theorem blind_PsI {E : En} {W : va_W} {sz : Nat} {av : List Value} : FrameBlind (va_Pc av (PsI E W sz)) := by
  intro a U g mk h
  have hb := blind_Pst (E := E) (W := W) (sz := sz) (av := av) a U g mk ⟨h.1, h.2.1⟩
  exact ⟨hb.1, hb.2, h.2.2.moved (u := U) (U := U.calling g mk a) (Vm.Alike.refl U.vm)⟩
def Qi (E : En) (G : va_W → Prop) (A : Nat → Prop) : Array Value → State → Outcome → State → Prop := fun _ st oc t => (oc = .returned none ∧ ∃ W', G W' ∧ va_P E.1 vwCl W' t.heap ∧ va_D A W') ∧ va_F A st t
/-- a constructor's contract: mc things of ms slots are made; behind it the world is one of G -/
def Ci (E : En) (l : Launch) (y : MethodName) (cc : ByteArray) (nL : Nat) (rm : Room) (mc ms : Nat) (av : List Value) (W : va_W) (G : va_W → Prop) : Prop := ∀ sz : Nat, Met l y (wsU y cc nL none) rm (va_Pc av (PsI E W sz)) (Qi E G (va_A W sz)) mc ms (va_A W sz)
theorem Ci.of {E : En} {l : Launch} {y : MethodName} {rm : Room} {mc ms : Nat} {av : List Value} {Wo : va_W} {G : va_W → Prop} {cc : ByteArray} {nL : Nat} (hy : plainName y.cls = true) (hlen : (lg_sl av).length ≤ nL) (hyn : y.name = "<init>")
    (body : ∀ (p : Program) (e : Env) (s : State) (m : MethodId) (below : List Frame) (meth : Method) (c : Code) (A : Nat → Prop) (ls : Array Slot) (args : Array Value) (H : Heap) (locs : List Loc), Bx E A p s m args meth c cc nL y.cls none → Ao s → meth.name = "<init>" → Wd E A s.heap Wo H locs → lv_has ls nL (lv_args 0 av) → W p l e rm s m args below meth c H locs 0 0 (MQ below (Qi E G A) args s mc ms A) (F0 m 0 ls [])) : Ci E l y cc nL rm mc ms av Wo G := by
  intro sz
  refine Met.ofW hy rfl ?_
  intro p e s m args below meth c s₁ B hml hv
  obtain ⟨rfl, ⟨hsz, hP, hE, hD0, hC⟩, hAo⟩ := hv
  subst hsz
  have hD := hD0.self (sz := s.heap.size)
  have hl := lv_entry av (n := nL) hlen
  rw [lg_entry_eq]
  exact body p e s m below meth c (va_A Wo s.heap.size) _ _ _ _ ⟨⟨B.exec, B.bytes, hml, findClass_of_methodNamed B.named, fun w hw => atoms_spec (ws := wsU y cc nL none) B.pre w (List.mem_cons_of_mem _ hw)⟩, B.returns, hE, B.notSynchronized, hC⟩ hAo ((name_of_methodNamed B.named B.method).1.trans hyn) ⟨hP, hD, va_S.rf, fun q h => Or.inr h⟩ hl
theorem Wd.re {E : En} {A : Nat → Prop} {H0 H : Heap} {ws ws' : va_W} {locs : List Loc} (hw : Wd E A H0 ws H locs) (pl : List Nat) (hnd : va_nd pl = true) (hsub : pl.map (fun i => ws[i]?) = ws'.map some) : Wd E A H0 ws' H locs := by
  have hs2 : pl.filterMap (fun i => ws[i]?) = ws' := by
    have h1 : pl.filterMap (fun i => ws[i]?) = (pl.map (fun i => ws[i]?)).filterMap id := by simp [List.filterMap_map, Function.comp_def]
    rw [h1, hsub]
    simp [List.filterMap_map, Function.comp_def]
  exact ⟨hw.1.sub pl hs2, hw.2.1.sub pl hnd hsub, hw.2.2⟩
section
variable {E : En} {p : Program} {l : Launch} {e : Env} {R : Room} {s : State} {m : MethodId} {args : Array Value} {below : List Frame} {meth : Method} {c : Code} {H : Heap} {locs : List Loc} {cells slots : Nat} {Q : State → Prop}
variable {A : Nat → Prop} {ws Wc : va_W} {pc : Nat} {ls : Array Slot} {rest st0 As : List Value} {cc bytes : ByteArray} {nL maxL index n ci mc ms : Nat} {own C : String} {ret : Option FieldType} {y : MethodName} {rm : Room} {b : Nat} {fs : List Value} {cq : vw_C} {G : va_W → Prop} {e0 : va_E}
theorem kn_obj {a : Nat} (X : Bx E A p s m args meth c cc nL own ret) (h1 : Cond.methodLink own index objectInit ∈ lwg) (h2 : Cond.instanceMethod objectInit ∈ lwg) (h3 : Cond.code objectInit ⟨#[0xb1]⟩ 1 none ∈ lwg) (hls : ls.size = nL) (hR : 1 ≤ R.frames ∧ (rest.map fun v => v.category).sum + 12 ≤ R.locals) (hdg : decode cc pc = .ok (.invokespecial index, 3))
    (kk : W p l e R s m args below meth c H locs cells slots Q (F0 m (pc + 3) ls rest)) : W p l e R s m args below meth c H locs cells slots Q (F0 m pc ls (.ref a :: rest)) := by
  have hts := X.1.2.2.2.2
  refine W.objInit X.1.1 X.1.2.1 X.1.2.2.2.1 (hts _ h1) (hts _ h2) (hts _ h3) rfl (hls.trans X.1.2.2.1.symm) rfl hdg hR.1 (by have h := hR.2; change 2 * 0 + (rest.map fun v => v.category).sum + 12 ≤ R.locals; omega) ?_
  exact W.eq (g2 := F0 m (pc + 3) ls rest) rfl kk
theorem kn_new {T : u_T} {N : Nat} {ty : Nat → FieldType} (X : Bx E A p s m args meth c cc nL own ret) (hin : ∀ w ∈ u_ws C T N, w ∈ lwg) (hty : ∀ k, k < N → parseFieldDescriptor (T k).2.2.1 = some (ty k)) (h1 : Cond.classLink own index C ∈ lwg) (h2 : Cond.instantiable C N ∈ lwg) (h3 : Cond.initialized C ∈ lwg) (hw : Wd E A s.heap ws H locs) (hc : vwCl[ci]? = some (C, T, N)) (hfs : ∀ j, j < N → defaultValue (ty j) = vp_V fs j) (hcells : cells + 1 ≤ R.cells) (hslots : slots + N ≤ R.slots) (hdg : decode cc pc = .ok (.new index, 3))
    (kk : ∀ (q : Nat) (H1 : Heap), Wd E A s.heap (ws ++ [(q, .inr (ci, fs))]) H1 locs → W p l e R s m args below meth c H1 locs (cells + 1) (slots + N) Q (F0 m (pc + 3) ls (.ref q :: rest))) : W p l e R s m args below meth c H locs cells slots Q (F0 m pc ls rest) := by
  have hts := X.1.2.2.2.2
  exact va_new X.1.1 X.1.2.1 hts hin ty hty X.1.2.2.2.1 (hts _ h1) (hts _ h2) (hts _ h3) X.2.2.1.1 hw.1 hw.2.1 hw.2.2.1 hw.2.2.2 hc hfs hcells hslots hdg (fun q H1 a1 a2 a3 => kk q H1 ⟨a1, a2, a3, hw.2.2.2⟩)
theorem kn_cls {t0 : Nat} {cA cB : ClassId} {ty : FieldType} (hK : va_K E.1 vwCl (tyE E) s) (ht : (tyE E)[t0]? = some (cB, ty)) (hK2 : va_K E.1 vwCl (tyE E ++ [(cA, ty)]) s) : cA = cB := by
  have h1 := (hK.2 t0 _ ht).2
  have h2 := (hK2.2 5 (cA, ty) (by rfl)).2
  cases ty with
  | object C =>
    obtain ⟨_, _, _, _, _, f1⟩ := h1
    obtain ⟨_, _, _, _, _, f2⟩ := h2
    exact Option.some.inj (f2.symm.trans f1)
  | _ => exact Option.some.inj (Eq.trans (Eq.symm h2) h1)
theorem kn_arr {t0 N : Nat} {nn : Int32} {atype : ArrayType} {a0 : vp_A} {ty : FieldType} {cB : ClassId} (X : Bx E A p s m args meth c cc nL own ret) (harr : Cond.arrayClass (newarray.typeOf atype) ∈ lwg) (hty : newarray.typeOf atype = ty) (ht : (tyE E)[t0]? = some (cB, ty)) (hw : Wd E A s.heap ws H locs) (ha : ∀ cA : ClassId, vp_cell cA a0 = arrV cA N (fun _ => defaultValue ty)) (hn : ¬ nn < 0) (hN : nn.toNatClampNeg = N) (hbytes : N * componentBytes ty ≤ 536870912) (hcells : cells + 1 ≤ R.cells) (hslots : slots + N ≤ R.slots) (hdg : decode cc pc = .ok (.newarray atype, 2))
    (kk : ∀ (q : Nat) (H1 : Heap), Wd E A s.heap (ws ++ [(q, .inl (cB, a0))]) H1 locs → W p l e R s m args below meth c H1 locs (cells + 1) (slots + N) Q (F0 m (pc + 2) ls (.ref q :: rest))) : W p l e R s m args below meth c H locs cells slots Q (F0 m pc ls (.int nn :: rest)) := by
  refine va_newa X.1.1 X.1.2.1 (X.1.2.2.2.2 _ harr) hty X.2.2.1.1 hw.1 hw.2.1 hw.2.2.1 hw.2.2.2 ha hn hN hbytes hcells hslots hdg (fun q cA H1 hK2 a1 a2 a3 => ?_)
  obtain rfl := kn_cls X.2.2.1.1 ht hK2
  exact kk q H1 ⟨a1, a2, a3, hw.2.2.2⟩
theorem kn_refs {t0 N : Nat} {nn : Int32} {cB : ClassId} (X : Bx E A p s m args meth c cc nL own ret) (hAo : va_AO C s) (h1 : Cond.classLink own index C ∈ lwg) (ht : (tyE E)[t0]? = some (cB, .object C)) (hw : Wd E A s.heap ws H locs) (hn : ¬ nn < 0) (hN : nn.toNatClampNeg = N) (hbytes : N * 4 ≤ 536870912) (hcells : cells + 1 ≤ R.cells) (hslots : slots + N ≤ R.slots) (hdg : decode cc pc = .ok (.anewarray index, 3))
    (kk : ∀ (q : Nat) (H1 : Heap), Wd E A s.heap (ws ++ [(q, .inl (cB, N, .inr (.inr (.inr (.inr (fun _ => none))))))]) H1 locs → W p l e R s m args below meth c H1 locs (cells + 1) (slots + N) Q (F0 m (pc + 3) ls (.ref q :: rest))) : W p l e R s m args below meth c H locs cells slots Q (F0 m pc ls (.int nn :: rest)) := by
  refine va_newq X.1.1 X.1.2.1 X.1.2.2.2.1 (X.1.2.2.2.2 _ h1) hAo X.2.2.1.1 hw.1 hw.2.1 hw.2.2.1 hw.2.2.2 hn hN hbytes hcells hslots hdg (fun q cA H1 hK2 a1 a2 a3 => ?_)
  obtain rfl := kn_cls X.2.2.1.1 ht hK2
  exact kk q H1 ⟨a1, a2, a3, hw.2.2.2⟩
theorem kn_putF {T : u_T} {N q0 : Nat} {ty0 : Nat → FieldType} (X : Bx E A p s m args meth c cc nL own ret) (hin2 : meth.name = "<init>") (hin : ∀ w ∈ u_ws own T N, w ∈ lwg) (hty : ∀ k, k < N → parseFieldDescriptor (T k).2.2.1 = some (ty0 k)) (hnm : ∀ a, a < N → ∀ b, b < N → a ≠ b → (T a).2.1 ≠ (T b).2.1) (hw : Wd E A s.heap ws H locs) (he : ws[q0]? = some (b, .inr (ci, fs))) (hc : vwCl[ci]? = some (own, T, N)) (k : Nat) (hk : k < N) (hT : (T k).1 = own) (hfin : (T k).2.2.2 = true) (hlink : Cond.fieldLink own index own (T k).2.1 (T k).2.2.1 ∈ lwg) {x : Value} (hn : narrow (ty0 k) x = x) (hfit : fits (ty0 k) x = true) (hl : k < fs.length) (hdg : decode cc pc = .ok (.putfield index, 3))
    (kk : ∀ (H1 : Heap) (locs1 : List Loc), Wd E A s.heap (ws.set q0 (b, .inr (ci, fs.set k x))) H1 locs1 → W p l e R s m args below meth c H1 locs1 cells slots Q (F0 m (pc + 3) ls rest)) : W p l e R s m args below meth c H locs cells slots Q (F0 m pc ls (x :: .ref b :: rest)) := by
  have hts := X.1.2.2.2.2
  exact va_putF X.1.1 X.1.2.1 hts hin ty0 hty hnm X.1.2.2.2.1 X.2.2.1.1 hw.1 hw.2.1 hw.2.2.1 q0 he hc k hk (hts _ hlink) (fun x9 h9 => by rw [hT] at h9; exact h9) hfin hin2 hT (hty k hk) hn hfit hl hdg (fun H1 locs1 a1 a2 a3 => kk H1 locs1 ⟨a1, a2, a3, hw.2.2.2⟩)
theorem kn_ast {q0 t0 qk N k v : Nat} {cA : ClassId} {r : vw_C} {vs : List Value} {f : Nat → Option Nat} {a : Nat} {i : Int32} (X : Bx E A p s m args meth c cc nL own ret) (hw : Wd E A s.heap ws H locs) (ha : ws[q0]? = some (a, .inl (cA, N, .inr (.inr (.inr (.inr f)))))) (ht : (tyE E)[t0]? = some (cA, .object r.1)) (hv : ws[qk]? = some (v, .inr (ci, vs))) (hc : vwCl[ci]? = some r) (hin : vp_in i N) (hik : i.toNatClampNeg = k) (hdg : decode cc pc = .ok (.aastore, 1))
    (kk : ∀ (H1 : Heap) (locs1 : List Loc), Wd E A s.heap (ws.set q0 (a, .inl (cA, N, .inr (.inr (.inr (.inr (va_up f k (some v)))))))) H1 locs1 → W p l e R s m args below meth c H1 locs1 cells slots Q (F0 m (pc + 1) ls rest)) : W p l e R s m args below meth c H locs cells slots Q (F0 m pc ls (.ref v :: .int i :: .ref a :: rest)) := by
  subst hik
  exact va_astq X.1.1 X.1.2.1 X.2.2.1.1 hw.1 hw.2.1 hw.2.2.1 q0 t0 qk ci ha ht hv hc hin hdg (fun H1 locs1 a1 a2 a3 => kk H1 locs1 ⟨a1, a2, a3, hw.2.2.2⟩)
theorem kn_preI {U : State} {av : List Value} (hE : Ev E s) (hC : Ec E A s s.heap) (hAo : Ao s) (hw : Wd E A s.heap ws H locs) (pl : List Nat) (hnd : va_nd pl = true) (hsub : pl.map (fun i => ws[i]?) = Wc.map some) (hU : U.heap = H) (hW : s.WarmedH U.vm) : va_Pc av (PsI E Wc H.size) av.toArray U :=
  ⟨rfl, (k_pre (av := av) hE hC hw pl hnd hsub hU hW).2, hAo.moved hW.alike⟩
theorem kn_last {ws : va_W} {x : Nat × va_E} : [ws.length].map (fun i => (ws ++ [x])[i]?) = [x].map some := by simp
theorem kn_first {ws : va_W} {x : Nat × va_E} : (List.range ws.length).map (fun i => (ws ++ [x])[i]?) = ws.map some := by
  apply List.ext_getElem?
  intro i
  by_cases h : i < ws.length
  · rw [List.getElem?_map, List.getElem?_map, List.getElem?_range h]
    show some ((ws ++ [x])[i]?) = Option.map some ws[i]?
    rw [List.getElem?_append_left h, List.getElem?_eq_getElem h]
    rfl
  · rw [List.getElem?_eq_none (by simp; omega), List.getElem?_eq_none (by simp; omega)]
theorem kn_ndl : ∀ l : List Nat, l.Nodup → va_nd l = true
  | [], _ => rfl
  | a :: l, h => by
    have h1 := List.nodup_cons.mp h
    have h2 := kn_ndl l h1.2
    simp [va_nd, h1.1, h2]
theorem kn_nd (n : Nat) : va_nd (List.range n) = true := kn_ndl _ List.nodup_range
theorem arrV_congr {cI : ClassId} {N : Nat} {f g : Nat → Value} (h : ∀ i, i < N → f i = g i) : arrV cI N f = arrV cI N g := by
  unfold arrV
  congr 1
  congr 1
  funext j
  exact h j.val j.isLt
theorem kn_run {a : Array Value} (hr : va_Run p l e R s m args below meth c H locs cells slots mc ms (F0 m pc ls st0) rest (Qi E G (va_A [(b, e0)] H.size) a) (va_A [(b, e0)] H.size)) (hw : Wd E A s.heap (ws ++ [(b, e0)]) H locs)
    (kk : ∀ (W' : va_W) (H1 : Heap) (locs1 : List Loc), G W' → Wd E A s.heap (ws ++ W') H1 locs1 → W p l e R s m args below meth c H1 locs1 (cells + mc) (slots + ms) Q (F0 m (pc + 3) ls rest)) : W p l e R s m args below meth c H locs cells slots Q (F0 m pc ls st0) := by
  intro T hT X
  obtain ⟨hP, hD, hS, hA⟩ := hw
  obtain ⟨v9, st₀, t, T', L, h0, X', hL, e1, e2, ⟨⟨hv, W', hG, hP1, hD1⟩, hz, hk⟩, st⟩ := hr T hT X
  obtain rfl : v9 = none := by injection hv
  rw [h0] at hz hk
  have hF : ∀ q, va_A [(b, e0)] H.size q → A q := va_free hD hS hA [ws.length] kn_last
  have hj := va_join (H1 := T'.heap) hP hD [ws.length] (List.range ws.length) kn_last kn_first (kn_nd _) (fun i hi => by simp at hi ⊢; omega) (fun q h1 h2 => by rw [e1]; exact hk q h1 h2) hF (by rw [e1]; exact hP1) hD1
  obtain ⟨t2, a1, b1⟩ := kk W' T'.heap (locs ++ L) hG ⟨hj.1, hj.2, ⟨Nat.le_trans hS.1 (by rw [e1]; exact hz), fun q h1 h2 => by rw [e1, hk q (Nat.lt_of_lt_of_le h1 hS.1) (fun z => h2 (hF q z))]; exact hS.2.1 q h1 h2, fun q hq => by
      rcases List.mem_append.mp hq with h | h
      · exact hS.2.2 q h
      · exact hF _ (hL q h)⟩, hA⟩ T' rfl X'
  exact ⟨t2, st t2 a1, b1⟩
theorem kn_I (X : Bx E A p s m args meth c cc nL own ret) (hAo : Ao s) (hC : Ci E l y bytes maxL rm mc ms (.ref b :: As) [(b, e0)] G) (h1 : Cond.methodLink own index y ∈ lwg) (h2 : Cond.instanceMethod y ∈ lwg) (h4 : Cond.initialized y.cls ∈ lwg) (h5 : Cond.code y bytes maxL none ∈ lwg) (hrm : rm.cells = mc ∧ rm.slots = ms) (hy : y.name = "<init>") (hd : y.cls ≠ "java/lang/invoke/MethodHandle" ∧ y.cls ≠ "java/lang/invoke/VarHandle" ∧ (parseMethodDescriptor y.desc).map (fun d => d.parameters.length) = some n) (hR : rm.frames + 1 ≤ R.frames ∧ 8 + (maxL + 11) + rm.locals ≤ R.locals) (hf : cells + mc ≤ R.cells ∧ slots + ms ≤ R.slots)
    (hw : Wd E A s.heap (ws ++ [(b, e0)]) H locs) (hn : As.length = n) (hls : ls.size = nL) (hst : st0 = As.reverse ++ .ref b :: rest) (hrest : (rest.map fun v => v.category).sum ≤ 8) (hdg : decode cc pc = .ok (.invokespecial index, 3))
    (kk : ∀ (W' : va_W) (H1 : Heap) (locs1 : List Loc), G W' → Wd E A s.heap (ws ++ W') H1 locs1 → W p l e R s m args below meth c H1 locs1 (cells + mc) (slots + ms) Q (F0 m (pc + 3) ls rest)) : W p l e R s m args below meth c H locs cells slots Q (F0 m pc ls st0) := by
  have hts := X.1.2.2.2.2
  exact kn_run (va_runI (b := b) (As := As) (rest := rest) X.1 (hC H.size) (cwI n hts (gdU h5) rfl hrm.1 hrm.2 (hts _ h4) (hts _ h1) (hts _ h2) hy hd hR) ⟨blind_PsI, fun U hU hW => kn_preI X.2.2.1 X.2.2.2.2 hAo hw [ws.length] rfl kn_last hU hW⟩ rfl hn hls hst (lv_room hrest) hdg hf) hw kk
theorem kn_IN {host : String} (X : Bx E A p s m args meth c cc nL own ret) (hAo : Ao s) (hC : Ci E l y bytes maxL rm mc ms (.ref b :: As) [(b, e0)] G) (hlk : Cond.methodLinkNest own index y host ∈ nstW) (h2 : Cond.instanceMethod y ∈ lwg) (h4 : Cond.initialized y.cls ∈ lwg) (h5 : Cond.code y bytes maxL none ∈ lwg) (hrm : rm.cells = mc ∧ rm.slots = ms) (hy : y.name = "<init>") (hd : y.cls ≠ "java/lang/invoke/MethodHandle" ∧ y.cls ≠ "java/lang/invoke/VarHandle" ∧ (parseMethodDescriptor y.desc).map (fun d => d.parameters.length) = some n) (hR : rm.frames + 1 ≤ R.frames ∧ 8 + (maxL + 11) + rm.locals ≤ R.locals) (hf : cells + mc ≤ R.cells ∧ slots + ms ≤ R.slots)
    (hw : Wd E A s.heap (ws ++ [(b, e0)]) H locs) (hn : As.length = n) (hls : ls.size = nL) (hst : st0 = As.reverse ++ .ref b :: rest) (hrest : (rest.map fun v => v.category).sum ≤ 8) (hdg : decode cc pc = .ok (.invokespecial index, 3))
    (kk : ∀ (W' : va_W) (H1 : Heap) (locs1 : List Loc), G W' → Wd E A s.heap (ws ++ W') H1 locs1 → W p l e R s m args below meth c H1 locs1 (cells + mc) (slots + ms) Q (F0 m (pc + 3) ls rest)) : W p l e R s m args below meth c H locs cells slots Q (F0 m pc ls st0) := by
  have hts := X.1.2.2.2.2
  exact kn_run (va_runIN (b := b) (As := As) (rest := rest) X.1 (hC H.size) ⟨va_cnB n hts (gdU h5) rfl hrm.1 hrm.2 (X.2.2.1.2 _ hlk) (hts _ h4) hd hR, hy, hts _ h2⟩ ⟨blind_PsI, fun U hU hW => kn_preI X.2.2.1 X.2.2.2.2 hAo hw [ws.length] rfl kn_last hU hW⟩ rfl hn hls hst (lv_room hrest) hdg hf) hw kk
theorem kn_ret (X : Bx E A p s m args meth c cc nL own none) (hw : Wd E A s.heap ws H locs) (hG : G ws) (hdg : decode cc pc = .ok (.return_, 1)) : W p l e R s m args below meth c H locs cells slots (MQ below (Qi E G A) args s cells slots A) (F0 m pc ls []) :=
  W.vret X.1.1 X.1.2.1 X.2.1 (fun t ht hW => ⟨⟨rfl, ws, hG, by rw [ht]; exact hw.1, hw.2.1⟩, hw.2.2.1.F ht⟩) hw.2.2.1.2.2 hdg (hlocks := X.2.2.2.1)
theorem kn_fun {q0 N : Nat} {f g : Nat → Option Nat} {a : Nat} {cA : ClassId} (hw : Wd E A s.heap ws H locs) (ha : ws[q0]? = some (a, .inl (cA, N, .inr (.inr (.inr (.inr f)))))) (hfg : ∀ i, i < N → f i = g i) : Wd E A s.heap (ws.set q0 (a, .inl (cA, N, .inr (.inr (.inr (.inr g)))))) H locs := by
  have hlt : q0 < ws.length := (List.getElem?_eq_some_iff.mp ha).1
  refine ⟨fun k x hx => ?_, va_D_fst (List.ext_getElem? (fun i => ?_)) hw.2.1, hw.2.2⟩
  · by_cases h : k = q0
    · subst h
      rw [List.getElem?_set_self hlt] at hx
      cases hx
      have h1 := hw.1 k _ ha
      have h2 : H[a]? = some (vp_cell cA (N, .inr (.inr (.inr (.inr f))))) := h1
      show H[a]? = some (vp_cell cA (N, .inr (.inr (.inr (.inr g)))))
      rw [h2, vp_cell_q, vp_cell_q]
      congr 1
      exact arrV_congr (fun i hi => by rw [hfg i hi])
    · rw [List.getElem?_set_ne (fun z => h z.symm)] at hx
      exact hw.1 k x hx
  · rw [List.getElem?_map, List.getElem?_map]
    by_cases h : i = q0
    · subst h
      rw [List.getElem?_set_self hlt, ha]; rfl
    · rw [List.getElem?_set_ne (fun z => h z.symm)]
end
