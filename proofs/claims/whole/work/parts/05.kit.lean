/-! the frame kit: one shape of contract, one world, calls by places -/
abbrev wsU (y : MethodName) (cc : ByteArray) (nL : Nat) (ret : Option FieldType) : List Cond := Cond.code y cc nL ret :: lwg
theorem gdU {y : MethodName} {b : ByteArray} {n : Nat} {r : Option FieldType} (h : Cond.code y b n r ∈ lwg) : GoodIn lwg (wsU y b n r) := fun w hw => by
  rcases List.mem_cons.mp hw with rfl | hw
  · exact lwg_good h
  · exact lwg_good hw
theorem gdV {own C : String} {idx : Nat} {y : MethodName} {b : ByteArray} {n : Nat} {r : Option FieldType} (h1 : Cond.methodLink own idx y ∈ lwg) (h2 : Cond.instanceMethod y ∈ lwg) (h3 : Cond.selects C y y ∈ lwg) (h4 : Cond.initialized C ∈ lwg) (h5 : Cond.code y b n r ∈ lwg) : GoodIn lwg (wsV own idx C y (wsU y b n r)) := fun w hw => by
  rcases List.mem_append.mp hw with hw | hw
  · simp only [List.mem_cons, List.not_mem_nil, or_false] at hw
    rcases hw with rfl | rfl | rfl | rfl
    · exact lwg_good h1
    · exact lwg_good h2
    · exact lwg_good h3
    · exact lwg_good h4
  · exact gdU h5 w hw
theorem gdS {own : String} {idx : Nat} {y : MethodName} {b : ByteArray} {n : Nat} {r : Option FieldType} (h1 : Cond.methodLink own idx y ∈ lwg) (h2 : Cond.static y ∈ lwg) (h4 : Cond.initialized own ∈ lwg) (h5 : Cond.code y b n r ∈ lwg) : GoodIn lwg (wsS own idx y (wsU y b n r)) := fun w hw => by
  rcases List.mem_append.mp hw with hw | hw
  · simp only [List.mem_cons, List.not_mem_nil, or_false] at hw
    rcases hw with rfl | rfl | rfl
    · exact lwg_good h1
    · exact lwg_good h2
    · exact lwg_good h4
  · exact gdU h5 w hw
abbrev En : Type := va_G × (Nat → ClassId) × (Nat → Nat)
def tyE (E : En) : List (ClassId × FieldType) := [(E.2.1 0, .int), (E.2.1 1, .long), (E.2.1 2, .boolean), (E.2.1 3, .object "PloughCall$Mark"), (E.2.1 4, .object "PloughCall$Standing")]
def nst_one : Cond → Bool := fun w => match w with
  | .fieldLinkNest _ _ _ _ _ _ => true
  | .methodLinkNest _ _ _ _ => true
  | _ => false
def nst (U : State) : Prop := ∀ w ∈ nstW, va_Nw w U
theorem nstW_all : ∀ w ∈ nstW, nst_one w = true := by decide +kernel
theorem nst_warm {s U : State} (hW : s.WarmedH U.vm) (h : nst s) : nst U := by
  intro w hw
  have h1 : nst_one w = true := nstW_all w hw
  have h2 := h w hw
  cases w <;> first | exact va_Nw.warmF hW h2 | exact va_Nw.warmM hW h2 | exact absurd h1 (by simp [nst_one])
theorem nst_same {s U : State} (hv : s.vm = U.vm) (h : nst s) : nst U := by
  intro w hw
  have h1 : nst_one w = true := nstW_all w hw
  have h2 := h w hw
  cases w <;> first | exact va_Nw.same rfl hv h2 | exact absurd h1 (by simp [nst_one])
def Ev (E : En) (U : State) : Prop := va_K E.1 vwCl (tyE E) U ∧ nst U
theorem Ev.warm {E : En} {s U : State} (hW : s.WarmedH U.vm) (h : Ev E s) : Ev E U := ⟨va_K.moved hW.alike h.1, nst_warm hW h.2⟩
theorem Ev.blind {E : En} {U : State} {g : JFrame} {mk : MethodId} {a : Array Value} (h : Ev E U) : Ev E (U.calling g mk a) := ⟨va_K.moved (u := U) (U := U.calling g mk a) (Vm.Alike.refl U.vm) h.1, nst_same (s := U) (U := U.calling g mk a) rfl h.2⟩
/-! the language's words: the constants of the enum -/
def eNm : List String := ["MAN", "SKILL", "FIELD", "WANT", "CONSUL", "HATES", "DANGER", "SIZE", "GROWS", "DECREE", "ON", "TERM", "WORKS", "KEEPS", "NAME", "MASTER", "MONTH", "DISOBEY", "LAY", "PLAIN", "POOR", "PROUD", "IDLE", "NOT", "AND", "OR", "ABLE", "GREED", "LARGE", "PASSED", "LIKED", "LEFT"]
def eLetL : List Int64 := [13358, 20293004, 6591876, 755156, 116870828, 8442035, 135732402, 632645, 7945971, 139577509, 494, 661069, 24627571, 11703827, 460197, 437899442, 14137992, 4617373881, 12345, 17171758, 540146, 17383076, 299397, 14836, 1476, 498, 35205, 7935140, 12634341, 538561700, 12889252, 398548]
def eLet (i : Nat) : Int64 := eLetL.getD i 0
def eResL : List Int32 := [1, 1, 1, 1, 1, 1, 1, 1, 1, 1, 1, 1, 1, 1, 1, 1, 1, 1, 1, 1, 1, 1, 1, 1, 1, 1, 0, 0, 0, 0, 0, 0]
def eRes (i : Nat) : Int32 := eResL.getD i 0
def eSwL : List Int32 := [1, 0, 0, 0, 2, 3, 4, 0, 0, 5, 0, 6, 7, 8, 0, 0, 0, 0, 0, 0, 0, 0, 0, 0, 0, 0, 0, 0, 0, 0, 0, 0]
def eSw (i : Nat) : Int32 := eSwL.getD i 0
def eF : List (String × String × String × List Int32) := [("java/lang/Enum", "ordinal", "I", (List.range 32).map Int32.ofNat), (RX11, "reserved", "Z", eResL)]
def Ec (E : En) (A : Nat → Prop) (U : State) (H : Heap) : Prop := va_En RX11 "LPloughCall$Word;" eNm eF E.2.2 A U H ∧ va_Ef 32 RX11 "letters" "J" (fun i => .long (eLet i)) E.2.2 A U H ∧ (va_Z RX11 "WORDS" "[LPloughCall$Word;" (.ref (E.2.2 100)) A U H ∧ va_T (.object RX11) (E.2.2 100) 32 (fun j => .ref (E.2.2 j)) A U H) ∧ va_Z RX0 "$SwitchMap$PloughCall$Word" "[I" (.ref (E.2.2 101)) A U H ∧ va_T .int (E.2.2 101) 32 (fun j => .int (eSw j)) A U H
theorem Ec.pass {E : En} {A B : Nat → Prop} {s U : State} {H H' : Heap} (hvm : s.vm.Alike U.vm) (hq : ∀ a : Nat, a < H.size → ¬ A a → H'[a]? = H[a]?) (hAB : ∀ q, B q → A q) (h : Ec E A s H) : Ec E B U H' :=
  ⟨(va_En.moved hvm (h.1.kept hq)).narrow hAB, (va_Ef.moved hvm (h.2.1.kept hq)).narrow hAB, ⟨(va_Z.moved hvm (h.2.2.1.1.kept hq)).narrow hAB, (va_T.moved hvm (h.2.2.1.2.kept hq)).narrow hAB⟩, (va_Z.moved hvm (h.2.2.2.1.kept hq)).narrow hAB, (va_T.moved hvm (h.2.2.2.2.kept hq)).narrow hAB⟩
def Wd (E : En) (A : Nat → Prop) (H0 : Heap) (ws : va_W) (H : Heap) (locs : List Loc) : Prop := va_P E.1 vwCl ws H ∧ va_D A ws ∧ va_S A H0 H locs ∧ ∀ q, H0.size ≤ q → A q
def Pst (E : En) (W : va_W) (sz : Nat) : State → Prop := fun U => U.heap.size = sz ∧ va_P E.1 vwCl W U.heap ∧ Ev E U ∧ va_D (fun _ => True) W ∧ Ec E (va_A W sz) U U.heap
def Qg (E : En) (v : Option Value) (W' : va_W) (A : Nat → Prop) : Array Value → State → Outcome → State → Prop := fun _ st oc t => (oc = .returned v ∧ va_P E.1 vwCl W' t.heap) ∧ va_F A st t
/-- the contract: from the world W, with the arguments av, the method answers v and leaves W' -/
def Cn (E : En) (l : Launch) (y : MethodName) (cc : ByteArray) (nL : Nat) (ret : Option FieldType) (rm : Room) (av : List Value) (W : va_W) (v : Option Value) (W' : va_W) : Prop := W'.map Prod.fst = W.map Prod.fst ∧ ∀ sz : Nat, Met l y (wsU y cc nL ret) rm (va_Pc av (Pst E W sz)) (Qg E v W' (va_A W sz)) 0 0 (va_A W sz)
def Zn (E : En) (below : List Frame) (args : Array Value) (s : State) (A : Nat → Prop) (v : Option Value) (W' : va_W) : State → Prop := MQ below (Qg E v W' A) args s 0 0 A
def Bx (E : En) (A : Nat → Prop) (p : Program) (s : State) (m : MethodId) (args : Array Value) (meth : Method) (c : Code) (cc : ByteArray) (nL : Nat) (own : String) (ret : Option FieldType) : Prop := CallFix p m c cc nL s args lwg own ∧ meth.sig.returnType = ret ∧ Ev E s ∧ meth.locks = false ∧ Ec E A s s.heap
theorem blind_Pst {E : En} {W : va_W} {sz : Nat} {av : List Value} : FrameBlind (va_Pc av (Pst E W sz)) := by
  intro a U g mk h
  obtain ⟨h0, h1, h2, h3, h4, h5⟩ := h
  exact ⟨h0, h1, h2, h3.blind, h4, h5.pass (s := U) (U := U.calling g mk a) (H := U.heap) (H' := U.heap) (Vm.Alike.refl U.vm) (fun _ _ _ => rfl) (fun _ h => h)⟩
theorem Cn.of {E : En} {l : Launch} {y : MethodName} {rm : Room} {av : List Value} {Wo Wo' : va_W} {v : Option Value} {cc : ByteArray} {nL : Nat} {ret : Option FieldType} (hy : plainName y.cls = true) (hlen : (lg_sl av).length ≤ nL) (had : Wo'.map Prod.fst = Wo.map Prod.fst)
    (body : ∀ (p : Program) (e : Env) (s : State) (m : MethodId) (below : List Frame) (meth : Method) (c : Code) (A : Nat → Prop) (ls : Array Slot) (args : Array Value) (H : Heap) (locs : List Loc), Bx E A p s m args meth c cc nL y.cls ret → Wd E A s.heap Wo H locs → lv_has ls nL (lv_args 0 av) → W p l e rm s m args below meth c H locs 0 0 (Zn E below args s A v Wo') (F0 m 0 ls [])) : Cn E l y cc nL ret rm av Wo v Wo' := by
  refine ⟨had, fun sz => ?_⟩
  refine Met.ofW hy rfl ?_
  intro p e s m args below meth c s₁ B hml hv
  obtain ⟨rfl, hsz, hP, hE, hD0, hC⟩ := hv
  subst hsz
  have hD := hD0.self (sz := s.heap.size)
  have hl := lv_entry av (n := nL) hlen
  rw [lg_entry_eq]
  refine body p e s m below meth c (va_A Wo s.heap.size) _ _ _ _ ⟨⟨B.exec, B.bytes, hml, findClass_of_methodNamed B.named, fun w hw => atoms_spec (ws := wsU y cc nL ret) B.pre w (List.mem_cons_of_mem _ hw)⟩, B.returns, hE, B.notSynchronized, hC⟩ ⟨hP, hD, va_S.rf, fun q h => Or.inr h⟩ hl
def lkp (k : Nat) : List Nat → va_W → Option (Nat × va_E)
  | i :: pl, x :: xs => cond (Nat.beq i k) (some x) (lkp k pl xs)
  | _, _ => none
def setAt : Nat → va_W → List Nat → va_W → va_W
  | _, [], _, _ => []
  | k, w :: ws, pl, xs => (lkp k pl xs).getD w :: setAt (k + 1) ws pl xs
def setPl (ws : va_W) (pl : List Nat) (xs : va_W) : va_W := setAt 0 ws pl xs
theorem lkp_some {k : Nat} {y : Nat × va_E} : ∀ (pl : List Nat) (xs : va_W), lkp k pl xs = some y → ∃ j : Nat, pl[j]? = some k ∧ xs[j]? = some y := by
  intro pl
  induction pl with
  | nil => intro xs h; cases h
  | cons i pl ih =>
    intro xs h
    cases xs with
    | nil => cases h
    | cons x xs =>
      have h : cond (Nat.beq i k) (some x) (lkp k pl xs) = some y := h
      by_cases hik : i = k
      · subst hik
        rw [show Nat.beq i i = true from Nat.beq_refl i] at h
        exact ⟨0, rfl, h⟩
      · rw [show Nat.beq i k = false from by cases hb : Nat.beq i k with
          | false => rfl
          | true => exact absurd (Nat.eq_of_beq_eq_true hb) hik] at h
        obtain ⟨j, h1, h2⟩ := ih xs h
        exact ⟨j + 1, by simpa using h1, by simpa using h2⟩
theorem lkp_none {k : Nat} : ∀ (pl : List Nat) (xs : va_W), pl.length = xs.length → lkp k pl xs = none → k ∉ pl := by
  intro pl
  induction pl with
  | nil => intro xs _ _; exact List.not_mem_nil
  | cons i pl ih =>
    intro xs hl h
    cases xs with
    | nil => simp at hl
    | cons x xs =>
      have h : cond (Nat.beq i k) (some x) (lkp k pl xs) = none := h
      by_cases hik : i = k
      · subst hik
        rw [show Nat.beq i i = true from Nat.beq_refl i] at h
        cases h
      · rw [show Nat.beq i k = false from by cases hb : Nat.beq i k with
          | false => rfl
          | true => exact absurd (Nat.eq_of_beq_eq_true hb) hik] at h
        have := ih xs (by simpa using hl) h
        simp only [List.mem_cons, not_or]
        exact ⟨fun e => hik e.symm, this⟩
theorem setAt_at (pl : List Nat) (xs : va_W) (hl : pl.length = xs.length) : ∀ (ws : va_W) (k0 k : Nat) (q : Nat × va_E), (setAt k0 ws pl xs)[k]? = some q → (∃ j : Nat, pl[j]? = some (k0 + k) ∧ xs[j]? = some q) ∨ (k0 + k ∉ pl ∧ ws[k]? = some q) := by
  intro ws
  induction ws with
  | nil => intro k0 k q h; simp [setAt] at h
  | cons w ws ih =>
    intro k0 k q h
    cases k with
    | zero =>
      have h : some ((lkp k0 pl xs).getD w) = some q := h
      cases hk : lkp k0 pl xs with
      | some y =>
        rw [hk] at h
        obtain ⟨j, h1, h2⟩ := lkp_some pl xs hk
        exact Or.inl ⟨j, h1, h2.trans h⟩
      | none =>
        rw [hk] at h
        exact Or.inr ⟨lkp_none pl xs hl hk, h⟩
    | succ k =>
      have h : (setAt (k0 + 1) ws pl xs)[k]? = some q := h
      have h2 := ih (k0 + 1) k q h
      rw [show k0 + 1 + k = k0 + (k + 1) by omega] at h2
      exact h2
theorem setPl_at (pl : List Nat) (xs ws : va_W) (k : Nat) (q : Nat × va_E) (hl : pl.length = xs.length) (h : (setPl ws pl xs)[k]? = some q) : (∃ j : Nat, pl[j]? = some k ∧ xs[j]? = some q) ∨ (k ∉ pl ∧ ws[k]? = some q) := by
  have := setAt_at pl xs hl ws 0 k q h
  rwa [Nat.zero_add] at this
theorem setAt_fst (pl : List Nat) (xs : va_W) : ∀ (ws : va_W) (k0 : Nat), (∀ (j i : Nat) (x : Nat × va_E), pl[j]? = some (k0 + i) → xs[j]? = some x → i < ws.length → (ws.map Prod.fst)[i]? = some x.1) → (setAt k0 ws pl xs).map Prod.fst = ws.map Prod.fst := by
  intro ws
  induction ws with
  | nil => intro k0 _; rfl
  | cons w ws ih =>
    intro k0 h
    have e1 : ((lkp k0 pl xs).getD w).1 = w.1 := by
      cases hk : lkp k0 pl xs with
      | none => rfl
      | some y =>
        obtain ⟨j, h1, h2⟩ := lkp_some pl xs hk
        have h3 := h j 0 y (by simpa using h1) h2 (by simp)
        simp at h3
        exact h3.symm
    show ((lkp k0 pl xs).getD w).1 :: (setAt (k0 + 1) ws pl xs).map Prod.fst = w.1 :: ws.map Prod.fst
    rw [e1, ih (k0 + 1) (fun j i x h1 h2 h3 => by
      have h4 := h j (i + 1) x (by rw [h1]; congr 1; omega) h2 (by simp; omega)
      simpa using h4)]
theorem setPl_fst (pl : List Nat) (xs ws : va_W) (h : pl.map (fun i => (ws.map Prod.fst)[i]?) = xs.map (fun x => some x.1)) : (setPl ws pl xs).map Prod.fst = ws.map Prod.fst := by
  refine setAt_fst pl xs ws 0 (fun j i x h1 h2 _ => ?_)
  have h3 : (pl.map (fun i => (ws.map Prod.fst)[i]?))[j]? = some (some x.1) := by rw [h, List.getElem?_map, h2]; rfl
  rw [List.getElem?_map, h1] at h3
  simpa using h3
theorem va_D_fst {A : Nat → Prop} {ws ws' : va_W} (h : ws'.map Prod.fst = ws.map Prod.fst) (hD : va_D A ws) : va_D A ws' := by
  have key : ∀ (k : Nat) (q : Nat × va_E), ws'[k]? = some q → ∃ r, ws[k]? = some r ∧ r.1 = q.1 := by
    intro k q hk
    have h1 : (ws'.map Prod.fst)[k]? = some q.1 := by rw [List.getElem?_map, hk]; rfl
    rw [h, List.getElem?_map] at h1
    cases hr : ws[k]? with
    | none => rw [hr] at h1; cases h1
    | some r => rw [hr] at h1; exact ⟨r, rfl, Option.some.inj h1⟩
  refine ⟨fun i j p q hi hj hpq => ?_, fun k q hk => ?_⟩
  · obtain ⟨r1, a1, b1⟩ := key i p hi
    obtain ⟨r2, a2, b2⟩ := key j q hj
    exact hD.1 i j r1 r2 a1 a2 (by rw [b1, b2, hpq])
  · obtain ⟨r, a1, b1⟩ := key k q hk
    rw [← b1]; exact hD.2 k r a1

abbrev imax (x y : Int32) : Int32 := if x < y then y else x
abbrev imin (x y : Int32) : Int32 := if y < x then y else x
section KC
variable {E : En} {p : Program} {l : Launch} {e : Env} {R : Room} {s : State} {m : MethodId} {args : Array Value} {below : List Frame} {meth : Method} {c : Code} {H : Heap} {locs : List Loc} {cells slots : Nat} {Q : State → Prop}
variable {A : Nat → Prop} {H0 : Heap} {ws Wc Wc' : va_W} {v : Option Value} {pc : Nat} {ls : Array Slot} {rest st0 : List Value} {a : Array Value}
theorem wd_join {H1 : Heap} (hP : va_P E.1 vwCl ws H) (hD : va_D A ws) (pl : List Nat) (hsub : pl.map (fun i => ws[i]?) = Wc.map some) (had : Wc'.map Prod.fst = Wc.map Prod.fst)
    (hk : ∀ q : Nat, q < H.size → ¬ va_A Wc H.size q → H1[q]? = H[q]?) (hP1 : va_P E.1 vwCl Wc' H1) : va_P E.1 vwCl (setPl ws pl Wc') H1 ∧ va_D A (setPl ws pl Wc') := by
  have hlen : pl.length = Wc'.length := by
    have h1 := congrArg List.length hsub
    have h2 := congrArg List.length had
    simp at h1 h2
    omega
  refine ⟨fun k q hq => ?_, va_D_fst (setPl_fst pl Wc' ws ?_) hD⟩
  · rcases setPl_at pl Wc' ws k q hlen hq with ⟨j, -, h2⟩ | ⟨h1, h2⟩
    · exact hP1 j q h2
    · refine (hP k q h2).kept (hk q.1 (hP k q h2).lt (fun hA => ?_))
      rcases hA with ⟨j, e9, h3⟩ | h3
      · have h4 : (pl.map (fun i => ws[i]?))[j]? = some (some (q.1, e9)) := by rw [hsub, List.getElem?_map, h3]; rfl
        rw [List.getElem?_map] at h4
        cases hi : pl[j]? with
        | none => rw [hi] at h4; cases h4
        | some i =>
          rw [hi] at h4
          have h5 : ws[i]? = some (q.1, e9) := Option.some.inj h4
          have h6 := hD.1 k i q (q.1, e9) h2 h5 rfl
          subst h6
          exact h1 (List.mem_of_getElem? hi)
      · have := (hP k q h2).lt
        omega
  · have e1 : pl.map (fun i => (ws.map Prod.fst)[i]?) = (pl.map (fun i => ws[i]?)).map (Option.map Prod.fst) := by simp [List.map_map, Function.comp_def]
    rw [e1, hsub]
    have e2 : Wc'.map (fun x => some x.1) = (Wc'.map Prod.fst).map some := by simp [List.map_map, Function.comp_def]
    rw [e2, had]
    simp [List.map_map, Function.comp_def]
theorem k_call (hr : va_Run p l e R s m args below meth c H locs cells slots 0 0 (F0 m pc ls st0) rest (Qg E v Wc' (va_A Wc H.size) a) (va_A Wc H.size)) (hw : Wd E A H0 ws H locs) (pl : List Nat) (hsub : pl.map (fun i => ws[i]?) = Wc.map some) (had : Wc'.map Prod.fst = Wc.map Prod.fst)
    (kk : ∀ (H1 : Heap) (locs1 : List Loc), Wd E A H0 (setPl ws pl Wc') H1 locs1 → W p l e R s m args below meth c H1 locs1 cells slots Q (F0 m (pc + 3) ls (v.toList ++ rest))) : W p l e R s m args below meth c H locs cells slots Q (F0 m pc ls st0) := by
  intro T hT X
  obtain ⟨hP, hD, hS, hA⟩ := hw
  obtain ⟨v9, st₀, t, T', L, h0, X', hL, e1, e2, ⟨⟨hv, hP1⟩, hz, hk⟩, st⟩ := hr T hT X
  obtain rfl : v9 = v := by injection hv
  rw [h0] at hz hk
  have hF : ∀ q, va_A Wc H.size q → A q := va_free hD hS hA pl hsub
  have hj := wd_join (H1 := T'.heap) hP hD pl hsub had (fun q h1 h2 => by rw [e1]; exact hk q h1 h2) (by rw [e1]; exact hP1)
  obtain ⟨t2, a1, b1⟩ := kk T'.heap (locs ++ L) ⟨hj.1, hj.2, ⟨Nat.le_trans hS.1 (by rw [e1]; exact hz), fun q h1 h2 => by rw [e1, hk q (Nat.lt_of_lt_of_le h1 hS.1) (fun z => h2 (hF q z))]; exact hS.2.1 q h1 h2, fun q hq => by
      rcases List.mem_append.mp hq with h | h
      · exact hS.2.2 q h
      · exact hF _ (hL q h)⟩, hA⟩ T' rfl X'
  exact ⟨t2, st t2 a1, b1⟩
theorem k_pre {U : State} {av : List Value} (hE : Ev E s) (hC : Ec E A s s.heap) (hw : Wd E A s.heap ws H locs) (pl : List Nat) (hnd : va_nd pl = true) (hsub : pl.map (fun i => ws[i]?) = Wc.map some) (hU : U.heap = H) (hW : s.WarmedH U.vm) : va_Pc av (Pst E Wc H.size) av.toArray U := by
  have hs2 : pl.filterMap (fun i => ws[i]?) = Wc := by
    have h1 : pl.filterMap (fun i => ws[i]?) = (pl.map (fun i => ws[i]?)).filterMap id := by simp [List.filterMap_map, Function.comp_def]
    rw [h1, hsub]
    simp [List.filterMap_map, Function.comp_def]
  exact ⟨rfl, by rw [hU], by rw [hU]; exact hw.1.sub pl hs2, hE.warm hW, (hw.2.1.sub pl hnd hsub).weaken (fun _ _ _ _ => trivial), hC.pass hW.alike (fun q h1 h2 => by rw [hU]; exact hw.2.2.1.2.1 q h1 h2) (va_free hw.2.1 hw.2.2.1 hw.2.2.2 pl hsub)⟩
end KC
section KR
variable {E : En} {p : Program} {l : Launch} {e : Env} {R : Room} {s : State} {m : MethodId} {args : Array Value} {below : List Frame} {meth : Method} {c : Code} {H : Heap} {locs : List Loc} {cells slots : Nat} {Q : State → Prop}
variable {A : Nat → Prop} {H0 : Heap} {ws Wc Wc' : va_W} {v : Option Value} {pc : Nat} {ls : Array Slot} {rest st0 As : List Value} {cc bytes : ByteArray} {nL maxL index n ci : Nat} {own C : String} {ret ret' : Option FieldType} {y : MethodName} {rm : Room} {b : Nat} {fs : List Value} {cq : vw_C}
/-- a virtual call of a method of the class itself, or one that the tables link -/
theorem k_V (X : Bx E A p s m args meth c cc nL own ret) (hC : Cn E l y bytes maxL ret' rm (.ref b :: As) Wc v Wc') (h1 : Cond.methodLink own index y ∈ lwg) (h2 : Cond.instanceMethod y ∈ lwg) (h3 : Cond.selects C y y ∈ lwg) (h4 : Cond.initialized C ∈ lwg) (h5 : Cond.code y bytes maxL ret' ∈ lwg) (hrm : rm.cells = 0 ∧ rm.slots = 0) (hd : y.cls = C ∧ y.cls ≠ "java/lang/invoke/MethodHandle" ∧ y.cls ≠ "java/lang/invoke/VarHandle" ∧ (parseMethodDescriptor y.desc).map (fun d => d.parameters.length) = some n) (hR : rm.frames + 1 ≤ R.frames ∧ 8 + (maxL + 11) + rm.locals ≤ R.locals) (hf : cells ≤ R.cells ∧ slots ≤ R.slots)
    (hw : Wd E A s.heap ws H locs) (pl : List Nat) (hnd : va_nd pl = true) (hsub : pl.map (fun i => ws[i]?) = Wc.map some) (q0 : Nat) (he : ws[q0]? = some (b, .inr (ci, fs))) (hci : vwCl[ci]? = some cq) (hCq : cq.1 = C) (hn : As.length = n) (hls : ls.size = nL) (hst : st0 = As.reverse ++ .ref b :: rest) (hrest : (rest.map fun v => v.category).sum ≤ 8) (hdg : decode cc pc = .ok (.invokevirtual index, 3))
    (kk : ∀ (H1 : Heap) (locs1 : List Loc), Wd E A s.heap (setPl ws pl Wc') H1 locs1 → W p l e R s m args below meth c H1 locs1 cells slots Q (F0 m (pc + 3) ls (v.toList ++ rest))) : W p l e R s m args below meth c H locs cells slots Q (F0 m pc ls st0) := by
  refine k_call (va_runV (b := b) (As := As) (rest := rest) X.1 (hC.2 H.size) (cwV n X.1.2.2.2.2 (gdV h1 h2 h3 h4 h5) rfl hrm.1 hrm.2 hd hR) ⟨blind_Pst, ?_, fun U hU hW => k_pre X.2.2.1 X.2.2.2.2 hw pl hnd hsub hU hW⟩ rfl hn hls hst (lv_room hrest) hdg ⟨by simpa using hf.1, by simpa using hf.2⟩) hw pl hsub hC.1 kk
  rw [← hCq]
  exact va_recv X.2.2.1.1 hw.1 hci he
theorem k_VN {host : String} (X : Bx E A p s m args meth c cc nL own ret) (hC : Cn E l y bytes maxL ret' rm (.ref b :: As) Wc v Wc') (hlk : Cond.methodLinkNest own index y host ∈ nstW) (hini : Cond.initialized y.cls ∈ lwg) (hinst : Cond.instanceMethod y ∈ lwg) (hsel : Cond.selects C y y ∈ lwg) (h5 : Cond.code y bytes maxL ret' ∈ lwg) (hrm : rm.cells = 0 ∧ rm.slots = 0) (hd : y.cls ≠ "java/lang/invoke/MethodHandle" ∧ y.cls ≠ "java/lang/invoke/VarHandle" ∧ (parseMethodDescriptor y.desc).map (fun d => d.parameters.length) = some n) (hR : rm.frames + 1 ≤ R.frames ∧ 8 + (maxL + 11) + rm.locals ≤ R.locals) (hf : cells ≤ R.cells ∧ slots ≤ R.slots)
    (hw : Wd E A s.heap ws H locs) (pl : List Nat) (hnd : va_nd pl = true) (hsub : pl.map (fun i => ws[i]?) = Wc.map some) (q0 : Nat) (he : ws[q0]? = some (b, .inr (ci, fs))) (hci : vwCl[ci]? = some cq) (hCq : cq.1 = C) (hn : As.length = n) (hls : ls.size = nL) (hst : st0 = As.reverse ++ .ref b :: rest) (hrest : (rest.map fun v => v.category).sum ≤ 8) (hdg : decode cc pc = .ok (.invokevirtual index, 3))
    (kk : ∀ (H1 : Heap) (locs1 : List Loc), Wd E A s.heap (setPl ws pl Wc') H1 locs1 → W p l e R s m args below meth c H1 locs1 cells slots Q (F0 m (pc + 3) ls (v.toList ++ rest))) : W p l e R s m args below meth c H locs cells slots Q (F0 m pc ls st0) := by
  have hts := X.1.2.2.2.2
  refine k_call (va_runVN (C := C) (b := b) (As := As) (rest := rest) X.1 (hC.2 H.size) ⟨va_cnB n hts (gdU h5) rfl hrm.1 hrm.2 (X.2.2.1.2 _ hlk) (hts _ hini) hd hR, hts _ hinst, hts _ hsel⟩ ⟨blind_Pst, ?_, fun U hU hW => k_pre X.2.2.1 X.2.2.2.2 hw pl hnd hsub hU hW⟩ rfl hn hls hst (lv_room hrest) hdg ⟨by simpa using hf.1, by simpa using hf.2⟩) hw pl hsub hC.1 kk
  rw [← hCq]
  exact va_recv X.2.2.1.1 hw.1 hci he
theorem k_S (X : Bx E A p s m args meth c cc nL own ret) (hC : Cn E l y bytes maxL ret' rm As Wc v Wc') (h1 : Cond.methodLink own index y ∈ lwg) (h2 : Cond.static y ∈ lwg) (h4 : Cond.initialized own ∈ lwg) (h5 : Cond.code y bytes maxL ret' ∈ lwg) (hrm : rm.cells = 0 ∧ rm.slots = 0) (hd : y.cls = own ∧ y.cls ≠ "java/lang/invoke/MethodHandle" ∧ y.cls ≠ "java/lang/invoke/VarHandle" ∧ (parseMethodDescriptor y.desc).map (fun d => d.parameters.length) = some n) (hR : rm.frames + 1 ≤ R.frames ∧ 8 + (maxL + 11) + rm.locals ≤ R.locals) (hf : cells ≤ R.cells ∧ slots ≤ R.slots)
    (hw : Wd E A s.heap ws H locs) (pl : List Nat) (hnd : va_nd pl = true) (hsub : pl.map (fun i => ws[i]?) = Wc.map some) (hn : As.length = n) (hls : ls.size = nL) (hst : st0 = As.reverse ++ rest) (hrest : (rest.map fun v => v.category).sum ≤ 8) (hdg : decode cc pc = .ok (.invokestatic index, 3))
    (kk : ∀ (H1 : Heap) (locs1 : List Loc), Wd E A s.heap (setPl ws pl Wc') H1 locs1 → W p l e R s m args below meth c H1 locs1 cells slots Q (F0 m (pc + 3) ls (v.toList ++ rest))) : W p l e R s m args below meth c H locs cells slots Q (F0 m pc ls st0) :=
  k_call (va_runS (As := As) (rest := rest) X.1 (hC.2 H.size) (cwS n X.1.2.2.2.2 (gdS h1 h2 h4 h5) rfl hrm.1 hrm.2 hd hR) ⟨blind_Pst, fun U hU hW => k_pre X.2.2.1 X.2.2.2.2 hw pl hnd hsub hU hW⟩ rfl hn hls hst (lv_room hrest) hdg ⟨by simpa using hf.1, by simpa using hf.2⟩) hw pl hsub hC.1 kk
theorem k_SN {host : String} (X : Bx E A p s m args meth c cc nL own ret) (hC : Cn E l y bytes maxL ret' rm As Wc v Wc') (hlk : Cond.methodLinkNest own index y host ∈ nstW) (hini : Cond.initialized y.cls ∈ lwg) (hstat : Cond.static y ∈ lwg) (h5 : Cond.code y bytes maxL ret' ∈ lwg) (hrm : rm.cells = 0 ∧ rm.slots = 0) (hd : y.cls ≠ "java/lang/invoke/MethodHandle" ∧ y.cls ≠ "java/lang/invoke/VarHandle" ∧ (parseMethodDescriptor y.desc).map (fun d => d.parameters.length) = some n) (hR : rm.frames + 1 ≤ R.frames ∧ 8 + (maxL + 11) + rm.locals ≤ R.locals) (hf : cells ≤ R.cells ∧ slots ≤ R.slots)
    (hw : Wd E A s.heap ws H locs) (pl : List Nat) (hnd : va_nd pl = true) (hsub : pl.map (fun i => ws[i]?) = Wc.map some) (hn : As.length = n) (hls : ls.size = nL) (hst : st0 = As.reverse ++ rest) (hrest : (rest.map fun v => v.category).sum ≤ 8) (hdg : decode cc pc = .ok (.invokestatic index, 3))
    (kk : ∀ (H1 : Heap) (locs1 : List Loc), Wd E A s.heap (setPl ws pl Wc') H1 locs1 → W p l e R s m args below meth c H1 locs1 cells slots Q (F0 m (pc + 3) ls (v.toList ++ rest))) : W p l e R s m args below meth c H locs cells slots Q (F0 m pc ls st0) := by
  have hts := X.1.2.2.2.2
  exact k_call (va_runSN (As := As) (rest := rest) X.1 (hC.2 H.size) ⟨va_cnB n hts (gdU h5) rfl hrm.1 hrm.2 (X.2.2.1.2 _ hlk) (hts _ hini) hd hR, hts _ hstat, trivial⟩ ⟨blind_Pst, fun U hU hW => k_pre X.2.2.1 X.2.2.2.2 hw pl hnd hsub hU hW⟩ rfl hn hls hst (lv_room hrest) hdg ⟨by simpa using hf.1, by simpa using hf.2⟩) hw pl hsub hC.1 kk
/-! the ends -/
theorem k_iret {r : Int32} (X : Bx E A p s m args meth c cc nL own (some .int)) (hw : Wd E A s.heap ws H locs) (hdg : decode cc pc = .ok (.ireturn, 1)) : W p l e R s m args below meth c H locs 0 0 (Zn E below args s A (some (.int r)) ws) (F0 m pc ls [.int r]) :=
  W.iret X.1.1 X.1.2.1 X.2.1 (fun t ht hW => ⟨⟨rfl, by rw [ht]; exact hw.1⟩, hw.2.2.1.F ht⟩) hw.2.2.1.2.2 hdg (hlocks := X.2.2.2.1)
theorem k_zret {r : Int32} (X : Bx E A p s m args meth c cc nL own (some .boolean)) (hr : r = 0 ∨ r = 1) (hw : Wd E A s.heap ws H locs) (hdg : decode cc pc = .ok (.ireturn, 1)) : W p l e R s m args below meth c H locs 0 0 (Zn E below args s A (some (.int r)) ws) (F0 m pc ls [.int r]) :=
  W.zret X.1.1 X.1.2.1 X.2.1 (by rcases hr with rfl | rfl <;> rfl) (fun t ht hW => ⟨⟨rfl, by rw [ht]; exact hw.1⟩, hw.2.2.1.F ht⟩) hw.2.2.1.2.2 hdg (hlocks := X.2.2.2.1)
theorem k_lret {r : Int64} (X : Bx E A p s m args meth c cc nL own (some .long)) (hw : Wd E A s.heap ws H locs) (hdg : decode cc pc = .ok (.lreturn, 1)) : W p l e R s m args below meth c H locs 0 0 (Zn E below args s A (some (.long r)) ws) (F0 m pc ls [.long r]) :=
  W.lret X.1.1 X.1.2.1 X.2.1 (fun t ht hW => ⟨⟨rfl, by rw [ht]; exact hw.1⟩, hw.2.2.1.F ht⟩) hw.2.2.1.2.2 hdg (hlocks := X.2.2.2.1)
theorem k_vret (X : Bx E A p s m args meth c cc nL own none) (hw : Wd E A s.heap ws H locs) (hdg : decode cc pc = .ok (.return_, 1)) : W p l e R s m args below meth c H locs 0 0 (Zn E below args s A none ws) (F0 m pc ls []) :=
  W.vret X.1.1 X.1.2.1 X.2.1 (fun t ht hW => ⟨⟨rfl, by rw [ht]; exact hw.1⟩, hw.2.2.1.F ht⟩) hw.2.2.1.2.2 hdg (hlocks := X.2.2.2.1)
/-! fields and arrays -/
theorem k_get {T : u_T} {N q0 : Nat} (X : Bx E A p s m args meth c cc nL own ret) (hin : ∀ w ∈ u_ws C T N, w ∈ lwg) (hw : Wd E A H0 ws H locs) (he : ws[q0]? = some (b, .inr (ci, fs))) (hc : vwCl[ci]? = some (C, T, N)) (k : Nat) (hk : k < N) (hT : (T k).1 = C) (hlink : Cond.fieldLink own index C (T k).2.1 (T k).2.2.1 ∈ lwg) {x : Value} (hv : fs[k]? = some x) (hdg : decode cc pc = .ok (.getfield index, 3))
    (kk : W p l e R s m args below meth c H locs cells slots Q (F0 m (pc + 3) ls (x :: rest))) : W p l e R s m args below meth c H locs cells slots Q (F0 m pc ls (.ref b :: rest)) :=
  va_get X.1.1 X.1.2.1 X.1.2.2.2.2 hin X.1.2.2.2.1 X.2.2.1.1 hw.1 q0 he hc k hk (X.1.2.2.2.2 _ hlink) (fun _ h => by rw [hT] at h; exact h) hv hdg kk
theorem k_getN {T : u_T} {N q0 : Nat} {host : String} (X : Bx E A p s m args meth c cc nL own ret) (hin : ∀ w ∈ u_ws C T N, w ∈ lwg) (hw : Wd E A H0 ws H locs) (he : ws[q0]? = some (b, .inr (ci, fs))) (hc : vwCl[ci]? = some (C, T, N)) (k : Nat) (hk : k < N) (hT : (T k).1 = C) (hlink : Cond.fieldLinkNest own index C (T k).2.1 (T k).2.2.1 host ∈ nstW) {x : Value} (hv : fs[k]? = some x) (hdg : decode cc pc = .ok (.getfield index, 3))
    (kk : W p l e R s m args below meth c H locs cells slots Q (F0 m (pc + 3) ls (x :: rest))) : W p l e R s m args below meth c H locs cells slots Q (F0 m pc ls (.ref b :: rest)) :=
  va_getN X.1.1 X.1.2.1 X.1.2.2.2.2 hin X.1.2.2.2.1 X.2.2.1.1 hw.1 q0 he hc k hk (va_Nw.use rfl (X.2.2.1.2 _ hlink)) (fun _ h => by rw [hT] at h; exact h) hv hdg kk
theorem k_put {T : u_T} {N q0 : Nat} {ty0 : Nat → FieldType} (X : Bx E A p s m args meth c cc nL own ret) (hin : ∀ w ∈ u_ws C T N, w ∈ lwg) (hty : ∀ k, k < N → parseFieldDescriptor (T k).2.2.1 = some (ty0 k)) (hnm : ∀ a, a < N → ∀ b, b < N → a ≠ b → (T a).2.1 ≠ (T b).2.1) (hw : Wd E A H0 ws H locs) (he : ws[q0]? = some (b, .inr (ci, fs))) (hc : vwCl[ci]? = some (C, T, N)) (k : Nat) (hk : k < N) (hT : (T k).1 = C) (hfin : (T k).2.2.2 = false) (hlink : Cond.fieldLink own index C (T k).2.1 (T k).2.2.1 ∈ lwg) {x : Value} (hn : narrow (ty0 k) x = x) (hfit : fits (ty0 k) x = true) (hl : k < fs.length) (hdg : decode cc pc = .ok (.putfield index, 3))
    (kk : ∀ (H1 : Heap) (locs1 : List Loc), Wd E A H0 (ws.set q0 (b, .inr (ci, fs.set k x))) H1 locs1 → W p l e R s m args below meth c H1 locs1 cells slots Q (F0 m (pc + 3) ls rest)) : W p l e R s m args below meth c H locs cells slots Q (F0 m pc ls (x :: .ref b :: rest)) :=
  va_put X.1.1 X.1.2.1 X.1.2.2.2.2 hin ty0 hty hnm X.1.2.2.2.1 X.2.2.1.1 hw.1 hw.2.1 hw.2.2.1 q0 he hc k hk (X.1.2.2.2.2 _ hlink) (fun _ h => by rw [hT] at h; exact h) hfin (hty k hk) hn hfit hl hdg (fun H1 locs1 h1 h2 h3 => kk H1 locs1 ⟨h1, h2, h3, hw.2.2.2⟩)
theorem k_putN {T : u_T} {N q0 : Nat} {host : String} {ty0 : Nat → FieldType} (X : Bx E A p s m args meth c cc nL own ret) (hin : ∀ w ∈ u_ws C T N, w ∈ lwg) (hty : ∀ k, k < N → parseFieldDescriptor (T k).2.2.1 = some (ty0 k)) (hnm : ∀ a, a < N → ∀ b, b < N → a ≠ b → (T a).2.1 ≠ (T b).2.1) (hw : Wd E A H0 ws H locs) (he : ws[q0]? = some (b, .inr (ci, fs))) (hc : vwCl[ci]? = some (C, T, N)) (k : Nat) (hk : k < N) (hT : (T k).1 = C) (hfin : (T k).2.2.2 = false) (hlink : Cond.fieldLinkNest own index C (T k).2.1 (T k).2.2.1 host ∈ nstW) {x : Value} (hn : narrow (ty0 k) x = x) (hfit : fits (ty0 k) x = true) (hl : k < fs.length) (hdg : decode cc pc = .ok (.putfield index, 3))
    (kk : ∀ (H1 : Heap) (locs1 : List Loc), Wd E A H0 (ws.set q0 (b, .inr (ci, fs.set k x))) H1 locs1 → W p l e R s m args below meth c H1 locs1 cells slots Q (F0 m (pc + 3) ls rest)) : W p l e R s m args below meth c H locs cells slots Q (F0 m pc ls (x :: .ref b :: rest)) :=
  va_putN X.1.1 X.1.2.1 X.1.2.2.2.2 hin ty0 hty hnm X.1.2.2.2.1 X.2.2.1.1 hw.1 hw.2.1 hw.2.2.1 q0 he hc k hk (va_Nw.use rfl (X.2.2.1.2 _ hlink)) (fun _ h => by rw [hT] at h; exact h) hfin (hty k hk) hn hfit hl hdg (fun H1 locs1 h1 h2 h3 => kk H1 locs1 ⟨h1, h2, h3, hw.2.2.2⟩)
theorem k_iald {q0 n : Nat} {f : Nat → Int32} {i : Int32} (X : Bx E A p s m args meth c cc nL own ret) (hw : Wd E A H0 ws H locs) (ha : ws[q0]? = some (b, .inl (E.2.1 0, n, .inl f))) (hin : vp_in i n) (hdg : decode cc pc = .ok (.iaload, 1))
    (kk : W p l e R s m args below meth c H locs cells slots Q (F0 m (pc + 1) ls (.int (f i.toNatClampNeg) :: rest))) : W p l e R s m args below meth c H locs cells slots Q (F0 m pc ls (.int i :: .ref b :: rest)) :=
  va_iald X.1.1 X.1.2.1 X.2.2.1.1 hw.1 q0 0 ha rfl hin hdg kk
theorem k_iast {q0 n : Nat} {f : Nat → Int32} {i x : Int32} (X : Bx E A p s m args meth c cc nL own ret) (hw : Wd E A H0 ws H locs) (ha : ws[q0]? = some (b, .inl (E.2.1 0, n, .inl f))) (hin : vp_in i n) (hdg : decode cc pc = .ok (.iastore, 1))
    (kk : ∀ (H1 : Heap) (locs1 : List Loc), Wd E A H0 (ws.set q0 (b, .inl (E.2.1 0, n, .inl (upd f i.toNatClampNeg x)))) H1 locs1 → W p l e R s m args below meth c H1 locs1 cells slots Q (F0 m (pc + 1) ls rest)) : W p l e R s m args below meth c H locs cells slots Q (F0 m pc ls (.int x :: .int i :: .ref b :: rest)) :=
  va_iast X.1.1 X.1.2.1 X.2.2.1.1 hw.1 hw.2.1 hw.2.2.1 q0 0 ha rfl hin hdg (fun H1 locs1 h1 h2 h3 => kk H1 locs1 ⟨h1, h2, h3, hw.2.2.2⟩)
theorem k_lald {q0 n : Nat} {f : Nat → Int64} {i : Int32} (X : Bx E A p s m args meth c cc nL own ret) (hw : Wd E A H0 ws H locs) (ha : ws[q0]? = some (b, .inl (E.2.1 1, n, .inr (.inl f)))) (hin : vp_in i n) (hdg : decode cc pc = .ok (.laload, 1))
    (kk : W p l e R s m args below meth c H locs cells slots Q (F0 m (pc + 1) ls (.long (f i.toNatClampNeg) :: rest))) : W p l e R s m args below meth c H locs cells slots Q (F0 m pc ls (.int i :: .ref b :: rest)) :=
  va_lald X.1.1 X.1.2.1 X.2.2.1.1 hw.1 q0 1 ha rfl hin hdg kk
theorem k_last {q0 n : Nat} {f : Nat → Int64} {i : Int32} {x : Int64} (X : Bx E A p s m args meth c cc nL own ret) (hw : Wd E A H0 ws H locs) (ha : ws[q0]? = some (b, .inl (E.2.1 1, n, .inr (.inl f)))) (hin : vp_in i n) (hdg : decode cc pc = .ok (.lastore, 1))
    (kk : ∀ (H1 : Heap) (locs1 : List Loc), Wd E A H0 (ws.set q0 (b, .inl (E.2.1 1, n, .inr (.inl (vp_updL f i.toNatClampNeg x))))) H1 locs1 → W p l e R s m args below meth c H1 locs1 cells slots Q (F0 m (pc + 1) ls rest)) : W p l e R s m args below meth c H locs cells slots Q (F0 m pc ls (.long x :: .int i :: .ref b :: rest)) :=
  va_last X.1.1 X.1.2.1 X.2.2.1.1 hw.1 hw.2.1 hw.2.2.1 q0 1 ha rfl hin hdg (fun H1 locs1 h1 h2 h3 => kk H1 locs1 ⟨h1, h2, h3, hw.2.2.2⟩)
theorem k_alen {q0 t0 : Nat} {cA : ClassId} {x : vp_A} {ty : FieldType} {v9 : Int32} (X : Bx E A p s m args meth c cc nL own ret) (hw : Wd E A H0 ws H locs) (ha : ws[q0]? = some (b, .inl (cA, x))) (ht : (tyE E)[t0]? = some (cA, ty)) (hv : Int32.ofNat x.1 = v9) (hdg : decode cc pc = .ok (.arraylength, 1))
    (kk : W p l e R s m args below meth c H locs cells slots Q (F0 m (pc + 1) ls (.int v9 :: rest))) : W p l e R s m args below meth c H locs cells slots Q (F0 m pc ls (.ref b :: rest)) :=
  va_alen X.1.1 X.1.2.1 X.2.2.1.1 hw.1 q0 t0 ha ht hv hdg kk
theorem k_zald {q0 n : Nat} {f : Nat → Int32} {i : Int32} (X : Bx E A p s m args meth c cc nL own ret) (hw : Wd E A H0 ws H locs) (ha : ws[q0]? = some (b, .inl (E.2.1 2, n, .inl f))) (hin : vp_in i n) (hdg : decode cc pc = .ok (.baload, 1))
    (kk : W p l e R s m args below meth c H locs cells slots Q (F0 m (pc + 1) ls (.int (f i.toNatClampNeg) :: rest))) : W p l e R s m args below meth c H locs cells slots Q (F0 m pc ls (.int i :: .ref b :: rest)) :=
  va_zald X.1.1 X.1.2.1 X.2.2.1.1 hw.1 q0 2 ha rfl hin hdg kk
theorem k_zast {q0 n : Nat} {f : Nat → Int32} {i x : Int32} (X : Bx E A p s m args meth c cc nL own ret) (hw : Wd E A H0 ws H locs) (ha : ws[q0]? = some (b, .inl (E.2.1 2, n, .inl f))) (hin : vp_in i n) (hdg : decode cc pc = .ok (.bastore, 1))
    (kk : ∀ (H1 : Heap) (locs1 : List Loc), Wd E A H0 (ws.set q0 (b, .inl (E.2.1 2, n, .inl (upd f i.toNatClampNeg (vp_nar .boolean x))))) H1 locs1 → W p l e R s m args below meth c H1 locs1 cells slots Q (F0 m (pc + 1) ls rest)) : W p l e R s m args below meth c H locs cells slots Q (F0 m pc ls (.int x :: .int i :: .ref b :: rest)) :=
  va_zast X.1.1 X.1.2.1 X.2.2.1.1 hw.1 hw.2.1 hw.2.2.1 q0 2 ha rfl hin hdg (fun H1 locs1 h1 h2 h3 => kk H1 locs1 ⟨h1, h2, h3, hw.2.2.2⟩)
theorem k_max {x z : Int32} (X : Bx E A p s m args meth c cc nL own ret) (h1 : Cond.methodLink own index Lib.Math.max.name ∈ lwg) (h2 : Cond.static Lib.Math.max.name ∈ lwg) (h3 : Cond.initialized "java/lang/Math" ∈ lwg) (h4 : Cond.code Lib.Math.max.name Lib.Math.max.code 2 (some .int) ∈ lwg) (hfr : 1 ≤ R.frames) (hlo : (rest.map fun v => v.category).sum + 13 ≤ R.locals) (hf : cells ≤ R.cells ∧ slots ≤ R.slots) (hls : ls.size = nL) (hdg : decode cc pc = .ok (.invokestatic index, 3))
    (kk : W p l e R s m args below meth c H locs cells slots Q (F0 m (pc + 3) ls (.int (imax x z) :: rest))) : W p l e R s m args below meth c H locs cells slots Q (F0 m pc ls (.int z :: .int x :: rest)) :=
  va_mmax X.1.1 X.1.2.1 (X.1.2.2.1.trans hls.symm) X.1.2.2.2.1 (X.1.2.2.2.2 _ h1) (X.1.2.2.2.2 _ h2) (X.1.2.2.2.2 _ h3) (X.1.2.2.2.2 _ h4) hfr hlo hf.1 hf.2 hdg kk
theorem k_min {x z : Int32} (X : Bx E A p s m args meth c cc nL own ret) (h1 : Cond.methodLink own index Lib.Math.min.name ∈ lwg) (h2 : Cond.static Lib.Math.min.name ∈ lwg) (h3 : Cond.initialized "java/lang/Math" ∈ lwg) (h4 : Cond.code Lib.Math.min.name Lib.Math.min.code 2 (some .int) ∈ lwg) (hfr : 1 ≤ R.frames) (hlo : (rest.map fun v => v.category).sum + 13 ≤ R.locals) (hf : cells ≤ R.cells ∧ slots ≤ R.slots) (hls : ls.size = nL) (hdg : decode cc pc = .ok (.invokestatic index, 3))
    (kk : W p l e R s m args below meth c H locs cells slots Q (F0 m (pc + 3) ls (.int (imin x z) :: rest))) : W p l e R s m args below meth c H locs cells slots Q (F0 m pc ls (.int z :: .int x :: rest)) :=
  va_mmin X.1.1 X.1.2.1 (X.1.2.2.1.trans hls.symm) X.1.2.2.2.1 (X.1.2.2.2.2 _ h1) (X.1.2.2.2.2 _ h2) (X.1.2.2.2.2 _ h3) (X.1.2.2.2.2 _ h4) hfr hlo hf.1 hf.2 hdg kk
end KR
/-! guards of the functional texts -/
def gd {α : Type} (i : Int32) (n : Nat) (k : Option α) : Option α := if i < 0 ∨ n ≤ i.toNatClampNeg then none else k
theorem gd_some {α : Type} {i : Int32} {n : Nat} {k : Option α} {o : α} (h : gd i n k = some o) : vp_in i n ∧ k = some o := by
  unfold gd at h
  by_cases hc : i < 0 ∨ n ≤ i.toNatClampNeg
  · rw [if_pos hc] at h; cases h
  · rw [if_neg hc] at h; exact ⟨hc, h⟩
theorem gd_ok {α : Type} {i : Int32} {n : Nat} {k : Option α} (h : vp_in i n) : gd i n k = k := if_neg h
def zg {α : Type} (v : Int32) (k : Option α) : Option α := if v = 0 ∨ v = 1 then k else none
theorem zg_some {α : Type} {v : Int32} {k : Option α} {o : α} (h : zg v k = some o) : (v = 0 ∨ v = 1) ∧ k = some o := by
  unfold zg at h
  by_cases hc : v = 0 ∨ v = 1
  · rw [if_pos hc] at h; exact ⟨hc, h⟩
  · rw [if_neg hc] at h; cases h
theorem bd_some {α β : Type} {x : Option α} {k : α → Option β} {o : β} (h : x.bind k = some o) : ∃ r, x = some r ∧ k r = some o := by
  cases x with
  | none => cases h
  | some r => exact ⟨r, rfl, h⟩
def ng {α : Type} (v : Int32) (k : Option α) : Option α := if v = 0 then none else k
theorem ng_some {α : Type} {v : Int32} {k : Option α} {o : α} (h : ng v k = some o) : v ≠ 0 ∧ k = some o := by
  unfold ng at h
  by_cases hc : v = 0
  · rw [if_pos hc] at h; cases h
  · rw [if_neg hc] at h; exact ⟨hc, h⟩
def ngl {α : Type} (v : Int64) (k : Option α) : Option α := if v = 0 then none else k
theorem ngl_some {α : Type} {v : Int64} {k : Option α} {o : α} (h : ngl v k = some o) : v ≠ 0 ∧ k = some o := by
  unfold ngl at h
  by_cases hc : v = 0
  · rw [if_pos hc] at h; cases h
  · rw [if_neg hc] at h; exact ⟨hc, h⟩
theorem nar_z {v : Int32} (h : v = 0 ∨ v = 1) : narrow .boolean (.int v) = .int v := by rcases h with rfl | rfl <;> rfl
theorem fit_z {v : Int32} (h : v = 0 ∨ v = 1) : fits .boolean (.int v) = true := by rcases h with rfl | rfl <;> rfl
theorem ite_z {c : Prop} [Decidable c] {a b : Int32} (ha : a = 0 ∨ a = 1) (hb : b = 0 ∨ b = 1) : (if c then a else b) = 0 ∨ (if c then a else b) = 1 := by
  by_cases h : c
  · rw [if_pos h]; exact ha
  · rw [if_neg h]; exact hb
