/-! values that are words of the language (or null), by their places -/
def en {α : Type} (x : Option Nat) (k : Nat → Option α) : Option α := match x with
  | none => none
  | some i => if i < 32 then k i else none
theorem en_some {α : Type} {x : Option Nat} {k : Nat → Option α} {o : α} (h : en x k = some o) : ∃ i, x = some i ∧ i < 32 ∧ k i = some o := by
  cases x with
  | none => cases h
  | some i =>
    have h : (if i < 32 then k i else none) = some o := h
    by_cases hi : i < 32
    · rw [if_pos hi] at h; exact ⟨i, rfl, hi, h⟩
    · rw [if_neg hi] at h; cases h
def eok (x : Option Nat) : Bool := match x with
  | none => true
  | some i => decide (i < 32)
def eg {α : Type} (x : Option Nat) (k : Option α) : Option α := if eok x then k else none
theorem eg_some {α : Type} {x : Option Nat} {k : Option α} {o : α} (h : eg x k = some o) : eok x = true ∧ k = some o := by
  unfold eg at h
  by_cases hc : eok x = true
  · rw [if_pos hc] at h; exact ⟨hc, h⟩
  · rw [if_neg hc] at h; cases h
theorem eok_lt {x : Option Nat} (h : eok x = true) {i : Nat} (hi : x = some i) : i < 32 := by
  subst hi; exact of_decide_eq_true h
section KE
variable {E : En} {p : Program} {l : Launch} {e : Env} {R : Room} {s : State} {m : MethodId} {args : Array Value} {below : List Frame} {meth : Method} {c : Code} {H : Heap} {locs : List Loc} {cells slots : Nat} {Q : State → Prop}
variable {A : Nat → Prop} {ws : va_W} {pc : Nat} {ls : Array Slot} {rest : List Value} {cc : ByteArray} {nL index : Nat} {own : String} {ret : Option FieldType} {x z : Option Nat}
theorem k_aload_nE {ad : Nat → Nat} {k : Fin 4} {i : Nat} (hx : p.tables.exec = Jvm.exec) (hb : c.code = cc) (hdg : decode cc pc = .ok (.aload_n k, 1)) (hi : (k : Nat) = i) (hl : ls[i]? = some (.val (va_re ad x)))
    (kk : W p l e R s m args below meth c H locs cells slots Q (F0 m (pc + 1) ls (va_re ad x :: rest))) : W p l e R s m args below meth c H locs cells slots Q (F0 m pc ls rest) := by
  cases x with
  | none => exact lv_aload_nN hx hb hdg hi hl kk
  | some a => exact lv_aload_n hx hb hdg hi hl kk
theorem k_aloadE {ad : Nat → Nat} {i : Nat} (hx : p.tables.exec = Jvm.exec) (hb : c.code = cc) (hdg : decode cc pc = .ok (.aload i, 2)) (hl : ls[i]? = some (.val (va_re ad x)))
    (kk : W p l e R s m args below meth c H locs cells slots Q (F0 m (pc + 2) ls (va_re ad x :: rest))) : W p l e R s m args below meth c H locs cells slots Q (F0 m pc ls rest) := by
  cases x with
  | none => exact lv_aloadN hx hb hdg hl kk
  | some a => exact lv_aload hx hb hdg hl kk
theorem k_astore_nE {ad : Nat → Nat} {k : Fin 4} {i : Nat} {lv lv' : List (Nat × Value)} (hx : p.tables.exec = Jvm.exec) (hb : c.code = cc) (hdg : decode cc pc = .ok (.astore_n k, 1)) (hi : (k : Nat) = i) (h : lv_has ls nL lv) (hn : i < nL) (hl : (i, va_re ad x) :: lv.filter (fun q => !(q.1 == i) && !(q.1 + 1 == i && q.2.category == 2)) = lv')
    (kk : ∀ ls' : Array Slot, lv_has ls' nL lv' → W p l e R s m args below meth c H locs cells slots Q (F0 m (pc + 1) ls' rest)) : W p l e R s m args below meth c H locs cells slots Q (F0 m pc ls (va_re ad x :: rest)) := by
  cases x with
  | none => exact lv_astore_nN hx hb hdg hi h hn hl kk
  | some a => exact lv_astore_n hx hb hdg hi h hn hl kk
/-- a constant of the enum -/
theorem k_const {i : Nat} {ref : String} (X : Bx E A p s m args meth c cc nL own ret) (hw : Wd E A s.heap ws H locs) (hi : i < 32) (href : ref = RX11) (hlink : Cond.fieldLink own index ref (eNm.getD i "") "LPloughCall$Word;" ∈ lwg) (hdg : decode cc pc = .ok (.getstatic index, 3))
    (kk : W p l e R s m args below meth c H locs cells slots Q (F0 m (pc + 3) ls (va_re E.2.2 (some i) :: rest))) : W p l e R s m args below meth c H locs cells slots Q (F0 m pc ls rest) := by
  subst href
  exact va_gets X.1.1 X.1.2.1 (X.2.2.2.2.1.1 i hi).1 hw.2.2.1 X.1.2.2.2.1 (X.1.2.2.2.2 _ hlink) (fun _ h => h) hdg kk
theorem e_inj (X : Bx E A p s m args meth c cc nL own ret) (hx : eok x = true) (hz : eok z = true) : x.map E.2.2 = z.map E.2.2 ↔ x = z := by
  constructor
  · intro h
    cases x with
    | none => cases z with
      | none => rfl
      | some b => cases h
    | some a => cases z with
      | none => cases h
      | some b =>
        have h1 : E.2.2 a = E.2.2 b := by injection h
        rw [X.2.2.2.2.1.2 a b (eok_lt hx rfl) (eok_lt hz rfl) h1]
  · rintro rfl; rfl
theorem k_acmp_eq {off : Int} {tgt : Nat} (X : Bx E A p s m args meth c cc nL own ret) (hx : eok x = true) (hz : eok z = true) (hdg : decode cc pc = .ok (.if_acmp .eq off, 3)) (ht : (pc : Int) + off = (tgt : Int))
    (kt : x = z → W p l e R s m args below meth c H locs cells slots Q (F0 m tgt ls rest)) (kf : ¬ x = z → W p l e R s m args below meth c H locs cells slots Q (F0 m (pc + 3) ls rest)) : W p l e R s m args below meth c H locs cells slots Q (F0 m pc ls (va_re E.2.2 z :: va_re E.2.2 x :: rest)) :=
  lv_acmp_eq (rx := x.map E.2.2) (ry := z.map E.2.2) X.1.1 X.1.2.1 hdg ht (fun h => kt ((e_inj X hx hz).mp h)) (fun h => kf (fun q => h ((e_inj X hx hz).mpr q)))
theorem k_acmp_ne {off : Int} {tgt : Nat} (X : Bx E A p s m args meth c cc nL own ret) (hx : eok x = true) (hz : eok z = true) (hdg : decode cc pc = .ok (.if_acmp .ne off, 3)) (ht : (pc : Int) + off = (tgt : Int))
    (kt : ¬ x = z → W p l e R s m args below meth c H locs cells slots Q (F0 m tgt ls rest)) (kf : x = z → W p l e R s m args below meth c H locs cells slots Q (F0 m (pc + 3) ls rest)) : W p l e R s m args below meth c H locs cells slots Q (F0 m pc ls (va_re E.2.2 z :: va_re E.2.2 x :: rest)) :=
  lv_acmp_ne (rx := x.map E.2.2) (ry := z.map E.2.2) X.1.1 X.1.2.1 hdg ht (fun h => kt (fun q => h ((e_inj X hx hz).mpr q))) (fun h => kf ((e_inj X hx hz).mp h))
theorem k_ifnullE {ad : Nat → Nat} {off : Int} {tgt : Nat} (hx : p.tables.exec = Jvm.exec) (hb : c.code = cc) (hdg : decode cc pc = .ok (.ifnull off, 3)) (ht : (pc : Int) + off = (tgt : Int))
    (kt : x = none → W p l e R s m args below meth c H locs cells slots Q (F0 m tgt ls rest)) (kf : ¬ x = none → W p l e R s m args below meth c H locs cells slots Q (F0 m (pc + 3) ls rest)) : W p l e R s m args below meth c H locs cells slots Q (F0 m pc ls (va_re ad x :: rest)) := by
  cases x with
  | none => exact lv_ifnullN hx hb hdg ht (kt rfl)
  | some a => exact lv_ifnull hx hb hdg (kf (by simp))
theorem k_ifnonnullE {ad : Nat → Nat} {off : Int} {tgt : Nat} (hx : p.tables.exec = Jvm.exec) (hb : c.code = cc) (hdg : decode cc pc = .ok (.ifnonnull off, 3)) (ht : (pc : Int) + off = (tgt : Int))
    (kt : ¬ x = none → W p l e R s m args below meth c H locs cells slots Q (F0 m tgt ls rest)) (kf : x = none → W p l e R s m args below meth c H locs cells slots Q (F0 m (pc + 3) ls rest)) : W p l e R s m args below meth c H locs cells slots Q (F0 m pc ls (va_re ad x :: rest)) := by
  cases x with
  | none => exact lv_ifnonnullN hx hb hdg (kf rfl)
  | some a => exact lv_ifnonnull hx hb hdg ht (kt (by simp))
theorem k_res {i : Nat} (X : Bx E A p s m args meth c cc nL own ret) (hw : Wd E A s.heap ws H locs) (hxi : x = some i) (hi : i < 32) (hlink : Cond.fieldLinkNest own index RX11 "reserved" "Z" "PloughCall" ∈ nstW) (hdg : decode cc pc = .ok (.getfield index, 3))
    (kk : W p l e R s m args below meth c H locs cells slots Q (F0 m (pc + 3) ls (.int (eRes i) :: rest))) : W p l e R s m args below meth c H locs cells slots Q (F0 m pc ls (va_re E.2.2 x :: rest)) := by
  subst hxi
  obtain ⟨cf, k, fi, f, cell, h1, h2, h3, h4, h5, -⟩ := ((X.2.2.2.2.1.1 i hi).2.2 (RX11, "reserved", "Z", eResL) (by simp [eF])).kept hw.2.2.1.2.1
  exact va_Wgetf X.1.1 X.1.2.1 X.1.2.2.2.1 (va_Nw.use rfl (X.2.2.1.2 _ hlink)) h1 h2 h3 h4 h5 rfl rfl hdg kk
theorem k_eret {ad : Nat → Nat} {rt : FieldType} (X : Bx E A p s m args meth c cc nL own (some rt)) (hrt : ∃ n, rt = .object n) (hw : Wd E A s.heap ws H locs) (hdg : decode cc pc = .ok (.areturn, 1)) : W p l e R s m args below meth c H locs 0 0 (Zn E below args s A (some (va_re ad x)) ws) (F0 m pc ls [va_re ad x]) :=
  W.aret X.1.1 X.1.2.1 X.2.1 (Or.inl hrt) (va_re_or _ _) (fun t ht hW => ⟨⟨rfl, by rw [ht]; exact hw.1⟩, hw.2.2.1.F ht⟩) hw.2.2.1.2.2 hdg (hlocks := X.2.2.2.1)

theorem k_swt {ref : String} (X : Bx E A p s m args meth c cc nL own ret) (hw : Wd E A s.heap ws H locs) (hlink : Cond.fieldLink own index RX0 "$SwitchMap$PloughCall$Word" "[I" ∈ lwg) (hdg : decode cc pc = .ok (.getstatic index, 3))
    (kk : W p l e R s m args below meth c H locs cells slots Q (F0 m (pc + 3) ls (.ref (E.2.2 101) :: rest))) : W p l e R s m args below meth c H locs cells slots Q (F0 m pc ls rest) :=
  va_gets X.1.1 X.1.2.1 X.2.2.2.2.2.2.2.1 hw.2.2.1 X.1.2.2.2.1 (X.1.2.2.2.2 _ hlink) (fun _ h => h) hdg kk
theorem k_swi {i : Int32} (X : Bx E A p s m args meth c cc nL own ret) (hw : Wd E A s.heap ws H locs) (hin : vp_in i 32) (hdg : decode cc pc = .ok (.iaload, 1))
    (kk : W p l e R s m args below meth c H locs cells slots Q (F0 m (pc + 1) ls (.int (eSw i.toNatClampNeg) :: rest))) : W p l e R s m args below meth c H locs cells slots Q (F0 m pc ls (.int i :: .ref (E.2.2 101) :: rest)) :=
  va_ti X.1.1 X.1.2.1 X.2.2.2.2.2.2.2.2 hw.2.2.1 hin rfl hdg kk
theorem k_wt (X : Bx E A p s m args meth c cc nL own ret) (hw : Wd E A s.heap ws H locs) (hlink : Cond.fieldLink own index RX11 "WORDS" "[LPloughCall$Word;" ∈ lwg) (hdg : decode cc pc = .ok (.getstatic index, 3))
    (kk : W p l e R s m args below meth c H locs cells slots Q (F0 m (pc + 3) ls (.ref (E.2.2 100) :: rest))) : W p l e R s m args below meth c H locs cells slots Q (F0 m pc ls rest) :=
  va_gets X.1.1 X.1.2.1 X.2.2.2.2.2.2.1.1 hw.2.2.1 X.1.2.2.2.1 (X.1.2.2.2.2 _ hlink) (fun _ h => h) hdg kk
theorem k_wtl (X : Bx E A p s m args meth c cc nL own ret) (hw : Wd E A s.heap ws H locs) (hdg : decode cc pc = .ok (.arraylength, 1))
    (kk : W p l e R s m args below meth c H locs cells slots Q (F0 m (pc + 1) ls (.int (32 : Int32) :: rest))) : W p l e R s m args below meth c H locs cells slots Q (F0 m pc ls (.ref (E.2.2 100) :: rest)) :=
  va_tlen X.1.1 X.1.2.1 X.2.2.2.2.2.2.1.2 hw.2.2.1 (by decide) hdg kk
theorem k_wti {i : Int32} (X : Bx E A p s m args meth c cc nL own ret) (hw : Wd E A s.heap ws H locs) (hin : vp_in i 32) (hdg : decode cc pc = .ok (.aaload, 1))
    (kk : W p l e R s m args below meth c H locs cells slots Q (F0 m (pc + 1) ls (va_re E.2.2 (some i.toNatClampNeg) :: rest))) : W p l e R s m args below meth c H locs cells slots Q (F0 m pc ls (.int i :: .ref (E.2.2 100) :: rest)) :=
  vb_tq X.1.1 X.1.2.1 X.2.2.2.2.2.2.1.2 hw.2.2.1 hin rfl hdg kk
theorem k_let {i : Nat} (X : Bx E A p s m args meth c cc nL own ret) (hw : Wd E A s.heap ws H locs) (hxi : x = some i) (hi : i < 32) (hlink : Cond.fieldLink own index RX11 "letters" "J" ∈ lwg) (hdg : decode cc pc = .ok (.getfield index, 3))
    (kk : W p l e R s m args below meth c H locs cells slots Q (F0 m (pc + 3) ls (.long (eLet i) :: rest))) : W p l e R s m args below meth c H locs cells slots Q (F0 m pc ls (va_re E.2.2 x :: rest)) := by
  subst hxi
  exact va_getX X.1.1 X.1.2.1 X.2.2.2.2.2.1 hi hw.2.2.1 X.1.2.2.2.1 (X.1.2.2.2.2 _ hlink) (fun _ h => h) hdg kk
theorem k_aald {q0 t0 n : Nat} {C : String} {cA : ClassId} {ad : Nat → Nat} {i : Int32} {b : Nat} (X : Bx E A p s m args meth c cc nL own ret) (hw : Wd E A s.heap ws H locs) (ha : ws[q0]? = some (b, .inl (cA, n, .inr (.inr (.inr (.inr (fun j => some (ad j)))))))) (ht : (tyE E)[t0]? = some (cA, .object C)) (hin : vp_in i n) (hdg : decode cc pc = .ok (.aaload, 1))
    (kk : W p l e R s m args below meth c H locs cells slots Q (F0 m (pc + 1) ls (va_re ad (some i.toNatClampNeg) :: rest))) : W p l e R s m args below meth c H locs cells slots Q (F0 m pc ls (.int i :: .ref b :: rest)) :=
  va_aldq X.1.1 X.1.2.1 X.2.2.1.1 hw.1 q0 t0 ha ht hin hdg kk
end KE
def ex {α : Type} (n : Nat) (x : Option Nat) (k : Nat → Option α) : Option α := match x with
  | none => none
  | some i => if i < n then k i else none
theorem ex_some {α : Type} {n : Nat} {x : Option Nat} {k : Nat → Option α} {o : α} (h : ex n x k = some o) : ∃ i, x = some i ∧ i < n ∧ k i = some o := by
  cases x with
  | none => cases h
  | some i =>
    have h : (if i < n then k i else none) = some o := h
    by_cases hi : i < n
    · rw [if_pos hi] at h; exact ⟨i, rfl, hi, h⟩
    · rw [if_neg hi] at h; cases h
def nq {α : Type} (a b : Nat) (k : Option α) : Option α := if a = b then none else k
theorem nq_some {α : Type} {a b : Nat} {k : Option α} {o : α} (h : nq a b k = some o) : a ≠ b ∧ k = some o := by
  unfold nq at h
  by_cases hc : a = b
  · rw [if_pos hc] at h; cases h
  · rw [if_neg hc] at h; exact ⟨hc, h⟩
theorem nar_e (n : String) (ad : Nat → Nat) (x : Option Nat) : narrow (.object n) (va_re ad x) = va_re ad x := by cases x <;> rfl
theorem fit_e (n : String) (ad : Nat → Nat) (x : Option Nat) : fits (.object n) (va_re ad x) = true := by cases x <;> rfl
abbrev RX20 : String := "java/lang/Integer"
abbrev cX20_bitCount : ByteArray := prog_20_method_49_code
def yX20_bitCount : MethodName := ⟨RX20, "bitCount", "(I)I"⟩
theorem dX20_bitCount_0 : decode cX20_bitCount 0 = .ok (.iload_n 0, 1) := by decide +kernel
theorem dX20_bitCount_1 : decode cX20_bitCount 1 = .ok (.iload_n 0, 1) := by decide +kernel
theorem dX20_bitCount_2 : decode cX20_bitCount 2 = .ok (.iconst 1, 1) := by decide +kernel
theorem dX20_bitCount_3 : decode cX20_bitCount 3 = .ok (.iushr, 1) := by decide +kernel
theorem dX20_bitCount_4 : decode cX20_bitCount 4 = .ok (.ldc_w 265, 3) := by decide +kernel
theorem dX20_bitCount_7 : decode cX20_bitCount 7 = .ok (.iand, 1) := by decide +kernel
theorem dX20_bitCount_8 : decode cX20_bitCount 8 = .ok (.isub, 1) := by decide +kernel
theorem dX20_bitCount_9 : decode cX20_bitCount 9 = .ok (.istore_n 0, 1) := by decide +kernel
theorem dX20_bitCount_10 : decode cX20_bitCount 10 = .ok (.iload_n 0, 1) := by decide +kernel
theorem dX20_bitCount_11 : decode cX20_bitCount 11 = .ok (.ldc_w 266, 3) := by decide +kernel
theorem dX20_bitCount_14 : decode cX20_bitCount 14 = .ok (.iand, 1) := by decide +kernel
theorem dX20_bitCount_15 : decode cX20_bitCount 15 = .ok (.iload_n 0, 1) := by decide +kernel
theorem dX20_bitCount_16 : decode cX20_bitCount 16 = .ok (.iconst 2, 1) := by decide +kernel
theorem dX20_bitCount_17 : decode cX20_bitCount 17 = .ok (.iushr, 1) := by decide +kernel
theorem dX20_bitCount_18 : decode cX20_bitCount 18 = .ok (.ldc_w 266, 3) := by decide +kernel
theorem dX20_bitCount_21 : decode cX20_bitCount 21 = .ok (.iand, 1) := by decide +kernel
theorem dX20_bitCount_22 : decode cX20_bitCount 22 = .ok (.iadd, 1) := by decide +kernel
theorem dX20_bitCount_23 : decode cX20_bitCount 23 = .ok (.istore_n 0, 1) := by decide +kernel
theorem dX20_bitCount_24 : decode cX20_bitCount 24 = .ok (.iload_n 0, 1) := by decide +kernel
theorem dX20_bitCount_25 : decode cX20_bitCount 25 = .ok (.iload_n 0, 1) := by decide +kernel
theorem dX20_bitCount_26 : decode cX20_bitCount 26 = .ok (.iconst 4, 1) := by decide +kernel
theorem dX20_bitCount_27 : decode cX20_bitCount 27 = .ok (.iushr, 1) := by decide +kernel
theorem dX20_bitCount_28 : decode cX20_bitCount 28 = .ok (.iadd, 1) := by decide +kernel
theorem dX20_bitCount_29 : decode cX20_bitCount 29 = .ok (.ldc_w 267, 3) := by decide +kernel
theorem dX20_bitCount_32 : decode cX20_bitCount 32 = .ok (.iand, 1) := by decide +kernel
theorem dX20_bitCount_33 : decode cX20_bitCount 33 = .ok (.istore_n 0, 1) := by decide +kernel
theorem dX20_bitCount_34 : decode cX20_bitCount 34 = .ok (.iload_n 0, 1) := by decide +kernel
theorem dX20_bitCount_35 : decode cX20_bitCount 35 = .ok (.iload_n 0, 1) := by decide +kernel
theorem dX20_bitCount_36 : decode cX20_bitCount 36 = .ok (.bipush 8, 2) := by decide +kernel
theorem dX20_bitCount_38 : decode cX20_bitCount 38 = .ok (.iushr, 1) := by decide +kernel
theorem dX20_bitCount_39 : decode cX20_bitCount 39 = .ok (.iadd, 1) := by decide +kernel
theorem dX20_bitCount_40 : decode cX20_bitCount 40 = .ok (.istore_n 0, 1) := by decide +kernel
theorem dX20_bitCount_41 : decode cX20_bitCount 41 = .ok (.iload_n 0, 1) := by decide +kernel
theorem dX20_bitCount_42 : decode cX20_bitCount 42 = .ok (.iload_n 0, 1) := by decide +kernel
theorem dX20_bitCount_43 : decode cX20_bitCount 43 = .ok (.bipush 16, 2) := by decide +kernel
theorem dX20_bitCount_45 : decode cX20_bitCount 45 = .ok (.iushr, 1) := by decide +kernel
theorem dX20_bitCount_46 : decode cX20_bitCount 46 = .ok (.iadd, 1) := by decide +kernel
theorem dX20_bitCount_47 : decode cX20_bitCount 47 = .ok (.istore_n 0, 1) := by decide +kernel
theorem dX20_bitCount_48 : decode cX20_bitCount 48 = .ok (.iload_n 0, 1) := by decide +kernel
theorem dX20_bitCount_49 : decode cX20_bitCount 49 = .ok (.bipush 63, 2) := by decide +kernel
theorem dX20_bitCount_51 : decode cX20_bitCount 51 = .ok (.iand, 1) := by decide +kernel
theorem dX20_bitCount_52 : decode cX20_bitCount 52 = .ok (.ireturn, 1) := by decide +kernel
