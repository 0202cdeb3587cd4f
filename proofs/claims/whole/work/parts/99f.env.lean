/-! the surroundings, out of what the Statement gives -/
theorem lwt {w : Cond} (h : w ∈ lwg) : w ∈ lw_tbl := (List.mem_filter.mp h).1
abbrev gvn : List Cond := flatC (Jvm.Cond.and given_1 narrow_1)
theorem gn_ex : ∀ i, i < 32 → Cond.exactly (.static RX11 (eNm.getD i "") "LPloughCall$Word;") RX11 ∈ gvn := by decide +kernel
theorem gn_or : ∀ i, i < 32 → Cond.eq (.field (.static RX11 (eNm.getD i "") "LPloughCall$Word;") "java/lang/Enum" "ordinal" "I") (.int (((List.range 32).map Int32.ofNat).getD i 0)) ∈ gvn := by decide +kernel
theorem gn_re : ∀ i, i < 32 → Cond.eq (.field (.static RX11 (eNm.getD i "") "LPloughCall$Word;") RX11 "reserved" "Z") (.int (eResL.getD i 0)) ∈ gvn := by decide +kernel
theorem gn_le : ∀ i, i < 32 → Cond.eq (.field (.static RX11 (eNm.getD i "") "LPloughCall$Word;") RX11 "letters" "J") (.long (eLet i)) ∈ gvn := by decide +kernel
theorem gn_wl : ∀ i, i < 32 → Cond.eq (.elem (.static RX11 "WORDS" "[LPloughCall$Word;") (.int (Int32.ofNat i))) (.static RX11 (eNm.getD i "") "LPloughCall$Word;") ∈ gvn := by decide +kernel
theorem gn_sw : ∀ i, i < 32 → Cond.eq (.elem (.static RX0 "$SwitchMap$PloughCall$Word" "[I") (.int (Int32.ofNat i))) (.int (eSw i)) ∈ gvn := by decide +kernel
theorem gn_la : ∀ i, i < 32 → Cond.laysStatic RX11 (eNm.getD i "") "LPloughCall$Word;" ∈ lw_tbl := by decide +kernel
theorem gn_nst : ∀ w ∈ nstW, w ∈ lw_tbl := by decide +kernel
theorem gn_xw : ∀ w ∈ xwB, w ∈ lw_tbl := by decide +kernel
theorem en_of {args : Array Value} {s : State} {A : Nat → Prop} (hts : ∀ w ∈ lw_tbl, w.before args s = true) (hg : ∀ w ∈ gvn, w.before args s = true) (hA : ∀ a : Nat, a < s.heap.size → ¬ A a) : ∃ ad : Nat → Nat, va_En RX11 "LPloughCall$Word;" eNm eF ad A s s.heap ∧ ∀ i, i < 32 → (Term.static RX11 (eNm.getD i "") "LPloughCall$Word;").eval args s none [] s = some (.ref (ad i)) := by
  have hini : (Cond.initialized RX11).before args s = true := hts _ (lwt tw_132)
  have h0 : ∀ i : Nat, ∃ t : Nat, i < 32 → (Term.static RX11 (eNm.getD i "") "LPloughCall$Word;").eval args s none [] s = some (.ref t) ∧ va_O RX11 t A s s.heap := by
    intro i
    by_cases hi : i < 32
    · obtain ⟨a, c, cell, k, q1, q2, q3, q4, q5, q6, -⟩ := Cond.exactly_spec (hg _ (gn_ex i hi))
      exact ⟨a, fun _ => ⟨q1, cell, q3, q5, by rw [q6]; exact q2, hA a (Array.getElem?_eq_some_iff.mp q3).1⟩⟩
    · exact ⟨0, fun h => absurd h hi⟩
  obtain ⟨ad, had⟩ := Classical.axiomOfChoice h0
  have hOF : ∀ (o n d : String) (v : Nat → Int32), (∀ i, i < 32 → (Cond.eq (.field (.static RX11 (eNm.getD i "") "LPloughCall$Word;") o n d) (.int (v i))).before args s = true) → ∀ i, i < 32 → va_OF o n d (.int (v i)) (ad i) A s s.heap := by
    intro o n d v hv i hi
    have hv := va_eqt (hv i hi)
    cases hfo : s.fieldFound? o n d with
    | none =>
      rw [va_fe (had i hi).1] at hv
      simp [State.fieldOf?, State.fieldNamed?, hfo] at hv
    | some x =>
      obtain ⟨cf, k, fi, f⟩ := x
      obtain ⟨g1, cell, g2, g3, -, -, g6⟩ := Term.field_spec hfo (had i hi).1 hv
      exact ⟨cf, k, fi, f, cell, hfo, g1, g2, g3, g6, hA _ (Array.getElem?_eq_some_iff.mp g2).1⟩
  have hO := hOF "java/lang/Enum" "ordinal" "I" (fun i => ((List.range 32).map Int32.ofNat).getD i 0) (fun i hi => hg _ (gn_or i hi))
  have hRs := hOF RX11 "reserved" "Z" (fun i => eResL.getD i 0) (fun i hi => hg _ (gn_re i hi))
  refine ⟨ad, ⟨fun i hi => ⟨va_Zref (hts _ (gn_la i hi)) hini (had i hi).1 hA, (had i hi).2, fun q hq => ?_⟩, fun i j hi hj e => ?_⟩, fun i hi => (had i hi).1⟩
  · simp only [eF, List.mem_cons, List.not_mem_nil, or_false] at hq
    rcases hq with rfl | rfl
    · exact hO i hi
    · exact hRs i hi
  · obtain ⟨c1, k1, i1, f1, ce1, a1, -, a3, -, a5, -⟩ := hO i hi
    obtain ⟨c2, k2, i2, f2, ce2, b1, -, b3, -, b5, -⟩ := hO j hj
    rw [e] at a3
    cases a1.symm.trans b1
    cases a3.symm.trans b3
    have h := a5.symm.trans b5
    have key : ∀ i, i < 32 → ∀ j, j < 32 → ((List.range 32).map Int32.ofNat).getD i 0 = ((List.range 32).map Int32.ofNat).getD j 0 → i = j := by decide +kernel
    exact key i hi j hj (by injection h with h; injection h with h)
theorem ar_of {args : Array Value} {s : State} {ty : FieldType} (hp : ∀ C, ty ≠ .object C) (h : (Cond.arrayClass ty).before args s = true) : ∃ cA : ClassId, ArrOfT s cA ty ∧ va_RA s cA ty := by
  obtain ⟨c, k, comp, h1, h2, h3⟩ := Cond.arrayClass_spec h
  refine ⟨c, fun n z => ⟨(fun k h => by cases h), k, h2, comp, h3⟩, ?_⟩
  cases ty with
  | object C => exact absurd rfl (hp C)
  | _ => exact h1
theorem ao_of {args : Array Value} {s : State} {C : String} (h : (Cond.arrayOver (.object C)).before args s = true) : ∃ cA : ClassId, ArrOfT s cA (.object C) ∧ va_RA s cA (.object C) := by
  obtain ⟨comp, c, k, h1, h2, h3, h4, h5⟩ := Cond.arrayOver_spec h
  exact ⟨c, fun n z => ⟨(fun k h => by cases h), k, h3, comp, h4⟩, k, comp, h3, h4, h1, h5⟩
theorem st_of {args : Array Value} {s : State} {k : Nat} {tx : String} (h1 : (Cond.stringRef RX12 k tx).before args s = true) (h2 : (Cond.exactly (.string RX12 k) "java/lang/String").before args s = true) : ∃ a, vk_R RX12 k tx a s := by
  obtain ⟨a, c, cell, kk, q1, -⟩ := Cond.exactly_spec h2
  exact ⟨a, vk_R.of h1 q1⟩
theorem gt_int {L : Nat} (hL : L ≤ 3584) : (Int32.ofNat L - (7 : Int32)).toInt = (L : Int) - 7 := by
  have h1 : (Int32.ofNat L).toInt = (L : Int) := nI_toInt (by omega)
  have h2 : ((7 : Int32)).toInt = 7 := by decide
  rw [Int32.toInt_sub, h1, h2, Int.bmod_def]
  split <;> omega
theorem gt_of {L j : Nat} (hL : L ≤ 3584) (hj : j ≤ 3600) (h : L < j + 7) : Int32.ofNat L - (7 : Int32) < nI j := by
  rw [i_lt, gt_int hL, nI_toInt (by omega)]
  omega
theorem gt_not {L j : Nat} (hL : L ≤ 3584) (h : j + 7 ≤ L) : ¬ Int32.ofNat L - (7 : Int32) < nI j := by
  rw [i_lt, gt_int hL, nI_toInt (by omega)]
  omega
theorem ra_start {ms : Nat → Int32} (hRS : RS 0 (-1) (-1) 0 0 0 ZI ZI ZI ms) : RA 0 0 0 0 6 ZI ZI ZI ZI ZI ZI ZI ZI ZL ZL ZL ZI 0 0 0 0 0 (-1) (-1) 0 0 0 ZI ZI ZI 0 0 (fun _ => 0) (fun _ => (-1)) (fun _ => (-1)) (fun _ => 0) (fun _ => 0) (fun _ => 0) (fun _ => ZI) (fun _ => ZI) (fun _ => ZI) 0 ZI ZI ZI 0 ZI ZI ZI (fun _ => 0) (fun _ => 0) (fun _ => (-1)) (fun _ => (-1)) (fun _ => 0) (fun _ => 0) (fun _ => 0) (fun _ => ZI) (fun _ => ZI) (fun _ => ZI) (fun _ => 0) (fun _ => ZI) (fun _ => ZI) (fun _ => ZI) (fun _ => 0) (fun _ => ZI) (fun _ => ZI) (fun _ => ZI) ZI 0 mcity0 ZI ZI ZI ZI ZI ZI ZI ZI ZI ZI ZI ZL ZL ZL ZI ZI ZI ZI ZI ZI ZI ZI ms ZI ZI ZI 0 ZI 0 := by
  refine ⟨0, 0, 0, fun _ _ _ => 0, fun _ _ _ => 0, ?_, ⟨⟨by omega, rfl, rfl, fun i hi => absurd hi (by omega)⟩, ⟨by omega, rfl, rfl, fun i hi => absurd hi (by omega)⟩, ⟨by omega, rfl, rfl, fun i hi => absurd hi (by omega)⟩⟩, hRS, ⟨Or.inl rfl, Or.inl rfl, Or.inl rfl, fun z => absurd rfl z, fun i hi => (show 0 ≤ ((0 : Int32)).toInt ∧ ((0 : Int32)).toInt ≤ 99 from by decide), fun i _ _ => rfl, fun i _ _ => rfl⟩, ⟨0, 0, by omega, by omega, rfl, rfl, rfl, fun j hj => absurd hj (by omega)⟩, ⟨0, by omega, rfl, rfl, fun i hi => absurd hi (by omega)⟩, ⟨0, by omega, rfl, rfl, fun i hi => absurd hi (by omega)⟩, RM.none (fun i hi => rfl) (fun i hi => rfl), RK.zero⟩
  intro w0 w1 w2 w3 w4 w5 w6 w7 w8 w9 w10 w11 hw
  obtain ⟨f0, _⟩ := hw
  exact ⟨⟨by omega, by omega, by omega⟩, ⟨rfl, rfl, rfl⟩, ⟨f0 0 (by omega), f0 1 (by omega), f0 2 (by omega), f0 3 (by omega), f0 4 (by omega)⟩, by decide, fun i hi => absurd hi (by omega), fun i hi => absurd hi (by omega), fun i hi => absurd hi (by omega), fun i hi => absurd hi (by omega), fun m lg pz hm => absurd hm (by omega), fun m lk lf hm => absurd hm (by omega), fun m hm => absurd hm (by omega), fun m hm => absurd hm (by omega), fun m hm => absurd hm (by omega), fun m hm => absurd hm (by omega)⟩
