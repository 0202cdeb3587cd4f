/-! the law's wrappers: a call that may throw, caught -/
def CnW (E : En) (l : Launch) (y : MethodName) (cc : ByteArray) (nL : Nat) (ret : Option FieldType) (hh : List (Nat × Nat × Nat × Nat)) (rm : Room) (av : List Value) (W : va_W) (v : Option Value) (W' : va_W) : Prop := W'.map Prod.fst = W.map Prod.fst ∧ ∀ sz : Nat, Met l y (Cond.codeWith y cc nL ret hh :: lwg) rm (va_Pc av (Pst E W sz)) (Qg E v W' (va_A W sz)) 0 0 (va_A W sz)
theorem CnW.of {E : En} {l : Launch} {y : MethodName} {rm : Room} {av : List Value} {Wo Wo' : va_W} {v : Option Value} {cc : ByteArray} {nL : Nat} {ret : Option FieldType} {hh : List (Nat × Nat × Nat × Nat)} (hy : plainName y.cls = true) (hlen : (lg_sl av).length ≤ nL) (had : Wo'.map Prod.fst = Wo.map Prod.fst)
    (body : ∀ (p : Program) (e : Env) (s : State) (m : MethodId) (below : List Frame) (meth : Method) (c : Code) (A : Nat → Prop) (ls : Array Slot) (args : Array Value) (H : Heap) (locs : List Loc), Bx E A p s m args meth c cc nL y.cls ret → c.exceptionTable.toList = tableOf hh → Wd E A s.heap Wo H locs → lv_has ls nL (lv_args 0 av) → W p l e rm s m args below meth c H locs 0 0 (Zn E below args s A v Wo') (F0 m 0 ls [])) : CnW E l y cc nL ret hh rm av Wo v Wo' := by
  refine ⟨had, fun sz => ?_⟩
  refine va_MetW hy rfl ?_
  intro p e s m args below meth c s₁ B hml hv
  obtain ⟨rfl, hsz, hP, hE, hD0, hC⟩ := hv
  subst hsz
  have hD := hD0.self (sz := s.heap.size)
  have hl := lv_entry av (n := nL) hlen
  have hts := atoms_spec (ws := Cond.codeWith y cc nL ret hh :: lwg) B.pre
  rw [lg_entry_eq]
  exact body p e s m below meth c (va_A Wo s.heap.size) _ _ _ _ ⟨⟨B.exec, B.bytes, hml, findClass_of_methodNamed B.named, fun w hw => hts w (List.mem_cons_of_mem _ hw)⟩, B.returns, hE, B.notSynchronized, hC⟩ (vx_table (x := y) B (hts _ List.mem_cons_self)) ⟨hP, hD, va_S.rf, fun q h => Or.inr h⟩ hl
def CtW (E : En) (l : Launch) (y : MethodName) (cc : ByteArray) (nL : Nat) (hh : List (Nat × Nat × Nat × Nat)) (rm : Room) (av : List Value) (W : va_W) (sa : Nat → Nat) : Prop := ∀ sz : Nat, Met l y (Cond.codeWith y cc nL (some .int) hh :: lwg) rm (va_Pc av (PsX E W sa sz)) (Qg E (some (.int 1)) W (va_A W sz)) 1 6 (va_A W sz)
theorem CtW.of {E : En} {l : Launch} {y : MethodName} {rm : Room} {av : List Value} {Wo : va_W} {sa : Nat → Nat} {cc : ByteArray} {nL : Nat} {hh : List (Nat × Nat × Nat × Nat)} (hy : plainName y.cls = true) (hlen : (lg_sl av).length ≤ nL)
    (body : ∀ (p : Program) (e : Env) (s : State) (m : MethodId) (below : List Frame) (meth : Method) (c : Code) (A : Nat → Prop) (ls : Array Slot) (args : Array Value) (H : Heap) (locs : List Loc), Bx E A p s m args meth c cc nL y.cls (some .int) → Xv sa s → Xc A s s.heap → c.exceptionTable.toList = tableOf hh → Wd E A s.heap Wo H locs → lv_has ls nL (lv_args 0 av) → W p l e rm s m args below meth c H locs 0 0 (MQ below (Qg E (some (.int 1)) Wo A) args s 1 6 A) (F0 m 0 ls [])) : CtW E l y cc nL hh rm av Wo sa := by
  intro sz
  refine va_MetW hy rfl ?_
  intro p e s m args below meth c s₁ B hml hv
  obtain ⟨rfl, ⟨hsz, hP, hE, hD0, hC⟩, hv, hc⟩ := hv
  subst hsz
  have hD := hD0.self (sz := s.heap.size)
  have hl := lv_entry av (n := nL) hlen
  have hts := atoms_spec (ws := Cond.codeWith y cc nL (some .int) hh :: lwg) B.pre
  rw [lg_entry_eq]
  exact body p e s m below meth c (va_A Wo s.heap.size) _ _ _ _ ⟨⟨B.exec, B.bytes, hml, findClass_of_methodNamed B.named, fun w hw => hts w (List.mem_cons_of_mem _ hw)⟩, B.returns, hE, B.notSynchronized, hC⟩ hv hc (vx_table (x := y) B (hts _ List.mem_cons_self)) ⟨hP, hD, va_S.rf, fun q h => Or.inr h⟩ hl
section
variable {E : En} {p : Program} {l : Launch} {e : Env} {R : Room} {s : State} {m : MethodId} {args : Array Value} {below : List Frame} {meth : Method} {c : Code} {H : Heap} {locs : List Loc} {Q : State → Prop}
variable {A : Nat → Prop} {ws Wc : va_W} {pc : Nat} {ls : Array Slot} {rest st0 As : List Value} {cc bytes : ByteArray} {nL maxL index n ci cells slots : Nat} {own C : String} {ret : Option FieldType} {y : MethodName} {rm : Room} {b : Nat} {fs : List Value} {cq : vw_C} {sa : Nat → Nat} {x : ExceptionTableEntry}
theorem k_iretN {r : Int32} (X : Bx E A p s m args meth c cc nL own (some .int)) (hw : Wd E A s.heap ws H locs) (hdg : decode cc pc = .ok (.ireturn, 1)) : W p l e R s m args below meth c H locs cells slots (MQ below (Qg E (some (.int r)) ws A) args s cells slots A) (F0 m pc ls [.int r]) :=
  W.iret X.1.1 X.1.2.1 X.2.1 (fun t ht hW => ⟨⟨rfl, by rw [ht]; exact hw.1⟩, hw.2.2.1.F ht⟩) hw.2.2.1.2.2 hdg (hlocks := X.2.2.2.1)
theorem k_preX {U : State} {av : List Value} (hE : Ev E s) (hC : Ec E A s s.heap) (hv : Xv sa s) (hc : Xc A s s.heap) (hw : Wd E A s.heap ws H locs) (pl : List Nat) (hnd : va_nd pl = true) (hsub : pl.map (fun i => ws[i]?) = Wc.map some) (hU : U.heap = H) (hW : s.WarmedH U.vm) : va_Pc av (PsX E Wc sa H.size) av.toArray U :=
  ⟨rfl, (k_pre (av := av) hE hC hw pl hnd hsub hU hW).2, hv.warm hW, hc.pass hW.alike (fun q h1 h2 => by rw [hU]; exact hw.2.2.1.2.1 q h1 h2) (va_free hw.2.1 hw.2.2.1 hw.2.2.2 pl hsub)⟩
/-- a virtual call that throws, caught by the one row of this method's table -/
theorem k_VT (X : Bx E A p s m args meth c cc nL own ret) (hC : Ct E l y bytes maxL rm (.ref b :: As) Wc sa) (h1 : Cond.methodLink own index y ∈ lwg) (h2 : Cond.instanceMethod y ∈ lwg) (h3 : Cond.selects C y y ∈ lwg) (h4 : Cond.initialized C ∈ lwg) (h5 : Cond.code y bytes maxL (some .int) ∈ lwg) (hrm : rm.cells = 1 ∧ rm.slots = 6) (hd : y.cls = C ∧ y.cls ≠ "java/lang/invoke/MethodHandle" ∧ y.cls ≠ "java/lang/invoke/VarHandle" ∧ (parseMethodDescriptor y.desc).map (fun d => d.parameters.length) = some n) (hR : rm.frames + 1 ≤ R.frames ∧ 8 + (maxL + 11) + rm.locals ≤ R.locals) (hf : 1 ≤ R.cells ∧ 6 ≤ R.slots)
    (hw : Wd E A s.heap ws H locs) (hv : Xv sa s) (hc : Xc A s s.heap) (pl : List Nat) (hnd : va_nd pl = true) (hsub : pl.map (fun i => ws[i]?) = Wc.map some) (q0 : Nat) (he : ws[q0]? = some (b, .inr (ci, fs))) (hci : vwCl[ci]? = some cq) (hCq : cq.1 = C) (hn : As.length = n) (hls : ls.size = nL) (hst : st0 = As.reverse ++ .ref b :: rest) (hrest : (rest.map fun v => v.category).sum ≤ 8) (hdg : decode cc pc = .ok (.invokevirtual index, 3))
    (htab : c.exceptionTable.toList = [x]) (hcov : covers x pc = true) (h0 : x.catchType ≠ 0) (hlink : Cond.classLink own x.catchType nse ∈ lwg)
    (kk : ∀ (H1 : Heap) (locs1 : List Loc) (q : Nat), Wd E A s.heap (setPl ws pl Wc) H1 locs1 → W p l e R s m args below meth c H1 locs1 1 6 Q (F0 m x.handlerPc ls [.ref q])) : W p l e R s m args below meth c H locs 0 0 Q (F0 m pc ls st0) := by
  have hts := X.1.2.2.2.2
  have hF : ∀ q, va_A Wc H.size q → A q := va_free hw.2.1 hw.2.2.1 hw.2.2.2 pl hsub
  refine vx_calli (vx_runV (b := b) (As := As) (rest := rest) X.1 (hC H.size) (cwV n hts (gdV h1 h2 h3 h4 h5) rfl hrm.1 hrm.2 hd hR) ⟨blind_PsX, ?_, fun U hU hW => k_preX X.2.2.1 X.2.2.2.2 hv hc hw pl hnd hsub hU hW⟩ rfl hn hls hst (lv_room hrest) hdg ⟨by simpa using hf.1, by simpa using hf.2⟩) hw.2.2.1 (fun q _ h => hF q h) hF (fun q _ h => hF q h) ?_ (fun r u t H1 locs1 _ _ hpost => hpost.elim)
  · rw [← hCq]
    exact va_recv X.2.2.1.1 hw.1 hci he
  · intro E9 ce q9 u t H1 locs1 ht hvm _ hB hz hk hS hce hcv hcl
    obtain ⟨rfl, hP1⟩ := hB
    have hj := wd_join (H1 := H1) hw.1 hw.2.1 pl hsub rfl hk (by rw [← ht]; exact hP1)
    exact cx_catch X.1.2.2.2.1 htab hcov h0 (hts _ hlink) (va_Nw.use rfl (hv.1 _ xw_cast)) hce hcv hcl (kk H1 locs1 q9 ⟨hj.1, hj.2, hS, hw.2.2.2⟩)
end
abbrev rw_chance : Room := { frames := 6, cells := 0, slots := 0, locals := 160 }
set_option maxRecDepth 100000 in
set_option maxHeartbeats 4000000 in
theorem w_chance {E : En} {l : Launch} {t_o : Nat} {t_q : Nat → Nat} {t_tape : Value} {t_reader : Value} {t_trial : Value} {t_past : Value} {t_reports : Value} {t_marks : (Nat → Option Nat)} {t_spareCity : Value} {t_script : Value} {t_spareScript : Value} {t_firstRefused : Int32} {t_firstKept : Int32} {tscity_o : Nat} {tscity_q : Nat → Nat} {tscity_men : Int32} {tscity_consuls : Int32} {tscity_dangers : Int32} {tscity_decrees : Int32} {tscity_term : Int32} {tscity_termTold : Int32} {tscity_manNames : (Nat → Int64)} {tscity_kinds : (Nat → Int32)} {tscity_skills : (Nat → Int32)} {tscity_fields : (Nat → Int32)} {tscity_wants : (Nat → Int32)} {tscity_hated : (Nat → Int32)} {tscity_dangerNames : (Nat → Int64)} {tscity_sizes : (Nat → Int32)} {tscity_grows : (Nat → Int32)} {tscity_decreeNames : (Nat → Int64)} {tscity_grounds : (Nat → Int32)} {tscityslaws_o : Nat} {tscityslaws_q : Nat → Nat} {tscityslaws_ops : (Nat → Int32)} {tscityslaws_stack : (Nat → Int32)} {tscityslaws_size : Int32} {tscityslaws_worksFrom : Int32} {tscityslaws_worksTo : Int32} {tscityslaws_keepsFrom : Int32} {tscityslaws_keepsTo : Int32} {tscounsel_o : Nat} {tscounsel_q : Nat → Nat} {tscounsel_path : (Nat → Option Nat)} {tscounsel_row : (Nat → Int32)} {tscounsel_leastRow : (Nat → Int32)} {tscounsel_needed : (Nat → Int32)} {tscounsel_likeSizes : (Nat → Int32)} {tscounsel_least : Int32} {tscounsel_ended : Int32} {tscounsel_monthsKept : Int32} {tscounselsnextWays_o : Nat} {tscounselsnextWays_f : (Nat → Int64)} {tscounselsways_o : Nat} {tscounselsways_f : (Nat → Int64)} {tsnow_o : Nat} {tsnow_q : Nat → Nat} {tsnow_month : Int32} {tsnow_power : Int32} {tsnow_master : Int32} {tsnow_left : Int32} {tsnow_kept : Int32} {tsnow_passed : Int32} {tsnow_sizes : (Nat → Int32)} {tsnow_fields : (Nat → Int32)} {tsnow_liked : (Nat → Int32)} {x1 x2 x3 x4 : Int32} {oo : Nat} {fo : Nat → Int64} {out : Int32 × (Nat → Int32) × (Nat → Int64) × (Nat → Int64) × Bool} (hf : f_X12_chance tscity_men tscity_dangers tscity_kinds tscity_skills tscity_wants tscity_grows tscityslaws_ops tscityslaws_stack tscityslaws_worksFrom tscityslaws_worksTo tscityslaws_keepsFrom tscityslaws_keepsTo tscounselsnextWays_f tscounselsways_f tsnow_sizes x1 x2 x3 x4 = some out) : CnW E l yL_chance cL_chance 7 (some .int) [(0, 14, 17, 13)] rw_chance [.ref t_o, .int x1, .int x2, .int x3, .int x4, .ref oo] ((wX12 E t_o t_q t_tape t_reader (.ref tscounsel_o) (.ref tsnow_o) t_trial t_past t_reports t_marks (.ref tscity_o) t_spareCity t_script t_spareScript t_firstRefused t_firstKept ++ (wX1 E tscity_o tscity_q tscity_men tscity_consuls tscity_dangers tscity_decrees tscity_term tscity_termTold tscity_manNames tscity_kinds tscity_skills tscity_fields tscity_wants tscity_hated tscity_dangerNames tscity_sizes tscity_grows tscity_decreeNames tscity_grounds (.ref tscityslaws_o) ++ (wX3 E tscityslaws_o tscityslaws_q tscityslaws_ops tscityslaws_stack tscityslaws_size tscityslaws_worksFrom tscityslaws_worksTo tscityslaws_keepsFrom tscityslaws_keepsTo ++ (wX2 E tscounsel_o tscounsel_q tscounsel_path tscounsel_row tscounsel_leastRow tscounsel_needed tscounsel_likeSizes (.ref tscounselsways_o) (.ref tscounselsnextWays_o) tscounsel_least tscounsel_ended tscounsel_monthsKept ++ (wL E tscounselsnextWays_o 100 tscounselsnextWays_f ++ (wL E tscounselsways_o 100 tscounselsways_f ++ (wX9 E tsnow_o tsnow_q tsnow_month tsnow_power tsnow_master tsnow_left tsnow_kept tsnow_passed tsnow_sizes tsnow_fields tsnow_liked))))))) ++ wL E oo 1 fo) (some (.int 0)) ((wX12 E t_o t_q t_tape t_reader (.ref tscounsel_o) (.ref tsnow_o) t_trial t_past t_reports t_marks (.ref tscity_o) t_spareCity t_script t_spareScript t_firstRefused t_firstKept ++ (wX1 E tscity_o tscity_q tscity_men tscity_consuls tscity_dangers tscity_decrees tscity_term tscity_termTold tscity_manNames tscity_kinds tscity_skills tscity_fields tscity_wants tscity_hated tscity_dangerNames tscity_sizes tscity_grows tscity_decreeNames tscity_grounds (.ref tscityslaws_o) ++ (wX3 E tscityslaws_o tscityslaws_q tscityslaws_ops out.2.1 tscityslaws_size tscityslaws_worksFrom tscityslaws_worksTo tscityslaws_keepsFrom tscityslaws_keepsTo ++ (wX2 E tscounsel_o tscounsel_q tscounsel_path tscounsel_row tscounsel_leastRow tscounsel_needed tscounsel_likeSizes (cond out.2.2.2.2 (.ref tscounselsnextWays_o) (.ref tscounselsways_o)) (cond out.2.2.2.2 (.ref tscounselsways_o) (.ref tscounselsnextWays_o)) tscounsel_least tscounsel_ended tscounsel_monthsKept ++ (wL E tscounselsnextWays_o 100 out.2.2.1 ++ (wL E tscounselsways_o 100 out.2.2.2.1 ++ (wX9 E tsnow_o tsnow_q tsnow_month tsnow_power tsnow_master tsnow_left tsnow_kept tsnow_passed tsnow_sizes tsnow_fields tsnow_liked))))))) ++ wL E oo 1 (vp_updL fo 0 (out.1).toInt64)) := by
  refine CnW.of (by decide) (Nat.le_of_ble_eq_true rfl) rfl ?_
  intro p e s m below meth c A ls args H locs X _ hw hl
  have hx := X.1.1
  have hb := X.1.2.1
  have ho := X.1.2.2.2.1
  have hts := X.1.2.2.2.2
  have hl : lv_has ls 7 [(0, .ref t_o), (1, .int x1), (2, .int x2), (3, .int x3), (4, .int x4), (5, .ref oo)] := hl
  refine lv_aload hx hb dL_chance_0 (lv_at hl 5 rfl) ?_
  refine lv_iconst (v := (0 : Int32)) hx hb dL_chance_2 (by decide) ?_
  refine lv_aload_n hx hb dL_chance_3 rfl (lv_at hl 0 rfl) ?_
  refine lv_iload_n hx hb dL_chance_4 rfl (lv_at hl 1 rfl) ?_
  refine lv_iload_n hx hb dL_chance_5 rfl (lv_at hl 2 rfl) ?_
  refine lv_iload_n hx hb dL_chance_6 rfl (lv_at hl 3 rfl) ?_
  refine lv_iload hx hb dL_chance_7 (lv_at hl 4 rfl) ?_
  refine k_V (As := [.int x1, .int x2, .int x3, .int x4]) (rest := [.int (0 : Int32), .ref oo]) (index := 7) (C := RX12) X (c_X12_chance hf) tw_1261 tw_1262 tw_1263 tw_119 tw_1264 ⟨rfl, rfl⟩ hd_X12_chance ⟨Nat.le_of_ble_eq_true rfl, Nat.le_of_ble_eq_true rfl⟩ ⟨Nat.zero_le _, Nat.zero_le _⟩ hw [0, 1, 2, 3, 4, 5, 6, 7, 8, 9, 10, 11, 12, 13, 14, 15, 16, 17, 18, 19, 20, 21, 22, 23, 24, 25, 26, 27, 28] rfl rfl 0 rfl rfl rfl rfl hl.1 rfl (Nat.le_of_ble_eq_true rfl) dL_chance_9 (fun H locs hw => ?_)
  have hw : Wd E A s.heap ((wX12 E t_o t_q t_tape t_reader (.ref tscounsel_o) (.ref tsnow_o) t_trial t_past t_reports t_marks (.ref tscity_o) t_spareCity t_script t_spareScript t_firstRefused t_firstKept ++ (wX1 E tscity_o tscity_q tscity_men tscity_consuls tscity_dangers tscity_decrees tscity_term tscity_termTold tscity_manNames tscity_kinds tscity_skills tscity_fields tscity_wants tscity_hated tscity_dangerNames tscity_sizes tscity_grows tscity_decreeNames tscity_grounds (.ref tscityslaws_o) ++ (wX3 E tscityslaws_o tscityslaws_q tscityslaws_ops out.2.1 tscityslaws_size tscityslaws_worksFrom tscityslaws_worksTo tscityslaws_keepsFrom tscityslaws_keepsTo ++ (wX2 E tscounsel_o tscounsel_q tscounsel_path tscounsel_row tscounsel_leastRow tscounsel_needed tscounsel_likeSizes (cond out.2.2.2.2 (.ref tscounselsnextWays_o) (.ref tscounselsways_o)) (cond out.2.2.2.2 (.ref tscounselsways_o) (.ref tscounselsnextWays_o)) tscounsel_least tscounsel_ended tscounsel_monthsKept ++ (wL E tscounselsnextWays_o 100 out.2.2.1 ++ (wL E tscounselsways_o 100 out.2.2.2.1 ++ (wX9 E tsnow_o tsnow_q tsnow_month tsnow_power tsnow_master tsnow_left tsnow_kept tsnow_passed tsnow_sizes tsnow_fields tsnow_liked))))))) ++ wL E oo 1 fo) H locs := hw
  refine lv_i2l (v := (out.1).toInt64) hx hb dL_chance_12 rfl ?_
  refine k_last (q0 := 29) (n := 1) (f := fo) (x := (out.1).toInt64) (i := (0 : Int32)) X hw rfl (show ¬ (_ ∨ _) from by decide) dL_chance_13 (fun H locs hw => ?_)
  have hw : Wd E A s.heap ((wX12 E t_o t_q t_tape t_reader (.ref tscounsel_o) (.ref tsnow_o) t_trial t_past t_reports t_marks (.ref tscity_o) t_spareCity t_script t_spareScript t_firstRefused t_firstKept ++ (wX1 E tscity_o tscity_q tscity_men tscity_consuls tscity_dangers tscity_decrees tscity_term tscity_termTold tscity_manNames tscity_kinds tscity_skills tscity_fields tscity_wants tscity_hated tscity_dangerNames tscity_sizes tscity_grows tscity_decreeNames tscity_grounds (.ref tscityslaws_o) ++ (wX3 E tscityslaws_o tscityslaws_q tscityslaws_ops out.2.1 tscityslaws_size tscityslaws_worksFrom tscityslaws_worksTo tscityslaws_keepsFrom tscityslaws_keepsTo ++ (wX2 E tscounsel_o tscounsel_q tscounsel_path tscounsel_row tscounsel_leastRow tscounsel_needed tscounsel_likeSizes (cond out.2.2.2.2 (.ref tscounselsnextWays_o) (.ref tscounselsways_o)) (cond out.2.2.2.2 (.ref tscounselsways_o) (.ref tscounselsnextWays_o)) tscounsel_least tscounsel_ended tscounsel_monthsKept ++ (wL E tscounselsnextWays_o 100 out.2.2.1 ++ (wL E tscounselsways_o 100 out.2.2.2.1 ++ (wX9 E tsnow_o tsnow_q tsnow_month tsnow_power tsnow_master tsnow_left tsnow_kept tsnow_passed tsnow_sizes tsnow_fields tsnow_liked))))))) ++ wL E oo 1 (vp_updL fo 0 (out.1).toInt64)) H locs := hw
  refine lv_goto (tgt := 21) hx hb dL_chance_14 (by decide) ?_
  refine lv_iconst (v := (0 : Int32)) hx hb dL_chance_21 (by decide) ?_
  exact k_iret X hw dL_chance_22
abbrev rx_chance : Room := { frames := 7, cells := 1, slots := 6, locals := 160 }
set_option maxRecDepth 100000 in
set_option maxHeartbeats 4000000 in
theorem wt_chance {E : En} {l : Launch} (hlt : l.stackTraces = false) {sa : Nat → Nat} {t_o : Nat} {t_q : Nat → Nat} {t_tape : Value} {t_reader : Value} {t_trial : Value} {t_past : Value} {t_reports : Value} {t_marks : (Nat → Option Nat)} {t_spareCity : Value} {t_script : Value} {t_spareScript : Value} {t_firstRefused : Int32} {t_firstKept : Int32} {tscity_o : Nat} {tscity_q : Nat → Nat} {tscity_men : Int32} {tscity_consuls : Int32} {tscity_dangers : Int32} {tscity_decrees : Int32} {tscity_term : Int32} {tscity_termTold : Int32} {tscity_manNames : (Nat → Int64)} {tscity_kinds : (Nat → Int32)} {tscity_skills : (Nat → Int32)} {tscity_fields : (Nat → Int32)} {tscity_wants : (Nat → Int32)} {tscity_hated : (Nat → Int32)} {tscity_dangerNames : (Nat → Int64)} {tscity_sizes : (Nat → Int32)} {tscity_grows : (Nat → Int32)} {tscity_decreeNames : (Nat → Int64)} {tscity_grounds : (Nat → Int32)} {tscityslaws_o : Nat} {tscityslaws_q : Nat → Nat} {tscityslaws_ops : (Nat → Int32)} {tscityslaws_stack : (Nat → Int32)} {tscityslaws_size : Int32} {tscityslaws_worksFrom : Int32} {tscityslaws_worksTo : Int32} {tscityslaws_keepsFrom : Int32} {tscityslaws_keepsTo : Int32} {tscounsel_o : Nat} {tscounsel_q : Nat → Nat} {tscounsel_path : (Nat → Option Nat)} {tscounsel_row : (Nat → Int32)} {tscounsel_leastRow : (Nat → Int32)} {tscounsel_needed : (Nat → Int32)} {tscounsel_likeSizes : (Nat → Int32)} {tscounsel_least : Int32} {tscounsel_ended : Int32} {tscounsel_monthsKept : Int32} {tscounselsnextWays_o : Nat} {tscounselsnextWays_f : (Nat → Int64)} {tscounselsways_o : Nat} {tscounselsways_f : (Nat → Int64)} {tsnow_o : Nat} {tsnow_q : Nat → Nat} {tsnow_month : Int32} {tsnow_power : Int32} {tsnow_master : Int32} {tsnow_left : Int32} {tsnow_kept : Int32} {tsnow_passed : Int32} {tsnow_sizes : (Nat → Int32)} {tsnow_fields : (Nat → Int32)} {tsnow_liked : (Nat → Int32)} {x1 x2 x3 x4 : Int32} {oo : Nat} {fo : Nat → Int64} (hf : g_X12_chance tscity_men tscity_dangers x1 x2 x3 x4 = true) : CtW E l yL_chance cL_chance 7 [(0, 14, 17, 13)] rx_chance [.ref t_o, .int x1, .int x2, .int x3, .int x4, .ref oo] ((wX12 E t_o t_q t_tape t_reader (.ref tscounsel_o) (.ref tsnow_o) t_trial t_past t_reports t_marks (.ref tscity_o) t_spareCity t_script t_spareScript t_firstRefused t_firstKept ++ (wX1 E tscity_o tscity_q tscity_men tscity_consuls tscity_dangers tscity_decrees tscity_term tscity_termTold tscity_manNames tscity_kinds tscity_skills tscity_fields tscity_wants tscity_hated tscity_dangerNames tscity_sizes tscity_grows tscity_decreeNames tscity_grounds (.ref tscityslaws_o) ++ (wX3 E tscityslaws_o tscityslaws_q tscityslaws_ops tscityslaws_stack tscityslaws_size tscityslaws_worksFrom tscityslaws_worksTo tscityslaws_keepsFrom tscityslaws_keepsTo ++ (wX2 E tscounsel_o tscounsel_q tscounsel_path tscounsel_row tscounsel_leastRow tscounsel_needed tscounsel_likeSizes (.ref tscounselsways_o) (.ref tscounselsnextWays_o) tscounsel_least tscounsel_ended tscounsel_monthsKept ++ (wL E tscounselsnextWays_o 100 tscounselsnextWays_f ++ (wL E tscounselsways_o 100 tscounselsways_f ++ (wX9 E tsnow_o tsnow_q tsnow_month tsnow_power tsnow_master tsnow_left tsnow_kept tsnow_passed tsnow_sizes tsnow_fields tsnow_liked))))))) ++ wL E oo 1 fo) sa := by
  refine CtW.of (by decide) (Nat.le_of_ble_eq_true rfl) ?_
  intro p e s m below meth c A ls args H locs X hv hc htab hw hl
  have hx := X.1.1
  have hb := X.1.2.1
  have ho := X.1.2.2.2.1
  have hts := X.1.2.2.2.2
  have hl : lv_has ls 7 [(0, .ref t_o), (1, .int x1), (2, .int x2), (3, .int x3), (4, .int x4), (5, .ref oo)] := hl
  refine lv_aload hx hb dL_chance_0 (lv_at hl 5 rfl) ?_
  refine lv_iconst (v := (0 : Int32)) hx hb dL_chance_2 (by decide) ?_
  refine lv_aload_n hx hb dL_chance_3 rfl (lv_at hl 0 rfl) ?_
  refine lv_iload_n hx hb dL_chance_4 rfl (lv_at hl 1 rfl) ?_
  refine lv_iload_n hx hb dL_chance_5 rfl (lv_at hl 2 rfl) ?_
  refine lv_iload_n hx hb dL_chance_6 rfl (lv_at hl 3 rfl) ?_
  refine lv_iload hx hb dL_chance_7 (lv_at hl 4 rfl) ?_
  refine k_VT (As := [.int x1, .int x2, .int x3, .int x4]) (rest := [.int (0 : Int32), .ref oo]) (index := 7) (C := RX12) X (t_X12_chance hlt hf) tw_1261 tw_1262 tw_1263 tw_119 tw_1264 ⟨rfl, rfl⟩ hd_X12_chance ⟨Nat.le_of_ble_eq_true rfl, Nat.le_of_ble_eq_true rfl⟩ ⟨Nat.le_of_ble_eq_true rfl, Nat.le_of_ble_eq_true rfl⟩ hw hv hc [0, 1, 2, 3, 4, 5, 6, 7, 8, 9, 10, 11, 12, 13, 14, 15, 16, 17, 18, 19, 20, 21, 22, 23, 24, 25, 26, 27, 28] rfl rfl 0 rfl rfl rfl rfl hl.1 rfl (Nat.le_of_ble_eq_true rfl) dL_chance_9 htab (by decide) (by decide) tw_1260 (fun H locs q hw => ?_)
  have hw : Wd E A s.heap ((wX12 E t_o t_q t_tape t_reader (.ref tscounsel_o) (.ref tsnow_o) t_trial t_past t_reports t_marks (.ref tscity_o) t_spareCity t_script t_spareScript t_firstRefused t_firstKept ++ (wX1 E tscity_o tscity_q tscity_men tscity_consuls tscity_dangers tscity_decrees tscity_term tscity_termTold tscity_manNames tscity_kinds tscity_skills tscity_fields tscity_wants tscity_hated tscity_dangerNames tscity_sizes tscity_grows tscity_decreeNames tscity_grounds (.ref tscityslaws_o) ++ (wX3 E tscityslaws_o tscityslaws_q tscityslaws_ops tscityslaws_stack tscityslaws_size tscityslaws_worksFrom tscityslaws_worksTo tscityslaws_keepsFrom tscityslaws_keepsTo ++ (wX2 E tscounsel_o tscounsel_q tscounsel_path tscounsel_row tscounsel_leastRow tscounsel_needed tscounsel_likeSizes (.ref tscounselsways_o) (.ref tscounselsnextWays_o) tscounsel_least tscounsel_ended tscounsel_monthsKept ++ (wL E tscounselsnextWays_o 100 tscounselsnextWays_f ++ (wL E tscounselsways_o 100 tscounselsways_f ++ (wX9 E tsnow_o tsnow_q tsnow_month tsnow_power tsnow_master tsnow_left tsnow_kept tsnow_passed tsnow_sizes tsnow_fields tsnow_liked))))))) ++ wL E oo 1 fo) H locs := hw
  refine lv_astore (lv' := [(6, .ref q), (0, .ref t_o), (1, .int x1), (2, .int x2), (3, .int x3), (4, .int x4), (5, .ref oo)]) hx hb dL_chance_17 hl (by decide) rfl (fun ls hl => ?_)
  refine lv_iconst (v := (1 : Int32)) hx hb dL_chance_19 (by decide) ?_
  exact k_iretN X hw dL_chance_20
abbrev rw_rests : Room := { frames := 3, cells := 0, slots := 0, locals := 75 }
set_option maxRecDepth 100000 in
set_option maxHeartbeats 4000000 in
theorem w_rests {E : En} {l : Launch} {t_o : Nat} {t_q : Nat → Nat} {t_tape : Value} {t_reader : Value} {t_counsel : Value} {t_now : Value} {t_trial : Value} {t_past : Value} {t_reports : Value} {t_marks : (Nat → Option Nat)} {t_city : Value} {t_spareCity : Value} {t_script : Value} {t_spareScript : Value} {t_firstRefused : Int32} {t_firstKept : Int32} {x1 x2 x3 x4 : Int32} {oo : Nat} {fo : Nat → Int64} {out : Int32} (hf : f_X12_rests x1 x2 x3 x4 = some out) : CnW E l yL_rests cL_rests 7 (some .int) [(0, 14, 17, 13)] rw_rests [.ref t_o, .int x1, .int x2, .int x3, .int x4, .ref oo] ((wX12 E t_o t_q t_tape t_reader t_counsel t_now t_trial t_past t_reports t_marks t_city t_spareCity t_script t_spareScript t_firstRefused t_firstKept) ++ wL E oo 1 fo) (some (.int 0)) ((wX12 E t_o t_q t_tape t_reader t_counsel t_now t_trial t_past t_reports t_marks t_city t_spareCity t_script t_spareScript t_firstRefused t_firstKept) ++ wL E oo 1 (vp_updL fo 0 (out).toInt64)) := by
  refine CnW.of (by decide) (Nat.le_of_ble_eq_true rfl) rfl ?_
  intro p e s m below meth c A ls args H locs X _ hw hl
  have hx := X.1.1
  have hb := X.1.2.1
  have ho := X.1.2.2.2.1
  have hts := X.1.2.2.2.2
  have hl : lv_has ls 7 [(0, .ref t_o), (1, .int x1), (2, .int x2), (3, .int x3), (4, .int x4), (5, .ref oo)] := hl
  refine lv_aload hx hb dL_rests_0 (lv_at hl 5 rfl) ?_
  refine lv_iconst (v := (0 : Int32)) hx hb dL_rests_2 (by decide) ?_
  refine lv_aload_n hx hb dL_rests_3 rfl (lv_at hl 0 rfl) ?_
  refine lv_iload_n hx hb dL_rests_4 rfl (lv_at hl 1 rfl) ?_
  refine lv_iload_n hx hb dL_rests_5 rfl (lv_at hl 2 rfl) ?_
  refine lv_iload_n hx hb dL_rests_6 rfl (lv_at hl 3 rfl) ?_
  refine lv_iload hx hb dL_rests_7 (lv_at hl 4 rfl) ?_
  refine k_V (As := [.int x1, .int x2, .int x3, .int x4]) (rest := [.int (0 : Int32), .ref oo]) (index := 15) (C := RX12) X (c_X12_rests hf) tw_1351 tw_1352 tw_1353 tw_119 tw_1354 ⟨rfl, rfl⟩ hd_X12_rests ⟨Nat.le_of_ble_eq_true rfl, Nat.le_of_ble_eq_true rfl⟩ ⟨Nat.zero_le _, Nat.zero_le _⟩ hw [0, 1] rfl rfl 0 rfl rfl rfl rfl hl.1 rfl (Nat.le_of_ble_eq_true rfl) dL_rests_9 (fun H locs hw => ?_)
  have hw : Wd E A s.heap ((wX12 E t_o t_q t_tape t_reader t_counsel t_now t_trial t_past t_reports t_marks t_city t_spareCity t_script t_spareScript t_firstRefused t_firstKept) ++ wL E oo 1 fo) H locs := hw
  refine lv_i2l (v := (out).toInt64) hx hb dL_rests_12 rfl ?_
  refine k_last (q0 := 2) (n := 1) (f := fo) (x := (out).toInt64) (i := (0 : Int32)) X hw rfl (show ¬ (_ ∨ _) from by decide) dL_rests_13 (fun H locs hw => ?_)
  have hw : Wd E A s.heap ((wX12 E t_o t_q t_tape t_reader t_counsel t_now t_trial t_past t_reports t_marks t_city t_spareCity t_script t_spareScript t_firstRefused t_firstKept) ++ wL E oo 1 (vp_updL fo 0 (out).toInt64)) H locs := hw
  refine lv_goto (tgt := 21) hx hb dL_rests_14 (by decide) ?_
  refine lv_iconst (v := (0 : Int32)) hx hb dL_rests_21 (by decide) ?_
  exact k_iret X hw dL_rests_22
abbrev rx_rests : Room := { frames := 7, cells := 1, slots := 6, locals := 116 }
set_option maxRecDepth 100000 in
set_option maxHeartbeats 4000000 in
theorem wt_rests {E : En} {l : Launch} (hlt : l.stackTraces = false) {sa : Nat → Nat} {t_o : Nat} {t_q : Nat → Nat} {t_tape : Value} {t_reader : Value} {t_counsel : Value} {t_now : Value} {t_trial : Value} {t_past : Value} {t_reports : Value} {t_marks : (Nat → Option Nat)} {t_city : Value} {t_spareCity : Value} {t_script : Value} {t_spareScript : Value} {t_firstRefused : Int32} {t_firstKept : Int32} {x1 x2 x3 x4 : Int32} {oo : Nat} {fo : Nat → Int64} (hf : g_X12_rests x1 x2 x3 x4 = true) : CtW E l yL_rests cL_rests 7 [(0, 14, 17, 13)] rx_rests [.ref t_o, .int x1, .int x2, .int x3, .int x4, .ref oo] ((wX12 E t_o t_q t_tape t_reader t_counsel t_now t_trial t_past t_reports t_marks t_city t_spareCity t_script t_spareScript t_firstRefused t_firstKept) ++ wL E oo 1 fo) sa := by
  refine CtW.of (by decide) (Nat.le_of_ble_eq_true rfl) ?_
  intro p e s m below meth c A ls args H locs X hv hc htab hw hl
  have hx := X.1.1
  have hb := X.1.2.1
  have ho := X.1.2.2.2.1
  have hts := X.1.2.2.2.2
  have hl : lv_has ls 7 [(0, .ref t_o), (1, .int x1), (2, .int x2), (3, .int x3), (4, .int x4), (5, .ref oo)] := hl
  refine lv_aload hx hb dL_rests_0 (lv_at hl 5 rfl) ?_
  refine lv_iconst (v := (0 : Int32)) hx hb dL_rests_2 (by decide) ?_
  refine lv_aload_n hx hb dL_rests_3 rfl (lv_at hl 0 rfl) ?_
  refine lv_iload_n hx hb dL_rests_4 rfl (lv_at hl 1 rfl) ?_
  refine lv_iload_n hx hb dL_rests_5 rfl (lv_at hl 2 rfl) ?_
  refine lv_iload_n hx hb dL_rests_6 rfl (lv_at hl 3 rfl) ?_
  refine lv_iload hx hb dL_rests_7 (lv_at hl 4 rfl) ?_
  refine k_VT (As := [.int x1, .int x2, .int x3, .int x4]) (rest := [.int (0 : Int32), .ref oo]) (index := 15) (C := RX12) X (t_X12_rests hlt hf) tw_1351 tw_1352 tw_1353 tw_119 tw_1354 ⟨rfl, rfl⟩ hd_X12_rests ⟨Nat.le_of_ble_eq_true rfl, Nat.le_of_ble_eq_true rfl⟩ ⟨Nat.le_of_ble_eq_true rfl, Nat.le_of_ble_eq_true rfl⟩ hw hv hc [0, 1] rfl rfl 0 rfl rfl rfl rfl hl.1 rfl (Nat.le_of_ble_eq_true rfl) dL_rests_9 htab (by decide) (by decide) tw_1260 (fun H locs q hw => ?_)
  have hw : Wd E A s.heap ((wX12 E t_o t_q t_tape t_reader t_counsel t_now t_trial t_past t_reports t_marks t_city t_spareCity t_script t_spareScript t_firstRefused t_firstKept) ++ wL E oo 1 fo) H locs := hw
  refine lv_astore (lv' := [(6, .ref q), (0, .ref t_o), (1, .int x1), (2, .int x2), (3, .int x3), (4, .int x4), (5, .ref oo)]) hx hb dL_rests_17 hl (by decide) rfl (fun ls hl => ?_)
  refine lv_iconst (v := (1 : Int32)) hx hb dL_rests_19 (by decide) ?_
  exact k_iretN X hw dL_rests_20
