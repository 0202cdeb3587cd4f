/-! the law: its loop -/
def lw_P (b : Addr) (xs : List Int32) (args : Array Value) (s : State) : Prop := args = #[.ref b] ∧ s.IntsAt b xs ∧ xs.length ≤ 3584 ∧ (Jvm.Cond.and given_1 narrow_1).before args s = true
def lw_Q (_ : Array Value) (s : State) (o : Outcome) (t : State) : Prop := o = .returned (some (.int 1)) ∧ Framed s o t [] 601024 7293034
def lw_Z (below : List Frame) (a : Array Value) (s : State) : State → Prop := fun t => ∃ o, t.status = .running ∧ Ended t below o ∧ lw_Q a s o t
/-- the law's own end, with 1 on the stack, nothing written that was there before, its room as the claim has it -/
theorem lw_ret {p : Program} {l : Launch} {e : Env} {s : State} {m : MethodId} {below : List Frame} {meth : Method} {c : Code} {b : Nat} (hx : p.tables.exec = Jvm.exec) (hb : c.code = code) (hr : meth.sig.returnType = ret) (hlocks : meth.locks = false) {pc : Nat} {H : Heap} {ls : Array Slot} (hdg : decode code pc = .ok (.ireturn, 1)) : W p l e room_1 s m #[Value.ref b] below meth c H [] 601024 7293034 (lw_Z below #[Value.ref b] s) (F0 m pc ls [.int 1]) := by
  intro T hT X
  obtain ⟨fs, hret, hrun, hended, hW, hframe⟩ := X.leave (v := some (.int 1)) (hlocks := hlocks) (fun h => by rw [hr] at h; cases h)
  have hmeth' : T.vm.method? m = some meth := X.method'
  refine ⟨T.setFrames fs, ?_, .returned (some (.int 1)), hrun, hended, rfl, ⟨_, rfl⟩, hW, hframe⟩
  jvm_step X.here [X.here.top, hx, hb, hdg, hmeth', hr, ret, narrow_b1]
  (try refine ⟨rfl, ?_⟩); (try refine ⟨rfl, ?_⟩)
  first | (intro acts; rw [hret _ acts rfl rfl rfl]) | rw [hret _ _ rfl rfl rfl]
  exact Steps.refl _
/-- what holds at the law's entry: the machine, the code, the tables' words (any of lw_tbl by 'hts w (by decide +kernel)'), the script of L ints xs at the cell b, what the Statement gives of the start (any of its parts by flat_of_before) -/
def lw_At (p : Program) (s : State) (m : MethodId) (meth : Method) (c : Code) (b L : Nat) (xs : Nat → Int32) : Prop :=
  p.tables.exec = Jvm.exec ∧ c.code = code ∧ meth.sig.returnType = ret ∧ c.maxLocals = 7 ∧ s.vm.findClass R_law = some m.cls ∧ (∀ w ∈ lw_tbl, w.before #[Value.ref b] s = true) ∧ va_X b L xs s s.heap ∧ b < s.heap.size ∧ meth.locks = false ∧ (Jvm.Cond.and given_1 narrow_1).before #[Value.ref b] s = true
set_option maxRecDepth 100000 in
set_option maxHeartbeats 8000000 in
theorem law_loop {E : En} {p : Program} {l : Launch} {e : Env} {s : State} {m : MethodId} {below : List Frame} {meth : Method} {c : Code} {b L o_o m_o ou_o : Nat} {xs : Nat → Int32} {sa : Nat → Nat} (hlt : l.stackTraces = false) (X : Bx E (fun q => s.heap.size ≤ q) p s m #[Value.ref b] meth c cL_law 7 R_law (some .boolean)) (hr : meth.sig.returnType = ret) (S : Sx b L xs (fun q => s.heap.size ≤ q) s) (hv : Xv sa s) (hc : Xc (fun q => s.heap.size ≤ q) s s.heap) : ∀ (n j cells slots : Nat) (H : Heap) (locs : List Loc) (ls : Array Slot), j ≤ 3600 → L < j + 7 * n → cells + n ≤ 601024 → slots + 6 * n ≤ 7293034 → Inv E (fun q => s.heap.size ≤ q) s o_o m_o ou_o H locs → lv_has ls 7 [(0, .ref b), (1, .ref o_o), (2, .ref m_o), (3, .ref ou_o), (4, .int (nI j))] → W p l e room_1 s m #[Value.ref b] below meth c H locs cells slots (lw_Z below #[Value.ref b] s) (F0 m 23 ls []) := by
  have hx := X.1.1
  have hb := X.1.2.1
  have hL := S.2.2.2
  intro n
  induction n with
  | zero =>
    intro j cells slots H locs ls hj hf hcl hsl hI hl
    have hS : va_S (fun q => s.heap.size ≤ q) s.heap H locs := by
      exact hI.el (fun _ _ _ _ _ _ _ _ _ _ _ _ _ _ _ _ _ _ _ _ _ _ _ _ _ _ _ _ _ _ _ _ _ _ _ _ _ _ _ _ _ _ _ _ _ _ _ _ _ _ _ _ _ _ _ _ _ _ _ _ _ _ _ _ _ _ _ _ _ _ _ _ _ _ _ _ _ _ _ _ _ _ _ _ _ _ _ _ _ _ _ _ _ _ _ _ _ _ _ _ _ _ _ _ _ _ _ _ _ _ _ _ _ _ _ _ _ _ _ _ _ _ _ _ _ _ _ _ _ _ _ _ _ _ _ _ _ _ _ _ _ _ _ _ _ _ _ _ _ _ _ _ _ _ _ _ _ _ _ _ _ _ _ _ _ _ _ _ _ _ _ _ _ _ _ _ _ _ _ _ _ _ _ _ _ _ _ _ _ _ _ _ _ _ _ _ _ _ _ _ _ _ _ _ _ _ _ _ _ _ _ _ _ _ _ _ _ _ _ _ _ _ _ _ _ _ _ _ _ _ _ _ _ _ _ _ _ _ _ _ _ _ _ _ _ hw => hw.2.2.1)
    refine lv_iload hx hb dL_law_23 (lv_at hl 4 rfl) ?_
    refine lv_aload_n hx hb dL_law_25 rfl (lv_at hl 0 rfl) ?_
    refine va_slen hx hb S.1 S.2.1 S.2.2.1 hS dL_law_26 ?_
    refine lv_bipush (v := (7 : Int32)) hx hb dL_law_27 (by decide) ?_
    refine lv_isub hx hb dL_law_29 ?_
    refine lv_icmp_gt (tgt := 1271) hx hb dL_law_30 (by decide) (fun _ => ?_) (fun c_9 => absurd (gt_of (by omega) (by omega) (by omega)) c_9)
    refine lv_iconst (v := (1 : Int32)) hx hb dL_law_1271 (by decide) ?_
    refine va_forget (fun q hq => hS.2.2 q hq) ?_
    refine W.widen (k := 601024) (n := 7293034) (by omega) (by omega) ?_
    exact lw_ret hx hb hr X.2.2.2.1 dL_law_1272
  | succ n ih =>
    intro j cells slots H locs ls hj hf hcl hsl hI hl
    have hS : va_S (fun q => s.heap.size ≤ q) s.heap H locs := by
      exact hI.el (fun _ _ _ _ _ _ _ _ _ _ _ _ _ _ _ _ _ _ _ _ _ _ _ _ _ _ _ _ _ _ _ _ _ _ _ _ _ _ _ _ _ _ _ _ _ _ _ _ _ _ _ _ _ _ _ _ _ _ _ _ _ _ _ _ _ _ _ _ _ _ _ _ _ _ _ _ _ _ _ _ _ _ _ _ _ _ _ _ _ _ _ _ _ _ _ _ _ _ _ _ _ _ _ _ _ _ _ _ _ _ _ _ _ _ _ _ _ _ _ _ _ _ _ _ _ _ _ _ _ _ _ _ _ _ _ _ _ _ _ _ _ _ _ _ _ _ _ _ _ _ _ _ _ _ _ _ _ _ _ _ _ _ _ _ _ _ _ _ _ _ _ _ _ _ _ _ _ _ _ _ _ _ _ _ _ _ _ _ _ _ _ _ _ _ _ _ _ _ _ _ _ _ _ _ _ _ _ _ _ _ _ _ _ _ _ _ _ _ _ _ _ _ _ _ _ _ _ _ _ _ _ _ _ _ _ _ _ _ _ _ _ _ _ _ _ hw => hw.2.2.1)
    refine lv_iload hx hb dL_law_23 (lv_at hl 4 rfl) ?_
    refine lv_aload_n hx hb dL_law_25 rfl (lv_at hl 0 rfl) ?_
    refine va_slen hx hb S.1 S.2.1 S.2.2.1 hS dL_law_26 ?_
    refine lv_bipush (v := (7 : Int32)) hx hb dL_law_27 (by decide) ?_
    refine lv_isub hx hb dL_law_29 ?_
    by_cases hgo : j + 7 ≤ L
    · refine lv_icmp_gt (tgt := 1271) hx hb dL_law_30 (by decide) (fun c_9 => absurd c_9 (gt_not (by omega) hgo)) (fun _ => ?_)
      have kk : ∀ (H : Heap) (locs : List Loc) (ls : Array Slot), Inv E (fun q => s.heap.size ≤ q) s o_o m_o ou_o H locs → lv_has ls 7 [(0, .ref b), (1, .ref o_o), (2, .ref m_o), (3, .ref ou_o), (4, .int (nI j))] → W p l e room_1 s m #[Value.ref b] below meth c H locs (cells + 1) (slots + 6) (lw_Z below #[Value.ref b] s) (F0 m 1265 ls []) := by
        intro H locs ls hI hl
        refine lv_iinc (v := nI (j + 7)) (lv' := [(4, .int (nI (j + 7))), (0, .ref b), (1, .ref o_o), (2, .ref m_o), (3, .ref ou_o)]) hx hb dL_law_1265 hl (k := 4) rfl (by rw [← nI_add]; rfl) (by decide) rfl (fun ls hl => ?_)
        refine lv_goto (tgt := 23) hx hb dL_law_1268 (by decide) ?_
        exact ih (j + 7) _ _ H locs ls (by omega) (by omega) (by omega) (by omega) hI (lv_sub hl [1, 2, 3, 4, 0] rfl)
      have hc1 : cells + 1 ≤ room_1.cells := by show cells + 1 ≤ 601024; omega
      have hs6 : slots + 6 ≤ room_1.slots := by show slots + 6 ≤ 7293034; omega
      refine lv_aload_n hx hb dL_law_33 rfl (lv_at hl 0 rfl) ?_
      refine lv_iload hx hb dL_law_34 (lv_at hl 4 rfl) ?_
      refine va_sld hx hb S.1 S.2.1 S.2.2.1 hS (vp_in_nI (by omega) (by omega)) dL_law_36 ?_
      refine lv_bipush (v := (31 : Int32)) hx hb dL_law_37 (by decide) ?_
      refine lv_iand hx hb dL_law_39 ?_
      refine lv_topi (fun x0 _ => ?_)
      exact hI.el (fun o_q o_firstRefused o_firstKept k_o k_q k_signs k_length k_place k_behind k_kind k_value k_letters k_word d_o d_city d_script d_fault u_o u_q u_row u_leastRow u_needed u_likeSizes u_least u_ended u_monthsKept un_o un_f uw_o uw_f up_o up_q up_month up_power up_master up_left up_kept up_passed up_sizes up_fields up_liked s_o s_q s_month s_power s_master s_left s_kept s_passed s_sizes s_fields s_liked w_o w_q w_month w_power w_master w_left w_kept w_passed w_sizes w_fields w_liked h_o h_q h_steps h_next hb_o hb_q hb_month hb_power hb_master hb_left hb_kept hb_passed hb_sizes hb_fields hb_liked r_o r_q r_told r_dangers r_months r_sizes q_o q_laid qs_o qs_q qs_month qs_power qs_master qs_left qs_kept qs_passed qs_sizes qs_fields qs_liked qj_o qj_q qj_lines qj_kinds qj_firsts qj_seconds qr_o qr_q qr_told qr_dangers qr_months qr_sizes c_o c_q c_men c_consuls c_dangers c_decrees c_term c_termTold c_manNames c_kinds c_skills c_fields c_wants c_hated c_dangerNames c_sizes c_grows c_decreeNames c_grounds l_o l_q l_ops l_stack l_size l_worksFrom l_worksTo l_keepsFrom l_keepsTo e_o e_q e_men e_consuls e_dangers e_decrees e_term e_termTold e_manNames e_kinds e_skills e_fields e_wants e_hated e_dangerNames e_sizes e_grows e_decreeNames e_grounds f_o f_q f_ops f_stack f_size f_worksFrom f_worksTo f_keepsFrom f_keepsTo j_o j_q j_lines j_kinds j_firsts j_seconds i_o i_q i_lines i_kinds i_firsts i_seconds m_q m_thrown m_taped m_tape m_size m_place m_begin m_token m_word m_told m_wrong m_city m_manName m_dangerName m_decreeName m_kind m_skill m_fieldTold m_want m_hates m_restsOn m_sizeTold m_grows m_lineFrom m_lineTo m_codes m_code m_lawLine m_toldLines m_opened m_compared m_kept m_keptBy m_ahead m_against m_sum m_sumBy m_term m_termBy m_byNot m_valueOf m_given m_fresh m_consulsMany m_lines m_lineWhat m_lineA m_lineB m_tolds m_toldDanger m_toldMonths m_toldSize m_s m_aside m_tried m_marked m_undone m_isLaid m_done m_heading m_bestHeading m_leastLeft m_goesTo m_bestGoes m_leastMonths m_g ou_f hR hw => law_sw X S hgo hc1 hs6 hlt hv hc hl hR hw kk)
    · refine lv_icmp_gt (tgt := 1271) hx hb dL_law_30 (by decide) (fun _ => ?_) (fun c_9 => absurd (gt_of (by omega) (by omega) (by omega)) c_9)
      refine lv_iconst (v := (1 : Int32)) hx hb dL_law_1271 (by decide) ?_
      refine va_forget (fun q hq => hS.2.2 q hq) ?_
      refine W.widen (k := 601024) (n := 7293034) (by omega) (by omega) ?_
      exact lw_ret hx hb hr X.2.2.2.1 dL_law_1272
