/-! totals, comparisons, expressions -/
section
variable {k_signs m_tape : TN} {n li x : Nat} {d_fault m_wrong : Int32} {F : TF} {ops0 codes0 op0 cm0 : TN} {s0 c0 b0 : Nat}
theorem tot_loop (hn : n ≤ 1000) (hfg : ∀ i, i < n → m_tape i = k_signs i) (hx : x ≤ 5) (hF : PartOK n k_signs m_tape li x F) (ho : x = 0 ∨ op0 x = 2) (hs0 : s0 ≤ b0) (hc0 : c0 ≤ 1000 + b0) : ∀ (fu1 : Nat) (ops codes op cm : TN) (fu j : Nat) (k_place k_behind k_kind k_value : Int32) (k_letters : Int64) (k_word : Option Nat) (m_place m_begin m_token : Int32) (m_word : Int64) (m_told : Int32) (b e : Nat) (P C : List Int32) (f : Fn), Stot li x P C f → TS n k_signs k_place k_behind k_kind k_value k_letters k_word m_place m_begin m_token m_word m_told b e → f_X10_isSign k_kind k_value 42 = 0 → n < fu1 + b → n < fu + b → AP ops0 s0 P ops → AP codes0 c0 C codes → (∀ i, i ≤ x → op i = op0 i) → (∀ i, i < x + 1 → cm i = cm0 i) → b0 + P.length ≤ b → b0 + C.length ≤ b → b0 < b → 2 * j ≤ b → OUT (Stot li x) Ztot (x + 1) n k_signs m_tape li x d_fault m_wrong b0 ops0 s0 codes0 c0 op0 cm0 (f_X6_total_10 F fu1 d_fault ops (nI (s0 + P.length)) k_signs (nI n) k_place k_behind k_kind k_value k_letters k_word (nI li) (nI x) 1 (nI j)) (f_X13_reads_11 fu m_tape (nI n) m_place m_begin m_token m_word m_told m_wrong codes (nI (c0 + C.length)) (nI li) op cm (nI x) 0) := by
  intro fu1
  induction fu1 with
  | zero => intro ops codes op cm fu j k_place k_behind k_kind k_value k_letters k_word m_place m_begin m_token m_word m_told b e P C f hS h _ hf; have := h.2.2.2.2.le; omega
  | succ fu1 ih =>
    intro ops codes op cm fu j k_place k_behind k_kind k_value k_letters k_word m_place m_begin m_token m_word m_told b e P C f hS h h42 hf hf2 hA hB hop hcm hP hC hb hj
    have l0 := h.2.2.2.2.le
    rw [f_X6_total_10.eq_2, if_neg (show ¬ 1000 ≤ nI j from fun q => by have := (nI_leI (a := 1000) (by omega) (by omega)).mp q; omega), if_neg n10]
    have go : ∀ (sg co op' : Int32), ((sg = 43 ∧ co = 20 ∧ op' = -10) ∨ (sg = 45 ∧ co = 21 ∧ op' = -11)) → ¬ f_X10_isSign k_kind k_value sg = 0 → OUT (Stot li x) Ztot (x + 1) n k_signs m_tape li x d_fault m_wrong b0 ops0 s0 codes0 c0 op0 cm0 (f_X6_total_65 F (f_X6_total_10 F fu1) d_fault ops (nI (s0 + P.length)) k_signs (nI n) k_behind (nI li) (nI x) (nI j) op') (f_X13_reads_11 fu m_tape (nI n) m_place m_begin m_token m_word m_told m_wrong codes (nI (c0 + C.length)) (nI li) op cm (nI x) 0) := by
      intro sg co op' hsc hs
      obtain ⟨q_place, q_behind, q_kind, q_value, q_letters, q_word, p_place, p_begin, p_token, p_word, p_told, b1, e1, a1, a2, a3, a4⟩ := adv hn hfg h
      have l1 := a3.2.2.2.2.le
      have lt := h.lt (by rw [(sg_ne hs).1]; decide)
      unfold f_X6_total_65
      rw [show fu = (fu - 1) + 1 by omega, r11_arith hn hfg h (Or.inr (hsc.imp (fun z => ⟨z.1, z.2.1⟩) (fun z => ⟨z.1, z.2.1⟩))) hs a2 (by omega), a1]
      simp only [o_bs]
      rcases prod_rel (d_fault := d_fault) (m_wrong := m_wrong) (ops0 := ops) (codes0 := upd codes (c0 + C.length) co) (op0 := op) (cm0 := cm) (s0 := s0 + P.length) (c0 := c0 + C.length + 1) (b0 := b1) (fu := fu - 1) hn hfg hx hF (ho.imp id (fun z => by rw [hop x (Nat.le_refl _)]; exact z)) (by omega) (by omega) a3 (by omega) with ⟨o1, o2, f1, f2, f3, f4, f5, fr⟩ | ⟨P1, C1, f1, ops1, codes1, op1, cm1, fu2, r_place, r_behind, r_kind, r_value, r_letters, r_word, t_place, t_begin, t_token, t_word, t_told, b2, e2, g1, g2, g3, g5, g6, g8, g9, g10, g11, g12, g13, g14, g15⟩
      · left
        rw [f1, f2]
        simp only [o_bs]
        rw [show fu1 = (fu1 - 1) + 1 by omega, f_X6_total_10.eq_2, f3, if_pos rfl]
        have e0 : ∀ (z : Option TX), (if 1000 ≤ nI j + 1 then z else z) = z := fun z => by split <;> rfl
        rw [e0, q_zg0]
        exact ⟨_, _, rfl, rfl, rfl, f4, f5, fun i hi => by rw [fr i (by omega), pk_un (by omega)]; exact hB.1 i hi⟩
      · have l2 := g5.2.2.2.2.le
        rw [g2, g3]
        simp only [o_bs]
        rw [add_eq (by omega), nI_1]
        simp only []
        have eP : s0 + P.length + P1.length + 1 = s0 + (P ++ (P1 ++ [op'])).length := by simp only [List.length_append, List.length_singleton]; omega
        have eC : c0 + C.length + 1 + C1.length = c0 + (C ++ co :: C1).length := by simp only [List.length_append, List.length_cons]; omega
        rw [eP, eC]
        have hco : co = 20 ∨ co = 21 := hsc.imp (fun z => z.2.1) (fun z => z.2.1)
        refine ih _ _ op1 cm1 fu2 (j + 1) r_place r_behind r_kind r_value r_letters r_word t_place t_begin t_token t_word t_told b2 e2 _ _ (fun a b c d => if co = 21 then f a b c d - f1 a b c d else f a b c d + f1 a b c d) ⟨?_, tot_add hco hS.2 g1.2 (by omega)⟩ g5 g15 (by omega) g6 (hA.app (g8.app AP.one)) ?_ (fun i hi => by rw [g10 i hi, hop i hi]) (fun i hi => by rw [g11 i hi, hcm i hi]) (by omega) ?_ (by omega) (by omega)
        · have := cp_bin (hb := 4 * x + 2) (by omega) hS.1 g1.1 (op := op') (by rcases hsc with z | z <;> rw [z.2.2] <;> decide) (by rcases hsc with z | z <;> rw [z.2.2] <;> decide)
          rwa [show (fun a b c d => f_X3_joined op' (f a b c d) (f1 a b c d)) = (fun a b c d => if co = 21 then f a b c d - f1 a b c d else f a b c d + f1 a b c d) from by
            funext a b c d
            unfold f_X3_joined
            rcases hsc with z | z
            · rw [z.2.1, z.2.2, if_neg (by decide), if_neg (by decide), if_pos rfl, if_neg (by decide)]
            · rw [z.2.1, z.2.2, if_neg (by decide), if_pos rfl, if_pos rfl]] at this
        · rw [show C ++ co :: C1 = C ++ ([co] ++ C1) from rfl]
          exact hB.app (AP.one.app (by rw [List.length_singleton]; exact g9))
        · simp only [List.length_append, List.length_cons]; omega
    by_cases h43 : f_X10_isSign k_kind k_value 43 = 0
    · rw [if_pos h43]
      by_cases h45 : f_X10_isSign k_kind k_value 45 = 0
      · right
        rw [if_pos h45, q_zg1]
        exact ⟨P, C, f, ops, codes, op, cm, fu, k_place, k_behind, k_kind, k_value, k_letters, k_word, m_place, m_begin, m_token, m_word, m_told, b, e, hS, rfl, rfl, h, hf2, hA, hB, hop, hcm, hP, hC, hb, h42, h43, h45⟩
      · rw [if_neg h45]
        unfold f_X6_total_46
        rw [if_pos h43]
        exact go 45 21 (-11) (Or.inr ⟨rfl, rfl, rfl⟩) h45
    · rw [if_neg h43]
      unfold f_X6_total_46
      rw [if_neg h43]
      exact go 43 20 (-10) (Or.inl ⟨rfl, rfl, rfl⟩) h43
theorem tot_rel (hn : n ≤ 1000) (hfg : ∀ i, i < n → m_tape i = k_signs i) (hx : x ≤ 5) (hF : PartOK n k_signs m_tape li x F) (ho : x = 0 ∨ op0 x = 2) (hs0 : s0 ≤ b0) (hc0 : c0 ≤ 1000 + b0) {fu : Nat} {k_place k_behind k_kind k_value : Int32} {k_letters : Int64} {k_word : Option Nat} {m_place m_begin m_token : Int32} {m_word : Int64} {m_told : Int32} {e : Nat} (h : TS n k_signs k_place k_behind k_kind k_value k_letters k_word m_place m_begin m_token m_word m_told b0 e) (hf : n < fu + b0) : OUT (Stot li x) Ztot (x + 1) n k_signs m_tape li x d_fault m_wrong b0 ops0 s0 codes0 c0 op0 cm0 (f_X6_total F d_fault ops0 (nI s0) k_signs (nI n) k_place k_behind k_kind k_value k_letters k_word (nI li) (nI x)) (f_X13_reads_11 fu m_tape (nI n) m_place m_begin m_token m_word m_told m_wrong codes0 (nI c0) (nI li) op0 cm0 (nI x) 1) := by
  unfold f_X6_total
  rcases prod_rel (d_fault := d_fault) (m_wrong := m_wrong) (ops0 := ops0) (codes0 := codes0) (op0 := op0) (cm0 := cm0) (fu := fu) hn hfg hx hF ho hs0 hc0 h hf with ⟨o1, o2, f1, f2, f3, f4, f5, fr⟩ | ⟨P1, C1, f1, ops1, codes1, op1, cm1, fu2, r_place, r_behind, r_kind, r_value, r_letters, r_word, t_place, t_begin, t_token, t_word, t_told, b2, e2, g1, g2, g3, g5, g6, g8, g9, g10, g11, g12, g13, g14, g15⟩
  · left
    rw [f1, f2]
    simp only [o_bs]
    rw [f_X6_total_10.eq_2, f3, if_neg (by decide), if_pos rfl, q_zg0]
    exact ⟨_, _, rfl, rfl, rfl, f4, f5, fr⟩
  · have l2 := g5.2.2.2.2.le
    rw [g2, g3]
    simp only [o_bs]
    exact tot_loop hn hfg hx hF ho hs0 hc0 1100 ops1 codes1 op1 cm1 fu2 0 r_place r_behind r_kind r_value r_letters r_word t_place t_begin t_token t_word t_told b2 e2 P1 C1 f1 ⟨g1.1.mono (by omega), prod_tot g1.2⟩ g5 g15 (by omega) g6 g8 g9 g10 g11 g12 g13 g14 (by omega)
theorem cmp_rel (hn : n ≤ 1000) (hfg : ∀ i, i < n → m_tape i = k_signs i) (hx : x ≤ 5) (hF : PartOK n k_signs m_tape li x F) (ho : x = 0 ∨ op0 x = 2) (hcm : cm0 x = 0) (hs0 : s0 ≤ b0) (hc0 : c0 ≤ 1000 + b0) {fu : Nat} {k_place k_behind k_kind k_value : Int32} {k_letters : Int64} {k_word : Option Nat} {m_place m_begin m_token : Int32} {m_word : Int64} {m_told : Int32} {e : Nat} (h : TS n k_signs k_place k_behind k_kind k_value k_letters k_word m_place m_begin m_token m_word m_told b0 e) (hf : n < fu + b0) : OUT (Scmp li x) Zcmp x n k_signs m_tape li x d_fault m_wrong b0 ops0 s0 codes0 c0 op0 cm0 (f_X6_comparison F d_fault ops0 (nI s0) k_signs (nI n) k_place k_behind k_kind k_value k_letters k_word (nI li) (nI x)) (f_X13_reads_11 fu m_tape (nI n) m_place m_begin m_token m_word m_told m_wrong codes0 (nI c0) (nI li) op0 cm0 (nI x) 1) := by
  unfold f_X6_comparison
  rcases tot_rel (d_fault := d_fault) (m_wrong := m_wrong) (ops0 := ops0) (codes0 := codes0) (op0 := op0) (cm0 := cm0) (fu := fu) hn hfg hx hF ho hs0 hc0 h hf with ⟨o1, o2, f1, f2, f3, f4, f5, fr⟩ | ⟨P, C, f, ops, codes, op, cm, fu2, r_place, r_behind, r_kind, r_value, r_letters, r_word, t_place, t_begin, t_token, t_word, t_told, b2, e2, g1, g2, g3, g5, g6, g8, g9, g10, g11, g12, g13, g14, g15⟩
  · left
    rw [f1, f2]
    simp only [o_bs]
    rw [if_pos f3]
    exact ⟨_, _, rfl, rfl, rfl, f4, f5, fr⟩
  have l2 := g5.2.2.2.2.le
  rw [g2, g3]
  simp only [o_bs]
  rw [if_neg n10]
  have go : ∀ (sg co op' : Int32), ((sg = 60 ∧ co = 24 ∧ op' = -8) ∨ (sg = 61 ∧ co = 25 ∧ op' = -9)) → ¬ f_X10_isSign r_kind r_value sg = 0 → OUT (Scmp li x) Zcmp x n k_signs m_tape li x d_fault m_wrong b0 ops0 s0 codes0 c0 op0 cm0 (f_X6_comparison_56 F d_fault ops (nI (s0 + P.length)) k_signs (nI n) r_behind (nI li) (nI x) op') (f_X13_reads_11 fu2 m_tape (nI n) t_place t_begin t_token t_word t_told m_wrong codes (nI (c0 + C.length)) (nI li) op cm (nI x) 0) := by
    intro sg co op' hsc hs
    obtain ⟨q_place, q_behind, q_kind, q_value, q_letters, q_word, p_place, p_begin, p_token, p_word, p_told, b1, e1, a1, a2, a3, a4⟩ := adv hn hfg g5
    have l1 := a3.2.2.2.2.le
    have lt := g5.lt (by rw [(sg_ne hs).1]; decide)
    have hcx : cm x = 0 := by rw [g11 x (by omega)]; exact hcm
    unfold f_X6_comparison_56
    rw [show fu2 = (fu2 - 1) + 1 by omega, r11_cmp hn hfg g5 (hsc.imp (fun z => ⟨z.1, z.2.1⟩) (fun z => ⟨z.1, z.2.1⟩)) hs a2 (by omega) (by omega) hcx, a1]
    simp only [o_bs]
    rcases tot_rel (d_fault := d_fault) (m_wrong := m_wrong) (ops0 := ops) (codes0 := upd codes (c0 + C.length) co) (op0 := op) (cm0 := upd cm x 1) (s0 := s0 + P.length) (c0 := c0 + C.length + 1) (b0 := b1) (fu := fu2 - 1) hn hfg hx hF (ho.imp id (fun z => by rw [g10 x (Nat.le_refl _)]; exact z)) (by omega) (by omega) a3 (by omega) with ⟨o1, o2, f1, f2, f3, f4, f5, fr⟩ | ⟨P1, C1, f1, ops1, codes1, op1, cm1, fu3, u_place, u_behind, u_kind, u_value, u_letters, u_word, w_place, w_begin, w_token, w_word, w_told, b3, e3, j1, j2, j3, j5, j6, j8, j9, j10, j11, j12, j13, j14, j15⟩
    · left
      rw [f1, f2]
      simp only [o_bs]
      rw [q_zg (Or.inl f3)]
      exact ⟨_, _, rfl, rfl, f3, f4, f5, fun i hi => by rw [fr i (by omega), pk_un (by omega)]; exact g9.1 i hi⟩
    · have l3 := j5.2.2.2.2.le
      right
      rw [j2, j3]
      simp only [o_bs]
      rw [add_eq (by omega), q_zg1]
      simp only []
      have eP : s0 + P.length + P1.length + 1 = s0 + (P ++ (P1 ++ [op'])).length := by simp only [List.length_append, List.length_singleton]; omega
      have eC : c0 + C.length + 1 + C1.length = c0 + (C ++ co :: C1).length := by simp only [List.length_append, List.length_cons]; omega
      rw [eP, eC]
      have hco : co = 24 ∨ co = 25 := hsc.imp (fun z => z.2.1) (fun z => z.2.1)
      refine ⟨P ++ (P1 ++ [op']), C ++ co :: C1, (fun a b c d => if co = 24 then (if f1 a b c d ≤ f a b c d then 0 else 1) else if f a b c d = f1 a b c d then 1 else 0), _, codes1, op1, cm1, fu3, u_place, u_behind, u_kind, u_value, u_letters, u_word, w_place, w_begin, w_token, w_word, w_told, b3, e3, ⟨?_, cmp_two hco g1.2 j1.2 (by omega)⟩, rfl, rfl, j5, j6, g8.app (j8.app AP.one), ?_, fun i hi => by rw [j10 i hi, g10 i hi], fun i hi => by rw [j11 i (by omega), pk_un (by omega), g11 i (by omega)], ?_, ?_, by omega, j15, Or.inr (by rw [j11 x (by omega), pk_us])⟩
      · have := cp_bin (hb := 4 * x + 1) (by omega) (g1.1.mono (by omega)) j1.1 (op := op') (by rcases hsc with z | z <;> rw [z.2.2] <;> decide) (by rcases hsc with z | z <;> rw [z.2.2] <;> decide)
        rwa [show (fun a b c d => f_X3_joined op' (f a b c d) (f1 a b c d)) = (fun a b c d => if co = 24 then (if f1 a b c d ≤ f a b c d then 0 else 1) else if f a b c d = f1 a b c d then 1 else 0) from by
          funext a b c d
          unfold f_X3_joined
          rcases hsc with z | z
          · rw [z.2.1, z.2.2, if_neg (by decide), if_neg (by decide), if_neg (by decide), if_neg (by decide), if_pos rfl, if_pos rfl]
          · rw [z.2.1, z.2.2, if_neg (by decide), if_neg (by decide), if_neg (by decide), if_pos rfl, if_neg (show ¬ (25 : Int32) = 24 by decide)]] at this
      · rw [show C ++ co :: C1 = C ++ ([co] ++ C1) from rfl]
        exact g9.app (AP.one.app (by rw [List.length_singleton]; exact j9))
      · simp only [List.length_append, List.length_singleton]; omega
      · simp only [List.length_append, List.length_cons]; omega
  unfold f_X6_comparison_37
  by_cases h60 : f_X10_isSign r_kind r_value 60 = 0
  · rw [if_pos h60]
    by_cases h61 : f_X10_isSign r_kind r_value 61 = 0
    · right
      rw [if_pos h61]
      exact ⟨P, C, f, ops, codes, op, cm, fu2, r_place, r_behind, r_kind, r_value, r_letters, r_word, t_place, t_begin, t_token, t_word, t_told, b2, e2, ⟨g1.1.mono (by omega), tot_cmp g1.2⟩, rfl, rfl, g5, g6, g8, g9, g10, fun i hi => g11 i (by omega), g12, g13, g14, g15, Or.inl ⟨h60, h61⟩⟩
    · rw [if_neg h61, if_pos h60]
      exact go 61 25 (-9) (Or.inr ⟨rfl, rfl, rfl⟩) h61
  · rw [if_neg h60, if_neg h60]
    exact go 60 24 (-8) (Or.inl ⟨rfl, rfl, rfl⟩) h60
theorem exp_loop (hn : n ≤ 1000) (hfg : ∀ i, i < n → m_tape i = k_signs i) (hx : x ≤ 5) (hF : PartOK n k_signs m_tape li x F) (ho : x = 0 ∨ op0 x = 2) (hs0 : s0 ≤ b0) (hc0 : c0 ≤ 1000 + b0) : ∀ (fu1 : Nat) (ops codes op cm : TN) (fu j : Nat) (k_place k_behind k_kind k_value : Int32) (k_letters : Int64) (k_word : Option Nat) (m_place m_begin m_token : Int32) (m_word : Int64) (m_told : Int32) (b e : Nat) (P C : List Int32) (f : Fn), Sexp li x P C f → TS n k_signs k_place k_behind k_kind k_value k_letters k_word m_place m_begin m_token m_word m_told b e → noAr k_kind k_value → noCm k_kind k_value (cm x) → n < fu1 + b → n < fu + b → AP ops0 s0 P ops → AP codes0 c0 C codes → (∀ i, i ≤ x → op i = op0 i) → (∀ i, i < x → cm i = cm0 i) → b0 + P.length ≤ b → b0 + C.length ≤ b → b0 < b → 2 * j ≤ b → OUT (Sexp li x) Zexp x n k_signs m_tape li x d_fault m_wrong b0 ops0 s0 codes0 c0 op0 cm0 (f_X6_expression_10 F fu1 d_fault ops (nI (s0 + P.length)) k_signs (nI n) k_place k_behind k_kind k_value k_letters k_word (nI li) (nI x) 1 (nI j)) (f_X13_reads_11 fu m_tape (nI n) m_place m_begin m_token m_word m_told m_wrong codes (nI (c0 + C.length)) (nI li) op cm (nI x) 0) := by
  intro fu1
  induction fu1 with
  | zero => intro ops codes op cm fu j k_place k_behind k_kind k_value k_letters k_word m_place m_begin m_token m_word m_told b e P C f hS h _ _ hf; have := h.2.2.2.2.le; omega
  | succ fu1 ih =>
    intro ops codes op cm fu j k_place k_behind k_kind k_value k_letters k_word m_place m_begin m_token m_word m_told b e P C f hS h hnA hnC hf hf2 hA hB hop hcm hP hC hb hj
    have l0 := h.2.2.2.2.le
    rw [f_X6_expression_10.eq_2, if_neg (show ¬ 1000 ≤ nI j from fun q => by have := (nI_leI (a := 1000) (by omega) (by omega)).mp q; omega), if_neg n10]
    unfold f_X6_expression_48
    simp only [eg_ok h.wok]
    have go : ∀ (wd : Nat) (co op' : Int32), ((wd = 24 ∧ co = 26 ∧ op' = -6) ∨ (wd = 25 ∧ co = 27 ∧ op' = -7)) → k_word = some wd → OUT (Sexp li x) Zexp x n k_signs m_tape li x d_fault m_wrong b0 ops0 s0 codes0 c0 op0 cm0 (f_X6_expression_68 F (f_X6_expression_10 F fu1) d_fault ops (nI (s0 + P.length)) k_signs (nI n) k_behind (nI li) (nI x) (nI j) op') (f_X13_reads_11 fu m_tape (nI n) m_place m_begin m_token m_word m_told m_wrong codes (nI (c0 + C.length)) (nI li) op cm (nI x) 0) := by
      intro wd co op' hsc hs
      obtain ⟨q_place, q_behind, q_kind, q_value, q_letters, q_word, p_place, p_begin, p_token, p_word, p_told, b1, e1, a1, a2, a3, a4⟩ := adv hn hfg h
      have l1 := a3.2.2.2.2.le
      have lt := h.lt (by rw [h.kind1 hs]; decide)
      unfold f_X6_expression_68
      rw [show fu = (fu - 1) + 1 by omega, r11_log hn hfg h hnA hnC (hsc.imp (fun z => ⟨z.1, z.2.1⟩) (fun z => ⟨z.1, z.2.1⟩)) hs a2 (by omega) (by omega), a1]
      simp only [o_bs]
      rcases cmp_rel (d_fault := d_fault) (m_wrong := m_wrong) (ops0 := ops) (codes0 := upd codes (c0 + C.length) co) (op0 := op) (cm0 := upd cm x 0) (s0 := s0 + P.length) (c0 := c0 + C.length + 1) (b0 := b1) (fu := fu - 1) hn hfg hx hF (ho.imp id (fun z => by rw [hop x (Nat.le_refl _)]; exact z)) pk_us (by omega) (by omega) a3 (by omega) with ⟨o1, o2, f1, f2, f3, f4, f5, fr⟩ | ⟨P1, C1, f1, ops1, codes1, op1, cm1, fu2, r_place, r_behind, r_kind, r_value, r_letters, r_word, t_place, t_begin, t_token, t_word, t_told, b2, e2, g1, g2, g3, g5, g6, g8, g9, g10, g11, g12, g13, g14, g15⟩
      · left
        rw [f1, f2]
        simp only [o_bs]
        rw [show fu1 = (fu1 - 1) + 1 by omega, f_X6_expression_10.eq_2, f3, if_pos rfl]
        have e0 : ∀ (z : Option TX), (if 1000 ≤ nI j + 1 then z else z) = z := fun z => by split <;> rfl
        rw [e0, q_zg0]
        exact ⟨_, _, rfl, rfl, rfl, f4, f5, fun i hi => by rw [fr i (by omega), pk_un (by omega)]; exact hB.1 i hi⟩
      · have l2 := g5.2.2.2.2.le
        rw [g2, g3]
        simp only [o_bs]
        rw [add_eq (by omega), nI_1]
        simp only []
        have eP : s0 + P.length + P1.length + 1 = s0 + (P ++ (P1 ++ [op'])).length := by simp only [List.length_append, List.length_singleton]; omega
        have eC : c0 + C.length + 1 + C1.length = c0 + (C ++ co :: C1).length := by simp only [List.length_append, List.length_cons]; omega
        rw [eP, eC]
        have hco : co = 26 ∨ co = 27 := hsc.imp (fun z => z.2.1) (fun z => z.2.1)
        refine ih _ _ op1 cm1 fu2 (j + 1) r_place r_behind r_kind r_value r_letters r_word t_place t_begin t_token t_word t_told b2 e2 _ _ (fun a b c d => if co = 26 then andv (f a b c d) (f1 a b c d) else orv (f a b c d) (f1 a b c d)) ⟨?_, exp_and hco hS.2 g1.2 (by omega)⟩ g5 g15.1 g15.2 (by omega) g6 (hA.app (g8.app AP.one)) ?_ (fun i hi => by rw [g10 i hi, hop i hi]) (fun i hi => by rw [g11 i hi, pk_un (by omega), hcm i hi]) (by omega) ?_ (by omega) (by omega)
        · have := cp_bin (hb := 4 * x) (by omega) hS.1 g1.1 (op := op') (by rcases hsc with z | z <;> rw [z.2.2] <;> decide) (by rcases hsc with z | z <;> rw [z.2.2] <;> decide)
          rwa [show (fun a b c d => f_X3_joined op' (f a b c d) (f1 a b c d)) = (fun a b c d => if co = 26 then andv (f a b c d) (f1 a b c d) else orv (f a b c d) (f1 a b c d)) from by
            funext a b c d
            unfold f_X3_joined andv orv
            rcases hsc with z | z
            · rw [z.2.1, z.2.2, if_neg (by decide), if_neg (by decide), if_neg (by decide), if_neg (by decide), if_neg (by decide), if_neg (by decide), if_pos rfl, if_pos rfl]
            · rw [z.2.1, z.2.2, if_neg (by decide), if_neg (by decide), if_neg (by decide), if_neg (by decide), if_neg (by decide), if_pos rfl, if_neg (show ¬ (27 : Int32) = 26 by decide)]] at this
        · rw [show C ++ co :: C1 = C ++ ([co] ++ C1) from rfl]
          exact hB.app (AP.one.app (by rw [List.length_singleton]; exact g9))
        · simp only [List.length_append, List.length_cons]; omega
    by_cases w24 : k_word = some 24
    · simp only [if_pos w24]
      exact go 24 26 (-6) (Or.inl ⟨rfl, rfl, rfl⟩) w24
    · simp only [if_neg w24]
      by_cases w25 : k_word = some 25
      · simp only [if_pos w25]
        exact go 25 27 (-7) (Or.inr ⟨rfl, rfl, rfl⟩) w25
      · right
        simp only [if_neg w25]
        rw [q_zg1]
        exact ⟨P, C, f, ops, codes, op, cm, fu, k_place, k_behind, k_kind, k_value, k_letters, k_word, m_place, m_begin, m_token, m_word, m_told, b, e, hS, rfl, rfl, h, hf2, hA, hB, hop, hcm, hP, hC, hb, ⟨hnA, hnC⟩, w24, w25⟩
theorem exp_rel (hn : n ≤ 1000) (hfg : ∀ i, i < n → m_tape i = k_signs i) (hx : x ≤ 5) (hF : PartOK n k_signs m_tape li x F) (ho : x = 0 ∨ op0 x = 2) (hcm : cm0 x = 0) (hs0 : s0 ≤ b0) (hc0 : c0 ≤ 1000 + b0) {fu : Nat} {k_place k_behind k_kind k_value : Int32} {k_letters : Int64} {k_word : Option Nat} {m_place m_begin m_token : Int32} {m_word : Int64} {m_told : Int32} {e : Nat} (h : TS n k_signs k_place k_behind k_kind k_value k_letters k_word m_place m_begin m_token m_word m_told b0 e) (hf : n < fu + b0) : OUT (Sexp li x) Zexp x n k_signs m_tape li x d_fault m_wrong b0 ops0 s0 codes0 c0 op0 cm0 (f_X6_expression F d_fault ops0 (nI s0) k_signs (nI n) k_place k_behind k_kind k_value k_letters k_word (nI li) (nI x)) (f_X13_reads_11 fu m_tape (nI n) m_place m_begin m_token m_word m_told m_wrong codes0 (nI c0) (nI li) op0 cm0 (nI x) 1) := by
  unfold f_X6_expression
  rcases cmp_rel (d_fault := d_fault) (m_wrong := m_wrong) (ops0 := ops0) (codes0 := codes0) (op0 := op0) (cm0 := cm0) (fu := fu) hn hfg hx hF ho hcm hs0 hc0 h hf with ⟨o1, o2, f1, f2, f3, f4, f5, fr⟩ | ⟨P1, C1, f1, ops1, codes1, op1, cm1, fu2, r_place, r_behind, r_kind, r_value, r_letters, r_word, t_place, t_begin, t_token, t_word, t_told, b2, e2, g1, g2, g3, g5, g6, g8, g9, g10, g11, g12, g13, g14, g15⟩
  · left
    rw [f1, f2]
    simp only [o_bs]
    rw [f_X6_expression_10.eq_2, f3, if_neg (by decide), if_pos rfl, q_zg0]
    exact ⟨_, _, rfl, rfl, rfl, f4, f5, fr⟩
  · have l2 := g5.2.2.2.2.le
    rw [g2, g3]
    simp only [o_bs]
    exact exp_loop hn hfg hx hF ho hs0 hc0 1100 ops1 codes1 op1 cm1 fu2 0 r_place r_behind r_kind r_value r_letters r_word t_place t_begin t_token t_word t_told b2 e2 P1 C1 f1 ⟨g1.1.mono (by omega), cmp_exp g1.2⟩ g5 g15.1 g15.2 (by omega) g6 g8 g9 g10 g11 g12 g13 g14 (by omega)
end
