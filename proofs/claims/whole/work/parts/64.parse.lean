/-! a law is read by both alike: products, totals, comparisons, expressions -/
abbrev TX := Int32 × Int32 × TN × Int32 × Int32 × Int32 × Int32 × Int32 × Int64 × Option Nat
abbrev TY := Int32 × Int32 × Int32 × Int32 × Int64 × Int32 × Int32 × TN × Int32 × TN × TN
abbrev TF := Int32 → TN → Int32 → TN → Int32 → Int32 → Int32 → Int32 → Int32 → Int64 → Option Nat → Int32 → Int32 → Option TX
def POUT (n : Nat) (k_signs m_tape : TN) (li x : Nat) (d_fault m_wrong : Int32) (b : Nat) (ops : TN) (s : Nat) (codes : TN) (c0 : Nat) (op cm : TN) (X : Option TX) (Y : Option TY) : Prop := FAILF (fun t => FrN c0 codes t.1) X Y 0 ∨ ∃ (P C : List Int32) (f : Fn) (ops' codes' op' cm' : TN) (fu fd : Nat) (pl : Int32) (q_place q_behind q_kind q_value : Int32) (q_letters : Int64) (q_word : Option Nat) (p_place p_begin p_token : Int32) (p_word : Int64) (p_told : Int32) (b' e' : Nat), (CP (4 * x + 4) P f ∧ PM li x C f) ∧ X = some (1, d_fault, ops', nI (s + P.length), q_place, q_behind, q_kind, q_value, q_letters, q_word) ∧ Y = f_X13_reads_152 (f_X13_reads_11 fu) fd m_tape (nI n) pl m_wrong codes' (nI (c0 + C.length)) (nI li) op' cm' (nI x) 0 ∧ f_X13_nextToken m_tape (nI n) pl = some (p_place, p_begin, p_token, p_word, p_told) ∧ TS n k_signs q_place q_behind q_kind q_value q_letters q_word p_place p_begin p_token p_word p_told b' e' ∧ n < fu + b' ∧ 1000 + x ≤ fd ∧ AP ops s P ops' ∧ AP codes c0 C codes' ∧ (∀ i, i ≤ x → op' i = op i) ∧ (∀ i, i ≤ x → cm' i = cm i) ∧ b + P.length ≤ b' ∧ b + C.length ≤ b' ∧ b < b'
def PartOK (n : Nat) (k_signs m_tape : TN) (li x : Nat) (F : TF) : Prop := ∀ (d_fault m_wrong : Int32) (ops codes op cm : TN) (s c0 fu : Nat) (k_place k_behind k_kind k_value : Int32) (k_letters : Int64) (k_word : Option Nat) (m_place m_begin m_token : Int32) (m_word : Int64) (m_told : Int32) (b e : Nat), TS n k_signs k_place k_behind k_kind k_value k_letters k_word m_place m_begin m_token m_word m_told b e → n < fu + b → s ≤ b → c0 ≤ 1000 + b → POUT n k_signs m_tape li x d_fault m_wrong b ops s codes c0 op cm (F d_fault ops (nI s) k_signs (nI n) k_place k_behind k_kind k_value k_letters k_word (nI li) (nI x)) (f_X13_reads_11 fu m_tape (nI n) m_place m_begin m_token m_word m_told m_wrong codes (nI c0) (nI li) op cm (nI x) 1)
def OUT (S : List Int32 → List Int32 → Fn → Prop) (Z : Int32 → Int32 → Option Nat → Int32 → Prop) (y n : Nat) (k_signs m_tape : TN) (li x : Nat) (d_fault m_wrong : Int32) (b : Nat) (ops : TN) (s : Nat) (codes : TN) (c0 : Nat) (op cm : TN) (X : Option TX) (Y : Option TY) : Prop := FAILF (fun t => FrN c0 codes t.1) X Y 0 ∨ ∃ (P C : List Int32) (f : Fn) (ops' codes' op' cm' : TN) (fu : Nat) (q_place q_behind q_kind q_value : Int32) (q_letters : Int64) (q_word : Option Nat) (p_place p_begin p_token : Int32) (p_word : Int64) (p_told : Int32) (b' e' : Nat), S P C f ∧ X = some (1, d_fault, ops', nI (s + P.length), q_place, q_behind, q_kind, q_value, q_letters, q_word) ∧ Y = f_X13_reads_11 fu m_tape (nI n) p_place p_begin p_token p_word p_told m_wrong codes' (nI (c0 + C.length)) (nI li) op' cm' (nI x) 0 ∧ TS n k_signs q_place q_behind q_kind q_value q_letters q_word p_place p_begin p_token p_word p_told b' e' ∧ n < fu + b' ∧ AP ops s P ops' ∧ AP codes c0 C codes' ∧ (∀ i, i ≤ x → op' i = op i) ∧ (∀ i, i < y → cm' i = cm i) ∧ b + P.length ≤ b' ∧ b + C.length ≤ b' ∧ b < b' ∧ Z q_kind q_value q_word (cm' x)
def Sprod (li x : Nat) (P C : List Int32) (f : Fn) : Prop := CP (4 * x + 3) P f ∧ SG li x preP postP C f
def Stot (li x : Nat) (P C : List Int32) (f : Fn) : Prop := CP (4 * x + 2) P f ∧ SG li x preT postT C f
def Scmp (li x : Nat) (P C : List Int32) (f : Fn) : Prop := CP (4 * x + 1) P f ∧ SG li x preC postC C f
def Sexp (li x : Nat) (P C : List Int32) (f : Fn) : Prop := CP (4 * x) P f ∧ SG li x preE postE C f
def Zprod (k v : Int32) (_ : Option Nat) (_ : Int32) : Prop := f_X10_isSign k v 42 = 0
def Ztot (k v : Int32) (_ : Option Nat) (_ : Int32) : Prop := noAr k v
def Zcmp (k v : Int32) (_ : Option Nat) (c : Int32) : Prop := noAr k v ∧ noCm k v c
def Zexp (k v : Int32) (w : Option Nat) (c : Int32) : Prop := (noAr k v ∧ noCm k v c) ∧ ¬ w = some 24 ∧ ¬ w = some 25
section
variable {k_signs m_tape : TN} {n li x : Nat} {d_fault m_wrong : Int32} {F : TF} {ops0 codes0 op0 cm0 : TN} {s0 c0 b0 : Nat}
theorem prod_loop (hn : n ≤ 1000) (hfg : ∀ i, i < n → m_tape i = k_signs i) (hx : x ≤ 5) (hF : PartOK n k_signs m_tape li x F) (ho : x = 0 ∨ op0 x = 2) (hs0 : s0 ≤ b0) (hc0 : c0 ≤ 1000 + b0) : ∀ (fu1 : Nat) (ops codes op cm : TN) (fu j : Nat) (k_place k_behind k_kind k_value : Int32) (k_letters : Int64) (k_word : Option Nat) (m_place m_begin m_token : Int32) (m_word : Int64) (m_told : Int32) (b e : Nat) (P C : List Int32) (f : Fn), Sprod li x P C f → TS n k_signs k_place k_behind k_kind k_value k_letters k_word m_place m_begin m_token m_word m_told b e → n < fu1 + b → n < fu + b → AP ops0 s0 P ops → AP codes0 c0 C codes → (∀ i, i ≤ x → op i = op0 i) → (∀ i, i < x + 1 → cm i = cm0 i) → b0 + P.length ≤ b → b0 + C.length ≤ b → b0 < b → 2 * j ≤ b → OUT (Sprod li x) Zprod (x + 1) n k_signs m_tape li x d_fault m_wrong b0 ops0 s0 codes0 c0 op0 cm0 (f_X6_product_10 F fu1 d_fault ops (nI (s0 + P.length)) k_signs (nI n) k_place k_behind k_kind k_value k_letters k_word (nI li) (nI x) 1 (nI j)) (f_X13_reads_11 fu m_tape (nI n) m_place m_begin m_token m_word m_told m_wrong codes (nI (c0 + C.length)) (nI li) op cm (nI x) 0) := by
  intro fu1
  induction fu1 with
  | zero => intro ops codes op cm fu j k_place k_behind k_kind k_value k_letters k_word m_place m_begin m_token m_word m_told b e P C f hS h hf; have := h.2.2.2.2.le; omega
  | succ fu1 ih =>
    intro ops codes op cm fu j k_place k_behind k_kind k_value k_letters k_word m_place m_begin m_token m_word m_told b e P C f hS h hf hf2 hA hB hop hcm hP hC hb hj
    have l0 := h.2.2.2.2.le
    rw [f_X6_product_10.eq_2, if_neg (show ¬ 1000 ≤ nI j from fun q => by have := (nI_leI (a := 1000) (by omega) (by omega)).mp q; omega), if_neg n10]
    by_cases hs : f_X10_isSign k_kind k_value 42 = 0
    · right
      rw [if_pos hs, q_zg1]
      exact ⟨P, C, f, ops, codes, op, cm, fu, k_place, k_behind, k_kind, k_value, k_letters, k_word, m_place, m_begin, m_token, m_word, m_told, b, e, hS, rfl, rfl, h, hf2, hA, hB, hop, hcm, hP, hC, hb, hs⟩
    · rw [if_neg hs]
      obtain ⟨q_place, q_behind, q_kind, q_value, q_letters, q_word, p_place, p_begin, p_token, p_word, p_told, b1, e1, a1, a2, a3, a4⟩ := adv hn hfg h
      have l1 := a3.2.2.2.2.le
      have lt := h.lt (by rw [(sg_ne hs).1]; decide)
      rw [show fu = (fu - 1) + 1 by omega, r11_arith hn hfg h (Or.inl ⟨rfl, rfl⟩) hs a2 (by omega), a1]
      simp only [o_bs]
      rcases hF d_fault m_wrong ops (upd codes (c0 + C.length) 22) op cm (s0 + P.length) (c0 + C.length + 1) (fu - 1) q_place q_behind q_kind q_value q_letters q_word p_place p_begin p_token p_word p_told b1 e1 a3 (by omega) (by omega) (by omega) with ⟨o1, o2, f1, f2, f3, f4, f5, fr⟩ | ⟨P1, C1, f1, ops1, codes1, op1, cm1, fu2, fd, pl, r_place, r_behind, r_kind, r_value, r_letters, r_word, t_place, t_begin, t_token, t_word, t_told, b2, e2, g1, g2, g3, g4, g5, g6, g7, g8, g9, g10, g11, g12, g13, g14⟩
      · left
        rw [f1, f2]
        simp only [o_bs]
        rw [show fu1 = (fu1 - 1) + 1 by omega, f_X6_product_10.eq_2, f3, if_pos rfl]
        have e0 : ∀ (z : Option TX), (if 1000 ≤ nI j + 1 then z else z) = z := fun z => by split <;> rfl
        rw [e0, q_zg0]
        exact ⟨_, _, rfl, rfl, rfl, f4, f5, fun i hi => by rw [fr i (by omega), pk_un (by omega)]; exact hB.1 i hi⟩
      · have l2 := g5.2.2.2.2.le
        rw [g2, g3, show fd = (fd - 1) + 1 by omega, r152_end (by omega) (ho.imp id (fun z => by rw [g10 x (Nat.le_refl _), hop x (Nat.le_refl _)]; exact z))]
        unfold f_X13_reads_172
        rw [g4]
        simp only [o_bs]
        rw [add_eq (by omega), nI_1]
        simp only []
        have eP : s0 + P.length + P1.length + 1 = s0 + (P ++ (P1 ++ [-12])).length := by simp only [List.length_append, List.length_singleton]; omega
        have eC : c0 + C.length + 1 + C1.length = c0 + (C ++ 22 :: C1).length := by simp only [List.length_append, List.length_cons]; omega
        rw [eP, eC]
        refine ih _ _ op1 cm1 fu2 (j + 1) r_place r_behind r_kind r_value r_letters r_word t_place t_begin t_token t_word t_told b2 e2 _ _ (fun a b c d => f a b c d * f1 a b c d) ⟨?_, prod_mul hS.2 g1.2 (by omega)⟩ g5 (by omega) g6 (hA.app (g8.app AP.one)) ?_ (fun i hi => by rw [g10 i hi, hop i hi]) (fun i hi => by rw [g11 i (by omega), hcm i hi]) (by rw [← Nat.add_le_add_iff_left (n := s0)] at *; omega) ?_ (by omega) (by omega)
        · have := cp_bin (hb := 4 * x + 3) (by omega) hS.1 g1.1 (op := -12) (by decide) (by decide)
          rwa [show (fun a b c d => f_X3_joined (-12) (f a b c d) (f1 a b c d)) = (fun a b c d => f a b c d * f1 a b c d) from by funext a b c d; exact if_pos rfl] at this
        · rw [show C ++ 22 :: C1 = C ++ ([22] ++ C1) from rfl]
          exact hB.app (AP.one.app (by rw [List.length_singleton]; exact g9))
        · simp only [List.length_append, List.length_cons]; omega
theorem prod_rel (hn : n ≤ 1000) (hfg : ∀ i, i < n → m_tape i = k_signs i) (hx : x ≤ 5) (hF : PartOK n k_signs m_tape li x F) (ho : x = 0 ∨ op0 x = 2) (hs0 : s0 ≤ b0) (hc0 : c0 ≤ 1000 + b0) {fu : Nat} {k_place k_behind k_kind k_value : Int32} {k_letters : Int64} {k_word : Option Nat} {m_place m_begin m_token : Int32} {m_word : Int64} {m_told : Int32} {e : Nat} (h : TS n k_signs k_place k_behind k_kind k_value k_letters k_word m_place m_begin m_token m_word m_told b0 e) (hf : n < fu + b0) : OUT (Sprod li x) Zprod (x + 1) n k_signs m_tape li x d_fault m_wrong b0 ops0 s0 codes0 c0 op0 cm0 (f_X6_product F d_fault ops0 (nI s0) k_signs (nI n) k_place k_behind k_kind k_value k_letters k_word (nI li) (nI x)) (f_X13_reads_11 fu m_tape (nI n) m_place m_begin m_token m_word m_told m_wrong codes0 (nI c0) (nI li) op0 cm0 (nI x) 1) := by
  unfold f_X6_product
  rcases hF d_fault m_wrong ops0 codes0 op0 cm0 s0 c0 fu k_place k_behind k_kind k_value k_letters k_word m_place m_begin m_token m_word m_told b0 e h hf hs0 hc0 with ⟨o1, o2, f1, f2, f3, f4, f5, fr⟩ | ⟨P1, C1, f1, ops1, codes1, op1, cm1, fu2, fd, pl, r_place, r_behind, r_kind, r_value, r_letters, r_word, t_place, t_begin, t_token, t_word, t_told, b2, e2, g1, g2, g3, g4, g5, g6, g7, g8, g9, g10, g11, g12, g13, g14⟩
  · left
    rw [f1, f2]
    simp only [o_bs]
    rw [f_X6_product_10.eq_2, f3, if_neg (by decide), if_pos rfl, q_zg0]
    exact ⟨_, _, rfl, rfl, rfl, f4, f5, fr⟩
  · have l2 := g5.2.2.2.2.le
    rw [g2, g3, show fd = (fd - 1) + 1 by omega, r152_end (by omega) (ho.imp id (fun z => by rw [g10 x (Nat.le_refl _)]; exact z))]
    unfold f_X13_reads_172
    rw [g4]
    simp only [o_bs]
    exact prod_loop hn hfg hx hF ho hs0 hc0 1100 ops1 codes1 op1 cm1 fu2 0 r_place r_behind r_kind r_value r_letters r_word t_place t_begin t_token t_word t_told b2 e2 P1 C1 f1 ⟨g1.1.mono (by omega), g1.2.prod (by omega)⟩ g5 (by omega) g6 g8 g9 g10 (fun i hi => g11 i (by omega)) g12 g13 g14 (by omega)
end
