/-! a part of a law -/
section
variable {k_signs m_tape : TN} {n li x : Nat} {F : TF}
theorem part_step (hn : n ≤ 1000) (hfg : ∀ i, i < n → m_tape i = k_signs i) (hli : li < 2) (hx : x ≤ 5) (hF : x ≤ 4 → PartOK n k_signs m_tape li (x + 1) F) : PartOK n k_signs m_tape li x (f_X6_part_s F) := by
  intro d_fault m_wrong ops codes op cm s c0 fu k_place k_behind k_kind k_value k_letters k_word m_place m_begin m_token m_word m_told b e h hf hs hc
  have l0 := h.2.2.2.2.le
  obtain ⟨q_place, q_behind, q_kind, q_value, q_letters, q_word, p_place, p_begin, p_token, p_word, p_told, b1, e1, a1, a2, a3, a4⟩ := adv hn hfg h
  have l1 := a3.2.2.2.2.le
  rw [show fu = (fu - 1) + 1 by omega, f_X13_reads_11.eq_2, if_neg n10, h.sign hn hfg]
  unfold f_X6_part_s
  simp only [eg_ok h.wok]
  obtain ⟨r0, hr0⟩ : ∃ r, f_X6_factSpelt k_word (nI li) = some r := by
    rcases fact_rel h hli with ⟨r1, _⟩ | ⟨r, _, _, r1, _⟩
    · exact ⟨_, r1⟩
    · exact ⟨_, r1⟩
  have hr1 : ∀ r, f_X6_factSpelt k_word (nI li) = some r → r0 = r := fun r hr => by rw [hr0] at hr; exact Option.some.inj hr
  rw [hr0]
  simp only [o_bs]
  have w23 : f_X13_isWord m_token m_word 10631 = 0 ↔ ¬ k_word = some 23 := h.word1 (i := 23) (by omega)
  have hnum := h.num
  -- the place is too deep
  have deep : ∀ (x3 x4 x5 y3 y4 y5 : Int32), x = 5 → POUT n k_signs m_tape li x d_fault m_wrong b ops s codes c0 op cm (f_X6_part_68 F d_fault ops (nI s) k_signs (nI n) k_place k_behind k_kind k_value k_letters k_word (nI li) (nI x) x3 x4 x5) (f_X13_reads_65 (f_X13_reads_11 (fu - 1)) m_tape (nI n) m_place m_begin m_token m_word m_told m_wrong codes (nI c0) (nI li) op cm (nI x) 1 y3 y4 y5) := by
    intro x3 x4 x5 y3 y4 y5 h5
    left
    subst h5
    unfold f_X6_part_68 f_X13_reads_65 f_X6_wrong f_X13_fails
    rw [if_neg (show ¬ nI 5 < 5 by decide), if_pos (show nI 5 = 5 from rfl), q_zg0, q_zg0, h.1, h.2.2.2.1]
    exact ⟨_, _, rfl, rfl, rfl, rfl, (by first | exact eqf1 | exact eqf2 | exact eqf3 | exact eqf4 | exact eqf5 | exact ⟨rfl, by assumption⟩), (by first | exact FrN.rfl' | exact (fun i hi => by rw [fr i (by omega)]; exact pk_un (by omega)) | exact (fun i hi => (g9.1 i (by omega)).trans (pk_un (by omega))))⟩
  have lt5 : x ≤ 4 → nI x < 5 := fun h4 => (nI_ltI (b := 5) (by omega) (by omega)).mpr (by omega)
  have ne5 : x ≤ 4 → ¬ nI x = 5 := fun h4 q => by have := (nI_inj (j := 5) (by omega) (by omega)).mp q; omega
  by_cases hw : k_word = some 23
  · -- not
    have hk := h.kind1 hw
    have hs40 : f_X10_isSign k_kind k_value 40 = 0 := sg_k (by rw [hk]; decide)
    rcases fact_rel h hli with ⟨r1, r2⟩ | ⟨_, _, _, _, _, r3, _⟩
    rotate_left
    · exact absurd hw r3
    have iw : f_X13_isWord m_token m_word 10631 = 1 := by
      have h1 := h.word (i := 23) (by omega)
      rw [decide_eq_true hw] at h1; exact h1
    rw [hr1 _ r1]
    rw [if_pos hw, r2, if_pos rfl, iw, if_neg n10]
    unfold f_X6_part_35
    rw [hs40, if_neg (show ¬ k_kind = 3 by rw [hk]; decide)]
    simp only [↓reduceIte]
    rw [if_neg n10]
    by_cases h5 : x = 5
    · exact deep _ _ _ _ _ _ h5
    have h4 : x ≤ 4 := by omega
    have lt := h.lt (by rw [hk]; decide)
    unfold f_X6_part_68 f_X13_reads_65 f_X13_reads_86 f_X13_reads_99 f_X13_reads_120 f_X13_reads_172
    rw [if_pos (lt5 h4), if_neg (ne5 h4), if_neg n10, if_neg n10, puts_eq (by omega), nI_1, a1]
    simp only [o_bs]
    rw [if_neg n10, if_neg n10, q_gd (show x + 1 < 7 by omega) (by omega), q_gd (show x + 1 < 7 by omega) (by omega), nI_clamp (by omega), a2, nar0]
    simp only [o_bs]
    rcases hF h4 d_fault m_wrong ops (upd codes c0 30) (upd op (x + 1) 1) (upd cm (x + 1) 0) s (c0 + 1) (fu - 1) q_place q_behind q_kind q_value q_letters q_word p_place p_begin p_token p_word p_told b1 e1 a3 (by omega) (by omega) (by omega) with ⟨o1, o2, f1, f2, f3, f4, f5, fr⟩ | ⟨P1, C1, f1, ops1, codes1, op1, cm1, fu2, fd, pl, r_place, r_behind, r_kind, r_value, r_letters, r_word, t_place, t_begin, t_token, t_word, t_told, b2, e2, g1, g2, g3, g4, g5, g6, g7, g8, g9, g10, g11, g12, g13, g14⟩
    · left
      rw [f1, f2]
      simp only [o_bs]
      rw [q_zg (Or.inl f3)]
      exact ⟨_, _, rfl, rfl, f3, f4, f5, (by first | exact FrN.rfl' | exact (fun i hi => by rw [fr i (by omega)]; exact pk_un (by omega)) | exact (fun i hi => (g9.1 i (by omega)).trans (pk_un (by omega))))⟩
    · right
      have l2 := g5.2.2.2.2.le
      have ho1 : op1 (x + 1) = 1 := by rw [g10 (x + 1) (Nat.le_refl _), pk_us]
      rw [g2, g3, show fd = (fd - 1) + 1 by omega, r152_not (by omega) ho1]
      simp only [o_bs]
      rw [add_eq (by omega), q_zg1, show s + P1.length + 1 = s + (P1 ++ [-5]).length by simp only [List.length_append, List.length_singleton]; omega, show c0 + 1 + C1.length = c0 + (30 :: C1).length by rw [List.length_cons]; omega]
      refine ⟨P1 ++ [-5], 30 :: C1, (fun a b c d => if f1 a b c d = 0 then 1 else 0), _, codes1, op1, cm1, fu2, fd - 1, pl, r_place, r_behind, r_kind, r_value, r_letters, r_word, t_place, t_begin, t_token, t_word, t_told, b2, e2, ⟨cp_not (by omega) (g1.1.mono (by omega)), part_not g1.2 (by omega)⟩, rfl, rfl, g4, g5, g6, by omega, g8.app AP.one, ?_, fun i hi => by rw [g10 i (by omega), pk_un (by omega)], fun i hi => by rw [g11 i (by omega), pk_un (by omega)], ?_, ?_, by omega⟩
      · rw [show 30 :: C1 = [30] ++ C1 from rfl]
        exact AP.one.app (by rw [List.length_singleton]; exact g9)
      · simp only [List.length_append, List.length_singleton]; omega
      · rw [List.length_cons]; omega
  have iw : f_X13_isWord m_token m_word 10631 = 0 := w23.mpr hw
  rw [if_neg hw, iw, if_pos rfl]
  by_cases hs40 : f_X10_isSign k_kind k_value 40 = 0
  rotate_left
  · -- a pair of signs
    have hk := (sg_ne hs40).1
    have i40 : f_X10_isSign k_kind k_value 40 = 1 := by
      obtain ⟨z1, z2⟩ := sg_ne hs40
      unfold f_X10_isSign
      rw [if_pos z1, if_pos z2]
    rcases fact_rel h hli with ⟨r1, r2⟩ | ⟨_, _, _, _, _, _, r4, _⟩
    rotate_left
    · rw [hk] at r4; exact absurd r4 (by decide)
    rw [hr1 _ r1, i40]
    rw [r2, if_pos rfl, if_neg n10]
    unfold f_X6_part_35
    rw [if_neg (show ¬ k_kind = 3 by rw [hk]; decide)]
    simp only [↓reduceIte]
    rw [if_neg n10]
    by_cases h5 : x = 5
    · exact deep _ _ _ _ _ _ h5
    have h4 : x ≤ 4 := by omega
    have lt := h.lt (by rw [hk]; decide)
    unfold f_X6_part_68 f_X13_reads_65 f_X13_reads_86 f_X13_reads_99 f_X13_reads_120 f_X13_reads_172
    rw [if_pos (lt5 h4), if_neg (ne5 h4), puts_eq (by omega), nI_1, a1]
    simp only [o_bs, ↓reduceIte]
    rw [if_neg n10, if_neg n10, q_gd (show x + 1 < 7 by omega) (by omega), q_gd (show x + 1 < 7 by omega) (by omega), nI_clamp (by omega), a2, nar0]
    simp only [o_bs]
    rcases exp_rel (d_fault := d_fault) (m_wrong := m_wrong) (ops0 := ops) (codes0 := upd codes c0 28) (op0 := upd op (x + 1) 2) (cm0 := upd cm (x + 1) 0) (s0 := s) (c0 := c0 + 1) (b0 := b1) (fu := fu - 1) (x := x + 1) hn hfg (by omega) (hF h4) (Or.inr pk_us) pk_us (by omega) (by omega) a3 (by omega) with ⟨o1, o2, f1, f2, f3, f4, f5, fr⟩ | ⟨P1, C1, f1, ops1, codes1, op1, cm1, fu2, r_place, r_behind, r_kind, r_value, r_letters, r_word, t_place, t_begin, t_token, t_word, t_told, b2, e2, g1, g2, g3, g5, g6, g8, g9, g10, g11, g12, g13, g14, g15⟩
    · left
      rw [f1, f2]
      simp only [o_bs]
      rw [if_pos f3]
      exact ⟨_, _, rfl, rfl, rfl, f4, f5, (by first | exact FrN.rfl' | exact (fun i hi => by rw [fr i (by omega)]; exact pk_un (by omega)) | exact (fun i hi => (g9.1 i (by omega)).trans (pk_un (by omega))))⟩
    have l2 := g5.2.2.2.2.le
    rw [g2, g3]
    simp only [o_bs]
    rw [if_neg n10, show fu2 = (fu2 - 1) + 1 by omega]
    by_cases h41 : f_X10_isSign r_kind r_value 41 = 0
    · left
      rw [if_pos h41, r11_bad hn hfg g5 g15.1.1 g15.1.2 g15.2.1 g15.2.2 (Or.inr h41) (Or.inl (by omega)) (by omega)]
      unfold f_X6_wrong
      rw [q_zg0, g5.1, g5.2.2.2.1]
      exact ⟨_, _, rfl, rfl, rfl, rfl, (by first | exact eqf1 | exact eqf2 | exact eqf3 | exact eqf4 | exact eqf5 | exact ⟨rfl, by assumption⟩), (by first | exact FrN.rfl' | exact (fun i hi => by rw [fr i (by omega)]; exact pk_un (by omega)) | exact (fun i hi => (g9.1 i (by omega)).trans (pk_un (by omega))))⟩
    · right
      obtain ⟨u_place, u_behind, u_kind, u_value, u_letters, u_word, w_place, w_begin, w_token, w_word, w_told, b3, e3, c1, c2, c3, c4⟩ := adv hn hfg g5
      have l3 := c3.2.2.2.2.le
      have lt2 := g5.lt (by rw [(sg_ne h41).1]; decide)
      rw [if_neg h41, r11_close hn hfg g5 h41 (by omega) (by omega), c1]
      simp only [o_bs]
      rw [show c0 + 1 + C1.length + 1 = c0 + (28 :: (C1 ++ [29])).length by simp only [List.length_cons, List.length_append, List.length_singleton, List.length_nil]; omega]
      refine ⟨P1, 28 :: (C1 ++ [29]), f1, ops1, _, op1, cm1, fu2 - 1, 1100, t_place, u_place, u_behind, u_kind, u_value, u_letters, u_word, w_place, w_begin, w_token, w_word, w_told, b3, e3, ⟨g1.1.mono (by omega), part_paren g1.2 (by omega)⟩, rfl, rfl, c2, c3, by omega, by omega, g8, ?_, fun i hi => by rw [g10 i (by omega), pk_un (by omega)], fun i hi => by rw [g11 i (by omega), pk_un (by omega)], by omega, ?_, by omega⟩
      · rw [show 28 :: (C1 ++ [29]) = [28] ++ (C1 ++ [29]) from rfl]
        exact AP.one.app (by rw [List.length_singleton]; exact g9.app AP.one)
      · simp only [List.length_cons, List.length_append, List.length_singleton, List.length_nil]; omega
  rw [hs40]
  rcases fact_rel h hli with ⟨r1, r2⟩ | ⟨r, kk, f, r1, r2, r3, r4, r5, r6, r7, r8, r9⟩
  rotate_left
  · -- a fact
    have hk3 : ¬ k_kind = 3 := by rw [r4]; decide
    have hkk : ¬ nI kk = 0 := fun z => by have := (nI_inj (j := 0) (by omega) (by omega)).mp z; omega
    have lt := h.lt (by rw [r4]; decide)
    rw [hr1 _ r1]
    rw [r2, if_neg hkk]
    unfold f_X6_part_35
    rw [if_neg hk3, if_neg r6]
    by_cases h5 : x = 5
    · exact deep _ _ _ _ _ _ h5
    have h4 : x ≤ 4 := by omega
    right
    unfold f_X6_part_68 f_X13_reads_65 f_X6_part_147 f_X13_reads_147
    rw [if_pos (lt5 h4), if_neg (ne5 h4), a1]
    simp only [o_bs, ↓reduceIte]
    rw [if_neg r6, if_neg (show ¬ nI kk ≤ 0 from fun q => by have := (nI_leI (b := 0) (by omega) (by omega)).mp q; omega), puts_eq (by omega), add_eq (by omega)]
    simp only [o_bs]
    exact ⟨[r], [nI kk], f, _, _, op, cm, fu - 1, 1100, m_place, q_place, q_behind, q_kind, q_value, q_letters, q_word, p_place, p_begin, p_token, p_word, p_told, b1, e1, ⟨cp_leaf (by omega) r7 r8, part_fact (by omega) (by omega) r9⟩, rfl, rfl, a2, a3, by omega, by omega, AP.one, AP.one, fun i hi => rfl, fun i hi => rfl, by rw [List.length_singleton]; omega, by rw [List.length_singleton]; omega, by omega⟩
  rw [hr1 _ r1]
  rw [r2]
  simp only [↓reduceIte]
  unfold f_X6_part_35
  rcases hnum with ⟨z1, z2⟩ | ⟨z1, z2, z3, v, z4, z5⟩
  · left
    rw [if_neg z1, if_neg z2]
    unfold f_X6_wrong f_X13_fails
    simp only [↓reduceIte]
    rw [q_zg0, q_zg0, h.1, h.2.2.2.1]
    exact ⟨_, _, rfl, rfl, rfl, rfl, (by first | exact eqf1 | exact eqf2 | exact eqf3 | exact eqf4 | exact eqf5 | exact ⟨rfl, by assumption⟩), (by first | exact FrN.rfl' | exact (fun i hi => by rw [fr i (by omega)]; exact pk_un (by omega)) | exact (fun i hi => (g9.1 i (by omega)).trans (pk_un (by omega))))⟩
  · rw [if_pos z1, if_pos z2]
    by_cases h5 : x = 5
    · exact deep _ _ _ _ _ _ h5
    have h4 : x ≤ 4 := by omega
    have lt := h.lt (by rw [z1]; decide)
    right
    unfold f_X6_part_68 f_X13_reads_65 f_X6_part_147 f_X13_reads_147
    rw [if_pos (lt5 h4), if_neg (ne5 h4), a1]
    simp only [o_bs, ↓reduceIte]
    rw [if_pos (show (0 : Int32) ≤ 0 by decide), z3, z5, show (100 : Int32) + nI v = nI (100 + v) from nI_add 100 v, puts_eq (by omega), add_eq (by omega)]
    simp only [o_bs]
    exact ⟨[nI v], [nI (100 + v)], fun _ _ _ _ => nI v, _, _, op, cm, fu - 1, 1100, m_place, q_place, q_behind, q_kind, q_value, q_letters, q_word, p_place, p_begin, p_token, p_word, p_told, b1, e1, ⟨cp_leaf (by omega) (fun q => by have := (i_lt _ _).mp q; rw [nI_toInt (by omega)] at this; have : ((-4 : Int32)).toInt = -4 := rfl; omega) (fun a b c d => by
      have hne : ∀ y : Int32, y.toInt < 0 → ¬ nI v = y := fun y hy q => by rw [← q, nI_toInt (by omega)] at hy; omega
      unfold f_X3_alone
      rw [if_neg (hne _ (by decide)), if_neg (hne _ (by decide)), if_neg (hne _ (by decide)), if_neg (hne _ (by decide))]), part_num (by omega) (by omega)⟩, rfl, rfl, a2, a3, by omega, by omega, AP.one, AP.one, fun i hi => rfl, fun i hi => rfl, by rw [List.length_singleton]; omega, by rw [List.length_singleton]; omega, by omega⟩
theorem part_all (hn : n ≤ 1000) (hfg : ∀ i, i < n → m_tape i = k_signs i) (hli : li < 2) : ∀ d x, d + 1 + x = 6 → PartOK n k_signs m_tape li x (f_X6_part (d + 1)) := by
  intro d
  induction d with
  | zero => intro x hx; exact part_step hn hfg hli (by omega) (fun h => by omega)
  | succ d ih => intro x hx; exact part_step hn hfg hli (by omega) (fun h => ih (x + 1) (by omega))
end
