/-! a city is read by both alike -/
def COUT (n : Nat) (d_fault m_wrong m_taped : Int32) (z_city : Nat → Int32) (z_manName z_dangerName z_decreeName : Nat → Int64) (z_kind z_skill z_fieldTold z_want z_hates z_restsOn z_sizeTold z_grows z_lineFrom z_lineTo z_codes : Nat → Int32) (z_code z_lawLine z_toldLines : Int32) (z_opened z_compared : Nat → Int32) (z_given : Int32) (z_fresh : Int64) (z_consulsMany : Int32) (X : Option (Int32 × Int32 × Int32 × Int32 × Int32 × Int32 × Int32 × Int64 × Option Nat × Int32 × Int32 × Int32 × Int32 × Int32 × Int32 × TL × TN × TN × TN × TN × TN × TL × TN × TN × TL × TN × TN × Int32 × Int32 × Int32 × Int32 × Int32)) (Y : Option (Int32 × Int32 × Int32 × Int32 × Int32 × Int32 × Int64 × Int32 × Int32 × TN × TL × TL × TL × TN × TN × TN × TN × TN × TN × TN × TN × TN × TN × TN × Int32 × Int32 × Int32 × TN × TN × Int32 × Int64 × Int32)) : Prop := ∃ (fa wr ret : Int32) (a_men a_consuls a_dangers a_decrees a_term a_termTold : Int32) (a_manNames : Nat → Int64) (a_kinds a_skills a_fields a_wants a_hated : Nat → Int32) (a_dangerNames : Nat → Int64) (a_sizes a_grows : Nat → Int32) (a_decreeNames : Nat → Int64) (a_grounds : Nat → Int32) (j_ops : Nat → Int32) (j_size j_worksFrom j_worksTo j_keepsFrom j_keepsTo : Int32) (v_city : Nat → Int32) (v_manName v_dangerName v_decreeName : Nat → Int64) (v_kind v_skill v_fieldTold v_want v_hates v_restsOn v_sizeTold v_grows v_lineFrom v_lineTo v_codes : Nat → Int32) (v_code v_lawLine v_toldLines : Int32) (v_opened v_compared : Nat → Int32) (v_given : Int32) (v_fresh : Int64) (v_consulsMany : Int32) (q_place q_behind q_kind q_value : Int32) (q_letters : Int64) (q_word : Option Nat) (p_place p_begin p_token : Int32) (p_word : Int64) (p_told : Int32), X = some (fa, fa, f_X10_empty, q_place, q_behind, q_kind, q_value, q_letters, q_word, a_men, a_consuls, a_dangers, a_decrees, a_term, a_termTold, a_manNames, a_kinds, a_skills, a_fields, a_wants, a_hated, a_dangerNames, a_sizes, a_grows, a_decreeNames, a_grounds, j_ops, j_size, j_worksFrom, j_worksTo, j_keepsFrom, j_keepsTo) ∧ Y = some (ret, m_taped, nI n, p_place, p_begin, p_token, p_word, p_told, wr, v_city, v_manName, v_dangerName, v_decreeName, v_kind, v_skill, v_fieldTold, v_want, v_hates, v_restsOn, v_sizeTold, v_grows, v_lineFrom, v_lineTo, v_codes, v_code, v_lawLine, v_toldLines, v_opened, v_compared, v_given, v_fresh, v_consulsMany) ∧ FrA z_city z_manName z_dangerName z_decreeName z_kind z_skill z_fieldTold z_want z_hates z_restsOn z_sizeTold z_grows z_lineFrom z_lineTo z_codes z_code z_lawLine z_toldLines z_opened z_compared z_given z_fresh z_consulsMany v_city v_manName v_dangerName v_decreeName v_kind v_skill v_fieldTold v_want v_hates v_restsOn v_sizeTold v_grows v_lineFrom v_lineTo v_codes v_code v_lawLine v_toldLines v_opened v_compared v_given v_fresh v_consulsMany ∧ ((ret = 0 ∧ EQF fa wr) ∨ (ret = 1 ∧ fa = d_fault ∧ wr = m_wrong ∧ ∃ b', b' ≤ 1000 ∧ RD b' a_men a_consuls a_dangers a_decrees a_term a_termTold a_manNames a_kinds a_skills a_fields a_wants a_hated a_dangerNames a_sizes a_grows a_decreeNames a_grounds j_ops j_size j_worksFrom j_worksTo j_keepsFrom j_keepsTo v_city v_manName v_dangerName v_decreeName v_kind v_skill v_fieldTold v_want v_hates v_restsOn v_sizeTold v_grows v_lineFrom v_lineTo v_codes v_code v_lawLine v_toldLines v_opened v_compared v_given v_fresh v_consulsMany))
section
variable {k_signs m_tape : Nat → Int32} {n : Nat} {d_fault m_wrong m_taped : Int32} {z_city : Nat → Int32} {z_manName z_dangerName z_decreeName : Nat → Int64} {z_kind z_skill z_fieldTold z_want z_hates z_restsOn z_sizeTold z_grows z_lineFrom z_lineTo z_codes : Nat → Int32} {z_code z_lawLine z_toldLines : Int32} {z_opened z_compared : Nat → Int32} {z_given : Int32} {z_fresh : Int64} {z_consulsMany : Int32}
theorem read_loop (hn : n ≤ 1000) (hfg : ∀ i, i < n → m_tape i = k_signs i) : ∀ (fu1 fu2 j : Nat) (c_men c_consuls c_dangers c_decrees c_term c_termTold : Int32) (c_manNames : Nat → Int64) (c_kinds c_skills c_fields c_wants c_hated : Nat → Int32) (c_dangerNames : Nat → Int64) (c_sizes c_grows : Nat → Int32) (c_decreeNames : Nat → Int64) (c_grounds : Nat → Int32) (l_ops : Nat → Int32) (l_size l_worksFrom l_worksTo l_keepsFrom l_keepsTo : Int32) (m_city : Nat → Int32) (m_manName m_dangerName m_decreeName : Nat → Int64) (m_kind m_skill m_fieldTold m_want m_hates m_restsOn m_sizeTold m_grows m_lineFrom m_lineTo m_codes : Nat → Int32) (m_code m_lawLine m_toldLines : Int32) (m_opened m_compared : Nat → Int32) (m_given : Int32) (m_fresh : Int64) (m_consulsMany : Int32) (k_place k_behind k_kind k_value : Int32) (k_letters : Int64) (k_word : Option Nat) (m_place m_begin m_token : Int32) (m_word : Int64) (m_told : Int32) (b e : Nat), RD b c_men c_consuls c_dangers c_decrees c_term c_termTold c_manNames c_kinds c_skills c_fields c_wants c_hated c_dangerNames c_sizes c_grows c_decreeNames c_grounds l_ops l_size l_worksFrom l_worksTo l_keepsFrom l_keepsTo m_city m_manName m_dangerName m_decreeName m_kind m_skill m_fieldTold m_want m_hates m_restsOn m_sizeTold m_grows m_lineFrom m_lineTo m_codes m_code m_lawLine m_toldLines m_opened m_compared m_given m_fresh m_consulsMany → FrA z_city z_manName z_dangerName z_decreeName z_kind z_skill z_fieldTold z_want z_hates z_restsOn z_sizeTold z_grows z_lineFrom z_lineTo z_codes z_code z_lawLine z_toldLines z_opened z_compared z_given z_fresh z_consulsMany m_city m_manName m_dangerName m_decreeName m_kind m_skill m_fieldTold m_want m_hates m_restsOn m_sizeTold m_grows m_lineFrom m_lineTo m_codes m_code m_lawLine m_toldLines m_opened m_compared m_given m_fresh m_consulsMany → TS n k_signs k_place k_behind k_kind k_value k_letters k_word m_place m_begin m_token m_word m_told b e → n < fu1 + b → n < fu2 + b → j ≤ b → COUT n d_fault m_wrong m_taped z_city z_manName z_dangerName z_decreeName z_kind z_skill z_fieldTold z_want z_hates z_restsOn z_sizeTold z_grows z_lineFrom z_lineTo z_codes z_code z_lawLine z_toldLines z_opened z_compared z_given z_fresh z_consulsMany (f_X6_readCity_25 fu1 d_fault k_signs (nI n) k_place k_behind k_kind k_value k_letters k_word c_men c_consuls c_dangers c_decrees c_term c_termTold c_manNames c_kinds c_skills c_fields c_wants c_hated c_dangerNames c_sizes c_grows c_decreeNames c_grounds l_ops l_size l_worksFrom l_worksTo l_keepsFrom l_keepsTo 1 (nI j)) (f_X13_readsAll_84 fu2 m_taped m_tape (nI n) m_place m_begin m_token m_word m_told m_wrong m_city m_manName m_dangerName m_decreeName m_kind m_skill m_fieldTold m_want m_hates m_restsOn m_sizeTold m_grows m_lineFrom m_lineTo m_codes m_code m_lawLine m_toldLines m_opened m_compared m_given m_fresh m_consulsMany) := by
  intro fu1
  induction fu1 with
  | zero => intro fu2 j c_men c_consuls c_dangers c_decrees c_term c_termTold c_manNames c_kinds c_skills c_fields c_wants c_hated c_dangerNames c_sizes c_grows c_decreeNames c_grounds l_ops l_size l_worksFrom l_worksTo l_keepsFrom l_keepsTo m_city m_manName m_dangerName m_decreeName m_kind m_skill m_fieldTold m_want m_hates m_restsOn m_sizeTold m_grows m_lineFrom m_lineTo m_codes m_code m_lawLine m_toldLines m_opened m_compared m_given m_fresh m_consulsMany k_place k_behind k_kind k_value k_letters k_word m_place m_begin m_token m_word m_told b e hR hz h hf; have := h.2.2.2.2.le; omega
  | succ fu1 ih =>
    intro fu2 j c_men c_consuls c_dangers c_decrees c_term c_termTold c_manNames c_kinds c_skills c_fields c_wants c_hated c_dangerNames c_sizes c_grows c_decreeNames c_grounds l_ops l_size l_worksFrom l_worksTo l_keepsFrom l_keepsTo m_city m_manName m_dangerName m_decreeName m_kind m_skill m_fieldTold m_want m_hates m_restsOn m_sizeTold m_grows m_lineFrom m_lineTo m_codes m_code m_lawLine m_toldLines m_opened m_compared m_given m_fresh m_consulsMany k_place k_behind k_kind k_value k_letters k_word m_place m_begin m_token m_word m_told b e hR hz h hf hf2 hj
    have l0 := h.2.2.2.2.le
    rw [f_X6_readCity_25.eq_2, show fu2 = (fu2 - 1) + 1 by omega]
    by_cases hk : k_kind = 0
    · rw [f_X13_readsAll_84.eq_2, if_pos (h.end.mp hk), if_pos hk, if_neg n10, ite_self]
      unfold f_X6_readCity_57
      exact ⟨d_fault, m_wrong, 1, c_men, c_consuls, c_dangers, c_decrees, c_term, c_termTold, c_manNames, c_kinds, c_skills, c_fields, c_wants, c_hated, c_dangerNames, c_sizes, c_grows, c_decreeNames, c_grounds, l_ops, l_size, l_worksFrom, l_worksTo, l_keepsFrom, l_keepsTo, m_city, m_manName, m_dangerName, m_decreeName, m_kind, m_skill, m_fieldTold, m_want, m_hates, m_restsOn, m_sizeTold, m_grows, m_lineFrom, m_lineTo, m_codes, m_code, m_lawLine, m_toldLines, m_opened, m_compared, m_given, m_fresh, m_consulsMany, k_place, k_behind, k_kind, k_value, k_letters, k_word, m_place, m_begin, m_token, m_word, m_told, rfl, rfl, hz, Or.inr ⟨rfl, rfl, rfl, b, by omega, hR⟩⟩
    · have lt := h.lt hk
      rw [if_neg (show ¬ 1000 ≤ nI j from fun q => by have := (nI_leI (a := 1000) (by omega) (by omega)).mp q; omega), if_neg n10, if_neg hk]
      rcases city_line (fu := fu2 - 1) (d_fault := d_fault) (m_wrong := m_wrong) (m_taped := m_taped) hn hfg hR h hk with ⟨o1, y_place, y_begin, y_token, y_word, y_told, wr, x_city, x_manName, x_dangerName, x_decreeName, x_kind, x_skill, x_fieldTold, x_want, x_hates, x_restsOn, x_sizeTold, x_grows, x_lineFrom, x_lineTo, x_codes, x_code, x_lawLine, x_toldLines, x_opened, x_compared, x_given, x_fresh, x_consulsMany, f1, f2, f3, f5, fr⟩ | ⟨a_men, a_consuls, a_dangers, a_decrees, a_term, a_termTold, a_manNames, a_kinds, a_skills, a_fields, a_wants, a_hated, a_dangerNames, a_sizes, a_grows, a_decreeNames, a_grounds, u_ops, u_size, u_worksFrom, u_worksTo, u_keepsFrom, u_keepsTo, v_city, v_manName, v_dangerName, v_decreeName, v_kind, v_skill, v_fieldTold, v_want, v_hates, v_restsOn, v_sizeTold, v_grows, v_lineFrom, v_lineTo, v_codes, v_code, v_lawLine, v_toldLines, v_opened, v_compared, v_given, v_fresh, v_consulsMany, q_place, q_behind, q_kind, q_value, q_letters, q_word, p_place, p_begin, p_token, p_word, p_told, b', e', g1, g2, g3, g4, g5, g6⟩
      · rw [f1, f2]
        simp only [o_bs]
        rw [show fu1 = (fu1 - 1) + 1 by omega, f_X6_readCity_25.eq_2, if_pos f3]
        unfold f_X6_readCity_57
        rw [ite_self]
        exact ⟨_, _, _, _, _, _, _, _, _, _, _, _, _, _, _, _, _, _, _, _, _, _, _, _, _, _, _, _, _, _, _, _, _, _, _, _, _, _, _, _, _, _, _, _, _, _, _, _, _, _, _, _, _, _, _, _, _, _, _, _, rfl, rfl, hz.trans fr, Or.inl ⟨rfl, f5⟩⟩
      · rw [g1, g2]
        simp only [o_bs]
        rw [nI_1]
        exact ih (fu2 - 1) (j + 1) a_men a_consuls a_dangers a_decrees a_term a_termTold a_manNames a_kinds a_skills a_fields a_wants a_hated a_dangerNames a_sizes a_grows a_decreeNames a_grounds u_ops u_size u_worksFrom u_worksTo u_keepsFrom u_keepsTo v_city v_manName v_dangerName v_decreeName v_kind v_skill v_fieldTold v_want v_hates v_restsOn v_sizeTold v_grows v_lineFrom v_lineTo v_codes v_code v_lawLine v_toldLines v_opened v_compared v_given v_fresh v_consulsMany q_place q_behind q_kind q_value q_letters q_word p_place p_begin p_token p_word p_told b' e' g5 (hz.trans g6) g3 (by omega) (by omega) (by omega)
theorem clear_eq (h0 : TN) : ∃ h1 : TN, f_X1_clear h0 = some (0, 0, 0, 0, 6, 0, h1, 0, 0, 0, 0, 0) ∧ ∀ i, i < 6 → h1 i = 0 := by
  unfold f_X1_clear
  have key : ∀ (fu k : Nat) (g : TN), k ≤ 6 → 6 < fu + k → (∀ i, i < k → g i = 0) → ∃ h1 : TN, f_X1_clear_33 fu 0 0 0 0 6 0 g (nI k) = some (0, 0, 0, 0, 6, 0, h1, 0, 0, 0, 0, 0) ∧ ∀ i, i < 6 → h1 i = 0 := by
    intro fu
    induction fu with
    | zero => intro k g h1 h2; omega
    | succ fu ih =>
      intro k g h1 h2 h3
      rw [f_X1_clear_33.eq_2]
      by_cases hk : k < 6
      · rw [if_neg (show ¬ 6 ≤ nI k from fun q => by have := (nI_leI (a := 6) (by omega) (by omega)).mp q; omega), q_gp hk (by omega), nI_1]
        refine ih (k + 1) _ (by omega) (by omega) (fun i hi => ?_)
        by_cases ei : i = k
        · subst ei; exact pk_us
        · rw [pk_un ei]; exact h3 i (by omega)
      · rw [if_pos (show 6 ≤ nI k from (nI_leI (a := 6) (by omega) (by omega)).mpr (by omega))]
        exact ⟨g, rfl, fun i hi => h3 i (by omega)⟩
  exact key 1100 0 h0 (by omega) (by omega) (fun i hi => by omega)
end
section
variable {k_signs m_tape : Nat → Int32} {n : Nat} {m_wrong : Int32} {c_men c_consuls c_dangers c_decrees c_term c_termTold : Int32} {c_manNames : Nat → Int64} {c_kinds c_skills c_fields c_wants c_hated : Nat → Int32} {c_dangerNames : Nat → Int64} {c_sizes c_grows : Nat → Int32} {c_decreeNames : Nat → Int64} {c_grounds : Nat → Int32} {l_ops : Nat → Int32} {l_size l_worksFrom l_worksTo l_keepsFrom l_keepsTo : Int32} {m_city : Nat → Int32} {m_manName m_dangerName m_decreeName : Nat → Int64} {m_kind m_skill m_fieldTold m_want m_hates m_restsOn m_sizeTold m_grows m_lineFrom m_lineTo m_codes : Nat → Int32} {m_code m_lawLine m_toldLines : Int32} {m_opened m_compared : Nat → Int32} {m_given : Int32} {m_fresh : Int64} {m_consulsMany : Int32}
theorem gl_2_4 {α : Type} {x : Option α} : gd (2 : Int32) 4 x = x := gd_ok (show ¬ (_ ∨ _) from by decide)
theorem gl_3_4 {α : Type} {x : Option α} : gd (3 : Int32) 4 x = x := gd_ok (show ¬ (_ ∨ _) from by decide)
theorem read_rel (hn : n ≤ 1000) (hfg : ∀ i, i < n → m_tape i = k_signs i) : COUT n 0 m_wrong 0 m_city m_manName m_dangerName m_decreeName m_kind m_skill m_fieldTold m_want m_hates m_restsOn m_sizeTold m_grows m_lineFrom m_lineTo m_codes m_code m_lawLine m_toldLines m_opened m_compared m_given m_fresh m_consulsMany (f_X6_readCity k_signs (nI n) c_manNames c_kinds c_skills c_fields c_wants c_hated c_dangerNames c_sizes c_grows c_decreeNames c_grounds l_ops) (f_X13_readsAll (nI n) m_tape m_wrong m_city m_manName m_dangerName m_decreeName m_kind m_skill m_fieldTold m_want m_hates m_restsOn m_sizeTold m_grows m_lineFrom m_lineTo m_codes m_lawLine m_opened m_compared m_given m_fresh) := by
  unfold f_X6_readCity f_X13_readsAll f_X10_open
  obtain ⟨h1, e1, e2⟩ := clear_eq c_hated
  obtain ⟨b, e, kd, va, le, wo, tk, mw, to, a1, a2, a3, a4⟩ := adv_rel (e0 := 0) hn hfg (by omega)
  rw [e1, show f_X10_advance k_signs (nI n) 0 = _ from a1]
  simp only [o_bs]
  have hTS : TS n k_signs (nI b) (nI e) kd va le wo (nI e) (nI b) tk mw to b e := ⟨rfl, rfl, rfl, rfl, a3⟩
  have e34 : ∀ (ci lf lt : TN), f_X13_readsAll_34 1100 (nI n) m_tape m_wrong ci m_manName m_dangerName m_decreeName m_kind m_skill m_fieldTold m_want m_hates m_restsOn m_sizeTold m_grows lf lt m_codes m_lawLine m_opened m_compared m_given m_fresh 2 = f_X13_readsAll_84 1100 0 m_tape (nI n) (nI e) (nI b) tk mw to m_wrong ci m_manName m_dangerName m_decreeName m_kind m_skill m_fieldTold m_want m_hates m_restsOn m_sizeTold m_grows (upd (upd lf 2 1000) 3 1000) (upd (upd lt 2 1000) 3 1000) m_codes 1000 m_lawLine 0 m_opened m_compared m_given m_fresh 0 := by
    intro ci lf lt
    rw [f_X13_readsAll_34.eq_2, if_neg (show ¬ (4 : Int32) ≤ 2 by decide), gl_2_4, gl_2_4, show (2 : Int32) + 1 = 3 from rfl, cl_2, f_X13_readsAll_34.eq_2, if_neg (show ¬ (4 : Int32) ≤ 3 by decide), gl_3_4, gl_3_4, show (3 : Int32) + 1 = 4 from rfl, cl_3, f_X13_readsAll_34.eq_2, if_pos (show (4 : Int32) ≤ 4 by decide)]
    unfold f_X13_begins
    rw [show f_X13_nextToken m_tape (nI n) 0 = _ from a2]
    simp only [o_bs]
  rw [f_X13_readsAll_2.eq_2, if_neg (show ¬ (10 : Int32) ≤ 5 by decide), if_neg (show ¬ (5 : Int32) = 9 by decide)]
  unfold f_X13_readsAll_25
  rw [gl_5_10, cl_5, show (5 : Int32) + 1 = 6 from rfl]
  rw [f_X13_readsAll_2.eq_2, if_neg (show ¬ (10 : Int32) ≤ 6 by decide), if_neg (show ¬ (6 : Int32) = 9 by decide)]
  unfold f_X13_readsAll_25
  rw [gl_6_10, cl_6, show (6 : Int32) + 1 = 7 from rfl]
  rw [f_X13_readsAll_2.eq_2, if_neg (show ¬ (10 : Int32) ≤ 7 by decide), if_neg (show ¬ (7 : Int32) = 9 by decide)]
  unfold f_X13_readsAll_25
  rw [gl_7_10, cl_7, show (7 : Int32) + 1 = 8 from rfl]
  rw [f_X13_readsAll_2.eq_2, if_neg (show ¬ (10 : Int32) ≤ 8 by decide), if_neg (show ¬ (8 : Int32) = 9 by decide)]
  unfold f_X13_readsAll_25
  rw [gl_8_10, cl_8, show (8 : Int32) + 1 = 9 from rfl]
  rw [f_X13_readsAll_2.eq_2, if_neg (show ¬ (10 : Int32) ≤ 9 by decide), if_pos rfl]
  unfold f_X13_readsAll_25
  rw [gl_9_10, cl_9, show (9 : Int32) + 1 = 10 from rfl]
  rw [f_X13_readsAll_2.eq_2, if_pos (show (10 : Int32) ≤ 10 by decide), e34]
  have l0 := a3.le
  refine read_loop hn hfg 1100 1100 0 _ _ _ _ _ _ _ _ _ _ _ _ _ _ _ _ _ _ _ _ _ _ _ _ _ _ _ _ _ _ _ _ _ _ _ _ _ _ _ _ _ _ _ _ _ _ _ _ _ _ _ _ _ _ _ _ _ b e ?_ ?_ hTS (by omega) (by omega) (by omega)
  rotate_left 1
  · exact ⟨fun i hi => by rw [pk_un (by omega), pk_un (by omega), pk_un (by omega), pk_un (by omega), pk_un (by omega)], FrN.rfl', FrN.rfl', FrN.rfl', FrN.rfl', FrN.rfl', FrN.rfl', FrN.rfl', FrN.rfl', FrN.rfl', FrN.rfl', FrN.rfl', fun i hi => by rw [pk_un (by omega), pk_un (by omega)], fun i hi => by rw [pk_un (by omega), pk_un (by omega)], FrN.rfl'⟩
  refine ⟨0, 0, 0, ⟨⟨by omega, rfl, ?_, fun i hi => by omega⟩, ⟨by omega, rfl, ?_, fun i hi => by omega⟩, ⟨by omega, rfl, ?_, fun i hi => by omega⟩⟩, fun i hi => by omega, fun i hi => by omega, fun i hi => by omega, fun i hi => ⟨0, by omega, e2 i hi, fun _ => rfl, fun z => by omega⟩, ⟨0, 0, by omega, by omega, rfl, ?_, rfl, by decide⟩, ⟨⟨6, by omega, by omega, rfl, ?_⟩, Or.inl ⟨rfl, rfl⟩⟩, 0, 1000, rfl, rfl, by omega, by omega, by omega, Or.inl ⟨rfl, rfl, ?_, ?_⟩, Or.inl ⟨rfl, rfl, ?_, ?_⟩⟩
  · rw [pk_un (by omega), pk_un (by omega), pk_un (by omega), pk_un (by omega)]; exact pk_us
  · rw [pk_un (by omega), pk_un (by omega), pk_un (by omega)]; exact pk_us
  · rw [pk_un (by omega), pk_un (by omega)]; exact pk_us
  · rw [pk_un (by omega)]; exact pk_us
  · exact pk_us
  · rw [pk_un (by omega)]; exact pk_us
  · rw [pk_un (by omega)]; exact pk_us
  · exact pk_us
  · exact pk_us
end
