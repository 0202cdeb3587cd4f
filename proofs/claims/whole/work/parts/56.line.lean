/-! lines of a danger, a consul, hate, a term -/
/-- the consuls told, in both -/
def RCo (c_consuls m8 many : Int32) : Prop := ∃ U V, U < 64 ∧ V ≤ 2 ∧ c_consuls = nI U ∧ m8 = nI U ∧ many = nI V ∧ f_X20_bitCount (nI U) = nI V
theorem bitC_or : ∀ U, U < 64 → ∀ i, i < 6 → U.testBit i = false → f_X20_bitCount (nI (U ||| 2 ^ i)) = f_X20_bitCount (nI U) + 1 ∧ U ||| 2 ^ i < 64 := by decide +kernel
/-- the hate told, in both -/
def RH (M : Nat) (c_hated m_hates : Nat → Int32) : Prop := ∀ i, i < 6 → ∃ H, H < 64 ∧ c_hated i = nI H ∧ (M ≤ i → H = 0) ∧ (i < M → m_hates (6 + i) = nI H)
theorem zgb {α : Type} {x : Option (Int32 × α)} {o : Int32 × α} (h : (x.bind fun r => zg r.1 (some (r.1, r.2))) = some o) : x = some o := by
  cases x with
  | none => cases h
  | some r =>
    rw [o_bs] at h
    unfold zg at h
    split at h
    · exact h
    · cases h
section
variable {k_place k_behind k_kind k_value : Int32} {k_letters : Int64} {k_word : Option Nat} {m_place m_begin m_token : Int32} {m_word : Int64} {m_told : Int32} {k_signs m_tape : Nat → Int32} {n b e : Nat} {d_fault m_wrong m_given : Int32} {M D Q s : Nat} {c_men c_dangers c_decrees : Int32} {c_manNames c_dangerNames c_decreeNames : Nat → Int64} {m_city : Nat → Int32} {m_manName m_dangerName m_decreeName : Nat → Int64} {m_fresh : Int64} {c_kinds c_skills c_fields c_wants c_hated c_sizes c_grows c_grounds m_kind m_skill m_fieldTold m_want m_hates m_sizeTold m_grows m_restsOn : Nat → Int32} {c_consuls m_consulsMany c_term c_termTold m_toldLines : Int32}
theorem addDanger_eq (hD : D < 5) {x : Int64} {y z : Int32} : f_X1_addDanger (nI D) c_dangerNames c_sizes c_grows x y z = some (nI (D + 1), vp_updL c_dangerNames D x, upd c_sizes D y, upd c_grows D z) := by
  unfold f_X1_addDanger
  rw [if_neg (nI_pos (by omega)), if_pos (show nI D < 5 from (nI_ltI (b := 5) (by omega) (by omega)).mpr hD), q_gd hD (by omega), nI_clamp (by omega), q_gp hD (by omega), q_gp hD (by omega), nI_1]
def LDan (n : Nat) (k_signs : Nat → Int32) (e D : Nat) (d_fault m_wrong : Int32) (c_dangerNames : Nat → Int64) (c_sizes c_grows m_city : Nat → Int32) (m_dangerName : Nat → Int64) (m_sizeTold m_grows : Nat → Int32) (X : Option (Int32 × Int32 × Int32 × TL × TN × TN × Int32 × Int32 × Int32 × Int32 × Int64 × Option Nat)) (Y : Option (Int32 × Int32 × Int32 × Int32 × Int64 × Int32 × Int32 × TN × TL × TN × TN × Int32 × Int64)) : Prop := FAILF (fun t => FrN 5 m_city t.1 ∧ FrN 5 m_dangerName t.2.1 ∧ FrN 5 m_sizeTold t.2.2.1 ∧ FrN 5 m_grows t.2.2.2.1) X Y 0 ∨ ∃ (v1 v2 : Nat) (x w fr : Int64) (gi : Int32) (q_place q_behind q_kind q_value : Int32) (q_letters : Int64) (q_word : Option Nat) (p_place p_begin p_token : Int32) (p_word : Int64) (p_told : Int32) (b' e' : Nat), X = some (1, d_fault, nI (D + 1), vp_updL c_dangerNames D x, upd c_sizes D (nI v1), upd c_grows D (nI v2), q_place, q_behind, q_kind, q_value, q_letters, q_word) ∧ Y = some (1, p_place, p_begin, p_token, p_word, p_told, m_wrong, upd m_city 6 (nI (D + 1)), vp_updL m_dangerName (5 + D) w, upd m_sizeTold (5 + D) (nI v1), upd m_grows (5 + D) (nI v2), gi, fr) ∧ TS n k_signs q_place q_behind q_kind q_value q_letters q_word p_place p_begin p_token p_word p_told b' e' ∧ e ≤ b' ∧ D < 5 ∧ WN x w ∧ (1 ≤ v1 ∧ v1 ≤ 99) ∧ v2 ≤ 9
theorem danger_line (hn : n ≤ 1000) (hfg : ∀ i, i < n → m_tape i = k_signs i) (hN : RN M D Q 1 c_men c_dangers c_decrees c_manNames c_dangerNames c_decreeNames m_city m_manName m_dangerName m_decreeName) (h : TS n k_signs k_place k_behind k_kind k_value k_letters k_word m_place m_begin m_token m_word m_told b e) :
    LDan n k_signs e D d_fault m_wrong c_dangerNames c_sizes c_grows m_city m_dangerName m_sizeTold m_grows (f_X6_dangerLine d_fault c_men c_dangers c_decrees c_manNames c_dangerNames c_sizes c_grows c_decreeNames k_signs (nI n) k_place k_behind k_kind k_value k_letters k_word) (f_X13_readsDanger m_tape (nI n) m_place m_begin m_token m_word m_told m_wrong m_city m_manName m_dangerName m_decreeName m_sizeTold m_grows m_given m_fresh) := by
  have h6 : m_city 6 = nI D := hN.2.1.2.2.1
  have hD6 := hN.2.1.1
  have hcm : c_dangers = nI D := hN.2.1.2.1
  subst hcm
  unfold f_X6_dangerLine f_X13_readsDanger
  simp only [gl_6_10, cl_6, h6, qa_5]
  by_cases hD : D < 5
  · rw [if_pos (show nI D < 5 from (nI_ltI (b := 5) (by omega) (by omega)).mpr hD), if_neg (show ¬ nI (5 + D) = 10 from fun q => by have := (nI_inj (j := 10) (by omega) (by omega)).mp q; omega)]
    obtain ⟨q_place, q_behind, q_kind, q_value, q_letters, q_word, p_place, p_begin, p_token, p_word, p_told, b1, e1, a1, a2, a3, a4⟩ := adv hn hfg h
    have l1 := a3.2.2.2.2.le
    rw [a1, a2]
    simp only [o_bs]
    rcases fresh_rel (d_fault := d_fault) (m_wrong := m_wrong) (m_fresh := m_fresh) hn hfg hN a3 with ⟨o1, o2, f1, f2, f3, f4, f5⟩ | ⟨r_place, r_behind, r_kind, r_value, r_letters, r_word, t_place, t_begin, t_token, t_word, t_told, b2, e2, f1, f2, f3, f4, f5⟩
    · left
      rw [f1, f2]; simp only [o_bs]
      rw [if_pos f3, if_pos f4]
      exact ⟨_, _, rfl, rfl, rfl, rfl, f5, (by refine ⟨?_, ?_, ?_, ?_⟩ <;> first | exact FrN.rfl' | exact FrN.upd (by omega) | exact FrN.updL (by omega))⟩
    rw [f1, f2]; simp only [o_bs]
    have l2 := f3.2.2.2.2.le
    rw [if_neg n10, if_neg n10]
    rcases lab_lit (d_fault := d_fault) (m_wrong := m_wrong) (m_given := m_given) (i := 7) (y := 381245) (x2 := 1) (x3 := 99) (lo := 1) (hl := 99) rfl rfl rfl hn hfg f3 (by omega) (by omega) (by omega) with ⟨o1, o2, g1, g2, g3, g4, g5⟩ | ⟨v1, r'_place, r'_behind, r'_kind, r'_value, r'_letters, r'_word, t'_place, t'_begin, t'_token, t'_word, t'_told, b3, e3, g1, g2, g3, g4, g5⟩
    · left
      rw [g1, g2]; simp only [o_bs]
      rw [if_pos g3, if_pos g4]
      unfold f_X6_dangerLine_71
      rw [if_pos rfl]
      exact ⟨_, _, rfl, rfl, rfl, rfl, g5, (by refine ⟨?_, ?_, ?_, ?_⟩ <;> first | exact FrN.rfl' | exact FrN.upd (by omega) | exact FrN.updL (by omega))⟩
    rw [g1, g2]; simp only [o_bs]
    rw [if_neg (nI_m1 v1 (by omega)), if_neg n10, q_gd (by omega) (by omega), nI_clamp (by omega)]
    have l3 := g3.2.2.2.2.le
    rcases lab_lit (d_fault := d_fault) (m_wrong := m_wrong) (m_given := nI v1) (i := 8) (y := 4085956) (x2 := 0) (x3 := 9) (lo := 0) (hl := 9) rfl rfl rfl hn hfg g3 (by omega) (by omega) (by omega) with ⟨o1, o2, u1, u2, u3, u4, u5⟩ | ⟨v2, r2_place, r2_behind, r2_kind, r2_value, r2_letters, r2_word, t2_place, t2_begin, t2_token, t2_word, t2_told, b4, e4, u1, u2, u3, u4, u5⟩
    · left
      rw [u1, u2]; simp only [o_bs]
      rw [if_pos u4]
      unfold f_X6_dangerLine_71
      rw [if_pos u3]
      exact ⟨_, _, rfl, rfl, rfl, rfl, u5, (by refine ⟨?_, ?_, ?_, ?_⟩ <;> first | exact FrN.rfl' | exact FrN.upd (by omega) | exact FrN.updL (by omega))⟩
    rw [u1, u2]; simp only [o_bs]
    unfold f_X6_dangerLine_71
    rw [if_neg (nI_m1 v2 (by omega)), if_neg n10, q_gd (by omega) (by omega), q_gd (by omega) (by omega)]
    have l4 := u3.2.2.2.2.le
    rcases ends_rel (d_fault := d_fault) (m_wrong := m_wrong) hn hfg u3 with ⟨o1, o2, w1, w2, w3, w4, w5⟩ | ⟨r3_place, r3_behind, r3_kind, r3_value, r3_letters, r3_word, t3_place, t3_begin, t3_token, t3_word, t3_told, b5, e5, w1, w2, w3, w4⟩
    · left
      rw [w1, w2]; simp only [o_bs]
      rw [if_pos w3, q_zg (Or.inl w4)]
      exact ⟨_, _, rfl, rfl, rfl, w4, w5, (by refine ⟨?_, ?_, ?_, ?_⟩ <;> first | exact FrN.rfl' | exact FrN.upd (by omega) | exact FrN.updL (by omega))⟩
    right
    rw [w1, w2]; simp only [o_bs]
    rw [if_neg n10, addDanger_eq hD, q_zg1, nI_1]
    simp only [o_bs]
    exact ⟨v1, v2, q_letters, p_word, _, _, r3_place, r3_behind, r3_kind, r3_value, r3_letters, r3_word, t3_place, t3_begin, t3_token, t3_word, t3_told, b5, e5, rfl, rfl, w3, by omega, hD, f5, by omega, by omega⟩
  · left
    rw [if_neg (show ¬ nI D < 5 from fun q => hD ((nI_ltI (b := 5) (by omega) (by omega)).mp q)), if_pos (show nI (5 + D) = 10 from by rw [show D = 5 by omega]; rfl)]
    unfold f_X6_wrong f_X13_fails
    rw [q_zg0, q_zg0, h.1, h.2.2.2.1]
    exact ⟨_, _, rfl, rfl, rfl, rfl, (by first | exact eqf1 | exact eqf2 | exact eqf3 | exact eqf4 | exact eqf5 | exact ⟨rfl, by assumption⟩), (by refine ⟨?_, ?_, ?_, ?_⟩ <;> first | exact FrN.rfl' | exact FrN.upd (by omega) | exact FrN.updL (by omega))⟩
theorem hasMan_lt {i : Nat} (hi : i < M) (hM : M ≤ 6) : f_X1_hasMan (nI M) (nI i) = 1 := by
  unfold f_X1_hasMan
  rw [if_neg (nI_pos (by omega)), if_neg (fun q => by have := (nI_leI (by omega) (by omega)).mp q; omega)]
def LCon (n : Nat) (k_signs : Nat → Int32) (e : Nat) (d_fault m_wrong : Int32) (m_city : Nat → Int32) (X : Option (Int32 × Int32 × Int32 × Int32 × Int32 × Int32 × Int32 × Int64 × Option Nat)) (Y : Option (Int32 × Int32 × Int32 × Int32 × Int64 × Int32 × Int32 × TN × Int32 × Int32)) : Prop := FAILF (fun t => FrN 5 m_city t.1) X Y 0 ∨ ∃ (co m8 many gi : Int32) (q_place q_behind q_kind q_value : Int32) (q_letters : Int64) (q_word : Option Nat) (p_place p_begin p_token : Int32) (p_word : Int64) (p_told : Int32) (b' e' : Nat), X = some (1, d_fault, co, q_place, q_behind, q_kind, q_value, q_letters, q_word) ∧ Y = some (1, p_place, p_begin, p_token, p_word, p_told, m_wrong, upd m_city 8 m8, gi, many) ∧ TS n k_signs q_place q_behind q_kind q_value q_letters q_word p_place p_begin p_token p_word p_told b' e' ∧ e ≤ b' ∧ RCo co m8 many
theorem consul_line (hn : n ≤ 1000) (hfg : ∀ i, i < n → m_tape i = k_signs i) (hN : RN M D Q 1 c_men c_dangers c_decrees c_manNames c_dangerNames c_decreeNames m_city m_manName m_dangerName m_decreeName) (hC : RCo c_consuls (m_city 8) m_consulsMany) (h : TS n k_signs k_place k_behind k_kind k_value k_letters k_word m_place m_begin m_token m_word m_told b e) :
    LCon n k_signs e d_fault m_wrong m_city (f_X6_consulLine d_fault c_men c_consuls c_dangers c_manNames c_dangerNames k_signs (nI n) k_place k_behind k_kind k_value k_letters k_word) (f_X13_readsConsul m_tape (nI n) m_place m_begin m_token m_word m_told m_wrong m_city m_manName m_given m_consulsMany) := by
  obtain ⟨U, V, hU, hV, rfl, h8, rfl, hb⟩ := hC
  have hM6 := hN.1.1
  have hcm : c_men = nI M := hN.1.2.1
  unfold f_X6_consulLine f_X13_readsConsul
  simp only [gl_8_10, cl_8, h8, hb]
  by_cases hV2 : V = 2
  · left
    subst hV2
    rw [if_neg (show ¬ nI 2 < 2 by decide), if_pos (show nI 2 = 2 from rfl)]
    unfold f_X6_wrong f_X13_fails
    rw [q_zg0, q_zg0, h.1, h.2.2.2.1]
    exact ⟨_, _, rfl, rfl, rfl, rfl, (by first | exact eqf1 | exact eqf2 | exact eqf3 | exact eqf4 | exact eqf5 | exact ⟨rfl, by assumption⟩), by first | exact FrN.rfl' | exact FrN.upd (by omega) | exact FrN.updL (by omega)⟩
  rw [if_pos (show nI V < 2 from (nI_ltI (b := 2) (by omega) (by omega)).mpr (by omega)), if_neg (show ¬ nI V = 2 from fun q => hV2 ((nI_inj (j := 2) (by omega) (by omega)).mp q))]
  obtain ⟨q_place, q_behind, q_kind, q_value, q_letters, q_word, p_place, p_begin, p_token, p_word, p_told, b1, e1, a1, a2, a3, a4⟩ := adv hn hfg h
  have l1 := a3.2.2.2.2.le
  rw [a1, a2]
  simp only [o_bs]
  rcases man_rel (d_fault := d_fault) (m_wrong := m_wrong) (m_given := m_given) hN (by omega) a3 with ⟨f, v, f1, f2, fz⟩ | ⟨i, hi, f1, f2, f3⟩
  · left
    rw [f1, show f_X13_needsMan p_begin p_token p_word m_wrong m_city m_manName m_given 1 = _ from f2]; simp only [o_bs, ↓reduceIte]
    exact ⟨_, _, rfl, rfl, rfl, rfl, (by first | exact eqf1 | exact eqf2 | exact eqf3 | exact eqf4 | exact eqf5 | exact ⟨rfl, by assumption⟩), by first | exact FrN.rfl' | exact FrN.upd (by omega) | exact FrN.updL (by omega)⟩
  rw [f1, show f_X13_needsMan p_begin p_token p_word m_wrong m_city m_manName m_given 1 = _ from f2]; simp only [o_bs]
  rw [if_neg (nI_m1 i (by omega)), if_neg n10]
  unfold f_X1_isConsul
  rw [hcm, hasMan_lt hi hM6, if_neg n10]
  by_cases hbt : U.testBit i = true
  · left
    rw [if_pos ((bit1 (by omega) (by omega)).mpr hbt), if_neg n10]
    unfold f_X6_wrong f_X13_fails
    simp only [if_pos ((bit1 (a := U) (k := i) (by omega) (by omega)).mpr hbt)]
    rw [q_zg0, q_zg0, a3.1, a3.2.2.2.1]
    exact ⟨_, _, rfl, rfl, rfl, rfl, (by first | exact eqf1 | exact eqf2 | exact eqf3 | exact eqf4 | exact eqf5 | exact ⟨rfl, by assumption⟩), by first | exact FrN.rfl' | exact FrN.upd (by omega) | exact FrN.updL (by omega)⟩
  have hbf : U.testBit i = false := by simpa using hbt
  rw [if_neg (show ¬ (nI U >>> (nI i &&& 31)) &&& 1 = 1 from fun z => hbt ((bit1 (by omega) (by omega)).mp z)), if_pos rfl]
  obtain ⟨r_place, r_behind, r_kind, r_value, r_letters, r_word, t_place, t_begin, t_token, t_word, t_told, b2, e2, c1, c2, c3, c4⟩ := adv hn hfg a3
  have l2 := c3.2.2.2.2.le
  simp only [if_neg (show ¬ (nI U >>> (nI i &&& 31)) &&& 1 = 1 from fun z => hbt ((bit1 (by omega) (by omega)).mp z))]
  rw [c1, c2]; simp only [o_bs]
  rcases ends_rel (d_fault := d_fault) (m_wrong := m_wrong) hn hfg c3 with ⟨o1, o2, w1, w2, w3, w4, w5⟩ | ⟨r3_place, r3_behind, r3_kind, r3_value, r3_letters, r3_word, t3_place, t3_begin, t3_token, t3_word, t3_told, b5, e5, w1, w2, w3, w4⟩
  · left
    rw [w1, w2]; simp only [o_bs]
    rw [if_pos w3, q_zg (Or.inl w4)]
    exact ⟨_, _, rfl, rfl, rfl, w4, w5, by first | exact FrN.rfl' | exact FrN.upd (by omega) | exact FrN.updL (by omega)⟩
  right
  rw [w1, w2]; simp only [o_bs]
  rw [if_neg n10, q_zg1, shl1 (by omega), nI_or, nI_1]
  have hor := bitC_or U hU i (by omega) hbf
  exact ⟨_, _, _, _, r3_place, r3_behind, r3_kind, r3_value, r3_letters, r3_word, t3_place, t3_begin, t3_token, t3_word, t3_told, b5, e5, rfl, rfl, w3, by omega, U ||| 2 ^ i, V + 1, hor.2, by omega, rfl, rfl, rfl, by rw [hor.1, hb, nI_1]⟩
def LHat (n : Nat) (k_signs : Nat → Int32) (e M : Nat) (d_fault m_wrong : Int32) (m_hates : TN) (X : Option (Int32 × Int32 × TN × Int32 × Int32 × Int32 × Int32 × Int64 × Option Nat)) (Y : Option (Int32 × Int32 × Int32 × Int32 × Int64 × Int32 × Int32 × TN × Int32)) : Prop := FAILF (fun t => FrN 6 m_hates t.1) X Y 0 ∨ ∃ (hc hm : TN) (gi : Int32) (q_place q_behind q_kind q_value : Int32) (q_letters : Int64) (q_word : Option Nat) (p_place p_begin p_token : Int32) (p_word : Int64) (p_told : Int32) (b' e' : Nat), X = some (1, d_fault, hc, q_place, q_behind, q_kind, q_value, q_letters, q_word) ∧ Y = some (1, p_place, p_begin, p_token, p_word, p_told, m_wrong, hm, gi) ∧ TS n k_signs q_place q_behind q_kind q_value q_letters q_word p_place p_begin p_token p_word p_told b' e' ∧ e ≤ b' ∧ RH M hc hm ∧ FrN 6 m_hates hm
theorem hates_line (hn : n ≤ 1000) (hfg : ∀ i, i < n → m_tape i = k_signs i) (hN : RN M D Q 1 c_men c_dangers c_decrees c_manNames c_dangerNames c_decreeNames m_city m_manName m_dangerName m_decreeName) (hH : RH M c_hated m_hates) (h : TS n k_signs k_place k_behind k_kind k_value k_letters k_word m_place m_begin m_token m_word m_told b e) :
    LHat n k_signs e M d_fault m_wrong m_hates (f_X6_hatesLine d_fault c_men c_dangers c_manNames c_hated c_dangerNames k_signs (nI n) k_behind) (f_X13_readsHates m_tape (nI n) m_place m_wrong m_city m_manName m_hates m_given) := by
  have hM6 := hN.1.1
  have hcm : c_men = nI M := hN.1.2.1
  unfold f_X6_hatesLine f_X13_readsHates
  obtain ⟨q_place, q_behind, q_kind, q_value, q_letters, q_word, p_place, p_begin, p_token, p_word, p_told, b1, e1, a1, a2, a3, a4⟩ := adv hn hfg h
  have l1 := a3.2.2.2.2.le
  rw [a1, a2]
  simp only [o_bs]
  rcases man_rel (d_fault := d_fault) (m_wrong := m_wrong) (m_given := m_given) hN (by omega) a3 with ⟨f, v, f1, f2, fz⟩ | ⟨i, hi, f1, f2, f3⟩
  · left
    rw [f1, show f_X13_needsMan p_begin p_token p_word m_wrong m_city m_manName m_given 1 = _ from f2]; simp only [o_bs, ↓reduceIte]
    exact ⟨_, _, rfl, rfl, rfl, rfl, (by first | exact eqf1 | exact eqf2 | exact eqf3 | exact eqf4 | exact eqf5 | exact ⟨rfl, by assumption⟩), by first | exact FrN.rfl' | exact FrN.upd (by omega) | exact FrN.updL (by omega)⟩
  rw [f1, show f_X13_needsMan p_begin p_token p_word m_wrong m_city m_manName m_given 1 = _ from f2]; simp only [o_bs]
  rw [if_neg (nI_m1 i (by omega)), if_neg n10]
  obtain ⟨r_place, r_behind, r_kind, r_value, r_letters, r_word, t_place, t_begin, t_token, t_word, t_told, b2, e2, c1, c2, c3, c4⟩ := adv hn hfg a3
  have l2 := c3.2.2.2.2.le
  rw [c1, c2]; simp only [o_bs]
  rcases man_rel (d_fault := d_fault) (m_wrong := m_wrong) (m_given := nI i) hN (by omega) c3 with ⟨f, v, g1, g2, fz⟩ | ⟨j, hj, g1, g2, g3⟩
  · left
    rw [g1, show f_X13_needsMan t_begin t_token t_word m_wrong m_city m_manName (nI i) 1 = _ from g2]; simp only [o_bs, ↓reduceIte]
    exact ⟨_, _, rfl, rfl, rfl, rfl, (by first | exact eqf1 | exact eqf2 | exact eqf3 | exact eqf4 | exact eqf5 | exact ⟨rfl, by assumption⟩), by first | exact FrN.rfl' | exact FrN.upd (by omega) | exact FrN.updL (by omega)⟩
  rw [g1, show f_X13_needsMan t_begin t_token t_word m_wrong m_city m_manName (nI i) 1 = _ from g2]; simp only [o_bs]
  rw [if_neg (nI_m1 j (by omega)), if_neg n10]
  have bad : FAILF (fun t => FrN 6 m_hates t.1) (f_X6_hatesLine_57 c_hated r_place r_behind r_kind r_value r_letters r_word) (f_X13_readsHates_61 t_place t_begin t_token t_word t_told m_hates (nI j)) 0 := by
    unfold f_X6_hatesLine_57 f_X13_readsHates_61 f_X6_wrong f_X13_fails
    rw [q_zg0, q_zg0, c3.1, c3.2.2.2.1]
    exact ⟨_, _, rfl, rfl, rfl, rfl, (by first | exact eqf1 | exact eqf2 | exact eqf3 | exact eqf4 | exact eqf5 | exact ⟨rfl, by assumption⟩), by first | exact FrN.rfl' | exact FrN.upd (by omega) | exact FrN.updL (by omega)⟩
  by_cases hij : i = j
  · left
    subst hij
    rw [if_pos rfl, if_pos rfl]
    exact bad
  rw [if_neg (fun z => hij ((nI_inj (by omega) (by omega)).mp z).symm), if_neg (fun z => hij ((nI_inj (by omega) (by omega)).mp z)), qa_6, q_gd (by omega) (by omega), q_gd (by omega) (by omega), q_gd (by omega) (by omega), nI_clamp (by omega)]
  obtain ⟨H, hH64, hHc, hH0, hHm⟩ := hH i (by omega)
  unfold f_X1_doesHate
  rw [hcm, hasMan_lt hj hM6, if_neg n10, q_ga (by omega) (by omega), q_gp (by omega) (by omega), hHc, hHm hi]
  by_cases hbt : H.testBit j = true
  · left
    simp only [if_pos ((bit1 (a := H) (k := j) (by omega) (by omega)).mpr hbt)]
    rw [if_neg n10]
    exact bad
  have hbf : H.testBit j = false := by simpa using hbt
  have hbz : ¬ (nI H >>> (nI j &&& 31)) &&& 1 = 1 := fun z => hbt ((bit1 (by omega) (by omega)).mp z)
  simp only [if_neg hbz, ↓reduceIte]
  obtain ⟨r'_place, r'_behind, r'_kind, r'_value, r'_letters, r'_word, t'_place, t'_begin, t'_token, t'_word, t'_told, b3, e3, c5, c6, c7, c8⟩ := adv hn hfg c3
  have l3 := c7.2.2.2.2.le
  rw [c5, c6]; simp only [o_bs]
  rcases ends_rel (d_fault := d_fault) (m_wrong := m_wrong) hn hfg c7 with ⟨o1, o2, w1, w2, w3, w4, w5⟩ | ⟨r3_place, r3_behind, r3_kind, r3_value, r3_letters, r3_word, t3_place, t3_begin, t3_token, t3_word, t3_told, b5, e5, w1, w2, w3, w4⟩
  · left
    rw [w1, w2]; simp only [o_bs]
    rw [if_pos w3, q_zg (Or.inl w4)]
    exact ⟨_, _, rfl, rfl, rfl, w4, w5, by first | exact FrN.rfl' | exact FrN.upd (by omega) | exact FrN.updL (by omega)⟩
  right
  rw [w1, w2]; simp only [o_bs]
  rw [if_neg n10, q_zg1, shl1 (by omega), nI_or]
  have hor := bitC_or H hH64 j (by omega) hbf
  refine ⟨_, _, _, r3_place, r3_behind, r3_kind, r3_value, r3_letters, r3_word, t3_place, t3_begin, t3_token, t3_word, t3_told, b5, e5, rfl, rfl, w3, by omega, ?_, FrN.upd (by omega)⟩
  intro l hl
  by_cases hli : l = i
  · subst hli
    exact ⟨H ||| 2 ^ j, hor.2, pk_us, fun z => absurd hi (by omega), fun _ => pk_us⟩
  · obtain ⟨H', g1, g2, g3, g4⟩ := hH l hl
    exact ⟨H', g1, by rw [pk_un hli]; exact g2, g3, fun z => by rw [pk_un (by omega)]; exact g4 z⟩
/-- the term told, in both -/
def RTe (c_term c_termTold m9 m_toldLines : Int32) : Prop := (∃ v, 1 ≤ v ∧ v ≤ 12 ∧ c_term = nI v ∧ m9 = nI v) ∧ ((c_termTold = 0 ∧ m_toldLines = 0) ∨ (c_termTold = 1 ∧ m_toldLines = 16))
def LTer (n : Nat) (k_signs : Nat → Int32) (e : Nat) (d_fault m_wrong : Int32) (m_city : Nat → Int32) (X : Option (Int32 × Int32 × Int32 × Int32 × Int32 × Int32 × Int32 × Int32 × Int64 × Option Nat)) (Y : Option (Int32 × Int32 × Int32 × Int32 × Int64 × Int32 × Int32 × TN × Int32 × Int32)) : Prop := FAILF (fun t => FrN 5 m_city t.1) X Y 0 ∨ ∃ (te tt m9 tl gi : Int32) (q_place q_behind q_kind q_value : Int32) (q_letters : Int64) (q_word : Option Nat) (p_place p_begin p_token : Int32) (p_word : Int64) (p_told : Int32) (b' e' : Nat), X = some (1, d_fault, te, tt, q_place, q_behind, q_kind, q_value, q_letters, q_word) ∧ Y = some (1, p_place, p_begin, p_token, p_word, p_told, m_wrong, upd m_city 9 m9, tl, gi) ∧ TS n k_signs q_place q_behind q_kind q_value q_letters q_word p_place p_begin p_token p_word p_told b' e' ∧ e ≤ b' ∧ RTe te tt m9 tl
theorem term_line (hn : n ≤ 1000) (hfg : ∀ i, i < n → m_tape i = k_signs i) (hT : RTe c_term c_termTold (m_city 9) m_toldLines) (h : TS n k_signs k_place k_behind k_kind k_value k_letters k_word m_place m_begin m_token m_word m_told b e) (hw : k_word = some 11) :
    LTer n k_signs e d_fault m_wrong m_city (f_X6_termLine d_fault c_term c_termTold k_signs (nI n) k_place k_behind k_kind k_value k_letters k_word) (f_X13_readsTerm m_tape (nI n) m_place m_begin m_token m_word m_told m_wrong m_city m_toldLines m_given) := by
  obtain ⟨_, ⟨rfl, rfl⟩ | ⟨rfl, rfl⟩⟩ := hT
  · unfold f_X6_termLine f_X13_readsTerm
    have ht : f_X13_isTwice 0 4 = (0, 16) := by decide
    rw [ht]
    simp only [↓reduceIte, gl_9_10, cl_9]
    obtain ⟨q_place, q_behind, q_kind, q_value, q_letters, q_word, p_place, p_begin, p_token, p_word, p_told, b1, e1, a1, a2, a3, a4⟩ := adv hn hfg h
    have l1 := a3.2.2.2.2.le
    have nb : ∀ o, (f_X13_needsBoth m_tape (nI n) m_place m_begin m_token m_word m_told m_wrong m_given 397804 1 12) = some o → f_X13_needsNumber m_tape (nI n) p_place p_begin p_token p_word p_told m_wrong m_given 1 12 = some o := by
      intro o ho
      unfold f_X13_needsBoth at ho
      rw [if_neg (show ¬ f_X13_isWord m_token m_word 397804 = 0 from fun z => (h.word1 (i := 11) (by omega)).mp z hw), a2, o_bs] at ho
      exact zgb ho
    rw [a2]; simp only [o_bs]
    rcases lab_lit (d_fault := d_fault) (m_wrong := m_wrong) (m_given := m_given) (i := 11) (y := 397804) (x2 := 1) (x3 := 12) (lo := 1) (hl := 12) rfl rfl rfl hn hfg h (by omega) (by omega) (by omega) with ⟨o1, o2, g1, g2, g3, g4, g5⟩ | ⟨v1, r'_place, r'_behind, r'_kind, r'_value, r'_letters, r'_word, t'_place, t'_begin, t'_token, t'_word, t'_told, b3, e3, g1, g2, g3, g4, g5⟩
    · left
      rw [g1, nb _ g2]; simp only [o_bs]
      rw [if_pos g3, if_pos g4]
      exact ⟨_, _, rfl, rfl, rfl, rfl, g5, by first | exact FrN.rfl' | exact FrN.upd (by omega) | exact FrN.updL (by omega)⟩
    rw [g1, nb _ g2]; simp only [o_bs]
    rw [if_neg (nI_m1 v1 (by omega)), if_neg n10]
    have l3 := g3.2.2.2.2.le
    rcases ends_rel (d_fault := d_fault) (m_wrong := m_wrong) hn hfg g3 with ⟨o1, o2, w1, w2, w3, w4, w5⟩ | ⟨r3_place, r3_behind, r3_kind, r3_value, r3_letters, r3_word, t3_place, t3_begin, t3_token, t3_word, t3_told, b5, e5, w1, w2, w3, w4⟩
    · left
      rw [w1, w2]; simp only [o_bs]
      rw [if_pos w3, q_zg (Or.inl w4)]
      exact ⟨_, _, rfl, rfl, rfl, w4, w5, by first | exact FrN.rfl' | exact FrN.upd (by omega) | exact FrN.updL (by omega)⟩
    right
    rw [w1, w2]; simp only [o_bs]
    rw [if_neg n10, q_zg1]
    exact ⟨_, _, _, _, _, r3_place, r3_behind, r3_kind, r3_value, r3_letters, r3_word, t3_place, t3_begin, t3_token, t3_word, t3_told, b5, e5, rfl, rfl, w3, by omega, ⟨v1, by omega, by omega, rfl, rfl⟩, Or.inr ⟨rfl, rfl⟩⟩
  · left
    unfold f_X6_termLine f_X13_readsTerm
    have ht : f_X13_isTwice 16 4 = (1, 16) := by decide
    rw [ht, if_neg n10, if_neg n10]
    unfold f_X6_wrong f_X13_fails
    rw [q_zg0, q_zg0, h.1, h.2.2.2.1]
    exact ⟨_, _, rfl, rfl, rfl, rfl, (by first | exact eqf1 | exact eqf2 | exact eqf3 | exact eqf4 | exact eqf5 | exact ⟨rfl, by assumption⟩), by first | exact FrN.rfl' | exact FrN.upd (by omega) | exact FrN.updL (by omega)⟩
end
