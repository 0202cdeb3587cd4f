/-! the line of a decree -/
theorem bitC_6 : ∀ U, U < 64 → ¬ (6 : Int32) < f_X20_bitCount (nI U) ∧ (f_X20_bitCount (nI U) = 0 ↔ U = 0) := by decide +kernel
section
variable {k_place k_behind k_kind k_value : Int32} {k_letters : Int64} {k_word : Option Nat} {m_place m_begin m_token : Int32} {m_word : Int64} {m_told : Int32} {k_signs m_tape : Nat → Int32} {n b e : Nat} {d_fault m_wrong m_given : Int32} {M D Q s : Nat} {c_men c_dangers c_decrees : Int32} {c_manNames c_dangerNames c_decreeNames : Nat → Int64} {m_city : Nat → Int32} {m_manName m_dangerName m_decreeName : Nat → Int64} {m_fresh : Int64} {c_kinds c_skills c_fields c_wants c_hated c_sizes c_grows c_grounds m_kind m_skill m_fieldTold m_want m_hates m_sizeTold m_grows m_restsOn : Nat → Int32} {c_consuls m_consulsMany c_term c_termTold m_toldLines : Int32}
theorem addDecree_eq (hQ : Q < 6) {x : Int64} {y : Int32} : f_X1_addDecree (nI Q) c_decreeNames c_grounds x y = some (nI (Q + 1), vp_updL c_decreeNames Q x, upd c_grounds Q y) := by
  unfold f_X1_addDecree
  rw [if_neg (nI_pos (by omega)), if_pos (show nI Q < 6 from (nI_ltI (b := 6) (by omega) (by omega)).mpr hQ), q_gd hQ (by omega), nI_clamp (by omega), q_gp hQ (by omega), nI_1]
def LDec (n : Nat) (k_signs : Nat → Int32) (e Q : Nat) (d_fault m_wrong : Int32) (c_decreeNames : Nat → Int64) (c_grounds m_city : Nat → Int32) (m_decreeName : Nat → Int64) (m_restsOn : Nat → Int32) (X : Option (Int32 × Int32 × Int32 × TL × TN × Int32 × Int32 × Int32 × Int32 × Int64 × Option Nat)) (Y : Option (Int32 × Int32 × Int32 × Int32 × Int64 × Int32 × Int32 × TN × TL × TN × Int64)) : Prop := FAILF (fun t => FrN 5 m_city t.1 ∧ FrN 6 m_decreeName t.2.1 ∧ FrN 6 m_restsOn t.2.2.1) X Y 0 ∨ ∃ (U : Nat) (x w fr : Int64) (ro : TN) (q_place q_behind q_kind q_value : Int32) (q_letters : Int64) (q_word : Option Nat) (p_place p_begin p_token : Int32) (p_word : Int64) (p_told : Int32) (b' e' : Nat), X = some (1, d_fault, nI (Q + 1), vp_updL c_decreeNames Q x, upd c_grounds Q (nI U), q_place, q_behind, q_kind, q_value, q_letters, q_word) ∧ Y = some (1, p_place, p_begin, p_token, p_word, p_told, m_wrong, upd m_city 7 (nI (Q + 1)), vp_updL m_decreeName (6 + Q) w, ro, fr) ∧ TS n k_signs q_place q_behind q_kind q_value q_letters q_word p_place p_begin p_token p_word p_told b' e' ∧ e ≤ b' ∧ Q < 6 ∧ WN x w ∧ U < 64 ∧ ro (6 + Q) = nI U ∧ ∀ i, ¬ i = 6 + Q → ro i = m_restsOn i
theorem dec151 (hn : n ≤ 1000) (hfg : ∀ i, i < n → m_tape i = k_signs i) (hQ : Q < 6) (h7 : m_city 7 = nI Q) (h : TS n k_signs k_place k_behind k_kind k_value k_letters k_word m_place m_begin m_token m_word m_told b e) {e0 : Nat} (he0 : e0 ≤ e) {U : Nat} (hU : U < 64) {ro : TN} (hro : ro (6 + Q) = nI U) (hro' : ∀ i, ¬ i = 6 + Q → ro i = m_restsOn i) {x w : Int64} (hx : WN x w) {x3 : Int32} (hx3 : x3 = nI U) : LDec n k_signs e0 Q d_fault m_wrong c_decreeNames c_grounds m_city m_decreeName m_restsOn (f_X6_decreeLine_69 d_fault (nI Q) c_decreeNames c_grounds k_signs (nI n) k_place k_behind k_kind k_value k_letters k_word x x3) (f_X13_readsDecree_151 m_tape (nI n) m_place m_begin m_token m_word m_told m_wrong m_city m_decreeName ro m_fresh (nI (6 + Q)) w) := by
  subst hx3
  unfold f_X6_decreeLine_69 f_X13_readsDecree_151
  simp only [gl_7_10, cl_7, h7]
  rw [if_neg (nI_m1 U (by omega)), q_gd (by omega) (by omega), nI_clamp (by omega)]
  rcases ends_rel (d_fault := d_fault) (m_wrong := m_wrong) hn hfg h with ⟨o1, o2, w1, w2, w3, w4, w5⟩ | ⟨r3_place, r3_behind, r3_kind, r3_value, r3_letters, r3_word, t3_place, t3_begin, t3_token, t3_word, t3_told, b5, e5, w1, w2, w3, w4⟩
  · left
    rw [w1, w2]; simp only [o_bs]
    rw [if_pos w3, q_zg (Or.inl w4)]
    exact ⟨_, _, rfl, rfl, rfl, w4, w5, (by refine ⟨?_, ?_, ?_⟩ <;> first | exact FrN.rfl' | exact FrN.upd (by omega) | exact FrN.updL (by omega) | exact fun i hi => hro' i (by omega))⟩
  right
  rw [w1, w2]; simp only [o_bs]
  rw [if_neg n10, addDecree_eq hQ, q_zg1, nI_1]
  simp only [o_bs]
  exact ⟨U, x, w, _, ro, r3_place, r3_behind, r3_kind, r3_value, r3_letters, r3_word, t3_place, t3_begin, t3_token, t3_word, t3_told, b5, e5, rfl, rfl, w3, by omega, hQ, hx, hU, hro, hro'⟩
theorem grounds_rel (hn : n ≤ 1000) (hfg : ∀ i, i < n → m_tape i = k_signs i) (hQ : Q < 6) (hN : RN M D Q 1 c_men c_dangers c_decrees c_manNames c_dangerNames c_decreeNames m_city m_manName m_dangerName m_decreeName) {x w : Int64} (hx : WN x w) {e0 : Nat} : ∀ (fu : Nat) (k_place k_behind k_kind k_value : Int32) (k_letters : Int64) (k_word : Option Nat) (m_place m_begin m_token : Int32) (m_word : Int64) (m_told : Int32) (b e U : Nat) (ro : TN), TS n k_signs k_place k_behind k_kind k_value k_letters k_word m_place m_begin m_token m_word m_told b e → n < fu + b → e0 ≤ e → U < 64 → ro (6 + Q) = nI U → (∀ i, ¬ i = 6 + Q → ro i = m_restsOn i) → LDec n k_signs e0 Q d_fault m_wrong c_decreeNames c_grounds m_city m_decreeName m_restsOn ((f_X6_groundsTold_4 fu d_fault (nI Q) c_decreeNames k_signs (nI n) k_place k_behind k_kind k_value k_letters k_word (nI U) (f_X20_bitCount (nI U))).bind fun r65 => f_X6_decreeLine_69 r65.2.1 (nI Q) c_decreeNames c_grounds k_signs (nI n) r65.2.2.1 r65.2.2.2.1 r65.2.2.2.2.1 r65.2.2.2.2.2.1 r65.2.2.2.2.2.2.1 r65.2.2.2.2.2.2.2 x r65.1) (f_X13_readsDecree_62 fu m_tape (nI n) m_place m_begin m_token m_word m_told m_wrong m_city m_decreeName ro m_fresh (nI (6 + Q)) w) := by
  have h7 : m_city 7 = nI Q := hN.2.2.2.2.1
  have hcd : c_decrees = nI Q := hN.2.2.2.1
  subst hcd
  intro fu
  induction fu with
  | zero => intro k_place k_behind k_kind k_value k_letters k_word m_place m_begin m_token m_word m_told b e U ro h hf _ _ _ _; have := h.2.2.2.2.le; omega
  | succ fu ih =>
    intro k_place k_behind k_kind k_value k_letters k_word m_place m_begin m_token m_word m_told b e U ro h hf he0 hU hro hro'
    have l0 := h.2.2.2.2.le
    have hb := bitC_6 U hU
    rw [f_X6_groundsTold_4.eq_2, f_X13_readsDecree_62.eq_2, if_neg hb.1, q_gd (by omega) (by omega), nI_clamp (by omega), hro]
    rcases h.name with ⟨g1, g2⟩ | ⟨g1, g2, g3, g4⟩
    · rw [g1]
      by_cases hU0 : U = 0
      · left
        subst hU0
        rw [if_pos (hb.2.mpr rfl), if_pos (show nI 0 = 0 from rfl)]
        unfold f_X6_groundsTold_24 f_X13_readsDecree_80 f_X6_wrong f_X13_fails
        rw [g1, g2, if_neg n10, q_zg0, h.1, h.2.2.2.1]
        simp only [o_bs, ↓reduceIte]
        unfold f_X6_decreeLine_69
        rw [if_pos rfl]
        exact ⟨_, _, rfl, rfl, rfl, rfl, (by first | exact eqf1 | exact eqf2 | exact eqf3 | exact eqf4 | exact eqf5 | exact ⟨rfl, by assumption⟩), (by refine ⟨?_, ?_, ?_⟩ <;> first | exact FrN.rfl' | exact FrN.upd (by omega) | exact FrN.updL (by omega) | exact fun i hi => hro' i (by omega))⟩
      · rw [if_neg (fun z => hU0 (hb.2.mp z)), if_neg (show ¬ nI U = 0 from fun z => hU0 ((nI_inj (j := 0) (by omega) (by omega)).mp z)), h.sign hn hfg]
        simp only [o_bs, ↓reduceIte]
        by_cases hs : f_X10_isSign k_kind k_value 59 = 0
        · left
          rw [if_pos hs]
          unfold f_X6_decreeLine_69 f_X13_readsDecree_80 f_X6_lineEnds f_X6_wrong f_X13_fails
          rw [if_neg (nI_m1 U (by omega)), if_pos hs, g2, if_neg n10, q_zg0, q_zg0, h.1, h.2.2.2.1]
          simp only [o_bs, ↓reduceIte]
          exact ⟨_, _, rfl, rfl, rfl, rfl, (by first | exact eqf1 | exact eqf2 | exact eqf3 | exact eqf4 | exact eqf5 | exact ⟨rfl, by assumption⟩), (by refine ⟨?_, ?_, ?_⟩ <;> first | exact FrN.rfl' | exact FrN.upd (by omega) | exact FrN.updL (by omega) | exact fun i hi => hro' i (by omega))⟩
        · rw [if_neg hs]
          exact dec151 hn hfg hQ h7 h he0 hU hro hro' hx rfl
    · have hC : (if f_X20_bitCount (nI U) = 0 then f_X6_groundsTold_24 (f_X6_groundsTold_4 fu) d_fault (nI Q) c_decreeNames k_signs (nI n) k_place k_behind k_kind k_value k_letters k_word (nI U) (f_X20_bitCount (nI U)) else (f_X10_isName k_kind k_word).bind fun r18 => if r18 = 0 then some (nI U, d_fault, k_place, k_behind, k_kind, k_value, k_letters, k_word) else f_X6_groundsTold_24 (f_X6_groundsTold_4 fu) d_fault (nI Q) c_decreeNames k_signs (nI n) k_place k_behind k_kind k_value k_letters k_word (nI U) (f_X20_bitCount (nI U))) = f_X6_groundsTold_24 (f_X6_groundsTold_4 fu) d_fault (nI Q) c_decreeNames k_signs (nI n) k_place k_behind k_kind k_value k_letters k_word (nI U) (f_X20_bitCount (nI U)) := by
        by_cases hz : f_X20_bitCount (nI U) = 0
        · rw [if_pos hz]
        · rw [if_neg hz, g1, o_bs, if_neg n10]
      have hs : f_X10_isSign k_kind k_value 59 = 0 := by
        unfold f_X10_isSign
        rw [g3]; rfl
      have hMo : (if nI U = 0 then (f_X13_readsDecree_80 (f_X13_readsDecree_62 fu) m_tape (nI n) m_place m_begin m_token m_word m_told m_wrong m_city m_decreeName ro m_fresh (nI (6 + Q)) w) else (f_X13_isSign m_tape m_begin m_token 59).bind fun r74 => if r74 = 0 then (f_X13_readsDecree_80 (f_X13_readsDecree_62 fu) m_tape (nI n) m_place m_begin m_token m_word m_told m_wrong m_city m_decreeName ro m_fresh (nI (6 + Q)) w) else (f_X13_readsDecree_151 m_tape (nI n) m_place m_begin m_token m_word m_told m_wrong m_city m_decreeName ro m_fresh (nI (6 + Q)) w)) = (f_X13_readsDecree_80 (f_X13_readsDecree_62 fu) m_tape (nI n) m_place m_begin m_token m_word m_told m_wrong m_city m_decreeName ro m_fresh (nI (6 + Q)) w) := by
        by_cases hz : nI U = 0
        · rw [if_pos hz]
        · rw [if_neg hz, h.sign hn hfg, o_bs, if_pos hs]
      rw [hC, hMo]
      unfold f_X6_groundsTold_24 f_X13_readsDecree_80
      rw [g1, g2, if_pos rfl]
      simp only [o_bs]
      rw [if_neg n10]
      rcases hN.decree g4 with ⟨a1, a2⟩ | ⟨i, hi, a1, a2⟩
      · left
        rw [a1, a2]
        unfold f_X6_wrong f_X13_fails
        simp only [o_bs, ↓reduceIte]
        unfold f_X6_decreeLine_69
        rw [if_neg (show ¬ (0 : Int32) ≤ -1 by decide), if_pos rfl, q_zg0, h.1, h.2.2.2.1]
        exact ⟨_, _, rfl, rfl, rfl, rfl, (by first | exact eqf1 | exact eqf2 | exact eqf3 | exact eqf4 | exact eqf5 | exact ⟨rfl, by assumption⟩), (by refine ⟨?_, ?_, ?_⟩ <;> first | exact FrN.rfl' | exact FrN.upd (by omega) | exact FrN.updL (by omega) | exact fun i hi => hro' i (by omega))⟩
      · rw [a1, a2]
        simp only [o_bs]
        rw [if_neg (nI_m1 i (by omega)), if_pos (nI_ge0 (k := i) (by omega)), q_gd (by omega) (by omega), nI_clamp (by omega), hro]
        by_cases hbt : U.testBit i = true
        · left
          simp only [if_pos ((bit1 (a := U) (k := i) (by omega) (by omega)).mpr hbt)]
          unfold f_X6_wrong f_X13_fails
          simp only [o_bs]
          unfold f_X6_decreeLine_69
          rw [if_pos rfl, q_zg0, h.1, h.2.2.2.1]
          exact ⟨_, _, rfl, rfl, rfl, rfl, (by first | exact eqf1 | exact eqf2 | exact eqf3 | exact eqf4 | exact eqf5 | exact ⟨rfl, by assumption⟩), (by refine ⟨?_, ?_, ?_⟩ <;> first | exact FrN.rfl' | exact FrN.upd (by omega) | exact FrN.updL (by omega) | exact fun i hi => hro' i (by omega))⟩
        · have hbf : U.testBit i = false := by simpa using hbt
          have hbz : ¬ (nI U >>> (nI i &&& 31)) &&& 1 = 1 := fun z => hbt ((bit1 (by omega) (by omega)).mp z)
          simp only [if_neg hbz]
          obtain ⟨r_place, r_behind, r_kind, r_value, r_letters, r_word, t_place, t_begin, t_token, t_word, t_told, b2, e2, c1, c2, c3, c4⟩ := adv hn hfg h
          have l2 := c3.2.2.2.2.le
          have lt := h.lt (by rw [g3]; decide)
          have hor := bitC_or U hU i (by omega) hbf
          rw [q_gd (by omega) (by omega), q_gd (by omega) (by omega), c1, c2, shl1 (by omega), nI_or, ← hor.1]
          simp only [o_bs]
          exact ih r_place r_behind r_kind r_value r_letters r_word t_place t_begin t_token t_word t_told b2 e2 (U ||| 2 ^ i) (upd ro (6 + Q) (nI (U ||| 2 ^ i))) c3 (by omega) (by omega) hor.2 pk_us (fun l hl => by rw [pk_un hl]; exact hro' l hl)
theorem decree_line (hn : n ≤ 1000) (hfg : ∀ i, i < n → m_tape i = k_signs i) (hN : RN M D Q 1 c_men c_dangers c_decrees c_manNames c_dangerNames c_decreeNames m_city m_manName m_dangerName m_decreeName) (h : TS n k_signs k_place k_behind k_kind k_value k_letters k_word m_place m_begin m_token m_word m_told b e) :
    LDec n k_signs e Q d_fault m_wrong c_decreeNames c_grounds m_city m_decreeName m_restsOn (f_X6_decreeLine d_fault c_men c_dangers c_decrees c_manNames c_dangerNames c_decreeNames c_grounds k_signs (nI n) k_place k_behind k_kind k_value k_letters k_word) (f_X13_readsDecree m_tape (nI n) m_place m_begin m_token m_word m_told m_wrong m_city m_manName m_dangerName m_decreeName m_restsOn m_fresh) := by
  have h7 : m_city 7 = nI Q := hN.2.2.2.2.1
  have hQ6 := hN.2.2.1
  have hcm : c_decrees = nI Q := hN.2.2.2.1
  subst hcm
  unfold f_X6_decreeLine f_X13_readsDecree
  simp only [gl_7_10, cl_7, h7, qa_6]
  by_cases hQ : Q < 6
  · rw [if_pos (show nI Q < 6 from (nI_ltI (b := 6) (by omega) (by omega)).mpr hQ), if_neg (show ¬ nI (6 + Q) = 12 from fun q => by have := (nI_inj (j := 12) (by omega) (by omega)).mp q; omega)]
    obtain ⟨q_place, q_behind, q_kind, q_value, q_letters, q_word, p_place, p_begin, p_token, p_word, p_told, b1, e1, a1, a2, a3, a4⟩ := adv hn hfg h
    have l1 := a3.2.2.2.2.le
    rw [a1, a2]
    simp only [o_bs]
    rcases fresh_rel (d_fault := d_fault) (m_wrong := m_wrong) (m_fresh := m_fresh) hn hfg hN a3 with ⟨o1, o2, f1, f2, f3, f4, f5⟩ | ⟨r_place, r_behind, r_kind, r_value, r_letters, r_word, t_place, t_begin, t_token, t_word, t_told, b2, e2, f1, f2, f3, f4, f5⟩
    · left
      rw [f1, f2]; simp only [o_bs]
      rw [if_pos f3, if_pos f4]
      exact ⟨_, _, rfl, rfl, rfl, rfl, f5, (by refine ⟨?_, ?_, ?_⟩ <;> first | exact FrN.rfl' | exact FrN.upd (by omega) | exact FrN.updL (by omega) | exact fun i hi => hro' i (by omega))⟩
    rw [f1, f2]; simp only [o_bs]
    have l2 := f3.2.2.2.2.le
    rw [if_neg n10, if_neg n10, eg_ok f3.wok, q_gd (by omega) (by omega), nI_clamp (by omega)]
    by_cases hw : r_word = some 10
    · rw [if_pos hw, if_neg (show ¬ f_X13_isWord t_token t_word 419 = 0 from fun z => (f3.word1 (i := 10) (by omega)).mp z hw)]
      obtain ⟨r'_place, r'_behind, r'_kind, r'_value, r'_letters, r'_word, t'_place, t'_begin, t'_token, t'_word, t'_told, b3, e3, c1, c2, c3, c4⟩ := adv hn hfg f3
      have l3 := c3.2.2.2.2.le
      rw [c1, c2]
      simp only [o_bs]
      exact grounds_rel (m_restsOn := m_restsOn) hn hfg hQ hN f5 1100 r'_place r'_behind r'_kind r'_value r'_letters r'_word t'_place t'_begin t'_token t'_word t'_told b3 e3 0 (upd m_restsOn (6 + Q) 0) c3 (by omega) (by omega) (by omega) pk_us (fun i hi => pk_un hi)
    · rw [if_neg hw, if_pos (show f_X13_isWord t_token t_word 419 = 0 from (f3.word1 (i := 10) (by omega)).mpr hw)]
      exact dec151 (m_restsOn := m_restsOn) hn hfg hQ h7 f3 (by omega) (U := 0) (by omega) (ro := upd m_restsOn (6 + Q) 0) pk_us (fun i hi => pk_un hi) f5 rfl
  · left
    rw [if_neg (show ¬ nI Q < 6 from fun q => hQ ((nI_ltI (b := 6) (by omega) (by omega)).mp q)), if_pos (show nI (6 + Q) = 12 from by rw [show Q = 6 by omega]; rfl)]
    unfold f_X6_wrong f_X13_fails
    rw [q_zg0, q_zg0, h.1, h.2.2.2.1]
    exact ⟨_, _, rfl, rfl, rfl, rfl, (by first | exact eqf1 | exact eqf2 | exact eqf3 | exact eqf4 | exact eqf5 | exact ⟨rfl, by assumption⟩), (by refine ⟨?_, ?_, ?_⟩ <;> first | exact FrN.rfl' | exact FrN.upd (by omega) | exact FrN.updL (by omega) | exact fun i hi => hro' i (by omega))⟩
end
