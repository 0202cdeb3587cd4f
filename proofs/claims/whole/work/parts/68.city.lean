/-! the city as it is read -/
theorem NM.push {N s o : Nat} {cn mn : Int32} {f g : Nat → Int64} (h : NM N s o cn f mn g) (hN : N < o) {x w : Int64} (hx : WN x w) : NM (N + 1) s o (nI (N + 1)) (vp_updL f N x) (nI (N + 1)) (vp_updL g (o * s + N) w) := by
  obtain ⟨h1, h2, h3, h4⟩ := h
  refine ⟨hN, rfl, rfl, fun i hi => ?_⟩
  by_cases e : i = N
  · subst e; rw [pk_uLs, pk_uLs]; exact hx
  · rw [pk_uLn e, pk_uLn (by omega)]; exact h4 i (by omega)
def RDm (M : Nat) (c_kinds c_skills c_fields c_wants m_kind m_skill m_fieldTold m_want : TN) : Prop := ∀ i, i < M → m_kind (6 + i) = c_kinds i ∧ m_skill (6 + i) = c_skills i ∧ m_fieldTold (6 + i) = c_fields i ∧ m_want (6 + i) = c_wants i ∧ 0 ≤ (c_skills i).toInt ∧ (c_skills i).toInt ≤ 9
def RDd (D : Nat) (c_sizes c_grows m_sizeTold m_grows : TN) : Prop := ∀ i, i < D → m_sizeTold (5 + i) = c_sizes i ∧ m_grows (5 + i) = c_grows i ∧ 0 ≤ (c_sizes i).toInt ∧ (c_sizes i).toInt ≤ 99 ∧ 0 ≤ (c_grows i).toInt ∧ (c_grows i).toInt ≤ 9
def RDq (Q : Nat) (c_grounds m_restsOn : TN) : Prop := ∀ i, i < Q → m_restsOn (6 + i) = c_grounds i
def RD (b : Nat) (c_men c_consuls c_dangers c_decrees c_term c_termTold : Int32) (c_manNames : Nat → Int64) (c_kinds c_skills c_fields c_wants c_hated : Nat → Int32) (c_dangerNames : Nat → Int64) (c_sizes c_grows : Nat → Int32) (c_decreeNames : Nat → Int64) (c_grounds : Nat → Int32) (l_ops : Nat → Int32) (l_size l_worksFrom l_worksTo l_keepsFrom l_keepsTo : Int32) (m_city : Nat → Int32) (m_manName m_dangerName m_decreeName : Nat → Int64) (m_kind m_skill m_fieldTold m_want m_hates m_restsOn m_sizeTold m_grows m_lineFrom m_lineTo m_codes : Nat → Int32) (m_code m_lawLine m_toldLines : Int32) (m_opened m_compared : Nat → Int32) (m_given : Int32) (m_fresh : Int64) (m_consulsMany : Int32) : Prop := ∃ M D Q, RN M D Q 1 c_men c_dangers c_decrees c_manNames c_dangerNames c_decreeNames m_city m_manName m_dangerName m_decreeName ∧ RDm M c_kinds c_skills c_fields c_wants m_kind m_skill m_fieldTold m_want ∧ RDd D c_sizes c_grows m_sizeTold m_grows ∧ RDq Q c_grounds m_restsOn ∧ RH M c_hated m_hates ∧ RCo c_consuls (m_city 8) m_consulsMany ∧ RTe c_term c_termTold (m_city 9) m_toldLines ∧ LWs b l_ops l_worksFrom l_worksTo l_keepsFrom l_keepsTo l_size m_lineFrom m_lineTo m_codes m_code
theorem LWs.mono {b b' : Nat} {l_ops : Nat → Int32} {l_worksFrom l_worksTo l_keepsFrom l_keepsTo : Int32} {l_size : Int32} {m_lineFrom m_lineTo m_codes : TN} {m_code : Int32} (h : LWs b l_ops l_worksFrom l_worksTo l_keepsFrom l_keepsTo l_size m_lineFrom m_lineTo m_codes m_code) (hb : b ≤ b') : LWs b' l_ops l_worksFrom l_worksTo l_keepsFrom l_keepsTo l_size m_lineFrom m_lineTo m_codes m_code := by
  obtain ⟨sz, c, h1, h2, h3, h4, h5⟩ := h
  exact ⟨sz, c, h1, h2, by omega, by omega, h5⟩
/-- what is laid of the city is as it was -/
def FrA (m_city : Nat → Int32) (m_manName m_dangerName m_decreeName : Nat → Int64) (m_kind m_skill m_fieldTold m_want m_hates m_restsOn m_sizeTold m_grows m_lineFrom m_lineTo m_codes : Nat → Int32) (m_code m_lawLine m_toldLines : Int32) (m_opened m_compared : Nat → Int32) (m_given : Int32) (m_fresh : Int64) (m_consulsMany : Int32) (v_city : Nat → Int32) (v_manName v_dangerName v_decreeName : Nat → Int64) (v_kind v_skill v_fieldTold v_want v_hates v_restsOn v_sizeTold v_grows v_lineFrom v_lineTo v_codes : Nat → Int32) (v_code v_lawLine v_toldLines : Int32) (v_opened v_compared : Nat → Int32) (v_given : Int32) (v_fresh : Int64) (v_consulsMany : Int32) : Prop := FrN 5 m_city v_city ∧ FrN 6 m_manName v_manName ∧ FrN 5 m_dangerName v_dangerName ∧ FrN 6 m_decreeName v_decreeName ∧ FrN 6 m_kind v_kind ∧ FrN 6 m_skill v_skill ∧ FrN 6 m_fieldTold v_fieldTold ∧ FrN 6 m_want v_want ∧ FrN 6 m_hates v_hates ∧ FrN 6 m_restsOn v_restsOn ∧ FrN 5 m_sizeTold v_sizeTold ∧ FrN 5 m_grows v_grows ∧ FrN 2 m_lineFrom v_lineFrom ∧ FrN 2 m_lineTo v_lineTo ∧ FrN 1000 m_codes v_codes
theorem FrA.rfl' {m_city : Nat → Int32} {m_manName m_dangerName m_decreeName : Nat → Int64} {m_kind m_skill m_fieldTold m_want m_hates m_restsOn m_sizeTold m_grows m_lineFrom m_lineTo m_codes : Nat → Int32} {m_code m_lawLine m_toldLines : Int32} {m_opened m_compared : Nat → Int32} {m_given : Int32} {m_fresh : Int64} {m_consulsMany : Int32} : FrA m_city m_manName m_dangerName m_decreeName m_kind m_skill m_fieldTold m_want m_hates m_restsOn m_sizeTold m_grows m_lineFrom m_lineTo m_codes m_code m_lawLine m_toldLines m_opened m_compared m_given m_fresh m_consulsMany m_city m_manName m_dangerName m_decreeName m_kind m_skill m_fieldTold m_want m_hates m_restsOn m_sizeTold m_grows m_lineFrom m_lineTo m_codes m_code m_lawLine m_toldLines m_opened m_compared m_given m_fresh m_consulsMany := ⟨FrN.rfl', FrN.rfl', FrN.rfl', FrN.rfl', FrN.rfl', FrN.rfl', FrN.rfl', FrN.rfl', FrN.rfl', FrN.rfl', FrN.rfl', FrN.rfl', FrN.rfl', FrN.rfl', FrN.rfl'⟩
theorem FrA.trans {m_city : Nat → Int32} {m_manName m_dangerName m_decreeName : Nat → Int64} {m_kind m_skill m_fieldTold m_want m_hates m_restsOn m_sizeTold m_grows m_lineFrom m_lineTo m_codes : Nat → Int32} {m_code m_lawLine m_toldLines : Int32} {m_opened m_compared : Nat → Int32} {m_given : Int32} {m_fresh : Int64} {m_consulsMany : Int32} {v_city : Nat → Int32} {v_manName v_dangerName v_decreeName : Nat → Int64} {v_kind v_skill v_fieldTold v_want v_hates v_restsOn v_sizeTold v_grows v_lineFrom v_lineTo v_codes : Nat → Int32} {v_code v_lawLine v_toldLines : Int32} {v_opened v_compared : Nat → Int32} {v_given : Int32} {v_fresh : Int64} {v_consulsMany : Int32} {w_city : Nat → Int32} {w_manName w_dangerName w_decreeName : Nat → Int64} {w_kind w_skill w_fieldTold w_want w_hates w_restsOn w_sizeTold w_grows w_lineFrom w_lineTo w_codes : Nat → Int32} {w_code w_lawLine w_toldLines : Int32} {w_opened w_compared : Nat → Int32} {w_given : Int32} {w_fresh : Int64} {w_consulsMany : Int32} (h : FrA m_city m_manName m_dangerName m_decreeName m_kind m_skill m_fieldTold m_want m_hates m_restsOn m_sizeTold m_grows m_lineFrom m_lineTo m_codes m_code m_lawLine m_toldLines m_opened m_compared m_given m_fresh m_consulsMany v_city v_manName v_dangerName v_decreeName v_kind v_skill v_fieldTold v_want v_hates v_restsOn v_sizeTold v_grows v_lineFrom v_lineTo v_codes v_code v_lawLine v_toldLines v_opened v_compared v_given v_fresh v_consulsMany) (h' : FrA v_city v_manName v_dangerName v_decreeName v_kind v_skill v_fieldTold v_want v_hates v_restsOn v_sizeTold v_grows v_lineFrom v_lineTo v_codes v_code v_lawLine v_toldLines v_opened v_compared v_given v_fresh v_consulsMany w_city w_manName w_dangerName w_decreeName w_kind w_skill w_fieldTold w_want w_hates w_restsOn w_sizeTold w_grows w_lineFrom w_lineTo w_codes w_code w_lawLine w_toldLines w_opened w_compared w_given w_fresh w_consulsMany) : FrA m_city m_manName m_dangerName m_decreeName m_kind m_skill m_fieldTold m_want m_hates m_restsOn m_sizeTold m_grows m_lineFrom m_lineTo m_codes m_code m_lawLine m_toldLines m_opened m_compared m_given m_fresh m_consulsMany w_city w_manName w_dangerName w_decreeName w_kind w_skill w_fieldTold w_want w_hates w_restsOn w_sizeTold w_grows w_lineFrom w_lineTo w_codes w_code w_lawLine w_toldLines w_opened w_compared w_given w_fresh w_consulsMany := by
  obtain ⟨a0, a1, a2, a3, a4, a5, a6, a7, a8, a9, a10, a11, a12, a13, a14⟩ := h
  obtain ⟨b0, b1, b2, b3, b4, b5, b6, b7, b8, b9, b10, b11, b12, b13, b14⟩ := h'
  exact ⟨a0.trans b0, a1.trans b1, a2.trans b2, a3.trans b3, a4.trans b4, a5.trans b5, a6.trans b6, a7.trans b7, a8.trans b8, a9.trans b9, a10.trans b10, a11.trans b11, a12.trans b12, a13.trans b13, a14.trans b14⟩
/-- a line told wrongly, by both -/
def FAILc {α : Type} (n : Nat) (m_taped : Int32) (m_city : Nat → Int32) (m_manName m_dangerName m_decreeName : Nat → Int64) (m_kind m_skill m_fieldTold m_want m_hates m_restsOn m_sizeTold m_grows m_lineFrom m_lineTo m_codes : Nat → Int32) (m_code m_lawLine m_toldLines : Int32) (m_opened m_compared : Nat → Int32) (m_given : Int32) (m_fresh : Int64) (m_consulsMany : Int32) (x : Option (Int32 × Int32 × α)) (y : Option (Int32 × Int32 × Int32 × Int32 × Int32 × Int32 × Int64 × Int32 × Int32 × TN × TL × TL × TL × TN × TN × TN × TN × TN × TN × TN × TN × TN × TN × TN × Int32 × Int32 × Int32 × TN × TN × Int32 × Int64 × Int32)) : Prop := ∃ (o1 : Int32 × Int32 × α) (p_place p_begin p_token : Int32) (p_word : Int64) (p_told : Int32) (wr : Int32) (v_city : Nat → Int32) (v_manName v_dangerName v_decreeName : Nat → Int64) (v_kind v_skill v_fieldTold v_want v_hates v_restsOn v_sizeTold v_grows v_lineFrom v_lineTo v_codes : Nat → Int32) (v_code v_lawLine v_toldLines : Int32) (v_opened v_compared : Nat → Int32) (v_given : Int32) (v_fresh : Int64) (v_consulsMany : Int32), x = some o1 ∧ y = some (0, m_taped, nI n, p_place, p_begin, p_token, p_word, p_told, wr, v_city, v_manName, v_dangerName, v_decreeName, v_kind, v_skill, v_fieldTold, v_want, v_hates, v_restsOn, v_sizeTold, v_grows, v_lineFrom, v_lineTo, v_codes, v_code, v_lawLine, v_toldLines, v_opened, v_compared, v_given, v_fresh, v_consulsMany) ∧ o1.1 = 0 ∧ EQF o1.2.1 wr ∧ FrA m_city m_manName m_dangerName m_decreeName m_kind m_skill m_fieldTold m_want m_hates m_restsOn m_sizeTold m_grows m_lineFrom m_lineTo m_codes m_code m_lawLine m_toldLines m_opened m_compared m_given m_fresh m_consulsMany v_city v_manName v_dangerName v_decreeName v_kind v_skill v_fieldTold v_want v_hates v_restsOn v_sizeTold v_grows v_lineFrom v_lineTo v_codes v_code v_lawLine v_toldLines v_opened v_compared v_given v_fresh v_consulsMany
section
variable {k_place k_behind k_kind k_value : Int32} {k_letters : Int64} {k_word : Option Nat} {m_place m_begin m_token : Int32} {m_word : Int64} {m_told : Int32} {k_signs m_tape : Nat → Int32} {n b e fu : Nat} {d_fault m_wrong m_taped : Int32} {c_men c_consuls c_dangers c_decrees c_term c_termTold : Int32} {c_manNames : Nat → Int64} {c_kinds c_skills c_fields c_wants c_hated : Nat → Int32} {c_dangerNames : Nat → Int64} {c_sizes c_grows : Nat → Int32} {c_decreeNames : Nat → Int64} {c_grounds : Nat → Int32} {l_ops : Nat → Int32} {l_size l_worksFrom l_worksTo l_keepsFrom l_keepsTo : Int32} {m_city : Nat → Int32} {m_manName m_dangerName m_decreeName : Nat → Int64} {m_kind m_skill m_fieldTold m_want m_hates m_restsOn m_sizeTold m_grows m_lineFrom m_lineTo m_codes : Nat → Int32} {m_code m_lawLine m_toldLines : Int32} {m_opened m_compared : Nat → Int32} {m_given : Int32} {m_fresh : Int64} {m_consulsMany : Int32}
def LCit (n : Nat) (k_signs m_tape : TN) (fu b : Nat) (d_fault m_wrong m_taped : Int32) (m_city : Nat → Int32) (m_manName m_dangerName m_decreeName : Nat → Int64) (m_kind m_skill m_fieldTold m_want m_hates m_restsOn m_sizeTold m_grows m_lineFrom m_lineTo m_codes : Nat → Int32) (m_code m_lawLine m_toldLines : Int32) (m_opened m_compared : Nat → Int32) (m_given : Int32) (m_fresh : Int64) (m_consulsMany : Int32) (X : Option (Int32 × Int32 × Int32 × Int32 × Int32 × Int32 × Int32 × Int32 × TL × TN × TN × TN × TN × TN × TL × TN × TN × TL × TN × TN × Int32 × Int32 × Int32 × Int32 × Int32 × Int32 × Int32 × Int32 × Int32 × Int64 × Option Nat)) (Y : Option (Int32 × Int32 × Int32 × Int32 × Int32 × Int32 × Int64 × Int32 × Int32 × TN × TL × TL × TL × TN × TN × TN × TN × TN × TN × TN × TN × TN × TN × TN × Int32 × Int32 × Int32 × TN × TN × Int32 × Int64 × Int32)) : Prop := FAILc n m_taped m_city m_manName m_dangerName m_decreeName m_kind m_skill m_fieldTold m_want m_hates m_restsOn m_sizeTold m_grows m_lineFrom m_lineTo m_codes m_code m_lawLine m_toldLines m_opened m_compared m_given m_fresh m_consulsMany X Y ∨ ∃ (a_men a_consuls a_dangers a_decrees a_term a_termTold : Int32) (a_manNames : Nat → Int64) (a_kinds a_skills a_fields a_wants a_hated : Nat → Int32) (a_dangerNames : Nat → Int64) (a_sizes a_grows : Nat → Int32) (a_decreeNames : Nat → Int64) (a_grounds : Nat → Int32) (j_ops : Nat → Int32) (j_size j_worksFrom j_worksTo j_keepsFrom j_keepsTo : Int32) (v_city : Nat → Int32) (v_manName v_dangerName v_decreeName : Nat → Int64) (v_kind v_skill v_fieldTold v_want v_hates v_restsOn v_sizeTold v_grows v_lineFrom v_lineTo v_codes : Nat → Int32) (v_code v_lawLine v_toldLines : Int32) (v_opened v_compared : Nat → Int32) (v_given : Int32) (v_fresh : Int64) (v_consulsMany : Int32) (q_place q_behind q_kind q_value : Int32) (q_letters : Int64) (q_word : Option Nat) (p_place p_begin p_token : Int32) (p_word : Int64) (p_told : Int32) (b' e' : Nat), X = some (1, d_fault, a_men, a_consuls, a_dangers, a_decrees, a_term, a_termTold, a_manNames, a_kinds, a_skills, a_fields, a_wants, a_hated, a_dangerNames, a_sizes, a_grows, a_decreeNames, a_grounds, j_ops, j_size, j_worksFrom, j_worksTo, j_keepsFrom, j_keepsTo, q_place, q_behind, q_kind, q_value, q_letters, q_word) ∧ Y = f_X13_readsAll_84 fu m_taped m_tape (nI n) p_place p_begin p_token p_word p_told m_wrong v_city v_manName v_dangerName v_decreeName v_kind v_skill v_fieldTold v_want v_hates v_restsOn v_sizeTold v_grows v_lineFrom v_lineTo v_codes v_code v_lawLine v_toldLines v_opened v_compared v_given v_fresh v_consulsMany ∧ TS n k_signs q_place q_behind q_kind q_value q_letters q_word p_place p_begin p_token p_word p_told b' e' ∧ b < b' ∧ RD b' a_men a_consuls a_dangers a_decrees a_term a_termTold a_manNames a_kinds a_skills a_fields a_wants a_hated a_dangerNames a_sizes a_grows a_decreeNames a_grounds j_ops j_size j_worksFrom j_worksTo j_keepsFrom j_keepsTo v_city v_manName v_dangerName v_decreeName v_kind v_skill v_fieldTold v_want v_hates v_restsOn v_sizeTold v_grows v_lineFrom v_lineTo v_codes v_code v_lawLine v_toldLines v_opened v_compared v_given v_fresh v_consulsMany ∧ FrA m_city m_manName m_dangerName m_decreeName m_kind m_skill m_fieldTold m_want m_hates m_restsOn m_sizeTold m_grows m_lineFrom m_lineTo m_codes m_code m_lawLine m_toldLines m_opened m_compared m_given m_fresh m_consulsMany v_city v_manName v_dangerName v_decreeName v_kind v_skill v_fieldTold v_want v_hates v_restsOn v_sizeTold v_grows v_lineFrom v_lineTo v_codes v_code v_lawLine v_toldLines v_opened v_compared v_given v_fresh v_consulsMany
theorem en_at {α : Type} {f : Nat → Option α} {o : Option Nat} {i : Nat} (hi : i < 32) (h : o = some i) : en o f = f i := by rw [h]; exact if_pos hi
theorem eSw_0 : ∀ i, i < 32 → (¬ i = 0 ∧ ¬ i = 4 ∧ ¬ i = 5 ∧ ¬ i = 6 ∧ ¬ i = 9 ∧ ¬ i = 11 ∧ ¬ i = 12 ∧ ¬ i = 13) → eSw i = 0 := by decide +kernel
theorem city_line (hn : n ≤ 1000) (hfg : ∀ i, i < n → m_tape i = k_signs i) (hR : RD b c_men c_consuls c_dangers c_decrees c_term c_termTold c_manNames c_kinds c_skills c_fields c_wants c_hated c_dangerNames c_sizes c_grows c_decreeNames c_grounds l_ops l_size l_worksFrom l_worksTo l_keepsFrom l_keepsTo m_city m_manName m_dangerName m_decreeName m_kind m_skill m_fieldTold m_want m_hates m_restsOn m_sizeTold m_grows m_lineFrom m_lineTo m_codes m_code m_lawLine m_toldLines m_opened m_compared m_given m_fresh m_consulsMany) (h : TS n k_signs k_place k_behind k_kind k_value k_letters k_word m_place m_begin m_token m_word m_told b e) (hk : ¬ k_kind = 0) : LCit n k_signs m_tape fu b d_fault m_wrong m_taped m_city m_manName m_dangerName m_decreeName m_kind m_skill m_fieldTold m_want m_hates m_restsOn m_sizeTold m_grows m_lineFrom m_lineTo m_codes m_code m_lawLine m_toldLines m_opened m_compared m_given m_fresh m_consulsMany (f_X6_cityLine d_fault c_men c_consuls c_dangers c_decrees c_term c_termTold c_manNames c_kinds c_skills c_fields c_wants c_hated c_dangerNames c_sizes c_grows c_decreeNames c_grounds l_ops l_size l_worksFrom l_worksTo l_keepsFrom l_keepsTo k_signs (nI n) k_place k_behind k_kind k_value k_letters k_word) (f_X13_readsAll_84 (fu + 1) m_taped m_tape (nI n) m_place m_begin m_token m_word m_told m_wrong m_city m_manName m_dangerName m_decreeName m_kind m_skill m_fieldTold m_want m_hates m_restsOn m_sizeTold m_grows m_lineFrom m_lineTo m_codes m_code m_lawLine m_toldLines m_opened m_compared m_given m_fresh m_consulsMany) := by
  obtain ⟨M, D, Q, hN, hM, hD, hQ, hH, hC, hT, hL⟩ := hR
  have lt := h.lt hk
  have l0 := h.2.2.2.2.le
  have ht : ¬ m_token = 0 := fun z => hk (h.end.mpr z)
  rw [f_X13_readsAll_84.eq_2, if_neg ht]
  have W : ∀ i, i < 32 → (f_X13_isWord m_token m_word (e27 i) = 0 ↔ ¬ k_word = some i) := fun i hi => h.word1 hi
  have W0 : f_X13_isWord m_token m_word 9518 = 0 ↔ ¬ k_word = some 0 := W 0 (by omega)
  have W4 : f_X13_isWord m_token m_word 51308328 = 0 ↔ ¬ k_word = some 4 := W 4 (by omega)
  have W5 : f_X13_isWord m_token m_word 4285945 = 0 ↔ ¬ k_word = some 5 := W 5 (by omega)
  have W6 : f_X13_isWord m_token m_word 58207887 = 0 ↔ ¬ k_word = some 6 := W 6 (by omega)
  have W9 : f_X13_isWord m_token m_word 60125144 = 0 ↔ ¬ k_word = some 9 := W 9 (by omega)
  have W11 : f_X13_isWord m_token m_word 397804 = 0 ↔ ¬ k_word = some 11 := W 11 (by omega)
  have W12 : f_X13_isWord m_token m_word 12531826 = 0 ↔ ¬ k_word = some 12 := W 12 (by omega)
  have W13 : f_X13_isWord m_token m_word 5948362 = 0 ↔ ¬ k_word = some 13 := W 13 (by omega)
  unfold f_X6_cityLine
  have bad : ¬ k_word = some 0 → ¬ k_word = some 4 → ¬ k_word = some 5 → ¬ k_word = some 6 → ¬ k_word = some 9 → ¬ k_word = some 11 → ¬ k_word = some 12 → ¬ k_word = some 13 → FAILc n m_taped m_city m_manName m_dangerName m_decreeName m_kind m_skill m_fieldTold m_want m_hates m_restsOn m_sizeTold m_grows m_lineFrom m_lineTo m_codes m_code m_lawLine m_toldLines m_opened m_compared m_given m_fresh m_consulsMany (zg (f_X6_wrong k_place 1).1 (some ((f_X6_wrong k_place 1).1, (f_X6_wrong k_place 1).2, c_men, c_consuls, c_dangers, c_decrees, c_term, c_termTold, c_manNames, c_kinds, c_skills, c_fields, c_wants, c_hated, c_dangerNames, c_sizes, c_grows, c_decreeNames, c_grounds, l_ops, l_size, l_worksFrom, l_worksTo, l_keepsFrom, l_keepsTo, k_place, k_behind, k_kind, k_value, k_letters, k_word))) (f_X13_readsAll_234 (f_X13_readsAll_84 fu) m_taped m_tape (nI n) m_place m_begin m_token m_word m_told (f_X13_fails m_begin 1).2 m_city m_manName m_dangerName m_decreeName m_kind m_skill m_fieldTold m_want m_hates m_restsOn m_sizeTold m_grows m_lineFrom m_lineTo m_codes m_code m_lawLine m_toldLines m_opened m_compared m_given m_fresh m_consulsMany (f_X13_fails m_begin 1).1) := by
    intro _ _ _ _ _ _ _ _
    unfold f_X13_readsAll_234 f_X6_wrong f_X13_fails
    rw [q_zg0, if_pos rfl, h.1, h.2.2.2.1]
    exact ⟨_, _, _, _, _, _, _, _, _, _, _, _, _, _, _, _, _, _, _, _, _, _, _, _, _, _, _, _, _, _, rfl, rfl, rfl, eqf1, FrA.rfl'⟩
  by_cases w0 : k_word = some 0
  · have hen : ∀ {α : Type} (f : Nat → Option α), en k_word f = f 0 := fun f => en_at (by omega) w0
    rw [if_neg (show ¬ k_word = none by rw [w0]; simp), hen, show Int32.ofNat 0 = nI 0 from rfl, q_gd (by omega) (by omega), nI_clamp (by omega), show eSw 0 = 1 by decide, if_pos rfl, if_neg (fun z => W0.mp z w0)]
    rcases man_line (d_fault := d_fault) (m_wrong := m_wrong) (m_given := m_given) (m_fresh := m_fresh) (c_kinds := c_kinds) (c_skills := c_skills) (c_fields := c_fields) (c_wants := c_wants) (m_kind := m_kind) (m_skill := m_skill) (m_fieldTold := m_fieldTold) (m_want := m_want) (m_hates := m_hates) hn hfg hN h with ⟨o1, o2, f1, f2, f3, f4, f5, fr⟩ | ⟨kd, v1, v2, v3, x, w, fr, gi, q_place, q_behind, q_kind, q_value, q_letters, q_word, p_place, p_begin, p_token, p_word, p_told, b', e', g1, g2, g3, g4, g5, g6, g7, g8, g9, g10⟩
    · left
      rw [f1, f2]
      simp only [o_bs]
      rw [q_zg (Or.inl f3)]
      unfold f_X13_readsAll_234
      rw [if_pos f4]
      exact ⟨_, _, _, _, _, _, _, _, _, _, _, _, _, _, _, _, _, _, _, _, _, _, _, _, _, _, _, _, _, _, rfl, rfl, f3, f5, (by refine ⟨?_, ?_, ?_, ?_, ?_, ?_, ?_, ?_, ?_, ?_, ?_, ?_, ?_, ?_, ?_⟩ <;> first | exact FrN.rfl' | exact fr | exact fr.1 | exact fr.2.1 | exact fr.2.2.1 | exact fr.2.2.2.1 | exact fr.2.2.2.2.1 | exact fr.2.2.2.2.2.1 | exact fr.2.2.2.2.2.2.1 | exact fr.2 | exact fr.2.2 | exact fr.2.2.2 | exact fr.2.2.2.2 | exact fr.2.2.2.2.2 | exact fr.2.2.2.2.2.2)⟩
    · right
      rw [g1, g2]
      simp only [o_bs]
      unfold f_X13_readsAll_234
      rw [q_zg1, if_neg n10]
      refine ⟨_, _, _, _, _, _, _, _, _, _, _, _, _, _, _, _, _, _, _, _, _, _, _, _, _, _, _, _, _, _, _, _, _, _, _, _, _, _, _, _, _, _, _, _, _, _, q_place, q_behind, q_kind, q_value, q_letters, q_word, p_place, p_begin, p_token, p_word, p_told, b', e', rfl, rfl, g3, by omega, ?_, (by refine ⟨?_, ?_, ?_, ?_, ?_, ?_, ?_, ?_, ?_, ?_, ?_, ?_, ?_, ?_, ?_⟩ <;> first | exact FrN.rfl' | exact FrN.upd (by omega) | exact FrN.updL (by omega) | exact g6 | exact g7 | exact g8 | exact (fun i hi => g9 i (by omega)))⟩
      have hc : ∀ i, ¬ i = 5 → upd m_city 5 (nI (M + 1)) i = m_city i := fun i hi => pk_un hi
      refine ⟨M + 1, D, Q, ⟨?_, ?_, ?_⟩, fun i hi => ?_, hD, hQ, fun i hi => ?_, ?_, ?_, hL.mono (by omega)⟩
      · rw [show upd m_city 5 (nI (M + 1)) (5 * 1) = nI (M + 1) from pk_us]
        exact hN.1.push g5 g6
      · rw [hc _ (by omega)]; exact hN.2.1
      · rw [hc _ (by omega)]; exact hN.2.2
      · by_cases ei : i = M
        · subst ei
          rw [pk_us, pk_us, pk_us, pk_us, pk_us, pk_us, pk_us, pk_us, nI_toInt (by omega)]
          exact ⟨rfl, rfl, rfl, rfl, by omega, by omega⟩
        · rw [pk_un (show ¬ 6 + i = 6 + M by omega), pk_un (show ¬ 6 + i = 6 + M by omega), pk_un (show ¬ 6 + i = 6 + M by omega), pk_un (show ¬ 6 + i = 6 + M by omega), pk_un ei, pk_un ei, pk_un ei, pk_un ei]
          exact hM i (by omega)
      · obtain ⟨H, y1, y2, y3, y4⟩ := hH i hi
        refine ⟨H, y1, y2, fun z => y3 (by omega), fun z => ?_⟩
        by_cases ei : i = M
        · subst ei; rw [pk_us, y3 (Nat.le_refl _)]; rfl
        · rw [pk_un (by omega)]; exact y4 (by omega)
      · rw [hc _ (by omega)]; exact hC
      · rw [hc _ (by omega)]; exact hT
  rw [if_pos (W0.mpr w0)]
  by_cases w4 : k_word = some 4
  · have hen : ∀ {α : Type} (f : Nat → Option α), en k_word f = f 4 := fun f => en_at (by omega) w4
    rw [if_neg (show ¬ k_word = none by rw [w4]; simp), hen, show Int32.ofNat 4 = nI 4 from rfl, q_gd (by omega) (by omega), nI_clamp (by omega), show eSw 4 = 2 by decide, if_neg (by decide), if_pos rfl, if_neg (fun z => W4.mp z w4)]
    rcases consul_line (d_fault := d_fault) (m_wrong := m_wrong) (m_given := m_given) hn hfg hN hC h with ⟨o1, o2, f1, f2, f3, f4, f5, fr⟩ | ⟨co, m8, many, gi, q_place, q_behind, q_kind, q_value, q_letters, q_word, p_place, p_begin, p_token, p_word, p_told, b', e', g1, g2, g3, g4, g5⟩
    · left
      rw [f1, f2]
      simp only [o_bs]
      rw [q_zg (Or.inl f3)]
      unfold f_X13_readsAll_234
      rw [if_pos f4]
      exact ⟨_, _, _, _, _, _, _, _, _, _, _, _, _, _, _, _, _, _, _, _, _, _, _, _, _, _, _, _, _, _, rfl, rfl, f3, f5, (by refine ⟨?_, ?_, ?_, ?_, ?_, ?_, ?_, ?_, ?_, ?_, ?_, ?_, ?_, ?_, ?_⟩ <;> first | exact FrN.rfl' | exact fr | exact fr.1 | exact fr.2.1 | exact fr.2.2.1 | exact fr.2.2.2.1 | exact fr.2.2.2.2.1 | exact fr.2.2.2.2.2.1 | exact fr.2.2.2.2.2.2.1 | exact fr.2 | exact fr.2.2 | exact fr.2.2.2 | exact fr.2.2.2.2 | exact fr.2.2.2.2.2 | exact fr.2.2.2.2.2.2)⟩
    · right
      rw [g1, g2]
      simp only [o_bs]
      unfold f_X13_readsAll_234
      rw [q_zg1, if_neg n10]
      refine ⟨_, _, _, _, _, _, _, _, _, _, _, _, _, _, _, _, _, _, _, _, _, _, _, _, _, _, _, _, _, _, _, _, _, _, _, _, _, _, _, _, _, _, _, _, _, _, q_place, q_behind, q_kind, q_value, q_letters, q_word, p_place, p_begin, p_token, p_word, p_told, b', e', rfl, rfl, g3, by omega, ?_, (by refine ⟨?_, ?_, ?_, ?_, ?_, ?_, ?_, ?_, ?_, ?_, ?_, ?_, ?_, ?_, ?_⟩ <;> first | exact FrN.rfl' | exact FrN.upd (by omega) | exact FrN.updL (by omega) | exact g6 | exact g7 | exact g8 | exact (fun i hi => g9 i (by omega)))⟩
      have hc : ∀ i, ¬ i = 8 → upd m_city 8 m8 i = m_city i := fun i hi => pk_un hi
      refine ⟨M, D, Q, ⟨?_, ?_, ?_⟩, hM, hD, hQ, hH, ?_, ?_, hL.mono (by omega)⟩
      · rw [hc _ (by omega)]; exact hN.1
      · rw [hc _ (by omega)]; exact hN.2.1
      · rw [hc _ (by omega)]; exact hN.2.2
      · rw [pk_us]; exact g5
      · rw [hc _ (by omega)]; exact hT
  rw [if_pos (W4.mpr w4)]
  by_cases w5 : k_word = some 5
  · have hen : ∀ {α : Type} (f : Nat → Option α), en k_word f = f 5 := fun f => en_at (by omega) w5
    rw [if_neg (show ¬ k_word = none by rw [w5]; simp), hen, show Int32.ofNat 5 = nI 5 from rfl, q_gd (by omega) (by omega), nI_clamp (by omega), show eSw 5 = 3 by decide, if_neg (by decide), if_neg (by decide), if_pos rfl, if_neg (fun z => W5.mp z w5)]
    rcases hates_line (d_fault := d_fault) (m_wrong := m_wrong) (m_given := m_given) hn hfg hN hH h with ⟨o1, o2, f1, f2, f3, f4, f5, fr⟩ | ⟨hc, hm, gi, q_place, q_behind, q_kind, q_value, q_letters, q_word, p_place, p_begin, p_token, p_word, p_told, b', e', g1, g2, g3, g4, g5, g6⟩
    · left
      rw [f1, f2]
      simp only [o_bs]
      rw [q_zg (Or.inl f3)]
      unfold f_X13_readsAll_234
      rw [if_pos f4]
      exact ⟨_, _, _, _, _, _, _, _, _, _, _, _, _, _, _, _, _, _, _, _, _, _, _, _, _, _, _, _, _, _, rfl, rfl, f3, f5, (by refine ⟨?_, ?_, ?_, ?_, ?_, ?_, ?_, ?_, ?_, ?_, ?_, ?_, ?_, ?_, ?_⟩ <;> first | exact FrN.rfl' | exact fr | exact fr.1 | exact fr.2.1 | exact fr.2.2.1 | exact fr.2.2.2.1 | exact fr.2.2.2.2.1 | exact fr.2.2.2.2.2.1 | exact fr.2.2.2.2.2.2.1 | exact fr.2 | exact fr.2.2 | exact fr.2.2.2 | exact fr.2.2.2.2 | exact fr.2.2.2.2.2 | exact fr.2.2.2.2.2.2)⟩
    · right
      rw [g1, g2]
      simp only [o_bs]
      unfold f_X13_readsAll_234
      rw [q_zg1, if_neg n10]
      refine ⟨_, _, _, _, _, _, _, _, _, _, _, _, _, _, _, _, _, _, _, _, _, _, _, _, _, _, _, _, _, _, _, _, _, _, _, _, _, _, _, _, _, _, _, _, _, _, q_place, q_behind, q_kind, q_value, q_letters, q_word, p_place, p_begin, p_token, p_word, p_told, b', e', rfl, rfl, g3, by omega, ?_, (by refine ⟨?_, ?_, ?_, ?_, ?_, ?_, ?_, ?_, ?_, ?_, ?_, ?_, ?_, ?_, ?_⟩ <;> first | exact FrN.rfl' | exact FrN.upd (by omega) | exact FrN.updL (by omega) | exact g6 | exact g7 | exact g8 | exact (fun i hi => g9 i (by omega)))⟩
      exact ⟨M, D, Q, hN, hM, hD, hQ, g5, hC, hT, hL.mono (by omega)⟩
  rw [if_pos (W5.mpr w5)]
  by_cases w6 : k_word = some 6
  · have hen : ∀ {α : Type} (f : Nat → Option α), en k_word f = f 6 := fun f => en_at (by omega) w6
    rw [if_neg (show ¬ k_word = none by rw [w6]; simp), hen, show Int32.ofNat 6 = nI 6 from rfl, q_gd (by omega) (by omega), nI_clamp (by omega), show eSw 6 = 4 by decide, if_neg (by decide), if_neg (by decide), if_neg (by decide), if_pos rfl, if_neg (fun z => W6.mp z w6)]
    rcases danger_line (d_fault := d_fault) (m_wrong := m_wrong) (m_given := m_given) (m_fresh := m_fresh) (c_sizes := c_sizes) (c_grows := c_grows) (m_sizeTold := m_sizeTold) (m_grows := m_grows) hn hfg hN h with ⟨o1, o2, f1, f2, f3, f4, f5, fr⟩ | ⟨v1, v2, x, w, fr, gi, q_place, q_behind, q_kind, q_value, q_letters, q_word, p_place, p_begin, p_token, p_word, p_told, b', e', g1, g2, g3, g4, g5, g6, g7, g8⟩
    · left
      rw [f1, f2]
      simp only [o_bs]
      rw [q_zg (Or.inl f3)]
      unfold f_X13_readsAll_234
      rw [if_pos f4]
      exact ⟨_, _, _, _, _, _, _, _, _, _, _, _, _, _, _, _, _, _, _, _, _, _, _, _, _, _, _, _, _, _, rfl, rfl, f3, f5, (by refine ⟨?_, ?_, ?_, ?_, ?_, ?_, ?_, ?_, ?_, ?_, ?_, ?_, ?_, ?_, ?_⟩ <;> first | exact FrN.rfl' | exact fr | exact fr.1 | exact fr.2.1 | exact fr.2.2.1 | exact fr.2.2.2.1 | exact fr.2.2.2.2.1 | exact fr.2.2.2.2.2.1 | exact fr.2.2.2.2.2.2.1 | exact fr.2 | exact fr.2.2 | exact fr.2.2.2 | exact fr.2.2.2.2 | exact fr.2.2.2.2.2 | exact fr.2.2.2.2.2.2)⟩
    · right
      rw [g1, g2]
      simp only [o_bs]
      unfold f_X13_readsAll_234
      rw [q_zg1, if_neg n10]
      refine ⟨_, _, _, _, _, _, _, _, _, _, _, _, _, _, _, _, _, _, _, _, _, _, _, _, _, _, _, _, _, _, _, _, _, _, _, _, _, _, _, _, _, _, _, _, _, _, q_place, q_behind, q_kind, q_value, q_letters, q_word, p_place, p_begin, p_token, p_word, p_told, b', e', rfl, rfl, g3, by omega, ?_, (by refine ⟨?_, ?_, ?_, ?_, ?_, ?_, ?_, ?_, ?_, ?_, ?_, ?_, ?_, ?_, ?_⟩ <;> first | exact FrN.rfl' | exact FrN.upd (by omega) | exact FrN.updL (by omega) | exact g6 | exact g7 | exact g8 | exact (fun i hi => g9 i (by omega)))⟩
      have hc : ∀ i, ¬ i = 6 → upd m_city 6 (nI (D + 1)) i = m_city i := fun i hi => pk_un hi
      refine ⟨M, D + 1, Q, ⟨?_, ?_, ?_⟩, hM, fun i hi => ?_, hQ, hH, ?_, ?_, hL.mono (by omega)⟩
      · rw [hc _ (by omega)]; exact hN.1
      · rw [show upd m_city 6 (nI (D + 1)) (5 * 1 + 1) = nI (D + 1) from pk_us]
        exact hN.2.1.push g5 g6
      · rw [hc _ (by omega)]; exact hN.2.2
      · by_cases ei : i = D
        · subst ei
          rw [pk_us, pk_us, pk_us, pk_us, nI_toInt (by omega), nI_toInt (by omega)]
          exact ⟨rfl, rfl, by omega, by omega, by omega, by omega⟩
        · rw [pk_un (show ¬ 5 + i = 5 + D by omega), pk_un (show ¬ 5 + i = 5 + D by omega), pk_un ei, pk_un ei]
          exact hD i (by omega)
      · rw [hc _ (by omega)]; exact hC
      · rw [hc _ (by omega)]; exact hT
  rw [if_pos (W6.mpr w6)]
  by_cases w9 : k_word = some 9
  · have hen : ∀ {α : Type} (f : Nat → Option α), en k_word f = f 9 := fun f => en_at (by omega) w9
    rw [if_neg (show ¬ k_word = none by rw [w9]; simp), hen, show Int32.ofNat 9 = nI 9 from rfl, q_gd (by omega) (by omega), nI_clamp (by omega), show eSw 9 = 5 by decide, if_neg (by decide), if_neg (by decide), if_neg (by decide), if_neg (by decide), if_pos rfl, if_neg (fun z => W9.mp z w9)]
    rcases decree_line (d_fault := d_fault) (m_wrong := m_wrong) (m_fresh := m_fresh) (c_grounds := c_grounds) (m_restsOn := m_restsOn) hn hfg hN h with ⟨o1, o2, f1, f2, f3, f4, f5, fr⟩ | ⟨U, x, w, fr, ro, q_place, q_behind, q_kind, q_value, q_letters, q_word, p_place, p_begin, p_token, p_word, p_told, b', e', g1, g2, g3, g4, g5, g6, g7, g8, g9⟩
    · left
      rw [f1, f2]
      simp only [o_bs]
      rw [q_zg (Or.inl f3)]
      unfold f_X13_readsAll_234
      rw [if_pos f4]
      exact ⟨_, _, _, _, _, _, _, _, _, _, _, _, _, _, _, _, _, _, _, _, _, _, _, _, _, _, _, _, _, _, rfl, rfl, f3, f5, (by refine ⟨?_, ?_, ?_, ?_, ?_, ?_, ?_, ?_, ?_, ?_, ?_, ?_, ?_, ?_, ?_⟩ <;> first | exact FrN.rfl' | exact fr | exact fr.1 | exact fr.2.1 | exact fr.2.2.1 | exact fr.2.2.2.1 | exact fr.2.2.2.2.1 | exact fr.2.2.2.2.2.1 | exact fr.2.2.2.2.2.2.1 | exact fr.2 | exact fr.2.2 | exact fr.2.2.2 | exact fr.2.2.2.2 | exact fr.2.2.2.2.2 | exact fr.2.2.2.2.2.2)⟩
    · right
      rw [g1, g2]
      simp only [o_bs]
      unfold f_X13_readsAll_234
      rw [q_zg1, if_neg n10]
      refine ⟨_, _, _, _, _, _, _, _, _, _, _, _, _, _, _, _, _, _, _, _, _, _, _, _, _, _, _, _, _, _, _, _, _, _, _, _, _, _, _, _, _, _, _, _, _, _, q_place, q_behind, q_kind, q_value, q_letters, q_word, p_place, p_begin, p_token, p_word, p_told, b', e', rfl, rfl, g3, by omega, ?_, (by refine ⟨?_, ?_, ?_, ?_, ?_, ?_, ?_, ?_, ?_, ?_, ?_, ?_, ?_, ?_, ?_⟩ <;> first | exact FrN.rfl' | exact FrN.upd (by omega) | exact FrN.updL (by omega) | exact g6 | exact g7 | exact g8 | exact (fun i hi => g9 i (by omega)))⟩
      have hc : ∀ i, ¬ i = 7 → upd m_city 7 (nI (Q + 1)) i = m_city i := fun i hi => pk_un hi
      refine ⟨M, D, Q + 1, ⟨?_, ?_, ?_⟩, hM, hD, fun i hi => ?_, hH, ?_, ?_, hL.mono (by omega)⟩
      · rw [hc _ (by omega)]; exact hN.1
      · rw [hc _ (by omega)]; exact hN.2.1
      · rw [show upd m_city 7 (nI (Q + 1)) (5 * 1 + 2) = nI (Q + 1) from pk_us]
        exact hN.2.2.push g5 g6
      · by_cases ei : i = Q
        · subst ei
          rw [pk_us]; exact g8
        · rw [g9 (6 + i) (by omega), pk_un ei]
          exact hQ i (by omega)
      · rw [hc _ (by omega)]; exact hC
      · rw [hc _ (by omega)]; exact hT
  rw [if_pos (W9.mpr w9)]
  by_cases w11 : k_word = some 11
  · have hen : ∀ {α : Type} (f : Nat → Option α), en k_word f = f 11 := fun f => en_at (by omega) w11
    rw [if_neg (show ¬ k_word = none by rw [w11]; simp), hen, show Int32.ofNat 11 = nI 11 from rfl, q_gd (by omega) (by omega), nI_clamp (by omega), show eSw 11 = 6 by decide, if_neg (by decide), if_neg (by decide), if_neg (by decide), if_neg (by decide), if_neg (by decide), if_pos rfl, if_neg (fun z => W11.mp z w11)]
    rcases term_line (d_fault := d_fault) (m_wrong := m_wrong) (m_given := m_given) hn hfg hT h w11 with ⟨o1, o2, f1, f2, f3, f4, f5, fr⟩ | ⟨te, tt, m9, tl, gi, q_place, q_behind, q_kind, q_value, q_letters, q_word, p_place, p_begin, p_token, p_word, p_told, b', e', g1, g2, g3, g4, g5⟩
    · left
      rw [f1, f2]
      simp only [o_bs]
      rw [q_zg (Or.inl f3)]
      unfold f_X13_readsAll_234
      rw [if_pos f4]
      exact ⟨_, _, _, _, _, _, _, _, _, _, _, _, _, _, _, _, _, _, _, _, _, _, _, _, _, _, _, _, _, _, rfl, rfl, f3, f5, (by refine ⟨?_, ?_, ?_, ?_, ?_, ?_, ?_, ?_, ?_, ?_, ?_, ?_, ?_, ?_, ?_⟩ <;> first | exact FrN.rfl' | exact fr | exact fr.1 | exact fr.2.1 | exact fr.2.2.1 | exact fr.2.2.2.1 | exact fr.2.2.2.2.1 | exact fr.2.2.2.2.2.1 | exact fr.2.2.2.2.2.2.1 | exact fr.2 | exact fr.2.2 | exact fr.2.2.2 | exact fr.2.2.2.2 | exact fr.2.2.2.2.2 | exact fr.2.2.2.2.2.2)⟩
    · right
      rw [g1, g2]
      simp only [o_bs]
      unfold f_X13_readsAll_234
      rw [q_zg1, if_neg n10]
      refine ⟨_, _, _, _, _, _, _, _, _, _, _, _, _, _, _, _, _, _, _, _, _, _, _, _, _, _, _, _, _, _, _, _, _, _, _, _, _, _, _, _, _, _, _, _, _, _, q_place, q_behind, q_kind, q_value, q_letters, q_word, p_place, p_begin, p_token, p_word, p_told, b', e', rfl, rfl, g3, by omega, ?_, (by refine ⟨?_, ?_, ?_, ?_, ?_, ?_, ?_, ?_, ?_, ?_, ?_, ?_, ?_, ?_, ?_⟩ <;> first | exact FrN.rfl' | exact FrN.upd (by omega) | exact FrN.updL (by omega) | exact g6 | exact g7 | exact g8 | exact (fun i hi => g9 i (by omega)))⟩
      have hc : ∀ i, ¬ i = 9 → upd m_city 9 m9 i = m_city i := fun i hi => pk_un hi
      refine ⟨M, D, Q, ⟨?_, ?_, ?_⟩, hM, hD, hQ, hH, ?_, ?_, hL.mono (by omega)⟩
      · rw [hc _ (by omega)]; exact hN.1
      · rw [hc _ (by omega)]; exact hN.2.1
      · rw [hc _ (by omega)]; exact hN.2.2
      · rw [hc _ (by omega)]; exact hC
      · rw [pk_us]; exact g5
  rw [if_pos (W11.mpr w11)]
  by_cases w12 : k_word = some 12
  · have hen : ∀ {α : Type} (f : Nat → Option α), en k_word f = f 12 := fun f => en_at (by omega) w12
    rw [if_neg (show ¬ k_word = none by rw [w12]; simp), hen, show Int32.ofNat 12 = nI 12 from rfl, q_gd (by omega) (by omega), nI_clamp (by omega), show eSw 12 = 7 by decide, if_neg (by decide), if_neg (by decide), if_neg (by decide), if_neg (by decide), if_neg (by decide), if_neg (by decide), if_pos rfl, if_neg (fun z => W12.mp z w12)]
    rcases law_line (d_fault := d_fault) (m_wrong := m_wrong) (m_lawLine := m_lawLine) (m_opened := m_opened) (m_compared := m_compared) hn hfg hL h hk (li := 0) (y := 0) (by omega) rfl with ⟨o1, o2, f1, f2, f3, f4, f5, fr⟩ | ⟨ops, sz, wF, wT, kF, kT, lf, lt', co, cd, ll, op, cm, q_place, q_behind, q_kind, q_value, q_letters, q_word, p_place, p_begin, p_token, p_word, p_told, b', e', g1, g2, g3, g4, g5, g6, g7, g8⟩
    · left
      rw [f1, f2]
      simp only [o_bs]
      rw [q_zg (Or.inl f3)]
      unfold f_X13_readsAll_234
      rw [if_pos f4]
      exact ⟨_, _, _, _, _, _, _, _, _, _, _, _, _, _, _, _, _, _, _, _, _, _, _, _, _, _, _, _, _, _, rfl, rfl, f3, f5, (by refine ⟨?_, ?_, ?_, ?_, ?_, ?_, ?_, ?_, ?_, ?_, ?_, ?_, ?_, ?_, ?_⟩ <;> first | exact FrN.rfl' | exact fr | exact fr.1 | exact fr.2.1 | exact fr.2.2.1 | exact fr.2.2.2.1 | exact fr.2.2.2.2.1 | exact fr.2.2.2.2.2.1 | exact fr.2.2.2.2.2.2.1 | exact fr.2 | exact fr.2.2 | exact fr.2.2.2 | exact fr.2.2.2.2 | exact fr.2.2.2.2.2 | exact fr.2.2.2.2.2.2)⟩
    · right
      rw [g1, g2]
      simp only [o_bs]
      unfold f_X13_readsAll_234
      rw [q_zg1, if_neg n10]
      refine ⟨_, _, _, _, _, _, _, _, _, _, _, _, _, _, _, _, _, _, _, _, _, _, _, _, _, _, _, _, _, _, _, _, _, _, _, _, _, _, _, _, _, _, _, _, _, _, q_place, q_behind, q_kind, q_value, q_letters, q_word, p_place, p_begin, p_token, p_word, p_told, b', e', rfl, rfl, g3, by omega, ?_, (by refine ⟨?_, ?_, ?_, ?_, ?_, ?_, ?_, ?_, ?_, ?_, ?_, ?_, ?_, ?_, ?_⟩ <;> first | exact FrN.rfl' | exact FrN.upd (by omega) | exact FrN.updL (by omega) | exact g6 | exact g7 | exact g8 | exact (fun i hi => g9 i (by omega)))⟩
      exact ⟨M, D, Q, hN, hM, hD, hQ, hH, hC, hT, g5⟩
  rw [if_pos (W12.mpr w12)]
  by_cases w13 : k_word = some 13
  · have hen : ∀ {α : Type} (f : Nat → Option α), en k_word f = f 13 := fun f => en_at (by omega) w13
    rw [if_neg (show ¬ k_word = none by rw [w13]; simp), hen, show Int32.ofNat 13 = nI 13 from rfl, q_gd (by omega) (by omega), nI_clamp (by omega), show eSw 13 = 8 by decide, if_neg (by decide), if_neg (by decide), if_neg (by decide), if_neg (by decide), if_neg (by decide), if_neg (by decide), if_neg (by decide), if_pos rfl, if_neg (fun z => W13.mp z w13)]
    rcases law_line (d_fault := d_fault) (m_wrong := m_wrong) (m_lawLine := m_lawLine) (m_opened := m_opened) (m_compared := m_compared) hn hfg hL h hk (li := 1) (y := 1) (by omega) rfl with ⟨o1, o2, f1, f2, f3, f4, f5, fr⟩ | ⟨ops, sz, wF, wT, kF, kT, lf, lt', co, cd, ll, op, cm, q_place, q_behind, q_kind, q_value, q_letters, q_word, p_place, p_begin, p_token, p_word, p_told, b', e', g1, g2, g3, g4, g5, g6, g7, g8⟩
    · left
      rw [f1, f2]
      simp only [o_bs]
      rw [q_zg (Or.inl f3)]
      unfold f_X13_readsAll_234
      rw [if_pos f4]
      exact ⟨_, _, _, _, _, _, _, _, _, _, _, _, _, _, _, _, _, _, _, _, _, _, _, _, _, _, _, _, _, _, rfl, rfl, f3, f5, (by refine ⟨?_, ?_, ?_, ?_, ?_, ?_, ?_, ?_, ?_, ?_, ?_, ?_, ?_, ?_, ?_⟩ <;> first | exact FrN.rfl' | exact fr | exact fr.1 | exact fr.2.1 | exact fr.2.2.1 | exact fr.2.2.2.1 | exact fr.2.2.2.2.1 | exact fr.2.2.2.2.2.1 | exact fr.2.2.2.2.2.2.1 | exact fr.2 | exact fr.2.2 | exact fr.2.2.2 | exact fr.2.2.2.2 | exact fr.2.2.2.2.2 | exact fr.2.2.2.2.2.2)⟩
    · right
      rw [g1, g2]
      simp only [o_bs]
      unfold f_X13_readsAll_234
      rw [q_zg1, if_neg n10]
      refine ⟨_, _, _, _, _, _, _, _, _, _, _, _, _, _, _, _, _, _, _, _, _, _, _, _, _, _, _, _, _, _, _, _, _, _, _, _, _, _, _, _, _, _, _, _, _, _, q_place, q_behind, q_kind, q_value, q_letters, q_word, p_place, p_begin, p_token, p_word, p_told, b', e', rfl, rfl, g3, by omega, ?_, (by refine ⟨?_, ?_, ?_, ?_, ?_, ?_, ?_, ?_, ?_, ?_, ?_, ?_, ?_, ?_, ?_⟩ <;> first | exact FrN.rfl' | exact FrN.upd (by omega) | exact FrN.updL (by omega) | exact g6 | exact g7 | exact g8 | exact (fun i hi => g9 i (by omega)))⟩
      exact ⟨M, D, Q, hN, hM, hD, hQ, hH, hC, hT, g5⟩
  rw [if_pos (W13.mpr w13)]
  left
  have hb := bad w0 w4 w5 w6 w9 w11 w12 w13
  by_cases hnn : k_word = none
  · rw [if_pos hnn]; exact hb
  · obtain ⟨i, hi⟩ : ∃ i, k_word = some i := by
      cases hw : k_word with
      | none => exact absurd hw hnn
      | some i => exact ⟨i, rfl⟩
    have hi32 : i < 32 := by
      have := h.wok
      rw [hi] at this
      exact of_decide_eq_true this
    have hen : ∀ {α : Type} (f : Nat → Option α), en k_word f = f i := fun f => by rw [hi]; exact if_pos hi32
    rw [if_neg hnn, hen, show Int32.ofNat i = nI i from rfl, q_gd hi32 (by omega), nI_clamp (by omega), eSw_0 i hi32 ⟨fun z => w0 (by rw [hi, z]), fun z => w4 (by rw [hi, z]), fun z => w5 (by rw [hi, z]), fun z => w6 (by rw [hi, z]), fun z => w9 (by rw [hi, z]), fun z => w11 (by rw [hi, z]), fun z => w12 (by rw [hi, z]), fun z => w13 (by rw [hi, z])⟩, if_neg (by decide), if_neg (by decide), if_neg (by decide), if_neg (by decide), if_neg (by decide), if_neg (by decide), if_neg (by decide), if_neg (by decide)]
    exact hb
end
