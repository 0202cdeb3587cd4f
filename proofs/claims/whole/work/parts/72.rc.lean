/-! the city that was read, laid: one city -/
/-- the rows that count are as they were -/
def FrC (m_city m_kind m_skill m_fieldTold m_want m_hates m_restsOn m_sizeTold m_grows : Nat → Int32) (m_lineFrom m_lineTo m_codes : Nat → Int32) (v_city v_kind v_skill v_fieldTold v_want v_hates v_restsOn v_sizeTold v_grows : Nat → Int32) (v_lineFrom v_lineTo v_codes : Nat → Int32) : Prop := FrN 5 m_city v_city ∧ FrN 6 m_kind v_kind ∧ FrN 6 m_skill v_skill ∧ FrN 6 m_fieldTold v_fieldTold ∧ FrN 6 m_want v_want ∧ FrN 6 m_hates v_hates ∧ FrN 6 m_restsOn v_restsOn ∧ FrN 5 m_sizeTold v_sizeTold ∧ FrN 5 m_grows v_grows ∧ FrN 2 m_lineFrom v_lineFrom ∧ FrN 2 m_lineTo v_lineTo ∧ FrN 1000 m_codes v_codes
/-- one city in both, whatever lies behind the rows that count -/
def RCF (M D Q : Nat) (sv kv : Nat → Int32 → Int32 → Int32) (c_men c_consuls c_dangers c_decrees c_term : Int32) (c_kinds c_skills c_fields c_wants c_hated c_sizes c_grows c_grounds : Nat → Int32) (l_ops : Nat → Int32) (l_worksFrom l_worksTo l_keepsFrom l_keepsTo : Int32) (m_city m_kind m_skill m_fieldTold m_want m_hates m_restsOn m_sizeTold m_grows : Nat → Int32) (m_lineFrom m_lineTo m_codes : Nat → Int32) : Prop := ∀ (v_city v_kind v_skill v_fieldTold v_want v_hates v_restsOn v_sizeTold v_grows : Nat → Int32) (v_lineFrom v_lineTo v_codes : Nat → Int32), FrC m_city m_kind m_skill m_fieldTold m_want m_hates m_restsOn m_sizeTold m_grows m_lineFrom m_lineTo m_codes v_city v_kind v_skill v_fieldTold v_want v_hates v_restsOn v_sizeTold v_grows v_lineFrom v_lineTo v_codes → RC M D Q sv kv c_men c_consuls c_dangers c_decrees c_term c_kinds c_skills c_fields c_wants c_hated c_sizes c_grows c_grounds l_ops l_worksFrom l_worksTo l_keepsFrom l_keepsTo v_city v_kind v_skill v_fieldTold v_want v_hates v_restsOn v_sizeTold v_grows v_lineFrom v_lineTo v_codes
section
variable {M D Q : Nat} {sv kv : Nat → Int32 → Int32 → Int32} {c_men c_consuls c_dangers c_decrees c_term : Int32} {c_kinds c_skills c_fields c_wants c_hated c_sizes c_grows c_grounds : Nat → Int32} {c_manNames c_dangerNames c_decreeNames : Nat → Int64} {l_ops : Nat → Int32} {l_worksFrom l_worksTo l_keepsFrom l_keepsTo : Int32} {m_city : Nat → Int32} {m_manName m_dangerName m_decreeName : Nat → Int64} {m_kind m_skill m_fieldTold m_want m_hates m_restsOn m_sizeTold m_grows m_lineFrom m_lineTo m_codes : Nat → Int32} {m_code m_lawLine m_toldLines : Int32} {m_opened m_compared : Nat → Int32} {m_given : Int32} {m_fresh : Int64} {m_consulsMany : Int32} {v_city : Nat → Int32} {v_manName v_dangerName v_decreeName : Nat → Int64} {v_kind v_skill v_fieldTold v_want v_hates v_restsOn v_sizeTold v_grows v_lineFrom v_lineTo v_codes : Nat → Int32} {v_code v_lawLine v_toldLines : Int32} {v_opened v_compared : Nat → Int32} {v_given : Int32} {v_fresh : Int64} {v_consulsMany : Int32}
theorem RCF.rc (h : RCF M D Q sv kv c_men c_consuls c_dangers c_decrees c_term c_kinds c_skills c_fields c_wants c_hated c_sizes c_grows c_grounds l_ops l_worksFrom l_worksTo l_keepsFrom l_keepsTo m_city m_kind m_skill m_fieldTold m_want m_hates m_restsOn m_sizeTold m_grows m_lineFrom m_lineTo m_codes) : RC M D Q sv kv c_men c_consuls c_dangers c_decrees c_term c_kinds c_skills c_fields c_wants c_hated c_sizes c_grows c_grounds l_ops l_worksFrom l_worksTo l_keepsFrom l_keepsTo m_city m_kind m_skill m_fieldTold m_want m_hates m_restsOn m_sizeTold m_grows m_lineFrom m_lineTo m_codes := h _ _ _ _ _ _ _ _ _ _ _ _ ⟨FrN.rfl', FrN.rfl', FrN.rfl', FrN.rfl', FrN.rfl', FrN.rfl', FrN.rfl', FrN.rfl', FrN.rfl', FrN.rfl', FrN.rfl', FrN.rfl'⟩
theorem RCF.fr (h : RCF M D Q sv kv c_men c_consuls c_dangers c_decrees c_term c_kinds c_skills c_fields c_wants c_hated c_sizes c_grows c_grounds l_ops l_worksFrom l_worksTo l_keepsFrom l_keepsTo m_city m_kind m_skill m_fieldTold m_want m_hates m_restsOn m_sizeTold m_grows m_lineFrom m_lineTo m_codes) (hF : FrA m_city m_manName m_dangerName m_decreeName m_kind m_skill m_fieldTold m_want m_hates m_restsOn m_sizeTold m_grows m_lineFrom m_lineTo m_codes m_code m_lawLine m_toldLines m_opened m_compared m_given m_fresh m_consulsMany v_city v_manName v_dangerName v_decreeName v_kind v_skill v_fieldTold v_want v_hates v_restsOn v_sizeTold v_grows v_lineFrom v_lineTo v_codes v_code v_lawLine v_toldLines v_opened v_compared v_given v_fresh v_consulsMany) : RCF M D Q sv kv c_men c_consuls c_dangers c_decrees c_term c_kinds c_skills c_fields c_wants c_hated c_sizes c_grows c_grounds l_ops l_worksFrom l_worksTo l_keepsFrom l_keepsTo v_city v_kind v_skill v_fieldTold v_want v_hates v_restsOn v_sizeTold v_grows v_lineFrom v_lineTo v_codes := by
  obtain ⟨a0, a1, a2, a3, a4, a5, a6, a7, a8, a9, a10, a11, a12, a13, a14⟩ := hF
  intro w0 w1 w2 w3 w4 w5 w6 w7 w8 w9 w10 w11 hw
  obtain ⟨b0, b1, b2, b3, b4, b5, b6, b7, b8, b9, b10, b11⟩ := hw
  exact h _ _ _ _ _ _ _ _ _ _ _ _ ⟨a0.trans b0, a4.trans b1, a5.trans b2, a6.trans b3, a7.trans b4, a8.trans b5, a9.trans b6, a10.trans b7, a11.trans b8, a12.trans b9, a13.trans b10, a14.trans b11⟩
theorem NM.fr {N o k : Nat} {cn mn mn' : Int32} {f g g' : Nat → Int64} (h : NM N 0 o cn f mn g) (ho : o ≤ k) (hm : mn' = mn) (hg : FrN k g g') : NM N 0 o cn f mn' g' := by
  obtain ⟨h1, h2, h3, h4⟩ := h
  refine ⟨h1, h2, by rw [hm]; exact h3, fun i hi => ?_⟩
  rw [hg _ (by rw [Nat.mul_zero]; omega)]
  exact h4 i hi
theorem RN.fr (h : RN M D Q 0 c_men c_dangers c_decrees c_manNames c_dangerNames c_decreeNames m_city m_manName m_dangerName m_decreeName) (hF : FrA m_city m_manName m_dangerName m_decreeName m_kind m_skill m_fieldTold m_want m_hates m_restsOn m_sizeTold m_grows m_lineFrom m_lineTo m_codes m_code m_lawLine m_toldLines m_opened m_compared m_given m_fresh m_consulsMany v_city v_manName v_dangerName v_decreeName v_kind v_skill v_fieldTold v_want v_hates v_restsOn v_sizeTold v_grows v_lineFrom v_lineTo v_codes v_code v_lawLine v_toldLines v_opened v_compared v_given v_fresh v_consulsMany) : RN M D Q 0 c_men c_dangers c_decrees c_manNames c_dangerNames c_decreeNames v_city v_manName v_dangerName v_decreeName := by
  obtain ⟨a0, a1, a2, a3, _⟩ := hF
  exact ⟨h.1.fr (Nat.le_refl _) (a0 _ (by omega)) a1, h.2.1.fr (Nat.le_refl _) (a0 _ (by omega)) a2, h.2.2.fr (Nat.le_refl _) (a0 _ (by omega)) a3⟩
end
section
variable {c_men c_consuls c_dangers c_decrees c_term c_termTold : Int32} {c_manNames : Nat → Int64} {c_kinds c_skills c_fields c_wants c_hated : Nat → Int32} {c_dangerNames : Nat → Int64} {c_sizes c_grows : Nat → Int32} {c_decreeNames : Nat → Int64} {c_grounds : Nat → Int32} {l_ops : Nat → Int32} {l_size l_worksFrom l_worksTo l_keepsFrom l_keepsTo : Int32} {m_city : Nat → Int32} {m_manName m_dangerName m_decreeName : Nat → Int64} {m_kind m_skill m_fieldTold m_want m_hates m_restsOn m_sizeTold m_grows m_lineFrom m_lineTo m_codes : Nat → Int32} {m_code m_lawLine m_toldLines : Int32} {m_opened m_compared : Nat → Int32} {m_given : Int32} {m_fresh : Int64} {m_consulsMany : Int32} {b : Nat}
theorem NM.shift {N o : Nat} {cn mn : Int32} {f g : Nat → Int64} (h : NM N 1 o cn f mn g) {mn' : Int32} (hm : mn' = mn) : NM N 0 o cn f mn' (shf o g) := by
  obtain ⟨h1, h2, h3, h4⟩ := h
  refine ⟨h1, h2, by rw [hm]; exact h3, fun i hi => ?_⟩
  rw [Nat.mul_zero, Nat.zero_add, shf_lt (by omega)]
  have := h4 i hi
  rwa [Nat.mul_one] at this
theorem rc_of (hb : b ≤ 1000) (h : RD b c_men c_consuls c_dangers c_decrees c_term c_termTold c_manNames c_kinds c_skills c_fields c_wants c_hated c_dangerNames c_sizes c_grows c_decreeNames c_grounds l_ops l_size l_worksFrom l_worksTo l_keepsFrom l_keepsTo m_city m_manName m_dangerName m_decreeName m_kind m_skill m_fieldTold m_want m_hates m_restsOn m_sizeTold m_grows m_lineFrom m_lineTo m_codes m_code m_lawLine m_toldLines m_opened m_compared m_given m_fresh m_consulsMany) : ∃ M D Q sv kv, RCF M D Q sv kv c_men c_consuls c_dangers c_decrees c_term c_kinds c_skills c_fields c_wants c_hated c_sizes c_grows c_grounds l_ops l_worksFrom l_worksTo l_keepsFrom l_keepsTo (shf 5 m_city) (shf 6 m_kind) (shf 6 m_skill) (shf 6 m_fieldTold) (shf 6 m_want) (shf 6 m_hates) (shf 6 m_restsOn) (shf 5 m_sizeTold) (shf 5 m_grows) (upd (upd m_lineFrom 0 (m_lineFrom 2 - 1000)) 1 (m_lineFrom 3 - 1000)) (upd (upd m_lineTo 0 (m_lineTo 2 - 1000)) 1 (m_lineTo 3 - 1000)) (shf 1000 m_codes) ∧ RN M D Q 0 c_men c_dangers c_decrees c_manNames c_dangerNames c_decreeNames (shf 5 m_city) (shf 6 m_manName) (shf 5 m_dangerName) (shf 6 m_decreeName) := by
  obtain ⟨M, D, Q, hN, hM, hD, hQ, hH, hC, hT, hL⟩ := h
  obtain ⟨sz, c, _, _, s1, s2, s3, W0, W1⟩ := hL
  have hM6 := hN.1.1
  have hD5 := hN.2.1.1
  have hQ6 := hN.2.2.1
  have c5 : ∀ i, i < 5 → shf 5 m_city i = m_city (5 + i) := fun i hi => shf_lt hi
  have r6 : ∀ (g : TN) (i : Nat), i < 6 → shf 6 g i = g (6 + i) := fun g i hi => shf_lt hi
  have hk : ∀ i, i < M → shf 6 m_kind i = c_kinds i ∧ shf 6 m_skill i = c_skills i ∧ shf 6 m_want i = c_wants i := fun i hi => by
    obtain ⟨a1, a2, a3, a4, a5⟩ := hM i hi
    rw [r6 _ i (by omega), r6 _ i (by omega), r6 _ i (by omega)]
    exact ⟨a1, a2, a4⟩
  obtain ⟨sv, v1, v2, v3⟩ := sv_ex (l_keepsFrom := l_keepsFrom) (l_keepsTo := l_keepsTo) hM6 (fun i hi => (hM i hi).2.2.2.2) W0 (by omega) (by omega)
  obtain ⟨kv, k1, k2, k3⟩ := kv_ex (c_skills := c_skills) (c_wants := c_wants) (l_worksFrom := l_worksFrom) (l_worksTo := l_worksTo) hM6 W1 (by omega) (by omega)
  obtain ⟨U, V, u1, u2, u3, u4, u5, u6⟩ := hC
  obtain ⟨⟨te, t1, t2, t3, t4⟩, _⟩ := hT
  refine ⟨M, D, Q, sv, kv, fun v_city v_kind v_skill v_fieldTold v_want v_hates v_restsOn v_sizeTold v_grows v_lineFrom v_lineTo v_codes hfr => ?_, hN.1.shift (c5 0 (by omega)), hN.2.1.shift (c5 1 (by omega)), hN.2.2.shift (c5 2 (by omega))⟩
  obtain ⟨f0, f1, f2, f3, f4, f5, f6, f7, f8, f9, f10, f11⟩ := hfr
  have hk' : ∀ i, i < M → v_kind i = c_kinds i ∧ v_skill i = c_skills i ∧ v_want i = c_wants i := fun i hi => by
    rw [f1 i (by omega), f2 i (by omega), f4 i (by omega)]; exact hk i hi
  have hco : ∀ i, i < 1000 → v_codes i = m_codes (1000 + i) := fun i hi => by rw [f11 i hi]; exact shf_lt hi
  refine ⟨⟨hM6, hD5, hQ6⟩, ⟨hN.1.2.1, hN.2.1.2.1, hN.2.2.2.1⟩, ⟨?_, ?_, ?_, ?_, ?_⟩, ?_, fun i hi => ?_, fun i hi => (hM i hi).2.2.2.2, fun i hi => ?_, fun i hi => ?_, v1, k1, v2, k2, v3 _ _ _ _ _ _ hk' (by rw [f9 0 (by omega), pk_un (by omega), pk_us]) (by rw [f10 0 (by omega), pk_un (by omega), pk_us]) hco, k3 _ _ _ _ _ (fun i hi => (hk' i hi).2) (by rw [f9 1 (by omega)]; exact pk_us) (by rw [f10 1 (by omega)]; exact pk_us) hco⟩
  · rw [f0 0 (by omega), c5 0 (by omega)]; exact hN.1.2.2.1
  · rw [f0 1 (by omega), c5 1 (by omega)]; exact hN.2.1.2.2.1
  · rw [f0 2 (by omega), c5 2 (by omega)]; exact hN.2.2.2.2.1
  · rw [f0 3 (by omega), c5 3 (by omega), u3]; exact u4
  · rw [f0 4 (by omega), c5 4 (by omega), t3]; exact t4
  · rw [t3, nI_toInt (by omega)]; omega
  · obtain ⟨a1, a2, a3, a4, a5⟩ := hM i hi
    obtain ⟨H, y1, y2, y3, y4⟩ := hH i (by omega)
    rw [f1 i (by omega), f2 i (by omega), f3 i (by omega), f4 i (by omega), f5 i (by omega), r6 _ i (by omega), r6 _ i (by omega), r6 _ i (by omega), r6 _ i (by omega), r6 _ i (by omega)]
    exact ⟨a1, a2, a3, a4, by rw [y2]; exact y4 hi⟩
  · rw [f7 i (by omega), f8 i (by omega), shf_lt (by omega), shf_lt (by omega)]
    exact hD i hi
  · rw [f6 i (by omega), r6 _ i (by omega)]
    exact hQ i hi
end
