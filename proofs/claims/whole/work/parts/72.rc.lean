/-! the city that was read, laid: one city -/
section
variable {c_men c_consuls c_dangers c_decrees c_term c_termTold : Int32} {c_manNames : Nat → Int64} {c_kinds c_skills c_fields c_wants c_hated : Nat → Int32} {c_dangerNames : Nat → Int64} {c_sizes c_grows : Nat → Int32} {c_decreeNames : Nat → Int64} {c_grounds : Nat → Int32} {l_ops : Nat → Int32} {l_size l_worksFrom l_worksTo l_keepsFrom l_keepsTo : Int32} {m_city : Nat → Int32} {m_manName m_dangerName m_decreeName : Nat → Int64} {m_kind m_skill m_fieldTold m_want m_hates m_restsOn m_sizeTold m_grows m_lineFrom m_lineTo m_codes : Nat → Int32} {m_code m_lawLine m_toldLines : Int32} {m_opened m_compared : Nat → Int32} {m_given : Int32} {m_fresh : Int64} {m_consulsMany : Int32} {b : Nat}
theorem NM.shift {N o : Nat} {cn mn : Int32} {f g : Nat → Int64} (h : NM N 1 o cn f mn g) {mn' : Int32} (hm : mn' = mn) : NM N 0 o cn f mn' (shf o g) := by
  obtain ⟨h1, h2, h3, h4⟩ := h
  refine ⟨h1, h2, by rw [hm]; exact h3, fun i hi => ?_⟩
  rw [Nat.mul_zero, Nat.zero_add, shf_lt (by omega)]
  have := h4 i hi
  rwa [Nat.mul_one] at this
theorem rc_of (hb : b ≤ 1000) (h : RD b c_men c_consuls c_dangers c_decrees c_term c_termTold c_manNames c_kinds c_skills c_fields c_wants c_hated c_dangerNames c_sizes c_grows c_decreeNames c_grounds l_ops l_size l_worksFrom l_worksTo l_keepsFrom l_keepsTo m_city m_manName m_dangerName m_decreeName m_kind m_skill m_fieldTold m_want m_hates m_restsOn m_sizeTold m_grows m_lineFrom m_lineTo m_codes m_code m_lawLine m_toldLines m_opened m_compared m_given m_fresh m_consulsMany) : ∃ M D Q sv kv, RC M D Q sv kv c_men c_consuls c_dangers c_decrees c_term c_kinds c_skills c_fields c_wants c_hated c_sizes c_grows c_grounds l_ops l_worksFrom l_worksTo l_keepsFrom l_keepsTo (shf 5 m_city) (shf 6 m_kind) (shf 6 m_skill) (shf 6 m_fieldTold) (shf 6 m_want) (shf 6 m_hates) (shf 6 m_restsOn) (shf 5 m_sizeTold) (shf 5 m_grows) (upd (upd m_lineFrom 0 (m_lineFrom 2 - 1000)) 1 (m_lineFrom 3 - 1000)) (upd (upd m_lineTo 0 (m_lineTo 2 - 1000)) 1 (m_lineTo 3 - 1000)) (shf 1000 m_codes) ∧ RN M D Q 0 c_men c_dangers c_decrees c_manNames c_dangerNames c_decreeNames (shf 5 m_city) (shf 6 m_manName) (shf 5 m_dangerName) (shf 6 m_decreeName) := by
  obtain ⟨M, D, Q, hN, hM, hD, hQ, hH, hC, hT, hL⟩ := h
  obtain ⟨sz, c, _, _, s1, s2, s3, W0, W1⟩ := hL
  have hM6 := hN.1.1
  have hD5 := hN.2.1.1
  have hQ6 := hN.2.2.1
  have c5 : ∀ i, i < 5 → shf 5 m_city i = m_city (5 + i) := fun i hi => shf_lt hi
  have r6 : ∀ (g : TN) (i : Nat), i < 6 → shf 6 g i = g (6 + i) := fun g i hi => shf_lt hi
  have hk : ∀ i, i < M → shf 6 m_kind i = c_kinds i ∧ shf 6 m_skill i = c_skills i ∧ shf 6 m_want i = c_wants i := fun i hi => by
    obtain ⟨a1, a2, a3, a4, a5⟩ := hM i hi
    rw [r6 _ i (by omega), r6 _ i (by omega), r6 _ i (by omega)]
    exact ⟨a1, a2, a4⟩
  obtain ⟨sv, v1, v2, v3⟩ := sv_ex (l_keepsFrom := l_keepsFrom) (l_keepsTo := l_keepsTo) (lf := upd (upd m_lineFrom 0 (m_lineFrom 2 - 1000)) 1 (m_lineFrom 3 - 1000)) (lt := upd (upd m_lineTo 0 (m_lineTo 2 - 1000)) 1 (m_lineTo 3 - 1000)) hM6 (fun i hi => (hM i hi).2.2.2.2) hk W0 (by omega) (by omega) (by rw [pk_un (by omega), pk_us]) (by rw [pk_un (by omega), pk_us])
  obtain ⟨kv, k1, k2, k3⟩ := kv_ex (l_worksFrom := l_worksFrom) (l_worksTo := l_worksTo) (lf := upd (upd m_lineFrom 0 (m_lineFrom 2 - 1000)) 1 (m_lineFrom 3 - 1000)) (lt := upd (upd m_lineTo 0 (m_lineTo 2 - 1000)) 1 (m_lineTo 3 - 1000)) hM6 (fun i hi => (hk i hi).2) W1 (by omega) (by omega) pk_us pk_us
  obtain ⟨U, V, u1, u2, u3, u4, u5, u6⟩ := hC
  obtain ⟨⟨te, t1, t2, t3, t4⟩, _⟩ := hT
  refine ⟨M, D, Q, sv, kv, ⟨⟨hM6, hD5, hQ6⟩, ⟨hN.1.2.1, hN.2.1.2.1, hN.2.2.2.1⟩, ⟨?_, ?_, ?_, ?_, ?_⟩, ?_, fun i hi => ?_, fun i hi => (hM i hi).2.2.2.2, fun i hi => ?_, fun i hi => ?_, v1, k1, v2, k2, v3, k3⟩, hN.1.shift (c5 0 (by omega)), hN.2.1.shift (c5 1 (by omega)), hN.2.2.shift (c5 2 (by omega))⟩
  · rw [c5 0 (by omega)]; exact hN.1.2.2.1
  · rw [c5 1 (by omega)]; exact hN.2.1.2.2.1
  · rw [c5 2 (by omega)]; exact hN.2.2.2.2.1
  · rw [c5 3 (by omega), u3]; exact u4
  · rw [c5 4 (by omega), t3]; exact t4
  · rw [t3, nI_toInt (by omega)]; omega
  · obtain ⟨a1, a2, a3, a4, a5⟩ := hM i hi
    obtain ⟨H, y1, y2, y3, y4⟩ := hH i (by omega)
    rw [r6 _ i (by omega), r6 _ i (by omega), r6 _ i (by omega), r6 _ i (by omega), r6 _ i (by omega)]
    exact ⟨a1, a2, a3, a4, by rw [y2]; exact y4 hi⟩
  · rw [shf_lt (by omega), shf_lt (by omega)]
    exact hD i hi
  · rw [r6 _ i (by omega)]
    exact hQ i hi
end
