section
variable {s_month s_power s_master s_left s_kept s_passed : Int32} {s_sizes s_fields s_liked : Nat → Int32} {m_s : Nat → Int32} {M D Q : Nat} {sv kv : Nat → Int32 → Int32 → Int32} {c_men c_consuls c_dangers c_decrees c_term : Int32} {c_kinds c_skills c_fields c_wants c_hated c_sizes c_grows c_grounds : Nat → Int32} {l_ops : Nat → Int32} {l_worksFrom l_worksTo l_keepsFrom l_keepsTo : Int32} {m_city m_kind m_skill m_fieldTold m_want m_hates m_restsOn m_sizeTold m_grows : Nat → Int32} {m_lineFrom m_lineTo m_codes : Nat → Int32} {z_kept z_keptBy z_ahead z_against z_sum z_sumBy z_term z_termBy z_byNot z_valueOf : Nat → Int32}
theorem call_anew (hc : RC M D Q sv kv c_men c_consuls c_dangers c_decrees c_term c_kinds c_skills c_fields c_wants c_hated c_sizes c_grows c_grounds l_ops l_worksFrom l_worksTo l_keepsFrom l_keepsTo m_city m_kind m_skill m_fieldTold m_want m_hates m_restsOn m_sizeTold m_grows m_lineFrom m_lineTo m_codes) (x1 x2 : Int32) : ∃ v, (f_X12_anew c_decrees c_grounds x1 x2) = some v ∧ (f_X13_anew m_city m_restsOn x1 x2) = some (v, 0) := by
  obtain ⟨⟨hM, hD, hQ⟩, ⟨rfl, rfl, rfl⟩, ⟨hc0, hc1, hc2, hc3, hc4⟩, hT2, hmm, hsk, hdd, hq, hsv, hkv, hCS, hCK, hMS, hMK⟩ := hc
  unfold f_X12_anew f_X13_anew
  rw [areDec_eq hc2]
  simp only [o_bs, gl_2_10, cl_2, hc2, wth_eq]
  by_cases h : f_X1_hasDecrees (nI Q) x1 = 0
  · rw [if_pos h, if_pos h]; exact ⟨_, rfl, rfl⟩
  · rw [if_neg h, if_neg h]
    rcases wth_cases x2 0 (nI Q - 1) with ⟨e, _⟩ | ⟨e, h1, h2⟩
    · rw [e, if_pos rfl, if_pos rfl]; exact ⟨_, rfl, rfl⟩
    · rw [e, if_neg n10, if_neg n10]
      obtain ⟨j, hj, rfl⟩ := nI_of h1
      have hjQ : j < Q := by
        rw [i_lt, nI_toInt hj, i_sub (by rw [nI_toInt (by omega), t1]; omega), nI_toInt (by omega), t1] at h2
        omega
      obtain ⟨v, g1, g2⟩ := fallen_eq hQ hc2 hq x1
      have key : ∀ (k fu : Nat) (x : Int32), k ≤ Q → k < fu → ∃ w, (f_X1_neededBy_6 fu c_grounds x (dIx k)) = some w ∧ (f_X13_anew_38 fu 0 m_city m_restsOn x1 x (dIx k)) = some (w &&& v, 0) := by
        intro k
        induction k with
        | zero =>
          intro fu x h1 h2
          obtain ⟨fu, rfl⟩ : ∃ g, fu = g + 1 := ⟨fu - 1, by omega⟩
          rw [f_X1_neededBy_6.eq_2, f_X13_anew_38.eq_2]
          rw [dIx_0, if_pos (show (-1 : Int32) < 0 by decide), if_pos (show (-1 : Int32) < 0 by decide), g2]
          exact ⟨x, rfl, rfl⟩
        | succ k ih =>
          intro fu x h1 h2
          obtain ⟨fu, rfl⟩ : ∃ g, fu = g + 1 := ⟨fu - 1, by omega⟩
          rw [f_X1_neededBy_6.eq_2, f_X13_anew_38.eq_2]
          rw [dIx_s]
          have hn : ¬ nI k < 0 := nI_pos (by omega)
          rw [if_neg hn, if_neg hn]
          simp (disch := omega) only [q_ga, q_gd, nI_clamp, dIx_m1, hq k (by omega), Int32.or_zero]
          split
          · exact ih fu _ (by omega) (by omega)
          · exact ih fu _ (by omega) (by omega)
      obtain ⟨w, k1, k2⟩ := key (j + 1) 1100 (1 <<< (nI j &&& 31)) (by omega) (by omega)
      rw [g1]
      unfold f_X1_neededBy
      rw [dIx_s] at k1 k2
      refine ⟨w &&& v, ?_, k2⟩
      simp only [o_bs]
      rw [k1, Int32.and_comm w v]
      rfl
end
