/-! the tape -/
theorem sh64 : ∀ k, k < 64 → (((nI k).toInt64 &&& 63).toBitVec.smod 64) = BitVec.ofNat 64 k := by decide +kernel
theorem su64 : ∀ k, k < 64 → (((nI k).toInt64.toUInt64 &&& Int64.toUInt64 63).toBitVec % 64).toNat = k := by decide +kernel
theorem byte_eq (x : Int64) {k : Nat} (hk : k ≤ 56) : ((x >>> ((nI k).toInt64 &&& 63)).toInt32 &&& 255) = (((x.toUInt64 >>> ((nI k).toInt64.toUInt64 &&& Int64.toUInt64 63)).toInt64 &&& 255)).toInt32 := by
  apply Int32.toBitVec_inj.1
  apply BitVec.eq_of_getLsbD_eq
  intro i hi
  have h1 : (x >>> ((nI k).toInt64 &&& 63)).toBitVec = x.toBitVec.sshiftRight k := by
    show x.toBitVec.sshiftRight' (((nI k).toInt64 &&& 63).toBitVec.smod 64) = _
    rw [sh64 k (by omega)]
    show x.toBitVec.sshiftRight (BitVec.ofNat 64 k).toNat = _
    rw [BitVec.toNat_ofNat, Nat.mod_eq_of_lt (by omega)]
  have h2 : (x.toUInt64 >>> ((nI k).toInt64.toUInt64 &&& Int64.toUInt64 63)).toInt64.toBitVec = x.toBitVec >>> k := by
    show x.toBitVec >>> (((nI k).toInt64.toUInt64 &&& Int64.toUInt64 63).toBitVec % 64) = _
    show x.toBitVec >>> (((nI k).toInt64.toUInt64 &&& Int64.toUInt64 63).toBitVec % 64).toNat = _
    rw [su64 k (by omega)]
  have h3 : ∀ j, j < 32 → (255 : Int32).toBitVec.getLsbD j = decide (j < 8) := by decide +kernel
  have h4 : ∀ j, j < 32 → (255 : Int64).toBitVec.getLsbD j = decide (j < 8) := by decide +kernel
  show ((x >>> ((nI k).toInt64 &&& 63)).toBitVec.signExtend 32 &&& (255 : Int32).toBitVec).getLsbD i = (((x.toUInt64 >>> ((nI k).toInt64.toUInt64 &&& Int64.toUInt64 63)).toInt64.toBitVec &&& (255 : Int64).toBitVec).signExtend 32).getLsbD i
  rw [BitVec.getLsbD_and, BitVec.getLsbD_signExtend, BitVec.getLsbD_signExtend, BitVec.getLsbD_and, h1, h2, h3 i hi, h4 i hi]
  simp only [hi, decide_true, Bool.true_and, show i < 64 by omega, if_true]
  rw [BitVec.getLsbD_sshiftRight, BitVec.getLsbD_ushiftRight]
  by_cases h8 : i < 8
  · simp [h8, show k + i < 64 by omega, show ¬ 64 ≤ i by omega]
  · simp [h8]
/-- whether a sign goes on the tape -/
def onT (v : Int32) (n : Nat) : Prop := (v = 10 ∨ (¬ v < 32 ∧ ¬ 126 < v)) ∧ n < 1000
def shv : Nat → Int32
  | 0 => -8
  | r + 1 => nI (8 * r)
theorem shv_0 : shv 0 = -8 := rfl
theorem shv_s (r : Nat) : shv (r + 1) = nI (8 * r) := rfl
theorem shv_m8 (r : Nat) : nI (8 * r) + (-8) = shv r := by
  cases r with
  | zero => rfl
  | succ r =>
    rw [shv_s, show 8 * (r + 1) = 8 * r + 8 by omega, ← nI_add, Int32.add_assoc]
    exact Int32.add_zero _
theorem and7 : ∀ t, t < 24 → nI t &&& 7 = nI (t % 8) := by decide +kernel
theorem sub56 : ∀ u, u < 8 → (56 : Int32) - (8 : Int32) * nI u = nI (8 * (7 - u)) := by decide +kernel
def RK (k_signs : Nat → Int32) (k_length : Int32) (m_tape : Nat → Int32) (m_taped : Int32) : Prop := ∃ n, n ≤ 1000 ∧ k_length = nI n ∧ m_taped = nI n ∧ ∀ i, i < n → m_tape i = k_signs i
section
variable {k_signs m_tape : Nat → Int32} {k_length m_taped : Int32}
theorem seg_rel {a b c : Int64} (w : Int64) (q : Nat) (hq : q < 3) (hw : w = if q = 0 then a else if q = 1 then b else c) : ∀ (r cf fu n : Nat) (f g : Nat → Int32), r ≤ 8 → r < cf → n ≤ 1000 → (∀ i, i < n → g i = f i) → ∃ (f' g' : Nat → Int32) (n' : Nat), n' ≤ 1000 ∧ (∀ i, i < n' → g' i = f' i) ∧ f_X10_addBytes_3 cf f (nI n) w (shv r) = some (f', nI n') ∧ f_X13_feed_8 (fu + r) 0 (nI n) g a b c (nI (8 * q + 8 - r)) = f_X13_feed_8 fu 0 (nI n') g' a b c (nI (8 * q + 8)) := by
  intro r
  induction r with
  | zero =>
    intro cf fu n f g hr hcf hn hfg
    obtain ⟨cf, rfl⟩ : ∃ g, cf = g + 1 := ⟨cf - 1, by omega⟩
    rw [f_X10_addBytes_3.eq_2, shv_0, if_pos (by decide)]
    exact ⟨f, g, n, hn, hfg, rfl, rfl⟩
  | succ r ih =>
    intro cf fu n f g hr hcf hn hfg
    obtain ⟨cf, rfl⟩ : ∃ g, cf = g + 1 := ⟨cf - 1, by omega⟩
    rw [f_X10_addBytes_3.eq_2, shv_s, if_neg (nI_pos (by omega)), show fu + (r + 1) = (fu + r) + 1 by omega, f_X13_feed_8.eq_2]
    have ht : 8 * q + 8 - (r + 1) < 24 := by omega
    have hw2 : (if (24 : Int32) ≤ nI (8 * q + 8 - (r + 1)) then some (nI n, (0 : Int32), nI n, g) else if (8 : Int32) ≤ nI (8 * q + 8 - (r + 1)) then if (16 : Int32) ≤ nI (8 * q + 8 - (r + 1)) then f_X13_feed_39 (f_X13_feed_8 (fu + r)) 0 (nI n) g a b c (nI (8 * q + 8 - (r + 1))) c else f_X13_feed_39 (f_X13_feed_8 (fu + r)) 0 (nI n) g a b c (nI (8 * q + 8 - (r + 1))) b else f_X13_feed_39 (f_X13_feed_8 (fu + r)) 0 (nI n) g a b c (nI (8 * q + 8 - (r + 1))) a) = f_X13_feed_39 (f_X13_feed_8 (fu + r)) 0 (nI n) g a b c (nI (8 * q + 8 - (r + 1))) w := by
      rw [if_neg (by rw [show (24 : Int32) = nI 24 from rfl, nI_leI (by omega) (by omega)]; omega), hw]
      rcases (show q = 0 ∨ q = 1 ∨ q = 2 by omega) with rfl | rfl | rfl
      · rw [if_neg (by rw [show (8 : Int32) = nI 8 from rfl, nI_leI (by omega) (by omega)]; omega)]; rfl
      · rw [if_pos (by rw [show (8 : Int32) = nI 8 from rfl, nI_leI (by omega) (by omega)]; omega), if_neg (by rw [show (16 : Int32) = nI 16 from rfl, nI_leI (by omega) (by omega)]; omega)]; rfl
      · rw [if_pos (by rw [show (8 : Int32) = nI 8 from rfl, nI_leI (by omega) (by omega)]; omega), if_pos (by rw [show (16 : Int32) = nI 16 from rfl, nI_leI (by omega) (by omega)]; omega)]; rfl
    rw [hw2]
    have hu : (8 * q + 8 - (r + 1)) % 8 = 7 - r := by omega
    have hsh : (56 : Int32) - (8 : Int32) * (nI (8 * q + 8 - (r + 1)) &&& 7) = nI (8 * r) := by
      rw [and7 _ ht, hu, sub56 _ (by omega), show 7 - (7 - r) = r by omega]
    unfold f_X13_feed_39 f_X13_feed_93
    rw [hsh, ← byte_eq w (k := 8 * r) (by omega)]
    generalize ((w >>> ((nI (8 * r)).toInt64 &&& 63)).toInt32 &&& 255) = v
    have hstep : nI (8 * q + 8 - (r + 1)) + 1 = nI (8 * q + 8 - r) := by rw [nI_1]; congr 1; omega
    rw [shv_m8, hstep]
    have no := ih cf fu n f g (by omega) (by omega) hn hfg
    by_cases hfull : n = 1000
    · subst hfull
      have e1 : (1000 : Int32) ≤ nI 1000 := by decide
      unfold f_X10_addBytes_36
      simp only [if_pos e1]
      by_cases h10 : v = 10
      · rw [if_pos h10, shv_m8]; exact no
      · rw [if_neg h10]
        by_cases hr : f_X12_within v 32 126 = 0
        · rw [if_pos hr]; exact no
        · rw [if_neg hr, shv_m8]; exact no
    · have e1 : ¬ (1000 : Int32) ≤ nI n := by rw [show (1000 : Int32) = nI 1000 from rfl, nI_leI (by omega) (by omega)]; omega
      have yes := ih cf fu (n + 1) (upd f n v) (upd g n v) (by omega) (by omega) (by omega) (fun i hi => by
        simp only [upd_at]
        by_cases e : i = n
        · rw [if_pos e, if_pos e]
        · rw [if_neg e, if_neg e]; exact hfg i (by omega))
      unfold f_X10_addBytes_36
      simp only [if_neg e1]
      rw [q_gp (by omega) (by omega), q_gd (by omega) (by omega), nI_clamp (by omega), nI_1, shv_m8]
      by_cases h10 : v = 10
      · rw [if_pos h10, if_pos h10]; exact yes
      · rw [if_neg h10, if_neg h10]
        rcases wth_cases v 32 126 with ⟨e, hlt⟩ | ⟨e, g1, g2⟩
        · rw [e, if_pos e00]
          by_cases g1 : v < 32
          · rw [if_pos g1]; exact no
          · rw [if_neg g1, if_pos (hlt.resolve_left g1)]; exact no
        · rw [e, if_neg n10, if_neg g1, if_neg g2]; exact yes
theorem call_feed (hK : RK k_signs k_length m_tape m_taped) (x1 x3 x5 : Int64) : ∃ (v : Int32) (f' : Nat → Int32) (l' : Int32) (g' : Nat → Int32), f_X12_feed k_signs k_length x1 x3 x5 = some (v, f', l') ∧ f_X13_feed m_taped m_tape x1 x3 x5 = some (v, 0, l', g') ∧ RK f' l' g' l' := by
  obtain ⟨n, hn, rfl, rfl, hfg⟩ := hK
  unfold f_X12_feed f_X13_feed f_X10_addBytes
  obtain ⟨f1, g1, n1, a1, a2, a3, a4⟩ := seg_rel (a := x1) (b := x3) (c := x5) x1 0 (by omega) rfl 8 1100 1092 n k_signs m_tape (by omega) (by omega) hn (fun i hi => hfg i hi)
  obtain ⟨f2, g2, n2, b1, b2, b3, b4⟩ := seg_rel (a := x1) (b := x3) (c := x5) x3 1 (by omega) rfl 8 1100 1084 n1 f1 g1 (by omega) (by omega) a1 a2
  obtain ⟨f3, g3, n3, c1, c2, c3, c4⟩ := seg_rel (a := x1) (b := x3) (c := x5) x5 2 (by omega) rfl 8 1100 1076 n2 f2 g2 (by omega) (by omega) b1 b2
  have a3' : f_X10_addBytes_3 1100 k_signs (nI n) x1 56 = some (f1, nI n1) := a3
  have b3' : f_X10_addBytes_3 1100 f1 (nI n1) x3 56 = some (f2, nI n2) := b3
  have c3' : f_X10_addBytes_3 1100 f2 (nI n2) x5 56 = some (f3, nI n3) := c3
  have a4' : f_X13_feed_8 1100 0 (nI n) m_tape x1 x3 x5 0 = f_X13_feed_8 1092 0 (nI n1) g1 x1 x3 x5 (nI 8) := a4
  have b4' : f_X13_feed_8 1092 0 (nI n1) g1 x1 x3 x5 (nI 8) = f_X13_feed_8 1084 0 (nI n2) g2 x1 x3 x5 (nI 16) := b4
  have c4' : f_X13_feed_8 1084 0 (nI n2) g2 x1 x3 x5 (nI 16) = f_X13_feed_8 1076 0 (nI n3) g3 x1 x3 x5 (nI 24) := c4
  rw [a3', o_bs, b3', o_bs, c3', o_bs, a4', b4', c4', f_X13_feed_8.eq_2, if_pos (by decide)]
  exact ⟨_, _, _, _, rfl, rfl, n3, c1, rfl, rfl, c2⟩
end
