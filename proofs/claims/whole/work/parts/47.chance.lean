/-! odds -/
def sN (f : Nat → Nat) : Nat → Nat
  | 0 => 0
  | k + 1 => sN f k + f k
theorem sN_congr {f g : Nat → Nat} : ∀ n, (∀ i, i < n → f i = g i) → sN f n = sN g n := by
  intro n
  induction n with
  | zero => intro _; rfl
  | succ n ih => intro h; show sN f n + f n = sN g n + g n; rw [ih (fun i hi => h i (by omega)), h n (by omega)]
theorem sN_zero {f : Nat → Nat} : ∀ n, (∀ i, i < n → f i = 0) → sN f n = 0 := by
  intro n
  induction n with
  | zero => intro _; rfl
  | succ n ih => intro h; show sN f n + f n = 0; rw [ih (fun i hi => h i (by omega)), h n (by omega)]
theorem sN_le {f : Nat → Nat} {i : Nat} : ∀ n, i < n → f i ≤ sN f n := by
  intro n
  induction n with
  | zero => intro h; omega
  | succ n ih =>
    intro h
    show f i ≤ sN f n + f n
    by_cases e : i = n
    · subst e; omega
    · have := ih (by omega); omega
def upN (W : Nat → Nat) (j a : Nat) : Nat → Nat := fun i => if i = j then W i + a else W i
theorem sN_up {W h : Nat → Nat} {j a : Nat} : ∀ n, j < n → sN (fun t => upN W j a t * h t) n = sN (fun t => W t * h t) n + a * h j := by
  intro n
  induction n with
  | zero => intro hj; omega
  | succ n ih =>
    intro hj
    show sN (fun t => upN W j a t * h t) n + upN W j a n * h n = sN (fun t => W t * h t) n + W n * h n + a * h j
    by_cases e : j = n
    · subst e
      rw [sN_congr (f := fun t => upN W j a t * h t) (g := fun t => W t * h t) j (fun i hi => by show upN W j a i * h i = W i * h i; unfold upN; rw [if_neg (by omega)])]
      unfold upN
      rw [if_pos rfl, Nat.add_mul]; omega
    · rw [ih (by omega)]
      unfold upN
      rw [if_neg (fun q => e q.symm)]; omega
/-- of 10 to the power of r courses those by which it comes to 0 -/
def eN (w : Nat → Nat → Nat) (g o : Nat) : Nat → Nat → Nat → Nat
  | 0, _, s => if s = 0 then 1 else 0
  | r + 1, p, s => if s = 0 then 10 ^ (r + 1) else o * eN w g o r (p + 1) (min 99 (s + g)) + (10 - o) * eN w g o r (p + 1) (s - w s p)
theorem eN_0 (w : Nat → Nat → Nat) (g o r p : Nat) : eN w g o r p 0 = 10 ^ r := by
  cases r with
  | zero => rfl
  | succ r => exact if_pos rfl
theorem eN_le (w : Nat → Nat → Nat) (g : Nat) {o : Nat} (ho : o ≤ 10) : ∀ r p s, eN w g o r p s ≤ 10 ^ r := by
  intro r
  induction r with
  | zero => intro p s; show (if s = 0 then 1 else 0) ≤ 1; split <;> omega
  | succ r ih =>
    intro p s
    show (if s = 0 then 10 ^ (r + 1) else o * eN w g o r (p + 1) (min 99 (s + g)) + (10 - o) * eN w g o r (p + 1) (s - w s p)) ≤ 10 ^ (r + 1)
    split
    · exact Nat.le_refl _
    · have h1 := Nat.mul_le_mul_left o (ih (p + 1) (min 99 (s + g)))
      have h2 := Nat.mul_le_mul_left (10 - o) (ih (p + 1) (s - w s p))
      have h3 : o * 10 ^ r + (10 - o) * 10 ^ r = 10 ^ (r + 1) := by
        rw [← Nat.add_mul, show o + (10 - o) = 10 by omega, Nat.pow_succ, Nat.mul_comm]
      omega
def tN (w : Nat → Nat → Nat) (g o p : Nat) (h : Nat → Nat) (s : Nat) : Nat := if s = 0 then 10 * h 0 else (10 - o) * h (s - w s p) + o * h (min 99 (s + g))
theorem tN_e (w : Nat → Nat → Nat) (g o p r s : Nat) : tN w g o p (eN w g o r (p + 1)) s = eN w g o (r + 1) p s := by
  unfold tN
  show _ = if s = 0 then 10 ^ (r + 1) else o * eN w g o r (p + 1) (min 99 (s + g)) + (10 - o) * eN w g o r (p + 1) (s - w s p)
  by_cases h : s = 0
  · rw [if_pos h, if_pos h, eN_0, Nat.pow_succ, Nat.mul_comm]
  · rw [if_neg h, if_neg h, Nat.add_comm]
theorem tN_1 (w : Nat → Nat → Nat) (g : Nat) {o : Nat} (ho : o ≤ 10) (p s : Nat) : tN w g o p (fun _ => 1) s = 10 := by
  show (if s = 0 then 10 * 1 else (10 - o) * 1 + o * 1) = 10
  split <;> omega
theorem addWays_eq {f : Nat → Int64} {j : Nat} (hj : j < 100) {x : Int64} : f_X2_addWays f (nI j) x = some (vp_updL f j (f j + x)) := by
  unfold f_X2_addWays
  rw [if_neg (nI_pos (by omega)), if_neg (by rw [show (100 : Int32) = nI 100 from rfl, nI_leI (by omega) (by omega)]; omega), q_gd hj (by omega), q_gd hj (by omega), nI_clamp (by omega)]
theorem lcmp0 {x : Nat} (h : x < 2 ^ 63) : lg_cmp (lN x) 0 ≤ 0 ↔ x = 0 := by
  rw [lg_cmp_le, show (0 : Int64) = lN 0 from rfl, pk_lLE h (by decide)]
  omega
section
variable {s_month s_power s_master s_left s_kept s_passed : Int32} {s_sizes s_fields s_liked : Nat → Int32} {m_s : Nat → Int32} {M D Q : Nat} {sv kv : Nat → Int32 → Int32 → Int32} {c_men c_consuls c_dangers c_decrees c_term : Int32} {c_kinds c_skills c_fields c_wants c_hated c_sizes c_grows c_grounds : Nat → Int32} {l_ops : Nat → Int32} {l_worksFrom l_worksTo l_keepsFrom l_keepsTo : Int32} {m_city m_kind m_skill m_fieldTold m_want m_hates m_restsOn m_sizeTold m_grows : Nat → Int32} {m_lineFrom m_lineTo m_codes : Nat → Int32} {z_kept z_keptBy z_ahead z_against z_sum z_sumBy z_term z_termBy z_byNot z_valueOf : Nat → Int32} {un_f uw_f : Nat → Int64}
/-- what he does, as a number -/
def wN (sv : Nat → Int32 → Int32 → Int32) (i s p : Nat) : Nat := (sv i (nI s) (nI p)).toNatClampNeg
theorem wN_eq {i s p : Nat} (hw : 0 ≤ (sv i (nI s) (nI p)).toInt ∧ (sv i (nI s) (nI p)).toInt ≤ 99) : sv i (nI s) (nI p) = nI (wN sv i s p) ∧ wN sv i s p ≤ 99 := by
  obtain ⟨j, hj, e⟩ := nI_of (x := sv i (nI s) (nI p)) (by rw [i_lt, t0]; omega)
  unfold wN
  rw [e, nI_clamp hj]
  rw [e, nI_toInt hj] at hw
  exact ⟨rfl, by omega⟩
theorem dn_eq {a w : Nat} (ha : a ≤ 99) (hw : w ≤ 99) : imax 0 (nI a - nI w) = nI (a - w) := by
  rw [i_eq, imax_toInt, pk_sub_toInt (by omega) (by omega), nI_toInt (by omega), t0]
  split <;> omega
theorem gu_eq {a g : Nat} (ha : a ≤ 99) (hg : g ≤ 9) : imin 99 (nI a + nI g) = nI (min 99 (a + g)) := by
  rw [nI_add, i_eq, imin_toInt, nI_toInt (by omega), nI_toInt (by omega), t99]
  rw [Nat.min_def]
  split <;> split <;> omega
theorem spread_eq (hCS : CSv sv M c_kinds c_skills c_wants l_ops l_worksFrom l_worksTo l_keepsFrom l_keepsTo) {i : Nat} (hi : i < M) (hw : ∀ a b, 0 ≤ (sv i a b).toInt ∧ (sv i a b).toInt ≤ 99) {g o p T : Nat} (hg : g ≤ 9) (ho : o ≤ 10) (hp : p ≤ 12) {W : Nat → Nat} (hW : ∀ s, s < 100 → uw_f s = lN (W s)) (hS : sN W 100 = T) (hT : T ≤ 10 ^ 12) (st : Nat → Int32) : ∃ (nf : Nat → Int64) (st' : Nat → Int32) (V : Nat → Nat), (f_X2_spread un_f uw_f c_kinds c_skills c_wants l_ops st l_worksFrom l_worksTo l_keepsFrom l_keepsTo (nI i) (nI g) (nI o) (nI p)) = some (nf, st') ∧ (∀ s, s < 100 → nf s = lN (V s)) ∧ ∀ h : Nat → Nat, sN (fun t => V t * h t) 100 = sN (fun s => W s * tN (wN sv i) g o p h s) 100 := by
  have hWT : ∀ s, s < 100 → W s ≤ 10 ^ 12 := fun s hs => Nat.le_trans (sN_le 100 hs) (by rw [hS]; exact hT)
  have k30 : ∀ (fu k : Nat) (nf : Nat → Int64) (st : Nat → Int32) (V : Nat → Nat), k ≤ 100 → 100 < fu + k → (∀ s, s < 100 → nf s = lN (V s)) → (∀ h : Nat → Nat, sN (fun t => V t * h t) 100 = sN (fun s => W s * tN (wN sv i) g o p h s) k) → ∃ (nf' : Nat → Int64) (st' : Nat → Int32) (V' : Nat → Nat), (f_X2_spread_30 fu nf uw_f c_kinds c_skills c_wants l_ops st l_worksFrom l_worksTo l_keepsFrom l_keepsTo (nI i) (nI g) (nI o) (nI p) (nI k)) = some (nf', st') ∧ (∀ s, s < 100 → nf' s = lN (V' s)) ∧ ∀ h : Nat → Nat, sN (fun t => V' t * h t) 100 = sN (fun s => W s * tN (wN sv i) g o p h s) 100 := by
    intro fu
    induction fu with
    | zero => intro k nf st V h1 h2; omega
    | succ fu ih =>
      intro k nf st V h1 h2 hV hh
      rw [f_X2_spread_30.eq_2]
      by_cases h : k < 100
      · rw [if_neg (by rw [show (100 : Int32) = nI 100 from rfl, nI_leI (by omega) (by omega)]; omega), q_gd h (by omega), nI_clamp (by omega), hW k h]
        have hWk := hWT k h
        have hz := lcmp0 (x := W k) (by omega)
        by_cases hc0 : W k = 0
        · -- none are here
          unfold f_X2_spread_75
          rw [if_pos (hz.mpr hc0), if_pos (hz.mpr hc0), nI_1]
          refine ih (k + 1) nf st V (by omega) (by omega) hV (fun h => ?_)
          show _ = sN (fun s => W s * tN (wN sv i) g o p h s) k + W k * tN (wN sv i) g o p h k
          rw [hc0, Nat.zero_mul]; exact hh h
        · rw [if_neg (fun q => hc0 (hz.mp q))]
          by_cases hk0 : k = 0
          · subst hk0
            rw [if_pos (show nI 0 = 0 from rfl)]
            have e1 : f_X2_addWays nf 0 (lN (W 0) * (10 : Int64)) = some (vp_updL nf 0 (nf 0 + lN (W 0) * (10 : Int64))) := addWays_eq (j := 0) (by omega)
            have e2 : lN (W 0) * (10 : Int64) = lN (W 0 * 10) := lN_mul (W 0) 10
            rw [e1, o_bs, e2, hV 0 (by omega), lN_add, nI_1]
            refine ih 1 _ st (upN V 0 (W 0 * 10)) (by omega) (by omega) (fun s hs => ?_) (fun h => ?_)
            · rw [updL_at]
              unfold upN
              by_cases e : s = 0
              · subst e; rw [if_pos rfl, if_pos rfl]
              · rw [if_neg e, if_neg e]; exact hV s hs
            · rw [sN_up 100 (by omega), hh h]
              show 0 + W 0 * 10 * h 0 = 0 + W 0 * tN (wN sv i) g o p h 0
              unfold tN
              rw [if_pos rfl, Nat.mul_assoc]
          · rw [if_neg (nI_ne0 (by omega) (by omega))]
            unfold f_X2_spread_75
            rw [if_neg (fun q => hc0 (hz.mp q))]
            obtain ⟨st1, hs⟩ := hCS i hi (nI k) (nI p) st
            obtain ⟨ew, hw9⟩ := wN_eq (sv := sv) (i := i) (s := k) (p := p) (hw _ _)
            rw [hs, o_bs, ew]
            have d1 : k - wN sv i k p < 100 := by omega
            have d2 : min 99 (k + g) < 100 := by omega
            have e10 : ((10 : Int32) - nI o).toInt64 = lN (10 - o) := by
              rw [show (10 : Int32) = nI 10 from rfl, pk_sub ho, nI_l (by omega)]
            simp only []
            rw [dn_eq (by omega) hw9, gu_eq (by omega) hg, addWays_eq d1, o_bs, addWays_eq d2, o_bs, e10, nI_l (by omega), lN_mul, lN_mul, hV _ d1, lN_add, nI_1]
            have hmid : ∀ s, s < 100 → vp_updL nf (k - wN sv i k p) (lN (V (k - wN sv i k p) + W k * (10 - o))) s = lN (upN V (k - wN sv i k p) (W k * (10 - o)) s) := by
              intro s hs
              rw [updL_at]
              unfold upN
              by_cases e : s = k - wN sv i k p
              · rw [if_pos e, if_pos e, e]
              · rw [if_neg e, if_neg e]; exact hV s hs
            rw [hmid _ d2, lN_add]
            refine ih (k + 1) _ st1 (upN (upN V (k - wN sv i k p) (W k * (10 - o))) (min 99 (k + g)) (W k * o)) (by omega) (by omega) (fun s hs => ?_) (fun h => ?_)
            · rw [updL_at]
              show _ = lN (if s = min 99 (k + g) then upN V (k - wN sv i k p) (W k * (10 - o)) s + W k * o else upN V (k - wN sv i k p) (W k * (10 - o)) s)
              by_cases e : s = min 99 (k + g)
              · rw [if_pos e, if_pos e, e]
              · rw [if_neg e, if_neg e]; exact hmid s hs
            · rw [sN_up 100 d2, sN_up 100 d1, hh h]
              show _ = sN (fun s => W s * tN (wN sv i) g o p h s) k + W k * tN (wN sv i) g o p h k
              unfold tN
              rw [if_neg hk0, Nat.mul_add, Nat.mul_assoc, Nat.mul_assoc, Nat.add_assoc]
      · rw [if_pos (by rw [show (100 : Int32) = nI 100 from rfl, nI_leI (by omega) (by omega)]; omega)]
        have : k = 100 := by omega
        subst this
        exact ⟨nf, st, V, rfl, hV, hh⟩
  have k3 : ∀ (fu k : Nat) (nf : Nat → Int64), k ≤ 100 → 100 < fu + k → (∀ s, s < k → nf s = lN 0) → ∃ nf', (∀ s, s < 100 → nf' s = lN 0) ∧ (f_X2_spread_3 fu nf uw_f c_kinds c_skills c_wants l_ops st l_worksFrom l_worksTo l_keepsFrom l_keepsTo (nI i) (nI g) (nI o) (nI p) (nI k)) = (f_X2_spread_30 1100 nf' uw_f c_kinds c_skills c_wants l_ops st l_worksFrom l_worksTo l_keepsFrom l_keepsTo (nI i) (nI g) (nI o) (nI p) 0) := by
    intro fu
    induction fu with
    | zero => intro k nf h1 h2; omega
    | succ fu ih =>
      intro k nf h1 h2 hz
      rw [f_X2_spread_3.eq_2]
      by_cases h : k < 100
      · rw [if_neg (by rw [show (100 : Int32) = nI 100 from rfl, nI_leI (by omega) (by omega)]; omega), q_gd h (by omega), nI_clamp (by omega), nI_1]
        refine ih (k + 1) _ (by omega) (by omega) (fun s hs => ?_)
        rw [updL_at]
        by_cases e : s = k
        · rw [if_pos e]; rfl
        · rw [if_neg e]; exact hz s (by omega)
      · rw [if_pos (by rw [show (100 : Int32) = nI 100 from rfl, nI_leI (by omega) (by omega)]; omega)]
        exact ⟨nf, fun s hs => hz s (by omega), rfl⟩
  obtain ⟨nf, hz, e3⟩ := k3 1100 0 un_f (by omega) (by omega) (fun s hs => absurd hs (by omega))
  obtain ⟨nf', st', V, e30, hV, hh⟩ := k30 1100 0 nf st (fun _ => 0) (by omega) (by omega) hz (fun h => by
    rw [sN_zero 100 (fun t _ => Nat.zero_mul _)]; rfl)
  exact ⟨nf', st', V, e3.trans e30, hV, hh⟩
theorem sN_mul1 (f : Nat → Nat) (n : Nat) : sN (fun t => f t * 1) n = sN f n := sN_congr n (fun i _ => Nat.mul_one _)
theorem sN_10 {f : Nat → Nat} : ∀ n, sN (fun t => f t * 10) n = sN f n * 10 := by
  intro n
  induction n with
  | zero => rfl
  | succ n ih => show sN (fun t => f t * 10) n + f n * 10 = (sN f n + f n) * 10; rw [ih, Nat.add_mul]
theorem sN_e0 (w : Nat → Nat → Nat) (g o p : Nat) (W : Nat → Nat) : ∀ n, 0 < n → sN (fun s => W s * eN w g o 0 p s) n = W 0 := by
  intro n
  induction n with
  | zero => intro h; omega
  | succ n ih =>
    intro _
    show sN (fun s => W s * eN w g o 0 p s) n + W n * (if n = 0 then 1 else 0) = W 0
    by_cases h : n = 0
    · subst h; rw [if_pos rfl, Nat.mul_one]; exact Nat.zero_add _
    · rw [if_neg h, Nat.mul_zero, Nat.add_zero]; exact ih (by omega)
/-- the answer -/
def chV (E m : Nat) : Int32 := ((lN E * (1000000 : Int64)) / lN (10 ^ m)).toInt32
theorem p10_lt {m : Nat} (hm : m ≤ 12) : 10 ^ m ≤ 10 ^ 12 := Nat.pow_le_pow_right (by decide) hm
theorem chanceToEnd_eq (hc : RC M D Q sv kv c_men c_consuls c_dangers c_decrees c_term c_kinds c_skills c_fields c_wants c_hated c_sizes c_grows c_grounds l_ops l_worksFrom l_worksTo l_keepsFrom l_keepsTo m_city m_kind m_skill m_fieldTold m_want m_hates m_restsOn m_sizeTold m_grows m_lineFrom m_lineTo m_codes) {i d g o m s0 : Nat} (hi : i < M) (hd : d < D) (hg : c_grows d = nI g) (hg9 : g ≤ 9) (ho : o ≤ 10) (hm : m ≤ 12) (hs0 : s0 < 100) (st : Nat → Int32) : ∃ (nf wf : Nat → Int64) (st' : Nat → Int32) (b : Bool), (f_X2_chanceToEnd un_f uw_f c_kinds c_skills c_wants c_grows l_ops st l_worksFrom l_worksTo l_keepsFrom l_keepsTo (nI i) (nI d) (nI s0) (nI o) (nI m)) = some (chV (eN (wN sv i) g o m 0 s0) m, nf, wf, st', b) := by
  obtain ⟨⟨hM, hD, hQ⟩, ⟨rfl, rfl, rfl⟩, ⟨hc0, hc1, hc2, hc3, hc4⟩, hT2, hmm, hsk, hdd, hq, hsv, hkv, hCS, hCK, hMS, hMK⟩ := hc
  have hw : ∀ a b, 0 ≤ (sv i a b).toInt ∧ (sv i a b).toInt ≤ 99 := fun a b => hsv i a b hi
  have fin : ∀ {α : Type} (E : Nat) (f : Nat → Int64) (W : Nat → Nat) (A : Int32 → α) (Z : Option α), (∀ s, s < 100 → f s = lN (W s)) → W 0 = E → (if lg_cmp (lN (10 ^ m)) 0 ≤ 0 then Z else if (100 : Int32) ≤ 0 then Z else gd 0 100 (ngl (lN (10 ^ m)) (some (A ((f (0 : Int32).toNatClampNeg * (1000000 : Int64)) / lN (10 ^ m)).toInt32)))) = some (A (chV E m)) := by
    intro α E f W A Z hf hE
    have hp := p10_lt hm
    have hpos : 0 < 10 ^ m := Nat.pow_pos (by decide)
    rw [if_neg (fun q => by rw [lcmp0 (by omega)] at q; omega), if_neg (by decide), gl_0_100]
    unfold ngl
    rw [if_neg (by rw [show (0 : Int64) = lN 0 from rfl, pk_lEQ (by omega) (by decide)]; omega), cl_0, hf 0 (by omega), hE]
    rfl
  have step : ∀ (k : Nat) (cur oth : Nat → Int64) (st : Nat → Int32) (W : Nat → Nat), k < m → (∀ s, s < 100 → cur s = lN (W s)) → sN W 100 = 10 ^ k → ∃ (nf : Nat → Int64) (st' : Nat → Int32) (V : Nat → Nat), f_X2_spread oth cur c_kinds c_skills c_wants l_ops st l_worksFrom l_worksTo l_keepsFrom l_keepsTo (nI i) (nI g) (nI o) (nI k) = some (nf, st') ∧ (∀ s, s < 100 → nf s = lN (V s)) ∧ sN V 100 = 10 ^ (k + 1) ∧ ∀ r, sN (fun t => V t * eN (wN sv i) g o r (k + 1) t) 100 = sN (fun s => W s * eN (wN sv i) g o (r + 1) k s) 100 := by
    intro k cur oth st W hk hcur hS
    obtain ⟨nf, st', V, e1, e2, e3⟩ := spread_eq (un_f := oth) (uw_f := cur) hCS hi hw hg9 ho (p := k) (by omega) hcur hS (p10_lt (by omega)) st
    refine ⟨nf, st', V, e1, e2, ?_, fun r => ?_⟩
    · have := e3 (fun _ => 1)
      rw [sN_mul1] at this
      rw [this, sN_congr (g := fun s => W s * 10) 100 (fun s _ => by show W s * tN (wN sv i) g o k (fun _ => 1) s = W s * 10; rw [tN_1 _ _ ho]), sN_10, hS, Nat.pow_succ]
    · rw [e3 (eN (wN sv i) g o r (k + 1))]
      exact sN_congr 100 (fun s _ => by show W s * tN (wN sv i) g o k (eN (wN sv i) g o r (k + 1)) s = W s * eN (wN sv i) g o (r + 1) k s; rw [tN_e])
  have main : ∀ (E r k n : Nat) (cur oth : Nat → Int64) (st : Nat → Int32) (W : Nat → Nat), k + r = m → r < n → (∀ s, s < 100 → cur s = lN (W s)) → sN W 100 = 10 ^ k → sN (fun s => W s * eN (wN sv i) g o r k s) 100 = E →
      (∃ (nf wf : Nat → Int64) (st' : Nat → Int32) (b : Bool), (f_X2_chanceToEnd_56 n oth cur c_kinds c_skills c_wants c_grows l_ops st l_worksFrom l_worksTo l_keepsFrom l_keepsTo (nI i) (nI d) (nI o) (nI m) (lN (10 ^ k)) (nI k)) = some (chV E m, nf, wf, st', b)) ∧
      (∃ (nf wf : Nat → Int64) (st' : Nat → Int32) (b : Bool), (f_X2_chanceToEnd_100056 (f_X2_chanceToEnd_56 n) cur oth c_kinds c_skills c_wants c_grows l_ops st l_worksFrom l_worksTo l_keepsFrom l_keepsTo (nI i) (nI d) (nI o) (nI m) (lN (10 ^ k)) (nI k)) = some (chV E m, nf, wf, st', b)) := by
    intro E r
    induction r with
    | zero =>
      intro k n cur oth st W hk hn hcur hS hE
      rw [sN_e0 _ _ _ _ _ 100 (by omega)] at hE
      have hkm : k = m := by omega
      subst hkm
      obtain ⟨n, rfl⟩ : ∃ g, n = g + 1 := ⟨n - 1, by omega⟩
      have hle : nI k ≤ nI k := Int32.le_refl _
      refine ⟨⟨oth, cur, st, false, ?_⟩, ⟨cur, oth, st, true, ?_⟩⟩
      · rw [f_X2_chanceToEnd_56.eq_2, if_pos hle]
        exact fin E cur W (fun v => (v, oth, cur, st, false)) _ hcur hE
      · unfold f_X2_chanceToEnd_100056
        rw [if_pos hle]
        exact fin E cur W (fun v => (v, cur, oth, st, true)) _ hcur hE
    | succ r ih =>
      intro k n cur oth st W hk hn hcur hS hE
      obtain ⟨n, rfl⟩ : ∃ g, n = g + 1 := ⟨n - 1, by omega⟩
      have hle : ¬ nI m ≤ nI k := by rw [nI_leI (by omega) (by omega)]; omega
      obtain ⟨nf, st1, V, e1, e2, e3, e4⟩ := step k cur oth st W (by omega) hcur hS
      have e10 : lN (10 ^ k) * (10 : Int64) = lN (10 ^ (k + 1)) := by
        rw [Nat.pow_succ]; exact lN_mul (10 ^ k) 10
      obtain ⟨_, h2⟩ := ih (k + 1) n nf cur st1 V (by omega) (by omega) e2 e3 (by rw [e4 r]; exact hE)
      obtain ⟨h3, _⟩ := ih (k + 1) (n + 1) nf cur st1 V (by omega) (by omega) e2 e3 (by rw [e4 r]; exact hE)
      constructor
      · rw [f_X2_chanceToEnd_56.eq_2, if_neg hle, q_ga (by omega) (by omega), hg, e1, o_bs, e10, nI_1]
        exact h2
      · unfold f_X2_chanceToEnd_100056
        rw [if_neg hle, q_ga (by omega) (by omega), hg, e1, o_bs, e10, nI_1]
        exact h3
  have k3 : ∀ (fu k : Nat) (wf : Nat → Int64), k ≤ 100 → 100 < fu + k → (∀ s, s < k → wf s = lN 0) → ∃ wf', (∀ s, s < 100 → wf' s = lN (if s = s0 then 1 else 0)) ∧ (f_X2_chanceToEnd_3 fu un_f wf c_kinds c_skills c_wants c_grows l_ops st l_worksFrom l_worksTo l_keepsFrom l_keepsTo (nI i) (nI d) (nI s0) (nI o) (nI m) (nI k)) = (f_X2_chanceToEnd_56 1100 un_f wf' c_kinds c_skills c_wants c_grows l_ops st l_worksFrom l_worksTo l_keepsFrom l_keepsTo (nI i) (nI d) (nI o) (nI m) (1 : Int64) 0) := by
    intro fu
    induction fu with
    | zero => intro k wf h1 h2; omega
    | succ fu ih =>
      intro k wf h1 h2 hz
      rw [f_X2_chanceToEnd_3.eq_2]
      by_cases h : k < 100
      · rw [if_neg (by rw [show (100 : Int32) = nI 100 from rfl, nI_leI (by omega) (by omega)]; omega), q_gd h (by omega), nI_clamp (by omega), nI_1]
        refine ih (k + 1) _ (by omega) (by omega) (fun s hs => ?_)
        rw [updL_at]
        by_cases e : s = k
        · rw [if_pos e]; rfl
        · rw [if_neg e]; exact hz s (by omega)
      · rw [if_pos (by rw [show (100 : Int32) = nI 100 from rfl, nI_leI (by omega) (by omega)]; omega), if_neg (nI_pos (by omega)), if_neg (by rw [show (100 : Int32) = nI 100 from rfl, nI_leI (by omega) (by omega)]; omega), q_gd hs0 (by omega), nI_clamp (by omega)]
        refine ⟨_, fun s hs => ?_, rfl⟩
        rw [updL_at]
        by_cases e : s = s0
        · rw [if_pos e, if_pos e]; rfl
        · rw [if_neg e, if_neg e]; exact hz s (by omega)
  obtain ⟨wf, hwf, e3⟩ := k3 1100 0 uw_f (by omega) (by omega) (fun s hs => absurd hs (by omega))
  have hup : ∀ h : Nat → Nat, sN (fun s => (if s = s0 then 1 else 0) * h s) 100 = h s0 := by
    intro h
    have := sN_up (W := fun _ => 0) (h := h) (j := s0) (a := 1) 100 hs0
    rw [sN_zero (f := fun t => (fun _ => 0) t * h t) 100 (fun t _ => Nat.zero_mul _), Nat.zero_add, Nat.one_mul] at this
    rw [← this]
    refine sN_congr 100 (fun s _ => ?_)
    show (if s = s0 then 1 else 0) * h s = (if s = s0 then 0 + 1 else 0) * h s
    rfl
  obtain ⟨⟨nf, wf', st', b, hh⟩, _⟩ := main (eN (wN sv i) g o m 0 s0) m 0 1100 wf un_f st (fun s => if s = s0 then 1 else 0) (by omega) (by omega) hwf (by
    have := hup (fun _ => 1)
    rw [sN_mul1] at this
    exact this) (hup _)
  exact ⟨nf, wf', st', b, e3.trans hh⟩
theorem endsBy_eq (hMS : MSv sv M m_kind m_skill m_want m_lineFrom m_lineTo m_codes) {i d g o : Nat} (hi : i < M) (hw : ∀ a b, 0 ≤ (sv i a b).toInt ∧ (sv i a b).toInt ≤ 99) (hd : d < 10) (hg : m_grows d = nI g) (hg9 : g ≤ 9) (ho : o ≤ 10) : ∀ (r n p s : Nat) (z_kept z_keptBy z_ahead z_against z_sum z_sumBy z_term z_termBy z_byNot z_valueOf : Nat → Int32), r < n → r ≤ 12 → p ≤ 12 → s < 100 → p + r ≤ 12 → ∃ (y_kept y_keptBy y_ahead y_against y_sum y_sumBy y_term y_termBy y_byNot y_valueOf : Nat → Int32), (f_X13_endsBy n m_kind m_skill m_want m_grows m_lineFrom m_lineTo m_codes z_kept z_keptBy z_ahead z_against z_sum z_sumBy z_term z_termBy z_byNot z_valueOf (nI i) (nI d) (nI s) (nI p) (nI r) (nI o)) = some (lN (eN (wN sv i) g o r p s), y_kept, y_keptBy, y_ahead, y_against, y_sum, y_sumBy, y_term, y_termBy, y_byNot, y_valueOf) := by
  intro r
  induction r with
  | zero =>
    intro n p s z_kept z_keptBy z_ahead z_against z_sum z_sumBy z_term z_termBy z_byNot z_valueOf hn _ hp hs _
    obtain ⟨n, rfl⟩ : ∃ g, n = g + 1 := ⟨n - 1, by omega⟩
    rw [f_X13_endsBy.eq_2]
    unfold f_X13_endsBy_s
    rw [f_X13_endsBy_6.eq_2, if_pos (show nI 0 ≤ 0 by decide)]
    refine ⟨z_kept, z_keptBy, z_ahead, z_against, z_sum, z_sumBy, z_term, z_termBy, z_byNot, z_valueOf, ?_⟩
    by_cases h : s = 0
    · subst h
      rw [if_pos (show nI 0 = 0 from rfl)]
      rfl
    · rw [if_neg (nI_ne0 (by omega) (by omega)), if_pos (show nI 0 = 0 from rfl)]
      show _ = some (lN (if s = 0 then 1 else 0), z_kept, z_keptBy, z_ahead, z_against, z_sum, z_sumBy, z_term, z_termBy, z_byNot, z_valueOf)
      rw [if_neg h]; rfl
  | succ r ih =>
    intro n p s z_kept z_keptBy z_ahead z_against z_sum z_sumBy z_term z_termBy z_byNot z_valueOf hn hr hp hs hpr
    obtain ⟨n, rfl⟩ : ∃ g, n = g + 1 := ⟨n - 1, by omega⟩
    rw [f_X13_endsBy.eq_2]
    unfold f_X13_endsBy_s
    have loop : ∀ (fu k : Nat), k ≤ r + 1 → r + 1 < fu + k → (f_X13_endsBy_6 (f_X13_endsBy n) fu m_kind m_skill m_want m_grows m_lineFrom m_lineTo m_codes z_kept z_keptBy z_ahead z_against z_sum z_sumBy z_term z_termBy z_byNot z_valueOf (nI i) (nI d) (nI s) (nI p) (nI (r + 1)) (nI o) (lN (10 ^ k)) (nI k)) = (f_X13_endsBy_6 (f_X13_endsBy n) (0 + 1) m_kind m_skill m_want m_grows m_lineFrom m_lineTo m_codes z_kept z_keptBy z_ahead z_against z_sum z_sumBy z_term z_termBy z_byNot z_valueOf (nI i) (nI d) (nI s) (nI p) (nI (r + 1)) (nI o) (lN (10 ^ (r + 1))) (nI (r + 1))) := by
      intro fu
      induction fu with
      | zero => intro k h1 h2; omega
      | succ fu ihf =>
        intro k h1 h2
        by_cases h : k < r + 1
        · rw [f_X13_endsBy_6.eq_2, if_neg (by rw [nI_leI (by omega) (by omega)]; omega), nI_1]
          have e10 : lN (10 ^ k) * (10 : Int64) = lN (10 ^ (k + 1)) := by
            rw [Nat.pow_succ]; exact lN_mul (10 ^ k) 10
          rw [e10]
          exact ihf (k + 1) (by omega) (by omega)
        · have hk : k = r + 1 := by omega
          subst hk
          have hle : nI (r + 1) ≤ nI (r + 1) := Int32.le_refl _
          rw [f_X13_endsBy_6.eq_2, f_X13_endsBy_6.eq_2, if_pos hle, if_pos hle]
    have l0 : (f_X13_endsBy_6 (f_X13_endsBy n) 1100 m_kind m_skill m_want m_grows m_lineFrom m_lineTo m_codes z_kept z_keptBy z_ahead z_against z_sum z_sumBy z_term z_termBy z_byNot z_valueOf (nI i) (nI d) (nI s) (nI p) (nI (r + 1)) (nI o) (1 : Int64) 0) = _ := loop 1100 0 (by omega) (by omega)
    rw [l0, f_X13_endsBy_6.eq_2, if_pos (Int32.le_refl _)]
    by_cases h : s = 0
    · subst h
      rw [if_pos (show nI 0 = 0 from rfl), eN_0]
      exact ⟨z_kept, z_keptBy, z_ahead, z_against, z_sum, z_sumBy, z_term, z_termBy, z_byNot, z_valueOf, rfl⟩
    · rw [if_neg (nI_ne0 (by omega) (by omega)), if_neg (nI_ne0 (by omega) (by omega))]
      have eE : eN (wN sv i) g o (r + 1) p s = o * eN (wN sv i) g o r (p + 1) (min 99 (s + g)) + (10 - o) * eN (wN sv i) g o r (p + 1) (s - wN sv i s p) := if_neg h
      have b1 := eN_le (wN sv i) g ho r (p + 1) (min 99 (s + g))
      have b2 := eN_le (wN sv i) g ho r (p + 1) (s - wN sv i s p)
      have h83 : ∀ (a : Nat) (z_kept z_keptBy z_ahead z_against z_sum z_sumBy z_term z_termBy z_byNot z_valueOf : Nat → Int32), ∃ (y_kept y_keptBy y_ahead y_against y_sum y_sumBy y_term y_termBy y_byNot y_valueOf : Nat → Int32), (f_X13_endsBy_83 (f_X13_endsBy n) m_kind m_skill m_want m_grows m_lineFrom m_lineTo m_codes z_kept z_keptBy z_ahead z_against z_sum z_sumBy z_term z_termBy z_byNot z_valueOf (nI i) (nI d) (nI s) (nI p) (nI (r + 1)) (nI o) (lN a)) = some (lN (a + (10 - o) * eN (wN sv i) g o r (p + 1) (s - wN sv i s p)), y_kept, y_keptBy, y_ahead, y_against, y_sum, y_sumBy, y_term, y_termBy, y_byNot, y_valueOf) := by
        intro a z_kept z_keptBy z_ahead z_against z_sum z_sumBy z_term z_termBy z_byNot z_valueOf
        unfold f_X13_endsBy_83
        by_cases h10 : o = 10
        · subst h10
          rw [if_pos (show nI 10 = 10 by decide)]
          refine ⟨z_kept, z_keptBy, z_ahead, z_against, z_sum, z_sumBy, z_term, z_termBy, z_byNot, z_valueOf, ?_⟩
          rw [Nat.sub_self, Nat.zero_mul, Nat.add_zero]
          have : lN a + (0 : Int64) = lN a := lN_add a 0
          rw [this]
        · have hne : ¬ nI o = 10 := fun q => h10 ((nI_eq (a := o) (b := 10) (by omega) (by omega)).mp q)
          rw [if_neg hne]
          obtain ⟨y_kept, y_keptBy, y_ahead, y_against, y_sum, y_sumBy, y_term, y_termBy, y_byNot, y_valueOf, hy⟩ := hMS i hi (nI s) (nI p) z_kept z_keptBy z_ahead z_against z_sum z_sumBy z_term z_termBy z_byNot z_valueOf
          obtain ⟨ew, hw9⟩ := wN_eq (sv := sv) (i := i) (s := s) (p := p) (hw _ _)
          rw [hy, o_bs, ew]
          simp only []
          rw [dn_eq (by omega) hw9, nI_1, nI_pred]
          obtain ⟨v_kept, v_keptBy, v_ahead, v_against, v_sum, v_sumBy, v_term, v_termBy, v_byNot, v_valueOf, hv⟩ := ih n (p + 1) (s - wN sv i s p) y_kept y_keptBy y_ahead y_against y_sum y_sumBy y_term y_termBy y_byNot y_valueOf (by omega) (by omega) (by omega) (by omega) (by omega)
          have e10 : ((10 : Int32) - nI o).toInt64 = lN (10 - o) := by
            rw [show (10 : Int32) = nI 10 from rfl, pk_sub ho, nI_l (by omega)]
          rw [hv, o_bs, e10]
          simp only []
          rw [lN_mul, lN_add]
          exact ⟨v_kept, v_keptBy, v_ahead, v_against, v_sum, v_sumBy, v_term, v_termBy, v_byNot, v_valueOf, rfl⟩
      by_cases ho0 : o = 0
      · subst ho0
        rw [if_pos (show nI 0 = 0 from rfl), eE, Nat.zero_mul]
        exact h83 0 z_kept z_keptBy z_ahead z_against z_sum z_sumBy z_term z_termBy z_byNot z_valueOf
      · rw [if_neg (nI_ne0 (by omega) (by omega)), q_gd (by omega) (by omega), nI_clamp (by omega), hg, gu_eq (by omega) hg9, nI_1, nI_pred]
        obtain ⟨v_kept, v_keptBy, v_ahead, v_against, v_sum, v_sumBy, v_term, v_termBy, v_byNot, v_valueOf, hv⟩ := ih n (p + 1) (min 99 (s + g)) z_kept z_keptBy z_ahead z_against z_sum z_sumBy z_term z_termBy z_byNot z_valueOf (by omega) (by omega) (by omega) (by omega) (by omega)
        rw [hv, o_bs, nI_l (by omega)]
        simp only []
        rw [lN_mul, eE]
        exact h83 _ v_kept v_keptBy v_ahead v_against v_sum v_sumBy v_term v_termBy v_byNot v_valueOf
/-- chance, where it is asked rightly -/
theorem chanceM_eq (hc : RC M D Q sv kv c_men c_consuls c_dangers c_decrees c_term c_kinds c_skills c_fields c_wants c_hated c_sizes c_grows c_grounds l_ops l_worksFrom l_worksTo l_keepsFrom l_keepsTo m_city m_kind m_skill m_fieldTold m_want m_hates m_restsOn m_sizeTold m_grows m_lineFrom m_lineTo m_codes) (hR : RS s_month s_power s_master s_left s_kept s_passed s_sizes s_fields s_liked m_s) {i d g o m s0 : Nat} (hi : i < M) (hd : d < D) (hg : c_grows d = nI g) (hg9 : g ≤ 9) (ho : o ≤ 10) (hm1 : 1 ≤ m) (hm : m ≤ 12) (hs0 : s0 < 100) (hs : s_sizes d = nI s0) : ∃ (y_kept y_keptBy y_ahead y_against y_sum y_sumBy y_term y_termBy y_byNot y_valueOf : Nat → Int32), (f_X13_chance m_city m_kind m_skill m_want m_grows m_lineFrom m_lineTo m_codes z_kept z_keptBy z_ahead z_against z_sum z_sumBy z_term z_termBy z_byNot z_valueOf m_s (nI i) (nI d) (nI o) (nI m)) = some (chV (eN (wN sv i) g o m 0 s0) m, 0, y_kept, y_keptBy, y_ahead, y_against, y_sum, y_sumBy, y_term, y_termBy, y_byNot, y_valueOf) := by
  obtain ⟨⟨hM, hD, hQ⟩, ⟨rfl, rfl, rfl⟩, ⟨hc0, hc1, hc2, hc3, hc4⟩, hT2, hmm, hsk, hdd, hq, hsv, hkv, hCS, hCK, hMS, hMK⟩ := hc
  unfold f_X13_chance f_X13_chance_43
  rw [isMan_1 hc0 hM hi, isDanger_1 hc1 hD hd]
  simp only [o_bs, if_neg n10, if_neg n01, wth_eq]
  rw [wth_1 (nI_pos (by omega)) (by rw [show (10 : Int32) = nI 10 from rfl, nI_ltI (by omega) (by omega)]; omega), wth_1 (by rw [show (1 : Int32) = nI 1 from rfl, nI_ltI (by omega) (by omega)]; omega) (by rw [show (12 : Int32) = nI 12 from rfl, nI_ltI (by omega) (by omega)]; omega), if_neg n10, if_neg n10]
  have loop : ∀ (fu k : Nat), k ≤ m → m < fu + k → (f_X13_chance_62 fu 0 m_kind m_skill m_want m_grows m_lineFrom m_lineTo m_codes z_kept z_keptBy z_ahead z_against z_sum z_sumBy z_term z_termBy z_byNot z_valueOf m_s (nI i) (nI d) (nI o) (nI m) (lN (10 ^ k)) (nI k)) = (f_X13_chance_62 (0 + 1) 0 m_kind m_skill m_want m_grows m_lineFrom m_lineTo m_codes z_kept z_keptBy z_ahead z_against z_sum z_sumBy z_term z_termBy z_byNot z_valueOf m_s (nI i) (nI d) (nI o) (nI m) (lN (10 ^ m)) (nI m)) := by
    intro fu
    induction fu with
    | zero => intro k h1 h2; omega
    | succ fu ihf =>
      intro k h1 h2
      by_cases h : k < m
      · rw [f_X13_chance_62.eq_2, if_neg (by rw [nI_leI (by omega) (by omega)]; omega), nI_1]
        have e10 : lN (10 ^ k) * (10 : Int64) = lN (10 ^ (k + 1)) := by
          rw [Nat.pow_succ]; exact lN_mul (10 ^ k) 10
        rw [e10]
        exact ihf (k + 1) (by omega) (by omega)
      · have hk : k = m := by omega
        subst hk
        have hle : nI k ≤ nI k := Int32.le_refl _
        rw [f_X13_chance_62.eq_2, f_X13_chance_62.eq_2, if_pos hle, if_pos hle]
  have l0 : (f_X13_chance_62 1100 0 m_kind m_skill m_want m_grows m_lineFrom m_lineTo m_codes z_kept z_keptBy z_ahead z_against z_sum z_sumBy z_term z_termBy z_byNot z_valueOf m_s (nI i) (nI d) (nI o) (nI m) (1 : Int64) 0) = _ := loop 1100 0 (by omega) (by omega)
  rw [l0, f_X13_chance_62.eq_2, if_pos (Int32.le_refl _), qa_6, q_gd (by omega) (by omega), nI_clamp (by omega), hR.2.2.2.2.2.2.1 d (by omega), hs]
  obtain ⟨y_kept, y_keptBy, y_ahead, y_against, y_sum, y_sumBy, y_term, y_termBy, y_byNot, y_valueOf, hy⟩ := endsBy_eq hMS hi (fun a b => hsv i a b hi) (by omega) ((hdd d hd).2.1.trans hg) hg9 ho m 14 0 s0 z_kept z_keptBy z_ahead z_against z_sum z_sumBy z_term z_termBy z_byNot z_valueOf (by omega) hm (by omega) hs0 (by omega)
  have hy' : (f_X13_endsBy 14 m_kind m_skill m_want m_grows m_lineFrom m_lineTo m_codes z_kept z_keptBy z_ahead z_against z_sum z_sumBy z_term z_termBy z_byNot z_valueOf (nI i) (nI d) (nI s0) 0 (nI m) (nI o)) = some (lN (eN (wN sv i) g o m 0 s0), y_kept, y_keptBy, y_ahead, y_against, y_sum, y_sumBy, y_term, y_termBy, y_byNot, y_valueOf) := hy
  have hp := p10_lt hm
  have hpos : 0 < 10 ^ m := Nat.pow_pos (by decide)
  rw [hy', o_bs]
  unfold ngl
  rw [if_neg (by rw [show (0 : Int64) = lN 0 from rfl, pk_lEQ (by omega) (by decide)]; omega)]
  exact ⟨y_kept, y_keptBy, y_ahead, y_against, y_sum, y_sumBy, y_term, y_termBy, y_byNot, y_valueOf, rfl⟩
end
