/-! what can be undone -/
theorem q_ex {α : Type} {n k : Nat} {f : Nat → Option α} (h : k < n) : ex n (some k) f = f k := if_pos h
def cp23 (f : Nat → Int32) (a : Nat) (g : Nat → Int32) (b : Nat) : Nat → Int32 := fun i => if b ≤ i ∧ i < b + 23 then f (a + (i - b)) else g i
theorem copies_eq {n0 n2 a b : Nat} {f g : Nat → Int32} (h0 : a + 23 ≤ n0) (h2 : b + 23 ≤ n2) (hn0 : n0 ≤ 1000) (hn2 : n2 ≤ 1000) : f_X13_copies n0 f n2 g (nI a) (nI b) = some (cp23 f a g b) := by
  have key : ∀ (fu k : Nat) (g' : Nat → Int32), k ≤ 23 → 23 < fu + k → f_X13_copies_3 fu n0 f n2 g' (nI a) (nI b) (nI k) = some (fun i => if b + k ≤ i ∧ i < b + 23 then f (a + (i - b)) else g' i) := by
    intro fu
    induction fu with
    | zero => intro k g' h1 h2; omega
    | succ fu ih =>
      intro k g' h1 h2
      rw [f_X13_copies_3.eq_2]
      by_cases h : k < 23
      · rw [if_neg (by rw [show (23 : Int32) = nI 23 from rfl, nI_leI (by omega) (by omega)]; omega)]
        simp (disch := omega) only [nI_add, q_gd, nI_clamp, nI_1]
        rw [ih (k + 1) _ (by omega) (by omega)]
        congr 1; funext i
        simp only [upd_at]
        by_cases e : i = b + k
        · subst e
          rw [if_neg (by omega), if_pos rfl, if_pos (by omega), show b + k - b = k by omega]
        · rw [if_neg e]
          exact if_iff ⟨fun q => ⟨by omega, q.2⟩, fun q => ⟨by omega, q.2⟩⟩
      · rw [if_pos (by rw [show (23 : Int32) = nI 23 from rfl, nI_leI (by omega) (by omega)]; omega)]
        congr 1; funext i
        rw [if_neg (by omega)]
  have := key 1100 0 g (by omega) (by omega)
  rw [Nat.add_zero] at this
  exact this
def RP (M D : Nat) (h_steps h_next : Int32) (hb_month hb_power hb_master hb_left hb_kept hb_passed : Nat → Int32) (hb_sizes hb_fields hb_liked : Nat → Nat → Int32) (m_undone : Nat → Int32) (m_done : Int32) : Prop :=
  ∃ N x : Nat, N ≤ 16 ∧ x < 16 ∧ h_steps = nI N ∧ h_next = nI x ∧ m_done = nI N ∧ ∀ j, j < N → RS (hb_month ((x + 15 - j) % 16)) (hb_power ((x + 15 - j) % 16)) (hb_master ((x + 15 - j) % 16)) (hb_left ((x + 15 - j) % 16)) (hb_kept ((x + 15 - j) % 16)) (hb_passed ((x + 15 - j) % 16)) (hb_sizes ((x + 15 - j) % 16)) (hb_fields ((x + 15 - j) % 16)) (hb_liked ((x + 15 - j) % 16)) (fun i => m_undone (23 * (N - 1 - j) + i)) ∧
    GS M D (hb_month ((x + 15 - j) % 16)) (hb_power ((x + 15 - j) % 16)) (hb_master ((x + 15 - j) % 16)) (hb_left ((x + 15 - j) % 16)) (hb_kept ((x + 15 - j) % 16)) (hb_passed ((x + 15 - j) % 16)) (hb_sizes ((x + 15 - j) % 16)) (hb_fields ((x + 15 - j) % 16)) (hb_liked ((x + 15 - j) % 16))
section
variable {s_month s_power s_master s_left s_kept s_passed : Int32} {s_sizes s_fields s_liked : Nat → Int32} {a_month a_power a_master a_left a_kept a_passed : Int32} {a_sizes a_fields a_liked : Nat → Int32} {b_month b_power b_master b_left b_kept b_passed : Int32} {b_sizes b_fields b_liked : Nat → Int32} {m_s : Nat → Int32} {M D Q : Nat} {sv kv : Nat → Int32 → Int32 → Int32} {c_men c_consuls c_dangers c_decrees c_term : Int32} {c_kinds c_skills c_fields c_wants c_hated c_sizes c_grows c_grounds : Nat → Int32} {l_ops : Nat → Int32} {l_worksFrom l_worksTo l_keepsFrom l_keepsTo : Int32} {m_city m_kind m_skill m_fieldTold m_want m_hates m_restsOn m_sizeTold m_grows : Nat → Int32} {m_lineFrom m_lineTo m_codes : Nat → Int32} {z_kept z_keptBy z_ahead z_against z_sum z_sumBy z_term z_termBy z_byNot z_valueOf : Nat → Int32} {h_steps h_next m_done : Int32} {hb_month hb_power hb_master hb_left hb_kept hb_passed : Nat → Int32} {hb_sizes hb_fields hb_liked : Nat → Nat → Int32} {m_undone : Nat → Int32}
theorem copy_eq (hk : b_kept = 0 ∨ b_kept = 1) : (f_X9_copy a_sizes a_fields a_liked b_month b_power b_master b_left b_kept b_passed b_sizes b_fields b_liked) = some (b_month, b_power, b_master, b_left, b_kept, b_passed, cpr 5 b_sizes a_sizes, cpr 6 b_fields a_fields, cpr 6 b_liked a_liked) := by
  unfold f_X9_copy
  rw [q_zg hk, copyRow_eq (by omega), copyRow_eq (by omega), copyRow_eq (by omega)]
  rfl
theorem RS.rows (hR : RS s_month s_power s_master s_left s_kept s_passed s_sizes s_fields s_liked m_s) {f g h : Nat → Int32} (h1 : ∀ i, i < 5 → f i = s_sizes i) (h2 : ∀ i, i < 6 → g i = s_fields i) (h3 : ∀ i, i < 6 → h i = s_liked i) {m' : Nat → Int32} (h4 : ∀ i, i < 23 → m' i = m_s i) : RS s_month s_power s_master s_left s_kept s_passed f g h m' := by
  obtain ⟨e0, e1, e2, e3, e4, e5, e6, e7, e8⟩ := hR
  exact ⟨by rw [h4 0 (by omega)]; exact e0, by rw [h4 1 (by omega)]; exact e1, by rw [h4 2 (by omega)]; exact e2, by rw [h4 3 (by omega)]; exact e3, by rw [h4 4 (by omega)]; exact e4, by rw [h4 5 (by omega)]; exact e5, fun i hi => by rw [h4 _ (by omega), h1 i hi]; exact e6 i hi, fun i hi => by rw [h4 _ (by omega), h2 i hi]; exact e7 i hi, fun i hi => by rw [h4 _ (by omega), h3 i hi]; exact e8 i hi⟩
theorem RS.row (hR : RS s_month s_power s_master s_left s_kept s_passed s_sizes s_fields s_liked m_s) {m' : Nat → Int32} (h4 : ∀ i, i < 23 → m' i = m_s i) : RS s_month s_power s_master s_left s_kept s_passed s_sizes s_fields s_liked m' := hR.rows (fun _ _ => rfl) (fun _ _ => rfl) (fun _ _ => rfl) h4
theorem GS.rows (hG : GS M D s_month s_power s_master s_left s_kept s_passed s_sizes s_fields s_liked) {f g h : Nat → Int32} (h1 : ∀ i, i < 5 → f i = s_sizes i) (h2 : ∀ i, i < 6 → g i = s_fields i) : GS M D s_month s_power s_master s_left s_kept s_passed f g h := by
  obtain ⟨e0, e1, e2, e3, e4, e5, e6⟩ := hG
  exact ⟨e0, e1, e2, e3, fun i hi => by rw [h1 i hi]; exact e4 i hi, fun i h7 hi => by rw [h1 i hi]; exact e5 i h7 hi, fun i h7 hi => by rw [h2 i hi]; exact e6 i h7 hi⟩
theorem holds_eq {N : Nat} (hN : N ≤ 16) : ∃ und', (f_X13_holds m_s m_undone (nI N)) = some (und', nI (if N = 16 then 16 else N + 1)) ∧ (∀ i, i < 23 → und' (23 * (if N = 16 then 15 else N) + i) = m_s i) ∧ (∀ k i, k < (if N = 16 then 15 else N) → i < 23 → und' (23 * k + i) = m_undone (23 * (if N = 16 then k + 1 else k) + i)) := by
  unfold f_X13_holds
  have h49 : ∀ (K : Nat) (u : Nat → Int32), K ≤ 15 → f_X13_holds_49 m_s u (nI K) = some (cp23 m_s 0 u (23 * K), nI (K + 1)) := by
    intro K u hK
    unfold f_X13_holds_49
    rw [qm_23]
    have e : f_X13_copies 23 m_s 368 u 0 (nI (23 * K)) = some (cp23 m_s 0 u (23 * K)) := copies_eq (a := 0) (b := 23 * K) (by omega) (by omega) (by omega) (by omega)
    rw [e, o_bs, nI_1]
  by_cases h : N = 16
  · subst h
    rw [if_pos (show nI 16 = 16 by decide)]
    have key : ∀ (fu k : Nat) (u : Nat → Int32), k ≤ 345 → 345 < fu + k → f_X13_holds_11 fu m_s u (nI 16) (nI k) = f_X13_holds_49 m_s (fun i => if k ≤ i ∧ i < 345 then u (i + 23) else u i) (nI 15) := by
      intro fu
      induction fu with
      | zero => intro k u h1 h2; omega
      | succ fu ih =>
        intro k u h1 h2
        rw [f_X13_holds_11.eq_2]
        by_cases h : k < 345
        · rw [if_neg (by rw [show (345 : Int32) = nI 345 from rfl, nI_leI (by omega) (by omega)]; omega), show nI k + 23 = nI (k + 23) from nI_add k 23]
          simp (disch := omega) only [q_gd, nI_clamp, nI_1]
          rw [ih (k + 1) _ (by omega) (by omega)]
          congr 1; funext i
          simp only [upd_at]
          by_cases e : i = k
          · subst e
            rw [if_neg (by omega), if_pos rfl, if_pos ⟨Nat.le_refl _, h⟩]
          · rw [if_neg e]
            by_cases h3 : k ≤ i
            · rw [if_neg (show ¬ i + 23 = k by omega)]
              exact if_iff ⟨fun q => ⟨h3, q.2⟩, fun q => ⟨by omega, q.2⟩⟩
            · rw [if_neg (show ¬ (k + 1 ≤ i ∧ i < 345) by omega), if_neg (show ¬ (k ≤ i ∧ i < 345) by omega)]
        · rw [if_pos (by rw [show (345 : Int32) = nI 345 from rfl, nI_leI (by omega) (by omega)]; omega), show nI 16 - 1 = nI 15 from by decide]
          congr 1; funext i
          rw [if_neg (by omega)]
    have e0 := key 1100 0 m_undone (by omega) (by omega)
    refine ⟨cp23 m_s 0 (fun i => if 0 ≤ i ∧ i < 345 then m_undone (i + 23) else m_undone i) (23 * 15), ?_, fun i hi => ?_, fun k i hk hi => ?_⟩
    · rw [if_pos rfl]
      exact e0.trans (h49 15 _ (by omega))
    · rw [if_pos rfl]
      unfold cp23
      rw [if_pos (by omega), Nat.zero_add, show 23 * 15 + i - 23 * 15 = i by omega]
    · rw [if_pos rfl] at hk ⊢
      unfold cp23
      rw [if_neg (by omega)]
      show (if 0 ≤ 23 * k + i ∧ 23 * k + i < 345 then m_undone (23 * k + i + 23) else m_undone (23 * k + i)) = _
      rw [if_pos (by omega), show 23 * k + i + 23 = 23 * (k + 1) + i by omega]
  · have hne : ¬ nI N = 16 := fun q => h ((nI_eq (a := N) (b := 16) (by omega) (by omega)).mp q)
    rw [if_neg hne]
    simp only [if_neg h]
    refine ⟨cp23 m_s 0 m_undone (23 * N), h49 N _ (by omega), fun i hi => ?_, fun k i hk hi => ?_⟩
    · unfold cp23
      rw [if_pos (by omega), Nat.zero_add, show 23 * N + i - 23 * N = i by omega]
    · unfold cp23
      rw [if_neg (by omega)]
theorem beforeAt_eq {x : Nat} (hx : x < 16) : f_X5_beforeAt (nI x) = some (some x) := by
  unfold f_X5_beforeAt
  rw [if_neg (nI_pos (by omega)), if_neg (by rw [show (16 : Int32) = nI 16 from rfl, nI_leI (by omega) (by omega)]; omega), q_gd hx (by omega), nI_clamp (by omega)]
theorem push_rel (hP : RP M D h_steps h_next hb_month hb_power hb_master hb_left hb_kept hb_passed hb_sizes hb_fields hb_liked m_undone m_done) (hR : RS s_month s_power s_master s_left s_kept s_passed s_sizes s_fields s_liked m_s) (hG : GS M D s_month s_power s_master s_left s_kept s_passed s_sizes s_fields s_liked) : ∃ (hs hn : Int32) (g_month g_power g_master g_left g_kept g_passed : Nat → Int32) (g_sizes g_fields g_liked : Nat → Nat → Int32) (und' : Nat → Int32) (dn' : Int32), (f_X5_push h_steps h_next hb_month hb_power hb_master hb_left hb_kept hb_passed hb_sizes hb_fields hb_liked s_month s_power s_master s_left s_kept s_passed s_sizes s_fields s_liked) = some (hs, hn, g_month, g_power, g_master, g_left, g_kept, g_passed, g_sizes, g_fields, g_liked) ∧ (f_X13_holds m_s m_undone m_done) = some (und', dn') ∧ RP M D hs hn g_month g_power g_master g_left g_kept g_passed g_sizes g_fields g_liked und' dn' := by
  obtain ⟨N, x, hN, hx, rfl, rfl, rfl, hrow⟩ := hP
  obtain ⟨und', hh, h1, h2⟩ := holds_eq (m_s := m_s) (m_undone := m_undone) hN
  unfold f_X5_push
  rw [beforeAt_eq hx, o_bs, if_neg (by simp), q_ex hx, copy_eq hG.2.2.1, o_bs, hh]
  refine ⟨_, _, _, _, _, _, _, _, _, _, _, und', _, rfl, rfl, ⟨if N = 16 then 16 else N + 1, (x + 1) % 16, by split <;> omega, by omega, ?_, ?_, rfl, fun j hj => ?_⟩⟩
  · show (if nI N + 1 < 16 then nI N + 1 else 16) = _
    rw [nI_1]
    by_cases h : N = 16
    · subst h; decide
    · rw [if_neg h]
      by_cases h9 : N = 15
      · subst h9; decide
      · rw [if_pos (by rw [show (16 : Int32) = nI 16 from rfl, nI_ltI (by omega) (by omega)]; omega)]
  · rw [nI_1]
    exact pk_rem (a := x + 1) (d := 16) (by omega) (by omega) (by omega)
  · by_cases h0 : j = 0
    · subst h0
      have ex1 : ((x + 1) % 16 + 15 - 0) % 16 = x := by omega
      rw [ex1]
      simp only [up_at, if_pos]
      have er : (if N = 16 then 16 else N + 1) - 1 - 0 = (if N = 16 then 15 else N) := by split <;> omega
      rw [er]
      exact ⟨hR.rows (fun i hi => cpr_lt hi) (fun i hi => cpr_lt hi) (fun i hi => cpr_lt hi) (fun i hi => h1 i hi), hG.rows (fun i hi => cpr_lt hi) (fun i hi => cpr_lt hi)⟩
    · have hjN : j - 1 < N := by split at hj <;> omega
      obtain ⟨r1, r2⟩ := hrow (j - 1) hjN
      have hj15 : j ≤ 15 := by split at hj <;> omega
      have ex1 : ((x + 1) % 16 + 15 - j) % 16 = (x + 15 - (j - 1)) % 16 := by omega
      rw [ex1]
      have hne : ¬ (x + 15 - (j - 1)) % 16 = x := by omega
      simp only [up_at, if_neg hne]
      refine ⟨r1.row (fun i hi => ?_), r2⟩
      have := h2 ((if N = 16 then 16 else N + 1) - 1 - j) i (by split <;> split at hj <;> omega) hi
      rw [this]
      congr 1
      split <;> split at hj <;> omega
theorem pop_rel (hP : RP M D h_steps h_next hb_month hb_power hb_master hb_left hb_kept hb_passed hb_sizes hb_fields hb_liked m_undone m_done) (hR : RS s_month s_power s_master s_left s_kept s_passed s_sizes s_fields s_liked m_s) (hG : GS M D s_month s_power s_master s_left s_kept s_passed s_sizes s_fields s_liked) : ∃ (v : Int32) (t_month t_power t_master t_left t_kept t_passed : Int32) (t_sizes t_fields t_liked : Nat → Int32) (hs hn : Int32) (ms' : Nat → Int32) (dn' : Int32), (f_X12_undo s_month s_power s_master s_left s_kept s_passed s_sizes s_fields s_liked h_steps h_next hb_month hb_power hb_master hb_left hb_kept hb_passed hb_sizes hb_fields hb_liked) = some (v, t_month, t_power, t_master, t_left, t_kept, t_passed, t_sizes, t_fields, t_liked, hs, hn) ∧ (f_X13_undo m_s m_undone m_done) = some (v, 0, ms', dn') ∧ RP M D hs hn hb_month hb_power hb_master hb_left hb_kept hb_passed hb_sizes hb_fields hb_liked m_undone dn' ∧ RS t_month t_power t_master t_left t_kept t_passed t_sizes t_fields t_liked ms' ∧ GS M D t_month t_power t_master t_left t_kept t_passed t_sizes t_fields t_liked := by
  have hP0 := hP
  obtain ⟨N, x, hN, hx, rfl, rfl, rfl, hrow⟩ := hP
  unfold f_X12_undo f_X5_pop f_X13_undo
  have e1 : nI x + 16 - 1 = nI (x + 15) := by
    rw [show nI x + 16 = nI (x + 16) from nI_add x 16]
    exact nI_pred (x + 15)
  rw [e1, show nI (x + 15) - nI (x + 15) / 16 * 16 = nI ((x + 15) % 16) from pk_rem (a := x + 15) (d := 16) (by omega) (by omega) (by omega), beforeAt_eq (by omega), o_bs]
  by_cases h0 : N = 0
  · subst h0
    rw [if_pos (show nI 0 = 0 from rfl), if_pos (show nI 0 = 0 from rfl), o_bs, q_zg0]
    exact ⟨_, _, _, _, _, _, _, _, _, _, _, _, _, _, rfl, rfl, hP0, hR, hG⟩
  · have hn0 : ¬ nI N = 0 := nI_ne0 (by omega) (by omega)
    obtain ⟨r1, r2⟩ := hrow 0 (by omega)
    rw [Nat.sub_zero] at r1 r2
    rw [if_neg hn0, if_neg hn0, if_neg (by simp), q_ex (by omega), copy_eq r2.2.2.1, o_bs, o_bs, q_zg1]
    have e2 : nI N - 1 = nI (N - 1) := by
      obtain ⟨K, rfl⟩ : ∃ K, N = K + 1 := ⟨N - 1, by omega⟩
      exact nI_pred K
    rw [e2, qm_23]
    have e3 : f_X13_copies 368 m_undone 23 m_s (nI (23 * (N - 1))) 0 = some (cp23 m_undone (23 * (N - 1)) m_s 0) := copies_eq (b := 0) (by omega) (by omega) (by omega) (by omega)
    rw [e3, o_bs]
    refine ⟨_, _, _, _, _, _, _, _, _, _, _, _, _, _, rfl, rfl, ⟨N - 1, (x + 15) % 16, by omega, by omega, rfl, rfl, rfl, fun j hj => ?_⟩, r1.rows (fun i hi => cpr_lt hi) (fun i hi => cpr_lt hi) (fun i hi => cpr_lt hi) (fun i hi => ?_), r2.rows (fun i hi => cpr_lt hi) (fun i hi => cpr_lt hi)⟩
    · have := hrow (j + 1) (by omega)
      rw [show (x + 15 - (j + 1)) % 16 = ((x + 15) % 16 + 15 - j) % 16 by omega, show N - 1 - (j + 1) = N - 1 - 1 - j by omega] at this
      exact this
    · unfold cp23
      rw [if_pos (by omega)]
      congr 1
end
