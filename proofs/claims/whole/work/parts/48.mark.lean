/-! marks, counts -/
def cpn (n : Nat) (f : Nat → Int32) (a b : Nat) : Nat → Int32 := fun i => if n * b ≤ i ∧ i < n * b + n then f (n * a + (i - n * b)) else f i
theorem cpn_in {n a b i : Nat} {f : Nat → Int32} (h : i < n) : cpn n f a b (n * b + i) = f (n * a + i) := by
  unfold cpn
  rw [if_pos (by omega)]
  congr 1; omega
theorem cpn_out {n a b i : Nat} {f : Nat → Int32} (h : ¬ (n * b ≤ i ∧ i < n * b + n)) : cpn n f a b i = f i := if_neg h
theorem row_apart {n b ρ i : Nat} (h : ¬ ρ = b) (hi : i < n) : ¬ (n * b ≤ n * ρ + i ∧ n * ρ + i < n * b + n) := by
  intro ⟨h1, h2⟩
  rcases Nat.lt_or_gt_of_ne h with q | q
  · have := Nat.mul_le_mul_left n (show ρ + 1 ≤ b by omega)
    rw [Nat.mul_add, Nat.mul_one] at this
    omega
  · have := Nat.mul_le_mul_left n (show b + 1 ≤ ρ by omega)
    rw [Nat.mul_add, Nat.mul_one] at this
    omega
section
variable {s_month s_power s_master s_left s_kept s_passed : Int32} {s_sizes s_fields s_liked : Nat → Int32} {j_lines : Int32} {j_kinds j_firsts j_seconds : Nat → Int32} {i_lines : Int32} {i_kinds i_firsts i_seconds : Nat → Int32} {r_told : Int32} {r_dangers r_months r_sizes : Nat → Int32} {e_told : Int32} {e_dangers e_months e_sizes : Nat → Int32} {m_s m_lines m_lineWhat m_lineA m_lineB m_tolds m_toldDanger m_toldMonths m_toldSize m_marked m_isLaid : Nat → Int32} {M D Q : Nat} {h_steps h_next m_done : Int32} {hb_month hb_power hb_master hb_left hb_kept hb_passed : Nat → Int32} {hb_sizes hb_fields hb_liked : Nat → Nat → Int32} {m_undone : Nat → Int32} {q_laid : Nat → Int32} {qs_month qs_power qs_master qs_left qs_kept qs_passed : Nat → Int32} {qs_sizes qs_fields qs_liked : Nat → Nat → Int32} {qj_lines : Nat → Int32} {qj_kinds qj_firsts qj_seconds : Nat → Nat → Int32} {qr_told : Nat → Int32} {qr_dangers qr_months qr_sizes : Nat → Nat → Int32}
theorem laysLines_eq {a b : Nat} (ha : a < 6) (hb : b < 6) (hab : ¬ a = b) : (f_X13_laysLines m_lines m_lineWhat m_lineA m_lineB (nI a) (nI b)) = some (upd m_lines b (m_lines a), cpn 40 m_lineWhat a b, cpn 40 m_lineA a b, cpn 40 m_lineB a b) := by
  unfold f_X13_laysLines
  rw [q_gd ha (by omega), q_gd hb (by omega), nI_clamp (by omega), nI_clamp (by omega)]
  have key : ∀ (fu k : Nat) (L f g h : Nat → Int32), k ≤ 40 → 40 < fu + k → f_X13_laysLines_14 fu L f g h (nI a) (nI b) (nI k) = some (L, (fun i => if 40 * b + k ≤ i ∧ i < 40 * b + 40 then f (40 * a + (i - 40 * b)) else f i), (fun i => if 40 * b + k ≤ i ∧ i < 40 * b + 40 then g (40 * a + (i - 40 * b)) else g i), (fun i => if 40 * b + k ≤ i ∧ i < 40 * b + 40 then h (40 * a + (i - 40 * b)) else h i)) := by
    intro fu
    induction fu with
    | zero => intro k L f g h h1 h2; omega
    | succ fu ih =>
      intro k L f g h h1 h2
      rw [f_X13_laysLines_14.eq_2]
      by_cases hk : k < 40
      · rw [if_neg (by rw [show (40 : Int32) = nI 40 from rfl, nI_leI (by omega) (by omega)]; omega)]
        simp (disch := omega) only [qm_40, nI_add, q_gd, nI_clamp, nI_1]
        rw [ih (k + 1) _ _ _ _ (by omega) (by omega)]
        have e : ∀ f : Nat → Int32, (fun i => if 40 * b + (k + 1) ≤ i ∧ i < 40 * b + 40 then upd f (40 * b + k) (f (40 * a + k)) (40 * a + (i - 40 * b)) else upd f (40 * b + k) (f (40 * a + k)) i) = (fun i => if 40 * b + k ≤ i ∧ i < 40 * b + 40 then f (40 * a + (i - 40 * b)) else f i) := by
          intro f
          funext i
          simp only [upd_at]
          by_cases e : i = 40 * b + k
          · subst e
            rw [if_neg (by omega), if_pos rfl, if_pos (by omega), show 40 * b + k - 40 * b = k by omega]
          · rw [if_neg e]
            by_cases h3 : 40 * b + k ≤ i ∧ i < 40 * b + 40
            · rw [if_pos h3, if_pos (by omega), if_neg (by omega)]
            · rw [if_neg h3, if_neg (by omega)]
        rw [e f, e g, e h]
      · rw [if_pos (by rw [show (40 : Int32) = nI 40 from rfl, nI_leI (by omega) (by omega)]; omega)]
        have e : ∀ f : Nat → Int32, (fun i => if 40 * b + k ≤ i ∧ i < 40 * b + 40 then f (40 * a + (i - 40 * b)) else f i) = f := by
          intro f; funext i; rw [if_neg (by omega)]
        rw [e f, e g, e h]
  have := key 1100 0 (upd m_lines b (m_lines a)) m_lineWhat m_lineA m_lineB (by omega) (by omega)
  simp only [Nat.add_zero] at this
  exact this
theorem laysTold_eq {a b : Nat} (ha : a < 5) (hb : b < 5) (hab : ¬ a = b) : (f_X13_laysTold m_tolds m_toldDanger m_toldMonths m_toldSize (nI a) (nI b)) = some (upd m_tolds b (m_tolds a), cpn 8 m_toldDanger a b, cpn 8 m_toldMonths a b, cpn 8 m_toldSize a b) := by
  unfold f_X13_laysTold
  rw [q_gd ha (by omega), q_gd hb (by omega), nI_clamp (by omega), nI_clamp (by omega)]
  have key : ∀ (fu k : Nat) (L f g h : Nat → Int32), k ≤ 8 → 8 < fu + k → f_X13_laysTold_14 fu L f g h (nI a) (nI b) (nI k) = some (L, (fun i => if 8 * b + k ≤ i ∧ i < 8 * b + 8 then f (8 * a + (i - 8 * b)) else f i), (fun i => if 8 * b + k ≤ i ∧ i < 8 * b + 8 then g (8 * a + (i - 8 * b)) else g i), (fun i => if 8 * b + k ≤ i ∧ i < 8 * b + 8 then h (8 * a + (i - 8 * b)) else h i)) := by
    intro fu
    induction fu with
    | zero => intro k L f g h h1 h2; omega
    | succ fu ih =>
      intro k L f g h h1 h2
      rw [f_X13_laysTold_14.eq_2]
      by_cases hk : k < 8
      · rw [if_neg (by rw [show (8 : Int32) = nI 8 from rfl, nI_leI (by omega) (by omega)]; omega)]
        simp (disch := omega) only [qm_8, nI_add, q_gd, nI_clamp, nI_1]
        rw [ih (k + 1) _ _ _ _ (by omega) (by omega)]
        have e : ∀ f : Nat → Int32, (fun i => if 8 * b + (k + 1) ≤ i ∧ i < 8 * b + 8 then upd f (8 * b + k) (f (8 * a + k)) (8 * a + (i - 8 * b)) else upd f (8 * b + k) (f (8 * a + k)) i) = (fun i => if 8 * b + k ≤ i ∧ i < 8 * b + 8 then f (8 * a + (i - 8 * b)) else f i) := by
          intro f
          funext i
          simp only [upd_at]
          by_cases e : i = 8 * b + k
          · subst e
            rw [if_neg (by omega), if_pos rfl, if_pos (by omega), show 8 * b + k - 8 * b = k by omega]
          · rw [if_neg e]
            by_cases h3 : 8 * b + k ≤ i ∧ i < 8 * b + 8
            · rw [if_pos h3, if_pos (by omega), if_neg (by omega)]
            · rw [if_neg h3, if_neg (by omega)]
        rw [e f, e g, e h]
      · rw [if_pos (by rw [show (8 : Int32) = nI 8 from rfl, nI_leI (by omega) (by omega)]; omega)]
        have e : ∀ f : Nat → Int32, (fun i => if 8 * b + k ≤ i ∧ i < 8 * b + 8 then f (8 * a + (i - 8 * b)) else f i) = f := by
          intro f; funext i; rw [if_neg (by omega)]
        rw [e f, e g, e h]
  have := key 1100 0 (upd m_tolds b (m_tolds a)) m_toldDanger m_toldMonths m_toldSize (by omega) (by omega)
  simp only [Nat.add_zero] at this
  exact this
theorem RL.rows {ρ σ : Nat} (h : RL M D ρ j_lines j_kinds j_firsts j_seconds m_lines m_lineWhat m_lineA m_lineB) {k' f' s' : Nat → Int32} (h1 : ∀ i, i < 40 → k' i = j_kinds i) (h2 : ∀ i, i < 40 → f' i = j_firsts i) (h3 : ∀ i, i < 40 → s' i = j_seconds i) {l1 l2 l3 l4 : Nat → Int32} (g1 : l1 σ = m_lines ρ) (g2 : ∀ i, i < 40 → l2 (40 * σ + i) = m_lineWhat (40 * ρ + i)) (g3 : ∀ i, i < 40 → l3 (40 * σ + i) = m_lineA (40 * ρ + i)) (g4 : ∀ i, i < 40 → l4 (40 * σ + i) = m_lineB (40 * ρ + i)) : RL M D σ j_lines k' f' s' l1 l2 l3 l4 := by
  obtain ⟨T, hT, e1, e2, e3⟩ := h
  refine ⟨T, hT, e1, g1.trans e2, fun i hi => ?_⟩
  rw [h1 i (by omega), h2 i (by omega), h3 i (by omega), g2 i (by omega), g3 i (by omega), g4 i (by omega)]
  exact e3 i hi
theorem RT.rows {ρ σ : Nat} (h : RT D ρ r_told r_dangers r_months r_sizes m_tolds m_toldDanger m_toldMonths m_toldSize) {k' f' s' : Nat → Int32} (h1 : ∀ i, i < 8 → k' i = r_dangers i) (h2 : ∀ i, i < 8 → f' i = r_months i) (h3 : ∀ i, i < 8 → s' i = r_sizes i) {l1 l2 l3 l4 : Nat → Int32} (g1 : l1 σ = m_tolds ρ) (g2 : ∀ i, i < 8 → l2 (8 * σ + i) = m_toldDanger (8 * ρ + i)) (g3 : ∀ i, i < 8 → l3 (8 * σ + i) = m_toldMonths (8 * ρ + i)) (g4 : ∀ i, i < 8 → l4 (8 * σ + i) = m_toldSize (8 * ρ + i)) : RT D σ r_told k' f' s' l1 l2 l3 l4 := by
  obtain ⟨T, hT, e1, e2, e3⟩ := h
  refine ⟨T, hT, e1, g1.trans e2, fun i hi => ?_⟩
  rw [h1 i (by omega), h2 i (by omega), h3 i (by omega), g2 i (by omega), g3 i (by omega), g4 i (by omega)]
  exact e3 i hi
def RM (M D : Nat) (q_laid : Nat → Int32) (qs_month qs_power qs_master qs_left qs_kept qs_passed : Nat → Int32) (qs_sizes qs_fields qs_liked : Nat → Nat → Int32) (qj_lines : Nat → Int32) (qj_kinds qj_firsts qj_seconds : Nat → Nat → Int32) (qr_told : Nat → Int32) (qr_dangers qr_months qr_sizes : Nat → Nat → Int32) (m_lines m_lineWhat m_lineA m_lineB m_tolds m_toldDanger m_toldMonths m_toldSize m_marked m_isLaid : Nat → Int32) : Prop :=
  ∀ k, k < 4 → q_laid k = m_isLaid k ∧ (q_laid k = 0 ∨ q_laid k = 1) ∧ (¬ q_laid k = 0 →
    RS (qs_month k) (qs_power k) (qs_master k) (qs_left k) (qs_kept k) (qs_passed k) (qs_sizes k) (qs_fields k) (qs_liked k) (fun i => m_marked (23 * k + i)) ∧ GS M D (qs_month k) (qs_power k) (qs_master k) (qs_left k) (qs_kept k) (qs_passed k) (qs_sizes k) (qs_fields k) (qs_liked k) ∧
    RL M D (1 + k) (qj_lines k) (qj_kinds k) (qj_firsts k) (qj_seconds k) m_lines m_lineWhat m_lineA m_lineB ∧ RT D (1 + k) (qr_told k) (qr_dangers k) (qr_months k) (qr_sizes k) m_tolds m_toldDanger m_toldMonths m_toldSize)
theorem copyS_eq : (f_X8_copy i_kinds i_firsts i_seconds j_lines j_kinds j_firsts j_seconds) = some (j_lines, cpr 40 j_kinds i_kinds, cpr 40 j_firsts i_firsts, cpr 40 j_seconds i_seconds) := by
  unfold f_X8_copy
  rw [copyRow_eq (by omega), copyRow_eq (by omega), copyRow_eq (by omega)]
  rfl
theorem copyR_eq : (f_X7_copy e_dangers e_months e_sizes r_told r_dangers r_months r_sizes) = some (r_told, cpr 8 r_dangers e_dangers, cpr 8 r_months e_months, cpr 8 r_sizes e_sizes) := by
  unfold f_X7_copy
  rw [copyRow_eq (by omega), copyRow_eq (by omega), copyRow_eq (by omega)]
  rfl
theorem markAt_eq {x : Nat} (hx : x < 4) : f_X12_markAt (nI x) = some (some x) := by
  unfold f_X12_markAt
  rw [if_neg (nI_pos (by omega)), if_neg (by rw [show (4 : Int32) = nI 4 from rfl, nI_leI (by omega) (by omega)]; omega), q_gd hx (by omega), nI_clamp (by omega)]
theorem markAt_no {x : Int32} (h : x < 0 ∨ nI 4 ≤ x) : f_X12_markAt x = some none := by
  unfold f_X12_markAt
  by_cases h0 : x < 0
  · rw [if_pos h0]
  · rw [if_neg h0, if_pos (show (4 : Int32) ≤ x from h.resolve_left h0)]
theorem call_mark (hR : RS s_month s_power s_master s_left s_kept s_passed s_sizes s_fields s_liked m_s) (hG : GS M D s_month s_power s_master s_left s_kept s_passed s_sizes s_fields s_liked) (hL : RL M D 0 j_lines j_kinds j_firsts j_seconds m_lines m_lineWhat m_lineA m_lineB) (hT : RT D 0 r_told r_dangers r_months r_sizes m_tolds m_toldDanger m_toldMonths m_toldSize) (hM : RM M D q_laid qs_month qs_power qs_master qs_left qs_kept qs_passed qs_sizes qs_fields qs_liked qj_lines qj_kinds qj_firsts qj_seconds qr_told qr_dangers qr_months qr_sizes m_lines m_lineWhat m_lineA m_lineB m_tolds m_toldDanger m_toldMonths m_toldSize m_marked m_isLaid) (hP : RP M D h_steps h_next hb_month hb_power hb_master hb_left hb_kept hb_passed hb_sizes hb_fields hb_liked m_undone m_done) (x1 x2 : Int32) :
    ∃ (v : Int32) (ql : Nat → Int32) (a_told : Nat → Int32) (a_dangers a_months a_sizes : Nat → Nat → Int32) (b_lines : Nat → Int32) (b_kinds b_firsts b_seconds : Nat → Nat → Int32) (g_month g_power g_master g_left g_kept g_passed : Nat → Int32) (g_sizes g_fields g_liked : Nat → Nat → Int32) (t_month t_power t_master t_left t_kept t_passed : Int32) (t_sizes t_fields t_liked : Nat → Int32) (hs : Int32) (e_told : Int32) (e_dangers e_months e_sizes : Nat → Int32) (f_lines : Int32) (f_kinds f_firsts f_seconds : Nat → Int32), (f_X12_mark q_laid qr_told qr_dangers qr_months qr_sizes qj_lines qj_kinds qj_firsts qj_seconds qs_month qs_power qs_master qs_left qs_kept qs_passed qs_sizes qs_fields qs_liked s_month s_power s_master s_left s_kept s_passed s_sizes s_fields s_liked h_steps r_told r_dangers r_months r_sizes j_lines j_kinds j_firsts j_seconds x1 x2) = some (v, ql, a_told, a_dangers, a_months, a_sizes, b_lines, b_kinds, b_firsts, b_seconds, g_month, g_power, g_master, g_left, g_kept, g_passed, g_sizes, g_fields, g_liked, t_month, t_power, t_master, t_left, t_kept, t_passed, t_sizes, t_fields, t_liked, hs, e_told, e_dangers, e_months, e_sizes, f_lines, f_kinds, f_firsts, f_seconds) ∧
    ∃ (l1 l2 l3 l4 t1 t2 t3 t4 ms' mk' il' : Nat → Int32) (dn' : Int32), (f_X13_mark m_lines m_lineWhat m_lineA m_lineB m_tolds m_toldDanger m_toldMonths m_toldSize m_s m_marked m_isLaid m_done x1 x2) = some (v, 0, l1, l2, l3, l4, t1, t2, t3, t4, ms', mk', il', dn') ∧ RS t_month t_power t_master t_left t_kept t_passed t_sizes t_fields t_liked ms' ∧ GS M D t_month t_power t_master t_left t_kept t_passed t_sizes t_fields t_liked ∧ RL M D 0 f_lines f_kinds f_firsts f_seconds l1 l2 l3 l4 ∧ RT D 0 e_told e_dangers e_months e_sizes t1 t2 t3 t4 ∧ RM M D ql g_month g_power g_master g_left g_kept g_passed g_sizes g_fields g_liked b_lines b_kinds b_firsts b_seconds a_told a_dangers a_months a_sizes l1 l2 l3 l4 t1 t2 t3 t4 mk' il' ∧ RP M D hs h_next hb_month hb_power hb_master hb_left hb_kept hb_passed hb_sizes hb_fields hb_liked m_undone dn' := by
  unfold f_X12_mark f_X13_mark
  rcases ix x1 4 (by omega) with h | ⟨k, hk, rfl⟩
  · have hw : f_X12_within x1 0 3 = 0 := wth_0 (by
      rcases h with q | q
      · exact Or.inl q
      · right; rw [i_le, nI_toInt (by omega)] at q; rw [i_lt, show (3 : Int32) = nI 3 from rfl, nI_toInt (by omega)]; omega)
    rw [markAt_no h, o_bs, if_pos rfl, wth_eq, hw, if_pos e00]
    exact ⟨_, _, qr_told, qr_dangers, qr_months, qr_sizes, qj_lines, qj_kinds, qj_firsts, qj_seconds, qs_month, qs_power, qs_master, qs_left, qs_kept, qs_passed, qs_sizes, qs_fields, qs_liked, s_month, s_power, s_master, s_left, s_kept, s_passed, s_sizes, s_fields, s_liked, _, r_told, r_dangers, r_months, r_sizes, j_lines, j_kinds, j_firsts, j_seconds, rfl, _, _, _, _, _, _, _, _, _, _, _, _, rfl, hR, hG, hL, hT, hM, hP⟩
  · have hw : f_X12_within (nI k) 0 3 = 1 := wth_1 (nI_pos (by omega)) (by rw [show (3 : Int32) = nI 3 from rfl, nI_ltI (by omega) (by omega)]; omega)
    obtain ⟨m1, m2, m3⟩ := hM k hk
    rw [markAt_eq hk, o_bs, if_neg (by simp), wth_eq, hw, if_neg n10]
    by_cases hx : x2 = 0
    · -- laid
      simp only [if_pos hx]
      unfold f_X13_mark_29 f_X13_mark_47 f_X13_mark_59 f_X4_hold
      have eL : (f_X13_laysLines m_lines m_lineWhat m_lineA m_lineB 0 (nI (1 + k))) = some (upd m_lines (1 + k) (m_lines 0), cpn 40 m_lineWhat 0 (1 + k), cpn 40 m_lineA 0 (1 + k), cpn 40 m_lineB 0 (1 + k)) := laysLines_eq (a := 0) (by omega) (by omega) (by omega)
      have eT : (f_X13_laysTold m_tolds m_toldDanger m_toldMonths m_toldSize 0 (nI (1 + k))) = some (upd m_tolds (1 + k) (m_tolds 0), cpn 8 m_toldDanger 0 (1 + k), cpn 8 m_toldMonths 0 (1 + k), cpn 8 m_toldSize 0 (1 + k)) := laysTold_eq (a := 0) (by omega) (by omega) (by omega)
      have eC : f_X13_copies 23 m_s 92 m_marked 0 (nI (23 * k)) = some (cp23 m_s 0 m_marked (23 * k)) := copies_eq (a := 0) (by omega) (by omega) (by omega) (by omega)
      rw [q_ex hk, copy_eq hG.2.2.1, o_bs, copyS_eq, o_bs, copyR_eq, o_bs, o_bs, q_gd hk (by omega), nI_clamp (by omega), qa_1, qm_23]
      simp only [if_pos hx]
      rw [eL, o_bs, eT, o_bs, eC, o_bs]
      refine ⟨_, _, _, _, _, _, _, _, _, _, _, _, _, _, _, _, _, _, _, s_month, s_power, s_master, s_left, s_kept, s_passed, s_sizes, s_fields, s_liked, _, r_told, r_dangers, r_months, r_sizes, j_lines, j_kinds, j_firsts, j_seconds, rfl, _, _, _, _, _, _, _, _, _, _, _, _, rfl, hR, hG, ?_, ?_, ?_, hP⟩
      · refine hL.rows (fun _ _ => rfl) (fun _ _ => rfl) (fun _ _ => rfl) (pk_un (by omega)) (fun i hi => ?_) (fun i hi => ?_) (fun i hi => ?_)
        all_goals exact cpn_out (row_apart (by omega) hi)
      · refine hT.rows (fun _ _ => rfl) (fun _ _ => rfl) (fun _ _ => rfl) (pk_un (by omega)) (fun i hi => ?_) (fun i hi => ?_) (fun i hi => ?_)
        all_goals exact cpn_out (row_apart (by omega) hi)
      · intro q hq
        by_cases e : q = k
        · subst e
          simp only [up_at, upd_at, ↓reduceIte]
          refine ⟨by decide, Or.inr trivial, fun _ => ⟨hR.rows (fun i hi => cpr_lt hi) (fun i hi => cpr_lt hi) (fun i hi => cpr_lt hi) (fun i hi => ?_), hG.rows (fun i hi => cpr_lt hi) (fun i hi => cpr_lt hi), hL.rows (fun i hi => cpr_lt hi) (fun i hi => cpr_lt hi) (fun i hi => cpr_lt hi) pk_us (fun i hi => cpn_in hi) (fun i hi => cpn_in hi) (fun i hi => cpn_in hi), hT.rows (fun i hi => cpr_lt hi) (fun i hi => cpr_lt hi) (fun i hi => cpr_lt hi) pk_us (fun i hi => cpn_in hi) (fun i hi => cpn_in hi) (fun i hi => cpn_in hi)⟩⟩
          unfold cp23
          rw [if_pos (by omega)]; congr 1; omega
        · obtain ⟨g1, g2, g3⟩ := hM q hq
          simp only [up_at, upd_at, if_neg e]
          refine ⟨g1, g2, fun g4 => ?_⟩
          obtain ⟨g5, g6, g7, g8⟩ := g3 g4
          refine ⟨g5.row (fun i hi => ?_), g6, g7.rows (fun _ _ => rfl) (fun _ _ => rfl) (fun _ _ => rfl) (pk_un (by omega)) (fun i hi => cpn_out (row_apart (by omega) hi)) (fun i hi => cpn_out (row_apart (by omega) hi)) (fun i hi => cpn_out (row_apart (by omega) hi)), g8.rows (fun _ _ => rfl) (fun _ _ => rfl) (fun _ _ => rfl) (pk_un (by omega)) (fun i hi => cpn_out (row_apart (by omega) hi)) (fun i hi => cpn_out (row_apart (by omega) hi)) (fun i hi => cpn_out (row_apart (by omega) hi))⟩
          unfold cp23
          exact if_neg (row_apart (n := 23) e hi)
    · -- gone back to
      simp only [if_neg hx]
      rw [q_ex hk, q_gd hk (by omega), nI_clamp (by omega), ← m1]
      by_cases hl : q_laid k = 0
      · rw [if_pos hl, if_pos hl]
        exact ⟨_, _, qr_told, qr_dangers, qr_months, qr_sizes, qj_lines, qj_kinds, qj_firsts, qj_seconds, qs_month, qs_power, qs_master, qs_left, qs_kept, qs_passed, qs_sizes, qs_fields, qs_liked, s_month, s_power, s_master, s_left, s_kept, s_passed, s_sizes, s_fields, s_liked, _, r_told, r_dangers, r_months, r_sizes, j_lines, j_kinds, j_firsts, j_seconds, rfl, _, _, _, _, _, _, _, _, _, _, _, _, rfl, hR, hG, hL, hT, hM, hP⟩
      · obtain ⟨g5, g6, g7, g8⟩ := m3 hl
        unfold f_X13_mark_29 f_X13_mark_47 f_X13_mark_59
        have eL : (f_X13_laysLines m_lines m_lineWhat m_lineA m_lineB (nI (1 + k)) 0) = some (upd m_lines 0 (m_lines (1 + k)), cpn 40 m_lineWhat (1 + k) 0, cpn 40 m_lineA (1 + k) 0, cpn 40 m_lineB (1 + k) 0) := laysLines_eq (b := 0) (by omega) (by omega) (by omega)
        have eT : (f_X13_laysTold m_tolds m_toldDanger m_toldMonths m_toldSize (nI (1 + k)) 0) = some (upd m_tolds 0 (m_tolds (1 + k)), cpn 8 m_toldDanger (1 + k) 0, cpn 8 m_toldMonths (1 + k) 0, cpn 8 m_toldSize (1 + k) 0) := laysTold_eq (b := 0) (by omega) (by omega) (by omega)
        have eC : f_X13_copies 92 m_marked 23 m_s (nI (23 * k)) 0 = some (cp23 m_marked (23 * k) m_s 0) := copies_eq (b := 0) (by omega) (by omega) (by omega) (by omega)
        rw [if_neg hl, if_neg hl, q_ex hk, q_ex hk, copy_eq g6.2.2.1, o_bs, q_ex hk, q_ex hk, copyS_eq, o_bs, q_ex hk, q_ex hk, copyR_eq, o_bs, q_gd hk (by omega), qa_1, qm_23]
        simp only [if_neg hx]
        simp only [eL, eT, eC, o_bs]
        refine ⟨_, _, qr_told, qr_dangers, qr_months, qr_sizes, qj_lines, qj_kinds, qj_firsts, qj_seconds, qs_month, qs_power, qs_master, qs_left, qs_kept, qs_passed, qs_sizes, qs_fields, qs_liked, _, _, _, _, _, _, _, _, _, _, _, _, _, _, _, _, _, _, rfl, _, _, _, _, _, _, _, _, _, _, _, _, rfl, g5.rows (fun i hi => cpr_lt hi) (fun i hi => cpr_lt hi) (fun i hi => cpr_lt hi) (fun i hi => ?_), g6.rows (fun i hi => cpr_lt hi) (fun i hi => cpr_lt hi), g7.rows (fun i hi => cpr_lt hi) (fun i hi => cpr_lt hi) (fun i hi => cpr_lt hi) pk_us (fun i hi => cpn_in hi) (fun i hi => cpn_in hi) (fun i hi => cpn_in hi), g8.rows (fun i hi => cpr_lt hi) (fun i hi => cpr_lt hi) (fun i hi => cpr_lt hi) pk_us (fun i hi => cpn_in hi) (fun i hi => cpn_in hi) (fun i hi => cpn_in hi), fun q hq => ?_, ?_⟩
        · unfold cp23
          rw [if_pos (by omega)]; congr 1
        · obtain ⟨w1, w2, w3⟩ := hM q hq
          refine ⟨?_, w2, fun w4 => ?_⟩
          · rw [nI_clamp (by omega)]
            simp only [upd_at]
            by_cases e : q = k
            · subst e
              rw [if_pos rfl]
              rcases m2 with z | z
              · exact absurd z hl
              · rw [z]; decide
            · rw [if_neg e]; exact w1
          · obtain ⟨w5, w6, w7, w8⟩ := w3 w4
            exact ⟨w5, w6, w7.rows (fun _ _ => rfl) (fun _ _ => rfl) (fun _ _ => rfl) (pk_un (by omega)) (fun i hi => cpn_out (row_apart (by omega) hi)) (fun i hi => cpn_out (row_apart (by omega) hi)) (fun i hi => cpn_out (row_apart (by omega) hi)), w8.rows (fun _ _ => rfl) (fun _ _ => rfl) (fun _ _ => rfl) (pk_un (by omega)) (fun i hi => cpn_out (row_apart (by omega) hi)) (fun i hi => cpn_out (row_apart (by omega) hi)) (fun i hi => cpn_out (row_apart (by omega) hi))⟩
        · obtain ⟨N, x, hN, hxx, e1, e2, e3, e4⟩ := hP
          exact ⟨0, x, by omega, hxx, rfl, e2, rfl, fun j hj => absurd hj (by omega)⟩
theorem call_count {k_length m_taped : Int32} {sv kv : Nat → Int32 → Int32 → Int32} {c_men c_consuls c_dangers c_decrees c_term : Int32} {c_kinds c_skills c_fields c_wants c_hated c_sizes c_grows c_grounds : Nat → Int32} {l_ops : Nat → Int32} {l_worksFrom l_worksTo l_keepsFrom l_keepsTo : Int32} {m_city m_kind m_skill m_fieldTold m_want m_hates m_restsOn m_sizeTold m_grows : Nat → Int32} {m_lineFrom m_lineTo m_codes : Nat → Int32} (hc : RC M D Q sv kv c_men c_consuls c_dangers c_decrees c_term c_kinds c_skills c_fields c_wants c_hated c_sizes c_grows c_grounds l_ops l_worksFrom l_worksTo l_keepsFrom l_keepsTo m_city m_kind m_skill m_fieldTold m_want m_hates m_restsOn m_sizeTold m_grows m_lineFrom m_lineTo m_codes) (hR : RS s_month s_power s_master s_left s_kept s_passed s_sizes s_fields s_liked m_s) (hG : GS M D s_month s_power s_master s_left s_kept s_passed s_sizes s_fields s_liked) (hL : RL M D 0 j_lines j_kinds j_firsts j_seconds m_lines m_lineWhat m_lineA m_lineB) (hT : RT D 0 r_told r_dangers r_months r_sizes m_tolds m_toldDanger m_toldMonths m_toldSize) (hP : RP M D h_steps h_next hb_month hb_power hb_master hb_left hb_kept hb_passed hb_sizes hb_fields hb_liked m_undone m_done) (ht : m_taped = k_length) (x1 : Int32) : ∃ v, (f_X12_count c_men c_consuls c_dangers c_decrees c_term s_month s_power s_master s_left s_kept s_sizes h_steps r_told j_lines k_length x1) = some v ∧ (f_X13_count m_taped m_city m_lines m_tolds m_s m_done x1) = some (v, 0) := by
  obtain ⟨⟨hM, hD, hQ⟩, ⟨rfl, rfl, rfl⟩, ⟨hc0, hc1, hc2, hc3, hc4⟩, _⟩ := hc
  obtain ⟨T, _, hT1, hT2, _⟩ := hT
  obtain ⟨L, _, hL1, hL2, _⟩ := hL
  obtain ⟨N, x, _, _, hN1, _, hN2, _⟩ := hP
  unfold f_X12_count f_X13_count
  rw [together_eq, mtog_eq hD hc1 hR, sm_zero (f := s_sizes) 5 hD hG.2.2.2.2.2.1, hT1, hL1, hN1, hN2, ht, wth_eq]
  have kk : s_kept = 0 ∨ s_kept = 1 := hG.2.2.1
  rcases ix x1 15 (by omega) with h | ⟨k, hk, rfl⟩
  · have hw : f_X12_within x1 0 14 = 0 := wth_0 (by
      rcases h with q | q
      · exact Or.inl q
      · right; rw [i_le, nI_toInt (by omega)] at q; rw [i_lt, show (14 : Int32) = nI 14 from rfl, nI_toInt (by omega)]; omega)
    have ne : ∀ a, a < 15 → ¬ x1 = nI a := by
      intro a ha q
      subst q
      rcases h with q | q
      · exact nI_pos (by omega) q
      · rw [nI_leI (by omega) (by omega)] at q; omega
    refine ⟨-1, ?_, ?_⟩
    · rw [if_neg (show ¬ x1 = 0 from ne 0 (by omega)), if_neg (show ¬ x1 = 1 from ne 1 (by omega)), if_neg (show ¬ x1 = 2 from ne 2 (by omega)), if_neg (show ¬ x1 = 3 from ne 3 (by omega)), if_neg (show ¬ x1 = 4 from ne 4 (by omega)), if_neg (show ¬ x1 = 5 from ne 5 (by omega)), if_neg (show ¬ x1 = 6 from ne 6 (by omega)), if_neg (show ¬ x1 = 7 from ne 7 (by omega)), if_neg (show ¬ x1 = 8 from ne 8 (by omega)), if_neg (show ¬ x1 = 9 from ne 9 (by omega)), if_neg (show ¬ x1 = 10 from ne 10 (by omega)), if_neg (show ¬ x1 = 11 from ne 11 (by omega)), if_neg (show ¬ x1 = 12 from ne 12 (by omega)), if_neg (show ¬ x1 = 13 from ne 13 (by omega)), if_neg (show ¬ x1 = 14 from ne 14 (by omega))]
    · rw [hw, if_pos e00]
  · have hw : f_X12_within (nI k) 0 14 = 1 := wth_1 (nI_pos (by omega)) (by rw [show (14 : Int32) = nI 14 from rfl, nI_ltI (by omega) (by omega)]; omega)
    rw [hw, if_neg n10]
    simp only [gl_4_10, gl_0_6, gl_0_5, gl_0_23, gl_1_23, gl_2_23, gl_3_23, gl_4_23, cl_0, cl_1, cl_2, cl_3, cl_4, hc4, hL2, hT2, hR.1, hR.2.1, hR.2.2.1, hR.2.2.2.1, hR.2.2.2.2.1, o_bs]
    rcases (show k = 0 ∨ k = 1 ∨ k = 2 ∨ k = 3 ∨ k = 4 ∨ k = 5 ∨ k = 6 ∨ k = 7 ∨ k = 8 ∨ k = 9 ∨ k = 10 ∨ k = 11 ∨ k = 12 ∨ k = 13 ∨ k = 14 by omega) with rfl | rfl | rfl | rfl | rfl | rfl | rfl | rfl | rfl | rfl | rfl | rfl | rfl | rfl | rfl
    · exact ⟨nI M, rfl, by rw [show m_city (nI 0).toNatClampNeg = nI M from hc0]; rfl⟩
    · exact ⟨nI D, rfl, by rw [show m_city (nI 1).toNatClampNeg = nI D from hc1]; rfl⟩
    · exact ⟨nI Q, rfl, by rw [show m_city (nI 2).toNatClampNeg = nI Q from hc2]; rfl⟩
    · exact ⟨c_consuls, rfl, by rw [show m_city (nI 3).toNatClampNeg = c_consuls from hc3]; rfl⟩
    · exact ⟨_, rfl, rfl⟩
    · exact ⟨_, rfl, rfl⟩
    · exact ⟨_, rfl, rfl⟩
    · exact ⟨_, rfl, rfl⟩
    · rcases kk with kk | kk
      · rw [kk]; exact ⟨0, rfl, rfl⟩
      · rw [kk]; exact ⟨1, rfl, rfl⟩
    · exact ⟨_, rfl, rfl⟩
    · exact ⟨_, rfl, rfl⟩
    · exact ⟨_, rfl, rfl⟩
    · exact ⟨_, rfl, rfl⟩
    · exact ⟨_, rfl, rfl⟩
    · exact ⟨_, rfl, rfl⟩
end
