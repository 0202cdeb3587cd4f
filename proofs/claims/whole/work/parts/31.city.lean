/-! the two cities are one; how it is, in both -/
def CSv (sv : Nat → Int32 → Int32 → Int32) (M : Nat) (c_kinds c_skills c_wants l_ops : Nat → Int32) (l_worksFrom l_worksTo l_keepsFrom l_keepsTo : Int32) : Prop :=
  ∀ m, m < M → ∀ (lg ps : Int32) (st : Nat → Int32), ∃ st' : Nat → Int32, (f_X1_strength c_kinds c_skills c_wants l_ops st l_worksFrom l_worksTo l_keepsFrom l_keepsTo (nI m) lg ps) = some (sv m lg ps, st')
def CKv (kv : Nat → Int32 → Int32 → Int32) (M : Nat) (c_skills c_wants l_ops : Nat → Int32) (l_worksFrom l_worksTo l_keepsFrom l_keepsTo : Int32) : Prop :=
  ∀ m, m < M → ∀ (lk lf : Int32) (st : Nat → Int32), ∃ st' : Nat → Int32, (f_X1_wouldKeep c_skills c_wants l_ops st l_worksFrom l_worksTo l_keepsFrom l_keepsTo (nI m) lk lf) = some (kv m lk lf, st')
def MSv (sv : Nat → Int32 → Int32 → Int32) (M : Nat) (m_kind m_skill m_want m_lineFrom m_lineTo m_codes : Nat → Int32) : Prop :=
  ∀ m, m < M → ∀ (lg ps : Int32) (z_kept z_keptBy z_ahead z_against z_sum z_sumBy z_term z_termBy z_byNot z_valueOf : Nat → Int32), ∃ (y_kept y_keptBy y_ahead y_against y_sum y_sumBy y_term y_termBy y_byNot y_valueOf : Nat → Int32), (f_X13_worksBy m_kind m_skill m_want m_lineFrom m_lineTo m_codes z_kept z_keptBy z_ahead z_against z_sum z_sumBy z_term z_termBy z_byNot z_valueOf (nI m) lg ps) = some ((sv m lg ps), y_kept, y_keptBy, y_ahead, y_against, y_sum, y_sumBy, y_term, y_termBy, y_byNot, y_valueOf)
def MKv (kv : Nat → Int32 → Int32 → Int32) (M : Nat) (m_skill m_want m_lineFrom m_lineTo m_codes : Nat → Int32) : Prop :=
  ∀ m, m < M → ∀ (lk lf : Int32) (z_kept z_keptBy z_ahead z_against z_sum z_sumBy z_term z_termBy z_byNot z_valueOf : Nat → Int32), ∃ (y_kept y_keptBy y_ahead y_against y_sum y_sumBy y_term y_termBy y_byNot y_valueOf : Nat → Int32), (f_X13_keepsBy m_skill m_want m_lineFrom m_lineTo m_codes z_kept z_keptBy z_ahead z_against z_sum z_sumBy z_term z_termBy z_byNot z_valueOf (nI m) lk lf) = some ((kv m lk lf), y_kept, y_keptBy, y_ahead, y_against, y_sum, y_sumBy, y_term, y_termBy, y_byNot, y_valueOf)
def RC (M D Q : Nat) (sv kv : Nat → Int32 → Int32 → Int32) (c_men c_consuls c_dangers c_decrees c_term : Int32) (c_kinds c_skills c_fields c_wants c_hated c_sizes c_grows c_grounds : Nat → Int32) (l_ops : Nat → Int32) (l_worksFrom l_worksTo l_keepsFrom l_keepsTo : Int32) (m_city m_kind m_skill m_fieldTold m_want m_hates m_restsOn m_sizeTold m_grows : Nat → Int32) (m_lineFrom m_lineTo m_codes : Nat → Int32) : Prop :=
  (M ≤ 6 ∧ D ≤ 5 ∧ Q ≤ 6) ∧ (c_men = nI M ∧ c_dangers = nI D ∧ c_decrees = nI Q) ∧ (m_city 0 = nI M ∧ m_city 1 = nI D ∧ m_city 2 = nI Q ∧ m_city 3 = c_consuls ∧ m_city 4 = c_term) ∧ (1 ≤ c_term.toInt ∧ c_term.toInt ≤ 12) ∧
  (∀ i, i < M → m_kind i = c_kinds i ∧ m_skill i = c_skills i ∧ m_fieldTold i = c_fields i ∧ m_want i = c_wants i ∧ m_hates i = c_hated i) ∧
  (∀ i, i < M → 0 ≤ (c_skills i).toInt ∧ (c_skills i).toInt ≤ 9) ∧
  (∀ i, i < D → m_sizeTold i = c_sizes i ∧ m_grows i = c_grows i ∧ 0 ≤ (c_sizes i).toInt ∧ (c_sizes i).toInt ≤ 99 ∧ 0 ≤ (c_grows i).toInt ∧ (c_grows i).toInt ≤ 9) ∧
  (∀ i, i < Q → m_restsOn i = c_grounds i) ∧
  (∀ m lg ps, m < M → 0 ≤ (sv m lg ps).toInt ∧ (sv m lg ps).toInt ≤ 99) ∧ (∀ m lk lf, m < M → kv m lk lf = 0 ∨ kv m lk lf = 1) ∧
  CSv sv M c_kinds c_skills c_wants l_ops l_worksFrom l_worksTo l_keepsFrom l_keepsTo ∧ CKv kv M c_skills c_wants l_ops l_worksFrom l_worksTo l_keepsFrom l_keepsTo ∧ MSv sv M m_kind m_skill m_want m_lineFrom m_lineTo m_codes ∧ MKv kv M m_skill m_want m_lineFrom m_lineTo m_codes
/-- how it is, in both -/
def RS (s_month s_power s_master s_left s_kept s_passed : Int32) (s_sizes s_fields s_liked : Nat → Int32) (m_s : Nat → Int32) : Prop :=
  m_s 0 = s_month ∧ m_s 1 = s_power ∧ m_s 2 = s_master ∧ m_s 3 = s_left ∧ m_s 4 = s_kept ∧ m_s 5 = s_passed ∧ (∀ i, i < 5 → m_s (6 + i) = s_sizes i) ∧ (∀ i, i < 6 → m_s (11 + i) = s_fields i) ∧ (∀ i, i < 6 → m_s (17 + i) = s_liked i)
/-- what is always so of it -/
def GS (M D : Nat) (s_month s_power s_master s_left s_kept s_passed : Int32) (s_sizes s_fields s_liked : Nat → Int32) : Prop :=
  (s_power = -1 ∨ ∃ p, p < M ∧ s_power = nI p) ∧ (s_master = -1 ∨ ∃ p, p < M ∧ s_master = nI p) ∧ (s_kept = 0 ∨ s_kept = 1) ∧ (¬ s_power = -1 → s_kept = 0 → 1 ≤ s_left.toInt) ∧ (∀ i, i < 5 → 0 ≤ (s_sizes i).toInt ∧ (s_sizes i).toInt ≤ 99) ∧ (∀ i, D ≤ i → i < 5 → s_sizes i = 0) ∧ (∀ i, M ≤ i → i < 6 → s_fields i = 0)
section
variable {s_month s_power s_master s_left s_kept s_passed : Int32} {s_sizes s_fields s_liked : Nat → Int32} {m_s : Nat → Int32}
theorem RS.month' (h : RS s_month s_power s_master s_left s_kept s_passed s_sizes s_fields s_liked m_s) (v : Int32) : RS v s_power s_master s_left s_kept s_passed s_sizes s_fields s_liked (upd m_s 0 v) := by
  obtain ⟨h0, h1, h2, h3, h4, h5, h6, h7, h8⟩ := h
  refine ⟨rfl, ?_, ?_, ?_, ?_, ?_, fun i hi => ?_, fun i hi => ?_, fun i hi => ?_⟩ <;> (rw [pk_un (by omega)]; first | assumption | exact h6 i hi | exact h7 i hi | exact h8 i hi)
theorem RS.power' (h : RS s_month s_power s_master s_left s_kept s_passed s_sizes s_fields s_liked m_s) (v : Int32) : RS s_month v s_master s_left s_kept s_passed s_sizes s_fields s_liked (upd m_s 1 v) := by
  obtain ⟨h0, h1, h2, h3, h4, h5, h6, h7, h8⟩ := h
  refine ⟨?_, rfl, ?_, ?_, ?_, ?_, fun i hi => ?_, fun i hi => ?_, fun i hi => ?_⟩ <;> (rw [pk_un (by omega)]; first | assumption | exact h6 i hi | exact h7 i hi | exact h8 i hi)
theorem RS.master' (h : RS s_month s_power s_master s_left s_kept s_passed s_sizes s_fields s_liked m_s) (v : Int32) : RS s_month s_power v s_left s_kept s_passed s_sizes s_fields s_liked (upd m_s 2 v) := by
  obtain ⟨h0, h1, h2, h3, h4, h5, h6, h7, h8⟩ := h
  refine ⟨?_, ?_, rfl, ?_, ?_, ?_, fun i hi => ?_, fun i hi => ?_, fun i hi => ?_⟩ <;> (rw [pk_un (by omega)]; first | assumption | exact h6 i hi | exact h7 i hi | exact h8 i hi)
theorem RS.left' (h : RS s_month s_power s_master s_left s_kept s_passed s_sizes s_fields s_liked m_s) (v : Int32) : RS s_month s_power s_master v s_kept s_passed s_sizes s_fields s_liked (upd m_s 3 v) := by
  obtain ⟨h0, h1, h2, h3, h4, h5, h6, h7, h8⟩ := h
  refine ⟨?_, ?_, ?_, rfl, ?_, ?_, fun i hi => ?_, fun i hi => ?_, fun i hi => ?_⟩ <;> (rw [pk_un (by omega)]; first | assumption | exact h6 i hi | exact h7 i hi | exact h8 i hi)
theorem RS.kept' (h : RS s_month s_power s_master s_left s_kept s_passed s_sizes s_fields s_liked m_s) (v : Int32) : RS s_month s_power s_master s_left v s_passed s_sizes s_fields s_liked (upd m_s 4 v) := by
  obtain ⟨h0, h1, h2, h3, h4, h5, h6, h7, h8⟩ := h
  refine ⟨?_, ?_, ?_, ?_, rfl, ?_, fun i hi => ?_, fun i hi => ?_, fun i hi => ?_⟩ <;> (rw [pk_un (by omega)]; first | assumption | exact h6 i hi | exact h7 i hi | exact h8 i hi)
theorem RS.passed' (h : RS s_month s_power s_master s_left s_kept s_passed s_sizes s_fields s_liked m_s) (v : Int32) : RS s_month s_power s_master s_left s_kept v s_sizes s_fields s_liked (upd m_s 5 v) := by
  obtain ⟨h0, h1, h2, h3, h4, h5, h6, h7, h8⟩ := h
  refine ⟨?_, ?_, ?_, ?_, ?_, rfl, fun i hi => ?_, fun i hi => ?_, fun i hi => ?_⟩ <;> (rw [pk_un (by omega)]; first | assumption | exact h6 i hi | exact h7 i hi | exact h8 i hi)
theorem RS.sizes' (h : RS s_month s_power s_master s_left s_kept s_passed s_sizes s_fields s_liked m_s) {k : Nat} (hk : k < 5) (v : Int32) : RS s_month s_power s_master s_left s_kept s_passed (upd s_sizes k v) s_fields s_liked (upd m_s (6 + k) v) := by
  obtain ⟨h0, h1, h2, h3, h4, h5, h6, h7, h8⟩ := h
  refine ⟨?_, ?_, ?_, ?_, ?_, ?_, fun i hi => ?_, fun i hi => ?_, fun i hi => ?_⟩
  rotate_left 6
  · simp only [upd_at]
    by_cases e : i = k
    · rw [if_pos (by omega), if_pos e]
    · rw [if_neg (by omega), if_neg e]; exact h6 i hi
  all_goals (rw [pk_un (by omega)]; first | assumption | exact h6 i hi | exact h7 i hi | exact h8 i hi)
theorem RS.fields' (h : RS s_month s_power s_master s_left s_kept s_passed s_sizes s_fields s_liked m_s) {k : Nat} (hk : k < 6) (v : Int32) : RS s_month s_power s_master s_left s_kept s_passed s_sizes (upd s_fields k v) s_liked (upd m_s (11 + k) v) := by
  obtain ⟨h0, h1, h2, h3, h4, h5, h6, h7, h8⟩ := h
  refine ⟨?_, ?_, ?_, ?_, ?_, ?_, fun i hi => ?_, fun i hi => ?_, fun i hi => ?_⟩
  rotate_left 7
  · simp only [upd_at]
    by_cases e : i = k
    · rw [if_pos (by omega), if_pos e]
    · rw [if_neg (by omega), if_neg e]; exact h7 i hi
  all_goals (rw [pk_un (by omega)]; first | assumption | exact h6 i hi | exact h7 i hi | exact h8 i hi)
theorem RS.liked' (h : RS s_month s_power s_master s_left s_kept s_passed s_sizes s_fields s_liked m_s) {k : Nat} (hk : k < 6) (v : Int32) : RS s_month s_power s_master s_left s_kept s_passed s_sizes s_fields (upd s_liked k v) (upd m_s (17 + k) v) := by
  obtain ⟨h0, h1, h2, h3, h4, h5, h6, h7, h8⟩ := h
  refine ⟨?_, ?_, ?_, ?_, ?_, ?_, fun i hi => ?_, fun i hi => ?_, fun i hi => ?_⟩
  rotate_left 8
  · simp only [upd_at]
    by_cases e : i = k
    · rw [if_pos (by omega), if_pos e]
    · rw [if_neg (by omega), if_neg e]; exact h8 i hi
  all_goals (rw [pk_un (by omega)]; first | assumption | exact h6 i hi | exact h7 i hi | exact h8 i hi)
end
