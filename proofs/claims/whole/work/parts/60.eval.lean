/-! how a law is worked out: the class by its stack, the model by its levels -/
theorem upd_id {f : Nat → Int32} {k : Nat} : upd f k (f k) = f := by
  funext i; rw [upd_at]; split
  · next h => rw [h]
  · rfl
theorem upd_upd {f : Nat → Int32} {k : Nat} {x y : Int32} : upd (upd f k x) k y = upd f k y := by
  funext i; simp only [upd_at]; split <;> rfl
def Lv : Type := Int32 × Int32 × Int32 × Int32 × Int32 × Int32 × Int32 × Int32 × Int32
def Lv.kp (v : Lv) : Int32 := (show Int32 × Int32 × Int32 × Int32 × Int32 × Int32 × Int32 × Int32 × Int32 from v).1
def Lv.kb (v : Lv) : Int32 := (show Int32 × Int32 × Int32 × Int32 × Int32 × Int32 × Int32 × Int32 × Int32 from v).2.1
def Lv.ah (v : Lv) : Int32 := (show Int32 × Int32 × Int32 × Int32 × Int32 × Int32 × Int32 × Int32 × Int32 from v).2.2.1
def Lv.ag (v : Lv) : Int32 := (show Int32 × Int32 × Int32 × Int32 × Int32 × Int32 × Int32 × Int32 × Int32 from v).2.2.2.1
def Lv.su (v : Lv) : Int32 := (show Int32 × Int32 × Int32 × Int32 × Int32 × Int32 × Int32 × Int32 × Int32 from v).2.2.2.2.1
def Lv.sb (v : Lv) : Int32 := (show Int32 × Int32 × Int32 × Int32 × Int32 × Int32 × Int32 × Int32 × Int32 from v).2.2.2.2.2.1
def Lv.te (v : Lv) : Int32 := (show Int32 × Int32 × Int32 × Int32 × Int32 × Int32 × Int32 × Int32 × Int32 from v).2.2.2.2.2.2.1
def Lv.tb (v : Lv) : Int32 := (show Int32 × Int32 × Int32 × Int32 × Int32 × Int32 × Int32 × Int32 × Int32 from v).2.2.2.2.2.2.2.1
def Lv.bn (v : Lv) : Int32 := (show Int32 × Int32 × Int32 × Int32 × Int32 × Int32 × Int32 × Int32 × Int32 from v).2.2.2.2.2.2.2.2
def Lv.mk (kp kb ah ag su sb te tb bn : Int32) : Lv := (kp, kb, ah, ag, su, sb, te, tb, bn)
theorem Lv.kp_mk {kp kb ah ag su sb te tb bn : Int32} : (Lv.mk kp kb ah ag su sb te tb bn).kp = kp := rfl
theorem Lv.kb_mk {kp kb ah ag su sb te tb bn : Int32} : (Lv.mk kp kb ah ag su sb te tb bn).kb = kb := rfl
theorem Lv.ah_mk {kp kb ah ag su sb te tb bn : Int32} : (Lv.mk kp kb ah ag su sb te tb bn).ah = ah := rfl
theorem Lv.ag_mk {kp kb ah ag su sb te tb bn : Int32} : (Lv.mk kp kb ah ag su sb te tb bn).ag = ag := rfl
theorem Lv.su_mk {kp kb ah ag su sb te tb bn : Int32} : (Lv.mk kp kb ah ag su sb te tb bn).su = su := rfl
theorem Lv.sb_mk {kp kb ah ag su sb te tb bn : Int32} : (Lv.mk kp kb ah ag su sb te tb bn).sb = sb := rfl
theorem Lv.te_mk {kp kb ah ag su sb te tb bn : Int32} : (Lv.mk kp kb ah ag su sb te tb bn).te = te := rfl
theorem Lv.tb_mk {kp kb ah ag su sb te tb bn : Int32} : (Lv.mk kp kb ah ag su sb te tb bn).tb = tb := rfl
theorem Lv.bn_mk {kp kb ah ag su sb te tb bn : Int32} : (Lv.mk kp kb ah ag su sb te tb bn).bn = bn := rfl
def VS : Type := TN × TN × TN × TN × TN × TN × TN × TN × TN
def VS.kp (v : VS) : TN := (show TN × TN × TN × TN × TN × TN × TN × TN × TN from v).1
def VS.kb (v : VS) : TN := (show TN × TN × TN × TN × TN × TN × TN × TN × TN from v).2.1
def VS.ah (v : VS) : TN := (show TN × TN × TN × TN × TN × TN × TN × TN × TN from v).2.2.1
def VS.ag (v : VS) : TN := (show TN × TN × TN × TN × TN × TN × TN × TN × TN from v).2.2.2.1
def VS.su (v : VS) : TN := (show TN × TN × TN × TN × TN × TN × TN × TN × TN from v).2.2.2.2.1
def VS.sb (v : VS) : TN := (show TN × TN × TN × TN × TN × TN × TN × TN × TN from v).2.2.2.2.2.1
def VS.te (v : VS) : TN := (show TN × TN × TN × TN × TN × TN × TN × TN × TN from v).2.2.2.2.2.2.1
def VS.tb (v : VS) : TN := (show TN × TN × TN × TN × TN × TN × TN × TN × TN from v).2.2.2.2.2.2.2.1
def VS.bn (v : VS) : TN := (show TN × TN × TN × TN × TN × TN × TN × TN × TN from v).2.2.2.2.2.2.2.2
def VS.mk (kp kb ah ag su sb te tb bn : TN) : VS := (kp, kb, ah, ag, su, sb, te, tb, bn)
theorem VS.kp_mk {kp kb ah ag su sb te tb bn : TN} : (VS.mk kp kb ah ag su sb te tb bn).kp = kp := rfl
theorem VS.kb_mk {kp kb ah ag su sb te tb bn : TN} : (VS.mk kp kb ah ag su sb te tb bn).kb = kb := rfl
theorem VS.ah_mk {kp kb ah ag su sb te tb bn : TN} : (VS.mk kp kb ah ag su sb te tb bn).ah = ah := rfl
theorem VS.ag_mk {kp kb ah ag su sb te tb bn : TN} : (VS.mk kp kb ah ag su sb te tb bn).ag = ag := rfl
theorem VS.su_mk {kp kb ah ag su sb te tb bn : TN} : (VS.mk kp kb ah ag su sb te tb bn).su = su := rfl
theorem VS.sb_mk {kp kb ah ag su sb te tb bn : TN} : (VS.mk kp kb ah ag su sb te tb bn).sb = sb := rfl
theorem VS.te_mk {kp kb ah ag su sb te tb bn : TN} : (VS.mk kp kb ah ag su sb te tb bn).te = te := rfl
theorem VS.tb_mk {kp kb ah ag su sb te tb bn : TN} : (VS.mk kp kb ah ag su sb te tb bn).tb = tb := rfl
theorem VS.bn_mk {kp kb ah ag su sb te tb bn : TN} : (VS.mk kp kb ah ag su sb te tb bn).bn = bn := rfl
def lv (v : VS) (i : Nat) : Lv := Lv.mk (v.kp i) (v.kb i) (v.ah i) (v.ag i) (v.su i) (v.sb i) (v.te i) (v.tb i) (v.bn i)
def vset (v : VS) (i : Nat) (t : Lv) : VS := VS.mk (upd v.kp i t.kp) (upd v.kb i t.kb) (upd v.ah i t.ah) (upd v.ag i t.ag) (upd v.su i t.su) (upd v.sb i t.sb) (upd v.te i t.te) (upd v.tb i t.tb) (upd v.bn i t.bn)
theorem lvl_s (v : VS) (i : Nat) (t : Lv) : lv (vset v i t) i = t := by
  unfold lv vset
  simp only [VS.kp_mk, VS.kb_mk, VS.ah_mk, VS.ag_mk, VS.su_mk, VS.sb_mk, VS.te_mk, VS.tb_mk, VS.bn_mk, pk_us]; rfl
theorem lvl_n (v : VS) {i j : Nat} (t : Lv) (h : ¬ j = i) : lv (vset v i t) j = lv v j := by
  unfold lv vset
  simp only [VS.kp_mk, VS.kb_mk, VS.ah_mk, VS.ag_mk, VS.su_mk, VS.sb_mk, VS.te_mk, VS.tb_mk, VS.bn_mk, pk_un h]
def sumv (t : Lv) : Int32 := if t.sb = 21 then t.su - t.te else t.su + t.te
def cmpv (t : Lv) : Int32 := if t.ag = 24 then (if sumv t ≤ t.ah then 0 else 1) else if t.ag = 25 then (if t.ah = sumv t then 1 else 0) else sumv t
def andv (a c : Int32) : Int32 := if a = 0 then 0 else if c = 0 then 0 else 1
def orv (a c : Int32) : Int32 := if a = 0 then (if c = 0 then 0 else 1) else 1
def tstv (t : Lv) : Int32 := if t.kb = 26 then andv t.kp (cmpv t) else if t.kb = 27 then orv t.kp (cmpv t) else cmpv t
def Wk (fu : Nat) (m_lineTo m_codes m_valueOf : Nat → Int32) (li : Nat) (v : VS) (L s : Nat) : Option (Int32 × TN × TN × TN × TN × TN × TN × TN × TN × TN) :=
  f_X13_worked_14 fu m_lineTo m_codes v.kp v.kb v.ah v.ag v.su v.sb v.te v.tb v.bn m_valueOf (nI li) (nI L) (nI s)
def Dk (fu fu2 : Nat) (m_lineTo m_codes m_valueOf : Nat → Int32) (li : Nat) (v : VS) (L s : Nat) (x : Int32) : Option (Int32 × TN × TN × TN × TN × TN × TN × TN × TN × TN) :=
  f_X13_worked_268 (f_X13_worked_14 fu) fu2 m_lineTo m_codes v.kp v.kb v.ah v.ag v.su v.sb v.te v.tb v.bn m_valueOf (nI li) (nI L) (nI s) x
section
variable {m_lineTo m_codes m_valueOf : Nat → Int32} {li : Nat} {v : VS} {L s T fu : Nat} {x : Int32}
theorem sums_eq (hL : L < 7) : f_X13_sums v.su v.sb v.te v.tb (nI L) = some (upd v.su L (sumv (lv v L)), upd v.tb L 0) := by
  have hsv : sumv (lv v L) = if v.sb L = 21 then v.su L - v.te L else v.su L + v.te L := rfl
  unfold f_X13_sums f_X13_sums_45
  simp only [q_gd hL (show 7 < 2147483648 by omega), nI_clamp (show L < 2 ^ 31 by omega)]
  rw [hsv]
  by_cases h : v.sb L = 21
  · rw [if_pos h, if_pos h]
  · rw [if_neg h, if_neg h]
theorem tests_eq (hL : L < 7) : f_X13_tests v.kp v.kb v.ah v.ag v.su v.sb v.te v.tb (nI L) = some (upd v.kp L (tstv (lv v L)), upd v.ag L 0, upd v.su L 0, upd v.sb L 20, upd v.tb L 0) := by
  unfold f_X13_tests
  rw [sums_eq hL]
  unfold f_X13_tests_43 f_X13_tests_44 f_X13_tests_75 f_X13_tests_76 f_X13_tests_104 f_X13_tests_105 f_X13_tests_106 f_X13_tests_135 f_X13_tests_136
  simp only [q_gd hL (show 7 < 2147483648 by omega), nI_clamp (show L < 2 ^ 31 by omega), o_bs, pk_us, upd_upd]
  unfold tstv
  generalize hs : sumv (lv v L) = sm
  have hc : cmpv (lv v L) = if v.ag L = 24 then (if sm ≤ v.ah L then 0 else 1) else if v.ag L = 25 then (if v.ah L = sm then 1 else 0) else sm := by
    unfold cmpv; rw [hs]; rfl
  rw [hc]
  unfold lv andv orv
  simp only [Lv.kp_mk, Lv.kb_mk, Lv.ah_mk, Lv.ag_mk, Lv.su_mk, Lv.sb_mk, Lv.te_mk, Lv.tb_mk, Lv.bn_mk]
  by_cases a24 : v.ag L = 24
  · simp only [a24, show ¬ (24 : Int32) = 25 by decide, ↓reduceIte]
    by_cases b26 : v.kb L = 26
    · simp only [b26, show ¬ (26 : Int32) = 27 by decide, ↓reduceIte]
      repeat' split
      all_goals first | rfl | (exfalso; simp_all)
    · simp only [b26, ↓reduceIte]
      repeat' split
      all_goals first | rfl | (exfalso; simp_all)
  · simp only [a24, ↓reduceIte]
    by_cases b26 : v.kb L = 26
    · simp only [b26, show ¬ (26 : Int32) = 27 by decide, ↓reduceIte]
      repeat' split
      all_goals first | rfl | (exfalso; simp_all)
    · simp only [b26, ↓reduceIte]
      repeat' split
      all_goals first | rfl | (exfalso; simp_all)

/-- one step, the code laid bare -/
theorem Wk_open (hli : li < 4) (hT : m_lineTo li = nI T) (hT2 : T ≤ 2000) (hs : s < T) {c : Int32} (hc : m_codes s = c) : Wk (fu + 1) m_lineTo m_codes m_valueOf li v L s =
    (if c = 28 then f_X13_worked_46 (f_X13_worked_14 fu) m_lineTo m_codes v.kp v.kb v.ah v.ag v.su v.sb v.te v.tb v.bn m_valueOf (nI li) (nI L) (nI s) c
    else if c = 30 then f_X13_worked_46 (f_X13_worked_14 fu) m_lineTo m_codes v.kp v.kb v.ah v.ag v.su v.sb v.te v.tb v.bn m_valueOf (nI li) (nI L) (nI s) c
    else if c = 20 then f_X13_worked_89 (f_X13_worked_14 fu) m_lineTo m_codes v.kp v.kb v.ah v.ag v.su v.sb v.te v.tb v.bn m_valueOf (nI li) (nI L) (nI s) c
    else if c = 21 then f_X13_worked_89 (f_X13_worked_14 fu) m_lineTo m_codes v.kp v.kb v.ah v.ag v.su v.sb v.te v.tb v.bn m_valueOf (nI li) (nI L) (nI s) c
    else if c = 22 then gd (nI L) 7 (f_X13_worked_14 fu m_lineTo m_codes v.kp v.kb v.ah v.ag v.su v.sb v.te (upd v.tb (nI L).toNatClampNeg c) v.bn m_valueOf (nI li) (nI L) (nI s + 1))
    else if c = 24 then f_X13_worked_137 (f_X13_worked_14 fu) m_lineTo m_codes v.kp v.kb v.ah v.ag v.su v.sb v.te v.tb v.bn m_valueOf (nI li) (nI L) (nI s) c
    else if c = 25 then f_X13_worked_137 (f_X13_worked_14 fu) m_lineTo m_codes v.kp v.kb v.ah v.ag v.su v.sb v.te v.tb v.bn m_valueOf (nI li) (nI L) (nI s) c
    else if c = 26 then f_X13_worked_194 (f_X13_worked_14 fu) m_lineTo m_codes v.kp v.kb v.ah v.ag v.su v.sb v.te v.tb v.bn m_valueOf (nI li) (nI L) (nI s) c
    else if c = 27 then f_X13_worked_194 (f_X13_worked_14 fu) m_lineTo m_codes v.kp v.kb v.ah v.ag v.su v.sb v.te v.tb v.bn m_valueOf (nI li) (nI L) (nI s) c
    else if c < 100 then if 20 ≤ c then f_X13_worked_243 (f_X13_worked_14 fu) m_lineTo m_codes v.kp v.kb v.ah v.ag v.su v.sb v.te v.tb v.bn m_valueOf (nI li) (nI L) (nI s) c 0
      else gd c 20 (f_X13_worked_243 (f_X13_worked_14 fu) m_lineTo m_codes v.kp v.kb v.ah v.ag v.su v.sb v.te v.tb v.bn m_valueOf (nI li) (nI L) (nI s) c (m_valueOf c.toNatClampNeg))
    else f_X13_worked_243 (f_X13_worked_14 fu) m_lineTo m_codes v.kp v.kb v.ah v.ag v.su v.sb v.te v.tb v.bn m_valueOf (nI li) (nI L) (nI s) c (c - 100)) := by
  unfold Wk
  rw [f_X13_worked_14.eq_2, q_gd hli (by omega), nI_clamp (show li < 2 ^ 31 by omega), hT, if_neg (fun q => by have := (nI_leI (by omega) (by omega)).mp q; omega), q_gd (show s < 2000 by omega) (by omega), nI_clamp (show s < 2 ^ 31 by omega), hc]
theorem Wk_end (hli : li < 4) (hT : m_lineTo li = nI T) (hT2 : T ≤ 2000) : ∃ v' : VS, Wk (fu + 1) m_lineTo m_codes m_valueOf li v L T = some (tstv (lv v 0), v'.kp, v'.kb, v'.ah, v'.ag, v'.su, v'.sb, v'.te, v'.tb, v'.bn) := by
  unfold Wk
  rw [f_X13_worked_14.eq_2, q_gd hli (by omega), nI_clamp (show li < 2 ^ 31 by omega), hT, if_pos ((nI_leI (by omega) (by omega)).mpr (Nat.le_refl _)), show (0 : Int32) = nI 0 from rfl, tests_eq (L := 0) (by omega)]
  simp only [o_bs]
  rw [q_gd (by omega) (by omega), nI_clamp (by omega), pk_us]
  exact ⟨VS.mk (upd v.kp 0 (tstv (lv v 0))) v.kb v.ah (upd v.ag 0 0) (upd v.su 0 0) (upd v.sb 0 20) v.te (upd v.tb 0 0) v.bn, rfl⟩
theorem Wk_mul (hli : li < 4) (hT : m_lineTo li = nI T) (hT2 : T ≤ 2000) (hs : s < T) (hc : m_codes s = 22) (hL : L < 7) : Wk (fu + 1) m_lineTo m_codes m_valueOf li v L s = Wk fu m_lineTo m_codes m_valueOf li (vset v L (Lv.mk (lv v L).kp (lv v L).kb (lv v L).ah (lv v L).ag (lv v L).su (lv v L).sb (lv v L).te (22) (lv v L).bn)) L (s + 1) := by
  rw [Wk_open hli hT hT2 hs hc, if_neg (by decide), if_neg (by decide), if_neg (by decide), if_neg (by decide), if_pos rfl, q_gd hL (by omega), nI_clamp (by omega), nI_1]
  unfold Wk vset lv
  simp only [VS.kp_mk, VS.kb_mk, VS.ah_mk, VS.ag_mk, VS.su_mk, VS.sb_mk, VS.te_mk, VS.tb_mk, VS.bn_mk, Lv.kp_mk, Lv.kb_mk, Lv.ah_mk, Lv.ag_mk, Lv.su_mk, Lv.sb_mk, Lv.te_mk, Lv.tb_mk, Lv.bn_mk, upd_id]
theorem Wk_sum (hli : li < 4) (hT : m_lineTo li = nI T) (hT2 : T ≤ 2000) (hs : s < T) {c : Int32} (hc : m_codes s = c) (hc2 : c = 20 ∨ c = 21) (hL : L < 7) : Wk (fu + 1) m_lineTo m_codes m_valueOf li v L s = Wk fu m_lineTo m_codes m_valueOf li (vset v L (Lv.mk (lv v L).kp (lv v L).kb (lv v L).ah (lv v L).ag (sumv (lv v L)) (c) (lv v L).te (0) (lv v L).bn)) L (s + 1) := by
  have e : Wk (fu + 1) m_lineTo m_codes m_valueOf li v L s = f_X13_worked_89 (f_X13_worked_14 fu) m_lineTo m_codes v.kp v.kb v.ah v.ag v.su v.sb v.te v.tb v.bn m_valueOf (nI li) (nI L) (nI s) c := by
    rw [Wk_open hli hT hT2 hs hc]
    rcases hc2 with rfl | rfl
    · rw [if_neg (by decide), if_neg (by decide), if_pos rfl]
    · rw [if_neg (by decide), if_neg (by decide), if_neg (by decide), if_pos rfl]
  rw [e]
  unfold f_X13_worked_89
  rw [sums_eq hL]
  simp only [o_bs]
  rw [q_gd hL (by omega), nI_clamp (by omega), nI_1]
  unfold Wk vset lv
  simp only [VS.kp_mk, VS.kb_mk, VS.ah_mk, VS.ag_mk, VS.su_mk, VS.sb_mk, VS.te_mk, VS.tb_mk, VS.bn_mk, Lv.kp_mk, Lv.kb_mk, Lv.ah_mk, Lv.ag_mk, Lv.su_mk, Lv.sb_mk, Lv.te_mk, Lv.tb_mk, Lv.bn_mk, upd_id]
theorem Wk_cmp (hli : li < 4) (hT : m_lineTo li = nI T) (hT2 : T ≤ 2000) (hs : s < T) {c : Int32} (hc : m_codes s = c) (hc2 : c = 24 ∨ c = 25) (hL : L < 7) : Wk (fu + 1) m_lineTo m_codes m_valueOf li v L s = Wk fu m_lineTo m_codes m_valueOf li (vset v L (Lv.mk (lv v L).kp (lv v L).kb (sumv (lv v L)) (c) (0) (20) (lv v L).te (0) (lv v L).bn)) L (s + 1) := by
  have e : Wk (fu + 1) m_lineTo m_codes m_valueOf li v L s = f_X13_worked_137 (f_X13_worked_14 fu) m_lineTo m_codes v.kp v.kb v.ah v.ag v.su v.sb v.te v.tb v.bn m_valueOf (nI li) (nI L) (nI s) c := by
    rw [Wk_open hli hT hT2 hs hc]
    rcases hc2 with rfl | rfl
    · rw [if_neg (by decide), if_neg (by decide), if_neg (by decide), if_neg (by decide), if_neg (by decide), if_pos rfl]
    · rw [if_neg (by decide), if_neg (by decide), if_neg (by decide), if_neg (by decide), if_neg (by decide), if_neg (by decide), if_pos rfl]
  rw [e]
  unfold f_X13_worked_137
  rw [sums_eq hL]
  simp only [o_bs]
  rw [q_gd hL (by omega), q_gd hL (by omega), q_gd hL (by omega), q_gd hL (by omega), q_gd hL (by omega), nI_clamp (by omega), nI_1]
  unfold Wk vset
  simp only [VS.kp_mk, VS.kb_mk, VS.ah_mk, VS.ag_mk, VS.su_mk, VS.sb_mk, VS.te_mk, VS.tb_mk, VS.bn_mk, Lv.kp_mk, Lv.kb_mk, Lv.ah_mk, Lv.ag_mk, Lv.su_mk, Lv.sb_mk, Lv.te_mk, Lv.tb_mk, Lv.bn_mk, upd_id, pk_us, upd_upd]
  unfold lv
  simp only [Lv.kp_mk, Lv.kb_mk, Lv.ah_mk, Lv.ag_mk, Lv.su_mk, Lv.sb_mk, Lv.te_mk, Lv.tb_mk, Lv.bn_mk, upd_id]
theorem Wk_tst (hli : li < 4) (hT : m_lineTo li = nI T) (hT2 : T ≤ 2000) (hs : s < T) {c : Int32} (hc : m_codes s = c) (hc2 : c = 26 ∨ c = 27) (hL : L < 7) : Wk (fu + 1) m_lineTo m_codes m_valueOf li v L s = Wk fu m_lineTo m_codes m_valueOf li (vset v L (Lv.mk (tstv (lv v L)) (c) (lv v L).ah (0) (0) (20) (lv v L).te (0) (lv v L).bn)) L (s + 1) := by
  have e : Wk (fu + 1) m_lineTo m_codes m_valueOf li v L s = f_X13_worked_194 (f_X13_worked_14 fu) m_lineTo m_codes v.kp v.kb v.ah v.ag v.su v.sb v.te v.tb v.bn m_valueOf (nI li) (nI L) (nI s) c := by
    rw [Wk_open hli hT hT2 hs hc]
    rcases hc2 with rfl | rfl
    · rw [if_neg (by decide), if_neg (by decide), if_neg (by decide), if_neg (by decide), if_neg (by decide), if_neg (by decide), if_neg (by decide), if_pos rfl]
    · rw [if_neg (by decide), if_neg (by decide), if_neg (by decide), if_neg (by decide), if_neg (by decide), if_neg (by decide), if_neg (by decide), if_neg (by decide), if_pos rfl]
  rw [e]
  unfold f_X13_worked_194
  rw [tests_eq hL]
  simp only [o_bs]
  rw [q_gd hL (by omega), nI_clamp (by omega), nI_1]
  unfold Wk vset
  simp only [VS.kp_mk, VS.kb_mk, VS.ah_mk, VS.ag_mk, VS.su_mk, VS.sb_mk, VS.te_mk, VS.tb_mk, VS.bn_mk, Lv.kp_mk, Lv.kb_mk, Lv.ah_mk, Lv.ag_mk, Lv.su_mk, Lv.sb_mk, Lv.te_mk, Lv.tb_mk, Lv.bn_mk, upd_id, pk_us, upd_upd]
  unfold lv
  simp only [Lv.kp_mk, Lv.kb_mk, Lv.ah_mk, Lv.ag_mk, Lv.su_mk, Lv.sb_mk, Lv.te_mk, Lv.tb_mk, Lv.bn_mk, upd_id]
theorem Wk_opn (hli : li < 4) (hT : m_lineTo li = nI T) (hT2 : T ≤ 2000) (hs : s < T) {c y : Int32} (hc : m_codes s = c) (hc2 : (c = 28 ∧ y = 0) ∨ (c = 30 ∧ y = 1)) (hL : L < 6) : Wk (fu + 1) m_lineTo m_codes m_valueOf li v L s = Wk fu m_lineTo m_codes m_valueOf li (vset v (L + 1) (Lv.mk (lv v (L + 1)).kp (0) (lv v (L + 1)).ah (0) (0) (20) (lv v (L + 1)).te (0) (y))) (L + 1) (s + 1) := by
  have e : Wk (fu + 1) m_lineTo m_codes m_valueOf li v L s = f_X13_worked_66 (f_X13_worked_14 fu) m_lineTo m_codes v.kp v.kb v.ah v.ag v.su v.sb v.te v.tb v.bn m_valueOf (nI li) (nI (L + 1)) (nI s) (nI (L + 1)) y := by
    rw [Wk_open hli hT hT2 hs hc]
    unfold f_X13_worked_46
    rcases hc2 with ⟨rfl, rfl⟩ | ⟨rfl, rfl⟩
    · rw [if_pos rfl, if_neg (by decide), nI_1]
    · rw [if_neg (by decide), if_pos rfl, if_pos rfl, nI_1]
  rw [e]
  unfold f_X13_worked_66 f_X13_opens
  simp only [q_gd (show L + 1 < 7 by omega) (show 7 < 2147483648 by omega), nI_clamp (show L + 1 < 2 ^ 31 by omega), nI_1, o_bs]
  unfold Wk vset lv
  simp only [VS.kp_mk, VS.kb_mk, VS.ah_mk, VS.ag_mk, VS.su_mk, VS.sb_mk, VS.te_mk, VS.tb_mk, VS.bn_mk, Lv.kp_mk, Lv.kb_mk, Lv.ah_mk, Lv.ag_mk, Lv.su_mk, Lv.sb_mk, Lv.te_mk, Lv.tb_mk, Lv.bn_mk, upd_id]
theorem Dk_not (hL : L + 1 < 7) (hb : v.bn (L + 1) = 1) {fu2 : Nat} : Dk fu (fu2 + 1) m_lineTo m_codes m_valueOf li v (L + 1) s x = Dk fu fu2 m_lineTo m_codes m_valueOf li v L s (if x = 0 then 1 else 0) := by
  unfold Dk
  rw [f_X13_worked_268.eq_2, if_neg (show ¬ nI (L + 1) ≤ 0 from fun q => by have := (nI_leI (b := 0) (by omega) (by omega)).mp q; omega), q_gd hL (by omega), nI_clamp (by omega), if_pos hb, show nI (L + 1) + -1 = nI L by rw [← nI_1, Int32.add_assoc]; simp]
  split <;> rfl
theorem Dk_end (hL : L < 7) (hb : L = 0 ∨ v.bn L = 0) {fu2 : Nat} : Dk fu (fu2 + 1) m_lineTo m_codes m_valueOf li v L s x = Wk fu m_lineTo m_codes m_valueOf li (vset v L (Lv.mk (lv v L).kp (lv v L).kb (lv v L).ah (lv v L).ag (lv v L).su (lv v L).sb (if (lv v L).tb = 0 then x else (lv v L).te * x) (lv v L).tb (lv v L).bn)) L (s + 1) := by
  have e : Dk fu (fu2 + 1) m_lineTo m_codes m_valueOf li v L s x = f_X13_worked_300 (f_X13_worked_14 fu) m_lineTo m_codes v.kp v.kb v.ah v.ag v.su v.sb v.te v.tb v.bn m_valueOf (nI li) (nI L) (nI s) x := by
    unfold Dk
    rw [f_X13_worked_268.eq_2]
    by_cases h0 : L = 0
    · subst h0; rw [if_pos (by decide)]
    · rw [if_neg (show ¬ nI L ≤ 0 from fun q => by have := (nI_leI (b := 0) (by omega) (by omega)).mp q; omega), q_gd hL (by omega), nI_clamp (by omega)]
      rcases hb with h | h
      · exact absurd h h0
      · rw [h, if_neg (by decide)]
  rw [e]
  unfold f_X13_worked_300 f_X13_worked_328
  simp only [q_gd hL (show 7 < 2147483648 by omega), nI_clamp (show L < 2 ^ 31 by omega), nI_1]
  by_cases h0 : v.tb L = 0
  · rw [if_pos h0, show (if (lv v L).tb = 0 then x else (lv v L).te * x) = x from if_pos h0]
    unfold Wk vset lv
    simp only [VS.kp_mk, VS.kb_mk, VS.ah_mk, VS.ag_mk, VS.su_mk, VS.sb_mk, VS.te_mk, VS.tb_mk, VS.bn_mk, Lv.kp_mk, Lv.kb_mk, Lv.ah_mk, Lv.ag_mk, Lv.su_mk, Lv.sb_mk, Lv.te_mk, Lv.tb_mk, Lv.bn_mk, upd_id]
  · rw [if_neg h0, show (if (lv v L).tb = 0 then x else (lv v L).te * x) = v.te L * x from if_neg h0]
    unfold Wk vset lv
    simp only [VS.kp_mk, VS.kb_mk, VS.ah_mk, VS.ag_mk, VS.su_mk, VS.sb_mk, VS.te_mk, VS.tb_mk, VS.bn_mk, Lv.kp_mk, Lv.kb_mk, Lv.ah_mk, Lv.ag_mk, Lv.su_mk, Lv.sb_mk, Lv.te_mk, Lv.tb_mk, Lv.bn_mk, upd_id]
theorem Wk_cls (hli : li < 4) (hT : m_lineTo li = nI T) (hT2 : T ≤ 2000) (hs : s < T) (hc : m_codes s = 29) (hL : L + 1 < 7) : Wk (fu + 1) m_lineTo m_codes m_valueOf li v (L + 1) s = Dk fu 1100 m_lineTo m_codes m_valueOf li (vset v (L + 1) (Lv.mk (tstv (lv v (L + 1))) (lv v (L + 1)).kb (lv v (L + 1)).ah (0) (0) (20) (lv v (L + 1)).te (0) (lv v (L + 1)).bn)) L s (tstv (lv v (L + 1))) := by
  rw [Wk_open hli hT hT2 hs hc, if_neg (by decide), if_neg (by decide), if_neg (by decide), if_neg (by decide), if_neg (by decide), if_neg (by decide), if_neg (by decide), if_neg (by decide), if_neg (by decide), if_pos (by decide), if_pos (by decide)]
  unfold f_X13_worked_243
  rw [if_pos rfl, tests_eq hL]
  simp only [o_bs]
  rw [q_gd hL (by omega), nI_clamp (by omega), show nI (L + 1) + -1 = nI L by rw [← nI_1, Int32.add_assoc]; simp]
  unfold Dk vset
  simp only [VS.kp_mk, VS.kb_mk, VS.ah_mk, VS.ag_mk, VS.su_mk, VS.sb_mk, VS.te_mk, VS.tb_mk, VS.bn_mk, Lv.kp_mk, Lv.kb_mk, Lv.ah_mk, Lv.ag_mk, Lv.su_mk, Lv.sb_mk, Lv.te_mk, Lv.tb_mk, Lv.bn_mk, upd_id, pk_us, upd_upd]
  unfold lv
  simp only [Lv.kp_mk, Lv.kb_mk, Lv.ah_mk, Lv.ag_mk, Lv.su_mk, Lv.sb_mk, Lv.te_mk, Lv.tb_mk, Lv.bn_mk, upd_id]
theorem Wk_fact (hli : li < 4) (hT : m_lineTo li = nI T) (hT2 : T ≤ 2000) (hs : s < T) {k : Nat} (hk : k < 20) (hc : m_codes s = nI k) : Wk (fu + 1) m_lineTo m_codes m_valueOf li v L s = Dk fu 1100 m_lineTo m_codes m_valueOf li v L s (m_valueOf k) := by
  have hne : ∀ j, 20 ≤ j → j < 100 → ¬ nI k = nI j := fun j h1 h2 q => by have := (nI_inj (by omega) (by omega)).mp q; omega
  rw [Wk_open hli hT hT2 hs hc, if_neg (show ¬ nI k = 28 from hne 28 (by omega) (by omega)), if_neg (show ¬ nI k = 30 from hne 30 (by omega) (by omega)), if_neg (show ¬ nI k = 20 from hne 20 (by omega) (by omega)), if_neg (show ¬ nI k = 21 from hne 21 (by omega) (by omega)), if_neg (show ¬ nI k = 22 from hne 22 (by omega) (by omega)), if_neg (show ¬ nI k = 24 from hne 24 (by omega) (by omega)), if_neg (show ¬ nI k = 25 from hne 25 (by omega) (by omega)), if_neg (show ¬ nI k = 26 from hne 26 (by omega) (by omega)), if_neg (show ¬ nI k = 27 from hne 27 (by omega) (by omega)), if_pos (show nI k < 100 from (nI_ltI (b := 100) (by omega) (by omega)).mpr (by omega)), if_neg (show ¬ 20 ≤ nI k from fun q => by have := (nI_leI (a := 20) (by omega) (by omega)).mp q; omega), q_gd hk (by omega), nI_clamp (by omega)]
  unfold f_X13_worked_243
  rw [if_neg (show ¬ nI k = 29 from hne 29 (by omega) (by omega))]
  rfl
theorem Wk_num (hli : li < 4) (hT : m_lineTo li = nI T) (hT2 : T ≤ 2000) (hs : s < T) {k : Nat} (hk : k < 10000) (hc : m_codes s = nI (100 + k)) : Wk (fu + 1) m_lineTo m_codes m_valueOf li v L s = Dk fu 1100 m_lineTo m_codes m_valueOf li v L s (nI k) := by
  have hne : ∀ j, j < 100 → ¬ nI (100 + k) = nI j := fun j h2 q => by have := (nI_inj (by omega) (by omega)).mp q; omega
  rw [Wk_open hli hT hT2 hs hc, if_neg (show ¬ nI (100 + k) = 28 from hne 28 (by omega)), if_neg (show ¬ nI (100 + k) = 30 from hne 30 (by omega)), if_neg (show ¬ nI (100 + k) = 20 from hne 20 (by omega)), if_neg (show ¬ nI (100 + k) = 21 from hne 21 (by omega)), if_neg (show ¬ nI (100 + k) = 22 from hne 22 (by omega)), if_neg (show ¬ nI (100 + k) = 24 from hne 24 (by omega)), if_neg (show ¬ nI (100 + k) = 25 from hne 25 (by omega)), if_neg (show ¬ nI (100 + k) = 26 from hne 26 (by omega)), if_neg (show ¬ nI (100 + k) = 27 from hne 27 (by omega)), if_neg (show ¬ nI (100 + k) < 100 from fun q => by have := (nI_ltI (b := 100) (by omega) (by omega)).mp q; omega)]
  unfold f_X13_worked_243
  rw [if_neg (show ¬ nI (100 + k) = 29 from hne 29 (by omega)), show nI (100 + k) - 100 = nI k by rw [← nI_add, Int32.add_comm]; exact Int32.add_sub_cancel _ _]
  rfl
end
