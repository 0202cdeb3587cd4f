/-! what a piece of a law is worth: both alike -/
def HD (g : Nat → Int32) (s : Nat) (C : List Int32) : Prop := ∀ i, i < C.length → C[i]? = some (g (s + i))
theorem HD.app {g : Nat → Int32} {s : Nat} {C D : List Int32} (h : HD g s (C ++ D)) : HD g s C ∧ HD g (s + C.length) D := by
  constructor
  · intro i hi
    rw [← h i (by rw [List.length_append]; omega), List.getElem?_append_left hi]
  · intro i hi
    rw [Nat.add_assoc, ← h (C.length + i) (by rw [List.length_append]; omega), List.getElem?_append_right (by omega), Nat.add_sub_cancel_left]
theorem HD.mk {g : Nat → Int32} {s : Nat} {C D : List Int32} (h1 : HD g s C) (h2 : HD g (s + C.length) D) : HD g s (C ++ D) := by
  intro i hi
  rw [List.length_append] at hi
  by_cases h : i < C.length
  · rw [← h1 i h, List.getElem?_append_left h]
  · rw [List.getElem?_append_right (by omega), h2 (i - C.length) (by omega)]
    congr 2; omega
theorem HD.one {g : Nat → Int32} {s : Nat} {c : Int32} (h : HD g s [c]) : g s = c := by
  have := h 0 (by simp)
  simp at this
  exact this.symm
theorem HD.sing {g : Nat → Int32} {s : Nat} {c : Int32} (h : g s = c) : HD g s [c] := by
  intro i hi
  rw [List.length_singleton] at hi
  have : i = 0 := by omega
  subst this
  simp [h]
abbrev Fn := Int32 → Int32 → Int32 → Int32 → Int32
def Cx (lt vo : Nat → Int32) (li T : Nat) (a b c d : Int32) : Prop := li < 2 ∧ lt li = nI T ∧ T ≤ 2000 ∧ vo 1 = a ∧ vo 2 = b ∧ vo (3 + 2 * li) = c ∧ vo (4 + 2 * li) = d
def PM (li L : Nat) (C : List Int32) (f : Fn) : Prop := 1 ≤ C.length ∧ ∀ (lt co vo : TN) (T : Nat) (a b c d : Int32), Cx lt vo li T a b c d → ∀ (fu s : Nat) (v : VS), HD co s C → s + C.length ≤ T → ∃ (v' : VS) (fd : Nat), (∀ i, i ≤ L → lv v' i = lv v i) ∧ 1000 + L ≤ fd ∧ Wk (fu + C.length) lt co vo li v L s = Dk fu fd lt co vo li v' L (s + C.length - 1) (f a b c d)
def SG (li L : Nat) (pre : Lv → Prop) (post : Lv → Lv → Int32 → Prop) (C : List Int32) (f : Fn) : Prop := 1 ≤ C.length ∧ ∀ (lt co vo : TN) (T : Nat) (a b c d : Int32), Cx lt vo li T a b c d → ∀ (fu s : Nat) (v : VS), HD co s C → s + C.length ≤ T → (L = 0 ∨ v.bn L = 0) → pre (lv v L) → ∃ v' : VS, (∀ i, i < L → lv v' i = lv v i) ∧ (L = 0 ∨ v'.bn L = 0) ∧ post (lv v L) (lv v' L) (f a b c d) ∧ Wk (fu + C.length) lt co vo li v L s = Wk fu lt co vo li v' L (s + C.length)
/-- a product, a total, a comparison, an expression -/
def preP (t : Lv) : Prop := t.tb = 0
def preT (t : Lv) : Prop := t.tb = 0 ∧ t.su = 0 ∧ t.sb = 20
def preC (t : Lv) : Prop := preT t ∧ t.ag = 0
def preE (t : Lv) : Prop := preC t ∧ t.kb = 0
def postP (t u : Lv) (x : Int32) : Prop := u.kp = t.kp ∧ u.kb = t.kb ∧ u.ah = t.ah ∧ u.ag = t.ag ∧ u.su = t.su ∧ u.sb = t.sb ∧ u.te = x
def postT (t u : Lv) (x : Int32) : Prop := u.kp = t.kp ∧ u.kb = t.kb ∧ u.ah = t.ah ∧ u.ag = t.ag ∧ sumv u = x
def postC (t u : Lv) (x : Int32) : Prop := u.kp = t.kp ∧ u.kb = t.kb ∧ cmpv u = x
def postE (_ u : Lv) (x : Int32) : Prop := tstv u = x
section
variable {li L : Nat} {C D : List Int32} {f g : Fn}
theorem PM.prod (h : PM li L C f) (hL : L < 7) : SG li L preP postP C f := by
  refine ⟨h.1, fun lt co vo T a b c d hx fu s v hd hs hb hp => ?_⟩
  obtain ⟨v', fd, h1, h2, h3⟩ := h.2 lt co vo T a b c d hx fu s v hd hs
  have hl := h1 L (Nat.le_refl _)
  have hbn : (lv v' L).bn = (lv v L).bn := by rw [hl]
  have hb' : L = 0 ∨ v'.bn L = 0 := hb.imp id (fun z => by have : v'.bn L = v.bn L := hbn; rw [this]; exact z)
  rw [show fd = (fd - 1) + 1 by omega, Dk_end hL hb'] at h3
  have hC1 := h.1
  rw [show s + C.length - 1 + 1 = s + C.length by omega] at h3
  refine ⟨_, fun i hi => ?_, ?_, ?_, h3⟩
  · rw [lvl_n _ _ (by omega)]; exact h1 i (by omega)
  · refine hb'.imp id (fun z => ?_)
    show (lv (vset v' L _) L).bn = 0
    rw [lvl_s]; exact z
  · rw [lvl_s, hl]
    refine ⟨rfl, rfl, rfl, rfl, rfl, rfl, ?_⟩
    exact if_pos hp
theorem SG.bn {pre : Lv → Prop} {post : Lv → Lv → Int32 → Prop} (h : SG li L pre post C f) : 1 ≤ C.length := h.1
theorem prod_mul (h : SG li L preP postP C f) (h' : PM li L D g) (hL : L < 7) : SG li L preP postP (C ++ 22 :: D) (fun a b c d => f a b c d * g a b c d) := by
  refine ⟨by rw [List.length_append]; have := h.1; omega, fun lt co vo T a b c d hx fu s v hd hs hb hp => ?_⟩
  rw [List.length_append, List.length_cons] at hs
  obtain ⟨d1, d2⟩ := hd.app
  obtain ⟨d3, d4⟩ := HD.app (C := [22]) (D := D) d2
  obtain ⟨v1, k1, k2, k3, k4⟩ := h.2 lt co vo T a b c d hx (fu + D.length + 1) s v d1 (by omega) hb hp
  rw [Wk_mul (by have := hx.1; omega) hx.2.1 hx.2.2.1 (by omega) d3.one hL] at k4
  obtain ⟨v2, fd, m1, m2, m3⟩ := h'.2 lt co vo T a b c d hx fu (s + C.length + 1) _ d4 (by omega)
  rw [m3] at k4
  have hl := m1 L (Nat.le_refl _)
  rw [lvl_s] at hl
  have hb2 : L = 0 ∨ v2.bn L = 0 := k2.imp id (fun z => by have : v2.bn L = (lv v2 L).bn := rfl; rw [this, hl]; exact z)
  have hD1 := h'.1
  rw [show fd = (fd - 1) + 1 by omega, Dk_end hL hb2, show s + C.length + 1 + D.length - 1 + 1 = s + (C ++ 22 :: D).length by rw [List.length_append, List.length_cons]; omega, show fu + D.length + 1 + C.length = fu + (C ++ 22 :: D).length by rw [List.length_append, List.length_cons]; omega] at k4
  refine ⟨_, fun i hi => ?_, ?_, ?_, k4⟩
  · rw [lvl_n _ _ (by omega), m1 i (by omega), lvl_n _ _ (by omega)]; exact k1 i hi
  · refine hb2.imp id (fun z => ?_)
    show (lv (vset v2 L _) L).bn = 0
    rw [lvl_s]; exact z
  · rw [lvl_s, hl]
    obtain ⟨p1, p2, p3, p4, p5, p6, p7⟩ := k3
    refine ⟨p1, p2, p3, p4, p5, p6, ?_⟩
    show (if (22 : Int32) = 0 then g a b c d else (lv v1 L).te * g a b c d) = f a b c d * g a b c d
    rw [if_neg (by decide), p7]
theorem prod_tot (h : SG li L preP postP C f) : SG li L preT postT C f := by
  refine ⟨h.1, fun lt co vo T a b c d hx fu s v hd hs hb hp => ?_⟩
  obtain ⟨v1, k1, k2, k3, k4⟩ := h.2 lt co vo T a b c d hx fu s v hd hs hb hp.1
  obtain ⟨p1, p2, p3, p4, p5, p6, p7⟩ := k3
  refine ⟨v1, k1, k2, ⟨p1, p2, p3, p4, ?_⟩, k4⟩
  unfold sumv
  rw [p6, p5, p7, hp.2.1, hp.2.2, if_neg (by decide), Int32.zero_add]
theorem tot_add {c0 : Int32} (hc : c0 = 20 ∨ c0 = 21) (h : SG li L preT postT C f) (h' : SG li L preP postP D g) (hL : L < 7) : SG li L preT postT (C ++ c0 :: D) (fun a b c d => if c0 = 21 then f a b c d - g a b c d else f a b c d + g a b c d) := by
  refine ⟨by rw [List.length_append]; have := h.1; omega, fun lt co vo T a b c d hx fu s v hd hs hb hp => ?_⟩
  rw [List.length_append, List.length_cons] at hs
  obtain ⟨d1, d2⟩ := hd.app
  obtain ⟨d3, d4⟩ := HD.app (C := [c0]) (D := D) d2
  obtain ⟨v1, k1, k2, k3, k4⟩ := h.2 lt co vo T a b c d hx (fu + D.length + 1) s v d1 (by omega) hb hp
  rw [Wk_sum (by have := hx.1; omega) hx.2.1 hx.2.2.1 (by omega) d3.one hc hL] at k4
  have hb1 : L = 0 ∨ (vset v1 L (Lv.mk (lv v1 L).kp (lv v1 L).kb (lv v1 L).ah (lv v1 L).ag (sumv (lv v1 L)) (c0) (lv v1 L).te (0) (lv v1 L).bn)).bn L = 0 := k2.imp id (fun z => by
    show (lv (vset v1 L _) L).bn = 0
    rw [lvl_s]; exact z)
  obtain ⟨v2, m1, m2, m3, m4⟩ := h'.2 lt co vo T a b c d hx fu (s + C.length + 1) _ d4 (by omega) hb1 (by rw [lvl_s]; rfl)
  rw [lvl_s] at m3
  refine ⟨v2, fun i hi => ?_, m2, ?_, ?_⟩
  · rw [m1 i hi, lvl_n _ _ (by omega)]; exact k1 i hi
  · obtain ⟨p1, p2, p3, p4, p5⟩ := k3
    obtain ⟨q1, q2, q3, q4, q5, q6, q7⟩ := m3
    refine ⟨q1.trans p1, q2.trans p2, q3.trans p3, q4.trans p4, ?_⟩
    unfold sumv
    rw [q6, q5, q7]
    show (if c0 = 21 then sumv (lv v1 L) - _ else sumv (lv v1 L) + _) = _
    rw [p5]
  · rw [List.length_append, List.length_cons, show fu + (C.length + (D.length + 1)) = fu + D.length + 1 + C.length by omega, k4, show fu + D.length = fu + D.length from rfl, m4]
    congr 1; omega
theorem tot_cmp (h : SG li L preT postT C f) : SG li L preC postC C f := by
  refine ⟨h.1, fun lt co vo T a b c d hx fu s v hd hs hb hp => ?_⟩
  obtain ⟨v1, k1, k2, k3, k4⟩ := h.2 lt co vo T a b c d hx fu s v hd hs hb hp.1
  obtain ⟨p1, p2, p3, p4, p5⟩ := k3
  refine ⟨v1, k1, k2, ⟨p1, p2, ?_⟩, k4⟩
  unfold cmpv
  rw [p4, hp.2, if_neg (by decide), if_neg (by decide), p5]
theorem cmp_two {c0 : Int32} (hc : c0 = 24 ∨ c0 = 25) (h : SG li L preT postT C f) (h' : SG li L preT postT D g) (hL : L < 7) : SG li L preC postC (C ++ c0 :: D) (fun a b c d => if c0 = 24 then (if g a b c d ≤ f a b c d then 0 else 1) else if f a b c d = g a b c d then 1 else 0) := by
  refine ⟨by rw [List.length_append]; have := h.1; omega, fun lt co vo T a b c d hx fu s v hd hs hb hp => ?_⟩
  rw [List.length_append, List.length_cons] at hs
  obtain ⟨d1, d2⟩ := hd.app
  obtain ⟨d3, d4⟩ := HD.app (C := [c0]) (D := D) d2
  obtain ⟨v1, k1, k2, k3, k4⟩ := h.2 lt co vo T a b c d hx (fu + D.length + 1) s v d1 (by omega) hb hp.1
  rw [Wk_cmp (by have := hx.1; omega) hx.2.1 hx.2.2.1 (by omega) d3.one hc hL] at k4
  have hb1 : L = 0 ∨ (vset v1 L (Lv.mk (lv v1 L).kp (lv v1 L).kb (sumv (lv v1 L)) (c0) (0) (20) (lv v1 L).te (0) (lv v1 L).bn)).bn L = 0 := k2.imp id (fun z => by
    show (lv (vset v1 L _) L).bn = 0
    rw [lvl_s]; exact z)
  obtain ⟨v2, m1, m2, m3, m4⟩ := h'.2 lt co vo T a b c d hx fu (s + C.length + 1) _ d4 (by omega) hb1 (by rw [lvl_s]; exact ⟨rfl, rfl, rfl⟩)
  rw [lvl_s] at m3
  refine ⟨v2, fun i hi => ?_, m2, ?_, ?_⟩
  · rw [m1 i hi, lvl_n _ _ (by omega)]; exact k1 i hi
  · obtain ⟨p1, p2, p3, p4, p5⟩ := k3
    obtain ⟨q1, q2, q3, q4, q5⟩ := m3
    refine ⟨q1.trans p1, q2.trans p2, ?_⟩
    unfold cmpv
    rw [q5, q4, q3]
    show (if c0 = 24 then (if _ ≤ sumv (lv v1 L) then 0 else 1) else if c0 = 25 then (if sumv (lv v1 L) = _ then 1 else 0) else _) = _
    rw [p5]
    rcases hc with rfl | rfl
    · rw [if_pos rfl]; exact (if_pos rfl).symm
    · rw [if_neg (by decide), if_pos rfl]; exact (if_neg (by decide)).symm
  · rw [List.length_append, List.length_cons, show fu + (C.length + (D.length + 1)) = fu + D.length + 1 + C.length by omega, k4, m4]
    congr 1; omega
theorem cmp_exp (h : SG li L preC postC C f) : SG li L preE postE C f := by
  refine ⟨h.1, fun lt co vo T a b c d hx fu s v hd hs hb hp => ?_⟩
  obtain ⟨v1, k1, k2, k3, k4⟩ := h.2 lt co vo T a b c d hx fu s v hd hs hb hp.1
  refine ⟨v1, k1, k2, ?_, k4⟩
  show tstv _ = _
  unfold tstv
  rw [k3.2.1, hp.2, if_neg (by decide), if_neg (by decide), k3.2.2]
theorem exp_and {c0 : Int32} (hc : c0 = 26 ∨ c0 = 27) (h : SG li L preE postE C f) (h' : SG li L preC postC D g) (hL : L < 7) : SG li L preE postE (C ++ c0 :: D) (fun a b c d => if c0 = 26 then andv (f a b c d) (g a b c d) else orv (f a b c d) (g a b c d)) := by
  refine ⟨by rw [List.length_append]; have := h.1; omega, fun lt co vo T a b c d hx fu s v hd hs hb hp => ?_⟩
  rw [List.length_append, List.length_cons] at hs
  obtain ⟨d1, d2⟩ := hd.app
  obtain ⟨d3, d4⟩ := HD.app (C := [c0]) (D := D) d2
  obtain ⟨v1, k1, k2, k3, k4⟩ := h.2 lt co vo T a b c d hx (fu + D.length + 1) s v d1 (by omega) hb hp
  rw [Wk_tst (by have := hx.1; omega) hx.2.1 hx.2.2.1 (by omega) d3.one hc hL] at k4
  have hb1 : L = 0 ∨ (vset v1 L (Lv.mk (tstv (lv v1 L)) (c0) (lv v1 L).ah (0) (0) (20) (lv v1 L).te (0) (lv v1 L).bn)).bn L = 0 := k2.imp id (fun z => by
    show (lv (vset v1 L _) L).bn = 0
    rw [lvl_s]; exact z)
  obtain ⟨v2, m1, m2, m3, m4⟩ := h'.2 lt co vo T a b c d hx fu (s + C.length + 1) _ d4 (by omega) hb1 (by rw [lvl_s]; exact ⟨⟨rfl, rfl, rfl⟩, rfl⟩)
  rw [lvl_s] at m3
  refine ⟨v2, fun i hi => ?_, m2, ?_, ?_⟩
  · rw [m1 i hi, lvl_n _ _ (by omega)]; exact k1 i hi
  · obtain ⟨q1, q2, q3⟩ := m3
    show tstv _ = _
    unfold tstv
    rw [q3, q2, q1]
    have k3' : tstv (lv v1 L) = f a b c d := k3
    show (if c0 = 26 then andv (tstv (lv v1 L)) _ else if c0 = 27 then orv (tstv (lv v1 L)) _ else _) = _
    rw [k3']
    rcases hc with rfl | rfl
    · rw [if_pos rfl]; exact (if_pos rfl).symm
    · rw [if_neg (by decide), if_pos rfl]; exact (if_neg (by decide)).symm
  · rw [List.length_append, List.length_cons, show fu + (C.length + (D.length + 1)) = fu + D.length + 1 + C.length by omega, k4, m4]
    congr 1; omega
theorem part_paren (h : SG li (L + 1) preE postE C f) (hL : L < 6) : PM li L (28 :: (C ++ [29])) f := by
  refine ⟨by simp, fun lt co vo T a b c d hx fu s v hd hs => ?_⟩
  rw [List.length_cons, List.length_append, List.length_singleton] at hs
  obtain ⟨d1, d2⟩ := HD.app (C := [28]) (D := C ++ [29]) hd
  obtain ⟨d3, d4⟩ := d2.app
  have d4' := d4.one
  rw [List.length_singleton] at d3 d4'
  have e1 : Wk (fu + (28 :: (C ++ [29])).length) lt co vo li v L s = Wk (fu + 1 + C.length) lt co vo li (vset v (L + 1) (Lv.mk (lv v (L + 1)).kp (0) (lv v (L + 1)).ah (0) (0) (20) (lv v (L + 1)).te (0) (0))) (L + 1) (s + 1) := by
    rw [List.length_cons, List.length_append, List.length_singleton, show fu + (C.length + 1 + 1) = (fu + 1 + C.length) + 1 by omega]
    exact Wk_opn (by have := hx.1; omega) hx.2.1 hx.2.2.1 (by omega) d1.one (Or.inl ⟨rfl, rfl⟩) hL
  have hbn : L + 1 = 0 ∨ (vset v (L + 1) (Lv.mk (lv v (L + 1)).kp (0) (lv v (L + 1)).ah (0) (0) (20) (lv v (L + 1)).te (0) (0))).bn (L + 1) = 0 := Or.inr (by
    show (lv (vset v (L + 1) _) (L + 1)).bn = 0
    rw [lvl_s]; rfl)
  obtain ⟨v1, k1, k2, k3, k4⟩ := h.2 lt co vo T a b c d hx (fu + 1) (s + 1) _ d3 (by omega) hbn (by rw [lvl_s]; exact ⟨⟨⟨rfl, rfl, rfl⟩, rfl⟩, rfl⟩)
  rw [k4, Wk_cls (by have := hx.1; omega) hx.2.1 hx.2.2.1 (by omega) d4' (by omega)] at e1
  have k3' : tstv (lv v1 (L + 1)) = f a b c d := k3
  rw [k3', show s + 1 + C.length = s + (28 :: (C ++ [29])).length - 1 by rw [List.length_cons, List.length_append, List.length_singleton]; omega] at e1
  refine ⟨_, 1100, fun i hi => ?_, by omega, e1⟩
  rw [lvl_n _ _ (by omega), k1 i (by omega), lvl_n _ _ (by omega)]
theorem part_not (h : PM li (L + 1) C f) (hL : L < 6) : PM li L (30 :: C) (fun a b c d => if f a b c d = 0 then 1 else 0) := by
  refine ⟨by simp, fun lt co vo T a b c d hx fu s v hd hs => ?_⟩
  rw [List.length_cons] at hs
  obtain ⟨d1, d2⟩ := HD.app (C := [30]) (D := C) hd
  rw [List.length_singleton] at d2
  have e1 : Wk (fu + (30 :: C).length) lt co vo li v L s = Wk (fu + C.length) lt co vo li (vset v (L + 1) (Lv.mk (lv v (L + 1)).kp (0) (lv v (L + 1)).ah (0) (0) (20) (lv v (L + 1)).te (0) (1))) (L + 1) (s + 1) := by
    rw [List.length_cons, show fu + (C.length + 1) = (fu + C.length) + 1 by omega]
    exact Wk_opn (by have := hx.1; omega) hx.2.1 hx.2.2.1 (by omega) d1.one (Or.inr ⟨rfl, rfl⟩) hL
  obtain ⟨v1, fd, k1, k2, k3⟩ := h.2 lt co vo T a b c d hx fu (s + 1) (vset v (L + 1) (Lv.mk (lv v (L + 1)).kp 0 (lv v (L + 1)).ah 0 0 20 (lv v (L + 1)).te 0 1)) d2 (by omega)
  have hl := k1 (L + 1) (Nat.le_refl _)
  rw [lvl_s] at hl
  have hbn : v1.bn (L + 1) = 1 := by
    show (lv v1 (L + 1)).bn = 1
    rw [hl]; rfl
  rw [k3, show fd = (fd - 1) + 1 by omega, Dk_not (by omega) hbn] at e1
  have := h.1
  rw [show s + 1 + C.length - 1 = s + (30 :: C).length - 1 by rw [List.length_cons]; omega] at e1
  refine ⟨v1, fd - 1, fun i hi => ?_, by omega, e1⟩
  rw [k1 i (by omega), lvl_n _ _ (by omega)]
theorem part_num {k : Nat} (hk : k < 10000) (hL : L < 7) : PM li L [nI (100 + k)] (fun _ _ _ _ => nI k) := by
  refine ⟨by simp, fun lt co vo T a b c d hx fu s v hd hs => ⟨v, 1100, fun i _ => rfl, by omega, ?_⟩⟩
  rw [List.length_singleton] at *
  exact Wk_num (by have := hx.1; omega) hx.2.1 hx.2.2.1 (by omega) hk hd.one
theorem part_fact {k : Nat} (hk : k < 20) (hL : L < 7) {f : Fn} (hf : ∀ (lt vo : TN) (T : Nat) (a b c d : Int32), Cx lt vo li T a b c d → vo k = f a b c d) : PM li L [nI k] f := by
  refine ⟨by simp, fun lt co vo T a b c d hx fu s v hd hs => ⟨v, 1100, fun i _ => rfl, by omega, ?_⟩⟩
  rw [List.length_singleton] at *
  rw [← hf lt vo T a b c d hx]
  exact Wk_fact (by have := hx.1; omega) hx.2.1 hx.2.2.1 (by omega) hk hd.one
end
/-! the class -/
def CP (hb : Nat) (P : List Int32) (f : Fn) : Prop := ∀ (ops : TN) (a b c d : Int32) (T fu : Nat) (st : TN) (h s : Nat), h ≤ hb → HD ops s P → s + P.length ≤ T → T ≤ 1000 → ∃ st' : TN, (∀ i, i < h → st' i = st i) ∧ st' h = f a b c d ∧ f_X3_worth_41 (fu + P.length) ops st a b c d (nI T) (nI h) (nI s) = f_X3_worth_41 fu ops st' a b c d (nI T) (nI (h + 1)) (nI (s + P.length))
theorem CP.mono {hb hb' : Nat} {P : List Int32} {f : Fn} (h : CP hb P f) (hh : hb' ≤ hb) : CP hb' P f := fun ops a b c d T fu st k s hk => h ops a b c d T fu st k s (by omega)
theorem cp_leaf {hb : Nat} (hhb : hb < 32) {op : Int32} (hop : ¬ op < -4) {f : Fn} (hf : ∀ a b c d, f_X3_alone op a b c d = f a b c d) : CP hb [op] f := by
  intro ops a b c d T fu st h s hh hd hs hT
  rw [List.length_singleton] at *
  rw [f_X3_worth_41.eq_2, if_neg (fun q => by have := (nI_leI (by omega) (by omega)).mp q; omega), q_ga (by omega) (by omega), hd.one, if_neg hop, hf, q_gp (by omega) (by omega), nI_1, nI_1]
  exact ⟨_, fun i hi => pk_un (by omega), pk_us, rfl⟩
theorem cp_not {hb : Nat} (hhb : hb < 32) {P : List Int32} {f : Fn} (hP : CP hb P f) : CP hb (P ++ [-5]) (fun a b c d => if f a b c d = 0 then 1 else 0) := by
  intro ops a b c d T fu st h s hh hd hs hT
  rw [List.length_append, List.length_singleton] at *
  obtain ⟨d1, d2⟩ := hd.app
  obtain ⟨st1, k1, k2, k3⟩ := hP ops a b c d T (fu + 1) st h s hh d1 (by omega) hT
  rw [show fu + (P.length + 1) = fu + 1 + P.length by omega, k3, f_X3_worth_41.eq_2, if_neg (fun q => by have := (nI_leI (by omega) (by omega)).mp q; omega), q_ga (by omega) (by omega), d2.one, if_pos (by decide), if_pos rfl, show nI (h + 1) - 1 = nI h by rw [← nI_1]; exact Int32.add_sub_cancel _ _, q_ga (by omega) (by omega), k2]
  unfold f_X3_worth_126
  rw [q_gp (by omega) (by omega), q_gp (by omega) (by omega), nI_1]
  refine ⟨upd st1 h (if f a b c d = 0 then 1 else 0), fun i hi => by rw [pk_un (by omega)]; exact k1 i hi, pk_us, ?_⟩
  by_cases h0 : f a b c d = 0
  · rw [if_pos h0, if_pos h0]; rfl
  · rw [if_neg h0, if_neg h0]; rfl
theorem cp_bin {hb : Nat} (hhb : hb + 1 < 32) {P R : List Int32} {f g : Fn} (hP : CP hb P f) (hR : CP (hb + 1) R g) {op : Int32} (h1 : op < -4) (h2 : ¬ op = -5) : CP hb (P ++ (R ++ [op])) (fun a b c d => f_X3_joined op (f a b c d) (g a b c d)) := by
  intro ops a b c d T fu st h s hh hd hs hT
  rw [List.length_append, List.length_append, List.length_singleton] at *
  obtain ⟨d1, d2⟩ := hd.app
  obtain ⟨d3, d4⟩ := d2.app
  obtain ⟨st1, k1, k2, k3⟩ := hP ops a b c d T (fu + 1 + R.length) st h s hh d1 (by omega) hT
  obtain ⟨st2, m1, m2, m3⟩ := hR ops a b c d T (fu + 1) st1 (h + 1) (s + P.length) (by omega) d3 (by omega) hT
  rw [show fu + (P.length + (R.length + 1)) = fu + 1 + R.length + P.length by omega, k3, m3, f_X3_worth_41.eq_2, if_neg (fun q => by have := (nI_leI (by omega) (by omega)).mp q; omega), q_ga (by omega) (by omega), d4.one, if_pos h1, if_neg h2, show nI (h + 1 + 1) + -1 = nI (h + 1) by rw [← nI_1, Int32.add_assoc]; simp, show nI (h + 1) - 1 = nI h by rw [← nI_1]; exact Int32.add_sub_cancel _ _, q_ga (by omega) (by omega), q_ga (by omega) (by omega), m2, m1 h (by omega), k2, q_gp (by omega) (by omega), nI_1]
  refine ⟨upd st2 h (f_X3_joined op (f a b c d) (g a b c d)), fun i hi => ?_, pk_us, ?_⟩
  · rw [pk_un (by omega), m1 i (by omega), k1 i hi]
  · rw [show s + P.length + R.length + 1 = s + (P.length + (R.length + 1)) by omega]
