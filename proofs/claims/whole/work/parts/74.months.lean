/-! a line of the months told -/
section
variable {k_place k_behind k_kind k_value : Int32} {k_letters : Int64} {k_word : Option Nat} {m_place m_begin m_token : Int32} {m_word : Int64} {m_told : Int32} {k_signs : Nat → Int32} {n b e : Nat}
theorem lspelt_eq (h : TS n k_signs k_place k_behind k_kind k_value k_letters k_word m_place m_begin m_token m_word m_told b e) : f_X6_lineSpelt k_word = some (if k_word = some 14 then 0 else if k_word = some 15 then 1 else if k_word = some 16 then 2 else if k_word = some 17 then 3 else if k_word = some 18 then 4 else -1) := by
  unfold f_X6_lineSpelt
  simp only [eg_ok h.wok]
  by_cases h1 : k_word = some 14
  · rw [if_pos h1, if_pos h1]
  · rw [if_neg h1, if_neg h1]
    by_cases h1 : k_word = some 15
    · rw [if_pos h1, if_pos h1]
    · rw [if_neg h1, if_neg h1]
      by_cases h1 : k_word = some 16
      · rw [if_pos h1, if_pos h1]
      · rw [if_neg h1, if_neg h1]
        by_cases h1 : k_word = some 17
        · rw [if_pos h1, if_pos h1]
        · rw [if_neg h1, if_neg h1]
          by_cases h1 : k_word = some 18
          · rw [if_pos h1, if_pos h1]
          · rw [if_neg h1, if_neg h1]
end
theorem sadd_eq {T : Nat} (hT : T < 40) {ks fs ss : TN} {x y z : Int32} : f_X8_add (nI T) ks fs ss x y z = (nI (T + 1), upd ks T x, upd fs T y, upd ss T z) := by
  unfold f_X8_add
  rw [if_neg (show ¬ 40 ≤ nI T from fun q => by have := (nI_leI (a := 40) (by omega) (by omega)).mp q; omega), q_gp hT (by omega), q_gp hT (by omega), q_gp hT (by omega), nI_1]
