/-! Layout -/
def fnd (f : Nat → Int32) (v : Int32) : Nat → Nat → Int32
  | _, 0 => -1
  | j, r + 1 => if f j = v then nI j else fnd f v (j + 1) r
/-- 1 if so, 0 if not -/
def zb (p : Prop) [Decidable p] : Int32 := if p then 1 else 0
section SL
variable {s : am_S} {b : Nat} {Q : Option Value → am_H → Prop}
theorem e_L_clear (hb : b ∈ bsL) : am_C f_L_clear [.ref b] (TP, s) Q ↔ Q none (TP, am_wr s b 3 0) := by
  rw [c_L_clear]
  simp only [k_L_clear_0, k_L_clear_1, k_L_clear_2, k_L_clear_5, p_L3 hb, am_ob_s, List.tail_cons, List.tail_nil, Option.toList_some, Option.toList_none, List.nil_append, List.cons_append, List.length_nil, List.length_cons, Nat.zero_le, true_and, and_true, true_implies, false_implies, not_true_eq_false, not_false_eq_true, implies_true]
theorem e_L_isFull (hb : b ∈ bsL) : am_C f_L_isFull [.ref b] (TP, s) Q ↔ Q (some (.int (zb (¬ s b 3 < 4)))) (TP, s) := by
  rw [c_L_isFull]
  simp only [k_L_isFull_0, k_L_isFull_1, k_L_isFull_4, k_L_isFull_5, k_L_isFull_8, k_L_isFull_9, k_L_isFull_12, k_L_isFull_13, g_L3 hb, am_ob_s, List.tail_cons, List.tail_nil, Option.toList_some, Option.toList_none, List.nil_append, List.cons_append, List.length_nil, List.length_cons, Nat.zero_le, true_and, and_true, true_implies, false_implies, not_true_eq_false, not_false_eq_true, implies_true]
  by_cases h : s b 3 < 4 <;> simp [h, zb]
theorem e_L_find (hb : b ∈ bsL) {n : Nat} (hn : s b 3 = nI n) (hn4 : n ≤ 4) (v : Int32) : am_C f_L_find [.ref b, .int v] (TP, s) Q ↔ Q (some (.int (fnd (s (b + 1)) v 0 n))) (TP, s) := by
  rw [c_L_find]
  have loop : ∀ (r j : Nat), j + r = n → ∀ jk : List Value, am_W m_L_find 2 (.ref b :: .int v :: .int (nI j) :: jk) [] (TP, s) Q ↔ Q (some (.int (fnd (s (b + 1)) v j r))) (TP, s) := by
    intro r
    induction r with
    | zero =>
      intro j hj jk
      have h1 : nI n ≤ nI j := nI_le (by omega) (by omega)
      rw [k_L_find_2]
      simp only [k_L_find_0, k_L_find_1, k_L_find_3, k_L_find_4, k_L_find_7, k_L_find_10, k_L_find_11, k_L_find_14, k_L_find_15, k_L_find_16, k_L_find_17, k_L_find_20, k_L_find_21, k_L_find_22, k_L_find_25, k_L_find_28, k_L_find_29, g_L3 hb, hn, h1, fnd, am_ob_s, List.tail_cons, List.tail_nil, Option.toList_some, Option.toList_none, List.nil_append, List.cons_append, List.length_nil, List.length_cons, Nat.zero_le, true_and, and_true, true_implies, false_implies, not_true_eq_false, not_false_eq_true, implies_true]
    | succ r ih =>
      intro j hj jk
      have h1 : ¬ nI n ≤ nI j := nI_ge (by omega) (by omega)
      rw [k_L_find_2]
      simp only [k_L_find_0, k_L_find_1, k_L_find_3, k_L_find_4, k_L_find_7, k_L_find_10, k_L_find_11, k_L_find_14, k_L_find_15, k_L_find_16, k_L_find_17, k_L_find_20, k_L_find_21, k_L_find_22, k_L_find_25, k_L_find_28, k_L_find_29, g_L3 hb, g_L0 hb, l_L1 hb (show j < 4 by omega), hn, h1, nI_1, am_ob_s, List.tail_cons, List.tail_nil, Option.toList_some, Option.toList_none, List.nil_append, List.cons_append, List.length_nil, List.length_cons, Nat.zero_le, true_and, and_true, true_implies, false_implies, not_true_eq_false, not_false_eq_true, implies_true]
      rw [ih (j + 1) (by omega)]
      by_cases h2 : s (b + 1) j = v <;> simp [h2, fnd]
  have := loop n 0 (by omega) []
  rw [nI_0] at this
  simp only [k_L_find_0, k_L_find_1, am_ob_s, List.tail_cons, List.tail_nil, Option.toList_some, Option.toList_none, List.nil_append, List.cons_append, List.length_nil, List.length_cons, Nat.zero_le, true_and, and_true, true_implies, false_implies, not_true_eq_false, not_false_eq_true, implies_true]
  exact this
end SL
