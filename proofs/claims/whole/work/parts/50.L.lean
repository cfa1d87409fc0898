/-! Layout -/
/-- 1 if so, 0 if not -/
noncomputable def zb (p : Prop) : Int32 := @ite _ p (Classical.propDecidable p) 1 0
theorem zb_t {p : Prop} (h : p) : zb p = 1 := if_pos h
theorem zb_f {p : Prop} (h : ¬ p) : zb p = 0 := if_neg h
theorem zb_T : zb True = 1 := zb_t trivial
theorem zb_F : zb False = 0 := zb_f (fun h => h)
theorem zb_e {p q : Prop} (h : p ↔ q) : zb p = zb q := congrArg zb (propext h)
section SL
variable {s : am_S} {b : Nat} {Q : Option Value → am_H → Prop}
theorem e_L_clear (hb : b ∈ bsL) : am_C f_L_clear [.ref b] (TP, s) Q ↔ Q none (TP, am_wr s b 3 0) := by
  rw [c_L_clear]
  simp only [k_L_clear_0, k_L_clear_1, k_L_clear_2, k_L_clear_5, p_L3 hb, am_ob_s, List.tail_cons, List.tail_nil, Option.toList_some, Option.toList_none, List.nil_append, List.cons_append, List.length_nil, List.length_cons, Nat.zero_le, true_and, and_true, true_implies, false_implies, not_true_eq_false, not_false_eq_true, implies_true]
theorem e_L_isFull (hb : b ∈ bsL) : am_C f_L_isFull [.ref b] (TP, s) Q ↔ Q (some (.int (zb (¬ s b 3 < 4)))) (TP, s) := by
  rw [c_L_isFull]
  simp only [k_L_isFull_0, k_L_isFull_1, k_L_isFull_4, k_L_isFull_5, k_L_isFull_8, k_L_isFull_9, k_L_isFull_12, k_L_isFull_13, g_L3 hb, am_ob_s, List.tail_cons, List.tail_nil, Option.toList_some, Option.toList_none, List.nil_append, List.cons_append, List.length_nil, List.length_cons, Nat.zero_le, true_and, and_true, true_implies, false_implies, not_true_eq_false, not_false_eq_true, implies_true]
  by_cases h : s b 3 < 4 <;> simp [h, zb]
theorem e_L_isFull' (hb : b ∈ bsL) {L : pLy} (hL : LyC s b L) : am_C f_L_isFull [.ref b] (TP, s) Q ↔ Q (some (.int (zb (4 ≤ L.length)))) (TP, s) := by
  rw [e_L_isFull hb, hL.1]
  have h1 : (nI L.length < 4) ↔ L.length < 4 := nI_ltI (b := 4) (by have := hL.2.1; omega) (by decide)
  by_cases h : L.length < 4
  · have h2 : ¬ 4 ≤ L.length := by omega
    simp [zb, h1, h, h2]
  · have h2 : 4 ≤ L.length := by omega
    simp [zb, h1, h, h2]
theorem e_L_find0 (hb : b ∈ bsL) {n : Nat} (hn : s b 3 = nI n) (hn4 : n ≤ 4) (v : Int32) : am_C f_L_find [.ref b, .int v] (TP, s) Q ↔ Q (some (.int (fnd (s (b + 1)) v 0 n))) (TP, s) := by
  rw [c_L_find]
  have loop : ∀ (r j : Nat), j + r = n → ∀ jk : List Value, am_W m_L_find 2 (.ref b :: .int v :: .int (nI j) :: jk) [] (TP, s) Q ↔ Q (some (.int (fnd (s (b + 1)) v j r))) (TP, s) := by
    intro r
    induction r with
    | zero =>
      intro j hj jk
      have h1 : nI n ≤ nI j := nI_le (by omega) (by omega)
      rw [k_L_find_2]
      simp only [k_L_find_0, k_L_find_1, k_L_find_3, k_L_find_4, k_L_find_7, k_L_find_10, k_L_find_11, k_L_find_14, k_L_find_15, k_L_find_16, k_L_find_17, k_L_find_20, k_L_find_21, k_L_find_22, k_L_find_25, k_L_find_28, k_L_find_29, g_L3 hb, hn, h1, fnd, am_ob_s, List.tail_cons, List.tail_nil, Option.toList_some, Option.toList_none, List.nil_append, List.cons_append, List.length_nil, List.length_cons, Nat.zero_le, true_and, and_true, true_implies, false_implies, not_true_eq_false, not_false_eq_true, implies_true]
    | succ r ih =>
      intro j hj jk
      have h1 : ¬ nI n ≤ nI j := nI_ge (by omega) (by omega)
      rw [k_L_find_2]
      simp only [k_L_find_0, k_L_find_1, k_L_find_3, k_L_find_4, k_L_find_7, k_L_find_10, k_L_find_11, k_L_find_14, k_L_find_15, k_L_find_16, k_L_find_17, k_L_find_20, k_L_find_21, k_L_find_22, k_L_find_25, k_L_find_28, k_L_find_29, g_L3 hb, g_L0 hb, l_L1 hb (show j < 4 by omega), hn, h1, nI_1, am_ob_s, List.tail_cons, List.tail_nil, Option.toList_some, Option.toList_none, List.nil_append, List.cons_append, List.length_nil, List.length_cons, Nat.zero_le, true_and, and_true, true_implies, false_implies, not_true_eq_false, not_false_eq_true, implies_true]
      rw [ih (j + 1) (by omega)]
      by_cases h2 : s (b + 1) j = v <;> simp [h2, fnd]
  have := loop n 0 (by omega) []
  rw [nI_0] at this
  simp only [k_L_find_0, k_L_find_1, am_ob_s, List.tail_cons, List.tail_nil, Option.toList_some, Option.toList_none, List.nil_append, List.cons_append, List.length_nil, List.length_cons, Nat.zero_le, true_and, and_true, true_implies, false_implies, not_true_eq_false, not_false_eq_true, implies_true]
  exact this
theorem e_L_find (hb : b ∈ bsL) {L : pLy} (hL : LyC s b L) (v : Int32) : am_C f_L_find [.ref b, .int v] (TP, s) Q ↔ Q (some (.int (pIx (pFind L v)))) (TP, s) := by
  rw [e_L_find0 hb hL.1 hL.2.1, LyC_find hL]
theorem e_L_typeNamed (hb : b ∈ bsL) {L : pLy} (hL : LyC s b L) (v : Int32) : am_C f_L_typeNamed [.ref b, .int v] (TP, s) Q ↔ Q (some (.int (pIx (pTy L v)))) (TP, s) := by
  rw [c_L_typeNamed]
  simp only [k_L_typeNamed_0, k_L_typeNamed_1, k_L_typeNamed_2, rc_L hb, e_L_find hb hL, am_ob_s, List.tail_cons, List.tail_nil, Option.toList_some, Option.toList_none, List.nil_append, List.cons_append, List.length_nil, List.length_cons, Nat.zero_le, true_and, and_true, true_implies, false_implies, not_true_eq_false, not_false_eq_true, implies_true, Nat.zero_le, and_self, true_and]
  cases hf : pFind L v with
  | none =>
    simp only [k_L_typeNamed_5, k_L_typeNamed_6, k_L_typeNamed_7, k_L_typeNamed_8, k_L_typeNamed_11, k_L_typeNamed_12, k_L_typeNamed_15, k_L_typeNamed_16, k_L_typeNamed_19, k_L_typeNamed_20, k_L_typeNamed_21, pIx, pTy, hf, Option.bind_none, am_ob_s, List.tail_cons, List.tail_nil, Option.toList_some, Option.toList_none, List.nil_append, List.cons_append, List.length_nil, List.length_cons, Nat.zero_le, true_and, and_true, true_implies, false_implies, not_true_eq_false, not_false_eq_true, implies_true]
  | some k =>
    have hk := pFind_lt hf
    have h4 := hL.2.1
    have h1 : ¬ nI k = -1 := nI_ne1 (by omega)
    have hd : L[k]? = some L[k] := List.getElem?_eq_getElem hk
    have h2 := (hL.2.2 k _ hd).2.1
    simp only [k_L_typeNamed_5, k_L_typeNamed_6, k_L_typeNamed_7, k_L_typeNamed_8, k_L_typeNamed_11, k_L_typeNamed_12, k_L_typeNamed_15, k_L_typeNamed_16, k_L_typeNamed_19, k_L_typeNamed_20, k_L_typeNamed_21, pIx, pTy, hf, Option.bind_some, hd, Option.map_some, g_L1 hb, l_L2 hb (show k < 4 by omega), h1, h2, am_ob_s, List.tail_cons, List.tail_nil, Option.toList_some, Option.toList_none, List.nil_append, List.cons_append, List.length_nil, List.length_cons, Nat.zero_le, true_and, and_true, true_implies, false_implies, not_true_eq_false, not_false_eq_true, implies_true]
theorem e_L_add (hb : b ∈ bsL) {L : pLy} (hL : LyC s b L) (h4 : L.length < 4) (x y z : Int32) : am_C f_L_add [.ref b, .int x, .int y, .int z] (TP, s) Q ↔ Q none (TP, am_wr (am_wr (am_wr (am_wr s (b + 1) L.length x) (b + 2) L.length y) (b + 3) L.length z) b 3 (nI (L.length + 1))) := by
  rw [c_L_add]
  have hz : zb (4 ≤ L.length) = 0 := if_neg (by omega)
  have e1 : ∀ (i k : Nat) (v : Int32), i ≠ b → am_wr s i k v b 3 = s b 3 := fun i k v h => by rw [am_wr_row s (Ne.symm h)]
  have e2 : ∀ (s2 : am_S) (i k : Nat) (v : Int32), i ≠ b → am_wr s2 i k v b 3 = s2 b 3 := fun s2 i k v h => by rw [am_wr_row s2 (Ne.symm h)]
  simp only [k_L_add_0, k_L_add_1, k_L_add_4, k_L_add_7, k_L_add_8, k_L_add_9, k_L_add_12, k_L_add_13, k_L_add_16, k_L_add_17, k_L_add_18, k_L_add_19, k_L_add_22, k_L_add_23, k_L_add_26, k_L_add_27, k_L_add_28, k_L_add_29, k_L_add_32, k_L_add_33, k_L_add_36, k_L_add_37, k_L_add_38, k_L_add_39, k_L_add_39i, k_L_add_40, k_L_add_43, k_L_add_44, k_L_add_45, k_L_add_48, rc_L hb, e_L_isFull' hb hL, hz, g_L0 hb, g_L1 hb, g_L2 hb, g_L3 hb, hL.1, w_L1 hb h4, w_L2 hb h4, w_L3 hb h4, p_L3 hb, e2 _ (b + 1) _ _ (by omega), e2 _ (b + 2) _ _ (by omega), e2 _ (b + 3) _ _ (by omega), nI_1, am_ob_s, List.tail_cons, List.tail_nil, Option.toList_some, Option.toList_none, List.nil_append, List.cons_append, List.length_nil, List.length_cons, Nat.zero_le, true_and, and_true, true_implies, false_implies, not_true_eq_false, not_false_eq_true, implies_true]
end SL
