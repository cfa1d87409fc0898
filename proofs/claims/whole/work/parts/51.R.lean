/-! Routine; copies -/
theorem any_step {α : Type} {l : List α} {j : Nat} {e : α} (P : α → Bool) (h : l[j]? = some e) : (l.drop j).any P = (P e || (l.drop (j + 1)).any P) := by
  obtain ⟨hj, he⟩ := List.getElem?_eq_some_iff.mp h
  rw [List.drop_eq_getElem_cons hj, he, List.any_cons]
theorem any_end {α : Type} {l : List α} {j : Nat} (P : α → Bool) (h : l.length ≤ j) : (l.drop j).any P = false := by
  rw [List.drop_eq_nil_of_le h]
  rfl
/-- a bit of a mask -/
def tbit (m x : Int32) : Bool := decide (¬ (m >>> (x &&& 31)) &&& 1 = 0)
def pJmp (v : Int32) (e : Nat × Int32 × Nat) : Bool := (decide (nI e.1 = 8) || decide (nI e.1 = 9)) && decide (e.2.1 = v)
def pUse (m : Int32) (e : Nat × Int32 × Nat) : Bool := (decide (nI e.1 = 10) || (decide (nI e.1 = 11) || decide (nI e.1 = 12))) && tbit m e.2.1
def pCal (m : Int32) (e : Nat × Int32 × Nat) : Bool := decide (nI e.1 = 13) && tbit m e.2.1
theorem lk_ok : ∀ K, K < 256 → ∀ i, i < 4 → ((nI K >>> (((2 : Int32) * nI i) &&& 31)) &&& 3) = nI (lk K i) := by decide +kernel
section SR
variable {s : am_S} {a b : Nat} {Q : Option Value → am_H → Prop}
theorem e_cpy {t n k0 k1 : Nat} {n32 : Int32} (ha : TP[a]? = some (.inl (0, k0, none))) (hb : TP[b]? = some (.inl (0, k1, none))) (hn : n32 = nI n) (h0 : n ≤ k0) (h1 : n ≤ k1) (hk : n < 1000) : am_C am_cpy [.ref a, .int 0, .ref b, .int 0, .int n32] (TP, s) Q ↔ Q none (TP, am_cp s a 0 b 0 n) := by
  subst hn
  refine am_C_iff am_cpy_mono ⟨0, none, (TP, am_cp s a 0 b 0 n), ?_, rfl, rfl⟩
  unfold am_cpy
  dsimp only
  rw [ha, hb]
  dsimp only
  have z : (0 : Int32).toNatClampNeg = 0 := by decide
  have e : (nI n).toNatClampNeg = n := nI_clamp (by omega)
  rw [z, e, if_pos]
  exact ⟨⟨rfl, rfl⟩, ⟨by decide, by decide, nI_pos (by omega)⟩, by omega, by omega⟩
/-- a layout is copied -/
def cpL (s : am_S) (a b : Nat) : am_S := am_cp (am_cp (am_cp (am_wr s b 3 (s a 3)) (a + 1) 0 (b + 1) 0 4) (a + 2) 0 (b + 2) 0 4) (a + 3) 0 (b + 3) 0 4
theorem e_L_copy (ha : a ∈ bsL) (hb : b ∈ bsL) : am_C f_L_copy [.ref b, .ref a] (TP, s) Q ↔ Q none (TP, cpL s a b) := by
  rw [c_L_copy]
  have c1 := fun (s : am_S) (Q : Option Value → am_H → Prop) => e_cpy (t := 0) (s := s) (Q := Q) (n := 4) (n32 := 4) (tL1 a ha) (tL1 b hb) rfl (by omega) (by omega) (by omega)
  have c2 := fun (s : am_S) (Q : Option Value → am_H → Prop) => e_cpy (t := 0) (s := s) (Q := Q) (n := 4) (n32 := 4) (tL2 a ha) (tL2 b hb) rfl (by omega) (by omega) (by omega)
  have c3 := fun (s : am_S) (Q : Option Value → am_H → Prop) => e_cpy (t := 0) (s := s) (Q := Q) (n := 4) (n32 := 4) (tL3 a ha) (tL3 b hb) rfl (by omega) (by omega) (by omega)
  simp only [k_L_copy_0, k_L_copy_1, k_L_copy_2, k_L_copy_5, k_L_copy_8, k_L_copy_9, k_L_copy_12, k_L_copy_13, k_L_copy_14, k_L_copy_17, k_L_copy_18, k_L_copy_19, k_L_copy_22, k_L_copy_23, k_L_copy_26, k_L_copy_27, k_L_copy_28, k_L_copy_31, k_L_copy_32, k_L_copy_33, k_L_copy_36, k_L_copy_37, k_L_copy_40, k_L_copy_41, k_L_copy_42, k_L_copy_45, k_L_copy_46, k_L_copy_47, k_L_copy_50, g_L0 ha, g_L1 ha, g_L2 ha, g_L3 ha, g_L0 hb, g_L1 hb, g_L2 hb, p_L3 hb, c1, c2, c3, am_rc, cpL, am_ob_s, List.tail_cons, List.tail_nil, Option.toList_some, Option.toList_none, List.nil_append, List.cons_append, List.length_nil, List.length_cons, Nat.zero_le, true_and, and_true, true_implies, false_implies, not_true_eq_false, not_false_eq_true, implies_true]
/-- a routine is copied -/
def cpR (s : am_S) (a b : Nat) : am_S := am_cp (am_cp (am_cp (am_cp (am_wr (am_wr (am_wr s b 4 (s a 4)) b 5 (s a 5)) b 6 (s a 6)) (a + 1) 0 (b + 1) 0 4) (a + 2) 0 (b + 2) 0 14) (a + 3) 0 (b + 3) 0 14) (a + 4) 0 (b + 4) 0 14
theorem e_R_copy (ha : a ∈ bsR) (hb : b ∈ bsR) (hab : a ≠ b) : am_C f_R_copy [.ref b, .ref a] (TP, s) Q ↔ Q none (TP, cpR s a b) := by
  rw [c_R_copy]
  have c1 := fun (s : am_S) (Q : Option Value → am_H → Prop) => e_cpy (t := 0) (s := s) (Q := Q) (n := 4) (n32 := 4) (tR1 a ha) (tR1 b hb) rfl (by omega) (by omega) (by omega)
  have c2 := fun (s : am_S) (Q : Option Value → am_H → Prop) => e_cpy (t := 0) (s := s) (Q := Q) (n := 14) (n32 := 14) (tR2 a ha) (tR2 b hb) rfl (by omega) (by omega) (by omega)
  have c3 := fun (s : am_S) (Q : Option Value → am_H → Prop) => e_cpy (t := 0) (s := s) (Q := Q) (n := 14) (n32 := 14) (tR3 a ha) (tR3 b hb) rfl (by omega) (by omega) (by omega)
  have c4 := fun (s : am_S) (Q : Option Value → am_H → Prop) => e_cpy (t := 0) (s := s) (Q := Q) (n := 14) (n32 := 14) (tR4 a ha) (tR4 b hb) rfl (by omega) (by omega) (by omega)
  have r1 : ∀ (s : am_S) (k : Nat) (v : Int32), am_wr s b k v a = s a := fun s k v => am_wr_row s hab
  simp only [k_R_copy_0, k_R_copy_1, k_R_copy_2, k_R_copy_5, k_R_copy_8, k_R_copy_9, k_R_copy_10, k_R_copy_13, k_R_copy_16, k_R_copy_17, k_R_copy_18, k_R_copy_21, k_R_copy_24, k_R_copy_25, k_R_copy_28, k_R_copy_29, k_R_copy_30, k_R_copy_33, k_R_copy_34, k_R_copy_35, k_R_copy_38, k_R_copy_39, k_R_copy_42, k_R_copy_43, k_R_copy_44, k_R_copy_47, k_R_copy_48, k_R_copy_50, k_R_copy_53, k_R_copy_54, k_R_copy_57, k_R_copy_58, k_R_copy_59, k_R_copy_62, k_R_copy_63, k_R_copy_65, k_R_copy_68, k_R_copy_69, k_R_copy_72, k_R_copy_73, k_R_copy_74, k_R_copy_77, k_R_copy_78, k_R_copy_80, k_R_copy_83, g_R0 ha, g_R1 ha, g_R2 ha, g_R3 ha, g_R4 ha, g_R5 ha, g_R6 ha, g_R0 hb, g_R1 hb, g_R2 hb, g_R3 hb, p_R4 hb, p_R5 hb, p_R6 hb, r1, c1, c2, c3, c4, am_rc, cpR, am_ob_s, List.tail_cons, List.tail_nil, Option.toList_some, Option.toList_none, List.nil_append, List.cons_append, List.length_nil, List.length_cons, Nat.zero_le, true_and, and_true, true_implies, false_implies, not_true_eq_false, not_false_eq_true, implies_true]
theorem e_R_isFull (hb : b ∈ bsR) {R : pRo} (hR : RoC s b R) : am_C f_R_isFull [.ref b] (TP, s) Q ↔ Q (some (.int (zb (14 ≤ R.2.2.2.length)))) (TP, s) := by
  rw [c_R_isFull]
  have h1 : (nI R.2.2.2.length < 14) ↔ R.2.2.2.length < 14 := nI_ltI (b := 14) (by have := hR.2.2.2.2.1; omega) (by decide)
  simp only [k_R_isFull_0, k_R_isFull_1, k_R_isFull_4, k_R_isFull_6, k_R_isFull_9, k_R_isFull_10, k_R_isFull_13, k_R_isFull_14, g_R6 hb, hR.2.2.2.1, h1, am_ob_s, List.tail_cons, List.tail_nil, Option.toList_some, Option.toList_none, List.nil_append, List.cons_append, List.length_nil, List.length_cons, Nat.zero_le, true_and, and_true, true_implies, false_implies, not_true_eq_false, not_false_eq_true, implies_true]
  by_cases h : R.2.2.2.length < 14
  · simp [h, zb, Nat.not_le.mpr h]
  · simp [h, zb, Nat.not_lt.mp h]
theorem e_R_isDefined (hb : b ∈ bsR) {R : pRo} (hR : RoC s b R) : am_C f_R_isDefined [.ref b] (TP, s) Q ↔ Q (some (.int (zb (0 < R.2.2.2.length)))) (TP, s) := by
  rw [c_R_isDefined]
  have h1 : (nI R.2.2.2.length ≤ 0) ↔ R.2.2.2.length ≤ 0 := nI_leI (b := 0) (by have := hR.2.2.2.2.1; omega) (by decide)
  simp only [k_R_isDefined_0, k_R_isDefined_1, k_R_isDefined_4, k_R_isDefined_7, k_R_isDefined_8, k_R_isDefined_11, k_R_isDefined_12, g_R6 hb, hR.2.2.2.1, h1, am_ob_s, List.tail_cons, List.tail_nil, Option.toList_some, Option.toList_none, List.nil_append, List.cons_append, List.length_nil, List.length_cons, Nat.zero_le, true_and, and_true, true_implies, false_implies, not_true_eq_false, not_false_eq_true, implies_true]
  by_cases h : R.2.2.2.length ≤ 0
  · simp [h, zb, Nat.not_lt.mpr h]
  · simp [h, zb, Nat.not_le.mp h]
theorem e_R_hasPlace (hb : b ∈ bsR) {R : pRo} (hR : RoC s b R) (v : Int32) : am_C f_R_hasPlace [.ref b, .int v] (TP, s) Q ↔ Q (some (.int (zb (¬ v < 0 ∧ ¬ nI R.2.2.2.length ≤ v)))) (TP, s) := by
  rw [c_R_hasPlace]
  simp only [k_R_hasPlace_0, k_R_hasPlace_1, k_R_hasPlace_4, k_R_hasPlace_5, k_R_hasPlace_6, k_R_hasPlace_9, k_R_hasPlace_12, k_R_hasPlace_13, k_R_hasPlace_16, k_R_hasPlace_17, g_R6 hb, hR.2.2.2.1, am_ob_s, List.tail_cons, List.tail_nil, Option.toList_some, Option.toList_none, List.nil_append, List.cons_append, List.length_nil, List.length_cons, Nat.zero_le, true_and, and_true, true_implies, false_implies, not_true_eq_false, not_false_eq_true, implies_true]
  by_cases h : v < 0
  · simp [h, zb]
  · by_cases h2 : nI R.2.2.2.length ≤ v
    · simp [h, h2, zb]
    · simp [h, h2, zb]
theorem e_R_add (hb : b ∈ bsR) {R : pRo} (hR : RoC s b R) (h4 : R.2.2.2.length < 14) (x y z : Int32) : am_C f_R_add [.ref b, .int x, .int y, .int z] (TP, s) Q ↔ Q none (TP, am_wr (am_wr (am_wr (am_wr s (b + 2) R.2.2.2.length x) (b + 3) R.2.2.2.length y) (b + 4) R.2.2.2.length z) b 6 (nI (R.2.2.2.length + 1))) := by
  rw [c_R_add]
  have hz : zb (14 ≤ R.2.2.2.length) = 0 := if_neg (by omega)
  have e2 : ∀ (s2 : am_S) (i k : Nat) (v : Int32), i ≠ b → am_wr s2 i k v b 6 = s2 b 6 := fun s2 i k v h => by rw [am_wr_row s2 (Ne.symm h)]
  simp only [k_R_add_0, k_R_add_1, k_R_add_4, k_R_add_7, k_R_add_8, k_R_add_9, k_R_add_12, k_R_add_13, k_R_add_16, k_R_add_17, k_R_add_18, k_R_add_19, k_R_add_22, k_R_add_23, k_R_add_26, k_R_add_27, k_R_add_28, k_R_add_29, k_R_add_32, k_R_add_33, k_R_add_36, k_R_add_37, k_R_add_38, k_R_add_39, k_R_add_39i, k_R_add_40, k_R_add_43, k_R_add_44, k_R_add_45, k_R_add_48, rc_R hb, e_R_isFull hb hR, hz, g_R1 hb, g_R2 hb, g_R3 hb, g_R6 hb, hR.2.2.2.1, w_R2 hb h4, w_R3 hb h4, w_R4 hb h4, p_R6 hb, e2 _ (b + 2) _ _ (by omega), e2 _ (b + 3) _ _ (by omega), e2 _ (b + 4) _ _ (by omega), nI_1, am_ob_s, List.tail_cons, List.tail_nil, Option.toList_some, Option.toList_none, List.nil_append, List.cons_append, List.length_nil, List.length_cons, Nat.zero_le, true_and, and_true, true_implies, false_implies, not_true_eq_false, not_false_eq_true, implies_true]
theorem e_R_jumpsTo (hb : b ∈ bsR) {R : pRo} (hR : RoC s b R) (v : Int32) : am_C f_R_jumpsTo [.ref b, .int v] (TP, s) Q ↔ Q (some (.int (zb (R.2.2.2.any (pJmp v) = true)))) (TP, s) := by
  rw [c_R_jumpsTo]
  have hlen := hR.2.2.2.2.1
  have loop : ∀ (r j : Nat), j + r = R.2.2.2.length → ∀ jk : List Value, am_W m_R_jumpsTo 2 (.ref b :: .int v :: .int (nI j) :: jk) [] (TP, s) Q ↔ Q (some (.int (zb ((R.2.2.2.drop j).any (pJmp v) = true)))) (TP, s) := by
    intro r
    induction r with
    | zero =>
      intro j hj jk
      have h1 : nI R.2.2.2.length ≤ nI j := nI_le (by omega) (by omega)
      rw [k_R_jumpsTo_2]
      simp only [k_R_jumpsTo_0, k_R_jumpsTo_1, k_R_jumpsTo_3, k_R_jumpsTo_4, k_R_jumpsTo_7, k_R_jumpsTo_10, k_R_jumpsTo_11, k_R_jumpsTo_14, k_R_jumpsTo_15, k_R_jumpsTo_16, k_R_jumpsTo_18, k_R_jumpsTo_21, k_R_jumpsTo_22, k_R_jumpsTo_25, k_R_jumpsTo_26, k_R_jumpsTo_27, k_R_jumpsTo_29, k_R_jumpsTo_32, k_R_jumpsTo_33, k_R_jumpsTo_36, k_R_jumpsTo_37, k_R_jumpsTo_38, k_R_jumpsTo_39, k_R_jumpsTo_42, k_R_jumpsTo_43, k_R_jumpsTo_44, k_R_jumpsTo_47, k_R_jumpsTo_50, k_R_jumpsTo_51, g_R6 hb, hR.2.2.2.1, h1, any_end (pJmp v) (show R.2.2.2.length ≤ j by omega), am_ob_s, List.tail_cons, List.tail_nil, Option.toList_some, Option.toList_none, List.nil_append, List.cons_append, List.length_nil, List.length_cons, Nat.zero_le, true_and, and_true, true_implies, false_implies, not_true_eq_false, not_false_eq_true, implies_true]
      simp [zb_T, zb_F]
    | succ r ih =>
      intro j hj jk
      have h1 : ¬ nI R.2.2.2.length ≤ nI j := nI_ge (by omega) (by omega)
      obtain ⟨e, hd⟩ : ∃ e, R.2.2.2[j]? = some e := ⟨_, List.getElem?_eq_getElem (by omega)⟩
      obtain ⟨e1, e2, e3⟩ := hR.2.2.2.2.2 j _ hd
      rw [k_R_jumpsTo_2]
      simp only [k_R_jumpsTo_0, k_R_jumpsTo_1, k_R_jumpsTo_3, k_R_jumpsTo_4, k_R_jumpsTo_7, k_R_jumpsTo_10, k_R_jumpsTo_11, k_R_jumpsTo_14, k_R_jumpsTo_15, k_R_jumpsTo_16, k_R_jumpsTo_18, k_R_jumpsTo_21, k_R_jumpsTo_22, k_R_jumpsTo_25, k_R_jumpsTo_26, k_R_jumpsTo_27, k_R_jumpsTo_29, k_R_jumpsTo_32, k_R_jumpsTo_33, k_R_jumpsTo_36, k_R_jumpsTo_37, k_R_jumpsTo_38, k_R_jumpsTo_39, k_R_jumpsTo_42, k_R_jumpsTo_43, k_R_jumpsTo_44, k_R_jumpsTo_47, k_R_jumpsTo_50, k_R_jumpsTo_51, g_R6 hb, hR.2.2.2.1, h1, g_R1 hb, g_R2 hb, l_R2 hb (show j < 14 by omega), l_R3 hb (show j < 14 by omega), e1, e2, nI_1, am_ob_s, List.tail_cons, List.tail_nil, Option.toList_some, Option.toList_none, List.nil_append, List.cons_append, List.length_nil, List.length_cons, Nat.zero_le, true_and, and_true, true_implies, false_implies, not_true_eq_false, not_false_eq_true, implies_true]
      rw [ih (j + 1) (by omega), any_step (pJmp v) hd]
      by_cases q1 : nI e.1 = 8 <;> by_cases q2 : nI e.1 = 9 <;> by_cases q3 : e.2.1 = v <;> (first | (have hp : pJmp v e = true := (by simp [pJmp, q1, q2, q3]); simp [hp, q1, q2, q3, zb_T, zb_F]; done) | (have hp : pJmp v e = false := (by simp [pJmp, q1, q2, q3]); simp [hp, q1, q2, q3, zb_T, zb_F]; done))
  have := loop R.2.2.2.length 0 (by omega) []
  rw [nI_0, List.drop_zero] at this
  simp only [k_R_jumpsTo_0, k_R_jumpsTo_1, am_ob_s, List.tail_cons, List.tail_nil, Option.toList_some, Option.toList_none, List.nil_append, List.cons_append, List.length_nil, List.length_cons, Nat.zero_le, true_and, and_true, true_implies, false_implies, not_true_eq_false, not_false_eq_true, implies_true]
  exact this
theorem e_R_usesOneOfClasses (hb : b ∈ bsR) {R : pRo} (hR : RoC s b R) (v : Int32) : am_C f_R_usesOneOfClasses [.ref b, .int v] (TP, s) Q ↔ Q (some (.int (zb (R.2.2.2.any (pUse v) = true)))) (TP, s) := by
  rw [c_R_usesOneOfClasses]
  have hlen := hR.2.2.2.2.1
  have loop : ∀ (r j : Nat), j + r = R.2.2.2.length → ∀ jk : List Value, am_W m_R_usesOneOfClasses 2 (.ref b :: .int v :: .int (nI j) :: jk) [] (TP, s) Q ↔ Q (some (.int (zb ((R.2.2.2.drop j).any (pUse v) = true)))) (TP, s) := by
    intro r
    induction r with
    | zero =>
      intro j hj jk
      have h1 : nI R.2.2.2.length ≤ nI j := nI_le (by omega) (by omega)
      rw [k_R_usesOneOfClasses_2]
      simp only [k_R_usesOneOfClasses_0, k_R_usesOneOfClasses_1, k_R_usesOneOfClasses_3, k_R_usesOneOfClasses_4, k_R_usesOneOfClasses_7, k_R_usesOneOfClasses_10, k_R_usesOneOfClasses_11, k_R_usesOneOfClasses_14, k_R_usesOneOfClasses_15, k_R_usesOneOfClasses_16, k_R_usesOneOfClasses_18, k_R_usesOneOfClasses_21, k_R_usesOneOfClasses_22, k_R_usesOneOfClasses_25, k_R_usesOneOfClasses_26, k_R_usesOneOfClasses_27, k_R_usesOneOfClasses_29, k_R_usesOneOfClasses_32, k_R_usesOneOfClasses_33, k_R_usesOneOfClasses_36, k_R_usesOneOfClasses_37, k_R_usesOneOfClasses_38, k_R_usesOneOfClasses_40, k_R_usesOneOfClasses_43, k_R_usesOneOfClasses_44, k_R_usesOneOfClasses_47, k_R_usesOneOfClasses_48, k_R_usesOneOfClasses_49, k_R_usesOneOfClasses_50, k_R_usesOneOfClasses_53, k_R_usesOneOfClasses_54, k_R_usesOneOfClasses_55, k_R_usesOneOfClasses_58, k_R_usesOneOfClasses_59, k_R_usesOneOfClasses_60, k_R_usesOneOfClasses_61, k_R_usesOneOfClasses_62, k_R_usesOneOfClasses_63, k_R_usesOneOfClasses_66, k_R_usesOneOfClasses_67, k_R_usesOneOfClasses_68, k_R_usesOneOfClasses_71, k_R_usesOneOfClasses_74, k_R_usesOneOfClasses_75, g_R6 hb, hR.2.2.2.1, h1, any_end (pUse v) (show R.2.2.2.length ≤ j by omega), am_ob_s, List.tail_cons, List.tail_nil, Option.toList_some, Option.toList_none, List.nil_append, List.cons_append, List.length_nil, List.length_cons, Nat.zero_le, true_and, and_true, true_implies, false_implies, not_true_eq_false, not_false_eq_true, implies_true]
      simp [zb_T, zb_F]
    | succ r ih =>
      intro j hj jk
      have h1 : ¬ nI R.2.2.2.length ≤ nI j := nI_ge (by omega) (by omega)
      obtain ⟨e, hd⟩ : ∃ e, R.2.2.2[j]? = some e := ⟨_, List.getElem?_eq_getElem (by omega)⟩
      obtain ⟨e1, e2, e3⟩ := hR.2.2.2.2.2 j _ hd
      rw [k_R_usesOneOfClasses_2]
      simp only [k_R_usesOneOfClasses_0, k_R_usesOneOfClasses_1, k_R_usesOneOfClasses_3, k_R_usesOneOfClasses_4, k_R_usesOneOfClasses_7, k_R_usesOneOfClasses_10, k_R_usesOneOfClasses_11, k_R_usesOneOfClasses_14, k_R_usesOneOfClasses_15, k_R_usesOneOfClasses_16, k_R_usesOneOfClasses_18, k_R_usesOneOfClasses_21, k_R_usesOneOfClasses_22, k_R_usesOneOfClasses_25, k_R_usesOneOfClasses_26, k_R_usesOneOfClasses_27, k_R_usesOneOfClasses_29, k_R_usesOneOfClasses_32, k_R_usesOneOfClasses_33, k_R_usesOneOfClasses_36, k_R_usesOneOfClasses_37, k_R_usesOneOfClasses_38, k_R_usesOneOfClasses_40, k_R_usesOneOfClasses_43, k_R_usesOneOfClasses_44, k_R_usesOneOfClasses_47, k_R_usesOneOfClasses_48, k_R_usesOneOfClasses_49, k_R_usesOneOfClasses_50, k_R_usesOneOfClasses_53, k_R_usesOneOfClasses_54, k_R_usesOneOfClasses_55, k_R_usesOneOfClasses_58, k_R_usesOneOfClasses_59, k_R_usesOneOfClasses_60, k_R_usesOneOfClasses_61, k_R_usesOneOfClasses_62, k_R_usesOneOfClasses_63, k_R_usesOneOfClasses_66, k_R_usesOneOfClasses_67, k_R_usesOneOfClasses_68, k_R_usesOneOfClasses_71, k_R_usesOneOfClasses_74, k_R_usesOneOfClasses_75, g_R6 hb, hR.2.2.2.1, h1, g_R1 hb, g_R2 hb, l_R2 hb (show j < 14 by omega), l_R3 hb (show j < 14 by omega), e1, e2, nI_1, am_ob_s, List.tail_cons, List.tail_nil, Option.toList_some, Option.toList_none, List.nil_append, List.cons_append, List.length_nil, List.length_cons, Nat.zero_le, true_and, and_true, true_implies, false_implies, not_true_eq_false, not_false_eq_true, implies_true]
      simp only [ih (j + 1) (by omega), any_step (pUse v) hd]
      by_cases q3 : (v >>> (e.2.1 &&& 31)) &&& 1 = 0 <;> by_cases q1 : nI e.1 = 10 <;> by_cases q2 : nI e.1 = 11 <;> by_cases q4 : nI e.1 = 12 <;> (first | (have hp : pUse v e = true := (by simp [pUse, tbit, q1, q2, q3, q4]); simp [hp, q1, q2, q3, q4, zb_T, zb_F]; done) | (have hp : pUse v e = false := (by simp [pUse, tbit, q1, q2, q3, q4]); simp [hp, q1, q2, q3, q4, zb_T, zb_F]; done))
  have := loop R.2.2.2.length 0 (by omega) []
  rw [nI_0, List.drop_zero] at this
  simp only [k_R_usesOneOfClasses_0, k_R_usesOneOfClasses_1, am_ob_s, List.tail_cons, List.tail_nil, Option.toList_some, Option.toList_none, List.nil_append, List.cons_append, List.length_nil, List.length_cons, Nat.zero_le, true_and, and_true, true_implies, false_implies, not_true_eq_false, not_false_eq_true, implies_true]
  exact this
theorem e_R_callsOneOfMethods (hb : b ∈ bsR) {R : pRo} (hR : RoC s b R) (v : Int32) : am_C f_R_callsOneOfMethods [.ref b, .int v] (TP, s) Q ↔ Q (some (.int (zb (R.2.2.2.any (pCal v) = true)))) (TP, s) := by
  rw [c_R_callsOneOfMethods]
  have hlen := hR.2.2.2.2.1
  have loop : ∀ (r j : Nat), j + r = R.2.2.2.length → ∀ jk : List Value, am_W m_R_callsOneOfMethods 2 (.ref b :: .int v :: .int (nI j) :: jk) [] (TP, s) Q ↔ Q (some (.int (zb ((R.2.2.2.drop j).any (pCal v) = true)))) (TP, s) := by
    intro r
    induction r with
    | zero =>
      intro j hj jk
      have h1 : nI R.2.2.2.length ≤ nI j := nI_le (by omega) (by omega)
      rw [k_R_callsOneOfMethods_2]
      simp only [k_R_callsOneOfMethods_0, k_R_callsOneOfMethods_1, k_R_callsOneOfMethods_3, k_R_callsOneOfMethods_4, k_R_callsOneOfMethods_7, k_R_callsOneOfMethods_10, k_R_callsOneOfMethods_11, k_R_callsOneOfMethods_14, k_R_callsOneOfMethods_15, k_R_callsOneOfMethods_16, k_R_callsOneOfMethods_18, k_R_callsOneOfMethods_21, k_R_callsOneOfMethods_22, k_R_callsOneOfMethods_23, k_R_callsOneOfMethods_26, k_R_callsOneOfMethods_27, k_R_callsOneOfMethods_28, k_R_callsOneOfMethods_29, k_R_callsOneOfMethods_30, k_R_callsOneOfMethods_31, k_R_callsOneOfMethods_34, k_R_callsOneOfMethods_35, k_R_callsOneOfMethods_36, k_R_callsOneOfMethods_39, k_R_callsOneOfMethods_42, k_R_callsOneOfMethods_43, g_R6 hb, hR.2.2.2.1, h1, any_end (pCal v) (show R.2.2.2.length ≤ j by omega), am_ob_s, List.tail_cons, List.tail_nil, Option.toList_some, Option.toList_none, List.nil_append, List.cons_append, List.length_nil, List.length_cons, Nat.zero_le, true_and, and_true, true_implies, false_implies, not_true_eq_false, not_false_eq_true, implies_true]
      simp [zb_T, zb_F]
    | succ r ih =>
      intro j hj jk
      have h1 : ¬ nI R.2.2.2.length ≤ nI j := nI_ge (by omega) (by omega)
      obtain ⟨e, hd⟩ : ∃ e, R.2.2.2[j]? = some e := ⟨_, List.getElem?_eq_getElem (by omega)⟩
      obtain ⟨e1, e2, e3⟩ := hR.2.2.2.2.2 j _ hd
      rw [k_R_callsOneOfMethods_2]
      simp only [k_R_callsOneOfMethods_0, k_R_callsOneOfMethods_1, k_R_callsOneOfMethods_3, k_R_callsOneOfMethods_4, k_R_callsOneOfMethods_7, k_R_callsOneOfMethods_10, k_R_callsOneOfMethods_11, k_R_callsOneOfMethods_14, k_R_callsOneOfMethods_15, k_R_callsOneOfMethods_16, k_R_callsOneOfMethods_18, k_R_callsOneOfMethods_21, k_R_callsOneOfMethods_22, k_R_callsOneOfMethods_23, k_R_callsOneOfMethods_26, k_R_callsOneOfMethods_27, k_R_callsOneOfMethods_28, k_R_callsOneOfMethods_29, k_R_callsOneOfMethods_30, k_R_callsOneOfMethods_31, k_R_callsOneOfMethods_34, k_R_callsOneOfMethods_35, k_R_callsOneOfMethods_36, k_R_callsOneOfMethods_39, k_R_callsOneOfMethods_42, k_R_callsOneOfMethods_43, g_R6 hb, hR.2.2.2.1, h1, g_R1 hb, g_R2 hb, l_R2 hb (show j < 14 by omega), l_R3 hb (show j < 14 by omega), e1, e2, nI_1, am_ob_s, List.tail_cons, List.tail_nil, Option.toList_some, Option.toList_none, List.nil_append, List.cons_append, List.length_nil, List.length_cons, Nat.zero_le, true_and, and_true, true_implies, false_implies, not_true_eq_false, not_false_eq_true, implies_true]
      simp only [ih (j + 1) (by omega), any_step (pCal v) hd]
      by_cases q3 : (v >>> (e.2.1 &&& 31)) &&& 1 = 0 <;> by_cases q1 : nI e.1 = 13 <;> (first | (have hp : pCal v e = true := (by simp [pCal, tbit, q1, q3]); simp [hp, q1, q3, zb_T, zb_F]; done) | (have hp : pCal v e = false := (by simp [pCal, tbit, q1, q3]); simp [hp, q1, q3, zb_T, zb_F]; done))
  have := loop R.2.2.2.length 0 (by omega) []
  rw [nI_0, List.drop_zero] at this
  simp only [k_R_callsOneOfMethods_0, k_R_callsOneOfMethods_1, am_ob_s, List.tail_cons, List.tail_nil, Option.toList_some, Option.toList_none, List.nil_append, List.cons_append, List.length_nil, List.length_cons, Nat.zero_le, true_and, and_true, true_implies, false_implies, not_true_eq_false, not_false_eq_true, implies_true]
  exact this
/-- the same kinds of the first n places -/
def pLike (K K' : Nat) (n : Nat) : Bool := (List.range n).all (fun i => decide (lk K i = lk K' i))
theorem lk_lt (K i : Nat) : lk K i < 4 := Nat.mod_lt _ (by decide)
theorem e_R_isCalledLike (ha : a ∈ bsR) (hb : b ∈ bsR) {R R' : pRo} (hR : RoC s b R) (hR' : RoC s a R') (h3 : R.1 ≤ 3 ∧ R'.1 ≤ 3 ∧ R.2.2.1 ≤ 3 ∧ R'.2.2.1 ≤ 3) : am_C f_R_isCalledLike [.ref b, .ref a] (TP, s) Q ↔ Q (some (.int (zb (R.1 = R'.1 ∧ R.2.2.1 = R'.2.2.1 ∧ ∀ i, i < R.1 → lk R.2.1 i = lk R'.2.1 i)))) (TP, s) := by
  rw [c_R_isCalledLike]
  have i1 : nI R.1 = nI R'.1 ↔ R.1 = R'.1 := nI_eq (by omega) (by omega)
  have i2 : nI R.2.2.1 = nI R'.2.2.1 ↔ R.2.2.1 = R'.2.2.1 := nI_eq (by omega) (by omega)
  have loop : ∀ (r j : Nat), j + r = R.1 → ∀ jk : List Value, am_W m_R_isCalledLike 26 (.ref b :: .ref a :: .int (nI j) :: jk) [] (TP, s) Q ↔ Q (some (.int (zb (∀ i, j ≤ i → i < R.1 → lk R.2.1 i = lk R'.2.1 i)))) (TP, s) := by
    intro r
    induction r with
    | zero =>
      intro j hj jk
      have h1 : nI R.1 ≤ nI j := nI_le (by omega) (by omega)
      rw [k_R_isCalledLike_26]
      have hz : zb (∀ i, j ≤ i → i < R.1 → lk R.2.1 i = lk R'.2.1 i) = 1 := if_pos (fun i g1 g2 => by omega)
      simp only [k_R_isCalledLike_0, k_R_isCalledLike_1, k_R_isCalledLike_4, k_R_isCalledLike_5, k_R_isCalledLike_8, k_R_isCalledLike_11, k_R_isCalledLike_12, k_R_isCalledLike_15, k_R_isCalledLike_16, k_R_isCalledLike_19, k_R_isCalledLike_22, k_R_isCalledLike_23, k_R_isCalledLike_24, k_R_isCalledLike_25, k_R_isCalledLike_27, k_R_isCalledLike_28, k_R_isCalledLike_31, k_R_isCalledLike_34, k_R_isCalledLike_35, k_R_isCalledLike_38, k_R_isCalledLike_39, k_R_isCalledLike_40, k_R_isCalledLike_41, k_R_isCalledLike_44, k_R_isCalledLike_45, k_R_isCalledLike_46, k_R_isCalledLike_49, k_R_isCalledLike_50, k_R_isCalledLike_51, k_R_isCalledLike_54, k_R_isCalledLike_57, k_R_isCalledLike_58, g_R4 hb, hR.1, h1, hz, am_ob_s, List.tail_cons, List.tail_nil, Option.toList_some, Option.toList_none, List.nil_append, List.cons_append, List.length_nil, List.length_cons, Nat.zero_le, true_and, and_true, true_implies, false_implies, not_true_eq_false, not_false_eq_true, implies_true]
      simp
    | succ r ih =>
      intro j hj jk
      have h1 : ¬ nI R.1 ≤ nI j := nI_ge (by omega) (by omega)
      have e1 := hR.2.1 j (by omega)
      have e2 := hR'.2.1 j (by omega)
      have i3 : nI (lk R.2.1 j) = nI (lk R'.2.1 j) ↔ lk R.2.1 j = lk R'.2.1 j := nI_eq (by have := lk_lt R.2.1 j; omega) (by have := lk_lt R'.2.1 j; omega)
      rw [k_R_isCalledLike_26]
      simp only [k_R_isCalledLike_0, k_R_isCalledLike_1, k_R_isCalledLike_4, k_R_isCalledLike_5, k_R_isCalledLike_8, k_R_isCalledLike_11, k_R_isCalledLike_12, k_R_isCalledLike_15, k_R_isCalledLike_16, k_R_isCalledLike_19, k_R_isCalledLike_22, k_R_isCalledLike_23, k_R_isCalledLike_24, k_R_isCalledLike_25, k_R_isCalledLike_27, k_R_isCalledLike_28, k_R_isCalledLike_31, k_R_isCalledLike_34, k_R_isCalledLike_35, k_R_isCalledLike_38, k_R_isCalledLike_39, k_R_isCalledLike_40, k_R_isCalledLike_41, k_R_isCalledLike_44, k_R_isCalledLike_45, k_R_isCalledLike_46, k_R_isCalledLike_49, k_R_isCalledLike_50, k_R_isCalledLike_51, k_R_isCalledLike_54, k_R_isCalledLike_57, k_R_isCalledLike_58, g_R4 hb, hR.1, h1, g_R0 ha, g_R0 hb, l_R1 hb (show j < 4 by omega), l_R1 ha (show j < 4 by omega), e1, e2, i3, nI_1, am_ob_s, List.tail_cons, List.tail_nil, Option.toList_some, Option.toList_none, List.nil_append, List.cons_append, List.length_nil, List.length_cons, Nat.zero_le, true_and, and_true, true_implies, false_implies, not_true_eq_false, not_false_eq_true, implies_true]
      rw [ih (j + 1) (by omega)]
      by_cases q : lk R.2.1 j = lk R'.2.1 j
      · have hz : zb (∀ i, j ≤ i → i < R.1 → lk R.2.1 i = lk R'.2.1 i) = zb (∀ i, j + 1 ≤ i → i < R.1 → lk R.2.1 i = lk R'.2.1 i) := by
          apply zb_e
          constructor
          · intro h i g1 g2
            exact h i (by omega) g2
          · intro h i g1 g2
            by_cases gi : i = j
            · rw [gi]; exact q
            · exact h i (by omega) g2
        rw [hz]
        simp [q]
      · have hz : zb (∀ i, j ≤ i → i < R.1 → lk R.2.1 i = lk R'.2.1 i) = 0 := if_neg (fun h => q (h j (Nat.le_refl _) (by omega)))
        rw [hz]
        simp [q]
  have hl := loop R.1 0 (by omega) []
  rw [nI_0] at hl
  simp only [k_R_isCalledLike_0, k_R_isCalledLike_1, k_R_isCalledLike_4, k_R_isCalledLike_5, k_R_isCalledLike_8, k_R_isCalledLike_11, k_R_isCalledLike_12, k_R_isCalledLike_15, k_R_isCalledLike_16, k_R_isCalledLike_19, k_R_isCalledLike_22, k_R_isCalledLike_23, k_R_isCalledLike_24, k_R_isCalledLike_25, g_R4 ha, g_R4 hb, g_R5 ha, g_R5 hb, hR.1, hR'.1, hR.2.2.1, hR'.2.2.1, i1, i2, hl, am_ob_s, List.tail_cons, List.tail_nil, Option.toList_some, Option.toList_none, List.nil_append, List.cons_append, List.length_nil, List.length_cons, Nat.zero_le, true_and, and_true, true_implies, false_implies, not_true_eq_false, not_false_eq_true, implies_true]
  by_cases q1 : R.1 = R'.1
  · by_cases q2 : R.2.2.1 = R'.2.2.1
    · have hz : zb (R.1 = R'.1 ∧ R.2.2.1 = R'.2.2.1 ∧ ∀ i, i < R.1 → lk R.2.1 i = lk R'.2.1 i) = zb (∀ i, 0 ≤ i → i < R.1 → lk R.2.1 i = lk R'.2.1 i) := by
        apply zb_e
        exact ⟨fun h i _ g => h.2.2 i g, fun h => ⟨q1, q2, fun i g => h i (Nat.zero_le _) g⟩⟩
      rw [hz]
      simp [q1, q2]
    · simp [q1, q2, zb]
  · simp [q1, zb]
end SR
