/-! The class: code, drop, what can be applied -/
def okX (o : Nat) (x : Int32) : Prop := match o with
  | 0 => True
  | 1 => isC x
  | 2 => ¬ x < 0 ∧ ¬ 4 ≤ x
  | 3 => ¬ x < 0 ∧ ¬ 4 ≤ x
  | 8 => ¬ x < 0 ∧ ¬ 14 ≤ x
  | 9 => ¬ x < 0 ∧ ¬ 14 ≤ x
  | 10 => isC x
  | 11 => isC x
  | 12 => isC x
  | 13 => isM x
  | 15 => isC x
  | _ => x = 0
def okY (o : Nat) (y : Int32) : Prop := if o = 11 ∨ o = 12 then isN y else y = 0
section SX3
variable {s : am_S} {Z : pSg} {h : am_H} {Q : Option Value → am_H → Prop}
theorem e_X_fitsX {o : Nat} (ho : o ≤ 16) (x : Int32) : am_C f_X_fitsX [.int (nI o), .int x] h Q ↔ Q (some (.int (zb (okX o x)))) h := by
  rw [c_X_fitsX]
  have hC : ∀ {m : Nat}, okX m x = isC x → (am_W m_X_fitsX 82 [.int (nI o), .int x] [] h Q ↔ Q (some (.int (zb (okX m x)))) h) := fun {m} e => by
    rw [e]
    simp only [k_X_fitsX_82, k_X_fitsX_83, k_X_fitsX_86, rc_n, e_X_isClass, zb_t, am_ob_s, List.tail_cons, List.tail_nil, Option.toList_some, Option.toList_none, List.nil_append, List.cons_append, List.length_nil, List.length_cons, Nat.zero_le, true_and, and_true, true_implies, false_implies, not_true_eq_false, not_false_eq_true, implies_true, or_true, true_or, Nat.reduceAdd, Nat.reduceLeDiff]
    by_cases q : isC x
    · simp [zb_t q]
    · simp [zb_f q]
  have hL : ∀ {m : Nat}, okX m x = (¬ x < 0 ∧ ¬ 4 ≤ x) → (am_W m_X_fitsX 87 [.int (nI o), .int x] [] h Q ↔ Q (some (.int (zb (okX m x)))) h) := fun {m} e => by
    rw [e]
    by_cases h1 : x < 0
    · rw [zb_f (fun q => q.1 h1)]
      simp only [k_X_fitsX_87, k_X_fitsX_88, k_X_fitsX_91, k_X_fitsX_92, k_X_fitsX_93, k_X_fitsX_96, k_X_fitsX_97, k_X_fitsX_100, k_X_fitsX_101, h1, am_ob_s, List.tail_cons, List.tail_nil, Option.toList_some, Option.toList_none, List.nil_append, List.cons_append, List.length_nil, List.length_cons, Nat.zero_le, true_and, and_true, true_implies, false_implies, not_true_eq_false, not_false_eq_true, implies_true, or_true, true_or, Nat.reduceAdd, Nat.reduceLeDiff]
    · by_cases h2 : 4 ≤ x
      · rw [zb_f (fun q => q.2 h2)]
        simp only [k_X_fitsX_87, k_X_fitsX_88, k_X_fitsX_91, k_X_fitsX_92, k_X_fitsX_93, k_X_fitsX_96, k_X_fitsX_97, k_X_fitsX_100, k_X_fitsX_101, h1, h2, am_ob_s, List.tail_cons, List.tail_nil, Option.toList_some, Option.toList_none, List.nil_append, List.cons_append, List.length_nil, List.length_cons, Nat.zero_le, true_and, and_true, true_implies, false_implies, not_true_eq_false, not_false_eq_true, implies_true, or_true, true_or, Nat.reduceAdd, Nat.reduceLeDiff]
      · rw [zb_t ⟨h1, h2⟩]
        simp only [k_X_fitsX_87, k_X_fitsX_88, k_X_fitsX_91, k_X_fitsX_92, k_X_fitsX_93, k_X_fitsX_96, k_X_fitsX_97, k_X_fitsX_100, k_X_fitsX_101, h1, h2, am_ob_s, List.tail_cons, List.tail_nil, Option.toList_some, Option.toList_none, List.nil_append, List.cons_append, List.length_nil, List.length_cons, Nat.zero_le, true_and, and_true, true_implies, false_implies, not_true_eq_false, not_false_eq_true, implies_true, or_true, true_or, Nat.reduceAdd, Nat.reduceLeDiff]
  have hJ : ∀ {m : Nat}, okX m x = (¬ x < 0 ∧ ¬ 14 ≤ x) → (am_W m_X_fitsX 102 [.int (nI o), .int x] [] h Q ↔ Q (some (.int (zb (okX m x)))) h) := fun {m} e => by
    rw [e]
    by_cases h1 : x < 0
    · rw [zb_f (fun q => q.1 h1)]
      simp only [k_X_fitsX_102, k_X_fitsX_103, k_X_fitsX_106, k_X_fitsX_107, k_X_fitsX_109, k_X_fitsX_112, k_X_fitsX_113, k_X_fitsX_116, k_X_fitsX_117, h1, am_ob_s, List.tail_cons, List.tail_nil, Option.toList_some, Option.toList_none, List.nil_append, List.cons_append, List.length_nil, List.length_cons, Nat.zero_le, true_and, and_true, true_implies, false_implies, not_true_eq_false, not_false_eq_true, implies_true, or_true, true_or, Nat.reduceAdd, Nat.reduceLeDiff]
    · by_cases h2 : 14 ≤ x
      · rw [zb_f (fun q => q.2 h2)]
        simp only [k_X_fitsX_102, k_X_fitsX_103, k_X_fitsX_106, k_X_fitsX_107, k_X_fitsX_109, k_X_fitsX_112, k_X_fitsX_113, k_X_fitsX_116, k_X_fitsX_117, h1, h2, am_ob_s, List.tail_cons, List.tail_nil, Option.toList_some, Option.toList_none, List.nil_append, List.cons_append, List.length_nil, List.length_cons, Nat.zero_le, true_and, and_true, true_implies, false_implies, not_true_eq_false, not_false_eq_true, implies_true, or_true, true_or, Nat.reduceAdd, Nat.reduceLeDiff]
      · rw [zb_t ⟨h1, h2⟩]
        simp only [k_X_fitsX_102, k_X_fitsX_103, k_X_fitsX_106, k_X_fitsX_107, k_X_fitsX_109, k_X_fitsX_112, k_X_fitsX_113, k_X_fitsX_116, k_X_fitsX_117, h1, h2, am_ob_s, List.tail_cons, List.tail_nil, Option.toList_some, Option.toList_none, List.nil_append, List.cons_append, List.length_nil, List.length_cons, Nat.zero_le, true_and, and_true, true_implies, false_implies, not_true_eq_false, not_false_eq_true, implies_true, or_true, true_or, Nat.reduceAdd, Nat.reduceLeDiff]
  have hM : ∀ {m : Nat}, okX m x = isM x → (am_W m_X_fitsX 118 [.int (nI o), .int x] [] h Q ↔ Q (some (.int (zb (okX m x)))) h) := fun {m} e => by
    rw [e]
    simp only [k_X_fitsX_118, k_X_fitsX_119, k_X_fitsX_122, rc_n, e_X_isMethod, am_ob_s, List.tail_cons, List.tail_nil, Option.toList_some, Option.toList_none, List.nil_append, List.cons_append, List.length_nil, List.length_cons, Nat.zero_le, true_and, and_true, true_implies, false_implies, not_true_eq_false, not_false_eq_true, implies_true, or_true, true_or, Nat.reduceAdd, Nat.reduceLeDiff]
    by_cases q : isM x
    · simp [zb_t q]
    · simp [zb_f q]
  have h0 : ∀ {m : Nat}, okX m x = (x = 0) → (am_W m_X_fitsX 123 [.int (nI o), .int x] [] h Q ↔ Q (some (.int (zb (okX m x)))) h) := fun {m} e => by
    rw [e]
    by_cases h1 : x = 0
    · rw [zb_t h1]
      simp only [k_X_fitsX_123, k_X_fitsX_124, k_X_fitsX_127, k_X_fitsX_128, k_X_fitsX_131, k_X_fitsX_132, h1, am_ob_s, List.tail_cons, List.tail_nil, Option.toList_some, Option.toList_none, List.nil_append, List.cons_append, List.length_nil, List.length_cons, Nat.zero_le, true_and, and_true, true_implies, false_implies, not_true_eq_false, not_false_eq_true, implies_true, or_true, true_or, Nat.reduceAdd, Nat.reduceLeDiff]
    · rw [zb_f h1]
      simp only [k_X_fitsX_123, k_X_fitsX_124, k_X_fitsX_127, k_X_fitsX_128, k_X_fitsX_131, k_X_fitsX_132, h1, am_ob_s, List.tail_cons, List.tail_nil, Option.toList_some, Option.toList_none, List.nil_append, List.cons_append, List.length_nil, List.length_cons, Nat.zero_le, true_and, and_true, true_implies, false_implies, not_true_eq_false, not_false_eq_true, implies_true, or_true, true_or, Nat.reduceAdd, Nat.reduceLeDiff]
  have hT : am_W m_X_fitsX 80 [.int (nI o), .int x] [] h Q ↔ Q (some (.int 1)) h := by
    simp only [k_X_fitsX_80, k_X_fitsX_81, am_ob_s, List.tail_cons, List.tail_nil, Option.toList_some, Option.toList_none, List.nil_append, List.cons_append, List.length_nil, List.length_cons, Nat.zero_le, true_and, and_true, true_implies, false_implies, not_true_eq_false, not_false_eq_true, implies_true, or_true, true_or, Nat.reduceAdd, Nat.reduceLeDiff]
  have go : ∀ t, am_tsw 1 122 0 15 #[79, 81, 86, 86, 122, 122, 122, 122, 101, 101, 81, 81, 81, 117, 122, 81] (nI o) = t → (am_W m_X_fitsX 0 [.int (nI o), .int x] [] h Q ↔ am_W m_X_fitsX t [.int (nI o), .int x] [] h Q) := fun t ht => by
    simp only [k_X_fitsX_0, k_X_fitsX_1, ht]
  rcases (show o = 0 ∨ o = 1 ∨ o = 2 ∨ o = 3 ∨ o = 4 ∨ o = 5 ∨ o = 6 ∨ o = 7 ∨ o = 8 ∨ o = 9 ∨ o = 10 ∨ o = 11 ∨ o = 12 ∨ o = 13 ∨ o = 14 ∨ o = 15 ∨ o = 16 by omega) with rfl | rfl | rfl | rfl | rfl | rfl | rfl | rfl | rfl | rfl | rfl | rfl | rfl | rfl | rfl | rfl | rfl
  · rw [go 80 (by decide), zb_t (p := okX 0 x) trivial]; exact hT
  · rw [go 82 (by decide)]; exact hC rfl
  · rw [go 87 (by decide)]; exact hL rfl
  · rw [go 87 (by decide)]; exact hL rfl
  · rw [go 123 (by decide)]; exact h0 rfl
  · rw [go 123 (by decide)]; exact h0 rfl
  · rw [go 123 (by decide)]; exact h0 rfl
  · rw [go 123 (by decide)]; exact h0 rfl
  · rw [go 102 (by decide)]; exact hJ rfl
  · rw [go 102 (by decide)]; exact hJ rfl
  · rw [go 82 (by decide)]; exact hC rfl
  · rw [go 82 (by decide)]; exact hC rfl
  · rw [go 82 (by decide)]; exact hC rfl
  · rw [go 118 (by decide)]; exact hM rfl
  · rw [go 123 (by decide)]; exact h0 rfl
  · rw [go 82 (by decide)]; exact hC rfl
  · rw [go 123 (by decide)]; exact h0 rfl
theorem zb_01 (p : Prop) : zb p = 0 ∨ zb p = 1 := by
  by_cases q : p
  · exact Or.inr (zb_t q)
  · exact Or.inl (zb_f q)
theorem e_X_fitsY {o : Nat} (ho : o ≤ 16) (y : Int32) : am_C f_X_fitsY [.int (nI o), .int y] h Q ↔ Q (some (.int (zb (okY o y)))) h := by
  rw [c_X_fitsY]
  have e11 : (nI o = 11) = (o = 11) := propext (nI_eq (b := 11) (by omega) (by omega))
  have e12 : (nI o = 12) = (o = 12) := propext (nI_eq (b := 12) (by omega) (by omega))
  by_cases h1 : o = 11 ∨ o = 12
  · have e : okY o y = isN y := if_pos h1
    rw [e]
    have z := zb_01 (isN y)
    by_cases h2 : o = 11
    · have g : nI o = 11 := by rw [e11]; exact h2
      simp only [k_X_fitsY_0, k_X_fitsY_1, k_X_fitsY_3, k_X_fitsY_6, k_X_fitsY_7, k_X_fitsY_9, k_X_fitsY_12, k_X_fitsY_13, k_X_fitsY_16, k_X_fitsY_19, k_X_fitsY_20, k_X_fitsY_23, k_X_fitsY_24, k_X_fitsY_27, k_X_fitsY_28, g, rc_n, e_X_isName, z, am_ob_s, List.tail_cons, List.tail_nil, Option.toList_some, Option.toList_none, List.nil_append, List.cons_append, List.length_nil, List.length_cons, Nat.zero_le, true_and, and_true, true_implies, false_implies, not_true_eq_false, not_false_eq_true, implies_true, or_true, true_or, Nat.reduceAdd, Nat.reduceLeDiff]
    · have g : nI o = 12 := by rw [e12]; exact h1.resolve_left h2
      have g2 : ¬ (12 : Int32) = 11 := by decide
      simp only [k_X_fitsY_0, k_X_fitsY_1, k_X_fitsY_3, k_X_fitsY_6, k_X_fitsY_7, k_X_fitsY_9, k_X_fitsY_12, k_X_fitsY_13, k_X_fitsY_16, k_X_fitsY_19, k_X_fitsY_20, k_X_fitsY_23, k_X_fitsY_24, k_X_fitsY_27, k_X_fitsY_28, g, g2, rc_n, e_X_isName, z, am_ob_s, List.tail_cons, List.tail_nil, Option.toList_some, Option.toList_none, List.nil_append, List.cons_append, List.length_nil, List.length_cons, Nat.zero_le, true_and, and_true, true_implies, false_implies, not_true_eq_false, not_false_eq_true, implies_true, or_true, true_or, Nat.reduceAdd, Nat.reduceLeDiff]
  · have e : okY o y = (y = 0) := if_neg h1
    have h2 : ¬ o = 11 := fun q => h1 (Or.inl q)
    have h3 : ¬ o = 12 := fun q => h1 (Or.inr q)
    rw [e]
    by_cases h4 : y = 0
    · rw [zb_t h4]
      simp only [k_X_fitsY_0, k_X_fitsY_1, k_X_fitsY_3, k_X_fitsY_6, k_X_fitsY_7, k_X_fitsY_9, k_X_fitsY_12, k_X_fitsY_13, k_X_fitsY_16, k_X_fitsY_19, k_X_fitsY_20, k_X_fitsY_23, k_X_fitsY_24, k_X_fitsY_27, k_X_fitsY_28, e11, e12, h2, h3, h4, am_ob_s, List.tail_cons, List.tail_nil, Option.toList_some, Option.toList_none, List.nil_append, List.cons_append, List.length_nil, List.length_cons, Nat.zero_le, true_and, and_true, true_implies, false_implies, not_true_eq_false, not_false_eq_true, implies_true, or_true, true_or, Nat.reduceAdd, Nat.reduceLeDiff]
    · rw [zb_f h4]
      simp only [k_X_fitsY_0, k_X_fitsY_1, k_X_fitsY_3, k_X_fitsY_6, k_X_fitsY_7, k_X_fitsY_9, k_X_fitsY_12, k_X_fitsY_13, k_X_fitsY_16, k_X_fitsY_19, k_X_fitsY_20, k_X_fitsY_23, k_X_fitsY_24, k_X_fitsY_27, k_X_fitsY_28, e11, e12, h2, h3, h4, am_ob_s, List.tail_cons, List.tail_nil, Option.toList_some, Option.toList_none, List.nil_append, List.cons_append, List.length_nil, List.length_cons, Nat.zero_le, true_and, and_true, true_implies, false_implies, not_true_eq_false, not_false_eq_true, implies_true, or_true, true_or, Nat.reduceAdd, Nat.reduceLeDiff]
def okCode (Z : pSg) (m o x y : Int32) : Prop := (isM m ∧ tbit Z.1.2.2.2.1 m = true ∧ (Z.1.2.1 (cN m)).2.2.2.length < 14) ∧ ¬ o < 0 ∧ ¬ 16 < o ∧ okX (cN o) x ∧ okY (cN o) y
noncomputable def pCode (Z : pSg) (m o x y : Int32) : Int32 × pSg := zif (okCode Z m o x y) (1, (Z.1.1, pSt Z.1.2.1 (cN m) ((Z.1.2.1 (cN m)).1, (Z.1.2.1 (cN m)).2.1, (Z.1.2.1 (cN m)).2.2.1, (Z.1.2.1 (cN m)).2.2.2 ++ [(cN o, x, cN y)]), Z.1.2.2), Z.2) (0, Z)
theorem okY_n {o : Nat} {y : Int32} (h : okY o y) : y = nI (cN y) ∧ cN y ≤ 9 := by
  unfold okY at h
  by_cases q : o = 11 ∨ o = 12
  · rw [if_pos q] at h
    exact isN_n h
  · rw [if_neg q] at h
    rw [h]
    decide
set_option maxHeartbeats 1000000 in
theorem e_X_code (hZ : ClC s Z) (m o x y : Int32) : xS f_X_code [.ref 0, .int m, .int o, .int x, .int y] s (pCode Z m o x y) := by
  obtain ⟨f, w1, w2, w3, w4, hD, w6, w7⟩ := id hZ
  have no : ¬ okCode Z m o x y → (∀ Q : Option Value → am_H → Prop, am_C f_X_code [.ref 0, .int m, .int o, .int x, .int y] (TP, s) Q ↔ Q (some (.int 0)) (TP, s)) → xS f_X_code [.ref 0, .int m, .int o, .int x, .int y] s (pCode Z m o x y) := fun q1 q2 => by
    unfold pCode
    rw [zif_f q1]
    exact ⟨s, q2, hZ, off_rf _ _ _⟩
  rcases (Classical.em (isM m)).symm with h1 | h1
  · exact no (fun q => h1 q.1.1) (fun Q => by
      rw [c_X_code]
      simp only [k_X_code_0, k_X_code_1, k_X_code_4, k_X_code_7, k_X_code_8, k_X_code_11, k_X_code_12, k_X_code_15, k_X_code_18, k_X_code_19, k_X_code_22, k_X_code_25, k_X_code_26, k_X_code_27, k_X_code_30, k_X_code_33, k_X_code_34, rc_n, e_X_isMethod, zb_f h1, am_ob_s, List.tail_cons, List.tail_nil, Option.toList_some, Option.toList_none, List.nil_append, List.cons_append, List.length_nil, List.length_cons, Nat.zero_le, true_and, and_true, true_implies, false_implies, not_true_eq_false, not_false_eq_true, implies_true, or_true, true_or, Nat.reduceAdd, Nat.reduceLeDiff])
  rcases (Classical.em (tbit Z.1.2.2.2.1 m = true)).symm with h2 | h2
  · exact no (fun q => h2 q.1.2.1) (fun Q => by
      rw [c_X_code]
      simp only [k_X_code_0, k_X_code_1, k_X_code_4, k_X_code_7, k_X_code_8, k_X_code_11, k_X_code_12, k_X_code_15, k_X_code_18, k_X_code_19, k_X_code_22, k_X_code_25, k_X_code_26, k_X_code_27, k_X_code_30, k_X_code_33, k_X_code_34, rc_n, e_X_isMethod, zb_t h1, hz10, g_X0, rc_P b1P, e_P_touchesMethod b1P, hD.2.2.2.1, zb_f h2, am_ob_s, List.tail_cons, List.tail_nil, Option.toList_some, Option.toList_none, List.nil_append, List.cons_append, List.length_nil, List.length_cons, Nat.zero_le, true_and, and_true, true_implies, false_implies, not_true_eq_false, not_false_eq_true, implies_true, or_true, true_or, Nat.reduceAdd, Nat.reduceLeDiff])
  obtain ⟨em, hm⟩ := isM_n h1
  have hbr := bP_R b1P hm
  have hR := hD.2.1 _ hm
  have am := fun (s : am_S) => a_Pr (s := s) b1P hm
  rw [← em] at am
  rcases (Classical.em ((Z.1.2.1 (cN m)).2.2.2.length < 14)).symm with h3 | h3
  · exact no (fun q => h3 q.1.2.2) (fun Q => by
      rw [c_X_code]
      simp only [k_X_code_0, k_X_code_1, k_X_code_4, k_X_code_7, k_X_code_8, k_X_code_11, k_X_code_12, k_X_code_15, k_X_code_18, k_X_code_19, k_X_code_22, k_X_code_25, k_X_code_26, k_X_code_27, k_X_code_30, k_X_code_33, k_X_code_34, rc_n, e_X_isMethod, zb_t h1, hz10, g_X0, rc_P b1P, e_P_touchesMethod b1P, hD.2.2.2.1, zb_t h2, g_P1 b1P, am, rc_R hbr, e_R_isFull hbr hR, zb_t (Nat.not_lt.mp h3), am_ob_s, List.tail_cons, List.tail_nil, Option.toList_some, Option.toList_none, List.nil_append, List.cons_append, List.length_nil, List.length_cons, Nat.zero_le, true_and, and_true, true_implies, false_implies, not_true_eq_false, not_false_eq_true, implies_true, or_true, true_or, Nat.reduceAdd, Nat.reduceLeDiff])
  have h3' : zb (14 ≤ (Z.1.2.1 (cN m)).2.2.2.length) = 0 := zb_f (by omega)
  have pre : ∀ Q : Option Value → am_H → Prop, am_C f_X_code [.ref 0, .int m, .int o, .int x, .int y] (TP, s) Q ↔ am_W m_X_code 35 [.ref 0, .int m, .int o, .int x, .int y] [] (TP, s) Q := fun Q => by
    rw [c_X_code]
    simp only [k_X_code_0, k_X_code_1, k_X_code_4, k_X_code_7, k_X_code_8, k_X_code_11, k_X_code_12, k_X_code_15, k_X_code_18, k_X_code_19, k_X_code_22, k_X_code_25, k_X_code_26, k_X_code_27, k_X_code_30, k_X_code_33, k_X_code_34, rc_n, e_X_isMethod, zb_t h1, hz10, g_X0, rc_P b1P, e_P_touchesMethod b1P, hD.2.2.2.1, zb_t h2, g_P1 b1P, am, rc_R hbr, e_R_isFull hbr hR, h3', am_ob_s, List.tail_cons, List.tail_nil, Option.toList_some, Option.toList_none, List.nil_append, List.cons_append, List.length_nil, List.length_cons, Nat.zero_le, true_and, and_true, true_implies, false_implies, not_true_eq_false, not_false_eq_true, implies_true, or_true, true_or, Nat.reduceAdd, Nat.reduceLeDiff]
  by_cases h4 : o < 0
  · exact no (fun q => q.2.1 h4) (fun Q => by
      rw [pre]
      simp only [k_X_code_35, k_X_code_36, k_X_code_39, k_X_code_40, k_X_code_42, k_X_code_45, k_X_code_46, k_X_code_47, k_X_code_50, k_X_code_53, k_X_code_54, k_X_code_56, k_X_code_59, k_X_code_62, k_X_code_63, h4, am_ob_s, List.tail_cons, List.tail_nil, Option.toList_some, Option.toList_none, List.nil_append, List.cons_append, List.length_nil, List.length_cons, Nat.zero_le, true_and, and_true, true_implies, false_implies, not_true_eq_false, not_false_eq_true, implies_true, or_true, true_or, Nat.reduceAdd, Nat.reduceLeDiff])
  by_cases h5 : 16 < o
  · exact no (fun q => q.2.2.1 h5) (fun Q => by
      rw [pre]
      simp only [k_X_code_35, k_X_code_36, k_X_code_39, k_X_code_40, k_X_code_42, k_X_code_45, k_X_code_46, k_X_code_47, k_X_code_50, k_X_code_53, k_X_code_54, k_X_code_56, k_X_code_59, k_X_code_62, k_X_code_63, h4, h5, am_ob_s, List.tail_cons, List.tail_nil, Option.toList_some, Option.toList_none, List.nil_append, List.cons_append, List.length_nil, List.length_cons, Nat.zero_le, true_and, and_true, true_implies, false_implies, not_true_eq_false, not_false_eq_true, implies_true, or_true, true_or, Nat.reduceAdd, Nat.reduceLeDiff])
  obtain ⟨o', ho', rfl⟩ := nI_of2 (M := 16) (n := 16) (by decide) h4 (Int32.not_lt.mp h5)
  have co : cN (nI o') = o' := cN_nI (by omega)
  rcases (Classical.em (okX o' x)).symm with h6 | h6
  · exact no (fun q => h6 (co ▸ q.2.2.2.1)) (fun Q => by
      rw [pre]
      simp only [k_X_code_35, k_X_code_36, k_X_code_39, k_X_code_40, k_X_code_42, k_X_code_45, k_X_code_46, k_X_code_47, k_X_code_50, k_X_code_53, k_X_code_54, k_X_code_56, k_X_code_59, k_X_code_62, k_X_code_63, h4, h5, rc_n, e_X_fitsX ho', zb_f h6, am_ob_s, List.tail_cons, List.tail_nil, Option.toList_some, Option.toList_none, List.nil_append, List.cons_append, List.length_nil, List.length_cons, Nat.zero_le, true_and, and_true, true_implies, false_implies, not_true_eq_false, not_false_eq_true, implies_true, or_true, true_or, Nat.reduceAdd, Nat.reduceLeDiff])
  rcases (Classical.em (okY o' y)).symm with h7 | h7
  · exact no (fun q => h7 (co ▸ q.2.2.2.2)) (fun Q => by
      rw [pre]
      simp only [k_X_code_35, k_X_code_36, k_X_code_39, k_X_code_40, k_X_code_42, k_X_code_45, k_X_code_46, k_X_code_47, k_X_code_50, k_X_code_53, k_X_code_54, k_X_code_56, k_X_code_59, k_X_code_62, k_X_code_63, h4, h5, rc_n, e_X_fitsX ho', zb_t h6, hz10, e_X_fitsY ho', zb_f h7, am_ob_s, List.tail_cons, List.tail_nil, Option.toList_some, Option.toList_none, List.nil_append, List.cons_append, List.length_nil, List.length_cons, Nat.zero_le, true_and, and_true, true_implies, false_implies, not_true_eq_false, not_false_eq_true, implies_true, or_true, true_or, Nat.reduceAdd, Nat.reduceLeDiff])
  obtain ⟨ey, hy⟩ := okY_n h7
  unfold pCode
  rw [zif_t ⟨⟨h1, h2, h3⟩, h4, h5, by rw [co]; exact h6, by rw [co]; exact h7⟩, co]
  have d0 := RoC_add hR h3 o' x (cN y)
  have ad := fun (Q : Option Value → am_H → Prop) => e_R_add (Q := Q) hbr hR h3 (nI o') x y
  rw [← ey] at d0
  have oo : off (1 + 19 + 5 * cN m) (1 + 19 + 5 * cN m + 5) s (am_wr (am_wr (am_wr (am_wr s (1 + 19 + 5 * cN m + 2) (Z.1.2.1 (cN m)).2.2.2.length (nI o')) (1 + 19 + 5 * cN m + 3) (Z.1.2.1 (cN m)).2.2.2.length x) (1 + 19 + 5 * cN m + 4) (Z.1.2.1 (cN m)).2.2.2.length y) (1 + 19 + 5 * cN m) 6 (nI ((Z.1.2.1 (cN m)).2.2.2.length + 1))) := off_tr (off_tr (off_tr (off_wr _ (by omega) (by omega)) (off_wr _ (by omega) (by omega))) (off_wr _ (by omega) (by omega))) (off_wr _ (by omega) (by omega))
  refine ⟨_, fun Q => ?_, ClC_draft hZ (off_up oo (by omega) (by omega)) (PgC_ro hD hm oo d0), off_up oo (by omega) (by omega)⟩
  rw [pre]
  simp only [k_X_code_35, k_X_code_36, k_X_code_39, k_X_code_40, k_X_code_42, k_X_code_45, k_X_code_46, k_X_code_47, k_X_code_50, k_X_code_53, k_X_code_54, k_X_code_56, k_X_code_59, k_X_code_62, k_X_code_63, k_X_code_64, k_X_code_65, k_X_code_68, k_X_code_71, k_X_code_72, k_X_code_73, k_X_code_74, k_X_code_75, k_X_code_77, k_X_code_80, k_X_code_81, h4, h5, rc_n, e_X_fitsX ho', zb_t h6, hz10, e_X_fitsY ho', zb_t h7, g_X0, g_P1 b1P, am, rc_R hbr, ad, am_ob_s, List.tail_cons, List.tail_nil, Option.toList_some, Option.toList_none, List.nil_append, List.cons_append, List.length_nil, List.length_cons, Nat.zero_le, true_and, and_true, true_implies, false_implies, not_true_eq_false, not_false_eq_true, implies_true, or_true, true_or, Nat.reduceAdd, Nat.reduceLeDiff]
end SX3
