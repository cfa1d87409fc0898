/-! The reference: field -/
section SM9
variable {s : am_S} {Z : pSg} {Q : Option Value → am_H → Prop}
/-- only one layout of a program may differ -/
def mLb (b c : Nat) (s s' : am_S) : Prop := ∀ i k, ¬ (i = 309 ∧ k = 3 * b + c - 1) → ¬ ((i = 310 ∨ i = 311 ∨ i = 312) ∧ 4 * (3 * b + c - 1) ≤ k ∧ k < 4 * (3 * b + c - 1) + 4) → s' i k = s i k
theorem mLb_mPb {b c : Nat} {s s' : am_S} (hc : 1 ≤ c ∧ c ≤ 3) (h : mLb b c s s') : mPb b s s' := fun i k q => h i k (fun q2 => q (by
  obtain ⟨rfl, rfl⟩ := q2
  show 3 * b ≤ _ ∧ _ < 3 * b + 3
  omega)) (fun q2 => q (by
  obtain ⟨q3, q4⟩ := q2
  have : mw i = 12 := by rcases q3 with rfl | rfl | rfl <;> rfl
  rw [this]
  omega))
theorem MpC_ly {b c : Nat} {s s' : am_S} {G : pPg} {L : pLy} (hG : MpC s b G) (hc : 1 ≤ c ∧ c ≤ 3) (h : mLb b c s s') (hL : MlC s' b c L) : MpC s' b (pSt G.1 c L, G.2) := by
  obtain ⟨h1, h2, h3, h4⟩ := hG
  have e : ∀ i, i ≠ 309 → i ≠ 310 → i ≠ 311 → i ≠ 312 → s' i = s i := fun i q1 q2 q3 q4 => by
    funext k
    exact h i k (fun q => q1 q.1) (fun q => q.1.elim q2 (fun q => q.elim q3 q4))
  refine ⟨fun d d1 d3 => ?_, fun m hm => ?_, by rw [e 320 (by omega) (by omega) (by omega) (by omega)]; exact h3, by rw [e 321 (by omega) (by omega) (by omega) (by omega)]; exact h4⟩
  · dsimp only
    by_cases q : d = c
    · rw [q, pSt_s]; exact hL
    · rw [pSt_n q]
      obtain ⟨g1, g2, g3⟩ := h1 d d1 d3
      refine ⟨by rw [h 309 _ (by omega) (by omega)]; exact g1, g2, fun k e hk => ?_⟩
      have := (List.getElem?_eq_some_iff.mp hk).1
      rw [h 310 _ (by omega) (by omega), h 311 _ (by omega) (by omega), h 312 _ (by omega) (by omega)]
      exact g3 k e hk
  · have g := h2 m hm
    unfold MrC at g ⊢
    rw [e 313 (by omega) (by omega) (by omega) (by omega), e 314 (by omega) (by omega) (by omega) (by omega), e 315 (by omega) (by omega) (by omega) (by omega), e 316 (by omega) (by omega) (by omega) (by omega), e 317 (by omega) (by omega) (by omega) (by omega), e 318 (by omega) (by omega) (by omega) (by omega), e 319 (by omega) (by omega) (by omega) (by omega)]
    exact g
theorem MlC_add {b c : Nat} {L : pLy} (h : MlC s b c L) (h4 : L.length < 4) (n t : Nat) (z : Int32) : MlC (am_wr (am_wr (am_wr (am_wr s 310 (4 * (3 * b + c - 1) + L.length) (nI n)) 311 (4 * (3 * b + c - 1) + L.length) (nI t)) 312 (4 * (3 * b + c - 1) + L.length) z) 309 (3 * b + c - 1) (nI (L.length + 1))) b c (L ++ [(n, t, z)]) := by
  refine ⟨by rw [am_wr_self, List.length_append, List.length_singleton], by rw [List.length_append, List.length_singleton]; omega, fun k e hk => ?_⟩
  rcases app_at hk with ⟨q1, q2⟩ | ⟨rfl, rfl⟩
  · have z := h.2.2 k e q2
    have hk' : k ≠ L.length := by omega
    simp only [am_wr_at]
    simp [hk', z]
  · simp [am_wr_at]
theorem mLb_add {b c : Nat} {l : Nat} (h4 : l < 4) (n t z v : Int32) : mLb b c s (am_wr (am_wr (am_wr (am_wr s 310 (4 * (3 * b + c - 1) + l) n) 311 (4 * (3 * b + c - 1) + l) t) 312 (4 * (3 * b + c - 1) + l) z) 309 (3 * b + c - 1) v) := fun i k q1 q2 => by
  rw [am_wr_at, if_neg q1, am_wr_at, if_neg (by omega), am_wr_at, if_neg (by omega), am_wr_at, if_neg (by omega)]
set_option maxHeartbeats 1000000 in
theorem e_M_field (hZ : MdC s Z) (hok : ∀ (i c : Nat), i ≤ Z.2.2.1 → c < 4 → ∀ (k : Nat) (e : Nat × Nat × Int32), ((Z.2.1 i).1 c)[k]? = some e → e.2.1 < 4) (c nm ty fr : Int32) : mS f_M_field [.ref 308, .int c, .int nm, .int ty, .int fr] s (pField Z c nm ty fr) := by
  have no : ¬ okField Z c nm ty fr → (∀ Q : Option Value → am_H → Prop, am_C f_M_field [.ref 308, .int c, .int nm, .int ty, .int fr] (TP, s) Q ↔ Q (some (.int 0)) (TP, s)) → mS f_M_field [.ref 308, .int c, .int nm, .int ty, .int fr] s (pField Z c nm ty fr) := fun q1 q2 => by
    unfold pField
    rw [zif_f q1]
    exact ⟨s, q2, hZ, off_rf _ _ _⟩
  have hD := hZ.2.2.1
  have l4 := l_M_classes (s := s) (j := 4) (by omega)
  rw [show nI 4 = 4 from rfl, hD.2.2.1] at l4
  have zt : zb (¬ ty < 0 ∧ ¬ 3 < ty) = zb (isT ty) := zb_e (in_isT ty)
  rcases (Classical.em (isC c)).symm with h1 | h1
  · exact no (fun q => h1 q.1.1) (fun Q => by
      rw [c_M_field]
      simp only [k_M_field_0, k_M_field_1, k_M_field_2, k_M_field_3, k_M_field_6, k_M_field_9, k_M_field_10, k_M_field_13, k_M_field_14, k_M_field_15, k_M_field_16, k_M_field_17, k_M_field_18, k_M_field_19, k_M_field_22, k_M_field_23, k_M_field_26, k_M_field_28, k_M_field_29, k_M_field_30, k_M_field_31, k_M_field_32, k_M_field_33, k_M_field_34, k_M_field_37, k_M_field_38, k_M_field_39, k_M_field_41, k_M_field_44, k_M_field_47, k_M_field_48, k_M_field_49, k_M_field_50, k_M_field_51, k_M_field_54, k_M_field_57, k_M_field_58, k_M_field_59, k_M_field_60, k_M_field_63, k_M_field_66, k_M_field_67, rc_n, e_M_in, in_isC, zb_f h1, am_ob_s, List.tail_cons, List.tail_nil, Option.toList_some, Option.toList_none, List.nil_append, List.cons_append, List.length_nil, List.length_cons, Nat.zero_le, true_and, and_true, true_implies, false_implies, not_true_eq_false, not_false_eq_true, implies_true, or_true, true_or, Nat.reduceAdd, Nat.reduceLeDiff])
  rcases (Classical.em (tbit Z.1.2.2.1 c = true)).symm with h2 | h2
  · have h2' : (Z.1.2.2.1 >>> (c &&& 31)) &&& 1 = 0 := by simpa [tbit] using h2
    exact no (fun q => h2 q.1.2.1) (fun Q => by
      rw [c_M_field]
      simp only [k_M_field_0, k_M_field_1, k_M_field_2, k_M_field_3, k_M_field_6, k_M_field_9, k_M_field_10, k_M_field_13, k_M_field_14, k_M_field_15, k_M_field_16, k_M_field_17, k_M_field_18, k_M_field_19, k_M_field_22, k_M_field_23, k_M_field_26, k_M_field_28, k_M_field_29, k_M_field_30, k_M_field_31, k_M_field_32, k_M_field_33, k_M_field_34, k_M_field_37, k_M_field_38, k_M_field_39, k_M_field_41, k_M_field_44, k_M_field_47, k_M_field_48, k_M_field_49, k_M_field_50, k_M_field_51, k_M_field_54, k_M_field_57, k_M_field_58, k_M_field_59, k_M_field_60, k_M_field_63, k_M_field_66, k_M_field_67, rc_n, e_M_in, in_isC, zb_t h1, hz10, g_M0, g_M1, g_M2, g_M3, g_M4, g_M5, g_M6, g_M7, g_M8, g_M9, g_M10, g_M11, g_M12, g_M13, g_M14, g_M15, g_M16, g_M17, g_M18, g_M19, g_M20, g_M21, g_M22, g_M23, g_M24, g_M25, g_M26, g_M27, g_M28, g_M29, g_M30, g_M31, g_M32, g_M33, l4, h2', am_ob_s, List.tail_cons, List.tail_nil, Option.toList_some, Option.toList_none, List.nil_append, List.cons_append, List.length_nil, List.length_cons, Nat.zero_le, true_and, and_true, true_implies, false_implies, not_true_eq_false, not_false_eq_true, implies_true, or_true, true_or, Nat.reduceAdd, Nat.reduceLeDiff])
  have h2' : ¬ (Z.1.2.2.1 >>> (c &&& 31)) &&& 1 = 0 := by simpa [tbit] using h2
  obtain ⟨ec, k1, k3⟩ := isC_n h1
  have hL := hD.1 (cN c) k1 k3
  have hL4 := hL.2.1
  have i12 := ix12 (cN c) (by omega) k1
  rw [← ec] at i12
  have hj15 : 3 * 4 + cN c - 1 < 15 := by omega
  have lf := l_M_fields (s := s) hj15
  rw [hL.1] at lf
  rcases (Classical.em ((Z.1.1 (cN c)).length < 4)).symm with h5 | h5
  · have h5' : nI (Z.1.1 (cN c)).length = 4 := by rw [show (Z.1.1 (cN c)).length = 4 by omega]; rfl
    exact no (fun q => h5 q.2.1.1) (fun Q => by
      rw [c_M_field]
      simp only [k_M_field_0, k_M_field_1, k_M_field_2, k_M_field_3, k_M_field_6, k_M_field_9, k_M_field_10, k_M_field_13, k_M_field_14, k_M_field_15, k_M_field_16, k_M_field_17, k_M_field_18, k_M_field_19, k_M_field_22, k_M_field_23, k_M_field_26, k_M_field_28, k_M_field_29, k_M_field_30, k_M_field_31, k_M_field_32, k_M_field_33, k_M_field_34, k_M_field_37, k_M_field_38, k_M_field_39, k_M_field_41, k_M_field_44, k_M_field_47, k_M_field_48, k_M_field_49, k_M_field_50, k_M_field_51, k_M_field_54, k_M_field_57, k_M_field_58, k_M_field_59, k_M_field_60, k_M_field_63, k_M_field_66, k_M_field_67, rc_n, e_M_in, in_isC, zb_t h1, hz10, g_M0, g_M1, g_M2, g_M3, g_M4, g_M5, g_M6, g_M7, g_M8, g_M9, g_M10, g_M11, g_M12, g_M13, g_M14, g_M15, g_M16, g_M17, g_M18, g_M19, g_M20, g_M21, g_M22, g_M23, g_M24, g_M25, g_M26, g_M27, g_M28, g_M29, g_M30, g_M31, g_M32, g_M33, l4, h2', i12, lf, h5', am_ob_s, List.tail_cons, List.tail_nil, Option.toList_some, Option.toList_none, List.nil_append, List.cons_append, List.length_nil, List.length_cons, Nat.zero_le, true_and, and_true, true_implies, false_implies, not_true_eq_false, not_false_eq_true, implies_true, or_true, true_or, Nat.reduceAdd, Nat.reduceLeDiff])
  have h5' : ¬ nI (Z.1.1 (cN c)).length = 4 := fun q => by
    have := (nI_eq (b := 4) (by omega) (by omega)).mp q
    omega
  rcases (Classical.em (isN nm)).symm with h3 | h3
  · exact no (fun q => h3 q.1.2.2.1) (fun Q => by
      rw [c_M_field]
      simp only [k_M_field_0, k_M_field_1, k_M_field_2, k_M_field_3, k_M_field_6, k_M_field_9, k_M_field_10, k_M_field_13, k_M_field_14, k_M_field_15, k_M_field_16, k_M_field_17, k_M_field_18, k_M_field_19, k_M_field_22, k_M_field_23, k_M_field_26, k_M_field_28, k_M_field_29, k_M_field_30, k_M_field_31, k_M_field_32, k_M_field_33, k_M_field_34, k_M_field_37, k_M_field_38, k_M_field_39, k_M_field_41, k_M_field_44, k_M_field_47, k_M_field_48, k_M_field_49, k_M_field_50, k_M_field_51, k_M_field_54, k_M_field_57, k_M_field_58, k_M_field_59, k_M_field_60, k_M_field_63, k_M_field_66, k_M_field_67, rc_n, e_M_in, in_isC, in_isN, zb_t h1, hz10, g_M0, g_M1, g_M2, g_M3, g_M4, g_M5, g_M6, g_M7, g_M8, g_M9, g_M10, g_M11, g_M12, g_M13, g_M14, g_M15, g_M16, g_M17, g_M18, g_M19, g_M20, g_M21, g_M22, g_M23, g_M24, g_M25, g_M26, g_M27, g_M28, g_M29, g_M30, g_M31, g_M32, g_M33, l4, h2', i12, lf, h5', zb_f h3, am_ob_s, List.tail_cons, List.tail_nil, Option.toList_some, Option.toList_none, List.nil_append, List.cons_append, List.length_nil, List.length_cons, Nat.zero_le, true_and, and_true, true_implies, false_implies, not_true_eq_false, not_false_eq_true, implies_true, or_true, true_or, Nat.reduceAdd, Nat.reduceLeDiff])
  have fd := fun (Q : Option Value → am_H → Prop) => e_M_find (s := s) (Q := Q) (b := 4) (c := cN c) (by omega) ⟨k1, k3⟩ hL nm
  rw [← ec, show nI 4 = 4 from rfl] at fd
  cases h6 : pFind (Z.1.1 (cN c)) nm with
  | some k =>
    have hk := pFind_lt h6
    have hk1 : (0 : Int32) ≤ nI k := Int32.not_lt.mp (nI_pos (by omega))
    exact no (fun q => absurd (h6.symm.trans q.2.1.2) (by simp)) (fun Q => by
      rw [c_M_field]
      simp only [k_M_field_0, k_M_field_1, k_M_field_2, k_M_field_3, k_M_field_6, k_M_field_9, k_M_field_10, k_M_field_13, k_M_field_14, k_M_field_15, k_M_field_16, k_M_field_17, k_M_field_18, k_M_field_19, k_M_field_22, k_M_field_23, k_M_field_26, k_M_field_28, k_M_field_29, k_M_field_30, k_M_field_31, k_M_field_32, k_M_field_33, k_M_field_34, k_M_field_37, k_M_field_38, k_M_field_39, k_M_field_41, k_M_field_44, k_M_field_47, k_M_field_48, k_M_field_49, k_M_field_50, k_M_field_51, k_M_field_54, k_M_field_57, k_M_field_58, k_M_field_59, k_M_field_60, k_M_field_63, k_M_field_66, k_M_field_67, rc_n, rc_M, e_M_in, in_isC, in_isN, zb_t h1, hz10, g_M0, g_M1, g_M2, g_M3, g_M4, g_M5, g_M6, g_M7, g_M8, g_M9, g_M10, g_M11, g_M12, g_M13, g_M14, g_M15, g_M16, g_M17, g_M18, g_M19, g_M20, g_M21, g_M22, g_M23, g_M24, g_M25, g_M26, g_M27, g_M28, g_M29, g_M30, g_M31, g_M32, g_M33, l4, h2', i12, lf, h5', zb_t h3, fd, h6, pIx, hk1, am_ob_s, List.tail_cons, List.tail_nil, Option.toList_some, Option.toList_none, List.nil_append, List.cons_append, List.length_nil, List.length_cons, Nat.zero_le, true_and, and_true, true_implies, false_implies, not_true_eq_false, not_false_eq_true, implies_true, or_true, true_or, Nat.reduceAdd, Nat.reduceLeDiff])
  | none =>
    have hm1 : ¬ (0 : Int32) ≤ -1 := by decide
    rcases (Classical.em (isT ty)).symm with h4 | h4
    · exact no (fun q => h4 q.1.2.2.2) (fun Q => by
        rw [c_M_field]
        simp only [k_M_field_0, k_M_field_1, k_M_field_2, k_M_field_3, k_M_field_6, k_M_field_9, k_M_field_10, k_M_field_13, k_M_field_14, k_M_field_15, k_M_field_16, k_M_field_17, k_M_field_18, k_M_field_19, k_M_field_22, k_M_field_23, k_M_field_26, k_M_field_28, k_M_field_29, k_M_field_30, k_M_field_31, k_M_field_32, k_M_field_33, k_M_field_34, k_M_field_37, k_M_field_38, k_M_field_39, k_M_field_41, k_M_field_44, k_M_field_47, k_M_field_48, k_M_field_49, k_M_field_50, k_M_field_51, k_M_field_54, k_M_field_57, k_M_field_58, k_M_field_59, k_M_field_60, k_M_field_63, k_M_field_66, k_M_field_67, rc_n, rc_M, e_M_in, in_isC, in_isN, zt, zb_t h1, hz10, g_M0, g_M1, g_M2, g_M3, g_M4, g_M5, g_M6, g_M7, g_M8, g_M9, g_M10, g_M11, g_M12, g_M13, g_M14, g_M15, g_M16, g_M17, g_M18, g_M19, g_M20, g_M21, g_M22, g_M23, g_M24, g_M25, g_M26, g_M27, g_M28, g_M29, g_M30, g_M31, g_M32, g_M33, l4, h2', i12, lf, h5', zb_t h3, fd, h6, pIx, hm1, zb_f h4, am_ob_s, List.tail_cons, List.tail_nil, Option.toList_some, Option.toList_none, List.nil_append, List.cons_append, List.length_nil, List.length_cons, Nat.zero_le, true_and, and_true, true_implies, false_implies, not_true_eq_false, not_false_eq_true, implies_true, or_true, true_or, Nat.reduceAdd, Nat.reduceLeDiff])
    have pre : ∀ Q : Option Value → am_H → Prop, am_C f_M_field [.ref 308, .int c, .int nm, .int ty, .int fr] (TP, s) Q ↔ am_W m_M_field 68 [.ref 308, .int c, .int nm, .int ty, .int fr] [] (TP, s) Q := fun Q => by
      rw [c_M_field]
      simp only [k_M_field_0, k_M_field_1, k_M_field_2, k_M_field_3, k_M_field_6, k_M_field_9, k_M_field_10, k_M_field_13, k_M_field_14, k_M_field_15, k_M_field_16, k_M_field_17, k_M_field_18, k_M_field_19, k_M_field_22, k_M_field_23, k_M_field_26, k_M_field_28, k_M_field_29, k_M_field_30, k_M_field_31, k_M_field_32, k_M_field_33, k_M_field_34, k_M_field_37, k_M_field_38, k_M_field_39, k_M_field_41, k_M_field_44, k_M_field_47, k_M_field_48, k_M_field_49, k_M_field_50, k_M_field_51, k_M_field_54, k_M_field_57, k_M_field_58, k_M_field_59, k_M_field_60, k_M_field_63, k_M_field_66, k_M_field_67, rc_n, rc_M, e_M_in, in_isC, in_isN, zt, zb_t h1, hz10, g_M0, g_M1, g_M2, g_M3, g_M4, g_M5, g_M6, g_M7, g_M8, g_M9, g_M10, g_M11, g_M12, g_M13, g_M14, g_M15, g_M16, g_M17, g_M18, g_M19, g_M20, g_M21, g_M22, g_M23, g_M24, g_M25, g_M26, g_M27, g_M28, g_M29, g_M30, g_M31, g_M32, g_M33, l4, h2', i12, lf, h5', zb_t h3, fd, h6, pIx, hm1, zb_t h4, am_ob_s, List.tail_cons, List.tail_nil, Option.toList_some, Option.toList_none, List.nil_append, List.cons_append, List.length_nil, List.length_cons, Nat.zero_le, true_and, and_true, true_implies, false_implies, not_true_eq_false, not_false_eq_true, implies_true, or_true, true_or, Nat.reduceAdd, Nat.reduceLeDiff]
    obtain ⟨en, n9⟩ := isN_n h3
    obtain ⟨et, t3⟩ := isT_n h4
    have fin : (fr = -1 ∨ pTy ((Z.2.1 Z.2.2.1).1 (cN c)) fr = some (cN ty)) → (∃ old, ∀ Q : Option Value → am_H → Prop, am_C f_M_field [.ref 308, .int c, .int nm, .int ty, .int fr] (TP, s) Q ↔ am_W m_M_field 119 [.ref 308, .int c, .int nm, .int ty, .int fr, .int old] [] (TP, s) Q) → mS f_M_field [.ref 308, .int c, .int nm, .int ty, .int fr] s (pField Z c nm ty fr) := fun q1 q2 => by
      obtain ⟨old, q2⟩ := q2
      unfold pField
      rw [zif_t ⟨⟨h1, h2, h3, h4⟩, ⟨h5, h6⟩, q1⟩]
      have d0 := MlC_add hL h5 (cN nm) (cN ty) fr
      rw [← en, ← et] at d0
      have ml := mLb_add (s := s) (b := 4) (c := cN c) h5 nm ty fr (nI ((Z.1.1 (cN c)).length + 1))
      have h60 : 4 * (3 * 4 + cN c - 1) + (Z.1.1 (cN c)).length < 60 := by omega
      have i4 := ix4 (3 * 4 + cN c - 1) hj15 (Z.1.1 (cN c)).length h5
      have mp := mLb_mPb ⟨k1, k3⟩ ml
      refine ⟨_, fun Q => ?_, MdC_draft hZ mp (MpC_ly hD ⟨k1, k3⟩ ml d0), off_up (mPb_off mp) (by omega) (by omega)⟩
      rw [q2]
      generalize ej : 4 * (3 * 4 + cN c - 1) + (Z.1.1 (cN c)).length = j at *
      have lf3 : am_wr (am_wr (am_wr s 310 j nm) 311 j ty) 312 j fr 309 (3 * 4 + cN c - 1) = nI (Z.1.1 (cN c)).length := by
        rw [am_wr_row _ (by omega), am_wr_row _ (by omega), am_wr_row _ (by omega)]; exact hL.1
      simp only [k_M_field_119, k_M_field_120, k_M_field_122, k_M_field_123, k_M_field_124, k_M_field_125, k_M_field_126, k_M_field_127, k_M_field_128, k_M_field_131, k_M_field_133, k_M_field_134, k_M_field_135, k_M_field_136, k_M_field_137, k_M_field_138, k_M_field_139, k_M_field_141, k_M_field_142, k_M_field_145, k_M_field_147, k_M_field_148, k_M_field_149, k_M_field_150, k_M_field_153, k_M_field_155, k_M_field_156, k_M_field_157, k_M_field_158, k_M_field_161, k_M_field_163, k_M_field_165, k_M_field_166, k_M_field_167, k_M_field_170, k_M_field_172, k_M_field_173, k_M_field_174, k_M_field_175, k_M_field_176, k_M_field_177, k_M_field_178, k_M_field_179, k_M_field_180, k_M_field_181, k_M_field_182, g_M0, g_M1, g_M2, g_M3, g_M4, g_M5, g_M6, g_M7, g_M8, g_M9, g_M10, g_M11, g_M12, g_M13, g_M14, g_M15, g_M16, g_M17, g_M18, g_M19, g_M20, g_M21, g_M22, g_M23, g_M24, g_M25, g_M26, g_M27, g_M28, g_M29, g_M30, g_M31, g_M32, g_M33, i12, lf, i4, w_M_name h60, w_M_type h60, w_M_source h60, l_M_fields hj15, lf3, w_M_fields hj15, nI_1, am_ob_s, List.tail_cons, List.tail_nil, Option.toList_some, Option.toList_none, List.nil_append, List.cons_append, List.length_nil, List.length_cons, Nat.zero_le, true_and, and_true, true_implies, false_implies, not_true_eq_false, not_false_eq_true, implies_true, or_true, true_or, Nat.reduceAdd, Nat.reduceLeDiff]
    by_cases h7 : fr = -1
    · exact fin (Or.inl h7) ⟨-1, fun Q => by
        rw [pre]
        simp only [k_M_field_68, k_M_field_70, k_M_field_71, k_M_field_74, k_M_field_75, k_M_field_78, k_M_field_79, k_M_field_80, k_M_field_83, k_M_field_84, k_M_field_86, k_M_field_89, k_M_field_91, k_M_field_93, k_M_field_94, h7, am_ob_s, List.tail_cons, List.tail_nil, Option.toList_some, Option.toList_none, List.nil_append, List.cons_append, List.length_nil, List.length_cons, Nat.zero_le, true_and, and_true, true_implies, false_implies, not_true_eq_false, not_false_eq_true, implies_true, or_true, true_or, Nat.reduceAdd, Nat.reduceLeDiff]⟩
    · have hw := hZ.2.1
      have hN := (hZ.2.2.2.1 _ (Nat.le_refl _)).1.1 (cN c) k1 k3
      have fd2 := fun (Q : Option Value → am_H → Prop) => e_M_find (s := s) (Q := Q) (b := Z.2.2.1) (c := cN c) (by omega) ⟨k1, k3⟩ hN fr
      rw [← ec] at fd2
      cases h8 : pFind ((Z.2.1 Z.2.2.1).1 (cN c)) fr with
      | none =>
        exact no (fun q => q.2.2.elim h7 (fun q => by rw [pTy, h8] at q; cases q)) (fun Q => by
          rw [pre]
          simp only [k_M_field_68, k_M_field_70, k_M_field_71, k_M_field_74, k_M_field_75, k_M_field_78, k_M_field_79, k_M_field_80, k_M_field_83, k_M_field_84, k_M_field_86, k_M_field_89, k_M_field_91, k_M_field_93, k_M_field_94, k_M_field_97, k_M_field_99, k_M_field_102, k_M_field_103, k_M_field_104, k_M_field_107, k_M_field_108, k_M_field_110, k_M_field_113, k_M_field_114, k_M_field_117, k_M_field_118, h7, g_M0, g_M1, g_M2, g_M3, g_M4, g_M5, g_M6, g_M7, g_M8, g_M9, g_M10, g_M11, g_M12, g_M13, g_M14, g_M15, g_M16, g_M17, g_M18, g_M19, g_M20, g_M21, g_M22, g_M23, g_M24, g_M25, g_M26, g_M27, g_M28, g_M29, g_M30, g_M31, g_M32, g_M33, rc_M, hZ.1, fd2, h8, pIx, show (-1 : Int32) < 0 by decide, am_ob_s, List.tail_cons, List.tail_nil, Option.toList_some, Option.toList_none, List.nil_append, List.cons_append, List.length_nil, List.length_cons, Nat.zero_le, true_and, and_true, true_implies, false_implies, not_true_eq_false, not_false_eq_true, implies_true, or_true, true_or, Nat.reduceAdd, Nat.reduceLeDiff])
      | some k =>
        have hk := pFind_lt h8
        have hk4 : k < 4 := Nat.lt_of_lt_of_le hk hN.2.1
        have hk1 : ¬ nI k < 0 := nI_pos (by omega)
        obtain ⟨e, he⟩ : ∃ e, ((Z.2.1 Z.2.2.1).1 (cN c))[k]? = some e := ⟨_, List.getElem?_eq_getElem hk⟩
        have hv := (hN.2.2 k e he).2.1
        have ht := hok _ _ (Nat.le_refl _) (show cN c < 4 by omega) k e he
        have hp : pTy ((Z.2.1 Z.2.2.1).1 (cN c)) fr = some e.2.1 := by rw [pTy, h8, Option.bind_some, he]; rfl
        have to := fun (Q : Option Value → am_H → Prop) => e_M_typeOf (s := s) (Q := Q) (b := Z.2.2.1) (c := cN c) (k := k) (by omega) ⟨k1, k3⟩ hk4
        rw [← ec, hv] at to
        by_cases h9 : nI e.2.1 = ty
        · have h9' : e.2.1 = cN ty := by rw [← h9, cN_nI (by omega)]
          exact fin (Or.inr (by rw [hp, h9'])) ⟨nI k, fun Q => by
            rw [pre]
            simp only [k_M_field_68, k_M_field_70, k_M_field_71, k_M_field_74, k_M_field_75, k_M_field_78, k_M_field_79, k_M_field_80, k_M_field_83, k_M_field_84, k_M_field_86, k_M_field_89, k_M_field_91, k_M_field_93, k_M_field_94, k_M_field_97, k_M_field_99, k_M_field_102, k_M_field_103, k_M_field_104, k_M_field_107, k_M_field_108, k_M_field_110, k_M_field_113, k_M_field_114, h7, g_M0, g_M1, g_M2, g_M3, g_M4, g_M5, g_M6, g_M7, g_M8, g_M9, g_M10, g_M11, g_M12, g_M13, g_M14, g_M15, g_M16, g_M17, g_M18, g_M19, g_M20, g_M21, g_M22, g_M23, g_M24, g_M25, g_M26, g_M27, g_M28, g_M29, g_M30, g_M31, g_M32, g_M33, rc_M, hZ.1, fd2, h8, pIx, hk1, to, h9, am_ob_s, List.tail_cons, List.tail_nil, Option.toList_some, Option.toList_none, List.nil_append, List.cons_append, List.length_nil, List.length_cons, Nat.zero_le, true_and, and_true, true_implies, false_implies, not_true_eq_false, not_false_eq_true, implies_true, or_true, true_or, Nat.reduceAdd, Nat.reduceLeDiff]⟩
        · exact no (fun q => q.2.2.elim h7 (fun q => h9 (by rw [hp] at q; rw [Option.some.inj q]; exact et.symm))) (fun Q => by
            rw [pre]
            simp only [k_M_field_68, k_M_field_70, k_M_field_71, k_M_field_74, k_M_field_75, k_M_field_78, k_M_field_79, k_M_field_80, k_M_field_83, k_M_field_84, k_M_field_86, k_M_field_89, k_M_field_91, k_M_field_93, k_M_field_94, k_M_field_97, k_M_field_99, k_M_field_102, k_M_field_103, k_M_field_104, k_M_field_107, k_M_field_108, k_M_field_110, k_M_field_113, k_M_field_114, k_M_field_117, k_M_field_118, h7, g_M0, g_M1, g_M2, g_M3, g_M4, g_M5, g_M6, g_M7, g_M8, g_M9, g_M10, g_M11, g_M12, g_M13, g_M14, g_M15, g_M16, g_M17, g_M18, g_M19, g_M20, g_M21, g_M22, g_M23, g_M24, g_M25, g_M26, g_M27, g_M28, g_M29, g_M30, g_M31, g_M32, g_M33, rc_M, hZ.1, fd2, h8, pIx, hk1, to, h9, am_ob_s, List.tail_cons, List.tail_nil, Option.toList_some, Option.toList_none, List.nil_append, List.cons_append, List.length_nil, List.length_cons, Nat.zero_le, true_and, and_true, true_implies, false_implies, not_true_eq_false, not_false_eq_true, implies_true, or_true, true_or, Nat.reduceAdd, Nat.reduceLeDiff])
end SM9
