/-! The reference: renew, drop -/
section SM7
variable {s : am_S} {Z : pSg} {Q : Option Value → am_H → Prop}
/-- the draft begins anew -/
theorem e_M_renew (hZ : MdC s Z) : ∃ s', (∀ Q : Option Value → am_H → Prop, am_C f_M_renew [.ref 308] (TP, s) Q ↔ Q none (TP, s')) ∧ MdC s' (pNewD (Z.2.1 Z.2.2.1), Z.2) ∧ off 308 335 s s' := by
  have h3 := hZ.2.1
  have hN := (hZ.2.2.2.1 Z.2.2.1 (Nat.le_refl _)).1
  have cp := fun (Q : Option Value → am_H → Prop) => e_M_copy0 (s := s) (Q := Q) (fr := Z.2.2.1) (to := 4) (by omega) (by omega) (by omega)
  rw [show nI 4 = 4 from rfl] at cp
  have w4 := fun (s : am_S) (v : Int32) => w_M_classes (s := s) (v := v) (j := 4) (by omega)
  have w5 := fun (s : am_S) (v : Int32) => w_M_methods (s := s) (v := v) (j := 4) (by omega)
  rw [show nI 4 = 4 from rfl] at w4 w5
  have g := (MpC_cst 4 hN).1
  generalize es : cst s Z.2.2.1 4 mw = s1 at cp g
  have m0 : mPb 4 s s1 := by rw [← es]; exact cst_mPb s Z.2.2.1 4
  have m1 : mPb 4 s1 (am_wr s1 320 4 0) := mPb_wr _ (show 1 * 4 ≤ 4 ∧ 4 < 1 * 4 + 1 by omega)
  have m2 : mPb 4 (am_wr s1 320 4 0) (am_wr (am_wr s1 320 4 0) 321 4 0) := mPb_wr _ (show 1 * 4 ≤ 4 ∧ 4 < 1 * 4 + 1 by omega)
  have mm := mPb_tr m0 (mPb_tr m1 m2)
  refine ⟨_, fun Q => ?_, MdC_draft hZ mm ?_, off_up (mPb_off mm) (by omega) (by omega)⟩
  · rw [c_M_renew]
    simp only [k_M_renew_0, k_M_renew_1, k_M_renew_2, k_M_renew_5, k_M_renew_6, k_M_renew_9, k_M_renew_10, k_M_renew_13, k_M_renew_14, k_M_renew_15, k_M_renew_16, k_M_renew_17, k_M_renew_20, k_M_renew_21, k_M_renew_22, k_M_renew_23, g_M0, g_M1, g_M2, g_M3, g_M4, g_M5, g_M6, g_M7, g_M8, g_M9, g_M10, g_M11, g_M12, g_M13, g_M14, g_M15, g_M16, g_M17, g_M18, g_M19, g_M20, g_M21, g_M22, g_M23, g_M24, g_M25, g_M26, g_M27, g_M28, g_M29, g_M30, g_M31, g_M32, g_M33, hZ.1, rc_M, cp, w4, w5, am_ob_s, List.tail_cons, List.tail_nil, Option.toList_some, Option.toList_none, List.nil_append, List.cons_append, List.length_nil, List.length_cons, Nat.zero_le, true_and, and_true, true_implies, false_implies, not_true_eq_false, not_false_eq_true, implies_true, or_true, true_or, Nat.reduceAdd, Nat.reduceLeDiff]
  · obtain ⟨g1, g2, g3, g4⟩ := g
    refine ⟨fun c q1 q2 => ?_, fun m hm => ?_, by rw [am_wr_row _ (by omega), am_wr_self]; rfl, am_wr_self _ _ _ _⟩
    · have q := g1 c q1 q2
      unfold MlC at q ⊢
      rw [am_wr_row (i' := 309) _ (by omega), am_wr_row (i' := 309) _ (by omega), am_wr_row (i' := 310) _ (by omega), am_wr_row (i' := 310) _ (by omega), am_wr_row (i' := 311) _ (by omega), am_wr_row (i' := 311) _ (by omega), am_wr_row (i' := 312) _ (by omega), am_wr_row (i' := 312) _ (by omega)]
      exact q
    · have q := g2 m hm
      unfold MrC at q ⊢
      rw [am_wr_row (i' := 313) _ (by omega), am_wr_row (i' := 313) _ (by omega), am_wr_row (i' := 314) _ (by omega), am_wr_row (i' := 314) _ (by omega), am_wr_row (i' := 315) _ (by omega), am_wr_row (i' := 315) _ (by omega), am_wr_row (i' := 316) _ (by omega), am_wr_row (i' := 316) _ (by omega), am_wr_row (i' := 317) _ (by omega), am_wr_row (i' := 317) _ (by omega), am_wr_row (i' := 318) _ (by omega), am_wr_row (i' := 318) _ (by omega), am_wr_row (i' := 319) _ (by omega), am_wr_row (i' := 319) _ (by omega)]
      exact q
theorem e_M_drop (hZ : MdC s Z) : mS f_M_drop [.ref 308] s (pDrop Z) := by
  obtain ⟨d1, d2, d3, d4⟩ := hZ.2.2.1
  have l4 := fun (s : am_S) => l_M_classes (s := s) (j := 4) (by omega)
  have l5 := fun (s : am_S) => l_M_methods (s := s) (j := 4) (by omega)
  rw [show nI 4 = 4 from rfl] at l4 l5
  unfold pDrop
  by_cases h0 : Z.1.2.2.1 = 0 ∧ Z.1.2.2.2.1 = 0
  · rw [zif_t h0]
    refine ⟨s, fun Q => ?_, hZ, off_rf _ _ _⟩
    rw [c_M_drop]
    simp only [k_M_drop_0, k_M_drop_1, k_M_drop_4, k_M_drop_5, k_M_drop_6, k_M_drop_9, k_M_drop_10, k_M_drop_13, k_M_drop_14, k_M_drop_15, k_M_drop_18, k_M_drop_19, k_M_drop_20, k_M_drop_21, k_M_drop_24, k_M_drop_25, g_M0, g_M1, g_M2, g_M3, g_M4, g_M5, g_M6, g_M7, g_M8, g_M9, g_M10, g_M11, g_M12, g_M13, g_M14, g_M15, g_M16, g_M17, g_M18, g_M19, g_M20, g_M21, g_M22, g_M23, g_M24, g_M25, g_M26, g_M27, g_M28, g_M29, g_M30, g_M31, g_M32, g_M33, l4, l5, d3, d4, h0.1, h0.2, am_ob_s, List.tail_cons, List.tail_nil, Option.toList_some, Option.toList_none, List.nil_append, List.cons_append, List.length_nil, List.length_cons, Nat.zero_le, true_and, and_true, true_implies, false_implies, not_true_eq_false, not_false_eq_true, implies_true, or_true, true_or, Nat.reduceAdd, Nat.reduceLeDiff]
  · rw [zif_f h0]
    obtain ⟨s', a1, a2, a3⟩ := e_M_renew hZ
    refine ⟨s', fun Q => ?_, a2, a3⟩
    rw [c_M_drop]
    by_cases h1 : Z.1.2.2.1 = 0
    · have h2 : ¬ Z.1.2.2.2.1 = 0 := fun q => h0 ⟨h1, q⟩
      simp only [k_M_drop_0, k_M_drop_1, k_M_drop_4, k_M_drop_5, k_M_drop_6, k_M_drop_9, k_M_drop_10, k_M_drop_13, k_M_drop_14, k_M_drop_15, k_M_drop_18, k_M_drop_19, k_M_drop_20, k_M_drop_21, k_M_drop_24, k_M_drop_25, g_M0, g_M1, g_M2, g_M3, g_M4, g_M5, g_M6, g_M7, g_M8, g_M9, g_M10, g_M11, g_M12, g_M13, g_M14, g_M15, g_M16, g_M17, g_M18, g_M19, g_M20, g_M21, g_M22, g_M23, g_M24, g_M25, g_M26, g_M27, g_M28, g_M29, g_M30, g_M31, g_M32, g_M33, l4, l5, d3, d4, h1, h2, rc_M, a1, am_ob_s, List.tail_cons, List.tail_nil, Option.toList_some, Option.toList_none, List.nil_append, List.cons_append, List.length_nil, List.length_cons, Nat.zero_le, true_and, and_true, true_implies, false_implies, not_true_eq_false, not_false_eq_true, implies_true, or_true, true_or, Nat.reduceAdd, Nat.reduceLeDiff]
    · simp only [k_M_drop_0, k_M_drop_1, k_M_drop_4, k_M_drop_5, k_M_drop_6, k_M_drop_9, k_M_drop_10, k_M_drop_13, k_M_drop_14, k_M_drop_15, k_M_drop_18, k_M_drop_19, k_M_drop_20, k_M_drop_21, k_M_drop_24, k_M_drop_25, g_M0, g_M1, g_M2, g_M3, g_M4, g_M5, g_M6, g_M7, g_M8, g_M9, g_M10, g_M11, g_M12, g_M13, g_M14, g_M15, g_M16, g_M17, g_M18, g_M19, g_M20, g_M21, g_M22, g_M23, g_M24, g_M25, g_M26, g_M27, g_M28, g_M29, g_M30, g_M31, g_M32, g_M33, l4, d3, h1, rc_M, a1, am_ob_s, List.tail_cons, List.tail_nil, Option.toList_some, Option.toList_none, List.nil_append, List.cons_append, List.length_nil, List.length_cons, Nat.zero_le, true_and, and_true, true_implies, false_implies, not_true_eq_false, not_false_eq_true, implies_true, or_true, true_or, Nat.reduceAdd, Nat.reduceLeDiff]
end SM7
