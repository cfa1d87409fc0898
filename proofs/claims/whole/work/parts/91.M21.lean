/-! The reference: commit -/
theorem MnC_row {s s' : am_S} {σ : pMc} (h : MnC s σ) (e : ∀ i, 324 ≤ i → i ≤ 334 → s' i = s i) (e2 : ∀ k, 17 ≤ k → k ≠ 18 → s' 308 k = s 308 k) : MnC s' σ := by
  obtain ⟨FS, st, rs, cl, vl, ou, on⟩ := σ
  refine MnC_mk h (fun i q1 q2 _ _ _ _ => e i q1 q2) e2 (fun j hj => ?_)
  rw [e 330 (by omega) (by omega), e 331 (by omega) (by omega)]
  exact h.2.2.2.2.2.1 j hj
theorem MdC_k {s s' : am_S} {Z : pSg} (h : MdC s Z) (e : mK s s') : MdC s' Z := by
  obtain ⟨z1, z2, z3, z4, z5, z6, z7⟩ := h
  refine ⟨by rw [e.2 14 (by omega)]; exact z1, z2, MpC_k z3 e, fun i hi => ⟨MpC_k (z4 i hi).1 e, by rw [e.1 322 (by omega) (by omega)]; exact (z4 i hi).2⟩, MnC_row z5 (fun i q1 q2 => e.1 i (by omega) (by omega)) (fun k q1 q2 => e.2 k q2), by rw [e.2 15 (by omega)]; exact z6, by rw [e.2 16 (by omega)]; exact z7⟩
theorem mK_off {s s' : am_S} (e : mK s s') : off 308 335 s s' := fun i hi => e.1 i (by omega) (by omega)
section SM21
variable {s : am_S} {Z : pSg}
set_option maxHeartbeats 1000000 in
theorem e_M_commit {I : pSg → Prop} (hI : ∀ Z, I Z → cdM Z) (hI2 : ∀ Z, I Z → 0 < Z.2.2.1 → ¬ pHas Z.2.2.2.1.1 (Z.2.1 1).2.2.2.2 → I (pAp1 Z)) (hZ : MdC s Z) (hD0 : okP Z.1) (hDl : okL Z.1.1) (hN0 : okP (Z.2.1 Z.2.2.1)) (hI3 : ckAll Z.1 0 6 = none → Z.2.2.1 < 3 → I (pAdd Z)) : mS f_M_commit [.ref 308] s (pCommit Z) := by
  have h3 := hZ.2.1
  have hD := hZ.2.2.1
  have lc := l_M_classes (s := s) (j := 4) (by omega)
  have lm := l_M_methods (s := s) (j := 4) (by omega)
  rw [show nI 4 = 4 from rfl, hD.2.2.1] at lc
  rw [show nI 4 = 4 from rfl, hD.2.2.2] at lm
  unfold pCommit
  by_cases h0 : Z.1.2.2.1 = 0 ∧ Z.1.2.2.2.1 = 0
  · rw [zif_t (Or.inl h0)]
    refine ⟨s, fun Q => ?_, hZ, off_rf _ _ _⟩
    rw [c_M_commit]
    simp only [k_M_commit_0, k_M_commit_1, k_M_commit_4, k_M_commit_5, k_M_commit_6, k_M_commit_9, k_M_commit_10, k_M_commit_13, k_M_commit_14, k_M_commit_15, k_M_commit_18, k_M_commit_19, k_M_commit_22, k_M_commit_23, k_M_commit_26, k_M_commit_27, g_M0, g_M1, g_M2, g_M3, g_M4, g_M5, g_M6, g_M7, g_M8, g_M9, g_M10, g_M11, g_M12, g_M13, g_M14, g_M15, g_M16, g_M17, g_M18, g_M19, g_M20, g_M21, g_M22, g_M23, g_M24, g_M25, g_M26, g_M27, g_M28, g_M29, g_M30, g_M31, g_M32, g_M33, lc, lm, h0.1, h0.2, am_ob_s, List.tail_cons, List.tail_nil, Option.toList_some, Option.toList_none, List.nil_append, List.cons_append, List.length_nil, List.length_cons, Nat.zero_le, true_and, and_true, true_implies, false_implies, not_true_eq_false, not_false_eq_true, implies_true, or_true, true_or, Nat.reduceAdd, Nat.reduceLeDiff]
  by_cases hw : 3 ≤ Z.2.2.1
  · rw [zif_t (Or.inr hw)]
    refine ⟨s, fun Q => ?_, hZ, off_rf _ _ _⟩
    have e3 : nI Z.2.2.1 = 3 := by rw [show Z.2.2.1 = 3 by omega]; rfl
    rw [c_M_commit]
    by_cases q : Z.1.2.2.1 = 0
    · have q2 : ¬ Z.1.2.2.2.1 = 0 := fun w => h0 ⟨q, w⟩
      simp only [k_M_commit_0, k_M_commit_1, k_M_commit_4, k_M_commit_5, k_M_commit_6, k_M_commit_9, k_M_commit_10, k_M_commit_13, k_M_commit_14, k_M_commit_15, k_M_commit_18, k_M_commit_19, k_M_commit_22, k_M_commit_23, k_M_commit_26, k_M_commit_27, g_M0, g_M1, g_M2, g_M3, g_M4, g_M5, g_M6, g_M7, g_M8, g_M9, g_M10, g_M11, g_M12, g_M13, g_M14, g_M15, g_M16, g_M17, g_M18, g_M19, g_M20, g_M21, g_M22, g_M23, g_M24, g_M25, g_M26, g_M27, g_M28, g_M29, g_M30, g_M31, g_M32, g_M33, lc, lm, q, q2, hZ.1, e3, am_ob_s, List.tail_cons, List.tail_nil, Option.toList_some, Option.toList_none, List.nil_append, List.cons_append, List.length_nil, List.length_cons, Nat.zero_le, true_and, and_true, true_implies, false_implies, not_true_eq_false, not_false_eq_true, implies_true, or_true, true_or, Nat.reduceAdd, Nat.reduceLeDiff]
    · simp only [k_M_commit_0, k_M_commit_1, k_M_commit_4, k_M_commit_5, k_M_commit_6, k_M_commit_9, k_M_commit_10, k_M_commit_13, k_M_commit_14, k_M_commit_15, k_M_commit_18, k_M_commit_19, k_M_commit_22, k_M_commit_23, k_M_commit_26, k_M_commit_27, g_M0, g_M1, g_M2, g_M3, g_M4, g_M5, g_M6, g_M7, g_M8, g_M9, g_M10, g_M11, g_M12, g_M13, g_M14, g_M15, g_M16, g_M17, g_M18, g_M19, g_M20, g_M21, g_M22, g_M23, g_M24, g_M25, g_M26, g_M27, g_M28, g_M29, g_M30, g_M31, g_M32, g_M33, lc, lm, q, hZ.1, e3, am_ob_s, List.tail_cons, List.tail_nil, Option.toList_some, Option.toList_none, List.nil_append, List.cons_append, List.length_nil, List.length_cons, Nat.zero_le, true_and, and_true, true_implies, false_implies, not_true_eq_false, not_false_eq_true, implies_true, or_true, true_or, Nat.reduceAdd, Nat.reduceLeDiff]
  rw [zif_f (fun q => q.elim h0 hw)]
  have e3 : ¬ nI Z.2.2.1 = 3 := fun q => by
    have := (nI_eq (b := 3) (by omega) (by omega)).mp q
    omega
  obtain ⟨s1, a1, a2⟩ := e_M_wrong hD hDl hD0
  have pre : ∀ Q : Option Value → am_H → Prop, am_C f_M_commit [.ref 308] (TP, s) Q ↔ am_W m_M_commit 33 [.ref 308, .int (pIx (ckAll Z.1 0 6))] [] (TP, s1) Q := fun Q => by
    rw [c_M_commit]
    by_cases q : Z.1.2.2.1 = 0
    · have q2 : ¬ Z.1.2.2.2.1 = 0 := fun w => h0 ⟨q, w⟩
      simp only [k_M_commit_0, k_M_commit_1, k_M_commit_4, k_M_commit_5, k_M_commit_6, k_M_commit_9, k_M_commit_10, k_M_commit_13, k_M_commit_14, k_M_commit_15, k_M_commit_18, k_M_commit_19, k_M_commit_22, k_M_commit_23, k_M_commit_26, k_M_commit_27, k_M_commit_28, k_M_commit_29, k_M_commit_32, g_M0, g_M1, g_M2, g_M3, g_M4, g_M5, g_M6, g_M7, g_M8, g_M9, g_M10, g_M11, g_M12, g_M13, g_M14, g_M15, g_M16, g_M17, g_M18, g_M19, g_M20, g_M21, g_M22, g_M23, g_M24, g_M25, g_M26, g_M27, g_M28, g_M29, g_M30, g_M31, g_M32, g_M33, lc, lm, q, q2, hZ.1, e3, rc_M, a1, am_ob_s, List.tail_cons, List.tail_nil, Option.toList_some, Option.toList_none, List.nil_append, List.cons_append, List.length_nil, List.length_cons, Nat.zero_le, true_and, and_true, true_implies, false_implies, not_true_eq_false, not_false_eq_true, implies_true, or_true, true_or, Nat.reduceAdd, Nat.reduceLeDiff]
    · simp only [k_M_commit_0, k_M_commit_1, k_M_commit_4, k_M_commit_5, k_M_commit_6, k_M_commit_9, k_M_commit_10, k_M_commit_13, k_M_commit_14, k_M_commit_15, k_M_commit_18, k_M_commit_19, k_M_commit_22, k_M_commit_23, k_M_commit_26, k_M_commit_27, k_M_commit_28, k_M_commit_29, k_M_commit_32, g_M0, g_M1, g_M2, g_M3, g_M4, g_M5, g_M6, g_M7, g_M8, g_M9, g_M10, g_M11, g_M12, g_M13, g_M14, g_M15, g_M16, g_M17, g_M18, g_M19, g_M20, g_M21, g_M22, g_M23, g_M24, g_M25, g_M26, g_M27, g_M28, g_M29, g_M30, g_M31, g_M32, g_M33, lc, lm, q, hZ.1, e3, rc_M, a1, am_ob_s, List.tail_cons, List.tail_nil, Option.toList_some, Option.toList_none, List.nil_append, List.cons_append, List.length_nil, List.length_cons, Nat.zero_le, true_and, and_true, true_implies, false_implies, not_true_eq_false, not_false_eq_true, implies_true, or_true, true_or, Nat.reduceAdd, Nat.reduceLeDiff]
  have hZ1 := MdC_k hZ a2
  cases hck : ckAll Z.1 0 6 with
  | some k =>
    have hk := ckAll_lt Z.1 6 0 k (fun j hj => (hD.2.1 j hj).2.2.2.2.1) (by omega) hck
    have hk1 : ¬ nI k < 0 := nI_pos (by omega)
    refine ⟨s1, fun Q => ?_, hZ1, mK_off a2⟩
    rw [pre, hck]
    simp only [k_M_commit_33, k_M_commit_34, k_M_commit_37, k_M_commit_38, k_M_commit_39, k_M_commit_40, pIx, hk1, am_ob_s, List.tail_cons, List.tail_nil, Option.toList_some, Option.toList_none, List.nil_append, List.cons_append, List.length_nil, List.length_cons, Nat.zero_le, true_and, and_true, true_implies, false_implies, not_true_eq_false, not_false_eq_true, implies_true, or_true, true_or, Nat.reduceAdd, Nat.reduceLeDiff]
  | none =>
    have hw3 : Z.2.2.1 < 3 := by omega
    have hN1 := (hZ1.2.2.2.1 _ (Nat.le_refl _)).1
    have rb := fun (Q : Option Value → am_H → Prop) => e_M_restrictedBy (Q := Q) hZ1.1 h3 hZ1.2.2.1 hN1 hD0 hN0
    generalize ev : pRs (Z.2.1 Z.2.2.1).2.1 Z.1.2.2.1 Z.1.2.2.2.1 (pOw Z.1.2.1 (Z.2.1 Z.2.2.1).2.1 6) 6 = v at rb
    have wb := w_M_barred (s := s1) (v := v) (j := 4) (by omega)
    rw [show nI 4 = 4 from rfl] at wb
    generalize es2 : am_wr s1 322 4 v = s2 at wb
    have o2 : ∀ i, i ≠ 322 → s2 i = s1 i := fun i q => by rw [← es2, am_wr_row _ q]
    have m2 : mPb 4 s1 s2 := by rw [← es2]; exact mPb_wr _ (show 1 * 4 ≤ 4 ∧ 4 < 1 * 4 + 1 by omega)
    have e14 : s2 308 14 = nI Z.2.2.1 := by rw [o2 308 (by omega)]; exact hZ1.1
    have ew := nI_1 Z.2.2.1
    have cp := fun (Q : Option Value → am_H → Prop) => e_M_copy0 (s := s2) (Q := Q) (fr := 4) (to := Z.2.2.1 + 1) (by omega) (by omega) (by omega)
    rw [show nI 4 = 4 from rfl] at cp
    have hD2 : MpC s2 4 Z.1 := by
      obtain ⟨d1, d2, d3, d4⟩ := hZ1.2.2.1
      refine ⟨fun c q1 q2 => ?_, fun m hm => ?_, by rw [o2 320 (by omega)]; exact d3, by rw [o2 321 (by omega)]; exact d4⟩
      · have := d1 c q1 q2
        unfold MlC at this ⊢
        rw [o2 309 (by omega), o2 310 (by omega), o2 311 (by omega), o2 312 (by omega)]
        exact this
      · have := d2 m hm
        unfold MrC at this ⊢
        rw [o2 313 (by omega), o2 314 (by omega), o2 315 (by omega), o2 316 (by omega), o2 317 (by omega), o2 318 (by omega), o2 319 (by omega)]
        exact this
    have b2 : s2 322 4 = v := by rw [← es2]; exact am_wr_self _ _ _ _
    have gc := MpC_cst (Z.2.2.1 + 1) hD2
    generalize es3 : cst s2 4 (Z.2.2.1 + 1) mw = s3 at cp gc
    have m3 : mPb (Z.2.2.1 + 1) s2 s3 := by rw [← es3]; exact cst_mPb _ _ _
    have o3 : ∀ i, i < 309 ∨ 323 ≤ i → s3 i = s1 i := fun i hi => ((mPb_off m3 i hi)).trans (mPb_off m2 i hi)
    have hD3 := (MpC_other m3 (show 4 ≠ Z.2.2.1 + 1 by omega) hD2).1
    have e143 : s3 308 14 = nI Z.2.2.1 := by rw [o3 308 (by omega)]; exact hZ1.1
    generalize es4 : am_wr s3 308 14 (nI (Z.2.2.1 + 1)) = s4
    have o4 : ∀ i, i ≠ 308 → s4 i = s3 i := fun i q => by rw [← es4, am_wr_row _ q]
    have o48 : ∀ k, k ≠ 14 → s4 308 k = s1 308 k := fun k q => by rw [← es4, am_wr_col _ q, o3 308 (by omega)]
    have r4 : ∀ i, 309 ≤ i → i ≤ 322 → s4 i = s3 i := fun i q1 q2 => o4 i (by omega)
    have hZ4 : MdC s4 (Z.1, pSt Z.2.1 (Z.2.2.1 + 1) (pBar Z.1 (Z.2.1 Z.2.2.1)), Z.2.2.1 + 1, Z.2.2.2) := by
      refine ⟨by rw [← es4, am_wr_self], by show Z.2.2.1 + 1 ≤ 3; omega, MpC_rows hD3 r4, fun i hi => ?_, MnC_row hZ1.2.2.2.2.1 (fun i q1 q2 => by rw [o4 i (by omega), o3 i (by omega)]) (fun k q1 q2 => o48 k (by omega)), by rw [o48 15 (by omega)]; exact hZ1.2.2.2.2.2.1, by rw [o48 16 (by omega)]; exact hZ1.2.2.2.2.2.2⟩
      have hi' : i ≤ Z.2.2.1 + 1 := hi
      dsimp only
      rw [o4 322 (by omega)]
      by_cases q : i = Z.2.2.1 + 1
      · rw [q, pSt_s]
        refine ⟨MpC_rows gc.1 r4, gc.2.trans (b2.trans ev.symm)⟩
      · rw [pSt_n q]
        have g1 := hZ1.2.2.2.1 i (by omega)
        have g2 := MpC_other m2 (show i ≠ 4 by omega) g1.1
        have g3 := MpC_other m3 q g2.1
        exact ⟨MpC_rows g3.1 r4, g3.2.trans (g2.2.trans g1.2)⟩
    obtain ⟨s5, c1, c2, c3⟩ := e_M_renew hZ4
    dsimp only at c2
    rw [pSt_s] at c2
    obtain ⟨s6, d1, d2, d3⟩ := e_M_settle hI hI2 (Z := pAdd Z) c2 (hI3 hck hw3)
    refine ⟨s6, fun Q => ?_, d2, off_tr (off_tr (off_tr (mK_off a2) (fun i hi => by rw [o4 i (by omega), o3 i (by omega)])) c3) d3⟩
    rw [pre, hck]
    simp only [k_M_commit_33, k_M_commit_34, k_M_commit_37, k_M_commit_38, k_M_commit_39, k_M_commit_40, k_M_commit_41, k_M_commit_42, k_M_commit_45, k_M_commit_46, k_M_commit_47, k_M_commit_50, k_M_commit_51, k_M_commit_52, k_M_commit_53, k_M_commit_54, k_M_commit_57, k_M_commit_58, k_M_commit_59, k_M_commit_62, k_M_commit_63, k_M_commit_63i, k_M_commit_64, k_M_commit_67, k_M_commit_68, k_M_commit_69, k_M_commit_72, k_M_commit_73, k_M_commit_76, k_M_commit_77, k_M_commit_80, k_M_commit_81, pIx, show (-1 : Int32) < 0 by decide, g_M0, g_M1, g_M2, g_M3, g_M4, g_M5, g_M6, g_M7, g_M8, g_M9, g_M10, g_M11, g_M12, g_M13, g_M14, g_M15, g_M16, g_M17, g_M18, g_M19, g_M20, g_M21, g_M22, g_M23, g_M24, g_M25, g_M26, g_M27, g_M28, g_M29, g_M30, g_M31, g_M32, g_M33, rc_M, rb, wb, e14, ew, cp, e143, p_M14, es4, c1, d1, am_ob_s, List.tail_cons, List.tail_nil, Option.toList_some, Option.toList_none, List.nil_append, List.cons_append, List.length_nil, List.length_cons, Nat.zero_le, true_and, and_true, true_implies, false_implies, not_true_eq_false, not_false_eq_true, implies_true, or_true, true_or, Nat.reduceAdd, Nat.reduceLeDiff]
end SM21
