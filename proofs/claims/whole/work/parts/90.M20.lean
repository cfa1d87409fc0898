/-! The reference: apply, settle, commit -/
/-- what the reference needs for a patch to be applied -/
def cdM (Z : pSg) : Prop := okP (Z.2.1 0) ∧ (∀ F ∈ Z.2.2.2.1.1, okRF ((Z.2.1 0).2.1 F.1).2.1 F) ∧ okRR Z.2.2.2.1.2.2.2.1 Z.2.2.2.1.2.2.2.2.1 (Z.2.1 0).1 ∧ (∀ j, j ∈ pLs (Z.2.1 0) Z.2.2.2.1.1 Z.2.2.2.1.2.2.2.1 Z.2.2.2.1.2.2.2.2.1 → Z.2.2.2.1.2.2.2.1 j ≠ 0) ∧ (∀ c, 1 ≤ c → c ≤ 3 → okNm ((Z.2.1 0).1 c)) ∧ (0 < Z.2.2.1 → tbit (Z.2.1 1).2.2.1 (nI 0) = false)
theorem MnC_mk {s s' : am_S} {FS : List pFr} {st rs on : Int32} {cl cl' : Nat → Nat} {vl vl' : Nat → Nat → Int32} {ou : Nat → Int32} (h : MnC s (FS, st, rs, cl, vl, ou, on)) (h1 : ∀ i, 324 ≤ i → i ≤ 334 → i ≠ 330 → i ≠ 331 → i ≠ 332 → i ≠ 333 → s' i = s i) (h2 : ∀ k, 17 ≤ k → k ≠ 18 → s' 308 k = s 308 k) (h3 : MhC s' cl' vl') : MnC s' (FS, st, rs, cl', vl', ou, on) := by
  obtain ⟨n1, n2, n3, n4, n5, n6, n7, n8⟩ := h
  dsimp only at n1 n2 n3 n4 n5 n6 n7 n8
  refine ⟨by rw [h2 21 (by omega) (by omega)]; exact n1, n2, fun k F hk => ?_, by rw [h2 19 (by omega) (by omega)]; exact n4, by rw [h2 20 (by omega) (by omega)]; exact n5, h3, fun j hj => by rw [h1 334 (by omega) (by omega) (by omega) (by omega) (by omega) (by omega)]; exact n7 j hj, by rw [h2 33 (by omega) (by omega)]; exact n8⟩
  have := n3 k F hk
  unfold MfC at this ⊢
  rw [h1 324 (by omega) (by omega) (by omega) (by omega) (by omega) (by omega), h1 325 (by omega) (by omega) (by omega) (by omega) (by omega) (by omega), h1 326 (by omega) (by omega) (by omega) (by omega) (by omega) (by omega), h1 327 (by omega) (by omega) (by omega) (by omega) (by omega) (by omega), h1 328 (by omega) (by omega) (by omega) (by omega) (by omega) (by omega), h1 329 (by omega) (by omega) (by omega) (by omega) (by omega) (by omega)]
  exact this
section SM20
variable {s : am_S}
/-- the objects of the kinds touched are moved -/
theorem m_move {cl : Nat → Nat} {vl : Nat → Nat → Int32} {P P' : pPg} {mv : Int32} (hP : MpC s 0 P) (hP' : MpC s 1 P') (hn : ∀ c, 1 ≤ c → c ≤ 3 → okNm (P.1 c)) (ht : tbit P'.2.2.1 (nI 0) = false) : ∀ (r j : Nat), j + r = 16 → ∀ (s1 : am_S), (∀ i, i ≠ 331 → i ≠ 333 → i ≠ 308 → s1 i = s i) → (∀ k, k ≠ 16 → s1 308 k = s 308 k) → s1 308 16 = mv + nI (mvn cl P'.2.2.1 j) → MhC s1 cl (upj (mvo cl vl P.1 P'.1 P'.2.2.1) vl j) → ∀ (jk : List Value), ∃ s', (∃ jk', ∀ Q : Option Value → am_H → Prop, am_W m_M_apply 6 (.ref 308 :: .int (nI (j + 1)) :: jk) [] (TP, s1) Q ↔ am_W m_M_apply 67 (.ref 308 :: jk') [] (TP, s') Q) ∧ (∀ i, i ≠ 331 → i ≠ 333 → i ≠ 308 → s' i = s i) ∧ (∀ k, k ≠ 16 → s' 308 k = s 308 k) ∧ s' 308 16 = mv + nI (mvn cl P'.2.2.1 16) ∧ MhC s' cl (mvo cl vl P.1 P'.1 P'.2.2.1) := by
  intro r
  induction r with
  | zero =>
    intro j hj s1 h1 h2 h3 h4 jk
    obtain rfl : j = 16 := by omega
    have g : (16 : Int32) < nI (16 + 1) := by decide
    refine ⟨s1, ⟨.int (nI (16 + 1)) :: jk, fun Q => ?_⟩, h1, h2, h3, fun i hi => by have := h4 i hi; rw [upj_lt hi] at this; exact this⟩
    rw [k_M_apply_6]
    simp only [k_M_apply_7, k_M_apply_9, g, am_ob_s, List.tail_cons, List.tail_nil, Option.toList_some, Option.toList_none, List.nil_append, List.cons_append, List.length_nil, List.length_cons, Nat.zero_le, true_and, and_true, true_implies, false_implies, not_true_eq_false, not_false_eq_true, implies_true, or_true, true_or, Nat.reduceAdd, Nat.reduceLeDiff]
  | succ r ih =>
    intro j hj s1 h1 h2 h3 h4 jk
    have g : ¬ (16 : Int32) < nI (j + 1) := nI_nlt (a := 16) (by omega) (by omega)
    have hj17 : j + 1 < 17 := by omega
    have lm := l_M_made (s := s1) hj17
    obtain ⟨m1, m2, m3⟩ := h4 j (by omega)
    rw [m1] at lm
    have hP1 : MpC s1 0 P := MpC_rows hP (fun i q1 q2 => h1 i (by omega) (by omega) (by omega))
    have hP1' : MpC s1 1 P' := MpC_rows hP' (fun i q1 q2 => h1 i (by omega) (by omega) (by omega))
    have lc := l_M_classes (s := s1) (j := 1) (by omega)
    rw [show nI 1 = 1 from rfl, hP1'.2.2.1] at lc
    have skip : ¬ tbit P'.2.2.1 (nI (cl j)) = true → (∀ Q : Option Value → am_H → Prop, am_W m_M_apply 6 (.ref 308 :: .int (nI (j + 1)) :: jk) [] (TP, s1) Q ↔ am_W m_M_apply 6 (.ref 308 :: .int (nI (j + 1 + 1)) :: jk) [] (TP, s1) Q) → ∃ s', (∃ jk', ∀ Q : Option Value → am_H → Prop, am_W m_M_apply 6 (.ref 308 :: .int (nI (j + 1)) :: jk) [] (TP, s1) Q ↔ am_W m_M_apply 67 (.ref 308 :: jk') [] (TP, s') Q) ∧ (∀ i, i ≠ 331 → i ≠ 333 → i ≠ 308 → s' i = s i) ∧ (∀ k, k ≠ 16 → s' 308 k = s 308 k) ∧ s' 308 16 = mv + nI (mvn cl P'.2.2.1 16) ∧ MhC s' cl (mvo cl vl P.1 P'.1 P'.2.2.1) := fun q1 q2 => by
      have em : mvn cl P'.2.2.1 (j + 1) = mvn cl P'.2.2.1 j := by rw [mvn, if_neg q1]
      have eo : mvo cl vl P.1 P'.1 P'.2.2.1 j = vl j := if_neg q1
      obtain ⟨s', ⟨jk', a1⟩, a2⟩ := ih (j + 1) (by omega) s1 h1 h2 (by rw [em]; exact h3) (fun i hi => by
        by_cases w : i = j
        · have := h4 i hi
          rw [w, upj_lt (by omega), eo]
          rw [w, upj_ge (Nat.le_refl _)] at this
          exact this
        · rw [upj_ne w]
          exact h4 i hi) jk
      exact ⟨s', ⟨jk', fun Q => (q2 Q).trans (a1 Q)⟩, a2⟩
    by_cases hz : cl j = 0
    · have z : nI (cl j) ≤ 0 := by rw [hz]; decide
      refine skip (by rw [hz, ht]; simp) (fun Q => ?_)
      rw [k_M_apply_6]
      simp only [k_M_apply_7, k_M_apply_9, k_M_apply_12, k_M_apply_13, k_M_apply_16, k_M_apply_17, k_M_apply_18, k_M_apply_21, k_M_apply_22, k_M_apply_25, k_M_apply_26, k_M_apply_27, k_M_apply_28, k_M_apply_31, k_M_apply_32, k_M_apply_33, k_M_apply_34, k_M_apply_35, k_M_apply_36, k_M_apply_37, k_M_apply_40, k_M_apply_41, k_M_apply_42, k_M_apply_43, k_M_apply_46, k_M_apply_47, k_M_apply_48, k_M_apply_51, k_M_apply_52, k_M_apply_52i, k_M_apply_53, k_M_apply_56, k_M_apply_57, k_M_apply_58, k_M_apply_61, k_M_apply_64, g_M0, g_M1, g_M2, g_M3, g_M4, g_M5, g_M6, g_M7, g_M8, g_M9, g_M10, g_M11, g_M12, g_M13, g_M14, g_M15, g_M16, g_M17, g_M18, g_M19, g_M20, g_M21, g_M22, g_M23, g_M24, g_M25, g_M26, g_M27, g_M28, g_M29, g_M30, g_M31, g_M32, g_M33, g, lm, z, nI_1, am_ob_s, List.tail_cons, List.tail_nil, Option.toList_some, Option.toList_none, List.nil_append, List.cons_append, List.length_nil, List.length_cons, Nat.zero_le, true_and, and_true, true_implies, false_implies, not_true_eq_false, not_false_eq_true, implies_true, or_true, true_or, Nat.reduceAdd, Nat.reduceLeDiff]
    · have z : ¬ nI (cl j) ≤ 0 := nI_nle (by omega) (by omega)
      by_cases hb : (P'.2.2.1 >>> (nI (cl j) &&& 31)) &&& 1 = 1
      · have hb' := (tbit_1 _ _).mp hb
        have em : mvn cl P'.2.2.1 (j + 1) = mvn cl P'.2.2.1 j + 1 := by rw [mvn, if_pos hb']
        have eo : mvo cl vl P.1 P'.1 P'.2.2.1 j = mvv (P.1 (cl j)) (P'.1 (cl j)) (vl j) := if_pos hb'
        obtain ⟨s2, t1, t2, t3⟩ := e_M_transform h4 (show j < 16 by omega) ⟨by omega, by omega⟩ (hP1.1 (cl j) (by omega) (by omega)) (hP1'.1 (cl j) (by omega) (by omega)) (hn (cl j) (by omega) (by omega))
        rw [upj_ge (Nat.le_refl _), ← eo] at t2
        have e16 : s2 308 16 = mv + nI (mvn cl P'.2.2.1 j) := by rw [t3 308 (by omega) (by omega)]; exact h3
        have ea : (mv + nI (mvn cl P'.2.2.1 j)) + 1 = mv + nI (mvn cl P'.2.2.1 (j + 1)) := by rw [Int32.add_assoc, nI_1, em]
        obtain ⟨s', ⟨jk', a1⟩, a2⟩ := ih (j + 1) (by omega) (am_wr s2 308 16 (mv + nI (mvn cl P'.2.2.1 (j + 1)))) (fun i q1 q2 q3 => by rw [am_wr_row _ q3, t3 i q1 q2]; exact h1 i q1 q2 q3) (fun k q => by rw [am_wr_col _ q, t3 308 (by omega) (by omega)]; exact h2 k q) (am_wr_self _ _ _ _) (fun i hi => by
          rw [am_wr_row (i' := 330) _ (by omega), am_wr_row (i' := 331) _ (by omega)]
          have := t2 i hi
          by_cases w : i = j
          · rw [w, upj_lt (by omega)]
            rw [w, pSt_s] at this
            exact this
          · rw [upj_ne w]
            rw [pSt_n w] at this
            exact this) jk
        refine ⟨s', ⟨jk', fun Q => ?_⟩, a2⟩
        rw [k_M_apply_6]
        simp only [k_M_apply_7, k_M_apply_9, k_M_apply_12, k_M_apply_13, k_M_apply_16, k_M_apply_17, k_M_apply_18, k_M_apply_21, k_M_apply_22, k_M_apply_25, k_M_apply_26, k_M_apply_27, k_M_apply_28, k_M_apply_31, k_M_apply_32, k_M_apply_33, k_M_apply_34, k_M_apply_35, k_M_apply_36, k_M_apply_37, k_M_apply_40, k_M_apply_41, k_M_apply_42, k_M_apply_43, k_M_apply_46, k_M_apply_47, k_M_apply_48, k_M_apply_51, k_M_apply_52, k_M_apply_52i, k_M_apply_53, k_M_apply_56, k_M_apply_57, k_M_apply_58, k_M_apply_61, k_M_apply_64, g_M0, g_M1, g_M2, g_M3, g_M4, g_M5, g_M6, g_M7, g_M8, g_M9, g_M10, g_M11, g_M12, g_M13, g_M14, g_M15, g_M16, g_M17, g_M18, g_M19, g_M20, g_M21, g_M22, g_M23, g_M24, g_M25, g_M26, g_M27, g_M28, g_M29, g_M30, g_M31, g_M32, g_M33, g, lm, z, lc, hb, rc_M, t1, e16, ea, p_M16, nI_1, am_ob_s, List.tail_cons, List.tail_nil, Option.toList_some, Option.toList_none, List.nil_append, List.cons_append, List.length_nil, List.length_cons, Nat.zero_le, true_and, and_true, true_implies, false_implies, not_true_eq_false, not_false_eq_true, implies_true, or_true, true_or, Nat.reduceAdd, Nat.reduceLeDiff]
        exact a1 Q
      · refine skip (fun q => hb ((tbit_1 _ _).mpr q)) (fun Q => ?_)
        rw [k_M_apply_6]
        simp only [k_M_apply_7, k_M_apply_9, k_M_apply_12, k_M_apply_13, k_M_apply_16, k_M_apply_17, k_M_apply_18, k_M_apply_21, k_M_apply_22, k_M_apply_25, k_M_apply_26, k_M_apply_27, k_M_apply_28, k_M_apply_31, k_M_apply_32, k_M_apply_33, k_M_apply_34, k_M_apply_35, k_M_apply_36, k_M_apply_37, k_M_apply_40, k_M_apply_41, k_M_apply_42, k_M_apply_43, k_M_apply_46, k_M_apply_47, k_M_apply_48, k_M_apply_51, k_M_apply_52, k_M_apply_52i, k_M_apply_53, k_M_apply_56, k_M_apply_57, k_M_apply_58, k_M_apply_61, k_M_apply_64, g_M0, g_M1, g_M2, g_M3, g_M4, g_M5, g_M6, g_M7, g_M8, g_M9, g_M10, g_M11, g_M12, g_M13, g_M14, g_M15, g_M16, g_M17, g_M18, g_M19, g_M20, g_M21, g_M22, g_M23, g_M24, g_M25, g_M26, g_M27, g_M28, g_M29, g_M30, g_M31, g_M32, g_M33, g, lm, z, lc, hb, nI_1, am_ob_s, List.tail_cons, List.tail_nil, Option.toList_some, Option.toList_none, List.nil_append, List.cons_append, List.length_nil, List.length_cons, Nat.zero_le, true_and, and_true, true_implies, false_implies, not_true_eq_false, not_false_eq_true, implies_true, or_true, true_or, Nat.reduceAdd, Nat.reduceLeDiff]
set_option maxHeartbeats 1000000 in
theorem e_M_apply {Z : pSg} (hZ : MdC s Z) (hc : cdM Z) (hw : 0 < Z.2.2.1) : ∃ s', (∀ Q : Option Value → am_H → Prop, am_C f_M_apply [.ref 308] (TP, s) Q ↔ Q none (TP, s')) ∧ MdC s' (pAp1 Z) ∧ off 308 335 s s' := by
  obtain ⟨c1, c2, c3, c4, c5, c6⟩ := hc
  obtain ⟨z1, z2, z3, z4, z5, z6, z7⟩ := hZ
  obtain ⟨D, P, w, ⟨FS, st, rs, cl, vl, ou, on⟩, ap, mv⟩ := Z
  dsimp only at *
  have g0 := (z4 0 (by omega)).1
  have g1 := (z4 1 (by omega)).1
  obtain ⟨s1, a1, a2, a3⟩ := e_M_collect z5 g0 (fun m hm => (c1.1 m hm).2.1) c2 c3 c4
  have r1 : ∀ i, 309 ≤ i → i ≤ 322 → s1 i = s i := fun i q1 q2 => a3 i (by omega) (by omega)
  have hu : upj (mvo (tkc cl (pLs (P 0) FS cl vl)) vl (P 0).1 (P 1).1 (P 1).2.2.1) vl 0 = vl := by
    funext i
    exact upj_ge (Nat.zero_le _)
  obtain ⟨s2, ⟨jk, b1⟩, b2, b3, b4, b5⟩ := m_move (s := s1) (cl := tkc cl (pLs (P 0) FS cl vl)) (vl := vl) (mv := mv) (MpC_rows g0 r1) (MpC_rows g1 r1) c5 (c6 hw) 16 0 (by omega) s1 (fun i _ _ _ => rfl) (fun k _ => rfl) (by rw [a3 308 (by omega) (by omega), z7]; simp [mvn, nI_0]) (by rw [hu]; exact a2.2.2.2.2.2.1) []
  rw [show nI (0 + 1) = 1 from rfl] at b1
  have r2 : ∀ i, 309 ≤ i → i ≤ 322 → s2 i = s i := fun i q1 q2 => (b2 i (by omega) (by omega) (by omega)).trans (r1 i q1 q2)
  have p2 : ∀ i, i ≤ w → MpC s2 i (P i) ∧ s2 322 i = (P i).2.2.2.2 := fun i hi => ⟨MpC_rows (z4 i hi).1 r2, by rw [r2 322 (by omega) (by omega)]; exact (z4 i hi).2⟩
  have d2 := MpC_rows z3 r2
  have cp1 := fun (s : am_S) (Q : Option Value → am_H → Prop) => e_M_copy0 (s := s) (Q := Q) (fr := 1) (to := 0) (by omega) (by omega) (by omega)
  have cp2 := fun (s : am_S) (Q : Option Value → am_H → Prop) => e_M_copy0 (s := s) (Q := Q) (fr := 2) (to := 1) (by omega) (by omega) (by omega)
  have cp3 := fun (s : am_S) (Q : Option Value → am_H → Prop) => e_M_copy0 (s := s) (Q := Q) (fr := 3) (to := 2) (by omega) (by omega) (by omega)
  rw [show nI 1 = 1 from rfl, show nI 0 = 0 from rfl] at cp1
  rw [show nI 2 = 2 from rfl, show nI 1 = 1 from rfl] at cp2
  rw [show nI 3 = 3 from rfl, show nI 2 = 2 from rfl] at cp3
  generalize es3 : cst s2 1 0 mw = s3
  have m3 : mPb 0 s2 s3 := by rw [← es3]; exact cst_mPb _ _ _
  have q30 : MpC s3 0 (P 1) ∧ s3 322 0 = (P 1).2.2.2.2 := by
    rw [← es3]
    have := MpC_cst 0 (p2 1 (by omega)).1
    exact ⟨this.1, this.2.trans (p2 1 (by omega)).2⟩
  have p3 : ∀ i, 1 ≤ i → i ≤ w → MpC s3 i (P i) ∧ s3 322 i = (P i).2.2.2.2 := fun i q hi => by
    have := MpC_other m3 (show i ≠ 0 by omega) (p2 i hi).1
    exact ⟨this.1, this.2.trans (p2 i hi).2⟩
  have d3 := (MpC_other m3 (show 4 ≠ 0 by omega) d2).1
  generalize es4 : cst s3 2 1 mw = s4
  have m4 : mPb 1 s3 s4 := by rw [← es4]; exact cst_mPb _ _ _
  have q40 : MpC s4 0 (P 1) ∧ s4 322 0 = (P 1).2.2.2.2 := by
    have := MpC_other m4 (show 0 ≠ 1 by omega) q30.1
    exact ⟨this.1, this.2.trans q30.2⟩
  have q41 : 2 ≤ w → MpC s4 1 (P 2) ∧ s4 322 1 = (P 2).2.2.2.2 := fun hw2 => by
    rw [← es4]
    have := MpC_cst 1 (p3 2 (by omega) hw2).1
    exact ⟨this.1, this.2.trans (p3 2 (by omega) hw2).2⟩
  have q43 : 3 ≤ w → MpC s4 3 (P 3) ∧ s4 322 3 = (P 3).2.2.2.2 := fun hw3 => by
    have := MpC_other m4 (show 3 ≠ 1 by omega) (p3 3 (by omega) hw3).1
    exact ⟨this.1, this.2.trans (p3 3 (by omega) hw3).2⟩
  have d4 := (MpC_other m4 (show 4 ≠ 1 by omega) d3).1
  generalize es5 : cst s4 3 2 mw = s5
  have m5 : mPb 2 s4 s5 := by rw [← es5]; exact cst_mPb _ _ _
  have q50 : MpC s5 0 (P 1) ∧ s5 322 0 = (P 1).2.2.2.2 := by
    have := MpC_other m5 (show 0 ≠ 2 by omega) q40.1
    exact ⟨this.1, this.2.trans q40.2⟩
  have q51 : 2 ≤ w → MpC s5 1 (P 2) ∧ s5 322 1 = (P 2).2.2.2.2 := fun hw2 => by
    have := MpC_other m5 (show 1 ≠ 2 by omega) (q41 hw2).1
    exact ⟨this.1, this.2.trans (q41 hw2).2⟩
  have q52 : 3 ≤ w → MpC s5 2 (P 3) ∧ s5 322 2 = (P 3).2.2.2.2 := fun hw3 => by
    rw [← es5]
    have := MpC_cst 2 (q43 hw3).1
    exact ⟨this.1, this.2.trans (q43 hw3).2⟩
  have d5 := (MpC_other m5 (show 4 ≠ 2 by omega) d4).1
  have o5 : ∀ i, i < 309 ∨ 323 ≤ i → s5 i = s2 i := fun i hi => ((mPb_off m5 i hi).trans (mPb_off m4 i hi)).trans (mPb_off m3 i hi)
  have e14 : s5 308 14 = nI w := by rw [o5 308 (by omega), b3 14 (by omega), a3 308 (by omega) (by omega)]; exact z1
  have e15 : s5 308 15 = ap := by rw [o5 308 (by omega), b3 15 (by omega), a3 308 (by omega) (by omega)]; exact z6
  have ew : nI w - 1 = nI (w - 1) := by
    have := nI_pred (w - 1)
    rw [Nat.sub_add_cancel hw] at this
    exact this
  generalize es6 : am_wr (am_wr s5 308 14 (nI (w - 1))) 308 15 (ap + 1) = s6
  have o6 : ∀ i, i ≠ 308 → s6 i = s5 i := fun i q => by rw [← es6, am_wr_row _ q, am_wr_row _ q]
  have o68 : ∀ k, k ≠ 14 → k ≠ 15 → s6 308 k = s5 308 k := fun k q1 q2 => by rw [← es6, am_wr_col _ q2, am_wr_col _ q1]
  have r6 : ∀ i, 309 ≤ i → i ≤ 322 → s6 i = s5 i := fun i q1 q2 => o6 i (by omega)
  refine ⟨s6, fun Q => ?_, ⟨?_, by show w - 1 ≤ 3; omega, MpC_rows d5 r6, fun i hi => ?_, ?_, ?_, ?_⟩, fun i hi => ?_⟩
  · have e15' : am_wr s5 308 14 (nI (w - 1)) 308 15 = ap := by rw [am_wr_col _ (by omega)]; exact e15
    rw [c_M_apply]
    simp only [k_M_apply_0, k_M_apply_1, k_M_apply_4, k_M_apply_5, rc_M, a1, am_ob_s, List.tail_cons, List.tail_nil, Option.toList_some, Option.toList_none, List.nil_append, List.cons_append, List.length_nil, List.length_cons, Nat.zero_le, true_and, and_true, true_implies, false_implies, not_true_eq_false, not_false_eq_true, implies_true, or_true, true_or, Nat.reduceAdd, Nat.reduceLeDiff]
    rw [b1]
    simp only [k_M_apply_67, k_M_apply_68, k_M_apply_69, k_M_apply_70, k_M_apply_73, k_M_apply_74, k_M_apply_75, k_M_apply_76, k_M_apply_79, k_M_apply_80, k_M_apply_81, k_M_apply_82, k_M_apply_85, k_M_apply_86, k_M_apply_86i, k_M_apply_87, k_M_apply_90, k_M_apply_91, k_M_apply_92, k_M_apply_95, k_M_apply_96, k_M_apply_96i, k_M_apply_97, k_M_apply_100, k_M_apply_101, k_M_apply_102, k_M_apply_105, rc_M, cp1, es3, cp2, es4, cp3, es5, g_M0, g_M1, g_M2, g_M3, g_M4, g_M5, g_M6, g_M7, g_M8, g_M9, g_M10, g_M11, g_M12, g_M13, g_M14, g_M15, g_M16, g_M17, g_M18, g_M19, g_M20, g_M21, g_M22, g_M23, g_M24, g_M25, g_M26, g_M27, g_M28, g_M29, g_M30, g_M31, g_M32, g_M33, e14, ew, p_M14, e15', p_M15, es6, am_ob_s, List.tail_cons, List.tail_nil, Option.toList_some, Option.toList_none, List.nil_append, List.cons_append, List.length_nil, List.length_cons, Nat.zero_le, true_and, and_true, true_implies, false_implies, not_true_eq_false, not_false_eq_true, implies_true, or_true, true_or, Nat.reduceAdd, Nat.reduceLeDiff]
  · rw [← es6, am_wr_col _ (by omega), am_wr_self]
    rfl
  · have hi' : i ≤ w - 1 := hi
    show MpC s6 i (P (i + 1)) ∧ s6 322 i = (P (i + 1)).2.2.2.2
    rw [o6 322 (by omega)]
    rcases (show i = 0 ∨ i = 1 ∨ i = 2 by omega) with rfl | rfl | rfl
    · exact ⟨MpC_rows q50.1 r6, q50.2⟩
    · exact ⟨MpC_rows (q51 (by omega)).1 r6, (q51 (by omega)).2⟩
    · exact ⟨MpC_rows (q52 (by omega)).1 r6, (q52 (by omega)).2⟩
  · refine MnC_mk a2 (fun i q1 q2 q3 q4 q5 q6 => ?_) (fun k q1 q2 => ?_) (fun i hi => ?_)
    · rw [o6 i (by omega), o5 i (by omega), b2 i q4 q6 (by omega)]
    · rw [o68 k (by omega) (by omega), o5 308 (by omega), b3 k (by omega)]
    · rw [o6 330 (by omega), o6 331 (by omega), o5 330 (by omega), o5 331 (by omega)]
      exact b5 i hi
  · rw [← es6, am_wr_self]
    rfl
  · rw [o68 16 (by omega) (by omega), o5 308 (by omega), b4]
    rfl
  · rw [o6 i (by omega), o5 i (by omega), b2 i (by omega) (by omega) (by omega), a3 i (by omega) (by omega)]
theorem pAp_stop {Z : pSg} (h : Z.2.2.1 = 0 ∨ pHas Z.2.2.2.1.1 (Z.2.1 1).2.2.2.2) : ∀ r, pAp r Z = Z
  | 0 => rfl
  | r + 1 => by rw [pAp, zif_t h]
theorem e_M_settle {I : pSg → Prop} (hI : ∀ Z, I Z → cdM Z) (hI2 : ∀ Z, I Z → 0 < Z.2.2.1 → ¬ pHas Z.2.2.2.1.1 (Z.2.1 1).2.2.2.2 → I (pAp1 Z)) {Z : pSg} (hZ : MdC s Z) (hIZ : I Z) : ∃ s', (∀ Q : Option Value → am_H → Prop, am_C f_M_settle [.ref 308] (TP, s) Q ↔ Q none (TP, s')) ∧ MdC s' (pAp 3 Z) ∧ off 308 335 s s' := by
  have loop : ∀ (r j : Nat), j + r = 3 → ∀ (s : am_S) (Z : pSg), MdC s Z → I Z → ∀ (jk : List Value), ∃ s', (∀ Q : Option Value → am_H → Prop, am_W m_M_settle 2 (.ref 308 :: .int (nI j) :: jk) [] (TP, s) Q ↔ Q none (TP, s')) ∧ MdC s' (pAp r Z) ∧ off 308 335 s s' := by
    intro r
    induction r with
    | zero =>
      intro j hj s Z hZ _ jk
      obtain rfl : j = 3 := by omega
      have h1 : (3 : Int32) ≤ nI 3 := by decide
      refine ⟨s, fun Q => ?_, hZ, off_rf _ _ _⟩
      rw [k_M_settle_2]
      simp only [k_M_settle_3, k_M_settle_4, k_M_settle_31, h1, am_ob_s, List.tail_cons, List.tail_nil, Option.toList_some, Option.toList_none, List.nil_append, List.cons_append, List.length_nil, List.length_cons, Nat.zero_le, true_and, and_true, true_implies, false_implies, not_true_eq_false, not_false_eq_true, implies_true, or_true, true_or, Nat.reduceAdd, Nat.reduceLeDiff]
    | succ r ih =>
      intro j hj s Z hZ hIZ jk
      have h1 : ¬ (3 : Int32) ≤ nI j := nI_ge (b := 3) (by omega) (by decide)
      have h3 := hZ.2.1
      by_cases hw : Z.2.2.1 = 0
      · obtain ⟨s', a1, a2, a3⟩ := ih (j + 1) (by omega) s Z hZ hIZ jk
        rw [pAp_stop (Or.inl hw)] at a2 ⊢
        refine ⟨s', fun Q => ?_, a2, a3⟩
        have z : nI Z.2.2.1 ≤ 0 := by rw [hw]; decide
        rw [k_M_settle_2]
        simp only [k_M_settle_3, k_M_settle_4, k_M_settle_7, k_M_settle_8, k_M_settle_11, k_M_settle_14, k_M_settle_15, k_M_settle_18, k_M_settle_21, k_M_settle_22, k_M_settle_25, k_M_settle_28, g_M0, g_M1, g_M2, g_M3, g_M4, g_M5, g_M6, g_M7, g_M8, g_M9, g_M10, g_M11, g_M12, g_M13, g_M14, g_M15, g_M16, g_M17, g_M18, g_M19, g_M20, g_M21, g_M22, g_M23, g_M24, g_M25, g_M26, g_M27, g_M28, g_M29, g_M30, g_M31, g_M32, g_M33, h1, hZ.1, z, nI_1, am_ob_s, List.tail_cons, List.tail_nil, Option.toList_some, Option.toList_none, List.nil_append, List.cons_append, List.length_nil, List.length_cons, Nat.zero_le, true_and, and_true, true_implies, false_implies, not_true_eq_false, not_false_eq_true, implies_true, or_true, true_or, Nat.reduceAdd, Nat.reduceLeDiff]
        exact a1 Q
      · have z : ¬ nI Z.2.2.1 ≤ 0 := nI_nle (by omega) (by omega)
        have fr := fun (Q : Option Value → am_H → Prop) => e_M_free (Q := Q) hZ.2.2.2.2.1 (hZ.2.2.2.1 1 (by omega)).2
        by_cases hh : pHas Z.2.2.2.1.1 (Z.2.1 1).2.2.2.2
        · obtain ⟨s', a1, a2, a3⟩ := ih (j + 1) (by omega) s Z hZ hIZ jk
          rw [pAp_stop (Or.inr hh)] at a2 ⊢
          refine ⟨s', fun Q => ?_, a2, a3⟩
          have zh : zb (¬ pHas Z.2.2.2.1.1 (Z.2.1 1).2.2.2.2) = 0 := zb_f (fun q => q hh)
          rw [k_M_settle_2]
          simp only [k_M_settle_3, k_M_settle_4, k_M_settle_7, k_M_settle_8, k_M_settle_11, k_M_settle_14, k_M_settle_15, k_M_settle_18, k_M_settle_21, k_M_settle_22, k_M_settle_25, k_M_settle_28, g_M0, g_M1, g_M2, g_M3, g_M4, g_M5, g_M6, g_M7, g_M8, g_M9, g_M10, g_M11, g_M12, g_M13, g_M14, g_M15, g_M16, g_M17, g_M18, g_M19, g_M20, g_M21, g_M22, g_M23, g_M24, g_M25, g_M26, g_M27, g_M28, g_M29, g_M30, g_M31, g_M32, g_M33, h1, hZ.1, z, rc_M, fr, zh, nI_1, am_ob_s, List.tail_cons, List.tail_nil, Option.toList_some, Option.toList_none, List.nil_append, List.cons_append, List.length_nil, List.length_cons, Nat.zero_le, true_and, and_true, true_implies, false_implies, not_true_eq_false, not_false_eq_true, implies_true, or_true, true_or, Nat.reduceAdd, Nat.reduceLeDiff]
          exact a1 Q
        · obtain ⟨s1, b1, b2, b3⟩ := e_M_apply hZ (hI Z hIZ) (by omega)
          obtain ⟨s', a1, a2, a3⟩ := ih (j + 1) (by omega) s1 _ b2 (hI2 Z hIZ (by omega) hh) jk
          refine ⟨s', fun Q => ?_, by rw [pAp, zif_f (fun q => q.elim hw hh)]; exact a2, off_tr b3 a3⟩
          rw [k_M_settle_2]
          simp only [k_M_settle_3, k_M_settle_4, k_M_settle_7, k_M_settle_8, k_M_settle_11, k_M_settle_14, k_M_settle_15, k_M_settle_18, k_M_settle_21, k_M_settle_22, k_M_settle_25, k_M_settle_28, g_M0, g_M1, g_M2, g_M3, g_M4, g_M5, g_M6, g_M7, g_M8, g_M9, g_M10, g_M11, g_M12, g_M13, g_M14, g_M15, g_M16, g_M17, g_M18, g_M19, g_M20, g_M21, g_M22, g_M23, g_M24, g_M25, g_M26, g_M27, g_M28, g_M29, g_M30, g_M31, g_M32, g_M33, h1, hZ.1, z, rc_M, fr, zb_t hh, hz10, b1, nI_1, am_ob_s, List.tail_cons, List.tail_nil, Option.toList_some, Option.toList_none, List.nil_append, List.cons_append, List.length_nil, List.length_cons, Nat.zero_le, true_and, and_true, true_implies, false_implies, not_true_eq_false, not_false_eq_true, implies_true, or_true, true_or, Nat.reduceAdd, Nat.reduceLeDiff]
          exact a1 Q
  obtain ⟨s', c1, c2, c3⟩ := loop 3 0 (by omega) s Z hZ hIZ []
  rw [nI_0] at c1
  refine ⟨s', fun Q => ?_, c2, c3⟩
  rw [c_M_settle]
  simp only [k_M_settle_0, k_M_settle_1, am_ob_s, List.tail_cons, List.tail_nil, Option.toList_some, Option.toList_none, List.nil_append, List.cons_append, List.length_nil, List.length_cons, Nat.zero_le, true_and, and_true, true_implies, false_implies, not_true_eq_false, not_false_eq_true, implies_true, or_true, true_or, Nat.reduceAdd, Nat.reduceLeDiff]
  exact c1 Q
end SM20
