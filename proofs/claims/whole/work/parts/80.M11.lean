/-! The reference: code -/
section SM11
variable {s : am_S} {Z : pSg} {Q : Option Value → am_H → Prop}
/-- only one method of a program may differ -/
def mRb (a : Nat) (s s' : am_S) : Prop := ∀ i k, ¬ ((i = 313 ∨ i = 314 ∨ i = 315 ∨ i = 316) ∧ k = a) → ¬ ((i = 317 ∨ i = 318 ∨ i = 319) ∧ 14 * a ≤ k ∧ k < 14 * a + 14) → s' i k = s i k
theorem mRb_mPb {b m : Nat} {s s' : am_S} (hm : m < 6) (h : mRb (6 * b + m) s s') : mPb b s s' := fun i k q => h i k (fun q2 => q (by
  obtain ⟨q3, rfl⟩ := q2
  have : mw i = 6 := by rcases q3 with rfl | rfl | rfl | rfl <;> rfl
  rw [this]
  omega)) (fun q2 => q (by
  obtain ⟨q3, q4⟩ := q2
  have : mw i = 84 := by rcases q3 with rfl | rfl | rfl <;> rfl
  rw [this]
  omega))
theorem MpC_ro {b m : Nat} {s s' : am_S} {G : pPg} {R : pRo} (hG : MpC s b G) (hm : m < 6) (h : mRb (6 * b + m) s s') (hR : MrC s' (6 * b + m) R) : MpC s' b (G.1, pSt G.2.1 m R, G.2.2) := by
  obtain ⟨h1, h2, h3, h4⟩ := hG
  have e : ∀ i, i < 313 ∨ 319 < i → s' i = s i := fun i q => by
    funext k
    exact h i k (by omega) (by omega)
  refine ⟨fun d d1 d3 => ?_, fun m' hm' => ?_, by rw [e 320 (by omega)]; exact h3, by rw [e 321 (by omega)]; exact h4⟩
  · have g := h1 d d1 d3
    unfold MlC at g ⊢
    rw [e 309 (by omega), e 310 (by omega), e 311 (by omega), e 312 (by omega)]
    exact g
  · dsimp only
    by_cases q : m' = m
    · rw [q, pSt_s]; exact hR
    · rw [pSt_n q]
      obtain ⟨g1, g2, g3, g4, g5, g6⟩ := h2 m' hm'
      refine ⟨by rw [h 313 _ (by omega) (by omega)]; exact g1, by rw [h 314 _ (by omega) (by omega)]; exact g2, by rw [h 315 _ (by omega) (by omega)]; exact g3, by rw [h 316 _ (by omega) (by omega)]; exact g4, g5, fun k e hk => ?_⟩
      have := (List.getElem?_eq_some_iff.mp hk).1
      rw [h 317 _ (by omega) (by omega), h 318 _ (by omega) (by omega), h 319 _ (by omega) (by omega)]
      exact g6 k e hk
theorem MrC_add {a : Nat} {R : pRo} (h : MrC s a R) (h4 : R.2.2.2.length < 14) (o : Nat) (x : Int32) (y : Nat) : MrC (am_wr (am_wr (am_wr (am_wr s 317 (14 * a + R.2.2.2.length) (nI o)) 318 (14 * a + R.2.2.2.length) x) 319 (14 * a + R.2.2.2.length) (nI y)) 316 a (nI (R.2.2.2.length + 1))) a (R.1, R.2.1, R.2.2.1, R.2.2.2 ++ [(o, x, y)]) := by
  obtain ⟨h1, h2, h3, h5, h6, h7⟩ := h
  have w : ∀ i, i < 316 → am_wr (am_wr (am_wr (am_wr s 317 (14 * a + R.2.2.2.length) (nI o)) 318 (14 * a + R.2.2.2.length) x) 319 (14 * a + R.2.2.2.length) (nI y)) 316 a (nI (R.2.2.2.length + 1)) i = s i := fun i hi => by
    rw [am_wr_row _ (by omega), am_wr_row _ (by omega), am_wr_row _ (by omega), am_wr_row _ (by omega)]
  refine ⟨by rw [w 313 (by omega)]; exact h1, by rw [w 314 (by omega)]; exact h2, by rw [w 315 (by omega)]; exact h3, by rw [am_wr_self, List.length_append, List.length_singleton], by rw [List.length_append, List.length_singleton]; omega, fun k e hk => ?_⟩
  rcases app_at hk with ⟨q1, q2⟩ | ⟨rfl, rfl⟩
  · have z := h7 k e q2
    have hk' : k ≠ R.2.2.2.length := by omega
    simp only [am_wr_at]
    simp [hk', z]
  · simp [am_wr_at]
theorem mRb_add {a : Nat} {l : Nat} (h4 : l < 14) (o x y v : Int32) : mRb a s (am_wr (am_wr (am_wr (am_wr s 317 (14 * a + l) o) 318 (14 * a + l) x) 319 (14 * a + l) y) 316 a v) := fun i k q1 q2 => by
  rw [am_wr_at, if_neg (by omega), am_wr_at, if_neg (by omega), am_wr_at, if_neg (by omega), am_wr_at, if_neg (by omega)]
set_option maxHeartbeats 1000000 in
theorem e_M_code (hZ : MdC s Z) (m o x y : Int32) : mS f_M_code [.ref 308, .int m, .int o, .int x, .int y] s (pCode Z m o x y) := by
  have no : ¬ okCode Z m o x y → (∀ Q : Option Value → am_H → Prop, am_C f_M_code [.ref 308, .int m, .int o, .int x, .int y] (TP, s) Q ↔ Q (some (.int 0)) (TP, s)) → mS f_M_code [.ref 308, .int m, .int o, .int x, .int y] s (pCode Z m o x y) := fun q1 q2 => by
    unfold pCode
    rw [zif_f q1]
    exact ⟨s, q2, hZ, off_rf _ _ _⟩
  have hD := hZ.2.2.1
  have l4 := l_M_methods (s := s) (j := 4) (by omega)
  rw [show nI 4 = 4 from rfl, hD.2.2.2] at l4
  have zm : zb (¬ m < 0 ∧ ¬ 5 < m) = zb (isM m) := zb_e (in_isM m)
  rcases (Classical.em (isM m)).symm with h1 | h1
  · exact no (fun q => h1 q.1.1) (fun Q => by
      rw [c_M_code]
      simp only [k_M_code_0, k_M_code_1, k_M_code_2, k_M_code_3, k_M_code_6, k_M_code_9, k_M_code_10, k_M_code_13, k_M_code_14, k_M_code_15, k_M_code_16, k_M_code_17, k_M_code_18, k_M_code_19, k_M_code_22, k_M_code_23, k_M_code_26, k_M_code_28, k_M_code_29, k_M_code_30, k_M_code_31, k_M_code_33, k_M_code_36, k_M_code_37, k_M_code_38, k_M_code_40, k_M_code_43, k_M_code_46, k_M_code_47, k_M_code_48, k_M_code_50, k_M_code_53, k_M_code_56, k_M_code_57, rc_n, e_M_in, zm, zb_f h1, am_ob_s, List.tail_cons, List.tail_nil, Option.toList_some, Option.toList_none, List.nil_append, List.cons_append, List.length_nil, List.length_cons, Nat.zero_le, true_and, and_true, true_implies, false_implies, not_true_eq_false, not_false_eq_true, implies_true, or_true, true_or, Nat.reduceAdd, Nat.reduceLeDiff])
  rcases (Classical.em (tbit Z.1.2.2.2.1 m = true)).symm with h2 | h2
  · have h2' : (Z.1.2.2.2.1 >>> (m &&& 31)) &&& 1 = 0 := by simpa [tbit] using h2
    exact no (fun q => h2 q.1.2.1) (fun Q => by
      rw [c_M_code]
      simp only [k_M_code_0, k_M_code_1, k_M_code_2, k_M_code_3, k_M_code_6, k_M_code_9, k_M_code_10, k_M_code_13, k_M_code_14, k_M_code_15, k_M_code_16, k_M_code_17, k_M_code_18, k_M_code_19, k_M_code_22, k_M_code_23, k_M_code_26, k_M_code_28, k_M_code_29, k_M_code_30, k_M_code_31, k_M_code_33, k_M_code_36, k_M_code_37, k_M_code_38, k_M_code_40, k_M_code_43, k_M_code_46, k_M_code_47, k_M_code_48, k_M_code_50, k_M_code_53, k_M_code_56, k_M_code_57, rc_n, e_M_in, zm, zb_t h1, hz10, g_M0, g_M1, g_M2, g_M3, g_M4, g_M5, g_M6, g_M7, g_M8, g_M9, g_M10, g_M11, g_M12, g_M13, g_M14, g_M15, g_M16, g_M17, g_M18, g_M19, g_M20, g_M21, g_M22, g_M23, g_M24, g_M25, g_M26, g_M27, g_M28, g_M29, g_M30, g_M31, g_M32, g_M33, l4, h2', am_ob_s, List.tail_cons, List.tail_nil, Option.toList_some, Option.toList_none, List.nil_append, List.cons_append, List.length_nil, List.length_cons, Nat.zero_le, true_and, and_true, true_implies, false_implies, not_true_eq_false, not_false_eq_true, implies_true, or_true, true_or, Nat.reduceAdd, Nat.reduceLeDiff])
  have h2' : ¬ (Z.1.2.2.2.1 >>> (m &&& 31)) &&& 1 = 0 := by simpa [tbit] using h2
  obtain ⟨em, hm⟩ := isM_n h1
  have hR := hD.2.1 (cN m) hm
  have hR14 := hR.2.2.2.2.1
  have i24 := ix24 (cN m) hm
  rw [← em] at i24
  have ha : 6 * 4 + cN m < 30 := by omega
  have ll := l_M_length (s := s) ha
  rw [hR.2.2.2.1] at ll
  rcases (Classical.em ((Z.1.2.1 (cN m)).2.2.2.length < 14)).symm with h3 | h3
  · have h3' : nI (Z.1.2.1 (cN m)).2.2.2.length = 14 := by rw [show (Z.1.2.1 (cN m)).2.2.2.length = 14 by omega]; rfl
    exact no (fun q => h3 q.1.2.2) (fun Q => by
      rw [c_M_code]
      simp only [k_M_code_0, k_M_code_1, k_M_code_2, k_M_code_3, k_M_code_6, k_M_code_9, k_M_code_10, k_M_code_13, k_M_code_14, k_M_code_15, k_M_code_16, k_M_code_17, k_M_code_18, k_M_code_19, k_M_code_22, k_M_code_23, k_M_code_26, k_M_code_28, k_M_code_29, k_M_code_30, k_M_code_31, k_M_code_33, k_M_code_36, k_M_code_37, k_M_code_38, k_M_code_40, k_M_code_43, k_M_code_46, k_M_code_47, k_M_code_48, k_M_code_50, k_M_code_53, k_M_code_56, k_M_code_57, rc_n, e_M_in, zm, zb_t h1, hz10, g_M0, g_M1, g_M2, g_M3, g_M4, g_M5, g_M6, g_M7, g_M8, g_M9, g_M10, g_M11, g_M12, g_M13, g_M14, g_M15, g_M16, g_M17, g_M18, g_M19, g_M20, g_M21, g_M22, g_M23, g_M24, g_M25, g_M26, g_M27, g_M28, g_M29, g_M30, g_M31, g_M32, g_M33, l4, h2', i24, ll, h3', am_ob_s, List.tail_cons, List.tail_nil, Option.toList_some, Option.toList_none, List.nil_append, List.cons_append, List.length_nil, List.length_cons, Nat.zero_le, true_and, and_true, true_implies, false_implies, not_true_eq_false, not_false_eq_true, implies_true, or_true, true_or, Nat.reduceAdd, Nat.reduceLeDiff])
  have h3' : ¬ nI (Z.1.2.1 (cN m)).2.2.2.length = 14 := fun q => by
    have := (nI_eq (b := 14) (by omega) (by omega)).mp q
    omega
  rcases (Classical.em (¬ o < 0 ∧ ¬ 16 < o)).symm with h4 | h4
  · exact no (fun q => h4 ⟨q.2.1, q.2.2.1⟩) (fun Q => by
      rw [c_M_code]
      simp only [k_M_code_0, k_M_code_1, k_M_code_2, k_M_code_3, k_M_code_6, k_M_code_9, k_M_code_10, k_M_code_13, k_M_code_14, k_M_code_15, k_M_code_16, k_M_code_17, k_M_code_18, k_M_code_19, k_M_code_22, k_M_code_23, k_M_code_26, k_M_code_28, k_M_code_29, k_M_code_30, k_M_code_31, k_M_code_33, k_M_code_36, k_M_code_37, k_M_code_38, k_M_code_40, k_M_code_43, k_M_code_46, k_M_code_47, k_M_code_48, k_M_code_50, k_M_code_53, k_M_code_56, k_M_code_57, rc_n, e_M_in, zm, zb_t h1, hz10, g_M0, g_M1, g_M2, g_M3, g_M4, g_M5, g_M6, g_M7, g_M8, g_M9, g_M10, g_M11, g_M12, g_M13, g_M14, g_M15, g_M16, g_M17, g_M18, g_M19, g_M20, g_M21, g_M22, g_M23, g_M24, g_M25, g_M26, g_M27, g_M28, g_M29, g_M30, g_M31, g_M32, g_M33, l4, h2', i24, ll, h3', zb_f h4, am_ob_s, List.tail_cons, List.tail_nil, Option.toList_some, Option.toList_none, List.nil_append, List.cons_append, List.length_nil, List.length_cons, Nat.zero_le, true_and, and_true, true_implies, false_implies, not_true_eq_false, not_false_eq_true, implies_true, or_true, true_or, Nat.reduceAdd, Nat.reduceLeDiff])
  obtain ⟨o', ho', rfl⟩ := nI_of2 (M := 16) (n := 16) (by decide) h4.1 (Int32.not_lt.mp h4.2)
  have co : cN (nI o') = o' := cN_nI (by omega)
  rcases (Classical.em (okX o' x ∧ okY o' y)).symm with h6 | h6
  · exact no (fun q => h6 ⟨co ▸ q.2.2.2.1, co ▸ q.2.2.2.2⟩) (fun Q => by
      rw [c_M_code]
      simp only [k_M_code_0, k_M_code_1, k_M_code_2, k_M_code_3, k_M_code_6, k_M_code_9, k_M_code_10, k_M_code_13, k_M_code_14, k_M_code_15, k_M_code_16, k_M_code_17, k_M_code_18, k_M_code_19, k_M_code_22, k_M_code_23, k_M_code_26, k_M_code_28, k_M_code_29, k_M_code_30, k_M_code_31, k_M_code_33, k_M_code_36, k_M_code_37, k_M_code_38, k_M_code_40, k_M_code_43, k_M_code_46, k_M_code_47, k_M_code_48, k_M_code_50, k_M_code_53, k_M_code_56, k_M_code_57, rc_n, e_M_in, zm, zb_t h1, hz10, g_M0, g_M1, g_M2, g_M3, g_M4, g_M5, g_M6, g_M7, g_M8, g_M9, g_M10, g_M11, g_M12, g_M13, g_M14, g_M15, g_M16, g_M17, g_M18, g_M19, g_M20, g_M21, g_M22, g_M23, g_M24, g_M25, g_M26, g_M27, g_M28, g_M29, g_M30, g_M31, g_M32, g_M33, l4, h2', i24, ll, h3', zb_t h4, e_M_named ho', zb_f h6, am_ob_s, List.tail_cons, List.tail_nil, Option.toList_some, Option.toList_none, List.nil_append, List.cons_append, List.length_nil, List.length_cons, Nat.zero_le, true_and, and_true, true_implies, false_implies, not_true_eq_false, not_false_eq_true, implies_true, or_true, true_or, Nat.reduceAdd, Nat.reduceLeDiff])
  obtain ⟨ey, hy⟩ := okY_n h6.2
  unfold pCode
  rw [zif_t ⟨⟨h1, h2, h3⟩, h4.1, h4.2, by rw [co]; exact h6.1, by rw [co]; exact h6.2⟩, co]
  have d0 := MrC_add hR h3 o' x (cN y)
  rw [← ey] at d0
  have ml := mRb_add (s := s) (a := 6 * 4 + cN m) h3 (nI o') x y (nI ((Z.1.2.1 (cN m)).2.2.2.length + 1))
  have h420 : 14 * (6 * 4 + cN m) + (Z.1.2.1 (cN m)).2.2.2.length < 420 := by omega
  have i14 := ix14 (6 * 4 + cN m) ha (Z.1.2.1 (cN m)).2.2.2.length h3
  have mp := mRb_mPb hm ml
  refine ⟨_, fun Q => ?_, MdC_draft hZ mp (MpC_ro hD hm ml d0), off_up (mPb_off mp) (by omega) (by omega)⟩
  generalize ej : 14 * (6 * 4 + cN m) + (Z.1.2.1 (cN m)).2.2.2.length = j at *
  have lf3 : am_wr (am_wr (am_wr s 317 j (nI o')) 318 j x) 319 j y 316 (6 * 4 + cN m) = nI (Z.1.2.1 (cN m)).2.2.2.length := by
    rw [am_wr_row _ (by omega), am_wr_row _ (by omega), am_wr_row _ (by omega)]; exact hR.2.2.2.1
  rw [c_M_code]
  simp only [k_M_code_0, k_M_code_1, k_M_code_2, k_M_code_3, k_M_code_6, k_M_code_9, k_M_code_10, k_M_code_13, k_M_code_14, k_M_code_15, k_M_code_16, k_M_code_17, k_M_code_18, k_M_code_19, k_M_code_22, k_M_code_23, k_M_code_26, k_M_code_28, k_M_code_29, k_M_code_30, k_M_code_31, k_M_code_33, k_M_code_36, k_M_code_37, k_M_code_38, k_M_code_40, k_M_code_43, k_M_code_46, k_M_code_47, k_M_code_48, k_M_code_50, k_M_code_53, k_M_code_56, k_M_code_57, k_M_code_58, k_M_code_60, k_M_code_62, k_M_code_63, k_M_code_64, k_M_code_65, k_M_code_66, k_M_code_69, k_M_code_71, k_M_code_72, k_M_code_73, k_M_code_74, k_M_code_75, k_M_code_77, k_M_code_78, k_M_code_81, k_M_code_83, k_M_code_84, k_M_code_85, k_M_code_86, k_M_code_89, k_M_code_91, k_M_code_92, k_M_code_93, k_M_code_94, k_M_code_97, k_M_code_99, k_M_code_101, k_M_code_102, k_M_code_103, k_M_code_106, k_M_code_108, k_M_code_109, k_M_code_110, k_M_code_111, k_M_code_112, k_M_code_113, k_M_code_114, k_M_code_115, k_M_code_116, rc_n, e_M_in, zm, zb_t h1, hz10, g_M0, g_M1, g_M2, g_M3, g_M4, g_M5, g_M6, g_M7, g_M8, g_M9, g_M10, g_M11, g_M12, g_M13, g_M14, g_M15, g_M16, g_M17, g_M18, g_M19, g_M20, g_M21, g_M22, g_M23, g_M24, g_M25, g_M26, g_M27, g_M28, g_M29, g_M30, g_M31, g_M32, g_M33, l4, h2', i24, ll, h3', zb_t h4, e_M_named ho', zb_t h6, i14, w_M_op h420, w_M_x h420, w_M_y h420, l_M_length ha, lf3, w_M_length ha, nI_1, am_ob_s, List.tail_cons, List.tail_nil, Option.toList_some, Option.toList_none, List.nil_append, List.cons_append, List.length_nil, List.length_cons, Nat.zero_le, true_and, and_true, true_implies, false_implies, not_true_eq_false, not_false_eq_true, implies_true, or_true, true_or, Nat.reduceAdd, Nat.reduceLeDiff]
end SM11
