/-! The reference: head, code, field -/
section SM3
variable {s : am_S} {Z : pSg} {h : am_H} {Q : Option Value → am_H → Prop}
theorem e_M_head (hZ : MdC s Z) (m n K g : Int32) : mS f_M_head [.ref 308, .int m, .int n, .int K, .int g] s (pHead Z m n K g) := by
  have no : ¬ okHead m n K g → (∀ Q : Option Value → am_H → Prop, am_C f_M_head [.ref 308, .int m, .int n, .int K, .int g] (TP, s) Q ↔ Q (some (.int 0)) (TP, s)) → mS f_M_head [.ref 308, .int m, .int n, .int K, .int g] s (pHead Z m n K g) := fun q1 q2 => by
    unfold pHead
    rw [zif_f q1]
    exact ⟨s, q2, hZ, off_rf _ _ _⟩
  have zm : zb (¬ m < 0 ∧ ¬ 5 < m) = zb (isM m) := zb_e (in_isM m)
  have zg : zb (¬ g < 0 ∧ ¬ 3 < g) = zb (isT g) := zb_e (in_isT g)
  rcases (Classical.em (isM m)).symm with h1 | h1
  · exact no (fun q => h1 q.1.1) (fun Q => by
      rw [c_M_head]
      simp only [k_M_head_0, k_M_head_1, k_M_head_2, k_M_head_3, k_M_head_6, k_M_head_9, k_M_head_10, k_M_head_11, k_M_head_12, k_M_head_15, k_M_head_18, k_M_head_19, k_M_head_20, k_M_head_23, k_M_head_26, k_M_head_29, k_M_head_31, k_M_head_32, k_M_head_33, k_M_head_36, k_M_head_39, k_M_head_40, rc_n, e_M_in, zm, zb_f h1, am_ob_s, List.tail_cons, List.tail_nil, Option.toList_some, Option.toList_none, List.nil_append, List.cons_append, List.length_nil, List.length_cons, Nat.zero_le, true_and, and_true, true_implies, false_implies, not_true_eq_false, not_false_eq_true, implies_true, or_true, true_or, Nat.reduceAdd, Nat.reduceLeDiff])
  rcases (Classical.em (¬ n < 0 ∧ ¬ 3 < n)).symm with h2 | h2
  · exact no (fun q => h2 q.2.1) (fun Q => by
      rw [c_M_head]
      simp only [k_M_head_0, k_M_head_1, k_M_head_2, k_M_head_3, k_M_head_6, k_M_head_9, k_M_head_10, k_M_head_11, k_M_head_12, k_M_head_15, k_M_head_18, k_M_head_19, k_M_head_20, k_M_head_23, k_M_head_26, k_M_head_29, k_M_head_31, k_M_head_32, k_M_head_33, k_M_head_36, k_M_head_39, k_M_head_40, rc_n, e_M_in, zm, zb_t h1, hz10, zb_f h2, am_ob_s, List.tail_cons, List.tail_nil, Option.toList_some, Option.toList_none, List.nil_append, List.cons_append, List.length_nil, List.length_cons, Nat.zero_le, true_and, and_true, true_implies, false_implies, not_true_eq_false, not_false_eq_true, implies_true, or_true, true_or, Nat.reduceAdd, Nat.reduceLeDiff])
  rcases (Classical.em (¬ K < 0 ∧ ¬ 255 < K)).symm with h3 | h3
  · exact no (fun q => h3 ⟨q.2.2.1, Int32.not_lt.mpr q.2.2.2⟩) (fun Q => by
      rw [c_M_head]
      simp only [k_M_head_0, k_M_head_1, k_M_head_2, k_M_head_3, k_M_head_6, k_M_head_9, k_M_head_10, k_M_head_11, k_M_head_12, k_M_head_15, k_M_head_18, k_M_head_19, k_M_head_20, k_M_head_23, k_M_head_26, k_M_head_29, k_M_head_31, k_M_head_32, k_M_head_33, k_M_head_36, k_M_head_39, k_M_head_40, rc_n, e_M_in, zm, zb_t h1, hz10, zb_t h2, zb_f h3, am_ob_s, List.tail_cons, List.tail_nil, Option.toList_some, Option.toList_none, List.nil_append, List.cons_append, List.length_nil, List.length_cons, Nat.zero_le, true_and, and_true, true_implies, false_implies, not_true_eq_false, not_false_eq_true, implies_true, or_true, true_or, Nat.reduceAdd, Nat.reduceLeDiff])
  rcases (Classical.em (isT g)).symm with h4 | h4
  · exact no (fun q => h4 q.1.2) (fun Q => by
      rw [c_M_head]
      simp only [k_M_head_0, k_M_head_1, k_M_head_2, k_M_head_3, k_M_head_6, k_M_head_9, k_M_head_10, k_M_head_11, k_M_head_12, k_M_head_15, k_M_head_18, k_M_head_19, k_M_head_20, k_M_head_23, k_M_head_26, k_M_head_29, k_M_head_31, k_M_head_32, k_M_head_33, k_M_head_36, k_M_head_39, k_M_head_40, rc_n, e_M_in, zm, zb_t h1, hz10, zb_t h2, zb_t h3, zg, zb_f h4, am_ob_s, List.tail_cons, List.tail_nil, Option.toList_some, Option.toList_none, List.nil_append, List.cons_append, List.length_nil, List.length_cons, Nat.zero_le, true_and, and_true, true_implies, false_implies, not_true_eq_false, not_false_eq_true, implies_true, or_true, true_or, Nat.reduceAdd, Nat.reduceLeDiff])
  obtain ⟨em, hm⟩ := isM_n h1
  obtain ⟨eg, hg⟩ := isT_n h4
  obtain ⟨n', hn', rfl⟩ := nI_of2 (M := 3) (n := 3) (by decide) h2.1 (Int32.not_lt.mp h2.2)
  obtain ⟨K', hK', rfl⟩ := nI_of2 (M := 255) (n := 255) (by decide) h3.1 (Int32.not_lt.mp h3.2)
  unfold pHead
  rw [zif_t ⟨⟨h1, h4⟩, h2, h3.1, Int32.not_lt.mp h3.2⟩, cN_nI (by omega), cN_nI (by omega)]
  obtain ⟨d1, d2, d3, d4⟩ := hZ.2.2.1
  have i24 := ix24 (cN m) hm
  rw [← em] at i24
  have ha : 6 * 4 + cN m < 30 := by omega
  have l4 := fun (s : am_S) => l_M_methods (s := s) (j := 4) (by omega)
  have w4 := fun (s : am_S) (v : Int32) => w_M_methods (s := s) (v := v) (j := 4) (by omega)
  rw [show nI 4 = 4 from rfl] at l4 w4
  generalize ea : 6 * 4 + cN m = a at i24 ha
  generalize es1 : am_wr (am_wr (am_wr (am_wr s 313 a (nI n')) 314 a (nI K')) 315 a g) 316 a 0 = s1
  have r1 : s1 321 4 = Z.1.2.2.2.1 := by rw [← es1, am_wr_row _ (by omega), am_wr_row _ (by omega), am_wr_row _ (by omega), am_wr_row _ (by omega)]; exact d4
  have b6 : 6 * 4 ≤ a ∧ a < 6 * 4 + 6 := by omega
  have m1 : mPb 4 s s1 := by
    rw [← es1]
    exact mPb_tr (mPb_tr (mPb_tr (mPb_wr s (i := 313) b6) (mPb_wr _ (i := 314) b6)) (mPb_wr _ (i := 315) b6)) (mPb_wr _ (i := 316) b6)
  have m2 : mPb 4 s1 (am_wr s1 321 4 (Z.1.2.2.2.1 ||| ((1 : Int32) <<< (m &&& 31)))) := mPb_wr _ (show 1 * 4 ≤ 4 ∧ 4 < 1 * 4 + 1 by omega)
  have o1 : ∀ i, i ≠ 313 → i ≠ 314 → i ≠ 315 → i ≠ 316 → i ≠ 321 → am_wr s1 321 4 (Z.1.2.2.2.1 ||| ((1 : Int32) <<< (m &&& 31))) i = s i := fun i q1 q2 q3 q4 q5 => by
    rw [am_wr_row _ q5, ← es1, am_wr_row _ q4, am_wr_row _ q3, am_wr_row _ q2, am_wr_row _ q1]
  have e313 : am_wr s1 321 4 (Z.1.2.2.2.1 ||| ((1 : Int32) <<< (m &&& 31))) 313 = am_wr s 313 a (nI n') 313 := by
    rw [am_wr_row _ (by omega), ← es1, am_wr_row _ (by omega), am_wr_row _ (by omega), am_wr_row _ (by omega)]
  have e314 : am_wr s1 321 4 (Z.1.2.2.2.1 ||| ((1 : Int32) <<< (m &&& 31))) 314 = am_wr s 314 a (nI K') 314 := by
    rw [am_wr_row _ (by omega), ← es1, am_wr_row _ (by omega), am_wr_row _ (by omega), am_wr_upd, am_wr_row _ (by omega), am_wr_upd]
  have e315 : am_wr s1 321 4 (Z.1.2.2.2.1 ||| ((1 : Int32) <<< (m &&& 31))) 315 = am_wr s 315 a g 315 := by
    rw [am_wr_row _ (by omega), ← es1, am_wr_row _ (by omega), am_wr_upd, am_wr_row _ (by omega), am_wr_row _ (by omega), am_wr_upd]
  have e316 : am_wr s1 321 4 (Z.1.2.2.2.1 ||| ((1 : Int32) <<< (m &&& 31))) 316 = am_wr s 316 a 0 316 := by
    rw [am_wr_row _ (by omega), ← es1, am_wr_upd, am_wr_row _ (by omega), am_wr_row _ (by omega), am_wr_row _ (by omega), am_wr_upd]
  refine ⟨_, fun Q => ?_, MdC_draft hZ (mPb_tr m1 m2) ?_, off_up (mPb_off (mPb_tr m1 m2)) (by omega) (by omega)⟩
  · rw [c_M_head]
    simp only [k_M_head_0, k_M_head_1, k_M_head_2, k_M_head_3, k_M_head_6, k_M_head_9, k_M_head_10, k_M_head_11, k_M_head_12, k_M_head_15, k_M_head_18, k_M_head_19, k_M_head_20, k_M_head_23, k_M_head_26, k_M_head_29, k_M_head_31, k_M_head_32, k_M_head_33, k_M_head_36, k_M_head_39, k_M_head_40, k_M_head_41, k_M_head_43, k_M_head_44, k_M_head_45, k_M_head_47, k_M_head_48, k_M_head_51, k_M_head_53, k_M_head_54, k_M_head_55, k_M_head_56, k_M_head_59, k_M_head_61, k_M_head_62, k_M_head_63, k_M_head_64, k_M_head_67, k_M_head_69, k_M_head_71, k_M_head_72, k_M_head_73, k_M_head_76, k_M_head_78, k_M_head_79, k_M_head_80, k_M_head_81, k_M_head_84, k_M_head_85, k_M_head_86, k_M_head_89, k_M_head_90, k_M_head_91, k_M_head_92, k_M_head_93, k_M_head_94, k_M_head_95, k_M_head_96, k_M_head_97, rc_n, e_M_in, zm, zb_t h1, hz10, zb_t h2, zb_t h3, zg, zb_t h4, g_M0, g_M1, g_M2, g_M3, g_M4, g_M5, g_M6, g_M7, g_M8, g_M9, g_M10, g_M11, g_M12, g_M13, g_M14, g_M15, g_M16, g_M17, g_M18, g_M19, g_M20, g_M21, g_M22, g_M23, g_M24, g_M25, g_M26, g_M27, g_M28, g_M29, g_M30, g_M31, g_M32, g_M33, i24, w_M_parameters ha, w_M_kinds ha, w_M_gives ha, w_M_length ha, es1, l4, r1, w4, am_ob_s, List.tail_cons, List.tail_nil, Option.toList_some, Option.toList_none, List.nil_append, List.cons_append, List.length_nil, List.length_cons, Nat.zero_le, true_and, and_true, true_implies, false_implies, not_true_eq_false, not_false_eq_true, implies_true, or_true, true_or, Nat.reduceAdd, Nat.reduceLeDiff]
  · refine ⟨fun d q1 q2 => ?_, fun m' hm' => ?_, by rw [o1 320 (by omega) (by omega) (by omega) (by omega) (by omega)]; exact d3, am_wr_self _ _ _ _⟩
    · have g := d1 d q1 q2
      unfold MlC at g ⊢
      rw [o1 309 (by omega) (by omega) (by omega) (by omega) (by omega), o1 310 (by omega) (by omega) (by omega) (by omega) (by omega), o1 311 (by omega) (by omega) (by omega) (by omega) (by omega), o1 312 (by omega) (by omega) (by omega) (by omega) (by omega)]
      exact g
    · have g' := d2 m' hm'
      unfold MrC at g' ⊢
      rw [e313, e314, e315, e316, o1 317 (by omega) (by omega) (by omega) (by omega) (by omega), o1 318 (by omega) (by omega) (by omega) (by omega) (by omega), o1 319 (by omega) (by omega) (by omega) (by omega) (by omega)]
      dsimp only
      by_cases q : m' = cN m
      · rw [q, pSt_s, ea, am_wr_self, am_wr_self, am_wr_self, am_wr_self]
        exact ⟨rfl, rfl, eg, rfl, by simp, fun k e hk => by simp at hk⟩
      · rw [pSt_n q, am_wr_col _ (by omega), am_wr_col _ (by omega), am_wr_col _ (by omega), am_wr_col _ (by omega)]
        exact g'
end SM3
