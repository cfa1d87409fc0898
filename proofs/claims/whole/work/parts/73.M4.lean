/-! The reference: a program is copied -/
def cst (s : am_S) (fr to : Nat) (d : Nat → Nat) : am_S := fun i k => if mw i * to ≤ k ∧ k < mw i * to + d i then s i (mw i * fr + (k - mw i * to)) else s i k
theorem cst_0 (s : am_S) (fr to : Nat) : cst s fr to (fun _ => 0) = s := by
  funext i k
  show (if mw i * to ≤ k ∧ k < mw i * to + 0 then _ else _) = _
  rw [if_neg (by omega)]
theorem cst_step {s : am_S} {fr to : Nat} {d : Nat → Nat} {i P P' : Nat} (hP : P = mw i * to + d i) (hP' : P' = mw i * fr + d i) (hd : d i < mw i) (hne : fr ≠ to) : am_wr (cst s fr to d) i P (cst s fr to d i P') = cst s fr to (pSt d i (d i + 1)) := by
  have rd : cst s fr to d i P' = s i P' := by
    unfold cst
    rw [if_neg]
    rintro ⟨q1, q2⟩
    rcases Nat.lt_or_gt_of_ne hne with q | q
    · have := Nat.mul_le_mul_left (mw i) q
      rw [Nat.mul_succ] at this
      omega
    · have := Nat.mul_le_mul_left (mw i) q
      rw [Nat.mul_succ] at this
      omega
  funext i' k'
  rw [rd, am_wr_at]
  unfold cst
  by_cases hi : i' = i
  · subst hi
    rw [pSt_s]
    by_cases hk : k' = P
    · rw [if_pos ⟨rfl, hk⟩, if_pos (by omega), hP', hk, hP]
      congr 1
      omega
    · rw [if_neg (fun q => hk q.2)]
      by_cases q : mw i' * to ≤ k' ∧ k' < mw i' * to + d i'
      · rw [if_pos q, if_pos (by omega)]
      · rw [if_neg q, if_neg (by omega)]
  · rw [if_neg (fun q => hi q.1), pSt_n hi]
theorem ix3b : ∀ b, b < 5 → ∀ c, c < 3 → ((3 : Int32) * nI b) + nI c = nI (3 * b + c) := by decide +kernel
section SM4
variable {s : am_S} {Q : Option Value → am_H → Prop}
set_option maxHeartbeats 4000000 in
theorem cp_in1 {fr to : Nat} (hf : fr < 5) (ht : to < 5) (hne : fr ≠ to) : ∀ (c : Nat), c < 3 → ∀ (r k : Nat), k + r = 4 → ∀ (d : Nat → Nat), d 310 = 4 * c + k → d 311 = 4 * c + k → d 312 = 4 * c + k → ∀ (jk : List Value), ∃ jk', ∃ d' : Nat → Nat, (am_W m_M_copy 30 (.ref 308 :: .int (nI fr) :: .int (nI to) :: .int (nI c) :: .int (nI k) :: jk) [] (TP, cst s fr to d) Q ↔ am_W m_M_copy 108 (.ref 308 :: .int (nI fr) :: .int (nI to) :: .int (nI c) :: jk') [] (TP, cst s fr to d') Q) ∧ d' 310 = 4 * c + 4 ∧ d' 311 = 4 * c + 4 ∧ d' 312 = 4 * c + 4 ∧ ∀ i, i ≠ 310 → i ≠ 311 → i ≠ 312 → d' i = d i := by
    intro c hc r
    induction r with
    | zero =>
      intro k hk d h1 h2 h3 jk
      obtain rfl : k = 4 := by omega
      have q1 : (4 : Int32) ≤ nI 4 := by decide
      refine ⟨.int (nI 4) :: jk, d, ?_, h1, h2, h3, fun i _ _ _ => rfl⟩
      rw [k_M_copy_30]
      simp only [k_M_copy_32, k_M_copy_33, q1, am_ob_s, List.tail_cons, List.tail_nil, Option.toList_some, Option.toList_none, List.nil_append, List.cons_append, List.length_nil, List.length_cons, Nat.zero_le, true_and, and_true, true_implies, false_implies, not_true_eq_false, not_false_eq_true, implies_true, or_true, true_or, Nat.reduceAdd, Nat.reduceLeDiff]
    | succ r ih =>
      intro k hk d h1 h2 h3 jk
      have q1 : ¬ (4 : Int32) ≤ nI k := nI_ge (b := 4) (by omega) (by decide)
      have hk4 : k < 4 := by omega
      have t1 : am_wr (cst s fr to d) 310 (4 * (3 * to + c) + k) (cst s fr to d 310 (4 * (3 * fr + c) + k)) = cst s fr to (pSt d 310 (d 310 + 1)) := cst_step (i := 310) (show _ = 12 * to + d 310 by omega) (show _ = 12 * fr + d 310 by omega) (show d 310 < 12 by omega) hne
      generalize e1 : pSt d 310 (d 310 + 1) = d1 at t1
      have u1 : ∀ i, i ≠ 310 → d1 i = d i := fun i q => by rw [← e1, pSt_n q]
      have t2 : am_wr (cst s fr to d1) 311 (4 * (3 * to + c) + k) (cst s fr to d1 311 (4 * (3 * fr + c) + k)) = cst s fr to (pSt d1 311 (d1 311 + 1)) := cst_step (i := 311) (show _ = 12 * to + d1 311 by rw [u1 311 (by omega)]; omega) (show _ = 12 * fr + d1 311 by rw [u1 311 (by omega)]; omega) (show d1 311 < 12 by rw [u1 311 (by omega)]; omega) hne
      generalize e2 : pSt d1 311 (d1 311 + 1) = d2 at t2
      have u2 : ∀ i, i ≠ 311 → d2 i = d1 i := fun i q => by rw [← e2, pSt_n q]
      have t3 : am_wr (cst s fr to d2) 312 (4 * (3 * to + c) + k) (cst s fr to d2 312 (4 * (3 * fr + c) + k)) = cst s fr to (pSt d2 312 (d2 312 + 1)) := cst_step (i := 312) (show _ = 12 * to + d2 312 by rw [u2 312 (by omega), u1 312 (by omega)]; omega) (show _ = 12 * fr + d2 312 by rw [u2 312 (by omega), u1 312 (by omega)]; omega) (show d2 312 < 12 by rw [u2 312 (by omega), u1 312 (by omega)]; omega) hne
      generalize e3 : pSt d2 312 (d2 312 + 1) = d3 at t3
      have u3 : ∀ i, i ≠ 312 → d3 i = d2 i := fun i q => by rw [← e3, pSt_n q]
      have v0 : d3 310 = 4 * c + (k + 1) := by rw [u3 310 (by omega), u2 310 (by omega), ← e1, pSt_s]; omega
      have v1 : d3 311 = 4 * c + (k + 1) := by rw [u3 311 (by omega), ← e2, pSt_s, u1 311 (by omega)]; omega
      have v2 : d3 312 = 4 * c + (k + 1) := by rw [← e3, pSt_s, u2 312 (by omega), u1 312 (by omega)]; omega
      obtain ⟨jk', d', w1, w2, w3, w4, w5⟩ := ih (k + 1) (by omega) d3 v0 v1 v2 (.int (nI (4 * (3 * fr + c) + k)) :: .int (nI (4 * (3 * to + c) + k)) :: jk.tail.tail)
      refine ⟨jk', d', ?_, w2, w3, w4, fun i g1 g2 g3 => by rw [w5 i g1 g2 g3, u3 i g3, u2 i g2, u1 i g1]⟩
      rw [k_M_copy_30]
      simp only [k_M_copy_32, k_M_copy_33, k_M_copy_36, k_M_copy_37, k_M_copy_38, k_M_copy_39, k_M_copy_40, k_M_copy_41, k_M_copy_42, k_M_copy_43, k_M_copy_45, k_M_copy_46, k_M_copy_48, k_M_copy_49, k_M_copy_50, k_M_copy_51, k_M_copy_52, k_M_copy_53, k_M_copy_54, k_M_copy_55, k_M_copy_57, k_M_copy_58, k_M_copy_60, k_M_copy_61, k_M_copy_64, k_M_copy_66, k_M_copy_67, k_M_copy_70, k_M_copy_72, k_M_copy_73, k_M_copy_74, k_M_copy_75, k_M_copy_78, k_M_copy_80, k_M_copy_81, k_M_copy_84, k_M_copy_86, k_M_copy_87, k_M_copy_88, k_M_copy_89, k_M_copy_92, k_M_copy_94, k_M_copy_95, k_M_copy_98, k_M_copy_100, k_M_copy_101, k_M_copy_102, k_M_copy_105, q1, g_M0, g_M1, g_M2, g_M3, g_M4, g_M5, g_M6, g_M7, g_M8, g_M9, g_M10, g_M11, g_M12, g_M13, g_M14, g_M15, g_M16, g_M17, g_M18, g_M19, g_M20, g_M21, g_M22, g_M23, g_M24, g_M25, g_M26, g_M27, g_M28, g_M29, g_M30, g_M31, g_M32, g_M33, ix3b fr hf c hc, ix3b to ht c hc, ix4 (3 * fr + c) (by omega) k hk4, ix4 (3 * to + c) (by omega) k hk4, l_M_name (show 4 * (3 * fr + c) + k < 60 by omega), l_M_type (show 4 * (3 * fr + c) + k < 60 by omega), l_M_source (show 4 * (3 * fr + c) + k < 60 by omega), w_M_name (show 4 * (3 * to + c) + k < 60 by omega), w_M_type (show 4 * (3 * to + c) + k < 60 by omega), w_M_source (show 4 * (3 * to + c) + k < 60 by omega), t1, t2, t3, nI_1, am_ob_s, List.tail_cons, List.tail_nil, Option.toList_some, Option.toList_none, List.nil_append, List.cons_append, List.length_nil, List.length_cons, Nat.zero_le, true_and, and_true, true_implies, false_implies, not_true_eq_false, not_false_eq_true, implies_true, or_true, true_or, Nat.reduceAdd, Nat.reduceLeDiff]
      exact w1
set_option maxHeartbeats 4000000 in
theorem cp_out1 {fr to : Nat} (hf : fr < 5) (ht : to < 5) (hne : fr ≠ to) : ∀ (r c : Nat), c + r = 3 → ∀ (d : Nat → Nat), d 309 = c → d 310 = 4 * c → d 311 = 4 * c → d 312 = 4 * c → ∀ (jk : List Value), ∃ jk', ∃ d' : Nat → Nat, (am_W m_M_copy 2 (.ref 308 :: .int (nI fr) :: .int (nI to) :: .int (nI c) :: jk) [] (TP, cst s fr to d) Q ↔ am_W m_M_copy 114 (.ref 308 :: .int (nI fr) :: .int (nI to) :: jk') [] (TP, cst s fr to d') Q) ∧ d' 309 = 3 ∧ d' 310 = 12 ∧ d' 311 = 12 ∧ d' 312 = 12 ∧ ∀ i, i ≠ 309 → i ≠ 310 → i ≠ 311 → i ≠ 312 → d' i = d i := by
    intro r
    induction r with
    | zero =>
      intro c hc d h0 h1 h2 h3 jk
      obtain rfl : c = 3 := by omega
      have q1 : (3 : Int32) ≤ nI 3 := by decide
      refine ⟨.int (nI 3) :: jk, d, ?_, h0, h1, h2, h3, fun i _ _ _ _ => rfl⟩
      rw [k_M_copy_2]
      simp only [k_M_copy_3, k_M_copy_4, q1, am_ob_s, List.tail_cons, List.tail_nil, Option.toList_some, Option.toList_none, List.nil_append, List.cons_append, List.length_nil, List.length_cons, Nat.zero_le, true_and, and_true, true_implies, false_implies, not_true_eq_false, not_false_eq_true, implies_true, or_true, true_or, Nat.reduceAdd, Nat.reduceLeDiff]
    | succ r ih =>
      intro c hc d h0 h1 h2 h3 jk
      have q1 : ¬ (3 : Int32) ≤ nI c := nI_ge (b := 3) (by omega) (by decide)
      have hc3 : c < 3 := by omega
      have t1 : am_wr (cst s fr to d) 309 (3 * to + c) (cst s fr to d 309 (3 * fr + c)) = cst s fr to (pSt d 309 (d 309 + 1)) := cst_step (i := 309) (show _ = 3 * to + d 309 by omega) (show _ = 3 * fr + d 309 by omega) (show d 309 < 3 by omega) hne
      generalize e1 : pSt d 309 (d 309 + 1) = d1 at t1
      have u1 : ∀ i, i ≠ 309 → d1 i = d i := fun i q => by rw [← e1, pSt_n q]
      have v1 : d1 309 = c + 1 := by rw [← e1, pSt_s]; omega
      obtain ⟨jk2, d2, x1, x2, x3, x4, x5⟩ := cp_in1 (s := s) (Q := Q) hf ht hne c hc3 4 0 (by omega) d1 (by rw [u1 310 (by omega)]; omega) (by rw [u1 311 (by omega)]; omega) (by rw [u1 312 (by omega)]; omega) jk.tail
      obtain ⟨jk', d', w1, w2, w3, w4, w5, w6⟩ := ih (c + 1) (by omega) d2 (by rw [x5 309 (by omega) (by omega) (by omega)]; exact v1) (by omega) (by omega) (by omega) jk2
      refine ⟨jk', d', ?_, w2, w3, w4, w5, fun i g1 g2 g3 g4 => by rw [w6 i g1 g2 g3 g4, x5 i g2 g3 g4, u1 i g1]⟩
      rw [k_M_copy_2]
      rw [nI_0] at x1
      simp only [k_M_copy_3, k_M_copy_4, k_M_copy_7, k_M_copy_8, k_M_copy_11, k_M_copy_12, k_M_copy_13, k_M_copy_14, k_M_copy_15, k_M_copy_16, k_M_copy_17, k_M_copy_20, k_M_copy_21, k_M_copy_22, k_M_copy_23, k_M_copy_24, k_M_copy_25, k_M_copy_26, k_M_copy_27, k_M_copy_28, q1, g_M0, g_M1, g_M2, g_M3, g_M4, g_M5, g_M6, g_M7, g_M8, g_M9, g_M10, g_M11, g_M12, g_M13, g_M14, g_M15, g_M16, g_M17, g_M18, g_M19, g_M20, g_M21, g_M22, g_M23, g_M24, g_M25, g_M26, g_M27, g_M28, g_M29, g_M30, g_M31, g_M32, g_M33, ix3b fr hf c hc3, ix3b to ht c hc3, l_M_fields (show 3 * fr + c < 15 by omega), w_M_fields (show 3 * to + c < 15 by omega), t1, am_ob_s, List.tail_cons, List.tail_nil, Option.toList_some, Option.toList_none, List.nil_append, List.cons_append, List.length_nil, List.length_cons, Nat.zero_le, true_and, and_true, true_implies, false_implies, not_true_eq_false, not_false_eq_true, implies_true, or_true, true_or, Nat.reduceAdd, Nat.reduceLeDiff]
      refine x1.trans ?_
      simp only [k_M_copy_108, k_M_copy_111, nI_1, am_ob_s, List.tail_cons, List.tail_nil, Option.toList_some, Option.toList_none, List.nil_append, List.cons_append, List.length_nil, List.length_cons, Nat.zero_le, true_and, and_true, true_implies, false_implies, not_true_eq_false, not_false_eq_true, implies_true, or_true, true_or, Nat.reduceAdd, Nat.reduceLeDiff]
      exact w1
set_option maxHeartbeats 4000000 in
theorem cp_in2 {fr to : Nat} (hf : fr < 5) (ht : to < 5) (hne : fr ≠ to) : ∀ (m : Nat), m < 6 → ∀ (r p : Nat), p + r = 14 → ∀ (d : Nat → Nat), d 317 = 14 * m + p → d 318 = 14 * m + p → d 319 = 14 * m + p → ∀ (jk : List Value), ∃ jk', ∃ d' : Nat → Nat, (am_W m_M_copy 197 (.ref 308 :: .int (nI fr) :: .int (nI to) :: .int (nI m) :: .int (nI (6 * fr + m)) :: .int (nI (6 * to + m)) :: .int (nI p) :: jk) [] (TP, cst s fr to d) Q ↔ am_W m_M_copy 288 (.ref 308 :: .int (nI fr) :: .int (nI to) :: .int (nI m) :: jk') [] (TP, cst s fr to d') Q) ∧ d' 317 = 14 * m + 14 ∧ d' 318 = 14 * m + 14 ∧ d' 319 = 14 * m + 14 ∧ ∀ i, i ≠ 317 → i ≠ 318 → i ≠ 319 → d' i = d i := by
    intro m hm r
    induction r with
    | zero =>
      intro p hp d h1 h2 h3 jk
      obtain rfl : p = 14 := by omega
      have q1 : (14 : Int32) ≤ nI 14 := by decide
      refine ⟨.int (nI (6 * fr + m)) :: .int (nI (6 * to + m)) :: .int (nI 14) :: jk, d, ?_, h1, h2, h3, fun i _ _ _ => rfl⟩
      rw [k_M_copy_197]
      simp only [k_M_copy_199, k_M_copy_201, q1, am_ob_s, List.tail_cons, List.tail_nil, Option.toList_some, Option.toList_none, List.nil_append, List.cons_append, List.length_nil, List.length_cons, Nat.zero_le, true_and, and_true, true_implies, false_implies, not_true_eq_false, not_false_eq_true, implies_true, or_true, true_or, Nat.reduceAdd, Nat.reduceLeDiff]
    | succ r ih =>
      intro p hp d h1 h2 h3 jk
      have q1 : ¬ (14 : Int32) ≤ nI p := nI_ge (b := 14) (by omega) (by decide)
      have hp14 : p < 14 := by omega
      have t1 : am_wr (cst s fr to d) 317 (14 * (6 * to + m) + p) (cst s fr to d 317 (14 * (6 * fr + m) + p)) = cst s fr to (pSt d 317 (d 317 + 1)) := cst_step (i := 317) (show _ = 84 * to + d 317 by omega) (show _ = 84 * fr + d 317 by omega) (show d 317 < 84 by omega) hne
      generalize e1 : pSt d 317 (d 317 + 1) = d1 at t1
      have u1 : ∀ i, i ≠ 317 → d1 i = d i := fun i q => by rw [← e1, pSt_n q]
      have t2 : am_wr (cst s fr to d1) 318 (14 * (6 * to + m) + p) (cst s fr to d1 318 (14 * (6 * fr + m) + p)) = cst s fr to (pSt d1 318 (d1 318 + 1)) := cst_step (i := 318) (show _ = 84 * to + d1 318 by rw [u1 318 (by omega)]; omega) (show _ = 84 * fr + d1 318 by rw [u1 318 (by omega)]; omega) (show d1 318 < 84 by rw [u1 318 (by omega)]; omega) hne
      generalize e2 : pSt d1 318 (d1 318 + 1) = d2 at t2
      have u2 : ∀ i, i ≠ 318 → d2 i = d1 i := fun i q => by rw [← e2, pSt_n q]
      have t3 : am_wr (cst s fr to d2) 319 (14 * (6 * to + m) + p) (cst s fr to d2 319 (14 * (6 * fr + m) + p)) = cst s fr to (pSt d2 319 (d2 319 + 1)) := cst_step (i := 319) (show _ = 84 * to + d2 319 by rw [u2 319 (by omega), u1 319 (by omega)]; omega) (show _ = 84 * fr + d2 319 by rw [u2 319 (by omega), u1 319 (by omega)]; omega) (show d2 319 < 84 by rw [u2 319 (by omega), u1 319 (by omega)]; omega) hne
      generalize e3 : pSt d2 319 (d2 319 + 1) = d3 at t3
      have u3 : ∀ i, i ≠ 319 → d3 i = d2 i := fun i q => by rw [← e3, pSt_n q]
      have v0 : d3 317 = 14 * m + (p + 1) := by rw [u3 317 (by omega), u2 317 (by omega), ← e1, pSt_s]; omega
      have v1 : d3 318 = 14 * m + (p + 1) := by rw [u3 318 (by omega), ← e2, pSt_s, u1 318 (by omega)]; omega
      have v2 : d3 319 = 14 * m + (p + 1) := by rw [← e3, pSt_s, u2 319 (by omega), u1 319 (by omega)]; omega
      obtain ⟨jk', d', w1, w2, w3, w4, w5⟩ := ih (p + 1) (by omega) d3 v0 v1 v2 jk
      refine ⟨jk', d', ?_, w2, w3, w4, fun i g1 g2 g3 => by rw [w5 i g1 g2 g3, u3 i g3, u2 i g2, u1 i g1]⟩
      rw [k_M_copy_197]
      simp only [k_M_copy_199, k_M_copy_201, k_M_copy_204, k_M_copy_205, k_M_copy_208, k_M_copy_210, k_M_copy_212, k_M_copy_213, k_M_copy_215, k_M_copy_216, k_M_copy_217, k_M_copy_220, k_M_copy_222, k_M_copy_224, k_M_copy_225, k_M_copy_227, k_M_copy_228, k_M_copy_229, k_M_copy_230, k_M_copy_231, k_M_copy_234, k_M_copy_236, k_M_copy_238, k_M_copy_239, k_M_copy_241, k_M_copy_242, k_M_copy_243, k_M_copy_246, k_M_copy_248, k_M_copy_250, k_M_copy_251, k_M_copy_253, k_M_copy_254, k_M_copy_255, k_M_copy_256, k_M_copy_257, k_M_copy_260, k_M_copy_262, k_M_copy_264, k_M_copy_265, k_M_copy_267, k_M_copy_268, k_M_copy_269, k_M_copy_272, k_M_copy_274, k_M_copy_276, k_M_copy_277, k_M_copy_279, k_M_copy_280, k_M_copy_281, k_M_copy_282, k_M_copy_285, q1, g_M0, g_M1, g_M2, g_M3, g_M4, g_M5, g_M6, g_M7, g_M8, g_M9, g_M10, g_M11, g_M12, g_M13, g_M14, g_M15, g_M16, g_M17, g_M18, g_M19, g_M20, g_M21, g_M22, g_M23, g_M24, g_M25, g_M26, g_M27, g_M28, g_M29, g_M30, g_M31, g_M32, g_M33, ix14 (6 * fr + m) (by omega) p hp14, ix14 (6 * to + m) (by omega) p hp14, l_M_op (show 14 * (6 * fr + m) + p < 420 by omega), l_M_x (show 14 * (6 * fr + m) + p < 420 by omega), l_M_y (show 14 * (6 * fr + m) + p < 420 by omega), w_M_op (show 14 * (6 * to + m) + p < 420 by omega), w_M_x (show 14 * (6 * to + m) + p < 420 by omega), w_M_y (show 14 * (6 * to + m) + p < 420 by omega), t1, t2, t3, nI_1, am_ob_s, List.tail_cons, List.tail_nil, Option.toList_some, Option.toList_none, List.nil_append, List.cons_append, List.length_nil, List.length_cons, Nat.zero_le, true_and, and_true, true_implies, false_implies, not_true_eq_false, not_false_eq_true, implies_true, or_true, true_or, Nat.reduceAdd, Nat.reduceLeDiff]
      exact w1
end SM4
