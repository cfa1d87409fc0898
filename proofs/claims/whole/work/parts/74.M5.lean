/-! The reference: a program is copied, its end -/
section SM5
variable {s : am_S} {Q : Option Value → am_H → Prop}
set_option maxHeartbeats 4000000 in
theorem cp_out2 {fr to : Nat} (hf : fr < 5) (ht : to < 5) (hne : fr ≠ to) : ∀ (r m : Nat), m + r = 6 → ∀ (d : Nat → Nat), (d 313 = m ∧ d 314 = m ∧ d 315 = m ∧ d 316 = m) → d 317 = 14 * m → d 318 = 14 * m → d 319 = 14 * m → ∀ (jk : List Value), ∃ jk', ∃ d' : Nat → Nat, (am_W m_M_copy 116 (.ref 308 :: .int (nI fr) :: .int (nI to) :: .int (nI m) :: jk) [] (TP, cst s fr to d) Q ↔ am_W m_M_copy 294 (.ref 308 :: .int (nI fr) :: .int (nI to) :: jk') [] (TP, cst s fr to d') Q) ∧ (d' 313 = 6 ∧ d' 314 = 6 ∧ d' 315 = 6 ∧ d' 316 = 6) ∧ d' 317 = 84 ∧ d' 318 = 84 ∧ d' 319 = 84 ∧ ∀ i, i < 313 ∨ 319 < i → d' i = d i := by
    intro r
    induction r with
    | zero =>
      intro m hm d h0 h1 h2 h3 jk
      obtain rfl : m = 6 := by omega
      have q1 : (6 : Int32) ≤ nI 6 := by decide
      refine ⟨.int (nI 6) :: jk, d, ?_, h0, h1, h2, h3, fun i _ => rfl⟩
      rw [k_M_copy_116]
      simp only [k_M_copy_117, k_M_copy_119, q1, am_ob_s, List.tail_cons, List.tail_nil, Option.toList_some, Option.toList_none, List.nil_append, List.cons_append, List.length_nil, List.length_cons, Nat.zero_le, true_and, and_true, true_implies, false_implies, not_true_eq_false, not_false_eq_true, implies_true, or_true, true_or, Nat.reduceAdd, Nat.reduceLeDiff]
    | succ r ih =>
      intro m hm d h0 h1 h2 h3 jk
      obtain ⟨g1, g2, g3, g4⟩ := h0
      have q1 : ¬ (6 : Int32) ≤ nI m := nI_ge (b := 6) (by omega) (by decide)
      have hm6 : m < 6 := by omega
      have hA : 6 * fr + m < 30 := by clear ih h1 h2 h3 g1 g2 g3 g4 hne; omega
      have hB : 6 * to + m < 30 := by clear ih h1 h2 h3 g1 g2 g3 g4 hne; omega
      have t1 : am_wr (cst s fr to d) 313 (6 * to + m) (cst s fr to d 313 (6 * fr + m)) = cst s fr to (pSt d 313 (d 313 + 1)) := cst_step (i := 313) (show _ = 6 * to + d 313 by omega) (show _ = 6 * fr + d 313 by omega) (show d 313 < 6 by omega) hne
      generalize e1 : pSt d 313 (d 313 + 1) = d1 at t1
      have u1 : ∀ i, i ≠ 313 → d1 i = d i := fun i q => by rw [← e1, pSt_n q]
      have y1 : d1 313 = m + 1 := by rw [← e1, pSt_s]; omega
      have z1 := u1 314 (by omega)
      have t2 : am_wr (cst s fr to d1) 314 (6 * to + m) (cst s fr to d1 314 (6 * fr + m)) = cst s fr to (pSt d1 314 (d1 314 + 1)) := cst_step (i := 314) (show _ = 6 * to + d1 314 by omega) (show _ = 6 * fr + d1 314 by omega) (show d1 314 < 6 by omega) hne
      generalize e2 : pSt d1 314 (d1 314 + 1) = d2 at t2
      have u2 : ∀ i, i ≠ 314 → d2 i = d1 i := fun i q => by rw [← e2, pSt_n q]
      have y2 : d2 314 = m + 1 := by rw [← e2, pSt_s]; omega
      have z2 := (u2 315 (by omega)).trans (u1 315 (by omega))
      have t3 : am_wr (cst s fr to d2) 315 (6 * to + m) (cst s fr to d2 315 (6 * fr + m)) = cst s fr to (pSt d2 315 (d2 315 + 1)) := cst_step (i := 315) (show _ = 6 * to + d2 315 by omega) (show _ = 6 * fr + d2 315 by omega) (show d2 315 < 6 by omega) hne
      generalize e3 : pSt d2 315 (d2 315 + 1) = d3 at t3
      have u3 : ∀ i, i ≠ 315 → d3 i = d2 i := fun i q => by rw [← e3, pSt_n q]
      have y3 : d3 315 = m + 1 := by rw [← e3, pSt_s]; omega
      have z3 := ((u3 316 (by omega)).trans (u2 316 (by omega))).trans (u1 316 (by omega))
      have t4 : am_wr (cst s fr to d3) 316 (6 * to + m) (cst s fr to d3 316 (6 * fr + m)) = cst s fr to (pSt d3 316 (d3 316 + 1)) := cst_step (i := 316) (show _ = 6 * to + d3 316 by omega) (show _ = 6 * fr + d3 316 by omega) (show d3 316 < 6 by omega) hne
      generalize e4 : pSt d3 316 (d3 316 + 1) = d4 at t4
      have u4 : ∀ i, i ≠ 316 → d4 i = d3 i := fun i q => by rw [← e4, pSt_n q]
      have y4 : d4 316 = m + 1 := by rw [← e4, pSt_s]; omega
      have ua : ∀ i, i < 313 ∨ 316 < i → d4 i = d i := fun i q => by rw [u4 i (by omega), u3 i (by omega), u2 i (by omega), u1 i (by omega)]
      have k1 : d4 313 = m + 1 := by rw [u4 313 (by omega), u3 313 (by omega), u2 313 (by omega)]; exact y1
      have k2 : d4 314 = m + 1 := by rw [u4 314 (by omega), u3 314 (by omega)]; exact y2
      have k3 : d4 315 = m + 1 := by rw [u4 315 (by omega)]; exact y3
      obtain ⟨jk2, d5, x1, x2, x3, x4, x5⟩ := cp_in2 (s := s) (Q := Q) hf ht hne m hm6 14 0 (by omega) d4 (by rw [ua 317 (by omega)]; omega) (by rw [ua 318 (by omega)]; omega) (by rw [ua 319 (by omega)]; omega) jk.tail.tail.tail
      obtain ⟨jk', d', w1, w2, w3, w4, w5, w6⟩ := ih (m + 1) (by omega) d5 ⟨by rw [x5 313 (by omega) (by omega) (by omega)]; exact k1, by rw [x5 314 (by omega) (by omega) (by omega)]; exact k2, by rw [x5 315 (by omega) (by omega) (by omega)]; exact k3, by rw [x5 316 (by omega) (by omega) (by omega)]; exact y4⟩ (by omega) (by omega) (by omega) jk2
      refine ⟨jk', d', ?_, w2, w3, w4, w5, fun i q => by rw [w6 i q, x5 i (by omega) (by omega) (by omega), ua i (by omega)]⟩
      rw [k_M_copy_116]
      rw [nI_0] at x1
      simp only [k_M_copy_117, k_M_copy_119, k_M_copy_122, k_M_copy_124, k_M_copy_125, k_M_copy_126, k_M_copy_127, k_M_copy_128, k_M_copy_130, k_M_copy_132, k_M_copy_133, k_M_copy_134, k_M_copy_135, k_M_copy_136, k_M_copy_138, k_M_copy_139, k_M_copy_142, k_M_copy_144, k_M_copy_145, k_M_copy_148, k_M_copy_150, k_M_copy_151, k_M_copy_152, k_M_copy_153, k_M_copy_156, k_M_copy_158, k_M_copy_159, k_M_copy_162, k_M_copy_164, k_M_copy_165, k_M_copy_166, k_M_copy_167, k_M_copy_170, k_M_copy_172, k_M_copy_173, k_M_copy_176, k_M_copy_178, k_M_copy_179, k_M_copy_180, k_M_copy_181, k_M_copy_184, k_M_copy_186, k_M_copy_187, k_M_copy_190, k_M_copy_192, k_M_copy_193, k_M_copy_194, k_M_copy_195, q1, g_M0, g_M1, g_M2, g_M3, g_M4, g_M5, g_M6, g_M7, g_M8, g_M9, g_M10, g_M11, g_M12, g_M13, g_M14, g_M15, g_M16, g_M17, g_M18, g_M19, g_M20, g_M21, g_M22, g_M23, g_M24, g_M25, g_M26, g_M27, g_M28, g_M29, g_M30, g_M31, g_M32, g_M33, ix6 fr hf m hm6, ix6 to ht m hm6, l_M_parameters hA, l_M_kinds hA, l_M_gives hA, l_M_length hA, w_M_parameters hB, w_M_kinds hB, w_M_gives hB, w_M_length hB, t1, t2, t3, t4, am_ob_s, List.tail_cons, List.tail_nil, Option.toList_some, Option.toList_none, List.nil_append, List.cons_append, List.length_nil, List.length_cons, Nat.zero_le, true_and, and_true, true_implies, false_implies, not_true_eq_false, not_false_eq_true, implies_true, or_true, true_or, Nat.reduceAdd, Nat.reduceLeDiff]
      refine x1.trans ?_
      simp only [k_M_copy_288, k_M_copy_291, nI_1, am_ob_s, List.tail_cons, List.tail_nil, Option.toList_some, Option.toList_none, List.nil_append, List.cons_append, List.length_nil, List.length_cons, Nat.zero_le, true_and, and_true, true_implies, false_implies, not_true_eq_false, not_false_eq_true, implies_true, or_true, true_or, Nat.reduceAdd, Nat.reduceLeDiff]
      exact w1
set_option maxHeartbeats 2000000 in
theorem e_M_copy0 {fr to : Nat} (hf : fr < 5) (ht : to < 5) (hne : fr ≠ to) : am_C f_M_copy [.ref 308, .int (nI fr), .int (nI to)] (TP, s) Q ↔ Q none (TP, cst s fr to mw) := by
  obtain ⟨jk1, d1, a1, a2, a3, a4, a5, a6⟩ := cp_out1 (s := s) (Q := Q) hf ht hne 3 0 (by omega) (fun _ => 0) rfl rfl rfl rfl []
  obtain ⟨jk2, d2, b1, b2, b3, b4, b5, b6⟩ := cp_out2 (s := s) (Q := Q) hf ht hne 6 0 (by omega) d1 ⟨a6 313 (by omega) (by omega) (by omega) (by omega), a6 314 (by omega) (by omega) (by omega) (by omega), a6 315 (by omega) (by omega) (by omega) (by omega), a6 316 (by omega) (by omega) (by omega) (by omega)⟩ (a6 317 (by omega) (by omega) (by omega) (by omega)) (a6 318 (by omega) (by omega) (by omega) (by omega)) (a6 319 (by omega) (by omega) (by omega) (by omega)) jk1.tail
  have z0 : ∀ i, 319 < i → d2 i = 0 := fun i q => by rw [b6 i (by omega), a6 i (by omega) (by omega) (by omega) (by omega)]
  have s0 := z0 320 (by omega)
  have t1 : am_wr (cst s fr to d2) 320 to (cst s fr to d2 320 fr) = cst s fr to (pSt d2 320 (d2 320 + 1)) := cst_step (i := 320) (show _ = 1 * to + d2 320 by omega) (show _ = 1 * fr + d2 320 by omega) (show d2 320 < 1 by omega) hne
  generalize e1 : pSt d2 320 (d2 320 + 1) = d3 at t1
  have u1 : ∀ i, i ≠ 320 → d3 i = d2 i := fun i q => by rw [← e1, pSt_n q]
  have s1 : d3 321 = 0 := by rw [u1 321 (by omega)]; exact z0 321 (by omega)
  have t2 : am_wr (cst s fr to d3) 321 to (cst s fr to d3 321 fr) = cst s fr to (pSt d3 321 (d3 321 + 1)) := cst_step (i := 321) (show _ = 1 * to + d3 321 by omega) (show _ = 1 * fr + d3 321 by omega) (show d3 321 < 1 by omega) hne
  generalize e2 : pSt d3 321 (d3 321 + 1) = d4 at t2
  have u2 : ∀ i, i ≠ 321 → d4 i = d3 i := fun i q => by rw [← e2, pSt_n q]
  have s2 : d4 322 = 0 := by rw [u2 322 (by omega), u1 322 (by omega)]; exact z0 322 (by omega)
  have t3 : am_wr (cst s fr to d4) 322 to (cst s fr to d4 322 fr) = cst s fr to (pSt d4 322 (d4 322 + 1)) := cst_step (i := 322) (show _ = 1 * to + d4 322 by omega) (show _ = 1 * fr + d4 322 by omega) (show d4 322 < 1 by omega) hne
  have fin : pSt d4 322 (d4 322 + 1) = mw := by
    funext i
    by_cases q : i < 309 ∨ 323 ≤ i
    · rw [pSt_n (by omega), u2 i (by omega), u1 i (by omega), mw_lo q]
      rcases q with q | q
      · rw [b6 i (by omega), a6 i (by omega) (by omega) (by omega) (by omega)]
      · exact z0 i (by omega)
    · have f1 : d4 320 = 1 := by rw [u2 320 (by omega), ← e1, pSt_s, s0]
      have f2 : d4 321 = 1 := by rw [← e2, pSt_s, s1]
      have f3 : ∀ i, i < 320 → d4 i = d2 i := fun i q => by rw [u2 i (by omega), u1 i (by omega)]
      have f4 : ∀ i, i < 313 → d2 i = d1 i := fun i q => b6 i (by omega)
      rcases (show i = 309 ∨ i = 310 ∨ i = 311 ∨ i = 312 ∨ i = 313 ∨ i = 314 ∨ i = 315 ∨ i = 316 ∨ i = 317 ∨ i = 318 ∨ i = 319 ∨ i = 320 ∨ i = 321 ∨ i = 322 by omega) with rfl | rfl | rfl | rfl | rfl | rfl | rfl | rfl | rfl | rfl | rfl | rfl | rfl | rfl
      · rw [pSt_n (by omega), f3 _ (by omega), f4 _ (by omega), a2]; rfl
      · rw [pSt_n (by omega), f3 _ (by omega), f4 _ (by omega), a3]; rfl
      · rw [pSt_n (by omega), f3 _ (by omega), f4 _ (by omega), a4]; rfl
      · rw [pSt_n (by omega), f3 _ (by omega), f4 _ (by omega), a5]; rfl
      · rw [pSt_n (by omega), f3 _ (by omega), b2.1]; rfl
      · rw [pSt_n (by omega), f3 _ (by omega), b2.2.1]; rfl
      · rw [pSt_n (by omega), f3 _ (by omega), b2.2.2.1]; rfl
      · rw [pSt_n (by omega), f3 _ (by omega), b2.2.2.2]; rfl
      · rw [pSt_n (by omega), f3 _ (by omega), b3]; rfl
      · rw [pSt_n (by omega), f3 _ (by omega), b4]; rfl
      · rw [pSt_n (by omega), f3 _ (by omega), b5]; rfl
      · rw [pSt_n (by omega), f1]; rfl
      · rw [pSt_n (by omega), f2]; rfl
      · rw [pSt_s, s2]; rfl
  rw [fin] at t3
  rw [nI_0] at a1 b1
  rw [cst_0] at a1
  rw [c_M_copy]
  simp only [k_M_copy_0, k_M_copy_1, am_ob_s, List.tail_cons, List.tail_nil, Option.toList_some, Option.toList_none, List.nil_append, List.cons_append, List.length_nil, List.length_cons, Nat.zero_le, true_and, and_true, true_implies, false_implies, not_true_eq_false, not_false_eq_true, implies_true, or_true, true_or, Nat.reduceAdd, Nat.reduceLeDiff]
  refine a1.trans ?_
  simp only [k_M_copy_114, k_M_copy_115, am_ob_s, List.tail_cons, List.tail_nil, Option.toList_some, Option.toList_none, List.nil_append, List.cons_append, List.length_nil, List.length_cons, Nat.zero_le, true_and, and_true, true_implies, false_implies, not_true_eq_false, not_false_eq_true, implies_true, or_true, true_or, Nat.reduceAdd, Nat.reduceLeDiff]
  refine b1.trans ?_
  simp only [k_M_copy_294, k_M_copy_295, k_M_copy_298, k_M_copy_299, k_M_copy_300, k_M_copy_303, k_M_copy_304, k_M_copy_305, k_M_copy_306, k_M_copy_307, k_M_copy_310, k_M_copy_311, k_M_copy_312, k_M_copy_315, k_M_copy_316, k_M_copy_317, k_M_copy_318, k_M_copy_319, k_M_copy_322, k_M_copy_323, k_M_copy_324, k_M_copy_327, k_M_copy_328, k_M_copy_329, k_M_copy_330, g_M0, g_M1, g_M2, g_M3, g_M4, g_M5, g_M6, g_M7, g_M8, g_M9, g_M10, g_M11, g_M12, g_M13, g_M14, g_M15, g_M16, g_M17, g_M18, g_M19, g_M20, g_M21, g_M22, g_M23, g_M24, g_M25, g_M26, g_M27, g_M28, g_M29, g_M30, g_M31, g_M32, g_M33, l_M_classes hf, w_M_classes ht, l_M_methods hf, w_M_methods ht, l_M_barred hf, w_M_barred ht, t1, t2, t3, am_ob_s, List.tail_cons, List.tail_nil, Option.toList_some, Option.toList_none, List.nil_append, List.cons_append, List.length_nil, List.length_cons, Nat.zero_le, true_and, and_true, true_implies, false_implies, not_true_eq_false, not_false_eq_true, implies_true, or_true, true_or, Nat.reduceAdd, Nat.reduceLeDiff]
end SM5
