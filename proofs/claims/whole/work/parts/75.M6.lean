/-! The reference: what a copy holds -/
theorem cst_mPb (s : am_S) (fr to : Nat) : mPb to s (cst s fr to mw) := fun i k q => if_neg q
theorem cst_at (s : am_S) (fr to : Nat) {i k : Nat} (h : k < mw i) : cst s fr to mw i (mw i * to + k) = s i (mw i * fr + k) := by
  unfold cst
  rw [if_pos (by omega)]
  congr 1
  omega
theorem MpC_cst {s : am_S} {fr : Nat} {G : pPg} (to : Nat) (h : MpC s fr G) : MpC (cst s fr to mw) to G ∧ cst s fr to mw 322 to = s 322 fr := by
  have c3 : ∀ k, k < 3 → cst s fr to mw 309 (3 * to + k) = s 309 (3 * fr + k) := fun k hk => cst_at s fr to (i := 309) hk
  have c10 : ∀ k, k < 12 → cst s fr to mw 310 (12 * to + k) = s 310 (12 * fr + k) := fun k hk => cst_at s fr to (i := 310) hk
  have c11 : ∀ k, k < 12 → cst s fr to mw 311 (12 * to + k) = s 311 (12 * fr + k) := fun k hk => cst_at s fr to (i := 311) hk
  have c12 : ∀ k, k < 12 → cst s fr to mw 312 (12 * to + k) = s 312 (12 * fr + k) := fun k hk => cst_at s fr to (i := 312) hk
  have c13 : ∀ k, k < 6 → cst s fr to mw 313 (6 * to + k) = s 313 (6 * fr + k) := fun k hk => cst_at s fr to (i := 313) hk
  have c14 : ∀ k, k < 6 → cst s fr to mw 314 (6 * to + k) = s 314 (6 * fr + k) := fun k hk => cst_at s fr to (i := 314) hk
  have c15 : ∀ k, k < 6 → cst s fr to mw 315 (6 * to + k) = s 315 (6 * fr + k) := fun k hk => cst_at s fr to (i := 315) hk
  have c16 : ∀ k, k < 6 → cst s fr to mw 316 (6 * to + k) = s 316 (6 * fr + k) := fun k hk => cst_at s fr to (i := 316) hk
  have c17 : ∀ k, k < 84 → cst s fr to mw 317 (84 * to + k) = s 317 (84 * fr + k) := fun k hk => cst_at s fr to (i := 317) hk
  have c18 : ∀ k, k < 84 → cst s fr to mw 318 (84 * to + k) = s 318 (84 * fr + k) := fun k hk => cst_at s fr to (i := 318) hk
  have c19 : ∀ k, k < 84 → cst s fr to mw 319 (84 * to + k) = s 319 (84 * fr + k) := fun k hk => cst_at s fr to (i := 319) hk
  have c20 : cst s fr to mw 320 (1 * to + 0) = s 320 (1 * fr + 0) := cst_at s fr to (i := 320) (show 0 < 1 by omega)
  have c21 : cst s fr to mw 321 (1 * to + 0) = s 321 (1 * fr + 0) := cst_at s fr to (i := 321) (show 0 < 1 by omega)
  have c22 : cst s fr to mw 322 (1 * to + 0) = s 322 (1 * fr + 0) := cst_at s fr to (i := 322) (show 0 < 1 by omega)
  rw [Nat.one_mul, Nat.one_mul, Nat.add_zero, Nat.add_zero] at c20 c21 c22
  obtain ⟨h1, h2, h3, h4⟩ := h
  refine ⟨⟨fun c q1 q2 => ?_, fun m hm => ?_, c20.trans h3, c21.trans h4⟩, c22⟩
  · obtain ⟨g1, g2, g3⟩ := h1 c q1 q2
    refine ⟨?_, g2, fun k e hk => ?_⟩
    · rw [show 3 * to + c - 1 = 3 * to + (c - 1) by omega, c3 _ (by omega), show 3 * fr + (c - 1) = 3 * fr + c - 1 by omega]
      exact g1
    · have hk4 := (List.getElem?_eq_some_iff.mp hk).1
      rw [show 4 * (3 * to + c - 1) + k = 12 * to + (4 * (c - 1) + k) by omega, c10 _ (by omega), c11 _ (by omega), c12 _ (by omega), show 12 * fr + (4 * (c - 1) + k) = 4 * (3 * fr + c - 1) + k by omega]
      exact g3 k e hk
  · obtain ⟨g1, g2, g3, g4, g5, g6⟩ := h2 m hm
    refine ⟨(c13 m hm).trans g1, (c14 m hm).trans g2, (c15 m hm).trans g3, (c16 m hm).trans g4, g5, fun k e hk => ?_⟩
    have hk4 := (List.getElem?_eq_some_iff.mp hk).1
    rw [show 14 * (6 * to + m) + k = 84 * to + (14 * m + k) by omega, c17 _ (by omega), c18 _ (by omega), c19 _ (by omega), show 84 * fr + (14 * m + k) = 14 * (6 * fr + m) + k by omega]
    exact g6 k e hk
