/-! The reference: one program of its tables; layout, head, field -/
/-- how wide a program's block is in a table -/
def mw (i : Nat) : Nat := if i = 309 then 3 else if i = 310 ∨ i = 311 ∨ i = 312 then 12 else if i = 313 ∨ i = 314 ∨ i = 315 ∨ i = 316 then 6 else if i = 317 ∨ i = 318 ∨ i = 319 then 84 else if i = 320 ∨ i = 321 ∨ i = 322 then 1 else 0
/-- only program b's block may differ -/
def mPb (b : Nat) (s s' : am_S) : Prop := ∀ i k, ¬ (mw i * b ≤ k ∧ k < mw i * b + mw i) → s' i k = s i k
theorem mPb_rf (b : Nat) (s : am_S) : mPb b s s := fun _ _ _ => rfl
theorem mPb_tr {b : Nat} {s1 s2 s3 : am_S} (h : mPb b s1 s2) (h' : mPb b s2 s3) : mPb b s1 s3 := fun i k q => (h' i k q).trans (h i k q)
theorem mPb_wr {b i k : Nat} {v : Int32} (s : am_S) (h : mw i * b ≤ k ∧ k < mw i * b + mw i) : mPb b s (am_wr s i k v) := fun i' k' q => by
  rw [am_wr_at, if_neg]
  rintro ⟨rfl, rfl⟩
  exact q h
theorem mPb_row {b : Nat} {s s' : am_S} (h : mPb b s s') {i : Nat} (hi : mw i = 0) : s' i = s i := by
  funext k
  exact h i k (by rw [hi]; omega)
theorem mw_lo {i : Nat} (h : i < 309 ∨ 323 ≤ i) : mw i = 0 := by
  unfold mw
  rw [if_neg (by omega), if_neg (by omega), if_neg (by omega), if_neg (by omega), if_neg (by omega)]
theorem mPb_off {b : Nat} {s s' : am_S} (h : mPb b s s') : off 309 323 s s' := fun i hi => mPb_row h (mw_lo hi)
theorem MlC_other {b b' c : Nat} {s s' : am_S} {L : pLy} (h : mPb b s s') (hne : b' ≠ b) (hc : 1 ≤ c ∧ c ≤ 3) (hL : MlC s b' c L) : MlC s' b' c L := by
  have e0 : ∀ k, ¬ (3 * b ≤ k ∧ k < 3 * b + 3) → s' 309 k = s 309 k := fun k q => h 309 k q
  have e1 : ∀ k, ¬ (12 * b ≤ k ∧ k < 12 * b + 12) → s' 310 k = s 310 k := fun k q => h 310 k q
  have e2 : ∀ k, ¬ (12 * b ≤ k ∧ k < 12 * b + 12) → s' 311 k = s 311 k := fun k q => h 311 k q
  have e3 : ∀ k, ¬ (12 * b ≤ k ∧ k < 12 * b + 12) → s' 312 k = s 312 k := fun k q => h 312 k q
  obtain ⟨h1, h2, h3⟩ := hL
  refine ⟨by rw [e0 _ (by omega)]; exact h1, h2, fun k e hk => ?_⟩
  have := (List.getElem?_eq_some_iff.mp hk).1
  rw [e1 _ (by omega), e2 _ (by omega), e3 _ (by omega)]
  exact h3 k e hk
theorem MrC_other {b b' m : Nat} {s s' : am_S} {R : pRo} (h : mPb b s s') (hne : b' ≠ b) (hm : m < 6) (hR : MrC s (6 * b' + m) R) : MrC s' (6 * b' + m) R := by
  have e0 : ∀ k, ¬ (6 * b ≤ k ∧ k < 6 * b + 6) → s' 313 k = s 313 k := fun k q => h 313 k q
  have e1 : ∀ k, ¬ (6 * b ≤ k ∧ k < 6 * b + 6) → s' 314 k = s 314 k := fun k q => h 314 k q
  have e2 : ∀ k, ¬ (6 * b ≤ k ∧ k < 6 * b + 6) → s' 315 k = s 315 k := fun k q => h 315 k q
  have e3 : ∀ k, ¬ (6 * b ≤ k ∧ k < 6 * b + 6) → s' 316 k = s 316 k := fun k q => h 316 k q
  have e4 : ∀ k, ¬ (84 * b ≤ k ∧ k < 84 * b + 84) → s' 317 k = s 317 k := fun k q => h 317 k q
  have e5 : ∀ k, ¬ (84 * b ≤ k ∧ k < 84 * b + 84) → s' 318 k = s 318 k := fun k q => h 318 k q
  have e6 : ∀ k, ¬ (84 * b ≤ k ∧ k < 84 * b + 84) → s' 319 k = s 319 k := fun k q => h 319 k q
  obtain ⟨h1, h2, h3, h4, h5, h6⟩ := hR
  refine ⟨by rw [e0 _ (by omega)]; exact h1, by rw [e1 _ (by omega)]; exact h2, by rw [e2 _ (by omega)]; exact h3, by rw [e3 _ (by omega)]; exact h4, h5, fun k e hk => ?_⟩
  have := (List.getElem?_eq_some_iff.mp hk).1
  rw [e4 _ (by omega), e5 _ (by omega), e6 _ (by omega)]
  exact h6 k e hk
theorem MpC_other {b b' : Nat} {s s' : am_S} {G : pPg} (h : mPb b s s') (hne : b' ≠ b) (hG : MpC s b' G) : MpC s' b' G ∧ s' 322 b' = s 322 b' := by
  have e0 : ∀ k, ¬ (1 * b ≤ k ∧ k < 1 * b + 1) → s' 320 k = s 320 k := fun k q => h 320 k q
  have e1 : ∀ k, ¬ (1 * b ≤ k ∧ k < 1 * b + 1) → s' 321 k = s 321 k := fun k q => h 321 k q
  have e2 : ∀ k, ¬ (1 * b ≤ k ∧ k < 1 * b + 1) → s' 322 k = s 322 k := fun k q => h 322 k q
  obtain ⟨h1, h2, h3, h4⟩ := hG
  exact ⟨⟨fun c q1 q2 => MlC_other h hne ⟨q1, q2⟩ (h1 c q1 q2), fun m hm => MrC_other h hne hm (h2 m hm), by rw [e0 _ (by omega)]; exact h3, by rw [e1 _ (by omega)]; exact h4⟩, e2 _ (by omega)⟩
theorem MnC_same {s s' : am_S} {σ : pMc} (h : MnC s σ) (e : ∀ i, i = 308 ∨ 324 ≤ i → s' i = s i) : MnC s' σ := by
  obtain ⟨h1, h2, h3, h4, h5, h6, h7, h8⟩ := h
  refine ⟨by rw [e 308 (by omega)]; exact h1, h2, fun k F hk => ?_, by rw [e 308 (by omega)]; exact h4, by rw [e 308 (by omega)]; exact h5, fun j hj => by rw [e 330 (by omega), e 331 (by omega)]; exact h6 j hj, fun j hj => by rw [e 334 (by omega)]; exact h7 j hj, by rw [e 308 (by omega)]; exact h8⟩
  have := h3 k F hk
  unfold MfC at this ⊢
  rw [e 324 (by omega), e 325 (by omega), e 326 (by omega), e 329 (by omega), e 327 (by omega), e 328 (by omega)]
  exact this
theorem MdC_draft {s s' : am_S} {Z : pSg} {D : pPg} (hZ : MdC s Z) (h : mPb 4 s s') (hD : MpC s' 4 D) : MdC s' (D, Z.2) := by
  obtain ⟨h1, h2, h3, h4, h5, h6, h7⟩ := hZ
  have o := mPb_off h
  refine ⟨by rw [o 308 (by omega)]; exact h1, h2, hD, fun i hi => ?_, MnC_same h5 (fun i hi => o i (by omega)), by rw [o 308 (by omega)]; exact h6, by rw [o 308 (by omega)]; exact h7⟩
  have q : i ≤ Z.2.2.1 := hi
  have g := h4 i q
  have g2 := MpC_other h (show i ≠ 4 by omega) g.1
  exact ⟨g2.1, g2.2.trans g.2⟩
section SM2
variable {s : am_S} {Z : pSg} {Q : Option Value → am_H → Prop}
theorem in_isC (c : Int32) : (¬ c < 1 ∧ ¬ 3 < c) = isC c := rfl
theorem in_isN (c : Int32) : (¬ c < 0 ∧ ¬ 9 < c) = isN c := rfl
theorem in_isT (c : Int32) : (¬ c < 0 ∧ ¬ 3 < c) ↔ isT c := by
  constructor
  · rintro ⟨h1, h2⟩
    obtain ⟨k, hk, rfl⟩ := nI_of2 (M := 3) (n := 3) (by decide) h1 (Int32.not_lt.mp h2)
    rcases (show k = 0 ∨ k = 1 ∨ k = 2 ∨ k = 3 by omega) with rfl | rfl | rfl | rfl
    · exact Or.inl rfl
    · exact Or.inr (by unfold isC; decide)
    · exact Or.inr (by unfold isC; decide)
    · exact Or.inr (by unfold isC; decide)
  · intro h
    obtain ⟨e, h3⟩ := isT_n h
    rw [e]
    exact ⟨nI_pos (by omega), nI_nlt (a := 3) (by omega) (by omega)⟩
theorem in_isM (c : Int32) : (¬ c < 0 ∧ ¬ 5 < c) ↔ isM c := by
  constructor
  · rintro ⟨h1, h2⟩
    obtain ⟨k, hk, rfl⟩ := nI_of2 (M := 5) (n := 5) (by decide) h1 (Int32.not_lt.mp h2)
    exact ⟨h1, nI_ge (b := 6) (by omega) (by omega)⟩
  · intro h
    obtain ⟨e, h3⟩ := isM_n h
    rw [e]
    exact ⟨nI_pos (by omega), nI_nlt (a := 5) (by omega) (by omega)⟩
theorem e_M_layout (hZ : MdC s Z) (c : Int32) : mS f_M_layout [.ref 308, .int c] s (pLayout Z c) := by
  unfold pLayout
  by_cases hc : isC c
  · rw [zif_t hc]
    obtain ⟨e, k1, k3⟩ := isC_n hc
    obtain ⟨d1, d2, d3, d4⟩ := hZ.2.2.1
    have i12 := ix12 (cN c) (by omega) k1
    rw [← e] at i12
    have l4 := fun (s : am_S) => l_M_classes (s := s) (j := 4) (by omega)
    have w4 := fun (s : am_S) (v : Int32) => w_M_classes (s := s) (v := v) (j := 4) (by omega)
    rw [show nI 4 = 4 from rfl] at l4 w4
    have r1 : am_wr s 309 (3 * 4 + cN c - 1) 0 320 4 = Z.1.2.2.1 := by rw [am_wr_row _ (by omega)]; exact d3
    have m1 : mPb 4 s (am_wr s 309 (3 * 4 + cN c - 1) 0) := mPb_wr s (show 3 * 4 ≤ 3 * 4 + cN c - 1 ∧ 3 * 4 + cN c - 1 < 3 * 4 + 3 by omega)
    have m2 : mPb 4 (am_wr s 309 (3 * 4 + cN c - 1) 0) (am_wr (am_wr s 309 (3 * 4 + cN c - 1) 0) 320 4 (Z.1.2.2.1 ||| ((1 : Int32) <<< (c &&& 31)))) := mPb_wr _ (show 1 * 4 ≤ 4 ∧ 4 < 1 * 4 + 1 by omega)
    refine ⟨_, fun Q => ?_, MdC_draft hZ (mPb_tr m1 m2) ?_, off_up (mPb_off (mPb_tr m1 m2)) (by omega) (by omega)⟩
    · rw [c_M_layout]
      simp only [k_M_layout_0, k_M_layout_1, k_M_layout_2, k_M_layout_3, k_M_layout_6, k_M_layout_9, k_M_layout_10, k_M_layout_11, k_M_layout_12, k_M_layout_15, k_M_layout_17, k_M_layout_18, k_M_layout_19, k_M_layout_20, k_M_layout_21, k_M_layout_22, k_M_layout_23, k_M_layout_24, k_M_layout_27, k_M_layout_28, k_M_layout_29, k_M_layout_32, k_M_layout_33, k_M_layout_34, k_M_layout_35, k_M_layout_36, k_M_layout_37, k_M_layout_38, k_M_layout_39, k_M_layout_40, rc_n, e_M_in, in_isC, zb_t hc, hz10, g_M0, g_M1, g_M2, g_M3, g_M4, g_M5, g_M6, g_M7, g_M8, g_M9, g_M10, g_M11, g_M12, g_M13, g_M14, g_M15, g_M16, g_M17, g_M18, g_M19, g_M20, g_M21, g_M22, g_M23, g_M24, g_M25, g_M26, g_M27, g_M28, g_M29, g_M30, g_M31, g_M32, g_M33, i12, w_M_fields (show 3 * 4 + cN c - 1 < 15 by omega), l4, r1, w4, am_ob_s, List.tail_cons, List.tail_nil, Option.toList_some, Option.toList_none, List.nil_append, List.cons_append, List.length_nil, List.length_cons, Nat.zero_le, true_and, and_true, true_implies, false_implies, not_true_eq_false, not_false_eq_true, implies_true, or_true, true_or, Nat.reduceAdd, Nat.reduceLeDiff]
    · refine ⟨fun d q1 q2 => ?_, fun m hm => ?_, am_wr_self _ _ _ _, by rw [am_wr_row _ (by omega), am_wr_row _ (by omega)]; exact d4⟩
      · have g := d1 d q1 q2
        unfold MlC at g ⊢
        rw [am_wr_row (i' := 309) _ (by omega), am_wr_row (i' := 310) _ (by omega), am_wr_row (i' := 310) _ (by omega), am_wr_row (i' := 311) _ (by omega), am_wr_row (i' := 311) _ (by omega), am_wr_row (i' := 312) _ (by omega), am_wr_row (i' := 312) _ (by omega)]
        dsimp only
        by_cases q : d = cN c
        · rw [q, pSt_s, am_wr_self]
          exact ⟨rfl, by simp, fun k e hk => by simp at hk⟩
        · rw [pSt_n q, am_wr_col _ (by omega)]
          exact g
      · have g := d2 m hm
        unfold MrC at g ⊢
        rw [am_wr_row (i' := 313) _ (by omega), am_wr_row (i' := 313) _ (by omega), am_wr_row (i' := 314) _ (by omega), am_wr_row (i' := 314) _ (by omega), am_wr_row (i' := 315) _ (by omega), am_wr_row (i' := 315) _ (by omega), am_wr_row (i' := 316) _ (by omega), am_wr_row (i' := 316) _ (by omega), am_wr_row (i' := 317) _ (by omega), am_wr_row (i' := 317) _ (by omega), am_wr_row (i' := 318) _ (by omega), am_wr_row (i' := 318) _ (by omega), am_wr_row (i' := 319) _ (by omega), am_wr_row (i' := 319) _ (by omega)]
        exact g
  · rw [zif_f hc]
    refine ⟨s, fun Q => ?_, hZ, off_rf _ _ _⟩
    rw [c_M_layout]
    simp only [k_M_layout_0, k_M_layout_1, k_M_layout_2, k_M_layout_3, k_M_layout_6, k_M_layout_9, k_M_layout_10, rc_n, e_M_in, in_isC, zb_f hc, am_ob_s, List.tail_cons, List.tail_nil, Option.toList_some, Option.toList_none, List.nil_append, List.cons_append, List.length_nil, List.length_cons, Nat.zero_le, true_and, and_true, true_implies, false_implies, not_true_eq_false, not_false_eq_true, implies_true, or_true, true_or, Nat.reduceAdd, Nat.reduceLeDiff]
end SM2
