/-! The reference: start, born -/
theorem fre_iff (cl : Nat → Nat) : ∀ (r j : Nat), fre cl j (r + 1) = if cl j = 0 then some j else fre cl (j + 1) r := fun _ _ => rfl
theorem cnt_leM (cl : Nat → Nat) : ∀ j, cnt cl j ≤ j
  | 0 => Nat.le_refl 0
  | j + 1 => by
    have := cnt_leM cl j
    unfold cnt
    split <;> omega
section SM23
variable {s : am_S}
theorem MnC_st {FS : List pFr} {st rs : Int32} {ω : (Nat → Nat) × (Nat → Nat → Int32) × (Nat → Int32) × Int32} (h : MnC s (FS, st, rs, ω)) (v : Int32) : MnC (am_wr s 308 19 v) (FS, v, rs, ω) := by
  obtain ⟨n1, n2, n3, n4, n5, n6, n7, n8⟩ := h
  refine ⟨by rw [am_wr_col _ (by omega)]; exact n1, n2, fun k F hk => ?_, am_wr_self _ _ _ _, by rw [am_wr_col _ (by omega)]; exact n5, fun j hj => by rw [am_wr_row _ (by omega), am_wr_row _ (by omega)]; exact n6 j hj, fun j hj => by rw [am_wr_row _ (by omega)]; exact n7 j hj, by rw [am_wr_col _ (by omega)]; exact n8⟩
  have := n3 k F hk
  unfold MfC at this ⊢
  rw [am_wr_row (i' := 324) _ (by omega), am_wr_row (i' := 325) _ (by omega), am_wr_row (i' := 326) _ (by omega), am_wr_row (i' := 327) _ (by omega), am_wr_row (i' := 328) _ (by omega), am_wr_row (i' := 329) _ (by omega)]
  exact this
theorem MnC_rs {FS : List pFr} {st rs : Int32} {ω : (Nat → Nat) × (Nat → Nat → Int32) × (Nat → Int32) × Int32} (h : MnC s (FS, st, rs, ω)) (v : Int32) : MnC (am_wr s 308 20 v) (FS, st, v, ω) := by
  obtain ⟨n1, n2, n3, n4, n5, n6, n7, n8⟩ := h
  refine ⟨by rw [am_wr_col _ (by omega)]; exact n1, n2, fun k F hk => ?_, by rw [am_wr_col _ (by omega)]; exact n4, am_wr_self _ _ _ _, fun j hj => by rw [am_wr_row _ (by omega), am_wr_row _ (by omega)]; exact n6 j hj, fun j hj => by rw [am_wr_row _ (by omega)]; exact n7 j hj, by rw [am_wr_col _ (by omega)]; exact n8⟩
  have := n3 k F hk
  unfold MfC at this ⊢
  rw [am_wr_row (i' := 324) _ (by omega), am_wr_row (i' := 325) _ (by omega), am_wr_row (i' := 326) _ (by omega), am_wr_row (i' := 327) _ (by omega), am_wr_row (i' := 328) _ (by omega), am_wr_row (i' := 329) _ (by omega)]
  exact this
/-- fewer frames -/
theorem MnC_fr {FS FS' : List pFr} {ρ : pRh} (h : MnC s (FS ++ FS', ρ)) : MnC (am_wr s 308 21 (nI FS'.length)) (FS', ρ) := by
  obtain ⟨n1, n2, n3, n4, n5, n6, n7, n8⟩ := h
  refine ⟨am_wr_self _ _ _ _, by have : (FS ++ FS').length ≤ 8 := n2; rw [List.length_append] at this; show FS'.length ≤ 8; omega, fun k F hk => ?_, by rw [am_wr_col _ (by omega)]; exact n4, by rw [am_wr_col _ (by omega)]; exact n5, fun j hj => by rw [am_wr_row _ (by omega), am_wr_row _ (by omega)]; exact n6 j hj, fun j hj => by rw [am_wr_row _ (by omega)]; exact n7 j hj, by rw [am_wr_col _ (by omega)]; exact n8⟩
  have := n3 k F (by
    show (FS ++ FS').reverse[k]? = some F
    rw [List.reverse_append, List.getElem?_append_left (List.getElem?_eq_some_iff.mp hk).1]
    exact hk)
  unfold MfC at this ⊢
  rw [am_wr_row (i' := 324) _ (by omega), am_wr_row (i' := 325) _ (by omega), am_wr_row (i' := 326) _ (by omega), am_wr_row (i' := 327) _ (by omega), am_wr_row (i' := 328) _ (by omega), am_wr_row (i' := 329) _ (by omega)]
  exact this
theorem MnC_0 {FS : List pFr} {ρ : pRh} (h : MnC s (FS, ρ)) : MnC (am_wr s 308 21 0) ([], ρ) := by
  have := MnC_fr (s := s) (FS := FS) (FS' := []) (ρ := ρ) (by rw [List.append_nil]; exact h)
  exact this
theorem e_M_start {Z : pSg} (hZ : MdC s Z) (hok : okP (Z.2.1 0)) (m : Int32) : mS f_M_start [.ref 308, .int m] s (pStart Z m) := by
  have hN := hZ.2.2.2.2.1
  have hst := hN.2.2.2.1
  have g0 := (hZ.2.2.2.1 0 (by omega)).1
  have zm : zb (¬ m < 0 ∧ ¬ 5 < m) = zb (isM m) := zb_e (in_isM m)
  have no : ¬ okStart Z m → (∀ Q : Option Value → am_H → Prop, am_C f_M_start [.ref 308, .int m] (TP, s) Q ↔ Q (some (.int 0)) (TP, s)) → mS f_M_start [.ref 308, .int m] s (pStart Z m) := fun q1 q2 => by
    unfold pStart
    rw [zif_f q1]
    exact ⟨s, q2, hZ, off_rf _ _ _⟩
  by_cases h1 : Z.2.2.2.1.2.1 = 1
  · exact no (fun q => q.1 h1) (fun Q => by
      rw [c_M_start]
      simp only [k_M_start_0, k_M_start_1, k_M_start_4, k_M_start_5, k_M_start_8, k_M_start_9, k_M_start_10, k_M_start_11, k_M_start_14, k_M_start_17, k_M_start_18, k_M_start_21, k_M_start_22, k_M_start_23, k_M_start_26, k_M_start_27, k_M_start_30, k_M_start_31, k_M_start_32, k_M_start_35, k_M_start_36, k_M_start_39, k_M_start_40, k_M_start_41, k_M_start_44, k_M_start_45, g_M0, g_M1, g_M2, g_M3, g_M4, g_M5, g_M6, g_M7, g_M8, g_M9, g_M10, g_M11, g_M12, g_M13, g_M14, g_M15, g_M16, g_M17, g_M18, g_M19, g_M20, g_M21, g_M22, g_M23, g_M24, g_M25, g_M26, g_M27, g_M28, g_M29, g_M30, g_M31, g_M32, g_M33, hst, h1, am_ob_s, List.tail_cons, List.tail_nil, Option.toList_some, Option.toList_none, List.nil_append, List.cons_append, List.length_nil, List.length_cons, Nat.zero_le, true_and, and_true, true_implies, false_implies, not_true_eq_false, not_false_eq_true, implies_true, or_true, true_or, Nat.reduceAdd, Nat.reduceLeDiff])
  rcases (Classical.em (isM m)).symm with h2 | h2
  · exact no (fun q => h2 q.2.1) (fun Q => by
      rw [c_M_start]
      simp only [k_M_start_0, k_M_start_1, k_M_start_4, k_M_start_5, k_M_start_8, k_M_start_9, k_M_start_10, k_M_start_11, k_M_start_14, k_M_start_17, k_M_start_18, k_M_start_21, k_M_start_22, k_M_start_23, k_M_start_26, k_M_start_27, k_M_start_30, k_M_start_31, k_M_start_32, k_M_start_35, k_M_start_36, k_M_start_39, k_M_start_40, k_M_start_41, k_M_start_44, k_M_start_45, g_M0, g_M1, g_M2, g_M3, g_M4, g_M5, g_M6, g_M7, g_M8, g_M9, g_M10, g_M11, g_M12, g_M13, g_M14, g_M15, g_M16, g_M17, g_M18, g_M19, g_M20, g_M21, g_M22, g_M23, g_M24, g_M25, g_M26, g_M27, g_M28, g_M29, g_M30, g_M31, g_M32, g_M33, hst, h1, rc_n, e_M_in, zm, zb_f h2, am_ob_s, List.tail_cons, List.tail_nil, Option.toList_some, Option.toList_none, List.nil_append, List.cons_append, List.length_nil, List.length_cons, Nat.zero_le, true_and, and_true, true_implies, false_implies, not_true_eq_false, not_false_eq_true, implies_true, or_true, true_or, Nat.reduceAdd, Nat.reduceLeDiff])
  obtain ⟨em, hm⟩ := isM_n h2
  have g := g0.2.1 (cN m) hm
  rw [Nat.mul_zero, Nat.zero_add] at g
  have okr := hok.1 _ hm
  have h14 := g.2.2.2.2.1
  have h30 : cN m < 30 := by omega
  have ll := l_M_length (s := s) h30
  have lp := l_M_parameters (s := s) h30
  have lg := l_M_gives (s := s) h30
  rw [← em, g.2.2.2.1] at ll
  rw [← em, g.1] at lp
  rw [← em, g.2.2.1] at lg
  rcases (Classical.em (0 < ((Z.2.1 0).2.1 (cN m)).2.2.2.length)).symm with h3 | h3
  · have h3' : nI ((Z.2.1 0).2.1 (cN m)).2.2.2.length = 0 := by rw [show ((Z.2.1 0).2.1 (cN m)).2.2.2.length = 0 by omega]; rfl
    exact no (fun q => h3 q.2.2.1) (fun Q => by
      rw [c_M_start]
      simp only [k_M_start_0, k_M_start_1, k_M_start_4, k_M_start_5, k_M_start_8, k_M_start_9, k_M_start_10, k_M_start_11, k_M_start_14, k_M_start_17, k_M_start_18, k_M_start_21, k_M_start_22, k_M_start_23, k_M_start_26, k_M_start_27, k_M_start_30, k_M_start_31, k_M_start_32, k_M_start_35, k_M_start_36, k_M_start_39, k_M_start_40, k_M_start_41, k_M_start_44, k_M_start_45, g_M0, g_M1, g_M2, g_M3, g_M4, g_M5, g_M6, g_M7, g_M8, g_M9, g_M10, g_M11, g_M12, g_M13, g_M14, g_M15, g_M16, g_M17, g_M18, g_M19, g_M20, g_M21, g_M22, g_M23, g_M24, g_M25, g_M26, g_M27, g_M28, g_M29, g_M30, g_M31, g_M32, g_M33, hst, h1, rc_n, e_M_in, zm, zb_t h2, hz10, ll, h3', am_ob_s, List.tail_cons, List.tail_nil, Option.toList_some, Option.toList_none, List.nil_append, List.cons_append, List.length_nil, List.length_cons, Nat.zero_le, true_and, and_true, true_implies, false_implies, not_true_eq_false, not_false_eq_true, implies_true, or_true, true_or, Nat.reduceAdd, Nat.reduceLeDiff])
  have h3' : ¬ nI ((Z.2.1 0).2.1 (cN m)).2.2.2.length = 0 := nI_ne0 (by omega) (by omega)
  rcases (Classical.em (((Z.2.1 0).2.1 (cN m)).1 = 0)).symm with h4 | h4
  · have h4' : 0 < nI ((Z.2.1 0).2.1 (cN m)).1 := nI_lt (a := 0) (by omega) (by have := okr.1; omega)
    exact no (fun q => h4 q.2.2.2.1) (fun Q => by
      rw [c_M_start]
      simp only [k_M_start_0, k_M_start_1, k_M_start_4, k_M_start_5, k_M_start_8, k_M_start_9, k_M_start_10, k_M_start_11, k_M_start_14, k_M_start_17, k_M_start_18, k_M_start_21, k_M_start_22, k_M_start_23, k_M_start_26, k_M_start_27, k_M_start_30, k_M_start_31, k_M_start_32, k_M_start_35, k_M_start_36, k_M_start_39, k_M_start_40, k_M_start_41, k_M_start_44, k_M_start_45, g_M0, g_M1, g_M2, g_M3, g_M4, g_M5, g_M6, g_M7, g_M8, g_M9, g_M10, g_M11, g_M12, g_M13, g_M14, g_M15, g_M16, g_M17, g_M18, g_M19, g_M20, g_M21, g_M22, g_M23, g_M24, g_M25, g_M26, g_M27, g_M28, g_M29, g_M30, g_M31, g_M32, g_M33, hst, h1, rc_n, e_M_in, zm, zb_t h2, hz10, ll, h3', lp, h4', am_ob_s, List.tail_cons, List.tail_nil, Option.toList_some, Option.toList_none, List.nil_append, List.cons_append, List.length_nil, List.length_cons, Nat.zero_le, true_and, and_true, true_implies, false_implies, not_true_eq_false, not_false_eq_true, implies_true, or_true, true_or, Nat.reduceAdd, Nat.reduceLeDiff])
  have h4' : ¬ (0 : Int32) < nI ((Z.2.1 0).2.1 (cN m)).1 := by rw [h4]; decide
  rcases (Classical.em (((Z.2.1 0).2.1 (cN m)).2.2.1 = 0)).symm with h5 | h5
  · have h5' : ¬ nI ((Z.2.1 0).2.1 (cN m)).2.2.1 = 0 := nI_ne0 (by omega) (by have := okr.2.2; omega)
    exact no (fun q => h5 q.2.2.2.2) (fun Q => by
      rw [c_M_start]
      simp only [k_M_start_0, k_M_start_1, k_M_start_4, k_M_start_5, k_M_start_8, k_M_start_9, k_M_start_10, k_M_start_11, k_M_start_14, k_M_start_17, k_M_start_18, k_M_start_21, k_M_start_22, k_M_start_23, k_M_start_26, k_M_start_27, k_M_start_30, k_M_start_31, k_M_start_32, k_M_start_35, k_M_start_36, k_M_start_39, k_M_start_40, k_M_start_41, k_M_start_44, k_M_start_45, g_M0, g_M1, g_M2, g_M3, g_M4, g_M5, g_M6, g_M7, g_M8, g_M9, g_M10, g_M11, g_M12, g_M13, g_M14, g_M15, g_M16, g_M17, g_M18, g_M19, g_M20, g_M21, g_M22, g_M23, g_M24, g_M25, g_M26, g_M27, g_M28, g_M29, g_M30, g_M31, g_M32, g_M33, hst, h1, rc_n, e_M_in, zm, zb_t h2, hz10, ll, h3', lp, h4', lg, h5', am_ob_s, List.tail_cons, List.tail_nil, Option.toList_some, Option.toList_none, List.nil_append, List.cons_append, List.length_nil, List.length_cons, Nat.zero_le, true_and, and_true, true_implies, false_implies, not_true_eq_false, not_false_eq_true, implies_true, or_true, true_or, Nat.reduceAdd, Nat.reduceLeDiff])
  have h5' : nI ((Z.2.1 0).2.1 (cN m)).2.2.1 = 0 := by rw [h5]; rfl
  obtain ⟨D, P, w, ⟨FS, st, rs, ω⟩, am⟩ := Z
  have N3 := MnC_0 (MnC_rs (MnC_st hN 1) 0)
  obtain ⟨s1, a1, a2, a3⟩ := e_M_begin (m := cN m) (g := 0) (l := fun _ => 0) N3 (by simp) (by omega) (fun i hi => by omega)
  rw [← em, nI_0] at a1
  have ef : (fun i : Nat => if i < 0 then (fun _ => (0 : Int32)) i else 0) = fun _ => 0 := by
    funext i
    exact if_neg (by omega)
  rw [ef] at a2
  have mr : mR s s1 := mR_tr (mR_tr (mR_tr (mR_w8 _ (by omega)) (mR_w8 _ (by omega))) (mR_w8 _ (by omega))) a3
  unfold pStart
  rw [zif_t ⟨h1, h2, h3, h4, h5⟩]
  refine ⟨s1, fun Q => ?_, MdC_r hZ mr a2, mR_off mr⟩
  rw [c_M_start]
  simp only [k_M_start_0, k_M_start_1, k_M_start_4, k_M_start_5, k_M_start_8, k_M_start_9, k_M_start_10, k_M_start_11, k_M_start_14, k_M_start_17, k_M_start_18, k_M_start_21, k_M_start_22, k_M_start_23, k_M_start_26, k_M_start_27, k_M_start_30, k_M_start_31, k_M_start_32, k_M_start_35, k_M_start_36, k_M_start_39, k_M_start_40, k_M_start_41, k_M_start_44, k_M_start_45, k_M_start_46, k_M_start_47, k_M_start_48, k_M_start_51, k_M_start_52, k_M_start_53, k_M_start_56, k_M_start_57, k_M_start_58, k_M_start_61, k_M_start_62, k_M_start_63, k_M_start_64, k_M_start_67, k_M_start_68, g_M0, g_M1, g_M2, g_M3, g_M4, g_M5, g_M6, g_M7, g_M8, g_M9, g_M10, g_M11, g_M12, g_M13, g_M14, g_M15, g_M16, g_M17, g_M18, g_M19, g_M20, g_M21, g_M22, g_M23, g_M24, g_M25, g_M26, g_M27, g_M28, g_M29, g_M30, g_M31, g_M32, g_M33, hst, h1, rc_n, rc_M, e_M_in, zm, zb_t h2, hz10, ll, h3', lp, h4', lg, h5', p_M19, p_M20, p_M21, a1, am_ob_s, List.tail_cons, List.tail_nil, Option.toList_some, Option.toList_none, List.nil_append, List.cons_append, List.length_nil, List.length_cons, Nat.zero_le, true_and, and_true, true_implies, false_implies, not_true_eq_false, not_false_eq_true, implies_true, or_true, true_or, Nat.reduceAdd, Nat.reduceLeDiff]
theorem m_zero4 {j : Nat} (hj : j < 16) {c : Nat} : ∀ (r k : Nat), k + r = 4 → ∀ (s1 : am_S), (∀ i q, ¬ (i = 331 ∧ 4 * (j + 1) ≤ q ∧ q < 4 * (j + 1) + 4) → s1 i q = s i q) → (∀ i, i < k → s1 331 (4 * (j + 1) + i) = 0) → ∀ (jk : List Value), ∃ s', (∀ Q : Option Value → am_H → Prop, am_W m_M_born 39 (.ref 308 :: .int (nI c) :: .int (nI (j + 1)) :: .int (nI k) :: jk) [] (TP, s1) Q ↔ Q (some (.int (nI (j + 1)))) (TP, s')) ∧ (∀ i q, ¬ (i = 331 ∧ 4 * (j + 1) ≤ q ∧ q < 4 * (j + 1) + 4) → s' i q = s i q) ∧ ∀ i, i < 4 → s' 331 (4 * (j + 1) + i) = 0 := by
  intro r
  induction r with
  | zero =>
    intro k hk s1 hO hw jk
    obtain rfl : k = 4 := by omega
    have h1 : (4 : Int32) ≤ nI 4 := by decide
    refine ⟨s1, fun Q => ?_, hO, hw⟩
    rw [k_M_born_39]
    simp only [k_M_born_40, k_M_born_41, k_M_born_61, k_M_born_62, h1, am_ob_s, List.tail_cons, List.tail_nil, Option.toList_some, Option.toList_none, List.nil_append, List.cons_append, List.length_nil, List.length_cons, Nat.zero_le, true_and, and_true, true_implies, false_implies, not_true_eq_false, not_false_eq_true, implies_true, or_true, true_or, Nat.reduceAdd, Nat.reduceLeDiff]
  | succ r ih =>
    intro k hk s1 hO hw jk
    have h1 : ¬ (4 : Int32) ≤ nI k := nI_ge (b := 4) (by omega) (by decide)
    have i17 := ix17 (j + 1) (by omega) k (by omega)
    have wl := w_M_held (s := s1) (v := 0) (show 4 * (j + 1) + k < 68 by omega)
    obtain ⟨s', a1, a2, a3⟩ := ih (k + 1) (by omega) (am_wr s1 331 (4 * (j + 1) + k) 0) (fun i q hq => by rw [am_wr_at, if_neg (by omega)]; exact hO i q hq) (fun i hi => by
      by_cases q : i = k
      · rw [q, am_wr_self]
      · rw [am_wr_col _ (by omega)]
        exact hw i (by omega)) jk
    refine ⟨s', fun Q => ?_, a2, a3⟩
    rw [k_M_born_39]
    simp only [k_M_born_40, k_M_born_41, k_M_born_44, k_M_born_45, k_M_born_48, k_M_born_49, k_M_born_50, k_M_born_51, k_M_born_52, k_M_born_53, k_M_born_54, k_M_born_55, k_M_born_58, g_M0, g_M1, g_M2, g_M3, g_M4, g_M5, g_M6, g_M7, g_M8, g_M9, g_M10, g_M11, g_M12, g_M13, g_M14, g_M15, g_M16, g_M17, g_M18, g_M19, g_M20, g_M21, g_M22, g_M23, g_M24, g_M25, g_M26, g_M27, g_M28, g_M29, g_M30, g_M31, g_M32, g_M33, h1, i17, wl, nI_1, am_ob_s, List.tail_cons, List.tail_nil, Option.toList_some, Option.toList_none, List.nil_append, List.cons_append, List.length_nil, List.length_cons, Nat.zero_le, true_and, and_true, true_implies, false_implies, not_true_eq_false, not_false_eq_true, implies_true, or_true, true_or, Nat.reduceAdd, Nat.reduceLeDiff]
    exact a1 Q
theorem m_bornL {cl : Nat → Nat} {vl : Nat → Nat → Int32} {c : Nat} (hc : c < 4) (hM : MhC s cl vl) : ∀ (r j : Nat), j + r = 16 → ∀ (jk : List Value), ∃ s', (∀ Q : Option Value → am_H → Prop, am_W m_M_born 15 (.ref 308 :: .int (nI c) :: .int (nI (j + 1)) :: jk) [] (TP, s) Q ↔ Q (some (.int (match fre cl j r with
    | none => 0
    | some j => nI (j + 1)))) (TP, s')) ∧ MhC s' (match fre cl j r with
    | none => cl
    | some j => pSt cl j c) (match fre cl j r with
    | none => vl
    | some j => pSt vl j (fun _ => 0)) ∧ ∀ i, i ≠ 330 → i ≠ 331 → s' i = s i := by
  intro r
  induction r with
  | zero =>
    intro j hj jk
    obtain rfl : j = 16 := by omega
    have h1 : (16 : Int32) < nI (16 + 1) := by decide
    refine ⟨s, fun Q => ?_, hM, fun i _ _ => rfl⟩
    rw [k_M_born_15]
    simp only [k_M_born_16, k_M_born_18, k_M_born_69, k_M_born_70, h1, fre, am_ob_s, List.tail_cons, List.tail_nil, Option.toList_some, Option.toList_none, List.nil_append, List.cons_append, List.length_nil, List.length_cons, Nat.zero_le, true_and, and_true, true_implies, false_implies, not_true_eq_false, not_false_eq_true, implies_true, or_true, true_or, Nat.reduceAdd, Nat.reduceLeDiff]
  | succ r ih =>
    intro j hj jk
    have h1 : ¬ (16 : Int32) < nI (j + 1) := nI_nlt (a := 16) (by omega) (by omega)
    have hj17 : j + 1 < 17 := by omega
    have lm := l_M_made (s := s) hj17
    obtain ⟨m1, m2, m3⟩ := hM j (by omega)
    rw [m1] at lm
    rw [fre_iff]
    by_cases q : cl j = 0
    · rw [if_pos q]
      have z : nI (cl j) = 0 := by rw [q]; rfl
      obtain ⟨s', a1, a2, a3⟩ := m_zero4 (s := am_wr s 330 (j + 1) (nI c)) (show j < 16 by omega) (c := c) 4 0 (by omega) _ (fun i q _ => rfl) (fun i hi => by omega) jk.tail
      rw [nI_0] at a1
      have oo : ∀ i, i ≠ 331 → s' i = am_wr s 330 (j + 1) (nI c) i := fun i w => by
        funext k
        exact a2 i k (fun w2 => w w2.1)
      refine ⟨s', fun Q => ?_, fun i hi => ?_, fun i w1 w2 => by rw [oo i w2, am_wr_row _ w1]⟩
      · rw [k_M_born_15]
        simp only [k_M_born_16, k_M_born_18, k_M_born_21, k_M_born_22, k_M_born_25, k_M_born_26, k_M_born_27, k_M_born_30, k_M_born_31, k_M_born_34, k_M_born_35, k_M_born_36, k_M_born_37, k_M_born_38, g_M0, g_M1, g_M2, g_M3, g_M4, g_M5, g_M6, g_M7, g_M8, g_M9, g_M10, g_M11, g_M12, g_M13, g_M14, g_M15, g_M16, g_M17, g_M18, g_M19, g_M20, g_M21, g_M22, g_M23, g_M24, g_M25, g_M26, g_M27, g_M28, g_M29, g_M30, g_M31, g_M32, g_M33, h1, lm, z, w_M_made hj17, am_ob_s, List.tail_cons, List.tail_nil, Option.toList_some, Option.toList_none, List.nil_append, List.cons_append, List.length_nil, List.length_cons, Nat.zero_le, true_and, and_true, true_implies, false_implies, not_true_eq_false, not_false_eq_true, implies_true, or_true, true_or, Nat.reduceAdd, Nat.reduceLeDiff]
        exact a1 Q
      · dsimp only
        rw [oo 330 (by omega)]
        by_cases w : i = j
        · rw [w, pSt_s, pSt_s, am_wr_self]
          exact ⟨rfl, hc, a3⟩
        · rw [pSt_n w, pSt_n w, am_wr_col _ (by omega)]
          obtain ⟨w1, w2, w3⟩ := hM i hi
          refine ⟨w1, w2, fun k hk => ?_⟩
          rw [a2 331 _ (by omega), am_wr_row _ (by omega)]
          exact w3 k hk
    · rw [if_neg q]
      have z : ¬ nI (cl j) = 0 := nI_ne0 (by omega) (by omega)
      obtain ⟨s', a1, a2, a3⟩ := ih (j + 1) (by omega) jk
      refine ⟨s', fun Q => ?_, a2, a3⟩
      rw [k_M_born_15]
      simp only [k_M_born_16, k_M_born_18, k_M_born_21, k_M_born_22, k_M_born_25, k_M_born_26, k_M_born_27, k_M_born_63, k_M_born_66, g_M0, g_M1, g_M2, g_M3, g_M4, g_M5, g_M6, g_M7, g_M8, g_M9, g_M10, g_M11, g_M12, g_M13, g_M14, g_M15, g_M16, g_M17, g_M18, g_M19, g_M20, g_M21, g_M22, g_M23, g_M24, g_M25, g_M26, g_M27, g_M28, g_M29, g_M30, g_M31, g_M32, g_M33, h1, lm, z, nI_1, am_ob_s, List.tail_cons, List.tail_nil, Option.toList_some, Option.toList_none, List.nil_append, List.cons_append, List.length_nil, List.length_cons, Nat.zero_le, true_and, and_true, true_implies, false_implies, not_true_eq_false, not_false_eq_true, implies_true, or_true, true_or, Nat.reduceAdd, Nat.reduceLeDiff]
      exact a1 Q
theorem e_M_born {P : pPg} {FS : List pFr} {st rs on : Int32} {cl : Nat → Nat} {vl : Nat → Nat → Int32} {ou : Nat → Int32} {c : Nat} (hc : c < 4) (hN : MnC s (FS, st, rs, cl, vl, ou, on)) (hP : MpC s 0 P) (hK : ∀ m, m < 6 → (P.2.1 m).2.1 < 256) (hF : ∀ F ∈ FS, okRF (P.2.1 F.1).2.1 F) (hR : okRR cl vl P.1) (hlive : ∀ j, j ∈ pLs P FS cl vl → cl j ≠ 0) : nS f_M_born [.ref 308, .int (nI c)] s (some (.int (match fre (pRoom P FS cl vl) 0 16 with
    | none => 0
    | some j => nI (j + 1)))) (FS, st, rs, (match fre (pRoom P FS cl vl) 0 16 with
    | none => pRoom P FS cl vl
    | some j => pSt (pRoom P FS cl vl) j c), (match fre (pRoom P FS cl vl) 0 16 with
    | none => vl
    | some j => pSt vl j (fun _ => 0)), ou, on) := by
  have ob := fun (Q : Option Value → am_H → Prop) => e_M_objects0 (Q := Q) hN.2.2.2.2.2.1
  have hle := cnt_leM cl 16
  have first : ∃ s1, (∀ Q : Option Value → am_H → Prop, am_C f_M_born [.ref 308, .int (nI c)] (TP, s) Q ↔ am_W m_M_born 15 [.ref 308, .int (nI c), .int 1] [] (TP, s1) Q) ∧ MnC s1 (FS, st, rs, pRoom P FS cl vl, vl, ou, on) ∧ mR s s1 := by
    unfold pRoom
    by_cases q : cnt cl 16 < 16
    · have z : ¬ nI (cnt cl 16) = 16 := fun w => by
        have := (nI_eq (b := 16) (by omega) (by omega)).mp w
        omega
      rw [if_pos q]
      refine ⟨s, fun Q => ?_, hN, mR_rf _⟩
      rw [c_M_born]
      simp only [k_M_born_0, k_M_born_1, k_M_born_4, k_M_born_6, k_M_born_9, k_M_born_10, k_M_born_13, k_M_born_14, rc_M, ob, z, am_ob_s, List.tail_cons, List.tail_nil, Option.toList_some, Option.toList_none, List.nil_append, List.cons_append, List.length_nil, List.length_cons, Nat.zero_le, true_and, and_true, true_implies, false_implies, not_true_eq_false, not_false_eq_true, implies_true, or_true, true_or, Nat.reduceAdd, Nat.reduceLeDiff]
    · have z : nI (cnt cl 16) = 16 := by rw [show cnt cl 16 = 16 by omega]; rfl
      obtain ⟨s1, a1, a2, a3⟩ := e_M_collect hN hP hK hF hR hlive
      rw [if_neg q]
      refine ⟨s1, fun Q => ?_, a2, ⟨fun i q1 q2 => a3 i (by omega) (by omega), fun k hk => by rw [a3 308 (by omega) (by omega)]⟩⟩
      rw [c_M_born]
      simp only [k_M_born_0, k_M_born_1, k_M_born_4, k_M_born_6, k_M_born_9, k_M_born_10, k_M_born_13, k_M_born_14, rc_M, ob, z, a1, am_ob_s, List.tail_cons, List.tail_nil, Option.toList_some, Option.toList_none, List.nil_append, List.cons_append, List.length_nil, List.length_cons, Nat.zero_le, true_and, and_true, true_implies, false_implies, not_true_eq_false, not_false_eq_true, implies_true, or_true, true_or, Nat.reduceAdd, Nat.reduceLeDiff]
  obtain ⟨s1, a1, a2, a3⟩ := first
  obtain ⟨s2, b1, b2, b3⟩ := m_bornL hc a2.2.2.2.2.2.1 16 0 (by omega) []
  rw [show nI (0 + 1) = 1 from rfl] at b1
  refine ⟨s2, fun Q => (a1 Q).trans (b1 Q), MnC_mk a2 (fun i q1 q2 q3 q4 q5 q6 => b3 i q3 q4) (fun k q1 q2 => by rw [b3 308 (by omega) (by omega)]) b2, mR_tr a3 ⟨fun i q1 q2 => b3 i (by omega) (by omega), fun k hk => by rw [b3 308 (by omega) (by omega)]⟩⟩
end SM23
