/-! The reference: the answers that change nothing -/
section SM8
variable {s : am_S} {Z : pSg} {Q : Option Value → am_H → Prop}
theorem nI_back {n j : Nat} (h : j < n) : nI n - 1 - nI j = nI (n - 1 - j) := by
  have e1 : nI n = nI (n - 1 - j) + nI j + 1 := by
    rw [nI_add, nI_1]
    exact congrArg nI (by omega)
  rw [e1]
  simp [Int32.add_sub_cancel]
theorem e_M_output (hZ : MdC s Z) (v : Int32) : am_C f_M_output [.ref 308, .int v] (TP, s) Q ↔ Q (some (.int (pOut Z v))) (TP, s) := by
  have h := hZ.2.2.2.2.1.2.2.2.2.2.2
  obtain ⟨j, hj, e⟩ := x16_lt (Z.2.2.2.1.2.2.2.2.2.2 - 1 - v)
  have hv := h.1 j hj
  have in16 : (¬ v < 0 ∧ ¬ 15 < v) ↔ (¬ v < 0 ∧ ¬ 16 ≤ v) := by
    constructor
    · rintro ⟨q1, q2⟩
      refine ⟨q1, fun q => ?_⟩
      obtain ⟨k, hk, rfl⟩ := nI_of2 (M := 15) (n := 15) (by decide) q1 (Int32.not_lt.mp q2)
      exact nI_ge (b := 16) (by omega) (by omega) q
    · rintro ⟨q1, q2⟩
      refine ⟨q1, fun q => q2 ?_⟩
      obtain ⟨k, hk, rfl⟩ := nI_of q1
      have : ¬ k < 16 := fun q3 => nI_nlt (a := 15) (by omega) (by omega) q
      exact nI_le (a := 16) (by omega) hk
  rw [c_M_output]
  unfold pOut
  rw [e, nI_clamp (by omega), ← hv]
  by_cases h1 : ¬ v < 0 ∧ ¬ 16 ≤ v
  · by_cases h2 : v < Z.2.2.2.1.2.2.2.2.2.2
    · rw [zif_f (fun q => q.elim h1.1 (fun q => q.elim h1.2 (fun q => q h2)))]
      simp only [k_M_output_0, k_M_output_1, k_M_output_2, k_M_output_4, k_M_output_7, k_M_output_10, k_M_output_11, k_M_output_12, k_M_output_15, k_M_output_18, k_M_output_19, k_M_output_22, k_M_output_23, k_M_output_26, k_M_output_27, k_M_output_30, k_M_output_31, k_M_output_32, k_M_output_33, k_M_output_34, k_M_output_36, k_M_output_37, k_M_output_38, rc_n, e_M_in, zb_e in16, zb_t h1, hz10, g_M0, g_M1, g_M2, g_M3, g_M4, g_M5, g_M6, g_M7, g_M8, g_M9, g_M10, g_M11, g_M12, g_M13, g_M14, g_M15, g_M16, g_M17, g_M18, g_M19, g_M20, g_M21, g_M22, g_M23, g_M24, g_M25, g_M26, g_M27, g_M28, g_M29, g_M30, g_M31, g_M32, g_M33, h.2, h2, e, l_M_out hj, am_ob_s, List.tail_cons, List.tail_nil, Option.toList_some, Option.toList_none, List.nil_append, List.cons_append, List.length_nil, List.length_cons, Nat.zero_le, true_and, and_true, true_implies, false_implies, not_true_eq_false, not_false_eq_true, implies_true, or_true, true_or, Nat.reduceAdd, Nat.reduceLeDiff]
    · rw [zif_t (Or.inr (Or.inr h2))]
      simp only [k_M_output_0, k_M_output_1, k_M_output_2, k_M_output_4, k_M_output_7, k_M_output_10, k_M_output_11, k_M_output_12, k_M_output_15, k_M_output_18, k_M_output_19, k_M_output_22, k_M_output_23, k_M_output_26, k_M_output_27, k_M_output_30, k_M_output_31, k_M_output_32, k_M_output_33, k_M_output_34, k_M_output_36, k_M_output_37, k_M_output_38, rc_n, e_M_in, zb_e in16, zb_t h1, hz10, g_M0, g_M1, g_M2, g_M3, g_M4, g_M5, g_M6, g_M7, g_M8, g_M9, g_M10, g_M11, g_M12, g_M13, g_M14, g_M15, g_M16, g_M17, g_M18, g_M19, g_M20, g_M21, g_M22, g_M23, g_M24, g_M25, g_M26, g_M27, g_M28, g_M29, g_M30, g_M31, g_M32, g_M33, h.2, h2, am_ob_s, List.tail_cons, List.tail_nil, Option.toList_some, Option.toList_none, List.nil_append, List.cons_append, List.length_nil, List.length_cons, Nat.zero_le, true_and, and_true, true_implies, false_implies, not_true_eq_false, not_false_eq_true, implies_true, or_true, true_or, Nat.reduceAdd, Nat.reduceLeDiff]
  · have h1' : v < 0 ∨ 16 ≤ v ∨ ¬ v < Z.2.2.2.1.2.2.2.2.2.2 := by
      by_cases q : v < 0
      · exact Or.inl q
      · exact Or.inr (Or.inl (Classical.byContradiction (fun q2 => h1 ⟨q, q2⟩)))
    rw [zif_t h1']
    simp only [k_M_output_0, k_M_output_1, k_M_output_2, k_M_output_4, k_M_output_7, k_M_output_10, k_M_output_11, k_M_output_12, k_M_output_15, k_M_output_18, k_M_output_19, k_M_output_22, k_M_output_23, k_M_output_26, k_M_output_27, k_M_output_30, k_M_output_31, k_M_output_32, k_M_output_33, k_M_output_34, k_M_output_36, k_M_output_37, k_M_output_38, rc_n, e_M_in, zb_e in16, zb_f h1, g_M0, g_M1, g_M2, g_M3, g_M4, g_M5, g_M6, g_M7, g_M8, g_M9, g_M10, g_M11, g_M12, g_M13, g_M14, g_M15, g_M16, g_M17, g_M18, g_M19, g_M20, g_M21, g_M22, g_M23, g_M24, g_M25, g_M26, g_M27, g_M28, g_M29, g_M30, g_M31, g_M32, g_M33, am_ob_s, List.tail_cons, List.tail_nil, Option.toList_some, Option.toList_none, List.nil_append, List.cons_append, List.length_nil, List.length_cons, Nat.zero_le, true_and, and_true, true_implies, false_implies, not_true_eq_false, not_false_eq_true, implies_true, or_true, true_or, Nat.reduceAdd, Nat.reduceLeDiff]
theorem e_M_frame (hZ : MdC s Z) (k : Int32) : am_C f_M_frame [.ref 308, .int k] (TP, s) Q ↔ Q (some (.int (pFrame Z k))) (TP, s) := by
  have h := hZ.2.2.2.2.1
  have h8 := h.2.1
  rw [c_M_frame]
  unfold pFrame
  by_cases h1 : k < 0
  · rw [zif_t (Or.inl h1)]
    simp only [k_M_frame_0, k_M_frame_1, k_M_frame_4, k_M_frame_5, k_M_frame_6, k_M_frame_9, k_M_frame_12, k_M_frame_13, h1, am_ob_s, List.tail_cons, List.tail_nil, Option.toList_some, Option.toList_none, List.nil_append, List.cons_append, List.length_nil, List.length_cons, Nat.zero_le, true_and, and_true, true_implies, false_implies, not_true_eq_false, not_false_eq_true, implies_true, or_true, true_or, Nat.reduceAdd, Nat.reduceLeDiff]
  · by_cases h2 : k < nI Z.2.2.2.1.1.length
    · obtain ⟨j, hj, rfl⟩ := nI_of h1
      have hjl : j < Z.2.2.2.1.1.length := (nI_ltI hj (by omega)).mp h2
      rw [zif_f (fun q => q.elim h1 (fun q => q h2)), cN_nI (by omega)]
      obtain ⟨F, hF⟩ : ∃ F, Z.2.2.2.1.1[j]? = some F := ⟨_, List.getElem?_eq_getElem hjl⟩
      have hFr : Z.2.2.2.1.1.reverse[Z.2.2.2.1.1.length - 1 - j]? = some F := by
        rw [List.getElem?_reverse (by omega), show Z.2.2.2.1.1.length - 1 - (Z.2.2.2.1.1.length - 1 - j) = j by omega]
        exact hF
      have hFC := h.2.2.1 _ F hFr
      have h88 : Z.2.2.2.1.1.length - 1 - j < 8 := by omega
      have ei := nI_back hjl
      rw [hF]
      simp only [k_M_frame_0, k_M_frame_1, k_M_frame_4, k_M_frame_5, k_M_frame_6, k_M_frame_9, k_M_frame_12, k_M_frame_13, k_M_frame_14, k_M_frame_15, k_M_frame_18, k_M_frame_19, k_M_frame_20, k_M_frame_21, k_M_frame_22, k_M_frame_23, k_M_frame_25, k_M_frame_26, k_M_frame_29, k_M_frame_30, k_M_frame_31, k_M_frame_32, k_M_frame_33, k_M_frame_36, k_M_frame_37, k_M_frame_38, k_M_frame_39, h1, h2, g_M0, g_M1, g_M2, g_M3, g_M4, g_M5, g_M6, g_M7, g_M8, g_M9, g_M10, g_M11, g_M12, g_M13, g_M14, g_M15, g_M16, g_M17, g_M18, g_M19, g_M20, g_M21, g_M22, g_M23, g_M24, g_M25, g_M26, g_M27, g_M28, g_M29, g_M30, g_M31, g_M32, g_M33, h.1, ei, l_M_method h88, l_M_place h88, hFC.1, hFC.2.1, am_ob_s, List.tail_cons, List.tail_nil, Option.toList_some, Option.toList_none, List.nil_append, List.cons_append, List.length_nil, List.length_cons, Nat.zero_le, true_and, and_true, true_implies, false_implies, not_true_eq_false, not_false_eq_true, implies_true, or_true, true_or, Nat.reduceAdd, Nat.reduceLeDiff]
    · rw [zif_t (Or.inr h2)]
      simp only [k_M_frame_0, k_M_frame_1, k_M_frame_4, k_M_frame_5, k_M_frame_6, k_M_frame_9, k_M_frame_12, k_M_frame_13, h1, h2, g_M0, g_M1, g_M2, g_M3, g_M4, g_M5, g_M6, g_M7, g_M8, g_M9, g_M10, g_M11, g_M12, g_M13, g_M14, g_M15, g_M16, g_M17, g_M18, g_M19, g_M20, g_M21, g_M22, g_M23, g_M24, g_M25, g_M26, g_M27, g_M28, g_M29, g_M30, g_M31, g_M32, g_M33, h.1, am_ob_s, List.tail_cons, List.tail_nil, Option.toList_some, Option.toList_none, List.nil_append, List.cons_append, List.length_nil, List.length_cons, Nat.zero_le, true_and, and_true, true_implies, false_implies, not_true_eq_false, not_false_eq_true, implies_true, or_true, true_or, Nat.reduceAdd, Nat.reduceLeDiff]
theorem cm1_lt (k : Int32) : k < -1 ∨ k = -1 ∨ ¬ k < 0 := by
  by_cases h : k < -1
  · exact Or.inl h
  by_cases h2 : k = -1
  · exact Or.inr (Or.inl h2)
  refine Or.inr (Or.inr (fun q => ?_))
  rw [Int32.lt_iff_toInt_lt] at h q
  have : k.toInt = -1 := by
    have e1 : (-1 : Int32).toInt = -1 := by decide
    have e2 : (0 : Int32).toInt = 0 := by decide
    omega
  exact h2 (Int32.toInt_inj.mp (by rw [this]; decide))
theorem ix3z : ∀ c, c < 4 → 1 ≤ c → nI c - 1 = nI (3 * 0 + c - 1) := by decide +kernel
theorem e_M_shape (hZ : MdC s Z) (c k : Int32) : am_C f_M_shape [.ref 308, .int c, .int k] (TP, s) Q ↔ Q (some (.int (pShape Z c k))) (TP, s) := by
  have g0 := (hZ.2.2.2.1 0 (by omega)).1
  rw [c_M_shape]
  unfold pShape
  by_cases h1 : isC c
  · obtain ⟨ec, k1, k3⟩ := isC_n h1
    have hL := g0.1 (cN c) k1 k3
    have h4 := hL.2.1
    have hj15 : 3 * 0 + cN c - 1 < 15 := by omega
    have e3 := ix3z (cN c) (by omega) k1
    rw [← ec] at e3
    rw [zif_t h1]
    rcases cm1_lt k with h2 | h2 | h2
    · have h3 : k < 0 := Int32.lt_trans h2 (by decide)
      have h5 : ¬ k = -1 := fun q => by rw [q] at h2; exact absurd h2 (by decide)
      rw [zif_f h5, zif_t (Or.inl h3)]
      simp only [k_M_shape_0, k_M_shape_1, k_M_shape_2, k_M_shape_3, k_M_shape_6, k_M_shape_9, k_M_shape_10, k_M_shape_11, k_M_shape_14, k_M_shape_15, k_M_shape_16, k_M_shape_19, k_M_shape_20, k_M_shape_21, k_M_shape_22, k_M_shape_23, k_M_shape_26, k_M_shape_27, rc_n, e_M_in, in_isC, zb_t h1, hz10, h2, am_ob_s, List.tail_cons, List.tail_nil, Option.toList_some, Option.toList_none, List.nil_append, List.cons_append, List.length_nil, List.length_cons, Nat.zero_le, true_and, and_true, true_implies, false_implies, not_true_eq_false, not_false_eq_true, implies_true, or_true, true_or, Nat.reduceAdd, Nat.reduceLeDiff]
    · have h5 : ¬ k < -1 := by rw [h2]; decide
      have h6 : (-1 : Int32) < nI ((Z.2.1 0).1 (cN c)).length := by
        have : ∀ n, n ≤ 4 → (-1 : Int32) < nI n := by decide +kernel
        exact this _ h4
      rw [zif_t h2]
      simp only [k_M_shape_0, k_M_shape_1, k_M_shape_2, k_M_shape_3, k_M_shape_6, k_M_shape_9, k_M_shape_10, k_M_shape_11, k_M_shape_14, k_M_shape_15, k_M_shape_16, k_M_shape_19, k_M_shape_20, k_M_shape_21, k_M_shape_22, k_M_shape_23, k_M_shape_26, k_M_shape_27, k_M_shape_28, k_M_shape_29, k_M_shape_30, k_M_shape_33, k_M_shape_34, k_M_shape_37, k_M_shape_38, k_M_shape_39, k_M_shape_40, k_M_shape_41, k_M_shape_44, k_M_shape_46, k_M_shape_47, k_M_shape_50, k_M_shape_51, k_M_shape_52, k_M_shape_53, k_M_shape_54, k_M_shape_55, k_M_shape_56, k_M_shape_57, k_M_shape_58, k_M_shape_59, k_M_shape_60, k_M_shape_63, k_M_shape_64, k_M_shape_65, k_M_shape_66, k_M_shape_67, k_M_shape_68, k_M_shape_69, k_M_shape_70, k_M_shape_71, k_M_shape_72, rc_n, e_M_in, in_isC, zb_t h1, hz10, g_M0, g_M1, g_M2, g_M3, g_M4, g_M5, g_M6, g_M7, g_M8, g_M9, g_M10, g_M11, g_M12, g_M13, g_M14, g_M15, g_M16, g_M17, g_M18, g_M19, g_M20, g_M21, g_M22, g_M23, g_M24, g_M25, g_M26, g_M27, g_M28, g_M29, g_M30, g_M31, g_M32, g_M33, e3, l_M_fields hj15, hL.1, h2, h6, Int32.lt_irrefl, am_ob_s, List.tail_cons, List.tail_nil, Option.toList_some, Option.toList_none, List.nil_append, List.cons_append, List.length_nil, List.length_cons, Nat.zero_le, true_and, and_true, true_implies, false_implies, not_true_eq_false, not_false_eq_true, implies_true, or_true, true_or, Nat.reduceAdd, Nat.reduceLeDiff]
    · have h5 : ¬ k = -1 := fun q => by rw [q] at h2; exact absurd (show (-1 : Int32) < 0 by decide) h2
      have h51 : ¬ k < -1 := fun q => h2 (Int32.lt_trans q (by decide))
      rw [zif_f h5]
      by_cases h6 : k < nI ((Z.2.1 0).1 (cN c)).length
      · obtain ⟨j, hj, rfl⟩ := nI_of h2
        have hjl : j < ((Z.2.1 0).1 (cN c)).length := (nI_ltI hj (by omega)).mp h6
        have hj4 : j < 4 := by omega
        obtain ⟨e, he⟩ : ∃ e, ((Z.2.1 0).1 (cN c))[j]? = some e := ⟨_, List.getElem?_eq_getElem hjl⟩
        have hv := hL.2.2 j e he
        have e4 := ix4 (3 * 0 + cN c - 1) hj15 j hj4
        have h60 : 4 * (3 * 0 + cN c - 1) + j < 60 := by omega
        rw [zif_f (fun q => q.elim h2 (fun q => q h6)), cN_nI (by omega), he]
        simp only [k_M_shape_0, k_M_shape_1, k_M_shape_2, k_M_shape_3, k_M_shape_6, k_M_shape_9, k_M_shape_10, k_M_shape_11, k_M_shape_14, k_M_shape_15, k_M_shape_16, k_M_shape_19, k_M_shape_20, k_M_shape_21, k_M_shape_22, k_M_shape_23, k_M_shape_26, k_M_shape_27, k_M_shape_28, k_M_shape_29, k_M_shape_30, k_M_shape_33, k_M_shape_34, k_M_shape_37, k_M_shape_38, k_M_shape_39, k_M_shape_40, k_M_shape_41, k_M_shape_44, k_M_shape_46, k_M_shape_47, k_M_shape_50, k_M_shape_51, k_M_shape_52, k_M_shape_53, k_M_shape_54, k_M_shape_55, k_M_shape_56, k_M_shape_57, k_M_shape_58, k_M_shape_59, k_M_shape_60, k_M_shape_63, k_M_shape_64, k_M_shape_65, k_M_shape_66, k_M_shape_67, k_M_shape_68, k_M_shape_69, k_M_shape_70, k_M_shape_71, k_M_shape_72, rc_n, e_M_in, in_isC, zb_t h1, hz10, g_M0, g_M1, g_M2, g_M3, g_M4, g_M5, g_M6, g_M7, g_M8, g_M9, g_M10, g_M11, g_M12, g_M13, g_M14, g_M15, g_M16, g_M17, g_M18, g_M19, g_M20, g_M21, g_M22, g_M23, g_M24, g_M25, g_M26, g_M27, g_M28, g_M29, g_M30, g_M31, g_M32, g_M33, e3, e4, l_M_fields hj15, hL.1, h5, h51, h6, l_M_name h60, l_M_type h60, hv.1, hv.2.1, am_ob_s, List.tail_cons, List.tail_nil, Option.toList_some, Option.toList_none, List.nil_append, List.cons_append, List.length_nil, List.length_cons, Nat.zero_le, true_and, and_true, true_implies, false_implies, not_true_eq_false, not_false_eq_true, implies_true, or_true, true_or, Nat.reduceAdd, Nat.reduceLeDiff]
      · rw [zif_t (Or.inr h6)]
        simp only [k_M_shape_0, k_M_shape_1, k_M_shape_2, k_M_shape_3, k_M_shape_6, k_M_shape_9, k_M_shape_10, k_M_shape_11, k_M_shape_14, k_M_shape_15, k_M_shape_16, k_M_shape_19, k_M_shape_20, k_M_shape_21, k_M_shape_22, k_M_shape_23, k_M_shape_26, k_M_shape_27, rc_n, e_M_in, in_isC, zb_t h1, hz10, g_M0, g_M1, g_M2, g_M3, g_M4, g_M5, g_M6, g_M7, g_M8, g_M9, g_M10, g_M11, g_M12, g_M13, g_M14, g_M15, g_M16, g_M17, g_M18, g_M19, g_M20, g_M21, g_M22, g_M23, g_M24, g_M25, g_M26, g_M27, g_M28, g_M29, g_M30, g_M31, g_M32, g_M33, e3, l_M_fields hj15, hL.1, h51, h6, am_ob_s, List.tail_cons, List.tail_nil, Option.toList_some, Option.toList_none, List.nil_append, List.cons_append, List.length_nil, List.length_cons, Nat.zero_le, true_and, and_true, true_implies, false_implies, not_true_eq_false, not_false_eq_true, implies_true, or_true, true_or, Nat.reduceAdd, Nat.reduceLeDiff]
  · rw [zif_f h1]
    simp only [k_M_shape_0, k_M_shape_1, k_M_shape_2, k_M_shape_3, k_M_shape_6, k_M_shape_9, k_M_shape_10, k_M_shape_11, k_M_shape_14, k_M_shape_15, k_M_shape_16, k_M_shape_19, k_M_shape_20, k_M_shape_21, k_M_shape_22, k_M_shape_23, k_M_shape_26, k_M_shape_27, rc_n, e_M_in, in_isC, zb_f h1, am_ob_s, List.tail_cons, List.tail_nil, Option.toList_some, Option.toList_none, List.nil_append, List.cons_append, List.length_nil, List.length_cons, Nat.zero_le, true_and, and_true, true_implies, false_implies, not_true_eq_false, not_false_eq_true, implies_true, or_true, true_or, Nat.reduceAdd, Nat.reduceLeDiff]
theorem e_M_objects0 {cl : Nat → Nat} {vl : Nat → Nat → Int32} (h : MhC s cl vl) : am_C f_M_objects [.ref 308] (TP, s) Q ↔ Q (some (.int (nI (cnt cl 16)))) (TP, s) := by
  have cle : ∀ j, cnt cl j ≤ j := by
    intro j
    induction j with
    | zero => exact Nat.le_refl 0
    | succ j ih =>
      unfold cnt
      split <;> omega
  have loop : ∀ (r j : Nat), j + r = 16 → ∀ jk : List Value, am_W m_M_objects 4 (.ref 308 :: .int (nI (cnt cl j)) :: .int (nI (j + 1)) :: jk) [] (TP, s) Q ↔ Q (some (.int (nI (cnt cl 16)))) (TP, s) := by
    intro r
    induction r with
    | zero =>
      intro j hj jk
      obtain rfl : j = 16 := by omega
      have h1 : (16 : Int32) < nI (16 + 1) := by decide
      rw [k_M_objects_4]
      simp only [k_M_objects_5, k_M_objects_7, k_M_objects_33, k_M_objects_34, h1, am_ob_s, List.tail_cons, List.tail_nil, Option.toList_some, Option.toList_none, List.nil_append, List.cons_append, List.length_nil, List.length_cons, Nat.zero_le, true_and, and_true, true_implies, false_implies, not_true_eq_false, not_false_eq_true, implies_true, or_true, true_or, Nat.reduceAdd, Nat.reduceLeDiff]
    | succ r ih =>
      intro j hj jk
      have h1 : ¬ (16 : Int32) < nI (j + 1) := nI_nlt (a := 16) (by omega) (by omega)
      have hm := h j (by omega)
      have ec := cle j
      have ih' := ih (j + 1) (by omega) jk
      have st : cnt cl (j + 1) = if cl j = 0 then cnt cl j else cnt cl j + 1 := rfl
      rw [k_M_objects_4]
      by_cases q : cl j = 0
      · have q2 : nI (cl j) ≤ 0 := by rw [q]; decide
        rw [st, if_pos q] at ih'
        simp only [k_M_objects_5, k_M_objects_7, k_M_objects_10, k_M_objects_11, k_M_objects_14, k_M_objects_15, k_M_objects_16, k_M_objects_19, k_M_objects_20, k_M_objects_21, k_M_objects_22, k_M_objects_25, k_M_objects_26, k_M_objects_27, k_M_objects_30, g_M0, g_M1, g_M2, g_M3, g_M4, g_M5, g_M6, g_M7, g_M8, g_M9, g_M10, g_M11, g_M12, g_M13, g_M14, g_M15, g_M16, g_M17, g_M18, g_M19, g_M20, g_M21, g_M22, g_M23, g_M24, g_M25, g_M26, g_M27, g_M28, g_M29, g_M30, g_M31, g_M32, g_M33, h1, l_M_made (show j + 1 < 17 by omega), hm.1, q2, nI_add, nI_1, am_ob_s, List.tail_cons, List.tail_nil, Option.toList_some, Option.toList_none, List.nil_append, List.cons_append, List.length_nil, List.length_cons, Nat.zero_le, true_and, and_true, true_implies, false_implies, not_true_eq_false, not_false_eq_true, implies_true, or_true, true_or, Nat.reduceAdd, Nat.reduceLeDiff]
        exact ih'
      · have q2 : ¬ nI (cl j) ≤ 0 := nI_nle (by omega) (by have := hm.2.1; omega)
        rw [st, if_neg q] at ih'
        have e1 : nI (cnt cl j) + 1 = nI (cnt cl j + 1) := nI_1 _
        simp only [k_M_objects_5, k_M_objects_7, k_M_objects_10, k_M_objects_11, k_M_objects_14, k_M_objects_15, k_M_objects_16, k_M_objects_19, k_M_objects_20, k_M_objects_21, k_M_objects_22, k_M_objects_25, k_M_objects_26, k_M_objects_27, k_M_objects_30, g_M0, g_M1, g_M2, g_M3, g_M4, g_M5, g_M6, g_M7, g_M8, g_M9, g_M10, g_M11, g_M12, g_M13, g_M14, g_M15, g_M16, g_M17, g_M18, g_M19, g_M20, g_M21, g_M22, g_M23, g_M24, g_M25, g_M26, g_M27, g_M28, g_M29, g_M30, g_M31, g_M32, g_M33, h1, l_M_made (show j + 1 < 17 by omega), hm.1, q2, nI_1, am_ob_s, List.tail_cons, List.tail_nil, Option.toList_some, Option.toList_none, List.nil_append, List.cons_append, List.length_nil, List.length_cons, Nat.zero_le, true_and, and_true, true_implies, false_implies, not_true_eq_false, not_false_eq_true, implies_true, or_true, true_or, Nat.reduceAdd, Nat.reduceLeDiff]
        exact ih'
  have := loop 16 0 (by omega) []
  rw [show nI (0 + 1) = 1 from rfl, show nI (cnt cl 0) = 0 from rfl] at this
  rw [c_M_objects]
  simp only [k_M_objects_0, k_M_objects_1, k_M_objects_2, k_M_objects_3, am_ob_s, List.tail_cons, List.tail_nil, Option.toList_some, Option.toList_none, List.nil_append, List.cons_append, List.length_nil, List.length_cons, Nat.zero_le, true_and, and_true, true_implies, false_implies, not_true_eq_false, not_false_eq_true, implies_true, or_true, true_or, Nat.reduceAdd, Nat.reduceLeDiff]
  exact this
theorem e_M_objects (hZ : MdC s Z) : am_C f_M_objects [.ref 308] (TP, s) Q ↔ Q (some (.int (nI (cnt Z.2.2.2.1.2.2.2.1 16)))) (TP, s) := e_M_objects0 hZ.2.2.2.2.1.2.2.2.2.2.1
end SM8
