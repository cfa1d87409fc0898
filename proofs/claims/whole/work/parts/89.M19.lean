/-! The reference: free, transform -/
theorem ix31 : ∀ c, c < 4 → 1 ≤ c → ((3 : Int32) + nI c) - 1 = nI (3 * 1 + c - 1) := by decide +kernel
/-- names are in range -/
def okNm (L : pLy) : Prop := ∀ (k : Nat) (e : Nat × Nat × Int32), L[k]? = some e → e.1 ≤ 9
theorem find_neg {L : pLy} {v : Int32} (h : okNm L) (hv : v < 0) : pFind L v = none := by
  cases q : pFind L v with
  | none => rfl
  | some k =>
    have hk := pFind_lt q
    unfold pFind at q
    have h2 := (List.findIdx?_eq_some_iff_getElem.mp q).2.1
    have h3 : nI L[k].1 = v := of_decide_eq_true h2
    have h4 := h k L[k] (List.getElem?_eq_getElem hk)
    rw [← h3] at hv
    exact absurd hv (nI_pos (by omega))
section SM19
variable {s : am_S}
theorem e_M_free {Q : Option Value → am_H → Prop} {σ : pMc} {v : Int32} (h : MnC s σ) (hv : s 322 1 = v) : am_C f_M_free [.ref 308] (TP, s) Q ↔ Q (some (.int (zb (¬ pHas σ.1 v)))) (TP, s) := by
  have h8 := h.2.1
  have lb := l_M_barred (s := s) (j := 1) (by omega)
  rw [show nI 1 = 1 from rfl, hv] at lb
  have loop : ∀ (r j : Nat), j + r = σ.1.length → ∀ (A : Prop) (jk : List Value), am_W m_M_free 4 (.ref 308 :: .int (zb A) :: .int (nI j) :: jk) [] (TP, s) Q ↔ Q (some (.int (zb (A ∧ ∀ (k : Nat) (F : pFr), j ≤ k → σ.1.reverse[k]? = some F → (v >>> (nI F.1 &&& 31)) &&& 1 = 0)))) (TP, s) := by
    intro r
    induction r with
    | zero =>
      intro j hj A jk
      have h1 : nI σ.1.length ≤ nI j := nI_le (by omega) (by omega)
      have e1 : (A ∧ ∀ (k : Nat) (F : pFr), j ≤ k → σ.1.reverse[k]? = some F → (v >>> (nI F.1 &&& 31)) &&& 1 = 0) ↔ A := ⟨fun q => q.1, fun q => ⟨q, fun k F w1 w2 => by
        have := (List.getElem?_eq_some_iff.mp w2).1
        rw [List.length_reverse] at this
        omega⟩⟩
      rw [k_M_free_4, zb_e e1]
      simp only [k_M_free_5, k_M_free_6, k_M_free_9, k_M_free_46, k_M_free_47, g_M0, g_M1, g_M2, g_M3, g_M4, g_M5, g_M6, g_M7, g_M8, g_M9, g_M10, g_M11, g_M12, g_M13, g_M14, g_M15, g_M16, g_M17, g_M18, g_M19, g_M20, g_M21, g_M22, g_M23, g_M24, g_M25, g_M26, g_M27, g_M28, g_M29, g_M30, g_M31, g_M32, g_M33, h.1, h1, zb_01, am_ob_s, List.tail_cons, List.tail_nil, Option.toList_some, Option.toList_none, List.nil_append, List.cons_append, List.length_nil, List.length_cons, Nat.zero_le, true_and, and_true, true_implies, false_implies, not_true_eq_false, not_false_eq_true, implies_true, or_true, true_or, Nat.reduceAdd, Nat.reduceLeDiff]
    | succ r ih =>
      intro j hj A jk
      have h1 : ¬ nI σ.1.length ≤ nI j := nI_ge (by omega) (by omega)
      obtain ⟨F, hF⟩ : ∃ F, σ.1.reverse[j]? = some F := ⟨_, List.getElem?_eq_getElem (by rw [List.length_reverse]; omega)⟩
      have lm := l_M_method (s := s) (show j < 8 by omega)
      rw [(h.2.2.1 j F hF).1] at lm
      have e2 : (A ∧ ∀ (k : Nat) (F : pFr), j ≤ k → σ.1.reverse[k]? = some F → (v >>> (nI F.1 &&& 31)) &&& 1 = 0) ↔ ((A ∧ (v >>> (nI F.1 &&& 31)) &&& 1 = 0) ∧ ∀ (k : Nat) (F : pFr), j + 1 ≤ k → σ.1.reverse[k]? = some F → (v >>> (nI F.1 &&& 31)) &&& 1 = 0) := by
        constructor
        · rintro ⟨w1, w2⟩
          exact ⟨⟨w1, w2 j F (Nat.le_refl _) hF⟩, fun k F' w3 w4 => w2 k F' (by omega) w4⟩
        · rintro ⟨⟨w1, w2⟩, w3⟩
          refine ⟨w1, fun k F' w4 w5 => ?_⟩
          by_cases q : k = j
          · rw [q, hF] at w5
            rw [← Option.some.inj w5]
            exact w2
          · exact w3 k F' (by omega) w5
      rw [zb_e e2, ← ih (j + 1) (by omega) _ jk, k_M_free_4]
      by_cases hA : A
      · by_cases hB : (v >>> (nI F.1 &&& 31)) &&& 1 = 0
        · rw [zb_t (And.intro hA hB), zb_t hA]
          simp only [k_M_free_5, k_M_free_6, k_M_free_9, k_M_free_12, k_M_free_13, k_M_free_16, k_M_free_17, k_M_free_20, k_M_free_21, k_M_free_22, k_M_free_23, k_M_free_26, k_M_free_27, k_M_free_28, k_M_free_29, k_M_free_30, k_M_free_31, k_M_free_34, k_M_free_35, k_M_free_38, k_M_free_39, k_M_free_40, k_M_free_43, g_M0, g_M1, g_M2, g_M3, g_M4, g_M5, g_M6, g_M7, g_M8, g_M9, g_M10, g_M11, g_M12, g_M13, g_M14, g_M15, g_M16, g_M17, g_M18, g_M19, g_M20, g_M21, g_M22, g_M23, g_M24, g_M25, g_M26, g_M27, g_M28, g_M29, g_M30, g_M31, g_M32, g_M33, h.1, h1, hz10, lb, lm, hB, nI_1, am_ob_s, List.tail_cons, List.tail_nil, Option.toList_some, Option.toList_none, List.nil_append, List.cons_append, List.length_nil, List.length_cons, Nat.zero_le, true_and, and_true, true_implies, false_implies, not_true_eq_false, not_false_eq_true, implies_true, or_true, true_or, Nat.reduceAdd, Nat.reduceLeDiff]
        · rw [zb_f (fun q : A ∧ (v >>> (nI F.1 &&& 31)) &&& 1 = 0 => hB q.2), zb_t hA]
          simp only [k_M_free_5, k_M_free_6, k_M_free_9, k_M_free_12, k_M_free_13, k_M_free_16, k_M_free_17, k_M_free_20, k_M_free_21, k_M_free_22, k_M_free_23, k_M_free_26, k_M_free_27, k_M_free_28, k_M_free_29, k_M_free_30, k_M_free_31, k_M_free_34, k_M_free_35, k_M_free_38, k_M_free_39, k_M_free_40, k_M_free_43, g_M0, g_M1, g_M2, g_M3, g_M4, g_M5, g_M6, g_M7, g_M8, g_M9, g_M10, g_M11, g_M12, g_M13, g_M14, g_M15, g_M16, g_M17, g_M18, g_M19, g_M20, g_M21, g_M22, g_M23, g_M24, g_M25, g_M26, g_M27, g_M28, g_M29, g_M30, g_M31, g_M32, g_M33, h.1, h1, hz10, lb, lm, hB, nI_1, am_ob_s, List.tail_cons, List.tail_nil, Option.toList_some, Option.toList_none, List.nil_append, List.cons_append, List.length_nil, List.length_cons, Nat.zero_le, true_and, and_true, true_implies, false_implies, not_true_eq_false, not_false_eq_true, implies_true, or_true, true_or, Nat.reduceAdd, Nat.reduceLeDiff]
      · rw [zb_f (fun q : A ∧ (v >>> (nI F.1 &&& 31)) &&& 1 = 0 => hA q.1), zb_f hA]
        simp only [k_M_free_5, k_M_free_6, k_M_free_9, k_M_free_12, k_M_free_13, k_M_free_16, k_M_free_17, k_M_free_20, k_M_free_21, k_M_free_22, k_M_free_23, k_M_free_26, k_M_free_27, k_M_free_28, k_M_free_29, k_M_free_30, k_M_free_31, k_M_free_34, k_M_free_35, k_M_free_38, k_M_free_39, k_M_free_40, k_M_free_43, g_M0, g_M1, g_M2, g_M3, g_M4, g_M5, g_M6, g_M7, g_M8, g_M9, g_M10, g_M11, g_M12, g_M13, g_M14, g_M15, g_M16, g_M17, g_M18, g_M19, g_M20, g_M21, g_M22, g_M23, g_M24, g_M25, g_M26, g_M27, g_M28, g_M29, g_M30, g_M31, g_M32, g_M33, h.1, h1, nI_1, am_ob_s, List.tail_cons, List.tail_nil, Option.toList_some, Option.toList_none, List.nil_append, List.cons_append, List.length_nil, List.length_cons, Nat.zero_le, true_and, and_true, true_implies, false_implies, not_true_eq_false, not_false_eq_true, implies_true, or_true, true_or, Nat.reduceAdd, Nat.reduceLeDiff]
  have := loop σ.1.length 0 (by omega) True []
  rw [nI_0, zb_T] at this
  rw [c_M_free]
  simp only [k_M_free_0, k_M_free_1, k_M_free_2, k_M_free_3, am_ob_s, List.tail_cons, List.tail_nil, Option.toList_some, Option.toList_none, List.nil_append, List.cons_append, List.length_nil, List.length_cons, Nat.zero_le, true_and, and_true, true_implies, false_implies, not_true_eq_false, not_false_eq_true, implies_true, or_true, true_or, Nat.reduceAdd, Nat.reduceLeDiff]
  rw [this]
  have e3 : (True ∧ ∀ (k : Nat) (F : pFr), 0 ≤ k → σ.1.reverse[k]? = some F → (v >>> (nI F.1 &&& 31)) &&& 1 = 0) ↔ ¬ pHas σ.1 v := by
    unfold pHas
    constructor
    · rintro ⟨_, w⟩ ⟨F, w1, w2⟩
      obtain ⟨k, hk⟩ := List.getElem?_of_mem (List.mem_reverse.mpr w1)
      exact w2 (w k F (Nat.zero_le _) hk)
    · intro w
      refine ⟨trivial, fun k F _ hk => Classical.byContradiction (fun w2 => w ⟨F, List.mem_reverse.mp (List.mem_of_getElem? hk), w2⟩)⟩
  rw [zb_e e3]
theorem e_M_transform {cl : Nat → Nat} {vl : Nat → Nat → Int32} {j c : Nat} {L L' : pLy} (hh : MhC s cl vl) (hj : j < 16) (hc : 1 ≤ c ∧ c ≤ 3) (hL : MlC s 0 c L) (hL' : MlC s 1 c L') (hn : okNm L) : ∃ s', (∀ Q : Option Value → am_H → Prop, am_C f_M_transform [.ref 308, .int (nI (j + 1)), .int (nI c)] (TP, s) Q ↔ Q none (TP, s')) ∧ MhC s' cl (pSt vl j (mvv L L' (vl j))) ∧ ∀ i, i ≠ 331 → i ≠ 333 → s' i = s i := by
  have h4 := hL.2.1
  have h4' := hL'.2.1
  have i31 := ix31 c (by omega) hc.1
  have h15 : 3 * 1 + c - 1 < 15 := by omega
  have loop1 : ∀ (r k : Nat), k + r = 4 → ∀ (s1 : am_S), (∀ i, i ≠ 333 → s1 i = s i) → (∀ i, i < k → s1 333 i = mvv L L' (vl j) i) → ∀ (jk : List Value), ∃ s' jk', (∀ Q : Option Value → am_H → Prop, am_W m_M_transform 2 (.ref 308 :: .int (nI (j + 1)) :: .int (nI c) :: .int (nI k) :: jk) [] (TP, s1) Q ↔ am_W m_M_transform 94 (.ref 308 :: .int (nI (j + 1)) :: .int (nI c) :: .int 0 :: jk') [] (TP, s') Q) ∧ (∀ i, i ≠ 333 → s' i = s i) ∧ ∀ i, i < 4 → s' 333 i = mvv L L' (vl j) i := by
    intro r
    induction r with
    | zero =>
      intro k hk s1 hO hw jk
      obtain rfl : k = 4 := by omega
      have h1 : (4 : Int32) ≤ nI 4 := by decide
      refine ⟨s1, jk, fun Q => ?_, hO, hw⟩
      rw [k_M_transform_2]
      simp only [k_M_transform_3, k_M_transform_4, k_M_transform_92, k_M_transform_93, h1, am_ob_s, List.tail_cons, List.tail_nil, Option.toList_some, Option.toList_none, List.nil_append, List.cons_append, List.length_nil, List.length_cons, Nat.zero_le, true_and, and_true, true_implies, false_implies, not_true_eq_false, not_false_eq_true, implies_true, or_true, true_or, Nat.reduceAdd, Nat.reduceLeDiff]
    | succ r ih =>
      intro k hk s1 hO hw jk
      have h1 : ¬ (4 : Int32) ≤ nI k := nI_ge (b := 4) (by omega) (by decide)
      have lf := l_M_fields (s := s1) h15
      rw [hO 309 (by omega), hL'.1] at lf
      have next : ∀ (jk2 : List Value), (∀ Q : Option Value → am_H → Prop, am_W m_M_transform 2 (.ref 308 :: .int (nI (j + 1)) :: .int (nI c) :: .int (nI k) :: jk) [] (TP, s1) Q ↔ am_W m_M_transform 2 (.ref 308 :: .int (nI (j + 1)) :: .int (nI c) :: .int (nI (k + 1)) :: jk2) [] (TP, am_wr s1 333 k (mvv L L' (vl j) k)) Q) → ∃ s' jk', (∀ Q : Option Value → am_H → Prop, am_W m_M_transform 2 (.ref 308 :: .int (nI (j + 1)) :: .int (nI c) :: .int (nI k) :: jk) [] (TP, s1) Q ↔ am_W m_M_transform 94 (.ref 308 :: .int (nI (j + 1)) :: .int (nI c) :: .int 0 :: jk') [] (TP, s') Q) ∧ (∀ i, i ≠ 333 → s' i = s i) ∧ ∀ i, i < 4 → s' 333 i = mvv L L' (vl j) i := fun jk2 hq => by
        obtain ⟨s', jk', a1, a2, a3⟩ := ih (k + 1) (by omega) (am_wr s1 333 k (mvv L L' (vl j) k)) (fun i q => by rw [am_wr_row _ q]; exact hO i q) (fun i hi => by
          by_cases q : i = k
          · rw [q, am_wr_self]
          · rw [am_wr_col _ q]; exact hw i (by omega)) jk2
        exact ⟨s', jk', fun Q => (hq Q).trans (a1 Q), a2, a3⟩
      have wf := fun (v : Int32) => w_M_fresh (s := s1) (v := v) (show k < 4 by omega)
      have m1 : ¬ (0 : Int32) ≤ -1 := by decide
      cases he : L'[k]? with
      | none =>
        have hkl := List.getElem?_eq_none_iff.mp he
        have z : nI L'.length ≤ nI k := nI_le hkl (by omega)
        have em : mvv L L' (vl j) k = 0 := by simp [mvv, he]
        refine next (.int (-1) :: .int (-1) :: jk.tail.tail) (fun Q => ?_)
        rw [k_M_transform_2, em]
        simp only [k_M_transform_3, k_M_transform_4, k_M_transform_7, k_M_transform_8, k_M_transform_9, k_M_transform_12, k_M_transform_13, k_M_transform_14, k_M_transform_15, k_M_transform_16, k_M_transform_17, k_M_transform_18, k_M_transform_21, k_M_transform_22, k_M_transform_25, k_M_transform_26, k_M_transform_27, k_M_transform_28, k_M_transform_29, k_M_transform_30, k_M_transform_31, k_M_transform_32, k_M_transform_33, k_M_transform_34, k_M_transform_35, k_M_transform_38, k_M_transform_39, k_M_transform_41, k_M_transform_43, k_M_transform_46, k_M_transform_47, k_M_transform_50, k_M_transform_51, k_M_transform_52, k_M_transform_53, k_M_transform_55, k_M_transform_58, k_M_transform_60, k_M_transform_61, k_M_transform_64, k_M_transform_65, k_M_transform_67, k_M_transform_70, k_M_transform_71, k_M_transform_74, k_M_transform_75, k_M_transform_78, k_M_transform_79, k_M_transform_80, k_M_transform_81, k_M_transform_83, k_M_transform_84, k_M_transform_85, k_M_transform_86, k_M_transform_89, g_M0, g_M1, g_M2, g_M3, g_M4, g_M5, g_M6, g_M7, g_M8, g_M9, g_M10, g_M11, g_M12, g_M13, g_M14, g_M15, g_M16, g_M17, g_M18, g_M19, g_M20, g_M21, g_M22, g_M23, g_M24, g_M25, g_M26, g_M27, g_M28, g_M29, g_M30, g_M31, g_M32, g_M33, h1, i31, lf, z, m1, wf, nI_1, am_ob_s, List.tail_cons, List.tail_nil, Option.toList_some, Option.toList_none, List.nil_append, List.cons_append, List.length_nil, List.length_cons, Nat.zero_le, true_and, and_true, true_implies, false_implies, not_true_eq_false, not_false_eq_true, implies_true, or_true, true_or, Nat.reduceAdd, Nat.reduceLeDiff]
      | some e =>
        have hkl := (List.getElem?_eq_some_iff.mp he).1
        have z : ¬ nI L'.length ≤ nI k := nI_ge hkl (by omega)
        have i4 := ix4 (3 * 1 + c - 1) h15 k (by omega)
        have lsr := l_M_source (s := s1) (show 4 * (3 * 1 + c - 1) + k < 60 by omega)
        rw [hO 312 (by omega), (hL'.2.2 k e he).2.2] at lsr
        by_cases hv : (0 : Int32) ≤ e.2.2
        · have hL1 : MlC s1 0 c L := MlC_rows hL (fun i q1 q2 => hO i (by omega))
          have fd := fun (Q : Option Value → am_H → Prop) => e_M_find (s := s1) (Q := Q) (b := 0) (c := c) (by omega) hc hL1 e.2.2
          rw [nI_0] at fd
          cases hf : pFind L e.2.2 with
          | none =>
            have em : mvv L L' (vl j) k = 0 := by simp [mvv, he, hf]
            refine next (.int e.2.2 :: .int (-1) :: jk.tail.tail) (fun Q => ?_)
            rw [k_M_transform_2, em]
            simp only [k_M_transform_3, k_M_transform_4, k_M_transform_7, k_M_transform_8, k_M_transform_9, k_M_transform_12, k_M_transform_13, k_M_transform_14, k_M_transform_15, k_M_transform_16, k_M_transform_17, k_M_transform_18, k_M_transform_21, k_M_transform_22, k_M_transform_25, k_M_transform_26, k_M_transform_27, k_M_transform_28, k_M_transform_29, k_M_transform_30, k_M_transform_31, k_M_transform_32, k_M_transform_33, k_M_transform_34, k_M_transform_35, k_M_transform_38, k_M_transform_39, k_M_transform_41, k_M_transform_43, k_M_transform_46, k_M_transform_47, k_M_transform_50, k_M_transform_51, k_M_transform_52, k_M_transform_53, k_M_transform_55, k_M_transform_58, k_M_transform_60, k_M_transform_61, k_M_transform_64, k_M_transform_65, k_M_transform_67, k_M_transform_70, k_M_transform_71, k_M_transform_74, k_M_transform_75, k_M_transform_78, k_M_transform_79, k_M_transform_80, k_M_transform_81, k_M_transform_83, k_M_transform_84, k_M_transform_85, k_M_transform_86, k_M_transform_89, g_M0, g_M1, g_M2, g_M3, g_M4, g_M5, g_M6, g_M7, g_M8, g_M9, g_M10, g_M11, g_M12, g_M13, g_M14, g_M15, g_M16, g_M17, g_M18, g_M19, g_M20, g_M21, g_M22, g_M23, g_M24, g_M25, g_M26, g_M27, g_M28, g_M29, g_M30, g_M31, g_M32, g_M33, h1, i31, lf, z, i4, lsr, hv, rc_M, fd, hf, pIx, m1, wf, nI_1, am_ob_s, List.tail_cons, List.tail_nil, Option.toList_some, Option.toList_none, List.nil_append, List.cons_append, List.length_nil, List.length_cons, Nat.zero_le, true_and, and_true, true_implies, false_implies, not_true_eq_false, not_false_eq_true, implies_true, or_true, true_or, Nat.reduceAdd, Nat.reduceLeDiff]
          | some q =>
            have hq := pFind_lt hf
            have em : mvv L L' (vl j) k = vl j q := by simp [mvv, he, hf]
            have hq0 : (0 : Int32) ≤ nI q := Int32.not_lt.mp (nI_pos (by omega))
            have i17 := ix17 (j + 1) (by omega) q (by omega)
            have lh := l_M_held (s := s1) (show 4 * (j + 1) + q < 68 by omega)
            rw [hO 331 (by omega), (hh j hj).2.2 q (by omega)] at lh
            refine next (.int e.2.2 :: .int (nI q) :: jk.tail.tail) (fun Q => ?_)
            rw [k_M_transform_2, em]
            simp only [k_M_transform_3, k_M_transform_4, k_M_transform_7, k_M_transform_8, k_M_transform_9, k_M_transform_12, k_M_transform_13, k_M_transform_14, k_M_transform_15, k_M_transform_16, k_M_transform_17, k_M_transform_18, k_M_transform_21, k_M_transform_22, k_M_transform_25, k_M_transform_26, k_M_transform_27, k_M_transform_28, k_M_transform_29, k_M_transform_30, k_M_transform_31, k_M_transform_32, k_M_transform_33, k_M_transform_34, k_M_transform_35, k_M_transform_38, k_M_transform_39, k_M_transform_41, k_M_transform_43, k_M_transform_46, k_M_transform_47, k_M_transform_50, k_M_transform_51, k_M_transform_52, k_M_transform_53, k_M_transform_55, k_M_transform_58, k_M_transform_60, k_M_transform_61, k_M_transform_64, k_M_transform_65, k_M_transform_67, k_M_transform_70, k_M_transform_71, k_M_transform_74, k_M_transform_75, k_M_transform_78, k_M_transform_79, k_M_transform_80, k_M_transform_81, k_M_transform_83, k_M_transform_84, k_M_transform_85, k_M_transform_86, k_M_transform_89, g_M0, g_M1, g_M2, g_M3, g_M4, g_M5, g_M6, g_M7, g_M8, g_M9, g_M10, g_M11, g_M12, g_M13, g_M14, g_M15, g_M16, g_M17, g_M18, g_M19, g_M20, g_M21, g_M22, g_M23, g_M24, g_M25, g_M26, g_M27, g_M28, g_M29, g_M30, g_M31, g_M32, g_M33, h1, i31, lf, z, i4, lsr, hv, rc_M, fd, hf, pIx, hq0, i17, lh, wf, nI_1, am_ob_s, List.tail_cons, List.tail_nil, Option.toList_some, Option.toList_none, List.nil_append, List.cons_append, List.length_nil, List.length_cons, Nat.zero_le, true_and, and_true, true_implies, false_implies, not_true_eq_false, not_false_eq_true, implies_true, or_true, true_or, Nat.reduceAdd, Nat.reduceLeDiff]
        · have em : mvv L L' (vl j) k = 0 := by simp [mvv, he, find_neg hn (Int32.not_le.mp hv)]
          refine next (.int e.2.2 :: .int (-1) :: jk.tail.tail) (fun Q => ?_)
          rw [k_M_transform_2, em]
          simp only [k_M_transform_3, k_M_transform_4, k_M_transform_7, k_M_transform_8, k_M_transform_9, k_M_transform_12, k_M_transform_13, k_M_transform_14, k_M_transform_15, k_M_transform_16, k_M_transform_17, k_M_transform_18, k_M_transform_21, k_M_transform_22, k_M_transform_25, k_M_transform_26, k_M_transform_27, k_M_transform_28, k_M_transform_29, k_M_transform_30, k_M_transform_31, k_M_transform_32, k_M_transform_33, k_M_transform_34, k_M_transform_35, k_M_transform_38, k_M_transform_39, k_M_transform_41, k_M_transform_43, k_M_transform_46, k_M_transform_47, k_M_transform_50, k_M_transform_51, k_M_transform_52, k_M_transform_53, k_M_transform_55, k_M_transform_58, k_M_transform_60, k_M_transform_61, k_M_transform_64, k_M_transform_65, k_M_transform_67, k_M_transform_70, k_M_transform_71, k_M_transform_74, k_M_transform_75, k_M_transform_78, k_M_transform_79, k_M_transform_80, k_M_transform_81, k_M_transform_83, k_M_transform_84, k_M_transform_85, k_M_transform_86, k_M_transform_89, g_M0, g_M1, g_M2, g_M3, g_M4, g_M5, g_M6, g_M7, g_M8, g_M9, g_M10, g_M11, g_M12, g_M13, g_M14, g_M15, g_M16, g_M17, g_M18, g_M19, g_M20, g_M21, g_M22, g_M23, g_M24, g_M25, g_M26, g_M27, g_M28, g_M29, g_M30, g_M31, g_M32, g_M33, h1, i31, lf, z, i4, lsr, hv, m1, wf, nI_1, am_ob_s, List.tail_cons, List.tail_nil, Option.toList_some, Option.toList_none, List.nil_append, List.cons_append, List.length_nil, List.length_cons, Nat.zero_le, true_and, and_true, true_implies, false_implies, not_true_eq_false, not_false_eq_true, implies_true, or_true, true_or, Nat.reduceAdd, Nat.reduceLeDiff]
  obtain ⟨s2, jk2, a1, a2, a3⟩ := loop1 4 0 (by omega) s (fun i _ => rfl) (fun i hi => by omega) []
  have loop2 : ∀ (r k : Nat), k + r = 4 → ∀ (s1 : am_S), (∀ i, i ≠ 331 → s1 i = s2 i) → (∀ i q, i < 16 → q < 4 → s1 331 (4 * (i + 1) + q) = if i = j ∧ q < k then mvv L L' (vl j) q else vl i q) → ∀ (jk : List Value), ∃ s', (∀ Q : Option Value → am_H → Prop, am_W m_M_transform 94 (.ref 308 :: .int (nI (j + 1)) :: .int (nI c) :: .int (nI k) :: jk) [] (TP, s1) Q ↔ Q none (TP, s')) ∧ (∀ i, i ≠ 331 → s' i = s2 i) ∧ ∀ i q, i < 16 → q < 4 → s' 331 (4 * (i + 1) + q) = if i = j ∧ q < 4 then mvv L L' (vl j) q else vl i q := by
    intro r
    induction r with
    | zero =>
      intro k hk s1 hO hw jk
      obtain rfl : k = 4 := by omega
      have h1 : (4 : Int32) ≤ nI 4 := by decide
      refine ⟨s1, fun Q => ?_, hO, hw⟩
      rw [k_M_transform_94]
      simp only [k_M_transform_95, k_M_transform_96, k_M_transform_121, h1, am_ob_s, List.tail_cons, List.tail_nil, Option.toList_some, Option.toList_none, List.nil_append, List.cons_append, List.length_nil, List.length_cons, Nat.zero_le, true_and, and_true, true_implies, false_implies, not_true_eq_false, not_false_eq_true, implies_true, or_true, true_or, Nat.reduceAdd, Nat.reduceLeDiff]
    | succ r ih =>
      intro k hk s1 hO hw jk
      have h1 : ¬ (4 : Int32) ≤ nI k := nI_ge (b := 4) (by omega) (by decide)
      have lf := l_M_fresh (s := s1) (show k < 4 by omega)
      rw [hO 333 (by omega), a3 k (by omega)] at lf
      have i17 := ix17 (j + 1) (by omega) k (by omega)
      have wh := fun (v : Int32) => w_M_held (s := s1) (v := v) (show 4 * (j + 1) + k < 68 by omega)
      obtain ⟨s', b1, b2, b3⟩ := ih (k + 1) (by omega) (am_wr s1 331 (4 * (j + 1) + k) (mvv L L' (vl j) k)) (fun i q => by rw [am_wr_row _ q]; exact hO i q) (fun i q hi hq => by
        by_cases w : i = j ∧ q = k
        · rw [w.1, w.2, am_wr_self, if_pos ⟨rfl, by omega⟩]
        · rw [am_wr_col _ (by omega), hw i q hi hq]
          by_cases w2 : i = j ∧ q < k
          · rw [if_pos w2, if_pos ⟨w2.1, by omega⟩]
          · rw [if_neg w2, if_neg (by omega)]) jk
      refine ⟨s', fun Q => ?_, b2, b3⟩
      rw [k_M_transform_94]
      simp only [k_M_transform_95, k_M_transform_96, k_M_transform_99, k_M_transform_100, k_M_transform_103, k_M_transform_104, k_M_transform_105, k_M_transform_106, k_M_transform_107, k_M_transform_108, k_M_transform_109, k_M_transform_112, k_M_transform_113, k_M_transform_114, k_M_transform_115, k_M_transform_118, g_M0, g_M1, g_M2, g_M3, g_M4, g_M5, g_M6, g_M7, g_M8, g_M9, g_M10, g_M11, g_M12, g_M13, g_M14, g_M15, g_M16, g_M17, g_M18, g_M19, g_M20, g_M21, g_M22, g_M23, g_M24, g_M25, g_M26, g_M27, g_M28, g_M29, g_M30, g_M31, g_M32, g_M33, h1, i17, lf, wh, nI_1, am_ob_s, List.tail_cons, List.tail_nil, Option.toList_some, Option.toList_none, List.nil_append, List.cons_append, List.length_nil, List.length_cons, Nat.zero_le, true_and, and_true, true_implies, false_implies, not_true_eq_false, not_false_eq_true, implies_true, or_true, true_or, Nat.reduceAdd, Nat.reduceLeDiff]
      exact b1 Q
  obtain ⟨s', b1, b2, b3⟩ := loop2 4 0 (by omega) s2 (fun i _ => rfl) (fun i q hi hq => by
    rw [if_neg (by omega), a2 331 (by omega)]
    exact (hh i hi).2.2 q hq) jk2
  rw [nI_0] at a1 b1
  refine ⟨s', fun Q => ?_, fun i hi => ⟨?_, (hh i hi).2.1, fun k hk => ?_⟩, fun i q1 q2 => (b2 i q1).trans (a2 i q2)⟩
  · rw [c_M_transform]
    simp only [k_M_transform_0, k_M_transform_1, am_ob_s, List.tail_cons, List.tail_nil, Option.toList_some, Option.toList_none, List.nil_append, List.cons_append, List.length_nil, List.length_cons, Nat.zero_le, true_and, and_true, true_implies, false_implies, not_true_eq_false, not_false_eq_true, implies_true, or_true, true_or, Nat.reduceAdd, Nat.reduceLeDiff]
    rw [a1]
    exact b1 Q
  · rw [b2 330 (by omega), a2 330 (by omega)]
    exact (hh i hi).1
  · rw [b3 i k hi hk]
    by_cases q : i = j
    · rw [if_pos ⟨q, hk⟩, q, pSt_s]
    · rw [if_neg (fun w => q w.1), pSt_n q]
end SM19
