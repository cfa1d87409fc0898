/-! The reference: the first wrong place -/
theorem ckOp_t {G : pPg} {R : pRo} {e : Nat × Int32 × Nat} {σ : List Int32 × Bool} (h : σ.2 = true) : (ckOp G R e σ).2 = true := by
  unfold ckOp
  split
  · exact ckPut_t h
  · exact ckPut_t h
  · exact ckPut_t h
  · exact ckTake_t h
  · exact ckIf_t (ckEmpty_t h)
  · exact ckIf_t (ckEmpty_t (ckTake_t h))
  · exact ckPut_t h
  · exact ckPut_t (ckIf_t (ckTake_t h))
  · exact ckTake_t (ckTake_t (ckIf_t h))
  · exact ckPut_t (ckArgs_t _ (ckIf_t h))
  · exact ckEmpty_t (ckTake_t h)
  · exact ckPut_t (ckTake_t (ckTake_t h))
  · exact ckTake_t h
  · exact ckPut_t (ckTake_t (ckTake_t h))
/-- the checker's state before place j -/
def ckTo (G : pPg) (R : pRo) : Nat → List Int32 × Bool
  | 0 => ([], false)
  | j + 1 => match R.2.2.2[j]? with
    | none => ckTo G R j
    | some e => ckAt G R j e (ckTo G R j)
theorem ckAt_f {G : pPg} {R : pRo} {j : Nat} {e : Nat × Int32 × Nat} {st : List Int32} (h : (ckAt G R j e (st, false)).2 = false) : ckAt G R j e (st, false) = ckOp G R e (st, false) ∧ (ckOp G R e (st, false)).2 = false := by
  unfold ckAt at h ⊢
  have e1 : (if R.2.2.2.any (pJmp (nI j)) = true then ckEmpty (st, false) else (st, false)) = (st, false) ∨ (if R.2.2.2.any (pJmp (nI j)) = true then ckEmpty (st, false) else (st, false)).2 = true := by
    split
    · cases st with
      | nil => exact Or.inl rfl
      | cons a r => exact Or.inr rfl
    · exact Or.inl rfl
  rcases e1 with e1 | e1
  · rw [e1] at h ⊢
    simp only [ckIf, Bool.or_eq_false_iff] at h
    refine ⟨?_, h.1⟩
    unfold ckIf
    rw [h.2, Bool.or_false]
  · exact absurd (ckIf_t (ckOp_t e1)) (by rw [h]; simp)
section SM14
variable {s : am_S}
theorem e_M_aimedAt {R : pRo} {a p : Nat} (ha : a < 30) (hR : MrC s a R) {Q : Option Value → am_H → Prop} : am_C f_M_aimedAt [.ref 308, .int (nI a), .int (nI p)] (TP, s) Q ↔ Q (some (.int (zb (R.2.2.2.any (pJmp (nI p)) = true)))) (TP, s) := by
  have h14 := hR.2.2.2.2.1
  have ll := l_M_length (s := s) ha
  rw [hR.2.2.2.1] at ll
  have loop : ∀ (r j : Nat), j + r = R.2.2.2.length → ∀ (A : Prop) (jk : List Value), am_W m_M_aimedAt 5 (.ref 308 :: .int (nI a) :: .int (nI p) :: .int (zb A) :: .int (nI j) :: jk) [] (TP, s) Q ↔ Q (some (.int (zb (A ∨ (R.2.2.2.drop j).any (pJmp (nI p)) = true)))) (TP, s) := by
    intro r
    induction r with
    | zero =>
      intro j hj A jk
      have h1 : nI R.2.2.2.length ≤ nI j := nI_le (by omega) (by omega)
      have e1 : (A ∨ (R.2.2.2.drop j).any (pJmp (nI p)) = true) ↔ A := by
        rw [List.drop_eq_nil_of_le (by omega)]
        simp
      rw [k_M_aimedAt_5, zb_e e1]
      simp only [k_M_aimedAt_7, k_M_aimedAt_8, k_M_aimedAt_11, k_M_aimedAt_12, k_M_aimedAt_13, k_M_aimedAt_76, k_M_aimedAt_77, g_M0, g_M1, g_M2, g_M3, g_M4, g_M5, g_M6, g_M7, g_M8, g_M9, g_M10, g_M11, g_M12, g_M13, g_M14, g_M15, g_M16, g_M17, g_M18, g_M19, g_M20, g_M21, g_M22, g_M23, g_M24, g_M25, g_M26, g_M27, g_M28, g_M29, g_M30, g_M31, g_M32, g_M33, ll, h1, zb_01, am_ob_s, List.tail_cons, List.tail_nil, Option.toList_some, Option.toList_none, List.nil_append, List.cons_append, List.length_nil, List.length_cons, Nat.zero_le, true_and, and_true, true_implies, false_implies, not_true_eq_false, not_false_eq_true, implies_true, or_true, true_or, Nat.reduceAdd, Nat.reduceLeDiff]
    | succ r ih =>
      intro j hj A jk
      have h1 : ¬ nI R.2.2.2.length ≤ nI j := nI_ge (by omega) (by omega)
      have hjl : j < R.2.2.2.length := by omega
      obtain ⟨e, he⟩ : ∃ e, R.2.2.2[j]? = some e := ⟨_, List.getElem?_eq_getElem hjl⟩
      have hd : R.2.2.2.drop j = e :: R.2.2.2.drop (j + 1) := by
        rw [List.drop_eq_getElem_cons hjl]
        rw [List.getElem?_eq_getElem hjl] at he
        rw [Option.some.inj he]
      obtain ⟨v1, v2, v3⟩ := hR.2.2.2.2.2 j e he
      have i14 := ix14 a ha j (by omega)
      have h420 : 14 * a + j < 420 := by omega
      have l1 := l_M_op (s := s) h420
      have l2 := l_M_x (s := s) h420
      rw [v1] at l1
      rw [v2] at l2
      have ih' := fun (A : Prop) => ih (j + 1) (by omega) A (.int (nI e.1) :: jk.tail)
      have e2 : (A ∨ (R.2.2.2.drop j).any (pJmp (nI p)) = true) ↔ ((A ∨ pJmp (nI p) e = true) ∨ (R.2.2.2.drop (j + 1)).any (pJmp (nI p)) = true) := by
        rw [hd, List.any_cons, Bool.or_eq_true, or_assoc]
      have go : ∀ B : Prop, (A ∨ pJmp (nI p) e = true ↔ B) → (am_W m_M_aimedAt 5 (.ref 308 :: .int (nI a) :: .int (nI p) :: .int (zb A) :: .int (nI j) :: jk) [] (TP, s) Q ↔ am_W m_M_aimedAt 5 (.ref 308 :: .int (nI a) :: .int (nI p) :: .int (zb B) :: .int (nI (j + 1)) :: .int (nI e.1) :: jk.tail) [] (TP, s) Q) → (am_W m_M_aimedAt 5 (.ref 308 :: .int (nI a) :: .int (nI p) :: .int (zb A) :: .int (nI j) :: jk) [] (TP, s) Q ↔ Q (some (.int (zb (A ∨ (R.2.2.2.drop j).any (pJmp (nI p)) = true)))) (TP, s)) := fun B q1 q2 => by
        rw [q2, ih' B, zb_e e2, propext q1]
      by_cases hA : A
      · refine go True ⟨fun _ => trivial, fun _ => Or.inl hA⟩ ?_
        rw [k_M_aimedAt_5, zb_t hA, zb_T]
        simp only [k_M_aimedAt_7, k_M_aimedAt_8, k_M_aimedAt_11, k_M_aimedAt_12, k_M_aimedAt_13, k_M_aimedAt_16, k_M_aimedAt_17, k_M_aimedAt_20, k_M_aimedAt_22, k_M_aimedAt_23, k_M_aimedAt_24, k_M_aimedAt_26, k_M_aimedAt_27, k_M_aimedAt_28, k_M_aimedAt_30, k_M_aimedAt_31, k_M_aimedAt_34, k_M_aimedAt_36, k_M_aimedAt_38, k_M_aimedAt_41, k_M_aimedAt_43, k_M_aimedAt_45, k_M_aimedAt_48, k_M_aimedAt_49, k_M_aimedAt_52, k_M_aimedAt_54, k_M_aimedAt_55, k_M_aimedAt_56, k_M_aimedAt_58, k_M_aimedAt_59, k_M_aimedAt_60, k_M_aimedAt_61, k_M_aimedAt_64, k_M_aimedAt_65, k_M_aimedAt_68, k_M_aimedAt_69, k_M_aimedAt_70, k_M_aimedAt_73, g_M0, g_M1, g_M2, g_M3, g_M4, g_M5, g_M6, g_M7, g_M8, g_M9, g_M10, g_M11, g_M12, g_M13, g_M14, g_M15, g_M16, g_M17, g_M18, g_M19, g_M20, g_M21, g_M22, g_M23, g_M24, g_M25, g_M26, g_M27, g_M28, g_M29, g_M30, g_M31, g_M32, g_M33, ll, h1, i14, l1, hz10, nI_1, am_ob_s, List.tail_cons, List.tail_nil, Option.toList_some, Option.toList_none, List.nil_append, List.cons_append, List.length_nil, List.length_cons, Nat.zero_le, true_and, and_true, true_implies, false_implies, not_true_eq_false, not_false_eq_true, implies_true, or_true, true_or, Nat.reduceAdd, Nat.reduceLeDiff]
      · by_cases q3 : e.2.1 = nI p
        · by_cases q1 : nI e.1 = 8
          · refine go True ⟨fun _ => trivial, fun _ => Or.inr (by simp [pJmp, q1, q3])⟩ ?_
            rw [k_M_aimedAt_5, zb_f hA, zb_T]
            simp only [k_M_aimedAt_7, k_M_aimedAt_8, k_M_aimedAt_11, k_M_aimedAt_12, k_M_aimedAt_13, k_M_aimedAt_16, k_M_aimedAt_17, k_M_aimedAt_20, k_M_aimedAt_22, k_M_aimedAt_23, k_M_aimedAt_24, k_M_aimedAt_26, k_M_aimedAt_27, k_M_aimedAt_28, k_M_aimedAt_30, k_M_aimedAt_31, k_M_aimedAt_34, k_M_aimedAt_36, k_M_aimedAt_38, k_M_aimedAt_41, k_M_aimedAt_43, k_M_aimedAt_45, k_M_aimedAt_48, k_M_aimedAt_49, k_M_aimedAt_52, k_M_aimedAt_54, k_M_aimedAt_55, k_M_aimedAt_56, k_M_aimedAt_58, k_M_aimedAt_59, k_M_aimedAt_60, k_M_aimedAt_61, k_M_aimedAt_64, k_M_aimedAt_65, k_M_aimedAt_68, k_M_aimedAt_69, k_M_aimedAt_70, k_M_aimedAt_73, g_M0, g_M1, g_M2, g_M3, g_M4, g_M5, g_M6, g_M7, g_M8, g_M9, g_M10, g_M11, g_M12, g_M13, g_M14, g_M15, g_M16, g_M17, g_M18, g_M19, g_M20, g_M21, g_M22, g_M23, g_M24, g_M25, g_M26, g_M27, g_M28, g_M29, g_M30, g_M31, g_M32, g_M33, ll, h1, i14, l1, l2, q1, q3, hz10, nI_1, am_ob_s, List.tail_cons, List.tail_nil, Option.toList_some, Option.toList_none, List.nil_append, List.cons_append, List.length_nil, List.length_cons, Nat.zero_le, true_and, and_true, true_implies, false_implies, not_true_eq_false, not_false_eq_true, implies_true, or_true, true_or, Nat.reduceAdd, Nat.reduceLeDiff]
          · by_cases q2 : nI e.1 = 9
            · refine go True ⟨fun _ => trivial, fun _ => Or.inr (by simp [pJmp, q2, q3])⟩ ?_
              rw [k_M_aimedAt_5, zb_f hA, zb_T]
              simp only [k_M_aimedAt_7, k_M_aimedAt_8, k_M_aimedAt_11, k_M_aimedAt_12, k_M_aimedAt_13, k_M_aimedAt_16, k_M_aimedAt_17, k_M_aimedAt_20, k_M_aimedAt_22, k_M_aimedAt_23, k_M_aimedAt_24, k_M_aimedAt_26, k_M_aimedAt_27, k_M_aimedAt_28, k_M_aimedAt_30, k_M_aimedAt_31, k_M_aimedAt_34, k_M_aimedAt_36, k_M_aimedAt_38, k_M_aimedAt_41, k_M_aimedAt_43, k_M_aimedAt_45, k_M_aimedAt_48, k_M_aimedAt_49, k_M_aimedAt_52, k_M_aimedAt_54, k_M_aimedAt_55, k_M_aimedAt_56, k_M_aimedAt_58, k_M_aimedAt_59, k_M_aimedAt_60, k_M_aimedAt_61, k_M_aimedAt_64, k_M_aimedAt_65, k_M_aimedAt_68, k_M_aimedAt_69, k_M_aimedAt_70, k_M_aimedAt_73, g_M0, g_M1, g_M2, g_M3, g_M4, g_M5, g_M6, g_M7, g_M8, g_M9, g_M10, g_M11, g_M12, g_M13, g_M14, g_M15, g_M16, g_M17, g_M18, g_M19, g_M20, g_M21, g_M22, g_M23, g_M24, g_M25, g_M26, g_M27, g_M28, g_M29, g_M30, g_M31, g_M32, g_M33, ll, h1, i14, l1, l2, q1, q2, q3, hz10, nI_1, show ¬ (9 : Int32) = 8 by decide, am_ob_s, List.tail_cons, List.tail_nil, Option.toList_some, Option.toList_none, List.nil_append, List.cons_append, List.length_nil, List.length_cons, Nat.zero_le, true_and, and_true, true_implies, false_implies, not_true_eq_false, not_false_eq_true, implies_true, or_true, true_or, Nat.reduceAdd, Nat.reduceLeDiff]
            · refine go False ⟨fun q => q.elim hA (fun q => by simp [pJmp, q1, q2] at q), fun q => q.elim⟩ ?_
              rw [k_M_aimedAt_5, zb_f hA, zb_F]
              simp only [k_M_aimedAt_7, k_M_aimedAt_8, k_M_aimedAt_11, k_M_aimedAt_12, k_M_aimedAt_13, k_M_aimedAt_16, k_M_aimedAt_17, k_M_aimedAt_20, k_M_aimedAt_22, k_M_aimedAt_23, k_M_aimedAt_24, k_M_aimedAt_26, k_M_aimedAt_27, k_M_aimedAt_28, k_M_aimedAt_30, k_M_aimedAt_31, k_M_aimedAt_34, k_M_aimedAt_36, k_M_aimedAt_38, k_M_aimedAt_41, k_M_aimedAt_43, k_M_aimedAt_45, k_M_aimedAt_48, k_M_aimedAt_49, k_M_aimedAt_52, k_M_aimedAt_54, k_M_aimedAt_55, k_M_aimedAt_56, k_M_aimedAt_58, k_M_aimedAt_59, k_M_aimedAt_60, k_M_aimedAt_61, k_M_aimedAt_64, k_M_aimedAt_65, k_M_aimedAt_68, k_M_aimedAt_69, k_M_aimedAt_70, k_M_aimedAt_73, g_M0, g_M1, g_M2, g_M3, g_M4, g_M5, g_M6, g_M7, g_M8, g_M9, g_M10, g_M11, g_M12, g_M13, g_M14, g_M15, g_M16, g_M17, g_M18, g_M19, g_M20, g_M21, g_M22, g_M23, g_M24, g_M25, g_M26, g_M27, g_M28, g_M29, g_M30, g_M31, g_M32, g_M33, ll, h1, i14, l1, l2, q1, q2, q3, hz10, nI_1, am_ob_s, List.tail_cons, List.tail_nil, Option.toList_some, Option.toList_none, List.nil_append, List.cons_append, List.length_nil, List.length_cons, Nat.zero_le, true_and, and_true, true_implies, false_implies, not_true_eq_false, not_false_eq_true, implies_true, or_true, true_or, Nat.reduceAdd, Nat.reduceLeDiff]
        · refine go False ⟨fun q => q.elim hA (fun q => by simp [pJmp, q3] at q), fun q => q.elim⟩ ?_
          rw [k_M_aimedAt_5, zb_f hA, zb_F]
          by_cases q1 : nI e.1 = 8
          · simp only [k_M_aimedAt_7, k_M_aimedAt_8, k_M_aimedAt_11, k_M_aimedAt_12, k_M_aimedAt_13, k_M_aimedAt_16, k_M_aimedAt_17, k_M_aimedAt_20, k_M_aimedAt_22, k_M_aimedAt_23, k_M_aimedAt_24, k_M_aimedAt_26, k_M_aimedAt_27, k_M_aimedAt_28, k_M_aimedAt_30, k_M_aimedAt_31, k_M_aimedAt_34, k_M_aimedAt_36, k_M_aimedAt_38, k_M_aimedAt_41, k_M_aimedAt_43, k_M_aimedAt_45, k_M_aimedAt_48, k_M_aimedAt_49, k_M_aimedAt_52, k_M_aimedAt_54, k_M_aimedAt_55, k_M_aimedAt_56, k_M_aimedAt_58, k_M_aimedAt_59, k_M_aimedAt_60, k_M_aimedAt_61, k_M_aimedAt_64, k_M_aimedAt_65, k_M_aimedAt_68, k_M_aimedAt_69, k_M_aimedAt_70, k_M_aimedAt_73, g_M0, g_M1, g_M2, g_M3, g_M4, g_M5, g_M6, g_M7, g_M8, g_M9, g_M10, g_M11, g_M12, g_M13, g_M14, g_M15, g_M16, g_M17, g_M18, g_M19, g_M20, g_M21, g_M22, g_M23, g_M24, g_M25, g_M26, g_M27, g_M28, g_M29, g_M30, g_M31, g_M32, g_M33, ll, h1, i14, l1, l2, q1, q3, hz10, nI_1, am_ob_s, List.tail_cons, List.tail_nil, Option.toList_some, Option.toList_none, List.nil_append, List.cons_append, List.length_nil, List.length_cons, Nat.zero_le, true_and, and_true, true_implies, false_implies, not_true_eq_false, not_false_eq_true, implies_true, or_true, true_or, Nat.reduceAdd, Nat.reduceLeDiff]
          · by_cases q2 : nI e.1 = 9
            · simp only [k_M_aimedAt_7, k_M_aimedAt_8, k_M_aimedAt_11, k_M_aimedAt_12, k_M_aimedAt_13, k_M_aimedAt_16, k_M_aimedAt_17, k_M_aimedAt_20, k_M_aimedAt_22, k_M_aimedAt_23, k_M_aimedAt_24, k_M_aimedAt_26, k_M_aimedAt_27, k_M_aimedAt_28, k_M_aimedAt_30, k_M_aimedAt_31, k_M_aimedAt_34, k_M_aimedAt_36, k_M_aimedAt_38, k_M_aimedAt_41, k_M_aimedAt_43, k_M_aimedAt_45, k_M_aimedAt_48, k_M_aimedAt_49, k_M_aimedAt_52, k_M_aimedAt_54, k_M_aimedAt_55, k_M_aimedAt_56, k_M_aimedAt_58, k_M_aimedAt_59, k_M_aimedAt_60, k_M_aimedAt_61, k_M_aimedAt_64, k_M_aimedAt_65, k_M_aimedAt_68, k_M_aimedAt_69, k_M_aimedAt_70, k_M_aimedAt_73, g_M0, g_M1, g_M2, g_M3, g_M4, g_M5, g_M6, g_M7, g_M8, g_M9, g_M10, g_M11, g_M12, g_M13, g_M14, g_M15, g_M16, g_M17, g_M18, g_M19, g_M20, g_M21, g_M22, g_M23, g_M24, g_M25, g_M26, g_M27, g_M28, g_M29, g_M30, g_M31, g_M32, g_M33, ll, h1, i14, l1, l2, q1, q2, q3, hz10, nI_1, show ¬ (9 : Int32) = 8 by decide, am_ob_s, List.tail_cons, List.tail_nil, Option.toList_some, Option.toList_none, List.nil_append, List.cons_append, List.length_nil, List.length_cons, Nat.zero_le, true_and, and_true, true_implies, false_implies, not_true_eq_false, not_false_eq_true, implies_true, or_true, true_or, Nat.reduceAdd, Nat.reduceLeDiff]
            · simp only [k_M_aimedAt_7, k_M_aimedAt_8, k_M_aimedAt_11, k_M_aimedAt_12, k_M_aimedAt_13, k_M_aimedAt_16, k_M_aimedAt_17, k_M_aimedAt_20, k_M_aimedAt_22, k_M_aimedAt_23, k_M_aimedAt_24, k_M_aimedAt_26, k_M_aimedAt_27, k_M_aimedAt_28, k_M_aimedAt_30, k_M_aimedAt_31, k_M_aimedAt_34, k_M_aimedAt_36, k_M_aimedAt_38, k_M_aimedAt_41, k_M_aimedAt_43, k_M_aimedAt_45, k_M_aimedAt_48, k_M_aimedAt_49, k_M_aimedAt_52, k_M_aimedAt_54, k_M_aimedAt_55, k_M_aimedAt_56, k_M_aimedAt_58, k_M_aimedAt_59, k_M_aimedAt_60, k_M_aimedAt_61, k_M_aimedAt_64, k_M_aimedAt_65, k_M_aimedAt_68, k_M_aimedAt_69, k_M_aimedAt_70, k_M_aimedAt_73, g_M0, g_M1, g_M2, g_M3, g_M4, g_M5, g_M6, g_M7, g_M8, g_M9, g_M10, g_M11, g_M12, g_M13, g_M14, g_M15, g_M16, g_M17, g_M18, g_M19, g_M20, g_M21, g_M22, g_M23, g_M24, g_M25, g_M26, g_M27, g_M28, g_M29, g_M30, g_M31, g_M32, g_M33, ll, h1, i14, l1, l2, q1, q2, q3, hz10, nI_1, am_ob_s, List.tail_cons, List.tail_nil, Option.toList_some, Option.toList_none, List.nil_append, List.cons_append, List.length_nil, List.length_cons, Nat.zero_le, true_and, and_true, true_implies, false_implies, not_true_eq_false, not_false_eq_true, implies_true, or_true, true_or, Nat.reduceAdd, Nat.reduceLeDiff]
  have := loop R.2.2.2.length 0 (by omega) False []
  rw [nI_0, zb_F, List.drop_zero] at this
  rw [c_M_aimedAt]
  simp only [k_M_aimedAt_0, k_M_aimedAt_1, k_M_aimedAt_2, k_M_aimedAt_3, am_ob_s, List.tail_cons, List.tail_nil, Option.toList_some, Option.toList_none, List.nil_append, List.cons_append, List.length_nil, List.length_cons, Nat.zero_le, true_and, and_true, true_implies, false_implies, not_true_eq_false, not_false_eq_true, implies_true, or_true, true_or, Nat.reduceAdd, Nat.reduceLeDiff]
  rw [this]
  exact Iff.of_eq (by rw [false_or])
/-- a call of the checker's part that answers, leaving what it likes on its own stack -/
def kI (f : am_F) (as : List Value) (s : am_S) (v : Int32) : Prop := ∃ s', (∀ Q : Option Value → am_H → Prop, am_C f as (TP, s) Q ↔ Q (some (.int v)) (TP, s')) ∧ mK s s'
set_option maxHeartbeats 1000000 in
theorem e_M_bad {D : pPg} (hD : MpC s 4 D) (hl : okL D.1) (hRs : ∀ m, m < 6 → okR (D.2.1 m)) {m p : Nat} (hm : m < 6) (hp : p < (D.2.1 m).2.2.2.length) (hok : ∀ (j : Nat) (e : Nat × Int32 × Nat), (D.2.1 m).2.2.2[j]? = some e → okE e) (hgood : ∀ q, q ≤ p → (ckTo D (D.2.1 m) q).2 = false) : kI f_M_bad [.ref 308, .int (nI (6 * 4 + m)), .int (nI p)] s (zb ((ckTo D (D.2.1 m) (p + 1)).2 = true)) := by
  have g := hD.2.1 m hm
  have h14 := g.2.2.2.2.1
  have loop : ∀ (r j : Nat), j + r = p → ∀ (s1 : am_S), mK s s1 → SeC s1 (ckTo D (D.2.1 m) j).1 → ∀ (jk : List Value), ∃ s', (∃ jk', ∀ Q : Option Value → am_H → Prop, am_W m_M_bad 7 (.ref 308 :: .int (nI (6 * 4 + m)) :: .int (nI p) :: .int (nI j) :: jk) [] (TP, s1) Q ↔ am_W m_M_bad 25 (.ref 308 :: .int (nI (6 * 4 + m)) :: .int (nI p) :: jk') [] (TP, s') Q) ∧ mK s s' ∧ SeC s' (ckTo D (D.2.1 m) p).1 := by
    intro r
    induction r with
    | zero =>
      intro j hj s1 hk hS jk
      obtain rfl : j = p := by omega
      have h1 : nI j ≤ nI j := Int32.le_refl _
      refine ⟨s1, ⟨.int (nI j) :: jk, fun Q => ?_⟩, hk, hS⟩
      rw [k_M_bad_7]
      simp only [k_M_bad_8, k_M_bad_9, h1, am_ob_s, List.tail_cons, List.tail_nil, Option.toList_some, Option.toList_none, List.nil_append, List.cons_append, List.length_nil, List.length_cons, Nat.zero_le, true_and, and_true, true_implies, false_implies, not_true_eq_false, not_false_eq_true, implies_true, or_true, true_or, Nat.reduceAdd, Nat.reduceLeDiff]
    | succ r ih =>
      intro j hj s1 hk hS jk
      have h1 : ¬ nI p ≤ nI j := nI_ge (by omega) (by omega)
      obtain ⟨e, he⟩ : ∃ e, (D.2.1 m).2.2.2[j]? = some e := ⟨_, List.getElem?_eq_getElem (by omega)⟩
      obtain ⟨s2, a1, a2, a3⟩ := e_M_goes hS (MpC_k hD hk) hl hRs hm he (hok j e he)
      have es : ckTo D (D.2.1 m) (j + 1) = ckAt D (D.2.1 m) j e (ckTo D (D.2.1 m) j) := by rw [ckTo, he]
      have e0 : ckTo D (D.2.1 m) j = ((ckTo D (D.2.1 m) j).1, false) := Prod.ext rfl (hgood j (by omega))
      have g1 := hgood (j + 1) (by omega)
      rw [es, e0] at g1
      obtain ⟨f1, f2⟩ := ckAt_f g1
      have S2 := a2 f2
      rw [← f1, ← e0, ← es] at S2
      obtain ⟨s', ⟨jk', b1⟩, b2, b3⟩ := ih (j + 1) (by omega) s2 (mK_tr hk a3) S2 jk
      refine ⟨s', ⟨jk', fun Q => ?_⟩, b2, b3⟩
      rw [k_M_bad_7]
      simp only [k_M_bad_8, k_M_bad_9, k_M_bad_12, k_M_bad_13, k_M_bad_14, k_M_bad_15, k_M_bad_18, k_M_bad_18i, k_M_bad_19, k_M_bad_22, h1, rc_M, a1, nI_1, am_ob_s, List.tail_cons, List.tail_nil, Option.toList_some, Option.toList_none, List.nil_append, List.cons_append, List.length_nil, List.length_cons, Nat.zero_le, true_and, and_true, true_implies, false_implies, not_true_eq_false, not_false_eq_true, implies_true, or_true, true_or, Nat.reduceAdd, Nat.reduceLeDiff]
      exact b1 Q
  have S0 : SeC (am_wr s 308 18 0) (ckTo D (D.2.1 m) 0).1 := ⟨am_wr_self _ _ _ _, by simp [ckTo], fun k v hk => by simp [ckTo] at hk⟩
  obtain ⟨s1, ⟨jk, a1⟩, a2, a3⟩ := loop p 0 (by omega) (am_wr s 308 18 0) ⟨fun i q1 q2 => am_wr_row _ q1, fun k q => am_wr_col _ q⟩ S0 []
  rw [nI_0] at a1
  have pre : ∀ Q : Option Value → am_H → Prop, am_C f_M_bad [.ref 308, .int (nI (6 * 4 + m)), .int (nI p)] (TP, s) Q ↔ am_W m_M_bad 25 (.ref 308 :: .int (nI (6 * 4 + m)) :: .int (nI p) :: jk) [] (TP, s1) Q := fun Q => by
    rw [c_M_bad]
    simp only [k_M_bad_0, k_M_bad_1, k_M_bad_2, k_M_bad_5, k_M_bad_6, p_M18, am_ob_s, List.tail_cons, List.tail_nil, Option.toList_some, Option.toList_none, List.nil_append, List.cons_append, List.length_nil, List.length_cons, Nat.zero_le, true_and, and_true, true_implies, false_implies, not_true_eq_false, not_false_eq_true, implies_true, or_true, true_or, Nat.reduceAdd, Nat.reduceLeDiff]
    exact a1 Q
  obtain ⟨e, he⟩ : ∃ e, (D.2.1 m).2.2.2[p]? = some e := ⟨_, List.getElem?_eq_getElem hp⟩
  have es : ckTo D (D.2.1 m) (p + 1) = ckAt D (D.2.1 m) p e (ckTo D (D.2.1 m) p) := by rw [ckTo, he]
  have e0 : ckTo D (D.2.1 m) p = ((ckTo D (D.2.1 m) p).1, false) := Prod.ext rfl (hgood p (by omega))
  rw [es, e0]
  generalize est : (ckTo D (D.2.1 m) p).1 = st at a3
  have hD1 := MpC_k hD a2
  have g1 := hD1.2.1 m hm
  have ha : 6 * 4 + m < 30 := by omega
  have aim := fun (Q : Option Value → am_H → Prop) => e_M_aimedAt (s := s1) (p := p) ha g1 (Q := Q)
  obtain ⟨s2, b1, b2, b3⟩ := e_M_goes a3 hD1 hl hRs hm he (hok p e he)
  have hD2 := MpC_k hD1 b3
  have g2 := hD2.2.1 m hm
  obtain ⟨v1, v2, v3⟩ := g2.2.2.2.2.2 p e he
  have i14 := ix14 (6 * 4 + m) ha p (by omega)
  have h420 : 14 * (6 * 4 + m) + p < 420 := by omega
  have l1 := l_M_op (s := s2) h420
  rw [v1] at l1
  have ll := l_M_length (s := s2) ha
  rw [g2.2.2.2.1] at ll
  have hq : nI p = nI (D.2.1 m).2.2.2.length - 1 ↔ p + 1 = (D.2.1 m).2.2.2.length := by
    have hl : nI (D.2.1 m).2.2.2.length - 1 = nI ((D.2.1 m).2.2.2.length - 1) := by
      have := nI_pred ((D.2.1 m).2.2.2.length - 1)
      rw [show (D.2.1 m).2.2.2.length - 1 + 1 = (D.2.1 m).2.2.2.length by omega] at this
      exact this
    rw [hl, nI_eq (by omega) (by omega)]
    omega
  -- after the aim
  have rest : (if (D.2.1 m).2.2.2.any (pJmp (nI p)) = true then ckEmpty (st, false) else (st, false)) = (st, false) → (∀ Q : Option Value → am_H → Prop, am_C f_M_bad [.ref 308, .int (nI (6 * 4 + m)), .int (nI p)] (TP, s) Q ↔ am_W m_M_bad 41 (.ref 308 :: .int (nI (6 * 4 + m)) :: .int (nI p) :: jk) [] (TP, s1) Q) → kI f_M_bad [.ref 308, .int (nI (6 * 4 + m)), .int (nI p)] s (zb ((ckAt D (D.2.1 m) p e (st, false)).2 = true)) := fun q1 q2 => by
    refine ⟨s2, fun Q => ?_, mK_tr a2 b3⟩
    rw [q2]
    unfold ckAt
    rw [q1]
    cases hb : (ckOp D (D.2.1 m) e (st, false)).2 with
    | true =>
      rw [zb_f (nbt hb)] at b1
      rw [zb_t (p := (ckIf _ (ckOp D (D.2.1 m) e (st, false))).2 = true) (ckIf_t hb)]
      simp only [k_M_bad_41, k_M_bad_42, k_M_bad_43, k_M_bad_44, k_M_bad_47, k_M_bad_50, k_M_bad_51, rc_M, b1, am_ob_s, List.tail_cons, List.tail_nil, Option.toList_some, Option.toList_none, List.nil_append, List.cons_append, List.length_nil, List.length_cons, Nat.zero_le, true_and, and_true, true_implies, false_implies, not_true_eq_false, not_false_eq_true, implies_true, or_true, true_or, Nat.reduceAdd, Nat.reduceLeDiff]
    | false =>
      rw [zb_t hb] at b1
      by_cases w1 : p + 1 = (D.2.1 m).2.2.2.length
      · by_cases w2 : nI e.1 = 8
        · rw [zb_f (by simp [ckIf, hb, w2])]
          simp only [k_M_bad_41, k_M_bad_42, k_M_bad_43, k_M_bad_44, k_M_bad_47, k_M_bad_50, k_M_bad_51, k_M_bad_52, k_M_bad_53, k_M_bad_56, k_M_bad_58, k_M_bad_59, k_M_bad_60, k_M_bad_61, k_M_bad_62, k_M_bad_63, k_M_bad_64, k_M_bad_65, k_M_bad_66, k_M_bad_69, k_M_bad_70, k_M_bad_71, k_M_bad_72, k_M_bad_73, k_M_bad_76, k_M_bad_77, k_M_bad_79, k_M_bad_82, k_M_bad_83, k_M_bad_85, k_M_bad_88, k_M_bad_89, k_M_bad_92, k_M_bad_93, rc_M, g_M0, g_M1, g_M2, g_M3, g_M4, g_M5, g_M6, g_M7, g_M8, g_M9, g_M10, g_M11, g_M12, g_M13, g_M14, g_M15, g_M16, g_M17, g_M18, g_M19, g_M20, g_M21, g_M22, g_M23, g_M24, g_M25, g_M26, g_M27, g_M28, g_M29, g_M30, g_M31, g_M32, g_M33, b1, hz10, i14, l1, ll, hq, w1, w2, am_ob_s, List.tail_cons, List.tail_nil, Option.toList_some, Option.toList_none, List.nil_append, List.cons_append, List.length_nil, List.length_cons, Nat.zero_le, true_and, and_true, true_implies, false_implies, not_true_eq_false, not_false_eq_true, implies_true, or_true, true_or, Nat.reduceAdd, Nat.reduceLeDiff]
        · by_cases w3 : nI e.1 = 14
          · rw [zb_f (by simp [ckIf, hb, w3])]
            simp only [k_M_bad_41, k_M_bad_42, k_M_bad_43, k_M_bad_44, k_M_bad_47, k_M_bad_50, k_M_bad_51, k_M_bad_52, k_M_bad_53, k_M_bad_56, k_M_bad_58, k_M_bad_59, k_M_bad_60, k_M_bad_61, k_M_bad_62, k_M_bad_63, k_M_bad_64, k_M_bad_65, k_M_bad_66, k_M_bad_69, k_M_bad_70, k_M_bad_71, k_M_bad_72, k_M_bad_73, k_M_bad_76, k_M_bad_77, k_M_bad_79, k_M_bad_82, k_M_bad_83, k_M_bad_85, k_M_bad_88, k_M_bad_89, k_M_bad_92, k_M_bad_93, rc_M, g_M0, g_M1, g_M2, g_M3, g_M4, g_M5, g_M6, g_M7, g_M8, g_M9, g_M10, g_M11, g_M12, g_M13, g_M14, g_M15, g_M16, g_M17, g_M18, g_M19, g_M20, g_M21, g_M22, g_M23, g_M24, g_M25, g_M26, g_M27, g_M28, g_M29, g_M30, g_M31, g_M32, g_M33, b1, hz10, i14, l1, ll, hq, w1, w2, w3, show ¬ (14 : Int32) = 8 by decide, am_ob_s, List.tail_cons, List.tail_nil, Option.toList_some, Option.toList_none, List.nil_append, List.cons_append, List.length_nil, List.length_cons, Nat.zero_le, true_and, and_true, true_implies, false_implies, not_true_eq_false, not_false_eq_true, implies_true, or_true, true_or, Nat.reduceAdd, Nat.reduceLeDiff]
          · rw [zb_t (by simp [ckIf, w1, w2, w3])]
            simp only [k_M_bad_41, k_M_bad_42, k_M_bad_43, k_M_bad_44, k_M_bad_47, k_M_bad_50, k_M_bad_51, k_M_bad_52, k_M_bad_53, k_M_bad_56, k_M_bad_58, k_M_bad_59, k_M_bad_60, k_M_bad_61, k_M_bad_62, k_M_bad_63, k_M_bad_64, k_M_bad_65, k_M_bad_66, k_M_bad_69, k_M_bad_70, k_M_bad_71, k_M_bad_72, k_M_bad_73, k_M_bad_76, k_M_bad_77, k_M_bad_79, k_M_bad_82, k_M_bad_83, k_M_bad_85, k_M_bad_88, k_M_bad_89, k_M_bad_92, k_M_bad_93, rc_M, g_M0, g_M1, g_M2, g_M3, g_M4, g_M5, g_M6, g_M7, g_M8, g_M9, g_M10, g_M11, g_M12, g_M13, g_M14, g_M15, g_M16, g_M17, g_M18, g_M19, g_M20, g_M21, g_M22, g_M23, g_M24, g_M25, g_M26, g_M27, g_M28, g_M29, g_M30, g_M31, g_M32, g_M33, b1, hz10, i14, l1, ll, hq, w1, w2, w3, am_ob_s, List.tail_cons, List.tail_nil, Option.toList_some, Option.toList_none, List.nil_append, List.cons_append, List.length_nil, List.length_cons, Nat.zero_le, true_and, and_true, true_implies, false_implies, not_true_eq_false, not_false_eq_true, implies_true, or_true, true_or, Nat.reduceAdd, Nat.reduceLeDiff]
      · rw [zb_f (by simp [ckIf, hb, w1])]
        simp only [k_M_bad_41, k_M_bad_42, k_M_bad_43, k_M_bad_44, k_M_bad_47, k_M_bad_50, k_M_bad_51, k_M_bad_52, k_M_bad_53, k_M_bad_56, k_M_bad_58, k_M_bad_59, k_M_bad_60, k_M_bad_61, k_M_bad_62, k_M_bad_63, k_M_bad_64, k_M_bad_65, k_M_bad_66, k_M_bad_69, k_M_bad_70, k_M_bad_71, k_M_bad_72, k_M_bad_73, k_M_bad_76, k_M_bad_77, k_M_bad_79, k_M_bad_82, k_M_bad_83, k_M_bad_85, k_M_bad_88, k_M_bad_89, k_M_bad_92, k_M_bad_93, rc_M, g_M0, g_M1, g_M2, g_M3, g_M4, g_M5, g_M6, g_M7, g_M8, g_M9, g_M10, g_M11, g_M12, g_M13, g_M14, g_M15, g_M16, g_M17, g_M18, g_M19, g_M20, g_M21, g_M22, g_M23, g_M24, g_M25, g_M26, g_M27, g_M28, g_M29, g_M30, g_M31, g_M32, g_M33, b1, hz10, i14, l1, ll, hq, w1, am_ob_s, List.tail_cons, List.tail_nil, Option.toList_some, Option.toList_none, List.nil_append, List.cons_append, List.length_nil, List.length_cons, Nat.zero_le, true_and, and_true, true_implies, false_implies, not_true_eq_false, not_false_eq_true, implies_true, or_true, true_or, Nat.reduceAdd, Nat.reduceLeDiff]
  cases st with
  | nil =>
    have hh : s1 308 18 = 0 := a3.1
    refine rest (by split <;> rfl) (fun Q => ?_)
    rw [pre]
    simp only [k_M_bad_25, k_M_bad_26, k_M_bad_29, g_M0, g_M1, g_M2, g_M3, g_M4, g_M5, g_M6, g_M7, g_M8, g_M9, g_M10, g_M11, g_M12, g_M13, g_M14, g_M15, g_M16, g_M17, g_M18, g_M19, g_M20, g_M21, g_M22, g_M23, g_M24, g_M25, g_M26, g_M27, g_M28, g_M29, g_M30, g_M31, g_M32, g_M33, hh, Int32.le_refl, am_ob_s, List.tail_cons, List.tail_nil, Option.toList_some, Option.toList_none, List.nil_append, List.cons_append, List.length_nil, List.length_cons, Nat.zero_le, true_and, and_true, true_implies, false_implies, not_true_eq_false, not_false_eq_true, implies_true, or_true, true_or, Nat.reduceAdd, Nat.reduceLeDiff]
  | cons b r =>
    have h2 : r.length + 1 ≤ 6 := a3.2.1
    have hh : ¬ s1 308 18 ≤ 0 := by rw [a3.1, List.length_cons]; exact nI_nle (by omega) (by omega)
    by_cases w : (D.2.1 m).2.2.2.any (pJmp (nI p)) = true
    · refine ⟨s1, fun Q => ?_, a2⟩
      have t : (ckAt D (D.2.1 m) p e (b :: r, false)).2 = true := by
        unfold ckAt
        rw [if_pos w]
        exact ckIf_t (ckOp_t (by simp [ckEmpty]))
      rw [pre, zb_t t]
      simp only [k_M_bad_25, k_M_bad_26, k_M_bad_29, k_M_bad_32, k_M_bad_33, k_M_bad_34, k_M_bad_35, k_M_bad_38, k_M_bad_41, k_M_bad_42, k_M_bad_43, k_M_bad_44, k_M_bad_47, k_M_bad_50, k_M_bad_51, rc_M, g_M0, g_M1, g_M2, g_M3, g_M4, g_M5, g_M6, g_M7, g_M8, g_M9, g_M10, g_M11, g_M12, g_M13, g_M14, g_M15, g_M16, g_M17, g_M18, g_M19, g_M20, g_M21, g_M22, g_M23, g_M24, g_M25, g_M26, g_M27, g_M28, g_M29, g_M30, g_M31, g_M32, g_M33, hh, aim, zb_t w, hz10, am_ob_s, List.tail_cons, List.tail_nil, Option.toList_some, Option.toList_none, List.nil_append, List.cons_append, List.length_nil, List.length_cons, Nat.zero_le, true_and, and_true, true_implies, false_implies, not_true_eq_false, not_false_eq_true, implies_true, or_true, true_or, Nat.reduceAdd, Nat.reduceLeDiff]
    · refine rest (if_neg w) (fun Q => ?_)
      rw [pre]
      simp only [k_M_bad_25, k_M_bad_26, k_M_bad_29, k_M_bad_32, k_M_bad_33, k_M_bad_34, k_M_bad_35, k_M_bad_38, rc_M, g_M0, g_M1, g_M2, g_M3, g_M4, g_M5, g_M6, g_M7, g_M8, g_M9, g_M10, g_M11, g_M12, g_M13, g_M14, g_M15, g_M16, g_M17, g_M18, g_M19, g_M20, g_M21, g_M22, g_M23, g_M24, g_M25, g_M26, g_M27, g_M28, g_M29, g_M30, g_M31, g_M32, g_M33, hh, aim, zb_f w, am_ob_s, List.tail_cons, List.tail_nil, Option.toList_some, Option.toList_none, List.nil_append, List.cons_append, List.length_nil, List.length_cons, Nat.zero_le, true_and, and_true, true_implies, false_implies, not_true_eq_false, not_false_eq_true, implies_true, or_true, true_or, Nat.reduceAdd, Nat.reduceLeDiff]
end SM14
