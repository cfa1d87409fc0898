/-! The reference: the first wrong place of all; what is barred -/
section SM15
variable {s : am_S}
set_option maxHeartbeats 1000000 in
theorem e_M_wrong {D : pPg} (hD : MpC s 4 D) (hl : okL D.1) (hP : okP D) : kI f_M_wrong [.ref 308] s (pIx (ckAll D 0 6)) := by
  have inner : ∀ (m : Nat), m < 6 → ∀ (r p : Nat), p + r = (D.2.1 m).2.2.2.length → (∀ q, q ≤ p → (ckTo D (D.2.1 m) q).2 = false) → ∀ (s1 : am_S), mK s s1 → ∀ (jk : List Value), ∃ s', (∀ Q : Option Value → am_H → Prop, am_W m_M_wrong 10 (.ref 308 :: .int (nI m) :: .int (nI p) :: jk) [] (TP, s1) Q ↔ match ckFrom D (D.2.1 m) p r (ckTo D (D.2.1 m) p) with
    | some j => Q (some (.int (nI (100 * m + j)))) (TP, s')
    | none => am_W m_M_wrong 48 (.ref 308 :: .int (nI m) :: .int (nI (D.2.1 m).2.2.2.length) :: jk) [] (TP, s') Q) ∧ mK s s' := by
    intro m hm r
    have ha : 6 * 4 + m < 30 := by omega
    have i24 := ix24 m hm
    induction r with
    | zero =>
      intro p hp hgood s1 hk jk
      have g := (MpC_k hD hk).2.1 m hm
      have h14 := g.2.2.2.2.1
      have ll := l_M_length (s := s1) ha
      rw [g.2.2.2.1] at ll
      have h1 : nI (D.2.1 m).2.2.2.length ≤ nI p := nI_le (by omega) (by omega)
      refine ⟨s1, fun Q => ?_, hk⟩
      obtain rfl : p = (D.2.1 m).2.2.2.length := by omega
      rw [k_M_wrong_10]
      simp only [k_M_wrong_11, k_M_wrong_12, k_M_wrong_15, k_M_wrong_17, k_M_wrong_18, k_M_wrong_19, k_M_wrong_20, g_M0, g_M1, g_M2, g_M3, g_M4, g_M5, g_M6, g_M7, g_M8, g_M9, g_M10, g_M11, g_M12, g_M13, g_M14, g_M15, g_M16, g_M17, g_M18, g_M19, g_M20, g_M21, g_M22, g_M23, g_M24, g_M25, g_M26, g_M27, g_M28, g_M29, g_M30, g_M31, g_M32, g_M33, i24, ll, h1, ckFrom, am_ob_s, List.tail_cons, List.tail_nil, Option.toList_some, Option.toList_none, List.nil_append, List.cons_append, List.length_nil, List.length_cons, Nat.zero_le, true_and, and_true, true_implies, false_implies, not_true_eq_false, not_false_eq_true, implies_true, or_true, true_or, Nat.reduceAdd, Nat.reduceLeDiff]
    | succ r ih =>
      intro p hp hgood s1 hk jk
      have hD1 := MpC_k hD hk
      have g := hD1.2.1 m hm
      have h14 := g.2.2.2.2.1
      have ll := l_M_length (s := s1) ha
      rw [g.2.2.2.1] at ll
      have h1 : ¬ nI (D.2.1 m).2.2.2.length ≤ nI p := nI_ge (by omega) (by omega)
      have hpl : p < (D.2.1 m).2.2.2.length := by omega
      obtain ⟨s2, a1, a2⟩ := e_M_bad hD1 hl hP.1 hm hpl (hP.2 m hm) hgood
      obtain ⟨e, he⟩ : ∃ e, (D.2.1 m).2.2.2[p]? = some e := ⟨_, List.getElem?_eq_getElem hpl⟩
      have es : ckTo D (D.2.1 m) (p + 1) = ckAt D (D.2.1 m) p e (ckTo D (D.2.1 m) p) := by rw [ckTo, he]
      by_cases hb : (ckTo D (D.2.1 m) (p + 1)).2 = true
      · have ef : ckFrom D (D.2.1 m) p (r + 1) (ckTo D (D.2.1 m) p) = some p := by
          rw [ckFrom, he]
          simp only
          rw [← es, if_pos hb]
        refine ⟨s2, fun Q => ?_, mK_tr hk a2⟩
        have h3 : (100 : Int32) * nI m + nI p = nI (100 * m + p) := by
          rw [show (100 : Int32) = nI 100 from rfl, pk_mul, nI_add]
        rw [ef, k_M_wrong_10]
        rw [zb_t hb] at a1
        simp only [k_M_wrong_11, k_M_wrong_12, k_M_wrong_15, k_M_wrong_17, k_M_wrong_18, k_M_wrong_19, k_M_wrong_20, k_M_wrong_23, k_M_wrong_24, k_M_wrong_26, k_M_wrong_27, k_M_wrong_28, k_M_wrong_29, k_M_wrong_32, k_M_wrong_35, k_M_wrong_37, k_M_wrong_38, k_M_wrong_39, k_M_wrong_40, k_M_wrong_41, g_M0, g_M1, g_M2, g_M3, g_M4, g_M5, g_M6, g_M7, g_M8, g_M9, g_M10, g_M11, g_M12, g_M13, g_M14, g_M15, g_M16, g_M17, g_M18, g_M19, g_M20, g_M21, g_M22, g_M23, g_M24, g_M25, g_M26, g_M27, g_M28, g_M29, g_M30, g_M31, g_M32, g_M33, i24, ll, h1, rc_M, a1, hz10, h3, am_ob_s, List.tail_cons, List.tail_nil, Option.toList_some, Option.toList_none, List.nil_append, List.cons_append, List.length_nil, List.length_cons, Nat.zero_le, true_and, and_true, true_implies, false_implies, not_true_eq_false, not_false_eq_true, implies_true, or_true, true_or, Nat.reduceAdd, Nat.reduceLeDiff]
      · have ef : ckFrom D (D.2.1 m) p (r + 1) (ckTo D (D.2.1 m) p) = ckFrom D (D.2.1 m) (p + 1) r (ckTo D (D.2.1 m) (p + 1)) := by
          rw [ckFrom, he]
          simp only
          rw [← es, if_neg hb]
        have hb' : (ckTo D (D.2.1 m) (p + 1)).2 = false := by simpa using hb
        obtain ⟨s', b1, b2⟩ := ih (p + 1) (by omega) (fun q hq => by
          by_cases w : q = p + 1
          · rw [w]; exact hb'
          · exact hgood q (by omega)) s2 (mK_tr hk a2) jk
        refine ⟨s', fun Q => ?_, b2⟩
        rw [ef, ← b1 Q, k_M_wrong_10]
        rw [zb_f hb] at a1
        simp only [k_M_wrong_11, k_M_wrong_12, k_M_wrong_15, k_M_wrong_17, k_M_wrong_18, k_M_wrong_19, k_M_wrong_20, k_M_wrong_23, k_M_wrong_24, k_M_wrong_26, k_M_wrong_27, k_M_wrong_28, k_M_wrong_29, k_M_wrong_32, k_M_wrong_35, k_M_wrong_37, k_M_wrong_38, k_M_wrong_39, k_M_wrong_40, k_M_wrong_41, k_M_wrong_42, k_M_wrong_45, g_M0, g_M1, g_M2, g_M3, g_M4, g_M5, g_M6, g_M7, g_M8, g_M9, g_M10, g_M11, g_M12, g_M13, g_M14, g_M15, g_M16, g_M17, g_M18, g_M19, g_M20, g_M21, g_M22, g_M23, g_M24, g_M25, g_M26, g_M27, g_M28, g_M29, g_M30, g_M31, g_M32, g_M33, i24, ll, h1, rc_M, a1, nI_1, am_ob_s, List.tail_cons, List.tail_nil, Option.toList_some, Option.toList_none, List.nil_append, List.cons_append, List.length_nil, List.length_cons, Nat.zero_le, true_and, and_true, true_implies, false_implies, not_true_eq_false, not_false_eq_true, implies_true, or_true, true_or, Nat.reduceAdd, Nat.reduceLeDiff]
  have loop : ∀ (r m : Nat), m + r = 6 → ∀ (s1 : am_S), mK s s1 → ∀ (jk : List Value), ∃ s', (∀ Q : Option Value → am_H → Prop, am_W m_M_wrong 2 (.ref 308 :: .int (nI m) :: jk) [] (TP, s1) Q ↔ Q (some (.int (pIx (ckAll D m r)))) (TP, s')) ∧ mK s s' := by
    intro r
    induction r with
    | zero =>
      intro m hm s1 hk jk
      obtain rfl : m = 6 := by omega
      have h1 : (6 : Int32) ≤ nI 6 := by decide
      refine ⟨s1, fun Q => ?_, hk⟩
      rw [k_M_wrong_2]
      simp only [k_M_wrong_3, k_M_wrong_5, k_M_wrong_54, k_M_wrong_55, h1, ckAll, pIx, am_ob_s, List.tail_cons, List.tail_nil, Option.toList_some, Option.toList_none, List.nil_append, List.cons_append, List.length_nil, List.length_cons, Nat.zero_le, true_and, and_true, true_implies, false_implies, not_true_eq_false, not_false_eq_true, implies_true, or_true, true_or, Nat.reduceAdd, Nat.reduceLeDiff]
    | succ r ih =>
      intro m hm s1 hk jk
      have h1 : ¬ (6 : Int32) ≤ nI m := nI_ge (b := 6) (by omega) (by decide)
      obtain ⟨s2, a1, a2⟩ := inner m (by omega) (D.2.1 m).2.2.2.length 0 (by omega) (fun q hq => by rw [show q = 0 by omega]; rfl) s1 hk jk.tail
      have e0 : ckTo D (D.2.1 m) 0 = ([], false) := rfl
      rw [e0, nI_0] at a1
      cases hf : ckFrom D (D.2.1 m) 0 (D.2.1 m).2.2.2.length ([], false) with
      | some j =>
        refine ⟨s2, fun Q => ?_, a2⟩
        have := a1 Q
        rw [hf] at this
        rw [k_M_wrong_2, ckAll, hf]
        simp only [k_M_wrong_3, k_M_wrong_5, k_M_wrong_8, k_M_wrong_9, h1, am_ob_s, List.tail_cons, List.tail_nil, Option.toList_some, Option.toList_none, List.nil_append, List.cons_append, List.length_nil, List.length_cons, Nat.zero_le, true_and, and_true, true_implies, false_implies, not_true_eq_false, not_false_eq_true, implies_true, or_true, true_or, Nat.reduceAdd, Nat.reduceLeDiff]
        exact this
      | none =>
        obtain ⟨s', b1, b2⟩ := ih (m + 1) (by omega) s2 a2 (.int (nI (D.2.1 m).2.2.2.length) :: jk.tail)
        refine ⟨s', fun Q => ?_, b2⟩
        have := a1 Q
        rw [hf] at this
        rw [k_M_wrong_2, ckAll, hf]
        simp only [k_M_wrong_3, k_M_wrong_5, k_M_wrong_8, k_M_wrong_9, h1, am_ob_s, List.tail_cons, List.tail_nil, Option.toList_some, Option.toList_none, List.nil_append, List.cons_append, List.length_nil, List.length_cons, Nat.zero_le, true_and, and_true, true_implies, false_implies, not_true_eq_false, not_false_eq_true, implies_true, or_true, true_or, Nat.reduceAdd, Nat.reduceLeDiff]
        rw [this]
        simp only [k_M_wrong_48, k_M_wrong_51, nI_1, am_ob_s, List.tail_cons, List.tail_nil, Option.toList_some, Option.toList_none, List.nil_append, List.cons_append, List.length_nil, List.length_cons, Nat.zero_le, true_and, and_true, true_implies, false_implies, not_true_eq_false, not_false_eq_true, implies_true, or_true, true_or, Nat.reduceAdd, Nat.reduceLeDiff]
        exact b1 Q
  obtain ⟨s', a1, a2⟩ := loop 6 0 (by omega) s (mK_rf _) []
  refine ⟨s', fun Q => ?_, a2⟩
  rw [nI_0] at a1
  rw [c_M_wrong]
  simp only [k_M_wrong_0, k_M_wrong_1, am_ob_s, List.tail_cons, List.tail_nil, Option.toList_some, Option.toList_none, List.nil_append, List.cons_append, List.length_nil, List.length_cons, Nat.zero_le, true_and, and_true, true_implies, false_implies, not_true_eq_false, not_false_eq_true, implies_true, or_true, true_or, Nat.reduceAdd, Nat.reduceLeDiff]
  exact a1 Q
theorem e_M_otherHead {Q : Option Value → am_H → Prop} {w m : Nat} {D N : pPg} (hw : s 308 14 = nI w) (hw3 : w ≤ 3) (hD : MpC s 4 D) (hN : MpC s w N) (hm : m < 6) (hDo : okR (D.2.1 m)) (hNo : okR (N.2.1 m)) : am_C f_M_otherHead [.ref 308, .int (nI m)] (TP, s) Q ↔ Q (some (.int (zb (¬ pLik (D.2.1 m) (N.2.1 m))))) (TP, s) := by
  have gD := hD.2.1 m hm
  have gN := hN.2.1 m hm
  have ha : 6 * 4 + m < 30 := by omega
  have hb : 6 * w + m < 30 := by omega
  have i24 := ix24 m hm
  have i6 := ix6 w (by omega) m hm
  have lpD := l_M_parameters (s := s) ha
  have lpN := l_M_parameters (s := s) hb
  have lgD := l_M_gives (s := s) ha
  have lgN := l_M_gives (s := s) hb
  rw [gD.1] at lpD
  rw [gN.1] at lpN
  rw [gD.2.2.1] at lgD
  rw [gN.2.2.1] at lgN
  obtain ⟨oD1, oD2, oD3⟩ := hDo
  obtain ⟨oN1, oN2, oN3⟩ := hNo
  have ep : (nI (N.2.1 m).1 = nI (D.2.1 m).1) = ((N.2.1 m).1 = (D.2.1 m).1) := propext (nI_eq (by omega) (by omega))
  have eg : (nI (N.2.1 m).2.2.1 = nI (D.2.1 m).2.2.1) = ((N.2.1 m).2.2.1 = (D.2.1 m).2.2.1) := propext (nI_eq (by omega) (by omega))
  have loop : ∀ (r j : Nat), j + r = (N.2.1 m).1 → ∀ (A : Prop) (jk : List Value), am_W m_M_otherHead 55 (.ref 308 :: .int (nI m) :: .int (nI (6 * w + m)) :: .int (nI (6 * 4 + m)) :: .int (zb A) :: .int (nI j) :: jk) [] (TP, s) Q ↔ Q (some (.int (zb (A ∨ ∃ i, j ≤ i ∧ i < (N.2.1 m).1 ∧ ¬ lk (D.2.1 m).2.1 i = lk (N.2.1 m).2.1 i)))) (TP, s) := by
    intro r
    induction r with
    | zero =>
      intro j hj A jk
      have h1 : nI (N.2.1 m).1 ≤ nI j := nI_le (by omega) (by omega)
      have e1 : (A ∨ ∃ i, j ≤ i ∧ i < (N.2.1 m).1 ∧ ¬ lk (D.2.1 m).2.1 i = lk (N.2.1 m).2.1 i) ↔ A := ⟨fun q => q.elim id (fun ⟨i, q1, q2, _⟩ => by omega), Or.inl⟩
      rw [k_M_otherHead_55, zb_e e1]
      simp only [k_M_otherHead_57, k_M_otherHead_58, k_M_otherHead_61, k_M_otherHead_62, k_M_otherHead_63, k_M_otherHead_101, k_M_otherHead_103, g_M0, g_M1, g_M2, g_M3, g_M4, g_M5, g_M6, g_M7, g_M8, g_M9, g_M10, g_M11, g_M12, g_M13, g_M14, g_M15, g_M16, g_M17, g_M18, g_M19, g_M20, g_M21, g_M22, g_M23, g_M24, g_M25, g_M26, g_M27, g_M28, g_M29, g_M30, g_M31, g_M32, g_M33, lpN, h1, zb_01, am_ob_s, List.tail_cons, List.tail_nil, Option.toList_some, Option.toList_none, List.nil_append, List.cons_append, List.length_nil, List.length_cons, Nat.zero_le, true_and, and_true, true_implies, false_implies, not_true_eq_false, not_false_eq_true, implies_true, or_true, true_or, Nat.reduceAdd, Nat.reduceLeDiff]
    | succ r ih =>
      intro j hj A jk
      have h1 : ¬ nI (N.2.1 m).1 ≤ nI j := nI_ge (by omega) (by omega)
      have l1 := fun (Q : Option Value → am_H → Prop) => e_M_local (s := s) (Q := Q) hb (show j < 4 by omega) oN2 gN.2.1
      have l2 := fun (Q : Option Value → am_H → Prop) => e_M_local (s := s) (Q := Q) ha (show j < 4 by omega) oD2 gD.2.1
      have q1 := lk_lt (N.2.1 m).2.1 j
      have q2 := lk_lt (D.2.1 m).2.1 j
      have el : (nI (lk (N.2.1 m).2.1 j) = nI (lk (D.2.1 m).2.1 j)) = (lk (N.2.1 m).2.1 j = lk (D.2.1 m).2.1 j) := propext (nI_eq (by omega) (by omega))
      have e2 : (A ∨ ∃ i, j ≤ i ∧ i < (N.2.1 m).1 ∧ ¬ lk (D.2.1 m).2.1 i = lk (N.2.1 m).2.1 i) ↔ ((A ∨ ¬ lk (D.2.1 m).2.1 j = lk (N.2.1 m).2.1 j) ∨ ∃ i, j + 1 ≤ i ∧ i < (N.2.1 m).1 ∧ ¬ lk (D.2.1 m).2.1 i = lk (N.2.1 m).2.1 i) := by
        constructor
        · rintro (q | ⟨i, w1, w2, w3⟩)
          · exact Or.inl (Or.inl q)
          · by_cases w : i = j
            · rw [w] at w3; exact Or.inl (Or.inr w3)
            · exact Or.inr ⟨i, by omega, w2, w3⟩
        · rintro ((q | q) | ⟨i, w1, w2, w3⟩)
          · exact Or.inl q
          · exact Or.inr ⟨j, Nat.le_refl _, by omega, q⟩
          · exact Or.inr ⟨i, by omega, w2, w3⟩
      rw [zb_e e2, ← ih (j + 1) (by omega) _ jk]
      rw [k_M_otherHead_55]
      by_cases hA : A
      · rw [zb_t (Or.inl hA : A ∨ ¬ lk (D.2.1 m).2.1 j = lk (N.2.1 m).2.1 j), zb_t hA]
        simp only [k_M_otherHead_57, k_M_otherHead_58, k_M_otherHead_61, k_M_otherHead_62, k_M_otherHead_63, k_M_otherHead_66, k_M_otherHead_68, k_M_otherHead_71, k_M_otherHead_72, k_M_otherHead_73, k_M_otherHead_75, k_M_otherHead_78, k_M_otherHead_79, k_M_otherHead_80, k_M_otherHead_82, k_M_otherHead_85, k_M_otherHead_88, k_M_otherHead_89, k_M_otherHead_92, k_M_otherHead_93, k_M_otherHead_95, k_M_otherHead_98, g_M0, g_M1, g_M2, g_M3, g_M4, g_M5, g_M6, g_M7, g_M8, g_M9, g_M10, g_M11, g_M12, g_M13, g_M14, g_M15, g_M16, g_M17, g_M18, g_M19, g_M20, g_M21, g_M22, g_M23, g_M24, g_M25, g_M26, g_M27, g_M28, g_M29, g_M30, g_M31, g_M32, g_M33, lpN, h1, hz10, nI_1, am_ob_s, List.tail_cons, List.tail_nil, Option.toList_some, Option.toList_none, List.nil_append, List.cons_append, List.length_nil, List.length_cons, Nat.zero_le, true_and, and_true, true_implies, false_implies, not_true_eq_false, not_false_eq_true, implies_true, or_true, true_or, Nat.reduceAdd, Nat.reduceLeDiff]
      · by_cases hB : lk (N.2.1 m).2.1 j = lk (D.2.1 m).2.1 j
        · rw [zb_f (fun q => q.elim hA (fun q => q hB.symm) : ¬ (A ∨ ¬ lk (D.2.1 m).2.1 j = lk (N.2.1 m).2.1 j)), zb_f hA]
          simp only [k_M_otherHead_57, k_M_otherHead_58, k_M_otherHead_61, k_M_otherHead_62, k_M_otherHead_63, k_M_otherHead_66, k_M_otherHead_68, k_M_otherHead_71, k_M_otherHead_72, k_M_otherHead_73, k_M_otherHead_75, k_M_otherHead_78, k_M_otherHead_79, k_M_otherHead_80, k_M_otherHead_82, k_M_otherHead_85, k_M_otherHead_88, k_M_otherHead_89, k_M_otherHead_92, k_M_otherHead_93, k_M_otherHead_95, k_M_otherHead_98, g_M0, g_M1, g_M2, g_M3, g_M4, g_M5, g_M6, g_M7, g_M8, g_M9, g_M10, g_M11, g_M12, g_M13, g_M14, g_M15, g_M16, g_M17, g_M18, g_M19, g_M20, g_M21, g_M22, g_M23, g_M24, g_M25, g_M26, g_M27, g_M28, g_M29, g_M30, g_M31, g_M32, g_M33, lpN, h1, rc_M, l1, l2, el, hB, nI_1, am_ob_s, List.tail_cons, List.tail_nil, Option.toList_some, Option.toList_none, List.nil_append, List.cons_append, List.length_nil, List.length_cons, Nat.zero_le, true_and, and_true, true_implies, false_implies, not_true_eq_false, not_false_eq_true, implies_true, or_true, true_or, Nat.reduceAdd, Nat.reduceLeDiff]
        · rw [zb_t (Or.inr (fun q => hB q.symm) : A ∨ ¬ lk (D.2.1 m).2.1 j = lk (N.2.1 m).2.1 j), zb_f hA]
          simp only [k_M_otherHead_57, k_M_otherHead_58, k_M_otherHead_61, k_M_otherHead_62, k_M_otherHead_63, k_M_otherHead_66, k_M_otherHead_68, k_M_otherHead_71, k_M_otherHead_72, k_M_otherHead_73, k_M_otherHead_75, k_M_otherHead_78, k_M_otherHead_79, k_M_otherHead_80, k_M_otherHead_82, k_M_otherHead_85, k_M_otherHead_88, k_M_otherHead_89, k_M_otherHead_92, k_M_otherHead_93, k_M_otherHead_95, k_M_otherHead_98, g_M0, g_M1, g_M2, g_M3, g_M4, g_M5, g_M6, g_M7, g_M8, g_M9, g_M10, g_M11, g_M12, g_M13, g_M14, g_M15, g_M16, g_M17, g_M18, g_M19, g_M20, g_M21, g_M22, g_M23, g_M24, g_M25, g_M26, g_M27, g_M28, g_M29, g_M30, g_M31, g_M32, g_M33, lpN, h1, rc_M, l1, l2, el, hB, nI_1, am_ob_s, List.tail_cons, List.tail_nil, Option.toList_some, Option.toList_none, List.nil_append, List.cons_append, List.length_nil, List.length_cons, Nat.zero_le, true_and, and_true, true_implies, false_implies, not_true_eq_false, not_false_eq_true, implies_true, or_true, true_or, Nat.reduceAdd, Nat.reduceLeDiff]
  have fin : ∀ (A : Prop), (A ↔ ¬ ((D.2.1 m).1 = (N.2.1 m).1 ∧ (D.2.1 m).2.2.1 = (N.2.1 m).2.2.1)) → (am_W m_M_otherHead 55 [.ref 308, .int (nI m), .int (nI (6 * w + m)), .int (nI (6 * 4 + m)), .int (zb A), .int 0] [] (TP, s) Q ↔ Q (some (.int (zb (¬ pLik (D.2.1 m) (N.2.1 m))))) (TP, s)) := fun A hA => by
    have := loop (N.2.1 m).1 0 (by omega) A []
    rw [nI_0] at this
    rw [this]
    have e3 : (A ∨ ∃ i, 0 ≤ i ∧ i < (N.2.1 m).1 ∧ ¬ lk (D.2.1 m).2.1 i = lk (N.2.1 m).2.1 i) ↔ ¬ pLik (D.2.1 m) (N.2.1 m) := by
      unfold pLik
      rw [hA]
      constructor
      · rintro (q | ⟨i, w1, w2, w3⟩) w
        · exact q ⟨w.1, w.2.1⟩
        · exact w3 (w.2.2 i (by rw [w.1]; exact w2))
      · intro q
        by_cases w : (D.2.1 m).1 = (N.2.1 m).1 ∧ (D.2.1 m).2.2.1 = (N.2.1 m).2.2.1
        · refine Or.inr (Classical.byContradiction (fun w2 => q ⟨w.1, w.2, fun i hi => ?_⟩))
          exact Classical.byContradiction (fun w3 => w2 ⟨i, Nat.zero_le _, by rw [← w.1]; exact hi, w3⟩)
        · exact Or.inl w
    rw [zb_e e3]
  rw [c_M_otherHead]
  by_cases h1 : (N.2.1 m).1 = (D.2.1 m).1
  · by_cases h2 : (N.2.1 m).2.2.1 = (D.2.1 m).2.2.1
    · have f := fin False ⟨fun q => q.elim, fun q => q ⟨h1.symm, h2.symm⟩⟩
      rw [zb_F] at f
      rw [← f]
      simp only [k_M_otherHead_0, k_M_otherHead_2, k_M_otherHead_3, k_M_otherHead_6, k_M_otherHead_7, k_M_otherHead_8, k_M_otherHead_9, k_M_otherHead_10, k_M_otherHead_12, k_M_otherHead_13, k_M_otherHead_14, k_M_otherHead_15, k_M_otherHead_16, k_M_otherHead_19, k_M_otherHead_20, k_M_otherHead_21, k_M_otherHead_22, k_M_otherHead_25, k_M_otherHead_26, k_M_otherHead_27, k_M_otherHead_30, k_M_otherHead_31, k_M_otherHead_34, k_M_otherHead_35, k_M_otherHead_36, k_M_otherHead_37, k_M_otherHead_40, k_M_otherHead_41, k_M_otherHead_42, k_M_otherHead_45, k_M_otherHead_46, k_M_otherHead_49, k_M_otherHead_50, k_M_otherHead_52, k_M_otherHead_53, g_M0, g_M1, g_M2, g_M3, g_M4, g_M5, g_M6, g_M7, g_M8, g_M9, g_M10, g_M11, g_M12, g_M13, g_M14, g_M15, g_M16, g_M17, g_M18, g_M19, g_M20, g_M21, g_M22, g_M23, g_M24, g_M25, g_M26, g_M27, g_M28, g_M29, g_M30, g_M31, g_M32, g_M33, hw, i6, i24, lpN, lpD, lgN, lgD, ep, eg, h1, h2, am_ob_s, List.tail_cons, List.tail_nil, Option.toList_some, Option.toList_none, List.nil_append, List.cons_append, List.length_nil, List.length_cons, Nat.zero_le, true_and, and_true, true_implies, false_implies, not_true_eq_false, not_false_eq_true, implies_true, or_true, true_or, Nat.reduceAdd, Nat.reduceLeDiff]
    · have f := fin True ⟨fun _ q => h2 q.2.symm, fun _ => trivial⟩
      rw [zb_T] at f
      rw [← f]
      simp only [k_M_otherHead_0, k_M_otherHead_2, k_M_otherHead_3, k_M_otherHead_6, k_M_otherHead_7, k_M_otherHead_8, k_M_otherHead_9, k_M_otherHead_10, k_M_otherHead_12, k_M_otherHead_13, k_M_otherHead_14, k_M_otherHead_15, k_M_otherHead_16, k_M_otherHead_19, k_M_otherHead_20, k_M_otherHead_21, k_M_otherHead_22, k_M_otherHead_25, k_M_otherHead_26, k_M_otherHead_27, k_M_otherHead_30, k_M_otherHead_31, k_M_otherHead_34, k_M_otherHead_35, k_M_otherHead_36, k_M_otherHead_37, k_M_otherHead_40, k_M_otherHead_41, k_M_otherHead_42, k_M_otherHead_45, k_M_otherHead_46, k_M_otherHead_49, k_M_otherHead_50, k_M_otherHead_52, k_M_otherHead_53, g_M0, g_M1, g_M2, g_M3, g_M4, g_M5, g_M6, g_M7, g_M8, g_M9, g_M10, g_M11, g_M12, g_M13, g_M14, g_M15, g_M16, g_M17, g_M18, g_M19, g_M20, g_M21, g_M22, g_M23, g_M24, g_M25, g_M26, g_M27, g_M28, g_M29, g_M30, g_M31, g_M32, g_M33, hw, i6, i24, lpN, lpD, lgN, lgD, ep, eg, h1, h2, am_ob_s, List.tail_cons, List.tail_nil, Option.toList_some, Option.toList_none, List.nil_append, List.cons_append, List.length_nil, List.length_cons, Nat.zero_le, true_and, and_true, true_implies, false_implies, not_true_eq_false, not_false_eq_true, implies_true, or_true, true_or, Nat.reduceAdd, Nat.reduceLeDiff]
  · have f := fin True ⟨fun _ q => h1 q.1.symm, fun _ => trivial⟩
    rw [zb_T] at f
    rw [← f]
    simp only [k_M_otherHead_0, k_M_otherHead_2, k_M_otherHead_3, k_M_otherHead_6, k_M_otherHead_7, k_M_otherHead_8, k_M_otherHead_9, k_M_otherHead_10, k_M_otherHead_12, k_M_otherHead_13, k_M_otherHead_14, k_M_otherHead_15, k_M_otherHead_16, k_M_otherHead_19, k_M_otherHead_20, k_M_otherHead_21, k_M_otherHead_22, k_M_otherHead_25, k_M_otherHead_26, k_M_otherHead_27, k_M_otherHead_30, k_M_otherHead_31, k_M_otherHead_34, k_M_otherHead_35, k_M_otherHead_36, k_M_otherHead_37, k_M_otherHead_40, k_M_otherHead_41, k_M_otherHead_42, k_M_otherHead_45, k_M_otherHead_46, k_M_otherHead_49, k_M_otherHead_50, k_M_otherHead_52, k_M_otherHead_53, g_M0, g_M1, g_M2, g_M3, g_M4, g_M5, g_M6, g_M7, g_M8, g_M9, g_M10, g_M11, g_M12, g_M13, g_M14, g_M15, g_M16, g_M17, g_M18, g_M19, g_M20, g_M21, g_M22, g_M23, g_M24, g_M25, g_M26, g_M27, g_M28, g_M29, g_M30, g_M31, g_M32, g_M33, hw, i6, i24, lpN, lpD, lgN, lgD, ep, eg, h1, am_ob_s, List.tail_cons, List.tail_nil, Option.toList_some, Option.toList_none, List.nil_append, List.cons_append, List.length_nil, List.length_cons, Nat.zero_le, true_and, and_true, true_implies, false_implies, not_true_eq_false, not_false_eq_true, implies_true, or_true, true_or, Nat.reduceAdd, Nat.reduceLeDiff]
end SM15
