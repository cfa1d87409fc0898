/-! The reference: objects, calls -/
/-- a step: where the run has ended, the frames do not matter -/
def nX (f : am_F) (as : List Value) (s : am_S) (σ : pMc) : Prop := ∃ s' FS', (∀ Q : Option Value → am_H → Prop, am_C f as (TP, s) Q ↔ Q none (TP, s')) ∧ MnC s' (FS', σ.2) ∧ mR s s' ∧ ((σ.2.1 = 1 ∧ FS' = σ.1) ∨ (¬ σ.2.1 = 1 ∧ σ.1 = []))
theorem MnC_held {s : am_S} {FS : List pFr} {st rs on : Int32} {cl : Nat → Nat} {vl : Nat → Nat → Int32} {ou : Nat → Int32} (h : MnC s (FS, st, rs, cl, vl, ou, on)) {j k : Nat} (hj : j < 16) (hk : k < 4) (v : Int32) : MnC (am_wr s 331 (4 * (j + 1) + k) v) (FS, st, rs, cl, pSt vl j (pSt (vl j) k v), ou, on) := by
  refine MnC_mk h (fun i _ _ _ q _ _ => am_wr_row _ q) (fun k _ _ => by rw [am_wr_row _ (by omega)]) (fun i hi => ?_)
  obtain ⟨w1, w2, w3⟩ := h.2.2.2.2.2.1 i hi
  refine ⟨by rw [am_wr_row _ (by omega)]; exact w1, w2, fun q hq => ?_⟩
  by_cases e : i = j
  · rw [e, pSt_s]
    by_cases e2 : q = k
    · rw [e2, pSt_s, am_wr_self]
    · rw [pSt_n e2, am_wr_col _ (by omega)]
      rw [e] at w3
      exact w3 q hq
  · rw [pSt_n e, am_wr_col _ (by omega)]
    exact w3 q hq
theorem fre_bound {cl : Nat → Nat} : ∀ {r i j : Nat}, fre cl i r = some j → j < i + r
  | 0, _, _, h => by cases h
  | r + 1, i, j, h => by
    rw [fre_iff] at h
    by_cases q : cl i = 0
    · rw [if_pos q] at h
      have := Option.some.inj h
      omega
    · rw [if_neg q] at h
      have := fre_bound h
      omega
def pLv (R : List pFr) (v : Int32) (t : Nat) (ρ : pRh) : pMc := match R with
  | [] => ([], 2, v, ρ.2.2)
  | C :: R' => (pPut C v t :: R', ρ)
section SM24
variable {s : am_S} {F : pFr} {R : List pFr} {P : pPg} {rs on : Int32} {cl : Nat → Nat} {vl : Nat → Nat → Int32} {ou : Nat → Int32} {ρ : pRh}
theorem e_M_new {c : Nat} (hc : c < 4) (hN : MnC s (F :: R, 1, rs, cl, vl, ou, on)) (hl : F.2.2.2.length < 6) (hP : MpC s 0 P) (hK : ∀ m, m < 6 → (P.2.1 m).2.1 < 256) (hF : ∀ F' ∈ F :: R, okRF (P.2.1 F'.1).2.1 F') (hR : okRR cl vl P.1) (hlive : ∀ j, j ∈ pLs P (F :: R) cl vl → cl j ≠ 0) (y : Int32) : nX f_M_object [.ref 308, .int 10, .int (nI c), .int y] s (match fre (pRoom P (F :: R) cl vl) 0 16 with
    | none => ([], 4, rs, pRoom P (F :: R) cl vl, vl, ou, on)
    | some j => (pPut F (nI (j + 1)) c :: R, 1, rs, pSt (pRoom P (F :: R) cl vl) j c, pSt vl j (fun _ => 0), ou, on)) := by
  obtain ⟨s1, a1, a2, a3⟩ := e_M_born hc hN hP hK hF hR hlive
  cases hf : fre (pRoom P (F :: R) cl vl) 0 16 with
  | none =>
    rw [hf] at a1 a2
    dsimp only at a1 a2 ⊢
    refine ⟨am_wr s1 308 19 4, F :: R, fun Q => ?_, MnC_st a2 4, mR_tr a3 (mR_w8 _ (by omega)), Or.inr ⟨by show ¬ (4 : Int32) = 1; decide, rfl⟩⟩
    rw [c_M_object]
    simp only [k_M_object_0, k_M_object_1, k_M_object_3, k_M_object_6, k_M_object_7, k_M_object_8, k_M_object_11, k_M_object_13, k_M_object_15, k_M_object_18, k_M_object_19, k_M_object_20, k_M_object_23, k_M_object_26, k_M_object_27, k_M_object_29, k_M_object_30, k_M_object_33, rc_M, a1, p_M19, am_ob_s, List.tail_cons, List.tail_nil, Option.toList_some, Option.toList_none, List.nil_append, List.cons_append, List.length_nil, List.length_cons, Nat.zero_le, true_and, and_true, true_implies, false_implies, not_true_eq_false, not_false_eq_true, implies_true, or_true, true_or, Nat.reduceAdd, Nat.reduceLeDiff]
  | some j =>
    rw [hf] at a1 a2
    dsimp only at a1 a2 ⊢
    have hj : j < 16 := by have := fre_bound hf; omega
    have z : ¬ nI (j + 1) = 0 := nI_ne0 (by omega) (by omega)
    obtain ⟨s2, b1, b2, b3⟩ := e_M_put a2 hl (nI (j + 1)) c
    refine ⟨s2, _, fun Q => ?_, b2, mR_tr a3 b3, Or.inl ⟨rfl, rfl⟩⟩
    rw [c_M_object]
    simp only [k_M_object_0, k_M_object_1, k_M_object_3, k_M_object_6, k_M_object_7, k_M_object_8, k_M_object_11, k_M_object_13, k_M_object_15, k_M_object_18, k_M_object_19, k_M_object_20, k_M_object_23, k_M_object_26, k_M_object_27, k_M_object_29, k_M_object_30, k_M_object_33, rc_M, a1, z, b1, am_ob_s, List.tail_cons, List.tail_nil, Option.toList_some, Option.toList_none, List.nil_append, List.cons_append, List.length_nil, List.length_cons, Nat.zero_le, true_and, and_true, true_implies, false_implies, not_true_eq_false, not_false_eq_true, implies_true, or_true, true_or, Nat.reduceAdd, Nat.reduceLeDiff]
theorem pRow_n {j : Nat} (hj : j < 16) : pRow (nI (j + 1)) = j := by
  unfold pRow
  rw [nI_pred, nI_clamp (by omega)]
theorem e_M_get {c y k : Nat} {a : Int32 × Nat} {S : List (Int32 × Nat)} {L : pLy} (hc : 1 ≤ c ∧ c ≤ 3) (hN : MnC s (F :: R, 1, rs, cl, vl, ou, on)) (hS : F.2.2.2 = a :: S) (hL : MlC s 0 c L) (hf : pFind L (nI y) = some k) (ha : pRef a.1) : nX f_M_object [.ref 308, .int 11, .int (nI c), .int (nI y)] s (if a.1 = 0 then ([], 3, rs, cl, vl, ou, on) else (pPut (pSk F S) (vl (pRow a.1) k) ((pTy L (nI y)).getD 0) :: R, 1, rs, cl, vl, ou, on)) := by
  have hk := pFind_lt hf
  have hk4 : k < 4 := Nat.lt_of_lt_of_le hk hL.2.1
  have fd := fun (Q : Option Value → am_H → Prop) => e_M_find (s := s) (Q := Q) (b := 0) (c := c) (by omega) hc hL (nI y)
  rw [nI_0, hf] at fd
  obtain ⟨s1, a1, a2, a3⟩ := e_M_take hN hS
  rcases ha with h0 | ⟨j, hj, hv⟩
  · rw [if_pos h0]
    refine ⟨am_wr s1 308 19 3, _, fun Q => ?_, MnC_st a2 3, mR_tr a3 (mR_w8 _ (by omega)), Or.inr ⟨by show ¬ (3 : Int32) = 1; decide, rfl⟩⟩
    rw [h0] at a1
    rw [c_M_object]
    simp only [k_M_object_0, k_M_object_1, k_M_object_3, k_M_object_34, k_M_object_35, k_M_object_36, k_M_object_37, k_M_object_38, k_M_object_41, k_M_object_43, k_M_object_44, k_M_object_46, k_M_object_49, k_M_object_50, k_M_object_53, k_M_object_56, k_M_object_57, k_M_object_59, k_M_object_60, k_M_object_63, k_M_object_65, k_M_object_67, k_M_object_70, k_M_object_71, k_M_object_72, k_M_object_75, k_M_object_78, k_M_object_79, k_M_object_81, k_M_object_84, k_M_object_85, k_M_object_86, k_M_object_89, k_M_object_90, k_M_object_92, k_M_object_93, k_M_object_95, k_M_object_96, k_M_object_97, k_M_object_98, k_M_object_99, k_M_object_100, k_M_object_102, k_M_object_105, k_M_object_108, k_M_object_111, k_M_object_112, k_M_object_115, k_M_object_116, k_M_object_118, k_M_object_119, k_M_object_121, k_M_object_122, k_M_object_124, k_M_object_125, show ¬ (11 : Int32) = 10 by decide, show ¬ (11 : Int32) = 12 by decide, rc_M, fd, pIx, a1, p_M19, am_ob_s, List.tail_cons, List.tail_nil, Option.toList_some, Option.toList_none, List.nil_append, List.cons_append, List.length_nil, List.length_cons, Nat.zero_le, true_and, and_true, true_implies, false_implies, not_true_eq_false, not_false_eq_true, implies_true, or_true, true_or, Nat.reduceAdd, Nat.reduceLeDiff]
  · have z : ¬ nI (j + 1) = 0 := nI_ne0 (by omega) (by omega)
    rw [hv, if_neg z, pRow_n hj]
    rw [hv] at a1
    obtain ⟨e, he⟩ : ∃ e, L[k]? = some e := ⟨_, List.getElem?_eq_getElem hk⟩
    have ht : (pTy L (nI y)).getD 0 = e.2.1 := by rw [pTy, hf, Option.bind_some, he]; rfl
    rw [ht]
    have r1 : ∀ i, 309 ≤ i → i ≤ 322 → s1 i = s i := fun i q1 q2 => a3.1 i (by omega) (by omega)
    have hL1 := MlC_rows hL r1
    have to := fun (Q : Option Value → am_H → Prop) => e_M_typeOf (s := s1) (Q := Q) (b := 0) (c := c) (k := k) (by omega) hc hk4
    rw [nI_0, (hL1.2.2 k e he).2.1] at to
    have i17 := ix17 (j + 1) (by omega) k hk4
    have lh := l_M_held (s := s1) (show 4 * (j + 1) + k < 68 by omega)
    rw [(a2.2.2.2.2.2.1 j hj).2.2 k hk4] at lh
    have h6 : (pSk F S).2.2.2.length < 6 := by
      have := (MnC_f hN).1.2.2.2.2.1
      rw [hS, List.length_cons] at this
      show S.length < 6
      omega
    obtain ⟨s2, b1, b2, b3⟩ := e_M_put a2 h6 (vl j k) e.2.1
    refine ⟨s2, _, fun Q => ?_, b2, mR_tr a3 b3, Or.inl ⟨rfl, rfl⟩⟩
    rw [c_M_object]
    simp only [k_M_object_0, k_M_object_1, k_M_object_3, k_M_object_34, k_M_object_35, k_M_object_36, k_M_object_37, k_M_object_38, k_M_object_41, k_M_object_43, k_M_object_44, k_M_object_46, k_M_object_49, k_M_object_50, k_M_object_53, k_M_object_56, k_M_object_57, k_M_object_59, k_M_object_60, k_M_object_63, k_M_object_65, k_M_object_67, k_M_object_70, k_M_object_71, k_M_object_72, k_M_object_75, k_M_object_78, k_M_object_79, k_M_object_81, k_M_object_84, k_M_object_85, k_M_object_86, k_M_object_89, k_M_object_90, k_M_object_92, k_M_object_93, k_M_object_95, k_M_object_96, k_M_object_97, k_M_object_98, k_M_object_99, k_M_object_100, k_M_object_102, k_M_object_105, k_M_object_108, k_M_object_111, k_M_object_112, k_M_object_115, k_M_object_116, k_M_object_118, k_M_object_119, k_M_object_121, k_M_object_122, k_M_object_124, k_M_object_125, g_M0, g_M1, g_M2, g_M3, g_M4, g_M5, g_M6, g_M7, g_M8, g_M9, g_M10, g_M11, g_M12, g_M13, g_M14, g_M15, g_M16, g_M17, g_M18, g_M19, g_M20, g_M21, g_M22, g_M23, g_M24, g_M25, g_M26, g_M27, g_M28, g_M29, g_M30, g_M31, g_M32, g_M33, show ¬ (11 : Int32) = 10 by decide, show ¬ (11 : Int32) = 12 by decide, rc_M, fd, pIx, a1, z, i17, lh, to, b1, am_ob_s, List.tail_cons, List.tail_nil, Option.toList_some, Option.toList_none, List.nil_append, List.cons_append, List.length_nil, List.length_cons, Nat.zero_le, true_and, and_true, true_implies, false_implies, not_true_eq_false, not_false_eq_true, implies_true, or_true, true_or, Nat.reduceAdd, Nat.reduceLeDiff]
theorem e_M_set {c y k : Nat} {a b : Int32 × Nat} {S : List (Int32 × Nat)} {L : pLy} (hc : 1 ≤ c ∧ c ≤ 3) (hN : MnC s (F :: R, 1, rs, cl, vl, ou, on)) (hS : F.2.2.2 = a :: b :: S) (hL : MlC s 0 c L) (hf : pFind L (nI y) = some k) (hb : pRef b.1) : nX f_M_object [.ref 308, .int 12, .int (nI c), .int (nI y)] s (if b.1 = 0 then ([], 3, rs, cl, vl, ou, on) else (pSk F S :: R, 1, rs, cl, pSt vl (pRow b.1) (pSt (vl (pRow b.1)) k a.1), ou, on)) := by
  have hk := pFind_lt hf
  have hk4 : k < 4 := Nat.lt_of_lt_of_le hk hL.2.1
  have fd := fun (Q : Option Value → am_H → Prop) => e_M_find (s := s) (Q := Q) (b := 0) (c := c) (by omega) hc hL (nI y)
  rw [nI_0, hf] at fd
  obtain ⟨s1, a1, a2, a3⟩ := e_M_take hN hS
  obtain ⟨s2, b1, b2, b3⟩ := e_M_take (F := pSk F (b :: S)) a2 rfl
  have es : pSk (pSk F (b :: S)) S = pSk F S := rfl
  rw [es] at b2
  rcases hb with h0 | ⟨j, hj, hv⟩
  · rw [if_pos h0]
    refine ⟨am_wr s2 308 19 3, _, fun Q => ?_, MnC_st b2 3, mR_tr (mR_tr a3 b3) (mR_w8 _ (by omega)), Or.inr ⟨by show ¬ (3 : Int32) = 1; decide, rfl⟩⟩
    rw [h0] at b1
    rw [c_M_object]
    simp only [k_M_object_0, k_M_object_1, k_M_object_3, k_M_object_34, k_M_object_35, k_M_object_36, k_M_object_37, k_M_object_38, k_M_object_41, k_M_object_43, k_M_object_44, k_M_object_46, k_M_object_49, k_M_object_50, k_M_object_53, k_M_object_56, k_M_object_57, k_M_object_59, k_M_object_60, k_M_object_63, k_M_object_65, k_M_object_67, k_M_object_70, k_M_object_71, k_M_object_72, k_M_object_75, k_M_object_78, k_M_object_79, k_M_object_81, k_M_object_84, k_M_object_85, k_M_object_86, k_M_object_89, k_M_object_90, k_M_object_92, k_M_object_93, k_M_object_95, k_M_object_96, k_M_object_97, k_M_object_98, k_M_object_99, k_M_object_100, k_M_object_102, k_M_object_105, k_M_object_108, k_M_object_111, k_M_object_112, k_M_object_115, k_M_object_116, k_M_object_118, k_M_object_119, k_M_object_121, k_M_object_122, k_M_object_124, k_M_object_125, show ¬ (12 : Int32) = 10 by decide, rc_M, fd, pIx, a1, b1, p_M19, am_ob_s, List.tail_cons, List.tail_nil, Option.toList_some, Option.toList_none, List.nil_append, List.cons_append, List.length_nil, List.length_cons, Nat.zero_le, true_and, and_true, true_implies, false_implies, not_true_eq_false, not_false_eq_true, implies_true, or_true, true_or, Nat.reduceAdd, Nat.reduceLeDiff]
  · have z : ¬ nI (j + 1) = 0 := nI_ne0 (by omega) (by omega)
    rw [hv, if_neg z, pRow_n hj]
    rw [hv] at b1
    have i17 := ix17 (j + 1) (by omega) k hk4
    have wh := w_M_held (s := s2) (v := a.1) (show 4 * (j + 1) + k < 68 by omega)
    refine ⟨am_wr s2 331 (4 * (j + 1) + k) a.1, _, fun Q => ?_, MnC_held b2 hj hk4 a.1, mR_tr (mR_tr a3 b3) (mR_wr _ (by omega) (by omega)), Or.inl ⟨rfl, rfl⟩⟩
    rw [c_M_object]
    simp only [k_M_object_0, k_M_object_1, k_M_object_3, k_M_object_34, k_M_object_35, k_M_object_36, k_M_object_37, k_M_object_38, k_M_object_41, k_M_object_43, k_M_object_44, k_M_object_46, k_M_object_49, k_M_object_50, k_M_object_53, k_M_object_56, k_M_object_57, k_M_object_59, k_M_object_60, k_M_object_63, k_M_object_65, k_M_object_67, k_M_object_70, k_M_object_71, k_M_object_72, k_M_object_75, k_M_object_78, k_M_object_79, k_M_object_81, k_M_object_84, k_M_object_85, k_M_object_86, k_M_object_89, k_M_object_90, k_M_object_92, k_M_object_93, k_M_object_95, k_M_object_96, k_M_object_97, k_M_object_98, k_M_object_99, k_M_object_100, k_M_object_102, k_M_object_105, k_M_object_108, k_M_object_111, k_M_object_112, k_M_object_115, k_M_object_116, k_M_object_118, k_M_object_119, k_M_object_121, k_M_object_122, k_M_object_124, k_M_object_125, g_M0, g_M1, g_M2, g_M3, g_M4, g_M5, g_M6, g_M7, g_M8, g_M9, g_M10, g_M11, g_M12, g_M13, g_M14, g_M15, g_M16, g_M17, g_M18, g_M19, g_M20, g_M21, g_M22, g_M23, g_M24, g_M25, g_M26, g_M27, g_M28, g_M29, g_M30, g_M31, g_M32, g_M33, show ¬ (12 : Int32) = 10 by decide, show ¬ (12 : Int32) = 11 by decide, rc_M, fd, pIx, a1, b1, z, i17, wh, am_ob_s, List.tail_cons, List.tail_nil, Option.toList_some, Option.toList_none, List.nil_append, List.cons_append, List.length_nil, List.length_cons, Nat.zero_le, true_and, and_true, true_implies, false_implies, not_true_eq_false, not_false_eq_true, implies_true, or_true, true_or, Nat.reduceAdd, Nat.reduceLeDiff]
theorem pArgs_ge : ∀ (n : Nat) (st : List (Int32 × Nat)) (g : Nat → Int32) (i : Nat), n ≤ i → pArgs n st g i = g i
  | 0, _, _, _, _ => rfl
  | n + 1, [], _, _, _ => rfl
  | n + 1, e :: S, g, i, h => by
    rw [pArgs, pArgs_ge n S _ i (by omega)]
    exact if_neg (by omega)
theorem MnC_spare {FS : List pFr} (h : MnC s (FS, ρ)) {q : Nat} (hq : 4 * FS.length ≤ q) (v : Int32) : MnC (am_wr s 326 q v) (FS, ρ) := by
  obtain ⟨n1, n2, n3, n4, n5, n6, n7, n8⟩ := h
  refine ⟨by rw [am_wr_row _ (by omega)]; exact n1, n2, fun k F hk => ?_, by rw [am_wr_row _ (by omega)]; exact n4, by rw [am_wr_row _ (by omega)]; exact n5, fun j hj => by rw [am_wr_row _ (by omega), am_wr_row _ (by omega)]; exact n6 j hj, fun j hj => by rw [am_wr_row _ (by omega)]; exact n7 j hj, by rw [am_wr_row _ (by omega)]; exact n8⟩
  have hkl := (List.getElem?_eq_some_iff.mp hk).1
  rw [List.length_reverse] at hkl
  have hkl' : k < FS.length := hkl
  have := n3 k F hk
  unfold MfC at this ⊢
  rw [am_wr_row (i' := 324) _ (by omega), am_wr_row (i' := 325) _ (by omega), am_wr_row (i' := 327) _ (by omega), am_wr_row (i' := 328) _ (by omega), am_wr_row (i' := 329) _ (by omega)]
  refine ⟨this.1, this.2.1, fun i hi => ?_, this.2.2.2⟩
  rw [am_wr_col _ (by omega)]
  exact this.2.2.1 i hi
theorem e_M_call {m : Nat} (hm : m < 6) (hN : MnC s (F :: R, ρ)) (h1 : ρ.1 = 1) (hP : MpC s 0 P) (hn : (P.2.1 m).1 ≤ 3) (hl : (P.2.1 m).1 ≤ F.2.2.2.length) : nX f_M_call [.ref 308, .int (nI m)] s (if R.length + 1 < 8 then ((m, 0, pArgs (P.2.1 m).1 F.2.2.2 (fun _ => 0), []) :: pSk F (F.2.2.2.drop (P.2.1 m).1) :: R, ρ) else ([], 5, ρ.2)) := by
  obtain ⟨hF, h8, h21⟩ := MnC_f hN
  by_cases q : R.length + 1 < 8
  · rw [if_pos q]
    have z : ¬ nI (R.length + 1) = 8 := fun w => by
      have := (nI_eq (b := 8) (by omega) (by omega)).mp w
      omega
    have g := hP.2.1 m hm
    rw [Nat.mul_zero, Nat.zero_add] at g
    have lp := l_M_parameters (s := s) (show m < 30 by omega)
    rw [g.1] at lp
    generalize en : (P.2.1 m).1 = n0 at *
    have loop : ∀ (n : Nat), n ≤ n0 → ∀ (st : List (Int32 × Nat)), n ≤ st.length → ∀ (s1 : am_S) (l : Nat → Int32), MnC s1 (pSk F st :: R, ρ) → mR s s1 → (∀ i, n ≤ i → i < n0 → s1 326 (4 * (R.length + 1) + i) = l i) → ∀ (jk : List Value), ∃ s', (∀ Q : Option Value → am_H → Prop, am_W m_M_call 24 (.ref 308 :: .int (nI m) :: .int (nI n - 1) :: jk) [] (TP, s1) Q ↔ am_W m_M_call 51 (.ref 308 :: .int (nI m) :: .int (-1) :: jk) [] (TP, s') Q) ∧ MnC s' (pSk F (st.drop n) :: R, ρ) ∧ mR s s' ∧ ∀ i, i < n0 → s' 326 (4 * (R.length + 1) + i) = pArgs n st l i := by
      intro n
      induction n with
      | zero =>
        intro _ st _ s1 l hN1 hr hw jk
        have e0 : nI 0 - 1 = -1 := by decide
        refine ⟨s1, fun Q => ?_, hN1, hr, fun i hi => hw i (Nat.zero_le _) hi⟩
        rw [e0, k_M_call_24]
        simp only [k_M_call_25, show (-1 : Int32) < 0 by decide, am_ob_s, List.tail_cons, List.tail_nil, Option.toList_some, Option.toList_none, List.nil_append, List.cons_append, List.length_nil, List.length_cons, Nat.zero_le, true_and, and_true, true_implies, false_implies, not_true_eq_false, not_false_eq_true, implies_true, or_true, true_or, Nat.reduceAdd, Nat.reduceLeDiff]
      | succ n ih =>
        intro hn0 st hst s1 l hN1 hr hw jk
        cases st with
        | nil => simp at hst
        | cons e S =>
          have e1 : nI (n + 1) - 1 = nI n := nI_pred n
          have nl : ¬ nI n < 0 := nI_pos (by omega)
          obtain ⟨s2, a1, a2, a3, a4⟩ := e_M_take1 (F := pSk F (e :: S)) hN1 rfl
          have es : pSk (pSk F (e :: S)) S = pSk F S := rfl
          rw [es] at a2
          have h211 : s1 308 21 = nI (R.length + 1) := hN1.1
          have i4 := ix4 (R.length + 1) (by omega) n (by omega)
          have wl := w_M_locals (s := s2) (v := e.1) (show 4 * (R.length + 1) + n < 32 by omega)
          have hsp := MnC_spare a2 (q := 4 * (R.length + 1) + n) (by show 4 * (R.length + 1) ≤ _; omega) e.1
          obtain ⟨s', b1, b2, b3, b4⟩ := ih (by omega) S (by simpa using hst) (am_wr s2 326 (4 * (R.length + 1) + n) e.1) (pSet l n e.1) hsp (mR_tr (mR_tr hr a3) (mR_wr _ (by omega) (by omega))) (fun i hi hi2 => by
            unfold pSet
            by_cases w : i = n
            · rw [w, am_wr_self, if_pos rfl]
            · rw [am_wr_col _ (by omega), if_neg w]
              rw [a4 326 (by omega)]
              exact hw i (by omega) hi2) jk
          refine ⟨s', fun Q => ?_, by rw [List.drop_succ_cons]; exact b2, b3, fun i hi => by rw [pArgs]; exact b4 i hi⟩
          have em : nI n + -1 = nI n - 1 := by rw [Int32.sub_eq_add_neg]
          rw [e1, k_M_call_24]
          simp only [k_M_call_25, k_M_call_28, k_M_call_29, k_M_call_32, k_M_call_33, k_M_call_34, k_M_call_37, k_M_call_38, k_M_call_39, k_M_call_40, k_M_call_41, k_M_call_44, k_M_call_45, k_M_call_48, g_M0, g_M1, g_M2, g_M3, g_M4, g_M5, g_M6, g_M7, g_M8, g_M9, g_M10, g_M11, g_M12, g_M13, g_M14, g_M15, g_M16, g_M17, g_M18, g_M19, g_M20, g_M21, g_M22, g_M23, g_M24, g_M25, g_M26, g_M27, g_M28, g_M29, g_M30, g_M31, g_M32, g_M33, nl, h211, i4, rc_M, a1, wl, em, am_ob_s, List.tail_cons, List.tail_nil, Option.toList_some, Option.toList_none, List.nil_append, List.cons_append, List.length_nil, List.length_cons, Nat.zero_le, true_and, and_true, true_implies, false_implies, not_true_eq_false, not_false_eq_true, implies_true, or_true, true_or, Nat.reduceAdd, Nat.reduceLeDiff]
          exact b1 Q
    obtain ⟨s1, a1, a2, a3, a4⟩ := loop n0 (Nat.le_refl _) F.2.2.2 hl s (fun _ => 0) hN (mR_rf _) (fun i w1 w2 => by omega) []
    have r1 : ∀ i, 309 ≤ i → i ≤ 322 → s1 i = s i := fun i q1 q2 => a3.1 i (by omega) (by omega)
    have lp1 := l_M_parameters (s := s1) (show m < 30 by omega)
    rw [r1 313 (by omega) (by omega), g.1, en] at lp1
    obtain ⟨s2, b1, b2, b3⟩ := e_M_begin (m := m) (g := n0) (l := pArgs n0 F.2.2.2 (fun _ => 0)) a2 (by show R.length + 1 < 8; exact q) (by omega) (fun i hi => a4 i hi)
    have ef : (fun i : Nat => if i < n0 then pArgs n0 F.2.2.2 (fun _ => 0) i else 0) = pArgs n0 F.2.2.2 (fun _ => 0) := by
      funext i
      by_cases w : i < n0
      · exact if_pos w
      · rw [if_neg w, pArgs_ge _ _ _ _ (by omega)]
    rw [ef] at b2
    refine ⟨s2, _, fun Q => ?_, b2, mR_tr a3 b3, Or.inl ⟨h1, rfl⟩⟩
    rw [c_M_call]
    simp only [k_M_call_0, k_M_call_1, k_M_call_4, k_M_call_6, k_M_call_9, k_M_call_10, k_M_call_11, k_M_call_14, k_M_call_15, k_M_call_16, k_M_call_19, k_M_call_20, k_M_call_21, k_M_call_22, k_M_call_23, g_M0, g_M1, g_M2, g_M3, g_M4, g_M5, g_M6, g_M7, g_M8, g_M9, g_M10, g_M11, g_M12, g_M13, g_M14, g_M15, g_M16, g_M17, g_M18, g_M19, g_M20, g_M21, g_M22, g_M23, g_M24, g_M25, g_M26, g_M27, g_M28, g_M29, g_M30, g_M31, g_M32, g_M33, h21, z, lp, am_ob_s, List.tail_cons, List.tail_nil, Option.toList_some, Option.toList_none, List.nil_append, List.cons_append, List.length_nil, List.length_cons, Nat.zero_le, true_and, and_true, true_implies, false_implies, not_true_eq_false, not_false_eq_true, implies_true, or_true, true_or, Nat.reduceAdd, Nat.reduceLeDiff]
    rw [a1]
    simp only [k_M_call_51, k_M_call_52, k_M_call_53, k_M_call_54, k_M_call_57, k_M_call_58, k_M_call_59, k_M_call_62, g_M0, g_M1, g_M2, g_M3, g_M4, g_M5, g_M6, g_M7, g_M8, g_M9, g_M10, g_M11, g_M12, g_M13, g_M14, g_M15, g_M16, g_M17, g_M18, g_M19, g_M20, g_M21, g_M22, g_M23, g_M24, g_M25, g_M26, g_M27, g_M28, g_M29, g_M30, g_M31, g_M32, g_M33, rc_M, lp1, b1, am_ob_s, List.tail_cons, List.tail_nil, Option.toList_some, Option.toList_none, List.nil_append, List.cons_append, List.length_nil, List.length_cons, Nat.zero_le, true_and, and_true, true_implies, false_implies, not_true_eq_false, not_false_eq_true, implies_true, or_true, true_or, Nat.reduceAdd, Nat.reduceLeDiff]
  · rw [if_neg q]
    have z : nI (R.length + 1) = 8 := by rw [show R.length + 1 = 8 by omega]; rfl
    refine ⟨am_wr s 308 19 5, F :: R, fun Q => ?_, MnC_st hN 5, mR_w8 _ (by omega), Or.inr ⟨by show ¬ (5 : Int32) = 1; decide, rfl⟩⟩
    rw [c_M_call]
    simp only [k_M_call_0, k_M_call_1, k_M_call_4, k_M_call_6, k_M_call_9, k_M_call_10, k_M_call_11, k_M_call_14, g_M0, g_M1, g_M2, g_M3, g_M4, g_M5, g_M6, g_M7, g_M8, g_M9, g_M10, g_M11, g_M12, g_M13, g_M14, g_M15, g_M16, g_M17, g_M18, g_M19, g_M20, g_M21, g_M22, g_M23, g_M24, g_M25, g_M26, g_M27, g_M28, g_M29, g_M30, g_M31, g_M32, g_M33, h21, z, p_M19, am_ob_s, List.tail_cons, List.tail_nil, Option.toList_some, Option.toList_none, List.nil_append, List.cons_append, List.length_nil, List.length_cons, Nat.zero_le, true_and, and_true, true_implies, false_implies, not_true_eq_false, not_false_eq_true, implies_true, or_true, true_or, Nat.reduceAdd, Nat.reduceLeDiff]
theorem e_M_leave {a : Int32 × Nat} {S : List (Int32 × Nat)} {t : Nat} (hN : MnC s (F :: R, ρ)) (h1 : ρ.1 = 1) (hS : F.2.2.2 = a :: S) (hC : ∀ C R', R = C :: R' → C.2.2.2.length < 6) : nX f_M_leave [.ref 308, .int (nI t)] s (pLv R a.1 t ρ) := by
  obtain ⟨s1, a1, a2, a3⟩ := e_M_take hN hS
  have h21 : s1 308 21 = nI (R.length + 1) := a2.1
  have e1 : nI (R.length + 1) - 1 = nI R.length := nI_pred _
  have N2 := MnC_fr (FS := [pSk F S]) (FS' := R) a2
  cases R with
  | nil =>
    have z : am_wr s1 308 21 (nI ([] : List pFr).length) 308 21 = 0 := am_wr_self _ _ _ _
    obtain ⟨st, rs, ω⟩ := ρ
    refine ⟨am_wr (am_wr (am_wr s1 308 21 (nI ([] : List pFr).length)) 308 19 2) 308 20 a.1, [], fun Q => ?_, MnC_rs (MnC_st N2 2) a.1, mR_tr a3 (mR_tr (mR_tr (mR_w8 _ (by omega)) (mR_w8 _ (by omega))) (mR_w8 _ (by omega))), Or.inr ⟨by show ¬ (2 : Int32) = 1; decide, rfl⟩⟩
    rw [c_M_leave]
    rw [List.length_nil] at h21 e1 z ⊢
    simp only [k_M_leave_0, k_M_leave_1, k_M_leave_4, k_M_leave_5, k_M_leave_6, k_M_leave_6i, k_M_leave_7, k_M_leave_10, k_M_leave_11, k_M_leave_12, k_M_leave_15, k_M_leave_16, k_M_leave_19, k_M_leave_22, k_M_leave_23, k_M_leave_24, k_M_leave_27, k_M_leave_28, k_M_leave_29, k_M_leave_32, k_M_leave_35, k_M_leave_36, k_M_leave_37, k_M_leave_38, k_M_leave_41, g_M0, g_M1, g_M2, g_M3, g_M4, g_M5, g_M6, g_M7, g_M8, g_M9, g_M10, g_M11, g_M12, g_M13, g_M14, g_M15, g_M16, g_M17, g_M18, g_M19, g_M20, g_M21, g_M22, g_M23, g_M24, g_M25, g_M26, g_M27, g_M28, g_M29, g_M30, g_M31, g_M32, g_M33, rc_M, a1, h21, e1, p_M21, z, p_M19, p_M20, am_ob_s, List.tail_cons, List.tail_nil, Option.toList_some, Option.toList_none, List.nil_append, List.cons_append, List.length_nil, List.length_cons, Nat.zero_le, true_and, and_true, true_implies, false_implies, not_true_eq_false, not_false_eq_true, implies_true, or_true, true_or, Nat.reduceAdd, Nat.reduceLeDiff]
  | cons C R' =>
    have h8 := hN.2.1
    have h8' : R'.length + 1 + 1 ≤ 8 := h8
    have z : ¬ nI (R'.length + 1) = 0 := nI_ne0 (by omega) (by omega)
    have z2 : am_wr s1 308 21 (nI (R'.length + 1)) 308 21 = nI (R'.length + 1) := am_wr_self _ _ _ _
    obtain ⟨s2, b1, b2, b3⟩ := e_M_put N2 (hC C R' rfl) a.1 t
    refine ⟨s2, _, fun Q => ?_, b2, mR_tr a3 (mR_tr (mR_w8 _ (by omega)) b3), Or.inl ⟨h1, rfl⟩⟩
    rw [List.length_cons] at h21 e1 b1
    rw [c_M_leave]
    simp only [k_M_leave_0, k_M_leave_1, k_M_leave_4, k_M_leave_5, k_M_leave_6, k_M_leave_6i, k_M_leave_7, k_M_leave_10, k_M_leave_11, k_M_leave_12, k_M_leave_15, k_M_leave_16, k_M_leave_19, k_M_leave_22, k_M_leave_23, k_M_leave_24, k_M_leave_27, k_M_leave_28, k_M_leave_29, k_M_leave_32, k_M_leave_35, k_M_leave_36, k_M_leave_37, k_M_leave_38, k_M_leave_41, g_M0, g_M1, g_M2, g_M3, g_M4, g_M5, g_M6, g_M7, g_M8, g_M9, g_M10, g_M11, g_M12, g_M13, g_M14, g_M15, g_M16, g_M17, g_M18, g_M19, g_M20, g_M21, g_M22, g_M23, g_M24, g_M25, g_M26, g_M27, g_M28, g_M29, g_M30, g_M31, g_M32, g_M33, rc_M, a1, h21, e1, p_M21, z2, z, b1, am_ob_s, List.tail_cons, List.tail_nil, Option.toList_some, Option.toList_none, List.nil_append, List.cons_append, List.length_nil, List.length_cons, Nat.zero_le, true_and, and_true, true_implies, false_implies, not_true_eq_false, not_false_eq_true, implies_true, or_true, true_or, Nat.reduceAdd, Nat.reduceLeDiff]
end SM24
