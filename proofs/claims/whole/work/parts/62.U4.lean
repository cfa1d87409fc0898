/-! Runner: objects, calls, the step -/
section SU4
variable {s : am_S} {p : Nat} {G : pPg} {F : pFr} {R : List pFr} {ρ : pRh}
theorem off_pg {s s' : am_S} {p : Nat} {G : pPg} (h : off 250 308 s s') (hp : p ∈ bsP) (hG : PgC s p G) : PgC s' p G := PgC_same hG (fun i q1 q2 => by
  have := bsP_b hp
  exact h i (by omega))
theorem pTy_of {L : pLy} {v : Int32} {k : Nat} (h : pFind L v = some k) : ∃ e, L[k]? = some e ∧ pTy L v = some e.2.1 := by
  have hk := pFind_lt h
  refine ⟨L[k], List.getElem?_eq_getElem hk, ?_⟩
  unfold pTy
  rw [h, Option.bind_some, List.getElem?_eq_getElem hk]
  rfl
theorem e_U_readField (h : RnC s (F :: R, ρ)) {bl : Nat} (hl : bl ∈ bsL) {L : pLy} (hL : LyC s bl L) {nm : Int32} {k : Nat} (hk : pFind L nm = some k) {a : Int32 × Nat} {S : List (Int32 × Nat)} (hS : F.2.2.2 = a :: S) (hr : pRef a.1) : uS f_U_readField [.ref 250, .ref (276 + 4 * R.length), .ref bl, .int nm] s (if a.1 = 0 then ([], 3, ρ.2) else (pPut (pSk F S) (ρ.2.2.2.1 (pRow a.1) k) ((pTy L nm).getD 0) :: R, ρ)) := by
  have t2 := (RnC_top h).2.1
  have hb := bU_F t2
  have hbl := bsL_d hl
  have h6 : S.length < 6 := by
    have := (RnC_top h).1.2.2.2.2.1
    rw [hS] at this
    simp only [List.length_cons] at this
    omega
  obtain ⟨s1, a1, a2, a3⟩ := u_take h hS
  rcases hr with h0 | ⟨j, hj, hv⟩
  · obtain ⟨s2, b1, b2, b3⟩ := e_U_end a2 3
    refine ⟨s2, fun Q => ?_, ?_, off_tr a3 b3⟩
    · rw [c_U_readField]
      simp only [k_U_readField_0, k_U_readField_1, k_U_readField_4, k_U_readField_6, k_U_readField_8, k_U_readField_11, k_U_readField_12, k_U_readField_13, k_U_readField_16, rc_F hb, rc_U, a1, h0, b1, am_ob_s, List.tail_cons, List.tail_nil, Option.toList_some, Option.toList_none, List.nil_append, List.cons_append, List.length_nil, List.length_cons, Nat.zero_le, true_and, and_true, true_implies, false_implies, not_true_eq_false, not_false_eq_true, implies_true, or_true, true_or, Nat.reduceAdd, Nat.reduceLeDiff]
    · rw [if_pos h0]
      exact b2
  · have h0 : ¬ a.1 = 0 := by rw [hv]; exact nI_ne0 (by omega) (by omega)
    have er : pRow a.1 = j := by rw [pRow, hv, nI_pred, nI_clamp (by omega)]
    have hL1 := LyC_same hL (fun i q1 q2 => a3 i (by omega))
    have hk4 : k < 4 := by have := pFind_lt hk; have := hL.2.1; omega
    obtain ⟨e, he, ht⟩ := pTy_of hk
    have hval : s1 (255 + j) k = ρ.2.2.2.1 j k := (a2.2.2.2.2.2.1 j hj).2.2 k hk4
    obtain ⟨s2, b1, b2, b3⟩ := u_put (F := pSk F S) a2 h6 (ρ.2.2.2.1 j k) e.2.1
    refine ⟨s2, fun Q => ?_, ?_, off_tr a3 b3⟩
    · rw [c_U_readField]
      have hn0 : ¬ nI (j + 1) = 0 := nI_ne0 (by omega) (by omega)
      rw [hv] at a1
      simp only [k_U_readField_0, k_U_readField_1, k_U_readField_4, k_U_readField_6, k_U_readField_8, k_U_readField_17, k_U_readField_18, k_U_readField_19, k_U_readField_22, k_U_readField_24, k_U_readField_25, k_U_readField_26, k_U_readField_29, k_U_readField_32, k_U_readField_33, k_U_readField_34, k_U_readField_37, k_U_readField_40, rc_F hb, rc_H, rc_L hl, a1, hn0, g_U1, e_L_find hl hL1, e_L_typeNamed hl hL1, hk, ht, pIx, e_H_valueAt hj hk4, hval, b1, am_ob_s, List.tail_cons, List.tail_nil, Option.toList_some, Option.toList_none, List.nil_append, List.cons_append, List.length_nil, List.length_cons, Nat.zero_le, true_and, and_true, true_implies, false_implies, not_true_eq_false, not_false_eq_true, implies_true, or_true, true_or, Nat.reduceAdd, Nat.reduceLeDiff]
    · rw [if_neg h0, er, ht]
      exact b2
theorem e_U_writeField (h : RnC s (F :: R, ρ)) {bl : Nat} (hl : bl ∈ bsL) {L : pLy} (hL : LyC s bl L) {nm : Int32} {k : Nat} (hk : pFind L nm = some k) {a b : Int32 × Nat} {S : List (Int32 × Nat)} (hS : F.2.2.2 = a :: b :: S) (hr : pRef b.1) : uS f_U_writeField [.ref 250, .ref (276 + 4 * R.length), .ref bl, .int nm] s (if b.1 = 0 then ([], 3, ρ.2) else (pSk F S :: R, ρ.1, ρ.2.1, ρ.2.2.1, pSt ρ.2.2.2.1 (pRow b.1) (pSt (ρ.2.2.2.1 (pRow b.1)) k a.1), ρ.2.2.2.2)) := by
  have t2 := (RnC_top h).2.1
  have hb := bU_F t2
  have hbl := bsL_d hl
  obtain ⟨s1, a1, a2, a3⟩ := u_take h hS
  obtain ⟨s2, b1, b2, b3⟩ := u_take (F := pSk F (b :: S)) a2 (e := b) (S := S) rfl
  rcases hr with h0 | ⟨j, hj, hv⟩
  · obtain ⟨s3, c1, c2, c3⟩ := e_U_end b2 3
    refine ⟨s3, fun Q => ?_, ?_, off_tr (off_tr a3 b3) c3⟩
    · rw [c_U_writeField]
      simp only [k_U_writeField_0, k_U_writeField_1, k_U_writeField_4, k_U_writeField_6, k_U_writeField_7, k_U_writeField_10, k_U_writeField_12, k_U_writeField_14, k_U_writeField_17, k_U_writeField_18, k_U_writeField_19, k_U_writeField_22, rc_F hb, rc_U, a1, b1, h0, c1, am_ob_s, List.tail_cons, List.tail_nil, Option.toList_some, Option.toList_none, List.nil_append, List.cons_append, List.length_nil, List.length_cons, Nat.zero_le, true_and, and_true, true_implies, false_implies, not_true_eq_false, not_false_eq_true, implies_true, or_true, true_or, Nat.reduceAdd, Nat.reduceLeDiff]
    · rw [if_pos h0]
      exact c2
  · have h0 : ¬ b.1 = 0 := by rw [hv]; exact nI_ne0 (by omega) (by omega)
    have er : pRow b.1 = j := by rw [pRow, hv, nI_pred, nI_clamp (by omega)]
    have hO := off_tr a3 b3
    have hL1 := LyC_same hL (fun i q1 q2 => hO i (by omega))
    have hk4 : k < 4 := by have := pFind_lt hk; have := hL.2.1; omega
    refine ⟨am_wr s2 (255 + j) k a.1, fun Q => ?_, ?_, off_tr hO (off_wr _ (by omega) (by omega))⟩
    · rw [c_U_writeField]
      have hn0 : ¬ nI (j + 1) = 0 := nI_ne0 (by omega) (by omega)
      rw [hv] at b1
      simp only [k_U_writeField_0, k_U_writeField_1, k_U_writeField_4, k_U_writeField_6, k_U_writeField_7, k_U_writeField_10, k_U_writeField_12, k_U_writeField_14, k_U_writeField_23, k_U_writeField_24, k_U_writeField_27, k_U_writeField_29, k_U_writeField_30, k_U_writeField_31, k_U_writeField_34, k_U_writeField_36, k_U_writeField_39, rc_F hb, rc_H, rc_L hl, a1, b1, hn0, g_U1, e_L_find hl hL1, hk, pIx, e_H_setValue hj hk4, am_ob_s, List.tail_cons, List.tail_nil, Option.toList_some, Option.toList_none, List.nil_append, List.cons_append, List.length_nil, List.length_cons, Nat.zero_le, true_and, and_true, true_implies, false_implies, not_true_eq_false, not_false_eq_true, implies_true, or_true, true_or, Nat.reduceAdd, Nat.reduceLeDiff]
    · rw [if_neg h0, er]
      obtain ⟨q1, q2, q3, q4, q5, q6, q7, q8, q9⟩ := b2
      have o : ∀ i, i ≠ 255 + j → am_wr s2 (255 + j) k a.1 i = s2 i := fun i g1 => am_wr_row _ g1
      refine ⟨by rw [o 250 (by omega)]; exact q1, q2, fun i A hi => FrC_same (q3 i A hi) (fun x g1 g2 => o x (by omega)), by rw [o 250 (by omega)]; exact q4, by rw [o 250 (by omega)]; exact q5, fun i hi => ?_, by rw [o 252 (by omega)]; exact q7, fun i hi => by rw [o 275 (by omega)]; exact q8 i hi, by rw [o 274 (by omega)]; exact q9⟩
      have g := q6 i hi
      rw [o 253 (by omega)]
      refine ⟨g.1, g.2.1, fun x hx => ?_⟩
      dsimp only
      by_cases e : i = j
      · subst e
        rw [pSt_s, am_wr_at]
        by_cases ex : x = k
        · rw [if_pos ⟨rfl, ex⟩, ex, pSt_s]
        · rw [if_neg (fun q => ex q.2), pSt_n ex]
          exact g.2.2 x hx
      · rw [pSt_n e, o (255 + i) (by omega)]
        exact g.2.2 x hx
theorem e_U_enter (h : RnC s (F :: R, ρ)) {r0 : Nat} (hr : r0 ∈ bsR) {C : pRo} (hC : RoC s r0 C) {m : Nat} (hn : C.1 ≤ F.2.2.2.length) (h3 : C.1 ≤ 3) : uS f_U_enter [.ref 250, .ref (276 + 4 * R.length), .int (nI m), .ref r0] s (if R.length + 1 < 8 then ((m, 0, pArgs C.1 F.2.2.2 (fun _ => 0), []) :: pSk F (F.2.2.2.drop C.1) :: R, ρ) else ([], 5, ρ.2)) := by
  obtain ⟨t1, t2, t3⟩ := RnC_top h
  have hb := bU_F t2
  have hrd := bsR_d hr
  by_cases h8 : R.length + 1 < 8
  · have hb2 := bU_F h8
    have hlt : nI (R.length + 1) < 8 := nI_lt (b := 8) h8 (by decide)
    rw [if_pos h8]
    obtain ⟨s1, a1, a2, a3⟩ := e_F_begin hb2 s m
    have loop : ∀ (n : Nat) (S : List (Int32 × Nat)) (f : Nat → Int32) (s1 : am_S), n ≤ S.length → n ≤ 3 → FrC s1 (276 + 4 * R.length) (pSk F S) → FrC s1 (276 + 4 * (R.length + 1)) (m, 0, f, []) → off (276 + 4 * R.length) (276 + 4 * R.length + 8) s s1 → ∃ s', (∃ jk', ∀ Q : Option Value → am_H → Prop, am_W m_U_enter 40 [.ref 250, .ref (276 + 4 * R.length), .int (nI m), .ref r0, .ref (276 + 4 * (R.length + 1)), .int (nI n - 1)] [] (TP, s1) Q ↔ am_W m_U_enter 63 (.ref 250 :: jk') [] (TP, s') Q) ∧ FrC s' (276 + 4 * R.length) (pSk F (S.drop n)) ∧ FrC s' (276 + 4 * (R.length + 1)) (m, 0, pArgs n S f, []) ∧ off (276 + 4 * R.length) (276 + 4 * R.length + 8) s s' := by
      intro n
      induction n with
      | zero =>
        intro S f s1 _ _ c1 c2 c3
        refine ⟨s1, ⟨[.ref (276 + 4 * R.length), .int (nI m), .ref r0, .ref (276 + 4 * (R.length + 1)), .int (nI 0 - 1)], fun Q => ?_⟩, by rw [List.drop_zero]; exact c1, c2, c3⟩
        have hz : (nI 0 - 1 : Int32) < 0 := by decide
        rw [k_U_enter_40]
        simp only [k_U_enter_42, hz, am_ob_s, List.tail_cons, List.tail_nil, Option.toList_some, Option.toList_none, List.nil_append, List.cons_append, List.length_nil, List.length_cons, Nat.zero_le, true_and, and_true, true_implies, false_implies, not_true_eq_false, not_false_eq_true, implies_true, or_true, true_or, Nat.reduceAdd, Nat.reduceLeDiff]
      | succ n ih =>
        intro S f s1 hS hn3 c1 c2 c3
        cases S with
        | nil => exact absurd hS (by simp)
        | cons e S =>
          obtain ⟨s2, d1, d2, d3⟩ := e_F_take hb c1
          have c2' : FrC s2 (276 + 4 * (R.length + 1)) (m, 0, f, []) := FrC_same c2 (fun i g1 g2 => d3 i (by omega))
          have e2 := FrC_set c2' n e.1
          have e3 : off (276 + 4 * (R.length + 1) + 1) (276 + 4 * (R.length + 1) + 2) s2 (am_wr s2 (276 + 4 * (R.length + 1) + 1) n e.1) := off_wr _ (by omega) (by omega)
          obtain ⟨s', ⟨jk', f1⟩, f2, f3, f4⟩ := ih S (pSet f n e.1) (am_wr s2 (276 + 4 * (R.length + 1) + 1) n e.1) (by simp only [List.length_cons] at hS; omega) (by omega) (FrC_same d2 (fun i g1 g2 => e3 i (by omega))) e2 (off_tr c3 (off_tr (off_up d3 (by omega) (by omega)) (off_up e3 (by omega) (by omega))))
          refine ⟨s', ⟨jk', fun Q => ?_⟩, f2, f3, f4⟩
          have hz : ¬ nI n < 0 := nI_pos (by omega)
          rw [nI_pred, k_U_enter_40]
          have en : nI n + -1 = nI n - 1 := (Int32.sub_eq_add_neg _ _).symm
          simp only [k_U_enter_42, k_U_enter_45, k_U_enter_47, k_U_enter_50, k_U_enter_52, k_U_enter_53, k_U_enter_56, k_U_enter_57, k_U_enter_60, hz, g_F0 hb2, rc_F hb, d1, w_F1 hb2 (show n < 4 by omega), en, am_ob_s, List.tail_cons, List.tail_nil, Option.toList_some, Option.toList_none, List.nil_append, List.cons_append, List.length_nil, List.length_cons, Nat.zero_le, true_and, and_true, true_implies, false_implies, not_true_eq_false, not_false_eq_true, implies_true, or_true, true_or, Nat.reduceAdd, Nat.reduceLeDiff]
          exact f1 Q
    have t1' : FrC s1 (276 + 4 * R.length) (pSk F F.2.2.2) := FrC_same t1 (fun i g1 g2 => a3 i (by omega))
    obtain ⟨s2, ⟨jk', b1⟩, b2, b3, b4⟩ := loop C.1 F.2.2.2 (fun _ => 0) s1 hn h3 t1' a2 (off_up a3 (by omega) (by omega))
    have hd : s1 250 3 = nI (R.length + 1) := by rw [a3 250 (by omega)]; exact t3
    have hd2 : s2 250 3 = nI (R.length + 1) := by rw [b4 250 (by omega)]; exact t3
    have hC1 := RoC_same hC (s' := s1) (fun i g1 g2 => a3 i (by omega))
    have o : ∀ i, i < 276 → i ≠ 250 → am_wr s2 250 3 (nI (R.length + 1 + 1)) i = s i := fun i g1 g2 => by rw [am_wr_row _ g2, b4 i (by omega)]
    refine ⟨am_wr s2 250 3 (nI (R.length + 1 + 1)), fun Q => ?_, ?_, off_tr (off_up b4 (by omega) (by omega)) (off_wr _ (by omega) (by omega))⟩
    · rw [c_U_enter]
      simp only [k_U_enter_0, k_U_enter_1, k_U_enter_4, k_U_enter_6, k_U_enter_9, k_U_enter_10, k_U_enter_11, k_U_enter_14, k_U_enter_15, k_U_enter_16, k_U_enter_19, k_U_enter_20, k_U_enter_23, k_U_enter_24, k_U_enter_26, k_U_enter_28, k_U_enter_29, k_U_enter_32, k_U_enter_33, k_U_enter_36, k_U_enter_37, k_U_enter_38, g_U3, t3, hlt, g_U0, a_U h8, rc_F hb2, a1, g_R4 hr, hC1.1, am_ob_s, List.tail_cons, List.tail_nil, Option.toList_some, Option.toList_none, List.nil_append, List.cons_append, List.length_nil, List.length_cons, Nat.zero_le, true_and, and_true, true_implies, false_implies, not_true_eq_false, not_false_eq_true, implies_true, or_true, true_or, Nat.reduceAdd, Nat.reduceLeDiff]
      refine (b1 Q).trans ?_
      simp only [k_U_enter_63, k_U_enter_64, k_U_enter_64i, k_U_enter_65, k_U_enter_68, k_U_enter_69, k_U_enter_70, k_U_enter_73, g_U3, hd2, nI_1, p_U3, am_ob_s, List.tail_cons, List.tail_nil, Option.toList_some, Option.toList_none, List.nil_append, List.cons_append, List.length_nil, List.length_cons, Nat.zero_le, true_and, and_true, true_implies, false_implies, not_true_eq_false, not_false_eq_true, implies_true, or_true, true_or, Nat.reduceAdd, Nat.reduceLeDiff]
    · obtain ⟨q1, q2, q3, q4, q5, q6, q7, q8, q9⟩ := h
      refine ⟨am_wr_self _ _ _ _, by simp only [List.length_cons]; omega, fun k A hk => ?_, by rw [am_wr_col _ (by omega), b4 250 (by omega)]; exact q4, by rw [am_wr_col _ (by omega), b4 250 (by omega)]; exact q5, HpC_same q6 (fun i g1 g2 => o i (by omega) (by omega)), by rw [o 252 (by omega) (by omega)]; exact q7, fun i hi => by rw [o 275 (by omega) (by omega)]; exact q8 i hi, by rw [o 274 (by omega) (by omega)]; exact q9⟩
      have w : ∀ {b : Nat} {A : pFr}, 251 ≤ b → FrC s2 b A → FrC (am_wr s2 250 3 (nI (R.length + 1 + 1))) b A := fun hb hA => FrC_same hA (fun i g1 g2 => am_wr_row _ (by omega))
      rcases rev_cons hk with ⟨g1, g2⟩ | ⟨rfl, rfl⟩
      · rcases rev_cons g2 with ⟨g3, g4⟩ | ⟨rfl, rfl⟩
        · exact w (by omega) (FrC_same (q3 k A (rev_low g4)) (fun i x1 x2 => b4 i (by omega)))
        · exact w (by omega) b2
      · exact w (by omega) b3
  · have hge : ¬ nI (R.length + 1) < 8 := nI_nlt (b := 8) (by omega) (by omega)
    rw [if_neg h8]
    obtain ⟨s1, a1, a2, a3⟩ := e_U_end h 5
    refine ⟨s1, fun Q => ?_, a2, a3⟩
    rw [c_U_enter]
    simp only [k_U_enter_0, k_U_enter_1, k_U_enter_4, k_U_enter_6, k_U_enter_9, k_U_enter_10, k_U_enter_11, k_U_enter_14, g_U3, t3, hge, rc_U, a1, am_ob_s, List.tail_cons, List.tail_nil, Option.toList_some, Option.toList_none, List.nil_append, List.cons_append, List.length_nil, List.length_cons, Nat.zero_le, true_and, and_true, true_implies, false_implies, not_true_eq_false, not_false_eq_true, implies_true, or_true, true_or, Nat.reduceAdd, Nat.reduceLeDiff]
theorem e_U_leave (h : RnC s (F :: R, ρ)) {r0 : Nat} (hr : r0 ∈ bsR) {C : pRo} (hC : RoC s r0 C) {a : Int32 × Nat} {S : List (Int32 × Nat)} (hS : F.2.2.2 = a :: S) (h6 : ∀ A R', R = A :: R' → A.2.2.2.length < 6) : uS f_U_leave [.ref 250, .ref (276 + 4 * R.length), .ref r0] s (match R with
    | [] => ([], 2, a.1, ρ.2.2)
    | A :: R' => (pPut A a.1 C.2.2.1 :: R', ρ)) := by
  have t2 := (RnC_top h).2.1
  have hb := bU_F t2
  have hrd := bsR_d hr
  obtain ⟨s1, a1, a2, a3⟩ := u_take h hS
  have hd : s1 250 3 = nI (R.length + 1) := (RnC_top a2).2.2
  cases R with
  | nil =>
    obtain ⟨s2, b1, b2, b3⟩ := e_U_end a2 2
    refine ⟨am_wr s2 250 5 a.1, fun Q => ?_, ?_, off_tr (off_tr a3 b3) (off_wr _ (by omega) (by omega))⟩
    · have h1 : ¬ 1 < nI (0 + 1) := by decide
      rw [List.length_nil] at hb a1 hd
      rw [c_U_leave]
      simp only [k_U_leave_0, k_U_leave_1, k_U_leave_4, k_U_leave_5, k_U_leave_6, k_U_leave_9, k_U_leave_10, k_U_leave_13, k_U_leave_14, k_U_leave_15, k_U_leave_18, k_U_leave_19, k_U_leave_20, k_U_leave_23, rc_F hb, rc_U, a1, g_U3, hd, h1, b1, p_U5, am_ob_s, List.tail_cons, List.tail_nil, Option.toList_some, Option.toList_none, List.nil_append, List.cons_append, List.length_nil, List.length_cons, Nat.zero_le, true_and, and_true, true_implies, false_implies, not_true_eq_false, not_false_eq_true, implies_true, or_true, true_or, Nat.reduceAdd, Nat.reduceLeDiff]
    · obtain ⟨q1, q2, q3, q4, q5, q6, q7, q8, q9⟩ := b2
      have o : ∀ i, i ≠ 250 → am_wr s2 250 5 a.1 i = s2 i := fun i g => am_wr_row _ g
      refine ⟨by rw [am_wr_col _ (by omega)]; exact q1, q2, fun k A hk => by simp at hk, by rw [am_wr_col _ (by omega)]; exact q4, am_wr_self _ _ _ _, HpC_same q6 (fun i g1 g2 => o i (by omega)), by rw [o 252 (by omega)]; exact q7, fun i hi => by rw [o 275 (by omega)]; exact q8 i hi, by rw [o 274 (by omega)]; exact q9⟩
  | cons A R' =>
    rw [List.length_cons] at t2 hb a1 hd
    have h1 : 1 < nI (R'.length + 1 + 1) := nI_lt (a := 1) (by omega) (by omega)
    have hR2 : RnC (am_wr s1 250 3 (nI (R'.length + 1))) (A :: R', ρ) := by
      obtain ⟨q1, q2, q3, q4, q5, q6, q7, q8, q9⟩ := a2
      have o : ∀ i, i ≠ 250 → am_wr s1 250 3 (nI (R'.length + 1)) i = s1 i := fun i g => am_wr_row _ g
      refine ⟨am_wr_self _ _ _ _, by simp only [List.length_cons] at q2 ⊢; omega, fun k B hk => FrC_same (q3 k B (rev_low hk)) (fun x g1 g2 => o x (by omega)), by rw [am_wr_col _ (by omega)]; exact q4, by rw [am_wr_col _ (by omega)]; exact q5, HpC_same q6 (fun i g1 g2 => o i (by omega)), by rw [o 252 (by omega)]; exact q7, fun i hi => by rw [o 275 (by omega)]; exact q8 i hi, by rw [o 274 (by omega)]; exact q9⟩
    have t5 : R'.length < 8 := by omega
    have hd2 : am_wr s1 250 3 (nI (R'.length + 1)) 250 3 = nI (R'.length + 1) := am_wr_self _ _ _ _
    obtain ⟨s2, b1, b2, b3⟩ := u_put hR2 (h6 A R' rfl) a.1 C.2.2.1
    have hg : am_wr s1 250 3 (nI (R'.length + 1)) r0 5 = nI C.2.2.1 := by
      rw [am_wr_row _ (by omega), a3 r0 (by omega)]
      exact hC.2.2.1
    refine ⟨s2, fun Q => ?_, b2, off_tr (off_tr a3 (off_wr _ (by omega) (by omega))) b3⟩
    rw [c_U_leave]
    simp only [k_U_leave_0, k_U_leave_1, k_U_leave_4, k_U_leave_5, k_U_leave_6, k_U_leave_9, k_U_leave_10, k_U_leave_24, k_U_leave_25, k_U_leave_25i, k_U_leave_26, k_U_leave_29, k_U_leave_30, k_U_leave_31, k_U_leave_34, k_U_leave_35, k_U_leave_38, k_U_leave_39, k_U_leave_42, k_U_leave_43, k_U_leave_44, k_U_leave_45, k_U_leave_46, k_U_leave_47, k_U_leave_50, k_U_leave_53, List.length_cons, rc_F hb, rc_F (bU_F t5), a1, g_U3, hd, h1, nI_pred, p_U3, g_U0, hd2, a_U t5, g_R5 hr, hg, b1, am_ob_s, List.tail_cons, List.tail_nil, Option.toList_some, Option.toList_none, List.nil_append, List.cons_append, List.length_nil, List.length_cons, Nat.zero_le, true_and, and_true, true_implies, false_implies, not_true_eq_false, not_false_eq_true, implies_true, or_true, true_or, Nat.reduceAdd, Nat.reduceLeDiff]
end SU4
