/-! The class: drop, what can be applied, the answers -/
def pNewD (N : pPg) : pPg := (N.1, N.2.1, 0, 0, 0)
noncomputable def pDrop (Z : pSg) : Int32 × pSg := zif (Z.1.2.2.1 = 0 ∧ Z.1.2.2.2.1 = 0) (0, Z) (1, pNewD (Z.2.1 Z.2.2.1), Z.2)
section SX4
variable {s : am_S} {Z : pSg} {Q : Option Value → am_H → Prop}
/-- the draft begins as the newest program -/
theorem x_beginAs (hZ : ClC s Z) {f : Nat} (h4 : f < 4) (hN : PgC s (52 + 49 * f) (Z.2.1 Z.2.2.1)) : ∃ s', (∀ Q : Option Value → am_H → Prop, am_C f_P_beginAs [.ref 1, .ref (52 + 49 * f)] (TP, s) Q ↔ Q none (TP, s')) ∧ ClC s' (pNewD (Z.2.1 Z.2.2.1), Z.2) ∧ off 1 50 s s' := by
  have hq := bQ_P h4
  have oo : off 1 50 s (am_wr (am_wr (am_wr (cpP s (52 + 49 * f) 1) 1 2 0) 1 3 0) 1 4 0) := off_tr (off_tr (off_tr (cpP_off s (52 + 49 * f) 1) (off_wr _ (by omega) (by omega))) (off_wr _ (by omega) (by omega))) (off_wr _ (by omega) (by omega))
  refine ⟨_, fun Q => e_P_beginAs hq b1P (by omega), ClC_draft hZ oo ?_, oo⟩
  exact PgC_br (PgC_tm (PgC_tc (cpP_pg (by omega) hN) 0) 0) 0
theorem e_X_drop (hZ : ClC s Z) : xS f_X_drop [.ref 0] s (pDrop Z) := by
  obtain ⟨f, w1, w2, w3, w4, hD, w6, w7⟩ := id hZ
  unfold pDrop
  by_cases h0 : Z.1.2.2.1 = 0 ∧ Z.1.2.2.2.1 = 0
  · rw [zif_t h0]
    refine ⟨s, fun Q => ?_, hZ, off_rf _ _ _⟩
    rw [c_X_drop]
    have hz : zb (¬ (s 1 2 = 0 ∧ s 1 3 = 0)) = 0 := zb_f (fun q => q (by rw [hD.2.2.1, hD.2.2.2.1]; exact h0))
    simp only [k_X_drop_0, k_X_drop_1, k_X_drop_4, k_X_drop_7, k_X_drop_10, k_X_drop_11, k_X_drop_12, k_X_drop_13, k_X_drop_16, k_X_drop_17, k_X_drop_20, k_X_drop_23, k_X_drop_26, k_X_drop_27, g_X0, rc_P b1P, e_P_touchesAnything b1P, hz, am_ob_s, List.tail_cons, List.tail_nil, Option.toList_some, Option.toList_none, List.nil_append, List.cons_append, List.length_nil, List.length_cons, Nat.zero_le, true_and, and_true, true_implies, false_implies, not_true_eq_false, not_false_eq_true, implies_true, or_true, true_or, Nat.reduceAdd, Nat.reduceLeDiff]
  · rw [zif_f h0]
    have hm := Nat.mod_lt (f + Z.2.2.1) (show 4 > 0 by decide)
    obtain ⟨s', a1, a2, a3⟩ := x_beginAs hZ hm (w6 _ (Nat.le_refl _))
    refine ⟨s', fun Q => ?_, a2, off_up a3 (by omega) (by omega)⟩
    rw [c_X_drop]
    have hz : zb (¬ (s 1 2 = 0 ∧ s 1 3 = 0)) = 1 := zb_t (fun q => h0 (by rw [hD.2.2.1, hD.2.2.2.1] at q; exact q))
    simp only [k_X_drop_0, k_X_drop_1, k_X_drop_4, k_X_drop_7, k_X_drop_10, k_X_drop_11, k_X_drop_12, k_X_drop_13, k_X_drop_16, k_X_drop_17, k_X_drop_20, k_X_drop_23, k_X_drop_26, k_X_drop_27, g_X0, g_X1, rc_P b1P, rc_Q, e_P_touchesAnything b1P, hz, hz10, e_Q_newest w2 w3 w1 w4, a1, am_ob_s, List.tail_cons, List.tail_nil, Option.toList_some, Option.toList_none, List.nil_append, List.cons_append, List.length_nil, List.length_cons, Nat.zero_le, true_and, and_true, true_implies, false_implies, not_true_eq_false, not_false_eq_true, implies_true, or_true, true_or, Nat.reduceAdd, Nat.reduceLeDiff]
/-- the first of those that wait is applied -/
def pAp1 (Z : pSg) : pSg := (Z.1, fun i => Z.2.1 (i + 1), Z.2.2.1 - 1, (Z.2.2.2.1.1, Z.2.2.2.1.2.1, Z.2.2.2.1.2.2.1, tkc Z.2.2.2.1.2.2.2.1 (pLs (Z.2.1 0) Z.2.2.2.1.1 Z.2.2.2.1.2.2.2.1 Z.2.2.2.1.2.2.2.2.1), mvo (tkc Z.2.2.2.1.2.2.2.1 (pLs (Z.2.1 0) Z.2.2.2.1.1 Z.2.2.2.1.2.2.2.1 Z.2.2.2.1.2.2.2.2.1)) Z.2.2.2.1.2.2.2.2.1 (Z.2.1 0).1 (Z.2.1 1).1 (Z.2.1 1).2.2.1, Z.2.2.2.1.2.2.2.2.2), Z.2.2.2.2.1 + 1, Z.2.2.2.2.2 + nI (mvn (tkc Z.2.2.2.1.2.2.2.1 (pLs (Z.2.1 0) Z.2.2.2.1.1 Z.2.2.2.1.2.2.2.1 Z.2.2.2.1.2.2.2.2.1)) (Z.2.1 1).2.2.1 16))
noncomputable def pAp : Nat → pSg → pSg
  | 0, Z => Z
  | r + 1, Z => zif (Z.2.2.1 = 0 ∨ pHas Z.2.2.2.1.1 (Z.2.1 1).2.2.2.2) Z (pAp r (pAp1 Z))
/-- what a collection needs -/
def cdA (Z : pSg) : Prop := okL (Z.2.1 0).1 ∧ okF Z.2.2.2.1.1 ∧ ∀ j, j ∈ pLs (Z.2.1 0) Z.2.2.2.1.1 Z.2.2.2.1.2.2.2.1 Z.2.2.2.1.2.2.2.2.1 → Z.2.2.2.1.2.2.2.1 j ≠ 0
theorem RnC_mv {s s' : am_S} {FS : List pFr} {st rs on : Int32} {cl : Nat → Nat} {vl vl' : Nat → Nat → Int32} {ou : Nat → Int32} (h : RnC s (FS, st, rs, cl, vl, ou, on)) (hO : off 255 272 s s') (hH : HpC s' cl vl') : RnC s' (FS, st, rs, cl, vl', ou, on) := by
  obtain ⟨h1, h2, h3, h4, h5, h6, h7, h8, h9⟩ := h
  have e := fun i (hi : i < 255 ∨ 272 ≤ i) => hO i hi
  exact ⟨by rw [e 250 (by omega)]; exact h1, h2, fun k A hk => FrC_same (h3 k A hk) (fun i q1 q2 => e i (by omega)), by rw [e 250 (by omega)]; exact h4, by rw [e 250 (by omega)]; exact h5, hH, by rw [e 252 (by omega)]; exact h7, fun j hj => by rw [e 275 (by omega)]; exact h8 j hj, by rw [e 274 (by omega)]; exact h9⟩
set_option maxHeartbeats 1000000 in
theorem e_X_applyWhatCan {I : pSg → Prop} (hI : ∀ Z, I Z → cdA Z) (hI2 : ∀ Z, I Z → 0 < Z.2.2.1 → ¬ pHas Z.2.2.2.1.1 (Z.2.1 1).2.2.2.2 → I (pAp1 Z)) (hZ : ClC s Z) (hIZ : I Z) : ∃ s', (∀ Q : Option Value → am_H → Prop, am_C f_X_applyWhatCan [.ref 0] (TP, s) Q ↔ Q none (TP, s')) ∧ ClC s' (pAp 3 Z) ∧ off 0 308 s s' := by
  have loop : ∀ (r j : Nat), j + r = 3 → ∀ (s : am_S) (Z : pSg), ClC s Z → I Z → ∀ (jk : List Value), ∃ s', (∀ Q : Option Value → am_H → Prop, am_W m_X_applyWhatCan 2 (.ref 0 :: .int (nI j) :: jk) [] (TP, s) Q ↔ Q none (TP, s')) ∧ ClC s' (pAp r Z) ∧ off 0 308 s s' := by
    intro r
    induction r with
    | zero =>
      intro j hj s Z hZ _ jk
      obtain rfl : j = 3 := by omega
      have h1 : (3 : Int32) ≤ nI 3 := by decide
      refine ⟨s, fun Q => ?_, hZ, off_rf _ _ _⟩
      rw [k_X_applyWhatCan_2]
      simp only [k_X_applyWhatCan_3, k_X_applyWhatCan_4, k_X_applyWhatCan_104, h1, am_ob_s, List.tail_cons, List.tail_nil, Option.toList_some, Option.toList_none, List.nil_append, List.cons_append, List.length_nil, List.length_cons, Nat.zero_le, true_and, and_true, true_implies, false_implies, not_true_eq_false, not_false_eq_true, implies_true, or_true, true_or, Nat.reduceAdd, Nat.reduceLeDiff]
    | succ r ih =>
      intro j hj s Z hZ hIZ jk
      have h1 : ¬ (3 : Int32) ≤ nI j := nI_ge (b := 3) (by omega) (by decide)
      obtain ⟨f, w1, w2, w3, w4, hD, w6, w7, w8, w9, ck, w10⟩ := id hZ
      by_cases hw : Z.2.2.1 = 0
      · refine ⟨s, fun Q => ?_, by rw [pAp, zif_t (Or.inl hw)]; exact hZ, off_rf _ _ _⟩
        have h2 : nI Z.2.2.1 ≤ 0 := by rw [hw]; decide
        rw [k_X_applyWhatCan_2]
        simp only [k_X_applyWhatCan_3, k_X_applyWhatCan_4, k_X_applyWhatCan_7, k_X_applyWhatCan_8, k_X_applyWhatCan_11, k_X_applyWhatCan_14, k_X_applyWhatCan_104, h1, g_X1, g_Q2, w3, h2, am_ob_s, List.tail_cons, List.tail_nil, Option.toList_some, Option.toList_none, List.nil_append, List.cons_append, List.length_nil, List.length_cons, Nat.zero_le, true_and, and_true, true_implies, false_implies, not_true_eq_false, not_false_eq_true, implies_true, or_true, true_or, Nat.reduceAdd, Nat.reduceLeDiff]
      · have h2 : ¬ nI Z.2.2.1 ≤ 0 := nI_nle (by omega) (by omega)
        have hm := Nat.mod_lt (f + 1) (show 4 > 0 by decide)
        have hq := bQ_P hm
        have hp := bQ_P w1
        have g1 := w6 1 (by omega)
        have g0 : PgC s (52 + 49 * f) (Z.2.1 0) := by
          have := w6 0 (by omega)
          rw [Nat.add_zero, Nat.mod_eq_of_lt w1] at this
          exact this
        by_cases hh : pHas Z.2.2.2.1.1 (Z.2.1 1).2.2.2.2
        · refine ⟨s, fun Q => ?_, by rw [pAp, zif_t (Or.inr hh)]; exact hZ, off_rf _ _ _⟩
          rw [k_X_applyWhatCan_2]
          simp only [k_X_applyWhatCan_3, k_X_applyWhatCan_4, k_X_applyWhatCan_7, k_X_applyWhatCan_8, k_X_applyWhatCan_11, k_X_applyWhatCan_14, k_X_applyWhatCan_17, k_X_applyWhatCan_18, k_X_applyWhatCan_21, k_X_applyWhatCan_22, k_X_applyWhatCan_25, k_X_applyWhatCan_28, k_X_applyWhatCan_31, k_X_applyWhatCan_34, k_X_applyWhatCan_37, h1, g_X1, g_X3, g_Q2, w3, h2, rc_Q, rc_U, e_Q_firstWaiting w2 w1, g_P4 hq, g1.2.2.2.2, e_U_hasFrameOfOneOf w7, zb_t hh, hz10, am_ob_s, List.tail_cons, List.tail_nil, Option.toList_some, Option.toList_none, List.nil_append, List.cons_append, List.length_nil, List.length_cons, Nat.zero_le, true_and, and_true, true_implies, false_implies, not_true_eq_false, not_false_eq_true, implies_true, or_true, true_or, Nat.reduceAdd, Nat.reduceLeDiff]
        · obtain ⟨i1, i2, i3⟩ := hI Z hIZ
          obtain ⟨D, P, w, ⟨FS, st, rs, cl, vl, ou, on⟩, ap, mv⟩ := Z
          obtain ⟨s1, a1, a2, a3⟩ := e_U_collect hp g0 i1 w7 i2 i3
          dsimp only at *
          have g01 := off_pg a3 hp g0
          have g11 := off_pg a3 hq g1
          obtain ⟨s2, b1, b2, b3⟩ := e_H_moveObjects hp hq g01 g11 a2.2.2.2.2.2.1
          have r2 := RnC_mv a2 b3 b2
          have O2 : off 250 308 s s2 := off_tr a3 (off_up b3 (by omega) (by omega))
          have e50 : s2 50 = s 50 := O2 50 (by omega)
          have e0 : s2 0 = s 0 := O2 0 (by omega)
          have e01 : s1 0 = s 0 := a3 0 (by omega)
          generalize hmv : mv + nI (mvn (tkc cl (pLs (P 0) FS cl vl)) (P 1).2.2.1 16) = mv'
          generalize es3 : am_wr s2 0 5 mv' = s3
          have f50 : s3 50 = s 50 := by rw [← es3, am_wr_row _ (by omega)]; exact e50
          have w23 : s3 50 1 = nI f := by rw [f50]; exact w2
          have w33 : s3 50 2 = nI (w - 1 + 1) := by rw [f50, Nat.sub_add_cancel (by omega)]; exact w3
          generalize es4 : am_wr (am_wr s3 50 1 (nI ((f + 1) % 4))) 50 2 (nI (w - 1)) = s4
          generalize es5 : am_wr s4 0 4 (ap + 1) = s5
          have f04 : s4 0 4 = ap := by rw [← es4, am_wr_row _ (by omega), am_wr_row _ (by omega), ← es3, am_wr_col _ (by omega), e0]; exact w8
          have o5 : ∀ i, i ≠ 0 → i ≠ 50 → s5 i = s2 i := fun i q1 q2 => by rw [← es5, am_wr_row _ q1, ← es4, am_wr_row _ q2, am_wr_row _ q2, ← es3, am_wr_row _ q1]
          have O5 : off 0 308 s s5 := fun i hi => by rw [o5 i (by omega) (by omega)]; exact O2 i (by omega)
          have Z5 : ClC s5 (pAp1 (D, P, w, (FS, st, rs, cl, vl, ou, on), ap, mv)) := by
            refine ⟨(f + 1) % 4, hm, ?_, ?_, by show w - 1 ≤ 3; omega, PgC_same hD (fun i q1 q2 => ?_), fun i hi => ?_, RnC_same r2 (fun i q1 q2 => o5 i (by omega) (by omega)), ?_, ?_, ck, CkC_same w10 (fun i q1 q2 => ?_)⟩
            · rw [← es5, am_wr_row _ (by omega), ← es4, am_wr_col _ (by omega), am_wr_self]
            · rw [← es5, am_wr_row _ (by omega), ← es4, am_wr_self]
              rfl
            · rw [o5 i (by omega) (by omega)]; exact O2 i (by omega)
            · have hi' : i ≤ w - 1 := hi
              have := w6 (i + 1) (by omega)
              rw [show (f + 1) % 4 + i = (f + 1) % 4 + i from rfl, show ((f + 1) % 4 + i) % 4 = (f + (i + 1)) % 4 by omega]
              have hmm := Nat.mod_lt (f + (i + 1)) (show 4 > 0 by decide)
              exact PgC_same this (fun x q1 q2 => by rw [o5 x (by omega) (by omega)]; exact O2 x (by omega))
            · rw [← es5, am_wr_self]
              rfl
            · rw [← es5, am_wr_col _ (by omega), ← es4, am_wr_row _ (by omega), am_wr_row _ (by omega), ← es3, am_wr_self, ← hmv]
              rfl
            · rw [o5 i (by omega) (by omega)]; exact O2 i (by omega)
          obtain ⟨s', c1, c2, c3⟩ := ih (j + 1) (by omega) s5 _ Z5 (hI2 _ hIZ (by show 0 < w; omega) hh) (.ref (52 + 49 * f) :: jk.tail)
          refine ⟨s', fun Q => ?_, by rw [pAp, zif_f (fun q => q.elim hw hh)]; exact c2, off_tr O5 c3⟩
          have r5 : s1 0 5 = mv := by rw [e01]; exact w9
          have w21 : s1 50 1 = nI f := by rw [a3 50 (by omega)]; exact w2
          have adv := fun (Q : Option Value → am_H → Prop) => e_Q_advance (Q := Q) w23 w33 w1 (by omega)
          rw [k_X_applyWhatCan_2]
          simp only [k_X_applyWhatCan_3, k_X_applyWhatCan_4, k_X_applyWhatCan_7, k_X_applyWhatCan_8, k_X_applyWhatCan_11, k_X_applyWhatCan_14, k_X_applyWhatCan_17, k_X_applyWhatCan_18, k_X_applyWhatCan_21, k_X_applyWhatCan_22, k_X_applyWhatCan_25, k_X_applyWhatCan_28, k_X_applyWhatCan_31, k_X_applyWhatCan_34, k_X_applyWhatCan_37, k_X_applyWhatCan_38, k_X_applyWhatCan_39, k_X_applyWhatCan_42, k_X_applyWhatCan_45, k_X_applyWhatCan_46, k_X_applyWhatCan_47, k_X_applyWhatCan_50, k_X_applyWhatCan_51, k_X_applyWhatCan_54, k_X_applyWhatCan_55, k_X_applyWhatCan_55i, k_X_applyWhatCan_56, k_X_applyWhatCan_59, k_X_applyWhatCan_60, k_X_applyWhatCan_63, k_X_applyWhatCan_66, k_X_applyWhatCan_67, k_X_applyWhatCan_68, k_X_applyWhatCan_71, k_X_applyWhatCan_74, k_X_applyWhatCan_77, k_X_applyWhatCan_78, k_X_applyWhatCan_81, k_X_applyWhatCan_82, k_X_applyWhatCan_85, k_X_applyWhatCan_88, k_X_applyWhatCan_89, k_X_applyWhatCan_89i, k_X_applyWhatCan_90, k_X_applyWhatCan_93, k_X_applyWhatCan_94, k_X_applyWhatCan_95, k_X_applyWhatCan_98, k_X_applyWhatCan_101, h1, g_X1, g_X3, g_Q2, w3, h2, rc_Q, rc_U, rc_H, e_Q_firstWaiting w2 w1, e_Q_firstWaiting w21 w1, g_P4 hq, g1.2.2.2.2, e_U_hasFrameOfOneOf w7, zb_f hh, e_Q_present w2 w1, a1, g_X5, r5, g_U1, b1, hmv, p_X5, es3, adv, es4, g_X4, f04, p_X4, es5, nI_1, am_ob_s, List.tail_cons, List.tail_nil, Option.toList_some, Option.toList_none, List.nil_append, List.cons_append, List.length_nil, List.length_cons, Nat.zero_le, true_and, and_true, true_implies, false_implies, not_true_eq_false, not_false_eq_true, implies_true, or_true, true_or, Nat.reduceAdd, Nat.reduceLeDiff]
          exact c1 Q
  obtain ⟨s', c1, c2, c3⟩ := loop 3 0 (by omega) s Z hZ hIZ []
  refine ⟨s', fun Q => ?_, c2, c3⟩
  rw [nI_0] at c1
  rw [c_X_applyWhatCan]
  simp only [k_X_applyWhatCan_0, k_X_applyWhatCan_1, am_ob_s, List.tail_cons, List.tail_nil, Option.toList_some, Option.toList_none, List.nil_append, List.cons_append, List.length_nil, List.length_cons, Nat.zero_le, true_and, and_true, true_implies, false_implies, not_true_eq_false, not_false_eq_true, implies_true, or_true, true_or, Nat.reduceAdd, Nat.reduceLeDiff]
  exact c1 Q
end SX4
