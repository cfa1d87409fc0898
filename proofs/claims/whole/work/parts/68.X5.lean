/-! The class: commit, start, run -/
noncomputable def pBar (D N : pPg) : pPg := (D.1, D.2.1, D.2.2.1, D.2.2.2.1, pRs N.2.1 D.2.2.1 D.2.2.2.1 (pOw D.2.1 N.2.1 6) 6)
/-- the draft joins those that wait -/
noncomputable def pAdd (Z : pSg) : pSg := (pNewD (pBar Z.1 (Z.2.1 Z.2.2.1)), pSt Z.2.1 (Z.2.2.1 + 1) (pBar Z.1 (Z.2.1 Z.2.2.1)), Z.2.2.1 + 1, Z.2.2.2)
noncomputable def pCommit (Z : pSg) : Int32 × pSg := zif ((Z.1.2.2.1 = 0 ∧ Z.1.2.2.2.1 = 0) ∨ 3 ≤ Z.2.2.1) (-1, Z) (match ckAll Z.1 0 6 with
  | some k => (1 + nI k, Z)
  | none => (0, pAp 3 (pAdd Z)))
/-- a program is in range -/
def okP (G : pPg) : Prop := (∀ m, m < 6 → okR (G.2.1 m)) ∧ ∀ m, m < 6 → ∀ (j : Nat) (e : Nat × Int32 × Nat), (G.2.1 m).2.2.2[j]? = some e → okE e
section SX5
variable {s : am_S} {Z : pSg} {Q : Option Value → am_H → Prop}
theorem ckAll_lt (G : pPg) : ∀ (r m k : Nat), (∀ j, j < 6 → (G.2.1 j).2.2.2.length ≤ 14) → m + r = 6 → ckAll G m r = some k → k < 1000
  | 0, m, k, _, _, h => by cases h
  | r + 1, m, k, hl, hm, h => by
    unfold ckAll at h
    split at h
    · rename_i j hj
      have h1 := ckFrom_lt G _ _ _ _ _ hj
      have h2 := hl m (by omega)
      have h3 : 100 * m + j = k := Option.some.inj h
      omega
    · exact ckAll_lt G r (m + 1) k hl (by omega) h
set_option maxHeartbeats 1000000 in
theorem e_X_commit {I : pSg → Prop} (hI : ∀ Z, I Z → cdA Z) (hI2 : ∀ Z, I Z → 0 < Z.2.2.1 → ¬ pHas Z.2.2.2.1.1 (Z.2.1 1).2.2.2.2 → I (pAp1 Z)) (hZ : ClC s Z) (hD0 : okP Z.1) (hN0 : okP (Z.2.1 Z.2.2.1)) (hI3 : ckAll Z.1 0 6 = none → Z.2.2.1 < 3 → I (pAdd Z)) : xS f_X_commit [.ref 0] s (pCommit Z) := by
  obtain ⟨f, w1, w2, w3, w4, hD, w6, w7, w8, w9, ck, w10⟩ := id hZ
  unfold pCommit
  by_cases h0 : Z.1.2.2.1 = 0 ∧ Z.1.2.2.2.1 = 0
  · rw [zif_t (Or.inl h0)]
    refine ⟨s, fun Q => ?_, hZ, off_rf _ _ _⟩
    rw [c_X_commit]
    have hz : zb (¬ (s 1 2 = 0 ∧ s 1 3 = 0)) = 0 := zb_f (fun q => q (by rw [hD.2.2.1, hD.2.2.2.1]; exact h0))
    simp only [k_X_commit_0, k_X_commit_1, k_X_commit_4, k_X_commit_7, k_X_commit_10, k_X_commit_11, k_X_commit_14, k_X_commit_17, k_X_commit_20, k_X_commit_21, g_X0, rc_P b1P, e_P_touchesAnything b1P, hz, am_ob_s, List.tail_cons, List.tail_nil, Option.toList_some, Option.toList_none, List.nil_append, List.cons_append, List.length_nil, List.length_cons, Nat.zero_le, true_and, and_true, true_implies, false_implies, not_true_eq_false, not_false_eq_true, implies_true, or_true, true_or, Nat.reduceAdd, Nat.reduceLeDiff]
  have hz : zb (¬ (s 1 2 = 0 ∧ s 1 3 = 0)) = 1 := zb_t (fun q => h0 (by rw [hD.2.2.1, hD.2.2.2.1] at q; exact q))
  by_cases h3 : 3 ≤ Z.2.2.1
  · rw [zif_t (Or.inr h3)]
    refine ⟨s, fun Q => ?_, hZ, off_rf _ _ _⟩
    rw [c_X_commit]
    simp only [k_X_commit_0, k_X_commit_1, k_X_commit_4, k_X_commit_7, k_X_commit_10, k_X_commit_11, k_X_commit_14, k_X_commit_17, k_X_commit_20, k_X_commit_21, g_X0, g_X1, rc_P b1P, rc_Q, e_P_touchesAnything b1P, hz, hz10, e_Q_isFull w3 w4, zb_t h3, am_ob_s, List.tail_cons, List.tail_nil, Option.toList_some, Option.toList_none, List.nil_append, List.cons_append, List.length_nil, List.length_cons, Nat.zero_le, true_and, and_true, true_implies, false_implies, not_true_eq_false, not_false_eq_true, implies_true, or_true, true_or, Nat.reduceAdd, Nat.reduceLeDiff]
  rw [zif_f (fun q => q.elim h0 h3)]
  obtain ⟨s1, a1, ⟨ck1, a2⟩, a3⟩ := e_C_firstBadPlace w10 b1P hD hD0.2 (fun m hm => (hD0.1 m hm).1)
  have hD1 := PgC_same hD (off_same (lo' := 1) (hi' := 1 + 49) a3 (by omega))
  have w21 : s1 50 1 = nI f := by rw [a3 50 (by omega)]; exact w2
  have w31 : s1 50 2 = nI Z.2.2.1 := by rw [a3 50 (by omega)]; exact w3
  have O1 : off 0 308 s s1 := off_up a3 (by omega) (by omega)
  have hlt : ∀ i, (f + i) % 4 < 4 := fun i => Nat.mod_lt _ (by decide)
  have hZ1 : ClC s1 Z := ⟨f, w1, w21, w31, w4, hD1, fun i hi => by
    have := hlt i
    exact PgC_same (w6 i hi) (fun x q1 q2 => a3 x (by omega)), RnC_same w7 (fun x q1 q2 => a3 x (by omega)), by rw [a3 0 (by omega)]; exact w8, by rw [a3 0 (by omega)]; exact w9, ck1, a2⟩
  have pre : ∀ Q : Option Value → am_H → Prop, am_C f_X_commit [.ref 0] (TP, s) Q ↔ am_W m_X_commit 34 [.ref 0, .int (pIx (ckAll Z.1 0 6))] [] (TP, s1) Q := fun Q => by
    rw [c_X_commit]
    simp only [k_X_commit_0, k_X_commit_1, k_X_commit_4, k_X_commit_7, k_X_commit_10, k_X_commit_11, k_X_commit_14, k_X_commit_17, k_X_commit_20, k_X_commit_21, k_X_commit_22, k_X_commit_23, k_X_commit_26, k_X_commit_27, k_X_commit_30, k_X_commit_33, g_X0, g_X1, g_X2, rc_P b1P, rc_Q, rc_C, e_P_touchesAnything b1P, hz, hz10, e_Q_isFull w3 w4, zb_f h3, a1, am_ob_s, List.tail_cons, List.tail_nil, Option.toList_some, Option.toList_none, List.nil_append, List.cons_append, List.length_nil, List.length_cons, Nat.zero_le, true_and, and_true, true_implies, false_implies, not_true_eq_false, not_false_eq_true, implies_true, or_true, true_or, Nat.reduceAdd, Nat.reduceLeDiff]
  cases hck : ckAll Z.1 0 6 with
  | some k =>
    have hk := ckAll_lt Z.1 6 0 k (fun j hj => (hD.2.1 j hj).2.2.2.2.1) (by omega) hck
    have hk1 : ¬ nI k = -1 := nI_ne1 (by omega)
    refine ⟨s1, fun Q => ?_, hZ1, O1⟩
    rw [pre, hck]
    simp only [k_X_commit_34, k_X_commit_35, k_X_commit_36, k_X_commit_39, k_X_commit_40, k_X_commit_41, k_X_commit_42, pIx, hk1, am_ob_s, List.tail_cons, List.tail_nil, Option.toList_some, Option.toList_none, List.nil_append, List.cons_append, List.length_nil, List.length_cons, Nat.zero_le, true_and, and_true, true_implies, false_implies, not_true_eq_false, not_false_eq_true, implies_true, or_true, true_or, Nat.reduceAdd, Nat.reduceLeDiff]
  | none =>
    have hw3 : Z.2.2.1 < 3 := by omega
    have hm := hlt Z.2.2.1
    have hm1 := hlt (Z.2.2.1 + 1)
    have hN1 : PgC s1 (52 + 49 * ((f + Z.2.2.1) % 4)) (Z.2.1 Z.2.2.1) := by
      exact PgC_same (w6 _ (Nat.le_refl _)) (fun x q1 q2 => a3 x (by omega))
    have rst := fun (Q : Option Value → am_H → Prop) => e_P_restrict (Q := Q) (bQ_P hm) b1P (by omega) (fun m hm => ⟨hD1.2.1 m hm, hD0.1 m hm⟩) (fun m hm => ⟨hN1.2.1 m hm, hN0.1 m hm⟩)
    rw [hD1.2.2.1, hD1.2.2.2.1] at rst
    generalize es2 : am_wr s1 1 4 (pRs (Z.2.1 Z.2.2.1).2.1 Z.1.2.2.1 Z.1.2.2.2.1 (pOw Z.1.2.1 (Z.2.1 Z.2.2.1).2.1 6) 6) = s2 at rst
    have hD2 : PgC s2 1 (pBar Z.1 (Z.2.1 Z.2.2.1)) := by
      rw [← es2]
      exact PgC_br hD1 _
    have o2 : ∀ i, i ≠ 1 → s2 i = s1 i := fun i q => by rw [← es2, am_wr_row _ q]
    have w22 : s2 50 1 = nI f := by rw [o2 50 (by omega)]; exact w21
    have w32 : s2 50 2 = nI Z.2.2.1 := by rw [o2 50 (by omega)]; exact w31
    have add := fun (Q : Option Value → am_H → Prop) => e_Q_add (Q := Q) w22 w32 w1 hw3
    generalize es3 : cpP (am_wr s2 50 2 (nI (Z.2.2.1 + 1))) 1 (52 + 49 * ((f + (Z.2.2.1 + 1)) % 4)) = s3 at add
    have o3 : ∀ i, i ≠ 50 → i < 52 + 49 * ((f + (Z.2.2.1 + 1)) % 4) ∨ 52 + 49 * ((f + (Z.2.2.1 + 1)) % 4) + 49 ≤ i → s3 i = s2 i := fun i q1 q2 => by
      rw [← es3, cpP_off _ _ _ i q2, am_wr_row _ q1]
    have e350 : s3 50 = am_wr s2 50 2 (nI (Z.2.2.1 + 1)) 50 := by rw [← es3, cpP_off _ _ _ 50 (by omega)]
    have hD2' : PgC (am_wr s2 50 2 (nI (Z.2.2.1 + 1))) 1 (pBar Z.1 (Z.2.1 Z.2.2.1)) := PgC_same hD2 (fun i q1 q2 => am_wr_row _ (by omega))
    have hN3 : PgC s3 (52 + 49 * ((f + (Z.2.2.1 + 1)) % 4)) (pBar Z.1 (Z.2.1 Z.2.2.1)) := by
      rw [← es3]
      exact cpP_pg (by omega) hD2'
    have w23 : s3 50 1 = nI f := by rw [e350, am_wr_col _ (by omega)]; exact w22
    have w33 : s3 50 2 = nI (Z.2.2.1 + 1) := by rw [e350, am_wr_self]
    have hZ3 : ClC s3 (pBar Z.1 (Z.2.1 Z.2.2.1), pSt Z.2.1 (Z.2.2.1 + 1) (pBar Z.1 (Z.2.1 Z.2.2.1)), Z.2.2.1 + 1, Z.2.2.2) := by
      obtain ⟨f', v1, v2, v3, v4, v5, v6, v7, v8, v9, v10⟩ := hZ1
      refine ⟨f, w1, w23, w33, by show Z.2.2.1 + 1 ≤ 3; omega, PgC_same hD2 (fun i q1 q2 => o3 i (by omega) (by omega)), fun i hi => ?_, RnC_same v7 (fun i q1 q2 => by rw [o3 i (by omega) (by omega), o2 i (by omega)]), by rw [o3 0 (by omega) (by omega), o2 0 (by omega)]; exact v8, by rw [o3 0 (by omega) (by omega), o2 0 (by omega)]; exact v9, ck1, CkC_same a2 (fun i q1 q2 => by rw [o3 i (by omega) (by omega), o2 i (by omega)])⟩
      dsimp only at hi ⊢
      by_cases e : i = Z.2.2.1 + 1
      · rw [e, pSt_s]
        exact hN3
      · rw [pSt_n e]
        have hmi := hlt i
        have g := PgC_same (s' := s1) (w6 i (by omega)) (fun x q1 q2 => a3 x (by omega))
        exact PgC_same g (fun x q1 q2 => by rw [o3 x (by omega) (by omega), o2 x (by omega)])
    have hN3' : PgC s3 (52 + 49 * ((f + (Z.2.2.1 + 1)) % 4)) (pSt Z.2.1 (Z.2.2.1 + 1) (pBar Z.1 (Z.2.1 Z.2.2.1)) (Z.2.2.1 + 1)) := by
      rw [pSt_s]
      exact hN3
    obtain ⟨s4, b1, b2, b3⟩ := x_beginAs hZ3 hm1 hN3'
    have hZ4 : ClC s4 (pAdd Z) := by
      dsimp only at b2
      rw [pSt_s] at b2
      exact b2
    obtain ⟨s5, c1, c2, c3⟩ := e_X_applyWhatCan hI hI2 hZ4 (hI3 hck hw3)
    have O3 : off 0 308 s s3 := fun i hi => by rw [o3 i (by omega) (by omega), o2 i (by omega)]; exact O1 i hi
    refine ⟨s5, fun Q => ?_, c2, off_tr (off_tr O3 (off_up b3 (by omega) (by omega))) c3⟩
    rw [pre, hck]
    simp only [k_X_commit_34, k_X_commit_35, k_X_commit_36, k_X_commit_39, k_X_commit_40, k_X_commit_41, k_X_commit_42, k_X_commit_43, k_X_commit_44, k_X_commit_47, k_X_commit_48, k_X_commit_51, k_X_commit_54, k_X_commit_57, k_X_commit_58, k_X_commit_61, k_X_commit_62, k_X_commit_65, k_X_commit_68, k_X_commit_69, k_X_commit_72, k_X_commit_73, k_X_commit_76, k_X_commit_79, k_X_commit_82, k_X_commit_83, k_X_commit_86, k_X_commit_87, pIx, g_X0, g_X1, rc_Q, rc_P b1P, rc_X, e_Q_newest w21 w31 w1 w4, rst, add, e_Q_newest w23 w33 w1 (show Z.2.2.1 + 1 ≤ 3 by omega), b1, c1, am_ob_s, List.tail_cons, List.tail_nil, Option.toList_some, Option.toList_none, List.nil_append, List.cons_append, List.length_nil, List.length_cons, Nat.zero_le, true_and, and_true, true_implies, false_implies, not_true_eq_false, not_false_eq_true, implies_true, or_true, true_or, Nat.reduceAdd, Nat.reduceLeDiff]
def okStart (Z : pSg) (m : Int32) : Prop := ¬ Z.2.2.2.1.2.1 = 1 ∧ isM m ∧ 0 < ((Z.2.1 0).2.1 (cN m)).2.2.2.length ∧ ((Z.2.1 0).2.1 (cN m)).1 = 0 ∧ ((Z.2.1 0).2.1 (cN m)).2.2.1 = 0
noncomputable def pStart (Z : pSg) (m : Int32) : Int32 × pSg := zif (okStart Z m) (1, Z.1, Z.2.1, Z.2.2.1, ([(cN m, 0, fun _ => 0, [])], 1, 0, Z.2.2.2.1.2.2.2), Z.2.2.2.2) (0, Z)
theorem ClC_run {s' : am_S} {σ : pMc} (hZ : ClC s Z) (hO : off 250 308 s s') (hR : RnC s' σ) : ClC s' (Z.1, Z.2.1, Z.2.2.1, σ, Z.2.2.2.2) := by
  obtain ⟨f, w1, w2, w3, w4, hD, w6, w7, w8, w9, ck, w10⟩ := hZ
  refine ⟨f, w1, by rw [hO 50 (by omega)]; exact w2, by rw [hO 50 (by omega)]; exact w3, w4, PgC_same hD (fun i q1 q2 => hO i (by omega)), fun i hi => ?_, hR, by rw [hO 0 (by omega)]; exact w8, by rw [hO 0 (by omega)]; exact w9, ck, CkC_same w10 (fun i q1 q2 => hO i (by omega))⟩
  have := Nat.mod_lt (f + i) (show 4 > 0 by decide)
  exact PgC_same (w6 i hi) (fun x q1 q2 => hO x (by omega))
theorem ClC_0 (hZ : ClC s Z) : ∃ f, f < 4 ∧ s 50 1 = nI f ∧ PgC s (52 + 49 * f) (Z.2.1 0) := by
  obtain ⟨f, w1, w2, w3, w4, hD, w6, w7⟩ := hZ
  have := w6 0 (by omega)
  rw [Nat.add_zero, Nat.mod_eq_of_lt w1] at this
  exact ⟨f, w1, w2, this⟩
theorem ClC_r (hZ : ClC s Z) : RnC s Z.2.2.2.1 := by
  obtain ⟨f, w1, w2, w3, w4, hD, w6, w7, w8⟩ := hZ
  exact w7
theorem e_X_start (hZ : ClC s Z) (hok : okP (Z.2.1 0)) (m : Int32) : xS f_X_start [.ref 0, .int m] s (pStart Z m) := by
  obtain ⟨f, w1, w2, g0⟩ := ClC_0 hZ
  have hR := ClC_r hZ
  have hst := hR.2.2.2.1
  have no : ¬ okStart Z m → (∀ Q : Option Value → am_H → Prop, am_C f_X_start [.ref 0, .int m] (TP, s) Q ↔ Q (some (.int 0)) (TP, s)) → xS f_X_start [.ref 0, .int m] s (pStart Z m) := fun q1 q2 => by
    unfold pStart
    rw [zif_f q1]
    exact ⟨s, q2, hZ, off_rf _ _ _⟩
  by_cases h1 : Z.2.2.2.1.2.1 = 1
  · exact no (fun q => q.1 h1) (fun Q => by
      rw [c_X_start]
      simp only [k_X_start_0, k_X_start_1, k_X_start_4, k_X_start_7, k_X_start_10, k_X_start_11, k_X_start_14, k_X_start_17, k_X_start_18, g_X3, rc_U, e_U_goesOn, hst, zb_t h1, hz10, am_ob_s, List.tail_cons, List.tail_nil, Option.toList_some, Option.toList_none, List.nil_append, List.cons_append, List.length_nil, List.length_cons, Nat.zero_le, true_and, and_true, true_implies, false_implies, not_true_eq_false, not_false_eq_true, implies_true, or_true, true_or, Nat.reduceAdd, Nat.reduceLeDiff])
  rcases (Classical.em (isM m)).symm with h2 | h2
  · exact no (fun q => h2 q.2.1) (fun Q => by
      rw [c_X_start]
      simp only [k_X_start_0, k_X_start_1, k_X_start_4, k_X_start_7, k_X_start_10, k_X_start_11, k_X_start_14, k_X_start_17, k_X_start_18, g_X3, rc_U, rc_n, e_U_goesOn, hst, zb_f h1, e_X_isMethod, zb_f h2, am_ob_s, List.tail_cons, List.tail_nil, Option.toList_some, Option.toList_none, List.nil_append, List.cons_append, List.length_nil, List.length_cons, Nat.zero_le, true_and, and_true, true_implies, false_implies, not_true_eq_false, not_false_eq_true, implies_true, or_true, true_or, Nat.reduceAdd, Nat.reduceLeDiff])
  obtain ⟨em, hm⟩ := isM_n h2
  have hq := bQ_P w1
  have hbr := bP_R hq hm
  have hRo := g0.2.1 _ hm
  have am := fun (s : am_S) => a_Pr (s := s) hq hm
  rw [← em] at am
  have okr := hok.1 _ hm
  have pre : ∀ Q : Option Value → am_H → Prop, am_C f_X_start [.ref 0, .int m] (TP, s) Q ↔ am_W m_X_start 32 [.ref 0, .int m, .ref (52 + 49 * f + 19 + 5 * cN m)] [] (TP, s) Q := fun Q => by
    rw [c_X_start]
    simp only [k_X_start_0, k_X_start_1, k_X_start_4, k_X_start_7, k_X_start_10, k_X_start_11, k_X_start_14, k_X_start_17, k_X_start_18, k_X_start_19, k_X_start_20, k_X_start_23, k_X_start_26, k_X_start_29, k_X_start_30, k_X_start_31, g_X3, g_X1, rc_U, rc_Q, rc_n, e_U_goesOn, hst, zb_f h1, e_X_isMethod, zb_t h2, hz10, e_Q_present w2 w1, g_P1 hq, am, am_ob_s, List.tail_cons, List.tail_nil, Option.toList_some, Option.toList_none, List.nil_append, List.cons_append, List.length_nil, List.length_cons, Nat.zero_le, true_and, and_true, true_implies, false_implies, not_true_eq_false, not_false_eq_true, implies_true, or_true, true_or, Nat.reduceAdd, Nat.reduceLeDiff]
  rcases (Classical.em (0 < ((Z.2.1 0).2.1 (cN m)).2.2.2.length)).symm with h3 | h3
  · exact no (fun q => h3 q.2.2.1) (fun Q => by
      rw [pre]
      simp only [k_X_start_32, k_X_start_33, k_X_start_36, k_X_start_39, k_X_start_40, k_X_start_43, k_X_start_46, k_X_start_47, k_X_start_50, k_X_start_53, k_X_start_54, rc_R hbr, e_R_isDefined hbr hRo, zb_f h3, am_ob_s, List.tail_cons, List.tail_nil, Option.toList_some, Option.toList_none, List.nil_append, List.cons_append, List.length_nil, List.length_cons, Nat.zero_le, true_and, and_true, true_implies, false_implies, not_true_eq_false, not_false_eq_true, implies_true, or_true, true_or, Nat.reduceAdd, Nat.reduceLeDiff])
  have h31 : zb (0 < ((Z.2.1 0).2.1 (cN m)).2.2.2.length) = 1 := zb_t h3
  rcases (Classical.em (((Z.2.1 0).2.1 (cN m)).1 = 0)).symm with h4 | h4
  · have h4' : ¬ nI ((Z.2.1 0).2.1 (cN m)).1 = 0 := nI_ne0 (by omega) (by have := okr.1; omega)
    exact no (fun q => h4 q.2.2.2.1) (fun Q => by
      rw [pre]
      simp only [k_X_start_32, k_X_start_33, k_X_start_36, k_X_start_39, k_X_start_40, k_X_start_43, k_X_start_46, k_X_start_47, k_X_start_50, k_X_start_53, k_X_start_54, rc_R hbr, e_R_isDefined hbr hRo, h31, hz10, g_R4 hbr, hRo.1, h4', am_ob_s, List.tail_cons, List.tail_nil, Option.toList_some, Option.toList_none, List.nil_append, List.cons_append, List.length_nil, List.length_cons, Nat.zero_le, true_and, and_true, true_implies, false_implies, not_true_eq_false, not_false_eq_true, implies_true, or_true, true_or, Nat.reduceAdd, Nat.reduceLeDiff])
  have h4' : nI ((Z.2.1 0).2.1 (cN m)).1 = 0 := by rw [h4]; rfl
  rcases (Classical.em (((Z.2.1 0).2.1 (cN m)).2.2.1 = 0)).symm with h5 | h5
  · have h5' : ¬ nI ((Z.2.1 0).2.1 (cN m)).2.2.1 = 0 := nI_ne0 (by omega) (by have := okr.2.2; omega)
    exact no (fun q => h5 q.2.2.2.2) (fun Q => by
      rw [pre]
      simp only [k_X_start_32, k_X_start_33, k_X_start_36, k_X_start_39, k_X_start_40, k_X_start_43, k_X_start_46, k_X_start_47, k_X_start_50, k_X_start_53, k_X_start_54, rc_R hbr, e_R_isDefined hbr hRo, h31, hz10, g_R4 hbr, g_R5 hbr, hRo.1, hRo.2.2.1, h4', h5', am_ob_s, List.tail_cons, List.tail_nil, Option.toList_some, Option.toList_none, List.nil_append, List.cons_append, List.length_nil, List.length_cons, Nat.zero_le, true_and, and_true, true_implies, false_implies, not_true_eq_false, not_false_eq_true, implies_true, or_true, true_or, Nat.reduceAdd, Nat.reduceLeDiff])
  have h5' : nI ((Z.2.1 0).2.1 (cN m)).2.2.1 = 0 := by rw [h5]; rfl
  obtain ⟨s1, a1, a2, a3⟩ := e_U_begin hR (m := cN m)
  rw [← em] at a1
  unfold pStart
  rw [zif_t ⟨h1, h2, h3, h4, h5⟩]
  refine ⟨s1, fun Q => ?_, ClC_run hZ a3 a2, off_up a3 (by omega) (by omega)⟩
  rw [pre]
  simp only [k_X_start_32, k_X_start_33, k_X_start_36, k_X_start_39, k_X_start_40, k_X_start_43, k_X_start_46, k_X_start_47, k_X_start_50, k_X_start_53, k_X_start_54, k_X_start_55, k_X_start_56, k_X_start_59, k_X_start_60, k_X_start_63, k_X_start_64, rc_R hbr, rc_U, e_R_isDefined hbr hRo, h31, hz10, g_R4 hbr, g_R5 hbr, hRo.1, hRo.2.2.1, h4', h5', g_X3, a1, am_ob_s, List.tail_cons, List.tail_nil, Option.toList_some, Option.toList_none, List.nil_append, List.cons_append, List.length_nil, List.length_cons, Nat.zero_le, true_and, and_true, true_implies, false_implies, not_true_eq_false, not_false_eq_true, implies_true, or_true, true_or, Nat.reduceAdd, Nat.reduceLeDiff]
end SX5
