/-! The class: run, and the answers -/
def pStep1 (Z : pSg) : pSg := match Z.2.2.2.1.1 with
  | [] => Z
  | F :: R => match ((Z.2.1 0).2.1 F.1).2.2.2[F.2.1]? with
    | none => Z
    | some e => (Z.1, Z.2.1, Z.2.2.1, pOp (Z.2.1 0) e (F.1, F.2.1 + 1, F.2.2) R Z.2.2.2.1.2, Z.2.2.2.2)
noncomputable def pLoop : Nat → Nat → pSg → Int32 × pSg
  | k, 0, Z => (nI k, Z)
  | k, r + 1, Z => zif (Z.2.2.2.1.2.1 = 1) (pLoop (k + 1) r (pAp 3 (pStep1 Z))) (nI k, Z)
noncomputable def pRun (Z : pSg) (n : Int32) : Int32 × pSg := zif (n < 1 ∨ 300 < n ∨ ¬ Z.2.2.2.1.2.1 = 1) (-1, Z) (pLoop 0 (cN n) Z)
/-- what a step needs -/
def cdR (Z : pSg) : Prop := ∃ F R e, Z.2.2.2.1.1 = F :: R ∧ ((Z.2.1 0).2.1 F.1).2.2.2[F.2.1]? = some e ∧ okE e ∧ pSh (Z.2.1 0) e (F.1, F.2.1 + 1, F.2.2) R ∧ ∀ j, j ∈ pLs (Z.2.1 0) ((F.1, F.2.1 + 1, F.2.2) :: R) Z.2.2.2.1.2.2.2.1 Z.2.2.2.1.2.2.2.2.1 → Z.2.2.2.1.2.2.2.1 j ≠ 0
section SX6
variable {s : am_S} {Z : pSg} {Q : Option Value → am_H → Prop}
theorem x_step (hZ : ClC s Z) (hA : cdA Z) (hP : okP (Z.2.1 0)) (hR : cdR Z) {f : Nat} (h4 : f < 4) (g0 : PgC s (52 + 49 * f) (Z.2.1 0)) : ∃ s', (∀ Q : Option Value → am_H → Prop, am_C f_U_step [.ref 250, .ref (52 + 49 * f)] (TP, s) Q ↔ Q none (TP, s')) ∧ ClC s' (pStep1 Z) ∧ off 0 308 s s' := by
  obtain ⟨F, R, e, e1, e2, e3, e4, e5⟩ := hR
  have hr := ClC_r hZ
  obtain ⟨D, P, w, ⟨FS, ρ⟩, am⟩ := Z
  dsimp only at e1 e2 e4 e5
  subst e1
  obtain ⟨s1, a1, a2, a3⟩ := e_U_step hr (bQ_P h4) g0 hA.1 hA.2.1 (fun m hm => (hP.1 m hm).1) e5 e2 e3 e4
  refine ⟨s1, a1, ?_, off_up a3 (by omega) (by omega)⟩
  have := ClC_run hZ a3 a2
  unfold pStep1
  dsimp only
  rw [e2]
  exact this
set_option maxHeartbeats 1000000 in
theorem e_X_run {I : pSg → Prop} (hI : ∀ Z, I Z → cdA Z ∧ okP (Z.2.1 0)) (hI2 : ∀ Z, I Z → 0 < Z.2.2.1 → ¬ pHas Z.2.2.2.1.1 (Z.2.1 1).2.2.2.2 → I (pAp1 Z)) (hI4 : ∀ Z, I Z → Z.2.2.2.1.2.1 = 1 → cdR Z ∧ I (pStep1 Z)) (hI5 : ∀ Z, I Z → I (pAp 3 Z)) (hZ : ClC s Z) (hIZ : I Z) (n : Int32) : xS f_X_run [.ref 0, .int n] s (pRun Z n) := by
  have hR := ClC_r hZ
  have hst := hR.2.2.2.1
  have no : (n < 1 ∨ 300 < n ∨ ¬ Z.2.2.2.1.2.1 = 1) → (∀ Q : Option Value → am_H → Prop, am_C f_X_run [.ref 0, .int n] (TP, s) Q ↔ Q (some (.int (-1))) (TP, s)) → xS f_X_run [.ref 0, .int n] s (pRun Z n) := fun q1 q2 => by
    unfold pRun
    rw [zif_t q1]
    exact ⟨s, q2, hZ, off_rf _ _ _⟩
  by_cases h1 : n < 1
  · exact no (Or.inl h1) (fun Q => by
      rw [c_X_run]
      simp only [k_X_run_0, k_X_run_1, k_X_run_2, k_X_run_5, k_X_run_6, k_X_run_9, k_X_run_12, k_X_run_13, k_X_run_16, k_X_run_19, k_X_run_22, k_X_run_23, h1, am_ob_s, List.tail_cons, List.tail_nil, Option.toList_some, Option.toList_none, List.nil_append, List.cons_append, List.length_nil, List.length_cons, Nat.zero_le, true_and, and_true, true_implies, false_implies, not_true_eq_false, not_false_eq_true, implies_true, or_true, true_or, Nat.reduceAdd, Nat.reduceLeDiff])
  by_cases h2 : 300 < n
  · exact no (Or.inr (Or.inl h2)) (fun Q => by
      rw [c_X_run]
      simp only [k_X_run_0, k_X_run_1, k_X_run_2, k_X_run_5, k_X_run_6, k_X_run_9, k_X_run_12, k_X_run_13, k_X_run_16, k_X_run_19, k_X_run_22, k_X_run_23, h1, h2, am_ob_s, List.tail_cons, List.tail_nil, Option.toList_some, Option.toList_none, List.nil_append, List.cons_append, List.length_nil, List.length_cons, Nat.zero_le, true_and, and_true, true_implies, false_implies, not_true_eq_false, not_false_eq_true, implies_true, or_true, true_or, Nat.reduceAdd, Nat.reduceLeDiff])
  rcases (Classical.em (Z.2.2.2.1.2.1 = 1)).symm with h3 | h3
  · exact no (Or.inr (Or.inr h3)) (fun Q => by
      rw [c_X_run]
      simp only [k_X_run_0, k_X_run_1, k_X_run_2, k_X_run_5, k_X_run_6, k_X_run_9, k_X_run_12, k_X_run_13, k_X_run_16, k_X_run_19, k_X_run_22, k_X_run_23, h1, h2, g_X3, rc_U, e_U_goesOn, hst, zb_f h3, am_ob_s, List.tail_cons, List.tail_nil, Option.toList_some, Option.toList_none, List.nil_append, List.cons_append, List.length_nil, List.length_cons, Nat.zero_le, true_and, and_true, true_implies, false_implies, not_true_eq_false, not_false_eq_true, implies_true, or_true, true_or, Nat.reduceAdd, Nat.reduceLeDiff])
  obtain ⟨n', hn', rfl⟩ := nI_of2 (M := 300) (n := 300) (by decide) (fun q => h1 (Int32.lt_trans q (by decide))) (Int32.not_lt.mp h2)
  have loop : ∀ (r k : Nat), k + r = n' → ∀ (s : am_S) (Z : pSg), ClC s Z → I Z → ∀ (jk : List Value), ∃ s', (∀ Q : Option Value → am_H → Prop, am_W m_X_run 26 (.ref 0 :: .int (nI n') :: .int (nI k) :: jk) [] (TP, s) Q ↔ Q (some (.int (pLoop k r Z).1)) (TP, s')) ∧ ClC s' (pLoop k r Z).2 ∧ off 0 308 s s' := by
    intro r
    induction r with
    | zero =>
      intro k hk s Z hZ _ jk
      have q1 : nI n' ≤ nI k := nI_le (by omega) (by omega)
      refine ⟨s, fun Q => ?_, hZ, off_rf _ _ _⟩
      rw [k_X_run_26]
      simp only [k_X_run_27, k_X_run_28, k_X_run_65, k_X_run_66, q1, pLoop, am_ob_s, List.tail_cons, List.tail_nil, Option.toList_some, Option.toList_none, List.nil_append, List.cons_append, List.length_nil, List.length_cons, Nat.zero_le, true_and, and_true, true_implies, false_implies, not_true_eq_false, not_false_eq_true, implies_true, or_true, true_or, Nat.reduceAdd, Nat.reduceLeDiff]
    | succ r ih =>
      intro k hk s Z hZ hIZ jk
      have q1 : ¬ nI n' ≤ nI k := nI_ge (by omega) (by omega)
      have hst := (ClC_r hZ).2.2.2.1
      by_cases h3 : Z.2.2.2.1.2.1 = 1
      · obtain ⟨f, w1, w2, g0⟩ := ClC_0 hZ
        obtain ⟨i1, i2⟩ := hI Z hIZ
        obtain ⟨i3, i4⟩ := hI4 Z hIZ h3
        obtain ⟨s1, a1, a2, a3⟩ := x_step hZ i1 i2 i3 w1 g0
        obtain ⟨s2, b1, b2, b3⟩ := e_X_applyWhatCan (fun Z hZ => (hI Z hZ).1) hI2 a2 i4
        obtain ⟨s3, c1, c2, c3⟩ := ih (k + 1) (by omega) s2 _ b2 (hI5 _ i4) jk
        have ep : pLoop k (r + 1) Z = pLoop (k + 1) r (pAp 3 (pStep1 Z)) := by rw [pLoop, zif_t h3]
        rw [ep]
        refine ⟨s3, fun Q => ?_, c2, off_tr (off_tr a3 b3) c3⟩
        rw [k_X_run_26]
        simp only [k_X_run_27, k_X_run_28, k_X_run_31, k_X_run_32, k_X_run_35, k_X_run_38, k_X_run_41, k_X_run_42, k_X_run_45, k_X_run_46, k_X_run_49, k_X_run_52, k_X_run_55, k_X_run_56, k_X_run_59, k_X_run_62, q1, g_X3, g_X1, rc_U, rc_Q, rc_X, e_U_goesOn, hst, zb_t h3, hz10, e_Q_present w2 w1, a1, b1, nI_1, am_ob_s, List.tail_cons, List.tail_nil, Option.toList_some, Option.toList_none, List.nil_append, List.cons_append, List.length_nil, List.length_cons, Nat.zero_le, true_and, and_true, true_implies, false_implies, not_true_eq_false, not_false_eq_true, implies_true, or_true, true_or, Nat.reduceAdd, Nat.reduceLeDiff]
        exact c1 Q
      · have ep : pLoop k (r + 1) Z = (nI k, Z) := by rw [pLoop, zif_f h3]
        rw [ep]
        refine ⟨s, fun Q => ?_, hZ, off_rf _ _ _⟩
        rw [k_X_run_26]
        simp only [k_X_run_27, k_X_run_28, k_X_run_31, k_X_run_32, k_X_run_35, k_X_run_38, k_X_run_65, k_X_run_66, q1, g_X3, rc_U, e_U_goesOn, hst, zb_f h3, am_ob_s, List.tail_cons, List.tail_nil, Option.toList_some, Option.toList_none, List.nil_append, List.cons_append, List.length_nil, List.length_cons, Nat.zero_le, true_and, and_true, true_implies, false_implies, not_true_eq_false, not_false_eq_true, implies_true, or_true, true_or, Nat.reduceAdd, Nat.reduceLeDiff]
  obtain ⟨s', c1, c2, c3⟩ := loop n' 0 (by omega) s Z hZ hIZ []
  rw [nI_0] at c1
  unfold pRun
  rw [zif_f (fun q => q.elim h1 (fun q => q.elim h2 (fun q => q h3))), cN_nI (by omega)]
  refine ⟨s', fun Q => ?_, c2, c3⟩
  rw [c_X_run]
  simp only [k_X_run_0, k_X_run_1, k_X_run_2, k_X_run_5, k_X_run_6, k_X_run_9, k_X_run_12, k_X_run_13, k_X_run_16, k_X_run_19, k_X_run_22, k_X_run_23, k_X_run_24, k_X_run_25, h1, h2, g_X3, rc_U, e_U_goesOn, hst, zb_t h3, hz10, am_ob_s, List.tail_cons, List.tail_nil, Option.toList_some, Option.toList_none, List.nil_append, List.cons_append, List.length_nil, List.length_cons, Nat.zero_le, true_and, and_true, true_implies, false_implies, not_true_eq_false, not_false_eq_true, implies_true, or_true, true_or, Nat.reduceAdd, Nat.reduceLeDiff]
  exact c1 Q
theorem e_X_waiting (hZ : ClC s Z) : am_C f_X_waiting [.ref 0] (TP, s) Q ↔ Q (some (.int (nI Z.2.2.1))) (TP, s) := by
  obtain ⟨f, w1, w2, w3, w4⟩ := hZ
  rw [c_X_waiting]
  simp only [k_X_waiting_0, k_X_waiting_1, k_X_waiting_4, k_X_waiting_7, g_X1, g_Q2, w3, am_ob_s, List.tail_cons, List.tail_nil, Option.toList_some, Option.toList_none, List.nil_append, List.cons_append, List.length_nil, List.length_cons, Nat.zero_le, true_and, and_true, true_implies, false_implies, not_true_eq_false, not_false_eq_true, implies_true, or_true, true_or, Nat.reduceAdd, Nat.reduceLeDiff]
noncomputable def pRestr (Z : pSg) : Int32 := zif (Z.2.2.1 = 0) 0 (Z.2.1 1).2.2.2.2
theorem e_X_restricted (hZ : ClC s Z) : am_C f_X_restricted [.ref 0] (TP, s) Q ↔ Q (some (.int (pRestr Z))) (TP, s) := by
  obtain ⟨f, w1, w2, w3, w4, hD, w6, w7⟩ := hZ
  rw [c_X_restricted]
  unfold pRestr
  by_cases h : Z.2.2.1 = 0
  · have h0 : nI Z.2.2.1 = 0 := by rw [h]; rfl
    rw [zif_t h]
    simp only [k_X_restricted_0, k_X_restricted_1, k_X_restricted_4, k_X_restricted_7, k_X_restricted_10, k_X_restricted_11, k_X_restricted_14, k_X_restricted_15, k_X_restricted_18, k_X_restricted_21, k_X_restricted_24, g_X1, g_Q2, w3, h0, am_ob_s, List.tail_cons, List.tail_nil, Option.toList_some, Option.toList_none, List.nil_append, List.cons_append, List.length_nil, List.length_cons, Nat.zero_le, true_and, and_true, true_implies, false_implies, not_true_eq_false, not_false_eq_true, implies_true, or_true, true_or, Nat.reduceAdd, Nat.reduceLeDiff]
  · have h0 : ¬ nI Z.2.2.1 = 0 := nI_ne0 (by omega) (by omega)
    have hq := bQ_P (Nat.mod_lt (f + 1) (show 4 > 0 by decide))
    have g1 := w6 1 (by omega)
    rw [zif_f h]
    simp only [k_X_restricted_0, k_X_restricted_1, k_X_restricted_4, k_X_restricted_7, k_X_restricted_10, k_X_restricted_11, k_X_restricted_14, k_X_restricted_15, k_X_restricted_18, k_X_restricted_21, k_X_restricted_24, g_X1, g_Q2, w3, h0, rc_Q, e_Q_firstWaiting w2 w1, g_P4 hq, g1.2.2.2.2, am_ob_s, List.tail_cons, List.tail_nil, Option.toList_some, Option.toList_none, List.nil_append, List.cons_append, List.length_nil, List.length_cons, Nat.zero_le, true_and, and_true, true_implies, false_implies, not_true_eq_false, not_false_eq_true, implies_true, or_true, true_or, Nat.reduceAdd, Nat.reduceLeDiff]
theorem e_X_applied (hZ : ClC s Z) : am_C f_X_applied [.ref 0] (TP, s) Q ↔ Q (some (.int Z.2.2.2.2.1)) (TP, s) := by
  obtain ⟨f, w1, w2, w3, w4, hD, w6, w7, w8, w9⟩ := hZ
  rw [c_X_applied]
  simp only [k_X_applied_0, k_X_applied_1, k_X_applied_4, g_X4, w8, am_ob_s, List.tail_cons, List.tail_nil, Option.toList_some, Option.toList_none, List.nil_append, List.cons_append, List.length_nil, List.length_cons, Nat.zero_le, true_and, and_true, true_implies, false_implies, not_true_eq_false, not_false_eq_true, implies_true, or_true, true_or, Nat.reduceAdd, Nat.reduceLeDiff]
theorem e_X_moved (hZ : ClC s Z) : am_C f_X_moved [.ref 0] (TP, s) Q ↔ Q (some (.int Z.2.2.2.2.2)) (TP, s) := by
  obtain ⟨f, w1, w2, w3, w4, hD, w6, w7, w8, w9, w10⟩ := hZ
  rw [c_X_moved]
  simp only [k_X_moved_0, k_X_moved_1, k_X_moved_4, g_X5, w9, am_ob_s, List.tail_cons, List.tail_nil, Option.toList_some, Option.toList_none, List.nil_append, List.cons_append, List.length_nil, List.length_cons, Nat.zero_le, true_and, and_true, true_implies, false_implies, not_true_eq_false, not_false_eq_true, implies_true, or_true, true_or, Nat.reduceAdd, Nat.reduceLeDiff]
theorem e_X_status (hZ : ClC s Z) : am_C f_X_status [.ref 0] (TP, s) Q ↔ Q (some (.int Z.2.2.2.1.2.1)) (TP, s) := by
  have h := (ClC_r hZ).2.2.2.1
  rw [c_X_status]
  simp only [k_X_status_0, k_X_status_1, k_X_status_4, k_X_status_7, g_X3, g_U4, h, am_ob_s, List.tail_cons, List.tail_nil, Option.toList_some, Option.toList_none, List.nil_append, List.cons_append, List.length_nil, List.length_cons, Nat.zero_le, true_and, and_true, true_implies, false_implies, not_true_eq_false, not_false_eq_true, implies_true, or_true, true_or, Nat.reduceAdd, Nat.reduceLeDiff]
theorem e_X_result (hZ : ClC s Z) : am_C f_X_result [.ref 0] (TP, s) Q ↔ Q (some (.int Z.2.2.2.1.2.2.1)) (TP, s) := by
  have h := (ClC_r hZ).2.2.2.2.1
  rw [c_X_result]
  simp only [k_X_result_0, k_X_result_1, k_X_result_4, k_X_result_7, g_X3, g_U5, h, am_ob_s, List.tail_cons, List.tail_nil, Option.toList_some, Option.toList_none, List.nil_append, List.cons_append, List.length_nil, List.length_cons, Nat.zero_le, true_and, and_true, true_implies, false_implies, not_true_eq_false, not_false_eq_true, implies_true, or_true, true_or, Nat.reduceAdd, Nat.reduceLeDiff]
theorem e_X_depth (hZ : ClC s Z) : am_C f_X_depth [.ref 0] (TP, s) Q ↔ Q (some (.int (nI Z.2.2.2.1.1.length))) (TP, s) := by
  have h := (ClC_r hZ).1
  rw [c_X_depth]
  simp only [k_X_depth_0, k_X_depth_1, k_X_depth_4, k_X_depth_7, g_X3, g_U3, h, am_ob_s, List.tail_cons, List.tail_nil, Option.toList_some, Option.toList_none, List.nil_append, List.cons_append, List.length_nil, List.length_cons, Nat.zero_le, true_and, and_true, true_implies, false_implies, not_true_eq_false, not_false_eq_true, implies_true, or_true, true_or, Nat.reduceAdd, Nat.reduceLeDiff]
theorem e_X_objects (hZ : ClC s Z) : am_C f_X_objects [.ref 0] (TP, s) Q ↔ Q (some (.int (nI (cnt Z.2.2.2.1.2.2.2.1 16)))) (TP, s) := by
  have h := (ClC_r hZ).2.2.2.2.2.2.1
  rw [c_X_objects]
  simp only [k_X_objects_0, k_X_objects_1, k_X_objects_4, k_X_objects_7, k_X_objects_10, g_X3, g_U1, g_H6, h, am_ob_s, List.tail_cons, List.tail_nil, Option.toList_some, Option.toList_none, List.nil_append, List.cons_append, List.length_nil, List.length_cons, Nat.zero_le, true_and, and_true, true_implies, false_implies, not_true_eq_false, not_false_eq_true, implies_true, or_true, true_or, Nat.reduceAdd, Nat.reduceLeDiff]
theorem e_X_outputs (hZ : ClC s Z) : am_C f_X_outputs [.ref 0] (TP, s) Q ↔ Q (some (.int Z.2.2.2.1.2.2.2.2.2.2)) (TP, s) := by
  have h := (ClC_r hZ).2.2.2.2.2.2.2.2
  rw [c_X_outputs]
  simp only [k_X_outputs_0, k_X_outputs_1, k_X_outputs_4, k_X_outputs_7, k_X_outputs_10, g_X3, g_U2, g_O1, h, am_ob_s, List.tail_cons, List.tail_nil, Option.toList_some, Option.toList_none, List.nil_append, List.cons_append, List.length_nil, List.length_cons, Nat.zero_le, true_and, and_true, true_implies, false_implies, not_true_eq_false, not_false_eq_true, implies_true, or_true, true_or, Nat.reduceAdd, Nat.reduceLeDiff]
noncomputable def pOut (Z : pSg) (v : Int32) : Int32 := zif (v < 0 ∨ 16 ≤ v ∨ ¬ v < Z.2.2.2.1.2.2.2.2.2.2) 0 (Z.2.2.2.1.2.2.2.2.2.1 (Z.2.2.2.1.2.2.2.2.2.2 - 1 - v &&& 15).toNatClampNeg)
theorem e_X_output (hZ : ClC s Z) (v : Int32) : am_C f_X_output [.ref 0, .int v] (TP, s) Q ↔ Q (some (.int (pOut Z v))) (TP, s) := by
  have h := (ClC_r hZ).2.2.2.2.2.2.2
  obtain ⟨j, hj, e⟩ := x16_lt (Z.2.2.2.1.2.2.2.2.2.2 - 1 - v)
  have hv := h.1 j hj
  rw [c_X_output]
  unfold pOut
  rw [e, nI_clamp (by omega), ← hv]
  have ec : (nI j).toNatClampNeg = j := nI_clamp (by omega)
  simp only [k_X_output_0, k_X_output_1, k_X_output_4, k_X_output_7, k_X_output_8, k_X_output_11, g_X3, g_U2, rc_O, e_O_latestBut, h.2, e, ec, am_ob_s, List.tail_cons, List.tail_nil, Option.toList_some, Option.toList_none, List.nil_append, List.cons_append, List.length_nil, List.length_cons, Nat.zero_le, true_and, and_true, true_implies, false_implies, not_true_eq_false, not_false_eq_true, implies_true, or_true, true_or, Nat.reduceAdd, Nat.reduceLeDiff]
noncomputable def pFrame (Z : pSg) (k : Int32) : Int32 := zif (k < 0 ∨ ¬ k < nI Z.2.2.2.1.1.length) (-1) (match Z.2.2.2.1.1[cN k]? with
  | some F => 100 * nI F.1 + nI F.2.1
  | none => -1)
theorem e_X_frame (hZ : ClC s Z) (k : Int32) : am_C f_X_frame [.ref 0, .int k] (TP, s) Q ↔ Q (some (.int (pFrame Z k))) (TP, s) := by
  have h := ClC_r hZ
  have h8 := h.2.1
  rw [c_X_frame]
  unfold pFrame
  by_cases h1 : k < 0
  · rw [zif_t (Or.inl h1)]
    simp only [k_X_frame_0, k_X_frame_1, k_X_frame_4, k_X_frame_5, k_X_frame_6, k_X_frame_9, k_X_frame_12, k_X_frame_15, k_X_frame_16, h1, am_ob_s, List.tail_cons, List.tail_nil, Option.toList_some, Option.toList_none, List.nil_append, List.cons_append, List.length_nil, List.length_cons, Nat.zero_le, true_and, and_true, true_implies, false_implies, not_true_eq_false, not_false_eq_true, implies_true, or_true, true_or, Nat.reduceAdd, Nat.reduceLeDiff]
  · by_cases h2 : k < nI Z.2.2.2.1.1.length
    · obtain ⟨j, hj, rfl⟩ := nI_of h1
      have hjl : j < Z.2.2.2.1.1.length := (nI_ltI hj (by omega)).mp h2
      rw [zif_f (fun q => q.elim h1 (fun q => q h2)), cN_nI (by omega)]
      obtain ⟨F, hF⟩ : ∃ F, Z.2.2.2.1.1[j]? = some F := ⟨_, List.getElem?_eq_getElem hjl⟩
      have hFr : Z.2.2.2.1.1.reverse[Z.2.2.2.1.1.length - 1 - j]? = some F := by
        rw [List.getElem?_reverse (by omega), show Z.2.2.2.1.1.length - 1 - (Z.2.2.2.1.1.length - 1 - j) = j by omega]
        exact hF
      have hFC := h.2.2.1 _ F hFr
      have h88 : Z.2.2.2.1.1.length - 1 - j < 8 := by omega
      have ei : nI Z.2.2.2.1.1.length - 1 - nI j = nI (Z.2.2.2.1.1.length - 1 - j) := by
        have e1 : nI Z.2.2.2.1.1.length = nI (Z.2.2.2.1.1.length - 1 - j) + nI j + 1 := by
          rw [nI_add, nI_1]
          exact congrArg nI (by omega)
        rw [e1]
        simp [Int32.add_sub_cancel]
      rw [hF]
      simp only [k_X_frame_0, k_X_frame_1, k_X_frame_4, k_X_frame_5, k_X_frame_6, k_X_frame_9, k_X_frame_12, k_X_frame_15, k_X_frame_16, k_X_frame_17, k_X_frame_18, k_X_frame_21, k_X_frame_24, k_X_frame_25, k_X_frame_28, k_X_frame_31, k_X_frame_32, k_X_frame_33, k_X_frame_34, k_X_frame_35, k_X_frame_36, k_X_frame_37, k_X_frame_39, k_X_frame_40, k_X_frame_43, k_X_frame_44, k_X_frame_45, k_X_frame_48, k_X_frame_49, h1, h2, g_X3, g_U3, g_U0, h.1, ei, a_U h88, g_F4 (bU_F h88), g_F5 (bU_F h88), hFC.1, hFC.2.1, am_ob_s, List.tail_cons, List.tail_nil, Option.toList_some, Option.toList_none, List.nil_append, List.cons_append, List.length_nil, List.length_cons, Nat.zero_le, true_and, and_true, true_implies, false_implies, not_true_eq_false, not_false_eq_true, implies_true, or_true, true_or, Nat.reduceAdd, Nat.reduceLeDiff]
    · rw [zif_t (Or.inr h2)]
      simp only [k_X_frame_0, k_X_frame_1, k_X_frame_4, k_X_frame_5, k_X_frame_6, k_X_frame_9, k_X_frame_12, k_X_frame_15, k_X_frame_16, h1, h2, g_X3, g_U3, h.1, am_ob_s, List.tail_cons, List.tail_nil, Option.toList_some, Option.toList_none, List.nil_append, List.cons_append, List.length_nil, List.length_cons, Nat.zero_le, true_and, and_true, true_implies, false_implies, not_true_eq_false, not_false_eq_true, implies_true, or_true, true_or, Nat.reduceAdd, Nat.reduceLeDiff]
noncomputable def pShape (Z : pSg) (c k : Int32) : Int32 := zif (isC c) (zif (k = -1) (nI ((Z.2.1 0).1 (cN c)).length) (zif (k < 0 ∨ ¬ k < nI ((Z.2.1 0).1 (cN c)).length) (-1) (match ((Z.2.1 0).1 (cN c))[cN k]? with
  | some e => 16 * nI e.1 + nI e.2.1
  | none => -1))) (-1)
theorem e_X_shape (hZ : ClC s Z) (c k : Int32) : am_C f_X_shape [.ref 0, .int c, .int k] (TP, s) Q ↔ Q (some (.int (pShape Z c k))) (TP, s) := by
  obtain ⟨f, w1, w2, g0⟩ := ClC_0 hZ
  rw [c_X_shape]
  unfold pShape
  by_cases h1 : isC c
  · obtain ⟨ec, k1, k3⟩ := isC_n h1
    have hc4 : cN c < 4 := by omega
    have hq := bQ_P w1
    have hbl := bP_L hq hc4
    have hL := g0.1 _ hc4
    have h4 := hL.2.1
    have ac := fun (s : am_S) => a_Pl (s := s) hq hc4
    rw [← ec] at ac
    rw [zif_t h1]
    by_cases h2 : k = -1
    · rw [zif_t h2]
      simp only [k_X_shape_0, k_X_shape_1, k_X_shape_4, k_X_shape_7, k_X_shape_8, k_X_shape_9, k_X_shape_10, k_X_shape_13, k_X_shape_16, k_X_shape_19, k_X_shape_20, k_X_shape_21, k_X_shape_22, k_X_shape_23, k_X_shape_24, k_X_shape_27, k_X_shape_28, k_X_shape_31, rc_n, rc_Q, e_X_isClass, zb_t h1, hz10, g_X1, e_Q_present w2 w1, g_P0 hq, ac, h2, g_L3 hbl, hL.1, am_ob_s, List.tail_cons, List.tail_nil, Option.toList_some, Option.toList_none, List.nil_append, List.cons_append, List.length_nil, List.length_cons, Nat.zero_le, true_and, and_true, true_implies, false_implies, not_true_eq_false, not_false_eq_true, implies_true, or_true, true_or, Nat.reduceAdd, Nat.reduceLeDiff]
    · rw [zif_f h2]
      by_cases h3 : k < 0
      · rw [zif_t (Or.inl h3)]
        simp only [k_X_shape_0, k_X_shape_1, k_X_shape_4, k_X_shape_7, k_X_shape_8, k_X_shape_9, k_X_shape_10, k_X_shape_13, k_X_shape_16, k_X_shape_19, k_X_shape_20, k_X_shape_21, k_X_shape_22, k_X_shape_23, k_X_shape_24, k_X_shape_27, k_X_shape_28, k_X_shape_31, k_X_shape_32, k_X_shape_33, k_X_shape_36, k_X_shape_37, k_X_shape_38, k_X_shape_41, k_X_shape_44, k_X_shape_45, rc_n, rc_Q, e_X_isClass, zb_t h1, hz10, g_X1, e_Q_present w2 w1, g_P0 hq, ac, h2, h3, am_ob_s, List.tail_cons, List.tail_nil, Option.toList_some, Option.toList_none, List.nil_append, List.cons_append, List.length_nil, List.length_cons, Nat.zero_le, true_and, and_true, true_implies, false_implies, not_true_eq_false, not_false_eq_true, implies_true, or_true, true_or, Nat.reduceAdd, Nat.reduceLeDiff]
      · by_cases h5 : k < nI ((Z.2.1 0).1 (cN c)).length
        · obtain ⟨j, hj, rfl⟩ := nI_of h3
          have hjl : j < ((Z.2.1 0).1 (cN c)).length := (nI_ltI hj (by omega)).mp h5
          have hj4 : j < 4 := by omega
          obtain ⟨e, he⟩ : ∃ e, ((Z.2.1 0).1 (cN c))[j]? = some e := ⟨_, List.getElem?_eq_getElem hjl⟩
          have hv := hL.2.2 j e he
          rw [zif_f (fun q => q.elim h3 (fun q => q h5)), cN_nI (by omega), he]
          simp only [k_X_shape_0, k_X_shape_1, k_X_shape_4, k_X_shape_7, k_X_shape_8, k_X_shape_9, k_X_shape_10, k_X_shape_13, k_X_shape_16, k_X_shape_19, k_X_shape_20, k_X_shape_21, k_X_shape_22, k_X_shape_23, k_X_shape_24, k_X_shape_27, k_X_shape_28, k_X_shape_31, k_X_shape_32, k_X_shape_33, k_X_shape_36, k_X_shape_37, k_X_shape_38, k_X_shape_41, k_X_shape_44, k_X_shape_45, k_X_shape_46, k_X_shape_48, k_X_shape_49, k_X_shape_52, k_X_shape_53, k_X_shape_54, k_X_shape_55, k_X_shape_56, k_X_shape_59, k_X_shape_60, k_X_shape_61, k_X_shape_62, rc_n, rc_Q, e_X_isClass, zb_t h1, hz10, g_X1, e_Q_present w2 w1, g_P0 hq, ac, h2, h3, h5, g_L3 hbl, g_L0 hbl, g_L1 hbl, hL.1, l_L1 hbl hj4, l_L2 hbl hj4, hv.1, hv.2.1, am_ob_s, List.tail_cons, List.tail_nil, Option.toList_some, Option.toList_none, List.nil_append, List.cons_append, List.length_nil, List.length_cons, Nat.zero_le, true_and, and_true, true_implies, false_implies, not_true_eq_false, not_false_eq_true, implies_true, or_true, true_or, Nat.reduceAdd, Nat.reduceLeDiff]
        · rw [zif_t (Or.inr h5)]
          simp only [k_X_shape_0, k_X_shape_1, k_X_shape_4, k_X_shape_7, k_X_shape_8, k_X_shape_9, k_X_shape_10, k_X_shape_13, k_X_shape_16, k_X_shape_19, k_X_shape_20, k_X_shape_21, k_X_shape_22, k_X_shape_23, k_X_shape_24, k_X_shape_27, k_X_shape_28, k_X_shape_31, k_X_shape_32, k_X_shape_33, k_X_shape_36, k_X_shape_37, k_X_shape_38, k_X_shape_41, k_X_shape_44, k_X_shape_45, rc_n, rc_Q, e_X_isClass, zb_t h1, hz10, g_X1, e_Q_present w2 w1, g_P0 hq, ac, h2, h3, h5, g_L3 hbl, hL.1, am_ob_s, List.tail_cons, List.tail_nil, Option.toList_some, Option.toList_none, List.nil_append, List.cons_append, List.length_nil, List.length_cons, Nat.zero_le, true_and, and_true, true_implies, false_implies, not_true_eq_false, not_false_eq_true, implies_true, or_true, true_or, Nat.reduceAdd, Nat.reduceLeDiff]
  · rw [zif_f h1]
    simp only [k_X_shape_0, k_X_shape_1, k_X_shape_4, k_X_shape_7, k_X_shape_8, rc_n, e_X_isClass, zb_f h1, am_ob_s, List.tail_cons, List.tail_nil, Option.toList_some, Option.toList_none, List.nil_append, List.cons_append, List.length_nil, List.length_cons, Nat.zero_le, true_and, and_true, true_implies, false_implies, not_true_eq_false, not_false_eq_true, implies_true, or_true, true_or, Nat.reduceAdd, Nat.reduceLeDiff]
end SX6
