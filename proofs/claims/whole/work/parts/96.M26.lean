/-! The reference: run -/
section SM26
variable {s : am_S} {Z : pSg}
/-- what a step of the reference needs -/
def cdS (Z : pSg) : Prop := okRR Z.2.2.2.1.2.2.2.1 Z.2.2.2.1.2.2.2.2.1 (Z.2.1 0).1 ∧ ∀ F ∈ Z.2.2.2.1.1, okRF ((Z.2.1 0).2.1 F.1).2.1 F
set_option maxHeartbeats 1000000 in
theorem m_step (hZ : MdC s Z) (hP : okP (Z.2.1 0)) (h1 : Z.2.2.2.1.2.1 = 1) (hR : cdR Z) (hS : cdM Z) : ∃ s', (∀ (k n : Nat) (Q : Option Value → am_H → Prop), am_W m_M_run 36 [.ref 308, .int (nI n), .int (nI k)] [] (TP, s) Q ↔ am_W m_M_run 56 [.ref 308, .int (nI n), .int (nI (k + 1))] [] (TP, s') Q) ∧ MdC s' (pStep1 Z) ∧ off 308 335 s s' := by
  obtain ⟨F, R, e, e1, e2, e3, e4, e5⟩ := hR
  have hN := hZ.2.2.2.2.1
  have g0 := (hZ.2.2.2.1 0 (by omega)).1
  obtain ⟨D, P, w, ⟨FS, ρ⟩, am⟩ := Z
  dsimp only at e1 e2 e4 e5 h1 hN g0
  subst e1
  obtain ⟨s1, FS', a1, a2, a3, a4⟩ := e_M_step hN h1 g0 hP e2 e3 e4 hS.2.1 hS.2.2.1 e5
  have ep : pStep1 (D, P, w, (F :: R, ρ), am) = (D, P, w, pOp (P 0) e (F.1, F.2.1 + 1, F.2.2) R ρ, am) := by
    unfold pStep1
    dsimp only
    rw [e2]
  rw [ep]
  generalize pOp (P 0) e (F.1, F.2.1 + 1, F.2.2) R ρ = σ at a2 a4
  obtain ⟨FS2, τ⟩ := σ
  dsimp only at a2 a4
  have hst : s1 308 19 = τ.1 := a2.2.2.2.1
  rcases a4 with ⟨b1, b2⟩ | ⟨b1, b2⟩
  · rw [b2] at a2
    refine ⟨s1, fun k n Q => ?_, MdC_r hZ a3 a2, mR_off a3⟩
    simp only [k_M_run_36, k_M_run_37, k_M_run_40, k_M_run_43, k_M_run_44, k_M_run_47, k_M_run_48, rc_M, a1, g_M0, g_M1, g_M2, g_M3, g_M4, g_M5, g_M6, g_M7, g_M8, g_M9, g_M10, g_M11, g_M12, g_M13, g_M14, g_M15, g_M16, g_M17, g_M18, g_M19, g_M20, g_M21, g_M22, g_M23, g_M24, g_M25, g_M26, g_M27, g_M28, g_M29, g_M30, g_M31, g_M32, g_M33, hst, b1, nI_1, am_ob_s, List.tail_cons, List.tail_nil, Option.toList_some, Option.toList_none, List.nil_append, List.cons_append, List.length_nil, List.length_cons, Nat.zero_le, true_and, and_true, true_implies, false_implies, not_true_eq_false, not_false_eq_true, implies_true, or_true, true_or, Nat.reduceAdd, Nat.reduceLeDiff]
  · have N0 := MnC_0 a2
    have mr : mR s (am_wr s1 308 21 0) := mR_tr a3 (mR_w8 _ (by omega))
    rw [b2]
    refine ⟨am_wr s1 308 21 0, fun k n Q => ?_, MdC_r hZ mr N0, mR_off mr⟩
    simp only [k_M_run_36, k_M_run_37, k_M_run_40, k_M_run_43, k_M_run_44, k_M_run_47, k_M_run_48, k_M_run_51, k_M_run_52, k_M_run_53, rc_M, a1, g_M0, g_M1, g_M2, g_M3, g_M4, g_M5, g_M6, g_M7, g_M8, g_M9, g_M10, g_M11, g_M12, g_M13, g_M14, g_M15, g_M16, g_M17, g_M18, g_M19, g_M20, g_M21, g_M22, g_M23, g_M24, g_M25, g_M26, g_M27, g_M28, g_M29, g_M30, g_M31, g_M32, g_M33, hst, b1, p_M21, nI_1, am_ob_s, List.tail_cons, List.tail_nil, Option.toList_some, Option.toList_none, List.nil_append, List.cons_append, List.length_nil, List.length_cons, Nat.zero_le, true_and, and_true, true_implies, false_implies, not_true_eq_false, not_false_eq_true, implies_true, or_true, true_or, Nat.reduceAdd, Nat.reduceLeDiff]
theorem e_M_run {I : pSg → Prop} (hI : ∀ Z, I Z → cdM Z ∧ okP (Z.2.1 0)) (hI2 : ∀ Z, I Z → 0 < Z.2.2.1 → ¬ pHas Z.2.2.2.1.1 (Z.2.1 1).2.2.2.2 → I (pAp1 Z)) (hI4 : ∀ Z, I Z → Z.2.2.2.1.2.1 = 1 → cdR Z ∧ I (pStep1 Z)) (hI5 : ∀ Z, I Z → I (pAp 3 Z)) (hZ : MdC s Z) (hIZ : I Z) (n : Int32) : mS f_M_run [.ref 308, .int n] s (pRun Z n) := by
  have hst := hZ.2.2.2.2.1.2.2.2.1
  have no : (n < 1 ∨ 300 < n ∨ ¬ Z.2.2.2.1.2.1 = 1) → (∀ Q : Option Value → am_H → Prop, am_C f_M_run [.ref 308, .int n] (TP, s) Q ↔ Q (some (.int (-1))) (TP, s)) → mS f_M_run [.ref 308, .int n] s (pRun Z n) := fun q1 q2 => by
    unfold pRun
    rw [zif_t q1]
    exact ⟨s, q2, hZ, off_rf _ _ _⟩
  rcases (Classical.em (Z.2.2.2.1.2.1 = 1)).symm with h3 | h3
  · exact no (Or.inr (Or.inr h3)) (fun Q => by
      rw [c_M_run]
      simp only [k_M_run_0, k_M_run_1, k_M_run_4, k_M_run_5, k_M_run_8, k_M_run_9, k_M_run_10, k_M_run_13, k_M_run_16, k_M_run_19, k_M_run_20, g_M0, g_M1, g_M2, g_M3, g_M4, g_M5, g_M6, g_M7, g_M8, g_M9, g_M10, g_M11, g_M12, g_M13, g_M14, g_M15, g_M16, g_M17, g_M18, g_M19, g_M20, g_M21, g_M22, g_M23, g_M24, g_M25, g_M26, g_M27, g_M28, g_M29, g_M30, g_M31, g_M32, g_M33, hst, h3, am_ob_s, List.tail_cons, List.tail_nil, Option.toList_some, Option.toList_none, List.nil_append, List.cons_append, List.length_nil, List.length_cons, Nat.zero_le, true_and, and_true, true_implies, false_implies, not_true_eq_false, not_false_eq_true, implies_true, or_true, true_or, Nat.reduceAdd, Nat.reduceLeDiff])
  rcases (Classical.em (¬ n < 1 ∧ ¬ 300 < n)).symm with h1 | h1
  · refine no ?_ (fun Q => by
      rw [c_M_run]
      simp only [k_M_run_0, k_M_run_1, k_M_run_4, k_M_run_5, k_M_run_8, k_M_run_9, k_M_run_10, k_M_run_13, k_M_run_16, k_M_run_19, k_M_run_20, g_M0, g_M1, g_M2, g_M3, g_M4, g_M5, g_M6, g_M7, g_M8, g_M9, g_M10, g_M11, g_M12, g_M13, g_M14, g_M15, g_M16, g_M17, g_M18, g_M19, g_M20, g_M21, g_M22, g_M23, g_M24, g_M25, g_M26, g_M27, g_M28, g_M29, g_M30, g_M31, g_M32, g_M33, hst, h3, rc_n, e_M_in, zb_f h1, am_ob_s, List.tail_cons, List.tail_nil, Option.toList_some, Option.toList_none, List.nil_append, List.cons_append, List.length_nil, List.length_cons, Nat.zero_le, true_and, and_true, true_implies, false_implies, not_true_eq_false, not_false_eq_true, implies_true, or_true, true_or, Nat.reduceAdd, Nat.reduceLeDiff])
    by_cases q : n < 1
    · exact Or.inl q
    · exact Or.inr (Or.inl (Classical.byContradiction (fun q2 => h1 ⟨q, q2⟩)))
  obtain ⟨n', hn', rfl⟩ := nI_of2 (M := 300) (n := 300) (by decide) (fun q => h1.1 (Int32.lt_trans q (by decide))) (Int32.not_lt.mp h1.2)
  have loop : ∀ (r k : Nat), k + r = n' → ∀ (s : am_S) (Z : pSg), MdC s Z → I Z → ∃ s', (∀ Q : Option Value → am_H → Prop, am_W m_M_run 23 [.ref 308, .int (nI n'), .int (nI k)] [] (TP, s) Q ↔ Q (some (.int (pLoop k r Z).1)) (TP, s')) ∧ MdC s' (pLoop k r Z).2 ∧ off 308 335 s s' := by
    intro r
    induction r with
    | zero =>
      intro k hk s Z hZ _
      have q1 : nI n' ≤ nI k := nI_le (by omega) (by omega)
      refine ⟨s, fun Q => ?_, hZ, off_rf _ _ _⟩
      rw [k_M_run_23]
      simp only [k_M_run_24, k_M_run_25, k_M_run_63, k_M_run_64, q1, pLoop, am_ob_s, List.tail_cons, List.tail_nil, Option.toList_some, Option.toList_none, List.nil_append, List.cons_append, List.length_nil, List.length_cons, Nat.zero_le, true_and, and_true, true_implies, false_implies, not_true_eq_false, not_false_eq_true, implies_true, or_true, true_or, Nat.reduceAdd, Nat.reduceLeDiff]
    | succ r ih =>
      intro k hk s Z hZ hIZ
      have q1 : ¬ nI n' ≤ nI k := nI_ge (by omega) (by omega)
      have hst := hZ.2.2.2.2.1.2.2.2.1
      by_cases h3 : Z.2.2.2.1.2.1 = 1
      · obtain ⟨i1, i2⟩ := hI Z hIZ
        obtain ⟨i3, i4⟩ := hI4 Z hIZ h3
        obtain ⟨s1, a1, a2, a3⟩ := m_step hZ i2 h3 i3 i1
        obtain ⟨s2, b1, b2, b3⟩ := e_M_settle (fun Z hZ => (hI Z hZ).1) hI2 a2 i4
        obtain ⟨s3, c1, c2, c3⟩ := ih (k + 1) (by omega) s2 _ b2 (hI5 _ i4)
        have ep : pLoop k (r + 1) Z = pLoop (k + 1) r (pAp 3 (pStep1 Z)) := by rw [pLoop, zif_t h3]
        rw [ep]
        refine ⟨s3, fun Q => ?_, c2, off_tr (off_tr a3 b3) c3⟩
        rw [k_M_run_23]
        simp only [k_M_run_24, k_M_run_25, k_M_run_28, k_M_run_29, k_M_run_32, k_M_run_33, g_M0, g_M1, g_M2, g_M3, g_M4, g_M5, g_M6, g_M7, g_M8, g_M9, g_M10, g_M11, g_M12, g_M13, g_M14, g_M15, g_M16, g_M17, g_M18, g_M19, g_M20, g_M21, g_M22, g_M23, g_M24, g_M25, g_M26, g_M27, g_M28, g_M29, g_M30, g_M31, g_M32, g_M33, q1, hst, h3, am_ob_s, List.tail_cons, List.tail_nil, Option.toList_some, Option.toList_none, List.nil_append, List.cons_append, List.length_nil, List.length_cons, Nat.zero_le, true_and, and_true, true_implies, false_implies, not_true_eq_false, not_false_eq_true, implies_true, or_true, true_or, Nat.reduceAdd, Nat.reduceLeDiff]
        rw [a1]
        simp only [k_M_run_56, k_M_run_57, k_M_run_60, rc_M, b1, am_ob_s, List.tail_cons, List.tail_nil, Option.toList_some, Option.toList_none, List.nil_append, List.cons_append, List.length_nil, List.length_cons, Nat.zero_le, true_and, and_true, true_implies, false_implies, not_true_eq_false, not_false_eq_true, implies_true, or_true, true_or, Nat.reduceAdd, Nat.reduceLeDiff]
        exact c1 Q
      · have ep : pLoop k (r + 1) Z = (nI k, Z) := by rw [pLoop, zif_f h3]
        rw [ep]
        refine ⟨s, fun Q => ?_, hZ, off_rf _ _ _⟩
        rw [k_M_run_23]
        simp only [k_M_run_24, k_M_run_25, k_M_run_28, k_M_run_29, k_M_run_32, k_M_run_33, k_M_run_63, k_M_run_64, g_M0, g_M1, g_M2, g_M3, g_M4, g_M5, g_M6, g_M7, g_M8, g_M9, g_M10, g_M11, g_M12, g_M13, g_M14, g_M15, g_M16, g_M17, g_M18, g_M19, g_M20, g_M21, g_M22, g_M23, g_M24, g_M25, g_M26, g_M27, g_M28, g_M29, g_M30, g_M31, g_M32, g_M33, q1, hst, h3, am_ob_s, List.tail_cons, List.tail_nil, Option.toList_some, Option.toList_none, List.nil_append, List.cons_append, List.length_nil, List.length_cons, Nat.zero_le, true_and, and_true, true_implies, false_implies, not_true_eq_false, not_false_eq_true, implies_true, or_true, true_or, Nat.reduceAdd, Nat.reduceLeDiff]
  obtain ⟨s', c1, c2, c3⟩ := loop n' 0 (by omega) s Z hZ hIZ
  rw [nI_0] at c1
  unfold pRun
  rw [zif_f (fun q => q.elim h1.1 (fun q => q.elim h1.2 (fun q => q h3))), cN_nI (by omega)]
  refine ⟨s', fun Q => ?_, c2, c3⟩
  rw [c_M_run]
  simp only [k_M_run_0, k_M_run_1, k_M_run_4, k_M_run_5, k_M_run_8, k_M_run_9, k_M_run_10, k_M_run_13, k_M_run_16, k_M_run_19, k_M_run_20, k_M_run_21, k_M_run_22, g_M0, g_M1, g_M2, g_M3, g_M4, g_M5, g_M6, g_M7, g_M8, g_M9, g_M10, g_M11, g_M12, g_M13, g_M14, g_M15, g_M16, g_M17, g_M18, g_M19, g_M20, g_M21, g_M22, g_M23, g_M24, g_M25, g_M26, g_M27, g_M28, g_M29, g_M30, g_M31, g_M32, g_M33, hst, h3, rc_n, e_M_in, zb_t h1, hz10, am_ob_s, List.tail_cons, List.tail_nil, Option.toList_some, Option.toList_none, List.nil_append, List.cons_append, List.length_nil, List.length_cons, Nat.zero_le, true_and, and_true, true_implies, false_implies, not_true_eq_false, not_false_eq_true, implies_true, or_true, true_or, Nat.reduceAdd, Nat.reduceLeDiff]
  exact c1 Q
end SM26
