/-! Runner: the step -/
section SU5
variable {s : am_S} {p : Nat} {G : pPg} {F : pFr} {R : List pFr} {ρ : pRh}
set_option maxHeartbeats 1000000 in
theorem e_U_stepOnObjects (h : RnC s (F :: R, ρ)) (hp : p ∈ bsP) (hG : PgC s p G) (hL : okL G.1) (hF : okF (F :: R)) (hlive : ∀ j, j ∈ pLs G (F :: R) ρ.2.2.1 ρ.2.2.2.1 → ρ.2.2.1 j ≠ 0) {e : Nat × Int32 × Nat} (hok : okE e) (hsh : pSh G e F R) (hop : e.1 = 10 ∨ e.1 = 11 ∨ e.1 = 12 ∨ e.1 = 15) : uS f_U_stepOnObjects [.ref 250, .ref (276 + 4 * R.length), .int (nI e.1), .int e.2.1, .int (nI e.2.2), .ref p] s (pOp G e F R ρ) := by
  have t2 := (RnC_top h).2.1
  have hb := bU_F t2
  obtain ⟨op, x, y⟩ := e
  obtain ⟨h16, hy, hx⟩ := hok
  dsimp only at h16 hy hx hop ⊢
  rcases hop with rfl | rfl | rfl | rfl
  · have ht : am_tsw 1 72 10 12 #[27, 38, 55] (nI 10) = 28 := by decide
    have hx := hx.resolve_left (by decide)
    have hk := hx.2.1 (by decide)
    obtain ⟨st, rs, cl, vl, ou, on⟩ := ρ
    obtain ⟨s1, a1, a2, a3⟩ := e_U_makeObject hp hG hL h hF hlive hsh (c := kx (10, x, y)) ⟨hk.1, by omega⟩
    refine ⟨s1, fun Q => ?_, a2, a3⟩
    rw [← hx.1] at a1
    rw [c_U_stepOnObjects]
    simp only [k_U_stepOnObjects_0, k_U_stepOnObjects_1, ht, k_U_stepOnObjects_28, k_U_stepOnObjects_29, k_U_stepOnObjects_30, k_U_stepOnObjects_31, k_U_stepOnObjects_33, k_U_stepOnObjects_36, k_U_stepOnObjects_94, rc_U, a1, am_ob_s, List.tail_cons, List.tail_nil, Option.toList_some, Option.toList_none, List.nil_append, List.cons_append, List.length_nil, List.length_cons, Nat.zero_le, true_and, and_true, true_implies, false_implies, not_true_eq_false, not_false_eq_true, implies_true, or_true, true_or, Nat.reduceAdd, Nat.reduceLeDiff]
  · have ht : am_tsw 1 72 10 12 #[27, 38, 55] (nI 11) = 39 := by decide
    have hx := hx.resolve_left (by decide)
    have hk := hx.2.1 (by decide)
    have hc : kx (11, x, y) < 4 := by omega
    obtain ⟨⟨k, hf⟩, a, S, hS, hr⟩ := hsh
    dsimp only at hf
    obtain ⟨s1, a1, a2, a3⟩ := e_U_readField h (bP_L hp hc) (hG.1 _ hc) hf hS hr
    refine ⟨s1, fun Q => ?_, ?_, a3⟩
    · rw [c_U_stepOnObjects]
      have ex := hx.1
      generalize kx (11, x, y) = c at *
      rw [ex]
      simp only [k_U_stepOnObjects_0, k_U_stepOnObjects_1, ht, k_U_stepOnObjects_39, k_U_stepOnObjects_40, k_U_stepOnObjects_41, k_U_stepOnObjects_43, k_U_stepOnObjects_46, k_U_stepOnObjects_47, k_U_stepOnObjects_48, k_U_stepOnObjects_50, k_U_stepOnObjects_53, k_U_stepOnObjects_94, rc_U, g_P0 hp, a_Pl hp hc, a1, am_ob_s, List.tail_cons, List.tail_nil, Option.toList_some, Option.toList_none, List.nil_append, List.cons_append, List.length_nil, List.length_cons, Nat.zero_le, true_and, and_true, true_implies, false_implies, not_true_eq_false, not_false_eq_true, implies_true, or_true, true_or, Nat.reduceAdd, Nat.reduceLeDiff]
    · show RnC _ (p1 F _ _)
      rw [p1, hS]
      dsimp only
      rw [hf]
      exact a2
  · have ht : am_tsw 1 72 10 12 #[27, 38, 55] (nI 12) = 56 := by decide
    have hx := hx.resolve_left (by decide)
    have hk := hx.2.1 (by decide)
    have hc : kx (12, x, y) < 4 := by omega
    obtain ⟨⟨k, hf⟩, a, b, S, hS, hr⟩ := hsh
    dsimp only at hf
    obtain ⟨s1, a1, a2, a3⟩ := e_U_writeField h (bP_L hp hc) (hG.1 _ hc) hf hS hr
    refine ⟨s1, fun Q => ?_, ?_, a3⟩
    · rw [c_U_stepOnObjects]
      have ex := hx.1
      generalize kx (12, x, y) = c at *
      rw [ex]
      simp only [k_U_stepOnObjects_0, k_U_stepOnObjects_1, ht, k_U_stepOnObjects_56, k_U_stepOnObjects_57, k_U_stepOnObjects_58, k_U_stepOnObjects_60, k_U_stepOnObjects_63, k_U_stepOnObjects_64, k_U_stepOnObjects_65, k_U_stepOnObjects_67, k_U_stepOnObjects_70, k_U_stepOnObjects_94, rc_U, g_P0 hp, a_Pl hp hc, a1, am_ob_s, List.tail_cons, List.tail_nil, Option.toList_some, Option.toList_none, List.nil_append, List.cons_append, List.length_nil, List.length_cons, Nat.zero_le, true_and, and_true, true_implies, false_implies, not_true_eq_false, not_false_eq_true, implies_true, or_true, true_or, Nat.reduceAdd, Nat.reduceLeDiff]
    · show RnC _ (p2 F _ _)
      rw [p2, hS]
      dsimp only
      rw [hf]
      exact a2
  · have ht : am_tsw 1 72 10 12 #[27, 38, 55] (nI 15) = 73 := by decide
    obtain ⟨a, b, S, hS⟩ := hsh
    have h6 : S.length < 6 := by
      have := (RnC_top h).1.2.2.2.2.1
      rw [hS] at this
      simp only [List.length_cons] at this
      omega
    obtain ⟨s1, a1, a2, a3⟩ := u_take h hS
    obtain ⟨s2, b1, b2, b3⟩ := u_take (F := pSk F (b :: S)) a2 (e := b) (S := S) rfl
    obtain ⟨s3, c1, c2, c3⟩ := u_put (F := pSk F S) b2 h6 (if b.1 = a.1 then 1 else 0) 0
    rw [nI_0] at c1
    refine ⟨s3, fun Q => ?_, ?_, off_tr (off_tr a3 b3) c3⟩
    · rw [c_U_stepOnObjects]
      by_cases he : b.1 = a.1
      · rw [if_pos he] at c1
        simp only [k_U_stepOnObjects_0, k_U_stepOnObjects_1, ht, k_U_stepOnObjects_73, k_U_stepOnObjects_74, k_U_stepOnObjects_75, k_U_stepOnObjects_78, k_U_stepOnObjects_79, k_U_stepOnObjects_82, k_U_stepOnObjects_85, k_U_stepOnObjects_86, k_U_stepOnObjects_89, k_U_stepOnObjects_90, k_U_stepOnObjects_91, k_U_stepOnObjects_94, rc_F hb, a1, b1, he, c1, am_ob_s, List.tail_cons, List.tail_nil, Option.toList_some, Option.toList_none, List.nil_append, List.cons_append, List.length_nil, List.length_cons, Nat.zero_le, true_and, and_true, true_implies, false_implies, not_true_eq_false, not_false_eq_true, implies_true, or_true, true_or, Nat.reduceAdd, Nat.reduceLeDiff]
      · have he' : ¬ a.1 = b.1 := fun q => he q.symm
        rw [if_neg he] at c1
        simp only [k_U_stepOnObjects_0, k_U_stepOnObjects_1, ht, k_U_stepOnObjects_73, k_U_stepOnObjects_74, k_U_stepOnObjects_75, k_U_stepOnObjects_78, k_U_stepOnObjects_79, k_U_stepOnObjects_82, k_U_stepOnObjects_85, k_U_stepOnObjects_86, k_U_stepOnObjects_89, k_U_stepOnObjects_90, k_U_stepOnObjects_91, k_U_stepOnObjects_94, rc_F hb, a1, b1, he', c1, am_ob_s, List.tail_cons, List.tail_nil, Option.toList_some, Option.toList_none, List.nil_append, List.cons_append, List.length_nil, List.length_cons, Nat.zero_le, true_and, and_true, true_implies, false_implies, not_true_eq_false, not_false_eq_true, implies_true, or_true, true_or, Nat.reduceAdd, Nat.reduceLeDiff]
    · show RnC _ (p2 F _ _)
      rw [p2, hS]
      exact c2
set_option maxHeartbeats 1000000 in
theorem e_U_stepElsewhere (h : RnC s (F :: R, ρ)) (hp : p ∈ bsP) (hG : PgC s p G) (hF : okF (F :: R)) (hpar : ∀ m, m < 6 → (G.2.1 m).1 ≤ 3) {e : Nat × Int32 × Nat} (hok : okE e) (hsh : pSh G e F R) (hop : e.1 = 8 ∨ e.1 = 9 ∨ e.1 = 13 ∨ e.1 = 14) : uS f_U_stepElsewhere [.ref 250, .ref (276 + 4 * R.length), .int (nI e.1), .int e.2.1, .ref p] s (pOp G e F R ρ) := by
  have t2 := (RnC_top h).2.1
  have hb := bU_F t2
  obtain ⟨op, x, y⟩ := e
  obtain ⟨h16, hy, hx⟩ := hok
  dsimp only at h16 hy hx hop ⊢
  rcases hop with rfl | rfl | rfl | rfl
  · have ht : am_lsw 1 74 #[(8, 35), (9, 43), (13, 58)] (nI 8) = 36 := by decide
    have hx := hx.resolve_left (by decide)
    obtain ⟨a2, a3⟩ := RnC_place h (kx (8, x, y))
    refine ⟨_, fun Q => ?_, a2, a3⟩
    rw [← hx.1]
    rw [c_U_stepElsewhere]
    simp only [k_U_stepElsewhere_0, k_U_stepElsewhere_1, ht, k_U_stepElsewhere_36, k_U_stepElsewhere_37, k_U_stepElsewhere_38, k_U_stepElsewhere_41, k_U_stepElsewhere_90, p_F5 hb, am_ob_s, List.tail_cons, List.tail_nil, Option.toList_some, Option.toList_none, List.nil_append, List.cons_append, List.length_nil, List.length_cons, Nat.zero_le, true_and, and_true, true_implies, false_implies, not_true_eq_false, not_false_eq_true, implies_true, or_true, true_or, Nat.reduceAdd, Nat.reduceLeDiff]
  · have ht : am_lsw 1 74 #[(8, 35), (9, 43), (13, 58)] (nI 9) = 44 := by decide
    have hx := hx.resolve_left (by decide)
    obtain ⟨a, S, hS⟩ := hsh
    obtain ⟨s1, a1, a2, a3⟩ := u_take h hS
    by_cases h0 : a.1 = 0
    · obtain ⟨b2, b3⟩ := RnC_place a2 (kx (9, x, y))
      refine ⟨_, fun Q => ?_, ?_, off_tr a3 b3⟩
      · rw [← hx.1]
        rw [c_U_stepElsewhere]
        simp only [k_U_stepElsewhere_0, k_U_stepElsewhere_1, ht, k_U_stepElsewhere_44, k_U_stepElsewhere_45, k_U_stepElsewhere_48, k_U_stepElsewhere_51, k_U_stepElsewhere_52, k_U_stepElsewhere_53, k_U_stepElsewhere_56, k_U_stepElsewhere_90, rc_F hb, a1, h0, p_F5 hb, am_ob_s, List.tail_cons, List.tail_nil, Option.toList_some, Option.toList_none, List.nil_append, List.cons_append, List.length_nil, List.length_cons, Nat.zero_le, true_and, and_true, true_implies, false_implies, not_true_eq_false, not_false_eq_true, implies_true, or_true, true_or, Nat.reduceAdd, Nat.reduceLeDiff]
      · show RnC _ (p1 F _ _)
        rw [p1, hS]
        dsimp only
        rw [if_pos h0]
        exact b2
    · refine ⟨s1, fun Q => ?_, ?_, a3⟩
      · rw [c_U_stepElsewhere]
        simp only [k_U_stepElsewhere_0, k_U_stepElsewhere_1, ht, k_U_stepElsewhere_44, k_U_stepElsewhere_45, k_U_stepElsewhere_48, k_U_stepElsewhere_90, rc_F hb, a1, h0, am_ob_s, List.tail_cons, List.tail_nil, Option.toList_some, Option.toList_none, List.nil_append, List.cons_append, List.length_nil, List.length_cons, Nat.zero_le, true_and, and_true, true_implies, false_implies, not_true_eq_false, not_false_eq_true, implies_true, or_true, true_or, Nat.reduceAdd, Nat.reduceLeDiff]
      · show RnC _ (p1 F _ _)
        rw [p1, hS]
        dsimp only
        rw [if_neg h0]
        exact a2
  · have ht : am_lsw 1 74 #[(8, 35), (9, 43), (13, 58)] (nI 13) = 59 := by decide
    have hx := hx.resolve_left (by decide)
    have hk : kx (13, x, y) < 6 := hx.2.2.2.2.1 rfl
    obtain ⟨s1, a1, a2, a3⟩ := e_U_enter h (bP_R hp hk) (hG.2.1 _ hk) (m := kx (13, x, y)) hsh (hpar _ hk)
    refine ⟨s1, fun Q => ?_, a2, a3⟩
    rw [c_U_stepElsewhere]
    have ex := hx.1
    clear a2
    generalize kx (13, x, y) = c at *
    rw [ex]
    simp only [k_U_stepElsewhere_0, k_U_stepElsewhere_1, ht, k_U_stepElsewhere_59, k_U_stepElsewhere_60, k_U_stepElsewhere_61, k_U_stepElsewhere_62, k_U_stepElsewhere_64, k_U_stepElsewhere_67, k_U_stepElsewhere_68, k_U_stepElsewhere_69, k_U_stepElsewhere_72, k_U_stepElsewhere_90, rc_U, g_P1 hp, a_Pr hp hk, a1, am_ob_s, List.tail_cons, List.tail_nil, Option.toList_some, Option.toList_none, List.nil_append, List.cons_append, List.length_nil, List.length_cons, Nat.zero_le, true_and, and_true, true_implies, false_implies, not_true_eq_false, not_false_eq_true, implies_true, or_true, true_or, Nat.reduceAdd, Nat.reduceLeDiff]
  · have ht : am_lsw 1 74 #[(8, 35), (9, 43), (13, 58)] (nI 14) = 75 := by decide
    obtain ⟨⟨a, S, hS⟩, h6⟩ := hsh
    have hm := (hF F List.mem_cons_self).1
    obtain ⟨s1, a1, a2, a3⟩ := e_U_leave h (bP_R hp hm) (hG.2.1 _ hm) hS h6
    have hf := (RnC_top h).1.1
    refine ⟨s1, fun Q => ?_, ?_, a3⟩
    · rw [c_U_stepElsewhere]
      simp only [k_U_stepElsewhere_0, k_U_stepElsewhere_1, ht, k_U_stepElsewhere_75, k_U_stepElsewhere_76, k_U_stepElsewhere_77, k_U_stepElsewhere_79, k_U_stepElsewhere_82, k_U_stepElsewhere_83, k_U_stepElsewhere_86, k_U_stepElsewhere_87, k_U_stepElsewhere_90, rc_U, g_P1 hp, g_F4 hb, hf, a_Pr hp hm, a1, am_ob_s, List.tail_cons, List.tail_nil, Option.toList_some, Option.toList_none, List.nil_append, List.cons_append, List.length_nil, List.length_cons, Nat.zero_le, true_and, and_true, true_implies, false_implies, not_true_eq_false, not_false_eq_true, implies_true, or_true, true_or, Nat.reduceAdd, Nat.reduceLeDiff]
    · show RnC _ (p1 F _ _)
      rw [p1, hS]
      cases R with
      | nil => exact a2
      | cons A R' => exact a2
set_option maxHeartbeats 1000000 in
theorem e_U_step (h : RnC s (F :: R, ρ)) (hp : p ∈ bsP) (hG : PgC s p G) (hL : okL G.1) (hF : okF (F :: R)) (hpar : ∀ m, m < 6 → (G.2.1 m).1 ≤ 3) (hlive : ∀ j, j ∈ pLs G ((F.1, F.2.1 + 1, F.2.2) :: R) ρ.2.2.1 ρ.2.2.2.1 → ρ.2.2.1 j ≠ 0) {e : Nat × Int32 × Nat} (he : (G.2.1 F.1).2.2.2[F.2.1]? = some e) (hok : okE e) (hsh : pSh G e (F.1, F.2.1 + 1, F.2.2) R) : uS f_U_step [.ref 250, .ref p] s (pOp G e (F.1, F.2.1 + 1, F.2.2) R ρ) := by
  obtain ⟨t1, t2, t3⟩ := RnC_top h
  have hb := bU_F t2
  have hm := (hF F List.mem_cons_self).1
  have hr := bP_R hp hm
  have hR := hG.2.1 F.1 hm
  have hlen := hR.2.2.2.2.1
  have hpl := (List.getElem?_eq_some_iff.mp he).1
  have hpl14 : F.2.1 < 14 := by omega
  have hd0 : ¬ nI (R.length + 1) = 0 := nI_ne0 (by omega) (by omega)
  have hz : zb (¬ nI F.2.1 < 0 ∧ ¬ nI (G.2.1 F.1).2.2.2.length ≤ nI F.2.1) = 1 := zb_t ⟨nI_pos (by omega), nI_ge hpl (by omega)⟩
  obtain ⟨a2, a3⟩ := RnC_place h (F.2.1 + 1)
  generalize es1 : am_wr s (276 + 4 * R.length) 5 (nI (F.2.1 + 1)) = s1 at a2 a3
  have hG1 := off_pg a3 hp hG
  have hR1 := hG1.2.1 F.1 hm
  obtain ⟨v1, v2, v3⟩ := hR1.2.2.2.2.2 F.2.1 e he
  have hF1 : okF ((F.1, F.2.1 + 1, F.2.2) :: R) := fun A hA => by
    rcases List.mem_cons.mp hA with rfl | q
    · exact hF F List.mem_cons_self
    · exact hF A (List.mem_cons_of_mem _ q)
  have pre : ∀ Q : Option Value → am_H → Prop, am_C f_U_step [.ref 250, .ref p] (TP, s) Q ↔ am_W m_U_step 63 [.ref 250, .ref p, .ref (276 + 4 * R.length), .ref (p + 19 + 5 * F.1), .int (nI F.2.1), .int (nI e.1)] [] (TP, s1) Q := fun Q => by
    rw [c_U_step]
    simp only [k_U_step_0, k_U_step_1, k_U_step_4, k_U_step_7, k_U_step_8, k_U_step_9, k_U_step_12, k_U_step_13, k_U_step_16, k_U_step_17, k_U_step_18, k_U_step_19, k_U_step_20, k_U_step_21, k_U_step_24, k_U_step_25, k_U_step_28, k_U_step_29, k_U_step_30, k_U_step_31, k_U_step_34, k_U_step_36, k_U_step_37, k_U_step_39, k_U_step_42, k_U_step_45, k_U_step_46, k_U_step_47, k_U_step_49, k_U_step_50, k_U_step_51, k_U_step_54, k_U_step_55, k_U_step_58, k_U_step_60, k_U_step_61, g_U3, t3, hd0, nI_pred, g_U0, a_U t2, g_P1 hp, g_F4 hb, t1.1, a_Pr hp hm, g_F5 hb, t1.2.1, rc_R hr, e_R_hasPlace hr hR, hz, hz10, nI_1, p_F5 hb, es1, g_R1 hr, l_R2 hr hpl14, v1, am_ob_s, List.tail_cons, List.tail_nil, Option.toList_some, Option.toList_none, List.nil_append, List.cons_append, List.length_nil, List.length_cons, Nat.zero_le, true_and, and_true, true_implies, false_implies, not_true_eq_false, not_false_eq_true, implies_true, or_true, true_or, Nat.reduceAdd, Nat.reduceLeDiff]
  have h16 := hok.1
  by_cases c1 : e.1 = 10 ∨ e.1 = 11 ∨ e.1 = 12 ∨ e.1 = 15
  · obtain ⟨s2, b1, b2, b3⟩ := e_U_stepOnObjects a2 hp hG1 hL hF1 hlive hok hsh c1
    refine ⟨s2, fun Q => ?_, b2, off_tr a3 b3⟩
    rw [pre]
    have hx : nI e.1 = 10 ∨ nI e.1 = 11 ∨ nI e.1 = 12 ∨ nI e.1 = 15 := by
      rcases c1 with q | q | q | q <;> rw [q] <;> decide
    have go : am_W m_U_step 63 [.ref 250, .ref p, .ref (276 + 4 * R.length), .ref (p + 19 + 5 * F.1), .int (nI F.2.1), .int (nI e.1)] [] (TP, s1) Q ↔ am_W m_U_step 91 [.ref 250, .ref p, .ref (276 + 4 * R.length), .ref (p + 19 + 5 * F.1), .int (nI F.2.1), .int (nI e.1)] [] (TP, s1) Q := by
      simp only [k_U_step_63, k_U_step_65, k_U_step_67, k_U_step_70, k_U_step_72, k_U_step_74, k_U_step_77, k_U_step_79, k_U_step_81, k_U_step_84, k_U_step_86, k_U_step_88, am_ob_s, List.tail_cons, List.tail_nil, Option.toList_some, Option.toList_none, List.nil_append, List.cons_append, List.length_nil, List.length_cons, Nat.zero_le, true_and, and_true, true_implies, false_implies, not_true_eq_false, not_false_eq_true, implies_true, or_true, true_or, Nat.reduceAdd, Nat.reduceLeDiff]
      generalize nI e.1 = o at hx
      generalize am_W m_U_step 91 _ _ _ _ = A
      rcases hx with rfl | rfl | rfl | rfl <;> simp
    rw [go]
    simp only [k_U_step_91, k_U_step_92, k_U_step_93, k_U_step_95, k_U_step_96, k_U_step_99, k_U_step_101, k_U_step_102, k_U_step_103, k_U_step_106, k_U_step_108, k_U_step_109, k_U_step_110, k_U_step_113, k_U_step_177, rc_U, g_R2 hr, g_R3 hr, l_R3 hr hpl14, l_R4 hr hpl14, v2, v3, b1, am_ob_s, List.tail_cons, List.tail_nil, Option.toList_some, Option.toList_none, List.nil_append, List.cons_append, List.length_nil, List.length_cons, Nat.zero_le, true_and, and_true, true_implies, false_implies, not_true_eq_false, not_false_eq_true, implies_true, or_true, true_or, Nat.reduceAdd, Nat.reduceLeDiff]
  · have n1 : ¬ nI e.1 = 10 ∧ ¬ nI e.1 = 11 ∧ ¬ nI e.1 = 12 ∧ ¬ nI e.1 = 15 := ⟨fun q => c1 (Or.inl ((nI_eq (b := 10) (by omega) (by omega)).mp q)), fun q => c1 (Or.inr (Or.inl ((nI_eq (b := 11) (by omega) (by omega)).mp q))), fun q => c1 (Or.inr (Or.inr (Or.inl ((nI_eq (b := 12) (by omega) (by omega)).mp q)))), fun q => c1 (Or.inr (Or.inr (Or.inr ((nI_eq (b := 15) (by omega) (by omega)).mp q))))⟩
    obtain ⟨n10, n11, n12, n15⟩ := n1
    by_cases c2 : e.1 = 8 ∨ e.1 = 9 ∨ e.1 = 13 ∨ e.1 = 14
    · obtain ⟨s2, b1, b2, b3⟩ := e_U_stepElsewhere a2 hp hG1 hF1 hpar hok hsh c2
      refine ⟨s2, fun Q => ?_, b2, off_tr a3 b3⟩
      rw [pre]
      have hx : nI e.1 = 8 ∨ nI e.1 = 9 ∨ nI e.1 = 13 ∨ nI e.1 = 14 := by
        rcases c2 with q | q | q | q <;> rw [q] <;> decide
      have go : am_W m_U_step 63 [.ref 250, .ref p, .ref (276 + 4 * R.length), .ref (p + 19 + 5 * F.1), .int (nI F.2.1), .int (nI e.1)] [] (TP, s1) Q ↔ am_W m_U_step 144 [.ref 250, .ref p, .ref (276 + 4 * R.length), .ref (p + 19 + 5 * F.1), .int (nI F.2.1), .int (nI e.1)] [] (TP, s1) Q := by
        simp only [k_U_step_63, k_U_step_65, k_U_step_67, k_U_step_70, k_U_step_72, k_U_step_74, k_U_step_77, k_U_step_79, k_U_step_81, k_U_step_84, k_U_step_86, k_U_step_88, k_U_step_116, k_U_step_118, k_U_step_120, k_U_step_123, k_U_step_125, k_U_step_127, k_U_step_130, k_U_step_132, k_U_step_134, k_U_step_137, k_U_step_139, k_U_step_141, n10, n11, n12, n15, am_ob_s, List.tail_cons, List.tail_nil, Option.toList_some, Option.toList_none, List.nil_append, List.cons_append, List.length_nil, List.length_cons, Nat.zero_le, true_and, and_true, true_implies, false_implies, not_true_eq_false, not_false_eq_true, implies_true, or_true, true_or, Nat.reduceAdd, Nat.reduceLeDiff]
        generalize nI e.1 = o at hx
        generalize am_W m_U_step 144 _ _ _ _ = A
        rcases hx with rfl | rfl | rfl | rfl <;> simp
      rw [go]
      simp only [k_U_step_144, k_U_step_145, k_U_step_146, k_U_step_148, k_U_step_149, k_U_step_152, k_U_step_154, k_U_step_155, k_U_step_156, k_U_step_159, k_U_step_177, rc_U, g_R2 hr, l_R3 hr hpl14, v2, b1, am_ob_s, List.tail_cons, List.tail_nil, Option.toList_some, Option.toList_none, List.nil_append, List.cons_append, List.length_nil, List.length_cons, Nat.zero_le, true_and, and_true, true_implies, false_implies, not_true_eq_false, not_false_eq_true, implies_true, or_true, true_or, Nat.reduceAdd, Nat.reduceLeDiff]
    · have n2 : ¬ nI e.1 = 8 ∧ ¬ nI e.1 = 9 ∧ ¬ nI e.1 = 13 ∧ ¬ nI e.1 = 14 := ⟨fun q => c2 (Or.inl ((nI_eq (b := 8) (by omega) (by omega)).mp q)), fun q => c2 (Or.inr (Or.inl ((nI_eq (b := 9) (by omega) (by omega)).mp q))), fun q => c2 (Or.inr (Or.inr (Or.inl ((nI_eq (b := 13) (by omega) (by omega)).mp q)))), fun q => c2 (Or.inr (Or.inr (Or.inr ((nI_eq (b := 14) (by omega) (by omega)).mp q))))⟩
      obtain ⟨n8, n9, n13, n14⟩ := n2
      obtain ⟨s2, b1, b2, b3⟩ := e_U_stepOnValues a2 hr hR1 hok hsh (by omega)
      refine ⟨s2, fun Q => ?_, b2, off_tr a3 b3⟩
      rw [pre]
      simp only [k_U_step_63, k_U_step_65, k_U_step_67, k_U_step_70, k_U_step_72, k_U_step_74, k_U_step_77, k_U_step_79, k_U_step_81, k_U_step_84, k_U_step_86, k_U_step_88, k_U_step_116, k_U_step_118, k_U_step_120, k_U_step_123, k_U_step_125, k_U_step_127, k_U_step_130, k_U_step_132, k_U_step_134, k_U_step_137, k_U_step_139, k_U_step_141, k_U_step_162, k_U_step_163, k_U_step_164, k_U_step_166, k_U_step_167, k_U_step_170, k_U_step_172, k_U_step_173, k_U_step_174, k_U_step_177, n10, n11, n12, n15, n8, n9, n13, n14, rc_U, g_R2 hr, l_R3 hr hpl14, v2, b1, am_ob_s, List.tail_cons, List.tail_nil, Option.toList_some, Option.toList_none, List.nil_append, List.cons_append, List.length_nil, List.length_cons, Nat.zero_le, true_and, and_true, true_implies, false_implies, not_true_eq_false, not_false_eq_true, implies_true, or_true, true_or, Nat.reduceAdd, Nat.reduceLeDiff]
end SU5
