/-! Routine.begin; what a patch restricts -/
theorem wr_wr (s : am_S) (i k : Nat) (a b : Int32) : am_wr (am_wr s i k a) i k b = am_wr s i k b := by
  funext i2 k2
  rw [am_wr_at, am_wr_at, am_wr_at]
  split <;> rfl
noncomputable def zif {α : Type} (p : Prop) (a b : α) : α := @ite _ p (Classical.propDecidable p) a b
theorem zif_t {α : Type} {p : Prop} (h : p) (a b : α) : zif p a b = a := if_pos h
theorem zif_f {α : Type} {p : Prop} (h : ¬ p) (a b : α) : zif p a b = b := if_neg h
def bgl (s : am_S) (b K : Nat) : Nat → am_S
  | 0 => s
  | j + 1 => am_wr (bgl s b K j) (b + 1) j (nI (lk K j))
def bgR (s : am_S) (b n K g : Nat) : am_S := bgl (am_wr (am_wr (am_wr s b 4 (nI n)) b 5 (nI g)) b 6 0) b K 4
theorem bgl_off (s : am_S) (b K : Nat) : ∀ j, off (b + 1) (b + 2) s (bgl s b K j)
  | 0 => off_rf _ _ _
  | j + 1 => off_tr (bgl_off s b K j) (off_wr _ (by omega) (by omega))
theorem bgl_at (s : am_S) (b K : Nat) : ∀ j i, i < j → bgl s b K j (b + 1) i = nI (lk K i)
  | 0, i, h => by omega
  | j + 1, i, h => by
    by_cases hi : i = j
    · subst hi
      exact am_wr_self _ _ _ _
    · show am_wr (bgl s b K j) (b + 1) j (nI (lk K j)) (b + 1) i = _
      rw [am_wr_col _ hi]
      exact bgl_at s b K j i (by omega)
theorem bgR_off (s : am_S) (b n K g : Nat) : off b (b + 5) s (bgR s b n K g) := by
  unfold bgR
  exact off_tr (off_tr (off_tr (off_wr s (by omega) (by omega)) (off_wr _ (by omega) (by omega))) (off_wr _ (by omega) (by omega))) (off_up (bgl_off _ b K 4) (by omega) (by omega))
theorem bgR_ro (s : am_S) (b n K g : Nat) : RoC (bgR s b n K g) b (n, K, g, []) := by
  have e : bgR s b n K g b = am_wr (am_wr (am_wr s b 4 (nI n)) b 5 (nI g)) b 6 0 b := bgl_off _ b K 4 b (by omega)
  refine ⟨?_, fun i hi => bgl_at _ b K 4 i hi, ?_, ?_, by simp, fun k e hk => by cases hk⟩
  · rw [e, am_wr_col _ (by omega), am_wr_col _ (by omega), am_wr_self]
  · rw [e, am_wr_col _ (by omega), am_wr_self]
  · rw [e, am_wr_self]
    rfl
/-- called alike -/
def pLik (R R' : pRo) : Prop := R.1 = R'.1 ∧ R.2.2.1 = R'.2.2.1 ∧ ∀ i, i < R.1 → lk R.2.1 i = lk R'.2.1 i
/-- the methods that are called otherwise -/
noncomputable def pOw (R R' : Nat → pRo) : Nat → Int32
  | 0 => 0
  | j + 1 => zif (pLik (R j) (R' j)) (pOw R R' j) (pOw R R' j ||| ((1 : Int32) <<< (nI j &&& 31)))
/-- the methods that are restricted: those of the program before that use what is touched, or call what is called otherwise -/
noncomputable def pRs (R' : Nat → pRo) (tc tm ow : Int32) : Nat → Int32
  | 0 => tm
  | j + 1 => zif ((R' j).2.2.2.any (pUse tc) = true ∨ (R' j).2.2.2.any (pCal ow) = true) (pRs R' tc tm ow j ||| ((1 : Int32) <<< (nI j &&& 31))) (pRs R' tc tm ow j)
def okR (R : pRo) : Prop := R.1 ≤ 3 ∧ R.2.1 < 256 ∧ R.2.2.1 ≤ 3
section SP2
variable {s : am_S} {p q b : Nat} {Q : Option Value → am_H → Prop}
theorem e_R_begin (hb : b ∈ bsR) {n K g : Nat} (hK : K < 256) : am_C f_R_begin [.ref b, .int (nI n), .int (nI K), .int (nI g)] (TP, s) Q ↔ Q none (TP, bgR s b n K g) := by
  rw [c_R_begin]
  have loop : ∀ (s0 : am_S) (r j : Nat), j + r = 4 → ∀ jk : List Value, am_W m_R_begin 18 (.ref b :: .int (nI n) :: .int (nI K) :: .int (nI g) :: .int (nI j) :: jk) [] (TP, bgl s0 b K j) Q ↔ Q none (TP, bgl s0 b K 4) := by
    intro s0 r
    induction r with
    | zero =>
      intro j hj jk
      have : j = 4 := by omega
      subst this
      have h1 : (4 : Int32) ≤ nI 4 := by decide
      rw [k_R_begin_18]
      simp only [k_R_begin_0, k_R_begin_1, k_R_begin_2, k_R_begin_5, k_R_begin_6, k_R_begin_7, k_R_begin_10, k_R_begin_11, k_R_begin_12, k_R_begin_15, k_R_begin_16, k_R_begin_20, k_R_begin_21, k_R_begin_24, k_R_begin_25, k_R_begin_28, k_R_begin_30, k_R_begin_31, k_R_begin_32, k_R_begin_34, k_R_begin_35, k_R_begin_36, k_R_begin_37, k_R_begin_38, k_R_begin_39, k_R_begin_42, k_R_begin_45, h1, am_ob_s, List.tail_cons, List.tail_nil, Option.toList_some, Option.toList_none, List.nil_append, List.cons_append, List.length_nil, List.length_cons, Nat.zero_le, true_and, and_true, true_implies, false_implies, not_true_eq_false, not_false_eq_true, implies_true]
    | succ r ih =>
      intro j hj jk
      have h1 : ¬ (4 : Int32) ≤ nI j := nI_ge (a := j) (b := 4) (by omega) (by decide)
      rw [k_R_begin_18]
      simp only [k_R_begin_0, k_R_begin_1, k_R_begin_2, k_R_begin_5, k_R_begin_6, k_R_begin_7, k_R_begin_10, k_R_begin_11, k_R_begin_12, k_R_begin_15, k_R_begin_16, k_R_begin_20, k_R_begin_21, k_R_begin_24, k_R_begin_25, k_R_begin_28, k_R_begin_30, k_R_begin_31, k_R_begin_32, k_R_begin_34, k_R_begin_35, k_R_begin_36, k_R_begin_37, k_R_begin_38, k_R_begin_39, k_R_begin_42, k_R_begin_45, h1, g_R0 hb, lk_ok K hK j (show j < 4 by omega), w_R1 hb (show j < 4 by omega), nI_1, am_ob_s, List.tail_cons, List.tail_nil, Option.toList_some, Option.toList_none, List.nil_append, List.cons_append, List.length_nil, List.length_cons, Nat.zero_le, true_and, and_true, true_implies, false_implies, not_true_eq_false, not_false_eq_true, implies_true]
      exact ih (j + 1) (by omega) jk
  have a1 := loop (am_wr (am_wr (am_wr s b 4 (nI n)) b 5 (nI g)) b 6 0) 4 0 (by omega) []
  rw [nI_0] at a1
  have e0 : ∀ s0 : am_S, bgl s0 b K 0 = s0 := fun _ => rfl
  rw [e0] at a1
  simp only [k_R_begin_0, k_R_begin_1, k_R_begin_2, k_R_begin_5, k_R_begin_6, k_R_begin_7, k_R_begin_10, k_R_begin_11, k_R_begin_12, k_R_begin_15, k_R_begin_16, p_R4 hb, p_R5 hb, p_R6 hb, am_ob_s, List.tail_cons, List.tail_nil, Option.toList_some, Option.toList_none, List.nil_append, List.cons_append, List.length_nil, List.length_cons, Nat.zero_le, true_and, and_true, true_implies, false_implies, not_true_eq_false, not_false_eq_true, implies_true]
  exact a1
theorem e_P_beginMethod (hp : p ∈ bsP) {m n K g : Nat} (hm : m < 6) (hK : K < 256) : am_C f_P_beginMethod [.ref p, .int (nI m), .int (nI n), .int (nI K), .int (nI g)] (TP, s) Q ↔ Q none (TP, am_wr (bgR s (p + 19 + 5 * m) n K g) p 3 (s p 3 ||| ((1 : Int32) <<< (nI m &&& 31)))) := by
  rw [c_P_beginMethod]
  have hR := bP_R hp hm
  have r1 : bgR s (p + 19 + 5 * m) n K g p = s p := bgR_off _ _ _ _ _ p (by omega)
  simp only [k_P_beginMethod_0, k_P_beginMethod_1, k_P_beginMethod_4, k_P_beginMethod_5, k_P_beginMethod_6, k_P_beginMethod_7, k_P_beginMethod_8, k_P_beginMethod_10, k_P_beginMethod_13, k_P_beginMethod_14, k_P_beginMethod_14i, k_P_beginMethod_15, k_P_beginMethod_18, k_P_beginMethod_19, k_P_beginMethod_20, k_P_beginMethod_21, k_P_beginMethod_22, k_P_beginMethod_25, g_P1 hp, a_Pr hp hm, rc_R hR, e_R_begin hR hK, g_P3 hp, p_P3 hp, r1, am_ob_s, List.tail_cons, List.tail_nil, Option.toList_some, Option.toList_none, List.nil_append, List.cons_append, List.length_nil, List.length_cons, Nat.zero_le, true_and, and_true, true_implies, false_implies, not_true_eq_false, not_false_eq_true, implies_true]
theorem e_P_methodsCalledOtherwise (hp : p ∈ bsP) (hq : q ∈ bsP) {R R' : Nat → pRo} (hR : ∀ m, m < 6 → RoC s (q + 19 + 5 * m) (R m) ∧ okR (R m)) (hR' : ∀ m, m < 6 → RoC s (p + 19 + 5 * m) (R' m) ∧ okR (R' m)) : am_C f_P_methodsCalledOtherwise [.ref q, .ref p] (TP, s) Q ↔ Q (some (.int (pOw R R' 6))) (TP, s) := by
  rw [c_P_methodsCalledOtherwise]
  have loop : ∀ (r j : Nat), j + r = 6 → ∀ jk : List Value, am_W m_P_methodsCalledOtherwise 4 (.ref q :: .ref p :: .int (pOw R R' j) :: .int (nI j) :: jk) [] (TP, s) Q ↔ Q (some (.int (pOw R R' 6))) (TP, s) := by
    intro r
    induction r with
    | zero =>
      intro j hj jk
      have : j = 6 := by omega
      subst this
      have h1 : (6 : Int32) ≤ nI 6 := by decide
      rw [k_P_methodsCalledOtherwise_4]
      simp only [k_P_methodsCalledOtherwise_0, k_P_methodsCalledOtherwise_1, k_P_methodsCalledOtherwise_2, k_P_methodsCalledOtherwise_3, k_P_methodsCalledOtherwise_5, k_P_methodsCalledOtherwise_7, k_P_methodsCalledOtherwise_10, k_P_methodsCalledOtherwise_11, k_P_methodsCalledOtherwise_14, k_P_methodsCalledOtherwise_15, k_P_methodsCalledOtherwise_16, k_P_methodsCalledOtherwise_17, k_P_methodsCalledOtherwise_20, k_P_methodsCalledOtherwise_21, k_P_methodsCalledOtherwise_22, k_P_methodsCalledOtherwise_25, k_P_methodsCalledOtherwise_28, k_P_methodsCalledOtherwise_29, k_P_methodsCalledOtherwise_30, k_P_methodsCalledOtherwise_31, k_P_methodsCalledOtherwise_32, k_P_methodsCalledOtherwise_33, k_P_methodsCalledOtherwise_34, k_P_methodsCalledOtherwise_37, k_P_methodsCalledOtherwise_40, k_P_methodsCalledOtherwise_41, h1, am_ob_s, List.tail_cons, List.tail_nil, Option.toList_some, Option.toList_none, List.nil_append, List.cons_append, List.length_nil, List.length_cons, Nat.zero_le, true_and, and_true, true_implies, false_implies, not_true_eq_false, not_false_eq_true, implies_true]
    | succ r ih =>
      intro j hj jk
      have h1 : ¬ (6 : Int32) ≤ nI j := nI_ge (a := j) (b := 6) (by omega) (by decide)
      obtain ⟨g1, g2⟩ := hR j (by omega)
      obtain ⟨g3, g4⟩ := hR' j (by omega)
      rw [k_P_methodsCalledOtherwise_4]
      simp only [k_P_methodsCalledOtherwise_0, k_P_methodsCalledOtherwise_1, k_P_methodsCalledOtherwise_2, k_P_methodsCalledOtherwise_3, k_P_methodsCalledOtherwise_5, k_P_methodsCalledOtherwise_7, k_P_methodsCalledOtherwise_10, k_P_methodsCalledOtherwise_11, k_P_methodsCalledOtherwise_14, k_P_methodsCalledOtherwise_15, k_P_methodsCalledOtherwise_16, k_P_methodsCalledOtherwise_17, k_P_methodsCalledOtherwise_20, k_P_methodsCalledOtherwise_21, k_P_methodsCalledOtherwise_22, k_P_methodsCalledOtherwise_25, k_P_methodsCalledOtherwise_28, k_P_methodsCalledOtherwise_29, k_P_methodsCalledOtherwise_30, k_P_methodsCalledOtherwise_31, k_P_methodsCalledOtherwise_32, k_P_methodsCalledOtherwise_33, k_P_methodsCalledOtherwise_34, k_P_methodsCalledOtherwise_37, k_P_methodsCalledOtherwise_40, k_P_methodsCalledOtherwise_41, h1, g_P1 hp, g_P1 hq, a_Pr hp (show j < 6 by omega), a_Pr hq (show j < 6 by omega), rc_R (bP_R hq (show j < 6 by omega)), e_R_isCalledLike (bP_R hp (show j < 6 by omega)) (bP_R hq (show j < 6 by omega)) g1 g3 ⟨g2.1, g4.1, g2.2.2, g4.2.2⟩, nI_1, am_ob_s, List.tail_cons, List.tail_nil, Option.toList_some, Option.toList_none, List.nil_append, List.cons_append, List.length_nil, List.length_cons, Nat.zero_le, true_and, and_true, true_implies, false_implies, not_true_eq_false, not_false_eq_true, implies_true]
      by_cases hl : pLik (R j) (R' j)
      · have e1 : zb ((R j).1 = (R' j).1 ∧ (R j).2.2.1 = (R' j).2.2.1 ∧ ∀ i, i < (R j).1 → lk (R j).2.1 i = lk (R' j).2.1 i) = 1 := zb_t hl
        have e2 : pOw R R' (j + 1) = pOw R R' j := zif_t hl _ _
        have := ih (j + 1) (by omega) jk
        rw [e2] at this
        rw [e1]
        simpa using this
      · have e1 : zb ((R j).1 = (R' j).1 ∧ (R j).2.2.1 = (R' j).2.2.1 ∧ ∀ i, i < (R j).1 → lk (R j).2.1 i = lk (R' j).2.1 i) = 0 := zb_f hl
        have e2 : pOw R R' (j + 1) = pOw R R' j ||| ((1 : Int32) <<< (nI j &&& 31)) := zif_f hl _ _
        have := ih (j + 1) (by omega) jk
        rw [e2] at this
        rw [e1]
        simpa using this
  have a1 := loop 6 0 (by omega) []
  rw [nI_0] at a1
  simp only [k_P_methodsCalledOtherwise_0, k_P_methodsCalledOtherwise_1, k_P_methodsCalledOtherwise_2, k_P_methodsCalledOtherwise_3, am_ob_s, List.tail_cons, List.tail_nil, Option.toList_some, Option.toList_none, List.nil_append, List.cons_append, List.length_nil, List.length_cons, Nat.zero_le, true_and, and_true, true_implies, false_implies, not_true_eq_false, not_false_eq_true, implies_true]
  exact a1
theorem e_P_restrict (hp : p ∈ bsP) (hq : q ∈ bsP) (hpq : p ≠ q) {R R' : Nat → pRo} (hR : ∀ m, m < 6 → RoC s (q + 19 + 5 * m) (R m) ∧ okR (R m)) (hR' : ∀ m, m < 6 → RoC s (p + 19 + 5 * m) (R' m) ∧ okR (R' m)) : am_C f_P_restrict [.ref q, .ref p] (TP, s) Q ↔ Q none (TP, am_wr s q 4 (pRs R' (s q 2) (s q 3) (pOw R R' 6) 6)) := by
  rw [c_P_restrict]
  have hd := bsP_d hp hq hpq
  have loop : ∀ (r j : Nat), j + r = 6 → ∀ jk : List Value, am_W m_P_restrict 16 (.ref q :: .ref p :: .int (pOw R R' 6) :: .int (nI j) :: jk) [] (TP, am_wr s q 4 (pRs R' (s q 2) (s q 3) (pOw R R' 6) j)) Q ↔ Q none (TP, am_wr s q 4 (pRs R' (s q 2) (s q 3) (pOw R R' 6) 6)) := by
    intro r
    induction r with
    | zero =>
      intro j hj jk
      have : j = 6 := by omega
      subst this
      have h1 : (6 : Int32) ≤ nI 6 := by decide
      rw [k_P_restrict_16]
      simp only [k_P_restrict_0, k_P_restrict_1, k_P_restrict_2, k_P_restrict_5, k_P_restrict_6, k_P_restrict_7, k_P_restrict_8, k_P_restrict_11, k_P_restrict_14, k_P_restrict_15, k_P_restrict_17, k_P_restrict_19, k_P_restrict_22, k_P_restrict_23, k_P_restrict_26, k_P_restrict_27, k_P_restrict_28, k_P_restrict_30, k_P_restrict_32, k_P_restrict_33, k_P_restrict_36, k_P_restrict_39, k_P_restrict_42, k_P_restrict_44, k_P_restrict_45, k_P_restrict_48, k_P_restrict_51, k_P_restrict_52, k_P_restrict_52i, k_P_restrict_53, k_P_restrict_56, k_P_restrict_57, k_P_restrict_58, k_P_restrict_59, k_P_restrict_60, k_P_restrict_63, k_P_restrict_66, k_P_restrict_69, h1, am_ob_s, List.tail_cons, List.tail_nil, Option.toList_some, Option.toList_none, List.nil_append, List.cons_append, List.length_nil, List.length_cons, Nat.zero_le, true_and, and_true, true_implies, false_implies, not_true_eq_false, not_false_eq_true, implies_true]
    | succ r ih =>
      intro j hj jk
      have h1 : ¬ (6 : Int32) ≤ nI j := nI_ge (a := j) (b := 6) (by omega) (by decide)
      obtain ⟨g3, g4⟩ := hR' j (by omega)
      have hRo : ∀ v : Int32, RoC (am_wr s q 4 v) (p + 19 + 5 * j) (R' j) := fun v => RoC_same g3 (off_same (off_wr (lo := q) (hi := q + 1) s (by omega) (by omega)) (by omega))
      have r2 : ∀ v : Int32, am_wr s q 4 v q 2 = s q 2 := fun v => am_wr_col s (by omega)
      have r4 : ∀ v : Int32, am_wr s q 4 v q 4 = v := fun v => am_wr_self s _ _ _
      rw [k_P_restrict_16]
      simp only [k_P_restrict_0, k_P_restrict_1, k_P_restrict_2, k_P_restrict_5, k_P_restrict_6, k_P_restrict_7, k_P_restrict_8, k_P_restrict_11, k_P_restrict_14, k_P_restrict_15, k_P_restrict_17, k_P_restrict_19, k_P_restrict_22, k_P_restrict_23, k_P_restrict_26, k_P_restrict_27, k_P_restrict_28, k_P_restrict_30, k_P_restrict_32, k_P_restrict_33, k_P_restrict_36, k_P_restrict_39, k_P_restrict_42, k_P_restrict_44, k_P_restrict_45, k_P_restrict_48, k_P_restrict_51, k_P_restrict_52, k_P_restrict_52i, k_P_restrict_53, k_P_restrict_56, k_P_restrict_57, k_P_restrict_58, k_P_restrict_59, k_P_restrict_60, k_P_restrict_63, k_P_restrict_66, k_P_restrict_69, h1, g_P1 hp, a_Pr hp (show j < 6 by omega), rc_R (bP_R hp (show j < 6 by omega)), g_P2 hq, g_P4 hq, p_P4 hq, r2, r4, e_R_usesOneOfClasses (bP_R hp (show j < 6 by omega)) (hRo _), e_R_callsOneOfMethods (bP_R hp (show j < 6 by omega)) (hRo _), wr_wr, nI_1, am_ob_s, List.tail_cons, List.tail_nil, Option.toList_some, Option.toList_none, List.nil_append, List.cons_append, List.length_nil, List.length_cons, Nat.zero_le, true_and, and_true, true_implies, false_implies, not_true_eq_false, not_false_eq_true, implies_true]
      by_cases hu : (R' j).2.2.2.any (pUse (s q 2)) = true
      · have e2 : pRs R' (s q 2) (s q 3) (pOw R R' 6) (j + 1) = pRs R' (s q 2) (s q 3) (pOw R R' 6) j ||| ((1 : Int32) <<< (nI j &&& 31)) := zif_t (Or.inl hu) _ _
        have := ih (j + 1) (by omega) (.ref (p + 19 + 5 * j) :: jk.tail)
        rw [e2] at this
        rw [zb_t hu]
        simpa using this
      · by_cases hc : (R' j).2.2.2.any (pCal (pOw R R' 6)) = true
        · have e2 : pRs R' (s q 2) (s q 3) (pOw R R' 6) (j + 1) = pRs R' (s q 2) (s q 3) (pOw R R' 6) j ||| ((1 : Int32) <<< (nI j &&& 31)) := zif_t (Or.inr hc) _ _
          have := ih (j + 1) (by omega) (.ref (p + 19 + 5 * j) :: jk.tail)
          rw [e2] at this
          rw [zb_f hu, zb_t hc]
          simpa using this
        · have e2 : pRs R' (s q 2) (s q 3) (pOw R R' 6) (j + 1) = pRs R' (s q 2) (s q 3) (pOw R R' 6) j := zif_f (fun h => h.elim hu hc) _ _
          have := ih (j + 1) (by omega) (.ref (p + 19 + 5 * j) :: jk.tail)
          rw [e2] at this
          rw [zb_f hu, zb_f hc]
          simpa using this
  have a1 := loop 6 0 (by omega) []
  rw [nI_0] at a1
  have e0 : pRs R' (s q 2) (s q 3) (pOw R R' 6) 0 = s q 3 := rfl
  rw [e0] at a1
  simp only [k_P_restrict_0, k_P_restrict_1, k_P_restrict_2, k_P_restrict_5, k_P_restrict_6, k_P_restrict_7, k_P_restrict_8, k_P_restrict_11, k_P_restrict_14, k_P_restrict_15, rc_P hq, e_P_methodsCalledOtherwise hp hq hR hR', g_P3 hq, p_P4 hq, am_ob_s, List.tail_cons, List.tail_nil, Option.toList_some, Option.toList_none, List.nil_append, List.cons_append, List.length_nil, List.length_cons, Nat.zero_le, true_and, and_true, true_implies, false_implies, not_true_eq_false, not_false_eq_true, implies_true]
  exact a1
end SP2
