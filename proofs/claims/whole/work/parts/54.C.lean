/-! Checker: a stack of types (top first) and whether something was bad -/
def ckTake (t : Int32) (σ : List Int32 × Bool) : List Int32 × Bool := match σ.1 with
  | [] => ([], true)
  | a :: r => (r, σ.2 || !decide (a = t))
def ckPut (t : Int32) (σ : List Int32 × Bool) : List Int32 × Bool := if 6 ≤ σ.1.length then (σ.1, true) else (t :: σ.1, σ.2)
def ckEmpty (σ : List Int32 × Bool) : List Int32 × Bool := (σ.1, σ.2 || !σ.1.isEmpty)
def ckIf (b : Bool) (σ : List Int32 × Bool) : List Int32 × Bool := (σ.1, σ.2 || b)
/-- the arguments' kinds, the last one first -/
def ckArgs (K : Nat) : Nat → List Int32 × Bool → List Int32 × Bool
  | 0, σ => σ
  | n + 1, σ => ckArgs K n (ckTake (nI (lk K n)) σ)
def CkC (s : am_S) (σ : List Int32 × Bool) : Prop := s 248 1 = nI σ.1.length ∧ σ.1.length ≤ 6 ∧ (∀ (k : Nat) (v : Int32), σ.1.reverse[k]? = some v → s 249 k = v) ∧ s 248 2 = zb (σ.2 = true)
theorem rev_top {α : Type} (a : α) (r : List α) : (a :: r).reverse[r.length]? = some a := by
  rw [List.reverse_cons, List.getElem?_append_right (by simp)]
  simp
theorem rev_low {α : Type} {a v : α} {r : List α} {k : Nat} (h : r.reverse[k]? = some v) : (a :: r).reverse[k]? = some v := by
  rw [List.reverse_cons, List.getElem?_append_left (List.getElem?_eq_some_iff.mp h).1]
  exact h
theorem rev_cons {α : Type} {a v : α} {r : List α} {k : Nat} (h : (a :: r).reverse[k]? = some v) : (k < r.length ∧ r.reverse[k]? = some v) ∨ (k = r.length ∧ v = a) := by
  have hl := (List.getElem?_eq_some_iff.mp h).1
  rw [List.length_reverse, List.length_cons] at hl
  by_cases hk : k < r.length
  · rw [List.reverse_cons, List.getElem?_append_left (by simpa using hk)] at h
    exact Or.inl ⟨hk, h⟩
  · have : k = r.length := by omega
    subst this
    rw [rev_top] at h
    exact Or.inr ⟨rfl, (Option.some.inj h).symm⟩
/-- what a void call of the checker does -/
def ckS (f : am_F) (as : List Value) (s : am_S) (σ' : List Int32 × Bool) : Prop := ∃ s', (∀ Q : Option Value → am_H → Prop, am_C f as (TP, s) Q ↔ Q none (TP, s')) ∧ CkC s' σ' ∧ off 248 250 s s'
theorem CkC_bad {s : am_S} {σ : List Int32 × Bool} (h : CkC s σ) : CkC (am_wr s 248 2 1) (σ.1, true) := by
  obtain ⟨h1, h2, h3, h4⟩ := h
  refine ⟨by rw [am_wr_col _ (by omega)]; exact h1, h2, fun k v hk => by rw [am_wr_row _ (by omega)]; exact h3 k v hk, by rw [am_wr_self, zb_t rfl]⟩
section SC
variable {s : am_S} {σ : List Int32 × Bool} {b p : Nat}
theorem e_C_needEmpty (h : CkC s σ) : ckS f_C_needEmpty [.ref 248] s (ckEmpty σ) := by
  obtain ⟨st, bd⟩ := σ
  cases st with
  | nil =>
    refine ⟨s, fun Q => ?_, by simpa [ckEmpty] using h, off_rf _ _ _⟩
    rw [c_C_needEmpty]
    have h1 : s 248 1 = 0 := h.1
    simp only [k_C_needEmpty_0, k_C_needEmpty_1, k_C_needEmpty_4, k_C_needEmpty_7, k_C_needEmpty_8, k_C_needEmpty_9, k_C_needEmpty_12, g_C1, h1, am_ob_s, List.tail_cons, List.tail_nil, Option.toList_some, Option.toList_none, List.nil_append, List.cons_append, List.length_nil, List.length_cons, Nat.zero_le, true_and, and_true, true_implies, false_implies, not_true_eq_false, not_false_eq_true, implies_true]
  | cons a r =>
    refine ⟨am_wr s 248 2 1, fun Q => ?_, by simpa [ckEmpty] using CkC_bad h, off_wr _ (by omega) (by omega)⟩
    rw [c_C_needEmpty]
    have h2 := h.2.1
    have h1 : ¬ s 248 1 = 0 := by rw [h.1]; exact nI_ne0 (by simp) (by dsimp only at h2 ⊢; omega)
    simp only [k_C_needEmpty_0, k_C_needEmpty_1, k_C_needEmpty_4, k_C_needEmpty_7, k_C_needEmpty_8, k_C_needEmpty_9, k_C_needEmpty_12, g_C1, h1, p_C2 (Or.inr rfl), am_ob_s, List.tail_cons, List.tail_nil, Option.toList_some, Option.toList_none, List.nil_append, List.cons_append, List.length_nil, List.length_cons, Nat.zero_le, true_and, and_true, true_implies, false_implies, not_true_eq_false, not_false_eq_true, implies_true]
theorem e_C_take (h : CkC s σ) (t : Int32) : ckS f_C_take [.ref 248, .int t] s (ckTake t σ) := by
  obtain ⟨st, bd⟩ := σ
  cases st with
  | nil =>
    refine ⟨am_wr s 248 2 1, fun Q => ?_, CkC_bad h, off_wr _ (by omega) (by omega)⟩
    rw [c_C_take]
    have h1 : s 248 1 = 0 := h.1
    simp only [k_C_take_0, k_C_take_1, k_C_take_4, k_C_take_7, k_C_take_8, k_C_take_9, k_C_take_12, k_C_take_13, k_C_take_14, k_C_take_14i, k_C_take_15, k_C_take_18, k_C_take_19, k_C_take_20, k_C_take_23, k_C_take_24, k_C_take_27, k_C_take_28, k_C_take_31, k_C_take_32, k_C_take_33, k_C_take_36, k_C_take_37, k_C_take_38, k_C_take_41, g_C1, h1, p_C2 (Or.inr rfl), am_ob_s, List.tail_cons, List.tail_nil, Option.toList_some, Option.toList_none, List.nil_append, List.cons_append, List.length_nil, List.length_cons, Nat.zero_le, true_and, and_true, true_implies, false_implies, not_true_eq_false, not_false_eq_true, implies_true]
  | cons a r =>
    have h6 : r.length < 6 := by have := h.2.1; dsimp only [List.length_cons] at this; omega
    have h0 : s 248 1 = nI (r.length + 1) := h.1
    have h1 : ¬ nI (r.length + 1) = 0 := nI_ne0 (by omega) (by omega)
    have ha : s 249 r.length = a := h.2.2.1 r.length a (rev_top a r)
    have r1 : am_wr s 248 1 (nI r.length) 248 1 = nI r.length := am_wr_self _ _ _ _
    have r2 : am_wr s 248 1 (nI r.length) 249 r.length = a := by rw [am_wr_row _ (by omega)]; exact ha
    have hc : CkC (am_wr s 248 1 (nI r.length)) (r, bd) := by
      refine ⟨r1, by show r.length ≤ 6; omega, fun k v hk => ?_, ?_⟩
      · rw [am_wr_row _ (by omega)]
        exact h.2.2.1 k v (rev_low hk)
      · rw [am_wr_col _ (by omega)]
        exact h.2.2.2
    by_cases hat : a = t
    · refine ⟨am_wr s 248 1 (nI r.length), fun Q => ?_, by simpa [ckTake, hat] using hc, off_wr _ (by omega) (by omega)⟩
      rw [c_C_take]
      simp only [k_C_take_0, k_C_take_1, k_C_take_4, k_C_take_7, k_C_take_8, k_C_take_9, k_C_take_12, k_C_take_13, k_C_take_14, k_C_take_14i, k_C_take_15, k_C_take_18, k_C_take_19, k_C_take_20, k_C_take_23, k_C_take_24, k_C_take_27, k_C_take_28, k_C_take_31, k_C_take_32, k_C_take_33, k_C_take_36, k_C_take_37, k_C_take_38, k_C_take_41, g_C1, h0, h1, p_C1, nI_pred, g_C0, r1, l_C1 h6, r2, hat, am_ob_s, List.tail_cons, List.tail_nil, Option.toList_some, Option.toList_none, List.nil_append, List.cons_append, List.length_nil, List.length_cons, Nat.zero_le, true_and, and_true, true_implies, false_implies, not_true_eq_false, not_false_eq_true, implies_true]
    · refine ⟨am_wr (am_wr s 248 1 (nI r.length)) 248 2 1, fun Q => ?_, by simpa [ckTake, hat] using CkC_bad hc, off_tr (off_wr _ (by omega) (by omega)) (off_wr _ (by omega) (by omega))⟩
      rw [c_C_take]
      simp only [k_C_take_0, k_C_take_1, k_C_take_4, k_C_take_7, k_C_take_8, k_C_take_9, k_C_take_12, k_C_take_13, k_C_take_14, k_C_take_14i, k_C_take_15, k_C_take_18, k_C_take_19, k_C_take_20, k_C_take_23, k_C_take_24, k_C_take_27, k_C_take_28, k_C_take_31, k_C_take_32, k_C_take_33, k_C_take_36, k_C_take_37, k_C_take_38, k_C_take_41, g_C1, h0, h1, p_C1, nI_pred, g_C0, r1, l_C1 h6, r2, hat, p_C2 (Or.inr rfl), am_ob_s, List.tail_cons, List.tail_nil, Option.toList_some, Option.toList_none, List.nil_append, List.cons_append, List.length_nil, List.length_cons, Nat.zero_le, true_and, and_true, true_implies, false_implies, not_true_eq_false, not_false_eq_true, implies_true]
theorem e_C_put (h : CkC s σ) (t : Int32) : ckS f_C_put [.ref 248, .int t] s (ckPut t σ) := by
  obtain ⟨st, bd⟩ := σ
  have h2 : st.length ≤ 6 := h.2.1
  have h0 : s 248 1 = nI st.length := h.1
  have hl : (nI st.length < 6) ↔ st.length < 6 := nI_ltI (b := 6) (by omega) (by decide)
  by_cases h6 : st.length < 6
  · have e : ckPut t (st, bd) = (t :: st, bd) := if_neg (by dsimp only; omega)
    rw [e]
    refine ⟨am_wr (am_wr s 249 st.length t) 248 1 (nI (st.length + 1)), fun Q => ?_, ⟨am_wr_self _ _ _ _, by dsimp only [List.length_cons]; omega, fun k v hk => ?_, ?_⟩, off_tr (off_wr _ (by omega) (by omega)) (off_wr _ (by omega) (by omega))⟩
    · rw [c_C_put]
      have r1 : am_wr s 249 st.length t 248 1 = nI st.length := by rw [am_wr_row _ (by omega)]; exact h0
      simp only [k_C_put_0, k_C_put_1, k_C_put_4, k_C_put_6, k_C_put_9, k_C_put_10, k_C_put_11, k_C_put_14, k_C_put_15, k_C_put_16, k_C_put_19, k_C_put_20, k_C_put_23, k_C_put_24, k_C_put_25, k_C_put_26, k_C_put_26i, k_C_put_27, k_C_put_30, k_C_put_31, k_C_put_32, k_C_put_35, g_C1, h0, hl, h6, g_C0, w_C1 h6, r1, p_C1, nI_1, am_ob_s, List.tail_cons, List.tail_nil, Option.toList_some, Option.toList_none, List.nil_append, List.cons_append, List.length_nil, List.length_cons, Nat.zero_le, true_and, and_true, true_implies, false_implies, not_true_eq_false, not_false_eq_true, implies_true]
    · rw [am_wr_row _ (by omega)]
      rcases rev_cons hk with ⟨q1, q2⟩ | ⟨rfl, rfl⟩
      · rw [am_wr_col _ (by omega)]
        exact h.2.2.1 k v q2
      · exact am_wr_self _ _ _ _
    · rw [am_wr_col _ (by omega), am_wr_row _ (by omega)]
      exact h.2.2.2
  · have e : ckPut t (st, bd) = (st, true) := if_pos (by dsimp only; omega)
    rw [e]
    refine ⟨am_wr s 248 2 1, fun Q => ?_, CkC_bad h, off_wr _ (by omega) (by omega)⟩
    rw [c_C_put]
    simp only [k_C_put_0, k_C_put_1, k_C_put_4, k_C_put_6, k_C_put_9, k_C_put_10, k_C_put_11, k_C_put_14, k_C_put_15, k_C_put_16, k_C_put_19, k_C_put_20, k_C_put_23, k_C_put_24, k_C_put_25, k_C_put_26, k_C_put_26i, k_C_put_27, k_C_put_30, k_C_put_31, k_C_put_32, k_C_put_35, g_C1, h0, hl, h6, p_C2 (Or.inr rfl), am_ob_s, List.tail_cons, List.tail_nil, Option.toList_some, Option.toList_none, List.nil_append, List.cons_append, List.length_nil, List.length_cons, Nat.zero_le, true_and, and_true, true_implies, false_implies, not_true_eq_false, not_false_eq_true, implies_true]
theorem e_C_needField (h : CkC s σ) (t : Int32) : ckS f_C_needField [.ref 248, .int t] s (ckIf (decide (t = -1)) σ) := by
  by_cases ht : t = -1
  · refine ⟨am_wr s 248 2 1, fun Q => ?_, by simpa [ckIf, ht] using CkC_bad h, off_wr _ (by omega) (by omega)⟩
    rw [c_C_needField]
    simp only [k_C_needField_0, k_C_needField_1, k_C_needField_2, k_C_needField_5, k_C_needField_6, k_C_needField_7, k_C_needField_10, ht, p_C2 (Or.inr rfl), am_ob_s, List.tail_cons, List.tail_nil, Option.toList_some, Option.toList_none, List.nil_append, List.cons_append, List.length_nil, List.length_cons, Nat.zero_le, true_and, and_true, true_implies, false_implies, not_true_eq_false, not_false_eq_true, implies_true]
  · refine ⟨s, fun Q => ?_, by simpa [ckIf, ht] using h, off_rf _ _ _⟩
    rw [c_C_needField]
    simp only [k_C_needField_0, k_C_needField_1, k_C_needField_2, k_C_needField_5, k_C_needField_6, k_C_needField_7, k_C_needField_10, ht, am_ob_s, List.tail_cons, List.tail_nil, Option.toList_some, Option.toList_none, List.nil_append, List.cons_append, List.length_nil, List.length_cons, Nat.zero_le, true_and, and_true, true_implies, false_implies, not_true_eq_false, not_false_eq_true, implies_true]
theorem e_C_needNoWayOut (h : CkC s σ) (o : Int32) : ckS f_C_needNoWayOut [.ref 248, .int o] s (ckIf (!(decide (o = 8) || decide (o = 14))) σ) := by
  by_cases h8 : o = 8
  · refine ⟨s, fun Q => ?_, by simpa [ckIf, h8] using h, off_rf _ _ _⟩
    rw [c_C_needNoWayOut]
    simp only [k_C_needNoWayOut_0, k_C_needNoWayOut_1, k_C_needNoWayOut_3, k_C_needNoWayOut_6, k_C_needNoWayOut_7, k_C_needNoWayOut_9, k_C_needNoWayOut_12, k_C_needNoWayOut_13, k_C_needNoWayOut_14, k_C_needNoWayOut_17, h8, am_ob_s, List.tail_cons, List.tail_nil, Option.toList_some, Option.toList_none, List.nil_append, List.cons_append, List.length_nil, List.length_cons, Nat.zero_le, true_and, and_true, true_implies, false_implies, not_true_eq_false, not_false_eq_true, implies_true]
  · by_cases h14 : o = 14
    · refine ⟨s, fun Q => ?_, by simpa [ckIf, h8, h14] using h, off_rf _ _ _⟩
      rw [c_C_needNoWayOut]
      simp only [k_C_needNoWayOut_0, k_C_needNoWayOut_1, k_C_needNoWayOut_3, k_C_needNoWayOut_6, k_C_needNoWayOut_7, k_C_needNoWayOut_9, k_C_needNoWayOut_12, k_C_needNoWayOut_13, k_C_needNoWayOut_14, k_C_needNoWayOut_17, h8, h14, am_ob_s, List.tail_cons, List.tail_nil, Option.toList_some, Option.toList_none, List.nil_append, List.cons_append, List.length_nil, List.length_cons, Nat.zero_le, true_and, and_true, true_implies, false_implies, not_true_eq_false, not_false_eq_true, implies_true]
      simp
    · refine ⟨am_wr s 248 2 1, fun Q => ?_, by simpa [ckIf, h8, h14] using CkC_bad h, off_wr _ (by omega) (by omega)⟩
      rw [c_C_needNoWayOut]
      simp only [k_C_needNoWayOut_0, k_C_needNoWayOut_1, k_C_needNoWayOut_3, k_C_needNoWayOut_6, k_C_needNoWayOut_7, k_C_needNoWayOut_9, k_C_needNoWayOut_12, k_C_needNoWayOut_13, k_C_needNoWayOut_14, k_C_needNoWayOut_17, h8, h14, p_C2 (Or.inr rfl), am_ob_s, List.tail_cons, List.tail_nil, Option.toList_some, Option.toList_none, List.nil_append, List.cons_append, List.length_nil, List.length_cons, Nat.zero_le, true_and, and_true, true_implies, false_implies, not_true_eq_false, not_false_eq_true, implies_true]
theorem e_C_takeTwoPutInt (h : CkC s σ) (t : Int32) : ckS f_C_takeTwoPutInt [.ref 248, .int t] s (ckPut 0 (ckTake t (ckTake t σ))) := by
  obtain ⟨s1, e1, c1, o1⟩ := e_C_take h t
  obtain ⟨s2, e2, c2, o2⟩ := e_C_take c1 t
  obtain ⟨s3, e3, c3, o3⟩ := e_C_put c2 0
  refine ⟨s3, fun Q => ?_, c3, off_tr (off_tr o1 o2) o3⟩
  rw [c_C_takeTwoPutInt]
  simp only [k_C_takeTwoPutInt_0, k_C_takeTwoPutInt_1, k_C_takeTwoPutInt_2, k_C_takeTwoPutInt_5, k_C_takeTwoPutInt_6, k_C_takeTwoPutInt_7, k_C_takeTwoPutInt_10, k_C_takeTwoPutInt_11, k_C_takeTwoPutInt_12, k_C_takeTwoPutInt_15, rc_C, e1, e2, e3, am_ob_s, List.tail_cons, List.tail_nil, Option.toList_some, Option.toList_none, List.nil_append, List.cons_append, List.length_nil, List.length_cons, Nat.zero_le, true_and, and_true, true_implies, false_implies, not_true_eq_false, not_false_eq_true, implies_true]
theorem e_C_checkGet (h : CkC s σ) (c t : Int32) : ckS f_C_checkGet [.ref 248, .int c, .int t] s (ckPut t (ckIf (decide (t = -1)) (ckTake c σ))) := by
  obtain ⟨s1, e1, c1, o1⟩ := e_C_take h c
  obtain ⟨s2, e2, c2, o2⟩ := e_C_needField c1 t
  obtain ⟨s3, e3, c3, o3⟩ := e_C_put c2 t
  refine ⟨s3, fun Q => ?_, c3, off_tr (off_tr o1 o2) o3⟩
  rw [c_C_checkGet]
  simp only [k_C_checkGet_0, k_C_checkGet_1, k_C_checkGet_2, k_C_checkGet_5, k_C_checkGet_6, k_C_checkGet_7, k_C_checkGet_10, k_C_checkGet_11, k_C_checkGet_12, k_C_checkGet_15, rc_C, e1, e2, e3, am_ob_s, List.tail_cons, List.tail_nil, Option.toList_some, Option.toList_none, List.nil_append, List.cons_append, List.length_nil, List.length_cons, Nat.zero_le, true_and, and_true, true_implies, false_implies, not_true_eq_false, not_false_eq_true, implies_true]
theorem e_C_checkPut (h : CkC s σ) (c t : Int32) : ckS f_C_checkPut [.ref 248, .int c, .int t] s (ckTake c (ckTake t (ckIf (decide (t = -1)) σ))) := by
  obtain ⟨s1, e1, c1, o1⟩ := e_C_needField h t
  obtain ⟨s2, e2, c2, o2⟩ := e_C_take c1 t
  obtain ⟨s3, e3, c3, o3⟩ := e_C_take c2 c
  refine ⟨s3, fun Q => ?_, c3, off_tr (off_tr o1 o2) o3⟩
  rw [c_C_checkPut]
  simp only [k_C_checkPut_0, k_C_checkPut_1, k_C_checkPut_2, k_C_checkPut_5, k_C_checkPut_6, k_C_checkPut_7, k_C_checkPut_10, k_C_checkPut_11, k_C_checkPut_12, k_C_checkPut_15, rc_C, e1, e2, e3, am_ob_s, List.tail_cons, List.tail_nil, Option.toList_some, Option.toList_none, List.nil_append, List.cons_append, List.length_nil, List.length_cons, Nat.zero_le, true_and, and_true, true_implies, false_implies, not_true_eq_false, not_false_eq_true, implies_true]
theorem bsR_d {b : Nat} (hb : b ∈ bsR) : b + 5 ≤ 248 := by
  have : bsR.all (fun b => decide (b + 5 ≤ 248)) = true := by decide +kernel
  exact of_decide_eq_true (List.all_eq_true.mp this b hb)
theorem bsP_b {p : Nat} (hp : p ∈ bsP) : p + 49 ≤ 248 := by
  simp only [bsP, List.mem_cons, List.not_mem_nil, or_false] at hp
  omega
theorem e_C_checkJump (h : CkC s σ) (hb : b ∈ bsR) {R : pRo} (hR : RoC s b R) (x : Int32) : ckS f_C_checkJump [.ref 248, .ref b, .int x] s (ckIf (decide (x < 0 ∨ nI R.2.2.2.length ≤ x)) (ckEmpty σ)) := by
  obtain ⟨s1, e1, c1, o1⟩ := e_C_needEmpty h
  have hR1 : RoC s1 b R := RoC_same hR (off_same o1 (by have := bsR_d hb; omega))
  by_cases hx : x < 0 ∨ nI R.2.2.2.length ≤ x
  · have hz : zb (¬ x < 0 ∧ ¬ nI R.2.2.2.length ≤ x) = 0 := zb_f (fun q => hx.elim q.1 q.2)
    refine ⟨am_wr s1 248 2 1, fun Q => ?_, by simpa [ckIf, hx] using CkC_bad c1, off_tr o1 (off_wr _ (by omega) (by omega))⟩
    rw [c_C_checkJump]
    simp only [k_C_checkJump_0, k_C_checkJump_1, k_C_checkJump_4, k_C_checkJump_5, k_C_checkJump_6, k_C_checkJump_9, k_C_checkJump_12, k_C_checkJump_13, k_C_checkJump_14, k_C_checkJump_17, rc_C, rc_R hb, e1, e_R_hasPlace hb hR1, hz, p_C2 (Or.inr rfl), am_ob_s, List.tail_cons, List.tail_nil, Option.toList_some, Option.toList_none, List.nil_append, List.cons_append, List.length_nil, List.length_cons, Nat.zero_le, true_and, and_true, true_implies, false_implies, not_true_eq_false, not_false_eq_true, implies_true]
  · have hz : zb (¬ x < 0 ∧ ¬ nI R.2.2.2.length ≤ x) = 1 := zb_t ⟨fun q => hx (Or.inl q), fun q => hx (Or.inr q)⟩
    refine ⟨s1, fun Q => ?_, by simpa [ckIf, hx] using c1, o1⟩
    rw [c_C_checkJump]
    simp only [k_C_checkJump_0, k_C_checkJump_1, k_C_checkJump_4, k_C_checkJump_5, k_C_checkJump_6, k_C_checkJump_9, k_C_checkJump_12, k_C_checkJump_13, k_C_checkJump_14, k_C_checkJump_17, rc_C, rc_R hb, e1, e_R_hasPlace hb hR1, hz, am_ob_s, List.tail_cons, List.tail_nil, Option.toList_some, Option.toList_none, List.nil_append, List.cons_append, List.length_nil, List.length_cons, Nat.zero_le, true_and, and_true, true_implies, false_implies, not_true_eq_false, not_false_eq_true, implies_true]
    simp
theorem e_C_checkCall (h : CkC s σ) (hb : b ∈ bsR) {R : pRo} (hR : RoC s b R) (h3 : R.1 ≤ 3) : ckS f_C_checkCall [.ref 248, .ref b] s (ckPut (nI R.2.2.1) (ckArgs R.2.1 R.1 (ckIf (R.2.2.2.isEmpty) σ))) := by
  have hbd := bsR_d hb
  obtain ⟨s1, e1, c1, o1⟩ : ∃ s1, (∀ Q : Option Value → am_H → Prop, am_W m_C_checkCall 0 [.ref 248, .ref b] [] (TP, s) Q ↔ am_W m_C_checkCall 12 [.ref 248, .ref b] [] (TP, s1) Q) ∧ CkC s1 (ckIf (R.2.2.2.isEmpty) σ) ∧ off 248 250 s s1 := by
    by_cases he : R.2.2.2 = []
    · refine ⟨am_wr s 248 2 1, fun Q => ?_, by simpa [ckIf, he] using CkC_bad h, off_wr _ (by omega) (by omega)⟩
      have hz : zb (0 < R.2.2.2.length) = 0 := zb_f (by rw [he]; simp)
      simp only [k_C_checkCall_0, k_C_checkCall_1, k_C_checkCall_4, k_C_checkCall_7, k_C_checkCall_8, k_C_checkCall_9, rc_R hb, e_R_isDefined hb hR, hz, p_C2 (Or.inr rfl), am_ob_s, List.tail_cons, List.tail_nil, Option.toList_some, Option.toList_none, List.nil_append, List.cons_append, List.length_nil, List.length_cons, Nat.zero_le, true_and, and_true, true_implies, false_implies, not_true_eq_false, not_false_eq_true, implies_true]
    · have hie : R.2.2.2.isEmpty = false := by
        cases hq : R.2.2.2 with
        | nil => exact absurd hq he
        | cons a r => rfl
      refine ⟨s, fun Q => ?_, by simpa [ckIf, hie] using h, off_rf _ _ _⟩
      have hz : zb (0 < R.2.2.2.length) = 1 := zb_t (List.length_pos_iff.mpr he)
      simp only [k_C_checkCall_0, k_C_checkCall_1, k_C_checkCall_4, k_C_checkCall_7, k_C_checkCall_8, k_C_checkCall_9, rc_R hb, e_R_isDefined hb hR, hz, am_ob_s, List.tail_cons, List.tail_nil, Option.toList_some, Option.toList_none, List.nil_append, List.cons_append, List.length_nil, List.length_cons, Nat.zero_le, true_and, and_true, true_implies, false_implies, not_true_eq_false, not_false_eq_true, implies_true]
      simp
  have loop : ∀ (n : Nat), n ≤ R.1 → ∀ (s0 : am_S) (σ0 : List Int32 × Bool), CkC s0 σ0 → off 248 250 s s0 → ∃ s', (∀ (jk : List Value) (Q : Option Value → am_H → Prop), am_W m_C_checkCall 19 (.ref 248 :: .ref b :: .int (nI n - 1) :: jk) [] (TP, s0) Q ↔ Q none (TP, s')) ∧ CkC s' (ckPut (nI R.2.2.1) (ckArgs R.2.1 n σ0)) ∧ off 248 250 s s' := by
    intro n
    induction n with
    | zero =>
      intro _ s0 σ0 hc ho
      obtain ⟨s2, e2, c2, o2⟩ := e_C_put hc (nI R.2.2.1)
      have hR0 : RoC s0 b R := RoC_same hR (off_same ho (by omega))
      refine ⟨s2, fun jk Q => ?_, c2, off_tr ho o2⟩
      have h1 : nI 0 - 1 < 0 := by decide
      rw [k_C_checkCall_19]
      simp only [k_C_checkCall_20, k_C_checkCall_39, k_C_checkCall_40, k_C_checkCall_41, k_C_checkCall_44, k_C_checkCall_47, h1, g_R5 hb, hR0.2.2.1, rc_C, e2, am_ob_s, List.tail_cons, List.tail_nil, Option.toList_some, Option.toList_none, List.nil_append, List.cons_append, List.length_nil, List.length_cons, Nat.zero_le, true_and, and_true, true_implies, false_implies, not_true_eq_false, not_false_eq_true, implies_true]
    | succ n ih =>
      intro hn s0 σ0 hc ho
      have hR0 : RoC s0 b R := RoC_same hR (off_same ho (by omega))
      obtain ⟨s2, e2, c2, o2⟩ := e_C_take hc (nI (lk R.2.1 n))
      obtain ⟨s3, e3, c3, o3⟩ := ih (by omega) s2 _ c2 (off_tr ho o2)
      refine ⟨s3, fun jk Q => ?_, c3, o3⟩
      have h1 : ¬ nI n < 0 := nI_pos (by omega)
      have m1 : nI n + (-1) = nI n - 1 := (Int32.sub_eq_add_neg _ _).symm
      rw [nI_pred, k_C_checkCall_19]
      simp only [k_C_checkCall_20, k_C_checkCall_23, k_C_checkCall_24, k_C_checkCall_25, k_C_checkCall_28, k_C_checkCall_29, k_C_checkCall_30, k_C_checkCall_33, k_C_checkCall_36, h1, g_R0 hb, l_R1 hb (show n < 4 by omega), hR0.2.1 n (by omega), rc_C, e2, m1, am_ob_s, List.tail_cons, List.tail_nil, Option.toList_some, Option.toList_none, List.nil_append, List.cons_append, List.length_nil, List.length_cons, Nat.zero_le, true_and, and_true, true_implies, false_implies, not_true_eq_false, not_false_eq_true, implies_true]
      exact e3 jk Q
  obtain ⟨s2, e2, c2, o2⟩ := loop R.1 (Nat.le_refl _) s1 _ c1 o1
  have hR1 : RoC s1 b R := RoC_same hR (off_same o1 (by omega))
  refine ⟨s2, fun Q => ?_, c2, o2⟩
  rw [c_C_checkCall, e1]
  simp only [k_C_checkCall_12, k_C_checkCall_13, k_C_checkCall_16, k_C_checkCall_17, k_C_checkCall_18, g_R4 hb, hR1.1, am_ob_s, List.tail_cons, List.tail_nil, Option.toList_some, Option.toList_none, List.nil_append, List.cons_append, List.length_nil, List.length_cons, Nat.zero_le, true_and, and_true, true_implies, false_implies, not_true_eq_false, not_false_eq_true, implies_true]
  exact e2 [] Q
end SC
