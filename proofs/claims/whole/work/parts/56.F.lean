/-! Frame, Math, Printer -/
/-- method, place, the frame's own values, stack (top first) of values with their kinds -/
abbrev pFr : Type := Nat × Nat × (Nat → Int32) × List (Int32 × Nat)
def FrC (s : am_S) (b : Nat) (F : pFr) : Prop := s b 4 = nI F.1 ∧ s b 5 = nI F.2.1 ∧ (∀ i, i < 4 → s (b + 1) i = F.2.2.1 i) ∧ s b 3 = nI F.2.2.2.length ∧ F.2.2.2.length ≤ 6 ∧ ∀ (k : Nat) (e : Int32 × Nat), F.2.2.2.reverse[k]? = some e → s (b + 2) k = e.1 ∧ s (b + 3) k = nI e.2
theorem FrC_same {s s' : am_S} {b : Nat} {F : pFr} (h : FrC s b F) (e : sameOn b (b + 4) s s') : FrC s' b F := by
  have e0 := e b (by omega) (by omega)
  have e1 := e (b + 1) (by omega) (by omega)
  have e2 := e (b + 2) (by omega) (by omega)
  have e3 := e (b + 3) (by omega) (by omega)
  unfold FrC
  rw [e0, e1, e2, e3]
  exact h
def frS (f : am_F) (as : List Value) (s : am_S) (r : Option Value) (b : Nat) (F : pFr) : Prop := ∃ s', (∀ Q : Option Value → am_H → Prop, am_C f as (TP, s) Q ↔ Q r (TP, s')) ∧ FrC s' b F ∧ off b (b + 4) s s'
theorem FrC_place {s : am_S} {b : Nat} {F : pFr} (h : FrC s b F) (p : Nat) : FrC (am_wr s b 5 (nI p)) b (F.1, p, F.2.2) := by
  obtain ⟨h1, h2, h3, h4, h5, h6⟩ := h
  refine ⟨by rw [am_wr_col _ (by omega)]; exact h1, am_wr_self _ _ _ _, fun i hi => by rw [am_wr_row _ (by omega)]; exact h3 i hi, by rw [am_wr_col _ (by omega)]; exact h4, h5, fun k e hk => ?_⟩
  rw [am_wr_row _ (by omega), am_wr_row _ (by omega)]
  exact h6 k e hk
/-- one of the frame's own values is set -/
def pSet (l : Nat → Int32) (i : Nat) (v : Int32) : Nat → Int32 := fun j => if j = i then v else l j
theorem FrC_set {s : am_S} {b : Nat} {F : pFr} (h : FrC s b F) (i : Nat) (v : Int32) : FrC (am_wr s (b + 1) i v) b (F.1, F.2.1, pSet F.2.2.1 i v, F.2.2.2) := by
  obtain ⟨h1, h2, h3, h4, h5, h6⟩ := h
  refine ⟨by rw [am_wr_row _ (by omega)]; exact h1, by rw [am_wr_row _ (by omega)]; exact h2, fun j hj => ?_, by rw [am_wr_row _ (by omega)]; exact h4, h5, fun k e hk => ?_⟩
  · rw [am_wr_at]
    show _ = if j = i then v else F.2.2.1 j
    by_cases e : j = i
    · rw [if_pos ⟨rfl, e⟩, if_pos e]
    · rw [if_neg (fun q => e q.2), if_neg e]
      exact h3 j hj
  · rw [am_wr_row _ (by omega), am_wr_row _ (by omega)]
    exact h6 k e hk
section SF
variable {s : am_S} {b : Nat} {Q : Option Value → am_H → Prop}
def zrl (s : am_S) (b : Nat) : Nat → am_S
  | 0 => s
  | j + 1 => am_wr (zrl s b j) b j 0
theorem zrl_off (s : am_S) (b : Nat) : ∀ j, off b (b + 1) s (zrl s b j)
  | 0 => off_rf _ _ _
  | j + 1 => off_tr (zrl_off s b j) (off_wr _ (by omega) (by omega))
theorem zrl_at (s : am_S) (b : Nat) : ∀ j i, i < j → zrl s b j b i = 0
  | 0, i, h => absurd h (by omega)
  | j + 1, i, h => by
    show am_wr (zrl s b j) b j 0 b i = 0
    rw [am_wr_at]
    by_cases e : i = j
    · rw [if_pos ⟨rfl, e⟩]
    · rw [if_neg (fun q => e q.2)]
      exact zrl_at s b j i (by omega)
theorem e_F_begin (hb : b ∈ bsF) (s : am_S) (m : Nat) : frS f_F_begin [.ref b, .int (nI m)] s none b (m, 0, fun _ => 0, []) := by
  refine ⟨zrl (am_wr (am_wr (am_wr s b 4 (nI m)) b 5 0) b 3 0) (b + 1) 4, fun Q => ?_, ⟨?_, ?_, fun i hi => zrl_at _ _ 4 i hi, ?_, by simp, fun k e hk => by simp at hk⟩, ?_⟩
  · rw [c_F_begin]
    have loop : ∀ (r j : Nat), j + r = 4 → ∀ (s0 : am_S) (jk : List Value), am_W m_F_begin 17 (.ref b :: .int (nI m) :: .int (nI j) :: jk) [] (TP, zrl s0 (b + 1) j) Q ↔ Q none (TP, zrl s0 (b + 1) 4) := by
      intro r
      induction r with
      | zero =>
        intro j hj s0 jk
        obtain rfl : j = 4 := by omega
        have h1 : (4 : Int32) ≤ nI 4 := by decide
        rw [k_F_begin_17]
        simp only [k_F_begin_0, k_F_begin_1, k_F_begin_2, k_F_begin_5, k_F_begin_6, k_F_begin_7, k_F_begin_10, k_F_begin_11, k_F_begin_12, k_F_begin_15, k_F_begin_16, k_F_begin_18, k_F_begin_19, k_F_begin_22, k_F_begin_23, k_F_begin_26, k_F_begin_27, k_F_begin_28, k_F_begin_29, k_F_begin_32, k_F_begin_35, h1, am_ob_s, List.tail_cons, List.tail_nil, Option.toList_some, Option.toList_none, List.nil_append, List.cons_append, List.length_nil, List.length_cons, Nat.zero_le, true_and, and_true, true_implies, false_implies, not_true_eq_false, not_false_eq_true, implies_true, Nat.reduceAdd, Nat.reduceLeDiff]
      | succ r ih =>
        intro j hj s0 jk
        have h1 : ¬ (4 : Int32) ≤ nI j := nI_ge (a := j) (b := 4) (by omega) (by decide)
        rw [k_F_begin_17]
        simp only [k_F_begin_0, k_F_begin_1, k_F_begin_2, k_F_begin_5, k_F_begin_6, k_F_begin_7, k_F_begin_10, k_F_begin_11, k_F_begin_12, k_F_begin_15, k_F_begin_16, k_F_begin_18, k_F_begin_19, k_F_begin_22, k_F_begin_23, k_F_begin_26, k_F_begin_27, k_F_begin_28, k_F_begin_29, k_F_begin_32, k_F_begin_35, h1, g_F0 hb, w_F1 hb (show j < 4 by omega), nI_1, am_ob_s, List.tail_cons, List.tail_nil, Option.toList_some, Option.toList_none, List.nil_append, List.cons_append, List.length_nil, List.length_cons, Nat.zero_le, true_and, and_true, true_implies, false_implies, not_true_eq_false, not_false_eq_true, implies_true, Nat.reduceAdd, Nat.reduceLeDiff]
        exact ih (j + 1) (by omega) s0 _
    have := loop 4 0 (by omega) (am_wr (am_wr (am_wr s b 4 (nI m)) b 5 0) b 3 0) []
    rw [nI_0] at this
    simp only [k_F_begin_0, k_F_begin_1, k_F_begin_2, k_F_begin_5, k_F_begin_6, k_F_begin_7, k_F_begin_10, k_F_begin_11, k_F_begin_12, k_F_begin_15, k_F_begin_16, p_F4 hb, p_F5 hb, p_F3 hb, am_ob_s, List.tail_cons, List.tail_nil, Option.toList_some, Option.toList_none, List.nil_append, List.cons_append, List.length_nil, List.length_cons, Nat.zero_le, true_and, and_true, true_implies, false_implies, not_true_eq_false, not_false_eq_true, implies_true, Nat.reduceAdd, Nat.reduceLeDiff]
    exact this
  · rw [zrl_off _ _ 4 b (by omega), am_wr_col _ (by omega), am_wr_col _ (by omega), am_wr_self]
  · rw [zrl_off _ _ 4 b (by omega), am_wr_col _ (by omega), am_wr_self]
    rfl
  · rw [zrl_off _ _ 4 b (by omega), am_wr_self]
    rfl
  · exact off_tr (off_tr (off_tr (off_wr _ (by omega) (by omega)) (off_wr _ (by omega) (by omega))) (off_wr _ (by omega) (by omega))) (off_up (zrl_off _ _ 4) (by omega) (by omega))
theorem e_F_put (hb : b ∈ bsF) {F : pFr} (h : FrC s b F) (h6 : F.2.2.2.length < 6) (v : Int32) (t : Nat) : frS f_F_put [.ref b, .int v, .int (nI t)] s none b (F.1, F.2.1, F.2.2.1, (v, t) :: F.2.2.2) := by
  obtain ⟨fm, fp, fl, st⟩ := F
  dsimp only at h6
  have h0 : s b 3 = nI st.length := h.2.2.2.1
  have hl : nI st.length < 6 := nI_lt (b := 6) h6 (by decide)
  refine ⟨am_wr (am_wr (am_wr s (b + 2) st.length v) (b + 3) st.length (nI t)) b 3 (nI (st.length + 1)), fun Q => ?_, ⟨?_, ?_, fun i hi => ?_, am_wr_self _ _ _ _, by dsimp only [List.length_cons]; omega, fun k e hk => ?_⟩, ?_⟩
  · rw [c_F_put]
    have r1 : am_wr s (b + 2) st.length v b 3 = nI st.length := by rw [am_wr_row _ (by omega)]; exact h0
    have r2 : am_wr (am_wr s (b + 2) st.length v) (b + 3) st.length (nI t) b 3 = nI st.length := by rw [am_wr_row _ (by omega)]; exact r1
    simp only [k_F_put_0, k_F_put_1, k_F_put_4, k_F_put_6, k_F_put_9, k_F_put_10, k_F_put_11, k_F_put_14, k_F_put_15, k_F_put_18, k_F_put_19, k_F_put_20, k_F_put_21, k_F_put_24, k_F_put_25, k_F_put_28, k_F_put_29, k_F_put_30, k_F_put_31, k_F_put_31i, k_F_put_32, k_F_put_35, k_F_put_36, k_F_put_37, k_F_put_40, g_F3 hb, g_F1 hb, g_F2 hb, h0, hl, w_F2 hb h6, w_F3 hb h6, r1, r2, p_F3 hb, nI_1, am_ob_s, List.tail_cons, List.tail_nil, Option.toList_some, Option.toList_none, List.nil_append, List.cons_append, List.length_nil, List.length_cons, Nat.zero_le, true_and, and_true, true_implies, false_implies, not_true_eq_false, not_false_eq_true, implies_true, Nat.reduceAdd, Nat.reduceLeDiff]
  · rw [am_wr_col _ (by omega), am_wr_row _ (by omega), am_wr_row _ (by omega)]
    exact h.1
  · rw [am_wr_col _ (by omega), am_wr_row _ (by omega), am_wr_row _ (by omega)]
    exact h.2.1
  · rw [am_wr_row _ (by omega), am_wr_row _ (by omega), am_wr_row _ (by omega)]
    exact h.2.2.1 i hi
  · have hk' : ((v, t) :: st).reverse[k]? = some e := hk
    rw [am_wr_row (i' := b + 2) _ (by omega), am_wr_row (i' := b + 2) _ (by omega), am_wr_row (i' := b + 3) _ (by omega)]
    rcases rev_cons hk' with ⟨q1, q2⟩ | ⟨rfl, rfl⟩
    · rw [am_wr_col _ (by omega), am_wr_col _ (by omega), am_wr_row (i' := b + 3) _ (by omega)]
      exact h.2.2.2.2.2 k e q2
    · exact ⟨am_wr_self _ _ _ _, am_wr_self _ _ _ _⟩
  · exact off_tr (off_tr (off_wr _ (by omega) (by omega)) (off_wr _ (by omega) (by omega))) (off_wr _ (by omega) (by omega))
theorem e_F_take (hb : b ∈ bsF) {fm fp : Nat} {fl : Nat → Int32} {v : Int32} {t : Nat} {st : List (Int32 × Nat)} (h : FrC s b (fm, fp, fl, (v, t) :: st)) : frS f_F_take [.ref b] s (some (.int v)) b (fm, fp, fl, st) := by
  have h6 : st.length < 6 := by have := h.2.2.2.2.1; dsimp only [List.length_cons] at this; omega
  have h0 : s b 3 = nI (st.length + 1) := h.2.2.2.1
  have h1 : ¬ nI (st.length + 1) = 0 := nI_ne0 (by omega) (by omega)
  have ha := h.2.2.2.2.2 st.length (v, t) (rev_top (v, t) st)
  have r1 : am_wr s b 3 (nI st.length) b 3 = nI st.length := am_wr_self _ _ _ _
  have r2 : am_wr s b 3 (nI st.length) (b + 2) st.length = v := by rw [am_wr_row _ (by omega)]; exact ha.1
  refine ⟨am_wr s b 3 (nI st.length), fun Q => ?_, ⟨?_, ?_, fun i hi => ?_, r1, by dsimp only; omega, fun k e hk => ?_⟩, off_wr _ (by omega) (by omega)⟩
  · rw [c_F_take]
    simp only [k_F_take_0, k_F_take_1, k_F_take_4, k_F_take_7, k_F_take_8, k_F_take_9, k_F_take_10, k_F_take_10i, k_F_take_11, k_F_take_14, k_F_take_15, k_F_take_16, k_F_take_19, k_F_take_20, k_F_take_23, k_F_take_24, k_F_take_27, k_F_take_28, g_F3 hb, g_F1 hb, h0, h1, p_F3 hb, nI_pred, r1, l_F2 hb h6, r2, am_ob_s, List.tail_cons, List.tail_nil, Option.toList_some, Option.toList_none, List.nil_append, List.cons_append, List.length_nil, List.length_cons, Nat.zero_le, true_and, and_true, true_implies, false_implies, not_true_eq_false, not_false_eq_true, implies_true, Nat.reduceAdd, Nat.reduceLeDiff]
  · rw [am_wr_col _ (by omega)]
    exact h.1
  · rw [am_wr_col _ (by omega)]
    exact h.2.1
  · rw [am_wr_row _ (by omega)]
    exact h.2.2.1 i hi
  · rw [am_wr_row _ (by omega), am_wr_row _ (by omega)]
    exact h.2.2.2.2.2 k e (rev_low hk)
/-- floorMod by 16 -/
theorem x16_ge (x : Int32) : 0 ≤ x ^^^ 16 ↔ 0 ≤ x := by
  have h1 : ∀ y : Int32, 0 ≤ y ↔ y.toBitVec.msb = false := fun y => by
    rw [Int32.le_iff_toInt_le, BitVec.msb_eq_toInt]
    show (0 : Int) ≤ y.toBitVec.toInt ↔ _
    simp
  rw [h1, h1, Int32.toBitVec_xor, BitVec.msb_xor]
  have : (16 : Int32).toBitVec.msb = false := by decide
  rw [this, Bool.xor_false]
theorem x16_t (a : Int) : (0 ≤ a ∧ a.tdiv 16 = a / 16) ∨ (a < 0 ∧ a.tdiv 16 = - ((- a) / 16)) := by
  by_cases h : 0 ≤ a
  · exact Or.inl ⟨h, Int.tdiv_eq_ediv_of_nonneg h⟩
  · refine Or.inr ⟨by omega, ?_⟩
    rw [← Int.tdiv_eq_ediv_of_nonneg (show 0 ≤ - a by omega), Int.neg_tdiv, Int.neg_neg]
theorem x16_rem (x : Int32) : (x - x / 16 * 16).toInt = x.toInt - x.toInt.tdiv 16 * 16 := by
  have h1 := Int32.le_toInt x
  have h2 := Int32.toInt_lt x
  have h3 := x16_t x.toInt
  have e1 : (x / 16).toInt = x.toInt.tdiv 16 := by
    rw [Int32.toInt_div]
    show (x.toInt.tdiv 16).bmod _ = _
    apply Int.bmod_eq_of_le <;> omega
  have e2 : (x / 16 * 16).toInt = x.toInt.tdiv 16 * 16 := by
    rw [Int32.toInt_mul, e1]
    show (x.toInt.tdiv 16 * 16).bmod _ = _
    apply Int.bmod_eq_of_le <;> omega
  rw [Int32.toInt_sub, e2]
  apply Int.bmod_eq_of_le <;> omega
theorem x16_and (x : Int32) : (x &&& 15).toInt = x.toInt % 16 := by
  rw [pk_and x 4 (by decide), nI_toInt (by have := Nat.mod_lt x.toBitVec.toNat (show 0 < 2 ^ 4 by decide); omega)]
  show _ = x.toBitVec.toInt % 16
  rw [BitVec.toInt_eq_toNat_cond]
  split <;> omega
theorem x16_lt (x : Int32) : ∃ j, j < 16 ∧ x &&& 15 = nI j := pk_andE x 4 (by decide)
theorem e_J_floorMod (x : Int32) {h : am_H} : am_C f_J_floorMod [.int x, .int 16] h Q ↔ Q (some (.int (x &&& 15))) h := by
  rw [c_J_floorMod]
  have h16 : ¬ (16 : Int32) = 0 := by decide
  have ea := x16_and x
  have er := x16_rem x
  have h1 := Int32.le_toInt x
  have h2 := Int32.toInt_lt x
  have h3 := x16_t x.toInt
  by_cases hx : 0 ≤ x
  · have hx' : (0 : Int) ≤ x.toInt := Int32.le_iff_toInt_le.mp hx
    have e : x - x / 16 * 16 = x &&& 15 := Int32.toInt_inj.mp (by rw [ea, er]; omega)
    simp only [k_J_floorMod_0, k_J_floorMod_1, k_J_floorMod_3, k_J_floorMod_4, k_J_floorMod_5, k_J_floorMod_6, k_J_floorMod_7, k_J_floorMod_10, k_J_floorMod_11, k_J_floorMod_14, k_J_floorMod_15, k_J_floorMod_16, k_J_floorMod_17, k_J_floorMod_18, k_J_floorMod_19, k_J_floorMod_2 h16, x16_ge, hx, e, am_ob_s, List.tail_cons, List.tail_nil, Option.toList_some, Option.toList_none, List.nil_append, List.cons_append, List.length_nil, List.length_cons, Nat.zero_le, true_and, and_true, true_implies, false_implies, not_true_eq_false, not_false_eq_true, implies_true, Nat.reduceAdd, Nat.reduceLeDiff]
  · have hx' : ¬ (0 : Int) ≤ x.toInt := fun q => hx (Int32.le_iff_toInt_le.mpr q)
    by_cases hr : x - x / 16 * 16 = 0
    · have e : x - x / 16 * 16 = x &&& 15 := Int32.toInt_inj.mp (by rw [hr] at er; rw [ea, hr]; have : (0 : Int32).toInt = 0 := by decide
                                                                    omega)
      have h0 : x &&& 15 = 0 := e ▸ hr
      simp only [k_J_floorMod_0, k_J_floorMod_1, k_J_floorMod_3, k_J_floorMod_4, k_J_floorMod_5, k_J_floorMod_6, k_J_floorMod_7, k_J_floorMod_10, k_J_floorMod_11, k_J_floorMod_14, k_J_floorMod_15, k_J_floorMod_16, k_J_floorMod_17, k_J_floorMod_18, k_J_floorMod_19, k_J_floorMod_2 h16, x16_ge, hx, e, h0, am_ob_s, List.tail_cons, List.tail_nil, Option.toList_some, Option.toList_none, List.nil_append, List.cons_append, List.length_nil, List.length_cons, Nat.zero_le, true_and, and_true, true_implies, false_implies, not_true_eq_false, not_false_eq_true, implies_true, Nat.reduceAdd, Nat.reduceLeDiff]
    · have hr' : ¬ (x - x / 16 * 16).toInt = 0 := fun q => hr (Int32.toInt_inj.mp q)
      have e : x - x / 16 * 16 + 16 = x &&& 15 := Int32.toInt_inj.mp (by
        rw [Int32.toInt_add, ea]
        rw [er] at hr' ⊢
        show (x.toInt - x.toInt.tdiv 16 * 16 + 16).bmod _ = _
        rw [Int.bmod_eq_of_le (by omega) (by omega)]
        omega)
      simp only [k_J_floorMod_0, k_J_floorMod_1, k_J_floorMod_3, k_J_floorMod_4, k_J_floorMod_5, k_J_floorMod_6, k_J_floorMod_7, k_J_floorMod_10, k_J_floorMod_11, k_J_floorMod_14, k_J_floorMod_15, k_J_floorMod_16, k_J_floorMod_17, k_J_floorMod_18, k_J_floorMod_19, k_J_floorMod_2 h16, x16_ge, hx, hr, e, am_ob_s, List.tail_cons, List.tail_nil, Option.toList_some, Option.toList_none, List.nil_append, List.cons_append, List.length_nil, List.length_cons, Nat.zero_le, true_and, and_true, true_implies, false_implies, not_true_eq_false, not_false_eq_true, implies_true, Nat.reduceAdd, Nat.reduceLeDiff]
theorem e_O_print (v : Int32) : ∃ j, j < 16 ∧ s 274 1 &&& 15 = nI j ∧ (am_C f_O_print [.ref 274, .int v] (TP, s) Q ↔ Q none (TP, am_wr (am_wr s 275 j v) 274 1 (s 274 1 + 1))) := by
  obtain ⟨j, hj, e⟩ := x16_lt (s 274 1)
  refine ⟨j, hj, e, ?_⟩
  rw [c_O_print]
  have r1 : am_wr s 275 j v 274 1 = s 274 1 := by rw [am_wr_row _ (by omega)]
  have rc : ∀ a b : Value, am_rc (TP, s) [a, b] none = true := fun a b => rfl
  simp only [k_O_print_0, k_O_print_1, k_O_print_4, k_O_print_5, k_O_print_8, k_O_print_10, k_O_print_13, k_O_print_14, k_O_print_15, k_O_print_16, k_O_print_16i, k_O_print_17, k_O_print_20, k_O_print_21, k_O_print_22, k_O_print_25, g_O0, g_O1, rc, e_J_floorMod, e, w_O1 hj, r1, p_O1, am_ob_s, List.tail_cons, List.tail_nil, Option.toList_some, Option.toList_none, List.nil_append, List.cons_append, List.length_nil, List.length_cons, Nat.zero_le, true_and, and_true, true_implies, false_implies, not_true_eq_false, not_false_eq_true, implies_true, Nat.reduceAdd, Nat.reduceLeDiff]
theorem e_O_latestBut (v : Int32) : am_C f_O_latestBut [.ref 274, .int v] (TP, s) Q ↔ Q (some (.int (zif (v < 0 ∨ 16 ≤ v ∨ ¬ v < s 274 1) 0 (s 275 (s 274 1 - 1 - v &&& 15).toNatClampNeg)))) (TP, s) := by
  rw [c_O_latestBut]
  have rc : ∀ a b : Value, am_rc (TP, s) [a, b] none = true := fun a b => rfl
  by_cases h1 : v < 0
  · rw [zif_t (Or.inl h1)]
    simp only [k_O_latestBut_0, k_O_latestBut_1, k_O_latestBut_4, k_O_latestBut_5, k_O_latestBut_7, k_O_latestBut_10, k_O_latestBut_11, k_O_latestBut_12, k_O_latestBut_15, k_O_latestBut_18, k_O_latestBut_19, k_O_latestBut_20, k_O_latestBut_21, k_O_latestBut_24, k_O_latestBut_25, k_O_latestBut_28, k_O_latestBut_29, k_O_latestBut_30, k_O_latestBut_31, k_O_latestBut_32, k_O_latestBut_34, k_O_latestBut_37, k_O_latestBut_38, h1, am_ob_s, List.tail_cons, List.tail_nil, Option.toList_some, Option.toList_none, List.nil_append, List.cons_append, List.length_nil, List.length_cons, Nat.zero_le, true_and, and_true, true_implies, false_implies, not_true_eq_false, not_false_eq_true, implies_true, Nat.reduceAdd, Nat.reduceLeDiff]
  · by_cases h2 : 16 ≤ v
    · rw [zif_t (Or.inr (Or.inl h2))]
      simp only [k_O_latestBut_0, k_O_latestBut_1, k_O_latestBut_4, k_O_latestBut_5, k_O_latestBut_7, k_O_latestBut_10, k_O_latestBut_11, k_O_latestBut_12, k_O_latestBut_15, k_O_latestBut_18, k_O_latestBut_19, k_O_latestBut_20, k_O_latestBut_21, k_O_latestBut_24, k_O_latestBut_25, k_O_latestBut_28, k_O_latestBut_29, k_O_latestBut_30, k_O_latestBut_31, k_O_latestBut_32, k_O_latestBut_34, k_O_latestBut_37, k_O_latestBut_38, h1, h2, am_ob_s, List.tail_cons, List.tail_nil, Option.toList_some, Option.toList_none, List.nil_append, List.cons_append, List.length_nil, List.length_cons, Nat.zero_le, true_and, and_true, true_implies, false_implies, not_true_eq_false, not_false_eq_true, implies_true, Nat.reduceAdd, Nat.reduceLeDiff]
    · by_cases h3 : v < s 274 1
      · rw [zif_f (by simp [h1, h2, h3])]
        obtain ⟨j, hj, e⟩ := x16_lt (s 274 1 - 1 - v)
        simp only [k_O_latestBut_0, k_O_latestBut_1, k_O_latestBut_4, k_O_latestBut_5, k_O_latestBut_7, k_O_latestBut_10, k_O_latestBut_11, k_O_latestBut_12, k_O_latestBut_15, k_O_latestBut_18, k_O_latestBut_19, k_O_latestBut_20, k_O_latestBut_21, k_O_latestBut_24, k_O_latestBut_25, k_O_latestBut_28, k_O_latestBut_29, k_O_latestBut_30, k_O_latestBut_31, k_O_latestBut_32, k_O_latestBut_34, k_O_latestBut_37, k_O_latestBut_38, g_O0, g_O1, rc, e_J_floorMod, e, l_O1 hj, h1, h2, h3, nI_clamp (show j < 2 ^ 31 by omega), am_ob_s, List.tail_cons, List.tail_nil, Option.toList_some, Option.toList_none, List.nil_append, List.cons_append, List.length_nil, List.length_cons, Nat.zero_le, true_and, and_true, true_implies, false_implies, not_true_eq_false, not_false_eq_true, implies_true, Nat.reduceAdd, Nat.reduceLeDiff]
      · rw [zif_t (Or.inr (Or.inr h3))]
        simp only [k_O_latestBut_0, k_O_latestBut_1, k_O_latestBut_4, k_O_latestBut_5, k_O_latestBut_7, k_O_latestBut_10, k_O_latestBut_11, k_O_latestBut_12, k_O_latestBut_15, k_O_latestBut_18, k_O_latestBut_19, k_O_latestBut_20, k_O_latestBut_21, k_O_latestBut_24, k_O_latestBut_25, k_O_latestBut_28, k_O_latestBut_29, k_O_latestBut_30, k_O_latestBut_31, k_O_latestBut_32, k_O_latestBut_34, k_O_latestBut_37, k_O_latestBut_38, g_O1, h1, h2, h3, am_ob_s, List.tail_cons, List.tail_nil, Option.toList_some, Option.toList_none, List.nil_append, List.cons_append, List.length_nil, List.length_cons, Nat.zero_le, true_and, and_true, true_implies, false_implies, not_true_eq_false, not_false_eq_true, implies_true, Nat.reduceAdd, Nat.reduceLeDiff]
end SF
