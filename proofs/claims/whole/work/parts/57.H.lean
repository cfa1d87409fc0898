/-! Heap -/
theorem rc_n (h : am_H) (as : List Value) : am_rc h as none = true := rfl
/-- f below j, g from j on -/
def upj {α : Type} (f g : Nat → α) (j i : Nat) : α := if i < j then f i else g i
theorem upj_lt {α : Type} {f g : Nat → α} {j i : Nat} (h : i < j) : upj f g j i = f i := if_pos h
theorem upj_ge {α : Type} {f g : Nat → α} {j i : Nat} (h : j ≤ i) : upj f g j i = g i := if_neg (by omega)
theorem upj_ne {α : Type} {f g : Nat → α} {j i : Nat} (h : i ≠ j) : upj f g (j + 1) i = upj f g j i := by
  by_cases q : i < j
  · rw [upj_lt q, upj_lt (by omega)]
  · rw [upj_ge (by omega), upj_ge (by omega)]
/-- kinds of the rows, values of the rows -/
def HpC (s : am_S) (cl : Nat → Nat) (vl : Nat → Nat → Int32) : Prop := ∀ j, j < 16 → s 253 j = nI (cl j) ∧ cl j < 4 ∧ ∀ k, k < 4 → s (255 + j) k = vl j k
theorem HpC_same {s s' : am_S} {cl : Nat → Nat} {vl : Nat → Nat → Int32} (h : HpC s cl vl) (e : sameOn 253 271 s s') : HpC s' cl vl := by
  intro j hj
  rw [e 253 (by omega) (by omega), e (255 + j) (by omega) (by omega)]
  exact h j hj
def fre (cl : Nat → Nat) : Nat → Nat → Option Nat
  | _, 0 => none
  | j, r + 1 => if cl j = 0 then some j else fre cl (j + 1) r
theorem fre_some {cl : Nat → Nat} : ∀ {r j i : Nat}, fre cl j r = some i → j ≤ i ∧ i < j + r ∧ cl i = 0
  | 0, _, _, h => by cases h
  | r + 1, j, i, h => by
    unfold fre at h
    by_cases e : cl j = 0
    · rw [if_pos e] at h
      obtain rfl : j = i := Option.some.inj h
      exact ⟨by omega, by omega, e⟩
    · rw [if_neg e] at h
      have := fre_some h
      exact ⟨by omega, by omega, this.2.2⟩
section SH
variable {s : am_S} {cl : Nat → Nat} {vl : Nat → Nat → Int32} {Q : Option Value → am_H → Prop}
theorem e_H_isFull : am_C f_H_isFull [.ref 252] (TP, s) Q ↔ Q (some (.int (zb (¬ s 252 6 < 16)))) (TP, s) := by
  rw [c_H_isFull]
  simp only [k_H_isFull_0, k_H_isFull_1, k_H_isFull_4, k_H_isFull_6, k_H_isFull_9, k_H_isFull_10, k_H_isFull_13, k_H_isFull_14, g_H6, am_ob_s, List.tail_cons, List.tail_nil, Option.toList_some, Option.toList_none, List.nil_append, List.cons_append, List.length_nil, List.length_cons, Nat.zero_le, true_and, and_true, true_implies, false_implies, not_true_eq_false, not_false_eq_true, implies_true, Nat.reduceAdd, Nat.reduceLeDiff]
  by_cases h : s 252 6 < 16
  · rw [zb_f (by simp [h])]; simp [h]
  · rw [zb_t h]; simp [h]
theorem e_H_isObject {h : am_H} {v0 : Value} {j : Nat} (hj : j < 16) : am_C f_H_isObject [v0, .int (nI (j + 1))] h Q ↔ Q (some (.int 1)) h := by
  rw [c_H_isObject]
  have h1 : ¬ nI (j + 1) < 1 := nI_nlt (b := 1) (by omega) (by omega)
  have h2 : ¬ 16 < nI (j + 1) := nI_nlt (a := 16) (by omega) (by omega)
  simp only [k_H_isObject_0, k_H_isObject_1, k_H_isObject_2, k_H_isObject_5, k_H_isObject_6, k_H_isObject_8, k_H_isObject_11, k_H_isObject_12, k_H_isObject_15, k_H_isObject_16, h1, h2, or_true, am_ob_s, List.tail_cons, List.tail_nil, Option.toList_some, Option.toList_none, List.nil_append, List.cons_append, List.length_nil, List.length_cons, Nat.zero_le, true_and, and_true, true_implies, false_implies, not_true_eq_false, not_false_eq_true, implies_true, Nat.reduceAdd, Nat.reduceLeDiff]
theorem e_H_isField {h : am_H} {j : Nat} (hj : j < 4) : am_C f_H_isField [.int (nI j)] h Q ↔ Q (some (.int 1)) h := by
  rw [c_H_isField]
  have h1 : ¬ nI j < 0 := nI_pos (by omega)
  have h2 : ¬ 4 ≤ nI j := nI_ge (b := 4) (by omega) (by omega)
  simp only [k_H_isField_0, k_H_isField_1, k_H_isField_4, k_H_isField_5, k_H_isField_6, k_H_isField_9, k_H_isField_10, k_H_isField_13, k_H_isField_14, h1, h2, or_true, am_ob_s, List.tail_cons, List.tail_nil, Option.toList_some, Option.toList_none, List.nil_append, List.cons_append, List.length_nil, List.length_cons, Nat.zero_le, true_and, and_true, true_implies, false_implies, not_true_eq_false, not_false_eq_true, implies_true, Nat.reduceAdd, Nat.reduceLeDiff]
theorem hz10 : ¬ (1 : Int32) = 0 := by decide
theorem e_H_valueAt {j k : Nat} (hj : j < 16) (hk : k < 4) : am_C f_H_valueAt [.ref 252, .int (nI (j + 1)), .int (nI k)] (TP, s) Q ↔ Q (some (.int (s (255 + j) k))) (TP, s) := by
  rw [c_H_valueAt]
  simp only [k_H_valueAt_0, k_H_valueAt_1, k_H_valueAt_2, k_H_valueAt_5, k_H_valueAt_8, k_H_valueAt_9, k_H_valueAt_12, k_H_valueAt_15, k_H_valueAt_16, k_H_valueAt_19, k_H_valueAt_20, k_H_valueAt_21, k_H_valueAt_22, k_H_valueAt_23, k_H_valueAt_24, k_H_valueAt_25, k_H_valueAt_28, k_H_valueAt_29, rc_H, rc_n, e_H_isObject hj, e_H_isField hk, hz10, g_H1, nI_pred, a_H hj, l_Hr hj hk, am_ob_s, List.tail_cons, List.tail_nil, Option.toList_some, Option.toList_none, List.nil_append, List.cons_append, List.length_nil, List.length_cons, Nat.zero_le, true_and, and_true, true_implies, false_implies, not_true_eq_false, not_false_eq_true, implies_true, Nat.reduceAdd, Nat.reduceLeDiff]
theorem e_H_setValue {j k : Nat} (hj : j < 16) (hk : k < 4) (v : Int32) : am_C f_H_setValue [.ref 252, .int (nI (j + 1)), .int (nI k), .int v] (TP, s) Q ↔ Q none (TP, am_wr s (255 + j) k v) := by
  rw [c_H_setValue]
  simp only [k_H_setValue_0, k_H_setValue_1, k_H_setValue_2, k_H_setValue_5, k_H_setValue_8, k_H_setValue_9, k_H_setValue_12, k_H_setValue_15, k_H_setValue_16, k_H_setValue_19, k_H_setValue_20, k_H_setValue_21, k_H_setValue_22, k_H_setValue_23, k_H_setValue_24, k_H_setValue_25, k_H_setValue_26, rc_H, rc_n, e_H_isObject hj, e_H_isField hk, hz10, g_H1, nI_pred, a_H hj, w_Hr hj hk, am_ob_s, List.tail_cons, List.tail_nil, Option.toList_some, Option.toList_none, List.nil_append, List.cons_append, List.length_nil, List.length_cons, Nat.zero_le, true_and, and_true, true_implies, false_implies, not_true_eq_false, not_false_eq_true, implies_true, Nat.reduceAdd, Nat.reduceLeDiff]
theorem e_H_clearValues {b : Nat} (hb : TP[b]? = some (.inl (0, 4, none))) : am_C f_H_clearValues [.ref b] (TP, s) Q ↔ Q none (TP, zrl s b 4) := by
  rw [c_H_clearValues]
  have loop : ∀ (r j : Nat), j + r = 4 → ∀ (jk : List Value), am_W m_H_clearValues 2 (.ref b :: .int (nI j) :: jk) [] (TP, zrl s b j) Q ↔ Q none (TP, zrl s b 4) := by
    intro r
    induction r with
    | zero =>
      intro j hj jk
      obtain rfl : j = 4 := by omega
      have h1 : (4 : Int32) ≤ nI 4 := by decide
      rw [k_H_clearValues_2]
      simp only [k_H_clearValues_0, k_H_clearValues_1, k_H_clearValues_3, k_H_clearValues_4, k_H_clearValues_7, k_H_clearValues_8, k_H_clearValues_9, k_H_clearValues_10, k_H_clearValues_11, k_H_clearValues_14, k_H_clearValues_17, h1, am_ob_s, List.tail_cons, List.tail_nil, Option.toList_some, Option.toList_none, List.nil_append, List.cons_append, List.length_nil, List.length_cons, Nat.zero_le, true_and, and_true, true_implies, false_implies, not_true_eq_false, not_false_eq_true, implies_true, Nat.reduceAdd, Nat.reduceLeDiff]
    | succ r ih =>
      intro j hj jk
      have h1 : ¬ (4 : Int32) ≤ nI j := nI_ge (a := j) (b := 4) (by omega) (by decide)
      rw [k_H_clearValues_2]
      have w := fun (s : am_S) (v : Int32) => sdI (s := s) (v := v) hb (by decide) (show j < 4 by omega)
      simp only [k_H_clearValues_0, k_H_clearValues_1, k_H_clearValues_3, k_H_clearValues_4, k_H_clearValues_7, k_H_clearValues_8, k_H_clearValues_9, k_H_clearValues_10, k_H_clearValues_11, k_H_clearValues_14, k_H_clearValues_17, h1, w, nI_1, am_ob_s, List.tail_cons, List.tail_nil, Option.toList_some, Option.toList_none, List.nil_append, List.cons_append, List.length_nil, List.length_cons, Nat.zero_le, true_and, and_true, true_implies, false_implies, not_true_eq_false, not_false_eq_true, implies_true, Nat.reduceAdd, Nat.reduceLeDiff]
      exact ih (j + 1) (by omega) _
  have := loop 4 0 (by omega) []
  rw [nI_0] at this
  simp only [k_H_clearValues_0, k_H_clearValues_1, am_ob_s, List.tail_cons, List.tail_nil, Option.toList_some, Option.toList_none, List.nil_append, List.cons_append, List.length_nil, List.length_cons, Nat.zero_le, true_and, and_true, true_implies, false_implies, not_true_eq_false, not_false_eq_true, implies_true, Nat.reduceAdd, Nat.reduceLeDiff]
  exact this
theorem e_H_make (h : HpC s cl vl) (c : Int32) : am_C f_H_make [.ref 252, .int c] (TP, s) Q ↔ (match fre cl 0 16 with
    | none => Q (some (.int 0)) (TP, s)
    | some j => Q (some (.int (nI (j + 1)))) (TP, zrl (am_wr (am_wr s 253 j c) 252 6 (s 252 6 + 1)) (255 + j) 4)) := by
  rw [c_H_make]
  have loop : ∀ (r j : Nat), j + r = 16 → ∀ (jk : List Value), am_W m_H_make 2 (.ref 252 :: .int c :: .int (nI j) :: jk) [] (TP, s) Q ↔ (match fre cl j r with
    | none => Q (some (.int 0)) (TP, s)
    | some j => Q (some (.int (nI (j + 1)))) (TP, zrl (am_wr (am_wr s 253 j c) 252 6 (s 252 6 + 1)) (255 + j) 4)) := by
    intro r
    induction r with
    | zero =>
      intro j hj jk
      obtain rfl : j = 16 := by omega
      have h1 : (16 : Int32) ≤ nI 16 := by decide
      rw [k_H_make_2]
      simp only [k_H_make_0, k_H_make_1, k_H_make_3, k_H_make_5, k_H_make_8, k_H_make_9, k_H_make_12, k_H_make_13, k_H_make_14, k_H_make_17, k_H_make_18, k_H_make_21, k_H_make_22, k_H_make_23, k_H_make_24, k_H_make_25, k_H_make_25i, k_H_make_26, k_H_make_29, k_H_make_30, k_H_make_31, k_H_make_34, k_H_make_35, k_H_make_38, k_H_make_39, k_H_make_40, k_H_make_43, k_H_make_44, k_H_make_45, k_H_make_46, k_H_make_47, k_H_make_50, k_H_make_53, k_H_make_54, h1, fre, am_ob_s, List.tail_cons, List.tail_nil, Option.toList_some, Option.toList_none, List.nil_append, List.cons_append, List.length_nil, List.length_cons, Nat.zero_le, true_and, and_true, true_implies, false_implies, not_true_eq_false, not_false_eq_true, implies_true, Nat.reduceAdd, Nat.reduceLeDiff]
    | succ r ih =>
      intro j hj jk
      have hj' : j < 16 := by omega
      have h1 : ¬ (16 : Int32) ≤ nI j := nI_ge (a := j) (b := 16) (by omega) (by decide)
      have h2 := h j hj'
      rw [k_H_make_2]
      by_cases hc : cl j = 0
      · have h3 : s 253 j = 0 := by rw [h2.1, hc]; rfl
        have r1 : am_wr s 253 j c 252 6 = s 252 6 := by rw [am_wr_row _ (by omega)]
        simp only [k_H_make_0, k_H_make_1, k_H_make_3, k_H_make_5, k_H_make_8, k_H_make_9, k_H_make_12, k_H_make_13, k_H_make_14, k_H_make_17, k_H_make_18, k_H_make_21, k_H_make_22, k_H_make_23, k_H_make_24, k_H_make_25, k_H_make_25i, k_H_make_26, k_H_make_29, k_H_make_30, k_H_make_31, k_H_make_34, k_H_make_35, k_H_make_38, k_H_make_39, k_H_make_40, k_H_make_43, k_H_make_44, k_H_make_45, k_H_make_46, k_H_make_47, k_H_make_50, k_H_make_53, k_H_make_54, h1, g_H0, l_H1 hj', h3, w_H1 hj', g_H6, p_H6, r1, g_H1, a_H hj', rc_n, e_H_clearValues (tHr j hj'), nI_1, fre, hc, if_true, am_ob_s, List.tail_cons, List.tail_nil, Option.toList_some, Option.toList_none, List.nil_append, List.cons_append, List.length_nil, List.length_cons, Nat.zero_le, true_and, and_true, true_implies, false_implies, not_true_eq_false, not_false_eq_true, implies_true, Nat.reduceAdd, Nat.reduceLeDiff]
      · have h3 : ¬ s 253 j = 0 := by rw [h2.1]; exact nI_ne0 (by omega) (by omega)
        simp only [k_H_make_0, k_H_make_1, k_H_make_3, k_H_make_5, k_H_make_8, k_H_make_9, k_H_make_12, k_H_make_13, k_H_make_14, k_H_make_17, k_H_make_18, k_H_make_21, k_H_make_22, k_H_make_23, k_H_make_24, k_H_make_25, k_H_make_25i, k_H_make_26, k_H_make_29, k_H_make_30, k_H_make_31, k_H_make_34, k_H_make_35, k_H_make_38, k_H_make_39, k_H_make_40, k_H_make_43, k_H_make_44, k_H_make_45, k_H_make_46, k_H_make_47, k_H_make_50, k_H_make_53, k_H_make_54, h1, g_H0, l_H1 hj', h3, nI_1, fre, hc, if_false, am_ob_s, List.tail_cons, List.tail_nil, Option.toList_some, Option.toList_none, List.nil_append, List.cons_append, List.length_nil, List.length_cons, Nat.zero_le, true_and, and_true, true_implies, false_implies, not_true_eq_false, not_false_eq_true, implies_true, Nat.reduceAdd, Nat.reduceLeDiff]
        exact ih (j + 1) (by omega) _
  have := loop 16 0 (by omega) []
  rw [nI_0] at this
  simp only [k_H_make_0, k_H_make_1, am_ob_s, List.tail_cons, List.tail_nil, Option.toList_some, Option.toList_none, List.nil_append, List.cons_append, List.length_nil, List.length_cons, Nat.zero_le, true_and, and_true, true_implies, false_implies, not_true_eq_false, not_false_eq_true, implies_true, Nat.reduceAdd, Nat.reduceLeDiff]
  exact this
/-- the rows reached so far, in their order -/
def RcC (s : am_S) (l : List Nat) : Prop := s 252 5 = nI l.length ∧ l.length ≤ 16 ∧ (∀ (k j : Nat), l[k]? = some j → s 273 k = nI j) ∧ (∀ j, j ∈ l → j < 16) ∧ l.Nodup ∧ ∀ j, j < 16 → s 272 j = zb (j ∈ l)
theorem nodup_le : ∀ (n : Nat) (l : List Nat), l.Nodup → (∀ j, j ∈ l → j < n) → l.length ≤ n
  | 0, l, _, h => by
    cases l with
    | nil => exact Nat.le_refl 0
    | cons a r => exact absurd (h a List.mem_cons_self) (by omega)
  | n + 1, l, hn, h => by
    by_cases hm : n ∈ l
    · have h1 := nodup_le n (l.erase n) (hn.erase n) (fun j hj => by
        have := (hn.mem_erase_iff).mp hj
        have := h j this.2
        omega)
      rw [List.length_erase_of_mem hm] at h1
      omega
    · have := nodup_le n l hn (fun j hj => by
        have h2 := h j hj
        have : j ≠ n := fun e => hm (e ▸ hj)
        omega)
      omega
def pRch (l : List Nat) (v : Int32) (t : Nat) : List Nat := if t ≠ 0 ∧ ¬ v < 1 ∧ ¬ 16 < v ∧ (v - 1).toNatClampNeg ∉ l then l ++ [(v - 1).toNatClampNeg] else l
/-- only the marks of a collection may differ -/
def rcO (s s' : am_S) : Prop := (∀ i, i ≠ 252 → i ≠ 272 → i ≠ 273 → s' i = s i) ∧ ∀ k, k ≠ 5 → s' 252 k = s 252 k
theorem rcO_rf (s : am_S) : rcO s s := ⟨fun _ _ _ _ => rfl, fun _ _ => rfl⟩
theorem rcO_tr {s1 s2 s3 : am_S} (a : rcO s1 s2) (b : rcO s2 s3) : rcO s1 s3 := ⟨fun i h1 h2 h3 => (b.1 i h1 h2 h3).trans (a.1 i h1 h2 h3), fun k h => (b.2 k h).trans (a.2 k h)⟩
theorem rcO_hp {s s' : am_S} {cl : Nat → Nat} {vl : Nat → Nat → Int32} (h : rcO s s') (hp : HpC s cl vl) : HpC s' cl vl := HpC_same hp (fun i h1 h2 => h.1 i (by omega) (by omega) (by omega))
theorem rcO_pg {s s' : am_S} {p : Nat} {G : pPg} (h : rcO s s') (hp : p ∈ bsP) (hG : PgC s p G) : PgC s' p G := PgC_same hG (fun i h1 h2 => by
  have := bsP_b hp
  exact h.1 i (by omega) (by omega) (by omega))
def rcS (f : am_F) (as : List Value) (s : am_S) (l : List Nat) : Prop := ∃ s', (∀ Q : Option Value → am_H → Prop, am_C f as (TP, s) Q ↔ Q none (TP, s')) ∧ RcC s' l ∧ rcO s s'
theorem e_H_beginCollection : ∃ s', (∀ Q : Option Value → am_H → Prop, am_C f_H_beginCollection [.ref 252] (TP, s) Q ↔ Q none (TP, s')) ∧ RcC s' [] ∧ rcO s s' := by
  refine ⟨zrl (am_wr s 252 5 0) 272 16, fun Q => ?_, ⟨?_, by simp, fun k j h => by simp at h, fun j h => by simp at h, List.nodup_nil, fun j hj => ?_⟩, ⟨fun i q1 q2 q3 => by rw [zrl_off _ _ 16 i (by omega), am_wr_row _ q1], fun k q => by rw [zrl_off _ _ 16 252 (by omega), am_wr_col _ q]⟩⟩
  · rw [c_H_beginCollection]
    have loop : ∀ (r j : Nat), j + r = 16 → ∀ (s : am_S) (jk : List Value), am_W m_H_beginCollection 7 (.ref 252 :: .int (nI j) :: jk) [] (TP, zrl s 272 j) Q ↔ Q none (TP, zrl s 272 16) := by
      intro r
      induction r with
      | zero =>
        intro j hj s jk
        obtain rfl : j = 16 := by omega
        have h1 : (16 : Int32) ≤ nI 16 := by decide
        rw [k_H_beginCollection_7]
        simp only [k_H_beginCollection_0, k_H_beginCollection_1, k_H_beginCollection_2, k_H_beginCollection_5, k_H_beginCollection_6, k_H_beginCollection_8, k_H_beginCollection_10, k_H_beginCollection_13, k_H_beginCollection_14, k_H_beginCollection_17, k_H_beginCollection_18, k_H_beginCollection_19, k_H_beginCollection_20, k_H_beginCollection_23, k_H_beginCollection_26, h1, am_ob_s, List.tail_cons, List.tail_nil, Option.toList_some, Option.toList_none, List.nil_append, List.cons_append, List.length_nil, List.length_cons, Nat.zero_le, true_and, and_true, true_implies, false_implies, not_true_eq_false, not_false_eq_true, implies_true, Nat.reduceAdd, Nat.reduceLeDiff]
      | succ r ih =>
        intro j hj s jk
        have h1 : ¬ (16 : Int32) ≤ nI j := nI_ge (a := j) (b := 16) (by omega) (by decide)
        rw [k_H_beginCollection_7]
        simp only [k_H_beginCollection_0, k_H_beginCollection_1, k_H_beginCollection_2, k_H_beginCollection_5, k_H_beginCollection_6, k_H_beginCollection_8, k_H_beginCollection_10, k_H_beginCollection_13, k_H_beginCollection_14, k_H_beginCollection_17, k_H_beginCollection_18, k_H_beginCollection_19, k_H_beginCollection_20, k_H_beginCollection_23, k_H_beginCollection_26, h1, g_H3, w_H4 (show j < 16 by omega) (Or.inl rfl), nI_1, am_ob_s, List.tail_cons, List.tail_nil, Option.toList_some, Option.toList_none, List.nil_append, List.cons_append, List.length_nil, List.length_cons, Nat.zero_le, true_and, and_true, true_implies, false_implies, not_true_eq_false, not_false_eq_true, implies_true, Nat.reduceAdd, Nat.reduceLeDiff]
        exact ih (j + 1) (by omega) s _
    have := loop 16 0 (by omega) (am_wr s 252 5 0) []
    rw [nI_0] at this
    simp only [k_H_beginCollection_0, k_H_beginCollection_1, k_H_beginCollection_2, k_H_beginCollection_5, k_H_beginCollection_6, p_H5, am_ob_s, List.tail_cons, List.tail_nil, Option.toList_some, Option.toList_none, List.nil_append, List.cons_append, List.length_nil, List.length_cons, Nat.zero_le, true_and, and_true, true_implies, false_implies, not_true_eq_false, not_false_eq_true, implies_true, Nat.reduceAdd, Nat.reduceLeDiff]
    exact this
  · rw [zrl_off _ _ 16 252 (by omega), am_wr_self]
    rfl
  · rw [zrl_at _ _ 16 j hj, zb_f (by simp)]
theorem e_H_reach {l : List Nat} (h : RcC s l) (v : Int32) (t : Nat) (ht : t < 4) : rcS f_H_reach [.ref 252, .int v, .int (nI t)] s (pRch l v t) := by
  obtain ⟨h1, h2, h3, h4, h5, h6⟩ := h
  by_cases ht0 : t = 0
  · subst ht0
    refine ⟨s, fun Q => ?_, by simpa [pRch] using ⟨h1, h2, h3, h4, h5, h6⟩, rcO_rf _⟩
    rw [c_H_reach]
    simp only [k_H_reach_0, k_H_reach_1, k_H_reach_4, k_H_reach_5, k_H_reach_6, k_H_reach_9, k_H_reach_10, k_H_reach_12, k_H_reach_15, k_H_reach_16, k_H_reach_19, k_H_reach_20, k_H_reach_21, k_H_reach_22, k_H_reach_23, k_H_reach_26, k_H_reach_27, k_H_reach_28, k_H_reach_31, k_H_reach_32, k_H_reach_33, k_H_reach_34, k_H_reach_35, k_H_reach_36, k_H_reach_37, k_H_reach_40, k_H_reach_41, k_H_reach_44, k_H_reach_45, k_H_reach_46, k_H_reach_47, k_H_reach_48, k_H_reach_49, k_H_reach_49i, k_H_reach_50, k_H_reach_53, k_H_reach_54, k_H_reach_55, k_H_reach_58, nI_0, am_ob_s, List.tail_cons, List.tail_nil, Option.toList_some, Option.toList_none, List.nil_append, List.cons_append, List.length_nil, List.length_cons, Nat.zero_le, true_and, and_true, true_implies, false_implies, not_true_eq_false, not_false_eq_true, implies_true, Nat.reduceAdd, Nat.reduceLeDiff]
  · have ht1 : ¬ nI t = 0 := nI_ne0 (by omega) (by omega)
    by_cases hv1 : v < 1
    · refine ⟨s, fun Q => ?_, by simpa [pRch, hv1] using ⟨h1, h2, h3, h4, h5, h6⟩, rcO_rf _⟩
      rw [c_H_reach]
      simp only [k_H_reach_0, k_H_reach_1, k_H_reach_4, k_H_reach_5, k_H_reach_6, k_H_reach_9, k_H_reach_10, k_H_reach_12, k_H_reach_15, k_H_reach_16, k_H_reach_19, k_H_reach_20, k_H_reach_21, k_H_reach_22, k_H_reach_23, k_H_reach_26, k_H_reach_27, k_H_reach_28, k_H_reach_31, k_H_reach_32, k_H_reach_33, k_H_reach_34, k_H_reach_35, k_H_reach_36, k_H_reach_37, k_H_reach_40, k_H_reach_41, k_H_reach_44, k_H_reach_45, k_H_reach_46, k_H_reach_47, k_H_reach_48, k_H_reach_49, k_H_reach_49i, k_H_reach_50, k_H_reach_53, k_H_reach_54, k_H_reach_55, k_H_reach_58, ht1, hv1, am_ob_s, List.tail_cons, List.tail_nil, Option.toList_some, Option.toList_none, List.nil_append, List.cons_append, List.length_nil, List.length_cons, Nat.zero_le, true_and, and_true, true_implies, false_implies, not_true_eq_false, not_false_eq_true, implies_true, Nat.reduceAdd, Nat.reduceLeDiff]
    · by_cases hv2 : 16 < v
      · refine ⟨s, fun Q => ?_, by simpa [pRch, hv1, hv2] using ⟨h1, h2, h3, h4, h5, h6⟩, rcO_rf _⟩
        rw [c_H_reach]
        simp only [k_H_reach_0, k_H_reach_1, k_H_reach_4, k_H_reach_5, k_H_reach_6, k_H_reach_9, k_H_reach_10, k_H_reach_12, k_H_reach_15, k_H_reach_16, k_H_reach_19, k_H_reach_20, k_H_reach_21, k_H_reach_22, k_H_reach_23, k_H_reach_26, k_H_reach_27, k_H_reach_28, k_H_reach_31, k_H_reach_32, k_H_reach_33, k_H_reach_34, k_H_reach_35, k_H_reach_36, k_H_reach_37, k_H_reach_40, k_H_reach_41, k_H_reach_44, k_H_reach_45, k_H_reach_46, k_H_reach_47, k_H_reach_48, k_H_reach_49, k_H_reach_49i, k_H_reach_50, k_H_reach_53, k_H_reach_54, k_H_reach_55, k_H_reach_58, ht1, hv1, hv2, am_ob_s, List.tail_cons, List.tail_nil, Option.toList_some, Option.toList_none, List.nil_append, List.cons_append, List.length_nil, List.length_cons, Nat.zero_le, true_and, and_true, true_implies, false_implies, not_true_eq_false, not_false_eq_true, implies_true, Nat.reduceAdd, Nat.reduceLeDiff]
      · obtain ⟨j, hj, rfl⟩ : ∃ j, j < 16 ∧ v = nI (j + 1) := by
          have hp : ¬ v < 0 := fun q => hv1 (Int32.lt_trans q (by decide))
          obtain ⟨a, ha, rfl⟩ := nI_of hp
          have q1 : ¬ a < 1 := fun q => hv1 (nI_lt (b := 1) q (by decide))
          have q2 : ¬ 16 < a := fun q => hv2 (nI_lt (a := 16) q ha)
          exact ⟨a - 1, by omega, by rw [Nat.sub_add_cancel (by omega)]⟩
        have ec : (nI (j + 1) - 1).toNatClampNeg = j := by rw [nI_pred, nI_clamp (by omega)]
        by_cases hm : j ∈ l
        · have e : pRch l (nI (j + 1)) t = l := if_neg (by rw [ec]; simp [hm])
          rw [e]
          refine ⟨s, fun Q => ?_, ⟨h1, h2, h3, h4, h5, h6⟩, rcO_rf _⟩
          have h7 := h6 j hj
          rw [zb_t hm] at h7
          rw [c_H_reach]
          simp only [k_H_reach_0, k_H_reach_1, k_H_reach_4, k_H_reach_5, k_H_reach_6, k_H_reach_9, k_H_reach_10, k_H_reach_12, k_H_reach_15, k_H_reach_16, k_H_reach_19, k_H_reach_20, k_H_reach_21, k_H_reach_22, k_H_reach_23, k_H_reach_26, k_H_reach_27, k_H_reach_28, k_H_reach_31, k_H_reach_32, k_H_reach_33, k_H_reach_34, k_H_reach_35, k_H_reach_36, k_H_reach_37, k_H_reach_40, k_H_reach_41, k_H_reach_44, k_H_reach_45, k_H_reach_46, k_H_reach_47, k_H_reach_48, k_H_reach_49, k_H_reach_49i, k_H_reach_50, k_H_reach_53, k_H_reach_54, k_H_reach_55, k_H_reach_58, ht1, hv1, hv2, g_H3, nI_pred, l_H4 hj, h7, hz10, am_ob_s, List.tail_cons, List.tail_nil, Option.toList_some, Option.toList_none, List.nil_append, List.cons_append, List.length_nil, List.length_cons, Nat.zero_le, true_and, and_true, true_implies, false_implies, not_true_eq_false, not_false_eq_true, implies_true, Nat.reduceAdd, Nat.reduceLeDiff]
        · have e : pRch l (nI (j + 1)) t = l ++ [j] := by
            unfold pRch
            rw [ec, if_pos ⟨ht0, hv1, hv2, hm⟩]
          rw [e]
          have h7 := h6 j hj
          rw [zb_f hm] at h7
          have hnd : (l ++ [j]).Nodup := List.nodup_append.mpr ⟨h5, by simp, fun a ha b hb => by
            have : b = j := by simpa using hb
            subst this
            exact fun q => hm (q ▸ ha)⟩
          have hall : ∀ i, i ∈ l ++ [j] → i < 16 := fun i hi => by
            rcases List.mem_append.mp hi with q | q
            · exact h4 i q
            · have : i = j := by simpa using q
              omega
          have hlen := nodup_le 16 _ hnd hall
          have hl : l.length < 16 := by rw [List.length_append] at hlen; simp at hlen; omega
          refine ⟨am_wr (am_wr (am_wr s 272 j 1) 273 l.length (nI j)) 252 5 (nI (l.length + 1)), fun Q => ?_, ⟨?_, hlen, fun k i hk => ?_, hall, hnd, fun i hi => ?_⟩, ?_⟩
          · have r1 : am_wr s 272 j 1 252 5 = nI l.length := by rw [am_wr_row _ (by omega)]; exact h1
            have r2 : am_wr (am_wr s 272 j 1) 273 l.length (nI j) 252 5 = nI l.length := by rw [am_wr_row _ (by omega)]; exact r1
            rw [c_H_reach]
            simp only [k_H_reach_0, k_H_reach_1, k_H_reach_4, k_H_reach_5, k_H_reach_6, k_H_reach_9, k_H_reach_10, k_H_reach_12, k_H_reach_15, k_H_reach_16, k_H_reach_19, k_H_reach_20, k_H_reach_21, k_H_reach_22, k_H_reach_23, k_H_reach_26, k_H_reach_27, k_H_reach_28, k_H_reach_31, k_H_reach_32, k_H_reach_33, k_H_reach_34, k_H_reach_35, k_H_reach_36, k_H_reach_37, k_H_reach_40, k_H_reach_41, k_H_reach_44, k_H_reach_45, k_H_reach_46, k_H_reach_47, k_H_reach_48, k_H_reach_49, k_H_reach_49i, k_H_reach_50, k_H_reach_53, k_H_reach_54, k_H_reach_55, k_H_reach_58, ht1, hv1, hv2, g_H3, g_H4, g_H5, nI_pred, l_H4 hj, h7, w_H4 hj (Or.inr rfl), r1, r2, w_H5 hl, p_H5, nI_1, am_ob_s, List.tail_cons, List.tail_nil, Option.toList_some, Option.toList_none, List.nil_append, List.cons_append, List.length_nil, List.length_cons, Nat.zero_le, true_and, and_true, true_implies, false_implies, not_true_eq_false, not_false_eq_true, implies_true, Nat.reduceAdd, Nat.reduceLeDiff]
          · rw [am_wr_self]
            simp
          · rw [am_wr_row _ (by omega)]
            by_cases hk2 : k < l.length
            · rw [am_wr_col _ (by omega), am_wr_row _ (by omega)]
              rw [List.getElem?_append_left hk2] at hk
              exact h3 k i hk
            · have hk3 : k = l.length := by
                have := (List.getElem?_eq_some_iff.mp hk).1
                rw [List.length_append] at this
                simp at this
                omega
              subst hk3
              rw [List.getElem?_append_right (Nat.le_refl _)] at hk
              have : j = i := by simpa using hk
              rw [am_wr_self, this]
          · rw [am_wr_row _ (by omega), am_wr_row _ (by omega), am_wr_at]
            by_cases hij : i = j
            · rw [if_pos ⟨rfl, hij⟩, zb_t (by simp [hij])]
            · rw [if_neg (fun q => hij q.2), h6 i hi]
              exact zb_e (by simp [hij])
          · exact ⟨fun i q1 q2 q3 => by rw [am_wr_row _ q1, am_wr_row _ q3, am_wr_row _ q2], fun k q => by rw [am_wr_col _ q, am_wr_row _ (by omega), am_wr_row _ (by omega)]⟩
/-- the rest is taken away -/
def tkc (cl : Nat → Nat) (l : List Nat) (j : Nat) : Nat := if j ∈ l then cl j else 0
theorem e_H_takeAwayTheRest {l : List Nat} (h : RcC s l) (hp : HpC s cl vl) : ∃ s', (∀ Q : Option Value → am_H → Prop, am_C f_H_takeAwayTheRest [.ref 252] (TP, s) Q ↔ Q none (TP, s')) ∧ HpC s' (tkc cl l) vl ∧ s' 252 6 = nI l.length ∧ off 252 254 s s' := by
  have loop : ∀ (r j : Nat), j + r = 16 → ∀ (s1 : am_S), RcC s1 l → HpC s1 (upj (tkc cl l) cl j) vl → ∀ (jk : List Value), ∃ s', (∀ Q : Option Value → am_H → Prop, am_W m_H_takeAwayTheRest 2 (.ref 252 :: .int (nI j) :: jk) [] (TP, s1) Q ↔ Q none (TP, s')) ∧ HpC s' (tkc cl l) vl ∧ s' 252 6 = nI l.length ∧ off 252 254 s1 s' := by
    intro r
    induction r with
    | zero =>
      intro j hj s1 hR hH jk
      obtain rfl : j = 16 := by omega
      have h1 : (16 : Int32) ≤ nI 16 := by decide
      refine ⟨am_wr s1 252 6 (nI l.length), fun Q => ?_, fun i hi => ?_, am_wr_self _ _ _ _, off_wr _ (by omega) (by omega)⟩
      · rw [k_H_takeAwayTheRest_2]
        simp only [k_H_takeAwayTheRest_0, k_H_takeAwayTheRest_1, k_H_takeAwayTheRest_3, k_H_takeAwayTheRest_5, k_H_takeAwayTheRest_8, k_H_takeAwayTheRest_9, k_H_takeAwayTheRest_12, k_H_takeAwayTheRest_13, k_H_takeAwayTheRest_14, k_H_takeAwayTheRest_17, k_H_takeAwayTheRest_18, k_H_takeAwayTheRest_21, k_H_takeAwayTheRest_22, k_H_takeAwayTheRest_23, k_H_takeAwayTheRest_24, k_H_takeAwayTheRest_27, k_H_takeAwayTheRest_30, k_H_takeAwayTheRest_31, k_H_takeAwayTheRest_32, k_H_takeAwayTheRest_35, k_H_takeAwayTheRest_38, h1, g_H5, hR.1, p_H6, am_ob_s, List.tail_cons, List.tail_nil, Option.toList_some, Option.toList_none, List.nil_append, List.cons_append, List.length_nil, List.length_cons, Nat.zero_le, true_and, and_true, true_implies, false_implies, not_true_eq_false, not_false_eq_true, implies_true, Nat.reduceAdd, Nat.reduceLeDiff]
      · rw [am_wr_row _ (by omega), am_wr_row _ (by omega)]
        have := hH i hi
        rw [upj_lt hi] at this
        exact this
    | succ r ih =>
      intro j hj s1 hR hH jk
      have hj' : j < 16 := by omega
      have h1 : ¬ (16 : Int32) ≤ nI j := nI_ge (a := j) (b := 16) (by omega) (by decide)
      have h7 := hR.2.2.2.2.2 j hj'
      by_cases hm : j ∈ l
      · rw [zb_t hm] at h7
        obtain ⟨s', e1, e2, e3, e4⟩ := ih (j + 1) (by omega) s1 hR (fun i hi => by
          have := hH i hi
          by_cases hij : i = j
          · subst hij
            rw [upj_ge (by omega)] at this
            rw [upj_lt (by omega), tkc, if_pos hm]
            exact this
          · rw [upj_ne hij]
            exact this) jk
        refine ⟨s', fun Q => ?_, e2, e3, e4⟩
        rw [k_H_takeAwayTheRest_2]
        simp only [k_H_takeAwayTheRest_0, k_H_takeAwayTheRest_1, k_H_takeAwayTheRest_3, k_H_takeAwayTheRest_5, k_H_takeAwayTheRest_8, k_H_takeAwayTheRest_9, k_H_takeAwayTheRest_12, k_H_takeAwayTheRest_13, k_H_takeAwayTheRest_14, k_H_takeAwayTheRest_17, k_H_takeAwayTheRest_18, k_H_takeAwayTheRest_21, k_H_takeAwayTheRest_22, k_H_takeAwayTheRest_23, k_H_takeAwayTheRest_24, k_H_takeAwayTheRest_27, k_H_takeAwayTheRest_30, k_H_takeAwayTheRest_31, k_H_takeAwayTheRest_32, k_H_takeAwayTheRest_35, k_H_takeAwayTheRest_38, h1, g_H3, l_H4 hj', h7, hz10, nI_1, am_ob_s, List.tail_cons, List.tail_nil, Option.toList_some, Option.toList_none, List.nil_append, List.cons_append, List.length_nil, List.length_cons, Nat.zero_le, true_and, and_true, true_implies, false_implies, not_true_eq_false, not_false_eq_true, implies_true, Nat.reduceAdd, Nat.reduceLeDiff]
        exact e1 Q
      · rw [zb_f hm] at h7
        obtain ⟨s', e1, e2, e3, e4⟩ := ih (j + 1) (by omega) (am_wr s1 253 j 0) (by
          obtain ⟨h1, h2, h3, h4, h5, h6⟩ := hR
          refine ⟨by rw [am_wr_row _ (by omega)]; exact h1, h2, fun k i q => by rw [am_wr_row _ (by omega)]; exact h3 k i q, h4, h5, fun i hi => by rw [am_wr_row _ (by omega)]; exact h6 i hi⟩) (fun i hi => by
          have := hH i hi
          rw [am_wr_row (i' := 255 + i) _ (by omega)]
          by_cases hij : i = j
          · subst hij
            rw [upj_lt (by omega), tkc, if_neg hm, am_wr_self]
            exact ⟨rfl, by omega, this.2.2⟩
          · rw [upj_ne hij, am_wr_col _ hij]
            exact this) jk
        refine ⟨s', fun Q => ?_, e2, e3, off_tr (off_wr _ (by omega) (by omega)) e4⟩
        rw [k_H_takeAwayTheRest_2]
        simp only [k_H_takeAwayTheRest_0, k_H_takeAwayTheRest_1, k_H_takeAwayTheRest_3, k_H_takeAwayTheRest_5, k_H_takeAwayTheRest_8, k_H_takeAwayTheRest_9, k_H_takeAwayTheRest_12, k_H_takeAwayTheRest_13, k_H_takeAwayTheRest_14, k_H_takeAwayTheRest_17, k_H_takeAwayTheRest_18, k_H_takeAwayTheRest_21, k_H_takeAwayTheRest_22, k_H_takeAwayTheRest_23, k_H_takeAwayTheRest_24, k_H_takeAwayTheRest_27, k_H_takeAwayTheRest_30, k_H_takeAwayTheRest_31, k_H_takeAwayTheRest_32, k_H_takeAwayTheRest_35, k_H_takeAwayTheRest_38, h1, g_H0, g_H3, l_H4 hj', h7, w_H1 hj', nI_1, am_ob_s, List.tail_cons, List.tail_nil, Option.toList_some, Option.toList_none, List.nil_append, List.cons_append, List.length_nil, List.length_cons, Nat.zero_le, true_and, and_true, true_implies, false_implies, not_true_eq_false, not_false_eq_true, implies_true, Nat.reduceAdd, Nat.reduceLeDiff]
        exact e1 Q
  obtain ⟨s', e1, e2, e3, e4⟩ := loop 16 0 (by omega) s h (fun i hi => by
    have := hp i hi
    rw [upj_ge (by omega)]
    exact this) []
  refine ⟨s', fun Q => ?_, e2, e3, e4⟩
  rw [nI_0] at e1
  rw [c_H_takeAwayTheRest]
  simp only [k_H_takeAwayTheRest_0, k_H_takeAwayTheRest_1, am_ob_s, List.tail_cons, List.tail_nil, Option.toList_some, Option.toList_none, List.nil_append, List.cons_append, List.length_nil, List.length_cons, Nat.zero_le, true_and, and_true, true_implies, false_implies, not_true_eq_false, not_false_eq_true, implies_true, Nat.reduceAdd, Nat.reduceLeDiff]
  exact e1 Q
end SH
