/-! Runner: frames and collections -/
def cnt (cl : Nat → Nat) : Nat → Nat
  | 0 => 0
  | j + 1 => if cl j = 0 then cnt cl j else cnt cl j + 1
/-- frames (top first), status, result, kinds of rows, values of rows, outputs, their count -/
abbrev pMc : Type := List pFr × Int32 × Int32 × (Nat → Nat) × (Nat → Nat → Int32) × (Nat → Int32) × Int32
def RnC (s : am_S) (σ : pMc) : Prop := s 250 3 = nI σ.1.length ∧ σ.1.length ≤ 8 ∧ (∀ (k : Nat) (F : pFr), σ.1.reverse[k]? = some F → FrC s (276 + 4 * k) F) ∧ s 250 4 = σ.2.1 ∧ s 250 5 = σ.2.2.1 ∧ HpC s σ.2.2.2.1 σ.2.2.2.2.1 ∧ s 252 6 = nI (cnt σ.2.2.2.1 16) ∧ (∀ j, j < 16 → s 275 j = σ.2.2.2.2.2.1 j) ∧ s 274 1 = σ.2.2.2.2.2.2
def uS (f : am_F) (as : List Value) (s : am_S) (σ : pMc) : Prop := ∃ s', (∀ Q : Option Value → am_H → Prop, am_C f as (TP, s) Q ↔ Q none (TP, s')) ∧ RnC s' σ ∧ off 250 308 s s'
theorem RnC_same {s s' : am_S} {σ : pMc} (h : RnC s σ) (e : sameOn 250 308 s s') : RnC s' σ := by
  obtain ⟨h1, h2, h3, h4, h5, h6, h7, h8, h9⟩ := h
  have e1 := e 250 (by omega) (by omega)
  have e2 := e 252 (by omega) (by omega)
  have e3 := e 275 (by omega) (by omega)
  have e4 := e 274 (by omega) (by omega)
  refine ⟨by rw [e1]; exact h1, h2, fun k F hk => FrC_same (h3 k F hk) (fun i q1 q2 => e i (by omega) ?_), by rw [e1]; exact h4, by rw [e1]; exact h5, HpC_same h6 (fun i q1 q2 => e i (by omega) (by omega)), by rw [e2]; exact h7, by rw [e3]; exact h8, by rw [e4]; exact h9⟩
  have := (List.getElem?_eq_some_iff.mp hk).1
  rw [List.length_reverse] at this
  omega
/-- the top frame's row -/
theorem RnC_top {s : am_S} {F : pFr} {R : List pFr} {ρ : Int32 × Int32 × (Nat → Nat) × (Nat → Nat → Int32) × (Nat → Int32) × Int32} (h : RnC s (F :: R, ρ)) : FrC s (276 + 4 * R.length) F ∧ R.length < 8 ∧ s 250 3 = nI (R.length + 1) := ⟨h.2.2.1 R.length F (rev_top F R), (by have := h.2.1; dsimp only [List.length_cons] at this; omega), h.1⟩
theorem RnC_topTo {s s' : am_S} {F F' : pFr} {R : List pFr} {ρ : Int32 × Int32 × (Nat → Nat) × (Nat → Nat → Int32) × (Nat → Int32) × Int32} (h : RnC s (F :: R, ρ)) (hF : FrC s' (276 + 4 * R.length) F') (hO : off (276 + 4 * R.length) (276 + 4 * R.length + 4) s s') : RnC s' (F' :: R, ρ) := by
  obtain ⟨h1, h2, h3, h4, h5, h6, h7, h8, h9⟩ := h
  have e := fun i (hi : i < 276) => hO i (by omega)
  refine ⟨by rw [e 250 (by omega)]; exact h1, h2, fun k A hk => ?_, by rw [e 250 (by omega)]; exact h4, by rw [e 250 (by omega)]; exact h5, HpC_same h6 (fun i q1 q2 => e i (by omega)), by rw [e 252 (by omega)]; exact h7, fun j hj => by rw [e 275 (by omega)]; exact h8 j hj, by rw [e 274 (by omega)]; exact h9⟩
  rcases rev_cons hk with ⟨q1, q2⟩ | ⟨rfl, rfl⟩
  · exact FrC_same (h3 k A (rev_low q2)) (fun i g1 g2 => hO i (by omega))
  · exact hF
theorem RnC_off {s s' : am_S} {F : pFr} {R : List pFr} {ρ : Int32 × Int32 × (Nat → Nat) × (Nat → Nat → Int32) × (Nat → Int32) × Int32} (h : RnC s (F :: R, ρ)) (hO : off (276 + 4 * R.length) (276 + 4 * R.length + 4) s s') : off 250 308 s s' := off_up hO (by omega) (by have := (RnC_top h).2.1; omega)
section SU
variable {s : am_S} {σ : pMc} {p : Nat} {G : pPg} {Q : Option Value → am_H → Prop}
theorem e_U_goesOn : am_C f_U_goesOn [.ref 250] (TP, s) Q ↔ Q (some (.int (zb (s 250 4 = 1)))) (TP, s) := by
  rw [c_U_goesOn]
  simp only [k_U_goesOn_0, k_U_goesOn_1, k_U_goesOn_4, k_U_goesOn_5, k_U_goesOn_8, k_U_goesOn_9, k_U_goesOn_12, k_U_goesOn_13, g_U4, am_ob_s, List.tail_cons, List.tail_nil, Option.toList_some, Option.toList_none, List.nil_append, List.cons_append, List.length_nil, List.length_cons, Nat.zero_le, true_and, and_true, true_implies, false_implies, not_true_eq_false, not_false_eq_true, implies_true, or_true, true_or, Nat.reduceAdd, Nat.reduceLeDiff]
  by_cases h : s 250 4 = 1
  · rw [zb_t h]; simp [h]
  · rw [zb_f h]; simp [h]
theorem e_U_end (h : RnC s σ) (v : Int32) : uS f_U_end [.ref 250, .int v] s ([], v, σ.2.2) := by
  refine ⟨am_wr (am_wr s 250 4 v) 250 3 0, fun Q => ?_, ?_, off_tr (off_wr _ (by omega) (by omega)) (off_wr _ (by omega) (by omega))⟩
  · rw [c_U_end]
    simp only [k_U_end_0, k_U_end_1, k_U_end_2, k_U_end_5, k_U_end_6, k_U_end_7, k_U_end_10, p_U4, p_U3, am_ob_s, List.tail_cons, List.tail_nil, Option.toList_some, Option.toList_none, List.nil_append, List.cons_append, List.length_nil, List.length_cons, Nat.zero_le, true_and, and_true, true_implies, false_implies, not_true_eq_false, not_false_eq_true, implies_true, or_true, true_or, Nat.reduceAdd, Nat.reduceLeDiff]
  · obtain ⟨h1, h2, h3, h4, h5, h6, h7, h8, h9⟩ := h
    have e : ∀ i, i ≠ 250 → am_wr (am_wr s 250 4 v) 250 3 0 i = s i := fun i hi => by rw [am_wr_row _ hi, am_wr_row _ hi]
    refine ⟨am_wr_self _ _ _ _, by simp, fun k F hk => by simp at hk, by rw [am_wr_col _ (by omega), am_wr_self], by rw [am_wr_col _ (by omega), am_wr_col _ (by omega)]; exact h5, HpC_same h6 (fun i q1 q2 => e i (by omega)), by rw [e 252 (by omega)]; exact h7, fun j hj => by rw [e 275 (by omega)]; exact h8 j hj, by rw [e 274 (by omega)]; exact h9⟩
theorem e_U_begin (h : RnC s σ) {m : Nat} : uS f_U_begin [.ref 250, .int (nI m)] s ([(m, 0, fun _ => 0, [])], 1, 0, σ.2.2.2) := by
  obtain ⟨s', c1, c2, c3⟩ := e_F_begin (b := 276) (bU_F (m := 0) (by omega)) (am_wr (am_wr (am_wr s 250 4 1) 250 5 0) 250 3 1) m
  have e : ∀ i, i < 276 → i ≠ 250 → s' i = s i := fun i hi hi2 => by rw [c3 i (by omega), am_wr_row _ hi2, am_wr_row _ hi2, am_wr_row _ hi2]
  have e0 : s' 250 = am_wr (am_wr (am_wr s 250 4 1) 250 5 0) 250 3 1 250 := c3 250 (by omega)
  refine ⟨s', fun Q => ?_, ?_, ?_⟩
  · rw [c_U_begin]
    have a0 := a_U (s := am_wr (am_wr (am_wr s 250 4 1) 250 5 0) 250 3 1) (m := 0) (by omega)
    rw [nI_0] at a0
    simp only [k_U_begin_0, k_U_begin_1, k_U_begin_2, k_U_begin_5, k_U_begin_6, k_U_begin_7, k_U_begin_10, k_U_begin_11, k_U_begin_12, k_U_begin_15, k_U_begin_16, k_U_begin_19, k_U_begin_20, k_U_begin_21, k_U_begin_22, k_U_begin_25, p_U4, p_U5, p_U3, g_U0, a0, Nat.mul_zero, Nat.add_zero, rc_F (bU_F (m := 0) (by omega)), c1, am_ob_s, List.tail_cons, List.tail_nil, Option.toList_some, Option.toList_none, List.nil_append, List.cons_append, List.length_nil, List.length_cons, Nat.zero_le, true_and, and_true, true_implies, false_implies, not_true_eq_false, not_false_eq_true, implies_true, or_true, true_or, Nat.reduceAdd, Nat.reduceLeDiff]
  · obtain ⟨h1, h2, h3, h4, h5, h6, h7, h8, h9⟩ := h
    refine ⟨by rw [e0, am_wr_self]; rfl, by simp, fun k F hk => ?_, by rw [e0, am_wr_col _ (by omega), am_wr_col _ (by omega), am_wr_self], by rw [e0, am_wr_col _ (by omega), am_wr_self], HpC_same h6 (fun i q1 q2 => e i (by omega) (by omega)), by rw [e 252 (by omega) (by omega)]; exact h7, fun j hj => by rw [e 275 (by omega) (by omega)]; exact h8 j hj, by rw [e 274 (by omega) (by omega)]; exact h9⟩
    rcases rev_cons (r := []) hk with ⟨q1, q2⟩ | ⟨rfl, rfl⟩
    · simp at q1
    · exact c2
  · exact off_tr (off_tr (off_tr (off_wr _ (by omega) (by omega)) (off_wr _ (by omega) (by omega))) (off_wr _ (by omega) (by omega))) (off_up c3 (by omega) (by omega))
/-- some frame is of one of the methods -/
def pHas (FS : List pFr) (v : Int32) : Prop := ∃ F ∈ FS, ¬ (v >>> (nI F.1 &&& 31)) &&& 1 = 0
theorem e_U_hasFrameOfOneOf (h : RnC s σ) (v : Int32) : am_C f_U_hasFrameOfOneOf [.ref 250, .int v] (TP, s) Q ↔ Q (some (.int (zb (pHas σ.1 v)))) (TP, s) := by
  rw [c_U_hasFrameOfOneOf]
  have h8 := h.2.1
  have loop : ∀ (r j : Nat), j + r = σ.1.length → (∀ (k : Nat) (F : pFr), k < j → σ.1.reverse[k]? = some F → (v >>> (nI F.1 &&& 31)) &&& 1 = 0) → ∀ (jk : List Value), am_W m_U_hasFrameOfOneOf 2 (.ref 250 :: .int v :: .int (nI j) :: jk) [] (TP, s) Q ↔ Q (some (.int (zb (pHas σ.1 v)))) (TP, s) := by
    intro r
    induction r with
    | zero =>
      intro j hj hn jk
      have h1 : nI σ.1.length ≤ nI j := nI_le (by omega) (by omega)
      have hz : ¬ pHas σ.1 v := fun ⟨F, q1, q2⟩ => by
        obtain ⟨k, hk⟩ := List.getElem?_of_mem (List.mem_reverse.mpr q1)
        have := (List.getElem?_eq_some_iff.mp hk).1
        rw [List.length_reverse] at this
        exact q2 (hn k F (by omega) hk)
      rw [zb_f hz, k_U_hasFrameOfOneOf_2]
      simp only [k_U_hasFrameOfOneOf_0, k_U_hasFrameOfOneOf_1, k_U_hasFrameOfOneOf_3, k_U_hasFrameOfOneOf_4, k_U_hasFrameOfOneOf_7, k_U_hasFrameOfOneOf_10, k_U_hasFrameOfOneOf_11, k_U_hasFrameOfOneOf_12, k_U_hasFrameOfOneOf_15, k_U_hasFrameOfOneOf_16, k_U_hasFrameOfOneOf_17, k_U_hasFrameOfOneOf_20, k_U_hasFrameOfOneOf_21, k_U_hasFrameOfOneOf_22, k_U_hasFrameOfOneOf_23, k_U_hasFrameOfOneOf_26, k_U_hasFrameOfOneOf_27, k_U_hasFrameOfOneOf_28, k_U_hasFrameOfOneOf_31, k_U_hasFrameOfOneOf_34, k_U_hasFrameOfOneOf_35, g_U3, h.1, h1, am_ob_s, List.tail_cons, List.tail_nil, Option.toList_some, Option.toList_none, List.nil_append, List.cons_append, List.length_nil, List.length_cons, Nat.zero_le, true_and, and_true, true_implies, false_implies, not_true_eq_false, not_false_eq_true, implies_true, or_true, true_or, Nat.reduceAdd, Nat.reduceLeDiff]
    | succ r ih =>
      intro j hj hn jk
      have h1 : ¬ nI σ.1.length ≤ nI j := nI_ge (by omega) (by omega)
      obtain ⟨F, hF⟩ : ∃ F, σ.1.reverse[j]? = some F := ⟨_, List.getElem?_eq_getElem (by rw [List.length_reverse]; omega)⟩
      have hf := (h.2.2.1 j F hF).1
      rw [k_U_hasFrameOfOneOf_2]
      by_cases hz : (v >>> (nI F.1 &&& 31)) &&& 1 = 0
      · simp only [k_U_hasFrameOfOneOf_0, k_U_hasFrameOfOneOf_1, k_U_hasFrameOfOneOf_3, k_U_hasFrameOfOneOf_4, k_U_hasFrameOfOneOf_7, k_U_hasFrameOfOneOf_10, k_U_hasFrameOfOneOf_11, k_U_hasFrameOfOneOf_12, k_U_hasFrameOfOneOf_15, k_U_hasFrameOfOneOf_16, k_U_hasFrameOfOneOf_17, k_U_hasFrameOfOneOf_20, k_U_hasFrameOfOneOf_21, k_U_hasFrameOfOneOf_22, k_U_hasFrameOfOneOf_23, k_U_hasFrameOfOneOf_26, k_U_hasFrameOfOneOf_27, k_U_hasFrameOfOneOf_28, k_U_hasFrameOfOneOf_31, k_U_hasFrameOfOneOf_34, k_U_hasFrameOfOneOf_35, g_U3, g_U0, h.1, h1, a_U (show j < 8 by omega), g_F4 (bU_F (show j < 8 by omega)), hf, hz, nI_1, am_ob_s, List.tail_cons, List.tail_nil, Option.toList_some, Option.toList_none, List.nil_append, List.cons_append, List.length_nil, List.length_cons, Nat.zero_le, true_and, and_true, true_implies, false_implies, not_true_eq_false, not_false_eq_true, implies_true, or_true, true_or, Nat.reduceAdd, Nat.reduceLeDiff]
        exact ih (j + 1) (by omega) (fun k A hk hA => by
          by_cases hkj : k = j
          · subst hkj
            rw [hF] at hA
            obtain rfl := Option.some.inj hA
            exact hz
          · exact hn k A (by omega) hA) _
      · have hp : pHas σ.1 v := ⟨F, List.mem_reverse.mp (List.mem_of_getElem? hF), hz⟩
        rw [zb_t hp]
        simp only [k_U_hasFrameOfOneOf_0, k_U_hasFrameOfOneOf_1, k_U_hasFrameOfOneOf_3, k_U_hasFrameOfOneOf_4, k_U_hasFrameOfOneOf_7, k_U_hasFrameOfOneOf_10, k_U_hasFrameOfOneOf_11, k_U_hasFrameOfOneOf_12, k_U_hasFrameOfOneOf_15, k_U_hasFrameOfOneOf_16, k_U_hasFrameOfOneOf_17, k_U_hasFrameOfOneOf_20, k_U_hasFrameOfOneOf_21, k_U_hasFrameOfOneOf_22, k_U_hasFrameOfOneOf_23, k_U_hasFrameOfOneOf_26, k_U_hasFrameOfOneOf_27, k_U_hasFrameOfOneOf_28, k_U_hasFrameOfOneOf_31, k_U_hasFrameOfOneOf_34, k_U_hasFrameOfOneOf_35, g_U3, g_U0, h.1, h1, a_U (show j < 8 by omega), g_F4 (bU_F (show j < 8 by omega)), hf, hz, am_ob_s, List.tail_cons, List.tail_nil, Option.toList_some, Option.toList_none, List.nil_append, List.cons_append, List.length_nil, List.length_cons, Nat.zero_le, true_and, and_true, true_implies, false_implies, not_true_eq_false, not_false_eq_true, implies_true, or_true, true_or, Nat.reduceAdd, Nat.reduceLeDiff]
  have := loop _ 0 (Nat.zero_add _) (fun k F hk => absurd hk (by omega)) []
  rw [nI_0] at this
  simp only [k_U_hasFrameOfOneOf_0, k_U_hasFrameOfOneOf_1, am_ob_s, List.tail_cons, List.tail_nil, Option.toList_some, Option.toList_none, List.nil_append, List.cons_append, List.length_nil, List.length_cons, Nat.zero_le, true_and, and_true, true_implies, false_implies, not_true_eq_false, not_false_eq_true, implies_true, or_true, true_or, Nat.reduceAdd, Nat.reduceLeDiff]
  exact this
/-- what a frame leads to -/
def rchL (K : Nat) (f : Nat → Int32) : Nat → Nat → List Nat → List Nat
  | _, 0, l => l
  | i, r + 1, l => rchL K f (i + 1) r (pRch l (f i) (lk K i))
def rchSt (l : List Nat) (st : List (Int32 × Nat)) : List Nat := st.foldl (fun l e => pRch l e.1 e.2) l
def rchFr (K : Nat) (F : pFr) (l : List Nat) : List Nat := rchSt (rchL K F.2.2.1 0 4 l) F.2.2.2.reverse
theorem rcO_fr {s s' : am_S} {b : Nat} {F : pFr} (h : rcO s s') (hb : b ∈ bsF) (hF : FrC s b F) : FrC s' b F := FrC_same hF (fun i q1 q2 => by
  have : ∀ b ∈ bsF, 276 ≤ b := by decide
  have := this b hb
  exact h.1 i (by omega) (by omega) (by omega))
theorem rcO_ro {s s' : am_S} {b : Nat} {R : pRo} (h : rcO s s') (hb : b ∈ bsR) (hR : RoC s b R) : RoC s' b R := RoC_same hR (fun i q1 q2 => by
  have := bsR_d hb
  exact h.1 i (by omega) (by omega) (by omega))
theorem e_U_reachFrom {b r0 : Nat} (hb : b ∈ bsF) (hr : r0 ∈ bsR) {F : pFr} {R : pRo} (hF : FrC s b F) (hR : RoC s r0 R) (ht : ∀ e ∈ F.2.2.2, e.2 < 4) {l : List Nat} (h : RcC s l) : rcS f_U_reachFrom [.ref 250, .ref b, .ref r0] s (rchFr R.2.1 F l) := by
  have h6 := hF.2.2.2.2.1
  have loop2 : ∀ (r j : Nat), j + r = F.2.2.2.length → ∀ (s1 : am_S) (l : List Nat), RcC s1 l → rcO s s1 → ∀ (jk : List Value), ∃ s', (∀ Q : Option Value → am_H → Prop, am_W m_U_reachFrom 34 (.ref 250 :: .ref b :: .ref r0 :: .int (nI j) :: jk) [] (TP, s1) Q ↔ Q none (TP, s')) ∧ RcC s' (rchSt l (F.2.2.2.reverse.drop j)) ∧ rcO s s' := by
    intro r
    induction r with
    | zero =>
      intro j hj s1 l hR1 hO jk
      have h1 : nI F.2.2.2.length ≤ nI j := nI_le (by omega) (by omega)
      have hF1 := rcO_fr hO hb hF
      refine ⟨s1, fun Q => ?_, ?_, hO⟩
      · rw [k_U_reachFrom_34]
        simp only [k_U_reachFrom_35, k_U_reachFrom_36, k_U_reachFrom_39, k_U_reachFrom_42, k_U_reachFrom_43, k_U_reachFrom_46, k_U_reachFrom_47, k_U_reachFrom_50, k_U_reachFrom_51, k_U_reachFrom_52, k_U_reachFrom_53, k_U_reachFrom_56, k_U_reachFrom_57, k_U_reachFrom_58, k_U_reachFrom_61, k_U_reachFrom_64, k_U_reachFrom_67, g_F3 hb, hF1.2.2.2.1, h1, am_ob_s, List.tail_cons, List.tail_nil, Option.toList_some, Option.toList_none, List.nil_append, List.cons_append, List.length_nil, List.length_cons, Nat.zero_le, true_and, and_true, true_implies, false_implies, not_true_eq_false, not_false_eq_true, implies_true, or_true, true_or, Nat.reduceAdd, Nat.reduceLeDiff]
      · rw [List.drop_eq_nil_of_le (by rw [List.length_reverse]; omega)]
        exact hR1
    | succ r ih =>
      intro j hj s1 l hR1 hO jk
      have h1 : ¬ nI F.2.2.2.length ≤ nI j := nI_ge (by omega) (by omega)
      have hF1 := rcO_fr hO hb hF
      have hjl : j < F.2.2.2.reverse.length := by rw [List.length_reverse]; omega
      obtain ⟨e, he, hm⟩ : ∃ e, F.2.2.2.reverse[j]? = some e ∧ F.2.2.2.reverse.drop j = e :: F.2.2.2.reverse.drop (j + 1) := ⟨F.2.2.2.reverse[j], List.getElem?_eq_getElem hjl, List.drop_eq_getElem_cons hjl⟩
      have hv := hF1.2.2.2.2.2 j e he
      obtain ⟨s2, c1, c2, c3⟩ := e_H_reach hR1 e.1 e.2 (ht e (List.mem_reverse.mp (List.mem_of_getElem? he)))
      obtain ⟨s', d1, d2, d3⟩ := ih (j + 1) (by omega) s2 _ c2 (rcO_tr hO c3) jk
      refine ⟨s', fun Q => ?_, ?_, d3⟩
      · rw [k_U_reachFrom_34]
        simp only [k_U_reachFrom_35, k_U_reachFrom_36, k_U_reachFrom_39, k_U_reachFrom_42, k_U_reachFrom_43, k_U_reachFrom_46, k_U_reachFrom_47, k_U_reachFrom_50, k_U_reachFrom_51, k_U_reachFrom_52, k_U_reachFrom_53, k_U_reachFrom_56, k_U_reachFrom_57, k_U_reachFrom_58, k_U_reachFrom_61, k_U_reachFrom_64, g_F3 hb, g_F1 hb, g_F2 hb, hF1.2.2.2.1, h1, g_U1, l_F2 hb (show j < 6 by omega), l_F3 hb (show j < 6 by omega), hv.1, hv.2, rc_H, c1, nI_1, am_ob_s, List.tail_cons, List.tail_nil, Option.toList_some, Option.toList_none, List.nil_append, List.cons_append, List.length_nil, List.length_cons, Nat.zero_le, true_and, and_true, true_implies, false_implies, not_true_eq_false, not_false_eq_true, implies_true, or_true, true_or, Nat.reduceAdd, Nat.reduceLeDiff]
        exact d1 Q
      · rw [hm]
        exact d2
  have loop1 : ∀ (r j : Nat), j + r = 4 → ∀ (s1 : am_S) (l : List Nat), RcC s1 l → rcO s s1 → ∀ (jk : List Value), ∃ s', (∀ Q : Option Value → am_H → Prop, am_W m_U_reachFrom 2 (.ref 250 :: .ref b :: .ref r0 :: .int (nI j) :: jk) [] (TP, s1) Q ↔ Q none (TP, s')) ∧ RcC s' (rchSt (rchL R.2.1 F.2.2.1 j r l) F.2.2.2.reverse) ∧ rcO s s' := by
    intro r
    induction r with
    | zero =>
      intro j hj s1 l hR1 hO jk
      obtain rfl : j = 4 := by omega
      have h1 : (4 : Int32) ≤ nI 4 := by decide
      obtain ⟨s', d1, d2, d3⟩ := loop2 _ 0 (Nat.zero_add _) s1 l hR1 hO jk
      refine ⟨s', fun Q => ?_, (by rw [List.drop_zero] at d2; exact d2), d3⟩
      rw [k_U_reachFrom_2]
      simp only [k_U_reachFrom_3, k_U_reachFrom_4, k_U_reachFrom_32, k_U_reachFrom_33, h1, am_ob_s, List.tail_cons, List.tail_nil, Option.toList_some, Option.toList_none, List.nil_append, List.cons_append, List.length_nil, List.length_cons, Nat.zero_le, true_and, and_true, true_implies, false_implies, not_true_eq_false, not_false_eq_true, implies_true, or_true, true_or, Nat.reduceAdd, Nat.reduceLeDiff]
      rw [nI_0] at d1
      exact d1 Q
    | succ r ih =>
      intro j hj s1 l hR1 hO jk
      have h1 : ¬ (4 : Int32) ≤ nI j := nI_ge (b := 4) (by omega) (by decide)
      have hF1 := rcO_fr hO hb hF
      have hR2 := rcO_ro hO hr hR
      have hv := hF1.2.2.1 j (by omega)
      have hk := hR2.2.1 j (by omega)
      obtain ⟨s2, c1, c2, c3⟩ := e_H_reach hR1 (F.2.2.1 j) (lk R.2.1 j) (lk_lt _ _)
      obtain ⟨s', d1, d2, d3⟩ := ih (j + 1) (by omega) s2 _ c2 (rcO_tr hO c3) jk
      refine ⟨s', fun Q => ?_, d2, d3⟩
      rw [k_U_reachFrom_2]
      simp only [k_U_reachFrom_3, k_U_reachFrom_4, k_U_reachFrom_7, k_U_reachFrom_8, k_U_reachFrom_11, k_U_reachFrom_12, k_U_reachFrom_15, k_U_reachFrom_16, k_U_reachFrom_17, k_U_reachFrom_18, k_U_reachFrom_21, k_U_reachFrom_22, k_U_reachFrom_23, k_U_reachFrom_26, k_U_reachFrom_29, h1, g_U1, g_F0 hb, g_R0 hr, l_F1 hb (show j < 4 by omega), l_R1 hr (show j < 4 by omega), hv, hk, rc_H, c1, nI_1, am_ob_s, List.tail_cons, List.tail_nil, Option.toList_some, Option.toList_none, List.nil_append, List.cons_append, List.length_nil, List.length_cons, Nat.zero_le, true_and, and_true, true_implies, false_implies, not_true_eq_false, not_false_eq_true, implies_true, or_true, true_or, Nat.reduceAdd, Nat.reduceLeDiff]
      exact d1 Q
  obtain ⟨s', d1, d2, d3⟩ := loop1 4 0 (by omega) s l h (rcO_rf s) []
  refine ⟨s', fun Q => ?_, d2, d3⟩
  rw [nI_0] at d1
  rw [c_U_reachFrom]
  simp only [k_U_reachFrom_0, k_U_reachFrom_1, am_ob_s, List.tail_cons, List.tail_nil, Option.toList_some, Option.toList_none, List.nil_append, List.cons_append, List.length_nil, List.length_cons, Nat.zero_le, true_and, and_true, true_implies, false_implies, not_true_eq_false, not_false_eq_true, implies_true, or_true, true_or, Nat.reduceAdd, Nat.reduceLeDiff]
  exact d1 Q
end SU
