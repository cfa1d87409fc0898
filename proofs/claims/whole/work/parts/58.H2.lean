/-! Heap: what is followed, what is moved -/
def rchF (L : pLy) (v : Nat → Int32) : Nat → Nat → List Nat → List Nat
  | _, 0, l => l
  | k, r + 1, l => rchF L v (k + 1) r (pRch l (v k) ((L[k]?.map (fun e => e.2.1)).getD 0))
def rof (cl : Nat → Nat) (vl : Nat → Nat → Int32) (G : Nat → pLy) : Nat → Nat → List Nat → List Nat
  | _, 0, l => l
  | i, r + 1, l => match l[i]? with
    | none => l
    | some row => rof cl vl G (i + 1) r (rchF (G (cl row)) (vl row) 0 (G (cl row)).length l)
/-- kinds of fields are in range -/
def okL (G : Nat → pLy) : Prop := ∀ c, c < 4 → ∀ (k : Nat) (e : Nat × Nat × Int32), (G c)[k]? = some e → e.2.1 < 4
section SH2
variable {s : am_S} {cl : Nat → Nat} {vl : Nat → Nat → Int32} {p q : Nat} {G G' : pPg}
theorem e_H_reachOverFields (hp : p ∈ bsP) (hG : PgC s p G) (hL : okL G.1) (hH : HpC s cl vl) {l : List Nat} (h : RcC s l) : rcS f_H_reachOverFields [.ref 252, .ref p] s (rof cl vl G.1 0 16 l) := by
  have inner : ∀ (i row : Nat), row < 16 → ∀ (r k : Nat), k + r = (G.1 (cl row)).length → ∀ (s1 : am_S) (l : List Nat), RcC s1 l → rcO s s1 → ∀ (jk : List Value), ∃ s', (∃ jk', ∀ Q : Option Value → am_H → Prop, am_W m_H_reachOverFields 39 (.ref 252 :: .ref p :: .int (nI i) :: .int (nI row) :: .ref (p + 3 + 4 * cl row) :: .int (nI k) :: jk) [] (TP, s1) Q ↔ am_W m_H_reachOverFields 76 (.ref 252 :: .ref p :: .int (nI i) :: jk') [] (TP, s') Q) ∧ RcC s' (rchF (G.1 (cl row)) (vl row) k r l) ∧ rcO s s' := by
    intro i row hrow r
    have hc : cl row < 4 := (hH row hrow).2.1
    have hb := bP_L hp hc
    have h4 := (hG.1 (cl row) hc).2.1
    induction r with
    | zero =>
      intro k hk s1 l hR hO jk
      have hG1 := (rcO_pg hO hp hG).1 (cl row) hc
      have h1 : nI (G.1 (cl row)).length ≤ nI k := nI_le (by omega) (by omega)
      refine ⟨s1, ⟨.int (nI row) :: .ref (p + 3 + 4 * cl row) :: .int (nI k) :: jk, fun Q => ?_⟩, hR, hO⟩
      rw [k_H_reachOverFields_39]
      simp only [k_H_reachOverFields_41, k_H_reachOverFields_43, k_H_reachOverFields_46, g_L3 hb, hG1.1, h1, am_ob_s, List.tail_cons, List.tail_nil, Option.toList_some, Option.toList_none, List.nil_append, List.cons_append, List.length_nil, List.length_cons, Nat.zero_le, true_and, and_true, true_implies, false_implies, not_true_eq_false, not_false_eq_true, implies_true, Nat.reduceAdd, Nat.reduceLeDiff]
    | succ r ih =>
      intro k hk s1 l hR hO jk
      have hG1 := (rcO_pg hO hp hG).1 (cl row) hc
      have hH1 := rcO_hp hO hH
      have h1 : ¬ nI (G.1 (cl row)).length ≤ nI k := nI_ge (by omega) (by omega)
      obtain ⟨e, he⟩ : ∃ e, (G.1 (cl row))[k]? = some e := ⟨_, List.getElem?_eq_getElem (by omega)⟩
      have hk4 : k < 4 := by omega
      have hv := (hH1 row hrow).2.2 k hk4
      have hty := (hG1.2.2 k e he).2.1
      obtain ⟨s2, c1, c2, c3⟩ := e_H_reach hR (vl row k) e.2.1 (hL _ hc k e he)
      obtain ⟨s', ⟨jk', d1⟩, d2, d3⟩ := ih (k + 1) (by omega) s2 _ c2 (rcO_tr hO c3) jk
      refine ⟨s', ⟨jk', fun Q => ?_⟩, ?_, d3⟩
      · rw [k_H_reachOverFields_39]
        simp only [k_H_reachOverFields_41, k_H_reachOverFields_43, k_H_reachOverFields_46, k_H_reachOverFields_49, k_H_reachOverFields_50, k_H_reachOverFields_51, k_H_reachOverFields_54, k_H_reachOverFields_55, k_H_reachOverFields_56, k_H_reachOverFields_58, k_H_reachOverFields_59, k_H_reachOverFields_61, k_H_reachOverFields_64, k_H_reachOverFields_66, k_H_reachOverFields_67, k_H_reachOverFields_70, k_H_reachOverFields_73, g_L3 hb, g_L1 hb, hG1.1, h1, g_H1, a_H hrow, l_Hr hrow hk4, l_L2 hb hk4, hv, hty, rc_H, c1, nI_1, am_ob_s, List.tail_cons, List.tail_nil, Option.toList_some, Option.toList_none, List.nil_append, List.cons_append, List.length_nil, List.length_cons, Nat.zero_le, true_and, and_true, true_implies, false_implies, not_true_eq_false, not_false_eq_true, implies_true, Nat.reduceAdd, Nat.reduceLeDiff]
        exact d1 Q
      · show RcC s' (rchF _ _ (k + 1) r _)
        rw [he]
        exact d2
  have outer : ∀ (r i : Nat), i + r = 16 → ∀ (s1 : am_S) (l : List Nat), RcC s1 l → rcO s s1 → ∀ (jk : List Value), ∃ s', (∀ Q : Option Value → am_H → Prop, am_W m_H_reachOverFields 2 (.ref 252 :: .ref p :: .int (nI i) :: jk) [] (TP, s1) Q ↔ Q none (TP, s')) ∧ RcC s' (rof cl vl G.1 i r l) ∧ rcO s s' := by
    intro r
    induction r with
    | zero =>
      intro i hi s1 l hR hO jk
      obtain rfl : i = 16 := by omega
      have h2 := hR.2.1
      have h1 : nI l.length ≤ nI 16 := nI_le (by omega) (by omega)
      refine ⟨s1, fun Q => ?_, hR, hO⟩
      rw [k_H_reachOverFields_2]
      simp only [k_H_reachOverFields_3, k_H_reachOverFields_4, k_H_reachOverFields_7, k_H_reachOverFields_82, g_H5, hR.1, h1, am_ob_s, List.tail_cons, List.tail_nil, Option.toList_some, Option.toList_none, List.nil_append, List.cons_append, List.length_nil, List.length_cons, Nat.zero_le, true_and, and_true, true_implies, false_implies, not_true_eq_false, not_false_eq_true, implies_true, Nat.reduceAdd, Nat.reduceLeDiff]
    | succ r ih =>
      intro i hi s1 l hR hO jk
      have h2 := hR.2.1
      cases hrow : l[i]? with
      | none =>
        have h3 : l.length ≤ i := by simpa using hrow
        have h1 : nI l.length ≤ nI i := nI_le (by omega) (by omega)
        refine ⟨s1, fun Q => ?_, by simpa [rof, hrow] using hR, hO⟩
        rw [k_H_reachOverFields_2]
        simp only [k_H_reachOverFields_3, k_H_reachOverFields_4, k_H_reachOverFields_7, k_H_reachOverFields_82, g_H5, hR.1, h1, am_ob_s, List.tail_cons, List.tail_nil, Option.toList_some, Option.toList_none, List.nil_append, List.cons_append, List.length_nil, List.length_cons, Nat.zero_le, true_and, and_true, true_implies, false_implies, not_true_eq_false, not_false_eq_true, implies_true, Nat.reduceAdd, Nat.reduceLeDiff]
      | some row =>
        obtain ⟨h3, h3'⟩ := List.getElem?_eq_some_iff.mp hrow
        have h1 : ¬ nI l.length ≤ nI i := nI_ge (by omega) (by omega)
        have h5 : ¬ (16 : Int32) ≤ nI i := nI_ge (b := 16) (by omega) (by decide)
        have hr16 : row < 16 := hR.2.2.2.1 row (h3' ▸ List.getElem_mem h3)
        have hv := hR.2.2.1 i row hrow
        have hH1 := rcO_hp hO hH
        have hc : cl row < 4 := (hH row hr16).2.1
        have hcl := (hH1 row hr16).1
        obtain ⟨s2, ⟨jk2, c1⟩, c2, c3⟩ := inner i row hr16 _ 0 (Nat.zero_add _) s1 l hR hO jk.tail.tail.tail
        obtain ⟨s', d1, d2, d3⟩ := ih (i + 1) (by omega) s2 _ c2 c3 jk2
        refine ⟨s', fun Q => ?_, by simpa [rof, hrow] using d2, d3⟩
        rw [k_H_reachOverFields_2]
        simp only [k_H_reachOverFields_3, k_H_reachOverFields_4, k_H_reachOverFields_7, k_H_reachOverFields_10, k_H_reachOverFields_11, k_H_reachOverFields_13, k_H_reachOverFields_16, k_H_reachOverFields_17, k_H_reachOverFields_20, k_H_reachOverFields_21, k_H_reachOverFields_22, k_H_reachOverFields_23, k_H_reachOverFields_24, k_H_reachOverFields_27, k_H_reachOverFields_28, k_H_reachOverFields_31, k_H_reachOverFields_32, k_H_reachOverFields_33, k_H_reachOverFields_34, k_H_reachOverFields_36, k_H_reachOverFields_37, g_H5, hR.1, h1, h5, g_H4, l_H5 (show i < 16 by omega), hv, g_P0 hp, g_H0, l_H1 hr16, hcl, a_Pl hp hc, am_ob_s, List.tail_cons, List.tail_nil, Option.toList_some, Option.toList_none, List.nil_append, List.cons_append, List.length_nil, List.length_cons, Nat.zero_le, true_and, and_true, true_implies, false_implies, not_true_eq_false, not_false_eq_true, implies_true, Nat.reduceAdd, Nat.reduceLeDiff]
        rw [nI_0] at c1
        refine (c1 Q).trans ?_
        simp only [k_H_reachOverFields_76, k_H_reachOverFields_79, nI_1, am_ob_s, List.tail_cons, List.tail_nil, Option.toList_some, Option.toList_none, List.nil_append, List.cons_append, List.length_nil, List.length_cons, Nat.zero_le, true_and, and_true, true_implies, false_implies, not_true_eq_false, not_false_eq_true, implies_true, Nat.reduceAdd, Nat.reduceLeDiff]
        exact d1 Q
  obtain ⟨s', d1, d2, d3⟩ := outer 16 0 (by omega) s l h (rcO_rf s) []
  refine ⟨s', fun Q => ?_, d2, d3⟩
  rw [nI_0] at d1
  rw [c_H_reachOverFields]
  simp only [k_H_reachOverFields_0, k_H_reachOverFields_1, am_ob_s, List.tail_cons, List.tail_nil, Option.toList_some, Option.toList_none, List.nil_append, List.cons_append, List.length_nil, List.length_cons, Nat.zero_le, true_and, and_true, true_implies, false_implies, not_true_eq_false, not_false_eq_true, implies_true, Nat.reduceAdd, Nat.reduceLeDiff]
  exact d1 Q
/-- an object's values after its kind has changed -/
def mvv (L L' : pLy) (v : Nat → Int32) (k : Nat) : Int32 := match L'[k]? with
  | none => 0
  | some e => match pFind L e.2.2 with
    | none => 0
    | some q => v q
theorem bsL_d {b : Nat} (hb : b ∈ bsL) : b + 4 ≤ 248 := by
  have : ∀ b ∈ bsL, b + 4 ≤ 248 := by decide +kernel
  exact this b hb
theorem e_H_moveValues {bo bn j : Nat} (ho : bo ∈ bsL) (hn : bn ∈ bsL) (hj : j < 16) {L L' : pLy} (hL : LyC s bo L) (hL' : LyC s bn L') : ∃ s', (∀ Q : Option Value → am_H → Prop, am_C f_H_moveValues [.ref 252, .ref (255 + j), .ref bo, .ref bn] (TP, s) Q ↔ Q none (TP, s')) ∧ (∀ k, k < 4 → s' (255 + j) k = mvv L L' (s (255 + j)) k) ∧ ∀ i, i ≠ 271 → i ≠ 255 + j → s' i = s i := by
  have h4 := hL.2.1
  have h4' := hL'.2.1
  have d1 := bsL_d ho
  have d2 := bsL_d hn
  have loop : ∀ (r k : Nat), k + r = L'.length → ∀ (s1 : am_S), off 271 272 s s1 → (∀ i, i < 4 → s1 271 i = upj (mvv L L' (s (255 + j))) (fun _ => 0) k i) → ∀ (jk : List Value), ∃ s', (∀ Q : Option Value → am_H → Prop, am_W m_H_moveValues 10 (.ref 252 :: .ref (255 + j) :: .ref bo :: .ref bn :: .int (nI k) :: jk) [] (TP, s1) Q ↔ Q none (TP, s')) ∧ (∀ k, k < 4 → s' (255 + j) k = mvv L L' (s (255 + j)) k) ∧ ∀ i, i ≠ 271 → i ≠ 255 + j → s' i = s i := by
    intro r
    induction r with
    | zero =>
      intro k hk s1 hO hv jk
      have hL1 := LyC_same hL' (off_same (lo' := bn) (hi' := bn + 4) hO (by omega))
      have h1 : nI L'.length ≤ nI k := nI_le (by omega) (by omega)
      refine ⟨am_cp s1 271 0 (255 + j) 0 4, fun Q => ?_, fun i hi => ?_, fun i q1 q2 => ?_⟩
      · rw [k_H_moveValues_10]
        have c1 := fun (s : am_S) (Q : Option Value → am_H → Prop) => e_cpy (t := 0) (s := s) (Q := Q) (n := 4) (n32 := 4) (a := 271) (b := 255 + j) (am_isD_ok (by decide +kernel)) (tHr j hj) rfl (Nat.le_refl 4) (Nat.le_refl 4) (by omega)
        simp only [k_H_moveValues_12, k_H_moveValues_13, k_H_moveValues_16, k_H_moveValues_55, k_H_moveValues_56, k_H_moveValues_59, k_H_moveValues_60, k_H_moveValues_61, k_H_moveValues_62, k_H_moveValues_63, k_H_moveValues_66, g_L3 hn, hL1.1, h1, g_H2, rc_n, c1, am_ob_s, List.tail_cons, List.tail_nil, Option.toList_some, Option.toList_none, List.nil_append, List.cons_append, List.length_nil, List.length_cons, Nat.zero_le, true_and, and_true, true_implies, false_implies, not_true_eq_false, not_false_eq_true, implies_true, Nat.reduceAdd, Nat.reduceLeDiff]
      · rw [cp_self hi, hv i hi]
        by_cases hik : i < k
        · rw [upj_lt hik]
        · rw [upj_ge (by omega)]
          have : L'[i]? = none := by simp; omega
          rw [mvv, this]
      · rw [cp_ne q2]
        exact hO i (by omega)
    | succ r ih =>
      intro k hk s1 hO hv jk
      have hL1 := LyC_same hL' (off_same (lo' := bn) (hi' := bn + 4) hO (by omega))
      have hL0 := LyC_same hL (off_same (lo' := bo) (hi' := bo + 4) hO (by omega))
      have h1 : ¬ nI L'.length ≤ nI k := nI_ge (by omega) (by omega)
      obtain ⟨e, he⟩ : ∃ e, L'[k]? = some e := ⟨_, List.getElem?_eq_getElem (by omega)⟩
      have hk4 : k < 4 := by omega
      have hs := (hL1.2.2 k e he).2.2
      have hmv : mvv L L' (s (255 + j)) k = (match pFind L e.2.2 with
        | none => 0
        | some q => s (255 + j) q) := by rw [mvv, he]
      cases hf : pFind L e.2.2 with
      | none =>
        rw [hf] at hmv
        obtain ⟨s', c1, c2, c3⟩ := ih (k + 1) (by omega) s1 hO (fun i hi => by
          by_cases hik : i = k
          · subst hik
            rw [upj_lt (by omega), hv i hi, upj_ge (by omega), hmv]
          · rw [upj_ne hik]
            exact hv i hi) (.int (-1) :: jk.tail)
        refine ⟨s', fun Q => ?_, c2, c3⟩
        rw [k_H_moveValues_10]
        simp only [k_H_moveValues_12, k_H_moveValues_13, k_H_moveValues_16, k_H_moveValues_19, k_H_moveValues_20, k_H_moveValues_21, k_H_moveValues_24, k_H_moveValues_26, k_H_moveValues_27, k_H_moveValues_30, k_H_moveValues_32, k_H_moveValues_34, k_H_moveValues_35, k_H_moveValues_38, k_H_moveValues_39, k_H_moveValues_42, k_H_moveValues_44, k_H_moveValues_45, k_H_moveValues_47, k_H_moveValues_48, k_H_moveValues_49, k_H_moveValues_52, g_L3 hn, g_L2 hn, hL1.1, h1, l_L3 hn hk4, hs, rc_L ho, e_L_find ho hL0, hf, pIx, nI_1, am_ob_s, List.tail_cons, List.tail_nil, Option.toList_some, Option.toList_none, List.nil_append, List.cons_append, List.length_nil, List.length_cons, Nat.zero_le, true_and, and_true, true_implies, false_implies, not_true_eq_false, not_false_eq_true, implies_true, Nat.reduceAdd, Nat.reduceLeDiff]
        exact c1 Q
      | some q =>
        rw [hf] at hmv
        have hq := pFind_lt hf
        have hq1 : ¬ nI q = -1 := nI_ne1 (by omega)
        have r1 : s1 (255 + j) q = s (255 + j) q := by rw [hO (255 + j) (by omega)]
        obtain ⟨s', c1, c2, c3⟩ := ih (k + 1) (by omega) (am_wr s1 271 k (s (255 + j) q)) (off_tr hO (off_wr _ (by omega) (by omega))) (fun i hi => by
          by_cases hik : i = k
          · subst hik
            rw [upj_lt (by omega), am_wr_self, hmv]
          · rw [upj_ne hik, am_wr_col _ hik]
            exact hv i hi) (.int (nI q) :: jk.tail)
        refine ⟨s', fun Q => ?_, c2, c3⟩
        rw [k_H_moveValues_10]
        simp only [k_H_moveValues_12, k_H_moveValues_13, k_H_moveValues_16, k_H_moveValues_19, k_H_moveValues_20, k_H_moveValues_21, k_H_moveValues_24, k_H_moveValues_26, k_H_moveValues_27, k_H_moveValues_30, k_H_moveValues_32, k_H_moveValues_34, k_H_moveValues_35, k_H_moveValues_38, k_H_moveValues_39, k_H_moveValues_42, k_H_moveValues_44, k_H_moveValues_45, k_H_moveValues_47, k_H_moveValues_48, k_H_moveValues_49, k_H_moveValues_52, g_L3 hn, g_L2 hn, hL1.1, h1, l_L3 hn hk4, hs, rc_L ho, e_L_find ho hL0, hf, pIx, hq1, g_H2, l_Hr hj (show q < 4 by omega), r1, w_H3 hk4, nI_1, am_ob_s, List.tail_cons, List.tail_nil, Option.toList_some, Option.toList_none, List.nil_append, List.cons_append, List.length_nil, List.length_cons, Nat.zero_le, true_and, and_true, true_implies, false_implies, not_true_eq_false, not_false_eq_true, implies_true, Nat.reduceAdd, Nat.reduceLeDiff]
        exact c1 Q
  obtain ⟨s', c1, c2, c3⟩ := loop _ 0 (Nat.zero_add _) (zrl s 271 4) (zrl_off s 271 4) (fun i hi => by rw [zrl_at s 271 4 i hi, upj_ge (by omega)]) []
  refine ⟨s', fun Q => ?_, c2, c3⟩
  rw [nI_0] at c1
  rw [c_H_moveValues]
  simp only [k_H_moveValues_0, k_H_moveValues_1, k_H_moveValues_4, k_H_moveValues_7, k_H_moveValues_8, g_H2, rc_n, e_H_clearValues (show TP[271]? = some (.inl (0, 4, none)) from am_isD_ok (by decide +kernel)), am_ob_s, List.tail_cons, List.tail_nil, Option.toList_some, Option.toList_none, List.nil_append, List.cons_append, List.length_nil, List.length_cons, Nat.zero_le, true_and, and_true, true_implies, false_implies, not_true_eq_false, not_false_eq_true, implies_true, Nat.reduceAdd, Nat.reduceLeDiff]
  exact c1 Q
def mvo (cl : Nat → Nat) (vl : Nat → Nat → Int32) (G G' : Nat → pLy) (tc : Int32) (j : Nat) : Nat → Int32 := if tbit tc (nI (cl j)) = true then mvv (G (cl j)) (G' (cl j)) (vl j) else vl j
def mvn (cl : Nat → Nat) (tc : Int32) : Nat → Nat
  | 0 => 0
  | j + 1 => if tbit tc (nI (cl j)) = true then mvn cl tc j + 1 else mvn cl tc j
theorem mvv_e {L L' : pLy} {v w : Nat → Int32} (hl : L.length ≤ 4) (h : ∀ k, k < 4 → v k = w k) (k : Nat) : mvv L L' v k = mvv L L' w k := by
  unfold mvv
  cases L'[k]? with
  | none => rfl
  | some e =>
    dsimp only
    cases hf : pFind L e.2.2 with
    | none => rfl
    | some q =>
      have := pFind_lt hf
      exact h q (by omega)
theorem e_H_moveObjects (hp : p ∈ bsP) (hq : q ∈ bsP) (hG : PgC s p G) (hG' : PgC s q G') (hH : HpC s cl vl) : ∃ s', (∀ Q : Option Value → am_H → Prop, am_C f_H_moveObjects [.ref 252, .ref p, .ref q] (TP, s) Q ↔ Q (some (.int (nI (mvn cl G'.2.2.1 16)))) (TP, s')) ∧ HpC s' cl (mvo cl vl G.1 G'.1 G'.2.2.1) ∧ off 255 272 s s' := by
  have dp := bsP_b hp
  have dq := bsP_b hq
  have loop : ∀ (r j : Nat), j + r = 16 → ∀ (s1 : am_S), off 255 272 s s1 → HpC s1 cl (upj (mvo cl vl G.1 G'.1 G'.2.2.1) vl j) → ∀ (jk : List Value), ∃ s', (∀ Q : Option Value → am_H → Prop, am_W m_H_moveObjects 5 (.ref 252 :: .ref p :: .ref q :: .int (nI (mvn cl G'.2.2.1 j)) :: .int (nI j) :: jk) [] (TP, s1) Q ↔ Q (some (.int (nI (mvn cl G'.2.2.1 16)))) (TP, s')) ∧ HpC s' cl (mvo cl vl G.1 G'.1 G'.2.2.1) ∧ off 255 272 s s' := by
    intro r
    induction r with
    | zero =>
      intro j hj s1 hO hv jk
      obtain rfl : j = 16 := by omega
      have h1 : (16 : Int32) ≤ nI 16 := by decide
      refine ⟨s1, fun Q => ?_, fun i hi => ?_, hO⟩
      · rw [k_H_moveObjects_5]
        simp only [k_H_moveObjects_7, k_H_moveObjects_9, k_H_moveObjects_64, k_H_moveObjects_65, h1, am_ob_s, List.tail_cons, List.tail_nil, Option.toList_some, Option.toList_none, List.nil_append, List.cons_append, List.length_nil, List.length_cons, Nat.zero_le, true_and, and_true, true_implies, false_implies, not_true_eq_false, not_false_eq_true, implies_true, Nat.reduceAdd, Nat.reduceLeDiff]
      · have := hv i hi
        rw [upj_lt hi] at this
        exact this
    | succ r ih =>
      intro j hj s1 hO hv jk
      have hj' : j < 16 := by omega
      have h1 : ¬ (16 : Int32) ≤ nI j := nI_ge (a := j) (b := 16) (by omega) (by decide)
      have g1 := PgC_same hG (off_same (lo' := p) (hi' := p + 49) hO (by omega))
      have g2 := PgC_same hG' (off_same (lo' := q) (hi' := q + 49) hO (by omega))
      have h2 := hv j hj'
      have hc := h2.2.1
      by_cases ht : tbit G'.2.2.1 (nI (cl j)) = true
      · obtain ⟨s2, d1, d2, d3⟩ := e_H_moveValues (bP_L hp hc) (bP_L hq hc) hj' (g1.1 _ hc) (g2.1 _ hc)
        have em : mvn cl G'.2.2.1 (j + 1) = mvn cl G'.2.2.1 j + 1 := if_pos ht
        obtain ⟨s', c1, c2, c3⟩ := ih (j + 1) (by omega) s2 (fun i hi => (d3 i (by omega) (by omega)).trans (hO i hi)) (fun i hi => by
          rw [d3 253 (by omega) (by omega)]
          by_cases hij : i = j
          · subst hij
            refine ⟨h2.1, hc, fun k hk => ?_⟩
            rw [upj_lt (by omega), mvo, if_pos ht, d2 k hk]
            have q2 := h2.2.2
            rw [upj_ge (Nat.le_refl i)] at q2
            exact mvv_e (hG.1 _ hc).2.1 q2 k
          · rw [upj_ne hij, d3 (255 + i) (by omega) (by omega)]
            exact hv i hi) (.int (nI (cl j)) :: jk.tail)
        refine ⟨s', fun Q => ?_, c2, c3⟩
        rw [k_H_moveObjects_5]
        rw [em] at c1
        simp only [k_H_moveObjects_7, k_H_moveObjects_9, k_H_moveObjects_12, k_H_moveObjects_13, k_H_moveObjects_16, k_H_moveObjects_18, k_H_moveObjects_19, k_H_moveObjects_21, k_H_moveObjects_22, k_H_moveObjects_24, k_H_moveObjects_27, k_H_moveObjects_30, k_H_moveObjects_31, k_H_moveObjects_32, k_H_moveObjects_35, k_H_moveObjects_37, k_H_moveObjects_38, k_H_moveObjects_39, k_H_moveObjects_42, k_H_moveObjects_44, k_H_moveObjects_45, k_H_moveObjects_46, k_H_moveObjects_49, k_H_moveObjects_51, k_H_moveObjects_52, k_H_moveObjects_55, k_H_moveObjects_58, k_H_moveObjects_61, h1, g_H0, g_H1, l_H1 hj', h2.1, rc_P hq, rc_H, e_P_touchesClass hq, g2.2.2.1, ht, zb_T, zb_t (p := (true = true)) rfl, hz10, a_H hj', g_P0 hp, g_P0 hq, a_Pl hp hc, a_Pl hq hc, d1, nI_1, am_ob_s, List.tail_cons, List.tail_nil, Option.toList_some, Option.toList_none, List.nil_append, List.cons_append, List.length_nil, List.length_cons, Nat.zero_le, true_and, and_true, true_implies, false_implies, not_true_eq_false, not_false_eq_true, implies_true, Nat.reduceAdd, Nat.reduceLeDiff]
        exact c1 Q
      · have em : mvn cl G'.2.2.1 (j + 1) = mvn cl G'.2.2.1 j := if_neg ht
        obtain ⟨s', c1, c2, c3⟩ := ih (j + 1) (by omega) s1 hO (fun i hi => by
          by_cases hij : i = j
          · subst hij
            refine ⟨h2.1, hc, fun k hk => ?_⟩
            rw [upj_lt (by omega), mvo, if_neg ht]
            have q2 := h2.2.2
            rw [upj_ge (Nat.le_refl i)] at q2
            exact q2 k hk
          · rw [upj_ne hij]
            exact hv i hi) (.int (nI (cl j)) :: jk.tail)
        refine ⟨s', fun Q => ?_, c2, c3⟩
        rw [k_H_moveObjects_5]
        rw [em] at c1
        simp only [k_H_moveObjects_7, k_H_moveObjects_9, k_H_moveObjects_12, k_H_moveObjects_13, k_H_moveObjects_16, k_H_moveObjects_18, k_H_moveObjects_19, k_H_moveObjects_21, k_H_moveObjects_22, k_H_moveObjects_24, k_H_moveObjects_27, k_H_moveObjects_30, k_H_moveObjects_31, k_H_moveObjects_32, k_H_moveObjects_35, k_H_moveObjects_37, k_H_moveObjects_38, k_H_moveObjects_39, k_H_moveObjects_42, k_H_moveObjects_44, k_H_moveObjects_45, k_H_moveObjects_46, k_H_moveObjects_49, k_H_moveObjects_51, k_H_moveObjects_52, k_H_moveObjects_55, k_H_moveObjects_58, k_H_moveObjects_61, h1, g_H0, l_H1 hj', h2.1, rc_P hq, e_P_touchesClass hq, g2.2.2.1, zb_f ht, nI_1, am_ob_s, List.tail_cons, List.tail_nil, Option.toList_some, Option.toList_none, List.nil_append, List.cons_append, List.length_nil, List.length_cons, Nat.zero_le, true_and, and_true, true_implies, false_implies, not_true_eq_false, not_false_eq_true, implies_true, Nat.reduceAdd, Nat.reduceLeDiff]
        exact c1 Q
  obtain ⟨s', c1, c2, c3⟩ := loop 16 0 (by omega) s (off_rf _ _ _) (fun i hi => by rw [upj_ge (by omega)]; exact hH i hi) []
  refine ⟨s', fun Q => ?_, c2, c3⟩
  rw [show mvn cl G'.2.2.1 0 = 0 from rfl, nI_0] at c1
  rw [c_H_moveObjects]
  simp only [k_H_moveObjects_0, k_H_moveObjects_1, k_H_moveObjects_2, k_H_moveObjects_3, am_ob_s, List.tail_cons, List.tail_nil, Option.toList_some, Option.toList_none, List.nil_append, List.cons_append, List.length_nil, List.length_cons, Nat.zero_le, true_and, and_true, true_implies, false_implies, not_true_eq_false, not_false_eq_true, implies_true, Nat.reduceAdd, Nat.reduceLeDiff]
  exact c1 Q
end SH2
