/-! The class: field, head, code, drop -/
section SX2
variable {s : am_S} {Z : pSg} {h : am_H} {Q : Option Value → am_H → Prop}
def okField (Z : pSg) (c nm ty fr : Int32) : Prop := (isC c ∧ tbit Z.1.2.2.1 c = true ∧ isN nm ∧ isT ty) ∧ ((Z.1.1 (cN c)).length < 4 ∧ pFind (Z.1.1 (cN c)) nm = none) ∧ (fr = -1 ∨ pTy ((Z.2.1 Z.2.2.1).1 (cN c)) fr = some (cN ty))
noncomputable def pField (Z : pSg) (c nm ty fr : Int32) : Int32 × pSg := zif (okField Z c nm ty fr) (1, (pSt Z.1.1 (cN c) (Z.1.1 (cN c) ++ [(cN nm, cN ty, fr)]), Z.1.2), Z.2) (0, Z)
set_option maxHeartbeats 1000000 in
theorem e_X_field (hZ : ClC s Z) (hok : ∀ (i c : Nat), i ≤ Z.2.2.1 → c < 4 → ∀ (k : Nat) (e : Nat × Nat × Int32), ((Z.2.1 i).1 c)[k]? = some e → e.2.1 < 4) (c nm ty fr : Int32) : xS f_X_field [.ref 0, .int c, .int nm, .int ty, .int fr] s (pField Z c nm ty fr) := by
  obtain ⟨f, w1, w2, w3, w4, hD, w6, w7⟩ := id hZ
  have no : ¬ okField Z c nm ty fr → (∀ Q : Option Value → am_H → Prop, am_C f_X_field [.ref 0, .int c, .int nm, .int ty, .int fr] (TP, s) Q ↔ Q (some (.int 0)) (TP, s)) → xS f_X_field [.ref 0, .int c, .int nm, .int ty, .int fr] s (pField Z c nm ty fr) := fun q1 q2 => by
    unfold pField
    rw [zif_f q1]
    exact ⟨s, q2, hZ, off_rf _ _ _⟩
  rcases (Classical.em (isC c)).symm with h1 | h1
  · exact no (fun q => h1 q.1.1) (fun Q => by
      rw [c_X_field]
      simp only [k_X_field_0, k_X_field_1, k_X_field_4, k_X_field_7, k_X_field_8, k_X_field_11, k_X_field_12, k_X_field_15, k_X_field_18, k_X_field_19, k_X_field_22, k_X_field_25, k_X_field_26, k_X_field_29, k_X_field_32, k_X_field_33, rc_n, e_X_isClass, zb_f h1, am_ob_s, List.tail_cons, List.tail_nil, Option.toList_some, Option.toList_none, List.nil_append, List.cons_append, List.length_nil, List.length_cons, Nat.zero_le, true_and, and_true, true_implies, false_implies, not_true_eq_false, not_false_eq_true, implies_true, or_true, true_or, Nat.reduceAdd, Nat.reduceLeDiff])
  rcases (Classical.em (tbit Z.1.2.2.1 c = true)).symm with h2 | h2
  · exact no (fun q => h2 q.1.2.1) (fun Q => by
      rw [c_X_field]
      simp only [k_X_field_0, k_X_field_1, k_X_field_4, k_X_field_7, k_X_field_8, k_X_field_11, k_X_field_12, k_X_field_15, k_X_field_18, k_X_field_19, k_X_field_22, k_X_field_25, k_X_field_26, k_X_field_29, k_X_field_32, k_X_field_33, rc_n, e_X_isClass, zb_t h1, hz10, g_X0, rc_P b1P, e_P_touchesClass b1P, hD.2.2.1, zb_f h2, am_ob_s, List.tail_cons, List.tail_nil, Option.toList_some, Option.toList_none, List.nil_append, List.cons_append, List.length_nil, List.length_cons, Nat.zero_le, true_and, and_true, true_implies, false_implies, not_true_eq_false, not_false_eq_true, implies_true, or_true, true_or, Nat.reduceAdd, Nat.reduceLeDiff])
  rcases (Classical.em (isN nm)).symm with h3 | h3
  · exact no (fun q => h3 q.1.2.2.1) (fun Q => by
      rw [c_X_field]
      simp only [k_X_field_0, k_X_field_1, k_X_field_4, k_X_field_7, k_X_field_8, k_X_field_11, k_X_field_12, k_X_field_15, k_X_field_18, k_X_field_19, k_X_field_22, k_X_field_25, k_X_field_26, k_X_field_29, k_X_field_32, k_X_field_33, rc_n, e_X_isClass, zb_t h1, hz10, g_X0, rc_P b1P, e_P_touchesClass b1P, hD.2.2.1, zb_t h2, e_X_isName, zb_f h3, am_ob_s, List.tail_cons, List.tail_nil, Option.toList_some, Option.toList_none, List.nil_append, List.cons_append, List.length_nil, List.length_cons, Nat.zero_le, true_and, and_true, true_implies, false_implies, not_true_eq_false, not_false_eq_true, implies_true, or_true, true_or, Nat.reduceAdd, Nat.reduceLeDiff])
  rcases (Classical.em (isT ty)).symm with h4 | h4
  · exact no (fun q => h4 q.1.2.2.2) (fun Q => by
      rw [c_X_field]
      simp only [k_X_field_0, k_X_field_1, k_X_field_4, k_X_field_7, k_X_field_8, k_X_field_11, k_X_field_12, k_X_field_15, k_X_field_18, k_X_field_19, k_X_field_22, k_X_field_25, k_X_field_26, k_X_field_29, k_X_field_32, k_X_field_33, rc_n, e_X_isClass, zb_t h1, hz10, g_X0, rc_P b1P, e_P_touchesClass b1P, hD.2.2.1, zb_t h2, e_X_isName, zb_t h3, e_X_isType, zb_f h4, am_ob_s, List.tail_cons, List.tail_nil, Option.toList_some, Option.toList_none, List.nil_append, List.cons_append, List.length_nil, List.length_cons, Nat.zero_le, true_and, and_true, true_implies, false_implies, not_true_eq_false, not_false_eq_true, implies_true, or_true, true_or, Nat.reduceAdd, Nat.reduceLeDiff])
  obtain ⟨ec, k1, k3⟩ := isC_n h1
  obtain ⟨en, n9⟩ := isN_n h3
  obtain ⟨et, t3⟩ := isT_n h4
  have hc4 : cN c < 4 := by omega
  have hbl := bP_L b1P hc4
  have hL := hD.1 _ hc4
  have ac := fun (s : am_S) => a_Pl (s := s) b1P hc4
  have ac2 := fun (s : am_S) => a_Pl (s := s) (bQ_P (Nat.mod_lt (f + Z.2.2.1) (show 4 > 0 by decide))) hc4
  rw [← ec] at ac ac2
  have pre : ∀ Q : Option Value → am_H → Prop, am_C f_X_field [.ref 0, .int c, .int nm, .int ty, .int fr] (TP, s) Q ↔ am_W m_X_field 45 [.ref 0, .int c, .int nm, .int ty, .int fr, .ref (1 + 3 + 4 * cN c)] [] (TP, s) Q := fun Q => by
    rw [c_X_field]
    simp only [k_X_field_0, k_X_field_1, k_X_field_4, k_X_field_7, k_X_field_8, k_X_field_11, k_X_field_12, k_X_field_15, k_X_field_18, k_X_field_19, k_X_field_22, k_X_field_25, k_X_field_26, k_X_field_29, k_X_field_32, k_X_field_33, k_X_field_34, k_X_field_35, k_X_field_38, k_X_field_41, k_X_field_42, k_X_field_43, rc_n, e_X_isClass, zb_t h1, hz10, g_X0, rc_P b1P, e_P_touchesClass b1P, hD.2.2.1, zb_t h2, e_X_isName, zb_t h3, e_X_isType, zb_t h4, g_P0 b1P, ac, am_ob_s, List.tail_cons, List.tail_nil, Option.toList_some, Option.toList_none, List.nil_append, List.cons_append, List.length_nil, List.length_cons, Nat.zero_le, true_and, and_true, true_implies, false_implies, not_true_eq_false, not_false_eq_true, implies_true, or_true, true_or, Nat.reduceAdd, Nat.reduceLeDiff]
  rcases (Classical.em ((Z.1.1 (cN c)).length < 4)).symm with h5 | h5
  · exact no (fun q => h5 q.2.1.1) (fun Q => by
      rw [pre]
      simp only [k_X_field_45, k_X_field_47, k_X_field_50, k_X_field_53, k_X_field_55, k_X_field_56, k_X_field_59, k_X_field_60, k_X_field_63, k_X_field_64, rc_L hbl, e_L_isFull' hbl hL, zb_t (Nat.not_lt.mp h5), hz10, am_ob_s, List.tail_cons, List.tail_nil, Option.toList_some, Option.toList_none, List.nil_append, List.cons_append, List.length_nil, List.length_cons, Nat.zero_le, true_and, and_true, true_implies, false_implies, not_true_eq_false, not_false_eq_true, implies_true, or_true, true_or, Nat.reduceAdd, Nat.reduceLeDiff])
  have h5' : zb (4 ≤ (Z.1.1 (cN c)).length) = 0 := zb_f (by omega)
  cases h6 : pFind (Z.1.1 (cN c)) nm with
  | some k =>
    have hk := pFind_lt h6
    have hk1 : ¬ nI k = -1 := nI_ne1 (by omega)
    exact no (fun q => absurd (h6.symm.trans q.2.1.2) (by simp)) (fun Q => by
      rw [pre]
      simp only [k_X_field_45, k_X_field_47, k_X_field_50, k_X_field_53, k_X_field_55, k_X_field_56, k_X_field_59, k_X_field_60, k_X_field_63, k_X_field_64, rc_L hbl, e_L_isFull' hbl hL, h5', e_L_find hbl hL, h6, pIx, hk1, am_ob_s, List.tail_cons, List.tail_nil, Option.toList_some, Option.toList_none, List.nil_append, List.cons_append, List.length_nil, List.length_cons, Nat.zero_le, true_and, and_true, true_implies, false_implies, not_true_eq_false, not_false_eq_true, implies_true, or_true, true_or, Nat.reduceAdd, Nat.reduceLeDiff])
  | none =>
    have hbn := bP_L (bQ_P (Nat.mod_lt (f + Z.2.2.1) (show 4 > 0 by decide))) hc4
    have hLn := (w6 _ (Nat.le_refl _)).1 _ hc4
    have pre2 : ∀ Q : Option Value → am_H → Prop, am_C f_X_field [.ref 0, .int c, .int nm, .int ty, .int fr] (TP, s) Q ↔ am_W m_X_field 65 [.ref 0, .int c, .int nm, .int ty, .int fr, .ref (1 + 3 + 4 * cN c)] [] (TP, s) Q := fun Q => by
      rw [pre]
      simp only [k_X_field_45, k_X_field_47, k_X_field_50, k_X_field_53, k_X_field_55, k_X_field_56, k_X_field_59, k_X_field_60, rc_L hbl, e_L_isFull' hbl hL, h5', e_L_find hbl hL, h6, pIx, am_ob_s, List.tail_cons, List.tail_nil, Option.toList_some, Option.toList_none, List.nil_append, List.cons_append, List.length_nil, List.length_cons, Nat.zero_le, true_and, and_true, true_implies, false_implies, not_true_eq_false, not_false_eq_true, implies_true, or_true, true_or, Nat.reduceAdd, Nat.reduceLeDiff]
    have fin : (fr = -1 ∨ pTy ((Z.2.1 Z.2.2.1).1 (cN c)) fr = some (cN ty)) → (∀ Q : Option Value → am_H → Prop, am_C f_X_field [.ref 0, .int c, .int nm, .int ty, .int fr] (TP, s) Q ↔ am_W m_X_field 94 [.ref 0, .int c, .int nm, .int ty, .int fr, .ref (1 + 3 + 4 * cN c)] [] (TP, s) Q) → xS f_X_field [.ref 0, .int c, .int nm, .int ty, .int fr] s (pField Z c nm ty fr) := fun q1 q2 => by
      unfold pField
      rw [zif_t ⟨⟨h1, h2, h3, h4⟩, ⟨h5, h6⟩, q1⟩]
      have d0 := LyC_add hL h5 (cN nm) (cN ty) fr
      have ad := fun (Q : Option Value → am_H → Prop) => e_L_add (Q := Q) hbl hL h5 nm ty fr
      rw [← en, ← et] at d0
      have oo : off (1 + 3 + 4 * cN c) (1 + 3 + 4 * cN c + 4) s (am_wr (am_wr (am_wr (am_wr s (1 + 3 + 4 * cN c + 1) (Z.1.1 (cN c)).length nm) (1 + 3 + 4 * cN c + 2) (Z.1.1 (cN c)).length ty) (1 + 3 + 4 * cN c + 3) (Z.1.1 (cN c)).length fr) (1 + 3 + 4 * cN c) 3 (nI ((Z.1.1 (cN c)).length + 1))) := off_tr (off_tr (off_tr (off_wr _ (by omega) (by omega)) (off_wr _ (by omega) (by omega))) (off_wr _ (by omega) (by omega))) (off_wr _ (by omega) (by omega))
      refine ⟨_, fun Q => ?_, ClC_draft hZ (off_up oo (by omega) (by omega)) (PgC_ly hD hc4 oo d0), off_up oo (by omega) (by omega)⟩
      rw [q2]
      simp only [k_X_field_94, k_X_field_96, k_X_field_97, k_X_field_98, k_X_field_100, k_X_field_103, k_X_field_104, rc_L hbl, ad, am_ob_s, List.tail_cons, List.tail_nil, Option.toList_some, Option.toList_none, List.nil_append, List.cons_append, List.length_nil, List.length_cons, Nat.zero_le, true_and, and_true, true_implies, false_implies, not_true_eq_false, not_false_eq_true, implies_true, or_true, true_or, Nat.reduceAdd, Nat.reduceLeDiff]
    by_cases h7 : fr = -1
    · exact fin (Or.inl h7) (fun Q => by
        rw [pre2]
        simp only [k_X_field_65, k_X_field_67, k_X_field_68, h7, am_ob_s, List.tail_cons, List.tail_nil, Option.toList_some, Option.toList_none, List.nil_append, List.cons_append, List.length_nil, List.length_cons, Nat.zero_le, true_and, and_true, true_implies, false_implies, not_true_eq_false, not_false_eq_true, implies_true, or_true, true_or, Nat.reduceAdd, Nat.reduceLeDiff])
    · have ty_of : pTy ((Z.2.1 Z.2.2.1).1 (cN c)) fr = some (cN ty) ↔ pIx (pTy ((Z.2.1 Z.2.2.1).1 (cN c)) fr) = ty := by
        cases hp : pTy ((Z.2.1 Z.2.2.1).1 (cN c)) fr with
        | none =>
          refine ⟨fun q => (by cases q), fun q => ?_⟩
          have q' : (-1 : Int32) = ty := q
          rw [et] at q'
          exact absurd q'.symm (nI_ne1 (by omega))
        | some t =>
          have ht : t < 4 := by
            unfold pTy at hp
            cases hf : pFind ((Z.2.1 Z.2.2.1).1 (cN c)) fr with
            | none => rw [hf] at hp; cases hp
            | some k =>
              rw [hf, Option.bind_some] at hp
              cases hl : ((Z.2.1 Z.2.2.1).1 (cN c))[k]? with
              | none => rw [hl] at hp; cases hp
              | some e =>
                rw [hl] at hp
                have := hok _ _ (Nat.le_refl _) hc4 k e hl
                have e2 : e.2.1 = t := by simpa using hp
                omega
          constructor
          · intro q
            rw [Option.some.inj q]
            exact et.symm
          · intro q
            have q' : nI t = ty := q
            rw [← q', cN_nI (by omega)]
      have nw := fun (Q : Option Value → am_H → Prop) => e_Q_newest (Q := Q) w2 w3 w1 w4
      by_cases h8 : pIx (pTy ((Z.2.1 Z.2.2.1).1 (cN c)) fr) = ty
      · exact fin (Or.inr (ty_of.mpr h8)) (fun Q => by
          rw [pre2]
          simp only [k_X_field_65, k_X_field_67, k_X_field_68, k_X_field_71, k_X_field_72, k_X_field_75, k_X_field_78, k_X_field_81, k_X_field_82, k_X_field_83, k_X_field_85, k_X_field_88, k_X_field_89, h7, g_X1, rc_Q, nw, g_P0 (bQ_P (Nat.mod_lt (f + Z.2.2.1) (show 4 > 0 by decide))), ac2, rc_L hbn, e_L_typeNamed hbn hLn, h8, am_ob_s, List.tail_cons, List.tail_nil, Option.toList_some, Option.toList_none, List.nil_append, List.cons_append, List.length_nil, List.length_cons, Nat.zero_le, true_and, and_true, true_implies, false_implies, not_true_eq_false, not_false_eq_true, implies_true, or_true, true_or, Nat.reduceAdd, Nat.reduceLeDiff])
      · exact no (fun q => q.2.2.elim h7 (fun q => h8 (ty_of.mp q))) (fun Q => by
          rw [pre2]
          simp only [k_X_field_65, k_X_field_67, k_X_field_68, k_X_field_71, k_X_field_72, k_X_field_75, k_X_field_78, k_X_field_81, k_X_field_82, k_X_field_83, k_X_field_85, k_X_field_88, k_X_field_89, k_X_field_92, k_X_field_93, h7, g_X1, rc_Q, nw, g_P0 (bQ_P (Nat.mod_lt (f + Z.2.2.1) (show 4 > 0 by decide))), ac2, rc_L hbn, e_L_typeNamed hbn hLn, h8, am_ob_s, List.tail_cons, List.tail_nil, Option.toList_some, Option.toList_none, List.nil_append, List.cons_append, List.length_nil, List.length_cons, Nat.zero_le, true_and, and_true, true_implies, false_implies, not_true_eq_false, not_false_eq_true, implies_true, or_true, true_or, Nat.reduceAdd, Nat.reduceLeDiff])
def okHead (m n K g : Int32) : Prop := (isM m ∧ isT g) ∧ (¬ n < 0 ∧ ¬ 3 < n) ∧ ¬ K < 0 ∧ K ≤ 255
noncomputable def pHead (Z : pSg) (m n K g : Int32) : Int32 × pSg := zif (okHead m n K g) (1, (Z.1.1, pSt Z.1.2.1 (cN m) (cN n, cN K, cN g, []), Z.1.2.2.1, Z.1.2.2.2.1 ||| ((1 : Int32) <<< (m &&& 31)), Z.1.2.2.2.2), Z.2) (0, Z)
theorem e_X_head (hZ : ClC s Z) (m n K g : Int32) : xS f_X_head [.ref 0, .int m, .int n, .int K, .int g] s (pHead Z m n K g) := by
  obtain ⟨f, w1, w2, w3, w4, hD, w6, w7⟩ := id hZ
  have no : ¬ okHead m n K g → (∀ Q : Option Value → am_H → Prop, am_C f_X_head [.ref 0, .int m, .int n, .int K, .int g] (TP, s) Q ↔ Q (some (.int 0)) (TP, s)) → xS f_X_head [.ref 0, .int m, .int n, .int K, .int g] s (pHead Z m n K g) := fun q1 q2 => by
    unfold pHead
    rw [zif_f q1]
    exact ⟨s, q2, hZ, off_rf _ _ _⟩
  rcases (Classical.em (isM m)).symm with h1 | h1
  · exact no (fun q => h1 q.1.1) (fun Q => by
      rw [c_X_head]
      simp only [k_X_head_0, k_X_head_1, k_X_head_4, k_X_head_7, k_X_head_9, k_X_head_12, k_X_head_15, k_X_head_16, k_X_head_17, k_X_head_18, k_X_head_21, k_X_head_22, k_X_head_23, k_X_head_26, k_X_head_27, k_X_head_30, k_X_head_31, k_X_head_34, k_X_head_37, k_X_head_38, k_X_head_39, k_X_head_40, k_X_head_43, k_X_head_44, k_X_head_45, k_X_head_46, k_X_head_48, k_X_head_51, k_X_head_52, rc_n, e_X_isMethod, zb_f h1, am_ob_s, List.tail_cons, List.tail_nil, Option.toList_some, Option.toList_none, List.nil_append, List.cons_append, List.length_nil, List.length_cons, Nat.zero_le, true_and, and_true, true_implies, false_implies, not_true_eq_false, not_false_eq_true, implies_true, or_true, true_or, Nat.reduceAdd, Nat.reduceLeDiff])
  rcases (Classical.em (isT g)).symm with h2 | h2
  · exact no (fun q => h2 q.1.2) (fun Q => by
      rw [c_X_head]
      simp only [k_X_head_0, k_X_head_1, k_X_head_4, k_X_head_7, k_X_head_9, k_X_head_12, k_X_head_15, k_X_head_16, rc_n, e_X_isMethod, zb_t h1, hz10, e_X_isType, zb_f h2, am_ob_s, List.tail_cons, List.tail_nil, Option.toList_some, Option.toList_none, List.nil_append, List.cons_append, List.length_nil, List.length_cons, Nat.zero_le, true_and, and_true, true_implies, false_implies, not_true_eq_false, not_false_eq_true, implies_true, or_true, true_or, Nat.reduceAdd, Nat.reduceLeDiff])
  by_cases h3 : n < 0
  · exact no (fun q => q.2.1.1 h3) (fun Q => by
      rw [c_X_head]
      simp only [k_X_head_0, k_X_head_1, k_X_head_4, k_X_head_7, k_X_head_9, k_X_head_12, k_X_head_15, k_X_head_16, k_X_head_17, k_X_head_18, k_X_head_21, k_X_head_22, k_X_head_23, k_X_head_26, k_X_head_27, k_X_head_30, k_X_head_31, k_X_head_34, k_X_head_37, k_X_head_38, rc_n, e_X_isMethod, zb_t h1, hz10, e_X_isType, zb_t h2, h3, am_ob_s, List.tail_cons, List.tail_nil, Option.toList_some, Option.toList_none, List.nil_append, List.cons_append, List.length_nil, List.length_cons, Nat.zero_le, true_and, and_true, true_implies, false_implies, not_true_eq_false, not_false_eq_true, implies_true, or_true, true_or, Nat.reduceAdd, Nat.reduceLeDiff])
  by_cases h4 : 3 < n
  · exact no (fun q => q.2.1.2 h4) (fun Q => by
      rw [c_X_head]
      simp only [k_X_head_0, k_X_head_1, k_X_head_4, k_X_head_7, k_X_head_9, k_X_head_12, k_X_head_15, k_X_head_16, k_X_head_17, k_X_head_18, k_X_head_21, k_X_head_22, k_X_head_23, k_X_head_26, k_X_head_27, k_X_head_30, k_X_head_31, k_X_head_34, k_X_head_37, k_X_head_38, rc_n, e_X_isMethod, zb_t h1, hz10, e_X_isType, zb_t h2, h3, h4, am_ob_s, List.tail_cons, List.tail_nil, Option.toList_some, Option.toList_none, List.nil_append, List.cons_append, List.length_nil, List.length_cons, Nat.zero_le, true_and, and_true, true_implies, false_implies, not_true_eq_false, not_false_eq_true, implies_true, or_true, true_or, Nat.reduceAdd, Nat.reduceLeDiff])
  by_cases h5 : K < 0
  · exact no (fun q => q.2.2.1 h5) (fun Q => by
      rw [c_X_head]
      simp only [k_X_head_0, k_X_head_1, k_X_head_4, k_X_head_7, k_X_head_9, k_X_head_12, k_X_head_15, k_X_head_16, k_X_head_17, k_X_head_18, k_X_head_21, k_X_head_22, k_X_head_23, k_X_head_26, k_X_head_27, k_X_head_30, k_X_head_31, k_X_head_34, k_X_head_37, k_X_head_38, rc_n, e_X_isMethod, zb_t h1, hz10, e_X_isType, zb_t h2, h3, h4, h5, am_ob_s, List.tail_cons, List.tail_nil, Option.toList_some, Option.toList_none, List.nil_append, List.cons_append, List.length_nil, List.length_cons, Nat.zero_le, true_and, and_true, true_implies, false_implies, not_true_eq_false, not_false_eq_true, implies_true, or_true, true_or, Nat.reduceAdd, Nat.reduceLeDiff])
  rcases (Classical.em (K ≤ 255)).symm with h6 | h6
  · exact no (fun q => h6 q.2.2.2) (fun Q => by
      rw [c_X_head]
      simp only [k_X_head_0, k_X_head_1, k_X_head_4, k_X_head_7, k_X_head_9, k_X_head_12, k_X_head_15, k_X_head_16, k_X_head_17, k_X_head_18, k_X_head_21, k_X_head_22, k_X_head_23, k_X_head_26, k_X_head_27, k_X_head_30, k_X_head_31, k_X_head_34, k_X_head_37, k_X_head_38, rc_n, e_X_isMethod, zb_t h1, hz10, e_X_isType, zb_t h2, h3, h4, h5, h6, am_ob_s, List.tail_cons, List.tail_nil, Option.toList_some, Option.toList_none, List.nil_append, List.cons_append, List.length_nil, List.length_cons, Nat.zero_le, true_and, and_true, true_implies, false_implies, not_true_eq_false, not_false_eq_true, implies_true, or_true, true_or, Nat.reduceAdd, Nat.reduceLeDiff])
  obtain ⟨em, hm⟩ := isM_n h1
  obtain ⟨eg, hg⟩ := isT_n h2
  obtain ⟨n', hn', rfl⟩ := nI_of2 (M := 3) (n := 3) (by decide) h3 (Int32.not_lt.mp h4)
  obtain ⟨K', hK', rfl⟩ := nI_of2 (M := 255) (n := 255) (by decide) h5 h6
  unfold pHead
  rw [zif_t ⟨⟨h1, h2⟩, ⟨h3, h4⟩, h5, h6⟩, cN_nI (by omega), cN_nI (by omega)]
  have bm := fun (Q : Option Value → am_H → Prop) => e_P_beginMethod (s := s) (Q := Q) (p := 1) (n := n') (K := K') (g := cN g) b1P hm (by omega)
  rw [← em, ← eg, hD.2.2.2.1] at bm
  have d1 := PgC_ro hD hm (bgR_off s (1 + 19 + 5 * cN m) n' K' (cN g)) (bgR_ro s (1 + 19 + 5 * cN m) n' K' (cN g))
  have d2 := PgC_tm d1 (Z.1.2.2.2.1 ||| ((1 : Int32) <<< (m &&& 31)))
  have oo : off 1 50 s (am_wr (bgR s (1 + 19 + 5 * cN m) n' K' (cN g)) 1 3 (Z.1.2.2.2.1 ||| ((1 : Int32) <<< (m &&& 31)))) := off_tr (off_up (bgR_off s (1 + 19 + 5 * cN m) n' K' (cN g)) (by omega) (by omega)) (off_wr _ (by omega) (by omega))
  refine ⟨_, fun Q => ?_, ClC_draft hZ oo d2, off_up oo (by omega) (by omega)⟩
  rw [c_X_head]
  simp only [k_X_head_0, k_X_head_1, k_X_head_4, k_X_head_7, k_X_head_9, k_X_head_12, k_X_head_15, k_X_head_16, k_X_head_17, k_X_head_18, k_X_head_21, k_X_head_22, k_X_head_23, k_X_head_26, k_X_head_27, k_X_head_30, k_X_head_31, k_X_head_34, k_X_head_37, k_X_head_38, k_X_head_39, k_X_head_40, k_X_head_43, k_X_head_44, k_X_head_45, k_X_head_46, k_X_head_48, k_X_head_51, k_X_head_52, rc_n, e_X_isMethod, zb_t h1, hz10, e_X_isType, zb_t h2, h3, h4, h5, h6, g_X0, rc_P b1P, bm, am_ob_s, List.tail_cons, List.tail_nil, Option.toList_some, Option.toList_none, List.nil_append, List.cons_append, List.length_nil, List.length_cons, Nat.zero_le, true_and, and_true, true_implies, false_implies, not_true_eq_false, not_false_eq_true, implies_true, or_true, true_or, Nat.reduceAdd, Nat.reduceLeDiff]
end SX2
