/-! The reference: what is barred -/
theorem bt_or : ∀ n, n < 64 → ∀ j, j < 6 → (∀ k, k < 6 → tbit (nI n ||| ((1 : Int32) <<< (nI j &&& 31))) (nI k) = (tbit (nI n) (nI k) || decide (j = k))) ∧ nI n ||| ((1 : Int32) <<< (nI j &&& 31)) = nI (n ||| 2 ^ j) ∧ n ||| 2 ^ j < 64 := by decide +kernel
theorem bt_0 : ∀ k, k < 6 → tbit (nI 0) (nI k) = false := by decide +kernel
theorem pOw_bit (R R' : Nat → pRo) : ∀ j, j ≤ 6 → ∃ n, n < 64 ∧ pOw R R' j = nI n ∧ ∀ k, k < 6 → (tbit (nI n) (nI k) = true ↔ k < j ∧ ¬ pLik (R k) (R' k))
  | 0, _ => ⟨0, by omega, rfl, fun k hk => by rw [bt_0 k hk]; simp⟩
  | j + 1, hj => by
    obtain ⟨n, h1, h2, h3⟩ := pOw_bit R R' j (by omega)
    obtain ⟨b1, b2, b3⟩ := bt_or n h1 j (by omega)
    unfold pOw
    by_cases q : pLik (R j) (R' j)
    · rw [zif_t q]
      refine ⟨n, h1, h2, fun k hk => ?_⟩
      rw [h3 k hk]
      constructor
      · rintro ⟨w1, w2⟩
        exact ⟨by omega, w2⟩
      · rintro ⟨w1, w2⟩
        refine ⟨?_, w2⟩
        by_cases w : k = j
        · rw [w] at w2; exact absurd q w2
        · omega
    · rw [zif_f q, h2, b2]
      refine ⟨_, b3, rfl, fun k hk => ?_⟩
      rw [← b2, b1 k hk, Bool.or_eq_true, h3 k hk, decide_eq_true_iff]
      constructor
      · rintro (⟨w1, w2⟩ | rfl)
        · exact ⟨by omega, w2⟩
        · exact ⟨by omega, q⟩
      · rintro ⟨w1, w2⟩
        by_cases w : k = j
        · exact Or.inr w.symm
        · exact Or.inl ⟨by omega, w2⟩
theorem pOw_t (R R' : Nat → pRo) {k : Nat} (hk : k < 6) : tbit (pOw R R' 6) (nI k) = true ↔ ¬ pLik (R k) (R' k) := by
  obtain ⟨n, h1, h2, h3⟩ := pOw_bit R R' 6 (by omega)
  rw [h2, h3 k hk]
  exact ⟨fun q => q.2, fun q => ⟨hk, q⟩⟩
theorem and1 (x : Int32) : x &&& 1 = 0 ∨ x &&& 1 = 1 := by
  obtain ⟨j, hj, e⟩ : ∃ j, j < 2 ^ 1 ∧ x &&& 1 = nI j := pk_andE x 1 (by decide)
  rw [e]
  rcases (show j = 0 ∨ j = 1 by omega) with rfl | rfl
  · exact Or.inl rfl
  · exact Or.inr rfl
theorem tbit_1 (m x : Int32) : (m >>> (x &&& 31)) &&& 1 = 1 ↔ tbit m x = true := by
  rcases and1 (m >>> (x &&& 31)) with h | h
  · simp [tbit, h]
  · simp [tbit, h]
theorem or_or (a b : Int32) : (a ||| b) ||| b = a ||| b := by rw [Int32.or_assoc, Int32.or_self]
section SM16
variable {s : am_S}
set_option maxHeartbeats 1000000 in
theorem e_M_restrictedBy {Q : Option Value → am_H → Prop} {w : Nat} {D N : pPg} (hw : s 308 14 = nI w) (hw3 : w ≤ 3) (hD : MpC s 4 D) (hN : MpC s w N) (hDo : okP D) (hNo : okP N) : am_C f_M_restrictedBy [.ref 308] (TP, s) Q ↔ Q (some (.int (pRs N.2.1 D.2.2.1 D.2.2.2.1 (pOw D.2.1 N.2.1 6) 6))) (TP, s) := by
  have lc := l_M_classes (s := s) (j := 4) (by omega)
  have lm := l_M_methods (s := s) (j := 4) (by omega)
  rw [show nI 4 = 4 from rfl, hD.2.2.1] at lc
  rw [show nI 4 = 4 from rfl, hD.2.2.2] at lm
  generalize eow : pOw D.2.1 N.2.1 6 = ow
  have inner : ∀ (m : Nat), m < 6 → ∀ (r p : Nat), p + r = (N.2.1 m).2.2.2.length → ∀ (M : Int32) (A : Prop) (jk : List Value), ∃ jk', am_W m_M_restrictedBy 28 (.ref 308 :: .int (zif A (M ||| ((1 : Int32) <<< (nI m &&& 31))) M) :: .int (nI m) :: .int (nI (6 * w + m)) :: .int (nI p) :: jk) [] (TP, s) Q ↔ am_W m_M_restrictedBy 177 (.ref 308 :: .int (zif (A ∨ ((N.2.1 m).2.2.2.drop p).any (pUse D.2.2.1) = true ∨ ((N.2.1 m).2.2.2.drop p).any (pCal ow) = true) (M ||| ((1 : Int32) <<< (nI m &&& 31))) M) :: .int (nI m) :: jk') [] (TP, s) Q := by
    intro m hm r
    have g := hN.2.1 m hm
    have h14 := g.2.2.2.2.1
    have hb : 6 * w + m < 30 := by omega
    have ll := l_M_length (s := s) hb
    rw [g.2.2.2.1] at ll
    induction r with
    | zero =>
      intro p hp M A jk
      have h1 : nI (N.2.1 m).2.2.2.length ≤ nI p := nI_le (by omega) (by omega)
      have e1 : (A ∨ ((N.2.1 m).2.2.2.drop p).any (pUse D.2.2.1) = true ∨ ((N.2.1 m).2.2.2.drop p).any (pCal ow) = true) = A := by
        rw [List.drop_eq_nil_of_le (by omega)]
        simp
      refine ⟨.int (nI (6 * w + m)) :: .int (nI p) :: jk, ?_⟩
      rw [k_M_restrictedBy_28, e1]
      simp only [k_M_restrictedBy_30, k_M_restrictedBy_31, k_M_restrictedBy_34, k_M_restrictedBy_35, k_M_restrictedBy_36, g_M0, g_M1, g_M2, g_M3, g_M4, g_M5, g_M6, g_M7, g_M8, g_M9, g_M10, g_M11, g_M12, g_M13, g_M14, g_M15, g_M16, g_M17, g_M18, g_M19, g_M20, g_M21, g_M22, g_M23, g_M24, g_M25, g_M26, g_M27, g_M28, g_M29, g_M30, g_M31, g_M32, g_M33, ll, h1, am_ob_s, List.tail_cons, List.tail_nil, Option.toList_some, Option.toList_none, List.nil_append, List.cons_append, List.length_nil, List.length_cons, Nat.zero_le, true_and, and_true, true_implies, false_implies, not_true_eq_false, not_false_eq_true, implies_true, or_true, true_or, Nat.reduceAdd, Nat.reduceLeDiff]
    | succ r ih =>
      intro p hp M A jk
      have h1 : ¬ nI (N.2.1 m).2.2.2.length ≤ nI p := nI_ge (by omega) (by omega)
      have hpl : p < (N.2.1 m).2.2.2.length := by omega
      obtain ⟨e, he⟩ : ∃ e, (N.2.1 m).2.2.2[p]? = some e := ⟨_, List.getElem?_eq_getElem hpl⟩
      have hd : (N.2.1 m).2.2.2.drop p = e :: (N.2.1 m).2.2.2.drop (p + 1) := by
        rw [List.drop_eq_getElem_cons hpl]
        rw [List.getElem?_eq_getElem hpl] at he
        rw [Option.some.inj he]
      obtain ⟨v1, v2, v3⟩ := g.2.2.2.2.2 p e he
      have i14 := ix14 (6 * w + m) hb p (by omega)
      have h420 : 14 * (6 * w + m) + p < 420 := by omega
      have l1 := l_M_op (s := s) h420
      have l2 := l_M_x (s := s) h420
      rw [v1] at l1
      rw [v2] at l2
      have oke := hNo.2 m hm p e he
      obtain ⟨o16, y9, ox⟩ := oke
      have e2 : (A ∨ ((N.2.1 m).2.2.2.drop p).any (pUse D.2.2.1) = true ∨ ((N.2.1 m).2.2.2.drop p).any (pCal ow) = true) = ((A ∨ pUse D.2.2.1 e = true ∨ pCal ow e = true) ∨ ((N.2.1 m).2.2.2.drop (p + 1)).any (pUse D.2.2.1) = true ∨ ((N.2.1 m).2.2.2.drop (p + 1)).any (pCal ow) = true) := by
        rw [hd, List.any_cons, List.any_cons, Bool.or_eq_true, Bool.or_eq_true]
        refine propext ⟨?_, ?_⟩
        · rintro (q | (q | q) | (q | q))
          · exact Or.inl (Or.inl q)
          · exact Or.inl (Or.inr (Or.inl q))
          · exact Or.inr (Or.inl q)
          · exact Or.inl (Or.inr (Or.inr q))
          · exact Or.inr (Or.inr q)
        · rintro ((q | q | q) | q | q)
          · exact Or.inl q
          · exact Or.inr (Or.inl (Or.inl q))
          · exact Or.inr (Or.inr (Or.inl q))
          · exact Or.inr (Or.inl (Or.inr q))
          · exact Or.inr (Or.inr (Or.inr q))
      rw [e2]
      have fin : ∀ (T : Prop) (sh tu : Value) (jk2 : List Value), (T ↔ (pUse D.2.2.1 e = true ∨ pCal ow e = true)) → (am_W m_M_restrictedBy 28 (.ref 308 :: .int (zif A (M ||| ((1 : Int32) <<< (nI m &&& 31))) M) :: .int (nI m) :: .int (nI (6 * w + m)) :: .int (nI p) :: jk) [] (TP, s) Q ↔ am_W m_M_restrictedBy 170 (.ref 308 :: .int (zif A (M ||| ((1 : Int32) <<< (nI m &&& 31))) M) :: .int (nI m) :: .int (nI (6 * w + m)) :: .int (nI p) :: jk2) [.int (zif T (zif A (M ||| ((1 : Int32) <<< (nI m &&& 31))) M ||| ((1 : Int32) <<< (nI m &&& 31))) (zif A (M ||| ((1 : Int32) <<< (nI m &&& 31))) M))] (TP, s) Q) → ∃ jk', am_W m_M_restrictedBy 28 (.ref 308 :: .int (zif A (M ||| ((1 : Int32) <<< (nI m &&& 31))) M) :: .int (nI m) :: .int (nI (6 * w + m)) :: .int (nI p) :: jk) [] (TP, s) Q ↔ am_W m_M_restrictedBy 177 (.ref 308 :: .int (zif ((A ∨ pUse D.2.2.1 e = true ∨ pCal ow e = true) ∨ ((N.2.1 m).2.2.2.drop (p + 1)).any (pUse D.2.2.1) = true ∨ ((N.2.1 m).2.2.2.drop (p + 1)).any (pCal ow) = true) (M ||| ((1 : Int32) <<< (nI m &&& 31))) M) :: .int (nI m) :: jk') [] (TP, s) Q := fun T _ _ jk2 hT q => by
        obtain ⟨jk', b1⟩ := ih (p + 1) (by omega) M (A ∨ pUse D.2.2.1 e = true ∨ pCal ow e = true) jk2
        refine ⟨jk', ?_⟩
        rw [q, ← b1]
        have ez : zif T (zif A (M ||| ((1 : Int32) <<< (nI m &&& 31))) M ||| ((1 : Int32) <<< (nI m &&& 31))) (zif A (M ||| ((1 : Int32) <<< (nI m &&& 31))) M) = zif (A ∨ pUse D.2.2.1 e = true ∨ pCal ow e = true) (M ||| ((1 : Int32) <<< (nI m &&& 31))) M := by
          rw [← hT]
          by_cases q1 : T
          · rw [zif_t q1, zif_t (Or.inr q1)]
            by_cases q2 : A
            · rw [zif_t q2, or_or]
            · rw [zif_f q2]
          · rw [zif_f q1]
            by_cases q2 : A
            · rw [zif_t q2, zif_t (Or.inl q2)]
            · rw [zif_f q2, zif_f (fun q => q.elim q2 q1)]
        rw [ez]
        simp only [k_M_restrictedBy_170, k_M_restrictedBy_171, k_M_restrictedBy_174, nI_1, am_ob_s, List.tail_cons, List.tail_nil, Option.toList_some, Option.toList_none, List.nil_append, List.cons_append, List.length_nil, List.length_cons, Nat.zero_le, true_and, and_true, true_implies, false_implies, not_true_eq_false, not_false_eq_true, implies_true, or_true, true_or, Nat.reduceAdd, Nat.reduceLeDiff]
      generalize zif A (M ||| ((1 : Int32) <<< (nI m &&& 31))) M = V at fin ⊢
      have ne : ∀ a b : Int32, a ≠ b → nI e.1 = a → ¬ nI e.1 = b := fun a b q1 q2 q3 => q1 (q2.symm.trans q3)
      by_cases w13 : nI e.1 = 13
      · have e13 : e.1 = 13 := (nI_eq (b := 13) (by omega) (by omega)).mp w13
        obtain ⟨ex, hx⟩ := ox.resolve_left (by omega)
        have hk6 := hx.2.2.2.1 e13
        have oh := fun (Q : Option Value → am_H → Prop) => e_M_otherHead (Q := Q) hw hw3 hD hN hk6 (hDo.1 _ hk6) (hNo.1 _ hk6)
        rw [← ex] at oh
        have hu : ¬ pUse D.2.2.1 e = true := by simp [pUse, ne 13 10 (by decide) w13, ne 13 11 (by decide) w13, ne 13 12 (by decide) w13]
        have hc : pCal ow e = true ↔ ¬ pLik (D.2.1 (kx e)) (N.2.1 (kx e)) := by
          rw [← pOw_t D.2.1 N.2.1 hk6, eow, ← ex]
          simp [pCal, w13]
        by_cases q : pLik (D.2.1 (kx e)) (N.2.1 (kx e))
        · refine fin False (.int 0) (.int 0) (.int (nI e.1) :: .int 0 :: .int 0 :: .int 0 :: jk.tail.tail.tail.tail) ⟨fun q => q.elim, fun w => w.elim hu (fun w => hc.mp w q)⟩ ?_
          rw [k_M_restrictedBy_28, zif_f (fun q : False => q)]
          have zq : zb (¬ pLik (D.2.1 (kx e)) (N.2.1 (kx e))) = 0 := zb_f (fun w => w q)
          simp only [k_M_restrictedBy_30, k_M_restrictedBy_31, k_M_restrictedBy_34, k_M_restrictedBy_35, k_M_restrictedBy_36, k_M_restrictedBy_39, k_M_restrictedBy_40, k_M_restrictedBy_43, k_M_restrictedBy_45, k_M_restrictedBy_46, k_M_restrictedBy_47, k_M_restrictedBy_49, k_M_restrictedBy_50, k_M_restrictedBy_51, k_M_restrictedBy_53, k_M_restrictedBy_55, k_M_restrictedBy_57, k_M_restrictedBy_60, k_M_restrictedBy_62, k_M_restrictedBy_64, k_M_restrictedBy_67, k_M_restrictedBy_69, k_M_restrictedBy_71, k_M_restrictedBy_74, k_M_restrictedBy_75, k_M_restrictedBy_78, k_M_restrictedBy_79, k_M_restrictedBy_81, k_M_restrictedBy_83, k_M_restrictedBy_86, k_M_restrictedBy_87, k_M_restrictedBy_90, k_M_restrictedBy_91, k_M_restrictedBy_92, k_M_restrictedBy_93, k_M_restrictedBy_96, k_M_restrictedBy_98, k_M_restrictedBy_99, k_M_restrictedBy_100, k_M_restrictedBy_102, k_M_restrictedBy_103, k_M_restrictedBy_104, k_M_restrictedBy_105, k_M_restrictedBy_106, k_M_restrictedBy_107, k_M_restrictedBy_108, k_M_restrictedBy_111, k_M_restrictedBy_112, k_M_restrictedBy_115, k_M_restrictedBy_116, k_M_restrictedBy_118, k_M_restrictedBy_120, k_M_restrictedBy_122, k_M_restrictedBy_125, k_M_restrictedBy_126, k_M_restrictedBy_127, k_M_restrictedBy_130, k_M_restrictedBy_132, k_M_restrictedBy_133, k_M_restrictedBy_134, k_M_restrictedBy_136, k_M_restrictedBy_137, k_M_restrictedBy_138, k_M_restrictedBy_141, k_M_restrictedBy_144, k_M_restrictedBy_145, k_M_restrictedBy_148, k_M_restrictedBy_149, k_M_restrictedBy_151, k_M_restrictedBy_153, k_M_restrictedBy_156, k_M_restrictedBy_158, k_M_restrictedBy_161, k_M_restrictedBy_162, k_M_restrictedBy_163, k_M_restrictedBy_164, k_M_restrictedBy_165, k_M_restrictedBy_166, k_M_restrictedBy_169, g_M0, g_M1, g_M2, g_M3, g_M4, g_M5, g_M6, g_M7, g_M8, g_M9, g_M10, g_M11, g_M12, g_M13, g_M14, g_M15, g_M16, g_M17, g_M18, g_M19, g_M20, g_M21, g_M22, g_M23, g_M24, g_M25, g_M26, g_M27, g_M28, g_M29, g_M30, g_M31, g_M32, g_M33, ll, h1, i14, l1, l2, w13, rc_M, oh, zq, show ¬ (13 : Int32) = 10 by decide, show ¬ (13 : Int32) = 11 by decide, show ¬ (13 : Int32) = 12 by decide, am_ob_s, List.tail_cons, List.tail_nil, Option.toList_some, Option.toList_none, List.nil_append, List.cons_append, List.length_nil, List.length_cons, Nat.zero_le, true_and, and_true, true_implies, false_implies, not_true_eq_false, not_false_eq_true, implies_true, or_true, true_or, Nat.reduceAdd, Nat.reduceLeDiff]
        · refine fin True (.int 0) (.int 0) (.int (nI e.1) :: .int 0 :: .int 0 :: .int 1 :: jk.tail.tail.tail.tail) ⟨fun _ => Or.inr (hc.mpr q), fun _ => trivial⟩ ?_
          rw [k_M_restrictedBy_28, zif_t trivial]
          simp only [k_M_restrictedBy_30, k_M_restrictedBy_31, k_M_restrictedBy_34, k_M_restrictedBy_35, k_M_restrictedBy_36, k_M_restrictedBy_39, k_M_restrictedBy_40, k_M_restrictedBy_43, k_M_restrictedBy_45, k_M_restrictedBy_46, k_M_restrictedBy_47, k_M_restrictedBy_49, k_M_restrictedBy_50, k_M_restrictedBy_51, k_M_restrictedBy_53, k_M_restrictedBy_55, k_M_restrictedBy_57, k_M_restrictedBy_60, k_M_restrictedBy_62, k_M_restrictedBy_64, k_M_restrictedBy_67, k_M_restrictedBy_69, k_M_restrictedBy_71, k_M_restrictedBy_74, k_M_restrictedBy_75, k_M_restrictedBy_78, k_M_restrictedBy_79, k_M_restrictedBy_81, k_M_restrictedBy_83, k_M_restrictedBy_86, k_M_restrictedBy_87, k_M_restrictedBy_90, k_M_restrictedBy_91, k_M_restrictedBy_92, k_M_restrictedBy_93, k_M_restrictedBy_96, k_M_restrictedBy_98, k_M_restrictedBy_99, k_M_restrictedBy_100, k_M_restrictedBy_102, k_M_restrictedBy_103, k_M_restrictedBy_104, k_M_restrictedBy_105, k_M_restrictedBy_106, k_M_restrictedBy_107, k_M_restrictedBy_108, k_M_restrictedBy_111, k_M_restrictedBy_112, k_M_restrictedBy_115, k_M_restrictedBy_116, k_M_restrictedBy_118, k_M_restrictedBy_120, k_M_restrictedBy_122, k_M_restrictedBy_125, k_M_restrictedBy_126, k_M_restrictedBy_127, k_M_restrictedBy_130, k_M_restrictedBy_132, k_M_restrictedBy_133, k_M_restrictedBy_134, k_M_restrictedBy_136, k_M_restrictedBy_137, k_M_restrictedBy_138, k_M_restrictedBy_141, k_M_restrictedBy_144, k_M_restrictedBy_145, k_M_restrictedBy_148, k_M_restrictedBy_149, k_M_restrictedBy_151, k_M_restrictedBy_153, k_M_restrictedBy_156, k_M_restrictedBy_158, k_M_restrictedBy_161, k_M_restrictedBy_162, k_M_restrictedBy_163, k_M_restrictedBy_164, k_M_restrictedBy_165, k_M_restrictedBy_166, k_M_restrictedBy_169, g_M0, g_M1, g_M2, g_M3, g_M4, g_M5, g_M6, g_M7, g_M8, g_M9, g_M10, g_M11, g_M12, g_M13, g_M14, g_M15, g_M16, g_M17, g_M18, g_M19, g_M20, g_M21, g_M22, g_M23, g_M24, g_M25, g_M26, g_M27, g_M28, g_M29, g_M30, g_M31, g_M32, g_M33, ll, h1, i14, l1, l2, w13, rc_M, oh, zb_t q, hz10, show ¬ (13 : Int32) = 10 by decide, show ¬ (13 : Int32) = 11 by decide, show ¬ (13 : Int32) = 12 by decide, am_ob_s, List.tail_cons, List.tail_nil, Option.toList_some, Option.toList_none, List.nil_append, List.cons_append, List.length_nil, List.length_cons, Nat.zero_le, true_and, and_true, true_implies, false_implies, not_true_eq_false, not_false_eq_true, implies_true, or_true, true_or, Nat.reduceAdd, Nat.reduceLeDiff]
      · have hc : ¬ pCal ow e = true := by simp [pCal, w13]
        by_cases wu : nI e.1 = 10 ∨ nI e.1 = 11 ∨ nI e.1 = 12
        · have hu : pUse D.2.2.1 e = true ↔ tbit D.2.2.1 e.2.1 = true := by
            rcases wu with q | q | q <;> simp [pUse, q]
          by_cases q : (D.2.2.1 >>> (e.2.1 &&& 31)) &&& 1 = 1
          · refine fin True (.int 0) (.int 0) (.int (nI e.1) :: .int 1 :: .int 1 :: .int 0 :: jk.tail.tail.tail.tail) ⟨fun _ => Or.inl (hu.mpr ((tbit_1 _ _).mp q)), fun _ => trivial⟩ ?_
            rw [k_M_restrictedBy_28, zif_t trivial]
            rcases wu with u | u | u
            · simp only [k_M_restrictedBy_30, k_M_restrictedBy_31, k_M_restrictedBy_34, k_M_restrictedBy_35, k_M_restrictedBy_36, k_M_restrictedBy_39, k_M_restrictedBy_40, k_M_restrictedBy_43, k_M_restrictedBy_45, k_M_restrictedBy_46, k_M_restrictedBy_47, k_M_restrictedBy_49, k_M_restrictedBy_50, k_M_restrictedBy_51, k_M_restrictedBy_53, k_M_restrictedBy_55, k_M_restrictedBy_57, k_M_restrictedBy_60, k_M_restrictedBy_62, k_M_restrictedBy_64, k_M_restrictedBy_67, k_M_restrictedBy_69, k_M_restrictedBy_71, k_M_restrictedBy_74, k_M_restrictedBy_75, k_M_restrictedBy_78, k_M_restrictedBy_79, k_M_restrictedBy_81, k_M_restrictedBy_83, k_M_restrictedBy_86, k_M_restrictedBy_87, k_M_restrictedBy_90, k_M_restrictedBy_91, k_M_restrictedBy_92, k_M_restrictedBy_93, k_M_restrictedBy_96, k_M_restrictedBy_98, k_M_restrictedBy_99, k_M_restrictedBy_100, k_M_restrictedBy_102, k_M_restrictedBy_103, k_M_restrictedBy_104, k_M_restrictedBy_105, k_M_restrictedBy_106, k_M_restrictedBy_107, k_M_restrictedBy_108, k_M_restrictedBy_111, k_M_restrictedBy_112, k_M_restrictedBy_115, k_M_restrictedBy_116, k_M_restrictedBy_118, k_M_restrictedBy_120, k_M_restrictedBy_122, k_M_restrictedBy_125, k_M_restrictedBy_126, k_M_restrictedBy_127, k_M_restrictedBy_130, k_M_restrictedBy_132, k_M_restrictedBy_133, k_M_restrictedBy_134, k_M_restrictedBy_136, k_M_restrictedBy_137, k_M_restrictedBy_138, k_M_restrictedBy_141, k_M_restrictedBy_144, k_M_restrictedBy_145, k_M_restrictedBy_148, k_M_restrictedBy_149, k_M_restrictedBy_151, k_M_restrictedBy_153, k_M_restrictedBy_156, k_M_restrictedBy_158, k_M_restrictedBy_161, k_M_restrictedBy_162, k_M_restrictedBy_163, k_M_restrictedBy_164, k_M_restrictedBy_165, k_M_restrictedBy_166, k_M_restrictedBy_169, g_M0, g_M1, g_M2, g_M3, g_M4, g_M5, g_M6, g_M7, g_M8, g_M9, g_M10, g_M11, g_M12, g_M13, g_M14, g_M15, g_M16, g_M17, g_M18, g_M19, g_M20, g_M21, g_M22, g_M23, g_M24, g_M25, g_M26, g_M27, g_M28, g_M29, g_M30, g_M31, g_M32, g_M33, ll, h1, i14, l1, l2, lc, u, q, hz10, show ¬ (10 : Int32) = 13 by decide, am_ob_s, List.tail_cons, List.tail_nil, Option.toList_some, Option.toList_none, List.nil_append, List.cons_append, List.length_nil, List.length_cons, Nat.zero_le, true_and, and_true, true_implies, false_implies, not_true_eq_false, not_false_eq_true, implies_true, or_true, true_or, Nat.reduceAdd, Nat.reduceLeDiff]
            · simp only [k_M_restrictedBy_30, k_M_restrictedBy_31, k_M_restrictedBy_34, k_M_restrictedBy_35, k_M_restrictedBy_36, k_M_restrictedBy_39, k_M_restrictedBy_40, k_M_restrictedBy_43, k_M_restrictedBy_45, k_M_restrictedBy_46, k_M_restrictedBy_47, k_M_restrictedBy_49, k_M_restrictedBy_50, k_M_restrictedBy_51, k_M_restrictedBy_53, k_M_restrictedBy_55, k_M_restrictedBy_57, k_M_restrictedBy_60, k_M_restrictedBy_62, k_M_restrictedBy_64, k_M_restrictedBy_67, k_M_restrictedBy_69, k_M_restrictedBy_71, k_M_restrictedBy_74, k_M_restrictedBy_75, k_M_restrictedBy_78, k_M_restrictedBy_79, k_M_restrictedBy_81, k_M_restrictedBy_83, k_M_restrictedBy_86, k_M_restrictedBy_87, k_M_restrictedBy_90, k_M_restrictedBy_91, k_M_restrictedBy_92, k_M_restrictedBy_93, k_M_restrictedBy_96, k_M_restrictedBy_98, k_M_restrictedBy_99, k_M_restrictedBy_100, k_M_restrictedBy_102, k_M_restrictedBy_103, k_M_restrictedBy_104, k_M_restrictedBy_105, k_M_restrictedBy_106, k_M_restrictedBy_107, k_M_restrictedBy_108, k_M_restrictedBy_111, k_M_restrictedBy_112, k_M_restrictedBy_115, k_M_restrictedBy_116, k_M_restrictedBy_118, k_M_restrictedBy_120, k_M_restrictedBy_122, k_M_restrictedBy_125, k_M_restrictedBy_126, k_M_restrictedBy_127, k_M_restrictedBy_130, k_M_restrictedBy_132, k_M_restrictedBy_133, k_M_restrictedBy_134, k_M_restrictedBy_136, k_M_restrictedBy_137, k_M_restrictedBy_138, k_M_restrictedBy_141, k_M_restrictedBy_144, k_M_restrictedBy_145, k_M_restrictedBy_148, k_M_restrictedBy_149, k_M_restrictedBy_151, k_M_restrictedBy_153, k_M_restrictedBy_156, k_M_restrictedBy_158, k_M_restrictedBy_161, k_M_restrictedBy_162, k_M_restrictedBy_163, k_M_restrictedBy_164, k_M_restrictedBy_165, k_M_restrictedBy_166, k_M_restrictedBy_169, g_M0, g_M1, g_M2, g_M3, g_M4, g_M5, g_M6, g_M7, g_M8, g_M9, g_M10, g_M11, g_M12, g_M13, g_M14, g_M15, g_M16, g_M17, g_M18, g_M19, g_M20, g_M21, g_M22, g_M23, g_M24, g_M25, g_M26, g_M27, g_M28, g_M29, g_M30, g_M31, g_M32, g_M33, ll, h1, i14, l1, l2, lc, u, q, hz10, show ¬ (11 : Int32) = 13 by decide, show ¬ (11 : Int32) = 10 by decide, am_ob_s, List.tail_cons, List.tail_nil, Option.toList_some, Option.toList_none, List.nil_append, List.cons_append, List.length_nil, List.length_cons, Nat.zero_le, true_and, and_true, true_implies, false_implies, not_true_eq_false, not_false_eq_true, implies_true, or_true, true_or, Nat.reduceAdd, Nat.reduceLeDiff]
            · simp only [k_M_restrictedBy_30, k_M_restrictedBy_31, k_M_restrictedBy_34, k_M_restrictedBy_35, k_M_restrictedBy_36, k_M_restrictedBy_39, k_M_restrictedBy_40, k_M_restrictedBy_43, k_M_restrictedBy_45, k_M_restrictedBy_46, k_M_restrictedBy_47, k_M_restrictedBy_49, k_M_restrictedBy_50, k_M_restrictedBy_51, k_M_restrictedBy_53, k_M_restrictedBy_55, k_M_restrictedBy_57, k_M_restrictedBy_60, k_M_restrictedBy_62, k_M_restrictedBy_64, k_M_restrictedBy_67, k_M_restrictedBy_69, k_M_restrictedBy_71, k_M_restrictedBy_74, k_M_restrictedBy_75, k_M_restrictedBy_78, k_M_restrictedBy_79, k_M_restrictedBy_81, k_M_restrictedBy_83, k_M_restrictedBy_86, k_M_restrictedBy_87, k_M_restrictedBy_90, k_M_restrictedBy_91, k_M_restrictedBy_92, k_M_restrictedBy_93, k_M_restrictedBy_96, k_M_restrictedBy_98, k_M_restrictedBy_99, k_M_restrictedBy_100, k_M_restrictedBy_102, k_M_restrictedBy_103, k_M_restrictedBy_104, k_M_restrictedBy_105, k_M_restrictedBy_106, k_M_restrictedBy_107, k_M_restrictedBy_108, k_M_restrictedBy_111, k_M_restrictedBy_112, k_M_restrictedBy_115, k_M_restrictedBy_116, k_M_restrictedBy_118, k_M_restrictedBy_120, k_M_restrictedBy_122, k_M_restrictedBy_125, k_M_restrictedBy_126, k_M_restrictedBy_127, k_M_restrictedBy_130, k_M_restrictedBy_132, k_M_restrictedBy_133, k_M_restrictedBy_134, k_M_restrictedBy_136, k_M_restrictedBy_137, k_M_restrictedBy_138, k_M_restrictedBy_141, k_M_restrictedBy_144, k_M_restrictedBy_145, k_M_restrictedBy_148, k_M_restrictedBy_149, k_M_restrictedBy_151, k_M_restrictedBy_153, k_M_restrictedBy_156, k_M_restrictedBy_158, k_M_restrictedBy_161, k_M_restrictedBy_162, k_M_restrictedBy_163, k_M_restrictedBy_164, k_M_restrictedBy_165, k_M_restrictedBy_166, k_M_restrictedBy_169, g_M0, g_M1, g_M2, g_M3, g_M4, g_M5, g_M6, g_M7, g_M8, g_M9, g_M10, g_M11, g_M12, g_M13, g_M14, g_M15, g_M16, g_M17, g_M18, g_M19, g_M20, g_M21, g_M22, g_M23, g_M24, g_M25, g_M26, g_M27, g_M28, g_M29, g_M30, g_M31, g_M32, g_M33, ll, h1, i14, l1, l2, lc, u, q, hz10, show ¬ (12 : Int32) = 13 by decide, show ¬ (12 : Int32) = 10 by decide, show ¬ (12 : Int32) = 11 by decide, am_ob_s, List.tail_cons, List.tail_nil, Option.toList_some, Option.toList_none, List.nil_append, List.cons_append, List.length_nil, List.length_cons, Nat.zero_le, true_and, and_true, true_implies, false_implies, not_true_eq_false, not_false_eq_true, implies_true, or_true, true_or, Nat.reduceAdd, Nat.reduceLeDiff]
          · refine fin False (.int 0) (.int 0) (.int (nI e.1) :: .int 1 :: .int 0 :: .int 0 :: jk.tail.tail.tail.tail) ⟨fun q => q.elim, fun w => w.elim (fun w => q ((tbit_1 _ _).mpr (hu.mp w))) hc⟩ ?_
            rw [k_M_restrictedBy_28, zif_f (fun q : False => q)]
            rcases wu with u | u | u
            · simp only [k_M_restrictedBy_30, k_M_restrictedBy_31, k_M_restrictedBy_34, k_M_restrictedBy_35, k_M_restrictedBy_36, k_M_restrictedBy_39, k_M_restrictedBy_40, k_M_restrictedBy_43, k_M_restrictedBy_45, k_M_restrictedBy_46, k_M_restrictedBy_47, k_M_restrictedBy_49, k_M_restrictedBy_50, k_M_restrictedBy_51, k_M_restrictedBy_53, k_M_restrictedBy_55, k_M_restrictedBy_57, k_M_restrictedBy_60, k_M_restrictedBy_62, k_M_restrictedBy_64, k_M_restrictedBy_67, k_M_restrictedBy_69, k_M_restrictedBy_71, k_M_restrictedBy_74, k_M_restrictedBy_75, k_M_restrictedBy_78, k_M_restrictedBy_79, k_M_restrictedBy_81, k_M_restrictedBy_83, k_M_restrictedBy_86, k_M_restrictedBy_87, k_M_restrictedBy_90, k_M_restrictedBy_91, k_M_restrictedBy_92, k_M_restrictedBy_93, k_M_restrictedBy_96, k_M_restrictedBy_98, k_M_restrictedBy_99, k_M_restrictedBy_100, k_M_restrictedBy_102, k_M_restrictedBy_103, k_M_restrictedBy_104, k_M_restrictedBy_105, k_M_restrictedBy_106, k_M_restrictedBy_107, k_M_restrictedBy_108, k_M_restrictedBy_111, k_M_restrictedBy_112, k_M_restrictedBy_115, k_M_restrictedBy_116, k_M_restrictedBy_118, k_M_restrictedBy_120, k_M_restrictedBy_122, k_M_restrictedBy_125, k_M_restrictedBy_126, k_M_restrictedBy_127, k_M_restrictedBy_130, k_M_restrictedBy_132, k_M_restrictedBy_133, k_M_restrictedBy_134, k_M_restrictedBy_136, k_M_restrictedBy_137, k_M_restrictedBy_138, k_M_restrictedBy_141, k_M_restrictedBy_144, k_M_restrictedBy_145, k_M_restrictedBy_148, k_M_restrictedBy_149, k_M_restrictedBy_151, k_M_restrictedBy_153, k_M_restrictedBy_156, k_M_restrictedBy_158, k_M_restrictedBy_161, k_M_restrictedBy_162, k_M_restrictedBy_163, k_M_restrictedBy_164, k_M_restrictedBy_165, k_M_restrictedBy_166, k_M_restrictedBy_169, g_M0, g_M1, g_M2, g_M3, g_M4, g_M5, g_M6, g_M7, g_M8, g_M9, g_M10, g_M11, g_M12, g_M13, g_M14, g_M15, g_M16, g_M17, g_M18, g_M19, g_M20, g_M21, g_M22, g_M23, g_M24, g_M25, g_M26, g_M27, g_M28, g_M29, g_M30, g_M31, g_M32, g_M33, ll, h1, i14, l1, l2, lc, u, q, hz10, show ¬ (10 : Int32) = 13 by decide, am_ob_s, List.tail_cons, List.tail_nil, Option.toList_some, Option.toList_none, List.nil_append, List.cons_append, List.length_nil, List.length_cons, Nat.zero_le, true_and, and_true, true_implies, false_implies, not_true_eq_false, not_false_eq_true, implies_true, or_true, true_or, Nat.reduceAdd, Nat.reduceLeDiff]
            · simp only [k_M_restrictedBy_30, k_M_restrictedBy_31, k_M_restrictedBy_34, k_M_restrictedBy_35, k_M_restrictedBy_36, k_M_restrictedBy_39, k_M_restrictedBy_40, k_M_restrictedBy_43, k_M_restrictedBy_45, k_M_restrictedBy_46, k_M_restrictedBy_47, k_M_restrictedBy_49, k_M_restrictedBy_50, k_M_restrictedBy_51, k_M_restrictedBy_53, k_M_restrictedBy_55, k_M_restrictedBy_57, k_M_restrictedBy_60, k_M_restrictedBy_62, k_M_restrictedBy_64, k_M_restrictedBy_67, k_M_restrictedBy_69, k_M_restrictedBy_71, k_M_restrictedBy_74, k_M_restrictedBy_75, k_M_restrictedBy_78, k_M_restrictedBy_79, k_M_restrictedBy_81, k_M_restrictedBy_83, k_M_restrictedBy_86, k_M_restrictedBy_87, k_M_restrictedBy_90, k_M_restrictedBy_91, k_M_restrictedBy_92, k_M_restrictedBy_93, k_M_restrictedBy_96, k_M_restrictedBy_98, k_M_restrictedBy_99, k_M_restrictedBy_100, k_M_restrictedBy_102, k_M_restrictedBy_103, k_M_restrictedBy_104, k_M_restrictedBy_105, k_M_restrictedBy_106, k_M_restrictedBy_107, k_M_restrictedBy_108, k_M_restrictedBy_111, k_M_restrictedBy_112, k_M_restrictedBy_115, k_M_restrictedBy_116, k_M_restrictedBy_118, k_M_restrictedBy_120, k_M_restrictedBy_122, k_M_restrictedBy_125, k_M_restrictedBy_126, k_M_restrictedBy_127, k_M_restrictedBy_130, k_M_restrictedBy_132, k_M_restrictedBy_133, k_M_restrictedBy_134, k_M_restrictedBy_136, k_M_restrictedBy_137, k_M_restrictedBy_138, k_M_restrictedBy_141, k_M_restrictedBy_144, k_M_restrictedBy_145, k_M_restrictedBy_148, k_M_restrictedBy_149, k_M_restrictedBy_151, k_M_restrictedBy_153, k_M_restrictedBy_156, k_M_restrictedBy_158, k_M_restrictedBy_161, k_M_restrictedBy_162, k_M_restrictedBy_163, k_M_restrictedBy_164, k_M_restrictedBy_165, k_M_restrictedBy_166, k_M_restrictedBy_169, g_M0, g_M1, g_M2, g_M3, g_M4, g_M5, g_M6, g_M7, g_M8, g_M9, g_M10, g_M11, g_M12, g_M13, g_M14, g_M15, g_M16, g_M17, g_M18, g_M19, g_M20, g_M21, g_M22, g_M23, g_M24, g_M25, g_M26, g_M27, g_M28, g_M29, g_M30, g_M31, g_M32, g_M33, ll, h1, i14, l1, l2, lc, u, q, hz10, show ¬ (11 : Int32) = 13 by decide, show ¬ (11 : Int32) = 10 by decide, am_ob_s, List.tail_cons, List.tail_nil, Option.toList_some, Option.toList_none, List.nil_append, List.cons_append, List.length_nil, List.length_cons, Nat.zero_le, true_and, and_true, true_implies, false_implies, not_true_eq_false, not_false_eq_true, implies_true, or_true, true_or, Nat.reduceAdd, Nat.reduceLeDiff]
            · simp only [k_M_restrictedBy_30, k_M_restrictedBy_31, k_M_restrictedBy_34, k_M_restrictedBy_35, k_M_restrictedBy_36, k_M_restrictedBy_39, k_M_restrictedBy_40, k_M_restrictedBy_43, k_M_restrictedBy_45, k_M_restrictedBy_46, k_M_restrictedBy_47, k_M_restrictedBy_49, k_M_restrictedBy_50, k_M_restrictedBy_51, k_M_restrictedBy_53, k_M_restrictedBy_55, k_M_restrictedBy_57, k_M_restrictedBy_60, k_M_restrictedBy_62, k_M_restrictedBy_64, k_M_restrictedBy_67, k_M_restrictedBy_69, k_M_restrictedBy_71, k_M_restrictedBy_74, k_M_restrictedBy_75, k_M_restrictedBy_78, k_M_restrictedBy_79, k_M_restrictedBy_81, k_M_restrictedBy_83, k_M_restrictedBy_86, k_M_restrictedBy_87, k_M_restrictedBy_90, k_M_restrictedBy_91, k_M_restrictedBy_92, k_M_restrictedBy_93, k_M_restrictedBy_96, k_M_restrictedBy_98, k_M_restrictedBy_99, k_M_restrictedBy_100, k_M_restrictedBy_102, k_M_restrictedBy_103, k_M_restrictedBy_104, k_M_restrictedBy_105, k_M_restrictedBy_106, k_M_restrictedBy_107, k_M_restrictedBy_108, k_M_restrictedBy_111, k_M_restrictedBy_112, k_M_restrictedBy_115, k_M_restrictedBy_116, k_M_restrictedBy_118, k_M_restrictedBy_120, k_M_restrictedBy_122, k_M_restrictedBy_125, k_M_restrictedBy_126, k_M_restrictedBy_127, k_M_restrictedBy_130, k_M_restrictedBy_132, k_M_restrictedBy_133, k_M_restrictedBy_134, k_M_restrictedBy_136, k_M_restrictedBy_137, k_M_restrictedBy_138, k_M_restrictedBy_141, k_M_restrictedBy_144, k_M_restrictedBy_145, k_M_restrictedBy_148, k_M_restrictedBy_149, k_M_restrictedBy_151, k_M_restrictedBy_153, k_M_restrictedBy_156, k_M_restrictedBy_158, k_M_restrictedBy_161, k_M_restrictedBy_162, k_M_restrictedBy_163, k_M_restrictedBy_164, k_M_restrictedBy_165, k_M_restrictedBy_166, k_M_restrictedBy_169, g_M0, g_M1, g_M2, g_M3, g_M4, g_M5, g_M6, g_M7, g_M8, g_M9, g_M10, g_M11, g_M12, g_M13, g_M14, g_M15, g_M16, g_M17, g_M18, g_M19, g_M20, g_M21, g_M22, g_M23, g_M24, g_M25, g_M26, g_M27, g_M28, g_M29, g_M30, g_M31, g_M32, g_M33, ll, h1, i14, l1, l2, lc, u, q, hz10, show ¬ (12 : Int32) = 13 by decide, show ¬ (12 : Int32) = 10 by decide, show ¬ (12 : Int32) = 11 by decide, am_ob_s, List.tail_cons, List.tail_nil, Option.toList_some, Option.toList_none, List.nil_append, List.cons_append, List.length_nil, List.length_cons, Nat.zero_le, true_and, and_true, true_implies, false_implies, not_true_eq_false, not_false_eq_true, implies_true, or_true, true_or, Nat.reduceAdd, Nat.reduceLeDiff]
        · have u1 : ¬ nI e.1 = 10 := fun q => wu (Or.inl q)
          have u2 : ¬ nI e.1 = 11 := fun q => wu (Or.inr (Or.inl q))
          have u3 : ¬ nI e.1 = 12 := fun q => wu (Or.inr (Or.inr q))
          have hu : ¬ pUse D.2.2.1 e = true := by simp [pUse, u1, u2, u3]
          refine fin False (.int 0) (.int 0) (.int (nI e.1) :: .int 0 :: .int 0 :: .int 0 :: jk.tail.tail.tail.tail) ⟨fun q => q.elim, fun w => w.elim hu hc⟩ ?_
          rw [k_M_restrictedBy_28, zif_f (fun q : False => q)]
          simp only [k_M_restrictedBy_30, k_M_restrictedBy_31, k_M_restrictedBy_34, k_M_restrictedBy_35, k_M_restrictedBy_36, k_M_restrictedBy_39, k_M_restrictedBy_40, k_M_restrictedBy_43, k_M_restrictedBy_45, k_M_restrictedBy_46, k_M_restrictedBy_47, k_M_restrictedBy_49, k_M_restrictedBy_50, k_M_restrictedBy_51, k_M_restrictedBy_53, k_M_restrictedBy_55, k_M_restrictedBy_57, k_M_restrictedBy_60, k_M_restrictedBy_62, k_M_restrictedBy_64, k_M_restrictedBy_67, k_M_restrictedBy_69, k_M_restrictedBy_71, k_M_restrictedBy_74, k_M_restrictedBy_75, k_M_restrictedBy_78, k_M_restrictedBy_79, k_M_restrictedBy_81, k_M_restrictedBy_83, k_M_restrictedBy_86, k_M_restrictedBy_87, k_M_restrictedBy_90, k_M_restrictedBy_91, k_M_restrictedBy_92, k_M_restrictedBy_93, k_M_restrictedBy_96, k_M_restrictedBy_98, k_M_restrictedBy_99, k_M_restrictedBy_100, k_M_restrictedBy_102, k_M_restrictedBy_103, k_M_restrictedBy_104, k_M_restrictedBy_105, k_M_restrictedBy_106, k_M_restrictedBy_107, k_M_restrictedBy_108, k_M_restrictedBy_111, k_M_restrictedBy_112, k_M_restrictedBy_115, k_M_restrictedBy_116, k_M_restrictedBy_118, k_M_restrictedBy_120, k_M_restrictedBy_122, k_M_restrictedBy_125, k_M_restrictedBy_126, k_M_restrictedBy_127, k_M_restrictedBy_130, k_M_restrictedBy_132, k_M_restrictedBy_133, k_M_restrictedBy_134, k_M_restrictedBy_136, k_M_restrictedBy_137, k_M_restrictedBy_138, k_M_restrictedBy_141, k_M_restrictedBy_144, k_M_restrictedBy_145, k_M_restrictedBy_148, k_M_restrictedBy_149, k_M_restrictedBy_151, k_M_restrictedBy_153, k_M_restrictedBy_156, k_M_restrictedBy_158, k_M_restrictedBy_161, k_M_restrictedBy_162, k_M_restrictedBy_163, k_M_restrictedBy_164, k_M_restrictedBy_165, k_M_restrictedBy_166, k_M_restrictedBy_169, g_M0, g_M1, g_M2, g_M3, g_M4, g_M5, g_M6, g_M7, g_M8, g_M9, g_M10, g_M11, g_M12, g_M13, g_M14, g_M15, g_M16, g_M17, g_M18, g_M19, g_M20, g_M21, g_M22, g_M23, g_M24, g_M25, g_M26, g_M27, g_M28, g_M29, g_M30, g_M31, g_M32, g_M33, ll, h1, i14, l1, l2, u1, u2, u3, w13, am_ob_s, List.tail_cons, List.tail_nil, Option.toList_some, Option.toList_none, List.nil_append, List.cons_append, List.length_nil, List.length_cons, Nat.zero_le, true_and, and_true, true_implies, false_implies, not_true_eq_false, not_false_eq_true, implies_true, or_true, true_or, Nat.reduceAdd, Nat.reduceLeDiff]
  have loop : ∀ (r m : Nat), m + r = 6 → ∀ (jk : List Value), am_W m_M_restrictedBy 9 (.ref 308 :: .int (pRs N.2.1 D.2.2.1 D.2.2.2.1 ow m) :: .int (nI m) :: jk) [] (TP, s) Q ↔ Q (some (.int (pRs N.2.1 D.2.2.1 D.2.2.2.1 ow 6))) (TP, s) := by
    intro r
    induction r with
    | zero =>
      intro m hm jk
      obtain rfl : m = 6 := by omega
      have h1 : (6 : Int32) ≤ nI 6 := by decide
      rw [k_M_restrictedBy_9]
      simp only [k_M_restrictedBy_10, k_M_restrictedBy_12, k_M_restrictedBy_183, k_M_restrictedBy_184, h1, am_ob_s, List.tail_cons, List.tail_nil, Option.toList_some, Option.toList_none, List.nil_append, List.cons_append, List.length_nil, List.length_cons, Nat.zero_le, true_and, and_true, true_implies, false_implies, not_true_eq_false, not_false_eq_true, implies_true, or_true, true_or, Nat.reduceAdd, Nat.reduceLeDiff]
    | succ r ih =>
      intro m hm jk
      have h1 : ¬ (6 : Int32) ≤ nI m := nI_ge (b := 6) (by omega) (by decide)
      have i6 := ix6 w (by omega) m (by omega)
      obtain ⟨jk', b1⟩ := inner m (by omega) (N.2.1 m).2.2.2.length 0 (by omega) (pRs N.2.1 D.2.2.1 D.2.2.2.1 ow m) False jk.tail.tail
      rw [zif_f (fun q : False => q), nI_0, List.drop_zero, false_or] at b1
      have ih' := ih (m + 1) (by omega) jk'
      rw [← ih']
      rw [k_M_restrictedBy_9]
      simp only [k_M_restrictedBy_10, k_M_restrictedBy_12, k_M_restrictedBy_15, k_M_restrictedBy_17, k_M_restrictedBy_18, k_M_restrictedBy_21, k_M_restrictedBy_22, k_M_restrictedBy_23, k_M_restrictedBy_24, k_M_restrictedBy_25, k_M_restrictedBy_26, g_M0, g_M1, g_M2, g_M3, g_M4, g_M5, g_M6, g_M7, g_M8, g_M9, g_M10, g_M11, g_M12, g_M13, g_M14, g_M15, g_M16, g_M17, g_M18, g_M19, g_M20, g_M21, g_M22, g_M23, g_M24, g_M25, g_M26, g_M27, g_M28, g_M29, g_M30, g_M31, g_M32, g_M33, h1, hw, i6, am_ob_s, List.tail_cons, List.tail_nil, Option.toList_some, Option.toList_none, List.nil_append, List.cons_append, List.length_nil, List.length_cons, Nat.zero_le, true_and, and_true, true_implies, false_implies, not_true_eq_false, not_false_eq_true, implies_true, or_true, true_or, Nat.reduceAdd, Nat.reduceLeDiff]
      rw [b1]
      simp only [k_M_restrictedBy_177, k_M_restrictedBy_180, nI_1, pRs, am_ob_s, List.tail_cons, List.tail_nil, Option.toList_some, Option.toList_none, List.nil_append, List.cons_append, List.length_nil, List.length_cons, Nat.zero_le, true_and, and_true, true_implies, false_implies, not_true_eq_false, not_false_eq_true, implies_true, or_true, true_or, Nat.reduceAdd, Nat.reduceLeDiff]
  have := loop 6 0 (by omega) []
  rw [nI_0] at this
  rw [c_M_restrictedBy]
  simp only [k_M_restrictedBy_0, k_M_restrictedBy_1, k_M_restrictedBy_4, k_M_restrictedBy_5, k_M_restrictedBy_6, k_M_restrictedBy_7, k_M_restrictedBy_8, g_M0, g_M1, g_M2, g_M3, g_M4, g_M5, g_M6, g_M7, g_M8, g_M9, g_M10, g_M11, g_M12, g_M13, g_M14, g_M15, g_M16, g_M17, g_M18, g_M19, g_M20, g_M21, g_M22, g_M23, g_M24, g_M25, g_M26, g_M27, g_M28, g_M29, g_M30, g_M31, g_M32, g_M33, lm, am_ob_s, List.tail_cons, List.tail_nil, Option.toList_some, Option.toList_none, List.nil_append, List.cons_append, List.length_nil, List.length_cons, Nat.zero_le, true_and, and_true, true_implies, false_implies, not_true_eq_false, not_false_eq_true, implies_true, or_true, true_or, Nat.reduceAdd, Nat.reduceLeDiff]
  exact this
end SM16
