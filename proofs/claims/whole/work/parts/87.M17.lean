/-! The reference: what frames lead to -/
theorem ix17 : ∀ j, j < 17 → ∀ k, k < 4 → ((4 : Int32) * nI j) + nI k = nI (4 * j + k) := by decide +kernel
theorem ix86 : ∀ j, j < 8 → ∀ k, k < 6 → ((6 : Int32) * nI j) + nI k = nI (6 * j + k) := by decide +kernel
theorem nI_up {x n : Nat} (hx : x ≤ 16) (hn : n ≤ 16) : nI n = nI x ↔ x = n := by
  rw [nI_eq (by omega) (by omega)]
  exact ⟨Eq.symm, Eq.symm⟩
/-- the marks -/
def LdC (s : am_S) (S : Nat → Prop) : Prop := ∀ x, x ≤ 16 → s 332 x = zb (S x)
theorem LdC_e {s : am_S} {S S' : Nat → Prop} (h : LdC s S) (e : ∀ x, x ≤ 16 → (S x ↔ S' x)) : LdC s S' := fun x hx => by rw [← zb_e (e x hx)]; exact h x hx
theorem LdC_set {s : am_S} {S : Nat → Prop} (h : LdC s S) (n : Nat) : LdC (am_wr s 332 n 1) (fun x => S x ∨ x = n) := fun x hx => by
  rw [am_wr_at]
  by_cases q : x = n
  · rw [if_pos ⟨rfl, q⟩, zb_t (Or.inr q)]
  · rw [if_neg (fun w => q w.2), h x hx]
    exact zb_e ⟨Or.inl, fun w => w.elim id (fun w => absurd w q)⟩
/-- only the marks may differ -/
def mO (s s' : am_S) : Prop := ∀ i, i ≠ 332 → s' i = s i
theorem mO_rf (s : am_S) : mO s s := fun _ _ => rfl
theorem mO_tr {s1 s2 s3 : am_S} (h : mO s1 s2) (h' : mO s2 s3) : mO s1 s3 := fun i q => (h' i q).trans (h i q)
theorem mO_set (s : am_S) (n : Nat) (v : Int32) : mO s (am_wr s 332 n v) := fun i q => am_wr_row _ q
theorem MpC_o {s s' : am_S} {b : Nat} {G : pPg} (h : MpC s b G) (e : mO s s') : MpC s' b G := MpC_rows h (fun i q1 q2 => e i (by omega))
theorem MfC_o {s s' : am_S} {k : Nat} {F : pFr} (h : MfC s k F) (e : mO s s') : MfC s' k F := by
  unfold MfC at h ⊢
  rw [e 324 (by omega), e 325 (by omega), e 326 (by omega), e 327 (by omega), e 328 (by omega), e 329 (by omega)]
  exact h
theorem MhC_o {s s' : am_S} {cl : Nat → Nat} {vl : Nat → Nat → Int32} (h : MhC s cl vl) (e : mO s s') : MhC s' cl vl := by
  unfold MhC at h ⊢
  rw [e 330 (by omega), e 331 (by omega)]
  exact h
/-- a frame leads to the reference x -/
def rtX (K : Nat) (F : pFr) (x : Nat) : Prop := (∃ i, i < 4 ∧ lk K i ≠ 0 ∧ F.2.2.1 i = nI x) ∨ ∃ e ∈ F.2.2.2, e.2 ≠ 0 ∧ e.1 = nI x
/-- what a frame holds of references is a row's number or null -/
def okRF (K : Nat) (F : pFr) : Prop := F.1 < 6 ∧ (∀ i, i < 4 → lk K i ≠ 0 → ∃ n, n ≤ 16 ∧ F.2.2.1 i = nI n) ∧ ∀ e ∈ F.2.2.2, e.2 < 4 ∧ (e.2 ≠ 0 → ∃ n, n ≤ 16 ∧ e.1 = nI n)
section SM17
variable {s : am_S} {P : pPg}
theorem m_marks0 (jk : List Value) : ∃ s', (∀ Q : Option Value → am_H → Prop, am_W m_M_collect 2 (.ref 308 :: .int 0 :: jk) [] (TP, s) Q ↔ am_W m_M_collect 23 (.ref 308 :: .int 0 :: jk) [] (TP, s') Q) ∧ mO s s' ∧ LdC s' (fun _ => False) := by
  have loop : ∀ (r j : Nat), j + r = 17 → ∀ Q : Option Value → am_H → Prop, am_W m_M_collect 2 (.ref 308 :: .int (nI j) :: jk) [] (TP, zrl s 332 j) Q ↔ am_W m_M_collect 23 (.ref 308 :: .int 0 :: jk) [] (TP, zrl s 332 17) Q := by
    intro r
    induction r with
    | zero =>
      intro j hj Q
      obtain rfl : j = 17 := by omega
      have h1 : (16 : Int32) < nI 17 := by decide
      rw [k_M_collect_2]
      simp only [k_M_collect_3, k_M_collect_5, k_M_collect_21, k_M_collect_22, h1, am_ob_s, List.tail_cons, List.tail_nil, Option.toList_some, Option.toList_none, List.nil_append, List.cons_append, List.length_nil, List.length_cons, Nat.zero_le, true_and, and_true, true_implies, false_implies, not_true_eq_false, not_false_eq_true, implies_true, or_true, true_or, Nat.reduceAdd, Nat.reduceLeDiff]
    | succ r ih =>
      intro j hj Q
      have h1 : ¬ (16 : Int32) < nI j := nI_nlt (a := 16) (by omega) (by omega)
      rw [k_M_collect_2]
      simp only [k_M_collect_3, k_M_collect_5, k_M_collect_8, k_M_collect_9, k_M_collect_12, k_M_collect_13, k_M_collect_14, k_M_collect_15, k_M_collect_18, g_M0, g_M1, g_M2, g_M3, g_M4, g_M5, g_M6, g_M7, g_M8, g_M9, g_M10, g_M11, g_M12, g_M13, g_M14, g_M15, g_M16, g_M17, g_M18, g_M19, g_M20, g_M21, g_M22, g_M23, g_M24, g_M25, g_M26, g_M27, g_M28, g_M29, g_M30, g_M31, g_M32, g_M33, h1, w_M_led (show j < 17 by omega) (Or.inl rfl), nI_1, am_ob_s, List.tail_cons, List.tail_nil, Option.toList_some, Option.toList_none, List.nil_append, List.cons_append, List.length_nil, List.length_cons, Nat.zero_le, true_and, and_true, true_implies, false_implies, not_true_eq_false, not_false_eq_true, implies_true, or_true, true_or, Nat.reduceAdd, Nat.reduceLeDiff]
      exact ih (j + 1) (by omega) Q
  refine ⟨zrl s 332 17, fun Q => ?_, fun i q => zrl_off s 332 17 i (by omega), fun x hx => by rw [zrl_at s 332 17 x (by omega), zb_F]⟩
  have := loop 17 0 (by omega) Q
  rw [nI_0] at this
  exact this
theorem m_marksL {f : Nat} (hf : f < 8) {F : pFr} (hF : MfC s f F) (hP : MpC s 0 P) (hK : (P.2.1 F.1).2.1 < 256) (hok : okRF (P.2.1 F.1).2.1 F) : ∀ (r i : Nat), i + r = 4 → ∀ (s1 : am_S), mO s s1 → ∀ (S : Nat → Prop), LdC s1 S → ∀ (jk : List Value), ∃ s', (∀ Q : Option Value → am_H → Prop, am_W m_M_collect 33 (.ref 308 :: .int (nI f) :: .int (nI i) :: jk) [] (TP, s1) Q ↔ am_W m_M_collect 74 (.ref 308 :: .int (nI f) :: .int (nI 4) :: jk) [] (TP, s') Q) ∧ mO s s' ∧ LdC s' (fun x => S x ∨ ∃ k, i ≤ k ∧ k < 4 ∧ lk (P.2.1 F.1).2.1 k ≠ 0 ∧ F.2.2.1 k = nI x) := by
  intro r
  induction r with
  | zero =>
    intro i hi s1 hO S hS jk
    obtain rfl : i = 4 := by omega
    have h1 : (4 : Int32) ≤ nI 4 := by decide
    refine ⟨s1, fun Q => ?_, hO, LdC_e hS (fun x hx => ⟨Or.inl, fun w => w.elim id (fun ⟨k, w1, w2, _⟩ => by omega)⟩)⟩
    rw [k_M_collect_33]
    simp only [k_M_collect_34, k_M_collect_35, h1, am_ob_s, List.tail_cons, List.tail_nil, Option.toList_some, Option.toList_none, List.nil_append, List.cons_append, List.length_nil, List.length_cons, Nat.zero_le, true_and, and_true, true_implies, false_implies, not_true_eq_false, not_false_eq_true, implies_true, or_true, true_or, Nat.reduceAdd, Nat.reduceLeDiff]
  | succ r ih =>
    intro i hi s1 hO S hS jk
    have h1 : ¬ (4 : Int32) ≤ nI i := nI_ge (b := 4) (by omega) (by decide)
    have hF1 := MfC_o hF hO
    have hP1 := MpC_o hP hO
    have g := hP1.2.1 F.1 hok.1
    rw [Nat.mul_zero, Nat.zero_add] at g
    have h6 := hok.1
    have lm := l_M_method (s := s1) hf
    rw [hF1.1] at lm
    have el := fun (Q : Option Value → am_H → Prop) => e_M_local (s := s1) (Q := Q) (a := F.1) (i := i) (by omega) (by omega) hK g.2.1
    have e4 : (∃ k, i ≤ k ∧ k < 4 ∧ lk (P.2.1 F.1).2.1 k ≠ 0 ∧ True) → True := fun _ => trivial
    by_cases q : lk (P.2.1 F.1).2.1 i = 0
    · obtain ⟨s', a1, a2, a3⟩ := ih (i + 1) (by omega) s1 hO S hS jk
      refine ⟨s', fun Q => ?_, a2, LdC_e a3 (fun x hx => ?_)⟩
      · have z : nI (lk (P.2.1 F.1).2.1 i) ≤ 0 := by rw [q]; decide
        rw [k_M_collect_33]
        simp only [k_M_collect_34, k_M_collect_35, k_M_collect_38, k_M_collect_39, k_M_collect_40, k_M_collect_43, k_M_collect_44, k_M_collect_45, k_M_collect_46, k_M_collect_49, k_M_collect_52, k_M_collect_53, k_M_collect_56, k_M_collect_57, k_M_collect_60, k_M_collect_61, k_M_collect_62, k_M_collect_63, k_M_collect_64, k_M_collect_65, k_M_collect_66, k_M_collect_67, k_M_collect_68, k_M_collect_71, g_M0, g_M1, g_M2, g_M3, g_M4, g_M5, g_M6, g_M7, g_M8, g_M9, g_M10, g_M11, g_M12, g_M13, g_M14, g_M15, g_M16, g_M17, g_M18, g_M19, g_M20, g_M21, g_M22, g_M23, g_M24, g_M25, g_M26, g_M27, g_M28, g_M29, g_M30, g_M31, g_M32, g_M33, h1, lm, rc_M, el, z, nI_1, am_ob_s, List.tail_cons, List.tail_nil, Option.toList_some, Option.toList_none, List.nil_append, List.cons_append, List.length_nil, List.length_cons, Nat.zero_le, true_and, and_true, true_implies, false_implies, not_true_eq_false, not_false_eq_true, implies_true, or_true, true_or, Nat.reduceAdd, Nat.reduceLeDiff]
        exact a1 Q
      · constructor
        · rintro (w | ⟨k, w1, w2⟩)
          · exact Or.inl w
          · exact Or.inr ⟨k, by omega, w2⟩
        · rintro (w | ⟨k, w1, w2, w3⟩)
          · exact Or.inl w
          · refine Or.inr ⟨k, ?_, w2, w3⟩
            by_cases e : k = i
            · rw [e] at w3; exact absurd q w3.1
            · omega
    · obtain ⟨n, hn, en⟩ := hok.2.1 i (by omega) q
      have hv := hF1.2.2.1 i (by omega)
      rw [en] at hv
      have i4 := ix4 f (by omega) i (by omega)
      have ll := l_M_locals (s := s1) (show 4 * f + i < 32 by omega)
      rw [hv] at ll
      obtain ⟨s', a1, a2, a3⟩ := ih (i + 1) (by omega) (am_wr s1 332 n 1) (mO_tr hO (mO_set _ _ _)) _ (LdC_set hS n) jk
      refine ⟨s', fun Q => ?_, a2, LdC_e a3 (fun x hx => ?_)⟩
      · have z : ¬ nI (lk (P.2.1 F.1).2.1 i) ≤ 0 := nI_nle (by omega) (by have := lk_lt (P.2.1 F.1).2.1 i; omega)
        rw [k_M_collect_33]
        simp only [k_M_collect_34, k_M_collect_35, k_M_collect_38, k_M_collect_39, k_M_collect_40, k_M_collect_43, k_M_collect_44, k_M_collect_45, k_M_collect_46, k_M_collect_49, k_M_collect_52, k_M_collect_53, k_M_collect_56, k_M_collect_57, k_M_collect_60, k_M_collect_61, k_M_collect_62, k_M_collect_63, k_M_collect_64, k_M_collect_65, k_M_collect_66, k_M_collect_67, k_M_collect_68, k_M_collect_71, g_M0, g_M1, g_M2, g_M3, g_M4, g_M5, g_M6, g_M7, g_M8, g_M9, g_M10, g_M11, g_M12, g_M13, g_M14, g_M15, g_M16, g_M17, g_M18, g_M19, g_M20, g_M21, g_M22, g_M23, g_M24, g_M25, g_M26, g_M27, g_M28, g_M29, g_M30, g_M31, g_M32, g_M33, h1, lm, rc_M, el, z, i4, ll, w_M_led (show n < 17 by omega) (Or.inr rfl), nI_1, am_ob_s, List.tail_cons, List.tail_nil, Option.toList_some, Option.toList_none, List.nil_append, List.cons_append, List.length_nil, List.length_cons, Nat.zero_le, true_and, and_true, true_implies, false_implies, not_true_eq_false, not_false_eq_true, implies_true, or_true, true_or, Nat.reduceAdd, Nat.reduceLeDiff]
        exact a1 Q
      · constructor
        · rintro ((w | w) | ⟨k, w1, w2⟩)
          · exact Or.inl w
          · exact Or.inr ⟨i, Nat.le_refl _, by omega, q, by rw [en, w]⟩
          · exact Or.inr ⟨k, by omega, w2⟩
        · rintro (w | ⟨k, w1, w2, w3⟩)
          · exact Or.inl (Or.inl w)
          · by_cases e : k = i
            · rw [e, en] at w3
              exact Or.inl (Or.inr ((nI_up hx hn).mp w3.2))
            · exact Or.inr ⟨k, by omega, w2, w3⟩
theorem m_marksS {f : Nat} (hf : f < 8) {F : pFr} (hF : MfC s f F) (K : Nat) (hok : okRF K F) : ∀ (r i : Nat), i + r = F.2.2.2.length → ∀ (s1 : am_S), mO s s1 → ∀ (S : Nat → Prop), LdC s1 S → ∀ (jk : List Value), ∃ s', (∀ Q : Option Value → am_H → Prop, am_W m_M_collect 76 (.ref 308 :: .int (nI f) :: .int (nI i) :: jk) [] (TP, s1) Q ↔ am_W m_M_collect 123 (.ref 308 :: .int (nI f) :: .int (nI F.2.2.2.length) :: jk) [] (TP, s') Q) ∧ mO s s' ∧ LdC s' (fun x => S x ∨ ∃ (k : Nat) (e : Int32 × Nat), i ≤ k ∧ F.2.2.2.reverse[k]? = some e ∧ e.2 ≠ 0 ∧ e.1 = nI x) := by
  intro r
  have h6 := hF.2.2.2.2.1
  induction r with
  | zero =>
    intro i hi s1 hO S hS jk
    obtain rfl : i = F.2.2.2.length := by omega
    have h1 : nI F.2.2.2.length ≤ nI F.2.2.2.length := Int32.le_refl _
    have lt := l_M_top (s := s1) hf
    rw [(MfC_o hF hO).2.2.2.1] at lt
    refine ⟨s1, fun Q => ?_, hO, LdC_e hS (fun x hx => ⟨Or.inl, fun w => w.elim id (fun ⟨k, e, w1, w2, _⟩ => by
      have := (List.getElem?_eq_some_iff.mp w2).1
      rw [List.length_reverse] at this
      omega)⟩)⟩
    rw [k_M_collect_76]
    simp only [k_M_collect_77, k_M_collect_78, k_M_collect_81, k_M_collect_82, k_M_collect_83, g_M0, g_M1, g_M2, g_M3, g_M4, g_M5, g_M6, g_M7, g_M8, g_M9, g_M10, g_M11, g_M12, g_M13, g_M14, g_M15, g_M16, g_M17, g_M18, g_M19, g_M20, g_M21, g_M22, g_M23, g_M24, g_M25, g_M26, g_M27, g_M28, g_M29, g_M30, g_M31, g_M32, g_M33, lt, h1, am_ob_s, List.tail_cons, List.tail_nil, Option.toList_some, Option.toList_none, List.nil_append, List.cons_append, List.length_nil, List.length_cons, Nat.zero_le, true_and, and_true, true_implies, false_implies, not_true_eq_false, not_false_eq_true, implies_true, or_true, true_or, Nat.reduceAdd, Nat.reduceLeDiff]
  | succ r ih =>
    intro i hi s1 hO S hS jk
    have h1 : ¬ nI F.2.2.2.length ≤ nI i := nI_ge (by omega) (by omega)
    have hF1 := MfC_o hF hO
    have lt := l_M_top (s := s1) hf
    rw [hF1.2.2.2.1] at lt
    obtain ⟨e, he⟩ : ∃ e, F.2.2.2.reverse[i]? = some e := ⟨_, List.getElem?_eq_getElem (by rw [List.length_reverse]; omega)⟩
    obtain ⟨v1, v2⟩ := hF1.2.2.2.2.2 i e he
    have em : e ∈ F.2.2.2 := List.mem_reverse.mp (List.mem_of_getElem? he)
    obtain ⟨o1, o2⟩ := hok.2.2 e em
    have i6 := ix86 f hf i (by omega)
    have h48 : 6 * f + i < 48 := by omega
    have ls := l_M_sort (s := s1) h48
    rw [v2] at ls
    by_cases q : e.2 = 0
    · obtain ⟨s', a1, a2, a3⟩ := ih (i + 1) (by omega) s1 hO S hS jk
      refine ⟨s', fun Q => ?_, a2, LdC_e a3 (fun x hx => ?_)⟩
      · have z : nI e.2 ≤ 0 := by rw [q]; decide
        rw [k_M_collect_76]
        simp only [k_M_collect_77, k_M_collect_78, k_M_collect_81, k_M_collect_82, k_M_collect_83, k_M_collect_86, k_M_collect_87, k_M_collect_90, k_M_collect_92, k_M_collect_93, k_M_collect_94, k_M_collect_95, k_M_collect_96, k_M_collect_97, k_M_collect_100, k_M_collect_101, k_M_collect_104, k_M_collect_105, k_M_collect_108, k_M_collect_110, k_M_collect_111, k_M_collect_112, k_M_collect_113, k_M_collect_114, k_M_collect_115, k_M_collect_116, k_M_collect_117, k_M_collect_120, g_M0, g_M1, g_M2, g_M3, g_M4, g_M5, g_M6, g_M7, g_M8, g_M9, g_M10, g_M11, g_M12, g_M13, g_M14, g_M15, g_M16, g_M17, g_M18, g_M19, g_M20, g_M21, g_M22, g_M23, g_M24, g_M25, g_M26, g_M27, g_M28, g_M29, g_M30, g_M31, g_M32, g_M33, h1, lt, i6, ls, z, nI_1, am_ob_s, List.tail_cons, List.tail_nil, Option.toList_some, Option.toList_none, List.nil_append, List.cons_append, List.length_nil, List.length_cons, Nat.zero_le, true_and, and_true, true_implies, false_implies, not_true_eq_false, not_false_eq_true, implies_true, or_true, true_or, Nat.reduceAdd, Nat.reduceLeDiff]
        exact a1 Q
      · constructor
        · rintro (w | ⟨k, e2, w1, w2⟩)
          · exact Or.inl w
          · exact Or.inr ⟨k, e2, by omega, w2⟩
        · rintro (w | ⟨k, e2, w1, w2, w3⟩)
          · exact Or.inl w
          · refine Or.inr ⟨k, e2, ?_, w2, w3⟩
            by_cases ek : k = i
            · rw [ek, he] at w2
              rw [← Option.some.inj w2] at w3
              exact absurd q w3.1
            · omega
    · obtain ⟨n, hn, en⟩ := o2 q
      rw [en] at v1
      have lk := l_M_stack (s := s1) h48
      rw [v1] at lk
      obtain ⟨s', a1, a2, a3⟩ := ih (i + 1) (by omega) (am_wr s1 332 n 1) (mO_tr hO (mO_set _ _ _)) _ (LdC_set hS n) jk
      refine ⟨s', fun Q => ?_, a2, LdC_e a3 (fun x hx => ?_)⟩
      · have z : ¬ nI e.2 ≤ 0 := nI_nle (by omega) (by omega)
        rw [k_M_collect_76]
        simp only [k_M_collect_77, k_M_collect_78, k_M_collect_81, k_M_collect_82, k_M_collect_83, k_M_collect_86, k_M_collect_87, k_M_collect_90, k_M_collect_92, k_M_collect_93, k_M_collect_94, k_M_collect_95, k_M_collect_96, k_M_collect_97, k_M_collect_100, k_M_collect_101, k_M_collect_104, k_M_collect_105, k_M_collect_108, k_M_collect_110, k_M_collect_111, k_M_collect_112, k_M_collect_113, k_M_collect_114, k_M_collect_115, k_M_collect_116, k_M_collect_117, k_M_collect_120, g_M0, g_M1, g_M2, g_M3, g_M4, g_M5, g_M6, g_M7, g_M8, g_M9, g_M10, g_M11, g_M12, g_M13, g_M14, g_M15, g_M16, g_M17, g_M18, g_M19, g_M20, g_M21, g_M22, g_M23, g_M24, g_M25, g_M26, g_M27, g_M28, g_M29, g_M30, g_M31, g_M32, g_M33, h1, lt, i6, ls, z, lk, w_M_led (show n < 17 by omega) (Or.inr rfl), nI_1, am_ob_s, List.tail_cons, List.tail_nil, Option.toList_some, Option.toList_none, List.nil_append, List.cons_append, List.length_nil, List.length_cons, Nat.zero_le, true_and, and_true, true_implies, false_implies, not_true_eq_false, not_false_eq_true, implies_true, or_true, true_or, Nat.reduceAdd, Nat.reduceLeDiff]
        exact a1 Q
      · constructor
        · rintro ((w | w) | ⟨k, e2, w1, w2⟩)
          · exact Or.inl w
          · exact Or.inr ⟨i, e, Nat.le_refl _, he, q, by rw [en, w]⟩
          · exact Or.inr ⟨k, e2, by omega, w2⟩
        · rintro (w | ⟨k, e2, w1, w2, w3⟩)
          · exact Or.inl (Or.inl w)
          · by_cases ek : k = i
            · rw [ek, he] at w2
              rw [← Option.some.inj w2, en] at w3
              exact Or.inl (Or.inr ((nI_up hx hn).mp w3.2))
            · exact Or.inr ⟨k, e2, by omega, w2, w3⟩
theorem m_marksF {FS : List pFr} (h8 : FS.length ≤ 8) (hn : s 308 21 = nI FS.length) (hFS : ∀ (k : Nat) (F : pFr), FS.reverse[k]? = some F → MfC s k F) (hP : MpC s 0 P) (hK : ∀ m, m < 6 → (P.2.1 m).2.1 < 256) (hok : ∀ F ∈ FS, okRF (P.2.1 F.1).2.1 F) : ∀ (r f : Nat), f + r = FS.length → ∀ (s1 : am_S), mO s s1 → ∀ (S : Nat → Prop), LdC s1 S → ∀ (jk : List Value), ∃ s', (∃ jk', ∀ Q : Option Value → am_H → Prop, am_W m_M_collect 23 (.ref 308 :: .int (nI f) :: jk) [] (TP, s1) Q ↔ am_W m_M_collect 129 (.ref 308 :: jk') [] (TP, s') Q) ∧ mO s s' ∧ LdC s' (fun x => S x ∨ ∃ (k : Nat) (F : pFr), f ≤ k ∧ FS.reverse[k]? = some F ∧ rtX (P.2.1 F.1).2.1 F x) := by
  intro r
  induction r with
  | zero =>
    intro f hf s1 hO S hS jk
    have h1 : nI FS.length ≤ nI f := nI_le (by omega) (by omega)
    have hn1 : s1 308 21 = nI FS.length := by rw [hO 308 (by omega)]; exact hn
    refine ⟨s1, ⟨.int (nI f) :: jk, fun Q => ?_⟩, hO, LdC_e hS (fun x hx => ⟨Or.inl, fun w => w.elim id (fun ⟨k, e, w1, w2, _⟩ => by
      have := (List.getElem?_eq_some_iff.mp w2).1
      rw [List.length_reverse] at this
      omega)⟩)⟩
    rw [k_M_collect_23]
    simp only [k_M_collect_24, k_M_collect_25, k_M_collect_28, g_M0, g_M1, g_M2, g_M3, g_M4, g_M5, g_M6, g_M7, g_M8, g_M9, g_M10, g_M11, g_M12, g_M13, g_M14, g_M15, g_M16, g_M17, g_M18, g_M19, g_M20, g_M21, g_M22, g_M23, g_M24, g_M25, g_M26, g_M27, g_M28, g_M29, g_M30, g_M31, g_M32, g_M33, hn1, h1, am_ob_s, List.tail_cons, List.tail_nil, Option.toList_some, Option.toList_none, List.nil_append, List.cons_append, List.length_nil, List.length_cons, Nat.zero_le, true_and, and_true, true_implies, false_implies, not_true_eq_false, not_false_eq_true, implies_true, or_true, true_or, Nat.reduceAdd, Nat.reduceLeDiff]
  | succ r ih =>
    intro f hf s1 hO S hS jk
    have h1 : ¬ nI FS.length ≤ nI f := nI_ge (by omega) (by omega)
    have hn1 : s1 308 21 = nI FS.length := by rw [hO 308 (by omega)]; exact hn
    obtain ⟨F, hF⟩ : ∃ F, FS.reverse[f]? = some F := ⟨_, List.getElem?_eq_getElem (by rw [List.length_reverse]; omega)⟩
    have hm : F ∈ FS := List.mem_reverse.mp (List.mem_of_getElem? hF)
    have ho := hok F hm
    have hMf := hFS f F hF
    obtain ⟨s2, a1, a2, a3⟩ := m_marksL (show f < 8 by omega) hMf hP (hK F.1 ho.1) ho 4 0 (by omega) s1 hO S hS jk.tail
    obtain ⟨s3, b1, b2, b3⟩ := m_marksS (show f < 8 by omega) hMf _ ho F.2.2.2.length 0 (by omega) s2 a2 _ a3 jk.tail
    obtain ⟨s', ⟨jk', c1⟩, c2, c3⟩ := ih (f + 1) (by omega) s3 b2 _ b3 (.int (nI F.2.2.2.length) :: jk.tail)
    rw [nI_0] at a1 b1
    refine ⟨s', ⟨jk', fun Q => ?_⟩, c2, LdC_e c3 (fun x hx => ?_)⟩
    · rw [k_M_collect_23]
      simp only [k_M_collect_24, k_M_collect_25, k_M_collect_28, k_M_collect_31, k_M_collect_32, g_M0, g_M1, g_M2, g_M3, g_M4, g_M5, g_M6, g_M7, g_M8, g_M9, g_M10, g_M11, g_M12, g_M13, g_M14, g_M15, g_M16, g_M17, g_M18, g_M19, g_M20, g_M21, g_M22, g_M23, g_M24, g_M25, g_M26, g_M27, g_M28, g_M29, g_M30, g_M31, g_M32, g_M33, hn1, h1, am_ob_s, List.tail_cons, List.tail_nil, Option.toList_some, Option.toList_none, List.nil_append, List.cons_append, List.length_nil, List.length_cons, Nat.zero_le, true_and, and_true, true_implies, false_implies, not_true_eq_false, not_false_eq_true, implies_true, or_true, true_or, Nat.reduceAdd, Nat.reduceLeDiff]
      rw [a1]
      simp only [k_M_collect_74, k_M_collect_75, am_ob_s, List.tail_cons, List.tail_nil, Option.toList_some, Option.toList_none, List.nil_append, List.cons_append, List.length_nil, List.length_cons, Nat.zero_le, true_and, and_true, true_implies, false_implies, not_true_eq_false, not_false_eq_true, implies_true, or_true, true_or, Nat.reduceAdd, Nat.reduceLeDiff]
      rw [b1]
      simp only [k_M_collect_123, k_M_collect_126, nI_1, am_ob_s, List.tail_cons, List.tail_nil, Option.toList_some, Option.toList_none, List.nil_append, List.cons_append, List.length_nil, List.length_cons, Nat.zero_le, true_and, and_true, true_implies, false_implies, not_true_eq_false, not_false_eq_true, implies_true, or_true, true_or, Nat.reduceAdd, Nat.reduceLeDiff]
      exact c1 Q
    · constructor
      · rintro (((w | ⟨k, _, w2, w3⟩) | ⟨k, e, _, w2, w3⟩) | ⟨k, A, w1, w2⟩)
        · exact Or.inl w
        · exact Or.inr ⟨f, F, Nat.le_refl _, hF, Or.inl ⟨k, w2, w3⟩⟩
        · exact Or.inr ⟨f, F, Nat.le_refl _, hF, Or.inr ⟨e, List.mem_reverse.mp (List.mem_of_getElem? w2), w3⟩⟩
        · exact Or.inr ⟨k, A, by omega, w2⟩
      · rintro (w | ⟨k, A, w1, w2, w3⟩)
        · exact Or.inl (Or.inl (Or.inl w))
        · by_cases ek : k = f
          · rw [ek, hF] at w2
            obtain rfl := Option.some.inj w2
            rcases w3 with ⟨i, w4, w5⟩ | ⟨e, w4, w5⟩
            · exact Or.inl (Or.inl (Or.inr ⟨i, Nat.zero_le _, w4, w5⟩))
            · obtain ⟨i, hi⟩ := List.getElem?_of_mem (List.mem_reverse.mpr w4)
              exact Or.inl (Or.inr ⟨i, e, Nat.zero_le _, hi, w5⟩)
          · exact Or.inr ⟨k, A, by omega, w2, w3⟩
end SM17
