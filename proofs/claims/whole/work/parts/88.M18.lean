/-! The reference: collect -/
/-- row i holds the reference x -/
def eX (cl : Nat → Nat) (vl : Nat → Nat → Int32) (G : Nat → pLy) (i x : Nat) : Prop := cl i ≠ 0 ∧ x ≤ 16 ∧ ∃ (k : Nat) (e : Nat × Nat × Int32), (G (cl i))[k]? = some e ∧ e.2.1 ≠ 0 ∧ vl i k = nI x
/-- what rows hold of references is a row's number or null -/
def okRR (cl : Nat → Nat) (vl : Nat → Nat → Int32) (G : Nat → pLy) : Prop := ∀ i, i < 16 → cl i ≠ 0 → ∀ (k : Nat) (e : Nat × Nat × Int32), (G (cl i))[k]? = some e → e.2.1 < 4 ∧ (e.2.1 ≠ 0 → ∃ n, n ≤ 16 ∧ vl i k = nI n)
/-- one round of marking -/
def Rd (cl : Nat → Nat) (vl : Nat → Nat → Int32) (G : Nat → pLy) (i0 : Nat) (S S' : Nat → Prop) : Prop := (∀ x, S x → S' x) ∧ (∀ i x, i0 ≤ i → i < 16 → S (i + 1) → eX cl vl G i x → S' x) ∧ ∀ T : Nat → Prop, (∀ x, S x → T x) → (∀ i x, i < 16 → T (i + 1) → eX cl vl G i x → T x) → ∀ x, S' x → T x
noncomputable def cn (S : Nat → Prop) : Nat → Nat
  | 0 => 0
  | j + 1 => cn S j + zif (S (j + 1)) 1 0
theorem cn_le {S S' : Nat → Prop} (h : ∀ x, S x → S' x) : ∀ j, cn S j ≤ cn S' j
  | 0 => Nat.le_refl _
  | j + 1 => by
    have ih := cn_le h j
    unfold cn
    by_cases q : S (j + 1)
    · rw [zif_t q, zif_t (h _ q)]; omega
    · rw [zif_f q]; omega
theorem cn_lt {S S' : Nat → Prop} (h : ∀ x, S x → S' x) {x : Nat} (h1 : S' x) (h2 : ¬ S x) : ∀ j, 1 ≤ x → x ≤ j → cn S j + 1 ≤ cn S' j
  | 0, w1, w2 => by omega
  | j + 1, w1, w2 => by
    unfold cn
    by_cases q : x = j + 1
    · have := cn_le h j
      rw [← q, zif_f h2, zif_t h1]; omega
    · have ih := cn_lt h h1 h2 j w1 (by omega)
      by_cases q : S (j + 1)
      · rw [zif_t q, zif_t (h _ q)]; omega
      · rw [zif_f q]; omega
theorem cn_up (S : Nat → Prop) : ∀ j, cn S j ≤ j
  | 0 => Nat.le_refl _
  | j + 1 => by
    have := cn_up S j
    unfold cn
    by_cases q : S (j + 1)
    · rw [zif_t q]; omega
    · rw [zif_f q]; omega
theorem cn_all (S : Nat → Prop) : ∀ j, j ≤ cn S j → ∀ x, 1 ≤ x → x ≤ j → S x
  | 0, _, x, w1, w2 => by omega
  | j + 1, h, x, w1, w2 => by
    have h2 := cn_up S j
    unfold cn at h
    by_cases q : S (j + 1)
    · rw [zif_t q] at h
      by_cases w : x = j + 1
      · rw [w]; exact q
      · exact cn_all S j (by omega) x w1 (by omega)
    · rw [zif_f q] at h
      omega
section SM18
variable {cl : Nat → Nat} {vl : Nat → Nat → Int32} {G : Nat → pLy}
/-- closed, null aside -/
def clo (cl : Nat → Nat) (vl : Nat → Nat → Int32) (G : Nat → pLy) (S : Nat → Prop) : Prop := ∀ i x, i < 16 → 1 ≤ x → S (i + 1) → eX cl vl G i x → S x
theorem Rd_clo {S S' : Nat → Prop} (h : Rd cl vl G 0 S S') (hc : clo cl vl G S) : clo cl vl G S' ∧ ∀ x, 1 ≤ x → S' x → S x := by
  have k : ∀ x, 1 ≤ x → S' x → S x := fun x hx h1 => by
    have := h.2.2 (fun x => x = 0 ∨ S x) (fun x => Or.inr) (fun i x hi w1 w2 => by
      rcases w1 with w1 | w1
      · omega
      · by_cases q : x = 0
        · exact Or.inl q
        · exact Or.inr (hc i x hi (by omega) w1 w2)) x h1
    rcases this with w | w
    · omega
    · exact w
  exact ⟨fun i x hi hx w1 w2 => h.1 x (hc i x hi hx (k _ (by omega) w1) w2), k⟩
theorem Rd_cn {S S' : Nat → Prop} {t : Nat} (h : Rd cl vl G 0 S S') (hc : clo cl vl G S ∨ t ≤ cn S 16) : clo cl vl G S' ∨ t + 1 ≤ cn S' 16 := by
  by_cases q : clo cl vl G S
  · exact Or.inl (Rd_clo h q).1
  · have hc' := hc.resolve_left q
    obtain ⟨i, x, w1, w2, w3, w4, w5⟩ : ∃ i x, i < 16 ∧ 1 ≤ x ∧ S (i + 1) ∧ eX cl vl G i x ∧ ¬ S x := by
      refine Classical.byContradiction (fun w => q (fun i x w1 w2 w3 w4 => ?_))
      exact Classical.byContradiction (fun w5 => w ⟨i, x, w1, w2, w3, w4, w5⟩)
    have := cn_lt h.1 (h.2.1 i x (Nat.zero_le _) w1 w3 w4) w5 16 w2 w4.2.1
    exact Or.inr (by omega)
variable {s : am_S} {P : pPg}
theorem m_roundK (hP : MpC s 0 P) (hh : MhC s cl vl) (hok : okRR cl vl P.1) {a i : Nat} (hi : i < 16) : ∀ (r k : Nat), k + r = 4 → ∀ (s1 : am_S), mO s s1 → ∀ (S : Nat → Prop), LdC s1 S → ∀ (jk : List Value), ∃ s', (∀ Q : Option Value → am_H → Prop, am_W m_M_collect 147 (.ref 308 :: .int (nI a) :: .int (nI (i + 1)) :: .int (nI k) :: jk) [] (TP, s1) Q ↔ am_W m_M_collect 224 (.ref 308 :: .int (nI a) :: .int (nI (i + 1)) :: .int (nI 4) :: jk) [] (TP, s') Q) ∧ mO s s' ∧ LdC s' (fun x => S x ∨ (S (i + 1) ∧ cl i ≠ 0 ∧ ∃ (k' : Nat) (e : Nat × Nat × Int32), k ≤ k' ∧ (P.1 (cl i))[k']? = some e ∧ e.2.1 ≠ 0 ∧ vl i k' = nI x)) := by
  intro r
  induction r with
  | zero =>
    intro k hk s1 hO S hS jk
    obtain rfl : k = 4 := by omega
    have h1 : (4 : Int32) ≤ nI 4 := by decide
    refine ⟨s1, fun Q => ?_, hO, LdC_e hS (fun x hx => ⟨Or.inl, fun w => w.elim id (fun ⟨w0, w1, k', e, w2, w3, _⟩ => by
      have := (List.getElem?_eq_some_iff.mp w3).1
      have hc := (hh i hi).2.1
      have := (hP.1 (cl i) (by omega) (by omega)).2.1
      omega)⟩)⟩
    rw [k_M_collect_147]
    simp only [k_M_collect_148, k_M_collect_149, h1, am_ob_s, List.tail_cons, List.tail_nil, Option.toList_some, Option.toList_none, List.nil_append, List.cons_append, List.length_nil, List.length_cons, Nat.zero_le, true_and, and_true, true_implies, false_implies, not_true_eq_false, not_false_eq_true, implies_true, or_true, true_or, Nat.reduceAdd, Nat.reduceLeDiff]
  | succ r ih =>
    intro k hk s1 hO S hS jk
    have h1 : ¬ (4 : Int32) ≤ nI k := nI_ge (b := 4) (by omega) (by decide)
    obtain ⟨m1, m2, m3⟩ := MhC_o hh hO i hi
    have hi17 : i + 1 < 17 := by omega
    have ld := l_M_led (s := s1) hi17
    rw [hS (i + 1) (by omega)] at ld
    have lm := l_M_made (s := s1) hi17
    rw [m1] at lm
    -- a place that marks nothing
    have skip : ¬ (S (i + 1) ∧ cl i ≠ 0 ∧ ∃ e, (P.1 (cl i))[k]? = some e ∧ e.2.1 ≠ 0) → (∀ Q : Option Value → am_H → Prop, am_W m_M_collect 147 (.ref 308 :: .int (nI a) :: .int (nI (i + 1)) :: .int (nI k) :: jk) [] (TP, s1) Q ↔ am_W m_M_collect 147 (.ref 308 :: .int (nI a) :: .int (nI (i + 1)) :: .int (nI (k + 1)) :: jk) [] (TP, s1) Q) → ∃ s', (∀ Q : Option Value → am_H → Prop, am_W m_M_collect 147 (.ref 308 :: .int (nI a) :: .int (nI (i + 1)) :: .int (nI k) :: jk) [] (TP, s1) Q ↔ am_W m_M_collect 224 (.ref 308 :: .int (nI a) :: .int (nI (i + 1)) :: .int (nI 4) :: jk) [] (TP, s') Q) ∧ mO s s' ∧ LdC s' (fun x => S x ∨ (S (i + 1) ∧ cl i ≠ 0 ∧ ∃ (k' : Nat) (e : Nat × Nat × Int32), k ≤ k' ∧ (P.1 (cl i))[k']? = some e ∧ e.2.1 ≠ 0 ∧ vl i k' = nI x)) := fun hn hw => by
      obtain ⟨s', a1, a2, a3⟩ := ih (k + 1) (by omega) s1 hO S hS jk
      refine ⟨s', fun Q => (hw Q).trans (a1 Q), a2, LdC_e a3 (fun x hx => ?_)⟩
      constructor
      · rintro (w | ⟨w1, w2, k', e, w3, w4⟩)
        · exact Or.inl w
        · exact Or.inr ⟨w1, w2, k', e, by omega, w4⟩
      · rintro (w | ⟨w1, w2, k', e, w3, w4, w5, w6⟩)
        · exact Or.inl w
        · refine Or.inr ⟨w1, w2, k', e, ?_, w4, w5, w6⟩
          by_cases q : k' = k
          · rw [q] at w4; exact absurd ⟨w1, w2, e, w4, w5⟩ hn
          · omega
    by_cases hA : S (i + 1)
    · rw [zb_t hA] at ld
      by_cases hB : cl i = 0
      · refine skip (fun q => q.2.1 hB) (fun Q => ?_)
        have z : nI (cl i) ≤ 0 := by rw [hB]; decide
        rw [k_M_collect_147]
        simp only [k_M_collect_148, k_M_collect_149, k_M_collect_152, k_M_collect_153, k_M_collect_156, k_M_collect_157, k_M_collect_158, k_M_collect_161, k_M_collect_162, k_M_collect_165, k_M_collect_166, k_M_collect_167, k_M_collect_170, k_M_collect_171, k_M_collect_172, k_M_collect_175, k_M_collect_176, k_M_collect_179, k_M_collect_180, k_M_collect_181, k_M_collect_182, k_M_collect_183, k_M_collect_184, k_M_collect_187, k_M_collect_188, k_M_collect_189, k_M_collect_190, k_M_collect_193, k_M_collect_194, k_M_collect_195, k_M_collect_196, k_M_collect_199, k_M_collect_202, k_M_collect_203, k_M_collect_206, k_M_collect_207, k_M_collect_210, k_M_collect_211, k_M_collect_212, k_M_collect_213, k_M_collect_214, k_M_collect_215, k_M_collect_216, k_M_collect_217, k_M_collect_218, k_M_collect_221, g_M0, g_M1, g_M2, g_M3, g_M4, g_M5, g_M6, g_M7, g_M8, g_M9, g_M10, g_M11, g_M12, g_M13, g_M14, g_M15, g_M16, g_M17, g_M18, g_M19, g_M20, g_M21, g_M22, g_M23, g_M24, g_M25, g_M26, g_M27, g_M28, g_M29, g_M30, g_M31, g_M32, g_M33, h1, ld, hz10, lm, z, nI_1, am_ob_s, List.tail_cons, List.tail_nil, Option.toList_some, Option.toList_none, List.nil_append, List.cons_append, List.length_nil, List.length_cons, Nat.zero_le, true_and, and_true, true_implies, false_implies, not_true_eq_false, not_false_eq_true, implies_true, or_true, true_or, Nat.reduceAdd, Nat.reduceLeDiff]
      · have z : ¬ nI (cl i) ≤ 0 := nI_nle (by omega) (by omega)
        have hc := ix3z (cl i) m2 (by omega)
        have hc15 : 3 * 0 + cl i - 1 < 15 := by omega
        have hL := (MpC_o hP hO).1 (cl i) (by omega) (by omega)
        have lf := l_M_fields (s := s1) hc15
        rw [hL.1] at lf
        have hl4 := hL.2.1
        cases he : (P.1 (cl i))[k]? with
        | none =>
          have hkl := List.getElem?_eq_none_iff.mp he
          refine skip (fun ⟨_, _, e, w, _⟩ => by rw [he] at w; cases w) (fun Q => ?_)
          have z2 : nI (P.1 (cl i)).length ≤ nI k := nI_le hkl (by omega)
          rw [k_M_collect_147]
          simp only [k_M_collect_148, k_M_collect_149, k_M_collect_152, k_M_collect_153, k_M_collect_156, k_M_collect_157, k_M_collect_158, k_M_collect_161, k_M_collect_162, k_M_collect_165, k_M_collect_166, k_M_collect_167, k_M_collect_170, k_M_collect_171, k_M_collect_172, k_M_collect_175, k_M_collect_176, k_M_collect_179, k_M_collect_180, k_M_collect_181, k_M_collect_182, k_M_collect_183, k_M_collect_184, k_M_collect_187, k_M_collect_188, k_M_collect_189, k_M_collect_190, k_M_collect_193, k_M_collect_194, k_M_collect_195, k_M_collect_196, k_M_collect_199, k_M_collect_202, k_M_collect_203, k_M_collect_206, k_M_collect_207, k_M_collect_210, k_M_collect_211, k_M_collect_212, k_M_collect_213, k_M_collect_214, k_M_collect_215, k_M_collect_216, k_M_collect_217, k_M_collect_218, k_M_collect_221, g_M0, g_M1, g_M2, g_M3, g_M4, g_M5, g_M6, g_M7, g_M8, g_M9, g_M10, g_M11, g_M12, g_M13, g_M14, g_M15, g_M16, g_M17, g_M18, g_M19, g_M20, g_M21, g_M22, g_M23, g_M24, g_M25, g_M26, g_M27, g_M28, g_M29, g_M30, g_M31, g_M32, g_M33, h1, ld, hz10, lm, z, hc, lf, z2, nI_1, am_ob_s, List.tail_cons, List.tail_nil, Option.toList_some, Option.toList_none, List.nil_append, List.cons_append, List.length_nil, List.length_cons, Nat.zero_le, true_and, and_true, true_implies, false_implies, not_true_eq_false, not_false_eq_true, implies_true, or_true, true_or, Nat.reduceAdd, Nat.reduceLeDiff]
        | some e =>
          have hkl := (List.getElem?_eq_some_iff.mp he).1
          have z2 : ¬ nI (P.1 (cl i)).length ≤ nI k := nI_ge hkl (by omega)
          have hv := (hL.2.2 k e he).2.1
          obtain ⟨o1, o2⟩ := hok i hi hB k e he
          have to := fun (Q : Option Value → am_H → Prop) => e_M_typeOf (s := s1) (Q := Q) (b := 0) (c := cl i) (k := k) (by omega) ⟨by omega, by omega⟩ (by omega)
          rw [hv, nI_0] at to
          by_cases hD : e.2.1 = 0
          · refine skip (fun ⟨_, _, e', w, w'⟩ => by rw [he] at w; rw [← Option.some.inj w] at w'; exact w' hD) (fun Q => ?_)
            have z3 : nI e.2.1 ≤ 0 := by rw [hD]; decide
            rw [k_M_collect_147]
            simp only [k_M_collect_148, k_M_collect_149, k_M_collect_152, k_M_collect_153, k_M_collect_156, k_M_collect_157, k_M_collect_158, k_M_collect_161, k_M_collect_162, k_M_collect_165, k_M_collect_166, k_M_collect_167, k_M_collect_170, k_M_collect_171, k_M_collect_172, k_M_collect_175, k_M_collect_176, k_M_collect_179, k_M_collect_180, k_M_collect_181, k_M_collect_182, k_M_collect_183, k_M_collect_184, k_M_collect_187, k_M_collect_188, k_M_collect_189, k_M_collect_190, k_M_collect_193, k_M_collect_194, k_M_collect_195, k_M_collect_196, k_M_collect_199, k_M_collect_202, k_M_collect_203, k_M_collect_206, k_M_collect_207, k_M_collect_210, k_M_collect_211, k_M_collect_212, k_M_collect_213, k_M_collect_214, k_M_collect_215, k_M_collect_216, k_M_collect_217, k_M_collect_218, k_M_collect_221, g_M0, g_M1, g_M2, g_M3, g_M4, g_M5, g_M6, g_M7, g_M8, g_M9, g_M10, g_M11, g_M12, g_M13, g_M14, g_M15, g_M16, g_M17, g_M18, g_M19, g_M20, g_M21, g_M22, g_M23, g_M24, g_M25, g_M26, g_M27, g_M28, g_M29, g_M30, g_M31, g_M32, g_M33, h1, ld, hz10, lm, z, hc, lf, z2, rc_M, to, z3, nI_1, am_ob_s, List.tail_cons, List.tail_nil, Option.toList_some, Option.toList_none, List.nil_append, List.cons_append, List.length_nil, List.length_cons, Nat.zero_le, true_and, and_true, true_implies, false_implies, not_true_eq_false, not_false_eq_true, implies_true, or_true, true_or, Nat.reduceAdd, Nat.reduceLeDiff]
          · have z3 : ¬ nI e.2.1 ≤ 0 := nI_nle (by omega) (by omega)
            obtain ⟨n, hn, en⟩ := o2 hD
            have i17 := ix17 (i + 1) hi17 k (by omega)
            have lh := l_M_held (s := s1) (show 4 * (i + 1) + k < 68 by omega)
            rw [m3 k (by omega), en] at lh
            obtain ⟨s', a1, a2, a3⟩ := ih (k + 1) (by omega) (am_wr s1 332 n 1) (mO_tr hO (mO_set _ _ _)) _ (LdC_set hS n) jk
            refine ⟨s', fun Q => ?_, a2, LdC_e a3 (fun x hx => ?_)⟩
            · rw [k_M_collect_147]
              simp only [k_M_collect_148, k_M_collect_149, k_M_collect_152, k_M_collect_153, k_M_collect_156, k_M_collect_157, k_M_collect_158, k_M_collect_161, k_M_collect_162, k_M_collect_165, k_M_collect_166, k_M_collect_167, k_M_collect_170, k_M_collect_171, k_M_collect_172, k_M_collect_175, k_M_collect_176, k_M_collect_179, k_M_collect_180, k_M_collect_181, k_M_collect_182, k_M_collect_183, k_M_collect_184, k_M_collect_187, k_M_collect_188, k_M_collect_189, k_M_collect_190, k_M_collect_193, k_M_collect_194, k_M_collect_195, k_M_collect_196, k_M_collect_199, k_M_collect_202, k_M_collect_203, k_M_collect_206, k_M_collect_207, k_M_collect_210, k_M_collect_211, k_M_collect_212, k_M_collect_213, k_M_collect_214, k_M_collect_215, k_M_collect_216, k_M_collect_217, k_M_collect_218, k_M_collect_221, g_M0, g_M1, g_M2, g_M3, g_M4, g_M5, g_M6, g_M7, g_M8, g_M9, g_M10, g_M11, g_M12, g_M13, g_M14, g_M15, g_M16, g_M17, g_M18, g_M19, g_M20, g_M21, g_M22, g_M23, g_M24, g_M25, g_M26, g_M27, g_M28, g_M29, g_M30, g_M31, g_M32, g_M33, h1, ld, hz10, lm, z, hc, lf, z2, rc_M, to, z3, i17, lh, w_M_led (show n < 17 by omega) (Or.inr rfl), nI_1, am_ob_s, List.tail_cons, List.tail_nil, Option.toList_some, Option.toList_none, List.nil_append, List.cons_append, List.length_nil, List.length_cons, Nat.zero_le, true_and, and_true, true_implies, false_implies, not_true_eq_false, not_false_eq_true, implies_true, or_true, true_or, Nat.reduceAdd, Nat.reduceLeDiff]
              exact a1 Q
            · constructor
              · rintro ((w | w) | ⟨w1, w2, k', e', w3, w4⟩)
                · exact Or.inl w
                · exact Or.inr ⟨hA, hB, k, e, Nat.le_refl _, he, hD, by rw [en, w]⟩
                · exact Or.inr ⟨hA, hB, k', e', by omega, w4⟩
              · rintro (w | ⟨w1, w2, k', e', w3, w4, w5, w6⟩)
                · exact Or.inl (Or.inl w)
                · by_cases q : k' = k
                  · rw [q, en] at w6
                    exact Or.inl (Or.inr ((nI_up hx hn).mp w6))
                  · exact Or.inr ⟨Or.inl hA, hB, k', e', by omega, w4, w5, w6⟩
    · refine skip (fun q => hA q.1) (fun Q => ?_)
      rw [zb_f hA] at ld
      rw [k_M_collect_147]
      simp only [k_M_collect_148, k_M_collect_149, k_M_collect_152, k_M_collect_153, k_M_collect_156, k_M_collect_157, k_M_collect_158, k_M_collect_161, k_M_collect_162, k_M_collect_165, k_M_collect_166, k_M_collect_167, k_M_collect_170, k_M_collect_171, k_M_collect_172, k_M_collect_175, k_M_collect_176, k_M_collect_179, k_M_collect_180, k_M_collect_181, k_M_collect_182, k_M_collect_183, k_M_collect_184, k_M_collect_187, k_M_collect_188, k_M_collect_189, k_M_collect_190, k_M_collect_193, k_M_collect_194, k_M_collect_195, k_M_collect_196, k_M_collect_199, k_M_collect_202, k_M_collect_203, k_M_collect_206, k_M_collect_207, k_M_collect_210, k_M_collect_211, k_M_collect_212, k_M_collect_213, k_M_collect_214, k_M_collect_215, k_M_collect_216, k_M_collect_217, k_M_collect_218, k_M_collect_221, g_M0, g_M1, g_M2, g_M3, g_M4, g_M5, g_M6, g_M7, g_M8, g_M9, g_M10, g_M11, g_M12, g_M13, g_M14, g_M15, g_M16, g_M17, g_M18, g_M19, g_M20, g_M21, g_M22, g_M23, g_M24, g_M25, g_M26, g_M27, g_M28, g_M29, g_M30, g_M31, g_M32, g_M33, h1, ld, nI_1, am_ob_s, List.tail_cons, List.tail_nil, Option.toList_some, Option.toList_none, List.nil_append, List.cons_append, List.length_nil, List.length_cons, Nat.zero_le, true_and, and_true, true_implies, false_implies, not_true_eq_false, not_false_eq_true, implies_true, or_true, true_or, Nat.reduceAdd, Nat.reduceLeDiff]
theorem m_roundJ (hP : MpC s 0 P) (hh : MhC s cl vl) (hok : okRR cl vl P.1) {a : Nat} : ∀ (r i : Nat), i + r = 16 → ∀ (s1 : am_S), mO s s1 → ∀ (S : Nat → Prop), LdC s1 S → ∀ (jk : List Value), ∃ s', (∃ jk', ∀ Q : Option Value → am_H → Prop, am_W m_M_collect 139 (.ref 308 :: .int (nI a) :: .int (nI (i + 1)) :: jk) [] (TP, s1) Q ↔ am_W m_M_collect 230 (.ref 308 :: .int (nI a) :: jk') [] (TP, s') Q) ∧ mO s s' ∧ ∃ S', LdC s' S' ∧ Rd cl vl P.1 i S S' := by
  intro r
  induction r with
  | zero =>
    intro i hi s1 hO S hS jk
    obtain rfl : i = 16 := by omega
    have h1 : (16 : Int32) < nI (16 + 1) := by decide
    refine ⟨s1, ⟨.int (nI (16 + 1)) :: jk, fun Q => ?_⟩, hO, S, hS, fun x h => h, fun i x w1 w2 => by omega, fun T w1 w2 x w3 => w1 x w3⟩
    rw [k_M_collect_139]
    simp only [k_M_collect_140, k_M_collect_142, h1, am_ob_s, List.tail_cons, List.tail_nil, Option.toList_some, Option.toList_none, List.nil_append, List.cons_append, List.length_nil, List.length_cons, Nat.zero_le, true_and, and_true, true_implies, false_implies, not_true_eq_false, not_false_eq_true, implies_true, or_true, true_or, Nat.reduceAdd, Nat.reduceLeDiff]
  | succ r ih =>
    intro i hi s1 hO S hS jk
    have h1 : ¬ (16 : Int32) < nI (i + 1) := nI_nlt (a := 16) (by omega) (by omega)
    obtain ⟨s2, a1, a2, a3⟩ := m_roundK hP hh hok (a := a) (show i < 16 by omega) 4 0 (by omega) s1 hO S hS jk.tail
    obtain ⟨s', ⟨jk', b1⟩, b2, S', b3, b4, b5, b6⟩ := ih (i + 1) (by omega) s2 a2 (fun x => x ≤ 16 ∧ (S x ∨ (S (i + 1) ∧ cl i ≠ 0 ∧ ∃ (k' : Nat) (e : Nat × Nat × Int32), 0 ≤ k' ∧ (P.1 (cl i))[k']? = some e ∧ e.2.1 ≠ 0 ∧ vl i k' = nI x)) ∨ S x) (LdC_e a3 (fun x hx => ⟨fun w => Or.inl ⟨hx, w⟩, fun w => w.elim (fun w => w.2) Or.inl⟩)) (.int (nI 4) :: jk.tail)
    rw [nI_0] at a1
    refine ⟨s', ⟨jk', fun Q => ?_⟩, b2, S', b3, fun x h => b4 x (Or.inr h), fun i' x w1 w2 w3 w4 => ?_, fun T w1 w2 => ?_⟩
    · rw [k_M_collect_139]
      simp only [k_M_collect_140, k_M_collect_142, k_M_collect_145, k_M_collect_146, h1, am_ob_s, List.tail_cons, List.tail_nil, Option.toList_some, Option.toList_none, List.nil_append, List.cons_append, List.length_nil, List.length_cons, Nat.zero_le, true_and, and_true, true_implies, false_implies, not_true_eq_false, not_false_eq_true, implies_true, or_true, true_or, Nat.reduceAdd, Nat.reduceLeDiff]
      rw [a1]
      simp only [k_M_collect_224, k_M_collect_227, nI_1, am_ob_s, List.tail_cons, List.tail_nil, Option.toList_some, Option.toList_none, List.nil_append, List.cons_append, List.length_nil, List.length_cons, Nat.zero_le, true_and, and_true, true_implies, false_implies, not_true_eq_false, not_false_eq_true, implies_true, or_true, true_or, Nat.reduceAdd, Nat.reduceLeDiff]
      exact b1 Q
    · by_cases q : i' = i
      · rw [q] at w3 w4
        obtain ⟨e1, e2, k, e, e3⟩ := w4
        exact b4 x (Or.inl ⟨e2, Or.inr ⟨w3, e1, k, e, Nat.zero_le _, e3⟩⟩)
      · exact b5 i' x (by omega) w2 (Or.inr w3) w4
    · refine b6 T (fun x w => ?_) w2
      rcases w with ⟨q0, w | ⟨q1, q2, k, e, q3, q4⟩⟩ | w
      · exact w1 x w
      · exact w2 i x (by omega) (w1 _ q1) ⟨q2, q0, k, e, q4⟩
      · exact w1 x w
theorem m_rounds (hP : MpC s 0 P) (hh : MhC s cl vl) (hok : okRR cl vl P.1) : ∀ (r a : Nat), a + r = 16 → ∀ (s1 : am_S), mO s s1 → ∀ (S : Nat → Prop), LdC s1 S → (clo cl vl P.1 S ∨ a ≤ cn S 16) → ∀ (jk : List Value), ∃ s', (∃ jk', ∀ Q : Option Value → am_H → Prop, am_W m_M_collect 131 (.ref 308 :: .int (nI a) :: jk) [] (TP, s1) Q ↔ am_W m_M_collect 236 (.ref 308 :: jk') [] (TP, s') Q) ∧ mO s s' ∧ ∃ S', LdC s' S' ∧ (∀ x, S x → S' x) ∧ clo cl vl P.1 S' ∧ ∀ T : Nat → Prop, (∀ x, S x → T x) → (∀ i x, i < 16 → T (i + 1) → eX cl vl P.1 i x → T x) → ∀ x, S' x → T x := by
  intro r
  induction r with
  | zero =>
    intro a ha s1 hO S hS hc jk
    obtain rfl : a = 16 := by omega
    have h1 : (16 : Int32) ≤ nI 16 := by decide
    refine ⟨s1, ⟨.int (nI 16) :: jk, fun Q => ?_⟩, hO, S, hS, fun x h => h, ?_, fun T w1 w2 x w3 => w1 x w3⟩
    · rw [k_M_collect_131]
      simp only [k_M_collect_132, k_M_collect_134, h1, am_ob_s, List.tail_cons, List.tail_nil, Option.toList_some, Option.toList_none, List.nil_append, List.cons_append, List.length_nil, List.length_cons, Nat.zero_le, true_and, and_true, true_implies, false_implies, not_true_eq_false, not_false_eq_true, implies_true, or_true, true_or, Nat.reduceAdd, Nat.reduceLeDiff]
    · rcases hc with q | q
      · exact q
      · exact fun i x w1 w2 w3 w4 => cn_all S 16 q x w2 w4.2.1
  | succ r ih =>
    intro a ha s1 hO S hS hc jk
    have h1 : ¬ (16 : Int32) ≤ nI a := nI_ge (b := 16) (by omega) (by decide)
    obtain ⟨s2, ⟨jk2, a1⟩, a2, S2, a3, a4⟩ := m_roundJ hP hh hok (a := a) 16 0 (by omega) s1 hO S hS jk.tail
    rw [show nI (0 + 1) = 1 from rfl] at a1
    obtain ⟨s', ⟨jk', b1⟩, b2, S', b3, b4, b5, b6⟩ := ih (a + 1) (by omega) s2 a2 S2 a3 (Rd_cn a4 hc) jk2
    refine ⟨s', ⟨jk', fun Q => ?_⟩, b2, S', b3, fun x h => b4 x (a4.1 x h), b5, fun T w1 w2 => b6 T (a4.2.2 T w1 w2) w2⟩
    rw [k_M_collect_131]
    simp only [k_M_collect_132, k_M_collect_134, k_M_collect_137, k_M_collect_138, h1, am_ob_s, List.tail_cons, List.tail_nil, Option.toList_some, Option.toList_none, List.nil_append, List.cons_append, List.length_nil, List.length_cons, Nat.zero_le, true_and, and_true, true_implies, false_implies, not_true_eq_false, not_false_eq_true, implies_true, or_true, true_or, Nat.reduceAdd, Nat.reduceLeDiff]
    rw [a1]
    simp only [k_M_collect_230, k_M_collect_233, nI_1, am_ob_s, List.tail_cons, List.tail_nil, Option.toList_some, Option.toList_none, List.nil_append, List.cons_append, List.length_nil, List.length_cons, Nat.zero_le, true_and, and_true, true_implies, false_implies, not_true_eq_false, not_false_eq_true, implies_true, or_true, true_or, Nat.reduceAdd, Nat.reduceLeDiff]
    exact b1 Q
theorem m_sweep {l : List Nat} {S : Nat → Prop} (hS : ∀ j, j < 16 → (S (j + 1) ↔ j ∈ l)) : ∀ (r j : Nat), j + r = 16 → ∀ (s1 : am_S), LdC s1 S → MhC s1 (upj (tkc cl l) cl j) vl → ∀ (jk : List Value), ∃ s', (∀ Q : Option Value → am_H → Prop, am_W m_M_collect 238 (.ref 308 :: .int (nI (j + 1)) :: jk) [] (TP, s1) Q ↔ Q none (TP, s')) ∧ MhC s' (tkc cl l) vl ∧ off 330 331 s1 s' := by
  intro r
  induction r with
  | zero =>
    intro j hj s1 hL hM jk
    obtain rfl : j = 16 := by omega
    have h1 : (16 : Int32) < nI (16 + 1) := by decide
    refine ⟨s1, fun Q => ?_, fun i hi => by have := hM i hi; rw [upj_lt hi] at this; exact this, off_rf _ _ _⟩
    rw [k_M_collect_238]
    simp only [k_M_collect_239, k_M_collect_241, k_M_collect_275, h1, am_ob_s, List.tail_cons, List.tail_nil, Option.toList_some, Option.toList_none, List.nil_append, List.cons_append, List.length_nil, List.length_cons, Nat.zero_le, true_and, and_true, true_implies, false_implies, not_true_eq_false, not_false_eq_true, implies_true, or_true, true_or, Nat.reduceAdd, Nat.reduceLeDiff]
  | succ r ih =>
    intro j hj s1 hL hM jk
    have h1 : ¬ (16 : Int32) < nI (j + 1) := nI_nlt (a := 16) (by omega) (by omega)
    have hj17 : j + 1 < 17 := by omega
    have ld := l_M_led (s := s1) hj17
    rw [hL (j + 1) (by omega)] at ld
    have lm := l_M_made (s := s1) hj17
    have hm := hM j (by omega)
    rw [upj_ge (Nat.le_refl _)] at hm
    rw [hm.1] at lm
    have hM2 : MhC (am_wr s1 330 (j + 1) (nI (tkc cl l j))) (upj (tkc cl l) cl (j + 1)) vl := fun i hi => by
      rw [am_wr_row (i' := 331) _ (by omega)]
      by_cases q : i = j
      · rw [q, am_wr_self, upj_lt (by omega)]
        refine ⟨rfl, ?_, hm.2.2⟩
        unfold tkc
        split
        · exact hm.2.1
        · omega
      · rw [am_wr_col _ (by omega), upj_ne q]
        exact hM i hi
    have hL2 : LdC (am_wr s1 330 (j + 1) (nI (tkc cl l j))) S := fun x hx => by rw [am_wr_row _ (by omega)]; exact hL x hx
    obtain ⟨s', a1, a2, a3⟩ := ih (j + 1) (by omega) _ hL2 hM2 jk
    refine ⟨s', fun Q => ?_, a2, off_tr (off_wr _ (by omega) (by omega)) a3⟩
    rw [k_M_collect_238]
    by_cases q : j ∈ l
    · have et : tkc cl l j = cl j := if_pos q
      rw [zb_t ((hS j (by omega)).mpr q)] at ld
      rw [et] at a1
      simp only [k_M_collect_239, k_M_collect_241, k_M_collect_244, k_M_collect_245, k_M_collect_248, k_M_collect_249, k_M_collect_250, k_M_collect_253, k_M_collect_254, k_M_collect_255, k_M_collect_258, k_M_collect_259, k_M_collect_262, k_M_collect_263, k_M_collect_264, k_M_collect_267, k_M_collect_268, k_M_collect_269, k_M_collect_272, g_M0, g_M1, g_M2, g_M3, g_M4, g_M5, g_M6, g_M7, g_M8, g_M9, g_M10, g_M11, g_M12, g_M13, g_M14, g_M15, g_M16, g_M17, g_M18, g_M19, g_M20, g_M21, g_M22, g_M23, g_M24, g_M25, g_M26, g_M27, g_M28, g_M29, g_M30, g_M31, g_M32, g_M33, h1, ld, hz10, lm, w_M_made hj17, nI_1, am_ob_s, List.tail_cons, List.tail_nil, Option.toList_some, Option.toList_none, List.nil_append, List.cons_append, List.length_nil, List.length_cons, Nat.zero_le, true_and, and_true, true_implies, false_implies, not_true_eq_false, not_false_eq_true, implies_true, or_true, true_or, Nat.reduceAdd, Nat.reduceLeDiff]
      exact a1 Q
    · have et : tkc cl l j = 0 := if_neg q
      rw [zb_f (fun w => q ((hS j (by omega)).mp w))] at ld
      rw [et, nI_0] at a1
      simp only [k_M_collect_239, k_M_collect_241, k_M_collect_244, k_M_collect_245, k_M_collect_248, k_M_collect_249, k_M_collect_250, k_M_collect_253, k_M_collect_254, k_M_collect_255, k_M_collect_258, k_M_collect_259, k_M_collect_262, k_M_collect_263, k_M_collect_264, k_M_collect_267, k_M_collect_268, k_M_collect_269, k_M_collect_272, g_M0, g_M1, g_M2, g_M3, g_M4, g_M5, g_M6, g_M7, g_M8, g_M9, g_M10, g_M11, g_M12, g_M13, g_M14, g_M15, g_M16, g_M17, g_M18, g_M19, g_M20, g_M21, g_M22, g_M23, g_M24, g_M25, g_M26, g_M27, g_M28, g_M29, g_M30, g_M31, g_M32, g_M33, h1, ld, lm, w_M_made hj17, nI_1, am_ob_s, List.tail_cons, List.tail_nil, Option.toList_some, Option.toList_none, List.nil_append, List.cons_append, List.length_nil, List.length_cons, Nat.zero_le, true_and, and_true, true_implies, false_implies, not_true_eq_false, not_false_eq_true, implies_true, or_true, true_or, Nat.reduceAdd, Nat.reduceLeDiff]
      exact a1 Q
set_option maxHeartbeats 1000000 in
theorem e_M_collect {FS : List pFr} {st rs on : Int32} {ou : Nat → Int32} (hN : MnC s (FS, st, rs, cl, vl, ou, on)) (hP : MpC s 0 P) (hK : ∀ m, m < 6 → (P.2.1 m).2.1 < 256) (hF : ∀ F ∈ FS, okRF (P.2.1 F.1).2.1 F) (hR : okRR cl vl P.1) (hlive : ∀ j, j ∈ pLs P FS cl vl → cl j ≠ 0) : ∃ s', (∀ Q : Option Value → am_H → Prop, am_C f_M_collect [.ref 308] (TP, s) Q ↔ Q none (TP, s')) ∧ MnC s' (FS, st, rs, tkc cl (pLs P FS cl vl), vl, ou, on) ∧ ∀ i, i ≠ 332 → i ≠ 330 → s' i = s i := by
  obtain ⟨n1, n2, n3, n4, n5, n6, n7, n8⟩ := hN
  dsimp only at n1 n2 n3 n4 n5 n6 n7 n8
  obtain ⟨s1, a1, a2, a3⟩ := m_marks0 (s := s) []
  have nf : ∀ (k : Nat) (F : pFr), FS.reverse[k]? = some F → MfC s1 k F := fun k F hk => MfC_o (n3 k F hk) a2
  obtain ⟨s2, ⟨jk2, b1⟩, b2, b3⟩ := m_marksF n2 (show s1 308 21 = nI FS.length by rw [a2 308 (by omega)]; exact n1) nf (MpC_o hP a2) hK hF FS.length 0 (by omega) s1 (mO_rf _) _ a3 []
  obtain ⟨s3, ⟨jk3, c1⟩, c2, S, c3, c4, c5, c6⟩ := m_rounds (MpC_o hP (mO_tr a2 b2)) (MhC_o n6 (mO_tr a2 b2)) hR 16 0 (by omega) s2 (mO_rf _) _ b3 (Or.inr (Nat.zero_le _)) jk2.tail
  rw [nI_0] at b1 c1
  have mem : ∀ j, j < 16 → (S (j + 1) ↔ j ∈ pLs P FS cl vl) := by
    intro j hj
    constructor
    · intro h
      have := c6 (fun x => x = 0 ∨ ∃ i, x = i + 1 ∧ (i < 16 → i ∈ pLs P FS cl vl)) (fun x w => by
        rcases w with w | ⟨k, F, _, w2, w3⟩
        · exact w.elim
        · rcases (show x = 0 ∨ ∃ i, x = i + 1 from by cases x with
            | zero => exact Or.inl rfl
            | succ i => exact Or.inr ⟨i, rfl⟩) with q | ⟨i, q⟩
          · exact Or.inl q
          · refine Or.inr ⟨i, q, fun hi => pLs_root hi ⟨F, List.mem_reverse.mp (List.mem_of_getElem? w2), ?_⟩⟩
            rw [q] at w3
            exact w3) (fun i x hi w1 w2 => by
        obtain ⟨w3, w4, k, e, w5⟩ := w2
        rcases w1 with w1 | ⟨i', w1, w1'⟩
        · omega
        · obtain rfl : i = i' := by omega
          rcases (show x = 0 ∨ ∃ i, x = i + 1 from by cases x with
            | zero => exact Or.inl rfl
            | succ i => exact Or.inr ⟨i, rfl⟩) with q | ⟨y, q⟩
          · exact Or.inl q
          · refine Or.inr ⟨y, q, fun hy => pLs_edge hy (w1' hi) ⟨k, e, ?_⟩⟩
            rw [q] at w5
            exact w5) (j + 1) h
      rcases this with w | ⟨i, w, w'⟩
      · omega
      · obtain rfl : j = i := by omega
        exact w' hj
    · intro h
      have := pLs_least (P := P) (FS := FS) (cl := cl) (vl := vl) (T := fun j => j ∈ pLs P FS cl vl ∧ S (j + 1)) (fun i hi w => by
        refine ⟨pLs_root hi w, c4 _ ?_⟩
        obtain ⟨F, w1, w2⟩ := w
        obtain ⟨k, hk⟩ := List.getElem?_of_mem (List.mem_reverse.mpr w1)
        exact Or.inr ⟨k, F, Nat.zero_le _, hk, w2⟩) (fun i x hi hx w1 w2 => by
        refine ⟨pLs_edge hx w1.1 w2, c5 i (x + 1) hi (by omega) w1.2 ?_⟩
        exact ⟨hlive i w1.1, by omega, w2⟩) j h
      exact this.2
  have O3 := mO_tr (mO_tr a2 b2) c2
  have hu : upj (tkc cl (pLs P FS cl vl)) cl 0 = cl := by
    funext i
    exact upj_ge (Nat.zero_le _)
  obtain ⟨s4, d1, d2, d3⟩ := m_sweep (cl := cl) (vl := vl) mem 16 0 (by omega) s3 c3 (by rw [hu]; exact MhC_o n6 O3) jk3.tail
  rw [show nI (0 + 1) = 1 from rfl] at d1
  have o4 : ∀ i, i ≠ 332 → i ≠ 330 → s4 i = s i := fun i q1 q2 => (d3 i (by omega)).trans (O3 i q1)
  refine ⟨s4, fun Q => ?_, ⟨by rw [o4 308 (by omega) (by omega)]; exact n1, n2, fun k F hk => ?_, by rw [o4 308 (by omega) (by omega)]; exact n4, by rw [o4 308 (by omega) (by omega)]; exact n5, d2, fun j hj => by rw [o4 334 (by omega) (by omega)]; exact n7 j hj, by rw [o4 308 (by omega) (by omega)]; exact n8⟩, o4⟩
  · rw [c_M_collect]
    simp only [k_M_collect_0, k_M_collect_1, am_ob_s, List.tail_cons, List.tail_nil, Option.toList_some, Option.toList_none, List.nil_append, List.cons_append, List.length_nil, List.length_cons, Nat.zero_le, true_and, and_true, true_implies, false_implies, not_true_eq_false, not_false_eq_true, implies_true, or_true, true_or, Nat.reduceAdd, Nat.reduceLeDiff]
    rw [a1, b1]
    simp only [k_M_collect_129, k_M_collect_130, am_ob_s, List.tail_cons, List.tail_nil, Option.toList_some, Option.toList_none, List.nil_append, List.cons_append, List.length_nil, List.length_cons, Nat.zero_le, true_and, and_true, true_implies, false_implies, not_true_eq_false, not_false_eq_true, implies_true, or_true, true_or, Nat.reduceAdd, Nat.reduceLeDiff]
    rw [c1]
    simp only [k_M_collect_236, k_M_collect_237, am_ob_s, List.tail_cons, List.tail_nil, Option.toList_some, Option.toList_none, List.nil_append, List.cons_append, List.length_nil, List.length_cons, Nat.zero_le, true_and, and_true, true_implies, false_implies, not_true_eq_false, not_false_eq_true, implies_true, or_true, true_or, Nat.reduceAdd, Nat.reduceLeDiff]
    exact d1 Q
  · have := n3 k F hk
    unfold MfC at this ⊢
    rw [o4 324 (by omega) (by omega), o4 325 (by omega) (by omega), o4 326 (by omega) (by omega), o4 327 (by omega) (by omega), o4 328 (by omega) (by omega), o4 329 (by omega) (by omega)]
    exact this
end SM18
