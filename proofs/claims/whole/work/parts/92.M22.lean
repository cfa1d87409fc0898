/-! The reference: frames -/
/-- only what a run changes may differ -/
def mR (s s' : am_S) : Prop := (∀ i, i < 324 ∨ 335 ≤ i → i ≠ 308 → s' i = s i) ∧ ∀ k, k < 19 → s' 308 k = s 308 k
theorem mR_rf (s : am_S) : mR s s := ⟨fun _ _ _ => rfl, fun _ _ => rfl⟩
theorem mR_tr {s1 s2 s3 : am_S} (h : mR s1 s2) (h' : mR s2 s3) : mR s1 s3 := ⟨fun i q1 q2 => (h'.1 i q1 q2).trans (h.1 i q1 q2), fun k q => (h'.2 k q).trans (h.2 k q)⟩
theorem mR_wr (s : am_S) {i k : Nat} {v : Int32} (hi : 324 ≤ i) (hi2 : i < 335) : mR s (am_wr s i k v) := ⟨fun j q1 q2 => am_wr_row _ (by omega), fun k q => by rw [am_wr_row _ (by omega)]⟩
theorem mR_w8 (s : am_S) {k : Nat} {v : Int32} (hk : 19 ≤ k) : mR s (am_wr s 308 k v) := ⟨fun j q1 q2 => am_wr_row _ q2, fun k' q => am_wr_col _ (by omega)⟩
theorem MpC_r {s s' : am_S} {b : Nat} {G : pPg} (h : MpC s b G) (e : mR s s') : MpC s' b G := MpC_rows h (fun i q1 q2 => e.1 i (by omega) (by omega))
theorem MdC_r {s s' : am_S} {Z : pSg} {σ : pMc} (h : MdC s Z) (e : mR s s') (hσ : MnC s' σ) : MdC s' (Z.1, Z.2.1, Z.2.2.1, σ, Z.2.2.2.2) := by
  obtain ⟨z1, z2, z3, z4, z5, z6, z7⟩ := h
  exact ⟨by rw [e.2 14 (by omega)]; exact z1, z2, MpC_r z3 e, fun i hi => ⟨MpC_r (z4 i hi).1 e, by rw [e.1 322 (by omega) (by omega)]; exact (z4 i hi).2⟩, hσ, by rw [e.2 15 (by omega)]; exact z6, by rw [e.2 16 (by omega)]; exact z7⟩
theorem mR_off {s s' : am_S} (e : mR s s') : off 308 335 s s' := fun i hi => e.1 i (by omega) (by omega)
def nS (f : am_F) (as : List Value) (s : am_S) (r : Option Value) (σ : pMc) : Prop := ∃ s', (∀ Q : Option Value → am_H → Prop, am_C f as (TP, s) Q ↔ Q r (TP, s')) ∧ MnC s' σ ∧ mR s s'
/-- only frame k may differ -/
def mF (k : Nat) (s s' : am_S) : Prop := ∀ i q, ¬ ((i = 324 ∨ i = 325 ∨ i = 329) ∧ q = k) → ¬ (i = 326 ∧ 4 * k ≤ q ∧ q < 4 * k + 4) → ¬ ((i = 327 ∨ i = 328) ∧ 6 * k ≤ q ∧ q < 6 * k + 6) → s' i q = s i q
theorem mF_row {k : Nat} {s s' : am_S} (h : mF k s s') {i : Nat} (hi : i < 324 ∨ 330 ≤ i) : s' i = s i := by
  funext q
  exact h i q (by omega) (by omega) (by omega)
theorem mF_mR {k : Nat} {s s' : am_S} (h : mF k s s') : mR s s' := ⟨fun i q1 q2 => mF_row h (by omega), fun q _ => by rw [mF_row h (by omega)]⟩
theorem MfC_other {k k' : Nat} {s s' : am_S} {F : pFr} (h : mF k s s') (hne : k' ≠ k) (hF : MfC s k' F) : MfC s' k' F := by
  obtain ⟨f1, f2, f3, f4, f5, f6⟩ := hF
  refine ⟨by rw [h 324 _ (by omega) (by omega) (by omega)]; exact f1, by rw [h 325 _ (by omega) (by omega) (by omega)]; exact f2, fun i hi => by rw [h 326 _ (by omega) (by omega) (by omega)]; exact f3 i hi, by rw [h 329 _ (by omega) (by omega) (by omega)]; exact f4, f5, fun i e he => ?_⟩
  have := (List.getElem?_eq_some_iff.mp he).1
  rw [List.length_reverse] at this
  rw [h 327 _ (by omega) (by omega) (by omega), h 328 _ (by omega) (by omega) (by omega)]
  exact f6 i e he
theorem MnC_top {s s' : am_S} {F F' : pFr} {R : List pFr} {ρ : pRh} (h : MnC s (F :: R, ρ)) (hm : mF R.length s s') (hF : MfC s' R.length F') : MnC s' (F' :: R, ρ) := by
  obtain ⟨n1, n2, n3, n4, n5, n6, n7, n8⟩ := h
  refine ⟨by rw [mF_row hm (by omega)]; exact n1, n2, fun k A hk => ?_, by rw [mF_row hm (by omega)]; exact n4, by rw [mF_row hm (by omega)]; exact n5, fun j hj => by rw [mF_row hm (show 330 < 324 ∨ 330 ≤ 330 by omega), mF_row hm (show 331 < 324 ∨ 330 ≤ 331 by omega)]; exact n6 j hj, fun j hj => by rw [mF_row hm (by omega)]; exact n7 j hj, by rw [mF_row hm (by omega)]; exact n8⟩
  rcases rev_cons hk with ⟨q1, q2⟩ | ⟨rfl, rfl⟩
  · exact MfC_other hm (by omega) (n3 k A (rev_low q2))
  · exact hF
theorem MnC_f {s : am_S} {F : pFr} {R : List pFr} {ρ : pRh} (h : MnC s (F :: R, ρ)) : MfC s R.length F ∧ R.length < 8 ∧ s 308 21 = nI (R.length + 1) := ⟨h.2.2.1 _ F (rev_top F R), h.2.1, h.1⟩
section SM22
variable {s : am_S} {F : pFr} {R : List pFr} {ρ : pRh}
theorem MfC_pop {k : Nat} {e : Int32 × Nat} {S : List (Int32 × Nat)} (h : MfC s k F) (he : F.2.2.2 = e :: S) : MfC (am_wr s 329 k (nI S.length)) k (pSk F S) := by
  obtain ⟨f1, f2, f3, f4, f5, f6⟩ := h
  rw [he] at f4 f5 f6
  refine ⟨by rw [am_wr_row _ (by omega)]; exact f1, by rw [am_wr_row _ (by omega)]; exact f2, fun i hi => by rw [am_wr_row _ (by omega)]; exact f3 i hi, am_wr_self _ _ _ _, by rw [List.length_cons] at f5; show S.length ≤ 6; omega, fun i a ha => ?_⟩
  rw [am_wr_row _ (by omega), am_wr_row _ (by omega)]
  exact f6 i a (rev_low ha)
theorem mF_top (k : Nat) (v : Int32) : mF k s (am_wr s 329 k v) := fun i q h1 _ _ => by
  rw [am_wr_at, if_neg (by omega)]
theorem e_M_take1 {e : Int32 × Nat} {S : List (Int32 × Nat)} (h : MnC s (F :: R, ρ)) (he : F.2.2.2 = e :: S) : ∃ s', (∀ Q : Option Value → am_H → Prop, am_C f_M_take [.ref 308] (TP, s) Q ↔ Q (some (.int e.1)) (TP, s')) ∧ MnC s' (pSk F S :: R, ρ) ∧ mR s s' ∧ ∀ i, i ≠ 329 → s' i = s i := by
  obtain ⟨hF, h8, h21⟩ := MnC_f h
  have hl : S.length + 1 ≤ 6 := by have := hF.2.2.2.2.1; rw [he] at this; exact this
  have lt := l_M_top (s := s) h8
  rw [hF.2.2.2.1, he, List.length_cons] at lt
  have e1 : nI (S.length + 1) - 1 = nI S.length := nI_pred _
  have e2 : nI (R.length + 1) - 1 = nI R.length := nI_pred _
  have wt := w_M_top (s := s) (v := nI S.length) h8
  have lt2 := l_M_top (s := am_wr s 329 R.length (nI S.length)) h8
  rw [am_wr_self] at lt2
  have i6 := ix86 R.length h8 S.length (by omega)
  have lk := l_M_stack (s := am_wr s 329 R.length (nI S.length)) (show 6 * R.length + S.length < 48 by omega)
  have hv := (hF.2.2.2.2.2 S.length e (by rw [he]; exact rev_top e S)).1
  rw [am_wr_row _ (by omega), hv] at lk
  refine ⟨am_wr s 329 R.length (nI S.length), fun Q => ?_, MnC_top h (mF_top _ _) (MfC_pop hF he), mF_mR (mF_top _ _), fun i q => am_wr_row _ q⟩
  rw [c_M_take]
  simp only [k_M_take_0, k_M_take_1, k_M_take_4, k_M_take_5, k_M_take_6, k_M_take_7, k_M_take_8, k_M_take_11, k_M_take_12, k_M_take_13, k_M_take_14, k_M_take_15, k_M_take_16, k_M_take_17, k_M_take_18, k_M_take_21, k_M_take_23, k_M_take_24, k_M_take_25, k_M_take_26, k_M_take_29, k_M_take_30, k_M_take_31, k_M_take_32, k_M_take_33, g_M0, g_M1, g_M2, g_M3, g_M4, g_M5, g_M6, g_M7, g_M8, g_M9, g_M10, g_M11, g_M12, g_M13, g_M14, g_M15, g_M16, g_M17, g_M18, g_M19, g_M20, g_M21, g_M22, g_M23, g_M24, g_M25, g_M26, g_M27, g_M28, g_M29, g_M30, g_M31, g_M32, g_M33, h21, e2, lt, e1, wt, lt2, i6, lk, am_ob_s, List.tail_cons, List.tail_nil, Option.toList_some, Option.toList_none, List.nil_append, List.cons_append, List.length_nil, List.length_cons, Nat.zero_le, true_and, and_true, true_implies, false_implies, not_true_eq_false, not_false_eq_true, implies_true, or_true, true_or, Nat.reduceAdd, Nat.reduceLeDiff]
theorem e_M_take {e : Int32 × Nat} {S : List (Int32 × Nat)} (h : MnC s (F :: R, ρ)) (he : F.2.2.2 = e :: S) : nS f_M_take [.ref 308] s (some (.int e.1)) (pSk F S :: R, ρ) := by
  obtain ⟨s', a1, a2, a3, _⟩ := e_M_take1 h he
  exact ⟨s', a1, a2, a3⟩
theorem MfC_push {k : Nat} (h : MfC s k F) (hl : F.2.2.2.length < 6) (v : Int32) (t : Nat) : MfC (am_wr (am_wr (am_wr s 327 (6 * k + F.2.2.2.length) v) 328 (6 * k + F.2.2.2.length) (nI t)) 329 k (nI (F.2.2.2.length + 1))) k (pPut F v t) := by
  obtain ⟨f1, f2, f3, f4, f5, f6⟩ := h
  have o : ∀ i, i < 327 → am_wr (am_wr (am_wr s 327 (6 * k + F.2.2.2.length) v) 328 (6 * k + F.2.2.2.length) (nI t)) 329 k (nI (F.2.2.2.length + 1)) i = s i := fun i hi => by
    rw [am_wr_row _ (by omega), am_wr_row _ (by omega), am_wr_row _ (by omega)]
  refine ⟨by rw [o 324 (by omega)]; exact f1, by rw [o 325 (by omega)]; exact f2, fun i hi => by rw [o 326 (by omega)]; exact f3 i hi, am_wr_self _ _ _ _, by show F.2.2.2.length + 1 ≤ 6; omega, fun i a ha => ?_⟩
  have ha' : ((v, t) :: F.2.2.2).reverse[i]? = some a := ha
  rcases rev_cons ha' with ⟨q1, q2⟩ | ⟨rfl, rfl⟩
  · have z := f6 i a q2
    have hi' : i ≠ F.2.2.2.length := by omega
    simp only [am_wr_at]
    simp [hi', z]
  · simp [am_wr_at]
theorem mF_push {k l : Nat} (hl : l < 6) (v t u : Int32) : mF k s (am_wr (am_wr (am_wr s 327 (6 * k + l) v) 328 (6 * k + l) t) 329 k u) := fun i q h1 _ h3 => by
  rw [am_wr_at, if_neg (by omega), am_wr_at, if_neg (by omega), am_wr_at, if_neg (by omega)]
theorem e_M_put (h : MnC s (F :: R, ρ)) (hl : F.2.2.2.length < 6) (v : Int32) (t : Nat) : nS f_M_put [.ref 308, .int v, .int (nI t)] s none (pPut F v t :: R, ρ) := by
  obtain ⟨hF, h8, h21⟩ := MnC_f h
  have e2 : nI (R.length + 1) - 1 = nI R.length := nI_pred _
  have i6 := ix86 R.length h8 F.2.2.2.length hl
  have h48 : 6 * R.length + F.2.2.2.length < 48 := by omega
  have lt := fun (s' : am_S) (e : s' 329 = s 329) => l_M_top (s := s') h8
  have ht := hF.2.2.2.1
  have l0 := l_M_top (s := s) h8
  rw [ht] at l0
  generalize ej : 6 * R.length + F.2.2.2.length = j at *
  have l1 := l_M_top (s := am_wr s 327 j v) h8
  rw [am_wr_row _ (by omega), ht] at l1
  have l2 := l_M_top (s := am_wr (am_wr s 327 j v) 328 j (nI t)) h8
  rw [am_wr_row _ (by omega), am_wr_row _ (by omega), ht] at l2
  have mf : mF R.length s (am_wr (am_wr (am_wr s 327 j v) 328 j (nI t)) 329 R.length (nI (F.2.2.2.length + 1))) := by rw [← ej]; exact mF_push hl _ _ _
  have mp : MfC (am_wr (am_wr (am_wr s 327 j v) 328 j (nI t)) 329 R.length (nI (F.2.2.2.length + 1))) R.length (pPut F v t) := by rw [← ej]; exact MfC_push hF hl v t
  refine ⟨_, fun Q => ?_, MnC_top h mf mp, mF_mR mf⟩
  rw [c_M_put]
  simp only [k_M_put_0, k_M_put_1, k_M_put_4, k_M_put_5, k_M_put_6, k_M_put_7, k_M_put_8, k_M_put_11, k_M_put_13, k_M_put_14, k_M_put_15, k_M_put_16, k_M_put_19, k_M_put_20, k_M_put_21, k_M_put_22, k_M_put_23, k_M_put_24, k_M_put_25, k_M_put_28, k_M_put_30, k_M_put_31, k_M_put_32, k_M_put_33, k_M_put_36, k_M_put_37, k_M_put_38, k_M_put_39, k_M_put_40, k_M_put_41, k_M_put_42, k_M_put_45, k_M_put_46, k_M_put_47, k_M_put_48, k_M_put_49, k_M_put_50, k_M_put_51, g_M0, g_M1, g_M2, g_M3, g_M4, g_M5, g_M6, g_M7, g_M8, g_M9, g_M10, g_M11, g_M12, g_M13, g_M14, g_M15, g_M16, g_M17, g_M18, g_M19, g_M20, g_M21, g_M22, g_M23, g_M24, g_M25, g_M26, g_M27, g_M28, g_M29, g_M30, g_M31, g_M32, g_M33, h21, e2, l0, i6, w_M_stack h48, l1, w_M_sort h48, l2, w_M_top h8, nI_1, am_ob_s, List.tail_cons, List.tail_nil, Option.toList_some, Option.toList_none, List.nil_append, List.cons_append, List.length_nil, List.length_cons, Nat.zero_le, true_and, and_true, true_implies, false_implies, not_true_eq_false, not_false_eq_true, implies_true, or_true, true_or, Nat.reduceAdd, Nat.reduceLeDiff]
theorem e_M_begin {FS : List pFr} {m g : Nat} {l : Nat → Int32} (h : MnC s (FS, ρ)) (h8 : FS.length < 8) (hg : g ≤ 4) (hl : ∀ i, i < g → s 326 (4 * FS.length + i) = l i) : nS f_M_begin [.ref 308, .int (nI m), .int (nI g)] s none ((m, 0, fun i => if i < g then l i else 0, []) :: FS, ρ) := by
  have h21 : s 308 21 = nI FS.length := h.1
  generalize es1 : am_wr (am_wr (am_wr (am_wr s 308 21 (nI (FS.length + 1))) 324 FS.length (nI m)) 325 FS.length 0) 329 FS.length 0 = s1
  have o1 : ∀ i, i ≠ 308 → i ≠ 324 → i ≠ 325 → i ≠ 329 → s1 i = s i := fun i q1 q2 q3 q4 => by rw [← es1, am_wr_row _ q4, am_wr_row _ q3, am_wr_row _ q2, am_wr_row _ q1]
  have loop : ∀ (r j : Nat), j + r = 4 → g ≤ j → ∀ (s2 : am_S), (∀ i q, ¬ (i = 326 ∧ 4 * FS.length ≤ q ∧ q < 4 * FS.length + 4) → s2 i q = s1 i q) → (∀ i, i < j → s2 326 (4 * FS.length + i) = if i < g then l i else 0) → ∀ (jk : List Value), ∃ s', (∀ Q : Option Value → am_H → Prop, am_W m_M_begin 39 (.ref 308 :: .int (nI m) :: .int (nI g) :: .int (nI FS.length) :: .int (nI j) :: jk) [] (TP, s2) Q ↔ Q none (TP, s')) ∧ (∀ i q, ¬ (i = 326 ∧ 4 * FS.length ≤ q ∧ q < 4 * FS.length + 4) → s' i q = s1 i q) ∧ ∀ i, i < 4 → s' 326 (4 * FS.length + i) = if i < g then l i else 0 := by
    intro r
    induction r with
    | zero =>
      intro j hj hgj s2 hO hw jk
      obtain rfl : j = 4 := by omega
      have h1 : (4 : Int32) ≤ nI 4 := by decide
      refine ⟨s2, fun Q => ?_, hO, hw⟩
      rw [k_M_begin_39]
      simp only [k_M_begin_41, k_M_begin_42, k_M_begin_63, h1, am_ob_s, List.tail_cons, List.tail_nil, Option.toList_some, Option.toList_none, List.nil_append, List.cons_append, List.length_nil, List.length_cons, Nat.zero_le, true_and, and_true, true_implies, false_implies, not_true_eq_false, not_false_eq_true, implies_true, or_true, true_or, Nat.reduceAdd, Nat.reduceLeDiff]
    | succ r ih =>
      intro j hj hgj s2 hO hw jk
      have h1 : ¬ (4 : Int32) ≤ nI j := nI_ge (b := 4) (by omega) (by decide)
      have i4 := ix4 FS.length (by omega) j (by omega)
      have wl := w_M_locals (s := s2) (v := 0) (show 4 * FS.length + j < 32 by omega)
      obtain ⟨s', a1, a2, a3⟩ := ih (j + 1) (by omega) (by omega) (am_wr s2 326 (4 * FS.length + j) 0) (fun i q hq => by rw [am_wr_at, if_neg (by omega)]; exact hO i q hq) (fun i hi => by
        by_cases q : i = j
        · rw [q, am_wr_self, if_neg (by omega)]
        · rw [am_wr_col _ (by omega)]
          exact hw i (by omega)) jk
      refine ⟨s', fun Q => ?_, a2, a3⟩
      rw [k_M_begin_39]
      simp only [k_M_begin_41, k_M_begin_42, k_M_begin_45, k_M_begin_46, k_M_begin_49, k_M_begin_50, k_M_begin_51, k_M_begin_52, k_M_begin_54, k_M_begin_55, k_M_begin_56, k_M_begin_57, k_M_begin_60, g_M0, g_M1, g_M2, g_M3, g_M4, g_M5, g_M6, g_M7, g_M8, g_M9, g_M10, g_M11, g_M12, g_M13, g_M14, g_M15, g_M16, g_M17, g_M18, g_M19, g_M20, g_M21, g_M22, g_M23, g_M24, g_M25, g_M26, g_M27, g_M28, g_M29, g_M30, g_M31, g_M32, g_M33, h1, i4, wl, nI_1, am_ob_s, List.tail_cons, List.tail_nil, Option.toList_some, Option.toList_none, List.nil_append, List.cons_append, List.length_nil, List.length_cons, Nat.zero_le, true_and, and_true, true_implies, false_implies, not_true_eq_false, not_false_eq_true, implies_true, or_true, true_or, Nat.reduceAdd, Nat.reduceLeDiff]
      exact a1 Q
  obtain ⟨s', a1, a2, a3⟩ := loop (4 - g) g (by omega) (Nat.le_refl _) s1 (fun i q _ => rfl) (fun i hi => by rw [o1 326 (by omega) (by omega) (by omega) (by omega), if_pos hi]; exact hl i hi) []
  have o2 : ∀ i, i ≠ 326 → s' i = s1 i := fun i q => by
    funext k
    exact a2 i k (fun w => q w.1)
  refine ⟨s', fun Q => ?_, ?_, ?_⟩
  · rw [c_M_begin]
    simp only [k_M_begin_0, k_M_begin_1, k_M_begin_4, k_M_begin_5, k_M_begin_6, k_M_begin_6i, k_M_begin_7, k_M_begin_10, k_M_begin_11, k_M_begin_12, k_M_begin_15, k_M_begin_16, k_M_begin_19, k_M_begin_20, k_M_begin_21, k_M_begin_22, k_M_begin_23, k_M_begin_26, k_M_begin_27, k_M_begin_28, k_M_begin_29, k_M_begin_30, k_M_begin_33, k_M_begin_34, k_M_begin_35, k_M_begin_36, k_M_begin_37, g_M0, g_M1, g_M2, g_M3, g_M4, g_M5, g_M6, g_M7, g_M8, g_M9, g_M10, g_M11, g_M12, g_M13, g_M14, g_M15, g_M16, g_M17, g_M18, g_M19, g_M20, g_M21, g_M22, g_M23, g_M24, g_M25, g_M26, g_M27, g_M28, g_M29, g_M30, g_M31, g_M32, g_M33, h21, nI_1, p_M21, w_M_method h8, w_M_place h8, w_M_top h8, es1, am_ob_s, List.tail_cons, List.tail_nil, Option.toList_some, Option.toList_none, List.nil_append, List.cons_append, List.length_nil, List.length_cons, Nat.zero_le, true_and, and_true, true_implies, false_implies, not_true_eq_false, not_false_eq_true, implies_true, or_true, true_or, Nat.reduceAdd, Nat.reduceLeDiff]
    exact a1 Q
  · obtain ⟨n1, n2, n3, n4, n5, n6, n7, n8⟩ := h
    have e8 : ∀ k, k ≠ 21 → s' 308 k = s 308 k := fun k q => by rw [o2 308 (by omega), ← es1, am_wr_row _ (by omega), am_wr_row _ (by omega), am_wr_row _ (by omega), am_wr_col _ q]
    refine ⟨by rw [o2 308 (by omega), ← es1, am_wr_row _ (by omega), am_wr_row _ (by omega), am_wr_row _ (by omega), am_wr_self]; rfl, by show FS.length + 1 ≤ 8; omega, fun k A hk => ?_, by rw [e8 19 (by omega)]; exact n4, by rw [e8 20 (by omega)]; exact n5, fun j hj => by rw [o2 330 (by omega), o2 331 (by omega), o1 330 (by omega) (by omega) (by omega) (by omega), o1 331 (by omega) (by omega) (by omega) (by omega)]; exact n6 j hj, fun j hj => by rw [o2 334 (by omega), o1 334 (by omega) (by omega) (by omega) (by omega)]; exact n7 j hj, by rw [e8 33 (by omega)]; exact n8⟩
    rcases rev_cons hk with ⟨q1, q2⟩ | ⟨rfl, rfl⟩
    · obtain ⟨f1, f2, f3, f4, f5, f6⟩ := n3 k A q2
      have hk' : k < FS.length := q1
      refine ⟨?_, ?_, fun i hi => ?_, ?_, f5, fun i e he => ?_⟩
      · rw [o2 324 (by omega), ← es1, am_wr_row _ (by omega), am_wr_row _ (by omega), am_wr_col _ (by omega), am_wr_row _ (by omega)]; exact f1
      · rw [o2 325 (by omega), ← es1, am_wr_row _ (by omega), am_wr_col _ (by omega), am_wr_row _ (by omega), am_wr_row _ (by omega)]; exact f2
      · rw [a2 326 _ (by omega), o1 326 (by omega) (by omega) (by omega) (by omega)]; exact f3 i hi
      · rw [o2 329 (by omega), ← es1, am_wr_col _ (by omega), am_wr_row _ (by omega), am_wr_row _ (by omega), am_wr_row _ (by omega)]; exact f4
      · rw [o2 327 (by omega), o2 328 (by omega), o1 327 (by omega) (by omega) (by omega) (by omega), o1 328 (by omega) (by omega) (by omega) (by omega)]; exact f6 i e he
    · refine ⟨?_, ?_, a3, ?_, by show (0 : Nat) ≤ 6; omega, fun i e he => by simp at he⟩
      · rw [o2 324 (by omega), ← es1, am_wr_row _ (by omega), am_wr_row _ (by omega), am_wr_self]
      · rw [o2 325 (by omega), ← es1, am_wr_row _ (by omega), am_wr_self]; rfl
      · rw [o2 329 (by omega), ← es1, am_wr_self]; rfl
  · refine ⟨fun i q1 q2 => ?_, fun k hk => ?_⟩
    · rw [o2 i (by omega), o1 i q2 (by omega) (by omega) (by omega)]
    · rw [o2 308 (by omega), ← es1, am_wr_row _ (by omega), am_wr_row _ (by omega), am_wr_row _ (by omega), am_wr_col _ (by omega)]
end SM22
