/-! The reference: its checker's small steps -/
def SeC (s : am_S) (st : List Int32) : Prop := s 308 18 = nI st.length ∧ st.length ≤ 6 ∧ ∀ (k : Nat) (v : Int32), st.reverse[k]? = some v → s 323 k = v
/-- only the checker's own stack may differ -/
def mK (s s' : am_S) : Prop := (∀ i, i ≠ 308 → i ≠ 323 → s' i = s i) ∧ ∀ k, k ≠ 18 → s' 308 k = s 308 k
theorem mK_rf (s : am_S) : mK s s := ⟨fun _ _ _ => rfl, fun _ _ => rfl⟩
theorem mK_tr {s1 s2 s3 : am_S} (h : mK s1 s2) (h' : mK s2 s3) : mK s1 s3 := ⟨fun i q1 q2 => (h'.1 i q1 q2).trans (h.1 i q1 q2), fun k q => (h'.2 k q).trans (h.2 k q)⟩
theorem MlC_rows {s s' : am_S} {b c : Nat} {L : pLy} (h : MlC s b c L) (e : ∀ i, 309 ≤ i → i ≤ 322 → s' i = s i) : MlC s' b c L := by
  unfold MlC at h ⊢
  rw [e 309 (by omega) (by omega), e 310 (by omega) (by omega), e 311 (by omega) (by omega), e 312 (by omega) (by omega)]
  exact h
theorem MrC_rows {s s' : am_S} {a : Nat} {R : pRo} (h : MrC s a R) (e : ∀ i, 309 ≤ i → i ≤ 322 → s' i = s i) : MrC s' a R := by
  unfold MrC at h ⊢
  rw [e 313 (by omega) (by omega), e 314 (by omega) (by omega), e 315 (by omega) (by omega), e 316 (by omega) (by omega), e 317 (by omega) (by omega), e 318 (by omega) (by omega), e 319 (by omega) (by omega)]
  exact h
theorem MpC_rows {s s' : am_S} {b : Nat} {G : pPg} (h : MpC s b G) (e : ∀ i, 309 ≤ i → i ≤ 322 → s' i = s i) : MpC s' b G :=
  ⟨fun c q1 q2 => MlC_rows (h.1 c q1 q2) e, fun m hm => MrC_rows (h.2.1 m hm) e, by rw [e 320 (by omega) (by omega)]; exact h.2.2.1, by rw [e 321 (by omega) (by omega)]; exact h.2.2.2⟩
theorem MpC_k {s s' : am_S} {b : Nat} {G : pPg} (h : MpC s b G) (e : mK s s') : MpC s' b G := MpC_rows h (fun i q1 q2 => e.1 i (by omega) (by omega))
def kS (f : am_F) (as : List Value) (s : am_S) (σ : List Int32 × Bool) : Prop := ∃ s', (∀ Q : Option Value → am_H → Prop, am_C f as (TP, s) Q ↔ Q (some (.int (zb (σ.2 = false)))) (TP, s')) ∧ (σ.2 = false → SeC s' σ.1) ∧ mK s s'
theorem ckTake_t {t : Int32} {σ : List Int32 × Bool} (h : σ.2 = true) : (ckTake t σ).2 = true := by
  obtain ⟨st, b⟩ := σ
  cases st <;> simp_all [ckTake]
theorem ckPut_t {t : Int32} {σ : List Int32 × Bool} (h : σ.2 = true) : (ckPut t σ).2 = true := by
  unfold ckPut
  split
  · rfl
  · exact h
theorem ckEmpty_t {σ : List Int32 × Bool} (h : σ.2 = true) : (ckEmpty σ).2 = true := by simp [ckEmpty, h]
theorem ckIf_t {b : Bool} {σ : List Int32 × Bool} (h : σ.2 = true) : (ckIf b σ).2 = true := by simp [ckIf, h]
theorem ckArgs_t {K : Nat} : ∀ (n : Nat) {σ : List Int32 × Bool}, σ.2 = true → (ckArgs K n σ).2 = true
  | 0, _, h => h
  | n + 1, _, h => ckArgs_t n (ckTake_t h)
theorem nbt {b : Bool} (h : b = true) : ¬ b = false := by rw [h]; simp
section SM12
variable {s : am_S} {Q : Option Value → am_H → Prop} {st : List Int32}
theorem e_M_takes (h : SeC s st) (t : Int32) : kS f_M_takes [.ref 308, .int t] s (ckTake t (st, false)) := by
  obtain ⟨h1, h2, h3⟩ := h
  cases st with
  | nil =>
    refine ⟨s, fun Q => ?_, fun q => (by cases q), mK_rf _⟩
    have z : zb ((ckTake t (([] : List Int32), false)).2 = false) = 0 := zb_f (by simp [ckTake])
    have h0 : s 308 18 = 0 := h1
    rw [c_M_takes, z]
    simp only [k_M_takes_0, k_M_takes_1, k_M_takes_4, k_M_takes_7, k_M_takes_8, k_M_takes_11, k_M_takes_12, k_M_takes_15, k_M_takes_16, k_M_takes_17, k_M_takes_18, k_M_takes_19, k_M_takes_22, k_M_takes_23, g_M0, g_M1, g_M2, g_M3, g_M4, g_M5, g_M6, g_M7, g_M8, g_M9, g_M10, g_M11, g_M12, g_M13, g_M14, g_M15, g_M16, g_M17, g_M18, g_M19, g_M20, g_M21, g_M22, g_M23, g_M24, g_M25, g_M26, g_M27, g_M28, g_M29, g_M30, g_M31, g_M32, g_M33, h0, am_ob_s, List.tail_cons, List.tail_nil, Option.toList_some, Option.toList_none, List.nil_append, List.cons_append, List.length_nil, List.length_cons, Nat.zero_le, true_and, and_true, true_implies, false_implies, not_true_eq_false, not_false_eq_true, implies_true, or_true, true_or, Nat.reduceAdd, Nat.reduceLeDiff]
  | cons a r =>
    have hl : r.length < 6 := h2
    rw [List.length_cons] at h1
    have h0 : ¬ nI (r.length + 1) = 0 := nI_ne0 (by omega) (by omega)
    have e1 : nI (r.length + 1) - 1 = nI r.length := by
      rw [show nI (r.length + 1) = nI r.length + 1 from (nI_1 _).symm]
      simp [Int32.add_sub_cancel]
    have hv := h3 r.length a (rev_top a r)
    have l := l_M_seen (s := s) (show r.length < 8 by omega)
    rw [hv] at l
    by_cases q : a = t
    · have z : zb ((ckTake t (a :: r, false)).2 = false) = 1 := zb_t (by simp [ckTake, q])
      refine ⟨am_wr s 308 18 (nI r.length), fun Q => ?_, fun _ => ⟨am_wr_self _ _ _ _, by show r.length ≤ 6; omega, fun k v hk => ?_⟩, ⟨fun i q1 q2 => am_wr_row _ q1, fun k q1 => am_wr_col _ q1⟩⟩
      · rw [c_M_takes, z]
        simp only [k_M_takes_0, k_M_takes_1, k_M_takes_4, k_M_takes_7, k_M_takes_8, k_M_takes_11, k_M_takes_12, k_M_takes_15, k_M_takes_16, k_M_takes_17, k_M_takes_18, k_M_takes_19, k_M_takes_22, k_M_takes_23, k_M_takes_24, k_M_takes_25, k_M_takes_25i, k_M_takes_26, k_M_takes_29, k_M_takes_30, k_M_takes_31, k_M_takes_34, k_M_takes_35, g_M0, g_M1, g_M2, g_M3, g_M4, g_M5, g_M6, g_M7, g_M8, g_M9, g_M10, g_M11, g_M12, g_M13, g_M14, g_M15, g_M16, g_M17, g_M18, g_M19, g_M20, g_M21, g_M22, g_M23, g_M24, g_M25, g_M26, g_M27, g_M28, g_M29, g_M30, g_M31, g_M32, g_M33, h1, h0, e1, l, q, p_M18, am_ob_s, List.tail_cons, List.tail_nil, Option.toList_some, Option.toList_none, List.nil_append, List.cons_append, List.length_nil, List.length_cons, Nat.zero_le, true_and, and_true, true_implies, false_implies, not_true_eq_false, not_false_eq_true, implies_true, or_true, true_or, Nat.reduceAdd, Nat.reduceLeDiff]
      · rw [am_wr_row _ (by omega)]
        exact h3 k v (rev_low hk)
    · have q2 : (ckTake t (a :: r, false)).2 = true := by simp [ckTake, q]
      refine ⟨s, fun Q => ?_, fun q3 => absurd q2 (by rw [q3]; simp), mK_rf _⟩
      rw [c_M_takes, zb_f (nbt q2)]
      simp only [k_M_takes_0, k_M_takes_1, k_M_takes_4, k_M_takes_7, k_M_takes_8, k_M_takes_11, k_M_takes_12, k_M_takes_15, k_M_takes_16, k_M_takes_17, k_M_takes_18, k_M_takes_19, k_M_takes_22, k_M_takes_23, k_M_takes_24, k_M_takes_25, k_M_takes_25i, k_M_takes_26, k_M_takes_29, k_M_takes_30, k_M_takes_31, k_M_takes_34, k_M_takes_35, g_M0, g_M1, g_M2, g_M3, g_M4, g_M5, g_M6, g_M7, g_M8, g_M9, g_M10, g_M11, g_M12, g_M13, g_M14, g_M15, g_M16, g_M17, g_M18, g_M19, g_M20, g_M21, g_M22, g_M23, g_M24, g_M25, g_M26, g_M27, g_M28, g_M29, g_M30, g_M31, g_M32, g_M33, h1, h0, e1, l, q, am_ob_s, List.tail_cons, List.tail_nil, Option.toList_some, Option.toList_none, List.nil_append, List.cons_append, List.length_nil, List.length_cons, Nat.zero_le, true_and, and_true, true_implies, false_implies, not_true_eq_false, not_false_eq_true, implies_true, or_true, true_or, Nat.reduceAdd, Nat.reduceLeDiff]
theorem e_M_puts (h : SeC s st) (t : Int32) : kS f_M_puts [.ref 308, .int t] s (ckPut t (st, false)) := by
  obtain ⟨h1, h2, h3⟩ := h
  have hl : st.length < 8 := by omega
  have w := w_M_seen (s := s) (v := t) hl
  have r1 : am_wr s 323 st.length t 308 18 = nI st.length := by rw [am_wr_row _ (by omega)]; exact h1
  have e1 := nI_1 st.length
  have r2 : am_wr (am_wr s 323 st.length t) 308 18 (nI (st.length + 1)) 308 18 = nI (st.length + 1) := am_wr_self _ _ _ _
  have hk : mK s (am_wr (am_wr s 323 st.length t) 308 18 (nI (st.length + 1))) := ⟨fun i q1 q2 => by rw [am_wr_row _ q1, am_wr_row _ q2], fun k q => by rw [am_wr_col _ q, am_wr_row _ (by omega)]⟩
  by_cases q : 6 ≤ st.length
  · have e : ckPut t (st, false) = (st, true) := if_pos q
    rw [e]
    refine ⟨_, fun Q => ?_, fun q3 => (by cases q3), hk⟩
    have g : (6 : Int32) < nI (st.length + 1) := nI_lt (a := 6) (by omega) (by omega)
    rw [c_M_puts, zb_f (by simp)]
    simp only [k_M_puts_0, k_M_puts_1, k_M_puts_4, k_M_puts_5, k_M_puts_8, k_M_puts_9, k_M_puts_10, k_M_puts_11, k_M_puts_11i, k_M_puts_12, k_M_puts_15, k_M_puts_16, k_M_puts_17, k_M_puts_20, k_M_puts_21, k_M_puts_24, k_M_puts_26, k_M_puts_29, k_M_puts_30, k_M_puts_33, k_M_puts_34, g_M0, g_M1, g_M2, g_M3, g_M4, g_M5, g_M6, g_M7, g_M8, g_M9, g_M10, g_M11, g_M12, g_M13, g_M14, g_M15, g_M16, g_M17, g_M18, g_M19, g_M20, g_M21, g_M22, g_M23, g_M24, g_M25, g_M26, g_M27, g_M28, g_M29, g_M30, g_M31, g_M32, g_M33, h1, w, r1, e1, p_M18, r2, g, am_ob_s, List.tail_cons, List.tail_nil, Option.toList_some, Option.toList_none, List.nil_append, List.cons_append, List.length_nil, List.length_cons, Nat.zero_le, true_and, and_true, true_implies, false_implies, not_true_eq_false, not_false_eq_true, implies_true, or_true, true_or, Nat.reduceAdd, Nat.reduceLeDiff]
  · have e : ckPut t (st, false) = (t :: st, false) := if_neg q
    rw [e]
    refine ⟨_, fun Q => ?_, fun _ => ⟨am_wr_self _ _ _ _, by show st.length + 1 ≤ 6; omega, fun k v hk => ?_⟩, hk⟩
    · have g : ¬ (6 : Int32) < nI (st.length + 1) := nI_nlt (a := 6) (by omega) (by omega)
      rw [c_M_puts, zb_t rfl]
      simp only [k_M_puts_0, k_M_puts_1, k_M_puts_4, k_M_puts_5, k_M_puts_8, k_M_puts_9, k_M_puts_10, k_M_puts_11, k_M_puts_11i, k_M_puts_12, k_M_puts_15, k_M_puts_16, k_M_puts_17, k_M_puts_20, k_M_puts_21, k_M_puts_24, k_M_puts_26, k_M_puts_29, k_M_puts_30, k_M_puts_33, k_M_puts_34, g_M0, g_M1, g_M2, g_M3, g_M4, g_M5, g_M6, g_M7, g_M8, g_M9, g_M10, g_M11, g_M12, g_M13, g_M14, g_M15, g_M16, g_M17, g_M18, g_M19, g_M20, g_M21, g_M22, g_M23, g_M24, g_M25, g_M26, g_M27, g_M28, g_M29, g_M30, g_M31, g_M32, g_M33, h1, w, r1, e1, p_M18, r2, g, am_ob_s, List.tail_cons, List.tail_nil, Option.toList_some, Option.toList_none, List.nil_append, List.cons_append, List.length_nil, List.length_cons, Nat.zero_le, true_and, and_true, true_implies, false_implies, not_true_eq_false, not_false_eq_true, implies_true, or_true, true_or, Nat.reduceAdd, Nat.reduceLeDiff]
    · rw [am_wr_row _ (by omega)]
      rcases rev_cons hk with ⟨q1, q2⟩ | ⟨rfl, rfl⟩
      · rw [am_wr_col _ (by omega)]
        exact h3 k v q2
      · exact am_wr_self _ _ _ _
theorem e_M_local {a i K : Nat} (ha : a < 30) (hi : i < 4) (hK : K < 256) (h : s 314 a = nI K) : am_C f_M_local [.ref 308, .int (nI a), .int (nI i)] (TP, s) Q ↔ Q (some (.int (nI (lk K i)))) (TP, s) := by
  rw [c_M_local]
  simp only [k_M_local_0, k_M_local_1, k_M_local_4, k_M_local_5, k_M_local_6, k_M_local_7, k_M_local_8, k_M_local_9, k_M_local_10, k_M_local_11, k_M_local_12, g_M0, g_M1, g_M2, g_M3, g_M4, g_M5, g_M6, g_M7, g_M8, g_M9, g_M10, g_M11, g_M12, g_M13, g_M14, g_M15, g_M16, g_M17, g_M18, g_M19, g_M20, g_M21, g_M22, g_M23, g_M24, g_M25, g_M26, g_M27, g_M28, g_M29, g_M30, g_M31, g_M32, g_M33, l_M_kinds ha, h, lk_ok K hK i hi, am_ob_s, List.tail_cons, List.tail_nil, Option.toList_some, Option.toList_none, List.nil_append, List.cons_append, List.length_nil, List.length_cons, Nat.zero_le, true_and, and_true, true_implies, false_implies, not_true_eq_false, not_false_eq_true, implies_true, or_true, true_or, Nat.reduceAdd, Nat.reduceLeDiff]
theorem e_M_passes (h : SeC s st) {D : pPg} (hD : MpC s 4 D) {m : Nat} (hm : m < 6) (hR : okR (D.2.1 m)) : kS f_M_passes [.ref 308, .int (nI m)] s (ckPut (nI (D.2.1 m).2.2.1) (ckArgs (D.2.1 m).2.1 (D.2.1 m).1 (ckIf ((D.2.1 m).2.2.2.isEmpty) (st, false)))) := by
  have g := hD.2.1 m hm
  have ha : 6 * 4 + m < 30 := by omega
  have i24 := ix24 m hm
  have h14 := g.2.2.2.2.1
  by_cases q : (D.2.1 m).2.2.2.length = 0
  · have q0 : (D.2.1 m).2.2.2.isEmpty = true := by rw [List.isEmpty_iff_length_eq_zero]; exact q
    have t := ckPut_t (t := nI (D.2.1 m).2.2.1) (ckArgs_t (K := (D.2.1 m).2.1) (D.2.1 m).1 (σ := ckIf ((D.2.1 m).2.2.2.isEmpty) (st, false)) (by rw [q0]; rfl))
    refine ⟨s, fun Q => ?_, fun q3 => absurd t (by rw [q3]; simp), mK_rf _⟩
    have l : s 316 (6 * 4 + m) = 0 := by rw [g.2.2.2.1, q]; rfl
    rw [c_M_passes, zb_f (nbt t)]
    simp only [k_M_passes_0, k_M_passes_2, k_M_passes_3, k_M_passes_4, k_M_passes_5, k_M_passes_6, k_M_passes_9, k_M_passes_10, k_M_passes_11, k_M_passes_14, k_M_passes_15, g_M0, g_M1, g_M2, g_M3, g_M4, g_M5, g_M6, g_M7, g_M8, g_M9, g_M10, g_M11, g_M12, g_M13, g_M14, g_M15, g_M16, g_M17, g_M18, g_M19, g_M20, g_M21, g_M22, g_M23, g_M24, g_M25, g_M26, g_M27, g_M28, g_M29, g_M30, g_M31, g_M32, g_M33, i24, l_M_length ha, l, am_ob_s, List.tail_cons, List.tail_nil, Option.toList_some, Option.toList_none, List.nil_append, List.cons_append, List.length_nil, List.length_cons, Nat.zero_le, true_and, and_true, true_implies, false_implies, not_true_eq_false, not_false_eq_true, implies_true, or_true, true_or, Nat.reduceAdd, Nat.reduceLeDiff]
  · have q0 : (D.2.1 m).2.2.2.isEmpty = false := by
      cases e : (D.2.1 m).2.2.2.isEmpty with
      | false => rfl
      | true => exact absurd (List.isEmpty_iff_length_eq_zero.mp e) q
    have l : ¬ nI (D.2.1 m).2.2.2.length = 0 := nI_ne0 (by omega) (by omega)
    have e0 : ckIf ((D.2.1 m).2.2.2.isEmpty) (st, false) = (st, false) := by rw [q0]; rfl
    rw [e0]
    have loop : ∀ (n : Nat), n ≤ 3 → ∀ (s : am_S) (st : List Int32), SeC s st → MpC s 4 D → ∀ (jk : List Value), ∃ s', (∀ Q : Option Value → am_H → Prop, am_W m_M_passes 25 (.ref 308 :: .int (nI m) :: .int (nI (6 * 4 + m)) :: .int (nI n - 1) :: jk) [] (TP, s) Q ↔ Q (some (.int (zb ((ckPut (nI (D.2.1 m).2.2.1) (ckArgs (D.2.1 m).2.1 n (st, false))).2 = false)))) (TP, s')) ∧ ((ckPut (nI (D.2.1 m).2.2.1) (ckArgs (D.2.1 m).2.1 n (st, false))).2 = false → SeC s' (ckPut (nI (D.2.1 m).2.2.1) (ckArgs (D.2.1 m).2.1 n (st, false))).1) ∧ mK s s' := by
      intro n
      induction n with
      | zero =>
        intro _ s st h hD jk
        obtain ⟨s', a1, a2, a3⟩ := e_M_puts h (nI (D.2.1 m).2.2.1)
        refine ⟨s', fun Q => ?_, a2, a3⟩
        have g := hD.2.1 m hm
        have lt : nI 0 - 1 < 0 := by decide
        rw [k_M_passes_25]
        simp only [k_M_passes_26, k_M_passes_50, k_M_passes_51, k_M_passes_52, k_M_passes_55, k_M_passes_56, k_M_passes_57, k_M_passes_60, g_M0, g_M1, g_M2, g_M3, g_M4, g_M5, g_M6, g_M7, g_M8, g_M9, g_M10, g_M11, g_M12, g_M13, g_M14, g_M15, g_M16, g_M17, g_M18, g_M19, g_M20, g_M21, g_M22, g_M23, g_M24, g_M25, g_M26, g_M27, g_M28, g_M29, g_M30, g_M31, g_M32, g_M33, lt, l_M_gives ha, g.2.2.1, rc_M, a1, ckArgs, zb_01, am_ob_s, List.tail_cons, List.tail_nil, Option.toList_some, Option.toList_none, List.nil_append, List.cons_append, List.length_nil, List.length_cons, Nat.zero_le, true_and, and_true, true_implies, false_implies, not_true_eq_false, not_false_eq_true, implies_true, or_true, true_or, Nat.reduceAdd, Nat.reduceLeDiff]
      | succ n ih =>
        intro hn s st h hD jk
        have g := hD.2.1 m hm
        have e1 : nI (n + 1) - 1 = nI n := by
          rw [show nI (n + 1) = nI n + 1 from (nI_1 _).symm]
          simp [Int32.add_sub_cancel]
        have nl : ¬ nI n < 0 := nI_pos (by omega)
        obtain ⟨s1, a1, a2, a3⟩ := e_M_takes h (nI (lk (D.2.1 m).2.1 n))
        have el := fun (Q : Option Value → am_H → Prop) => e_M_local (s := s) (Q := Q) ha (show n < 4 by omega) hR.2.1 g.2.1
        cases hb : (ckTake (nI (lk (D.2.1 m).2.1 n)) (st, false)).2 with
        | true =>
          have t := ckPut_t (t := nI (D.2.1 m).2.2.1) (ckArgs_t (K := (D.2.1 m).2.1) n hb)
          rw [ckArgs]
          refine ⟨s1, fun Q => ?_, fun q3 => absurd t (by rw [q3]; simp), a3⟩
          rw [zb_f (nbt hb)] at a1
          rw [k_M_passes_25, zb_f (nbt t)]
          simp only [k_M_passes_26, k_M_passes_29, k_M_passes_30, k_M_passes_31, k_M_passes_32, k_M_passes_33, k_M_passes_36, k_M_passes_39, k_M_passes_42, k_M_passes_43, e1, nl, rc_M, el, a1, am_ob_s, List.tail_cons, List.tail_nil, Option.toList_some, Option.toList_none, List.nil_append, List.cons_append, List.length_nil, List.length_cons, Nat.zero_le, true_and, and_true, true_implies, false_implies, not_true_eq_false, not_false_eq_true, implies_true, or_true, true_or, Nat.reduceAdd, Nat.reduceLeDiff]
        | false =>
          obtain ⟨s2, b1, b2, b3⟩ := ih (by omega) s1 _ (a2 hb) (MpC_k hD a3) jk
          have es : ckTake (nI (lk (D.2.1 m).2.1 n)) (st, false) = ((ckTake (nI (lk (D.2.1 m).2.1 n)) (st, false)).1, false) := Prod.ext rfl hb
          rw [ckArgs, es]
          refine ⟨s2, fun Q => ?_, b2, mK_tr a3 b3⟩
          rw [zb_t hb] at a1
          have em : nI n + -1 = nI n - 1 := by rw [Int32.sub_eq_add_neg]
          rw [k_M_passes_25]
          simp only [k_M_passes_26, k_M_passes_29, k_M_passes_30, k_M_passes_31, k_M_passes_32, k_M_passes_33, k_M_passes_36, k_M_passes_39, k_M_passes_42, k_M_passes_43, k_M_passes_44, k_M_passes_47, e1, nl, rc_M, el, a1, hz10, em, am_ob_s, List.tail_cons, List.tail_nil, Option.toList_some, Option.toList_none, List.nil_append, List.cons_append, List.length_nil, List.length_cons, Nat.zero_le, true_and, and_true, true_implies, false_implies, not_true_eq_false, not_false_eq_true, implies_true, or_true, true_or, Nat.reduceAdd, Nat.reduceLeDiff]
          exact b1 Q
    obtain ⟨s', a1, a2, a3⟩ := loop (D.2.1 m).1 hR.1 s st h hD []
    refine ⟨s', fun Q => ?_, a2, a3⟩
    rw [c_M_passes]
    simp only [k_M_passes_0, k_M_passes_2, k_M_passes_3, k_M_passes_4, k_M_passes_5, k_M_passes_6, k_M_passes_9, k_M_passes_10, k_M_passes_11, k_M_passes_14, k_M_passes_15, k_M_passes_16, k_M_passes_17, k_M_passes_20, k_M_passes_21, k_M_passes_22, k_M_passes_23, k_M_passes_24, g_M0, g_M1, g_M2, g_M3, g_M4, g_M5, g_M6, g_M7, g_M8, g_M9, g_M10, g_M11, g_M12, g_M13, g_M14, g_M15, g_M16, g_M17, g_M18, g_M19, g_M20, g_M21, g_M22, g_M23, g_M24, g_M25, g_M26, g_M27, g_M28, g_M29, g_M30, g_M31, g_M32, g_M33, i24, l_M_length ha, g.2.2.2.1, l, l_M_parameters ha, g.1, am_ob_s, List.tail_cons, List.tail_nil, Option.toList_some, Option.toList_none, List.nil_append, List.cons_append, List.length_nil, List.length_cons, Nat.zero_le, true_and, and_true, true_implies, false_implies, not_true_eq_false, not_false_eq_true, implies_true, or_true, true_or, Nat.reduceAdd, Nat.reduceLeDiff]
    exact a1 Q
end SM12
