/-! The reference: its state -/
def MlC (s : am_S) (b c : Nat) (L : pLy) : Prop := s 309 (3 * b + c - 1) = nI L.length ∧ L.length ≤ 4 ∧ ∀ (k : Nat) (e : Nat × Nat × Int32), L[k]? = some e → s 310 (4 * (3 * b + c - 1) + k) = nI e.1 ∧ s 311 (4 * (3 * b + c - 1) + k) = nI e.2.1 ∧ s 312 (4 * (3 * b + c - 1) + k) = e.2.2
def MrC (s : am_S) (a : Nat) (R : pRo) : Prop := s 313 a = nI R.1 ∧ s 314 a = nI R.2.1 ∧ s 315 a = nI R.2.2.1 ∧ s 316 a = nI R.2.2.2.length ∧ R.2.2.2.length ≤ 14 ∧ ∀ (k : Nat) (e : Nat × Int32 × Nat), R.2.2.2[k]? = some e → s 317 (14 * a + k) = nI e.1 ∧ s 318 (14 * a + k) = e.2.1 ∧ s 319 (14 * a + k) = nI e.2.2
def MpC (s : am_S) (b : Nat) (G : pPg) : Prop := (∀ c, 1 ≤ c → c ≤ 3 → MlC s b c (G.1 c)) ∧ (∀ m, m < 6 → MrC s (6 * b + m) (G.2.1 m)) ∧ s 320 b = G.2.2.1 ∧ s 321 b = G.2.2.2.1
def MfC (s : am_S) (k : Nat) (F : pFr) : Prop := s 324 k = nI F.1 ∧ s 325 k = nI F.2.1 ∧ (∀ i, i < 4 → s 326 (4 * k + i) = F.2.2.1 i) ∧ s 329 k = nI F.2.2.2.length ∧ F.2.2.2.length ≤ 6 ∧ ∀ (i : Nat) (e : Int32 × Nat), F.2.2.2.reverse[i]? = some e → s 327 (6 * k + i) = e.1 ∧ s 328 (6 * k + i) = nI e.2
def MhC (s : am_S) (cl : Nat → Nat) (vl : Nat → Nat → Int32) : Prop := ∀ j, j < 16 → s 330 (j + 1) = nI (cl j) ∧ cl j < 4 ∧ ∀ k, k < 4 → s 331 (4 * (j + 1) + k) = vl j k
/-- the runs -/
def MnC (s : am_S) (σ : pMc) : Prop := s 308 21 = nI σ.1.length ∧ σ.1.length ≤ 8 ∧ (∀ (k : Nat) (F : pFr), σ.1.reverse[k]? = some F → MfC s k F) ∧ s 308 19 = σ.2.1 ∧ s 308 20 = σ.2.2.1 ∧ MhC s σ.2.2.2.1 σ.2.2.2.2.1 ∧ (∀ j, j < 16 → s 334 j = σ.2.2.2.2.2.1 j) ∧ s 308 33 = σ.2.2.2.2.2.2
def MdC (s : am_S) (Z : pSg) : Prop := s 308 14 = nI Z.2.2.1 ∧ Z.2.2.1 ≤ 3 ∧ MpC s 4 Z.1 ∧ (∀ i, i ≤ Z.2.2.1 → MpC s i (Z.2.1 i) ∧ s 322 i = (Z.2.1 i).2.2.2.2) ∧ MnC s Z.2.2.2.1 ∧ s 308 15 = Z.2.2.2.2.1 ∧ s 308 16 = Z.2.2.2.2.2
def mS (f : am_F) (as : List Value) (s : am_S) (r : Int32 × pSg) : Prop := ∃ s', (∀ Q : Option Value → am_H → Prop, am_C f as (TP, s) Q ↔ Q (some (.int r.1)) (TP, s')) ∧ MdC s' r.2 ∧ off 308 335 s s'
theorem ix3 : ∀ b, b < 5 → ∀ c, c < 4 → 1 ≤ c → ((3 : Int32) * nI b + nI c) - 1 = nI (3 * b + c - 1) := by decide +kernel
theorem ix12 : ∀ c, c < 4 → 1 ≤ c → ((12 : Int32) + nI c) - 1 = nI (3 * 4 + c - 1) := by decide +kernel
theorem ix4 : ∀ j, j < 15 → ∀ k, k < 4 → ((4 : Int32) * nI j) + nI k = nI (4 * j + k) := by decide +kernel
theorem ix14 : ∀ a, a < 30 → ∀ p, p < 14 → ((14 : Int32) * nI a) + nI p = nI (14 * a + p) := by decide +kernel
theorem ix24 : ∀ m, m < 6 → (24 : Int32) + nI m = nI (6 * 4 + m) := by decide +kernel
theorem ix6 : ∀ b, b < 5 → ∀ m, m < 6 → ((6 : Int32) * nI b) + nI m = nI (6 * b + m) := by decide +kernel
section SM
variable {s : am_S} {Z : pSg} {h : am_H} {Q : Option Value → am_H → Prop}
theorem e_M_in (v a b : Int32) : am_C f_M_in [.int v, .int a, .int b] h Q ↔ Q (some (.int (zb (¬ v < a ∧ ¬ b < v)))) h := by
  rw [c_M_in]
  by_cases h1 : v < a
  · rw [zb_f (fun q => q.1 h1)]
    simp only [k_M_in_0, k_M_in_1, k_M_in_2, k_M_in_5, k_M_in_6, k_M_in_7, k_M_in_10, k_M_in_11, k_M_in_14, k_M_in_15, h1, am_ob_s, List.tail_cons, List.tail_nil, Option.toList_some, Option.toList_none, List.nil_append, List.cons_append, List.length_nil, List.length_cons, Nat.zero_le, true_and, and_true, true_implies, false_implies, not_true_eq_false, not_false_eq_true, implies_true, or_true, true_or, Nat.reduceAdd, Nat.reduceLeDiff]
  · by_cases h2 : b < v
    · rw [zb_f (fun q => q.2 h2)]
      simp only [k_M_in_0, k_M_in_1, k_M_in_2, k_M_in_5, k_M_in_6, k_M_in_7, k_M_in_10, k_M_in_11, k_M_in_14, k_M_in_15, h1, h2, am_ob_s, List.tail_cons, List.tail_nil, Option.toList_some, Option.toList_none, List.nil_append, List.cons_append, List.length_nil, List.length_cons, Nat.zero_le, true_and, and_true, true_implies, false_implies, not_true_eq_false, not_false_eq_true, implies_true, or_true, true_or, Nat.reduceAdd, Nat.reduceLeDiff]
    · rw [zb_t ⟨h1, h2⟩]
      simp only [k_M_in_0, k_M_in_1, k_M_in_2, k_M_in_5, k_M_in_6, k_M_in_7, k_M_in_10, k_M_in_11, k_M_in_14, k_M_in_15, h1, h2, am_ob_s, List.tail_cons, List.tail_nil, Option.toList_some, Option.toList_none, List.nil_append, List.cons_append, List.length_nil, List.length_cons, Nat.zero_le, true_and, and_true, true_implies, false_implies, not_true_eq_false, not_false_eq_true, implies_true, or_true, true_or, Nat.reduceAdd, Nat.reduceLeDiff]
theorem e_M_find {b c : Nat} (hb : b < 5) (hc : 1 ≤ c ∧ c ≤ 3) {L : pLy} (hL : MlC s b c L) (v : Int32) : am_C f_M_find [.ref 308, .int (nI b), .int (nI c), .int v] (TP, s) Q ↔ Q (some (.int (pIx (pFind L v)))) (TP, s) := by
  have h4 := hL.2.1
  have hj15 : 3 * b + c - 1 < 15 := by omega
  have e3 := ix3 b hb c (by omega) hc.1
  have ef : fnd (fun k => s 310 (4 * (3 * b + c - 1) + k)) v 0 L.length = pIx (pFind L v) := by
    rw [fnd_find v L (fun k => s 310 (4 * (3 * b + c - 1) + k)) 0 (fun k e hk => by rw [Nat.zero_add]; exact (hL.2.2 k e hk).1)]
    cases pFind L v with
    | none => rfl
    | some k => exact congrArg nI (Nat.zero_add k)
  rw [c_M_find, ← ef]
  have loop : ∀ (r j : Nat), j + r = L.length → ∀ jk : List Value, am_W m_M_find 3 (.ref 308 :: .int (nI b) :: .int (nI c) :: .int v :: .int (nI j) :: jk) [] (TP, s) Q ↔ Q (some (.int (fnd (fun k => s 310 (4 * (3 * b + c - 1) + k)) v j r))) (TP, s) := by
    intro r
    induction r with
    | zero =>
      intro j hj jk
      have h1 : nI L.length ≤ nI j := nI_le (by omega) (by omega)
      rw [k_M_find_3]
      simp only [k_M_find_5, k_M_find_6, k_M_find_9, k_M_find_10, k_M_find_11, k_M_find_12, k_M_find_13, k_M_find_14, k_M_find_15, k_M_find_16, k_M_find_17, k_M_find_50, k_M_find_51, g_M0, g_M1, g_M2, g_M3, g_M4, g_M5, g_M6, g_M7, g_M8, g_M9, g_M10, g_M11, g_M12, g_M13, g_M14, g_M15, g_M16, g_M17, g_M18, g_M19, g_M20, g_M21, g_M22, g_M23, g_M24, g_M25, g_M26, g_M27, g_M28, g_M29, g_M30, g_M31, g_M32, g_M33, e3, l_M_fields hj15, hL.1, h1, fnd, am_ob_s, List.tail_cons, List.tail_nil, Option.toList_some, Option.toList_none, List.nil_append, List.cons_append, List.length_nil, List.length_cons, Nat.zero_le, true_and, and_true, true_implies, false_implies, not_true_eq_false, not_false_eq_true, implies_true, or_true, true_or, Nat.reduceAdd, Nat.reduceLeDiff]
    | succ r ih =>
      intro j hj jk
      have h1 : ¬ nI L.length ≤ nI j := nI_ge (by omega) (by omega)
      have e4 := ix4 (3 * b + c - 1) hj15 j (by omega)
      rw [k_M_find_3]
      simp only [k_M_find_5, k_M_find_6, k_M_find_9, k_M_find_10, k_M_find_11, k_M_find_12, k_M_find_13, k_M_find_14, k_M_find_15, k_M_find_16, k_M_find_17, k_M_find_20, k_M_find_21, k_M_find_24, k_M_find_25, k_M_find_26, k_M_find_27, k_M_find_28, k_M_find_29, k_M_find_30, k_M_find_31, k_M_find_32, k_M_find_33, k_M_find_35, k_M_find_36, k_M_find_37, k_M_find_38, k_M_find_41, k_M_find_43, k_M_find_44, k_M_find_47, g_M0, g_M1, g_M2, g_M3, g_M4, g_M5, g_M6, g_M7, g_M8, g_M9, g_M10, g_M11, g_M12, g_M13, g_M14, g_M15, g_M16, g_M17, g_M18, g_M19, g_M20, g_M21, g_M22, g_M23, g_M24, g_M25, g_M26, g_M27, g_M28, g_M29, g_M30, g_M31, g_M32, g_M33, e3, e4, l_M_fields hj15, l_M_name (show 4 * (3 * b + c - 1) + j < 60 by omega), hL.1, h1, nI_1, am_ob_s, List.tail_cons, List.tail_nil, Option.toList_some, Option.toList_none, List.nil_append, List.cons_append, List.length_nil, List.length_cons, Nat.zero_le, true_and, and_true, true_implies, false_implies, not_true_eq_false, not_false_eq_true, implies_true, or_true, true_or, Nat.reduceAdd, Nat.reduceLeDiff]
      rw [ih (j + 1) (by omega)]
      by_cases h2 : s 310 (4 * (3 * b + c - 1) + j) = v <;> simp [h2, fnd]
  have := loop L.length 0 (by omega) []
  rw [nI_0] at this
  simp only [k_M_find_0, k_M_find_1, am_ob_s, List.tail_cons, List.tail_nil, Option.toList_some, Option.toList_none, List.nil_append, List.cons_append, List.length_nil, List.length_cons, Nat.zero_le, true_and, and_true, true_implies, false_implies, not_true_eq_false, not_false_eq_true, implies_true, or_true, true_or, Nat.reduceAdd, Nat.reduceLeDiff]
  exact this
theorem e_M_typeOf {b c k : Nat} (hb : b < 5) (hc : 1 ≤ c ∧ c ≤ 3) (hk : k < 4) : am_C f_M_typeOf [.ref 308, .int (nI b), .int (nI c), .int (nI k)] (TP, s) Q ↔ Q (some (.int (s 311 (4 * (3 * b + c - 1) + k)))) (TP, s) := by
  rw [c_M_typeOf]
  simp only [k_M_typeOf_0, k_M_typeOf_1, k_M_typeOf_4, k_M_typeOf_5, k_M_typeOf_6, k_M_typeOf_7, k_M_typeOf_8, k_M_typeOf_9, k_M_typeOf_10, k_M_typeOf_11, k_M_typeOf_12, k_M_typeOf_13, k_M_typeOf_14, k_M_typeOf_15, k_M_typeOf_16, g_M0, g_M1, g_M2, g_M3, g_M4, g_M5, g_M6, g_M7, g_M8, g_M9, g_M10, g_M11, g_M12, g_M13, g_M14, g_M15, g_M16, g_M17, g_M18, g_M19, g_M20, g_M21, g_M22, g_M23, g_M24, g_M25, g_M26, g_M27, g_M28, g_M29, g_M30, g_M31, g_M32, g_M33, ix3 b hb c (by omega) hc.1, ix4 (3 * b + c - 1) (by omega) k hk, l_M_type (show 4 * (3 * b + c - 1) + k < 60 by omega), am_ob_s, List.tail_cons, List.tail_nil, Option.toList_some, Option.toList_none, List.nil_append, List.cons_append, List.length_nil, List.length_cons, Nat.zero_le, true_and, and_true, true_implies, false_implies, not_true_eq_false, not_false_eq_true, implies_true, or_true, true_or, Nat.reduceAdd, Nat.reduceLeDiff]
theorem e_M_waiting (hZ : MdC s Z) : am_C f_M_waiting [.ref 308] (TP, s) Q ↔ Q (some (.int (nI Z.2.2.1))) (TP, s) := by
  rw [c_M_waiting]
  simp only [k_M_waiting_0, k_M_waiting_1, k_M_waiting_4, g_M0, g_M1, g_M2, g_M3, g_M4, g_M5, g_M6, g_M7, g_M8, g_M9, g_M10, g_M11, g_M12, g_M13, g_M14, g_M15, g_M16, g_M17, g_M18, g_M19, g_M20, g_M21, g_M22, g_M23, g_M24, g_M25, g_M26, g_M27, g_M28, g_M29, g_M30, g_M31, g_M32, g_M33, hZ.1, am_ob_s, List.tail_cons, List.tail_nil, Option.toList_some, Option.toList_none, List.nil_append, List.cons_append, List.length_nil, List.length_cons, Nat.zero_le, true_and, and_true, true_implies, false_implies, not_true_eq_false, not_false_eq_true, implies_true, or_true, true_or, Nat.reduceAdd, Nat.reduceLeDiff]
theorem e_M_restricted (hZ : MdC s Z) : am_C f_M_restricted [.ref 308] (TP, s) Q ↔ Q (some (.int (pRestr Z))) (TP, s) := by
  have h3 := hZ.2.1
  rw [c_M_restricted]
  unfold pRestr
  by_cases h : Z.2.2.1 = 0
  · have h0 : nI Z.2.2.1 ≤ 0 := by rw [h]; decide
    rw [zif_t h]
    simp only [k_M_restricted_0, k_M_restricted_1, k_M_restricted_4, k_M_restricted_7, k_M_restricted_8, k_M_restricted_11, k_M_restricted_12, k_M_restricted_13, k_M_restricted_16, k_M_restricted_17, g_M0, g_M1, g_M2, g_M3, g_M4, g_M5, g_M6, g_M7, g_M8, g_M9, g_M10, g_M11, g_M12, g_M13, g_M14, g_M15, g_M16, g_M17, g_M18, g_M19, g_M20, g_M21, g_M22, g_M23, g_M24, g_M25, g_M26, g_M27, g_M28, g_M29, g_M30, g_M31, g_M32, g_M33, hZ.1, h0, am_ob_s, List.tail_cons, List.tail_nil, Option.toList_some, Option.toList_none, List.nil_append, List.cons_append, List.length_nil, List.length_cons, Nat.zero_le, true_and, and_true, true_implies, false_implies, not_true_eq_false, not_false_eq_true, implies_true, or_true, true_or, Nat.reduceAdd, Nat.reduceLeDiff]
  · have h0 : ¬ nI Z.2.2.1 ≤ 0 := nI_nle (by omega) (by omega)
    have g := (hZ.2.2.2.1 1 (by omega)).2
    have l1 := l_M_barred (s := s) (j := 1) (by omega)
    rw [show nI 1 = 1 from rfl] at l1
    rw [zif_f h]
    simp only [k_M_restricted_0, k_M_restricted_1, k_M_restricted_4, k_M_restricted_7, k_M_restricted_8, k_M_restricted_11, k_M_restricted_12, k_M_restricted_13, k_M_restricted_16, k_M_restricted_17, g_M0, g_M1, g_M2, g_M3, g_M4, g_M5, g_M6, g_M7, g_M8, g_M9, g_M10, g_M11, g_M12, g_M13, g_M14, g_M15, g_M16, g_M17, g_M18, g_M19, g_M20, g_M21, g_M22, g_M23, g_M24, g_M25, g_M26, g_M27, g_M28, g_M29, g_M30, g_M31, g_M32, g_M33, hZ.1, h0, l1, g, am_ob_s, List.tail_cons, List.tail_nil, Option.toList_some, Option.toList_none, List.nil_append, List.cons_append, List.length_nil, List.length_cons, Nat.zero_le, true_and, and_true, true_implies, false_implies, not_true_eq_false, not_false_eq_true, implies_true, or_true, true_or, Nat.reduceAdd, Nat.reduceLeDiff]
theorem e_M_applied (hZ : MdC s Z) : am_C f_M_applied [.ref 308] (TP, s) Q ↔ Q (some (.int Z.2.2.2.2.1)) (TP, s) := by
  rw [c_M_applied]
  simp only [k_M_applied_0, k_M_applied_1, k_M_applied_4, g_M0, g_M1, g_M2, g_M3, g_M4, g_M5, g_M6, g_M7, g_M8, g_M9, g_M10, g_M11, g_M12, g_M13, g_M14, g_M15, g_M16, g_M17, g_M18, g_M19, g_M20, g_M21, g_M22, g_M23, g_M24, g_M25, g_M26, g_M27, g_M28, g_M29, g_M30, g_M31, g_M32, g_M33, hZ.2.2.2.2.2.1, am_ob_s, List.tail_cons, List.tail_nil, Option.toList_some, Option.toList_none, List.nil_append, List.cons_append, List.length_nil, List.length_cons, Nat.zero_le, true_and, and_true, true_implies, false_implies, not_true_eq_false, not_false_eq_true, implies_true, or_true, true_or, Nat.reduceAdd, Nat.reduceLeDiff]
theorem e_M_moved (hZ : MdC s Z) : am_C f_M_moved [.ref 308] (TP, s) Q ↔ Q (some (.int Z.2.2.2.2.2)) (TP, s) := by
  rw [c_M_moved]
  simp only [k_M_moved_0, k_M_moved_1, k_M_moved_4, g_M0, g_M1, g_M2, g_M3, g_M4, g_M5, g_M6, g_M7, g_M8, g_M9, g_M10, g_M11, g_M12, g_M13, g_M14, g_M15, g_M16, g_M17, g_M18, g_M19, g_M20, g_M21, g_M22, g_M23, g_M24, g_M25, g_M26, g_M27, g_M28, g_M29, g_M30, g_M31, g_M32, g_M33, hZ.2.2.2.2.2.2, am_ob_s, List.tail_cons, List.tail_nil, Option.toList_some, Option.toList_none, List.nil_append, List.cons_append, List.length_nil, List.length_cons, Nat.zero_le, true_and, and_true, true_implies, false_implies, not_true_eq_false, not_false_eq_true, implies_true, or_true, true_or, Nat.reduceAdd, Nat.reduceLeDiff]
theorem e_M_status (hZ : MdC s Z) : am_C f_M_status [.ref 308] (TP, s) Q ↔ Q (some (.int Z.2.2.2.1.2.1)) (TP, s) := by
  have h := hZ.2.2.2.2.1.2.2.2.1
  rw [c_M_status]
  simp only [k_M_status_0, k_M_status_1, k_M_status_4, g_M0, g_M1, g_M2, g_M3, g_M4, g_M5, g_M6, g_M7, g_M8, g_M9, g_M10, g_M11, g_M12, g_M13, g_M14, g_M15, g_M16, g_M17, g_M18, g_M19, g_M20, g_M21, g_M22, g_M23, g_M24, g_M25, g_M26, g_M27, g_M28, g_M29, g_M30, g_M31, g_M32, g_M33, h, am_ob_s, List.tail_cons, List.tail_nil, Option.toList_some, Option.toList_none, List.nil_append, List.cons_append, List.length_nil, List.length_cons, Nat.zero_le, true_and, and_true, true_implies, false_implies, not_true_eq_false, not_false_eq_true, implies_true, or_true, true_or, Nat.reduceAdd, Nat.reduceLeDiff]
theorem e_M_result (hZ : MdC s Z) (h0 : ¬ Z.2.2.2.1.2.1 = 2 → Z.2.2.2.1.2.2.1 = 0) : am_C f_M_result [.ref 308] (TP, s) Q ↔ Q (some (.int Z.2.2.2.1.2.2.1)) (TP, s) := by
  have h := hZ.2.2.2.2.1.2.2.2.1
  have h' := hZ.2.2.2.2.1.2.2.2.2.1
  rw [c_M_result]
  by_cases q : Z.2.2.2.1.2.1 = 2
  · simp only [k_M_result_0, k_M_result_1, k_M_result_4, k_M_result_5, k_M_result_8, k_M_result_9, k_M_result_12, k_M_result_15, k_M_result_16, g_M0, g_M1, g_M2, g_M3, g_M4, g_M5, g_M6, g_M7, g_M8, g_M9, g_M10, g_M11, g_M12, g_M13, g_M14, g_M15, g_M16, g_M17, g_M18, g_M19, g_M20, g_M21, g_M22, g_M23, g_M24, g_M25, g_M26, g_M27, g_M28, g_M29, g_M30, g_M31, g_M32, g_M33, h, h', q, am_ob_s, List.tail_cons, List.tail_nil, Option.toList_some, Option.toList_none, List.nil_append, List.cons_append, List.length_nil, List.length_cons, Nat.zero_le, true_and, and_true, true_implies, false_implies, not_true_eq_false, not_false_eq_true, implies_true, or_true, true_or, Nat.reduceAdd, Nat.reduceLeDiff]
  · simp only [k_M_result_0, k_M_result_1, k_M_result_4, k_M_result_5, k_M_result_8, k_M_result_9, k_M_result_12, k_M_result_15, k_M_result_16, g_M0, g_M1, g_M2, g_M3, g_M4, g_M5, g_M6, g_M7, g_M8, g_M9, g_M10, g_M11, g_M12, g_M13, g_M14, g_M15, g_M16, g_M17, g_M18, g_M19, g_M20, g_M21, g_M22, g_M23, g_M24, g_M25, g_M26, g_M27, g_M28, g_M29, g_M30, g_M31, g_M32, g_M33, h, h', q, h0 q, am_ob_s, List.tail_cons, List.tail_nil, Option.toList_some, Option.toList_none, List.nil_append, List.cons_append, List.length_nil, List.length_cons, Nat.zero_le, true_and, and_true, true_implies, false_implies, not_true_eq_false, not_false_eq_true, implies_true, or_true, true_or, Nat.reduceAdd, Nat.reduceLeDiff]
theorem e_M_depth (hZ : MdC s Z) : am_C f_M_depth [.ref 308] (TP, s) Q ↔ Q (some (.int (nI Z.2.2.2.1.1.length))) (TP, s) := by
  have h := hZ.2.2.2.2.1.1
  rw [c_M_depth]
  simp only [k_M_depth_0, k_M_depth_1, k_M_depth_4, g_M0, g_M1, g_M2, g_M3, g_M4, g_M5, g_M6, g_M7, g_M8, g_M9, g_M10, g_M11, g_M12, g_M13, g_M14, g_M15, g_M16, g_M17, g_M18, g_M19, g_M20, g_M21, g_M22, g_M23, g_M24, g_M25, g_M26, g_M27, g_M28, g_M29, g_M30, g_M31, g_M32, g_M33, h, am_ob_s, List.tail_cons, List.tail_nil, Option.toList_some, Option.toList_none, List.nil_append, List.cons_append, List.length_nil, List.length_cons, Nat.zero_le, true_and, and_true, true_implies, false_implies, not_true_eq_false, not_false_eq_true, implies_true, or_true, true_or, Nat.reduceAdd, Nat.reduceLeDiff]
theorem e_M_outputs (hZ : MdC s Z) : am_C f_M_outputs [.ref 308] (TP, s) Q ↔ Q (some (.int Z.2.2.2.1.2.2.2.2.2.2)) (TP, s) := by
  have h := hZ.2.2.2.2.1.2.2.2.2.2.2.2
  rw [c_M_outputs]
  simp only [k_M_outputs_0, k_M_outputs_1, k_M_outputs_4, g_M0, g_M1, g_M2, g_M3, g_M4, g_M5, g_M6, g_M7, g_M8, g_M9, g_M10, g_M11, g_M12, g_M13, g_M14, g_M15, g_M16, g_M17, g_M18, g_M19, g_M20, g_M21, g_M22, g_M23, g_M24, g_M25, g_M26, g_M27, g_M28, g_M29, g_M30, g_M31, g_M32, g_M33, h, am_ob_s, List.tail_cons, List.tail_nil, Option.toList_some, Option.toList_none, List.nil_append, List.cons_append, List.length_nil, List.length_cons, Nat.zero_le, true_and, and_true, true_implies, false_implies, not_true_eq_false, not_false_eq_true, implies_true, or_true, true_or, Nat.reduceAdd, Nat.reduceLeDiff]
end SM
