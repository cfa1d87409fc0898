/-! The law: class and reference side by side -/
theorem MdC_up {s s' : am_S} {Z : pSg} (h : MdC s Z) (e : ∀ i, 308 ≤ i → s' i = s i) : MdC s' Z := by
  obtain ⟨z1, z2, z3, z4, z5, z6, z7⟩ := h
  exact ⟨by rw [e 308 (by omega)]; exact z1, z2, MpC_rows z3 (fun i q1 q2 => e i (by omega)), fun i hi => ⟨MpC_rows (z4 i hi).1 (fun i q1 q2 => e i (by omega)), by rw [e 322 (by omega)]; exact (z4 i hi).2⟩, MnC_row z5 (fun i q1 q2 => e i (by omega)) (fun k q1 q2 => by rw [e 308 (by omega)]), by rw [e 308 (by omega)]; exact z6, by rw [e 308 (by omega)]; exact z7⟩
theorem ClC_lo {s s' : am_S} {Z : pSg} (h : ClC s Z) (e : ∀ i, i < 308 → s' i = s i) : ClC s' Z := by
  obtain ⟨f, w1, w2, w3, w4, w5, w6, w7, w8, w9, σ, w10⟩ := h
  refine ⟨f, w1, by rw [e 50 (by omega)]; exact w2, by rw [e 50 (by omega)]; exact w3, w4, PgC_same w5 (fun i q1 q2 => e i (by omega)), fun i hi => ?_, RnC_same w7 (fun i q1 q2 => e i (by omega)), by rw [e 0 (by omega)]; exact w8, by rw [e 0 (by omega)]; exact w9, σ, CkC_same w10 (fun i q1 q2 => e i (by omega))⟩
  have := Nat.mod_lt (f + i) (show 4 > 0 by decide)
  exact PgC_same (w6 i hi) (fun x q1 q2 => e x (by omega))
def lawQ : Option Value → am_H → Prop := fun r h => r = some (.int 1) ∧ h.1.length ≤ 600000 ∧ am_slt h.1 ≤ 7302250
theorem law_fits : TP.length ≤ 600000 ∧ am_slt TP ≤ 7302250 := by decide +kernel
theorem law_sld {L : Nat} {xs : Nat → Int32} {j : Nat} (hj : j < L) (hL : L ≤ 2560) : am_sld (m_W_law L xs) (nI j) = some (xs j) := by
  show (if am_out (nI j) L then none else some (xs (nI j).toNatClampNeg)) = _
  rw [if_neg (nI_out hj (by omega)), nI_clamp (by omega)]
theorem law_end {L i : Nat} (hL : L ≤ 2560) (hi : i ≤ 3000) : nI L - 5 < nI i ↔ L < i + 5 := by
  by_cases q : 5 ≤ L
  · have e : nI L - 5 = nI (L - 5) := by
      have : nI L = nI (L - 5) + 5 := by
        rw [show (5 : Int32) = nI 5 from rfl, nI_add]
        exact congrArg nI (by omega)
      rw [this]
      simp [Int32.add_sub_cancel]
    rw [e, nI_ltI (by omega) (by omega)]
    omega
  · have h1 : ∀ L, L < 5 → nI L - 5 < 0 := by decide
    have h2 : (0 : Int32) ≤ nI i := Int32.not_lt.mp (nI_pos (by omega))
    exact ⟨fun _ => by omega, fun _ => Int32.lt_of_lt_of_le (h1 L (by omega)) h2⟩
section SW
variable {L : Nat} {xs : Nat → Int32}
/-- one round of the law: class and reference answer alike -/
def lawS (L : Nat) (xs : Nat → Int32) (i : Nat) (s : am_S) (pc : Nat) : Prop := ∃ (s' : am_S) (Z' : pSg), (∀ Q : Option Value → am_H → Prop, am_W (m_W_law L xs) pc [.retAddr 0, .ref 0, .ref 308, .int (nI i)] [] (TP, s) Q ↔ am_W (m_W_law L xs) 578 [.retAddr 0, .ref 0, .ref 308, .int (nI i)] [] (TP, s') Q) ∧ ClC s' Z' ∧ MdC s' Z' ∧ iI Z'

set_option maxRecDepth 20000 in
theorem law_layout {s : am_S} {Z : pSg} {i : Nat} (hL : L ≤ 2560) (hi : i + 5 ≤ L) (hC : ClC s Z) (hM : MdC s Z) (hI : iI Z) : lawS L xs i s 128 := by
  have d1 := law_sld (xs := xs) (show i + 1 < L by omega) hL
  have e1 : nI i + 1 = nI (i + 1) := by rw [show (1 : Int32) = nI 1 from rfl, nI_add]
  obtain ⟨s1, a1, a2, a3⟩ := e_X_layout hC (xs (i + 1))
  obtain ⟨s2, b1, b2, b3⟩ := e_M_layout (MdC_up hM (fun i q => a3 i (by omega))) (xs (i + 1))
  refine ⟨s2, _, fun Q => ?_, ClC_lo a2 (fun i q => b3 i (by omega)), b2, iI_layout hI (xs (i + 1))⟩
  simp only [k_W_law_128, k_W_law_129, k_W_law_130, k_W_law_131, k_W_law_132, k_W_law_133, k_W_law_133s, k_W_law_134, k_W_law_137, k_W_law_138, k_W_law_139, k_W_law_140, k_W_law_141, k_W_law_142, k_W_law_142s, k_W_law_143, k_W_law_146, k_W_law_149, k_W_law_150, rc_X, rc_M, a1, b1, d1, e1, am_ob_s, List.tail_cons, List.tail_nil, Option.toList_some, Option.toList_none, List.nil_append, List.cons_append, List.length_nil, List.length_cons, Nat.zero_le, true_and, and_true, true_implies, false_implies, not_true_eq_false, not_false_eq_true, implies_true, or_true, true_or, Nat.reduceAdd, Nat.reduceLeDiff]
set_option maxRecDepth 20000 in
theorem law_field {s : am_S} {Z : pSg} {i : Nat} (hL : L ≤ 2560) (hi : i + 5 ≤ L) (hC : ClC s Z) (hM : MdC s Z) (hI : iI Z) : lawS L xs i s 151 := by
  have d1 := law_sld (xs := xs) (show i + 1 < L by omega) hL
  have d2 := law_sld (xs := xs) (show i + 2 < L by omega) hL
  have d3 := law_sld (xs := xs) (show i + 3 < L by omega) hL
  have d4 := law_sld (xs := xs) (show i + 4 < L by omega) hL
  have e1 : nI i + 1 = nI (i + 1) := by rw [show (1 : Int32) = nI 1 from rfl, nI_add]
  have e2 : nI i + 2 = nI (i + 2) := by rw [show (2 : Int32) = nI 2 from rfl, nI_add]
  have e3 : nI i + 3 = nI (i + 3) := by rw [show (3 : Int32) = nI 3 from rfl, nI_add]
  have e4 : nI i + 4 = nI (i + 4) := by rw [show (4 : Int32) = nI 4 from rfl, nI_add]
  obtain ⟨s1, a1, a2, a3⟩ := e_X_field hC (fun i c hi hc k e he => (hI.2.1 i hi).1.2.1 c hc k e he) (xs (i + 1)) (xs (i + 2)) (xs (i + 3)) (xs (i + 4))
  obtain ⟨s2, b1, b2, b3⟩ := e_M_field (MdC_up hM (fun i q => a3 i (by omega))) (fun i c hi hc k e he => (hI.2.1 i hi).1.2.1 c hc k e he) (xs (i + 1)) (xs (i + 2)) (xs (i + 3)) (xs (i + 4))
  refine ⟨s2, _, fun Q => ?_, ClC_lo a2 (fun i q => b3 i (by omega)), b2, iI_field hI (xs (i + 1)) (xs (i + 2)) (xs (i + 3)) (xs (i + 4))⟩
  simp only [k_W_law_151, k_W_law_152, k_W_law_153, k_W_law_154, k_W_law_155, k_W_law_156, k_W_law_156s, k_W_law_157, k_W_law_158, k_W_law_159, k_W_law_160, k_W_law_161, k_W_law_161s, k_W_law_162, k_W_law_163, k_W_law_164, k_W_law_165, k_W_law_166, k_W_law_166s, k_W_law_167, k_W_law_168, k_W_law_169, k_W_law_170, k_W_law_171, k_W_law_171s, k_W_law_172, k_W_law_175, k_W_law_176, k_W_law_177, k_W_law_178, k_W_law_179, k_W_law_180, k_W_law_180s, k_W_law_181, k_W_law_182, k_W_law_183, k_W_law_184, k_W_law_185, k_W_law_185s, k_W_law_186, k_W_law_187, k_W_law_188, k_W_law_189, k_W_law_190, k_W_law_190s, k_W_law_191, k_W_law_192, k_W_law_193, k_W_law_194, k_W_law_195, k_W_law_195s, k_W_law_196, k_W_law_199, k_W_law_202, k_W_law_203, rc_X, rc_M, a1, b1, d1, d2, d3, d4, e1, e2, e3, e4, am_ob_s, List.tail_cons, List.tail_nil, Option.toList_some, Option.toList_none, List.nil_append, List.cons_append, List.length_nil, List.length_cons, Nat.zero_le, true_and, and_true, true_implies, false_implies, not_true_eq_false, not_false_eq_true, implies_true, or_true, true_or, Nat.reduceAdd, Nat.reduceLeDiff]
set_option maxRecDepth 20000 in
theorem law_head {s : am_S} {Z : pSg} {i : Nat} (hL : L ≤ 2560) (hi : i + 5 ≤ L) (hC : ClC s Z) (hM : MdC s Z) (hI : iI Z) : lawS L xs i s 204 := by
  have d1 := law_sld (xs := xs) (show i + 1 < L by omega) hL
  have d2 := law_sld (xs := xs) (show i + 2 < L by omega) hL
  have d3 := law_sld (xs := xs) (show i + 3 < L by omega) hL
  have d4 := law_sld (xs := xs) (show i + 4 < L by omega) hL
  have e1 : nI i + 1 = nI (i + 1) := by rw [show (1 : Int32) = nI 1 from rfl, nI_add]
  have e2 : nI i + 2 = nI (i + 2) := by rw [show (2 : Int32) = nI 2 from rfl, nI_add]
  have e3 : nI i + 3 = nI (i + 3) := by rw [show (3 : Int32) = nI 3 from rfl, nI_add]
  have e4 : nI i + 4 = nI (i + 4) := by rw [show (4 : Int32) = nI 4 from rfl, nI_add]
  obtain ⟨s1, a1, a2, a3⟩ := e_X_head hC (xs (i + 1)) (xs (i + 2)) (xs (i + 3)) (xs (i + 4))
  obtain ⟨s2, b1, b2, b3⟩ := e_M_head (MdC_up hM (fun i q => a3 i (by omega))) (xs (i + 1)) (xs (i + 2)) (xs (i + 3)) (xs (i + 4))
  refine ⟨s2, _, fun Q => ?_, ClC_lo a2 (fun i q => b3 i (by omega)), b2, iI_head hI (xs (i + 1)) (xs (i + 2)) (xs (i + 3)) (xs (i + 4))⟩
  simp only [k_W_law_204, k_W_law_205, k_W_law_206, k_W_law_207, k_W_law_208, k_W_law_209, k_W_law_209s, k_W_law_210, k_W_law_211, k_W_law_212, k_W_law_213, k_W_law_214, k_W_law_214s, k_W_law_215, k_W_law_216, k_W_law_217, k_W_law_218, k_W_law_219, k_W_law_219s, k_W_law_220, k_W_law_221, k_W_law_222, k_W_law_223, k_W_law_224, k_W_law_224s, k_W_law_225, k_W_law_228, k_W_law_229, k_W_law_230, k_W_law_231, k_W_law_232, k_W_law_233, k_W_law_233s, k_W_law_234, k_W_law_235, k_W_law_236, k_W_law_237, k_W_law_238, k_W_law_238s, k_W_law_239, k_W_law_240, k_W_law_241, k_W_law_242, k_W_law_243, k_W_law_243s, k_W_law_244, k_W_law_245, k_W_law_246, k_W_law_247, k_W_law_248, k_W_law_248s, k_W_law_249, k_W_law_252, k_W_law_255, k_W_law_256, rc_X, rc_M, a1, b1, d1, d2, d3, d4, e1, e2, e3, e4, am_ob_s, List.tail_cons, List.tail_nil, Option.toList_some, Option.toList_none, List.nil_append, List.cons_append, List.length_nil, List.length_cons, Nat.zero_le, true_and, and_true, true_implies, false_implies, not_true_eq_false, not_false_eq_true, implies_true, or_true, true_or, Nat.reduceAdd, Nat.reduceLeDiff]
set_option maxRecDepth 20000 in
theorem law_code {s : am_S} {Z : pSg} {i : Nat} (hL : L ≤ 2560) (hi : i + 5 ≤ L) (hC : ClC s Z) (hM : MdC s Z) (hI : iI Z) : lawS L xs i s 257 := by
  have d1 := law_sld (xs := xs) (show i + 1 < L by omega) hL
  have d2 := law_sld (xs := xs) (show i + 2 < L by omega) hL
  have d3 := law_sld (xs := xs) (show i + 3 < L by omega) hL
  have d4 := law_sld (xs := xs) (show i + 4 < L by omega) hL
  have e1 : nI i + 1 = nI (i + 1) := by rw [show (1 : Int32) = nI 1 from rfl, nI_add]
  have e2 : nI i + 2 = nI (i + 2) := by rw [show (2 : Int32) = nI 2 from rfl, nI_add]
  have e3 : nI i + 3 = nI (i + 3) := by rw [show (3 : Int32) = nI 3 from rfl, nI_add]
  have e4 : nI i + 4 = nI (i + 4) := by rw [show (4 : Int32) = nI 4 from rfl, nI_add]
  obtain ⟨s1, a1, a2, a3⟩ := e_X_code hC (xs (i + 1)) (xs (i + 2)) (xs (i + 3)) (xs (i + 4))
  obtain ⟨s2, b1, b2, b3⟩ := e_M_code (MdC_up hM (fun i q => a3 i (by omega))) (xs (i + 1)) (xs (i + 2)) (xs (i + 3)) (xs (i + 4))
  refine ⟨s2, _, fun Q => ?_, ClC_lo a2 (fun i q => b3 i (by omega)), b2, iI_code hI (xs (i + 1)) (xs (i + 2)) (xs (i + 3)) (xs (i + 4))⟩
  simp only [k_W_law_257, k_W_law_258, k_W_law_259, k_W_law_260, k_W_law_261, k_W_law_262, k_W_law_262s, k_W_law_263, k_W_law_264, k_W_law_265, k_W_law_266, k_W_law_267, k_W_law_267s, k_W_law_268, k_W_law_269, k_W_law_270, k_W_law_271, k_W_law_272, k_W_law_272s, k_W_law_273, k_W_law_274, k_W_law_275, k_W_law_276, k_W_law_277, k_W_law_277s, k_W_law_278, k_W_law_281, k_W_law_282, k_W_law_283, k_W_law_284, k_W_law_285, k_W_law_286, k_W_law_286s, k_W_law_287, k_W_law_288, k_W_law_289, k_W_law_290, k_W_law_291, k_W_law_291s, k_W_law_292, k_W_law_293, k_W_law_294, k_W_law_295, k_W_law_296, k_W_law_296s, k_W_law_297, k_W_law_298, k_W_law_299, k_W_law_300, k_W_law_301, k_W_law_301s, k_W_law_302, k_W_law_305, k_W_law_308, k_W_law_309, rc_X, rc_M, a1, b1, d1, d2, d3, d4, e1, e2, e3, e4, am_ob_s, List.tail_cons, List.tail_nil, Option.toList_some, Option.toList_none, List.nil_append, List.cons_append, List.length_nil, List.length_cons, Nat.zero_le, true_and, and_true, true_implies, false_implies, not_true_eq_false, not_false_eq_true, implies_true, or_true, true_or, Nat.reduceAdd, Nat.reduceLeDiff]
set_option maxRecDepth 20000 in
theorem law_drop {s : am_S} {Z : pSg} {i : Nat} (hL : L ≤ 2560) (hi : i + 5 ≤ L) (hC : ClC s Z) (hM : MdC s Z) (hI : iI Z) : lawS L xs i s 310 := by
  obtain ⟨s1, a1, a2, a3⟩ := e_X_drop hC 
  obtain ⟨s2, b1, b2, b3⟩ := e_M_drop (MdC_up hM (fun i q => a3 i (by omega))) 
  refine ⟨s2, _, fun Q => ?_, ClC_lo a2 (fun i q => b3 i (by omega)), b2, iI_drop hI ⟩
  simp only [k_W_law_310, k_W_law_311, k_W_law_314, k_W_law_315, k_W_law_318, k_W_law_321, k_W_law_322, rc_X, rc_M, a1, b1, am_ob_s, List.tail_cons, List.tail_nil, Option.toList_some, Option.toList_none, List.nil_append, List.cons_append, List.length_nil, List.length_cons, Nat.zero_le, true_and, and_true, true_implies, false_implies, not_true_eq_false, not_false_eq_true, implies_true, or_true, true_or, Nat.reduceAdd, Nat.reduceLeDiff]
set_option maxRecDepth 20000 in
theorem law_commit {s : am_S} {Z : pSg} {i : Nat} (hL : L ≤ 2560) (hi : i + 5 ≤ L) (hC : ClC s Z) (hM : MdC s Z) (hI : iI Z) : lawS L xs i s 323 := by
  obtain ⟨s1, a1, a2, a3⟩ := e_X_commit (I := iI) (fun _ h => iI_cdA h) (fun _ h => iI_ap1 h) hC hI.1.1.1 (hI.2.1 _ (Nat.le_refl _)).1.1 (fun h _ => iI_add hI h) 
  obtain ⟨s2, b1, b2, b3⟩ := e_M_commit (I := iI) (fun _ h => iI_cdM h) (fun _ h => iI_ap1 h) (MdC_up hM (fun i q => a3 i (by omega))) hI.1.1.1 hI.1.1.2.1 (hI.2.1 _ (Nat.le_refl _)).1.1 (fun h _ => iI_add hI h) 
  refine ⟨s2, _, fun Q => ?_, ClC_lo a2 (fun i q => b3 i (by omega)), b2, iI_commit hI ⟩
  simp only [k_W_law_323, k_W_law_324, k_W_law_327, k_W_law_328, k_W_law_331, k_W_law_334, k_W_law_335, rc_X, rc_M, a1, b1, am_ob_s, List.tail_cons, List.tail_nil, Option.toList_some, Option.toList_none, List.nil_append, List.cons_append, List.length_nil, List.length_cons, Nat.zero_le, true_and, and_true, true_implies, false_implies, not_true_eq_false, not_false_eq_true, implies_true, or_true, true_or, Nat.reduceAdd, Nat.reduceLeDiff]
set_option maxRecDepth 20000 in
theorem law_waiting {s : am_S} {Z : pSg} {i : Nat} (hL : L ≤ 2560) (hi : i + 5 ≤ L) (hC : ClC s Z) (hM : MdC s Z) (hI : iI Z) : lawS L xs i s 336 := by
  refine ⟨s, Z, fun Q => ?_, hC, hM, hI⟩
  have a1 := fun (Q : Option Value → am_H → Prop) => e_X_waiting  (Q := Q) hC 
  have b1 := fun (Q : Option Value → am_H → Prop) => e_M_waiting (Q := Q) hM 
  simp only [k_W_law_336, k_W_law_337, k_W_law_340, k_W_law_341, k_W_law_344, k_W_law_347, k_W_law_348, rc_X, rc_M, a1, b1, am_ob_s, List.tail_cons, List.tail_nil, Option.toList_some, Option.toList_none, List.nil_append, List.cons_append, List.length_nil, List.length_cons, Nat.zero_le, true_and, and_true, true_implies, false_implies, not_true_eq_false, not_false_eq_true, implies_true, or_true, true_or, Nat.reduceAdd, Nat.reduceLeDiff]
set_option maxRecDepth 20000 in
theorem law_restricted {s : am_S} {Z : pSg} {i : Nat} (hL : L ≤ 2560) (hi : i + 5 ≤ L) (hC : ClC s Z) (hM : MdC s Z) (hI : iI Z) : lawS L xs i s 349 := by
  refine ⟨s, Z, fun Q => ?_, hC, hM, hI⟩
  have a1 := fun (Q : Option Value → am_H → Prop) => e_X_restricted  (Q := Q) hC 
  have b1 := fun (Q : Option Value → am_H → Prop) => e_M_restricted (Q := Q) hM 
  simp only [k_W_law_349, k_W_law_350, k_W_law_353, k_W_law_354, k_W_law_357, k_W_law_360, k_W_law_361, rc_X, rc_M, a1, b1, am_ob_s, List.tail_cons, List.tail_nil, Option.toList_some, Option.toList_none, List.nil_append, List.cons_append, List.length_nil, List.length_cons, Nat.zero_le, true_and, and_true, true_implies, false_implies, not_true_eq_false, not_false_eq_true, implies_true, or_true, true_or, Nat.reduceAdd, Nat.reduceLeDiff]
set_option maxRecDepth 20000 in
theorem law_applied {s : am_S} {Z : pSg} {i : Nat} (hL : L ≤ 2560) (hi : i + 5 ≤ L) (hC : ClC s Z) (hM : MdC s Z) (hI : iI Z) : lawS L xs i s 362 := by
  refine ⟨s, Z, fun Q => ?_, hC, hM, hI⟩
  have a1 := fun (Q : Option Value → am_H → Prop) => e_X_applied  (Q := Q) hC 
  have b1 := fun (Q : Option Value → am_H → Prop) => e_M_applied (Q := Q) hM 
  simp only [k_W_law_362, k_W_law_363, k_W_law_366, k_W_law_367, k_W_law_370, k_W_law_373, k_W_law_374, rc_X, rc_M, a1, b1, am_ob_s, List.tail_cons, List.tail_nil, Option.toList_some, Option.toList_none, List.nil_append, List.cons_append, List.length_nil, List.length_cons, Nat.zero_le, true_and, and_true, true_implies, false_implies, not_true_eq_false, not_false_eq_true, implies_true, or_true, true_or, Nat.reduceAdd, Nat.reduceLeDiff]
set_option maxRecDepth 20000 in
theorem law_moved {s : am_S} {Z : pSg} {i : Nat} (hL : L ≤ 2560) (hi : i + 5 ≤ L) (hC : ClC s Z) (hM : MdC s Z) (hI : iI Z) : lawS L xs i s 375 := by
  refine ⟨s, Z, fun Q => ?_, hC, hM, hI⟩
  have a1 := fun (Q : Option Value → am_H → Prop) => e_X_moved  (Q := Q) hC 
  have b1 := fun (Q : Option Value → am_H → Prop) => e_M_moved (Q := Q) hM 
  simp only [k_W_law_375, k_W_law_376, k_W_law_379, k_W_law_380, k_W_law_383, k_W_law_386, k_W_law_387, rc_X, rc_M, a1, b1, am_ob_s, List.tail_cons, List.tail_nil, Option.toList_some, Option.toList_none, List.nil_append, List.cons_append, List.length_nil, List.length_cons, Nat.zero_le, true_and, and_true, true_implies, false_implies, not_true_eq_false, not_false_eq_true, implies_true, or_true, true_or, Nat.reduceAdd, Nat.reduceLeDiff]
set_option maxRecDepth 20000 in
theorem law_start {s : am_S} {Z : pSg} {i : Nat} (hL : L ≤ 2560) (hi : i + 5 ≤ L) (hC : ClC s Z) (hM : MdC s Z) (hI : iI Z) : lawS L xs i s 388 := by
  have d1 := law_sld (xs := xs) (show i + 1 < L by omega) hL
  have e1 : nI i + 1 = nI (i + 1) := by rw [show (1 : Int32) = nI 1 from rfl, nI_add]
  obtain ⟨s1, a1, a2, a3⟩ := e_X_start hC (hI.2.1 0 (by omega)).1.1 (xs (i + 1))
  obtain ⟨s2, b1, b2, b3⟩ := e_M_start (MdC_up hM (fun i q => a3 i (by omega))) (hI.2.1 0 (by omega)).1.1 (xs (i + 1))
  refine ⟨s2, _, fun Q => ?_, ClC_lo a2 (fun i q => b3 i (by omega)), b2, iI_start hI (xs (i + 1))⟩
  simp only [k_W_law_388, k_W_law_389, k_W_law_390, k_W_law_391, k_W_law_392, k_W_law_393, k_W_law_393s, k_W_law_394, k_W_law_397, k_W_law_398, k_W_law_399, k_W_law_400, k_W_law_401, k_W_law_402, k_W_law_402s, k_W_law_403, k_W_law_406, k_W_law_409, k_W_law_410, rc_X, rc_M, a1, b1, d1, e1, am_ob_s, List.tail_cons, List.tail_nil, Option.toList_some, Option.toList_none, List.nil_append, List.cons_append, List.length_nil, List.length_cons, Nat.zero_le, true_and, and_true, true_implies, false_implies, not_true_eq_false, not_false_eq_true, implies_true, or_true, true_or, Nat.reduceAdd, Nat.reduceLeDiff]
set_option maxRecDepth 20000 in
theorem law_run {s : am_S} {Z : pSg} {i : Nat} (hL : L ≤ 2560) (hi : i + 5 ≤ L) (hC : ClC s Z) (hM : MdC s Z) (hI : iI Z) : lawS L xs i s 411 := by
  have d1 := law_sld (xs := xs) (show i + 1 < L by omega) hL
  have e1 : nI i + 1 = nI (i + 1) := by rw [show (1 : Int32) = nI 1 from rfl, nI_add]
  obtain ⟨s1, a1, a2, a3⟩ := e_X_run (I := iI) (fun _ h => ⟨iI_cdA h, (h.2.1 0 (by omega)).1.1⟩) (fun _ h => iI_ap1 h) (fun _ h q => iI_step h q) (fun _ h => iI_ap 3 h) hC hI (xs (i + 1))
  obtain ⟨s2, b1, b2, b3⟩ := e_M_run (I := iI) (fun _ h => ⟨iI_cdM h, (h.2.1 0 (by omega)).1.1⟩) (fun _ h => iI_ap1 h) (fun _ h q => iI_step h q) (fun _ h => iI_ap 3 h) (MdC_up hM (fun i q => a3 i (by omega))) hI (xs (i + 1))
  refine ⟨s2, _, fun Q => ?_, ClC_lo a2 (fun i q => b3 i (by omega)), b2, iI_run hI (xs (i + 1))⟩
  simp only [k_W_law_411, k_W_law_412, k_W_law_413, k_W_law_414, k_W_law_415, k_W_law_416, k_W_law_416s, k_W_law_417, k_W_law_420, k_W_law_421, k_W_law_422, k_W_law_423, k_W_law_424, k_W_law_425, k_W_law_425s, k_W_law_426, k_W_law_429, k_W_law_432, k_W_law_433, rc_X, rc_M, a1, b1, d1, e1, am_ob_s, List.tail_cons, List.tail_nil, Option.toList_some, Option.toList_none, List.nil_append, List.cons_append, List.length_nil, List.length_cons, Nat.zero_le, true_and, and_true, true_implies, false_implies, not_true_eq_false, not_false_eq_true, implies_true, or_true, true_or, Nat.reduceAdd, Nat.reduceLeDiff]
set_option maxRecDepth 20000 in
theorem law_status {s : am_S} {Z : pSg} {i : Nat} (hL : L ≤ 2560) (hi : i + 5 ≤ L) (hC : ClC s Z) (hM : MdC s Z) (hI : iI Z) : lawS L xs i s 434 := by
  refine ⟨s, Z, fun Q => ?_, hC, hM, hI⟩
  have a1 := fun (Q : Option Value → am_H → Prop) => e_X_status  (Q := Q) hC 
  have b1 := fun (Q : Option Value → am_H → Prop) => e_M_status (Q := Q) hM 
  simp only [k_W_law_434, k_W_law_435, k_W_law_438, k_W_law_439, k_W_law_442, k_W_law_445, k_W_law_446, rc_X, rc_M, a1, b1, am_ob_s, List.tail_cons, List.tail_nil, Option.toList_some, Option.toList_none, List.nil_append, List.cons_append, List.length_nil, List.length_cons, Nat.zero_le, true_and, and_true, true_implies, false_implies, not_true_eq_false, not_false_eq_true, implies_true, or_true, true_or, Nat.reduceAdd, Nat.reduceLeDiff]
set_option maxRecDepth 20000 in
theorem law_result {s : am_S} {Z : pSg} {i : Nat} (hL : L ≤ 2560) (hi : i + 5 ≤ L) (hC : ClC s Z) (hM : MdC s Z) (hI : iI Z) : lawS L xs i s 447 := by
  refine ⟨s, Z, fun Q => ?_, hC, hM, hI⟩
  have a1 := fun (Q : Option Value → am_H → Prop) => e_X_result  (Q := Q) hC 
  have b1 := fun (Q : Option Value → am_H → Prop) => e_M_result (Q := Q) hM hI.2.2.2.2.2.2.2 
  simp only [k_W_law_447, k_W_law_448, k_W_law_451, k_W_law_452, k_W_law_455, k_W_law_458, k_W_law_459, rc_X, rc_M, a1, b1, am_ob_s, List.tail_cons, List.tail_nil, Option.toList_some, Option.toList_none, List.nil_append, List.cons_append, List.length_nil, List.length_cons, Nat.zero_le, true_and, and_true, true_implies, false_implies, not_true_eq_false, not_false_eq_true, implies_true, or_true, true_or, Nat.reduceAdd, Nat.reduceLeDiff]
set_option maxRecDepth 20000 in
theorem law_depth {s : am_S} {Z : pSg} {i : Nat} (hL : L ≤ 2560) (hi : i + 5 ≤ L) (hC : ClC s Z) (hM : MdC s Z) (hI : iI Z) : lawS L xs i s 460 := by
  refine ⟨s, Z, fun Q => ?_, hC, hM, hI⟩
  have a1 := fun (Q : Option Value → am_H → Prop) => e_X_depth  (Q := Q) hC 
  have b1 := fun (Q : Option Value → am_H → Prop) => e_M_depth (Q := Q) hM 
  simp only [k_W_law_460, k_W_law_461, k_W_law_464, k_W_law_465, k_W_law_468, k_W_law_471, k_W_law_472, rc_X, rc_M, a1, b1, am_ob_s, List.tail_cons, List.tail_nil, Option.toList_some, Option.toList_none, List.nil_append, List.cons_append, List.length_nil, List.length_cons, Nat.zero_le, true_and, and_true, true_implies, false_implies, not_true_eq_false, not_false_eq_true, implies_true, or_true, true_or, Nat.reduceAdd, Nat.reduceLeDiff]
set_option maxRecDepth 20000 in
theorem law_frame {s : am_S} {Z : pSg} {i : Nat} (hL : L ≤ 2560) (hi : i + 5 ≤ L) (hC : ClC s Z) (hM : MdC s Z) (hI : iI Z) : lawS L xs i s 473 := by
  have d1 := law_sld (xs := xs) (show i + 1 < L by omega) hL
  have e1 : nI i + 1 = nI (i + 1) := by rw [show (1 : Int32) = nI 1 from rfl, nI_add]
  refine ⟨s, Z, fun Q => ?_, hC, hM, hI⟩
  have a1 := fun (Q : Option Value → am_H → Prop) => e_X_frame  (Q := Q) hC (xs (i + 1))
  have b1 := fun (Q : Option Value → am_H → Prop) => e_M_frame (Q := Q) hM (xs (i + 1))
  simp only [k_W_law_473, k_W_law_474, k_W_law_475, k_W_law_476, k_W_law_477, k_W_law_478, k_W_law_478s, k_W_law_479, k_W_law_482, k_W_law_483, k_W_law_484, k_W_law_485, k_W_law_486, k_W_law_487, k_W_law_487s, k_W_law_488, k_W_law_491, k_W_law_494, k_W_law_495, rc_X, rc_M, a1, b1, d1, e1, am_ob_s, List.tail_cons, List.tail_nil, Option.toList_some, Option.toList_none, List.nil_append, List.cons_append, List.length_nil, List.length_cons, Nat.zero_le, true_and, and_true, true_implies, false_implies, not_true_eq_false, not_false_eq_true, implies_true, or_true, true_or, Nat.reduceAdd, Nat.reduceLeDiff]
set_option maxRecDepth 20000 in
theorem law_objects {s : am_S} {Z : pSg} {i : Nat} (hL : L ≤ 2560) (hi : i + 5 ≤ L) (hC : ClC s Z) (hM : MdC s Z) (hI : iI Z) : lawS L xs i s 496 := by
  refine ⟨s, Z, fun Q => ?_, hC, hM, hI⟩
  have a1 := fun (Q : Option Value → am_H → Prop) => e_X_objects  (Q := Q) hC 
  have b1 := fun (Q : Option Value → am_H → Prop) => e_M_objects (Q := Q) hM 
  simp only [k_W_law_496, k_W_law_497, k_W_law_500, k_W_law_501, k_W_law_504, k_W_law_507, k_W_law_508, rc_X, rc_M, a1, b1, am_ob_s, List.tail_cons, List.tail_nil, Option.toList_some, Option.toList_none, List.nil_append, List.cons_append, List.length_nil, List.length_cons, Nat.zero_le, true_and, and_true, true_implies, false_implies, not_true_eq_false, not_false_eq_true, implies_true, or_true, true_or, Nat.reduceAdd, Nat.reduceLeDiff]
set_option maxRecDepth 20000 in
theorem law_output {s : am_S} {Z : pSg} {i : Nat} (hL : L ≤ 2560) (hi : i + 5 ≤ L) (hC : ClC s Z) (hM : MdC s Z) (hI : iI Z) : lawS L xs i s 509 := by
  have d1 := law_sld (xs := xs) (show i + 1 < L by omega) hL
  have e1 : nI i + 1 = nI (i + 1) := by rw [show (1 : Int32) = nI 1 from rfl, nI_add]
  refine ⟨s, Z, fun Q => ?_, hC, hM, hI⟩
  have a1 := fun (Q : Option Value → am_H → Prop) => e_X_output  (Q := Q) hC (xs (i + 1))
  have b1 := fun (Q : Option Value → am_H → Prop) => e_M_output (Q := Q) hM (xs (i + 1))
  simp only [k_W_law_509, k_W_law_510, k_W_law_511, k_W_law_512, k_W_law_513, k_W_law_514, k_W_law_514s, k_W_law_515, k_W_law_518, k_W_law_519, k_W_law_520, k_W_law_521, k_W_law_522, k_W_law_523, k_W_law_523s, k_W_law_524, k_W_law_527, k_W_law_530, k_W_law_531, rc_X, rc_M, a1, b1, d1, e1, am_ob_s, List.tail_cons, List.tail_nil, Option.toList_some, Option.toList_none, List.nil_append, List.cons_append, List.length_nil, List.length_cons, Nat.zero_le, true_and, and_true, true_implies, false_implies, not_true_eq_false, not_false_eq_true, implies_true, or_true, true_or, Nat.reduceAdd, Nat.reduceLeDiff]
set_option maxRecDepth 20000 in
theorem law_outputs {s : am_S} {Z : pSg} {i : Nat} (hL : L ≤ 2560) (hi : i + 5 ≤ L) (hC : ClC s Z) (hM : MdC s Z) (hI : iI Z) : lawS L xs i s 532 := by
  refine ⟨s, Z, fun Q => ?_, hC, hM, hI⟩
  have a1 := fun (Q : Option Value → am_H → Prop) => e_X_outputs  (Q := Q) hC 
  have b1 := fun (Q : Option Value → am_H → Prop) => e_M_outputs (Q := Q) hM 
  simp only [k_W_law_532, k_W_law_533, k_W_law_536, k_W_law_537, k_W_law_540, k_W_law_543, k_W_law_544, rc_X, rc_M, a1, b1, am_ob_s, List.tail_cons, List.tail_nil, Option.toList_some, Option.toList_none, List.nil_append, List.cons_append, List.length_nil, List.length_cons, Nat.zero_le, true_and, and_true, true_implies, false_implies, not_true_eq_false, not_false_eq_true, implies_true, or_true, true_or, Nat.reduceAdd, Nat.reduceLeDiff]
set_option maxRecDepth 20000 in
theorem law_shape {s : am_S} {Z : pSg} {i : Nat} (hL : L ≤ 2560) (hi : i + 5 ≤ L) (hC : ClC s Z) (hM : MdC s Z) (hI : iI Z) : lawS L xs i s 545 := by
  have d1 := law_sld (xs := xs) (show i + 1 < L by omega) hL
  have d2 := law_sld (xs := xs) (show i + 2 < L by omega) hL
  have e1 : nI i + 1 = nI (i + 1) := by rw [show (1 : Int32) = nI 1 from rfl, nI_add]
  have e2 : nI i + 2 = nI (i + 2) := by rw [show (2 : Int32) = nI 2 from rfl, nI_add]
  refine ⟨s, Z, fun Q => ?_, hC, hM, hI⟩
  have a1 := fun (Q : Option Value → am_H → Prop) => e_X_shape  (Q := Q) hC (xs (i + 1)) (xs (i + 2))
  have b1 := fun (Q : Option Value → am_H → Prop) => e_M_shape (Q := Q) hM (xs (i + 1)) (xs (i + 2))
  simp only [k_W_law_545, k_W_law_546, k_W_law_547, k_W_law_548, k_W_law_549, k_W_law_550, k_W_law_550s, k_W_law_551, k_W_law_552, k_W_law_553, k_W_law_554, k_W_law_555, k_W_law_555s, k_W_law_556, k_W_law_559, k_W_law_560, k_W_law_561, k_W_law_562, k_W_law_563, k_W_law_564, k_W_law_564s, k_W_law_565, k_W_law_566, k_W_law_567, k_W_law_568, k_W_law_569, k_W_law_569s, k_W_law_570, k_W_law_573, k_W_law_576, k_W_law_577, rc_X, rc_M, a1, b1, d1, d2, e1, e2, am_ob_s, List.tail_cons, List.tail_nil, Option.toList_some, Option.toList_none, List.nil_append, List.cons_append, List.length_nil, List.length_cons, Nat.zero_le, true_and, and_true, true_implies, false_implies, not_true_eq_false, not_false_eq_true, implies_true, or_true, true_or, Nat.reduceAdd, Nat.reduceLeDiff]
set_option maxRecDepth 20000 in
theorem law_loop (hL : L ≤ 2560) : ∀ (r i : Nat), L ≤ i + 5 * r → i ≤ 2600 → ∀ (s : am_S) (Z : pSg), ClC s Z → MdC s Z → iI Z → am_W (m_W_law L xs) 18 [.retAddr 0, .ref 0, .ref 308, .int (nI i)] [] (TP, s) lawQ := by
  have fin : ∀ (i : Nat) (s : am_S), i ≤ 2600 → L < i + 5 → am_W (m_W_law L xs) 18 [.retAddr 0, .ref 0, .ref 308, .int (nI i)] [] (TP, s) lawQ := fun i s hi h => by
    have z : nI L - 5 < nI i := (law_end hL (by omega)).mpr h
    have eL : Int32.ofNat L = nI L := rfl
    simp only [k_W_law_18, k_W_law_19, k_W_law_20, k_W_law_21, k_W_law_22, k_W_law_23, k_W_law_584, k_W_law_585, eL, z, am_ob_s, List.tail_cons, List.tail_nil, Option.toList_some, Option.toList_none, List.nil_append, List.cons_append, List.length_nil, List.length_cons, Nat.zero_le, true_and, and_true, true_implies, false_implies, not_true_eq_false, not_false_eq_true, implies_true, or_true, true_or, Nat.reduceAdd, Nat.reduceLeDiff]
    exact ⟨rfl, law_fits⟩
  intro r
  induction r with
  | zero =>
    intro i h hi s Z _ _ _
    exact fin i s hi (by omega)
  | succ r ih =>
    intro i h hi s Z hC hM hI
    by_cases q : L < i + 5
    · exact fin i s hi q
    · have z : ¬ nI L - 5 < nI i := fun w => q ((law_end hL (by omega)).mp w)
      have eL : Int32.ofNat L = nI L := rfl
      have d0 := law_sld (xs := xs) (show i < L by omega) hL
      have go : ∀ pc, am_tsw 32 546 0 19 #[96, 119, 172, 225, 278, 291, 304, 317, 330, 343, 356, 379, 402, 415, 428, 441, 464, 477, 500, 513] (xs i &&& 31) = pc → lawS L xs i s pc → am_W (m_W_law L xs) 18 [.retAddr 0, .ref 0, .ref 308, .int (nI i)] [] (TP, s) lawQ := fun pc hpc hS => by
        obtain ⟨s', Z', a1, a2, a3, a4⟩ := hS
        have e5 : nI i + 5 = nI (i + 5) := by rw [show (5 : Int32) = nI 5 from rfl, nI_add]
        simp only [k_W_law_18, k_W_law_19, k_W_law_20, k_W_law_21, k_W_law_22, k_W_law_23, k_W_law_26, k_W_law_27, k_W_law_28, k_W_law_28s, k_W_law_29, k_W_law_31, k_W_law_32, eL, z, d0, hpc, am_ob_s, List.tail_cons, List.tail_nil, Option.toList_some, Option.toList_none, List.nil_append, List.cons_append, List.length_nil, List.length_cons, Nat.zero_le, true_and, and_true, true_implies, false_implies, not_true_eq_false, not_false_eq_true, implies_true, or_true, true_or, Nat.reduceAdd, Nat.reduceLeDiff]
        rw [a1]
        simp only [k_W_law_578, k_W_law_581, e5, am_ob_s, List.tail_cons, List.tail_nil, Option.toList_some, Option.toList_none, List.nil_append, List.cons_append, List.length_nil, List.length_cons, Nat.zero_le, true_and, and_true, true_implies, false_implies, not_true_eq_false, not_false_eq_true, implies_true, or_true, true_or, Nat.reduceAdd, Nat.reduceLeDiff]
        exact ih (i + 5) (by omega) (by omega) s' Z' a2 a3 a4
      have hi5 : i + 5 ≤ L := by omega
      obtain ⟨o, ho, eo⟩ : ∃ o, o < 2 ^ 5 ∧ xs i &&& 31 = nI o := pk_andE (xs i) 5 (by decide)
      have ho : o < 32 := ho
      rw [eo] at go
      rcases (show o = 0 ∨ o = 1 ∨ o = 2 ∨ o = 3 ∨ o = 4 ∨ o = 5 ∨ o = 6 ∨ o = 7 ∨ o = 8 ∨ o = 9 ∨ o = 10 ∨ o = 11 ∨ o = 12 ∨ o = 13 ∨ o = 14 ∨ o = 15 ∨ o = 16 ∨ o = 17 ∨ o = 18 ∨ o = 19 ∨ 20 ≤ o by omega) with rfl | rfl | rfl | rfl | rfl | rfl | rfl | rfl | rfl | rfl | rfl | rfl | rfl | rfl | rfl | rfl | rfl | rfl | rfl | rfl | ho20
      · exact go 128 (by decide) (law_layout hL hi5 hC hM hI)
      · exact go 151 (by decide) (law_field hL hi5 hC hM hI)
      · exact go 204 (by decide) (law_head hL hi5 hC hM hI)
      · exact go 257 (by decide) (law_code hL hi5 hC hM hI)
      · exact go 310 (by decide) (law_drop hL hi5 hC hM hI)
      · exact go 323 (by decide) (law_commit hL hi5 hC hM hI)
      · exact go 336 (by decide) (law_waiting hL hi5 hC hM hI)
      · exact go 349 (by decide) (law_restricted hL hi5 hC hM hI)
      · exact go 362 (by decide) (law_applied hL hi5 hC hM hI)
      · exact go 375 (by decide) (law_moved hL hi5 hC hM hI)
      · exact go 388 (by decide) (law_start hL hi5 hC hM hI)
      · exact go 411 (by decide) (law_run hL hi5 hC hM hI)
      · exact go 434 (by decide) (law_status hL hi5 hC hM hI)
      · exact go 447 (by decide) (law_result hL hi5 hC hM hI)
      · exact go 460 (by decide) (law_depth hL hi5 hC hM hI)
      · exact go 473 (by decide) (law_frame hL hi5 hC hM hI)
      · exact go 496 (by decide) (law_objects hL hi5 hC hM hI)
      · exact go 509 (by decide) (law_output hL hi5 hC hM hI)
      · exact go 532 (by decide) (law_outputs hL hi5 hC hM hI)
      · exact go 545 (by decide) (law_shape hL hi5 hC hM hI)
      · refine go 578 ?_ ⟨s, Z, fun Q => Iff.rfl, hC, hM, hI⟩
        have : ∀ o, o < 32 → 20 ≤ o → am_tsw 32 546 0 19 #[96, 119, 172, 225, 278, 291, 304, 317, 330, 343, 356, 379, 402, 415, 428, 441, 464, 477, 500, 513] (nI o) = 578 := by decide +kernel
        exact this o ho ho20
end SW
