/-! The class: its state, the draft -/
/-- draft, programs (present at 0, then those that wait), how many wait, runs, applied, moved -/
abbrev pSg : Type := pPg × (Nat → pPg) × Nat × pMc × Int32 × Int32
def ClC (s : am_S) (Z : pSg) : Prop := ∃ f, f < 4 ∧ s 50 1 = nI f ∧ s 50 2 = nI Z.2.2.1 ∧ Z.2.2.1 ≤ 3 ∧ PgC s 1 Z.1 ∧ (∀ i, i ≤ Z.2.2.1 → PgC s (52 + 49 * ((f + i) % 4)) (Z.2.1 i)) ∧ RnC s Z.2.2.2.1 ∧ s 0 4 = Z.2.2.2.2.1 ∧ s 0 5 = Z.2.2.2.2.2 ∧ ∃ σ, CkC s σ
def xS (f : am_F) (as : List Value) (s : am_S) (r : Int32 × pSg) : Prop := ∃ s', (∀ Q : Option Value → am_H → Prop, am_C f as (TP, s) Q ↔ Q (some (.int r.1)) (TP, s')) ∧ ClC s' r.2 ∧ off 0 308 s s'
theorem CkC_same {s s' : am_S} {σ : List Int32 × Bool} (h : CkC s σ) (e : sameOn 248 250 s s') : CkC s' σ := by
  unfold CkC
  rw [e 248 (by omega) (by omega), e 249 (by omega) (by omega)]
  exact h
theorem ClC_draft {s s' : am_S} {Z : pSg} {D : pPg} (h : ClC s Z) (hO : off 1 50 s s') (hD : PgC s' 1 D) : ClC s' (D, Z.2) := by
  obtain ⟨f, h1, h2, h3, h4, h5, h6, h7, h8, h9, σ, h10⟩ := h
  refine ⟨f, h1, by rw [hO 50 (by omega)]; exact h2, by rw [hO 50 (by omega)]; exact h3, h4, hD, fun i hi => PgC_same (h6 i hi) (fun x g1 g2 => hO x (by omega)), RnC_same h7 (fun x g1 g2 => hO x (by omega)), by rw [hO 0 (by omega)]; exact h8, by rw [hO 0 (by omega)]; exact h9, σ, CkC_same h10 (fun x g1 g2 => hO x (by omega))⟩
theorem PgC_ly {s s' : am_S} {p c : Nat} {G : pPg} {L : pLy} (h : PgC s p G) (hc : c < 4) (hO : off (p + 3 + 4 * c) (p + 3 + 4 * c + 4) s s') (hL : LyC s' (p + 3 + 4 * c) L) : PgC s' p (pSt G.1 c L, G.2) := by
  obtain ⟨h1, h2, h3, h4, h5⟩ := h
  have e0 := hO p (by omega)
  refine ⟨fun d hd => ?_, fun m hm => RoC_same (h2 m hm) (fun i g1 g2 => hO i (by omega)), by rw [e0]; exact h3, by rw [e0]; exact h4, by rw [e0]; exact h5⟩
  dsimp only
  by_cases e : d = c
  · rw [e, pSt_s]
    exact hL
  · rw [pSt_n e]
    exact LyC_same (h1 d hd) (fun i g1 g2 => hO i (by omega))
theorem PgC_ro {s s' : am_S} {p c : Nat} {G : pPg} {L : pRo} (h : PgC s p G) (hc : c < 6) (hO : off (p + 19 + 5 * c) (p + 19 + 5 * c + 5) s s') (hL : RoC s' (p + 19 + 5 * c) L) : PgC s' p (G.1, pSt G.2.1 c L, G.2.2) := by
  obtain ⟨h1, h2, h3, h4, h5⟩ := h
  have e0 := hO p (by omega)
  refine ⟨fun d hd => LyC_same (h1 d hd) (fun i g1 g2 => hO i (by omega)), fun m hm => ?_, by rw [e0]; exact h3, by rw [e0]; exact h4, by rw [e0]; exact h5⟩
  dsimp only
  by_cases e : m = c
  · rw [e, pSt_s]
    exact hL
  · rw [pSt_n e]
    exact RoC_same (h2 m hm) (fun i g1 g2 => hO i (by omega))
theorem PgC_tc {s : am_S} {p : Nat} {G : pPg} (h : PgC s p G) (v : Int32) : PgC (am_wr s p 2 v) p (G.1, G.2.1, v, G.2.2.2) := by
  obtain ⟨h1, h2, h3, h4, h5⟩ := h
  exact ⟨fun d hd => LyC_same (h1 d hd) (fun i g1 g2 => am_wr_row _ (by omega)), fun m hm => RoC_same (h2 m hm) (fun i g1 g2 => am_wr_row _ (by omega)), am_wr_self _ _ _ _, by rw [am_wr_col _ (by omega)]; exact h4, by rw [am_wr_col _ (by omega)]; exact h5⟩
theorem PgC_tm {s : am_S} {p : Nat} {G : pPg} (h : PgC s p G) (v : Int32) : PgC (am_wr s p 3 v) p (G.1, G.2.1, G.2.2.1, v, G.2.2.2.2) := by
  obtain ⟨h1, h2, h3, h4, h5⟩ := h
  exact ⟨fun d hd => LyC_same (h1 d hd) (fun i g1 g2 => am_wr_row _ (by omega)), fun m hm => RoC_same (h2 m hm) (fun i g1 g2 => am_wr_row _ (by omega)), by rw [am_wr_col _ (by omega)]; exact h3, am_wr_self _ _ _ _, by rw [am_wr_col _ (by omega)]; exact h5⟩
theorem PgC_br {s : am_S} {p : Nat} {G : pPg} (h : PgC s p G) (v : Int32) : PgC (am_wr s p 4 v) p (G.1, G.2.1, G.2.2.1, G.2.2.2.1, v) := by
  obtain ⟨h1, h2, h3, h4, h5⟩ := h
  exact ⟨fun d hd => LyC_same (h1 d hd) (fun i g1 g2 => am_wr_row _ (by omega)), fun m hm => RoC_same (h2 m hm) (fun i g1 g2 => am_wr_row _ (by omega)), by rw [am_wr_col _ (by omega)]; exact h3, by rw [am_wr_col _ (by omega)]; exact h4, am_wr_self _ _ _ _⟩
theorem app_at {α : Type} {L : List α} {a e : α} {k : Nat} (h : (L ++ [a])[k]? = some e) : (k < L.length ∧ L[k]? = some e) ∨ (k = L.length ∧ e = a) := by
  by_cases q : k < L.length
  · rw [List.getElem?_append_left q] at h
    exact Or.inl ⟨q, h⟩
  · have h2 := (List.getElem?_eq_some_iff.mp h).1
    rw [List.length_append, List.length_singleton] at h2
    have h3 : k = L.length := by omega
    subst h3
    rw [List.getElem?_append_right (Nat.le_refl _)] at h
    refine Or.inr ⟨rfl, ?_⟩
    have : a = e := by simpa using h
    exact this.symm
theorem LyC_add {s : am_S} {b : Nat} {L : pLy} (h : LyC s b L) (h4 : L.length < 4) (n t : Nat) (z : Int32) : LyC (am_wr (am_wr (am_wr (am_wr s (b + 1) L.length (nI n)) (b + 2) L.length (nI t)) (b + 3) L.length z) b 3 (nI (L.length + 1))) b (L ++ [(n, t, z)]) := by
  refine ⟨by rw [am_wr_self, List.length_append, List.length_singleton], by rw [List.length_append, List.length_singleton]; omega, fun k e hk => ?_⟩
  rcases app_at hk with ⟨q1, q2⟩ | ⟨rfl, rfl⟩
  · have z := h.2.2 k e q2
    have hk' : k ≠ L.length := by omega
    simp only [am_wr_at]
    simp [hk', z]
  · simp [am_wr_at]
theorem RoC_add {s : am_S} {b : Nat} {R : pRo} (h : RoC s b R) (h4 : R.2.2.2.length < 14) (o : Nat) (x : Int32) (y : Nat) : RoC (am_wr (am_wr (am_wr (am_wr s (b + 2) R.2.2.2.length (nI o)) (b + 3) R.2.2.2.length x) (b + 4) R.2.2.2.length (nI y)) b 6 (nI (R.2.2.2.length + 1))) b (R.1, R.2.1, R.2.2.1, R.2.2.2 ++ [(o, x, y)]) := by
  obtain ⟨h1, h2, h3, h5, h6, h7⟩ := h
  have w : ∀ k, k ≠ 6 → am_wr (am_wr (am_wr (am_wr s (b + 2) R.2.2.2.length (nI o)) (b + 3) R.2.2.2.length x) (b + 4) R.2.2.2.length (nI y)) b 6 (nI (R.2.2.2.length + 1)) b k = s b k := fun k hk => by
    rw [am_wr_col _ hk, am_wr_row _ (by omega), am_wr_row _ (by omega), am_wr_row _ (by omega)]
  refine ⟨by rw [w 4 (by omega)]; exact h1, fun i hi => ?_, by rw [w 5 (by omega)]; exact h3, by rw [am_wr_self, List.length_append, List.length_singleton], by rw [List.length_append, List.length_singleton]; omega, fun k e hk => ?_⟩
  · rw [am_wr_row (i' := b + 1) _ (by omega), am_wr_row (i' := b + 1) _ (by omega), am_wr_row (i' := b + 1) _ (by omega), am_wr_row (i' := b + 1) _ (by omega)]
    exact h2 i hi
  rcases app_at hk with ⟨q1, q2⟩ | ⟨rfl, rfl⟩
  · have z := h7 k e q2
    have hk' : k ≠ R.2.2.2.length := by omega
    simp only [am_wr_at]
    simp [hk', z]
  · simp [am_wr_at]
def isC (c : Int32) : Prop := ¬ c < 1 ∧ ¬ 3 < c
def isN (c : Int32) : Prop := ¬ c < 0 ∧ ¬ 9 < c
def isT (c : Int32) : Prop := c = 0 ∨ isC c
def isM (c : Int32) : Prop := ¬ c < 0 ∧ ¬ 6 ≤ c
def cN (c : Int32) : Nat := c.toNatClampNeg
theorem cN_nI {k : Nat} (h : k < 1000) : cN (nI k) = k := nI_clamp (by omega)
theorem isC_n {c : Int32} (h : isC c) : c = nI (cN c) ∧ 1 ≤ cN c ∧ cN c ≤ 3 := by
  obtain ⟨h1, h2⟩ := h
  obtain ⟨k, hk, rfl⟩ := nI_of (fun q : c < 0 => h1 (Int32.lt_trans q (by decide)))
  have q1 : ¬ k < 1 := fun q => h1 (nI_lt (b := 1) q (by decide))
  have q2 : ¬ 3 < k := fun q => h2 (nI_lt (a := 3) q hk)
  rw [cN_nI (by omega)]
  exact ⟨rfl, by omega, by omega⟩
theorem isN_n {c : Int32} (h : isN c) : c = nI (cN c) ∧ cN c ≤ 9 := by
  obtain ⟨h1, h2⟩ := h
  obtain ⟨k, hk, rfl⟩ := nI_of h1
  have q2 : ¬ 9 < k := fun q => h2 (nI_lt (a := 9) q hk)
  rw [cN_nI (by omega)]
  exact ⟨rfl, by omega⟩
theorem isT_n {c : Int32} (h : isT c) : c = nI (cN c) ∧ cN c ≤ 3 := by
  rcases h with rfl | h
  · decide
  · have := isC_n h
    exact ⟨this.1, this.2.2⟩
theorem isM_n {c : Int32} (h : isM c) : c = nI (cN c) ∧ cN c < 6 := by
  obtain ⟨h1, h2⟩ := h
  obtain ⟨k, hk, rfl⟩ := nI_of h1
  have q2 : ¬ 6 ≤ k := fun q => h2 (nI_le (a := 6) q hk)
  rw [cN_nI (by omega)]
  exact ⟨rfl, by omega⟩
section SX
variable {s : am_S} {Z : pSg} {h : am_H} {Q : Option Value → am_H → Prop}
theorem e_X_isClass (c : Int32) : am_C f_X_isClass [.int c] h Q ↔ Q (some (.int (zb (isC c)))) h := by
  rw [c_X_isClass]
  by_cases h1 : c < 1
  · rw [zb_f (fun q => q.1 h1)]
    simp only [k_X_isClass_0, k_X_isClass_1, k_X_isClass_2, k_X_isClass_5, k_X_isClass_6, k_X_isClass_7, k_X_isClass_10, k_X_isClass_11, k_X_isClass_14, k_X_isClass_15, h1, am_ob_s, List.tail_cons, List.tail_nil, Option.toList_some, Option.toList_none, List.nil_append, List.cons_append, List.length_nil, List.length_cons, Nat.zero_le, true_and, and_true, true_implies, false_implies, not_true_eq_false, not_false_eq_true, implies_true, or_true, true_or, Nat.reduceAdd, Nat.reduceLeDiff]
  · by_cases h2 : 3 < c
    · rw [zb_f (fun q => q.2 h2)]
      simp only [k_X_isClass_0, k_X_isClass_1, k_X_isClass_2, k_X_isClass_5, k_X_isClass_6, k_X_isClass_7, k_X_isClass_10, k_X_isClass_11, k_X_isClass_14, k_X_isClass_15, h1, h2, am_ob_s, List.tail_cons, List.tail_nil, Option.toList_some, Option.toList_none, List.nil_append, List.cons_append, List.length_nil, List.length_cons, Nat.zero_le, true_and, and_true, true_implies, false_implies, not_true_eq_false, not_false_eq_true, implies_true, or_true, true_or, Nat.reduceAdd, Nat.reduceLeDiff]
    · rw [zb_t ⟨h1, h2⟩]
      simp only [k_X_isClass_0, k_X_isClass_1, k_X_isClass_2, k_X_isClass_5, k_X_isClass_6, k_X_isClass_7, k_X_isClass_10, k_X_isClass_11, k_X_isClass_14, k_X_isClass_15, h1, h2, am_ob_s, List.tail_cons, List.tail_nil, Option.toList_some, Option.toList_none, List.nil_append, List.cons_append, List.length_nil, List.length_cons, Nat.zero_le, true_and, and_true, true_implies, false_implies, not_true_eq_false, not_false_eq_true, implies_true, or_true, true_or, Nat.reduceAdd, Nat.reduceLeDiff]
theorem e_X_isName (c : Int32) : am_C f_X_isName [.int c] h Q ↔ Q (some (.int (zb (isN c)))) h := by
  rw [c_X_isName]
  by_cases h1 : c < 0
  · rw [zb_f (fun q => q.1 h1)]
    simp only [k_X_isName_0, k_X_isName_1, k_X_isName_4, k_X_isName_5, k_X_isName_7, k_X_isName_10, k_X_isName_11, k_X_isName_14, k_X_isName_15, h1, am_ob_s, List.tail_cons, List.tail_nil, Option.toList_some, Option.toList_none, List.nil_append, List.cons_append, List.length_nil, List.length_cons, Nat.zero_le, true_and, and_true, true_implies, false_implies, not_true_eq_false, not_false_eq_true, implies_true, or_true, true_or, Nat.reduceAdd, Nat.reduceLeDiff]
  · by_cases h2 : 9 < c
    · rw [zb_f (fun q => q.2 h2)]
      simp only [k_X_isName_0, k_X_isName_1, k_X_isName_4, k_X_isName_5, k_X_isName_7, k_X_isName_10, k_X_isName_11, k_X_isName_14, k_X_isName_15, h1, h2, am_ob_s, List.tail_cons, List.tail_nil, Option.toList_some, Option.toList_none, List.nil_append, List.cons_append, List.length_nil, List.length_cons, Nat.zero_le, true_and, and_true, true_implies, false_implies, not_true_eq_false, not_false_eq_true, implies_true, or_true, true_or, Nat.reduceAdd, Nat.reduceLeDiff]
    · rw [zb_t ⟨h1, h2⟩]
      simp only [k_X_isName_0, k_X_isName_1, k_X_isName_4, k_X_isName_5, k_X_isName_7, k_X_isName_10, k_X_isName_11, k_X_isName_14, k_X_isName_15, h1, h2, am_ob_s, List.tail_cons, List.tail_nil, Option.toList_some, Option.toList_none, List.nil_append, List.cons_append, List.length_nil, List.length_cons, Nat.zero_le, true_and, and_true, true_implies, false_implies, not_true_eq_false, not_false_eq_true, implies_true, or_true, true_or, Nat.reduceAdd, Nat.reduceLeDiff]
theorem e_X_isMethod (c : Int32) : am_C f_X_isMethod [.int c] h Q ↔ Q (some (.int (zb (isM c)))) h := by
  rw [c_X_isMethod]
  by_cases h1 : c < 0
  · rw [zb_f (fun q => q.1 h1)]
    simp only [k_X_isMethod_0, k_X_isMethod_1, k_X_isMethod_4, k_X_isMethod_5, k_X_isMethod_7, k_X_isMethod_10, k_X_isMethod_11, k_X_isMethod_14, k_X_isMethod_15, h1, am_ob_s, List.tail_cons, List.tail_nil, Option.toList_some, Option.toList_none, List.nil_append, List.cons_append, List.length_nil, List.length_cons, Nat.zero_le, true_and, and_true, true_implies, false_implies, not_true_eq_false, not_false_eq_true, implies_true, or_true, true_or, Nat.reduceAdd, Nat.reduceLeDiff]
  · by_cases h2 : 6 ≤ c
    · rw [zb_f (fun q => q.2 h2)]
      simp only [k_X_isMethod_0, k_X_isMethod_1, k_X_isMethod_4, k_X_isMethod_5, k_X_isMethod_7, k_X_isMethod_10, k_X_isMethod_11, k_X_isMethod_14, k_X_isMethod_15, h1, h2, am_ob_s, List.tail_cons, List.tail_nil, Option.toList_some, Option.toList_none, List.nil_append, List.cons_append, List.length_nil, List.length_cons, Nat.zero_le, true_and, and_true, true_implies, false_implies, not_true_eq_false, not_false_eq_true, implies_true, or_true, true_or, Nat.reduceAdd, Nat.reduceLeDiff]
    · rw [zb_t ⟨h1, h2⟩]
      simp only [k_X_isMethod_0, k_X_isMethod_1, k_X_isMethod_4, k_X_isMethod_5, k_X_isMethod_7, k_X_isMethod_10, k_X_isMethod_11, k_X_isMethod_14, k_X_isMethod_15, h1, h2, am_ob_s, List.tail_cons, List.tail_nil, Option.toList_some, Option.toList_none, List.nil_append, List.cons_append, List.length_nil, List.length_cons, Nat.zero_le, true_and, and_true, true_implies, false_implies, not_true_eq_false, not_false_eq_true, implies_true, or_true, true_or, Nat.reduceAdd, Nat.reduceLeDiff]
theorem e_X_isType (c : Int32) : am_C f_X_isType [.int c] h Q ↔ Q (some (.int (zb (isT c)))) h := by
  rw [c_X_isType]
  by_cases h1 : c = 0
  · rw [zb_t (p := isT c) (Or.inl h1)]
    simp only [k_X_isType_0, k_X_isType_1, k_X_isType_4, k_X_isType_5, k_X_isType_8, k_X_isType_11, k_X_isType_12, k_X_isType_15, k_X_isType_16, h1, am_ob_s, List.tail_cons, List.tail_nil, Option.toList_some, Option.toList_none, List.nil_append, List.cons_append, List.length_nil, List.length_cons, Nat.zero_le, true_and, and_true, true_implies, false_implies, not_true_eq_false, not_false_eq_true, implies_true, or_true, true_or, Nat.reduceAdd, Nat.reduceLeDiff]
  · by_cases h2 : isC c
    · rw [zb_t (p := isT c) (Or.inr h2)]
      simp only [k_X_isType_0, k_X_isType_1, k_X_isType_4, k_X_isType_5, k_X_isType_8, k_X_isType_11, k_X_isType_12, k_X_isType_15, k_X_isType_16, h1, rc_n, e_X_isClass, zb_t h2, hz10, am_ob_s, List.tail_cons, List.tail_nil, Option.toList_some, Option.toList_none, List.nil_append, List.cons_append, List.length_nil, List.length_cons, Nat.zero_le, true_and, and_true, true_implies, false_implies, not_true_eq_false, not_false_eq_true, implies_true, or_true, true_or, Nat.reduceAdd, Nat.reduceLeDiff]
    · rw [zb_f (fun q => q.elim h1 h2)]
      simp only [k_X_isType_0, k_X_isType_1, k_X_isType_4, k_X_isType_5, k_X_isType_8, k_X_isType_11, k_X_isType_12, k_X_isType_15, k_X_isType_16, h1, rc_n, e_X_isClass, zb_f h2, am_ob_s, List.tail_cons, List.tail_nil, Option.toList_some, Option.toList_none, List.nil_append, List.cons_append, List.length_nil, List.length_cons, Nat.zero_le, true_and, and_true, true_implies, false_implies, not_true_eq_false, not_false_eq_true, implies_true, or_true, true_or, Nat.reduceAdd, Nat.reduceLeDiff]
theorem b1P : 1 ∈ bsP := by simp [bsP]
noncomputable def pLayout (Z : pSg) (c : Int32) : Int32 × pSg := zif (isC c) (1, (pSt Z.1.1 (cN c) [], Z.1.2.1, Z.1.2.2.1 ||| ((1 : Int32) <<< (c &&& 31)), Z.1.2.2.2), Z.2) (0, Z)
theorem e_X_layout (hZ : ClC s Z) (c : Int32) : xS f_X_layout [.ref 0, .int c] s (pLayout Z c) := by
  unfold pLayout
  by_cases hc : isC c
  · rw [zif_t hc]
    obtain ⟨e, k1, k3⟩ := isC_n hc
    have hD : PgC s 1 Z.1 := by obtain ⟨f, h1, h2, h3, h4, h5, h6⟩ := hZ; exact h5
    have h4 : cN c < 4 := by omega
    have hL : LyC (am_wr s (1 + 3 + 4 * cN c) 3 0) (1 + 3 + 4 * cN c) [] := ⟨am_wr_self _ _ _ _, by simp, fun k e hk => by simp at hk⟩
    have d1 := PgC_ly hD h4 (off_wr _ (by omega) (by omega)) hL
    have d2 := PgC_tc d1 (Z.1.2.2.1 ||| ((1 : Int32) <<< (c &&& 31)))
    have o : off 1 50 s (am_wr (am_wr s (1 + 3 + 4 * cN c) 3 0) 1 2 (Z.1.2.2.1 ||| ((1 : Int32) <<< (c &&& 31)))) := off_tr (off_wr _ (by omega) (by omega)) (off_wr _ (by omega) (by omega))
    refine ⟨_, fun Q => ?_, ClC_draft hZ o d2, off_up o (by omega) (by omega)⟩
    rw [c_X_layout]
    have ec := fun (Q : Option Value → am_H → Prop) => e_P_clearClass (s := s) (Q := Q) b1P h4
    rw [← e, hD.2.2.1] at ec
    simp only [k_X_layout_0, k_X_layout_1, k_X_layout_4, k_X_layout_7, k_X_layout_8, k_X_layout_9, k_X_layout_10, k_X_layout_13, k_X_layout_14, k_X_layout_17, k_X_layout_18, rc_n, e_X_isClass, zb_t hc, hz10, g_X0, rc_P b1P, ec, am_ob_s, List.tail_cons, List.tail_nil, Option.toList_some, Option.toList_none, List.nil_append, List.cons_append, List.length_nil, List.length_cons, Nat.zero_le, true_and, and_true, true_implies, false_implies, not_true_eq_false, not_false_eq_true, implies_true, or_true, true_or, Nat.reduceAdd, Nat.reduceLeDiff]
  · rw [zif_f hc]
    refine ⟨s, fun Q => ?_, hZ, off_rf _ _ _⟩
    rw [c_X_layout]
    simp only [k_X_layout_0, k_X_layout_1, k_X_layout_4, k_X_layout_7, k_X_layout_8, k_X_layout_9, k_X_layout_10, k_X_layout_13, k_X_layout_14, k_X_layout_17, k_X_layout_18, rc_n, e_X_isClass, zb_f hc, am_ob_s, List.tail_cons, List.tail_nil, Option.toList_some, Option.toList_none, List.nil_append, List.cons_append, List.length_nil, List.length_cons, Nat.zero_le, true_and, and_true, true_implies, false_implies, not_true_eq_false, not_false_eq_true, implies_true, or_true, true_or, Nat.reduceAdd, Nat.reduceLeDiff]
end SX
