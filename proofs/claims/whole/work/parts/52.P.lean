/-! Program, PatchLine -/
/-- rows outside lo .. hi are the same -/
def off (lo hi : Nat) (s s' : am_S) : Prop := ∀ i, i < lo ∨ hi ≤ i → s' i = s i
theorem off_rf (lo hi : Nat) (s : am_S) : off lo hi s s := fun _ _ => rfl
theorem off_tr {lo hi : Nat} {s1 s2 s3 : am_S} (a : off lo hi s1 s2) (b : off lo hi s2 s3) : off lo hi s1 s3 := fun i h => (b i h).trans (a i h)
theorem off_up {lo hi lo' hi' : Nat} {s s' : am_S} (h : off lo hi s s') (h1 : lo' ≤ lo) (h2 : hi ≤ hi') : off lo' hi' s s' := fun i q => h i (by omega)
theorem off_wr {lo hi i k : Nat} {v : Int32} (s : am_S) (h1 : lo ≤ i) (h2 : i < hi) : off lo hi s (am_wr s i k v) := fun j q => am_wr_row s (by omega)
theorem off_cp {lo hi a b n : Nat} (s : am_S) (h1 : lo ≤ b) (h2 : b < hi) : off lo hi s (am_cp s a 0 b 0 n) := fun j q => by
  unfold am_cp
  rw [if_neg (by omega)]
theorem off_same {lo hi lo' hi' : Nat} {s s' : am_S} (h : off lo hi s s') (hd : hi' ≤ lo ∨ hi ≤ lo') : sameOn lo' hi' s s' := fun i h1 h2 => h i (by omega)
theorem cp_self {s : am_S} {a b n k : Nat} (h : k < n) : am_cp s a 0 b 0 n b k = s a k := by
  unfold am_cp va_cpy
  rw [if_pos rfl, if_pos (by omega)]
  congr 1
  omega
theorem cp_ne {s : am_S} {a b n i : Nat} (h : i ≠ b) : am_cp s a 0 b 0 n i = s i := by
  unfold am_cp
  rw [if_neg h]
theorem cpL_off (s : am_S) (a b : Nat) : off b (b + 4) s (cpL s a b) := by
  unfold cpL
  exact off_tr (off_tr (off_tr (off_wr s (by omega) (by omega)) (off_cp _ (by omega) (by omega))) (off_cp _ (by omega) (by omega))) (off_cp _ (by omega) (by omega))
theorem cpL_ly {s : am_S} {a b : Nat} {L : pLy} (hd : a + 4 ≤ b ∨ b + 4 ≤ a) (h : LyC s a L) : LyC (cpL s a b) b L := by
  obtain ⟨h1, h2, h3⟩ := h
  refine ⟨?_, h2, fun k e hk => ?_⟩
  · unfold cpL
    rw [cp_ne (by omega), cp_ne (by omega), cp_ne (by omega), am_wr_self]
    exact h1
  · have hk4 : k < 4 := by have := (List.getElem?_eq_some_iff.mp hk).1; omega
    obtain ⟨e1, e2, e3⟩ := h3 k e hk
    unfold cpL
    refine ⟨?_, ?_, ?_⟩
    · rw [cp_ne (by omega), cp_ne (by omega), cp_self hk4, am_wr_row _ (by omega)]
      exact e1
    · rw [cp_ne (by omega), cp_self hk4, cp_ne (by omega), am_wr_row _ (by omega)]
      exact e2
    · rw [cp_self hk4, cp_ne (by omega), cp_ne (by omega), am_wr_row _ (by omega)]
      exact e3
theorem cpR_off (s : am_S) (a b : Nat) : off b (b + 5) s (cpR s a b) := by
  unfold cpR
  exact off_tr (off_tr (off_tr (off_tr (off_tr (off_tr (off_wr s (by omega) (by omega)) (off_wr _ (by omega) (by omega))) (off_wr _ (by omega) (by omega))) (off_cp _ (by omega) (by omega))) (off_cp _ (by omega) (by omega))) (off_cp _ (by omega) (by omega))) (off_cp _ (by omega) (by omega))
theorem cpR_ro {s : am_S} {a b : Nat} {R : pRo} (hd : a + 5 ≤ b ∨ b + 5 ≤ a) (h : RoC s a R) : RoC (cpR s a b) b R := by
  obtain ⟨h1, h2, h3, h4, h5, h6⟩ := h
  refine ⟨?_, fun i hi => ?_, ?_, ?_, h5, fun k e hk => ?_⟩
  · unfold cpR
    rw [cp_ne (by omega), cp_ne (by omega), cp_ne (by omega), cp_ne (by omega), am_wr_col _ (by omega), am_wr_col _ (by omega), am_wr_self]
    exact h1
  · unfold cpR
    rw [cp_ne (by omega), cp_ne (by omega), cp_ne (by omega), cp_self hi, am_wr_row _ (by omega), am_wr_row _ (by omega), am_wr_row _ (by omega)]
    exact h2 i hi
  · unfold cpR
    rw [cp_ne (by omega), cp_ne (by omega), cp_ne (by omega), cp_ne (by omega), am_wr_col _ (by omega), am_wr_self]
    exact h3
  · unfold cpR
    rw [cp_ne (by omega), cp_ne (by omega), cp_ne (by omega), cp_ne (by omega), am_wr_self]
    exact h4
  · have hk4 : k < 14 := by have := (List.getElem?_eq_some_iff.mp hk).1; omega
    obtain ⟨e1, e2, e3⟩ := h6 k e hk
    unfold cpR
    refine ⟨?_, ?_, ?_⟩
    · rw [cp_ne (by omega), cp_ne (by omega), cp_self hk4, cp_ne (by omega), am_wr_row _ (by omega), am_wr_row _ (by omega), am_wr_row _ (by omega)]
      exact e1
    · rw [cp_ne (by omega), cp_self hk4, cp_ne (by omega), cp_ne (by omega), am_wr_row _ (by omega), am_wr_row _ (by omega), am_wr_row _ (by omega)]
      exact e2
    · rw [cp_self hk4, cp_ne (by omega), cp_ne (by omega), cp_ne (by omega), am_wr_row _ (by omega), am_wr_row _ (by omega), am_wr_row _ (by omega)]
      exact e3
def cpLs (s : am_S) (p q : Nat) : Nat → am_S
  | 0 => s
  | j + 1 => cpL (cpLs s p q j) (p + 3 + 4 * j) (q + 3 + 4 * j)
def cpRs (s : am_S) (p q : Nat) : Nat → am_S
  | 0 => s
  | j + 1 => cpR (cpRs s p q j) (p + 19 + 5 * j) (q + 19 + 5 * j)
theorem cpLs_off (s : am_S) (p q : Nat) : ∀ j, off (q + 3) (q + 3 + 4 * j) s (cpLs s p q j)
  | 0 => off_rf _ _ _
  | j + 1 => off_tr (off_up (cpLs_off s p q j) (Nat.le_refl _) (by omega)) (off_up (cpL_off _ _ _) (by omega) (by omega))
theorem cpRs_off (s : am_S) (p q : Nat) : ∀ j, off (q + 19) (q + 19 + 5 * j) s (cpRs s p q j)
  | 0 => off_rf _ _ _
  | j + 1 => off_tr (off_up (cpRs_off s p q j) (Nat.le_refl _) (by omega)) (off_up (cpR_off _ _ _) (by omega) (by omega))
theorem cpLs_ly {s : am_S} {p q : Nat} (hd : p + 49 ≤ q ∨ q + 49 ≤ p) {G : Nat → pLy} : ∀ j, j ≤ 4 → (∀ c, c < j → LyC s (p + 3 + 4 * c) (G c)) → ∀ c, c < j → LyC (cpLs s p q j) (q + 3 + 4 * c) (G c)
  | 0, _, _, c, hc => by omega
  | j + 1, hj, h, c, hc => by
    by_cases hcj : c = j
    · subst hcj
      exact cpL_ly (by omega) (LyC_same (h c hc) (off_same (cpLs_off s p q c) (by omega)))
    · exact LyC_same (cpLs_ly hd j (by omega) (fun c hc => h c (by omega)) c (by omega)) (off_same (cpL_off _ _ _) (by omega))
theorem cpRs_ro {s : am_S} {p q : Nat} (hd : p + 49 ≤ q ∨ q + 49 ≤ p) {G : Nat → pRo} : ∀ j, j ≤ 6 → (∀ c, c < j → RoC s (p + 19 + 5 * c) (G c)) → ∀ c, c < j → RoC (cpRs s p q j) (q + 19 + 5 * c) (G c)
  | 0, _, _, c, hc => by omega
  | j + 1, hj, h, c, hc => by
    by_cases hcj : c = j
    · subst hcj
      exact cpR_ro (by omega) (RoC_same (h c hc) (off_same (cpRs_off s p q c) (by omega)))
    · exact RoC_same (cpRs_ro hd j (by omega) (fun c hc => h c (by omega)) c (by omega)) (off_same (cpR_off _ _ _) (by omega))
/-- a program is copied from p to q -/
def cpP (s : am_S) (p q : Nat) : am_S := am_wr (am_wr (am_wr (cpRs (cpLs s p q 4) p q 6) q 2 (s p 2)) q 3 (s p 3)) q 4 (s p 4)
theorem cpP_off (s : am_S) (p q : Nat) : off q (q + 49) s (cpP s p q) := by
  unfold cpP
  exact off_tr (off_tr (off_tr (off_tr (off_up (cpLs_off s p q 4) (by omega) (by omega)) (off_up (cpRs_off _ p q 6) (by omega) (by omega))) (off_wr _ (by omega) (by omega))) (off_wr _ (by omega) (by omega))) (off_wr _ (by omega) (by omega))
theorem cpP_pg {s : am_S} {p q : Nat} {G : pPg} (hd : p + 49 ≤ q ∨ q + 49 ≤ p) (h : PgC s p G) : PgC (cpP s p q) q G := by
  obtain ⟨h1, h2, h3, h4, h5⟩ := h
  have w1 : ∀ (s : am_S), sameOn (q + 3) (q + 49) s (am_wr (am_wr (am_wr s q 2 (s p 2)) q 3 (s p 3)) q 4 (s p 4)) := fun s i g1 g2 => by
    rw [am_wr_row _ (by omega), am_wr_row _ (by omega), am_wr_row _ (by omega)]
  have w2 : sameOn (q + 3) (q + 49) (cpRs (cpLs s p q 4) p q 6) (cpP s p q) := fun i g1 g2 => by
    unfold cpP
    rw [am_wr_row _ (by omega), am_wr_row _ (by omega), am_wr_row _ (by omega)]
  refine ⟨fun c hc => ?_, fun m hm => ?_, ?_, ?_, ?_⟩
  · refine LyC_same (LyC_same (cpLs_ly hd 4 (Nat.le_refl _) h1 c hc) (off_same (cpRs_off _ p q 6) (by omega))) (fun i g1 g2 => w2 i (by omega) (by omega))
  · refine RoC_same (cpRs_ro hd 6 (Nat.le_refl _) (fun m hm => RoC_same (h2 m hm) (off_same (cpLs_off s p q 4) (by omega))) m hm) (fun i g1 g2 => w2 i (by omega) (by omega))
  · unfold cpP
    rw [am_wr_col _ (by omega), am_wr_col _ (by omega), am_wr_self]
    exact h3
  · unfold cpP
    rw [am_wr_col _ (by omega), am_wr_self]
    exact h4
  · unfold cpP
    rw [am_wr_self]
    exact h5
theorem bsP_d {p q : Nat} (hp : p ∈ bsP) (hq : q ∈ bsP) (h : p ≠ q) : p + 49 ≤ q ∨ q + 49 ≤ p := by
  simp only [bsP, List.mem_cons, List.not_mem_nil, or_false] at hp hq
  omega
section SP
variable {s : am_S} {p q : Nat} {Q : Option Value → am_H → Prop}
theorem e_P_touchesClass (hp : p ∈ bsP) (c : Int32) : am_C f_P_touchesClass [.ref p, .int c] (TP, s) Q ↔ Q (some (.int (zb (tbit (s p 2) c = true)))) (TP, s) := by
  rw [c_P_touchesClass]
  simp only [k_P_touchesClass_0, k_P_touchesClass_1, k_P_touchesClass_4, k_P_touchesClass_5, k_P_touchesClass_6, k_P_touchesClass_7, k_P_touchesClass_8, k_P_touchesClass_11, k_P_touchesClass_12, k_P_touchesClass_15, k_P_touchesClass_16, g_P2 hp, am_ob_s, List.tail_cons, List.tail_nil, Option.toList_some, Option.toList_none, List.nil_append, List.cons_append, List.length_nil, List.length_cons, Nat.zero_le, true_and, and_true, true_implies, false_implies, not_true_eq_false, not_false_eq_true, implies_true]
  by_cases h : (s p 2 >>> (c &&& 31)) &&& 1 = 0
  · simp [h, tbit, zb_F]
  · simp [h, tbit, zb_T]
theorem e_P_touchesMethod (hp : p ∈ bsP) (c : Int32) : am_C f_P_touchesMethod [.ref p, .int c] (TP, s) Q ↔ Q (some (.int (zb (tbit (s p 3) c = true)))) (TP, s) := by
  rw [c_P_touchesMethod]
  simp only [k_P_touchesMethod_0, k_P_touchesMethod_1, k_P_touchesMethod_4, k_P_touchesMethod_5, k_P_touchesMethod_6, k_P_touchesMethod_7, k_P_touchesMethod_8, k_P_touchesMethod_11, k_P_touchesMethod_12, k_P_touchesMethod_15, k_P_touchesMethod_16, g_P3 hp, am_ob_s, List.tail_cons, List.tail_nil, Option.toList_some, Option.toList_none, List.nil_append, List.cons_append, List.length_nil, List.length_cons, Nat.zero_le, true_and, and_true, true_implies, false_implies, not_true_eq_false, not_false_eq_true, implies_true]
  by_cases h : (s p 3 >>> (c &&& 31)) &&& 1 = 0
  · simp [h, tbit, zb_F]
  · simp [h, tbit, zb_T]
theorem e_P_touchesAnything (hp : p ∈ bsP) : am_C f_P_touchesAnything [.ref p] (TP, s) Q ↔ Q (some (.int (zb (¬ (s p 2 = 0 ∧ s p 3 = 0))))) (TP, s) := by
  rw [c_P_touchesAnything]
  simp only [k_P_touchesAnything_0, k_P_touchesAnything_1, k_P_touchesAnything_4, k_P_touchesAnything_7, k_P_touchesAnything_8, k_P_touchesAnything_11, k_P_touchesAnything_14, k_P_touchesAnything_15, k_P_touchesAnything_18, k_P_touchesAnything_19, g_P2 hp, g_P3 hp, am_ob_s, List.tail_cons, List.tail_nil, Option.toList_some, Option.toList_none, List.nil_append, List.cons_append, List.length_nil, List.length_cons, Nat.zero_le, true_and, and_true, true_implies, false_implies, not_true_eq_false, not_false_eq_true, implies_true]
  by_cases h : s p 2 = 0
  · by_cases h2 : s p 3 = 0
    · simp [h, h2, zb_F]
    · simp [h, h2, zb_T]
  · simp [h, zb_T]
theorem e_P_clearClass (hp : p ∈ bsP) {c : Nat} (hc : c < 4) : am_C f_P_clearClass [.ref p, .int (nI c)] (TP, s) Q ↔ Q none (TP, am_wr (am_wr s (p + 3 + 4 * c) 3 0) p 2 (s p 2 ||| ((1 : Int32) <<< (nI c &&& 31)))) := by
  rw [c_P_clearClass]
  have hL := bP_L hp hc
  have r1 : am_wr s (p + 3 + 4 * c) 3 0 p 2 = s p 2 := by rw [am_wr_row _ (by omega)]
  simp only [k_P_clearClass_0, k_P_clearClass_1, k_P_clearClass_4, k_P_clearClass_5, k_P_clearClass_6, k_P_clearClass_9, k_P_clearClass_10, k_P_clearClass_10i, k_P_clearClass_11, k_P_clearClass_14, k_P_clearClass_15, k_P_clearClass_16, k_P_clearClass_17, k_P_clearClass_18, k_P_clearClass_21, g_P0 hp, a_Pl hp hc, rc_L hL, e_L_clear hL, g_P2 hp, p_P2 hp, r1, am_ob_s, List.tail_cons, List.tail_nil, Option.toList_some, Option.toList_none, List.nil_append, List.cons_append, List.length_nil, List.length_cons, Nat.zero_le, true_and, and_true, true_implies, false_implies, not_true_eq_false, not_false_eq_true, implies_true]
theorem e_P_copy (hp : p ∈ bsP) (hq : q ∈ bsP) (hpq : p ≠ q) : am_C f_P_copy [.ref q, .ref p] (TP, s) Q ↔ Q none (TP, cpP s p q) := by
  rw [c_P_copy]
  have hd := bsP_d hp hq hpq
  have l1 : ∀ (r j : Nat), j + r = 4 → ∀ jk : List Value, am_W m_P_copy 2 (.ref q :: .ref p :: .int (nI j) :: jk) [] (TP, cpLs s p q j) Q ↔ am_W m_P_copy 28 (.ref q :: .ref p :: .int 4 :: jk) [] (TP, cpLs s p q 4) Q := by
    intro r
    induction r with
    | zero =>
      intro j hj jk
      have : j = 4 := by omega
      subst this
      rw [k_P_copy_2]
      have h1 : (3 : Int32) < nI 4 := by decide
      simp only [k_P_copy_3, k_P_copy_4, h1, am_ob_s, List.tail_cons, List.tail_nil, Option.toList_some, Option.toList_none, List.nil_append, List.cons_append, List.length_nil, List.length_cons, Nat.zero_le, true_and, and_true, true_implies, false_implies, not_true_eq_false, not_false_eq_true, implies_true]
      rfl
    | succ r ih =>
      intro j hj jk
      rw [k_P_copy_2]
      have h1 : ¬ (3 : Int32) < nI j := nI_nlt (b := j) (a := 3) (by omega) (by decide)
      simp only [k_P_copy_3, k_P_copy_4, k_P_copy_7, k_P_copy_8, k_P_copy_11, k_P_copy_12, k_P_copy_13, k_P_copy_14, k_P_copy_17, k_P_copy_18, k_P_copy_19, k_P_copy_22, k_P_copy_25, h1, g_P0 hp, g_P0 hq, a_Pl hp (show j < 4 by omega), a_Pl hq (show j < 4 by omega), rc_L (bP_L hq (show j < 4 by omega)), e_L_copy (bP_L hp (show j < 4 by omega)) (bP_L hq (show j < 4 by omega)), nI_1, am_ob_s, List.tail_cons, List.tail_nil, Option.toList_some, Option.toList_none, List.nil_append, List.cons_append, List.length_nil, List.length_cons, Nat.zero_le, true_and, and_true, true_implies, false_implies, not_true_eq_false, not_false_eq_true, implies_true]
      exact ih (j + 1) (by omega) jk
  have l2 : ∀ (s0 : am_S) (r j : Nat), j + r = 6 → ∀ jk : List Value, am_W m_P_copy 30 (.ref q :: .ref p :: .int (nI j) :: jk) [] (TP, cpRs s0 p q j) Q ↔ am_W m_P_copy 57 (.ref q :: .ref p :: .int 6 :: jk) [] (TP, cpRs s0 p q 6) Q := by
    intro s0 r
    induction r with
    | zero =>
      intro j hj jk
      have : j = 6 := by omega
      subst this
      rw [k_P_copy_30]
      have h1 : (6 : Int32) ≤ nI 6 := by decide
      simp only [k_P_copy_31, k_P_copy_33, h1, am_ob_s, List.tail_cons, List.tail_nil, Option.toList_some, Option.toList_none, List.nil_append, List.cons_append, List.length_nil, List.length_cons, Nat.zero_le, true_and, and_true, true_implies, false_implies, not_true_eq_false, not_false_eq_true, implies_true]
      rfl
    | succ r ih =>
      intro j hj jk
      rw [k_P_copy_30]
      have h1 : ¬ (6 : Int32) ≤ nI j := nI_ge (a := j) (b := 6) (by omega) (by decide)
      simp only [k_P_copy_31, k_P_copy_33, k_P_copy_36, k_P_copy_37, k_P_copy_40, k_P_copy_41, k_P_copy_42, k_P_copy_43, k_P_copy_46, k_P_copy_47, k_P_copy_48, k_P_copy_51, k_P_copy_54, h1, g_P1 hp, g_P1 hq, a_Pr hp (show j < 6 by omega), a_Pr hq (show j < 6 by omega), rc_R (bP_R hq (show j < 6 by omega)), e_R_copy (bP_R hp (show j < 6 by omega)) (bP_R hq (show j < 6 by omega)) (show p + 19 + 5 * j ≠ q + 19 + 5 * j by omega), nI_1, am_ob_s, List.tail_cons, List.tail_nil, Option.toList_some, Option.toList_none, List.nil_append, List.cons_append, List.length_nil, List.length_cons, Nat.zero_le, true_and, and_true, true_implies, false_implies, not_true_eq_false, not_false_eq_true, implies_true]
      exact ih (j + 1) (by omega) jk
  have a1 := l1 4 0 (by omega) []
  have a2 := l2 (cpLs s p q 4) 6 0 (by omega) []
  rw [nI_0] at a1 a2
  have e0 : cpLs s p q 0 = s := rfl
  have e1 : cpRs (cpLs s p q 4) p q 0 = cpLs s p q 4 := rfl
  rw [e0] at a1
  rw [e1] at a2
  have r0 : cpRs (cpLs s p q 4) p q 6 p = s p := by
    rw [cpRs_off (cpLs s p q 4) p q 6 p (by omega), cpLs_off s p q 4 p (by omega)]
  simp only [k_P_copy_0, k_P_copy_1, a1, k_P_copy_28, k_P_copy_29, a2, k_P_copy_57, k_P_copy_58, k_P_copy_59, k_P_copy_62, k_P_copy_65, k_P_copy_66, k_P_copy_67, k_P_copy_70, k_P_copy_73, k_P_copy_74, k_P_copy_75, k_P_copy_78, k_P_copy_81, g_P2 hp, g_P3 hp, g_P4 hp, p_P2 hq, p_P3 hq, p_P4 hq, r0, am_wr_row _ hpq, cpP, am_ob_s, List.tail_cons, List.tail_nil, Option.toList_some, Option.toList_none, List.nil_append, List.cons_append, List.length_nil, List.length_cons, Nat.zero_le, true_and, and_true, true_implies, false_implies, not_true_eq_false, not_false_eq_true, implies_true]
theorem e_P_beginAs (hp : p ∈ bsP) (hq : q ∈ bsP) (hpq : p ≠ q) : am_C f_P_beginAs [.ref q, .ref p] (TP, s) Q ↔ Q none (TP, am_wr (am_wr (am_wr (cpP s p q) q 2 0) q 3 0) q 4 0) := by
  rw [c_P_beginAs]
  simp only [k_P_beginAs_0, k_P_beginAs_1, k_P_beginAs_2, k_P_beginAs_5, k_P_beginAs_6, k_P_beginAs_7, k_P_beginAs_10, k_P_beginAs_11, k_P_beginAs_12, k_P_beginAs_15, k_P_beginAs_16, k_P_beginAs_17, k_P_beginAs_20, rc_P hq, e_P_copy hp hq hpq, p_P2 hq, p_P3 hq, p_P4 hq, am_ob_s, List.tail_cons, List.tail_nil, Option.toList_some, Option.toList_none, List.nil_append, List.cons_append, List.length_nil, List.length_cons, Nat.zero_le, true_and, and_true, true_implies, false_implies, not_true_eq_false, not_false_eq_true, implies_true]
theorem rem4 {a : Nat} (h : a < 1000) : nI a - nI a / 4 * 4 = nI (a % 4) := pk_rem (d := 4) (by omega) (by decide) (by decide)
theorem h40 : ¬ (4 : Int32) = 0 := by decide
theorem e_Q_present {f : Nat} (hf : s 50 1 = nI f) (h4 : f < 4) : am_C f_Q_present [.ref 50] (TP, s) Q ↔ Q (some (.ref (52 + 49 * f))) (TP, s) := by
  rw [c_Q_present]
  simp only [k_Q_present_0, k_Q_present_1, k_Q_present_4, k_Q_present_5, k_Q_present_8, k_Q_present_9, g_Q0, g_Q1, hf, a_Q h4, am_ob_s, List.tail_cons, List.tail_nil, Option.toList_some, Option.toList_none, List.nil_append, List.cons_append, List.length_nil, List.length_cons, Nat.zero_le, true_and, and_true, true_implies, false_implies, not_true_eq_false, not_false_eq_true, implies_true]
theorem e_Q_firstWaiting {f : Nat} (hf : s 50 1 = nI f) (h4 : f < 4) : am_C f_Q_firstWaiting [.ref 50] (TP, s) Q ↔ Q (some (.ref (52 + 49 * ((f + 1) % 4)))) (TP, s) := by
  rw [c_Q_firstWaiting]
  simp only [k_Q_firstWaiting_0, k_Q_firstWaiting_1, k_Q_firstWaiting_4, k_Q_firstWaiting_5, k_Q_firstWaiting_8, k_Q_firstWaiting_9, k_Q_firstWaiting_10, k_Q_firstWaiting_11, k_Q_firstWaiting_12, k_Q_firstWaiting_13, h40, g_Q0, g_Q1, hf, nI_1, rem4 (show f + 1 < 1000 by omega), a_Q (Nat.mod_lt (f + 1) (show 4 > 0 by decide)), am_ob_s, List.tail_cons, List.tail_nil, Option.toList_some, Option.toList_none, List.nil_append, List.cons_append, List.length_nil, List.length_cons, Nat.zero_le, true_and, and_true, true_implies, false_implies, not_true_eq_false, not_false_eq_true, implies_true]
theorem e_Q_newest {f w : Nat} (hf : s 50 1 = nI f) (hw : s 50 2 = nI w) (h4 : f < 4) (h3 : w ≤ 3) : am_C f_Q_newest [.ref 50] (TP, s) Q ↔ Q (some (.ref (52 + 49 * ((f + w) % 4)))) (TP, s) := by
  rw [c_Q_newest]
  simp only [k_Q_newest_0, k_Q_newest_1, k_Q_newest_4, k_Q_newest_5, k_Q_newest_8, k_Q_newest_9, k_Q_newest_12, k_Q_newest_13, k_Q_newest_14, k_Q_newest_15, k_Q_newest_16, h40, g_Q0, g_Q1, g_Q2, hf, hw, nI_add, rem4 (show f + w < 1000 by omega), a_Q (Nat.mod_lt (f + w) (show 4 > 0 by decide)), am_ob_s, List.tail_cons, List.tail_nil, Option.toList_some, Option.toList_none, List.nil_append, List.cons_append, List.length_nil, List.length_cons, Nat.zero_le, true_and, and_true, true_implies, false_implies, not_true_eq_false, not_false_eq_true, implies_true]
theorem e_Q_isFull {w : Nat} (hw : s 50 2 = nI w) (h3 : w ≤ 3) : am_C f_Q_isFull [.ref 50] (TP, s) Q ↔ Q (some (.int (zb (3 ≤ w)))) (TP, s) := by
  rw [c_Q_isFull]
  have h1 : (nI w < 3) ↔ w < 3 := nI_ltI (b := 3) (by omega) (by decide)
  simp only [k_Q_isFull_0, k_Q_isFull_1, k_Q_isFull_4, k_Q_isFull_5, k_Q_isFull_8, k_Q_isFull_9, k_Q_isFull_12, k_Q_isFull_13, g_Q2, hw, h1, am_ob_s, List.tail_cons, List.tail_nil, Option.toList_some, Option.toList_none, List.nil_append, List.cons_append, List.length_nil, List.length_cons, Nat.zero_le, true_and, and_true, true_implies, false_implies, not_true_eq_false, not_false_eq_true, implies_true]
  by_cases h : w < 3
  · simp [h, zb_f (Nat.not_le.mpr h)]
  · simp [h, zb_t (Nat.not_lt.mp h)]
theorem e_Q_advance {f w : Nat} (hf : s 50 1 = nI f) (hw : s 50 2 = nI (w + 1)) (h4 : f < 4) (h3 : w < 3) : am_C f_Q_advance [.ref 50] (TP, s) Q ↔ Q none (TP, am_wr (am_wr s 50 1 (nI ((f + 1) % 4))) 50 2 (nI w)) := by
  rw [c_Q_advance]
  have h1 : ¬ nI (w + 1) = 0 := nI_ne0 (by omega) (by omega)
  have r1 : am_wr s 50 1 (nI ((f + 1) % 4)) 50 2 = nI (w + 1) := by rw [am_wr_col _ (by omega)]; exact hw
  simp only [k_Q_advance_0, k_Q_advance_1, k_Q_advance_4, k_Q_advance_7, k_Q_advance_8, k_Q_advance_9, k_Q_advance_10, k_Q_advance_13, k_Q_advance_14, k_Q_advance_15, k_Q_advance_16, k_Q_advance_17, k_Q_advance_20, k_Q_advance_21, k_Q_advance_21i, k_Q_advance_22, k_Q_advance_25, k_Q_advance_26, k_Q_advance_27, k_Q_advance_30, h40, g_Q1, g_Q2, hf, hw, h1, p_Q1, p_Q2, nI_1, rem4 (show f + 1 < 1000 by omega), r1, nI_pred, am_ob_s, List.tail_cons, List.tail_nil, Option.toList_some, Option.toList_none, List.nil_append, List.cons_append, List.length_nil, List.length_cons, Nat.zero_le, true_and, and_true, true_implies, false_implies, not_true_eq_false, not_false_eq_true, implies_true]
theorem e_Q_add {f w : Nat} (hf : s 50 1 = nI f) (hw : s 50 2 = nI w) (h4 : f < 4) (h3 : w < 3) : am_C f_Q_add [.ref 50, .ref 1] (TP, s) Q ↔ Q none (TP, cpP (am_wr s 50 2 (nI (w + 1))) 1 (52 + 49 * ((f + (w + 1)) % 4))) := by
  rw [c_Q_add]
  have hz : zb (3 ≤ w) = 0 := zb_f (by omega)
  have hm := Nat.mod_lt (f + (w + 1)) (show 4 > 0 by decide)
  have r1 : am_wr s 50 2 (nI (w + 1)) 50 1 = nI f := by rw [am_wr_col _ (by omega)]; exact hf
  have r2 : am_wr s 50 2 (nI (w + 1)) 50 2 = nI (w + 1) := am_wr_self _ _ _ _
  simp only [k_Q_add_0, k_Q_add_1, k_Q_add_4, k_Q_add_7, k_Q_add_8, k_Q_add_9, k_Q_add_9i, k_Q_add_10, k_Q_add_13, k_Q_add_14, k_Q_add_15, k_Q_add_18, k_Q_add_19, k_Q_add_22, k_Q_add_23, k_Q_add_26, rc_Q, e_Q_isFull hw (by omega), hz, g_Q2, hw, p_Q2, nI_1, e_Q_newest r1 r2 h4 (by omega), rc_P (bQ_P hm), e_P_copy (show 1 ∈ bsP by simp [bsP]) (bQ_P hm) (show 1 ≠ 52 + 49 * ((f + (w + 1)) % 4) by omega), am_ob_s, List.tail_cons, List.tail_nil, Option.toList_some, Option.toList_none, List.nil_append, List.cons_append, List.length_nil, List.length_cons, Nat.zero_le, true_and, and_true, true_implies, false_implies, not_true_eq_false, not_false_eq_true, implies_true]
end SP
