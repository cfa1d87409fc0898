/-! Checker.check and what stands above it -/
def kx (e : Nat × Int32 × Nat) : Nat := e.2.1.toNatClampNeg
/-- what the operand x may be -/
def xr (op k : Nat) : Prop := (op = 1 ∨ op = 10 ∨ op = 11 ∨ op = 12 ∨ op = 15 → 1 ≤ k ∧ k ≤ 3) ∧ (op = 2 ∨ op = 3 → k < 4) ∧ (op = 8 ∨ op = 9 → k < 14) ∧ (op = 13 → k < 6) ∧ k < 14
def okE (e : Nat × Int32 × Nat) : Prop := e.1 ≤ 16 ∧ e.2.2 ≤ 9 ∧ (e.1 = 0 ∨ e.2.1 = nI (kx e) ∧ xr e.1 (kx e))
def ckOp (G : pPg) (R : pRo) (e : Nat × Int32 × Nat) (σ : List Int32 × Bool) : List Int32 × Bool := match e.1 with
  | 0 => ckPut 0 σ
  | 1 => ckPut e.2.1 σ
  | 2 => ckPut (nI (lk R.2.1 (kx e))) σ
  | 3 => ckTake (nI (lk R.2.1 (kx e))) σ
  | 8 => ckIf (decide (e.2.1 < 0 ∨ nI R.2.2.2.length ≤ e.2.1)) (ckEmpty σ)
  | 9 => ckIf (decide (e.2.1 < 0 ∨ nI R.2.2.2.length ≤ e.2.1)) (ckEmpty (ckTake 0 σ))
  | 10 => ckPut e.2.1 σ
  | 11 => ckPut (pIx (pTy (G.1 (kx e)) (nI e.2.2))) (ckIf (decide (pIx (pTy (G.1 (kx e)) (nI e.2.2)) = -1)) (ckTake e.2.1 σ))
  | 12 => ckTake e.2.1 (ckTake (pIx (pTy (G.1 (kx e)) (nI e.2.2))) (ckIf (decide (pIx (pTy (G.1 (kx e)) (nI e.2.2)) = -1)) σ))
  | 13 => ckPut (nI (G.2.1 (kx e)).2.2.1) (ckArgs (G.2.1 (kx e)).2.1 (G.2.1 (kx e)).1 (ckIf ((G.2.1 (kx e)).2.2.2.isEmpty) σ))
  | 14 => ckEmpty (ckTake (nI R.2.2.1) σ)
  | 15 => ckPut 0 (ckTake e.2.1 (ckTake e.2.1 σ))
  | 16 => ckTake 0 σ
  | _ => ckPut 0 (ckTake 0 (ckTake 0 σ))
section SC2
variable {s : am_S} {σ : List Int32 × Bool} {p : Nat}
set_option maxHeartbeats 1000000 in
theorem e_C_check (h : CkC s σ) (hp : p ∈ bsP) {G : pPg} (hG : PgC s p G) {m j : Nat} (hm : m < 6) {e : Nat × Int32 × Nat} (he : (G.2.1 m).2.2.2[j]? = some e) (hok : okE e) (hpar : ∀ m, m < 6 → (G.2.1 m).1 ≤ 3) : ckS f_C_check [.ref 248, .ref (p + 19 + 5 * m), .int (nI j), .ref p] s (ckOp G (G.2.1 m) e σ) := by
  have hR := hG.2.1 m hm
  have hb := bP_R hp hm
  have hj : j < 14 := by have := (List.getElem?_eq_some_iff.mp he).1; have := hR.2.2.2.2.1; omega
  obtain ⟨v1, v2, v3⟩ := hR.2.2.2.2.2 j e he
  obtain ⟨op, x, y⟩ := e
  obtain ⟨h16, hy, hx⟩ := hok
  dsimp only at v1 v2 v3 h16 hy hx
  have hbd := bsP_b hp
  rcases (show op = 0 ∨ op = 1 ∨ op = 2 ∨ op = 3 ∨ op = 4 ∨ op = 5 ∨ op = 6 ∨ op = 7 ∨ op = 8 ∨ op = 9 ∨ op = 10 ∨ op = 11 ∨ op = 12 ∨ op = 13 ∨ op = 14 ∨ op = 15 ∨ op = 16 by omega) with rfl | rfl | rfl | rfl | rfl | rfl | rfl | rfl | rfl | rfl | rfl | rfl | rfl | rfl | rfl | rfl | rfl
  · have ht : am_tsw 14 248 0 16 #[82, 90, 99, 113, 248, 248, 248, 248, 127, 137, 90, 152, 177, 202, 216, 231, 240] (nI 0) = 96 := by decide
    obtain ⟨s1, e1, c1, o1⟩ := e_C_put h 0
    refine ⟨s1, fun Q => ?_, c1, o1⟩
    rw [c_C_check]
    simp only [k_C_check_0, k_C_check_1, k_C_check_4, k_C_check_5, k_C_check_6, k_C_check_8, k_C_check_9, k_C_check_12, k_C_check_13, k_C_check_14, ht, g_R1 hb, g_R2 hb, l_R2 hb hj, l_R3 hb hj, v1, v2, k_C_check_96, k_C_check_97, k_C_check_98, k_C_check_101, k_C_check_267, rc_C, e1, am_ob_s, List.tail_cons, List.tail_nil, Option.toList_some, Option.toList_none, List.nil_append, List.cons_append, List.length_nil, List.length_cons, Nat.zero_le, true_and, and_true, true_implies, false_implies, not_true_eq_false, not_false_eq_true, implies_true, Nat.reduceAdd, Nat.reduceLeDiff]
  · have ht : am_tsw 14 248 0 16 #[82, 90, 99, 113, 248, 248, 248, 248, 127, 137, 90, 152, 177, 202, 216, 231, 240] (nI 1) = 104 := by decide
    have hx := hx.resolve_left (by decide)
    obtain ⟨s1, e1, c1, o1⟩ := e_C_put h x
    refine ⟨s1, fun Q => ?_, c1, o1⟩
    rw [c_C_check]
    simp only [k_C_check_0, k_C_check_1, k_C_check_4, k_C_check_5, k_C_check_6, k_C_check_8, k_C_check_9, k_C_check_12, k_C_check_13, k_C_check_14, ht, g_R1 hb, g_R2 hb, l_R2 hb hj, l_R3 hb hj, v1, v2, k_C_check_104, k_C_check_105, k_C_check_107, k_C_check_110, k_C_check_267, rc_C, e1, am_ob_s, List.tail_cons, List.tail_nil, Option.toList_some, Option.toList_none, List.nil_append, List.cons_append, List.length_nil, List.length_cons, Nat.zero_le, true_and, and_true, true_implies, false_implies, not_true_eq_false, not_false_eq_true, implies_true, Nat.reduceAdd, Nat.reduceLeDiff]
  · have ht : am_tsw 14 248 0 16 #[82, 90, 99, 113, 248, 248, 248, 248, 127, 137, 90, 152, 177, 202, 216, 231, 240] (nI 2) = 113 := by decide
    have hx := hx.resolve_left (by decide)
    have hk : kx (2, x, y) < 4 := hx.2.2.1 (by decide)
    have hl := hR.2.1 (kx (2, x, y)) hk
    obtain ⟨s1, e1, c1, o1⟩ := e_C_put h (nI (lk (G.2.1 m).2.1 (kx (2, x, y))))
    refine ⟨s1, fun Q => ?_, c1, o1⟩
    rw [c_C_check]
    rw [hx.1] at v2
    simp only [k_C_check_0, k_C_check_1, k_C_check_4, k_C_check_5, k_C_check_6, k_C_check_8, k_C_check_9, k_C_check_12, k_C_check_13, k_C_check_14, ht, g_R1 hb, g_R2 hb, l_R2 hb hj, l_R3 hb hj, v1, v2, k_C_check_113, k_C_check_114, k_C_check_115, k_C_check_118, k_C_check_120, k_C_check_121, k_C_check_124, k_C_check_267, rc_C, e1, g_R0 hb, l_R1 hb hk, hl, am_ob_s, List.tail_cons, List.tail_nil, Option.toList_some, Option.toList_none, List.nil_append, List.cons_append, List.length_nil, List.length_cons, Nat.zero_le, true_and, and_true, true_implies, false_implies, not_true_eq_false, not_false_eq_true, implies_true, Nat.reduceAdd, Nat.reduceLeDiff]
  · have ht : am_tsw 14 248 0 16 #[82, 90, 99, 113, 248, 248, 248, 248, 127, 137, 90, 152, 177, 202, 216, 231, 240] (nI 3) = 127 := by decide
    have hx := hx.resolve_left (by decide)
    have hk : kx (3, x, y) < 4 := hx.2.2.1 (by decide)
    have hl := hR.2.1 (kx (3, x, y)) hk
    obtain ⟨s1, e1, c1, o1⟩ := e_C_take h (nI (lk (G.2.1 m).2.1 (kx (3, x, y))))
    refine ⟨s1, fun Q => ?_, c1, o1⟩
    rw [hx.1] at v2
    rw [c_C_check]
    simp only [k_C_check_0, k_C_check_1, k_C_check_4, k_C_check_5, k_C_check_6, k_C_check_8, k_C_check_9, k_C_check_12, k_C_check_13, k_C_check_14, ht, g_R1 hb, g_R2 hb, l_R2 hb hj, l_R3 hb hj, v1, v2, k_C_check_127, k_C_check_128, k_C_check_129, k_C_check_132, k_C_check_134, k_C_check_135, k_C_check_138, k_C_check_267, rc_C, e1, g_R0 hb, l_R1 hb hk, hl, am_ob_s, List.tail_cons, List.tail_nil, Option.toList_some, Option.toList_none, List.nil_append, List.cons_append, List.length_nil, List.length_cons, Nat.zero_le, true_and, and_true, true_implies, false_implies, not_true_eq_false, not_false_eq_true, implies_true, Nat.reduceAdd, Nat.reduceLeDiff]
  · have ht : am_tsw 14 248 0 16 #[82, 90, 99, 113, 248, 248, 248, 248, 127, 137, 90, 152, 177, 202, 216, 231, 240] (nI 4) = 262 := by decide
    have hx := hx.resolve_left (by decide)
    obtain ⟨s1, e1, c1, o1⟩ := e_C_takeTwoPutInt h 0
    refine ⟨s1, fun Q => ?_, c1, o1⟩
    rw [c_C_check]
    simp only [k_C_check_0, k_C_check_1, k_C_check_4, k_C_check_5, k_C_check_6, k_C_check_8, k_C_check_9, k_C_check_12, k_C_check_13, k_C_check_14, ht, g_R1 hb, g_R2 hb, l_R2 hb hj, l_R3 hb hj, v1, v2, k_C_check_262, k_C_check_263, k_C_check_264, k_C_check_267, rc_C, e1, am_ob_s, List.tail_cons, List.tail_nil, Option.toList_some, Option.toList_none, List.nil_append, List.cons_append, List.length_nil, List.length_cons, Nat.zero_le, true_and, and_true, true_implies, false_implies, not_true_eq_false, not_false_eq_true, implies_true, Nat.reduceAdd, Nat.reduceLeDiff]
  · have ht : am_tsw 14 248 0 16 #[82, 90, 99, 113, 248, 248, 248, 248, 127, 137, 90, 152, 177, 202, 216, 231, 240] (nI 5) = 262 := by decide
    have hx := hx.resolve_left (by decide)
    obtain ⟨s1, e1, c1, o1⟩ := e_C_takeTwoPutInt h 0
    refine ⟨s1, fun Q => ?_, c1, o1⟩
    rw [c_C_check]
    simp only [k_C_check_0, k_C_check_1, k_C_check_4, k_C_check_5, k_C_check_6, k_C_check_8, k_C_check_9, k_C_check_12, k_C_check_13, k_C_check_14, ht, g_R1 hb, g_R2 hb, l_R2 hb hj, l_R3 hb hj, v1, v2, k_C_check_262, k_C_check_263, k_C_check_264, k_C_check_267, rc_C, e1, am_ob_s, List.tail_cons, List.tail_nil, Option.toList_some, Option.toList_none, List.nil_append, List.cons_append, List.length_nil, List.length_cons, Nat.zero_le, true_and, and_true, true_implies, false_implies, not_true_eq_false, not_false_eq_true, implies_true, Nat.reduceAdd, Nat.reduceLeDiff]
  · have ht : am_tsw 14 248 0 16 #[82, 90, 99, 113, 248, 248, 248, 248, 127, 137, 90, 152, 177, 202, 216, 231, 240] (nI 6) = 262 := by decide
    have hx := hx.resolve_left (by decide)
    obtain ⟨s1, e1, c1, o1⟩ := e_C_takeTwoPutInt h 0
    refine ⟨s1, fun Q => ?_, c1, o1⟩
    rw [c_C_check]
    simp only [k_C_check_0, k_C_check_1, k_C_check_4, k_C_check_5, k_C_check_6, k_C_check_8, k_C_check_9, k_C_check_12, k_C_check_13, k_C_check_14, ht, g_R1 hb, g_R2 hb, l_R2 hb hj, l_R3 hb hj, v1, v2, k_C_check_262, k_C_check_263, k_C_check_264, k_C_check_267, rc_C, e1, am_ob_s, List.tail_cons, List.tail_nil, Option.toList_some, Option.toList_none, List.nil_append, List.cons_append, List.length_nil, List.length_cons, Nat.zero_le, true_and, and_true, true_implies, false_implies, not_true_eq_false, not_false_eq_true, implies_true, Nat.reduceAdd, Nat.reduceLeDiff]
  · have ht : am_tsw 14 248 0 16 #[82, 90, 99, 113, 248, 248, 248, 248, 127, 137, 90, 152, 177, 202, 216, 231, 240] (nI 7) = 262 := by decide
    have hx := hx.resolve_left (by decide)
    obtain ⟨s1, e1, c1, o1⟩ := e_C_takeTwoPutInt h 0
    refine ⟨s1, fun Q => ?_, c1, o1⟩
    rw [c_C_check]
    simp only [k_C_check_0, k_C_check_1, k_C_check_4, k_C_check_5, k_C_check_6, k_C_check_8, k_C_check_9, k_C_check_12, k_C_check_13, k_C_check_14, ht, g_R1 hb, g_R2 hb, l_R2 hb hj, l_R3 hb hj, v1, v2, k_C_check_262, k_C_check_263, k_C_check_264, k_C_check_267, rc_C, e1, am_ob_s, List.tail_cons, List.tail_nil, Option.toList_some, Option.toList_none, List.nil_append, List.cons_append, List.length_nil, List.length_cons, Nat.zero_le, true_and, and_true, true_implies, false_implies, not_true_eq_false, not_false_eq_true, implies_true, Nat.reduceAdd, Nat.reduceLeDiff]
  · have ht : am_tsw 14 248 0 16 #[82, 90, 99, 113, 248, 248, 248, 248, 127, 137, 90, 152, 177, 202, 216, 231, 240] (nI 8) = 141 := by decide
    have hx := hx.resolve_left (by decide)
    obtain ⟨s1, e1, c1, o1⟩ := e_C_checkJump h hb hR x
    refine ⟨s1, fun Q => ?_, c1, o1⟩
    rw [c_C_check]
    simp only [k_C_check_0, k_C_check_1, k_C_check_4, k_C_check_5, k_C_check_6, k_C_check_8, k_C_check_9, k_C_check_12, k_C_check_13, k_C_check_14, ht, g_R1 hb, g_R2 hb, l_R2 hb hj, l_R3 hb hj, v1, v2, k_C_check_141, k_C_check_142, k_C_check_143, k_C_check_145, k_C_check_148, k_C_check_267, rc_C, e1, am_ob_s, List.tail_cons, List.tail_nil, Option.toList_some, Option.toList_none, List.nil_append, List.cons_append, List.length_nil, List.length_cons, Nat.zero_le, true_and, and_true, true_implies, false_implies, not_true_eq_false, not_false_eq_true, implies_true, Nat.reduceAdd, Nat.reduceLeDiff]
  · have ht : am_tsw 14 248 0 16 #[82, 90, 99, 113, 248, 248, 248, 248, 127, 137, 90, 152, 177, 202, 216, 231, 240] (nI 9) = 151 := by decide
    have hx := hx.resolve_left (by decide)
    obtain ⟨s1, e1, c1, o1⟩ := e_C_take h 0
    have hR1 : RoC s1 (p + 19 + 5 * m) (G.2.1 m) := RoC_same hR (off_same o1 (by omega))
    obtain ⟨s2, e2, c2, o2⟩ := e_C_checkJump c1 hb hR1 x
    refine ⟨s2, fun Q => ?_, c2, off_tr o1 o2⟩
    rw [c_C_check]
    simp only [k_C_check_0, k_C_check_1, k_C_check_4, k_C_check_5, k_C_check_6, k_C_check_8, k_C_check_9, k_C_check_12, k_C_check_13, k_C_check_14, ht, g_R1 hb, g_R2 hb, l_R2 hb hj, l_R3 hb hj, v1, v2, k_C_check_151, k_C_check_152, k_C_check_153, k_C_check_156, k_C_check_157, k_C_check_158, k_C_check_160, k_C_check_163, k_C_check_267, rc_C, e1, e2, am_ob_s, List.tail_cons, List.tail_nil, Option.toList_some, Option.toList_none, List.nil_append, List.cons_append, List.length_nil, List.length_cons, Nat.zero_le, true_and, and_true, true_implies, false_implies, not_true_eq_false, not_false_eq_true, implies_true, Nat.reduceAdd, Nat.reduceLeDiff]
  · have ht : am_tsw 14 248 0 16 #[82, 90, 99, 113, 248, 248, 248, 248, 127, 137, 90, 152, 177, 202, 216, 231, 240] (nI 10) = 104 := by decide
    have hx := hx.resolve_left (by decide)
    obtain ⟨s1, e1, c1, o1⟩ := e_C_put h x
    refine ⟨s1, fun Q => ?_, c1, o1⟩
    rw [c_C_check]
    simp only [k_C_check_0, k_C_check_1, k_C_check_4, k_C_check_5, k_C_check_6, k_C_check_8, k_C_check_9, k_C_check_12, k_C_check_13, k_C_check_14, ht, g_R1 hb, g_R2 hb, l_R2 hb hj, l_R3 hb hj, v1, v2, k_C_check_104, k_C_check_105, k_C_check_107, k_C_check_110, k_C_check_267, rc_C, e1, am_ob_s, List.tail_cons, List.tail_nil, Option.toList_some, Option.toList_none, List.nil_append, List.cons_append, List.length_nil, List.length_cons, Nat.zero_le, true_and, and_true, true_implies, false_implies, not_true_eq_false, not_false_eq_true, implies_true, Nat.reduceAdd, Nat.reduceLeDiff]
  · have ht : am_tsw 14 248 0 16 #[82, 90, 99, 113, 248, 248, 248, 248, 127, 137, 90, 152, 177, 202, 216, 231, 240] (nI 11) = 166 := by decide
    have hx := hx.resolve_left (by decide)
    have hk : kx (11, x, y) < 4 := by have := hx.2.1 (by decide); omega
    have hL := hG.1 (kx (11, x, y)) hk
    have hLb := bP_L hp hk
    obtain ⟨s1, e1, c1, o1⟩ := e_C_checkGet h x (pIx (pTy (G.1 (kx (11, x, y))) (nI y)))
    refine ⟨s1, fun Q => ?_, c1, o1⟩
    have hx1 := hx.1
    generalize hkk : kx (11, x, y) = k at hk hL hLb hx1 e1
    subst hx1
    rw [c_C_check]
    simp only [k_C_check_0, k_C_check_1, k_C_check_4, k_C_check_5, k_C_check_6, k_C_check_8, k_C_check_9, k_C_check_12, k_C_check_13, k_C_check_14, ht, g_R1 hb, g_R2 hb, l_R2 hb hj, l_R3 hb hj, v1, v2, k_C_check_166, k_C_check_167, k_C_check_169, k_C_check_170, k_C_check_173, k_C_check_175, k_C_check_176, k_C_check_177, k_C_check_180, k_C_check_181, k_C_check_182, k_C_check_185, k_C_check_188, k_C_check_267, rc_C, rc_L hLb, g_P0 hp, a_Pl hp hk, g_R3 hb, l_R4 hb hj, v3, e_L_typeNamed hLb hL, e1, am_ob_s, List.tail_cons, List.tail_nil, Option.toList_some, Option.toList_none, List.nil_append, List.cons_append, List.length_nil, List.length_cons, Nat.zero_le, true_and, and_true, true_implies, false_implies, not_true_eq_false, not_false_eq_true, implies_true, Nat.reduceAdd, Nat.reduceLeDiff]
  · have ht : am_tsw 14 248 0 16 #[82, 90, 99, 113, 248, 248, 248, 248, 127, 137, 90, 152, 177, 202, 216, 231, 240] (nI 12) = 191 := by decide
    have hx := hx.resolve_left (by decide)
    have hk : kx (12, x, y) < 4 := by have := hx.2.1 (by decide); omega
    have hL := hG.1 (kx (12, x, y)) hk
    have hLb := bP_L hp hk
    obtain ⟨s1, e1, c1, o1⟩ := e_C_checkPut h x (pIx (pTy (G.1 (kx (12, x, y))) (nI y)))
    refine ⟨s1, fun Q => ?_, c1, o1⟩
    have hx1 := hx.1
    generalize hkk : kx (12, x, y) = k at hk hL hLb hx1 e1
    subst hx1
    rw [c_C_check]
    simp only [k_C_check_0, k_C_check_1, k_C_check_4, k_C_check_5, k_C_check_6, k_C_check_8, k_C_check_9, k_C_check_12, k_C_check_13, k_C_check_14, ht, g_R1 hb, g_R2 hb, l_R2 hb hj, l_R3 hb hj, v1, v2, k_C_check_191, k_C_check_192, k_C_check_194, k_C_check_195, k_C_check_198, k_C_check_200, k_C_check_201, k_C_check_202, k_C_check_205, k_C_check_206, k_C_check_207, k_C_check_210, k_C_check_213, k_C_check_267, rc_C, rc_L hLb, g_P0 hp, a_Pl hp hk, g_R3 hb, l_R4 hb hj, v3, e_L_typeNamed hLb hL, e1, am_ob_s, List.tail_cons, List.tail_nil, Option.toList_some, Option.toList_none, List.nil_append, List.cons_append, List.length_nil, List.length_cons, Nat.zero_le, true_and, and_true, true_implies, false_implies, not_true_eq_false, not_false_eq_true, implies_true, Nat.reduceAdd, Nat.reduceLeDiff]
  · have ht : am_tsw 14 248 0 16 #[82, 90, 99, 113, 248, 248, 248, 248, 127, 137, 90, 152, 177, 202, 216, 231, 240] (nI 13) = 216 := by decide
    have hx := hx.resolve_left (by decide)
    have hk : kx (13, x, y) < 6 := hx.2.2.2.2.1 rfl
    have hRk := hG.2.1 (kx (13, x, y)) hk
    have hRb := bP_R hp hk
    obtain ⟨s1, e1, c1, o1⟩ := e_C_checkCall h hRb hRk (hpar _ hk)
    refine ⟨s1, fun Q => ?_, c1, o1⟩
    have hx1 := hx.1
    generalize hkk : kx (13, x, y) = k at hk hRk hRb hx1 e1
    subst hx1
    rw [c_C_check]
    simp only [k_C_check_0, k_C_check_1, k_C_check_4, k_C_check_5, k_C_check_6, k_C_check_8, k_C_check_9, k_C_check_12, k_C_check_13, k_C_check_14, ht, g_R1 hb, g_R2 hb, l_R2 hb hj, l_R3 hb hj, v1, v2, k_C_check_216, k_C_check_217, k_C_check_218, k_C_check_221, k_C_check_223, k_C_check_224, k_C_check_227, k_C_check_267, rc_C, g_P1 hp, a_Pr hp hk, e1, am_ob_s, List.tail_cons, List.tail_nil, Option.toList_some, Option.toList_none, List.nil_append, List.cons_append, List.length_nil, List.length_cons, Nat.zero_le, true_and, and_true, true_implies, false_implies, not_true_eq_false, not_false_eq_true, implies_true, Nat.reduceAdd, Nat.reduceLeDiff]
  · have ht : am_tsw 14 248 0 16 #[82, 90, 99, 113, 248, 248, 248, 248, 127, 137, 90, 152, 177, 202, 216, 231, 240] (nI 14) = 230 := by decide
    have hx := hx.resolve_left (by decide)
    obtain ⟨s1, e1, c1, o1⟩ := e_C_take h (nI (G.2.1 m).2.2.1)
    obtain ⟨s2, e2, c2, o2⟩ := e_C_needEmpty c1
    refine ⟨s2, fun Q => ?_, c2, off_tr o1 o2⟩
    rw [c_C_check]
    simp only [k_C_check_0, k_C_check_1, k_C_check_4, k_C_check_5, k_C_check_6, k_C_check_8, k_C_check_9, k_C_check_12, k_C_check_13, k_C_check_14, ht, g_R1 hb, g_R2 hb, l_R2 hb hj, l_R3 hb hj, v1, v2, k_C_check_230, k_C_check_231, k_C_check_232, k_C_check_235, k_C_check_238, k_C_check_239, k_C_check_242, k_C_check_267, rc_C, g_R5 hb, hR.2.2.1, e1, e2, am_ob_s, List.tail_cons, List.tail_nil, Option.toList_some, Option.toList_none, List.nil_append, List.cons_append, List.length_nil, List.length_cons, Nat.zero_le, true_and, and_true, true_implies, false_implies, not_true_eq_false, not_false_eq_true, implies_true, Nat.reduceAdd, Nat.reduceLeDiff]
  · have ht : am_tsw 14 248 0 16 #[82, 90, 99, 113, 248, 248, 248, 248, 127, 137, 90, 152, 177, 202, 216, 231, 240] (nI 15) = 245 := by decide
    have hx := hx.resolve_left (by decide)
    obtain ⟨s1, e1, c1, o1⟩ := e_C_takeTwoPutInt h x
    refine ⟨s1, fun Q => ?_, c1, o1⟩
    rw [c_C_check]
    simp only [k_C_check_0, k_C_check_1, k_C_check_4, k_C_check_5, k_C_check_6, k_C_check_8, k_C_check_9, k_C_check_12, k_C_check_13, k_C_check_14, ht, g_R1 hb, g_R2 hb, l_R2 hb hj, l_R3 hb hj, v1, v2, k_C_check_245, k_C_check_246, k_C_check_248, k_C_check_251, k_C_check_267, rc_C, e1, am_ob_s, List.tail_cons, List.tail_nil, Option.toList_some, Option.toList_none, List.nil_append, List.cons_append, List.length_nil, List.length_cons, Nat.zero_le, true_and, and_true, true_implies, false_implies, not_true_eq_false, not_false_eq_true, implies_true, Nat.reduceAdd, Nat.reduceLeDiff]
  · have ht : am_tsw 14 248 0 16 #[82, 90, 99, 113, 248, 248, 248, 248, 127, 137, 90, 152, 177, 202, 216, 231, 240] (nI 16) = 254 := by decide
    have hx := hx.resolve_left (by decide)
    obtain ⟨s1, e1, c1, o1⟩ := e_C_take h 0
    refine ⟨s1, fun Q => ?_, c1, o1⟩
    rw [c_C_check]
    simp only [k_C_check_0, k_C_check_1, k_C_check_4, k_C_check_5, k_C_check_6, k_C_check_8, k_C_check_9, k_C_check_12, k_C_check_13, k_C_check_14, ht, g_R1 hb, g_R2 hb, l_R2 hb hj, l_R3 hb hj, v1, v2, k_C_check_254, k_C_check_255, k_C_check_256, k_C_check_259, k_C_check_267, rc_C, e1, am_ob_s, List.tail_cons, List.tail_nil, Option.toList_some, Option.toList_none, List.nil_append, List.cons_append, List.length_nil, List.length_cons, Nat.zero_le, true_and, and_true, true_implies, false_implies, not_true_eq_false, not_false_eq_true, implies_true, Nat.reduceAdd, Nat.reduceLeDiff]
/-- the checker at one place, with what is asked of jumps' aims and of the last place -/
def ckAt (G : pPg) (R : pRo) (j : Nat) (e : Nat × Int32 × Nat) (σ : List Int32 × Bool) : List Int32 × Bool :=
  ckIf (decide (j + 1 = R.2.2.2.length) && !(decide (nI e.1 = 8) || decide (nI e.1 = 14))) (ckOp G R e (if R.2.2.2.any (pJmp (nI j)) = true then ckEmpty σ else σ))
/-- the first bad place from j on (r places are left) -/
def ckFrom (G : pPg) (R : pRo) : Nat → Nat → List Int32 × Bool → Option Nat
  | _, 0, _ => none
  | j, r + 1, σ => match R.2.2.2[j]? with
    | none => none
    | some e => if (ckAt G R j e σ).2 = true then some j else ckFrom G R (j + 1) r (ckAt G R j e σ)
/-- what a call of the checker answers -/
def ckI (f : am_F) (as : List Value) (s : am_S) (v : Int32) : Prop := ∃ s', (∀ Q : Option Value → am_H → Prop, am_C f as (TP, s) Q ↔ Q (some (.int v)) (TP, s')) ∧ (∃ σ, CkC s' σ) ∧ off 248 250 s s'
theorem CkC_00 {s : am_S} (h : CkC s σ) : CkC (am_wr (am_wr s 248 1 0) 248 2 0) ([], false) := by
  refine ⟨?_, by simp, fun k v hk => (by cases k <;> cases hk), ?_⟩
  · rw [am_wr_col _ (by omega), am_wr_self]
    rfl
  · rw [am_wr_self, zb_f (by simp)]
theorem e_C_firstBadPlaceOf (h : CkC s σ) (hp : p ∈ bsP) {G : pPg} (hG : PgC s p G) {m : Nat} (hm : m < 6) (hok : ∀ (j : Nat) (e : Nat × Int32 × Nat), (G.2.1 m).2.2.2[j]? = some e → okE e) (hpar : ∀ m, m < 6 → (G.2.1 m).1 ≤ 3) : ckI f_C_firstBadPlaceOf [.ref 248, .ref (p + 19 + 5 * m), .ref p] s (pIx (ckFrom G (G.2.1 m) 0 (G.2.1 m).2.2.2.length ([], false))) := by
  have hb := bP_R hp hm
  have hbd := bsP_b hp
  have hlen := (hG.2.1 m hm).2.2.2.2.1
  have loop : ∀ (r j : Nat), j + r = (G.2.1 m).2.2.2.length → ∀ (s0 : am_S) (σ0 : List Int32 × Bool), CkC s0 σ0 → σ0.2 = false → off 248 250 s s0 → ∃ s', (∀ (jk : List Value) (Q : Option Value → am_H → Prop), am_W m_C_firstBadPlaceOf 12 (.ref 248 :: .ref (p + 19 + 5 * m) :: .ref p :: .int (nI j) :: jk) [] (TP, s0) Q ↔ Q (some (.int (pIx (ckFrom G (G.2.1 m) j r σ0)))) (TP, s')) ∧ (∃ σ, CkC s' σ) ∧ off 248 250 s s' := by
    intro r
    induction r with
    | zero =>
      intro j hj s0 σ0 hc hf ho
      have hR0 : RoC s0 (p + 19 + 5 * m) (G.2.1 m) := RoC_same (hG.2.1 m hm) (off_same ho (by omega))
      refine ⟨s0, fun jk Q => ?_, ⟨σ0, hc⟩, ho⟩
      have h1 : nI (G.2.1 m).2.2.2.length ≤ nI j := nI_le (by omega) (by omega)
      rw [k_C_firstBadPlaceOf_12]
      simp only [k_C_firstBadPlaceOf_13, k_C_firstBadPlaceOf_14, k_C_firstBadPlaceOf_17, k_C_firstBadPlaceOf_74, k_C_firstBadPlaceOf_75, g_R6 hb, hR0.2.2.2.1, h1, ckFrom, pIx, am_ob_s, List.tail_cons, List.tail_nil, Option.toList_some, Option.toList_none, List.nil_append, List.cons_append, List.length_nil, List.length_cons, Nat.zero_le, true_and, and_true, true_implies, false_implies, not_true_eq_false, not_false_eq_true, implies_true, Nat.reduceAdd, Nat.reduceLeDiff]
    | succ r ih =>
      intro j hj s0 σ0 hc hf ho
      have hG0 : PgC s0 p G := PgC_same hG (off_same ho (by omega))
      have hR0 := hG0.2.1 m hm
      obtain ⟨e, hd⟩ : ∃ e, (G.2.1 m).2.2.2[j]? = some e := ⟨_, List.getElem?_eq_getElem (by omega)⟩
      obtain ⟨v1, v2, v3⟩ := hR0.2.2.2.2.2 j e hd
      have h1 : ¬ nI (G.2.1 m).2.2.2.length ≤ nI j := nI_ge (by omega) (by omega)
      -- the aim
      obtain ⟨s1, e1, c1, o1⟩ : ∃ s1, (∀ (jk : List Value) (Q : Option Value → am_H → Prop), am_W m_C_firstBadPlaceOf 12 (.ref 248 :: .ref (p + 19 + 5 * m) :: .ref p :: .int (nI j) :: jk) [] (TP, s0) Q ↔ am_W m_C_firstBadPlaceOf 32 (.ref 248 :: .ref (p + 19 + 5 * m) :: .ref p :: .int (nI j) :: jk) [] (TP, s1) Q) ∧ CkC s1 (if (G.2.1 m).2.2.2.any (pJmp (nI j)) = true then ckEmpty σ0 else σ0) ∧ off 248 250 s0 s1 := by
        by_cases ha : (G.2.1 m).2.2.2.any (pJmp (nI j)) = true
        · obtain ⟨s1, e1, c1, o1⟩ := e_C_needEmpty hc
          refine ⟨s1, fun jk Q => ?_, by rw [if_pos ha]; exact c1, o1⟩
          rw [k_C_firstBadPlaceOf_12]
          simp only [k_C_firstBadPlaceOf_13, k_C_firstBadPlaceOf_14, k_C_firstBadPlaceOf_17, k_C_firstBadPlaceOf_20, k_C_firstBadPlaceOf_21, k_C_firstBadPlaceOf_22, k_C_firstBadPlaceOf_25, k_C_firstBadPlaceOf_28, k_C_firstBadPlaceOf_29, g_R6 hb, hR0.2.2.2.1, h1, rc_R hb, e_R_jumpsTo hb hR0, zb_t ha, rc_C, e1, am_ob_s, List.tail_cons, List.tail_nil, Option.toList_some, Option.toList_none, List.nil_append, List.cons_append, List.length_nil, List.length_cons, Nat.zero_le, true_and, and_true, true_implies, false_implies, not_true_eq_false, not_false_eq_true, implies_true, Nat.reduceAdd, Nat.reduceLeDiff]
          simp
        · refine ⟨s0, fun jk Q => ?_, by rw [if_neg ha]; exact hc, off_rf _ _ _⟩
          rw [k_C_firstBadPlaceOf_12]
          simp only [k_C_firstBadPlaceOf_13, k_C_firstBadPlaceOf_14, k_C_firstBadPlaceOf_17, k_C_firstBadPlaceOf_20, k_C_firstBadPlaceOf_21, k_C_firstBadPlaceOf_22, k_C_firstBadPlaceOf_25, k_C_firstBadPlaceOf_28, k_C_firstBadPlaceOf_29, g_R6 hb, hR0.2.2.2.1, h1, rc_R hb, e_R_jumpsTo hb hR0, zb_f ha, rc_C, am_ob_s, List.tail_cons, List.tail_nil, Option.toList_some, Option.toList_none, List.nil_append, List.cons_append, List.length_nil, List.length_cons, Nat.zero_le, true_and, and_true, true_implies, false_implies, not_true_eq_false, not_false_eq_true, implies_true, Nat.reduceAdd, Nat.reduceLeDiff]
      have hG1 : PgC s1 p G := PgC_same hG0 (off_same o1 (by omega))
      obtain ⟨s2, e2, c2, o2⟩ := e_C_check c1 hp hG1 hm hd (hok j e hd) hpar
      have hG2 : PgC s2 p G := PgC_same hG1 (off_same o2 (by omega))
      have hR2 := hG2.2.1 m hm
      have w1 := (hR2.2.2.2.2.2 j e hd).1
      -- the last place
      have hq : nI j = nI (G.2.1 m).2.2.2.length - 1 ↔ j + 1 = (G.2.1 m).2.2.2.length := by
        have hl : nI (G.2.1 m).2.2.2.length - 1 = nI ((G.2.1 m).2.2.2.length - 1) := by
          have := nI_pred ((G.2.1 m).2.2.2.length - 1)
          rw [show (G.2.1 m).2.2.2.length - 1 + 1 = (G.2.1 m).2.2.2.length by omega] at this
          exact this
        rw [hl, nI_eq (by omega) (by omega)]
        omega
      obtain ⟨s3, e3, c3, o3⟩ : ∃ s3, (∀ (jk : List Value) (Q : Option Value → am_H → Prop), am_W m_C_firstBadPlaceOf 32 (.ref 248 :: .ref (p + 19 + 5 * m) :: .ref p :: .int (nI j) :: jk) [] (TP, s1) Q ↔ am_W m_C_firstBadPlaceOf 59 (.ref 248 :: .ref (p + 19 + 5 * m) :: .ref p :: .int (nI j) :: jk) [] (TP, s3) Q) ∧ CkC s3 (ckAt G (G.2.1 m) j e σ0) ∧ off 248 250 s2 s3 := by
        by_cases hl : j + 1 = (G.2.1 m).2.2.2.length
        · obtain ⟨s3, e3, c3, o3⟩ := e_C_needNoWayOut c2 (nI e.1)
          refine ⟨s3, fun jk Q => ?_, by simpa [ckAt, hl] using c3, o3⟩
          simp only [k_C_firstBadPlaceOf_32, k_C_firstBadPlaceOf_33, k_C_firstBadPlaceOf_34, k_C_firstBadPlaceOf_35, k_C_firstBadPlaceOf_36, k_C_firstBadPlaceOf_39, k_C_firstBadPlaceOf_40, k_C_firstBadPlaceOf_41, k_C_firstBadPlaceOf_44, k_C_firstBadPlaceOf_45, k_C_firstBadPlaceOf_46, k_C_firstBadPlaceOf_49, k_C_firstBadPlaceOf_50, k_C_firstBadPlaceOf_51, k_C_firstBadPlaceOf_54, k_C_firstBadPlaceOf_55, k_C_firstBadPlaceOf_56, rc_C, e2, g_R6 hb, hR2.2.2.2.1, hq, hl, g_R1 hb, l_R2 hb (show j < 14 by omega), w1, e3, am_ob_s, List.tail_cons, List.tail_nil, Option.toList_some, Option.toList_none, List.nil_append, List.cons_append, List.length_nil, List.length_cons, Nat.zero_le, true_and, and_true, true_implies, false_implies, not_true_eq_false, not_false_eq_true, implies_true, Nat.reduceAdd, Nat.reduceLeDiff]
        · refine ⟨s2, fun jk Q => ?_, by simpa [ckAt, hl, ckIf] using c2, off_rf _ _ _⟩
          simp only [k_C_firstBadPlaceOf_32, k_C_firstBadPlaceOf_33, k_C_firstBadPlaceOf_34, k_C_firstBadPlaceOf_35, k_C_firstBadPlaceOf_36, k_C_firstBadPlaceOf_39, k_C_firstBadPlaceOf_40, k_C_firstBadPlaceOf_41, k_C_firstBadPlaceOf_44, k_C_firstBadPlaceOf_45, k_C_firstBadPlaceOf_46, k_C_firstBadPlaceOf_49, k_C_firstBadPlaceOf_50, k_C_firstBadPlaceOf_51, k_C_firstBadPlaceOf_54, k_C_firstBadPlaceOf_55, k_C_firstBadPlaceOf_56, rc_C, e2, g_R6 hb, hR2.2.2.2.1, hq, hl, am_ob_s, List.tail_cons, List.tail_nil, Option.toList_some, Option.toList_none, List.nil_append, List.cons_append, List.length_nil, List.length_cons, Nat.zero_le, true_and, and_true, true_implies, false_implies, not_true_eq_false, not_false_eq_true, implies_true, Nat.reduceAdd, Nat.reduceLeDiff]
      have o5 : off 248 250 s s3 := off_tr (off_tr (off_tr ho o1) o2) o3
      by_cases hbad : (ckAt G (G.2.1 m) j e σ0).2 = true
      · refine ⟨s3, fun jk Q => ?_, ⟨_, c3⟩, o5⟩
        have hz := c3.2.2.2
        rw [zb_t hbad] at hz
        rw [e1, e3]
        simp only [k_C_firstBadPlaceOf_59, k_C_firstBadPlaceOf_60, k_C_firstBadPlaceOf_63, k_C_firstBadPlaceOf_66, k_C_firstBadPlaceOf_67, g_C2, hz, ckFrom, hd, hbad, if_true, pIx, am_ob_s, List.tail_cons, List.tail_nil, Option.toList_some, Option.toList_none, List.nil_append, List.cons_append, List.length_nil, List.length_cons, Nat.zero_le, true_and, and_true, true_implies, false_implies, not_true_eq_false, not_false_eq_true, implies_true, Nat.reduceAdd, Nat.reduceLeDiff]
        simp
      · obtain ⟨s4, e4, c4, o4⟩ := ih (j + 1) (by omega) s3 _ c3 (by simpa using hbad) o5
        refine ⟨s4, fun jk Q => ?_, c4, o4⟩
        have hz := c3.2.2.2
        rw [zb_f hbad] at hz
        rw [e1, e3]
        simp only [k_C_firstBadPlaceOf_59, k_C_firstBadPlaceOf_60, k_C_firstBadPlaceOf_63, k_C_firstBadPlaceOf_66, k_C_firstBadPlaceOf_67, k_C_firstBadPlaceOf_68, k_C_firstBadPlaceOf_71, g_C2, hz, ckFrom, hd, hbad, if_false, nI_1, am_ob_s, List.tail_cons, List.tail_nil, Option.toList_some, Option.toList_none, List.nil_append, List.cons_append, List.length_nil, List.length_cons, Nat.zero_le, true_and, and_true, true_implies, false_implies, not_true_eq_false, not_false_eq_true, implies_true, Nat.reduceAdd, Nat.reduceLeDiff]
        rw [e4]
        simp
  obtain ⟨s1, e1, c1, o1⟩ := loop (G.2.1 m).2.2.2.length 0 (by omega) _ _ (CkC_00 h) rfl (off_tr (off_wr _ (by omega) (by omega)) (off_wr _ (by omega) (by omega)))
  refine ⟨s1, fun Q => ?_, c1, o1⟩
  rw [nI_0] at e1
  rw [c_C_firstBadPlaceOf]
  simp only [k_C_firstBadPlaceOf_0, k_C_firstBadPlaceOf_1, k_C_firstBadPlaceOf_2, k_C_firstBadPlaceOf_5, k_C_firstBadPlaceOf_6, k_C_firstBadPlaceOf_7, k_C_firstBadPlaceOf_10, k_C_firstBadPlaceOf_11, p_C1, p_C2 (Or.inl rfl), am_ob_s, List.tail_cons, List.tail_nil, Option.toList_some, Option.toList_none, List.nil_append, List.cons_append, List.length_nil, List.length_cons, Nat.zero_le, true_and, and_true, true_implies, false_implies, not_true_eq_false, not_false_eq_true, implies_true, Nat.reduceAdd, Nat.reduceLeDiff]
  exact e1 [] Q
/-- the first bad place of all methods from m on -/
def ckAll (G : pPg) : Nat → Nat → Option Nat
  | _, 0 => none
  | m, r + 1 => match ckFrom G (G.2.1 m) 0 (G.2.1 m).2.2.2.length ([], false) with
    | some j => some (100 * m + j)
    | none => ckAll G (m + 1) r
theorem ckFrom_lt (G : pPg) (R : pRo) : ∀ (r j : Nat) (σ : List Int32 × Bool) (k : Nat), ckFrom G R j r σ = some k → k < j + r
  | 0, j, σ, k, h => by cases h
  | r + 1, j, σ, k, h => by
    unfold ckFrom at h
    split at h
    · cases h
    · split at h
      · cases h
        omega
      · have := ckFrom_lt G R r (j + 1) _ k h
        omega
theorem e_C_firstBadPlace (h : CkC s σ) (hp : p ∈ bsP) {G : pPg} (hG : PgC s p G) (hok : ∀ m, m < 6 → ∀ (j : Nat) (e : Nat × Int32 × Nat), (G.2.1 m).2.2.2[j]? = some e → okE e) (hpar : ∀ m, m < 6 → (G.2.1 m).1 ≤ 3) : ckI f_C_firstBadPlace [.ref 248, .ref p] s (pIx (ckAll G 0 6)) := by
  have hbd := bsP_b hp
  have loop : ∀ (r m : Nat), m + r = 6 → ∀ (s0 : am_S) (σ0 : List Int32 × Bool), CkC s0 σ0 → off 248 250 s s0 → ∃ s', (∀ (jk : List Value) (Q : Option Value → am_H → Prop), am_W m_C_firstBadPlace 2 (.ref 248 :: .ref p :: .int (nI m) :: jk) [] (TP, s0) Q ↔ Q (some (.int (pIx (ckAll G m r)))) (TP, s')) ∧ (∃ σ, CkC s' σ) ∧ off 248 250 s s' := by
    intro r
    induction r with
    | zero =>
      intro m hm s0 σ0 hc ho
      have : m = 6 := by omega
      subst this
      refine ⟨s0, fun jk Q => ?_, ⟨σ0, hc⟩, ho⟩
      have h1 : (6 : Int32) ≤ nI 6 := by decide
      rw [k_C_firstBadPlace_2]
      simp only [k_C_firstBadPlace_3, k_C_firstBadPlace_5, k_C_firstBadPlace_38, k_C_firstBadPlace_39, h1, ckAll, pIx, am_ob_s, List.tail_cons, List.tail_nil, Option.toList_some, Option.toList_none, List.nil_append, List.cons_append, List.length_nil, List.length_cons, Nat.zero_le, true_and, and_true, true_implies, false_implies, not_true_eq_false, not_false_eq_true, implies_true, Nat.reduceAdd, Nat.reduceLeDiff]
    | succ r ih =>
      intro m hm s0 σ0 hc ho
      have h1 : ¬ (6 : Int32) ≤ nI m := nI_ge (a := m) (b := 6) (by omega) (by decide)
      have hG0 : PgC s0 p G := PgC_same hG (off_same ho (by omega))
      have hm6 : m < 6 := by omega
      obtain ⟨s1, e1, ⟨σ1, c1⟩, o1⟩ := e_C_firstBadPlaceOf hc hp hG0 hm6 (hok m hm6) hpar
      have hlen := (hG0.2.1 m hm6).2.2.2.2.1
      cases hf : ckFrom G (G.2.1 m) 0 (G.2.1 m).2.2.2.length ([], false) with
      | some j =>
        have hj := ckFrom_lt _ _ _ _ _ _ hf
        refine ⟨s1, fun jk Q => ?_, ⟨σ1, c1⟩, off_tr ho o1⟩
        have h2 : ¬ nI j = -1 := nI_ne1 (by omega)
        have h3 : (100 : Int32) * nI m + nI j = nI (100 * m + j) := by
          rw [show (100 : Int32) = nI 100 from rfl, pk_mul, nI_add]
        have e1 : ∀ Q : Option Value → am_H → Prop, am_C f_C_firstBadPlaceOf [.ref 248, .ref (p + 19 + 5 * m), .ref p] (TP, s0) Q ↔ Q (some (.int (nI j))) (TP, s1) := fun Q => by
          have := e1 Q
          rw [hf] at this
          exact this
        rw [k_C_firstBadPlace_2]
        simp only [k_C_firstBadPlace_3, k_C_firstBadPlace_5, k_C_firstBadPlace_8, k_C_firstBadPlace_9, k_C_firstBadPlace_10, k_C_firstBadPlace_13, k_C_firstBadPlace_14, k_C_firstBadPlace_15, k_C_firstBadPlace_16, k_C_firstBadPlace_19, k_C_firstBadPlace_20, k_C_firstBadPlace_21, k_C_firstBadPlace_22, k_C_firstBadPlace_25, k_C_firstBadPlace_27, k_C_firstBadPlace_28, k_C_firstBadPlace_29, k_C_firstBadPlace_30, k_C_firstBadPlace_31, h1, g_P1 hp, a_Pr hp hm6, rc_C, e1, h2, h3, ckAll, hf, pIx, am_ob_s, List.tail_cons, List.tail_nil, Option.toList_some, Option.toList_none, List.nil_append, List.cons_append, List.length_nil, List.length_cons, Nat.zero_le, true_and, and_true, true_implies, false_implies, not_true_eq_false, not_false_eq_true, implies_true, Nat.reduceAdd, Nat.reduceLeDiff]
      | none =>
        obtain ⟨s2, e2, c2, o2⟩ := ih (m + 1) (by omega) s1 σ1 c1 (off_tr ho o1)
        refine ⟨s2, fun jk Q => ?_, c2, o2⟩
        have e1 : ∀ Q : Option Value → am_H → Prop, am_C f_C_firstBadPlaceOf [.ref 248, .ref (p + 19 + 5 * m), .ref p] (TP, s0) Q ↔ Q (some (.int (-1))) (TP, s1) := fun Q => by
          have := e1 Q
          rw [hf] at this
          exact this
        rw [k_C_firstBadPlace_2]
        simp only [k_C_firstBadPlace_3, k_C_firstBadPlace_5, k_C_firstBadPlace_8, k_C_firstBadPlace_9, k_C_firstBadPlace_10, k_C_firstBadPlace_13, k_C_firstBadPlace_14, k_C_firstBadPlace_15, k_C_firstBadPlace_16, k_C_firstBadPlace_19, k_C_firstBadPlace_20, k_C_firstBadPlace_21, k_C_firstBadPlace_22, k_C_firstBadPlace_25, k_C_firstBadPlace_27, k_C_firstBadPlace_28, k_C_firstBadPlace_29, k_C_firstBadPlace_30, k_C_firstBadPlace_31, k_C_firstBadPlace_32, k_C_firstBadPlace_35, h1, g_P1 hp, a_Pr hp hm6, rc_C, e1, ckAll, hf, nI_1, am_ob_s, List.tail_cons, List.tail_nil, Option.toList_some, Option.toList_none, List.nil_append, List.cons_append, List.length_nil, List.length_cons, Nat.zero_le, true_and, and_true, true_implies, false_implies, not_true_eq_false, not_false_eq_true, implies_true, Nat.reduceAdd, Nat.reduceLeDiff]
        exact e2 _ Q
  obtain ⟨s1, e1, c1, o1⟩ := loop 6 0 (by omega) s σ h (off_rf _ _ _)
  refine ⟨s1, fun Q => ?_, c1, o1⟩
  rw [nI_0] at e1
  rw [c_C_firstBadPlace]
  simp only [k_C_firstBadPlace_0, k_C_firstBadPlace_1, am_ob_s, List.tail_cons, List.tail_nil, Option.toList_some, Option.toList_none, List.nil_append, List.cons_append, List.length_nil, List.length_cons, Nat.zero_le, true_and, and_true, true_implies, false_implies, not_true_eq_false, not_false_eq_true, implies_true, Nat.reduceAdd, Nat.reduceLeDiff]
  exact e1 [] Q
end SC2
