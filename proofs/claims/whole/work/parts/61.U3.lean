/-! Runner: a step -/
abbrev pRh : Type := Int32 × Int32 × (Nat → Nat) × (Nat → Nat → Int32) × (Nat → Int32) × Int32
def pAr (op : Nat) (a b : Int32) : Int32 := match op with
  | 4 => a + b
  | 5 => a - b
  | 6 => a * b
  | _ => if a < b then 1 else 0
def pArgs : Nat → List (Int32 × Nat) → (Nat → Int32) → (Nat → Int32)
  | 0, _, f => f
  | _ + 1, [], f => f
  | n + 1, e :: S, f => pArgs n S (pSet f n e.1)
def p1 (F : pFr) (k : Int32 → List (Int32 × Nat) → pMc) (d : pMc) : pMc := match F.2.2.2 with
  | [] => d
  | e :: S => k e.1 S
def p2 (F : pFr) (k : Int32 → Int32 → List (Int32 × Nat) → pMc) (d : pMc) : pMc := match F.2.2.2 with
  | e :: e' :: S => k e.1 e'.1 S
  | _ => d
def pSk (F : pFr) (S : List (Int32 × Nat)) : pFr := (F.1, F.2.1, F.2.2.1, S)
def pRow (v : Int32) : Nat := (v - 1).toNatClampNeg
/-- what an instruction does; the place of F is already the next one -/
def pOp (G : pPg) (e : Nat × Int32 × Nat) (F : pFr) (R : List pFr) (ρ : pRh) : pMc := match e.1 with
  | 0 => (pPut F e.2.1 0 :: R, ρ)
  | 1 => (pPut F 0 (kx e) :: R, ρ)
  | 2 => (pPut F (F.2.2.1 (kx e)) (lk (G.2.1 F.1).2.1 (kx e)) :: R, ρ)
  | 3 => p1 F (fun v S => ((F.1, F.2.1, pSet F.2.2.1 (kx e) v, S) :: R, ρ)) (F :: R, ρ)
  | 8 => ((F.1, kx e, F.2.2) :: R, ρ)
  | 9 => p1 F (fun v S => ((F.1, if v = 0 then kx e else F.2.1, F.2.2.1, S) :: R, ρ)) (F :: R, ρ)
  | 10 => (match fre (pRoom G (F :: R) ρ.2.2.1 ρ.2.2.2.1) 0 16 with
    | none => ([], 4, ρ.2.1, pRoom G (F :: R) ρ.2.2.1 ρ.2.2.2.1, ρ.2.2.2)
    | some j => (pPut F (nI (j + 1)) (kx e) :: R, ρ.1, ρ.2.1, pSt (pRoom G (F :: R) ρ.2.2.1 ρ.2.2.2.1) j (kx e), pSt ρ.2.2.2.1 j (fun _ => 0), ρ.2.2.2.2))
  | 11 => p1 F (fun v S => if v = 0 then ([], 3, ρ.2) else (pPut (pSk F S) (ρ.2.2.2.1 (pRow v) ((pFind (G.1 (kx e)) (nI e.2.2)).getD 0)) ((pTy (G.1 (kx e)) (nI e.2.2)).getD 0) :: R, ρ)) (F :: R, ρ)
  | 12 => p2 F (fun w v S => if v = 0 then ([], 3, ρ.2) else (pSk F S :: R, ρ.1, ρ.2.1, ρ.2.2.1, pSt ρ.2.2.2.1 (pRow v) (pSt (ρ.2.2.2.1 (pRow v)) ((pFind (G.1 (kx e)) (nI e.2.2)).getD 0) w), ρ.2.2.2.2)) (F :: R, ρ)
  | 13 => if R.length + 1 < 8 then ((kx e, 0, pArgs (G.2.1 (kx e)).1 F.2.2.2 (fun _ => 0), []) :: pSk F (F.2.2.2.drop (G.2.1 (kx e)).1) :: R, ρ) else ([], 5, ρ.2)
  | 14 => p1 F (fun v _ => match R with
    | [] => ([], 2, v, ρ.2.2)
    | C :: R' => (pPut C v (G.2.1 F.1).2.2.1 :: R', ρ)) (F :: R, ρ)
  | 15 => p2 F (fun b a S => (pPut (pSk F S) (if a = b then 1 else 0) 0 :: R, ρ)) (F :: R, ρ)
  | 16 => p1 F (fun v S => (pSk F S :: R, ρ.1, ρ.2.1, ρ.2.2.1, ρ.2.2.2.1, pSt ρ.2.2.2.2.1 (ρ.2.2.2.2.2 &&& 15).toNatClampNeg v, ρ.2.2.2.2.2 + 1)) (F :: R, ρ)
  | op => p2 F (fun b a S => (pPut (pSk F S) (pAr op a b) 0 :: R, ρ)) (F :: R, ρ)
/-- null, or a row's reference -/
def pRef (v : Int32) : Prop := v = 0 ∨ ∃ j, j < 16 ∧ v = nI (j + 1)
/-- what the check has made sure of -/
def pSh (G : pPg) (e : Nat × Int32 × Nat) (F : pFr) (R : List pFr) : Prop := match e.1 with
  | 0 => F.2.2.2.length < 6
  | 1 => F.2.2.2.length < 6
  | 2 => F.2.2.2.length < 6
  | 10 => F.2.2.2.length < 6
  | 3 => ∃ a S, F.2.2.2 = a :: S
  | 9 => ∃ a S, F.2.2.2 = a :: S
  | 16 => ∃ a S, F.2.2.2 = a :: S
  | 8 => True
  | 11 => (∃ k, pFind (G.1 (kx e)) (nI e.2.2) = some k) ∧ ∃ a S, F.2.2.2 = a :: S ∧ pRef a.1
  | 12 => (∃ k, pFind (G.1 (kx e)) (nI e.2.2) = some k) ∧ ∃ a b S, F.2.2.2 = a :: b :: S ∧ pRef b.1
  | 13 => (G.2.1 (kx e)).1 ≤ F.2.2.2.length
  | 14 => (∃ a S, F.2.2.2 = a :: S) ∧ ∀ C R', R = C :: R' → C.2.2.2.length < 6
  | _ => ∃ a b S, F.2.2.2 = a :: b :: S
section SU3
variable {s : am_S} {p : Nat} {G : pPg} {F : pFr} {R : List pFr} {ρ : pRh}
/-- a value is put on the top frame -/
theorem u_put (h : RnC s (F :: R, ρ)) (h6 : F.2.2.2.length < 6) (v : Int32) (t : Nat) : uS f_F_put [.ref (276 + 4 * R.length), .int v, .int (nI t)] s (pPut F v t :: R, ρ) := by
  obtain ⟨t1, t2, t3⟩ := RnC_top h
  obtain ⟨s', d1, d2, d3⟩ := e_F_put (bU_F t2) t1 h6 v t
  exact ⟨s', d1, RnC_topTo h d2 d3, RnC_off h d3⟩
/-- a value is taken from the top frame -/
theorem u_take (h : RnC s (F :: R, ρ)) {e : Int32 × Nat} {S : List (Int32 × Nat)} (hS : F.2.2.2 = e :: S) : ∃ s', (∀ Q : Option Value → am_H → Prop, am_C f_F_take [.ref (276 + 4 * R.length)] (TP, s) Q ↔ Q (some (.int e.1)) (TP, s')) ∧ RnC s' (pSk F S :: R, ρ) ∧ off 250 308 s s' := by
  obtain ⟨t1, t2, t3⟩ := RnC_top h
  obtain ⟨fm, fp, fl, st⟩ := F
  dsimp only at hS
  subst hS
  obtain ⟨s', d1, d2, d3⟩ := e_F_take (bU_F t2) t1
  exact ⟨s', d1, RnC_topTo h d2 d3, RnC_off h d3⟩
theorem e_U_calculate (h : RnC s (F :: R, ρ)) {e e' : Int32 × Nat} {S : List (Int32 × Nat)} (hS : F.2.2.2 = e :: e' :: S) {op : Nat} (hop : 4 ≤ op ∧ op ≤ 7) : uS f_U_calculate [.ref (276 + 4 * R.length), .int (nI op)] s (pPut (pSk F S) (pAr op e'.1 e.1) 0 :: R, ρ) := by
  have t2 := (RnC_top h).2.1
  have h6 : S.length < 6 := by
    have := (RnC_top h).1.2.2.2.2.1
    rw [hS] at this
    simp only [List.length_cons] at this
    omega
  obtain ⟨s1, a1, a2, a3⟩ := u_take h hS
  obtain ⟨s2, b1, b2, b3⟩ := u_take (F := pSk F (e' :: S)) a2 (e := e') (S := S) rfl
  obtain ⟨s3, c1, c2, c3⟩ := u_put (F := pSk F S) b2 h6 (pAr op e'.1 e.1) 0
  refine ⟨s3, fun Q => ?_, c2, off_tr (off_tr a3 b3) c3⟩
  rw [c_U_calculate]
  rw [nI_0] at c1
  rcases (show op = 4 ∨ op = 5 ∨ op = 6 ∨ op = 7 by omega) with rfl | rfl | rfl | rfl
  · have ht : am_tsw 11 58 4 6 #[25, 36, 47] (nI 4) = 36 := by decide
    have ea : pAr 4 e'.1 e.1 = e'.1 + e.1 := rfl
    rw [ea] at c1
    simp only [k_U_calculate_0, k_U_calculate_1, k_U_calculate_4, k_U_calculate_5, k_U_calculate_6, k_U_calculate_9, k_U_calculate_10, k_U_calculate_11, ht, rc_F (bU_F t2), a1, b1, k_U_calculate_36, k_U_calculate_37, k_U_calculate_38, k_U_calculate_39, k_U_calculate_40, k_U_calculate_41, k_U_calculate_44, k_U_calculate_84, c1, am_ob_s, List.tail_cons, List.tail_nil, Option.toList_some, Option.toList_none, List.nil_append, List.cons_append, List.length_nil, List.length_cons, Nat.zero_le, true_and, and_true, true_implies, false_implies, not_true_eq_false, not_false_eq_true, implies_true, or_true, true_or, Nat.reduceAdd, Nat.reduceLeDiff]
  · have ht : am_tsw 11 58 4 6 #[25, 36, 47] (nI 5) = 47 := by decide
    have ea : pAr 5 e'.1 e.1 = e'.1 - e.1 := rfl
    rw [ea] at c1
    simp only [k_U_calculate_0, k_U_calculate_1, k_U_calculate_4, k_U_calculate_5, k_U_calculate_6, k_U_calculate_9, k_U_calculate_10, k_U_calculate_11, ht, rc_F (bU_F t2), a1, b1, k_U_calculate_47, k_U_calculate_48, k_U_calculate_49, k_U_calculate_50, k_U_calculate_51, k_U_calculate_52, k_U_calculate_55, k_U_calculate_84, c1, am_ob_s, List.tail_cons, List.tail_nil, Option.toList_some, Option.toList_none, List.nil_append, List.cons_append, List.length_nil, List.length_cons, Nat.zero_le, true_and, and_true, true_implies, false_implies, not_true_eq_false, not_false_eq_true, implies_true, or_true, true_or, Nat.reduceAdd, Nat.reduceLeDiff]
  · have ht : am_tsw 11 58 4 6 #[25, 36, 47] (nI 6) = 58 := by decide
    have ea : pAr 6 e'.1 e.1 = e'.1 * e.1 := rfl
    rw [ea] at c1
    simp only [k_U_calculate_0, k_U_calculate_1, k_U_calculate_4, k_U_calculate_5, k_U_calculate_6, k_U_calculate_9, k_U_calculate_10, k_U_calculate_11, ht, rc_F (bU_F t2), a1, b1, k_U_calculate_58, k_U_calculate_59, k_U_calculate_60, k_U_calculate_61, k_U_calculate_62, k_U_calculate_63, k_U_calculate_66, k_U_calculate_84, c1, am_ob_s, List.tail_cons, List.tail_nil, Option.toList_some, Option.toList_none, List.nil_append, List.cons_append, List.length_nil, List.length_cons, Nat.zero_le, true_and, and_true, true_implies, false_implies, not_true_eq_false, not_false_eq_true, implies_true, or_true, true_or, Nat.reduceAdd, Nat.reduceLeDiff]
  · have ht : am_tsw 11 58 4 6 #[25, 36, 47] (nI 7) = 69 := by decide
    have ea : pAr 7 e'.1 e.1 = if e'.1 < e.1 then 1 else 0 := rfl
    rw [ea] at c1
    by_cases hl : e'.1 < e.1
    · have hl2 : ¬ e.1 ≤ e'.1 := Int32.not_le.mpr hl
      rw [if_pos hl] at c1
      simp only [k_U_calculate_0, k_U_calculate_1, k_U_calculate_4, k_U_calculate_5, k_U_calculate_6, k_U_calculate_9, k_U_calculate_10, k_U_calculate_11, ht, rc_F (bU_F t2), a1, b1, k_U_calculate_69, k_U_calculate_70, k_U_calculate_71, k_U_calculate_72, k_U_calculate_75, k_U_calculate_76, k_U_calculate_79, k_U_calculate_80, k_U_calculate_81, k_U_calculate_84, hl2, c1, am_ob_s, List.tail_cons, List.tail_nil, Option.toList_some, Option.toList_none, List.nil_append, List.cons_append, List.length_nil, List.length_cons, Nat.zero_le, true_and, and_true, true_implies, false_implies, not_true_eq_false, not_false_eq_true, implies_true, or_true, true_or, Nat.reduceAdd, Nat.reduceLeDiff]
    · have hl2 : e.1 ≤ e'.1 := Int32.not_lt.mp hl
      rw [if_neg hl] at c1
      simp only [k_U_calculate_0, k_U_calculate_1, k_U_calculate_4, k_U_calculate_5, k_U_calculate_6, k_U_calculate_9, k_U_calculate_10, k_U_calculate_11, ht, rc_F (bU_F t2), a1, b1, k_U_calculate_69, k_U_calculate_70, k_U_calculate_71, k_U_calculate_72, k_U_calculate_75, k_U_calculate_76, k_U_calculate_79, k_U_calculate_80, k_U_calculate_81, k_U_calculate_84, hl2, c1, am_ob_s, List.tail_cons, List.tail_nil, Option.toList_some, Option.toList_none, List.nil_append, List.cons_append, List.length_nil, List.length_cons, Nat.zero_le, true_and, and_true, true_implies, false_implies, not_true_eq_false, not_false_eq_true, implies_true, or_true, true_or, Nat.reduceAdd, Nat.reduceLeDiff]
theorem RnC_set (h : RnC s (F :: R, ρ)) (i : Nat) (v : Int32) : RnC (am_wr s (276 + 4 * R.length + 1) i v) ((F.1, F.2.1, pSet F.2.2.1 i v, F.2.2.2) :: R, ρ) ∧ off 250 308 s (am_wr s (276 + 4 * R.length + 1) i v) := by
  have o : off (276 + 4 * R.length) (276 + 4 * R.length + 4) s (am_wr s (276 + 4 * R.length + 1) i v) := off_wr _ (by omega) (by omega)
  exact ⟨RnC_topTo h (FrC_set (RnC_top h).1 i v) o, RnC_off h o⟩
theorem RnC_place (h : RnC s (F :: R, ρ)) (i : Nat) : RnC (am_wr s (276 + 4 * R.length) 5 (nI i)) ((F.1, i, F.2.2) :: R, ρ) ∧ off 250 308 s (am_wr s (276 + 4 * R.length) 5 (nI i)) := by
  have o : off (276 + 4 * R.length) (276 + 4 * R.length + 4) s (am_wr s (276 + 4 * R.length) 5 (nI i)) := off_wr _ (by omega) (by omega)
  exact ⟨RnC_topTo h (FrC_place (RnC_top h).1 i) o, RnC_off h o⟩
theorem RnC_out (h : RnC s (F :: R, ρ)) (v : Int32) : ∃ s', (∀ Q : Option Value → am_H → Prop, am_C f_O_print [.ref 274, .int v] (TP, s) Q ↔ Q none (TP, s')) ∧ RnC s' (F :: R, ρ.1, ρ.2.1, ρ.2.2.1, ρ.2.2.2.1, pSt ρ.2.2.2.2.1 (ρ.2.2.2.2.2 &&& 15).toNatClampNeg v, ρ.2.2.2.2.2 + 1) ∧ off 250 308 s s' := by
  obtain ⟨q1, q2, q3, q4, q5, q6, q7, q8, q9⟩ := h
  dsimp only at q9
  obtain ⟨j, hj, e⟩ := x16_lt (s 274 1)
  refine ⟨am_wr (am_wr s 275 j v) 274 1 (s 274 1 + 1), fun Q => ?_, ?_, off_tr (off_wr _ (by omega) (by omega)) (off_wr _ (by omega) (by omega))⟩
  · obtain ⟨j', hj', e', d⟩ := e_O_print (s := s) (Q := Q) v
    have : j' = j := (nI_eq (by omega) (by omega)).mp (e'.symm.trans e)
    subst this
    exact d
  · have o : ∀ i, i ≠ 274 → i ≠ 275 → am_wr (am_wr s 275 j v) 274 1 (s 274 1 + 1) i = s i := fun i g1 g2 => by rw [am_wr_row _ g1, am_wr_row _ g2]
    refine ⟨by rw [o 250 (by omega) (by omega)]; exact q1, q2, fun k A hk => FrC_same (q3 k A hk) (fun i g1 g2 => o i (by omega) (by omega)), by rw [o 250 (by omega) (by omega)]; exact q4, by rw [o 250 (by omega) (by omega)]; exact q5, HpC_same q6 (fun i g1 g2 => o i (by omega) (by omega)), by rw [o 252 (by omega) (by omega)]; exact q7, fun i hi => ?_, ?_⟩
    · rw [am_wr_row _ (by omega)]
      dsimp only
      rw [← q9, e, nI_clamp (by omega), am_wr_at]
      by_cases hij : i = j
      · rw [if_pos ⟨rfl, hij⟩, hij, pSt_s]
      · rw [if_neg (fun q => hij q.2), pSt_n hij]
        exact q8 i hi
    · rw [am_wr_self]
      dsimp only
      rw [q9]
set_option maxHeartbeats 1000000 in
theorem e_U_stepOnValues (h : RnC s (F :: R, ρ)) {r0 : Nat} (hr : r0 ∈ bsR) (hR : RoC s r0 (G.2.1 F.1)) {e : Nat × Int32 × Nat} (hok : okE e) (hsh : pSh G e F R) (hop : e.1 ≤ 7 ∨ e.1 = 16) : uS f_U_stepOnValues [.ref 250, .ref (276 + 4 * R.length), .int (nI e.1), .int e.2.1, .ref r0] s (pOp G e F R ρ) := by
  have t2 := (RnC_top h).2.1
  have hb := bU_F t2
  obtain ⟨op, x, y⟩ := e
  obtain ⟨h16, hy, hx⟩ := hok
  dsimp only at h16 hy hx hop ⊢
  rcases (show op = 0 ∨ op = 1 ∨ op = 2 ∨ op = 3 ∨ op = 16 ∨ (4 ≤ op ∧ op ≤ 7) by omega) with rfl | rfl | rfl | rfl | rfl | hc
  · have ht : am_lsw 1 116 #[(0, 51), (1, 60), (2, 69), (3, 89), (16, 102)] (nI 0) = 52 := by decide
    obtain ⟨s1, a1, a2, a3⟩ := u_put h hsh x 0
    refine ⟨s1, fun Q => ?_, a2, a3⟩
    rw [nI_0] at a1
    rw [c_U_stepOnValues]
    simp only [k_U_stepOnValues_0, k_U_stepOnValues_1, ht, k_U_stepOnValues_52, k_U_stepOnValues_53, k_U_stepOnValues_54, k_U_stepOnValues_55, k_U_stepOnValues_58, k_U_stepOnValues_122, rc_F hb, a1, am_ob_s, List.tail_cons, List.tail_nil, Option.toList_some, Option.toList_none, List.nil_append, List.cons_append, List.length_nil, List.length_cons, Nat.zero_le, true_and, and_true, true_implies, false_implies, not_true_eq_false, not_false_eq_true, implies_true, or_true, true_or, Nat.reduceAdd, Nat.reduceLeDiff]
  · have ht : am_lsw 1 116 #[(0, 51), (1, 60), (2, 69), (3, 89), (16, 102)] (nI 1) = 61 := by decide
    have hx := hx.resolve_left (by decide)
    obtain ⟨s1, a1, a2, a3⟩ := u_put h hsh 0 (kx (1, x, y))
    refine ⟨s1, fun Q => ?_, a2, a3⟩
    rw [← hx.1] at a1
    rw [c_U_stepOnValues]
    simp only [k_U_stepOnValues_0, k_U_stepOnValues_1, ht, k_U_stepOnValues_61, k_U_stepOnValues_62, k_U_stepOnValues_63, k_U_stepOnValues_64, k_U_stepOnValues_67, k_U_stepOnValues_122, rc_F hb, a1, am_ob_s, List.tail_cons, List.tail_nil, Option.toList_some, Option.toList_none, List.nil_append, List.cons_append, List.length_nil, List.length_cons, Nat.zero_le, true_and, and_true, true_implies, false_implies, not_true_eq_false, not_false_eq_true, implies_true, or_true, true_or, Nat.reduceAdd, Nat.reduceLeDiff]
  · have ht : am_lsw 1 116 #[(0, 51), (1, 60), (2, 69), (3, 89), (16, 102)] (nI 2) = 70 := by decide
    have hx := hx.resolve_left (by decide)
    have hk : kx (2, x, y) < 4 := hx.2.2.1 (by decide)
    have hl := hR.2.1 (kx (2, x, y)) hk
    have hv := (RnC_top h).1.2.2.1 (kx (2, x, y)) hk
    obtain ⟨s1, a1, a2, a3⟩ := u_put h hsh (F.2.2.1 (kx (2, x, y))) (lk (G.2.1 F.1).2.1 (kx (2, x, y)))
    refine ⟨s1, fun Q => ?_, a2, a3⟩
    rw [c_U_stepOnValues]
    rw [show (x = nI (kx (2, x, y))) from hx.1]
    generalize kx (2, x, y) = k at *
    simp only [k_U_stepOnValues_0, k_U_stepOnValues_1, ht, k_U_stepOnValues_70, k_U_stepOnValues_71, k_U_stepOnValues_72, k_U_stepOnValues_75, k_U_stepOnValues_76, k_U_stepOnValues_77, k_U_stepOnValues_79, k_U_stepOnValues_82, k_U_stepOnValues_83, k_U_stepOnValues_84, k_U_stepOnValues_87, k_U_stepOnValues_122, g_F0 hb, g_R0 hr, l_F1 hb hk, l_R1 hr hk, hl, hv, rc_F hb, a1, am_ob_s, List.tail_cons, List.tail_nil, Option.toList_some, Option.toList_none, List.nil_append, List.cons_append, List.length_nil, List.length_cons, Nat.zero_le, true_and, and_true, true_implies, false_implies, not_true_eq_false, not_false_eq_true, implies_true, or_true, true_or, Nat.reduceAdd, Nat.reduceLeDiff]
  · have ht : am_lsw 1 116 #[(0, 51), (1, 60), (2, 69), (3, 89), (16, 102)] (nI 3) = 90 := by decide
    have hx := hx.resolve_left (by decide)
    have hk : kx (3, x, y) < 4 := hx.2.2.1 (by decide)
    obtain ⟨a, S, hS⟩ := hsh
    obtain ⟨s1, a1, a2, a3⟩ := u_take h hS
    obtain ⟨b2, b3⟩ := RnC_set a2 (kx (3, x, y)) a.1
    refine ⟨_, fun Q => ?_, ?_, off_tr a3 b3⟩
    · rw [c_U_stepOnValues]
      have ex := hx.1
      generalize kx (3, x, y) = k at *
      rw [ex]
      simp only [k_U_stepOnValues_0, k_U_stepOnValues_1, ht, k_U_stepOnValues_90, k_U_stepOnValues_91, k_U_stepOnValues_94, k_U_stepOnValues_95, k_U_stepOnValues_96, k_U_stepOnValues_99, k_U_stepOnValues_100, k_U_stepOnValues_122, g_F0 hb, w_F1 hb hk, rc_F hb, a1, am_ob_s, List.tail_cons, List.tail_nil, Option.toList_some, Option.toList_none, List.nil_append, List.cons_append, List.length_nil, List.length_cons, Nat.zero_le, true_and, and_true, true_implies, false_implies, not_true_eq_false, not_false_eq_true, implies_true, or_true, true_or, Nat.reduceAdd, Nat.reduceLeDiff]
    · show RnC _ (p1 F _ _)
      rw [p1, hS]
      exact b2
  · have ht : am_lsw 1 116 #[(0, 51), (1, 60), (2, 69), (3, 89), (16, 102)] (nI 16) = 103 := by decide
    obtain ⟨a, S, hS⟩ := hsh
    obtain ⟨s1, a1, a2, a3⟩ := u_take h hS
    obtain ⟨s2, b1, b2, b3⟩ := RnC_out a2 a.1
    refine ⟨s2, fun Q => ?_, ?_, off_tr a3 b3⟩
    · rw [c_U_stepOnValues]
      simp only [k_U_stepOnValues_0, k_U_stepOnValues_1, ht, k_U_stepOnValues_103, k_U_stepOnValues_104, k_U_stepOnValues_107, k_U_stepOnValues_108, k_U_stepOnValues_111, k_U_stepOnValues_114, k_U_stepOnValues_122, g_U2, rc_F hb, rc_O, a1, b1, am_ob_s, List.tail_cons, List.tail_nil, Option.toList_some, Option.toList_none, List.nil_append, List.cons_append, List.length_nil, List.length_cons, Nat.zero_le, true_and, and_true, true_implies, false_implies, not_true_eq_false, not_false_eq_true, implies_true, or_true, true_or, Nat.reduceAdd, Nat.reduceLeDiff]
    · show RnC _ (p1 F _ _)
      rw [p1, hS]
      exact b2
  · have ht : am_lsw 1 116 #[(0, 51), (1, 60), (2, 69), (3, 89), (16, 102)] (nI op) = 117 := by
      rcases (show op = 4 ∨ op = 5 ∨ op = 6 ∨ op = 7 by omega) with rfl | rfl | rfl | rfl <;> decide
    have hp : pOp G (op, x, y) F R ρ = p2 F (fun b a S => (pPut (pSk F S) (pAr op a b) 0 :: R, ρ)) (F :: R, ρ) := by
      rcases (show op = 4 ∨ op = 5 ∨ op = 6 ∨ op = 7 by omega) with rfl | rfl | rfl | rfl <;> rfl
    have hsh : ∃ a b S, F.2.2.2 = a :: b :: S := by
      rcases (show op = 4 ∨ op = 5 ∨ op = 6 ∨ op = 7 by omega) with rfl | rfl | rfl | rfl <;> exact hsh
    obtain ⟨a, b, S, hS⟩ := hsh
    obtain ⟨s1, a1, a2, a3⟩ := e_U_calculate h hS hc
    refine ⟨s1, fun Q => ?_, ?_, a3⟩
    · rw [c_U_stepOnValues]
      simp only [k_U_stepOnValues_0, k_U_stepOnValues_1, ht, k_U_stepOnValues_117, k_U_stepOnValues_118, k_U_stepOnValues_119, k_U_stepOnValues_122, rc_n, rc_U, a1, am_ob_s, List.tail_cons, List.tail_nil, Option.toList_some, Option.toList_none, List.nil_append, List.cons_append, List.length_nil, List.length_cons, Nat.zero_le, true_and, and_true, true_implies, false_implies, not_true_eq_false, not_false_eq_true, implies_true, or_true, true_or, Nat.reduceAdd, Nat.reduceLeDiff]
    · rw [hp, p2, hS]
      exact a2
end SU3
