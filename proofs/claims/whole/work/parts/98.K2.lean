/-! What the constructors make -/
def zS : am_S := fun _ _ => 0
theorem zwr (i k : Nat) : am_wr zS i k 0 = zS := by
  funext i' k'
  rw [am_wr_at]
  split <;> rfl
section SK
variable {B T U : List am_D} {n k ci j : Nat} {fs : List (Option (Option Nat))} {s : am_S} {h : am_H} {Q : Option Value → am_H → Prop}
theorem e_obj (a : Nat) : am_C am_obj [.ref a] h Q ↔ Q none h := am_C_iff am_obj_mono ⟨0, none, h, rfl, rfl, rfl⟩
theorem atB (hB : B.length = n) (k : Nat) : (B ++ T)[n + k]? = T[k]? := by
  rw [List.getElem?_append_right (by omega), show n + k - B.length = k by omega]
theorem at0 (hB : B.length = n) : (B ++ T)[n]? = T[0]? := atB hB 0
theorem setB (hB : B.length = n) (k : Nat) (d : am_D) : (B ++ T).set (n + k) d = B ++ T.set k d := by
  rw [List.set_append_right _ _ (by omega), show n + k - B.length = k by omega]
theorem set0 (hB : B.length = n) (d : am_D) : (B ++ T).set n d = B ++ T.set 0 d := setB hB 0 d
theorem pfN (hB : B.length = n) : am_pf (B ++ (.inr (ci, fs) :: U), s) n ci k 2 (.ref j) = match fs[k]? with
    | some (some _) => some (B ++ (.inr (ci, fs.set k (some (some j))) :: U), s)
    | _ => none := by
  unfold am_pf
  dsimp only
  rw [at0 hB]
  simp only [List.getElem?_cons_zero, if_true]
  cases hf : fs[k]? with
  | none => rfl
  | some o =>
    cases o with
    | none => rfl
    | some z =>
      show some ((B ++ Sum.inr (ci, fs) :: U).set n (.inr (ci, fs.set k (some (some j)))), s) = _
      rw [set0 hB]
      rfl
theorem pfNi (hB : B.length = n) : am_pf (B ++ (.inr (ci, fs) :: U), zS) n ci k 0 (.int 0) = match fs[k]? with
    | some none => some (B ++ (.inr (ci, fs) :: U), zS)
    | _ => none := by
  unfold am_pf
  dsimp only
  rw [at0 hB]
  simp only [List.getElem?_cons_zero, if_true]
  cases hf : fs[k]? with
  | none => rfl
  | some o =>
    cases o with
    | none =>
      show some (B ++ Sum.inr (ci, fs) :: U, am_wr zS n k 0) = _
      rw [zwr]
    | some z => rfl
theorem pfNz (hB : B.length = n) : am_pf (B ++ (.inr (ci, fs) :: U), zS) n ci k 1 (.int 0) = match fs[k]? with
    | some none => some (B ++ (.inr (ci, fs) :: U), zS)
    | _ => none := by
  unfold am_pf
  dsimp only
  rw [at0 hB]
  simp only [List.getElem?_cons_zero, if_true]
  cases hf : fs[k]? with
  | none => rfl
  | some o =>
    cases o with
    | none =>
      show (if (0 : Int32) = 0 ∨ (0 : Int32) = 1 then some (B ++ Sum.inr (ci, fs) :: U, am_wr zS n k 0) else none) = _
      rw [if_pos (Or.inl rfl), zwr]
    | some z => rfl
theorem gfN (hB : B.length = n) : am_gf (B ++ (.inr (ci, fs) :: U), s) n ci k = match fs[k]? with
    | some none => some (.int (s n k))
    | some (some none) => some Value.null
    | some (some (some j)) => some (.ref j)
    | none => none := by
  unfold am_gf
  dsimp only
  rw [at0 hB]
  simp only [List.getElem?_cons_zero, if_true]
  cases hf : fs[k]? with
  | none => rfl
  | some o => rcases o with _ | _ | z <;> rfl
theorem e_L_init (hB : B.length = n) : am_C f_L_init [.ref n] (B ++ [.inr (0, [some none, some none, some none, none])], zS) Q ↔ Q none (B ++ tpL n, zS) := by
  rw [c_L_init]
  simp only [k_L_init_0, k_L_init_1, k_L_init_4, k_L_init_5, k_L_init_6, k_L_init_8, k_L_init_11, k_L_init_12, k_L_init_13, k_L_init_15, k_L_init_18, k_L_init_19, k_L_init_20, k_L_init_22, k_L_init_25, k_L_init_26, k_L_init_27, k_L_init_30, e_obj, am_rc, pfN hB, pfNi hB, List.append_assoc, List.cons_append, List.nil_append, List.length_append, hB, List.length_cons, List.length_nil, Nat.reduceAdd, List.getElem?_cons_succ, List.getElem?_cons_zero, List.set_cons_succ, List.set_cons_zero, tpL, am_ob_s, List.tail_cons, List.tail_nil, Option.toList_some, Option.toList_none, List.nil_append, List.cons_append, List.length_nil, List.length_cons, Nat.zero_le, true_and, and_true, true_implies, false_implies, not_true_eq_false, not_false_eq_true, implies_true, or_true, true_or, Nat.reduceAdd, Nat.reduceLeDiff]
theorem e_R_init (hB : B.length = n) : am_C f_R_init [.ref n] (B ++ [.inr (1, [some none, some none, some none, some none, none, none, none])], zS) Q ↔ Q none (B ++ tpR n, zS) := by
  rw [c_R_init]
  simp only [k_R_init_0, k_R_init_1, k_R_init_4, k_R_init_5, k_R_init_6, k_R_init_8, k_R_init_11, k_R_init_12, k_R_init_14, k_R_init_16, k_R_init_19, k_R_init_20, k_R_init_22, k_R_init_24, k_R_init_27, k_R_init_28, k_R_init_30, k_R_init_32, k_R_init_35, k_R_init_36, k_R_init_37, k_R_init_40, k_R_init_41, k_R_init_42, k_R_init_45, k_R_init_46, k_R_init_47, k_R_init_50, e_obj, am_rc, pfN hB, pfNi hB, pfNz hB, List.append_assoc, List.cons_append, List.nil_append, List.length_append, hB, List.length_cons, List.length_nil, Nat.reduceAdd, List.getElem?_cons_succ, List.getElem?_cons_zero, List.set_cons_succ, List.set_cons_zero, tpR, am_ob_s, List.tail_cons, List.tail_nil, Option.toList_some, Option.toList_none, List.nil_append, List.cons_append, List.length_nil, List.length_cons, Nat.zero_le, true_and, and_true, true_implies, false_implies, not_true_eq_false, not_false_eq_true, implies_true, or_true, true_or, Nat.reduceAdd, Nat.reduceLeDiff]
theorem e_F_init (hB : B.length = n) : am_C f_F_init [.ref n] (B ++ [.inr (7, [some none, some none, some none, none, none, none])], zS) Q ↔ Q none (B ++ tpF n, zS) := by
  rw [c_F_init]
  simp only [k_F_init_0, k_F_init_1, k_F_init_4, k_F_init_5, k_F_init_6, k_F_init_8, k_F_init_11, k_F_init_12, k_F_init_14, k_F_init_16, k_F_init_19, k_F_init_20, k_F_init_22, k_F_init_24, k_F_init_27, k_F_init_28, k_F_init_29, k_F_init_32, k_F_init_33, k_F_init_34, k_F_init_37, k_F_init_38, k_F_init_39, k_F_init_42, e_obj, am_rc, pfN hB, pfNi hB, pfNz hB, List.append_assoc, List.cons_append, List.nil_append, List.length_append, hB, List.length_cons, List.length_nil, Nat.reduceAdd, List.getElem?_cons_succ, List.getElem?_cons_zero, List.set_cons_succ, List.set_cons_zero, tpF, am_ob_s, List.tail_cons, List.tail_nil, Option.toList_some, Option.toList_none, List.nil_append, List.cons_append, List.length_nil, List.length_cons, Nat.zero_le, true_and, and_true, true_implies, false_implies, not_true_eq_false, not_false_eq_true, implies_true, or_true, true_or, Nat.reduceAdd, Nat.reduceLeDiff]
theorem e_C_init (hB : B.length = n) : am_C f_C_init [.ref n] (B ++ [.inr (4, [some none, none, none])], zS) Q ↔ Q none (B ++ [.inr (4, [some (some (n + 1)), none, none]), .inl (0, 6, none)], zS) := by
  rw [c_C_init]
  simp only [k_C_init_0, k_C_init_1, k_C_init_4, k_C_init_5, k_C_init_7, k_C_init_9, k_C_init_12, k_C_init_13, k_C_init_14, k_C_init_17, k_C_init_18, k_C_init_19, k_C_init_22, e_obj, am_rc, pfN hB, pfNi hB, pfNz hB, List.append_assoc, List.cons_append, List.nil_append, List.length_append, hB, List.length_cons, List.length_nil, Nat.reduceAdd, List.getElem?_cons_succ, List.getElem?_cons_zero, List.set_cons_succ, List.set_cons_zero, Nat.reduceAdd, am_ob_s, List.tail_cons, List.tail_nil, Option.toList_some, Option.toList_none, List.nil_append, List.cons_append, List.length_nil, List.length_cons, Nat.zero_le, true_and, and_true, true_implies, false_implies, not_true_eq_false, not_false_eq_true, implies_true, or_true, true_or, Nat.reduceAdd, Nat.reduceLeDiff]
theorem e_O_init (hB : B.length = n) : am_C f_O_init [.ref n] (B ++ [.inr (6, [some none, none])], zS) Q ↔ Q none (B ++ [.inr (6, [some (some (n + 1)), none]), .inl (0, 16, none)], zS) := by
  rw [c_O_init]
  simp only [k_O_init_0, k_O_init_1, k_O_init_4, k_O_init_5, k_O_init_7, k_O_init_9, k_O_init_12, k_O_init_13, k_O_init_14, k_O_init_17, e_obj, am_rc, pfN hB, pfNi hB, pfNz hB, List.append_assoc, List.cons_append, List.nil_append, List.length_append, hB, List.length_cons, List.length_nil, Nat.reduceAdd, List.getElem?_cons_succ, List.getElem?_cons_zero, List.set_cons_succ, List.set_cons_zero, Nat.reduceAdd, am_ob_s, List.tail_cons, List.tail_nil, Option.toList_some, Option.toList_none, List.nil_append, List.cons_append, List.length_nil, List.length_cons, Nat.zero_le, true_and, and_true, true_implies, false_implies, not_true_eq_false, not_false_eq_true, implies_true, or_true, true_or, Nat.reduceAdd, Nat.reduceLeDiff]
theorem e_H_init (hB : B.length = 252) : am_C f_H_init [.ref 252] (B ++ [.inr (5, [some none, some none, some none, some none, some none, none, none])], zS) Q ↔ Q none (B ++ tpH, zS) := by
  rw [c_H_init]
  simp only [k_H_init_0, k_H_init_1, k_H_init_4, k_H_init_5, k_H_init_7, k_H_init_9, k_H_init_12, k_H_init_13, k_H_init_15, k_H_init_16, k_H_init_20, k_H_init_23, k_H_init_24, k_H_init_25, k_H_init_27, k_H_init_30, k_H_init_31, k_H_init_33, k_H_init_35, k_H_init_38, k_H_init_39, k_H_init_41, k_H_init_43, k_H_init_46, k_H_init_47, k_H_init_48, k_H_init_51, k_H_init_52, k_H_init_53, k_H_init_56, e_obj, am_rc, pfN hB, pfNi hB, pfNz hB, List.append_assoc, List.cons_append, List.nil_append, List.length_append, hB, List.length_cons, List.length_nil, Nat.reduceAdd, List.getElem?_cons_succ, List.getElem?_cons_zero, List.set_cons_succ, List.set_cons_zero, tpH, List.length_replicate, List.length_map, List.length_range, am_ob_s, List.tail_cons, List.tail_nil, Option.toList_some, Option.toList_none, List.nil_append, List.cons_append, List.length_nil, List.length_cons, Nat.zero_le, true_and, and_true, true_implies, false_implies, not_true_eq_false, not_false_eq_true, implies_true, or_true, true_or, Nat.reduceAdd, Nat.reduceLeDiff]
end SK
