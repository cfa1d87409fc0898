/-! printed by kinit.py: the constructors, instruction by instruction -/
theorem am_aast {M : am_M} {pc : Nat} {ls st : List Value} {h : am_H} {Q : Option Value → am_H → Prop} {y : Int32} {a b : Nat} (hM : am_ok M) (hc : am_code M pc = some .aastore) : am_W M pc ls (.ref b :: .int y :: .ref a :: st) h Q ↔ am_ob (am_sa h a y b) (fun h' => am_W M (pc + 1) ls st h' Q) := by
  cases hg : am_sa h a y b with
  | some h' => exact am_go (q := (pc + 1, ls, st, h')) hM hc rfl (fun _ => by simp [am_stp, am_P, am_J, am_X, am_saF, hg, am_len])
  | none => exact am_no hc rfl (fun _ => by simp [am_stp, am_P, am_J, am_X, am_Y, am_saF, hg])
section KK
variable {ls st : List Value} {h : am_H} {Q : Option Value → am_H → Prop} {v0 v1 v2 v3 v4 v5 v6 v7 v8 v9 v10 v11 v12 : Value} {x y z : Int32} {a b : Nat}

theorem k_L_init_0 : am_W m_L_init 0 (.ref a :: ls) st h Q ↔ am_W m_L_init 1 (.ref a :: ls) (.ref a :: st) h Q := am_go (q := (1, .ref a :: ls, .ref a :: st, h)) o_L_init rfl rfl (fun _ => rfl)
theorem k_L_init_1 : am_W m_L_init 1 ls (v0 :: st) h Q ↔ (st.length ≤ 8 ∧ am_rc h [v0] none = true) ∧ am_C am_obj [v0] h (fun r h' => am_W m_L_init 4 ls (r.toList ++ st) h' Q) := am_ca o_L_init rfl (Or.inr (Or.inl rfl)) rfl [v0] st rfl
theorem k_L_init_4 : am_W m_L_init 4 (.ref a :: ls) st h Q ↔ am_W m_L_init 5 (.ref a :: ls) (.ref a :: st) h Q := am_go (q := (5, .ref a :: ls, .ref a :: st, h)) o_L_init rfl rfl (fun _ => rfl)
theorem k_L_init_5 : am_W m_L_init 5 ls st h Q ↔ am_W m_L_init 6 ls (.int 4 :: st) h Q := am_go (q := (6, ls, .int 4 :: st, h)) o_L_init rfl rfl (fun _ => rfl)
theorem k_L_init_8 : am_W m_L_init 8 ls (v0 :: .ref a :: st) h Q ↔ am_ob (am_pf h a 0 0 2 v0) (fun h' => am_W m_L_init 11 ls st h' Q) := am_putf o_L_init rfl rfl
theorem k_L_init_11 : am_W m_L_init 11 (.ref a :: ls) st h Q ↔ am_W m_L_init 12 (.ref a :: ls) (.ref a :: st) h Q := am_go (q := (12, .ref a :: ls, .ref a :: st, h)) o_L_init rfl rfl (fun _ => rfl)
theorem k_L_init_12 : am_W m_L_init 12 ls st h Q ↔ am_W m_L_init 13 ls (.int 4 :: st) h Q := am_go (q := (13, ls, .int 4 :: st, h)) o_L_init rfl rfl (fun _ => rfl)
theorem k_L_init_15 : am_W m_L_init 15 ls (v0 :: .ref a :: st) h Q ↔ am_ob (am_pf h a 0 1 2 v0) (fun h' => am_W m_L_init 18 ls st h' Q) := am_putf o_L_init rfl rfl
theorem k_L_init_18 : am_W m_L_init 18 (.ref a :: ls) st h Q ↔ am_W m_L_init 19 (.ref a :: ls) (.ref a :: st) h Q := am_go (q := (19, .ref a :: ls, .ref a :: st, h)) o_L_init rfl rfl (fun _ => rfl)
theorem k_L_init_19 : am_W m_L_init 19 ls st h Q ↔ am_W m_L_init 20 ls (.int 4 :: st) h Q := am_go (q := (20, ls, .int 4 :: st, h)) o_L_init rfl rfl (fun _ => rfl)
theorem k_L_init_22 : am_W m_L_init 22 ls (v0 :: .ref a :: st) h Q ↔ am_ob (am_pf h a 0 2 2 v0) (fun h' => am_W m_L_init 25 ls st h' Q) := am_putf o_L_init rfl rfl
theorem k_L_init_25 : am_W m_L_init 25 (.ref a :: ls) st h Q ↔ am_W m_L_init 26 (.ref a :: ls) (.ref a :: st) h Q := am_go (q := (26, .ref a :: ls, .ref a :: st, h)) o_L_init rfl rfl (fun _ => rfl)
theorem k_L_init_26 : am_W m_L_init 26 ls st h Q ↔ am_W m_L_init 27 ls (.int 0 :: st) h Q := am_go (q := (27, ls, .int 0 :: st, h)) o_L_init rfl rfl (fun _ => rfl)
theorem k_L_init_27 : am_W m_L_init 27 ls (v0 :: .ref a :: st) h Q ↔ am_ob (am_pf h a 0 3 0 v0) (fun h' => am_W m_L_init 30 ls st h' Q) := am_putf o_L_init rfl rfl
theorem k_L_init_30 : am_W m_L_init 30 ls [] h Q ↔ Q none h := am_vret rfl rfl
theorem k_L_init_6 : am_W m_L_init 6 ls (.int 4 :: st) h Q ↔ am_W m_L_init 8 ls (.ref h.1.length :: st) (h.1 ++ [.inl (0, 4, none)], h.2) Q := am_go (q := (8, ls, .ref h.1.length :: st, (h.1 ++ [.inl (0, 4, none)], h.2))) o_L_init rfl rfl (fun _ => rfl)
theorem k_L_init_13 : am_W m_L_init 13 ls (.int 4 :: st) h Q ↔ am_W m_L_init 15 ls (.ref h.1.length :: st) (h.1 ++ [.inl (0, 4, none)], h.2) Q := am_go (q := (15, ls, .ref h.1.length :: st, (h.1 ++ [.inl (0, 4, none)], h.2))) o_L_init rfl rfl (fun _ => rfl)
theorem k_L_init_20 : am_W m_L_init 20 ls (.int 4 :: st) h Q ↔ am_W m_L_init 22 ls (.ref h.1.length :: st) (h.1 ++ [.inl (0, 4, none)], h.2) Q := am_go (q := (22, ls, .ref h.1.length :: st, (h.1 ++ [.inl (0, 4, none)], h.2))) o_L_init rfl rfl (fun _ => rfl)
theorem k_R_init_0 : am_W m_R_init 0 (.ref a :: ls) st h Q ↔ am_W m_R_init 1 (.ref a :: ls) (.ref a :: st) h Q := am_go (q := (1, .ref a :: ls, .ref a :: st, h)) o_R_init rfl rfl (fun _ => rfl)
theorem k_R_init_1 : am_W m_R_init 1 ls (v0 :: st) h Q ↔ (st.length ≤ 8 ∧ am_rc h [v0] none = true) ∧ am_C am_obj [v0] h (fun r h' => am_W m_R_init 4 ls (r.toList ++ st) h' Q) := am_ca o_R_init rfl (Or.inr (Or.inl rfl)) rfl [v0] st rfl
theorem k_R_init_4 : am_W m_R_init 4 (.ref a :: ls) st h Q ↔ am_W m_R_init 5 (.ref a :: ls) (.ref a :: st) h Q := am_go (q := (5, .ref a :: ls, .ref a :: st, h)) o_R_init rfl rfl (fun _ => rfl)
theorem k_R_init_5 : am_W m_R_init 5 ls st h Q ↔ am_W m_R_init 6 ls (.int 4 :: st) h Q := am_go (q := (6, ls, .int 4 :: st, h)) o_R_init rfl rfl (fun _ => rfl)
theorem k_R_init_8 : am_W m_R_init 8 ls (v0 :: .ref a :: st) h Q ↔ am_ob (am_pf h a 1 0 2 v0) (fun h' => am_W m_R_init 11 ls st h' Q) := am_putf o_R_init rfl rfl
theorem k_R_init_11 : am_W m_R_init 11 (.ref a :: ls) st h Q ↔ am_W m_R_init 12 (.ref a :: ls) (.ref a :: st) h Q := am_go (q := (12, .ref a :: ls, .ref a :: st, h)) o_R_init rfl rfl (fun _ => rfl)
theorem k_R_init_12 : am_W m_R_init 12 ls st h Q ↔ am_W m_R_init 14 ls (.int 14 :: st) h Q := am_go (q := (14, ls, .int 14 :: st, h)) o_R_init rfl rfl (fun _ => rfl)
theorem k_R_init_16 : am_W m_R_init 16 ls (v0 :: .ref a :: st) h Q ↔ am_ob (am_pf h a 1 1 2 v0) (fun h' => am_W m_R_init 19 ls st h' Q) := am_putf o_R_init rfl rfl
theorem k_R_init_19 : am_W m_R_init 19 (.ref a :: ls) st h Q ↔ am_W m_R_init 20 (.ref a :: ls) (.ref a :: st) h Q := am_go (q := (20, .ref a :: ls, .ref a :: st, h)) o_R_init rfl rfl (fun _ => rfl)
theorem k_R_init_20 : am_W m_R_init 20 ls st h Q ↔ am_W m_R_init 22 ls (.int 14 :: st) h Q := am_go (q := (22, ls, .int 14 :: st, h)) o_R_init rfl rfl (fun _ => rfl)
theorem k_R_init_24 : am_W m_R_init 24 ls (v0 :: .ref a :: st) h Q ↔ am_ob (am_pf h a 1 2 2 v0) (fun h' => am_W m_R_init 27 ls st h' Q) := am_putf o_R_init rfl rfl
theorem k_R_init_27 : am_W m_R_init 27 (.ref a :: ls) st h Q ↔ am_W m_R_init 28 (.ref a :: ls) (.ref a :: st) h Q := am_go (q := (28, .ref a :: ls, .ref a :: st, h)) o_R_init rfl rfl (fun _ => rfl)
theorem k_R_init_28 : am_W m_R_init 28 ls st h Q ↔ am_W m_R_init 30 ls (.int 14 :: st) h Q := am_go (q := (30, ls, .int 14 :: st, h)) o_R_init rfl rfl (fun _ => rfl)
theorem k_R_init_32 : am_W m_R_init 32 ls (v0 :: .ref a :: st) h Q ↔ am_ob (am_pf h a 1 3 2 v0) (fun h' => am_W m_R_init 35 ls st h' Q) := am_putf o_R_init rfl rfl
theorem k_R_init_35 : am_W m_R_init 35 (.ref a :: ls) st h Q ↔ am_W m_R_init 36 (.ref a :: ls) (.ref a :: st) h Q := am_go (q := (36, .ref a :: ls, .ref a :: st, h)) o_R_init rfl rfl (fun _ => rfl)
theorem k_R_init_36 : am_W m_R_init 36 ls st h Q ↔ am_W m_R_init 37 ls (.int 0 :: st) h Q := am_go (q := (37, ls, .int 0 :: st, h)) o_R_init rfl rfl (fun _ => rfl)
theorem k_R_init_37 : am_W m_R_init 37 ls (v0 :: .ref a :: st) h Q ↔ am_ob (am_pf h a 1 4 0 v0) (fun h' => am_W m_R_init 40 ls st h' Q) := am_putf o_R_init rfl rfl
theorem k_R_init_40 : am_W m_R_init 40 (.ref a :: ls) st h Q ↔ am_W m_R_init 41 (.ref a :: ls) (.ref a :: st) h Q := am_go (q := (41, .ref a :: ls, .ref a :: st, h)) o_R_init rfl rfl (fun _ => rfl)
theorem k_R_init_41 : am_W m_R_init 41 ls st h Q ↔ am_W m_R_init 42 ls (.int 0 :: st) h Q := am_go (q := (42, ls, .int 0 :: st, h)) o_R_init rfl rfl (fun _ => rfl)
theorem k_R_init_42 : am_W m_R_init 42 ls (v0 :: .ref a :: st) h Q ↔ am_ob (am_pf h a 1 5 0 v0) (fun h' => am_W m_R_init 45 ls st h' Q) := am_putf o_R_init rfl rfl
theorem k_R_init_45 : am_W m_R_init 45 (.ref a :: ls) st h Q ↔ am_W m_R_init 46 (.ref a :: ls) (.ref a :: st) h Q := am_go (q := (46, .ref a :: ls, .ref a :: st, h)) o_R_init rfl rfl (fun _ => rfl)
theorem k_R_init_46 : am_W m_R_init 46 ls st h Q ↔ am_W m_R_init 47 ls (.int 0 :: st) h Q := am_go (q := (47, ls, .int 0 :: st, h)) o_R_init rfl rfl (fun _ => rfl)
theorem k_R_init_47 : am_W m_R_init 47 ls (v0 :: .ref a :: st) h Q ↔ am_ob (am_pf h a 1 6 0 v0) (fun h' => am_W m_R_init 50 ls st h' Q) := am_putf o_R_init rfl rfl
theorem k_R_init_50 : am_W m_R_init 50 ls [] h Q ↔ Q none h := am_vret rfl rfl
theorem k_R_init_6 : am_W m_R_init 6 ls (.int 4 :: st) h Q ↔ am_W m_R_init 8 ls (.ref h.1.length :: st) (h.1 ++ [.inl (0, 4, none)], h.2) Q := am_go (q := (8, ls, .ref h.1.length :: st, (h.1 ++ [.inl (0, 4, none)], h.2))) o_R_init rfl rfl (fun _ => rfl)
theorem k_R_init_14 : am_W m_R_init 14 ls (.int 14 :: st) h Q ↔ am_W m_R_init 16 ls (.ref h.1.length :: st) (h.1 ++ [.inl (0, 14, none)], h.2) Q := am_go (q := (16, ls, .ref h.1.length :: st, (h.1 ++ [.inl (0, 14, none)], h.2))) o_R_init rfl rfl (fun _ => rfl)
theorem k_R_init_22 : am_W m_R_init 22 ls (.int 14 :: st) h Q ↔ am_W m_R_init 24 ls (.ref h.1.length :: st) (h.1 ++ [.inl (0, 14, none)], h.2) Q := am_go (q := (24, ls, .ref h.1.length :: st, (h.1 ++ [.inl (0, 14, none)], h.2))) o_R_init rfl rfl (fun _ => rfl)
theorem k_R_init_30 : am_W m_R_init 30 ls (.int 14 :: st) h Q ↔ am_W m_R_init 32 ls (.ref h.1.length :: st) (h.1 ++ [.inl (0, 14, none)], h.2) Q := am_go (q := (32, ls, .ref h.1.length :: st, (h.1 ++ [.inl (0, 14, none)], h.2))) o_R_init rfl rfl (fun _ => rfl)
theorem k_P_init_0 : am_W m_P_init 0 (.ref a :: ls) st h Q ↔ am_W m_P_init 1 (.ref a :: ls) (.ref a :: st) h Q := am_go (q := (1, .ref a :: ls, .ref a :: st, h)) o_P_init rfl rfl (fun _ => rfl)
theorem k_P_init_1 : am_W m_P_init 1 ls (v0 :: st) h Q ↔ (st.length ≤ 8 ∧ am_rc h [v0] none = true) ∧ am_C am_obj [v0] h (fun r h' => am_W m_P_init 4 ls (r.toList ++ st) h' Q) := am_ca o_P_init rfl (Or.inr (Or.inl rfl)) rfl [v0] st rfl
theorem k_P_init_4 : am_W m_P_init 4 (.ref a :: ls) st h Q ↔ am_W m_P_init 5 (.ref a :: ls) (.ref a :: st) h Q := am_go (q := (5, .ref a :: ls, .ref a :: st, h)) o_P_init rfl rfl (fun _ => rfl)
theorem k_P_init_5 : am_W m_P_init 5 ls st h Q ↔ am_W m_P_init 6 ls (.int 4 :: st) h Q := am_go (q := (6, ls, .int 4 :: st, h)) o_P_init rfl rfl (fun _ => rfl)
theorem k_P_init_9 : am_W m_P_init 9 ls (v0 :: .ref a :: st) h Q ↔ am_ob (am_pf h a 2 0 2 v0) (fun h' => am_W m_P_init 12 ls st h' Q) := am_putf o_P_init rfl rfl
theorem k_P_init_12 : am_W m_P_init 12 (.ref a :: ls) st h Q ↔ am_W m_P_init 13 (.ref a :: ls) (.ref a :: st) h Q := am_go (q := (13, .ref a :: ls, .ref a :: st, h)) o_P_init rfl rfl (fun _ => rfl)
theorem k_P_init_13 : am_W m_P_init 13 ls st h Q ↔ am_W m_P_init 15 ls (.int 6 :: st) h Q := am_go (q := (15, ls, .int 6 :: st, h)) o_P_init rfl rfl (fun _ => rfl)
theorem k_P_init_18 : am_W m_P_init 18 ls (v0 :: .ref a :: st) h Q ↔ am_ob (am_pf h a 2 1 2 v0) (fun h' => am_W m_P_init 21 ls st h' Q) := am_putf o_P_init rfl rfl
theorem k_P_init_21 : am_W m_P_init 21 (.ref a :: ls) st h Q ↔ am_W m_P_init 22 (.ref a :: ls) (.ref a :: st) h Q := am_go (q := (22, .ref a :: ls, .ref a :: st, h)) o_P_init rfl rfl (fun _ => rfl)
theorem k_P_init_22 : am_W m_P_init 22 ls st h Q ↔ am_W m_P_init 23 ls (.int 0 :: st) h Q := am_go (q := (23, ls, .int 0 :: st, h)) o_P_init rfl rfl (fun _ => rfl)
theorem k_P_init_23 : am_W m_P_init 23 ls (v0 :: .ref a :: st) h Q ↔ am_ob (am_pf h a 2 2 0 v0) (fun h' => am_W m_P_init 26 ls st h' Q) := am_putf o_P_init rfl rfl
theorem k_P_init_26 : am_W m_P_init 26 (.ref a :: ls) st h Q ↔ am_W m_P_init 27 (.ref a :: ls) (.ref a :: st) h Q := am_go (q := (27, .ref a :: ls, .ref a :: st, h)) o_P_init rfl rfl (fun _ => rfl)
theorem k_P_init_27 : am_W m_P_init 27 ls st h Q ↔ am_W m_P_init 28 ls (.int 0 :: st) h Q := am_go (q := (28, ls, .int 0 :: st, h)) o_P_init rfl rfl (fun _ => rfl)
theorem k_P_init_28 : am_W m_P_init 28 ls (v0 :: .ref a :: st) h Q ↔ am_ob (am_pf h a 2 3 0 v0) (fun h' => am_W m_P_init 31 ls st h' Q) := am_putf o_P_init rfl rfl
theorem k_P_init_31 : am_W m_P_init 31 (.ref a :: ls) st h Q ↔ am_W m_P_init 32 (.ref a :: ls) (.ref a :: st) h Q := am_go (q := (32, .ref a :: ls, .ref a :: st, h)) o_P_init rfl rfl (fun _ => rfl)
theorem k_P_init_32 : am_W m_P_init 32 ls st h Q ↔ am_W m_P_init 33 ls (.int 0 :: st) h Q := am_go (q := (33, ls, .int 0 :: st, h)) o_P_init rfl rfl (fun _ => rfl)
theorem k_P_init_33 : am_W m_P_init 33 ls (v0 :: .ref a :: st) h Q ↔ am_ob (am_pf h a 2 4 0 v0) (fun h' => am_W m_P_init 36 ls st h' Q) := am_putf o_P_init rfl rfl
theorem k_P_init_36 : am_W m_P_init 36 ls st h Q ↔ am_W m_P_init 37 ls (.int 0 :: st) h Q := am_go (q := (37, ls, .int 0 :: st, h)) o_P_init rfl rfl (fun _ => rfl)
theorem k_P_init_37 : am_W m_P_init 37 (v0 :: ls) (.int x :: st) h Q ↔ am_W m_P_init 38 (v0 :: .int x :: ls.tail) st h Q := am_go (q := (38, v0 :: .int x :: ls.tail, st, h)) o_P_init rfl rfl (fun _ => rfl)
theorem k_P_init_38 : am_W m_P_init 38 (v0 :: .int x :: ls) st h Q ↔ am_W m_P_init 39 (v0 :: .int x :: ls) (.int x :: st) h Q := am_go (q := (39, v0 :: .int x :: ls, .int x :: st, h)) o_P_init rfl rfl (fun _ => rfl)
theorem k_P_init_39 : am_W m_P_init 39 ls st h Q ↔ am_W m_P_init 40 ls (.int 3 :: st) h Q := am_go (q := (40, ls, .int 3 :: st, h)) o_P_init rfl rfl (fun _ => rfl)
theorem k_P_init_40 : am_W m_P_init 40 ls (.int y :: .int x :: st) h Q ↔ (y < x → am_W m_P_init 62 ls st h Q) ∧ (¬ y < x → am_W m_P_init 43 ls st h Q) := (am_go (q := (if y < x then 62 else 43, ls, st, h)) o_P_init rfl rfl (fun _ => rfl)).trans am_ite
theorem k_P_init_43 : am_W m_P_init 43 (.ref a :: ls) st h Q ↔ am_W m_P_init 44 (.ref a :: ls) (.ref a :: st) h Q := am_go (q := (44, .ref a :: ls, .ref a :: st, h)) o_P_init rfl rfl (fun _ => rfl)
theorem k_P_init_44 : am_W m_P_init 44 ls (.ref a :: st) h Q ↔ am_ob (am_gf h a 2 0) (fun v => am_W m_P_init 47 ls (v :: st) h Q) := am_getf o_P_init rfl rfl
theorem k_P_init_47 : am_W m_P_init 47 (v0 :: .int x :: ls) st h Q ↔ am_W m_P_init 48 (v0 :: .int x :: ls) (.int x :: st) h Q := am_go (q := (48, v0 :: .int x :: ls, .int x :: st, h)) o_P_init rfl rfl (fun _ => rfl)
theorem k_P_init_48 : am_W m_P_init 48 ls st h Q ↔ am_W m_P_init 51 ls (.ref h.1.length :: st) (h.1 ++ [.inr (0, [some none, some none, some none, none])], h.2) Q := am_go (q := (51, ls, .ref h.1.length :: st, (h.1 ++ [.inr (0, [some none, some none, some none, none])], h.2))) o_P_init rfl rfl (fun _ => rfl)
theorem k_P_init_51 : am_W m_P_init 51 ls (.ref a :: st) h Q ↔ am_W m_P_init 52 ls (.ref a :: .ref a :: st) h Q := am_go (q := (52, ls, .ref a :: .ref a :: st, h)) o_P_init rfl rfl (fun _ => rfl)
theorem k_P_init_51i : am_W m_P_init 51 ls (.int x :: st) h Q ↔ am_W m_P_init 52 ls (.int x :: .int x :: st) h Q := am_go (q := (52, ls, .int x :: .int x :: st, h)) o_P_init rfl rfl (fun _ => rfl)
theorem k_P_init_52 : am_W m_P_init 52 ls (v0 :: st) h Q ↔ (st.length ≤ 8 ∧ am_rc h [v0] (some 0) = true) ∧ am_C f_L_init [v0] h (fun r h' => am_W m_P_init 55 ls (r.toList ++ st) h' Q) := am_ca o_P_init rfl (Or.inr (Or.inl rfl)) rfl [v0] st rfl
theorem k_P_init_56 : am_W m_P_init 56 (v0 :: .int x :: ls) st h Q ↔ am_W m_P_init 59 (v0 :: .int (x + 1) :: ls) st h Q := am_go (q := (59, v0 :: .int (x + 1) :: ls, st, h)) o_P_init rfl rfl (fun _ => rfl)
theorem k_P_init_59 : am_W m_P_init 59 ls st h Q ↔ am_W m_P_init 38 ls st h Q := am_go (q := (38, ls, st, h)) o_P_init rfl rfl (fun _ => rfl)
theorem k_P_init_62 : am_W m_P_init 62 ls st h Q ↔ am_W m_P_init 63 ls (.int 0 :: st) h Q := am_go (q := (63, ls, .int 0 :: st, h)) o_P_init rfl rfl (fun _ => rfl)
theorem k_P_init_63 : am_W m_P_init 63 (v0 :: ls) (.int x :: st) h Q ↔ am_W m_P_init 64 (v0 :: .int x :: ls.tail) st h Q := am_go (q := (64, v0 :: .int x :: ls.tail, st, h)) o_P_init rfl rfl (fun _ => rfl)
theorem k_P_init_64 : am_W m_P_init 64 (v0 :: .int x :: ls) st h Q ↔ am_W m_P_init 65 (v0 :: .int x :: ls) (.int x :: st) h Q := am_go (q := (65, v0 :: .int x :: ls, .int x :: st, h)) o_P_init rfl rfl (fun _ => rfl)
theorem k_P_init_65 : am_W m_P_init 65 ls st h Q ↔ am_W m_P_init 67 ls (.int 6 :: st) h Q := am_go (q := (67, ls, .int 6 :: st, h)) o_P_init rfl rfl (fun _ => rfl)
theorem k_P_init_67 : am_W m_P_init 67 ls (.int y :: .int x :: st) h Q ↔ (y ≤ x → am_W m_P_init 89 ls st h Q) ∧ (¬ y ≤ x → am_W m_P_init 70 ls st h Q) := (am_go (q := (if y ≤ x then 89 else 70, ls, st, h)) o_P_init rfl rfl (fun _ => rfl)).trans am_ite
theorem k_P_init_70 : am_W m_P_init 70 (.ref a :: ls) st h Q ↔ am_W m_P_init 71 (.ref a :: ls) (.ref a :: st) h Q := am_go (q := (71, .ref a :: ls, .ref a :: st, h)) o_P_init rfl rfl (fun _ => rfl)
theorem k_P_init_71 : am_W m_P_init 71 ls (.ref a :: st) h Q ↔ am_ob (am_gf h a 2 1) (fun v => am_W m_P_init 74 ls (v :: st) h Q) := am_getf o_P_init rfl rfl
theorem k_P_init_74 : am_W m_P_init 74 (v0 :: .int x :: ls) st h Q ↔ am_W m_P_init 75 (v0 :: .int x :: ls) (.int x :: st) h Q := am_go (q := (75, v0 :: .int x :: ls, .int x :: st, h)) o_P_init rfl rfl (fun _ => rfl)
theorem k_P_init_75 : am_W m_P_init 75 ls st h Q ↔ am_W m_P_init 78 ls (.ref h.1.length :: st) (h.1 ++ [.inr (1, [some none, some none, some none, some none, none, none, none])], h.2) Q := am_go (q := (78, ls, .ref h.1.length :: st, (h.1 ++ [.inr (1, [some none, some none, some none, some none, none, none, none])], h.2))) o_P_init rfl rfl (fun _ => rfl)
theorem k_P_init_78 : am_W m_P_init 78 ls (.ref a :: st) h Q ↔ am_W m_P_init 79 ls (.ref a :: .ref a :: st) h Q := am_go (q := (79, ls, .ref a :: .ref a :: st, h)) o_P_init rfl rfl (fun _ => rfl)
theorem k_P_init_78i : am_W m_P_init 78 ls (.int x :: st) h Q ↔ am_W m_P_init 79 ls (.int x :: .int x :: st) h Q := am_go (q := (79, ls, .int x :: .int x :: st, h)) o_P_init rfl rfl (fun _ => rfl)
theorem k_P_init_79 : am_W m_P_init 79 ls (v0 :: st) h Q ↔ (st.length ≤ 8 ∧ am_rc h [v0] (some 1) = true) ∧ am_C f_R_init [v0] h (fun r h' => am_W m_P_init 82 ls (r.toList ++ st) h' Q) := am_ca o_P_init rfl (Or.inr (Or.inl rfl)) rfl [v0] st rfl
theorem k_P_init_83 : am_W m_P_init 83 (v0 :: .int x :: ls) st h Q ↔ am_W m_P_init 86 (v0 :: .int (x + 1) :: ls) st h Q := am_go (q := (86, v0 :: .int (x + 1) :: ls, st, h)) o_P_init rfl rfl (fun _ => rfl)
theorem k_P_init_86 : am_W m_P_init 86 ls st h Q ↔ am_W m_P_init 64 ls st h Q := am_go (q := (64, ls, st, h)) o_P_init rfl rfl (fun _ => rfl)
theorem k_P_init_89 : am_W m_P_init 89 ls [] h Q ↔ Q none h := am_vret rfl rfl
theorem k_P_init_6 : am_W m_P_init 6 ls (.int 4 :: st) h Q ↔ am_W m_P_init 9 ls (.ref h.1.length :: st) (h.1 ++ [.inl (2, 4, some (List.replicate 4 none))], h.2) Q := am_go (q := (9, ls, .ref h.1.length :: st, (h.1 ++ [.inl (2, 4, some (List.replicate 4 none))], h.2))) o_P_init rfl rfl (fun _ => rfl)
theorem k_P_init_15 : am_W m_P_init 15 ls (.int 6 :: st) h Q ↔ am_W m_P_init 18 ls (.ref h.1.length :: st) (h.1 ++ [.inl (3, 6, some (List.replicate 6 none))], h.2) Q := am_go (q := (18, ls, .ref h.1.length :: st, (h.1 ++ [.inl (3, 6, some (List.replicate 6 none))], h.2))) o_P_init rfl rfl (fun _ => rfl)
theorem k_P_init_55 : am_W m_P_init 55 ls (.ref b :: .int x :: .ref a :: st) h Q ↔ am_ob (am_sa h a x b) (fun h' => am_W m_P_init 56 ls st h' Q) := am_aast o_P_init rfl
theorem k_P_init_82 : am_W m_P_init 82 ls (.ref b :: .int x :: .ref a :: st) h Q ↔ am_ob (am_sa h a x b) (fun h' => am_W m_P_init 83 ls st h' Q) := am_aast o_P_init rfl
theorem k_Q_init_0 : am_W m_Q_init 0 (.ref a :: ls) st h Q ↔ am_W m_Q_init 1 (.ref a :: ls) (.ref a :: st) h Q := am_go (q := (1, .ref a :: ls, .ref a :: st, h)) o_Q_init rfl rfl (fun _ => rfl)
theorem k_Q_init_1 : am_W m_Q_init 1 ls (v0 :: st) h Q ↔ (st.length ≤ 8 ∧ am_rc h [v0] none = true) ∧ am_C am_obj [v0] h (fun r h' => am_W m_Q_init 4 ls (r.toList ++ st) h' Q) := am_ca o_Q_init rfl (Or.inr (Or.inl rfl)) rfl [v0] st rfl
theorem k_Q_init_4 : am_W m_Q_init 4 (.ref a :: ls) st h Q ↔ am_W m_Q_init 5 (.ref a :: ls) (.ref a :: st) h Q := am_go (q := (5, .ref a :: ls, .ref a :: st, h)) o_Q_init rfl rfl (fun _ => rfl)
theorem k_Q_init_5 : am_W m_Q_init 5 ls st h Q ↔ am_W m_Q_init 6 ls (.int 4 :: st) h Q := am_go (q := (6, ls, .int 4 :: st, h)) o_Q_init rfl rfl (fun _ => rfl)
theorem k_Q_init_9 : am_W m_Q_init 9 ls (v0 :: .ref a :: st) h Q ↔ am_ob (am_pf h a 3 0 2 v0) (fun h' => am_W m_Q_init 12 ls st h' Q) := am_putf o_Q_init rfl rfl
theorem k_Q_init_12 : am_W m_Q_init 12 (.ref a :: ls) st h Q ↔ am_W m_Q_init 13 (.ref a :: ls) (.ref a :: st) h Q := am_go (q := (13, .ref a :: ls, .ref a :: st, h)) o_Q_init rfl rfl (fun _ => rfl)
theorem k_Q_init_13 : am_W m_Q_init 13 ls st h Q ↔ am_W m_Q_init 14 ls (.int 0 :: st) h Q := am_go (q := (14, ls, .int 0 :: st, h)) o_Q_init rfl rfl (fun _ => rfl)
theorem k_Q_init_14 : am_W m_Q_init 14 ls (v0 :: .ref a :: st) h Q ↔ am_ob (am_pf h a 3 1 0 v0) (fun h' => am_W m_Q_init 17 ls st h' Q) := am_putf o_Q_init rfl rfl
theorem k_Q_init_17 : am_W m_Q_init 17 (.ref a :: ls) st h Q ↔ am_W m_Q_init 18 (.ref a :: ls) (.ref a :: st) h Q := am_go (q := (18, .ref a :: ls, .ref a :: st, h)) o_Q_init rfl rfl (fun _ => rfl)
theorem k_Q_init_18 : am_W m_Q_init 18 ls st h Q ↔ am_W m_Q_init 19 ls (.int 0 :: st) h Q := am_go (q := (19, ls, .int 0 :: st, h)) o_Q_init rfl rfl (fun _ => rfl)
theorem k_Q_init_19 : am_W m_Q_init 19 ls (v0 :: .ref a :: st) h Q ↔ am_ob (am_pf h a 3 2 0 v0) (fun h' => am_W m_Q_init 22 ls st h' Q) := am_putf o_Q_init rfl rfl
theorem k_Q_init_22 : am_W m_Q_init 22 ls st h Q ↔ am_W m_Q_init 23 ls (.int 0 :: st) h Q := am_go (q := (23, ls, .int 0 :: st, h)) o_Q_init rfl rfl (fun _ => rfl)
theorem k_Q_init_23 : am_W m_Q_init 23 (v0 :: ls) (.int x :: st) h Q ↔ am_W m_Q_init 24 (v0 :: .int x :: ls.tail) st h Q := am_go (q := (24, v0 :: .int x :: ls.tail, st, h)) o_Q_init rfl rfl (fun _ => rfl)
theorem k_Q_init_24 : am_W m_Q_init 24 (v0 :: .int x :: ls) st h Q ↔ am_W m_Q_init 25 (v0 :: .int x :: ls) (.int x :: st) h Q := am_go (q := (25, v0 :: .int x :: ls, .int x :: st, h)) o_Q_init rfl rfl (fun _ => rfl)
theorem k_Q_init_25 : am_W m_Q_init 25 ls st h Q ↔ am_W m_Q_init 26 ls (.int 4 :: st) h Q := am_go (q := (26, ls, .int 4 :: st, h)) o_Q_init rfl rfl (fun _ => rfl)
theorem k_Q_init_26 : am_W m_Q_init 26 ls (.int y :: .int x :: st) h Q ↔ (y ≤ x → am_W m_Q_init 48 ls st h Q) ∧ (¬ y ≤ x → am_W m_Q_init 29 ls st h Q) := (am_go (q := (if y ≤ x then 48 else 29, ls, st, h)) o_Q_init rfl rfl (fun _ => rfl)).trans am_ite
theorem k_Q_init_29 : am_W m_Q_init 29 (.ref a :: ls) st h Q ↔ am_W m_Q_init 30 (.ref a :: ls) (.ref a :: st) h Q := am_go (q := (30, .ref a :: ls, .ref a :: st, h)) o_Q_init rfl rfl (fun _ => rfl)
theorem k_Q_init_30 : am_W m_Q_init 30 ls (.ref a :: st) h Q ↔ am_ob (am_gf h a 3 0) (fun v => am_W m_Q_init 33 ls (v :: st) h Q) := am_getf o_Q_init rfl rfl
theorem k_Q_init_33 : am_W m_Q_init 33 (v0 :: .int x :: ls) st h Q ↔ am_W m_Q_init 34 (v0 :: .int x :: ls) (.int x :: st) h Q := am_go (q := (34, v0 :: .int x :: ls, .int x :: st, h)) o_Q_init rfl rfl (fun _ => rfl)
theorem k_Q_init_34 : am_W m_Q_init 34 ls st h Q ↔ am_W m_Q_init 37 ls (.ref h.1.length :: st) (h.1 ++ [.inr (2, [some none, some none, none, none, none])], h.2) Q := am_go (q := (37, ls, .ref h.1.length :: st, (h.1 ++ [.inr (2, [some none, some none, none, none, none])], h.2))) o_Q_init rfl rfl (fun _ => rfl)
theorem k_Q_init_37 : am_W m_Q_init 37 ls (.ref a :: st) h Q ↔ am_W m_Q_init 38 ls (.ref a :: .ref a :: st) h Q := am_go (q := (38, ls, .ref a :: .ref a :: st, h)) o_Q_init rfl rfl (fun _ => rfl)
theorem k_Q_init_37i : am_W m_Q_init 37 ls (.int x :: st) h Q ↔ am_W m_Q_init 38 ls (.int x :: .int x :: st) h Q := am_go (q := (38, ls, .int x :: .int x :: st, h)) o_Q_init rfl rfl (fun _ => rfl)
theorem k_Q_init_38 : am_W m_Q_init 38 ls (v0 :: st) h Q ↔ (st.length ≤ 8 ∧ am_rc h [v0] (some 2) = true) ∧ am_C f_P_init [v0] h (fun r h' => am_W m_Q_init 41 ls (r.toList ++ st) h' Q) := am_ca o_Q_init rfl (Or.inr (Or.inl rfl)) rfl [v0] st rfl
theorem k_Q_init_42 : am_W m_Q_init 42 (v0 :: .int x :: ls) st h Q ↔ am_W m_Q_init 45 (v0 :: .int (x + 1) :: ls) st h Q := am_go (q := (45, v0 :: .int (x + 1) :: ls, st, h)) o_Q_init rfl rfl (fun _ => rfl)
theorem k_Q_init_45 : am_W m_Q_init 45 ls st h Q ↔ am_W m_Q_init 24 ls st h Q := am_go (q := (24, ls, st, h)) o_Q_init rfl rfl (fun _ => rfl)
theorem k_Q_init_48 : am_W m_Q_init 48 ls [] h Q ↔ Q none h := am_vret rfl rfl
theorem k_Q_init_6 : am_W m_Q_init 6 ls (.int 4 :: st) h Q ↔ am_W m_Q_init 9 ls (.ref h.1.length :: st) (h.1 ++ [.inl (4, 4, some (List.replicate 4 none))], h.2) Q := am_go (q := (9, ls, .ref h.1.length :: st, (h.1 ++ [.inl (4, 4, some (List.replicate 4 none))], h.2))) o_Q_init rfl rfl (fun _ => rfl)
theorem k_Q_init_41 : am_W m_Q_init 41 ls (.ref b :: .int x :: .ref a :: st) h Q ↔ am_ob (am_sa h a x b) (fun h' => am_W m_Q_init 42 ls st h' Q) := am_aast o_Q_init rfl
theorem k_C_init_0 : am_W m_C_init 0 (.ref a :: ls) st h Q ↔ am_W m_C_init 1 (.ref a :: ls) (.ref a :: st) h Q := am_go (q := (1, .ref a :: ls, .ref a :: st, h)) o_C_init rfl rfl (fun _ => rfl)
theorem k_C_init_1 : am_W m_C_init 1 ls (v0 :: st) h Q ↔ (st.length ≤ 8 ∧ am_rc h [v0] none = true) ∧ am_C am_obj [v0] h (fun r h' => am_W m_C_init 4 ls (r.toList ++ st) h' Q) := am_ca o_C_init rfl (Or.inr (Or.inl rfl)) rfl [v0] st rfl
theorem k_C_init_4 : am_W m_C_init 4 (.ref a :: ls) st h Q ↔ am_W m_C_init 5 (.ref a :: ls) (.ref a :: st) h Q := am_go (q := (5, .ref a :: ls, .ref a :: st, h)) o_C_init rfl rfl (fun _ => rfl)
theorem k_C_init_5 : am_W m_C_init 5 ls st h Q ↔ am_W m_C_init 7 ls (.int 6 :: st) h Q := am_go (q := (7, ls, .int 6 :: st, h)) o_C_init rfl rfl (fun _ => rfl)
theorem k_C_init_9 : am_W m_C_init 9 ls (v0 :: .ref a :: st) h Q ↔ am_ob (am_pf h a 4 0 2 v0) (fun h' => am_W m_C_init 12 ls st h' Q) := am_putf o_C_init rfl rfl
theorem k_C_init_12 : am_W m_C_init 12 (.ref a :: ls) st h Q ↔ am_W m_C_init 13 (.ref a :: ls) (.ref a :: st) h Q := am_go (q := (13, .ref a :: ls, .ref a :: st, h)) o_C_init rfl rfl (fun _ => rfl)
theorem k_C_init_13 : am_W m_C_init 13 ls st h Q ↔ am_W m_C_init 14 ls (.int 0 :: st) h Q := am_go (q := (14, ls, .int 0 :: st, h)) o_C_init rfl rfl (fun _ => rfl)
theorem k_C_init_14 : am_W m_C_init 14 ls (v0 :: .ref a :: st) h Q ↔ am_ob (am_pf h a 4 1 0 v0) (fun h' => am_W m_C_init 17 ls st h' Q) := am_putf o_C_init rfl rfl
theorem k_C_init_17 : am_W m_C_init 17 (.ref a :: ls) st h Q ↔ am_W m_C_init 18 (.ref a :: ls) (.ref a :: st) h Q := am_go (q := (18, .ref a :: ls, .ref a :: st, h)) o_C_init rfl rfl (fun _ => rfl)
theorem k_C_init_18 : am_W m_C_init 18 ls st h Q ↔ am_W m_C_init 19 ls (.int 0 :: st) h Q := am_go (q := (19, ls, .int 0 :: st, h)) o_C_init rfl rfl (fun _ => rfl)
theorem k_C_init_19 : am_W m_C_init 19 ls (v0 :: .ref a :: st) h Q ↔ am_ob (am_pf h a 4 2 1 v0) (fun h' => am_W m_C_init 22 ls st h' Q) := am_putf o_C_init rfl rfl
theorem k_C_init_22 : am_W m_C_init 22 ls [] h Q ↔ Q none h := am_vret rfl rfl
theorem k_C_init_7 : am_W m_C_init 7 ls (.int 6 :: st) h Q ↔ am_W m_C_init 9 ls (.ref h.1.length :: st) (h.1 ++ [.inl (0, 6, none)], h.2) Q := am_go (q := (9, ls, .ref h.1.length :: st, (h.1 ++ [.inl (0, 6, none)], h.2))) o_C_init rfl rfl (fun _ => rfl)
theorem k_H_init_0 : am_W m_H_init 0 (.ref a :: ls) st h Q ↔ am_W m_H_init 1 (.ref a :: ls) (.ref a :: st) h Q := am_go (q := (1, .ref a :: ls, .ref a :: st, h)) o_H_init rfl rfl (fun _ => rfl)
theorem k_H_init_1 : am_W m_H_init 1 ls (v0 :: st) h Q ↔ (st.length ≤ 8 ∧ am_rc h [v0] none = true) ∧ am_C am_obj [v0] h (fun r h' => am_W m_H_init 4 ls (r.toList ++ st) h' Q) := am_ca o_H_init rfl (Or.inr (Or.inl rfl)) rfl [v0] st rfl
theorem k_H_init_4 : am_W m_H_init 4 (.ref a :: ls) st h Q ↔ am_W m_H_init 5 (.ref a :: ls) (.ref a :: st) h Q := am_go (q := (5, .ref a :: ls, .ref a :: st, h)) o_H_init rfl rfl (fun _ => rfl)
theorem k_H_init_5 : am_W m_H_init 5 ls st h Q ↔ am_W m_H_init 7 ls (.int 16 :: st) h Q := am_go (q := (7, ls, .int 16 :: st, h)) o_H_init rfl rfl (fun _ => rfl)
theorem k_H_init_9 : am_W m_H_init 9 ls (v0 :: .ref a :: st) h Q ↔ am_ob (am_pf h a 5 0 2 v0) (fun h' => am_W m_H_init 12 ls st h' Q) := am_putf o_H_init rfl rfl
theorem k_H_init_12 : am_W m_H_init 12 (.ref a :: ls) st h Q ↔ am_W m_H_init 13 (.ref a :: ls) (.ref a :: st) h Q := am_go (q := (13, .ref a :: ls, .ref a :: st, h)) o_H_init rfl rfl (fun _ => rfl)
theorem k_H_init_13 : am_W m_H_init 13 ls st h Q ↔ am_W m_H_init 15 ls (.int 16 :: st) h Q := am_go (q := (15, ls, .int 16 :: st, h)) o_H_init rfl rfl (fun _ => rfl)
theorem k_H_init_15 : am_W m_H_init 15 ls st h Q ↔ am_W m_H_init 16 ls (.int 4 :: st) h Q := am_go (q := (16, ls, .int 4 :: st, h)) o_H_init rfl rfl (fun _ => rfl)
theorem k_H_init_20 : am_W m_H_init 20 ls (v0 :: .ref a :: st) h Q ↔ am_ob (am_pf h a 5 1 2 v0) (fun h' => am_W m_H_init 23 ls st h' Q) := am_putf o_H_init rfl rfl
theorem k_H_init_23 : am_W m_H_init 23 (.ref a :: ls) st h Q ↔ am_W m_H_init 24 (.ref a :: ls) (.ref a :: st) h Q := am_go (q := (24, .ref a :: ls, .ref a :: st, h)) o_H_init rfl rfl (fun _ => rfl)
theorem k_H_init_24 : am_W m_H_init 24 ls st h Q ↔ am_W m_H_init 25 ls (.int 4 :: st) h Q := am_go (q := (25, ls, .int 4 :: st, h)) o_H_init rfl rfl (fun _ => rfl)
theorem k_H_init_27 : am_W m_H_init 27 ls (v0 :: .ref a :: st) h Q ↔ am_ob (am_pf h a 5 2 2 v0) (fun h' => am_W m_H_init 30 ls st h' Q) := am_putf o_H_init rfl rfl
theorem k_H_init_30 : am_W m_H_init 30 (.ref a :: ls) st h Q ↔ am_W m_H_init 31 (.ref a :: ls) (.ref a :: st) h Q := am_go (q := (31, .ref a :: ls, .ref a :: st, h)) o_H_init rfl rfl (fun _ => rfl)
theorem k_H_init_31 : am_W m_H_init 31 ls st h Q ↔ am_W m_H_init 33 ls (.int 16 :: st) h Q := am_go (q := (33, ls, .int 16 :: st, h)) o_H_init rfl rfl (fun _ => rfl)
theorem k_H_init_35 : am_W m_H_init 35 ls (v0 :: .ref a :: st) h Q ↔ am_ob (am_pf h a 5 3 2 v0) (fun h' => am_W m_H_init 38 ls st h' Q) := am_putf o_H_init rfl rfl
theorem k_H_init_38 : am_W m_H_init 38 (.ref a :: ls) st h Q ↔ am_W m_H_init 39 (.ref a :: ls) (.ref a :: st) h Q := am_go (q := (39, .ref a :: ls, .ref a :: st, h)) o_H_init rfl rfl (fun _ => rfl)
theorem k_H_init_39 : am_W m_H_init 39 ls st h Q ↔ am_W m_H_init 41 ls (.int 16 :: st) h Q := am_go (q := (41, ls, .int 16 :: st, h)) o_H_init rfl rfl (fun _ => rfl)
theorem k_H_init_43 : am_W m_H_init 43 ls (v0 :: .ref a :: st) h Q ↔ am_ob (am_pf h a 5 4 2 v0) (fun h' => am_W m_H_init 46 ls st h' Q) := am_putf o_H_init rfl rfl
theorem k_H_init_46 : am_W m_H_init 46 (.ref a :: ls) st h Q ↔ am_W m_H_init 47 (.ref a :: ls) (.ref a :: st) h Q := am_go (q := (47, .ref a :: ls, .ref a :: st, h)) o_H_init rfl rfl (fun _ => rfl)
theorem k_H_init_47 : am_W m_H_init 47 ls st h Q ↔ am_W m_H_init 48 ls (.int 0 :: st) h Q := am_go (q := (48, ls, .int 0 :: st, h)) o_H_init rfl rfl (fun _ => rfl)
theorem k_H_init_48 : am_W m_H_init 48 ls (v0 :: .ref a :: st) h Q ↔ am_ob (am_pf h a 5 5 0 v0) (fun h' => am_W m_H_init 51 ls st h' Q) := am_putf o_H_init rfl rfl
theorem k_H_init_51 : am_W m_H_init 51 (.ref a :: ls) st h Q ↔ am_W m_H_init 52 (.ref a :: ls) (.ref a :: st) h Q := am_go (q := (52, .ref a :: ls, .ref a :: st, h)) o_H_init rfl rfl (fun _ => rfl)
theorem k_H_init_52 : am_W m_H_init 52 ls st h Q ↔ am_W m_H_init 53 ls (.int 0 :: st) h Q := am_go (q := (53, ls, .int 0 :: st, h)) o_H_init rfl rfl (fun _ => rfl)
theorem k_H_init_53 : am_W m_H_init 53 ls (v0 :: .ref a :: st) h Q ↔ am_ob (am_pf h a 5 6 0 v0) (fun h' => am_W m_H_init 56 ls st h' Q) := am_putf o_H_init rfl rfl
theorem k_H_init_56 : am_W m_H_init 56 ls [] h Q ↔ Q none h := am_vret rfl rfl
theorem k_H_init_7 : am_W m_H_init 7 ls (.int 16 :: st) h Q ↔ am_W m_H_init 9 ls (.ref h.1.length :: st) (h.1 ++ [.inl (0, 16, none)], h.2) Q := am_go (q := (9, ls, .ref h.1.length :: st, (h.1 ++ [.inl (0, 16, none)], h.2))) o_H_init rfl rfl (fun _ => rfl)
theorem k_H_init_16 : am_W m_H_init 16 ls (.int 4 :: .int 16 :: st) h Q ↔ am_W m_H_init 20 ls (.ref h.1.length :: st) (h.1 ++ ([.inl (6, 16, some ((List.range 16).map fun i => some (h.1.length + 1 + i)))] ++ List.replicate 16 (.inl (0, 4, none))), h.2) Q := am_go (q := (20, ls, .ref h.1.length :: st, (h.1 ++ ([.inl (6, 16, some ((List.range 16).map fun i => some (h.1.length + 1 + i)))] ++ List.replicate 16 (.inl (0, 4, none))), h.2))) o_H_init rfl rfl (fun _ => rfl)
theorem k_H_init_25 : am_W m_H_init 25 ls (.int 4 :: st) h Q ↔ am_W m_H_init 27 ls (.ref h.1.length :: st) (h.1 ++ [.inl (0, 4, none)], h.2) Q := am_go (q := (27, ls, .ref h.1.length :: st, (h.1 ++ [.inl (0, 4, none)], h.2))) o_H_init rfl rfl (fun _ => rfl)
theorem k_H_init_33 : am_W m_H_init 33 ls (.int 16 :: st) h Q ↔ am_W m_H_init 35 ls (.ref h.1.length :: st) (h.1 ++ [.inl (1, 16, none)], h.2) Q := am_go (q := (35, ls, .ref h.1.length :: st, (h.1 ++ [.inl (1, 16, none)], h.2))) o_H_init rfl rfl (fun _ => rfl)
theorem k_H_init_41 : am_W m_H_init 41 ls (.int 16 :: st) h Q ↔ am_W m_H_init 43 ls (.ref h.1.length :: st) (h.1 ++ [.inl (0, 16, none)], h.2) Q := am_go (q := (43, ls, .ref h.1.length :: st, (h.1 ++ [.inl (0, 16, none)], h.2))) o_H_init rfl rfl (fun _ => rfl)
theorem k_O_init_0 : am_W m_O_init 0 (.ref a :: ls) st h Q ↔ am_W m_O_init 1 (.ref a :: ls) (.ref a :: st) h Q := am_go (q := (1, .ref a :: ls, .ref a :: st, h)) o_O_init rfl rfl (fun _ => rfl)
theorem k_O_init_1 : am_W m_O_init 1 ls (v0 :: st) h Q ↔ (st.length ≤ 8 ∧ am_rc h [v0] none = true) ∧ am_C am_obj [v0] h (fun r h' => am_W m_O_init 4 ls (r.toList ++ st) h' Q) := am_ca o_O_init rfl (Or.inr (Or.inl rfl)) rfl [v0] st rfl
theorem k_O_init_4 : am_W m_O_init 4 (.ref a :: ls) st h Q ↔ am_W m_O_init 5 (.ref a :: ls) (.ref a :: st) h Q := am_go (q := (5, .ref a :: ls, .ref a :: st, h)) o_O_init rfl rfl (fun _ => rfl)
theorem k_O_init_5 : am_W m_O_init 5 ls st h Q ↔ am_W m_O_init 7 ls (.int 16 :: st) h Q := am_go (q := (7, ls, .int 16 :: st, h)) o_O_init rfl rfl (fun _ => rfl)
theorem k_O_init_9 : am_W m_O_init 9 ls (v0 :: .ref a :: st) h Q ↔ am_ob (am_pf h a 6 0 2 v0) (fun h' => am_W m_O_init 12 ls st h' Q) := am_putf o_O_init rfl rfl
theorem k_O_init_12 : am_W m_O_init 12 (.ref a :: ls) st h Q ↔ am_W m_O_init 13 (.ref a :: ls) (.ref a :: st) h Q := am_go (q := (13, .ref a :: ls, .ref a :: st, h)) o_O_init rfl rfl (fun _ => rfl)
theorem k_O_init_13 : am_W m_O_init 13 ls st h Q ↔ am_W m_O_init 14 ls (.int 0 :: st) h Q := am_go (q := (14, ls, .int 0 :: st, h)) o_O_init rfl rfl (fun _ => rfl)
theorem k_O_init_14 : am_W m_O_init 14 ls (v0 :: .ref a :: st) h Q ↔ am_ob (am_pf h a 6 1 0 v0) (fun h' => am_W m_O_init 17 ls st h' Q) := am_putf o_O_init rfl rfl
theorem k_O_init_17 : am_W m_O_init 17 ls [] h Q ↔ Q none h := am_vret rfl rfl
theorem k_O_init_7 : am_W m_O_init 7 ls (.int 16 :: st) h Q ↔ am_W m_O_init 9 ls (.ref h.1.length :: st) (h.1 ++ [.inl (0, 16, none)], h.2) Q := am_go (q := (9, ls, .ref h.1.length :: st, (h.1 ++ [.inl (0, 16, none)], h.2))) o_O_init rfl rfl (fun _ => rfl)
theorem k_F_init_0 : am_W m_F_init 0 (.ref a :: ls) st h Q ↔ am_W m_F_init 1 (.ref a :: ls) (.ref a :: st) h Q := am_go (q := (1, .ref a :: ls, .ref a :: st, h)) o_F_init rfl rfl (fun _ => rfl)
theorem k_F_init_1 : am_W m_F_init 1 ls (v0 :: st) h Q ↔ (st.length ≤ 8 ∧ am_rc h [v0] none = true) ∧ am_C am_obj [v0] h (fun r h' => am_W m_F_init 4 ls (r.toList ++ st) h' Q) := am_ca o_F_init rfl (Or.inr (Or.inl rfl)) rfl [v0] st rfl
theorem k_F_init_4 : am_W m_F_init 4 (.ref a :: ls) st h Q ↔ am_W m_F_init 5 (.ref a :: ls) (.ref a :: st) h Q := am_go (q := (5, .ref a :: ls, .ref a :: st, h)) o_F_init rfl rfl (fun _ => rfl)
theorem k_F_init_5 : am_W m_F_init 5 ls st h Q ↔ am_W m_F_init 6 ls (.int 4 :: st) h Q := am_go (q := (6, ls, .int 4 :: st, h)) o_F_init rfl rfl (fun _ => rfl)
theorem k_F_init_8 : am_W m_F_init 8 ls (v0 :: .ref a :: st) h Q ↔ am_ob (am_pf h a 7 0 2 v0) (fun h' => am_W m_F_init 11 ls st h' Q) := am_putf o_F_init rfl rfl
theorem k_F_init_11 : am_W m_F_init 11 (.ref a :: ls) st h Q ↔ am_W m_F_init 12 (.ref a :: ls) (.ref a :: st) h Q := am_go (q := (12, .ref a :: ls, .ref a :: st, h)) o_F_init rfl rfl (fun _ => rfl)
theorem k_F_init_12 : am_W m_F_init 12 ls st h Q ↔ am_W m_F_init 14 ls (.int 6 :: st) h Q := am_go (q := (14, ls, .int 6 :: st, h)) o_F_init rfl rfl (fun _ => rfl)
theorem k_F_init_16 : am_W m_F_init 16 ls (v0 :: .ref a :: st) h Q ↔ am_ob (am_pf h a 7 1 2 v0) (fun h' => am_W m_F_init 19 ls st h' Q) := am_putf o_F_init rfl rfl
theorem k_F_init_19 : am_W m_F_init 19 (.ref a :: ls) st h Q ↔ am_W m_F_init 20 (.ref a :: ls) (.ref a :: st) h Q := am_go (q := (20, .ref a :: ls, .ref a :: st, h)) o_F_init rfl rfl (fun _ => rfl)
theorem k_F_init_20 : am_W m_F_init 20 ls st h Q ↔ am_W m_F_init 22 ls (.int 6 :: st) h Q := am_go (q := (22, ls, .int 6 :: st, h)) o_F_init rfl rfl (fun _ => rfl)
theorem k_F_init_24 : am_W m_F_init 24 ls (v0 :: .ref a :: st) h Q ↔ am_ob (am_pf h a 7 2 2 v0) (fun h' => am_W m_F_init 27 ls st h' Q) := am_putf o_F_init rfl rfl
theorem k_F_init_27 : am_W m_F_init 27 (.ref a :: ls) st h Q ↔ am_W m_F_init 28 (.ref a :: ls) (.ref a :: st) h Q := am_go (q := (28, .ref a :: ls, .ref a :: st, h)) o_F_init rfl rfl (fun _ => rfl)
theorem k_F_init_28 : am_W m_F_init 28 ls st h Q ↔ am_W m_F_init 29 ls (.int 0 :: st) h Q := am_go (q := (29, ls, .int 0 :: st, h)) o_F_init rfl rfl (fun _ => rfl)
theorem k_F_init_29 : am_W m_F_init 29 ls (v0 :: .ref a :: st) h Q ↔ am_ob (am_pf h a 7 3 0 v0) (fun h' => am_W m_F_init 32 ls st h' Q) := am_putf o_F_init rfl rfl
theorem k_F_init_32 : am_W m_F_init 32 (.ref a :: ls) st h Q ↔ am_W m_F_init 33 (.ref a :: ls) (.ref a :: st) h Q := am_go (q := (33, .ref a :: ls, .ref a :: st, h)) o_F_init rfl rfl (fun _ => rfl)
theorem k_F_init_33 : am_W m_F_init 33 ls st h Q ↔ am_W m_F_init 34 ls (.int 0 :: st) h Q := am_go (q := (34, ls, .int 0 :: st, h)) o_F_init rfl rfl (fun _ => rfl)
theorem k_F_init_34 : am_W m_F_init 34 ls (v0 :: .ref a :: st) h Q ↔ am_ob (am_pf h a 7 4 0 v0) (fun h' => am_W m_F_init 37 ls st h' Q) := am_putf o_F_init rfl rfl
theorem k_F_init_37 : am_W m_F_init 37 (.ref a :: ls) st h Q ↔ am_W m_F_init 38 (.ref a :: ls) (.ref a :: st) h Q := am_go (q := (38, .ref a :: ls, .ref a :: st, h)) o_F_init rfl rfl (fun _ => rfl)
theorem k_F_init_38 : am_W m_F_init 38 ls st h Q ↔ am_W m_F_init 39 ls (.int 0 :: st) h Q := am_go (q := (39, ls, .int 0 :: st, h)) o_F_init rfl rfl (fun _ => rfl)
theorem k_F_init_39 : am_W m_F_init 39 ls (v0 :: .ref a :: st) h Q ↔ am_ob (am_pf h a 7 5 0 v0) (fun h' => am_W m_F_init 42 ls st h' Q) := am_putf o_F_init rfl rfl
theorem k_F_init_42 : am_W m_F_init 42 ls [] h Q ↔ Q none h := am_vret rfl rfl
theorem k_F_init_6 : am_W m_F_init 6 ls (.int 4 :: st) h Q ↔ am_W m_F_init 8 ls (.ref h.1.length :: st) (h.1 ++ [.inl (0, 4, none)], h.2) Q := am_go (q := (8, ls, .ref h.1.length :: st, (h.1 ++ [.inl (0, 4, none)], h.2))) o_F_init rfl rfl (fun _ => rfl)
theorem k_F_init_14 : am_W m_F_init 14 ls (.int 6 :: st) h Q ↔ am_W m_F_init 16 ls (.ref h.1.length :: st) (h.1 ++ [.inl (0, 6, none)], h.2) Q := am_go (q := (16, ls, .ref h.1.length :: st, (h.1 ++ [.inl (0, 6, none)], h.2))) o_F_init rfl rfl (fun _ => rfl)
theorem k_F_init_22 : am_W m_F_init 22 ls (.int 6 :: st) h Q ↔ am_W m_F_init 24 ls (.ref h.1.length :: st) (h.1 ++ [.inl (0, 6, none)], h.2) Q := am_go (q := (24, ls, .ref h.1.length :: st, (h.1 ++ [.inl (0, 6, none)], h.2))) o_F_init rfl rfl (fun _ => rfl)
theorem k_U_init_0 : am_W m_U_init 0 (.ref a :: ls) st h Q ↔ am_W m_U_init 1 (.ref a :: ls) (.ref a :: st) h Q := am_go (q := (1, .ref a :: ls, .ref a :: st, h)) o_U_init rfl rfl (fun _ => rfl)
theorem k_U_init_1 : am_W m_U_init 1 ls (v0 :: st) h Q ↔ (st.length ≤ 8 ∧ am_rc h [v0] none = true) ∧ am_C am_obj [v0] h (fun r h' => am_W m_U_init 4 ls (r.toList ++ st) h' Q) := am_ca o_U_init rfl (Or.inr (Or.inl rfl)) rfl [v0] st rfl
theorem k_U_init_4 : am_W m_U_init 4 (.ref a :: ls) st h Q ↔ am_W m_U_init 5 (.ref a :: ls) (.ref a :: st) h Q := am_go (q := (5, .ref a :: ls, .ref a :: st, h)) o_U_init rfl rfl (fun _ => rfl)
theorem k_U_init_5 : am_W m_U_init 5 ls st h Q ↔ am_W m_U_init 7 ls (.int 8 :: st) h Q := am_go (q := (7, ls, .int 8 :: st, h)) o_U_init rfl rfl (fun _ => rfl)
theorem k_U_init_10 : am_W m_U_init 10 ls (v0 :: .ref a :: st) h Q ↔ am_ob (am_pf h a 8 0 2 v0) (fun h' => am_W m_U_init 13 ls st h' Q) := am_putf o_U_init rfl rfl
theorem k_U_init_13 : am_W m_U_init 13 (.ref a :: ls) st h Q ↔ am_W m_U_init 14 (.ref a :: ls) (.ref a :: st) h Q := am_go (q := (14, .ref a :: ls, .ref a :: st, h)) o_U_init rfl rfl (fun _ => rfl)
theorem k_U_init_14 : am_W m_U_init 14 ls st h Q ↔ am_W m_U_init 17 ls (.ref h.1.length :: st) (h.1 ++ [.inr (5, [some none, some none, some none, some none, some none, none, none])], h.2) Q := am_go (q := (17, ls, .ref h.1.length :: st, (h.1 ++ [.inr (5, [some none, some none, some none, some none, some none, none, none])], h.2))) o_U_init rfl rfl (fun _ => rfl)
theorem k_U_init_17 : am_W m_U_init 17 ls (.ref a :: st) h Q ↔ am_W m_U_init 18 ls (.ref a :: .ref a :: st) h Q := am_go (q := (18, ls, .ref a :: .ref a :: st, h)) o_U_init rfl rfl (fun _ => rfl)
theorem k_U_init_17i : am_W m_U_init 17 ls (.int x :: st) h Q ↔ am_W m_U_init 18 ls (.int x :: .int x :: st) h Q := am_go (q := (18, ls, .int x :: .int x :: st, h)) o_U_init rfl rfl (fun _ => rfl)
theorem k_U_init_18 : am_W m_U_init 18 ls (v0 :: st) h Q ↔ (st.length ≤ 8 ∧ am_rc h [v0] (some 5) = true) ∧ am_C f_H_init [v0] h (fun r h' => am_W m_U_init 21 ls (r.toList ++ st) h' Q) := am_ca o_U_init rfl (Or.inr (Or.inl rfl)) rfl [v0] st rfl
theorem k_U_init_21 : am_W m_U_init 21 ls (v0 :: .ref a :: st) h Q ↔ am_ob (am_pf h a 8 1 2 v0) (fun h' => am_W m_U_init 24 ls st h' Q) := am_putf o_U_init rfl rfl
theorem k_U_init_24 : am_W m_U_init 24 (.ref a :: ls) st h Q ↔ am_W m_U_init 25 (.ref a :: ls) (.ref a :: st) h Q := am_go (q := (25, .ref a :: ls, .ref a :: st, h)) o_U_init rfl rfl (fun _ => rfl)
theorem k_U_init_25 : am_W m_U_init 25 ls st h Q ↔ am_W m_U_init 28 ls (.ref h.1.length :: st) (h.1 ++ [.inr (6, [some none, none])], h.2) Q := am_go (q := (28, ls, .ref h.1.length :: st, (h.1 ++ [.inr (6, [some none, none])], h.2))) o_U_init rfl rfl (fun _ => rfl)
theorem k_U_init_28 : am_W m_U_init 28 ls (.ref a :: st) h Q ↔ am_W m_U_init 29 ls (.ref a :: .ref a :: st) h Q := am_go (q := (29, ls, .ref a :: .ref a :: st, h)) o_U_init rfl rfl (fun _ => rfl)
theorem k_U_init_28i : am_W m_U_init 28 ls (.int x :: st) h Q ↔ am_W m_U_init 29 ls (.int x :: .int x :: st) h Q := am_go (q := (29, ls, .int x :: .int x :: st, h)) o_U_init rfl rfl (fun _ => rfl)
theorem k_U_init_29 : am_W m_U_init 29 ls (v0 :: st) h Q ↔ (st.length ≤ 8 ∧ am_rc h [v0] (some 6) = true) ∧ am_C f_O_init [v0] h (fun r h' => am_W m_U_init 32 ls (r.toList ++ st) h' Q) := am_ca o_U_init rfl (Or.inr (Or.inl rfl)) rfl [v0] st rfl
theorem k_U_init_32 : am_W m_U_init 32 ls (v0 :: .ref a :: st) h Q ↔ am_ob (am_pf h a 8 2 2 v0) (fun h' => am_W m_U_init 35 ls st h' Q) := am_putf o_U_init rfl rfl
theorem k_U_init_35 : am_W m_U_init 35 (.ref a :: ls) st h Q ↔ am_W m_U_init 36 (.ref a :: ls) (.ref a :: st) h Q := am_go (q := (36, .ref a :: ls, .ref a :: st, h)) o_U_init rfl rfl (fun _ => rfl)
theorem k_U_init_36 : am_W m_U_init 36 ls st h Q ↔ am_W m_U_init 37 ls (.int 0 :: st) h Q := am_go (q := (37, ls, .int 0 :: st, h)) o_U_init rfl rfl (fun _ => rfl)
theorem k_U_init_37 : am_W m_U_init 37 ls (v0 :: .ref a :: st) h Q ↔ am_ob (am_pf h a 8 3 0 v0) (fun h' => am_W m_U_init 40 ls st h' Q) := am_putf o_U_init rfl rfl
theorem k_U_init_40 : am_W m_U_init 40 (.ref a :: ls) st h Q ↔ am_W m_U_init 41 (.ref a :: ls) (.ref a :: st) h Q := am_go (q := (41, .ref a :: ls, .ref a :: st, h)) o_U_init rfl rfl (fun _ => rfl)
theorem k_U_init_41 : am_W m_U_init 41 ls st h Q ↔ am_W m_U_init 42 ls (.int 0 :: st) h Q := am_go (q := (42, ls, .int 0 :: st, h)) o_U_init rfl rfl (fun _ => rfl)
theorem k_U_init_42 : am_W m_U_init 42 ls (v0 :: .ref a :: st) h Q ↔ am_ob (am_pf h a 8 4 0 v0) (fun h' => am_W m_U_init 45 ls st h' Q) := am_putf o_U_init rfl rfl
theorem k_U_init_45 : am_W m_U_init 45 (.ref a :: ls) st h Q ↔ am_W m_U_init 46 (.ref a :: ls) (.ref a :: st) h Q := am_go (q := (46, .ref a :: ls, .ref a :: st, h)) o_U_init rfl rfl (fun _ => rfl)
theorem k_U_init_46 : am_W m_U_init 46 ls st h Q ↔ am_W m_U_init 47 ls (.int 0 :: st) h Q := am_go (q := (47, ls, .int 0 :: st, h)) o_U_init rfl rfl (fun _ => rfl)
theorem k_U_init_47 : am_W m_U_init 47 ls (v0 :: .ref a :: st) h Q ↔ am_ob (am_pf h a 8 5 0 v0) (fun h' => am_W m_U_init 50 ls st h' Q) := am_putf o_U_init rfl rfl
theorem k_U_init_50 : am_W m_U_init 50 ls st h Q ↔ am_W m_U_init 51 ls (.int 0 :: st) h Q := am_go (q := (51, ls, .int 0 :: st, h)) o_U_init rfl rfl (fun _ => rfl)
theorem k_U_init_51 : am_W m_U_init 51 (v0 :: ls) (.int x :: st) h Q ↔ am_W m_U_init 52 (v0 :: .int x :: ls.tail) st h Q := am_go (q := (52, v0 :: .int x :: ls.tail, st, h)) o_U_init rfl rfl (fun _ => rfl)
theorem k_U_init_52 : am_W m_U_init 52 (v0 :: .int x :: ls) st h Q ↔ am_W m_U_init 53 (v0 :: .int x :: ls) (.int x :: st) h Q := am_go (q := (53, v0 :: .int x :: ls, .int x :: st, h)) o_U_init rfl rfl (fun _ => rfl)
theorem k_U_init_53 : am_W m_U_init 53 ls st h Q ↔ am_W m_U_init 55 ls (.int 8 :: st) h Q := am_go (q := (55, ls, .int 8 :: st, h)) o_U_init rfl rfl (fun _ => rfl)
theorem k_U_init_55 : am_W m_U_init 55 ls (.int y :: .int x :: st) h Q ↔ (y ≤ x → am_W m_U_init 77 ls st h Q) ∧ (¬ y ≤ x → am_W m_U_init 58 ls st h Q) := (am_go (q := (if y ≤ x then 77 else 58, ls, st, h)) o_U_init rfl rfl (fun _ => rfl)).trans am_ite
theorem k_U_init_58 : am_W m_U_init 58 (.ref a :: ls) st h Q ↔ am_W m_U_init 59 (.ref a :: ls) (.ref a :: st) h Q := am_go (q := (59, .ref a :: ls, .ref a :: st, h)) o_U_init rfl rfl (fun _ => rfl)
theorem k_U_init_59 : am_W m_U_init 59 ls (.ref a :: st) h Q ↔ am_ob (am_gf h a 8 0) (fun v => am_W m_U_init 62 ls (v :: st) h Q) := am_getf o_U_init rfl rfl
theorem k_U_init_62 : am_W m_U_init 62 (v0 :: .int x :: ls) st h Q ↔ am_W m_U_init 63 (v0 :: .int x :: ls) (.int x :: st) h Q := am_go (q := (63, v0 :: .int x :: ls, .int x :: st, h)) o_U_init rfl rfl (fun _ => rfl)
theorem k_U_init_63 : am_W m_U_init 63 ls st h Q ↔ am_W m_U_init 66 ls (.ref h.1.length :: st) (h.1 ++ [.inr (7, [some none, some none, some none, none, none, none])], h.2) Q := am_go (q := (66, ls, .ref h.1.length :: st, (h.1 ++ [.inr (7, [some none, some none, some none, none, none, none])], h.2))) o_U_init rfl rfl (fun _ => rfl)
theorem k_U_init_66 : am_W m_U_init 66 ls (.ref a :: st) h Q ↔ am_W m_U_init 67 ls (.ref a :: .ref a :: st) h Q := am_go (q := (67, ls, .ref a :: .ref a :: st, h)) o_U_init rfl rfl (fun _ => rfl)
theorem k_U_init_66i : am_W m_U_init 66 ls (.int x :: st) h Q ↔ am_W m_U_init 67 ls (.int x :: .int x :: st) h Q := am_go (q := (67, ls, .int x :: .int x :: st, h)) o_U_init rfl rfl (fun _ => rfl)
theorem k_U_init_67 : am_W m_U_init 67 ls (v0 :: st) h Q ↔ (st.length ≤ 8 ∧ am_rc h [v0] (some 7) = true) ∧ am_C f_F_init [v0] h (fun r h' => am_W m_U_init 70 ls (r.toList ++ st) h' Q) := am_ca o_U_init rfl (Or.inr (Or.inl rfl)) rfl [v0] st rfl
theorem k_U_init_71 : am_W m_U_init 71 (v0 :: .int x :: ls) st h Q ↔ am_W m_U_init 74 (v0 :: .int (x + 1) :: ls) st h Q := am_go (q := (74, v0 :: .int (x + 1) :: ls, st, h)) o_U_init rfl rfl (fun _ => rfl)
theorem k_U_init_74 : am_W m_U_init 74 ls st h Q ↔ am_W m_U_init 52 ls st h Q := am_go (q := (52, ls, st, h)) o_U_init rfl rfl (fun _ => rfl)
theorem k_U_init_77 : am_W m_U_init 77 ls [] h Q ↔ Q none h := am_vret rfl rfl
theorem k_U_init_7 : am_W m_U_init 7 ls (.int 8 :: st) h Q ↔ am_W m_U_init 10 ls (.ref h.1.length :: st) (h.1 ++ [.inl (5, 8, some (List.replicate 8 none))], h.2) Q := am_go (q := (10, ls, .ref h.1.length :: st, (h.1 ++ [.inl (5, 8, some (List.replicate 8 none))], h.2))) o_U_init rfl rfl (fun _ => rfl)
theorem k_U_init_70 : am_W m_U_init 70 ls (.ref b :: .int x :: .ref a :: st) h Q ↔ am_ob (am_sa h a x b) (fun h' => am_W m_U_init 71 ls st h' Q) := am_aast o_U_init rfl
theorem k_X_init_0 : am_W m_X_init 0 (.ref a :: ls) st h Q ↔ am_W m_X_init 1 (.ref a :: ls) (.ref a :: st) h Q := am_go (q := (1, .ref a :: ls, .ref a :: st, h)) o_X_init rfl rfl (fun _ => rfl)
theorem k_X_init_1 : am_W m_X_init 1 ls (v0 :: st) h Q ↔ (st.length ≤ 8 ∧ am_rc h [v0] none = true) ∧ am_C am_obj [v0] h (fun r h' => am_W m_X_init 4 ls (r.toList ++ st) h' Q) := am_ca o_X_init rfl (Or.inr (Or.inl rfl)) rfl [v0] st rfl
theorem k_X_init_4 : am_W m_X_init 4 (.ref a :: ls) st h Q ↔ am_W m_X_init 5 (.ref a :: ls) (.ref a :: st) h Q := am_go (q := (5, .ref a :: ls, .ref a :: st, h)) o_X_init rfl rfl (fun _ => rfl)
theorem k_X_init_5 : am_W m_X_init 5 ls st h Q ↔ am_W m_X_init 8 ls (.ref h.1.length :: st) (h.1 ++ [.inr (2, [some none, some none, none, none, none])], h.2) Q := am_go (q := (8, ls, .ref h.1.length :: st, (h.1 ++ [.inr (2, [some none, some none, none, none, none])], h.2))) o_X_init rfl rfl (fun _ => rfl)
theorem k_X_init_8 : am_W m_X_init 8 ls (.ref a :: st) h Q ↔ am_W m_X_init 9 ls (.ref a :: .ref a :: st) h Q := am_go (q := (9, ls, .ref a :: .ref a :: st, h)) o_X_init rfl rfl (fun _ => rfl)
theorem k_X_init_8i : am_W m_X_init 8 ls (.int x :: st) h Q ↔ am_W m_X_init 9 ls (.int x :: .int x :: st) h Q := am_go (q := (9, ls, .int x :: .int x :: st, h)) o_X_init rfl rfl (fun _ => rfl)
theorem k_X_init_9 : am_W m_X_init 9 ls (v0 :: st) h Q ↔ (st.length ≤ 8 ∧ am_rc h [v0] (some 2) = true) ∧ am_C f_P_init [v0] h (fun r h' => am_W m_X_init 12 ls (r.toList ++ st) h' Q) := am_ca o_X_init rfl (Or.inr (Or.inl rfl)) rfl [v0] st rfl
theorem k_X_init_12 : am_W m_X_init 12 ls (v0 :: .ref a :: st) h Q ↔ am_ob (am_pf h a 9 0 2 v0) (fun h' => am_W m_X_init 15 ls st h' Q) := am_putf o_X_init rfl rfl
theorem k_X_init_15 : am_W m_X_init 15 (.ref a :: ls) st h Q ↔ am_W m_X_init 16 (.ref a :: ls) (.ref a :: st) h Q := am_go (q := (16, .ref a :: ls, .ref a :: st, h)) o_X_init rfl rfl (fun _ => rfl)
theorem k_X_init_16 : am_W m_X_init 16 ls st h Q ↔ am_W m_X_init 19 ls (.ref h.1.length :: st) (h.1 ++ [.inr (3, [some none, none, none])], h.2) Q := am_go (q := (19, ls, .ref h.1.length :: st, (h.1 ++ [.inr (3, [some none, none, none])], h.2))) o_X_init rfl rfl (fun _ => rfl)
theorem k_X_init_19 : am_W m_X_init 19 ls (.ref a :: st) h Q ↔ am_W m_X_init 20 ls (.ref a :: .ref a :: st) h Q := am_go (q := (20, ls, .ref a :: .ref a :: st, h)) o_X_init rfl rfl (fun _ => rfl)
theorem k_X_init_19i : am_W m_X_init 19 ls (.int x :: st) h Q ↔ am_W m_X_init 20 ls (.int x :: .int x :: st) h Q := am_go (q := (20, ls, .int x :: .int x :: st, h)) o_X_init rfl rfl (fun _ => rfl)
theorem k_X_init_20 : am_W m_X_init 20 ls (v0 :: st) h Q ↔ (st.length ≤ 8 ∧ am_rc h [v0] (some 3) = true) ∧ am_C f_Q_init [v0] h (fun r h' => am_W m_X_init 23 ls (r.toList ++ st) h' Q) := am_ca o_X_init rfl (Or.inr (Or.inl rfl)) rfl [v0] st rfl
theorem k_X_init_23 : am_W m_X_init 23 ls (v0 :: .ref a :: st) h Q ↔ am_ob (am_pf h a 9 1 2 v0) (fun h' => am_W m_X_init 26 ls st h' Q) := am_putf o_X_init rfl rfl
theorem k_X_init_26 : am_W m_X_init 26 (.ref a :: ls) st h Q ↔ am_W m_X_init 27 (.ref a :: ls) (.ref a :: st) h Q := am_go (q := (27, .ref a :: ls, .ref a :: st, h)) o_X_init rfl rfl (fun _ => rfl)
theorem k_X_init_27 : am_W m_X_init 27 ls st h Q ↔ am_W m_X_init 30 ls (.ref h.1.length :: st) (h.1 ++ [.inr (4, [some none, none, none])], h.2) Q := am_go (q := (30, ls, .ref h.1.length :: st, (h.1 ++ [.inr (4, [some none, none, none])], h.2))) o_X_init rfl rfl (fun _ => rfl)
theorem k_X_init_30 : am_W m_X_init 30 ls (.ref a :: st) h Q ↔ am_W m_X_init 31 ls (.ref a :: .ref a :: st) h Q := am_go (q := (31, ls, .ref a :: .ref a :: st, h)) o_X_init rfl rfl (fun _ => rfl)
theorem k_X_init_30i : am_W m_X_init 30 ls (.int x :: st) h Q ↔ am_W m_X_init 31 ls (.int x :: .int x :: st) h Q := am_go (q := (31, ls, .int x :: .int x :: st, h)) o_X_init rfl rfl (fun _ => rfl)
theorem k_X_init_31 : am_W m_X_init 31 ls (v0 :: st) h Q ↔ (st.length ≤ 8 ∧ am_rc h [v0] (some 4) = true) ∧ am_C f_C_init [v0] h (fun r h' => am_W m_X_init 34 ls (r.toList ++ st) h' Q) := am_ca o_X_init rfl (Or.inr (Or.inl rfl)) rfl [v0] st rfl
theorem k_X_init_34 : am_W m_X_init 34 ls (v0 :: .ref a :: st) h Q ↔ am_ob (am_pf h a 9 2 2 v0) (fun h' => am_W m_X_init 37 ls st h' Q) := am_putf o_X_init rfl rfl
theorem k_X_init_37 : am_W m_X_init 37 (.ref a :: ls) st h Q ↔ am_W m_X_init 38 (.ref a :: ls) (.ref a :: st) h Q := am_go (q := (38, .ref a :: ls, .ref a :: st, h)) o_X_init rfl rfl (fun _ => rfl)
theorem k_X_init_38 : am_W m_X_init 38 ls st h Q ↔ am_W m_X_init 41 ls (.ref h.1.length :: st) (h.1 ++ [.inr (8, [some none, some none, some none, none, none, none])], h.2) Q := am_go (q := (41, ls, .ref h.1.length :: st, (h.1 ++ [.inr (8, [some none, some none, some none, none, none, none])], h.2))) o_X_init rfl rfl (fun _ => rfl)
theorem k_X_init_41 : am_W m_X_init 41 ls (.ref a :: st) h Q ↔ am_W m_X_init 42 ls (.ref a :: .ref a :: st) h Q := am_go (q := (42, ls, .ref a :: .ref a :: st, h)) o_X_init rfl rfl (fun _ => rfl)
theorem k_X_init_41i : am_W m_X_init 41 ls (.int x :: st) h Q ↔ am_W m_X_init 42 ls (.int x :: .int x :: st) h Q := am_go (q := (42, ls, .int x :: .int x :: st, h)) o_X_init rfl rfl (fun _ => rfl)
theorem k_X_init_42 : am_W m_X_init 42 ls (v0 :: st) h Q ↔ (st.length ≤ 8 ∧ am_rc h [v0] (some 8) = true) ∧ am_C f_U_init [v0] h (fun r h' => am_W m_X_init 45 ls (r.toList ++ st) h' Q) := am_ca o_X_init rfl (Or.inr (Or.inl rfl)) rfl [v0] st rfl
theorem k_X_init_45 : am_W m_X_init 45 ls (v0 :: .ref a :: st) h Q ↔ am_ob (am_pf h a 9 3 2 v0) (fun h' => am_W m_X_init 48 ls st h' Q) := am_putf o_X_init rfl rfl
theorem k_X_init_48 : am_W m_X_init 48 (.ref a :: ls) st h Q ↔ am_W m_X_init 49 (.ref a :: ls) (.ref a :: st) h Q := am_go (q := (49, .ref a :: ls, .ref a :: st, h)) o_X_init rfl rfl (fun _ => rfl)
theorem k_X_init_49 : am_W m_X_init 49 ls st h Q ↔ am_W m_X_init 50 ls (.int 0 :: st) h Q := am_go (q := (50, ls, .int 0 :: st, h)) o_X_init rfl rfl (fun _ => rfl)
theorem k_X_init_50 : am_W m_X_init 50 ls (v0 :: .ref a :: st) h Q ↔ am_ob (am_pf h a 9 4 0 v0) (fun h' => am_W m_X_init 53 ls st h' Q) := am_putf o_X_init rfl rfl
theorem k_X_init_53 : am_W m_X_init 53 (.ref a :: ls) st h Q ↔ am_W m_X_init 54 (.ref a :: ls) (.ref a :: st) h Q := am_go (q := (54, .ref a :: ls, .ref a :: st, h)) o_X_init rfl rfl (fun _ => rfl)
theorem k_X_init_54 : am_W m_X_init 54 ls st h Q ↔ am_W m_X_init 55 ls (.int 0 :: st) h Q := am_go (q := (55, ls, .int 0 :: st, h)) o_X_init rfl rfl (fun _ => rfl)
theorem k_X_init_55 : am_W m_X_init 55 ls (v0 :: .ref a :: st) h Q ↔ am_ob (am_pf h a 9 5 0 v0) (fun h' => am_W m_X_init 58 ls st h' Q) := am_putf o_X_init rfl rfl
theorem k_X_init_58 : am_W m_X_init 58 ls [] h Q ↔ Q none h := am_vret rfl rfl
theorem k_M_init_0 : am_W m_M_init 0 (.ref a :: ls) st h Q ↔ am_W m_M_init 1 (.ref a :: ls) (.ref a :: st) h Q := am_go (q := (1, .ref a :: ls, .ref a :: st, h)) o_M_init rfl rfl (fun _ => rfl)
theorem k_M_init_1 : am_W m_M_init 1 ls (v0 :: st) h Q ↔ (st.length ≤ 8 ∧ am_rc h [v0] none = true) ∧ am_C am_obj [v0] h (fun r h' => am_W m_M_init 4 ls (r.toList ++ st) h' Q) := am_ca o_M_init rfl (Or.inr (Or.inl rfl)) rfl [v0] st rfl
theorem k_M_init_4 : am_W m_M_init 4 (.ref a :: ls) st h Q ↔ am_W m_M_init 5 (.ref a :: ls) (.ref a :: st) h Q := am_go (q := (5, .ref a :: ls, .ref a :: st, h)) o_M_init rfl rfl (fun _ => rfl)
theorem k_M_init_5 : am_W m_M_init 5 ls st h Q ↔ am_W m_M_init 7 ls (.int 15 :: st) h Q := am_go (q := (7, ls, .int 15 :: st, h)) o_M_init rfl rfl (fun _ => rfl)
theorem k_M_init_9 : am_W m_M_init 9 ls (v0 :: .ref a :: st) h Q ↔ am_ob (am_pf h a 10 0 2 v0) (fun h' => am_W m_M_init 12 ls st h' Q) := am_putf o_M_init rfl rfl
theorem k_M_init_12 : am_W m_M_init 12 (.ref a :: ls) st h Q ↔ am_W m_M_init 13 (.ref a :: ls) (.ref a :: st) h Q := am_go (q := (13, .ref a :: ls, .ref a :: st, h)) o_M_init rfl rfl (fun _ => rfl)
theorem k_M_init_13 : am_W m_M_init 13 ls st h Q ↔ am_W m_M_init 15 ls (.int 60 :: st) h Q := am_go (q := (15, ls, .int 60 :: st, h)) o_M_init rfl rfl (fun _ => rfl)
theorem k_M_init_17 : am_W m_M_init 17 ls (v0 :: .ref a :: st) h Q ↔ am_ob (am_pf h a 10 1 2 v0) (fun h' => am_W m_M_init 20 ls st h' Q) := am_putf o_M_init rfl rfl
theorem k_M_init_20 : am_W m_M_init 20 (.ref a :: ls) st h Q ↔ am_W m_M_init 21 (.ref a :: ls) (.ref a :: st) h Q := am_go (q := (21, .ref a :: ls, .ref a :: st, h)) o_M_init rfl rfl (fun _ => rfl)
theorem k_M_init_21 : am_W m_M_init 21 ls st h Q ↔ am_W m_M_init 23 ls (.int 60 :: st) h Q := am_go (q := (23, ls, .int 60 :: st, h)) o_M_init rfl rfl (fun _ => rfl)
theorem k_M_init_25 : am_W m_M_init 25 ls (v0 :: .ref a :: st) h Q ↔ am_ob (am_pf h a 10 2 2 v0) (fun h' => am_W m_M_init 28 ls st h' Q) := am_putf o_M_init rfl rfl
theorem k_M_init_28 : am_W m_M_init 28 (.ref a :: ls) st h Q ↔ am_W m_M_init 29 (.ref a :: ls) (.ref a :: st) h Q := am_go (q := (29, .ref a :: ls, .ref a :: st, h)) o_M_init rfl rfl (fun _ => rfl)
theorem k_M_init_29 : am_W m_M_init 29 ls st h Q ↔ am_W m_M_init 31 ls (.int 60 :: st) h Q := am_go (q := (31, ls, .int 60 :: st, h)) o_M_init rfl rfl (fun _ => rfl)
theorem k_M_init_33 : am_W m_M_init 33 ls (v0 :: .ref a :: st) h Q ↔ am_ob (am_pf h a 10 3 2 v0) (fun h' => am_W m_M_init 36 ls st h' Q) := am_putf o_M_init rfl rfl
theorem k_M_init_36 : am_W m_M_init 36 (.ref a :: ls) st h Q ↔ am_W m_M_init 37 (.ref a :: ls) (.ref a :: st) h Q := am_go (q := (37, .ref a :: ls, .ref a :: st, h)) o_M_init rfl rfl (fun _ => rfl)
theorem k_M_init_37 : am_W m_M_init 37 ls st h Q ↔ am_W m_M_init 39 ls (.int 30 :: st) h Q := am_go (q := (39, ls, .int 30 :: st, h)) o_M_init rfl rfl (fun _ => rfl)
theorem k_M_init_41 : am_W m_M_init 41 ls (v0 :: .ref a :: st) h Q ↔ am_ob (am_pf h a 10 4 2 v0) (fun h' => am_W m_M_init 44 ls st h' Q) := am_putf o_M_init rfl rfl
theorem k_M_init_44 : am_W m_M_init 44 (.ref a :: ls) st h Q ↔ am_W m_M_init 45 (.ref a :: ls) (.ref a :: st) h Q := am_go (q := (45, .ref a :: ls, .ref a :: st, h)) o_M_init rfl rfl (fun _ => rfl)
theorem k_M_init_45 : am_W m_M_init 45 ls st h Q ↔ am_W m_M_init 47 ls (.int 30 :: st) h Q := am_go (q := (47, ls, .int 30 :: st, h)) o_M_init rfl rfl (fun _ => rfl)
theorem k_M_init_49 : am_W m_M_init 49 ls (v0 :: .ref a :: st) h Q ↔ am_ob (am_pf h a 10 5 2 v0) (fun h' => am_W m_M_init 52 ls st h' Q) := am_putf o_M_init rfl rfl
theorem k_M_init_52 : am_W m_M_init 52 (.ref a :: ls) st h Q ↔ am_W m_M_init 53 (.ref a :: ls) (.ref a :: st) h Q := am_go (q := (53, .ref a :: ls, .ref a :: st, h)) o_M_init rfl rfl (fun _ => rfl)
theorem k_M_init_53 : am_W m_M_init 53 ls st h Q ↔ am_W m_M_init 55 ls (.int 30 :: st) h Q := am_go (q := (55, ls, .int 30 :: st, h)) o_M_init rfl rfl (fun _ => rfl)
theorem k_M_init_57 : am_W m_M_init 57 ls (v0 :: .ref a :: st) h Q ↔ am_ob (am_pf h a 10 6 2 v0) (fun h' => am_W m_M_init 60 ls st h' Q) := am_putf o_M_init rfl rfl
theorem k_M_init_60 : am_W m_M_init 60 (.ref a :: ls) st h Q ↔ am_W m_M_init 61 (.ref a :: ls) (.ref a :: st) h Q := am_go (q := (61, .ref a :: ls, .ref a :: st, h)) o_M_init rfl rfl (fun _ => rfl)
theorem k_M_init_61 : am_W m_M_init 61 ls st h Q ↔ am_W m_M_init 63 ls (.int 30 :: st) h Q := am_go (q := (63, ls, .int 30 :: st, h)) o_M_init rfl rfl (fun _ => rfl)
theorem k_M_init_65 : am_W m_M_init 65 ls (v0 :: .ref a :: st) h Q ↔ am_ob (am_pf h a 10 7 2 v0) (fun h' => am_W m_M_init 68 ls st h' Q) := am_putf o_M_init rfl rfl
theorem k_M_init_68 : am_W m_M_init 68 (.ref a :: ls) st h Q ↔ am_W m_M_init 69 (.ref a :: ls) (.ref a :: st) h Q := am_go (q := (69, .ref a :: ls, .ref a :: st, h)) o_M_init rfl rfl (fun _ => rfl)
theorem k_M_init_69 : am_W m_M_init 69 ls st h Q ↔ am_W m_M_init 72 ls (.int 420 :: st) h Q := am_go (q := (72, ls, .int 420 :: st, h)) o_M_init rfl rfl (fun _ => rfl)
theorem k_M_init_74 : am_W m_M_init 74 ls (v0 :: .ref a :: st) h Q ↔ am_ob (am_pf h a 10 8 2 v0) (fun h' => am_W m_M_init 77 ls st h' Q) := am_putf o_M_init rfl rfl
theorem k_M_init_77 : am_W m_M_init 77 (.ref a :: ls) st h Q ↔ am_W m_M_init 78 (.ref a :: ls) (.ref a :: st) h Q := am_go (q := (78, .ref a :: ls, .ref a :: st, h)) o_M_init rfl rfl (fun _ => rfl)
theorem k_M_init_78 : am_W m_M_init 78 ls st h Q ↔ am_W m_M_init 81 ls (.int 420 :: st) h Q := am_go (q := (81, ls, .int 420 :: st, h)) o_M_init rfl rfl (fun _ => rfl)
theorem k_M_init_83 : am_W m_M_init 83 ls (v0 :: .ref a :: st) h Q ↔ am_ob (am_pf h a 10 9 2 v0) (fun h' => am_W m_M_init 86 ls st h' Q) := am_putf o_M_init rfl rfl
theorem k_M_init_86 : am_W m_M_init 86 (.ref a :: ls) st h Q ↔ am_W m_M_init 87 (.ref a :: ls) (.ref a :: st) h Q := am_go (q := (87, .ref a :: ls, .ref a :: st, h)) o_M_init rfl rfl (fun _ => rfl)
theorem k_M_init_87 : am_W m_M_init 87 ls st h Q ↔ am_W m_M_init 90 ls (.int 420 :: st) h Q := am_go (q := (90, ls, .int 420 :: st, h)) o_M_init rfl rfl (fun _ => rfl)
theorem k_M_init_92 : am_W m_M_init 92 ls (v0 :: .ref a :: st) h Q ↔ am_ob (am_pf h a 10 10 2 v0) (fun h' => am_W m_M_init 95 ls st h' Q) := am_putf o_M_init rfl rfl
theorem k_M_init_95 : am_W m_M_init 95 (.ref a :: ls) st h Q ↔ am_W m_M_init 96 (.ref a :: ls) (.ref a :: st) h Q := am_go (q := (96, .ref a :: ls, .ref a :: st, h)) o_M_init rfl rfl (fun _ => rfl)
theorem k_M_init_96 : am_W m_M_init 96 ls st h Q ↔ am_W m_M_init 97 ls (.int 5 :: st) h Q := am_go (q := (97, ls, .int 5 :: st, h)) o_M_init rfl rfl (fun _ => rfl)
theorem k_M_init_99 : am_W m_M_init 99 ls (v0 :: .ref a :: st) h Q ↔ am_ob (am_pf h a 10 11 2 v0) (fun h' => am_W m_M_init 102 ls st h' Q) := am_putf o_M_init rfl rfl
theorem k_M_init_102 : am_W m_M_init 102 (.ref a :: ls) st h Q ↔ am_W m_M_init 103 (.ref a :: ls) (.ref a :: st) h Q := am_go (q := (103, .ref a :: ls, .ref a :: st, h)) o_M_init rfl rfl (fun _ => rfl)
theorem k_M_init_103 : am_W m_M_init 103 ls st h Q ↔ am_W m_M_init 104 ls (.int 5 :: st) h Q := am_go (q := (104, ls, .int 5 :: st, h)) o_M_init rfl rfl (fun _ => rfl)
theorem k_M_init_106 : am_W m_M_init 106 ls (v0 :: .ref a :: st) h Q ↔ am_ob (am_pf h a 10 12 2 v0) (fun h' => am_W m_M_init 109 ls st h' Q) := am_putf o_M_init rfl rfl
theorem k_M_init_109 : am_W m_M_init 109 (.ref a :: ls) st h Q ↔ am_W m_M_init 110 (.ref a :: ls) (.ref a :: st) h Q := am_go (q := (110, .ref a :: ls, .ref a :: st, h)) o_M_init rfl rfl (fun _ => rfl)
theorem k_M_init_110 : am_W m_M_init 110 ls st h Q ↔ am_W m_M_init 111 ls (.int 5 :: st) h Q := am_go (q := (111, ls, .int 5 :: st, h)) o_M_init rfl rfl (fun _ => rfl)
theorem k_M_init_113 : am_W m_M_init 113 ls (v0 :: .ref a :: st) h Q ↔ am_ob (am_pf h a 10 13 2 v0) (fun h' => am_W m_M_init 116 ls st h' Q) := am_putf o_M_init rfl rfl
theorem k_M_init_116 : am_W m_M_init 116 (.ref a :: ls) st h Q ↔ am_W m_M_init 117 (.ref a :: ls) (.ref a :: st) h Q := am_go (q := (117, .ref a :: ls, .ref a :: st, h)) o_M_init rfl rfl (fun _ => rfl)
theorem k_M_init_117 : am_W m_M_init 117 ls st h Q ↔ am_W m_M_init 119 ls (.int 8 :: st) h Q := am_go (q := (119, ls, .int 8 :: st, h)) o_M_init rfl rfl (fun _ => rfl)
theorem k_M_init_121 : am_W m_M_init 121 ls (v0 :: .ref a :: st) h Q ↔ am_ob (am_pf h a 10 17 2 v0) (fun h' => am_W m_M_init 124 ls st h' Q) := am_putf o_M_init rfl rfl
theorem k_M_init_124 : am_W m_M_init 124 (.ref a :: ls) st h Q ↔ am_W m_M_init 125 (.ref a :: ls) (.ref a :: st) h Q := am_go (q := (125, .ref a :: ls, .ref a :: st, h)) o_M_init rfl rfl (fun _ => rfl)
theorem k_M_init_125 : am_W m_M_init 125 ls st h Q ↔ am_W m_M_init 127 ls (.int 8 :: st) h Q := am_go (q := (127, ls, .int 8 :: st, h)) o_M_init rfl rfl (fun _ => rfl)
theorem k_M_init_129 : am_W m_M_init 129 ls (v0 :: .ref a :: st) h Q ↔ am_ob (am_pf h a 10 22 2 v0) (fun h' => am_W m_M_init 132 ls st h' Q) := am_putf o_M_init rfl rfl
theorem k_M_init_132 : am_W m_M_init 132 (.ref a :: ls) st h Q ↔ am_W m_M_init 133 (.ref a :: ls) (.ref a :: st) h Q := am_go (q := (133, .ref a :: ls, .ref a :: st, h)) o_M_init rfl rfl (fun _ => rfl)
theorem k_M_init_133 : am_W m_M_init 133 ls st h Q ↔ am_W m_M_init 135 ls (.int 8 :: st) h Q := am_go (q := (135, ls, .int 8 :: st, h)) o_M_init rfl rfl (fun _ => rfl)
theorem k_M_init_137 : am_W m_M_init 137 ls (v0 :: .ref a :: st) h Q ↔ am_ob (am_pf h a 10 23 2 v0) (fun h' => am_W m_M_init 140 ls st h' Q) := am_putf o_M_init rfl rfl
theorem k_M_init_140 : am_W m_M_init 140 (.ref a :: ls) st h Q ↔ am_W m_M_init 141 (.ref a :: ls) (.ref a :: st) h Q := am_go (q := (141, .ref a :: ls, .ref a :: st, h)) o_M_init rfl rfl (fun _ => rfl)
theorem k_M_init_141 : am_W m_M_init 141 ls st h Q ↔ am_W m_M_init 143 ls (.int 32 :: st) h Q := am_go (q := (143, ls, .int 32 :: st, h)) o_M_init rfl rfl (fun _ => rfl)
theorem k_M_init_145 : am_W m_M_init 145 ls (v0 :: .ref a :: st) h Q ↔ am_ob (am_pf h a 10 24 2 v0) (fun h' => am_W m_M_init 148 ls st h' Q) := am_putf o_M_init rfl rfl
theorem k_M_init_148 : am_W m_M_init 148 (.ref a :: ls) st h Q ↔ am_W m_M_init 149 (.ref a :: ls) (.ref a :: st) h Q := am_go (q := (149, .ref a :: ls, .ref a :: st, h)) o_M_init rfl rfl (fun _ => rfl)
theorem k_M_init_149 : am_W m_M_init 149 ls st h Q ↔ am_W m_M_init 151 ls (.int 48 :: st) h Q := am_go (q := (151, ls, .int 48 :: st, h)) o_M_init rfl rfl (fun _ => rfl)
theorem k_M_init_153 : am_W m_M_init 153 ls (v0 :: .ref a :: st) h Q ↔ am_ob (am_pf h a 10 25 2 v0) (fun h' => am_W m_M_init 156 ls st h' Q) := am_putf o_M_init rfl rfl
theorem k_M_init_156 : am_W m_M_init 156 (.ref a :: ls) st h Q ↔ am_W m_M_init 157 (.ref a :: ls) (.ref a :: st) h Q := am_go (q := (157, .ref a :: ls, .ref a :: st, h)) o_M_init rfl rfl (fun _ => rfl)
theorem k_M_init_157 : am_W m_M_init 157 ls st h Q ↔ am_W m_M_init 159 ls (.int 48 :: st) h Q := am_go (q := (159, ls, .int 48 :: st, h)) o_M_init rfl rfl (fun _ => rfl)
theorem k_M_init_161 : am_W m_M_init 161 ls (v0 :: .ref a :: st) h Q ↔ am_ob (am_pf h a 10 26 2 v0) (fun h' => am_W m_M_init 164 ls st h' Q) := am_putf o_M_init rfl rfl
theorem k_M_init_164 : am_W m_M_init 164 (.ref a :: ls) st h Q ↔ am_W m_M_init 165 (.ref a :: ls) (.ref a :: st) h Q := am_go (q := (165, .ref a :: ls, .ref a :: st, h)) o_M_init rfl rfl (fun _ => rfl)
theorem k_M_init_165 : am_W m_M_init 165 ls st h Q ↔ am_W m_M_init 167 ls (.int 8 :: st) h Q := am_go (q := (167, ls, .int 8 :: st, h)) o_M_init rfl rfl (fun _ => rfl)
theorem k_M_init_169 : am_W m_M_init 169 ls (v0 :: .ref a :: st) h Q ↔ am_ob (am_pf h a 10 27 2 v0) (fun h' => am_W m_M_init 172 ls st h' Q) := am_putf o_M_init rfl rfl
theorem k_M_init_172 : am_W m_M_init 172 (.ref a :: ls) st h Q ↔ am_W m_M_init 173 (.ref a :: ls) (.ref a :: st) h Q := am_go (q := (173, .ref a :: ls, .ref a :: st, h)) o_M_init rfl rfl (fun _ => rfl)
theorem k_M_init_173 : am_W m_M_init 173 ls st h Q ↔ am_W m_M_init 175 ls (.int 17 :: st) h Q := am_go (q := (175, ls, .int 17 :: st, h)) o_M_init rfl rfl (fun _ => rfl)
theorem k_M_init_177 : am_W m_M_init 177 ls (v0 :: .ref a :: st) h Q ↔ am_ob (am_pf h a 10 28 2 v0) (fun h' => am_W m_M_init 180 ls st h' Q) := am_putf o_M_init rfl rfl
theorem k_M_init_180 : am_W m_M_init 180 (.ref a :: ls) st h Q ↔ am_W m_M_init 181 (.ref a :: ls) (.ref a :: st) h Q := am_go (q := (181, .ref a :: ls, .ref a :: st, h)) o_M_init rfl rfl (fun _ => rfl)
theorem k_M_init_181 : am_W m_M_init 181 ls st h Q ↔ am_W m_M_init 183 ls (.int 68 :: st) h Q := am_go (q := (183, ls, .int 68 :: st, h)) o_M_init rfl rfl (fun _ => rfl)
theorem k_M_init_185 : am_W m_M_init 185 ls (v0 :: .ref a :: st) h Q ↔ am_ob (am_pf h a 10 29 2 v0) (fun h' => am_W m_M_init 188 ls st h' Q) := am_putf o_M_init rfl rfl
theorem k_M_init_188 : am_W m_M_init 188 (.ref a :: ls) st h Q ↔ am_W m_M_init 189 (.ref a :: ls) (.ref a :: st) h Q := am_go (q := (189, .ref a :: ls, .ref a :: st, h)) o_M_init rfl rfl (fun _ => rfl)
theorem k_M_init_189 : am_W m_M_init 189 ls st h Q ↔ am_W m_M_init 191 ls (.int 17 :: st) h Q := am_go (q := (191, ls, .int 17 :: st, h)) o_M_init rfl rfl (fun _ => rfl)
theorem k_M_init_193 : am_W m_M_init 193 ls (v0 :: .ref a :: st) h Q ↔ am_ob (am_pf h a 10 30 2 v0) (fun h' => am_W m_M_init 196 ls st h' Q) := am_putf o_M_init rfl rfl
theorem k_M_init_196 : am_W m_M_init 196 (.ref a :: ls) st h Q ↔ am_W m_M_init 197 (.ref a :: ls) (.ref a :: st) h Q := am_go (q := (197, .ref a :: ls, .ref a :: st, h)) o_M_init rfl rfl (fun _ => rfl)
theorem k_M_init_197 : am_W m_M_init 197 ls st h Q ↔ am_W m_M_init 198 ls (.int 4 :: st) h Q := am_go (q := (198, ls, .int 4 :: st, h)) o_M_init rfl rfl (fun _ => rfl)
theorem k_M_init_200 : am_W m_M_init 200 ls (v0 :: .ref a :: st) h Q ↔ am_ob (am_pf h a 10 31 2 v0) (fun h' => am_W m_M_init 203 ls st h' Q) := am_putf o_M_init rfl rfl
theorem k_M_init_203 : am_W m_M_init 203 (.ref a :: ls) st h Q ↔ am_W m_M_init 204 (.ref a :: ls) (.ref a :: st) h Q := am_go (q := (204, .ref a :: ls, .ref a :: st, h)) o_M_init rfl rfl (fun _ => rfl)
theorem k_M_init_204 : am_W m_M_init 204 ls st h Q ↔ am_W m_M_init 206 ls (.int 16 :: st) h Q := am_go (q := (206, ls, .int 16 :: st, h)) o_M_init rfl rfl (fun _ => rfl)
theorem k_M_init_208 : am_W m_M_init 208 ls (v0 :: .ref a :: st) h Q ↔ am_ob (am_pf h a 10 32 2 v0) (fun h' => am_W m_M_init 211 ls st h' Q) := am_putf o_M_init rfl rfl
theorem k_M_init_211 : am_W m_M_init 211 ls [] h Q ↔ Q none h := am_vret rfl rfl
theorem k_M_init_7 : am_W m_M_init 7 ls (.int 15 :: st) h Q ↔ am_W m_M_init 9 ls (.ref h.1.length :: st) (h.1 ++ [.inl (0, 15, none)], h.2) Q := am_go (q := (9, ls, .ref h.1.length :: st, (h.1 ++ [.inl (0, 15, none)], h.2))) o_M_init rfl rfl (fun _ => rfl)
theorem k_M_init_15 : am_W m_M_init 15 ls (.int 60 :: st) h Q ↔ am_W m_M_init 17 ls (.ref h.1.length :: st) (h.1 ++ [.inl (0, 60, none)], h.2) Q := am_go (q := (17, ls, .ref h.1.length :: st, (h.1 ++ [.inl (0, 60, none)], h.2))) o_M_init rfl rfl (fun _ => rfl)
theorem k_M_init_23 : am_W m_M_init 23 ls (.int 60 :: st) h Q ↔ am_W m_M_init 25 ls (.ref h.1.length :: st) (h.1 ++ [.inl (0, 60, none)], h.2) Q := am_go (q := (25, ls, .ref h.1.length :: st, (h.1 ++ [.inl (0, 60, none)], h.2))) o_M_init rfl rfl (fun _ => rfl)
theorem k_M_init_31 : am_W m_M_init 31 ls (.int 60 :: st) h Q ↔ am_W m_M_init 33 ls (.ref h.1.length :: st) (h.1 ++ [.inl (0, 60, none)], h.2) Q := am_go (q := (33, ls, .ref h.1.length :: st, (h.1 ++ [.inl (0, 60, none)], h.2))) o_M_init rfl rfl (fun _ => rfl)
theorem k_M_init_39 : am_W m_M_init 39 ls (.int 30 :: st) h Q ↔ am_W m_M_init 41 ls (.ref h.1.length :: st) (h.1 ++ [.inl (0, 30, none)], h.2) Q := am_go (q := (41, ls, .ref h.1.length :: st, (h.1 ++ [.inl (0, 30, none)], h.2))) o_M_init rfl rfl (fun _ => rfl)
theorem k_M_init_47 : am_W m_M_init 47 ls (.int 30 :: st) h Q ↔ am_W m_M_init 49 ls (.ref h.1.length :: st) (h.1 ++ [.inl (0, 30, none)], h.2) Q := am_go (q := (49, ls, .ref h.1.length :: st, (h.1 ++ [.inl (0, 30, none)], h.2))) o_M_init rfl rfl (fun _ => rfl)
theorem k_M_init_55 : am_W m_M_init 55 ls (.int 30 :: st) h Q ↔ am_W m_M_init 57 ls (.ref h.1.length :: st) (h.1 ++ [.inl (0, 30, none)], h.2) Q := am_go (q := (57, ls, .ref h.1.length :: st, (h.1 ++ [.inl (0, 30, none)], h.2))) o_M_init rfl rfl (fun _ => rfl)
theorem k_M_init_63 : am_W m_M_init 63 ls (.int 30 :: st) h Q ↔ am_W m_M_init 65 ls (.ref h.1.length :: st) (h.1 ++ [.inl (0, 30, none)], h.2) Q := am_go (q := (65, ls, .ref h.1.length :: st, (h.1 ++ [.inl (0, 30, none)], h.2))) o_M_init rfl rfl (fun _ => rfl)
theorem k_M_init_72 : am_W m_M_init 72 ls (.int 420 :: st) h Q ↔ am_W m_M_init 74 ls (.ref h.1.length :: st) (h.1 ++ [.inl (0, 420, none)], h.2) Q := am_go (q := (74, ls, .ref h.1.length :: st, (h.1 ++ [.inl (0, 420, none)], h.2))) o_M_init rfl rfl (fun _ => rfl)
theorem k_M_init_81 : am_W m_M_init 81 ls (.int 420 :: st) h Q ↔ am_W m_M_init 83 ls (.ref h.1.length :: st) (h.1 ++ [.inl (0, 420, none)], h.2) Q := am_go (q := (83, ls, .ref h.1.length :: st, (h.1 ++ [.inl (0, 420, none)], h.2))) o_M_init rfl rfl (fun _ => rfl)
theorem k_M_init_90 : am_W m_M_init 90 ls (.int 420 :: st) h Q ↔ am_W m_M_init 92 ls (.ref h.1.length :: st) (h.1 ++ [.inl (0, 420, none)], h.2) Q := am_go (q := (92, ls, .ref h.1.length :: st, (h.1 ++ [.inl (0, 420, none)], h.2))) o_M_init rfl rfl (fun _ => rfl)
theorem k_M_init_97 : am_W m_M_init 97 ls (.int 5 :: st) h Q ↔ am_W m_M_init 99 ls (.ref h.1.length :: st) (h.1 ++ [.inl (0, 5, none)], h.2) Q := am_go (q := (99, ls, .ref h.1.length :: st, (h.1 ++ [.inl (0, 5, none)], h.2))) o_M_init rfl rfl (fun _ => rfl)
theorem k_M_init_104 : am_W m_M_init 104 ls (.int 5 :: st) h Q ↔ am_W m_M_init 106 ls (.ref h.1.length :: st) (h.1 ++ [.inl (0, 5, none)], h.2) Q := am_go (q := (106, ls, .ref h.1.length :: st, (h.1 ++ [.inl (0, 5, none)], h.2))) o_M_init rfl rfl (fun _ => rfl)
theorem k_M_init_111 : am_W m_M_init 111 ls (.int 5 :: st) h Q ↔ am_W m_M_init 113 ls (.ref h.1.length :: st) (h.1 ++ [.inl (0, 5, none)], h.2) Q := am_go (q := (113, ls, .ref h.1.length :: st, (h.1 ++ [.inl (0, 5, none)], h.2))) o_M_init rfl rfl (fun _ => rfl)
theorem k_M_init_119 : am_W m_M_init 119 ls (.int 8 :: st) h Q ↔ am_W m_M_init 121 ls (.ref h.1.length :: st) (h.1 ++ [.inl (0, 8, none)], h.2) Q := am_go (q := (121, ls, .ref h.1.length :: st, (h.1 ++ [.inl (0, 8, none)], h.2))) o_M_init rfl rfl (fun _ => rfl)
theorem k_M_init_127 : am_W m_M_init 127 ls (.int 8 :: st) h Q ↔ am_W m_M_init 129 ls (.ref h.1.length :: st) (h.1 ++ [.inl (0, 8, none)], h.2) Q := am_go (q := (129, ls, .ref h.1.length :: st, (h.1 ++ [.inl (0, 8, none)], h.2))) o_M_init rfl rfl (fun _ => rfl)
theorem k_M_init_135 : am_W m_M_init 135 ls (.int 8 :: st) h Q ↔ am_W m_M_init 137 ls (.ref h.1.length :: st) (h.1 ++ [.inl (0, 8, none)], h.2) Q := am_go (q := (137, ls, .ref h.1.length :: st, (h.1 ++ [.inl (0, 8, none)], h.2))) o_M_init rfl rfl (fun _ => rfl)
theorem k_M_init_143 : am_W m_M_init 143 ls (.int 32 :: st) h Q ↔ am_W m_M_init 145 ls (.ref h.1.length :: st) (h.1 ++ [.inl (0, 32, none)], h.2) Q := am_go (q := (145, ls, .ref h.1.length :: st, (h.1 ++ [.inl (0, 32, none)], h.2))) o_M_init rfl rfl (fun _ => rfl)
theorem k_M_init_151 : am_W m_M_init 151 ls (.int 48 :: st) h Q ↔ am_W m_M_init 153 ls (.ref h.1.length :: st) (h.1 ++ [.inl (0, 48, none)], h.2) Q := am_go (q := (153, ls, .ref h.1.length :: st, (h.1 ++ [.inl (0, 48, none)], h.2))) o_M_init rfl rfl (fun _ => rfl)
theorem k_M_init_159 : am_W m_M_init 159 ls (.int 48 :: st) h Q ↔ am_W m_M_init 161 ls (.ref h.1.length :: st) (h.1 ++ [.inl (0, 48, none)], h.2) Q := am_go (q := (161, ls, .ref h.1.length :: st, (h.1 ++ [.inl (0, 48, none)], h.2))) o_M_init rfl rfl (fun _ => rfl)
theorem k_M_init_167 : am_W m_M_init 167 ls (.int 8 :: st) h Q ↔ am_W m_M_init 169 ls (.ref h.1.length :: st) (h.1 ++ [.inl (0, 8, none)], h.2) Q := am_go (q := (169, ls, .ref h.1.length :: st, (h.1 ++ [.inl (0, 8, none)], h.2))) o_M_init rfl rfl (fun _ => rfl)
theorem k_M_init_175 : am_W m_M_init 175 ls (.int 17 :: st) h Q ↔ am_W m_M_init 177 ls (.ref h.1.length :: st) (h.1 ++ [.inl (0, 17, none)], h.2) Q := am_go (q := (177, ls, .ref h.1.length :: st, (h.1 ++ [.inl (0, 17, none)], h.2))) o_M_init rfl rfl (fun _ => rfl)
theorem k_M_init_183 : am_W m_M_init 183 ls (.int 68 :: st) h Q ↔ am_W m_M_init 185 ls (.ref h.1.length :: st) (h.1 ++ [.inl (0, 68, none)], h.2) Q := am_go (q := (185, ls, .ref h.1.length :: st, (h.1 ++ [.inl (0, 68, none)], h.2))) o_M_init rfl rfl (fun _ => rfl)
theorem k_M_init_191 : am_W m_M_init 191 ls (.int 17 :: st) h Q ↔ am_W m_M_init 193 ls (.ref h.1.length :: st) (h.1 ++ [.inl (1, 17, none)], h.2) Q := am_go (q := (193, ls, .ref h.1.length :: st, (h.1 ++ [.inl (1, 17, none)], h.2))) o_M_init rfl rfl (fun _ => rfl)
theorem k_M_init_198 : am_W m_M_init 198 ls (.int 4 :: st) h Q ↔ am_W m_M_init 200 ls (.ref h.1.length :: st) (h.1 ++ [.inl (0, 4, none)], h.2) Q := am_go (q := (200, ls, .ref h.1.length :: st, (h.1 ++ [.inl (0, 4, none)], h.2))) o_M_init rfl rfl (fun _ => rfl)
theorem k_M_init_206 : am_W m_M_init 206 ls (.int 16 :: st) h Q ↔ am_W m_M_init 208 ls (.ref h.1.length :: st) (h.1 ++ [.inl (0, 16, none)], h.2) Q := am_go (q := (208, ls, .ref h.1.length :: st, (h.1 ++ [.inl (0, 16, none)], h.2))) o_M_init rfl rfl (fun _ => rfl)
end KK
