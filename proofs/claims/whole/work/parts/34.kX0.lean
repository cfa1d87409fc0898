/-! printed by gen.py: the instructions, one by one -/
section KK
variable {ls st : List Value} {h : am_H} {Q : Option Value → am_H → Prop} {v0 v1 v2 v3 v4 v5 v6 v7 v8 v9 v10 v11 v12 : Value} {x y z : Int32} {a b : Nat}

theorem k_X_isClass_0 : am_W m_X_isClass 0 (.int x :: ls) st h Q ↔ am_W m_X_isClass 1 (.int x :: ls) (.int x :: st) h Q := am_go (q := (1, .int x :: ls, .int x :: st, h)) o_X_isClass rfl rfl (fun _ => rfl)
theorem k_X_isClass_1 : am_W m_X_isClass 1 ls st h Q ↔ am_W m_X_isClass 2 ls (.int 1 :: st) h Q := am_go (q := (2, ls, .int 1 :: st, h)) o_X_isClass rfl rfl (fun _ => rfl)
theorem k_X_isClass_2 : am_W m_X_isClass 2 ls (.int y :: .int x :: st) h Q ↔ (x < y → am_W m_X_isClass 14 ls st h Q) ∧ (¬ x < y → am_W m_X_isClass 5 ls st h Q) := (am_go (q := (if x < y then 14 else 5, ls, st, h)) o_X_isClass rfl rfl (fun _ => rfl)).trans am_ite
theorem k_X_isClass_5 : am_W m_X_isClass 5 (.int x :: ls) st h Q ↔ am_W m_X_isClass 6 (.int x :: ls) (.int x :: st) h Q := am_go (q := (6, .int x :: ls, .int x :: st, h)) o_X_isClass rfl rfl (fun _ => rfl)
theorem k_X_isClass_6 : am_W m_X_isClass 6 ls st h Q ↔ am_W m_X_isClass 7 ls (.int 3 :: st) h Q := am_go (q := (7, ls, .int 3 :: st, h)) o_X_isClass rfl rfl (fun _ => rfl)
theorem k_X_isClass_7 : am_W m_X_isClass 7 ls (.int y :: .int x :: st) h Q ↔ (y < x → am_W m_X_isClass 14 ls st h Q) ∧ (¬ y < x → am_W m_X_isClass 10 ls st h Q) := (am_go (q := (if y < x then 14 else 10, ls, st, h)) o_X_isClass rfl rfl (fun _ => rfl)).trans am_ite
theorem k_X_isClass_10 : am_W m_X_isClass 10 ls st h Q ↔ am_W m_X_isClass 11 ls (.int 1 :: st) h Q := am_go (q := (11, ls, .int 1 :: st, h)) o_X_isClass rfl rfl (fun _ => rfl)
theorem k_X_isClass_11 : am_W m_X_isClass 11 ls st h Q ↔ am_W m_X_isClass 15 ls st h Q := am_go (q := (15, ls, st, h)) o_X_isClass rfl rfl (fun _ => rfl)
theorem k_X_isClass_14 : am_W m_X_isClass 14 ls st h Q ↔ am_W m_X_isClass 15 ls (.int 0 :: st) h Q := am_go (q := (15, ls, .int 0 :: st, h)) o_X_isClass rfl rfl (fun _ => rfl)
theorem k_X_isClass_15 : am_W m_X_isClass 15 ls [.int x] h Q ↔ (x = 0 ∨ x = 1) ∧ Q (some (.int x)) h := am_zret rfl rfl
theorem k_X_layout_0 : am_W m_X_layout 0 (v0 :: .int x :: ls) st h Q ↔ am_W m_X_layout 1 (v0 :: .int x :: ls) (.int x :: st) h Q := am_go (q := (1, v0 :: .int x :: ls, .int x :: st, h)) o_X_layout rfl rfl (fun _ => rfl)
theorem k_X_layout_1 : am_W m_X_layout 1 ls (v0 :: st) h Q ↔ (st.length ≤ 8 ∧ am_rc h [v0] none = true) ∧ am_C f_X_isClass [v0] h (fun r h' => am_W m_X_layout 4 ls (r.toList ++ st) h' Q) := am_ca o_X_layout rfl (Or.inr (Or.inr rfl)) rfl [v0] st rfl
theorem k_X_layout_4 : am_W m_X_layout 4 ls (.int x :: st) h Q ↔ (x = 0 → am_W m_X_layout 7 ls st h Q) ∧ (¬ x = 0 → am_W m_X_layout 9 ls st h Q) := (am_go (q := (if ¬ x = 0 then 9 else 7, ls, st, h)) o_X_layout rfl rfl (fun _ => rfl)).trans am_iteN
theorem k_X_layout_7 : am_W m_X_layout 7 ls st h Q ↔ am_W m_X_layout 8 ls (.int 0 :: st) h Q := am_go (q := (8, ls, .int 0 :: st, h)) o_X_layout rfl rfl (fun _ => rfl)
theorem k_X_layout_8 : am_W m_X_layout 8 ls [.int x] h Q ↔ (x = 0 ∨ x = 1) ∧ Q (some (.int x)) h := am_zret rfl rfl
theorem k_X_layout_9 : am_W m_X_layout 9 (.ref a :: ls) st h Q ↔ am_W m_X_layout 10 (.ref a :: ls) (.ref a :: st) h Q := am_go (q := (10, .ref a :: ls, .ref a :: st, h)) o_X_layout rfl rfl (fun _ => rfl)
theorem k_X_layout_10 : am_W m_X_layout 10 ls (.ref a :: st) h Q ↔ am_ob (am_gf h a 9 0) (fun v => am_W m_X_layout 13 ls (v :: st) h Q) := am_getf o_X_layout rfl rfl
theorem k_X_layout_13 : am_W m_X_layout 13 (v0 :: .int x :: ls) st h Q ↔ am_W m_X_layout 14 (v0 :: .int x :: ls) (.int x :: st) h Q := am_go (q := (14, v0 :: .int x :: ls, .int x :: st, h)) o_X_layout rfl rfl (fun _ => rfl)
theorem k_X_layout_14 : am_W m_X_layout 14 ls (v1 :: v0 :: st) h Q ↔ (st.length ≤ 8 ∧ am_rc h [v0, v1] (some 2) = true) ∧ am_C f_P_clearClass [v0, v1] h (fun r h' => am_W m_X_layout 17 ls (r.toList ++ st) h' Q) := am_ca o_X_layout rfl (Or.inl rfl) rfl [v0, v1] st rfl
theorem k_X_layout_17 : am_W m_X_layout 17 ls st h Q ↔ am_W m_X_layout 18 ls (.int 1 :: st) h Q := am_go (q := (18, ls, .int 1 :: st, h)) o_X_layout rfl rfl (fun _ => rfl)
theorem k_X_layout_18 : am_W m_X_layout 18 ls [.int x] h Q ↔ (x = 0 ∨ x = 1) ∧ Q (some (.int x)) h := am_zret rfl rfl
theorem k_X_isName_0 : am_W m_X_isName 0 (.int x :: ls) st h Q ↔ am_W m_X_isName 1 (.int x :: ls) (.int x :: st) h Q := am_go (q := (1, .int x :: ls, .int x :: st, h)) o_X_isName rfl rfl (fun _ => rfl)
theorem k_X_isName_1 : am_W m_X_isName 1 ls (.int x :: st) h Q ↔ (x < 0 → am_W m_X_isName 14 ls st h Q) ∧ (¬ x < 0 → am_W m_X_isName 4 ls st h Q) := (am_go (q := (if x < 0 then 14 else 4, ls, st, h)) o_X_isName rfl rfl (fun _ => rfl)).trans am_ite
theorem k_X_isName_4 : am_W m_X_isName 4 (.int x :: ls) st h Q ↔ am_W m_X_isName 5 (.int x :: ls) (.int x :: st) h Q := am_go (q := (5, .int x :: ls, .int x :: st, h)) o_X_isName rfl rfl (fun _ => rfl)
theorem k_X_isName_5 : am_W m_X_isName 5 ls st h Q ↔ am_W m_X_isName 7 ls (.int 9 :: st) h Q := am_go (q := (7, ls, .int 9 :: st, h)) o_X_isName rfl rfl (fun _ => rfl)
theorem k_X_isName_7 : am_W m_X_isName 7 ls (.int y :: .int x :: st) h Q ↔ (y < x → am_W m_X_isName 14 ls st h Q) ∧ (¬ y < x → am_W m_X_isName 10 ls st h Q) := (am_go (q := (if y < x then 14 else 10, ls, st, h)) o_X_isName rfl rfl (fun _ => rfl)).trans am_ite
theorem k_X_isName_10 : am_W m_X_isName 10 ls st h Q ↔ am_W m_X_isName 11 ls (.int 1 :: st) h Q := am_go (q := (11, ls, .int 1 :: st, h)) o_X_isName rfl rfl (fun _ => rfl)
theorem k_X_isName_11 : am_W m_X_isName 11 ls st h Q ↔ am_W m_X_isName 15 ls st h Q := am_go (q := (15, ls, st, h)) o_X_isName rfl rfl (fun _ => rfl)
theorem k_X_isName_14 : am_W m_X_isName 14 ls st h Q ↔ am_W m_X_isName 15 ls (.int 0 :: st) h Q := am_go (q := (15, ls, .int 0 :: st, h)) o_X_isName rfl rfl (fun _ => rfl)
theorem k_X_isName_15 : am_W m_X_isName 15 ls [.int x] h Q ↔ (x = 0 ∨ x = 1) ∧ Q (some (.int x)) h := am_zret rfl rfl
theorem k_X_isType_0 : am_W m_X_isType 0 (.int x :: ls) st h Q ↔ am_W m_X_isType 1 (.int x :: ls) (.int x :: st) h Q := am_go (q := (1, .int x :: ls, .int x :: st, h)) o_X_isType rfl rfl (fun _ => rfl)
theorem k_X_isType_1 : am_W m_X_isType 1 ls (.int x :: st) h Q ↔ (x = 0 → am_W m_X_isType 11 ls st h Q) ∧ (¬ x = 0 → am_W m_X_isType 4 ls st h Q) := (am_go (q := (if x = 0 then 11 else 4, ls, st, h)) o_X_isType rfl rfl (fun _ => rfl)).trans am_ite
theorem k_X_isType_4 : am_W m_X_isType 4 (.int x :: ls) st h Q ↔ am_W m_X_isType 5 (.int x :: ls) (.int x :: st) h Q := am_go (q := (5, .int x :: ls, .int x :: st, h)) o_X_isType rfl rfl (fun _ => rfl)
theorem k_X_isType_5 : am_W m_X_isType 5 ls (v0 :: st) h Q ↔ (st.length ≤ 8 ∧ am_rc h [v0] none = true) ∧ am_C f_X_isClass [v0] h (fun r h' => am_W m_X_isType 8 ls (r.toList ++ st) h' Q) := am_ca o_X_isType rfl (Or.inr (Or.inr rfl)) rfl [v0] st rfl
theorem k_X_isType_8 : am_W m_X_isType 8 ls (.int x :: st) h Q ↔ (x = 0 → am_W m_X_isType 15 ls st h Q) ∧ (¬ x = 0 → am_W m_X_isType 11 ls st h Q) := (am_go (q := (if x = 0 then 15 else 11, ls, st, h)) o_X_isType rfl rfl (fun _ => rfl)).trans am_ite
theorem k_X_isType_11 : am_W m_X_isType 11 ls st h Q ↔ am_W m_X_isType 12 ls (.int 1 :: st) h Q := am_go (q := (12, ls, .int 1 :: st, h)) o_X_isType rfl rfl (fun _ => rfl)
theorem k_X_isType_12 : am_W m_X_isType 12 ls st h Q ↔ am_W m_X_isType 16 ls st h Q := am_go (q := (16, ls, st, h)) o_X_isType rfl rfl (fun _ => rfl)
theorem k_X_isType_15 : am_W m_X_isType 15 ls st h Q ↔ am_W m_X_isType 16 ls (.int 0 :: st) h Q := am_go (q := (16, ls, .int 0 :: st, h)) o_X_isType rfl rfl (fun _ => rfl)
theorem k_X_isType_16 : am_W m_X_isType 16 ls [.int x] h Q ↔ (x = 0 ∨ x = 1) ∧ Q (some (.int x)) h := am_zret rfl rfl
theorem k_X_field_0 : am_W m_X_field 0 (v0 :: .int x :: ls) st h Q ↔ am_W m_X_field 1 (v0 :: .int x :: ls) (.int x :: st) h Q := am_go (q := (1, v0 :: .int x :: ls, .int x :: st, h)) o_X_field rfl rfl (fun _ => rfl)
theorem k_X_field_1 : am_W m_X_field 1 ls (v0 :: st) h Q ↔ (st.length ≤ 8 ∧ am_rc h [v0] none = true) ∧ am_C f_X_isClass [v0] h (fun r h' => am_W m_X_field 4 ls (r.toList ++ st) h' Q) := am_ca o_X_field rfl (Or.inr (Or.inr rfl)) rfl [v0] st rfl
theorem k_X_field_4 : am_W m_X_field 4 ls (.int x :: st) h Q ↔ (x = 0 → am_W m_X_field 32 ls st h Q) ∧ (¬ x = 0 → am_W m_X_field 7 ls st h Q) := (am_go (q := (if x = 0 then 32 else 7, ls, st, h)) o_X_field rfl rfl (fun _ => rfl)).trans am_ite
theorem k_X_field_7 : am_W m_X_field 7 (.ref a :: ls) st h Q ↔ am_W m_X_field 8 (.ref a :: ls) (.ref a :: st) h Q := am_go (q := (8, .ref a :: ls, .ref a :: st, h)) o_X_field rfl rfl (fun _ => rfl)
theorem k_X_field_8 : am_W m_X_field 8 ls (.ref a :: st) h Q ↔ am_ob (am_gf h a 9 0) (fun v => am_W m_X_field 11 ls (v :: st) h Q) := am_getf o_X_field rfl rfl
theorem k_X_field_11 : am_W m_X_field 11 (v0 :: .int x :: ls) st h Q ↔ am_W m_X_field 12 (v0 :: .int x :: ls) (.int x :: st) h Q := am_go (q := (12, v0 :: .int x :: ls, .int x :: st, h)) o_X_field rfl rfl (fun _ => rfl)
theorem k_X_field_12 : am_W m_X_field 12 ls (v1 :: v0 :: st) h Q ↔ (st.length ≤ 8 ∧ am_rc h [v0, v1] (some 2) = true) ∧ am_C f_P_touchesClass [v0, v1] h (fun r h' => am_W m_X_field 15 ls (r.toList ++ st) h' Q) := am_ca o_X_field rfl (Or.inl rfl) rfl [v0, v1] st rfl
theorem k_X_field_15 : am_W m_X_field 15 ls (.int x :: st) h Q ↔ (x = 0 → am_W m_X_field 32 ls st h Q) ∧ (¬ x = 0 → am_W m_X_field 18 ls st h Q) := (am_go (q := (if x = 0 then 32 else 18, ls, st, h)) o_X_field rfl rfl (fun _ => rfl)).trans am_ite
theorem k_X_field_18 : am_W m_X_field 18 (v0 :: v1 :: .int x :: ls) st h Q ↔ am_W m_X_field 19 (v0 :: v1 :: .int x :: ls) (.int x :: st) h Q := am_go (q := (19, v0 :: v1 :: .int x :: ls, .int x :: st, h)) o_X_field rfl rfl (fun _ => rfl)
theorem k_X_field_19 : am_W m_X_field 19 ls (v0 :: st) h Q ↔ (st.length ≤ 8 ∧ am_rc h [v0] none = true) ∧ am_C f_X_isName [v0] h (fun r h' => am_W m_X_field 22 ls (r.toList ++ st) h' Q) := am_ca o_X_field rfl (Or.inr (Or.inr rfl)) rfl [v0] st rfl
theorem k_X_field_22 : am_W m_X_field 22 ls (.int x :: st) h Q ↔ (x = 0 → am_W m_X_field 32 ls st h Q) ∧ (¬ x = 0 → am_W m_X_field 25 ls st h Q) := (am_go (q := (if x = 0 then 32 else 25, ls, st, h)) o_X_field rfl rfl (fun _ => rfl)).trans am_ite
theorem k_X_field_25 : am_W m_X_field 25 (v0 :: v1 :: v2 :: .int x :: ls) st h Q ↔ am_W m_X_field 26 (v0 :: v1 :: v2 :: .int x :: ls) (.int x :: st) h Q := am_go (q := (26, v0 :: v1 :: v2 :: .int x :: ls, .int x :: st, h)) o_X_field rfl rfl (fun _ => rfl)
theorem k_X_field_26 : am_W m_X_field 26 ls (v0 :: st) h Q ↔ (st.length ≤ 8 ∧ am_rc h [v0] none = true) ∧ am_C f_X_isType [v0] h (fun r h' => am_W m_X_field 29 ls (r.toList ++ st) h' Q) := am_ca o_X_field rfl (Or.inr (Or.inr rfl)) rfl [v0] st rfl
theorem k_X_field_29 : am_W m_X_field 29 ls (.int x :: st) h Q ↔ (x = 0 → am_W m_X_field 32 ls st h Q) ∧ (¬ x = 0 → am_W m_X_field 34 ls st h Q) := (am_go (q := (if ¬ x = 0 then 34 else 32, ls, st, h)) o_X_field rfl rfl (fun _ => rfl)).trans am_iteN
theorem k_X_field_32 : am_W m_X_field 32 ls st h Q ↔ am_W m_X_field 33 ls (.int 0 :: st) h Q := am_go (q := (33, ls, .int 0 :: st, h)) o_X_field rfl rfl (fun _ => rfl)
theorem k_X_field_33 : am_W m_X_field 33 ls [.int x] h Q ↔ (x = 0 ∨ x = 1) ∧ Q (some (.int x)) h := am_zret rfl rfl
theorem k_X_field_34 : am_W m_X_field 34 (.ref a :: ls) st h Q ↔ am_W m_X_field 35 (.ref a :: ls) (.ref a :: st) h Q := am_go (q := (35, .ref a :: ls, .ref a :: st, h)) o_X_field rfl rfl (fun _ => rfl)
theorem k_X_field_35 : am_W m_X_field 35 ls (.ref a :: st) h Q ↔ am_ob (am_gf h a 9 0) (fun v => am_W m_X_field 38 ls (v :: st) h Q) := am_getf o_X_field rfl rfl
theorem k_X_field_38 : am_W m_X_field 38 ls (.ref a :: st) h Q ↔ am_ob (am_gf h a 2 0) (fun v => am_W m_X_field 41 ls (v :: st) h Q) := am_getf o_X_field rfl rfl
theorem k_X_field_41 : am_W m_X_field 41 (v0 :: .int x :: ls) st h Q ↔ am_W m_X_field 42 (v0 :: .int x :: ls) (.int x :: st) h Q := am_go (q := (42, v0 :: .int x :: ls, .int x :: st, h)) o_X_field rfl rfl (fun _ => rfl)
theorem k_X_field_42 : am_W m_X_field 42 ls (.int x :: .ref a :: st) h Q ↔ am_ob (am_la h a x) (fun v => am_W m_X_field 43 ls (.ref v :: st) h Q) := am_aald o_X_field rfl
theorem k_X_field_43 : am_W m_X_field 43 (v0 :: v1 :: v2 :: v3 :: v4 :: ls) (.ref a :: st) h Q ↔ am_W m_X_field 45 (v0 :: v1 :: v2 :: v3 :: v4 :: .ref a :: ls.tail) st h Q := am_go (q := (45, v0 :: v1 :: v2 :: v3 :: v4 :: .ref a :: ls.tail, st, h)) o_X_field rfl rfl (fun _ => rfl)
theorem k_X_field_45 : am_W m_X_field 45 (v0 :: v1 :: v2 :: v3 :: v4 :: .ref a :: ls) st h Q ↔ am_W m_X_field 47 (v0 :: v1 :: v2 :: v3 :: v4 :: .ref a :: ls) (.ref a :: st) h Q := am_go (q := (47, v0 :: v1 :: v2 :: v3 :: v4 :: .ref a :: ls, .ref a :: st, h)) o_X_field rfl rfl (fun _ => rfl)
theorem k_X_field_47 : am_W m_X_field 47 ls (v0 :: st) h Q ↔ (st.length ≤ 8 ∧ am_rc h [v0] (some 0) = true) ∧ am_C f_L_isFull [v0] h (fun r h' => am_W m_X_field 50 ls (r.toList ++ st) h' Q) := am_ca o_X_field rfl (Or.inl rfl) rfl [v0] st rfl
theorem k_X_field_50 : am_W m_X_field 50 ls (.int x :: st) h Q ↔ (x = 0 → am_W m_X_field 53 ls st h Q) ∧ (¬ x = 0 → am_W m_X_field 63 ls st h Q) := (am_go (q := (if ¬ x = 0 then 63 else 53, ls, st, h)) o_X_field rfl rfl (fun _ => rfl)).trans am_iteN
theorem k_X_field_53 : am_W m_X_field 53 (v0 :: v1 :: v2 :: v3 :: v4 :: .ref a :: ls) st h Q ↔ am_W m_X_field 55 (v0 :: v1 :: v2 :: v3 :: v4 :: .ref a :: ls) (.ref a :: st) h Q := am_go (q := (55, v0 :: v1 :: v2 :: v3 :: v4 :: .ref a :: ls, .ref a :: st, h)) o_X_field rfl rfl (fun _ => rfl)
theorem k_X_field_55 : am_W m_X_field 55 (v0 :: v1 :: .int x :: ls) st h Q ↔ am_W m_X_field 56 (v0 :: v1 :: .int x :: ls) (.int x :: st) h Q := am_go (q := (56, v0 :: v1 :: .int x :: ls, .int x :: st, h)) o_X_field rfl rfl (fun _ => rfl)
theorem k_X_field_56 : am_W m_X_field 56 ls (v1 :: v0 :: st) h Q ↔ (st.length ≤ 8 ∧ am_rc h [v0, v1] (some 0) = true) ∧ am_C f_L_find [v0, v1] h (fun r h' => am_W m_X_field 59 ls (r.toList ++ st) h' Q) := am_ca o_X_field rfl (Or.inl rfl) rfl [v0, v1] st rfl
theorem k_X_field_59 : am_W m_X_field 59 ls st h Q ↔ am_W m_X_field 60 ls (.int (-1) :: st) h Q := am_go (q := (60, ls, .int (-1) :: st, h)) o_X_field rfl rfl (fun _ => rfl)
theorem k_X_field_60 : am_W m_X_field 60 ls (.int y :: .int x :: st) h Q ↔ (x = y → am_W m_X_field 65 ls st h Q) ∧ (¬ x = y → am_W m_X_field 63 ls st h Q) := (am_go (q := (if x = y then 65 else 63, ls, st, h)) o_X_field rfl rfl (fun _ => rfl)).trans am_ite
theorem k_X_field_63 : am_W m_X_field 63 ls st h Q ↔ am_W m_X_field 64 ls (.int 0 :: st) h Q := am_go (q := (64, ls, .int 0 :: st, h)) o_X_field rfl rfl (fun _ => rfl)
theorem k_X_field_64 : am_W m_X_field 64 ls [.int x] h Q ↔ (x = 0 ∨ x = 1) ∧ Q (some (.int x)) h := am_zret rfl rfl
theorem k_X_field_65 : am_W m_X_field 65 (v0 :: v1 :: v2 :: v3 :: .int x :: ls) st h Q ↔ am_W m_X_field 67 (v0 :: v1 :: v2 :: v3 :: .int x :: ls) (.int x :: st) h Q := am_go (q := (67, v0 :: v1 :: v2 :: v3 :: .int x :: ls, .int x :: st, h)) o_X_field rfl rfl (fun _ => rfl)
theorem k_X_field_67 : am_W m_X_field 67 ls st h Q ↔ am_W m_X_field 68 ls (.int (-1) :: st) h Q := am_go (q := (68, ls, .int (-1) :: st, h)) o_X_field rfl rfl (fun _ => rfl)
theorem k_X_field_68 : am_W m_X_field 68 ls (.int y :: .int x :: st) h Q ↔ (x = y → am_W m_X_field 94 ls st h Q) ∧ (¬ x = y → am_W m_X_field 71 ls st h Q) := (am_go (q := (if x = y then 94 else 71, ls, st, h)) o_X_field rfl rfl (fun _ => rfl)).trans am_ite
theorem k_X_field_71 : am_W m_X_field 71 (.ref a :: ls) st h Q ↔ am_W m_X_field 72 (.ref a :: ls) (.ref a :: st) h Q := am_go (q := (72, .ref a :: ls, .ref a :: st, h)) o_X_field rfl rfl (fun _ => rfl)
theorem k_X_field_72 : am_W m_X_field 72 ls (.ref a :: st) h Q ↔ am_ob (am_gf h a 9 1) (fun v => am_W m_X_field 75 ls (v :: st) h Q) := am_getf o_X_field rfl rfl
theorem k_X_field_75 : am_W m_X_field 75 ls (v0 :: st) h Q ↔ (st.length ≤ 8 ∧ am_rc h [v0] (some 3) = true) ∧ am_C f_Q_newest [v0] h (fun r h' => am_W m_X_field 78 ls (r.toList ++ st) h' Q) := am_ca o_X_field rfl (Or.inl rfl) rfl [v0] st rfl
theorem k_X_field_78 : am_W m_X_field 78 ls (.ref a :: st) h Q ↔ am_ob (am_gf h a 2 0) (fun v => am_W m_X_field 81 ls (v :: st) h Q) := am_getf o_X_field rfl rfl
theorem k_X_field_81 : am_W m_X_field 81 (v0 :: .int x :: ls) st h Q ↔ am_W m_X_field 82 (v0 :: .int x :: ls) (.int x :: st) h Q := am_go (q := (82, v0 :: .int x :: ls, .int x :: st, h)) o_X_field rfl rfl (fun _ => rfl)
theorem k_X_field_82 : am_W m_X_field 82 ls (.int x :: .ref a :: st) h Q ↔ am_ob (am_la h a x) (fun v => am_W m_X_field 83 ls (.ref v :: st) h Q) := am_aald o_X_field rfl
theorem k_X_field_83 : am_W m_X_field 83 (v0 :: v1 :: v2 :: v3 :: .int x :: ls) st h Q ↔ am_W m_X_field 85 (v0 :: v1 :: v2 :: v3 :: .int x :: ls) (.int x :: st) h Q := am_go (q := (85, v0 :: v1 :: v2 :: v3 :: .int x :: ls, .int x :: st, h)) o_X_field rfl rfl (fun _ => rfl)
theorem k_X_field_85 : am_W m_X_field 85 ls (v1 :: v0 :: st) h Q ↔ (st.length ≤ 8 ∧ am_rc h [v0, v1] (some 0) = true) ∧ am_C f_L_typeNamed [v0, v1] h (fun r h' => am_W m_X_field 88 ls (r.toList ++ st) h' Q) := am_ca o_X_field rfl (Or.inl rfl) rfl [v0, v1] st rfl
theorem k_X_field_88 : am_W m_X_field 88 (v0 :: v1 :: v2 :: .int x :: ls) st h Q ↔ am_W m_X_field 89 (v0 :: v1 :: v2 :: .int x :: ls) (.int x :: st) h Q := am_go (q := (89, v0 :: v1 :: v2 :: .int x :: ls, .int x :: st, h)) o_X_field rfl rfl (fun _ => rfl)
theorem k_X_field_89 : am_W m_X_field 89 ls (.int y :: .int x :: st) h Q ↔ (x = y → am_W m_X_field 94 ls st h Q) ∧ (¬ x = y → am_W m_X_field 92 ls st h Q) := (am_go (q := (if x = y then 94 else 92, ls, st, h)) o_X_field rfl rfl (fun _ => rfl)).trans am_ite
theorem k_X_field_92 : am_W m_X_field 92 ls st h Q ↔ am_W m_X_field 93 ls (.int 0 :: st) h Q := am_go (q := (93, ls, .int 0 :: st, h)) o_X_field rfl rfl (fun _ => rfl)
theorem k_X_field_93 : am_W m_X_field 93 ls [.int x] h Q ↔ (x = 0 ∨ x = 1) ∧ Q (some (.int x)) h := am_zret rfl rfl
theorem k_X_field_94 : am_W m_X_field 94 (v0 :: v1 :: v2 :: v3 :: v4 :: .ref a :: ls) st h Q ↔ am_W m_X_field 96 (v0 :: v1 :: v2 :: v3 :: v4 :: .ref a :: ls) (.ref a :: st) h Q := am_go (q := (96, v0 :: v1 :: v2 :: v3 :: v4 :: .ref a :: ls, .ref a :: st, h)) o_X_field rfl rfl (fun _ => rfl)
theorem k_X_field_96 : am_W m_X_field 96 (v0 :: v1 :: .int x :: ls) st h Q ↔ am_W m_X_field 97 (v0 :: v1 :: .int x :: ls) (.int x :: st) h Q := am_go (q := (97, v0 :: v1 :: .int x :: ls, .int x :: st, h)) o_X_field rfl rfl (fun _ => rfl)
theorem k_X_field_97 : am_W m_X_field 97 (v0 :: v1 :: v2 :: .int x :: ls) st h Q ↔ am_W m_X_field 98 (v0 :: v1 :: v2 :: .int x :: ls) (.int x :: st) h Q := am_go (q := (98, v0 :: v1 :: v2 :: .int x :: ls, .int x :: st, h)) o_X_field rfl rfl (fun _ => rfl)
theorem k_X_field_98 : am_W m_X_field 98 (v0 :: v1 :: v2 :: v3 :: .int x :: ls) st h Q ↔ am_W m_X_field 100 (v0 :: v1 :: v2 :: v3 :: .int x :: ls) (.int x :: st) h Q := am_go (q := (100, v0 :: v1 :: v2 :: v3 :: .int x :: ls, .int x :: st, h)) o_X_field rfl rfl (fun _ => rfl)
theorem k_X_field_100 : am_W m_X_field 100 ls (v3 :: v2 :: v1 :: v0 :: st) h Q ↔ (st.length ≤ 8 ∧ am_rc h [v0, v1, v2, v3] (some 0) = true) ∧ am_C f_L_add [v0, v1, v2, v3] h (fun r h' => am_W m_X_field 103 ls (r.toList ++ st) h' Q) := am_ca o_X_field rfl (Or.inl rfl) rfl [v0, v1, v2, v3] st rfl
theorem k_X_field_103 : am_W m_X_field 103 ls st h Q ↔ am_W m_X_field 104 ls (.int 1 :: st) h Q := am_go (q := (104, ls, .int 1 :: st, h)) o_X_field rfl rfl (fun _ => rfl)
theorem k_X_field_104 : am_W m_X_field 104 ls [.int x] h Q ↔ (x = 0 ∨ x = 1) ∧ Q (some (.int x)) h := am_zret rfl rfl
theorem k_X_isMethod_0 : am_W m_X_isMethod 0 (.int x :: ls) st h Q ↔ am_W m_X_isMethod 1 (.int x :: ls) (.int x :: st) h Q := am_go (q := (1, .int x :: ls, .int x :: st, h)) o_X_isMethod rfl rfl (fun _ => rfl)
theorem k_X_isMethod_1 : am_W m_X_isMethod 1 ls (.int x :: st) h Q ↔ (x < 0 → am_W m_X_isMethod 14 ls st h Q) ∧ (¬ x < 0 → am_W m_X_isMethod 4 ls st h Q) := (am_go (q := (if x < 0 then 14 else 4, ls, st, h)) o_X_isMethod rfl rfl (fun _ => rfl)).trans am_ite
theorem k_X_isMethod_4 : am_W m_X_isMethod 4 (.int x :: ls) st h Q ↔ am_W m_X_isMethod 5 (.int x :: ls) (.int x :: st) h Q := am_go (q := (5, .int x :: ls, .int x :: st, h)) o_X_isMethod rfl rfl (fun _ => rfl)
theorem k_X_isMethod_5 : am_W m_X_isMethod 5 ls st h Q ↔ am_W m_X_isMethod 7 ls (.int 6 :: st) h Q := am_go (q := (7, ls, .int 6 :: st, h)) o_X_isMethod rfl rfl (fun _ => rfl)
theorem k_X_isMethod_7 : am_W m_X_isMethod 7 ls (.int y :: .int x :: st) h Q ↔ (y ≤ x → am_W m_X_isMethod 14 ls st h Q) ∧ (¬ y ≤ x → am_W m_X_isMethod 10 ls st h Q) := (am_go (q := (if y ≤ x then 14 else 10, ls, st, h)) o_X_isMethod rfl rfl (fun _ => rfl)).trans am_ite
theorem k_X_isMethod_10 : am_W m_X_isMethod 10 ls st h Q ↔ am_W m_X_isMethod 11 ls (.int 1 :: st) h Q := am_go (q := (11, ls, .int 1 :: st, h)) o_X_isMethod rfl rfl (fun _ => rfl)
theorem k_X_isMethod_11 : am_W m_X_isMethod 11 ls st h Q ↔ am_W m_X_isMethod 15 ls st h Q := am_go (q := (15, ls, st, h)) o_X_isMethod rfl rfl (fun _ => rfl)
theorem k_X_isMethod_14 : am_W m_X_isMethod 14 ls st h Q ↔ am_W m_X_isMethod 15 ls (.int 0 :: st) h Q := am_go (q := (15, ls, .int 0 :: st, h)) o_X_isMethod rfl rfl (fun _ => rfl)
theorem k_X_isMethod_15 : am_W m_X_isMethod 15 ls [.int x] h Q ↔ (x = 0 ∨ x = 1) ∧ Q (some (.int x)) h := am_zret rfl rfl
theorem k_X_head_0 : am_W m_X_head 0 (v0 :: .int x :: ls) st h Q ↔ am_W m_X_head 1 (v0 :: .int x :: ls) (.int x :: st) h Q := am_go (q := (1, v0 :: .int x :: ls, .int x :: st, h)) o_X_head rfl rfl (fun _ => rfl)
theorem k_X_head_1 : am_W m_X_head 1 ls (v0 :: st) h Q ↔ (st.length ≤ 8 ∧ am_rc h [v0] none = true) ∧ am_C f_X_isMethod [v0] h (fun r h' => am_W m_X_head 4 ls (r.toList ++ st) h' Q) := am_ca o_X_head rfl (Or.inr (Or.inr rfl)) rfl [v0] st rfl
theorem k_X_head_4 : am_W m_X_head 4 ls (.int x :: st) h Q ↔ (x = 0 → am_W m_X_head 15 ls st h Q) ∧ (¬ x = 0 → am_W m_X_head 7 ls st h Q) := (am_go (q := (if x = 0 then 15 else 7, ls, st, h)) o_X_head rfl rfl (fun _ => rfl)).trans am_ite
theorem k_X_head_7 : am_W m_X_head 7 (v0 :: v1 :: v2 :: v3 :: .int x :: ls) st h Q ↔ am_W m_X_head 9 (v0 :: v1 :: v2 :: v3 :: .int x :: ls) (.int x :: st) h Q := am_go (q := (9, v0 :: v1 :: v2 :: v3 :: .int x :: ls, .int x :: st, h)) o_X_head rfl rfl (fun _ => rfl)
theorem k_X_head_9 : am_W m_X_head 9 ls (v0 :: st) h Q ↔ (st.length ≤ 8 ∧ am_rc h [v0] none = true) ∧ am_C f_X_isType [v0] h (fun r h' => am_W m_X_head 12 ls (r.toList ++ st) h' Q) := am_ca o_X_head rfl (Or.inr (Or.inr rfl)) rfl [v0] st rfl
theorem k_X_head_12 : am_W m_X_head 12 ls (.int x :: st) h Q ↔ (x = 0 → am_W m_X_head 15 ls st h Q) ∧ (¬ x = 0 → am_W m_X_head 17 ls st h Q) := (am_go (q := (if ¬ x = 0 then 17 else 15, ls, st, h)) o_X_head rfl rfl (fun _ => rfl)).trans am_iteN
theorem k_X_head_15 : am_W m_X_head 15 ls st h Q ↔ am_W m_X_head 16 ls (.int 0 :: st) h Q := am_go (q := (16, ls, .int 0 :: st, h)) o_X_head rfl rfl (fun _ => rfl)
theorem k_X_head_16 : am_W m_X_head 16 ls [.int x] h Q ↔ (x = 0 ∨ x = 1) ∧ Q (some (.int x)) h := am_zret rfl rfl
theorem k_X_head_17 : am_W m_X_head 17 (v0 :: v1 :: .int x :: ls) st h Q ↔ am_W m_X_head 18 (v0 :: v1 :: .int x :: ls) (.int x :: st) h Q := am_go (q := (18, v0 :: v1 :: .int x :: ls, .int x :: st, h)) o_X_head rfl rfl (fun _ => rfl)
theorem k_X_head_18 : am_W m_X_head 18 ls (.int x :: st) h Q ↔ (x < 0 → am_W m_X_head 37 ls st h Q) ∧ (¬ x < 0 → am_W m_X_head 21 ls st h Q) := (am_go (q := (if x < 0 then 37 else 21, ls, st, h)) o_X_head rfl rfl (fun _ => rfl)).trans am_ite
theorem k_X_head_21 : am_W m_X_head 21 (v0 :: v1 :: .int x :: ls) st h Q ↔ am_W m_X_head 22 (v0 :: v1 :: .int x :: ls) (.int x :: st) h Q := am_go (q := (22, v0 :: v1 :: .int x :: ls, .int x :: st, h)) o_X_head rfl rfl (fun _ => rfl)
theorem k_X_head_22 : am_W m_X_head 22 ls st h Q ↔ am_W m_X_head 23 ls (.int 3 :: st) h Q := am_go (q := (23, ls, .int 3 :: st, h)) o_X_head rfl rfl (fun _ => rfl)
theorem k_X_head_23 : am_W m_X_head 23 ls (.int y :: .int x :: st) h Q ↔ (y < x → am_W m_X_head 37 ls st h Q) ∧ (¬ y < x → am_W m_X_head 26 ls st h Q) := (am_go (q := (if y < x then 37 else 26, ls, st, h)) o_X_head rfl rfl (fun _ => rfl)).trans am_ite
theorem k_X_head_26 : am_W m_X_head 26 (v0 :: v1 :: v2 :: .int x :: ls) st h Q ↔ am_W m_X_head 27 (v0 :: v1 :: v2 :: .int x :: ls) (.int x :: st) h Q := am_go (q := (27, v0 :: v1 :: v2 :: .int x :: ls, .int x :: st, h)) o_X_head rfl rfl (fun _ => rfl)
theorem k_X_head_27 : am_W m_X_head 27 ls (.int x :: st) h Q ↔ (x < 0 → am_W m_X_head 37 ls st h Q) ∧ (¬ x < 0 → am_W m_X_head 30 ls st h Q) := (am_go (q := (if x < 0 then 37 else 30, ls, st, h)) o_X_head rfl rfl (fun _ => rfl)).trans am_ite
theorem k_X_head_30 : am_W m_X_head 30 (v0 :: v1 :: v2 :: .int x :: ls) st h Q ↔ am_W m_X_head 31 (v0 :: v1 :: v2 :: .int x :: ls) (.int x :: st) h Q := am_go (q := (31, v0 :: v1 :: v2 :: .int x :: ls, .int x :: st, h)) o_X_head rfl rfl (fun _ => rfl)
theorem k_X_head_31 : am_W m_X_head 31 ls st h Q ↔ am_W m_X_head 34 ls (.int 255 :: st) h Q := am_go (q := (34, ls, .int 255 :: st, h)) o_X_head rfl rfl (fun _ => rfl)
theorem k_X_head_34 : am_W m_X_head 34 ls (.int y :: .int x :: st) h Q ↔ (x ≤ y → am_W m_X_head 39 ls st h Q) ∧ (¬ x ≤ y → am_W m_X_head 37 ls st h Q) := (am_go (q := (if x ≤ y then 39 else 37, ls, st, h)) o_X_head rfl rfl (fun _ => rfl)).trans am_ite
theorem k_X_head_37 : am_W m_X_head 37 ls st h Q ↔ am_W m_X_head 38 ls (.int 0 :: st) h Q := am_go (q := (38, ls, .int 0 :: st, h)) o_X_head rfl rfl (fun _ => rfl)
theorem k_X_head_38 : am_W m_X_head 38 ls [.int x] h Q ↔ (x = 0 ∨ x = 1) ∧ Q (some (.int x)) h := am_zret rfl rfl
theorem k_X_head_39 : am_W m_X_head 39 (.ref a :: ls) st h Q ↔ am_W m_X_head 40 (.ref a :: ls) (.ref a :: st) h Q := am_go (q := (40, .ref a :: ls, .ref a :: st, h)) o_X_head rfl rfl (fun _ => rfl)
theorem k_X_head_40 : am_W m_X_head 40 ls (.ref a :: st) h Q ↔ am_ob (am_gf h a 9 0) (fun v => am_W m_X_head 43 ls (v :: st) h Q) := am_getf o_X_head rfl rfl
theorem k_X_head_43 : am_W m_X_head 43 (v0 :: .int x :: ls) st h Q ↔ am_W m_X_head 44 (v0 :: .int x :: ls) (.int x :: st) h Q := am_go (q := (44, v0 :: .int x :: ls, .int x :: st, h)) o_X_head rfl rfl (fun _ => rfl)
theorem k_X_head_44 : am_W m_X_head 44 (v0 :: v1 :: .int x :: ls) st h Q ↔ am_W m_X_head 45 (v0 :: v1 :: .int x :: ls) (.int x :: st) h Q := am_go (q := (45, v0 :: v1 :: .int x :: ls, .int x :: st, h)) o_X_head rfl rfl (fun _ => rfl)
theorem k_X_head_45 : am_W m_X_head 45 (v0 :: v1 :: v2 :: .int x :: ls) st h Q ↔ am_W m_X_head 46 (v0 :: v1 :: v2 :: .int x :: ls) (.int x :: st) h Q := am_go (q := (46, v0 :: v1 :: v2 :: .int x :: ls, .int x :: st, h)) o_X_head rfl rfl (fun _ => rfl)
theorem k_X_head_46 : am_W m_X_head 46 (v0 :: v1 :: v2 :: v3 :: .int x :: ls) st h Q ↔ am_W m_X_head 48 (v0 :: v1 :: v2 :: v3 :: .int x :: ls) (.int x :: st) h Q := am_go (q := (48, v0 :: v1 :: v2 :: v3 :: .int x :: ls, .int x :: st, h)) o_X_head rfl rfl (fun _ => rfl)
theorem k_X_head_48 : am_W m_X_head 48 ls (v4 :: v3 :: v2 :: v1 :: v0 :: st) h Q ↔ (st.length ≤ 8 ∧ am_rc h [v0, v1, v2, v3, v4] (some 2) = true) ∧ am_C f_P_beginMethod [v0, v1, v2, v3, v4] h (fun r h' => am_W m_X_head 51 ls (r.toList ++ st) h' Q) := am_ca o_X_head rfl (Or.inl rfl) rfl [v0, v1, v2, v3, v4] st rfl
theorem k_X_head_51 : am_W m_X_head 51 ls st h Q ↔ am_W m_X_head 52 ls (.int 1 :: st) h Q := am_go (q := (52, ls, .int 1 :: st, h)) o_X_head rfl rfl (fun _ => rfl)
theorem k_X_head_52 : am_W m_X_head 52 ls [.int x] h Q ↔ (x = 0 ∨ x = 1) ∧ Q (some (.int x)) h := am_zret rfl rfl
theorem k_X_fitsX_0 : am_W m_X_fitsX 0 (.int x :: ls) st h Q ↔ am_W m_X_fitsX 1 (.int x :: ls) (.int x :: st) h Q := am_go (q := (1, .int x :: ls, .int x :: st, h)) o_X_fitsX rfl rfl (fun _ => rfl)
theorem k_X_fitsX_1 : am_W m_X_fitsX 1 ls (.int x :: st) h Q ↔ am_W m_X_fitsX (am_tsw 1 122 0 15 #[79, 81, 86, 86, 122, 122, 122, 122, 101, 101, 81, 81, 81, 117, 122, 81] x) ls st h Q := am_go (q := (am_tsw 1 122 0 15 #[79, 81, 86, 86, 122, 122, 122, 122, 101, 101, 81, 81, 81, 117, 122, 81] x, ls, st, h)) o_X_fitsX rfl rfl (fun _ => rfl)
theorem k_X_fitsX_80 : am_W m_X_fitsX 80 ls st h Q ↔ am_W m_X_fitsX 81 ls (.int 1 :: st) h Q := am_go (q := (81, ls, .int 1 :: st, h)) o_X_fitsX rfl rfl (fun _ => rfl)
theorem k_X_fitsX_81 : am_W m_X_fitsX 81 ls [.int x] h Q ↔ (x = 0 ∨ x = 1) ∧ Q (some (.int x)) h := am_zret rfl rfl
theorem k_X_fitsX_82 : am_W m_X_fitsX 82 (v0 :: .int x :: ls) st h Q ↔ am_W m_X_fitsX 83 (v0 :: .int x :: ls) (.int x :: st) h Q := am_go (q := (83, v0 :: .int x :: ls, .int x :: st, h)) o_X_fitsX rfl rfl (fun _ => rfl)
theorem k_X_fitsX_83 : am_W m_X_fitsX 83 ls (v0 :: st) h Q ↔ (st.length ≤ 8 ∧ am_rc h [v0] none = true) ∧ am_C f_X_isClass [v0] h (fun r h' => am_W m_X_fitsX 86 ls (r.toList ++ st) h' Q) := am_ca o_X_fitsX rfl (Or.inr (Or.inr rfl)) rfl [v0] st rfl
theorem k_X_fitsX_86 : am_W m_X_fitsX 86 ls [.int x] h Q ↔ (x = 0 ∨ x = 1) ∧ Q (some (.int x)) h := am_zret rfl rfl
theorem k_X_fitsX_87 : am_W m_X_fitsX 87 (v0 :: .int x :: ls) st h Q ↔ am_W m_X_fitsX 88 (v0 :: .int x :: ls) (.int x :: st) h Q := am_go (q := (88, v0 :: .int x :: ls, .int x :: st, h)) o_X_fitsX rfl rfl (fun _ => rfl)
theorem k_X_fitsX_88 : am_W m_X_fitsX 88 ls (.int x :: st) h Q ↔ (x < 0 → am_W m_X_fitsX 100 ls st h Q) ∧ (¬ x < 0 → am_W m_X_fitsX 91 ls st h Q) := (am_go (q := (if x < 0 then 100 else 91, ls, st, h)) o_X_fitsX rfl rfl (fun _ => rfl)).trans am_ite
theorem k_X_fitsX_91 : am_W m_X_fitsX 91 (v0 :: .int x :: ls) st h Q ↔ am_W m_X_fitsX 92 (v0 :: .int x :: ls) (.int x :: st) h Q := am_go (q := (92, v0 :: .int x :: ls, .int x :: st, h)) o_X_fitsX rfl rfl (fun _ => rfl)
theorem k_X_fitsX_92 : am_W m_X_fitsX 92 ls st h Q ↔ am_W m_X_fitsX 93 ls (.int 4 :: st) h Q := am_go (q := (93, ls, .int 4 :: st, h)) o_X_fitsX rfl rfl (fun _ => rfl)
theorem k_X_fitsX_93 : am_W m_X_fitsX 93 ls (.int y :: .int x :: st) h Q ↔ (y ≤ x → am_W m_X_fitsX 100 ls st h Q) ∧ (¬ y ≤ x → am_W m_X_fitsX 96 ls st h Q) := (am_go (q := (if y ≤ x then 100 else 96, ls, st, h)) o_X_fitsX rfl rfl (fun _ => rfl)).trans am_ite
theorem k_X_fitsX_96 : am_W m_X_fitsX 96 ls st h Q ↔ am_W m_X_fitsX 97 ls (.int 1 :: st) h Q := am_go (q := (97, ls, .int 1 :: st, h)) o_X_fitsX rfl rfl (fun _ => rfl)
theorem k_X_fitsX_97 : am_W m_X_fitsX 97 ls st h Q ↔ am_W m_X_fitsX 101 ls st h Q := am_go (q := (101, ls, st, h)) o_X_fitsX rfl rfl (fun _ => rfl)
theorem k_X_fitsX_100 : am_W m_X_fitsX 100 ls st h Q ↔ am_W m_X_fitsX 101 ls (.int 0 :: st) h Q := am_go (q := (101, ls, .int 0 :: st, h)) o_X_fitsX rfl rfl (fun _ => rfl)
theorem k_X_fitsX_101 : am_W m_X_fitsX 101 ls [.int x] h Q ↔ (x = 0 ∨ x = 1) ∧ Q (some (.int x)) h := am_zret rfl rfl
theorem k_X_fitsX_102 : am_W m_X_fitsX 102 (v0 :: .int x :: ls) st h Q ↔ am_W m_X_fitsX 103 (v0 :: .int x :: ls) (.int x :: st) h Q := am_go (q := (103, v0 :: .int x :: ls, .int x :: st, h)) o_X_fitsX rfl rfl (fun _ => rfl)
theorem k_X_fitsX_103 : am_W m_X_fitsX 103 ls (.int x :: st) h Q ↔ (x < 0 → am_W m_X_fitsX 116 ls st h Q) ∧ (¬ x < 0 → am_W m_X_fitsX 106 ls st h Q) := (am_go (q := (if x < 0 then 116 else 106, ls, st, h)) o_X_fitsX rfl rfl (fun _ => rfl)).trans am_ite
theorem k_X_fitsX_106 : am_W m_X_fitsX 106 (v0 :: .int x :: ls) st h Q ↔ am_W m_X_fitsX 107 (v0 :: .int x :: ls) (.int x :: st) h Q := am_go (q := (107, v0 :: .int x :: ls, .int x :: st, h)) o_X_fitsX rfl rfl (fun _ => rfl)
theorem k_X_fitsX_107 : am_W m_X_fitsX 107 ls st h Q ↔ am_W m_X_fitsX 109 ls (.int 14 :: st) h Q := am_go (q := (109, ls, .int 14 :: st, h)) o_X_fitsX rfl rfl (fun _ => rfl)
theorem k_X_fitsX_109 : am_W m_X_fitsX 109 ls (.int y :: .int x :: st) h Q ↔ (y ≤ x → am_W m_X_fitsX 116 ls st h Q) ∧ (¬ y ≤ x → am_W m_X_fitsX 112 ls st h Q) := (am_go (q := (if y ≤ x then 116 else 112, ls, st, h)) o_X_fitsX rfl rfl (fun _ => rfl)).trans am_ite
theorem k_X_fitsX_112 : am_W m_X_fitsX 112 ls st h Q ↔ am_W m_X_fitsX 113 ls (.int 1 :: st) h Q := am_go (q := (113, ls, .int 1 :: st, h)) o_X_fitsX rfl rfl (fun _ => rfl)
theorem k_X_fitsX_113 : am_W m_X_fitsX 113 ls st h Q ↔ am_W m_X_fitsX 117 ls st h Q := am_go (q := (117, ls, st, h)) o_X_fitsX rfl rfl (fun _ => rfl)
theorem k_X_fitsX_116 : am_W m_X_fitsX 116 ls st h Q ↔ am_W m_X_fitsX 117 ls (.int 0 :: st) h Q := am_go (q := (117, ls, .int 0 :: st, h)) o_X_fitsX rfl rfl (fun _ => rfl)
theorem k_X_fitsX_117 : am_W m_X_fitsX 117 ls [.int x] h Q ↔ (x = 0 ∨ x = 1) ∧ Q (some (.int x)) h := am_zret rfl rfl
theorem k_X_fitsX_118 : am_W m_X_fitsX 118 (v0 :: .int x :: ls) st h Q ↔ am_W m_X_fitsX 119 (v0 :: .int x :: ls) (.int x :: st) h Q := am_go (q := (119, v0 :: .int x :: ls, .int x :: st, h)) o_X_fitsX rfl rfl (fun _ => rfl)
theorem k_X_fitsX_119 : am_W m_X_fitsX 119 ls (v0 :: st) h Q ↔ (st.length ≤ 8 ∧ am_rc h [v0] none = true) ∧ am_C f_X_isMethod [v0] h (fun r h' => am_W m_X_fitsX 122 ls (r.toList ++ st) h' Q) := am_ca o_X_fitsX rfl (Or.inr (Or.inr rfl)) rfl [v0] st rfl
theorem k_X_fitsX_122 : am_W m_X_fitsX 122 ls [.int x] h Q ↔ (x = 0 ∨ x = 1) ∧ Q (some (.int x)) h := am_zret rfl rfl
theorem k_X_fitsX_123 : am_W m_X_fitsX 123 (v0 :: .int x :: ls) st h Q ↔ am_W m_X_fitsX 124 (v0 :: .int x :: ls) (.int x :: st) h Q := am_go (q := (124, v0 :: .int x :: ls, .int x :: st, h)) o_X_fitsX rfl rfl (fun _ => rfl)
theorem k_X_fitsX_124 : am_W m_X_fitsX 124 ls (.int x :: st) h Q ↔ (x = 0 → am_W m_X_fitsX 127 ls st h Q) ∧ (¬ x = 0 → am_W m_X_fitsX 131 ls st h Q) := (am_go (q := (if ¬ x = 0 then 131 else 127, ls, st, h)) o_X_fitsX rfl rfl (fun _ => rfl)).trans am_iteN
theorem k_X_fitsX_127 : am_W m_X_fitsX 127 ls st h Q ↔ am_W m_X_fitsX 128 ls (.int 1 :: st) h Q := am_go (q := (128, ls, .int 1 :: st, h)) o_X_fitsX rfl rfl (fun _ => rfl)
theorem k_X_fitsX_128 : am_W m_X_fitsX 128 ls st h Q ↔ am_W m_X_fitsX 132 ls st h Q := am_go (q := (132, ls, st, h)) o_X_fitsX rfl rfl (fun _ => rfl)
theorem k_X_fitsX_131 : am_W m_X_fitsX 131 ls st h Q ↔ am_W m_X_fitsX 132 ls (.int 0 :: st) h Q := am_go (q := (132, ls, .int 0 :: st, h)) o_X_fitsX rfl rfl (fun _ => rfl)
theorem k_X_fitsX_132 : am_W m_X_fitsX 132 ls [.int x] h Q ↔ (x = 0 ∨ x = 1) ∧ Q (some (.int x)) h := am_zret rfl rfl
theorem k_X_fitsY_0 : am_W m_X_fitsY 0 (.int x :: ls) st h Q ↔ am_W m_X_fitsY 1 (.int x :: ls) (.int x :: st) h Q := am_go (q := (1, .int x :: ls, .int x :: st, h)) o_X_fitsY rfl rfl (fun _ => rfl)
theorem k_X_fitsY_1 : am_W m_X_fitsY 1 ls st h Q ↔ am_W m_X_fitsY 3 ls (.int 11 :: st) h Q := am_go (q := (3, ls, .int 11 :: st, h)) o_X_fitsY rfl rfl (fun _ => rfl)
theorem k_X_fitsY_3 : am_W m_X_fitsY 3 ls (.int y :: .int x :: st) h Q ↔ (x = y → am_W m_X_fitsY 12 ls st h Q) ∧ (¬ x = y → am_W m_X_fitsY 6 ls st h Q) := (am_go (q := (if x = y then 12 else 6, ls, st, h)) o_X_fitsY rfl rfl (fun _ => rfl)).trans am_ite
theorem k_X_fitsY_6 : am_W m_X_fitsY 6 (.int x :: ls) st h Q ↔ am_W m_X_fitsY 7 (.int x :: ls) (.int x :: st) h Q := am_go (q := (7, .int x :: ls, .int x :: st, h)) o_X_fitsY rfl rfl (fun _ => rfl)
theorem k_X_fitsY_7 : am_W m_X_fitsY 7 ls st h Q ↔ am_W m_X_fitsY 9 ls (.int 12 :: st) h Q := am_go (q := (9, ls, .int 12 :: st, h)) o_X_fitsY rfl rfl (fun _ => rfl)
theorem k_X_fitsY_9 : am_W m_X_fitsY 9 ls (.int y :: .int x :: st) h Q ↔ (x = y → am_W m_X_fitsY 12 ls st h Q) ∧ (¬ x = y → am_W m_X_fitsY 19 ls st h Q) := (am_go (q := (if ¬ x = y then 19 else 12, ls, st, h)) o_X_fitsY rfl rfl (fun _ => rfl)).trans am_iteN
theorem k_X_fitsY_12 : am_W m_X_fitsY 12 (v0 :: .int x :: ls) st h Q ↔ am_W m_X_fitsY 13 (v0 :: .int x :: ls) (.int x :: st) h Q := am_go (q := (13, v0 :: .int x :: ls, .int x :: st, h)) o_X_fitsY rfl rfl (fun _ => rfl)
theorem k_X_fitsY_13 : am_W m_X_fitsY 13 ls (v0 :: st) h Q ↔ (st.length ≤ 8 ∧ am_rc h [v0] none = true) ∧ am_C f_X_isName [v0] h (fun r h' => am_W m_X_fitsY 16 ls (r.toList ++ st) h' Q) := am_ca o_X_fitsY rfl (Or.inr (Or.inr rfl)) rfl [v0] st rfl
theorem k_X_fitsY_16 : am_W m_X_fitsY 16 ls st h Q ↔ am_W m_X_fitsY 28 ls st h Q := am_go (q := (28, ls, st, h)) o_X_fitsY rfl rfl (fun _ => rfl)
theorem k_X_fitsY_19 : am_W m_X_fitsY 19 (v0 :: .int x :: ls) st h Q ↔ am_W m_X_fitsY 20 (v0 :: .int x :: ls) (.int x :: st) h Q := am_go (q := (20, v0 :: .int x :: ls, .int x :: st, h)) o_X_fitsY rfl rfl (fun _ => rfl)
theorem k_X_fitsY_20 : am_W m_X_fitsY 20 ls (.int x :: st) h Q ↔ (x = 0 → am_W m_X_fitsY 23 ls st h Q) ∧ (¬ x = 0 → am_W m_X_fitsY 27 ls st h Q) := (am_go (q := (if ¬ x = 0 then 27 else 23, ls, st, h)) o_X_fitsY rfl rfl (fun _ => rfl)).trans am_iteN
theorem k_X_fitsY_23 : am_W m_X_fitsY 23 ls st h Q ↔ am_W m_X_fitsY 24 ls (.int 1 :: st) h Q := am_go (q := (24, ls, .int 1 :: st, h)) o_X_fitsY rfl rfl (fun _ => rfl)
theorem k_X_fitsY_24 : am_W m_X_fitsY 24 ls st h Q ↔ am_W m_X_fitsY 28 ls st h Q := am_go (q := (28, ls, st, h)) o_X_fitsY rfl rfl (fun _ => rfl)
theorem k_X_fitsY_27 : am_W m_X_fitsY 27 ls st h Q ↔ am_W m_X_fitsY 28 ls (.int 0 :: st) h Q := am_go (q := (28, ls, .int 0 :: st, h)) o_X_fitsY rfl rfl (fun _ => rfl)
theorem k_X_fitsY_28 : am_W m_X_fitsY 28 ls [.int x] h Q ↔ (x = 0 ∨ x = 1) ∧ Q (some (.int x)) h := am_zret rfl rfl
theorem k_X_code_0 : am_W m_X_code 0 (v0 :: .int x :: ls) st h Q ↔ am_W m_X_code 1 (v0 :: .int x :: ls) (.int x :: st) h Q := am_go (q := (1, v0 :: .int x :: ls, .int x :: st, h)) o_X_code rfl rfl (fun _ => rfl)
theorem k_X_code_1 : am_W m_X_code 1 ls (v0 :: st) h Q ↔ (st.length ≤ 8 ∧ am_rc h [v0] none = true) ∧ am_C f_X_isMethod [v0] h (fun r h' => am_W m_X_code 4 ls (r.toList ++ st) h' Q) := am_ca o_X_code rfl (Or.inr (Or.inr rfl)) rfl [v0] st rfl
theorem k_X_code_4 : am_W m_X_code 4 ls (.int x :: st) h Q ↔ (x = 0 → am_W m_X_code 33 ls st h Q) ∧ (¬ x = 0 → am_W m_X_code 7 ls st h Q) := (am_go (q := (if x = 0 then 33 else 7, ls, st, h)) o_X_code rfl rfl (fun _ => rfl)).trans am_ite
theorem k_X_code_7 : am_W m_X_code 7 (.ref a :: ls) st h Q ↔ am_W m_X_code 8 (.ref a :: ls) (.ref a :: st) h Q := am_go (q := (8, .ref a :: ls, .ref a :: st, h)) o_X_code rfl rfl (fun _ => rfl)
theorem k_X_code_8 : am_W m_X_code 8 ls (.ref a :: st) h Q ↔ am_ob (am_gf h a 9 0) (fun v => am_W m_X_code 11 ls (v :: st) h Q) := am_getf o_X_code rfl rfl
theorem k_X_code_11 : am_W m_X_code 11 (v0 :: .int x :: ls) st h Q ↔ am_W m_X_code 12 (v0 :: .int x :: ls) (.int x :: st) h Q := am_go (q := (12, v0 :: .int x :: ls, .int x :: st, h)) o_X_code rfl rfl (fun _ => rfl)
theorem k_X_code_12 : am_W m_X_code 12 ls (v1 :: v0 :: st) h Q ↔ (st.length ≤ 8 ∧ am_rc h [v0, v1] (some 2) = true) ∧ am_C f_P_touchesMethod [v0, v1] h (fun r h' => am_W m_X_code 15 ls (r.toList ++ st) h' Q) := am_ca o_X_code rfl (Or.inl rfl) rfl [v0, v1] st rfl
theorem k_X_code_15 : am_W m_X_code 15 ls (.int x :: st) h Q ↔ (x = 0 → am_W m_X_code 33 ls st h Q) ∧ (¬ x = 0 → am_W m_X_code 18 ls st h Q) := (am_go (q := (if x = 0 then 33 else 18, ls, st, h)) o_X_code rfl rfl (fun _ => rfl)).trans am_ite
theorem k_X_code_18 : am_W m_X_code 18 (.ref a :: ls) st h Q ↔ am_W m_X_code 19 (.ref a :: ls) (.ref a :: st) h Q := am_go (q := (19, .ref a :: ls, .ref a :: st, h)) o_X_code rfl rfl (fun _ => rfl)
theorem k_X_code_19 : am_W m_X_code 19 ls (.ref a :: st) h Q ↔ am_ob (am_gf h a 9 0) (fun v => am_W m_X_code 22 ls (v :: st) h Q) := am_getf o_X_code rfl rfl
theorem k_X_code_22 : am_W m_X_code 22 ls (.ref a :: st) h Q ↔ am_ob (am_gf h a 2 1) (fun v => am_W m_X_code 25 ls (v :: st) h Q) := am_getf o_X_code rfl rfl
theorem k_X_code_25 : am_W m_X_code 25 (v0 :: .int x :: ls) st h Q ↔ am_W m_X_code 26 (v0 :: .int x :: ls) (.int x :: st) h Q := am_go (q := (26, v0 :: .int x :: ls, .int x :: st, h)) o_X_code rfl rfl (fun _ => rfl)
theorem k_X_code_26 : am_W m_X_code 26 ls (.int x :: .ref a :: st) h Q ↔ am_ob (am_la h a x) (fun v => am_W m_X_code 27 ls (.ref v :: st) h Q) := am_aald o_X_code rfl
theorem k_X_code_27 : am_W m_X_code 27 ls (v0 :: st) h Q ↔ (st.length ≤ 8 ∧ am_rc h [v0] (some 1) = true) ∧ am_C f_R_isFull [v0] h (fun r h' => am_W m_X_code 30 ls (r.toList ++ st) h' Q) := am_ca o_X_code rfl (Or.inl rfl) rfl [v0] st rfl
theorem k_X_code_30 : am_W m_X_code 30 ls (.int x :: st) h Q ↔ (x = 0 → am_W m_X_code 35 ls st h Q) ∧ (¬ x = 0 → am_W m_X_code 33 ls st h Q) := (am_go (q := (if x = 0 then 35 else 33, ls, st, h)) o_X_code rfl rfl (fun _ => rfl)).trans am_ite
theorem k_X_code_33 : am_W m_X_code 33 ls st h Q ↔ am_W m_X_code 34 ls (.int 0 :: st) h Q := am_go (q := (34, ls, .int 0 :: st, h)) o_X_code rfl rfl (fun _ => rfl)
theorem k_X_code_34 : am_W m_X_code 34 ls [.int x] h Q ↔ (x = 0 ∨ x = 1) ∧ Q (some (.int x)) h := am_zret rfl rfl
theorem k_X_code_35 : am_W m_X_code 35 (v0 :: v1 :: .int x :: ls) st h Q ↔ am_W m_X_code 36 (v0 :: v1 :: .int x :: ls) (.int x :: st) h Q := am_go (q := (36, v0 :: v1 :: .int x :: ls, .int x :: st, h)) o_X_code rfl rfl (fun _ => rfl)
theorem k_X_code_36 : am_W m_X_code 36 ls (.int x :: st) h Q ↔ (x < 0 → am_W m_X_code 62 ls st h Q) ∧ (¬ x < 0 → am_W m_X_code 39 ls st h Q) := (am_go (q := (if x < 0 then 62 else 39, ls, st, h)) o_X_code rfl rfl (fun _ => rfl)).trans am_ite
theorem k_X_code_39 : am_W m_X_code 39 (v0 :: v1 :: .int x :: ls) st h Q ↔ am_W m_X_code 40 (v0 :: v1 :: .int x :: ls) (.int x :: st) h Q := am_go (q := (40, v0 :: v1 :: .int x :: ls, .int x :: st, h)) o_X_code rfl rfl (fun _ => rfl)
theorem k_X_code_40 : am_W m_X_code 40 ls st h Q ↔ am_W m_X_code 42 ls (.int 16 :: st) h Q := am_go (q := (42, ls, .int 16 :: st, h)) o_X_code rfl rfl (fun _ => rfl)
theorem k_X_code_42 : am_W m_X_code 42 ls (.int y :: .int x :: st) h Q ↔ (y < x → am_W m_X_code 62 ls st h Q) ∧ (¬ y < x → am_W m_X_code 45 ls st h Q) := (am_go (q := (if y < x then 62 else 45, ls, st, h)) o_X_code rfl rfl (fun _ => rfl)).trans am_ite
theorem k_X_code_45 : am_W m_X_code 45 (v0 :: v1 :: .int x :: ls) st h Q ↔ am_W m_X_code 46 (v0 :: v1 :: .int x :: ls) (.int x :: st) h Q := am_go (q := (46, v0 :: v1 :: .int x :: ls, .int x :: st, h)) o_X_code rfl rfl (fun _ => rfl)
theorem k_X_code_46 : am_W m_X_code 46 (v0 :: v1 :: v2 :: .int x :: ls) st h Q ↔ am_W m_X_code 47 (v0 :: v1 :: v2 :: .int x :: ls) (.int x :: st) h Q := am_go (q := (47, v0 :: v1 :: v2 :: .int x :: ls, .int x :: st, h)) o_X_code rfl rfl (fun _ => rfl)
theorem k_X_code_47 : am_W m_X_code 47 ls (v1 :: v0 :: st) h Q ↔ (st.length ≤ 8 ∧ am_rc h [v0, v1] none = true) ∧ am_C f_X_fitsX [v0, v1] h (fun r h' => am_W m_X_code 50 ls (r.toList ++ st) h' Q) := am_ca o_X_code rfl (Or.inr (Or.inr rfl)) rfl [v0, v1] st rfl
theorem k_X_code_50 : am_W m_X_code 50 ls (.int x :: st) h Q ↔ (x = 0 → am_W m_X_code 62 ls st h Q) ∧ (¬ x = 0 → am_W m_X_code 53 ls st h Q) := (am_go (q := (if x = 0 then 62 else 53, ls, st, h)) o_X_code rfl rfl (fun _ => rfl)).trans am_ite
theorem k_X_code_53 : am_W m_X_code 53 (v0 :: v1 :: .int x :: ls) st h Q ↔ am_W m_X_code 54 (v0 :: v1 :: .int x :: ls) (.int x :: st) h Q := am_go (q := (54, v0 :: v1 :: .int x :: ls, .int x :: st, h)) o_X_code rfl rfl (fun _ => rfl)
theorem k_X_code_54 : am_W m_X_code 54 (v0 :: v1 :: v2 :: v3 :: .int x :: ls) st h Q ↔ am_W m_X_code 56 (v0 :: v1 :: v2 :: v3 :: .int x :: ls) (.int x :: st) h Q := am_go (q := (56, v0 :: v1 :: v2 :: v3 :: .int x :: ls, .int x :: st, h)) o_X_code rfl rfl (fun _ => rfl)
theorem k_X_code_56 : am_W m_X_code 56 ls (v1 :: v0 :: st) h Q ↔ (st.length ≤ 8 ∧ am_rc h [v0, v1] none = true) ∧ am_C f_X_fitsY [v0, v1] h (fun r h' => am_W m_X_code 59 ls (r.toList ++ st) h' Q) := am_ca o_X_code rfl (Or.inr (Or.inr rfl)) rfl [v0, v1] st rfl
theorem k_X_code_59 : am_W m_X_code 59 ls (.int x :: st) h Q ↔ (x = 0 → am_W m_X_code 62 ls st h Q) ∧ (¬ x = 0 → am_W m_X_code 64 ls st h Q) := (am_go (q := (if ¬ x = 0 then 64 else 62, ls, st, h)) o_X_code rfl rfl (fun _ => rfl)).trans am_iteN
theorem k_X_code_62 : am_W m_X_code 62 ls st h Q ↔ am_W m_X_code 63 ls (.int 0 :: st) h Q := am_go (q := (63, ls, .int 0 :: st, h)) o_X_code rfl rfl (fun _ => rfl)
theorem k_X_code_63 : am_W m_X_code 63 ls [.int x] h Q ↔ (x = 0 ∨ x = 1) ∧ Q (some (.int x)) h := am_zret rfl rfl
theorem k_X_code_64 : am_W m_X_code 64 (.ref a :: ls) st h Q ↔ am_W m_X_code 65 (.ref a :: ls) (.ref a :: st) h Q := am_go (q := (65, .ref a :: ls, .ref a :: st, h)) o_X_code rfl rfl (fun _ => rfl)
theorem k_X_code_65 : am_W m_X_code 65 ls (.ref a :: st) h Q ↔ am_ob (am_gf h a 9 0) (fun v => am_W m_X_code 68 ls (v :: st) h Q) := am_getf o_X_code rfl rfl
theorem k_X_code_68 : am_W m_X_code 68 ls (.ref a :: st) h Q ↔ am_ob (am_gf h a 2 1) (fun v => am_W m_X_code 71 ls (v :: st) h Q) := am_getf o_X_code rfl rfl
theorem k_X_code_71 : am_W m_X_code 71 (v0 :: .int x :: ls) st h Q ↔ am_W m_X_code 72 (v0 :: .int x :: ls) (.int x :: st) h Q := am_go (q := (72, v0 :: .int x :: ls, .int x :: st, h)) o_X_code rfl rfl (fun _ => rfl)
theorem k_X_code_72 : am_W m_X_code 72 ls (.int x :: .ref a :: st) h Q ↔ am_ob (am_la h a x) (fun v => am_W m_X_code 73 ls (.ref v :: st) h Q) := am_aald o_X_code rfl
theorem k_X_code_73 : am_W m_X_code 73 (v0 :: v1 :: .int x :: ls) st h Q ↔ am_W m_X_code 74 (v0 :: v1 :: .int x :: ls) (.int x :: st) h Q := am_go (q := (74, v0 :: v1 :: .int x :: ls, .int x :: st, h)) o_X_code rfl rfl (fun _ => rfl)
theorem k_X_code_74 : am_W m_X_code 74 (v0 :: v1 :: v2 :: .int x :: ls) st h Q ↔ am_W m_X_code 75 (v0 :: v1 :: v2 :: .int x :: ls) (.int x :: st) h Q := am_go (q := (75, v0 :: v1 :: v2 :: .int x :: ls, .int x :: st, h)) o_X_code rfl rfl (fun _ => rfl)
theorem k_X_code_75 : am_W m_X_code 75 (v0 :: v1 :: v2 :: v3 :: .int x :: ls) st h Q ↔ am_W m_X_code 77 (v0 :: v1 :: v2 :: v3 :: .int x :: ls) (.int x :: st) h Q := am_go (q := (77, v0 :: v1 :: v2 :: v3 :: .int x :: ls, .int x :: st, h)) o_X_code rfl rfl (fun _ => rfl)
theorem k_X_code_77 : am_W m_X_code 77 ls (v3 :: v2 :: v1 :: v0 :: st) h Q ↔ (st.length ≤ 8 ∧ am_rc h [v0, v1, v2, v3] (some 1) = true) ∧ am_C f_R_add [v0, v1, v2, v3] h (fun r h' => am_W m_X_code 80 ls (r.toList ++ st) h' Q) := am_ca o_X_code rfl (Or.inl rfl) rfl [v0, v1, v2, v3] st rfl
theorem k_X_code_80 : am_W m_X_code 80 ls st h Q ↔ am_W m_X_code 81 ls (.int 1 :: st) h Q := am_go (q := (81, ls, .int 1 :: st, h)) o_X_code rfl rfl (fun _ => rfl)
theorem k_X_code_81 : am_W m_X_code 81 ls [.int x] h Q ↔ (x = 0 ∨ x = 1) ∧ Q (some (.int x)) h := am_zret rfl rfl
theorem k_X_drop_0 : am_W m_X_drop 0 (.ref a :: ls) st h Q ↔ am_W m_X_drop 1 (.ref a :: ls) (.ref a :: st) h Q := am_go (q := (1, .ref a :: ls, .ref a :: st, h)) o_X_drop rfl rfl (fun _ => rfl)
theorem k_X_drop_1 : am_W m_X_drop 1 ls (.ref a :: st) h Q ↔ am_ob (am_gf h a 9 0) (fun v => am_W m_X_drop 4 ls (v :: st) h Q) := am_getf o_X_drop rfl rfl
theorem k_X_drop_4 : am_W m_X_drop 4 ls (v0 :: st) h Q ↔ (st.length ≤ 8 ∧ am_rc h [v0] (some 2) = true) ∧ am_C f_P_touchesAnything [v0] h (fun r h' => am_W m_X_drop 7 ls (r.toList ++ st) h' Q) := am_ca o_X_drop rfl (Or.inl rfl) rfl [v0] st rfl
theorem k_X_drop_7 : am_W m_X_drop 7 ls (.int x :: st) h Q ↔ (x = 0 → am_W m_X_drop 10 ls st h Q) ∧ (¬ x = 0 → am_W m_X_drop 12 ls st h Q) := (am_go (q := (if ¬ x = 0 then 12 else 10, ls, st, h)) o_X_drop rfl rfl (fun _ => rfl)).trans am_iteN
theorem k_X_drop_10 : am_W m_X_drop 10 ls st h Q ↔ am_W m_X_drop 11 ls (.int 0 :: st) h Q := am_go (q := (11, ls, .int 0 :: st, h)) o_X_drop rfl rfl (fun _ => rfl)
theorem k_X_drop_11 : am_W m_X_drop 11 ls [.int x] h Q ↔ (x = 0 ∨ x = 1) ∧ Q (some (.int x)) h := am_zret rfl rfl
theorem k_X_drop_12 : am_W m_X_drop 12 (.ref a :: ls) st h Q ↔ am_W m_X_drop 13 (.ref a :: ls) (.ref a :: st) h Q := am_go (q := (13, .ref a :: ls, .ref a :: st, h)) o_X_drop rfl rfl (fun _ => rfl)
theorem k_X_drop_13 : am_W m_X_drop 13 ls (.ref a :: st) h Q ↔ am_ob (am_gf h a 9 0) (fun v => am_W m_X_drop 16 ls (v :: st) h Q) := am_getf o_X_drop rfl rfl
theorem k_X_drop_16 : am_W m_X_drop 16 (.ref a :: ls) st h Q ↔ am_W m_X_drop 17 (.ref a :: ls) (.ref a :: st) h Q := am_go (q := (17, .ref a :: ls, .ref a :: st, h)) o_X_drop rfl rfl (fun _ => rfl)
theorem k_X_drop_17 : am_W m_X_drop 17 ls (.ref a :: st) h Q ↔ am_ob (am_gf h a 9 1) (fun v => am_W m_X_drop 20 ls (v :: st) h Q) := am_getf o_X_drop rfl rfl
theorem k_X_drop_20 : am_W m_X_drop 20 ls (v0 :: st) h Q ↔ (st.length ≤ 8 ∧ am_rc h [v0] (some 3) = true) ∧ am_C f_Q_newest [v0] h (fun r h' => am_W m_X_drop 23 ls (r.toList ++ st) h' Q) := am_ca o_X_drop rfl (Or.inl rfl) rfl [v0] st rfl
theorem k_X_drop_23 : am_W m_X_drop 23 ls (v1 :: v0 :: st) h Q ↔ (st.length ≤ 8 ∧ am_rc h [v0, v1] (some 2) = true) ∧ am_C f_P_beginAs [v0, v1] h (fun r h' => am_W m_X_drop 26 ls (r.toList ++ st) h' Q) := am_ca o_X_drop rfl (Or.inl rfl) rfl [v0, v1] st rfl
theorem k_X_drop_26 : am_W m_X_drop 26 ls st h Q ↔ am_W m_X_drop 27 ls (.int 1 :: st) h Q := am_go (q := (27, ls, .int 1 :: st, h)) o_X_drop rfl rfl (fun _ => rfl)
theorem k_X_drop_27 : am_W m_X_drop 27 ls [.int x] h Q ↔ (x = 0 ∨ x = 1) ∧ Q (some (.int x)) h := am_zret rfl rfl
theorem k_X_applyWhatCan_0 : am_W m_X_applyWhatCan 0 ls st h Q ↔ am_W m_X_applyWhatCan 1 ls (.int 0 :: st) h Q := am_go (q := (1, ls, .int 0 :: st, h)) o_X_applyWhatCan rfl rfl (fun _ => rfl)
theorem k_X_applyWhatCan_1 : am_W m_X_applyWhatCan 1 (v0 :: ls) (.int x :: st) h Q ↔ am_W m_X_applyWhatCan 2 (v0 :: .int x :: ls.tail) st h Q := am_go (q := (2, v0 :: .int x :: ls.tail, st, h)) o_X_applyWhatCan rfl rfl (fun _ => rfl)
theorem k_X_applyWhatCan_2 : am_W m_X_applyWhatCan 2 (v0 :: .int x :: ls) st h Q ↔ am_W m_X_applyWhatCan 3 (v0 :: .int x :: ls) (.int x :: st) h Q := am_go (q := (3, v0 :: .int x :: ls, .int x :: st, h)) o_X_applyWhatCan rfl rfl (fun _ => rfl)
theorem k_X_applyWhatCan_3 : am_W m_X_applyWhatCan 3 ls st h Q ↔ am_W m_X_applyWhatCan 4 ls (.int 3 :: st) h Q := am_go (q := (4, ls, .int 3 :: st, h)) o_X_applyWhatCan rfl rfl (fun _ => rfl)
theorem k_X_applyWhatCan_4 : am_W m_X_applyWhatCan 4 ls (.int y :: .int x :: st) h Q ↔ (y ≤ x → am_W m_X_applyWhatCan 104 ls st h Q) ∧ (¬ y ≤ x → am_W m_X_applyWhatCan 7 ls st h Q) := (am_go (q := (if y ≤ x then 104 else 7, ls, st, h)) o_X_applyWhatCan rfl rfl (fun _ => rfl)).trans am_ite
theorem k_X_applyWhatCan_7 : am_W m_X_applyWhatCan 7 (.ref a :: ls) st h Q ↔ am_W m_X_applyWhatCan 8 (.ref a :: ls) (.ref a :: st) h Q := am_go (q := (8, .ref a :: ls, .ref a :: st, h)) o_X_applyWhatCan rfl rfl (fun _ => rfl)
theorem k_X_applyWhatCan_8 : am_W m_X_applyWhatCan 8 ls (.ref a :: st) h Q ↔ am_ob (am_gf h a 9 1) (fun v => am_W m_X_applyWhatCan 11 ls (v :: st) h Q) := am_getf o_X_applyWhatCan rfl rfl
theorem k_X_applyWhatCan_11 : am_W m_X_applyWhatCan 11 ls (.ref a :: st) h Q ↔ am_ob (am_gf h a 3 2) (fun v => am_W m_X_applyWhatCan 14 ls (v :: st) h Q) := am_getf o_X_applyWhatCan rfl rfl
theorem k_X_applyWhatCan_14 : am_W m_X_applyWhatCan 14 ls (.int x :: st) h Q ↔ (x ≤ 0 → am_W m_X_applyWhatCan 104 ls st h Q) ∧ (¬ x ≤ 0 → am_W m_X_applyWhatCan 17 ls st h Q) := (am_go (q := (if x ≤ 0 then 104 else 17, ls, st, h)) o_X_applyWhatCan rfl rfl (fun _ => rfl)).trans am_ite
theorem k_X_applyWhatCan_17 : am_W m_X_applyWhatCan 17 (.ref a :: ls) st h Q ↔ am_W m_X_applyWhatCan 18 (.ref a :: ls) (.ref a :: st) h Q := am_go (q := (18, .ref a :: ls, .ref a :: st, h)) o_X_applyWhatCan rfl rfl (fun _ => rfl)
theorem k_X_applyWhatCan_18 : am_W m_X_applyWhatCan 18 ls (.ref a :: st) h Q ↔ am_ob (am_gf h a 9 3) (fun v => am_W m_X_applyWhatCan 21 ls (v :: st) h Q) := am_getf o_X_applyWhatCan rfl rfl
theorem k_X_applyWhatCan_21 : am_W m_X_applyWhatCan 21 (.ref a :: ls) st h Q ↔ am_W m_X_applyWhatCan 22 (.ref a :: ls) (.ref a :: st) h Q := am_go (q := (22, .ref a :: ls, .ref a :: st, h)) o_X_applyWhatCan rfl rfl (fun _ => rfl)
theorem k_X_applyWhatCan_22 : am_W m_X_applyWhatCan 22 ls (.ref a :: st) h Q ↔ am_ob (am_gf h a 9 1) (fun v => am_W m_X_applyWhatCan 25 ls (v :: st) h Q) := am_getf o_X_applyWhatCan rfl rfl
theorem k_X_applyWhatCan_25 : am_W m_X_applyWhatCan 25 ls (v0 :: st) h Q ↔ (st.length ≤ 8 ∧ am_rc h [v0] (some 3) = true) ∧ am_C f_Q_firstWaiting [v0] h (fun r h' => am_W m_X_applyWhatCan 28 ls (r.toList ++ st) h' Q) := am_ca o_X_applyWhatCan rfl (Or.inl rfl) rfl [v0] st rfl
theorem k_X_applyWhatCan_28 : am_W m_X_applyWhatCan 28 ls (.ref a :: st) h Q ↔ am_ob (am_gf h a 2 4) (fun v => am_W m_X_applyWhatCan 31 ls (v :: st) h Q) := am_getf o_X_applyWhatCan rfl rfl
theorem k_X_applyWhatCan_31 : am_W m_X_applyWhatCan 31 ls (v1 :: v0 :: st) h Q ↔ (st.length ≤ 8 ∧ am_rc h [v0, v1] (some 8) = true) ∧ am_C f_U_hasFrameOfOneOf [v0, v1] h (fun r h' => am_W m_X_applyWhatCan 34 ls (r.toList ++ st) h' Q) := am_ca o_X_applyWhatCan rfl (Or.inl rfl) rfl [v0, v1] st rfl
theorem k_X_applyWhatCan_34 : am_W m_X_applyWhatCan 34 ls (.int x :: st) h Q ↔ (x = 0 → am_W m_X_applyWhatCan 38 ls st h Q) ∧ (¬ x = 0 → am_W m_X_applyWhatCan 37 ls st h Q) := (am_go (q := (if x = 0 then 38 else 37, ls, st, h)) o_X_applyWhatCan rfl rfl (fun _ => rfl)).trans am_ite
theorem k_X_applyWhatCan_37 : am_W m_X_applyWhatCan 37 ls [] h Q ↔ Q none h := am_vret rfl rfl
theorem k_X_applyWhatCan_38 : am_W m_X_applyWhatCan 38 (.ref a :: ls) st h Q ↔ am_W m_X_applyWhatCan 39 (.ref a :: ls) (.ref a :: st) h Q := am_go (q := (39, .ref a :: ls, .ref a :: st, h)) o_X_applyWhatCan rfl rfl (fun _ => rfl)
theorem k_X_applyWhatCan_39 : am_W m_X_applyWhatCan 39 ls (.ref a :: st) h Q ↔ am_ob (am_gf h a 9 1) (fun v => am_W m_X_applyWhatCan 42 ls (v :: st) h Q) := am_getf o_X_applyWhatCan rfl rfl
theorem k_X_applyWhatCan_42 : am_W m_X_applyWhatCan 42 ls (v0 :: st) h Q ↔ (st.length ≤ 8 ∧ am_rc h [v0] (some 3) = true) ∧ am_C f_Q_present [v0] h (fun r h' => am_W m_X_applyWhatCan 45 ls (r.toList ++ st) h' Q) := am_ca o_X_applyWhatCan rfl (Or.inl rfl) rfl [v0] st rfl
theorem k_X_applyWhatCan_45 : am_W m_X_applyWhatCan 45 (v0 :: v1 :: ls) (.ref a :: st) h Q ↔ am_W m_X_applyWhatCan 46 (v0 :: v1 :: .ref a :: ls.tail) st h Q := am_go (q := (46, v0 :: v1 :: .ref a :: ls.tail, st, h)) o_X_applyWhatCan rfl rfl (fun _ => rfl)
theorem k_X_applyWhatCan_46 : am_W m_X_applyWhatCan 46 (.ref a :: ls) st h Q ↔ am_W m_X_applyWhatCan 47 (.ref a :: ls) (.ref a :: st) h Q := am_go (q := (47, .ref a :: ls, .ref a :: st, h)) o_X_applyWhatCan rfl rfl (fun _ => rfl)
theorem k_X_applyWhatCan_47 : am_W m_X_applyWhatCan 47 ls (.ref a :: st) h Q ↔ am_ob (am_gf h a 9 3) (fun v => am_W m_X_applyWhatCan 50 ls (v :: st) h Q) := am_getf o_X_applyWhatCan rfl rfl
theorem k_X_applyWhatCan_50 : am_W m_X_applyWhatCan 50 (v0 :: v1 :: .ref a :: ls) st h Q ↔ am_W m_X_applyWhatCan 51 (v0 :: v1 :: .ref a :: ls) (.ref a :: st) h Q := am_go (q := (51, v0 :: v1 :: .ref a :: ls, .ref a :: st, h)) o_X_applyWhatCan rfl rfl (fun _ => rfl)
theorem k_X_applyWhatCan_51 : am_W m_X_applyWhatCan 51 ls (v1 :: v0 :: st) h Q ↔ (st.length ≤ 8 ∧ am_rc h [v0, v1] (some 8) = true) ∧ am_C f_U_collect [v0, v1] h (fun r h' => am_W m_X_applyWhatCan 54 ls (r.toList ++ st) h' Q) := am_ca o_X_applyWhatCan rfl (Or.inl rfl) rfl [v0, v1] st rfl
theorem k_X_applyWhatCan_54 : am_W m_X_applyWhatCan 54 (.ref a :: ls) st h Q ↔ am_W m_X_applyWhatCan 55 (.ref a :: ls) (.ref a :: st) h Q := am_go (q := (55, .ref a :: ls, .ref a :: st, h)) o_X_applyWhatCan rfl rfl (fun _ => rfl)
theorem k_X_applyWhatCan_55 : am_W m_X_applyWhatCan 55 ls (.ref a :: st) h Q ↔ am_W m_X_applyWhatCan 56 ls (.ref a :: .ref a :: st) h Q := am_go (q := (56, ls, .ref a :: .ref a :: st, h)) o_X_applyWhatCan rfl rfl (fun _ => rfl)
theorem k_X_applyWhatCan_55i : am_W m_X_applyWhatCan 55 ls (.int x :: st) h Q ↔ am_W m_X_applyWhatCan 56 ls (.int x :: .int x :: st) h Q := am_go (q := (56, ls, .int x :: .int x :: st, h)) o_X_applyWhatCan rfl rfl (fun _ => rfl)
theorem k_X_applyWhatCan_56 : am_W m_X_applyWhatCan 56 ls (.ref a :: st) h Q ↔ am_ob (am_gf h a 9 5) (fun v => am_W m_X_applyWhatCan 59 ls (v :: st) h Q) := am_getf o_X_applyWhatCan rfl rfl
theorem k_X_applyWhatCan_59 : am_W m_X_applyWhatCan 59 (.ref a :: ls) st h Q ↔ am_W m_X_applyWhatCan 60 (.ref a :: ls) (.ref a :: st) h Q := am_go (q := (60, .ref a :: ls, .ref a :: st, h)) o_X_applyWhatCan rfl rfl (fun _ => rfl)
theorem k_X_applyWhatCan_60 : am_W m_X_applyWhatCan 60 ls (.ref a :: st) h Q ↔ am_ob (am_gf h a 9 3) (fun v => am_W m_X_applyWhatCan 63 ls (v :: st) h Q) := am_getf o_X_applyWhatCan rfl rfl
theorem k_X_applyWhatCan_63 : am_W m_X_applyWhatCan 63 ls (.ref a :: st) h Q ↔ am_ob (am_gf h a 8 1) (fun v => am_W m_X_applyWhatCan 66 ls (v :: st) h Q) := am_getf o_X_applyWhatCan rfl rfl
theorem k_X_applyWhatCan_66 : am_W m_X_applyWhatCan 66 (v0 :: v1 :: .ref a :: ls) st h Q ↔ am_W m_X_applyWhatCan 67 (v0 :: v1 :: .ref a :: ls) (.ref a :: st) h Q := am_go (q := (67, v0 :: v1 :: .ref a :: ls, .ref a :: st, h)) o_X_applyWhatCan rfl rfl (fun _ => rfl)
theorem k_X_applyWhatCan_67 : am_W m_X_applyWhatCan 67 (.ref a :: ls) st h Q ↔ am_W m_X_applyWhatCan 68 (.ref a :: ls) (.ref a :: st) h Q := am_go (q := (68, .ref a :: ls, .ref a :: st, h)) o_X_applyWhatCan rfl rfl (fun _ => rfl)
theorem k_X_applyWhatCan_68 : am_W m_X_applyWhatCan 68 ls (.ref a :: st) h Q ↔ am_ob (am_gf h a 9 1) (fun v => am_W m_X_applyWhatCan 71 ls (v :: st) h Q) := am_getf o_X_applyWhatCan rfl rfl
theorem k_X_applyWhatCan_71 : am_W m_X_applyWhatCan 71 ls (v0 :: st) h Q ↔ (st.length ≤ 8 ∧ am_rc h [v0] (some 3) = true) ∧ am_C f_Q_firstWaiting [v0] h (fun r h' => am_W m_X_applyWhatCan 74 ls (r.toList ++ st) h' Q) := am_ca o_X_applyWhatCan rfl (Or.inl rfl) rfl [v0] st rfl
theorem k_X_applyWhatCan_74 : am_W m_X_applyWhatCan 74 ls (v2 :: v1 :: v0 :: st) h Q ↔ (st.length ≤ 8 ∧ am_rc h [v0, v1, v2] (some 5) = true) ∧ am_C f_H_moveObjects [v0, v1, v2] h (fun r h' => am_W m_X_applyWhatCan 77 ls (r.toList ++ st) h' Q) := am_ca o_X_applyWhatCan rfl (Or.inl rfl) rfl [v0, v1, v2] st rfl
theorem k_X_applyWhatCan_77 : am_W m_X_applyWhatCan 77 ls (.int y :: .int x :: st) h Q ↔ am_W m_X_applyWhatCan 78 ls (.int (x + y) :: st) h Q := am_go (q := (78, ls, .int (x + y) :: st, h)) o_X_applyWhatCan rfl rfl (fun _ => rfl)
theorem k_X_applyWhatCan_78 : am_W m_X_applyWhatCan 78 ls (v0 :: .ref a :: st) h Q ↔ am_ob (am_pf h a 9 5 0 v0) (fun h' => am_W m_X_applyWhatCan 81 ls st h' Q) := am_putf o_X_applyWhatCan rfl rfl
theorem k_X_applyWhatCan_81 : am_W m_X_applyWhatCan 81 (.ref a :: ls) st h Q ↔ am_W m_X_applyWhatCan 82 (.ref a :: ls) (.ref a :: st) h Q := am_go (q := (82, .ref a :: ls, .ref a :: st, h)) o_X_applyWhatCan rfl rfl (fun _ => rfl)
theorem k_X_applyWhatCan_82 : am_W m_X_applyWhatCan 82 ls (.ref a :: st) h Q ↔ am_ob (am_gf h a 9 1) (fun v => am_W m_X_applyWhatCan 85 ls (v :: st) h Q) := am_getf o_X_applyWhatCan rfl rfl
theorem k_X_applyWhatCan_85 : am_W m_X_applyWhatCan 85 ls (v0 :: st) h Q ↔ (st.length ≤ 8 ∧ am_rc h [v0] (some 3) = true) ∧ am_C f_Q_advance [v0] h (fun r h' => am_W m_X_applyWhatCan 88 ls (r.toList ++ st) h' Q) := am_ca o_X_applyWhatCan rfl (Or.inl rfl) rfl [v0] st rfl
theorem k_X_applyWhatCan_88 : am_W m_X_applyWhatCan 88 (.ref a :: ls) st h Q ↔ am_W m_X_applyWhatCan 89 (.ref a :: ls) (.ref a :: st) h Q := am_go (q := (89, .ref a :: ls, .ref a :: st, h)) o_X_applyWhatCan rfl rfl (fun _ => rfl)
theorem k_X_applyWhatCan_89 : am_W m_X_applyWhatCan 89 ls (.ref a :: st) h Q ↔ am_W m_X_applyWhatCan 90 ls (.ref a :: .ref a :: st) h Q := am_go (q := (90, ls, .ref a :: .ref a :: st, h)) o_X_applyWhatCan rfl rfl (fun _ => rfl)
theorem k_X_applyWhatCan_89i : am_W m_X_applyWhatCan 89 ls (.int x :: st) h Q ↔ am_W m_X_applyWhatCan 90 ls (.int x :: .int x :: st) h Q := am_go (q := (90, ls, .int x :: .int x :: st, h)) o_X_applyWhatCan rfl rfl (fun _ => rfl)
theorem k_X_applyWhatCan_90 : am_W m_X_applyWhatCan 90 ls (.ref a :: st) h Q ↔ am_ob (am_gf h a 9 4) (fun v => am_W m_X_applyWhatCan 93 ls (v :: st) h Q) := am_getf o_X_applyWhatCan rfl rfl
theorem k_X_applyWhatCan_93 : am_W m_X_applyWhatCan 93 ls st h Q ↔ am_W m_X_applyWhatCan 94 ls (.int 1 :: st) h Q := am_go (q := (94, ls, .int 1 :: st, h)) o_X_applyWhatCan rfl rfl (fun _ => rfl)
theorem k_X_applyWhatCan_94 : am_W m_X_applyWhatCan 94 ls (.int y :: .int x :: st) h Q ↔ am_W m_X_applyWhatCan 95 ls (.int (x + y) :: st) h Q := am_go (q := (95, ls, .int (x + y) :: st, h)) o_X_applyWhatCan rfl rfl (fun _ => rfl)
theorem k_X_applyWhatCan_95 : am_W m_X_applyWhatCan 95 ls (v0 :: .ref a :: st) h Q ↔ am_ob (am_pf h a 9 4 0 v0) (fun h' => am_W m_X_applyWhatCan 98 ls st h' Q) := am_putf o_X_applyWhatCan rfl rfl
theorem k_X_applyWhatCan_98 : am_W m_X_applyWhatCan 98 (v0 :: .int x :: ls) st h Q ↔ am_W m_X_applyWhatCan 101 (v0 :: .int (x + 1) :: ls) st h Q := am_go (q := (101, v0 :: .int (x + 1) :: ls, st, h)) o_X_applyWhatCan rfl rfl (fun _ => rfl)
theorem k_X_applyWhatCan_101 : am_W m_X_applyWhatCan 101 ls st h Q ↔ am_W m_X_applyWhatCan 2 ls st h Q := am_go (q := (2, ls, st, h)) o_X_applyWhatCan rfl rfl (fun _ => rfl)
theorem k_X_applyWhatCan_104 : am_W m_X_applyWhatCan 104 ls [] h Q ↔ Q none h := am_vret rfl rfl
theorem k_X_commit_0 : am_W m_X_commit 0 (.ref a :: ls) st h Q ↔ am_W m_X_commit 1 (.ref a :: ls) (.ref a :: st) h Q := am_go (q := (1, .ref a :: ls, .ref a :: st, h)) o_X_commit rfl rfl (fun _ => rfl)
theorem k_X_commit_1 : am_W m_X_commit 1 ls (.ref a :: st) h Q ↔ am_ob (am_gf h a 9 0) (fun v => am_W m_X_commit 4 ls (v :: st) h Q) := am_getf o_X_commit rfl rfl
theorem k_X_commit_4 : am_W m_X_commit 4 ls (v0 :: st) h Q ↔ (st.length ≤ 8 ∧ am_rc h [v0] (some 2) = true) ∧ am_C f_P_touchesAnything [v0] h (fun r h' => am_W m_X_commit 7 ls (r.toList ++ st) h' Q) := am_ca o_X_commit rfl (Or.inl rfl) rfl [v0] st rfl
theorem k_X_commit_7 : am_W m_X_commit 7 ls (.int x :: st) h Q ↔ (x = 0 → am_W m_X_commit 20 ls st h Q) ∧ (¬ x = 0 → am_W m_X_commit 10 ls st h Q) := (am_go (q := (if x = 0 then 20 else 10, ls, st, h)) o_X_commit rfl rfl (fun _ => rfl)).trans am_ite
theorem k_X_commit_10 : am_W m_X_commit 10 (.ref a :: ls) st h Q ↔ am_W m_X_commit 11 (.ref a :: ls) (.ref a :: st) h Q := am_go (q := (11, .ref a :: ls, .ref a :: st, h)) o_X_commit rfl rfl (fun _ => rfl)
theorem k_X_commit_11 : am_W m_X_commit 11 ls (.ref a :: st) h Q ↔ am_ob (am_gf h a 9 1) (fun v => am_W m_X_commit 14 ls (v :: st) h Q) := am_getf o_X_commit rfl rfl
theorem k_X_commit_14 : am_W m_X_commit 14 ls (v0 :: st) h Q ↔ (st.length ≤ 8 ∧ am_rc h [v0] (some 3) = true) ∧ am_C f_Q_isFull [v0] h (fun r h' => am_W m_X_commit 17 ls (r.toList ++ st) h' Q) := am_ca o_X_commit rfl (Or.inl rfl) rfl [v0] st rfl
theorem k_X_commit_17 : am_W m_X_commit 17 ls (.int x :: st) h Q ↔ (x = 0 → am_W m_X_commit 22 ls st h Q) ∧ (¬ x = 0 → am_W m_X_commit 20 ls st h Q) := (am_go (q := (if x = 0 then 22 else 20, ls, st, h)) o_X_commit rfl rfl (fun _ => rfl)).trans am_ite
theorem k_X_commit_20 : am_W m_X_commit 20 ls st h Q ↔ am_W m_X_commit 21 ls (.int (-1) :: st) h Q := am_go (q := (21, ls, .int (-1) :: st, h)) o_X_commit rfl rfl (fun _ => rfl)
theorem k_X_commit_21 : am_W m_X_commit 21 ls [.int x] h Q ↔ Q (some (.int x)) h := am_iret rfl rfl
theorem k_X_commit_22 : am_W m_X_commit 22 (.ref a :: ls) st h Q ↔ am_W m_X_commit 23 (.ref a :: ls) (.ref a :: st) h Q := am_go (q := (23, .ref a :: ls, .ref a :: st, h)) o_X_commit rfl rfl (fun _ => rfl)
theorem k_X_commit_23 : am_W m_X_commit 23 ls (.ref a :: st) h Q ↔ am_ob (am_gf h a 9 2) (fun v => am_W m_X_commit 26 ls (v :: st) h Q) := am_getf o_X_commit rfl rfl
theorem k_X_commit_26 : am_W m_X_commit 26 (.ref a :: ls) st h Q ↔ am_W m_X_commit 27 (.ref a :: ls) (.ref a :: st) h Q := am_go (q := (27, .ref a :: ls, .ref a :: st, h)) o_X_commit rfl rfl (fun _ => rfl)
theorem k_X_commit_27 : am_W m_X_commit 27 ls (.ref a :: st) h Q ↔ am_ob (am_gf h a 9 0) (fun v => am_W m_X_commit 30 ls (v :: st) h Q) := am_getf o_X_commit rfl rfl
theorem k_X_commit_30 : am_W m_X_commit 30 ls (v1 :: v0 :: st) h Q ↔ (st.length ≤ 8 ∧ am_rc h [v0, v1] (some 4) = true) ∧ am_C f_C_firstBadPlace [v0, v1] h (fun r h' => am_W m_X_commit 33 ls (r.toList ++ st) h' Q) := am_ca o_X_commit rfl (Or.inl rfl) rfl [v0, v1] st rfl
theorem k_X_commit_33 : am_W m_X_commit 33 (v0 :: ls) (.int x :: st) h Q ↔ am_W m_X_commit 34 (v0 :: .int x :: ls.tail) st h Q := am_go (q := (34, v0 :: .int x :: ls.tail, st, h)) o_X_commit rfl rfl (fun _ => rfl)
theorem k_X_commit_34 : am_W m_X_commit 34 (v0 :: .int x :: ls) st h Q ↔ am_W m_X_commit 35 (v0 :: .int x :: ls) (.int x :: st) h Q := am_go (q := (35, v0 :: .int x :: ls, .int x :: st, h)) o_X_commit rfl rfl (fun _ => rfl)
theorem k_X_commit_35 : am_W m_X_commit 35 ls st h Q ↔ am_W m_X_commit 36 ls (.int (-1) :: st) h Q := am_go (q := (36, ls, .int (-1) :: st, h)) o_X_commit rfl rfl (fun _ => rfl)
theorem k_X_commit_36 : am_W m_X_commit 36 ls (.int y :: .int x :: st) h Q ↔ (x = y → am_W m_X_commit 43 ls st h Q) ∧ (¬ x = y → am_W m_X_commit 39 ls st h Q) := (am_go (q := (if x = y then 43 else 39, ls, st, h)) o_X_commit rfl rfl (fun _ => rfl)).trans am_ite
theorem k_X_commit_39 : am_W m_X_commit 39 ls st h Q ↔ am_W m_X_commit 40 ls (.int 1 :: st) h Q := am_go (q := (40, ls, .int 1 :: st, h)) o_X_commit rfl rfl (fun _ => rfl)
theorem k_X_commit_40 : am_W m_X_commit 40 (v0 :: .int x :: ls) st h Q ↔ am_W m_X_commit 41 (v0 :: .int x :: ls) (.int x :: st) h Q := am_go (q := (41, v0 :: .int x :: ls, .int x :: st, h)) o_X_commit rfl rfl (fun _ => rfl)
theorem k_X_commit_41 : am_W m_X_commit 41 ls (.int y :: .int x :: st) h Q ↔ am_W m_X_commit 42 ls (.int (x + y) :: st) h Q := am_go (q := (42, ls, .int (x + y) :: st, h)) o_X_commit rfl rfl (fun _ => rfl)
theorem k_X_commit_42 : am_W m_X_commit 42 ls [.int x] h Q ↔ Q (some (.int x)) h := am_iret rfl rfl
theorem k_X_commit_43 : am_W m_X_commit 43 (.ref a :: ls) st h Q ↔ am_W m_X_commit 44 (.ref a :: ls) (.ref a :: st) h Q := am_go (q := (44, .ref a :: ls, .ref a :: st, h)) o_X_commit rfl rfl (fun _ => rfl)
theorem k_X_commit_44 : am_W m_X_commit 44 ls (.ref a :: st) h Q ↔ am_ob (am_gf h a 9 0) (fun v => am_W m_X_commit 47 ls (v :: st) h Q) := am_getf o_X_commit rfl rfl
theorem k_X_commit_47 : am_W m_X_commit 47 (.ref a :: ls) st h Q ↔ am_W m_X_commit 48 (.ref a :: ls) (.ref a :: st) h Q := am_go (q := (48, .ref a :: ls, .ref a :: st, h)) o_X_commit rfl rfl (fun _ => rfl)
theorem k_X_commit_48 : am_W m_X_commit 48 ls (.ref a :: st) h Q ↔ am_ob (am_gf h a 9 1) (fun v => am_W m_X_commit 51 ls (v :: st) h Q) := am_getf o_X_commit rfl rfl
theorem k_X_commit_51 : am_W m_X_commit 51 ls (v0 :: st) h Q ↔ (st.length ≤ 8 ∧ am_rc h [v0] (some 3) = true) ∧ am_C f_Q_newest [v0] h (fun r h' => am_W m_X_commit 54 ls (r.toList ++ st) h' Q) := am_ca o_X_commit rfl (Or.inl rfl) rfl [v0] st rfl
theorem k_X_commit_54 : am_W m_X_commit 54 ls (v1 :: v0 :: st) h Q ↔ (st.length ≤ 8 ∧ am_rc h [v0, v1] (some 2) = true) ∧ am_C f_P_restrict [v0, v1] h (fun r h' => am_W m_X_commit 57 ls (r.toList ++ st) h' Q) := am_ca o_X_commit rfl (Or.inl rfl) rfl [v0, v1] st rfl
theorem k_X_commit_57 : am_W m_X_commit 57 (.ref a :: ls) st h Q ↔ am_W m_X_commit 58 (.ref a :: ls) (.ref a :: st) h Q := am_go (q := (58, .ref a :: ls, .ref a :: st, h)) o_X_commit rfl rfl (fun _ => rfl)
theorem k_X_commit_58 : am_W m_X_commit 58 ls (.ref a :: st) h Q ↔ am_ob (am_gf h a 9 1) (fun v => am_W m_X_commit 61 ls (v :: st) h Q) := am_getf o_X_commit rfl rfl
theorem k_X_commit_61 : am_W m_X_commit 61 (.ref a :: ls) st h Q ↔ am_W m_X_commit 62 (.ref a :: ls) (.ref a :: st) h Q := am_go (q := (62, .ref a :: ls, .ref a :: st, h)) o_X_commit rfl rfl (fun _ => rfl)
theorem k_X_commit_62 : am_W m_X_commit 62 ls (.ref a :: st) h Q ↔ am_ob (am_gf h a 9 0) (fun v => am_W m_X_commit 65 ls (v :: st) h Q) := am_getf o_X_commit rfl rfl
theorem k_X_commit_65 : am_W m_X_commit 65 ls (v1 :: v0 :: st) h Q ↔ (st.length ≤ 8 ∧ am_rc h [v0, v1] (some 3) = true) ∧ am_C f_Q_add [v0, v1] h (fun r h' => am_W m_X_commit 68 ls (r.toList ++ st) h' Q) := am_ca o_X_commit rfl (Or.inl rfl) rfl [v0, v1] st rfl
theorem k_X_commit_68 : am_W m_X_commit 68 (.ref a :: ls) st h Q ↔ am_W m_X_commit 69 (.ref a :: ls) (.ref a :: st) h Q := am_go (q := (69, .ref a :: ls, .ref a :: st, h)) o_X_commit rfl rfl (fun _ => rfl)
theorem k_X_commit_69 : am_W m_X_commit 69 ls (.ref a :: st) h Q ↔ am_ob (am_gf h a 9 0) (fun v => am_W m_X_commit 72 ls (v :: st) h Q) := am_getf o_X_commit rfl rfl
theorem k_X_commit_72 : am_W m_X_commit 72 (.ref a :: ls) st h Q ↔ am_W m_X_commit 73 (.ref a :: ls) (.ref a :: st) h Q := am_go (q := (73, .ref a :: ls, .ref a :: st, h)) o_X_commit rfl rfl (fun _ => rfl)
theorem k_X_commit_73 : am_W m_X_commit 73 ls (.ref a :: st) h Q ↔ am_ob (am_gf h a 9 1) (fun v => am_W m_X_commit 76 ls (v :: st) h Q) := am_getf o_X_commit rfl rfl
theorem k_X_commit_76 : am_W m_X_commit 76 ls (v0 :: st) h Q ↔ (st.length ≤ 8 ∧ am_rc h [v0] (some 3) = true) ∧ am_C f_Q_newest [v0] h (fun r h' => am_W m_X_commit 79 ls (r.toList ++ st) h' Q) := am_ca o_X_commit rfl (Or.inl rfl) rfl [v0] st rfl
theorem k_X_commit_79 : am_W m_X_commit 79 ls (v1 :: v0 :: st) h Q ↔ (st.length ≤ 8 ∧ am_rc h [v0, v1] (some 2) = true) ∧ am_C f_P_beginAs [v0, v1] h (fun r h' => am_W m_X_commit 82 ls (r.toList ++ st) h' Q) := am_ca o_X_commit rfl (Or.inl rfl) rfl [v0, v1] st rfl
theorem k_X_commit_82 : am_W m_X_commit 82 (.ref a :: ls) st h Q ↔ am_W m_X_commit 83 (.ref a :: ls) (.ref a :: st) h Q := am_go (q := (83, .ref a :: ls, .ref a :: st, h)) o_X_commit rfl rfl (fun _ => rfl)
theorem k_X_commit_83 : am_W m_X_commit 83 ls (v0 :: st) h Q ↔ (st.length ≤ 8 ∧ am_rc h [v0] (some 9) = true) ∧ am_C f_X_applyWhatCan [v0] h (fun r h' => am_W m_X_commit 86 ls (r.toList ++ st) h' Q) := am_ca o_X_commit rfl (Or.inl rfl) rfl [v0] st rfl
theorem k_X_commit_86 : am_W m_X_commit 86 ls st h Q ↔ am_W m_X_commit 87 ls (.int 0 :: st) h Q := am_go (q := (87, ls, .int 0 :: st, h)) o_X_commit rfl rfl (fun _ => rfl)
theorem k_X_commit_87 : am_W m_X_commit 87 ls [.int x] h Q ↔ Q (some (.int x)) h := am_iret rfl rfl
theorem k_X_waiting_0 : am_W m_X_waiting 0 (.ref a :: ls) st h Q ↔ am_W m_X_waiting 1 (.ref a :: ls) (.ref a :: st) h Q := am_go (q := (1, .ref a :: ls, .ref a :: st, h)) o_X_waiting rfl rfl (fun _ => rfl)
theorem k_X_waiting_1 : am_W m_X_waiting 1 ls (.ref a :: st) h Q ↔ am_ob (am_gf h a 9 1) (fun v => am_W m_X_waiting 4 ls (v :: st) h Q) := am_getf o_X_waiting rfl rfl
theorem k_X_waiting_4 : am_W m_X_waiting 4 ls (.ref a :: st) h Q ↔ am_ob (am_gf h a 3 2) (fun v => am_W m_X_waiting 7 ls (v :: st) h Q) := am_getf o_X_waiting rfl rfl
theorem k_X_waiting_7 : am_W m_X_waiting 7 ls [.int x] h Q ↔ Q (some (.int x)) h := am_iret rfl rfl
theorem k_X_restricted_0 : am_W m_X_restricted 0 (.ref a :: ls) st h Q ↔ am_W m_X_restricted 1 (.ref a :: ls) (.ref a :: st) h Q := am_go (q := (1, .ref a :: ls, .ref a :: st, h)) o_X_restricted rfl rfl (fun _ => rfl)
theorem k_X_restricted_1 : am_W m_X_restricted 1 ls (.ref a :: st) h Q ↔ am_ob (am_gf h a 9 1) (fun v => am_W m_X_restricted 4 ls (v :: st) h Q) := am_getf o_X_restricted rfl rfl
theorem k_X_restricted_4 : am_W m_X_restricted 4 ls (.ref a :: st) h Q ↔ am_ob (am_gf h a 3 2) (fun v => am_W m_X_restricted 7 ls (v :: st) h Q) := am_getf o_X_restricted rfl rfl
theorem k_X_restricted_7 : am_W m_X_restricted 7 ls (.int x :: st) h Q ↔ (x = 0 → am_W m_X_restricted 10 ls st h Q) ∧ (¬ x = 0 → am_W m_X_restricted 14 ls st h Q) := (am_go (q := (if ¬ x = 0 then 14 else 10, ls, st, h)) o_X_restricted rfl rfl (fun _ => rfl)).trans am_iteN
theorem k_X_restricted_10 : am_W m_X_restricted 10 ls st h Q ↔ am_W m_X_restricted 11 ls (.int 0 :: st) h Q := am_go (q := (11, ls, .int 0 :: st, h)) o_X_restricted rfl rfl (fun _ => rfl)
theorem k_X_restricted_11 : am_W m_X_restricted 11 ls st h Q ↔ am_W m_X_restricted 24 ls st h Q := am_go (q := (24, ls, st, h)) o_X_restricted rfl rfl (fun _ => rfl)
theorem k_X_restricted_14 : am_W m_X_restricted 14 (.ref a :: ls) st h Q ↔ am_W m_X_restricted 15 (.ref a :: ls) (.ref a :: st) h Q := am_go (q := (15, .ref a :: ls, .ref a :: st, h)) o_X_restricted rfl rfl (fun _ => rfl)
theorem k_X_restricted_15 : am_W m_X_restricted 15 ls (.ref a :: st) h Q ↔ am_ob (am_gf h a 9 1) (fun v => am_W m_X_restricted 18 ls (v :: st) h Q) := am_getf o_X_restricted rfl rfl
theorem k_X_restricted_18 : am_W m_X_restricted 18 ls (v0 :: st) h Q ↔ (st.length ≤ 8 ∧ am_rc h [v0] (some 3) = true) ∧ am_C f_Q_firstWaiting [v0] h (fun r h' => am_W m_X_restricted 21 ls (r.toList ++ st) h' Q) := am_ca o_X_restricted rfl (Or.inl rfl) rfl [v0] st rfl
theorem k_X_restricted_21 : am_W m_X_restricted 21 ls (.ref a :: st) h Q ↔ am_ob (am_gf h a 2 4) (fun v => am_W m_X_restricted 24 ls (v :: st) h Q) := am_getf o_X_restricted rfl rfl
theorem k_X_restricted_24 : am_W m_X_restricted 24 ls [.int x] h Q ↔ Q (some (.int x)) h := am_iret rfl rfl
theorem k_X_applied_0 : am_W m_X_applied 0 (.ref a :: ls) st h Q ↔ am_W m_X_applied 1 (.ref a :: ls) (.ref a :: st) h Q := am_go (q := (1, .ref a :: ls, .ref a :: st, h)) o_X_applied rfl rfl (fun _ => rfl)
theorem k_X_applied_1 : am_W m_X_applied 1 ls (.ref a :: st) h Q ↔ am_ob (am_gf h a 9 4) (fun v => am_W m_X_applied 4 ls (v :: st) h Q) := am_getf o_X_applied rfl rfl
theorem k_X_applied_4 : am_W m_X_applied 4 ls [.int x] h Q ↔ Q (some (.int x)) h := am_iret rfl rfl
theorem k_X_moved_0 : am_W m_X_moved 0 (.ref a :: ls) st h Q ↔ am_W m_X_moved 1 (.ref a :: ls) (.ref a :: st) h Q := am_go (q := (1, .ref a :: ls, .ref a :: st, h)) o_X_moved rfl rfl (fun _ => rfl)
theorem k_X_moved_1 : am_W m_X_moved 1 ls (.ref a :: st) h Q ↔ am_ob (am_gf h a 9 5) (fun v => am_W m_X_moved 4 ls (v :: st) h Q) := am_getf o_X_moved rfl rfl
theorem k_X_moved_4 : am_W m_X_moved 4 ls [.int x] h Q ↔ Q (some (.int x)) h := am_iret rfl rfl
theorem k_X_start_0 : am_W m_X_start 0 (.ref a :: ls) st h Q ↔ am_W m_X_start 1 (.ref a :: ls) (.ref a :: st) h Q := am_go (q := (1, .ref a :: ls, .ref a :: st, h)) o_X_start rfl rfl (fun _ => rfl)
theorem k_X_start_1 : am_W m_X_start 1 ls (.ref a :: st) h Q ↔ am_ob (am_gf h a 9 3) (fun v => am_W m_X_start 4 ls (v :: st) h Q) := am_getf o_X_start rfl rfl
theorem k_X_start_4 : am_W m_X_start 4 ls (v0 :: st) h Q ↔ (st.length ≤ 8 ∧ am_rc h [v0] (some 8) = true) ∧ am_C f_U_goesOn [v0] h (fun r h' => am_W m_X_start 7 ls (r.toList ++ st) h' Q) := am_ca o_X_start rfl (Or.inl rfl) rfl [v0] st rfl
theorem k_X_start_7 : am_W m_X_start 7 ls (.int x :: st) h Q ↔ (x = 0 → am_W m_X_start 10 ls st h Q) ∧ (¬ x = 0 → am_W m_X_start 17 ls st h Q) := (am_go (q := (if ¬ x = 0 then 17 else 10, ls, st, h)) o_X_start rfl rfl (fun _ => rfl)).trans am_iteN
theorem k_X_start_10 : am_W m_X_start 10 (v0 :: .int x :: ls) st h Q ↔ am_W m_X_start 11 (v0 :: .int x :: ls) (.int x :: st) h Q := am_go (q := (11, v0 :: .int x :: ls, .int x :: st, h)) o_X_start rfl rfl (fun _ => rfl)
theorem k_X_start_11 : am_W m_X_start 11 ls (v0 :: st) h Q ↔ (st.length ≤ 8 ∧ am_rc h [v0] none = true) ∧ am_C f_X_isMethod [v0] h (fun r h' => am_W m_X_start 14 ls (r.toList ++ st) h' Q) := am_ca o_X_start rfl (Or.inr (Or.inr rfl)) rfl [v0] st rfl
theorem k_X_start_14 : am_W m_X_start 14 ls (.int x :: st) h Q ↔ (x = 0 → am_W m_X_start 17 ls st h Q) ∧ (¬ x = 0 → am_W m_X_start 19 ls st h Q) := (am_go (q := (if ¬ x = 0 then 19 else 17, ls, st, h)) o_X_start rfl rfl (fun _ => rfl)).trans am_iteN
theorem k_X_start_17 : am_W m_X_start 17 ls st h Q ↔ am_W m_X_start 18 ls (.int 0 :: st) h Q := am_go (q := (18, ls, .int 0 :: st, h)) o_X_start rfl rfl (fun _ => rfl)
theorem k_X_start_18 : am_W m_X_start 18 ls [.int x] h Q ↔ (x = 0 ∨ x = 1) ∧ Q (some (.int x)) h := am_zret rfl rfl
theorem k_X_start_19 : am_W m_X_start 19 (.ref a :: ls) st h Q ↔ am_W m_X_start 20 (.ref a :: ls) (.ref a :: st) h Q := am_go (q := (20, .ref a :: ls, .ref a :: st, h)) o_X_start rfl rfl (fun _ => rfl)
theorem k_X_start_20 : am_W m_X_start 20 ls (.ref a :: st) h Q ↔ am_ob (am_gf h a 9 1) (fun v => am_W m_X_start 23 ls (v :: st) h Q) := am_getf o_X_start rfl rfl
theorem k_X_start_23 : am_W m_X_start 23 ls (v0 :: st) h Q ↔ (st.length ≤ 8 ∧ am_rc h [v0] (some 3) = true) ∧ am_C f_Q_present [v0] h (fun r h' => am_W m_X_start 26 ls (r.toList ++ st) h' Q) := am_ca o_X_start rfl (Or.inl rfl) rfl [v0] st rfl
theorem k_X_start_26 : am_W m_X_start 26 ls (.ref a :: st) h Q ↔ am_ob (am_gf h a 2 1) (fun v => am_W m_X_start 29 ls (v :: st) h Q) := am_getf o_X_start rfl rfl
theorem k_X_start_29 : am_W m_X_start 29 (v0 :: .int x :: ls) st h Q ↔ am_W m_X_start 30 (v0 :: .int x :: ls) (.int x :: st) h Q := am_go (q := (30, v0 :: .int x :: ls, .int x :: st, h)) o_X_start rfl rfl (fun _ => rfl)
theorem k_X_start_30 : am_W m_X_start 30 ls (.int x :: .ref a :: st) h Q ↔ am_ob (am_la h a x) (fun v => am_W m_X_start 31 ls (.ref v :: st) h Q) := am_aald o_X_start rfl
theorem k_X_start_31 : am_W m_X_start 31 (v0 :: v1 :: ls) (.ref a :: st) h Q ↔ am_W m_X_start 32 (v0 :: v1 :: .ref a :: ls.tail) st h Q := am_go (q := (32, v0 :: v1 :: .ref a :: ls.tail, st, h)) o_X_start rfl rfl (fun _ => rfl)
theorem k_X_start_32 : am_W m_X_start 32 (v0 :: v1 :: .ref a :: ls) st h Q ↔ am_W m_X_start 33 (v0 :: v1 :: .ref a :: ls) (.ref a :: st) h Q := am_go (q := (33, v0 :: v1 :: .ref a :: ls, .ref a :: st, h)) o_X_start rfl rfl (fun _ => rfl)
theorem k_X_start_33 : am_W m_X_start 33 ls (v0 :: st) h Q ↔ (st.length ≤ 8 ∧ am_rc h [v0] (some 1) = true) ∧ am_C f_R_isDefined [v0] h (fun r h' => am_W m_X_start 36 ls (r.toList ++ st) h' Q) := am_ca o_X_start rfl (Or.inl rfl) rfl [v0] st rfl
theorem k_X_start_36 : am_W m_X_start 36 ls (.int x :: st) h Q ↔ (x = 0 → am_W m_X_start 53 ls st h Q) ∧ (¬ x = 0 → am_W m_X_start 39 ls st h Q) := (am_go (q := (if x = 0 then 53 else 39, ls, st, h)) o_X_start rfl rfl (fun _ => rfl)).trans am_ite
theorem k_X_start_39 : am_W m_X_start 39 (v0 :: v1 :: .ref a :: ls) st h Q ↔ am_W m_X_start 40 (v0 :: v1 :: .ref a :: ls) (.ref a :: st) h Q := am_go (q := (40, v0 :: v1 :: .ref a :: ls, .ref a :: st, h)) o_X_start rfl rfl (fun _ => rfl)
theorem k_X_start_40 : am_W m_X_start 40 ls (.ref a :: st) h Q ↔ am_ob (am_gf h a 1 4) (fun v => am_W m_X_start 43 ls (v :: st) h Q) := am_getf o_X_start rfl rfl
theorem k_X_start_43 : am_W m_X_start 43 ls (.int x :: st) h Q ↔ (x = 0 → am_W m_X_start 46 ls st h Q) ∧ (¬ x = 0 → am_W m_X_start 53 ls st h Q) := (am_go (q := (if ¬ x = 0 then 53 else 46, ls, st, h)) o_X_start rfl rfl (fun _ => rfl)).trans am_iteN
theorem k_X_start_46 : am_W m_X_start 46 (v0 :: v1 :: .ref a :: ls) st h Q ↔ am_W m_X_start 47 (v0 :: v1 :: .ref a :: ls) (.ref a :: st) h Q := am_go (q := (47, v0 :: v1 :: .ref a :: ls, .ref a :: st, h)) o_X_start rfl rfl (fun _ => rfl)
theorem k_X_start_47 : am_W m_X_start 47 ls (.ref a :: st) h Q ↔ am_ob (am_gf h a 1 5) (fun v => am_W m_X_start 50 ls (v :: st) h Q) := am_getf o_X_start rfl rfl
theorem k_X_start_50 : am_W m_X_start 50 ls (.int x :: st) h Q ↔ (x = 0 → am_W m_X_start 55 ls st h Q) ∧ (¬ x = 0 → am_W m_X_start 53 ls st h Q) := (am_go (q := (if x = 0 then 55 else 53, ls, st, h)) o_X_start rfl rfl (fun _ => rfl)).trans am_ite
theorem k_X_start_53 : am_W m_X_start 53 ls st h Q ↔ am_W m_X_start 54 ls (.int 0 :: st) h Q := am_go (q := (54, ls, .int 0 :: st, h)) o_X_start rfl rfl (fun _ => rfl)
theorem k_X_start_54 : am_W m_X_start 54 ls [.int x] h Q ↔ (x = 0 ∨ x = 1) ∧ Q (some (.int x)) h := am_zret rfl rfl
theorem k_X_start_55 : am_W m_X_start 55 (.ref a :: ls) st h Q ↔ am_W m_X_start 56 (.ref a :: ls) (.ref a :: st) h Q := am_go (q := (56, .ref a :: ls, .ref a :: st, h)) o_X_start rfl rfl (fun _ => rfl)
theorem k_X_start_56 : am_W m_X_start 56 ls (.ref a :: st) h Q ↔ am_ob (am_gf h a 9 3) (fun v => am_W m_X_start 59 ls (v :: st) h Q) := am_getf o_X_start rfl rfl
theorem k_X_start_59 : am_W m_X_start 59 (v0 :: .int x :: ls) st h Q ↔ am_W m_X_start 60 (v0 :: .int x :: ls) (.int x :: st) h Q := am_go (q := (60, v0 :: .int x :: ls, .int x :: st, h)) o_X_start rfl rfl (fun _ => rfl)
theorem k_X_start_60 : am_W m_X_start 60 ls (v1 :: v0 :: st) h Q ↔ (st.length ≤ 8 ∧ am_rc h [v0, v1] (some 8) = true) ∧ am_C f_U_begin [v0, v1] h (fun r h' => am_W m_X_start 63 ls (r.toList ++ st) h' Q) := am_ca o_X_start rfl (Or.inl rfl) rfl [v0, v1] st rfl
theorem k_X_start_63 : am_W m_X_start 63 ls st h Q ↔ am_W m_X_start 64 ls (.int 1 :: st) h Q := am_go (q := (64, ls, .int 1 :: st, h)) o_X_start rfl rfl (fun _ => rfl)
theorem k_X_start_64 : am_W m_X_start 64 ls [.int x] h Q ↔ (x = 0 ∨ x = 1) ∧ Q (some (.int x)) h := am_zret rfl rfl
theorem k_X_run_0 : am_W m_X_run 0 (v0 :: .int x :: ls) st h Q ↔ am_W m_X_run 1 (v0 :: .int x :: ls) (.int x :: st) h Q := am_go (q := (1, v0 :: .int x :: ls, .int x :: st, h)) o_X_run rfl rfl (fun _ => rfl)
theorem k_X_run_1 : am_W m_X_run 1 ls st h Q ↔ am_W m_X_run 2 ls (.int 1 :: st) h Q := am_go (q := (2, ls, .int 1 :: st, h)) o_X_run rfl rfl (fun _ => rfl)
theorem k_X_run_2 : am_W m_X_run 2 ls (.int y :: .int x :: st) h Q ↔ (x < y → am_W m_X_run 22 ls st h Q) ∧ (¬ x < y → am_W m_X_run 5 ls st h Q) := (am_go (q := (if x < y then 22 else 5, ls, st, h)) o_X_run rfl rfl (fun _ => rfl)).trans am_ite
theorem k_X_run_5 : am_W m_X_run 5 (v0 :: .int x :: ls) st h Q ↔ am_W m_X_run 6 (v0 :: .int x :: ls) (.int x :: st) h Q := am_go (q := (6, v0 :: .int x :: ls, .int x :: st, h)) o_X_run rfl rfl (fun _ => rfl)
theorem k_X_run_6 : am_W m_X_run 6 ls st h Q ↔ am_W m_X_run 9 ls (.int 300 :: st) h Q := am_go (q := (9, ls, .int 300 :: st, h)) o_X_run rfl rfl (fun _ => rfl)
theorem k_X_run_9 : am_W m_X_run 9 ls (.int y :: .int x :: st) h Q ↔ (y < x → am_W m_X_run 22 ls st h Q) ∧ (¬ y < x → am_W m_X_run 12 ls st h Q) := (am_go (q := (if y < x then 22 else 12, ls, st, h)) o_X_run rfl rfl (fun _ => rfl)).trans am_ite
theorem k_X_run_12 : am_W m_X_run 12 (.ref a :: ls) st h Q ↔ am_W m_X_run 13 (.ref a :: ls) (.ref a :: st) h Q := am_go (q := (13, .ref a :: ls, .ref a :: st, h)) o_X_run rfl rfl (fun _ => rfl)
theorem k_X_run_13 : am_W m_X_run 13 ls (.ref a :: st) h Q ↔ am_ob (am_gf h a 9 3) (fun v => am_W m_X_run 16 ls (v :: st) h Q) := am_getf o_X_run rfl rfl
theorem k_X_run_16 : am_W m_X_run 16 ls (v0 :: st) h Q ↔ (st.length ≤ 8 ∧ am_rc h [v0] (some 8) = true) ∧ am_C f_U_goesOn [v0] h (fun r h' => am_W m_X_run 19 ls (r.toList ++ st) h' Q) := am_ca o_X_run rfl (Or.inl rfl) rfl [v0] st rfl
theorem k_X_run_19 : am_W m_X_run 19 ls (.int x :: st) h Q ↔ (x = 0 → am_W m_X_run 22 ls st h Q) ∧ (¬ x = 0 → am_W m_X_run 24 ls st h Q) := (am_go (q := (if ¬ x = 0 then 24 else 22, ls, st, h)) o_X_run rfl rfl (fun _ => rfl)).trans am_iteN
theorem k_X_run_22 : am_W m_X_run 22 ls st h Q ↔ am_W m_X_run 23 ls (.int (-1) :: st) h Q := am_go (q := (23, ls, .int (-1) :: st, h)) o_X_run rfl rfl (fun _ => rfl)
theorem k_X_run_23 : am_W m_X_run 23 ls [.int x] h Q ↔ Q (some (.int x)) h := am_iret rfl rfl
theorem k_X_run_24 : am_W m_X_run 24 ls st h Q ↔ am_W m_X_run 25 ls (.int 0 :: st) h Q := am_go (q := (25, ls, .int 0 :: st, h)) o_X_run rfl rfl (fun _ => rfl)
theorem k_X_run_25 : am_W m_X_run 25 (v0 :: v1 :: ls) (.int x :: st) h Q ↔ am_W m_X_run 26 (v0 :: v1 :: .int x :: ls.tail) st h Q := am_go (q := (26, v0 :: v1 :: .int x :: ls.tail, st, h)) o_X_run rfl rfl (fun _ => rfl)
theorem k_X_run_26 : am_W m_X_run 26 (v0 :: v1 :: .int x :: ls) st h Q ↔ am_W m_X_run 27 (v0 :: v1 :: .int x :: ls) (.int x :: st) h Q := am_go (q := (27, v0 :: v1 :: .int x :: ls, .int x :: st, h)) o_X_run rfl rfl (fun _ => rfl)
theorem k_X_run_27 : am_W m_X_run 27 (v0 :: .int x :: ls) st h Q ↔ am_W m_X_run 28 (v0 :: .int x :: ls) (.int x :: st) h Q := am_go (q := (28, v0 :: .int x :: ls, .int x :: st, h)) o_X_run rfl rfl (fun _ => rfl)
theorem k_X_run_28 : am_W m_X_run 28 ls (.int y :: .int x :: st) h Q ↔ (y ≤ x → am_W m_X_run 65 ls st h Q) ∧ (¬ y ≤ x → am_W m_X_run 31 ls st h Q) := (am_go (q := (if y ≤ x then 65 else 31, ls, st, h)) o_X_run rfl rfl (fun _ => rfl)).trans am_ite
theorem k_X_run_31 : am_W m_X_run 31 (.ref a :: ls) st h Q ↔ am_W m_X_run 32 (.ref a :: ls) (.ref a :: st) h Q := am_go (q := (32, .ref a :: ls, .ref a :: st, h)) o_X_run rfl rfl (fun _ => rfl)
theorem k_X_run_32 : am_W m_X_run 32 ls (.ref a :: st) h Q ↔ am_ob (am_gf h a 9 3) (fun v => am_W m_X_run 35 ls (v :: st) h Q) := am_getf o_X_run rfl rfl
theorem k_X_run_35 : am_W m_X_run 35 ls (v0 :: st) h Q ↔ (st.length ≤ 8 ∧ am_rc h [v0] (some 8) = true) ∧ am_C f_U_goesOn [v0] h (fun r h' => am_W m_X_run 38 ls (r.toList ++ st) h' Q) := am_ca o_X_run rfl (Or.inl rfl) rfl [v0] st rfl
theorem k_X_run_38 : am_W m_X_run 38 ls (.int x :: st) h Q ↔ (x = 0 → am_W m_X_run 65 ls st h Q) ∧ (¬ x = 0 → am_W m_X_run 41 ls st h Q) := (am_go (q := (if x = 0 then 65 else 41, ls, st, h)) o_X_run rfl rfl (fun _ => rfl)).trans am_ite
theorem k_X_run_41 : am_W m_X_run 41 (.ref a :: ls) st h Q ↔ am_W m_X_run 42 (.ref a :: ls) (.ref a :: st) h Q := am_go (q := (42, .ref a :: ls, .ref a :: st, h)) o_X_run rfl rfl (fun _ => rfl)
theorem k_X_run_42 : am_W m_X_run 42 ls (.ref a :: st) h Q ↔ am_ob (am_gf h a 9 3) (fun v => am_W m_X_run 45 ls (v :: st) h Q) := am_getf o_X_run rfl rfl
theorem k_X_run_45 : am_W m_X_run 45 (.ref a :: ls) st h Q ↔ am_W m_X_run 46 (.ref a :: ls) (.ref a :: st) h Q := am_go (q := (46, .ref a :: ls, .ref a :: st, h)) o_X_run rfl rfl (fun _ => rfl)
theorem k_X_run_46 : am_W m_X_run 46 ls (.ref a :: st) h Q ↔ am_ob (am_gf h a 9 1) (fun v => am_W m_X_run 49 ls (v :: st) h Q) := am_getf o_X_run rfl rfl
theorem k_X_run_49 : am_W m_X_run 49 ls (v0 :: st) h Q ↔ (st.length ≤ 8 ∧ am_rc h [v0] (some 3) = true) ∧ am_C f_Q_present [v0] h (fun r h' => am_W m_X_run 52 ls (r.toList ++ st) h' Q) := am_ca o_X_run rfl (Or.inl rfl) rfl [v0] st rfl
theorem k_X_run_52 : am_W m_X_run 52 ls (v1 :: v0 :: st) h Q ↔ (st.length ≤ 8 ∧ am_rc h [v0, v1] (some 8) = true) ∧ am_C f_U_step [v0, v1] h (fun r h' => am_W m_X_run 55 ls (r.toList ++ st) h' Q) := am_ca o_X_run rfl (Or.inl rfl) rfl [v0, v1] st rfl
theorem k_X_run_55 : am_W m_X_run 55 (.ref a :: ls) st h Q ↔ am_W m_X_run 56 (.ref a :: ls) (.ref a :: st) h Q := am_go (q := (56, .ref a :: ls, .ref a :: st, h)) o_X_run rfl rfl (fun _ => rfl)
theorem k_X_run_56 : am_W m_X_run 56 ls (v0 :: st) h Q ↔ (st.length ≤ 8 ∧ am_rc h [v0] (some 9) = true) ∧ am_C f_X_applyWhatCan [v0] h (fun r h' => am_W m_X_run 59 ls (r.toList ++ st) h' Q) := am_ca o_X_run rfl (Or.inl rfl) rfl [v0] st rfl
theorem k_X_run_59 : am_W m_X_run 59 (v0 :: v1 :: .int x :: ls) st h Q ↔ am_W m_X_run 62 (v0 :: v1 :: .int (x + 1) :: ls) st h Q := am_go (q := (62, v0 :: v1 :: .int (x + 1) :: ls, st, h)) o_X_run rfl rfl (fun _ => rfl)
theorem k_X_run_62 : am_W m_X_run 62 ls st h Q ↔ am_W m_X_run 26 ls st h Q := am_go (q := (26, ls, st, h)) o_X_run rfl rfl (fun _ => rfl)
theorem k_X_run_65 : am_W m_X_run 65 (v0 :: v1 :: .int x :: ls) st h Q ↔ am_W m_X_run 66 (v0 :: v1 :: .int x :: ls) (.int x :: st) h Q := am_go (q := (66, v0 :: v1 :: .int x :: ls, .int x :: st, h)) o_X_run rfl rfl (fun _ => rfl)
theorem k_X_run_66 : am_W m_X_run 66 ls [.int x] h Q ↔ Q (some (.int x)) h := am_iret rfl rfl
theorem k_X_status_0 : am_W m_X_status 0 (.ref a :: ls) st h Q ↔ am_W m_X_status 1 (.ref a :: ls) (.ref a :: st) h Q := am_go (q := (1, .ref a :: ls, .ref a :: st, h)) o_X_status rfl rfl (fun _ => rfl)
theorem k_X_status_1 : am_W m_X_status 1 ls (.ref a :: st) h Q ↔ am_ob (am_gf h a 9 3) (fun v => am_W m_X_status 4 ls (v :: st) h Q) := am_getf o_X_status rfl rfl
theorem k_X_status_4 : am_W m_X_status 4 ls (.ref a :: st) h Q ↔ am_ob (am_gf h a 8 4) (fun v => am_W m_X_status 7 ls (v :: st) h Q) := am_getf o_X_status rfl rfl
theorem k_X_status_7 : am_W m_X_status 7 ls [.int x] h Q ↔ Q (some (.int x)) h := am_iret rfl rfl
theorem k_X_result_0 : am_W m_X_result 0 (.ref a :: ls) st h Q ↔ am_W m_X_result 1 (.ref a :: ls) (.ref a :: st) h Q := am_go (q := (1, .ref a :: ls, .ref a :: st, h)) o_X_result rfl rfl (fun _ => rfl)
theorem k_X_result_1 : am_W m_X_result 1 ls (.ref a :: st) h Q ↔ am_ob (am_gf h a 9 3) (fun v => am_W m_X_result 4 ls (v :: st) h Q) := am_getf o_X_result rfl rfl
theorem k_X_result_4 : am_W m_X_result 4 ls (.ref a :: st) h Q ↔ am_ob (am_gf h a 8 5) (fun v => am_W m_X_result 7 ls (v :: st) h Q) := am_getf o_X_result rfl rfl
theorem k_X_result_7 : am_W m_X_result 7 ls [.int x] h Q ↔ Q (some (.int x)) h := am_iret rfl rfl
theorem k_X_depth_0 : am_W m_X_depth 0 (.ref a :: ls) st h Q ↔ am_W m_X_depth 1 (.ref a :: ls) (.ref a :: st) h Q := am_go (q := (1, .ref a :: ls, .ref a :: st, h)) o_X_depth rfl rfl (fun _ => rfl)
theorem k_X_depth_1 : am_W m_X_depth 1 ls (.ref a :: st) h Q ↔ am_ob (am_gf h a 9 3) (fun v => am_W m_X_depth 4 ls (v :: st) h Q) := am_getf o_X_depth rfl rfl
theorem k_X_depth_4 : am_W m_X_depth 4 ls (.ref a :: st) h Q ↔ am_ob (am_gf h a 8 3) (fun v => am_W m_X_depth 7 ls (v :: st) h Q) := am_getf o_X_depth rfl rfl
theorem k_X_depth_7 : am_W m_X_depth 7 ls [.int x] h Q ↔ Q (some (.int x)) h := am_iret rfl rfl
theorem k_X_frame_0 : am_W m_X_frame 0 (v0 :: .int x :: ls) st h Q ↔ am_W m_X_frame 1 (v0 :: .int x :: ls) (.int x :: st) h Q := am_go (q := (1, v0 :: .int x :: ls, .int x :: st, h)) o_X_frame rfl rfl (fun _ => rfl)
theorem k_X_frame_1 : am_W m_X_frame 1 ls (.int x :: st) h Q ↔ (x < 0 → am_W m_X_frame 15 ls st h Q) ∧ (¬ x < 0 → am_W m_X_frame 4 ls st h Q) := (am_go (q := (if x < 0 then 15 else 4, ls, st, h)) o_X_frame rfl rfl (fun _ => rfl)).trans am_ite
theorem k_X_frame_4 : am_W m_X_frame 4 (v0 :: .int x :: ls) st h Q ↔ am_W m_X_frame 5 (v0 :: .int x :: ls) (.int x :: st) h Q := am_go (q := (5, v0 :: .int x :: ls, .int x :: st, h)) o_X_frame rfl rfl (fun _ => rfl)
theorem k_X_frame_5 : am_W m_X_frame 5 (.ref a :: ls) st h Q ↔ am_W m_X_frame 6 (.ref a :: ls) (.ref a :: st) h Q := am_go (q := (6, .ref a :: ls, .ref a :: st, h)) o_X_frame rfl rfl (fun _ => rfl)
theorem k_X_frame_6 : am_W m_X_frame 6 ls (.ref a :: st) h Q ↔ am_ob (am_gf h a 9 3) (fun v => am_W m_X_frame 9 ls (v :: st) h Q) := am_getf o_X_frame rfl rfl
theorem k_X_frame_9 : am_W m_X_frame 9 ls (.ref a :: st) h Q ↔ am_ob (am_gf h a 8 3) (fun v => am_W m_X_frame 12 ls (v :: st) h Q) := am_getf o_X_frame rfl rfl
theorem k_X_frame_12 : am_W m_X_frame 12 ls (.int y :: .int x :: st) h Q ↔ (x < y → am_W m_X_frame 17 ls st h Q) ∧ (¬ x < y → am_W m_X_frame 15 ls st h Q) := (am_go (q := (if x < y then 17 else 15, ls, st, h)) o_X_frame rfl rfl (fun _ => rfl)).trans am_ite
theorem k_X_frame_15 : am_W m_X_frame 15 ls st h Q ↔ am_W m_X_frame 16 ls (.int (-1) :: st) h Q := am_go (q := (16, ls, .int (-1) :: st, h)) o_X_frame rfl rfl (fun _ => rfl)
theorem k_X_frame_16 : am_W m_X_frame 16 ls [.int x] h Q ↔ Q (some (.int x)) h := am_iret rfl rfl
theorem k_X_frame_17 : am_W m_X_frame 17 (.ref a :: ls) st h Q ↔ am_W m_X_frame 18 (.ref a :: ls) (.ref a :: st) h Q := am_go (q := (18, .ref a :: ls, .ref a :: st, h)) o_X_frame rfl rfl (fun _ => rfl)
theorem k_X_frame_18 : am_W m_X_frame 18 ls (.ref a :: st) h Q ↔ am_ob (am_gf h a 9 3) (fun v => am_W m_X_frame 21 ls (v :: st) h Q) := am_getf o_X_frame rfl rfl
theorem k_X_frame_21 : am_W m_X_frame 21 ls (.ref a :: st) h Q ↔ am_ob (am_gf h a 8 0) (fun v => am_W m_X_frame 24 ls (v :: st) h Q) := am_getf o_X_frame rfl rfl
theorem k_X_frame_24 : am_W m_X_frame 24 (.ref a :: ls) st h Q ↔ am_W m_X_frame 25 (.ref a :: ls) (.ref a :: st) h Q := am_go (q := (25, .ref a :: ls, .ref a :: st, h)) o_X_frame rfl rfl (fun _ => rfl)
theorem k_X_frame_25 : am_W m_X_frame 25 ls (.ref a :: st) h Q ↔ am_ob (am_gf h a 9 3) (fun v => am_W m_X_frame 28 ls (v :: st) h Q) := am_getf o_X_frame rfl rfl
theorem k_X_frame_28 : am_W m_X_frame 28 ls (.ref a :: st) h Q ↔ am_ob (am_gf h a 8 3) (fun v => am_W m_X_frame 31 ls (v :: st) h Q) := am_getf o_X_frame rfl rfl
theorem k_X_frame_31 : am_W m_X_frame 31 ls st h Q ↔ am_W m_X_frame 32 ls (.int 1 :: st) h Q := am_go (q := (32, ls, .int 1 :: st, h)) o_X_frame rfl rfl (fun _ => rfl)
theorem k_X_frame_32 : am_W m_X_frame 32 ls (.int y :: .int x :: st) h Q ↔ am_W m_X_frame 33 ls (.int (x - y) :: st) h Q := am_go (q := (33, ls, .int (x - y) :: st, h)) o_X_frame rfl rfl (fun _ => rfl)
theorem k_X_frame_33 : am_W m_X_frame 33 (v0 :: .int x :: ls) st h Q ↔ am_W m_X_frame 34 (v0 :: .int x :: ls) (.int x :: st) h Q := am_go (q := (34, v0 :: .int x :: ls, .int x :: st, h)) o_X_frame rfl rfl (fun _ => rfl)
theorem k_X_frame_34 : am_W m_X_frame 34 ls (.int y :: .int x :: st) h Q ↔ am_W m_X_frame 35 ls (.int (x - y) :: st) h Q := am_go (q := (35, ls, .int (x - y) :: st, h)) o_X_frame rfl rfl (fun _ => rfl)
theorem k_X_frame_35 : am_W m_X_frame 35 ls (.int x :: .ref a :: st) h Q ↔ am_ob (am_la h a x) (fun v => am_W m_X_frame 36 ls (.ref v :: st) h Q) := am_aald o_X_frame rfl
theorem k_X_frame_36 : am_W m_X_frame 36 (v0 :: v1 :: ls) (.ref a :: st) h Q ↔ am_W m_X_frame 37 (v0 :: v1 :: .ref a :: ls.tail) st h Q := am_go (q := (37, v0 :: v1 :: .ref a :: ls.tail, st, h)) o_X_frame rfl rfl (fun _ => rfl)
theorem k_X_frame_37 : am_W m_X_frame 37 ls st h Q ↔ am_W m_X_frame 39 ls (.int 100 :: st) h Q := am_go (q := (39, ls, .int 100 :: st, h)) o_X_frame rfl rfl (fun _ => rfl)
theorem k_X_frame_39 : am_W m_X_frame 39 (v0 :: v1 :: .ref a :: ls) st h Q ↔ am_W m_X_frame 40 (v0 :: v1 :: .ref a :: ls) (.ref a :: st) h Q := am_go (q := (40, v0 :: v1 :: .ref a :: ls, .ref a :: st, h)) o_X_frame rfl rfl (fun _ => rfl)
theorem k_X_frame_40 : am_W m_X_frame 40 ls (.ref a :: st) h Q ↔ am_ob (am_gf h a 7 4) (fun v => am_W m_X_frame 43 ls (v :: st) h Q) := am_getf o_X_frame rfl rfl
theorem k_X_frame_43 : am_W m_X_frame 43 ls (.int y :: .int x :: st) h Q ↔ am_W m_X_frame 44 ls (.int (x * y) :: st) h Q := am_go (q := (44, ls, .int (x * y) :: st, h)) o_X_frame rfl rfl (fun _ => rfl)
theorem k_X_frame_44 : am_W m_X_frame 44 (v0 :: v1 :: .ref a :: ls) st h Q ↔ am_W m_X_frame 45 (v0 :: v1 :: .ref a :: ls) (.ref a :: st) h Q := am_go (q := (45, v0 :: v1 :: .ref a :: ls, .ref a :: st, h)) o_X_frame rfl rfl (fun _ => rfl)
theorem k_X_frame_45 : am_W m_X_frame 45 ls (.ref a :: st) h Q ↔ am_ob (am_gf h a 7 5) (fun v => am_W m_X_frame 48 ls (v :: st) h Q) := am_getf o_X_frame rfl rfl
theorem k_X_frame_48 : am_W m_X_frame 48 ls (.int y :: .int x :: st) h Q ↔ am_W m_X_frame 49 ls (.int (x + y) :: st) h Q := am_go (q := (49, ls, .int (x + y) :: st, h)) o_X_frame rfl rfl (fun _ => rfl)
theorem k_X_frame_49 : am_W m_X_frame 49 ls [.int x] h Q ↔ Q (some (.int x)) h := am_iret rfl rfl
theorem k_X_objects_0 : am_W m_X_objects 0 (.ref a :: ls) st h Q ↔ am_W m_X_objects 1 (.ref a :: ls) (.ref a :: st) h Q := am_go (q := (1, .ref a :: ls, .ref a :: st, h)) o_X_objects rfl rfl (fun _ => rfl)
theorem k_X_objects_1 : am_W m_X_objects 1 ls (.ref a :: st) h Q ↔ am_ob (am_gf h a 9 3) (fun v => am_W m_X_objects 4 ls (v :: st) h Q) := am_getf o_X_objects rfl rfl
theorem k_X_objects_4 : am_W m_X_objects 4 ls (.ref a :: st) h Q ↔ am_ob (am_gf h a 8 1) (fun v => am_W m_X_objects 7 ls (v :: st) h Q) := am_getf o_X_objects rfl rfl
theorem k_X_objects_7 : am_W m_X_objects 7 ls (.ref a :: st) h Q ↔ am_ob (am_gf h a 5 6) (fun v => am_W m_X_objects 10 ls (v :: st) h Q) := am_getf o_X_objects rfl rfl
theorem k_X_objects_10 : am_W m_X_objects 10 ls [.int x] h Q ↔ Q (some (.int x)) h := am_iret rfl rfl
theorem k_X_output_0 : am_W m_X_output 0 (.ref a :: ls) st h Q ↔ am_W m_X_output 1 (.ref a :: ls) (.ref a :: st) h Q := am_go (q := (1, .ref a :: ls, .ref a :: st, h)) o_X_output rfl rfl (fun _ => rfl)
theorem k_X_output_1 : am_W m_X_output 1 ls (.ref a :: st) h Q ↔ am_ob (am_gf h a 9 3) (fun v => am_W m_X_output 4 ls (v :: st) h Q) := am_getf o_X_output rfl rfl
theorem k_X_output_4 : am_W m_X_output 4 ls (.ref a :: st) h Q ↔ am_ob (am_gf h a 8 2) (fun v => am_W m_X_output 7 ls (v :: st) h Q) := am_getf o_X_output rfl rfl
theorem k_X_output_7 : am_W m_X_output 7 (v0 :: .int x :: ls) st h Q ↔ am_W m_X_output 8 (v0 :: .int x :: ls) (.int x :: st) h Q := am_go (q := (8, v0 :: .int x :: ls, .int x :: st, h)) o_X_output rfl rfl (fun _ => rfl)
theorem k_X_output_8 : am_W m_X_output 8 ls (v1 :: v0 :: st) h Q ↔ (st.length ≤ 8 ∧ am_rc h [v0, v1] (some 6) = true) ∧ am_C f_O_latestBut [v0, v1] h (fun r h' => am_W m_X_output 11 ls (r.toList ++ st) h' Q) := am_ca o_X_output rfl (Or.inl rfl) rfl [v0, v1] st rfl
theorem k_X_output_11 : am_W m_X_output 11 ls [.int x] h Q ↔ Q (some (.int x)) h := am_iret rfl rfl
theorem k_X_outputs_0 : am_W m_X_outputs 0 (.ref a :: ls) st h Q ↔ am_W m_X_outputs 1 (.ref a :: ls) (.ref a :: st) h Q := am_go (q := (1, .ref a :: ls, .ref a :: st, h)) o_X_outputs rfl rfl (fun _ => rfl)
theorem k_X_outputs_1 : am_W m_X_outputs 1 ls (.ref a :: st) h Q ↔ am_ob (am_gf h a 9 3) (fun v => am_W m_X_outputs 4 ls (v :: st) h Q) := am_getf o_X_outputs rfl rfl
theorem k_X_outputs_4 : am_W m_X_outputs 4 ls (.ref a :: st) h Q ↔ am_ob (am_gf h a 8 2) (fun v => am_W m_X_outputs 7 ls (v :: st) h Q) := am_getf o_X_outputs rfl rfl
theorem k_X_outputs_7 : am_W m_X_outputs 7 ls (.ref a :: st) h Q ↔ am_ob (am_gf h a 6 1) (fun v => am_W m_X_outputs 10 ls (v :: st) h Q) := am_getf o_X_outputs rfl rfl
theorem k_X_outputs_10 : am_W m_X_outputs 10 ls [.int x] h Q ↔ Q (some (.int x)) h := am_iret rfl rfl
theorem k_X_shape_0 : am_W m_X_shape 0 (v0 :: .int x :: ls) st h Q ↔ am_W m_X_shape 1 (v0 :: .int x :: ls) (.int x :: st) h Q := am_go (q := (1, v0 :: .int x :: ls, .int x :: st, h)) o_X_shape rfl rfl (fun _ => rfl)
theorem k_X_shape_1 : am_W m_X_shape 1 ls (v0 :: st) h Q ↔ (st.length ≤ 8 ∧ am_rc h [v0] none = true) ∧ am_C f_X_isClass [v0] h (fun r h' => am_W m_X_shape 4 ls (r.toList ++ st) h' Q) := am_ca o_X_shape rfl (Or.inr (Or.inr rfl)) rfl [v0] st rfl
theorem k_X_shape_4 : am_W m_X_shape 4 ls (.int x :: st) h Q ↔ (x = 0 → am_W m_X_shape 7 ls st h Q) ∧ (¬ x = 0 → am_W m_X_shape 9 ls st h Q) := (am_go (q := (if ¬ x = 0 then 9 else 7, ls, st, h)) o_X_shape rfl rfl (fun _ => rfl)).trans am_iteN
theorem k_X_shape_7 : am_W m_X_shape 7 ls st h Q ↔ am_W m_X_shape 8 ls (.int (-1) :: st) h Q := am_go (q := (8, ls, .int (-1) :: st, h)) o_X_shape rfl rfl (fun _ => rfl)
theorem k_X_shape_8 : am_W m_X_shape 8 ls [.int x] h Q ↔ Q (some (.int x)) h := am_iret rfl rfl
theorem k_X_shape_9 : am_W m_X_shape 9 (.ref a :: ls) st h Q ↔ am_W m_X_shape 10 (.ref a :: ls) (.ref a :: st) h Q := am_go (q := (10, .ref a :: ls, .ref a :: st, h)) o_X_shape rfl rfl (fun _ => rfl)
theorem k_X_shape_10 : am_W m_X_shape 10 ls (.ref a :: st) h Q ↔ am_ob (am_gf h a 9 1) (fun v => am_W m_X_shape 13 ls (v :: st) h Q) := am_getf o_X_shape rfl rfl
theorem k_X_shape_13 : am_W m_X_shape 13 ls (v0 :: st) h Q ↔ (st.length ≤ 8 ∧ am_rc h [v0] (some 3) = true) ∧ am_C f_Q_present [v0] h (fun r h' => am_W m_X_shape 16 ls (r.toList ++ st) h' Q) := am_ca o_X_shape rfl (Or.inl rfl) rfl [v0] st rfl
theorem k_X_shape_16 : am_W m_X_shape 16 ls (.ref a :: st) h Q ↔ am_ob (am_gf h a 2 0) (fun v => am_W m_X_shape 19 ls (v :: st) h Q) := am_getf o_X_shape rfl rfl
theorem k_X_shape_19 : am_W m_X_shape 19 (v0 :: .int x :: ls) st h Q ↔ am_W m_X_shape 20 (v0 :: .int x :: ls) (.int x :: st) h Q := am_go (q := (20, v0 :: .int x :: ls, .int x :: st, h)) o_X_shape rfl rfl (fun _ => rfl)
theorem k_X_shape_20 : am_W m_X_shape 20 ls (.int x :: .ref a :: st) h Q ↔ am_ob (am_la h a x) (fun v => am_W m_X_shape 21 ls (.ref v :: st) h Q) := am_aald o_X_shape rfl
theorem k_X_shape_21 : am_W m_X_shape 21 (v0 :: v1 :: v2 :: ls) (.ref a :: st) h Q ↔ am_W m_X_shape 22 (v0 :: v1 :: v2 :: .ref a :: ls.tail) st h Q := am_go (q := (22, v0 :: v1 :: v2 :: .ref a :: ls.tail, st, h)) o_X_shape rfl rfl (fun _ => rfl)
theorem k_X_shape_22 : am_W m_X_shape 22 (v0 :: v1 :: .int x :: ls) st h Q ↔ am_W m_X_shape 23 (v0 :: v1 :: .int x :: ls) (.int x :: st) h Q := am_go (q := (23, v0 :: v1 :: .int x :: ls, .int x :: st, h)) o_X_shape rfl rfl (fun _ => rfl)
theorem k_X_shape_23 : am_W m_X_shape 23 ls st h Q ↔ am_W m_X_shape 24 ls (.int (-1) :: st) h Q := am_go (q := (24, ls, .int (-1) :: st, h)) o_X_shape rfl rfl (fun _ => rfl)
theorem k_X_shape_24 : am_W m_X_shape 24 ls (.int y :: .int x :: st) h Q ↔ (x = y → am_W m_X_shape 27 ls st h Q) ∧ (¬ x = y → am_W m_X_shape 32 ls st h Q) := (am_go (q := (if ¬ x = y then 32 else 27, ls, st, h)) o_X_shape rfl rfl (fun _ => rfl)).trans am_iteN
theorem k_X_shape_27 : am_W m_X_shape 27 (v0 :: v1 :: v2 :: .ref a :: ls) st h Q ↔ am_W m_X_shape 28 (v0 :: v1 :: v2 :: .ref a :: ls) (.ref a :: st) h Q := am_go (q := (28, v0 :: v1 :: v2 :: .ref a :: ls, .ref a :: st, h)) o_X_shape rfl rfl (fun _ => rfl)
theorem k_X_shape_28 : am_W m_X_shape 28 ls (.ref a :: st) h Q ↔ am_ob (am_gf h a 0 3) (fun v => am_W m_X_shape 31 ls (v :: st) h Q) := am_getf o_X_shape rfl rfl
theorem k_X_shape_31 : am_W m_X_shape 31 ls [.int x] h Q ↔ Q (some (.int x)) h := am_iret rfl rfl
theorem k_X_shape_32 : am_W m_X_shape 32 (v0 :: v1 :: .int x :: ls) st h Q ↔ am_W m_X_shape 33 (v0 :: v1 :: .int x :: ls) (.int x :: st) h Q := am_go (q := (33, v0 :: v1 :: .int x :: ls, .int x :: st, h)) o_X_shape rfl rfl (fun _ => rfl)
theorem k_X_shape_33 : am_W m_X_shape 33 ls (.int x :: st) h Q ↔ (x < 0 → am_W m_X_shape 44 ls st h Q) ∧ (¬ x < 0 → am_W m_X_shape 36 ls st h Q) := (am_go (q := (if x < 0 then 44 else 36, ls, st, h)) o_X_shape rfl rfl (fun _ => rfl)).trans am_ite
theorem k_X_shape_36 : am_W m_X_shape 36 (v0 :: v1 :: .int x :: ls) st h Q ↔ am_W m_X_shape 37 (v0 :: v1 :: .int x :: ls) (.int x :: st) h Q := am_go (q := (37, v0 :: v1 :: .int x :: ls, .int x :: st, h)) o_X_shape rfl rfl (fun _ => rfl)
theorem k_X_shape_37 : am_W m_X_shape 37 (v0 :: v1 :: v2 :: .ref a :: ls) st h Q ↔ am_W m_X_shape 38 (v0 :: v1 :: v2 :: .ref a :: ls) (.ref a :: st) h Q := am_go (q := (38, v0 :: v1 :: v2 :: .ref a :: ls, .ref a :: st, h)) o_X_shape rfl rfl (fun _ => rfl)
theorem k_X_shape_38 : am_W m_X_shape 38 ls (.ref a :: st) h Q ↔ am_ob (am_gf h a 0 3) (fun v => am_W m_X_shape 41 ls (v :: st) h Q) := am_getf o_X_shape rfl rfl
theorem k_X_shape_41 : am_W m_X_shape 41 ls (.int y :: .int x :: st) h Q ↔ (x < y → am_W m_X_shape 46 ls st h Q) ∧ (¬ x < y → am_W m_X_shape 44 ls st h Q) := (am_go (q := (if x < y then 46 else 44, ls, st, h)) o_X_shape rfl rfl (fun _ => rfl)).trans am_ite
theorem k_X_shape_44 : am_W m_X_shape 44 ls st h Q ↔ am_W m_X_shape 45 ls (.int (-1) :: st) h Q := am_go (q := (45, ls, .int (-1) :: st, h)) o_X_shape rfl rfl (fun _ => rfl)
theorem k_X_shape_45 : am_W m_X_shape 45 ls [.int x] h Q ↔ Q (some (.int x)) h := am_iret rfl rfl
theorem k_X_shape_46 : am_W m_X_shape 46 ls st h Q ↔ am_W m_X_shape 48 ls (.int 16 :: st) h Q := am_go (q := (48, ls, .int 16 :: st, h)) o_X_shape rfl rfl (fun _ => rfl)
theorem k_X_shape_48 : am_W m_X_shape 48 (v0 :: v1 :: v2 :: .ref a :: ls) st h Q ↔ am_W m_X_shape 49 (v0 :: v1 :: v2 :: .ref a :: ls) (.ref a :: st) h Q := am_go (q := (49, v0 :: v1 :: v2 :: .ref a :: ls, .ref a :: st, h)) o_X_shape rfl rfl (fun _ => rfl)
theorem k_X_shape_49 : am_W m_X_shape 49 ls (.ref a :: st) h Q ↔ am_ob (am_gf h a 0 0) (fun v => am_W m_X_shape 52 ls (v :: st) h Q) := am_getf o_X_shape rfl rfl
theorem k_X_shape_52 : am_W m_X_shape 52 (v0 :: v1 :: .int x :: ls) st h Q ↔ am_W m_X_shape 53 (v0 :: v1 :: .int x :: ls) (.int x :: st) h Q := am_go (q := (53, v0 :: v1 :: .int x :: ls, .int x :: st, h)) o_X_shape rfl rfl (fun _ => rfl)
theorem k_X_shape_53 : am_W m_X_shape 53 ls (.int x :: .ref a :: st) h Q ↔ am_ob (am_ld h 0 a x) (fun v => am_W m_X_shape 54 ls (.int v :: st) h Q) := am_iald o_X_shape rfl
theorem k_X_shape_54 : am_W m_X_shape 54 ls (.int y :: .int x :: st) h Q ↔ am_W m_X_shape 55 ls (.int (x * y) :: st) h Q := am_go (q := (55, ls, .int (x * y) :: st, h)) o_X_shape rfl rfl (fun _ => rfl)
theorem k_X_shape_55 : am_W m_X_shape 55 (v0 :: v1 :: v2 :: .ref a :: ls) st h Q ↔ am_W m_X_shape 56 (v0 :: v1 :: v2 :: .ref a :: ls) (.ref a :: st) h Q := am_go (q := (56, v0 :: v1 :: v2 :: .ref a :: ls, .ref a :: st, h)) o_X_shape rfl rfl (fun _ => rfl)
theorem k_X_shape_56 : am_W m_X_shape 56 ls (.ref a :: st) h Q ↔ am_ob (am_gf h a 0 1) (fun v => am_W m_X_shape 59 ls (v :: st) h Q) := am_getf o_X_shape rfl rfl
theorem k_X_shape_59 : am_W m_X_shape 59 (v0 :: v1 :: .int x :: ls) st h Q ↔ am_W m_X_shape 60 (v0 :: v1 :: .int x :: ls) (.int x :: st) h Q := am_go (q := (60, v0 :: v1 :: .int x :: ls, .int x :: st, h)) o_X_shape rfl rfl (fun _ => rfl)
theorem k_X_shape_60 : am_W m_X_shape 60 ls (.int x :: .ref a :: st) h Q ↔ am_ob (am_ld h 0 a x) (fun v => am_W m_X_shape 61 ls (.int v :: st) h Q) := am_iald o_X_shape rfl
theorem k_X_shape_61 : am_W m_X_shape 61 ls (.int y :: .int x :: st) h Q ↔ am_W m_X_shape 62 ls (.int (x + y) :: st) h Q := am_go (q := (62, ls, .int (x + y) :: st, h)) o_X_shape rfl rfl (fun _ => rfl)
theorem k_X_shape_62 : am_W m_X_shape 62 ls [.int x] h Q ↔ Q (some (.int x)) h := am_iret rfl rfl
end KK
