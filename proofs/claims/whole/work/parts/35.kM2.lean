/-! printed by gen.py: the instructions, one by one -/
section KK
variable {ls st : List Value} {h : am_H} {Q : Option Value → am_H → Prop} {v0 v1 v2 v3 v4 v5 v6 v7 v8 v9 v10 v11 v12 : Value} {x y z : Int32} {a b : Nat}

theorem k_M_collect_0 : am_W m_M_collect 0 ls st h Q ↔ am_W m_M_collect 1 ls (.int 0 :: st) h Q := am_go (q := (1, ls, .int 0 :: st, h)) o_M_collect rfl rfl (fun _ => rfl)
theorem k_M_collect_1 : am_W m_M_collect 1 (v0 :: ls) (.int x :: st) h Q ↔ am_W m_M_collect 2 (v0 :: .int x :: ls.tail) st h Q := am_go (q := (2, v0 :: .int x :: ls.tail, st, h)) o_M_collect rfl rfl (fun _ => rfl)
theorem k_M_collect_2 : am_W m_M_collect 2 (v0 :: .int x :: ls) st h Q ↔ am_W m_M_collect 3 (v0 :: .int x :: ls) (.int x :: st) h Q := am_go (q := (3, v0 :: .int x :: ls, .int x :: st, h)) o_M_collect rfl rfl (fun _ => rfl)
theorem k_M_collect_3 : am_W m_M_collect 3 ls st h Q ↔ am_W m_M_collect 5 ls (.int 16 :: st) h Q := am_go (q := (5, ls, .int 16 :: st, h)) o_M_collect rfl rfl (fun _ => rfl)
theorem k_M_collect_5 : am_W m_M_collect 5 ls (.int y :: .int x :: st) h Q ↔ (y < x → am_W m_M_collect 21 ls st h Q) ∧ (¬ y < x → am_W m_M_collect 8 ls st h Q) := (am_go (q := (if y < x then 21 else 8, ls, st, h)) o_M_collect rfl rfl (fun _ => rfl)).trans am_ite
theorem k_M_collect_8 : am_W m_M_collect 8 (.ref a :: ls) st h Q ↔ am_W m_M_collect 9 (.ref a :: ls) (.ref a :: st) h Q := am_go (q := (9, .ref a :: ls, .ref a :: st, h)) o_M_collect rfl rfl (fun _ => rfl)
theorem k_M_collect_9 : am_W m_M_collect 9 ls (.ref a :: st) h Q ↔ am_ob (am_gf h a 10 30) (fun v => am_W m_M_collect 12 ls (v :: st) h Q) := am_getf o_M_collect rfl rfl
theorem k_M_collect_12 : am_W m_M_collect 12 (v0 :: .int x :: ls) st h Q ↔ am_W m_M_collect 13 (v0 :: .int x :: ls) (.int x :: st) h Q := am_go (q := (13, v0 :: .int x :: ls, .int x :: st, h)) o_M_collect rfl rfl (fun _ => rfl)
theorem k_M_collect_13 : am_W m_M_collect 13 ls st h Q ↔ am_W m_M_collect 14 ls (.int 0 :: st) h Q := am_go (q := (14, ls, .int 0 :: st, h)) o_M_collect rfl rfl (fun _ => rfl)
theorem k_M_collect_14 : am_W m_M_collect 14 ls (.int z :: .int x :: .ref a :: st) h Q ↔ am_ob (am_sd h 1 a x z) (fun h' => am_W m_M_collect 15 ls st h' Q) := am_zast o_M_collect rfl
theorem k_M_collect_15 : am_W m_M_collect 15 (v0 :: .int x :: ls) st h Q ↔ am_W m_M_collect 18 (v0 :: .int (x + 1) :: ls) st h Q := am_go (q := (18, v0 :: .int (x + 1) :: ls, st, h)) o_M_collect rfl rfl (fun _ => rfl)
theorem k_M_collect_18 : am_W m_M_collect 18 ls st h Q ↔ am_W m_M_collect 2 ls st h Q := am_go (q := (2, ls, st, h)) o_M_collect rfl rfl (fun _ => rfl)
theorem k_M_collect_21 : am_W m_M_collect 21 ls st h Q ↔ am_W m_M_collect 22 ls (.int 0 :: st) h Q := am_go (q := (22, ls, .int 0 :: st, h)) o_M_collect rfl rfl (fun _ => rfl)
theorem k_M_collect_22 : am_W m_M_collect 22 (v0 :: ls) (.int x :: st) h Q ↔ am_W m_M_collect 23 (v0 :: .int x :: ls.tail) st h Q := am_go (q := (23, v0 :: .int x :: ls.tail, st, h)) o_M_collect rfl rfl (fun _ => rfl)
theorem k_M_collect_23 : am_W m_M_collect 23 (v0 :: .int x :: ls) st h Q ↔ am_W m_M_collect 24 (v0 :: .int x :: ls) (.int x :: st) h Q := am_go (q := (24, v0 :: .int x :: ls, .int x :: st, h)) o_M_collect rfl rfl (fun _ => rfl)
theorem k_M_collect_24 : am_W m_M_collect 24 (.ref a :: ls) st h Q ↔ am_W m_M_collect 25 (.ref a :: ls) (.ref a :: st) h Q := am_go (q := (25, .ref a :: ls, .ref a :: st, h)) o_M_collect rfl rfl (fun _ => rfl)
theorem k_M_collect_25 : am_W m_M_collect 25 ls (.ref a :: st) h Q ↔ am_ob (am_gf h a 10 21) (fun v => am_W m_M_collect 28 ls (v :: st) h Q) := am_getf o_M_collect rfl rfl
theorem k_M_collect_28 : am_W m_M_collect 28 ls (.int y :: .int x :: st) h Q ↔ (y ≤ x → am_W m_M_collect 129 ls st h Q) ∧ (¬ y ≤ x → am_W m_M_collect 31 ls st h Q) := (am_go (q := (if y ≤ x then 129 else 31, ls, st, h)) o_M_collect rfl rfl (fun _ => rfl)).trans am_ite
theorem k_M_collect_31 : am_W m_M_collect 31 ls st h Q ↔ am_W m_M_collect 32 ls (.int 0 :: st) h Q := am_go (q := (32, ls, .int 0 :: st, h)) o_M_collect rfl rfl (fun _ => rfl)
theorem k_M_collect_32 : am_W m_M_collect 32 (v0 :: v1 :: ls) (.int x :: st) h Q ↔ am_W m_M_collect 33 (v0 :: v1 :: .int x :: ls.tail) st h Q := am_go (q := (33, v0 :: v1 :: .int x :: ls.tail, st, h)) o_M_collect rfl rfl (fun _ => rfl)
theorem k_M_collect_33 : am_W m_M_collect 33 (v0 :: v1 :: .int x :: ls) st h Q ↔ am_W m_M_collect 34 (v0 :: v1 :: .int x :: ls) (.int x :: st) h Q := am_go (q := (34, v0 :: v1 :: .int x :: ls, .int x :: st, h)) o_M_collect rfl rfl (fun _ => rfl)
theorem k_M_collect_34 : am_W m_M_collect 34 ls st h Q ↔ am_W m_M_collect 35 ls (.int 4 :: st) h Q := am_go (q := (35, ls, .int 4 :: st, h)) o_M_collect rfl rfl (fun _ => rfl)
theorem k_M_collect_35 : am_W m_M_collect 35 ls (.int y :: .int x :: st) h Q ↔ (y ≤ x → am_W m_M_collect 74 ls st h Q) ∧ (¬ y ≤ x → am_W m_M_collect 38 ls st h Q) := (am_go (q := (if y ≤ x then 74 else 38, ls, st, h)) o_M_collect rfl rfl (fun _ => rfl)).trans am_ite
theorem k_M_collect_38 : am_W m_M_collect 38 (.ref a :: ls) st h Q ↔ am_W m_M_collect 39 (.ref a :: ls) (.ref a :: st) h Q := am_go (q := (39, .ref a :: ls, .ref a :: st, h)) o_M_collect rfl rfl (fun _ => rfl)
theorem k_M_collect_39 : am_W m_M_collect 39 (.ref a :: ls) st h Q ↔ am_W m_M_collect 40 (.ref a :: ls) (.ref a :: st) h Q := am_go (q := (40, .ref a :: ls, .ref a :: st, h)) o_M_collect rfl rfl (fun _ => rfl)
theorem k_M_collect_40 : am_W m_M_collect 40 ls (.ref a :: st) h Q ↔ am_ob (am_gf h a 10 22) (fun v => am_W m_M_collect 43 ls (v :: st) h Q) := am_getf o_M_collect rfl rfl
theorem k_M_collect_43 : am_W m_M_collect 43 (v0 :: .int x :: ls) st h Q ↔ am_W m_M_collect 44 (v0 :: .int x :: ls) (.int x :: st) h Q := am_go (q := (44, v0 :: .int x :: ls, .int x :: st, h)) o_M_collect rfl rfl (fun _ => rfl)
theorem k_M_collect_44 : am_W m_M_collect 44 ls (.int x :: .ref a :: st) h Q ↔ am_ob (am_ld h 0 a x) (fun v => am_W m_M_collect 45 ls (.int v :: st) h Q) := am_iald o_M_collect rfl
theorem k_M_collect_45 : am_W m_M_collect 45 (v0 :: v1 :: .int x :: ls) st h Q ↔ am_W m_M_collect 46 (v0 :: v1 :: .int x :: ls) (.int x :: st) h Q := am_go (q := (46, v0 :: v1 :: .int x :: ls, .int x :: st, h)) o_M_collect rfl rfl (fun _ => rfl)
theorem k_M_collect_46 : am_W m_M_collect 46 ls (v2 :: v1 :: v0 :: st) h Q ↔ (st.length ≤ 8 ∧ am_rc h [v0, v1, v2] (some 10) = true) ∧ am_C f_M_local [v0, v1, v2] h (fun r h' => am_W m_M_collect 49 ls (r.toList ++ st) h' Q) := am_ca o_M_collect rfl (Or.inl rfl) rfl [v0, v1, v2] st rfl
theorem k_M_collect_49 : am_W m_M_collect 49 ls (.int x :: st) h Q ↔ (x ≤ 0 → am_W m_M_collect 68 ls st h Q) ∧ (¬ x ≤ 0 → am_W m_M_collect 52 ls st h Q) := (am_go (q := (if x ≤ 0 then 68 else 52, ls, st, h)) o_M_collect rfl rfl (fun _ => rfl)).trans am_ite
theorem k_M_collect_52 : am_W m_M_collect 52 (.ref a :: ls) st h Q ↔ am_W m_M_collect 53 (.ref a :: ls) (.ref a :: st) h Q := am_go (q := (53, .ref a :: ls, .ref a :: st, h)) o_M_collect rfl rfl (fun _ => rfl)
theorem k_M_collect_53 : am_W m_M_collect 53 ls (.ref a :: st) h Q ↔ am_ob (am_gf h a 10 30) (fun v => am_W m_M_collect 56 ls (v :: st) h Q) := am_getf o_M_collect rfl rfl
theorem k_M_collect_56 : am_W m_M_collect 56 (.ref a :: ls) st h Q ↔ am_W m_M_collect 57 (.ref a :: ls) (.ref a :: st) h Q := am_go (q := (57, .ref a :: ls, .ref a :: st, h)) o_M_collect rfl rfl (fun _ => rfl)
theorem k_M_collect_57 : am_W m_M_collect 57 ls (.ref a :: st) h Q ↔ am_ob (am_gf h a 10 24) (fun v => am_W m_M_collect 60 ls (v :: st) h Q) := am_getf o_M_collect rfl rfl
theorem k_M_collect_60 : am_W m_M_collect 60 ls st h Q ↔ am_W m_M_collect 61 ls (.int 4 :: st) h Q := am_go (q := (61, ls, .int 4 :: st, h)) o_M_collect rfl rfl (fun _ => rfl)
theorem k_M_collect_61 : am_W m_M_collect 61 (v0 :: .int x :: ls) st h Q ↔ am_W m_M_collect 62 (v0 :: .int x :: ls) (.int x :: st) h Q := am_go (q := (62, v0 :: .int x :: ls, .int x :: st, h)) o_M_collect rfl rfl (fun _ => rfl)
theorem k_M_collect_62 : am_W m_M_collect 62 ls (.int y :: .int x :: st) h Q ↔ am_W m_M_collect 63 ls (.int (x * y) :: st) h Q := am_go (q := (63, ls, .int (x * y) :: st, h)) o_M_collect rfl rfl (fun _ => rfl)
theorem k_M_collect_63 : am_W m_M_collect 63 (v0 :: v1 :: .int x :: ls) st h Q ↔ am_W m_M_collect 64 (v0 :: v1 :: .int x :: ls) (.int x :: st) h Q := am_go (q := (64, v0 :: v1 :: .int x :: ls, .int x :: st, h)) o_M_collect rfl rfl (fun _ => rfl)
theorem k_M_collect_64 : am_W m_M_collect 64 ls (.int y :: .int x :: st) h Q ↔ am_W m_M_collect 65 ls (.int (x + y) :: st) h Q := am_go (q := (65, ls, .int (x + y) :: st, h)) o_M_collect rfl rfl (fun _ => rfl)
theorem k_M_collect_65 : am_W m_M_collect 65 ls (.int x :: .ref a :: st) h Q ↔ am_ob (am_ld h 0 a x) (fun v => am_W m_M_collect 66 ls (.int v :: st) h Q) := am_iald o_M_collect rfl
theorem k_M_collect_66 : am_W m_M_collect 66 ls st h Q ↔ am_W m_M_collect 67 ls (.int 1 :: st) h Q := am_go (q := (67, ls, .int 1 :: st, h)) o_M_collect rfl rfl (fun _ => rfl)
theorem k_M_collect_67 : am_W m_M_collect 67 ls (.int z :: .int x :: .ref a :: st) h Q ↔ am_ob (am_sd h 1 a x z) (fun h' => am_W m_M_collect 68 ls st h' Q) := am_zast o_M_collect rfl
theorem k_M_collect_68 : am_W m_M_collect 68 (v0 :: v1 :: .int x :: ls) st h Q ↔ am_W m_M_collect 71 (v0 :: v1 :: .int (x + 1) :: ls) st h Q := am_go (q := (71, v0 :: v1 :: .int (x + 1) :: ls, st, h)) o_M_collect rfl rfl (fun _ => rfl)
theorem k_M_collect_71 : am_W m_M_collect 71 ls st h Q ↔ am_W m_M_collect 33 ls st h Q := am_go (q := (33, ls, st, h)) o_M_collect rfl rfl (fun _ => rfl)
theorem k_M_collect_74 : am_W m_M_collect 74 ls st h Q ↔ am_W m_M_collect 75 ls (.int 0 :: st) h Q := am_go (q := (75, ls, .int 0 :: st, h)) o_M_collect rfl rfl (fun _ => rfl)
theorem k_M_collect_75 : am_W m_M_collect 75 (v0 :: v1 :: ls) (.int x :: st) h Q ↔ am_W m_M_collect 76 (v0 :: v1 :: .int x :: ls.tail) st h Q := am_go (q := (76, v0 :: v1 :: .int x :: ls.tail, st, h)) o_M_collect rfl rfl (fun _ => rfl)
theorem k_M_collect_76 : am_W m_M_collect 76 (v0 :: v1 :: .int x :: ls) st h Q ↔ am_W m_M_collect 77 (v0 :: v1 :: .int x :: ls) (.int x :: st) h Q := am_go (q := (77, v0 :: v1 :: .int x :: ls, .int x :: st, h)) o_M_collect rfl rfl (fun _ => rfl)
theorem k_M_collect_77 : am_W m_M_collect 77 (.ref a :: ls) st h Q ↔ am_W m_M_collect 78 (.ref a :: ls) (.ref a :: st) h Q := am_go (q := (78, .ref a :: ls, .ref a :: st, h)) o_M_collect rfl rfl (fun _ => rfl)
theorem k_M_collect_78 : am_W m_M_collect 78 ls (.ref a :: st) h Q ↔ am_ob (am_gf h a 10 27) (fun v => am_W m_M_collect 81 ls (v :: st) h Q) := am_getf o_M_collect rfl rfl
theorem k_M_collect_81 : am_W m_M_collect 81 (v0 :: .int x :: ls) st h Q ↔ am_W m_M_collect 82 (v0 :: .int x :: ls) (.int x :: st) h Q := am_go (q := (82, v0 :: .int x :: ls, .int x :: st, h)) o_M_collect rfl rfl (fun _ => rfl)
theorem k_M_collect_82 : am_W m_M_collect 82 ls (.int x :: .ref a :: st) h Q ↔ am_ob (am_ld h 0 a x) (fun v => am_W m_M_collect 83 ls (.int v :: st) h Q) := am_iald o_M_collect rfl
theorem k_M_collect_83 : am_W m_M_collect 83 ls (.int y :: .int x :: st) h Q ↔ (y ≤ x → am_W m_M_collect 123 ls st h Q) ∧ (¬ y ≤ x → am_W m_M_collect 86 ls st h Q) := (am_go (q := (if y ≤ x then 123 else 86, ls, st, h)) o_M_collect rfl rfl (fun _ => rfl)).trans am_ite
theorem k_M_collect_86 : am_W m_M_collect 86 (.ref a :: ls) st h Q ↔ am_W m_M_collect 87 (.ref a :: ls) (.ref a :: st) h Q := am_go (q := (87, .ref a :: ls, .ref a :: st, h)) o_M_collect rfl rfl (fun _ => rfl)
theorem k_M_collect_87 : am_W m_M_collect 87 ls (.ref a :: st) h Q ↔ am_ob (am_gf h a 10 26) (fun v => am_W m_M_collect 90 ls (v :: st) h Q) := am_getf o_M_collect rfl rfl
theorem k_M_collect_90 : am_W m_M_collect 90 ls st h Q ↔ am_W m_M_collect 92 ls (.int 6 :: st) h Q := am_go (q := (92, ls, .int 6 :: st, h)) o_M_collect rfl rfl (fun _ => rfl)
theorem k_M_collect_92 : am_W m_M_collect 92 (v0 :: .int x :: ls) st h Q ↔ am_W m_M_collect 93 (v0 :: .int x :: ls) (.int x :: st) h Q := am_go (q := (93, v0 :: .int x :: ls, .int x :: st, h)) o_M_collect rfl rfl (fun _ => rfl)
theorem k_M_collect_93 : am_W m_M_collect 93 ls (.int y :: .int x :: st) h Q ↔ am_W m_M_collect 94 ls (.int (x * y) :: st) h Q := am_go (q := (94, ls, .int (x * y) :: st, h)) o_M_collect rfl rfl (fun _ => rfl)
theorem k_M_collect_94 : am_W m_M_collect 94 (v0 :: v1 :: .int x :: ls) st h Q ↔ am_W m_M_collect 95 (v0 :: v1 :: .int x :: ls) (.int x :: st) h Q := am_go (q := (95, v0 :: v1 :: .int x :: ls, .int x :: st, h)) o_M_collect rfl rfl (fun _ => rfl)
theorem k_M_collect_95 : am_W m_M_collect 95 ls (.int y :: .int x :: st) h Q ↔ am_W m_M_collect 96 ls (.int (x + y) :: st) h Q := am_go (q := (96, ls, .int (x + y) :: st, h)) o_M_collect rfl rfl (fun _ => rfl)
theorem k_M_collect_96 : am_W m_M_collect 96 ls (.int x :: .ref a :: st) h Q ↔ am_ob (am_ld h 0 a x) (fun v => am_W m_M_collect 97 ls (.int v :: st) h Q) := am_iald o_M_collect rfl
theorem k_M_collect_97 : am_W m_M_collect 97 ls (.int x :: st) h Q ↔ (x ≤ 0 → am_W m_M_collect 117 ls st h Q) ∧ (¬ x ≤ 0 → am_W m_M_collect 100 ls st h Q) := (am_go (q := (if x ≤ 0 then 117 else 100, ls, st, h)) o_M_collect rfl rfl (fun _ => rfl)).trans am_ite
theorem k_M_collect_100 : am_W m_M_collect 100 (.ref a :: ls) st h Q ↔ am_W m_M_collect 101 (.ref a :: ls) (.ref a :: st) h Q := am_go (q := (101, .ref a :: ls, .ref a :: st, h)) o_M_collect rfl rfl (fun _ => rfl)
theorem k_M_collect_101 : am_W m_M_collect 101 ls (.ref a :: st) h Q ↔ am_ob (am_gf h a 10 30) (fun v => am_W m_M_collect 104 ls (v :: st) h Q) := am_getf o_M_collect rfl rfl
theorem k_M_collect_104 : am_W m_M_collect 104 (.ref a :: ls) st h Q ↔ am_W m_M_collect 105 (.ref a :: ls) (.ref a :: st) h Q := am_go (q := (105, .ref a :: ls, .ref a :: st, h)) o_M_collect rfl rfl (fun _ => rfl)
theorem k_M_collect_105 : am_W m_M_collect 105 ls (.ref a :: st) h Q ↔ am_ob (am_gf h a 10 25) (fun v => am_W m_M_collect 108 ls (v :: st) h Q) := am_getf o_M_collect rfl rfl
theorem k_M_collect_108 : am_W m_M_collect 108 ls st h Q ↔ am_W m_M_collect 110 ls (.int 6 :: st) h Q := am_go (q := (110, ls, .int 6 :: st, h)) o_M_collect rfl rfl (fun _ => rfl)
theorem k_M_collect_110 : am_W m_M_collect 110 (v0 :: .int x :: ls) st h Q ↔ am_W m_M_collect 111 (v0 :: .int x :: ls) (.int x :: st) h Q := am_go (q := (111, v0 :: .int x :: ls, .int x :: st, h)) o_M_collect rfl rfl (fun _ => rfl)
theorem k_M_collect_111 : am_W m_M_collect 111 ls (.int y :: .int x :: st) h Q ↔ am_W m_M_collect 112 ls (.int (x * y) :: st) h Q := am_go (q := (112, ls, .int (x * y) :: st, h)) o_M_collect rfl rfl (fun _ => rfl)
theorem k_M_collect_112 : am_W m_M_collect 112 (v0 :: v1 :: .int x :: ls) st h Q ↔ am_W m_M_collect 113 (v0 :: v1 :: .int x :: ls) (.int x :: st) h Q := am_go (q := (113, v0 :: v1 :: .int x :: ls, .int x :: st, h)) o_M_collect rfl rfl (fun _ => rfl)
theorem k_M_collect_113 : am_W m_M_collect 113 ls (.int y :: .int x :: st) h Q ↔ am_W m_M_collect 114 ls (.int (x + y) :: st) h Q := am_go (q := (114, ls, .int (x + y) :: st, h)) o_M_collect rfl rfl (fun _ => rfl)
theorem k_M_collect_114 : am_W m_M_collect 114 ls (.int x :: .ref a :: st) h Q ↔ am_ob (am_ld h 0 a x) (fun v => am_W m_M_collect 115 ls (.int v :: st) h Q) := am_iald o_M_collect rfl
theorem k_M_collect_115 : am_W m_M_collect 115 ls st h Q ↔ am_W m_M_collect 116 ls (.int 1 :: st) h Q := am_go (q := (116, ls, .int 1 :: st, h)) o_M_collect rfl rfl (fun _ => rfl)
theorem k_M_collect_116 : am_W m_M_collect 116 ls (.int z :: .int x :: .ref a :: st) h Q ↔ am_ob (am_sd h 1 a x z) (fun h' => am_W m_M_collect 117 ls st h' Q) := am_zast o_M_collect rfl
theorem k_M_collect_117 : am_W m_M_collect 117 (v0 :: v1 :: .int x :: ls) st h Q ↔ am_W m_M_collect 120 (v0 :: v1 :: .int (x + 1) :: ls) st h Q := am_go (q := (120, v0 :: v1 :: .int (x + 1) :: ls, st, h)) o_M_collect rfl rfl (fun _ => rfl)
theorem k_M_collect_120 : am_W m_M_collect 120 ls st h Q ↔ am_W m_M_collect 76 ls st h Q := am_go (q := (76, ls, st, h)) o_M_collect rfl rfl (fun _ => rfl)
theorem k_M_collect_123 : am_W m_M_collect 123 (v0 :: .int x :: ls) st h Q ↔ am_W m_M_collect 126 (v0 :: .int (x + 1) :: ls) st h Q := am_go (q := (126, v0 :: .int (x + 1) :: ls, st, h)) o_M_collect rfl rfl (fun _ => rfl)
theorem k_M_collect_126 : am_W m_M_collect 126 ls st h Q ↔ am_W m_M_collect 23 ls st h Q := am_go (q := (23, ls, st, h)) o_M_collect rfl rfl (fun _ => rfl)
theorem k_M_collect_129 : am_W m_M_collect 129 ls st h Q ↔ am_W m_M_collect 130 ls (.int 0 :: st) h Q := am_go (q := (130, ls, .int 0 :: st, h)) o_M_collect rfl rfl (fun _ => rfl)
theorem k_M_collect_130 : am_W m_M_collect 130 (v0 :: ls) (.int x :: st) h Q ↔ am_W m_M_collect 131 (v0 :: .int x :: ls.tail) st h Q := am_go (q := (131, v0 :: .int x :: ls.tail, st, h)) o_M_collect rfl rfl (fun _ => rfl)
theorem k_M_collect_131 : am_W m_M_collect 131 (v0 :: .int x :: ls) st h Q ↔ am_W m_M_collect 132 (v0 :: .int x :: ls) (.int x :: st) h Q := am_go (q := (132, v0 :: .int x :: ls, .int x :: st, h)) o_M_collect rfl rfl (fun _ => rfl)
theorem k_M_collect_132 : am_W m_M_collect 132 ls st h Q ↔ am_W m_M_collect 134 ls (.int 16 :: st) h Q := am_go (q := (134, ls, .int 16 :: st, h)) o_M_collect rfl rfl (fun _ => rfl)
theorem k_M_collect_134 : am_W m_M_collect 134 ls (.int y :: .int x :: st) h Q ↔ (y ≤ x → am_W m_M_collect 236 ls st h Q) ∧ (¬ y ≤ x → am_W m_M_collect 137 ls st h Q) := (am_go (q := (if y ≤ x then 236 else 137, ls, st, h)) o_M_collect rfl rfl (fun _ => rfl)).trans am_ite
theorem k_M_collect_137 : am_W m_M_collect 137 ls st h Q ↔ am_W m_M_collect 138 ls (.int 1 :: st) h Q := am_go (q := (138, ls, .int 1 :: st, h)) o_M_collect rfl rfl (fun _ => rfl)
theorem k_M_collect_138 : am_W m_M_collect 138 (v0 :: v1 :: ls) (.int x :: st) h Q ↔ am_W m_M_collect 139 (v0 :: v1 :: .int x :: ls.tail) st h Q := am_go (q := (139, v0 :: v1 :: .int x :: ls.tail, st, h)) o_M_collect rfl rfl (fun _ => rfl)
theorem k_M_collect_139 : am_W m_M_collect 139 (v0 :: v1 :: .int x :: ls) st h Q ↔ am_W m_M_collect 140 (v0 :: v1 :: .int x :: ls) (.int x :: st) h Q := am_go (q := (140, v0 :: v1 :: .int x :: ls, .int x :: st, h)) o_M_collect rfl rfl (fun _ => rfl)
theorem k_M_collect_140 : am_W m_M_collect 140 ls st h Q ↔ am_W m_M_collect 142 ls (.int 16 :: st) h Q := am_go (q := (142, ls, .int 16 :: st, h)) o_M_collect rfl rfl (fun _ => rfl)
theorem k_M_collect_142 : am_W m_M_collect 142 ls (.int y :: .int x :: st) h Q ↔ (y < x → am_W m_M_collect 230 ls st h Q) ∧ (¬ y < x → am_W m_M_collect 145 ls st h Q) := (am_go (q := (if y < x then 230 else 145, ls, st, h)) o_M_collect rfl rfl (fun _ => rfl)).trans am_ite
theorem k_M_collect_145 : am_W m_M_collect 145 ls st h Q ↔ am_W m_M_collect 146 ls (.int 0 :: st) h Q := am_go (q := (146, ls, .int 0 :: st, h)) o_M_collect rfl rfl (fun _ => rfl)
theorem k_M_collect_146 : am_W m_M_collect 146 (v0 :: v1 :: v2 :: ls) (.int x :: st) h Q ↔ am_W m_M_collect 147 (v0 :: v1 :: v2 :: .int x :: ls.tail) st h Q := am_go (q := (147, v0 :: v1 :: v2 :: .int x :: ls.tail, st, h)) o_M_collect rfl rfl (fun _ => rfl)
theorem k_M_collect_147 : am_W m_M_collect 147 (v0 :: v1 :: v2 :: .int x :: ls) st h Q ↔ am_W m_M_collect 148 (v0 :: v1 :: v2 :: .int x :: ls) (.int x :: st) h Q := am_go (q := (148, v0 :: v1 :: v2 :: .int x :: ls, .int x :: st, h)) o_M_collect rfl rfl (fun _ => rfl)
theorem k_M_collect_148 : am_W m_M_collect 148 ls st h Q ↔ am_W m_M_collect 149 ls (.int 4 :: st) h Q := am_go (q := (149, ls, .int 4 :: st, h)) o_M_collect rfl rfl (fun _ => rfl)
theorem k_M_collect_149 : am_W m_M_collect 149 ls (.int y :: .int x :: st) h Q ↔ (y ≤ x → am_W m_M_collect 224 ls st h Q) ∧ (¬ y ≤ x → am_W m_M_collect 152 ls st h Q) := (am_go (q := (if y ≤ x then 224 else 152, ls, st, h)) o_M_collect rfl rfl (fun _ => rfl)).trans am_ite
theorem k_M_collect_152 : am_W m_M_collect 152 (.ref a :: ls) st h Q ↔ am_W m_M_collect 153 (.ref a :: ls) (.ref a :: st) h Q := am_go (q := (153, .ref a :: ls, .ref a :: st, h)) o_M_collect rfl rfl (fun _ => rfl)
theorem k_M_collect_153 : am_W m_M_collect 153 ls (.ref a :: st) h Q ↔ am_ob (am_gf h a 10 30) (fun v => am_W m_M_collect 156 ls (v :: st) h Q) := am_getf o_M_collect rfl rfl
theorem k_M_collect_156 : am_W m_M_collect 156 (v0 :: v1 :: .int x :: ls) st h Q ↔ am_W m_M_collect 157 (v0 :: v1 :: .int x :: ls) (.int x :: st) h Q := am_go (q := (157, v0 :: v1 :: .int x :: ls, .int x :: st, h)) o_M_collect rfl rfl (fun _ => rfl)
theorem k_M_collect_157 : am_W m_M_collect 157 ls (.int x :: .ref a :: st) h Q ↔ am_ob (am_ld h 1 a x) (fun v => am_W m_M_collect 158 ls (.int v :: st) h Q) := am_zald o_M_collect rfl
theorem k_M_collect_158 : am_W m_M_collect 158 ls (.int x :: st) h Q ↔ (x = 0 → am_W m_M_collect 218 ls st h Q) ∧ (¬ x = 0 → am_W m_M_collect 161 ls st h Q) := (am_go (q := (if x = 0 then 218 else 161, ls, st, h)) o_M_collect rfl rfl (fun _ => rfl)).trans am_ite
theorem k_M_collect_161 : am_W m_M_collect 161 (.ref a :: ls) st h Q ↔ am_W m_M_collect 162 (.ref a :: ls) (.ref a :: st) h Q := am_go (q := (162, .ref a :: ls, .ref a :: st, h)) o_M_collect rfl rfl (fun _ => rfl)
theorem k_M_collect_162 : am_W m_M_collect 162 ls (.ref a :: st) h Q ↔ am_ob (am_gf h a 10 28) (fun v => am_W m_M_collect 165 ls (v :: st) h Q) := am_getf o_M_collect rfl rfl
theorem k_M_collect_165 : am_W m_M_collect 165 (v0 :: v1 :: .int x :: ls) st h Q ↔ am_W m_M_collect 166 (v0 :: v1 :: .int x :: ls) (.int x :: st) h Q := am_go (q := (166, v0 :: v1 :: .int x :: ls, .int x :: st, h)) o_M_collect rfl rfl (fun _ => rfl)
theorem k_M_collect_166 : am_W m_M_collect 166 ls (.int x :: .ref a :: st) h Q ↔ am_ob (am_ld h 0 a x) (fun v => am_W m_M_collect 167 ls (.int v :: st) h Q) := am_iald o_M_collect rfl
theorem k_M_collect_167 : am_W m_M_collect 167 ls (.int x :: st) h Q ↔ (x ≤ 0 → am_W m_M_collect 218 ls st h Q) ∧ (¬ x ≤ 0 → am_W m_M_collect 170 ls st h Q) := (am_go (q := (if x ≤ 0 then 218 else 170, ls, st, h)) o_M_collect rfl rfl (fun _ => rfl)).trans am_ite
theorem k_M_collect_170 : am_W m_M_collect 170 (v0 :: v1 :: v2 :: .int x :: ls) st h Q ↔ am_W m_M_collect 171 (v0 :: v1 :: v2 :: .int x :: ls) (.int x :: st) h Q := am_go (q := (171, v0 :: v1 :: v2 :: .int x :: ls, .int x :: st, h)) o_M_collect rfl rfl (fun _ => rfl)
theorem k_M_collect_171 : am_W m_M_collect 171 (.ref a :: ls) st h Q ↔ am_W m_M_collect 172 (.ref a :: ls) (.ref a :: st) h Q := am_go (q := (172, .ref a :: ls, .ref a :: st, h)) o_M_collect rfl rfl (fun _ => rfl)
theorem k_M_collect_172 : am_W m_M_collect 172 ls (.ref a :: st) h Q ↔ am_ob (am_gf h a 10 0) (fun v => am_W m_M_collect 175 ls (v :: st) h Q) := am_getf o_M_collect rfl rfl
theorem k_M_collect_175 : am_W m_M_collect 175 (.ref a :: ls) st h Q ↔ am_W m_M_collect 176 (.ref a :: ls) (.ref a :: st) h Q := am_go (q := (176, .ref a :: ls, .ref a :: st, h)) o_M_collect rfl rfl (fun _ => rfl)
theorem k_M_collect_176 : am_W m_M_collect 176 ls (.ref a :: st) h Q ↔ am_ob (am_gf h a 10 28) (fun v => am_W m_M_collect 179 ls (v :: st) h Q) := am_getf o_M_collect rfl rfl
theorem k_M_collect_179 : am_W m_M_collect 179 (v0 :: v1 :: .int x :: ls) st h Q ↔ am_W m_M_collect 180 (v0 :: v1 :: .int x :: ls) (.int x :: st) h Q := am_go (q := (180, v0 :: v1 :: .int x :: ls, .int x :: st, h)) o_M_collect rfl rfl (fun _ => rfl)
theorem k_M_collect_180 : am_W m_M_collect 180 ls (.int x :: .ref a :: st) h Q ↔ am_ob (am_ld h 0 a x) (fun v => am_W m_M_collect 181 ls (.int v :: st) h Q) := am_iald o_M_collect rfl
theorem k_M_collect_181 : am_W m_M_collect 181 ls st h Q ↔ am_W m_M_collect 182 ls (.int 1 :: st) h Q := am_go (q := (182, ls, .int 1 :: st, h)) o_M_collect rfl rfl (fun _ => rfl)
theorem k_M_collect_182 : am_W m_M_collect 182 ls (.int y :: .int x :: st) h Q ↔ am_W m_M_collect 183 ls (.int (x - y) :: st) h Q := am_go (q := (183, ls, .int (x - y) :: st, h)) o_M_collect rfl rfl (fun _ => rfl)
theorem k_M_collect_183 : am_W m_M_collect 183 ls (.int x :: .ref a :: st) h Q ↔ am_ob (am_ld h 0 a x) (fun v => am_W m_M_collect 184 ls (.int v :: st) h Q) := am_iald o_M_collect rfl
theorem k_M_collect_184 : am_W m_M_collect 184 ls (.int y :: .int x :: st) h Q ↔ (y ≤ x → am_W m_M_collect 218 ls st h Q) ∧ (¬ y ≤ x → am_W m_M_collect 187 ls st h Q) := (am_go (q := (if y ≤ x then 218 else 187, ls, st, h)) o_M_collect rfl rfl (fun _ => rfl)).trans am_ite
theorem k_M_collect_187 : am_W m_M_collect 187 (.ref a :: ls) st h Q ↔ am_W m_M_collect 188 (.ref a :: ls) (.ref a :: st) h Q := am_go (q := (188, .ref a :: ls, .ref a :: st, h)) o_M_collect rfl rfl (fun _ => rfl)
theorem k_M_collect_188 : am_W m_M_collect 188 ls st h Q ↔ am_W m_M_collect 189 ls (.int 0 :: st) h Q := am_go (q := (189, ls, .int 0 :: st, h)) o_M_collect rfl rfl (fun _ => rfl)
theorem k_M_collect_189 : am_W m_M_collect 189 (.ref a :: ls) st h Q ↔ am_W m_M_collect 190 (.ref a :: ls) (.ref a :: st) h Q := am_go (q := (190, .ref a :: ls, .ref a :: st, h)) o_M_collect rfl rfl (fun _ => rfl)
theorem k_M_collect_190 : am_W m_M_collect 190 ls (.ref a :: st) h Q ↔ am_ob (am_gf h a 10 28) (fun v => am_W m_M_collect 193 ls (v :: st) h Q) := am_getf o_M_collect rfl rfl
theorem k_M_collect_193 : am_W m_M_collect 193 (v0 :: v1 :: .int x :: ls) st h Q ↔ am_W m_M_collect 194 (v0 :: v1 :: .int x :: ls) (.int x :: st) h Q := am_go (q := (194, v0 :: v1 :: .int x :: ls, .int x :: st, h)) o_M_collect rfl rfl (fun _ => rfl)
theorem k_M_collect_194 : am_W m_M_collect 194 ls (.int x :: .ref a :: st) h Q ↔ am_ob (am_ld h 0 a x) (fun v => am_W m_M_collect 195 ls (.int v :: st) h Q) := am_iald o_M_collect rfl
theorem k_M_collect_195 : am_W m_M_collect 195 (v0 :: v1 :: v2 :: .int x :: ls) st h Q ↔ am_W m_M_collect 196 (v0 :: v1 :: v2 :: .int x :: ls) (.int x :: st) h Q := am_go (q := (196, v0 :: v1 :: v2 :: .int x :: ls, .int x :: st, h)) o_M_collect rfl rfl (fun _ => rfl)
theorem k_M_collect_196 : am_W m_M_collect 196 ls (v3 :: v2 :: v1 :: v0 :: st) h Q ↔ (st.length ≤ 8 ∧ am_rc h [v0, v1, v2, v3] (some 10) = true) ∧ am_C f_M_typeOf [v0, v1, v2, v3] h (fun r h' => am_W m_M_collect 199 ls (r.toList ++ st) h' Q) := am_ca o_M_collect rfl (Or.inl rfl) rfl [v0, v1, v2, v3] st rfl
theorem k_M_collect_199 : am_W m_M_collect 199 ls (.int x :: st) h Q ↔ (x ≤ 0 → am_W m_M_collect 218 ls st h Q) ∧ (¬ x ≤ 0 → am_W m_M_collect 202 ls st h Q) := (am_go (q := (if x ≤ 0 then 218 else 202, ls, st, h)) o_M_collect rfl rfl (fun _ => rfl)).trans am_ite
theorem k_M_collect_202 : am_W m_M_collect 202 (.ref a :: ls) st h Q ↔ am_W m_M_collect 203 (.ref a :: ls) (.ref a :: st) h Q := am_go (q := (203, .ref a :: ls, .ref a :: st, h)) o_M_collect rfl rfl (fun _ => rfl)
theorem k_M_collect_203 : am_W m_M_collect 203 ls (.ref a :: st) h Q ↔ am_ob (am_gf h a 10 30) (fun v => am_W m_M_collect 206 ls (v :: st) h Q) := am_getf o_M_collect rfl rfl
theorem k_M_collect_206 : am_W m_M_collect 206 (.ref a :: ls) st h Q ↔ am_W m_M_collect 207 (.ref a :: ls) (.ref a :: st) h Q := am_go (q := (207, .ref a :: ls, .ref a :: st, h)) o_M_collect rfl rfl (fun _ => rfl)
theorem k_M_collect_207 : am_W m_M_collect 207 ls (.ref a :: st) h Q ↔ am_ob (am_gf h a 10 29) (fun v => am_W m_M_collect 210 ls (v :: st) h Q) := am_getf o_M_collect rfl rfl
theorem k_M_collect_210 : am_W m_M_collect 210 ls st h Q ↔ am_W m_M_collect 211 ls (.int 4 :: st) h Q := am_go (q := (211, ls, .int 4 :: st, h)) o_M_collect rfl rfl (fun _ => rfl)
theorem k_M_collect_211 : am_W m_M_collect 211 (v0 :: v1 :: .int x :: ls) st h Q ↔ am_W m_M_collect 212 (v0 :: v1 :: .int x :: ls) (.int x :: st) h Q := am_go (q := (212, v0 :: v1 :: .int x :: ls, .int x :: st, h)) o_M_collect rfl rfl (fun _ => rfl)
theorem k_M_collect_212 : am_W m_M_collect 212 ls (.int y :: .int x :: st) h Q ↔ am_W m_M_collect 213 ls (.int (x * y) :: st) h Q := am_go (q := (213, ls, .int (x * y) :: st, h)) o_M_collect rfl rfl (fun _ => rfl)
theorem k_M_collect_213 : am_W m_M_collect 213 (v0 :: v1 :: v2 :: .int x :: ls) st h Q ↔ am_W m_M_collect 214 (v0 :: v1 :: v2 :: .int x :: ls) (.int x :: st) h Q := am_go (q := (214, v0 :: v1 :: v2 :: .int x :: ls, .int x :: st, h)) o_M_collect rfl rfl (fun _ => rfl)
theorem k_M_collect_214 : am_W m_M_collect 214 ls (.int y :: .int x :: st) h Q ↔ am_W m_M_collect 215 ls (.int (x + y) :: st) h Q := am_go (q := (215, ls, .int (x + y) :: st, h)) o_M_collect rfl rfl (fun _ => rfl)
theorem k_M_collect_215 : am_W m_M_collect 215 ls (.int x :: .ref a :: st) h Q ↔ am_ob (am_ld h 0 a x) (fun v => am_W m_M_collect 216 ls (.int v :: st) h Q) := am_iald o_M_collect rfl
theorem k_M_collect_216 : am_W m_M_collect 216 ls st h Q ↔ am_W m_M_collect 217 ls (.int 1 :: st) h Q := am_go (q := (217, ls, .int 1 :: st, h)) o_M_collect rfl rfl (fun _ => rfl)
theorem k_M_collect_217 : am_W m_M_collect 217 ls (.int z :: .int x :: .ref a :: st) h Q ↔ am_ob (am_sd h 1 a x z) (fun h' => am_W m_M_collect 218 ls st h' Q) := am_zast o_M_collect rfl
theorem k_M_collect_218 : am_W m_M_collect 218 (v0 :: v1 :: v2 :: .int x :: ls) st h Q ↔ am_W m_M_collect 221 (v0 :: v1 :: v2 :: .int (x + 1) :: ls) st h Q := am_go (q := (221, v0 :: v1 :: v2 :: .int (x + 1) :: ls, st, h)) o_M_collect rfl rfl (fun _ => rfl)
theorem k_M_collect_221 : am_W m_M_collect 221 ls st h Q ↔ am_W m_M_collect 147 ls st h Q := am_go (q := (147, ls, st, h)) o_M_collect rfl rfl (fun _ => rfl)
theorem k_M_collect_224 : am_W m_M_collect 224 (v0 :: v1 :: .int x :: ls) st h Q ↔ am_W m_M_collect 227 (v0 :: v1 :: .int (x + 1) :: ls) st h Q := am_go (q := (227, v0 :: v1 :: .int (x + 1) :: ls, st, h)) o_M_collect rfl rfl (fun _ => rfl)
theorem k_M_collect_227 : am_W m_M_collect 227 ls st h Q ↔ am_W m_M_collect 139 ls st h Q := am_go (q := (139, ls, st, h)) o_M_collect rfl rfl (fun _ => rfl)
theorem k_M_collect_230 : am_W m_M_collect 230 (v0 :: .int x :: ls) st h Q ↔ am_W m_M_collect 233 (v0 :: .int (x + 1) :: ls) st h Q := am_go (q := (233, v0 :: .int (x + 1) :: ls, st, h)) o_M_collect rfl rfl (fun _ => rfl)
theorem k_M_collect_233 : am_W m_M_collect 233 ls st h Q ↔ am_W m_M_collect 131 ls st h Q := am_go (q := (131, ls, st, h)) o_M_collect rfl rfl (fun _ => rfl)
theorem k_M_collect_236 : am_W m_M_collect 236 ls st h Q ↔ am_W m_M_collect 237 ls (.int 1 :: st) h Q := am_go (q := (237, ls, .int 1 :: st, h)) o_M_collect rfl rfl (fun _ => rfl)
theorem k_M_collect_237 : am_W m_M_collect 237 (v0 :: ls) (.int x :: st) h Q ↔ am_W m_M_collect 238 (v0 :: .int x :: ls.tail) st h Q := am_go (q := (238, v0 :: .int x :: ls.tail, st, h)) o_M_collect rfl rfl (fun _ => rfl)
theorem k_M_collect_238 : am_W m_M_collect 238 (v0 :: .int x :: ls) st h Q ↔ am_W m_M_collect 239 (v0 :: .int x :: ls) (.int x :: st) h Q := am_go (q := (239, v0 :: .int x :: ls, .int x :: st, h)) o_M_collect rfl rfl (fun _ => rfl)
theorem k_M_collect_239 : am_W m_M_collect 239 ls st h Q ↔ am_W m_M_collect 241 ls (.int 16 :: st) h Q := am_go (q := (241, ls, .int 16 :: st, h)) o_M_collect rfl rfl (fun _ => rfl)
theorem k_M_collect_241 : am_W m_M_collect 241 ls (.int y :: .int x :: st) h Q ↔ (y < x → am_W m_M_collect 275 ls st h Q) ∧ (¬ y < x → am_W m_M_collect 244 ls st h Q) := (am_go (q := (if y < x then 275 else 244, ls, st, h)) o_M_collect rfl rfl (fun _ => rfl)).trans am_ite
theorem k_M_collect_244 : am_W m_M_collect 244 (.ref a :: ls) st h Q ↔ am_W m_M_collect 245 (.ref a :: ls) (.ref a :: st) h Q := am_go (q := (245, .ref a :: ls, .ref a :: st, h)) o_M_collect rfl rfl (fun _ => rfl)
theorem k_M_collect_245 : am_W m_M_collect 245 ls (.ref a :: st) h Q ↔ am_ob (am_gf h a 10 28) (fun v => am_W m_M_collect 248 ls (v :: st) h Q) := am_getf o_M_collect rfl rfl
theorem k_M_collect_248 : am_W m_M_collect 248 (v0 :: .int x :: ls) st h Q ↔ am_W m_M_collect 249 (v0 :: .int x :: ls) (.int x :: st) h Q := am_go (q := (249, v0 :: .int x :: ls, .int x :: st, h)) o_M_collect rfl rfl (fun _ => rfl)
theorem k_M_collect_249 : am_W m_M_collect 249 (.ref a :: ls) st h Q ↔ am_W m_M_collect 250 (.ref a :: ls) (.ref a :: st) h Q := am_go (q := (250, .ref a :: ls, .ref a :: st, h)) o_M_collect rfl rfl (fun _ => rfl)
theorem k_M_collect_250 : am_W m_M_collect 250 ls (.ref a :: st) h Q ↔ am_ob (am_gf h a 10 30) (fun v => am_W m_M_collect 253 ls (v :: st) h Q) := am_getf o_M_collect rfl rfl
theorem k_M_collect_253 : am_W m_M_collect 253 (v0 :: .int x :: ls) st h Q ↔ am_W m_M_collect 254 (v0 :: .int x :: ls) (.int x :: st) h Q := am_go (q := (254, v0 :: .int x :: ls, .int x :: st, h)) o_M_collect rfl rfl (fun _ => rfl)
theorem k_M_collect_254 : am_W m_M_collect 254 ls (.int x :: .ref a :: st) h Q ↔ am_ob (am_ld h 1 a x) (fun v => am_W m_M_collect 255 ls (.int v :: st) h Q) := am_zald o_M_collect rfl
theorem k_M_collect_255 : am_W m_M_collect 255 ls (.int x :: st) h Q ↔ (x = 0 → am_W m_M_collect 267 ls st h Q) ∧ (¬ x = 0 → am_W m_M_collect 258 ls st h Q) := (am_go (q := (if x = 0 then 267 else 258, ls, st, h)) o_M_collect rfl rfl (fun _ => rfl)).trans am_ite
theorem k_M_collect_258 : am_W m_M_collect 258 (.ref a :: ls) st h Q ↔ am_W m_M_collect 259 (.ref a :: ls) (.ref a :: st) h Q := am_go (q := (259, .ref a :: ls, .ref a :: st, h)) o_M_collect rfl rfl (fun _ => rfl)
theorem k_M_collect_259 : am_W m_M_collect 259 ls (.ref a :: st) h Q ↔ am_ob (am_gf h a 10 28) (fun v => am_W m_M_collect 262 ls (v :: st) h Q) := am_getf o_M_collect rfl rfl
theorem k_M_collect_262 : am_W m_M_collect 262 (v0 :: .int x :: ls) st h Q ↔ am_W m_M_collect 263 (v0 :: .int x :: ls) (.int x :: st) h Q := am_go (q := (263, v0 :: .int x :: ls, .int x :: st, h)) o_M_collect rfl rfl (fun _ => rfl)
theorem k_M_collect_263 : am_W m_M_collect 263 ls (.int x :: .ref a :: st) h Q ↔ am_ob (am_ld h 0 a x) (fun v => am_W m_M_collect 264 ls (.int v :: st) h Q) := am_iald o_M_collect rfl
theorem k_M_collect_264 : am_W m_M_collect 264 ls st h Q ↔ am_W m_M_collect 268 ls st h Q := am_go (q := (268, ls, st, h)) o_M_collect rfl rfl (fun _ => rfl)
theorem k_M_collect_267 : am_W m_M_collect 267 ls st h Q ↔ am_W m_M_collect 268 ls (.int 0 :: st) h Q := am_go (q := (268, ls, .int 0 :: st, h)) o_M_collect rfl rfl (fun _ => rfl)
theorem k_M_collect_268 : am_W m_M_collect 268 ls (.int z :: .int x :: .ref a :: st) h Q ↔ am_ob (am_sd h 0 a x z) (fun h' => am_W m_M_collect 269 ls st h' Q) := am_iast o_M_collect rfl
theorem k_M_collect_269 : am_W m_M_collect 269 (v0 :: .int x :: ls) st h Q ↔ am_W m_M_collect 272 (v0 :: .int (x + 1) :: ls) st h Q := am_go (q := (272, v0 :: .int (x + 1) :: ls, st, h)) o_M_collect rfl rfl (fun _ => rfl)
theorem k_M_collect_272 : am_W m_M_collect 272 ls st h Q ↔ am_W m_M_collect 238 ls st h Q := am_go (q := (238, ls, st, h)) o_M_collect rfl rfl (fun _ => rfl)
theorem k_M_collect_275 : am_W m_M_collect 275 ls [] h Q ↔ Q none h := am_vret rfl rfl
theorem k_M_transform_0 : am_W m_M_transform 0 ls st h Q ↔ am_W m_M_transform 1 ls (.int 0 :: st) h Q := am_go (q := (1, ls, .int 0 :: st, h)) o_M_transform rfl rfl (fun _ => rfl)
theorem k_M_transform_1 : am_W m_M_transform 1 (v0 :: v1 :: v2 :: ls) (.int x :: st) h Q ↔ am_W m_M_transform 2 (v0 :: v1 :: v2 :: .int x :: ls.tail) st h Q := am_go (q := (2, v0 :: v1 :: v2 :: .int x :: ls.tail, st, h)) o_M_transform rfl rfl (fun _ => rfl)
theorem k_M_transform_2 : am_W m_M_transform 2 (v0 :: v1 :: v2 :: .int x :: ls) st h Q ↔ am_W m_M_transform 3 (v0 :: v1 :: v2 :: .int x :: ls) (.int x :: st) h Q := am_go (q := (3, v0 :: v1 :: v2 :: .int x :: ls, .int x :: st, h)) o_M_transform rfl rfl (fun _ => rfl)
theorem k_M_transform_3 : am_W m_M_transform 3 ls st h Q ↔ am_W m_M_transform 4 ls (.int 4 :: st) h Q := am_go (q := (4, ls, .int 4 :: st, h)) o_M_transform rfl rfl (fun _ => rfl)
theorem k_M_transform_4 : am_W m_M_transform 4 ls (.int y :: .int x :: st) h Q ↔ (y ≤ x → am_W m_M_transform 92 ls st h Q) ∧ (¬ y ≤ x → am_W m_M_transform 7 ls st h Q) := (am_go (q := (if y ≤ x then 92 else 7, ls, st, h)) o_M_transform rfl rfl (fun _ => rfl)).trans am_ite
theorem k_M_transform_7 : am_W m_M_transform 7 (v0 :: v1 :: v2 :: .int x :: ls) st h Q ↔ am_W m_M_transform 8 (v0 :: v1 :: v2 :: .int x :: ls) (.int x :: st) h Q := am_go (q := (8, v0 :: v1 :: v2 :: .int x :: ls, .int x :: st, h)) o_M_transform rfl rfl (fun _ => rfl)
theorem k_M_transform_8 : am_W m_M_transform 8 (.ref a :: ls) st h Q ↔ am_W m_M_transform 9 (.ref a :: ls) (.ref a :: st) h Q := am_go (q := (9, .ref a :: ls, .ref a :: st, h)) o_M_transform rfl rfl (fun _ => rfl)
theorem k_M_transform_9 : am_W m_M_transform 9 ls (.ref a :: st) h Q ↔ am_ob (am_gf h a 10 0) (fun v => am_W m_M_transform 12 ls (v :: st) h Q) := am_getf o_M_transform rfl rfl
theorem k_M_transform_12 : am_W m_M_transform 12 ls st h Q ↔ am_W m_M_transform 13 ls (.int 3 :: st) h Q := am_go (q := (13, ls, .int 3 :: st, h)) o_M_transform rfl rfl (fun _ => rfl)
theorem k_M_transform_13 : am_W m_M_transform 13 (v0 :: v1 :: .int x :: ls) st h Q ↔ am_W m_M_transform 14 (v0 :: v1 :: .int x :: ls) (.int x :: st) h Q := am_go (q := (14, v0 :: v1 :: .int x :: ls, .int x :: st, h)) o_M_transform rfl rfl (fun _ => rfl)
theorem k_M_transform_14 : am_W m_M_transform 14 ls (.int y :: .int x :: st) h Q ↔ am_W m_M_transform 15 ls (.int (x + y) :: st) h Q := am_go (q := (15, ls, .int (x + y) :: st, h)) o_M_transform rfl rfl (fun _ => rfl)
theorem k_M_transform_15 : am_W m_M_transform 15 ls st h Q ↔ am_W m_M_transform 16 ls (.int 1 :: st) h Q := am_go (q := (16, ls, .int 1 :: st, h)) o_M_transform rfl rfl (fun _ => rfl)
theorem k_M_transform_16 : am_W m_M_transform 16 ls (.int y :: .int x :: st) h Q ↔ am_W m_M_transform 17 ls (.int (x - y) :: st) h Q := am_go (q := (17, ls, .int (x - y) :: st, h)) o_M_transform rfl rfl (fun _ => rfl)
theorem k_M_transform_17 : am_W m_M_transform 17 ls (.int x :: .ref a :: st) h Q ↔ am_ob (am_ld h 0 a x) (fun v => am_W m_M_transform 18 ls (.int v :: st) h Q) := am_iald o_M_transform rfl
theorem k_M_transform_18 : am_W m_M_transform 18 ls (.int y :: .int x :: st) h Q ↔ (y ≤ x → am_W m_M_transform 38 ls st h Q) ∧ (¬ y ≤ x → am_W m_M_transform 21 ls st h Q) := (am_go (q := (if y ≤ x then 38 else 21, ls, st, h)) o_M_transform rfl rfl (fun _ => rfl)).trans am_ite
theorem k_M_transform_21 : am_W m_M_transform 21 (.ref a :: ls) st h Q ↔ am_W m_M_transform 22 (.ref a :: ls) (.ref a :: st) h Q := am_go (q := (22, .ref a :: ls, .ref a :: st, h)) o_M_transform rfl rfl (fun _ => rfl)
theorem k_M_transform_22 : am_W m_M_transform 22 ls (.ref a :: st) h Q ↔ am_ob (am_gf h a 10 3) (fun v => am_W m_M_transform 25 ls (v :: st) h Q) := am_getf o_M_transform rfl rfl
theorem k_M_transform_25 : am_W m_M_transform 25 ls st h Q ↔ am_W m_M_transform 26 ls (.int 4 :: st) h Q := am_go (q := (26, ls, .int 4 :: st, h)) o_M_transform rfl rfl (fun _ => rfl)
theorem k_M_transform_26 : am_W m_M_transform 26 ls st h Q ↔ am_W m_M_transform 27 ls (.int 3 :: st) h Q := am_go (q := (27, ls, .int 3 :: st, h)) o_M_transform rfl rfl (fun _ => rfl)
theorem k_M_transform_27 : am_W m_M_transform 27 (v0 :: v1 :: .int x :: ls) st h Q ↔ am_W m_M_transform 28 (v0 :: v1 :: .int x :: ls) (.int x :: st) h Q := am_go (q := (28, v0 :: v1 :: .int x :: ls, .int x :: st, h)) o_M_transform rfl rfl (fun _ => rfl)
theorem k_M_transform_28 : am_W m_M_transform 28 ls (.int y :: .int x :: st) h Q ↔ am_W m_M_transform 29 ls (.int (x + y) :: st) h Q := am_go (q := (29, ls, .int (x + y) :: st, h)) o_M_transform rfl rfl (fun _ => rfl)
theorem k_M_transform_29 : am_W m_M_transform 29 ls st h Q ↔ am_W m_M_transform 30 ls (.int 1 :: st) h Q := am_go (q := (30, ls, .int 1 :: st, h)) o_M_transform rfl rfl (fun _ => rfl)
theorem k_M_transform_30 : am_W m_M_transform 30 ls (.int y :: .int x :: st) h Q ↔ am_W m_M_transform 31 ls (.int (x - y) :: st) h Q := am_go (q := (31, ls, .int (x - y) :: st, h)) o_M_transform rfl rfl (fun _ => rfl)
theorem k_M_transform_31 : am_W m_M_transform 31 ls (.int y :: .int x :: st) h Q ↔ am_W m_M_transform 32 ls (.int (x * y) :: st) h Q := am_go (q := (32, ls, .int (x * y) :: st, h)) o_M_transform rfl rfl (fun _ => rfl)
theorem k_M_transform_32 : am_W m_M_transform 32 (v0 :: v1 :: v2 :: .int x :: ls) st h Q ↔ am_W m_M_transform 33 (v0 :: v1 :: v2 :: .int x :: ls) (.int x :: st) h Q := am_go (q := (33, v0 :: v1 :: v2 :: .int x :: ls, .int x :: st, h)) o_M_transform rfl rfl (fun _ => rfl)
theorem k_M_transform_33 : am_W m_M_transform 33 ls (.int y :: .int x :: st) h Q ↔ am_W m_M_transform 34 ls (.int (x + y) :: st) h Q := am_go (q := (34, ls, .int (x + y) :: st, h)) o_M_transform rfl rfl (fun _ => rfl)
theorem k_M_transform_34 : am_W m_M_transform 34 ls (.int x :: .ref a :: st) h Q ↔ am_ob (am_ld h 0 a x) (fun v => am_W m_M_transform 35 ls (.int v :: st) h Q) := am_iald o_M_transform rfl
theorem k_M_transform_35 : am_W m_M_transform 35 ls st h Q ↔ am_W m_M_transform 39 ls st h Q := am_go (q := (39, ls, st, h)) o_M_transform rfl rfl (fun _ => rfl)
theorem k_M_transform_38 : am_W m_M_transform 38 ls st h Q ↔ am_W m_M_transform 39 ls (.int (-1) :: st) h Q := am_go (q := (39, ls, .int (-1) :: st, h)) o_M_transform rfl rfl (fun _ => rfl)
theorem k_M_transform_39 : am_W m_M_transform 39 (v0 :: v1 :: v2 :: v3 :: ls) (.int x :: st) h Q ↔ am_W m_M_transform 41 (v0 :: v1 :: v2 :: v3 :: .int x :: ls.tail) st h Q := am_go (q := (41, v0 :: v1 :: v2 :: v3 :: .int x :: ls.tail, st, h)) o_M_transform rfl rfl (fun _ => rfl)
theorem k_M_transform_41 : am_W m_M_transform 41 (v0 :: v1 :: v2 :: v3 :: .int x :: ls) st h Q ↔ am_W m_M_transform 43 (v0 :: v1 :: v2 :: v3 :: .int x :: ls) (.int x :: st) h Q := am_go (q := (43, v0 :: v1 :: v2 :: v3 :: .int x :: ls, .int x :: st, h)) o_M_transform rfl rfl (fun _ => rfl)
theorem k_M_transform_43 : am_W m_M_transform 43 ls (.int x :: st) h Q ↔ (0 ≤ x → am_W m_M_transform 50 ls st h Q) ∧ (¬ 0 ≤ x → am_W m_M_transform 46 ls st h Q) := (am_go (q := (if 0 ≤ x then 50 else 46, ls, st, h)) o_M_transform rfl rfl (fun _ => rfl)).trans am_ite
theorem k_M_transform_46 : am_W m_M_transform 46 ls st h Q ↔ am_W m_M_transform 47 ls (.int (-1) :: st) h Q := am_go (q := (47, ls, .int (-1) :: st, h)) o_M_transform rfl rfl (fun _ => rfl)
theorem k_M_transform_47 : am_W m_M_transform 47 ls st h Q ↔ am_W m_M_transform 58 ls st h Q := am_go (q := (58, ls, st, h)) o_M_transform rfl rfl (fun _ => rfl)
theorem k_M_transform_50 : am_W m_M_transform 50 (.ref a :: ls) st h Q ↔ am_W m_M_transform 51 (.ref a :: ls) (.ref a :: st) h Q := am_go (q := (51, .ref a :: ls, .ref a :: st, h)) o_M_transform rfl rfl (fun _ => rfl)
theorem k_M_transform_51 : am_W m_M_transform 51 ls st h Q ↔ am_W m_M_transform 52 ls (.int 0 :: st) h Q := am_go (q := (52, ls, .int 0 :: st, h)) o_M_transform rfl rfl (fun _ => rfl)
theorem k_M_transform_52 : am_W m_M_transform 52 (v0 :: v1 :: .int x :: ls) st h Q ↔ am_W m_M_transform 53 (v0 :: v1 :: .int x :: ls) (.int x :: st) h Q := am_go (q := (53, v0 :: v1 :: .int x :: ls, .int x :: st, h)) o_M_transform rfl rfl (fun _ => rfl)
theorem k_M_transform_53 : am_W m_M_transform 53 (v0 :: v1 :: v2 :: v3 :: .int x :: ls) st h Q ↔ am_W m_M_transform 55 (v0 :: v1 :: v2 :: v3 :: .int x :: ls) (.int x :: st) h Q := am_go (q := (55, v0 :: v1 :: v2 :: v3 :: .int x :: ls, .int x :: st, h)) o_M_transform rfl rfl (fun _ => rfl)
theorem k_M_transform_55 : am_W m_M_transform 55 ls (v3 :: v2 :: v1 :: v0 :: st) h Q ↔ (st.length ≤ 8 ∧ am_rc h [v0, v1, v2, v3] (some 10) = true) ∧ am_C f_M_find [v0, v1, v2, v3] h (fun r h' => am_W m_M_transform 58 ls (r.toList ++ st) h' Q) := am_ca o_M_transform rfl (Or.inl rfl) rfl [v0, v1, v2, v3] st rfl
theorem k_M_transform_58 : am_W m_M_transform 58 (v0 :: v1 :: v2 :: v3 :: v4 :: ls) (.int x :: st) h Q ↔ am_W m_M_transform 60 (v0 :: v1 :: v2 :: v3 :: v4 :: .int x :: ls.tail) st h Q := am_go (q := (60, v0 :: v1 :: v2 :: v3 :: v4 :: .int x :: ls.tail, st, h)) o_M_transform rfl rfl (fun _ => rfl)
theorem k_M_transform_60 : am_W m_M_transform 60 (.ref a :: ls) st h Q ↔ am_W m_M_transform 61 (.ref a :: ls) (.ref a :: st) h Q := am_go (q := (61, .ref a :: ls, .ref a :: st, h)) o_M_transform rfl rfl (fun _ => rfl)
theorem k_M_transform_61 : am_W m_M_transform 61 ls (.ref a :: st) h Q ↔ am_ob (am_gf h a 10 31) (fun v => am_W m_M_transform 64 ls (v :: st) h Q) := am_getf o_M_transform rfl rfl
theorem k_M_transform_64 : am_W m_M_transform 64 (v0 :: v1 :: v2 :: .int x :: ls) st h Q ↔ am_W m_M_transform 65 (v0 :: v1 :: v2 :: .int x :: ls) (.int x :: st) h Q := am_go (q := (65, v0 :: v1 :: v2 :: .int x :: ls, .int x :: st, h)) o_M_transform rfl rfl (fun _ => rfl)
theorem k_M_transform_65 : am_W m_M_transform 65 (v0 :: v1 :: v2 :: v3 :: v4 :: .int x :: ls) st h Q ↔ am_W m_M_transform 67 (v0 :: v1 :: v2 :: v3 :: v4 :: .int x :: ls) (.int x :: st) h Q := am_go (q := (67, v0 :: v1 :: v2 :: v3 :: v4 :: .int x :: ls, .int x :: st, h)) o_M_transform rfl rfl (fun _ => rfl)
theorem k_M_transform_67 : am_W m_M_transform 67 ls (.int x :: st) h Q ↔ (0 ≤ x → am_W m_M_transform 74 ls st h Q) ∧ (¬ 0 ≤ x → am_W m_M_transform 70 ls st h Q) := (am_go (q := (if 0 ≤ x then 74 else 70, ls, st, h)) o_M_transform rfl rfl (fun _ => rfl)).trans am_ite
theorem k_M_transform_70 : am_W m_M_transform 70 ls st h Q ↔ am_W m_M_transform 71 ls (.int 0 :: st) h Q := am_go (q := (71, ls, .int 0 :: st, h)) o_M_transform rfl rfl (fun _ => rfl)
theorem k_M_transform_71 : am_W m_M_transform 71 ls st h Q ↔ am_W m_M_transform 85 ls st h Q := am_go (q := (85, ls, st, h)) o_M_transform rfl rfl (fun _ => rfl)
theorem k_M_transform_74 : am_W m_M_transform 74 (.ref a :: ls) st h Q ↔ am_W m_M_transform 75 (.ref a :: ls) (.ref a :: st) h Q := am_go (q := (75, .ref a :: ls, .ref a :: st, h)) o_M_transform rfl rfl (fun _ => rfl)
theorem k_M_transform_75 : am_W m_M_transform 75 ls (.ref a :: st) h Q ↔ am_ob (am_gf h a 10 29) (fun v => am_W m_M_transform 78 ls (v :: st) h Q) := am_getf o_M_transform rfl rfl
theorem k_M_transform_78 : am_W m_M_transform 78 ls st h Q ↔ am_W m_M_transform 79 ls (.int 4 :: st) h Q := am_go (q := (79, ls, .int 4 :: st, h)) o_M_transform rfl rfl (fun _ => rfl)
theorem k_M_transform_79 : am_W m_M_transform 79 (v0 :: .int x :: ls) st h Q ↔ am_W m_M_transform 80 (v0 :: .int x :: ls) (.int x :: st) h Q := am_go (q := (80, v0 :: .int x :: ls, .int x :: st, h)) o_M_transform rfl rfl (fun _ => rfl)
theorem k_M_transform_80 : am_W m_M_transform 80 ls (.int y :: .int x :: st) h Q ↔ am_W m_M_transform 81 ls (.int (x * y) :: st) h Q := am_go (q := (81, ls, .int (x * y) :: st, h)) o_M_transform rfl rfl (fun _ => rfl)
theorem k_M_transform_81 : am_W m_M_transform 81 (v0 :: v1 :: v2 :: v3 :: v4 :: .int x :: ls) st h Q ↔ am_W m_M_transform 83 (v0 :: v1 :: v2 :: v3 :: v4 :: .int x :: ls) (.int x :: st) h Q := am_go (q := (83, v0 :: v1 :: v2 :: v3 :: v4 :: .int x :: ls, .int x :: st, h)) o_M_transform rfl rfl (fun _ => rfl)
theorem k_M_transform_83 : am_W m_M_transform 83 ls (.int y :: .int x :: st) h Q ↔ am_W m_M_transform 84 ls (.int (x + y) :: st) h Q := am_go (q := (84, ls, .int (x + y) :: st, h)) o_M_transform rfl rfl (fun _ => rfl)
theorem k_M_transform_84 : am_W m_M_transform 84 ls (.int x :: .ref a :: st) h Q ↔ am_ob (am_ld h 0 a x) (fun v => am_W m_M_transform 85 ls (.int v :: st) h Q) := am_iald o_M_transform rfl
theorem k_M_transform_85 : am_W m_M_transform 85 ls (.int z :: .int x :: .ref a :: st) h Q ↔ am_ob (am_sd h 0 a x z) (fun h' => am_W m_M_transform 86 ls st h' Q) := am_iast o_M_transform rfl
theorem k_M_transform_86 : am_W m_M_transform 86 (v0 :: v1 :: v2 :: .int x :: ls) st h Q ↔ am_W m_M_transform 89 (v0 :: v1 :: v2 :: .int (x + 1) :: ls) st h Q := am_go (q := (89, v0 :: v1 :: v2 :: .int (x + 1) :: ls, st, h)) o_M_transform rfl rfl (fun _ => rfl)
theorem k_M_transform_89 : am_W m_M_transform 89 ls st h Q ↔ am_W m_M_transform 2 ls st h Q := am_go (q := (2, ls, st, h)) o_M_transform rfl rfl (fun _ => rfl)
theorem k_M_transform_92 : am_W m_M_transform 92 ls st h Q ↔ am_W m_M_transform 93 ls (.int 0 :: st) h Q := am_go (q := (93, ls, .int 0 :: st, h)) o_M_transform rfl rfl (fun _ => rfl)
theorem k_M_transform_93 : am_W m_M_transform 93 (v0 :: v1 :: v2 :: ls) (.int x :: st) h Q ↔ am_W m_M_transform 94 (v0 :: v1 :: v2 :: .int x :: ls.tail) st h Q := am_go (q := (94, v0 :: v1 :: v2 :: .int x :: ls.tail, st, h)) o_M_transform rfl rfl (fun _ => rfl)
theorem k_M_transform_94 : am_W m_M_transform 94 (v0 :: v1 :: v2 :: .int x :: ls) st h Q ↔ am_W m_M_transform 95 (v0 :: v1 :: v2 :: .int x :: ls) (.int x :: st) h Q := am_go (q := (95, v0 :: v1 :: v2 :: .int x :: ls, .int x :: st, h)) o_M_transform rfl rfl (fun _ => rfl)
theorem k_M_transform_95 : am_W m_M_transform 95 ls st h Q ↔ am_W m_M_transform 96 ls (.int 4 :: st) h Q := am_go (q := (96, ls, .int 4 :: st, h)) o_M_transform rfl rfl (fun _ => rfl)
theorem k_M_transform_96 : am_W m_M_transform 96 ls (.int y :: .int x :: st) h Q ↔ (y ≤ x → am_W m_M_transform 121 ls st h Q) ∧ (¬ y ≤ x → am_W m_M_transform 99 ls st h Q) := (am_go (q := (if y ≤ x then 121 else 99, ls, st, h)) o_M_transform rfl rfl (fun _ => rfl)).trans am_ite
theorem k_M_transform_99 : am_W m_M_transform 99 (.ref a :: ls) st h Q ↔ am_W m_M_transform 100 (.ref a :: ls) (.ref a :: st) h Q := am_go (q := (100, .ref a :: ls, .ref a :: st, h)) o_M_transform rfl rfl (fun _ => rfl)
theorem k_M_transform_100 : am_W m_M_transform 100 ls (.ref a :: st) h Q ↔ am_ob (am_gf h a 10 29) (fun v => am_W m_M_transform 103 ls (v :: st) h Q) := am_getf o_M_transform rfl rfl
theorem k_M_transform_103 : am_W m_M_transform 103 ls st h Q ↔ am_W m_M_transform 104 ls (.int 4 :: st) h Q := am_go (q := (104, ls, .int 4 :: st, h)) o_M_transform rfl rfl (fun _ => rfl)
theorem k_M_transform_104 : am_W m_M_transform 104 (v0 :: .int x :: ls) st h Q ↔ am_W m_M_transform 105 (v0 :: .int x :: ls) (.int x :: st) h Q := am_go (q := (105, v0 :: .int x :: ls, .int x :: st, h)) o_M_transform rfl rfl (fun _ => rfl)
theorem k_M_transform_105 : am_W m_M_transform 105 ls (.int y :: .int x :: st) h Q ↔ am_W m_M_transform 106 ls (.int (x * y) :: st) h Q := am_go (q := (106, ls, .int (x * y) :: st, h)) o_M_transform rfl rfl (fun _ => rfl)
theorem k_M_transform_106 : am_W m_M_transform 106 (v0 :: v1 :: v2 :: .int x :: ls) st h Q ↔ am_W m_M_transform 107 (v0 :: v1 :: v2 :: .int x :: ls) (.int x :: st) h Q := am_go (q := (107, v0 :: v1 :: v2 :: .int x :: ls, .int x :: st, h)) o_M_transform rfl rfl (fun _ => rfl)
theorem k_M_transform_107 : am_W m_M_transform 107 ls (.int y :: .int x :: st) h Q ↔ am_W m_M_transform 108 ls (.int (x + y) :: st) h Q := am_go (q := (108, ls, .int (x + y) :: st, h)) o_M_transform rfl rfl (fun _ => rfl)
theorem k_M_transform_108 : am_W m_M_transform 108 (.ref a :: ls) st h Q ↔ am_W m_M_transform 109 (.ref a :: ls) (.ref a :: st) h Q := am_go (q := (109, .ref a :: ls, .ref a :: st, h)) o_M_transform rfl rfl (fun _ => rfl)
theorem k_M_transform_109 : am_W m_M_transform 109 ls (.ref a :: st) h Q ↔ am_ob (am_gf h a 10 31) (fun v => am_W m_M_transform 112 ls (v :: st) h Q) := am_getf o_M_transform rfl rfl
theorem k_M_transform_112 : am_W m_M_transform 112 (v0 :: v1 :: v2 :: .int x :: ls) st h Q ↔ am_W m_M_transform 113 (v0 :: v1 :: v2 :: .int x :: ls) (.int x :: st) h Q := am_go (q := (113, v0 :: v1 :: v2 :: .int x :: ls, .int x :: st, h)) o_M_transform rfl rfl (fun _ => rfl)
theorem k_M_transform_113 : am_W m_M_transform 113 ls (.int x :: .ref a :: st) h Q ↔ am_ob (am_ld h 0 a x) (fun v => am_W m_M_transform 114 ls (.int v :: st) h Q) := am_iald o_M_transform rfl
theorem k_M_transform_114 : am_W m_M_transform 114 ls (.int z :: .int x :: .ref a :: st) h Q ↔ am_ob (am_sd h 0 a x z) (fun h' => am_W m_M_transform 115 ls st h' Q) := am_iast o_M_transform rfl
theorem k_M_transform_115 : am_W m_M_transform 115 (v0 :: v1 :: v2 :: .int x :: ls) st h Q ↔ am_W m_M_transform 118 (v0 :: v1 :: v2 :: .int (x + 1) :: ls) st h Q := am_go (q := (118, v0 :: v1 :: v2 :: .int (x + 1) :: ls, st, h)) o_M_transform rfl rfl (fun _ => rfl)
theorem k_M_transform_118 : am_W m_M_transform 118 ls st h Q ↔ am_W m_M_transform 94 ls st h Q := am_go (q := (94, ls, st, h)) o_M_transform rfl rfl (fun _ => rfl)
theorem k_M_transform_121 : am_W m_M_transform 121 ls [] h Q ↔ Q none h := am_vret rfl rfl
theorem k_M_apply_0 : am_W m_M_apply 0 (.ref a :: ls) st h Q ↔ am_W m_M_apply 1 (.ref a :: ls) (.ref a :: st) h Q := am_go (q := (1, .ref a :: ls, .ref a :: st, h)) o_M_apply rfl rfl (fun _ => rfl)
theorem k_M_apply_1 : am_W m_M_apply 1 ls (v0 :: st) h Q ↔ (st.length ≤ 8 ∧ am_rc h [v0] (some 10) = true) ∧ am_C f_M_collect [v0] h (fun r h' => am_W m_M_apply 4 ls (r.toList ++ st) h' Q) := am_ca o_M_apply rfl (Or.inl rfl) rfl [v0] st rfl
theorem k_M_apply_4 : am_W m_M_apply 4 ls st h Q ↔ am_W m_M_apply 5 ls (.int 1 :: st) h Q := am_go (q := (5, ls, .int 1 :: st, h)) o_M_apply rfl rfl (fun _ => rfl)
theorem k_M_apply_5 : am_W m_M_apply 5 (v0 :: ls) (.int x :: st) h Q ↔ am_W m_M_apply 6 (v0 :: .int x :: ls.tail) st h Q := am_go (q := (6, v0 :: .int x :: ls.tail, st, h)) o_M_apply rfl rfl (fun _ => rfl)
theorem k_M_apply_6 : am_W m_M_apply 6 (v0 :: .int x :: ls) st h Q ↔ am_W m_M_apply 7 (v0 :: .int x :: ls) (.int x :: st) h Q := am_go (q := (7, v0 :: .int x :: ls, .int x :: st, h)) o_M_apply rfl rfl (fun _ => rfl)
theorem k_M_apply_7 : am_W m_M_apply 7 ls st h Q ↔ am_W m_M_apply 9 ls (.int 16 :: st) h Q := am_go (q := (9, ls, .int 16 :: st, h)) o_M_apply rfl rfl (fun _ => rfl)
theorem k_M_apply_9 : am_W m_M_apply 9 ls (.int y :: .int x :: st) h Q ↔ (y < x → am_W m_M_apply 67 ls st h Q) ∧ (¬ y < x → am_W m_M_apply 12 ls st h Q) := (am_go (q := (if y < x then 67 else 12, ls, st, h)) o_M_apply rfl rfl (fun _ => rfl)).trans am_ite
theorem k_M_apply_12 : am_W m_M_apply 12 (.ref a :: ls) st h Q ↔ am_W m_M_apply 13 (.ref a :: ls) (.ref a :: st) h Q := am_go (q := (13, .ref a :: ls, .ref a :: st, h)) o_M_apply rfl rfl (fun _ => rfl)
theorem k_M_apply_13 : am_W m_M_apply 13 ls (.ref a :: st) h Q ↔ am_ob (am_gf h a 10 28) (fun v => am_W m_M_apply 16 ls (v :: st) h Q) := am_getf o_M_apply rfl rfl
theorem k_M_apply_16 : am_W m_M_apply 16 (v0 :: .int x :: ls) st h Q ↔ am_W m_M_apply 17 (v0 :: .int x :: ls) (.int x :: st) h Q := am_go (q := (17, v0 :: .int x :: ls, .int x :: st, h)) o_M_apply rfl rfl (fun _ => rfl)
theorem k_M_apply_17 : am_W m_M_apply 17 ls (.int x :: .ref a :: st) h Q ↔ am_ob (am_ld h 0 a x) (fun v => am_W m_M_apply 18 ls (.int v :: st) h Q) := am_iald o_M_apply rfl
theorem k_M_apply_18 : am_W m_M_apply 18 ls (.int x :: st) h Q ↔ (x ≤ 0 → am_W m_M_apply 61 ls st h Q) ∧ (¬ x ≤ 0 → am_W m_M_apply 21 ls st h Q) := (am_go (q := (if x ≤ 0 then 61 else 21, ls, st, h)) o_M_apply rfl rfl (fun _ => rfl)).trans am_ite
theorem k_M_apply_21 : am_W m_M_apply 21 (.ref a :: ls) st h Q ↔ am_W m_M_apply 22 (.ref a :: ls) (.ref a :: st) h Q := am_go (q := (22, .ref a :: ls, .ref a :: st, h)) o_M_apply rfl rfl (fun _ => rfl)
theorem k_M_apply_22 : am_W m_M_apply 22 ls (.ref a :: st) h Q ↔ am_ob (am_gf h a 10 11) (fun v => am_W m_M_apply 25 ls (v :: st) h Q) := am_getf o_M_apply rfl rfl
theorem k_M_apply_25 : am_W m_M_apply 25 ls st h Q ↔ am_W m_M_apply 26 ls (.int 1 :: st) h Q := am_go (q := (26, ls, .int 1 :: st, h)) o_M_apply rfl rfl (fun _ => rfl)
theorem k_M_apply_26 : am_W m_M_apply 26 ls (.int x :: .ref a :: st) h Q ↔ am_ob (am_ld h 0 a x) (fun v => am_W m_M_apply 27 ls (.int v :: st) h Q) := am_iald o_M_apply rfl
theorem k_M_apply_27 : am_W m_M_apply 27 (.ref a :: ls) st h Q ↔ am_W m_M_apply 28 (.ref a :: ls) (.ref a :: st) h Q := am_go (q := (28, .ref a :: ls, .ref a :: st, h)) o_M_apply rfl rfl (fun _ => rfl)
theorem k_M_apply_28 : am_W m_M_apply 28 ls (.ref a :: st) h Q ↔ am_ob (am_gf h a 10 28) (fun v => am_W m_M_apply 31 ls (v :: st) h Q) := am_getf o_M_apply rfl rfl
theorem k_M_apply_31 : am_W m_M_apply 31 (v0 :: .int x :: ls) st h Q ↔ am_W m_M_apply 32 (v0 :: .int x :: ls) (.int x :: st) h Q := am_go (q := (32, v0 :: .int x :: ls, .int x :: st, h)) o_M_apply rfl rfl (fun _ => rfl)
theorem k_M_apply_32 : am_W m_M_apply 32 ls (.int x :: .ref a :: st) h Q ↔ am_ob (am_ld h 0 a x) (fun v => am_W m_M_apply 33 ls (.int v :: st) h Q) := am_iald o_M_apply rfl
theorem k_M_apply_33 : am_W m_M_apply 33 ls (.int y :: .int x :: st) h Q ↔ am_W m_M_apply 34 ls (.int (x >>> (y &&& 31)) :: st) h Q := am_go (q := (34, ls, .int (x >>> (y &&& 31)) :: st, h)) o_M_apply rfl rfl (fun _ => rfl)
theorem k_M_apply_34 : am_W m_M_apply 34 ls st h Q ↔ am_W m_M_apply 35 ls (.int 1 :: st) h Q := am_go (q := (35, ls, .int 1 :: st, h)) o_M_apply rfl rfl (fun _ => rfl)
theorem k_M_apply_35 : am_W m_M_apply 35 ls (.int y :: .int x :: st) h Q ↔ am_W m_M_apply 36 ls (.int (x &&& y) :: st) h Q := am_go (q := (36, ls, .int (x &&& y) :: st, h)) o_M_apply rfl rfl (fun _ => rfl)
theorem k_M_apply_36 : am_W m_M_apply 36 ls st h Q ↔ am_W m_M_apply 37 ls (.int 1 :: st) h Q := am_go (q := (37, ls, .int 1 :: st, h)) o_M_apply rfl rfl (fun _ => rfl)
theorem k_M_apply_37 : am_W m_M_apply 37 ls (.int y :: .int x :: st) h Q ↔ (x = y → am_W m_M_apply 40 ls st h Q) ∧ (¬ x = y → am_W m_M_apply 61 ls st h Q) := (am_go (q := (if ¬ x = y then 61 else 40, ls, st, h)) o_M_apply rfl rfl (fun _ => rfl)).trans am_iteN
theorem k_M_apply_40 : am_W m_M_apply 40 (.ref a :: ls) st h Q ↔ am_W m_M_apply 41 (.ref a :: ls) (.ref a :: st) h Q := am_go (q := (41, .ref a :: ls, .ref a :: st, h)) o_M_apply rfl rfl (fun _ => rfl)
theorem k_M_apply_41 : am_W m_M_apply 41 (v0 :: .int x :: ls) st h Q ↔ am_W m_M_apply 42 (v0 :: .int x :: ls) (.int x :: st) h Q := am_go (q := (42, v0 :: .int x :: ls, .int x :: st, h)) o_M_apply rfl rfl (fun _ => rfl)
theorem k_M_apply_42 : am_W m_M_apply 42 (.ref a :: ls) st h Q ↔ am_W m_M_apply 43 (.ref a :: ls) (.ref a :: st) h Q := am_go (q := (43, .ref a :: ls, .ref a :: st, h)) o_M_apply rfl rfl (fun _ => rfl)
theorem k_M_apply_43 : am_W m_M_apply 43 ls (.ref a :: st) h Q ↔ am_ob (am_gf h a 10 28) (fun v => am_W m_M_apply 46 ls (v :: st) h Q) := am_getf o_M_apply rfl rfl
theorem k_M_apply_46 : am_W m_M_apply 46 (v0 :: .int x :: ls) st h Q ↔ am_W m_M_apply 47 (v0 :: .int x :: ls) (.int x :: st) h Q := am_go (q := (47, v0 :: .int x :: ls, .int x :: st, h)) o_M_apply rfl rfl (fun _ => rfl)
theorem k_M_apply_47 : am_W m_M_apply 47 ls (.int x :: .ref a :: st) h Q ↔ am_ob (am_ld h 0 a x) (fun v => am_W m_M_apply 48 ls (.int v :: st) h Q) := am_iald o_M_apply rfl
theorem k_M_apply_48 : am_W m_M_apply 48 ls (v2 :: v1 :: v0 :: st) h Q ↔ (st.length ≤ 8 ∧ am_rc h [v0, v1, v2] (some 10) = true) ∧ am_C f_M_transform [v0, v1, v2] h (fun r h' => am_W m_M_apply 51 ls (r.toList ++ st) h' Q) := am_ca o_M_apply rfl (Or.inl rfl) rfl [v0, v1, v2] st rfl
theorem k_M_apply_51 : am_W m_M_apply 51 (.ref a :: ls) st h Q ↔ am_W m_M_apply 52 (.ref a :: ls) (.ref a :: st) h Q := am_go (q := (52, .ref a :: ls, .ref a :: st, h)) o_M_apply rfl rfl (fun _ => rfl)
theorem k_M_apply_52 : am_W m_M_apply 52 ls (.ref a :: st) h Q ↔ am_W m_M_apply 53 ls (.ref a :: .ref a :: st) h Q := am_go (q := (53, ls, .ref a :: .ref a :: st, h)) o_M_apply rfl rfl (fun _ => rfl)
theorem k_M_apply_52i : am_W m_M_apply 52 ls (.int x :: st) h Q ↔ am_W m_M_apply 53 ls (.int x :: .int x :: st) h Q := am_go (q := (53, ls, .int x :: .int x :: st, h)) o_M_apply rfl rfl (fun _ => rfl)
theorem k_M_apply_53 : am_W m_M_apply 53 ls (.ref a :: st) h Q ↔ am_ob (am_gf h a 10 16) (fun v => am_W m_M_apply 56 ls (v :: st) h Q) := am_getf o_M_apply rfl rfl
theorem k_M_apply_56 : am_W m_M_apply 56 ls st h Q ↔ am_W m_M_apply 57 ls (.int 1 :: st) h Q := am_go (q := (57, ls, .int 1 :: st, h)) o_M_apply rfl rfl (fun _ => rfl)
theorem k_M_apply_57 : am_W m_M_apply 57 ls (.int y :: .int x :: st) h Q ↔ am_W m_M_apply 58 ls (.int (x + y) :: st) h Q := am_go (q := (58, ls, .int (x + y) :: st, h)) o_M_apply rfl rfl (fun _ => rfl)
theorem k_M_apply_58 : am_W m_M_apply 58 ls (v0 :: .ref a :: st) h Q ↔ am_ob (am_pf h a 10 16 0 v0) (fun h' => am_W m_M_apply 61 ls st h' Q) := am_putf o_M_apply rfl rfl
theorem k_M_apply_61 : am_W m_M_apply 61 (v0 :: .int x :: ls) st h Q ↔ am_W m_M_apply 64 (v0 :: .int (x + 1) :: ls) st h Q := am_go (q := (64, v0 :: .int (x + 1) :: ls, st, h)) o_M_apply rfl rfl (fun _ => rfl)
theorem k_M_apply_64 : am_W m_M_apply 64 ls st h Q ↔ am_W m_M_apply 6 ls st h Q := am_go (q := (6, ls, st, h)) o_M_apply rfl rfl (fun _ => rfl)
theorem k_M_apply_67 : am_W m_M_apply 67 (.ref a :: ls) st h Q ↔ am_W m_M_apply 68 (.ref a :: ls) (.ref a :: st) h Q := am_go (q := (68, .ref a :: ls, .ref a :: st, h)) o_M_apply rfl rfl (fun _ => rfl)
theorem k_M_apply_68 : am_W m_M_apply 68 ls st h Q ↔ am_W m_M_apply 69 ls (.int 1 :: st) h Q := am_go (q := (69, ls, .int 1 :: st, h)) o_M_apply rfl rfl (fun _ => rfl)
theorem k_M_apply_69 : am_W m_M_apply 69 ls st h Q ↔ am_W m_M_apply 70 ls (.int 0 :: st) h Q := am_go (q := (70, ls, .int 0 :: st, h)) o_M_apply rfl rfl (fun _ => rfl)
theorem k_M_apply_70 : am_W m_M_apply 70 ls (v2 :: v1 :: v0 :: st) h Q ↔ (st.length ≤ 8 ∧ am_rc h [v0, v1, v2] (some 10) = true) ∧ am_C f_M_copy [v0, v1, v2] h (fun r h' => am_W m_M_apply 73 ls (r.toList ++ st) h' Q) := am_ca o_M_apply rfl (Or.inl rfl) rfl [v0, v1, v2] st rfl
theorem k_M_apply_73 : am_W m_M_apply 73 (.ref a :: ls) st h Q ↔ am_W m_M_apply 74 (.ref a :: ls) (.ref a :: st) h Q := am_go (q := (74, .ref a :: ls, .ref a :: st, h)) o_M_apply rfl rfl (fun _ => rfl)
theorem k_M_apply_74 : am_W m_M_apply 74 ls st h Q ↔ am_W m_M_apply 75 ls (.int 2 :: st) h Q := am_go (q := (75, ls, .int 2 :: st, h)) o_M_apply rfl rfl (fun _ => rfl)
theorem k_M_apply_75 : am_W m_M_apply 75 ls st h Q ↔ am_W m_M_apply 76 ls (.int 1 :: st) h Q := am_go (q := (76, ls, .int 1 :: st, h)) o_M_apply rfl rfl (fun _ => rfl)
theorem k_M_apply_76 : am_W m_M_apply 76 ls (v2 :: v1 :: v0 :: st) h Q ↔ (st.length ≤ 8 ∧ am_rc h [v0, v1, v2] (some 10) = true) ∧ am_C f_M_copy [v0, v1, v2] h (fun r h' => am_W m_M_apply 79 ls (r.toList ++ st) h' Q) := am_ca o_M_apply rfl (Or.inl rfl) rfl [v0, v1, v2] st rfl
theorem k_M_apply_79 : am_W m_M_apply 79 (.ref a :: ls) st h Q ↔ am_W m_M_apply 80 (.ref a :: ls) (.ref a :: st) h Q := am_go (q := (80, .ref a :: ls, .ref a :: st, h)) o_M_apply rfl rfl (fun _ => rfl)
theorem k_M_apply_80 : am_W m_M_apply 80 ls st h Q ↔ am_W m_M_apply 81 ls (.int 3 :: st) h Q := am_go (q := (81, ls, .int 3 :: st, h)) o_M_apply rfl rfl (fun _ => rfl)
theorem k_M_apply_81 : am_W m_M_apply 81 ls st h Q ↔ am_W m_M_apply 82 ls (.int 2 :: st) h Q := am_go (q := (82, ls, .int 2 :: st, h)) o_M_apply rfl rfl (fun _ => rfl)
theorem k_M_apply_82 : am_W m_M_apply 82 ls (v2 :: v1 :: v0 :: st) h Q ↔ (st.length ≤ 8 ∧ am_rc h [v0, v1, v2] (some 10) = true) ∧ am_C f_M_copy [v0, v1, v2] h (fun r h' => am_W m_M_apply 85 ls (r.toList ++ st) h' Q) := am_ca o_M_apply rfl (Or.inl rfl) rfl [v0, v1, v2] st rfl
theorem k_M_apply_85 : am_W m_M_apply 85 (.ref a :: ls) st h Q ↔ am_W m_M_apply 86 (.ref a :: ls) (.ref a :: st) h Q := am_go (q := (86, .ref a :: ls, .ref a :: st, h)) o_M_apply rfl rfl (fun _ => rfl)
theorem k_M_apply_86 : am_W m_M_apply 86 ls (.ref a :: st) h Q ↔ am_W m_M_apply 87 ls (.ref a :: .ref a :: st) h Q := am_go (q := (87, ls, .ref a :: .ref a :: st, h)) o_M_apply rfl rfl (fun _ => rfl)
theorem k_M_apply_86i : am_W m_M_apply 86 ls (.int x :: st) h Q ↔ am_W m_M_apply 87 ls (.int x :: .int x :: st) h Q := am_go (q := (87, ls, .int x :: .int x :: st, h)) o_M_apply rfl rfl (fun _ => rfl)
theorem k_M_apply_87 : am_W m_M_apply 87 ls (.ref a :: st) h Q ↔ am_ob (am_gf h a 10 14) (fun v => am_W m_M_apply 90 ls (v :: st) h Q) := am_getf o_M_apply rfl rfl
theorem k_M_apply_90 : am_W m_M_apply 90 ls st h Q ↔ am_W m_M_apply 91 ls (.int 1 :: st) h Q := am_go (q := (91, ls, .int 1 :: st, h)) o_M_apply rfl rfl (fun _ => rfl)
theorem k_M_apply_91 : am_W m_M_apply 91 ls (.int y :: .int x :: st) h Q ↔ am_W m_M_apply 92 ls (.int (x - y) :: st) h Q := am_go (q := (92, ls, .int (x - y) :: st, h)) o_M_apply rfl rfl (fun _ => rfl)
theorem k_M_apply_92 : am_W m_M_apply 92 ls (v0 :: .ref a :: st) h Q ↔ am_ob (am_pf h a 10 14 0 v0) (fun h' => am_W m_M_apply 95 ls st h' Q) := am_putf o_M_apply rfl rfl
theorem k_M_apply_95 : am_W m_M_apply 95 (.ref a :: ls) st h Q ↔ am_W m_M_apply 96 (.ref a :: ls) (.ref a :: st) h Q := am_go (q := (96, .ref a :: ls, .ref a :: st, h)) o_M_apply rfl rfl (fun _ => rfl)
theorem k_M_apply_96 : am_W m_M_apply 96 ls (.ref a :: st) h Q ↔ am_W m_M_apply 97 ls (.ref a :: .ref a :: st) h Q := am_go (q := (97, ls, .ref a :: .ref a :: st, h)) o_M_apply rfl rfl (fun _ => rfl)
theorem k_M_apply_96i : am_W m_M_apply 96 ls (.int x :: st) h Q ↔ am_W m_M_apply 97 ls (.int x :: .int x :: st) h Q := am_go (q := (97, ls, .int x :: .int x :: st, h)) o_M_apply rfl rfl (fun _ => rfl)
theorem k_M_apply_97 : am_W m_M_apply 97 ls (.ref a :: st) h Q ↔ am_ob (am_gf h a 10 15) (fun v => am_W m_M_apply 100 ls (v :: st) h Q) := am_getf o_M_apply rfl rfl
theorem k_M_apply_100 : am_W m_M_apply 100 ls st h Q ↔ am_W m_M_apply 101 ls (.int 1 :: st) h Q := am_go (q := (101, ls, .int 1 :: st, h)) o_M_apply rfl rfl (fun _ => rfl)
theorem k_M_apply_101 : am_W m_M_apply 101 ls (.int y :: .int x :: st) h Q ↔ am_W m_M_apply 102 ls (.int (x + y) :: st) h Q := am_go (q := (102, ls, .int (x + y) :: st, h)) o_M_apply rfl rfl (fun _ => rfl)
theorem k_M_apply_102 : am_W m_M_apply 102 ls (v0 :: .ref a :: st) h Q ↔ am_ob (am_pf h a 10 15 0 v0) (fun h' => am_W m_M_apply 105 ls st h' Q) := am_putf o_M_apply rfl rfl
theorem k_M_apply_105 : am_W m_M_apply 105 ls [] h Q ↔ Q none h := am_vret rfl rfl
theorem k_M_settle_0 : am_W m_M_settle 0 ls st h Q ↔ am_W m_M_settle 1 ls (.int 0 :: st) h Q := am_go (q := (1, ls, .int 0 :: st, h)) o_M_settle rfl rfl (fun _ => rfl)
theorem k_M_settle_1 : am_W m_M_settle 1 (v0 :: ls) (.int x :: st) h Q ↔ am_W m_M_settle 2 (v0 :: .int x :: ls.tail) st h Q := am_go (q := (2, v0 :: .int x :: ls.tail, st, h)) o_M_settle rfl rfl (fun _ => rfl)
theorem k_M_settle_2 : am_W m_M_settle 2 (v0 :: .int x :: ls) st h Q ↔ am_W m_M_settle 3 (v0 :: .int x :: ls) (.int x :: st) h Q := am_go (q := (3, v0 :: .int x :: ls, .int x :: st, h)) o_M_settle rfl rfl (fun _ => rfl)
theorem k_M_settle_3 : am_W m_M_settle 3 ls st h Q ↔ am_W m_M_settle 4 ls (.int 3 :: st) h Q := am_go (q := (4, ls, .int 3 :: st, h)) o_M_settle rfl rfl (fun _ => rfl)
theorem k_M_settle_4 : am_W m_M_settle 4 ls (.int y :: .int x :: st) h Q ↔ (y ≤ x → am_W m_M_settle 31 ls st h Q) ∧ (¬ y ≤ x → am_W m_M_settle 7 ls st h Q) := (am_go (q := (if y ≤ x then 31 else 7, ls, st, h)) o_M_settle rfl rfl (fun _ => rfl)).trans am_ite
theorem k_M_settle_7 : am_W m_M_settle 7 (.ref a :: ls) st h Q ↔ am_W m_M_settle 8 (.ref a :: ls) (.ref a :: st) h Q := am_go (q := (8, .ref a :: ls, .ref a :: st, h)) o_M_settle rfl rfl (fun _ => rfl)
theorem k_M_settle_8 : am_W m_M_settle 8 ls (.ref a :: st) h Q ↔ am_ob (am_gf h a 10 14) (fun v => am_W m_M_settle 11 ls (v :: st) h Q) := am_getf o_M_settle rfl rfl
theorem k_M_settle_11 : am_W m_M_settle 11 ls (.int x :: st) h Q ↔ (x ≤ 0 → am_W m_M_settle 25 ls st h Q) ∧ (¬ x ≤ 0 → am_W m_M_settle 14 ls st h Q) := (am_go (q := (if x ≤ 0 then 25 else 14, ls, st, h)) o_M_settle rfl rfl (fun _ => rfl)).trans am_ite
theorem k_M_settle_14 : am_W m_M_settle 14 (.ref a :: ls) st h Q ↔ am_W m_M_settle 15 (.ref a :: ls) (.ref a :: st) h Q := am_go (q := (15, .ref a :: ls, .ref a :: st, h)) o_M_settle rfl rfl (fun _ => rfl)
theorem k_M_settle_15 : am_W m_M_settle 15 ls (v0 :: st) h Q ↔ (st.length ≤ 8 ∧ am_rc h [v0] (some 10) = true) ∧ am_C f_M_free [v0] h (fun r h' => am_W m_M_settle 18 ls (r.toList ++ st) h' Q) := am_ca o_M_settle rfl (Or.inl rfl) rfl [v0] st rfl
theorem k_M_settle_18 : am_W m_M_settle 18 ls (.int x :: st) h Q ↔ (x = 0 → am_W m_M_settle 25 ls st h Q) ∧ (¬ x = 0 → am_W m_M_settle 21 ls st h Q) := (am_go (q := (if x = 0 then 25 else 21, ls, st, h)) o_M_settle rfl rfl (fun _ => rfl)).trans am_ite
theorem k_M_settle_21 : am_W m_M_settle 21 (.ref a :: ls) st h Q ↔ am_W m_M_settle 22 (.ref a :: ls) (.ref a :: st) h Q := am_go (q := (22, .ref a :: ls, .ref a :: st, h)) o_M_settle rfl rfl (fun _ => rfl)
theorem k_M_settle_22 : am_W m_M_settle 22 ls (v0 :: st) h Q ↔ (st.length ≤ 8 ∧ am_rc h [v0] (some 10) = true) ∧ am_C f_M_apply [v0] h (fun r h' => am_W m_M_settle 25 ls (r.toList ++ st) h' Q) := am_ca o_M_settle rfl (Or.inl rfl) rfl [v0] st rfl
theorem k_M_settle_25 : am_W m_M_settle 25 (v0 :: .int x :: ls) st h Q ↔ am_W m_M_settle 28 (v0 :: .int (x + 1) :: ls) st h Q := am_go (q := (28, v0 :: .int (x + 1) :: ls, st, h)) o_M_settle rfl rfl (fun _ => rfl)
theorem k_M_settle_28 : am_W m_M_settle 28 ls st h Q ↔ am_W m_M_settle 2 ls st h Q := am_go (q := (2, ls, st, h)) o_M_settle rfl rfl (fun _ => rfl)
theorem k_M_settle_31 : am_W m_M_settle 31 ls [] h Q ↔ Q none h := am_vret rfl rfl
theorem k_M_commit_0 : am_W m_M_commit 0 (.ref a :: ls) st h Q ↔ am_W m_M_commit 1 (.ref a :: ls) (.ref a :: st) h Q := am_go (q := (1, .ref a :: ls, .ref a :: st, h)) o_M_commit rfl rfl (fun _ => rfl)
theorem k_M_commit_1 : am_W m_M_commit 1 ls (.ref a :: st) h Q ↔ am_ob (am_gf h a 10 11) (fun v => am_W m_M_commit 4 ls (v :: st) h Q) := am_getf o_M_commit rfl rfl
theorem k_M_commit_4 : am_W m_M_commit 4 ls st h Q ↔ am_W m_M_commit 5 ls (.int 4 :: st) h Q := am_go (q := (5, ls, .int 4 :: st, h)) o_M_commit rfl rfl (fun _ => rfl)
theorem k_M_commit_5 : am_W m_M_commit 5 ls (.int x :: .ref a :: st) h Q ↔ am_ob (am_ld h 0 a x) (fun v => am_W m_M_commit 6 ls (.int v :: st) h Q) := am_iald o_M_commit rfl
theorem k_M_commit_6 : am_W m_M_commit 6 ls (.int x :: st) h Q ↔ (x = 0 → am_W m_M_commit 9 ls st h Q) ∧ (¬ x = 0 → am_W m_M_commit 18 ls st h Q) := (am_go (q := (if ¬ x = 0 then 18 else 9, ls, st, h)) o_M_commit rfl rfl (fun _ => rfl)).trans am_iteN
theorem k_M_commit_9 : am_W m_M_commit 9 (.ref a :: ls) st h Q ↔ am_W m_M_commit 10 (.ref a :: ls) (.ref a :: st) h Q := am_go (q := (10, .ref a :: ls, .ref a :: st, h)) o_M_commit rfl rfl (fun _ => rfl)
theorem k_M_commit_10 : am_W m_M_commit 10 ls (.ref a :: st) h Q ↔ am_ob (am_gf h a 10 12) (fun v => am_W m_M_commit 13 ls (v :: st) h Q) := am_getf o_M_commit rfl rfl
theorem k_M_commit_13 : am_W m_M_commit 13 ls st h Q ↔ am_W m_M_commit 14 ls (.int 4 :: st) h Q := am_go (q := (14, ls, .int 4 :: st, h)) o_M_commit rfl rfl (fun _ => rfl)
theorem k_M_commit_14 : am_W m_M_commit 14 ls (.int x :: .ref a :: st) h Q ↔ am_ob (am_ld h 0 a x) (fun v => am_W m_M_commit 15 ls (.int v :: st) h Q) := am_iald o_M_commit rfl
theorem k_M_commit_15 : am_W m_M_commit 15 ls (.int x :: st) h Q ↔ (x = 0 → am_W m_M_commit 26 ls st h Q) ∧ (¬ x = 0 → am_W m_M_commit 18 ls st h Q) := (am_go (q := (if x = 0 then 26 else 18, ls, st, h)) o_M_commit rfl rfl (fun _ => rfl)).trans am_ite
theorem k_M_commit_18 : am_W m_M_commit 18 (.ref a :: ls) st h Q ↔ am_W m_M_commit 19 (.ref a :: ls) (.ref a :: st) h Q := am_go (q := (19, .ref a :: ls, .ref a :: st, h)) o_M_commit rfl rfl (fun _ => rfl)
theorem k_M_commit_19 : am_W m_M_commit 19 ls (.ref a :: st) h Q ↔ am_ob (am_gf h a 10 14) (fun v => am_W m_M_commit 22 ls (v :: st) h Q) := am_getf o_M_commit rfl rfl
theorem k_M_commit_22 : am_W m_M_commit 22 ls st h Q ↔ am_W m_M_commit 23 ls (.int 3 :: st) h Q := am_go (q := (23, ls, .int 3 :: st, h)) o_M_commit rfl rfl (fun _ => rfl)
theorem k_M_commit_23 : am_W m_M_commit 23 ls (.int y :: .int x :: st) h Q ↔ (x = y → am_W m_M_commit 26 ls st h Q) ∧ (¬ x = y → am_W m_M_commit 28 ls st h Q) := (am_go (q := (if ¬ x = y then 28 else 26, ls, st, h)) o_M_commit rfl rfl (fun _ => rfl)).trans am_iteN
theorem k_M_commit_26 : am_W m_M_commit 26 ls st h Q ↔ am_W m_M_commit 27 ls (.int (-1) :: st) h Q := am_go (q := (27, ls, .int (-1) :: st, h)) o_M_commit rfl rfl (fun _ => rfl)
theorem k_M_commit_27 : am_W m_M_commit 27 ls [.int x] h Q ↔ Q (some (.int x)) h := am_iret rfl rfl
theorem k_M_commit_28 : am_W m_M_commit 28 (.ref a :: ls) st h Q ↔ am_W m_M_commit 29 (.ref a :: ls) (.ref a :: st) h Q := am_go (q := (29, .ref a :: ls, .ref a :: st, h)) o_M_commit rfl rfl (fun _ => rfl)
theorem k_M_commit_29 : am_W m_M_commit 29 ls (v0 :: st) h Q ↔ (st.length ≤ 8 ∧ am_rc h [v0] (some 10) = true) ∧ am_C f_M_wrong [v0] h (fun r h' => am_W m_M_commit 32 ls (r.toList ++ st) h' Q) := am_ca o_M_commit rfl (Or.inl rfl) rfl [v0] st rfl
theorem k_M_commit_32 : am_W m_M_commit 32 (v0 :: ls) (.int x :: st) h Q ↔ am_W m_M_commit 33 (v0 :: .int x :: ls.tail) st h Q := am_go (q := (33, v0 :: .int x :: ls.tail, st, h)) o_M_commit rfl rfl (fun _ => rfl)
theorem k_M_commit_33 : am_W m_M_commit 33 (v0 :: .int x :: ls) st h Q ↔ am_W m_M_commit 34 (v0 :: .int x :: ls) (.int x :: st) h Q := am_go (q := (34, v0 :: .int x :: ls, .int x :: st, h)) o_M_commit rfl rfl (fun _ => rfl)
theorem k_M_commit_34 : am_W m_M_commit 34 ls (.int x :: st) h Q ↔ (x < 0 → am_W m_M_commit 41 ls st h Q) ∧ (¬ x < 0 → am_W m_M_commit 37 ls st h Q) := (am_go (q := (if x < 0 then 41 else 37, ls, st, h)) o_M_commit rfl rfl (fun _ => rfl)).trans am_ite
theorem k_M_commit_37 : am_W m_M_commit 37 ls st h Q ↔ am_W m_M_commit 38 ls (.int 1 :: st) h Q := am_go (q := (38, ls, .int 1 :: st, h)) o_M_commit rfl rfl (fun _ => rfl)
theorem k_M_commit_38 : am_W m_M_commit 38 (v0 :: .int x :: ls) st h Q ↔ am_W m_M_commit 39 (v0 :: .int x :: ls) (.int x :: st) h Q := am_go (q := (39, v0 :: .int x :: ls, .int x :: st, h)) o_M_commit rfl rfl (fun _ => rfl)
theorem k_M_commit_39 : am_W m_M_commit 39 ls (.int y :: .int x :: st) h Q ↔ am_W m_M_commit 40 ls (.int (x + y) :: st) h Q := am_go (q := (40, ls, .int (x + y) :: st, h)) o_M_commit rfl rfl (fun _ => rfl)
theorem k_M_commit_40 : am_W m_M_commit 40 ls [.int x] h Q ↔ Q (some (.int x)) h := am_iret rfl rfl
theorem k_M_commit_41 : am_W m_M_commit 41 (.ref a :: ls) st h Q ↔ am_W m_M_commit 42 (.ref a :: ls) (.ref a :: st) h Q := am_go (q := (42, .ref a :: ls, .ref a :: st, h)) o_M_commit rfl rfl (fun _ => rfl)
theorem k_M_commit_42 : am_W m_M_commit 42 ls (.ref a :: st) h Q ↔ am_ob (am_gf h a 10 13) (fun v => am_W m_M_commit 45 ls (v :: st) h Q) := am_getf o_M_commit rfl rfl
theorem k_M_commit_45 : am_W m_M_commit 45 ls st h Q ↔ am_W m_M_commit 46 ls (.int 4 :: st) h Q := am_go (q := (46, ls, .int 4 :: st, h)) o_M_commit rfl rfl (fun _ => rfl)
theorem k_M_commit_46 : am_W m_M_commit 46 (.ref a :: ls) st h Q ↔ am_W m_M_commit 47 (.ref a :: ls) (.ref a :: st) h Q := am_go (q := (47, .ref a :: ls, .ref a :: st, h)) o_M_commit rfl rfl (fun _ => rfl)
theorem k_M_commit_47 : am_W m_M_commit 47 ls (v0 :: st) h Q ↔ (st.length ≤ 8 ∧ am_rc h [v0] (some 10) = true) ∧ am_C f_M_restrictedBy [v0] h (fun r h' => am_W m_M_commit 50 ls (r.toList ++ st) h' Q) := am_ca o_M_commit rfl (Or.inl rfl) rfl [v0] st rfl
theorem k_M_commit_50 : am_W m_M_commit 50 ls (.int z :: .int x :: .ref a :: st) h Q ↔ am_ob (am_sd h 0 a x z) (fun h' => am_W m_M_commit 51 ls st h' Q) := am_iast o_M_commit rfl
theorem k_M_commit_51 : am_W m_M_commit 51 (.ref a :: ls) st h Q ↔ am_W m_M_commit 52 (.ref a :: ls) (.ref a :: st) h Q := am_go (q := (52, .ref a :: ls, .ref a :: st, h)) o_M_commit rfl rfl (fun _ => rfl)
theorem k_M_commit_52 : am_W m_M_commit 52 ls st h Q ↔ am_W m_M_commit 53 ls (.int 4 :: st) h Q := am_go (q := (53, ls, .int 4 :: st, h)) o_M_commit rfl rfl (fun _ => rfl)
theorem k_M_commit_53 : am_W m_M_commit 53 (.ref a :: ls) st h Q ↔ am_W m_M_commit 54 (.ref a :: ls) (.ref a :: st) h Q := am_go (q := (54, .ref a :: ls, .ref a :: st, h)) o_M_commit rfl rfl (fun _ => rfl)
theorem k_M_commit_54 : am_W m_M_commit 54 ls (.ref a :: st) h Q ↔ am_ob (am_gf h a 10 14) (fun v => am_W m_M_commit 57 ls (v :: st) h Q) := am_getf o_M_commit rfl rfl
theorem k_M_commit_57 : am_W m_M_commit 57 ls st h Q ↔ am_W m_M_commit 58 ls (.int 1 :: st) h Q := am_go (q := (58, ls, .int 1 :: st, h)) o_M_commit rfl rfl (fun _ => rfl)
theorem k_M_commit_58 : am_W m_M_commit 58 ls (.int y :: .int x :: st) h Q ↔ am_W m_M_commit 59 ls (.int (x + y) :: st) h Q := am_go (q := (59, ls, .int (x + y) :: st, h)) o_M_commit rfl rfl (fun _ => rfl)
theorem k_M_commit_59 : am_W m_M_commit 59 ls (v2 :: v1 :: v0 :: st) h Q ↔ (st.length ≤ 8 ∧ am_rc h [v0, v1, v2] (some 10) = true) ∧ am_C f_M_copy [v0, v1, v2] h (fun r h' => am_W m_M_commit 62 ls (r.toList ++ st) h' Q) := am_ca o_M_commit rfl (Or.inl rfl) rfl [v0, v1, v2] st rfl
theorem k_M_commit_62 : am_W m_M_commit 62 (.ref a :: ls) st h Q ↔ am_W m_M_commit 63 (.ref a :: ls) (.ref a :: st) h Q := am_go (q := (63, .ref a :: ls, .ref a :: st, h)) o_M_commit rfl rfl (fun _ => rfl)
theorem k_M_commit_63 : am_W m_M_commit 63 ls (.ref a :: st) h Q ↔ am_W m_M_commit 64 ls (.ref a :: .ref a :: st) h Q := am_go (q := (64, ls, .ref a :: .ref a :: st, h)) o_M_commit rfl rfl (fun _ => rfl)
theorem k_M_commit_63i : am_W m_M_commit 63 ls (.int x :: st) h Q ↔ am_W m_M_commit 64 ls (.int x :: .int x :: st) h Q := am_go (q := (64, ls, .int x :: .int x :: st, h)) o_M_commit rfl rfl (fun _ => rfl)
theorem k_M_commit_64 : am_W m_M_commit 64 ls (.ref a :: st) h Q ↔ am_ob (am_gf h a 10 14) (fun v => am_W m_M_commit 67 ls (v :: st) h Q) := am_getf o_M_commit rfl rfl
theorem k_M_commit_67 : am_W m_M_commit 67 ls st h Q ↔ am_W m_M_commit 68 ls (.int 1 :: st) h Q := am_go (q := (68, ls, .int 1 :: st, h)) o_M_commit rfl rfl (fun _ => rfl)
theorem k_M_commit_68 : am_W m_M_commit 68 ls (.int y :: .int x :: st) h Q ↔ am_W m_M_commit 69 ls (.int (x + y) :: st) h Q := am_go (q := (69, ls, .int (x + y) :: st, h)) o_M_commit rfl rfl (fun _ => rfl)
theorem k_M_commit_69 : am_W m_M_commit 69 ls (v0 :: .ref a :: st) h Q ↔ am_ob (am_pf h a 10 14 0 v0) (fun h' => am_W m_M_commit 72 ls st h' Q) := am_putf o_M_commit rfl rfl
theorem k_M_commit_72 : am_W m_M_commit 72 (.ref a :: ls) st h Q ↔ am_W m_M_commit 73 (.ref a :: ls) (.ref a :: st) h Q := am_go (q := (73, .ref a :: ls, .ref a :: st, h)) o_M_commit rfl rfl (fun _ => rfl)
theorem k_M_commit_73 : am_W m_M_commit 73 ls (v0 :: st) h Q ↔ (st.length ≤ 8 ∧ am_rc h [v0] (some 10) = true) ∧ am_C f_M_renew [v0] h (fun r h' => am_W m_M_commit 76 ls (r.toList ++ st) h' Q) := am_ca o_M_commit rfl (Or.inl rfl) rfl [v0] st rfl
theorem k_M_commit_76 : am_W m_M_commit 76 (.ref a :: ls) st h Q ↔ am_W m_M_commit 77 (.ref a :: ls) (.ref a :: st) h Q := am_go (q := (77, .ref a :: ls, .ref a :: st, h)) o_M_commit rfl rfl (fun _ => rfl)
theorem k_M_commit_77 : am_W m_M_commit 77 ls (v0 :: st) h Q ↔ (st.length ≤ 8 ∧ am_rc h [v0] (some 10) = true) ∧ am_C f_M_settle [v0] h (fun r h' => am_W m_M_commit 80 ls (r.toList ++ st) h' Q) := am_ca o_M_commit rfl (Or.inl rfl) rfl [v0] st rfl
theorem k_M_commit_80 : am_W m_M_commit 80 ls st h Q ↔ am_W m_M_commit 81 ls (.int 0 :: st) h Q := am_go (q := (81, ls, .int 0 :: st, h)) o_M_commit rfl rfl (fun _ => rfl)
theorem k_M_commit_81 : am_W m_M_commit 81 ls [.int x] h Q ↔ Q (some (.int x)) h := am_iret rfl rfl
theorem k_M_waiting_0 : am_W m_M_waiting 0 (.ref a :: ls) st h Q ↔ am_W m_M_waiting 1 (.ref a :: ls) (.ref a :: st) h Q := am_go (q := (1, .ref a :: ls, .ref a :: st, h)) o_M_waiting rfl rfl (fun _ => rfl)
theorem k_M_waiting_1 : am_W m_M_waiting 1 ls (.ref a :: st) h Q ↔ am_ob (am_gf h a 10 14) (fun v => am_W m_M_waiting 4 ls (v :: st) h Q) := am_getf o_M_waiting rfl rfl
theorem k_M_waiting_4 : am_W m_M_waiting 4 ls [.int x] h Q ↔ Q (some (.int x)) h := am_iret rfl rfl
theorem k_M_restricted_0 : am_W m_M_restricted 0 (.ref a :: ls) st h Q ↔ am_W m_M_restricted 1 (.ref a :: ls) (.ref a :: st) h Q := am_go (q := (1, .ref a :: ls, .ref a :: st, h)) o_M_restricted rfl rfl (fun _ => rfl)
theorem k_M_restricted_1 : am_W m_M_restricted 1 ls (.ref a :: st) h Q ↔ am_ob (am_gf h a 10 14) (fun v => am_W m_M_restricted 4 ls (v :: st) h Q) := am_getf o_M_restricted rfl rfl
theorem k_M_restricted_4 : am_W m_M_restricted 4 ls (.int x :: st) h Q ↔ (x ≤ 0 → am_W m_M_restricted 16 ls st h Q) ∧ (¬ x ≤ 0 → am_W m_M_restricted 7 ls st h Q) := (am_go (q := (if x ≤ 0 then 16 else 7, ls, st, h)) o_M_restricted rfl rfl (fun _ => rfl)).trans am_ite
theorem k_M_restricted_7 : am_W m_M_restricted 7 (.ref a :: ls) st h Q ↔ am_W m_M_restricted 8 (.ref a :: ls) (.ref a :: st) h Q := am_go (q := (8, .ref a :: ls, .ref a :: st, h)) o_M_restricted rfl rfl (fun _ => rfl)
theorem k_M_restricted_8 : am_W m_M_restricted 8 ls (.ref a :: st) h Q ↔ am_ob (am_gf h a 10 13) (fun v => am_W m_M_restricted 11 ls (v :: st) h Q) := am_getf o_M_restricted rfl rfl
theorem k_M_restricted_11 : am_W m_M_restricted 11 ls st h Q ↔ am_W m_M_restricted 12 ls (.int 1 :: st) h Q := am_go (q := (12, ls, .int 1 :: st, h)) o_M_restricted rfl rfl (fun _ => rfl)
theorem k_M_restricted_12 : am_W m_M_restricted 12 ls (.int x :: .ref a :: st) h Q ↔ am_ob (am_ld h 0 a x) (fun v => am_W m_M_restricted 13 ls (.int v :: st) h Q) := am_iald o_M_restricted rfl
theorem k_M_restricted_13 : am_W m_M_restricted 13 ls st h Q ↔ am_W m_M_restricted 17 ls st h Q := am_go (q := (17, ls, st, h)) o_M_restricted rfl rfl (fun _ => rfl)
theorem k_M_restricted_16 : am_W m_M_restricted 16 ls st h Q ↔ am_W m_M_restricted 17 ls (.int 0 :: st) h Q := am_go (q := (17, ls, .int 0 :: st, h)) o_M_restricted rfl rfl (fun _ => rfl)
theorem k_M_restricted_17 : am_W m_M_restricted 17 ls [.int x] h Q ↔ Q (some (.int x)) h := am_iret rfl rfl
theorem k_M_applied_0 : am_W m_M_applied 0 (.ref a :: ls) st h Q ↔ am_W m_M_applied 1 (.ref a :: ls) (.ref a :: st) h Q := am_go (q := (1, .ref a :: ls, .ref a :: st, h)) o_M_applied rfl rfl (fun _ => rfl)
theorem k_M_applied_1 : am_W m_M_applied 1 ls (.ref a :: st) h Q ↔ am_ob (am_gf h a 10 15) (fun v => am_W m_M_applied 4 ls (v :: st) h Q) := am_getf o_M_applied rfl rfl
theorem k_M_applied_4 : am_W m_M_applied 4 ls [.int x] h Q ↔ Q (some (.int x)) h := am_iret rfl rfl
theorem k_M_moved_0 : am_W m_M_moved 0 (.ref a :: ls) st h Q ↔ am_W m_M_moved 1 (.ref a :: ls) (.ref a :: st) h Q := am_go (q := (1, .ref a :: ls, .ref a :: st, h)) o_M_moved rfl rfl (fun _ => rfl)
theorem k_M_moved_1 : am_W m_M_moved 1 ls (.ref a :: st) h Q ↔ am_ob (am_gf h a 10 16) (fun v => am_W m_M_moved 4 ls (v :: st) h Q) := am_getf o_M_moved rfl rfl
theorem k_M_moved_4 : am_W m_M_moved 4 ls [.int x] h Q ↔ Q (some (.int x)) h := am_iret rfl rfl
theorem k_M_objects_0 : am_W m_M_objects 0 ls st h Q ↔ am_W m_M_objects 1 ls (.int 0 :: st) h Q := am_go (q := (1, ls, .int 0 :: st, h)) o_M_objects rfl rfl (fun _ => rfl)
theorem k_M_objects_1 : am_W m_M_objects 1 (v0 :: ls) (.int x :: st) h Q ↔ am_W m_M_objects 2 (v0 :: .int x :: ls.tail) st h Q := am_go (q := (2, v0 :: .int x :: ls.tail, st, h)) o_M_objects rfl rfl (fun _ => rfl)
theorem k_M_objects_2 : am_W m_M_objects 2 ls st h Q ↔ am_W m_M_objects 3 ls (.int 1 :: st) h Q := am_go (q := (3, ls, .int 1 :: st, h)) o_M_objects rfl rfl (fun _ => rfl)
theorem k_M_objects_3 : am_W m_M_objects 3 (v0 :: v1 :: ls) (.int x :: st) h Q ↔ am_W m_M_objects 4 (v0 :: v1 :: .int x :: ls.tail) st h Q := am_go (q := (4, v0 :: v1 :: .int x :: ls.tail, st, h)) o_M_objects rfl rfl (fun _ => rfl)
theorem k_M_objects_4 : am_W m_M_objects 4 (v0 :: v1 :: .int x :: ls) st h Q ↔ am_W m_M_objects 5 (v0 :: v1 :: .int x :: ls) (.int x :: st) h Q := am_go (q := (5, v0 :: v1 :: .int x :: ls, .int x :: st, h)) o_M_objects rfl rfl (fun _ => rfl)
theorem k_M_objects_5 : am_W m_M_objects 5 ls st h Q ↔ am_W m_M_objects 7 ls (.int 16 :: st) h Q := am_go (q := (7, ls, .int 16 :: st, h)) o_M_objects rfl rfl (fun _ => rfl)
theorem k_M_objects_7 : am_W m_M_objects 7 ls (.int y :: .int x :: st) h Q ↔ (y < x → am_W m_M_objects 33 ls st h Q) ∧ (¬ y < x → am_W m_M_objects 10 ls st h Q) := (am_go (q := (if y < x then 33 else 10, ls, st, h)) o_M_objects rfl rfl (fun _ => rfl)).trans am_ite
theorem k_M_objects_10 : am_W m_M_objects 10 (.ref a :: ls) st h Q ↔ am_W m_M_objects 11 (.ref a :: ls) (.ref a :: st) h Q := am_go (q := (11, .ref a :: ls, .ref a :: st, h)) o_M_objects rfl rfl (fun _ => rfl)
theorem k_M_objects_11 : am_W m_M_objects 11 ls (.ref a :: st) h Q ↔ am_ob (am_gf h a 10 28) (fun v => am_W m_M_objects 14 ls (v :: st) h Q) := am_getf o_M_objects rfl rfl
theorem k_M_objects_14 : am_W m_M_objects 14 (v0 :: v1 :: .int x :: ls) st h Q ↔ am_W m_M_objects 15 (v0 :: v1 :: .int x :: ls) (.int x :: st) h Q := am_go (q := (15, v0 :: v1 :: .int x :: ls, .int x :: st, h)) o_M_objects rfl rfl (fun _ => rfl)
theorem k_M_objects_15 : am_W m_M_objects 15 ls (.int x :: .ref a :: st) h Q ↔ am_ob (am_ld h 0 a x) (fun v => am_W m_M_objects 16 ls (.int v :: st) h Q) := am_iald o_M_objects rfl
theorem k_M_objects_16 : am_W m_M_objects 16 ls (.int x :: st) h Q ↔ (x ≤ 0 → am_W m_M_objects 25 ls st h Q) ∧ (¬ x ≤ 0 → am_W m_M_objects 19 ls st h Q) := (am_go (q := (if x ≤ 0 then 25 else 19, ls, st, h)) o_M_objects rfl rfl (fun _ => rfl)).trans am_ite
theorem k_M_objects_19 : am_W m_M_objects 19 (v0 :: .int x :: ls) st h Q ↔ am_W m_M_objects 20 (v0 :: .int x :: ls) (.int x :: st) h Q := am_go (q := (20, v0 :: .int x :: ls, .int x :: st, h)) o_M_objects rfl rfl (fun _ => rfl)
theorem k_M_objects_20 : am_W m_M_objects 20 ls st h Q ↔ am_W m_M_objects 21 ls (.int 1 :: st) h Q := am_go (q := (21, ls, .int 1 :: st, h)) o_M_objects rfl rfl (fun _ => rfl)
theorem k_M_objects_21 : am_W m_M_objects 21 ls (.int y :: .int x :: st) h Q ↔ am_W m_M_objects 22 ls (.int (x + y) :: st) h Q := am_go (q := (22, ls, .int (x + y) :: st, h)) o_M_objects rfl rfl (fun _ => rfl)
theorem k_M_objects_22 : am_W m_M_objects 22 ls st h Q ↔ am_W m_M_objects 26 ls st h Q := am_go (q := (26, ls, st, h)) o_M_objects rfl rfl (fun _ => rfl)
theorem k_M_objects_25 : am_W m_M_objects 25 (v0 :: .int x :: ls) st h Q ↔ am_W m_M_objects 26 (v0 :: .int x :: ls) (.int x :: st) h Q := am_go (q := (26, v0 :: .int x :: ls, .int x :: st, h)) o_M_objects rfl rfl (fun _ => rfl)
theorem k_M_objects_26 : am_W m_M_objects 26 (v0 :: ls) (.int x :: st) h Q ↔ am_W m_M_objects 27 (v0 :: .int x :: ls.tail) st h Q := am_go (q := (27, v0 :: .int x :: ls.tail, st, h)) o_M_objects rfl rfl (fun _ => rfl)
theorem k_M_objects_27 : am_W m_M_objects 27 (v0 :: v1 :: .int x :: ls) st h Q ↔ am_W m_M_objects 30 (v0 :: v1 :: .int (x + 1) :: ls) st h Q := am_go (q := (30, v0 :: v1 :: .int (x + 1) :: ls, st, h)) o_M_objects rfl rfl (fun _ => rfl)
theorem k_M_objects_30 : am_W m_M_objects 30 ls st h Q ↔ am_W m_M_objects 4 ls st h Q := am_go (q := (4, ls, st, h)) o_M_objects rfl rfl (fun _ => rfl)
theorem k_M_objects_33 : am_W m_M_objects 33 (v0 :: .int x :: ls) st h Q ↔ am_W m_M_objects 34 (v0 :: .int x :: ls) (.int x :: st) h Q := am_go (q := (34, v0 :: .int x :: ls, .int x :: st, h)) o_M_objects rfl rfl (fun _ => rfl)
theorem k_M_objects_34 : am_W m_M_objects 34 ls [.int x] h Q ↔ Q (some (.int x)) h := am_iret rfl rfl
theorem k_M_begin_0 : am_W m_M_begin 0 (.ref a :: ls) st h Q ↔ am_W m_M_begin 1 (.ref a :: ls) (.ref a :: st) h Q := am_go (q := (1, .ref a :: ls, .ref a :: st, h)) o_M_begin rfl rfl (fun _ => rfl)
theorem k_M_begin_1 : am_W m_M_begin 1 ls (.ref a :: st) h Q ↔ am_ob (am_gf h a 10 21) (fun v => am_W m_M_begin 4 ls (v :: st) h Q) := am_getf o_M_begin rfl rfl
theorem k_M_begin_4 : am_W m_M_begin 4 (v0 :: v1 :: v2 :: ls) (.int x :: st) h Q ↔ am_W m_M_begin 5 (v0 :: v1 :: v2 :: .int x :: ls.tail) st h Q := am_go (q := (5, v0 :: v1 :: v2 :: .int x :: ls.tail, st, h)) o_M_begin rfl rfl (fun _ => rfl)
theorem k_M_begin_5 : am_W m_M_begin 5 (.ref a :: ls) st h Q ↔ am_W m_M_begin 6 (.ref a :: ls) (.ref a :: st) h Q := am_go (q := (6, .ref a :: ls, .ref a :: st, h)) o_M_begin rfl rfl (fun _ => rfl)
theorem k_M_begin_6 : am_W m_M_begin 6 ls (.ref a :: st) h Q ↔ am_W m_M_begin 7 ls (.ref a :: .ref a :: st) h Q := am_go (q := (7, ls, .ref a :: .ref a :: st, h)) o_M_begin rfl rfl (fun _ => rfl)
theorem k_M_begin_6i : am_W m_M_begin 6 ls (.int x :: st) h Q ↔ am_W m_M_begin 7 ls (.int x :: .int x :: st) h Q := am_go (q := (7, ls, .int x :: .int x :: st, h)) o_M_begin rfl rfl (fun _ => rfl)
theorem k_M_begin_7 : am_W m_M_begin 7 ls (.ref a :: st) h Q ↔ am_ob (am_gf h a 10 21) (fun v => am_W m_M_begin 10 ls (v :: st) h Q) := am_getf o_M_begin rfl rfl
theorem k_M_begin_10 : am_W m_M_begin 10 ls st h Q ↔ am_W m_M_begin 11 ls (.int 1 :: st) h Q := am_go (q := (11, ls, .int 1 :: st, h)) o_M_begin rfl rfl (fun _ => rfl)
theorem k_M_begin_11 : am_W m_M_begin 11 ls (.int y :: .int x :: st) h Q ↔ am_W m_M_begin 12 ls (.int (x + y) :: st) h Q := am_go (q := (12, ls, .int (x + y) :: st, h)) o_M_begin rfl rfl (fun _ => rfl)
theorem k_M_begin_12 : am_W m_M_begin 12 ls (v0 :: .ref a :: st) h Q ↔ am_ob (am_pf h a 10 21 0 v0) (fun h' => am_W m_M_begin 15 ls st h' Q) := am_putf o_M_begin rfl rfl
theorem k_M_begin_15 : am_W m_M_begin 15 (.ref a :: ls) st h Q ↔ am_W m_M_begin 16 (.ref a :: ls) (.ref a :: st) h Q := am_go (q := (16, .ref a :: ls, .ref a :: st, h)) o_M_begin rfl rfl (fun _ => rfl)
theorem k_M_begin_16 : am_W m_M_begin 16 ls (.ref a :: st) h Q ↔ am_ob (am_gf h a 10 22) (fun v => am_W m_M_begin 19 ls (v :: st) h Q) := am_getf o_M_begin rfl rfl
theorem k_M_begin_19 : am_W m_M_begin 19 (v0 :: v1 :: v2 :: .int x :: ls) st h Q ↔ am_W m_M_begin 20 (v0 :: v1 :: v2 :: .int x :: ls) (.int x :: st) h Q := am_go (q := (20, v0 :: v1 :: v2 :: .int x :: ls, .int x :: st, h)) o_M_begin rfl rfl (fun _ => rfl)
theorem k_M_begin_20 : am_W m_M_begin 20 (v0 :: .int x :: ls) st h Q ↔ am_W m_M_begin 21 (v0 :: .int x :: ls) (.int x :: st) h Q := am_go (q := (21, v0 :: .int x :: ls, .int x :: st, h)) o_M_begin rfl rfl (fun _ => rfl)
theorem k_M_begin_21 : am_W m_M_begin 21 ls (.int z :: .int x :: .ref a :: st) h Q ↔ am_ob (am_sd h 0 a x z) (fun h' => am_W m_M_begin 22 ls st h' Q) := am_iast o_M_begin rfl
theorem k_M_begin_22 : am_W m_M_begin 22 (.ref a :: ls) st h Q ↔ am_W m_M_begin 23 (.ref a :: ls) (.ref a :: st) h Q := am_go (q := (23, .ref a :: ls, .ref a :: st, h)) o_M_begin rfl rfl (fun _ => rfl)
theorem k_M_begin_23 : am_W m_M_begin 23 ls (.ref a :: st) h Q ↔ am_ob (am_gf h a 10 23) (fun v => am_W m_M_begin 26 ls (v :: st) h Q) := am_getf o_M_begin rfl rfl
theorem k_M_begin_26 : am_W m_M_begin 26 (v0 :: v1 :: v2 :: .int x :: ls) st h Q ↔ am_W m_M_begin 27 (v0 :: v1 :: v2 :: .int x :: ls) (.int x :: st) h Q := am_go (q := (27, v0 :: v1 :: v2 :: .int x :: ls, .int x :: st, h)) o_M_begin rfl rfl (fun _ => rfl)
theorem k_M_begin_27 : am_W m_M_begin 27 ls st h Q ↔ am_W m_M_begin 28 ls (.int 0 :: st) h Q := am_go (q := (28, ls, .int 0 :: st, h)) o_M_begin rfl rfl (fun _ => rfl)
theorem k_M_begin_28 : am_W m_M_begin 28 ls (.int z :: .int x :: .ref a :: st) h Q ↔ am_ob (am_sd h 0 a x z) (fun h' => am_W m_M_begin 29 ls st h' Q) := am_iast o_M_begin rfl
theorem k_M_begin_29 : am_W m_M_begin 29 (.ref a :: ls) st h Q ↔ am_W m_M_begin 30 (.ref a :: ls) (.ref a :: st) h Q := am_go (q := (30, .ref a :: ls, .ref a :: st, h)) o_M_begin rfl rfl (fun _ => rfl)
theorem k_M_begin_30 : am_W m_M_begin 30 ls (.ref a :: st) h Q ↔ am_ob (am_gf h a 10 27) (fun v => am_W m_M_begin 33 ls (v :: st) h Q) := am_getf o_M_begin rfl rfl
theorem k_M_begin_33 : am_W m_M_begin 33 (v0 :: v1 :: v2 :: .int x :: ls) st h Q ↔ am_W m_M_begin 34 (v0 :: v1 :: v2 :: .int x :: ls) (.int x :: st) h Q := am_go (q := (34, v0 :: v1 :: v2 :: .int x :: ls, .int x :: st, h)) o_M_begin rfl rfl (fun _ => rfl)
theorem k_M_begin_34 : am_W m_M_begin 34 ls st h Q ↔ am_W m_M_begin 35 ls (.int 0 :: st) h Q := am_go (q := (35, ls, .int 0 :: st, h)) o_M_begin rfl rfl (fun _ => rfl)
theorem k_M_begin_35 : am_W m_M_begin 35 ls (.int z :: .int x :: .ref a :: st) h Q ↔ am_ob (am_sd h 0 a x z) (fun h' => am_W m_M_begin 36 ls st h' Q) := am_iast o_M_begin rfl
theorem k_M_begin_36 : am_W m_M_begin 36 (v0 :: v1 :: .int x :: ls) st h Q ↔ am_W m_M_begin 37 (v0 :: v1 :: .int x :: ls) (.int x :: st) h Q := am_go (q := (37, v0 :: v1 :: .int x :: ls, .int x :: st, h)) o_M_begin rfl rfl (fun _ => rfl)
theorem k_M_begin_37 : am_W m_M_begin 37 (v0 :: v1 :: v2 :: v3 :: ls) (.int x :: st) h Q ↔ am_W m_M_begin 39 (v0 :: v1 :: v2 :: v3 :: .int x :: ls.tail) st h Q := am_go (q := (39, v0 :: v1 :: v2 :: v3 :: .int x :: ls.tail, st, h)) o_M_begin rfl rfl (fun _ => rfl)
theorem k_M_begin_39 : am_W m_M_begin 39 (v0 :: v1 :: v2 :: v3 :: .int x :: ls) st h Q ↔ am_W m_M_begin 41 (v0 :: v1 :: v2 :: v3 :: .int x :: ls) (.int x :: st) h Q := am_go (q := (41, v0 :: v1 :: v2 :: v3 :: .int x :: ls, .int x :: st, h)) o_M_begin rfl rfl (fun _ => rfl)
theorem k_M_begin_41 : am_W m_M_begin 41 ls st h Q ↔ am_W m_M_begin 42 ls (.int 4 :: st) h Q := am_go (q := (42, ls, .int 4 :: st, h)) o_M_begin rfl rfl (fun _ => rfl)
theorem k_M_begin_42 : am_W m_M_begin 42 ls (.int y :: .int x :: st) h Q ↔ (y ≤ x → am_W m_M_begin 63 ls st h Q) ∧ (¬ y ≤ x → am_W m_M_begin 45 ls st h Q) := (am_go (q := (if y ≤ x then 63 else 45, ls, st, h)) o_M_begin rfl rfl (fun _ => rfl)).trans am_ite
theorem k_M_begin_45 : am_W m_M_begin 45 (.ref a :: ls) st h Q ↔ am_W m_M_begin 46 (.ref a :: ls) (.ref a :: st) h Q := am_go (q := (46, .ref a :: ls, .ref a :: st, h)) o_M_begin rfl rfl (fun _ => rfl)
theorem k_M_begin_46 : am_W m_M_begin 46 ls (.ref a :: st) h Q ↔ am_ob (am_gf h a 10 24) (fun v => am_W m_M_begin 49 ls (v :: st) h Q) := am_getf o_M_begin rfl rfl
theorem k_M_begin_49 : am_W m_M_begin 49 ls st h Q ↔ am_W m_M_begin 50 ls (.int 4 :: st) h Q := am_go (q := (50, ls, .int 4 :: st, h)) o_M_begin rfl rfl (fun _ => rfl)
theorem k_M_begin_50 : am_W m_M_begin 50 (v0 :: v1 :: v2 :: .int x :: ls) st h Q ↔ am_W m_M_begin 51 (v0 :: v1 :: v2 :: .int x :: ls) (.int x :: st) h Q := am_go (q := (51, v0 :: v1 :: v2 :: .int x :: ls, .int x :: st, h)) o_M_begin rfl rfl (fun _ => rfl)
theorem k_M_begin_51 : am_W m_M_begin 51 ls (.int y :: .int x :: st) h Q ↔ am_W m_M_begin 52 ls (.int (x * y) :: st) h Q := am_go (q := (52, ls, .int (x * y) :: st, h)) o_M_begin rfl rfl (fun _ => rfl)
theorem k_M_begin_52 : am_W m_M_begin 52 (v0 :: v1 :: v2 :: v3 :: .int x :: ls) st h Q ↔ am_W m_M_begin 54 (v0 :: v1 :: v2 :: v3 :: .int x :: ls) (.int x :: st) h Q := am_go (q := (54, v0 :: v1 :: v2 :: v3 :: .int x :: ls, .int x :: st, h)) o_M_begin rfl rfl (fun _ => rfl)
theorem k_M_begin_54 : am_W m_M_begin 54 ls (.int y :: .int x :: st) h Q ↔ am_W m_M_begin 55 ls (.int (x + y) :: st) h Q := am_go (q := (55, ls, .int (x + y) :: st, h)) o_M_begin rfl rfl (fun _ => rfl)
theorem k_M_begin_55 : am_W m_M_begin 55 ls st h Q ↔ am_W m_M_begin 56 ls (.int 0 :: st) h Q := am_go (q := (56, ls, .int 0 :: st, h)) o_M_begin rfl rfl (fun _ => rfl)
theorem k_M_begin_56 : am_W m_M_begin 56 ls (.int z :: .int x :: .ref a :: st) h Q ↔ am_ob (am_sd h 0 a x z) (fun h' => am_W m_M_begin 57 ls st h' Q) := am_iast o_M_begin rfl
theorem k_M_begin_57 : am_W m_M_begin 57 (v0 :: v1 :: v2 :: v3 :: .int x :: ls) st h Q ↔ am_W m_M_begin 60 (v0 :: v1 :: v2 :: v3 :: .int (x + 1) :: ls) st h Q := am_go (q := (60, v0 :: v1 :: v2 :: v3 :: .int (x + 1) :: ls, st, h)) o_M_begin rfl rfl (fun _ => rfl)
theorem k_M_begin_60 : am_W m_M_begin 60 ls st h Q ↔ am_W m_M_begin 39 ls st h Q := am_go (q := (39, ls, st, h)) o_M_begin rfl rfl (fun _ => rfl)
theorem k_M_begin_63 : am_W m_M_begin 63 ls [] h Q ↔ Q none h := am_vret rfl rfl
theorem k_M_start_0 : am_W m_M_start 0 (.ref a :: ls) st h Q ↔ am_W m_M_start 1 (.ref a :: ls) (.ref a :: st) h Q := am_go (q := (1, .ref a :: ls, .ref a :: st, h)) o_M_start rfl rfl (fun _ => rfl)
theorem k_M_start_1 : am_W m_M_start 1 ls (.ref a :: st) h Q ↔ am_ob (am_gf h a 10 19) (fun v => am_W m_M_start 4 ls (v :: st) h Q) := am_getf o_M_start rfl rfl
theorem k_M_start_4 : am_W m_M_start 4 ls st h Q ↔ am_W m_M_start 5 ls (.int 1 :: st) h Q := am_go (q := (5, ls, .int 1 :: st, h)) o_M_start rfl rfl (fun _ => rfl)
theorem k_M_start_5 : am_W m_M_start 5 ls (.int y :: .int x :: st) h Q ↔ (x = y → am_W m_M_start 44 ls st h Q) ∧ (¬ x = y → am_W m_M_start 8 ls st h Q) := (am_go (q := (if x = y then 44 else 8, ls, st, h)) o_M_start rfl rfl (fun _ => rfl)).trans am_ite
theorem k_M_start_8 : am_W m_M_start 8 (v0 :: .int x :: ls) st h Q ↔ am_W m_M_start 9 (v0 :: .int x :: ls) (.int x :: st) h Q := am_go (q := (9, v0 :: .int x :: ls, .int x :: st, h)) o_M_start rfl rfl (fun _ => rfl)
theorem k_M_start_9 : am_W m_M_start 9 ls st h Q ↔ am_W m_M_start 10 ls (.int 0 :: st) h Q := am_go (q := (10, ls, .int 0 :: st, h)) o_M_start rfl rfl (fun _ => rfl)
theorem k_M_start_10 : am_W m_M_start 10 ls st h Q ↔ am_W m_M_start 11 ls (.int 5 :: st) h Q := am_go (q := (11, ls, .int 5 :: st, h)) o_M_start rfl rfl (fun _ => rfl)
theorem k_M_start_11 : am_W m_M_start 11 ls (v2 :: v1 :: v0 :: st) h Q ↔ (st.length ≤ 8 ∧ am_rc h [v0, v1, v2] none = true) ∧ am_C f_M_in [v0, v1, v2] h (fun r h' => am_W m_M_start 14 ls (r.toList ++ st) h' Q) := am_ca o_M_start rfl (Or.inr (Or.inr rfl)) rfl [v0, v1, v2] st rfl
theorem k_M_start_14 : am_W m_M_start 14 ls (.int x :: st) h Q ↔ (x = 0 → am_W m_M_start 44 ls st h Q) ∧ (¬ x = 0 → am_W m_M_start 17 ls st h Q) := (am_go (q := (if x = 0 then 44 else 17, ls, st, h)) o_M_start rfl rfl (fun _ => rfl)).trans am_ite
theorem k_M_start_17 : am_W m_M_start 17 (.ref a :: ls) st h Q ↔ am_W m_M_start 18 (.ref a :: ls) (.ref a :: st) h Q := am_go (q := (18, .ref a :: ls, .ref a :: st, h)) o_M_start rfl rfl (fun _ => rfl)
theorem k_M_start_18 : am_W m_M_start 18 ls (.ref a :: st) h Q ↔ am_ob (am_gf h a 10 7) (fun v => am_W m_M_start 21 ls (v :: st) h Q) := am_getf o_M_start rfl rfl
theorem k_M_start_21 : am_W m_M_start 21 (v0 :: .int x :: ls) st h Q ↔ am_W m_M_start 22 (v0 :: .int x :: ls) (.int x :: st) h Q := am_go (q := (22, v0 :: .int x :: ls, .int x :: st, h)) o_M_start rfl rfl (fun _ => rfl)
theorem k_M_start_22 : am_W m_M_start 22 ls (.int x :: .ref a :: st) h Q ↔ am_ob (am_ld h 0 a x) (fun v => am_W m_M_start 23 ls (.int v :: st) h Q) := am_iald o_M_start rfl
theorem k_M_start_23 : am_W m_M_start 23 ls (.int x :: st) h Q ↔ (x = 0 → am_W m_M_start 44 ls st h Q) ∧ (¬ x = 0 → am_W m_M_start 26 ls st h Q) := (am_go (q := (if x = 0 then 44 else 26, ls, st, h)) o_M_start rfl rfl (fun _ => rfl)).trans am_ite
theorem k_M_start_26 : am_W m_M_start 26 (.ref a :: ls) st h Q ↔ am_W m_M_start 27 (.ref a :: ls) (.ref a :: st) h Q := am_go (q := (27, .ref a :: ls, .ref a :: st, h)) o_M_start rfl rfl (fun _ => rfl)
theorem k_M_start_27 : am_W m_M_start 27 ls (.ref a :: st) h Q ↔ am_ob (am_gf h a 10 4) (fun v => am_W m_M_start 30 ls (v :: st) h Q) := am_getf o_M_start rfl rfl
theorem k_M_start_30 : am_W m_M_start 30 (v0 :: .int x :: ls) st h Q ↔ am_W m_M_start 31 (v0 :: .int x :: ls) (.int x :: st) h Q := am_go (q := (31, v0 :: .int x :: ls, .int x :: st, h)) o_M_start rfl rfl (fun _ => rfl)
theorem k_M_start_31 : am_W m_M_start 31 ls (.int x :: .ref a :: st) h Q ↔ am_ob (am_ld h 0 a x) (fun v => am_W m_M_start 32 ls (.int v :: st) h Q) := am_iald o_M_start rfl
theorem k_M_start_32 : am_W m_M_start 32 ls (.int x :: st) h Q ↔ (0 < x → am_W m_M_start 44 ls st h Q) ∧ (¬ 0 < x → am_W m_M_start 35 ls st h Q) := (am_go (q := (if 0 < x then 44 else 35, ls, st, h)) o_M_start rfl rfl (fun _ => rfl)).trans am_ite
theorem k_M_start_35 : am_W m_M_start 35 (.ref a :: ls) st h Q ↔ am_W m_M_start 36 (.ref a :: ls) (.ref a :: st) h Q := am_go (q := (36, .ref a :: ls, .ref a :: st, h)) o_M_start rfl rfl (fun _ => rfl)
theorem k_M_start_36 : am_W m_M_start 36 ls (.ref a :: st) h Q ↔ am_ob (am_gf h a 10 6) (fun v => am_W m_M_start 39 ls (v :: st) h Q) := am_getf o_M_start rfl rfl
theorem k_M_start_39 : am_W m_M_start 39 (v0 :: .int x :: ls) st h Q ↔ am_W m_M_start 40 (v0 :: .int x :: ls) (.int x :: st) h Q := am_go (q := (40, v0 :: .int x :: ls, .int x :: st, h)) o_M_start rfl rfl (fun _ => rfl)
theorem k_M_start_40 : am_W m_M_start 40 ls (.int x :: .ref a :: st) h Q ↔ am_ob (am_ld h 0 a x) (fun v => am_W m_M_start 41 ls (.int v :: st) h Q) := am_iald o_M_start rfl
theorem k_M_start_41 : am_W m_M_start 41 ls (.int x :: st) h Q ↔ (x = 0 → am_W m_M_start 46 ls st h Q) ∧ (¬ x = 0 → am_W m_M_start 44 ls st h Q) := (am_go (q := (if x = 0 then 46 else 44, ls, st, h)) o_M_start rfl rfl (fun _ => rfl)).trans am_ite
theorem k_M_start_44 : am_W m_M_start 44 ls st h Q ↔ am_W m_M_start 45 ls (.int 0 :: st) h Q := am_go (q := (45, ls, .int 0 :: st, h)) o_M_start rfl rfl (fun _ => rfl)
theorem k_M_start_45 : am_W m_M_start 45 ls [.int x] h Q ↔ (x = 0 ∨ x = 1) ∧ Q (some (.int x)) h := am_zret rfl rfl
theorem k_M_start_46 : am_W m_M_start 46 (.ref a :: ls) st h Q ↔ am_W m_M_start 47 (.ref a :: ls) (.ref a :: st) h Q := am_go (q := (47, .ref a :: ls, .ref a :: st, h)) o_M_start rfl rfl (fun _ => rfl)
theorem k_M_start_47 : am_W m_M_start 47 ls st h Q ↔ am_W m_M_start 48 ls (.int 1 :: st) h Q := am_go (q := (48, ls, .int 1 :: st, h)) o_M_start rfl rfl (fun _ => rfl)
theorem k_M_start_48 : am_W m_M_start 48 ls (v0 :: .ref a :: st) h Q ↔ am_ob (am_pf h a 10 19 0 v0) (fun h' => am_W m_M_start 51 ls st h' Q) := am_putf o_M_start rfl rfl
theorem k_M_start_51 : am_W m_M_start 51 (.ref a :: ls) st h Q ↔ am_W m_M_start 52 (.ref a :: ls) (.ref a :: st) h Q := am_go (q := (52, .ref a :: ls, .ref a :: st, h)) o_M_start rfl rfl (fun _ => rfl)
theorem k_M_start_52 : am_W m_M_start 52 ls st h Q ↔ am_W m_M_start 53 ls (.int 0 :: st) h Q := am_go (q := (53, ls, .int 0 :: st, h)) o_M_start rfl rfl (fun _ => rfl)
theorem k_M_start_53 : am_W m_M_start 53 ls (v0 :: .ref a :: st) h Q ↔ am_ob (am_pf h a 10 20 0 v0) (fun h' => am_W m_M_start 56 ls st h' Q) := am_putf o_M_start rfl rfl
theorem k_M_start_56 : am_W m_M_start 56 (.ref a :: ls) st h Q ↔ am_W m_M_start 57 (.ref a :: ls) (.ref a :: st) h Q := am_go (q := (57, .ref a :: ls, .ref a :: st, h)) o_M_start rfl rfl (fun _ => rfl)
theorem k_M_start_57 : am_W m_M_start 57 ls st h Q ↔ am_W m_M_start 58 ls (.int 0 :: st) h Q := am_go (q := (58, ls, .int 0 :: st, h)) o_M_start rfl rfl (fun _ => rfl)
theorem k_M_start_58 : am_W m_M_start 58 ls (v0 :: .ref a :: st) h Q ↔ am_ob (am_pf h a 10 21 0 v0) (fun h' => am_W m_M_start 61 ls st h' Q) := am_putf o_M_start rfl rfl
theorem k_M_start_61 : am_W m_M_start 61 (.ref a :: ls) st h Q ↔ am_W m_M_start 62 (.ref a :: ls) (.ref a :: st) h Q := am_go (q := (62, .ref a :: ls, .ref a :: st, h)) o_M_start rfl rfl (fun _ => rfl)
theorem k_M_start_62 : am_W m_M_start 62 (v0 :: .int x :: ls) st h Q ↔ am_W m_M_start 63 (v0 :: .int x :: ls) (.int x :: st) h Q := am_go (q := (63, v0 :: .int x :: ls, .int x :: st, h)) o_M_start rfl rfl (fun _ => rfl)
theorem k_M_start_63 : am_W m_M_start 63 ls st h Q ↔ am_W m_M_start 64 ls (.int 0 :: st) h Q := am_go (q := (64, ls, .int 0 :: st, h)) o_M_start rfl rfl (fun _ => rfl)
theorem k_M_start_64 : am_W m_M_start 64 ls (v2 :: v1 :: v0 :: st) h Q ↔ (st.length ≤ 8 ∧ am_rc h [v0, v1, v2] (some 10) = true) ∧ am_C f_M_begin [v0, v1, v2] h (fun r h' => am_W m_M_start 67 ls (r.toList ++ st) h' Q) := am_ca o_M_start rfl (Or.inl rfl) rfl [v0, v1, v2] st rfl
theorem k_M_start_67 : am_W m_M_start 67 ls st h Q ↔ am_W m_M_start 68 ls (.int 1 :: st) h Q := am_go (q := (68, ls, .int 1 :: st, h)) o_M_start rfl rfl (fun _ => rfl)
theorem k_M_start_68 : am_W m_M_start 68 ls [.int x] h Q ↔ (x = 0 ∨ x = 1) ∧ Q (some (.int x)) h := am_zret rfl rfl
theorem k_M_put_0 : am_W m_M_put 0 (.ref a :: ls) st h Q ↔ am_W m_M_put 1 (.ref a :: ls) (.ref a :: st) h Q := am_go (q := (1, .ref a :: ls, .ref a :: st, h)) o_M_put rfl rfl (fun _ => rfl)
theorem k_M_put_1 : am_W m_M_put 1 ls (.ref a :: st) h Q ↔ am_ob (am_gf h a 10 21) (fun v => am_W m_M_put 4 ls (v :: st) h Q) := am_getf o_M_put rfl rfl
theorem k_M_put_4 : am_W m_M_put 4 ls st h Q ↔ am_W m_M_put 5 ls (.int 1 :: st) h Q := am_go (q := (5, ls, .int 1 :: st, h)) o_M_put rfl rfl (fun _ => rfl)
theorem k_M_put_5 : am_W m_M_put 5 ls (.int y :: .int x :: st) h Q ↔ am_W m_M_put 6 ls (.int (x - y) :: st) h Q := am_go (q := (6, ls, .int (x - y) :: st, h)) o_M_put rfl rfl (fun _ => rfl)
theorem k_M_put_6 : am_W m_M_put 6 (v0 :: v1 :: v2 :: ls) (.int x :: st) h Q ↔ am_W m_M_put 7 (v0 :: v1 :: v2 :: .int x :: ls.tail) st h Q := am_go (q := (7, v0 :: v1 :: v2 :: .int x :: ls.tail, st, h)) o_M_put rfl rfl (fun _ => rfl)
theorem k_M_put_7 : am_W m_M_put 7 (.ref a :: ls) st h Q ↔ am_W m_M_put 8 (.ref a :: ls) (.ref a :: st) h Q := am_go (q := (8, .ref a :: ls, .ref a :: st, h)) o_M_put rfl rfl (fun _ => rfl)
theorem k_M_put_8 : am_W m_M_put 8 ls (.ref a :: st) h Q ↔ am_ob (am_gf h a 10 25) (fun v => am_W m_M_put 11 ls (v :: st) h Q) := am_getf o_M_put rfl rfl
theorem k_M_put_11 : am_W m_M_put 11 ls st h Q ↔ am_W m_M_put 13 ls (.int 6 :: st) h Q := am_go (q := (13, ls, .int 6 :: st, h)) o_M_put rfl rfl (fun _ => rfl)
theorem k_M_put_13 : am_W m_M_put 13 (v0 :: v1 :: v2 :: .int x :: ls) st h Q ↔ am_W m_M_put 14 (v0 :: v1 :: v2 :: .int x :: ls) (.int x :: st) h Q := am_go (q := (14, v0 :: v1 :: v2 :: .int x :: ls, .int x :: st, h)) o_M_put rfl rfl (fun _ => rfl)
theorem k_M_put_14 : am_W m_M_put 14 ls (.int y :: .int x :: st) h Q ↔ am_W m_M_put 15 ls (.int (x * y) :: st) h Q := am_go (q := (15, ls, .int (x * y) :: st, h)) o_M_put rfl rfl (fun _ => rfl)
theorem k_M_put_15 : am_W m_M_put 15 (.ref a :: ls) st h Q ↔ am_W m_M_put 16 (.ref a :: ls) (.ref a :: st) h Q := am_go (q := (16, .ref a :: ls, .ref a :: st, h)) o_M_put rfl rfl (fun _ => rfl)
theorem k_M_put_16 : am_W m_M_put 16 ls (.ref a :: st) h Q ↔ am_ob (am_gf h a 10 27) (fun v => am_W m_M_put 19 ls (v :: st) h Q) := am_getf o_M_put rfl rfl
theorem k_M_put_19 : am_W m_M_put 19 (v0 :: v1 :: v2 :: .int x :: ls) st h Q ↔ am_W m_M_put 20 (v0 :: v1 :: v2 :: .int x :: ls) (.int x :: st) h Q := am_go (q := (20, v0 :: v1 :: v2 :: .int x :: ls, .int x :: st, h)) o_M_put rfl rfl (fun _ => rfl)
theorem k_M_put_20 : am_W m_M_put 20 ls (.int x :: .ref a :: st) h Q ↔ am_ob (am_ld h 0 a x) (fun v => am_W m_M_put 21 ls (.int v :: st) h Q) := am_iald o_M_put rfl
theorem k_M_put_21 : am_W m_M_put 21 ls (.int y :: .int x :: st) h Q ↔ am_W m_M_put 22 ls (.int (x + y) :: st) h Q := am_go (q := (22, ls, .int (x + y) :: st, h)) o_M_put rfl rfl (fun _ => rfl)
theorem k_M_put_22 : am_W m_M_put 22 (v0 :: .int x :: ls) st h Q ↔ am_W m_M_put 23 (v0 :: .int x :: ls) (.int x :: st) h Q := am_go (q := (23, v0 :: .int x :: ls, .int x :: st, h)) o_M_put rfl rfl (fun _ => rfl)
theorem k_M_put_23 : am_W m_M_put 23 ls (.int z :: .int x :: .ref a :: st) h Q ↔ am_ob (am_sd h 0 a x z) (fun h' => am_W m_M_put 24 ls st h' Q) := am_iast o_M_put rfl
theorem k_M_put_24 : am_W m_M_put 24 (.ref a :: ls) st h Q ↔ am_W m_M_put 25 (.ref a :: ls) (.ref a :: st) h Q := am_go (q := (25, .ref a :: ls, .ref a :: st, h)) o_M_put rfl rfl (fun _ => rfl)
theorem k_M_put_25 : am_W m_M_put 25 ls (.ref a :: st) h Q ↔ am_ob (am_gf h a 10 26) (fun v => am_W m_M_put 28 ls (v :: st) h Q) := am_getf o_M_put rfl rfl
theorem k_M_put_28 : am_W m_M_put 28 ls st h Q ↔ am_W m_M_put 30 ls (.int 6 :: st) h Q := am_go (q := (30, ls, .int 6 :: st, h)) o_M_put rfl rfl (fun _ => rfl)
theorem k_M_put_30 : am_W m_M_put 30 (v0 :: v1 :: v2 :: .int x :: ls) st h Q ↔ am_W m_M_put 31 (v0 :: v1 :: v2 :: .int x :: ls) (.int x :: st) h Q := am_go (q := (31, v0 :: v1 :: v2 :: .int x :: ls, .int x :: st, h)) o_M_put rfl rfl (fun _ => rfl)
theorem k_M_put_31 : am_W m_M_put 31 ls (.int y :: .int x :: st) h Q ↔ am_W m_M_put 32 ls (.int (x * y) :: st) h Q := am_go (q := (32, ls, .int (x * y) :: st, h)) o_M_put rfl rfl (fun _ => rfl)
theorem k_M_put_32 : am_W m_M_put 32 (.ref a :: ls) st h Q ↔ am_W m_M_put 33 (.ref a :: ls) (.ref a :: st) h Q := am_go (q := (33, .ref a :: ls, .ref a :: st, h)) o_M_put rfl rfl (fun _ => rfl)
theorem k_M_put_33 : am_W m_M_put 33 ls (.ref a :: st) h Q ↔ am_ob (am_gf h a 10 27) (fun v => am_W m_M_put 36 ls (v :: st) h Q) := am_getf o_M_put rfl rfl
theorem k_M_put_36 : am_W m_M_put 36 (v0 :: v1 :: v2 :: .int x :: ls) st h Q ↔ am_W m_M_put 37 (v0 :: v1 :: v2 :: .int x :: ls) (.int x :: st) h Q := am_go (q := (37, v0 :: v1 :: v2 :: .int x :: ls, .int x :: st, h)) o_M_put rfl rfl (fun _ => rfl)
theorem k_M_put_37 : am_W m_M_put 37 ls (.int x :: .ref a :: st) h Q ↔ am_ob (am_ld h 0 a x) (fun v => am_W m_M_put 38 ls (.int v :: st) h Q) := am_iald o_M_put rfl
theorem k_M_put_38 : am_W m_M_put 38 ls (.int y :: .int x :: st) h Q ↔ am_W m_M_put 39 ls (.int (x + y) :: st) h Q := am_go (q := (39, ls, .int (x + y) :: st, h)) o_M_put rfl rfl (fun _ => rfl)
theorem k_M_put_39 : am_W m_M_put 39 (v0 :: v1 :: .int x :: ls) st h Q ↔ am_W m_M_put 40 (v0 :: v1 :: .int x :: ls) (.int x :: st) h Q := am_go (q := (40, v0 :: v1 :: .int x :: ls, .int x :: st, h)) o_M_put rfl rfl (fun _ => rfl)
theorem k_M_put_40 : am_W m_M_put 40 ls (.int z :: .int x :: .ref a :: st) h Q ↔ am_ob (am_sd h 0 a x z) (fun h' => am_W m_M_put 41 ls st h' Q) := am_iast o_M_put rfl
theorem k_M_put_41 : am_W m_M_put 41 (.ref a :: ls) st h Q ↔ am_W m_M_put 42 (.ref a :: ls) (.ref a :: st) h Q := am_go (q := (42, .ref a :: ls, .ref a :: st, h)) o_M_put rfl rfl (fun _ => rfl)
theorem k_M_put_42 : am_W m_M_put 42 ls (.ref a :: st) h Q ↔ am_ob (am_gf h a 10 27) (fun v => am_W m_M_put 45 ls (v :: st) h Q) := am_getf o_M_put rfl rfl
theorem k_M_put_45 : am_W m_M_put 45 (v0 :: v1 :: v2 :: .int x :: ls) st h Q ↔ am_W m_M_put 46 (v0 :: v1 :: v2 :: .int x :: ls) (.int x :: st) h Q := am_go (q := (46, v0 :: v1 :: v2 :: .int x :: ls, .int x :: st, h)) o_M_put rfl rfl (fun _ => rfl)
theorem k_M_put_46 : am_W m_M_put 46 ls (.int x :: .ref a :: st) h Q ↔ am_W m_M_put 47 ls (.int x :: .ref a :: .int x :: .ref a :: st) h Q := am_go (q := (47, ls, .int x :: .ref a :: .int x :: .ref a :: st, h)) o_M_put rfl rfl (fun _ => rfl)
theorem k_M_put_47 : am_W m_M_put 47 ls (.int x :: .ref a :: st) h Q ↔ am_ob (am_ld h 0 a x) (fun v => am_W m_M_put 48 ls (.int v :: st) h Q) := am_iald o_M_put rfl
theorem k_M_put_48 : am_W m_M_put 48 ls st h Q ↔ am_W m_M_put 49 ls (.int 1 :: st) h Q := am_go (q := (49, ls, .int 1 :: st, h)) o_M_put rfl rfl (fun _ => rfl)
theorem k_M_put_49 : am_W m_M_put 49 ls (.int y :: .int x :: st) h Q ↔ am_W m_M_put 50 ls (.int (x + y) :: st) h Q := am_go (q := (50, ls, .int (x + y) :: st, h)) o_M_put rfl rfl (fun _ => rfl)
theorem k_M_put_50 : am_W m_M_put 50 ls (.int z :: .int x :: .ref a :: st) h Q ↔ am_ob (am_sd h 0 a x z) (fun h' => am_W m_M_put 51 ls st h' Q) := am_iast o_M_put rfl
theorem k_M_put_51 : am_W m_M_put 51 ls [] h Q ↔ Q none h := am_vret rfl rfl
theorem k_M_take_0 : am_W m_M_take 0 (.ref a :: ls) st h Q ↔ am_W m_M_take 1 (.ref a :: ls) (.ref a :: st) h Q := am_go (q := (1, .ref a :: ls, .ref a :: st, h)) o_M_take rfl rfl (fun _ => rfl)
theorem k_M_take_1 : am_W m_M_take 1 ls (.ref a :: st) h Q ↔ am_ob (am_gf h a 10 21) (fun v => am_W m_M_take 4 ls (v :: st) h Q) := am_getf o_M_take rfl rfl
theorem k_M_take_4 : am_W m_M_take 4 ls st h Q ↔ am_W m_M_take 5 ls (.int 1 :: st) h Q := am_go (q := (5, ls, .int 1 :: st, h)) o_M_take rfl rfl (fun _ => rfl)
theorem k_M_take_5 : am_W m_M_take 5 ls (.int y :: .int x :: st) h Q ↔ am_W m_M_take 6 ls (.int (x - y) :: st) h Q := am_go (q := (6, ls, .int (x - y) :: st, h)) o_M_take rfl rfl (fun _ => rfl)
theorem k_M_take_6 : am_W m_M_take 6 (v0 :: ls) (.int x :: st) h Q ↔ am_W m_M_take 7 (v0 :: .int x :: ls.tail) st h Q := am_go (q := (7, v0 :: .int x :: ls.tail, st, h)) o_M_take rfl rfl (fun _ => rfl)
theorem k_M_take_7 : am_W m_M_take 7 (.ref a :: ls) st h Q ↔ am_W m_M_take 8 (.ref a :: ls) (.ref a :: st) h Q := am_go (q := (8, .ref a :: ls, .ref a :: st, h)) o_M_take rfl rfl (fun _ => rfl)
theorem k_M_take_8 : am_W m_M_take 8 ls (.ref a :: st) h Q ↔ am_ob (am_gf h a 10 27) (fun v => am_W m_M_take 11 ls (v :: st) h Q) := am_getf o_M_take rfl rfl
theorem k_M_take_11 : am_W m_M_take 11 (v0 :: .int x :: ls) st h Q ↔ am_W m_M_take 12 (v0 :: .int x :: ls) (.int x :: st) h Q := am_go (q := (12, v0 :: .int x :: ls, .int x :: st, h)) o_M_take rfl rfl (fun _ => rfl)
theorem k_M_take_12 : am_W m_M_take 12 ls (.int x :: .ref a :: st) h Q ↔ am_W m_M_take 13 ls (.int x :: .ref a :: .int x :: .ref a :: st) h Q := am_go (q := (13, ls, .int x :: .ref a :: .int x :: .ref a :: st, h)) o_M_take rfl rfl (fun _ => rfl)
theorem k_M_take_13 : am_W m_M_take 13 ls (.int x :: .ref a :: st) h Q ↔ am_ob (am_ld h 0 a x) (fun v => am_W m_M_take 14 ls (.int v :: st) h Q) := am_iald o_M_take rfl
theorem k_M_take_14 : am_W m_M_take 14 ls st h Q ↔ am_W m_M_take 15 ls (.int 1 :: st) h Q := am_go (q := (15, ls, .int 1 :: st, h)) o_M_take rfl rfl (fun _ => rfl)
theorem k_M_take_15 : am_W m_M_take 15 ls (.int y :: .int x :: st) h Q ↔ am_W m_M_take 16 ls (.int (x - y) :: st) h Q := am_go (q := (16, ls, .int (x - y) :: st, h)) o_M_take rfl rfl (fun _ => rfl)
theorem k_M_take_16 : am_W m_M_take 16 ls (.int z :: .int x :: .ref a :: st) h Q ↔ am_ob (am_sd h 0 a x z) (fun h' => am_W m_M_take 17 ls st h' Q) := am_iast o_M_take rfl
theorem k_M_take_17 : am_W m_M_take 17 (.ref a :: ls) st h Q ↔ am_W m_M_take 18 (.ref a :: ls) (.ref a :: st) h Q := am_go (q := (18, .ref a :: ls, .ref a :: st, h)) o_M_take rfl rfl (fun _ => rfl)
theorem k_M_take_18 : am_W m_M_take 18 ls (.ref a :: st) h Q ↔ am_ob (am_gf h a 10 25) (fun v => am_W m_M_take 21 ls (v :: st) h Q) := am_getf o_M_take rfl rfl
theorem k_M_take_21 : am_W m_M_take 21 ls st h Q ↔ am_W m_M_take 23 ls (.int 6 :: st) h Q := am_go (q := (23, ls, .int 6 :: st, h)) o_M_take rfl rfl (fun _ => rfl)
theorem k_M_take_23 : am_W m_M_take 23 (v0 :: .int x :: ls) st h Q ↔ am_W m_M_take 24 (v0 :: .int x :: ls) (.int x :: st) h Q := am_go (q := (24, v0 :: .int x :: ls, .int x :: st, h)) o_M_take rfl rfl (fun _ => rfl)
theorem k_M_take_24 : am_W m_M_take 24 ls (.int y :: .int x :: st) h Q ↔ am_W m_M_take 25 ls (.int (x * y) :: st) h Q := am_go (q := (25, ls, .int (x * y) :: st, h)) o_M_take rfl rfl (fun _ => rfl)
theorem k_M_take_25 : am_W m_M_take 25 (.ref a :: ls) st h Q ↔ am_W m_M_take 26 (.ref a :: ls) (.ref a :: st) h Q := am_go (q := (26, .ref a :: ls, .ref a :: st, h)) o_M_take rfl rfl (fun _ => rfl)
theorem k_M_take_26 : am_W m_M_take 26 ls (.ref a :: st) h Q ↔ am_ob (am_gf h a 10 27) (fun v => am_W m_M_take 29 ls (v :: st) h Q) := am_getf o_M_take rfl rfl
theorem k_M_take_29 : am_W m_M_take 29 (v0 :: .int x :: ls) st h Q ↔ am_W m_M_take 30 (v0 :: .int x :: ls) (.int x :: st) h Q := am_go (q := (30, v0 :: .int x :: ls, .int x :: st, h)) o_M_take rfl rfl (fun _ => rfl)
theorem k_M_take_30 : am_W m_M_take 30 ls (.int x :: .ref a :: st) h Q ↔ am_ob (am_ld h 0 a x) (fun v => am_W m_M_take 31 ls (.int v :: st) h Q) := am_iald o_M_take rfl
theorem k_M_take_31 : am_W m_M_take 31 ls (.int y :: .int x :: st) h Q ↔ am_W m_M_take 32 ls (.int (x + y) :: st) h Q := am_go (q := (32, ls, .int (x + y) :: st, h)) o_M_take rfl rfl (fun _ => rfl)
theorem k_M_take_32 : am_W m_M_take 32 ls (.int x :: .ref a :: st) h Q ↔ am_ob (am_ld h 0 a x) (fun v => am_W m_M_take 33 ls (.int v :: st) h Q) := am_iald o_M_take rfl
theorem k_M_take_33 : am_W m_M_take 33 ls [.int x] h Q ↔ Q (some (.int x)) h := am_iret rfl rfl
theorem k_M_call_0 : am_W m_M_call 0 (.ref a :: ls) st h Q ↔ am_W m_M_call 1 (.ref a :: ls) (.ref a :: st) h Q := am_go (q := (1, .ref a :: ls, .ref a :: st, h)) o_M_call rfl rfl (fun _ => rfl)
theorem k_M_call_1 : am_W m_M_call 1 ls (.ref a :: st) h Q ↔ am_ob (am_gf h a 10 21) (fun v => am_W m_M_call 4 ls (v :: st) h Q) := am_getf o_M_call rfl rfl
theorem k_M_call_4 : am_W m_M_call 4 ls st h Q ↔ am_W m_M_call 6 ls (.int 8 :: st) h Q := am_go (q := (6, ls, .int 8 :: st, h)) o_M_call rfl rfl (fun _ => rfl)
theorem k_M_call_6 : am_W m_M_call 6 ls (.int y :: .int x :: st) h Q ↔ (x = y → am_W m_M_call 9 ls st h Q) ∧ (¬ x = y → am_W m_M_call 15 ls st h Q) := (am_go (q := (if ¬ x = y then 15 else 9, ls, st, h)) o_M_call rfl rfl (fun _ => rfl)).trans am_iteN
theorem k_M_call_9 : am_W m_M_call 9 (.ref a :: ls) st h Q ↔ am_W m_M_call 10 (.ref a :: ls) (.ref a :: st) h Q := am_go (q := (10, .ref a :: ls, .ref a :: st, h)) o_M_call rfl rfl (fun _ => rfl)
theorem k_M_call_10 : am_W m_M_call 10 ls st h Q ↔ am_W m_M_call 11 ls (.int 5 :: st) h Q := am_go (q := (11, ls, .int 5 :: st, h)) o_M_call rfl rfl (fun _ => rfl)
theorem k_M_call_11 : am_W m_M_call 11 ls (v0 :: .ref a :: st) h Q ↔ am_ob (am_pf h a 10 19 0 v0) (fun h' => am_W m_M_call 14 ls st h' Q) := am_putf o_M_call rfl rfl
theorem k_M_call_14 : am_W m_M_call 14 ls [] h Q ↔ Q none h := am_vret rfl rfl
theorem k_M_call_15 : am_W m_M_call 15 (.ref a :: ls) st h Q ↔ am_W m_M_call 16 (.ref a :: ls) (.ref a :: st) h Q := am_go (q := (16, .ref a :: ls, .ref a :: st, h)) o_M_call rfl rfl (fun _ => rfl)
theorem k_M_call_16 : am_W m_M_call 16 ls (.ref a :: st) h Q ↔ am_ob (am_gf h a 10 4) (fun v => am_W m_M_call 19 ls (v :: st) h Q) := am_getf o_M_call rfl rfl
theorem k_M_call_19 : am_W m_M_call 19 (v0 :: .int x :: ls) st h Q ↔ am_W m_M_call 20 (v0 :: .int x :: ls) (.int x :: st) h Q := am_go (q := (20, v0 :: .int x :: ls, .int x :: st, h)) o_M_call rfl rfl (fun _ => rfl)
theorem k_M_call_20 : am_W m_M_call 20 ls (.int x :: .ref a :: st) h Q ↔ am_ob (am_ld h 0 a x) (fun v => am_W m_M_call 21 ls (.int v :: st) h Q) := am_iald o_M_call rfl
theorem k_M_call_21 : am_W m_M_call 21 ls st h Q ↔ am_W m_M_call 22 ls (.int 1 :: st) h Q := am_go (q := (22, ls, .int 1 :: st, h)) o_M_call rfl rfl (fun _ => rfl)
theorem k_M_call_22 : am_W m_M_call 22 ls (.int y :: .int x :: st) h Q ↔ am_W m_M_call 23 ls (.int (x - y) :: st) h Q := am_go (q := (23, ls, .int (x - y) :: st, h)) o_M_call rfl rfl (fun _ => rfl)
theorem k_M_call_23 : am_W m_M_call 23 (v0 :: v1 :: ls) (.int x :: st) h Q ↔ am_W m_M_call 24 (v0 :: v1 :: .int x :: ls.tail) st h Q := am_go (q := (24, v0 :: v1 :: .int x :: ls.tail, st, h)) o_M_call rfl rfl (fun _ => rfl)
theorem k_M_call_24 : am_W m_M_call 24 (v0 :: v1 :: .int x :: ls) st h Q ↔ am_W m_M_call 25 (v0 :: v1 :: .int x :: ls) (.int x :: st) h Q := am_go (q := (25, v0 :: v1 :: .int x :: ls, .int x :: st, h)) o_M_call rfl rfl (fun _ => rfl)
theorem k_M_call_25 : am_W m_M_call 25 ls (.int x :: st) h Q ↔ (x < 0 → am_W m_M_call 51 ls st h Q) ∧ (¬ x < 0 → am_W m_M_call 28 ls st h Q) := (am_go (q := (if x < 0 then 51 else 28, ls, st, h)) o_M_call rfl rfl (fun _ => rfl)).trans am_ite
theorem k_M_call_28 : am_W m_M_call 28 (.ref a :: ls) st h Q ↔ am_W m_M_call 29 (.ref a :: ls) (.ref a :: st) h Q := am_go (q := (29, .ref a :: ls, .ref a :: st, h)) o_M_call rfl rfl (fun _ => rfl)
theorem k_M_call_29 : am_W m_M_call 29 ls (.ref a :: st) h Q ↔ am_ob (am_gf h a 10 24) (fun v => am_W m_M_call 32 ls (v :: st) h Q) := am_getf o_M_call rfl rfl
theorem k_M_call_32 : am_W m_M_call 32 ls st h Q ↔ am_W m_M_call 33 ls (.int 4 :: st) h Q := am_go (q := (33, ls, .int 4 :: st, h)) o_M_call rfl rfl (fun _ => rfl)
theorem k_M_call_33 : am_W m_M_call 33 (.ref a :: ls) st h Q ↔ am_W m_M_call 34 (.ref a :: ls) (.ref a :: st) h Q := am_go (q := (34, .ref a :: ls, .ref a :: st, h)) o_M_call rfl rfl (fun _ => rfl)
theorem k_M_call_34 : am_W m_M_call 34 ls (.ref a :: st) h Q ↔ am_ob (am_gf h a 10 21) (fun v => am_W m_M_call 37 ls (v :: st) h Q) := am_getf o_M_call rfl rfl
theorem k_M_call_37 : am_W m_M_call 37 ls (.int y :: .int x :: st) h Q ↔ am_W m_M_call 38 ls (.int (x * y) :: st) h Q := am_go (q := (38, ls, .int (x * y) :: st, h)) o_M_call rfl rfl (fun _ => rfl)
theorem k_M_call_38 : am_W m_M_call 38 (v0 :: v1 :: .int x :: ls) st h Q ↔ am_W m_M_call 39 (v0 :: v1 :: .int x :: ls) (.int x :: st) h Q := am_go (q := (39, v0 :: v1 :: .int x :: ls, .int x :: st, h)) o_M_call rfl rfl (fun _ => rfl)
theorem k_M_call_39 : am_W m_M_call 39 ls (.int y :: .int x :: st) h Q ↔ am_W m_M_call 40 ls (.int (x + y) :: st) h Q := am_go (q := (40, ls, .int (x + y) :: st, h)) o_M_call rfl rfl (fun _ => rfl)
theorem k_M_call_40 : am_W m_M_call 40 (.ref a :: ls) st h Q ↔ am_W m_M_call 41 (.ref a :: ls) (.ref a :: st) h Q := am_go (q := (41, .ref a :: ls, .ref a :: st, h)) o_M_call rfl rfl (fun _ => rfl)
theorem k_M_call_41 : am_W m_M_call 41 ls (v0 :: st) h Q ↔ (st.length ≤ 8 ∧ am_rc h [v0] (some 10) = true) ∧ am_C f_M_take [v0] h (fun r h' => am_W m_M_call 44 ls (r.toList ++ st) h' Q) := am_ca o_M_call rfl (Or.inl rfl) rfl [v0] st rfl
theorem k_M_call_44 : am_W m_M_call 44 ls (.int z :: .int x :: .ref a :: st) h Q ↔ am_ob (am_sd h 0 a x z) (fun h' => am_W m_M_call 45 ls st h' Q) := am_iast o_M_call rfl
theorem k_M_call_45 : am_W m_M_call 45 (v0 :: v1 :: .int x :: ls) st h Q ↔ am_W m_M_call 48 (v0 :: v1 :: .int (x + (-1)) :: ls) st h Q := am_go (q := (48, v0 :: v1 :: .int (x + (-1)) :: ls, st, h)) o_M_call rfl rfl (fun _ => rfl)
theorem k_M_call_48 : am_W m_M_call 48 ls st h Q ↔ am_W m_M_call 24 ls st h Q := am_go (q := (24, ls, st, h)) o_M_call rfl rfl (fun _ => rfl)
theorem k_M_call_51 : am_W m_M_call 51 (.ref a :: ls) st h Q ↔ am_W m_M_call 52 (.ref a :: ls) (.ref a :: st) h Q := am_go (q := (52, .ref a :: ls, .ref a :: st, h)) o_M_call rfl rfl (fun _ => rfl)
theorem k_M_call_52 : am_W m_M_call 52 (v0 :: .int x :: ls) st h Q ↔ am_W m_M_call 53 (v0 :: .int x :: ls) (.int x :: st) h Q := am_go (q := (53, v0 :: .int x :: ls, .int x :: st, h)) o_M_call rfl rfl (fun _ => rfl)
theorem k_M_call_53 : am_W m_M_call 53 (.ref a :: ls) st h Q ↔ am_W m_M_call 54 (.ref a :: ls) (.ref a :: st) h Q := am_go (q := (54, .ref a :: ls, .ref a :: st, h)) o_M_call rfl rfl (fun _ => rfl)
theorem k_M_call_54 : am_W m_M_call 54 ls (.ref a :: st) h Q ↔ am_ob (am_gf h a 10 4) (fun v => am_W m_M_call 57 ls (v :: st) h Q) := am_getf o_M_call rfl rfl
theorem k_M_call_57 : am_W m_M_call 57 (v0 :: .int x :: ls) st h Q ↔ am_W m_M_call 58 (v0 :: .int x :: ls) (.int x :: st) h Q := am_go (q := (58, v0 :: .int x :: ls, .int x :: st, h)) o_M_call rfl rfl (fun _ => rfl)
theorem k_M_call_58 : am_W m_M_call 58 ls (.int x :: .ref a :: st) h Q ↔ am_ob (am_ld h 0 a x) (fun v => am_W m_M_call 59 ls (.int v :: st) h Q) := am_iald o_M_call rfl
theorem k_M_call_59 : am_W m_M_call 59 ls (v2 :: v1 :: v0 :: st) h Q ↔ (st.length ≤ 8 ∧ am_rc h [v0, v1, v2] (some 10) = true) ∧ am_C f_M_begin [v0, v1, v2] h (fun r h' => am_W m_M_call 62 ls (r.toList ++ st) h' Q) := am_ca o_M_call rfl (Or.inl rfl) rfl [v0, v1, v2] st rfl
theorem k_M_call_62 : am_W m_M_call 62 ls [] h Q ↔ Q none h := am_vret rfl rfl
theorem k_M_leave_0 : am_W m_M_leave 0 (.ref a :: ls) st h Q ↔ am_W m_M_leave 1 (.ref a :: ls) (.ref a :: st) h Q := am_go (q := (1, .ref a :: ls, .ref a :: st, h)) o_M_leave rfl rfl (fun _ => rfl)
theorem k_M_leave_1 : am_W m_M_leave 1 ls (v0 :: st) h Q ↔ (st.length ≤ 8 ∧ am_rc h [v0] (some 10) = true) ∧ am_C f_M_take [v0] h (fun r h' => am_W m_M_leave 4 ls (r.toList ++ st) h' Q) := am_ca o_M_leave rfl (Or.inl rfl) rfl [v0] st rfl
theorem k_M_leave_4 : am_W m_M_leave 4 (v0 :: v1 :: ls) (.int x :: st) h Q ↔ am_W m_M_leave 5 (v0 :: v1 :: .int x :: ls.tail) st h Q := am_go (q := (5, v0 :: v1 :: .int x :: ls.tail, st, h)) o_M_leave rfl rfl (fun _ => rfl)
theorem k_M_leave_5 : am_W m_M_leave 5 (.ref a :: ls) st h Q ↔ am_W m_M_leave 6 (.ref a :: ls) (.ref a :: st) h Q := am_go (q := (6, .ref a :: ls, .ref a :: st, h)) o_M_leave rfl rfl (fun _ => rfl)
theorem k_M_leave_6 : am_W m_M_leave 6 ls (.ref a :: st) h Q ↔ am_W m_M_leave 7 ls (.ref a :: .ref a :: st) h Q := am_go (q := (7, ls, .ref a :: .ref a :: st, h)) o_M_leave rfl rfl (fun _ => rfl)
theorem k_M_leave_6i : am_W m_M_leave 6 ls (.int x :: st) h Q ↔ am_W m_M_leave 7 ls (.int x :: .int x :: st) h Q := am_go (q := (7, ls, .int x :: .int x :: st, h)) o_M_leave rfl rfl (fun _ => rfl)
theorem k_M_leave_7 : am_W m_M_leave 7 ls (.ref a :: st) h Q ↔ am_ob (am_gf h a 10 21) (fun v => am_W m_M_leave 10 ls (v :: st) h Q) := am_getf o_M_leave rfl rfl
theorem k_M_leave_10 : am_W m_M_leave 10 ls st h Q ↔ am_W m_M_leave 11 ls (.int 1 :: st) h Q := am_go (q := (11, ls, .int 1 :: st, h)) o_M_leave rfl rfl (fun _ => rfl)
theorem k_M_leave_11 : am_W m_M_leave 11 ls (.int y :: .int x :: st) h Q ↔ am_W m_M_leave 12 ls (.int (x - y) :: st) h Q := am_go (q := (12, ls, .int (x - y) :: st, h)) o_M_leave rfl rfl (fun _ => rfl)
theorem k_M_leave_12 : am_W m_M_leave 12 ls (v0 :: .ref a :: st) h Q ↔ am_ob (am_pf h a 10 21 0 v0) (fun h' => am_W m_M_leave 15 ls st h' Q) := am_putf o_M_leave rfl rfl
theorem k_M_leave_15 : am_W m_M_leave 15 (.ref a :: ls) st h Q ↔ am_W m_M_leave 16 (.ref a :: ls) (.ref a :: st) h Q := am_go (q := (16, .ref a :: ls, .ref a :: st, h)) o_M_leave rfl rfl (fun _ => rfl)
theorem k_M_leave_16 : am_W m_M_leave 16 ls (.ref a :: st) h Q ↔ am_ob (am_gf h a 10 21) (fun v => am_W m_M_leave 19 ls (v :: st) h Q) := am_getf o_M_leave rfl rfl
theorem k_M_leave_19 : am_W m_M_leave 19 ls (.int x :: st) h Q ↔ (x = 0 → am_W m_M_leave 22 ls st h Q) ∧ (¬ x = 0 → am_W m_M_leave 35 ls st h Q) := (am_go (q := (if ¬ x = 0 then 35 else 22, ls, st, h)) o_M_leave rfl rfl (fun _ => rfl)).trans am_iteN
theorem k_M_leave_22 : am_W m_M_leave 22 (.ref a :: ls) st h Q ↔ am_W m_M_leave 23 (.ref a :: ls) (.ref a :: st) h Q := am_go (q := (23, .ref a :: ls, .ref a :: st, h)) o_M_leave rfl rfl (fun _ => rfl)
theorem k_M_leave_23 : am_W m_M_leave 23 ls st h Q ↔ am_W m_M_leave 24 ls (.int 2 :: st) h Q := am_go (q := (24, ls, .int 2 :: st, h)) o_M_leave rfl rfl (fun _ => rfl)
theorem k_M_leave_24 : am_W m_M_leave 24 ls (v0 :: .ref a :: st) h Q ↔ am_ob (am_pf h a 10 19 0 v0) (fun h' => am_W m_M_leave 27 ls st h' Q) := am_putf o_M_leave rfl rfl
theorem k_M_leave_27 : am_W m_M_leave 27 (.ref a :: ls) st h Q ↔ am_W m_M_leave 28 (.ref a :: ls) (.ref a :: st) h Q := am_go (q := (28, .ref a :: ls, .ref a :: st, h)) o_M_leave rfl rfl (fun _ => rfl)
theorem k_M_leave_28 : am_W m_M_leave 28 (v0 :: v1 :: .int x :: ls) st h Q ↔ am_W m_M_leave 29 (v0 :: v1 :: .int x :: ls) (.int x :: st) h Q := am_go (q := (29, v0 :: v1 :: .int x :: ls, .int x :: st, h)) o_M_leave rfl rfl (fun _ => rfl)
theorem k_M_leave_29 : am_W m_M_leave 29 ls (v0 :: .ref a :: st) h Q ↔ am_ob (am_pf h a 10 20 0 v0) (fun h' => am_W m_M_leave 32 ls st h' Q) := am_putf o_M_leave rfl rfl
theorem k_M_leave_32 : am_W m_M_leave 32 ls st h Q ↔ am_W m_M_leave 41 ls st h Q := am_go (q := (41, ls, st, h)) o_M_leave rfl rfl (fun _ => rfl)
theorem k_M_leave_35 : am_W m_M_leave 35 (.ref a :: ls) st h Q ↔ am_W m_M_leave 36 (.ref a :: ls) (.ref a :: st) h Q := am_go (q := (36, .ref a :: ls, .ref a :: st, h)) o_M_leave rfl rfl (fun _ => rfl)
theorem k_M_leave_36 : am_W m_M_leave 36 (v0 :: v1 :: .int x :: ls) st h Q ↔ am_W m_M_leave 37 (v0 :: v1 :: .int x :: ls) (.int x :: st) h Q := am_go (q := (37, v0 :: v1 :: .int x :: ls, .int x :: st, h)) o_M_leave rfl rfl (fun _ => rfl)
theorem k_M_leave_37 : am_W m_M_leave 37 (v0 :: .int x :: ls) st h Q ↔ am_W m_M_leave 38 (v0 :: .int x :: ls) (.int x :: st) h Q := am_go (q := (38, v0 :: .int x :: ls, .int x :: st, h)) o_M_leave rfl rfl (fun _ => rfl)
theorem k_M_leave_38 : am_W m_M_leave 38 ls (v2 :: v1 :: v0 :: st) h Q ↔ (st.length ≤ 8 ∧ am_rc h [v0, v1, v2] (some 10) = true) ∧ am_C f_M_put [v0, v1, v2] h (fun r h' => am_W m_M_leave 41 ls (r.toList ++ st) h' Q) := am_ca o_M_leave rfl (Or.inl rfl) rfl [v0, v1, v2] st rfl
theorem k_M_leave_41 : am_W m_M_leave 41 ls [] h Q ↔ Q none h := am_vret rfl rfl
theorem k_M_born_0 : am_W m_M_born 0 (.ref a :: ls) st h Q ↔ am_W m_M_born 1 (.ref a :: ls) (.ref a :: st) h Q := am_go (q := (1, .ref a :: ls, .ref a :: st, h)) o_M_born rfl rfl (fun _ => rfl)
theorem k_M_born_1 : am_W m_M_born 1 ls (v0 :: st) h Q ↔ (st.length ≤ 8 ∧ am_rc h [v0] (some 10) = true) ∧ am_C f_M_objects [v0] h (fun r h' => am_W m_M_born 4 ls (r.toList ++ st) h' Q) := am_ca o_M_born rfl (Or.inl rfl) rfl [v0] st rfl
theorem k_M_born_4 : am_W m_M_born 4 ls st h Q ↔ am_W m_M_born 6 ls (.int 16 :: st) h Q := am_go (q := (6, ls, .int 16 :: st, h)) o_M_born rfl rfl (fun _ => rfl)
theorem k_M_born_6 : am_W m_M_born 6 ls (.int y :: .int x :: st) h Q ↔ (x = y → am_W m_M_born 9 ls st h Q) ∧ (¬ x = y → am_W m_M_born 13 ls st h Q) := (am_go (q := (if ¬ x = y then 13 else 9, ls, st, h)) o_M_born rfl rfl (fun _ => rfl)).trans am_iteN
theorem k_M_born_9 : am_W m_M_born 9 (.ref a :: ls) st h Q ↔ am_W m_M_born 10 (.ref a :: ls) (.ref a :: st) h Q := am_go (q := (10, .ref a :: ls, .ref a :: st, h)) o_M_born rfl rfl (fun _ => rfl)
theorem k_M_born_10 : am_W m_M_born 10 ls (v0 :: st) h Q ↔ (st.length ≤ 8 ∧ am_rc h [v0] (some 10) = true) ∧ am_C f_M_collect [v0] h (fun r h' => am_W m_M_born 13 ls (r.toList ++ st) h' Q) := am_ca o_M_born rfl (Or.inl rfl) rfl [v0] st rfl
theorem k_M_born_13 : am_W m_M_born 13 ls st h Q ↔ am_W m_M_born 14 ls (.int 1 :: st) h Q := am_go (q := (14, ls, .int 1 :: st, h)) o_M_born rfl rfl (fun _ => rfl)
theorem k_M_born_14 : am_W m_M_born 14 (v0 :: v1 :: ls) (.int x :: st) h Q ↔ am_W m_M_born 15 (v0 :: v1 :: .int x :: ls.tail) st h Q := am_go (q := (15, v0 :: v1 :: .int x :: ls.tail, st, h)) o_M_born rfl rfl (fun _ => rfl)
theorem k_M_born_15 : am_W m_M_born 15 (v0 :: v1 :: .int x :: ls) st h Q ↔ am_W m_M_born 16 (v0 :: v1 :: .int x :: ls) (.int x :: st) h Q := am_go (q := (16, v0 :: v1 :: .int x :: ls, .int x :: st, h)) o_M_born rfl rfl (fun _ => rfl)
theorem k_M_born_16 : am_W m_M_born 16 ls st h Q ↔ am_W m_M_born 18 ls (.int 16 :: st) h Q := am_go (q := (18, ls, .int 16 :: st, h)) o_M_born rfl rfl (fun _ => rfl)
theorem k_M_born_18 : am_W m_M_born 18 ls (.int y :: .int x :: st) h Q ↔ (y < x → am_W m_M_born 69 ls st h Q) ∧ (¬ y < x → am_W m_M_born 21 ls st h Q) := (am_go (q := (if y < x then 69 else 21, ls, st, h)) o_M_born rfl rfl (fun _ => rfl)).trans am_ite
theorem k_M_born_21 : am_W m_M_born 21 (.ref a :: ls) st h Q ↔ am_W m_M_born 22 (.ref a :: ls) (.ref a :: st) h Q := am_go (q := (22, .ref a :: ls, .ref a :: st, h)) o_M_born rfl rfl (fun _ => rfl)
theorem k_M_born_22 : am_W m_M_born 22 ls (.ref a :: st) h Q ↔ am_ob (am_gf h a 10 28) (fun v => am_W m_M_born 25 ls (v :: st) h Q) := am_getf o_M_born rfl rfl
theorem k_M_born_25 : am_W m_M_born 25 (v0 :: v1 :: .int x :: ls) st h Q ↔ am_W m_M_born 26 (v0 :: v1 :: .int x :: ls) (.int x :: st) h Q := am_go (q := (26, v0 :: v1 :: .int x :: ls, .int x :: st, h)) o_M_born rfl rfl (fun _ => rfl)
theorem k_M_born_26 : am_W m_M_born 26 ls (.int x :: .ref a :: st) h Q ↔ am_ob (am_ld h 0 a x) (fun v => am_W m_M_born 27 ls (.int v :: st) h Q) := am_iald o_M_born rfl
theorem k_M_born_27 : am_W m_M_born 27 ls (.int x :: st) h Q ↔ (x = 0 → am_W m_M_born 30 ls st h Q) ∧ (¬ x = 0 → am_W m_M_born 63 ls st h Q) := (am_go (q := (if ¬ x = 0 then 63 else 30, ls, st, h)) o_M_born rfl rfl (fun _ => rfl)).trans am_iteN
theorem k_M_born_30 : am_W m_M_born 30 (.ref a :: ls) st h Q ↔ am_W m_M_born 31 (.ref a :: ls) (.ref a :: st) h Q := am_go (q := (31, .ref a :: ls, .ref a :: st, h)) o_M_born rfl rfl (fun _ => rfl)
theorem k_M_born_31 : am_W m_M_born 31 ls (.ref a :: st) h Q ↔ am_ob (am_gf h a 10 28) (fun v => am_W m_M_born 34 ls (v :: st) h Q) := am_getf o_M_born rfl rfl
theorem k_M_born_34 : am_W m_M_born 34 (v0 :: v1 :: .int x :: ls) st h Q ↔ am_W m_M_born 35 (v0 :: v1 :: .int x :: ls) (.int x :: st) h Q := am_go (q := (35, v0 :: v1 :: .int x :: ls, .int x :: st, h)) o_M_born rfl rfl (fun _ => rfl)
theorem k_M_born_35 : am_W m_M_born 35 (v0 :: .int x :: ls) st h Q ↔ am_W m_M_born 36 (v0 :: .int x :: ls) (.int x :: st) h Q := am_go (q := (36, v0 :: .int x :: ls, .int x :: st, h)) o_M_born rfl rfl (fun _ => rfl)
theorem k_M_born_36 : am_W m_M_born 36 ls (.int z :: .int x :: .ref a :: st) h Q ↔ am_ob (am_sd h 0 a x z) (fun h' => am_W m_M_born 37 ls st h' Q) := am_iast o_M_born rfl
theorem k_M_born_37 : am_W m_M_born 37 ls st h Q ↔ am_W m_M_born 38 ls (.int 0 :: st) h Q := am_go (q := (38, ls, .int 0 :: st, h)) o_M_born rfl rfl (fun _ => rfl)
theorem k_M_born_38 : am_W m_M_born 38 (v0 :: v1 :: v2 :: ls) (.int x :: st) h Q ↔ am_W m_M_born 39 (v0 :: v1 :: v2 :: .int x :: ls.tail) st h Q := am_go (q := (39, v0 :: v1 :: v2 :: .int x :: ls.tail, st, h)) o_M_born rfl rfl (fun _ => rfl)
theorem k_M_born_39 : am_W m_M_born 39 (v0 :: v1 :: v2 :: .int x :: ls) st h Q ↔ am_W m_M_born 40 (v0 :: v1 :: v2 :: .int x :: ls) (.int x :: st) h Q := am_go (q := (40, v0 :: v1 :: v2 :: .int x :: ls, .int x :: st, h)) o_M_born rfl rfl (fun _ => rfl)
theorem k_M_born_40 : am_W m_M_born 40 ls st h Q ↔ am_W m_M_born 41 ls (.int 4 :: st) h Q := am_go (q := (41, ls, .int 4 :: st, h)) o_M_born rfl rfl (fun _ => rfl)
theorem k_M_born_41 : am_W m_M_born 41 ls (.int y :: .int x :: st) h Q ↔ (y ≤ x → am_W m_M_born 61 ls st h Q) ∧ (¬ y ≤ x → am_W m_M_born 44 ls st h Q) := (am_go (q := (if y ≤ x then 61 else 44, ls, st, h)) o_M_born rfl rfl (fun _ => rfl)).trans am_ite
theorem k_M_born_44 : am_W m_M_born 44 (.ref a :: ls) st h Q ↔ am_W m_M_born 45 (.ref a :: ls) (.ref a :: st) h Q := am_go (q := (45, .ref a :: ls, .ref a :: st, h)) o_M_born rfl rfl (fun _ => rfl)
theorem k_M_born_45 : am_W m_M_born 45 ls (.ref a :: st) h Q ↔ am_ob (am_gf h a 10 29) (fun v => am_W m_M_born 48 ls (v :: st) h Q) := am_getf o_M_born rfl rfl
theorem k_M_born_48 : am_W m_M_born 48 ls st h Q ↔ am_W m_M_born 49 ls (.int 4 :: st) h Q := am_go (q := (49, ls, .int 4 :: st, h)) o_M_born rfl rfl (fun _ => rfl)
theorem k_M_born_49 : am_W m_M_born 49 (v0 :: v1 :: .int x :: ls) st h Q ↔ am_W m_M_born 50 (v0 :: v1 :: .int x :: ls) (.int x :: st) h Q := am_go (q := (50, v0 :: v1 :: .int x :: ls, .int x :: st, h)) o_M_born rfl rfl (fun _ => rfl)
theorem k_M_born_50 : am_W m_M_born 50 ls (.int y :: .int x :: st) h Q ↔ am_W m_M_born 51 ls (.int (x * y) :: st) h Q := am_go (q := (51, ls, .int (x * y) :: st, h)) o_M_born rfl rfl (fun _ => rfl)
theorem k_M_born_51 : am_W m_M_born 51 (v0 :: v1 :: v2 :: .int x :: ls) st h Q ↔ am_W m_M_born 52 (v0 :: v1 :: v2 :: .int x :: ls) (.int x :: st) h Q := am_go (q := (52, v0 :: v1 :: v2 :: .int x :: ls, .int x :: st, h)) o_M_born rfl rfl (fun _ => rfl)
theorem k_M_born_52 : am_W m_M_born 52 ls (.int y :: .int x :: st) h Q ↔ am_W m_M_born 53 ls (.int (x + y) :: st) h Q := am_go (q := (53, ls, .int (x + y) :: st, h)) o_M_born rfl rfl (fun _ => rfl)
theorem k_M_born_53 : am_W m_M_born 53 ls st h Q ↔ am_W m_M_born 54 ls (.int 0 :: st) h Q := am_go (q := (54, ls, .int 0 :: st, h)) o_M_born rfl rfl (fun _ => rfl)
theorem k_M_born_54 : am_W m_M_born 54 ls (.int z :: .int x :: .ref a :: st) h Q ↔ am_ob (am_sd h 0 a x z) (fun h' => am_W m_M_born 55 ls st h' Q) := am_iast o_M_born rfl
theorem k_M_born_55 : am_W m_M_born 55 (v0 :: v1 :: v2 :: .int x :: ls) st h Q ↔ am_W m_M_born 58 (v0 :: v1 :: v2 :: .int (x + 1) :: ls) st h Q := am_go (q := (58, v0 :: v1 :: v2 :: .int (x + 1) :: ls, st, h)) o_M_born rfl rfl (fun _ => rfl)
theorem k_M_born_58 : am_W m_M_born 58 ls st h Q ↔ am_W m_M_born 39 ls st h Q := am_go (q := (39, ls, st, h)) o_M_born rfl rfl (fun _ => rfl)
theorem k_M_born_61 : am_W m_M_born 61 (v0 :: v1 :: .int x :: ls) st h Q ↔ am_W m_M_born 62 (v0 :: v1 :: .int x :: ls) (.int x :: st) h Q := am_go (q := (62, v0 :: v1 :: .int x :: ls, .int x :: st, h)) o_M_born rfl rfl (fun _ => rfl)
theorem k_M_born_62 : am_W m_M_born 62 ls [.int x] h Q ↔ Q (some (.int x)) h := am_iret rfl rfl
theorem k_M_born_63 : am_W m_M_born 63 (v0 :: v1 :: .int x :: ls) st h Q ↔ am_W m_M_born 66 (v0 :: v1 :: .int (x + 1) :: ls) st h Q := am_go (q := (66, v0 :: v1 :: .int (x + 1) :: ls, st, h)) o_M_born rfl rfl (fun _ => rfl)
theorem k_M_born_66 : am_W m_M_born 66 ls st h Q ↔ am_W m_M_born 15 ls st h Q := am_go (q := (15, ls, st, h)) o_M_born rfl rfl (fun _ => rfl)
theorem k_M_born_69 : am_W m_M_born 69 ls st h Q ↔ am_W m_M_born 70 ls (.int 0 :: st) h Q := am_go (q := (70, ls, .int 0 :: st, h)) o_M_born rfl rfl (fun _ => rfl)
theorem k_M_born_70 : am_W m_M_born 70 ls [.int x] h Q ↔ Q (some (.int x)) h := am_iret rfl rfl
end KK
