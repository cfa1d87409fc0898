/-! printed by gen.py: the law, instruction by instruction -/
section KK
variable {ls st : List Value} {h : am_H} {Q : Option Value → am_H → Prop} {v0 v1 v2 v3 v4 v5 v6 v7 v8 v9 v10 v11 v12 : Value} {x y z : Int32} {a b L : Nat} {xs : Nat → Int32}

set_option maxRecDepth 20000 in
theorem k_W_law_0 : am_W (m_W_law L xs) 0 ls st h Q ↔ am_W (m_W_law L xs) 3 ls (.ref h.1.length :: st) (h.1 ++ [.inr (9, [some none, some none, some none, some none, none, none])], h.2) Q := am_go (q := (3, ls, .ref h.1.length :: st, (h.1 ++ [.inr (9, [some none, some none, some none, some none, none, none])], h.2))) (o_W_law L xs) rfl rfl (fun _ => rfl)
set_option maxRecDepth 20000 in
theorem k_W_law_3 : am_W (m_W_law L xs) 3 ls (.ref a :: st) h Q ↔ am_W (m_W_law L xs) 4 ls (.ref a :: .ref a :: st) h Q := am_go (q := (4, ls, .ref a :: .ref a :: st, h)) (o_W_law L xs) rfl rfl (fun _ => rfl)
set_option maxRecDepth 20000 in
theorem k_W_law_3i : am_W (m_W_law L xs) 3 ls (.int x :: st) h Q ↔ am_W (m_W_law L xs) 4 ls (.int x :: .int x :: st) h Q := am_go (q := (4, ls, .int x :: .int x :: st, h)) (o_W_law L xs) rfl rfl (fun _ => rfl)
set_option maxRecDepth 20000 in
theorem k_W_law_4 : am_W (m_W_law L xs) 4 ls (v0 :: st) h Q ↔ (st.length ≤ 8 ∧ am_rc h [v0] (some 9) = true) ∧ am_C f_X_init [v0] h (fun r h' => am_W (m_W_law L xs) 7 ls (r.toList ++ st) h' Q) := am_ca (o_W_law L xs) rfl (Or.inr (Or.inl rfl)) rfl [v0] st rfl
set_option maxRecDepth 20000 in
theorem k_W_law_7 : am_W (m_W_law L xs) 7 (v0 :: ls) (.ref a :: st) h Q ↔ am_W (m_W_law L xs) 8 (v0 :: .ref a :: ls.tail) st h Q := am_go (q := (8, v0 :: .ref a :: ls.tail, st, h)) (o_W_law L xs) rfl rfl (fun _ => rfl)
set_option maxRecDepth 20000 in
theorem k_W_law_8 : am_W (m_W_law L xs) 8 ls st h Q ↔ am_W (m_W_law L xs) 11 ls (.ref h.1.length :: st) (h.1 ++ [.inr (10, [some none, some none, some none, some none, some none, some none, some none, some none, some none, some none, some none, some none, some none, some none, none, none, none, some none, none, none, none, none, some none, some none, some none, some none, some none, some none, some none, some none, some none, some none, some none, none])], h.2) Q := am_go (q := (11, ls, .ref h.1.length :: st, (h.1 ++ [.inr (10, [some none, some none, some none, some none, some none, some none, some none, some none, some none, some none, some none, some none, some none, some none, none, none, none, some none, none, none, none, none, some none, some none, some none, some none, some none, some none, some none, some none, some none, some none, some none, none])], h.2))) (o_W_law L xs) rfl rfl (fun _ => rfl)
set_option maxRecDepth 20000 in
theorem k_W_law_11 : am_W (m_W_law L xs) 11 ls (.ref a :: st) h Q ↔ am_W (m_W_law L xs) 12 ls (.ref a :: .ref a :: st) h Q := am_go (q := (12, ls, .ref a :: .ref a :: st, h)) (o_W_law L xs) rfl rfl (fun _ => rfl)
set_option maxRecDepth 20000 in
theorem k_W_law_11i : am_W (m_W_law L xs) 11 ls (.int x :: st) h Q ↔ am_W (m_W_law L xs) 12 ls (.int x :: .int x :: st) h Q := am_go (q := (12, ls, .int x :: .int x :: st, h)) (o_W_law L xs) rfl rfl (fun _ => rfl)
set_option maxRecDepth 20000 in
theorem k_W_law_12 : am_W (m_W_law L xs) 12 ls (v0 :: st) h Q ↔ (st.length ≤ 8 ∧ am_rc h [v0] (some 10) = true) ∧ am_C f_M_init [v0] h (fun r h' => am_W (m_W_law L xs) 15 ls (r.toList ++ st) h' Q) := am_ca (o_W_law L xs) rfl (Or.inr (Or.inl rfl)) rfl [v0] st rfl
set_option maxRecDepth 20000 in
theorem k_W_law_15 : am_W (m_W_law L xs) 15 (v0 :: v1 :: ls) (.ref a :: st) h Q ↔ am_W (m_W_law L xs) 16 (v0 :: v1 :: .ref a :: ls.tail) st h Q := am_go (q := (16, v0 :: v1 :: .ref a :: ls.tail, st, h)) (o_W_law L xs) rfl rfl (fun _ => rfl)
set_option maxRecDepth 20000 in
theorem k_W_law_16 : am_W (m_W_law L xs) 16 ls st h Q ↔ am_W (m_W_law L xs) 17 ls (.int 0 :: st) h Q := am_go (q := (17, ls, .int 0 :: st, h)) (o_W_law L xs) rfl rfl (fun _ => rfl)
set_option maxRecDepth 20000 in
theorem k_W_law_17 : am_W (m_W_law L xs) 17 (v0 :: v1 :: v2 :: ls) (.int x :: st) h Q ↔ am_W (m_W_law L xs) 18 (v0 :: v1 :: v2 :: .int x :: ls.tail) st h Q := am_go (q := (18, v0 :: v1 :: v2 :: .int x :: ls.tail, st, h)) (o_W_law L xs) rfl rfl (fun _ => rfl)
set_option maxRecDepth 20000 in
theorem k_W_law_18 : am_W (m_W_law L xs) 18 (v0 :: v1 :: v2 :: .int x :: ls) st h Q ↔ am_W (m_W_law L xs) 19 (v0 :: v1 :: v2 :: .int x :: ls) (.int x :: st) h Q := am_go (q := (19, v0 :: v1 :: v2 :: .int x :: ls, .int x :: st, h)) (o_W_law L xs) rfl rfl (fun _ => rfl)
set_option maxRecDepth 20000 in
theorem k_W_law_19 : am_W (m_W_law L xs) 19 (.retAddr a :: ls) st h Q ↔ am_W (m_W_law L xs) 20 (.retAddr a :: ls) (.retAddr a :: st) h Q := am_go (q := (20, .retAddr a :: ls, .retAddr a :: st, h)) (o_W_law L xs) rfl rfl (fun _ => rfl)
set_option maxRecDepth 20000 in
theorem k_W_law_20 : am_W (m_W_law L xs) 20 ls (.retAddr a :: st) h Q ↔ am_W (m_W_law L xs) 21 ls (.int (Int32.ofNat L) :: st) h Q := am_slen (o_W_law L xs) rfl rfl
set_option maxRecDepth 20000 in
theorem k_W_law_21 : am_W (m_W_law L xs) 21 ls st h Q ↔ am_W (m_W_law L xs) 22 ls (.int 5 :: st) h Q := am_go (q := (22, ls, .int 5 :: st, h)) (o_W_law L xs) rfl rfl (fun _ => rfl)
set_option maxRecDepth 20000 in
theorem k_W_law_22 : am_W (m_W_law L xs) 22 ls (.int y :: .int x :: st) h Q ↔ am_W (m_W_law L xs) 23 ls (.int (x - y) :: st) h Q := am_go (q := (23, ls, .int (x - y) :: st, h)) (o_W_law L xs) rfl rfl (fun _ => rfl)
set_option maxRecDepth 20000 in
theorem k_W_law_23 : am_W (m_W_law L xs) 23 ls (.int y :: .int x :: st) h Q ↔ (y < x → am_W (m_W_law L xs) 584 ls st h Q) ∧ (¬ y < x → am_W (m_W_law L xs) 26 ls st h Q) := (am_go (q := (if y < x then 584 else 26, ls, st, h)) (o_W_law L xs) rfl rfl (fun _ => rfl)).trans am_ite
set_option maxRecDepth 20000 in
theorem k_W_law_26 : am_W (m_W_law L xs) 26 (.retAddr a :: ls) st h Q ↔ am_W (m_W_law L xs) 27 (.retAddr a :: ls) (.retAddr a :: st) h Q := am_go (q := (27, .retAddr a :: ls, .retAddr a :: st, h)) (o_W_law L xs) rfl rfl (fun _ => rfl)
set_option maxRecDepth 20000 in
theorem k_W_law_27 : am_W (m_W_law L xs) 27 (v0 :: v1 :: v2 :: .int x :: ls) st h Q ↔ am_W (m_W_law L xs) 28 (v0 :: v1 :: v2 :: .int x :: ls) (.int x :: st) h Q := am_go (q := (28, v0 :: v1 :: v2 :: .int x :: ls, .int x :: st, h)) (o_W_law L xs) rfl rfl (fun _ => rfl)
set_option maxRecDepth 20000 in
theorem k_W_law_28 : am_W (m_W_law L xs) 28 ls (.int x :: .ref a :: st) h Q ↔ am_ob (am_ld h 0 a x) (fun v => am_W (m_W_law L xs) 29 ls (.int v :: st) h Q) := am_iald (o_W_law L xs) rfl
set_option maxRecDepth 20000 in
theorem k_W_law_28s : am_W (m_W_law L xs) 28 ls (.int x :: .retAddr a :: st) h Q ↔ am_ob (am_sld (m_W_law L xs) x) (fun v => am_W (m_W_law L xs) 29 ls (.int v :: st) h Q) := am_sald (o_W_law L xs) rfl
set_option maxRecDepth 20000 in
theorem k_W_law_29 : am_W (m_W_law L xs) 29 ls st h Q ↔ am_W (m_W_law L xs) 31 ls (.int 31 :: st) h Q := am_go (q := (31, ls, .int 31 :: st, h)) (o_W_law L xs) rfl rfl (fun _ => rfl)
set_option maxRecDepth 20000 in
theorem k_W_law_31 : am_W (m_W_law L xs) 31 ls (.int y :: .int x :: st) h Q ↔ am_W (m_W_law L xs) 32 ls (.int (x &&& y) :: st) h Q := am_go (q := (32, ls, .int (x &&& y) :: st, h)) (o_W_law L xs) rfl rfl (fun _ => rfl)
set_option maxRecDepth 20000 in
theorem k_W_law_32 : am_W (m_W_law L xs) 32 ls (.int x :: st) h Q ↔ am_W (m_W_law L xs) (am_tsw 32 546 0 19 #[96, 119, 172, 225, 278, 291, 304, 317, 330, 343, 356, 379, 402, 415, 428, 441, 464, 477, 500, 513] x) ls st h Q := am_go (q := (am_tsw 32 546 0 19 #[96, 119, 172, 225, 278, 291, 304, 317, 330, 343, 356, 379, 402, 415, 428, 441, 464, 477, 500, 513] x, ls, st, h)) (o_W_law L xs) rfl rfl (fun _ => rfl)
set_option maxRecDepth 20000 in
theorem k_W_law_128 : am_W (m_W_law L xs) 128 (v0 :: .ref a :: ls) st h Q ↔ am_W (m_W_law L xs) 129 (v0 :: .ref a :: ls) (.ref a :: st) h Q := am_go (q := (129, v0 :: .ref a :: ls, .ref a :: st, h)) (o_W_law L xs) rfl rfl (fun _ => rfl)
set_option maxRecDepth 20000 in
theorem k_W_law_129 : am_W (m_W_law L xs) 129 (.retAddr a :: ls) st h Q ↔ am_W (m_W_law L xs) 130 (.retAddr a :: ls) (.retAddr a :: st) h Q := am_go (q := (130, .retAddr a :: ls, .retAddr a :: st, h)) (o_W_law L xs) rfl rfl (fun _ => rfl)
set_option maxRecDepth 20000 in
theorem k_W_law_130 : am_W (m_W_law L xs) 130 (v0 :: v1 :: v2 :: .int x :: ls) st h Q ↔ am_W (m_W_law L xs) 131 (v0 :: v1 :: v2 :: .int x :: ls) (.int x :: st) h Q := am_go (q := (131, v0 :: v1 :: v2 :: .int x :: ls, .int x :: st, h)) (o_W_law L xs) rfl rfl (fun _ => rfl)
set_option maxRecDepth 20000 in
theorem k_W_law_131 : am_W (m_W_law L xs) 131 ls st h Q ↔ am_W (m_W_law L xs) 132 ls (.int 1 :: st) h Q := am_go (q := (132, ls, .int 1 :: st, h)) (o_W_law L xs) rfl rfl (fun _ => rfl)
set_option maxRecDepth 20000 in
theorem k_W_law_132 : am_W (m_W_law L xs) 132 ls (.int y :: .int x :: st) h Q ↔ am_W (m_W_law L xs) 133 ls (.int (x + y) :: st) h Q := am_go (q := (133, ls, .int (x + y) :: st, h)) (o_W_law L xs) rfl rfl (fun _ => rfl)
set_option maxRecDepth 20000 in
theorem k_W_law_133 : am_W (m_W_law L xs) 133 ls (.int x :: .ref a :: st) h Q ↔ am_ob (am_ld h 0 a x) (fun v => am_W (m_W_law L xs) 134 ls (.int v :: st) h Q) := am_iald (o_W_law L xs) rfl
set_option maxRecDepth 20000 in
theorem k_W_law_133s : am_W (m_W_law L xs) 133 ls (.int x :: .retAddr a :: st) h Q ↔ am_ob (am_sld (m_W_law L xs) x) (fun v => am_W (m_W_law L xs) 134 ls (.int v :: st) h Q) := am_sald (o_W_law L xs) rfl
set_option maxRecDepth 20000 in
theorem k_W_law_134 : am_W (m_W_law L xs) 134 ls (v1 :: v0 :: st) h Q ↔ (st.length ≤ 8 ∧ am_rc h [v0, v1] (some 9) = true) ∧ am_C f_X_layout [v0, v1] h (fun r h' => am_W (m_W_law L xs) 137 ls (r.toList ++ st) h' Q) := am_ca (o_W_law L xs) rfl (Or.inl rfl) rfl [v0, v1] st rfl
set_option maxRecDepth 20000 in
theorem k_W_law_137 : am_W (m_W_law L xs) 137 (v0 :: v1 :: .ref a :: ls) st h Q ↔ am_W (m_W_law L xs) 138 (v0 :: v1 :: .ref a :: ls) (.ref a :: st) h Q := am_go (q := (138, v0 :: v1 :: .ref a :: ls, .ref a :: st, h)) (o_W_law L xs) rfl rfl (fun _ => rfl)
set_option maxRecDepth 20000 in
theorem k_W_law_138 : am_W (m_W_law L xs) 138 (.retAddr a :: ls) st h Q ↔ am_W (m_W_law L xs) 139 (.retAddr a :: ls) (.retAddr a :: st) h Q := am_go (q := (139, .retAddr a :: ls, .retAddr a :: st, h)) (o_W_law L xs) rfl rfl (fun _ => rfl)
set_option maxRecDepth 20000 in
theorem k_W_law_139 : am_W (m_W_law L xs) 139 (v0 :: v1 :: v2 :: .int x :: ls) st h Q ↔ am_W (m_W_law L xs) 140 (v0 :: v1 :: v2 :: .int x :: ls) (.int x :: st) h Q := am_go (q := (140, v0 :: v1 :: v2 :: .int x :: ls, .int x :: st, h)) (o_W_law L xs) rfl rfl (fun _ => rfl)
set_option maxRecDepth 20000 in
theorem k_W_law_140 : am_W (m_W_law L xs) 140 ls st h Q ↔ am_W (m_W_law L xs) 141 ls (.int 1 :: st) h Q := am_go (q := (141, ls, .int 1 :: st, h)) (o_W_law L xs) rfl rfl (fun _ => rfl)
set_option maxRecDepth 20000 in
theorem k_W_law_141 : am_W (m_W_law L xs) 141 ls (.int y :: .int x :: st) h Q ↔ am_W (m_W_law L xs) 142 ls (.int (x + y) :: st) h Q := am_go (q := (142, ls, .int (x + y) :: st, h)) (o_W_law L xs) rfl rfl (fun _ => rfl)
set_option maxRecDepth 20000 in
theorem k_W_law_142 : am_W (m_W_law L xs) 142 ls (.int x :: .ref a :: st) h Q ↔ am_ob (am_ld h 0 a x) (fun v => am_W (m_W_law L xs) 143 ls (.int v :: st) h Q) := am_iald (o_W_law L xs) rfl
set_option maxRecDepth 20000 in
theorem k_W_law_142s : am_W (m_W_law L xs) 142 ls (.int x :: .retAddr a :: st) h Q ↔ am_ob (am_sld (m_W_law L xs) x) (fun v => am_W (m_W_law L xs) 143 ls (.int v :: st) h Q) := am_sald (o_W_law L xs) rfl
set_option maxRecDepth 20000 in
theorem k_W_law_143 : am_W (m_W_law L xs) 143 ls (v1 :: v0 :: st) h Q ↔ (st.length ≤ 8 ∧ am_rc h [v0, v1] (some 10) = true) ∧ am_C f_M_layout [v0, v1] h (fun r h' => am_W (m_W_law L xs) 146 ls (r.toList ++ st) h' Q) := am_ca (o_W_law L xs) rfl (Or.inl rfl) rfl [v0, v1] st rfl
set_option maxRecDepth 20000 in
theorem k_W_law_146 : am_W (m_W_law L xs) 146 ls (.int y :: .int x :: st) h Q ↔ (x = y → am_W (m_W_law L xs) 578 ls st h Q) ∧ (¬ x = y → am_W (m_W_law L xs) 149 ls st h Q) := (am_go (q := (if x = y then 578 else 149, ls, st, h)) (o_W_law L xs) rfl rfl (fun _ => rfl)).trans am_ite
set_option maxRecDepth 20000 in
theorem k_W_law_149 : am_W (m_W_law L xs) 149 ls st h Q ↔ am_W (m_W_law L xs) 150 ls (.int 0 :: st) h Q := am_go (q := (150, ls, .int 0 :: st, h)) (o_W_law L xs) rfl rfl (fun _ => rfl)
set_option maxRecDepth 20000 in
theorem k_W_law_150 : am_W (m_W_law L xs) 150 ls [.int x] h Q ↔ (x = 0 ∨ x = 1) ∧ Q (some (.int x)) h := am_zret rfl rfl
set_option maxRecDepth 20000 in
theorem k_W_law_151 : am_W (m_W_law L xs) 151 (v0 :: .ref a :: ls) st h Q ↔ am_W (m_W_law L xs) 152 (v0 :: .ref a :: ls) (.ref a :: st) h Q := am_go (q := (152, v0 :: .ref a :: ls, .ref a :: st, h)) (o_W_law L xs) rfl rfl (fun _ => rfl)
set_option maxRecDepth 20000 in
theorem k_W_law_152 : am_W (m_W_law L xs) 152 (.retAddr a :: ls) st h Q ↔ am_W (m_W_law L xs) 153 (.retAddr a :: ls) (.retAddr a :: st) h Q := am_go (q := (153, .retAddr a :: ls, .retAddr a :: st, h)) (o_W_law L xs) rfl rfl (fun _ => rfl)
set_option maxRecDepth 20000 in
theorem k_W_law_153 : am_W (m_W_law L xs) 153 (v0 :: v1 :: v2 :: .int x :: ls) st h Q ↔ am_W (m_W_law L xs) 154 (v0 :: v1 :: v2 :: .int x :: ls) (.int x :: st) h Q := am_go (q := (154, v0 :: v1 :: v2 :: .int x :: ls, .int x :: st, h)) (o_W_law L xs) rfl rfl (fun _ => rfl)
set_option maxRecDepth 20000 in
theorem k_W_law_154 : am_W (m_W_law L xs) 154 ls st h Q ↔ am_W (m_W_law L xs) 155 ls (.int 1 :: st) h Q := am_go (q := (155, ls, .int 1 :: st, h)) (o_W_law L xs) rfl rfl (fun _ => rfl)
set_option maxRecDepth 20000 in
theorem k_W_law_155 : am_W (m_W_law L xs) 155 ls (.int y :: .int x :: st) h Q ↔ am_W (m_W_law L xs) 156 ls (.int (x + y) :: st) h Q := am_go (q := (156, ls, .int (x + y) :: st, h)) (o_W_law L xs) rfl rfl (fun _ => rfl)
set_option maxRecDepth 20000 in
theorem k_W_law_156 : am_W (m_W_law L xs) 156 ls (.int x :: .ref a :: st) h Q ↔ am_ob (am_ld h 0 a x) (fun v => am_W (m_W_law L xs) 157 ls (.int v :: st) h Q) := am_iald (o_W_law L xs) rfl
set_option maxRecDepth 20000 in
theorem k_W_law_156s : am_W (m_W_law L xs) 156 ls (.int x :: .retAddr a :: st) h Q ↔ am_ob (am_sld (m_W_law L xs) x) (fun v => am_W (m_W_law L xs) 157 ls (.int v :: st) h Q) := am_sald (o_W_law L xs) rfl
set_option maxRecDepth 20000 in
theorem k_W_law_157 : am_W (m_W_law L xs) 157 (.retAddr a :: ls) st h Q ↔ am_W (m_W_law L xs) 158 (.retAddr a :: ls) (.retAddr a :: st) h Q := am_go (q := (158, .retAddr a :: ls, .retAddr a :: st, h)) (o_W_law L xs) rfl rfl (fun _ => rfl)
set_option maxRecDepth 20000 in
theorem k_W_law_158 : am_W (m_W_law L xs) 158 (v0 :: v1 :: v2 :: .int x :: ls) st h Q ↔ am_W (m_W_law L xs) 159 (v0 :: v1 :: v2 :: .int x :: ls) (.int x :: st) h Q := am_go (q := (159, v0 :: v1 :: v2 :: .int x :: ls, .int x :: st, h)) (o_W_law L xs) rfl rfl (fun _ => rfl)
set_option maxRecDepth 20000 in
theorem k_W_law_159 : am_W (m_W_law L xs) 159 ls st h Q ↔ am_W (m_W_law L xs) 160 ls (.int 2 :: st) h Q := am_go (q := (160, ls, .int 2 :: st, h)) (o_W_law L xs) rfl rfl (fun _ => rfl)
set_option maxRecDepth 20000 in
theorem k_W_law_160 : am_W (m_W_law L xs) 160 ls (.int y :: .int x :: st) h Q ↔ am_W (m_W_law L xs) 161 ls (.int (x + y) :: st) h Q := am_go (q := (161, ls, .int (x + y) :: st, h)) (o_W_law L xs) rfl rfl (fun _ => rfl)
set_option maxRecDepth 20000 in
theorem k_W_law_161 : am_W (m_W_law L xs) 161 ls (.int x :: .ref a :: st) h Q ↔ am_ob (am_ld h 0 a x) (fun v => am_W (m_W_law L xs) 162 ls (.int v :: st) h Q) := am_iald (o_W_law L xs) rfl
set_option maxRecDepth 20000 in
theorem k_W_law_161s : am_W (m_W_law L xs) 161 ls (.int x :: .retAddr a :: st) h Q ↔ am_ob (am_sld (m_W_law L xs) x) (fun v => am_W (m_W_law L xs) 162 ls (.int v :: st) h Q) := am_sald (o_W_law L xs) rfl
set_option maxRecDepth 20000 in
theorem k_W_law_162 : am_W (m_W_law L xs) 162 (.retAddr a :: ls) st h Q ↔ am_W (m_W_law L xs) 163 (.retAddr a :: ls) (.retAddr a :: st) h Q := am_go (q := (163, .retAddr a :: ls, .retAddr a :: st, h)) (o_W_law L xs) rfl rfl (fun _ => rfl)
set_option maxRecDepth 20000 in
theorem k_W_law_163 : am_W (m_W_law L xs) 163 (v0 :: v1 :: v2 :: .int x :: ls) st h Q ↔ am_W (m_W_law L xs) 164 (v0 :: v1 :: v2 :: .int x :: ls) (.int x :: st) h Q := am_go (q := (164, v0 :: v1 :: v2 :: .int x :: ls, .int x :: st, h)) (o_W_law L xs) rfl rfl (fun _ => rfl)
set_option maxRecDepth 20000 in
theorem k_W_law_164 : am_W (m_W_law L xs) 164 ls st h Q ↔ am_W (m_W_law L xs) 165 ls (.int 3 :: st) h Q := am_go (q := (165, ls, .int 3 :: st, h)) (o_W_law L xs) rfl rfl (fun _ => rfl)
set_option maxRecDepth 20000 in
theorem k_W_law_165 : am_W (m_W_law L xs) 165 ls (.int y :: .int x :: st) h Q ↔ am_W (m_W_law L xs) 166 ls (.int (x + y) :: st) h Q := am_go (q := (166, ls, .int (x + y) :: st, h)) (o_W_law L xs) rfl rfl (fun _ => rfl)
set_option maxRecDepth 20000 in
theorem k_W_law_166 : am_W (m_W_law L xs) 166 ls (.int x :: .ref a :: st) h Q ↔ am_ob (am_ld h 0 a x) (fun v => am_W (m_W_law L xs) 167 ls (.int v :: st) h Q) := am_iald (o_W_law L xs) rfl
set_option maxRecDepth 20000 in
theorem k_W_law_166s : am_W (m_W_law L xs) 166 ls (.int x :: .retAddr a :: st) h Q ↔ am_ob (am_sld (m_W_law L xs) x) (fun v => am_W (m_W_law L xs) 167 ls (.int v :: st) h Q) := am_sald (o_W_law L xs) rfl
set_option maxRecDepth 20000 in
theorem k_W_law_167 : am_W (m_W_law L xs) 167 (.retAddr a :: ls) st h Q ↔ am_W (m_W_law L xs) 168 (.retAddr a :: ls) (.retAddr a :: st) h Q := am_go (q := (168, .retAddr a :: ls, .retAddr a :: st, h)) (o_W_law L xs) rfl rfl (fun _ => rfl)
set_option maxRecDepth 20000 in
theorem k_W_law_168 : am_W (m_W_law L xs) 168 (v0 :: v1 :: v2 :: .int x :: ls) st h Q ↔ am_W (m_W_law L xs) 169 (v0 :: v1 :: v2 :: .int x :: ls) (.int x :: st) h Q := am_go (q := (169, v0 :: v1 :: v2 :: .int x :: ls, .int x :: st, h)) (o_W_law L xs) rfl rfl (fun _ => rfl)
set_option maxRecDepth 20000 in
theorem k_W_law_169 : am_W (m_W_law L xs) 169 ls st h Q ↔ am_W (m_W_law L xs) 170 ls (.int 4 :: st) h Q := am_go (q := (170, ls, .int 4 :: st, h)) (o_W_law L xs) rfl rfl (fun _ => rfl)
set_option maxRecDepth 20000 in
theorem k_W_law_170 : am_W (m_W_law L xs) 170 ls (.int y :: .int x :: st) h Q ↔ am_W (m_W_law L xs) 171 ls (.int (x + y) :: st) h Q := am_go (q := (171, ls, .int (x + y) :: st, h)) (o_W_law L xs) rfl rfl (fun _ => rfl)
set_option maxRecDepth 20000 in
theorem k_W_law_171 : am_W (m_W_law L xs) 171 ls (.int x :: .ref a :: st) h Q ↔ am_ob (am_ld h 0 a x) (fun v => am_W (m_W_law L xs) 172 ls (.int v :: st) h Q) := am_iald (o_W_law L xs) rfl
set_option maxRecDepth 20000 in
theorem k_W_law_171s : am_W (m_W_law L xs) 171 ls (.int x :: .retAddr a :: st) h Q ↔ am_ob (am_sld (m_W_law L xs) x) (fun v => am_W (m_W_law L xs) 172 ls (.int v :: st) h Q) := am_sald (o_W_law L xs) rfl
set_option maxRecDepth 20000 in
theorem k_W_law_172 : am_W (m_W_law L xs) 172 ls (v4 :: v3 :: v2 :: v1 :: v0 :: st) h Q ↔ (st.length ≤ 8 ∧ am_rc h [v0, v1, v2, v3, v4] (some 9) = true) ∧ am_C f_X_field [v0, v1, v2, v3, v4] h (fun r h' => am_W (m_W_law L xs) 175 ls (r.toList ++ st) h' Q) := am_ca (o_W_law L xs) rfl (Or.inl rfl) rfl [v0, v1, v2, v3, v4] st rfl
set_option maxRecDepth 20000 in
theorem k_W_law_175 : am_W (m_W_law L xs) 175 (v0 :: v1 :: .ref a :: ls) st h Q ↔ am_W (m_W_law L xs) 176 (v0 :: v1 :: .ref a :: ls) (.ref a :: st) h Q := am_go (q := (176, v0 :: v1 :: .ref a :: ls, .ref a :: st, h)) (o_W_law L xs) rfl rfl (fun _ => rfl)
set_option maxRecDepth 20000 in
theorem k_W_law_176 : am_W (m_W_law L xs) 176 (.retAddr a :: ls) st h Q ↔ am_W (m_W_law L xs) 177 (.retAddr a :: ls) (.retAddr a :: st) h Q := am_go (q := (177, .retAddr a :: ls, .retAddr a :: st, h)) (o_W_law L xs) rfl rfl (fun _ => rfl)
set_option maxRecDepth 20000 in
theorem k_W_law_177 : am_W (m_W_law L xs) 177 (v0 :: v1 :: v2 :: .int x :: ls) st h Q ↔ am_W (m_W_law L xs) 178 (v0 :: v1 :: v2 :: .int x :: ls) (.int x :: st) h Q := am_go (q := (178, v0 :: v1 :: v2 :: .int x :: ls, .int x :: st, h)) (o_W_law L xs) rfl rfl (fun _ => rfl)
set_option maxRecDepth 20000 in
theorem k_W_law_178 : am_W (m_W_law L xs) 178 ls st h Q ↔ am_W (m_W_law L xs) 179 ls (.int 1 :: st) h Q := am_go (q := (179, ls, .int 1 :: st, h)) (o_W_law L xs) rfl rfl (fun _ => rfl)
set_option maxRecDepth 20000 in
theorem k_W_law_179 : am_W (m_W_law L xs) 179 ls (.int y :: .int x :: st) h Q ↔ am_W (m_W_law L xs) 180 ls (.int (x + y) :: st) h Q := am_go (q := (180, ls, .int (x + y) :: st, h)) (o_W_law L xs) rfl rfl (fun _ => rfl)
set_option maxRecDepth 20000 in
theorem k_W_law_180 : am_W (m_W_law L xs) 180 ls (.int x :: .ref a :: st) h Q ↔ am_ob (am_ld h 0 a x) (fun v => am_W (m_W_law L xs) 181 ls (.int v :: st) h Q) := am_iald (o_W_law L xs) rfl
set_option maxRecDepth 20000 in
theorem k_W_law_180s : am_W (m_W_law L xs) 180 ls (.int x :: .retAddr a :: st) h Q ↔ am_ob (am_sld (m_W_law L xs) x) (fun v => am_W (m_W_law L xs) 181 ls (.int v :: st) h Q) := am_sald (o_W_law L xs) rfl
set_option maxRecDepth 20000 in
theorem k_W_law_181 : am_W (m_W_law L xs) 181 (.retAddr a :: ls) st h Q ↔ am_W (m_W_law L xs) 182 (.retAddr a :: ls) (.retAddr a :: st) h Q := am_go (q := (182, .retAddr a :: ls, .retAddr a :: st, h)) (o_W_law L xs) rfl rfl (fun _ => rfl)
set_option maxRecDepth 20000 in
theorem k_W_law_182 : am_W (m_W_law L xs) 182 (v0 :: v1 :: v2 :: .int x :: ls) st h Q ↔ am_W (m_W_law L xs) 183 (v0 :: v1 :: v2 :: .int x :: ls) (.int x :: st) h Q := am_go (q := (183, v0 :: v1 :: v2 :: .int x :: ls, .int x :: st, h)) (o_W_law L xs) rfl rfl (fun _ => rfl)
set_option maxRecDepth 20000 in
theorem k_W_law_183 : am_W (m_W_law L xs) 183 ls st h Q ↔ am_W (m_W_law L xs) 184 ls (.int 2 :: st) h Q := am_go (q := (184, ls, .int 2 :: st, h)) (o_W_law L xs) rfl rfl (fun _ => rfl)
set_option maxRecDepth 20000 in
theorem k_W_law_184 : am_W (m_W_law L xs) 184 ls (.int y :: .int x :: st) h Q ↔ am_W (m_W_law L xs) 185 ls (.int (x + y) :: st) h Q := am_go (q := (185, ls, .int (x + y) :: st, h)) (o_W_law L xs) rfl rfl (fun _ => rfl)
set_option maxRecDepth 20000 in
theorem k_W_law_185 : am_W (m_W_law L xs) 185 ls (.int x :: .ref a :: st) h Q ↔ am_ob (am_ld h 0 a x) (fun v => am_W (m_W_law L xs) 186 ls (.int v :: st) h Q) := am_iald (o_W_law L xs) rfl
set_option maxRecDepth 20000 in
theorem k_W_law_185s : am_W (m_W_law L xs) 185 ls (.int x :: .retAddr a :: st) h Q ↔ am_ob (am_sld (m_W_law L xs) x) (fun v => am_W (m_W_law L xs) 186 ls (.int v :: st) h Q) := am_sald (o_W_law L xs) rfl
set_option maxRecDepth 20000 in
theorem k_W_law_186 : am_W (m_W_law L xs) 186 (.retAddr a :: ls) st h Q ↔ am_W (m_W_law L xs) 187 (.retAddr a :: ls) (.retAddr a :: st) h Q := am_go (q := (187, .retAddr a :: ls, .retAddr a :: st, h)) (o_W_law L xs) rfl rfl (fun _ => rfl)
set_option maxRecDepth 20000 in
theorem k_W_law_187 : am_W (m_W_law L xs) 187 (v0 :: v1 :: v2 :: .int x :: ls) st h Q ↔ am_W (m_W_law L xs) 188 (v0 :: v1 :: v2 :: .int x :: ls) (.int x :: st) h Q := am_go (q := (188, v0 :: v1 :: v2 :: .int x :: ls, .int x :: st, h)) (o_W_law L xs) rfl rfl (fun _ => rfl)
set_option maxRecDepth 20000 in
theorem k_W_law_188 : am_W (m_W_law L xs) 188 ls st h Q ↔ am_W (m_W_law L xs) 189 ls (.int 3 :: st) h Q := am_go (q := (189, ls, .int 3 :: st, h)) (o_W_law L xs) rfl rfl (fun _ => rfl)
set_option maxRecDepth 20000 in
theorem k_W_law_189 : am_W (m_W_law L xs) 189 ls (.int y :: .int x :: st) h Q ↔ am_W (m_W_law L xs) 190 ls (.int (x + y) :: st) h Q := am_go (q := (190, ls, .int (x + y) :: st, h)) (o_W_law L xs) rfl rfl (fun _ => rfl)
set_option maxRecDepth 20000 in
theorem k_W_law_190 : am_W (m_W_law L xs) 190 ls (.int x :: .ref a :: st) h Q ↔ am_ob (am_ld h 0 a x) (fun v => am_W (m_W_law L xs) 191 ls (.int v :: st) h Q) := am_iald (o_W_law L xs) rfl
set_option maxRecDepth 20000 in
theorem k_W_law_190s : am_W (m_W_law L xs) 190 ls (.int x :: .retAddr a :: st) h Q ↔ am_ob (am_sld (m_W_law L xs) x) (fun v => am_W (m_W_law L xs) 191 ls (.int v :: st) h Q) := am_sald (o_W_law L xs) rfl
set_option maxRecDepth 20000 in
theorem k_W_law_191 : am_W (m_W_law L xs) 191 (.retAddr a :: ls) st h Q ↔ am_W (m_W_law L xs) 192 (.retAddr a :: ls) (.retAddr a :: st) h Q := am_go (q := (192, .retAddr a :: ls, .retAddr a :: st, h)) (o_W_law L xs) rfl rfl (fun _ => rfl)
set_option maxRecDepth 20000 in
theorem k_W_law_192 : am_W (m_W_law L xs) 192 (v0 :: v1 :: v2 :: .int x :: ls) st h Q ↔ am_W (m_W_law L xs) 193 (v0 :: v1 :: v2 :: .int x :: ls) (.int x :: st) h Q := am_go (q := (193, v0 :: v1 :: v2 :: .int x :: ls, .int x :: st, h)) (o_W_law L xs) rfl rfl (fun _ => rfl)
set_option maxRecDepth 20000 in
theorem k_W_law_193 : am_W (m_W_law L xs) 193 ls st h Q ↔ am_W (m_W_law L xs) 194 ls (.int 4 :: st) h Q := am_go (q := (194, ls, .int 4 :: st, h)) (o_W_law L xs) rfl rfl (fun _ => rfl)
set_option maxRecDepth 20000 in
theorem k_W_law_194 : am_W (m_W_law L xs) 194 ls (.int y :: .int x :: st) h Q ↔ am_W (m_W_law L xs) 195 ls (.int (x + y) :: st) h Q := am_go (q := (195, ls, .int (x + y) :: st, h)) (o_W_law L xs) rfl rfl (fun _ => rfl)
set_option maxRecDepth 20000 in
theorem k_W_law_195 : am_W (m_W_law L xs) 195 ls (.int x :: .ref a :: st) h Q ↔ am_ob (am_ld h 0 a x) (fun v => am_W (m_W_law L xs) 196 ls (.int v :: st) h Q) := am_iald (o_W_law L xs) rfl
set_option maxRecDepth 20000 in
theorem k_W_law_195s : am_W (m_W_law L xs) 195 ls (.int x :: .retAddr a :: st) h Q ↔ am_ob (am_sld (m_W_law L xs) x) (fun v => am_W (m_W_law L xs) 196 ls (.int v :: st) h Q) := am_sald (o_W_law L xs) rfl
set_option maxRecDepth 20000 in
theorem k_W_law_196 : am_W (m_W_law L xs) 196 ls (v4 :: v3 :: v2 :: v1 :: v0 :: st) h Q ↔ (st.length ≤ 8 ∧ am_rc h [v0, v1, v2, v3, v4] (some 10) = true) ∧ am_C f_M_field [v0, v1, v2, v3, v4] h (fun r h' => am_W (m_W_law L xs) 199 ls (r.toList ++ st) h' Q) := am_ca (o_W_law L xs) rfl (Or.inl rfl) rfl [v0, v1, v2, v3, v4] st rfl
set_option maxRecDepth 20000 in
theorem k_W_law_199 : am_W (m_W_law L xs) 199 ls (.int y :: .int x :: st) h Q ↔ (x = y → am_W (m_W_law L xs) 578 ls st h Q) ∧ (¬ x = y → am_W (m_W_law L xs) 202 ls st h Q) := (am_go (q := (if x = y then 578 else 202, ls, st, h)) (o_W_law L xs) rfl rfl (fun _ => rfl)).trans am_ite
set_option maxRecDepth 20000 in
theorem k_W_law_202 : am_W (m_W_law L xs) 202 ls st h Q ↔ am_W (m_W_law L xs) 203 ls (.int 0 :: st) h Q := am_go (q := (203, ls, .int 0 :: st, h)) (o_W_law L xs) rfl rfl (fun _ => rfl)
set_option maxRecDepth 20000 in
theorem k_W_law_203 : am_W (m_W_law L xs) 203 ls [.int x] h Q ↔ (x = 0 ∨ x = 1) ∧ Q (some (.int x)) h := am_zret rfl rfl
set_option maxRecDepth 20000 in
theorem k_W_law_204 : am_W (m_W_law L xs) 204 (v0 :: .ref a :: ls) st h Q ↔ am_W (m_W_law L xs) 205 (v0 :: .ref a :: ls) (.ref a :: st) h Q := am_go (q := (205, v0 :: .ref a :: ls, .ref a :: st, h)) (o_W_law L xs) rfl rfl (fun _ => rfl)
set_option maxRecDepth 20000 in
theorem k_W_law_205 : am_W (m_W_law L xs) 205 (.retAddr a :: ls) st h Q ↔ am_W (m_W_law L xs) 206 (.retAddr a :: ls) (.retAddr a :: st) h Q := am_go (q := (206, .retAddr a :: ls, .retAddr a :: st, h)) (o_W_law L xs) rfl rfl (fun _ => rfl)
set_option maxRecDepth 20000 in
theorem k_W_law_206 : am_W (m_W_law L xs) 206 (v0 :: v1 :: v2 :: .int x :: ls) st h Q ↔ am_W (m_W_law L xs) 207 (v0 :: v1 :: v2 :: .int x :: ls) (.int x :: st) h Q := am_go (q := (207, v0 :: v1 :: v2 :: .int x :: ls, .int x :: st, h)) (o_W_law L xs) rfl rfl (fun _ => rfl)
set_option maxRecDepth 20000 in
theorem k_W_law_207 : am_W (m_W_law L xs) 207 ls st h Q ↔ am_W (m_W_law L xs) 208 ls (.int 1 :: st) h Q := am_go (q := (208, ls, .int 1 :: st, h)) (o_W_law L xs) rfl rfl (fun _ => rfl)
set_option maxRecDepth 20000 in
theorem k_W_law_208 : am_W (m_W_law L xs) 208 ls (.int y :: .int x :: st) h Q ↔ am_W (m_W_law L xs) 209 ls (.int (x + y) :: st) h Q := am_go (q := (209, ls, .int (x + y) :: st, h)) (o_W_law L xs) rfl rfl (fun _ => rfl)
set_option maxRecDepth 20000 in
theorem k_W_law_209 : am_W (m_W_law L xs) 209 ls (.int x :: .ref a :: st) h Q ↔ am_ob (am_ld h 0 a x) (fun v => am_W (m_W_law L xs) 210 ls (.int v :: st) h Q) := am_iald (o_W_law L xs) rfl
set_option maxRecDepth 20000 in
theorem k_W_law_209s : am_W (m_W_law L xs) 209 ls (.int x :: .retAddr a :: st) h Q ↔ am_ob (am_sld (m_W_law L xs) x) (fun v => am_W (m_W_law L xs) 210 ls (.int v :: st) h Q) := am_sald (o_W_law L xs) rfl
set_option maxRecDepth 20000 in
theorem k_W_law_210 : am_W (m_W_law L xs) 210 (.retAddr a :: ls) st h Q ↔ am_W (m_W_law L xs) 211 (.retAddr a :: ls) (.retAddr a :: st) h Q := am_go (q := (211, .retAddr a :: ls, .retAddr a :: st, h)) (o_W_law L xs) rfl rfl (fun _ => rfl)
set_option maxRecDepth 20000 in
theorem k_W_law_211 : am_W (m_W_law L xs) 211 (v0 :: v1 :: v2 :: .int x :: ls) st h Q ↔ am_W (m_W_law L xs) 212 (v0 :: v1 :: v2 :: .int x :: ls) (.int x :: st) h Q := am_go (q := (212, v0 :: v1 :: v2 :: .int x :: ls, .int x :: st, h)) (o_W_law L xs) rfl rfl (fun _ => rfl)
set_option maxRecDepth 20000 in
theorem k_W_law_212 : am_W (m_W_law L xs) 212 ls st h Q ↔ am_W (m_W_law L xs) 213 ls (.int 2 :: st) h Q := am_go (q := (213, ls, .int 2 :: st, h)) (o_W_law L xs) rfl rfl (fun _ => rfl)
set_option maxRecDepth 20000 in
theorem k_W_law_213 : am_W (m_W_law L xs) 213 ls (.int y :: .int x :: st) h Q ↔ am_W (m_W_law L xs) 214 ls (.int (x + y) :: st) h Q := am_go (q := (214, ls, .int (x + y) :: st, h)) (o_W_law L xs) rfl rfl (fun _ => rfl)
set_option maxRecDepth 20000 in
theorem k_W_law_214 : am_W (m_W_law L xs) 214 ls (.int x :: .ref a :: st) h Q ↔ am_ob (am_ld h 0 a x) (fun v => am_W (m_W_law L xs) 215 ls (.int v :: st) h Q) := am_iald (o_W_law L xs) rfl
set_option maxRecDepth 20000 in
theorem k_W_law_214s : am_W (m_W_law L xs) 214 ls (.int x :: .retAddr a :: st) h Q ↔ am_ob (am_sld (m_W_law L xs) x) (fun v => am_W (m_W_law L xs) 215 ls (.int v :: st) h Q) := am_sald (o_W_law L xs) rfl
set_option maxRecDepth 20000 in
theorem k_W_law_215 : am_W (m_W_law L xs) 215 (.retAddr a :: ls) st h Q ↔ am_W (m_W_law L xs) 216 (.retAddr a :: ls) (.retAddr a :: st) h Q := am_go (q := (216, .retAddr a :: ls, .retAddr a :: st, h)) (o_W_law L xs) rfl rfl (fun _ => rfl)
set_option maxRecDepth 20000 in
theorem k_W_law_216 : am_W (m_W_law L xs) 216 (v0 :: v1 :: v2 :: .int x :: ls) st h Q ↔ am_W (m_W_law L xs) 217 (v0 :: v1 :: v2 :: .int x :: ls) (.int x :: st) h Q := am_go (q := (217, v0 :: v1 :: v2 :: .int x :: ls, .int x :: st, h)) (o_W_law L xs) rfl rfl (fun _ => rfl)
set_option maxRecDepth 20000 in
theorem k_W_law_217 : am_W (m_W_law L xs) 217 ls st h Q ↔ am_W (m_W_law L xs) 218 ls (.int 3 :: st) h Q := am_go (q := (218, ls, .int 3 :: st, h)) (o_W_law L xs) rfl rfl (fun _ => rfl)
set_option maxRecDepth 20000 in
theorem k_W_law_218 : am_W (m_W_law L xs) 218 ls (.int y :: .int x :: st) h Q ↔ am_W (m_W_law L xs) 219 ls (.int (x + y) :: st) h Q := am_go (q := (219, ls, .int (x + y) :: st, h)) (o_W_law L xs) rfl rfl (fun _ => rfl)
set_option maxRecDepth 20000 in
theorem k_W_law_219 : am_W (m_W_law L xs) 219 ls (.int x :: .ref a :: st) h Q ↔ am_ob (am_ld h 0 a x) (fun v => am_W (m_W_law L xs) 220 ls (.int v :: st) h Q) := am_iald (o_W_law L xs) rfl
set_option maxRecDepth 20000 in
theorem k_W_law_219s : am_W (m_W_law L xs) 219 ls (.int x :: .retAddr a :: st) h Q ↔ am_ob (am_sld (m_W_law L xs) x) (fun v => am_W (m_W_law L xs) 220 ls (.int v :: st) h Q) := am_sald (o_W_law L xs) rfl
set_option maxRecDepth 20000 in
theorem k_W_law_220 : am_W (m_W_law L xs) 220 (.retAddr a :: ls) st h Q ↔ am_W (m_W_law L xs) 221 (.retAddr a :: ls) (.retAddr a :: st) h Q := am_go (q := (221, .retAddr a :: ls, .retAddr a :: st, h)) (o_W_law L xs) rfl rfl (fun _ => rfl)
set_option maxRecDepth 20000 in
theorem k_W_law_221 : am_W (m_W_law L xs) 221 (v0 :: v1 :: v2 :: .int x :: ls) st h Q ↔ am_W (m_W_law L xs) 222 (v0 :: v1 :: v2 :: .int x :: ls) (.int x :: st) h Q := am_go (q := (222, v0 :: v1 :: v2 :: .int x :: ls, .int x :: st, h)) (o_W_law L xs) rfl rfl (fun _ => rfl)
set_option maxRecDepth 20000 in
theorem k_W_law_222 : am_W (m_W_law L xs) 222 ls st h Q ↔ am_W (m_W_law L xs) 223 ls (.int 4 :: st) h Q := am_go (q := (223, ls, .int 4 :: st, h)) (o_W_law L xs) rfl rfl (fun _ => rfl)
set_option maxRecDepth 20000 in
theorem k_W_law_223 : am_W (m_W_law L xs) 223 ls (.int y :: .int x :: st) h Q ↔ am_W (m_W_law L xs) 224 ls (.int (x + y) :: st) h Q := am_go (q := (224, ls, .int (x + y) :: st, h)) (o_W_law L xs) rfl rfl (fun _ => rfl)
set_option maxRecDepth 20000 in
theorem k_W_law_224 : am_W (m_W_law L xs) 224 ls (.int x :: .ref a :: st) h Q ↔ am_ob (am_ld h 0 a x) (fun v => am_W (m_W_law L xs) 225 ls (.int v :: st) h Q) := am_iald (o_W_law L xs) rfl
set_option maxRecDepth 20000 in
theorem k_W_law_224s : am_W (m_W_law L xs) 224 ls (.int x :: .retAddr a :: st) h Q ↔ am_ob (am_sld (m_W_law L xs) x) (fun v => am_W (m_W_law L xs) 225 ls (.int v :: st) h Q) := am_sald (o_W_law L xs) rfl
set_option maxRecDepth 20000 in
theorem k_W_law_225 : am_W (m_W_law L xs) 225 ls (v4 :: v3 :: v2 :: v1 :: v0 :: st) h Q ↔ (st.length ≤ 8 ∧ am_rc h [v0, v1, v2, v3, v4] (some 9) = true) ∧ am_C f_X_head [v0, v1, v2, v3, v4] h (fun r h' => am_W (m_W_law L xs) 228 ls (r.toList ++ st) h' Q) := am_ca (o_W_law L xs) rfl (Or.inl rfl) rfl [v0, v1, v2, v3, v4] st rfl
set_option maxRecDepth 20000 in
theorem k_W_law_228 : am_W (m_W_law L xs) 228 (v0 :: v1 :: .ref a :: ls) st h Q ↔ am_W (m_W_law L xs) 229 (v0 :: v1 :: .ref a :: ls) (.ref a :: st) h Q := am_go (q := (229, v0 :: v1 :: .ref a :: ls, .ref a :: st, h)) (o_W_law L xs) rfl rfl (fun _ => rfl)
set_option maxRecDepth 20000 in
theorem k_W_law_229 : am_W (m_W_law L xs) 229 (.retAddr a :: ls) st h Q ↔ am_W (m_W_law L xs) 230 (.retAddr a :: ls) (.retAddr a :: st) h Q := am_go (q := (230, .retAddr a :: ls, .retAddr a :: st, h)) (o_W_law L xs) rfl rfl (fun _ => rfl)
set_option maxRecDepth 20000 in
theorem k_W_law_230 : am_W (m_W_law L xs) 230 (v0 :: v1 :: v2 :: .int x :: ls) st h Q ↔ am_W (m_W_law L xs) 231 (v0 :: v1 :: v2 :: .int x :: ls) (.int x :: st) h Q := am_go (q := (231, v0 :: v1 :: v2 :: .int x :: ls, .int x :: st, h)) (o_W_law L xs) rfl rfl (fun _ => rfl)
set_option maxRecDepth 20000 in
theorem k_W_law_231 : am_W (m_W_law L xs) 231 ls st h Q ↔ am_W (m_W_law L xs) 232 ls (.int 1 :: st) h Q := am_go (q := (232, ls, .int 1 :: st, h)) (o_W_law L xs) rfl rfl (fun _ => rfl)
set_option maxRecDepth 20000 in
theorem k_W_law_232 : am_W (m_W_law L xs) 232 ls (.int y :: .int x :: st) h Q ↔ am_W (m_W_law L xs) 233 ls (.int (x + y) :: st) h Q := am_go (q := (233, ls, .int (x + y) :: st, h)) (o_W_law L xs) rfl rfl (fun _ => rfl)
set_option maxRecDepth 20000 in
theorem k_W_law_233 : am_W (m_W_law L xs) 233 ls (.int x :: .ref a :: st) h Q ↔ am_ob (am_ld h 0 a x) (fun v => am_W (m_W_law L xs) 234 ls (.int v :: st) h Q) := am_iald (o_W_law L xs) rfl
set_option maxRecDepth 20000 in
theorem k_W_law_233s : am_W (m_W_law L xs) 233 ls (.int x :: .retAddr a :: st) h Q ↔ am_ob (am_sld (m_W_law L xs) x) (fun v => am_W (m_W_law L xs) 234 ls (.int v :: st) h Q) := am_sald (o_W_law L xs) rfl
set_option maxRecDepth 20000 in
theorem k_W_law_234 : am_W (m_W_law L xs) 234 (.retAddr a :: ls) st h Q ↔ am_W (m_W_law L xs) 235 (.retAddr a :: ls) (.retAddr a :: st) h Q := am_go (q := (235, .retAddr a :: ls, .retAddr a :: st, h)) (o_W_law L xs) rfl rfl (fun _ => rfl)
set_option maxRecDepth 20000 in
theorem k_W_law_235 : am_W (m_W_law L xs) 235 (v0 :: v1 :: v2 :: .int x :: ls) st h Q ↔ am_W (m_W_law L xs) 236 (v0 :: v1 :: v2 :: .int x :: ls) (.int x :: st) h Q := am_go (q := (236, v0 :: v1 :: v2 :: .int x :: ls, .int x :: st, h)) (o_W_law L xs) rfl rfl (fun _ => rfl)
set_option maxRecDepth 20000 in
theorem k_W_law_236 : am_W (m_W_law L xs) 236 ls st h Q ↔ am_W (m_W_law L xs) 237 ls (.int 2 :: st) h Q := am_go (q := (237, ls, .int 2 :: st, h)) (o_W_law L xs) rfl rfl (fun _ => rfl)
set_option maxRecDepth 20000 in
theorem k_W_law_237 : am_W (m_W_law L xs) 237 ls (.int y :: .int x :: st) h Q ↔ am_W (m_W_law L xs) 238 ls (.int (x + y) :: st) h Q := am_go (q := (238, ls, .int (x + y) :: st, h)) (o_W_law L xs) rfl rfl (fun _ => rfl)
set_option maxRecDepth 20000 in
theorem k_W_law_238 : am_W (m_W_law L xs) 238 ls (.int x :: .ref a :: st) h Q ↔ am_ob (am_ld h 0 a x) (fun v => am_W (m_W_law L xs) 239 ls (.int v :: st) h Q) := am_iald (o_W_law L xs) rfl
set_option maxRecDepth 20000 in
theorem k_W_law_238s : am_W (m_W_law L xs) 238 ls (.int x :: .retAddr a :: st) h Q ↔ am_ob (am_sld (m_W_law L xs) x) (fun v => am_W (m_W_law L xs) 239 ls (.int v :: st) h Q) := am_sald (o_W_law L xs) rfl
set_option maxRecDepth 20000 in
theorem k_W_law_239 : am_W (m_W_law L xs) 239 (.retAddr a :: ls) st h Q ↔ am_W (m_W_law L xs) 240 (.retAddr a :: ls) (.retAddr a :: st) h Q := am_go (q := (240, .retAddr a :: ls, .retAddr a :: st, h)) (o_W_law L xs) rfl rfl (fun _ => rfl)
set_option maxRecDepth 20000 in
theorem k_W_law_240 : am_W (m_W_law L xs) 240 (v0 :: v1 :: v2 :: .int x :: ls) st h Q ↔ am_W (m_W_law L xs) 241 (v0 :: v1 :: v2 :: .int x :: ls) (.int x :: st) h Q := am_go (q := (241, v0 :: v1 :: v2 :: .int x :: ls, .int x :: st, h)) (o_W_law L xs) rfl rfl (fun _ => rfl)
set_option maxRecDepth 20000 in
theorem k_W_law_241 : am_W (m_W_law L xs) 241 ls st h Q ↔ am_W (m_W_law L xs) 242 ls (.int 3 :: st) h Q := am_go (q := (242, ls, .int 3 :: st, h)) (o_W_law L xs) rfl rfl (fun _ => rfl)
set_option maxRecDepth 20000 in
theorem k_W_law_242 : am_W (m_W_law L xs) 242 ls (.int y :: .int x :: st) h Q ↔ am_W (m_W_law L xs) 243 ls (.int (x + y) :: st) h Q := am_go (q := (243, ls, .int (x + y) :: st, h)) (o_W_law L xs) rfl rfl (fun _ => rfl)
set_option maxRecDepth 20000 in
theorem k_W_law_243 : am_W (m_W_law L xs) 243 ls (.int x :: .ref a :: st) h Q ↔ am_ob (am_ld h 0 a x) (fun v => am_W (m_W_law L xs) 244 ls (.int v :: st) h Q) := am_iald (o_W_law L xs) rfl
set_option maxRecDepth 20000 in
theorem k_W_law_243s : am_W (m_W_law L xs) 243 ls (.int x :: .retAddr a :: st) h Q ↔ am_ob (am_sld (m_W_law L xs) x) (fun v => am_W (m_W_law L xs) 244 ls (.int v :: st) h Q) := am_sald (o_W_law L xs) rfl
set_option maxRecDepth 20000 in
theorem k_W_law_244 : am_W (m_W_law L xs) 244 (.retAddr a :: ls) st h Q ↔ am_W (m_W_law L xs) 245 (.retAddr a :: ls) (.retAddr a :: st) h Q := am_go (q := (245, .retAddr a :: ls, .retAddr a :: st, h)) (o_W_law L xs) rfl rfl (fun _ => rfl)
set_option maxRecDepth 20000 in
theorem k_W_law_245 : am_W (m_W_law L xs) 245 (v0 :: v1 :: v2 :: .int x :: ls) st h Q ↔ am_W (m_W_law L xs) 246 (v0 :: v1 :: v2 :: .int x :: ls) (.int x :: st) h Q := am_go (q := (246, v0 :: v1 :: v2 :: .int x :: ls, .int x :: st, h)) (o_W_law L xs) rfl rfl (fun _ => rfl)
set_option maxRecDepth 20000 in
theorem k_W_law_246 : am_W (m_W_law L xs) 246 ls st h Q ↔ am_W (m_W_law L xs) 247 ls (.int 4 :: st) h Q := am_go (q := (247, ls, .int 4 :: st, h)) (o_W_law L xs) rfl rfl (fun _ => rfl)
set_option maxRecDepth 20000 in
theorem k_W_law_247 : am_W (m_W_law L xs) 247 ls (.int y :: .int x :: st) h Q ↔ am_W (m_W_law L xs) 248 ls (.int (x + y) :: st) h Q := am_go (q := (248, ls, .int (x + y) :: st, h)) (o_W_law L xs) rfl rfl (fun _ => rfl)
set_option maxRecDepth 20000 in
theorem k_W_law_248 : am_W (m_W_law L xs) 248 ls (.int x :: .ref a :: st) h Q ↔ am_ob (am_ld h 0 a x) (fun v => am_W (m_W_law L xs) 249 ls (.int v :: st) h Q) := am_iald (o_W_law L xs) rfl
set_option maxRecDepth 20000 in
theorem k_W_law_248s : am_W (m_W_law L xs) 248 ls (.int x :: .retAddr a :: st) h Q ↔ am_ob (am_sld (m_W_law L xs) x) (fun v => am_W (m_W_law L xs) 249 ls (.int v :: st) h Q) := am_sald (o_W_law L xs) rfl
set_option maxRecDepth 20000 in
theorem k_W_law_249 : am_W (m_W_law L xs) 249 ls (v4 :: v3 :: v2 :: v1 :: v0 :: st) h Q ↔ (st.length ≤ 8 ∧ am_rc h [v0, v1, v2, v3, v4] (some 10) = true) ∧ am_C f_M_head [v0, v1, v2, v3, v4] h (fun r h' => am_W (m_W_law L xs) 252 ls (r.toList ++ st) h' Q) := am_ca (o_W_law L xs) rfl (Or.inl rfl) rfl [v0, v1, v2, v3, v4] st rfl
set_option maxRecDepth 20000 in
theorem k_W_law_252 : am_W (m_W_law L xs) 252 ls (.int y :: .int x :: st) h Q ↔ (x = y → am_W (m_W_law L xs) 578 ls st h Q) ∧ (¬ x = y → am_W (m_W_law L xs) 255 ls st h Q) := (am_go (q := (if x = y then 578 else 255, ls, st, h)) (o_W_law L xs) rfl rfl (fun _ => rfl)).trans am_ite
set_option maxRecDepth 20000 in
theorem k_W_law_255 : am_W (m_W_law L xs) 255 ls st h Q ↔ am_W (m_W_law L xs) 256 ls (.int 0 :: st) h Q := am_go (q := (256, ls, .int 0 :: st, h)) (o_W_law L xs) rfl rfl (fun _ => rfl)
set_option maxRecDepth 20000 in
theorem k_W_law_256 : am_W (m_W_law L xs) 256 ls [.int x] h Q ↔ (x = 0 ∨ x = 1) ∧ Q (some (.int x)) h := am_zret rfl rfl
set_option maxRecDepth 20000 in
theorem k_W_law_257 : am_W (m_W_law L xs) 257 (v0 :: .ref a :: ls) st h Q ↔ am_W (m_W_law L xs) 258 (v0 :: .ref a :: ls) (.ref a :: st) h Q := am_go (q := (258, v0 :: .ref a :: ls, .ref a :: st, h)) (o_W_law L xs) rfl rfl (fun _ => rfl)
set_option maxRecDepth 20000 in
theorem k_W_law_258 : am_W (m_W_law L xs) 258 (.retAddr a :: ls) st h Q ↔ am_W (m_W_law L xs) 259 (.retAddr a :: ls) (.retAddr a :: st) h Q := am_go (q := (259, .retAddr a :: ls, .retAddr a :: st, h)) (o_W_law L xs) rfl rfl (fun _ => rfl)
set_option maxRecDepth 20000 in
theorem k_W_law_259 : am_W (m_W_law L xs) 259 (v0 :: v1 :: v2 :: .int x :: ls) st h Q ↔ am_W (m_W_law L xs) 260 (v0 :: v1 :: v2 :: .int x :: ls) (.int x :: st) h Q := am_go (q := (260, v0 :: v1 :: v2 :: .int x :: ls, .int x :: st, h)) (o_W_law L xs) rfl rfl (fun _ => rfl)
set_option maxRecDepth 20000 in
theorem k_W_law_260 : am_W (m_W_law L xs) 260 ls st h Q ↔ am_W (m_W_law L xs) 261 ls (.int 1 :: st) h Q := am_go (q := (261, ls, .int 1 :: st, h)) (o_W_law L xs) rfl rfl (fun _ => rfl)
set_option maxRecDepth 20000 in
theorem k_W_law_261 : am_W (m_W_law L xs) 261 ls (.int y :: .int x :: st) h Q ↔ am_W (m_W_law L xs) 262 ls (.int (x + y) :: st) h Q := am_go (q := (262, ls, .int (x + y) :: st, h)) (o_W_law L xs) rfl rfl (fun _ => rfl)
set_option maxRecDepth 20000 in
theorem k_W_law_262 : am_W (m_W_law L xs) 262 ls (.int x :: .ref a :: st) h Q ↔ am_ob (am_ld h 0 a x) (fun v => am_W (m_W_law L xs) 263 ls (.int v :: st) h Q) := am_iald (o_W_law L xs) rfl
set_option maxRecDepth 20000 in
theorem k_W_law_262s : am_W (m_W_law L xs) 262 ls (.int x :: .retAddr a :: st) h Q ↔ am_ob (am_sld (m_W_law L xs) x) (fun v => am_W (m_W_law L xs) 263 ls (.int v :: st) h Q) := am_sald (o_W_law L xs) rfl
set_option maxRecDepth 20000 in
theorem k_W_law_263 : am_W (m_W_law L xs) 263 (.retAddr a :: ls) st h Q ↔ am_W (m_W_law L xs) 264 (.retAddr a :: ls) (.retAddr a :: st) h Q := am_go (q := (264, .retAddr a :: ls, .retAddr a :: st, h)) (o_W_law L xs) rfl rfl (fun _ => rfl)
set_option maxRecDepth 20000 in
theorem k_W_law_264 : am_W (m_W_law L xs) 264 (v0 :: v1 :: v2 :: .int x :: ls) st h Q ↔ am_W (m_W_law L xs) 265 (v0 :: v1 :: v2 :: .int x :: ls) (.int x :: st) h Q := am_go (q := (265, v0 :: v1 :: v2 :: .int x :: ls, .int x :: st, h)) (o_W_law L xs) rfl rfl (fun _ => rfl)
set_option maxRecDepth 20000 in
theorem k_W_law_265 : am_W (m_W_law L xs) 265 ls st h Q ↔ am_W (m_W_law L xs) 266 ls (.int 2 :: st) h Q := am_go (q := (266, ls, .int 2 :: st, h)) (o_W_law L xs) rfl rfl (fun _ => rfl)
set_option maxRecDepth 20000 in
theorem k_W_law_266 : am_W (m_W_law L xs) 266 ls (.int y :: .int x :: st) h Q ↔ am_W (m_W_law L xs) 267 ls (.int (x + y) :: st) h Q := am_go (q := (267, ls, .int (x + y) :: st, h)) (o_W_law L xs) rfl rfl (fun _ => rfl)
set_option maxRecDepth 20000 in
theorem k_W_law_267 : am_W (m_W_law L xs) 267 ls (.int x :: .ref a :: st) h Q ↔ am_ob (am_ld h 0 a x) (fun v => am_W (m_W_law L xs) 268 ls (.int v :: st) h Q) := am_iald (o_W_law L xs) rfl
set_option maxRecDepth 20000 in
theorem k_W_law_267s : am_W (m_W_law L xs) 267 ls (.int x :: .retAddr a :: st) h Q ↔ am_ob (am_sld (m_W_law L xs) x) (fun v => am_W (m_W_law L xs) 268 ls (.int v :: st) h Q) := am_sald (o_W_law L xs) rfl
set_option maxRecDepth 20000 in
theorem k_W_law_268 : am_W (m_W_law L xs) 268 (.retAddr a :: ls) st h Q ↔ am_W (m_W_law L xs) 269 (.retAddr a :: ls) (.retAddr a :: st) h Q := am_go (q := (269, .retAddr a :: ls, .retAddr a :: st, h)) (o_W_law L xs) rfl rfl (fun _ => rfl)
set_option maxRecDepth 20000 in
theorem k_W_law_269 : am_W (m_W_law L xs) 269 (v0 :: v1 :: v2 :: .int x :: ls) st h Q ↔ am_W (m_W_law L xs) 270 (v0 :: v1 :: v2 :: .int x :: ls) (.int x :: st) h Q := am_go (q := (270, v0 :: v1 :: v2 :: .int x :: ls, .int x :: st, h)) (o_W_law L xs) rfl rfl (fun _ => rfl)
set_option maxRecDepth 20000 in
theorem k_W_law_270 : am_W (m_W_law L xs) 270 ls st h Q ↔ am_W (m_W_law L xs) 271 ls (.int 3 :: st) h Q := am_go (q := (271, ls, .int 3 :: st, h)) (o_W_law L xs) rfl rfl (fun _ => rfl)
set_option maxRecDepth 20000 in
theorem k_W_law_271 : am_W (m_W_law L xs) 271 ls (.int y :: .int x :: st) h Q ↔ am_W (m_W_law L xs) 272 ls (.int (x + y) :: st) h Q := am_go (q := (272, ls, .int (x + y) :: st, h)) (o_W_law L xs) rfl rfl (fun _ => rfl)
set_option maxRecDepth 20000 in
theorem k_W_law_272 : am_W (m_W_law L xs) 272 ls (.int x :: .ref a :: st) h Q ↔ am_ob (am_ld h 0 a x) (fun v => am_W (m_W_law L xs) 273 ls (.int v :: st) h Q) := am_iald (o_W_law L xs) rfl
set_option maxRecDepth 20000 in
theorem k_W_law_272s : am_W (m_W_law L xs) 272 ls (.int x :: .retAddr a :: st) h Q ↔ am_ob (am_sld (m_W_law L xs) x) (fun v => am_W (m_W_law L xs) 273 ls (.int v :: st) h Q) := am_sald (o_W_law L xs) rfl
set_option maxRecDepth 20000 in
theorem k_W_law_273 : am_W (m_W_law L xs) 273 (.retAddr a :: ls) st h Q ↔ am_W (m_W_law L xs) 274 (.retAddr a :: ls) (.retAddr a :: st) h Q := am_go (q := (274, .retAddr a :: ls, .retAddr a :: st, h)) (o_W_law L xs) rfl rfl (fun _ => rfl)
set_option maxRecDepth 20000 in
theorem k_W_law_274 : am_W (m_W_law L xs) 274 (v0 :: v1 :: v2 :: .int x :: ls) st h Q ↔ am_W (m_W_law L xs) 275 (v0 :: v1 :: v2 :: .int x :: ls) (.int x :: st) h Q := am_go (q := (275, v0 :: v1 :: v2 :: .int x :: ls, .int x :: st, h)) (o_W_law L xs) rfl rfl (fun _ => rfl)
set_option maxRecDepth 20000 in
theorem k_W_law_275 : am_W (m_W_law L xs) 275 ls st h Q ↔ am_W (m_W_law L xs) 276 ls (.int 4 :: st) h Q := am_go (q := (276, ls, .int 4 :: st, h)) (o_W_law L xs) rfl rfl (fun _ => rfl)
set_option maxRecDepth 20000 in
theorem k_W_law_276 : am_W (m_W_law L xs) 276 ls (.int y :: .int x :: st) h Q ↔ am_W (m_W_law L xs) 277 ls (.int (x + y) :: st) h Q := am_go (q := (277, ls, .int (x + y) :: st, h)) (o_W_law L xs) rfl rfl (fun _ => rfl)
set_option maxRecDepth 20000 in
theorem k_W_law_277 : am_W (m_W_law L xs) 277 ls (.int x :: .ref a :: st) h Q ↔ am_ob (am_ld h 0 a x) (fun v => am_W (m_W_law L xs) 278 ls (.int v :: st) h Q) := am_iald (o_W_law L xs) rfl
set_option maxRecDepth 20000 in
theorem k_W_law_277s : am_W (m_W_law L xs) 277 ls (.int x :: .retAddr a :: st) h Q ↔ am_ob (am_sld (m_W_law L xs) x) (fun v => am_W (m_W_law L xs) 278 ls (.int v :: st) h Q) := am_sald (o_W_law L xs) rfl
set_option maxRecDepth 20000 in
theorem k_W_law_278 : am_W (m_W_law L xs) 278 ls (v4 :: v3 :: v2 :: v1 :: v0 :: st) h Q ↔ (st.length ≤ 8 ∧ am_rc h [v0, v1, v2, v3, v4] (some 9) = true) ∧ am_C f_X_code [v0, v1, v2, v3, v4] h (fun r h' => am_W (m_W_law L xs) 281 ls (r.toList ++ st) h' Q) := am_ca (o_W_law L xs) rfl (Or.inl rfl) rfl [v0, v1, v2, v3, v4] st rfl
set_option maxRecDepth 20000 in
theorem k_W_law_281 : am_W (m_W_law L xs) 281 (v0 :: v1 :: .ref a :: ls) st h Q ↔ am_W (m_W_law L xs) 282 (v0 :: v1 :: .ref a :: ls) (.ref a :: st) h Q := am_go (q := (282, v0 :: v1 :: .ref a :: ls, .ref a :: st, h)) (o_W_law L xs) rfl rfl (fun _ => rfl)
set_option maxRecDepth 20000 in
theorem k_W_law_282 : am_W (m_W_law L xs) 282 (.retAddr a :: ls) st h Q ↔ am_W (m_W_law L xs) 283 (.retAddr a :: ls) (.retAddr a :: st) h Q := am_go (q := (283, .retAddr a :: ls, .retAddr a :: st, h)) (o_W_law L xs) rfl rfl (fun _ => rfl)
set_option maxRecDepth 20000 in
theorem k_W_law_283 : am_W (m_W_law L xs) 283 (v0 :: v1 :: v2 :: .int x :: ls) st h Q ↔ am_W (m_W_law L xs) 284 (v0 :: v1 :: v2 :: .int x :: ls) (.int x :: st) h Q := am_go (q := (284, v0 :: v1 :: v2 :: .int x :: ls, .int x :: st, h)) (o_W_law L xs) rfl rfl (fun _ => rfl)
set_option maxRecDepth 20000 in
theorem k_W_law_284 : am_W (m_W_law L xs) 284 ls st h Q ↔ am_W (m_W_law L xs) 285 ls (.int 1 :: st) h Q := am_go (q := (285, ls, .int 1 :: st, h)) (o_W_law L xs) rfl rfl (fun _ => rfl)
set_option maxRecDepth 20000 in
theorem k_W_law_285 : am_W (m_W_law L xs) 285 ls (.int y :: .int x :: st) h Q ↔ am_W (m_W_law L xs) 286 ls (.int (x + y) :: st) h Q := am_go (q := (286, ls, .int (x + y) :: st, h)) (o_W_law L xs) rfl rfl (fun _ => rfl)
set_option maxRecDepth 20000 in
theorem k_W_law_286 : am_W (m_W_law L xs) 286 ls (.int x :: .ref a :: st) h Q ↔ am_ob (am_ld h 0 a x) (fun v => am_W (m_W_law L xs) 287 ls (.int v :: st) h Q) := am_iald (o_W_law L xs) rfl
set_option maxRecDepth 20000 in
theorem k_W_law_286s : am_W (m_W_law L xs) 286 ls (.int x :: .retAddr a :: st) h Q ↔ am_ob (am_sld (m_W_law L xs) x) (fun v => am_W (m_W_law L xs) 287 ls (.int v :: st) h Q) := am_sald (o_W_law L xs) rfl
set_option maxRecDepth 20000 in
theorem k_W_law_287 : am_W (m_W_law L xs) 287 (.retAddr a :: ls) st h Q ↔ am_W (m_W_law L xs) 288 (.retAddr a :: ls) (.retAddr a :: st) h Q := am_go (q := (288, .retAddr a :: ls, .retAddr a :: st, h)) (o_W_law L xs) rfl rfl (fun _ => rfl)
set_option maxRecDepth 20000 in
theorem k_W_law_288 : am_W (m_W_law L xs) 288 (v0 :: v1 :: v2 :: .int x :: ls) st h Q ↔ am_W (m_W_law L xs) 289 (v0 :: v1 :: v2 :: .int x :: ls) (.int x :: st) h Q := am_go (q := (289, v0 :: v1 :: v2 :: .int x :: ls, .int x :: st, h)) (o_W_law L xs) rfl rfl (fun _ => rfl)
set_option maxRecDepth 20000 in
theorem k_W_law_289 : am_W (m_W_law L xs) 289 ls st h Q ↔ am_W (m_W_law L xs) 290 ls (.int 2 :: st) h Q := am_go (q := (290, ls, .int 2 :: st, h)) (o_W_law L xs) rfl rfl (fun _ => rfl)
set_option maxRecDepth 20000 in
theorem k_W_law_290 : am_W (m_W_law L xs) 290 ls (.int y :: .int x :: st) h Q ↔ am_W (m_W_law L xs) 291 ls (.int (x + y) :: st) h Q := am_go (q := (291, ls, .int (x + y) :: st, h)) (o_W_law L xs) rfl rfl (fun _ => rfl)
set_option maxRecDepth 20000 in
theorem k_W_law_291 : am_W (m_W_law L xs) 291 ls (.int x :: .ref a :: st) h Q ↔ am_ob (am_ld h 0 a x) (fun v => am_W (m_W_law L xs) 292 ls (.int v :: st) h Q) := am_iald (o_W_law L xs) rfl
set_option maxRecDepth 20000 in
theorem k_W_law_291s : am_W (m_W_law L xs) 291 ls (.int x :: .retAddr a :: st) h Q ↔ am_ob (am_sld (m_W_law L xs) x) (fun v => am_W (m_W_law L xs) 292 ls (.int v :: st) h Q) := am_sald (o_W_law L xs) rfl
set_option maxRecDepth 20000 in
theorem k_W_law_292 : am_W (m_W_law L xs) 292 (.retAddr a :: ls) st h Q ↔ am_W (m_W_law L xs) 293 (.retAddr a :: ls) (.retAddr a :: st) h Q := am_go (q := (293, .retAddr a :: ls, .retAddr a :: st, h)) (o_W_law L xs) rfl rfl (fun _ => rfl)
set_option maxRecDepth 20000 in
theorem k_W_law_293 : am_W (m_W_law L xs) 293 (v0 :: v1 :: v2 :: .int x :: ls) st h Q ↔ am_W (m_W_law L xs) 294 (v0 :: v1 :: v2 :: .int x :: ls) (.int x :: st) h Q := am_go (q := (294, v0 :: v1 :: v2 :: .int x :: ls, .int x :: st, h)) (o_W_law L xs) rfl rfl (fun _ => rfl)
set_option maxRecDepth 20000 in
theorem k_W_law_294 : am_W (m_W_law L xs) 294 ls st h Q ↔ am_W (m_W_law L xs) 295 ls (.int 3 :: st) h Q := am_go (q := (295, ls, .int 3 :: st, h)) (o_W_law L xs) rfl rfl (fun _ => rfl)
set_option maxRecDepth 20000 in
theorem k_W_law_295 : am_W (m_W_law L xs) 295 ls (.int y :: .int x :: st) h Q ↔ am_W (m_W_law L xs) 296 ls (.int (x + y) :: st) h Q := am_go (q := (296, ls, .int (x + y) :: st, h)) (o_W_law L xs) rfl rfl (fun _ => rfl)
set_option maxRecDepth 20000 in
theorem k_W_law_296 : am_W (m_W_law L xs) 296 ls (.int x :: .ref a :: st) h Q ↔ am_ob (am_ld h 0 a x) (fun v => am_W (m_W_law L xs) 297 ls (.int v :: st) h Q) := am_iald (o_W_law L xs) rfl
set_option maxRecDepth 20000 in
theorem k_W_law_296s : am_W (m_W_law L xs) 296 ls (.int x :: .retAddr a :: st) h Q ↔ am_ob (am_sld (m_W_law L xs) x) (fun v => am_W (m_W_law L xs) 297 ls (.int v :: st) h Q) := am_sald (o_W_law L xs) rfl
set_option maxRecDepth 20000 in
theorem k_W_law_297 : am_W (m_W_law L xs) 297 (.retAddr a :: ls) st h Q ↔ am_W (m_W_law L xs) 298 (.retAddr a :: ls) (.retAddr a :: st) h Q := am_go (q := (298, .retAddr a :: ls, .retAddr a :: st, h)) (o_W_law L xs) rfl rfl (fun _ => rfl)
set_option maxRecDepth 20000 in
theorem k_W_law_298 : am_W (m_W_law L xs) 298 (v0 :: v1 :: v2 :: .int x :: ls) st h Q ↔ am_W (m_W_law L xs) 299 (v0 :: v1 :: v2 :: .int x :: ls) (.int x :: st) h Q := am_go (q := (299, v0 :: v1 :: v2 :: .int x :: ls, .int x :: st, h)) (o_W_law L xs) rfl rfl (fun _ => rfl)
set_option maxRecDepth 20000 in
theorem k_W_law_299 : am_W (m_W_law L xs) 299 ls st h Q ↔ am_W (m_W_law L xs) 300 ls (.int 4 :: st) h Q := am_go (q := (300, ls, .int 4 :: st, h)) (o_W_law L xs) rfl rfl (fun _ => rfl)
set_option maxRecDepth 20000 in
theorem k_W_law_300 : am_W (m_W_law L xs) 300 ls (.int y :: .int x :: st) h Q ↔ am_W (m_W_law L xs) 301 ls (.int (x + y) :: st) h Q := am_go (q := (301, ls, .int (x + y) :: st, h)) (o_W_law L xs) rfl rfl (fun _ => rfl)
set_option maxRecDepth 20000 in
theorem k_W_law_301 : am_W (m_W_law L xs) 301 ls (.int x :: .ref a :: st) h Q ↔ am_ob (am_ld h 0 a x) (fun v => am_W (m_W_law L xs) 302 ls (.int v :: st) h Q) := am_iald (o_W_law L xs) rfl
set_option maxRecDepth 20000 in
theorem k_W_law_301s : am_W (m_W_law L xs) 301 ls (.int x :: .retAddr a :: st) h Q ↔ am_ob (am_sld (m_W_law L xs) x) (fun v => am_W (m_W_law L xs) 302 ls (.int v :: st) h Q) := am_sald (o_W_law L xs) rfl
set_option maxRecDepth 20000 in
theorem k_W_law_302 : am_W (m_W_law L xs) 302 ls (v4 :: v3 :: v2 :: v1 :: v0 :: st) h Q ↔ (st.length ≤ 8 ∧ am_rc h [v0, v1, v2, v3, v4] (some 10) = true) ∧ am_C f_M_code [v0, v1, v2, v3, v4] h (fun r h' => am_W (m_W_law L xs) 305 ls (r.toList ++ st) h' Q) := am_ca (o_W_law L xs) rfl (Or.inl rfl) rfl [v0, v1, v2, v3, v4] st rfl
set_option maxRecDepth 20000 in
theorem k_W_law_305 : am_W (m_W_law L xs) 305 ls (.int y :: .int x :: st) h Q ↔ (x = y → am_W (m_W_law L xs) 578 ls st h Q) ∧ (¬ x = y → am_W (m_W_law L xs) 308 ls st h Q) := (am_go (q := (if x = y then 578 else 308, ls, st, h)) (o_W_law L xs) rfl rfl (fun _ => rfl)).trans am_ite
set_option maxRecDepth 20000 in
theorem k_W_law_308 : am_W (m_W_law L xs) 308 ls st h Q ↔ am_W (m_W_law L xs) 309 ls (.int 0 :: st) h Q := am_go (q := (309, ls, .int 0 :: st, h)) (o_W_law L xs) rfl rfl (fun _ => rfl)
set_option maxRecDepth 20000 in
theorem k_W_law_309 : am_W (m_W_law L xs) 309 ls [.int x] h Q ↔ (x = 0 ∨ x = 1) ∧ Q (some (.int x)) h := am_zret rfl rfl
set_option maxRecDepth 20000 in
theorem k_W_law_310 : am_W (m_W_law L xs) 310 (v0 :: .ref a :: ls) st h Q ↔ am_W (m_W_law L xs) 311 (v0 :: .ref a :: ls) (.ref a :: st) h Q := am_go (q := (311, v0 :: .ref a :: ls, .ref a :: st, h)) (o_W_law L xs) rfl rfl (fun _ => rfl)
set_option maxRecDepth 20000 in
theorem k_W_law_311 : am_W (m_W_law L xs) 311 ls (v0 :: st) h Q ↔ (st.length ≤ 8 ∧ am_rc h [v0] (some 9) = true) ∧ am_C f_X_drop [v0] h (fun r h' => am_W (m_W_law L xs) 314 ls (r.toList ++ st) h' Q) := am_ca (o_W_law L xs) rfl (Or.inl rfl) rfl [v0] st rfl
set_option maxRecDepth 20000 in
theorem k_W_law_314 : am_W (m_W_law L xs) 314 (v0 :: v1 :: .ref a :: ls) st h Q ↔ am_W (m_W_law L xs) 315 (v0 :: v1 :: .ref a :: ls) (.ref a :: st) h Q := am_go (q := (315, v0 :: v1 :: .ref a :: ls, .ref a :: st, h)) (o_W_law L xs) rfl rfl (fun _ => rfl)
set_option maxRecDepth 20000 in
theorem k_W_law_315 : am_W (m_W_law L xs) 315 ls (v0 :: st) h Q ↔ (st.length ≤ 8 ∧ am_rc h [v0] (some 10) = true) ∧ am_C f_M_drop [v0] h (fun r h' => am_W (m_W_law L xs) 318 ls (r.toList ++ st) h' Q) := am_ca (o_W_law L xs) rfl (Or.inl rfl) rfl [v0] st rfl
set_option maxRecDepth 20000 in
theorem k_W_law_318 : am_W (m_W_law L xs) 318 ls (.int y :: .int x :: st) h Q ↔ (x = y → am_W (m_W_law L xs) 578 ls st h Q) ∧ (¬ x = y → am_W (m_W_law L xs) 321 ls st h Q) := (am_go (q := (if x = y then 578 else 321, ls, st, h)) (o_W_law L xs) rfl rfl (fun _ => rfl)).trans am_ite
set_option maxRecDepth 20000 in
theorem k_W_law_321 : am_W (m_W_law L xs) 321 ls st h Q ↔ am_W (m_W_law L xs) 322 ls (.int 0 :: st) h Q := am_go (q := (322, ls, .int 0 :: st, h)) (o_W_law L xs) rfl rfl (fun _ => rfl)
set_option maxRecDepth 20000 in
theorem k_W_law_322 : am_W (m_W_law L xs) 322 ls [.int x] h Q ↔ (x = 0 ∨ x = 1) ∧ Q (some (.int x)) h := am_zret rfl rfl
set_option maxRecDepth 20000 in
theorem k_W_law_323 : am_W (m_W_law L xs) 323 (v0 :: .ref a :: ls) st h Q ↔ am_W (m_W_law L xs) 324 (v0 :: .ref a :: ls) (.ref a :: st) h Q := am_go (q := (324, v0 :: .ref a :: ls, .ref a :: st, h)) (o_W_law L xs) rfl rfl (fun _ => rfl)
set_option maxRecDepth 20000 in
theorem k_W_law_324 : am_W (m_W_law L xs) 324 ls (v0 :: st) h Q ↔ (st.length ≤ 8 ∧ am_rc h [v0] (some 9) = true) ∧ am_C f_X_commit [v0] h (fun r h' => am_W (m_W_law L xs) 327 ls (r.toList ++ st) h' Q) := am_ca (o_W_law L xs) rfl (Or.inl rfl) rfl [v0] st rfl
set_option maxRecDepth 20000 in
theorem k_W_law_327 : am_W (m_W_law L xs) 327 (v0 :: v1 :: .ref a :: ls) st h Q ↔ am_W (m_W_law L xs) 328 (v0 :: v1 :: .ref a :: ls) (.ref a :: st) h Q := am_go (q := (328, v0 :: v1 :: .ref a :: ls, .ref a :: st, h)) (o_W_law L xs) rfl rfl (fun _ => rfl)
set_option maxRecDepth 20000 in
theorem k_W_law_328 : am_W (m_W_law L xs) 328 ls (v0 :: st) h Q ↔ (st.length ≤ 8 ∧ am_rc h [v0] (some 10) = true) ∧ am_C f_M_commit [v0] h (fun r h' => am_W (m_W_law L xs) 331 ls (r.toList ++ st) h' Q) := am_ca (o_W_law L xs) rfl (Or.inl rfl) rfl [v0] st rfl
set_option maxRecDepth 20000 in
theorem k_W_law_331 : am_W (m_W_law L xs) 331 ls (.int y :: .int x :: st) h Q ↔ (x = y → am_W (m_W_law L xs) 578 ls st h Q) ∧ (¬ x = y → am_W (m_W_law L xs) 334 ls st h Q) := (am_go (q := (if x = y then 578 else 334, ls, st, h)) (o_W_law L xs) rfl rfl (fun _ => rfl)).trans am_ite
set_option maxRecDepth 20000 in
theorem k_W_law_334 : am_W (m_W_law L xs) 334 ls st h Q ↔ am_W (m_W_law L xs) 335 ls (.int 0 :: st) h Q := am_go (q := (335, ls, .int 0 :: st, h)) (o_W_law L xs) rfl rfl (fun _ => rfl)
set_option maxRecDepth 20000 in
theorem k_W_law_335 : am_W (m_W_law L xs) 335 ls [.int x] h Q ↔ (x = 0 ∨ x = 1) ∧ Q (some (.int x)) h := am_zret rfl rfl
set_option maxRecDepth 20000 in
theorem k_W_law_336 : am_W (m_W_law L xs) 336 (v0 :: .ref a :: ls) st h Q ↔ am_W (m_W_law L xs) 337 (v0 :: .ref a :: ls) (.ref a :: st) h Q := am_go (q := (337, v0 :: .ref a :: ls, .ref a :: st, h)) (o_W_law L xs) rfl rfl (fun _ => rfl)
set_option maxRecDepth 20000 in
theorem k_W_law_337 : am_W (m_W_law L xs) 337 ls (v0 :: st) h Q ↔ (st.length ≤ 8 ∧ am_rc h [v0] (some 9) = true) ∧ am_C f_X_waiting [v0] h (fun r h' => am_W (m_W_law L xs) 340 ls (r.toList ++ st) h' Q) := am_ca (o_W_law L xs) rfl (Or.inl rfl) rfl [v0] st rfl
set_option maxRecDepth 20000 in
theorem k_W_law_340 : am_W (m_W_law L xs) 340 (v0 :: v1 :: .ref a :: ls) st h Q ↔ am_W (m_W_law L xs) 341 (v0 :: v1 :: .ref a :: ls) (.ref a :: st) h Q := am_go (q := (341, v0 :: v1 :: .ref a :: ls, .ref a :: st, h)) (o_W_law L xs) rfl rfl (fun _ => rfl)
set_option maxRecDepth 20000 in
theorem k_W_law_341 : am_W (m_W_law L xs) 341 ls (v0 :: st) h Q ↔ (st.length ≤ 8 ∧ am_rc h [v0] (some 10) = true) ∧ am_C f_M_waiting [v0] h (fun r h' => am_W (m_W_law L xs) 344 ls (r.toList ++ st) h' Q) := am_ca (o_W_law L xs) rfl (Or.inl rfl) rfl [v0] st rfl
set_option maxRecDepth 20000 in
theorem k_W_law_344 : am_W (m_W_law L xs) 344 ls (.int y :: .int x :: st) h Q ↔ (x = y → am_W (m_W_law L xs) 578 ls st h Q) ∧ (¬ x = y → am_W (m_W_law L xs) 347 ls st h Q) := (am_go (q := (if x = y then 578 else 347, ls, st, h)) (o_W_law L xs) rfl rfl (fun _ => rfl)).trans am_ite
set_option maxRecDepth 20000 in
theorem k_W_law_347 : am_W (m_W_law L xs) 347 ls st h Q ↔ am_W (m_W_law L xs) 348 ls (.int 0 :: st) h Q := am_go (q := (348, ls, .int 0 :: st, h)) (o_W_law L xs) rfl rfl (fun _ => rfl)
set_option maxRecDepth 20000 in
theorem k_W_law_348 : am_W (m_W_law L xs) 348 ls [.int x] h Q ↔ (x = 0 ∨ x = 1) ∧ Q (some (.int x)) h := am_zret rfl rfl
set_option maxRecDepth 20000 in
theorem k_W_law_349 : am_W (m_W_law L xs) 349 (v0 :: .ref a :: ls) st h Q ↔ am_W (m_W_law L xs) 350 (v0 :: .ref a :: ls) (.ref a :: st) h Q := am_go (q := (350, v0 :: .ref a :: ls, .ref a :: st, h)) (o_W_law L xs) rfl rfl (fun _ => rfl)
set_option maxRecDepth 20000 in
theorem k_W_law_350 : am_W (m_W_law L xs) 350 ls (v0 :: st) h Q ↔ (st.length ≤ 8 ∧ am_rc h [v0] (some 9) = true) ∧ am_C f_X_restricted [v0] h (fun r h' => am_W (m_W_law L xs) 353 ls (r.toList ++ st) h' Q) := am_ca (o_W_law L xs) rfl (Or.inl rfl) rfl [v0] st rfl
set_option maxRecDepth 20000 in
theorem k_W_law_353 : am_W (m_W_law L xs) 353 (v0 :: v1 :: .ref a :: ls) st h Q ↔ am_W (m_W_law L xs) 354 (v0 :: v1 :: .ref a :: ls) (.ref a :: st) h Q := am_go (q := (354, v0 :: v1 :: .ref a :: ls, .ref a :: st, h)) (o_W_law L xs) rfl rfl (fun _ => rfl)
set_option maxRecDepth 20000 in
theorem k_W_law_354 : am_W (m_W_law L xs) 354 ls (v0 :: st) h Q ↔ (st.length ≤ 8 ∧ am_rc h [v0] (some 10) = true) ∧ am_C f_M_restricted [v0] h (fun r h' => am_W (m_W_law L xs) 357 ls (r.toList ++ st) h' Q) := am_ca (o_W_law L xs) rfl (Or.inl rfl) rfl [v0] st rfl
set_option maxRecDepth 20000 in
theorem k_W_law_357 : am_W (m_W_law L xs) 357 ls (.int y :: .int x :: st) h Q ↔ (x = y → am_W (m_W_law L xs) 578 ls st h Q) ∧ (¬ x = y → am_W (m_W_law L xs) 360 ls st h Q) := (am_go (q := (if x = y then 578 else 360, ls, st, h)) (o_W_law L xs) rfl rfl (fun _ => rfl)).trans am_ite
set_option maxRecDepth 20000 in
theorem k_W_law_360 : am_W (m_W_law L xs) 360 ls st h Q ↔ am_W (m_W_law L xs) 361 ls (.int 0 :: st) h Q := am_go (q := (361, ls, .int 0 :: st, h)) (o_W_law L xs) rfl rfl (fun _ => rfl)
set_option maxRecDepth 20000 in
theorem k_W_law_361 : am_W (m_W_law L xs) 361 ls [.int x] h Q ↔ (x = 0 ∨ x = 1) ∧ Q (some (.int x)) h := am_zret rfl rfl
set_option maxRecDepth 20000 in
theorem k_W_law_362 : am_W (m_W_law L xs) 362 (v0 :: .ref a :: ls) st h Q ↔ am_W (m_W_law L xs) 363 (v0 :: .ref a :: ls) (.ref a :: st) h Q := am_go (q := (363, v0 :: .ref a :: ls, .ref a :: st, h)) (o_W_law L xs) rfl rfl (fun _ => rfl)
set_option maxRecDepth 20000 in
theorem k_W_law_363 : am_W (m_W_law L xs) 363 ls (v0 :: st) h Q ↔ (st.length ≤ 8 ∧ am_rc h [v0] (some 9) = true) ∧ am_C f_X_applied [v0] h (fun r h' => am_W (m_W_law L xs) 366 ls (r.toList ++ st) h' Q) := am_ca (o_W_law L xs) rfl (Or.inl rfl) rfl [v0] st rfl
set_option maxRecDepth 20000 in
theorem k_W_law_366 : am_W (m_W_law L xs) 366 (v0 :: v1 :: .ref a :: ls) st h Q ↔ am_W (m_W_law L xs) 367 (v0 :: v1 :: .ref a :: ls) (.ref a :: st) h Q := am_go (q := (367, v0 :: v1 :: .ref a :: ls, .ref a :: st, h)) (o_W_law L xs) rfl rfl (fun _ => rfl)
set_option maxRecDepth 20000 in
theorem k_W_law_367 : am_W (m_W_law L xs) 367 ls (v0 :: st) h Q ↔ (st.length ≤ 8 ∧ am_rc h [v0] (some 10) = true) ∧ am_C f_M_applied [v0] h (fun r h' => am_W (m_W_law L xs) 370 ls (r.toList ++ st) h' Q) := am_ca (o_W_law L xs) rfl (Or.inl rfl) rfl [v0] st rfl
set_option maxRecDepth 20000 in
theorem k_W_law_370 : am_W (m_W_law L xs) 370 ls (.int y :: .int x :: st) h Q ↔ (x = y → am_W (m_W_law L xs) 578 ls st h Q) ∧ (¬ x = y → am_W (m_W_law L xs) 373 ls st h Q) := (am_go (q := (if x = y then 578 else 373, ls, st, h)) (o_W_law L xs) rfl rfl (fun _ => rfl)).trans am_ite
set_option maxRecDepth 20000 in
theorem k_W_law_373 : am_W (m_W_law L xs) 373 ls st h Q ↔ am_W (m_W_law L xs) 374 ls (.int 0 :: st) h Q := am_go (q := (374, ls, .int 0 :: st, h)) (o_W_law L xs) rfl rfl (fun _ => rfl)
set_option maxRecDepth 20000 in
theorem k_W_law_374 : am_W (m_W_law L xs) 374 ls [.int x] h Q ↔ (x = 0 ∨ x = 1) ∧ Q (some (.int x)) h := am_zret rfl rfl
set_option maxRecDepth 20000 in
theorem k_W_law_375 : am_W (m_W_law L xs) 375 (v0 :: .ref a :: ls) st h Q ↔ am_W (m_W_law L xs) 376 (v0 :: .ref a :: ls) (.ref a :: st) h Q := am_go (q := (376, v0 :: .ref a :: ls, .ref a :: st, h)) (o_W_law L xs) rfl rfl (fun _ => rfl)
set_option maxRecDepth 20000 in
theorem k_W_law_376 : am_W (m_W_law L xs) 376 ls (v0 :: st) h Q ↔ (st.length ≤ 8 ∧ am_rc h [v0] (some 9) = true) ∧ am_C f_X_moved [v0] h (fun r h' => am_W (m_W_law L xs) 379 ls (r.toList ++ st) h' Q) := am_ca (o_W_law L xs) rfl (Or.inl rfl) rfl [v0] st rfl
set_option maxRecDepth 20000 in
theorem k_W_law_379 : am_W (m_W_law L xs) 379 (v0 :: v1 :: .ref a :: ls) st h Q ↔ am_W (m_W_law L xs) 380 (v0 :: v1 :: .ref a :: ls) (.ref a :: st) h Q := am_go (q := (380, v0 :: v1 :: .ref a :: ls, .ref a :: st, h)) (o_W_law L xs) rfl rfl (fun _ => rfl)
set_option maxRecDepth 20000 in
theorem k_W_law_380 : am_W (m_W_law L xs) 380 ls (v0 :: st) h Q ↔ (st.length ≤ 8 ∧ am_rc h [v0] (some 10) = true) ∧ am_C f_M_moved [v0] h (fun r h' => am_W (m_W_law L xs) 383 ls (r.toList ++ st) h' Q) := am_ca (o_W_law L xs) rfl (Or.inl rfl) rfl [v0] st rfl
set_option maxRecDepth 20000 in
theorem k_W_law_383 : am_W (m_W_law L xs) 383 ls (.int y :: .int x :: st) h Q ↔ (x = y → am_W (m_W_law L xs) 578 ls st h Q) ∧ (¬ x = y → am_W (m_W_law L xs) 386 ls st h Q) := (am_go (q := (if x = y then 578 else 386, ls, st, h)) (o_W_law L xs) rfl rfl (fun _ => rfl)).trans am_ite
set_option maxRecDepth 20000 in
theorem k_W_law_386 : am_W (m_W_law L xs) 386 ls st h Q ↔ am_W (m_W_law L xs) 387 ls (.int 0 :: st) h Q := am_go (q := (387, ls, .int 0 :: st, h)) (o_W_law L xs) rfl rfl (fun _ => rfl)
set_option maxRecDepth 20000 in
theorem k_W_law_387 : am_W (m_W_law L xs) 387 ls [.int x] h Q ↔ (x = 0 ∨ x = 1) ∧ Q (some (.int x)) h := am_zret rfl rfl
set_option maxRecDepth 20000 in
theorem k_W_law_388 : am_W (m_W_law L xs) 388 (v0 :: .ref a :: ls) st h Q ↔ am_W (m_W_law L xs) 389 (v0 :: .ref a :: ls) (.ref a :: st) h Q := am_go (q := (389, v0 :: .ref a :: ls, .ref a :: st, h)) (o_W_law L xs) rfl rfl (fun _ => rfl)
set_option maxRecDepth 20000 in
theorem k_W_law_389 : am_W (m_W_law L xs) 389 (.retAddr a :: ls) st h Q ↔ am_W (m_W_law L xs) 390 (.retAddr a :: ls) (.retAddr a :: st) h Q := am_go (q := (390, .retAddr a :: ls, .retAddr a :: st, h)) (o_W_law L xs) rfl rfl (fun _ => rfl)
set_option maxRecDepth 20000 in
theorem k_W_law_390 : am_W (m_W_law L xs) 390 (v0 :: v1 :: v2 :: .int x :: ls) st h Q ↔ am_W (m_W_law L xs) 391 (v0 :: v1 :: v2 :: .int x :: ls) (.int x :: st) h Q := am_go (q := (391, v0 :: v1 :: v2 :: .int x :: ls, .int x :: st, h)) (o_W_law L xs) rfl rfl (fun _ => rfl)
set_option maxRecDepth 20000 in
theorem k_W_law_391 : am_W (m_W_law L xs) 391 ls st h Q ↔ am_W (m_W_law L xs) 392 ls (.int 1 :: st) h Q := am_go (q := (392, ls, .int 1 :: st, h)) (o_W_law L xs) rfl rfl (fun _ => rfl)
set_option maxRecDepth 20000 in
theorem k_W_law_392 : am_W (m_W_law L xs) 392 ls (.int y :: .int x :: st) h Q ↔ am_W (m_W_law L xs) 393 ls (.int (x + y) :: st) h Q := am_go (q := (393, ls, .int (x + y) :: st, h)) (o_W_law L xs) rfl rfl (fun _ => rfl)
set_option maxRecDepth 20000 in
theorem k_W_law_393 : am_W (m_W_law L xs) 393 ls (.int x :: .ref a :: st) h Q ↔ am_ob (am_ld h 0 a x) (fun v => am_W (m_W_law L xs) 394 ls (.int v :: st) h Q) := am_iald (o_W_law L xs) rfl
set_option maxRecDepth 20000 in
theorem k_W_law_393s : am_W (m_W_law L xs) 393 ls (.int x :: .retAddr a :: st) h Q ↔ am_ob (am_sld (m_W_law L xs) x) (fun v => am_W (m_W_law L xs) 394 ls (.int v :: st) h Q) := am_sald (o_W_law L xs) rfl
set_option maxRecDepth 20000 in
theorem k_W_law_394 : am_W (m_W_law L xs) 394 ls (v1 :: v0 :: st) h Q ↔ (st.length ≤ 8 ∧ am_rc h [v0, v1] (some 9) = true) ∧ am_C f_X_start [v0, v1] h (fun r h' => am_W (m_W_law L xs) 397 ls (r.toList ++ st) h' Q) := am_ca (o_W_law L xs) rfl (Or.inl rfl) rfl [v0, v1] st rfl
set_option maxRecDepth 20000 in
theorem k_W_law_397 : am_W (m_W_law L xs) 397 (v0 :: v1 :: .ref a :: ls) st h Q ↔ am_W (m_W_law L xs) 398 (v0 :: v1 :: .ref a :: ls) (.ref a :: st) h Q := am_go (q := (398, v0 :: v1 :: .ref a :: ls, .ref a :: st, h)) (o_W_law L xs) rfl rfl (fun _ => rfl)
set_option maxRecDepth 20000 in
theorem k_W_law_398 : am_W (m_W_law L xs) 398 (.retAddr a :: ls) st h Q ↔ am_W (m_W_law L xs) 399 (.retAddr a :: ls) (.retAddr a :: st) h Q := am_go (q := (399, .retAddr a :: ls, .retAddr a :: st, h)) (o_W_law L xs) rfl rfl (fun _ => rfl)
set_option maxRecDepth 20000 in
theorem k_W_law_399 : am_W (m_W_law L xs) 399 (v0 :: v1 :: v2 :: .int x :: ls) st h Q ↔ am_W (m_W_law L xs) 400 (v0 :: v1 :: v2 :: .int x :: ls) (.int x :: st) h Q := am_go (q := (400, v0 :: v1 :: v2 :: .int x :: ls, .int x :: st, h)) (o_W_law L xs) rfl rfl (fun _ => rfl)
set_option maxRecDepth 20000 in
theorem k_W_law_400 : am_W (m_W_law L xs) 400 ls st h Q ↔ am_W (m_W_law L xs) 401 ls (.int 1 :: st) h Q := am_go (q := (401, ls, .int 1 :: st, h)) (o_W_law L xs) rfl rfl (fun _ => rfl)
set_option maxRecDepth 20000 in
theorem k_W_law_401 : am_W (m_W_law L xs) 401 ls (.int y :: .int x :: st) h Q ↔ am_W (m_W_law L xs) 402 ls (.int (x + y) :: st) h Q := am_go (q := (402, ls, .int (x + y) :: st, h)) (o_W_law L xs) rfl rfl (fun _ => rfl)
set_option maxRecDepth 20000 in
theorem k_W_law_402 : am_W (m_W_law L xs) 402 ls (.int x :: .ref a :: st) h Q ↔ am_ob (am_ld h 0 a x) (fun v => am_W (m_W_law L xs) 403 ls (.int v :: st) h Q) := am_iald (o_W_law L xs) rfl
set_option maxRecDepth 20000 in
theorem k_W_law_402s : am_W (m_W_law L xs) 402 ls (.int x :: .retAddr a :: st) h Q ↔ am_ob (am_sld (m_W_law L xs) x) (fun v => am_W (m_W_law L xs) 403 ls (.int v :: st) h Q) := am_sald (o_W_law L xs) rfl
set_option maxRecDepth 20000 in
theorem k_W_law_403 : am_W (m_W_law L xs) 403 ls (v1 :: v0 :: st) h Q ↔ (st.length ≤ 8 ∧ am_rc h [v0, v1] (some 10) = true) ∧ am_C f_M_start [v0, v1] h (fun r h' => am_W (m_W_law L xs) 406 ls (r.toList ++ st) h' Q) := am_ca (o_W_law L xs) rfl (Or.inl rfl) rfl [v0, v1] st rfl
set_option maxRecDepth 20000 in
theorem k_W_law_406 : am_W (m_W_law L xs) 406 ls (.int y :: .int x :: st) h Q ↔ (x = y → am_W (m_W_law L xs) 578 ls st h Q) ∧ (¬ x = y → am_W (m_W_law L xs) 409 ls st h Q) := (am_go (q := (if x = y then 578 else 409, ls, st, h)) (o_W_law L xs) rfl rfl (fun _ => rfl)).trans am_ite
set_option maxRecDepth 20000 in
theorem k_W_law_409 : am_W (m_W_law L xs) 409 ls st h Q ↔ am_W (m_W_law L xs) 410 ls (.int 0 :: st) h Q := am_go (q := (410, ls, .int 0 :: st, h)) (o_W_law L xs) rfl rfl (fun _ => rfl)
set_option maxRecDepth 20000 in
theorem k_W_law_410 : am_W (m_W_law L xs) 410 ls [.int x] h Q ↔ (x = 0 ∨ x = 1) ∧ Q (some (.int x)) h := am_zret rfl rfl
set_option maxRecDepth 20000 in
theorem k_W_law_411 : am_W (m_W_law L xs) 411 (v0 :: .ref a :: ls) st h Q ↔ am_W (m_W_law L xs) 412 (v0 :: .ref a :: ls) (.ref a :: st) h Q := am_go (q := (412, v0 :: .ref a :: ls, .ref a :: st, h)) (o_W_law L xs) rfl rfl (fun _ => rfl)
set_option maxRecDepth 20000 in
theorem k_W_law_412 : am_W (m_W_law L xs) 412 (.retAddr a :: ls) st h Q ↔ am_W (m_W_law L xs) 413 (.retAddr a :: ls) (.retAddr a :: st) h Q := am_go (q := (413, .retAddr a :: ls, .retAddr a :: st, h)) (o_W_law L xs) rfl rfl (fun _ => rfl)
set_option maxRecDepth 20000 in
theorem k_W_law_413 : am_W (m_W_law L xs) 413 (v0 :: v1 :: v2 :: .int x :: ls) st h Q ↔ am_W (m_W_law L xs) 414 (v0 :: v1 :: v2 :: .int x :: ls) (.int x :: st) h Q := am_go (q := (414, v0 :: v1 :: v2 :: .int x :: ls, .int x :: st, h)) (o_W_law L xs) rfl rfl (fun _ => rfl)
set_option maxRecDepth 20000 in
theorem k_W_law_414 : am_W (m_W_law L xs) 414 ls st h Q ↔ am_W (m_W_law L xs) 415 ls (.int 1 :: st) h Q := am_go (q := (415, ls, .int 1 :: st, h)) (o_W_law L xs) rfl rfl (fun _ => rfl)
set_option maxRecDepth 20000 in
theorem k_W_law_415 : am_W (m_W_law L xs) 415 ls (.int y :: .int x :: st) h Q ↔ am_W (m_W_law L xs) 416 ls (.int (x + y) :: st) h Q := am_go (q := (416, ls, .int (x + y) :: st, h)) (o_W_law L xs) rfl rfl (fun _ => rfl)
set_option maxRecDepth 20000 in
theorem k_W_law_416 : am_W (m_W_law L xs) 416 ls (.int x :: .ref a :: st) h Q ↔ am_ob (am_ld h 0 a x) (fun v => am_W (m_W_law L xs) 417 ls (.int v :: st) h Q) := am_iald (o_W_law L xs) rfl
set_option maxRecDepth 20000 in
theorem k_W_law_416s : am_W (m_W_law L xs) 416 ls (.int x :: .retAddr a :: st) h Q ↔ am_ob (am_sld (m_W_law L xs) x) (fun v => am_W (m_W_law L xs) 417 ls (.int v :: st) h Q) := am_sald (o_W_law L xs) rfl
set_option maxRecDepth 20000 in
theorem k_W_law_417 : am_W (m_W_law L xs) 417 ls (v1 :: v0 :: st) h Q ↔ (st.length ≤ 8 ∧ am_rc h [v0, v1] (some 9) = true) ∧ am_C f_X_run [v0, v1] h (fun r h' => am_W (m_W_law L xs) 420 ls (r.toList ++ st) h' Q) := am_ca (o_W_law L xs) rfl (Or.inl rfl) rfl [v0, v1] st rfl
set_option maxRecDepth 20000 in
theorem k_W_law_420 : am_W (m_W_law L xs) 420 (v0 :: v1 :: .ref a :: ls) st h Q ↔ am_W (m_W_law L xs) 421 (v0 :: v1 :: .ref a :: ls) (.ref a :: st) h Q := am_go (q := (421, v0 :: v1 :: .ref a :: ls, .ref a :: st, h)) (o_W_law L xs) rfl rfl (fun _ => rfl)
set_option maxRecDepth 20000 in
theorem k_W_law_421 : am_W (m_W_law L xs) 421 (.retAddr a :: ls) st h Q ↔ am_W (m_W_law L xs) 422 (.retAddr a :: ls) (.retAddr a :: st) h Q := am_go (q := (422, .retAddr a :: ls, .retAddr a :: st, h)) (o_W_law L xs) rfl rfl (fun _ => rfl)
set_option maxRecDepth 20000 in
theorem k_W_law_422 : am_W (m_W_law L xs) 422 (v0 :: v1 :: v2 :: .int x :: ls) st h Q ↔ am_W (m_W_law L xs) 423 (v0 :: v1 :: v2 :: .int x :: ls) (.int x :: st) h Q := am_go (q := (423, v0 :: v1 :: v2 :: .int x :: ls, .int x :: st, h)) (o_W_law L xs) rfl rfl (fun _ => rfl)
set_option maxRecDepth 20000 in
theorem k_W_law_423 : am_W (m_W_law L xs) 423 ls st h Q ↔ am_W (m_W_law L xs) 424 ls (.int 1 :: st) h Q := am_go (q := (424, ls, .int 1 :: st, h)) (o_W_law L xs) rfl rfl (fun _ => rfl)
set_option maxRecDepth 20000 in
theorem k_W_law_424 : am_W (m_W_law L xs) 424 ls (.int y :: .int x :: st) h Q ↔ am_W (m_W_law L xs) 425 ls (.int (x + y) :: st) h Q := am_go (q := (425, ls, .int (x + y) :: st, h)) (o_W_law L xs) rfl rfl (fun _ => rfl)
set_option maxRecDepth 20000 in
theorem k_W_law_425 : am_W (m_W_law L xs) 425 ls (.int x :: .ref a :: st) h Q ↔ am_ob (am_ld h 0 a x) (fun v => am_W (m_W_law L xs) 426 ls (.int v :: st) h Q) := am_iald (o_W_law L xs) rfl
set_option maxRecDepth 20000 in
theorem k_W_law_425s : am_W (m_W_law L xs) 425 ls (.int x :: .retAddr a :: st) h Q ↔ am_ob (am_sld (m_W_law L xs) x) (fun v => am_W (m_W_law L xs) 426 ls (.int v :: st) h Q) := am_sald (o_W_law L xs) rfl
set_option maxRecDepth 20000 in
theorem k_W_law_426 : am_W (m_W_law L xs) 426 ls (v1 :: v0 :: st) h Q ↔ (st.length ≤ 8 ∧ am_rc h [v0, v1] (some 10) = true) ∧ am_C f_M_run [v0, v1] h (fun r h' => am_W (m_W_law L xs) 429 ls (r.toList ++ st) h' Q) := am_ca (o_W_law L xs) rfl (Or.inl rfl) rfl [v0, v1] st rfl
set_option maxRecDepth 20000 in
theorem k_W_law_429 : am_W (m_W_law L xs) 429 ls (.int y :: .int x :: st) h Q ↔ (x = y → am_W (m_W_law L xs) 578 ls st h Q) ∧ (¬ x = y → am_W (m_W_law L xs) 432 ls st h Q) := (am_go (q := (if x = y then 578 else 432, ls, st, h)) (o_W_law L xs) rfl rfl (fun _ => rfl)).trans am_ite
set_option maxRecDepth 20000 in
theorem k_W_law_432 : am_W (m_W_law L xs) 432 ls st h Q ↔ am_W (m_W_law L xs) 433 ls (.int 0 :: st) h Q := am_go (q := (433, ls, .int 0 :: st, h)) (o_W_law L xs) rfl rfl (fun _ => rfl)
set_option maxRecDepth 20000 in
theorem k_W_law_433 : am_W (m_W_law L xs) 433 ls [.int x] h Q ↔ (x = 0 ∨ x = 1) ∧ Q (some (.int x)) h := am_zret rfl rfl
set_option maxRecDepth 20000 in
theorem k_W_law_434 : am_W (m_W_law L xs) 434 (v0 :: .ref a :: ls) st h Q ↔ am_W (m_W_law L xs) 435 (v0 :: .ref a :: ls) (.ref a :: st) h Q := am_go (q := (435, v0 :: .ref a :: ls, .ref a :: st, h)) (o_W_law L xs) rfl rfl (fun _ => rfl)
set_option maxRecDepth 20000 in
theorem k_W_law_435 : am_W (m_W_law L xs) 435 ls (v0 :: st) h Q ↔ (st.length ≤ 8 ∧ am_rc h [v0] (some 9) = true) ∧ am_C f_X_status [v0] h (fun r h' => am_W (m_W_law L xs) 438 ls (r.toList ++ st) h' Q) := am_ca (o_W_law L xs) rfl (Or.inl rfl) rfl [v0] st rfl
set_option maxRecDepth 20000 in
theorem k_W_law_438 : am_W (m_W_law L xs) 438 (v0 :: v1 :: .ref a :: ls) st h Q ↔ am_W (m_W_law L xs) 439 (v0 :: v1 :: .ref a :: ls) (.ref a :: st) h Q := am_go (q := (439, v0 :: v1 :: .ref a :: ls, .ref a :: st, h)) (o_W_law L xs) rfl rfl (fun _ => rfl)
set_option maxRecDepth 20000 in
theorem k_W_law_439 : am_W (m_W_law L xs) 439 ls (v0 :: st) h Q ↔ (st.length ≤ 8 ∧ am_rc h [v0] (some 10) = true) ∧ am_C f_M_status [v0] h (fun r h' => am_W (m_W_law L xs) 442 ls (r.toList ++ st) h' Q) := am_ca (o_W_law L xs) rfl (Or.inl rfl) rfl [v0] st rfl
set_option maxRecDepth 20000 in
theorem k_W_law_442 : am_W (m_W_law L xs) 442 ls (.int y :: .int x :: st) h Q ↔ (x = y → am_W (m_W_law L xs) 578 ls st h Q) ∧ (¬ x = y → am_W (m_W_law L xs) 445 ls st h Q) := (am_go (q := (if x = y then 578 else 445, ls, st, h)) (o_W_law L xs) rfl rfl (fun _ => rfl)).trans am_ite
set_option maxRecDepth 20000 in
theorem k_W_law_445 : am_W (m_W_law L xs) 445 ls st h Q ↔ am_W (m_W_law L xs) 446 ls (.int 0 :: st) h Q := am_go (q := (446, ls, .int 0 :: st, h)) (o_W_law L xs) rfl rfl (fun _ => rfl)
set_option maxRecDepth 20000 in
theorem k_W_law_446 : am_W (m_W_law L xs) 446 ls [.int x] h Q ↔ (x = 0 ∨ x = 1) ∧ Q (some (.int x)) h := am_zret rfl rfl
set_option maxRecDepth 20000 in
theorem k_W_law_447 : am_W (m_W_law L xs) 447 (v0 :: .ref a :: ls) st h Q ↔ am_W (m_W_law L xs) 448 (v0 :: .ref a :: ls) (.ref a :: st) h Q := am_go (q := (448, v0 :: .ref a :: ls, .ref a :: st, h)) (o_W_law L xs) rfl rfl (fun _ => rfl)
set_option maxRecDepth 20000 in
theorem k_W_law_448 : am_W (m_W_law L xs) 448 ls (v0 :: st) h Q ↔ (st.length ≤ 8 ∧ am_rc h [v0] (some 9) = true) ∧ am_C f_X_result [v0] h (fun r h' => am_W (m_W_law L xs) 451 ls (r.toList ++ st) h' Q) := am_ca (o_W_law L xs) rfl (Or.inl rfl) rfl [v0] st rfl
set_option maxRecDepth 20000 in
theorem k_W_law_451 : am_W (m_W_law L xs) 451 (v0 :: v1 :: .ref a :: ls) st h Q ↔ am_W (m_W_law L xs) 452 (v0 :: v1 :: .ref a :: ls) (.ref a :: st) h Q := am_go (q := (452, v0 :: v1 :: .ref a :: ls, .ref a :: st, h)) (o_W_law L xs) rfl rfl (fun _ => rfl)
set_option maxRecDepth 20000 in
theorem k_W_law_452 : am_W (m_W_law L xs) 452 ls (v0 :: st) h Q ↔ (st.length ≤ 8 ∧ am_rc h [v0] (some 10) = true) ∧ am_C f_M_result [v0] h (fun r h' => am_W (m_W_law L xs) 455 ls (r.toList ++ st) h' Q) := am_ca (o_W_law L xs) rfl (Or.inl rfl) rfl [v0] st rfl
set_option maxRecDepth 20000 in
theorem k_W_law_455 : am_W (m_W_law L xs) 455 ls (.int y :: .int x :: st) h Q ↔ (x = y → am_W (m_W_law L xs) 578 ls st h Q) ∧ (¬ x = y → am_W (m_W_law L xs) 458 ls st h Q) := (am_go (q := (if x = y then 578 else 458, ls, st, h)) (o_W_law L xs) rfl rfl (fun _ => rfl)).trans am_ite
set_option maxRecDepth 20000 in
theorem k_W_law_458 : am_W (m_W_law L xs) 458 ls st h Q ↔ am_W (m_W_law L xs) 459 ls (.int 0 :: st) h Q := am_go (q := (459, ls, .int 0 :: st, h)) (o_W_law L xs) rfl rfl (fun _ => rfl)
set_option maxRecDepth 20000 in
theorem k_W_law_459 : am_W (m_W_law L xs) 459 ls [.int x] h Q ↔ (x = 0 ∨ x = 1) ∧ Q (some (.int x)) h := am_zret rfl rfl
set_option maxRecDepth 20000 in
theorem k_W_law_460 : am_W (m_W_law L xs) 460 (v0 :: .ref a :: ls) st h Q ↔ am_W (m_W_law L xs) 461 (v0 :: .ref a :: ls) (.ref a :: st) h Q := am_go (q := (461, v0 :: .ref a :: ls, .ref a :: st, h)) (o_W_law L xs) rfl rfl (fun _ => rfl)
set_option maxRecDepth 20000 in
theorem k_W_law_461 : am_W (m_W_law L xs) 461 ls (v0 :: st) h Q ↔ (st.length ≤ 8 ∧ am_rc h [v0] (some 9) = true) ∧ am_C f_X_depth [v0] h (fun r h' => am_W (m_W_law L xs) 464 ls (r.toList ++ st) h' Q) := am_ca (o_W_law L xs) rfl (Or.inl rfl) rfl [v0] st rfl
set_option maxRecDepth 20000 in
theorem k_W_law_464 : am_W (m_W_law L xs) 464 (v0 :: v1 :: .ref a :: ls) st h Q ↔ am_W (m_W_law L xs) 465 (v0 :: v1 :: .ref a :: ls) (.ref a :: st) h Q := am_go (q := (465, v0 :: v1 :: .ref a :: ls, .ref a :: st, h)) (o_W_law L xs) rfl rfl (fun _ => rfl)
set_option maxRecDepth 20000 in
theorem k_W_law_465 : am_W (m_W_law L xs) 465 ls (v0 :: st) h Q ↔ (st.length ≤ 8 ∧ am_rc h [v0] (some 10) = true) ∧ am_C f_M_depth [v0] h (fun r h' => am_W (m_W_law L xs) 468 ls (r.toList ++ st) h' Q) := am_ca (o_W_law L xs) rfl (Or.inl rfl) rfl [v0] st rfl
set_option maxRecDepth 20000 in
theorem k_W_law_468 : am_W (m_W_law L xs) 468 ls (.int y :: .int x :: st) h Q ↔ (x = y → am_W (m_W_law L xs) 578 ls st h Q) ∧ (¬ x = y → am_W (m_W_law L xs) 471 ls st h Q) := (am_go (q := (if x = y then 578 else 471, ls, st, h)) (o_W_law L xs) rfl rfl (fun _ => rfl)).trans am_ite
set_option maxRecDepth 20000 in
theorem k_W_law_471 : am_W (m_W_law L xs) 471 ls st h Q ↔ am_W (m_W_law L xs) 472 ls (.int 0 :: st) h Q := am_go (q := (472, ls, .int 0 :: st, h)) (o_W_law L xs) rfl rfl (fun _ => rfl)
set_option maxRecDepth 20000 in
theorem k_W_law_472 : am_W (m_W_law L xs) 472 ls [.int x] h Q ↔ (x = 0 ∨ x = 1) ∧ Q (some (.int x)) h := am_zret rfl rfl
set_option maxRecDepth 20000 in
theorem k_W_law_473 : am_W (m_W_law L xs) 473 (v0 :: .ref a :: ls) st h Q ↔ am_W (m_W_law L xs) 474 (v0 :: .ref a :: ls) (.ref a :: st) h Q := am_go (q := (474, v0 :: .ref a :: ls, .ref a :: st, h)) (o_W_law L xs) rfl rfl (fun _ => rfl)
set_option maxRecDepth 20000 in
theorem k_W_law_474 : am_W (m_W_law L xs) 474 (.retAddr a :: ls) st h Q ↔ am_W (m_W_law L xs) 475 (.retAddr a :: ls) (.retAddr a :: st) h Q := am_go (q := (475, .retAddr a :: ls, .retAddr a :: st, h)) (o_W_law L xs) rfl rfl (fun _ => rfl)
set_option maxRecDepth 20000 in
theorem k_W_law_475 : am_W (m_W_law L xs) 475 (v0 :: v1 :: v2 :: .int x :: ls) st h Q ↔ am_W (m_W_law L xs) 476 (v0 :: v1 :: v2 :: .int x :: ls) (.int x :: st) h Q := am_go (q := (476, v0 :: v1 :: v2 :: .int x :: ls, .int x :: st, h)) (o_W_law L xs) rfl rfl (fun _ => rfl)
set_option maxRecDepth 20000 in
theorem k_W_law_476 : am_W (m_W_law L xs) 476 ls st h Q ↔ am_W (m_W_law L xs) 477 ls (.int 1 :: st) h Q := am_go (q := (477, ls, .int 1 :: st, h)) (o_W_law L xs) rfl rfl (fun _ => rfl)
set_option maxRecDepth 20000 in
theorem k_W_law_477 : am_W (m_W_law L xs) 477 ls (.int y :: .int x :: st) h Q ↔ am_W (m_W_law L xs) 478 ls (.int (x + y) :: st) h Q := am_go (q := (478, ls, .int (x + y) :: st, h)) (o_W_law L xs) rfl rfl (fun _ => rfl)
set_option maxRecDepth 20000 in
theorem k_W_law_478 : am_W (m_W_law L xs) 478 ls (.int x :: .ref a :: st) h Q ↔ am_ob (am_ld h 0 a x) (fun v => am_W (m_W_law L xs) 479 ls (.int v :: st) h Q) := am_iald (o_W_law L xs) rfl
set_option maxRecDepth 20000 in
theorem k_W_law_478s : am_W (m_W_law L xs) 478 ls (.int x :: .retAddr a :: st) h Q ↔ am_ob (am_sld (m_W_law L xs) x) (fun v => am_W (m_W_law L xs) 479 ls (.int v :: st) h Q) := am_sald (o_W_law L xs) rfl
set_option maxRecDepth 20000 in
theorem k_W_law_479 : am_W (m_W_law L xs) 479 ls (v1 :: v0 :: st) h Q ↔ (st.length ≤ 8 ∧ am_rc h [v0, v1] (some 9) = true) ∧ am_C f_X_frame [v0, v1] h (fun r h' => am_W (m_W_law L xs) 482 ls (r.toList ++ st) h' Q) := am_ca (o_W_law L xs) rfl (Or.inl rfl) rfl [v0, v1] st rfl
set_option maxRecDepth 20000 in
theorem k_W_law_482 : am_W (m_W_law L xs) 482 (v0 :: v1 :: .ref a :: ls) st h Q ↔ am_W (m_W_law L xs) 483 (v0 :: v1 :: .ref a :: ls) (.ref a :: st) h Q := am_go (q := (483, v0 :: v1 :: .ref a :: ls, .ref a :: st, h)) (o_W_law L xs) rfl rfl (fun _ => rfl)
set_option maxRecDepth 20000 in
theorem k_W_law_483 : am_W (m_W_law L xs) 483 (.retAddr a :: ls) st h Q ↔ am_W (m_W_law L xs) 484 (.retAddr a :: ls) (.retAddr a :: st) h Q := am_go (q := (484, .retAddr a :: ls, .retAddr a :: st, h)) (o_W_law L xs) rfl rfl (fun _ => rfl)
set_option maxRecDepth 20000 in
theorem k_W_law_484 : am_W (m_W_law L xs) 484 (v0 :: v1 :: v2 :: .int x :: ls) st h Q ↔ am_W (m_W_law L xs) 485 (v0 :: v1 :: v2 :: .int x :: ls) (.int x :: st) h Q := am_go (q := (485, v0 :: v1 :: v2 :: .int x :: ls, .int x :: st, h)) (o_W_law L xs) rfl rfl (fun _ => rfl)
set_option maxRecDepth 20000 in
theorem k_W_law_485 : am_W (m_W_law L xs) 485 ls st h Q ↔ am_W (m_W_law L xs) 486 ls (.int 1 :: st) h Q := am_go (q := (486, ls, .int 1 :: st, h)) (o_W_law L xs) rfl rfl (fun _ => rfl)
set_option maxRecDepth 20000 in
theorem k_W_law_486 : am_W (m_W_law L xs) 486 ls (.int y :: .int x :: st) h Q ↔ am_W (m_W_law L xs) 487 ls (.int (x + y) :: st) h Q := am_go (q := (487, ls, .int (x + y) :: st, h)) (o_W_law L xs) rfl rfl (fun _ => rfl)
set_option maxRecDepth 20000 in
theorem k_W_law_487 : am_W (m_W_law L xs) 487 ls (.int x :: .ref a :: st) h Q ↔ am_ob (am_ld h 0 a x) (fun v => am_W (m_W_law L xs) 488 ls (.int v :: st) h Q) := am_iald (o_W_law L xs) rfl
set_option maxRecDepth 20000 in
theorem k_W_law_487s : am_W (m_W_law L xs) 487 ls (.int x :: .retAddr a :: st) h Q ↔ am_ob (am_sld (m_W_law L xs) x) (fun v => am_W (m_W_law L xs) 488 ls (.int v :: st) h Q) := am_sald (o_W_law L xs) rfl
set_option maxRecDepth 20000 in
theorem k_W_law_488 : am_W (m_W_law L xs) 488 ls (v1 :: v0 :: st) h Q ↔ (st.length ≤ 8 ∧ am_rc h [v0, v1] (some 10) = true) ∧ am_C f_M_frame [v0, v1] h (fun r h' => am_W (m_W_law L xs) 491 ls (r.toList ++ st) h' Q) := am_ca (o_W_law L xs) rfl (Or.inl rfl) rfl [v0, v1] st rfl
set_option maxRecDepth 20000 in
theorem k_W_law_491 : am_W (m_W_law L xs) 491 ls (.int y :: .int x :: st) h Q ↔ (x = y → am_W (m_W_law L xs) 578 ls st h Q) ∧ (¬ x = y → am_W (m_W_law L xs) 494 ls st h Q) := (am_go (q := (if x = y then 578 else 494, ls, st, h)) (o_W_law L xs) rfl rfl (fun _ => rfl)).trans am_ite
set_option maxRecDepth 20000 in
theorem k_W_law_494 : am_W (m_W_law L xs) 494 ls st h Q ↔ am_W (m_W_law L xs) 495 ls (.int 0 :: st) h Q := am_go (q := (495, ls, .int 0 :: st, h)) (o_W_law L xs) rfl rfl (fun _ => rfl)
set_option maxRecDepth 20000 in
theorem k_W_law_495 : am_W (m_W_law L xs) 495 ls [.int x] h Q ↔ (x = 0 ∨ x = 1) ∧ Q (some (.int x)) h := am_zret rfl rfl
set_option maxRecDepth 20000 in
theorem k_W_law_496 : am_W (m_W_law L xs) 496 (v0 :: .ref a :: ls) st h Q ↔ am_W (m_W_law L xs) 497 (v0 :: .ref a :: ls) (.ref a :: st) h Q := am_go (q := (497, v0 :: .ref a :: ls, .ref a :: st, h)) (o_W_law L xs) rfl rfl (fun _ => rfl)
set_option maxRecDepth 20000 in
theorem k_W_law_497 : am_W (m_W_law L xs) 497 ls (v0 :: st) h Q ↔ (st.length ≤ 8 ∧ am_rc h [v0] (some 9) = true) ∧ am_C f_X_objects [v0] h (fun r h' => am_W (m_W_law L xs) 500 ls (r.toList ++ st) h' Q) := am_ca (o_W_law L xs) rfl (Or.inl rfl) rfl [v0] st rfl
set_option maxRecDepth 20000 in
theorem k_W_law_500 : am_W (m_W_law L xs) 500 (v0 :: v1 :: .ref a :: ls) st h Q ↔ am_W (m_W_law L xs) 501 (v0 :: v1 :: .ref a :: ls) (.ref a :: st) h Q := am_go (q := (501, v0 :: v1 :: .ref a :: ls, .ref a :: st, h)) (o_W_law L xs) rfl rfl (fun _ => rfl)
set_option maxRecDepth 20000 in
theorem k_W_law_501 : am_W (m_W_law L xs) 501 ls (v0 :: st) h Q ↔ (st.length ≤ 8 ∧ am_rc h [v0] (some 10) = true) ∧ am_C f_M_objects [v0] h (fun r h' => am_W (m_W_law L xs) 504 ls (r.toList ++ st) h' Q) := am_ca (o_W_law L xs) rfl (Or.inl rfl) rfl [v0] st rfl
set_option maxRecDepth 20000 in
theorem k_W_law_504 : am_W (m_W_law L xs) 504 ls (.int y :: .int x :: st) h Q ↔ (x = y → am_W (m_W_law L xs) 578 ls st h Q) ∧ (¬ x = y → am_W (m_W_law L xs) 507 ls st h Q) := (am_go (q := (if x = y then 578 else 507, ls, st, h)) (o_W_law L xs) rfl rfl (fun _ => rfl)).trans am_ite
set_option maxRecDepth 20000 in
theorem k_W_law_507 : am_W (m_W_law L xs) 507 ls st h Q ↔ am_W (m_W_law L xs) 508 ls (.int 0 :: st) h Q := am_go (q := (508, ls, .int 0 :: st, h)) (o_W_law L xs) rfl rfl (fun _ => rfl)
set_option maxRecDepth 20000 in
theorem k_W_law_508 : am_W (m_W_law L xs) 508 ls [.int x] h Q ↔ (x = 0 ∨ x = 1) ∧ Q (some (.int x)) h := am_zret rfl rfl
set_option maxRecDepth 20000 in
theorem k_W_law_509 : am_W (m_W_law L xs) 509 (v0 :: .ref a :: ls) st h Q ↔ am_W (m_W_law L xs) 510 (v0 :: .ref a :: ls) (.ref a :: st) h Q := am_go (q := (510, v0 :: .ref a :: ls, .ref a :: st, h)) (o_W_law L xs) rfl rfl (fun _ => rfl)
set_option maxRecDepth 20000 in
theorem k_W_law_510 : am_W (m_W_law L xs) 510 (.retAddr a :: ls) st h Q ↔ am_W (m_W_law L xs) 511 (.retAddr a :: ls) (.retAddr a :: st) h Q := am_go (q := (511, .retAddr a :: ls, .retAddr a :: st, h)) (o_W_law L xs) rfl rfl (fun _ => rfl)
set_option maxRecDepth 20000 in
theorem k_W_law_511 : am_W (m_W_law L xs) 511 (v0 :: v1 :: v2 :: .int x :: ls) st h Q ↔ am_W (m_W_law L xs) 512 (v0 :: v1 :: v2 :: .int x :: ls) (.int x :: st) h Q := am_go (q := (512, v0 :: v1 :: v2 :: .int x :: ls, .int x :: st, h)) (o_W_law L xs) rfl rfl (fun _ => rfl)
set_option maxRecDepth 20000 in
theorem k_W_law_512 : am_W (m_W_law L xs) 512 ls st h Q ↔ am_W (m_W_law L xs) 513 ls (.int 1 :: st) h Q := am_go (q := (513, ls, .int 1 :: st, h)) (o_W_law L xs) rfl rfl (fun _ => rfl)
set_option maxRecDepth 20000 in
theorem k_W_law_513 : am_W (m_W_law L xs) 513 ls (.int y :: .int x :: st) h Q ↔ am_W (m_W_law L xs) 514 ls (.int (x + y) :: st) h Q := am_go (q := (514, ls, .int (x + y) :: st, h)) (o_W_law L xs) rfl rfl (fun _ => rfl)
set_option maxRecDepth 20000 in
theorem k_W_law_514 : am_W (m_W_law L xs) 514 ls (.int x :: .ref a :: st) h Q ↔ am_ob (am_ld h 0 a x) (fun v => am_W (m_W_law L xs) 515 ls (.int v :: st) h Q) := am_iald (o_W_law L xs) rfl
set_option maxRecDepth 20000 in
theorem k_W_law_514s : am_W (m_W_law L xs) 514 ls (.int x :: .retAddr a :: st) h Q ↔ am_ob (am_sld (m_W_law L xs) x) (fun v => am_W (m_W_law L xs) 515 ls (.int v :: st) h Q) := am_sald (o_W_law L xs) rfl
set_option maxRecDepth 20000 in
theorem k_W_law_515 : am_W (m_W_law L xs) 515 ls (v1 :: v0 :: st) h Q ↔ (st.length ≤ 8 ∧ am_rc h [v0, v1] (some 9) = true) ∧ am_C f_X_output [v0, v1] h (fun r h' => am_W (m_W_law L xs) 518 ls (r.toList ++ st) h' Q) := am_ca (o_W_law L xs) rfl (Or.inl rfl) rfl [v0, v1] st rfl
set_option maxRecDepth 20000 in
theorem k_W_law_518 : am_W (m_W_law L xs) 518 (v0 :: v1 :: .ref a :: ls) st h Q ↔ am_W (m_W_law L xs) 519 (v0 :: v1 :: .ref a :: ls) (.ref a :: st) h Q := am_go (q := (519, v0 :: v1 :: .ref a :: ls, .ref a :: st, h)) (o_W_law L xs) rfl rfl (fun _ => rfl)
set_option maxRecDepth 20000 in
theorem k_W_law_519 : am_W (m_W_law L xs) 519 (.retAddr a :: ls) st h Q ↔ am_W (m_W_law L xs) 520 (.retAddr a :: ls) (.retAddr a :: st) h Q := am_go (q := (520, .retAddr a :: ls, .retAddr a :: st, h)) (o_W_law L xs) rfl rfl (fun _ => rfl)
set_option maxRecDepth 20000 in
theorem k_W_law_520 : am_W (m_W_law L xs) 520 (v0 :: v1 :: v2 :: .int x :: ls) st h Q ↔ am_W (m_W_law L xs) 521 (v0 :: v1 :: v2 :: .int x :: ls) (.int x :: st) h Q := am_go (q := (521, v0 :: v1 :: v2 :: .int x :: ls, .int x :: st, h)) (o_W_law L xs) rfl rfl (fun _ => rfl)
set_option maxRecDepth 20000 in
theorem k_W_law_521 : am_W (m_W_law L xs) 521 ls st h Q ↔ am_W (m_W_law L xs) 522 ls (.int 1 :: st) h Q := am_go (q := (522, ls, .int 1 :: st, h)) (o_W_law L xs) rfl rfl (fun _ => rfl)
set_option maxRecDepth 20000 in
theorem k_W_law_522 : am_W (m_W_law L xs) 522 ls (.int y :: .int x :: st) h Q ↔ am_W (m_W_law L xs) 523 ls (.int (x + y) :: st) h Q := am_go (q := (523, ls, .int (x + y) :: st, h)) (o_W_law L xs) rfl rfl (fun _ => rfl)
set_option maxRecDepth 20000 in
theorem k_W_law_523 : am_W (m_W_law L xs) 523 ls (.int x :: .ref a :: st) h Q ↔ am_ob (am_ld h 0 a x) (fun v => am_W (m_W_law L xs) 524 ls (.int v :: st) h Q) := am_iald (o_W_law L xs) rfl
set_option maxRecDepth 20000 in
theorem k_W_law_523s : am_W (m_W_law L xs) 523 ls (.int x :: .retAddr a :: st) h Q ↔ am_ob (am_sld (m_W_law L xs) x) (fun v => am_W (m_W_law L xs) 524 ls (.int v :: st) h Q) := am_sald (o_W_law L xs) rfl
set_option maxRecDepth 20000 in
theorem k_W_law_524 : am_W (m_W_law L xs) 524 ls (v1 :: v0 :: st) h Q ↔ (st.length ≤ 8 ∧ am_rc h [v0, v1] (some 10) = true) ∧ am_C f_M_output [v0, v1] h (fun r h' => am_W (m_W_law L xs) 527 ls (r.toList ++ st) h' Q) := am_ca (o_W_law L xs) rfl (Or.inl rfl) rfl [v0, v1] st rfl
set_option maxRecDepth 20000 in
theorem k_W_law_527 : am_W (m_W_law L xs) 527 ls (.int y :: .int x :: st) h Q ↔ (x = y → am_W (m_W_law L xs) 578 ls st h Q) ∧ (¬ x = y → am_W (m_W_law L xs) 530 ls st h Q) := (am_go (q := (if x = y then 578 else 530, ls, st, h)) (o_W_law L xs) rfl rfl (fun _ => rfl)).trans am_ite
set_option maxRecDepth 20000 in
theorem k_W_law_530 : am_W (m_W_law L xs) 530 ls st h Q ↔ am_W (m_W_law L xs) 531 ls (.int 0 :: st) h Q := am_go (q := (531, ls, .int 0 :: st, h)) (o_W_law L xs) rfl rfl (fun _ => rfl)
set_option maxRecDepth 20000 in
theorem k_W_law_531 : am_W (m_W_law L xs) 531 ls [.int x] h Q ↔ (x = 0 ∨ x = 1) ∧ Q (some (.int x)) h := am_zret rfl rfl
set_option maxRecDepth 20000 in
theorem k_W_law_532 : am_W (m_W_law L xs) 532 (v0 :: .ref a :: ls) st h Q ↔ am_W (m_W_law L xs) 533 (v0 :: .ref a :: ls) (.ref a :: st) h Q := am_go (q := (533, v0 :: .ref a :: ls, .ref a :: st, h)) (o_W_law L xs) rfl rfl (fun _ => rfl)
set_option maxRecDepth 20000 in
theorem k_W_law_533 : am_W (m_W_law L xs) 533 ls (v0 :: st) h Q ↔ (st.length ≤ 8 ∧ am_rc h [v0] (some 9) = true) ∧ am_C f_X_outputs [v0] h (fun r h' => am_W (m_W_law L xs) 536 ls (r.toList ++ st) h' Q) := am_ca (o_W_law L xs) rfl (Or.inl rfl) rfl [v0] st rfl
set_option maxRecDepth 20000 in
theorem k_W_law_536 : am_W (m_W_law L xs) 536 (v0 :: v1 :: .ref a :: ls) st h Q ↔ am_W (m_W_law L xs) 537 (v0 :: v1 :: .ref a :: ls) (.ref a :: st) h Q := am_go (q := (537, v0 :: v1 :: .ref a :: ls, .ref a :: st, h)) (o_W_law L xs) rfl rfl (fun _ => rfl)
set_option maxRecDepth 20000 in
theorem k_W_law_537 : am_W (m_W_law L xs) 537 ls (v0 :: st) h Q ↔ (st.length ≤ 8 ∧ am_rc h [v0] (some 10) = true) ∧ am_C f_M_outputs [v0] h (fun r h' => am_W (m_W_law L xs) 540 ls (r.toList ++ st) h' Q) := am_ca (o_W_law L xs) rfl (Or.inl rfl) rfl [v0] st rfl
set_option maxRecDepth 20000 in
theorem k_W_law_540 : am_W (m_W_law L xs) 540 ls (.int y :: .int x :: st) h Q ↔ (x = y → am_W (m_W_law L xs) 578 ls st h Q) ∧ (¬ x = y → am_W (m_W_law L xs) 543 ls st h Q) := (am_go (q := (if x = y then 578 else 543, ls, st, h)) (o_W_law L xs) rfl rfl (fun _ => rfl)).trans am_ite
set_option maxRecDepth 20000 in
theorem k_W_law_543 : am_W (m_W_law L xs) 543 ls st h Q ↔ am_W (m_W_law L xs) 544 ls (.int 0 :: st) h Q := am_go (q := (544, ls, .int 0 :: st, h)) (o_W_law L xs) rfl rfl (fun _ => rfl)
set_option maxRecDepth 20000 in
theorem k_W_law_544 : am_W (m_W_law L xs) 544 ls [.int x] h Q ↔ (x = 0 ∨ x = 1) ∧ Q (some (.int x)) h := am_zret rfl rfl
set_option maxRecDepth 20000 in
theorem k_W_law_545 : am_W (m_W_law L xs) 545 (v0 :: .ref a :: ls) st h Q ↔ am_W (m_W_law L xs) 546 (v0 :: .ref a :: ls) (.ref a :: st) h Q := am_go (q := (546, v0 :: .ref a :: ls, .ref a :: st, h)) (o_W_law L xs) rfl rfl (fun _ => rfl)
set_option maxRecDepth 20000 in
theorem k_W_law_546 : am_W (m_W_law L xs) 546 (.retAddr a :: ls) st h Q ↔ am_W (m_W_law L xs) 547 (.retAddr a :: ls) (.retAddr a :: st) h Q := am_go (q := (547, .retAddr a :: ls, .retAddr a :: st, h)) (o_W_law L xs) rfl rfl (fun _ => rfl)
set_option maxRecDepth 20000 in
theorem k_W_law_547 : am_W (m_W_law L xs) 547 (v0 :: v1 :: v2 :: .int x :: ls) st h Q ↔ am_W (m_W_law L xs) 548 (v0 :: v1 :: v2 :: .int x :: ls) (.int x :: st) h Q := am_go (q := (548, v0 :: v1 :: v2 :: .int x :: ls, .int x :: st, h)) (o_W_law L xs) rfl rfl (fun _ => rfl)
set_option maxRecDepth 20000 in
theorem k_W_law_548 : am_W (m_W_law L xs) 548 ls st h Q ↔ am_W (m_W_law L xs) 549 ls (.int 1 :: st) h Q := am_go (q := (549, ls, .int 1 :: st, h)) (o_W_law L xs) rfl rfl (fun _ => rfl)
set_option maxRecDepth 20000 in
theorem k_W_law_549 : am_W (m_W_law L xs) 549 ls (.int y :: .int x :: st) h Q ↔ am_W (m_W_law L xs) 550 ls (.int (x + y) :: st) h Q := am_go (q := (550, ls, .int (x + y) :: st, h)) (o_W_law L xs) rfl rfl (fun _ => rfl)
set_option maxRecDepth 20000 in
theorem k_W_law_550 : am_W (m_W_law L xs) 550 ls (.int x :: .ref a :: st) h Q ↔ am_ob (am_ld h 0 a x) (fun v => am_W (m_W_law L xs) 551 ls (.int v :: st) h Q) := am_iald (o_W_law L xs) rfl
set_option maxRecDepth 20000 in
theorem k_W_law_550s : am_W (m_W_law L xs) 550 ls (.int x :: .retAddr a :: st) h Q ↔ am_ob (am_sld (m_W_law L xs) x) (fun v => am_W (m_W_law L xs) 551 ls (.int v :: st) h Q) := am_sald (o_W_law L xs) rfl
set_option maxRecDepth 20000 in
theorem k_W_law_551 : am_W (m_W_law L xs) 551 (.retAddr a :: ls) st h Q ↔ am_W (m_W_law L xs) 552 (.retAddr a :: ls) (.retAddr a :: st) h Q := am_go (q := (552, .retAddr a :: ls, .retAddr a :: st, h)) (o_W_law L xs) rfl rfl (fun _ => rfl)
set_option maxRecDepth 20000 in
theorem k_W_law_552 : am_W (m_W_law L xs) 552 (v0 :: v1 :: v2 :: .int x :: ls) st h Q ↔ am_W (m_W_law L xs) 553 (v0 :: v1 :: v2 :: .int x :: ls) (.int x :: st) h Q := am_go (q := (553, v0 :: v1 :: v2 :: .int x :: ls, .int x :: st, h)) (o_W_law L xs) rfl rfl (fun _ => rfl)
set_option maxRecDepth 20000 in
theorem k_W_law_553 : am_W (m_W_law L xs) 553 ls st h Q ↔ am_W (m_W_law L xs) 554 ls (.int 2 :: st) h Q := am_go (q := (554, ls, .int 2 :: st, h)) (o_W_law L xs) rfl rfl (fun _ => rfl)
set_option maxRecDepth 20000 in
theorem k_W_law_554 : am_W (m_W_law L xs) 554 ls (.int y :: .int x :: st) h Q ↔ am_W (m_W_law L xs) 555 ls (.int (x + y) :: st) h Q := am_go (q := (555, ls, .int (x + y) :: st, h)) (o_W_law L xs) rfl rfl (fun _ => rfl)
set_option maxRecDepth 20000 in
theorem k_W_law_555 : am_W (m_W_law L xs) 555 ls (.int x :: .ref a :: st) h Q ↔ am_ob (am_ld h 0 a x) (fun v => am_W (m_W_law L xs) 556 ls (.int v :: st) h Q) := am_iald (o_W_law L xs) rfl
set_option maxRecDepth 20000 in
theorem k_W_law_555s : am_W (m_W_law L xs) 555 ls (.int x :: .retAddr a :: st) h Q ↔ am_ob (am_sld (m_W_law L xs) x) (fun v => am_W (m_W_law L xs) 556 ls (.int v :: st) h Q) := am_sald (o_W_law L xs) rfl
set_option maxRecDepth 20000 in
theorem k_W_law_556 : am_W (m_W_law L xs) 556 ls (v2 :: v1 :: v0 :: st) h Q ↔ (st.length ≤ 8 ∧ am_rc h [v0, v1, v2] (some 9) = true) ∧ am_C f_X_shape [v0, v1, v2] h (fun r h' => am_W (m_W_law L xs) 559 ls (r.toList ++ st) h' Q) := am_ca (o_W_law L xs) rfl (Or.inl rfl) rfl [v0, v1, v2] st rfl
set_option maxRecDepth 20000 in
theorem k_W_law_559 : am_W (m_W_law L xs) 559 (v0 :: v1 :: .ref a :: ls) st h Q ↔ am_W (m_W_law L xs) 560 (v0 :: v1 :: .ref a :: ls) (.ref a :: st) h Q := am_go (q := (560, v0 :: v1 :: .ref a :: ls, .ref a :: st, h)) (o_W_law L xs) rfl rfl (fun _ => rfl)
set_option maxRecDepth 20000 in
theorem k_W_law_560 : am_W (m_W_law L xs) 560 (.retAddr a :: ls) st h Q ↔ am_W (m_W_law L xs) 561 (.retAddr a :: ls) (.retAddr a :: st) h Q := am_go (q := (561, .retAddr a :: ls, .retAddr a :: st, h)) (o_W_law L xs) rfl rfl (fun _ => rfl)
set_option maxRecDepth 20000 in
theorem k_W_law_561 : am_W (m_W_law L xs) 561 (v0 :: v1 :: v2 :: .int x :: ls) st h Q ↔ am_W (m_W_law L xs) 562 (v0 :: v1 :: v2 :: .int x :: ls) (.int x :: st) h Q := am_go (q := (562, v0 :: v1 :: v2 :: .int x :: ls, .int x :: st, h)) (o_W_law L xs) rfl rfl (fun _ => rfl)
set_option maxRecDepth 20000 in
theorem k_W_law_562 : am_W (m_W_law L xs) 562 ls st h Q ↔ am_W (m_W_law L xs) 563 ls (.int 1 :: st) h Q := am_go (q := (563, ls, .int 1 :: st, h)) (o_W_law L xs) rfl rfl (fun _ => rfl)
set_option maxRecDepth 20000 in
theorem k_W_law_563 : am_W (m_W_law L xs) 563 ls (.int y :: .int x :: st) h Q ↔ am_W (m_W_law L xs) 564 ls (.int (x + y) :: st) h Q := am_go (q := (564, ls, .int (x + y) :: st, h)) (o_W_law L xs) rfl rfl (fun _ => rfl)
set_option maxRecDepth 20000 in
theorem k_W_law_564 : am_W (m_W_law L xs) 564 ls (.int x :: .ref a :: st) h Q ↔ am_ob (am_ld h 0 a x) (fun v => am_W (m_W_law L xs) 565 ls (.int v :: st) h Q) := am_iald (o_W_law L xs) rfl
set_option maxRecDepth 20000 in
theorem k_W_law_564s : am_W (m_W_law L xs) 564 ls (.int x :: .retAddr a :: st) h Q ↔ am_ob (am_sld (m_W_law L xs) x) (fun v => am_W (m_W_law L xs) 565 ls (.int v :: st) h Q) := am_sald (o_W_law L xs) rfl
set_option maxRecDepth 20000 in
theorem k_W_law_565 : am_W (m_W_law L xs) 565 (.retAddr a :: ls) st h Q ↔ am_W (m_W_law L xs) 566 (.retAddr a :: ls) (.retAddr a :: st) h Q := am_go (q := (566, .retAddr a :: ls, .retAddr a :: st, h)) (o_W_law L xs) rfl rfl (fun _ => rfl)
set_option maxRecDepth 20000 in
theorem k_W_law_566 : am_W (m_W_law L xs) 566 (v0 :: v1 :: v2 :: .int x :: ls) st h Q ↔ am_W (m_W_law L xs) 567 (v0 :: v1 :: v2 :: .int x :: ls) (.int x :: st) h Q := am_go (q := (567, v0 :: v1 :: v2 :: .int x :: ls, .int x :: st, h)) (o_W_law L xs) rfl rfl (fun _ => rfl)
set_option maxRecDepth 20000 in
theorem k_W_law_567 : am_W (m_W_law L xs) 567 ls st h Q ↔ am_W (m_W_law L xs) 568 ls (.int 2 :: st) h Q := am_go (q := (568, ls, .int 2 :: st, h)) (o_W_law L xs) rfl rfl (fun _ => rfl)
set_option maxRecDepth 20000 in
theorem k_W_law_568 : am_W (m_W_law L xs) 568 ls (.int y :: .int x :: st) h Q ↔ am_W (m_W_law L xs) 569 ls (.int (x + y) :: st) h Q := am_go (q := (569, ls, .int (x + y) :: st, h)) (o_W_law L xs) rfl rfl (fun _ => rfl)
set_option maxRecDepth 20000 in
theorem k_W_law_569 : am_W (m_W_law L xs) 569 ls (.int x :: .ref a :: st) h Q ↔ am_ob (am_ld h 0 a x) (fun v => am_W (m_W_law L xs) 570 ls (.int v :: st) h Q) := am_iald (o_W_law L xs) rfl
set_option maxRecDepth 20000 in
theorem k_W_law_569s : am_W (m_W_law L xs) 569 ls (.int x :: .retAddr a :: st) h Q ↔ am_ob (am_sld (m_W_law L xs) x) (fun v => am_W (m_W_law L xs) 570 ls (.int v :: st) h Q) := am_sald (o_W_law L xs) rfl
set_option maxRecDepth 20000 in
theorem k_W_law_570 : am_W (m_W_law L xs) 570 ls (v2 :: v1 :: v0 :: st) h Q ↔ (st.length ≤ 8 ∧ am_rc h [v0, v1, v2] (some 10) = true) ∧ am_C f_M_shape [v0, v1, v2] h (fun r h' => am_W (m_W_law L xs) 573 ls (r.toList ++ st) h' Q) := am_ca (o_W_law L xs) rfl (Or.inl rfl) rfl [v0, v1, v2] st rfl
set_option maxRecDepth 20000 in
theorem k_W_law_573 : am_W (m_W_law L xs) 573 ls (.int y :: .int x :: st) h Q ↔ (x = y → am_W (m_W_law L xs) 578 ls st h Q) ∧ (¬ x = y → am_W (m_W_law L xs) 576 ls st h Q) := (am_go (q := (if x = y then 578 else 576, ls, st, h)) (o_W_law L xs) rfl rfl (fun _ => rfl)).trans am_ite
set_option maxRecDepth 20000 in
theorem k_W_law_576 : am_W (m_W_law L xs) 576 ls st h Q ↔ am_W (m_W_law L xs) 577 ls (.int 0 :: st) h Q := am_go (q := (577, ls, .int 0 :: st, h)) (o_W_law L xs) rfl rfl (fun _ => rfl)
set_option maxRecDepth 20000 in
theorem k_W_law_577 : am_W (m_W_law L xs) 577 ls [.int x] h Q ↔ (x = 0 ∨ x = 1) ∧ Q (some (.int x)) h := am_zret rfl rfl
set_option maxRecDepth 20000 in
theorem k_W_law_578 : am_W (m_W_law L xs) 578 (v0 :: v1 :: v2 :: .int x :: ls) st h Q ↔ am_W (m_W_law L xs) 581 (v0 :: v1 :: v2 :: .int (x + 5) :: ls) st h Q := am_go (q := (581, v0 :: v1 :: v2 :: .int (x + 5) :: ls, st, h)) (o_W_law L xs) rfl rfl (fun _ => rfl)
set_option maxRecDepth 20000 in
theorem k_W_law_581 : am_W (m_W_law L xs) 581 ls st h Q ↔ am_W (m_W_law L xs) 18 ls st h Q := am_go (q := (18, ls, st, h)) (o_W_law L xs) rfl rfl (fun _ => rfl)
set_option maxRecDepth 20000 in
theorem k_W_law_584 : am_W (m_W_law L xs) 584 ls st h Q ↔ am_W (m_W_law L xs) 585 ls (.int 1 :: st) h Q := am_go (q := (585, ls, .int 1 :: st, h)) (o_W_law L xs) rfl rfl (fun _ => rfl)
set_option maxRecDepth 20000 in
theorem k_W_law_585 : am_W (m_W_law L xs) 585 ls [.int x] h Q ↔ (x = 0 ∨ x = 1) ∧ Q (some (.int x)) h := am_zret rfl rfl
end KK
