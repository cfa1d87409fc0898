/-! the cells of a machine and of the reference, by number; printed by topo.py -/
def tpL (b : Nat) : List am_D := [.inr (0, [some (some (b + 1)), some (some (b + 2)), some (some (b + 3)), none]), .inl (0, 4, none), .inl (0, 4, none), .inl (0, 4, none)]
def tpR (b : Nat) : List am_D := [.inr (1, [some (some (b + 1)), some (some (b + 2)), some (some (b + 3)), some (some (b + 4)), none, none, none]), .inl (0, 4, none), .inl (0, 14, none), .inl (0, 14, none), .inl (0, 14, none)]
def tpP (p : Nat) : List am_D := [.inr (2, [some (some (p + 1)), some (some (p + 2)), none, none, none]), .inl (2, 4, some [some (p + 3), some (p + 7), some (p + 11), some (p + 15)]), .inl (3, 6, some [some (p + 19), some (p + 24), some (p + 29), some (p + 34), some (p + 39), some (p + 44)])]
  ++ (tpL (p + 3) ++ (tpL (p + 7) ++ (tpL (p + 11) ++ (tpL (p + 15) ++ (tpR (p + 19) ++ (tpR (p + 24) ++ (tpR (p + 29) ++ (tpR (p + 34) ++ (tpR (p + 39) ++ tpR (p + 44))))))))))
def tpF (b : Nat) : List am_D := [.inr (7, [some (some (b + 1)), some (some (b + 2)), some (some (b + 3)), none, none, none]), .inl (0, 4, none), .inl (0, 6, none), .inl (0, 6, none)]
def tpH : List am_D := [.inr (5, [some (some 253), some (some 254), some (some 271), some (some 272), some (some 273), none, none]), .inl (0, 16, none), .inl (6, 16, some ((List.range 16).map fun i => some (255 + i)))] ++ (List.replicate 16 (.inl (0, 4, none)) ++ [.inl (0, 4, none), .inl (1, 16, none), .inl (0, 16, none)])
def TPX : List am_D := [.inr (9, [some (some 1), some (some 50), some (some 248), some (some 250), none, none])] ++ (tpP 1 ++ ([.inr (3, [some (some 51), none, none]), .inl (4, 4, some [some 52, some 101, some 150, some 199])] ++ (tpP 52 ++ (tpP 101 ++ (tpP 150 ++ (tpP 199
  ++ ([.inr (4, [some (some 249), none, none]), .inl (0, 6, none)] ++ ([.inr (8, [some (some 251), some (some 252), some (some 274), none, none, none]), .inl (5, 8, some ((List.range 8).map fun i => some (276 + 4 * i)))] ++ (tpH ++ ([.inr (6, [some (some 275), none]), .inl (0, 16, none)]
  ++ (tpF 276 ++ (tpF 280 ++ (tpF 284 ++ (tpF 288 ++ (tpF 292 ++ (tpF 296 ++ (tpF 300 ++ tpF 304)))))))))))))))))
def TP : List am_D := TPX ++ ([.inr (10, [some (some 309), some (some 310), some (some 311), some (some 312), some (some 313), some (some 314), some (some 315), some (some 316), some (some 317), some (some 318), some (some 319), some (some 320), some (some 321), some (some 322), none, none, none, some (some 323), none, none, none, none, some (some 324), some (some 325), some (some 326), some (some 327), some (some 328), some (some 329), some (some 330), some (some 331), some (some 332), some (some 333), some (some 334), none])] ++ [.inl (0, 15, none), .inl (0, 60, none), .inl (0, 60, none), .inl (0, 60, none), .inl (0, 30, none), .inl (0, 30, none), .inl (0, 30, none), .inl (0, 30, none), .inl (0, 420, none), .inl (0, 420, none), .inl (0, 420, none), .inl (0, 5, none), .inl (0, 5, none), .inl (0, 5, none), .inl (0, 8, none), .inl (0, 8, none), .inl (0, 8, none), .inl (0, 32, none), .inl (0, 48, none), .inl (0, 48, none), .inl (0, 8, none), .inl (0, 17, none), .inl (0, 68, none), .inl (1, 17, none), .inl (0, 4, none), .inl (0, 16, none)])
def am_eqD : am_D → am_D → Bool
  | .inl a, .inl b => decide (a = b)
  | .inr a, .inr b => decide (a = b)
  | _, _ => false
theorem am_eqD_ok : ∀ {a b : am_D}, am_eqD a b = true → a = b
  | .inl _, .inl _, h => congrArg Sum.inl (of_decide_eq_true h)
  | .inr _, .inr _, h => congrArg Sum.inr (of_decide_eq_true h)
  | .inl _, .inr _, h => by cases h
  | .inr _, .inl _, h => by cases h
def am_eqL : List am_D → List am_D → Bool
  | [], [] => true
  | a :: l, b :: r => am_eqD a b && am_eqL l r
  | _, _ => false
theorem am_eqL_ok : ∀ {l r : List am_D}, am_eqL l r = true → l = r
  | [], [], _ => rfl
  | a :: l, b :: r, h => by
    unfold am_eqL at h
    rw [Bool.and_eq_true] at h
    rw [am_eqD_ok h.1, am_eqL_ok h.2]
  | [], _ :: _, h => by cases h
  | _ :: _, [], h => by cases h
def am_zero (tp : List am_D) (s : am_S) : Bool := (List.range tp.length).all (fun i => match tp[i]? with
  | some d => (List.range (am_sz d)).all (fun k => decide (s i k = 0))
  | none => true)
theorem am_zero_ok {tp : List am_D} {s : am_S} (hz : am_zero tp s = true) (hd : am_dmH ([], fun _ _ => 0) (tp, s)) : s = fun _ _ => 0 := by
  funext i k
  by_cases h : am_dm tp i k
  · obtain ⟨d, h1, h2⟩ := h
    have := List.all_eq_true.mp hz i (List.mem_range.mpr (List.getElem?_eq_some_iff.mp h1).1)
    rw [h1] at this
    exact of_decide_eq_true (List.all_eq_true.mp this k (List.mem_range.mpr h2))
  · exact hd.1 i k h
theorem dm_L_init : am_dmF f_L_init := am_mf_dm (am_cb_dm (List.forall_mem_cons.mpr ⟨am_obj_dm, (fun _ h => absurd h List.not_mem_nil)⟩))
theorem dm_R_init : am_dmF f_R_init := am_mf_dm (am_cb_dm (List.forall_mem_cons.mpr ⟨am_obj_dm, (fun _ h => absurd h List.not_mem_nil)⟩))
theorem dm_P_init : am_dmF f_P_init := am_mf_dm (am_cb_dm (List.forall_mem_cons.mpr ⟨am_obj_dm, (List.forall_mem_cons.mpr ⟨dm_L_init, (List.forall_mem_cons.mpr ⟨dm_R_init, (fun _ h => absurd h List.not_mem_nil)⟩)⟩)⟩))
theorem dm_Q_init : am_dmF f_Q_init := am_mf_dm (am_cb_dm (List.forall_mem_cons.mpr ⟨am_obj_dm, (List.forall_mem_cons.mpr ⟨dm_P_init, (fun _ h => absurd h List.not_mem_nil)⟩)⟩))
theorem dm_C_init : am_dmF f_C_init := am_mf_dm (am_cb_dm (List.forall_mem_cons.mpr ⟨am_obj_dm, (fun _ h => absurd h List.not_mem_nil)⟩))
theorem dm_H_init : am_dmF f_H_init := am_mf_dm (am_cb_dm (List.forall_mem_cons.mpr ⟨am_obj_dm, (fun _ h => absurd h List.not_mem_nil)⟩))
theorem dm_O_init : am_dmF f_O_init := am_mf_dm (am_cb_dm (List.forall_mem_cons.mpr ⟨am_obj_dm, (fun _ h => absurd h List.not_mem_nil)⟩))
theorem dm_F_init : am_dmF f_F_init := am_mf_dm (am_cb_dm (List.forall_mem_cons.mpr ⟨am_obj_dm, (fun _ h => absurd h List.not_mem_nil)⟩))
theorem dm_U_init : am_dmF f_U_init := am_mf_dm (am_cb_dm (List.forall_mem_cons.mpr ⟨am_obj_dm, (List.forall_mem_cons.mpr ⟨dm_H_init, (List.forall_mem_cons.mpr ⟨dm_O_init, (List.forall_mem_cons.mpr ⟨dm_F_init, (fun _ h => absurd h List.not_mem_nil)⟩)⟩)⟩)⟩))
theorem dm_X_init : am_dmF f_X_init := am_mf_dm (am_cb_dm (List.forall_mem_cons.mpr ⟨am_obj_dm, (List.forall_mem_cons.mpr ⟨dm_P_init, (List.forall_mem_cons.mpr ⟨dm_Q_init, (List.forall_mem_cons.mpr ⟨dm_C_init, (List.forall_mem_cons.mpr ⟨dm_U_init, (fun _ h => absurd h List.not_mem_nil)⟩)⟩)⟩)⟩)⟩))
theorem dm_M_init : am_dmF f_M_init := am_mf_dm (am_cb_dm (List.forall_mem_cons.mpr ⟨am_obj_dm, (fun _ h => absurd h List.not_mem_nil)⟩))
def am_bX : am_D := .inr (9, [some none, some none, some none, some none, none, none])
def am_bM : am_D := .inr (10, [some none, some none, some none, some none, some none, some none, some none, some none, some none, some none, some none, some none, some none, some none, none, none, none, some none, none, none, none, none, some none, some none, some none, some none, some none, some none, some none, some none, some none, some none, some none, none])

/-- bases: of programs, of their layouts and routines, of frames -/
def bsP : List Nat := [1, 52, 101, 150, 199]
def bsL : List Nat := bsP.flatMap fun p => [p + 3, p + 7, p + 11, p + 15]
def bsR : List Nat := bsP.flatMap fun p => [p + 19, p + 24, p + 29, p + 34, p + 39, p + 44]
def bsF : List Nat := [276, 280, 284, 288, 292, 296, 300, 304]
def am_isD (i : Nat) (d : am_D) : Bool := match TP[i]? with
  | some x => am_eqD x d
  | none => false
theorem am_isD_ok {i : Nat} {d : am_D} (h : am_isD i d = true) : TP[i]? = some d := by
  unfold am_isD at h
  split at h
  · rename_i x hx
    rw [hx, am_eqD_ok h]
  · cases h
theorem tP0 : ∀ p ∈ bsP, TP[p]? = some (.inr (2, [some (some (p + 1)), some (some (p + 2)), none, none, none])) := fun p hp => am_isD_ok (List.all_eq_true.mp (show bsP.all (fun p => am_isD p (.inr (2, [some (some (p + 1)), some (some (p + 2)), none, none, none]))) = true by decide +kernel) p hp)
theorem tP1 : ∀ p ∈ bsP, TP[p + 1]? = some (.inl (2, 4, some [some (p + 3), some (p + 7), some (p + 11), some (p + 15)])) := fun p hp => am_isD_ok (List.all_eq_true.mp (show bsP.all (fun p => am_isD (p + 1) (.inl (2, 4, some [some (p + 3), some (p + 7), some (p + 11), some (p + 15)]))) = true by decide +kernel) p hp)
theorem tP2 : ∀ p ∈ bsP, TP[p + 2]? = some (.inl (3, 6, some [some (p + 19), some (p + 24), some (p + 29), some (p + 34), some (p + 39), some (p + 44)])) := fun p hp => am_isD_ok (List.all_eq_true.mp (show bsP.all (fun p => am_isD (p + 2) (.inl (3, 6, some [some (p + 19), some (p + 24), some (p + 29), some (p + 34), some (p + 39), some (p + 44)]))) = true by decide +kernel) p hp)
theorem tL0 : ∀ b ∈ bsL, TP[b]? = some (.inr (0, [some (some (b + 1)), some (some (b + 2)), some (some (b + 3)), none])) := fun p hp => am_isD_ok (List.all_eq_true.mp (show bsL.all (fun b => am_isD b (.inr (0, [some (some (b + 1)), some (some (b + 2)), some (some (b + 3)), none]))) = true by decide +kernel) p hp)
theorem tL1 : ∀ b ∈ bsL, TP[b + 1]? = some (.inl (0, 4, none)) := fun p hp => am_isD_ok (List.all_eq_true.mp (show bsL.all (fun b => am_isD (b + 1) (.inl (0, 4, none))) = true by decide +kernel) p hp)
theorem tL2 : ∀ b ∈ bsL, TP[b + 2]? = some (.inl (0, 4, none)) := fun p hp => am_isD_ok (List.all_eq_true.mp (show bsL.all (fun b => am_isD (b + 2) (.inl (0, 4, none))) = true by decide +kernel) p hp)
theorem tL3 : ∀ b ∈ bsL, TP[b + 3]? = some (.inl (0, 4, none)) := fun p hp => am_isD_ok (List.all_eq_true.mp (show bsL.all (fun b => am_isD (b + 3) (.inl (0, 4, none))) = true by decide +kernel) p hp)
theorem tR0 : ∀ b ∈ bsR, TP[b]? = some (.inr (1, [some (some (b + 1)), some (some (b + 2)), some (some (b + 3)), some (some (b + 4)), none, none, none])) := fun p hp => am_isD_ok (List.all_eq_true.mp (show bsR.all (fun b => am_isD b (.inr (1, [some (some (b + 1)), some (some (b + 2)), some (some (b + 3)), some (some (b + 4)), none, none, none]))) = true by decide +kernel) p hp)
theorem tR1 : ∀ b ∈ bsR, TP[b + 1]? = some (.inl (0, 4, none)) := fun p hp => am_isD_ok (List.all_eq_true.mp (show bsR.all (fun b => am_isD (b + 1) (.inl (0, 4, none))) = true by decide +kernel) p hp)
theorem tR2 : ∀ b ∈ bsR, TP[b + 2]? = some (.inl (0, 14, none)) := fun p hp => am_isD_ok (List.all_eq_true.mp (show bsR.all (fun b => am_isD (b + 2) (.inl (0, 14, none))) = true by decide +kernel) p hp)
theorem tR3 : ∀ b ∈ bsR, TP[b + 3]? = some (.inl (0, 14, none)) := fun p hp => am_isD_ok (List.all_eq_true.mp (show bsR.all (fun b => am_isD (b + 3) (.inl (0, 14, none))) = true by decide +kernel) p hp)
theorem tR4 : ∀ b ∈ bsR, TP[b + 4]? = some (.inl (0, 14, none)) := fun p hp => am_isD_ok (List.all_eq_true.mp (show bsR.all (fun b => am_isD (b + 4) (.inl (0, 14, none))) = true by decide +kernel) p hp)
theorem tF0 : ∀ b ∈ bsF, TP[b]? = some (.inr (7, [some (some (b + 1)), some (some (b + 2)), some (some (b + 3)), none, none, none])) := fun p hp => am_isD_ok (List.all_eq_true.mp (show bsF.all (fun b => am_isD b (.inr (7, [some (some (b + 1)), some (some (b + 2)), some (some (b + 3)), none, none, none]))) = true by decide +kernel) p hp)
theorem tF1 : ∀ b ∈ bsF, TP[b + 1]? = some (.inl (0, 4, none)) := fun p hp => am_isD_ok (List.all_eq_true.mp (show bsF.all (fun b => am_isD (b + 1) (.inl (0, 4, none))) = true by decide +kernel) p hp)
theorem tF2 : ∀ b ∈ bsF, TP[b + 2]? = some (.inl (0, 6, none)) := fun p hp => am_isD_ok (List.all_eq_true.mp (show bsF.all (fun b => am_isD (b + 2) (.inl (0, 6, none))) = true by decide +kernel) p hp)
theorem tF3 : ∀ b ∈ bsF, TP[b + 3]? = some (.inl (0, 6, none)) := fun p hp => am_isD_ok (List.all_eq_true.mp (show bsF.all (fun b => am_isD (b + 3) (.inl (0, 6, none))) = true by decide +kernel) p hp)
