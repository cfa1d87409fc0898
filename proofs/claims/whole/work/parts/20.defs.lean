/-! printed by gen.py: the kinds of objects, the methods, their tables -/
def T_L : u_T := fun k => ([("PatchedMachine$Layout", "names", "[I", true), ("PatchedMachine$Layout", "types", "[I", true), ("PatchedMachine$Layout", "sources", "[I", true), ("PatchedMachine$Layout", "size", "I", false)] : List (String × String × String × Bool)).getD k ("", "", "", false)
def T_R : u_T := fun k => ([("PatchedMachine$Routine", "locals", "[I", true), ("PatchedMachine$Routine", "ops", "[I", true), ("PatchedMachine$Routine", "xs", "[I", true), ("PatchedMachine$Routine", "ys", "[I", true), ("PatchedMachine$Routine", "parameters", "I", false), ("PatchedMachine$Routine", "result", "I", false), ("PatchedMachine$Routine", "length", "I", false)] : List (String × String × String × Bool)).getD k ("", "", "", false)
def T_P : u_T := fun k => ([("PatchedMachine$Program", "layouts", "[LPatchedMachine$Layout;", true), ("PatchedMachine$Program", "routines", "[LPatchedMachine$Routine;", true), ("PatchedMachine$Program", "touchedClasses", "I", false), ("PatchedMachine$Program", "touchedMethods", "I", false), ("PatchedMachine$Program", "restrictedMethods", "I", false)] : List (String × String × String × Bool)).getD k ("", "", "", false)
def T_Q : u_T := fun k => ([("PatchedMachine$PatchLine", "ring", "[LPatchedMachine$Program;", true), ("PatchedMachine$PatchLine", "first", "I", false), ("PatchedMachine$PatchLine", "length", "I", false)] : List (String × String × String × Bool)).getD k ("", "", "", false)
def T_C : u_T := fun k => ([("PatchedMachine$Checker", "stack", "[I", true), ("PatchedMachine$Checker", "height", "I", false), ("PatchedMachine$Checker", "bad", "Z", false)] : List (String × String × String × Bool)).getD k ("", "", "", false)
def T_H : u_T := fun k => ([("PatchedMachine$Heap", "classes", "[I", true), ("PatchedMachine$Heap", "values", "[[I", true), ("PatchedMachine$Heap", "newValues", "[I", true), ("PatchedMachine$Heap", "isReached", "[Z", true), ("PatchedMachine$Heap", "reachedRows", "[I", true), ("PatchedMachine$Heap", "reachedCount", "I", false), ("PatchedMachine$Heap", "count", "I", false)] : List (String × String × String × Bool)).getD k ("", "", "", false)
def T_O : u_T := fun k => ([("PatchedMachine$Printer", "kept", "[I", true), ("PatchedMachine$Printer", "count", "I", false)] : List (String × String × String × Bool)).getD k ("", "", "", false)
def T_F : u_T := fun k => ([("PatchedMachine$Frame", "locals", "[I", true), ("PatchedMachine$Frame", "stack", "[I", true), ("PatchedMachine$Frame", "stackTypes", "[I", true), ("PatchedMachine$Frame", "height", "I", false), ("PatchedMachine$Frame", "method", "I", false), ("PatchedMachine$Frame", "place", "I", false)] : List (String × String × String × Bool)).getD k ("", "", "", false)
def T_U : u_T := fun k => ([("PatchedMachine$Runner", "frames", "[LPatchedMachine$Frame;", true), ("PatchedMachine$Runner", "heap", "LPatchedMachine$Heap;", true), ("PatchedMachine$Runner", "printer", "LPatchedMachine$Printer;", true), ("PatchedMachine$Runner", "depth", "I", false), ("PatchedMachine$Runner", "status", "I", false), ("PatchedMachine$Runner", "result", "I", false)] : List (String × String × String × Bool)).getD k ("", "", "", false)
def T_X : u_T := fun k => ([("PatchedMachine", "draft", "LPatchedMachine$Program;", true), ("PatchedMachine", "line", "LPatchedMachine$PatchLine;", true), ("PatchedMachine", "checker", "LPatchedMachine$Checker;", true), ("PatchedMachine", "runner", "LPatchedMachine$Runner;", true), ("PatchedMachine", "applied", "I", false), ("PatchedMachine", "moved", "I", false)] : List (String × String × String × Bool)).getD k ("", "", "", false)
def T_M : u_T := fun k => ([("PatchedMachineModel", "fields", "[I", false), ("PatchedMachineModel", "name", "[I", false), ("PatchedMachineModel", "type", "[I", false), ("PatchedMachineModel", "source", "[I", false), ("PatchedMachineModel", "parameters", "[I", false), ("PatchedMachineModel", "kinds", "[I", false), ("PatchedMachineModel", "gives", "[I", false), ("PatchedMachineModel", "length", "[I", false), ("PatchedMachineModel", "op", "[I", false), ("PatchedMachineModel", "x", "[I", false), ("PatchedMachineModel", "y", "[I", false), ("PatchedMachineModel", "classes", "[I", false), ("PatchedMachineModel", "methods", "[I", false), ("PatchedMachineModel", "barred", "[I", false), ("PatchedMachineModel", "waits", "I", false), ("PatchedMachineModel", "done", "I", false), ("PatchedMachineModel", "moves", "I", false), ("PatchedMachineModel", "seen", "[I", false), ("PatchedMachineModel", "height", "I", false), ("PatchedMachineModel", "status", "I", false), ("PatchedMachineModel", "result", "I", false), ("PatchedMachineModel", "frames", "I", false), ("PatchedMachineModel", "method", "[I", false), ("PatchedMachineModel", "place", "[I", false), ("PatchedMachineModel", "locals", "[I", false), ("PatchedMachineModel", "stack", "[I", false), ("PatchedMachineModel", "sort", "[I", false), ("PatchedMachineModel", "top", "[I", false), ("PatchedMachineModel", "made", "[I", false), ("PatchedMachineModel", "held", "[I", false), ("PatchedMachineModel", "led", "[Z", false), ("PatchedMachineModel", "fresh", "[I", false), ("PatchedMachineModel", "out", "[I", false), ("PatchedMachineModel", "outs", "I", false)] : List (String × String × String × Bool)).getD k ("", "", "", false)
def am_cl : List vw_C := [("PatchedMachine$Layout", T_L, 4), ("PatchedMachine$Routine", T_R, 7), ("PatchedMachine$Program", T_P, 5), ("PatchedMachine$PatchLine", T_Q, 3), ("PatchedMachine$Checker", T_C, 3), ("PatchedMachine$Heap", T_H, 7), ("PatchedMachine$Printer", T_O, 2), ("PatchedMachine$Frame", T_F, 6), ("PatchedMachine$Runner", T_U, 6), ("PatchedMachine", T_X, 6), ("PatchedMachineModel", T_M, 34)]
theorem am_htc : ∀ t ci, am_tyc t = some ci → ∃ r : vw_C, am_cl[ci]? = some r ∧ am_ty t = some (.object r.1) := by
  intro t ci h
  unfold am_tyc at h
  split at h <;> first | (cases h; exact ⟨_, rfl, rfl⟩) | cases h
theorem am_cb_ok {cb : List (Instr × Nat × Nat × Option Nat × am_F)} (h : ∀ z ∈ cb, am_mono z.2.2.2.2) : ∀ q ∈ cb.map (fun z => z.2), am_mono q.2.2.2 := fun q hq => by
  obtain ⟨z, hz, rfl⟩ := List.mem_map.mp hq
  exact h z hz
theorem am_cb_gr {cb : List (Instr × Nat × Nat × Option Nat × am_F)} (h : ∀ z ∈ cb, am_grow z.2.2.2.2) : ∀ q ∈ cb.map (fun z => z.2), am_grow q.2.2.2 := fun q hq => by
  obtain ⟨z, hz, rfl⟩ := List.mem_map.mp hq
  exact h z hz
theorem am_subI {t : List Jvm.Cond} (idx : List Nat) (h : t = idx.filterMap (fun i => lw_tbl[i]?)) (hg : t.all (fun w => goodWord w || am_isN w) = true) : ∀ w ∈ t, w ∈ am_tb := by
  intro w hw
  refine List.mem_filter.mpr ⟨?_, List.all_eq_true.mp hg w hw⟩
  rw [h] at hw
  obtain ⟨i, -, hi⟩ := List.mem_filterMap.mp hw
  exact List.mem_of_getElem? hi
def y_L_init : MethodName := ⟨"PatchedMachine$Layout", "<init>", "()V"⟩
def co_L_init : List (Nat × Instr) := [(0, .aload_n 0), (1, .invokespecial 3), (4, .aload_n 0), (5, .iconst 4), (6, .newarray .int), (8, .putfield 9), (11, .aload_n 0), (12, .iconst 4), (13, .newarray .int), (15, .putfield 15), (18, .aload_n 0), (19, .iconst 4), (20, .newarray .int), (22, .putfield 18), (25, .aload_n 0), (26, .iconst 0), (27, .putfield 21), (30, .return_)]
def fl_L_init : List (Nat × Nat × Nat × Nat) := [(9, 0, 0, 2), (15, 0, 1, 2), (18, 0, 2, 2), (21, 0, 3, 0)]
def cb_L_init : List (Instr × Nat × Nat × Option Nat × am_F) := [(.invokespecial 3, 3, 1, none, am_obj)]
def m_L_init : am_M := am_mk co_L_init fl_L_init (cb_L_init.map (fun z => z.2)) [] [] none 2
def f_L_init : am_F := am_mf m_L_init 1
theorem o_L_init : am_ok m_L_init := am_mk_ok (am_cb_ok (List.forall_mem_cons.mpr ⟨am_obj_mono, (fun _ h => absurd h List.not_mem_nil)⟩))
theorem n_L_init : am_mono f_L_init := am_mf_mono o_L_init
theorem g_L_init : ∀ x q, am_cal m_L_init x = some q → am_grow q.2.2 := am_mk_grow (am_cb_gr (List.forall_mem_cons.mpr ⟨am_obj_grow, (fun _ h => absurd h List.not_mem_nil)⟩))
theorem h_L_init : am_grow f_L_init := am_mf_grow g_L_init
def y_R_init : MethodName := ⟨"PatchedMachine$Routine", "<init>", "()V"⟩
def co_R_init : List (Nat × Instr) := [(0, .aload_n 0), (1, .invokespecial 3), (4, .aload_n 0), (5, .iconst 4), (6, .newarray .int), (8, .putfield 9), (11, .aload_n 0), (12, .bipush 14), (14, .newarray .int), (16, .putfield 15), (19, .aload_n 0), (20, .bipush 14), (22, .newarray .int), (24, .putfield 18), (27, .aload_n 0), (28, .bipush 14), (30, .newarray .int), (32, .putfield 21), (35, .aload_n 0), (36, .iconst 0), (37, .putfield 24), (40, .aload_n 0), (41, .iconst 0), (42, .putfield 28), (45, .aload_n 0), (46, .iconst 0), (47, .putfield 31), (50, .return_)]
def fl_R_init : List (Nat × Nat × Nat × Nat) := [(9, 1, 0, 2), (15, 1, 1, 2), (18, 1, 2, 2), (21, 1, 3, 2), (24, 1, 4, 0), (28, 1, 5, 0), (31, 1, 6, 0)]
def cb_R_init : List (Instr × Nat × Nat × Option Nat × am_F) := [(.invokespecial 3, 3, 1, none, am_obj)]
def m_R_init : am_M := am_mk co_R_init fl_R_init (cb_R_init.map (fun z => z.2)) [] [] none 2
def f_R_init : am_F := am_mf m_R_init 1
theorem o_R_init : am_ok m_R_init := am_mk_ok (am_cb_ok (List.forall_mem_cons.mpr ⟨am_obj_mono, (fun _ h => absurd h List.not_mem_nil)⟩))
theorem n_R_init : am_mono f_R_init := am_mf_mono o_R_init
theorem g_R_init : ∀ x q, am_cal m_R_init x = some q → am_grow q.2.2 := am_mk_grow (am_cb_gr (List.forall_mem_cons.mpr ⟨am_obj_grow, (fun _ h => absurd h List.not_mem_nil)⟩))
theorem h_R_init : am_grow f_R_init := am_mf_grow g_R_init
def y_P_init : MethodName := ⟨"PatchedMachine$Program", "<init>", "()V"⟩
def co_P_init : List (Nat × Instr) := [(0, .aload_n 0), (1, .invokespecial 3), (4, .aload_n 0), (5, .iconst 4), (6, .anewarray 9), (9, .putfield 11), (12, .aload_n 0), (13, .bipush 6), (15, .anewarray 17), (18, .putfield 19), (21, .aload_n 0), (22, .iconst 0), (23, .putfield 23), (26, .aload_n 0), (27, .iconst 0), (28, .putfield 27), (31, .aload_n 0), (32, .iconst 0), (33, .putfield 30), (36, .iconst 0), (37, .istore_n 1), (38, .iload_n 1), (39, .iconst 3), (40, .if_icmp .gt 22), (43, .aload_n 0), (44, .getfield 11), (47, .iload_n 1), (48, .new 9), (51, .dup), (52, .invokespecial 33), (55, .aastore), (56, .iinc 1 1), (59, .goto (-21)), (62, .iconst 0), (63, .istore_n 1), (64, .iload_n 1), (65, .bipush 6), (67, .if_icmp .ge 22), (70, .aload_n 0), (71, .getfield 19), (74, .iload_n 1), (75, .new 17), (78, .dup), (79, .invokespecial 34), (82, .aastore), (83, .iinc 1 1), (86, .goto (-22)), (89, .return_)]
def fl_P_init : List (Nat × Nat × Nat × Nat) := [(11, 2, 0, 2), (19, 2, 1, 2), (23, 2, 2, 0), (27, 2, 3, 0), (30, 2, 4, 0)]
def cb_P_init : List (Instr × Nat × Nat × Option Nat × am_F) := [(.invokespecial 3, 3, 1, none, am_obj), (.invokespecial 33, 33, 1, (some 0), f_L_init), (.invokespecial 34, 34, 1, (some 1), f_R_init)]
def m_P_init : am_M := am_mk co_P_init fl_P_init (cb_P_init.map (fun z => z.2)) [(9, 0, [some none, some none, some none, none]), (17, 1, [some none, some none, some none, some none, none, none, none])] [(9, 2), (17, 3)] none 2
def f_P_init : am_F := am_mf m_P_init 1
theorem o_P_init : am_ok m_P_init := am_mk_ok (am_cb_ok (List.forall_mem_cons.mpr ⟨am_obj_mono, (List.forall_mem_cons.mpr ⟨n_L_init, (List.forall_mem_cons.mpr ⟨n_R_init, (fun _ h => absurd h List.not_mem_nil)⟩)⟩)⟩))
theorem n_P_init : am_mono f_P_init := am_mf_mono o_P_init
theorem g_P_init : ∀ x q, am_cal m_P_init x = some q → am_grow q.2.2 := am_mk_grow (am_cb_gr (List.forall_mem_cons.mpr ⟨am_obj_grow, (List.forall_mem_cons.mpr ⟨h_L_init, (List.forall_mem_cons.mpr ⟨h_R_init, (fun _ h => absurd h List.not_mem_nil)⟩)⟩)⟩))
theorem h_P_init : am_grow f_P_init := am_mf_grow g_P_init
def y_Q_init : MethodName := ⟨"PatchedMachine$PatchLine", "<init>", "()V"⟩
def co_Q_init : List (Nat × Instr) := [(0, .aload_n 0), (1, .invokespecial 3), (4, .aload_n 0), (5, .iconst 4), (6, .anewarray 11), (9, .putfield 13), (12, .aload_n 0), (13, .iconst 0), (14, .putfield 17), (17, .aload_n 0), (18, .iconst 0), (19, .putfield 21), (22, .iconst 0), (23, .istore_n 1), (24, .iload_n 1), (25, .iconst 4), (26, .if_icmp .ge 22), (29, .aload_n 0), (30, .getfield 13), (33, .iload_n 1), (34, .new 11), (37, .dup), (38, .invokespecial 24), (41, .aastore), (42, .iinc 1 1), (45, .goto (-21)), (48, .return_)]
def fl_Q_init : List (Nat × Nat × Nat × Nat) := [(13, 3, 0, 2), (17, 3, 1, 0), (21, 3, 2, 0)]
def cb_Q_init : List (Instr × Nat × Nat × Option Nat × am_F) := [(.invokespecial 3, 3, 1, none, am_obj), (.invokespecial 24, 24, 1, (some 2), f_P_init)]
def m_Q_init : am_M := am_mk co_Q_init fl_Q_init (cb_Q_init.map (fun z => z.2)) [(11, 2, [some none, some none, none, none, none])] [(11, 4)] none 2
def f_Q_init : am_F := am_mf m_Q_init 1
theorem o_Q_init : am_ok m_Q_init := am_mk_ok (am_cb_ok (List.forall_mem_cons.mpr ⟨am_obj_mono, (List.forall_mem_cons.mpr ⟨n_P_init, (fun _ h => absurd h List.not_mem_nil)⟩)⟩))
theorem n_Q_init : am_mono f_Q_init := am_mf_mono o_Q_init
theorem g_Q_init : ∀ x q, am_cal m_Q_init x = some q → am_grow q.2.2 := am_mk_grow (am_cb_gr (List.forall_mem_cons.mpr ⟨am_obj_grow, (List.forall_mem_cons.mpr ⟨h_P_init, (fun _ h => absurd h List.not_mem_nil)⟩)⟩))
theorem h_Q_init : am_grow f_Q_init := am_mf_grow g_Q_init
def y_C_init : MethodName := ⟨"PatchedMachine$Checker", "<init>", "()V"⟩
def co_C_init : List (Nat × Instr) := [(0, .aload_n 0), (1, .invokespecial 3), (4, .aload_n 0), (5, .bipush 6), (7, .newarray .int), (9, .putfield 9), (12, .aload_n 0), (13, .iconst 0), (14, .putfield 15), (17, .aload_n 0), (18, .iconst 0), (19, .putfield 19), (22, .return_)]
def fl_C_init : List (Nat × Nat × Nat × Nat) := [(9, 4, 0, 2), (15, 4, 1, 0), (19, 4, 2, 1)]
def cb_C_init : List (Instr × Nat × Nat × Option Nat × am_F) := [(.invokespecial 3, 3, 1, none, am_obj)]
def m_C_init : am_M := am_mk co_C_init fl_C_init (cb_C_init.map (fun z => z.2)) [] [] none 2
def f_C_init : am_F := am_mf m_C_init 1
theorem o_C_init : am_ok m_C_init := am_mk_ok (am_cb_ok (List.forall_mem_cons.mpr ⟨am_obj_mono, (fun _ h => absurd h List.not_mem_nil)⟩))
theorem n_C_init : am_mono f_C_init := am_mf_mono o_C_init
theorem g_C_init : ∀ x q, am_cal m_C_init x = some q → am_grow q.2.2 := am_mk_grow (am_cb_gr (List.forall_mem_cons.mpr ⟨am_obj_grow, (fun _ h => absurd h List.not_mem_nil)⟩))
theorem h_C_init : am_grow f_C_init := am_mf_grow g_C_init
def y_H_init : MethodName := ⟨"PatchedMachine$Heap", "<init>", "()V"⟩
def co_H_init : List (Nat × Instr) := [(0, .aload_n 0), (1, .invokespecial 3), (4, .aload_n 0), (5, .bipush 16), (7, .newarray .int), (9, .putfield 9), (12, .aload_n 0), (13, .bipush 16), (15, .iconst 4), (16, .multianewarray 15 2), (20, .putfield 17), (23, .aload_n 0), (24, .iconst 4), (25, .newarray .int), (27, .putfield 20), (30, .aload_n 0), (31, .bipush 16), (33, .newarray .boolean), (35, .putfield 23), (38, .aload_n 0), (39, .bipush 16), (41, .newarray .int), (43, .putfield 27), (46, .aload_n 0), (47, .iconst 0), (48, .putfield 30), (51, .aload_n 0), (52, .iconst 0), (53, .putfield 34), (56, .return_)]
def fl_H_init : List (Nat × Nat × Nat × Nat) := [(9, 5, 0, 2), (17, 5, 1, 2), (20, 5, 2, 2), (23, 5, 3, 2), (27, 5, 4, 2), (30, 5, 5, 0), (34, 5, 6, 0)]
def cb_H_init : List (Instr × Nat × Nat × Option Nat × am_F) := [(.invokespecial 3, 3, 1, none, am_obj)]
def m_H_init : am_M := am_mk co_H_init fl_H_init (cb_H_init.map (fun z => z.2)) [] [(15, 6)] none 2
def f_H_init : am_F := am_mf m_H_init 1
theorem o_H_init : am_ok m_H_init := am_mk_ok (am_cb_ok (List.forall_mem_cons.mpr ⟨am_obj_mono, (fun _ h => absurd h List.not_mem_nil)⟩))
theorem n_H_init : am_mono f_H_init := am_mf_mono o_H_init
theorem g_H_init : ∀ x q, am_cal m_H_init x = some q → am_grow q.2.2 := am_mk_grow (am_cb_gr (List.forall_mem_cons.mpr ⟨am_obj_grow, (fun _ h => absurd h List.not_mem_nil)⟩))
theorem h_H_init : am_grow f_H_init := am_mf_grow g_H_init
def y_O_init : MethodName := ⟨"PatchedMachine$Printer", "<init>", "()V"⟩
def co_O_init : List (Nat × Instr) := [(0, .aload_n 0), (1, .invokespecial 3), (4, .aload_n 0), (5, .bipush 16), (7, .newarray .int), (9, .putfield 9), (12, .aload_n 0), (13, .iconst 0), (14, .putfield 15), (17, .return_)]
def fl_O_init : List (Nat × Nat × Nat × Nat) := [(9, 6, 0, 2), (15, 6, 1, 0)]
def cb_O_init : List (Instr × Nat × Nat × Option Nat × am_F) := [(.invokespecial 3, 3, 1, none, am_obj)]
def m_O_init : am_M := am_mk co_O_init fl_O_init (cb_O_init.map (fun z => z.2)) [] [] none 2
def f_O_init : am_F := am_mf m_O_init 1
theorem o_O_init : am_ok m_O_init := am_mk_ok (am_cb_ok (List.forall_mem_cons.mpr ⟨am_obj_mono, (fun _ h => absurd h List.not_mem_nil)⟩))
theorem n_O_init : am_mono f_O_init := am_mf_mono o_O_init
theorem g_O_init : ∀ x q, am_cal m_O_init x = some q → am_grow q.2.2 := am_mk_grow (am_cb_gr (List.forall_mem_cons.mpr ⟨am_obj_grow, (fun _ h => absurd h List.not_mem_nil)⟩))
theorem h_O_init : am_grow f_O_init := am_mf_grow g_O_init
def y_F_init : MethodName := ⟨"PatchedMachine$Frame", "<init>", "()V"⟩
def co_F_init : List (Nat × Instr) := [(0, .aload_n 0), (1, .invokespecial 3), (4, .aload_n 0), (5, .iconst 4), (6, .newarray .int), (8, .putfield 9), (11, .aload_n 0), (12, .bipush 6), (14, .newarray .int), (16, .putfield 15), (19, .aload_n 0), (20, .bipush 6), (22, .newarray .int), (24, .putfield 18), (27, .aload_n 0), (28, .iconst 0), (29, .putfield 21), (32, .aload_n 0), (33, .iconst 0), (34, .putfield 25), (37, .aload_n 0), (38, .iconst 0), (39, .putfield 28), (42, .return_)]
def fl_F_init : List (Nat × Nat × Nat × Nat) := [(9, 7, 0, 2), (15, 7, 1, 2), (18, 7, 2, 2), (21, 7, 3, 0), (25, 7, 4, 0), (28, 7, 5, 0)]
def cb_F_init : List (Instr × Nat × Nat × Option Nat × am_F) := [(.invokespecial 3, 3, 1, none, am_obj)]
def m_F_init : am_M := am_mk co_F_init fl_F_init (cb_F_init.map (fun z => z.2)) [] [] none 2
def f_F_init : am_F := am_mf m_F_init 1
theorem o_F_init : am_ok m_F_init := am_mk_ok (am_cb_ok (List.forall_mem_cons.mpr ⟨am_obj_mono, (fun _ h => absurd h List.not_mem_nil)⟩))
theorem n_F_init : am_mono f_F_init := am_mf_mono o_F_init
theorem g_F_init : ∀ x q, am_cal m_F_init x = some q → am_grow q.2.2 := am_mk_grow (am_cb_gr (List.forall_mem_cons.mpr ⟨am_obj_grow, (fun _ h => absurd h List.not_mem_nil)⟩))
theorem h_F_init : am_grow f_F_init := am_mf_grow g_F_init
def y_U_init : MethodName := ⟨"PatchedMachine$Runner", "<init>", "()V"⟩
def co_U_init : List (Nat × Instr) := [(0, .aload_n 0), (1, .invokespecial 3), (4, .aload_n 0), (5, .bipush 8), (7, .anewarray 9), (10, .putfield 11), (13, .aload_n 0), (14, .new 17), (17, .dup), (18, .invokespecial 19), (21, .putfield 20), (24, .aload_n 0), (25, .new 24), (28, .dup), (29, .invokespecial 26), (32, .putfield 27), (35, .aload_n 0), (36, .iconst 0), (37, .putfield 31), (40, .aload_n 0), (41, .iconst 0), (42, .putfield 35), (45, .aload_n 0), (46, .iconst 0), (47, .putfield 38), (50, .iconst 0), (51, .istore_n 1), (52, .iload_n 1), (53, .bipush 8), (55, .if_icmp .ge 22), (58, .aload_n 0), (59, .getfield 11), (62, .iload_n 1), (63, .new 9), (66, .dup), (67, .invokespecial 41), (70, .aastore), (71, .iinc 1 1), (74, .goto (-22)), (77, .return_)]
def fl_U_init : List (Nat × Nat × Nat × Nat) := [(11, 8, 0, 2), (20, 8, 1, 2), (27, 8, 2, 2), (31, 8, 3, 0), (35, 8, 4, 0), (38, 8, 5, 0)]
def cb_U_init : List (Instr × Nat × Nat × Option Nat × am_F) := [(.invokespecial 3, 3, 1, none, am_obj), (.invokespecial 19, 19, 1, (some 5), f_H_init), (.invokespecial 26, 26, 1, (some 6), f_O_init), (.invokespecial 41, 41, 1, (some 7), f_F_init)]
def m_U_init : am_M := am_mk co_U_init fl_U_init (cb_U_init.map (fun z => z.2)) [(17, 5, [some none, some none, some none, some none, some none, none, none]), (24, 6, [some none, none]), (9, 7, [some none, some none, some none, none, none, none])] [(9, 5)] none 2
def f_U_init : am_F := am_mf m_U_init 1
theorem o_U_init : am_ok m_U_init := am_mk_ok (am_cb_ok (List.forall_mem_cons.mpr ⟨am_obj_mono, (List.forall_mem_cons.mpr ⟨n_H_init, (List.forall_mem_cons.mpr ⟨n_O_init, (List.forall_mem_cons.mpr ⟨n_F_init, (fun _ h => absurd h List.not_mem_nil)⟩)⟩)⟩)⟩))
theorem n_U_init : am_mono f_U_init := am_mf_mono o_U_init
theorem g_U_init : ∀ x q, am_cal m_U_init x = some q → am_grow q.2.2 := am_mk_grow (am_cb_gr (List.forall_mem_cons.mpr ⟨am_obj_grow, (List.forall_mem_cons.mpr ⟨h_H_init, (List.forall_mem_cons.mpr ⟨h_O_init, (List.forall_mem_cons.mpr ⟨h_F_init, (fun _ h => absurd h List.not_mem_nil)⟩)⟩)⟩)⟩))
theorem h_U_init : am_grow f_U_init := am_mf_grow g_U_init
def y_X_init : MethodName := ⟨"PatchedMachine", "<init>", "()V"⟩
def co_X_init : List (Nat × Instr) := [(0, .aload_n 0), (1, .invokespecial 1), (4, .aload_n 0), (5, .new 7), (8, .dup), (9, .invokespecial 9), (12, .putfield 10), (15, .aload_n 0), (16, .new 16), (19, .dup), (20, .invokespecial 18), (23, .putfield 19), (26, .aload_n 0), (27, .new 23), (30, .dup), (31, .invokespecial 25), (34, .putfield 26), (37, .aload_n 0), (38, .new 30), (41, .dup), (42, .invokespecial 32), (45, .putfield 33), (48, .aload_n 0), (49, .iconst 0), (50, .putfield 37), (53, .aload_n 0), (54, .iconst 0), (55, .putfield 41), (58, .return_)]
def fl_X_init : List (Nat × Nat × Nat × Nat) := [(10, 9, 0, 2), (19, 9, 1, 2), (26, 9, 2, 2), (33, 9, 3, 2), (37, 9, 4, 0), (41, 9, 5, 0)]
def cb_X_init : List (Instr × Nat × Nat × Option Nat × am_F) := [(.invokespecial 1, 1, 1, none, am_obj), (.invokespecial 9, 9, 1, (some 2), f_P_init), (.invokespecial 18, 18, 1, (some 3), f_Q_init), (.invokespecial 25, 25, 1, (some 4), f_C_init), (.invokespecial 32, 32, 1, (some 8), f_U_init)]
def m_X_init : am_M := am_mk co_X_init fl_X_init (cb_X_init.map (fun z => z.2)) [(7, 2, [some none, some none, none, none, none]), (16, 3, [some none, none, none]), (23, 4, [some none, none, none]), (30, 8, [some none, some none, some none, none, none, none])] [] none 2
def f_X_init : am_F := am_mf m_X_init 1
theorem o_X_init : am_ok m_X_init := am_mk_ok (am_cb_ok (List.forall_mem_cons.mpr ⟨am_obj_mono, (List.forall_mem_cons.mpr ⟨n_P_init, (List.forall_mem_cons.mpr ⟨n_Q_init, (List.forall_mem_cons.mpr ⟨n_C_init, (List.forall_mem_cons.mpr ⟨n_U_init, (fun _ h => absurd h List.not_mem_nil)⟩)⟩)⟩)⟩)⟩))
theorem n_X_init : am_mono f_X_init := am_mf_mono o_X_init
theorem g_X_init : ∀ x q, am_cal m_X_init x = some q → am_grow q.2.2 := am_mk_grow (am_cb_gr (List.forall_mem_cons.mpr ⟨am_obj_grow, (List.forall_mem_cons.mpr ⟨h_P_init, (List.forall_mem_cons.mpr ⟨h_Q_init, (List.forall_mem_cons.mpr ⟨h_C_init, (List.forall_mem_cons.mpr ⟨h_U_init, (fun _ h => absurd h List.not_mem_nil)⟩)⟩)⟩)⟩)⟩))
theorem h_X_init : am_grow f_X_init := am_mf_grow g_X_init
def y_X_isClass : MethodName := ⟨"PatchedMachine", "isClass", "(I)Z"⟩
def co_X_isClass : List (Nat × Instr) := [(0, .iload_n 0), (1, .iconst 1), (2, .if_icmp .lt 12), (5, .iload_n 0), (6, .iconst 3), (7, .if_icmp .gt 7), (10, .iconst 1), (11, .goto 4), (14, .iconst 0), (15, .ireturn)]
def fl_X_isClass : List (Nat × Nat × Nat × Nat) := []
def cb_X_isClass : List (Instr × Nat × Nat × Option Nat × am_F) := []
def m_X_isClass : am_M := am_mk co_X_isClass fl_X_isClass (cb_X_isClass.map (fun z => z.2)) [] [] none 1
def f_X_isClass : am_F := am_mf m_X_isClass 1
theorem o_X_isClass : am_ok m_X_isClass := am_mk_ok (am_cb_ok (fun _ h => absurd h List.not_mem_nil))
theorem n_X_isClass : am_mono f_X_isClass := am_mf_mono o_X_isClass
theorem g_X_isClass : ∀ x q, am_cal m_X_isClass x = some q → am_grow q.2.2 := am_mk_grow (am_cb_gr (fun _ h => absurd h List.not_mem_nil))
theorem h_X_isClass : am_grow f_X_isClass := am_mf_grow g_X_isClass
def y_L_clear : MethodName := ⟨"PatchedMachine$Layout", "clear", "()V"⟩
def co_L_clear : List (Nat × Instr) := [(0, .aload_n 0), (1, .iconst 0), (2, .putfield 21), (5, .return_)]
def fl_L_clear : List (Nat × Nat × Nat × Nat) := [(21, 0, 3, 0)]
def cb_L_clear : List (Instr × Nat × Nat × Option Nat × am_F) := []
def m_L_clear : am_M := am_mk co_L_clear fl_L_clear (cb_L_clear.map (fun z => z.2)) [] [] none 2
def f_L_clear : am_F := am_mf m_L_clear 1
theorem o_L_clear : am_ok m_L_clear := am_mk_ok (am_cb_ok (fun _ h => absurd h List.not_mem_nil))
theorem n_L_clear : am_mono f_L_clear := am_mf_mono o_L_clear
theorem g_L_clear : ∀ x q, am_cal m_L_clear x = some q → am_grow q.2.2 := am_mk_grow (am_cb_gr (fun _ h => absurd h List.not_mem_nil))
theorem h_L_clear : am_grow f_L_clear := am_mf_grow g_L_clear
def y_P_clearClass : MethodName := ⟨"PatchedMachine$Program", "clearClass", "(I)V"⟩
def co_P_clearClass : List (Nat × Instr) := [(0, .aload_n 0), (1, .getfield 11), (4, .iload_n 1), (5, .aaload), (6, .invokevirtual 35), (9, .aload_n 0), (10, .dup), (11, .getfield 23), (14, .iconst 1), (15, .iload_n 1), (16, .ishl), (17, .ior), (18, .putfield 23), (21, .return_)]
def fl_P_clearClass : List (Nat × Nat × Nat × Nat) := [(11, 2, 0, 2), (23, 2, 2, 0)]
def cb_P_clearClass : List (Instr × Nat × Nat × Option Nat × am_F) := [(.invokevirtual 35, 35, 1, (some 0), f_L_clear)]
def m_P_clearClass : am_M := am_mk co_P_clearClass fl_P_clearClass (cb_P_clearClass.map (fun z => z.2)) [] [] none 2
def f_P_clearClass : am_F := am_mf m_P_clearClass 2
theorem o_P_clearClass : am_ok m_P_clearClass := am_mk_ok (am_cb_ok (List.forall_mem_cons.mpr ⟨n_L_clear, (fun _ h => absurd h List.not_mem_nil)⟩))
theorem n_P_clearClass : am_mono f_P_clearClass := am_mf_mono o_P_clearClass
theorem g_P_clearClass : ∀ x q, am_cal m_P_clearClass x = some q → am_grow q.2.2 := am_mk_grow (am_cb_gr (List.forall_mem_cons.mpr ⟨h_L_clear, (fun _ h => absurd h List.not_mem_nil)⟩))
theorem h_P_clearClass : am_grow f_P_clearClass := am_mf_grow g_P_clearClass
def y_X_layout : MethodName := ⟨"PatchedMachine", "layout", "(I)Z"⟩
def co_X_layout : List (Nat × Instr) := [(0, .iload_n 1), (1, .invokestatic 44), (4, .ifCond .ne 5), (7, .iconst 0), (8, .ireturn), (9, .aload_n 0), (10, .getfield 10), (13, .iload_n 1), (14, .invokevirtual 48), (17, .iconst 1), (18, .ireturn)]
def fl_X_layout : List (Nat × Nat × Nat × Nat) := [(10, 9, 0, 2)]
def cb_X_layout : List (Instr × Nat × Nat × Option Nat × am_F) := [(.invokestatic 44, 44, 1, none, f_X_isClass), (.invokevirtual 48, 48, 2, (some 2), f_P_clearClass)]
def m_X_layout : am_M := am_mk co_X_layout fl_X_layout (cb_X_layout.map (fun z => z.2)) [] [] none 1
def f_X_layout : am_F := am_mf m_X_layout 2
theorem o_X_layout : am_ok m_X_layout := am_mk_ok (am_cb_ok (List.forall_mem_cons.mpr ⟨n_X_isClass, (List.forall_mem_cons.mpr ⟨n_P_clearClass, (fun _ h => absurd h List.not_mem_nil)⟩)⟩))
theorem n_X_layout : am_mono f_X_layout := am_mf_mono o_X_layout
theorem g_X_layout : ∀ x q, am_cal m_X_layout x = some q → am_grow q.2.2 := am_mk_grow (am_cb_gr (List.forall_mem_cons.mpr ⟨h_X_isClass, (List.forall_mem_cons.mpr ⟨h_P_clearClass, (fun _ h => absurd h List.not_mem_nil)⟩)⟩))
theorem h_X_layout : am_grow f_X_layout := am_mf_grow g_X_layout
def y_P_touchesClass : MethodName := ⟨"PatchedMachine$Program", "touchesClass", "(I)Z"⟩
def co_P_touchesClass : List (Nat × Instr) := [(0, .aload_n 0), (1, .getfield 23), (4, .iload_n 1), (5, .ishr), (6, .iconst 1), (7, .iand), (8, .ifCond .eq 7), (11, .iconst 1), (12, .goto 4), (15, .iconst 0), (16, .ireturn)]
def fl_P_touchesClass : List (Nat × Nat × Nat × Nat) := [(23, 2, 2, 0)]
def cb_P_touchesClass : List (Instr × Nat × Nat × Option Nat × am_F) := []
def m_P_touchesClass : am_M := am_mk co_P_touchesClass fl_P_touchesClass (cb_P_touchesClass.map (fun z => z.2)) [] [] none 1
def f_P_touchesClass : am_F := am_mf m_P_touchesClass 2
theorem o_P_touchesClass : am_ok m_P_touchesClass := am_mk_ok (am_cb_ok (fun _ h => absurd h List.not_mem_nil))
theorem n_P_touchesClass : am_mono f_P_touchesClass := am_mf_mono o_P_touchesClass
theorem g_P_touchesClass : ∀ x q, am_cal m_P_touchesClass x = some q → am_grow q.2.2 := am_mk_grow (am_cb_gr (fun _ h => absurd h List.not_mem_nil))
theorem h_P_touchesClass : am_grow f_P_touchesClass := am_mf_grow g_P_touchesClass
def y_X_isName : MethodName := ⟨"PatchedMachine", "isName", "(I)Z"⟩
def co_X_isName : List (Nat × Instr) := [(0, .iload_n 0), (1, .ifCond .lt 13), (4, .iload_n 0), (5, .bipush 9), (7, .if_icmp .gt 7), (10, .iconst 1), (11, .goto 4), (14, .iconst 0), (15, .ireturn)]
def fl_X_isName : List (Nat × Nat × Nat × Nat) := []
def cb_X_isName : List (Instr × Nat × Nat × Option Nat × am_F) := []
def m_X_isName : am_M := am_mk co_X_isName fl_X_isName (cb_X_isName.map (fun z => z.2)) [] [] none 1
def f_X_isName : am_F := am_mf m_X_isName 1
theorem o_X_isName : am_ok m_X_isName := am_mk_ok (am_cb_ok (fun _ h => absurd h List.not_mem_nil))
theorem n_X_isName : am_mono f_X_isName := am_mf_mono o_X_isName
theorem g_X_isName : ∀ x q, am_cal m_X_isName x = some q → am_grow q.2.2 := am_mk_grow (am_cb_gr (fun _ h => absurd h List.not_mem_nil))
theorem h_X_isName : am_grow f_X_isName := am_mf_grow g_X_isName
def y_X_isType : MethodName := ⟨"PatchedMachine", "isType", "(I)Z"⟩
def co_X_isType : List (Nat × Instr) := [(0, .iload_n 0), (1, .ifCond .eq 10), (4, .iload_n 0), (5, .invokestatic 44), (8, .ifCond .eq 7), (11, .iconst 1), (12, .goto 4), (15, .iconst 0), (16, .ireturn)]
def fl_X_isType : List (Nat × Nat × Nat × Nat) := []
def cb_X_isType : List (Instr × Nat × Nat × Option Nat × am_F) := [(.invokestatic 44, 44, 1, none, f_X_isClass)]
def m_X_isType : am_M := am_mk co_X_isType fl_X_isType (cb_X_isType.map (fun z => z.2)) [] [] none 1
def f_X_isType : am_F := am_mf m_X_isType 1
theorem o_X_isType : am_ok m_X_isType := am_mk_ok (am_cb_ok (List.forall_mem_cons.mpr ⟨n_X_isClass, (fun _ h => absurd h List.not_mem_nil)⟩))
theorem n_X_isType : am_mono f_X_isType := am_mf_mono o_X_isType
theorem g_X_isType : ∀ x q, am_cal m_X_isType x = some q → am_grow q.2.2 := am_mk_grow (am_cb_gr (List.forall_mem_cons.mpr ⟨h_X_isClass, (fun _ h => absurd h List.not_mem_nil)⟩))
theorem h_X_isType : am_grow f_X_isType := am_mf_grow g_X_isType
def y_L_isFull : MethodName := ⟨"PatchedMachine$Layout", "isFull", "()Z"⟩
def co_L_isFull : List (Nat × Instr) := [(0, .aload_n 0), (1, .getfield 21), (4, .iconst 4), (5, .if_icmp .lt 7), (8, .iconst 1), (9, .goto 4), (12, .iconst 0), (13, .ireturn)]
def fl_L_isFull : List (Nat × Nat × Nat × Nat) := [(21, 0, 3, 0)]
def cb_L_isFull : List (Instr × Nat × Nat × Option Nat × am_F) := []
def m_L_isFull : am_M := am_mk co_L_isFull fl_L_isFull (cb_L_isFull.map (fun z => z.2)) [] [] none 1
def f_L_isFull : am_F := am_mf m_L_isFull 1
theorem o_L_isFull : am_ok m_L_isFull := am_mk_ok (am_cb_ok (fun _ h => absurd h List.not_mem_nil))
theorem n_L_isFull : am_mono f_L_isFull := am_mf_mono o_L_isFull
theorem g_L_isFull : ∀ x q, am_cal m_L_isFull x = some q → am_grow q.2.2 := am_mk_grow (am_cb_gr (fun _ h => absurd h List.not_mem_nil))
theorem h_L_isFull : am_grow f_L_isFull := am_mf_grow g_L_isFull
def y_L_find : MethodName := ⟨"PatchedMachine$Layout", "find", "(I)I"⟩
def co_L_find : List (Nat × Instr) := [(0, .iconst 0), (1, .istore_n 2), (2, .iload_n 2), (3, .aload_n 0), (4, .getfield 21), (7, .if_icmp .ge 21), (10, .aload_n 0), (11, .getfield 9), (14, .iload_n 2), (15, .iaload), (16, .iload_n 1), (17, .if_icmp .ne 5), (20, .iload_n 2), (21, .ireturn), (22, .iinc 2 1), (25, .goto (-23)), (28, .iconst (-1)), (29, .ireturn)]
def fl_L_find : List (Nat × Nat × Nat × Nat) := [(21, 0, 3, 0), (9, 0, 0, 2)]
def cb_L_find : List (Instr × Nat × Nat × Option Nat × am_F) := []
def m_L_find : am_M := am_mk co_L_find fl_L_find (cb_L_find.map (fun z => z.2)) [] [] none 0
def f_L_find : am_F := am_mf m_L_find 2
theorem o_L_find : am_ok m_L_find := am_mk_ok (am_cb_ok (fun _ h => absurd h List.not_mem_nil))
theorem n_L_find : am_mono f_L_find := am_mf_mono o_L_find
theorem g_L_find : ∀ x q, am_cal m_L_find x = some q → am_grow q.2.2 := am_mk_grow (am_cb_gr (fun _ h => absurd h List.not_mem_nil))
theorem h_L_find : am_grow f_L_find := am_mf_grow g_L_find
def y_Q_newest : MethodName := ⟨"PatchedMachine$PatchLine", "newest", "()LPatchedMachine$Program;"⟩
def co_Q_newest : List (Nat × Instr) := [(0, .aload_n 0), (1, .getfield 13), (4, .aload_n 0), (5, .getfield 17), (8, .aload_n 0), (9, .getfield 21), (12, .iadd), (13, .iconst 4), (14, .irem), (15, .aaload), (16, .areturn)]
def fl_Q_newest : List (Nat × Nat × Nat × Nat) := [(13, 3, 0, 2), (17, 3, 1, 0), (21, 3, 2, 0)]
def cb_Q_newest : List (Instr × Nat × Nat × Option Nat × am_F) := []
def m_Q_newest : am_M := am_mk co_Q_newest fl_Q_newest (cb_Q_newest.map (fun z => z.2)) [] [] none 3
def f_Q_newest : am_F := am_mf m_Q_newest 1
theorem o_Q_newest : am_ok m_Q_newest := am_mk_ok (am_cb_ok (fun _ h => absurd h List.not_mem_nil))
theorem n_Q_newest : am_mono f_Q_newest := am_mf_mono o_Q_newest
theorem g_Q_newest : ∀ x q, am_cal m_Q_newest x = some q → am_grow q.2.2 := am_mk_grow (am_cb_gr (fun _ h => absurd h List.not_mem_nil))
theorem h_Q_newest : am_grow f_Q_newest := am_mf_grow g_Q_newest
def y_L_typeNamed : MethodName := ⟨"PatchedMachine$Layout", "typeNamed", "(I)I"⟩
def co_L_typeNamed : List (Nat × Instr) := [(0, .aload_n 0), (1, .iload_n 1), (2, .invokevirtual 29), (5, .istore_n 2), (6, .iload_n 2), (7, .iconst (-1)), (8, .if_icmp .ne 7), (11, .iconst (-1)), (12, .goto 9), (15, .aload_n 0), (16, .getfield 15), (19, .iload_n 2), (20, .iaload), (21, .ireturn)]
def fl_L_typeNamed : List (Nat × Nat × Nat × Nat) := [(15, 0, 1, 2)]
def cb_L_typeNamed : List (Instr × Nat × Nat × Option Nat × am_F) := [(.invokevirtual 29, 29, 2, (some 0), f_L_find)]
def m_L_typeNamed : am_M := am_mk co_L_typeNamed fl_L_typeNamed (cb_L_typeNamed.map (fun z => z.2)) [] [] none 0
def f_L_typeNamed : am_F := am_mf m_L_typeNamed 2
theorem o_L_typeNamed : am_ok m_L_typeNamed := am_mk_ok (am_cb_ok (List.forall_mem_cons.mpr ⟨n_L_find, (fun _ h => absurd h List.not_mem_nil)⟩))
theorem n_L_typeNamed : am_mono f_L_typeNamed := am_mf_mono o_L_typeNamed
theorem g_L_typeNamed : ∀ x q, am_cal m_L_typeNamed x = some q → am_grow q.2.2 := am_mk_grow (am_cb_gr (List.forall_mem_cons.mpr ⟨h_L_find, (fun _ h => absurd h List.not_mem_nil)⟩))
theorem h_L_typeNamed : am_grow f_L_typeNamed := am_mf_grow g_L_typeNamed
def y_L_add : MethodName := ⟨"PatchedMachine$Layout", "add", "(III)V"⟩
def co_L_add : List (Nat × Instr) := [(0, .aload_n 0), (1, .invokevirtual 25), (4, .ifCond .eq 4), (7, .return_), (8, .aload_n 0), (9, .getfield 9), (12, .aload_n 0), (13, .getfield 21), (16, .iload_n 1), (17, .iastore), (18, .aload_n 0), (19, .getfield 15), (22, .aload_n 0), (23, .getfield 21), (26, .iload_n 2), (27, .iastore), (28, .aload_n 0), (29, .getfield 18), (32, .aload_n 0), (33, .getfield 21), (36, .iload_n 3), (37, .iastore), (38, .aload_n 0), (39, .dup), (40, .getfield 21), (43, .iconst 1), (44, .iadd), (45, .putfield 21), (48, .return_)]
def fl_L_add : List (Nat × Nat × Nat × Nat) := [(9, 0, 0, 2), (21, 0, 3, 0), (15, 0, 1, 2), (18, 0, 2, 2)]
def cb_L_add : List (Instr × Nat × Nat × Option Nat × am_F) := [(.invokevirtual 25, 25, 1, (some 0), f_L_isFull)]
def m_L_add : am_M := am_mk co_L_add fl_L_add (cb_L_add.map (fun z => z.2)) [] [] none 2
def f_L_add : am_F := am_mf m_L_add 4
theorem o_L_add : am_ok m_L_add := am_mk_ok (am_cb_ok (List.forall_mem_cons.mpr ⟨n_L_isFull, (fun _ h => absurd h List.not_mem_nil)⟩))
theorem n_L_add : am_mono f_L_add := am_mf_mono o_L_add
theorem g_L_add : ∀ x q, am_cal m_L_add x = some q → am_grow q.2.2 := am_mk_grow (am_cb_gr (List.forall_mem_cons.mpr ⟨h_L_isFull, (fun _ h => absurd h List.not_mem_nil)⟩))
theorem h_L_add : am_grow f_L_add := am_mf_grow g_L_add
def y_X_field : MethodName := ⟨"PatchedMachine", "field", "(IIII)Z"⟩
def co_X_field : List (Nat × Instr) := [(0, .iload_n 1), (1, .invokestatic 44), (4, .ifCond .eq 28), (7, .aload_n 0), (8, .getfield 10), (11, .iload_n 1), (12, .invokevirtual 52), (15, .ifCond .eq 17), (18, .iload_n 2), (19, .invokestatic 55), (22, .ifCond .eq 10), (25, .iload_n 3), (26, .invokestatic 58), (29, .ifCond .ne 5), (32, .iconst 0), (33, .ireturn), (34, .aload_n 0), (35, .getfield 10), (38, .getfield 61), (41, .iload_n 1), (42, .aaload), (43, .astore 5), (45, .aload 5), (47, .invokevirtual 65), (50, .ifCond .ne 13), (53, .aload 5), (55, .iload_n 2), (56, .invokevirtual 71), (59, .iconst (-1)), (60, .if_icmp .eq 5), (63, .iconst 0), (64, .ireturn), (65, .iload 4), (67, .iconst (-1)), (68, .if_icmp .eq 26), (71, .aload_n 0), (72, .getfield 19), (75, .invokevirtual 75), (78, .getfield 61), (81, .iload_n 1), (82, .aaload), (83, .iload 4), (85, .invokevirtual 79), (88, .iload_n 3), (89, .if_icmp .eq 5), (92, .iconst 0), (93, .ireturn), (94, .aload 5), (96, .iload_n 2), (97, .iload_n 3), (98, .iload 4), (100, .invokevirtual 82), (103, .iconst 1), (104, .ireturn)]
def fl_X_field : List (Nat × Nat × Nat × Nat) := [(10, 9, 0, 2), (61, 2, 0, 2), (19, 9, 1, 2)]
def cb_X_field : List (Instr × Nat × Nat × Option Nat × am_F) := [(.invokestatic 44, 44, 1, none, f_X_isClass), (.invokevirtual 52, 52, 2, (some 2), f_P_touchesClass), (.invokestatic 55, 55, 1, none, f_X_isName), (.invokestatic 58, 58, 1, none, f_X_isType), (.invokevirtual 65, 65, 1, (some 0), f_L_isFull), (.invokevirtual 71, 71, 2, (some 0), f_L_find), (.invokevirtual 75, 75, 1, (some 3), f_Q_newest), (.invokevirtual 79, 79, 2, (some 0), f_L_typeNamed), (.invokevirtual 82, 82, 4, (some 0), f_L_add)]
def m_X_field : am_M := am_mk co_X_field fl_X_field (cb_X_field.map (fun z => z.2)) [] [] none 1
def f_X_field : am_F := am_mf m_X_field 5
theorem o_X_field : am_ok m_X_field := am_mk_ok (am_cb_ok (List.forall_mem_cons.mpr ⟨n_X_isClass, (List.forall_mem_cons.mpr ⟨n_P_touchesClass, (List.forall_mem_cons.mpr ⟨n_X_isName, (List.forall_mem_cons.mpr ⟨n_X_isType, (List.forall_mem_cons.mpr ⟨n_L_isFull, (List.forall_mem_cons.mpr ⟨n_L_find, (List.forall_mem_cons.mpr ⟨n_Q_newest, (List.forall_mem_cons.mpr ⟨n_L_typeNamed, (List.forall_mem_cons.mpr ⟨n_L_add, (fun _ h => absurd h List.not_mem_nil)⟩)⟩)⟩)⟩)⟩)⟩)⟩)⟩)⟩))
theorem n_X_field : am_mono f_X_field := am_mf_mono o_X_field
theorem g_X_field : ∀ x q, am_cal m_X_field x = some q → am_grow q.2.2 := am_mk_grow (am_cb_gr (List.forall_mem_cons.mpr ⟨h_X_isClass, (List.forall_mem_cons.mpr ⟨h_P_touchesClass, (List.forall_mem_cons.mpr ⟨h_X_isName, (List.forall_mem_cons.mpr ⟨h_X_isType, (List.forall_mem_cons.mpr ⟨h_L_isFull, (List.forall_mem_cons.mpr ⟨h_L_find, (List.forall_mem_cons.mpr ⟨h_Q_newest, (List.forall_mem_cons.mpr ⟨h_L_typeNamed, (List.forall_mem_cons.mpr ⟨h_L_add, (fun _ h => absurd h List.not_mem_nil)⟩)⟩)⟩)⟩)⟩)⟩)⟩)⟩)⟩))
theorem h_X_field : am_grow f_X_field := am_mf_grow g_X_field
def y_X_isMethod : MethodName := ⟨"PatchedMachine", "isMethod", "(I)Z"⟩
def co_X_isMethod : List (Nat × Instr) := [(0, .iload_n 0), (1, .ifCond .lt 13), (4, .iload_n 0), (5, .bipush 6), (7, .if_icmp .ge 7), (10, .iconst 1), (11, .goto 4), (14, .iconst 0), (15, .ireturn)]
def fl_X_isMethod : List (Nat × Nat × Nat × Nat) := []
def cb_X_isMethod : List (Instr × Nat × Nat × Option Nat × am_F) := []
def m_X_isMethod : am_M := am_mk co_X_isMethod fl_X_isMethod (cb_X_isMethod.map (fun z => z.2)) [] [] none 1
def f_X_isMethod : am_F := am_mf m_X_isMethod 1
theorem o_X_isMethod : am_ok m_X_isMethod := am_mk_ok (am_cb_ok (fun _ h => absurd h List.not_mem_nil))
theorem n_X_isMethod : am_mono f_X_isMethod := am_mf_mono o_X_isMethod
theorem g_X_isMethod : ∀ x q, am_cal m_X_isMethod x = some q → am_grow q.2.2 := am_mk_grow (am_cb_gr (fun _ h => absurd h List.not_mem_nil))
theorem h_X_isMethod : am_grow f_X_isMethod := am_mf_grow g_X_isMethod
def y_R_begin : MethodName := ⟨"PatchedMachine$Routine", "begin", "(III)V"⟩
def co_R_begin : List (Nat × Instr) := [(0, .aload_n 0), (1, .iload_n 1), (2, .putfield 24), (5, .aload_n 0), (6, .iload_n 3), (7, .putfield 28), (10, .aload_n 0), (11, .iconst 0), (12, .putfield 31), (15, .iconst 0), (16, .istore 4), (18, .iload 4), (20, .iconst 4), (21, .if_icmp .ge 24), (24, .aload_n 0), (25, .getfield 9), (28, .iload 4), (30, .iload_n 2), (31, .iconst 2), (32, .iload 4), (34, .imul), (35, .ishr), (36, .iconst 3), (37, .iand), (38, .iastore), (39, .iinc 4 1), (42, .goto (-24)), (45, .return_)]
def fl_R_begin : List (Nat × Nat × Nat × Nat) := [(24, 1, 4, 0), (28, 1, 5, 0), (31, 1, 6, 0), (9, 1, 0, 2)]
def cb_R_begin : List (Instr × Nat × Nat × Option Nat × am_F) := []
def m_R_begin : am_M := am_mk co_R_begin fl_R_begin (cb_R_begin.map (fun z => z.2)) [] [] none 2
def f_R_begin : am_F := am_mf m_R_begin 4
theorem o_R_begin : am_ok m_R_begin := am_mk_ok (am_cb_ok (fun _ h => absurd h List.not_mem_nil))
theorem n_R_begin : am_mono f_R_begin := am_mf_mono o_R_begin
theorem g_R_begin : ∀ x q, am_cal m_R_begin x = some q → am_grow q.2.2 := am_mk_grow (am_cb_gr (fun _ h => absurd h List.not_mem_nil))
theorem h_R_begin : am_grow f_R_begin := am_mf_grow g_R_begin
def y_P_beginMethod : MethodName := ⟨"PatchedMachine$Program", "beginMethod", "(IIII)V"⟩
def co_P_beginMethod : List (Nat × Instr) := [(0, .aload_n 0), (1, .getfield 19), (4, .iload_n 1), (5, .aaload), (6, .iload_n 2), (7, .iload_n 3), (8, .iload 4), (10, .invokevirtual 38), (13, .aload_n 0), (14, .dup), (15, .getfield 27), (18, .iconst 1), (19, .iload_n 1), (20, .ishl), (21, .ior), (22, .putfield 27), (25, .return_)]
def fl_P_beginMethod : List (Nat × Nat × Nat × Nat) := [(19, 2, 1, 2), (27, 2, 3, 0)]
def cb_P_beginMethod : List (Instr × Nat × Nat × Option Nat × am_F) := [(.invokevirtual 38, 38, 4, (some 1), f_R_begin)]
def m_P_beginMethod : am_M := am_mk co_P_beginMethod fl_P_beginMethod (cb_P_beginMethod.map (fun z => z.2)) [] [] none 2
def f_P_beginMethod : am_F := am_mf m_P_beginMethod 5
theorem o_P_beginMethod : am_ok m_P_beginMethod := am_mk_ok (am_cb_ok (List.forall_mem_cons.mpr ⟨n_R_begin, (fun _ h => absurd h List.not_mem_nil)⟩))
theorem n_P_beginMethod : am_mono f_P_beginMethod := am_mf_mono o_P_beginMethod
theorem g_P_beginMethod : ∀ x q, am_cal m_P_beginMethod x = some q → am_grow q.2.2 := am_mk_grow (am_cb_gr (List.forall_mem_cons.mpr ⟨h_R_begin, (fun _ h => absurd h List.not_mem_nil)⟩))
theorem h_P_beginMethod : am_grow f_P_beginMethod := am_mf_grow g_P_beginMethod
def y_X_head : MethodName := ⟨"PatchedMachine", "head", "(IIII)Z"⟩
def co_X_head : List (Nat × Instr) := [(0, .iload_n 1), (1, .invokestatic 86), (4, .ifCond .eq 11), (7, .iload 4), (9, .invokestatic 58), (12, .ifCond .ne 5), (15, .iconst 0), (16, .ireturn), (17, .iload_n 2), (18, .ifCond .lt 19), (21, .iload_n 2), (22, .iconst 3), (23, .if_icmp .gt 14), (26, .iload_n 3), (27, .ifCond .lt 10), (30, .iload_n 3), (31, .sipush 255), (34, .if_icmp .le 5), (37, .iconst 0), (38, .ireturn), (39, .aload_n 0), (40, .getfield 10), (43, .iload_n 1), (44, .iload_n 2), (45, .iload_n 3), (46, .iload 4), (48, .invokevirtual 89), (51, .iconst 1), (52, .ireturn)]
def fl_X_head : List (Nat × Nat × Nat × Nat) := [(10, 9, 0, 2)]
def cb_X_head : List (Instr × Nat × Nat × Option Nat × am_F) := [(.invokestatic 86, 86, 1, none, f_X_isMethod), (.invokestatic 58, 58, 1, none, f_X_isType), (.invokevirtual 89, 89, 5, (some 2), f_P_beginMethod)]
def m_X_head : am_M := am_mk co_X_head fl_X_head (cb_X_head.map (fun z => z.2)) [] [] none 1
def f_X_head : am_F := am_mf m_X_head 5
theorem o_X_head : am_ok m_X_head := am_mk_ok (am_cb_ok (List.forall_mem_cons.mpr ⟨n_X_isMethod, (List.forall_mem_cons.mpr ⟨n_X_isType, (List.forall_mem_cons.mpr ⟨n_P_beginMethod, (fun _ h => absurd h List.not_mem_nil)⟩)⟩)⟩))
theorem n_X_head : am_mono f_X_head := am_mf_mono o_X_head
theorem g_X_head : ∀ x q, am_cal m_X_head x = some q → am_grow q.2.2 := am_mk_grow (am_cb_gr (List.forall_mem_cons.mpr ⟨h_X_isMethod, (List.forall_mem_cons.mpr ⟨h_X_isType, (List.forall_mem_cons.mpr ⟨h_P_beginMethod, (fun _ h => absurd h List.not_mem_nil)⟩)⟩)⟩))
theorem h_X_head : am_grow f_X_head := am_mf_grow g_X_head
def y_P_touchesMethod : MethodName := ⟨"PatchedMachine$Program", "touchesMethod", "(I)Z"⟩
def co_P_touchesMethod : List (Nat × Instr) := [(0, .aload_n 0), (1, .getfield 27), (4, .iload_n 1), (5, .ishr), (6, .iconst 1), (7, .iand), (8, .ifCond .eq 7), (11, .iconst 1), (12, .goto 4), (15, .iconst 0), (16, .ireturn)]
def fl_P_touchesMethod : List (Nat × Nat × Nat × Nat) := [(27, 2, 3, 0)]
def cb_P_touchesMethod : List (Instr × Nat × Nat × Option Nat × am_F) := []
def m_P_touchesMethod : am_M := am_mk co_P_touchesMethod fl_P_touchesMethod (cb_P_touchesMethod.map (fun z => z.2)) [] [] none 1
def f_P_touchesMethod : am_F := am_mf m_P_touchesMethod 2
theorem o_P_touchesMethod : am_ok m_P_touchesMethod := am_mk_ok (am_cb_ok (fun _ h => absurd h List.not_mem_nil))
theorem n_P_touchesMethod : am_mono f_P_touchesMethod := am_mf_mono o_P_touchesMethod
theorem g_P_touchesMethod : ∀ x q, am_cal m_P_touchesMethod x = some q → am_grow q.2.2 := am_mk_grow (am_cb_gr (fun _ h => absurd h List.not_mem_nil))
theorem h_P_touchesMethod : am_grow f_P_touchesMethod := am_mf_grow g_P_touchesMethod
def y_R_isFull : MethodName := ⟨"PatchedMachine$Routine", "isFull", "()Z"⟩
def co_R_isFull : List (Nat × Instr) := [(0, .aload_n 0), (1, .getfield 31), (4, .bipush 14), (6, .if_icmp .lt 7), (9, .iconst 1), (10, .goto 4), (13, .iconst 0), (14, .ireturn)]
def fl_R_isFull : List (Nat × Nat × Nat × Nat) := [(31, 1, 6, 0)]
def cb_R_isFull : List (Instr × Nat × Nat × Option Nat × am_F) := []
def m_R_isFull : am_M := am_mk co_R_isFull fl_R_isFull (cb_R_isFull.map (fun z => z.2)) [] [] none 1
def f_R_isFull : am_F := am_mf m_R_isFull 1
theorem o_R_isFull : am_ok m_R_isFull := am_mk_ok (am_cb_ok (fun _ h => absurd h List.not_mem_nil))
theorem n_R_isFull : am_mono f_R_isFull := am_mf_mono o_R_isFull
theorem g_R_isFull : ∀ x q, am_cal m_R_isFull x = some q → am_grow q.2.2 := am_mk_grow (am_cb_gr (fun _ h => absurd h List.not_mem_nil))
theorem h_R_isFull : am_grow f_R_isFull := am_mf_grow g_R_isFull
def y_X_fitsX : MethodName := ⟨"PatchedMachine", "fitsX", "(II)Z"⟩
def co_X_fitsX : List (Nat × Instr) := [(0, .iload_n 0), (1, .tableswitch 122 0 15 #[79, 81, 86, 86, 122, 122, 122, 122, 101, 101, 81, 81, 81, 117, 122, 81]), (80, .iconst 1), (81, .ireturn), (82, .iload_n 1), (83, .invokestatic 44), (86, .ireturn), (87, .iload_n 1), (88, .ifCond .lt 12), (91, .iload_n 1), (92, .iconst 4), (93, .if_icmp .ge 7), (96, .iconst 1), (97, .goto 4), (100, .iconst 0), (101, .ireturn), (102, .iload_n 1), (103, .ifCond .lt 13), (106, .iload_n 1), (107, .bipush 14), (109, .if_icmp .ge 7), (112, .iconst 1), (113, .goto 4), (116, .iconst 0), (117, .ireturn), (118, .iload_n 1), (119, .invokestatic 86), (122, .ireturn), (123, .iload_n 1), (124, .ifCond .ne 7), (127, .iconst 1), (128, .goto 4), (131, .iconst 0), (132, .ireturn)]
def fl_X_fitsX : List (Nat × Nat × Nat × Nat) := []
def cb_X_fitsX : List (Instr × Nat × Nat × Option Nat × am_F) := [(.invokestatic 44, 44, 1, none, f_X_isClass), (.invokestatic 86, 86, 1, none, f_X_isMethod)]
def m_X_fitsX : am_M := am_mk co_X_fitsX fl_X_fitsX (cb_X_fitsX.map (fun z => z.2)) [] [] none 1
def f_X_fitsX : am_F := am_mf m_X_fitsX 2
theorem o_X_fitsX : am_ok m_X_fitsX := am_mk_ok (am_cb_ok (List.forall_mem_cons.mpr ⟨n_X_isClass, (List.forall_mem_cons.mpr ⟨n_X_isMethod, (fun _ h => absurd h List.not_mem_nil)⟩)⟩))
theorem n_X_fitsX : am_mono f_X_fitsX := am_mf_mono o_X_fitsX
theorem g_X_fitsX : ∀ x q, am_cal m_X_fitsX x = some q → am_grow q.2.2 := am_mk_grow (am_cb_gr (List.forall_mem_cons.mpr ⟨h_X_isClass, (List.forall_mem_cons.mpr ⟨h_X_isMethod, (fun _ h => absurd h List.not_mem_nil)⟩)⟩))
theorem h_X_fitsX : am_grow f_X_fitsX := am_mf_grow g_X_fitsX
def y_X_fitsY : MethodName := ⟨"PatchedMachine", "fitsY", "(II)Z"⟩
def co_X_fitsY : List (Nat × Instr) := [(0, .iload_n 0), (1, .bipush 11), (3, .if_icmp .eq 9), (6, .iload_n 0), (7, .bipush 12), (9, .if_icmp .ne 10), (12, .iload_n 1), (13, .invokestatic 55), (16, .goto 12), (19, .iload_n 1), (20, .ifCond .ne 7), (23, .iconst 1), (24, .goto 4), (27, .iconst 0), (28, .ireturn)]
def fl_X_fitsY : List (Nat × Nat × Nat × Nat) := []
def cb_X_fitsY : List (Instr × Nat × Nat × Option Nat × am_F) := [(.invokestatic 55, 55, 1, none, f_X_isName)]
def m_X_fitsY : am_M := am_mk co_X_fitsY fl_X_fitsY (cb_X_fitsY.map (fun z => z.2)) [] [] none 1
def f_X_fitsY : am_F := am_mf m_X_fitsY 2
theorem o_X_fitsY : am_ok m_X_fitsY := am_mk_ok (am_cb_ok (List.forall_mem_cons.mpr ⟨n_X_isName, (fun _ h => absurd h List.not_mem_nil)⟩))
theorem n_X_fitsY : am_mono f_X_fitsY := am_mf_mono o_X_fitsY
theorem g_X_fitsY : ∀ x q, am_cal m_X_fitsY x = some q → am_grow q.2.2 := am_mk_grow (am_cb_gr (List.forall_mem_cons.mpr ⟨h_X_isName, (fun _ h => absurd h List.not_mem_nil)⟩))
theorem h_X_fitsY : am_grow f_X_fitsY := am_mf_grow g_X_fitsY
def y_R_add : MethodName := ⟨"PatchedMachine$Routine", "add", "(III)V"⟩
def co_R_add : List (Nat × Instr) := [(0, .aload_n 0), (1, .invokevirtual 34), (4, .ifCond .eq 4), (7, .return_), (8, .aload_n 0), (9, .getfield 15), (12, .aload_n 0), (13, .getfield 31), (16, .iload_n 1), (17, .iastore), (18, .aload_n 0), (19, .getfield 18), (22, .aload_n 0), (23, .getfield 31), (26, .iload_n 2), (27, .iastore), (28, .aload_n 0), (29, .getfield 21), (32, .aload_n 0), (33, .getfield 31), (36, .iload_n 3), (37, .iastore), (38, .aload_n 0), (39, .dup), (40, .getfield 31), (43, .iconst 1), (44, .iadd), (45, .putfield 31), (48, .return_)]
def fl_R_add : List (Nat × Nat × Nat × Nat) := [(15, 1, 1, 2), (31, 1, 6, 0), (18, 1, 2, 2), (21, 1, 3, 2)]
def cb_R_add : List (Instr × Nat × Nat × Option Nat × am_F) := [(.invokevirtual 34, 34, 1, (some 1), f_R_isFull)]
def m_R_add : am_M := am_mk co_R_add fl_R_add (cb_R_add.map (fun z => z.2)) [] [] none 2
def f_R_add : am_F := am_mf m_R_add 4
theorem o_R_add : am_ok m_R_add := am_mk_ok (am_cb_ok (List.forall_mem_cons.mpr ⟨n_R_isFull, (fun _ h => absurd h List.not_mem_nil)⟩))
theorem n_R_add : am_mono f_R_add := am_mf_mono o_R_add
theorem g_R_add : ∀ x q, am_cal m_R_add x = some q → am_grow q.2.2 := am_mk_grow (am_cb_gr (List.forall_mem_cons.mpr ⟨h_R_isFull, (fun _ h => absurd h List.not_mem_nil)⟩))
theorem h_R_add : am_grow f_R_add := am_mf_grow g_R_add
def y_X_code : MethodName := ⟨"PatchedMachine", "code", "(IIII)Z"⟩
def co_X_code : List (Nat × Instr) := [(0, .iload_n 1), (1, .invokestatic 86), (4, .ifCond .eq 29), (7, .aload_n 0), (8, .getfield 10), (11, .iload_n 1), (12, .invokevirtual 93), (15, .ifCond .eq 18), (18, .aload_n 0), (19, .getfield 10), (22, .getfield 96), (25, .iload_n 1), (26, .aaload), (27, .invokevirtual 100), (30, .ifCond .eq 5), (33, .iconst 0), (34, .ireturn), (35, .iload_n 2), (36, .ifCond .lt 26), (39, .iload_n 2), (40, .bipush 16), (42, .if_icmp .gt 20), (45, .iload_n 2), (46, .iload_n 3), (47, .invokestatic 103), (50, .ifCond .eq 12), (53, .iload_n 2), (54, .iload 4), (56, .invokestatic 107), (59, .ifCond .ne 5), (62, .iconst 0), (63, .ireturn), (64, .aload_n 0), (65, .getfield 10), (68, .getfield 96), (71, .iload_n 1), (72, .aaload), (73, .iload_n 2), (74, .iload_n 3), (75, .iload 4), (77, .invokevirtual 110), (80, .iconst 1), (81, .ireturn)]
def fl_X_code : List (Nat × Nat × Nat × Nat) := [(10, 9, 0, 2), (96, 2, 1, 2)]
def cb_X_code : List (Instr × Nat × Nat × Option Nat × am_F) := [(.invokestatic 86, 86, 1, none, f_X_isMethod), (.invokevirtual 93, 93, 2, (some 2), f_P_touchesMethod), (.invokevirtual 100, 100, 1, (some 1), f_R_isFull), (.invokestatic 103, 103, 2, none, f_X_fitsX), (.invokestatic 107, 107, 2, none, f_X_fitsY), (.invokevirtual 110, 110, 4, (some 1), f_R_add)]
def m_X_code : am_M := am_mk co_X_code fl_X_code (cb_X_code.map (fun z => z.2)) [] [] none 1
def f_X_code : am_F := am_mf m_X_code 5
theorem o_X_code : am_ok m_X_code := am_mk_ok (am_cb_ok (List.forall_mem_cons.mpr ⟨n_X_isMethod, (List.forall_mem_cons.mpr ⟨n_P_touchesMethod, (List.forall_mem_cons.mpr ⟨n_R_isFull, (List.forall_mem_cons.mpr ⟨n_X_fitsX, (List.forall_mem_cons.mpr ⟨n_X_fitsY, (List.forall_mem_cons.mpr ⟨n_R_add, (fun _ h => absurd h List.not_mem_nil)⟩)⟩)⟩)⟩)⟩)⟩))
theorem n_X_code : am_mono f_X_code := am_mf_mono o_X_code
theorem g_X_code : ∀ x q, am_cal m_X_code x = some q → am_grow q.2.2 := am_mk_grow (am_cb_gr (List.forall_mem_cons.mpr ⟨h_X_isMethod, (List.forall_mem_cons.mpr ⟨h_P_touchesMethod, (List.forall_mem_cons.mpr ⟨h_R_isFull, (List.forall_mem_cons.mpr ⟨h_X_fitsX, (List.forall_mem_cons.mpr ⟨h_X_fitsY, (List.forall_mem_cons.mpr ⟨h_R_add, (fun _ h => absurd h List.not_mem_nil)⟩)⟩)⟩)⟩)⟩)⟩))
theorem h_X_code : am_grow f_X_code := am_mf_grow g_X_code
def y_P_touchesAnything : MethodName := ⟨"PatchedMachine$Program", "touchesAnything", "()Z"⟩
def co_P_touchesAnything : List (Nat × Instr) := [(0, .aload_n 0), (1, .getfield 23), (4, .ifCond .ne 10), (7, .aload_n 0), (8, .getfield 27), (11, .ifCond .eq 7), (14, .iconst 1), (15, .goto 4), (18, .iconst 0), (19, .ireturn)]
def fl_P_touchesAnything : List (Nat × Nat × Nat × Nat) := [(23, 2, 2, 0), (27, 2, 3, 0)]
def cb_P_touchesAnything : List (Instr × Nat × Nat × Option Nat × am_F) := []
def m_P_touchesAnything : am_M := am_mk co_P_touchesAnything fl_P_touchesAnything (cb_P_touchesAnything.map (fun z => z.2)) [] [] none 1
def f_P_touchesAnything : am_F := am_mf m_P_touchesAnything 1
theorem o_P_touchesAnything : am_ok m_P_touchesAnything := am_mk_ok (am_cb_ok (fun _ h => absurd h List.not_mem_nil))
theorem n_P_touchesAnything : am_mono f_P_touchesAnything := am_mf_mono o_P_touchesAnything
theorem g_P_touchesAnything : ∀ x q, am_cal m_P_touchesAnything x = some q → am_grow q.2.2 := am_mk_grow (am_cb_gr (fun _ h => absurd h List.not_mem_nil))
theorem h_P_touchesAnything : am_grow f_P_touchesAnything := am_mf_grow g_P_touchesAnything
def y_L_copy : MethodName := ⟨"PatchedMachine$Layout", "copy", "(LPatchedMachine$Layout;)V"⟩
def co_L_copy : List (Nat × Instr) := [(0, .aload_n 0), (1, .aload_n 1), (2, .getfield 21), (5, .putfield 21), (8, .aload_n 1), (9, .getfield 9), (12, .iconst 0), (13, .aload_n 0), (14, .getfield 9), (17, .iconst 0), (18, .iconst 4), (19, .invokestatic 33), (22, .aload_n 1), (23, .getfield 15), (26, .iconst 0), (27, .aload_n 0), (28, .getfield 15), (31, .iconst 0), (32, .iconst 4), (33, .invokestatic 33), (36, .aload_n 1), (37, .getfield 18), (40, .iconst 0), (41, .aload_n 0), (42, .getfield 18), (45, .iconst 0), (46, .iconst 4), (47, .invokestatic 33), (50, .return_)]
def fl_L_copy : List (Nat × Nat × Nat × Nat) := [(21, 0, 3, 0), (9, 0, 0, 2), (15, 0, 1, 2), (18, 0, 2, 2)]
def cb_L_copy : List (Instr × Nat × Nat × Option Nat × am_F) := [(.invokestatic 33, 33, 5, none, am_cpy)]
def m_L_copy : am_M := am_mk co_L_copy fl_L_copy (cb_L_copy.map (fun z => z.2)) [] [] none 2
def f_L_copy : am_F := am_mf m_L_copy 2
theorem o_L_copy : am_ok m_L_copy := am_mk_ok (am_cb_ok (List.forall_mem_cons.mpr ⟨am_cpy_mono, (fun _ h => absurd h List.not_mem_nil)⟩))
theorem n_L_copy : am_mono f_L_copy := am_mf_mono o_L_copy
theorem g_L_copy : ∀ x q, am_cal m_L_copy x = some q → am_grow q.2.2 := am_mk_grow (am_cb_gr (List.forall_mem_cons.mpr ⟨am_cpy_grow, (fun _ h => absurd h List.not_mem_nil)⟩))
theorem h_L_copy : am_grow f_L_copy := am_mf_grow g_L_copy
def y_R_copy : MethodName := ⟨"PatchedMachine$Routine", "copy", "(LPatchedMachine$Routine;)V"⟩
def co_R_copy : List (Nat × Instr) := [(0, .aload_n 0), (1, .aload_n 1), (2, .getfield 24), (5, .putfield 24), (8, .aload_n 0), (9, .aload_n 1), (10, .getfield 28), (13, .putfield 28), (16, .aload_n 0), (17, .aload_n 1), (18, .getfield 31), (21, .putfield 31), (24, .aload_n 1), (25, .getfield 9), (28, .iconst 0), (29, .aload_n 0), (30, .getfield 9), (33, .iconst 0), (34, .iconst 4), (35, .invokestatic 38), (38, .aload_n 1), (39, .getfield 15), (42, .iconst 0), (43, .aload_n 0), (44, .getfield 15), (47, .iconst 0), (48, .bipush 14), (50, .invokestatic 38), (53, .aload_n 1), (54, .getfield 18), (57, .iconst 0), (58, .aload_n 0), (59, .getfield 18), (62, .iconst 0), (63, .bipush 14), (65, .invokestatic 38), (68, .aload_n 1), (69, .getfield 21), (72, .iconst 0), (73, .aload_n 0), (74, .getfield 21), (77, .iconst 0), (78, .bipush 14), (80, .invokestatic 38), (83, .return_)]
def fl_R_copy : List (Nat × Nat × Nat × Nat) := [(24, 1, 4, 0), (28, 1, 5, 0), (31, 1, 6, 0), (9, 1, 0, 2), (15, 1, 1, 2), (18, 1, 2, 2), (21, 1, 3, 2)]
def cb_R_copy : List (Instr × Nat × Nat × Option Nat × am_F) := [(.invokestatic 38, 38, 5, none, am_cpy)]
def m_R_copy : am_M := am_mk co_R_copy fl_R_copy (cb_R_copy.map (fun z => z.2)) [] [] none 2
def f_R_copy : am_F := am_mf m_R_copy 2
theorem o_R_copy : am_ok m_R_copy := am_mk_ok (am_cb_ok (List.forall_mem_cons.mpr ⟨am_cpy_mono, (fun _ h => absurd h List.not_mem_nil)⟩))
theorem n_R_copy : am_mono f_R_copy := am_mf_mono o_R_copy
theorem g_R_copy : ∀ x q, am_cal m_R_copy x = some q → am_grow q.2.2 := am_mk_grow (am_cb_gr (List.forall_mem_cons.mpr ⟨am_cpy_grow, (fun _ h => absurd h List.not_mem_nil)⟩))
theorem h_R_copy : am_grow f_R_copy := am_mf_grow g_R_copy
def y_P_copy : MethodName := ⟨"PatchedMachine$Program", "copy", "(LPatchedMachine$Program;)V"⟩
def co_P_copy : List (Nat × Instr) := [(0, .iconst 0), (1, .istore_n 2), (2, .iload_n 2), (3, .iconst 3), (4, .if_icmp .gt 24), (7, .aload_n 0), (8, .getfield 11), (11, .iload_n 2), (12, .aaload), (13, .aload_n 1), (14, .getfield 11), (17, .iload_n 2), (18, .aaload), (19, .invokevirtual 42), (22, .iinc 2 1), (25, .goto (-23)), (28, .iconst 0), (29, .istore_n 2), (30, .iload_n 2), (31, .bipush 6), (33, .if_icmp .ge 24), (36, .aload_n 0), (37, .getfield 19), (40, .iload_n 2), (41, .aaload), (42, .aload_n 1), (43, .getfield 19), (46, .iload_n 2), (47, .aaload), (48, .invokevirtual 46), (51, .iinc 2 1), (54, .goto (-24)), (57, .aload_n 0), (58, .aload_n 1), (59, .getfield 23), (62, .putfield 23), (65, .aload_n 0), (66, .aload_n 1), (67, .getfield 27), (70, .putfield 27), (73, .aload_n 0), (74, .aload_n 1), (75, .getfield 30), (78, .putfield 30), (81, .return_)]
def fl_P_copy : List (Nat × Nat × Nat × Nat) := [(11, 2, 0, 2), (19, 2, 1, 2), (23, 2, 2, 0), (27, 2, 3, 0), (30, 2, 4, 0)]
def cb_P_copy : List (Instr × Nat × Nat × Option Nat × am_F) := [(.invokevirtual 42, 42, 2, (some 0), f_L_copy), (.invokevirtual 46, 46, 2, (some 1), f_R_copy)]
def m_P_copy : am_M := am_mk co_P_copy fl_P_copy (cb_P_copy.map (fun z => z.2)) [] [] none 2
def f_P_copy : am_F := am_mf m_P_copy 2
theorem o_P_copy : am_ok m_P_copy := am_mk_ok (am_cb_ok (List.forall_mem_cons.mpr ⟨n_L_copy, (List.forall_mem_cons.mpr ⟨n_R_copy, (fun _ h => absurd h List.not_mem_nil)⟩)⟩))
theorem n_P_copy : am_mono f_P_copy := am_mf_mono o_P_copy
theorem g_P_copy : ∀ x q, am_cal m_P_copy x = some q → am_grow q.2.2 := am_mk_grow (am_cb_gr (List.forall_mem_cons.mpr ⟨h_L_copy, (List.forall_mem_cons.mpr ⟨h_R_copy, (fun _ h => absurd h List.not_mem_nil)⟩)⟩))
theorem h_P_copy : am_grow f_P_copy := am_mf_grow g_P_copy
def y_P_beginAs : MethodName := ⟨"PatchedMachine$Program", "beginAs", "(LPatchedMachine$Program;)V"⟩
def co_P_beginAs : List (Nat × Instr) := [(0, .aload_n 0), (1, .aload_n 1), (2, .invokevirtual 49), (5, .aload_n 0), (6, .iconst 0), (7, .putfield 23), (10, .aload_n 0), (11, .iconst 0), (12, .putfield 27), (15, .aload_n 0), (16, .iconst 0), (17, .putfield 30), (20, .return_)]
def fl_P_beginAs : List (Nat × Nat × Nat × Nat) := [(23, 2, 2, 0), (27, 2, 3, 0), (30, 2, 4, 0)]
def cb_P_beginAs : List (Instr × Nat × Nat × Option Nat × am_F) := [(.invokevirtual 49, 49, 2, (some 2), f_P_copy)]
def m_P_beginAs : am_M := am_mk co_P_beginAs fl_P_beginAs (cb_P_beginAs.map (fun z => z.2)) [] [] none 2
def f_P_beginAs : am_F := am_mf m_P_beginAs 2
theorem o_P_beginAs : am_ok m_P_beginAs := am_mk_ok (am_cb_ok (List.forall_mem_cons.mpr ⟨n_P_copy, (fun _ h => absurd h List.not_mem_nil)⟩))
theorem n_P_beginAs : am_mono f_P_beginAs := am_mf_mono o_P_beginAs
theorem g_P_beginAs : ∀ x q, am_cal m_P_beginAs x = some q → am_grow q.2.2 := am_mk_grow (am_cb_gr (List.forall_mem_cons.mpr ⟨h_P_copy, (fun _ h => absurd h List.not_mem_nil)⟩))
theorem h_P_beginAs : am_grow f_P_beginAs := am_mf_grow g_P_beginAs
def y_X_drop : MethodName := ⟨"PatchedMachine", "drop", "()Z"⟩
def co_X_drop : List (Nat × Instr) := [(0, .aload_n 0), (1, .getfield 10), (4, .invokevirtual 111), (7, .ifCond .ne 5), (10, .iconst 0), (11, .ireturn), (12, .aload_n 0), (13, .getfield 10), (16, .aload_n 0), (17, .getfield 19), (20, .invokevirtual 75), (23, .invokevirtual 114), (26, .iconst 1), (27, .ireturn)]
def fl_X_drop : List (Nat × Nat × Nat × Nat) := [(10, 9, 0, 2), (19, 9, 1, 2)]
def cb_X_drop : List (Instr × Nat × Nat × Option Nat × am_F) := [(.invokevirtual 111, 111, 1, (some 2), f_P_touchesAnything), (.invokevirtual 75, 75, 1, (some 3), f_Q_newest), (.invokevirtual 114, 114, 2, (some 2), f_P_beginAs)]
def m_X_drop : am_M := am_mk co_X_drop fl_X_drop (cb_X_drop.map (fun z => z.2)) [] [] none 1
def f_X_drop : am_F := am_mf m_X_drop 1
theorem o_X_drop : am_ok m_X_drop := am_mk_ok (am_cb_ok (List.forall_mem_cons.mpr ⟨n_P_touchesAnything, (List.forall_mem_cons.mpr ⟨n_Q_newest, (List.forall_mem_cons.mpr ⟨n_P_beginAs, (fun _ h => absurd h List.not_mem_nil)⟩)⟩)⟩))
theorem n_X_drop : am_mono f_X_drop := am_mf_mono o_X_drop
theorem g_X_drop : ∀ x q, am_cal m_X_drop x = some q → am_grow q.2.2 := am_mk_grow (am_cb_gr (List.forall_mem_cons.mpr ⟨h_P_touchesAnything, (List.forall_mem_cons.mpr ⟨h_Q_newest, (List.forall_mem_cons.mpr ⟨h_P_beginAs, (fun _ h => absurd h List.not_mem_nil)⟩)⟩)⟩))
theorem h_X_drop : am_grow f_X_drop := am_mf_grow g_X_drop
def y_Q_isFull : MethodName := ⟨"PatchedMachine$PatchLine", "isFull", "()Z"⟩
def co_Q_isFull : List (Nat × Instr) := [(0, .aload_n 0), (1, .getfield 21), (4, .iconst 3), (5, .if_icmp .lt 7), (8, .iconst 1), (9, .goto 4), (12, .iconst 0), (13, .ireturn)]
def fl_Q_isFull : List (Nat × Nat × Nat × Nat) := [(21, 3, 2, 0)]
def cb_Q_isFull : List (Instr × Nat × Nat × Option Nat × am_F) := []
def m_Q_isFull : am_M := am_mk co_Q_isFull fl_Q_isFull (cb_Q_isFull.map (fun z => z.2)) [] [] none 1
def f_Q_isFull : am_F := am_mf m_Q_isFull 1
theorem o_Q_isFull : am_ok m_Q_isFull := am_mk_ok (am_cb_ok (fun _ h => absurd h List.not_mem_nil))
theorem n_Q_isFull : am_mono f_Q_isFull := am_mf_mono o_Q_isFull
theorem g_Q_isFull : ∀ x q, am_cal m_Q_isFull x = some q → am_grow q.2.2 := am_mk_grow (am_cb_gr (fun _ h => absurd h List.not_mem_nil))
theorem h_Q_isFull : am_grow f_Q_isFull := am_mf_grow g_Q_isFull
def y_R_jumpsTo : MethodName := ⟨"PatchedMachine$Routine", "jumpsTo", "(I)Z"⟩
def co_R_jumpsTo : List (Nat × Instr) := [(0, .iconst 0), (1, .istore_n 2), (2, .iload_n 2), (3, .aload_n 0), (4, .getfield 31), (7, .if_icmp .ge 43), (10, .aload_n 0), (11, .getfield 15), (14, .iload_n 2), (15, .iaload), (16, .bipush 8), (18, .if_icmp .eq 14), (21, .aload_n 0), (22, .getfield 15), (25, .iload_n 2), (26, .iaload), (27, .bipush 9), (29, .if_icmp .ne 15), (32, .aload_n 0), (33, .getfield 18), (36, .iload_n 2), (37, .iaload), (38, .iload_n 1), (39, .if_icmp .ne 5), (42, .iconst 1), (43, .ireturn), (44, .iinc 2 1), (47, .goto (-45)), (50, .iconst 0), (51, .ireturn)]
def fl_R_jumpsTo : List (Nat × Nat × Nat × Nat) := [(31, 1, 6, 0), (15, 1, 1, 2), (18, 1, 2, 2)]
def cb_R_jumpsTo : List (Instr × Nat × Nat × Option Nat × am_F) := []
def m_R_jumpsTo : am_M := am_mk co_R_jumpsTo fl_R_jumpsTo (cb_R_jumpsTo.map (fun z => z.2)) [] [] none 1
def f_R_jumpsTo : am_F := am_mf m_R_jumpsTo 2
theorem o_R_jumpsTo : am_ok m_R_jumpsTo := am_mk_ok (am_cb_ok (fun _ h => absurd h List.not_mem_nil))
theorem n_R_jumpsTo : am_mono f_R_jumpsTo := am_mf_mono o_R_jumpsTo
theorem g_R_jumpsTo : ∀ x q, am_cal m_R_jumpsTo x = some q → am_grow q.2.2 := am_mk_grow (am_cb_gr (fun _ h => absurd h List.not_mem_nil))
theorem h_R_jumpsTo : am_grow f_R_jumpsTo := am_mf_grow g_R_jumpsTo
def y_C_needEmpty : MethodName := ⟨"PatchedMachine$Checker", "needEmpty", "()V"⟩
def co_C_needEmpty : List (Nat × Instr) := [(0, .aload_n 0), (1, .getfield 15), (4, .ifCond .eq 8), (7, .aload_n 0), (8, .iconst 1), (9, .putfield 19), (12, .return_)]
def fl_C_needEmpty : List (Nat × Nat × Nat × Nat) := [(15, 4, 1, 0), (19, 4, 2, 1)]
def cb_C_needEmpty : List (Instr × Nat × Nat × Option Nat × am_F) := []
def m_C_needEmpty : am_M := am_mk co_C_needEmpty fl_C_needEmpty (cb_C_needEmpty.map (fun z => z.2)) [] [] none 2
def f_C_needEmpty : am_F := am_mf m_C_needEmpty 1
theorem o_C_needEmpty : am_ok m_C_needEmpty := am_mk_ok (am_cb_ok (fun _ h => absurd h List.not_mem_nil))
theorem n_C_needEmpty : am_mono f_C_needEmpty := am_mf_mono o_C_needEmpty
theorem g_C_needEmpty : ∀ x q, am_cal m_C_needEmpty x = some q → am_grow q.2.2 := am_mk_grow (am_cb_gr (fun _ h => absurd h List.not_mem_nil))
theorem h_C_needEmpty : am_grow f_C_needEmpty := am_mf_grow g_C_needEmpty
def y_C_put : MethodName := ⟨"PatchedMachine$Checker", "put", "(I)V"⟩
def co_C_put : List (Nat × Instr) := [(0, .aload_n 0), (1, .getfield 15), (4, .bipush 6), (6, .if_icmp .lt 9), (9, .aload_n 0), (10, .iconst 1), (11, .putfield 19), (14, .return_), (15, .aload_n 0), (16, .getfield 9), (19, .aload_n 0), (20, .getfield 15), (23, .iload_n 1), (24, .iastore), (25, .aload_n 0), (26, .dup), (27, .getfield 15), (30, .iconst 1), (31, .iadd), (32, .putfield 15), (35, .return_)]
def fl_C_put : List (Nat × Nat × Nat × Nat) := [(15, 4, 1, 0), (19, 4, 2, 1), (9, 4, 0, 2)]
def cb_C_put : List (Instr × Nat × Nat × Option Nat × am_F) := []
def m_C_put : am_M := am_mk co_C_put fl_C_put (cb_C_put.map (fun z => z.2)) [] [] none 2
def f_C_put : am_F := am_mf m_C_put 2
theorem o_C_put : am_ok m_C_put := am_mk_ok (am_cb_ok (fun _ h => absurd h List.not_mem_nil))
theorem n_C_put : am_mono f_C_put := am_mf_mono o_C_put
theorem g_C_put : ∀ x q, am_cal m_C_put x = some q → am_grow q.2.2 := am_mk_grow (am_cb_gr (fun _ h => absurd h List.not_mem_nil))
theorem h_C_put : am_grow f_C_put := am_mf_grow g_C_put
def y_C_take : MethodName := ⟨"PatchedMachine$Checker", "take", "(I)V"⟩
def co_C_take : List (Nat × Instr) := [(0, .aload_n 0), (1, .getfield 15), (4, .ifCond .ne 9), (7, .aload_n 0), (8, .iconst 1), (9, .putfield 19), (12, .return_), (13, .aload_n 0), (14, .dup), (15, .getfield 15), (18, .iconst 1), (19, .isub), (20, .putfield 15), (23, .aload_n 0), (24, .getfield 9), (27, .aload_n 0), (28, .getfield 15), (31, .iaload), (32, .iload_n 1), (33, .if_icmp .eq 8), (36, .aload_n 0), (37, .iconst 1), (38, .putfield 19), (41, .return_)]
def fl_C_take : List (Nat × Nat × Nat × Nat) := [(15, 4, 1, 0), (19, 4, 2, 1), (9, 4, 0, 2)]
def cb_C_take : List (Instr × Nat × Nat × Option Nat × am_F) := []
def m_C_take : am_M := am_mk co_C_take fl_C_take (cb_C_take.map (fun z => z.2)) [] [] none 2
def f_C_take : am_F := am_mf m_C_take 2
theorem o_C_take : am_ok m_C_take := am_mk_ok (am_cb_ok (fun _ h => absurd h List.not_mem_nil))
theorem n_C_take : am_mono f_C_take := am_mf_mono o_C_take
theorem g_C_take : ∀ x q, am_cal m_C_take x = some q → am_grow q.2.2 := am_mk_grow (am_cb_gr (fun _ h => absurd h List.not_mem_nil))
theorem h_C_take : am_grow f_C_take := am_mf_grow g_C_take
def y_R_hasPlace : MethodName := ⟨"PatchedMachine$Routine", "hasPlace", "(I)Z"⟩
def co_R_hasPlace : List (Nat × Instr) := [(0, .iload_n 1), (1, .ifCond .lt 15), (4, .iload_n 1), (5, .aload_n 0), (6, .getfield 31), (9, .if_icmp .ge 7), (12, .iconst 1), (13, .goto 4), (16, .iconst 0), (17, .ireturn)]
def fl_R_hasPlace : List (Nat × Nat × Nat × Nat) := [(31, 1, 6, 0)]
def cb_R_hasPlace : List (Instr × Nat × Nat × Option Nat × am_F) := []
def m_R_hasPlace : am_M := am_mk co_R_hasPlace fl_R_hasPlace (cb_R_hasPlace.map (fun z => z.2)) [] [] none 1
def f_R_hasPlace : am_F := am_mf m_R_hasPlace 2
theorem o_R_hasPlace : am_ok m_R_hasPlace := am_mk_ok (am_cb_ok (fun _ h => absurd h List.not_mem_nil))
theorem n_R_hasPlace : am_mono f_R_hasPlace := am_mf_mono o_R_hasPlace
theorem g_R_hasPlace : ∀ x q, am_cal m_R_hasPlace x = some q → am_grow q.2.2 := am_mk_grow (am_cb_gr (fun _ h => absurd h List.not_mem_nil))
theorem h_R_hasPlace : am_grow f_R_hasPlace := am_mf_grow g_R_hasPlace
def y_C_checkJump : MethodName := ⟨"PatchedMachine$Checker", "checkJump", "(LPatchedMachine$Routine;I)V"⟩
def co_C_checkJump : List (Nat × Instr) := [(0, .aload_n 0), (1, .invokevirtual 42), (4, .aload_n 1), (5, .iload_n 2), (6, .invokevirtual 102), (9, .ifCond .ne 8), (12, .aload_n 0), (13, .iconst 1), (14, .putfield 19), (17, .return_)]
def fl_C_checkJump : List (Nat × Nat × Nat × Nat) := [(19, 4, 2, 1)]
def cb_C_checkJump : List (Instr × Nat × Nat × Option Nat × am_F) := [(.invokevirtual 42, 42, 1, (some 4), f_C_needEmpty), (.invokevirtual 102, 102, 2, (some 1), f_R_hasPlace)]
def m_C_checkJump : am_M := am_mk co_C_checkJump fl_C_checkJump (cb_C_checkJump.map (fun z => z.2)) [] [] none 2
def f_C_checkJump : am_F := am_mf m_C_checkJump 3
theorem o_C_checkJump : am_ok m_C_checkJump := am_mk_ok (am_cb_ok (List.forall_mem_cons.mpr ⟨n_C_needEmpty, (List.forall_mem_cons.mpr ⟨n_R_hasPlace, (fun _ h => absurd h List.not_mem_nil)⟩)⟩))
theorem n_C_checkJump : am_mono f_C_checkJump := am_mf_mono o_C_checkJump
theorem g_C_checkJump : ∀ x q, am_cal m_C_checkJump x = some q → am_grow q.2.2 := am_mk_grow (am_cb_gr (List.forall_mem_cons.mpr ⟨h_C_needEmpty, (List.forall_mem_cons.mpr ⟨h_R_hasPlace, (fun _ h => absurd h List.not_mem_nil)⟩)⟩))
theorem h_C_checkJump : am_grow f_C_checkJump := am_mf_grow g_C_checkJump
def y_C_needField : MethodName := ⟨"PatchedMachine$Checker", "needField", "(I)V"⟩
def co_C_needField : List (Nat × Instr) := [(0, .iload_n 1), (1, .iconst (-1)), (2, .if_icmp .ne 8), (5, .aload_n 0), (6, .iconst 1), (7, .putfield 19), (10, .return_)]
def fl_C_needField : List (Nat × Nat × Nat × Nat) := [(19, 4, 2, 1)]
def cb_C_needField : List (Instr × Nat × Nat × Option Nat × am_F) := []
def m_C_needField : am_M := am_mk co_C_needField fl_C_needField (cb_C_needField.map (fun z => z.2)) [] [] none 2
def f_C_needField : am_F := am_mf m_C_needField 2
theorem o_C_needField : am_ok m_C_needField := am_mk_ok (am_cb_ok (fun _ h => absurd h List.not_mem_nil))
theorem n_C_needField : am_mono f_C_needField := am_mf_mono o_C_needField
theorem g_C_needField : ∀ x q, am_cal m_C_needField x = some q → am_grow q.2.2 := am_mk_grow (am_cb_gr (fun _ h => absurd h List.not_mem_nil))
theorem h_C_needField : am_grow f_C_needField := am_mf_grow g_C_needField
def y_C_checkGet : MethodName := ⟨"PatchedMachine$Checker", "checkGet", "(II)V"⟩
def co_C_checkGet : List (Nat × Instr) := [(0, .aload_n 0), (1, .iload_n 1), (2, .invokevirtual 65), (5, .aload_n 0), (6, .iload_n 2), (7, .invokevirtual 105), (10, .aload_n 0), (11, .iload_n 2), (12, .invokevirtual 59), (15, .return_)]
def fl_C_checkGet : List (Nat × Nat × Nat × Nat) := []
def cb_C_checkGet : List (Instr × Nat × Nat × Option Nat × am_F) := [(.invokevirtual 65, 65, 2, (some 4), f_C_take), (.invokevirtual 105, 105, 2, (some 4), f_C_needField), (.invokevirtual 59, 59, 2, (some 4), f_C_put)]
def m_C_checkGet : am_M := am_mk co_C_checkGet fl_C_checkGet (cb_C_checkGet.map (fun z => z.2)) [] [] none 2
def f_C_checkGet : am_F := am_mf m_C_checkGet 3
theorem o_C_checkGet : am_ok m_C_checkGet := am_mk_ok (am_cb_ok (List.forall_mem_cons.mpr ⟨n_C_take, (List.forall_mem_cons.mpr ⟨n_C_needField, (List.forall_mem_cons.mpr ⟨n_C_put, (fun _ h => absurd h List.not_mem_nil)⟩)⟩)⟩))
theorem n_C_checkGet : am_mono f_C_checkGet := am_mf_mono o_C_checkGet
theorem g_C_checkGet : ∀ x q, am_cal m_C_checkGet x = some q → am_grow q.2.2 := am_mk_grow (am_cb_gr (List.forall_mem_cons.mpr ⟨h_C_take, (List.forall_mem_cons.mpr ⟨h_C_needField, (List.forall_mem_cons.mpr ⟨h_C_put, (fun _ h => absurd h List.not_mem_nil)⟩)⟩)⟩))
theorem h_C_checkGet : am_grow f_C_checkGet := am_mf_grow g_C_checkGet
def y_C_checkPut : MethodName := ⟨"PatchedMachine$Checker", "checkPut", "(II)V"⟩
def co_C_checkPut : List (Nat × Instr) := [(0, .aload_n 0), (1, .iload_n 2), (2, .invokevirtual 105), (5, .aload_n 0), (6, .iload_n 2), (7, .invokevirtual 65), (10, .aload_n 0), (11, .iload_n 1), (12, .invokevirtual 65), (15, .return_)]
def fl_C_checkPut : List (Nat × Nat × Nat × Nat) := []
def cb_C_checkPut : List (Instr × Nat × Nat × Option Nat × am_F) := [(.invokevirtual 105, 105, 2, (some 4), f_C_needField), (.invokevirtual 65, 65, 2, (some 4), f_C_take)]
def m_C_checkPut : am_M := am_mk co_C_checkPut fl_C_checkPut (cb_C_checkPut.map (fun z => z.2)) [] [] none 2
def f_C_checkPut : am_F := am_mf m_C_checkPut 3
theorem o_C_checkPut : am_ok m_C_checkPut := am_mk_ok (am_cb_ok (List.forall_mem_cons.mpr ⟨n_C_needField, (List.forall_mem_cons.mpr ⟨n_C_take, (fun _ h => absurd h List.not_mem_nil)⟩)⟩))
theorem n_C_checkPut : am_mono f_C_checkPut := am_mf_mono o_C_checkPut
theorem g_C_checkPut : ∀ x q, am_cal m_C_checkPut x = some q → am_grow q.2.2 := am_mk_grow (am_cb_gr (List.forall_mem_cons.mpr ⟨h_C_needField, (List.forall_mem_cons.mpr ⟨h_C_take, (fun _ h => absurd h List.not_mem_nil)⟩)⟩))
theorem h_C_checkPut : am_grow f_C_checkPut := am_mf_grow g_C_checkPut
def y_R_isDefined : MethodName := ⟨"PatchedMachine$Routine", "isDefined", "()Z"⟩
def co_R_isDefined : List (Nat × Instr) := [(0, .aload_n 0), (1, .getfield 31), (4, .ifCond .le 7), (7, .iconst 1), (8, .goto 4), (11, .iconst 0), (12, .ireturn)]
def fl_R_isDefined : List (Nat × Nat × Nat × Nat) := [(31, 1, 6, 0)]
def cb_R_isDefined : List (Instr × Nat × Nat × Option Nat × am_F) := []
def m_R_isDefined : am_M := am_mk co_R_isDefined fl_R_isDefined (cb_R_isDefined.map (fun z => z.2)) [] [] none 1
def f_R_isDefined : am_F := am_mf m_R_isDefined 1
theorem o_R_isDefined : am_ok m_R_isDefined := am_mk_ok (am_cb_ok (fun _ h => absurd h List.not_mem_nil))
theorem n_R_isDefined : am_mono f_R_isDefined := am_mf_mono o_R_isDefined
theorem g_R_isDefined : ∀ x q, am_cal m_R_isDefined x = some q → am_grow q.2.2 := am_mk_grow (am_cb_gr (fun _ h => absurd h List.not_mem_nil))
theorem h_R_isDefined : am_grow f_R_isDefined := am_mf_grow g_R_isDefined
def y_C_checkCall : MethodName := ⟨"PatchedMachine$Checker", "checkCall", "(LPatchedMachine$Routine;)V"⟩
def co_C_checkCall : List (Nat × Instr) := [(0, .aload_n 1), (1, .invokevirtual 108), (4, .ifCond .ne 8), (7, .aload_n 0), (8, .iconst 1), (9, .putfield 19), (12, .aload_n 1), (13, .getfield 112), (16, .iconst 1), (17, .isub), (18, .istore_n 2), (19, .iload_n 2), (20, .ifCond .lt 19), (23, .aload_n 0), (24, .aload_n 1), (25, .getfield 62), (28, .iload_n 2), (29, .iaload), (30, .invokevirtual 65), (33, .iinc 2 (-1)), (36, .goto (-17)), (39, .aload_n 0), (40, .aload_n 1), (41, .getfield 96), (44, .invokevirtual 59), (47, .return_)]
def fl_C_checkCall : List (Nat × Nat × Nat × Nat) := [(19, 4, 2, 1), (112, 1, 4, 0), (62, 1, 0, 2), (96, 1, 5, 0)]
def cb_C_checkCall : List (Instr × Nat × Nat × Option Nat × am_F) := [(.invokevirtual 108, 108, 1, (some 1), f_R_isDefined), (.invokevirtual 65, 65, 2, (some 4), f_C_take), (.invokevirtual 59, 59, 2, (some 4), f_C_put)]
def m_C_checkCall : am_M := am_mk co_C_checkCall fl_C_checkCall (cb_C_checkCall.map (fun z => z.2)) [] [] none 2
def f_C_checkCall : am_F := am_mf m_C_checkCall 2
theorem o_C_checkCall : am_ok m_C_checkCall := am_mk_ok (am_cb_ok (List.forall_mem_cons.mpr ⟨n_R_isDefined, (List.forall_mem_cons.mpr ⟨n_C_take, (List.forall_mem_cons.mpr ⟨n_C_put, (fun _ h => absurd h List.not_mem_nil)⟩)⟩)⟩))
theorem n_C_checkCall : am_mono f_C_checkCall := am_mf_mono o_C_checkCall
theorem g_C_checkCall : ∀ x q, am_cal m_C_checkCall x = some q → am_grow q.2.2 := am_mk_grow (am_cb_gr (List.forall_mem_cons.mpr ⟨h_R_isDefined, (List.forall_mem_cons.mpr ⟨h_C_take, (List.forall_mem_cons.mpr ⟨h_C_put, (fun _ h => absurd h List.not_mem_nil)⟩)⟩)⟩))
theorem h_C_checkCall : am_grow f_C_checkCall := am_mf_grow g_C_checkCall
def y_C_takeTwoPutInt : MethodName := ⟨"PatchedMachine$Checker", "takeTwoPutInt", "(I)V"⟩
def co_C_takeTwoPutInt : List (Nat × Instr) := [(0, .aload_n 0), (1, .iload_n 1), (2, .invokevirtual 65), (5, .aload_n 0), (6, .iload_n 1), (7, .invokevirtual 65), (10, .aload_n 0), (11, .iconst 0), (12, .invokevirtual 59), (15, .return_)]
def fl_C_takeTwoPutInt : List (Nat × Nat × Nat × Nat) := []
def cb_C_takeTwoPutInt : List (Instr × Nat × Nat × Option Nat × am_F) := [(.invokevirtual 65, 65, 2, (some 4), f_C_take), (.invokevirtual 59, 59, 2, (some 4), f_C_put)]
def m_C_takeTwoPutInt : am_M := am_mk co_C_takeTwoPutInt fl_C_takeTwoPutInt (cb_C_takeTwoPutInt.map (fun z => z.2)) [] [] none 2
def f_C_takeTwoPutInt : am_F := am_mf m_C_takeTwoPutInt 2
theorem o_C_takeTwoPutInt : am_ok m_C_takeTwoPutInt := am_mk_ok (am_cb_ok (List.forall_mem_cons.mpr ⟨n_C_take, (List.forall_mem_cons.mpr ⟨n_C_put, (fun _ h => absurd h List.not_mem_nil)⟩)⟩))
theorem n_C_takeTwoPutInt : am_mono f_C_takeTwoPutInt := am_mf_mono o_C_takeTwoPutInt
theorem g_C_takeTwoPutInt : ∀ x q, am_cal m_C_takeTwoPutInt x = some q → am_grow q.2.2 := am_mk_grow (am_cb_gr (List.forall_mem_cons.mpr ⟨h_C_take, (List.forall_mem_cons.mpr ⟨h_C_put, (fun _ h => absurd h List.not_mem_nil)⟩)⟩))
theorem h_C_takeTwoPutInt : am_grow f_C_takeTwoPutInt := am_mf_grow g_C_takeTwoPutInt
def y_C_check : MethodName := ⟨"PatchedMachine$Checker", "check", "(LPatchedMachine$Routine;ILPatchedMachine$Program;)V"⟩
def co_C_check : List (Nat × Instr) := [(0, .aload_n 1), (1, .getfield 56), (4, .iload_n 2), (5, .iaload), (6, .istore 4), (8, .aload_n 1), (9, .getfield 49), (12, .iload_n 2), (13, .iaload), (14, .tableswitch 248 0 16 #[82, 90, 99, 113, 248, 248, 248, 248, 127, 137, 90, 152, 177, 202, 216, 231, 240]), (96, .aload_n 0), (97, .iconst 0), (98, .invokevirtual 59), (101, .goto 166), (104, .aload_n 0), (105, .iload 4), (107, .invokevirtual 59), (110, .goto 157), (113, .aload_n 0), (114, .aload_n 1), (115, .getfield 62), (118, .iload 4), (120, .iaload), (121, .invokevirtual 59), (124, .goto 143), (127, .aload_n 0), (128, .aload_n 1), (129, .getfield 62), (132, .iload 4), (134, .iaload), (135, .invokevirtual 65), (138, .goto 129), (141, .aload_n 0), (142, .aload_n 1), (143, .iload 4), (145, .invokevirtual 68), (148, .goto 119), (151, .aload_n 0), (152, .iconst 0), (153, .invokevirtual 65), (156, .aload_n 0), (157, .aload_n 1), (158, .iload 4), (160, .invokevirtual 68), (163, .goto 104), (166, .aload_n 0), (167, .iload 4), (169, .aload_n 3), (170, .getfield 72), (173, .iload 4), (175, .aaload), (176, .aload_n 1), (177, .getfield 76), (180, .iload_n 2), (181, .iaload), (182, .invokevirtual 79), (185, .invokevirtual 85), (188, .goto 79), (191, .aload_n 0), (192, .iload 4), (194, .aload_n 3), (195, .getfield 72), (198, .iload 4), (200, .aaload), (201, .aload_n 1), (202, .getfield 76), (205, .iload_n 2), (206, .iaload), (207, .invokevirtual 79), (210, .invokevirtual 89), (213, .goto 54), (216, .aload_n 0), (217, .aload_n 3), (218, .getfield 23), (221, .iload 4), (223, .aaload), (224, .invokevirtual 92), (227, .goto 40), (230, .aload_n 0), (231, .aload_n 1), (232, .getfield 96), (235, .invokevirtual 65), (238, .aload_n 0), (239, .invokevirtual 42), (242, .goto 25), (245, .aload_n 0), (246, .iload 4), (248, .invokevirtual 99), (251, .goto 16), (254, .aload_n 0), (255, .iconst 0), (256, .invokevirtual 65), (259, .goto 8), (262, .aload_n 0), (263, .iconst 0), (264, .invokevirtual 99), (267, .return_)]
def fl_C_check : List (Nat × Nat × Nat × Nat) := [(56, 1, 2, 2), (49, 1, 1, 2), (62, 1, 0, 2), (72, 2, 0, 2), (76, 1, 3, 2), (23, 2, 1, 2), (96, 1, 5, 0)]
def cb_C_check : List (Instr × Nat × Nat × Option Nat × am_F) := [(.invokevirtual 59, 59, 2, (some 4), f_C_put), (.invokevirtual 65, 65, 2, (some 4), f_C_take), (.invokevirtual 68, 68, 3, (some 4), f_C_checkJump), (.invokevirtual 79, 79, 2, (some 0), f_L_typeNamed), (.invokevirtual 85, 85, 3, (some 4), f_C_checkGet), (.invokevirtual 89, 89, 3, (some 4), f_C_checkPut), (.invokevirtual 92, 92, 2, (some 4), f_C_checkCall), (.invokevirtual 42, 42, 1, (some 4), f_C_needEmpty), (.invokevirtual 99, 99, 2, (some 4), f_C_takeTwoPutInt)]
def m_C_check : am_M := am_mk co_C_check fl_C_check (cb_C_check.map (fun z => z.2)) [] [] none 2
def f_C_check : am_F := am_mf m_C_check 4
theorem o_C_check : am_ok m_C_check := am_mk_ok (am_cb_ok (List.forall_mem_cons.mpr ⟨n_C_put, (List.forall_mem_cons.mpr ⟨n_C_take, (List.forall_mem_cons.mpr ⟨n_C_checkJump, (List.forall_mem_cons.mpr ⟨n_L_typeNamed, (List.forall_mem_cons.mpr ⟨n_C_checkGet, (List.forall_mem_cons.mpr ⟨n_C_checkPut, (List.forall_mem_cons.mpr ⟨n_C_checkCall, (List.forall_mem_cons.mpr ⟨n_C_needEmpty, (List.forall_mem_cons.mpr ⟨n_C_takeTwoPutInt, (fun _ h => absurd h List.not_mem_nil)⟩)⟩)⟩)⟩)⟩)⟩)⟩)⟩)⟩))
theorem n_C_check : am_mono f_C_check := am_mf_mono o_C_check
theorem g_C_check : ∀ x q, am_cal m_C_check x = some q → am_grow q.2.2 := am_mk_grow (am_cb_gr (List.forall_mem_cons.mpr ⟨h_C_put, (List.forall_mem_cons.mpr ⟨h_C_take, (List.forall_mem_cons.mpr ⟨h_C_checkJump, (List.forall_mem_cons.mpr ⟨h_L_typeNamed, (List.forall_mem_cons.mpr ⟨h_C_checkGet, (List.forall_mem_cons.mpr ⟨h_C_checkPut, (List.forall_mem_cons.mpr ⟨h_C_checkCall, (List.forall_mem_cons.mpr ⟨h_C_needEmpty, (List.forall_mem_cons.mpr ⟨h_C_takeTwoPutInt, (fun _ h => absurd h List.not_mem_nil)⟩)⟩)⟩)⟩)⟩)⟩)⟩)⟩)⟩))
theorem h_C_check : am_grow f_C_check := am_mf_grow g_C_check
def y_C_needNoWayOut : MethodName := ⟨"PatchedMachine$Checker", "needNoWayOut", "(I)V"⟩
def co_C_needNoWayOut : List (Nat × Instr) := [(0, .iload_n 1), (1, .bipush 8), (3, .if_icmp .eq 14), (6, .iload_n 1), (7, .bipush 14), (9, .if_icmp .eq 8), (12, .aload_n 0), (13, .iconst 1), (14, .putfield 19), (17, .return_)]
def fl_C_needNoWayOut : List (Nat × Nat × Nat × Nat) := [(19, 4, 2, 1)]
def cb_C_needNoWayOut : List (Instr × Nat × Nat × Option Nat × am_F) := []
def m_C_needNoWayOut : am_M := am_mk co_C_needNoWayOut fl_C_needNoWayOut (cb_C_needNoWayOut.map (fun z => z.2)) [] [] none 2
def f_C_needNoWayOut : am_F := am_mf m_C_needNoWayOut 2
theorem o_C_needNoWayOut : am_ok m_C_needNoWayOut := am_mk_ok (am_cb_ok (fun _ h => absurd h List.not_mem_nil))
theorem n_C_needNoWayOut : am_mono f_C_needNoWayOut := am_mf_mono o_C_needNoWayOut
theorem g_C_needNoWayOut : ∀ x q, am_cal m_C_needNoWayOut x = some q → am_grow q.2.2 := am_mk_grow (am_cb_gr (fun _ h => absurd h List.not_mem_nil))
theorem h_C_needNoWayOut : am_grow f_C_needNoWayOut := am_mf_grow g_C_needNoWayOut
def y_C_firstBadPlaceOf : MethodName := ⟨"PatchedMachine$Checker", "firstBadPlaceOf", "(LPatchedMachine$Routine;LPatchedMachine$Program;)I"⟩
def co_C_firstBadPlaceOf : List (Nat × Instr) := [(0, .aload_n 0), (1, .iconst 0), (2, .putfield 15), (5, .aload_n 0), (6, .iconst 0), (7, .putfield 19), (10, .iconst 0), (11, .istore_n 3), (12, .iload_n 3), (13, .aload_n 1), (14, .getfield 33), (17, .if_icmp .ge 57), (20, .aload_n 1), (21, .iload_n 3), (22, .invokevirtual 38), (25, .ifCond .eq 7), (28, .aload_n 0), (29, .invokevirtual 42), (32, .aload_n 0), (33, .aload_n 1), (34, .iload_n 3), (35, .aload_n 2), (36, .invokevirtual 45), (39, .iload_n 3), (40, .aload_n 1), (41, .getfield 33), (44, .iconst 1), (45, .isub), (46, .if_icmp .ne 13), (49, .aload_n 0), (50, .aload_n 1), (51, .getfield 49), (54, .iload_n 3), (55, .iaload), (56, .invokevirtual 52), (59, .aload_n 0), (60, .getfield 19), (63, .ifCond .eq 5), (66, .iload_n 3), (67, .ireturn), (68, .iinc 3 1), (71, .goto (-59)), (74, .iconst (-1)), (75, .ireturn)]
def fl_C_firstBadPlaceOf : List (Nat × Nat × Nat × Nat) := [(15, 4, 1, 0), (19, 4, 2, 1), (33, 1, 6, 0), (49, 1, 1, 2)]
def cb_C_firstBadPlaceOf : List (Instr × Nat × Nat × Option Nat × am_F) := [(.invokevirtual 38, 38, 2, (some 1), f_R_jumpsTo), (.invokevirtual 42, 42, 1, (some 4), f_C_needEmpty), (.invokevirtual 45, 45, 4, (some 4), f_C_check), (.invokevirtual 52, 52, 2, (some 4), f_C_needNoWayOut)]
def m_C_firstBadPlaceOf : am_M := am_mk co_C_firstBadPlaceOf fl_C_firstBadPlaceOf (cb_C_firstBadPlaceOf.map (fun z => z.2)) [] [] none 0
def f_C_firstBadPlaceOf : am_F := am_mf m_C_firstBadPlaceOf 3
theorem o_C_firstBadPlaceOf : am_ok m_C_firstBadPlaceOf := am_mk_ok (am_cb_ok (List.forall_mem_cons.mpr ⟨n_R_jumpsTo, (List.forall_mem_cons.mpr ⟨n_C_needEmpty, (List.forall_mem_cons.mpr ⟨n_C_check, (List.forall_mem_cons.mpr ⟨n_C_needNoWayOut, (fun _ h => absurd h List.not_mem_nil)⟩)⟩)⟩)⟩))
theorem n_C_firstBadPlaceOf : am_mono f_C_firstBadPlaceOf := am_mf_mono o_C_firstBadPlaceOf
theorem g_C_firstBadPlaceOf : ∀ x q, am_cal m_C_firstBadPlaceOf x = some q → am_grow q.2.2 := am_mk_grow (am_cb_gr (List.forall_mem_cons.mpr ⟨h_R_jumpsTo, (List.forall_mem_cons.mpr ⟨h_C_needEmpty, (List.forall_mem_cons.mpr ⟨h_C_check, (List.forall_mem_cons.mpr ⟨h_C_needNoWayOut, (fun _ h => absurd h List.not_mem_nil)⟩)⟩)⟩)⟩))
theorem h_C_firstBadPlaceOf : am_grow f_C_firstBadPlaceOf := am_mf_grow g_C_firstBadPlaceOf
def y_C_firstBadPlace : MethodName := ⟨"PatchedMachine$Checker", "firstBadPlace", "(LPatchedMachine$Program;)I"⟩
def co_C_firstBadPlace : List (Nat × Instr) := [(0, .iconst 0), (1, .istore_n 2), (2, .iload_n 2), (3, .bipush 6), (5, .if_icmp .ge 33), (8, .aload_n 0), (9, .aload_n 1), (10, .getfield 23), (13, .iload_n 2), (14, .aaload), (15, .aload_n 1), (16, .invokevirtual 29), (19, .istore_n 3), (20, .iload_n 3), (21, .iconst (-1)), (22, .if_icmp .eq 10), (25, .bipush 100), (27, .iload_n 2), (28, .imul), (29, .iload_n 3), (30, .iadd), (31, .ireturn), (32, .iinc 2 1), (35, .goto (-33)), (38, .iconst (-1)), (39, .ireturn)]
def fl_C_firstBadPlace : List (Nat × Nat × Nat × Nat) := [(23, 2, 1, 2)]
def cb_C_firstBadPlace : List (Instr × Nat × Nat × Option Nat × am_F) := [(.invokevirtual 29, 29, 3, (some 4), f_C_firstBadPlaceOf)]
def m_C_firstBadPlace : am_M := am_mk co_C_firstBadPlace fl_C_firstBadPlace (cb_C_firstBadPlace.map (fun z => z.2)) [] [] none 0
def f_C_firstBadPlace : am_F := am_mf m_C_firstBadPlace 2
theorem o_C_firstBadPlace : am_ok m_C_firstBadPlace := am_mk_ok (am_cb_ok (List.forall_mem_cons.mpr ⟨n_C_firstBadPlaceOf, (fun _ h => absurd h List.not_mem_nil)⟩))
theorem n_C_firstBadPlace : am_mono f_C_firstBadPlace := am_mf_mono o_C_firstBadPlace
theorem g_C_firstBadPlace : ∀ x q, am_cal m_C_firstBadPlace x = some q → am_grow q.2.2 := am_mk_grow (am_cb_gr (List.forall_mem_cons.mpr ⟨h_C_firstBadPlaceOf, (fun _ h => absurd h List.not_mem_nil)⟩))
theorem h_C_firstBadPlace : am_grow f_C_firstBadPlace := am_mf_grow g_C_firstBadPlace
def y_R_isCalledLike : MethodName := ⟨"PatchedMachine$Routine", "isCalledLike", "(LPatchedMachine$Routine;)Z"⟩
def co_R_isCalledLike : List (Nat × Instr) := [(0, .aload_n 0), (1, .getfield 24), (4, .aload_n 1), (5, .getfield 24), (8, .if_icmp .ne 14), (11, .aload_n 0), (12, .getfield 28), (15, .aload_n 1), (16, .getfield 28), (19, .if_icmp .eq 5), (22, .iconst 0), (23, .ireturn), (24, .iconst 0), (25, .istore_n 2), (26, .iload_n 2), (27, .aload_n 0), (28, .getfield 24), (31, .if_icmp .ge 26), (34, .aload_n 0), (35, .getfield 9), (38, .iload_n 2), (39, .iaload), (40, .aload_n 1), (41, .getfield 9), (44, .iload_n 2), (45, .iaload), (46, .if_icmp .eq 5), (49, .iconst 0), (50, .ireturn), (51, .iinc 2 1), (54, .goto (-28)), (57, .iconst 1), (58, .ireturn)]
def fl_R_isCalledLike : List (Nat × Nat × Nat × Nat) := [(24, 1, 4, 0), (28, 1, 5, 0), (9, 1, 0, 2)]
def cb_R_isCalledLike : List (Instr × Nat × Nat × Option Nat × am_F) := []
def m_R_isCalledLike : am_M := am_mk co_R_isCalledLike fl_R_isCalledLike (cb_R_isCalledLike.map (fun z => z.2)) [] [] none 1
def f_R_isCalledLike : am_F := am_mf m_R_isCalledLike 2
theorem o_R_isCalledLike : am_ok m_R_isCalledLike := am_mk_ok (am_cb_ok (fun _ h => absurd h List.not_mem_nil))
theorem n_R_isCalledLike : am_mono f_R_isCalledLike := am_mf_mono o_R_isCalledLike
theorem g_R_isCalledLike : ∀ x q, am_cal m_R_isCalledLike x = some q → am_grow q.2.2 := am_mk_grow (am_cb_gr (fun _ h => absurd h List.not_mem_nil))
theorem h_R_isCalledLike : am_grow f_R_isCalledLike := am_mf_grow g_R_isCalledLike
def y_P_methodsCalledOtherwise : MethodName := ⟨"PatchedMachine$Program", "methodsCalledOtherwise", "(LPatchedMachine$Program;)I"⟩
def co_P_methodsCalledOtherwise : List (Nat × Instr) := [(0, .iconst 0), (1, .istore_n 2), (2, .iconst 0), (3, .istore_n 3), (4, .iload_n 3), (5, .bipush 6), (7, .if_icmp .ge 33), (10, .aload_n 0), (11, .getfield 19), (14, .iload_n 3), (15, .aaload), (16, .aload_n 1), (17, .getfield 19), (20, .iload_n 3), (21, .aaload), (22, .invokevirtual 63), (25, .ifCond .ne 9), (28, .iload_n 2), (29, .iconst 1), (30, .iload_n 3), (31, .ishl), (32, .ior), (33, .istore_n 2), (34, .iinc 3 1), (37, .goto (-33)), (40, .iload_n 2), (41, .ireturn)]
def fl_P_methodsCalledOtherwise : List (Nat × Nat × Nat × Nat) := [(19, 2, 1, 2)]
def cb_P_methodsCalledOtherwise : List (Instr × Nat × Nat × Option Nat × am_F) := [(.invokevirtual 63, 63, 2, (some 1), f_R_isCalledLike)]
def m_P_methodsCalledOtherwise : am_M := am_mk co_P_methodsCalledOtherwise fl_P_methodsCalledOtherwise (cb_P_methodsCalledOtherwise.map (fun z => z.2)) [] [] none 0
def f_P_methodsCalledOtherwise : am_F := am_mf m_P_methodsCalledOtherwise 2
theorem o_P_methodsCalledOtherwise : am_ok m_P_methodsCalledOtherwise := am_mk_ok (am_cb_ok (List.forall_mem_cons.mpr ⟨n_R_isCalledLike, (fun _ h => absurd h List.not_mem_nil)⟩))
theorem n_P_methodsCalledOtherwise : am_mono f_P_methodsCalledOtherwise := am_mf_mono o_P_methodsCalledOtherwise
theorem g_P_methodsCalledOtherwise : ∀ x q, am_cal m_P_methodsCalledOtherwise x = some q → am_grow q.2.2 := am_mk_grow (am_cb_gr (List.forall_mem_cons.mpr ⟨h_R_isCalledLike, (fun _ h => absurd h List.not_mem_nil)⟩))
theorem h_P_methodsCalledOtherwise : am_grow f_P_methodsCalledOtherwise := am_mf_grow g_P_methodsCalledOtherwise
def y_R_usesOneOfClasses : MethodName := ⟨"PatchedMachine$Routine", "usesOneOfClasses", "(I)Z"⟩
def co_R_usesOneOfClasses : List (Nat × Instr) := [(0, .iconst 0), (1, .istore_n 2), (2, .iload_n 2), (3, .aload_n 0), (4, .getfield 31), (7, .if_icmp .ge 67), (10, .aload_n 0), (11, .getfield 15), (14, .iload_n 2), (15, .iaload), (16, .bipush 10), (18, .if_icmp .eq 25), (21, .aload_n 0), (22, .getfield 15), (25, .iload_n 2), (26, .iaload), (27, .bipush 11), (29, .if_icmp .eq 14), (32, .aload_n 0), (33, .getfield 15), (36, .iload_n 2), (37, .iaload), (38, .bipush 12), (40, .if_icmp .ne 7), (43, .iconst 1), (44, .goto 4), (47, .iconst 0), (48, .istore_n 3), (49, .iload_n 3), (50, .ifCond .eq 18), (53, .iload_n 1), (54, .aload_n 0), (55, .getfield 18), (58, .iload_n 2), (59, .iaload), (60, .ishr), (61, .iconst 1), (62, .iand), (63, .ifCond .eq 5), (66, .iconst 1), (67, .ireturn), (68, .iinc 2 1), (71, .goto (-69)), (74, .iconst 0), (75, .ireturn)]
def fl_R_usesOneOfClasses : List (Nat × Nat × Nat × Nat) := [(31, 1, 6, 0), (15, 1, 1, 2), (18, 1, 2, 2)]
def cb_R_usesOneOfClasses : List (Instr × Nat × Nat × Option Nat × am_F) := []
def m_R_usesOneOfClasses : am_M := am_mk co_R_usesOneOfClasses fl_R_usesOneOfClasses (cb_R_usesOneOfClasses.map (fun z => z.2)) [] [] none 1
def f_R_usesOneOfClasses : am_F := am_mf m_R_usesOneOfClasses 2
theorem o_R_usesOneOfClasses : am_ok m_R_usesOneOfClasses := am_mk_ok (am_cb_ok (fun _ h => absurd h List.not_mem_nil))
theorem n_R_usesOneOfClasses : am_mono f_R_usesOneOfClasses := am_mf_mono o_R_usesOneOfClasses
theorem g_R_usesOneOfClasses : ∀ x q, am_cal m_R_usesOneOfClasses x = some q → am_grow q.2.2 := am_mk_grow (am_cb_gr (fun _ h => absurd h List.not_mem_nil))
theorem h_R_usesOneOfClasses : am_grow f_R_usesOneOfClasses := am_mf_grow g_R_usesOneOfClasses
def y_R_callsOneOfMethods : MethodName := ⟨"PatchedMachine$Routine", "callsOneOfMethods", "(I)Z"⟩
def co_R_callsOneOfMethods : List (Nat × Instr) := [(0, .iconst 0), (1, .istore_n 2), (2, .iload_n 2), (3, .aload_n 0), (4, .getfield 31), (7, .if_icmp .ge 35), (10, .aload_n 0), (11, .getfield 15), (14, .iload_n 2), (15, .iaload), (16, .bipush 13), (18, .if_icmp .ne 18), (21, .iload_n 1), (22, .aload_n 0), (23, .getfield 18), (26, .iload_n 2), (27, .iaload), (28, .ishr), (29, .iconst 1), (30, .iand), (31, .ifCond .eq 5), (34, .iconst 1), (35, .ireturn), (36, .iinc 2 1), (39, .goto (-37)), (42, .iconst 0), (43, .ireturn)]
def fl_R_callsOneOfMethods : List (Nat × Nat × Nat × Nat) := [(31, 1, 6, 0), (15, 1, 1, 2), (18, 1, 2, 2)]
def cb_R_callsOneOfMethods : List (Instr × Nat × Nat × Option Nat × am_F) := []
def m_R_callsOneOfMethods : am_M := am_mk co_R_callsOneOfMethods fl_R_callsOneOfMethods (cb_R_callsOneOfMethods.map (fun z => z.2)) [] [] none 1
def f_R_callsOneOfMethods : am_F := am_mf m_R_callsOneOfMethods 2
theorem o_R_callsOneOfMethods : am_ok m_R_callsOneOfMethods := am_mk_ok (am_cb_ok (fun _ h => absurd h List.not_mem_nil))
theorem n_R_callsOneOfMethods : am_mono f_R_callsOneOfMethods := am_mf_mono o_R_callsOneOfMethods
theorem g_R_callsOneOfMethods : ∀ x q, am_cal m_R_callsOneOfMethods x = some q → am_grow q.2.2 := am_mk_grow (am_cb_gr (fun _ h => absurd h List.not_mem_nil))
theorem h_R_callsOneOfMethods : am_grow f_R_callsOneOfMethods := am_mf_grow g_R_callsOneOfMethods
def y_P_restrict : MethodName := ⟨"PatchedMachine$Program", "restrict", "(LPatchedMachine$Program;)V"⟩
def co_P_restrict : List (Nat × Instr) := [(0, .aload_n 0), (1, .aload_n 1), (2, .invokevirtual 52), (5, .istore_n 2), (6, .aload_n 0), (7, .aload_n 0), (8, .getfield 27), (11, .putfield 30), (14, .iconst 0), (15, .istore_n 3), (16, .iload_n 3), (17, .bipush 6), (19, .if_icmp .ge 50), (22, .aload_n 1), (23, .getfield 19), (26, .iload_n 3), (27, .aaload), (28, .astore 4), (30, .aload 4), (32, .aload_n 0), (33, .getfield 23), (36, .invokevirtual 56), (39, .ifCond .ne 12), (42, .aload 4), (44, .iload_n 2), (45, .invokevirtual 60), (48, .ifCond .eq 15), (51, .aload_n 0), (52, .dup), (53, .getfield 30), (56, .iconst 1), (57, .iload_n 3), (58, .ishl), (59, .ior), (60, .putfield 30), (63, .iinc 3 1), (66, .goto (-50)), (69, .return_)]
def fl_P_restrict : List (Nat × Nat × Nat × Nat) := [(27, 2, 3, 0), (30, 2, 4, 0), (19, 2, 1, 2), (23, 2, 2, 0)]
def cb_P_restrict : List (Instr × Nat × Nat × Option Nat × am_F) := [(.invokevirtual 52, 52, 2, (some 2), f_P_methodsCalledOtherwise), (.invokevirtual 56, 56, 2, (some 1), f_R_usesOneOfClasses), (.invokevirtual 60, 60, 2, (some 1), f_R_callsOneOfMethods)]
def m_P_restrict : am_M := am_mk co_P_restrict fl_P_restrict (cb_P_restrict.map (fun z => z.2)) [] [] none 2
def f_P_restrict : am_F := am_mf m_P_restrict 2
theorem o_P_restrict : am_ok m_P_restrict := am_mk_ok (am_cb_ok (List.forall_mem_cons.mpr ⟨n_P_methodsCalledOtherwise, (List.forall_mem_cons.mpr ⟨n_R_usesOneOfClasses, (List.forall_mem_cons.mpr ⟨n_R_callsOneOfMethods, (fun _ h => absurd h List.not_mem_nil)⟩)⟩)⟩))
theorem n_P_restrict : am_mono f_P_restrict := am_mf_mono o_P_restrict
theorem g_P_restrict : ∀ x q, am_cal m_P_restrict x = some q → am_grow q.2.2 := am_mk_grow (am_cb_gr (List.forall_mem_cons.mpr ⟨h_P_methodsCalledOtherwise, (List.forall_mem_cons.mpr ⟨h_R_usesOneOfClasses, (List.forall_mem_cons.mpr ⟨h_R_callsOneOfMethods, (fun _ h => absurd h List.not_mem_nil)⟩)⟩)⟩))
theorem h_P_restrict : am_grow f_P_restrict := am_mf_grow g_P_restrict
def y_Q_add : MethodName := ⟨"PatchedMachine$PatchLine", "add", "(LPatchedMachine$Program;)V"⟩
def co_Q_add : List (Nat × Instr) := [(0, .aload_n 0), (1, .invokevirtual 25), (4, .ifCond .eq 4), (7, .return_), (8, .aload_n 0), (9, .dup), (10, .getfield 21), (13, .iconst 1), (14, .iadd), (15, .putfield 21), (18, .aload_n 0), (19, .invokevirtual 29), (22, .aload_n 1), (23, .invokevirtual 33), (26, .return_)]
def fl_Q_add : List (Nat × Nat × Nat × Nat) := [(21, 3, 2, 0)]
def cb_Q_add : List (Instr × Nat × Nat × Option Nat × am_F) := [(.invokevirtual 25, 25, 1, (some 3), f_Q_isFull), (.invokevirtual 29, 29, 1, (some 3), f_Q_newest), (.invokevirtual 33, 33, 2, (some 2), f_P_copy)]
def m_Q_add : am_M := am_mk co_Q_add fl_Q_add (cb_Q_add.map (fun z => z.2)) [] [] none 2
def f_Q_add : am_F := am_mf m_Q_add 2
theorem o_Q_add : am_ok m_Q_add := am_mk_ok (am_cb_ok (List.forall_mem_cons.mpr ⟨n_Q_isFull, (List.forall_mem_cons.mpr ⟨n_Q_newest, (List.forall_mem_cons.mpr ⟨n_P_copy, (fun _ h => absurd h List.not_mem_nil)⟩)⟩)⟩))
theorem n_Q_add : am_mono f_Q_add := am_mf_mono o_Q_add
theorem g_Q_add : ∀ x q, am_cal m_Q_add x = some q → am_grow q.2.2 := am_mk_grow (am_cb_gr (List.forall_mem_cons.mpr ⟨h_Q_isFull, (List.forall_mem_cons.mpr ⟨h_Q_newest, (List.forall_mem_cons.mpr ⟨h_P_copy, (fun _ h => absurd h List.not_mem_nil)⟩)⟩)⟩))
theorem h_Q_add : am_grow f_Q_add := am_mf_grow g_Q_add
def y_Q_firstWaiting : MethodName := ⟨"PatchedMachine$PatchLine", "firstWaiting", "()LPatchedMachine$Program;"⟩
def co_Q_firstWaiting : List (Nat × Instr) := [(0, .aload_n 0), (1, .getfield 13), (4, .aload_n 0), (5, .getfield 17), (8, .iconst 1), (9, .iadd), (10, .iconst 4), (11, .irem), (12, .aaload), (13, .areturn)]
def fl_Q_firstWaiting : List (Nat × Nat × Nat × Nat) := [(13, 3, 0, 2), (17, 3, 1, 0)]
def cb_Q_firstWaiting : List (Instr × Nat × Nat × Option Nat × am_F) := []
def m_Q_firstWaiting : am_M := am_mk co_Q_firstWaiting fl_Q_firstWaiting (cb_Q_firstWaiting.map (fun z => z.2)) [] [] none 3
def f_Q_firstWaiting : am_F := am_mf m_Q_firstWaiting 1
theorem o_Q_firstWaiting : am_ok m_Q_firstWaiting := am_mk_ok (am_cb_ok (fun _ h => absurd h List.not_mem_nil))
theorem n_Q_firstWaiting : am_mono f_Q_firstWaiting := am_mf_mono o_Q_firstWaiting
theorem g_Q_firstWaiting : ∀ x q, am_cal m_Q_firstWaiting x = some q → am_grow q.2.2 := am_mk_grow (am_cb_gr (fun _ h => absurd h List.not_mem_nil))
theorem h_Q_firstWaiting : am_grow f_Q_firstWaiting := am_mf_grow g_Q_firstWaiting
def y_U_hasFrameOfOneOf : MethodName := ⟨"PatchedMachine$Runner", "hasFrameOfOneOf", "(I)Z"⟩
def co_U_hasFrameOfOneOf : List (Nat × Instr) := [(0, .iconst 0), (1, .istore_n 2), (2, .iload_n 2), (3, .aload_n 0), (4, .getfield 31), (7, .if_icmp .ge 27), (10, .iload_n 1), (11, .aload_n 0), (12, .getfield 11), (15, .iload_n 2), (16, .aaload), (17, .getfield 46), (20, .ishr), (21, .iconst 1), (22, .iand), (23, .ifCond .eq 5), (26, .iconst 1), (27, .ireturn), (28, .iinc 2 1), (31, .goto (-29)), (34, .iconst 0), (35, .ireturn)]
def fl_U_hasFrameOfOneOf : List (Nat × Nat × Nat × Nat) := [(31, 8, 3, 0), (11, 8, 0, 2), (46, 7, 4, 0)]
def cb_U_hasFrameOfOneOf : List (Instr × Nat × Nat × Option Nat × am_F) := []
def m_U_hasFrameOfOneOf : am_M := am_mk co_U_hasFrameOfOneOf fl_U_hasFrameOfOneOf (cb_U_hasFrameOfOneOf.map (fun z => z.2)) [] [] none 1
def f_U_hasFrameOfOneOf : am_F := am_mf m_U_hasFrameOfOneOf 2
theorem o_U_hasFrameOfOneOf : am_ok m_U_hasFrameOfOneOf := am_mk_ok (am_cb_ok (fun _ h => absurd h List.not_mem_nil))
theorem n_U_hasFrameOfOneOf : am_mono f_U_hasFrameOfOneOf := am_mf_mono o_U_hasFrameOfOneOf
theorem g_U_hasFrameOfOneOf : ∀ x q, am_cal m_U_hasFrameOfOneOf x = some q → am_grow q.2.2 := am_mk_grow (am_cb_gr (fun _ h => absurd h List.not_mem_nil))
theorem h_U_hasFrameOfOneOf : am_grow f_U_hasFrameOfOneOf := am_mf_grow g_U_hasFrameOfOneOf
def y_Q_present : MethodName := ⟨"PatchedMachine$PatchLine", "present", "()LPatchedMachine$Program;"⟩
def co_Q_present : List (Nat × Instr) := [(0, .aload_n 0), (1, .getfield 13), (4, .aload_n 0), (5, .getfield 17), (8, .aaload), (9, .areturn)]
def fl_Q_present : List (Nat × Nat × Nat × Nat) := [(13, 3, 0, 2), (17, 3, 1, 0)]
def cb_Q_present : List (Instr × Nat × Nat × Option Nat × am_F) := []
def m_Q_present : am_M := am_mk co_Q_present fl_Q_present (cb_Q_present.map (fun z => z.2)) [] [] none 3
def f_Q_present : am_F := am_mf m_Q_present 1
theorem o_Q_present : am_ok m_Q_present := am_mk_ok (am_cb_ok (fun _ h => absurd h List.not_mem_nil))
theorem n_Q_present : am_mono f_Q_present := am_mf_mono o_Q_present
theorem g_Q_present : ∀ x q, am_cal m_Q_present x = some q → am_grow q.2.2 := am_mk_grow (am_cb_gr (fun _ h => absurd h List.not_mem_nil))
theorem h_Q_present : am_grow f_Q_present := am_mf_grow g_Q_present
def y_H_beginCollection : MethodName := ⟨"PatchedMachine$Heap", "beginCollection", "()V"⟩
def co_H_beginCollection : List (Nat × Instr) := [(0, .aload_n 0), (1, .iconst 0), (2, .putfield 30), (5, .iconst 0), (6, .istore_n 1), (7, .iload_n 1), (8, .bipush 16), (10, .if_icmp .ge 16), (13, .aload_n 0), (14, .getfield 23), (17, .iload_n 1), (18, .iconst 0), (19, .bastore), (20, .iinc 1 1), (23, .goto (-16)), (26, .return_)]
def fl_H_beginCollection : List (Nat × Nat × Nat × Nat) := [(30, 5, 5, 0), (23, 5, 3, 2)]
def cb_H_beginCollection : List (Instr × Nat × Nat × Option Nat × am_F) := []
def m_H_beginCollection : am_M := am_mk co_H_beginCollection fl_H_beginCollection (cb_H_beginCollection.map (fun z => z.2)) [] [] none 2
def f_H_beginCollection : am_F := am_mf m_H_beginCollection 1
theorem o_H_beginCollection : am_ok m_H_beginCollection := am_mk_ok (am_cb_ok (fun _ h => absurd h List.not_mem_nil))
theorem n_H_beginCollection : am_mono f_H_beginCollection := am_mf_mono o_H_beginCollection
theorem g_H_beginCollection : ∀ x q, am_cal m_H_beginCollection x = some q → am_grow q.2.2 := am_mk_grow (am_cb_gr (fun _ h => absurd h List.not_mem_nil))
theorem h_H_beginCollection : am_grow f_H_beginCollection := am_mf_grow g_H_beginCollection
def y_H_reach : MethodName := ⟨"PatchedMachine$Heap", "reach", "(II)V"⟩
def co_H_reach : List (Nat × Instr) := [(0, .iload_n 2), (1, .ifCond .eq 25), (4, .iload_n 1), (5, .iconst 1), (6, .if_icmp .lt 20), (9, .iload_n 1), (10, .bipush 16), (12, .if_icmp .gt 14), (15, .aload_n 0), (16, .getfield 23), (19, .iload_n 1), (20, .iconst 1), (21, .isub), (22, .baload), (23, .ifCond .eq 4), (26, .return_), (27, .aload_n 0), (28, .getfield 23), (31, .iload_n 1), (32, .iconst 1), (33, .isub), (34, .iconst 1), (35, .bastore), (36, .aload_n 0), (37, .getfield 27), (40, .aload_n 0), (41, .getfield 30), (44, .iload_n 1), (45, .iconst 1), (46, .isub), (47, .iastore), (48, .aload_n 0), (49, .dup), (50, .getfield 30), (53, .iconst 1), (54, .iadd), (55, .putfield 30), (58, .return_)]
def fl_H_reach : List (Nat × Nat × Nat × Nat) := [(23, 5, 3, 2), (27, 5, 4, 2), (30, 5, 5, 0)]
def cb_H_reach : List (Instr × Nat × Nat × Option Nat × am_F) := []
def m_H_reach : am_M := am_mk co_H_reach fl_H_reach (cb_H_reach.map (fun z => z.2)) [] [] none 2
def f_H_reach : am_F := am_mf m_H_reach 3
theorem o_H_reach : am_ok m_H_reach := am_mk_ok (am_cb_ok (fun _ h => absurd h List.not_mem_nil))
theorem n_H_reach : am_mono f_H_reach := am_mf_mono o_H_reach
theorem g_H_reach : ∀ x q, am_cal m_H_reach x = some q → am_grow q.2.2 := am_mk_grow (am_cb_gr (fun _ h => absurd h List.not_mem_nil))
theorem h_H_reach : am_grow f_H_reach := am_mf_grow g_H_reach
def y_U_reachFrom : MethodName := ⟨"PatchedMachine$Runner", "reachFrom", "(LPatchedMachine$Frame;LPatchedMachine$Routine;)V"⟩
def co_U_reachFrom : List (Nat × Instr) := [(0, .iconst 0), (1, .istore_n 3), (2, .iload_n 3), (3, .iconst 4), (4, .if_icmp .ge 28), (7, .aload_n 0), (8, .getfield 20), (11, .aload_n 1), (12, .getfield 90), (15, .iload_n 3), (16, .iaload), (17, .aload_n 2), (18, .getfield 93), (21, .iload_n 3), (22, .iaload), (23, .invokevirtual 175), (26, .iinc 3 1), (29, .goto (-27)), (32, .iconst 0), (33, .istore_n 3), (34, .iload_n 3), (35, .aload_n 1), (36, .getfield 178), (39, .if_icmp .ge 28), (42, .aload_n 0), (43, .getfield 20), (46, .aload_n 1), (47, .getfield 181), (50, .iload_n 3), (51, .iaload), (52, .aload_n 1), (53, .getfield 184), (56, .iload_n 3), (57, .iaload), (58, .invokevirtual 175), (61, .iinc 3 1), (64, .goto (-30)), (67, .return_)]
def fl_U_reachFrom : List (Nat × Nat × Nat × Nat) := [(20, 8, 1, 2), (90, 7, 0, 2), (93, 1, 0, 2), (178, 7, 3, 0), (181, 7, 1, 2), (184, 7, 2, 2)]
def cb_U_reachFrom : List (Instr × Nat × Nat × Option Nat × am_F) := [(.invokevirtual 175, 175, 3, (some 5), f_H_reach)]
def m_U_reachFrom : am_M := am_mk co_U_reachFrom fl_U_reachFrom (cb_U_reachFrom.map (fun z => z.2)) [] [] none 2
def f_U_reachFrom : am_F := am_mf m_U_reachFrom 3
theorem o_U_reachFrom : am_ok m_U_reachFrom := am_mk_ok (am_cb_ok (List.forall_mem_cons.mpr ⟨n_H_reach, (fun _ h => absurd h List.not_mem_nil)⟩))
theorem n_U_reachFrom : am_mono f_U_reachFrom := am_mf_mono o_U_reachFrom
theorem g_U_reachFrom : ∀ x q, am_cal m_U_reachFrom x = some q → am_grow q.2.2 := am_mk_grow (am_cb_gr (List.forall_mem_cons.mpr ⟨h_H_reach, (fun _ h => absurd h List.not_mem_nil)⟩))
theorem h_U_reachFrom : am_grow f_U_reachFrom := am_mf_grow g_U_reachFrom
def y_H_reachOverFields : MethodName := ⟨"PatchedMachine$Heap", "reachOverFields", "(LPatchedMachine$Program;)V"⟩
def co_H_reachOverFields : List (Nat × Instr) := [(0, .iconst 0), (1, .istore_n 2), (2, .iload_n 2), (3, .aload_n 0), (4, .getfield 30), (7, .if_icmp .ge 75), (10, .iload_n 2), (11, .bipush 16), (13, .if_icmp .ge 69), (16, .aload_n 0), (17, .getfield 27), (20, .iload_n 2), (21, .iaload), (22, .istore_n 3), (23, .aload_n 1), (24, .getfield 48), (27, .aload_n 0), (28, .getfield 9), (31, .iload_n 3), (32, .iaload), (33, .aaload), (34, .astore 4), (36, .iconst 0), (37, .istore 5), (39, .iload 5), (41, .aload 4), (43, .getfield 54), (46, .if_icmp .ge 30), (49, .aload_n 0), (50, .aload_n 0), (51, .getfield 17), (54, .iload_n 3), (55, .aaload), (56, .iload 5), (58, .iaload), (59, .aload 4), (61, .getfield 59), (64, .iload 5), (66, .iaload), (67, .invokevirtual 62), (70, .iinc 5 1), (73, .goto (-34)), (76, .iinc 2 1), (79, .goto (-77)), (82, .return_)]
def fl_H_reachOverFields : List (Nat × Nat × Nat × Nat) := [(30, 5, 5, 0), (27, 5, 4, 2), (48, 2, 0, 2), (9, 5, 0, 2), (54, 0, 3, 0), (17, 5, 1, 2), (59, 0, 1, 2)]
def cb_H_reachOverFields : List (Instr × Nat × Nat × Option Nat × am_F) := [(.invokevirtual 62, 62, 3, (some 5), f_H_reach)]
def m_H_reachOverFields : am_M := am_mk co_H_reachOverFields fl_H_reachOverFields (cb_H_reachOverFields.map (fun z => z.2)) [] [] none 2
def f_H_reachOverFields : am_F := am_mf m_H_reachOverFields 2
theorem o_H_reachOverFields : am_ok m_H_reachOverFields := am_mk_ok (am_cb_ok (List.forall_mem_cons.mpr ⟨n_H_reach, (fun _ h => absurd h List.not_mem_nil)⟩))
theorem n_H_reachOverFields : am_mono f_H_reachOverFields := am_mf_mono o_H_reachOverFields
theorem g_H_reachOverFields : ∀ x q, am_cal m_H_reachOverFields x = some q → am_grow q.2.2 := am_mk_grow (am_cb_gr (List.forall_mem_cons.mpr ⟨h_H_reach, (fun _ h => absurd h List.not_mem_nil)⟩))
theorem h_H_reachOverFields : am_grow f_H_reachOverFields := am_mf_grow g_H_reachOverFields
def y_H_takeAwayTheRest : MethodName := ⟨"PatchedMachine$Heap", "takeAwayTheRest", "()V"⟩
def co_H_takeAwayTheRest : List (Nat × Instr) := [(0, .iconst 0), (1, .istore_n 1), (2, .iload_n 1), (3, .bipush 16), (5, .if_icmp .ge 25), (8, .aload_n 0), (9, .getfield 23), (12, .iload_n 1), (13, .baload), (14, .ifCond .ne 10), (17, .aload_n 0), (18, .getfield 9), (21, .iload_n 1), (22, .iconst 0), (23, .iastore), (24, .iinc 1 1), (27, .goto (-25)), (30, .aload_n 0), (31, .aload_n 0), (32, .getfield 30), (35, .putfield 34), (38, .return_)]
def fl_H_takeAwayTheRest : List (Nat × Nat × Nat × Nat) := [(23, 5, 3, 2), (9, 5, 0, 2), (30, 5, 5, 0), (34, 5, 6, 0)]
def cb_H_takeAwayTheRest : List (Instr × Nat × Nat × Option Nat × am_F) := []
def m_H_takeAwayTheRest : am_M := am_mk co_H_takeAwayTheRest fl_H_takeAwayTheRest (cb_H_takeAwayTheRest.map (fun z => z.2)) [] [] none 2
def f_H_takeAwayTheRest : am_F := am_mf m_H_takeAwayTheRest 1
theorem o_H_takeAwayTheRest : am_ok m_H_takeAwayTheRest := am_mk_ok (am_cb_ok (fun _ h => absurd h List.not_mem_nil))
theorem n_H_takeAwayTheRest : am_mono f_H_takeAwayTheRest := am_mf_mono o_H_takeAwayTheRest
theorem g_H_takeAwayTheRest : ∀ x q, am_cal m_H_takeAwayTheRest x = some q → am_grow q.2.2 := am_mk_grow (am_cb_gr (fun _ h => absurd h List.not_mem_nil))
theorem h_H_takeAwayTheRest : am_grow f_H_takeAwayTheRest := am_mf_grow g_H_takeAwayTheRest
def y_U_collect : MethodName := ⟨"PatchedMachine$Runner", "collect", "(LPatchedMachine$Program;)V"⟩
def co_U_collect : List (Nat × Instr) := [(0, .aload_n 0), (1, .getfield 20), (4, .invokevirtual 163), (7, .iconst 0), (8, .istore_n 2), (9, .iload_n 2), (10, .aload_n 0), (11, .getfield 31), (14, .if_icmp .ge 33), (17, .aload_n 0), (18, .aload_n 0), (19, .getfield 11), (22, .iload_n 2), (23, .aaload), (24, .aload_n 1), (25, .getfield 49), (28, .aload_n 0), (29, .getfield 11), (32, .iload_n 2), (33, .aaload), (34, .getfield 46), (37, .aaload), (38, .invokevirtual 166), (41, .iinc 2 1), (44, .goto (-35)), (47, .aload_n 0), (48, .getfield 20), (51, .aload_n 1), (52, .invokevirtual 169), (55, .aload_n 0), (56, .getfield 20), (59, .invokevirtual 172), (62, .return_)]
def fl_U_collect : List (Nat × Nat × Nat × Nat) := [(20, 8, 1, 2), (31, 8, 3, 0), (11, 8, 0, 2), (49, 2, 1, 2), (46, 7, 4, 0)]
def cb_U_collect : List (Instr × Nat × Nat × Option Nat × am_F) := [(.invokevirtual 163, 163, 1, (some 5), f_H_beginCollection), (.invokevirtual 166, 166, 3, (some 8), f_U_reachFrom), (.invokevirtual 169, 169, 2, (some 5), f_H_reachOverFields), (.invokevirtual 172, 172, 1, (some 5), f_H_takeAwayTheRest)]
def m_U_collect : am_M := am_mk co_U_collect fl_U_collect (cb_U_collect.map (fun z => z.2)) [] [] none 2
def f_U_collect : am_F := am_mf m_U_collect 2
theorem o_U_collect : am_ok m_U_collect := am_mk_ok (am_cb_ok (List.forall_mem_cons.mpr ⟨n_H_beginCollection, (List.forall_mem_cons.mpr ⟨n_U_reachFrom, (List.forall_mem_cons.mpr ⟨n_H_reachOverFields, (List.forall_mem_cons.mpr ⟨n_H_takeAwayTheRest, (fun _ h => absurd h List.not_mem_nil)⟩)⟩)⟩)⟩))
theorem n_U_collect : am_mono f_U_collect := am_mf_mono o_U_collect
theorem g_U_collect : ∀ x q, am_cal m_U_collect x = some q → am_grow q.2.2 := am_mk_grow (am_cb_gr (List.forall_mem_cons.mpr ⟨h_H_beginCollection, (List.forall_mem_cons.mpr ⟨h_U_reachFrom, (List.forall_mem_cons.mpr ⟨h_H_reachOverFields, (List.forall_mem_cons.mpr ⟨h_H_takeAwayTheRest, (fun _ h => absurd h List.not_mem_nil)⟩)⟩)⟩)⟩))
theorem h_U_collect : am_grow f_U_collect := am_mf_grow g_U_collect
def y_H_clearValues : MethodName := ⟨"PatchedMachine$Heap", "clearValues", "([I)V"⟩
def co_H_clearValues : List (Nat × Instr) := [(0, .iconst 0), (1, .istore_n 1), (2, .iload_n 1), (3, .iconst 4), (4, .if_icmp .ge 13), (7, .aload_n 0), (8, .iload_n 1), (9, .iconst 0), (10, .iastore), (11, .iinc 1 1), (14, .goto (-12)), (17, .return_)]
def fl_H_clearValues : List (Nat × Nat × Nat × Nat) := []
def cb_H_clearValues : List (Instr × Nat × Nat × Option Nat × am_F) := []
def m_H_clearValues : am_M := am_mk co_H_clearValues fl_H_clearValues (cb_H_clearValues.map (fun z => z.2)) [] [] none 2
def f_H_clearValues : am_F := am_mf m_H_clearValues 1
theorem o_H_clearValues : am_ok m_H_clearValues := am_mk_ok (am_cb_ok (fun _ h => absurd h List.not_mem_nil))
theorem n_H_clearValues : am_mono f_H_clearValues := am_mf_mono o_H_clearValues
theorem g_H_clearValues : ∀ x q, am_cal m_H_clearValues x = some q → am_grow q.2.2 := am_mk_grow (am_cb_gr (fun _ h => absurd h List.not_mem_nil))
theorem h_H_clearValues : am_grow f_H_clearValues := am_mf_grow g_H_clearValues
def y_H_moveValues : MethodName := ⟨"PatchedMachine$Heap", "moveValues", "([ILPatchedMachine$Layout;LPatchedMachine$Layout;)V"⟩
def co_H_moveValues : List (Nat × Instr) := [(0, .aload_n 0), (1, .getfield 20), (4, .invokestatic 37), (7, .iconst 0), (8, .istore 4), (10, .iload 4), (12, .aload_n 3), (13, .getfield 54), (16, .if_icmp .ge 39), (19, .aload_n 2), (20, .aload_n 3), (21, .getfield 73), (24, .iload 4), (26, .iaload), (27, .invokevirtual 76), (30, .istore 5), (32, .iload 5), (34, .iconst (-1)), (35, .if_icmp .eq 14), (38, .aload_n 0), (39, .getfield 20), (42, .iload 4), (44, .aload_n 1), (45, .iload 5), (47, .iaload), (48, .iastore), (49, .iinc 4 1), (52, .goto (-42)), (55, .aload_n 0), (56, .getfield 20), (59, .iconst 0), (60, .aload_n 1), (61, .iconst 0), (62, .iconst 4), (63, .invokestatic 80), (66, .return_)]
def fl_H_moveValues : List (Nat × Nat × Nat × Nat) := [(20, 5, 2, 2), (54, 0, 3, 0), (73, 0, 2, 2)]
def cb_H_moveValues : List (Instr × Nat × Nat × Option Nat × am_F) := [(.invokestatic 37, 37, 1, none, f_H_clearValues), (.invokevirtual 76, 76, 2, (some 0), f_L_find), (.invokestatic 80, 80, 5, none, am_cpy)]
def m_H_moveValues : am_M := am_mk co_H_moveValues fl_H_moveValues (cb_H_moveValues.map (fun z => z.2)) [] [] none 2
def f_H_moveValues : am_F := am_mf m_H_moveValues 4
theorem o_H_moveValues : am_ok m_H_moveValues := am_mk_ok (am_cb_ok (List.forall_mem_cons.mpr ⟨n_H_clearValues, (List.forall_mem_cons.mpr ⟨n_L_find, (List.forall_mem_cons.mpr ⟨am_cpy_mono, (fun _ h => absurd h List.not_mem_nil)⟩)⟩)⟩))
theorem n_H_moveValues : am_mono f_H_moveValues := am_mf_mono o_H_moveValues
theorem g_H_moveValues : ∀ x q, am_cal m_H_moveValues x = some q → am_grow q.2.2 := am_mk_grow (am_cb_gr (List.forall_mem_cons.mpr ⟨h_H_clearValues, (List.forall_mem_cons.mpr ⟨h_L_find, (List.forall_mem_cons.mpr ⟨am_cpy_grow, (fun _ h => absurd h List.not_mem_nil)⟩)⟩)⟩))
theorem h_H_moveValues : am_grow f_H_moveValues := am_mf_grow g_H_moveValues
def y_H_moveObjects : MethodName := ⟨"PatchedMachine$Heap", "moveObjects", "(LPatchedMachine$Program;LPatchedMachine$Program;)I"⟩
def co_H_moveObjects : List (Nat × Instr) := [(0, .iconst 0), (1, .istore_n 3), (2, .iconst 0), (3, .istore 4), (5, .iload 4), (7, .bipush 16), (9, .if_icmp .ge 55), (12, .aload_n 0), (13, .getfield 9), (16, .iload 4), (18, .iaload), (19, .istore 5), (21, .aload_n 2), (22, .iload 5), (24, .invokevirtual 66), (27, .ifCond .eq 31), (30, .aload_n 0), (31, .aload_n 0), (32, .getfield 17), (35, .iload 4), (37, .aaload), (38, .aload_n 1), (39, .getfield 48), (42, .iload 5), (44, .aaload), (45, .aload_n 2), (46, .getfield 48), (49, .iload 5), (51, .aaload), (52, .invokevirtual 69), (55, .iinc 3 1), (58, .iinc 4 1), (61, .goto (-56)), (64, .iload_n 3), (65, .ireturn)]
def fl_H_moveObjects : List (Nat × Nat × Nat × Nat) := [(9, 5, 0, 2), (17, 5, 1, 2), (48, 2, 0, 2)]
def cb_H_moveObjects : List (Instr × Nat × Nat × Option Nat × am_F) := [(.invokevirtual 66, 66, 2, (some 2), f_P_touchesClass), (.invokevirtual 69, 69, 4, (some 5), f_H_moveValues)]
def m_H_moveObjects : am_M := am_mk co_H_moveObjects fl_H_moveObjects (cb_H_moveObjects.map (fun z => z.2)) [] [] none 0
def f_H_moveObjects : am_F := am_mf m_H_moveObjects 3
theorem o_H_moveObjects : am_ok m_H_moveObjects := am_mk_ok (am_cb_ok (List.forall_mem_cons.mpr ⟨n_P_touchesClass, (List.forall_mem_cons.mpr ⟨n_H_moveValues, (fun _ h => absurd h List.not_mem_nil)⟩)⟩))
theorem n_H_moveObjects : am_mono f_H_moveObjects := am_mf_mono o_H_moveObjects
theorem g_H_moveObjects : ∀ x q, am_cal m_H_moveObjects x = some q → am_grow q.2.2 := am_mk_grow (am_cb_gr (List.forall_mem_cons.mpr ⟨h_P_touchesClass, (List.forall_mem_cons.mpr ⟨h_H_moveValues, (fun _ h => absurd h List.not_mem_nil)⟩)⟩))
theorem h_H_moveObjects : am_grow f_H_moveObjects := am_mf_grow g_H_moveObjects
def y_Q_advance : MethodName := ⟨"PatchedMachine$PatchLine", "advance", "()V"⟩
def co_Q_advance : List (Nat × Instr) := [(0, .aload_n 0), (1, .getfield 21), (4, .ifCond .ne 4), (7, .return_), (8, .aload_n 0), (9, .aload_n 0), (10, .getfield 17), (13, .iconst 1), (14, .iadd), (15, .iconst 4), (16, .irem), (17, .putfield 17), (20, .aload_n 0), (21, .dup), (22, .getfield 21), (25, .iconst 1), (26, .isub), (27, .putfield 21), (30, .return_)]
def fl_Q_advance : List (Nat × Nat × Nat × Nat) := [(21, 3, 2, 0), (17, 3, 1, 0)]
def cb_Q_advance : List (Instr × Nat × Nat × Option Nat × am_F) := []
def m_Q_advance : am_M := am_mk co_Q_advance fl_Q_advance (cb_Q_advance.map (fun z => z.2)) [] [] none 2
def f_Q_advance : am_F := am_mf m_Q_advance 1
theorem o_Q_advance : am_ok m_Q_advance := am_mk_ok (am_cb_ok (fun _ h => absurd h List.not_mem_nil))
theorem n_Q_advance : am_mono f_Q_advance := am_mf_mono o_Q_advance
theorem g_Q_advance : ∀ x q, am_cal m_Q_advance x = some q → am_grow q.2.2 := am_mk_grow (am_cb_gr (fun _ h => absurd h List.not_mem_nil))
theorem h_Q_advance : am_grow f_Q_advance := am_mf_grow g_Q_advance
def y_X_applyWhatCan : MethodName := ⟨"PatchedMachine", "applyWhatCan", "()V"⟩
def co_X_applyWhatCan : List (Nat × Instr) := [(0, .iconst 0), (1, .istore_n 1), (2, .iload_n 1), (3, .iconst 3), (4, .if_icmp .ge 100), (7, .aload_n 0), (8, .getfield 19), (11, .getfield 131), (14, .ifCond .le 90), (17, .aload_n 0), (18, .getfield 33), (21, .aload_n 0), (22, .getfield 19), (25, .invokevirtual 134), (28, .getfield 137), (31, .invokevirtual 209), (34, .ifCond .eq 4), (37, .return_), (38, .aload_n 0), (39, .getfield 19), (42, .invokevirtual 143), (45, .astore_n 2), (46, .aload_n 0), (47, .getfield 33), (50, .aload_n 2), (51, .invokevirtual 212), (54, .aload_n 0), (55, .dup), (56, .getfield 41), (59, .aload_n 0), (60, .getfield 33), (63, .getfield 180), (66, .aload_n 2), (67, .aload_n 0), (68, .getfield 19), (71, .invokevirtual 134), (74, .invokevirtual 215), (77, .iadd), (78, .putfield 41), (81, .aload_n 0), (82, .getfield 19), (85, .invokevirtual 219), (88, .aload_n 0), (89, .dup), (90, .getfield 37), (93, .iconst 1), (94, .iadd), (95, .putfield 37), (98, .iinc 1 1), (101, .goto (-99)), (104, .return_)]
def fl_X_applyWhatCan : List (Nat × Nat × Nat × Nat) := [(19, 9, 1, 2), (131, 3, 2, 0), (33, 9, 3, 2), (137, 2, 4, 0), (41, 9, 5, 0), (180, 8, 1, 2), (37, 9, 4, 0)]
def cb_X_applyWhatCan : List (Instr × Nat × Nat × Option Nat × am_F) := [(.invokevirtual 134, 134, 1, (some 3), f_Q_firstWaiting), (.invokevirtual 209, 209, 2, (some 8), f_U_hasFrameOfOneOf), (.invokevirtual 143, 143, 1, (some 3), f_Q_present), (.invokevirtual 212, 212, 2, (some 8), f_U_collect), (.invokevirtual 215, 215, 3, (some 5), f_H_moveObjects), (.invokevirtual 219, 219, 1, (some 3), f_Q_advance)]
def m_X_applyWhatCan : am_M := am_mk co_X_applyWhatCan fl_X_applyWhatCan (cb_X_applyWhatCan.map (fun z => z.2)) [] [] none 2
def f_X_applyWhatCan : am_F := am_mf m_X_applyWhatCan 1
theorem o_X_applyWhatCan : am_ok m_X_applyWhatCan := am_mk_ok (am_cb_ok (List.forall_mem_cons.mpr ⟨n_Q_firstWaiting, (List.forall_mem_cons.mpr ⟨n_U_hasFrameOfOneOf, (List.forall_mem_cons.mpr ⟨n_Q_present, (List.forall_mem_cons.mpr ⟨n_U_collect, (List.forall_mem_cons.mpr ⟨n_H_moveObjects, (List.forall_mem_cons.mpr ⟨n_Q_advance, (fun _ h => absurd h List.not_mem_nil)⟩)⟩)⟩)⟩)⟩)⟩))
theorem n_X_applyWhatCan : am_mono f_X_applyWhatCan := am_mf_mono o_X_applyWhatCan
theorem g_X_applyWhatCan : ∀ x q, am_cal m_X_applyWhatCan x = some q → am_grow q.2.2 := am_mk_grow (am_cb_gr (List.forall_mem_cons.mpr ⟨h_Q_firstWaiting, (List.forall_mem_cons.mpr ⟨h_U_hasFrameOfOneOf, (List.forall_mem_cons.mpr ⟨h_Q_present, (List.forall_mem_cons.mpr ⟨h_U_collect, (List.forall_mem_cons.mpr ⟨h_H_moveObjects, (List.forall_mem_cons.mpr ⟨h_Q_advance, (fun _ h => absurd h List.not_mem_nil)⟩)⟩)⟩)⟩)⟩)⟩))
theorem h_X_applyWhatCan : am_grow f_X_applyWhatCan := am_mf_grow g_X_applyWhatCan
def y_X_commit : MethodName := ⟨"PatchedMachine", "commit", "()I"⟩
def co_X_commit : List (Nat × Instr) := [(0, .aload_n 0), (1, .getfield 10), (4, .invokevirtual 111), (7, .ifCond .eq 13), (10, .aload_n 0), (11, .getfield 19), (14, .invokevirtual 118), (17, .ifCond .eq 5), (20, .iconst (-1)), (21, .ireturn), (22, .aload_n 0), (23, .getfield 26), (26, .aload_n 0), (27, .getfield 10), (30, .invokevirtual 119), (33, .istore_n 1), (34, .iload_n 1), (35, .iconst (-1)), (36, .if_icmp .eq 7), (39, .iconst 1), (40, .iload_n 1), (41, .iadd), (42, .ireturn), (43, .aload_n 0), (44, .getfield 10), (47, .aload_n 0), (48, .getfield 19), (51, .invokevirtual 75), (54, .invokevirtual 123), (57, .aload_n 0), (58, .getfield 19), (61, .aload_n 0), (62, .getfield 10), (65, .invokevirtual 126), (68, .aload_n 0), (69, .getfield 10), (72, .aload_n 0), (73, .getfield 19), (76, .invokevirtual 75), (79, .invokevirtual 114), (82, .aload_n 0), (83, .invokevirtual 128), (86, .iconst 0), (87, .ireturn)]
def fl_X_commit : List (Nat × Nat × Nat × Nat) := [(10, 9, 0, 2), (19, 9, 1, 2), (26, 9, 2, 2)]
def cb_X_commit : List (Instr × Nat × Nat × Option Nat × am_F) := [(.invokevirtual 111, 111, 1, (some 2), f_P_touchesAnything), (.invokevirtual 118, 118, 1, (some 3), f_Q_isFull), (.invokevirtual 119, 119, 2, (some 4), f_C_firstBadPlace), (.invokevirtual 75, 75, 1, (some 3), f_Q_newest), (.invokevirtual 123, 123, 2, (some 2), f_P_restrict), (.invokevirtual 126, 126, 2, (some 3), f_Q_add), (.invokevirtual 114, 114, 2, (some 2), f_P_beginAs), (.invokevirtual 128, 128, 1, (some 9), f_X_applyWhatCan)]
def m_X_commit : am_M := am_mk co_X_commit fl_X_commit (cb_X_commit.map (fun z => z.2)) [] [] none 0
def f_X_commit : am_F := am_mf m_X_commit 1
theorem o_X_commit : am_ok m_X_commit := am_mk_ok (am_cb_ok (List.forall_mem_cons.mpr ⟨n_P_touchesAnything, (List.forall_mem_cons.mpr ⟨n_Q_isFull, (List.forall_mem_cons.mpr ⟨n_C_firstBadPlace, (List.forall_mem_cons.mpr ⟨n_Q_newest, (List.forall_mem_cons.mpr ⟨n_P_restrict, (List.forall_mem_cons.mpr ⟨n_Q_add, (List.forall_mem_cons.mpr ⟨n_P_beginAs, (List.forall_mem_cons.mpr ⟨n_X_applyWhatCan, (fun _ h => absurd h List.not_mem_nil)⟩)⟩)⟩)⟩)⟩)⟩)⟩)⟩))
theorem n_X_commit : am_mono f_X_commit := am_mf_mono o_X_commit
theorem g_X_commit : ∀ x q, am_cal m_X_commit x = some q → am_grow q.2.2 := am_mk_grow (am_cb_gr (List.forall_mem_cons.mpr ⟨h_P_touchesAnything, (List.forall_mem_cons.mpr ⟨h_Q_isFull, (List.forall_mem_cons.mpr ⟨h_C_firstBadPlace, (List.forall_mem_cons.mpr ⟨h_Q_newest, (List.forall_mem_cons.mpr ⟨h_P_restrict, (List.forall_mem_cons.mpr ⟨h_Q_add, (List.forall_mem_cons.mpr ⟨h_P_beginAs, (List.forall_mem_cons.mpr ⟨h_X_applyWhatCan, (fun _ h => absurd h List.not_mem_nil)⟩)⟩)⟩)⟩)⟩)⟩)⟩)⟩))
theorem h_X_commit : am_grow f_X_commit := am_mf_grow g_X_commit
def y_X_waiting : MethodName := ⟨"PatchedMachine", "waiting", "()I"⟩
def co_X_waiting : List (Nat × Instr) := [(0, .aload_n 0), (1, .getfield 19), (4, .getfield 131), (7, .ireturn)]
def fl_X_waiting : List (Nat × Nat × Nat × Nat) := [(19, 9, 1, 2), (131, 3, 2, 0)]
def cb_X_waiting : List (Instr × Nat × Nat × Option Nat × am_F) := []
def m_X_waiting : am_M := am_mk co_X_waiting fl_X_waiting (cb_X_waiting.map (fun z => z.2)) [] [] none 0
def f_X_waiting : am_F := am_mf m_X_waiting 1
theorem o_X_waiting : am_ok m_X_waiting := am_mk_ok (am_cb_ok (fun _ h => absurd h List.not_mem_nil))
theorem n_X_waiting : am_mono f_X_waiting := am_mf_mono o_X_waiting
theorem g_X_waiting : ∀ x q, am_cal m_X_waiting x = some q → am_grow q.2.2 := am_mk_grow (am_cb_gr (fun _ h => absurd h List.not_mem_nil))
theorem h_X_waiting : am_grow f_X_waiting := am_mf_grow g_X_waiting
def y_X_restricted : MethodName := ⟨"PatchedMachine", "restricted", "()I"⟩
def co_X_restricted : List (Nat × Instr) := [(0, .aload_n 0), (1, .getfield 19), (4, .getfield 131), (7, .ifCond .ne 7), (10, .iconst 0), (11, .goto 13), (14, .aload_n 0), (15, .getfield 19), (18, .invokevirtual 134), (21, .getfield 137), (24, .ireturn)]
def fl_X_restricted : List (Nat × Nat × Nat × Nat) := [(19, 9, 1, 2), (131, 3, 2, 0), (137, 2, 4, 0)]
def cb_X_restricted : List (Instr × Nat × Nat × Option Nat × am_F) := [(.invokevirtual 134, 134, 1, (some 3), f_Q_firstWaiting)]
def m_X_restricted : am_M := am_mk co_X_restricted fl_X_restricted (cb_X_restricted.map (fun z => z.2)) [] [] none 0
def f_X_restricted : am_F := am_mf m_X_restricted 1
theorem o_X_restricted : am_ok m_X_restricted := am_mk_ok (am_cb_ok (List.forall_mem_cons.mpr ⟨n_Q_firstWaiting, (fun _ h => absurd h List.not_mem_nil)⟩))
theorem n_X_restricted : am_mono f_X_restricted := am_mf_mono o_X_restricted
theorem g_X_restricted : ∀ x q, am_cal m_X_restricted x = some q → am_grow q.2.2 := am_mk_grow (am_cb_gr (List.forall_mem_cons.mpr ⟨h_Q_firstWaiting, (fun _ h => absurd h List.not_mem_nil)⟩))
theorem h_X_restricted : am_grow f_X_restricted := am_mf_grow g_X_restricted
def y_X_applied : MethodName := ⟨"PatchedMachine", "applied", "()I"⟩
def co_X_applied : List (Nat × Instr) := [(0, .aload_n 0), (1, .getfield 37), (4, .ireturn)]
def fl_X_applied : List (Nat × Nat × Nat × Nat) := [(37, 9, 4, 0)]
def cb_X_applied : List (Instr × Nat × Nat × Option Nat × am_F) := []
def m_X_applied : am_M := am_mk co_X_applied fl_X_applied (cb_X_applied.map (fun z => z.2)) [] [] none 0
def f_X_applied : am_F := am_mf m_X_applied 1
theorem o_X_applied : am_ok m_X_applied := am_mk_ok (am_cb_ok (fun _ h => absurd h List.not_mem_nil))
theorem n_X_applied : am_mono f_X_applied := am_mf_mono o_X_applied
theorem g_X_applied : ∀ x q, am_cal m_X_applied x = some q → am_grow q.2.2 := am_mk_grow (am_cb_gr (fun _ h => absurd h List.not_mem_nil))
theorem h_X_applied : am_grow f_X_applied := am_mf_grow g_X_applied
def y_X_moved : MethodName := ⟨"PatchedMachine", "moved", "()I"⟩
def co_X_moved : List (Nat × Instr) := [(0, .aload_n 0), (1, .getfield 41), (4, .ireturn)]
def fl_X_moved : List (Nat × Nat × Nat × Nat) := [(41, 9, 5, 0)]
def cb_X_moved : List (Instr × Nat × Nat × Option Nat × am_F) := []
def m_X_moved : am_M := am_mk co_X_moved fl_X_moved (cb_X_moved.map (fun z => z.2)) [] [] none 0
def f_X_moved : am_F := am_mf m_X_moved 1
theorem o_X_moved : am_ok m_X_moved := am_mk_ok (am_cb_ok (fun _ h => absurd h List.not_mem_nil))
theorem n_X_moved : am_mono f_X_moved := am_mf_mono o_X_moved
theorem g_X_moved : ∀ x q, am_cal m_X_moved x = some q → am_grow q.2.2 := am_mk_grow (am_cb_gr (fun _ h => absurd h List.not_mem_nil))
theorem h_X_moved : am_grow f_X_moved := am_mf_grow g_X_moved
def y_U_goesOn : MethodName := ⟨"PatchedMachine$Runner", "goesOn", "()Z"⟩
def co_U_goesOn : List (Nat × Instr) := [(0, .aload_n 0), (1, .getfield 35), (4, .iconst 1), (5, .if_icmp .ne 7), (8, .iconst 1), (9, .goto 4), (12, .iconst 0), (13, .ireturn)]
def fl_U_goesOn : List (Nat × Nat × Nat × Nat) := [(35, 8, 4, 0)]
def cb_U_goesOn : List (Instr × Nat × Nat × Option Nat × am_F) := []
def m_U_goesOn : am_M := am_mk co_U_goesOn fl_U_goesOn (cb_U_goesOn.map (fun z => z.2)) [] [] none 1
def f_U_goesOn : am_F := am_mf m_U_goesOn 1
theorem o_U_goesOn : am_ok m_U_goesOn := am_mk_ok (am_cb_ok (fun _ h => absurd h List.not_mem_nil))
theorem n_U_goesOn : am_mono f_U_goesOn := am_mf_mono o_U_goesOn
theorem g_U_goesOn : ∀ x q, am_cal m_U_goesOn x = some q → am_grow q.2.2 := am_mk_grow (am_cb_gr (fun _ h => absurd h List.not_mem_nil))
theorem h_U_goesOn : am_grow f_U_goesOn := am_mf_grow g_U_goesOn
def y_F_begin : MethodName := ⟨"PatchedMachine$Frame", "begin", "(I)V"⟩
def co_F_begin : List (Nat × Instr) := [(0, .aload_n 0), (1, .iload_n 1), (2, .putfield 25), (5, .aload_n 0), (6, .iconst 0), (7, .putfield 28), (10, .aload_n 0), (11, .iconst 0), (12, .putfield 21), (15, .iconst 0), (16, .istore_n 2), (17, .iload_n 2), (18, .iconst 4), (19, .if_icmp .ge 16), (22, .aload_n 0), (23, .getfield 9), (26, .iload_n 2), (27, .iconst 0), (28, .iastore), (29, .iinc 2 1), (32, .goto (-15)), (35, .return_)]
def fl_F_begin : List (Nat × Nat × Nat × Nat) := [(25, 7, 4, 0), (28, 7, 5, 0), (21, 7, 3, 0), (9, 7, 0, 2)]
def cb_F_begin : List (Instr × Nat × Nat × Option Nat × am_F) := []
def m_F_begin : am_M := am_mk co_F_begin fl_F_begin (cb_F_begin.map (fun z => z.2)) [] [] none 2
def f_F_begin : am_F := am_mf m_F_begin 2
theorem o_F_begin : am_ok m_F_begin := am_mk_ok (am_cb_ok (fun _ h => absurd h List.not_mem_nil))
theorem n_F_begin : am_mono f_F_begin := am_mf_mono o_F_begin
theorem g_F_begin : ∀ x q, am_cal m_F_begin x = some q → am_grow q.2.2 := am_mk_grow (am_cb_gr (fun _ h => absurd h List.not_mem_nil))
theorem h_F_begin : am_grow f_F_begin := am_mf_grow g_F_begin
def y_U_begin : MethodName := ⟨"PatchedMachine$Runner", "begin", "(I)V"⟩
def co_U_begin : List (Nat × Instr) := [(0, .aload_n 0), (1, .iconst 1), (2, .putfield 35), (5, .aload_n 0), (6, .iconst 0), (7, .putfield 38), (10, .aload_n 0), (11, .iconst 1), (12, .putfield 31), (15, .aload_n 0), (16, .getfield 11), (19, .iconst 0), (20, .aaload), (21, .iload_n 1), (22, .invokevirtual 42), (25, .return_)]
def fl_U_begin : List (Nat × Nat × Nat × Nat) := [(35, 8, 4, 0), (38, 8, 5, 0), (31, 8, 3, 0), (11, 8, 0, 2)]
def cb_U_begin : List (Instr × Nat × Nat × Option Nat × am_F) := [(.invokevirtual 42, 42, 2, (some 7), f_F_begin)]
def m_U_begin : am_M := am_mk co_U_begin fl_U_begin (cb_U_begin.map (fun z => z.2)) [] [] none 2
def f_U_begin : am_F := am_mf m_U_begin 2
theorem o_U_begin : am_ok m_U_begin := am_mk_ok (am_cb_ok (List.forall_mem_cons.mpr ⟨n_F_begin, (fun _ h => absurd h List.not_mem_nil)⟩))
theorem n_U_begin : am_mono f_U_begin := am_mf_mono o_U_begin
theorem g_U_begin : ∀ x q, am_cal m_U_begin x = some q → am_grow q.2.2 := am_mk_grow (am_cb_gr (List.forall_mem_cons.mpr ⟨h_F_begin, (fun _ h => absurd h List.not_mem_nil)⟩))
theorem h_U_begin : am_grow f_U_begin := am_mf_grow g_U_begin
def y_X_start : MethodName := ⟨"PatchedMachine", "start", "(I)Z"⟩
def co_X_start : List (Nat × Instr) := [(0, .aload_n 0), (1, .getfield 33), (4, .invokevirtual 140), (7, .ifCond .ne 10), (10, .iload_n 1), (11, .invokestatic 86), (14, .ifCond .ne 5), (17, .iconst 0), (18, .ireturn), (19, .aload_n 0), (20, .getfield 19), (23, .invokevirtual 143), (26, .getfield 96), (29, .iload_n 1), (30, .aaload), (31, .astore_n 2), (32, .aload_n 2), (33, .invokevirtual 146), (36, .ifCond .eq 17), (39, .aload_n 2), (40, .getfield 149), (43, .ifCond .ne 10), (46, .aload_n 2), (47, .getfield 152), (50, .ifCond .eq 5), (53, .iconst 0), (54, .ireturn), (55, .aload_n 0), (56, .getfield 33), (59, .iload_n 1), (60, .invokevirtual 155), (63, .iconst 1), (64, .ireturn)]
def fl_X_start : List (Nat × Nat × Nat × Nat) := [(33, 9, 3, 2), (19, 9, 1, 2), (96, 2, 1, 2), (149, 1, 4, 0), (152, 1, 5, 0)]
def cb_X_start : List (Instr × Nat × Nat × Option Nat × am_F) := [(.invokevirtual 140, 140, 1, (some 8), f_U_goesOn), (.invokestatic 86, 86, 1, none, f_X_isMethod), (.invokevirtual 143, 143, 1, (some 3), f_Q_present), (.invokevirtual 146, 146, 1, (some 1), f_R_isDefined), (.invokevirtual 155, 155, 2, (some 8), f_U_begin)]
def m_X_start : am_M := am_mk co_X_start fl_X_start (cb_X_start.map (fun z => z.2)) [] [] none 1
def f_X_start : am_F := am_mf m_X_start 2
theorem o_X_start : am_ok m_X_start := am_mk_ok (am_cb_ok (List.forall_mem_cons.mpr ⟨n_U_goesOn, (List.forall_mem_cons.mpr ⟨n_X_isMethod, (List.forall_mem_cons.mpr ⟨n_Q_present, (List.forall_mem_cons.mpr ⟨n_R_isDefined, (List.forall_mem_cons.mpr ⟨n_U_begin, (fun _ h => absurd h List.not_mem_nil)⟩)⟩)⟩)⟩)⟩))
theorem n_X_start : am_mono f_X_start := am_mf_mono o_X_start
theorem g_X_start : ∀ x q, am_cal m_X_start x = some q → am_grow q.2.2 := am_mk_grow (am_cb_gr (List.forall_mem_cons.mpr ⟨h_U_goesOn, (List.forall_mem_cons.mpr ⟨h_X_isMethod, (List.forall_mem_cons.mpr ⟨h_Q_present, (List.forall_mem_cons.mpr ⟨h_R_isDefined, (List.forall_mem_cons.mpr ⟨h_U_begin, (fun _ h => absurd h List.not_mem_nil)⟩)⟩)⟩)⟩)⟩))
theorem h_X_start : am_grow f_X_start := am_mf_grow g_X_start
def y_H_isFull : MethodName := ⟨"PatchedMachine$Heap", "isFull", "()Z"⟩
def co_H_isFull : List (Nat × Instr) := [(0, .aload_n 0), (1, .getfield 34), (4, .bipush 16), (6, .if_icmp .lt 7), (9, .iconst 1), (10, .goto 4), (13, .iconst 0), (14, .ireturn)]
def fl_H_isFull : List (Nat × Nat × Nat × Nat) := [(34, 5, 6, 0)]
def cb_H_isFull : List (Instr × Nat × Nat × Option Nat × am_F) := []
def m_H_isFull : am_M := am_mk co_H_isFull fl_H_isFull (cb_H_isFull.map (fun z => z.2)) [] [] none 1
def f_H_isFull : am_F := am_mf m_H_isFull 1
theorem o_H_isFull : am_ok m_H_isFull := am_mk_ok (am_cb_ok (fun _ h => absurd h List.not_mem_nil))
theorem n_H_isFull : am_mono f_H_isFull := am_mf_mono o_H_isFull
theorem g_H_isFull : ∀ x q, am_cal m_H_isFull x = some q → am_grow q.2.2 := am_mk_grow (am_cb_gr (fun _ h => absurd h List.not_mem_nil))
theorem h_H_isFull : am_grow f_H_isFull := am_mf_grow g_H_isFull
def y_U_end : MethodName := ⟨"PatchedMachine$Runner", "end", "(I)V"⟩
def co_U_end : List (Nat × Instr) := [(0, .aload_n 0), (1, .iload_n 1), (2, .putfield 35), (5, .aload_n 0), (6, .iconst 0), (7, .putfield 31), (10, .return_)]
def fl_U_end : List (Nat × Nat × Nat × Nat) := [(35, 8, 4, 0), (31, 8, 3, 0)]
def cb_U_end : List (Instr × Nat × Nat × Option Nat × am_F) := []
def m_U_end : am_M := am_mk co_U_end fl_U_end (cb_U_end.map (fun z => z.2)) [] [] none 2
def f_U_end : am_F := am_mf m_U_end 2
theorem o_U_end : am_ok m_U_end := am_mk_ok (am_cb_ok (fun _ h => absurd h List.not_mem_nil))
theorem n_U_end : am_mono f_U_end := am_mf_mono o_U_end
theorem g_U_end : ∀ x q, am_cal m_U_end x = some q → am_grow q.2.2 := am_mk_grow (am_cb_gr (fun _ h => absurd h List.not_mem_nil))
theorem h_U_end : am_grow f_U_end := am_mf_grow g_U_end
def y_H_make : MethodName := ⟨"PatchedMachine$Heap", "make", "(I)I"⟩
def co_H_make : List (Nat × Instr) := [(0, .iconst 0), (1, .istore_n 2), (2, .iload_n 2), (3, .bipush 16), (5, .if_icmp .ge 48), (8, .aload_n 0), (9, .getfield 9), (12, .iload_n 2), (13, .iaload), (14, .ifCond .ne 33), (17, .aload_n 0), (18, .getfield 9), (21, .iload_n 2), (22, .iload_n 1), (23, .iastore), (24, .aload_n 0), (25, .dup), (26, .getfield 34), (29, .iconst 1), (30, .iadd), (31, .putfield 34), (34, .aload_n 0), (35, .getfield 17), (38, .iload_n 2), (39, .aaload), (40, .invokestatic 37), (43, .iload_n 2), (44, .iconst 1), (45, .iadd), (46, .ireturn), (47, .iinc 2 1), (50, .goto (-48)), (53, .iconst 0), (54, .ireturn)]
def fl_H_make : List (Nat × Nat × Nat × Nat) := [(9, 5, 0, 2), (34, 5, 6, 0), (17, 5, 1, 2)]
def cb_H_make : List (Instr × Nat × Nat × Option Nat × am_F) := [(.invokestatic 37, 37, 1, none, f_H_clearValues)]
def m_H_make : am_M := am_mk co_H_make fl_H_make (cb_H_make.map (fun z => z.2)) [] [] none 0
def f_H_make : am_F := am_mf m_H_make 2
theorem o_H_make : am_ok m_H_make := am_mk_ok (am_cb_ok (List.forall_mem_cons.mpr ⟨n_H_clearValues, (fun _ h => absurd h List.not_mem_nil)⟩))
theorem n_H_make : am_mono f_H_make := am_mf_mono o_H_make
theorem g_H_make : ∀ x q, am_cal m_H_make x = some q → am_grow q.2.2 := am_mk_grow (am_cb_gr (List.forall_mem_cons.mpr ⟨h_H_clearValues, (fun _ h => absurd h List.not_mem_nil)⟩))
theorem h_H_make : am_grow f_H_make := am_mf_grow g_H_make
def y_F_put : MethodName := ⟨"PatchedMachine$Frame", "put", "(II)V"⟩
def co_F_put : List (Nat × Instr) := [(0, .aload_n 0), (1, .getfield 21), (4, .bipush 6), (6, .if_icmp .lt 4), (9, .return_), (10, .aload_n 0), (11, .getfield 15), (14, .aload_n 0), (15, .getfield 21), (18, .iload_n 1), (19, .iastore), (20, .aload_n 0), (21, .getfield 18), (24, .aload_n 0), (25, .getfield 21), (28, .iload_n 2), (29, .iastore), (30, .aload_n 0), (31, .dup), (32, .getfield 21), (35, .iconst 1), (36, .iadd), (37, .putfield 21), (40, .return_)]
def fl_F_put : List (Nat × Nat × Nat × Nat) := [(21, 7, 3, 0), (15, 7, 1, 2), (18, 7, 2, 2)]
def cb_F_put : List (Instr × Nat × Nat × Option Nat × am_F) := []
def m_F_put : am_M := am_mk co_F_put fl_F_put (cb_F_put.map (fun z => z.2)) [] [] none 2
def f_F_put : am_F := am_mf m_F_put 3
theorem o_F_put : am_ok m_F_put := am_mk_ok (am_cb_ok (fun _ h => absurd h List.not_mem_nil))
theorem n_F_put : am_mono f_F_put := am_mf_mono o_F_put
theorem g_F_put : ∀ x q, am_cal m_F_put x = some q → am_grow q.2.2 := am_mk_grow (am_cb_gr (fun _ h => absurd h List.not_mem_nil))
theorem h_F_put : am_grow f_F_put := am_mf_grow g_F_put
def y_U_makeObject : MethodName := ⟨"PatchedMachine$Runner", "makeObject", "(LPatchedMachine$Frame;ILPatchedMachine$Program;)V"⟩
def co_U_makeObject : List (Nat × Instr) := [(0, .aload_n 0), (1, .getfield 20), (4, .invokevirtual 135), (7, .ifCond .eq 8), (10, .aload_n 0), (11, .aload_n 3), (12, .invokevirtual 139), (15, .aload_n 0), (16, .getfield 20), (19, .invokevirtual 135), (22, .ifCond .eq 9), (25, .aload_n 0), (26, .iconst 4), (27, .invokevirtual 113), (30, .return_), (31, .aload_n 1), (32, .aload_n 0), (33, .getfield 20), (36, .iload_n 2), (37, .invokevirtual 143), (40, .iload_n 2), (41, .invokevirtual 86), (44, .return_)]
def fl_U_makeObject : List (Nat × Nat × Nat × Nat) := [(20, 8, 1, 2)]
def cb_U_makeObject : List (Instr × Nat × Nat × Option Nat × am_F) := [(.invokevirtual 135, 135, 1, (some 5), f_H_isFull), (.invokevirtual 139, 139, 2, (some 8), f_U_collect), (.invokevirtual 113, 113, 2, (some 8), f_U_end), (.invokevirtual 143, 143, 2, (some 5), f_H_make), (.invokevirtual 86, 86, 3, (some 7), f_F_put)]
def m_U_makeObject : am_M := am_mk co_U_makeObject fl_U_makeObject (cb_U_makeObject.map (fun z => z.2)) [] [] none 2
def f_U_makeObject : am_F := am_mf m_U_makeObject 4
theorem o_U_makeObject : am_ok m_U_makeObject := am_mk_ok (am_cb_ok (List.forall_mem_cons.mpr ⟨n_H_isFull, (List.forall_mem_cons.mpr ⟨n_U_collect, (List.forall_mem_cons.mpr ⟨n_U_end, (List.forall_mem_cons.mpr ⟨n_H_make, (List.forall_mem_cons.mpr ⟨n_F_put, (fun _ h => absurd h List.not_mem_nil)⟩)⟩)⟩)⟩)⟩))
theorem n_U_makeObject : am_mono f_U_makeObject := am_mf_mono o_U_makeObject
theorem g_U_makeObject : ∀ x q, am_cal m_U_makeObject x = some q → am_grow q.2.2 := am_mk_grow (am_cb_gr (List.forall_mem_cons.mpr ⟨h_H_isFull, (List.forall_mem_cons.mpr ⟨h_U_collect, (List.forall_mem_cons.mpr ⟨h_U_end, (List.forall_mem_cons.mpr ⟨h_H_make, (List.forall_mem_cons.mpr ⟨h_F_put, (fun _ h => absurd h List.not_mem_nil)⟩)⟩)⟩)⟩)⟩))
theorem h_U_makeObject : am_grow f_U_makeObject := am_mf_grow g_U_makeObject
def y_F_take : MethodName := ⟨"PatchedMachine$Frame", "take", "()I"⟩
def co_F_take : List (Nat × Instr) := [(0, .aload_n 0), (1, .getfield 21), (4, .ifCond .ne 5), (7, .iconst 0), (8, .ireturn), (9, .aload_n 0), (10, .dup), (11, .getfield 21), (14, .iconst 1), (15, .isub), (16, .putfield 21), (19, .aload_n 0), (20, .getfield 15), (23, .aload_n 0), (24, .getfield 21), (27, .iaload), (28, .ireturn)]
def fl_F_take : List (Nat × Nat × Nat × Nat) := [(21, 7, 3, 0), (15, 7, 1, 2)]
def cb_F_take : List (Instr × Nat × Nat × Option Nat × am_F) := []
def m_F_take : am_M := am_mk co_F_take fl_F_take (cb_F_take.map (fun z => z.2)) [] [] none 0
def f_F_take : am_F := am_mf m_F_take 1
theorem o_F_take : am_ok m_F_take := am_mk_ok (am_cb_ok (fun _ h => absurd h List.not_mem_nil))
theorem n_F_take : am_mono f_F_take := am_mf_mono o_F_take
theorem g_F_take : ∀ x q, am_cal m_F_take x = some q → am_grow q.2.2 := am_mk_grow (am_cb_gr (fun _ h => absurd h List.not_mem_nil))
theorem h_F_take : am_grow f_F_take := am_mf_grow g_F_take
def y_H_isObject : MethodName := ⟨"PatchedMachine$Heap", "isObject", "(I)Z"⟩
def co_H_isObject : List (Nat × Instr) := [(0, .iload_n 1), (1, .iconst 1), (2, .if_icmp .lt 13), (5, .iload_n 1), (6, .bipush 16), (8, .if_icmp .gt 7), (11, .iconst 1), (12, .goto 4), (15, .iconst 0), (16, .ireturn)]
def fl_H_isObject : List (Nat × Nat × Nat × Nat) := []
def cb_H_isObject : List (Instr × Nat × Nat × Option Nat × am_F) := []
def m_H_isObject : am_M := am_mk co_H_isObject fl_H_isObject (cb_H_isObject.map (fun z => z.2)) [] [] none 1
def f_H_isObject : am_F := am_mf m_H_isObject 2
theorem o_H_isObject : am_ok m_H_isObject := am_mk_ok (am_cb_ok (fun _ h => absurd h List.not_mem_nil))
theorem n_H_isObject : am_mono f_H_isObject := am_mf_mono o_H_isObject
theorem g_H_isObject : ∀ x q, am_cal m_H_isObject x = some q → am_grow q.2.2 := am_mk_grow (am_cb_gr (fun _ h => absurd h List.not_mem_nil))
theorem h_H_isObject : am_grow f_H_isObject := am_mf_grow g_H_isObject
def y_H_isField : MethodName := ⟨"PatchedMachine$Heap", "isField", "(I)Z"⟩
def co_H_isField : List (Nat × Instr) := [(0, .iload_n 0), (1, .ifCond .lt 12), (4, .iload_n 0), (5, .iconst 4), (6, .if_icmp .ge 7), (9, .iconst 1), (10, .goto 4), (13, .iconst 0), (14, .ireturn)]
def fl_H_isField : List (Nat × Nat × Nat × Nat) := []
def cb_H_isField : List (Instr × Nat × Nat × Option Nat × am_F) := []
def m_H_isField : am_M := am_mk co_H_isField fl_H_isField (cb_H_isField.map (fun z => z.2)) [] [] none 1
def f_H_isField : am_F := am_mf m_H_isField 1
theorem o_H_isField : am_ok m_H_isField := am_mk_ok (am_cb_ok (fun _ h => absurd h List.not_mem_nil))
theorem n_H_isField : am_mono f_H_isField := am_mf_mono o_H_isField
theorem g_H_isField : ∀ x q, am_cal m_H_isField x = some q → am_grow q.2.2 := am_mk_grow (am_cb_gr (fun _ h => absurd h List.not_mem_nil))
theorem h_H_isField : am_grow f_H_isField := am_mf_grow g_H_isField
def y_H_valueAt : MethodName := ⟨"PatchedMachine$Heap", "valueAt", "(II)I"⟩
def co_H_valueAt : List (Nat × Instr) := [(0, .aload_n 0), (1, .iload_n 1), (2, .invokevirtual 41), (5, .ifCond .eq 23), (8, .iload_n 2), (9, .invokestatic 45), (12, .ifCond .eq 16), (15, .aload_n 0), (16, .getfield 17), (19, .iload_n 1), (20, .iconst 1), (21, .isub), (22, .aaload), (23, .iload_n 2), (24, .iaload), (25, .goto 4), (28, .iconst 0), (29, .ireturn)]
def fl_H_valueAt : List (Nat × Nat × Nat × Nat) := [(17, 5, 1, 2)]
def cb_H_valueAt : List (Instr × Nat × Nat × Option Nat × am_F) := [(.invokevirtual 41, 41, 2, (some 5), f_H_isObject), (.invokestatic 45, 45, 1, none, f_H_isField)]
def m_H_valueAt : am_M := am_mk co_H_valueAt fl_H_valueAt (cb_H_valueAt.map (fun z => z.2)) [] [] none 0
def f_H_valueAt : am_F := am_mf m_H_valueAt 3
theorem o_H_valueAt : am_ok m_H_valueAt := am_mk_ok (am_cb_ok (List.forall_mem_cons.mpr ⟨n_H_isObject, (List.forall_mem_cons.mpr ⟨n_H_isField, (fun _ h => absurd h List.not_mem_nil)⟩)⟩))
theorem n_H_valueAt : am_mono f_H_valueAt := am_mf_mono o_H_valueAt
theorem g_H_valueAt : ∀ x q, am_cal m_H_valueAt x = some q → am_grow q.2.2 := am_mk_grow (am_cb_gr (List.forall_mem_cons.mpr ⟨h_H_isObject, (List.forall_mem_cons.mpr ⟨h_H_isField, (fun _ h => absurd h List.not_mem_nil)⟩)⟩))
theorem h_H_valueAt : am_grow f_H_valueAt := am_mf_grow g_H_valueAt
def y_U_readField : MethodName := ⟨"PatchedMachine$Runner", "readField", "(LPatchedMachine$Frame;LPatchedMachine$Layout;I)V"⟩
def co_U_readField : List (Nat × Instr) := [(0, .aload_n 1), (1, .invokevirtual 94), (4, .istore 4), (6, .iload 4), (8, .ifCond .ne 9), (11, .aload_n 0), (12, .iconst 3), (13, .invokevirtual 113), (16, .return_), (17, .aload_n 1), (18, .aload_n 0), (19, .getfield 20), (22, .iload 4), (24, .aload_n 2), (25, .iload_n 3), (26, .invokevirtual 147), (29, .invokevirtual 152), (32, .aload_n 2), (33, .iload_n 3), (34, .invokevirtual 156), (37, .invokevirtual 86), (40, .return_)]
def fl_U_readField : List (Nat × Nat × Nat × Nat) := [(20, 8, 1, 2)]
def cb_U_readField : List (Instr × Nat × Nat × Option Nat × am_F) := [(.invokevirtual 94, 94, 1, (some 7), f_F_take), (.invokevirtual 113, 113, 2, (some 8), f_U_end), (.invokevirtual 147, 147, 2, (some 0), f_L_find), (.invokevirtual 152, 152, 3, (some 5), f_H_valueAt), (.invokevirtual 156, 156, 2, (some 0), f_L_typeNamed), (.invokevirtual 86, 86, 3, (some 7), f_F_put)]
def m_U_readField : am_M := am_mk co_U_readField fl_U_readField (cb_U_readField.map (fun z => z.2)) [] [] none 2
def f_U_readField : am_F := am_mf m_U_readField 4
theorem o_U_readField : am_ok m_U_readField := am_mk_ok (am_cb_ok (List.forall_mem_cons.mpr ⟨n_F_take, (List.forall_mem_cons.mpr ⟨n_U_end, (List.forall_mem_cons.mpr ⟨n_L_find, (List.forall_mem_cons.mpr ⟨n_H_valueAt, (List.forall_mem_cons.mpr ⟨n_L_typeNamed, (List.forall_mem_cons.mpr ⟨n_F_put, (fun _ h => absurd h List.not_mem_nil)⟩)⟩)⟩)⟩)⟩)⟩))
theorem n_U_readField : am_mono f_U_readField := am_mf_mono o_U_readField
theorem g_U_readField : ∀ x q, am_cal m_U_readField x = some q → am_grow q.2.2 := am_mk_grow (am_cb_gr (List.forall_mem_cons.mpr ⟨h_F_take, (List.forall_mem_cons.mpr ⟨h_U_end, (List.forall_mem_cons.mpr ⟨h_L_find, (List.forall_mem_cons.mpr ⟨h_H_valueAt, (List.forall_mem_cons.mpr ⟨h_L_typeNamed, (List.forall_mem_cons.mpr ⟨h_F_put, (fun _ h => absurd h List.not_mem_nil)⟩)⟩)⟩)⟩)⟩)⟩))
theorem h_U_readField : am_grow f_U_readField := am_mf_grow g_U_readField
def y_H_setValue : MethodName := ⟨"PatchedMachine$Heap", "setValue", "(III)V"⟩
def co_H_setValue : List (Nat × Instr) := [(0, .aload_n 0), (1, .iload_n 1), (2, .invokevirtual 41), (5, .ifCond .eq 21), (8, .iload_n 2), (9, .invokestatic 45), (12, .ifCond .eq 14), (15, .aload_n 0), (16, .getfield 17), (19, .iload_n 1), (20, .iconst 1), (21, .isub), (22, .aaload), (23, .iload_n 2), (24, .iload_n 3), (25, .iastore), (26, .return_)]
def fl_H_setValue : List (Nat × Nat × Nat × Nat) := [(17, 5, 1, 2)]
def cb_H_setValue : List (Instr × Nat × Nat × Option Nat × am_F) := [(.invokevirtual 41, 41, 2, (some 5), f_H_isObject), (.invokestatic 45, 45, 1, none, f_H_isField)]
def m_H_setValue : am_M := am_mk co_H_setValue fl_H_setValue (cb_H_setValue.map (fun z => z.2)) [] [] none 2
def f_H_setValue : am_F := am_mf m_H_setValue 4
theorem o_H_setValue : am_ok m_H_setValue := am_mk_ok (am_cb_ok (List.forall_mem_cons.mpr ⟨n_H_isObject, (List.forall_mem_cons.mpr ⟨n_H_isField, (fun _ h => absurd h List.not_mem_nil)⟩)⟩))
theorem n_H_setValue : am_mono f_H_setValue := am_mf_mono o_H_setValue
theorem g_H_setValue : ∀ x q, am_cal m_H_setValue x = some q → am_grow q.2.2 := am_mk_grow (am_cb_gr (List.forall_mem_cons.mpr ⟨h_H_isObject, (List.forall_mem_cons.mpr ⟨h_H_isField, (fun _ h => absurd h List.not_mem_nil)⟩)⟩))
theorem h_H_setValue : am_grow f_H_setValue := am_mf_grow g_H_setValue
def y_U_writeField : MethodName := ⟨"PatchedMachine$Runner", "writeField", "(LPatchedMachine$Frame;LPatchedMachine$Layout;I)V"⟩
def co_U_writeField : List (Nat × Instr) := [(0, .aload_n 1), (1, .invokevirtual 94), (4, .istore 4), (6, .aload_n 1), (7, .invokevirtual 94), (10, .istore 5), (12, .iload 5), (14, .ifCond .ne 9), (17, .aload_n 0), (18, .iconst 3), (19, .invokevirtual 113), (22, .return_), (23, .aload_n 0), (24, .getfield 20), (27, .iload 5), (29, .aload_n 2), (30, .iload_n 3), (31, .invokevirtual 147), (34, .iload 4), (36, .invokevirtual 159), (39, .return_)]
def fl_U_writeField : List (Nat × Nat × Nat × Nat) := [(20, 8, 1, 2)]
def cb_U_writeField : List (Instr × Nat × Nat × Option Nat × am_F) := [(.invokevirtual 94, 94, 1, (some 7), f_F_take), (.invokevirtual 113, 113, 2, (some 8), f_U_end), (.invokevirtual 147, 147, 2, (some 0), f_L_find), (.invokevirtual 159, 159, 4, (some 5), f_H_setValue)]
def m_U_writeField : am_M := am_mk co_U_writeField fl_U_writeField (cb_U_writeField.map (fun z => z.2)) [] [] none 2
def f_U_writeField : am_F := am_mf m_U_writeField 4
theorem o_U_writeField : am_ok m_U_writeField := am_mk_ok (am_cb_ok (List.forall_mem_cons.mpr ⟨n_F_take, (List.forall_mem_cons.mpr ⟨n_U_end, (List.forall_mem_cons.mpr ⟨n_L_find, (List.forall_mem_cons.mpr ⟨n_H_setValue, (fun _ h => absurd h List.not_mem_nil)⟩)⟩)⟩)⟩))
theorem n_U_writeField : am_mono f_U_writeField := am_mf_mono o_U_writeField
theorem g_U_writeField : ∀ x q, am_cal m_U_writeField x = some q → am_grow q.2.2 := am_mk_grow (am_cb_gr (List.forall_mem_cons.mpr ⟨h_F_take, (List.forall_mem_cons.mpr ⟨h_U_end, (List.forall_mem_cons.mpr ⟨h_L_find, (List.forall_mem_cons.mpr ⟨h_H_setValue, (fun _ h => absurd h List.not_mem_nil)⟩)⟩)⟩)⟩))
theorem h_U_writeField : am_grow f_U_writeField := am_mf_grow g_U_writeField
def y_U_stepOnObjects : MethodName := ⟨"PatchedMachine$Runner", "stepOnObjects", "(LPatchedMachine$Frame;IIILPatchedMachine$Program;)V"⟩
def co_U_stepOnObjects : List (Nat × Instr) := [(0, .iload_n 2), (1, .tableswitch 72 10 12 #[27, 38, 55]), (28, .aload_n 0), (29, .aload_n 1), (30, .iload_n 3), (31, .aload 5), (33, .invokevirtual 120), (36, .goto 58), (39, .aload_n 0), (40, .aload_n 1), (41, .aload 5), (43, .getfield 124), (46, .iload_n 3), (47, .aaload), (48, .iload 4), (50, .invokevirtual 128), (53, .goto 41), (56, .aload_n 0), (57, .aload_n 1), (58, .aload 5), (60, .getfield 124), (63, .iload_n 3), (64, .aaload), (65, .iload 4), (67, .invokevirtual 132), (70, .goto 24), (73, .aload_n 1), (74, .aload_n 1), (75, .invokevirtual 94), (78, .aload_n 1), (79, .invokevirtual 94), (82, .if_icmp .ne 7), (85, .iconst 1), (86, .goto 4), (89, .iconst 0), (90, .iconst 0), (91, .invokevirtual 86), (94, .return_)]
def fl_U_stepOnObjects : List (Nat × Nat × Nat × Nat) := [(124, 2, 0, 2)]
def cb_U_stepOnObjects : List (Instr × Nat × Nat × Option Nat × am_F) := [(.invokevirtual 120, 120, 4, (some 8), f_U_makeObject), (.invokevirtual 128, 128, 4, (some 8), f_U_readField), (.invokevirtual 132, 132, 4, (some 8), f_U_writeField), (.invokevirtual 94, 94, 1, (some 7), f_F_take), (.invokevirtual 86, 86, 3, (some 7), f_F_put)]
def m_U_stepOnObjects : am_M := am_mk co_U_stepOnObjects fl_U_stepOnObjects (cb_U_stepOnObjects.map (fun z => z.2)) [] [] none 2
def f_U_stepOnObjects : am_F := am_mf m_U_stepOnObjects 6
theorem o_U_stepOnObjects : am_ok m_U_stepOnObjects := am_mk_ok (am_cb_ok (List.forall_mem_cons.mpr ⟨n_U_makeObject, (List.forall_mem_cons.mpr ⟨n_U_readField, (List.forall_mem_cons.mpr ⟨n_U_writeField, (List.forall_mem_cons.mpr ⟨n_F_take, (List.forall_mem_cons.mpr ⟨n_F_put, (fun _ h => absurd h List.not_mem_nil)⟩)⟩)⟩)⟩)⟩))
theorem n_U_stepOnObjects : am_mono f_U_stepOnObjects := am_mf_mono o_U_stepOnObjects
theorem g_U_stepOnObjects : ∀ x q, am_cal m_U_stepOnObjects x = some q → am_grow q.2.2 := am_mk_grow (am_cb_gr (List.forall_mem_cons.mpr ⟨h_U_makeObject, (List.forall_mem_cons.mpr ⟨h_U_readField, (List.forall_mem_cons.mpr ⟨h_U_writeField, (List.forall_mem_cons.mpr ⟨h_F_take, (List.forall_mem_cons.mpr ⟨h_F_put, (fun _ h => absurd h List.not_mem_nil)⟩)⟩)⟩)⟩)⟩))
theorem h_U_stepOnObjects : am_grow f_U_stepOnObjects := am_mf_grow g_U_stepOnObjects
def y_U_enter : MethodName := ⟨"PatchedMachine$Runner", "enter", "(LPatchedMachine$Frame;ILPatchedMachine$Routine;)V"⟩
def co_U_enter : List (Nat × Instr) := [(0, .aload_n 0), (1, .getfield 31), (4, .bipush 8), (6, .if_icmp .lt 9), (9, .aload_n 0), (10, .iconst 5), (11, .invokevirtual 113), (14, .return_), (15, .aload_n 0), (16, .getfield 11), (19, .aload_n 0), (20, .getfield 31), (23, .aaload), (24, .astore 4), (26, .aload 4), (28, .iload_n 2), (29, .invokevirtual 42), (32, .aload_n 3), (33, .getfield 116), (36, .iconst 1), (37, .isub), (38, .istore 5), (40, .iload 5), (42, .ifCond .lt 21), (45, .aload 4), (47, .getfield 90), (50, .iload 5), (52, .aload_n 1), (53, .invokevirtual 94), (56, .iastore), (57, .iinc 5 (-1)), (60, .goto (-20)), (63, .aload_n 0), (64, .dup), (65, .getfield 31), (68, .iconst 1), (69, .iadd), (70, .putfield 31), (73, .return_)]
def fl_U_enter : List (Nat × Nat × Nat × Nat) := [(31, 8, 3, 0), (11, 8, 0, 2), (116, 1, 4, 0), (90, 7, 0, 2)]
def cb_U_enter : List (Instr × Nat × Nat × Option Nat × am_F) := [(.invokevirtual 113, 113, 2, (some 8), f_U_end), (.invokevirtual 42, 42, 2, (some 7), f_F_begin), (.invokevirtual 94, 94, 1, (some 7), f_F_take)]
def m_U_enter : am_M := am_mk co_U_enter fl_U_enter (cb_U_enter.map (fun z => z.2)) [] [] none 2
def f_U_enter : am_F := am_mf m_U_enter 4
theorem o_U_enter : am_ok m_U_enter := am_mk_ok (am_cb_ok (List.forall_mem_cons.mpr ⟨n_U_end, (List.forall_mem_cons.mpr ⟨n_F_begin, (List.forall_mem_cons.mpr ⟨n_F_take, (fun _ h => absurd h List.not_mem_nil)⟩)⟩)⟩))
theorem n_U_enter : am_mono f_U_enter := am_mf_mono o_U_enter
theorem g_U_enter : ∀ x q, am_cal m_U_enter x = some q → am_grow q.2.2 := am_mk_grow (am_cb_gr (List.forall_mem_cons.mpr ⟨h_U_end, (List.forall_mem_cons.mpr ⟨h_F_begin, (List.forall_mem_cons.mpr ⟨h_F_take, (fun _ h => absurd h List.not_mem_nil)⟩)⟩)⟩))
theorem h_U_enter : am_grow f_U_enter := am_mf_grow g_U_enter
def y_U_leave : MethodName := ⟨"PatchedMachine$Runner", "leave", "(LPatchedMachine$Frame;LPatchedMachine$Routine;)V"⟩
def co_U_leave : List (Nat × Instr) := [(0, .aload_n 1), (1, .invokevirtual 94), (4, .istore_n 3), (5, .aload_n 0), (6, .getfield 31), (9, .iconst 1), (10, .if_icmp .gt 14), (13, .aload_n 0), (14, .iconst 2), (15, .invokevirtual 113), (18, .aload_n 0), (19, .iload_n 3), (20, .putfield 38), (23, .return_), (24, .aload_n 0), (25, .dup), (26, .getfield 31), (29, .iconst 1), (30, .isub), (31, .putfield 31), (34, .aload_n 0), (35, .getfield 11), (38, .aload_n 0), (39, .getfield 31), (42, .iconst 1), (43, .isub), (44, .aaload), (45, .iload_n 3), (46, .aload_n 2), (47, .getfield 119), (50, .invokevirtual 86), (53, .return_)]
def fl_U_leave : List (Nat × Nat × Nat × Nat) := [(31, 8, 3, 0), (38, 8, 5, 0), (11, 8, 0, 2), (119, 1, 5, 0)]
def cb_U_leave : List (Instr × Nat × Nat × Option Nat × am_F) := [(.invokevirtual 94, 94, 1, (some 7), f_F_take), (.invokevirtual 113, 113, 2, (some 8), f_U_end), (.invokevirtual 86, 86, 3, (some 7), f_F_put)]
def m_U_leave : am_M := am_mk co_U_leave fl_U_leave (cb_U_leave.map (fun z => z.2)) [] [] none 2
def f_U_leave : am_F := am_mf m_U_leave 3
theorem o_U_leave : am_ok m_U_leave := am_mk_ok (am_cb_ok (List.forall_mem_cons.mpr ⟨n_F_take, (List.forall_mem_cons.mpr ⟨n_U_end, (List.forall_mem_cons.mpr ⟨n_F_put, (fun _ h => absurd h List.not_mem_nil)⟩)⟩)⟩))
theorem n_U_leave : am_mono f_U_leave := am_mf_mono o_U_leave
theorem g_U_leave : ∀ x q, am_cal m_U_leave x = some q → am_grow q.2.2 := am_mk_grow (am_cb_gr (List.forall_mem_cons.mpr ⟨h_F_take, (List.forall_mem_cons.mpr ⟨h_U_end, (List.forall_mem_cons.mpr ⟨h_F_put, (fun _ h => absurd h List.not_mem_nil)⟩)⟩)⟩))
theorem h_U_leave : am_grow f_U_leave := am_mf_grow g_U_leave
def y_U_stepElsewhere : MethodName := ⟨"PatchedMachine$Runner", "stepElsewhere", "(LPatchedMachine$Frame;IILPatchedMachine$Program;)V"⟩
def co_U_stepElsewhere : List (Nat × Instr) := [(0, .iload_n 2), (1, .lookupswitch 74 #[(8, 35), (9, 43), (13, 58)]), (36, .aload_n 1), (37, .iload_n 3), (38, .putfield 55), (41, .goto 49), (44, .aload_n 1), (45, .invokevirtual 94), (48, .ifCond .ne 42), (51, .aload_n 1), (52, .iload_n 3), (53, .putfield 55), (56, .goto 34), (59, .aload_n 0), (60, .aload_n 1), (61, .iload_n 3), (62, .aload 4), (64, .getfield 49), (67, .iload_n 3), (68, .aaload), (69, .invokevirtual 105), (72, .goto 18), (75, .aload_n 0), (76, .aload_n 1), (77, .aload 4), (79, .getfield 49), (82, .aload_n 1), (83, .getfield 46), (86, .aaload), (87, .invokevirtual 109), (90, .return_)]
def fl_U_stepElsewhere : List (Nat × Nat × Nat × Nat) := [(55, 7, 5, 0), (49, 2, 1, 2), (46, 7, 4, 0)]
def cb_U_stepElsewhere : List (Instr × Nat × Nat × Option Nat × am_F) := [(.invokevirtual 94, 94, 1, (some 7), f_F_take), (.invokevirtual 105, 105, 4, (some 8), f_U_enter), (.invokevirtual 109, 109, 3, (some 8), f_U_leave)]
def m_U_stepElsewhere : am_M := am_mk co_U_stepElsewhere fl_U_stepElsewhere (cb_U_stepElsewhere.map (fun z => z.2)) [] [] none 2
def f_U_stepElsewhere : am_F := am_mf m_U_stepElsewhere 5
theorem o_U_stepElsewhere : am_ok m_U_stepElsewhere := am_mk_ok (am_cb_ok (List.forall_mem_cons.mpr ⟨n_F_take, (List.forall_mem_cons.mpr ⟨n_U_enter, (List.forall_mem_cons.mpr ⟨n_U_leave, (fun _ h => absurd h List.not_mem_nil)⟩)⟩)⟩))
theorem n_U_stepElsewhere : am_mono f_U_stepElsewhere := am_mf_mono o_U_stepElsewhere
theorem g_U_stepElsewhere : ∀ x q, am_cal m_U_stepElsewhere x = some q → am_grow q.2.2 := am_mk_grow (am_cb_gr (List.forall_mem_cons.mpr ⟨h_F_take, (List.forall_mem_cons.mpr ⟨h_U_enter, (List.forall_mem_cons.mpr ⟨h_U_leave, (fun _ h => absurd h List.not_mem_nil)⟩)⟩)⟩))
theorem h_U_stepElsewhere : am_grow f_U_stepElsewhere := am_mf_grow g_U_stepElsewhere
def y_J_floorMod : MethodName := ⟨"java/lang/Math", "floorMod", "(II)I"⟩
def co_J_floorMod : List (Nat × Instr) := [(0, .iload_n 0), (1, .iload_n 1), (2, .irem), (3, .istore_n 2), (4, .iload_n 0), (5, .iload_n 1), (6, .ixor), (7, .ifCond .ge 11), (10, .iload_n 2), (11, .ifCond .eq 7), (14, .iload_n 2), (15, .iload_n 1), (16, .iadd), (17, .ireturn), (18, .iload_n 2), (19, .ireturn)]
def fl_J_floorMod : List (Nat × Nat × Nat × Nat) := []
def cb_J_floorMod : List (Instr × Nat × Nat × Option Nat × am_F) := []
def m_J_floorMod : am_M := am_mk co_J_floorMod fl_J_floorMod (cb_J_floorMod.map (fun z => z.2)) [] [] none 0
def f_J_floorMod : am_F := am_mf m_J_floorMod 2
theorem o_J_floorMod : am_ok m_J_floorMod := am_mk_ok (am_cb_ok (fun _ h => absurd h List.not_mem_nil))
theorem n_J_floorMod : am_mono f_J_floorMod := am_mf_mono o_J_floorMod
theorem g_J_floorMod : ∀ x q, am_cal m_J_floorMod x = some q → am_grow q.2.2 := am_mk_grow (am_cb_gr (fun _ h => absurd h List.not_mem_nil))
theorem h_J_floorMod : am_grow f_J_floorMod := am_mf_grow g_J_floorMod
def y_O_print : MethodName := ⟨"PatchedMachine$Printer", "print", "(I)V"⟩
def co_O_print : List (Nat × Instr) := [(0, .aload_n 0), (1, .getfield 9), (4, .aload_n 0), (5, .getfield 15), (8, .bipush 16), (10, .invokestatic 19), (13, .iload_n 1), (14, .iastore), (15, .aload_n 0), (16, .dup), (17, .getfield 15), (20, .iconst 1), (21, .iadd), (22, .putfield 15), (25, .return_)]
def fl_O_print : List (Nat × Nat × Nat × Nat) := [(9, 6, 0, 2), (15, 6, 1, 0)]
def cb_O_print : List (Instr × Nat × Nat × Option Nat × am_F) := [(.invokestatic 19, 19, 2, none, f_J_floorMod)]
def m_O_print : am_M := am_mk co_O_print fl_O_print (cb_O_print.map (fun z => z.2)) [] [] none 2
def f_O_print : am_F := am_mf m_O_print 2
theorem o_O_print : am_ok m_O_print := am_mk_ok (am_cb_ok (List.forall_mem_cons.mpr ⟨n_J_floorMod, (fun _ h => absurd h List.not_mem_nil)⟩))
theorem n_O_print : am_mono f_O_print := am_mf_mono o_O_print
theorem g_O_print : ∀ x q, am_cal m_O_print x = some q → am_grow q.2.2 := am_mk_grow (am_cb_gr (List.forall_mem_cons.mpr ⟨h_J_floorMod, (fun _ h => absurd h List.not_mem_nil)⟩))
theorem h_O_print : am_grow f_O_print := am_mf_grow g_O_print
def y_U_calculate : MethodName := ⟨"PatchedMachine$Runner", "calculate", "(LPatchedMachine$Frame;I)V"⟩
def co_U_calculate : List (Nat × Instr) := [(0, .aload_n 0), (1, .invokevirtual 94), (4, .istore_n 2), (5, .aload_n 0), (6, .invokevirtual 94), (9, .istore_n 3), (10, .iload_n 1), (11, .tableswitch 58 4 6 #[25, 36, 47]), (36, .aload_n 0), (37, .iload_n 3), (38, .iload_n 2), (39, .iadd), (40, .iconst 0), (41, .invokevirtual 86), (44, .goto 40), (47, .aload_n 0), (48, .iload_n 3), (49, .iload_n 2), (50, .isub), (51, .iconst 0), (52, .invokevirtual 86), (55, .goto 29), (58, .aload_n 0), (59, .iload_n 3), (60, .iload_n 2), (61, .imul), (62, .iconst 0), (63, .invokevirtual 86), (66, .goto 18), (69, .aload_n 0), (70, .iload_n 3), (71, .iload_n 2), (72, .if_icmp .ge 7), (75, .iconst 1), (76, .goto 4), (79, .iconst 0), (80, .iconst 0), (81, .invokevirtual 86), (84, .return_)]
def fl_U_calculate : List (Nat × Nat × Nat × Nat) := []
def cb_U_calculate : List (Instr × Nat × Nat × Option Nat × am_F) := [(.invokevirtual 94, 94, 1, (some 7), f_F_take), (.invokevirtual 86, 86, 3, (some 7), f_F_put)]
def m_U_calculate : am_M := am_mk co_U_calculate fl_U_calculate (cb_U_calculate.map (fun z => z.2)) [] [] none 2
def f_U_calculate : am_F := am_mf m_U_calculate 2
theorem o_U_calculate : am_ok m_U_calculate := am_mk_ok (am_cb_ok (List.forall_mem_cons.mpr ⟨n_F_take, (List.forall_mem_cons.mpr ⟨n_F_put, (fun _ h => absurd h List.not_mem_nil)⟩)⟩))
theorem n_U_calculate : am_mono f_U_calculate := am_mf_mono o_U_calculate
theorem g_U_calculate : ∀ x q, am_cal m_U_calculate x = some q → am_grow q.2.2 := am_mk_grow (am_cb_gr (List.forall_mem_cons.mpr ⟨h_F_take, (List.forall_mem_cons.mpr ⟨h_F_put, (fun _ h => absurd h List.not_mem_nil)⟩)⟩))
theorem h_U_calculate : am_grow f_U_calculate := am_mf_grow g_U_calculate
def y_U_stepOnValues : MethodName := ⟨"PatchedMachine$Runner", "stepOnValues", "(LPatchedMachine$Frame;IILPatchedMachine$Routine;)V"⟩
def co_U_stepOnValues : List (Nat × Instr) := [(0, .iload_n 2), (1, .lookupswitch 116 #[(0, 51), (1, 60), (2, 69), (3, 89), (16, 102)]), (52, .aload_n 1), (53, .iload_n 3), (54, .iconst 0), (55, .invokevirtual 86), (58, .goto 64), (61, .aload_n 1), (62, .iconst 0), (63, .iload_n 3), (64, .invokevirtual 86), (67, .goto 55), (70, .aload_n 1), (71, .aload_n 1), (72, .getfield 90), (75, .iload_n 3), (76, .iaload), (77, .aload 4), (79, .getfield 93), (82, .iload_n 3), (83, .iaload), (84, .invokevirtual 86), (87, .goto 35), (90, .aload_n 1), (91, .getfield 90), (94, .iload_n 3), (95, .aload_n 1), (96, .invokevirtual 94), (99, .iastore), (100, .goto 22), (103, .aload_n 0), (104, .getfield 27), (107, .aload_n 1), (108, .invokevirtual 94), (111, .invokevirtual 98), (114, .goto 8), (117, .aload_n 1), (118, .iload_n 2), (119, .invokestatic 101), (122, .return_)]
def fl_U_stepOnValues : List (Nat × Nat × Nat × Nat) := [(90, 7, 0, 2), (93, 1, 0, 2), (27, 8, 2, 2)]
def cb_U_stepOnValues : List (Instr × Nat × Nat × Option Nat × am_F) := [(.invokevirtual 86, 86, 3, (some 7), f_F_put), (.invokevirtual 94, 94, 1, (some 7), f_F_take), (.invokevirtual 98, 98, 2, (some 6), f_O_print), (.invokestatic 101, 101, 2, none, f_U_calculate)]
def m_U_stepOnValues : am_M := am_mk co_U_stepOnValues fl_U_stepOnValues (cb_U_stepOnValues.map (fun z => z.2)) [] [] none 2
def f_U_stepOnValues : am_F := am_mf m_U_stepOnValues 5
theorem o_U_stepOnValues : am_ok m_U_stepOnValues := am_mk_ok (am_cb_ok (List.forall_mem_cons.mpr ⟨n_F_put, (List.forall_mem_cons.mpr ⟨n_F_take, (List.forall_mem_cons.mpr ⟨n_O_print, (List.forall_mem_cons.mpr ⟨n_U_calculate, (fun _ h => absurd h List.not_mem_nil)⟩)⟩)⟩)⟩))
theorem n_U_stepOnValues : am_mono f_U_stepOnValues := am_mf_mono o_U_stepOnValues
theorem g_U_stepOnValues : ∀ x q, am_cal m_U_stepOnValues x = some q → am_grow q.2.2 := am_mk_grow (am_cb_gr (List.forall_mem_cons.mpr ⟨h_F_put, (List.forall_mem_cons.mpr ⟨h_F_take, (List.forall_mem_cons.mpr ⟨h_O_print, (List.forall_mem_cons.mpr ⟨h_U_calculate, (fun _ h => absurd h List.not_mem_nil)⟩)⟩)⟩)⟩))
theorem h_U_stepOnValues : am_grow f_U_stepOnValues := am_mf_grow g_U_stepOnValues
def y_U_step : MethodName := ⟨"PatchedMachine$Runner", "step", "(LPatchedMachine$Program;)V"⟩
def co_U_step : List (Nat × Instr) := [(0, .aload_n 0), (1, .getfield 31), (4, .ifCond .ne 4), (7, .return_), (8, .aload_n 0), (9, .getfield 11), (12, .aload_n 0), (13, .getfield 31), (16, .iconst 1), (17, .isub), (18, .aaload), (19, .astore_n 2), (20, .aload_n 1), (21, .getfield 49), (24, .aload_n 2), (25, .getfield 46), (28, .aaload), (29, .astore_n 3), (30, .aload_n 2), (31, .getfield 55), (34, .istore 4), (36, .aload_n 3), (37, .iload 4), (39, .invokevirtual 58), (42, .ifCond .ne 4), (45, .return_), (46, .aload_n 2), (47, .iload 4), (49, .iconst 1), (50, .iadd), (51, .putfield 55), (54, .aload_n 3), (55, .getfield 64), (58, .iload 4), (60, .iaload), (61, .istore 5), (63, .iload 5), (65, .bipush 10), (67, .if_icmp .eq 24), (70, .iload 5), (72, .bipush 11), (74, .if_icmp .eq 17), (77, .iload 5), (79, .bipush 12), (81, .if_icmp .eq 10), (84, .iload 5), (86, .bipush 15), (88, .if_icmp .ne 28), (91, .aload_n 0), (92, .aload_n 2), (93, .iload 5), (95, .aload_n 3), (96, .getfield 68), (99, .iload 4), (101, .iaload), (102, .aload_n 3), (103, .getfield 71), (106, .iload 4), (108, .iaload), (109, .aload_n 1), (110, .invokevirtual 74), (113, .goto 64), (116, .iload 5), (118, .bipush 8), (120, .if_icmp .eq 24), (123, .iload 5), (125, .bipush 9), (127, .if_icmp .eq 17), (130, .iload 5), (132, .bipush 13), (134, .if_icmp .eq 10), (137, .iload 5), (139, .bipush 14), (141, .if_icmp .ne 21), (144, .aload_n 0), (145, .aload_n 2), (146, .iload 5), (148, .aload_n 3), (149, .getfield 68), (152, .iload 4), (154, .iaload), (155, .aload_n 1), (156, .invokevirtual 78), (159, .goto 18), (162, .aload_n 0), (163, .aload_n 2), (164, .iload 5), (166, .aload_n 3), (167, .getfield 68), (170, .iload 4), (172, .iaload), (173, .aload_n 3), (174, .invokevirtual 82), (177, .return_)]
def fl_U_step : List (Nat × Nat × Nat × Nat) := [(31, 8, 3, 0), (11, 8, 0, 2), (49, 2, 1, 2), (46, 7, 4, 0), (55, 7, 5, 0), (64, 1, 1, 2), (68, 1, 2, 2), (71, 1, 3, 2)]
def cb_U_step : List (Instr × Nat × Nat × Option Nat × am_F) := [(.invokevirtual 58, 58, 2, (some 1), f_R_hasPlace), (.invokevirtual 74, 74, 6, (some 8), f_U_stepOnObjects), (.invokevirtual 78, 78, 5, (some 8), f_U_stepElsewhere), (.invokevirtual 82, 82, 5, (some 8), f_U_stepOnValues)]
def m_U_step : am_M := am_mk co_U_step fl_U_step (cb_U_step.map (fun z => z.2)) [] [] none 2
def f_U_step : am_F := am_mf m_U_step 2
theorem o_U_step : am_ok m_U_step := am_mk_ok (am_cb_ok (List.forall_mem_cons.mpr ⟨n_R_hasPlace, (List.forall_mem_cons.mpr ⟨n_U_stepOnObjects, (List.forall_mem_cons.mpr ⟨n_U_stepElsewhere, (List.forall_mem_cons.mpr ⟨n_U_stepOnValues, (fun _ h => absurd h List.not_mem_nil)⟩)⟩)⟩)⟩))
theorem n_U_step : am_mono f_U_step := am_mf_mono o_U_step
theorem g_U_step : ∀ x q, am_cal m_U_step x = some q → am_grow q.2.2 := am_mk_grow (am_cb_gr (List.forall_mem_cons.mpr ⟨h_R_hasPlace, (List.forall_mem_cons.mpr ⟨h_U_stepOnObjects, (List.forall_mem_cons.mpr ⟨h_U_stepElsewhere, (List.forall_mem_cons.mpr ⟨h_U_stepOnValues, (fun _ h => absurd h List.not_mem_nil)⟩)⟩)⟩)⟩))
theorem h_U_step : am_grow f_U_step := am_mf_grow g_U_step
def y_X_run : MethodName := ⟨"PatchedMachine", "run", "(I)I"⟩
def co_X_run : List (Nat × Instr) := [(0, .iload_n 1), (1, .iconst 1), (2, .if_icmp .lt 20), (5, .iload_n 1), (6, .sipush 300), (9, .if_icmp .gt 13), (12, .aload_n 0), (13, .getfield 33), (16, .invokevirtual 140), (19, .ifCond .ne 5), (22, .iconst (-1)), (23, .ireturn), (24, .iconst 0), (25, .istore_n 2), (26, .iload_n 2), (27, .iload_n 1), (28, .if_icmp .ge 37), (31, .aload_n 0), (32, .getfield 33), (35, .invokevirtual 140), (38, .ifCond .eq 27), (41, .aload_n 0), (42, .getfield 33), (45, .aload_n 0), (46, .getfield 19), (49, .invokevirtual 143), (52, .invokevirtual 158), (55, .aload_n 0), (56, .invokevirtual 128), (59, .iinc 2 1), (62, .goto (-36)), (65, .iload_n 2), (66, .ireturn)]
def fl_X_run : List (Nat × Nat × Nat × Nat) := [(33, 9, 3, 2), (19, 9, 1, 2)]
def cb_X_run : List (Instr × Nat × Nat × Option Nat × am_F) := [(.invokevirtual 140, 140, 1, (some 8), f_U_goesOn), (.invokevirtual 143, 143, 1, (some 3), f_Q_present), (.invokevirtual 158, 158, 2, (some 8), f_U_step), (.invokevirtual 128, 128, 1, (some 9), f_X_applyWhatCan)]
def m_X_run : am_M := am_mk co_X_run fl_X_run (cb_X_run.map (fun z => z.2)) [] [] none 0
def f_X_run : am_F := am_mf m_X_run 2
theorem o_X_run : am_ok m_X_run := am_mk_ok (am_cb_ok (List.forall_mem_cons.mpr ⟨n_U_goesOn, (List.forall_mem_cons.mpr ⟨n_Q_present, (List.forall_mem_cons.mpr ⟨n_U_step, (List.forall_mem_cons.mpr ⟨n_X_applyWhatCan, (fun _ h => absurd h List.not_mem_nil)⟩)⟩)⟩)⟩))
theorem n_X_run : am_mono f_X_run := am_mf_mono o_X_run
theorem g_X_run : ∀ x q, am_cal m_X_run x = some q → am_grow q.2.2 := am_mk_grow (am_cb_gr (List.forall_mem_cons.mpr ⟨h_U_goesOn, (List.forall_mem_cons.mpr ⟨h_Q_present, (List.forall_mem_cons.mpr ⟨h_U_step, (List.forall_mem_cons.mpr ⟨h_X_applyWhatCan, (fun _ h => absurd h List.not_mem_nil)⟩)⟩)⟩)⟩))
theorem h_X_run : am_grow f_X_run := am_mf_grow g_X_run
def y_X_status : MethodName := ⟨"PatchedMachine", "status", "()I"⟩
def co_X_status : List (Nat × Instr) := [(0, .aload_n 0), (1, .getfield 33), (4, .getfield 161), (7, .ireturn)]
def fl_X_status : List (Nat × Nat × Nat × Nat) := [(33, 9, 3, 2), (161, 8, 4, 0)]
def cb_X_status : List (Instr × Nat × Nat × Option Nat × am_F) := []
def m_X_status : am_M := am_mk co_X_status fl_X_status (cb_X_status.map (fun z => z.2)) [] [] none 0
def f_X_status : am_F := am_mf m_X_status 1
theorem o_X_status : am_ok m_X_status := am_mk_ok (am_cb_ok (fun _ h => absurd h List.not_mem_nil))
theorem n_X_status : am_mono f_X_status := am_mf_mono o_X_status
theorem g_X_status : ∀ x q, am_cal m_X_status x = some q → am_grow q.2.2 := am_mk_grow (am_cb_gr (fun _ h => absurd h List.not_mem_nil))
theorem h_X_status : am_grow f_X_status := am_mf_grow g_X_status
def y_X_result : MethodName := ⟨"PatchedMachine", "result", "()I"⟩
def co_X_result : List (Nat × Instr) := [(0, .aload_n 0), (1, .getfield 33), (4, .getfield 164), (7, .ireturn)]
def fl_X_result : List (Nat × Nat × Nat × Nat) := [(33, 9, 3, 2), (164, 8, 5, 0)]
def cb_X_result : List (Instr × Nat × Nat × Option Nat × am_F) := []
def m_X_result : am_M := am_mk co_X_result fl_X_result (cb_X_result.map (fun z => z.2)) [] [] none 0
def f_X_result : am_F := am_mf m_X_result 1
theorem o_X_result : am_ok m_X_result := am_mk_ok (am_cb_ok (fun _ h => absurd h List.not_mem_nil))
theorem n_X_result : am_mono f_X_result := am_mf_mono o_X_result
theorem g_X_result : ∀ x q, am_cal m_X_result x = some q → am_grow q.2.2 := am_mk_grow (am_cb_gr (fun _ h => absurd h List.not_mem_nil))
theorem h_X_result : am_grow f_X_result := am_mf_grow g_X_result
def y_X_depth : MethodName := ⟨"PatchedMachine", "depth", "()I"⟩
def co_X_depth : List (Nat × Instr) := [(0, .aload_n 0), (1, .getfield 33), (4, .getfield 165), (7, .ireturn)]
def fl_X_depth : List (Nat × Nat × Nat × Nat) := [(33, 9, 3, 2), (165, 8, 3, 0)]
def cb_X_depth : List (Instr × Nat × Nat × Option Nat × am_F) := []
def m_X_depth : am_M := am_mk co_X_depth fl_X_depth (cb_X_depth.map (fun z => z.2)) [] [] none 0
def f_X_depth : am_F := am_mf m_X_depth 1
theorem o_X_depth : am_ok m_X_depth := am_mk_ok (am_cb_ok (fun _ h => absurd h List.not_mem_nil))
theorem n_X_depth : am_mono f_X_depth := am_mf_mono o_X_depth
theorem g_X_depth : ∀ x q, am_cal m_X_depth x = some q → am_grow q.2.2 := am_mk_grow (am_cb_gr (fun _ h => absurd h List.not_mem_nil))
theorem h_X_depth : am_grow f_X_depth := am_mf_grow g_X_depth
def y_X_frame : MethodName := ⟨"PatchedMachine", "frame", "(I)I"⟩
def co_X_frame : List (Nat × Instr) := [(0, .iload_n 1), (1, .ifCond .lt 14), (4, .iload_n 1), (5, .aload_n 0), (6, .getfield 33), (9, .getfield 165), (12, .if_icmp .lt 5), (15, .iconst (-1)), (16, .ireturn), (17, .aload_n 0), (18, .getfield 33), (21, .getfield 168), (24, .aload_n 0), (25, .getfield 33), (28, .getfield 165), (31, .iconst 1), (32, .isub), (33, .iload_n 1), (34, .isub), (35, .aaload), (36, .astore_n 2), (37, .bipush 100), (39, .aload_n 2), (40, .getfield 172), (43, .imul), (44, .aload_n 2), (45, .getfield 177), (48, .iadd), (49, .ireturn)]
def fl_X_frame : List (Nat × Nat × Nat × Nat) := [(33, 9, 3, 2), (165, 8, 3, 0), (168, 8, 0, 2), (172, 7, 4, 0), (177, 7, 5, 0)]
def cb_X_frame : List (Instr × Nat × Nat × Option Nat × am_F) := []
def m_X_frame : am_M := am_mk co_X_frame fl_X_frame (cb_X_frame.map (fun z => z.2)) [] [] none 0
def f_X_frame : am_F := am_mf m_X_frame 2
theorem o_X_frame : am_ok m_X_frame := am_mk_ok (am_cb_ok (fun _ h => absurd h List.not_mem_nil))
theorem n_X_frame : am_mono f_X_frame := am_mf_mono o_X_frame
theorem g_X_frame : ∀ x q, am_cal m_X_frame x = some q → am_grow q.2.2 := am_mk_grow (am_cb_gr (fun _ h => absurd h List.not_mem_nil))
theorem h_X_frame : am_grow f_X_frame := am_mf_grow g_X_frame
def y_X_objects : MethodName := ⟨"PatchedMachine", "objects", "()I"⟩
def co_X_objects : List (Nat × Instr) := [(0, .aload_n 0), (1, .getfield 33), (4, .getfield 180), (7, .getfield 184), (10, .ireturn)]
def fl_X_objects : List (Nat × Nat × Nat × Nat) := [(33, 9, 3, 2), (180, 8, 1, 2), (184, 5, 6, 0)]
def cb_X_objects : List (Instr × Nat × Nat × Option Nat × am_F) := []
def m_X_objects : am_M := am_mk co_X_objects fl_X_objects (cb_X_objects.map (fun z => z.2)) [] [] none 0
def f_X_objects : am_F := am_mf m_X_objects 1
theorem o_X_objects : am_ok m_X_objects := am_mk_ok (am_cb_ok (fun _ h => absurd h List.not_mem_nil))
theorem n_X_objects : am_mono f_X_objects := am_mf_mono o_X_objects
theorem g_X_objects : ∀ x q, am_cal m_X_objects x = some q → am_grow q.2.2 := am_mk_grow (am_cb_gr (fun _ h => absurd h List.not_mem_nil))
theorem h_X_objects : am_grow f_X_objects := am_mf_grow g_X_objects
def y_O_latestBut : MethodName := ⟨"PatchedMachine$Printer", "latestBut", "(I)I"⟩
def co_O_latestBut : List (Nat × Instr) := [(0, .iload_n 1), (1, .ifCond .lt 17), (4, .iload_n 1), (5, .bipush 16), (7, .if_icmp .ge 11), (10, .iload_n 1), (11, .aload_n 0), (12, .getfield 15), (15, .if_icmp .lt 5), (18, .iconst 0), (19, .ireturn), (20, .aload_n 0), (21, .getfield 9), (24, .aload_n 0), (25, .getfield 15), (28, .iconst 1), (29, .isub), (30, .iload_n 1), (31, .isub), (32, .bipush 16), (34, .invokestatic 19), (37, .iaload), (38, .ireturn)]
def fl_O_latestBut : List (Nat × Nat × Nat × Nat) := [(15, 6, 1, 0), (9, 6, 0, 2)]
def cb_O_latestBut : List (Instr × Nat × Nat × Option Nat × am_F) := [(.invokestatic 19, 19, 2, none, f_J_floorMod)]
def m_O_latestBut : am_M := am_mk co_O_latestBut fl_O_latestBut (cb_O_latestBut.map (fun z => z.2)) [] [] none 0
def f_O_latestBut : am_F := am_mf m_O_latestBut 2
theorem o_O_latestBut : am_ok m_O_latestBut := am_mk_ok (am_cb_ok (List.forall_mem_cons.mpr ⟨n_J_floorMod, (fun _ h => absurd h List.not_mem_nil)⟩))
theorem n_O_latestBut : am_mono f_O_latestBut := am_mf_mono o_O_latestBut
theorem g_O_latestBut : ∀ x q, am_cal m_O_latestBut x = some q → am_grow q.2.2 := am_mk_grow (am_cb_gr (List.forall_mem_cons.mpr ⟨h_J_floorMod, (fun _ h => absurd h List.not_mem_nil)⟩))
theorem h_O_latestBut : am_grow f_O_latestBut := am_mf_grow g_O_latestBut
def y_X_output : MethodName := ⟨"PatchedMachine", "output", "(I)I"⟩
def co_X_output : List (Nat × Instr) := [(0, .aload_n 0), (1, .getfield 33), (4, .getfield 189), (7, .iload_n 1), (8, .invokevirtual 193), (11, .ireturn)]
def fl_X_output : List (Nat × Nat × Nat × Nat) := [(33, 9, 3, 2), (189, 8, 2, 2)]
def cb_X_output : List (Instr × Nat × Nat × Option Nat × am_F) := [(.invokevirtual 193, 193, 2, (some 6), f_O_latestBut)]
def m_X_output : am_M := am_mk co_X_output fl_X_output (cb_X_output.map (fun z => z.2)) [] [] none 0
def f_X_output : am_F := am_mf m_X_output 2
theorem o_X_output : am_ok m_X_output := am_mk_ok (am_cb_ok (List.forall_mem_cons.mpr ⟨n_O_latestBut, (fun _ h => absurd h List.not_mem_nil)⟩))
theorem n_X_output : am_mono f_X_output := am_mf_mono o_X_output
theorem g_X_output : ∀ x q, am_cal m_X_output x = some q → am_grow q.2.2 := am_mk_grow (am_cb_gr (List.forall_mem_cons.mpr ⟨h_O_latestBut, (fun _ h => absurd h List.not_mem_nil)⟩))
theorem h_X_output : am_grow f_X_output := am_mf_grow g_X_output
def y_X_outputs : MethodName := ⟨"PatchedMachine", "outputs", "()I"⟩
def co_X_outputs : List (Nat × Instr) := [(0, .aload_n 0), (1, .getfield 33), (4, .getfield 189), (7, .getfield 198), (10, .ireturn)]
def fl_X_outputs : List (Nat × Nat × Nat × Nat) := [(33, 9, 3, 2), (189, 8, 2, 2), (198, 6, 1, 0)]
def cb_X_outputs : List (Instr × Nat × Nat × Option Nat × am_F) := []
def m_X_outputs : am_M := am_mk co_X_outputs fl_X_outputs (cb_X_outputs.map (fun z => z.2)) [] [] none 0
def f_X_outputs : am_F := am_mf m_X_outputs 1
theorem o_X_outputs : am_ok m_X_outputs := am_mk_ok (am_cb_ok (fun _ h => absurd h List.not_mem_nil))
theorem n_X_outputs : am_mono f_X_outputs := am_mf_mono o_X_outputs
theorem g_X_outputs : ∀ x q, am_cal m_X_outputs x = some q → am_grow q.2.2 := am_mk_grow (am_cb_gr (fun _ h => absurd h List.not_mem_nil))
theorem h_X_outputs : am_grow f_X_outputs := am_mf_grow g_X_outputs
def y_X_shape : MethodName := ⟨"PatchedMachine", "shape", "(II)I"⟩
def co_X_shape : List (Nat × Instr) := [(0, .iload_n 1), (1, .invokestatic 44), (4, .ifCond .ne 5), (7, .iconst (-1)), (8, .ireturn), (9, .aload_n 0), (10, .getfield 19), (13, .invokevirtual 143), (16, .getfield 61), (19, .iload_n 1), (20, .aaload), (21, .astore_n 3), (22, .iload_n 2), (23, .iconst (-1)), (24, .if_icmp .ne 8), (27, .aload_n 3), (28, .getfield 199), (31, .ireturn), (32, .iload_n 2), (33, .ifCond .lt 11), (36, .iload_n 2), (37, .aload_n 3), (38, .getfield 199), (41, .if_icmp .lt 5), (44, .iconst (-1)), (45, .ireturn), (46, .bipush 16), (48, .aload_n 3), (49, .getfield 202), (52, .iload_n 2), (53, .iaload), (54, .imul), (55, .aload_n 3), (56, .getfield 206), (59, .iload_n 2), (60, .iaload), (61, .iadd), (62, .ireturn)]
def fl_X_shape : List (Nat × Nat × Nat × Nat) := [(19, 9, 1, 2), (61, 2, 0, 2), (199, 0, 3, 0), (202, 0, 0, 2), (206, 0, 1, 2)]
def cb_X_shape : List (Instr × Nat × Nat × Option Nat × am_F) := [(.invokestatic 44, 44, 1, none, f_X_isClass), (.invokevirtual 143, 143, 1, (some 3), f_Q_present)]
def m_X_shape : am_M := am_mk co_X_shape fl_X_shape (cb_X_shape.map (fun z => z.2)) [] [] none 0
def f_X_shape : am_F := am_mf m_X_shape 3
theorem o_X_shape : am_ok m_X_shape := am_mk_ok (am_cb_ok (List.forall_mem_cons.mpr ⟨n_X_isClass, (List.forall_mem_cons.mpr ⟨n_Q_present, (fun _ h => absurd h List.not_mem_nil)⟩)⟩))
theorem n_X_shape : am_mono f_X_shape := am_mf_mono o_X_shape
theorem g_X_shape : ∀ x q, am_cal m_X_shape x = some q → am_grow q.2.2 := am_mk_grow (am_cb_gr (List.forall_mem_cons.mpr ⟨h_X_isClass, (List.forall_mem_cons.mpr ⟨h_Q_present, (fun _ h => absurd h List.not_mem_nil)⟩)⟩))
theorem h_X_shape : am_grow f_X_shape := am_mf_grow g_X_shape
def y_M_init : MethodName := ⟨"PatchedMachineModel", "<init>", "()V"⟩
def co_M_init : List (Nat × Instr) := [(0, .aload_n 0), (1, .invokespecial 1), (4, .aload_n 0), (5, .bipush 15), (7, .newarray .int), (9, .putfield 7), (12, .aload_n 0), (13, .bipush 60), (15, .newarray .int), (17, .putfield 13), (20, .aload_n 0), (21, .bipush 60), (23, .newarray .int), (25, .putfield 16), (28, .aload_n 0), (29, .bipush 60), (31, .newarray .int), (33, .putfield 19), (36, .aload_n 0), (37, .bipush 30), (39, .newarray .int), (41, .putfield 22), (44, .aload_n 0), (45, .bipush 30), (47, .newarray .int), (49, .putfield 25), (52, .aload_n 0), (53, .bipush 30), (55, .newarray .int), (57, .putfield 28), (60, .aload_n 0), (61, .bipush 30), (63, .newarray .int), (65, .putfield 31), (68, .aload_n 0), (69, .sipush 420), (72, .newarray .int), (74, .putfield 34), (77, .aload_n 0), (78, .sipush 420), (81, .newarray .int), (83, .putfield 37), (86, .aload_n 0), (87, .sipush 420), (90, .newarray .int), (92, .putfield 40), (95, .aload_n 0), (96, .iconst 5), (97, .newarray .int), (99, .putfield 43), (102, .aload_n 0), (103, .iconst 5), (104, .newarray .int), (106, .putfield 46), (109, .aload_n 0), (110, .iconst 5), (111, .newarray .int), (113, .putfield 49), (116, .aload_n 0), (117, .bipush 8), (119, .newarray .int), (121, .putfield 52), (124, .aload_n 0), (125, .bipush 8), (127, .newarray .int), (129, .putfield 55), (132, .aload_n 0), (133, .bipush 8), (135, .newarray .int), (137, .putfield 58), (140, .aload_n 0), (141, .bipush 32), (143, .newarray .int), (145, .putfield 61), (148, .aload_n 0), (149, .bipush 48), (151, .newarray .int), (153, .putfield 64), (156, .aload_n 0), (157, .bipush 48), (159, .newarray .int), (161, .putfield 67), (164, .aload_n 0), (165, .bipush 8), (167, .newarray .int), (169, .putfield 70), (172, .aload_n 0), (173, .bipush 17), (175, .newarray .int), (177, .putfield 73), (180, .aload_n 0), (181, .bipush 68), (183, .newarray .int), (185, .putfield 76), (188, .aload_n 0), (189, .bipush 17), (191, .newarray .boolean), (193, .putfield 79), (196, .aload_n 0), (197, .iconst 4), (198, .newarray .int), (200, .putfield 83), (203, .aload_n 0), (204, .bipush 16), (206, .newarray .int), (208, .putfield 86), (211, .return_)]
def fl_M_init : List (Nat × Nat × Nat × Nat) := [(7, 10, 0, 2), (13, 10, 1, 2), (16, 10, 2, 2), (19, 10, 3, 2), (22, 10, 4, 2), (25, 10, 5, 2), (28, 10, 6, 2), (31, 10, 7, 2), (34, 10, 8, 2), (37, 10, 9, 2), (40, 10, 10, 2), (43, 10, 11, 2), (46, 10, 12, 2), (49, 10, 13, 2), (52, 10, 17, 2), (55, 10, 22, 2), (58, 10, 23, 2), (61, 10, 24, 2), (64, 10, 25, 2), (67, 10, 26, 2), (70, 10, 27, 2), (73, 10, 28, 2), (76, 10, 29, 2), (79, 10, 30, 2), (83, 10, 31, 2), (86, 10, 32, 2)]
def cb_M_init : List (Instr × Nat × Nat × Option Nat × am_F) := [(.invokespecial 1, 1, 1, none, am_obj)]
def m_M_init : am_M := am_mk co_M_init fl_M_init (cb_M_init.map (fun z => z.2)) [] [] none 2
def f_M_init : am_F := am_mf m_M_init 1
theorem o_M_init : am_ok m_M_init := am_mk_ok (am_cb_ok (List.forall_mem_cons.mpr ⟨am_obj_mono, (fun _ h => absurd h List.not_mem_nil)⟩))
theorem n_M_init : am_mono f_M_init := am_mf_mono o_M_init
theorem g_M_init : ∀ x q, am_cal m_M_init x = some q → am_grow q.2.2 := am_mk_grow (am_cb_gr (List.forall_mem_cons.mpr ⟨am_obj_grow, (fun _ h => absurd h List.not_mem_nil)⟩))
theorem h_M_init : am_grow f_M_init := am_mf_grow g_M_init
def y_M_in : MethodName := ⟨"PatchedMachineModel", "in", "(III)Z"⟩
def co_M_in : List (Nat × Instr) := [(0, .iload_n 0), (1, .iload_n 1), (2, .if_icmp .lt 12), (5, .iload_n 0), (6, .iload_n 2), (7, .if_icmp .gt 7), (10, .iconst 1), (11, .goto 4), (14, .iconst 0), (15, .ireturn)]
def fl_M_in : List (Nat × Nat × Nat × Nat) := []
def cb_M_in : List (Instr × Nat × Nat × Option Nat × am_F) := []
def m_M_in : am_M := am_mk co_M_in fl_M_in (cb_M_in.map (fun z => z.2)) [] [] none 1
def f_M_in : am_F := am_mf m_M_in 3
theorem o_M_in : am_ok m_M_in := am_mk_ok (am_cb_ok (fun _ h => absurd h List.not_mem_nil))
theorem n_M_in : am_mono f_M_in := am_mf_mono o_M_in
theorem g_M_in : ∀ x q, am_cal m_M_in x = some q → am_grow q.2.2 := am_mk_grow (am_cb_gr (fun _ h => absurd h List.not_mem_nil))
theorem h_M_in : am_grow f_M_in := am_mf_grow g_M_in
def y_M_layout : MethodName := ⟨"PatchedMachineModel", "layout", "(I)Z"⟩
def co_M_layout : List (Nat × Instr) := [(0, .iload_n 1), (1, .iconst 1), (2, .iconst 3), (3, .invokestatic 89), (6, .ifCond .ne 5), (9, .iconst 0), (10, .ireturn), (11, .aload_n 0), (12, .getfield 7), (15, .bipush 12), (17, .iload_n 1), (18, .iadd), (19, .iconst 1), (20, .isub), (21, .iconst 0), (22, .iastore), (23, .aload_n 0), (24, .getfield 43), (27, .iconst 4), (28, .aload_n 0), (29, .getfield 43), (32, .iconst 4), (33, .iaload), (34, .iconst 1), (35, .iload_n 1), (36, .ishl), (37, .ior), (38, .iastore), (39, .iconst 1), (40, .ireturn)]
def fl_M_layout : List (Nat × Nat × Nat × Nat) := [(7, 10, 0, 2), (43, 10, 11, 2)]
def cb_M_layout : List (Instr × Nat × Nat × Option Nat × am_F) := [(.invokestatic 89, 89, 3, none, f_M_in)]
def m_M_layout : am_M := am_mk co_M_layout fl_M_layout (cb_M_layout.map (fun z => z.2)) [] [] none 1
def f_M_layout : am_F := am_mf m_M_layout 2
theorem o_M_layout : am_ok m_M_layout := am_mk_ok (am_cb_ok (List.forall_mem_cons.mpr ⟨n_M_in, (fun _ h => absurd h List.not_mem_nil)⟩))
theorem n_M_layout : am_mono f_M_layout := am_mf_mono o_M_layout
theorem g_M_layout : ∀ x q, am_cal m_M_layout x = some q → am_grow q.2.2 := am_mk_grow (am_cb_gr (List.forall_mem_cons.mpr ⟨h_M_in, (fun _ h => absurd h List.not_mem_nil)⟩))
theorem h_M_layout : am_grow f_M_layout := am_mf_grow g_M_layout
def y_M_find : MethodName := ⟨"PatchedMachineModel", "find", "(III)I"⟩
def co_M_find : List (Nat × Instr) := [(0, .iconst 0), (1, .istore 4), (3, .iload 4), (5, .aload_n 0), (6, .getfield 7), (9, .iconst 3), (10, .iload_n 1), (11, .imul), (12, .iload_n 2), (13, .iadd), (14, .iconst 1), (15, .isub), (16, .iaload), (17, .if_icmp .ge 33), (20, .aload_n 0), (21, .getfield 13), (24, .iconst 4), (25, .iconst 3), (26, .iload_n 1), (27, .imul), (28, .iload_n 2), (29, .iadd), (30, .iconst 1), (31, .isub), (32, .imul), (33, .iload 4), (35, .iadd), (36, .iaload), (37, .iload_n 3), (38, .if_icmp .ne 6), (41, .iload 4), (43, .ireturn), (44, .iinc 4 1), (47, .goto (-44)), (50, .iconst (-1)), (51, .ireturn)]
def fl_M_find : List (Nat × Nat × Nat × Nat) := [(7, 10, 0, 2), (13, 10, 1, 2)]
def cb_M_find : List (Instr × Nat × Nat × Option Nat × am_F) := []
def m_M_find : am_M := am_mk co_M_find fl_M_find (cb_M_find.map (fun z => z.2)) [] [] none 0
def f_M_find : am_F := am_mf m_M_find 4
theorem o_M_find : am_ok m_M_find := am_mk_ok (am_cb_ok (fun _ h => absurd h List.not_mem_nil))
theorem n_M_find : am_mono f_M_find := am_mf_mono o_M_find
theorem g_M_find : ∀ x q, am_cal m_M_find x = some q → am_grow q.2.2 := am_mk_grow (am_cb_gr (fun _ h => absurd h List.not_mem_nil))
theorem h_M_find : am_grow f_M_find := am_mf_grow g_M_find
def y_M_typeOf : MethodName := ⟨"PatchedMachineModel", "typeOf", "(III)I"⟩
def co_M_typeOf : List (Nat × Instr) := [(0, .aload_n 0), (1, .getfield 16), (4, .iconst 4), (5, .iconst 3), (6, .iload_n 1), (7, .imul), (8, .iload_n 2), (9, .iadd), (10, .iconst 1), (11, .isub), (12, .imul), (13, .iload_n 3), (14, .iadd), (15, .iaload), (16, .ireturn)]
def fl_M_typeOf : List (Nat × Nat × Nat × Nat) := [(16, 10, 2, 2)]
def cb_M_typeOf : List (Instr × Nat × Nat × Option Nat × am_F) := []
def m_M_typeOf : am_M := am_mk co_M_typeOf fl_M_typeOf (cb_M_typeOf.map (fun z => z.2)) [] [] none 0
def f_M_typeOf : am_F := am_mf m_M_typeOf 4
theorem o_M_typeOf : am_ok m_M_typeOf := am_mk_ok (am_cb_ok (fun _ h => absurd h List.not_mem_nil))
theorem n_M_typeOf : am_mono f_M_typeOf := am_mf_mono o_M_typeOf
theorem g_M_typeOf : ∀ x q, am_cal m_M_typeOf x = some q → am_grow q.2.2 := am_mk_grow (am_cb_gr (fun _ h => absurd h List.not_mem_nil))
theorem h_M_typeOf : am_grow f_M_typeOf := am_mf_grow g_M_typeOf
def y_M_field : MethodName := ⟨"PatchedMachineModel", "field", "(IIII)Z"⟩
def co_M_field : List (Nat × Instr) := [(0, .iload_n 1), (1, .iconst 1), (2, .iconst 3), (3, .invokestatic 89), (6, .ifCond .eq 60), (9, .aload_n 0), (10, .getfield 43), (13, .iconst 4), (14, .iaload), (15, .iload_n 1), (16, .ishr), (17, .iconst 1), (18, .iand), (19, .ifCond .eq 47), (22, .aload_n 0), (23, .getfield 7), (26, .bipush 12), (28, .iload_n 1), (29, .iadd), (30, .iconst 1), (31, .isub), (32, .iaload), (33, .iconst 4), (34, .if_icmp .eq 32), (37, .iload_n 2), (38, .iconst 0), (39, .bipush 9), (41, .invokestatic 89), (44, .ifCond .eq 22), (47, .aload_n 0), (48, .iconst 4), (49, .iload_n 1), (50, .iload_n 2), (51, .invokevirtual 93), (54, .ifCond .ge 12), (57, .iload_n 3), (58, .iconst 0), (59, .iconst 3), (60, .invokestatic 89), (63, .ifCond .ne 5), (66, .iconst 0), (67, .ireturn), (68, .iload 4), (70, .iconst (-1)), (71, .if_icmp .ne 7), (74, .iconst (-1)), (75, .goto 14), (78, .aload_n 0), (79, .aload_n 0), (80, .getfield 97), (83, .iload_n 1), (84, .iload 4), (86, .invokevirtual 93), (89, .istore 5), (91, .iload 4), (93, .iconst (-1)), (94, .if_icmp .eq 25), (97, .iload 5), (99, .ifCond .lt 18), (102, .aload_n 0), (103, .aload_n 0), (104, .getfield 97), (107, .iload_n 1), (108, .iload 5), (110, .invokevirtual 101), (113, .iload_n 3), (114, .if_icmp .eq 5), (117, .iconst 0), (118, .ireturn), (119, .iconst 4), (120, .bipush 12), (122, .iload_n 1), (123, .iadd), (124, .iconst 1), (125, .isub), (126, .imul), (127, .aload_n 0), (128, .getfield 7), (131, .bipush 12), (133, .iload_n 1), (134, .iadd), (135, .iconst 1), (136, .isub), (137, .iaload), (138, .iadd), (139, .istore 6), (141, .aload_n 0), (142, .getfield 13), (145, .iload 6), (147, .iload_n 2), (148, .iastore), (149, .aload_n 0), (150, .getfield 16), (153, .iload 6), (155, .iload_n 3), (156, .iastore), (157, .aload_n 0), (158, .getfield 19), (161, .iload 6), (163, .iload 4), (165, .iastore), (166, .aload_n 0), (167, .getfield 7), (170, .bipush 12), (172, .iload_n 1), (173, .iadd), (174, .iconst 1), (175, .isub), (176, .dup2), (177, .iaload), (178, .iconst 1), (179, .iadd), (180, .iastore), (181, .iconst 1), (182, .ireturn)]
def fl_M_field : List (Nat × Nat × Nat × Nat) := [(43, 10, 11, 2), (7, 10, 0, 2), (97, 10, 14, 0), (13, 10, 1, 2), (16, 10, 2, 2), (19, 10, 3, 2)]
def cb_M_field : List (Instr × Nat × Nat × Option Nat × am_F) := [(.invokestatic 89, 89, 3, none, f_M_in), (.invokevirtual 93, 93, 4, (some 10), f_M_find), (.invokevirtual 101, 101, 4, (some 10), f_M_typeOf)]
def m_M_field : am_M := am_mk co_M_field fl_M_field (cb_M_field.map (fun z => z.2)) [] [] none 1
def f_M_field : am_F := am_mf m_M_field 5
theorem o_M_field : am_ok m_M_field := am_mk_ok (am_cb_ok (List.forall_mem_cons.mpr ⟨n_M_in, (List.forall_mem_cons.mpr ⟨n_M_find, (List.forall_mem_cons.mpr ⟨n_M_typeOf, (fun _ h => absurd h List.not_mem_nil)⟩)⟩)⟩))
theorem n_M_field : am_mono f_M_field := am_mf_mono o_M_field
theorem g_M_field : ∀ x q, am_cal m_M_field x = some q → am_grow q.2.2 := am_mk_grow (am_cb_gr (List.forall_mem_cons.mpr ⟨h_M_in, (List.forall_mem_cons.mpr ⟨h_M_find, (List.forall_mem_cons.mpr ⟨h_M_typeOf, (fun _ h => absurd h List.not_mem_nil)⟩)⟩)⟩))
theorem h_M_field : am_grow f_M_field := am_mf_grow g_M_field
def y_M_head : MethodName := ⟨"PatchedMachineModel", "head", "(IIII)Z"⟩
def co_M_head : List (Nat × Instr) := [(0, .iload_n 1), (1, .iconst 0), (2, .iconst 5), (3, .invokestatic 89), (6, .ifCond .eq 33), (9, .iload_n 2), (10, .iconst 0), (11, .iconst 3), (12, .invokestatic 89), (15, .ifCond .eq 24), (18, .iload_n 3), (19, .iconst 0), (20, .sipush 255), (23, .invokestatic 89), (26, .ifCond .eq 13), (29, .iload 4), (31, .iconst 0), (32, .iconst 3), (33, .invokestatic 89), (36, .ifCond .ne 5), (39, .iconst 0), (40, .ireturn), (41, .bipush 24), (43, .iload_n 1), (44, .iadd), (45, .istore 5), (47, .aload_n 0), (48, .getfield 22), (51, .iload 5), (53, .iload_n 2), (54, .iastore), (55, .aload_n 0), (56, .getfield 25), (59, .iload 5), (61, .iload_n 3), (62, .iastore), (63, .aload_n 0), (64, .getfield 28), (67, .iload 5), (69, .iload 4), (71, .iastore), (72, .aload_n 0), (73, .getfield 31), (76, .iload 5), (78, .iconst 0), (79, .iastore), (80, .aload_n 0), (81, .getfield 46), (84, .iconst 4), (85, .aload_n 0), (86, .getfield 46), (89, .iconst 4), (90, .iaload), (91, .iconst 1), (92, .iload_n 1), (93, .ishl), (94, .ior), (95, .iastore), (96, .iconst 1), (97, .ireturn)]
def fl_M_head : List (Nat × Nat × Nat × Nat) := [(22, 10, 4, 2), (25, 10, 5, 2), (28, 10, 6, 2), (31, 10, 7, 2), (46, 10, 12, 2)]
def cb_M_head : List (Instr × Nat × Nat × Option Nat × am_F) := [(.invokestatic 89, 89, 3, none, f_M_in)]
def m_M_head : am_M := am_mk co_M_head fl_M_head (cb_M_head.map (fun z => z.2)) [] [] none 1
def f_M_head : am_F := am_mf m_M_head 5
theorem o_M_head : am_ok m_M_head := am_mk_ok (am_cb_ok (List.forall_mem_cons.mpr ⟨n_M_in, (fun _ h => absurd h List.not_mem_nil)⟩))
theorem n_M_head : am_mono f_M_head := am_mf_mono o_M_head
theorem g_M_head : ∀ x q, am_cal m_M_head x = some q → am_grow q.2.2 := am_mk_grow (am_cb_gr (List.forall_mem_cons.mpr ⟨h_M_in, (fun _ h => absurd h List.not_mem_nil)⟩))
theorem h_M_head : am_grow f_M_head := am_mf_grow g_M_head
def y_M_named : MethodName := ⟨"PatchedMachineModel", "named", "(III)Z"⟩
def co_M_named : List (Nat × Instr) := [(0, .iload_n 0), (1, .bipush 11), (3, .if_icmp .eq 9), (6, .iload_n 0), (7, .bipush 12), (9, .if_icmp .ne 7), (12, .iconst 1), (13, .goto 4), (16, .iconst 0), (17, .istore_n 3), (18, .iload_n 3), (19, .ifCond .eq 13), (22, .iload_n 2), (23, .iconst 0), (24, .bipush 9), (26, .invokestatic 89), (29, .goto 12), (32, .iload_n 2), (33, .ifCond .ne 7), (36, .iconst 1), (37, .goto 4), (40, .iconst 0), (41, .istore 4), (43, .iload_n 0), (44, .iconst 1), (45, .if_icmp .eq 19), (48, .iload_n 0), (49, .bipush 10), (51, .if_icmp .eq 13), (54, .iload_n 3), (55, .ifCond .ne 9), (58, .iload_n 0), (59, .bipush 15), (61, .if_icmp .ne 7), (64, .iconst 1), (65, .goto 4), (68, .iconst 0), (69, .istore 5), (71, .iload_n 0), (72, .iconst 2), (73, .if_icmp .eq 8), (76, .iload_n 0), (77, .iconst 3), (78, .if_icmp .ne 7), (81, .iconst 1), (82, .goto 4), (85, .iconst 0), (86, .istore 6), (88, .iload 5), (90, .ifCond .eq 7), (93, .iconst 1), (94, .goto 4), (97, .iconst 0), (98, .istore 7), (100, .iload 5), (102, .ifCond .ne 8), (105, .iload 6), (107, .ifCond .eq 7), (110, .iconst 3), (111, .goto 31), (114, .iload_n 0), (115, .bipush 8), (117, .if_icmp .eq 9), (120, .iload_n 0), (121, .bipush 9), (123, .if_icmp .ne 8), (126, .bipush 13), (128, .goto 14), (131, .iload_n 0), (132, .bipush 13), (134, .if_icmp .ne 7), (137, .iconst 5), (138, .goto 4), (141, .iconst 0), (142, .istore 8), (144, .iload 4), (146, .ifCond .eq 22), (149, .iload_n 0), (150, .ifCond .eq 14), (153, .iload_n 1), (154, .iload 7), (156, .iload 8), (158, .invokestatic 89), (161, .ifCond .eq 7), (164, .iconst 1), (165, .goto 4), (168, .iconst 0), (169, .ireturn)]
def fl_M_named : List (Nat × Nat × Nat × Nat) := []
def cb_M_named : List (Instr × Nat × Nat × Option Nat × am_F) := [(.invokestatic 89, 89, 3, none, f_M_in)]
def m_M_named : am_M := am_mk co_M_named fl_M_named (cb_M_named.map (fun z => z.2)) [] [] none 1
def f_M_named : am_F := am_mf m_M_named 3
theorem o_M_named : am_ok m_M_named := am_mk_ok (am_cb_ok (List.forall_mem_cons.mpr ⟨n_M_in, (fun _ h => absurd h List.not_mem_nil)⟩))
theorem n_M_named : am_mono f_M_named := am_mf_mono o_M_named
theorem g_M_named : ∀ x q, am_cal m_M_named x = some q → am_grow q.2.2 := am_mk_grow (am_cb_gr (List.forall_mem_cons.mpr ⟨h_M_in, (fun _ h => absurd h List.not_mem_nil)⟩))
theorem h_M_named : am_grow f_M_named := am_mf_grow g_M_named
def y_M_code : MethodName := ⟨"PatchedMachineModel", "code", "(IIII)Z"⟩
def co_M_code : List (Nat × Instr) := [(0, .iload_n 1), (1, .iconst 0), (2, .iconst 5), (3, .invokestatic 89), (6, .ifCond .eq 50), (9, .aload_n 0), (10, .getfield 46), (13, .iconst 4), (14, .iaload), (15, .iload_n 1), (16, .ishr), (17, .iconst 1), (18, .iand), (19, .ifCond .eq 37), (22, .aload_n 0), (23, .getfield 31), (26, .bipush 24), (28, .iload_n 1), (29, .iadd), (30, .iaload), (31, .bipush 14), (33, .if_icmp .eq 23), (36, .iload_n 2), (37, .iconst 0), (38, .bipush 16), (40, .invokestatic 89), (43, .ifCond .eq 13), (46, .iload_n 2), (47, .iload_n 3), (48, .iload 4), (50, .invokestatic 104), (53, .ifCond .ne 5), (56, .iconst 0), (57, .ireturn), (58, .bipush 14), (60, .bipush 24), (62, .iload_n 1), (63, .iadd), (64, .imul), (65, .aload_n 0), (66, .getfield 31), (69, .bipush 24), (71, .iload_n 1), (72, .iadd), (73, .iaload), (74, .iadd), (75, .istore 5), (77, .aload_n 0), (78, .getfield 34), (81, .iload 5), (83, .iload_n 2), (84, .iastore), (85, .aload_n 0), (86, .getfield 37), (89, .iload 5), (91, .iload_n 3), (92, .iastore), (93, .aload_n 0), (94, .getfield 40), (97, .iload 5), (99, .iload 4), (101, .iastore), (102, .aload_n 0), (103, .getfield 31), (106, .bipush 24), (108, .iload_n 1), (109, .iadd), (110, .dup2), (111, .iaload), (112, .iconst 1), (113, .iadd), (114, .iastore), (115, .iconst 1), (116, .ireturn)]
def fl_M_code : List (Nat × Nat × Nat × Nat) := [(46, 10, 12, 2), (31, 10, 7, 2), (34, 10, 8, 2), (37, 10, 9, 2), (40, 10, 10, 2)]
def cb_M_code : List (Instr × Nat × Nat × Option Nat × am_F) := [(.invokestatic 89, 89, 3, none, f_M_in), (.invokestatic 104, 104, 3, none, f_M_named)]
def m_M_code : am_M := am_mk co_M_code fl_M_code (cb_M_code.map (fun z => z.2)) [] [] none 1
def f_M_code : am_F := am_mf m_M_code 5
theorem o_M_code : am_ok m_M_code := am_mk_ok (am_cb_ok (List.forall_mem_cons.mpr ⟨n_M_in, (List.forall_mem_cons.mpr ⟨n_M_named, (fun _ h => absurd h List.not_mem_nil)⟩)⟩))
theorem n_M_code : am_mono f_M_code := am_mf_mono o_M_code
theorem g_M_code : ∀ x q, am_cal m_M_code x = some q → am_grow q.2.2 := am_mk_grow (am_cb_gr (List.forall_mem_cons.mpr ⟨h_M_in, (List.forall_mem_cons.mpr ⟨h_M_named, (fun _ h => absurd h List.not_mem_nil)⟩)⟩))
theorem h_M_code : am_grow f_M_code := am_mf_grow g_M_code
def y_M_copy : MethodName := ⟨"PatchedMachineModel", "copy", "(II)V"⟩
def co_M_copy : List (Nat × Instr) := [(0, .iconst 0), (1, .istore_n 3), (2, .iload_n 3), (3, .iconst 3), (4, .if_icmp .ge 110), (7, .aload_n 0), (8, .getfield 7), (11, .iconst 3), (12, .iload_n 2), (13, .imul), (14, .iload_n 3), (15, .iadd), (16, .aload_n 0), (17, .getfield 7), (20, .iconst 3), (21, .iload_n 1), (22, .imul), (23, .iload_n 3), (24, .iadd), (25, .iaload), (26, .iastore), (27, .iconst 0), (28, .istore 4), (30, .iload 4), (32, .iconst 4), (33, .if_icmp .ge 75), (36, .iconst 4), (37, .iconst 3), (38, .iload_n 1), (39, .imul), (40, .iload_n 3), (41, .iadd), (42, .imul), (43, .iload 4), (45, .iadd), (46, .istore 5), (48, .iconst 4), (49, .iconst 3), (50, .iload_n 2), (51, .imul), (52, .iload_n 3), (53, .iadd), (54, .imul), (55, .iload 4), (57, .iadd), (58, .istore 6), (60, .aload_n 0), (61, .getfield 13), (64, .iload 6), (66, .aload_n 0), (67, .getfield 13), (70, .iload 5), (72, .iaload), (73, .iastore), (74, .aload_n 0), (75, .getfield 16), (78, .iload 6), (80, .aload_n 0), (81, .getfield 16), (84, .iload 5), (86, .iaload), (87, .iastore), (88, .aload_n 0), (89, .getfield 19), (92, .iload 6), (94, .aload_n 0), (95, .getfield 19), (98, .iload 5), (100, .iaload), (101, .iastore), (102, .iinc 4 1), (105, .goto (-75)), (108, .iinc 3 1), (111, .goto (-109)), (114, .iconst 0), (115, .istore_n 3), (116, .iload_n 3), (117, .bipush 6), (119, .if_icmp .ge 175), (122, .bipush 6), (124, .iload_n 1), (125, .imul), (126, .iload_n 3), (127, .iadd), (128, .istore 4), (130, .bipush 6), (132, .iload_n 2), (133, .imul), (134, .iload_n 3), (135, .iadd), (136, .istore 5), (138, .aload_n 0), (139, .getfield 22), (142, .iload 5), (144, .aload_n 0), (145, .getfield 22), (148, .iload 4), (150, .iaload), (151, .iastore), (152, .aload_n 0), (153, .getfield 25), (156, .iload 5), (158, .aload_n 0), (159, .getfield 25), (162, .iload 4), (164, .iaload), (165, .iastore), (166, .aload_n 0), (167, .getfield 28), (170, .iload 5), (172, .aload_n 0), (173, .getfield 28), (176, .iload 4), (178, .iaload), (179, .iastore), (180, .aload_n 0), (181, .getfield 31), (184, .iload 5), (186, .aload_n 0), (187, .getfield 31), (190, .iload 4), (192, .iaload), (193, .iastore), (194, .iconst 0), (195, .istore 6), (197, .iload 6), (199, .bipush 14), (201, .if_icmp .ge 87), (204, .aload_n 0), (205, .getfield 34), (208, .bipush 14), (210, .iload 5), (212, .imul), (213, .iload 6), (215, .iadd), (216, .aload_n 0), (217, .getfield 34), (220, .bipush 14), (222, .iload 4), (224, .imul), (225, .iload 6), (227, .iadd), (228, .iaload), (229, .iastore), (230, .aload_n 0), (231, .getfield 37), (234, .bipush 14), (236, .iload 5), (238, .imul), (239, .iload 6), (241, .iadd), (242, .aload_n 0), (243, .getfield 37), (246, .bipush 14), (248, .iload 4), (250, .imul), (251, .iload 6), (253, .iadd), (254, .iaload), (255, .iastore), (256, .aload_n 0), (257, .getfield 40), (260, .bipush 14), (262, .iload 5), (264, .imul), (265, .iload 6), (267, .iadd), (268, .aload_n 0), (269, .getfield 40), (272, .bipush 14), (274, .iload 4), (276, .imul), (277, .iload 6), (279, .iadd), (280, .iaload), (281, .iastore), (282, .iinc 6 1), (285, .goto (-88)), (288, .iinc 3 1), (291, .goto (-175)), (294, .aload_n 0), (295, .getfield 43), (298, .iload_n 2), (299, .aload_n 0), (300, .getfield 43), (303, .iload_n 1), (304, .iaload), (305, .iastore), (306, .aload_n 0), (307, .getfield 46), (310, .iload_n 2), (311, .aload_n 0), (312, .getfield 46), (315, .iload_n 1), (316, .iaload), (317, .iastore), (318, .aload_n 0), (319, .getfield 49), (322, .iload_n 2), (323, .aload_n 0), (324, .getfield 49), (327, .iload_n 1), (328, .iaload), (329, .iastore), (330, .return_)]
def fl_M_copy : List (Nat × Nat × Nat × Nat) := [(7, 10, 0, 2), (13, 10, 1, 2), (16, 10, 2, 2), (19, 10, 3, 2), (22, 10, 4, 2), (25, 10, 5, 2), (28, 10, 6, 2), (31, 10, 7, 2), (34, 10, 8, 2), (37, 10, 9, 2), (40, 10, 10, 2), (43, 10, 11, 2), (46, 10, 12, 2), (49, 10, 13, 2)]
def cb_M_copy : List (Instr × Nat × Nat × Option Nat × am_F) := []
def m_M_copy : am_M := am_mk co_M_copy fl_M_copy (cb_M_copy.map (fun z => z.2)) [] [] none 2
def f_M_copy : am_F := am_mf m_M_copy 3
theorem o_M_copy : am_ok m_M_copy := am_mk_ok (am_cb_ok (fun _ h => absurd h List.not_mem_nil))
theorem n_M_copy : am_mono f_M_copy := am_mf_mono o_M_copy
theorem g_M_copy : ∀ x q, am_cal m_M_copy x = some q → am_grow q.2.2 := am_mk_grow (am_cb_gr (fun _ h => absurd h List.not_mem_nil))
theorem h_M_copy : am_grow f_M_copy := am_mf_grow g_M_copy
def y_M_renew : MethodName := ⟨"PatchedMachineModel", "renew", "()V"⟩
def co_M_renew : List (Nat × Instr) := [(0, .aload_n 0), (1, .aload_n 0), (2, .getfield 97), (5, .iconst 4), (6, .invokevirtual 107), (9, .aload_n 0), (10, .getfield 43), (13, .iconst 4), (14, .iconst 0), (15, .iastore), (16, .aload_n 0), (17, .getfield 46), (20, .iconst 4), (21, .iconst 0), (22, .iastore), (23, .return_)]
def fl_M_renew : List (Nat × Nat × Nat × Nat) := [(97, 10, 14, 0), (43, 10, 11, 2), (46, 10, 12, 2)]
def cb_M_renew : List (Instr × Nat × Nat × Option Nat × am_F) := [(.invokevirtual 107, 107, 3, (some 10), f_M_copy)]
def m_M_renew : am_M := am_mk co_M_renew fl_M_renew (cb_M_renew.map (fun z => z.2)) [] [] none 2
def f_M_renew : am_F := am_mf m_M_renew 1
theorem o_M_renew : am_ok m_M_renew := am_mk_ok (am_cb_ok (List.forall_mem_cons.mpr ⟨n_M_copy, (fun _ h => absurd h List.not_mem_nil)⟩))
theorem n_M_renew : am_mono f_M_renew := am_mf_mono o_M_renew
theorem g_M_renew : ∀ x q, am_cal m_M_renew x = some q → am_grow q.2.2 := am_mk_grow (am_cb_gr (List.forall_mem_cons.mpr ⟨h_M_copy, (fun _ h => absurd h List.not_mem_nil)⟩))
theorem h_M_renew : am_grow f_M_renew := am_mf_grow g_M_renew
def y_M_drop : MethodName := ⟨"PatchedMachineModel", "drop", "()Z"⟩
def co_M_drop : List (Nat × Instr) := [(0, .aload_n 0), (1, .getfield 43), (4, .iconst 4), (5, .iaload), (6, .ifCond .ne 14), (9, .aload_n 0), (10, .getfield 46), (13, .iconst 4), (14, .iaload), (15, .ifCond .ne 5), (18, .iconst 0), (19, .ireturn), (20, .aload_n 0), (21, .invokevirtual 111), (24, .iconst 1), (25, .ireturn)]
def fl_M_drop : List (Nat × Nat × Nat × Nat) := [(43, 10, 11, 2), (46, 10, 12, 2)]
def cb_M_drop : List (Instr × Nat × Nat × Option Nat × am_F) := [(.invokevirtual 111, 111, 1, (some 10), f_M_renew)]
def m_M_drop : am_M := am_mk co_M_drop fl_M_drop (cb_M_drop.map (fun z => z.2)) [] [] none 1
def f_M_drop : am_F := am_mf m_M_drop 1
theorem o_M_drop : am_ok m_M_drop := am_mk_ok (am_cb_ok (List.forall_mem_cons.mpr ⟨n_M_renew, (fun _ h => absurd h List.not_mem_nil)⟩))
theorem n_M_drop : am_mono f_M_drop := am_mf_mono o_M_drop
theorem g_M_drop : ∀ x q, am_cal m_M_drop x = some q → am_grow q.2.2 := am_mk_grow (am_cb_gr (List.forall_mem_cons.mpr ⟨h_M_renew, (fun _ h => absurd h List.not_mem_nil)⟩))
theorem h_M_drop : am_grow f_M_drop := am_mf_grow g_M_drop
def y_M_puts : MethodName := ⟨"PatchedMachineModel", "puts", "(I)Z"⟩
def co_M_puts : List (Nat × Instr) := [(0, .aload_n 0), (1, .getfield 52), (4, .aload_n 0), (5, .getfield 114), (8, .iload_n 1), (9, .iastore), (10, .aload_n 0), (11, .dup), (12, .getfield 114), (15, .iconst 1), (16, .iadd), (17, .putfield 114), (20, .aload_n 0), (21, .getfield 114), (24, .bipush 6), (26, .if_icmp .gt 7), (29, .iconst 1), (30, .goto 4), (33, .iconst 0), (34, .ireturn)]
def fl_M_puts : List (Nat × Nat × Nat × Nat) := [(52, 10, 17, 2), (114, 10, 18, 0)]
def cb_M_puts : List (Instr × Nat × Nat × Option Nat × am_F) := []
def m_M_puts : am_M := am_mk co_M_puts fl_M_puts (cb_M_puts.map (fun z => z.2)) [] [] none 1
def f_M_puts : am_F := am_mf m_M_puts 2
theorem o_M_puts : am_ok m_M_puts := am_mk_ok (am_cb_ok (fun _ h => absurd h List.not_mem_nil))
theorem n_M_puts : am_mono f_M_puts := am_mf_mono o_M_puts
theorem g_M_puts : ∀ x q, am_cal m_M_puts x = some q → am_grow q.2.2 := am_mk_grow (am_cb_gr (fun _ h => absurd h List.not_mem_nil))
theorem h_M_puts : am_grow f_M_puts := am_mf_grow g_M_puts
def y_M_local : MethodName := ⟨"PatchedMachineModel", "local", "(II)I"⟩
def co_M_local : List (Nat × Instr) := [(0, .aload_n 0), (1, .getfield 25), (4, .iload_n 1), (5, .iaload), (6, .iconst 2), (7, .iload_n 2), (8, .imul), (9, .ishr), (10, .iconst 3), (11, .iand), (12, .ireturn)]
def fl_M_local : List (Nat × Nat × Nat × Nat) := [(25, 10, 5, 2)]
def cb_M_local : List (Instr × Nat × Nat × Option Nat × am_F) := []
def m_M_local : am_M := am_mk co_M_local fl_M_local (cb_M_local.map (fun z => z.2)) [] [] none 0
def f_M_local : am_F := am_mf m_M_local 3
theorem o_M_local : am_ok m_M_local := am_mk_ok (am_cb_ok (fun _ h => absurd h List.not_mem_nil))
theorem n_M_local : am_mono f_M_local := am_mf_mono o_M_local
theorem g_M_local : ∀ x q, am_cal m_M_local x = some q → am_grow q.2.2 := am_mk_grow (am_cb_gr (fun _ h => absurd h List.not_mem_nil))
theorem h_M_local : am_grow f_M_local := am_mf_grow g_M_local
def y_M_takes : MethodName := ⟨"PatchedMachineModel", "takes", "(I)Z"⟩
def co_M_takes : List (Nat × Instr) := [(0, .aload_n 0), (1, .getfield 114), (4, .ifCond .eq 18), (7, .aload_n 0), (8, .getfield 52), (11, .aload_n 0), (12, .getfield 114), (15, .iconst 1), (16, .isub), (17, .iaload), (18, .iload_n 1), (19, .if_icmp .eq 5), (22, .iconst 0), (23, .ireturn), (24, .aload_n 0), (25, .dup), (26, .getfield 114), (29, .iconst 1), (30, .isub), (31, .putfield 114), (34, .iconst 1), (35, .ireturn)]
def fl_M_takes : List (Nat × Nat × Nat × Nat) := [(114, 10, 18, 0), (52, 10, 17, 2)]
def cb_M_takes : List (Instr × Nat × Nat × Option Nat × am_F) := []
def m_M_takes : am_M := am_mk co_M_takes fl_M_takes (cb_M_takes.map (fun z => z.2)) [] [] none 1
def f_M_takes : am_F := am_mf m_M_takes 2
theorem o_M_takes : am_ok m_M_takes := am_mk_ok (am_cb_ok (fun _ h => absurd h List.not_mem_nil))
theorem n_M_takes : am_mono f_M_takes := am_mf_mono o_M_takes
theorem g_M_takes : ∀ x q, am_cal m_M_takes x = some q → am_grow q.2.2 := am_mk_grow (am_cb_gr (fun _ h => absurd h List.not_mem_nil))
theorem h_M_takes : am_grow f_M_takes := am_mf_grow g_M_takes
def y_M_member : MethodName := ⟨"PatchedMachineModel", "member", "(III)Z"⟩
def co_M_member : List (Nat × Instr) := [(0, .aload_n 0), (1, .iconst 4), (2, .iload_n 2), (3, .iload_n 3), (4, .invokevirtual 93), (7, .istore 4), (9, .iload 4), (11, .ifCond .ge 5), (14, .iconst 0), (15, .ireturn), (16, .aload_n 0), (17, .iconst 4), (18, .iload_n 2), (19, .iload 4), (21, .invokevirtual 101), (24, .istore 5), (26, .iload_n 1), (27, .bipush 11), (29, .if_icmp .ne 28), (32, .aload_n 0), (33, .iload_n 2), (34, .invokevirtual 121), (37, .ifCond .eq 16), (40, .aload_n 0), (41, .iload 5), (43, .invokevirtual 125), (46, .ifCond .eq 7), (49, .iconst 1), (50, .goto 29), (53, .iconst 0), (54, .goto 25), (57, .aload_n 0), (58, .iload 5), (60, .invokevirtual 121), (63, .ifCond .eq 15), (66, .aload_n 0), (67, .iload_n 2), (68, .invokevirtual 121), (71, .ifCond .eq 7), (74, .iconst 1), (75, .goto 4), (78, .iconst 0), (79, .ireturn)]
def fl_M_member : List (Nat × Nat × Nat × Nat) := []
def cb_M_member : List (Instr × Nat × Nat × Option Nat × am_F) := [(.invokevirtual 93, 93, 4, (some 10), f_M_find), (.invokevirtual 101, 101, 4, (some 10), f_M_typeOf), (.invokevirtual 121, 121, 2, (some 10), f_M_takes), (.invokevirtual 125, 125, 2, (some 10), f_M_puts)]
def m_M_member : am_M := am_mk co_M_member fl_M_member (cb_M_member.map (fun z => z.2)) [] [] none 1
def f_M_member : am_F := am_mf m_M_member 4
theorem o_M_member : am_ok m_M_member := am_mk_ok (am_cb_ok (List.forall_mem_cons.mpr ⟨n_M_find, (List.forall_mem_cons.mpr ⟨n_M_typeOf, (List.forall_mem_cons.mpr ⟨n_M_takes, (List.forall_mem_cons.mpr ⟨n_M_puts, (fun _ h => absurd h List.not_mem_nil)⟩)⟩)⟩)⟩))
theorem n_M_member : am_mono f_M_member := am_mf_mono o_M_member
theorem g_M_member : ∀ x q, am_cal m_M_member x = some q → am_grow q.2.2 := am_mk_grow (am_cb_gr (List.forall_mem_cons.mpr ⟨h_M_find, (List.forall_mem_cons.mpr ⟨h_M_typeOf, (List.forall_mem_cons.mpr ⟨h_M_takes, (List.forall_mem_cons.mpr ⟨h_M_puts, (fun _ h => absurd h List.not_mem_nil)⟩)⟩)⟩)⟩))
theorem h_M_member : am_grow f_M_member := am_mf_grow g_M_member
def y_M_passes : MethodName := ⟨"PatchedMachineModel", "passes", "(I)Z"⟩
def co_M_passes : List (Nat × Instr) := [(0, .bipush 24), (2, .iload_n 1), (3, .iadd), (4, .istore_n 2), (5, .aload_n 0), (6, .getfield 31), (9, .iload_n 2), (10, .iaload), (11, .ifCond .ne 5), (14, .iconst 0), (15, .ireturn), (16, .aload_n 0), (17, .getfield 22), (20, .iload_n 2), (21, .iaload), (22, .iconst 1), (23, .isub), (24, .istore_n 3), (25, .iload_n 3), (26, .ifCond .lt 24), (29, .aload_n 0), (30, .aload_n 0), (31, .iload_n 2), (32, .iload_n 3), (33, .invokevirtual 117), (36, .invokevirtual 121), (39, .ifCond .ne 5), (42, .iconst 0), (43, .ireturn), (44, .iinc 3 (-1)), (47, .goto (-22)), (50, .aload_n 0), (51, .aload_n 0), (52, .getfield 28), (55, .iload_n 2), (56, .iaload), (57, .invokevirtual 125), (60, .ireturn)]
def fl_M_passes : List (Nat × Nat × Nat × Nat) := [(31, 10, 7, 2), (22, 10, 4, 2), (28, 10, 6, 2)]
def cb_M_passes : List (Instr × Nat × Nat × Option Nat × am_F) := [(.invokevirtual 117, 117, 3, (some 10), f_M_local), (.invokevirtual 121, 121, 2, (some 10), f_M_takes), (.invokevirtual 125, 125, 2, (some 10), f_M_puts)]
def m_M_passes : am_M := am_mk co_M_passes fl_M_passes (cb_M_passes.map (fun z => z.2)) [] [] none 1
def f_M_passes : am_F := am_mf m_M_passes 2
theorem o_M_passes : am_ok m_M_passes := am_mk_ok (am_cb_ok (List.forall_mem_cons.mpr ⟨n_M_local, (List.forall_mem_cons.mpr ⟨n_M_takes, (List.forall_mem_cons.mpr ⟨n_M_puts, (fun _ h => absurd h List.not_mem_nil)⟩)⟩)⟩))
theorem n_M_passes : am_mono f_M_passes := am_mf_mono o_M_passes
theorem g_M_passes : ∀ x q, am_cal m_M_passes x = some q → am_grow q.2.2 := am_mk_grow (am_cb_gr (List.forall_mem_cons.mpr ⟨h_M_local, (List.forall_mem_cons.mpr ⟨h_M_takes, (List.forall_mem_cons.mpr ⟨h_M_puts, (fun _ h => absurd h List.not_mem_nil)⟩)⟩)⟩))
theorem h_M_passes : am_grow f_M_passes := am_mf_grow g_M_passes
def y_M_goes : MethodName := ⟨"PatchedMachineModel", "goes", "(II)Z"⟩
def co_M_goes : List (Nat × Instr) := [(0, .aload_n 0), (1, .getfield 34), (4, .bipush 14), (6, .iload_n 1), (7, .imul), (8, .iload_n 2), (9, .iadd), (10, .iaload), (11, .istore_n 3), (12, .aload_n 0), (13, .getfield 37), (16, .bipush 14), (18, .iload_n 1), (19, .imul), (20, .iload_n 2), (21, .iadd), (22, .iaload), (23, .istore 4), (25, .iload_n 3), (26, .ifCond .eq 14), (29, .iload_n 3), (30, .iconst 1), (31, .if_icmp .eq 9), (34, .iload_n 3), (35, .bipush 10), (37, .if_icmp .ne 18), (40, .aload_n 0), (41, .iload_n 3), (42, .ifCond .ne 7), (45, .iconst 0), (46, .goto 5), (49, .iload 4), (51, .invokevirtual 125), (54, .ireturn), (55, .iload_n 3), (56, .iconst 2), (57, .if_icmp .ne 15), (60, .aload_n 0), (61, .aload_n 0), (62, .iload_n 1), (63, .iload 4), (65, .invokevirtual 117), (68, .invokevirtual 125), (71, .ireturn), (72, .iload_n 3), (73, .iconst 3), (74, .if_icmp .ne 15), (77, .aload_n 0), (78, .aload_n 0), (79, .iload_n 1), (80, .iload 4), (82, .invokevirtual 117), (85, .invokevirtual 121), (88, .ireturn), (89, .iload_n 3), (90, .bipush 7), (92, .if_icmp .gt 33), (95, .aload_n 0), (96, .iconst 0), (97, .invokevirtual 121), (100, .ifCond .eq 23), (103, .aload_n 0), (104, .iconst 0), (105, .invokevirtual 121), (108, .ifCond .eq 15), (111, .aload_n 0), (112, .iconst 0), (113, .invokevirtual 125), (116, .ifCond .eq 7), (119, .iconst 1), (120, .goto 4), (123, .iconst 0), (124, .ireturn), (125, .iload_n 3), (126, .bipush 8), (128, .if_icmp .ne 27), (131, .aload_n 0), (132, .getfield 114), (135, .ifCond .ne 18), (138, .iload 4), (140, .aload_n 0), (141, .getfield 31), (144, .iload_n 1), (145, .iaload), (146, .if_icmp .ge 7), (149, .iconst 1), (150, .goto 4), (153, .iconst 0), (154, .ireturn), (155, .iload_n 3), (156, .bipush 9), (158, .if_icmp .ne 35), (161, .aload_n 0), (162, .iconst 0), (163, .invokevirtual 121), (166, .ifCond .eq 25), (169, .aload_n 0), (170, .getfield 114), (173, .ifCond .ne 18), (176, .iload 4), (178, .aload_n 0), (179, .getfield 31), (182, .iload_n 1), (183, .iaload), (184, .if_icmp .ge 7), (187, .iconst 1), (188, .goto 4), (191, .iconst 0), (192, .ireturn), (193, .iload_n 3), (194, .bipush 11), (196, .if_icmp .eq 9), (199, .iload_n 3), (200, .bipush 12), (202, .if_icmp .ne 22), (205, .aload_n 0), (206, .iload_n 3), (207, .iload 4), (209, .aload_n 0), (210, .getfield 40), (213, .bipush 14), (215, .iload_n 1), (216, .imul), (217, .iload_n 2), (218, .iadd), (219, .iaload), (220, .invokevirtual 128), (223, .ireturn), (224, .iload_n 3), (225, .bipush 13), (227, .if_icmp .ne 10), (230, .aload_n 0), (231, .iload 4), (233, .invokevirtual 131), (236, .ireturn), (237, .iload_n 3), (238, .bipush 14), (240, .if_icmp .ne 29), (243, .aload_n 0), (244, .aload_n 0), (245, .getfield 28), (248, .iload_n 1), (249, .iaload), (250, .invokevirtual 121), (253, .ifCond .eq 14), (256, .aload_n 0), (257, .getfield 114), (260, .ifCond .ne 7), (263, .iconst 1), (264, .goto 4), (267, .iconst 0), (268, .ireturn), (269, .iload_n 3), (270, .bipush 15), (272, .if_icmp .ne 37), (275, .aload_n 0), (276, .iload 4), (278, .invokevirtual 121), (281, .ifCond .eq 24), (284, .aload_n 0), (285, .iload 4), (287, .invokevirtual 121), (290, .ifCond .eq 15), (293, .aload_n 0), (294, .iconst 0), (295, .invokevirtual 125), (298, .ifCond .eq 7), (301, .iconst 1), (302, .goto 12), (305, .iconst 0), (306, .goto 8), (309, .aload_n 0), (310, .iconst 0), (311, .invokevirtual 121), (314, .ireturn)]
def fl_M_goes : List (Nat × Nat × Nat × Nat) := [(34, 10, 8, 2), (37, 10, 9, 2), (114, 10, 18, 0), (31, 10, 7, 2), (40, 10, 10, 2), (28, 10, 6, 2)]
def cb_M_goes : List (Instr × Nat × Nat × Option Nat × am_F) := [(.invokevirtual 125, 125, 2, (some 10), f_M_puts), (.invokevirtual 117, 117, 3, (some 10), f_M_local), (.invokevirtual 121, 121, 2, (some 10), f_M_takes), (.invokevirtual 128, 128, 4, (some 10), f_M_member), (.invokevirtual 131, 131, 2, (some 10), f_M_passes)]
def m_M_goes : am_M := am_mk co_M_goes fl_M_goes (cb_M_goes.map (fun z => z.2)) [] [] none 1
def f_M_goes : am_F := am_mf m_M_goes 3
theorem o_M_goes : am_ok m_M_goes := am_mk_ok (am_cb_ok (List.forall_mem_cons.mpr ⟨n_M_puts, (List.forall_mem_cons.mpr ⟨n_M_local, (List.forall_mem_cons.mpr ⟨n_M_takes, (List.forall_mem_cons.mpr ⟨n_M_member, (List.forall_mem_cons.mpr ⟨n_M_passes, (fun _ h => absurd h List.not_mem_nil)⟩)⟩)⟩)⟩)⟩))
theorem n_M_goes : am_mono f_M_goes := am_mf_mono o_M_goes
theorem g_M_goes : ∀ x q, am_cal m_M_goes x = some q → am_grow q.2.2 := am_mk_grow (am_cb_gr (List.forall_mem_cons.mpr ⟨h_M_puts, (List.forall_mem_cons.mpr ⟨h_M_local, (List.forall_mem_cons.mpr ⟨h_M_takes, (List.forall_mem_cons.mpr ⟨h_M_member, (List.forall_mem_cons.mpr ⟨h_M_passes, (fun _ h => absurd h List.not_mem_nil)⟩)⟩)⟩)⟩)⟩))
theorem h_M_goes : am_grow f_M_goes := am_mf_grow g_M_goes
def y_M_aimedAt : MethodName := ⟨"PatchedMachineModel", "aimedAt", "(II)Z"⟩
def co_M_aimedAt : List (Nat × Instr) := [(0, .iconst 0), (1, .istore_n 3), (2, .iconst 0), (3, .istore 4), (5, .iload 4), (7, .aload_n 0), (8, .getfield 31), (11, .iload_n 1), (12, .iaload), (13, .if_icmp .ge 63), (16, .aload_n 0), (17, .getfield 34), (20, .bipush 14), (22, .iload_n 1), (23, .imul), (24, .iload 4), (26, .iadd), (27, .iaload), (28, .istore 5), (30, .iload_n 3), (31, .ifCond .ne 33), (34, .iload 5), (36, .bipush 8), (38, .if_icmp .eq 10), (41, .iload 5), (43, .bipush 9), (45, .if_icmp .ne 23), (48, .aload_n 0), (49, .getfield 37), (52, .bipush 14), (54, .iload_n 1), (55, .imul), (56, .iload 4), (58, .iadd), (59, .iaload), (60, .iload_n 2), (61, .if_icmp .ne 7), (64, .iconst 1), (65, .goto 4), (68, .iconst 0), (69, .istore_n 3), (70, .iinc 4 1), (73, .goto (-68)), (76, .iload_n 3), (77, .ireturn)]
def fl_M_aimedAt : List (Nat × Nat × Nat × Nat) := [(31, 10, 7, 2), (34, 10, 8, 2), (37, 10, 9, 2)]
def cb_M_aimedAt : List (Instr × Nat × Nat × Option Nat × am_F) := []
def m_M_aimedAt : am_M := am_mk co_M_aimedAt fl_M_aimedAt (cb_M_aimedAt.map (fun z => z.2)) [] [] none 1
def f_M_aimedAt : am_F := am_mf m_M_aimedAt 3
theorem o_M_aimedAt : am_ok m_M_aimedAt := am_mk_ok (am_cb_ok (fun _ h => absurd h List.not_mem_nil))
theorem n_M_aimedAt : am_mono f_M_aimedAt := am_mf_mono o_M_aimedAt
theorem g_M_aimedAt : ∀ x q, am_cal m_M_aimedAt x = some q → am_grow q.2.2 := am_mk_grow (am_cb_gr (fun _ h => absurd h List.not_mem_nil))
theorem h_M_aimedAt : am_grow f_M_aimedAt := am_mf_grow g_M_aimedAt
def y_M_bad : MethodName := ⟨"PatchedMachineModel", "bad", "(II)Z"⟩
def co_M_bad : List (Nat × Instr) := [(0, .aload_n 0), (1, .iconst 0), (2, .putfield 114), (5, .iconst 0), (6, .istore_n 3), (7, .iload_n 3), (8, .iload_n 2), (9, .if_icmp .ge 16), (12, .aload_n 0), (13, .iload_n 1), (14, .iload_n 3), (15, .invokevirtual 134), (18, .pop), (19, .iinc 3 1), (22, .goto (-15)), (25, .aload_n 0), (26, .getfield 114), (29, .ifCond .le 12), (32, .aload_n 0), (33, .iload_n 1), (34, .iload_n 2), (35, .invokevirtual 138), (38, .ifCond .ne 12), (41, .aload_n 0), (42, .iload_n 1), (43, .iload_n 2), (44, .invokevirtual 134), (47, .ifCond .ne 5), (50, .iconst 1), (51, .ireturn), (52, .aload_n 0), (53, .getfield 34), (56, .bipush 14), (58, .iload_n 1), (59, .imul), (60, .iload_n 2), (61, .iadd), (62, .iaload), (63, .istore_n 3), (64, .iload_n 2), (65, .aload_n 0), (66, .getfield 31), (69, .iload_n 1), (70, .iaload), (71, .iconst 1), (72, .isub), (73, .if_icmp .ne 19), (76, .iload_n 3), (77, .bipush 8), (79, .if_icmp .eq 13), (82, .iload_n 3), (83, .bipush 14), (85, .if_icmp .eq 7), (88, .iconst 1), (89, .goto 4), (92, .iconst 0), (93, .ireturn)]
def fl_M_bad : List (Nat × Nat × Nat × Nat) := [(114, 10, 18, 0), (34, 10, 8, 2), (31, 10, 7, 2)]
def cb_M_bad : List (Instr × Nat × Nat × Option Nat × am_F) := [(.invokevirtual 134, 134, 3, (some 10), f_M_goes), (.invokevirtual 138, 138, 3, (some 10), f_M_aimedAt)]
def m_M_bad : am_M := am_mk co_M_bad fl_M_bad (cb_M_bad.map (fun z => z.2)) [] [] none 1
def f_M_bad : am_F := am_mf m_M_bad 3
theorem o_M_bad : am_ok m_M_bad := am_mk_ok (am_cb_ok (List.forall_mem_cons.mpr ⟨n_M_goes, (List.forall_mem_cons.mpr ⟨n_M_aimedAt, (fun _ h => absurd h List.not_mem_nil)⟩)⟩))
theorem n_M_bad : am_mono f_M_bad := am_mf_mono o_M_bad
theorem g_M_bad : ∀ x q, am_cal m_M_bad x = some q → am_grow q.2.2 := am_mk_grow (am_cb_gr (List.forall_mem_cons.mpr ⟨h_M_goes, (List.forall_mem_cons.mpr ⟨h_M_aimedAt, (fun _ h => absurd h List.not_mem_nil)⟩)⟩))
theorem h_M_bad : am_grow f_M_bad := am_mf_grow g_M_bad
def y_M_wrong : MethodName := ⟨"PatchedMachineModel", "wrong", "()I"⟩
def co_M_wrong : List (Nat × Instr) := [(0, .iconst 0), (1, .istore_n 1), (2, .iload_n 1), (3, .bipush 6), (5, .if_icmp .ge 49), (8, .iconst 0), (9, .istore_n 2), (10, .iload_n 2), (11, .aload_n 0), (12, .getfield 31), (15, .bipush 24), (17, .iload_n 1), (18, .iadd), (19, .iaload), (20, .if_icmp .ge 28), (23, .aload_n 0), (24, .bipush 24), (26, .iload_n 1), (27, .iadd), (28, .iload_n 2), (29, .invokevirtual 141), (32, .ifCond .eq 10), (35, .bipush 100), (37, .iload_n 1), (38, .imul), (39, .iload_n 2), (40, .iadd), (41, .ireturn), (42, .iinc 2 1), (45, .goto (-35)), (48, .iinc 1 1), (51, .goto (-49)), (54, .iconst (-1)), (55, .ireturn)]
def fl_M_wrong : List (Nat × Nat × Nat × Nat) := [(31, 10, 7, 2)]
def cb_M_wrong : List (Instr × Nat × Nat × Option Nat × am_F) := [(.invokevirtual 141, 141, 3, (some 10), f_M_bad)]
def m_M_wrong : am_M := am_mk co_M_wrong fl_M_wrong (cb_M_wrong.map (fun z => z.2)) [] [] none 0
def f_M_wrong : am_F := am_mf m_M_wrong 1
theorem o_M_wrong : am_ok m_M_wrong := am_mk_ok (am_cb_ok (List.forall_mem_cons.mpr ⟨n_M_bad, (fun _ h => absurd h List.not_mem_nil)⟩))
theorem n_M_wrong : am_mono f_M_wrong := am_mf_mono o_M_wrong
theorem g_M_wrong : ∀ x q, am_cal m_M_wrong x = some q → am_grow q.2.2 := am_mk_grow (am_cb_gr (List.forall_mem_cons.mpr ⟨h_M_bad, (fun _ h => absurd h List.not_mem_nil)⟩))
theorem h_M_wrong : am_grow f_M_wrong := am_mf_grow g_M_wrong
def y_M_otherHead : MethodName := ⟨"PatchedMachineModel", "otherHead", "(I)Z"⟩
def co_M_otherHead : List (Nat × Instr) := [(0, .bipush 6), (2, .aload_n 0), (3, .getfield 97), (6, .imul), (7, .iload_n 1), (8, .iadd), (9, .istore_n 2), (10, .bipush 24), (12, .iload_n 1), (13, .iadd), (14, .istore_n 3), (15, .aload_n 0), (16, .getfield 22), (19, .iload_n 2), (20, .iaload), (21, .aload_n 0), (22, .getfield 22), (25, .iload_n 3), (26, .iaload), (27, .if_icmp .ne 18), (30, .aload_n 0), (31, .getfield 28), (34, .iload_n 2), (35, .iaload), (36, .aload_n 0), (37, .getfield 28), (40, .iload_n 3), (41, .iaload), (42, .if_icmp .eq 7), (45, .iconst 1), (46, .goto 4), (49, .iconst 0), (50, .istore 4), (52, .iconst 0), (53, .istore 5), (55, .iload 5), (57, .aload_n 0), (58, .getfield 22), (61, .iload_n 2), (62, .iaload), (63, .if_icmp .ge 38), (66, .iload 4), (68, .ifCond .ne 20), (71, .aload_n 0), (72, .iload_n 2), (73, .iload 5), (75, .invokevirtual 117), (78, .aload_n 0), (79, .iload_n 3), (80, .iload 5), (82, .invokevirtual 117), (85, .if_icmp .eq 7), (88, .iconst 1), (89, .goto 4), (92, .iconst 0), (93, .istore 4), (95, .iinc 5 1), (98, .goto (-43)), (101, .iload 4), (103, .ireturn)]
def fl_M_otherHead : List (Nat × Nat × Nat × Nat) := [(97, 10, 14, 0), (22, 10, 4, 2), (28, 10, 6, 2)]
def cb_M_otherHead : List (Instr × Nat × Nat × Option Nat × am_F) := [(.invokevirtual 117, 117, 3, (some 10), f_M_local)]
def m_M_otherHead : am_M := am_mk co_M_otherHead fl_M_otherHead (cb_M_otherHead.map (fun z => z.2)) [] [] none 1
def f_M_otherHead : am_F := am_mf m_M_otherHead 2
theorem o_M_otherHead : am_ok m_M_otherHead := am_mk_ok (am_cb_ok (List.forall_mem_cons.mpr ⟨n_M_local, (fun _ h => absurd h List.not_mem_nil)⟩))
theorem n_M_otherHead : am_mono f_M_otherHead := am_mf_mono o_M_otherHead
theorem g_M_otherHead : ∀ x q, am_cal m_M_otherHead x = some q → am_grow q.2.2 := am_mk_grow (am_cb_gr (List.forall_mem_cons.mpr ⟨h_M_local, (fun _ h => absurd h List.not_mem_nil)⟩))
theorem h_M_otherHead : am_grow f_M_otherHead := am_mf_grow g_M_otherHead
def y_M_restrictedBy : MethodName := ⟨"PatchedMachineModel", "restrictedBy", "()I"⟩
def co_M_restrictedBy : List (Nat × Instr) := [(0, .aload_n 0), (1, .getfield 46), (4, .iconst 4), (5, .iaload), (6, .istore_n 1), (7, .iconst 0), (8, .istore_n 2), (9, .iload_n 2), (10, .bipush 6), (12, .if_icmp .ge 171), (15, .bipush 6), (17, .aload_n 0), (18, .getfield 97), (21, .imul), (22, .iload_n 2), (23, .iadd), (24, .istore_n 3), (25, .iconst 0), (26, .istore 4), (28, .iload 4), (30, .aload_n 0), (31, .getfield 31), (34, .iload_n 3), (35, .iaload), (36, .if_icmp .ge 141), (39, .aload_n 0), (40, .getfield 34), (43, .bipush 14), (45, .iload_n 3), (46, .imul), (47, .iload 4), (49, .iadd), (50, .iaload), (51, .istore 5), (53, .iload 5), (55, .bipush 10), (57, .if_icmp .eq 17), (60, .iload 5), (62, .bipush 11), (64, .if_icmp .eq 10), (67, .iload 5), (69, .bipush 12), (71, .if_icmp .ne 7), (74, .iconst 1), (75, .goto 4), (78, .iconst 0), (79, .istore 6), (81, .iload 6), (83, .ifCond .eq 32), (86, .aload_n 0), (87, .getfield 43), (90, .iconst 4), (91, .iaload), (92, .aload_n 0), (93, .getfield 37), (96, .bipush 14), (98, .iload_n 3), (99, .imul), (100, .iload 4), (102, .iadd), (103, .iaload), (104, .ishr), (105, .iconst 1), (106, .iand), (107, .iconst 1), (108, .if_icmp .ne 7), (111, .iconst 1), (112, .goto 4), (115, .iconst 0), (116, .istore 7), (118, .iload 5), (120, .bipush 13), (122, .if_icmp .ne 26), (125, .aload_n 0), (126, .aload_n 0), (127, .getfield 37), (130, .bipush 14), (132, .iload_n 3), (133, .imul), (134, .iload 4), (136, .iadd), (137, .iaload), (138, .invokevirtual 144), (141, .ifCond .eq 7), (144, .iconst 1), (145, .goto 4), (148, .iconst 0), (149, .istore 8), (151, .iload 7), (153, .ifCond .ne 8), (156, .iload 8), (158, .ifCond .eq 11), (161, .iload_n 1), (162, .iconst 1), (163, .iload_n 2), (164, .ishl), (165, .ior), (166, .goto 4), (169, .iload_n 1), (170, .istore_n 1), (171, .iinc 4 1), (174, .goto (-146)), (177, .iinc 2 1), (180, .goto (-171)), (183, .iload_n 1), (184, .ireturn)]
def fl_M_restrictedBy : List (Nat × Nat × Nat × Nat) := [(46, 10, 12, 2), (97, 10, 14, 0), (31, 10, 7, 2), (34, 10, 8, 2), (43, 10, 11, 2), (37, 10, 9, 2)]
def cb_M_restrictedBy : List (Instr × Nat × Nat × Option Nat × am_F) := [(.invokevirtual 144, 144, 2, (some 10), f_M_otherHead)]
def m_M_restrictedBy : am_M := am_mk co_M_restrictedBy fl_M_restrictedBy (cb_M_restrictedBy.map (fun z => z.2)) [] [] none 0
def f_M_restrictedBy : am_F := am_mf m_M_restrictedBy 1
theorem o_M_restrictedBy : am_ok m_M_restrictedBy := am_mk_ok (am_cb_ok (List.forall_mem_cons.mpr ⟨n_M_otherHead, (fun _ h => absurd h List.not_mem_nil)⟩))
theorem n_M_restrictedBy : am_mono f_M_restrictedBy := am_mf_mono o_M_restrictedBy
theorem g_M_restrictedBy : ∀ x q, am_cal m_M_restrictedBy x = some q → am_grow q.2.2 := am_mk_grow (am_cb_gr (List.forall_mem_cons.mpr ⟨h_M_otherHead, (fun _ h => absurd h List.not_mem_nil)⟩))
theorem h_M_restrictedBy : am_grow f_M_restrictedBy := am_mf_grow g_M_restrictedBy
def y_M_free : MethodName := ⟨"PatchedMachineModel", "free", "()Z"⟩
def co_M_free : List (Nat × Instr) := [(0, .iconst 1), (1, .istore_n 1), (2, .iconst 0), (3, .istore_n 2), (4, .iload_n 2), (5, .aload_n 0), (6, .getfield 157), (9, .if_icmp .ge 37), (12, .iload_n 1), (13, .ifCond .eq 25), (16, .aload_n 0), (17, .getfield 49), (20, .iconst 1), (21, .iaload), (22, .aload_n 0), (23, .getfield 55), (26, .iload_n 2), (27, .iaload), (28, .ishr), (29, .iconst 1), (30, .iand), (31, .ifCond .ne 7), (34, .iconst 1), (35, .goto 4), (38, .iconst 0), (39, .istore_n 1), (40, .iinc 2 1), (43, .goto (-39)), (46, .iload_n 1), (47, .ireturn)]
def fl_M_free : List (Nat × Nat × Nat × Nat) := [(157, 10, 21, 0), (49, 10, 13, 2), (55, 10, 22, 2)]
def cb_M_free : List (Instr × Nat × Nat × Option Nat × am_F) := []
def m_M_free : am_M := am_mk co_M_free fl_M_free (cb_M_free.map (fun z => z.2)) [] [] none 1
def f_M_free : am_F := am_mf m_M_free 1
theorem o_M_free : am_ok m_M_free := am_mk_ok (am_cb_ok (fun _ h => absurd h List.not_mem_nil))
theorem n_M_free : am_mono f_M_free := am_mf_mono o_M_free
theorem g_M_free : ∀ x q, am_cal m_M_free x = some q → am_grow q.2.2 := am_mk_grow (am_cb_gr (fun _ h => absurd h List.not_mem_nil))
theorem h_M_free : am_grow f_M_free := am_mf_grow g_M_free
def y_M_collect : MethodName := ⟨"PatchedMachineModel", "collect", "()V"⟩
def co_M_collect : List (Nat × Instr) := [(0, .iconst 0), (1, .istore_n 1), (2, .iload_n 1), (3, .bipush 16), (5, .if_icmp .gt 16), (8, .aload_n 0), (9, .getfield 79), (12, .iload_n 1), (13, .iconst 0), (14, .bastore), (15, .iinc 1 1), (18, .goto (-16)), (21, .iconst 0), (22, .istore_n 1), (23, .iload_n 1), (24, .aload_n 0), (25, .getfield 157), (28, .if_icmp .ge 101), (31, .iconst 0), (32, .istore_n 2), (33, .iload_n 2), (34, .iconst 4), (35, .if_icmp .ge 39), (38, .aload_n 0), (39, .aload_n 0), (40, .getfield 55), (43, .iload_n 1), (44, .iaload), (45, .iload_n 2), (46, .invokevirtual 117), (49, .ifCond .le 19), (52, .aload_n 0), (53, .getfield 79), (56, .aload_n 0), (57, .getfield 61), (60, .iconst 4), (61, .iload_n 1), (62, .imul), (63, .iload_n 2), (64, .iadd), (65, .iaload), (66, .iconst 1), (67, .bastore), (68, .iinc 2 1), (71, .goto (-38)), (74, .iconst 0), (75, .istore_n 2), (76, .iload_n 2), (77, .aload_n 0), (78, .getfield 70), (81, .iload_n 1), (82, .iaload), (83, .if_icmp .ge 40), (86, .aload_n 0), (87, .getfield 67), (90, .bipush 6), (92, .iload_n 1), (93, .imul), (94, .iload_n 2), (95, .iadd), (96, .iaload), (97, .ifCond .le 20), (100, .aload_n 0), (101, .getfield 79), (104, .aload_n 0), (105, .getfield 64), (108, .bipush 6), (110, .iload_n 1), (111, .imul), (112, .iload_n 2), (113, .iadd), (114, .iaload), (115, .iconst 1), (116, .bastore), (117, .iinc 2 1), (120, .goto (-44)), (123, .iinc 1 1), (126, .goto (-103)), (129, .iconst 0), (130, .istore_n 1), (131, .iload_n 1), (132, .bipush 16), (134, .if_icmp .ge 102), (137, .iconst 1), (138, .istore_n 2), (139, .iload_n 2), (140, .bipush 16), (142, .if_icmp .gt 88), (145, .iconst 0), (146, .istore_n 3), (147, .iload_n 3), (148, .iconst 4), (149, .if_icmp .ge 75), (152, .aload_n 0), (153, .getfield 79), (156, .iload_n 2), (157, .baload), (158, .ifCond .eq 60), (161, .aload_n 0), (162, .getfield 73), (165, .iload_n 2), (166, .iaload), (167, .ifCond .le 51), (170, .iload_n 3), (171, .aload_n 0), (172, .getfield 7), (175, .aload_n 0), (176, .getfield 73), (179, .iload_n 2), (180, .iaload), (181, .iconst 1), (182, .isub), (183, .iaload), (184, .if_icmp .ge 34), (187, .aload_n 0), (188, .iconst 0), (189, .aload_n 0), (190, .getfield 73), (193, .iload_n 2), (194, .iaload), (195, .iload_n 3), (196, .invokevirtual 101), (199, .ifCond .le 19), (202, .aload_n 0), (203, .getfield 79), (206, .aload_n 0), (207, .getfield 76), (210, .iconst 4), (211, .iload_n 2), (212, .imul), (213, .iload_n 3), (214, .iadd), (215, .iaload), (216, .iconst 1), (217, .bastore), (218, .iinc 3 1), (221, .goto (-74)), (224, .iinc 2 1), (227, .goto (-88)), (230, .iinc 1 1), (233, .goto (-102)), (236, .iconst 1), (237, .istore_n 1), (238, .iload_n 1), (239, .bipush 16), (241, .if_icmp .gt 34), (244, .aload_n 0), (245, .getfield 73), (248, .iload_n 1), (249, .aload_n 0), (250, .getfield 79), (253, .iload_n 1), (254, .baload), (255, .ifCond .eq 12), (258, .aload_n 0), (259, .getfield 73), (262, .iload_n 1), (263, .iaload), (264, .goto 4), (267, .iconst 0), (268, .iastore), (269, .iinc 1 1), (272, .goto (-34)), (275, .return_)]
def fl_M_collect : List (Nat × Nat × Nat × Nat) := [(79, 10, 30, 2), (157, 10, 21, 0), (55, 10, 22, 2), (61, 10, 24, 2), (70, 10, 27, 2), (67, 10, 26, 2), (64, 10, 25, 2), (73, 10, 28, 2), (7, 10, 0, 2), (76, 10, 29, 2)]
def cb_M_collect : List (Instr × Nat × Nat × Option Nat × am_F) := [(.invokevirtual 117, 117, 3, (some 10), f_M_local), (.invokevirtual 101, 101, 4, (some 10), f_M_typeOf)]
def m_M_collect : am_M := am_mk co_M_collect fl_M_collect (cb_M_collect.map (fun z => z.2)) [] [] none 2
def f_M_collect : am_F := am_mf m_M_collect 1
theorem o_M_collect : am_ok m_M_collect := am_mk_ok (am_cb_ok (List.forall_mem_cons.mpr ⟨n_M_local, (List.forall_mem_cons.mpr ⟨n_M_typeOf, (fun _ h => absurd h List.not_mem_nil)⟩)⟩))
theorem n_M_collect : am_mono f_M_collect := am_mf_mono o_M_collect
theorem g_M_collect : ∀ x q, am_cal m_M_collect x = some q → am_grow q.2.2 := am_mk_grow (am_cb_gr (List.forall_mem_cons.mpr ⟨h_M_local, (List.forall_mem_cons.mpr ⟨h_M_typeOf, (fun _ h => absurd h List.not_mem_nil)⟩)⟩))
theorem h_M_collect : am_grow f_M_collect := am_mf_grow g_M_collect
def y_M_transform : MethodName := ⟨"PatchedMachineModel", "transform", "(II)V"⟩
def co_M_transform : List (Nat × Instr) := [(0, .iconst 0), (1, .istore_n 3), (2, .iload_n 3), (3, .iconst 4), (4, .if_icmp .ge 88), (7, .iload_n 3), (8, .aload_n 0), (9, .getfield 7), (12, .iconst 3), (13, .iload_n 2), (14, .iadd), (15, .iconst 1), (16, .isub), (17, .iaload), (18, .if_icmp .ge 20), (21, .aload_n 0), (22, .getfield 19), (25, .iconst 4), (26, .iconst 3), (27, .iload_n 2), (28, .iadd), (29, .iconst 1), (30, .isub), (31, .imul), (32, .iload_n 3), (33, .iadd), (34, .iaload), (35, .goto 4), (38, .iconst (-1)), (39, .istore 4), (41, .iload 4), (43, .ifCond .ge 7), (46, .iconst (-1)), (47, .goto 11), (50, .aload_n 0), (51, .iconst 0), (52, .iload_n 2), (53, .iload 4), (55, .invokevirtual 93), (58, .istore 5), (60, .aload_n 0), (61, .getfield 83), (64, .iload_n 3), (65, .iload 5), (67, .ifCond .ge 7), (70, .iconst 0), (71, .goto 14), (74, .aload_n 0), (75, .getfield 76), (78, .iconst 4), (79, .iload_n 1), (80, .imul), (81, .iload 5), (83, .iadd), (84, .iaload), (85, .iastore), (86, .iinc 3 1), (89, .goto (-87)), (92, .iconst 0), (93, .istore_n 3), (94, .iload_n 3), (95, .iconst 4), (96, .if_icmp .ge 25), (99, .aload_n 0), (100, .getfield 76), (103, .iconst 4), (104, .iload_n 1), (105, .imul), (106, .iload_n 3), (107, .iadd), (108, .aload_n 0), (109, .getfield 83), (112, .iload_n 3), (113, .iaload), (114, .iastore), (115, .iinc 3 1), (118, .goto (-24)), (121, .return_)]
def fl_M_transform : List (Nat × Nat × Nat × Nat) := [(7, 10, 0, 2), (19, 10, 3, 2), (83, 10, 31, 2), (76, 10, 29, 2)]
def cb_M_transform : List (Instr × Nat × Nat × Option Nat × am_F) := [(.invokevirtual 93, 93, 4, (some 10), f_M_find)]
def m_M_transform : am_M := am_mk co_M_transform fl_M_transform (cb_M_transform.map (fun z => z.2)) [] [] none 2
def f_M_transform : am_F := am_mf m_M_transform 3
theorem o_M_transform : am_ok m_M_transform := am_mk_ok (am_cb_ok (List.forall_mem_cons.mpr ⟨n_M_find, (fun _ h => absurd h List.not_mem_nil)⟩))
theorem n_M_transform : am_mono f_M_transform := am_mf_mono o_M_transform
theorem g_M_transform : ∀ x q, am_cal m_M_transform x = some q → am_grow q.2.2 := am_mk_grow (am_cb_gr (List.forall_mem_cons.mpr ⟨h_M_find, (fun _ h => absurd h List.not_mem_nil)⟩))
theorem h_M_transform : am_grow f_M_transform := am_mf_grow g_M_transform
def y_M_apply : MethodName := ⟨"PatchedMachineModel", "apply", "()V"⟩
def co_M_apply : List (Nat × Instr) := [(0, .aload_n 0), (1, .invokevirtual 167), (4, .iconst 1), (5, .istore_n 1), (6, .iload_n 1), (7, .bipush 16), (9, .if_icmp .gt 58), (12, .aload_n 0), (13, .getfield 73), (16, .iload_n 1), (17, .iaload), (18, .ifCond .le 43), (21, .aload_n 0), (22, .getfield 43), (25, .iconst 1), (26, .iaload), (27, .aload_n 0), (28, .getfield 73), (31, .iload_n 1), (32, .iaload), (33, .ishr), (34, .iconst 1), (35, .iand), (36, .iconst 1), (37, .if_icmp .ne 24), (40, .aload_n 0), (41, .iload_n 1), (42, .aload_n 0), (43, .getfield 73), (46, .iload_n 1), (47, .iaload), (48, .invokevirtual 170), (51, .aload_n 0), (52, .dup), (53, .getfield 173), (56, .iconst 1), (57, .iadd), (58, .putfield 173), (61, .iinc 1 1), (64, .goto (-58)), (67, .aload_n 0), (68, .iconst 1), (69, .iconst 0), (70, .invokevirtual 107), (73, .aload_n 0), (74, .iconst 2), (75, .iconst 1), (76, .invokevirtual 107), (79, .aload_n 0), (80, .iconst 3), (81, .iconst 2), (82, .invokevirtual 107), (85, .aload_n 0), (86, .dup), (87, .getfield 97), (90, .iconst 1), (91, .isub), (92, .putfield 97), (95, .aload_n 0), (96, .dup), (97, .getfield 176), (100, .iconst 1), (101, .iadd), (102, .putfield 176), (105, .return_)]
def fl_M_apply : List (Nat × Nat × Nat × Nat) := [(73, 10, 28, 2), (43, 10, 11, 2), (173, 10, 16, 0), (97, 10, 14, 0), (176, 10, 15, 0)]
def cb_M_apply : List (Instr × Nat × Nat × Option Nat × am_F) := [(.invokevirtual 167, 167, 1, (some 10), f_M_collect), (.invokevirtual 170, 170, 3, (some 10), f_M_transform), (.invokevirtual 107, 107, 3, (some 10), f_M_copy)]
def m_M_apply : am_M := am_mk co_M_apply fl_M_apply (cb_M_apply.map (fun z => z.2)) [] [] none 2
def f_M_apply : am_F := am_mf m_M_apply 1
theorem o_M_apply : am_ok m_M_apply := am_mk_ok (am_cb_ok (List.forall_mem_cons.mpr ⟨n_M_collect, (List.forall_mem_cons.mpr ⟨n_M_transform, (List.forall_mem_cons.mpr ⟨n_M_copy, (fun _ h => absurd h List.not_mem_nil)⟩)⟩)⟩))
theorem n_M_apply : am_mono f_M_apply := am_mf_mono o_M_apply
theorem g_M_apply : ∀ x q, am_cal m_M_apply x = some q → am_grow q.2.2 := am_mk_grow (am_cb_gr (List.forall_mem_cons.mpr ⟨h_M_collect, (List.forall_mem_cons.mpr ⟨h_M_transform, (List.forall_mem_cons.mpr ⟨h_M_copy, (fun _ h => absurd h List.not_mem_nil)⟩)⟩)⟩))
theorem h_M_apply : am_grow f_M_apply := am_mf_grow g_M_apply
def y_M_settle : MethodName := ⟨"PatchedMachineModel", "settle", "()V"⟩
def co_M_settle : List (Nat × Instr) := [(0, .iconst 0), (1, .istore_n 1), (2, .iload_n 1), (3, .iconst 3), (4, .if_icmp .ge 27), (7, .aload_n 0), (8, .getfield 97), (11, .ifCond .le 14), (14, .aload_n 0), (15, .invokevirtual 160), (18, .ifCond .eq 7), (21, .aload_n 0), (22, .invokevirtual 164), (25, .iinc 1 1), (28, .goto (-26)), (31, .return_)]
def fl_M_settle : List (Nat × Nat × Nat × Nat) := [(97, 10, 14, 0)]
def cb_M_settle : List (Instr × Nat × Nat × Option Nat × am_F) := [(.invokevirtual 160, 160, 1, (some 10), f_M_free), (.invokevirtual 164, 164, 1, (some 10), f_M_apply)]
def m_M_settle : am_M := am_mk co_M_settle fl_M_settle (cb_M_settle.map (fun z => z.2)) [] [] none 2
def f_M_settle : am_F := am_mf m_M_settle 1
theorem o_M_settle : am_ok m_M_settle := am_mk_ok (am_cb_ok (List.forall_mem_cons.mpr ⟨n_M_free, (List.forall_mem_cons.mpr ⟨n_M_apply, (fun _ h => absurd h List.not_mem_nil)⟩)⟩))
theorem n_M_settle : am_mono f_M_settle := am_mf_mono o_M_settle
theorem g_M_settle : ∀ x q, am_cal m_M_settle x = some q → am_grow q.2.2 := am_mk_grow (am_cb_gr (List.forall_mem_cons.mpr ⟨h_M_free, (List.forall_mem_cons.mpr ⟨h_M_apply, (fun _ h => absurd h List.not_mem_nil)⟩)⟩))
theorem h_M_settle : am_grow f_M_settle := am_mf_grow g_M_settle
def y_M_commit : MethodName := ⟨"PatchedMachineModel", "commit", "()I"⟩
def co_M_commit : List (Nat × Instr) := [(0, .aload_n 0), (1, .getfield 43), (4, .iconst 4), (5, .iaload), (6, .ifCond .ne 12), (9, .aload_n 0), (10, .getfield 46), (13, .iconst 4), (14, .iaload), (15, .ifCond .eq 11), (18, .aload_n 0), (19, .getfield 97), (22, .iconst 3), (23, .if_icmp .ne 5), (26, .iconst (-1)), (27, .ireturn), (28, .aload_n 0), (29, .invokevirtual 147), (32, .istore_n 1), (33, .iload_n 1), (34, .ifCond .lt 7), (37, .iconst 1), (38, .iload_n 1), (39, .iadd), (40, .ireturn), (41, .aload_n 0), (42, .getfield 49), (45, .iconst 4), (46, .aload_n 0), (47, .invokevirtual 151), (50, .iastore), (51, .aload_n 0), (52, .iconst 4), (53, .aload_n 0), (54, .getfield 97), (57, .iconst 1), (58, .iadd), (59, .invokevirtual 107), (62, .aload_n 0), (63, .dup), (64, .getfield 97), (67, .iconst 1), (68, .iadd), (69, .putfield 97), (72, .aload_n 0), (73, .invokevirtual 111), (76, .aload_n 0), (77, .invokevirtual 154), (80, .iconst 0), (81, .ireturn)]
def fl_M_commit : List (Nat × Nat × Nat × Nat) := [(43, 10, 11, 2), (46, 10, 12, 2), (97, 10, 14, 0), (49, 10, 13, 2)]
def cb_M_commit : List (Instr × Nat × Nat × Option Nat × am_F) := [(.invokevirtual 147, 147, 1, (some 10), f_M_wrong), (.invokevirtual 151, 151, 1, (some 10), f_M_restrictedBy), (.invokevirtual 107, 107, 3, (some 10), f_M_copy), (.invokevirtual 111, 111, 1, (some 10), f_M_renew), (.invokevirtual 154, 154, 1, (some 10), f_M_settle)]
def m_M_commit : am_M := am_mk co_M_commit fl_M_commit (cb_M_commit.map (fun z => z.2)) [] [] none 0
def f_M_commit : am_F := am_mf m_M_commit 1
theorem o_M_commit : am_ok m_M_commit := am_mk_ok (am_cb_ok (List.forall_mem_cons.mpr ⟨n_M_wrong, (List.forall_mem_cons.mpr ⟨n_M_restrictedBy, (List.forall_mem_cons.mpr ⟨n_M_copy, (List.forall_mem_cons.mpr ⟨n_M_renew, (List.forall_mem_cons.mpr ⟨n_M_settle, (fun _ h => absurd h List.not_mem_nil)⟩)⟩)⟩)⟩)⟩))
theorem n_M_commit : am_mono f_M_commit := am_mf_mono o_M_commit
theorem g_M_commit : ∀ x q, am_cal m_M_commit x = some q → am_grow q.2.2 := am_mk_grow (am_cb_gr (List.forall_mem_cons.mpr ⟨h_M_wrong, (List.forall_mem_cons.mpr ⟨h_M_restrictedBy, (List.forall_mem_cons.mpr ⟨h_M_copy, (List.forall_mem_cons.mpr ⟨h_M_renew, (List.forall_mem_cons.mpr ⟨h_M_settle, (fun _ h => absurd h List.not_mem_nil)⟩)⟩)⟩)⟩)⟩))
theorem h_M_commit : am_grow f_M_commit := am_mf_grow g_M_commit
def y_M_waiting : MethodName := ⟨"PatchedMachineModel", "waiting", "()I"⟩
def co_M_waiting : List (Nat × Instr) := [(0, .aload_n 0), (1, .getfield 97), (4, .ireturn)]
def fl_M_waiting : List (Nat × Nat × Nat × Nat) := [(97, 10, 14, 0)]
def cb_M_waiting : List (Instr × Nat × Nat × Option Nat × am_F) := []
def m_M_waiting : am_M := am_mk co_M_waiting fl_M_waiting (cb_M_waiting.map (fun z => z.2)) [] [] none 0
def f_M_waiting : am_F := am_mf m_M_waiting 1
theorem o_M_waiting : am_ok m_M_waiting := am_mk_ok (am_cb_ok (fun _ h => absurd h List.not_mem_nil))
theorem n_M_waiting : am_mono f_M_waiting := am_mf_mono o_M_waiting
theorem g_M_waiting : ∀ x q, am_cal m_M_waiting x = some q → am_grow q.2.2 := am_mk_grow (am_cb_gr (fun _ h => absurd h List.not_mem_nil))
theorem h_M_waiting : am_grow f_M_waiting := am_mf_grow g_M_waiting
def y_M_restricted : MethodName := ⟨"PatchedMachineModel", "restricted", "()I"⟩
def co_M_restricted : List (Nat × Instr) := [(0, .aload_n 0), (1, .getfield 97), (4, .ifCond .le 12), (7, .aload_n 0), (8, .getfield 49), (11, .iconst 1), (12, .iaload), (13, .goto 4), (16, .iconst 0), (17, .ireturn)]
def fl_M_restricted : List (Nat × Nat × Nat × Nat) := [(97, 10, 14, 0), (49, 10, 13, 2)]
def cb_M_restricted : List (Instr × Nat × Nat × Option Nat × am_F) := []
def m_M_restricted : am_M := am_mk co_M_restricted fl_M_restricted (cb_M_restricted.map (fun z => z.2)) [] [] none 0
def f_M_restricted : am_F := am_mf m_M_restricted 1
theorem o_M_restricted : am_ok m_M_restricted := am_mk_ok (am_cb_ok (fun _ h => absurd h List.not_mem_nil))
theorem n_M_restricted : am_mono f_M_restricted := am_mf_mono o_M_restricted
theorem g_M_restricted : ∀ x q, am_cal m_M_restricted x = some q → am_grow q.2.2 := am_mk_grow (am_cb_gr (fun _ h => absurd h List.not_mem_nil))
theorem h_M_restricted : am_grow f_M_restricted := am_mf_grow g_M_restricted
def y_M_applied : MethodName := ⟨"PatchedMachineModel", "applied", "()I"⟩
def co_M_applied : List (Nat × Instr) := [(0, .aload_n 0), (1, .getfield 176), (4, .ireturn)]
def fl_M_applied : List (Nat × Nat × Nat × Nat) := [(176, 10, 15, 0)]
def cb_M_applied : List (Instr × Nat × Nat × Option Nat × am_F) := []
def m_M_applied : am_M := am_mk co_M_applied fl_M_applied (cb_M_applied.map (fun z => z.2)) [] [] none 0
def f_M_applied : am_F := am_mf m_M_applied 1
theorem o_M_applied : am_ok m_M_applied := am_mk_ok (am_cb_ok (fun _ h => absurd h List.not_mem_nil))
theorem n_M_applied : am_mono f_M_applied := am_mf_mono o_M_applied
theorem g_M_applied : ∀ x q, am_cal m_M_applied x = some q → am_grow q.2.2 := am_mk_grow (am_cb_gr (fun _ h => absurd h List.not_mem_nil))
theorem h_M_applied : am_grow f_M_applied := am_mf_grow g_M_applied
def y_M_moved : MethodName := ⟨"PatchedMachineModel", "moved", "()I"⟩
def co_M_moved : List (Nat × Instr) := [(0, .aload_n 0), (1, .getfield 173), (4, .ireturn)]
def fl_M_moved : List (Nat × Nat × Nat × Nat) := [(173, 10, 16, 0)]
def cb_M_moved : List (Instr × Nat × Nat × Option Nat × am_F) := []
def m_M_moved : am_M := am_mk co_M_moved fl_M_moved (cb_M_moved.map (fun z => z.2)) [] [] none 0
def f_M_moved : am_F := am_mf m_M_moved 1
theorem o_M_moved : am_ok m_M_moved := am_mk_ok (am_cb_ok (fun _ h => absurd h List.not_mem_nil))
theorem n_M_moved : am_mono f_M_moved := am_mf_mono o_M_moved
theorem g_M_moved : ∀ x q, am_cal m_M_moved x = some q → am_grow q.2.2 := am_mk_grow (am_cb_gr (fun _ h => absurd h List.not_mem_nil))
theorem h_M_moved : am_grow f_M_moved := am_mf_grow g_M_moved
def y_M_objects : MethodName := ⟨"PatchedMachineModel", "objects", "()I"⟩
def co_M_objects : List (Nat × Instr) := [(0, .iconst 0), (1, .istore_n 1), (2, .iconst 1), (3, .istore_n 2), (4, .iload_n 2), (5, .bipush 16), (7, .if_icmp .gt 26), (10, .aload_n 0), (11, .getfield 73), (14, .iload_n 2), (15, .iaload), (16, .ifCond .le 9), (19, .iload_n 1), (20, .iconst 1), (21, .iadd), (22, .goto 4), (25, .iload_n 1), (26, .istore_n 1), (27, .iinc 2 1), (30, .goto (-26)), (33, .iload_n 1), (34, .ireturn)]
def fl_M_objects : List (Nat × Nat × Nat × Nat) := [(73, 10, 28, 2)]
def cb_M_objects : List (Instr × Nat × Nat × Option Nat × am_F) := []
def m_M_objects : am_M := am_mk co_M_objects fl_M_objects (cb_M_objects.map (fun z => z.2)) [] [] none 0
def f_M_objects : am_F := am_mf m_M_objects 1
theorem o_M_objects : am_ok m_M_objects := am_mk_ok (am_cb_ok (fun _ h => absurd h List.not_mem_nil))
theorem n_M_objects : am_mono f_M_objects := am_mf_mono o_M_objects
theorem g_M_objects : ∀ x q, am_cal m_M_objects x = some q → am_grow q.2.2 := am_mk_grow (am_cb_gr (fun _ h => absurd h List.not_mem_nil))
theorem h_M_objects : am_grow f_M_objects := am_mf_grow g_M_objects
def y_M_begin : MethodName := ⟨"PatchedMachineModel", "begin", "(II)V"⟩
def co_M_begin : List (Nat × Instr) := [(0, .aload_n 0), (1, .getfield 157), (4, .istore_n 3), (5, .aload_n 0), (6, .dup), (7, .getfield 157), (10, .iconst 1), (11, .iadd), (12, .putfield 157), (15, .aload_n 0), (16, .getfield 55), (19, .iload_n 3), (20, .iload_n 1), (21, .iastore), (22, .aload_n 0), (23, .getfield 58), (26, .iload_n 3), (27, .iconst 0), (28, .iastore), (29, .aload_n 0), (30, .getfield 70), (33, .iload_n 3), (34, .iconst 0), (35, .iastore), (36, .iload_n 2), (37, .istore 4), (39, .iload 4), (41, .iconst 4), (42, .if_icmp .ge 21), (45, .aload_n 0), (46, .getfield 61), (49, .iconst 4), (50, .iload_n 3), (51, .imul), (52, .iload 4), (54, .iadd), (55, .iconst 0), (56, .iastore), (57, .iinc 4 1), (60, .goto (-21)), (63, .return_)]
def fl_M_begin : List (Nat × Nat × Nat × Nat) := [(157, 10, 21, 0), (55, 10, 22, 2), (58, 10, 23, 2), (70, 10, 27, 2), (61, 10, 24, 2)]
def cb_M_begin : List (Instr × Nat × Nat × Option Nat × am_F) := []
def m_M_begin : am_M := am_mk co_M_begin fl_M_begin (cb_M_begin.map (fun z => z.2)) [] [] none 2
def f_M_begin : am_F := am_mf m_M_begin 3
theorem o_M_begin : am_ok m_M_begin := am_mk_ok (am_cb_ok (fun _ h => absurd h List.not_mem_nil))
theorem n_M_begin : am_mono f_M_begin := am_mf_mono o_M_begin
theorem g_M_begin : ∀ x q, am_cal m_M_begin x = some q → am_grow q.2.2 := am_mk_grow (am_cb_gr (fun _ h => absurd h List.not_mem_nil))
theorem h_M_begin : am_grow f_M_begin := am_mf_grow g_M_begin
def y_M_start : MethodName := ⟨"PatchedMachineModel", "start", "(I)Z"⟩
def co_M_start : List (Nat × Instr) := [(0, .aload_n 0), (1, .getfield 182), (4, .iconst 1), (5, .if_icmp .eq 39), (8, .iload_n 1), (9, .iconst 0), (10, .iconst 5), (11, .invokestatic 89), (14, .ifCond .eq 30), (17, .aload_n 0), (18, .getfield 31), (21, .iload_n 1), (22, .iaload), (23, .ifCond .eq 21), (26, .aload_n 0), (27, .getfield 22), (30, .iload_n 1), (31, .iaload), (32, .ifCond .gt 12), (35, .aload_n 0), (36, .getfield 28), (39, .iload_n 1), (40, .iaload), (41, .ifCond .eq 5), (44, .iconst 0), (45, .ireturn), (46, .aload_n 0), (47, .iconst 1), (48, .putfield 182), (51, .aload_n 0), (52, .iconst 0), (53, .putfield 185), (56, .aload_n 0), (57, .iconst 0), (58, .putfield 157), (61, .aload_n 0), (62, .iload_n 1), (63, .iconst 0), (64, .invokevirtual 188), (67, .iconst 1), (68, .ireturn)]
def fl_M_start : List (Nat × Nat × Nat × Nat) := [(182, 10, 19, 0), (31, 10, 7, 2), (22, 10, 4, 2), (28, 10, 6, 2), (185, 10, 20, 0), (157, 10, 21, 0)]
def cb_M_start : List (Instr × Nat × Nat × Option Nat × am_F) := [(.invokestatic 89, 89, 3, none, f_M_in), (.invokevirtual 188, 188, 3, (some 10), f_M_begin)]
def m_M_start : am_M := am_mk co_M_start fl_M_start (cb_M_start.map (fun z => z.2)) [] [] none 1
def f_M_start : am_F := am_mf m_M_start 2
theorem o_M_start : am_ok m_M_start := am_mk_ok (am_cb_ok (List.forall_mem_cons.mpr ⟨n_M_in, (List.forall_mem_cons.mpr ⟨n_M_begin, (fun _ h => absurd h List.not_mem_nil)⟩)⟩))
theorem n_M_start : am_mono f_M_start := am_mf_mono o_M_start
theorem g_M_start : ∀ x q, am_cal m_M_start x = some q → am_grow q.2.2 := am_mk_grow (am_cb_gr (List.forall_mem_cons.mpr ⟨h_M_in, (List.forall_mem_cons.mpr ⟨h_M_begin, (fun _ h => absurd h List.not_mem_nil)⟩)⟩))
theorem h_M_start : am_grow f_M_start := am_mf_grow g_M_start
def y_M_put : MethodName := ⟨"PatchedMachineModel", "put", "(II)V"⟩
def co_M_put : List (Nat × Instr) := [(0, .aload_n 0), (1, .getfield 157), (4, .iconst 1), (5, .isub), (6, .istore_n 3), (7, .aload_n 0), (8, .getfield 64), (11, .bipush 6), (13, .iload_n 3), (14, .imul), (15, .aload_n 0), (16, .getfield 70), (19, .iload_n 3), (20, .iaload), (21, .iadd), (22, .iload_n 1), (23, .iastore), (24, .aload_n 0), (25, .getfield 67), (28, .bipush 6), (30, .iload_n 3), (31, .imul), (32, .aload_n 0), (33, .getfield 70), (36, .iload_n 3), (37, .iaload), (38, .iadd), (39, .iload_n 2), (40, .iastore), (41, .aload_n 0), (42, .getfield 70), (45, .iload_n 3), (46, .dup2), (47, .iaload), (48, .iconst 1), (49, .iadd), (50, .iastore), (51, .return_)]
def fl_M_put : List (Nat × Nat × Nat × Nat) := [(157, 10, 21, 0), (64, 10, 25, 2), (70, 10, 27, 2), (67, 10, 26, 2)]
def cb_M_put : List (Instr × Nat × Nat × Option Nat × am_F) := []
def m_M_put : am_M := am_mk co_M_put fl_M_put (cb_M_put.map (fun z => z.2)) [] [] none 2
def f_M_put : am_F := am_mf m_M_put 3
theorem o_M_put : am_ok m_M_put := am_mk_ok (am_cb_ok (fun _ h => absurd h List.not_mem_nil))
theorem n_M_put : am_mono f_M_put := am_mf_mono o_M_put
theorem g_M_put : ∀ x q, am_cal m_M_put x = some q → am_grow q.2.2 := am_mk_grow (am_cb_gr (fun _ h => absurd h List.not_mem_nil))
theorem h_M_put : am_grow f_M_put := am_mf_grow g_M_put
def y_M_take : MethodName := ⟨"PatchedMachineModel", "take", "()I"⟩
def co_M_take : List (Nat × Instr) := [(0, .aload_n 0), (1, .getfield 157), (4, .iconst 1), (5, .isub), (6, .istore_n 1), (7, .aload_n 0), (8, .getfield 70), (11, .iload_n 1), (12, .dup2), (13, .iaload), (14, .iconst 1), (15, .isub), (16, .iastore), (17, .aload_n 0), (18, .getfield 64), (21, .bipush 6), (23, .iload_n 1), (24, .imul), (25, .aload_n 0), (26, .getfield 70), (29, .iload_n 1), (30, .iaload), (31, .iadd), (32, .iaload), (33, .ireturn)]
def fl_M_take : List (Nat × Nat × Nat × Nat) := [(157, 10, 21, 0), (70, 10, 27, 2), (64, 10, 25, 2)]
def cb_M_take : List (Instr × Nat × Nat × Option Nat × am_F) := []
def m_M_take : am_M := am_mk co_M_take fl_M_take (cb_M_take.map (fun z => z.2)) [] [] none 0
def f_M_take : am_F := am_mf m_M_take 1
theorem o_M_take : am_ok m_M_take := am_mk_ok (am_cb_ok (fun _ h => absurd h List.not_mem_nil))
theorem n_M_take : am_mono f_M_take := am_mf_mono o_M_take
theorem g_M_take : ∀ x q, am_cal m_M_take x = some q → am_grow q.2.2 := am_mk_grow (am_cb_gr (fun _ h => absurd h List.not_mem_nil))
theorem h_M_take : am_grow f_M_take := am_mf_grow g_M_take
def y_M_call : MethodName := ⟨"PatchedMachineModel", "call", "(I)V"⟩
def co_M_call : List (Nat × Instr) := [(0, .aload_n 0), (1, .getfield 157), (4, .bipush 8), (6, .if_icmp .ne 9), (9, .aload_n 0), (10, .iconst 5), (11, .putfield 182), (14, .return_), (15, .aload_n 0), (16, .getfield 22), (19, .iload_n 1), (20, .iaload), (21, .iconst 1), (22, .isub), (23, .istore_n 2), (24, .iload_n 2), (25, .ifCond .lt 26), (28, .aload_n 0), (29, .getfield 61), (32, .iconst 4), (33, .aload_n 0), (34, .getfield 157), (37, .imul), (38, .iload_n 2), (39, .iadd), (40, .aload_n 0), (41, .invokevirtual 197), (44, .iastore), (45, .iinc 2 (-1)), (48, .goto (-24)), (51, .aload_n 0), (52, .iload_n 1), (53, .aload_n 0), (54, .getfield 22), (57, .iload_n 1), (58, .iaload), (59, .invokevirtual 188), (62, .return_)]
def fl_M_call : List (Nat × Nat × Nat × Nat) := [(157, 10, 21, 0), (182, 10, 19, 0), (22, 10, 4, 2), (61, 10, 24, 2)]
def cb_M_call : List (Instr × Nat × Nat × Option Nat × am_F) := [(.invokevirtual 197, 197, 1, (some 10), f_M_take), (.invokevirtual 188, 188, 3, (some 10), f_M_begin)]
def m_M_call : am_M := am_mk co_M_call fl_M_call (cb_M_call.map (fun z => z.2)) [] [] none 2
def f_M_call : am_F := am_mf m_M_call 2
theorem o_M_call : am_ok m_M_call := am_mk_ok (am_cb_ok (List.forall_mem_cons.mpr ⟨n_M_take, (List.forall_mem_cons.mpr ⟨n_M_begin, (fun _ h => absurd h List.not_mem_nil)⟩)⟩))
theorem n_M_call : am_mono f_M_call := am_mf_mono o_M_call
theorem g_M_call : ∀ x q, am_cal m_M_call x = some q → am_grow q.2.2 := am_mk_grow (am_cb_gr (List.forall_mem_cons.mpr ⟨h_M_take, (List.forall_mem_cons.mpr ⟨h_M_begin, (fun _ h => absurd h List.not_mem_nil)⟩)⟩))
theorem h_M_call : am_grow f_M_call := am_mf_grow g_M_call
def y_M_leave : MethodName := ⟨"PatchedMachineModel", "leave", "(I)V"⟩
def co_M_leave : List (Nat × Instr) := [(0, .aload_n 0), (1, .invokevirtual 197), (4, .istore_n 2), (5, .aload_n 0), (6, .dup), (7, .getfield 157), (10, .iconst 1), (11, .isub), (12, .putfield 157), (15, .aload_n 0), (16, .getfield 157), (19, .ifCond .ne 16), (22, .aload_n 0), (23, .iconst 2), (24, .putfield 182), (27, .aload_n 0), (28, .iload_n 2), (29, .putfield 185), (32, .goto 9), (35, .aload_n 0), (36, .iload_n 2), (37, .iload_n 1), (38, .invokevirtual 194), (41, .return_)]
def fl_M_leave : List (Nat × Nat × Nat × Nat) := [(157, 10, 21, 0), (182, 10, 19, 0), (185, 10, 20, 0)]
def cb_M_leave : List (Instr × Nat × Nat × Option Nat × am_F) := [(.invokevirtual 197, 197, 1, (some 10), f_M_take), (.invokevirtual 194, 194, 3, (some 10), f_M_put)]
def m_M_leave : am_M := am_mk co_M_leave fl_M_leave (cb_M_leave.map (fun z => z.2)) [] [] none 2
def f_M_leave : am_F := am_mf m_M_leave 2
theorem o_M_leave : am_ok m_M_leave := am_mk_ok (am_cb_ok (List.forall_mem_cons.mpr ⟨n_M_take, (List.forall_mem_cons.mpr ⟨n_M_put, (fun _ h => absurd h List.not_mem_nil)⟩)⟩))
theorem n_M_leave : am_mono f_M_leave := am_mf_mono o_M_leave
theorem g_M_leave : ∀ x q, am_cal m_M_leave x = some q → am_grow q.2.2 := am_mk_grow (am_cb_gr (List.forall_mem_cons.mpr ⟨h_M_take, (List.forall_mem_cons.mpr ⟨h_M_put, (fun _ h => absurd h List.not_mem_nil)⟩)⟩))
theorem h_M_leave : am_grow f_M_leave := am_mf_grow g_M_leave
def y_M_born : MethodName := ⟨"PatchedMachineModel", "born", "(I)I"⟩
def co_M_born : List (Nat × Instr) := [(0, .aload_n 0), (1, .invokevirtual 179), (4, .bipush 16), (6, .if_icmp .ne 7), (9, .aload_n 0), (10, .invokevirtual 167), (13, .iconst 1), (14, .istore_n 2), (15, .iload_n 2), (16, .bipush 16), (18, .if_icmp .gt 51), (21, .aload_n 0), (22, .getfield 73), (25, .iload_n 2), (26, .iaload), (27, .ifCond .ne 36), (30, .aload_n 0), (31, .getfield 73), (34, .iload_n 2), (35, .iload_n 1), (36, .iastore), (37, .iconst 0), (38, .istore_n 3), (39, .iload_n 3), (40, .iconst 4), (41, .if_icmp .ge 20), (44, .aload_n 0), (45, .getfield 76), (48, .iconst 4), (49, .iload_n 2), (50, .imul), (51, .iload_n 3), (52, .iadd), (53, .iconst 0), (54, .iastore), (55, .iinc 3 1), (58, .goto (-19)), (61, .iload_n 2), (62, .ireturn), (63, .iinc 2 1), (66, .goto (-51)), (69, .iconst 0), (70, .ireturn)]
def fl_M_born : List (Nat × Nat × Nat × Nat) := [(73, 10, 28, 2), (76, 10, 29, 2)]
def cb_M_born : List (Instr × Nat × Nat × Option Nat × am_F) := [(.invokevirtual 179, 179, 1, (some 10), f_M_objects), (.invokevirtual 167, 167, 1, (some 10), f_M_collect)]
def m_M_born : am_M := am_mk co_M_born fl_M_born (cb_M_born.map (fun z => z.2)) [] [] none 0
def f_M_born : am_F := am_mf m_M_born 2
theorem o_M_born : am_ok m_M_born := am_mk_ok (am_cb_ok (List.forall_mem_cons.mpr ⟨n_M_objects, (List.forall_mem_cons.mpr ⟨n_M_collect, (fun _ h => absurd h List.not_mem_nil)⟩)⟩))
theorem n_M_born : am_mono f_M_born := am_mf_mono o_M_born
theorem g_M_born : ∀ x q, am_cal m_M_born x = some q → am_grow q.2.2 := am_mk_grow (am_cb_gr (List.forall_mem_cons.mpr ⟨h_M_objects, (List.forall_mem_cons.mpr ⟨h_M_collect, (fun _ h => absurd h List.not_mem_nil)⟩)⟩))
theorem h_M_born : am_grow f_M_born := am_mf_grow g_M_born
def y_M_object : MethodName := ⟨"PatchedMachineModel", "object", "(III)V"⟩
def co_M_object : List (Nat × Instr) := [(0, .iload_n 1), (1, .bipush 10), (3, .if_icmp .ne 31), (6, .aload_n 0), (7, .iload_n 2), (8, .invokevirtual 214), (11, .istore 4), (13, .iload 4), (15, .ifCond .ne 11), (18, .aload_n 0), (19, .iconst 4), (20, .putfield 182), (23, .goto 10), (26, .aload_n 0), (27, .iload 4), (29, .iload_n 2), (30, .invokevirtual 194), (33, .return_), (34, .aload_n 0), (35, .iconst 0), (36, .iload_n 2), (37, .iload_n 3), (38, .invokevirtual 93), (41, .istore 4), (43, .iload_n 1), (44, .bipush 12), (46, .if_icmp .ne 10), (49, .aload_n 0), (50, .invokevirtual 197), (53, .goto 4), (56, .iconst 0), (57, .istore 5), (59, .aload_n 0), (60, .invokevirtual 197), (63, .istore 6), (65, .iload 6), (67, .ifCond .ne 11), (70, .aload_n 0), (71, .iconst 3), (72, .putfield 182), (75, .goto 50), (78, .iload_n 1), (79, .bipush 11), (81, .if_icmp .ne 30), (84, .aload_n 0), (85, .aload_n 0), (86, .getfield 76), (89, .iconst 4), (90, .iload 6), (92, .imul), (93, .iload 4), (95, .iadd), (96, .iaload), (97, .aload_n 0), (98, .iconst 0), (99, .iload_n 2), (100, .iload 4), (102, .invokevirtual 101), (105, .invokevirtual 194), (108, .goto 17), (111, .aload_n 0), (112, .getfield 76), (115, .iconst 4), (116, .iload 6), (118, .imul), (119, .iload 4), (121, .iadd), (122, .iload 5), (124, .iastore), (125, .return_)]
def fl_M_object : List (Nat × Nat × Nat × Nat) := [(182, 10, 19, 0), (76, 10, 29, 2)]
def cb_M_object : List (Instr × Nat × Nat × Option Nat × am_F) := [(.invokevirtual 214, 214, 2, (some 10), f_M_born), (.invokevirtual 194, 194, 3, (some 10), f_M_put), (.invokevirtual 93, 93, 4, (some 10), f_M_find), (.invokevirtual 197, 197, 1, (some 10), f_M_take), (.invokevirtual 101, 101, 4, (some 10), f_M_typeOf)]
def m_M_object : am_M := am_mk co_M_object fl_M_object (cb_M_object.map (fun z => z.2)) [] [] none 2
def f_M_object : am_F := am_mf m_M_object 4
theorem o_M_object : am_ok m_M_object := am_mk_ok (am_cb_ok (List.forall_mem_cons.mpr ⟨n_M_born, (List.forall_mem_cons.mpr ⟨n_M_put, (List.forall_mem_cons.mpr ⟨n_M_find, (List.forall_mem_cons.mpr ⟨n_M_take, (List.forall_mem_cons.mpr ⟨n_M_typeOf, (fun _ h => absurd h List.not_mem_nil)⟩)⟩)⟩)⟩)⟩))
theorem n_M_object : am_mono f_M_object := am_mf_mono o_M_object
theorem g_M_object : ∀ x q, am_cal m_M_object x = some q → am_grow q.2.2 := am_mk_grow (am_cb_gr (List.forall_mem_cons.mpr ⟨h_M_born, (List.forall_mem_cons.mpr ⟨h_M_put, (List.forall_mem_cons.mpr ⟨h_M_find, (List.forall_mem_cons.mpr ⟨h_M_take, (List.forall_mem_cons.mpr ⟨h_M_typeOf, (fun _ h => absurd h List.not_mem_nil)⟩)⟩)⟩)⟩)⟩))
theorem h_M_object : am_grow f_M_object := am_mf_grow g_M_object
def y_M_step : MethodName := ⟨"PatchedMachineModel", "step", "()V"⟩
def co_M_step : List (Nat × Instr) := [(0, .aload_n 0), (1, .getfield 157), (4, .iconst 1), (5, .isub), (6, .istore_n 1), (7, .bipush 14), (9, .aload_n 0), (10, .getfield 55), (13, .iload_n 1), (14, .iaload), (15, .imul), (16, .aload_n 0), (17, .getfield 58), (20, .iload_n 1), (21, .iaload), (22, .iadd), (23, .istore_n 2), (24, .aload_n 0), (25, .getfield 34), (28, .iload_n 2), (29, .iaload), (30, .istore_n 3), (31, .aload_n 0), (32, .getfield 37), (35, .iload_n 2), (36, .iaload), (37, .istore 4), (39, .aload_n 0), (40, .getfield 58), (43, .iload_n 1), (44, .dup2), (45, .iaload), (46, .iconst 1), (47, .iadd), (48, .iastore), (49, .iload_n 3), (50, .ifCond .eq 8), (53, .iload_n 3), (54, .iconst 1), (55, .if_icmp .ne 30), (58, .aload_n 0), (59, .iload_n 3), (60, .ifCond .ne 8), (63, .iload 4), (65, .goto 4), (68, .iconst 0), (69, .iload_n 3), (70, .ifCond .ne 7), (73, .iconst 0), (74, .goto 5), (77, .iload 4), (79, .invokevirtual 194), (82, .goto 318), (85, .iload_n 3), (86, .iconst 2), (87, .if_icmp .ne 33), (90, .aload_n 0), (91, .aload_n 0), (92, .getfield 61), (95, .iconst 4), (96, .iload_n 1), (97, .imul), (98, .iload 4), (100, .iadd), (101, .iaload), (102, .aload_n 0), (103, .aload_n 0), (104, .getfield 55), (107, .iload_n 1), (108, .iaload), (109, .iload 4), (111, .invokevirtual 117), (114, .invokevirtual 194), (117, .goto 283), (120, .iload_n 3), (121, .iconst 3), (122, .if_icmp .ne 21), (125, .aload_n 0), (126, .getfield 61), (129, .iconst 4), (130, .iload_n 1), (131, .imul), (132, .iload 4), (134, .iadd), (135, .aload_n 0), (136, .invokevirtual 197), (139, .iastore), (140, .goto 260), (143, .iload_n 3), (144, .bipush 7), (146, .if_icmp .gt 75), (149, .aload_n 0), (150, .invokevirtual 197), (153, .istore 5), (155, .aload_n 0), (156, .invokevirtual 197), (159, .istore 6), (161, .aload_n 0), (162, .iload_n 3), (163, .iconst 4), (164, .if_icmp .ne 11), (167, .iload 6), (169, .iload 5), (171, .iadd), (172, .goto 42), (175, .iload_n 3), (176, .iconst 5), (177, .if_icmp .ne 11), (180, .iload 6), (182, .iload 5), (184, .isub), (185, .goto 29), (188, .iload_n 3), (189, .bipush 6), (191, .if_icmp .ne 11), (194, .iload 6), (196, .iload 5), (198, .imul), (199, .goto 15), (202, .iload 6), (204, .iload 5), (206, .if_icmp .ge 7), (209, .iconst 1), (210, .goto 4), (213, .iconst 0), (214, .iconst 0), (215, .invokevirtual 194), (218, .goto 182), (221, .iload_n 3), (222, .bipush 8), (224, .if_icmp .ne 14), (227, .aload_n 0), (228, .getfield 58), (231, .iload_n 1), (232, .iload 4), (234, .iastore), (235, .goto 165), (238, .iload_n 3), (239, .bipush 9), (241, .if_icmp .ne 34), (244, .aload_n 0), (245, .invokevirtual 197), (248, .istore 5), (250, .aload_n 0), (251, .getfield 58), (254, .iload_n 1), (255, .iload 5), (257, .ifCond .ne 8), (260, .iload 4), (262, .goto 9), (265, .aload_n 0), (266, .getfield 58), (269, .iload_n 1), (270, .iaload), (271, .iastore), (272, .goto 128), (275, .iload_n 3), (276, .bipush 15), (278, .if_icmp .ne 35), (281, .aload_n 0), (282, .invokevirtual 197), (285, .istore 5), (287, .aload_n 0), (288, .invokevirtual 197), (291, .istore 6), (293, .aload_n 0), (294, .iload 6), (296, .iload 5), (298, .if_icmp .ne 7), (301, .iconst 1), (302, .goto 4), (305, .iconst 0), (306, .iconst 0), (307, .invokevirtual 194), (310, .goto 90), (313, .iload_n 3), (314, .bipush 13), (316, .if_icmp .ne 12), (319, .aload_n 0), (320, .iload 4), (322, .invokevirtual 200), (325, .goto 75), (328, .iload_n 3), (329, .bipush 14), (331, .if_icmp .ne 21), (334, .aload_n 0), (335, .aload_n 0), (336, .getfield 28), (339, .aload_n 0), (340, .getfield 55), (343, .iload_n 1), (344, .iaload), (345, .iaload), (346, .invokevirtual 204), (349, .goto 51), (352, .iload_n 3), (353, .bipush 15), (355, .if_icmp .le 32), (358, .aload_n 0), (359, .getfield 86), (362, .aload_n 0), (363, .getfield 207), (366, .bipush 15), (368, .iand), (369, .aload_n 0), (370, .invokevirtual 197), (373, .iastore), (374, .aload_n 0), (375, .dup), (376, .getfield 207), (379, .iconst 1), (380, .iadd), (381, .putfield 207), (384, .goto 16), (387, .aload_n 0), (388, .iload_n 3), (389, .iload 4), (391, .aload_n 0), (392, .getfield 40), (395, .iload_n 2), (396, .iaload), (397, .invokevirtual 210), (400, .return_)]
def fl_M_step : List (Nat × Nat × Nat × Nat) := [(157, 10, 21, 0), (55, 10, 22, 2), (58, 10, 23, 2), (34, 10, 8, 2), (37, 10, 9, 2), (61, 10, 24, 2), (28, 10, 6, 2), (86, 10, 32, 2), (207, 10, 33, 0), (40, 10, 10, 2)]
def cb_M_step : List (Instr × Nat × Nat × Option Nat × am_F) := [(.invokevirtual 194, 194, 3, (some 10), f_M_put), (.invokevirtual 117, 117, 3, (some 10), f_M_local), (.invokevirtual 197, 197, 1, (some 10), f_M_take), (.invokevirtual 200, 200, 2, (some 10), f_M_call), (.invokevirtual 204, 204, 2, (some 10), f_M_leave), (.invokevirtual 210, 210, 4, (some 10), f_M_object)]
def m_M_step : am_M := am_mk co_M_step fl_M_step (cb_M_step.map (fun z => z.2)) [] [] none 2
def f_M_step : am_F := am_mf m_M_step 1
theorem o_M_step : am_ok m_M_step := am_mk_ok (am_cb_ok (List.forall_mem_cons.mpr ⟨n_M_put, (List.forall_mem_cons.mpr ⟨n_M_local, (List.forall_mem_cons.mpr ⟨n_M_take, (List.forall_mem_cons.mpr ⟨n_M_call, (List.forall_mem_cons.mpr ⟨n_M_leave, (List.forall_mem_cons.mpr ⟨n_M_object, (fun _ h => absurd h List.not_mem_nil)⟩)⟩)⟩)⟩)⟩)⟩))
theorem n_M_step : am_mono f_M_step := am_mf_mono o_M_step
theorem g_M_step : ∀ x q, am_cal m_M_step x = some q → am_grow q.2.2 := am_mk_grow (am_cb_gr (List.forall_mem_cons.mpr ⟨h_M_put, (List.forall_mem_cons.mpr ⟨h_M_local, (List.forall_mem_cons.mpr ⟨h_M_take, (List.forall_mem_cons.mpr ⟨h_M_call, (List.forall_mem_cons.mpr ⟨h_M_leave, (List.forall_mem_cons.mpr ⟨h_M_object, (fun _ h => absurd h List.not_mem_nil)⟩)⟩)⟩)⟩)⟩)⟩))
theorem h_M_step : am_grow f_M_step := am_mf_grow g_M_step
def y_M_run : MethodName := ⟨"PatchedMachineModel", "run", "(I)I"⟩
def co_M_run : List (Nat × Instr) := [(0, .aload_n 0), (1, .getfield 182), (4, .iconst 1), (5, .if_icmp .ne 14), (8, .iload_n 1), (9, .iconst 1), (10, .sipush 300), (13, .invokestatic 89), (16, .ifCond .ne 5), (19, .iconst (-1)), (20, .ireturn), (21, .iconst 0), (22, .istore_n 2), (23, .iload_n 2), (24, .iload_n 1), (25, .if_icmp .ge 38), (28, .aload_n 0), (29, .getfield 182), (32, .iconst 1), (33, .if_icmp .ne 30), (36, .aload_n 0), (37, .invokevirtual 191), (40, .iinc 2 1), (43, .aload_n 0), (44, .getfield 182), (47, .iconst 1), (48, .if_icmp .eq 8), (51, .aload_n 0), (52, .iconst 0), (53, .putfield 157), (56, .aload_n 0), (57, .invokevirtual 154), (60, .goto (-37)), (63, .iload_n 2), (64, .ireturn)]
def fl_M_run : List (Nat × Nat × Nat × Nat) := [(182, 10, 19, 0), (157, 10, 21, 0)]
def cb_M_run : List (Instr × Nat × Nat × Option Nat × am_F) := [(.invokestatic 89, 89, 3, none, f_M_in), (.invokevirtual 191, 191, 1, (some 10), f_M_step), (.invokevirtual 154, 154, 1, (some 10), f_M_settle)]
def m_M_run : am_M := am_mk co_M_run fl_M_run (cb_M_run.map (fun z => z.2)) [] [] none 0
def f_M_run : am_F := am_mf m_M_run 2
theorem o_M_run : am_ok m_M_run := am_mk_ok (am_cb_ok (List.forall_mem_cons.mpr ⟨n_M_in, (List.forall_mem_cons.mpr ⟨n_M_step, (List.forall_mem_cons.mpr ⟨n_M_settle, (fun _ h => absurd h List.not_mem_nil)⟩)⟩)⟩))
theorem n_M_run : am_mono f_M_run := am_mf_mono o_M_run
theorem g_M_run : ∀ x q, am_cal m_M_run x = some q → am_grow q.2.2 := am_mk_grow (am_cb_gr (List.forall_mem_cons.mpr ⟨h_M_in, (List.forall_mem_cons.mpr ⟨h_M_step, (List.forall_mem_cons.mpr ⟨h_M_settle, (fun _ h => absurd h List.not_mem_nil)⟩)⟩)⟩))
theorem h_M_run : am_grow f_M_run := am_mf_grow g_M_run
def y_M_status : MethodName := ⟨"PatchedMachineModel", "status", "()I"⟩
def co_M_status : List (Nat × Instr) := [(0, .aload_n 0), (1, .getfield 182), (4, .ireturn)]
def fl_M_status : List (Nat × Nat × Nat × Nat) := [(182, 10, 19, 0)]
def cb_M_status : List (Instr × Nat × Nat × Option Nat × am_F) := []
def m_M_status : am_M := am_mk co_M_status fl_M_status (cb_M_status.map (fun z => z.2)) [] [] none 0
def f_M_status : am_F := am_mf m_M_status 1
theorem o_M_status : am_ok m_M_status := am_mk_ok (am_cb_ok (fun _ h => absurd h List.not_mem_nil))
theorem n_M_status : am_mono f_M_status := am_mf_mono o_M_status
theorem g_M_status : ∀ x q, am_cal m_M_status x = some q → am_grow q.2.2 := am_mk_grow (am_cb_gr (fun _ h => absurd h List.not_mem_nil))
theorem h_M_status : am_grow f_M_status := am_mf_grow g_M_status
def y_M_result : MethodName := ⟨"PatchedMachineModel", "result", "()I"⟩
def co_M_result : List (Nat × Instr) := [(0, .aload_n 0), (1, .getfield 182), (4, .iconst 2), (5, .if_icmp .ne 10), (8, .aload_n 0), (9, .getfield 185), (12, .goto 4), (15, .iconst 0), (16, .ireturn)]
def fl_M_result : List (Nat × Nat × Nat × Nat) := [(182, 10, 19, 0), (185, 10, 20, 0)]
def cb_M_result : List (Instr × Nat × Nat × Option Nat × am_F) := []
def m_M_result : am_M := am_mk co_M_result fl_M_result (cb_M_result.map (fun z => z.2)) [] [] none 0
def f_M_result : am_F := am_mf m_M_result 1
theorem o_M_result : am_ok m_M_result := am_mk_ok (am_cb_ok (fun _ h => absurd h List.not_mem_nil))
theorem n_M_result : am_mono f_M_result := am_mf_mono o_M_result
theorem g_M_result : ∀ x q, am_cal m_M_result x = some q → am_grow q.2.2 := am_mk_grow (am_cb_gr (fun _ h => absurd h List.not_mem_nil))
theorem h_M_result : am_grow f_M_result := am_mf_grow g_M_result
def y_M_depth : MethodName := ⟨"PatchedMachineModel", "depth", "()I"⟩
def co_M_depth : List (Nat × Instr) := [(0, .aload_n 0), (1, .getfield 157), (4, .ireturn)]
def fl_M_depth : List (Nat × Nat × Nat × Nat) := [(157, 10, 21, 0)]
def cb_M_depth : List (Instr × Nat × Nat × Option Nat × am_F) := []
def m_M_depth : am_M := am_mk co_M_depth fl_M_depth (cb_M_depth.map (fun z => z.2)) [] [] none 0
def f_M_depth : am_F := am_mf m_M_depth 1
theorem o_M_depth : am_ok m_M_depth := am_mk_ok (am_cb_ok (fun _ h => absurd h List.not_mem_nil))
theorem n_M_depth : am_mono f_M_depth := am_mf_mono o_M_depth
theorem g_M_depth : ∀ x q, am_cal m_M_depth x = some q → am_grow q.2.2 := am_mk_grow (am_cb_gr (fun _ h => absurd h List.not_mem_nil))
theorem h_M_depth : am_grow f_M_depth := am_mf_grow g_M_depth
def y_M_frame : MethodName := ⟨"PatchedMachineModel", "frame", "(I)I"⟩
def co_M_frame : List (Nat × Instr) := [(0, .iload_n 1), (1, .ifCond .lt 11), (4, .iload_n 1), (5, .aload_n 0), (6, .getfield 157), (9, .if_icmp .lt 5), (12, .iconst (-1)), (13, .ireturn), (14, .aload_n 0), (15, .getfield 157), (18, .iconst 1), (19, .isub), (20, .iload_n 1), (21, .isub), (22, .istore_n 2), (23, .bipush 100), (25, .aload_n 0), (26, .getfield 55), (29, .iload_n 2), (30, .iaload), (31, .imul), (32, .aload_n 0), (33, .getfield 58), (36, .iload_n 2), (37, .iaload), (38, .iadd), (39, .ireturn)]
def fl_M_frame : List (Nat × Nat × Nat × Nat) := [(157, 10, 21, 0), (55, 10, 22, 2), (58, 10, 23, 2)]
def cb_M_frame : List (Instr × Nat × Nat × Option Nat × am_F) := []
def m_M_frame : am_M := am_mk co_M_frame fl_M_frame (cb_M_frame.map (fun z => z.2)) [] [] none 0
def f_M_frame : am_F := am_mf m_M_frame 2
theorem o_M_frame : am_ok m_M_frame := am_mk_ok (am_cb_ok (fun _ h => absurd h List.not_mem_nil))
theorem n_M_frame : am_mono f_M_frame := am_mf_mono o_M_frame
theorem g_M_frame : ∀ x q, am_cal m_M_frame x = some q → am_grow q.2.2 := am_mk_grow (am_cb_gr (fun _ h => absurd h List.not_mem_nil))
theorem h_M_frame : am_grow f_M_frame := am_mf_grow g_M_frame
def y_M_output : MethodName := ⟨"PatchedMachineModel", "output", "(I)I"⟩
def co_M_output : List (Nat × Instr) := [(0, .iload_n 1), (1, .iconst 0), (2, .bipush 15), (4, .invokestatic 89), (7, .ifCond .eq 11), (10, .iload_n 1), (11, .aload_n 0), (12, .getfield 207), (15, .if_icmp .lt 7), (18, .iconst 0), (19, .goto 19), (22, .aload_n 0), (23, .getfield 86), (26, .aload_n 0), (27, .getfield 207), (30, .iconst 1), (31, .isub), (32, .iload_n 1), (33, .isub), (34, .bipush 15), (36, .iand), (37, .iaload), (38, .ireturn)]
def fl_M_output : List (Nat × Nat × Nat × Nat) := [(207, 10, 33, 0), (86, 10, 32, 2)]
def cb_M_output : List (Instr × Nat × Nat × Option Nat × am_F) := [(.invokestatic 89, 89, 3, none, f_M_in)]
def m_M_output : am_M := am_mk co_M_output fl_M_output (cb_M_output.map (fun z => z.2)) [] [] none 0
def f_M_output : am_F := am_mf m_M_output 2
theorem o_M_output : am_ok m_M_output := am_mk_ok (am_cb_ok (List.forall_mem_cons.mpr ⟨n_M_in, (fun _ h => absurd h List.not_mem_nil)⟩))
theorem n_M_output : am_mono f_M_output := am_mf_mono o_M_output
theorem g_M_output : ∀ x q, am_cal m_M_output x = some q → am_grow q.2.2 := am_mk_grow (am_cb_gr (List.forall_mem_cons.mpr ⟨h_M_in, (fun _ h => absurd h List.not_mem_nil)⟩))
theorem h_M_output : am_grow f_M_output := am_mf_grow g_M_output
def y_M_outputs : MethodName := ⟨"PatchedMachineModel", "outputs", "()I"⟩
def co_M_outputs : List (Nat × Instr) := [(0, .aload_n 0), (1, .getfield 207), (4, .ireturn)]
def fl_M_outputs : List (Nat × Nat × Nat × Nat) := [(207, 10, 33, 0)]
def cb_M_outputs : List (Instr × Nat × Nat × Option Nat × am_F) := []
def m_M_outputs : am_M := am_mk co_M_outputs fl_M_outputs (cb_M_outputs.map (fun z => z.2)) [] [] none 0
def f_M_outputs : am_F := am_mf m_M_outputs 1
theorem o_M_outputs : am_ok m_M_outputs := am_mk_ok (am_cb_ok (fun _ h => absurd h List.not_mem_nil))
theorem n_M_outputs : am_mono f_M_outputs := am_mf_mono o_M_outputs
theorem g_M_outputs : ∀ x q, am_cal m_M_outputs x = some q → am_grow q.2.2 := am_mk_grow (am_cb_gr (fun _ h => absurd h List.not_mem_nil))
theorem h_M_outputs : am_grow f_M_outputs := am_mf_grow g_M_outputs
def y_M_shape : MethodName := ⟨"PatchedMachineModel", "shape", "(II)I"⟩
def co_M_shape : List (Nat × Instr) := [(0, .iload_n 1), (1, .iconst 1), (2, .iconst 3), (3, .invokestatic 89), (6, .ifCond .eq 20), (9, .iload_n 2), (10, .iconst (-1)), (11, .if_icmp .lt 15), (14, .iload_n 2), (15, .aload_n 0), (16, .getfield 7), (19, .iload_n 1), (20, .iconst 1), (21, .isub), (22, .iaload), (23, .if_icmp .lt 5), (26, .iconst (-1)), (27, .ireturn), (28, .iload_n 2), (29, .iconst (-1)), (30, .if_icmp .ne 14), (33, .aload_n 0), (34, .getfield 7), (37, .iload_n 1), (38, .iconst 1), (39, .isub), (40, .iaload), (41, .goto 31), (44, .bipush 16), (46, .aload_n 0), (47, .getfield 13), (50, .iconst 4), (51, .iload_n 1), (52, .iconst 1), (53, .isub), (54, .imul), (55, .iload_n 2), (56, .iadd), (57, .iaload), (58, .imul), (59, .aload_n 0), (60, .getfield 16), (63, .iconst 4), (64, .iload_n 1), (65, .iconst 1), (66, .isub), (67, .imul), (68, .iload_n 2), (69, .iadd), (70, .iaload), (71, .iadd), (72, .ireturn)]
def fl_M_shape : List (Nat × Nat × Nat × Nat) := [(7, 10, 0, 2), (13, 10, 1, 2), (16, 10, 2, 2)]
def cb_M_shape : List (Instr × Nat × Nat × Option Nat × am_F) := [(.invokestatic 89, 89, 3, none, f_M_in)]
def m_M_shape : am_M := am_mk co_M_shape fl_M_shape (cb_M_shape.map (fun z => z.2)) [] [] none 0
def f_M_shape : am_F := am_mf m_M_shape 3
theorem o_M_shape : am_ok m_M_shape := am_mk_ok (am_cb_ok (List.forall_mem_cons.mpr ⟨n_M_in, (fun _ h => absurd h List.not_mem_nil)⟩))
theorem n_M_shape : am_mono f_M_shape := am_mf_mono o_M_shape
theorem g_M_shape : ∀ x q, am_cal m_M_shape x = some q → am_grow q.2.2 := am_mk_grow (am_cb_gr (List.forall_mem_cons.mpr ⟨h_M_in, (fun _ h => absurd h List.not_mem_nil)⟩))
theorem h_M_shape : am_grow f_M_shape := am_mf_grow g_M_shape
