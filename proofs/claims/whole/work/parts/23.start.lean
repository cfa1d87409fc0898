/-! The claim out of a run of the small machine. -/
def am_law (L : Nat) (xs : Nat → Int32) : Prop := ∃ (N : Nat) (h' : am_H), am_run (m_W_law L xs) N N 0 [.retAddr 0] [] ([], fun _ _ => 0) = some (some (.int 1), h') ∧ h'.1.length ≤ 600000 ∧ am_slt h'.1 ≤ 7302250
theorem am_tb_in : ∀ w ∈ am_tb, w ∈ lw_tbl := fun _ hw => (List.mem_filter.mp hw).1
def am_inst : List Jvm.Cond := am_cl.map (fun q => .instantiable q.1 q.2.2)
def am_lays : List Jvm.Cond := am_cl.flatMap (fun q => u_ws q.1 q.2.1 q.2.2)
set_option maxRecDepth 100000 in
theorem am_inst_in : ∀ w ∈ am_inst, w ∈ lw_tbl := by decide +kernel
set_option maxRecDepth 100000 in
theorem am_lays_in : ∀ w ∈ am_lays, w ∈ lw_tbl := by decide +kernel
set_option maxRecDepth 100000 in
theorem am_arr_in : ∀ w ∈ ([.arrayClass .int, .arrayClass .boolean, .arrayOver (.object "PatchedMachine$Layout"), .arrayOver (.object "PatchedMachine$Routine"), .arrayOver (.object "PatchedMachine$Program"), .arrayOver (.object "PatchedMachine$Frame"), .arrayOver (.array .int)] : List Jvm.Cond), w ∈ lw_tbl := by decide +kernel
theorem am_known {s : State} {args : Array Value} (hts : ∀ w ∈ lw_tbl, w.before args s = true) : ∃ D : va_G, ∀ (c : Nat) (q : vw_C), am_cl[c]? = some q → u_Kn s q.1 q.2.1 q.2.2 (D.1 c) (D.2 c) := by
  have h : ∀ c : Nat, ∃ z : ClassId × (Nat → Nat), ∀ q : vw_C, am_cl[c]? = some q → u_Kn s q.1 q.2.1 q.2.2 z.1 z.2 := by
    intro c
    cases hq : am_cl[c]? with
    | none => exact ⟨(0, fun _ => 0), fun q h => by cases h⟩
    | some q =>
      have hm := List.mem_of_getElem? hq
      obtain ⟨cC, iS, hk⟩ := u_known (C := q.1) (T := q.2.1) (N := q.2.2) hts (fun w hw => am_lays_in w (List.mem_flatMap.mpr ⟨q, hm, hw⟩)) (hts _ (am_inst_in _ (List.mem_map.mpr ⟨q, hm, rfl⟩)))
      exact ⟨(cC, iS), fun q2 h2 => by cases h2; exact hk⟩
  exact ⟨(fun c => (Classical.choose (h c)).1, fun c => (Classical.choose (h c)).2), fun c q hq => Classical.choose_spec (h c) q hq⟩
theorem am_aP {s : State} {args : Array Value} {ty : FieldType} (h : (Cond.arrayClass ty).before args s = true) (hn : ∀ C, ty ≠ .object C) : ∃ c : ClassId, ArrOfT s c ty ∧ va_RA s c ty := by
  obtain ⟨c, k, comp, h1, h2, h3⟩ := Cond.arrayClass_spec h
  refine ⟨c, fun N z => ⟨(fun q hq => by cases hq), k, h2, comp, h3⟩, ?_⟩
  cases ty <;> first | exact h1 | exact absurd rfl (hn _)
theorem am_aO {s : State} {args : Array Value} {C : String} (h : (Cond.arrayOver (.object C)).before args s = true) : ∃ c : ClassId, ArrOfT s c (.object C) ∧ va_RA s c (.object C) := by
  obtain ⟨comp, c, k, h1, h2, h3, h4, h5⟩ := Cond.arrayOver_spec h
  exact ⟨c, fun N z => ⟨(fun q hq => by cases hq), k, h3, comp, h4⟩, k, comp, h3, h4, h1, h5⟩
theorem am_aG {s : State} {args : Array Value} (h : (Cond.arrayOver (.array .int)).before args s = true) : ∃ c : ClassId, ArrOfT s c (.array .int) ∧ va_RA s c (.array .int) := by
  obtain ⟨comp, c, k, h1, h2, h3, h4, h5⟩ := am_aoA_spec h
  exact ⟨c, fun N z => ⟨(fun q hq => by cases hq), k, h3, comp, h4⟩, h5⟩
theorem am_tys {s : State} {args : Array Value} (hts : ∀ w ∈ lw_tbl, w.before args s = true) : ∃ (cy : Nat → ClassId) (tys : List (ClassId × FieldType)), (∀ t ty, am_ty t = some ty → tys[t]? = some (cy t, ty)) ∧ ∀ (k : Nat) (q : ClassId × FieldType), tys[k]? = some q → ArrOfT s q.1 q.2 ∧ va_RA s q.1 q.2 := by
  have hm := fun w hw => hts w (am_arr_in w hw)
  obtain ⟨c0, h0⟩ := am_aP (hm (.arrayClass .int) (by simp)) (fun _ h => by cases h)
  obtain ⟨c1, h1⟩ := am_aP (hm (.arrayClass .boolean) (by simp)) (fun _ h => by cases h)
  obtain ⟨c2, h2⟩ := am_aO (hm (.arrayOver (.object "PatchedMachine$Layout")) (by simp))
  obtain ⟨c3, h3⟩ := am_aO (hm (.arrayOver (.object "PatchedMachine$Routine")) (by simp))
  obtain ⟨c4, h4⟩ := am_aO (hm (.arrayOver (.object "PatchedMachine$Program")) (by simp))
  obtain ⟨c5, h5⟩ := am_aO (hm (.arrayOver (.object "PatchedMachine$Frame")) (by simp))
  obtain ⟨c6, h6⟩ := am_aG (hm (.arrayOver (.array .int)) (by simp))
  refine ⟨fun t => [c0, c1, c2, c3, c4, c5, c6].getD t 0, [(c0, .int), (c1, .boolean), (c2, .object "PatchedMachine$Layout"), (c3, .object "PatchedMachine$Routine"), (c4, .object "PatchedMachine$Program"), (c5, .object "PatchedMachine$Frame"), (c6, .array .int)], fun t ty h => ?_, fun k q h => ?_⟩
  · unfold am_ty at h
    split at h <;> first | (cases h; rfl) | cases h
  · have hq := List.mem_of_getElem? h
    simp only [List.mem_cons, List.not_mem_nil, or_false] at hq
    rcases hq with rfl | rfl | rfl | rfl | rfl | rfl | rfl
    · exact h0
    · exact h1
    · exact h2
    · exact h3
    · exact h4
    · exact h5
    · exact h6
def R_law : String := "PatchedMachineLaw"
def lw_P (b : Addr) (xs : List Int32) (args : Array Value) (s : State) : Prop := args = #[.ref b] ∧ s.IntsAt b xs ∧ xs.length ≤ 2560 ∧ (Jvm.Cond.and given_1 narrow_1).before args s = true
def lw_Q (_ : Array Value) (s : State) (o : Outcome) (t : State) : Prop := o = .returned (some (.int 1)) ∧ Framed s o t [] 600000 7302250
def lw_Z (below : List Frame) (a : Array Value) (s : State) : State → Prop := fun t => ∃ o, t.status = .running ∧ Ended t below o ∧ lw_Q a s o t
/-- the law's own end, with 1 on the stack, nothing written that was there before, its room as the claim has it -/
theorem lw_ret {p : Program} {l : Launch} {e : Env} {s : State} {m : MethodId} {below : List Frame} {meth : Method} {c : Code} {b : Nat} (hx : p.tables.exec = Jvm.exec) (hb : c.code = code) (hr : meth.sig.returnType = ret) (hlocks : meth.locks = false) {pc : Nat} {H : Heap} {ls : Array Slot} (hdg : decode code pc = .ok (.ireturn, 1)) : W p l e room_1 s m #[Value.ref b] below meth c H [] 600000 7302250 (lw_Z below #[Value.ref b] s) (F0 m pc ls [.int 1]) := by
  intro T hT X
  obtain ⟨fs, hret, hrun, hended, hW, hframe⟩ := X.leave (v := some (.int 1)) (hlocks := hlocks) (fun h => by rw [hr] at h; cases h)
  have hmeth' : T.vm.method? m = some meth := X.method'
  refine ⟨T.setFrames fs, ?_, .returned (some (.int 1)), hrun, hended, rfl, ⟨_, rfl⟩, hW, hframe⟩
  jvm_step X.here [X.here.top, hx, hb, hdg, hmeth', hr, ret, narrow_b1]
  (try refine ⟨rfl, ?_⟩); (try refine ⟨rfl, ?_⟩)
  first | (intro acts; rw [hret _ acts rfl rfl rfl]) | rw [hret _ _ rfl rfl rfl]
  exact Steps.refl _
/-- what holds at the law's entry: the machine, the code, the tables' words (any of lw_tbl by 'hts w (by decide +kernel)'), the script of L ints xs at the cell b, what the Statement gives of the start (any of its parts by flat_of_before) -/
def lw_At (p : Program) (s : State) (m : MethodId) (meth : Method) (c : Code) (b L : Nat) (xs : Nat → Int32) : Prop :=
  p.tables.exec = Jvm.exec ∧ c.code = code ∧ meth.sig.returnType = ret ∧ c.maxLocals = 4 ∧ s.vm.findClass R_law = some m.cls ∧ (∀ w ∈ lw_tbl, w.before #[Value.ref b] s = true) ∧ va_X b L xs s s.heap ∧ b < s.heap.size ∧ meth.locks = false ∧ (Jvm.Cond.and given_1 narrow_1).before #[Value.ref b] s = true
theorem am_whole {p : Program} {e : Env} {s : State} {m : MethodId} {below : List Frame} {meth : Method} {c : Code} (l : Launch) {b L : Nat} {xs : Nat → Int32} (hp : am_law L xs) (C0 : lw_At p s m meth c b L xs) : W p l e room_1 s m #[Value.ref b] below meth c s.heap [] 0 0 (lw_Z below #[Value.ref b] s) (entryFrame m ([Value.ref b] : List Value).toArray 4) := by
  obtain ⟨hx, hb, hr, hml, hown, hts, hX, hbl, hlocks, hgv⟩ := C0
  obtain ⟨N, h', hrun, hc1, hc2⟩ := hp
  obtain ⟨D, hD⟩ := am_known hts
  obtain ⟨cy, tys, hty, htys⟩ := am_tys hts
  have hK : va_K D am_cl tys s := ⟨hD, htys⟩
  have ht2 : ∀ w ∈ am_tb, w.before #[Value.ref b] s = true := fun w hw => hts w (am_tb_in w hw)
  have hA : ∀ q : Nat, s.heap.size ≤ q → (fun q => s.heap.size ≤ q) q := fun q h => h
  have hI : am_I (fun q => s.heap.size ≤ q) D am_cl cy s.heap (fun _ => 0) ([], fun _ _ => 0) s.heap [] := ⟨fun k q h => (by cases h), ⟨fun i j p q h => (by cases h), fun k q h => (by cases h)⟩, va_S.rf, fun i d h => (by cases h), fun _ _ _ => rfl⟩
  rw [lg_entry_eq]
  refine W.cs (cells' := ([] : List am_D).length - 0) (slots' := am_slt [] - 0) rfl rfl ?_
  refine am_sim (M := m_W_law L xs) (N := N) (rE := some (.int 1)) (hE := h') (al0 := fun _ => 0) (n0 := 0) (s0 := 0) (sb := b) (R := room_1) (nL := 4) (Ts := am_tb) (own := R_law) hx hb ht2 hown hK hty am_htc hA (fun q hq => (by cases hq; exact ⟨hX, hbl, fun h => absurd h (Nat.not_le.mpr hbl)⟩))
    (x_W_law l L xs p e room_1 s m _ below meth c _ D cy tys b 0 0 ⟨hx, hb, hml, hown, ht2⟩ (am_NW_of hts) hK hty hA rfl rfl) (g_W_law L xs) (by show h'.1.length ≤ 0 + 600000; omega) (by show am_slt h'.1 ≤ 0 + 7302250; omega) ?_ N 0 [.retAddr 0] [] ([], fun _ _ => 0) (fun _ => 0) s.heap [] _ hrun hI (am_entry (al := fun _ => 0) (sb := b) (as := [.retAddr 0]) (fun v hv => by rw [List.mem_singleton.mp hv]; trivial) (by decide)) (fun v hv => by cases hv) (Nat.zero_le _) (Nat.zero_le _) (fun _ _ => rfl)
  intro pc i st al' H locs lk hc hd hR hI' hs hab
  cases i with
  | ireturn =>
    obtain ⟨x, rfl, -, hx1⟩ := am_R_i hR
    cases hx1
    refine va_forget hI'.2.2.1.2.2 (W.widen (k := 600000) (n := 7302250) (by omega) (by omega) ?_)
    exact lw_ret hx hb hr hlocks hd
  | areturn => obtain ⟨x, -, h1, -⟩ := am_R_a hR; cases h1
  | return_ => obtain ⟨-, h1, -⟩ := am_R_v hR; cases h1
  | _ => cases hR
