/-! A method's tables, checked by a program. -/
def am_mk (co : List (Nat × Instr)) (fl : List (Nat × Nat × Nat × Nat)) (ca : List (Nat × Nat × Option Nat × am_F)) (ne : List (Nat × Nat × List (Option (Option Nat)))) (ar : List (Nat × Nat)) (sc : Option (Nat × (Nat → Int32))) (re : Nat) : am_M :=
  (fun x => co.lookup x, fun x => fl.lookup x, fun x => ca.lookup x, fun x => ne.lookup x, fun x => ar.lookup x, sc, re)
theorem am_lookup_mem {β : Type} {x : Nat} {b : β} : ∀ {L : List (Nat × β)}, L.lookup x = some b → (x, b) ∈ L
  | [], h => by cases h
  | (k, c) :: L, h => by
    unfold List.lookup at h
    split at h
    · rename_i hk
      cases h
      have hk : x = k := by simpa using hk
      subst hk
      exact List.mem_cons_self
    · exact List.mem_cons_of_mem _ (am_lookup_mem h)
theorem am_mk_ok {co : List (Nat × Instr)} {fl : List (Nat × Nat × Nat × Nat)} {ca : List (Nat × Nat × Option Nat × am_F)} {ne : List (Nat × Nat × List (Option (Option Nat)))} {ar : List (Nat × Nat)} {sc : Option (Nat × (Nat → Int32))} {re : Nat} (h : ∀ q ∈ ca, am_mono q.2.2.2) : am_ok (am_mk co fl ca ne ar sc re) :=
  fun x q hq => h (x, q) (am_lookup_mem hq)
theorem am_mk_grow {co : List (Nat × Instr)} {fl : List (Nat × Nat × Nat × Nat)} {ca : List (Nat × Nat × Option Nat × am_F)} {ne : List (Nat × Nat × List (Option (Option Nat)))} {ar : List (Nat × Nat)} {sc : Option (Nat × (Nat → Int32))} {re : Nat} (h : ∀ q ∈ ca, am_grow q.2.2.2) : ∀ x q, am_cal (am_mk co fl ca ne ar sc re) x = some q → am_grow q.2.2 :=
  fun x q hq => h (x, q) (am_lookup_mem hq)
def am_in (Ts : List Jvm.Cond) (w : Jvm.Cond) : Bool := decide (w ∈ Ts)
def am_ckL (Ts : List Jvm.Cond) (own host : String) (x : Nat) (C nm d : String) : Bool := am_in Ts (.fieldLink own x C nm d) || am_in Ts (.fieldLinkNest own x C nm d host)
def am_ckW (Ts : List Jvm.Cond) (C : String) (T : u_T) (Nf : Nat) : Bool := (u_ws C T Nf).all (fun w => am_in Ts w)
def am_ckG (cl : List vw_C) (Ts : List Jvm.Cond) (own host : String) (x ci k : Nat) : Bool := match cl[ci]? with
  | some (C, T, Nf) => decide (k < Nf) && (am_ckW Ts C T Nf && (decide ((T k).1 = C) && am_ckL Ts own host x C (T k).2.1 (T k).2.2.1))
  | none => false
def am_pty (T : u_T) (j : Nat) : FieldType := (parseFieldDescriptor (T j).2.2.1).getD .int
def am_ckT (T : u_T) (Nf : Nat) : Bool := (List.range Nf).all (fun j => (parseFieldDescriptor (T j).2.2.1).isSome)
def am_ckP (cl : List vw_C) (Ts : List Jvm.Cond) (own host : String) (ini : Bool) (x ci k kd : Nat) : Bool := match cl[ci]? with
  | some (C, T, Nf) => decide (k < Nf) && (am_ckW Ts C T Nf && (decide ((T k).1 = C) && (am_ckT T Nf && ((List.range Nf).all (fun a => (List.range Nf).all (fun b => decide (a = b) || decide ((T a).2.1 ≠ (T b).2.1))) &&
      ((decide (kd = 0) && decide (am_pty T k = .int) || (decide (kd = 1) && decide (am_pty T k = .boolean) || decide (kd = 2) && (am_pty T k).isReference)) &&
       (decide ((T k).2.2.2 = false) && am_ckL Ts own host x C (T k).2.1 (T k).2.2.1 || decide ((T k).2.2.2 = true) && (ini && (decide (C = own) && am_in Ts (.fieldLink own x C (T k).2.1 (T k).2.2.1)))))))))
  | none => false
def am_ckN (cl : List vw_C) (Ts : List Jvm.Cond) (own : String) (x ci : Nat) (fl : List (Option (Option Nat))) : Bool := match cl[ci]? with
  | some (C, T, Nf) => am_ckW Ts C T Nf && (am_ckT T Nf && (am_in Ts (.classLink own x C) && (am_in Ts (.instantiable C Nf) && (am_in Ts (.initialized C) && (decide (fl.length = Nf) &&
      (List.range Nf).all (fun j => decide (fl[j]? = some none) && decide (defaultValue (am_pty T j) = .int 0) || decide (fl[j]? = some (some none)) && decide (defaultValue (am_pty T j) = .null)))))))
  | none => false
def am_ckA (Ts : List Jvm.Cond) (own : String) (x t : Nat) : Bool := match am_ty t with
  | some (.object C) => am_in Ts (.classLink own x C) && am_in Ts (.arrayOver (.object C))
  | _ => false
def am_ckI (Ts : List Jvm.Cond) (kd : Nat → Option Instr) (pl al : List Nat) (i : Instr) : Bool := match i with
  | .putfield x => pl.contains x
  | .anewarray x => al.contains x
  | .newarray .int => am_in Ts (.arrayClass .int)
  | .newarray .boolean => am_in Ts (.arrayClass .boolean)
  | .newarray _ => true
  | .invokevirtual x => decide (kd x = some (.invokevirtual x))
  | .invokespecial x => decide (kd x = some (.invokespecial x))
  | .invokestatic x => decide (kd x = some (.invokestatic x))
  | _ => true
def am_ckD (cc : ByteArray) (nL : Nat) (q : Nat × Instr) : Bool := (match decode cc q.1 with
  | .ok z => decide (z.1 = q.2) && (decide (am_len z.1 = 0) || decide (am_len z.1 = z.2))
  | .error _ => false) && am_bd nL q.1 q.2
theorem am_ckD_ok {cc : ByteArray} {nL : Nat} {q : Nat × Instr} (h : am_ckD cc nL q = true) : (∃ len, decode cc q.1 = .ok (q.2, len) ∧ (am_len q.2 = 0 ∨ am_len q.2 = len)) ∧ am_bd nL q.1 q.2 = true := by
  unfold am_ckD at h
  rw [Bool.and_eq_true] at h
  refine ⟨?_, h.2⟩
  have h := h.1
  split at h
  · rename_i z hz
    rw [Bool.and_eq_true, Bool.or_eq_true] at h
    obtain ⟨i, len⟩ := z
    have h1 : i = q.2 := of_decide_eq_true h.1
    subst h1
    exact ⟨len, hz, h.2.imp of_decide_eq_true of_decide_eq_true⟩
  · cases h
section AMK
variable {cl : List vw_C} {Ts ws : List Jvm.Cond} {own host : String} {args : Array Value} {s : State} {meth : Method} {x ci k kd : Nat}
theorem am_in_ok {w : Jvm.Cond} (hts : ∀ w ∈ ws, w.before args s = true) (hsub : ∀ w ∈ Ts, w ∈ ws) (h : am_in Ts w = true) : w.before args s = true := hts _ (hsub _ (of_decide_eq_true h))
theorem am_ckL_ok {C nm d : String} (hts : ∀ w ∈ ws, w.before args s = true) (hsub : ∀ w ∈ Ts, w ∈ ws) (h : am_ckL Ts own host x C nm d = true) : am_lk own args s x C nm d := by
  unfold am_ckL at h
  rw [Bool.or_eq_true] at h
  rcases h with h | h
  · exact Or.inl (am_in_ok hts hsub h)
  · exact Or.inr ⟨host, am_in_ok hts hsub h⟩
theorem am_ckW_ok {C : String} {T : u_T} {Nf : Nat} (hsub : ∀ w ∈ Ts, w ∈ ws) (h : am_ckW Ts C T Nf = true) : ∀ w ∈ u_ws C T Nf, w ∈ ws := fun w hw => hsub _ (of_decide_eq_true (List.all_eq_true.mp h w hw))
theorem am_ckT_ok {T : u_T} {Nf : Nat} (h : am_ckT T Nf = true) : ∀ k, k < Nf → parseFieldDescriptor (T k).2.2.1 = some (am_pty T k) := fun k hk => by
  have := List.all_eq_true.mp h k (List.mem_range.mpr hk)
  unfold am_pty
  cases hp : parseFieldDescriptor (T k).2.2.1 with
  | none => rw [hp] at this; cases this
  | some t => rfl
theorem am_ckG_ok (hts : ∀ w ∈ ws, w.before args s = true) (hsub : ∀ w ∈ Ts, w ∈ ws) (h : am_ckG cl Ts own host x ci k = true) : am_gOK cl ws own args s x ci k := by
  unfold am_ckG at h
  split at h
  · rename_i C T Nf hc
    simp only [Bool.and_eq_true] at h
    obtain ⟨h1, h2, h3, h4⟩ := h
    exact ⟨C, T, Nf, hc, of_decide_eq_true h1, am_ckW_ok hsub h2, of_decide_eq_true h3, am_ckL_ok hts hsub h4⟩
  · cases h
theorem am_ckP_ok {ini : Bool} (hts : ∀ w ∈ ws, w.before args s = true) (hsub : ∀ w ∈ Ts, w ∈ ws) (hi : ini = true → meth.name = "<init>") (h : am_ckP cl Ts own host ini x ci k kd = true) : am_pOK cl ws own args s meth x ci k kd := by
  unfold am_ckP at h
  split at h
  · rename_i C T Nf hc
    simp only [Bool.and_eq_true, Bool.or_eq_true] at h
    obtain ⟨h1, h2, h3, h4, h5, h6, h7⟩ := h
    refine ⟨C, T, Nf, am_pty T, hc, of_decide_eq_true h1, am_ckW_ok hsub h2, of_decide_eq_true h3, am_ckT_ok h4, fun a ha b hb hab => ?_, ?_, ?_⟩
    · have := List.all_eq_true.mp (List.all_eq_true.mp h5 a (List.mem_range.mpr ha)) b (List.mem_range.mpr hb)
      rw [Bool.or_eq_true] at this
      rcases this with h | h
      · exact absurd (of_decide_eq_true h) hab
      · exact of_decide_eq_true h
    · rcases h6 with h | h | h
      · exact Or.inl ⟨of_decide_eq_true h.1, of_decide_eq_true h.2⟩
      · exact Or.inr (Or.inl ⟨of_decide_eq_true h.1, of_decide_eq_true h.2⟩)
      · exact Or.inr (Or.inr ⟨of_decide_eq_true h.1, h.2⟩)
    · rcases h7 with h | h
      · exact Or.inl ⟨of_decide_eq_true h.1, am_ckL_ok hts hsub h.2⟩
      · exact Or.inr ⟨of_decide_eq_true h.1, hi h.2.1, of_decide_eq_true h.2.2.1, am_in_ok hts hsub h.2.2.2⟩
  · cases h
theorem am_ckN_ok {fl : List (Option (Option Nat))} (hts : ∀ w ∈ ws, w.before args s = true) (hsub : ∀ w ∈ Ts, w ∈ ws) (h : am_ckN cl Ts own x ci fl = true) : am_nOK cl ws own args s x ci fl := by
  unfold am_ckN at h
  split at h
  · rename_i C T Nf hc
    simp only [Bool.and_eq_true] at h
    obtain ⟨h1, h2, h3, h4, h5, h6, h7⟩ := h
    refine ⟨C, T, Nf, am_pty T, hc, am_ckW_ok hsub h1, am_ckT_ok h2, am_in_ok hts hsub h3, am_in_ok hts hsub h4, am_in_ok hts hsub h5, of_decide_eq_true h6, fun j hj => ?_⟩
    have := List.all_eq_true.mp h7 j (List.mem_range.mpr hj)
    simp only [Bool.and_eq_true, Bool.or_eq_true] at this
    rcases this with h | h
    · exact Or.inl ⟨of_decide_eq_true h.1, of_decide_eq_true h.2⟩
    · exact Or.inr ⟨of_decide_eq_true h.1, of_decide_eq_true h.2⟩
  · cases h
end AMK
/-- a call's entry, good at each of its places -/
def am_K (l : Launch) (y : MethodName) (cl : List vw_C) (cc : ByteArray) (nL fr lo : Nat) (z : Instr × Nat × Nat × Option Nat × am_F) : Prop :=
  ∀ (p : Program) (e : Env) (R : Room) (s : State) (m : MethodId) (args : Array Value) (below : List Frame) (meth : Method) (c : Code) (A : Nat → Prop) (D : va_G) (cy : Nat → ClassId) (tys : List (ClassId × FieldType)) (sb n0 s0 pc : Nat),
    CallFix p m c cc nL s args am_tb y.cls → am_NW s → va_K D cl tys s → (∀ t ty, am_ty t = some ty → tys[t]? = some (cy t, ty)) → (∀ q, s.heap.size ≤ q → A q) → R.frames = fr → R.locals = lo → decode cc pc = .ok (z.1, 3) →
    am_cOK p l e R s m args below meth c A D cl cy sb nL n0 s0 pc z.2.2.1 z.2.2.2.1 z.2.2.2.2
def am_Kg (l : Launch) (y : MethodName) (cl : List vw_C) (cc : ByteArray) (nL : Nat) (x t : Nat) : Prop :=
  ∀ (p : Program) (e : Env) (R : Room) (s : State) (m : MethodId) (args : Array Value) (below : List Frame) (meth : Method) (c : Code) (A : Nat → Prop) (D : va_G) (cy : Nat → ClassId) (tys : List (ClassId × FieldType)) (n0 s0 pc : Nat),
    CallFix p m c cc nL s args am_tb y.cls → am_NW s → va_K D cl tys s → (∀ t ty, am_ty t = some ty → tys[t]? = some (cy t, ty)) → (∀ q, s.heap.size ≤ q → A q) → decode cc pc = .ok (.multianewarray x 2, 4) →
    am_GOK p l e R s m args below meth c A D cl cy nL n0 s0 pc t
theorem am_cb_lookup {x : Nat} {i : Instr} {q : Nat × Option Nat × am_F} : ∀ {cb : List (Instr × Nat × Nat × Option Nat × am_F)}, (cb.map (fun z => (z.2.1, z.1))).lookup x = some i → (cb.map (fun z => z.2)).lookup x = some q → ∃ z ∈ cb, z.1 = i ∧ z.2.2 = q
  | [], h, _ => by cases h
  | z :: cb, h, h2 => by
    rw [List.map_cons, List.lookup] at h h2
    cases hk : x == z.2.1 with
    | true =>
      rw [hk] at h h2
      cases h
      cases h2
      exact ⟨z, List.mem_cons_self, rfl, rfl⟩
    | false =>
      rw [hk] at h h2
      obtain ⟨w, hw, e1, e2⟩ := am_cb_lookup h h2
      exact ⟨w, List.mem_cons_of_mem _ hw, e1, e2⟩
def am_ck (cl : List vw_C) (Ts : List Jvm.Cond) (own host : String) (ini : Bool) (cc : ByteArray) (nL : Nat) (co : List (Nat × Instr)) (fl : List (Nat × Nat × Nat × Nat)) (kl : List (Nat × Instr)) (ne : List (Nat × Nat × List (Option (Option Nat)))) (ar : List (Nat × Nat)) (pl al : List Nat) : Bool :=
  co.all (fun q => am_ckD cc nL q && am_ckI Ts (fun x => kl.lookup x) pl al q.2) && (fl.all (fun q => am_ckG cl Ts own host q.1 q.2.1 q.2.2.1) && (pl.all (fun x => match fl.lookup x with
    | some q => am_ckP cl Ts own host ini x q.1 q.2.1 q.2.2
    | none => true) && (ne.all (fun q => am_ckN cl Ts own q.1 q.2.1 q.2.2) && al.all (fun x => match ar.lookup x with
    | some t => am_ckA Ts own x t
    | none => true))))
theorem am_ctx {l : Launch} {y : MethodName} {cl : List vw_C} {cc : ByteArray} {nL fr lo : Nat} {co : List (Nat × Instr)} {fl : List (Nat × Nat × Nat × Nat)} {cb : List (Instr × Nat × Nat × Option Nat × am_F)} {ne : List (Nat × Nat × List (Option (Option Nat)))} {ar : List (Nat × Nat)} {sc : Option (Nat × (Nat → Int32))} {re : Nat} (Ts : List Jvm.Cond) (kl : List (Nat × Instr)) (host : String) (ini : Bool) (pl al : List Nat) (hsub : ∀ w ∈ Ts, w ∈ am_tb)
    (hk : kl = cb.map (fun z => (z.2.1, z.1))) (hck : am_ck cl Ts y.cls host ini cc nL co fl kl ne ar pl al = true) (hini : ini = true → y.name = "<init>") (hcal : ∀ z ∈ cb, am_K l y cl cc nL fr lo z) (hgr : ∀ x t, ar.lookup x = some t → x ∉ al → am_Kg l y cl cc nL x t) (hdm : co.all (fun q => match q.2 with
      | .multianewarray x k => decide (k = 2) && !al.contains x
      | _ => true) = true) : am_Ctx l y cl cc nL fr lo (am_mk co fl (cb.map (fun z => z.2)) ne ar sc re) := by
  subst hk
  intro p e R s m args below meth c A D cy tys sb n0 s0 S hN hnm hK hty hA hR1 hR2 pc i hi
  unfold am_ck at hck
  simp only [Bool.and_eq_true] at hck
  obtain ⟨c1, c2, c3, c4, c5⟩ := hck
  have hmem : (pc, i) ∈ co := am_lookup_mem hi
  have d1 := List.all_eq_true.mp c1 _ hmem
  rw [Bool.and_eq_true] at d1
  obtain ⟨e1, e2⟩ := am_ckD_ok d1.1
  have d2 := d1.2
  have hts := S.2.2.2.2
  have call : ∀ x (q : Nat × Option Nat × am_F), (cb.map (fun z => (z.2.1, z.1))).lookup x = some i → am_len i = 3 → (cb.map (fun z => z.2)).lookup x = some q → am_cOK p l e R s m args below meth c A D cl cy sb nL n0 s0 pc q.1 q.2.1 q.2.2 := by
    intro x q h1 h3 h2
    obtain ⟨z, hz, g1, g2⟩ := am_cb_lookup h1 h2
    subst g1
    subst g2
    obtain ⟨len, g3, g4⟩ := e1
    have g5 : len = 3 := by
      dsimp only at g4
      rcases g4 with g4 | g4 <;> omega
    subst g5
    exact hcal z hz p e R s m args below meth c A D cy tys sb n0 s0 pc S hN hK hty hA hR1 hR2 g3
  refine ⟨e1, e2, ?_⟩
  cases i with
  | getfield x =>
    intro q hq
    exact am_ckG_ok hts hsub (List.all_eq_true.mp c2 _ (am_lookup_mem hq))
  | putfield x =>
    intro q hq
    have hq : fl.lookup x = some q := hq
    have hx : x ∈ pl := by simpa [am_ckI] using d2
    have := List.all_eq_true.mp c3 x hx
    rw [hq] at this
    exact am_ckP_ok hts hsub (fun h => hnm.trans (hini h)) this
  | new x =>
    intro q hq
    exact am_ckN_ok hts hsub (List.all_eq_true.mp c4 _ (am_lookup_mem hq))
  | newarray t =>
    refine ⟨fun h => ?_, fun h => ?_⟩
    · subst h; exact am_in_ok hts hsub d2
    · subst h; exact am_in_ok hts hsub d2
  | anewarray x =>
    intro t ht
    have ht : ar.lookup x = some t := ht
    have hx : x ∈ al := by simpa [am_ckI] using d2
    have := List.all_eq_true.mp c5 x hx
    rw [ht] at this
    have this : am_ckA Ts y.cls x t = true := this
    unfold am_ckA at this
    split at this
    · rename_i C hC
      rw [Bool.and_eq_true] at this
      exact ⟨C, hC, am_in_ok hts hsub this.1, am_in_ok hts hsub this.2⟩
    · cases this
  | multianewarray x k =>
    intro t ht
    have := List.all_eq_true.mp hdm _ hmem
    simp only [Bool.and_eq_true] at this
    have hk2 : k = 2 := of_decide_eq_true this.1
    subst hk2
    obtain ⟨len, g3, g4⟩ := e1
    have g5 : len = 4 := by rcases g4 with g4 | g4; cases g4; exact g4.symm
    subst g5
    exact hgr x t ht (by simpa using this.2) p e R s m args below meth c A D cy tys n0 s0 pc S hN hK hty hA g3
  | invokevirtual x => intro q hq; exact call x q (of_decide_eq_true d2) rfl hq
  | invokespecial x => intro q hq; exact call x q (of_decide_eq_true d2) rfl hq
  | invokestatic x => intro q hq; exact call x q (of_decide_eq_true d2) rfl hq
  | _ => trivial
