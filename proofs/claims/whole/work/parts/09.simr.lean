/-! The two library calls that are no methods of ours; a whole run. -/
def am_obj : am_F := fun _ as h => match as with
  | [.ref _] => some (none, h)
  | _ => none
def am_cp (s : am_S) (a sp b dp n : Nat) : am_S := fun i => if i = b then va_cpy (s a) (s b) sp dp n else s i
def am_cpy : am_F := fun _ as h => match as with
  | [.ref a, .int sp, .ref b, .int dp, .int n] => (match h.1[a]?, h.1[b]? with
    | some (.inl (t, n0, none)), some (.inl (t', n1, none)) => if (t = 0 ∧ t' = 0) ∧ (¬ sp < 0 ∧ ¬ dp < 0 ∧ ¬ n < 0) ∧ sp.toNatClampNeg + n.toNatClampNeg ≤ n0 ∧ dp.toNatClampNeg + n.toNatClampNeg ≤ n1 then some (none, (h.1, am_cp h.2 a sp.toNatClampNeg b dp.toNatClampNeg n.toNatClampNeg)) else none
    | _, _ => none)
  | _ => none
theorem am_obj_some {N : Nat} {as : List Value} {h h' : am_H} {r : Option Value} (e : am_obj N as h = some (r, h')) : ∃ a, as = [.ref a] ∧ r = none ∧ h' = h := by
  unfold am_obj at e
  split at e
  · cases e
    exact ⟨_, rfl, rfl, rfl⟩
  · cases e
theorem am_cpy_some {N : Nat} {as : List Value} {h h' : am_H} {r : Option Value} (e : am_cpy N as h = some (r, h')) : ∃ a sp b dp n n0 n1, as = [.ref a, .int sp, .ref b, .int dp, .int n] ∧ h.1[a]? = some (.inl (0, n0, none)) ∧ h.1[b]? = some (.inl (0, n1, none)) ∧ (¬ sp < 0 ∧ ¬ dp < 0 ∧ ¬ n < 0) ∧ sp.toNatClampNeg + n.toNatClampNeg ≤ n0 ∧ dp.toNatClampNeg + n.toNatClampNeg ≤ n1 ∧ r = none ∧ h' = (h.1, am_cp h.2 a sp.toNatClampNeg b dp.toNatClampNeg n.toNatClampNeg) := by
  unfold am_cpy at e
  split at e
  · split at e
    · rename_i t n0 t' n1 h1 h2
      split at e
      · rename_i hc
        obtain ⟨⟨rfl, rfl⟩, h3, h4, h5⟩ := hc
        cases e
        exact ⟨_, _, _, _, _, _, _, rfl, h1, h2, h3, h4, h5, rfl, rfl⟩
      · cases e
    · cases e
  · cases e
theorem am_obj_mono : am_mono am_obj := fun _ _ _ _ _ _ e => e
theorem am_cpy_mono : am_mono am_cpy := fun _ _ _ _ _ _ e => e
theorem am_obj_grow : am_grow am_obj := fun N as h r h' e => by
  obtain ⟨a, -, -, rfl⟩ := am_obj_some e
  exact ⟨Nat.le_refl _, Nat.le_refl _⟩
theorem am_cpy_grow : am_grow am_cpy := fun N as h r h' e => by
  obtain ⟨_, _, _, _, _, _, _, -, -, -, -, -, -, -, rfl⟩ := am_cpy_some e
  exact ⟨Nat.le_refl _, Nat.le_refl _⟩
section AMR
variable {p : Program} {l : Launch} {e : Env} {R : Room} {s : State} {m : MethodId} {args : Array Value} {below : List Frame} {meth : Method} {c : Code}
variable {cc : ByteArray} {pc nL n0 s0 sb : Nat} {A : Nat → Prop} {D : va_G} {cl : List vw_C} {cy : Nat → ClassId} {tys : List (ClassId × FieldType)} {Ts : List Cond} {own : String} {M : am_M}
theorem am_cObj {x : Nat} {rc : Option Nat} (S : CallFix p m c cc nL s args Ts own) (hl : (Cond.methodLink own x Lib.objectInit).before args s = true) (hi : (Cond.instanceMethod Lib.objectInit).before args s = true) (hcd : (Cond.code Lib.objectInit ⟨#[0xb1]⟩ 1 none).before args s = true) (hR : 1 ≤ R.frames ∧ 20 ≤ R.locals) (hdg : decode cc pc = .ok (.invokespecial x, 3)) : am_cOK p l e R s m args below meth c A D cl cy sb nL n0 s0 pc 1 rc am_obj := by
  intro N as rest h h' r al H locs lk Q hf hn hrc h8 hI hva hvr hlk hn0 hs0 hg1 hg2 hc1 hc2 kk
  obtain ⟨a, rfl, rfl, rfl⟩ := am_obj_some hf
  obtain ⟨hx, hb, hml, ho, -⟩ := S
  refine W.objInit hx hb ho hl hi hcd rfl (hlk.trans hml.symm) (a := al a) (rest := rest.map (am_rn al sb)) rfl hdg hR.1 ?_ (kk al H locs (fun _ _ => rfl) hI (fun v hv => by cases hv))
  show 2 * 0 + _ + 12 ≤ _
  rw [am_lenw hvr]
  omega
theorem am_cCp {x : Nat} {rc : Option Nat} (S : CallFix p m c cc nL s args Ts own) (hK : va_K D cl tys s) (hty : ∀ t ty, am_ty t = some ty → tys[t]? = some (cy t, ty)) (h0 : am_ty 0 = some .int) (hl : (Cond.methodLink own x arraycopyName).before args s = true) (hnat : (Cond.native arraycopyName).before args s = true) (hstat : (Cond.static arraycopyName).before args s = true) (hini : (Cond.initialized "java/lang/System").before args s = true) (hR : 1 ≤ R.frames ∧ 26 ≤ R.locals) (hdg : decode cc pc = .ok (.invokestatic x, 3)) : am_cOK p l e R s m args below meth c A D cl cy sb nL n0 s0 pc 5 rc am_cpy := by
  intro N as rest h h' r al H locs lk Q hf hn hrc h8 hI hva hvr hlk hn0 hs0 hg1 hg2 hc1 hc2 kk
  obtain ⟨a, sp, b, dp, n, k0, k1, rfl, ha, hb1, ⟨h1, h2, h3⟩, h4, h5, rfl, rfl⟩ := am_cpy_some hf
  obtain ⟨hx, hb, hml, ho, -⟩ := S
  have wa := am_wl_at (cy := cy) (al := al) ha
  have wb := am_wl_at (cy := cy) (al := al) hb1
  refine va_copyi hx hb (hml.trans hlk.symm) ho hl hnat hstat hini hK hI.1 hI.2.1 hI.2.2.1 a b 0 0 wa wb (hty 0 _ h0) (hty 0 _ h0) rfl h1 h2 h3 h4 h5 (fun _ _ => rfl) hR.1 ?_ hdg (fun H1 locs1 hP hD hS => kk al H1 locs1 (fun _ _ => rfl) ?_ (fun v hv => by cases hv))
  · show ((rest.map (am_rn al sb)).map fun v => v.category).sum + _ ≤ _
    rw [am_lenw hvr]
    have : nativeFrameWords "java/lang/System" "arraycopy" 5 = 7 := by decide
    omega
  · obtain ⟨-, -, -, hw, hz⟩ := hI
    have hbl := (List.getElem?_eq_some_iff.mp hb1).1
    have ee := am_wl_set (h' := (h.1, am_cp h.2 a sp.toNatClampNeg b dp.toNatClampNeg n.toNatClampNeg)) (cy := cy) (al := al) (x := .inl (cy 0, k1, .inl (va_cpy (h.2 a) (h.2 b) sp.toNatClampNeg dp.toNatClampNeg n.toNatClampNeg))) hb1 (fun _ _ => rfl) (fun j hj => by show (if j = b then _ else _) = _; rw [if_neg hj]) hb1 (by simp only [am_ex, am_cp, if_pos]) hw
    refine ⟨by rw [ee]; exact hP, by rw [ee]; exact hD, hS, hw, fun j k hj => ?_⟩
    show (if j = b then _ else h.2 j) k = 0
    rw [if_neg (by have : h.1.length ≤ j := hj; omega)]
    exact hz j k hj
/-- a grid is made -/
def am_GOK (p : Program) (l : Launch) (e : Env) (R : Room) (s : State) (m : MethodId) (args : Array Value) (below : List Frame) (meth : Method) (c : Code) (A : Nat → Prop) (D : va_G) (cl : List vw_C) (cy : Nat → ClassId) (nL n0 s0 pc t : Nat) : Prop :=
  ∀ (n k : Int32) (restK : List Value) (h : am_H) (al : Nat → Nat) (H : Heap) (locs : List Loc) (lk : Array Slot) (Q : State → Prop), ¬ am_out n 1000 → ¬ am_out k 1000 → am_I A D cl cy s.heap al h H locs → lk.size = nL → n0 ≤ h.1.length → s0 ≤ am_slt h.1 → h.1.length + 1 + n.toNatClampNeg ≤ n0 + R.cells → am_slt h.1 + n.toNatClampNeg + n.toNatClampNeg * k.toNatClampNeg ≤ s0 + R.slots →
    (∀ (al' : Nat → Nat) (H1 : Heap), (∀ i, i < h.1.length → al' i = al i) → am_I A D cl cy s.heap al' (h.1 ++ ([.inl (t, n.toNatClampNeg, some ((List.range n.toNatClampNeg).map fun i => some (h.1.length + 1 + i)))] ++ List.replicate n.toNatClampNeg (.inl (0, k.toNatClampNeg, none))), h.2) H1 locs →
      W p l e R s m args below meth c H1 locs (h.1.length + 1 + n.toNatClampNeg - n0) (am_slt h.1 + n.toNatClampNeg + n.toNatClampNeg * k.toNatClampNeg - s0) Q (F0 m (pc + 4) lk (.ref (al' h.1.length) :: restK))) →
    W p l e R s m args below meth c H locs (h.1.length - n0) (am_slt h.1 - s0) Q (F0 m pc lk (.int k :: .int n :: restK))
/-- what the tables must say of an instruction -/
def am_V (p : Program) (l : Launch) (e : Env) (R : Room) (s : State) (m : MethodId) (args : Array Value) (below : List Frame) (meth : Method) (c : Code) (cc : ByteArray) (Ts : List Cond) (own : String) (A : Nat → Prop) (D : va_G) (cl : List vw_C) (cy : Nat → ClassId) (sb nL n0 s0 : Nat) (M : am_M) (pc : Nat) (i : Instr) : Prop :=
  (∃ len, decode cc pc = .ok (i, len) ∧ (am_len i = 0 ∨ am_len i = len)) ∧ am_bd nL pc i = true ∧ (match i with
    | .getfield x => ∀ q, am_fld M x = some q → am_gOK cl Ts own args s x q.1 q.2.1
    | .putfield x => ∀ q, am_fld M x = some q → am_pOK cl Ts own args s meth x q.1 q.2.1 q.2.2
    | .new x => ∀ q, am_new M x = some q → am_nOK cl Ts own args s x q.1 q.2
    | .newarray t => (t = .int → (Cond.arrayClass .int).before args s = true) ∧ (t = .boolean → (Cond.arrayClass .boolean).before args s = true)
    | .anewarray x => ∀ t, am_arr M x = some t → ∃ C, am_ty t = some (.object C) ∧ (Cond.classLink own x C).before args s = true ∧ (Cond.arrayOver (.object C)).before args s = true
    | .multianewarray x _ => ∀ t, am_arr M x = some t → am_GOK p l e R s m args below meth c A D cl cy nL n0 s0 pc t
    | .invokevirtual x => ∀ q, am_cal M x = some q → am_cOK p l e R s m args below meth c A D cl cy sb nL n0 s0 pc q.1 q.2.1 q.2.2
    | .invokespecial x => ∀ q, am_cal M x = some q → am_cOK p l e R s m args below meth c A D cl cy sb nL n0 s0 pc q.1 q.2.1 q.2.2
    | .invokestatic x => ∀ q, am_cal M x = some q → am_cOK p l e R s m args below meth c A D cl cy sb nL n0 s0 pc q.1 q.2.1 q.2.2
    | _ => True)
end AMR
