section
/-! The small machine (am_): cells go by number, references never name addresses; all ints stand in one table. It runs the decoded instructions of a method; calls go to functions. -/
/-- a cell: .inl (array type, length, none: ints, or its references), .inr (its kind, its fields: none an int, some a reference) -/
abbrev am_D : Type := (Nat × Nat × Option (List (Option Nat))) ⊕ (Nat × List (Option (Option Nat)))
abbrev am_S : Type := Nat → Nat → Int32
abbrev am_H : Type := List am_D × am_S
abbrev am_F : Type := Nat → List Value → am_H → Option (Option Value × am_H)
/-- a method: code, fields, calls, blank objects, array types, the script, what it returns (0 int, 1 boolean, 2 nothing, 3 a reference) -/
abbrev am_M : Type := (Nat → Option Instr) × (Nat → Option (Nat × Nat × Nat)) × (Nat → Option (Nat × Option Nat × am_F)) × (Nat → Option (Nat × List (Option (Option Nat)))) × (Nat → Option Nat) × Option (Nat × (Nat → Int32)) × Nat
abbrev am_code (M : am_M) : Nat → Option Instr := M.1
abbrev am_fld (M : am_M) : Nat → Option (Nat × Nat × Nat) := M.2.1
abbrev am_cal (M : am_M) : Nat → Option (Nat × Option Nat × am_F) := M.2.2.1
abbrev am_new (M : am_M) : Nat → Option (Nat × List (Option (Option Nat))) := M.2.2.2.1
abbrev am_arr (M : am_M) : Nat → Option Nat := M.2.2.2.2.1
abbrev am_scr (M : am_M) : Option (Nat × (Nat → Int32)) := M.2.2.2.2.2.1
abbrev am_ret (M : am_M) : Nat := M.2.2.2.2.2.2
/-- a place outside an array of n -/
abbrev am_out (x : Int32) (n : Nat) : Prop := x < 0 ∨ n ≤ x.toNatClampNeg
def am_wr (s : am_S) (i k : Nat) (v : Int32) : am_S := if s i k = v then s else fun i' k' => if i' = i ∧ k' = k then v else s i' k'
theorem am_wr_at (s : am_S) (i k : Nat) (v : Int32) (i' k' : Nat) : am_wr s i k v i' k' = if i' = i ∧ k' = k then v else s i' k' := by
  unfold am_wr
  split
  · rename_i h
    split
    · rename_i h2
      rw [h2.1, h2.2, h]
    · rfl
  · rfl
theorem am_wr_self (s : am_S) (i k : Nat) (v : Int32) : am_wr s i k v i k = v := by rw [am_wr_at, if_pos ⟨rfl, rfl⟩]
theorem am_wr_row (s : am_S) {i k : Nat} {v : Int32} {i' : Nat} (h : i' ≠ i) : am_wr s i k v i' = s i' := by
  funext k'
  rw [am_wr_at, if_neg (fun q => h q.1)]
theorem am_wr_col (s : am_S) {i k : Nat} {v : Int32} {i' k' : Nat} (h : k' ≠ k) : am_wr s i k v i' k' = s i' k' := by
  rw [am_wr_at, if_neg (fun q => h q.2)]
theorem am_wr_upd (s : am_S) (i k : Nat) (v : Int32) : am_wr s i k v i = upd (s i) k v := by
  funext k'
  rw [am_wr_at]
  unfold upd
  by_cases h : k' = k
  · rw [if_pos ⟨rfl, h⟩, if_pos h]
  · rw [if_neg (fun q => h q.2), if_neg h]
def am_gf (h : am_H) (i ci k : Nat) : Option Value :=
  match h.1[i]? with
  | some (.inr q) => if q.1 = ci then (match q.2[k]? with
      | some none => some (.int (h.2 i k))
      | some (some none) => some .null
      | some (some (some j)) => some (.ref j)
      | none => none) else none
  | _ => none
def am_pf (h : am_H) (i ci k kd : Nat) (v : Value) : Option am_H :=
  match h.1[i]? with
  | some (.inr q) => if q.1 = ci then (match q.2[k]?, kd, v with
      | some none, 0, .int x => some (h.1, am_wr h.2 i k x)
      | some none, 1, .int x => if x = 0 ∨ x = 1 then some (h.1, am_wr h.2 i k x) else none
      | some (some _), 2, .ref j => some (h.1.set i (.inr (q.1, q.2.set k (some (some j)))), h.2)
      | _, _, _ => none) else none
  | _ => none
def am_ld (h : am_H) (t i : Nat) (x : Int32) : Option Int32 :=
  match h.1[i]? with
  | some (.inl (t', n, none)) => if t' = t ∧ ¬ am_out x n then some (h.2 i x.toNatClampNeg) else none
  | _ => none
def am_sd (h : am_H) (t i : Nat) (x v : Int32) : Option am_H :=
  match h.1[i]? with
  | some (.inl (t', n, none)) => if t' = t ∧ ¬ am_out x n ∧ (t = 0 ∨ v = 0 ∨ v = 1) then some (h.1, am_wr h.2 i x.toNatClampNeg v) else none
  | _ => none
def am_la (h : am_H) (i : Nat) (x : Int32) : Option Nat :=
  match h.1[i]? with
  | some (.inl (_, n, some rs)) => if am_out x n then none else (rs[x.toNatClampNeg]?).join
  | _ => none
/-- the array types, and whose objects they hold -/
def am_ty : Nat → Option FieldType
  | 0 => some .int
  | 1 => some .boolean
  | 2 => some (.object "PatchedMachine$Layout")
  | 3 => some (.object "PatchedMachine$Routine")
  | 4 => some (.object "PatchedMachine$Program")
  | 5 => some (.object "PatchedMachine$Frame")
  | 6 => some (.array .int)
  | _ => none
def am_tyc : Nat → Option Nat
  | 2 => some 0
  | 3 => some 1
  | 4 => some 2
  | 5 => some 7
  | _ => none
def am_sa (h : am_H) (i : Nat) (x : Int32) (j : Nat) : Option am_H :=
  match h.1[i]?, h.1[j]? with
  | some (.inl (t, n, some rs)), some (.inr q) => if am_out x n ∨ ¬ am_tyc t = some q.1 then none else some (h.1.set i (.inl (t, n, some (rs.set x.toNatClampNeg (some j)))), h.2)
  | _, _ => none
def am_len : Instr → Nat
  | .bipush _ => 2 | .sipush _ => 3
  | .iload _ => 2 | .istore _ => 2 | .aload _ => 2 | .astore _ => 2 | .newarray _ => 2
  | .iinc _ _ => 3 | .getfield _ => 3 | .putfield _ => 3 | .new _ => 3 | .anewarray _ => 3
  | .goto _ => 3 | .ifCond _ _ => 3 | .if_icmp _ _ => 3
  | .invokevirtual _ => 3 | .invokespecial _ => 3 | .invokestatic _ => 3
  | .multianewarray _ _ => 4
  | .tableswitch _ _ _ _ => 0 | .lookupswitch _ _ => 0
  | _ => 1
/-- a store; what lies beyond the known ones is forgotten -/
def am_lst (v : Value) : Nat → List Value → List Value
  | 0, l => v :: l.tail
  | i + 1, l => match l with
    | x :: r => x :: am_lst v i r
    | [] => []
def am_b2 (f : Int32 → Int32 → Int32) (ls st : List Value) : Option (List Value × List Value) :=
  match st with
  | .int y :: .int x :: r => some (ls, .int (f x y) :: r)
  | _ => none
def am_ildF (ls st : List Value) (k : Nat) : Option (List Value × List Value) :=
  match ls[k]? with
  | some (.int x) => some (ls, .int x :: st)
  | _ => none
def am_aldF (ls st : List Value) (k : Nat) : Option (List Value × List Value) :=
  match ls[k]? with
  | some (.ref x) => some (ls, .ref x :: st)
  | some (.retAddr x) => some (ls, .retAddr x :: st)
  | _ => none
def am_istF (ls st : List Value) (k : Nat) : Option (List Value × List Value) :=
  match st with
  | .int x :: r => some (am_lst (.int x) k ls, r)
  | _ => none
def am_astF (ls st : List Value) (k : Nat) : Option (List Value × List Value) :=
  match st with
  | .ref x :: r => some (am_lst (.ref x) k ls, r)
  | _ => none
def am_incF (ls st : List Value) (k : Nat) (n : Int) : Option (List Value × List Value) :=
  match ls[k]? with
  | some (.int x) => some (am_lst (.int (x + Int32.ofInt n)) k ls, st)
  | _ => none
def am_remF (ls st : List Value) : Option (List Value × List Value) :=
  match st with
  | .int y :: .int x :: r => if y = 0 then none else some (ls, .int (x - x / y * y) :: r)
  | _ => none
def am_c1 (v : Value) : Bool := match v with
  | .int _ => true
  | .ref _ => true
  | .retAddr _ => true
  | .null => true
  | _ => false
def am_dupF (ls st : List Value) : Option (List Value × List Value) :=
  match st with
  | a :: r => if am_c1 a then some (ls, a :: a :: r) else none
  | _ => none
def am_popF (ls st : List Value) : Option (List Value × List Value) :=
  match st with
  | a :: r => if am_c1 a then some (ls, r) else none
  | _ => none
def am_dx1F (ls st : List Value) : Option (List Value × List Value) :=
  match st with
  | a :: b :: r => if am_c1 a && am_c1 b then some (ls, a :: b :: a :: r) else none
  | _ => none
def am_dx2F (ls st : List Value) : Option (List Value × List Value) :=
  match st with
  | a :: b :: d :: r => if am_c1 a && am_c1 b && am_c1 d then some (ls, a :: b :: d :: a :: r) else none
  | _ => none
def am_d2F (ls st : List Value) : Option (List Value × List Value) :=
  match st with
  | a :: b :: r => if am_c1 a && am_c1 b then some (ls, a :: b :: a :: b :: r) else none
  | _ => none
/-- what is on the stack -/
def am_P (i : Instr) (ls st : List Value) : Option (List Value × List Value) :=
  match i with
  | .iconst n => some (ls, .int (Int32.ofInt n) :: st)
  | .bipush n => some (ls, .int (Int8.ofInt n).toInt32 :: st)
  | .sipush n => some (ls, .int (Int16.ofInt n).toInt32 :: st)
  | .iload_n k => am_ildF ls st k
  | .iload k => am_ildF ls st k
  | .aload_n k => am_aldF ls st k
  | .aload k => am_aldF ls st k
  | .istore_n k => am_istF ls st k
  | .istore k => am_istF ls st k
  | .astore_n k => am_astF ls st k
  | .astore k => am_astF ls st k
  | .iinc k n => am_incF ls st k n
  | .iadd => am_b2 (fun x y => x + y) ls st
  | .isub => am_b2 (fun x y => x - y) ls st
  | .imul => am_b2 (fun x y => x * y) ls st
  | .iand => am_b2 (fun x y => x &&& y) ls st
  | .ior => am_b2 (fun x y => x ||| y) ls st
  | .ixor => am_b2 (fun x y => x ^^^ y) ls st
  | .ishl => am_b2 (fun x y => x <<< (y &&& 31)) ls st
  | .ishr => am_b2 (fun x y => x >>> (y &&& 31)) ls st
  | .irem => am_remF ls st
  | .dup => am_dupF ls st
  | .pop => am_popF ls st
  | .dup_x1 => am_dx1F ls st
  | .dup_x2 => am_dx2F ls st
  | .dup2 => am_d2F ls st
  | _ => none
abbrev am_jmp (pc : Nat) (off : Int) : Nat := ((pc : Int) + off).toNat
def am_if (c : Jvm.ClassFile.Cond) (x y : Int32) (a b : Nat) : Nat := match c with
  | .eq => if x = y then a else b
  | .ne => if ¬ x = y then a else b
  | .lt => if x < y then a else b
  | .ge => if y ≤ x then a else b
  | .gt => if y < x then a else b
  | .le => if x ≤ y then a else b
def am_tsw (pc : Nat) (d lo hi : Int) (offs : Array Int) (x : Int32) : Nat := if x.toInt < lo ∨ hi < x.toInt then am_jmp pc d else am_jmp pc ((offs[(x.toInt - lo).toNat]?).getD 0)
def am_lsw (pc : Nat) (d : Int) (ps : Array (Int × Int)) (x : Int32) : Nat := am_jmp pc (Op.lookupswitch.offset ps.toList d x.toInt)
/-- jumps -/
def am_J (i : Instr) (pc : Nat) (st : List Value) : Option (Nat × List Value) :=
  match i with
  | .goto off => some (am_jmp pc off, st)
  | .ifCond c off => (match st with
    | .int x :: r => some (am_if c x 0 (am_jmp pc off) (pc + 3), r)
    | _ => none)
  | .if_icmp c off => (match st with
    | .int y :: .int x :: r => some (am_if c x y (am_jmp pc off) (pc + 3), r)
    | _ => none)
  | .tableswitch d lo hi offs => (match st with
    | .int x :: r => some (am_tsw pc d lo hi offs x, r)
    | _ => none)
  | .lookupswitch d ps => (match st with
    | .int x :: r => some (am_lsw pc d ps x, r)
    | _ => none)
  | _ => none
def am_gfF (M : am_M) (x : Nat) (st : List Value) (h : am_H) : Option (List Value × am_H) :=
  match am_fld M x, st with
  | some q, .ref i :: r => (match am_gf h i q.1 q.2.1 with
    | some v => some (v :: r, h)
    | none => none)
  | _, _ => none
def am_pfF (M : am_M) (x : Nat) (st : List Value) (h : am_H) : Option (List Value × am_H) :=
  match am_fld M x, st with
  | some q, v :: .ref i :: r => (match am_pf h i q.1 q.2.1 q.2.2 v with
    | some h' => some (r, h')
    | none => none)
  | _, _ => none
def am_sld (M : am_M) (x : Int32) : Option Int32 :=
  match am_scr M with
  | some q => if am_out x q.1 then none else some (q.2 x.toNatClampNeg)
  | none => none
def am_ldF (M : am_M) (t : Nat) (st : List Value) (h : am_H) : Option (List Value × am_H) :=
  match st with
  | .int x :: .ref i :: r => (match am_ld h t i x with
    | some v => some (.int v :: r, h)
    | none => none)
  | .int x :: .retAddr _ :: r => if t = 0 then (match am_sld M x with
    | some v => some (.int v :: r, h)
    | none => none) else none
  | _ => none
def am_sdF (t : Nat) (st : List Value) (h : am_H) : Option (List Value × am_H) :=
  match st with
  | .int v :: .int x :: .ref i :: r => (match am_sd h t i x v with
    | some h' => some (r, h')
    | none => none)
  | _ => none
def am_laF (st : List Value) (h : am_H) : Option (List Value × am_H) :=
  match st with
  | .int x :: .ref i :: r => (match am_la h i x with
    | some j => some (.ref j :: r, h)
    | none => none)
  | _ => none
def am_saF (st : List Value) (h : am_H) : Option (List Value × am_H) :=
  match st with
  | .ref j :: .int x :: .ref i :: r => (match am_sa h i x j with
    | some h' => some (r, h')
    | none => none)
  | _ => none
def am_alF (M : am_M) (st : List Value) (h : am_H) : Option (List Value × am_H) :=
  match am_scr M, st with
  | some q, .retAddr _ :: r => some (.int (Int32.ofNat q.1) :: r, h)
  | _, _ => none
def am_mkI (t : Nat) (st : List Value) (h : am_H) : Option (List Value × am_H) :=
  match st with
  | .int n :: r => if am_out n 1000 then none else some (.ref h.1.length :: r, (h.1 ++ [.inl (t, n.toNatClampNeg, none)], h.2))
  | _ => none
def am_mkA (M : am_M) (x : Nat) (st : List Value) (h : am_H) : Option (List Value × am_H) :=
  match am_arr M x, st with
  | some t, .int n :: r => if am_out n 1000 then none else some (.ref h.1.length :: r, (h.1 ++ [.inl (t, n.toNatClampNeg, some (List.replicate n.toNatClampNeg none))], h.2))
  | _, _ => none
def am_mkG (M : am_M) (x : Nat) (st : List Value) (h : am_H) : Option (List Value × am_H) :=
  match am_arr M x, st with
  | some t, .int k :: .int n :: r => if am_out n 1000 ∨ am_out k 1000 then none else
    some (.ref h.1.length :: r, (h.1 ++ ([.inl (t, n.toNatClampNeg, some ((List.range n.toNatClampNeg).map fun i => some (h.1.length + 1 + i)))] ++ List.replicate n.toNatClampNeg (.inl (0, k.toNatClampNeg, none))), h.2))
  | _, _ => none
def am_mkO (M : am_M) (x : Nat) (st : List Value) (h : am_H) : Option (List Value × am_H) :=
  match am_new M x with
  | some q => some (.ref h.1.length :: st, (h.1 ++ [.inr q], h.2))
  | none => none
/-- the cells -/
def am_X (M : am_M) (i : Instr) (st : List Value) (h : am_H) : Option (List Value × am_H) :=
  match i with
  | .getfield x => am_gfF M x st h
  | .putfield x => am_pfF M x st h
  | .iaload => am_ldF M 0 st h
  | .baload => am_ldF M 1 st h
  | .iastore => am_sdF 0 st h
  | .bastore => am_sdF 1 st h
  | .aaload => am_laF st h
  | .aastore => am_saF st h
  | .arraylength => am_alF M st h
  | .newarray .int => am_mkI 0 st h
  | .newarray .boolean => am_mkI 1 st h
  | .anewarray x => am_mkA M x st h
  | .multianewarray x k => if k = 2 then am_mkG M x st h else none
  | .new x => am_mkO M x st h
  | _ => none
/-- is the receiver of this kind? -/
def am_rc (h : am_H) (as : List Value) : Option Nat → Bool
  | none => true
  | some ci => match as with
    | .ref a :: _ => (match h.1[a]? with
      | some (.inr q) => q.1 == ci
      | _ => false)
    | _ => false
def am_callF (M : am_M) (N x : Nat) (st : List Value) (h : am_H) : Option (List Value × am_H) :=
  match am_cal M x with
  | some q => if (st.length < q.1 ∨ 8 < st.length - q.1) ∨ am_rc h (st.take q.1).reverse q.2.1 = false then none else (match q.2.2 N (st.take q.1).reverse h with
    | some z => some (z.1.toList ++ st.drop q.1, z.2)
    | none => none)
  | none => none
/-- calls -/
def am_Y (M : am_M) (N : Nat) (i : Instr) (st : List Value) (h : am_H) : Option (List Value × am_H) :=
  match i with
  | .invokevirtual x => am_callF M N x st h
  | .invokespecial x => am_callF M N x st h
  | .invokestatic x => am_callF M N x st h
  | _ => none
/-- returns -/
def am_R (M : am_M) (i : Instr) (st : List Value) : Option (Option Value) :=
  match i with
  | .ireturn => (match st with
    | [.int x] => if am_ret M = 0 ∨ am_ret M = 1 ∧ (x = 0 ∨ x = 1) then some (some (.int x)) else none
    | _ => none)
  | .areturn => (match st with
    | [.ref x] => if am_ret M = 3 then some (some (.ref x)) else none
    | _ => none)
  | .return_ => (match st with
    | [] => if am_ret M = 2 then some none else none
    | _ => none)
  | _ => none
def am_stp (M : am_M) (N : Nat) (i : Instr) (pc : Nat) (ls st : List Value) (h : am_H) : Option (Nat × List Value × List Value × am_H) :=
  match am_P i ls st with
  | some q => some (pc + am_len i, q.1, q.2, h)
  | none => match am_J i pc st with
    | some q => some (q.1, ls, q.2, h)
    | none => match am_X M i st h with
      | some q => some (pc + am_len i, ls, q.1, q.2)
      | none => match am_Y M N i st h with
        | some q => some (pc + 3, ls, q.1, q.2)
        | none => none
def am_run (M : am_M) (N : Nat) : Nat → Nat → List Value → List Value → am_H → Option (Option Value × am_H)
  | 0, _, _, _, _ => none
  | n + 1, pc, ls, st, h => match am_code M pc with
    | none => none
    | some i => match am_R M i st with
      | some r => some (r, h)
      | none => match am_stp M N i pc ls st h with
        | none => none
        | some q => am_run M N n q.1 q.2.1 q.2.2.1 q.2.2.2
end
section
/-! The small machine's runs: fuel goes away; each instruction is an equivalence. -/
def am_W (M : am_M) (pc : Nat) (ls st : List Value) (h : am_H) (Q : Option Value → am_H → Prop) : Prop := ∃ (N : Nat) (r : Option Value) (h' : am_H), am_run M N N pc ls st h = some (r, h') ∧ Q r h'
def am_C (f : am_F) (as : List Value) (h : am_H) (Q : Option Value → am_H → Prop) : Prop := ∃ (N : Nat) (r : Option Value) (h' : am_H), f N as h = some (r, h') ∧ Q r h'
def am_fn (M : am_M) : am_F := fun N as h => am_run M N N 0 as [] h
def am_mono (f : am_F) : Prop := ∀ (N N' : Nat) (as : List Value) (h : am_H) (x : Option Value × am_H), N ≤ N' → f N as h = some x → f N' as h = some x
def am_ok (M : am_M) : Prop := ∀ (x : Nat) (q : Nat × Option Nat × am_F), am_cal M x = some q → am_mono q.2.2
def am_ob {α : Type} (o : Option α) (K : α → Prop) : Prop := match o with
  | some a => K a
  | none => False
theorem am_ob_s {α : Type} (a : α) (K : α → Prop) : am_ob (some a) K ↔ K a := Iff.rfl
theorem am_ob_n {α : Type} (K : α → Prop) : am_ob none K ↔ False := Iff.rfl
section AW
variable {M : am_M} {N N' n n' pc x : Nat} {ls st rest : List Value} {h : am_H} {i : Instr} {Q : Option Value → am_H → Prop}
theorem am_callF_mono {z : List Value × am_H} (hM : am_ok M) (hN : N ≤ N') (e : am_callF M N x st h = some z) : am_callF M N' x st h = some z := by
  unfold am_callF at e ⊢
  cases hq : am_cal M x with
  | none => rw [hq] at e; cases e
  | some q =>
    rw [hq] at e
    dsimp only at e ⊢
    by_cases hc : (st.length < q.1 ∨ 8 < st.length - q.1) ∨ am_rc h (st.take q.1).reverse q.2.1 = false
    · rw [if_pos hc] at e; cases e
    · rw [if_neg hc] at e ⊢
      cases hf : q.2.2 N (st.take q.1).reverse h with
      | none => rw [hf] at e; cases e
      | some w =>
        rw [hf] at e
        rw [hM x q hq N N' _ _ w hN hf]
        exact e
theorem am_Y_mono {z : List Value × am_H} (hM : am_ok M) (hN : N ≤ N') (e : am_Y M N i st h = some z) : am_Y M N' i st h = some z := by
  cases i <;> first | exact am_callF_mono hM hN e | (simp [am_Y] at e; done)
theorem am_stp_mono {q : Nat × List Value × List Value × am_H} (hM : am_ok M) (hN : N ≤ N') (e : am_stp M N i pc ls st h = some q) : am_stp M N' i pc ls st h = some q := by
  unfold am_stp at e ⊢
  cases h1 : am_P i ls st with
  | some a => rw [h1] at e; exact e
  | none =>
    rw [h1] at e
    cases h2 : am_J i pc st with
    | some a => rw [h2] at e; exact e
    | none =>
      rw [h2] at e
      cases h3 : am_X M i st h with
      | some a => rw [h3] at e; exact e
      | none =>
        rw [h3] at e
        cases h4 : am_Y M N i st h with
        | some a => rw [h4] at e; rw [am_Y_mono hM hN h4]; exact e
        | none => rw [h4] at e; cases e
theorem am_run_step {q : Nat × List Value × List Value × am_H} (hc : am_code M pc = some i) (hr : am_R M i st = none) (hs : am_stp M N i pc ls st h = some q) : am_run M N (n + 1) pc ls st h = am_run M N n q.1 q.2.1 q.2.2.1 q.2.2.2 := by
  rw [am_run, hc]
  dsimp only
  rw [hr]
  dsimp only
  rw [hs]
theorem am_run_ret {r : Option Value} (hc : am_code M pc = some i) (hr : am_R M i st = some r) : am_run M N (n + 1) pc ls st h = some (r, h) := by
  rw [am_run, hc]
  dsimp only
  rw [hr]
theorem am_run_no (hc : am_code M pc = some i) (hr : am_R M i st = none) (hs : am_stp M N i pc ls st h = none) : am_run M N (n + 1) pc ls st h = none := by
  rw [am_run, hc]
  dsimp only
  rw [hr]
  dsimp only
  rw [hs]
theorem am_run_mono (hM : am_ok M) : ∀ (n n' N N' pc : Nat) (ls st : List Value) (h : am_H) (x : Option Value × am_H), N ≤ N' → n ≤ n' → am_run M N n pc ls st h = some x → am_run M N' n' pc ls st h = some x
  | 0, _, _, _, _, _, _, _, _, _, _, e => by cases e
  | n + 1, n', N, N', pc, ls, st, h, x, hN, hn, e => by
    obtain ⟨k, rfl⟩ : ∃ k, n' = k + 1 := ⟨n' - 1, by omega⟩
    cases hc : am_code M pc with
    | none => rw [am_run, hc] at e; cases e
    | some i =>
      cases hr : am_R M i st with
      | some r =>
        rw [am_run_ret hc hr] at e
        rw [am_run_ret hc hr]
        exact e
      | none =>
        cases hs : am_stp M N i pc ls st h with
        | none => rw [am_run_no hc hr hs] at e; cases e
        | some q =>
          rw [am_run_step hc hr hs] at e
          rw [am_run_step hc hr (am_stp_mono hM hN hs)]
          exact am_run_mono hM n k N N' _ _ _ _ x hN (by omega) e
theorem am_fn_mono (hM : am_ok M) : am_mono (am_fn M) := fun N N' as h x hN e => am_run_mono hM N N' N N' 0 as [] h x hN hN e
theorem am_C_fn {as : List Value} : am_C (am_fn M) as h Q ↔ am_W M 0 as [] h Q := Iff.rfl
theorem am_C_iff {f : am_F} {as : List Value} {r : Option Value} {h' : am_H} (hf : am_mono f) (e : am_C f as h (fun r1 h1 => r1 = r ∧ h1 = h')) : am_C f as h Q ↔ Q r h' := by
  obtain ⟨N, r1, h1, e, rfl, rfl⟩ := e
  constructor
  · rintro ⟨N2, r2, h2, e2, hQ⟩
    have a1 := hf N (max N N2) as h _ (Nat.le_max_left _ _) e
    have a2 := hf N2 (max N N2) as h _ (Nat.le_max_right _ _) e2
    rw [a1] at a2
    cases a2
    exact hQ
  · intro hQ
    exact ⟨N, r1, h1, e, hQ⟩
theorem am_C_weak {f : am_F} {as : List Value} {Q' : Option Value → am_H → Prop} (e : am_C f as h Q) (hq : ∀ r h', Q r h' → Q' r h') : am_C f as h Q' := by
  obtain ⟨N, r, h', e, q⟩ := e
  exact ⟨N, r, h', e, hq _ _ q⟩
theorem am_W_weak {Q' : Option Value → am_H → Prop} (e : am_W M pc ls st h Q) (hq : ∀ r h', Q r h' → Q' r h') : am_W M pc ls st h Q' := by
  obtain ⟨N, r, h', e, q⟩ := e
  exact ⟨N, r, h', e, hq _ _ q⟩
theorem am_go {q : Nat × List Value × List Value × am_H} (hM : am_ok M) (hc : am_code M pc = some i) (hr : am_R M i st = none) (hs : ∀ N, am_stp M N i pc ls st h = some q) : am_W M pc ls st h Q ↔ am_W M q.1 q.2.1 q.2.2.1 q.2.2.2 Q := by
  constructor
  · rintro ⟨N, r, h', e, hQ⟩
    cases N with
    | zero => cases e
    | succ N =>
      rw [am_run_step hc hr (hs _)] at e
      exact ⟨N + 1, r, h', am_run_mono hM _ _ _ _ _ _ _ _ _ (Nat.le_refl _) (Nat.le_succ _) e, hQ⟩
  · rintro ⟨N, r, h', e, hQ⟩
    refine ⟨N + 1, r, h', ?_, hQ⟩
    rw [am_run_step hc hr (hs _)]
    exact am_run_mono hM _ _ _ _ _ _ _ _ _ (Nat.le_succ N) (Nat.le_refl N) e
theorem am_no (hc : am_code M pc = some i) (hr : am_R M i st = none) (hs : ∀ N, am_stp M N i pc ls st h = none) : am_W M pc ls st h Q ↔ False := by
  constructor
  · rintro ⟨N, r, h', e, hQ⟩
    cases N with
    | zero => cases e
    | succ N => rw [am_run_no hc hr (hs _)] at e; cases e
  · exact False.elim
theorem am_re {r : Option Value} (hc : am_code M pc = some i) (hr : am_R M i st = some r) : am_W M pc ls st h Q ↔ Q r h := by
  constructor
  · rintro ⟨N, r2, h', e, hQ⟩
    cases N with
    | zero => cases e
    | succ N =>
      rw [am_run_ret hc hr] at e
      cases e
      exact hQ
  · intro hQ
    exact ⟨1, r, h, am_run_ret hc hr, hQ⟩
theorem am_ite {c : Prop} [Decidable c] {a b : Nat} : am_W M (if c then a else b) ls st h Q ↔ (c → am_W M a ls st h Q) ∧ (¬ c → am_W M b ls st h Q) := by
  by_cases hc : c
  · rw [if_pos hc]
    exact ⟨fun q => ⟨fun _ => q, fun z => absurd hc z⟩, fun q => q.1 hc⟩
  · rw [if_neg hc]
    exact ⟨fun q => ⟨fun z => absurd z hc, fun _ => q⟩, fun q => q.2 hc⟩
theorem am_iret {v : Int32} (hc : am_code M pc = some .ireturn) (hr : am_ret M = 0) : am_W M pc ls [.int v] h Q ↔ Q (some (.int v)) h := am_re hc (by simp [am_R, hr])
theorem am_zret {v : Int32} (hc : am_code M pc = some .ireturn) (hr : am_ret M = 1) : am_W M pc ls [.int v] h Q ↔ (v = 0 ∨ v = 1) ∧ Q (some (.int v)) h := by
  by_cases hv : v = 0 ∨ v = 1
  · rw [am_re hc (r := some (.int v)) (by simp [am_R, hr, hv])]
    exact ⟨fun q => ⟨hv, q⟩, fun q => q.2⟩
  · rw [am_no hc (by simp [am_R, hr, hv]) (fun _ => rfl)]
    exact ⟨False.elim, fun q => hv q.1⟩
theorem am_vret (hc : am_code M pc = some .return_) (hr : am_ret M = 2) : am_W M pc ls [] h Q ↔ Q none h := am_re hc (by simp [am_R, hr])
theorem am_aret {a : Nat} (hc : am_code M pc = some .areturn) (hr : am_ret M = 3) : am_W M pc ls [.ref a] h Q ↔ Q (some (.ref a)) h := am_re hc (by simp [am_R, hr])
theorem am_getf {a ci k kd : Nat} (hM : am_ok M) (hc : am_code M pc = some (.getfield x)) (hf : am_fld M x = some (ci, k, kd)) : am_W M pc ls (.ref a :: st) h Q ↔ am_ob (am_gf h a ci k) (fun v => am_W M (pc + 3) ls (v :: st) h Q) := by
  cases hg : am_gf h a ci k with
  | some v => exact am_go (q := (pc + 3, ls, v :: st, h)) hM hc rfl (fun _ => by simp [am_stp, am_P, am_J, am_X, am_gfF, hf, hg, am_len])
  | none => exact am_no hc rfl (fun _ => by simp [am_stp, am_P, am_J, am_X, am_Y, am_gfF, hf, hg])
theorem am_putf {v : Value} {a ci k kd : Nat} (hM : am_ok M) (hc : am_code M pc = some (.putfield x)) (hf : am_fld M x = some (ci, k, kd)) : am_W M pc ls (v :: .ref a :: st) h Q ↔ am_ob (am_pf h a ci k kd v) (fun h' => am_W M (pc + 3) ls st h' Q) := by
  cases hg : am_pf h a ci k kd v with
  | some h' => exact am_go (q := (pc + 3, ls, st, h')) hM hc rfl (fun _ => by simp [am_stp, am_P, am_J, am_X, am_pfF, hf, hg, am_len])
  | none => exact am_no hc rfl (fun _ => by simp [am_stp, am_P, am_J, am_X, am_Y, am_pfF, hf, hg])
theorem am_iald {y : Int32} {a : Nat} (hM : am_ok M) (hc : am_code M pc = some .iaload) : am_W M pc ls (.int y :: .ref a :: st) h Q ↔ am_ob (am_ld h 0 a y) (fun v => am_W M (pc + 1) ls (.int v :: st) h Q) := by
  cases hg : am_ld h 0 a y with
  | some v => exact am_go (q := (pc + 1, ls, .int v :: st, h)) hM hc rfl (fun _ => by simp [am_stp, am_P, am_J, am_X, am_ldF, hg, am_len])
  | none => exact am_no hc rfl (fun _ => by simp [am_stp, am_P, am_J, am_X, am_Y, am_ldF, hg])
theorem am_zald {y : Int32} {a : Nat} (hM : am_ok M) (hc : am_code M pc = some .baload) : am_W M pc ls (.int y :: .ref a :: st) h Q ↔ am_ob (am_ld h 1 a y) (fun v => am_W M (pc + 1) ls (.int v :: st) h Q) := by
  cases hg : am_ld h 1 a y with
  | some v => exact am_go (q := (pc + 1, ls, .int v :: st, h)) hM hc rfl (fun _ => by simp [am_stp, am_P, am_J, am_X, am_ldF, hg, am_len])
  | none => exact am_no hc rfl (fun _ => by simp [am_stp, am_P, am_J, am_X, am_Y, am_ldF, hg])
theorem am_sald {y : Int32} {a : Nat} (hM : am_ok M) (hc : am_code M pc = some .iaload) : am_W M pc ls (.int y :: .retAddr a :: st) h Q ↔ am_ob (am_sld M y) (fun v => am_W M (pc + 1) ls (.int v :: st) h Q) := by
  cases hg : am_sld M y with
  | some v => exact am_go (q := (pc + 1, ls, .int v :: st, h)) hM hc rfl (fun _ => by simp [am_stp, am_P, am_J, am_X, am_ldF, hg, am_len])
  | none => exact am_no hc rfl (fun _ => by simp [am_stp, am_P, am_J, am_X, am_Y, am_ldF, hg])
theorem am_iast {v y : Int32} {a : Nat} (hM : am_ok M) (hc : am_code M pc = some .iastore) : am_W M pc ls (.int v :: .int y :: .ref a :: st) h Q ↔ am_ob (am_sd h 0 a y v) (fun h' => am_W M (pc + 1) ls st h' Q) := by
  cases hg : am_sd h 0 a y v with
  | some h' => exact am_go (q := (pc + 1, ls, st, h')) hM hc rfl (fun _ => by simp [am_stp, am_P, am_J, am_X, am_sdF, hg, am_len])
  | none => exact am_no hc rfl (fun _ => by simp [am_stp, am_P, am_J, am_X, am_Y, am_sdF, hg])
theorem am_zast {v y : Int32} {a : Nat} (hM : am_ok M) (hc : am_code M pc = some .bastore) : am_W M pc ls (.int v :: .int y :: .ref a :: st) h Q ↔ am_ob (am_sd h 1 a y v) (fun h' => am_W M (pc + 1) ls st h' Q) := by
  cases hg : am_sd h 1 a y v with
  | some h' => exact am_go (q := (pc + 1, ls, st, h')) hM hc rfl (fun _ => by simp [am_stp, am_P, am_J, am_X, am_sdF, hg, am_len])
  | none => exact am_no hc rfl (fun _ => by simp [am_stp, am_P, am_J, am_X, am_Y, am_sdF, hg])
theorem am_aald {y : Int32} {a : Nat} (hM : am_ok M) (hc : am_code M pc = some .aaload) : am_W M pc ls (.int y :: .ref a :: st) h Q ↔ am_ob (am_la h a y) (fun v => am_W M (pc + 1) ls (.ref v :: st) h Q) := by
  cases hg : am_la h a y with
  | some v => exact am_go (q := (pc + 1, ls, .ref v :: st, h)) hM hc rfl (fun _ => by simp [am_stp, am_P, am_J, am_X, am_laF, hg, am_len])
  | none => exact am_no hc rfl (fun _ => by simp [am_stp, am_P, am_J, am_X, am_Y, am_laF, hg])
theorem am_slen {L : Nat} {f : Nat → Int32} {a : Nat} (hM : am_ok M) (hc : am_code M pc = some .arraylength) (hs : am_scr M = some (L, f)) : am_W M pc ls (.retAddr a :: st) h Q ↔ am_W M (pc + 1) ls (.int (Int32.ofNat L) :: st) h Q := by
  exact am_go (q := (pc + 1, ls, .int (Int32.ofNat L) :: st, h)) hM hc rfl (fun _ => by simp [am_stp, am_P, am_J, am_X, am_alF, hs, am_len])
theorem am_ca {f : am_F} {na : Nat} {rc : Option Nat} (hM : am_ok M) (hc : am_code M pc = some i) (hi : i = .invokevirtual x ∨ i = .invokespecial x ∨ i = .invokestatic x) (hq : am_cal M x = some (na, rc, f)) (as rest : List Value) (hn : as.length = na) :
    am_W M pc ls (as.reverse ++ rest) h Q ↔ (rest.length ≤ 8 ∧ am_rc h as rc = true) ∧ am_C f as h (fun r h' => am_W M (pc + 3) ls (r.toList ++ rest) h' Q) := by
  subst hn
  have hr : am_R M i (as.reverse ++ rest) = none := by rcases hi with rfl | rfl | rfl <;> rfl
  have hs : ∀ N, am_stp M N i pc ls (as.reverse ++ rest) h = match am_callF M N x (as.reverse ++ rest) h with
      | some q => some (pc + 3, ls, q.1, q.2)
      | none => none := by
    intro N
    rcases hi with rfl | rfl | rfl <;> rfl
  have hk : ∀ N, am_callF M N x (as.reverse ++ rest) h = if 8 < rest.length ∨ am_rc h as rc = false then none else (match f N as h with
      | some z => some (z.1.toList ++ rest, z.2)
      | none => none) := by
    intro N
    unfold am_callF
    rw [hq]
    dsimp only
    have e1 : (as.reverse ++ rest).length = as.length + rest.length := by simp
    have e2 : (as.reverse ++ rest).take as.length = as.reverse := by
      rw [← List.length_reverse (as := as), List.take_left]
    have e3 : (as.reverse ++ rest).drop as.length = rest := by
      rw [← List.length_reverse (as := as), List.drop_left]
    rw [e1, e2, e3, List.reverse_reverse, Nat.add_sub_cancel_left]
    by_cases h8 : 8 < rest.length ∨ am_rc h as rc = false
    · rw [if_pos (by rcases h8 with h8 | h8; exact Or.inl (Or.inr h8); exact Or.inr h8), if_pos h8]
    · rw [if_neg (by intro q; rcases q with (q | q) | q; omega; exact h8 (Or.inl q); exact h8 (Or.inr q)), if_neg h8]
      rfl
  by_cases h8 : 8 < rest.length ∨ am_rc h as rc = false
  · refine (am_no hc hr (fun N => ?_)).trans ⟨False.elim, fun q => ?_⟩
    · rw [hs, hk, if_pos h8]
    · obtain ⟨⟨q1, q2⟩, -⟩ := q
      rcases h8 with h8 | h8
      · omega
      · rw [q2] at h8; cases h8
  · constructor
    · rintro ⟨N, r, h', e, hQ⟩
      have h9 : am_rc h as rc = true := by
        cases hz : am_rc h as rc with
        | true => rfl
        | false => exact absurd (Or.inr hz) h8
      refine ⟨⟨Nat.not_lt.mp (fun q => h8 (Or.inl q)), h9⟩, ?_⟩
      cases N with
      | zero => cases e
      | succ N =>
        cases hf : f (N + 1) as h with
        | none =>
          rw [am_run_no hc hr (by rw [hs, hk, if_neg h8, hf])] at e
          cases e
        | some z =>
          rw [am_run_step (q := (pc + 3, ls, z.1.toList ++ rest, z.2)) hc hr (by rw [hs, hk, if_neg h8, hf])] at e
          exact ⟨N + 1, z.1, z.2, hf, N + 1, r, h', am_run_mono hM _ _ _ _ _ _ _ _ _ (Nat.le_refl _) (Nat.le_succ _) e, hQ⟩
    · rintro ⟨-, N1, r1, h1, e1, N2, r, h', e, hQ⟩
      refine ⟨max N1 N2 + 1, r, h', ?_, hQ⟩
      have hf : f (max N1 N2 + 1) as h = some (r1, h1) := hM x _ hq N1 (max N1 N2 + 1) as h _ (by omega) e1
      rw [am_run_step (q := (pc + 3, ls, r1.toList ++ rest, h1)) hc hr (by rw [hs, hk, if_neg h8, hf])]
      exact am_run_mono hM _ _ _ _ _ _ _ _ _ (by omega) (by omega) e
end AW
end
section
/-! The small machine against the kit's machine, first half: stack, jumps. -/
def am_rn (al : Nat → Nat) (sb : Nat) : Value → Value
  | .ref i => .ref (al i)
  | .retAddr _ => .ref sb
  | v => v
def am_vw (n : Nat) : Value → Prop
  | .ref j => j < n
  | .int _ => True
  | .null => True
  | .retAddr _ => True
  | _ => False
theorem am_vw_cat {n : Nat} {v : Value} (al : Nat → Nat) (sb : Nat) (h : am_vw n v) : (am_rn al sb v).category = 1 := by
  cases v <;> first | rfl | exact False.elim h
theorem am_vw_up {n n' : Nat} {v : Value} (hn : n ≤ n') (h : am_vw n v) : am_vw n' v := by
  cases v <;> first | exact h | exact Nat.lt_of_lt_of_le h hn
theorem am_rn_eq {al al' : Nat → Nat} {sb n : Nat} {v : Value} (h : am_vw n v) (ha : ∀ i, i < n → al' i = al i) : am_rn al' sb v = am_rn al sb v := by
  cases v <;> first | rfl | exact congrArg Value.ref (ha _ h)
theorem am_rn_map {al al' : Nat → Nat} {sb n : Nat} {vs : List Value} (h : ∀ v ∈ vs, am_vw n v) (ha : ∀ i, i < n → al' i = al i) : vs.map (am_rn al' sb) = vs.map (am_rn al sb) :=
  List.map_congr_left fun v hv => am_rn_eq (h v hv) ha
def am_L (al : Nat → Nat) (sb n nL : Nat) (ls : List Value) (lk : Array Slot) : Prop := lk.size = nL ∧ lv_wf lk ∧ ∀ (k : Nat) (v : Value), ls[k]? = some v → lk[k]? = some (.val (am_rn al sb v)) ∧ am_vw n v
def am_prs (al : Nat → Nat) (sb : Nat) (ls : List Value) : List (Nat × Value) := ls.mapIdx (fun k v => (k, am_rn al sb v))
theorem am_prs_mem {al : Nat → Nat} {sb : Nat} {ls : List Value} {q : Nat × Value} : q ∈ am_prs al sb ls ↔ ∃ (k : Nat) (v : Value), ls[k]? = some v ∧ q = (k, am_rn al sb v) := by
  unfold am_prs
  rw [List.mem_mapIdx]
  constructor
  · rintro ⟨i, hi, rfl⟩
    exact ⟨i, ls[i], List.getElem?_eq_getElem hi, rfl⟩
  · rintro ⟨k, v, hk, rfl⟩
    obtain ⟨hi, e⟩ := List.getElem?_eq_some_iff.mp hk
    exact ⟨k, hi, by rw [e]⟩
theorem am_L_has {al : Nat → Nat} {sb n nL : Nat} {ls : List Value} {lk : Array Slot} (hL : am_L al sb n nL ls lk) : lv_has lk nL (am_prs al sb ls) :=
  ⟨hL.1, hL.2.1, fun q hq => by
    obtain ⟨k, v, hk, rfl⟩ := am_prs_mem.mp hq
    exact (hL.2.2 k v hk).1⟩
theorem am_L_up {al al' : Nat → Nat} {sb n n' nL : Nat} {ls : List Value} {lk : Array Slot} (hL : am_L al sb n nL ls lk) (hn : n ≤ n') (ha : ∀ i, i < n → al' i = al i) : am_L al' sb n' nL ls lk :=
  ⟨hL.1, hL.2.1, fun k v hk => ⟨by rw [am_rn_eq (hL.2.2 k v hk).2 ha]; exact (hL.2.2 k v hk).1, am_vw_up hn (hL.2.2 k v hk).2⟩⟩
theorem am_lst_get (v w : Value) : ∀ (i : Nat) (ls : List Value) (k : Nat), (am_lst v i ls)[k]? = some w → (k = i ∧ w = v) ∨ (k ≠ i ∧ ls[k]? = some w)
  | 0, l, k, h => by
    cases k with
    | zero =>
      have h : some v = some w := h
      exact Or.inl ⟨rfl, (Option.some.inj h).symm⟩
    | succ k =>
      have h : l.tail[k]? = some w := h
      refine Or.inr ⟨by omega, ?_⟩
      cases l with
      | nil => cases h
      | cons a l => exact h
  | i + 1, [], k, h => by cases h
  | i + 1, x :: r, k, h => by
    cases k with
    | zero => exact Or.inr ⟨by omega, h⟩
    | succ k =>
      rcases am_lst_get v w i r k h with ⟨h1, h2⟩ | ⟨h1, h2⟩
      · exact Or.inl ⟨by omega, h2⟩
      · exact Or.inr ⟨by omega, h2⟩
theorem am_L_store {al : Nat → Nat} {sb n nL i : Nat} {v : Value} {ls : List Value} {lk lk' : Array Slot} (hL : am_L al sb n nL ls lk) (hv : am_vw n v)
    (h : lv_has lk' nL ((i, am_rn al sb v) :: (am_prs al sb ls).filter (fun q => !(q.1 == i) && !(q.1 + 1 == i && q.2.category == 2)))) : am_L al sb n nL (am_lst v i ls) lk' := by
  refine ⟨h.1, h.2.1, fun k w hk => ?_⟩
  rcases am_lst_get _ _ _ _ _ hk with ⟨rfl, rfl⟩ | ⟨hne, hk⟩
  · exact ⟨h.2.2 _ List.mem_cons_self, hv⟩
  · have hw := (hL.2.2 k w hk).2
    refine ⟨h.2.2 (k, am_rn al sb w) (List.mem_cons_of_mem _ (List.mem_filter.mpr ⟨am_prs_mem.mpr ⟨k, w, hk, rfl⟩, ?_⟩)), hw⟩
    simp [hne, am_vw_cat al sb hw]
/-- bounds that a program decides -/
def am_bd (nL pc : Nat) (i : Instr) : Bool := match i with
  | .istore k => decide (k < nL)
  | .astore k => decide (k < nL)
  | .istore_n k => decide ((k : Nat) < nL)
  | .astore_n k => decide ((k : Nat) < nL)
  | .iinc k _ => decide (k < nL)
  | .goto off => decide (0 ≤ (pc : Int) + off)
  | .ifCond _ off => decide (0 ≤ (pc : Int) + off)
  | .if_icmp _ off => decide (0 ≤ (pc : Int) + off)
  | .tableswitch d lo hi offs => decide (0 ≤ (pc : Int) + d) && (decide (hi - lo + 1 = (offs.size : Int)) && offs.toList.all (fun o => decide (0 ≤ (pc : Int) + o)))
  | .lookupswitch d ps => decide (0 ≤ (pc : Int) + d) && ((ps.toList.zip (ps.toList.drop 1)).all (fun (a, next) => a.1 < next.1) && ps.toList.all (fun q => decide (0 ≤ (pc : Int) + q.2)))
  | _ => true
theorem am_b2_some {f : Int32 → Int32 → Int32} {ls st : List Value} {q : List Value × List Value} (e : am_b2 f ls st = some q) : ∃ x y r, st = .int y :: .int x :: r ∧ q = (ls, .int (f x y) :: r) := by
  unfold am_b2 at e
  split at e
  · exact ⟨_, _, _, rfl, (Option.some.inj e).symm⟩
  · cases e
theorem am_ildF_some {k : Nat} {ls st : List Value} {q : List Value × List Value} (e : am_ildF ls st k = some q) : ∃ x, ls[k]? = some (.int x) ∧ q = (ls, .int x :: st) := by
  unfold am_ildF at e
  split at e
  · rename_i x hx
    exact ⟨x, hx, (Option.some.inj e).symm⟩
  · cases e
theorem am_aldF_some {k : Nat} {ls st : List Value} {q : List Value × List Value} (e : am_aldF ls st k = some q) : ∃ v, ls[k]? = some v ∧ (∀ (al : Nat → Nat) (sb : Nat), ∃ a, am_rn al sb v = .ref a) ∧ q = (ls, v :: st) := by
  unfold am_aldF at e
  split at e
  · rename_i x hx
    exact ⟨_, hx, fun al sb => ⟨_, rfl⟩, (Option.some.inj e).symm⟩
  · rename_i x hx
    exact ⟨_, hx, fun al sb => ⟨_, rfl⟩, (Option.some.inj e).symm⟩
  · cases e
theorem am_istF_some {k : Nat} {ls st : List Value} {q : List Value × List Value} (e : am_istF ls st k = some q) : ∃ x r, st = .int x :: r ∧ q = (am_lst (.int x) k ls, r) := by
  unfold am_istF at e
  split at e
  · exact ⟨_, _, rfl, (Option.some.inj e).symm⟩
  · cases e
theorem am_astF_some {k : Nat} {ls st : List Value} {q : List Value × List Value} (e : am_astF ls st k = some q) : ∃ x r, st = .ref x :: r ∧ q = (am_lst (.ref x) k ls, r) := by
  unfold am_astF at e
  split at e
  · exact ⟨_, _, rfl, (Option.some.inj e).symm⟩
  · cases e
theorem am_incF_some {k : Nat} {n : Int} {ls st : List Value} {q : List Value × List Value} (e : am_incF ls st k n = some q) : ∃ x, ls[k]? = some (.int x) ∧ q = (am_lst (.int (x + Int32.ofInt n)) k ls, st) := by
  unfold am_incF at e
  split at e
  · rename_i x hx
    exact ⟨x, hx, (Option.some.inj e).symm⟩
  · cases e
theorem am_remF_some {ls st : List Value} {q : List Value × List Value} (e : am_remF ls st = some q) : ∃ x y r, st = .int y :: .int x :: r ∧ ¬ y = 0 ∧ q = (ls, .int (x - x / y * y) :: r) := by
  unfold am_remF at e
  split at e
  · split at e
    · cases e
    · rename_i h
      exact ⟨_, _, _, rfl, h, (Option.some.inj e).symm⟩
  · cases e
theorem am_dupF_some {ls st : List Value} {q : List Value × List Value} (e : am_dupF ls st = some q) : ∃ a r, st = a :: r ∧ q = (ls, a :: a :: r) := by
  unfold am_dupF at e
  split at e
  · split at e
    · exact ⟨_, _, rfl, (Option.some.inj e).symm⟩
    · cases e
  · cases e
theorem am_popF_some {ls st : List Value} {q : List Value × List Value} (e : am_popF ls st = some q) : ∃ a r, st = a :: r ∧ q = (ls, r) := by
  unfold am_popF at e
  split at e
  · split at e
    · exact ⟨_, _, rfl, (Option.some.inj e).symm⟩
    · cases e
  · cases e
theorem am_dx1F_some {ls st : List Value} {q : List Value × List Value} (e : am_dx1F ls st = some q) : ∃ a b r, st = a :: b :: r ∧ q = (ls, a :: b :: a :: r) := by
  unfold am_dx1F at e
  split at e
  · split at e
    · exact ⟨_, _, _, rfl, (Option.some.inj e).symm⟩
    · cases e
  · cases e
theorem am_dx2F_some {ls st : List Value} {q : List Value × List Value} (e : am_dx2F ls st = some q) : ∃ a b d r, st = a :: b :: d :: r ∧ q = (ls, a :: b :: d :: a :: r) := by
  unfold am_dx2F at e
  split at e
  · split at e
    · exact ⟨_, _, _, _, rfl, (Option.some.inj e).symm⟩
    · cases e
  · cases e
theorem am_d2F_some {ls st : List Value} {q : List Value × List Value} (e : am_d2F ls st = some q) : ∃ a b r, st = a :: b :: r ∧ q = (ls, a :: b :: a :: b :: r) := by
  unfold am_d2F at e
  split at e
  · split at e
    · exact ⟨_, _, _, rfl, (Option.some.inj e).symm⟩
    · cases e
  · cases e
theorem am_fa {P : Value → Prop} {a : Value} {l : List Value} (ha : P a) (hl : ∀ v ∈ l, P v) : ∀ v ∈ a :: l, P v := List.forall_mem_cons.mpr ⟨ha, hl⟩
section AMP
variable {p : Program} {l : Launch} {e : Env} {R : Room} {s : State} {m : MethodId} {args : Array Value} {below : List Frame} {meth : Method} {c : Code} {H : Heap} {locs : List Loc} {cells slots : Nat} {Q : State → Prop}
variable {cc : ByteArray} {pc : Nat} {lk : Array Slot} {ls ls' st st' : List Value} {al : Nat → Nat} {sb n nL : Nat} {i : Instr}
theorem am_simP (hx : p.tables.exec = Jvm.exec) (hb : c.code = cc) (hd : decode cc pc = .ok (i, am_len i)) (hbd : am_bd nL pc i = true) (he : am_P i ls st = some (ls', st')) (hL : am_L al sb n nL ls lk) (hs : ∀ v ∈ st, am_vw n v)
    (kk : ∀ lk' : Array Slot, am_L al sb n nL ls' lk' → (∀ v ∈ st', am_vw n v) → W p l e R s m args below meth c H locs cells slots Q (F0 m (pc + am_len i) lk' (st'.map (am_rn al sb)))) : W p l e R s m args below meth c H locs cells slots Q (F0 m pc lk (st.map (am_rn al sb))) := by
  cases i with
  | iconst k =>
    have he : some (ls, Value.int (Int32.ofInt k) :: st) = some (ls', st') := he
    cases he
    exact lv_iconst hx hb hd rfl (kk lk hL (am_fa trivial hs))
  | bipush k =>
    have he : some (ls, Value.int (Int8.ofInt k).toInt32 :: st) = some (ls', st') := he
    cases he
    exact lv_bipush hx hb hd rfl (kk lk hL (am_fa trivial hs))
  | sipush k =>
    have he : some (ls, Value.int (Int16.ofInt k).toInt32 :: st) = some (ls', st') := he
    cases he
    exact lv_sipush hx hb hd rfl (kk lk hL (am_fa trivial hs))
  | iload_n k =>
    obtain ⟨x, h1, h2⟩ := am_ildF_some he
    cases h2
    exact lv_iload_n hx hb hd rfl (hL.2.2 _ _ h1).1 (kk lk hL (am_fa trivial hs))
  | iload k =>
    obtain ⟨x, h1, h2⟩ := am_ildF_some he
    cases h2
    exact lv_iload hx hb hd (hL.2.2 _ _ h1).1 (kk lk hL (am_fa trivial hs))
  | aload_n k =>
    obtain ⟨v, h1, h3, h2⟩ := am_aldF_some he
    cases h2
    obtain ⟨a, ha⟩ := h3 al sb
    have h4 := hL.2.2 _ _ h1
    have kk := kk lk hL (am_fa h4.2 hs)
    rw [List.map_cons, ha] at kk
    exact lv_aload_n hx hb hd rfl (by rw [h4.1, ha]) kk
  | aload k =>
    obtain ⟨v, h1, h3, h2⟩ := am_aldF_some he
    cases h2
    obtain ⟨a, ha⟩ := h3 al sb
    have h4 := hL.2.2 _ _ h1
    have kk := kk lk hL (am_fa h4.2 hs)
    rw [List.map_cons, ha] at kk
    exact lv_aload hx hb hd (by rw [h4.1, ha]) kk
  | istore_n k =>
    obtain ⟨x, r, rfl, h2⟩ := am_istF_some he
    cases h2
    exact lv_istore_n hx hb hd rfl (am_L_has hL) (of_decide_eq_true hbd) rfl (fun lk' h => kk lk' (am_L_store hL trivial h) (List.forall_mem_cons.mp hs).2)
  | istore k =>
    obtain ⟨x, r, rfl, h2⟩ := am_istF_some he
    cases h2
    exact lv_istore hx hb hd (am_L_has hL) (of_decide_eq_true hbd) rfl (fun lk' h => kk lk' (am_L_store hL trivial h) (List.forall_mem_cons.mp hs).2)
  | astore_n k =>
    obtain ⟨x, r, rfl, h2⟩ := am_astF_some he
    cases h2
    exact lv_astore_n hx hb hd rfl (am_L_has hL) (of_decide_eq_true hbd) rfl (fun lk' h => kk lk' (am_L_store (v := .ref x) hL (List.forall_mem_cons.mp hs).1 h) (List.forall_mem_cons.mp hs).2)
  | astore k =>
    obtain ⟨x, r, rfl, h2⟩ := am_astF_some he
    cases h2
    exact lv_astore hx hb hd (am_L_has hL) (of_decide_eq_true hbd) rfl (fun lk' h => kk lk' (am_L_store (v := .ref x) hL (List.forall_mem_cons.mp hs).1 h) (List.forall_mem_cons.mp hs).2)
  | iinc k z =>
    obtain ⟨x, h1, h2⟩ := am_incF_some he
    cases h2
    have h3 : (am_prs al sb ls)[k]? = some (k, .int x) := by
      unfold am_prs
      rw [List.getElem?_mapIdx, h1]
      rfl
    exact lv_iinc hx hb hd (am_L_has hL) h3 rfl (of_decide_eq_true hbd) rfl (fun lk' h => kk lk' (am_L_store (v := .int (x + Int32.ofInt z)) hL trivial h) hs)
  | iadd =>
    obtain ⟨x, y, r, rfl, h2⟩ := am_b2_some he
    cases h2
    exact lv_iadd hx hb hd (kk lk hL (am_fa trivial (List.forall_mem_cons.mp (List.forall_mem_cons.mp hs).2).2))
  | isub =>
    obtain ⟨x, y, r, rfl, h2⟩ := am_b2_some he
    cases h2
    exact lv_isub hx hb hd (kk lk hL (am_fa trivial (List.forall_mem_cons.mp (List.forall_mem_cons.mp hs).2).2))
  | imul =>
    obtain ⟨x, y, r, rfl, h2⟩ := am_b2_some he
    cases h2
    exact lv_imul hx hb hd (kk lk hL (am_fa trivial (List.forall_mem_cons.mp (List.forall_mem_cons.mp hs).2).2))
  | iand =>
    obtain ⟨x, y, r, rfl, h2⟩ := am_b2_some he
    cases h2
    exact lv_iand hx hb hd (kk lk hL (am_fa trivial (List.forall_mem_cons.mp (List.forall_mem_cons.mp hs).2).2))
  | ior =>
    obtain ⟨x, y, r, rfl, h2⟩ := am_b2_some he
    cases h2
    exact lv_ior hx hb hd (kk lk hL (am_fa trivial (List.forall_mem_cons.mp (List.forall_mem_cons.mp hs).2).2))
  | ixor =>
    obtain ⟨x, y, r, rfl, h2⟩ := am_b2_some he
    cases h2
    exact lv_ixor hx hb hd (kk lk hL (am_fa trivial (List.forall_mem_cons.mp (List.forall_mem_cons.mp hs).2).2))
  | ishl =>
    obtain ⟨x, y, r, rfl, h2⟩ := am_b2_some he
    cases h2
    exact lv_ishl hx hb hd (kk lk hL (am_fa trivial (List.forall_mem_cons.mp (List.forall_mem_cons.mp hs).2).2))
  | ishr =>
    obtain ⟨x, y, r, rfl, h2⟩ := am_b2_some he
    cases h2
    exact lv_ishr hx hb hd (kk lk hL (am_fa trivial (List.forall_mem_cons.mp (List.forall_mem_cons.mp hs).2).2))
  | irem =>
    obtain ⟨x, y, r, rfl, h3, h2⟩ := am_remF_some he
    cases h2
    exact lv_irem hx hb hd h3 (kk lk hL (am_fa trivial (List.forall_mem_cons.mp (List.forall_mem_cons.mp hs).2).2))
  | dup =>
    obtain ⟨a, r, rfl, h2⟩ := am_dupF_some he
    cases h2
    have h1 := List.forall_mem_cons.mp hs
    exact lv_dup hx hb hd (am_vw_cat al sb h1.1) (kk lk hL (am_fa h1.1 hs))
  | pop =>
    obtain ⟨a, r, rfl, h2⟩ := am_popF_some he
    cases h2
    have h1 := List.forall_mem_cons.mp hs
    exact lv_pop hx hb hd (am_vw_cat al sb h1.1) (kk lk hL h1.2)
  | dup_x1 =>
    obtain ⟨a, b, r, rfl, h2⟩ := am_dx1F_some he
    cases h2
    have h1 := List.forall_mem_cons.mp hs
    have h3 := List.forall_mem_cons.mp h1.2
    exact lv_dup_x1 hx hb hd (am_vw_cat al sb h1.1) (am_vw_cat al sb h3.1) (kk lk hL (am_fa h1.1 (am_fa h3.1 (am_fa h1.1 h3.2))))
  | dup_x2 =>
    obtain ⟨a, b, d, r, rfl, h2⟩ := am_dx2F_some he
    cases h2
    have h1 := List.forall_mem_cons.mp hs
    have h3 := List.forall_mem_cons.mp h1.2
    have h4 := List.forall_mem_cons.mp h3.2
    exact lv_dup_x2 hx hb hd (am_vw_cat al sb h1.1) (am_vw_cat al sb h3.1) (am_vw_cat al sb h4.1) (kk lk hL (am_fa h1.1 (am_fa h3.1 (am_fa h4.1 (am_fa h1.1 h4.2)))))
  | dup2 =>
    obtain ⟨a, b, r, rfl, h2⟩ := am_d2F_some he
    cases h2
    have h1 := List.forall_mem_cons.mp hs
    have h3 := List.forall_mem_cons.mp h1.2
    exact lv_dup2_11 hx hb hd (am_vw_cat al sb h1.1) (am_vw_cat al sb h3.1) (kk lk hL (am_fa h1.1 (am_fa h3.1 hs)))
  | _ => cases he
theorem am_J1 {q : Nat × List Value} {f : Int32 → Nat} (he : (match st with
    | .int x :: r => some (f x, r)
    | _ => none) = some q) : ∃ x r, st = .int x :: r ∧ q = (f x, r) := by
  split at he
  · exact ⟨_, _, rfl, (Option.some.inj he).symm⟩
  · cases he
theorem am_J2 {q : Nat × List Value} {f : Int32 → Int32 → Nat} (he : (match st with
    | .int y :: .int x :: r => some (f x y, r)
    | _ => none) = some q) : ∃ x y r, st = .int y :: .int x :: r ∧ q = (f x y, r) := by
  split at he
  · exact ⟨_, _, _, rfl, (Option.some.inj he).symm⟩
  · cases he
theorem am_lsw_pos {pc : Nat} {d k : Int} (hd : 0 ≤ (pc : Int) + d) : ∀ (ps : List (Int × Int)), ps.all (fun q => decide (0 ≤ (pc : Int) + q.2)) = true → 0 ≤ (pc : Int) + Op.lookupswitch.offset ps d k
  | [], _ => by rw [Op.lookupswitch.offset_nil]; exact hd
  | (a, o) :: r, h => by
    rw [List.all_cons, Bool.and_eq_true] at h
    rw [Op.lookupswitch.offset_cons]
    split
    · exact of_decide_eq_true h.1
    · exact am_lsw_pos hd r h.2
theorem am_simJ {len pc' : Nat} (hx : p.tables.exec = Jvm.exec) (hb : c.code = cc) (hd : decode cc pc = .ok (i, len)) (hlen : am_len i = 0 ∨ am_len i = len) (hbd : am_bd nL pc i = true) (he : am_J i pc st = some (pc', st')) (hs : ∀ v ∈ st, am_vw n v)
    (kk : (∀ v ∈ st', am_vw n v) → W p l e R s m args below meth c H locs cells slots Q (F0 m pc' lk (st'.map (am_rn al sb)))) : W p l e R s m args below meth c H locs cells slots Q (F0 m pc lk (st.map (am_rn al sb))) := by
  cases i with
  | goto off =>
    have he : some (am_jmp pc off, st) = some (pc', st') := he
    cases he
    have h3 : 3 = len := by rcases hlen with h | h; cases h; exact h
    subst h3
    exact lv_goto hx hb hd (Int.toNat_of_nonneg (of_decide_eq_true hbd)).symm (kk hs)
  | ifCond cd off =>
    obtain ⟨x, r, rfl, h2⟩ := am_J1 he
    cases h2
    have h3 : 3 = len := by rcases hlen with h | h; cases h; exact h
    subst h3
    have ht : (pc : Int) + off = ((am_jmp pc off : Nat) : Int) := (Int.toNat_of_nonneg (of_decide_eq_true hbd)).symm
    have kk := kk (List.forall_mem_cons.mp hs).2
    cases cd with
    | eq => exact lv_if_eq hx hb hd ht (fun q => by rw [am_if, if_pos q] at kk; exact kk) (fun q => by rw [am_if, if_neg q] at kk; exact kk)
    | ne => exact lv_if_ne hx hb hd ht (fun q => by rw [am_if, if_pos q] at kk; exact kk) (fun q => by rw [am_if, if_neg (fun z => z q)] at kk; exact kk)
    | lt => exact lv_if_lt hx hb hd ht (fun q => by rw [am_if, if_pos q] at kk; exact kk) (fun q => by rw [am_if, if_neg q] at kk; exact kk)
    | ge => exact lv_if_ge hx hb hd ht (fun q => by rw [am_if, if_pos q] at kk; exact kk) (fun q => by rw [am_if, if_neg q] at kk; exact kk)
    | gt => exact lv_if_gt hx hb hd ht (fun q => by rw [am_if, if_pos q] at kk; exact kk) (fun q => by rw [am_if, if_neg q] at kk; exact kk)
    | le => exact lv_if_le hx hb hd ht (fun q => by rw [am_if, if_pos q] at kk; exact kk) (fun q => by rw [am_if, if_neg q] at kk; exact kk)
  | if_icmp cd off =>
    obtain ⟨x, y, r, rfl, h2⟩ := am_J2 he
    cases h2
    have h3 : 3 = len := by rcases hlen with h | h; cases h; exact h
    subst h3
    have ht : (pc : Int) + off = ((am_jmp pc off : Nat) : Int) := (Int.toNat_of_nonneg (of_decide_eq_true hbd)).symm
    have kk := kk (List.forall_mem_cons.mp (List.forall_mem_cons.mp hs).2).2
    cases cd with
    | eq => exact lv_icmp_eq hx hb hd ht (fun q => by rw [am_if, if_pos q] at kk; exact kk) (fun q => by rw [am_if, if_neg q] at kk; exact kk)
    | ne => exact lv_icmp_ne hx hb hd ht (fun q => by rw [am_if, if_pos q] at kk; exact kk) (fun q => by rw [am_if, if_neg (fun z => z q)] at kk; exact kk)
    | lt => exact lv_icmp_lt hx hb hd ht (fun q => by rw [am_if, if_pos q] at kk; exact kk) (fun q => by rw [am_if, if_neg q] at kk; exact kk)
    | ge => exact lv_icmp_ge hx hb hd ht (fun q => by rw [am_if, if_pos q] at kk; exact kk) (fun q => by rw [am_if, if_neg q] at kk; exact kk)
    | gt => exact lv_icmp_gt hx hb hd ht (fun q => by rw [am_if, if_pos q] at kk; exact kk) (fun q => by rw [am_if, if_neg q] at kk; exact kk)
    | le => exact lv_icmp_le hx hb hd ht (fun q => by rw [am_if, if_pos q] at kk; exact kk) (fun q => by rw [am_if, if_neg q] at kk; exact kk)
  | tableswitch d lo hi offs =>
    obtain ⟨x, r, rfl, h2⟩ := am_J1 he
    cases h2
    have kk := kk (List.forall_mem_cons.mp hs).2
    unfold am_bd at hbd
    rw [Bool.and_eq_true, Bool.and_eq_true] at hbd
    obtain ⟨b1, b2, b3⟩ := hbd
    have b1 := of_decide_eq_true b1
    have b2 := of_decide_eq_true b2
    by_cases hc : x.toInt < lo ∨ hi < x.toInt
    · rw [am_tsw, if_pos hc] at kk
      exact lv_tableOut hx hb hd hc (Int.toNat_of_nonneg b1).symm kk
    · rw [am_tsw, if_neg hc] at kk
      have hlt : (x.toInt - lo).toNat < offs.size := by omega
      have ho : offs[(x.toInt - lo).toNat]? = some offs[(x.toInt - lo).toNat] := Array.getElem?_eq_getElem hlt
      rw [ho] at kk
      have hp : 0 ≤ (pc : Int) + offs[(x.toInt - lo).toNat] := of_decide_eq_true (List.all_eq_true.mp b3 _ (by simp))
      exact lv_tableIn hx hb hd (fun q => hc (Or.inl q)) (fun q => hc (Or.inr q)) ho (Int.toNat_of_nonneg hp).symm kk
  | lookupswitch d ps =>
    obtain ⟨x, r, rfl, h2⟩ := am_J1 he
    cases h2
    have kk := kk (List.forall_mem_cons.mp hs).2
    unfold am_bd at hbd
    rw [Bool.and_eq_true, Bool.and_eq_true] at hbd
    obtain ⟨b1, b2, b3⟩ := hbd
    have b1 := of_decide_eq_true b1
    exact lv_lookup hx hb hd b2 rfl (Int.toNat_of_nonneg (am_lsw_pos b1 _ b3)).symm kk
  | _ => cases he
end AMP
end
section
/-! The small machine's cells as the kit's world. -/
def am_fo (al : Nat → Nat) (x : Int32) : Option (Option Nat) → Value
  | none => .int x
  | some none => .null
  | some (some j) => .ref (al j)
def am_fv (al : Nat → Nat) (s : am_S) (i : Nat) (fl : List (Option (Option Nat))) : List Value := fl.mapIdx (fun k o => am_fo al (s i k) o)
def am_rf (al : Nat → Nat) (rs : List (Option Nat)) : Nat → Option Nat := fun j => ((rs[j]?).join).map al
def am_ex (cy : Nat → ClassId) (al : Nat → Nat) (s : am_S) (i : Nat) : am_D → va_E
  | .inl (t, n, none) => .inl (cy t, n, .inl (s i))
  | .inl (t, n, some rs) => .inl (cy t, n, .inr (.inr (.inr (.inr (am_rf al rs)))))
  | .inr (c, fl) => .inr (c, am_fv al s i fl)
def am_wl (cy : Nat → ClassId) (al : Nat → Nat) (h : am_H) : va_W := h.1.mapIdx (fun i d => (al i, am_ex cy al h.2 i d))
def am_dw (n : Nat) : am_D → Prop
  | .inl (t, k, some rs) => rs.length = k ∧ (∀ (j r : Nat), rs[j]? = some (some r) → r < n) ∧ ∃ ty, am_ty t = some ty ∧ ty.isReference = true
  | .inl (_, _, none) => True
  | .inr (_, fl) => ∀ (k j : Nat), fl[k]? = some (some (some j)) → j < n
def am_sz : am_D → Nat
  | .inl (_, k, _) => k
  | .inr (_, fl) => fl.length
def am_slt (tp : List am_D) : Nat := (tp.map am_sz).sum
theorem am_dw_up {n n' : Nat} (hn : n ≤ n') : ∀ {d : am_D}, am_dw n d → am_dw n' d
  | .inl (_, _, some _), h => ⟨h.1, fun j r e => Nat.lt_of_lt_of_le (h.2.1 j r e) hn, h.2.2⟩
  | .inl (_, _, none), _ => trivial
  | .inr (_, _), h => fun k j e => Nat.lt_of_lt_of_le (h k j e) hn
theorem am_wl_at {cy : Nat → ClassId} {al : Nat → Nat} {h : am_H} {i : Nat} {d : am_D} (hd : h.1[i]? = some d) : (am_wl cy al h)[i]? = some (al i, am_ex cy al h.2 i d) := by
  unfold am_wl
  rw [List.getElem?_mapIdx, hd]
  rfl
theorem am_wl_len {cy : Nat → ClassId} {al : Nat → Nat} {h : am_H} : (am_wl cy al h).length = h.1.length := by simp [am_wl]
theorem am_wl_mem {cy : Nat → ClassId} {al : Nat → Nat} {h : am_H} {i : Nat} {q : Nat × va_E} (hq : (am_wl cy al h)[i]? = some q) : ∃ d, h.1[i]? = some d ∧ q = (al i, am_ex cy al h.2 i d) := by
  unfold am_wl at hq
  rw [List.getElem?_mapIdx] at hq
  cases hd : h.1[i]? with
  | none => rw [hd] at hq; cases hq
  | some d => rw [hd] at hq; exact ⟨d, rfl, (Option.some.inj hq).symm⟩
theorem am_ex_eq {cy : Nat → ClassId} {al al' : Nat → Nat} {s s' : am_S} {i n : Nat} (hs : s' i = s i) (ha : ∀ j, j < n → al' j = al j) : ∀ {d : am_D}, am_dw n d → am_ex cy al' s' i d = am_ex cy al s i d
  | .inl (t, k, none), _ => by simp only [am_ex, hs]
  | .inl (t, k, some rs), h => by
    have e : am_rf al' rs = am_rf al rs := by
      funext j
      unfold am_rf
      cases hj : rs[j]? with
      | none => rfl
      | some o => cases o with
        | none => rfl
        | some r => exact congrArg some (ha r (h.2.1 j r hj))
    simp only [am_ex, e]
  | .inr (c, fl), h => by
    have e : am_fv al' s' i fl = am_fv al s i fl := by
      unfold am_fv
      apply List.ext_getElem?
      intro k
      rw [List.getElem?_mapIdx, List.getElem?_mapIdx]
      cases hk : fl[k]? with
      | none => rfl
      | some o => cases o with
        | none => simp [am_fo, hs]
        | some o => cases o with
          | none => rfl
          | some j => simp [am_fo, ha j (h k j hk)]
    simp only [am_ex, e]
theorem am_wl_set {cy : Nat → ClassId} {al : Nat → Nat} {h h' : am_H} {i : Nat} {d : am_D} {x : va_E} (hd : h.1[i]? = some d) (h1 : ∀ j : Nat, j ≠ i → h'.1[j]? = h.1[j]?) (h2 : ∀ j : Nat, j ≠ i → h'.2 j = h.2 j) {d' : am_D} (hd' : h'.1[i]? = some d') (hx : am_ex cy al h'.2 i d' = x) (hw : ∀ (j : Nat) (d : am_D), h.1[j]? = some d → am_dw h.1.length d) : am_wl cy al h' = (am_wl cy al h).set i (al i, x) := by
  apply List.ext_getElem?
  intro j
  rw [List.getElem?_set]
  by_cases hj : i = j
  · subst hj
    have hl : i < (am_wl cy al h).length := by rw [am_wl_len]; exact (List.getElem?_eq_some_iff.mp hd).1
    rw [if_pos rfl, if_pos hl, am_wl_at hd', hx]
  · rw [if_neg hj]
    unfold am_wl
    rw [List.getElem?_mapIdx, List.getElem?_mapIdx, h1 j (Ne.symm hj)]
    cases hd2 : h.1[j]? with
    | none => rfl
    | some d2 => exact congrArg some (by show (al j, am_ex cy al h'.2 j d2) = (al j, am_ex cy al h.2 j d2); rw [am_ex_eq (h2 j (Ne.symm hj)) (fun _ _ => rfl) (hw j d2 hd2)])
theorem am_fv_at {al : Nat → Nat} {s : am_S} {i k : Nat} {fl : List (Option (Option Nat))} {o : Option (Option Nat)} (hk : fl[k]? = some o) : (am_fv al s i fl)[k]? = some (am_fo al (s i k) o) := by
  unfold am_fv
  rw [List.getElem?_mapIdx, hk]
  rfl
theorem am_fv_wr {al : Nat → Nat} {s : am_S} {i k : Nat} {v : Int32} {fl : List (Option (Option Nat))} (hk : fl[k]? = some none) : am_fv al (am_wr s i k v) i fl = (am_fv al s i fl).set k (.int v) := by
  apply List.ext_getElem?
  intro j
  rw [List.getElem?_set]
  have hl : k < (am_fv al s i fl).length := by simp only [am_fv, List.length_mapIdx]; exact (List.getElem?_eq_some_iff.mp hk).1
  by_cases hj : k = j
  · subst hj
    rw [if_pos rfl, if_pos hl, am_fv_at hk, am_wr_self]
    rfl
  · rw [if_neg hj]
    unfold am_fv
    rw [List.getElem?_mapIdx, List.getElem?_mapIdx, am_wr_col s (Ne.symm hj)]
theorem am_fv_set {al : Nat → Nat} {s : am_S} {i k j : Nat} {fl : List (Option (Option Nat))} {o : Option (Option Nat)} (hk : fl[k]? = some o) : am_fv al s i (fl.set k (some (some j))) = (am_fv al s i fl).set k (.ref (al j)) := by
  apply List.ext_getElem?
  intro q
  rw [List.getElem?_set]
  have hl0 : k < fl.length := (List.getElem?_eq_some_iff.mp hk).1
  have hl : k < (am_fv al s i fl).length := by simp only [am_fv, List.length_mapIdx]; exact hl0
  unfold am_fv at hl ⊢
  rw [List.getElem?_mapIdx, List.getElem?_mapIdx, List.getElem?_set]
  by_cases hj : k = q
  · subst hj
    rw [if_pos rfl, if_pos hl0, if_pos rfl, if_pos hl]
    rfl
  · rw [if_neg hj, if_neg hj]
theorem am_rf_set {al : Nat → Nat} {rs : List (Option Nat)} {k j : Nat} (hk : k < rs.length) : am_rf al (rs.set k (some j)) = va_up (am_rf al rs) k (some (al j)) := by
  funext q
  unfold am_rf va_up
  rw [List.getElem?_set]
  by_cases hq : q = k
  · subst hq
    rw [if_pos rfl, if_pos hk, if_pos rfl]
    rfl
  · rw [if_neg (Ne.symm hq), if_neg hq]
/-- what holds between a state of the small machine and one of the kit's -/
def am_I (A : Nat → Prop) (D : va_G) (cl : List vw_C) (cy : Nat → ClassId) (H0 : Heap) (al : Nat → Nat) (h : am_H) (H : Heap) (locs : List Loc) : Prop :=
  va_P D cl (am_wl cy al h) H ∧ va_D A (am_wl cy al h) ∧ va_S A H0 H locs ∧ (∀ (i : Nat) (d : am_D), h.1[i]? = some d → am_dw h.1.length d) ∧ ∀ i k : Nat, h.1.length ≤ i → h.2 i k = 0
section AMW
variable {p : Program} {l : Launch} {e : Env} {R : Room} {s : State} {m : MethodId} {args : Array Value} {below : List Frame} {meth : Method} {c : Code} {H : Heap} {locs : List Loc} {cells slots : Nat} {Q : State → Prop}
variable {cc : ByteArray} {pc : Nat} {lk : Array Slot} {ls st rest : List Value} {al : Nat → Nat} {sb nL : Nat} {A : Nat → Prop} {D : va_G} {cl : List vw_C} {cy : Nat → ClassId} {tys : List (ClassId × FieldType)} {h h' : am_H}
theorem am_sim_ld {t a : Nat} {x v : Int32} (hx : p.tables.exec = Jvm.exec) (hb : c.code = cc) (hK : va_K D cl tys s) (hty : ∀ t ty, am_ty t = some ty → tys[t]? = some (cy t, ty)) (hI : am_I A D cl cy s.heap al h H locs) (he : am_ld h t a x = some v)
    (hdg : t = 0 ∧ am_ty 0 = some .int ∧ decode cc pc = .ok (.iaload, 1) ∨ t = 1 ∧ am_ty 1 = some .boolean ∧ decode cc pc = .ok (.baload, 1))
    (kk : W p l e R s m args below meth c H locs cells slots Q (F0 m (pc + 1) lk (.int v :: rest))) : W p l e R s m args below meth c H locs cells slots Q (F0 m pc lk (.int x :: .ref (al a) :: rest)) := by
  unfold am_ld at he
  split at he
  · rename_i t' n hd
    split at he
    · rename_i hc
      obtain ⟨rfl, hin⟩ := hc
      cases he
      have ha := am_wl_at (cy := cy) (al := al) hd
      rcases hdg with ⟨rfl, h1, h2⟩ | ⟨rfl, h1, h2⟩
      · exact va_iald hx hb hK hI.1 a 0 ha (hty 0 _ h1) hin h2 kk
      · exact va_zald hx hb hK hI.1 a 1 ha (hty 1 _ h1) hin h2 kk
    · cases he
  · cases he
theorem am_one_nar {v : Int32} (h : v = 0 ∨ v = 1) : v &&& 1 = v := by rcases h with rfl | rfl <;> decide
theorem am_I_wr {i k : Nat} {d : am_D} {x : va_E} {v : Int32} {H1 : Heap} {locs1 : List Loc} (hI : am_I A D cl cy s.heap al h H locs) (hd : h.1[i]? = some d) (hx : am_ex cy al (am_wr h.2 i k v) i d = x)
    (hP : va_P D cl ((am_wl cy al h).set i (al i, x)) H1) (hD : va_D A ((am_wl cy al h).set i (al i, x))) (hS : va_S A s.heap H1 locs1) : am_I A D cl cy s.heap al (h.1, am_wr h.2 i k v) H1 locs1 := by
  obtain ⟨-, -, -, hw, hz⟩ := hI
  have e := am_wl_set (h' := (h.1, am_wr h.2 i k v)) (cy := cy) (al := al) hd (fun _ _ => rfl) (fun j hj => am_wr_row h.2 hj) hd hx hw
  refine ⟨by rw [e]; exact hP, by rw [e]; exact hD, hS, hw, fun j q hj => ?_⟩
  have hl := (List.getElem?_eq_some_iff.mp hd).1
  show am_wr h.2 i k v j q = 0
  rw [am_wr_row h.2 (by have : h.1.length ≤ j := hj; omega)]
  exact hz j q hj
theorem am_sim_sd {t a : Nat} {x v : Int32} (hx : p.tables.exec = Jvm.exec) (hb : c.code = cc) (hK : va_K D cl tys s) (hty : ∀ t ty, am_ty t = some ty → tys[t]? = some (cy t, ty)) (hI : am_I A D cl cy s.heap al h H locs) (he : am_sd h t a x v = some h')
    (hdg : t = 0 ∧ am_ty 0 = some .int ∧ decode cc pc = .ok (.iastore, 1) ∨ t = 1 ∧ am_ty 1 = some .boolean ∧ decode cc pc = .ok (.bastore, 1))
    (kk : ∀ (H1 : Heap) (locs1 : List Loc), am_I A D cl cy s.heap al h' H1 locs1 → h'.1 = h.1 → W p l e R s m args below meth c H1 locs1 cells slots Q (F0 m (pc + 1) lk rest)) : W p l e R s m args below meth c H locs cells slots Q (F0 m pc lk (.int v :: .int x :: .ref (al a) :: rest)) := by
  unfold am_sd at he
  split at he
  · rename_i t' n hd
    split at he
    · rename_i hc
      obtain ⟨rfl, hin, hv⟩ := hc
      cases he
      have ha := am_wl_at (cy := cy) (al := al) hd
      rcases hdg with ⟨rfl, h1, h2⟩ | ⟨rfl, h1, h2⟩
      · exact va_iast hx hb hK hI.1 hI.2.1 hI.2.2.1 a 0 ha (hty 0 _ h1) hin h2 (fun H1 locs1 hP hD hS => kk H1 locs1 (am_I_wr hI hd (by simp only [am_ex, am_wr_upd]) hP hD hS) rfl)
      · have hn : vp_nar .boolean v = v := by
          show v &&& 1 = v
          exact am_one_nar (by rcases hv with h | h; cases h; exact h)
        refine va_zast hx hb hK hI.1 hI.2.1 hI.2.2.1 a 1 ha (hty 1 _ h1) hin h2 (fun H1 locs1 hP hD hS => ?_)
        rw [hn] at hP hD
        exact kk H1 locs1 (am_I_wr hI hd (by simp only [am_ex, am_wr_upd]) hP hD hS) rfl
    · cases he
  · cases he
theorem am_sim_la {a j : Nat} {x : Int32} (hx : p.tables.exec = Jvm.exec) (hb : c.code = cc) (hK : va_K D cl tys s) (hty : ∀ t ty, am_ty t = some ty → tys[t]? = some (cy t, ty)) (hI : am_I A D cl cy s.heap al h H locs) (he : am_la h a x = some j) (hdg : decode cc pc = .ok (.aaload, 1))
    (kk : j < h.1.length → W p l e R s m args below meth c H locs cells slots Q (F0 m (pc + 1) lk (.ref (al j) :: rest))) : W p l e R s m args below meth c H locs cells slots Q (F0 m pc lk (.int x :: .ref (al a) :: rest)) := by
  unfold am_la at he
  split at he
  · rename_i t n rs hd
    split at he
    · cases he
    · rename_i hin
      have ha := am_wl_at (cy := cy) (al := al) hd
      have hin : vp_in x n := hin
      obtain ⟨w1, w2, ty, w3, w4⟩ := hI.2.2.2.1 a _ hd
      have hlt : x.toNatClampNeg < n := Nat.not_le.mp fun q => hin (Or.inr q)
      have hj : rs[x.toNatClampNeg]? = some (some j) := by
        cases hq : rs[x.toNatClampNeg]? with
        | none => rw [hq] at he; cases he
        | some o => rw [hq] at he; exact congrArg some he
      have hf : am_rf al rs x.toNatClampNeg = some (al j) := by
        unfold am_rf
        rw [hj]
        rfl
      exact W.aald (v := .ref (al j)) (ty := ty) hx hb (hI.1 a _ ha) ((hK.2 t _ (hty t ty w3)).1 n (fun q => va_rf (am_rf al rs q))) w4 (fun q => by cases q) (by show ¬ (x < 0 ∨ (arrV _ _ _).slots.size ≤ _); rw [arrV_size]; exact hin) (by show (arrV _ _ _).slots[_]? = _; rw [arrV_read _ _ hlt, hf]; rfl) rfl rfl hdg (kk (w2 _ _ hj))
  · cases he
end AMW
end
section
/-! The small machine against the kit's machine: fields, new cells. -/
theorem am_slt_set {tp : List am_D} {i : Nat} {d d' : am_D} (hd : tp[i]? = some d) (hs : am_sz d' = am_sz d) : am_slt (tp.set i d') = am_slt tp := by
  unfold am_slt
  congr 1
  apply List.ext_getElem?
  intro j
  rw [List.getElem?_map, List.getElem?_map, List.getElem?_set]
  by_cases hj : i = j
  · subst hj
    rw [if_pos rfl, if_pos (List.getElem?_eq_some_iff.mp hd).1, hd]
    simp [hs]
  · rw [if_neg hj]
section AMX
variable {p : Program} {l : Launch} {e : Env} {R : Room} {s : State} {m : MethodId} {args : Array Value} {below : List Frame} {meth : Method} {c : Code} {H : Heap} {locs : List Loc} {cells slots : Nat} {Q : State → Prop}
variable {cc : ByteArray} {pc : Nat} {lk : Array Slot} {ls st rest : List Value} {al : Nat → Nat} {sb nL : Nat} {A : Nat → Prop} {D : va_G} {cl : List vw_C} {cy : Nat → ClassId} {tys : List (ClassId × FieldType)} {h h' : am_H} {Ts : List Cond} {own : String}
def am_lk (own : String) (args : Array Value) (s : State) (x : Nat) (C nm d : String) : Prop := (Cond.fieldLink own x C nm d).before args s = true ∨ ∃ host, (Cond.fieldLinkNest own x C nm d host).before args s = true
def am_gOK (cl : List vw_C) (Ts : List Cond) (own : String) (args : Array Value) (s : State) (x ci k : Nat) : Prop :=
  ∃ (C : String) (T : u_T) (Nf : Nat), cl[ci]? = some (C, T, Nf) ∧ k < Nf ∧ (∀ w ∈ u_ws C T Nf, w ∈ Ts) ∧ (T k).1 = C ∧ am_lk own args s x C (T k).2.1 (T k).2.2.1
def am_pOK (cl : List vw_C) (Ts : List Cond) (own : String) (args : Array Value) (s : State) (meth : Method) (x ci k kd : Nat) : Prop :=
  ∃ (C : String) (T : u_T) (Nf : Nat) (ty : Nat → FieldType), cl[ci]? = some (C, T, Nf) ∧ k < Nf ∧ (∀ w ∈ u_ws C T Nf, w ∈ Ts) ∧ (T k).1 = C ∧ (∀ k, k < Nf → parseFieldDescriptor (T k).2.2.1 = some (ty k)) ∧ (∀ a, a < Nf → ∀ b, b < Nf → a ≠ b → (T a).2.1 ≠ (T b).2.1) ∧
    (kd = 0 ∧ ty k = .int ∨ kd = 1 ∧ ty k = .boolean ∨ kd = 2 ∧ (ty k).isReference = true) ∧
    ((T k).2.2.2 = false ∧ am_lk own args s x C (T k).2.1 (T k).2.2.1 ∨ (T k).2.2.2 = true ∧ meth.name = "<init>" ∧ C = own ∧ (Cond.fieldLink own x C (T k).2.1 (T k).2.2.1).before args s = true)
theorem am_sim_gf {a x ci k : Nat} {v : Value} (hx : p.tables.exec = Jvm.exec) (hb : c.code = cc) (hts : ∀ w ∈ Ts, w.before args s = true) (hown : s.vm.findClass own = some m.cls) (hK : va_K D cl tys s) (hI : am_I A D cl cy s.heap al h H locs) (hg : am_gOK cl Ts own args s x ci k) (he : am_gf h a ci k = some v) (hdg : decode cc pc = .ok (.getfield x, 3))
    (kk : am_vw h.1.length v → W p l e R s m args below meth c H locs cells slots Q (F0 m (pc + 3) lk (am_rn al sb v :: rest))) : W p l e R s m args below meth c H locs cells slots Q (F0 m pc lk (.ref (al a) :: rest)) := by
  obtain ⟨C, T, Nf, h1, h2, h3, h4, h5⟩ := hg
  unfold am_gf at he
  split at he
  · rename_i q hd
    obtain ⟨c0, fl⟩ := q
    split at he
    · rename_i hc
      have hc : c0 = ci := hc
      subst hc
      have ha := am_wl_at (cy := cy) (al := al) hd
      have hw := hI.2.2.2.1 a _ hd
      have fin : ∀ o : Option (Option Nat), fl[k]? = some o → am_rn al sb v = am_fo al (h.2 a k) o → am_vw h.1.length v → W p l e R s m args below meth c H locs cells slots Q (F0 m pc lk (.ref (al a) :: rest)) := by
        intro o ho hv hvw
        have kk := kk hvw
        rw [hv] at kk
        rcases h5 with h5 | ⟨host, h5⟩
        · exact va_get hx hb hts h3 hown hK hI.1 a ha h1 k h2 h5 (fun _ z => by rw [← h4]; exact z) (am_fv_at ho) hdg kk
        · exact va_getN hx hb hts h3 hown hK hI.1 a ha h1 k h2 h5 (fun _ z => by rw [← h4]; exact z) (am_fv_at ho) hdg kk
      dsimp only at he
      cases ho : fl[k]? with
      | none => rw [ho] at he; cases he
      | some o =>
        rw [ho] at he
        cases o with
        | none => cases he; exact fin none ho rfl trivial
        | some o =>
          cases o with
          | none => cases he; exact fin (some none) ho rfl trivial
          | some j => cases he; exact fin (some (some j)) ho rfl (hw k j ho)
    · cases he
  · cases he
theorem am_I_set {i : Nat} {d d' : am_D} {x : va_E} {H1 : Heap} {locs1 : List Loc} (hI : am_I A D cl cy s.heap al h H locs) (hd : h.1[i]? = some d) (hx : am_ex cy al h.2 i d' = x) (hw' : am_dw h.1.length d')
    (hP : va_P D cl ((am_wl cy al h).set i (al i, x)) H1) (hD : va_D A ((am_wl cy al h).set i (al i, x))) (hS : va_S A s.heap H1 locs1) : am_I A D cl cy s.heap al (h.1.set i d', h.2) H1 locs1 := by
  obtain ⟨-, -, -, hw, hz⟩ := hI
  have hl := (List.getElem?_eq_some_iff.mp hd).1
  have hd2 : (h.1.set i d')[i]? = some d' := by rw [List.getElem?_set, if_pos rfl, if_pos hl]
  have e := am_wl_set (h' := (h.1.set i d', h.2)) (cy := cy) (al := al) hd (fun j hj => by show (h.1.set i d')[j]? = _; rw [List.getElem?_set, if_neg (Ne.symm hj)]) (fun _ _ => rfl) hd2 hx hw
  refine ⟨by rw [e]; exact hP, by rw [e]; exact hD, hS, fun j q hj => ?_, fun j q hj => hz j q (by have : (h.1.set i d').length ≤ j := hj; rw [List.length_set] at this; exact this)⟩
  show am_dw (h.1.set i d').length q
  rw [List.length_set]
  have hj : (h.1.set i d')[j]? = some q := hj
  rw [List.getElem?_set] at hj
  by_cases hij : i = j
  · rw [if_pos hij, if_pos hl] at hj
    cases hj
    exact hw'
  · rw [if_neg hij] at hj
    exact hw j q hj
theorem am_sim_pf {a x ci k kd : Nat} {v : Value} (hx : p.tables.exec = Jvm.exec) (hb : c.code = cc) (hts : ∀ w ∈ Ts, w.before args s = true) (hown : s.vm.findClass own = some m.cls) (hK : va_K D cl tys s) (hI : am_I A D cl cy s.heap al h H locs) (hg : am_pOK cl Ts own args s meth x ci k kd) (he : am_pf h a ci k kd v = some h') (hv : am_vw h.1.length v) (hdg : decode cc pc = .ok (.putfield x, 3))
    (kk : ∀ (H1 : Heap) (locs1 : List Loc), am_I A D cl cy s.heap al h' H1 locs1 → h'.1.length = h.1.length → am_slt h'.1 = am_slt h.1 → W p l e R s m args below meth c H1 locs1 cells slots Q (F0 m (pc + 3) lk rest)) : W p l e R s m args below meth c H locs cells slots Q (F0 m pc lk (am_rn al sb v :: .ref (al a) :: rest)) := by
  obtain ⟨C, T, Nf, ty, h1, h2, h3, h4, h5, h6, h7, h8⟩ := hg
  unfold am_pf at he
  split at he
  · rename_i q hd
    obtain ⟨c0, fl⟩ := q
    split at he
    · rename_i hc
      have hc : c0 = ci := hc
      subst hc
      have ha := am_wl_at (cy := cy) (al := al) hd
      have hw := hI.2.2.2.1 a _ hd
      have fin : ∀ o : Option (Option Nat), fl[k]? = some o → narrow (ty k) (am_rn al sb v) = am_rn al sb v → fits (ty k) (am_rn al sb v) = true →
          (∀ (H1 : Heap) (locs1 : List Loc), va_P D cl ((am_wl cy al h).set a (al a, .inr (c0, (am_fv al h.2 a fl).set k (am_rn al sb v)))) H1 → va_D A ((am_wl cy al h).set a (al a, .inr (c0, (am_fv al h.2 a fl).set k (am_rn al sb v)))) → va_S A s.heap H1 locs1 → W p l e R s m args below meth c H1 locs1 cells slots Q (F0 m (pc + 3) lk rest)) →
          W p l e R s m args below meth c H locs cells slots Q (F0 m pc lk (am_rn al sb v :: .ref (al a) :: rest)) := by
        intro o ho hn hf kk
        have hl : k < (am_fv al h.2 a fl).length := by simp only [am_fv, List.length_mapIdx]; exact (List.getElem?_eq_some_iff.mp ho).1
        rcases h8 with ⟨g1, g2⟩ | ⟨g1, g2, g3, g4⟩
        · rcases g2 with g2 | ⟨host, g2⟩
          · exact va_put hx hb hts h3 ty h5 h6 hown hK hI.1 hI.2.1 hI.2.2.1 a ha h1 k h2 g2 (fun _ z => by rw [← h4]; exact z) g1 (h5 k h2) hn hf hl hdg kk
          · exact va_putN hx hb hts h3 ty h5 h6 hown hK hI.1 hI.2.1 hI.2.2.1 a ha h1 k h2 g2 (fun _ z => by rw [← h4]; exact z) g1 (h5 k h2) hn hf hl hdg kk
        · exact va_putF hx hb hts h3 ty h5 h6 hown hK hI.1 hI.2.1 hI.2.2.1 a ha h1 k h2 g4 (fun _ z => by rw [← h4]; exact z) g1 g2 (h4.trans g3) (h5 k h2) hn hf hl hdg kk
      dsimp only at he
      split at he
      · rename_i y ho
        cases he
        have ht : ty k = .int := by
          rcases h7 with ⟨_, h7⟩ | ⟨h7, _⟩ | ⟨h7, _⟩
          · exact h7
          · cases h7
          · cases h7
        refine fin none ho (by rw [ht]; rfl) (by rw [ht]; rfl) (fun H1 locs1 hP hD hS => kk H1 locs1 (am_I_wr hI hd ?_ hP hD hS) rfl rfl)
        show (Sum.inr (c0, am_fv al (am_wr h.2 a k y) a fl) : va_E) = _
        rw [am_fv_wr ho]
        rfl
      · rename_i y ho
        split at he
        · rename_i hy
          cases he
          have ht : ty k = .boolean := by
            rcases h7 with ⟨h7, _⟩ | ⟨_, h7⟩ | ⟨h7, _⟩
            · cases h7
            · exact h7
            · cases h7
          refine fin none ho (by rw [ht]; show Value.int (y &&& 1) = .int y; rw [am_one_nar hy]) (by rw [ht]; show (y == 0 || y == 1) = true; rcases hy with rfl | rfl <;> rfl) (fun H1 locs1 hP hD hS => kk H1 locs1 (am_I_wr hI hd ?_ hP hD hS) rfl rfl)
          show (Sum.inr (c0, am_fv al (am_wr h.2 a k y) a fl) : va_E) = _
          rw [am_fv_wr ho]
          rfl
        · cases he
      · rename_i o j ho
        cases he
        have ht : (ty k).isReference = true := by
          rcases h7 with ⟨h7, _⟩ | ⟨h7, _⟩ | ⟨_, h7⟩
          · cases h7
          · cases h7
          · exact h7
        have hl := (List.getElem?_eq_some_iff.mp hd).1
        refine fin (some o) ho (by show narrow (ty k) (.ref (al j)) = .ref (al j); cases hk : ty k <;> rw [hk] at ht <;> first | rfl | cases ht) (by show fits (ty k) (.ref (al j)) = true; cases hk : ty k <;> rw [hk] at ht <;> first | rfl | cases ht)
          (fun H1 locs1 hP hD hS => kk H1 locs1 (am_I_set hI hd ?_ ?_ hP hD hS) (by show (h.1.set a _).length = _; rw [List.length_set]) ?_)
        · show (Sum.inr (c0, am_fv al h.2 a (fl.set k (some (some j)))) : va_E) = _
          rw [am_fv_set ho]
          rfl
        · intro k2 j2 hj
          rw [List.getElem?_set] at hj
          by_cases hk2 : k = k2
          · rw [if_pos hk2, if_pos (List.getElem?_eq_some_iff.mp ho).1] at hj
            cases hj
            exact hv
          · rw [if_neg hk2] at hj
            exact hw k2 j2 hj
        · show am_slt (h.1.set a _) = _
          exact am_slt_set hd (by simp [am_sz])
      · cases he
    · cases he
  · cases he
end AMX
end
