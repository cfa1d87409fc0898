/-! The small machine (am_): cells go by number, references never name addresses; all ints stand in one table. It runs the decoded instructions of a method; calls go to functions. -/
/-- a cell: .inl (array type, length, none: ints, or its references), .inr (its kind, its fields: none an int, some a reference) -/
abbrev am_D : Type := (Nat × Nat × Option (List (Option Nat))) ⊕ (Nat × List (Option (Option Nat)))
abbrev am_S : Type := Nat → Nat → Int32
abbrev am_H : Type := List am_D × am_S
abbrev am_F : Type := Nat → List Value → am_H → Option (Option Value × am_H)
/-- a method: code, fields, calls, blank objects, array types, the script, what it returns (0 int, 1 boolean, 2 nothing, 3 a reference) -/
abbrev am_M : Type := (Nat → Option Instr) × (Nat → Option (Nat × Nat × Nat)) × (Nat → Option (Nat × Option Nat × am_F)) × (Nat → Option (Nat × List (Option (Option Nat)))) × (Nat → Option Nat) × Option (Nat × (Nat → Int32)) × Nat
abbrev am_code (M : am_M) : Nat → Option Instr := M.1
abbrev am_fld (M : am_M) : Nat → Option (Nat × Nat × Nat) := M.2.1
abbrev am_cal (M : am_M) : Nat → Option (Nat × Option Nat × am_F) := M.2.2.1
abbrev am_new (M : am_M) : Nat → Option (Nat × List (Option (Option Nat))) := M.2.2.2.1
abbrev am_arr (M : am_M) : Nat → Option Nat := M.2.2.2.2.1
abbrev am_scr (M : am_M) : Option (Nat × (Nat → Int32)) := M.2.2.2.2.2.1
abbrev am_ret (M : am_M) : Nat := M.2.2.2.2.2.2
/-- a place outside an array of n -/
abbrev am_out (x : Int32) (n : Nat) : Prop := x < 0 ∨ n ≤ x.toNatClampNeg
def am_wr (s : am_S) (i k : Nat) (v : Int32) : am_S := if s i k = v then s else fun i' k' => if i' = i ∧ k' = k then v else s i' k'
theorem am_wr_at (s : am_S) (i k : Nat) (v : Int32) (i' k' : Nat) : am_wr s i k v i' k' = if i' = i ∧ k' = k then v else s i' k' := by
  unfold am_wr
  split
  · rename_i h
    split
    · rename_i h2
      rw [h2.1, h2.2, h]
    · rfl
  · rfl
theorem am_wr_self (s : am_S) (i k : Nat) (v : Int32) : am_wr s i k v i k = v := by rw [am_wr_at, if_pos ⟨rfl, rfl⟩]
theorem am_wr_row (s : am_S) {i k : Nat} {v : Int32} {i' : Nat} (h : i' ≠ i) : am_wr s i k v i' = s i' := by
  funext k'
  rw [am_wr_at, if_neg (fun q => h q.1)]
theorem am_wr_col (s : am_S) {i k : Nat} {v : Int32} {i' k' : Nat} (h : k' ≠ k) : am_wr s i k v i' k' = s i' k' := by
  rw [am_wr_at, if_neg (fun q => h q.2)]
theorem am_wr_upd (s : am_S) (i k : Nat) (v : Int32) : am_wr s i k v i = upd (s i) k v := by
  funext k'
  rw [am_wr_at]
  unfold upd
  by_cases h : k' = k
  · rw [if_pos ⟨rfl, h⟩, if_pos h]
  · rw [if_neg (fun q => h q.2), if_neg h]
def am_gf (h : am_H) (i ci k : Nat) : Option Value :=
  match h.1[i]? with
  | some (.inr q) => if q.1 = ci then (match q.2[k]? with
      | some none => some (.int (h.2 i k))
      | some (some none) => some .null
      | some (some (some j)) => some (.ref j)
      | none => none) else none
  | _ => none
def am_pf (h : am_H) (i ci k kd : Nat) (v : Value) : Option am_H :=
  match h.1[i]? with
  | some (.inr q) => if q.1 = ci then (match q.2[k]?, kd, v with
      | some none, 0, .int x => some (h.1, am_wr h.2 i k x)
      | some none, 1, .int x => if x = 0 ∨ x = 1 then some (h.1, am_wr h.2 i k x) else none
      | some (some _), 2, .ref j => some (h.1.set i (.inr (q.1, q.2.set k (some (some j)))), h.2)
      | _, _, _ => none) else none
  | _ => none
def am_ld (h : am_H) (t i : Nat) (x : Int32) : Option Int32 :=
  match h.1[i]? with
  | some (.inl (t', n, none)) => if t' = t ∧ ¬ am_out x n then some (h.2 i x.toNatClampNeg) else none
  | _ => none
def am_sd (h : am_H) (t i : Nat) (x v : Int32) : Option am_H :=
  match h.1[i]? with
  | some (.inl (t', n, none)) => if t' = t ∧ ¬ am_out x n ∧ (t = 0 ∨ v = 0 ∨ v = 1) then some (h.1, am_wr h.2 i x.toNatClampNeg v) else none
  | _ => none
def am_la (h : am_H) (i : Nat) (x : Int32) : Option Nat :=
  match h.1[i]? with
  | some (.inl (_, n, some rs)) => if am_out x n then none else (rs[x.toNatClampNeg]?).join
  | _ => none
/-- the array types, and whose objects they hold -/
def am_ty : Nat → Option FieldType
  | 0 => some .int
  | 1 => some .boolean
  | 2 => some (.object "PatchedMachine$Layout")
  | 3 => some (.object "PatchedMachine$Routine")
  | 4 => some (.object "PatchedMachine$Program")
  | 5 => some (.object "PatchedMachine$Frame")
  | 6 => some (.array .int)
  | _ => none
def am_tyc : Nat → Option Nat
  | 2 => some 0
  | 3 => some 1
  | 4 => some 2
  | 5 => some 7
  | _ => none
def am_sa (h : am_H) (i : Nat) (x : Int32) (j : Nat) : Option am_H :=
  match h.1[i]?, h.1[j]? with
  | some (.inl (t, n, some rs)), some (.inr q) => if am_out x n ∨ ¬ am_tyc t = some q.1 then none else some (h.1.set i (.inl (t, n, some (rs.set x.toNatClampNeg (some j)))), h.2)
  | _, _ => none
def am_len : Instr → Nat
  | .bipush _ => 2 | .sipush _ => 3
  | .iload _ => 2 | .istore _ => 2 | .aload _ => 2 | .astore _ => 2 | .newarray _ => 2
  | .iinc _ _ => 3 | .getfield _ => 3 | .putfield _ => 3 | .new _ => 3 | .anewarray _ => 3
  | .goto _ => 3 | .ifCond _ _ => 3 | .if_icmp _ _ => 3
  | .invokevirtual _ => 3 | .invokespecial _ => 3 | .invokestatic _ => 3
  | .multianewarray _ _ => 4
  | .tableswitch _ _ _ _ => 0 | .lookupswitch _ _ => 0
  | _ => 1
/-- a store; what lies beyond the known ones is forgotten -/
def am_lst (v : Value) : Nat → List Value → List Value
  | 0, l => v :: l.tail
  | i + 1, l => match l with
    | x :: r => x :: am_lst v i r
    | [] => []
def am_b2 (f : Int32 → Int32 → Int32) (ls st : List Value) : Option (List Value × List Value) :=
  match st with
  | .int y :: .int x :: r => some (ls, .int (f x y) :: r)
  | _ => none
def am_ildF (ls st : List Value) (k : Nat) : Option (List Value × List Value) :=
  match ls[k]? with
  | some (.int x) => some (ls, .int x :: st)
  | _ => none
def am_aldF (ls st : List Value) (k : Nat) : Option (List Value × List Value) :=
  match ls[k]? with
  | some (.ref x) => some (ls, .ref x :: st)
  | some (.retAddr x) => some (ls, .retAddr x :: st)
  | _ => none
def am_istF (ls st : List Value) (k : Nat) : Option (List Value × List Value) :=
  match st with
  | .int x :: r => some (am_lst (.int x) k ls, r)
  | _ => none
def am_astF (ls st : List Value) (k : Nat) : Option (List Value × List Value) :=
  match st with
  | .ref x :: r => some (am_lst (.ref x) k ls, r)
  | _ => none
def am_incF (ls st : List Value) (k : Nat) (n : Int) : Option (List Value × List Value) :=
  match ls[k]? with
  | some (.int x) => some (am_lst (.int (x + Int32.ofInt n)) k ls, st)
  | _ => none
def am_remF (ls st : List Value) : Option (List Value × List Value) :=
  match st with
  | .int y :: .int x :: r => if y = 0 then none else some (ls, .int (x - x / y * y) :: r)
  | _ => none
def am_c1 (v : Value) : Bool := match v with
  | .int _ => true
  | .ref _ => true
  | .retAddr _ => true
  | .null => true
  | _ => false
def am_dupF (ls st : List Value) : Option (List Value × List Value) :=
  match st with
  | a :: r => if am_c1 a then some (ls, a :: a :: r) else none
  | _ => none
def am_popF (ls st : List Value) : Option (List Value × List Value) :=
  match st with
  | a :: r => if am_c1 a then some (ls, r) else none
  | _ => none
def am_dx1F (ls st : List Value) : Option (List Value × List Value) :=
  match st with
  | a :: b :: r => if am_c1 a && am_c1 b then some (ls, a :: b :: a :: r) else none
  | _ => none
def am_dx2F (ls st : List Value) : Option (List Value × List Value) :=
  match st with
  | a :: b :: d :: r => if am_c1 a && am_c1 b && am_c1 d then some (ls, a :: b :: d :: a :: r) else none
  | _ => none
def am_d2F (ls st : List Value) : Option (List Value × List Value) :=
  match st with
  | a :: b :: r => if am_c1 a && am_c1 b then some (ls, a :: b :: a :: b :: r) else none
  | _ => none
/-- what is on the stack -/
def am_P (i : Instr) (ls st : List Value) : Option (List Value × List Value) :=
  match i with
  | .iconst n => some (ls, .int (Int32.ofInt n) :: st)
  | .bipush n => some (ls, .int (Int8.ofInt n).toInt32 :: st)
  | .sipush n => some (ls, .int (Int16.ofInt n).toInt32 :: st)
  | .iload_n k => am_ildF ls st k
  | .iload k => am_ildF ls st k
  | .aload_n k => am_aldF ls st k
  | .aload k => am_aldF ls st k
  | .istore_n k => am_istF ls st k
  | .istore k => am_istF ls st k
  | .astore_n k => am_astF ls st k
  | .astore k => am_astF ls st k
  | .iinc k n => am_incF ls st k n
  | .iadd => am_b2 (fun x y => x + y) ls st
  | .isub => am_b2 (fun x y => x - y) ls st
  | .imul => am_b2 (fun x y => x * y) ls st
  | .iand => am_b2 (fun x y => x &&& y) ls st
  | .ior => am_b2 (fun x y => x ||| y) ls st
  | .ixor => am_b2 (fun x y => x ^^^ y) ls st
  | .ishl => am_b2 (fun x y => x <<< (y &&& 31)) ls st
  | .ishr => am_b2 (fun x y => x >>> (y &&& 31)) ls st
  | .irem => am_remF ls st
  | .dup => am_dupF ls st
  | .pop => am_popF ls st
  | .dup_x1 => am_dx1F ls st
  | .dup_x2 => am_dx2F ls st
  | .dup2 => am_d2F ls st
  | _ => none
abbrev am_jmp (pc : Nat) (off : Int) : Nat := ((pc : Int) + off).toNat
def am_if (c : Jvm.ClassFile.Cond) (x y : Int32) (a b : Nat) : Nat := match c with
  | .eq => if x = y then a else b
  | .ne => if ¬ x = y then a else b
  | .lt => if x < y then a else b
  | .ge => if y ≤ x then a else b
  | .gt => if y < x then a else b
  | .le => if x ≤ y then a else b
def am_tsw (pc : Nat) (d lo hi : Int) (offs : Array Int) (x : Int32) : Nat := if x.toInt < lo ∨ hi < x.toInt then am_jmp pc d else am_jmp pc ((offs[(x.toInt - lo).toNat]?).getD 0)
def am_lsw (pc : Nat) (d : Int) (ps : Array (Int × Int)) (x : Int32) : Nat := am_jmp pc (Op.lookupswitch.offset ps.toList d x.toInt)
/-- jumps -/
def am_J (i : Instr) (pc : Nat) (st : List Value) : Option (Nat × List Value) :=
  match i with
  | .goto off => some (am_jmp pc off, st)
  | .ifCond c off => (match st with
    | .int x :: r => some (am_if c x 0 (am_jmp pc off) (pc + 3), r)
    | _ => none)
  | .if_icmp c off => (match st with
    | .int y :: .int x :: r => some (am_if c x y (am_jmp pc off) (pc + 3), r)
    | _ => none)
  | .tableswitch d lo hi offs => (match st with
    | .int x :: r => some (am_tsw pc d lo hi offs x, r)
    | _ => none)
  | .lookupswitch d ps => (match st with
    | .int x :: r => some (am_lsw pc d ps x, r)
    | _ => none)
  | _ => none
def am_gfF (M : am_M) (x : Nat) (st : List Value) (h : am_H) : Option (List Value × am_H) :=
  match am_fld M x, st with
  | some q, .ref i :: r => (match am_gf h i q.1 q.2.1 with
    | some v => some (v :: r, h)
    | none => none)
  | _, _ => none
def am_pfF (M : am_M) (x : Nat) (st : List Value) (h : am_H) : Option (List Value × am_H) :=
  match am_fld M x, st with
  | some q, v :: .ref i :: r => (match am_pf h i q.1 q.2.1 q.2.2 v with
    | some h' => some (r, h')
    | none => none)
  | _, _ => none
def am_sld (M : am_M) (x : Int32) : Option Int32 :=
  match am_scr M with
  | some q => if am_out x q.1 then none else some (q.2 x.toNatClampNeg)
  | none => none
def am_ldF (M : am_M) (t : Nat) (st : List Value) (h : am_H) : Option (List Value × am_H) :=
  match st with
  | .int x :: .ref i :: r => (match am_ld h t i x with
    | some v => some (.int v :: r, h)
    | none => none)
  | .int x :: .retAddr _ :: r => if t = 0 then (match am_sld M x with
    | some v => some (.int v :: r, h)
    | none => none) else none
  | _ => none
def am_sdF (t : Nat) (st : List Value) (h : am_H) : Option (List Value × am_H) :=
  match st with
  | .int v :: .int x :: .ref i :: r => (match am_sd h t i x v with
    | some h' => some (r, h')
    | none => none)
  | _ => none
def am_laF (st : List Value) (h : am_H) : Option (List Value × am_H) :=
  match st with
  | .int x :: .ref i :: r => (match am_la h i x with
    | some j => some (.ref j :: r, h)
    | none => none)
  | _ => none
def am_saF (st : List Value) (h : am_H) : Option (List Value × am_H) :=
  match st with
  | .ref j :: .int x :: .ref i :: r => (match am_sa h i x j with
    | some h' => some (r, h')
    | none => none)
  | _ => none
def am_alF (M : am_M) (st : List Value) (h : am_H) : Option (List Value × am_H) :=
  match am_scr M, st with
  | some q, .retAddr _ :: r => some (.int (Int32.ofNat q.1) :: r, h)
  | _, _ => none
def am_mkI (t : Nat) (st : List Value) (h : am_H) : Option (List Value × am_H) :=
  match st with
  | .int n :: r => if am_out n 1000 then none else some (.ref h.1.length :: r, (h.1 ++ [.inl (t, n.toNatClampNeg, none)], h.2))
  | _ => none
def am_mkA (M : am_M) (x : Nat) (st : List Value) (h : am_H) : Option (List Value × am_H) :=
  match am_arr M x, st with
  | some t, .int n :: r => if am_out n 1000 then none else some (.ref h.1.length :: r, (h.1 ++ [.inl (t, n.toNatClampNeg, some (List.replicate n.toNatClampNeg none))], h.2))
  | _, _ => none
def am_mkG (M : am_M) (x : Nat) (st : List Value) (h : am_H) : Option (List Value × am_H) :=
  match am_arr M x, st with
  | some t, .int k :: .int n :: r => if am_out n 1000 ∨ am_out k 1000 then none else
    some (.ref h.1.length :: r, (h.1 ++ ([.inl (t, n.toNatClampNeg, some ((List.range n.toNatClampNeg).map fun i => some (h.1.length + 1 + i)))] ++ List.replicate n.toNatClampNeg (.inl (0, k.toNatClampNeg, none))), h.2))
  | _, _ => none
def am_mkO (M : am_M) (x : Nat) (st : List Value) (h : am_H) : Option (List Value × am_H) :=
  match am_new M x with
  | some q => some (.ref h.1.length :: st, (h.1 ++ [.inr q], h.2))
  | none => none
/-- the cells -/
def am_X (M : am_M) (i : Instr) (st : List Value) (h : am_H) : Option (List Value × am_H) :=
  match i with
  | .getfield x => am_gfF M x st h
  | .putfield x => am_pfF M x st h
  | .iaload => am_ldF M 0 st h
  | .baload => am_ldF M 1 st h
  | .iastore => am_sdF 0 st h
  | .bastore => am_sdF 1 st h
  | .aaload => am_laF st h
  | .aastore => am_saF st h
  | .arraylength => am_alF M st h
  | .newarray .int => am_mkI 0 st h
  | .newarray .boolean => am_mkI 1 st h
  | .anewarray x => am_mkA M x st h
  | .multianewarray x k => if k = 2 then am_mkG M x st h else none
  | .new x => am_mkO M x st h
  | _ => none
/-- is the receiver of this kind? -/
def am_rc (h : am_H) (as : List Value) : Option Nat → Bool
  | none => true
  | some ci => match as with
    | .ref a :: _ => (match h.1[a]? with
      | some (.inr q) => q.1 == ci
      | _ => false)
    | _ => false
def am_callF (M : am_M) (N x : Nat) (st : List Value) (h : am_H) : Option (List Value × am_H) :=
  match am_cal M x with
  | some q => if (st.length < q.1 ∨ 8 < st.length - q.1) ∨ am_rc h (st.take q.1).reverse q.2.1 = false then none else (match q.2.2 N (st.take q.1).reverse h with
    | some z => some (z.1.toList ++ st.drop q.1, z.2)
    | none => none)
  | none => none
/-- calls -/
def am_Y (M : am_M) (N : Nat) (i : Instr) (st : List Value) (h : am_H) : Option (List Value × am_H) :=
  match i with
  | .invokevirtual x => am_callF M N x st h
  | .invokespecial x => am_callF M N x st h
  | .invokestatic x => am_callF M N x st h
  | _ => none
/-- returns -/
def am_R (M : am_M) (i : Instr) (st : List Value) : Option (Option Value) :=
  match i with
  | .ireturn => (match st with
    | [.int x] => if am_ret M = 0 ∨ am_ret M = 1 ∧ (x = 0 ∨ x = 1) then some (some (.int x)) else none
    | _ => none)
  | .areturn => (match st with
    | [.ref x] => if am_ret M = 3 then some (some (.ref x)) else none
    | _ => none)
  | .return_ => (match st with
    | [] => if am_ret M = 2 then some none else none
    | _ => none)
  | _ => none
def am_stp (M : am_M) (N : Nat) (i : Instr) (pc : Nat) (ls st : List Value) (h : am_H) : Option (Nat × List Value × List Value × am_H) :=
  match am_P i ls st with
  | some q => some (pc + am_len i, q.1, q.2, h)
  | none => match am_J i pc st with
    | some q => some (q.1, ls, q.2, h)
    | none => match am_X M i st h with
      | some q => some (pc + am_len i, ls, q.1, q.2)
      | none => match am_Y M N i st h with
        | some q => some (pc + 3, ls, q.1, q.2)
        | none => none
def am_run (M : am_M) (N : Nat) : Nat → Nat → List Value → List Value → am_H → Option (Option Value × am_H)
  | 0, _, _, _, _ => none
  | n + 1, pc, ls, st, h => match am_code M pc with
    | none => none
    | some i => match am_R M i st with
      | some r => some (r, h)
      | none => match am_stp M N i pc ls st h with
        | none => none
        | some q => am_run M N n q.1 q.2.1 q.2.2.1 q.2.2.2
