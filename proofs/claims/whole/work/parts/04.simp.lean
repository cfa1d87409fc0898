/-! The small machine against the kit's machine, first half: stack, jumps. -/
def am_rn (al : Nat → Nat) (sb : Nat) : Value → Value
  | .ref i => .ref (al i)
  | .retAddr _ => .ref sb
  | v => v
def am_vw (n : Nat) : Value → Prop
  | .ref j => j < n
  | .int _ => True
  | .null => True
  | .retAddr _ => True
  | _ => False
theorem am_vw_cat {n : Nat} {v : Value} (al : Nat → Nat) (sb : Nat) (h : am_vw n v) : (am_rn al sb v).category = 1 := by
  cases v <;> first | rfl | exact False.elim h
theorem am_vw_up {n n' : Nat} {v : Value} (hn : n ≤ n') (h : am_vw n v) : am_vw n' v := by
  cases v <;> first | exact h | exact Nat.lt_of_lt_of_le h hn
theorem am_rn_eq {al al' : Nat → Nat} {sb n : Nat} {v : Value} (h : am_vw n v) (ha : ∀ i, i < n → al' i = al i) : am_rn al' sb v = am_rn al sb v := by
  cases v <;> first | rfl | exact congrArg Value.ref (ha _ h)
theorem am_rn_map {al al' : Nat → Nat} {sb n : Nat} {vs : List Value} (h : ∀ v ∈ vs, am_vw n v) (ha : ∀ i, i < n → al' i = al i) : vs.map (am_rn al' sb) = vs.map (am_rn al sb) :=
  List.map_congr_left fun v hv => am_rn_eq (h v hv) ha
def am_L (al : Nat → Nat) (sb n nL : Nat) (ls : List Value) (lk : Array Slot) : Prop := lk.size = nL ∧ lv_wf lk ∧ ∀ (k : Nat) (v : Value), ls[k]? = some v → lk[k]? = some (.val (am_rn al sb v)) ∧ am_vw n v
def am_prs (al : Nat → Nat) (sb : Nat) (ls : List Value) : List (Nat × Value) := ls.mapIdx (fun k v => (k, am_rn al sb v))
theorem am_prs_mem {al : Nat → Nat} {sb : Nat} {ls : List Value} {q : Nat × Value} : q ∈ am_prs al sb ls ↔ ∃ (k : Nat) (v : Value), ls[k]? = some v ∧ q = (k, am_rn al sb v) := by
  unfold am_prs
  rw [List.mem_mapIdx]
  constructor
  · rintro ⟨i, hi, rfl⟩
    exact ⟨i, ls[i], List.getElem?_eq_getElem hi, rfl⟩
  · rintro ⟨k, v, hk, rfl⟩
    obtain ⟨hi, e⟩ := List.getElem?_eq_some_iff.mp hk
    exact ⟨k, hi, by rw [e]⟩
theorem am_L_has {al : Nat → Nat} {sb n nL : Nat} {ls : List Value} {lk : Array Slot} (hL : am_L al sb n nL ls lk) : lv_has lk nL (am_prs al sb ls) :=
  ⟨hL.1, hL.2.1, fun q hq => by
    obtain ⟨k, v, hk, rfl⟩ := am_prs_mem.mp hq
    exact (hL.2.2 k v hk).1⟩
theorem am_L_up {al al' : Nat → Nat} {sb n n' nL : Nat} {ls : List Value} {lk : Array Slot} (hL : am_L al sb n nL ls lk) (hn : n ≤ n') (ha : ∀ i, i < n → al' i = al i) : am_L al' sb n' nL ls lk :=
  ⟨hL.1, hL.2.1, fun k v hk => ⟨by rw [am_rn_eq (hL.2.2 k v hk).2 ha]; exact (hL.2.2 k v hk).1, am_vw_up hn (hL.2.2 k v hk).2⟩⟩
theorem am_lst_get (v w : Value) : ∀ (i : Nat) (ls : List Value) (k : Nat), (am_lst v i ls)[k]? = some w → (k = i ∧ w = v) ∨ (k ≠ i ∧ ls[k]? = some w)
  | 0, l, k, h => by
    cases k with
    | zero =>
      have h : some v = some w := h
      exact Or.inl ⟨rfl, (Option.some.inj h).symm⟩
    | succ k =>
      have h : l.tail[k]? = some w := h
      refine Or.inr ⟨by omega, ?_⟩
      cases l with
      | nil => cases h
      | cons a l => exact h
  | i + 1, [], k, h => by cases h
  | i + 1, x :: r, k, h => by
    cases k with
    | zero => exact Or.inr ⟨by omega, h⟩
    | succ k =>
      rcases am_lst_get v w i r k h with ⟨h1, h2⟩ | ⟨h1, h2⟩
      · exact Or.inl ⟨by omega, h2⟩
      · exact Or.inr ⟨by omega, h2⟩
theorem am_L_store {al : Nat → Nat} {sb n nL i : Nat} {v : Value} {ls : List Value} {lk lk' : Array Slot} (hL : am_L al sb n nL ls lk) (hv : am_vw n v)
    (h : lv_has lk' nL ((i, am_rn al sb v) :: (am_prs al sb ls).filter (fun q => !(q.1 == i) && !(q.1 + 1 == i && q.2.category == 2)))) : am_L al sb n nL (am_lst v i ls) lk' := by
  refine ⟨h.1, h.2.1, fun k w hk => ?_⟩
  rcases am_lst_get _ _ _ _ _ hk with ⟨rfl, rfl⟩ | ⟨hne, hk⟩
  · exact ⟨h.2.2 _ List.mem_cons_self, hv⟩
  · have hw := (hL.2.2 k w hk).2
    refine ⟨h.2.2 (k, am_rn al sb w) (List.mem_cons_of_mem _ (List.mem_filter.mpr ⟨am_prs_mem.mpr ⟨k, w, hk, rfl⟩, ?_⟩)), hw⟩
    simp [hne, am_vw_cat al sb hw]
/-- bounds that a program decides -/
def am_bd (nL pc : Nat) (i : Instr) : Bool := match i with
  | .istore k => decide (k < nL)
  | .astore k => decide (k < nL)
  | .istore_n k => decide ((k : Nat) < nL)
  | .astore_n k => decide ((k : Nat) < nL)
  | .iinc k _ => decide (k < nL)
  | .goto off => decide (0 ≤ (pc : Int) + off)
  | .ifCond _ off => decide (0 ≤ (pc : Int) + off)
  | .if_icmp _ off => decide (0 ≤ (pc : Int) + off)
  | .tableswitch d lo hi offs => decide (0 ≤ (pc : Int) + d) && (decide (hi - lo + 1 = (offs.size : Int)) && offs.toList.all (fun o => decide (0 ≤ (pc : Int) + o)))
  | .lookupswitch d ps => decide (0 ≤ (pc : Int) + d) && ((ps.toList.zip (ps.toList.drop 1)).all (fun (a, next) => a.1 < next.1) && ps.toList.all (fun q => decide (0 ≤ (pc : Int) + q.2)))
  | _ => true
theorem am_b2_some {f : Int32 → Int32 → Int32} {ls st : List Value} {q : List Value × List Value} (e : am_b2 f ls st = some q) : ∃ x y r, st = .int y :: .int x :: r ∧ q = (ls, .int (f x y) :: r) := by
  unfold am_b2 at e
  split at e
  · exact ⟨_, _, _, rfl, (Option.some.inj e).symm⟩
  · cases e
theorem am_ildF_some {k : Nat} {ls st : List Value} {q : List Value × List Value} (e : am_ildF ls st k = some q) : ∃ x, ls[k]? = some (.int x) ∧ q = (ls, .int x :: st) := by
  unfold am_ildF at e
  split at e
  · rename_i x hx
    exact ⟨x, hx, (Option.some.inj e).symm⟩
  · cases e
theorem am_aldF_some {k : Nat} {ls st : List Value} {q : List Value × List Value} (e : am_aldF ls st k = some q) : ∃ v, ls[k]? = some v ∧ (∀ (al : Nat → Nat) (sb : Nat), ∃ a, am_rn al sb v = .ref a) ∧ q = (ls, v :: st) := by
  unfold am_aldF at e
  split at e
  · rename_i x hx
    exact ⟨_, hx, fun al sb => ⟨_, rfl⟩, (Option.some.inj e).symm⟩
  · rename_i x hx
    exact ⟨_, hx, fun al sb => ⟨_, rfl⟩, (Option.some.inj e).symm⟩
  · cases e
theorem am_istF_some {k : Nat} {ls st : List Value} {q : List Value × List Value} (e : am_istF ls st k = some q) : ∃ x r, st = .int x :: r ∧ q = (am_lst (.int x) k ls, r) := by
  unfold am_istF at e
  split at e
  · exact ⟨_, _, rfl, (Option.some.inj e).symm⟩
  · cases e
theorem am_astF_some {k : Nat} {ls st : List Value} {q : List Value × List Value} (e : am_astF ls st k = some q) : ∃ x r, st = .ref x :: r ∧ q = (am_lst (.ref x) k ls, r) := by
  unfold am_astF at e
  split at e
  · exact ⟨_, _, rfl, (Option.some.inj e).symm⟩
  · cases e
theorem am_incF_some {k : Nat} {n : Int} {ls st : List Value} {q : List Value × List Value} (e : am_incF ls st k n = some q) : ∃ x, ls[k]? = some (.int x) ∧ q = (am_lst (.int (x + Int32.ofInt n)) k ls, st) := by
  unfold am_incF at e
  split at e
  · rename_i x hx
    exact ⟨x, hx, (Option.some.inj e).symm⟩
  · cases e
theorem am_remF_some {ls st : List Value} {q : List Value × List Value} (e : am_remF ls st = some q) : ∃ x y r, st = .int y :: .int x :: r ∧ ¬ y = 0 ∧ q = (ls, .int (x - x / y * y) :: r) := by
  unfold am_remF at e
  split at e
  · split at e
    · cases e
    · rename_i h
      exact ⟨_, _, _, rfl, h, (Option.some.inj e).symm⟩
  · cases e
theorem am_dupF_some {ls st : List Value} {q : List Value × List Value} (e : am_dupF ls st = some q) : ∃ a r, st = a :: r ∧ q = (ls, a :: a :: r) := by
  unfold am_dupF at e
  split at e
  · split at e
    · exact ⟨_, _, rfl, (Option.some.inj e).symm⟩
    · cases e
  · cases e
theorem am_popF_some {ls st : List Value} {q : List Value × List Value} (e : am_popF ls st = some q) : ∃ a r, st = a :: r ∧ q = (ls, r) := by
  unfold am_popF at e
  split at e
  · split at e
    · exact ⟨_, _, rfl, (Option.some.inj e).symm⟩
    · cases e
  · cases e
theorem am_dx1F_some {ls st : List Value} {q : List Value × List Value} (e : am_dx1F ls st = some q) : ∃ a b r, st = a :: b :: r ∧ q = (ls, a :: b :: a :: r) := by
  unfold am_dx1F at e
  split at e
  · split at e
    · exact ⟨_, _, _, rfl, (Option.some.inj e).symm⟩
    · cases e
  · cases e
theorem am_dx2F_some {ls st : List Value} {q : List Value × List Value} (e : am_dx2F ls st = some q) : ∃ a b d r, st = a :: b :: d :: r ∧ q = (ls, a :: b :: d :: a :: r) := by
  unfold am_dx2F at e
  split at e
  · split at e
    · exact ⟨_, _, _, _, rfl, (Option.some.inj e).symm⟩
    · cases e
  · cases e
theorem am_d2F_some {ls st : List Value} {q : List Value × List Value} (e : am_d2F ls st = some q) : ∃ a b r, st = a :: b :: r ∧ q = (ls, a :: b :: a :: b :: r) := by
  unfold am_d2F at e
  split at e
  · split at e
    · exact ⟨_, _, _, rfl, (Option.some.inj e).symm⟩
    · cases e
  · cases e
theorem am_fa {P : Value → Prop} {a : Value} {l : List Value} (ha : P a) (hl : ∀ v ∈ l, P v) : ∀ v ∈ a :: l, P v := List.forall_mem_cons.mpr ⟨ha, hl⟩
section AMP
variable {p : Program} {l : Launch} {e : Env} {R : Room} {s : State} {m : MethodId} {args : Array Value} {below : List Frame} {meth : Method} {c : Code} {H : Heap} {locs : List Loc} {cells slots : Nat} {Q : State → Prop}
variable {cc : ByteArray} {pc : Nat} {lk : Array Slot} {ls ls' st st' : List Value} {al : Nat → Nat} {sb n nL : Nat} {i : Instr}
theorem am_simP (hx : p.tables.exec = Jvm.exec) (hb : c.code = cc) (hd : decode cc pc = .ok (i, am_len i)) (hbd : am_bd nL pc i = true) (he : am_P i ls st = some (ls', st')) (hL : am_L al sb n nL ls lk) (hs : ∀ v ∈ st, am_vw n v)
    (kk : ∀ lk' : Array Slot, am_L al sb n nL ls' lk' → (∀ v ∈ st', am_vw n v) → W p l e R s m args below meth c H locs cells slots Q (F0 m (pc + am_len i) lk' (st'.map (am_rn al sb)))) : W p l e R s m args below meth c H locs cells slots Q (F0 m pc lk (st.map (am_rn al sb))) := by
  cases i with
  | iconst k =>
    have he : some (ls, Value.int (Int32.ofInt k) :: st) = some (ls', st') := he
    cases he
    exact lv_iconst hx hb hd rfl (kk lk hL (am_fa trivial hs))
  | bipush k =>
    have he : some (ls, Value.int (Int8.ofInt k).toInt32 :: st) = some (ls', st') := he
    cases he
    exact lv_bipush hx hb hd rfl (kk lk hL (am_fa trivial hs))
  | sipush k =>
    have he : some (ls, Value.int (Int16.ofInt k).toInt32 :: st) = some (ls', st') := he
    cases he
    exact lv_sipush hx hb hd rfl (kk lk hL (am_fa trivial hs))
  | iload_n k =>
    obtain ⟨x, h1, h2⟩ := am_ildF_some he
    cases h2
    exact lv_iload_n hx hb hd rfl (hL.2.2 _ _ h1).1 (kk lk hL (am_fa trivial hs))
  | iload k =>
    obtain ⟨x, h1, h2⟩ := am_ildF_some he
    cases h2
    exact lv_iload hx hb hd (hL.2.2 _ _ h1).1 (kk lk hL (am_fa trivial hs))
  | aload_n k =>
    obtain ⟨v, h1, h3, h2⟩ := am_aldF_some he
    cases h2
    obtain ⟨a, ha⟩ := h3 al sb
    have h4 := hL.2.2 _ _ h1
    have kk := kk lk hL (am_fa h4.2 hs)
    rw [List.map_cons, ha] at kk
    exact lv_aload_n hx hb hd rfl (by rw [h4.1, ha]) kk
  | aload k =>
    obtain ⟨v, h1, h3, h2⟩ := am_aldF_some he
    cases h2
    obtain ⟨a, ha⟩ := h3 al sb
    have h4 := hL.2.2 _ _ h1
    have kk := kk lk hL (am_fa h4.2 hs)
    rw [List.map_cons, ha] at kk
    exact lv_aload hx hb hd (by rw [h4.1, ha]) kk
  | istore_n k =>
    obtain ⟨x, r, rfl, h2⟩ := am_istF_some he
    cases h2
    exact lv_istore_n hx hb hd rfl (am_L_has hL) (of_decide_eq_true hbd) rfl (fun lk' h => kk lk' (am_L_store hL trivial h) (List.forall_mem_cons.mp hs).2)
  | istore k =>
    obtain ⟨x, r, rfl, h2⟩ := am_istF_some he
    cases h2
    exact lv_istore hx hb hd (am_L_has hL) (of_decide_eq_true hbd) rfl (fun lk' h => kk lk' (am_L_store hL trivial h) (List.forall_mem_cons.mp hs).2)
  | astore_n k =>
    obtain ⟨x, r, rfl, h2⟩ := am_astF_some he
    cases h2
    exact lv_astore_n hx hb hd rfl (am_L_has hL) (of_decide_eq_true hbd) rfl (fun lk' h => kk lk' (am_L_store (v := .ref x) hL (List.forall_mem_cons.mp hs).1 h) (List.forall_mem_cons.mp hs).2)
  | astore k =>
    obtain ⟨x, r, rfl, h2⟩ := am_astF_some he
    cases h2
    exact lv_astore hx hb hd (am_L_has hL) (of_decide_eq_true hbd) rfl (fun lk' h => kk lk' (am_L_store (v := .ref x) hL (List.forall_mem_cons.mp hs).1 h) (List.forall_mem_cons.mp hs).2)
  | iinc k z =>
    obtain ⟨x, h1, h2⟩ := am_incF_some he
    cases h2
    have h3 : (am_prs al sb ls)[k]? = some (k, .int x) := by
      unfold am_prs
      rw [List.getElem?_mapIdx, h1]
      rfl
    exact lv_iinc hx hb hd (am_L_has hL) h3 rfl (of_decide_eq_true hbd) rfl (fun lk' h => kk lk' (am_L_store (v := .int (x + Int32.ofInt z)) hL trivial h) hs)
  | iadd =>
    obtain ⟨x, y, r, rfl, h2⟩ := am_b2_some he
    cases h2
    exact lv_iadd hx hb hd (kk lk hL (am_fa trivial (List.forall_mem_cons.mp (List.forall_mem_cons.mp hs).2).2))
  | isub =>
    obtain ⟨x, y, r, rfl, h2⟩ := am_b2_some he
    cases h2
    exact lv_isub hx hb hd (kk lk hL (am_fa trivial (List.forall_mem_cons.mp (List.forall_mem_cons.mp hs).2).2))
  | imul =>
    obtain ⟨x, y, r, rfl, h2⟩ := am_b2_some he
    cases h2
    exact lv_imul hx hb hd (kk lk hL (am_fa trivial (List.forall_mem_cons.mp (List.forall_mem_cons.mp hs).2).2))
  | iand =>
    obtain ⟨x, y, r, rfl, h2⟩ := am_b2_some he
    cases h2
    exact lv_iand hx hb hd (kk lk hL (am_fa trivial (List.forall_mem_cons.mp (List.forall_mem_cons.mp hs).2).2))
  | ior =>
    obtain ⟨x, y, r, rfl, h2⟩ := am_b2_some he
    cases h2
    exact lv_ior hx hb hd (kk lk hL (am_fa trivial (List.forall_mem_cons.mp (List.forall_mem_cons.mp hs).2).2))
  | ixor =>
    obtain ⟨x, y, r, rfl, h2⟩ := am_b2_some he
    cases h2
    exact lv_ixor hx hb hd (kk lk hL (am_fa trivial (List.forall_mem_cons.mp (List.forall_mem_cons.mp hs).2).2))
  | ishl =>
    obtain ⟨x, y, r, rfl, h2⟩ := am_b2_some he
    cases h2
    exact lv_ishl hx hb hd (kk lk hL (am_fa trivial (List.forall_mem_cons.mp (List.forall_mem_cons.mp hs).2).2))
  | ishr =>
    obtain ⟨x, y, r, rfl, h2⟩ := am_b2_some he
    cases h2
    exact lv_ishr hx hb hd (kk lk hL (am_fa trivial (List.forall_mem_cons.mp (List.forall_mem_cons.mp hs).2).2))
  | irem =>
    obtain ⟨x, y, r, rfl, h3, h2⟩ := am_remF_some he
    cases h2
    exact lv_irem hx hb hd h3 (kk lk hL (am_fa trivial (List.forall_mem_cons.mp (List.forall_mem_cons.mp hs).2).2))
  | dup =>
    obtain ⟨a, r, rfl, h2⟩ := am_dupF_some he
    cases h2
    have h1 := List.forall_mem_cons.mp hs
    exact lv_dup hx hb hd (am_vw_cat al sb h1.1) (kk lk hL (am_fa h1.1 hs))
  | pop =>
    obtain ⟨a, r, rfl, h2⟩ := am_popF_some he
    cases h2
    have h1 := List.forall_mem_cons.mp hs
    exact lv_pop hx hb hd (am_vw_cat al sb h1.1) (kk lk hL h1.2)
  | dup_x1 =>
    obtain ⟨a, b, r, rfl, h2⟩ := am_dx1F_some he
    cases h2
    have h1 := List.forall_mem_cons.mp hs
    have h3 := List.forall_mem_cons.mp h1.2
    exact lv_dup_x1 hx hb hd (am_vw_cat al sb h1.1) (am_vw_cat al sb h3.1) (kk lk hL (am_fa h1.1 (am_fa h3.1 (am_fa h1.1 h3.2))))
  | dup_x2 =>
    obtain ⟨a, b, d, r, rfl, h2⟩ := am_dx2F_some he
    cases h2
    have h1 := List.forall_mem_cons.mp hs
    have h3 := List.forall_mem_cons.mp h1.2
    have h4 := List.forall_mem_cons.mp h3.2
    exact lv_dup_x2 hx hb hd (am_vw_cat al sb h1.1) (am_vw_cat al sb h3.1) (am_vw_cat al sb h4.1) (kk lk hL (am_fa h1.1 (am_fa h3.1 (am_fa h4.1 (am_fa h1.1 h4.2)))))
  | dup2 =>
    obtain ⟨a, b, r, rfl, h2⟩ := am_d2F_some he
    cases h2
    have h1 := List.forall_mem_cons.mp hs
    have h3 := List.forall_mem_cons.mp h1.2
    exact lv_dup2_11 hx hb hd (am_vw_cat al sb h1.1) (am_vw_cat al sb h3.1) (kk lk hL (am_fa h1.1 (am_fa h3.1 hs)))
  | _ => cases he
theorem am_J1 {q : Nat × List Value} {f : Int32 → Nat} (he : (match st with
    | .int x :: r => some (f x, r)
    | _ => none) = some q) : ∃ x r, st = .int x :: r ∧ q = (f x, r) := by
  split at he
  · exact ⟨_, _, rfl, (Option.some.inj he).symm⟩
  · cases he
theorem am_J2 {q : Nat × List Value} {f : Int32 → Int32 → Nat} (he : (match st with
    | .int y :: .int x :: r => some (f x y, r)
    | _ => none) = some q) : ∃ x y r, st = .int y :: .int x :: r ∧ q = (f x y, r) := by
  split at he
  · exact ⟨_, _, _, rfl, (Option.some.inj he).symm⟩
  · cases he
theorem am_lsw_pos {pc : Nat} {d k : Int} (hd : 0 ≤ (pc : Int) + d) : ∀ (ps : List (Int × Int)), ps.all (fun q => decide (0 ≤ (pc : Int) + q.2)) = true → 0 ≤ (pc : Int) + Op.lookupswitch.offset ps d k
  | [], _ => by rw [Op.lookupswitch.offset_nil]; exact hd
  | (a, o) :: r, h => by
    rw [List.all_cons, Bool.and_eq_true] at h
    rw [Op.lookupswitch.offset_cons]
    split
    · exact of_decide_eq_true h.1
    · exact am_lsw_pos hd r h.2
theorem am_simJ {len pc' : Nat} (hx : p.tables.exec = Jvm.exec) (hb : c.code = cc) (hd : decode cc pc = .ok (i, len)) (hlen : am_len i = 0 ∨ am_len i = len) (hbd : am_bd nL pc i = true) (he : am_J i pc st = some (pc', st')) (hs : ∀ v ∈ st, am_vw n v)
    (kk : (∀ v ∈ st', am_vw n v) → W p l e R s m args below meth c H locs cells slots Q (F0 m pc' lk (st'.map (am_rn al sb)))) : W p l e R s m args below meth c H locs cells slots Q (F0 m pc lk (st.map (am_rn al sb))) := by
  cases i with
  | goto off =>
    have he : some (am_jmp pc off, st) = some (pc', st') := he
    cases he
    have h3 : 3 = len := by rcases hlen with h | h; cases h; exact h
    subst h3
    exact lv_goto hx hb hd (Int.toNat_of_nonneg (of_decide_eq_true hbd)).symm (kk hs)
  | ifCond cd off =>
    obtain ⟨x, r, rfl, h2⟩ := am_J1 he
    cases h2
    have h3 : 3 = len := by rcases hlen with h | h; cases h; exact h
    subst h3
    have ht : (pc : Int) + off = ((am_jmp pc off : Nat) : Int) := (Int.toNat_of_nonneg (of_decide_eq_true hbd)).symm
    have kk := kk (List.forall_mem_cons.mp hs).2
    cases cd with
    | eq => exact lv_if_eq hx hb hd ht (fun q => by rw [am_if, if_pos q] at kk; exact kk) (fun q => by rw [am_if, if_neg q] at kk; exact kk)
    | ne => exact lv_if_ne hx hb hd ht (fun q => by rw [am_if, if_pos q] at kk; exact kk) (fun q => by rw [am_if, if_neg (fun z => z q)] at kk; exact kk)
    | lt => exact lv_if_lt hx hb hd ht (fun q => by rw [am_if, if_pos q] at kk; exact kk) (fun q => by rw [am_if, if_neg q] at kk; exact kk)
    | ge => exact lv_if_ge hx hb hd ht (fun q => by rw [am_if, if_pos q] at kk; exact kk) (fun q => by rw [am_if, if_neg q] at kk; exact kk)
    | gt => exact lv_if_gt hx hb hd ht (fun q => by rw [am_if, if_pos q] at kk; exact kk) (fun q => by rw [am_if, if_neg q] at kk; exact kk)
    | le => exact lv_if_le hx hb hd ht (fun q => by rw [am_if, if_pos q] at kk; exact kk) (fun q => by rw [am_if, if_neg q] at kk; exact kk)
  | if_icmp cd off =>
    obtain ⟨x, y, r, rfl, h2⟩ := am_J2 he
    cases h2
    have h3 : 3 = len := by rcases hlen with h | h; cases h; exact h
    subst h3
    have ht : (pc : Int) + off = ((am_jmp pc off : Nat) : Int) := (Int.toNat_of_nonneg (of_decide_eq_true hbd)).symm
    have kk := kk (List.forall_mem_cons.mp (List.forall_mem_cons.mp hs).2).2
    cases cd with
    | eq => exact lv_icmp_eq hx hb hd ht (fun q => by rw [am_if, if_pos q] at kk; exact kk) (fun q => by rw [am_if, if_neg q] at kk; exact kk)
    | ne => exact lv_icmp_ne hx hb hd ht (fun q => by rw [am_if, if_pos q] at kk; exact kk) (fun q => by rw [am_if, if_neg (fun z => z q)] at kk; exact kk)
    | lt => exact lv_icmp_lt hx hb hd ht (fun q => by rw [am_if, if_pos q] at kk; exact kk) (fun q => by rw [am_if, if_neg q] at kk; exact kk)
    | ge => exact lv_icmp_ge hx hb hd ht (fun q => by rw [am_if, if_pos q] at kk; exact kk) (fun q => by rw [am_if, if_neg q] at kk; exact kk)
    | gt => exact lv_icmp_gt hx hb hd ht (fun q => by rw [am_if, if_pos q] at kk; exact kk) (fun q => by rw [am_if, if_neg q] at kk; exact kk)
    | le => exact lv_icmp_le hx hb hd ht (fun q => by rw [am_if, if_pos q] at kk; exact kk) (fun q => by rw [am_if, if_neg q] at kk; exact kk)
  | tableswitch d lo hi offs =>
    obtain ⟨x, r, rfl, h2⟩ := am_J1 he
    cases h2
    have kk := kk (List.forall_mem_cons.mp hs).2
    unfold am_bd at hbd
    rw [Bool.and_eq_true, Bool.and_eq_true] at hbd
    obtain ⟨b1, b2, b3⟩ := hbd
    have b1 := of_decide_eq_true b1
    have b2 := of_decide_eq_true b2
    by_cases hc : x.toInt < lo ∨ hi < x.toInt
    · rw [am_tsw, if_pos hc] at kk
      exact lv_tableOut hx hb hd hc (Int.toNat_of_nonneg b1).symm kk
    · rw [am_tsw, if_neg hc] at kk
      have hlt : (x.toInt - lo).toNat < offs.size := by omega
      have ho : offs[(x.toInt - lo).toNat]? = some offs[(x.toInt - lo).toNat] := Array.getElem?_eq_getElem hlt
      rw [ho] at kk
      have hp : 0 ≤ (pc : Int) + offs[(x.toInt - lo).toNat] := of_decide_eq_true (List.all_eq_true.mp b3 _ (by simp))
      exact lv_tableIn hx hb hd (fun q => hc (Or.inl q)) (fun q => hc (Or.inr q)) ho (Int.toNat_of_nonneg hp).symm kk
  | lookupswitch d ps =>
    obtain ⟨x, r, rfl, h2⟩ := am_J1 he
    cases h2
    have kk := kk (List.forall_mem_cons.mp hs).2
    unfold am_bd at hbd
    rw [Bool.and_eq_true, Bool.and_eq_true] at hbd
    obtain ⟨b1, b2, b3⟩ := hbd
    have b1 := of_decide_eq_true b1
    exact lv_lookup hx hb hd b2 rfl (Int.toNat_of_nonneg (am_lsw_pos b1 _ b3)).symm kk
  | _ => cases he
end AMP
