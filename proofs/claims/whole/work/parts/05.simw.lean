/-! The small machine's cells as the kit's world. -/
def am_fo (al : Nat → Nat) (x : Int32) : Option (Option Nat) → Value
  | none => .int x
  | some none => .null
  | some (some j) => .ref (al j)
def am_fv (al : Nat → Nat) (s : am_S) (i : Nat) (fl : List (Option (Option Nat))) : List Value := fl.mapIdx (fun k o => am_fo al (s i k) o)
def am_rf (al : Nat → Nat) (rs : List (Option Nat)) : Nat → Option Nat := fun j => ((rs[j]?).join).map al
def am_ex (cy : Nat → ClassId) (al : Nat → Nat) (s : am_S) (i : Nat) : am_D → va_E
  | .inl (t, n, none) => .inl (cy t, n, .inl (s i))
  | .inl (t, n, some rs) => .inl (cy t, n, .inr (.inr (.inr (.inr (am_rf al rs)))))
  | .inr (c, fl) => .inr (c, am_fv al s i fl)
def am_wl (cy : Nat → ClassId) (al : Nat → Nat) (h : am_H) : va_W := h.1.mapIdx (fun i d => (al i, am_ex cy al h.2 i d))
def am_dw (n : Nat) : am_D → Prop
  | .inl (t, k, some rs) => rs.length = k ∧ (∀ (j r : Nat), rs[j]? = some (some r) → r < n) ∧ ∃ ty, am_ty t = some ty ∧ ty.isReference = true
  | .inl (_, _, none) => True
  | .inr (_, fl) => ∀ (k j : Nat), fl[k]? = some (some (some j)) → j < n
def am_sz : am_D → Nat
  | .inl (_, k, _) => k
  | .inr (_, fl) => fl.length
def am_slt (tp : List am_D) : Nat := (tp.map am_sz).sum
theorem am_dw_up {n n' : Nat} (hn : n ≤ n') : ∀ {d : am_D}, am_dw n d → am_dw n' d
  | .inl (_, _, some _), h => ⟨h.1, fun j r e => Nat.lt_of_lt_of_le (h.2.1 j r e) hn, h.2.2⟩
  | .inl (_, _, none), _ => trivial
  | .inr (_, _), h => fun k j e => Nat.lt_of_lt_of_le (h k j e) hn
theorem am_wl_at {cy : Nat → ClassId} {al : Nat → Nat} {h : am_H} {i : Nat} {d : am_D} (hd : h.1[i]? = some d) : (am_wl cy al h)[i]? = some (al i, am_ex cy al h.2 i d) := by
  unfold am_wl
  rw [List.getElem?_mapIdx, hd]
  rfl
theorem am_wl_len {cy : Nat → ClassId} {al : Nat → Nat} {h : am_H} : (am_wl cy al h).length = h.1.length := by simp [am_wl]
theorem am_wl_mem {cy : Nat → ClassId} {al : Nat → Nat} {h : am_H} {i : Nat} {q : Nat × va_E} (hq : (am_wl cy al h)[i]? = some q) : ∃ d, h.1[i]? = some d ∧ q = (al i, am_ex cy al h.2 i d) := by
  unfold am_wl at hq
  rw [List.getElem?_mapIdx] at hq
  cases hd : h.1[i]? with
  | none => rw [hd] at hq; cases hq
  | some d => rw [hd] at hq; exact ⟨d, rfl, (Option.some.inj hq).symm⟩
theorem am_ex_eq {cy : Nat → ClassId} {al al' : Nat → Nat} {s s' : am_S} {i n : Nat} (hs : s' i = s i) (ha : ∀ j, j < n → al' j = al j) : ∀ {d : am_D}, am_dw n d → am_ex cy al' s' i d = am_ex cy al s i d
  | .inl (t, k, none), _ => by simp only [am_ex, hs]
  | .inl (t, k, some rs), h => by
    have e : am_rf al' rs = am_rf al rs := by
      funext j
      unfold am_rf
      cases hj : rs[j]? with
      | none => rfl
      | some o => cases o with
        | none => rfl
        | some r => exact congrArg some (ha r (h.2.1 j r hj))
    simp only [am_ex, e]
  | .inr (c, fl), h => by
    have e : am_fv al' s' i fl = am_fv al s i fl := by
      unfold am_fv
      apply List.ext_getElem?
      intro k
      rw [List.getElem?_mapIdx, List.getElem?_mapIdx]
      cases hk : fl[k]? with
      | none => rfl
      | some o => cases o with
        | none => simp [am_fo, hs]
        | some o => cases o with
          | none => rfl
          | some j => simp [am_fo, ha j (h k j hk)]
    simp only [am_ex, e]
theorem am_wl_set {cy : Nat → ClassId} {al : Nat → Nat} {h h' : am_H} {i : Nat} {d : am_D} {x : va_E} (hd : h.1[i]? = some d) (h1 : ∀ j : Nat, j ≠ i → h'.1[j]? = h.1[j]?) (h2 : ∀ j : Nat, j ≠ i → h'.2 j = h.2 j) {d' : am_D} (hd' : h'.1[i]? = some d') (hx : am_ex cy al h'.2 i d' = x) (hw : ∀ (j : Nat) (d : am_D), h.1[j]? = some d → am_dw h.1.length d) : am_wl cy al h' = (am_wl cy al h).set i (al i, x) := by
  apply List.ext_getElem?
  intro j
  rw [List.getElem?_set]
  by_cases hj : i = j
  · subst hj
    have hl : i < (am_wl cy al h).length := by rw [am_wl_len]; exact (List.getElem?_eq_some_iff.mp hd).1
    rw [if_pos rfl, if_pos hl, am_wl_at hd', hx]
  · rw [if_neg hj]
    unfold am_wl
    rw [List.getElem?_mapIdx, List.getElem?_mapIdx, h1 j (Ne.symm hj)]
    cases hd2 : h.1[j]? with
    | none => rfl
    | some d2 => exact congrArg some (by show (al j, am_ex cy al h'.2 j d2) = (al j, am_ex cy al h.2 j d2); rw [am_ex_eq (h2 j (Ne.symm hj)) (fun _ _ => rfl) (hw j d2 hd2)])
theorem am_fv_at {al : Nat → Nat} {s : am_S} {i k : Nat} {fl : List (Option (Option Nat))} {o : Option (Option Nat)} (hk : fl[k]? = some o) : (am_fv al s i fl)[k]? = some (am_fo al (s i k) o) := by
  unfold am_fv
  rw [List.getElem?_mapIdx, hk]
  rfl
theorem am_fv_wr {al : Nat → Nat} {s : am_S} {i k : Nat} {v : Int32} {fl : List (Option (Option Nat))} (hk : fl[k]? = some none) : am_fv al (am_wr s i k v) i fl = (am_fv al s i fl).set k (.int v) := by
  apply List.ext_getElem?
  intro j
  rw [List.getElem?_set]
  have hl : k < (am_fv al s i fl).length := by simp only [am_fv, List.length_mapIdx]; exact (List.getElem?_eq_some_iff.mp hk).1
  by_cases hj : k = j
  · subst hj
    rw [if_pos rfl, if_pos hl, am_fv_at hk, am_wr_self]
    rfl
  · rw [if_neg hj]
    unfold am_fv
    rw [List.getElem?_mapIdx, List.getElem?_mapIdx, am_wr_col s (Ne.symm hj)]
theorem am_fv_set {al : Nat → Nat} {s : am_S} {i k j : Nat} {fl : List (Option (Option Nat))} {o : Option (Option Nat)} (hk : fl[k]? = some o) : am_fv al s i (fl.set k (some (some j))) = (am_fv al s i fl).set k (.ref (al j)) := by
  apply List.ext_getElem?
  intro q
  rw [List.getElem?_set]
  have hl0 : k < fl.length := (List.getElem?_eq_some_iff.mp hk).1
  have hl : k < (am_fv al s i fl).length := by simp only [am_fv, List.length_mapIdx]; exact hl0
  unfold am_fv at hl ⊢
  rw [List.getElem?_mapIdx, List.getElem?_mapIdx, List.getElem?_set]
  by_cases hj : k = q
  · subst hj
    rw [if_pos rfl, if_pos hl0, if_pos rfl, if_pos hl]
    rfl
  · rw [if_neg hj, if_neg hj]
theorem am_rf_set {al : Nat → Nat} {rs : List (Option Nat)} {k j : Nat} (hk : k < rs.length) : am_rf al (rs.set k (some j)) = va_up (am_rf al rs) k (some (al j)) := by
  funext q
  unfold am_rf va_up
  rw [List.getElem?_set]
  by_cases hq : q = k
  · subst hq
    rw [if_pos rfl, if_pos hk, if_pos rfl]
    rfl
  · rw [if_neg (Ne.symm hq), if_neg hq]
/-- what holds between a state of the small machine and one of the kit's -/
def am_I (A : Nat → Prop) (D : va_G) (cl : List vw_C) (cy : Nat → ClassId) (H0 : Heap) (al : Nat → Nat) (h : am_H) (H : Heap) (locs : List Loc) : Prop :=
  va_P D cl (am_wl cy al h) H ∧ va_D A (am_wl cy al h) ∧ va_S A H0 H locs ∧ (∀ (i : Nat) (d : am_D), h.1[i]? = some d → am_dw h.1.length d) ∧ ∀ i k : Nat, h.1.length ≤ i → h.2 i k = 0
section AMW
variable {p : Program} {l : Launch} {e : Env} {R : Room} {s : State} {m : MethodId} {args : Array Value} {below : List Frame} {meth : Method} {c : Code} {H : Heap} {locs : List Loc} {cells slots : Nat} {Q : State → Prop}
variable {cc : ByteArray} {pc : Nat} {lk : Array Slot} {ls st rest : List Value} {al : Nat → Nat} {sb nL : Nat} {A : Nat → Prop} {D : va_G} {cl : List vw_C} {cy : Nat → ClassId} {tys : List (ClassId × FieldType)} {h h' : am_H}
theorem am_sim_ld {t a : Nat} {x v : Int32} (hx : p.tables.exec = Jvm.exec) (hb : c.code = cc) (hK : va_K D cl tys s) (hty : ∀ t ty, am_ty t = some ty → tys[t]? = some (cy t, ty)) (hI : am_I A D cl cy s.heap al h H locs) (he : am_ld h t a x = some v)
    (hdg : t = 0 ∧ am_ty 0 = some .int ∧ decode cc pc = .ok (.iaload, 1) ∨ t = 1 ∧ am_ty 1 = some .boolean ∧ decode cc pc = .ok (.baload, 1))
    (kk : W p l e R s m args below meth c H locs cells slots Q (F0 m (pc + 1) lk (.int v :: rest))) : W p l e R s m args below meth c H locs cells slots Q (F0 m pc lk (.int x :: .ref (al a) :: rest)) := by
  unfold am_ld at he
  split at he
  · rename_i t' n hd
    split at he
    · rename_i hc
      obtain ⟨rfl, hin⟩ := hc
      cases he
      have ha := am_wl_at (cy := cy) (al := al) hd
      rcases hdg with ⟨rfl, h1, h2⟩ | ⟨rfl, h1, h2⟩
      · exact va_iald hx hb hK hI.1 a 0 ha (hty 0 _ h1) hin h2 kk
      · exact va_zald hx hb hK hI.1 a 1 ha (hty 1 _ h1) hin h2 kk
    · cases he
  · cases he
theorem am_one_nar {v : Int32} (h : v = 0 ∨ v = 1) : v &&& 1 = v := by rcases h with rfl | rfl <;> decide
theorem am_I_wr {i k : Nat} {d : am_D} {x : va_E} {v : Int32} {H1 : Heap} {locs1 : List Loc} (hI : am_I A D cl cy s.heap al h H locs) (hd : h.1[i]? = some d) (hx : am_ex cy al (am_wr h.2 i k v) i d = x)
    (hP : va_P D cl ((am_wl cy al h).set i (al i, x)) H1) (hD : va_D A ((am_wl cy al h).set i (al i, x))) (hS : va_S A s.heap H1 locs1) : am_I A D cl cy s.heap al (h.1, am_wr h.2 i k v) H1 locs1 := by
  obtain ⟨-, -, -, hw, hz⟩ := hI
  have e := am_wl_set (h' := (h.1, am_wr h.2 i k v)) (cy := cy) (al := al) hd (fun _ _ => rfl) (fun j hj => am_wr_row h.2 hj) hd hx hw
  refine ⟨by rw [e]; exact hP, by rw [e]; exact hD, hS, hw, fun j q hj => ?_⟩
  have hl := (List.getElem?_eq_some_iff.mp hd).1
  show am_wr h.2 i k v j q = 0
  rw [am_wr_row h.2 (by have : h.1.length ≤ j := hj; omega)]
  exact hz j q hj
theorem am_sim_sd {t a : Nat} {x v : Int32} (hx : p.tables.exec = Jvm.exec) (hb : c.code = cc) (hK : va_K D cl tys s) (hty : ∀ t ty, am_ty t = some ty → tys[t]? = some (cy t, ty)) (hI : am_I A D cl cy s.heap al h H locs) (he : am_sd h t a x v = some h')
    (hdg : t = 0 ∧ am_ty 0 = some .int ∧ decode cc pc = .ok (.iastore, 1) ∨ t = 1 ∧ am_ty 1 = some .boolean ∧ decode cc pc = .ok (.bastore, 1))
    (kk : ∀ (H1 : Heap) (locs1 : List Loc), am_I A D cl cy s.heap al h' H1 locs1 → h'.1 = h.1 → W p l e R s m args below meth c H1 locs1 cells slots Q (F0 m (pc + 1) lk rest)) : W p l e R s m args below meth c H locs cells slots Q (F0 m pc lk (.int v :: .int x :: .ref (al a) :: rest)) := by
  unfold am_sd at he
  split at he
  · rename_i t' n hd
    split at he
    · rename_i hc
      obtain ⟨rfl, hin, hv⟩ := hc
      cases he
      have ha := am_wl_at (cy := cy) (al := al) hd
      rcases hdg with ⟨rfl, h1, h2⟩ | ⟨rfl, h1, h2⟩
      · exact va_iast hx hb hK hI.1 hI.2.1 hI.2.2.1 a 0 ha (hty 0 _ h1) hin h2 (fun H1 locs1 hP hD hS => kk H1 locs1 (am_I_wr hI hd (by simp only [am_ex, am_wr_upd]) hP hD hS) rfl)
      · have hn : vp_nar .boolean v = v := by
          show v &&& 1 = v
          exact am_one_nar (by rcases hv with h | h; cases h; exact h)
        refine va_zast hx hb hK hI.1 hI.2.1 hI.2.2.1 a 1 ha (hty 1 _ h1) hin h2 (fun H1 locs1 hP hD hS => ?_)
        rw [hn] at hP hD
        exact kk H1 locs1 (am_I_wr hI hd (by simp only [am_ex, am_wr_upd]) hP hD hS) rfl
    · cases he
  · cases he
theorem am_sim_la {a j : Nat} {x : Int32} (hx : p.tables.exec = Jvm.exec) (hb : c.code = cc) (hK : va_K D cl tys s) (hty : ∀ t ty, am_ty t = some ty → tys[t]? = some (cy t, ty)) (hI : am_I A D cl cy s.heap al h H locs) (he : am_la h a x = some j) (hdg : decode cc pc = .ok (.aaload, 1))
    (kk : j < h.1.length → W p l e R s m args below meth c H locs cells slots Q (F0 m (pc + 1) lk (.ref (al j) :: rest))) : W p l e R s m args below meth c H locs cells slots Q (F0 m pc lk (.int x :: .ref (al a) :: rest)) := by
  unfold am_la at he
  split at he
  · rename_i t n rs hd
    split at he
    · cases he
    · rename_i hin
      have ha := am_wl_at (cy := cy) (al := al) hd
      have hin : vp_in x n := hin
      obtain ⟨w1, w2, ty, w3, w4⟩ := hI.2.2.2.1 a _ hd
      have hlt : x.toNatClampNeg < n := Nat.not_le.mp fun q => hin (Or.inr q)
      have hj : rs[x.toNatClampNeg]? = some (some j) := by
        cases hq : rs[x.toNatClampNeg]? with
        | none => rw [hq] at he; cases he
        | some o => rw [hq] at he; exact congrArg some he
      have hf : am_rf al rs x.toNatClampNeg = some (al j) := by
        unfold am_rf
        rw [hj]
        rfl
      exact W.aald (v := .ref (al j)) (ty := ty) hx hb (hI.1 a _ ha) ((hK.2 t _ (hty t ty w3)).1 n (fun q => va_rf (am_rf al rs q))) w4 (fun q => by cases q) (by show ¬ (x < 0 ∨ (arrV _ _ _).slots.size ≤ _); rw [arrV_size]; exact hin) (by show (arrV _ _ _).slots[_]? = _; rw [arrV_read _ _ hlt, hf]; rfl) rfl rfl hdg (kk (w2 _ _ hj))
  · cases he
end AMW
