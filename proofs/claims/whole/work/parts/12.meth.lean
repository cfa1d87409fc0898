/-! A method's contract out of its run. -/
theorem am_args_mem : ∀ (vs : List Value) (j : Nat), (∀ v ∈ vs, v.category = 1) → ∀ (k : Nat) (v : Value), vs[k]? = some v → (j + k, v) ∈ lv_args j vs
  | [], _, _, k, v, h => by cases h
  | a :: vs, j, hc, k, v, h => by
    have h1 := List.forall_mem_cons.mp hc
    have e : lv_args j (a :: vs) = (j, a) :: lv_args (j + 1) vs := by
      simp [lv_args, h1.1]
    rw [e]
    cases k with
    | zero =>
      have h : some a = some v := h
      cases h
      exact List.mem_cons_self
    | succ k =>
      have := am_args_mem vs (j + 1) h1.2 k v h
      rw [show j + (k + 1) = j + 1 + k by omega]
      exact List.mem_cons_of_mem _ this
theorem am_sl_len : ∀ (vs : List Value), (∀ v ∈ vs, v.category = 1) → (lg_sl vs).length = vs.length
  | [], _ => rfl
  | a :: vs, h => by
    have h1 := List.forall_mem_cons.mp h
    have := am_sl_len vs h1.2
    simp [lg_sl, h1.1] at this ⊢
    omega
theorem am_entry {al : Nat → Nat} {sb n nL : Nat} {as : List Value} (hv : ∀ v ∈ as, am_vw n v) (hn : as.length ≤ nL) : am_L al sb n nL as ((lg_sl (as.map (am_rn al sb)) ++ List.replicate (nL - (lg_sl (as.map (am_rn al sb))).length) Slot.unset).toArray) := by
  have hc : ∀ v ∈ as.map (am_rn al sb), v.category = 1 := fun v h => by
    obtain ⟨w, hw, rfl⟩ := List.mem_map.mp h
    exact am_vw_cat al sb (hv w hw)
  have hl := lv_entry (as.map (am_rn al sb)) (n := nL) (by rw [am_sl_len _ hc, List.length_map]; exact hn)
  refine ⟨hl.1, hl.2.1, fun k v hk => ⟨?_, hv v (List.mem_of_getElem? hk)⟩⟩
  have := am_args_mem (as.map (am_rn al sb)) 0 hc k (am_rn al sb v) (by rw [List.getElem?_map, hk]; rfl)
  rw [Nat.zero_add] at this
  exact hl.2.2 _ this
theorem am_R_i {M : am_M} {st : List Value} {r : Option Value} (h : am_R M .ireturn st = some r) : ∃ x, st = [.int x] ∧ (am_ret M = 0 ∨ am_ret M = 1 ∧ (x = 0 ∨ x = 1)) ∧ r = some (.int x) := by
  unfold am_R at h
  dsimp only at h
  split at h
  · split at h
    · rename_i hq
      cases h
      exact ⟨_, rfl, hq, rfl⟩
    · cases h
  · cases h
theorem am_R_a {M : am_M} {st : List Value} {r : Option Value} (h : am_R M .areturn st = some r) : ∃ x, st = [.ref x] ∧ am_ret M = 3 ∧ r = some (.ref x) := by
  unfold am_R at h
  dsimp only at h
  split at h
  · split at h
    · rename_i hq
      cases h
      exact ⟨_, rfl, hq, rfl⟩
    · cases h
  · cases h
theorem am_R_v {M : am_M} {st : List Value} {r : Option Value} (h : am_R M .return_ st = some r) : st = [] ∧ am_ret M = 2 ∧ r = none := by
  unfold am_R at h
  dsimp only at h
  split at h
  · split at h
    · rename_i hq
      cases h
      exact ⟨rfl, hq, rfl⟩
    · cases h
  · cases h
/-- a method's function, with the number of its arguments -/
def am_mf (M : am_M) (na : Nat) : am_F := fun N as h => if as.length = na then am_run M N N 0 as [] h else none
theorem am_mf_mono {M : am_M} {na : Nat} (hM : am_ok M) : am_mono (am_mf M na) := by
  intro N N' as h x hN e
  unfold am_mf at e ⊢
  split at e
  · rename_i h1
    rw [if_pos h1]
    exact am_run_mono hM N N' N N' 0 as [] h x hN hN e
  · cases e
theorem am_mf_grow {M : am_M} {na : Nat} (hG : ∀ x q, am_cal M x = some q → am_grow q.2.2) : am_grow (am_mf M na) := by
  intro N as h r h' e
  unfold am_mf at e
  split at e
  · exact am_run_grow hG N 0 as [] h r h' e
  · cases e
theorem am_mf_C {M : am_M} {na : Nat} {as : List Value} {h : am_H} {Q : Option Value → am_H → Prop} (hn : as.length = na) : am_C (am_mf M na) as h Q ↔ am_W M 0 as [] h Q := by
  unfold am_C am_W am_mf
  simp only [if_pos hn]
abbrev am_ws (y : MethodName) (cc : ByteArray) (nL : Nat) (ret : Option FieldType) : List Jvm.Cond := .code y cc nL ret :: am_gt
/-- what a method's validity rests on -/
def am_Ctx (l : Launch) (y : MethodName) (cl : List vw_C) (cc : ByteArray) (nL fr lo : Nat) (M : am_M) : Prop :=
  ∀ (p : Program) (e : Env) (R : Room) (s : State) (m : MethodId) (args : Array Value) (below : List Frame) (meth : Method) (c : Code) (A : Nat → Prop) (D : va_G) (cy : Nat → ClassId) (tys : List (ClassId × FieldType)) (sb n0 s0 : Nat),
    CallFix p m c cc nL s args am_tb y.cls → am_NW s → meth.name = y.name → va_K D cl tys s → (∀ t ty, am_ty t = some ty → tys[t]? = some (cy t, ty)) → (∀ q, s.heap.size ≤ q → A q) → R.frames = fr → R.locals = lo →
    ∀ pc i, am_code M pc = some i → am_V p l e R s m args below meth c cc am_tb y.cls A D cl cy sb nL n0 s0 M pc i
theorem am_meth {l : Launch} {y : MethodName} {cl : List vw_C} {cc : ByteArray} {nL fr lo na : Nat} {ret : Option FieldType} {M : am_M} (hy : plainName y.cls = true) (hret : am_ret M = 0 ∧ ret = some .int ∨ am_ret M = 1 ∧ ret = some .boolean ∨ am_ret M = 2 ∧ ret = none ∨ am_ret M = 3 ∧ ∃ C, ret = some (.object C)) (hsc : am_scr M = none) (hna : na ≤ nL)
    (htc : ∀ t ci, am_tyc t = some ci → ∃ r : vw_C, cl[ci]? = some r ∧ am_ty t = some (.object r.1)) (hG : ∀ x q, am_cal M x = some q → am_grow q.2.2) (hV : am_Ctx l y cl cc nL fr lo M) : am_Sd l cl y (am_ws y cc nL ret) fr lo (am_mf M na) := by
  intro D cy tys N as h h' r al sb z hty he hva hwf hze
  unfold am_mf at he
  split at he
  · rename_i hn
    refine Met.ofW (cc := cc) (maxL := nL) (ret := ret) hy rfl ?_
    intro p e s m args below meth c s₁ B hml hv
    obtain ⟨rfl, hsz, hP, hK, hD0, hN⟩ := hv
    have hx := B.exec
    have hb := B.bytes
    have hr := B.returns
    have hts := am_all (fun w hw => atoms_spec (ws := am_ws y cc nL ret) B.pre w (List.mem_cons_of_mem _ hw)) hN
    have hown : s.vm.findClass y.cls = some m.cls := findClass_of_methodNamed B.named
    have hlocks := B.notSynchronized
    have hnm : meth.name = y.name := (name_of_methodNamed B.named B.method).1
    subst hsz
    have hA : ∀ q : Nat, s.heap.size ≤ q → va_A (am_wl cy al h) s.heap.size q := fun q h => Or.inr h
    have hI : am_I (va_A (am_wl cy al h) s.heap.size) D cl cy s.heap al h s.heap [] := ⟨hP, hD0.self, va_S.rf, hwf, hze⟩
    have gr := am_run_grow hG N 0 as [] h r h' he
    rw [lg_entry_eq]
    refine W.cs (Nat.sub_self h.1.length).symm (Nat.sub_self (am_slt h.1)).symm ?_
    refine am_sim (M := M) (N := N) (rE := r) (hE := h') (al0 := al) (n0 := h.1.length) (s0 := am_slt h.1) (sb := sb) hx hb hts hown hK hty htc hA (fun q hq => by rw [hsc] at hq; cases hq) (hV p e _ s m _ below meth c _ D cy tys sb _ _ ⟨hx, hb, hml, hown, hts⟩ hN hnm hK hty hA rfl rfl) hG (by show h'.1.length ≤ h.1.length + (h'.1.length - h.1.length); omega) (by show am_slt h'.1 ≤ am_slt h.1 + (am_slt h'.1 - am_slt h.1); omega) ?_ N 0 as [] h al s.heap [] _ he hI (am_entry hva (by omega)) (fun v hv => by cases hv) (Nat.le_refl _) (Nat.le_refl _) (fun _ _ => rfl)
    intro pc i st al' H locs lk hc hd hR hI' hs hab
    have fin : ∀ (t : State), t.heap = H → (∀ v, r = some v → am_vw h'.1.length v) → am_Q D cl cy al sb h h' r s.heap.size ((as.map (am_rn al sb)).toArray) s (.returned (r.map (am_rn al' sb))) t := fun t ht hvw =>
      ⟨⟨al', hab, rfl, hvw, by rw [ht]; exact hI'.1, hI'.2.1, hI'.2.2.2.1, hI'.2.2.2.2⟩, hI'.2.2.1.F ht⟩
    cases i with
    | ireturn =>
      obtain ⟨x, rfl, hq, rfl⟩ := am_R_i hR
      rcases hret with ⟨h1, h2⟩ | ⟨h1, h2⟩ | ⟨h1, -⟩ | ⟨h1, -⟩
      · exact W.iret hx hb (hr.trans h2) (fun t ht _ => fin t ht (fun v hv => by cases hv; trivial)) hI'.2.2.1.2.2 hd
      · have hq : x = 0 ∨ x = 1 := by
          rcases hq with hq | hq
          · rw [h1] at hq; cases hq
          · exact hq.2
        exact W.zret hx hb (hr.trans h2) (by show Value.int (x &&& 1) = _; rw [am_one_nar hq]) (fun t ht _ => fin t ht (fun v hv => by cases hv; trivial)) hI'.2.2.1.2.2 hd
      · rcases hq with hq | hq
        · rw [h1] at hq; cases hq
        · rw [h1] at hq; cases hq.1
      · rcases hq with hq | hq
        · rw [h1] at hq; cases hq
        · rw [h1] at hq; cases hq.1
    | areturn =>
      obtain ⟨x, rfl, hq, rfl⟩ := am_R_a hR
      rcases hret with ⟨h1, -⟩ | ⟨h1, -⟩ | ⟨h1, -⟩ | ⟨h1, C, h2⟩
      · rw [h1] at hq; cases hq
      · rw [h1] at hq; cases hq
      · rw [h1] at hq; cases hq
      · exact W.aret hx hb (hr.trans h2) (Or.inl ⟨C, rfl⟩) (Or.inr ⟨_, rfl⟩) (fun t ht _ => fin t ht (fun v hv => by cases hv; exact hs _ List.mem_cons_self)) hI'.2.2.1.2.2 hd
    | return_ =>
      obtain ⟨rfl, hq, rfl⟩ := am_R_v hR
      rcases hret with ⟨h1, -⟩ | ⟨h1, -⟩ | ⟨h1, h2⟩ | ⟨h1, -⟩
      · rw [h1] at hq; cases hq
      · rw [h1] at hq; cases hq
      · exact W.vret hx hb (hr.trans h2) (fun t ht _ => fin t ht (fun v hv => by cases hv)) hI'.2.2.1.2.2 hd
      · rw [h1] at hq; cases hq
    | _ => cases hR
  · cases he
