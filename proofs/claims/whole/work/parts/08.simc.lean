/-! Calls, and a whole run. -/
def am_grow (f : am_F) : Prop := ∀ (N : Nat) (as : List Value) (h : am_H) (r : Option Value) (h' : am_H), f N as h = some (r, h') → h.1.length ≤ h'.1.length ∧ am_slt h.1 ≤ am_slt h'.1
/-- a method of the kit's machine does what the function says -/
def am_Sd (l : Launch) (cl : List vw_C) (y : MethodName) (ws : List Cond) (fr lo : Nat) (f : am_F) : Prop :=
  ∀ (D : va_G) (cy : Nat → ClassId) (tys : List (ClassId × FieldType)) (N : Nat) (as : List Value) (h h' : am_H) (r : Option Value) (al : Nat → Nat) (sb z : Nat), (∀ t ty, am_ty t = some ty → tys[t]? = some (cy t, ty)) → f N as h = some (r, h') → (∀ v ∈ as, am_vw h.1.length v) → (∀ (i : Nat) (d : am_D), h.1[i]? = some d → am_dw h.1.length d) → (∀ i k : Nat, h.1.length ≤ i → h.2 i k = 0) →
    Met l y ws { frames := fr, cells := h'.1.length - h.1.length, slots := am_slt h'.1 - am_slt h.1, locals := lo } (am_Pre D cl cy tys al sb as h z) (am_Q D cl cy al sb h h' r z) (h'.1.length - h.1.length) (am_slt h'.1 - am_slt h.1) (va_A (am_wl cy al h) z)
section AMC
variable {p : Program} {l : Launch} {e : Env} {R : Room} {s : State} {m : MethodId} {args : Array Value} {below : List Frame} {meth : Method} {c : Code}
variable {cc : ByteArray} {pc nL n0 s0 sb : Nat} {A : Nat → Prop} {D : va_G} {cl : List vw_C} {cy : Nat → ClassId} {tys : List (ClassId × FieldType)} {Ts : List Cond} {own : String}
/-- a call's step -/
def am_cOK (p : Program) (l : Launch) (e : Env) (R : Room) (s : State) (m : MethodId) (args : Array Value) (below : List Frame) (meth : Method) (c : Code) (A : Nat → Prop) (D : va_G) (cl : List vw_C) (cy : Nat → ClassId) (sb nL n0 s0 pc na : Nat) (rc : Option Nat) (f : am_F) : Prop :=
  ∀ (N : Nat) (as rest : List Value) (h h' : am_H) (r : Option Value) (al : Nat → Nat) (H : Heap) (locs : List Loc) (lk : Array Slot) (Q : State → Prop), f N as h = some (r, h') → as.length = na → am_rc h as rc = true → rest.length ≤ 8 → am_I A D cl cy s.heap al h H locs → (∀ v ∈ as, am_vw h.1.length v) → (∀ v ∈ rest, am_vw h.1.length v) → lk.size = nL → n0 ≤ h.1.length → s0 ≤ am_slt h.1 → h.1.length ≤ h'.1.length → am_slt h.1 ≤ am_slt h'.1 → h'.1.length ≤ n0 + R.cells → am_slt h'.1 ≤ s0 + R.slots →
    (∀ (al' : Nat → Nat) (H1 : Heap) (locs1 : List Loc), (∀ i, i < h.1.length → al' i = al i) → am_I A D cl cy s.heap al' h' H1 locs1 → (∀ v, r = some v → am_vw h'.1.length v) → W p l e R s m args below meth c H1 locs1 (h'.1.length - n0) (am_slt h'.1 - s0) Q (F0 m (pc + 3) lk ((r.toList ++ rest).map (am_rn al' sb)))) →
    W p l e R s m args below meth c H locs (h.1.length - n0) (am_slt h.1 - s0) Q (F0 m pc lk ((as.reverse ++ rest).map (am_rn al sb)))
theorem am_blind {al : Nat → Nat} {as : List Value} {h : am_H} {z : Nat} : FrameBlind (am_Pre D cl cy tys al sb as h z) := by
  intro a U g mk q
  obtain ⟨q0, q1, qP, qK, qD, qN⟩ := q
  exact ⟨q0, q1, qP, va_K.moved (u := U) (U := U.calling g mk a) (Vm.Alike.refl U.vm) qK, qD, am_NW_same (u := U) (U := U.calling g mk a) rfl qN⟩
theorem am_pre {al : Nat → Nat} {as : List Value} {h : am_H} {H : Heap} {locs : List Loc} (hK : va_K D cl tys s) (hN : am_NW s) (hI : am_I A D cl cy s.heap al h H locs) : PreS s H (am_Pre D cl cy tys al sb as h H.size) (as.map (am_rn al sb)) :=
  ⟨am_blind, fun U hU hW => ⟨rfl, by rw [hU], by rw [hU]; exact hI.1, va_K.moved hW.alike hK, hI.2.1.weaken (fun _ _ _ _ => trivial), am_NW_warm hW hN⟩⟩
theorem am_lenw {n : Nat} {al : Nat → Nat} {vs : List Value} (h : ∀ v ∈ vs, am_vw n v) : ((vs.map (am_rn al sb)).map fun v => v.category).sum = vs.length := by
  induction vs with
  | nil => rfl
  | cons a vs ih =>
    have h1 := List.forall_mem_cons.mp h
    simp only [List.map_cons, List.sum_cons, List.length_cons, am_vw_cat al sb h1.1, ih h1.2]
    omega
theorem am_rc_some {h : am_H} {as : List Value} {ci : Nat} (hr : am_rc h as (some ci) = true) : ∃ a as' fl, as = .ref a :: as' ∧ h.1[a]? = some (.inr (ci, fl)) := by
  unfold am_rc at hr
  cases as with
  | nil => cases hr
  | cons v as' =>
    cases v with
    | ref a =>
      dsimp only at hr
      cases hd : h.1[a]? with
      | none => rw [hd] at hr; cases hr
      | some d =>
        cases d with
        | inl z => rw [hd] at hr; cases hr
        | inr q =>
          rw [hd] at hr
          obtain ⟨c0, fl⟩ := q
          have : c0 = ci := beq_iff_eq.mp hr
          subst this
          exact ⟨a, as', fl, rfl, hd⟩
    | _ => cases hr
theorem am_rev {al : Nat → Nat} (as rest : List Value) : (as.reverse ++ rest).map (am_rn al sb) = (as.map (am_rn al sb)).reverse ++ rest.map (am_rn al sb) := by simp
theorem am_cV {x ci fr lo maxL na : Nat} {C : String} {T : u_T} {Nf : Nat} {y : MethodName} {bytes : ByteArray} {ret : Option FieldType} {ws : List Cond} {f : am_F} (S : CallFix p m c cc nL s args Ts own) (hK : va_K D cl tys s) (hN : am_NW s) (hty : ∀ t ty, am_ty t = some ty → tys[t]? = some (cy t, ty)) (hA : ∀ q, s.heap.size ≤ q → A q) (hSd : am_Sd l cl y ws fr lo f) (hci : cl[ci]? = some (C, T, Nf))
    (cw : ∀ mc ms, CallW R s args own C x y bytes maxL ret ws { frames := fr, cells := mc, slots := ms, locals := lo } mc ms na) (hdg : decode cc pc = .ok (.invokevirtual x, 3)) : am_cOK p l e R s m args below meth c A D cl cy sb nL n0 s0 pc (na + 1) (some ci) f := by
  intro N as rest h h' r al H locs lk Q hf hn hrc h8 hI hva hvr hlk hn0 hs0 hg1 hg2 hc1 hc2 kk
  obtain ⟨a, as', fl, rfl, hd⟩ := am_rc_some hrc
  have hM := hSd D cy tys N _ h h' r al sb H.size hty hf hva hI.2.2.2.1 hI.2.2.2.2
  have hp : PreV s H C (al a) (am_Pre D cl cy tys al sb (.ref a :: as') h H.size) (as'.map (am_rn al sb)) := ⟨am_blind, va_recv hK hI.1 hci (am_wl_at hd), (am_pre hK hN hI).2⟩
  rw [am_rev]
  refine am_callQ (mc := h'.1.length - h.1.length) (ms := am_slt h'.1 - am_slt h.1) (va_runV S hM (cw _ _) hp rfl (by simpa using hn) hlk (by simp [am_rn]) (lv_room (by rw [am_lenw hvr]; exact h8)) hdg ⟨by omega, by omega⟩) hI hA hvr (fun al' H1 locs1 e1 e2 e3 => ?_)
  exact W.cs (by omega) (by omega) (kk al' H1 locs1 e1 e2 e3)
theorem am_cVN {x ci fr lo maxL na : Nat} {C host : String} {T : u_T} {Nf : Nat} {y : MethodName} {bytes : ByteArray} {ret : Option FieldType} {ws : List Cond} {f : am_F} (S : CallFix p m c cc nL s args Ts own) (hK : va_K D cl tys s) (hN : am_NW s) (hty : ∀ t ty, am_ty t = some ty → tys[t]? = some (cy t, ty)) (hA : ∀ q, s.heap.size ≤ q → A q) (hSd : am_Sd l cl y ws fr lo f) (hci : cl[ci]? = some (C, T, Nf))
    (cw : ∀ mc ms, va_CN R s args own x y host bytes maxL ret ws { frames := fr, cells := mc, slots := ms, locals := lo } mc ms na ∧ (Cond.instanceMethod y).before args s = true ∧ (Cond.selects C y y).before args s = true) (hdg : decode cc pc = .ok (.invokevirtual x, 3)) : am_cOK p l e R s m args below meth c A D cl cy sb nL n0 s0 pc (na + 1) (some ci) f := by
  intro N as rest h h' r al H locs lk Q hf hn hrc h8 hI hva hvr hlk hn0 hs0 hg1 hg2 hc1 hc2 kk
  obtain ⟨a, as', fl, rfl, hd⟩ := am_rc_some hrc
  have hM := hSd D cy tys N _ h h' r al sb H.size hty hf hva hI.2.2.2.1 hI.2.2.2.2
  have hp : PreV s H C (al a) (am_Pre D cl cy tys al sb (.ref a :: as') h H.size) (as'.map (am_rn al sb)) := ⟨am_blind, va_recv hK hI.1 hci (am_wl_at hd), (am_pre hK hN hI).2⟩
  rw [am_rev]
  refine am_callQ (mc := h'.1.length - h.1.length) (ms := am_slt h'.1 - am_slt h.1) (va_runVN S hM (cw _ _) hp rfl (by simpa using hn) hlk (by simp [am_rn]) (lv_room (by rw [am_lenw hvr]; exact h8)) hdg ⟨by omega, by omega⟩) hI hA hvr (fun al' H1 locs1 e1 e2 e3 => ?_)
  exact W.cs (by omega) (by omega) (kk al' H1 locs1 e1 e2 e3)
theorem am_cS {x fr lo maxL na : Nat} {y : MethodName} {bytes : ByteArray} {ret : Option FieldType} {ws : List Cond} {f : am_F} (S : CallFix p m c cc nL s args Ts own) (hK : va_K D cl tys s) (hN : am_NW s) (hty : ∀ t ty, am_ty t = some ty → tys[t]? = some (cy t, ty)) (hA : ∀ q, s.heap.size ≤ q → A q) (hSd : am_Sd l cl y ws fr lo f)
    (cw : ∀ mc ms, CallB R s args own x y bytes maxL ret ws { frames := fr, cells := mc, slots := ms, locals := lo } mc ms na ∧ (Cond.static y).before args s = true) (hdg : decode cc pc = .ok (.invokestatic x, 3)) : am_cOK p l e R s m args below meth c A D cl cy sb nL n0 s0 pc na none f := by
  intro N as rest h h' r al H locs lk Q hf hn hrc h8 hI hva hvr hlk hn0 hs0 hg1 hg2 hc1 hc2 kk
  have hM := hSd D cy tys N _ h h' r al sb H.size hty hf hva hI.2.2.2.1 hI.2.2.2.2
  rw [am_rev]
  refine am_callQ (mc := h'.1.length - h.1.length) (ms := am_slt h'.1 - am_slt h.1) (va_runS S hM (cw _ _) (am_pre hK hN hI) rfl (by simpa using hn) hlk rfl (lv_room (by rw [am_lenw hvr]; exact h8)) hdg ⟨by omega, by omega⟩) hI hA hvr (fun al' H1 locs1 e1 e2 e3 => ?_)
  exact W.cs (by omega) (by omega) (kk al' H1 locs1 e1 e2 e3)
theorem am_cSN {x fr lo maxL na : Nat} {host : String} {y : MethodName} {bytes : ByteArray} {ret : Option FieldType} {ws : List Cond} {f : am_F} (S : CallFix p m c cc nL s args Ts own) (hK : va_K D cl tys s) (hN : am_NW s) (hty : ∀ t ty, am_ty t = some ty → tys[t]? = some (cy t, ty)) (hA : ∀ q, s.heap.size ≤ q → A q) (hSd : am_Sd l cl y ws fr lo f)
    (cw : ∀ mc ms, va_CN R s args own x y host bytes maxL ret ws { frames := fr, cells := mc, slots := ms, locals := lo } mc ms na ∧ (Cond.static y).before args s = true ∧ True) (hdg : decode cc pc = .ok (.invokestatic x, 3)) : am_cOK p l e R s m args below meth c A D cl cy sb nL n0 s0 pc na none f := by
  intro N as rest h h' r al H locs lk Q hf hn hrc h8 hI hva hvr hlk hn0 hs0 hg1 hg2 hc1 hc2 kk
  have hM := hSd D cy tys N _ h h' r al sb H.size hty hf hva hI.2.2.2.1 hI.2.2.2.2
  rw [am_rev]
  refine am_callQ (mc := h'.1.length - h.1.length) (ms := am_slt h'.1 - am_slt h.1) (va_runSN S hM (cw _ _) (am_pre hK hN hI) rfl (by simpa using hn) hlk rfl (lv_room (by rw [am_lenw hvr]; exact h8)) hdg ⟨by omega, by omega⟩) hI hA hvr (fun al' H1 locs1 e1 e2 e3 => ?_)
  exact W.cs (by omega) (by omega) (kk al' H1 locs1 e1 e2 e3)
theorem am_ref1 {h : am_H} {as : List Value} {na ci : Nat} (hn : as.length = na + 1) (hr : am_rc h as (some ci) = true) : ∃ a as', as = .ref a :: as' ∧ as'.length = na := by
  obtain ⟨a, as', fl, rfl, -⟩ := am_rc_some hr
  exact ⟨a, as', rfl, by simpa using hn⟩
theorem am_cI {x ci fr lo maxL na : Nat} {y : MethodName} {bytes : ByteArray} {ws : List Cond} {f : am_F} (S : CallFix p m c cc nL s args Ts own) (hK : va_K D cl tys s) (hN : am_NW s) (hty : ∀ t ty, am_ty t = some ty → tys[t]? = some (cy t, ty)) (hA : ∀ q, s.heap.size ≤ q → A q) (hSd : am_Sd l cl y ws fr lo f)
    (cw : ∀ mc ms, CallB R s args own x y bytes maxL none ws { frames := fr, cells := mc, slots := ms, locals := lo } mc ms na ∧ y.name = "<init>" ∧ (Cond.instanceMethod y).before args s = true) (hdg : decode cc pc = .ok (.invokespecial x, 3)) : am_cOK p l e R s m args below meth c A D cl cy sb nL n0 s0 pc (na + 1) (some ci) f := by
  intro N as rest h h' r al H locs lk Q hf hn hrc h8 hI hva hvr hlk hn0 hs0 hg1 hg2 hc1 hc2 kk
  obtain ⟨a, as', rfl, hn'⟩ := am_ref1 hn hrc
  have hM := hSd D cy tys N _ h h' r al sb H.size hty hf hva hI.2.2.2.1 hI.2.2.2.2
  rw [am_rev]
  refine am_callQ (mc := h'.1.length - h.1.length) (ms := am_slt h'.1 - am_slt h.1) (va_runI (b := al a) (As := as'.map (am_rn al sb)) S hM (cw _ _) (am_pre hK hN hI) rfl (by simpa using hn') hlk (by simp [am_rn]) (lv_room (by rw [am_lenw hvr]; exact h8)) hdg ⟨by omega, by omega⟩) hI hA hvr (fun al' H1 locs1 e1 e2 e3 => ?_)
  exact W.cs (by omega) (by omega) (kk al' H1 locs1 e1 e2 e3)
theorem am_cIN {x ci fr lo maxL na : Nat} {host : String} {y : MethodName} {bytes : ByteArray} {ws : List Cond} {f : am_F} (S : CallFix p m c cc nL s args Ts own) (hK : va_K D cl tys s) (hN : am_NW s) (hty : ∀ t ty, am_ty t = some ty → tys[t]? = some (cy t, ty)) (hA : ∀ q, s.heap.size ≤ q → A q) (hSd : am_Sd l cl y ws fr lo f)
    (cw : ∀ mc ms, va_CN R s args own x y host bytes maxL none ws { frames := fr, cells := mc, slots := ms, locals := lo } mc ms na ∧ y.name = "<init>" ∧ (Cond.instanceMethod y).before args s = true) (hdg : decode cc pc = .ok (.invokespecial x, 3)) : am_cOK p l e R s m args below meth c A D cl cy sb nL n0 s0 pc (na + 1) (some ci) f := by
  intro N as rest h h' r al H locs lk Q hf hn hrc h8 hI hva hvr hlk hn0 hs0 hg1 hg2 hc1 hc2 kk
  obtain ⟨a, as', rfl, hn'⟩ := am_ref1 hn hrc
  have hM := hSd D cy tys N _ h h' r al sb H.size hty hf hva hI.2.2.2.1 hI.2.2.2.2
  rw [am_rev]
  refine am_callQ (mc := h'.1.length - h.1.length) (ms := am_slt h'.1 - am_slt h.1) (va_runIN (b := al a) (As := as'.map (am_rn al sb)) S hM (cw _ _) (am_pre hK hN hI) rfl (by simpa using hn') hlk (by simp [am_rn]) (lv_room (by rw [am_lenw hvr]; exact h8)) hdg ⟨by omega, by omega⟩) hI hA hvr (fun al' H1 locs1 e1 e2 e3 => ?_)
  exact W.cs (by omega) (by omega) (kk al' H1 locs1 e1 e2 e3)
end AMC
