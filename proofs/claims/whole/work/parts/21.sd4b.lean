theorem am_methF {l : Launch} {y : MethodName} {cl : List vw_C} {cc : ByteArray} {nL fr lo na : Nat} {ret : Option FieldType} {M : am_M} (hy : plainFor y = true) (hret : am_ret M = 0 ∧ ret = some .int ∨ am_ret M = 1 ∧ ret = some .boolean ∨ am_ret M = 2 ∧ ret = none ∨ am_ret M = 3 ∧ ∃ C, ret = some (.object C)) (hsc : am_scr M = none) (hna : na ≤ nL)
    (htc : ∀ t ci, am_tyc t = some ci → ∃ r : vw_C, cl[ci]? = some r ∧ am_ty t = some (.object r.1)) (hG : ∀ x q, am_cal M x = some q → am_grow q.2.2) (hV : am_Ctx l y cl cc nL fr lo M) : am_Sd l cl y (am_ws y cc nL ret) fr lo (am_mf M na) := by
  intro D cy tys N as h h' r al sb z hty he hva hwf hze
  unfold am_mf at he
  split at he
  · rename_i hn
    refine va_MetF (cc := cc) (maxL := nL) (ret := ret) hy rfl ?_
    intro p e s m args below meth c s₁ B hml hv
    obtain ⟨rfl, hsz, hP, hK, hD0, hN⟩ := hv
    have hx := B.exec
    have hb := B.bytes
    have hr := B.returns
    have hts := am_all (fun w hw => atoms_spec (ws := am_ws y cc nL ret) B.pre w (List.mem_cons_of_mem _ hw)) hN
    have hown : s.vm.findClass y.cls = some m.cls := findClass_of_methodNamed B.named
    have hlocks := B.notSynchronized
    have hnm : meth.name = y.name := (name_of_methodNamed B.named B.method).1
    subst hsz
    have hA : ∀ q : Nat, s.heap.size ≤ q → va_A (am_wl cy al h) s.heap.size q := fun q h => Or.inr h
    have hI : am_I (va_A (am_wl cy al h) s.heap.size) D cl cy s.heap al h s.heap [] := ⟨hP, hD0.self, va_S.rf, hwf, hze⟩
    have gr := am_run_grow hG N 0 as [] h r h' he
    rw [lg_entry_eq]
    refine W.cs (Nat.sub_self h.1.length).symm (Nat.sub_self (am_slt h.1)).symm ?_
    refine am_sim (M := M) (N := N) (rE := r) (hE := h') (al0 := al) (n0 := h.1.length) (s0 := am_slt h.1) (sb := sb) hx hb hts hown hK hty htc hA (fun q hq => by rw [hsc] at hq; cases hq) (hV p e _ s m _ below meth c _ D cy tys sb _ _ ⟨hx, hb, hml, hown, hts⟩ hN hnm hK hty hA rfl rfl) hG (by show h'.1.length ≤ h.1.length + (h'.1.length - h.1.length); omega) (by show am_slt h'.1 ≤ am_slt h.1 + (am_slt h'.1 - am_slt h.1); omega) ?_ N 0 as [] h al s.heap [] _ he hI (am_entry hva (by omega)) (fun v hv => by cases hv) (Nat.le_refl _) (Nat.le_refl _) (fun _ _ => rfl)
    intro pc i st al' H locs lk hc hd hR hI' hs hab
    have fin : ∀ (t : State), t.heap = H → (∀ v, r = some v → am_vw h'.1.length v) → am_Q D cl cy al sb h h' r s.heap.size ((as.map (am_rn al sb)).toArray) s (.returned (r.map (am_rn al' sb))) t := fun t ht hvw =>
      ⟨⟨al', hab, rfl, hvw, by rw [ht]; exact hI'.1, hI'.2.1, hI'.2.2.2.1, hI'.2.2.2.2⟩, hI'.2.2.1.F ht⟩
    cases i with
    | ireturn =>
      obtain ⟨x, rfl, hq, rfl⟩ := am_R_i hR
      rcases hret with ⟨h1, h2⟩ | ⟨h1, h2⟩ | ⟨h1, -⟩ | ⟨h1, -⟩
      · exact W.iret hx hb (hr.trans h2) (fun t ht _ => fin t ht (fun v hv => by cases hv; trivial)) hI'.2.2.1.2.2 hd
      · have hq : x = 0 ∨ x = 1 := by
          rcases hq with hq | hq
          · rw [h1] at hq; cases hq
          · exact hq.2
        exact W.zret hx hb (hr.trans h2) (by show Value.int (x &&& 1) = _; rw [am_one_nar hq]) (fun t ht _ => fin t ht (fun v hv => by cases hv; trivial)) hI'.2.2.1.2.2 hd
      · rcases hq with hq | hq
        · rw [h1] at hq; cases hq
        · rw [h1] at hq; cases hq.1
      · rcases hq with hq | hq
        · rw [h1] at hq; cases hq
        · rw [h1] at hq; cases hq.1
    | areturn =>
      obtain ⟨x, rfl, hq, rfl⟩ := am_R_a hR
      rcases hret with ⟨h1, -⟩ | ⟨h1, -⟩ | ⟨h1, -⟩ | ⟨h1, C, h2⟩
      · rw [h1] at hq; cases hq
      · rw [h1] at hq; cases hq
      · rw [h1] at hq; cases hq
      · exact W.aret hx hb (hr.trans h2) (Or.inl ⟨C, rfl⟩) (Or.inr ⟨_, rfl⟩) (fun t ht _ => fin t ht (fun v hv => by cases hv; exact hs _ List.mem_cons_self)) hI'.2.2.1.2.2 hd
    | return_ =>
      obtain ⟨rfl, hq, rfl⟩ := am_R_v hR
      rcases hret with ⟨h1, -⟩ | ⟨h1, -⟩ | ⟨h1, h2⟩ | ⟨h1, -⟩
      · rw [h1] at hq; cases hq
      · rw [h1] at hq; cases hq
      · exact W.vret hx hb (hr.trans h2) (fun t ht _ => fin t ht (fun v hv => by cases hv)) hI'.2.2.1.2.2 hd
      · rw [h1] at hq; cases hq
    | _ => cases hR
  · cases he
