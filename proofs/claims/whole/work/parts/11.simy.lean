section AMY
variable {p : Program} {l : Launch} {e : Env} {R : Room} {s : State} {m : MethodId} {args : Array Value} {below : List Frame} {meth : Method} {c : Code}
variable {cc : ByteArray} {nL n0 s0 sb : Nat} {A : Nat → Prop} {D : va_G} {cl : List vw_C} {cy : Nat → ClassId} {tys : List (ClassId × FieldType)} {Ts : List Cond} {own : String} {M : am_M} {Q : State → Prop}
theorem am_simX {pc : Nat} {st st' : List Value} {h h' : am_H} {i : Instr} {al : Nat → Nat} {H : Heap} {locs : List Loc} {lk : Array Slot} (hx : p.tables.exec = Jvm.exec) (hb : c.code = cc) (hts : ∀ w ∈ Ts, w.before args s = true) (hown : s.vm.findClass own = some m.cls) (hK : va_K D cl tys s) (hty : ∀ t ty, am_ty t = some ty → tys[t]? = some (cy t, ty)) (htc : ∀ t ci, am_tyc t = some ci → ∃ r : vw_C, cl[ci]? = some r ∧ am_ty t = some (.object r.1)) (hA : ∀ q, s.heap.size ≤ q → A q)
    (hsc : ∀ q, am_scr M = some q → va_X sb q.1 q.2 s s.heap ∧ sb < s.heap.size ∧ ¬ A sb) (hv : am_V p l e R s m args below meth c cc Ts own A D cl cy sb nL n0 s0 M pc i) (he : am_X M i st h = some (st', h')) (hI : am_I A D cl cy s.heap al h H locs) (hs : ∀ v ∈ st, am_vw h.1.length v) (hlk : lk.size = nL) (hn0 : n0 ≤ h.1.length) (hs0 : s0 ≤ am_slt h.1) (hc1 : h'.1.length ≤ n0 + R.cells) (hc2 : am_slt h'.1 ≤ s0 + R.slots)
    (kk : ∀ (al' : Nat → Nat) (H1 : Heap) (locs1 : List Loc), (∀ i, i < h.1.length → al' i = al i) → am_I A D cl cy s.heap al' h' H1 locs1 → (∀ v ∈ st', am_vw h'.1.length v) → W p l e R s m args below meth c H1 locs1 (h'.1.length - n0) (am_slt h'.1 - s0) Q (F0 m (pc + am_len i) lk (st'.map (am_rn al' sb)))) : W p l e R s m args below meth c H locs (h.1.length - n0) (am_slt h.1 - s0) Q (F0 m pc lk (st.map (am_rn al sb))) := by
  obtain ⟨⟨len, hd, hl⟩, -, hv⟩ := hv
  have up : ∀ (q : Nat) (r : List Value), (∀ v ∈ r, am_vw h.1.length v) → (∀ v ∈ (Value.ref h.1.length :: r), am_vw (h.1.length + 1) v) ∧ (Value.ref h.1.length :: r).map (am_rn (va_up al h.1.length q) sb) = .ref q :: r.map (am_rn al sb) := fun q r hr =>
    ⟨am_fa (Nat.lt_succ_self _) (fun v hv => am_vw_up (Nat.le_succ _) (hr v hv)), by
      rw [List.map_cons, am_rn_map hr (fun i hi => va_up_ne al q (by omega))]
      show Value.ref (va_up al h.1.length q h.1.length) :: _ = _
      rw [va_up_self]⟩
  have ag : ∀ (q i : Nat), i < h.1.length → va_up al h.1.length q i = al i := fun q i hi => va_up_ne al q (by omega)
  have hl1 : ∀ d : am_D, (h.1 ++ [d]).length = h.1.length + 1 := fun d => by simp
  have hs1 : ∀ d : am_D, am_slt (h.1 ++ [d]) = am_slt h.1 + am_sz d := fun d => by simp [am_slt]
  cases i with
  | getfield x =>
    have hl : 3 = len := by rcases hl with h | h; cases h; exact h
    subst hl
    obtain ⟨q, a, r, v, h1, rfl, h2, rfl, rfl⟩ := am_gfF_inv he
    have hs := List.forall_mem_cons.mp hs
    exact am_sim_gf hx hb hts hown hK hI (hv q h1) h2 hd (fun hw => kk al H locs (fun _ _ => rfl) hI (am_fa hw hs.2))
  | putfield x =>
    have hl : 3 = len := by rcases hl with h | h; cases h; exact h
    subst hl
    obtain ⟨q, v, a, h1, rfl, h2⟩ := am_pfF_inv he
    have hs := List.forall_mem_cons.mp hs
    have hs2 := List.forall_mem_cons.mp hs.2
    refine am_sim_pf hx hb hts hown hK hI (hv q h1) h2 hs.1 hd (fun H1 locs1 hI1 g1 g2 => ?_)
    exact W.cs (by rw [g1]) (by rw [g2]) (kk al H1 locs1 (fun _ _ => rfl) hI1 (by rw [g1]; exact hs2.2))
  | iaload =>
    have hl : 1 = len := by rcases hl with h | h; cases h; exact h
    subst hl
    rcases am_ldF_inv he with ⟨y, a, r, v, rfl, h2, rfl, rfl⟩ | ⟨y, a, r, v, rfl, -, h2, rfl, rfl⟩
    · have hs := List.forall_mem_cons.mp (List.forall_mem_cons.mp hs).2
      exact am_sim_ld hx hb hK hty hI h2 (Or.inl ⟨rfl, rfl, hd⟩) (kk al H locs (fun _ _ => rfl) hI (am_fa trivial hs.2))
    · have hs := List.forall_mem_cons.mp (List.forall_mem_cons.mp hs).2
      unfold am_sld at h2
      split at h2
      · rename_i q hq
        split at h2
        · cases h2
        · rename_i ho
          cases h2
          obtain ⟨g1, g2, g3⟩ := hsc q hq
          exact va_sld hx hb g1 g2 g3 hI.2.2.1 ho hd (kk al H locs (fun _ _ => rfl) hI (am_fa trivial hs.2))
      · cases h2
  | baload =>
    have hl : 1 = len := by rcases hl with h | h; cases h; exact h
    subst hl
    rcases am_ldF_inv he with ⟨y, a, r, v, rfl, h2, rfl, rfl⟩ | ⟨y, a, r, v, -, h2, -⟩
    · have hs := List.forall_mem_cons.mp (List.forall_mem_cons.mp hs).2
      exact am_sim_ld hx hb hK hty hI h2 (Or.inr ⟨rfl, rfl, hd⟩) (kk al H locs (fun _ _ => rfl) hI (am_fa trivial hs.2))
    · cases h2
  | iastore =>
    have hl : 1 = len := by rcases hl with h | h; cases h; exact h
    subst hl
    obtain ⟨v, y, a, rfl, h2⟩ := am_sdF_inv he
    have hs := List.forall_mem_cons.mp (List.forall_mem_cons.mp (List.forall_mem_cons.mp hs).2).2
    refine am_sim_sd hx hb hK hty hI h2 (Or.inl ⟨rfl, rfl, hd⟩) (fun H1 locs1 hI1 g1 => ?_)
    exact W.cs (by rw [g1]) (by rw [g1]) (kk al H1 locs1 (fun _ _ => rfl) hI1 (by rw [g1]; exact hs.2))
  | bastore =>
    have hl : 1 = len := by rcases hl with h | h; cases h; exact h
    subst hl
    obtain ⟨v, y, a, rfl, h2⟩ := am_sdF_inv he
    have hs := List.forall_mem_cons.mp (List.forall_mem_cons.mp (List.forall_mem_cons.mp hs).2).2
    refine am_sim_sd hx hb hK hty hI h2 (Or.inr ⟨rfl, rfl, hd⟩) (fun H1 locs1 hI1 g1 => ?_)
    exact W.cs (by rw [g1]) (by rw [g1]) (kk al H1 locs1 (fun _ _ => rfl) hI1 (by rw [g1]; exact hs.2))
  | aaload =>
    have hl : 1 = len := by rcases hl with h | h; cases h; exact h
    subst hl
    obtain ⟨y, a, r, j, rfl, h2, rfl, rfl⟩ := am_laF_inv he
    have hs := List.forall_mem_cons.mp (List.forall_mem_cons.mp hs).2
    exact am_sim_la hx hb hK hty hI h2 hd (fun hj => kk al H locs (fun _ _ => rfl) hI (am_fa hj hs.2))
  | aastore =>
    have hl : 1 = len := by rcases hl with h | h; cases h; exact h
    subst hl
    obtain ⟨j, y, a, rfl, h2⟩ := am_saF_inv he
    have hs := List.forall_mem_cons.mp (List.forall_mem_cons.mp (List.forall_mem_cons.mp hs).2).2
    refine am_sim_sa hx hb hK hty htc hI h2 hd (fun H1 locs1 hI1 g1 g2 => ?_)
    exact W.cs (by rw [g1]) (by rw [g2]) (kk al H1 locs1 (fun _ _ => rfl) hI1 (by rw [g1]; exact hs.2))
  | arraylength =>
    have hl : 1 = len := by rcases hl with h | h; cases h; exact h
    subst hl
    obtain ⟨q, a, r, hq, rfl, rfl, rfl⟩ := am_alF_inv he
    obtain ⟨g1, g2, g3⟩ := hsc q hq
    exact va_slen hx hb g1 g2 g3 hI.2.2.1 hd (kk al H locs (fun _ _ => rfl) hI (am_fa trivial (List.forall_mem_cons.mp hs).2))
  | newarray aty =>
    have hl : 2 = len := by rcases hl with h | h; cases h; exact h
    subst hl
    cases aty with
    | int =>
      obtain ⟨n, r, rfl, h1, rfl, rfl⟩ := am_mkI_inv he
      have hr := (List.forall_mem_cons.mp hs).2
      dsimp only at hc1 hc2 kk
      rw [hl1] at hc1 kk
      rw [hs1] at hc2 kk
      refine am_sim_newI (t := 0) hx hb hK hty hA hI h1 (Or.inl ⟨rfl, rfl, rfl⟩) rfl (hv.1 rfl) (by omega) (by simp only [am_sz] at hc2; omega) hd (fun q H1 hI1 => ?_)
      have := kk (va_up al h.1.length q) H1 locs (ag q) hI1 (up q r hr).1
      rw [(up q r hr).2] at this
      exact W.cs (by omega) (by simp only [am_sz]; omega) this
    | boolean =>
      obtain ⟨n, r, rfl, h1, rfl, rfl⟩ := am_mkI_inv he
      have hr := (List.forall_mem_cons.mp hs).2
      dsimp only at hc1 hc2 kk
      rw [hl1] at hc1 kk
      rw [hs1] at hc2 kk
      refine am_sim_newI (t := 1) hx hb hK hty hA hI h1 (Or.inr ⟨rfl, rfl, rfl⟩) rfl (hv.2 rfl) (by omega) (by simp only [am_sz] at hc2; omega) hd (fun q H1 hI1 => ?_)
      have := kk (va_up al h.1.length q) H1 locs (ag q) hI1 (up q r hr).1
      rw [(up q r hr).2] at this
      exact W.cs (by omega) (by simp only [am_sz]; omega) this
    | _ => cases he
  | anewarray x =>
    have hl : 3 = len := by rcases hl with h | h; cases h; exact h
    subst hl
    obtain ⟨t, n, r, ht, rfl, h1, rfl, rfl⟩ := am_mkA_inv he
    obtain ⟨C, g1, g2, g3⟩ := hv t ht
    have hr := (List.forall_mem_cons.mp hs).2
    dsimp only at hc1 hc2 kk
    rw [hl1] at hc1 kk
    rw [hs1] at hc2 kk
    refine am_sim_newA (t := t) hx hb hown hK hty hA hI h1 g1 g2 g3 (by omega) (by simp only [am_sz] at hc2; omega) hd (fun q H1 hI1 => ?_)
    have := kk (va_up al h.1.length q) H1 locs (ag q) hI1 (up q r hr).1
    rw [(up q r hr).2] at this
    exact W.cs (by omega) (by simp only [am_sz]; omega) this
  | multianewarray x k =>
    have hl : 4 = len := by rcases hl with h | h; cases h; exact h
    subst hl
    have he : (if k = 2 then am_mkG M x st h else none) = some (st', h') := he
    split at he
    · obtain ⟨t, k2, n, r, ht, rfl, h1, h2, rfl, rfl⟩ := am_mkG_inv he
      have hr := (List.forall_mem_cons.mp (List.forall_mem_cons.mp hs).2).2
      have e1 : ∀ tq : List am_D, (h.1 ++ tq).length = h.1.length + tq.length := fun tq => List.length_append
      dsimp only at hc1 hc2 kk
      rw [e1, List.length_append, List.length_replicate, List.length_singleton] at hc1 kk
      rw [am_slt_app, am_slt_grid] at hc2 kk
      refine hv t ht n k2 (r.map (am_rn al sb)) h al H locs lk Q h1 h2 hI hlk hn0 hs0 (by omega) (by omega) (fun al' H1 g1 hI1 => ?_)
      have := kk al' H1 locs g1 hI1 (am_fa (show h.1.length < _ by omega) (fun v hv => am_vw_up (by omega) (hr v hv)))
      rw [List.map_cons, am_rn_map hr g1] at this
      exact W.cs (by omega) (by omega) this
    · cases he
  | new x =>
    have hl : 3 = len := by rcases hl with h | h; cases h; exact h
    subst hl
    obtain ⟨q0, hq, rfl, rfl⟩ := am_mkO_inv he
    obtain ⟨ci, fl⟩ := q0
    dsimp only at hc1 hc2 kk
    rw [hl1] at hc1 kk
    rw [hs1] at hc2 kk
    refine am_sim_new (ci := ci) (fl := fl) hx hb hts hown hK hA hI (hv _ hq) (by omega) (by simp only [am_sz] at hc2; omega) hd (fun q H1 hI1 => ?_)
    have := kk (va_up al h.1.length q) H1 locs (ag q) hI1 (up q st hs).1
    rw [(up q st hs).2] at this
    exact W.cs (by omega) (by simp only [am_sz]; omega) this
  | _ => cases he
theorem am_sim (hx : p.tables.exec = Jvm.exec) (hb : c.code = cc) (hts : ∀ w ∈ Ts, w.before args s = true) (hown : s.vm.findClass own = some m.cls) (hK : va_K D cl tys s) (hty : ∀ t ty, am_ty t = some ty → tys[t]? = some (cy t, ty)) (htc : ∀ t ci, am_tyc t = some ci → ∃ r : vw_C, cl[ci]? = some r ∧ am_ty t = some (.object r.1)) (hA : ∀ q, s.heap.size ≤ q → A q)
    (hsc : ∀ q, am_scr M = some q → va_X sb q.1 q.2 s s.heap ∧ sb < s.heap.size ∧ ¬ A sb) (hV : ∀ pc i, am_code M pc = some i → am_V p l e R s m args below meth c cc Ts own A D cl cy sb nL n0 s0 M pc i) (hG : ∀ x q, am_cal M x = some q → am_grow q.2.2) {N : Nat} {rE : Option Value} {hE : am_H} {al0 : Nat → Nat} (hE1 : hE.1.length ≤ n0 + R.cells) (hE2 : am_slt hE.1 ≤ s0 + R.slots)
    (ret : ∀ (pc : Nat) (i : Instr) (st : List Value) (al : Nat → Nat) (H : Heap) (locs : List Loc) (lk : Array Slot), am_code M pc = some i → decode cc pc = .ok (i, 1) → am_R M i st = some rE → am_I A D cl cy s.heap al hE H locs → (∀ v ∈ st, am_vw hE.1.length v) → (∀ i, i < n0 → al i = al0 i) → W p l e R s m args below meth c H locs (hE.1.length - n0) (am_slt hE.1 - s0) Q (F0 m pc lk (st.map (am_rn al sb)))) :
    ∀ (n pc : Nat) (ls st : List Value) (h : am_H) (al : Nat → Nat) (H : Heap) (locs : List Loc) (lk : Array Slot), am_run M N n pc ls st h = some (rE, hE) → am_I A D cl cy s.heap al h H locs → am_L al sb h.1.length nL ls lk → (∀ v ∈ st, am_vw h.1.length v) → n0 ≤ h.1.length → s0 ≤ am_slt h.1 → (∀ i, i < n0 → al i = al0 i) →
      W p l e R s m args below meth c H locs (h.1.length - n0) (am_slt h.1 - s0) Q (F0 m pc lk (st.map (am_rn al sb)))
  | 0, _, _, _, _, _, _, _, _, he, _, _, _, _, _, _ => by cases he
  | n + 1, pc, ls, st, h, al, H, locs, lk, he, hI, hL, hs, hn0, hs0, hab => by
    cases hc : am_code M pc with
    | none => rw [am_run, hc] at he; cases he
    | some i =>
      have hv := hV pc i hc
      cases hr : am_R M i st with
      | some r =>
        rw [am_run_ret hc hr] at he
        cases he
        obtain ⟨⟨len, hd, hl⟩, -, -⟩ := hv
        have hl1 : len = 1 := by
          cases i with
          | ireturn => rcases hl with h | h; cases h; exact h.symm
          | areturn => rcases hl with h | h; cases h; exact h.symm
          | return_ => rcases hl with h | h; cases h; exact h.symm
          | _ => cases hr
        subst hl1
        exact ret pc i st al H locs lk hc hd hr hI hs hab
      | none =>
        cases hst : am_stp M N i pc ls st h with
        | none => rw [am_run_no hc hr hst] at he; cases he
        | some q =>
          rw [am_run_step hc hr hst] at he
          have gr := am_run_grow hG n _ _ _ _ rE hE he
          rcases am_stp_inv hst with ⟨ls', st', h1, rfl⟩ | ⟨pc', st', h1, rfl⟩ | ⟨st', h', h1, rfl⟩ | ⟨st', h', h1, rfl⟩
          · obtain ⟨⟨len, hd, hl⟩, hbd, -⟩ := hv
            have hd : decode cc pc = .ok (i, am_len i) := by
              rcases hl with hl | hl
              · cases i <;> first | (cases hl; done) | (cases h1; done) | skip
              · rw [hl]; exact hd
            exact am_simP hx hb hd hbd h1 hL hs (fun lk' hL' hs' => am_sim hx hb hts hown hK hty htc hA hsc hV hG hE1 hE2 ret n _ _ _ _ al H locs lk' he hI hL' hs' hn0 hs0 hab)
          · obtain ⟨⟨len, hd, hl⟩, hbd, -⟩ := hv
            exact am_simJ hx hb hd hl hbd h1 hs (fun hs' => am_sim hx hb hts hown hK hty htc hA hsc hV hG hE1 hE2 ret n _ _ _ _ al H locs lk he hI hL hs' hn0 hs0 hab)
          · have g1 := am_X_grow h1
            dsimp only at gr he
            exact am_simX hx hb hts hown hK hty htc hA hsc hv h1 hI hs hL.1 hn0 hs0 (by omega) (by omega) (fun al' H1 locs1 a1 hI1 hs1 => am_sim hx hb hts hown hK hty htc hA hsc hV hG hE1 hE2 ret n _ _ _ _ al' H1 locs1 lk he hI1 (am_L_up hL g1.1 a1) hs1 (by omega) (by omega) (fun i hi => (a1 i (by omega)).trans (hab i hi)))
          · obtain ⟨x, hi, h2⟩ := am_Y_inv h1
            obtain ⟨q, r2, as, rest, h3, rfl, h4, h5, h6, h7, rfl⟩ := am_callF_inv h2
            have g1 := hG x q h3 _ _ _ _ _ h7
            dsimp only at gr he
            have hco : am_cOK p l e R s m args below meth c A D cl cy sb nL n0 s0 pc q.1 q.2.1 q.2.2 := by
              rcases hi with rfl | rfl | rfl
              · exact hv.2.2 q h3
              · exact hv.2.2 q h3
              · exact hv.2.2 q h3
            have hs1 := List.forall_mem_append.mp hs
            refine hco N as rest h h' r2 al H locs lk Q h7 h4 h6 h5 hI (fun v hv => hs1.1 v (List.mem_reverse.mpr hv)) hs1.2 hL.1 hn0 hs0 g1.1 g1.2 (by omega) (by omega) (fun al' H1 locs1 a1 hI1 hr1 => ?_)
            refine am_sim hx hb hts hown hK hty htc hA hsc hV hG hE1 hE2 ret n _ _ _ _ al' H1 locs1 lk he hI1 (am_L_up hL g1.1 a1) ?_ (by omega) (by omega) (fun i hi => (a1 i (by omega)).trans (hab i hi))
            intro v hv
            rcases List.mem_append.mp hv with hv | hv
            · cases r2 with
              | none => cases hv
              | some w =>
                have : v = w := List.mem_singleton.mp hv
                subst this
                exact hr1 _ rfl
            · exact am_vw_up g1.1 (hs1.2 v hv)
end AMY
