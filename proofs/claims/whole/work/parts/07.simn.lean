/-! New cells, stores of references, calls. -/
theorem am_wl_app {cy : Nat → ClassId} {al : Nat → Nat} {h : am_H} {d : am_D} {q : Nat} (hw : ∀ (i : Nat) (d : am_D), h.1[i]? = some d → am_dw h.1.length d) : am_wl cy (va_up al h.1.length q) (h.1 ++ [d], h.2) = am_wl cy al h ++ [(q, am_ex cy (va_up al h.1.length q) h.2 h.1.length d)] := by
  apply List.ext_getElem?
  intro j
  have e0 : (am_wl cy (va_up al h.1.length q) (h.1 ++ [d], h.2))[j]? = ((h.1 ++ [d])[j]?).map (fun d => (va_up al h.1.length q j, am_ex cy (va_up al h.1.length q) h.2 j d)) := by
    unfold am_wl
    rw [List.getElem?_mapIdx]
  rw [e0]
  by_cases hj : j < h.1.length
  · have hd2 : h.1[j]? = some h.1[j] := List.getElem?_eq_getElem hj
    rw [List.getElem?_append_left hj, List.getElem?_append_left (by rw [am_wl_len]; exact hj), am_wl_at hd2, hd2]
    show some (_, _) = _
    rw [va_up_ne al q (by omega), am_ex_eq rfl (fun i hi => va_up_ne al q (by omega)) (hw j _ hd2)]
  · rw [List.getElem?_append_right (by omega), List.getElem?_append_right (by rw [am_wl_len]; omega), am_wl_len]
    by_cases hk : j = h.1.length
    · subst hk
      rw [Nat.sub_self]
      show some (va_up al h.1.length q h.1.length, _) = _
      rw [va_up_self]
      rfl
    · obtain ⟨k, hk⟩ : ∃ k, j - h.1.length = k + 1 := ⟨j - h.1.length - 1, by omega⟩
      rw [hk]
      rfl
theorem am_slt_app (tp tq : List am_D) : am_slt (tp ++ tq) = am_slt tp + am_slt tq := by simp [am_slt]
section AMN
variable {p : Program} {l : Launch} {e : Env} {R : Room} {s : State} {m : MethodId} {args : Array Value} {below : List Frame} {meth : Method} {c : Code} {H : Heap} {locs : List Loc} {cells slots : Nat} {Q : State → Prop}
variable {cc : ByteArray} {pc : Nat} {lk : Array Slot} {ls st rest : List Value} {al : Nat → Nat} {sb nL : Nat} {A : Nat → Prop} {D : va_G} {cl : List vw_C} {cy : Nat → ClassId} {tys : List (ClassId × FieldType)} {h h' : am_H} {Ts : List Cond} {own : String} {restK : List Value}
theorem am_I_app {q : Nat} {d : am_D} {H1 : Heap} {locs1 : List Loc} (hI : am_I A D cl cy s.heap al h H locs) (hdw : am_dw (h.1.length + 1) d) (hP : va_P D cl (am_wl cy al h ++ [(q, am_ex cy (va_up al h.1.length q) h.2 h.1.length d)]) H1) (hD : va_D A (am_wl cy al h ++ [(q, am_ex cy (va_up al h.1.length q) h.2 h.1.length d)])) (hS : va_S A s.heap H1 locs1) : am_I A D cl cy s.heap (va_up al h.1.length q) (h.1 ++ [d], h.2) H1 locs1 := by
  obtain ⟨-, -, -, hw, hz⟩ := hI
  have e := am_wl_app (cy := cy) (al := al) (d := d) (q := q) hw
  have hl : (h.1 ++ [d]).length = h.1.length + 1 := by simp
  refine ⟨by rw [e]; exact hP, by rw [e]; exact hD, hS, fun j x hj => ?_, fun j k hj => hz j k (by have : (h.1 ++ [d]).length ≤ j := hj; omega)⟩
  show am_dw (h.1 ++ [d]).length x
  rw [hl]
  have hj : (h.1 ++ [d])[j]? = some x := hj
  by_cases hjl : j < h.1.length
  · rw [List.getElem?_append_left hjl] at hj
    exact am_dw_up (Nat.le_succ _) (hw j x hj)
  · rw [List.getElem?_append_right (by omega)] at hj
    have hz2 : j - h.1.length < 1 := (List.getElem?_eq_some_iff.mp hj).1
    rw [show j - h.1.length = 0 by omega] at hj
    cases hj
    exact hdw
def am_nOK (cl : List vw_C) (Ts : List Cond) (own : String) (args : Array Value) (s : State) (x ci : Nat) (fl : List (Option (Option Nat))) : Prop :=
  ∃ (C : String) (T : u_T) (Nf : Nat) (ty : Nat → FieldType), cl[ci]? = some (C, T, Nf) ∧ (∀ w ∈ u_ws C T Nf, w ∈ Ts) ∧ (∀ k, k < Nf → parseFieldDescriptor (T k).2.2.1 = some (ty k)) ∧ (Cond.classLink own x C).before args s = true ∧ (Cond.instantiable C Nf).before args s = true ∧ (Cond.initialized C).before args s = true ∧
    fl.length = Nf ∧ ∀ j, j < Nf → fl[j]? = some none ∧ defaultValue (ty j) = .int 0 ∨ fl[j]? = some (some none) ∧ defaultValue (ty j) = .null
theorem am_sim_new {x ci : Nat} {fl : List (Option (Option Nat))} (hx : p.tables.exec = Jvm.exec) (hb : c.code = cc) (hts : ∀ w ∈ Ts, w.before args s = true) (hown : s.vm.findClass own = some m.cls) (hK : va_K D cl tys s) (hA : ∀ q, s.heap.size ≤ q → A q) (hI : am_I A D cl cy s.heap al h H locs) (hg : am_nOK cl Ts own args s x ci fl) (hcells : cells + 1 ≤ R.cells) (hslots : slots + fl.length ≤ R.slots) (hdg : decode cc pc = .ok (.new x, 3))
    (kk : ∀ (q : Nat) (H1 : Heap), am_I A D cl cy s.heap (va_up al h.1.length q) (h.1 ++ [.inr (ci, fl)], h.2) H1 locs → W p l e R s m args below meth c H1 locs (cells + 1) (slots + fl.length) Q (F0 m (pc + 3) lk (.ref q :: restK))) : W p l e R s m args below meth c H locs cells slots Q (F0 m pc lk restK) := by
  obtain ⟨C, T, Nf, ty, h1, h2, h3, h4, h5, h6, rfl, h8⟩ := hg
  have hfl : ∀ j o, fl[j]? = some o → o = none ∨ o = some none := fun j o ho => by
    rcases h8 j (List.getElem?_eq_some_iff.mp ho).1 with ⟨z, -⟩ | ⟨z, -⟩
    · rw [z] at ho; cases ho; exact Or.inl rfl
    · rw [z] at ho; cases ho; exact Or.inr rfl
  have hfv : ∀ a2 : Nat → Nat, am_fv a2 h.2 h.1.length fl = am_fv (fun _ => 0) (fun _ _ => 0) 0 fl := by
    intro a2
    unfold am_fv
    apply List.ext_getElem?
    intro k
    rw [List.getElem?_mapIdx, List.getElem?_mapIdx]
    cases ho : fl[k]? with
    | none => rfl
    | some o =>
      rcases hfl k o ho with rfl | rfl
      · show some (Value.int (h.2 h.1.length k)) = some (Value.int 0)
        rw [hI.2.2.2.2 _ _ (Nat.le_refl _)]
      · rfl
  refine va_new (ci := ci) (fs := am_fv (fun _ => 0) (fun _ _ => 0) 0 fl) hx hb hts h2 ty h3 hown h4 h5 h6 hK hI.1 hI.2.1 hI.2.2.1 hA h1 (fun j hj => ?_) hcells hslots hdg (fun q H1 hP hD hS => kk q H1 (am_I_app hI ?_ ?_ ?_ hS))
  · unfold vp_V
    rw [List.getD_eq_getElem?_getD]
    rcases h8 j hj with ⟨z, z2⟩ | ⟨z, z2⟩
    · rw [am_fv_at z, z2]; rfl
    · rw [am_fv_at z, z2]; rfl
  · intro k j ho
    rcases hfl k _ ho with z | z <;> cases z
  · show va_P D cl (am_wl cy al h ++ [(q, .inr (ci, am_fv _ h.2 h.1.length fl))]) H1
    rw [hfv]
    exact hP
  · show va_D A (am_wl cy al h ++ [(q, .inr (ci, am_fv _ h.2 h.1.length fl))])
    rw [hfv]
    exact hD
theorem am_sim_newI {t : Nat} {n : Int32} {aty : ArrayType} {fty : FieldType} (hx : p.tables.exec = Jvm.exec) (hb : c.code = cc) (hK : va_K D cl tys s) (hty : ∀ t ty, am_ty t = some ty → tys[t]? = some (cy t, ty)) (hA : ∀ q, s.heap.size ≤ q → A q) (hI : am_I A D cl cy s.heap al h H locs) (hin : ¬ am_out n 1000)
    (hk : t = 0 ∧ aty = .int ∧ fty = .int ∨ t = 1 ∧ aty = .boolean ∧ fty = .boolean) (ht : am_ty t = some fty) (hac : (Cond.arrayClass fty).before args s = true) (hcells : cells + 1 ≤ R.cells) (hslots : slots + n.toNatClampNeg ≤ R.slots) (hdg : decode cc pc = .ok (.newarray aty, 2))
    (kk : ∀ (q : Nat) (H1 : Heap), am_I A D cl cy s.heap (va_up al h.1.length q) (h.1 ++ [.inl (t, n.toNatClampNeg, none)], h.2) H1 locs → W p l e R s m args below meth c H1 locs (cells + 1) (slots + n.toNatClampNeg) Q (F0 m (pc + 2) lk (.ref q :: restK))) : W p l e R s m args below meth c H locs cells slots Q (F0 m pc lk (.int n :: restK)) := by
  have hf : newarray.typeOf aty = fty := by rcases hk with ⟨-, rfl, rfl⟩ | ⟨-, rfl, rfl⟩ <;> rfl
  have hz : h.2 h.1.length = fun _ => 0 := funext fun k => hI.2.2.2.2 _ _ (Nat.le_refl _)
  have hlt : n.toNatClampNeg < 1000 := Nat.not_le.mp fun q => hin (Or.inr q)
  have hcb : componentBytes fty ≤ 8 := by rcases hk with ⟨-, -, rfl⟩ | ⟨-, -, rfl⟩ <;> decide
  refine va_newa (a0 := (n.toNatClampNeg, .inl (fun _ => 0))) hx hb (by rw [hf]; exact hac) hf hK hI.1 hI.2.1 hI.2.2.1 hA (fun cA => ?_) (fun q => hin (Or.inl q)) rfl ?_ hcells hslots hdg (fun q cA H1 hK1 hP hD hS => kk q H1 ?_)
  · rcases hk with ⟨-, -, rfl⟩ | ⟨-, -, rfl⟩ <;> rfl
  · exact Nat.le_trans (Nat.mul_le_mul (Nat.le_of_lt hlt) hcb) (by decide)
  · have r1 := (hK1.2 tys.length (cA, fty) (by simp)).2
    have r2 := (hK.2 t _ (hty t fty ht)).2
    have ec : cA = cy t := by rcases hk with ⟨-, -, rfl⟩ | ⟨-, -, rfl⟩ <;> exact Option.some.inj (r1.symm.trans r2)
    subst ec
    refine am_I_app hI trivial ?_ ?_ hS
    · show va_P D cl (am_wl cy al h ++ [(q, .inl (cy t, n.toNatClampNeg, .inl (h.2 h.1.length)))]) H1
      rw [hz]
      exact hP
    · show va_D A (am_wl cy al h ++ [(q, .inl (cy t, n.toNatClampNeg, .inl (h.2 h.1.length)))])
      rw [hz]
      exact hD
theorem am_sim_newA {t x : Nat} {n : Int32} {C : String} (hx : p.tables.exec = Jvm.exec) (hb : c.code = cc) (hown : s.vm.findClass own = some m.cls) (hK : va_K D cl tys s) (hty : ∀ t ty, am_ty t = some ty → tys[t]? = some (cy t, ty)) (hA : ∀ q, s.heap.size ≤ q → A q) (hI : am_I A D cl cy s.heap al h H locs) (hin : ¬ am_out n 1000)
    (ht : am_ty t = some (.object C)) (hcl : (Cond.classLink own x C).before args s = true) (hao : (Cond.arrayOver (.object C)).before args s = true) (hcells : cells + 1 ≤ R.cells) (hslots : slots + n.toNatClampNeg ≤ R.slots) (hdg : decode cc pc = .ok (.anewarray x, 3))
    (kk : ∀ (q : Nat) (H1 : Heap), am_I A D cl cy s.heap (va_up al h.1.length q) (h.1 ++ [.inl (t, n.toNatClampNeg, some (List.replicate n.toNatClampNeg none))], h.2) H1 locs → W p l e R s m args below meth c H1 locs (cells + 1) (slots + n.toNatClampNeg) Q (F0 m (pc + 3) lk (.ref q :: restK))) : W p l e R s m args below meth c H locs cells slots Q (F0 m pc lk (.int n :: restK)) := by
  have hlt : n.toNatClampNeg < 1000 := Nat.not_le.mp fun q => hin (Or.inr q)
  have hrf : ∀ a2 : Nat → Nat, am_rf a2 (List.replicate n.toNatClampNeg none) = fun _ => none := by
    intro a2
    funext j
    unfold am_rf
    rw [List.getElem?_replicate]
    split <;> rfl
  refine va_newq hx hb hown hcl (va_AO.of hao) hK hI.1 hI.2.1 hI.2.2.1 hA (fun q => hin (Or.inl q)) rfl (by omega) hcells hslots hdg (fun q cA H1 hK1 hP hD hS => kk q H1 ?_)
  obtain ⟨_, _, -, -, -, r1⟩ := (hK1.2 tys.length (cA, .object C) (by simp)).2
  obtain ⟨_, _, -, -, -, r2⟩ := (hK.2 t _ (hty t _ ht)).2
  have ec : cA = cy t := Option.some.inj (r1.symm.trans r2)
  subst ec
  refine am_I_app hI ⟨by simp, fun j r hj => ?_, _, ht, rfl⟩ ?_ ?_ hS
  · rw [List.getElem?_replicate] at hj
    split at hj <;> cases hj
  · show va_P D cl (am_wl cy al h ++ [(q, .inl (cy t, n.toNatClampNeg, .inr (.inr (.inr (.inr (am_rf _ (List.replicate n.toNatClampNeg none)))))))]) H1
    rw [hrf]
    exact hP
  · show va_D A (am_wl cy al h ++ [(q, .inl (cy t, n.toNatClampNeg, .inr (.inr (.inr (.inr (am_rf _ (List.replicate n.toNatClampNeg none)))))))])
    rw [hrf]
    exact hD
theorem am_sim_sa {a j : Nat} {x : Int32} (hx : p.tables.exec = Jvm.exec) (hb : c.code = cc) (hK : va_K D cl tys s) (hty : ∀ t ty, am_ty t = some ty → tys[t]? = some (cy t, ty)) (htc : ∀ t ci, am_tyc t = some ci → ∃ r : vw_C, cl[ci]? = some r ∧ am_ty t = some (.object r.1)) (hI : am_I A D cl cy s.heap al h H locs) (he : am_sa h a x j = some h') (hdg : decode cc pc = .ok (.aastore, 1))
    (kk : ∀ (H1 : Heap) (locs1 : List Loc), am_I A D cl cy s.heap al h' H1 locs1 → h'.1.length = h.1.length → am_slt h'.1 = am_slt h.1 → W p l e R s m args below meth c H1 locs1 cells slots Q (F0 m (pc + 1) lk restK)) : W p l e R s m args below meth c H locs cells slots Q (F0 m pc lk (.ref (al j) :: .int x :: .ref (al a) :: restK)) := by
  unfold am_sa at he
  split at he
  · rename_i t n rs q hd hj
    split at he
    · cases he
    · rename_i hc
      cases he
      have hin : vp_in x n := fun z => hc (Or.inl z)
      have htq : am_tyc t = some q.1 := by
        by_cases z : am_tyc t = some q.1
        · exact z
        · exact absurd (Or.inr z) hc
      obtain ⟨r, hr1, hr2⟩ := htc t q.1 htq
      have ha := am_wl_at (cy := cy) (al := al) hd
      have hb2 := am_wl_at (cy := cy) (al := al) hj
      obtain ⟨c1, fl⟩ := q
      obtain ⟨w1, w2, w3⟩ := hI.2.2.2.1 a _ hd
      have hlt : x.toNatClampNeg < n := Nat.not_le.mp fun q => hin (Or.inr q)
      have hjl := (List.getElem?_eq_some_iff.mp hj).1
      refine va_astq hx hb hK hI.1 hI.2.1 hI.2.2.1 a t j c1 ha (hty t _ hr2) hb2 hr1 hin hdg (fun H1 locs1 hP hD hS => kk H1 locs1 (am_I_set hI hd ?_ ?_ hP hD hS) (by show (h.1.set a _).length = _; rw [List.length_set]) ?_)
      · show (Sum.inl (cy t, n, .inr (.inr (.inr (.inr (am_rf al (rs.set x.toNatClampNeg (some j))))))) : va_E) = _
        rw [am_rf_set (by omega)]
      · refine ⟨by rw [List.length_set]; exact w1, fun k r hk => ?_, w3⟩
        rw [List.getElem?_set] at hk
        by_cases hkx : x.toNatClampNeg = k
        · rw [if_pos hkx, if_pos (by omega)] at hk
          cases hk
          exact hjl
        · rw [if_neg hkx] at hk
          exact w2 k r hk
      · exact am_slt_set hd rfl
  · cases he
/-- how a call ends -/
def am_Q (D : va_G) (cl : List vw_C) (cy : Nat → ClassId) (al : Nat → Nat) (sb : Nat) (h h' : am_H) (r : Option Value) (z : Nat) : Array Value → State → Outcome → State → Prop := fun _ st oc t =>
  (∃ al' : Nat → Nat, (∀ i, i < h.1.length → al' i = al i) ∧ oc = .returned (r.map (am_rn al' sb)) ∧ (∀ v, r = some v → am_vw h'.1.length v) ∧ va_P D cl (am_wl cy al' h') t.heap ∧ va_D (va_A (am_wl cy al h) z) (am_wl cy al' h') ∧ (∀ (i : Nat) (d : am_D), h'.1[i]? = some d → am_dw h'.1.length d) ∧ ∀ i k : Nat, h'.1.length ≤ i → h'.2 i k = 0) ∧ va_F (va_A (am_wl cy al h) z) st t
def am_Pre (D : va_G) (cl : List vw_C) (cy : Nat → ClassId) (tys : List (ClassId × FieldType)) (al : Nat → Nat) (sb : Nat) (as : List Value) (h : am_H) (z : Nat) : Array Value → State → Prop :=
  va_Pc (as.map (am_rn al sb)) (fun U => U.heap.size = z ∧ va_P D cl (am_wl cy al h) U.heap ∧ va_K D cl tys U ∧ va_D (fun _ => True) (am_wl cy al h) ∧ am_NW U)
theorem am_callQ {mc ms : Nat} {r : Option Value} {a0 : Array Value} {st0 : List Value} (hr : va_Run p l e R s m args below meth c H locs cells slots mc ms (F0 m pc lk st0) (rest.map (am_rn al sb)) (am_Q D cl cy al sb h h' r H.size a0) (va_A (am_wl cy al h) H.size)) (hI : am_I A D cl cy s.heap al h H locs) (hA : ∀ q, s.heap.size ≤ q → A q) (hrest : ∀ v ∈ rest, am_vw h.1.length v)
    (kk : ∀ (al' : Nat → Nat) (H1 : Heap) (locs1 : List Loc), (∀ i, i < h.1.length → al' i = al i) → am_I A D cl cy s.heap al' h' H1 locs1 → (∀ v, r = some v → am_vw h'.1.length v) → W p l e R s m args below meth c H1 locs1 (cells + mc) (slots + ms) Q (F0 m (pc + 3) lk ((r.toList ++ rest).map (am_rn al' sb)))) : W p l e R s m args below meth c H locs cells slots Q (F0 m pc lk st0) := by
  have hF : ∀ q, va_A (am_wl cy al h) H.size q → A q := by
    intro q hq
    rcases hq with ⟨k, e1, hq⟩ | hq
    · exact hI.2.1.2 k (q, e1) hq
    · exact hA q (Nat.le_trans hI.2.2.1.1 hq)
  intro T hT X
  obtain ⟨v, st₀, t, T', L, h0, X', hL, e1, e2, ⟨⟨al', q1, q2, q3, q5, q6, q7, q8⟩, hz, hk⟩, st⟩ := hr T hT X
  cases q2
  rw [h0] at hz hk
  have hS := hI.2.2.1
  obtain ⟨t2, a1, b1⟩ := kk al' T'.heap (locs ++ L) q1 ⟨by rw [e1]; exact q5, q6.weaken (fun _ q _ z => hF _ z),
    ⟨Nat.le_trans hS.1 (by rw [e1]; exact hz), fun q h1 h2 => by rw [e1, hk q (Nat.lt_of_lt_of_le h1 hS.1) (fun z => h2 (hF q z))]; exact hS.2.1 q h1 h2, fun q hq => by
      rcases List.mem_append.mp hq with h | h
      · exact hS.2.2 q h
      · exact hF _ (hL q h)⟩, q7, q8⟩ q3 T' rfl X'
  have e3 : (r.map (am_rn al' sb)).toList ++ rest.map (am_rn al sb) = (r.toList ++ rest).map (am_rn al' sb) := by
    rw [List.map_append, am_rn_map hrest q1]
    cases r <;> rfl
  refine ⟨t2, st t2 ?_, b1⟩
  show Steps p.tables e below (T'.setTop (F0 m (pc + 3) lk ((r.map (am_rn al' sb)).toList ++ rest.map (am_rn al sb)))) t2
  rw [e3]
  exact a1
end AMN
