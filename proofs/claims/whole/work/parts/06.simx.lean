/-! The small machine against the kit's machine: fields, new cells. -/
theorem am_slt_set {tp : List am_D} {i : Nat} {d d' : am_D} (hd : tp[i]? = some d) (hs : am_sz d' = am_sz d) : am_slt (tp.set i d') = am_slt tp := by
  unfold am_slt
  congr 1
  apply List.ext_getElem?
  intro j
  rw [List.getElem?_map, List.getElem?_map, List.getElem?_set]
  by_cases hj : i = j
  · subst hj
    rw [if_pos rfl, if_pos (List.getElem?_eq_some_iff.mp hd).1, hd]
    simp [hs]
  · rw [if_neg hj]
section AMX
variable {p : Program} {l : Launch} {e : Env} {R : Room} {s : State} {m : MethodId} {args : Array Value} {below : List Frame} {meth : Method} {c : Code} {H : Heap} {locs : List Loc} {cells slots : Nat} {Q : State → Prop}
variable {cc : ByteArray} {pc : Nat} {lk : Array Slot} {ls st rest : List Value} {al : Nat → Nat} {sb nL : Nat} {A : Nat → Prop} {D : va_G} {cl : List vw_C} {cy : Nat → ClassId} {tys : List (ClassId × FieldType)} {h h' : am_H} {Ts : List Cond} {own : String}
def am_lk (own : String) (args : Array Value) (s : State) (x : Nat) (C nm d : String) : Prop := (Cond.fieldLink own x C nm d).before args s = true ∨ ∃ host, (Cond.fieldLinkNest own x C nm d host).before args s = true
def am_gOK (cl : List vw_C) (Ts : List Cond) (own : String) (args : Array Value) (s : State) (x ci k : Nat) : Prop :=
  ∃ (C : String) (T : u_T) (Nf : Nat), cl[ci]? = some (C, T, Nf) ∧ k < Nf ∧ (∀ w ∈ u_ws C T Nf, w ∈ Ts) ∧ (T k).1 = C ∧ am_lk own args s x C (T k).2.1 (T k).2.2.1
def am_pOK (cl : List vw_C) (Ts : List Cond) (own : String) (args : Array Value) (s : State) (meth : Method) (x ci k kd : Nat) : Prop :=
  ∃ (C : String) (T : u_T) (Nf : Nat) (ty : Nat → FieldType), cl[ci]? = some (C, T, Nf) ∧ k < Nf ∧ (∀ w ∈ u_ws C T Nf, w ∈ Ts) ∧ (T k).1 = C ∧ (∀ k, k < Nf → parseFieldDescriptor (T k).2.2.1 = some (ty k)) ∧ (∀ a, a < Nf → ∀ b, b < Nf → a ≠ b → (T a).2.1 ≠ (T b).2.1) ∧
    (kd = 0 ∧ ty k = .int ∨ kd = 1 ∧ ty k = .boolean ∨ kd = 2 ∧ (ty k).isReference = true) ∧
    ((T k).2.2.2 = false ∧ am_lk own args s x C (T k).2.1 (T k).2.2.1 ∨ (T k).2.2.2 = true ∧ meth.name = "<init>" ∧ C = own ∧ (Cond.fieldLink own x C (T k).2.1 (T k).2.2.1).before args s = true)
theorem am_sim_gf {a x ci k : Nat} {v : Value} (hx : p.tables.exec = Jvm.exec) (hb : c.code = cc) (hts : ∀ w ∈ Ts, w.before args s = true) (hown : s.vm.findClass own = some m.cls) (hK : va_K D cl tys s) (hI : am_I A D cl cy s.heap al h H locs) (hg : am_gOK cl Ts own args s x ci k) (he : am_gf h a ci k = some v) (hdg : decode cc pc = .ok (.getfield x, 3))
    (kk : am_vw h.1.length v → W p l e R s m args below meth c H locs cells slots Q (F0 m (pc + 3) lk (am_rn al sb v :: rest))) : W p l e R s m args below meth c H locs cells slots Q (F0 m pc lk (.ref (al a) :: rest)) := by
  obtain ⟨C, T, Nf, h1, h2, h3, h4, h5⟩ := hg
  unfold am_gf at he
  split at he
  · rename_i q hd
    obtain ⟨c0, fl⟩ := q
    split at he
    · rename_i hc
      have hc : c0 = ci := hc
      subst hc
      have ha := am_wl_at (cy := cy) (al := al) hd
      have hw := hI.2.2.2.1 a _ hd
      have fin : ∀ o : Option (Option Nat), fl[k]? = some o → am_rn al sb v = am_fo al (h.2 a k) o → am_vw h.1.length v → W p l e R s m args below meth c H locs cells slots Q (F0 m pc lk (.ref (al a) :: rest)) := by
        intro o ho hv hvw
        have kk := kk hvw
        rw [hv] at kk
        rcases h5 with h5 | ⟨host, h5⟩
        · exact va_get hx hb hts h3 hown hK hI.1 a ha h1 k h2 h5 (fun _ z => by rw [← h4]; exact z) (am_fv_at ho) hdg kk
        · exact va_getN hx hb hts h3 hown hK hI.1 a ha h1 k h2 h5 (fun _ z => by rw [← h4]; exact z) (am_fv_at ho) hdg kk
      dsimp only at he
      cases ho : fl[k]? with
      | none => rw [ho] at he; cases he
      | some o =>
        rw [ho] at he
        cases o with
        | none => cases he; exact fin none ho rfl trivial
        | some o =>
          cases o with
          | none => cases he; exact fin (some none) ho rfl trivial
          | some j => cases he; exact fin (some (some j)) ho rfl (hw k j ho)
    · cases he
  · cases he
theorem am_I_set {i : Nat} {d d' : am_D} {x : va_E} {H1 : Heap} {locs1 : List Loc} (hI : am_I A D cl cy s.heap al h H locs) (hd : h.1[i]? = some d) (hx : am_ex cy al h.2 i d' = x) (hw' : am_dw h.1.length d')
    (hP : va_P D cl ((am_wl cy al h).set i (al i, x)) H1) (hD : va_D A ((am_wl cy al h).set i (al i, x))) (hS : va_S A s.heap H1 locs1) : am_I A D cl cy s.heap al (h.1.set i d', h.2) H1 locs1 := by
  obtain ⟨-, -, -, hw, hz⟩ := hI
  have hl := (List.getElem?_eq_some_iff.mp hd).1
  have hd2 : (h.1.set i d')[i]? = some d' := by rw [List.getElem?_set, if_pos rfl, if_pos hl]
  have e := am_wl_set (h' := (h.1.set i d', h.2)) (cy := cy) (al := al) hd (fun j hj => by show (h.1.set i d')[j]? = _; rw [List.getElem?_set, if_neg (Ne.symm hj)]) (fun _ _ => rfl) hd2 hx hw
  refine ⟨by rw [e]; exact hP, by rw [e]; exact hD, hS, fun j q hj => ?_, fun j q hj => hz j q (by have : (h.1.set i d').length ≤ j := hj; rw [List.length_set] at this; exact this)⟩
  show am_dw (h.1.set i d').length q
  rw [List.length_set]
  have hj : (h.1.set i d')[j]? = some q := hj
  rw [List.getElem?_set] at hj
  by_cases hij : i = j
  · rw [if_pos hij, if_pos hl] at hj
    cases hj
    exact hw'
  · rw [if_neg hij] at hj
    exact hw j q hj
theorem am_sim_pf {a x ci k kd : Nat} {v : Value} (hx : p.tables.exec = Jvm.exec) (hb : c.code = cc) (hts : ∀ w ∈ Ts, w.before args s = true) (hown : s.vm.findClass own = some m.cls) (hK : va_K D cl tys s) (hI : am_I A D cl cy s.heap al h H locs) (hg : am_pOK cl Ts own args s meth x ci k kd) (he : am_pf h a ci k kd v = some h') (hv : am_vw h.1.length v) (hdg : decode cc pc = .ok (.putfield x, 3))
    (kk : ∀ (H1 : Heap) (locs1 : List Loc), am_I A D cl cy s.heap al h' H1 locs1 → h'.1.length = h.1.length → am_slt h'.1 = am_slt h.1 → W p l e R s m args below meth c H1 locs1 cells slots Q (F0 m (pc + 3) lk rest)) : W p l e R s m args below meth c H locs cells slots Q (F0 m pc lk (am_rn al sb v :: .ref (al a) :: rest)) := by
  obtain ⟨C, T, Nf, ty, h1, h2, h3, h4, h5, h6, h7, h8⟩ := hg
  unfold am_pf at he
  split at he
  · rename_i q hd
    obtain ⟨c0, fl⟩ := q
    split at he
    · rename_i hc
      have hc : c0 = ci := hc
      subst hc
      have ha := am_wl_at (cy := cy) (al := al) hd
      have hw := hI.2.2.2.1 a _ hd
      have fin : ∀ o : Option (Option Nat), fl[k]? = some o → narrow (ty k) (am_rn al sb v) = am_rn al sb v → fits (ty k) (am_rn al sb v) = true →
          (∀ (H1 : Heap) (locs1 : List Loc), va_P D cl ((am_wl cy al h).set a (al a, .inr (c0, (am_fv al h.2 a fl).set k (am_rn al sb v)))) H1 → va_D A ((am_wl cy al h).set a (al a, .inr (c0, (am_fv al h.2 a fl).set k (am_rn al sb v)))) → va_S A s.heap H1 locs1 → W p l e R s m args below meth c H1 locs1 cells slots Q (F0 m (pc + 3) lk rest)) →
          W p l e R s m args below meth c H locs cells slots Q (F0 m pc lk (am_rn al sb v :: .ref (al a) :: rest)) := by
        intro o ho hn hf kk
        have hl : k < (am_fv al h.2 a fl).length := by simp only [am_fv, List.length_mapIdx]; exact (List.getElem?_eq_some_iff.mp ho).1
        rcases h8 with ⟨g1, g2⟩ | ⟨g1, g2, g3, g4⟩
        · rcases g2 with g2 | ⟨host, g2⟩
          · exact va_put hx hb hts h3 ty h5 h6 hown hK hI.1 hI.2.1 hI.2.2.1 a ha h1 k h2 g2 (fun _ z => by rw [← h4]; exact z) g1 (h5 k h2) hn hf hl hdg kk
          · exact va_putN hx hb hts h3 ty h5 h6 hown hK hI.1 hI.2.1 hI.2.2.1 a ha h1 k h2 g2 (fun _ z => by rw [← h4]; exact z) g1 (h5 k h2) hn hf hl hdg kk
        · exact va_putF hx hb hts h3 ty h5 h6 hown hK hI.1 hI.2.1 hI.2.2.1 a ha h1 k h2 g4 (fun _ z => by rw [← h4]; exact z) g1 g2 (h4.trans g3) (h5 k h2) hn hf hl hdg kk
      dsimp only at he
      split at he
      · rename_i y ho
        cases he
        have ht : ty k = .int := by
          rcases h7 with ⟨_, h7⟩ | ⟨h7, _⟩ | ⟨h7, _⟩
          · exact h7
          · cases h7
          · cases h7
        refine fin none ho (by rw [ht]; rfl) (by rw [ht]; rfl) (fun H1 locs1 hP hD hS => kk H1 locs1 (am_I_wr hI hd ?_ hP hD hS) rfl rfl)
        show (Sum.inr (c0, am_fv al (am_wr h.2 a k y) a fl) : va_E) = _
        rw [am_fv_wr ho]
        rfl
      · rename_i y ho
        split at he
        · rename_i hy
          cases he
          have ht : ty k = .boolean := by
            rcases h7 with ⟨h7, _⟩ | ⟨_, h7⟩ | ⟨h7, _⟩
            · cases h7
            · exact h7
            · cases h7
          refine fin none ho (by rw [ht]; show Value.int (y &&& 1) = .int y; rw [am_one_nar hy]) (by rw [ht]; show (y == 0 || y == 1) = true; rcases hy with rfl | rfl <;> rfl) (fun H1 locs1 hP hD hS => kk H1 locs1 (am_I_wr hI hd ?_ hP hD hS) rfl rfl)
          show (Sum.inr (c0, am_fv al (am_wr h.2 a k y) a fl) : va_E) = _
          rw [am_fv_wr ho]
          rfl
        · cases he
      · rename_i o j ho
        cases he
        have ht : (ty k).isReference = true := by
          rcases h7 with ⟨h7, _⟩ | ⟨h7, _⟩ | ⟨_, h7⟩
          · cases h7
          · cases h7
          · exact h7
        have hl := (List.getElem?_eq_some_iff.mp hd).1
        refine fin (some o) ho (by show narrow (ty k) (.ref (al j)) = .ref (al j); cases hk : ty k <;> rw [hk] at ht <;> first | rfl | cases ht) (by show fits (ty k) (.ref (al j)) = true; cases hk : ty k <;> rw [hk] at ht <;> first | rfl | cases ht)
          (fun H1 locs1 hP hD hS => kk H1 locs1 (am_I_set hI hd ?_ ?_ hP hD hS) (by show (h.1.set a _).length = _; rw [List.length_set]) ?_)
        · show (Sum.inr (c0, am_fv al h.2 a (fl.set k (some (some j)))) : va_E) = _
          rw [am_fv_set ho]
          rfl
        · intro k2 j2 hj
          rw [List.getElem?_set] at hj
          by_cases hk2 : k = k2
          · rw [if_pos hk2, if_pos (List.getElem?_eq_some_iff.mp ho).1] at hj
            cases hj
            exact hv
          · rw [if_neg hk2] at hj
            exact hw k2 j2 hj
        · show am_slt (h.1.set a _) = _
          exact am_slt_set hd (by simp [am_sz])
      · cases he
    · cases he
  · cases he
end AMX
