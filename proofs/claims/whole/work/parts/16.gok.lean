/-! A grid of ints is made. -/
section AMG
variable {p : Program} {l : Launch} {e : Env} {R : Room} {s : State} {m : MethodId} {args : Array Value} {below : List Frame} {meth : Method} {c : Code}
variable {cc : ByteArray} {pc nL n0 s0 x : Nat} {A : Nat → Prop} {D : va_G} {cl : List vw_C} {cy : Nat → ClassId} {tys : List (ClassId × FieldType)} {own : String}
theorem am_gok (hx : p.tables.exec = Jvm.exec) (hb : c.code = cc) (hown : s.vm.findClass own = some m.cls) (hcl : (Cond.classLink own x "[[I").before args s = true) (hao : (Cond.arrayOver (.array .int)).before args s = true) (hac : (Cond.arrayClass .int).before args s = true) (hK : va_K D cl tys s) (hty : ∀ t ty, am_ty t = some ty → tys[t]? = some (cy t, ty)) (hA : ∀ q, s.heap.size ≤ q → A q) (hdg : decode cc pc = .ok (.multianewarray x 2, 4)) :
    am_GOK p l e R s m args below meth c A D cl cy nL n0 s0 pc 6 := by
  intro n k restK h al H locs lk Q hn hk hI hlk hn0 hs0 hc1 hc2 kk
  have hcy : s.vm.findClass (FieldType.array .int).toString = some (cy 0) := (hK.2 0 _ (hty 0 .int rfl)).2
  have hn1 : n.toNatClampNeg < 1000 := Nat.not_le.mp fun q => hn (Or.inr q)
  have hk1 : k.toNatClampNeg < 1000 := Nat.not_le.mp fun q => hk (Or.inr q)
  have e0 : am_wl cy al h ++ va_pl [] (fun _ => .inr (0, [])) = am_wl cy al h := by simp [va_pl]
  refine W.cs rfl rfl (va_mna (X := am_wl cy al h) (L := []) (f := fun _ => .inr (0, [])) (ty := .int) (cy := cy 0) (z := (k.toNatClampNeg, .inl (fun _ => 0))) (N' := n.toNatClampNeg) (K' := k.toNatClampNeg) hx hb hown hcl hao hac hcy hK (by rw [e0]; exact hI.1) (by rw [e0]; exact hI.2.1) hI.2.2.1 hA (fun q => hn (Or.inl q)) (fun q => hk (Or.inl q)) rfl rfl (by omega) ?_ (by omega) rfl rfl (by omega) (by omega) ?_ hdg ?_)
  · exact Nat.le_trans (Nat.mul_le_mul (Nat.le_of_lt hk1) (show componentBytes .int ≤ 8 by decide)) (by decide)
  · intro c1
    show ({ cls := c1, slots := Array.replicate k.toNatClampNeg (.int 0), vm := .none } : Cell) = arrV c1 k.toNatClampNeg (fun _ => .int 0)
    rw [arrV_new]
  · intro q r cA H1 hr1 hr2 hK1 hP hD hS
    have r1 := (hK1.2 tys.length (cA, .array .int) (by simp)).2
    have r2 := (hK.2 6 _ (hty 6 _ rfl)).2
    have ec : cA = cy 6 := Option.some.inj (r1.symm.trans r2)
    subst ec
    obtain ⟨al', hal'⟩ : ∃ al' : Nat → Nat, al' = fun i => if i < h.1.length then al i else if i = h.1.length then q else r (i - h.1.length - 1) := ⟨_, rfl⟩
    have a1 : ∀ i, i < h.1.length → al' i = al i := fun i hi => by rw [hal']; exact if_pos hi
    have a2 : al' h.1.length = q := by rw [hal']; simp
    have a3 : ∀ j, al' (h.1.length + 1 + j) = r j := fun j => by
      rw [hal']
      show (if _ then _ else if _ then _ else _) = _
      rw [if_neg (by omega), if_neg (by omega)]
      congr 1
      omega
    have ew : am_wl cy al' (h.1 ++ ([.inl (6, n.toNatClampNeg, some ((List.range n.toNatClampNeg).map fun i => some (h.1.length + 1 + i)))] ++ List.replicate n.toNatClampNeg (.inl (0, k.toNatClampNeg, none))), h.2)
        = (am_wl cy al h ++ [(q, .inl (cy 6, n.toNatClampNeg, .inr (.inr (.inr (.inr (fun i => if i < n.toNatClampNeg then some (r i) else none))))))]) ++ va_pl ([] ++ (List.range n.toNatClampNeg).map r) (vr_up (fun _ => .inr (0, [])) ((List.range n.toNatClampNeg).map r) (.inl (cy 0, k.toNatClampNeg, .inl (fun _ => 0)))) := by
      obtain ⟨ds, hds⟩ : ∃ ds : List am_D, ds = [.inl (6, n.toNatClampNeg, some ((List.range n.toNatClampNeg).map fun i => some (h.1.length + 1 + i)))] ++ List.replicate n.toNatClampNeg (.inl (0, k.toNatClampNeg, none)) := ⟨_, rfl⟩
      obtain ⟨rt, hrt⟩ : ∃ rt : va_W, rt = va_pl ([] ++ (List.range n.toNatClampNeg).map r) (vr_up (fun _ => .inr (0, [])) ((List.range n.toNatClampNeg).map r) (.inl (cy 0, k.toNatClampNeg, .inl (fun _ => 0)))) := ⟨_, rfl⟩
      obtain ⟨x0, hx0⟩ : ∃ x0 : Nat × va_E, x0 = (q, .inl (cy 6, n.toNatClampNeg, .inr (.inr (.inr (.inr (fun i => if i < n.toNatClampNeg then some (r i) else none)))))) := ⟨_, rfl⟩
      rw [← hds, ← hrt, ← hx0, List.append_assoc]
      apply List.ext_getElem?
      intro j
      have g0 : (am_wl cy al' (h.1 ++ ds, h.2))[j]? = ((h.1 ++ ds)[j]?).map (fun d => (al' j, am_ex cy al' h.2 j d)) := by
        unfold am_wl
        rw [List.getElem?_mapIdx]
      rw [g0]
      by_cases hj : j < h.1.length
      · have hd2 : h.1[j]? = some h.1[j] := List.getElem?_eq_getElem hj
        have g1 : (h.1 ++ ds)[j]? = h.1[j]? := List.getElem?_append_left hj
        have g2 : (am_wl cy al h ++ ([x0] ++ rt))[j]? = (am_wl cy al h)[j]? := List.getElem?_append_left (by rw [am_wl_len]; exact hj)
        rw [g1, g2, am_wl_at hd2, hd2]
        show some (_, _) = _
        rw [a1 j hj, am_ex_eq rfl a1 (hI.2.2.2.1 j _ hd2)]
      · have g1 : (h.1 ++ ds)[j]? = ds[j - h.1.length]? := List.getElem?_append_right (by omega)
        have g2 : (am_wl cy al h ++ ([x0] ++ rt))[j]? = ([x0] ++ rt)[j - h.1.length]? := by
          have := List.getElem?_append_right (l₁ := am_wl cy al h) (l₂ := [x0] ++ rt) (i := j) (by rw [am_wl_len]; omega)
          rw [am_wl_len] at this
          exact this
        rw [g1, g2]
        by_cases hk0 : j = h.1.length
        · subst hk0
          rw [Nat.sub_self, hds, hx0]
          show some (al' h.1.length, (Sum.inl (cy 6, n.toNatClampNeg, .inr (.inr (.inr (.inr (am_rf al' _))))) : va_E)) = some (q, _)
          rw [a2]
          have ef : am_rf al' ((List.range n.toNatClampNeg).map fun i => some (h.1.length + 1 + i)) = fun i => if i < n.toNatClampNeg then some (r i) else none := by
            funext i
            unfold am_rf
            rw [List.getElem?_map]
            by_cases hi : i < n.toNatClampNeg
            · rw [List.getElem?_range hi, if_pos hi]
              exact congrArg some (a3 i)
            · rw [List.getElem?_eq_none (by rw [List.length_range]; omega), if_neg hi]
              rfl
          rw [ef]
        · obtain ⟨i, hi⟩ : ∃ i, j = h.1.length + 1 + i := ⟨j - h.1.length - 1, by omega⟩
          subst hi
          rw [show h.1.length + 1 + i - h.1.length = i + 1 by omega, hds]
          show (((List.replicate n.toNatClampNeg (Sum.inl (0, k.toNatClampNeg, none)))[i]?).map _) = rt[i]?
          rw [hrt]
          unfold va_pl
          rw [List.nil_append, List.getElem?_map, List.getElem?_map, List.getElem?_replicate]
          by_cases hin : i < n.toNatClampNeg
          · rw [if_pos hin, List.getElem?_range hin]
            show some (al' (h.1.length + 1 + i), (Sum.inl (cy 0, k.toNatClampNeg, .inl (h.2 (h.1.length + 1 + i))) : va_E)) = some (r i, _)
            have ez : h.2 (h.1.length + 1 + i) = fun _ => 0 := funext fun z => hI.2.2.2.2 _ _ (by omega)
            rw [a3, vr_up_in (List.mem_map.mpr ⟨i, List.mem_range.mpr hin, rfl⟩), ez]
          · rw [if_neg hin, List.getElem?_eq_none (by rw [List.length_range]; omega)]
            rfl
    have hl : ∀ tq : List am_D, (h.1 ++ tq).length = h.1.length + tq.length := fun tq => List.length_append
    have kk := kk al' H1 a1 ⟨by rw [ew]; exact hP, by rw [ew]; exact hD, hS, fun i d hd => ?_, fun i z hi => ?_⟩
    · rw [a2] at kk
      exact W.cs (by omega) (by omega) kk
    · show am_dw (h.1 ++ _).length d
      have hd : (h.1 ++ ([.inl (6, n.toNatClampNeg, some ((List.range n.toNatClampNeg).map fun i => some (h.1.length + 1 + i)))] ++ List.replicate n.toNatClampNeg (.inl (0, k.toNatClampNeg, none))))[i]? = some d := hd
      rw [hl, List.length_append, List.length_replicate, List.length_singleton]
      by_cases hi : i < h.1.length
      · rw [List.getElem?_append_left hi] at hd
        exact am_dw_up (by omega) (hI.2.2.2.1 i d hd)
      · rw [List.getElem?_append_right (by omega)] at hd
        rcases List.mem_append.mp (List.mem_of_getElem? hd) with hm | hm
        · rw [List.mem_singleton.mp hm]
          refine ⟨by simp, fun j r2 hj => ?_, _, rfl, rfl⟩
          rw [List.getElem?_map] at hj
          by_cases hj2 : j < n.toNatClampNeg
          · rw [List.getElem?_range hj2] at hj
            cases hj
            omega
          · rw [List.getElem?_eq_none (by rw [List.length_range]; omega)] at hj
            cases hj
        · rw [(List.mem_replicate.mp hm).2]
          trivial
    · refine hI.2.2.2.2 i z ?_
      have hi2 := hi
      dsimp only at hi2
      rw [hl] at hi2
      omega
theorem am_KG {y : MethodName} {Ts : List Jvm.Cond} (hsub : ∀ w ∈ Ts, w ∈ am_tb) (hw : (am_in Ts (.classLink y.cls x "[[I") && (am_in Ts (.arrayOver (.array .int)) && am_in Ts (.arrayClass .int))) = true) : am_Kg l y cl cc nL x 6 := by
  intro p e R s m args below meth c A D cy tys n0 s0 pc S hN hK hty hA hd
  simp only [Bool.and_eq_true] at hw
  obtain ⟨w1, w2, w3⟩ := hw
  obtain ⟨hx, hb, hml, ho, hts⟩ := S
  exact am_gok hx hb ho (am_in_ok hts hsub w1) (am_in_ok hts hsub w2) (am_in_ok hts hsub w3) hK hty hA hd
end AMG
