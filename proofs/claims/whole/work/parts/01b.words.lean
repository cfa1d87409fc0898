/-! the words that a contract may have, and those that go with the state -/
def am_gt : List Jvm.Cond := lw_tbl.filter goodWord
def am_isN : Jvm.Cond → Bool
  | .fieldLinkNest .. => true
  | .methodLinkNest .. => true
  | .arrayOver (.object _) => true
  | .arrayOver (.array _) => true
  | _ => false
def am_nt : List Jvm.Cond := lw_tbl.filter am_isN
def am_tb : List Jvm.Cond := lw_tbl.filter (fun w => goodWord w || am_isN w)
theorem am_nt_k : ∀ w ∈ am_nt, am_isN w = true := fun w hw => (List.mem_filter.mp hw).2
def am_NW (U : State) : Prop := ∀ w ∈ am_nt, w.before #[] U = true
theorem am_aoA_spec {args : Array Value} {first s : State} {o : Option Outcome} {idx : List Nat} {n : FieldType} (h : (Cond.arrayOver (.array n)).holds args first o s idx = true) :
    ∃ comp c k, s.vm.findClass (FieldType.array n).toString = some comp ∧ (s.vm.classes.findIdx? fun x => match x.kind with | .array component _ => component == comp | _ => false) = some c ∧ s.vm.classes[c]? = some k ∧ k.kind = .array comp (.array n) ∧
      s.vm.findClass ("[" ++ (FieldType.array n).toString) = some c := by
  simp only [Cond.holds, Cond.value, beq_iff_eq] at h
  cases hc : s.vm.findClass (FieldType.array n).toString with
  | none => simp [hc] at h
  | some comp =>
    simp only [hc, Option.bind_some, Option.bind_eq_some_iff, Option.map_eq_some_iff] at h
    obtain ⟨c, hi, k, hk, hb⟩ := h
    obtain ⟨hlt, hp, -⟩ := Array.findIdx?_eq_some_iff_getElem.mp hi
    have hkk : s.vm.classes[c] = k := (Array.getElem?_eq_some_iff.mp hk).2
    rw [hkk] at hp
    cases hkind : k.kind with
    | array component ty =>
      rw [hkind] at hb hp
      simp at hb hp
      exact ⟨comp, c, k, rfl, hi, hk, by rw [hkind, hp, hb.1], hb.2⟩
    | _ => rw [hkind] at hb; simp at hb
theorem am_aoA_moved {t : FieldType} {u U : State} (hvm : u.vm.Alike U.vm) (h : (Cond.arrayOver (.array t)).before #[] u = true) : (Cond.arrayOver (.array t)).before #[] U = true := by
  obtain ⟨comp, c, k, h1, h2, h3, h4, h5⟩ := am_aoA_spec h
  obtain ⟨k', hk', he⟩ := hvm.2.2 _ _ h3
  have hi : (U.vm.classes.findIdx? fun (x : Class) => match x.kind with | .array component _ => component == comp | _ => false) = some c := by
    have e1 := va_idx_bare U.vm comp
    have e2 := va_idx_bare u.vm comp
    first | rw [hvm.bare_eq] at e1 | rw [← hvm.bare_eq] at e1
    exact (e1.symm.trans e2).trans h2
  have hkind : k'.kind = .array comp (.array t) := by rw [he]; exact h4
  have f1 : U.vm.findClass (FieldType.array t).toString = some comp := by rw [hvm.findClass]; exact h1
  have f2 : U.vm.findClass ("[" ++ (FieldType.array t).toString) = some c := by rw [hvm.findClass]; exact h5
  unfold Cond.before Cond.holds
  simp only [Cond.value]
  rw [f1, Option.bind_some]
  refine (congrArg (fun o : Option Nat => (o.bind (fun c => (U.vm.classes[c]?).map fun (k : Class) => match k.kind with | .array _ ty => decide (ty = FieldType.array t) && decide (U.vm.findClass ("[" ++ (FieldType.array t).toString) = some c) | _ => false) == some true)) hi).trans ?_
  simp [hk', hkind, f2]
theorem am_N_warm {s U : State} (hW : s.WarmedH U.vm) {w : Jvm.Cond} (hk : am_isN w = true) (h : w.before #[] s = true) : w.before #[] U = true := by
  cases w with
  | fieldLinkNest a i b n d x => exact va_Nw.warmF hW h
  | methodLinkNest a i x y => exact va_Nw.warmM hW h
  | arrayOver t =>
    cases t with
    | object C => exact va_AO.moved hW.alike h
    | array t => exact am_aoA_moved hW.alike h
    | _ => cases hk
  | _ => cases hk
theorem am_N_same {u U : State} (hv : u.vm = U.vm) {w : Jvm.Cond} (hk : am_isN w = true) (h : w.before #[] u = true) : w.before #[] U = true := by
  cases w with
  | fieldLinkNest a i b n d x => exact va_tabs rfl hv h
  | methodLinkNest a i x y => exact va_tabs rfl hv h
  | arrayOver t =>
    have ha : u.vm.Alike U.vm := by rw [hv]; exact Vm.Alike.refl _
    cases t with
    | object C => exact va_AO.moved ha h
    | array t => exact am_aoA_moved ha h
    | _ => cases hk
  | _ => cases hk
theorem am_N_use {s : State} {args : Array Value} {w : Jvm.Cond} (hk : am_isN w = true) (h : w.before #[] s = true) : w.before args s = true := by
  cases w with
  | fieldLinkNest a i b n d x => exact va_tabs rfl rfl h
  | methodLinkNest a i x y => exact va_tabs rfl rfl h
  | arrayOver t => exact h
  | _ => cases hk
theorem am_N_of {s : State} {args : Array Value} {w : Jvm.Cond} (hk : am_isN w = true) (h : w.before args s = true) : w.before #[] s = true := by
  cases w with
  | fieldLinkNest a i b n d x => exact va_tabs rfl rfl h
  | methodLinkNest a i x y => exact va_tabs rfl rfl h
  | arrayOver t => exact h
  | _ => cases hk
theorem am_NW_warm {s U : State} (hW : s.WarmedH U.vm) (h : am_NW s) : am_NW U := fun w hw => am_N_warm hW (am_nt_k w hw) (h w hw)
theorem am_NW_same {u U : State} (hv : u.vm = U.vm) (h : am_NW u) : am_NW U := fun w hw => am_N_same hv (am_nt_k w hw) (h w hw)
theorem am_all {s : State} {args : Array Value} (hts : ∀ w ∈ am_gt, w.before args s = true) (hN : am_NW s) : ∀ w ∈ am_tb, w.before args s = true := by
  intro w hw
  have h1 := List.mem_filter.mp hw
  cases hg : goodWord w with
  | true => exact hts w (List.mem_filter.mpr ⟨h1.1, hg⟩)
  | false =>
    have hm : w ∈ am_nt := List.mem_filter.mpr ⟨h1.1, by have := h1.2; rw [hg, Bool.false_or] at this; exact this⟩
    exact am_N_use (am_nt_k w hm) (hN w hm)
theorem am_NW_of {s : State} {args : Array Value} (hts : ∀ w ∈ lw_tbl, w.before args s = true) : am_NW s := fun w hw => am_N_of (am_nt_k w hw) (hts w (List.mem_filter.mp hw).1)
