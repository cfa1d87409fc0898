/-! printed by gen.py: contracts -/
theorem am_noG {l : Launch} {y : MethodName} {cl : List vw_C} {cc : ByteArray} {nL : Nat} {ar : List (Nat × Nat)} {al : List Nat} (h : ar.all (fun q => al.contains q.1) = true) : ∀ x t, ar.lookup x = some t → x ∉ al → am_Kg l y cl cc nL x t := fun x t hx hn => by
  have := List.all_eq_true.mp h _ (am_lookup_mem hx)
  exact absurd (by simpa using this) hn
