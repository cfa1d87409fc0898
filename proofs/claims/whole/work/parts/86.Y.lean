/-! What frames and rows lead to: the least closed set -/
/-- row i leads to row j -/
def eg (cl : Nat → Nat) (vl : Nat → Nat → Int32) (G : Nat → pLy) (i j : Nat) : Prop := ∃ (k : Nat) (e : Nat × Nat × Int32), (G (cl i))[k]? = some e ∧ e.2.1 ≠ 0 ∧ vl i k = nI (j + 1)
/-- a frame leads to row j -/
def rtF (K : Nat) (F : pFr) (j : Nat) : Prop := (∃ i, i < 4 ∧ lk K i ≠ 0 ∧ F.2.2.1 i = nI (j + 1)) ∨ ∃ e ∈ F.2.2.2, e.2 ≠ 0 ∧ e.1 = nI (j + 1)
def rtA (G : pPg) (FS : List pFr) (j : Nat) : Prop := ∃ F ∈ FS, rtF (G.2.1 F.1).2.1 F j
/-- a list of rows, each once -/
def okLs (l : List Nat) : Prop := l.Nodup ∧ ∀ j ∈ l, j < 16
theorem rw_of {v : Int32} (h1 : ¬ v < 1) (h2 : ¬ 16 < v) : ∃ j, j < 16 ∧ v = nI (j + 1) ∧ (v - 1).toNatClampNeg = j := by
  obtain ⟨k, hk, rfl⟩ := nI_of2 (M := 16) (n := 16) (by decide) (fun q : v < 0 => h1 (Int32.lt_trans q (by decide))) (Int32.not_lt.mp h2)
  have hk1 : ¬ k < 1 := fun q => h1 (nI_lt (b := 1) q (by decide))
  refine ⟨k - 1, by omega, by rw [Nat.sub_add_cancel (by omega)], ?_⟩
  have := nI_pred (k - 1)
  rw [Nat.sub_add_cancel (by omega)] at this
  rw [this, nI_clamp (by omega)]
theorem rw_in : ∀ j, j < 16 → ¬ nI (j + 1) < 1 ∧ ¬ 16 < nI (j + 1) := by decide +kernel
theorem pRch_ok {l : List Nat} {v : Int32} {t : Nat} (h : okLs l) : okLs (pRch l v t) := by
  unfold pRch
  split
  · rename_i q
    obtain ⟨q1, q2, q3, q4⟩ := q
    obtain ⟨j, hj, e1, e2⟩ := rw_of q2 q3
    rw [e2] at q4 ⊢
    refine ⟨List.nodup_append.mpr ⟨h.1, by simp, fun a ha b hb => ?_⟩, fun i hi => ?_⟩
    · rw [List.mem_singleton] at hb
      rw [hb]
      exact fun e => q4 (e ▸ ha)
    · rcases List.mem_append.mp hi with hi | hi
      · exact h.2 i hi
      · rw [List.mem_singleton] at hi
        rw [hi]; exact hj
  · exact h
theorem pRch_pre {l : List Nat} {v : Int32} {t : Nat} : ∃ r, pRch l v t = l ++ r := by
  unfold pRch
  split
  · exact ⟨_, rfl⟩
  · exact ⟨[], (List.append_nil l).symm⟩
theorem pRch_mem {l : List Nat} {v : Int32} {t j : Nat} (hj : j < 16) : j ∈ pRch l v t ↔ j ∈ l ∨ (t ≠ 0 ∧ v = nI (j + 1)) := by
  unfold pRch
  split
  · rename_i q
    obtain ⟨q1, q2, q3, q4⟩ := q
    obtain ⟨i, hi, e1, e2⟩ := rw_of q2 q3
    rw [List.mem_append, List.mem_singleton, e2, e1]
    constructor
    · rintro (w | rfl)
      · exact Or.inl w
      · exact Or.inr ⟨q1, rfl⟩
    · rintro (w | ⟨w1, w2⟩)
      · exact Or.inl w
      · have := (nI_eq (by omega) (by omega)).mp w2
        exact Or.inr (by omega)
  · rename_i q
    constructor
    · exact Or.inl
    · rintro (w | ⟨w1, w2⟩)
      · exact w
      · refine Classical.byContradiction (fun w3 => q ⟨w1, ?_, ?_, ?_⟩)
        · rw [w2]; exact (rw_in j hj).1
        · rw [w2]; exact (rw_in j hj).2
        · rw [w2, nI_pred, nI_clamp (by omega)]
          exact w3
theorem rchL_ok {K : Nat} {f : Nat → Int32} : ∀ (r i : Nat) {l : List Nat}, okLs l → okLs (rchL K f i r l)
  | 0, _, _, h => h
  | r + 1, i, _, h => rchL_ok r (i + 1) (pRch_ok h)
theorem rchL_mem {K : Nat} {f : Nat → Int32} {j : Nat} (hj : j < 16) : ∀ (r i : Nat) (l : List Nat), j ∈ rchL K f i r l ↔ j ∈ l ∨ ∃ k, i ≤ k ∧ k < i + r ∧ lk K k ≠ 0 ∧ f k = nI (j + 1)
  | 0, i, l => ⟨Or.inl, fun q => q.elim id (fun ⟨k, q1, q2, _⟩ => by omega)⟩
  | r + 1, i, l => by
    rw [rchL, rchL_mem hj r (i + 1), pRch_mem hj]
    constructor
    · rintro ((w | ⟨w1, w2⟩) | ⟨k, w1, w2, w3⟩)
      · exact Or.inl w
      · exact Or.inr ⟨i, by omega, by omega, w1, w2⟩
      · exact Or.inr ⟨k, by omega, by omega, w3⟩
    · rintro (w | ⟨k, w1, w2, w3⟩)
      · exact Or.inl (Or.inl w)
      · by_cases e : k = i
        · rw [e] at w3; exact Or.inl (Or.inr w3)
        · exact Or.inr ⟨k, by omega, by omega, w3⟩
theorem rchSt_ok : ∀ (st : List (Int32 × Nat)) {l : List Nat}, okLs l → okLs (rchSt l st)
  | [], _, h => h
  | _ :: st, _, h => rchSt_ok st (pRch_ok h)
theorem rchSt_mem {j : Nat} (hj : j < 16) : ∀ (st : List (Int32 × Nat)) (l : List Nat), j ∈ rchSt l st ↔ j ∈ l ∨ ∃ e ∈ st, e.2 ≠ 0 ∧ e.1 = nI (j + 1)
  | [], l => ⟨Or.inl, fun q => q.elim id (fun ⟨e, q1, _⟩ => by cases q1)⟩
  | a :: st, l => by
    have ih := rchSt_mem hj st (pRch l a.1 a.2)
    have e1 : rchSt l (a :: st) = rchSt (pRch l a.1 a.2) st := rfl
    rw [e1, ih, pRch_mem hj]
    constructor
    · rintro ((w | w) | ⟨e, w1, w2⟩)
      · exact Or.inl w
      · exact Or.inr ⟨a, List.mem_cons_self, w⟩
      · exact Or.inr ⟨e, List.mem_cons_of_mem _ w1, w2⟩
    · rintro (w | ⟨e, w1, w2⟩)
      · exact Or.inl (Or.inl w)
      · rcases List.mem_cons.mp w1 with rfl | w1
        · exact Or.inl (Or.inr w2)
        · exact Or.inr ⟨e, w1, w2⟩
theorem rchFr_ok {K : Nat} {F : pFr} {l : List Nat} (h : okLs l) : okLs (rchFr K F l) := rchSt_ok _ (rchL_ok 4 0 h)
theorem rchFr_mem {K : Nat} {F : pFr} {l : List Nat} {j : Nat} (hj : j < 16) : j ∈ rchFr K F l ↔ j ∈ l ∨ rtF K F j := by
  unfold rchFr rtF
  rw [rchSt_mem hj, rchL_mem hj]
  constructor
  · rintro ((w | ⟨k, w1, w2, w3, w4⟩) | ⟨e, w1, w2⟩)
    · exact Or.inl w
    · exact Or.inr (Or.inl ⟨k, by omega, w3, w4⟩)
    · exact Or.inr (Or.inr ⟨e, List.mem_reverse.mp w1, w2⟩)
  · rintro (w | ⟨k, w2, w3, w4⟩ | ⟨e, w1, w2⟩)
    · exact Or.inl (Or.inl w)
    · exact Or.inl (Or.inr ⟨k, by omega, by omega, w3, w4⟩)
    · exact Or.inr ⟨e, List.mem_reverse.mpr w1, w2⟩
theorem rchAll_ok {G : pPg} : ∀ (FS : List pFr) {l : List Nat}, okLs l → okLs (rchAll G l FS)
  | [], _, h => h
  | _ :: FS, _, h => rchAll_ok FS (rchFr_ok h)
theorem rchAll_mem {G : pPg} {j : Nat} (hj : j < 16) : ∀ (FS : List pFr) (l : List Nat), j ∈ rchAll G l FS ↔ j ∈ l ∨ rtA G FS j
  | [], l => ⟨Or.inl, fun q => q.elim id (fun ⟨e, q1, _⟩ => by cases q1)⟩
  | a :: FS, l => by
    have e1 : rchAll G l (a :: FS) = rchAll G (rchFr (G.2.1 a.1).2.1 a l) FS := rfl
    rw [e1, rchAll_mem hj FS, rchFr_mem hj]
    constructor
    · rintro ((w | w) | ⟨e, w1, w2⟩)
      · exact Or.inl w
      · exact Or.inr ⟨a, List.mem_cons_self, w⟩
      · exact Or.inr ⟨e, List.mem_cons_of_mem _ w1, w2⟩
    · rintro (w | ⟨e, w1, w2⟩)
      · exact Or.inl (Or.inl w)
      · rcases List.mem_cons.mp w1 with rfl | w1
        · exact Or.inl (Or.inr w2)
        · exact Or.inr ⟨e, w1, w2⟩
theorem rchF_ok {L : pLy} {v : Nat → Int32} : ∀ (r k : Nat) {l : List Nat}, okLs l → okLs (rchF L v k r l)
  | 0, _, _, h => h
  | r + 1, k, _, h => rchF_ok r (k + 1) (pRch_ok h)
theorem rchF_pre {L : pLy} {v : Nat → Int32} : ∀ (r k : Nat) (l : List Nat), ∃ t, rchF L v k r l = l ++ t
  | 0, _, l => ⟨[], (List.append_nil l).symm⟩
  | r + 1, k, l => by
    obtain ⟨t1, e1⟩ := pRch_pre (l := l) (v := v k) (t := (L[k]?.map (fun e => e.2.1)).getD 0)
    obtain ⟨t2, e2⟩ := rchF_pre (L := L) (v := v) r (k + 1) (pRch l (v k) ((L[k]?.map (fun e => e.2.1)).getD 0))
    exact ⟨t1 ++ t2, by rw [rchF, e2, e1, List.append_assoc]⟩
theorem rchF_mem {L : pLy} {v : Nat → Int32} {j : Nat} (hj : j < 16) : ∀ (r k : Nat) (l : List Nat), k + r = L.length → (j ∈ rchF L v k r l ↔ j ∈ l ∨ ∃ (i : Nat) (e : Nat × Nat × Int32), k ≤ i ∧ L[i]? = some e ∧ e.2.1 ≠ 0 ∧ v i = nI (j + 1))
  | 0, k, l, hk => ⟨Or.inl, fun q => q.elim id (fun ⟨i, e, q1, q2, _⟩ => by
      have := (List.getElem?_eq_some_iff.mp q2).1
      omega)⟩
  | r + 1, k, l, hk => by
    obtain ⟨e, he⟩ : ∃ e, L[k]? = some e := ⟨_, List.getElem?_eq_getElem (by omega)⟩
    have e1 : (L[k]?.map (fun e => e.2.1)).getD 0 = e.2.1 := by rw [he]; rfl
    rw [rchF, rchF_mem hj r (k + 1) _ (by omega), e1, pRch_mem hj]
    constructor
    · rintro ((w | w) | ⟨i, e2, w1, w2⟩)
      · exact Or.inl w
      · exact Or.inr ⟨k, e, Nat.le_refl _, he, w⟩
      · exact Or.inr ⟨i, e2, by omega, w2⟩
    · rintro (w | ⟨i, e2, w1, w2, w3⟩)
      · exact Or.inl (Or.inl w)
      · by_cases q : i = k
        · rw [q, he] at w2
          obtain rfl := Option.some.inj w2
          rw [q] at w3
          exact Or.inl (Or.inr w3)
        · exact Or.inr ⟨i, e2, by omega, w2, w3⟩
section SY
variable {cl : Nat → Nat} {vl : Nat → Nat → Int32} {G : Nat → pLy}
theorem rof_closed : ∀ (r i : Nat) (l : List Nat), i + r = 16 → okLs l → (∀ (k a : Nat), k < i → l[k]? = some a → ∀ j, j < 16 → eg cl vl G a j → j ∈ l) → okLs (rof cl vl G i r l) ∧ (∀ j, j ∈ l → j ∈ rof cl vl G i r l) ∧ ∀ a j, a ∈ rof cl vl G i r l → j < 16 → eg cl vl G a j → j ∈ rof cl vl G i r l
  | 0, i, l, hi, hl, h => by
    refine ⟨hl, fun j hj => hj, fun a j ha hj he => ?_⟩
    obtain ⟨k, hk⟩ := List.getElem?_of_mem ha
    have h1 := (List.getElem?_eq_some_iff.mp hk).1
    have h2 := nodup_le 16 l hl.1 hl.2
    have h3 : rof cl vl G i 0 l = l := rfl
    rw [h3] at h1 hk
    exact h k a (by omega) hk j hj he
  | r + 1, i, l, hi, hl, h => by
    rw [rof]
    cases hg : l[i]? with
    | none =>
      dsimp only
      refine ⟨hl, fun j hj => hj, fun a j ha hj he => ?_⟩
      obtain ⟨k, hk⟩ := List.getElem?_of_mem ha
      have h1 := (List.getElem?_eq_some_iff.mp hk).1
      have h2 := List.getElem?_eq_none_iff.mp hg
      exact h k a (by omega) hk j hj he
    | some row =>
      dsimp only
      obtain ⟨t, et⟩ := rchF_pre (L := G (cl row)) (v := vl row) (G (cl row)).length 0 l
      have hi2 := (List.getElem?_eq_some_iff.mp hg).1
      have hm := fun j (hj : j < 16) => rchF_mem (L := G (cl row)) (v := vl row) hj (G (cl row)).length 0 l (by omega)
      obtain ⟨a1, a2, a3⟩ := rof_closed r (i + 1) _ (by omega) (rchF_ok (L := G (cl row)) (v := vl row) (G (cl row)).length 0 hl) (fun k a hk ha j hj he => by
        rw [hm j hj]
        rw [et, List.getElem?_append_left (by omega)] at ha
        by_cases q : k = i
        · rw [q, hg] at ha
          obtain rfl := Option.some.inj ha
          obtain ⟨k2, e2, w1, w2, w3⟩ := he
          exact Or.inr ⟨k2, e2, Nat.zero_le _, w1, w2, w3⟩
        · exact Or.inl (h k a (by omega) ha j hj he))
      exact ⟨a1, fun j hj => a2 j (by rw [et]; exact List.mem_append_left _ hj), a3⟩
theorem rof_least {T : Nat → Prop} (hT : ∀ a j, a < 16 → j < 16 → T a → eg cl vl G a j → T j) : ∀ (r i : Nat) (l : List Nat), okLs l → (∀ j ∈ l, T j) → ∀ j ∈ rof cl vl G i r l, T j
  | 0, _, _, _, h => h
  | r + 1, i, l, hl, h => by
    rw [rof]
    cases hg : l[i]? with
    | none => exact h
    | some row =>
      have hrow := List.mem_of_getElem? hg
      have hok := rchF_ok (L := G (cl row)) (v := vl row) (G (cl row)).length 0 hl
      refine rof_least hT r (i + 1) _ hok (fun j hj => ?_)
      have hj16 := hok.2 j hj
      rcases (rchF_mem (L := G (cl row)) (v := vl row) hj16 (G (cl row)).length 0 l (by omega)).mp hj with w | ⟨k, e, _, w⟩
      · exact h j w
      · exact hT row j (hl.2 row hrow) hj16 (h row hrow) ⟨k, e, w⟩
end SY
theorem okLs_nil : okLs [] := ⟨List.nodup_nil, fun j h => by cases h⟩
theorem rtA_rev {G : pPg} {FS : List pFr} {j : Nat} : rtA G FS.reverse j ↔ rtA G FS j := by
  unfold rtA
  constructor
  · rintro ⟨F, h1, h2⟩
    exact ⟨F, List.mem_reverse.mp h1, h2⟩
  · rintro ⟨F, h1, h2⟩
    exact ⟨F, List.mem_reverse.mpr h1, h2⟩
section SY2
variable {P : pPg} {FS : List pFr} {cl : Nat → Nat} {vl : Nat → Nat → Int32}
theorem pLs_lt : ∀ j ∈ pLs P FS cl vl, j < 16 := (rof_closed 16 0 _ (by omega) (rchAll_ok FS.reverse okLs_nil) (fun k a hk => by omega)).1.2
theorem pLs_root {j : Nat} (hj : j < 16) (h : rtA P FS j) : j ∈ pLs P FS cl vl :=
  (rof_closed 16 0 _ (by omega) (rchAll_ok FS.reverse okLs_nil) (fun k a hk => by omega)).2.1 j ((rchAll_mem hj FS.reverse []).mpr (Or.inr (rtA_rev.mpr h)))
theorem pLs_edge {i j : Nat} (hj : j < 16) (hi : i ∈ pLs P FS cl vl) (h : eg cl vl P.1 i j) : j ∈ pLs P FS cl vl :=
  (rof_closed 16 0 _ (by omega) (rchAll_ok FS.reverse okLs_nil) (fun k a hk => by omega)).2.2 i j hi hj h
theorem pLs_least {T : Nat → Prop} (h1 : ∀ j, j < 16 → rtA P FS j → T j) (h2 : ∀ i j, i < 16 → j < 16 → T i → eg cl vl P.1 i j → T j) : ∀ j ∈ pLs P FS cl vl, T j :=
  rof_least h2 16 0 _ (rchAll_ok FS.reverse okLs_nil) (fun j hj => by
    have hj16 := (rchAll_ok (G := P) FS.reverse okLs_nil).2 j hj
    rcases (rchAll_mem hj16 FS.reverse []).mp hj with w | w
    · cases w
    · exact h1 j hj16 (rtA_rev.mp w))
end SY2
