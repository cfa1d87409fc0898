/-! What always holds: programs -/
/-- a program is in range -/
def iP (G : pPg) : Prop := okP G ∧ okL G.1 ∧ (∀ c, c < 4 → okNm (G.1 c)) ∧ (∃ n, n < 64 ∧ G.2.2.1 = nI n) ∧ (∃ n, n < 64 ∧ G.2.2.2.1 = nI n) ∧ tbit G.2.2.1 (nI 0) = false
/-- every place of a program is good -/
def iG (G : pPg) : Prop := ∀ m, m < 6 → ∀ j, j ≤ (G.2.1 m).2.2.2.length → (ckTo G (G.2.1 m) j).2 = false
/-- D was made from N -/
def iL (N D : pPg) : Prop := (∀ c, c < 4 → (tbit D.2.2.1 (nI c) = false → D.1 c = N.1 c) ∧ (tbit D.2.2.1 (nI c) = true → ∀ (k : Nat) (e : Nat × Nat × Int32), (D.1 c)[k]? = some e → e.2.2 = -1 ∨ pTy (N.1 c) e.2.2 = some e.2.1)) ∧ ∀ m, m < 6 → tbit D.2.2.2.1 (nI m) = false → D.2.1 m = N.2.1 m
/-- what D bars of N -/
def iB (N D : pPg) : Prop := D.2.2.2.2 = pRs N.2.1 D.2.2.1 D.2.2.2.1 (pOw D.2.1 N.2.1 6) 6
theorem ckOp_e {G G' : pPg} (h1 : G.1 = G'.1) (h2 : G.2.1 = G'.2.1) (R : pRo) (e : Nat × Int32 × Nat) (σ : List Int32 × Bool) : ckOp G R e σ = ckOp G' R e σ := by
  unfold ckOp
  rw [h1, h2]
theorem ckTo_e {G G' : pPg} (h1 : G.1 = G'.1) (h2 : G.2.1 = G'.2.1) (R : pRo) : ∀ j, ckTo G R j = ckTo G' R j
  | 0 => rfl
  | j + 1 => by
    rw [ckTo, ckTo, ckTo_e h1 h2 R j]
    cases R.2.2.2[j]? with
    | none => rfl
    | some e =>
      dsimp only
      unfold ckAt
      rw [ckOp_e h1 h2]
theorem iG_e {G G' : pPg} (h1 : G.1 = G'.1) (h2 : G.2.1 = G'.2.1) (h : iG G') : iG G := fun m hm j hj => by
  rw [ckTo_e h1 h2, h2]
  rw [h2] at hj
  exact h m hm j hj
theorem ckFrom_all (G : pPg) (R : pRo) : ∀ (r j : Nat), j + r = R.2.2.2.length → (∀ q, q ≤ j → (ckTo G R q).2 = false) → ckFrom G R j r (ckTo G R j) = none → ∀ q, q ≤ R.2.2.2.length → (ckTo G R q).2 = false
  | 0, j, hj, h, _, q, hq => h q (by omega)
  | r + 1, j, hj, h, hc, q, hq => by
    obtain ⟨e, he⟩ : ∃ e, R.2.2.2[j]? = some e := ⟨_, List.getElem?_eq_getElem (by omega)⟩
    have es : ckTo G R (j + 1) = ckAt G R j e (ckTo G R j) := by rw [ckTo, he]
    rw [ckFrom, he] at hc
    dsimp only at hc
    rw [← es] at hc
    by_cases hb : (ckTo G R (j + 1)).2 = true
    · rw [if_pos hb] at hc; cases hc
    · rw [if_neg hb] at hc
      refine ckFrom_all G R r (j + 1) (by omega) (fun q hq => ?_) hc q hq
      by_cases w : q = j + 1
      · rw [w]; simpa using hb
      · exact h q (by omega)
theorem ckAll_all (G : pPg) : ∀ (r m : Nat), ckAll G m r = none → ∀ k, m ≤ k → k < m + r → ∀ j, j ≤ (G.2.1 k).2.2.2.length → (ckTo G (G.2.1 k) j).2 = false
  | 0, m, _, k, h1, h2 => by omega
  | r + 1, m, h, k, h1, h2 => by
    rw [ckAll] at h
    cases hf : ckFrom G (G.2.1 m) 0 (G.2.1 m).2.2.2.length ([], false) with
    | some j => rw [hf] at h; cases h
    | none =>
      rw [hf] at h
      by_cases w : k = m
      · rw [w]
        exact ckFrom_all G (G.2.1 m) _ 0 (by omega) (fun q hq => by rw [show q = 0 by omega]; rfl) hf
      · exact ckAll_all G r (m + 1) h k (by omega) (by omega)
theorem iG_of {G : pPg} (h : ckAll G 0 6 = none) : iG G := fun m hm => ckAll_all G 6 0 h m (by omega) (by omega)
theorem pRs_bit {R' : Nat → pRo} {tc ow : Int32} {n0 : Nat} (hn0 : n0 < 64) : ∀ j, j ≤ 6 → ∃ n, n < 64 ∧ pRs R' tc (nI n0) ow j = nI n ∧ ∀ k, k < 6 → (tbit (nI n) (nI k) = true ↔ tbit (nI n0) (nI k) = true ∨ (k < j ∧ ((R' k).2.2.2.any (pUse tc) = true ∨ (R' k).2.2.2.any (pCal ow) = true)))
  | 0, _ => ⟨n0, hn0, rfl, fun k hk => ⟨Or.inl, fun q => q.elim id (fun q => by omega)⟩⟩
  | j + 1, hj => by
    obtain ⟨n, h1, h2, h3⟩ := pRs_bit (R' := R') (tc := tc) (ow := ow) hn0 j (by omega)
    obtain ⟨b1, b2, b3⟩ := bt_or n h1 j (by omega)
    unfold pRs
    by_cases q : (R' j).2.2.2.any (pUse tc) = true ∨ (R' j).2.2.2.any (pCal ow) = true
    · rw [zif_t q, h2, b2]
      refine ⟨_, b3, rfl, fun k hk => ?_⟩
      rw [← b2, b1 k hk, Bool.or_eq_true, h3 k hk, decide_eq_true_iff]
      constructor
      · rintro ((w | ⟨w1, w2⟩) | rfl)
        · exact Or.inl w
        · exact Or.inr ⟨by omega, w2⟩
        · exact Or.inr ⟨by omega, q⟩
      · rintro (w | ⟨w1, w2⟩)
        · exact Or.inl (Or.inl w)
        · by_cases w : k = j
          · exact Or.inr w.symm
          · exact Or.inl (Or.inr ⟨by omega, w2⟩)
    · rw [zif_f q]
      refine ⟨n, h1, h2, fun k hk => ?_⟩
      rw [h3 k hk]
      constructor
      · rintro (w | ⟨w1, w2⟩)
        · exact Or.inl w
        · exact Or.inr ⟨by omega, w2⟩
      · rintro (w | ⟨w1, w2⟩)
        · exact Or.inl w
        · by_cases w : k = j
          · rw [w] at w2; exact absurd w2 q
          · exact Or.inr ⟨by omega, w2⟩
/-- a method that is not barred -/
theorem iB_free {N D : pPg} (hD : iP D) (hB : iB N D) {m : Nat} (hm : m < 6) (h : tbit D.2.2.2.2 (nI m) = false) : tbit D.2.2.2.1 (nI m) = false ∧ (∀ e ∈ (N.2.1 m).2.2.2, pUse D.2.2.1 e = false) ∧ ∀ e ∈ (N.2.1 m).2.2.2, pCal (pOw D.2.1 N.2.1 6) e = false := by
  obtain ⟨_, _, _, _, ⟨n0, hn0, e0⟩, _⟩ := hD
  obtain ⟨n, h1, h2, h3⟩ := pRs_bit (R' := N.2.1) (tc := D.2.2.1) (ow := pOw D.2.1 N.2.1 6) hn0 6 (by omega)
  rw [hB, e0, h2] at h
  have h4 := h3 m hm
  rw [h] at h4
  have h5 : ¬ (tbit (nI n0) (nI m) = true ∨ (m < 6 ∧ ((N.2.1 m).2.2.2.any (pUse D.2.2.1) = true ∨ (N.2.1 m).2.2.2.any (pCal (pOw D.2.1 N.2.1 6)) = true))) := fun q => absurd (h4.mpr q) (by simp)
  refine ⟨?_, fun e he => ?_, fun e he => ?_⟩
  · rw [e0]
    exact Bool.eq_false_iff.mpr (fun q => h5 (Or.inl q))
  · exact Bool.eq_false_iff.mpr (fun q => h5 (Or.inr ⟨hm, Or.inl (List.any_eq_true.mpr ⟨e, he, q⟩)⟩))
  · exact Bool.eq_false_iff.mpr (fun q => h5 (Or.inr ⟨hm, Or.inr (List.any_eq_true.mpr ⟨e, he, q⟩)⟩))
theorem ckArgs_e {K K' : Nat} : ∀ (n : Nat) (σ : List Int32 × Bool), (∀ i, i < n → lk K i = lk K' i) → ckArgs K n σ = ckArgs K' n σ
  | 0, _, _ => rfl
  | n + 1, σ, h => by
    rw [ckArgs, ckArgs, h n (by omega)]
    exact ckArgs_e n _ (fun i hi => h i (by omega))
theorem ckOp_same {N D : pPg} (hL : iL N D) {R : pRo} {e : Nat × Int32 × Nat} (hok : okE e) (hu : pUse D.2.2.1 e = false) (hc : pCal (pOw D.2.1 N.2.1 6) e = false) {st : List Int32} (h1 : (ckOp D R e (st, false)).2 = false) (h2 : (ckOp N R e (st, false)).2 = false) : ckOp D R e (st, false) = ckOp N R e (st, false) := by
  obtain ⟨o, x, y⟩ := e
  obtain ⟨o16, y9, ox⟩ := hok
  dsimp only at o16 y9 ox
  by_cases q11 : o = 11 ∨ o = 12
  · obtain ⟨ex, hx⟩ := ox.resolve_left (by omega)
    have hk := hx.1 (by omega)
    have ht : tbit D.2.2.1 (nI (kx (o, x, y))) = false := by
      rw [← ex]
      rcases q11 with rfl | rfl
      · simpa [pUse, show nI 11 = 11 from rfl] using hu
      · simpa [pUse, show nI 12 = 12 from rfl] using hu
    have e1 := (hL.1 (kx (o, x, y)) (by omega)).1 ht
    rcases q11 with rfl | rfl
    · simp only [ckOp, e1]
    · simp only [ckOp, e1]
  · by_cases q13 : o = 13
    · subst q13
      obtain ⟨ex, hx⟩ := ox.resolve_left (by omega)
      have hk := hx.2.2.2.1 rfl
      have ht : ¬ tbit (pOw D.2.1 N.2.1 6) (nI (kx (13, x, y))) = true := by
        rw [← ex]
        have : tbit (pOw D.2.1 N.2.1 6) x = false := by simpa [pCal, show nI 13 = 13 from rfl] using hc
        rw [this]; simp
      have hl : pLik (D.2.1 (kx (13, x, y))) (N.2.1 (kx (13, x, y))) := Classical.byContradiction (fun q => ht ((pOw_t _ _ hk).mpr q))
      simp only [ckOp] at h1 h2 ⊢
      have f1 : ((D.2.1 (kx (13, x, y))).2.2.2.isEmpty) = false := by
        cases q : (D.2.1 (kx (13, x, y))).2.2.2.isEmpty with
        | false => rfl
        | true => rw [q] at h1; exact absurd (ckPut_t (ckArgs_t _ (σ := ckIf true (st, false)) (by simp [ckIf]))) (by rw [h1]; simp)
      have f2 : ((N.2.1 (kx (13, x, y))).2.2.2.isEmpty) = false := by
        cases q : (N.2.1 (kx (13, x, y))).2.2.2.isEmpty with
        | false => rfl
        | true => rw [q] at h2; exact absurd (ckPut_t (ckArgs_t _ (σ := ckIf true (st, false)) (by simp [ckIf]))) (by rw [h2]; simp)
      rw [f1, f2, hl.2.1, ckArgs_e _ _ hl.2.2, hl.1]
    · unfold ckOp
      dsimp only
      split <;> first | rfl | (exfalso; omega)
/-- a method that is not barred is checked alike in both programs -/
theorem ckTo_same {N D : pPg} (hN : iP N) (hD : iP D) (gN : iG N) (gD : iG D) (hL : iL N D) (hB : iB N D) {m : Nat} (hm : m < 6) (h : tbit D.2.2.2.2 (nI m) = false) : D.2.1 m = N.2.1 m ∧ ∀ j, j ≤ (N.2.1 m).2.2.2.length → ckTo D (D.2.1 m) j = ckTo N (N.2.1 m) j := by
  obtain ⟨h1, h2, h3⟩ := iB_free hD hB hm h
  have em := hL.2 m hm h1
  refine ⟨em, fun j => ?_⟩
  rw [em]
  induction j with
  | zero => exact fun _ => rfl
  | succ j ih =>
    intro hj
    have ih := ih (by omega)
    obtain ⟨e, he⟩ : ∃ e, (N.2.1 m).2.2.2[j]? = some e := ⟨_, List.getElem?_eq_getElem (by omega)⟩
    have hmem := List.mem_of_getElem? he
    have d1 : ckTo D (N.2.1 m) (j + 1) = ckAt D (N.2.1 m) j e (ckTo D (N.2.1 m) j) := by rw [ckTo, he]
    have n1 : ckTo N (N.2.1 m) (j + 1) = ckAt N (N.2.1 m) j e (ckTo N (N.2.1 m) j) := by rw [ckTo, he]
    have e0 : ckTo N (N.2.1 m) j = ((ckTo N (N.2.1 m) j).1, false) := Prod.ext rfl (gN m hm j (by omega))
    have g1 := gN m hm (j + 1) hj
    have g2 := gD m hm (j + 1) (by rw [em]; exact hj)
    rw [em] at g2
    rw [d1, ih, e0] at g2
    rw [n1, e0] at g1
    obtain ⟨a1, a2⟩ := ckAt_f g1
    obtain ⟨b1, b2⟩ := ckAt_f g2
    rw [d1, n1, ih, e0, a1, b1]
    exact ckOp_same hL (hN.1.2 m hm j e he) (h2 e hmem) (h3 e hmem) b2 a2
