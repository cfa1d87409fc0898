/-! What always holds: values, frames -/
/-- of kind t: a number, or null, or a row of that kind -/
def okV (cl : Nat → Nat) (t : Nat) (v : Int32) : Prop := t = 0 ∨ v = 0 ∨ ∃ j, j < 16 ∧ v = nI (j + 1) ∧ cl j = t
def tyS (F : pFr) : List Int32 := F.2.2.2.map (fun e => nI e.2)
/-- a frame's values are of their kinds -/
def iV (G : pPg) (cl : Nat → Nat) (F : pFr) : Prop := F.1 < 6 ∧ (∀ i, i < 4 → okV cl (lk (G.2.1 F.1).2.1 i) (F.2.2.1 i)) ∧ ∀ e ∈ F.2.2.2, e.2 < 4 ∧ okV cl e.2 e.1
def iF (G : pPg) (cl : Nat → Nat) (F : pFr) : Prop := iV G cl F ∧ F.2.1 < (G.2.1 F.1).2.2.2.length
/-- the frames below F wait for what F gives -/
def iC (G : pPg) : pFr → List pFr → Prop
  | _, [] => True
  | F, C :: R => (ckTo G (G.2.1 C.1) C.2.1).1 = nI (G.2.1 F.1).2.2.1 :: tyS C ∧ iC G C R
def iS (G : pPg) (cl : Nat → Nat) (FS : List pFr) : Prop := (∀ F ∈ FS, iF G cl F) ∧ ∀ F R, FS = F :: R → (ckTo G (G.2.1 F.1) F.2.1).1 = tyS F ∧ iC G F R
def iR (G : Nat → pLy) (cl : Nat → Nat) (vl : Nat → Nat → Int32) : Prop := ∀ j, j < 16 → cl j ≠ 0 → ∀ (k : Nat) (e : Nat × Nat × Int32), (G (cl j))[k]? = some e → okV cl e.2.1 (vl j k)
/-- what always holds -/
def iI (Z : pSg) : Prop := (iP Z.1 ∧ iL (Z.2.1 Z.2.2.1) Z.1) ∧ (∀ i, i ≤ Z.2.2.1 → iP (Z.2.1 i) ∧ iG (Z.2.1 i)) ∧ (∀ i, i < Z.2.2.1 → iL (Z.2.1 i) (Z.2.1 (i + 1)) ∧ iB (Z.2.1 i) (Z.2.1 (i + 1))) ∧ iS (Z.2.1 0) Z.2.2.2.1.2.2.2.1 Z.2.2.2.1.1 ∧ iR (Z.2.1 0).1 Z.2.2.2.1.2.2.2.1 Z.2.2.2.1.2.2.2.2.1 ∧ (∀ j, j < 16 → Z.2.2.2.1.2.2.2.1 j < 4) ∧ (Z.2.2.2.1.2.1 = 1 ↔ ¬ Z.2.2.2.1.1 = []) ∧ (¬ Z.2.2.2.1.2.1 = 2 → Z.2.2.2.1.2.2.1 = 0)
theorem okV_ref {cl : Nat → Nat} {t j : Nat} {v : Int32} (h : okV cl t v) (ht : t ≠ 0) (hj : j < 16) (hv : v = nI (j + 1)) : cl j = t := by
  rcases h with h | h | ⟨i, hi, h1, h2⟩
  · exact absurd h ht
  · rw [h] at hv
    exact absurd hv.symm (nI_ne0 (by omega) (by omega))
  · rw [h1] at hv
    have := (nI_eq (by omega) (by omega)).mp hv
    rw [← h2, show j = i by omega]
theorem okV_num {cl : Nat → Nat} {t : Nat} {v : Int32} (h : okV cl t v) (ht : t ≠ 0) : ∃ n, n ≤ 16 ∧ v = nI n := by
  rcases h with h | h | ⟨i, hi, h1, h2⟩
  · exact absurd h ht
  · exact ⟨0, by omega, h⟩
  · exact ⟨i + 1, by omega, h1⟩
theorem okV_pRef {cl : Nat → Nat} {t : Nat} {v : Int32} (h : okV cl t v) (ht : t ≠ 0) : pRef v := by
  rcases h with h | h | ⟨i, hi, h1, h2⟩
  · exact absurd h ht
  · exact Or.inl h
  · exact Or.inr ⟨i, hi, h1⟩
theorem okV_0 (cl : Nat → Nat) (t : Nat) : okV cl t 0 := Or.inr (Or.inl rfl)
theorem i_live {G : pPg} {cl : Nat → Nat} {vl : Nat → Nat → Int32} {FS : List pFr} (hS : ∀ F ∈ FS, iV G cl F) (hR : iR G.1 cl vl) : ∀ j ∈ pLs G FS cl vl, cl j ≠ 0 := by
  refine pLs_least (fun j hj h => ?_) (fun i j hi hj h1 h2 => ?_)
  · obtain ⟨F, hF, h⟩ := h
    rcases h with ⟨i, w1, w2, w3⟩ | ⟨e, w1, w2, w3⟩
    · rw [okV_ref ((hS F hF).2.1 i w1) w2 hj w3]
      exact w2
    · rw [okV_ref ((hS F hF).2.2 e w1).2 w2 hj w3]
      exact w2
  · obtain ⟨k, e, w1, w2, w3⟩ := h2
    rw [okV_ref (hR i hi h1 k e w1) w2 hj w3]
    exact w2
theorem iV_okRF {G : pPg} {cl : Nat → Nat} {F : pFr} (h : iV G cl F) : okRF (G.2.1 F.1).2.1 F := ⟨h.1, fun i hi ht => okV_num (h.2.1 i hi) ht, fun e he => ⟨(h.2.2 e he).1, fun ht => okV_num (h.2.2 e he).2 ht⟩⟩
section SI2
variable {Z : pSg}
theorem iI_cdA (h : iI Z) : cdA Z := by
  obtain ⟨_, h2, _, h4, h5, _⟩ := h
  exact ⟨(h2 0 (by omega)).1.2.1, fun F hF => ⟨(h4.1 F hF).1.1, fun e he => ((h4.1 F hF).1.2.2 e he).1⟩, i_live (fun F hF => (h4.1 F hF).1) h5⟩
theorem iI_cdM (h : iI Z) : cdM Z := by
  obtain ⟨_, h2, _, h4, h5, h6, _⟩ := h
  obtain ⟨p1, p2, p3, p4, p5, p6⟩ := (h2 0 (by omega)).1
  refine ⟨p1, fun F hF => iV_okRF (h4.1 F hF).1, fun i hi hc k e he => ⟨p2 _ (h6 i hi) k e he, fun ht => okV_num (h5 i hi hc k e he) ht⟩, i_live (fun F hF => (h4.1 F hF).1) h5, fun c c1 c3 => p3 c (by omega), fun hw => (h2 1 (by omega)).1.2.2.2.2.2⟩
end SI2
theorem ckTake_len {t : Int32} {σ : List Int32 × Bool} (h : σ.1.length ≤ 6) : (ckTake t σ).1.length ≤ 6 := by
  obtain ⟨st, b⟩ := σ
  cases st with
  | nil => simp [ckTake]
  | cons a r =>
    have : r.length + 1 ≤ 6 := h
    show r.length ≤ 6
    omega
theorem ckPut_len {t : Int32} {σ : List Int32 × Bool} (h : σ.1.length ≤ 6) : (ckPut t σ).1.length ≤ 6 := by
  unfold ckPut
  split
  · exact h
  · rename_i q
    show σ.1.length + 1 ≤ 6
    omega
theorem ckArgs_len {K : Nat} : ∀ (n : Nat) {σ : List Int32 × Bool}, σ.1.length ≤ 6 → (ckArgs K n σ).1.length ≤ 6
  | 0, _, h => h
  | n + 1, _, h => ckArgs_len n (ckTake_len h)
theorem ckOp_len {G : pPg} {R : pRo} {e : Nat × Int32 × Nat} {σ : List Int32 × Bool} (h : σ.1.length ≤ 6) : (ckOp G R e σ).1.length ≤ 6 := by
  have hI : ∀ (b : Bool) (σ : List Int32 × Bool), (ckIf b σ).1 = σ.1 := fun _ _ => rfl
  have hE : ∀ (σ : List Int32 × Bool), (ckEmpty σ).1 = σ.1 := fun _ => rfl
  unfold ckOp
  split
  · exact ckPut_len h
  · exact ckPut_len h
  · exact ckPut_len h
  · exact ckTake_len h
  · exact h
  · exact ckTake_len h
  · exact ckPut_len h
  · exact ckPut_len (ckTake_len h)
  · exact ckTake_len (ckTake_len h)
  · exact ckPut_len (ckArgs_len _ h)
  · exact ckTake_len h
  · exact ckPut_len (ckTake_len (ckTake_len h))
  · exact ckTake_len h
  · exact ckPut_len (ckTake_len (ckTake_len h))
theorem ckTo_len (G : pPg) (R : pRo) : ∀ j, (ckTo G R j).1.length ≤ 6
  | 0 => by simp [ckTo]
  | j + 1 => by
    rw [ckTo]
    cases R.2.2.2[j]? with
    | none => exact ckTo_len G R j
    | some e =>
      dsimp only
      unfold ckAt
      refine ckOp_len ?_
      split
      · exact ckTo_len G R j
      · exact ckTo_len G R j
theorem ckTake_ok {t : Int32} {τ : List Int32} (h : (ckTake t (τ, false)).2 = false) : ∃ r, τ = t :: r ∧ ckTake t (τ, false) = (r, false) := by
  cases τ with
  | nil => simp [ckTake] at h
  | cons a r =>
    have : a = t := by simpa [ckTake] using h
    exact ⟨r, by rw [this], by simp [ckTake, this]⟩
theorem ckPut_ok {t : Int32} {τ : List Int32} (h : (ckPut t (τ, false)).2 = false) : τ.length < 6 ∧ ckPut t (τ, false) = (t :: τ, false) := by
  unfold ckPut at h ⊢
  by_cases q : 6 ≤ τ.length
  · rw [if_pos q] at h; cases h
  · rw [if_neg q]
    exact ⟨by omega, rfl⟩
theorem ckEmpty_ok {τ : List Int32} (h : (ckEmpty (τ, false)).2 = false) : τ = [] := by
  cases τ with
  | nil => rfl
  | cons a r => simp [ckEmpty] at h
theorem ck_f1 {f : List Int32 × Bool → List Int32 × Bool} (hf : ∀ σ, σ.2 = true → (f σ).2 = true) {σ : List Int32 × Bool} (h : (f σ).2 = false) : σ.2 = false := by
  cases q : σ.2 with
  | false => rfl
  | true => rw [hf σ q] at h; cases h
/-- arguments: their kinds stand on the stack, the last one on top -/
theorem ckArgs_ok {K : Nat} : ∀ (n : Nat) {τ : List Int32}, (ckArgs K n (τ, false)).2 = false → n ≤ τ.length ∧ (∀ i, i < n → τ[n - 1 - i]? = some (nI (lk K i))) ∧ ckArgs K n (τ, false) = (τ.drop n, false)
  | 0, τ, _ => ⟨Nat.zero_le _, fun i hi => by omega, rfl⟩
  | n + 1, τ, h => by
    rw [ckArgs] at h
    have h1 := ck_f1 (f := ckArgs K n) (fun σ => ckArgs_t n) h
    obtain ⟨r, e1, e2⟩ := ckTake_ok h1
    rw [e2] at h
    obtain ⟨a1, a2, a3⟩ := ckArgs_ok n h
    refine ⟨by rw [e1, List.length_cons]; omega, fun i hi => ?_, ?_⟩
    · rw [e1]
      by_cases q : i = n
      · rw [q, show n + 1 - 1 - n = 0 by omega]; rfl
      · have := a2 i (by omega)
        rw [show n + 1 - 1 - i = (n - 1 - i) + 1 by omega, List.getElem?_cons_succ]
        exact this
    · rw [ckArgs, e2, a3, e1, List.drop_succ_cons]
