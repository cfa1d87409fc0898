/-! What always holds: a step keeps it -/
def iM (G : pPg) (σ : pMc) : Prop := iS G σ.2.2.2.1 σ.1 ∧ iR G.1 σ.2.2.2.1 σ.2.2.2.2.1 ∧ (∀ j, j < 16 → σ.2.2.2.1 j < 4) ∧ (σ.2.1 = 1 ↔ ¬ σ.1 = []) ∧ (¬ σ.2.1 = 2 → σ.2.2.1 = 0)
theorem ckAt_last {G : pPg} {R : pRo} {j : Nat} {e : Nat × Int32 × Nat} {σ : List Int32 × Bool} (h : (ckAt G R j e σ).2 = false) (he : e.1 ≤ 16) (h8 : e.1 ≠ 8) (h14 : e.1 ≠ 14) : j + 1 ≠ R.2.2.2.length := fun q => by
  have e8 : ¬ nI e.1 = 8 := fun w => h8 ((nI_eq (b := 8) (by omega) (by omega)).mp w)
  have e14 : ¬ nI e.1 = 14 := fun w => h14 ((nI_eq (b := 14) (by omega) (by omega)).mp w)
  unfold ckAt at h
  simp [ckIf, q, e8, e14] at h
theorem ck_aim {G : pPg} {R : pRo} {q : Nat} (hq : q < R.2.2.2.length) (h1 : (ckTo G R q).2 = false) (h2 : (ckTo G R (q + 1)).2 = false) (ha : R.2.2.2.any (pJmp (nI q)) = true) : (ckTo G R q).1 = [] := by
  obtain ⟨e, he⟩ : ∃ e, R.2.2.2[q]? = some e := ⟨_, List.getElem?_eq_getElem hq⟩
  rw [ckTo, he] at h2
  dsimp only at h2
  unfold ckAt at h2
  rw [if_pos ha] at h2
  have h3 := ck_f1 (f := ckIf _) (fun σ => ckIf_t) h2
  have h4 := ck_f1 (f := ckOp G R e) (fun σ => ckOp_t) h3
  rw [show ckTo G R q = ((ckTo G R q).1, false) from Prod.ext rfl h1] at h4
  exact ckEmpty_ok h4
theorem iC_e {G : pPg} {F F' : pFr} (h : F'.1 = F.1) {R : List pFr} (hc : iC G F R) : iC G F' R := by
  cases R with
  | nil => trivial
  | cons C R => exact ⟨by rw [h]; exact hc.1, hc.2⟩
theorem iS_top {G : pPg} {cl : Nat → Nat} {F F' : pFr} {R : List pFr} (h : iS G cl (F :: R)) (e : F'.1 = F.1) (hF : iF G cl F') (ht : (ckTo G (G.2.1 F'.1) F'.2.1).1 = tyS F') : iS G cl (F' :: R) := by
  refine ⟨fun A hA => ?_, fun A B hAB => ?_⟩
  · rcases List.mem_cons.mp hA with rfl | hA
    · exact hF
    · exact h.1 A (List.mem_cons_of_mem _ hA)
  · obtain ⟨rfl, rfl⟩ := List.cons.inj hAB
    exact ⟨ht, iC_e e (h.2 F R rfl).2⟩
theorem iS_nil (G : pPg) (cl : Nat → Nat) : iS G cl [] := ⟨fun F h => (by cases h), fun F R h => (by cases h)⟩
/-- a collection keeps what is led to -/
theorem okV_tkc {cl : Nat → Nat} {l : List Nat} {t : Nat} {v : Int32} (h : okV cl t v) (hl : t ≠ 0 → ∀ j, j < 16 → v = nI (j + 1) → j ∈ l) : okV (tkc cl l) t v := by
  by_cases q : t = 0
  · exact Or.inl q
  · rcases h with h | h | ⟨j, w1, w2, w3⟩
    · exact absurd h q
    · exact Or.inr (Or.inl h)
    · refine Or.inr (Or.inr ⟨j, w1, w2, ?_⟩)
      unfold tkc
      rw [if_pos (hl q j w1 w2)]
      exact w3
theorem i_collect {G : pPg} {cl : Nat → Nat} {vl : Nat → Nat → Int32} {FS FS' : List pFr} (hS : ∀ F ∈ FS, iV G cl F) (hR : iR G.1 cl vl) (h4 : ∀ j, j < 16 → cl j < 4) : (∀ F ∈ FS, iV G (tkc cl (pLs G FS cl vl)) F) ∧ iR G.1 (tkc cl (pLs G FS cl vl)) vl ∧ ∀ j, j < 16 → tkc cl (pLs G FS cl vl) j < 4 := by
  refine ⟨fun F hF => ⟨(hS F hF).1, fun i hi => okV_tkc ((hS F hF).2.1 i hi) (fun ht j hj hv => pLs_root hj ⟨F, hF, Or.inl ⟨i, hi, ht, hv⟩⟩), fun e he => ⟨((hS F hF).2.2 e he).1, okV_tkc ((hS F hF).2.2 e he).2 (fun ht j hj hv => pLs_root hj ⟨F, hF, Or.inr ⟨e, he, ht, hv⟩⟩)⟩⟩, fun j hj hc k e he => ?_, fun j hj => ?_⟩
  · have hm : j ∈ pLs G FS cl vl := Classical.byContradiction (fun q => hc (if_neg q))
    have ec : tkc cl (pLs G FS cl vl) j = cl j := if_pos hm
    rw [ec] at he hc
    exact okV_tkc (hR j hj hc k e he) (fun ht i hi hv => pLs_edge hi hm ⟨k, e, he, ht, hv⟩)
  · unfold tkc
    split
    · exact h4 j hj
    · omega
theorem okV_new {cl : Nat → Nat} {j c t : Nat} {v : Int32} (h : okV cl t v) (hj : cl j = 0) : okV (pSt cl j c) t v := by
  by_cases q : t = 0
  · exact Or.inl q
  · rcases h with h | h | ⟨i, w1, w2, w3⟩
    · exact absurd h q
    · exact Or.inr (Or.inl h)
    · refine Or.inr (Or.inr ⟨i, w1, w2, ?_⟩)
      rw [pSt_n (fun e => by rw [e] at w3; omega)]
      exact w3
theorem iV_at {G : pPg} {cl : Nat → Nat} {F : pFr} (h : iV G cl F) (n : Nat) : iV G cl (F.1, n, F.2.2) := h
theorem iS_cl {G : pPg} {cl cl' : Nat → Nat} {FS : List pFr} (h : iS G cl FS) (h' : ∀ F ∈ FS, iV G cl' F) : iS G cl' FS := ⟨fun F hF => ⟨h' F hF, (h.1 F hF).2⟩, h.2⟩
theorem map_cons {α β : Type} {f : α → β} {l : List α} {b : β} {r : List β} (h : l.map f = b :: r) : ∃ a S, l = a :: S ∧ f a = b ∧ S.map f = r := by
  cases l with
  | nil => cases h
  | cons a S =>
    obtain ⟨h1, h2⟩ := List.cons.inj h
    exact ⟨a, S, rfl, h1, h2⟩
theorem nI4 {a b : Nat} (ha : a < 4) (hb : b < 14) (h : nI a = nI b) : a = b := (nI_eq (by omega) (by omega)).mp h
