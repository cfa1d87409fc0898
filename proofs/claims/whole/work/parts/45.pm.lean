/-! The machine as mathematics: programs, and how cells hold them. -/
/-- fields: name, type, source -/
abbrev pLy : Type := List (Nat × Nat × Int32)
/-- parameters, packed kinds, what it gives, code (op, x, y) -/
abbrev pRo : Type := Nat × Nat × Nat × List (Nat × Int32 × Nat)
/-- layouts, routines, masks: kinds touched, methods touched, methods barred -/
abbrev pPg : Type := (Nat → pLy) × (Nat → pRo) × Int32 × Int32 × Int32
/-- the kind of a place of a frame -/
def lk (K i : Nat) : Nat := K / 4 ^ i % 4
def LyC (s : am_S) (b : Nat) (L : pLy) : Prop := s b 3 = nI L.length ∧ L.length ≤ 4 ∧ ∀ (k : Nat) (e : Nat × Nat × Int32), L[k]? = some e → s (b + 1) k = nI e.1 ∧ s (b + 2) k = nI e.2.1 ∧ s (b + 3) k = e.2.2
def RoC (s : am_S) (b : Nat) (R : pRo) : Prop := s b 4 = nI R.1 ∧ (∀ i, i < 4 → s (b + 1) i = nI (lk R.2.1 i)) ∧ s b 5 = nI R.2.2.1 ∧ s b 6 = nI R.2.2.2.length ∧ R.2.2.2.length ≤ 14 ∧ ∀ (k : Nat) (e : Nat × Int32 × Nat), R.2.2.2[k]? = some e → s (b + 2) k = nI e.1 ∧ s (b + 3) k = e.2.1 ∧ s (b + 4) k = nI e.2.2
def PgC (s : am_S) (p : Nat) (G : pPg) : Prop := (∀ c, c < 4 → LyC s (p + 3 + 4 * c) (G.1 c)) ∧ (∀ m, m < 6 → RoC s (p + 19 + 5 * m) (G.2.1 m)) ∧ s p 2 = G.2.2.1 ∧ s p 3 = G.2.2.2.1 ∧ s p 4 = G.2.2.2.2
/-- rows from lo up to hi are the same -/
def sameOn (lo hi : Nat) (s s' : am_S) : Prop := ∀ i, lo ≤ i → i < hi → s' i = s i
theorem LyC_same {s s' : am_S} {b : Nat} {L : pLy} (h : LyC s b L) (e : sameOn b (b + 4) s s') : LyC s' b L := by
  have e0 := e b (by omega) (by omega)
  have e1 := e (b + 1) (by omega) (by omega)
  have e2 := e (b + 2) (by omega) (by omega)
  have e3 := e (b + 3) (by omega) (by omega)
  unfold LyC
  rw [e0, e1, e2, e3]
  exact h
theorem RoC_same {s s' : am_S} {b : Nat} {R : pRo} (h : RoC s b R) (e : sameOn b (b + 5) s s') : RoC s' b R := by
  have e0 := e b (by omega) (by omega)
  have e1 := e (b + 1) (by omega) (by omega)
  have e2 := e (b + 2) (by omega) (by omega)
  have e3 := e (b + 3) (by omega) (by omega)
  have e4 := e (b + 4) (by omega) (by omega)
  unfold RoC
  rw [e0, e1, e2, e3, e4]
  exact h
theorem PgC_same {s s' : am_S} {p : Nat} {G : pPg} (h : PgC s p G) (e : sameOn p (p + 49) s s') : PgC s' p G := by
  obtain ⟨h1, h2, h3, h4, h5⟩ := h
  have e0 := e p (by omega) (by omega)
  refine ⟨fun c hc => LyC_same (h1 c hc) (fun i g1 g2 => e i (by omega) (by omega)), fun m hm => RoC_same (h2 m hm) (fun i g1 g2 => e i (by omega) (by omega)), ?_, ?_, ?_⟩
  · rw [e0]; exact h3
  · rw [e0]; exact h4
  · rw [e0]; exact h5
/-- a field by its name -/
def pFind (L : pLy) (v : Int32) : Option Nat := L.findIdx? (fun e => decide (nI e.1 = v))
def pIx (o : Option Nat) : Int32 := match o with
  | some k => nI k
  | none => -1
theorem fnd_find (v : Int32) : ∀ (L : pLy) (f : Nat → Int32) (j : Nat), (∀ (k : Nat) (e : Nat × Nat × Int32), L[k]? = some e → f (j + k) = nI e.1) → fnd f v j L.length = pIx ((pFind L v).map (j + ·))
  | [], _, _, _ => rfl
  | e :: L, f, j, h => by
    have h0 := h 0 e rfl
    rw [Nat.add_zero] at h0
    have ih := fnd_find v L f (j + 1) (fun k e2 hk => by have := h (k + 1) e2 hk; rw [show j + (k + 1) = j + 1 + k by omega] at this; exact this)
    unfold pFind
    rw [List.length_cons, fnd, h0, List.findIdx?_cons]
    by_cases hv : nI e.1 = v
    · rw [if_pos hv, if_pos (decide_eq_true hv)]
      rfl
    · rw [if_neg hv, if_neg (by simpa using hv), ih]
      unfold pFind
      cases L.findIdx? (fun e => decide (nI e.1 = v)) with
      | none => rfl
      | some k => exact congrArg nI (by show j + 1 + k = j + (k + 1); omega)
theorem LyC_find {s : am_S} {b : Nat} {L : pLy} (h : LyC s b L) (v : Int32) : fnd (s (b + 1)) v 0 L.length = pIx (pFind L v) := by
  rw [fnd_find v L (s (b + 1)) 0 (fun k e hk => by rw [Nat.zero_add]; exact (h.2.2 k e hk).1)]
  cases pFind L v with
  | none => rfl
  | some k => exact congrArg nI (Nat.zero_add k)
theorem pFind_lt {L : pLy} {v : Int32} {k : Nat} (h : pFind L v = some k) : k < L.length := by
  unfold pFind at h
  exact (List.findIdx?_eq_some_iff_getElem.mp h).1
/-- a field's type by its name -/
def pTy (L : pLy) (v : Int32) : Option Nat := (pFind L v).bind (fun k => (L[k]?).map (fun e => e.2.1))
theorem nI_ne1 {k : Nat} (h : k < 2 ^ 31) : ¬ nI k = -1 := fun e => by
  have h1 := nI_pos' h
  rw [e] at h1
  exact absurd h1 (by decide)
