/-! The small machine's runs: fuel goes away; each instruction is an equivalence. -/
def am_W (M : am_M) (pc : Nat) (ls st : List Value) (h : am_H) (Q : Option Value → am_H → Prop) : Prop := ∃ (N : Nat) (r : Option Value) (h' : am_H), am_run M N N pc ls st h = some (r, h') ∧ Q r h'
def am_C (f : am_F) (as : List Value) (h : am_H) (Q : Option Value → am_H → Prop) : Prop := ∃ (N : Nat) (r : Option Value) (h' : am_H), f N as h = some (r, h') ∧ Q r h'
def am_fn (M : am_M) : am_F := fun N as h => am_run M N N 0 as [] h
def am_mono (f : am_F) : Prop := ∀ (N N' : Nat) (as : List Value) (h : am_H) (x : Option Value × am_H), N ≤ N' → f N as h = some x → f N' as h = some x
def am_ok (M : am_M) : Prop := ∀ (x : Nat) (q : Nat × Option Nat × am_F), am_cal M x = some q → am_mono q.2.2
def am_ob {α : Type} (o : Option α) (K : α → Prop) : Prop := match o with
  | some a => K a
  | none => False
theorem am_ob_s {α : Type} (a : α) (K : α → Prop) : am_ob (some a) K ↔ K a := Iff.rfl
theorem am_ob_n {α : Type} (K : α → Prop) : am_ob none K ↔ False := Iff.rfl
section AW
variable {M : am_M} {N N' n n' pc x : Nat} {ls st rest : List Value} {h : am_H} {i : Instr} {Q : Option Value → am_H → Prop}
theorem am_callF_mono {z : List Value × am_H} (hM : am_ok M) (hN : N ≤ N') (e : am_callF M N x st h = some z) : am_callF M N' x st h = some z := by
  unfold am_callF at e ⊢
  cases hq : am_cal M x with
  | none => rw [hq] at e; cases e
  | some q =>
    rw [hq] at e
    dsimp only at e ⊢
    by_cases hc : (st.length < q.1 ∨ 8 < st.length - q.1) ∨ am_rc h (st.take q.1).reverse q.2.1 = false
    · rw [if_pos hc] at e; cases e
    · rw [if_neg hc] at e ⊢
      cases hf : q.2.2 N (st.take q.1).reverse h with
      | none => rw [hf] at e; cases e
      | some w =>
        rw [hf] at e
        rw [hM x q hq N N' _ _ w hN hf]
        exact e
theorem am_Y_mono {z : List Value × am_H} (hM : am_ok M) (hN : N ≤ N') (e : am_Y M N i st h = some z) : am_Y M N' i st h = some z := by
  cases i <;> first | exact am_callF_mono hM hN e | (simp [am_Y] at e; done)
theorem am_stp_mono {q : Nat × List Value × List Value × am_H} (hM : am_ok M) (hN : N ≤ N') (e : am_stp M N i pc ls st h = some q) : am_stp M N' i pc ls st h = some q := by
  unfold am_stp at e ⊢
  cases h1 : am_P i ls st with
  | some a => rw [h1] at e; exact e
  | none =>
    rw [h1] at e
    cases h2 : am_J i pc st with
    | some a => rw [h2] at e; exact e
    | none =>
      rw [h2] at e
      cases h3 : am_X M i st h with
      | some a => rw [h3] at e; exact e
      | none =>
        rw [h3] at e
        cases h4 : am_Y M N i st h with
        | some a => rw [h4] at e; rw [am_Y_mono hM hN h4]; exact e
        | none => rw [h4] at e; cases e
theorem am_run_step {q : Nat × List Value × List Value × am_H} (hc : am_code M pc = some i) (hr : am_R M i st = none) (hs : am_stp M N i pc ls st h = some q) : am_run M N (n + 1) pc ls st h = am_run M N n q.1 q.2.1 q.2.2.1 q.2.2.2 := by
  rw [am_run, hc]
  dsimp only
  rw [hr]
  dsimp only
  rw [hs]
theorem am_run_ret {r : Option Value} (hc : am_code M pc = some i) (hr : am_R M i st = some r) : am_run M N (n + 1) pc ls st h = some (r, h) := by
  rw [am_run, hc]
  dsimp only
  rw [hr]
theorem am_run_no (hc : am_code M pc = some i) (hr : am_R M i st = none) (hs : am_stp M N i pc ls st h = none) : am_run M N (n + 1) pc ls st h = none := by
  rw [am_run, hc]
  dsimp only
  rw [hr]
  dsimp only
  rw [hs]
theorem am_run_mono (hM : am_ok M) : ∀ (n n' N N' pc : Nat) (ls st : List Value) (h : am_H) (x : Option Value × am_H), N ≤ N' → n ≤ n' → am_run M N n pc ls st h = some x → am_run M N' n' pc ls st h = some x
  | 0, _, _, _, _, _, _, _, _, _, _, e => by cases e
  | n + 1, n', N, N', pc, ls, st, h, x, hN, hn, e => by
    obtain ⟨k, rfl⟩ : ∃ k, n' = k + 1 := ⟨n' - 1, by omega⟩
    cases hc : am_code M pc with
    | none => rw [am_run, hc] at e; cases e
    | some i =>
      cases hr : am_R M i st with
      | some r =>
        rw [am_run_ret hc hr] at e
        rw [am_run_ret hc hr]
        exact e
      | none =>
        cases hs : am_stp M N i pc ls st h with
        | none => rw [am_run_no hc hr hs] at e; cases e
        | some q =>
          rw [am_run_step hc hr hs] at e
          rw [am_run_step hc hr (am_stp_mono hM hN hs)]
          exact am_run_mono hM n k N N' _ _ _ _ x hN (by omega) e
theorem am_fn_mono (hM : am_ok M) : am_mono (am_fn M) := fun N N' as h x hN e => am_run_mono hM N N' N N' 0 as [] h x hN hN e
theorem am_C_fn {as : List Value} : am_C (am_fn M) as h Q ↔ am_W M 0 as [] h Q := Iff.rfl
theorem am_C_iff {f : am_F} {as : List Value} {r : Option Value} {h' : am_H} (hf : am_mono f) (e : am_C f as h (fun r1 h1 => r1 = r ∧ h1 = h')) : am_C f as h Q ↔ Q r h' := by
  obtain ⟨N, r1, h1, e, rfl, rfl⟩ := e
  constructor
  · rintro ⟨N2, r2, h2, e2, hQ⟩
    have a1 := hf N (max N N2) as h _ (Nat.le_max_left _ _) e
    have a2 := hf N2 (max N N2) as h _ (Nat.le_max_right _ _) e2
    rw [a1] at a2
    cases a2
    exact hQ
  · intro hQ
    exact ⟨N, r1, h1, e, hQ⟩
theorem am_C_weak {f : am_F} {as : List Value} {Q' : Option Value → am_H → Prop} (e : am_C f as h Q) (hq : ∀ r h', Q r h' → Q' r h') : am_C f as h Q' := by
  obtain ⟨N, r, h', e, q⟩ := e
  exact ⟨N, r, h', e, hq _ _ q⟩
theorem am_W_weak {Q' : Option Value → am_H → Prop} (e : am_W M pc ls st h Q) (hq : ∀ r h', Q r h' → Q' r h') : am_W M pc ls st h Q' := by
  obtain ⟨N, r, h', e, q⟩ := e
  exact ⟨N, r, h', e, hq _ _ q⟩
theorem am_go {q : Nat × List Value × List Value × am_H} (hM : am_ok M) (hc : am_code M pc = some i) (hr : am_R M i st = none) (hs : ∀ N, am_stp M N i pc ls st h = some q) : am_W M pc ls st h Q ↔ am_W M q.1 q.2.1 q.2.2.1 q.2.2.2 Q := by
  constructor
  · rintro ⟨N, r, h', e, hQ⟩
    cases N with
    | zero => cases e
    | succ N =>
      rw [am_run_step hc hr (hs _)] at e
      exact ⟨N + 1, r, h', am_run_mono hM _ _ _ _ _ _ _ _ _ (Nat.le_refl _) (Nat.le_succ _) e, hQ⟩
  · rintro ⟨N, r, h', e, hQ⟩
    refine ⟨N + 1, r, h', ?_, hQ⟩
    rw [am_run_step hc hr (hs _)]
    exact am_run_mono hM _ _ _ _ _ _ _ _ _ (Nat.le_succ N) (Nat.le_refl N) e
theorem am_no (hc : am_code M pc = some i) (hr : am_R M i st = none) (hs : ∀ N, am_stp M N i pc ls st h = none) : am_W M pc ls st h Q ↔ False := by
  constructor
  · rintro ⟨N, r, h', e, hQ⟩
    cases N with
    | zero => cases e
    | succ N => rw [am_run_no hc hr (hs _)] at e; cases e
  · exact False.elim
theorem am_re {r : Option Value} (hc : am_code M pc = some i) (hr : am_R M i st = some r) : am_W M pc ls st h Q ↔ Q r h := by
  constructor
  · rintro ⟨N, r2, h', e, hQ⟩
    cases N with
    | zero => cases e
    | succ N =>
      rw [am_run_ret hc hr] at e
      cases e
      exact hQ
  · intro hQ
    exact ⟨1, r, h, am_run_ret hc hr, hQ⟩
theorem am_ite {c : Prop} [Decidable c] {a b : Nat} : am_W M (if c then a else b) ls st h Q ↔ (c → am_W M a ls st h Q) ∧ (¬ c → am_W M b ls st h Q) := by
  by_cases hc : c
  · rw [if_pos hc]
    exact ⟨fun q => ⟨fun _ => q, fun z => absurd hc z⟩, fun q => q.1 hc⟩
  · rw [if_neg hc]
    exact ⟨fun q => ⟨fun z => absurd z hc, fun _ => q⟩, fun q => q.2 hc⟩
theorem am_iret {v : Int32} (hc : am_code M pc = some .ireturn) (hr : am_ret M = 0) : am_W M pc ls [.int v] h Q ↔ Q (some (.int v)) h := am_re hc (by simp [am_R, hr])
theorem am_zret {v : Int32} (hc : am_code M pc = some .ireturn) (hr : am_ret M = 1) : am_W M pc ls [.int v] h Q ↔ (v = 0 ∨ v = 1) ∧ Q (some (.int v)) h := by
  by_cases hv : v = 0 ∨ v = 1
  · rw [am_re hc (r := some (.int v)) (by simp [am_R, hr, hv])]
    exact ⟨fun q => ⟨hv, q⟩, fun q => q.2⟩
  · rw [am_no hc (by simp [am_R, hr, hv]) (fun _ => rfl)]
    exact ⟨False.elim, fun q => hv q.1⟩
theorem am_vret (hc : am_code M pc = some .return_) (hr : am_ret M = 2) : am_W M pc ls [] h Q ↔ Q none h := am_re hc (by simp [am_R, hr])
theorem am_aret {a : Nat} (hc : am_code M pc = some .areturn) (hr : am_ret M = 3) : am_W M pc ls [.ref a] h Q ↔ Q (some (.ref a)) h := am_re hc (by simp [am_R, hr])
theorem am_getf {a ci k kd : Nat} (hM : am_ok M) (hc : am_code M pc = some (.getfield x)) (hf : am_fld M x = some (ci, k, kd)) : am_W M pc ls (.ref a :: st) h Q ↔ am_ob (am_gf h a ci k) (fun v => am_W M (pc + 3) ls (v :: st) h Q) := by
  cases hg : am_gf h a ci k with
  | some v => exact am_go (q := (pc + 3, ls, v :: st, h)) hM hc rfl (fun _ => by simp [am_stp, am_P, am_J, am_X, am_gfF, hf, hg, am_len])
  | none => exact am_no hc rfl (fun _ => by simp [am_stp, am_P, am_J, am_X, am_Y, am_gfF, hf, hg])
theorem am_putf {v : Value} {a ci k kd : Nat} (hM : am_ok M) (hc : am_code M pc = some (.putfield x)) (hf : am_fld M x = some (ci, k, kd)) : am_W M pc ls (v :: .ref a :: st) h Q ↔ am_ob (am_pf h a ci k kd v) (fun h' => am_W M (pc + 3) ls st h' Q) := by
  cases hg : am_pf h a ci k kd v with
  | some h' => exact am_go (q := (pc + 3, ls, st, h')) hM hc rfl (fun _ => by simp [am_stp, am_P, am_J, am_X, am_pfF, hf, hg, am_len])
  | none => exact am_no hc rfl (fun _ => by simp [am_stp, am_P, am_J, am_X, am_Y, am_pfF, hf, hg])
theorem am_iald {y : Int32} {a : Nat} (hM : am_ok M) (hc : am_code M pc = some .iaload) : am_W M pc ls (.int y :: .ref a :: st) h Q ↔ am_ob (am_ld h 0 a y) (fun v => am_W M (pc + 1) ls (.int v :: st) h Q) := by
  cases hg : am_ld h 0 a y with
  | some v => exact am_go (q := (pc + 1, ls, .int v :: st, h)) hM hc rfl (fun _ => by simp [am_stp, am_P, am_J, am_X, am_ldF, hg, am_len])
  | none => exact am_no hc rfl (fun _ => by simp [am_stp, am_P, am_J, am_X, am_Y, am_ldF, hg])
theorem am_zald {y : Int32} {a : Nat} (hM : am_ok M) (hc : am_code M pc = some .baload) : am_W M pc ls (.int y :: .ref a :: st) h Q ↔ am_ob (am_ld h 1 a y) (fun v => am_W M (pc + 1) ls (.int v :: st) h Q) := by
  cases hg : am_ld h 1 a y with
  | some v => exact am_go (q := (pc + 1, ls, .int v :: st, h)) hM hc rfl (fun _ => by simp [am_stp, am_P, am_J, am_X, am_ldF, hg, am_len])
  | none => exact am_no hc rfl (fun _ => by simp [am_stp, am_P, am_J, am_X, am_Y, am_ldF, hg])
theorem am_sald {y : Int32} {a : Nat} (hM : am_ok M) (hc : am_code M pc = some .iaload) : am_W M pc ls (.int y :: .retAddr a :: st) h Q ↔ am_ob (am_sld M y) (fun v => am_W M (pc + 1) ls (.int v :: st) h Q) := by
  cases hg : am_sld M y with
  | some v => exact am_go (q := (pc + 1, ls, .int v :: st, h)) hM hc rfl (fun _ => by simp [am_stp, am_P, am_J, am_X, am_ldF, hg, am_len])
  | none => exact am_no hc rfl (fun _ => by simp [am_stp, am_P, am_J, am_X, am_Y, am_ldF, hg])
theorem am_iast {v y : Int32} {a : Nat} (hM : am_ok M) (hc : am_code M pc = some .iastore) : am_W M pc ls (.int v :: .int y :: .ref a :: st) h Q ↔ am_ob (am_sd h 0 a y v) (fun h' => am_W M (pc + 1) ls st h' Q) := by
  cases hg : am_sd h 0 a y v with
  | some h' => exact am_go (q := (pc + 1, ls, st, h')) hM hc rfl (fun _ => by simp [am_stp, am_P, am_J, am_X, am_sdF, hg, am_len])
  | none => exact am_no hc rfl (fun _ => by simp [am_stp, am_P, am_J, am_X, am_Y, am_sdF, hg])
theorem am_zast {v y : Int32} {a : Nat} (hM : am_ok M) (hc : am_code M pc = some .bastore) : am_W M pc ls (.int v :: .int y :: .ref a :: st) h Q ↔ am_ob (am_sd h 1 a y v) (fun h' => am_W M (pc + 1) ls st h' Q) := by
  cases hg : am_sd h 1 a y v with
  | some h' => exact am_go (q := (pc + 1, ls, st, h')) hM hc rfl (fun _ => by simp [am_stp, am_P, am_J, am_X, am_sdF, hg, am_len])
  | none => exact am_no hc rfl (fun _ => by simp [am_stp, am_P, am_J, am_X, am_Y, am_sdF, hg])
theorem am_aald {y : Int32} {a : Nat} (hM : am_ok M) (hc : am_code M pc = some .aaload) : am_W M pc ls (.int y :: .ref a :: st) h Q ↔ am_ob (am_la h a y) (fun v => am_W M (pc + 1) ls (.ref v :: st) h Q) := by
  cases hg : am_la h a y with
  | some v => exact am_go (q := (pc + 1, ls, .ref v :: st, h)) hM hc rfl (fun _ => by simp [am_stp, am_P, am_J, am_X, am_laF, hg, am_len])
  | none => exact am_no hc rfl (fun _ => by simp [am_stp, am_P, am_J, am_X, am_Y, am_laF, hg])
theorem am_slen {L : Nat} {f : Nat → Int32} {a : Nat} (hM : am_ok M) (hc : am_code M pc = some .arraylength) (hs : am_scr M = some (L, f)) : am_W M pc ls (.retAddr a :: st) h Q ↔ am_W M (pc + 1) ls (.int (Int32.ofNat L) :: st) h Q := by
  exact am_go (q := (pc + 1, ls, .int (Int32.ofNat L) :: st, h)) hM hc rfl (fun _ => by simp [am_stp, am_P, am_J, am_X, am_alF, hs, am_len])
theorem am_ca {f : am_F} {na : Nat} {rc : Option Nat} (hM : am_ok M) (hc : am_code M pc = some i) (hi : i = .invokevirtual x ∨ i = .invokespecial x ∨ i = .invokestatic x) (hq : am_cal M x = some (na, rc, f)) (as rest : List Value) (hn : as.length = na) :
    am_W M pc ls (as.reverse ++ rest) h Q ↔ (rest.length ≤ 8 ∧ am_rc h as rc = true) ∧ am_C f as h (fun r h' => am_W M (pc + 3) ls (r.toList ++ rest) h' Q) := by
  subst hn
  have hr : am_R M i (as.reverse ++ rest) = none := by rcases hi with rfl | rfl | rfl <;> rfl
  have hs : ∀ N, am_stp M N i pc ls (as.reverse ++ rest) h = match am_callF M N x (as.reverse ++ rest) h with
      | some q => some (pc + 3, ls, q.1, q.2)
      | none => none := by
    intro N
    rcases hi with rfl | rfl | rfl <;> rfl
  have hk : ∀ N, am_callF M N x (as.reverse ++ rest) h = if 8 < rest.length ∨ am_rc h as rc = false then none else (match f N as h with
      | some z => some (z.1.toList ++ rest, z.2)
      | none => none) := by
    intro N
    unfold am_callF
    rw [hq]
    dsimp only
    have e1 : (as.reverse ++ rest).length = as.length + rest.length := by simp
    have e2 : (as.reverse ++ rest).take as.length = as.reverse := by
      rw [← List.length_reverse (as := as), List.take_left]
    have e3 : (as.reverse ++ rest).drop as.length = rest := by
      rw [← List.length_reverse (as := as), List.drop_left]
    rw [e1, e2, e3, List.reverse_reverse, Nat.add_sub_cancel_left]
    by_cases h8 : 8 < rest.length ∨ am_rc h as rc = false
    · rw [if_pos (by rcases h8 with h8 | h8; exact Or.inl (Or.inr h8); exact Or.inr h8), if_pos h8]
    · rw [if_neg (by intro q; rcases q with (q | q) | q; omega; exact h8 (Or.inl q); exact h8 (Or.inr q)), if_neg h8]
      rfl
  by_cases h8 : 8 < rest.length ∨ am_rc h as rc = false
  · refine (am_no hc hr (fun N => ?_)).trans ⟨False.elim, fun q => ?_⟩
    · rw [hs, hk, if_pos h8]
    · obtain ⟨⟨q1, q2⟩, -⟩ := q
      rcases h8 with h8 | h8
      · omega
      · rw [q2] at h8; cases h8
  · constructor
    · rintro ⟨N, r, h', e, hQ⟩
      have h9 : am_rc h as rc = true := by
        cases hz : am_rc h as rc with
        | true => rfl
        | false => exact absurd (Or.inr hz) h8
      refine ⟨⟨Nat.not_lt.mp (fun q => h8 (Or.inl q)), h9⟩, ?_⟩
      cases N with
      | zero => cases e
      | succ N =>
        cases hf : f (N + 1) as h with
        | none =>
          rw [am_run_no hc hr (by rw [hs, hk, if_neg h8, hf])] at e
          cases e
        | some z =>
          rw [am_run_step (q := (pc + 3, ls, z.1.toList ++ rest, z.2)) hc hr (by rw [hs, hk, if_neg h8, hf])] at e
          exact ⟨N + 1, z.1, z.2, hf, N + 1, r, h', am_run_mono hM _ _ _ _ _ _ _ _ _ (Nat.le_refl _) (Nat.le_succ _) e, hQ⟩
    · rintro ⟨-, N1, r1, h1, e1, N2, r, h', e, hQ⟩
      refine ⟨max N1 N2 + 1, r, h', ?_, hQ⟩
      have hf : f (max N1 N2 + 1) as h = some (r1, h1) := hM x _ hq N1 (max N1 N2 + 1) as h _ (by omega) e1
      rw [am_run_step (q := (pc + 3, ls, r1.toList ++ rest, h1)) hc hr (by rw [hs, hk, if_neg h8, hf])]
      exact am_run_mono hM _ _ _ _ _ _ _ _ _ (by omega) (by omega) e
end AW
