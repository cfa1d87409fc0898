/-! A whole run, by its fuel. -/
section AMZ
variable {p : Program} {l : Launch} {e : Env} {R : Room} {s : State} {m : MethodId} {args : Array Value} {below : List Frame} {meth : Method} {c : Code}
variable {cc : ByteArray} {pc nL n0 s0 sb x t : Nat} {A : Nat → Prop} {D : va_G} {cl : List vw_C} {cy : Nat → ClassId} {tys : List (ClassId × FieldType)} {Ts : List Cond} {own : String} {M : am_M} {st st' ls : List Value} {h h' : am_H} {i : Instr} {al : Nat → Nat} {H : Heap} {locs : List Loc} {lk : Array Slot} {Q : State → Prop}
theorem am_gfF_inv (he : am_gfF M x st h = some (st', h')) : ∃ q i r v, am_fld M x = some q ∧ st = .ref i :: r ∧ am_gf h i q.1 q.2.1 = some v ∧ st' = v :: r ∧ h' = h := by
  unfold am_gfF at he
  split at he
  · rename_i q i r hq
    split at he
    · rename_i v hv
      cases he
      exact ⟨q, i, r, v, hq, rfl, hv, rfl, rfl⟩
    · cases he
  · cases he
theorem am_pfF_inv (he : am_pfF M x st h = some (st', h')) : ∃ q v i, am_fld M x = some q ∧ st = v :: .ref i :: st' ∧ am_pf h i q.1 q.2.1 q.2.2 v = some h' := by
  unfold am_pfF at he
  split at he
  · rename_i q v i r hq
    split at he
    · rename_i v hv
      cases he
      exact ⟨q, _, i, hq, rfl, hv⟩
    · cases he
  · cases he
theorem am_ldF_inv (he : am_ldF M t st h = some (st', h')) : (∃ y i r v, st = .int y :: .ref i :: r ∧ am_ld h t i y = some v ∧ st' = .int v :: r ∧ h' = h) ∨ ∃ y i r v, st = .int y :: .retAddr i :: r ∧ t = 0 ∧ am_sld M y = some v ∧ st' = .int v :: r ∧ h' = h := by
  unfold am_ldF at he
  split at he
  · split at he
    · rename_i v hv
      cases he
      exact Or.inl ⟨_, _, _, v, rfl, hv, rfl, rfl⟩
    · cases he
  · split at he
    · rename_i ht
      split at he
      · rename_i v hv
        cases he
        exact Or.inr ⟨_, _, _, v, rfl, ht, hv, rfl, rfl⟩
      · cases he
    · cases he
  · cases he
theorem am_sdF_inv (he : am_sdF t st h = some (st', h')) : ∃ v y i, st = .int v :: .int y :: .ref i :: st' ∧ am_sd h t i y v = some h' := by
  unfold am_sdF at he
  split at he
  · split at he
    · rename_i v hv
      cases he
      exact ⟨_, _, _, rfl, hv⟩
    · cases he
  · cases he
theorem am_laF_inv (he : am_laF st h = some (st', h')) : ∃ y i r j, st = .int y :: .ref i :: r ∧ am_la h i y = some j ∧ st' = .ref j :: r ∧ h' = h := by
  unfold am_laF at he
  split at he
  · split at he
    · rename_i v hv
      cases he
      exact ⟨_, _, _, _, rfl, hv, rfl, rfl⟩
    · cases he
  · cases he
theorem am_saF_inv (he : am_saF st h = some (st', h')) : ∃ j y i, st = .ref j :: .int y :: .ref i :: st' ∧ am_sa h i y j = some h' := by
  unfold am_saF at he
  split at he
  · split at he
    · rename_i v hv
      cases he
      exact ⟨_, _, _, rfl, hv⟩
    · cases he
  · cases he
theorem am_alF_inv (he : am_alF M st h = some (st', h')) : ∃ q i r, am_scr M = some q ∧ st = .retAddr i :: r ∧ st' = .int (Int32.ofNat q.1) :: r ∧ h' = h := by
  unfold am_alF at he
  split at he
  · rename_i q i r hq
    cases he
    exact ⟨q, i, r, hq, rfl, rfl, rfl⟩
  · cases he
theorem am_mkI_inv (he : am_mkI t st h = some (st', h')) : ∃ n r, st = .int n :: r ∧ ¬ am_out n 1000 ∧ st' = .ref h.1.length :: r ∧ h' = (h.1 ++ [.inl (t, n.toNatClampNeg, none)], h.2) := by
  unfold am_mkI at he
  split at he
  · split at he
    · cases he
    · rename_i hn
      cases he
      exact ⟨_, _, rfl, hn, rfl, rfl⟩
  · cases he
theorem am_mkA_inv (he : am_mkA M x st h = some (st', h')) : ∃ t n r, am_arr M x = some t ∧ st = .int n :: r ∧ ¬ am_out n 1000 ∧ st' = .ref h.1.length :: r ∧ h' = (h.1 ++ [.inl (t, n.toNatClampNeg, some (List.replicate n.toNatClampNeg none))], h.2) := by
  unfold am_mkA at he
  split at he
  · rename_i t n r hq
    split at he
    · cases he
    · rename_i hn
      cases he
      exact ⟨t, n, r, hq, rfl, hn, rfl, rfl⟩
  · cases he
theorem am_mkG_inv (he : am_mkG M x st h = some (st', h')) : ∃ t k n r, am_arr M x = some t ∧ st = .int k :: .int n :: r ∧ ¬ am_out n 1000 ∧ ¬ am_out k 1000 ∧ st' = .ref h.1.length :: r ∧ h' = (h.1 ++ ([.inl (t, n.toNatClampNeg, some ((List.range n.toNatClampNeg).map fun i => some (h.1.length + 1 + i)))] ++ List.replicate n.toNatClampNeg (.inl (0, k.toNatClampNeg, none))), h.2) := by
  unfold am_mkG at he
  split at he
  · rename_i t k n r hq
    split at he
    · cases he
    · rename_i hn
      cases he
      exact ⟨t, k, n, r, hq, rfl, fun q => hn (Or.inl q), fun q => hn (Or.inr q), rfl, rfl⟩
  · cases he
theorem am_mkO_inv (he : am_mkO M x st h = some (st', h')) : ∃ q, am_new M x = some q ∧ st' = .ref h.1.length :: st ∧ h' = (h.1 ++ [.inr q], h.2) := by
  unfold am_mkO at he
  split at he
  · rename_i q hq
    cases he
    exact ⟨q, hq, rfl, rfl⟩
  · cases he
theorem am_pf_grow {a ci k kd : Nat} {v : Value} (he : am_pf h a ci k kd v = some h') : h'.1.length = h.1.length ∧ am_slt h'.1 = am_slt h.1 := by
  unfold am_pf at he
  split at he
  · rename_i q hd
    split at he
    · split at he
      · cases he; exact ⟨rfl, rfl⟩
      · split at he
        · cases he; exact ⟨rfl, rfl⟩
        · cases he
      · cases he
        exact ⟨List.length_set .., am_slt_set hd (by simp [am_sz])⟩
      · cases he
    · cases he
  · cases he
theorem am_sd_grow {a : Nat} {y v : Int32} (he : am_sd h t a y v = some h') : h'.1 = h.1 := by
  unfold am_sd at he
  split at he
  · split at he
    · cases he; rfl
    · cases he
  · cases he
theorem am_sa_grow {a j : Nat} {y : Int32} (he : am_sa h a y j = some h') : h'.1.length = h.1.length ∧ am_slt h'.1 = am_slt h.1 := by
  unfold am_sa at he
  split at he
  · rename_i t n rs q hd hj
    split at he
    · cases he
    · cases he
      exact ⟨List.length_set .., am_slt_set hd rfl⟩
  · cases he
theorem am_slt_grid (t n k L : Nat) : am_slt ([.inl (t, n, some ((List.range n).map fun i => some (L + 1 + i)))] ++ List.replicate n (.inl (0, k, none))) = n + n * k := by
  simp [am_slt, am_sz]
theorem am_X_grow (he : am_X M i st h = some (st', h')) : h.1.length ≤ h'.1.length ∧ am_slt h.1 ≤ am_slt h'.1 := by
  have ap : ∀ tq : List am_D, h.1.length ≤ (h.1 ++ tq).length ∧ am_slt h.1 ≤ am_slt (h.1 ++ tq) := fun tq => by
    rw [am_slt_app, List.length_append]
    exact ⟨by omega, by omega⟩
  cases i with
  | getfield x => obtain ⟨_, _, _, _, -, -, -, -, rfl⟩ := am_gfF_inv he; exact ⟨Nat.le_refl _, Nat.le_refl _⟩
  | putfield x => obtain ⟨_, _, _, -, -, h1⟩ := am_pfF_inv he; have := am_pf_grow h1; omega
  | iaload => rcases am_ldF_inv he with ⟨_, _, _, _, -, -, -, rfl⟩ | ⟨_, _, _, _, -, -, -, -, rfl⟩ <;> exact ⟨Nat.le_refl _, Nat.le_refl _⟩
  | baload => rcases am_ldF_inv he with ⟨_, _, _, _, -, -, -, rfl⟩ | ⟨_, _, _, _, -, -, -, -, rfl⟩ <;> exact ⟨Nat.le_refl _, Nat.le_refl _⟩
  | iastore => obtain ⟨_, _, _, -, h1⟩ := am_sdF_inv he; rw [am_sd_grow h1]; exact ⟨Nat.le_refl _, Nat.le_refl _⟩
  | bastore => obtain ⟨_, _, _, -, h1⟩ := am_sdF_inv he; rw [am_sd_grow h1]; exact ⟨Nat.le_refl _, Nat.le_refl _⟩
  | aaload => obtain ⟨_, _, _, _, -, -, -, rfl⟩ := am_laF_inv he; exact ⟨Nat.le_refl _, Nat.le_refl _⟩
  | aastore => obtain ⟨_, _, _, -, h1⟩ := am_saF_inv he; have := am_sa_grow h1; omega
  | arraylength => obtain ⟨_, _, _, -, -, -, rfl⟩ := am_alF_inv he; exact ⟨Nat.le_refl _, Nat.le_refl _⟩
  | newarray aty =>
    cases aty with
    | int => obtain ⟨_, _, -, -, -, rfl⟩ := am_mkI_inv he; exact ap _
    | boolean => obtain ⟨_, _, -, -, -, rfl⟩ := am_mkI_inv he; exact ap _
    | _ => cases he
  | anewarray x => obtain ⟨_, _, _, -, -, -, -, rfl⟩ := am_mkA_inv he; exact ap _
  | multianewarray x k =>
    have he : (if k = 2 then am_mkG M x st h else none) = some (st', h') := he
    split at he
    · obtain ⟨_, _, _, _, -, -, -, -, -, rfl⟩ := am_mkG_inv he
      exact ap _
    · cases he
  | new x => obtain ⟨_, -, -, rfl⟩ := am_mkO_inv he; exact ap _
  | _ => cases he
theorem am_callF_inv {N : Nat} (he : am_callF M N x st h = some (st', h')) : ∃ q r as rest, am_cal M x = some q ∧ st = as.reverse ++ rest ∧ as.length = q.1 ∧ rest.length ≤ 8 ∧ am_rc h as q.2.1 = true ∧ q.2.2 N as h = some (r, h') ∧ st' = r.toList ++ rest := by
  unfold am_callF at he
  split at he
  · rename_i q hq
    split at he
    · cases he
    · rename_i hc
      split at he
      · rename_i z hz
        cases he
        refine ⟨q, z.1, (st.take q.1).reverse, st.drop q.1, hq, by rw [List.reverse_reverse, List.take_append_drop], ?_, ?_, ?_, hz, rfl⟩
        · rw [List.length_reverse, List.length_take]
          have : ¬ st.length < q.1 := fun z => hc (Or.inl (Or.inl z))
          omega
        · rw [List.length_drop]
          exact Nat.not_lt.mp fun z => hc (Or.inl (Or.inr z))
        · cases hr : am_rc h (st.take q.1).reverse q.2.1 with
          | true => rfl
          | false => exact absurd (Or.inr hr) hc
      · cases he
  · cases he
theorem am_Y_inv {N : Nat} (he : am_Y M N i st h = some (st', h')) : ∃ x, (i = .invokevirtual x ∨ i = .invokespecial x ∨ i = .invokestatic x) ∧ am_callF M N x st h = some (st', h') := by
  cases i with
  | invokevirtual x => exact ⟨x, Or.inl rfl, he⟩
  | invokespecial x => exact ⟨x, Or.inr (Or.inl rfl), he⟩
  | invokestatic x => exact ⟨x, Or.inr (Or.inr rfl), he⟩
  | _ => cases he
theorem am_stp_inv {N : Nat} {q : Nat × List Value × List Value × am_H} (he : am_stp M N i pc ls st h = some q) :
    (∃ ls' st', am_P i ls st = some (ls', st') ∧ q = (pc + am_len i, ls', st', h)) ∨ (∃ pc' st', am_J i pc st = some (pc', st') ∧ q = (pc', ls, st', h)) ∨ (∃ st' h', am_X M i st h = some (st', h') ∧ q = (pc + am_len i, ls, st', h')) ∨ ∃ st' h', am_Y M N i st h = some (st', h') ∧ q = (pc + 3, ls, st', h') := by
  unfold am_stp at he
  split at he
  · rename_i z hz
    cases he
    exact Or.inl ⟨_, _, hz, rfl⟩
  · split at he
    · rename_i z hz
      cases he
      exact Or.inr (Or.inl ⟨_, _, hz, rfl⟩)
    · split at he
      · rename_i z hz
        cases he
        exact Or.inr (Or.inr (Or.inl ⟨_, _, hz, rfl⟩))
      · split at he
        · rename_i z hz
          cases he
          exact Or.inr (Or.inr (Or.inr ⟨_, _, hz, rfl⟩))
        · cases he
theorem am_run_grow (hG : ∀ x q, am_cal M x = some q → am_grow q.2.2) {N : Nat} : ∀ (n pc : Nat) (ls st : List Value) (h : am_H) (r : Option Value) (h' : am_H), am_run M N n pc ls st h = some (r, h') → h.1.length ≤ h'.1.length ∧ am_slt h.1 ≤ am_slt h'.1
  | 0, _, _, _, _, _, _, he => by cases he
  | n + 1, pc, ls, st, h, r, h', he => by
    cases hc : am_code M pc with
    | none => rw [am_run, hc] at he; cases he
    | some i =>
      cases hr : am_R M i st with
      | some r =>
        rw [am_run_ret hc hr] at he
        cases he
        exact ⟨Nat.le_refl _, Nat.le_refl _⟩
      | none =>
        cases hs : am_stp M N i pc ls st h with
        | none => rw [am_run_no hc hr hs] at he; cases he
        | some q =>
          rw [am_run_step hc hr hs] at he
          have ih := am_run_grow hG n _ _ _ _ r h' he
          rcases am_stp_inv hs with ⟨_, _, h1, rfl⟩ | ⟨_, _, h1, rfl⟩ | ⟨_, _, h1, rfl⟩ | ⟨_, _, h1, rfl⟩
          · exact ih
          · exact ih
          · have := am_X_grow h1
            dsimp only at ih
            omega
          · obtain ⟨x, -, h2⟩ := am_Y_inv h1
            obtain ⟨q, r2, as, rest, h3, -, -, -, -, h4, -⟩ := am_callF_inv h2
            have := hG x q h3 _ _ _ _ _ h4
            dsimp only at ih
            omega
theorem am_fn_grow (hG : ∀ x q, am_cal M x = some q → am_grow q.2.2) : am_grow (am_fn M) := fun N as h r h' he => am_run_grow hG N 0 as [] h r h' he
end AMZ
