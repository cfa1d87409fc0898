/-! Ints are written within their cells only. -/
def am_dm (tp : List am_D) (i k : Nat) : Prop := ∃ d, tp[i]? = some d ∧ k < am_sz d
def am_dmH (h h' : am_H) : Prop := (∀ i k, ¬ am_dm h'.1 i k → h'.2 i k = h.2 i k) ∧ ∀ i k, am_dm h.1 i k → am_dm h'.1 i k
def am_dmF (f : am_F) : Prop := ∀ (N : Nat) (as : List Value) (h : am_H) (r : Option Value) (h' : am_H), f N as h = some (r, h') → am_dmH h h'
theorem am_dmH_rf (h : am_H) : am_dmH h h := ⟨fun _ _ _ => rfl, fun _ _ q => q⟩
theorem am_dmH_tr {h1 h2 h3 : am_H} (a : am_dmH h1 h2) (b : am_dmH h2 h3) : am_dmH h1 h3 :=
  ⟨fun i k q => (b.1 i k q).trans (a.1 i k (fun z => q (b.2 i k z))), fun i k q => b.2 i k (a.2 i k q)⟩
theorem am_dm_app {tp tq : List am_D} {i k : Nat} (h : am_dm tp i k) : am_dm (tp ++ tq) i k := by
  obtain ⟨d, h1, h2⟩ := h
  exact ⟨d, by rw [List.getElem?_append_left (List.getElem?_eq_some_iff.mp h1).1]; exact h1, h2⟩
theorem am_dm_set {tp : List am_D} {j : Nat} {d d' : am_D} (hd : tp[j]? = some d) (hs : am_sz d' = am_sz d) {i k : Nat} (h : am_dm tp i k) : am_dm (tp.set j d') i k := by
  obtain ⟨x, h1, h2⟩ := h
  by_cases hj : j = i
  · subst hj
    rw [hd] at h1
    cases h1
    exact ⟨d', by rw [List.getElem?_set, if_pos rfl, if_pos (List.getElem?_eq_some_iff.mp hd).1], by rw [hs]; exact h2⟩
  · exact ⟨x, by rw [List.getElem?_set, if_neg hj]; exact h1, h2⟩
theorem am_dm_wr {tp : List am_D} {s : am_S} {i k : Nat} {v : Int32} (h : am_dm tp i k) : am_dmH (tp, s) (tp, am_wr s i k v) :=
  ⟨fun i2 k2 q => by
    show am_wr s i k v i2 k2 = s i2 k2
    rw [am_wr_at, if_neg (fun z => q (by rw [z.1, z.2]; exact h))], fun _ _ q => q⟩
section AMDM
variable {M : am_M} {x t : Nat} {st st' : List Value} {h h' : am_H} {i : Instr}
theorem am_pf_dm {a ci k kd : Nat} {v : Value} (he : am_pf h a ci k kd v = some h') : am_dmH h h' := by
  unfold am_pf at he
  split at he
  · rename_i q hd
    split at he
    · split at he
      · rename_i hk
        cases he
        exact am_dm_wr ⟨_, hd, (List.getElem?_eq_some_iff.mp hk).1⟩
      · rename_i hk
        split at he
        · cases he
          exact am_dm_wr ⟨_, hd, (List.getElem?_eq_some_iff.mp hk).1⟩
        · cases he
      · cases he
        exact ⟨fun _ _ _ => rfl, fun i k q => am_dm_set hd (by simp [am_sz]) q⟩
      · cases he
    · cases he
  · cases he
theorem am_sd_dm {a : Nat} {y v : Int32} (he : am_sd h t a y v = some h') : am_dmH h h' := by
  unfold am_sd at he
  split at he
  · rename_i t' n hd
    split at he
    · rename_i hc
      cases he
      exact am_dm_wr ⟨_, hd, Nat.not_le.mp fun q => hc.2.1 (Or.inr q)⟩
    · cases he
  · cases he
theorem am_sa_dm {a j : Nat} {y : Int32} (he : am_sa h a y j = some h') : am_dmH h h' := by
  unfold am_sa at he
  split at he
  · rename_i t n rs q hd hj
    split at he
    · cases he
    · cases he
      exact ⟨fun _ _ _ => rfl, fun i k q => am_dm_set (d' := .inl (t, n, some (rs.set y.toNatClampNeg (some j)))) hd rfl q⟩
  · cases he
theorem am_app_dm (tq : List am_D) : am_dmH h (h.1 ++ tq, h.2) := ⟨fun _ _ _ => rfl, fun _ _ q => am_dm_app q⟩
theorem am_X_dm (he : am_X M i st h = some (st', h')) : am_dmH h h' := by
  cases i with
  | getfield x => obtain ⟨_, _, _, _, -, -, -, -, rfl⟩ := am_gfF_inv he; exact am_dmH_rf _
  | putfield x => obtain ⟨_, _, _, -, -, h1⟩ := am_pfF_inv he; exact am_pf_dm h1
  | iaload => rcases am_ldF_inv he with ⟨_, _, _, _, -, -, -, rfl⟩ | ⟨_, _, _, _, -, -, -, -, rfl⟩ <;> exact am_dmH_rf _
  | baload => rcases am_ldF_inv he with ⟨_, _, _, _, -, -, -, rfl⟩ | ⟨_, _, _, _, -, -, -, -, rfl⟩ <;> exact am_dmH_rf _
  | iastore => obtain ⟨_, _, _, -, h1⟩ := am_sdF_inv he; exact am_sd_dm h1
  | bastore => obtain ⟨_, _, _, -, h1⟩ := am_sdF_inv he; exact am_sd_dm h1
  | aaload => obtain ⟨_, _, _, _, -, -, -, rfl⟩ := am_laF_inv he; exact am_dmH_rf _
  | aastore => obtain ⟨_, _, _, -, h1⟩ := am_saF_inv he; exact am_sa_dm h1
  | arraylength => obtain ⟨_, _, _, -, -, -, rfl⟩ := am_alF_inv he; exact am_dmH_rf _
  | newarray aty =>
    cases aty with
    | int => obtain ⟨_, _, -, -, -, rfl⟩ := am_mkI_inv he; exact am_app_dm _
    | boolean => obtain ⟨_, _, -, -, -, rfl⟩ := am_mkI_inv he; exact am_app_dm _
    | _ => cases he
  | anewarray x => obtain ⟨_, _, _, -, -, -, -, rfl⟩ := am_mkA_inv he; exact am_app_dm _
  | multianewarray x k =>
    have he : (if k = 2 then am_mkG M x st h else none) = some (st', h') := he
    split at he
    · obtain ⟨_, _, _, _, -, -, -, -, -, rfl⟩ := am_mkG_inv he
      exact am_app_dm _
    · cases he
  | new x => obtain ⟨_, -, -, rfl⟩ := am_mkO_inv he; exact am_app_dm _
  | _ => cases he
theorem am_run_dm (hG : ∀ x q, am_cal M x = some q → am_dmF q.2.2) {N : Nat} : ∀ (n pc : Nat) (ls st : List Value) (h : am_H) (r : Option Value) (h' : am_H), am_run M N n pc ls st h = some (r, h') → am_dmH h h'
  | 0, _, _, _, _, _, _, he => by cases he
  | n + 1, pc, ls, st, h, r, h', he => by
    cases hc : am_code M pc with
    | none => rw [am_run, hc] at he; cases he
    | some i =>
      cases hr : am_R M i st with
      | some r =>
        rw [am_run_ret hc hr] at he
        cases he
        exact am_dmH_rf _
      | none =>
        cases hs : am_stp M N i pc ls st h with
        | none => rw [am_run_no hc hr hs] at he; cases he
        | some q =>
          rw [am_run_step hc hr hs] at he
          have ih := am_run_dm hG n _ _ _ _ r h' he
          rcases am_stp_inv hs with ⟨_, _, h1, rfl⟩ | ⟨_, _, h1, rfl⟩ | ⟨_, _, h1, rfl⟩ | ⟨_, _, h1, rfl⟩
          · exact ih
          · exact ih
          · exact am_dmH_tr (am_X_dm h1) ih
          · obtain ⟨x, -, h2⟩ := am_Y_inv h1
            obtain ⟨q, r2, as, rest, h3, -, -, -, -, h4, -⟩ := am_callF_inv h2
            exact am_dmH_tr (hG x q h3 _ _ _ _ _ h4) ih
theorem am_mf_dm {na : Nat} (hG : ∀ x q, am_cal M x = some q → am_dmF q.2.2) : am_dmF (am_mf M na) := by
  intro N as h r h' e
  unfold am_mf at e
  split at e
  · exact am_run_dm hG N 0 as [] h r h' e
  · cases e
end AMDM
theorem am_obj_dm : am_dmF am_obj := fun N as h r h' e => by
  obtain ⟨a, -, -, rfl⟩ := am_obj_some e
  exact am_dmH_rf _
theorem am_cb_dm {cb : List (Instr × Nat × Nat × Option Nat × am_F)} (h : ∀ z ∈ cb, am_dmF z.2.2.2.2) {co : List (Nat × Instr)} {fl : List (Nat × Nat × Nat × Nat)} {ne : List (Nat × Nat × List (Option (Option Nat)))} {ar : List (Nat × Nat)} {sc : Option (Nat × (Nat → Int32))} {re : Nat} : ∀ x q, am_cal (am_mk co fl (cb.map (fun z => z.2)) ne ar sc re) x = some q → am_dmF q.2.2 := fun x q hq => by
  obtain ⟨z, hz, e⟩ := List.mem_map.mp (am_lookup_mem hq)
  have := h z hz
  rw [e] at this
  exact this
