/-! What always holds: a step keeps it -/
set_option maxHeartbeats 2000000 in
theorem i_step {G : pPg} {F : pFr} {R : List pFr} {e : Nat × Int32 × Nat} {rs on : Int32} {cl : Nat → Nat} {vl : Nat → Nat → Int32} {ou : Nat → Int32} (hP : iP G) (hG : iG G) (hM : iM G (F :: R, 1, rs, cl, vl, ou, on)) (he : (G.2.1 F.1).2.2.2[F.2.1]? = some e) : pSh G e (F.1, F.2.1 + 1, F.2.2) R ∧ iM G (pOp G e (F.1, F.2.1 + 1, F.2.2) R (1, rs, cl, vl, ou, on)) := by
  obtain ⟨hS, hR, h4, _, hrs⟩ := hM
  dsimp only at hS hR h4 hrs
  have hrs0 : rs = 0 := hrs (by decide)
  obtain ⟨hVF, hpl⟩ := hS.1 F List.mem_cons_self
  obtain ⟨hm, hloc, hstk⟩ := id hVF
  obtain ⟨hty, hch⟩ := hS.2 F R rfl
  have hok := hP.1.2 F.1 hm F.2.1 e he
  have hokr := hP.1.1 F.1 hm
  have g0 := hG F.1 hm F.2.1 (by omega)
  have g1 := hG F.1 hm (F.2.1 + 1) (by omega)
  have es : ckTo G (G.2.1 F.1) (F.2.1 + 1) = ckAt G (G.2.1 F.1) F.2.1 e (ckTo G (G.2.1 F.1) F.2.1) := by rw [ckTo, he]
  have e0 : ckTo G (G.2.1 F.1) F.2.1 = (tyS F, false) := Prod.ext hty g0
  rw [es, e0] at g1
  have hnl := fun (w1 : e.1 ≠ 8) (w2 : e.1 ≠ 14) => ckAt_last g1 hok.1 w1 w2
  obtain ⟨k1, k2⟩ := ckAt_f g1
  rw [e0, k1] at es
  have hmem := List.mem_of_getElem? he
  have aim : ∀ q, q < (G.2.1 F.1).2.2.2.length → pJmp (nI q) e = true → (ckTo G (G.2.1 F.1) q).1 = [] := fun q hq hj => ck_aim hq (hG F.1 hm q (by omega)) (hG F.1 hm (q + 1) (by omega)) (List.any_eq_true.mpr ⟨e, hmem, hj⟩)
  have top : ∀ (p' : Nat) (l' : Nat → Int32) (S' : List (Int32 × Nat)) (ou' : Nat → Int32) (on' : Int32), p' < (G.2.1 F.1).2.2.2.length → (∀ i, i < 4 → okV cl (lk (G.2.1 F.1).2.1 i) (l' i)) → (∀ e ∈ S', e.2 < 4 ∧ okV cl e.2 e.1) → (ckTo G (G.2.1 F.1) p').1 = S'.map (fun e => nI e.2) → iM G ((F.1, p', l', S') :: R, 1, rs, cl, vl, ou', on') := fun p' l' S' ou' on' w1 w2 w3 w4 =>
    ⟨iS_top hS rfl ⟨⟨hm, w2, w3⟩, w1⟩ w4, hR, h4, ⟨fun _ q => (by cases q), fun _ => rfl⟩, fun _ => hrs0⟩
  have fail : ∀ (st' : Int32), ¬ st' = 1 → iM G ([], st', rs, cl, vl, ou, on) := fun st' w => ⟨iS_nil _ _, hR, h4, ⟨fun q => absurd q w, fun q => absurd rfl q⟩, fun _ => hrs0⟩
  have lenT : (tyS F).length = F.2.2.2.length := List.length_map _
  have sub : ∀ {a : Int32 × Nat} {S : List (Int32 × Nat)}, F.2.2.2 = a :: S → (a.2 < 4 ∧ okV cl a.2 a.1) ∧ ∀ e ∈ S, e.2 < 4 ∧ okV cl e.2 e.1 := fun {a S} q => ⟨hstk a (by rw [q]; exact List.mem_cons_self), fun e he => hstk e (by rw [q]; exact List.mem_cons_of_mem _ he)⟩
  have cons4 : ∀ {v : Int32} {t : Nat} {S : List (Int32 × Nat)}, t < 4 → okV cl t v → (∀ e ∈ S, e.2 < 4 ∧ okV cl e.2 e.1) → ∀ e ∈ (v, t) :: S, e.2 < 4 ∧ okV cl e.2 e.1 := fun {v t S} w1 w2 w3 e he => by
    rcases List.mem_cons.mp he with rfl | he
    · exact ⟨w1, w2⟩
    · exact w3 e he
  obtain ⟨o, x, y⟩ := e
  obtain ⟨o16, y9, ox⟩ := hok
  dsimp only at o16 y9 ox hnl
  generalize ek : kx (o, x, y) = k at ox
  rcases (show o = 0 ∨ o = 1 ∨ o = 2 ∨ o = 3 ∨ (o = 4 ∨ o = 5 ∨ o = 6 ∨ o = 7) ∨ o = 8 ∨ o = 9 ∨ o = 10 ∨ o = 11 ∨ o = 12 ∨ o = 13 ∨ o = 14 ∨ o = 15 ∨ o = 16 by omega) with rfl | rfl | rfl | rfl | h47 | rfl | rfl | rfl | rfl | rfl | rfl | rfl | rfl | rfl
  · -- 0
    have ec : ckOp G (G.2.1 F.1) (0, x, y) (tyS F, false) = ckPut 0 (tyS F, false) := rfl
    rw [ec] at k2 es
    obtain ⟨a1, a2⟩ := ckPut_ok k2
    rw [a2] at es
    refine ⟨by show F.2.2.2.length < 6; omega, ?_⟩
    exact top (F.2.1 + 1) F.2.2.1 ((x, 0) :: F.2.2.2) _ _ (by have := hnl (by omega) (by omega); omega) hloc (cons4 (by omega) (Or.inl rfl) hstk) (by rw [es]; rfl)
  · -- 1
    have ec : ckOp G (G.2.1 F.1) (1, x, y) (tyS F, false) = ckPut x (tyS F, false) := rfl
    rw [ec] at k2 es
    obtain ⟨a1, a2⟩ := ckPut_ok k2
    rw [a2] at es
    obtain ⟨ex, hx⟩ := ox.resolve_left (by omega)
    have hk := hx.1 (by omega)
    refine ⟨by show F.2.2.2.length < 6; omega, ?_⟩
    have eo : pOp G (1, x, y) (F.1, F.2.1 + 1, F.2.2) R (1, rs, cl, vl, ou, on) = ((F.1, F.2.1 + 1, F.2.2.1, (0, k) :: F.2.2.2) :: R, 1, rs, cl, vl, ou, on) := by rw [← ek]; rfl
    rw [eo]
    exact top _ _ _ _ _ (by have := hnl (by omega) (by omega); omega) hloc (cons4 (by omega) (okV_0 _ _) hstk) (by rw [es, ex]; rfl)
  · -- 2
    have ec : ckOp G (G.2.1 F.1) (2, x, y) (tyS F, false) = ckPut (nI (lk (G.2.1 F.1).2.1 k)) (tyS F, false) := by rw [← ek]; rfl
    rw [ec] at k2 es
    obtain ⟨a1, a2⟩ := ckPut_ok k2
    rw [a2] at es
    obtain ⟨ex, hx⟩ := ox.resolve_left (by omega)
    have hk := hx.2.1 (by omega)
    refine ⟨by show F.2.2.2.length < 6; omega, ?_⟩
    have eo : pOp G (2, x, y) (F.1, F.2.1 + 1, F.2.2) R (1, rs, cl, vl, ou, on) = ((F.1, F.2.1 + 1, F.2.2.1, (F.2.2.1 k, lk (G.2.1 F.1).2.1 k) :: F.2.2.2) :: R, 1, rs, cl, vl, ou, on) := by rw [← ek]; rfl
    rw [eo]
    exact top _ _ _ _ _ (by have := hnl (by omega) (by omega); omega) hloc (cons4 (lk_lt _ _) (hloc k hk) hstk) (by rw [es]; rfl)
  · -- 3
    have ec : ckOp G (G.2.1 F.1) (3, x, y) (tyS F, false) = ckTake (nI (lk (G.2.1 F.1).2.1 k)) (tyS F, false) := by rw [← ek]; rfl
    rw [ec] at k2 es
    obtain ⟨r, a1, a2⟩ := ckTake_ok k2
    rw [a2] at es
    obtain ⟨ex, hx⟩ := ox.resolve_left (by omega)
    have hk := hx.2.1 (by omega)
    obtain ⟨a, S, b1, b2, b3⟩ := map_cons a1
    obtain ⟨c1, c2⟩ := sub b1
    refine ⟨⟨a, S, b1⟩, ?_⟩
    have eo : pOp G (3, x, y) (F.1, F.2.1 + 1, F.2.2) R (1, rs, cl, vl, ou, on) = ((F.1, F.2.1 + 1, pSet F.2.2.1 k a.1, S) :: R, 1, rs, cl, vl, ou, on) := by simp only [pOp, p1, b1, ek]
    rw [eo]
    refine top _ _ _ _ _ (by have := hnl (by omega) (by omega); omega) (fun i hi => ?_) c2 (by rw [es]; exact b3.symm)
    unfold pSet
    by_cases q : i = k
    · rw [if_pos q, q]
      have : a.2 = lk (G.2.1 F.1).2.1 k := nI4 c1.1 (by have := lk_lt (G.2.1 F.1).2.1 k; omega) b2
      rw [← this]
      exact c1.2
    · rw [if_neg q]
      exact hloc i hi
  · -- 4 5 6 7
    have ec : ckOp G (G.2.1 F.1) (o, x, y) (tyS F, false) = ckPut 0 (ckTake 0 (ckTake 0 (tyS F, false))) := by rcases h47 with rfl | rfl | rfl | rfl <;> rfl
    rw [ec] at k2 es
    have f1 := ck_f1 (f := ckPut 0) (fun σ => ckPut_t) k2
    have f2 := ck_f1 (f := ckTake 0) (fun σ => ckTake_t) f1
    obtain ⟨r, a1, a2⟩ := ckTake_ok f2
    rw [a2] at f1 k2 es
    obtain ⟨r2, b1, b2⟩ := ckTake_ok f1
    rw [b2] at k2 es
    obtain ⟨c1, c2⟩ := ckPut_ok k2
    rw [c2] at es
    rw [b1] at a1
    obtain ⟨a, S, d1, d2, d3⟩ := map_cons a1
    obtain ⟨b, S2, d4, d5, d6⟩ := map_cons d3
    rw [d4] at d1
    obtain ⟨u1, u2⟩ := sub d1
    refine ⟨?_, ?_⟩
    · rcases h47 with rfl | rfl | rfl | rfl <;> exact ⟨a, b, S2, d1⟩
    · have eo : pOp G (o, x, y) (F.1, F.2.1 + 1, F.2.2) R (1, rs, cl, vl, ou, on) = ((F.1, F.2.1 + 1, F.2.2.1, (pAr o b.1 a.1, 0) :: S2) :: R, 1, rs, cl, vl, ou, on) := by
        rcases h47 with rfl | rfl | rfl | rfl <;> simp only [pOp, p2, d1, pPut, pSk]
      rw [eo]
      exact top _ _ _ _ _ (by have := hnl (by omega) (by omega); omega) hloc (cons4 (by omega) (Or.inl rfl) (fun e he => u2 e (List.mem_cons_of_mem _ he))) (by rw [es, List.map_cons, d6]; rfl)
  · -- 8
    have ec : ckOp G (G.2.1 F.1) (8, x, y) (tyS F, false) = ckIf (decide (x < 0 ∨ nI (G.2.1 F.1).2.2.2.length ≤ x)) (ckEmpty (tyS F, false)) := rfl
    rw [ec] at k2
    obtain ⟨ex, hx⟩ := ox.resolve_left (by omega)
    have f1 := ck_f1 (f := ckIf _) (fun σ => ckIf_t) k2
    have ht := ckEmpty_ok f1
    have h14 : (G.2.1 F.1).2.2.2.length ≤ 14 ∨ 14 < (G.2.1 F.1).2.2.2.length := by omega
    have hk14 : k < 14 := hx.2.2.2.2
    have hkl : k < (G.2.1 F.1).2.2.2.length := by
      rcases h14 with h14 | h14
      · refine Classical.byContradiction (fun q => ?_)
        have : nI (G.2.1 F.1).2.2.2.length ≤ nI k := nI_le (by omega) (by omega)
        rw [ex] at k2
        simp [ckIf, this] at k2
      · omega
    have hs : F.2.2.2 = [] := List.map_eq_nil_iff.mp ht
    refine ⟨trivial, ?_⟩
    have eo : pOp G (8, x, y) (F.1, F.2.1 + 1, F.2.2) R (1, rs, cl, vl, ou, on) = ((F.1, k, F.2.2.1, F.2.2.2) :: R, 1, rs, cl, vl, ou, on) := by rw [← ek]; rfl
    rw [eo]
    refine top _ _ _ _ _ hkl hloc hstk ?_
    rw [aim k hkl (by rw [ex]; simp [pJmp, show nI 8 = 8 from rfl]), hs]
    rfl
  · -- 9
    have ec : ckOp G (G.2.1 F.1) (9, x, y) (tyS F, false) = ckIf (decide (x < 0 ∨ nI (G.2.1 F.1).2.2.2.length ≤ x)) (ckEmpty (ckTake 0 (tyS F, false))) := rfl
    rw [ec] at k2 es
    obtain ⟨ex, hx⟩ := ox.resolve_left (by omega)
    have f1 := ck_f1 (f := ckIf _) (fun σ => ckIf_t) k2
    have f2 := ck_f1 (f := ckEmpty) (fun σ => ckEmpty_t) f1
    obtain ⟨r, a1, a2⟩ := ckTake_ok f2
    rw [a2] at f1
    have ht := ckEmpty_ok f1
    rw [a2, ht] at es
    rw [ht] at a1
    obtain ⟨a, S, b1, b2, b3⟩ := map_cons a1
    have hS0 : S = [] := List.map_eq_nil_iff.mp b3
    obtain ⟨c1, c2⟩ := sub b1
    have hk14 : k < 14 := hx.2.2.2.2
    have hkl : k < (G.2.1 F.1).2.2.2.length := by
      rcases (show (G.2.1 F.1).2.2.2.length ≤ 14 ∨ 14 < (G.2.1 F.1).2.2.2.length by omega) with h14 | h14
      · refine Classical.byContradiction (fun q => ?_)
        have : nI (G.2.1 F.1).2.2.2.length ≤ nI k := nI_le (by omega) (by omega)
        rw [ex] at k2
        simp [ckIf, this] at k2
      · omega
    refine ⟨⟨a, S, b1⟩, ?_⟩
    have eo : pOp G (9, x, y) (F.1, F.2.1 + 1, F.2.2) R (1, rs, cl, vl, ou, on) = ((F.1, if a.1 = 0 then k else F.2.1 + 1, F.2.2.1, S) :: R, 1, rs, cl, vl, ou, on) := by simp only [pOp, p1, b1, ek]
    rw [eo]
    by_cases q : a.1 = 0
    · rw [if_pos q]
      refine top _ _ _ _ _ hkl hloc c2 ?_
      rw [aim k hkl (by rw [ex]; simp [pJmp, show nI 9 = 9 from rfl]), hS0]
      rfl
    · rw [if_neg q]
      refine top _ _ _ _ _ (by have := hnl (by omega) (by omega); omega) hloc c2 ?_
      rw [es, hS0]
      rfl
  · -- 10
    have ec : ckOp G (G.2.1 F.1) (10, x, y) (tyS F, false) = ckPut x (tyS F, false) := rfl
    rw [ec] at k2 es
    obtain ⟨a1, a2⟩ := ckPut_ok k2
    rw [a2] at es
    obtain ⟨ex, hx⟩ := ox.resolve_left (by omega)
    have hk := hx.1 (by omega)
    refine ⟨by show F.2.2.2.length < 6; omega, ?_⟩
    have hV' : ∀ A ∈ (F.1, F.2.1 + 1, F.2.2) :: R, iV G cl A := fun A hA => by
      rcases List.mem_cons.mp hA with rfl | hA
      · exact hVF
      · exact (hS.1 A (List.mem_cons_of_mem _ hA)).1
    have rm : (∀ A ∈ (F.1, F.2.1 + 1, F.2.2) :: R, iV G (pRoom G ((F.1, F.2.1 + 1, F.2.2) :: R) cl vl) A) ∧ iR G.1 (pRoom G ((F.1, F.2.1 + 1, F.2.2) :: R) cl vl) vl ∧ ∀ j, j < 16 → pRoom G ((F.1, F.2.1 + 1, F.2.2) :: R) cl vl j < 4 := by
      unfold pRoom
      split
      · exact ⟨hV', hR, h4⟩
      · exact i_collect (FS' := []) hV' hR h4
    obtain ⟨r1, r2, r3⟩ := rm
    have eo : pOp G (10, x, y) (F.1, F.2.1 + 1, F.2.2) R (1, rs, cl, vl, ou, on) = (match fre (pRoom G ((F.1, F.2.1 + 1, F.2.2) :: R) cl vl) 0 16 with
      | none => ([], 4, rs, pRoom G ((F.1, F.2.1 + 1, F.2.2) :: R) cl vl, vl, ou, on)
      | some j => (pPut (F.1, F.2.1 + 1, F.2.2) (nI (j + 1)) k :: R, 1, rs, pSt (pRoom G ((F.1, F.2.1 + 1, F.2.2) :: R) cl vl) j k, pSt vl j (fun _ => 0), ou, on)) := by rw [← ek]; rfl
    rw [eo]
    generalize pRoom G ((F.1, F.2.1 + 1, F.2.2) :: R) cl vl = cl1 at r1 r2 r3
    cases hf : fre cl1 0 16 with
    | none => exact ⟨iS_nil _ _, r2, r3, ⟨fun q => absurd q (by show ¬ (4 : Int32) = 1; decide), fun q => absurd rfl q⟩, fun _ => hrs0⟩
    | some j =>
      have hj := fre_some hf
      have hj0 : cl1 j = 0 := hj.2.2
      have hj16 : j < 16 := by omega
      have hFn : iF G (pSt cl1 j k) (F.1, F.2.1 + 1, F.2.2.1, (nI (j + 1), k) :: F.2.2.2) := by
        have hv := r1 _ List.mem_cons_self
        refine ⟨⟨hm, fun i hi => okV_new (hv.2.1 i hi) hj0, fun e he => ?_⟩, by have := hnl (by omega) (by omega); show F.2.1 + 1 < (G.2.1 F.1).2.2.2.length; omega⟩
        rcases List.mem_cons.mp he with rfl | he
        · exact ⟨by show k < 4; omega, Or.inr (Or.inr ⟨j, hj16, rfl, pSt_s⟩)⟩
        · exact ⟨(hv.2.2 e he).1, okV_new (hv.2.2 e he).2 hj0⟩
      refine ⟨⟨fun A hA => ?_, fun A B hAB => ?_⟩, fun i hi hc q e he => ?_, fun i hi => ?_, ⟨fun _ w => (by cases w), fun _ => rfl⟩, fun _ => hrs0⟩
      · rcases List.mem_cons.mp hA with rfl | hA
        · exact hFn
        · have hv := r1 A (List.mem_cons_of_mem _ hA)
          exact ⟨⟨hv.1, fun i hi => okV_new (hv.2.1 i hi) hj0, fun e he => ⟨(hv.2.2 e he).1, okV_new (hv.2.2 e he).2 hj0⟩⟩, (hS.1 A (List.mem_cons_of_mem _ hA)).2⟩
      · obtain ⟨rfl, rfl⟩ := List.cons.inj hAB
        refine ⟨?_, iC_e (F := F) (F' := pPut (F.1, F.2.1 + 1, F.2.2) (nI (j + 1)) k) rfl hch⟩
        show (ckTo G (G.2.1 F.1) (F.2.1 + 1)).1 = _
        rw [es, ex]
        rfl
      · dsimp only at hc he ⊢
        by_cases w : i = j
        · rw [w, pSt_s]
          exact okV_0 _ _
        · rw [pSt_n w] at hc he ⊢
          exact okV_new (r2 i hi hc q e he) hj0
      · dsimp only
        by_cases w : i = j
        · rw [w, pSt_s]; omega
        · rw [pSt_n w]; exact r3 i hi
  · -- 11
    obtain ⟨ex, hx⟩ := ox.resolve_left (by omega)
    have hk := hx.1 (by omega)
    have ec : ckOp G (G.2.1 F.1) (11, x, y) (tyS F, false) = ckPut (pIx (pTy (G.1 k) (nI y))) (ckIf (decide (pIx (pTy (G.1 k) (nI y)) = -1)) (ckTake x (tyS F, false))) := by rw [← ek]; rfl
    rw [ec] at k2 es
    have f1 := ck_f1 (f := ckPut _) (fun σ => ckPut_t) k2
    have f2 := ck_f1 (f := ckIf _) (fun σ => ckIf_t) f1
    obtain ⟨r, a1, a2⟩ := ckTake_ok f2
    rw [a2] at f1 k2 es
    have hne : ¬ pIx (pTy (G.1 k) (nI y)) = -1 := fun q => by simp [ckIf, q] at f1
    have ei : ckIf (decide (pIx (pTy (G.1 k) (nI y)) = -1)) (r, false) = (r, false) := by simp [ckIf, hne]
    rw [ei] at k2 es
    obtain ⟨c1, c2⟩ := ckPut_ok k2
    rw [c2] at es
    cases hty2 : pTy (G.1 k) (nI y) with
    | none => rw [hty2] at hne; exact absurd rfl hne
    | some t =>
      cases hf : pFind (G.1 k) (nI y) with
      | none => rw [pTy, hf] at hty2; cases hty2
      | some q =>
        have hql := pFind_lt hf
        obtain ⟨fe, hfe⟩ : ∃ fe, (G.1 k)[q]? = some fe := ⟨_, List.getElem?_eq_getElem hql⟩
        have et : fe.2.1 = t := by
          rw [pTy, hf, Option.bind_some, hfe] at hty2
          exact Option.some.inj hty2
        have ht4 := hP.2.1 k (by omega) q fe hfe
        obtain ⟨a, S, b1, b2, b3⟩ := map_cons a1
        obtain ⟨u1, u2⟩ := sub b1
        have ea : a.2 = k := nI4 u1.1 (by omega) (by rw [← ex]; exact b2)
        have hpr := okV_pRef u1.2 (by omega)
        refine ⟨⟨⟨q, by dsimp only; rw [ek]; exact hf⟩, a, S, b1, hpr⟩, ?_⟩
        have eo : pOp G (11, x, y) (F.1, F.2.1 + 1, F.2.2) R (1, rs, cl, vl, ou, on) = if a.1 = 0 then ([], 3, rs, cl, vl, ou, on) else ((F.1, F.2.1 + 1, F.2.2.1, (vl (pRow a.1) q, t) :: S) :: R, 1, rs, cl, vl, ou, on) := by
          simp only [pOp, p1, b1, ek, hf, hty2, Option.getD_some, pPut, pSk]
        rw [eo]
        by_cases w : a.1 = 0
        · rw [if_pos w]
          exact fail 3 (by decide)
        · rw [if_neg w]
          rcases hpr with w2 | ⟨j, hj, hv⟩
          · exact absurd w2 w
          · have hc := okV_ref u1.2 (by omega) hj hv
            rw [hv, pRow_n hj]
            refine top _ _ _ _ _ (by have := hnl (by omega) (by omega); omega) hloc (cons4 (by omega) ?_ u2) (by rw [es, List.map_cons, b3, hty2]; rfl)
            have := hR j hj (by omega) q fe (by rw [hc, ea]; exact hfe)
            rw [et] at this
            exact this
  · -- 12
    obtain ⟨ex, hx⟩ := ox.resolve_left (by omega)
    have hk := hx.1 (by omega)
    have ec : ckOp G (G.2.1 F.1) (12, x, y) (tyS F, false) = ckTake x (ckTake (pIx (pTy (G.1 k) (nI y))) (ckIf (decide (pIx (pTy (G.1 k) (nI y)) = -1)) (tyS F, false))) := by rw [← ek]; rfl
    rw [ec] at k2 es
    have f1 := ck_f1 (f := ckTake _) (fun σ => ckTake_t) k2
    have f2 := ck_f1 (f := ckTake _) (fun σ => ckTake_t) f1
    have hne : ¬ pIx (pTy (G.1 k) (nI y)) = -1 := fun q => by simp [ckIf, q] at f2
    have ei : ckIf (decide (pIx (pTy (G.1 k) (nI y)) = -1)) (tyS F, false) = (tyS F, false) := by simp [ckIf, hne]
    rw [ei] at f1 k2 es
    obtain ⟨r, a1, a2⟩ := ckTake_ok f1
    rw [a2] at k2 es
    obtain ⟨r2, a3, a4⟩ := ckTake_ok k2
    rw [a4] at es
    rw [a3] at a1
    cases hty2 : pTy (G.1 k) (nI y) with
    | none => rw [hty2] at hne; exact absurd rfl hne
    | some t =>
      cases hf : pFind (G.1 k) (nI y) with
      | none => rw [pTy, hf] at hty2; cases hty2
      | some q =>
        have hql := pFind_lt hf
        obtain ⟨fe, hfe⟩ : ∃ fe, (G.1 k)[q]? = some fe := ⟨_, List.getElem?_eq_getElem hql⟩
        have et : fe.2.1 = t := by
          rw [pTy, hf, Option.bind_some, hfe] at hty2
          exact Option.some.inj hty2
        have ht4 := hP.2.1 k (by omega) q fe hfe
        obtain ⟨a, S, b1, b2, b3⟩ := map_cons a1
        obtain ⟨b, S2, b4, b5, b6⟩ := map_cons b3
        rw [b4] at b1
        obtain ⟨u1, u2⟩ := sub b1
        have u3 := u2 b List.mem_cons_self
        have eb : b.2 = k := nI4 u3.1 (by omega) (by rw [← ex]; exact b5)
        have ea : a.2 = t := nI4 u1.1 (by omega) (by rw [hty2] at b2; exact b2)
        have hpr := okV_pRef u3.2 (by omega)
        refine ⟨⟨⟨q, by dsimp only; rw [ek]; exact hf⟩, a, b, S2, b1, hpr⟩, ?_⟩
        have eo : pOp G (12, x, y) (F.1, F.2.1 + 1, F.2.2) R (1, rs, cl, vl, ou, on) = if b.1 = 0 then ([], 3, rs, cl, vl, ou, on) else ((F.1, F.2.1 + 1, F.2.2.1, S2) :: R, 1, rs, cl, pSt vl (pRow b.1) (pSt (vl (pRow b.1)) q a.1), ou, on) := by
          simp only [pOp, p2, b1, ek, hf, Option.getD_some, pSk]
        rw [eo]
        by_cases w : b.1 = 0
        · rw [if_pos w]
          exact fail 3 (by decide)
        · rw [if_neg w]
          rcases hpr with w2 | ⟨j, hj, hv⟩
          · exact absurd w2 w
          · have hc := okV_ref u3.2 (by omega) hj hv
            rw [hv, pRow_n hj]
            obtain ⟨t1, t2, t3, t4, t5⟩ := top (F.2.1 + 1) F.2.2.1 S2 ou on (by have := hnl (by omega) (by omega); omega) hloc (fun e he => u2 e (List.mem_cons_of_mem _ he)) (by rw [es, b6])
            refine ⟨t1, fun i hi hci q' e' he' => ?_, t3, t4, t5⟩
            dsimp only at hci he' ⊢
            by_cases w3 : i = j
            · rw [w3, pSt_s]
              rw [w3] at he' hci
              by_cases w4 : q' = q
              · rw [w4, pSt_s]
                rw [hc, eb, w4, hfe] at he'
                rw [← Option.some.inj he', et, ← ea]
                exact u1.2
              · rw [pSt_n w4]
                exact hR j hj hci q' e' he'
            · rw [pSt_n w3]
              exact hR i hi hci q' e' he'
  · -- 13
    obtain ⟨ex, hx⟩ := ox.resolve_left (by omega)
    have hk := hx.2.2.2.1 rfl
    have ec : ckOp G (G.2.1 F.1) (13, x, y) (tyS F, false) = ckPut (nI (G.2.1 k).2.2.1) (ckArgs (G.2.1 k).2.1 (G.2.1 k).1 (ckIf ((G.2.1 k).2.2.2.isEmpty) (tyS F, false))) := by rw [← ek]; rfl
    rw [ec] at k2 es
    have f1 := ck_f1 (f := ckPut _) (fun σ => ckPut_t) k2
    have f2 := ck_f1 (f := ckArgs _ _) (fun σ => ckArgs_t _) f1
    have hne : (G.2.1 k).2.2.2.isEmpty = false := by
      cases q : (G.2.1 k).2.2.2.isEmpty with
      | false => rfl
      | true => rw [q] at f2; simp [ckIf] at f2
    have ei : ckIf ((G.2.1 k).2.2.2.isEmpty) (tyS F, false) = (tyS F, false) := by simp [ckIf, hne]
    rw [ei] at f1 k2 es
    obtain ⟨a1, a2, a3⟩ := ckArgs_ok _ f1
    rw [a3] at k2 es
    obtain ⟨c1, c2⟩ := ckPut_ok k2
    rw [c2] at es
    rw [lenT] at a1
    refine ⟨by dsimp only [pSh]; rw [ek]; exact a1, ?_⟩
    have eo : pOp G (13, x, y) (F.1, F.2.1 + 1, F.2.2) R (1, rs, cl, vl, ou, on) = if R.length + 1 < 8 then ((k, 0, pArgs (G.2.1 k).1 F.2.2.2 (fun _ => 0), []) :: (F.1, F.2.1 + 1, F.2.2.1, F.2.2.2.drop (G.2.1 k).1) :: R, 1, rs, cl, vl, ou, on) else ([], 5, rs, cl, vl, ou, on) := by rw [← ek]; rfl
    rw [eo]
    by_cases w : R.length + 1 < 8
    · rw [if_pos w]
      have hlen : 0 < (G.2.1 k).2.2.2.length := by
        cases q : (G.2.1 k).2.2.2 with
        | nil => rw [q] at hne; cases hne
        | cons a r => simp
      have args : ∀ i, i < 4 → okV cl (lk (G.2.1 k).2.1 i) (pArgs (G.2.1 k).1 F.2.2.2 (fun _ => 0) i) := by
        have gen : ∀ (n : Nat) (st : List (Int32 × Nat)) (l : Nat → Int32), (∀ e ∈ st, e.2 < 4 ∧ okV cl e.2 e.1) → (∀ i, i < n → (st.map (fun e => nI e.2))[n - 1 - i]? = some (nI (lk (G.2.1 k).2.1 i))) → (∀ i, i < 4 → n ≤ i → okV cl (lk (G.2.1 k).2.1 i) (l i)) → ∀ i, i < 4 → okV cl (lk (G.2.1 k).2.1 i) (pArgs n st l i) := by
          intro n
          induction n with
          | zero => exact fun st l _ _ w3 i hi => w3 i hi (Nat.zero_le _)
          | succ n ih =>
            intro st l w1 w2 w3
            cases st with
            | nil =>
              have := w2 n (by omega)
              simp at this
            | cons a S =>
              rw [pArgs]
              refine ih S _ (fun e he => w1 e (List.mem_cons_of_mem _ he)) (fun i hi => ?_) (fun i hi hn => ?_)
              · have := w2 i (by omega)
                rw [List.map_cons, show n + 1 - 1 - i = (n - 1 - i) + 1 by omega, List.getElem?_cons_succ] at this
                exact this
              · unfold pSet
                by_cases q : i = n
                · rw [if_pos q, q]
                  have := w2 n (by omega)
                  rw [List.map_cons, show n + 1 - 1 - n = 0 by omega, List.getElem?_cons_zero] at this
                  obtain ⟨v1, v2⟩ := w1 a List.mem_cons_self
                  rw [← nI4 v1 (by have := lk_lt (G.2.1 k).2.1 n; omega) (Option.some.inj this)]
                  exact v2
                · rw [if_neg q]
                  exact w3 i hi (by omega)
        exact gen (G.2.1 k).1 F.2.2.2 (fun _ => 0) hstk a2 (fun i hi _ => okV_0 _ _)
      refine ⟨⟨fun A hA => ?_, fun A B hAB => ?_⟩, hR, h4, ⟨fun _ w => (by cases w), fun _ => rfl⟩, fun _ => hrs0⟩
      · rcases List.mem_cons.mp hA with rfl | hA
        · exact ⟨⟨hk, args, fun e he => by cases he⟩, hlen⟩
        · rcases List.mem_cons.mp hA with rfl | hA
          · exact ⟨⟨hm, hloc, fun e he => hstk e (List.mem_of_mem_drop he)⟩, by have := hnl (by omega) (by omega); show F.2.1 + 1 < (G.2.1 F.1).2.2.2.length; omega⟩
          · exact hS.1 A (List.mem_cons_of_mem _ hA)
      · obtain ⟨rfl, rfl⟩ := List.cons.inj hAB
        refine ⟨rfl, ?_, iC_e (F := F) (F' := (F.1, F.2.1 + 1, F.2.2.1, F.2.2.2.drop (G.2.1 k).1)) rfl hch⟩
        show (ckTo G (G.2.1 F.1) (F.2.1 + 1)).1 = _
        rw [es]
        show nI (G.2.1 k).2.2.1 :: (tyS F).drop _ = nI (G.2.1 k).2.2.1 :: (F.2.2.2.drop _).map _
        rw [List.map_drop]
        rfl
    · rw [if_neg w]
      exact fail 5 (by decide)
  · -- 14
    have ec : ckOp G (G.2.1 F.1) (14, x, y) (tyS F, false) = ckEmpty (ckTake (nI (G.2.1 F.1).2.2.1) (tyS F, false)) := rfl
    rw [ec] at k2 es
    have f1 := ck_f1 (f := ckEmpty) (fun σ => ckEmpty_t) k2
    obtain ⟨r, a1, a2⟩ := ckTake_ok f1
    obtain ⟨a, S, b1, b2, b3⟩ := map_cons a1
    obtain ⟨u1, u2⟩ := sub b1
    have ea : a.2 = (G.2.1 F.1).2.2.1 := nI4 u1.1 (by have := hokr.2.2; omega) b2
    have hCl : ∀ C R', R = C :: R' → C.2.2.2.length < 6 := fun C R' hCR => by
      rw [hCR] at hch
      have h6 := ckTo_len G (G.2.1 C.1) C.2.1
      rw [hch.1, List.length_cons] at h6
      have : (tyS C).length = C.2.2.2.length := List.length_map _
      omega
    refine ⟨⟨⟨a, S, b1⟩, hCl⟩, ?_⟩
    have eo : pOp G (14, x, y) (F.1, F.2.1 + 1, F.2.2) R (1, rs, cl, vl, ou, on) = pLv R a.1 (G.2.1 F.1).2.2.1 (1, rs, cl, vl, ou, on) := by
      simp only [pOp, p1, b1, pLv]
      cases R <;> rfl
    rw [eo]
    cases R with
    | nil => exact ⟨iS_nil _ _, hR, h4, ⟨fun q => absurd q (by show ¬ (2 : Int32) = 1; decide), fun q => absurd rfl q⟩, fun q => absurd rfl q⟩
    | cons C R' =>
      have hC := hS.1 C (List.mem_cons_of_mem _ List.mem_cons_self)
      refine ⟨⟨fun A hA => ?_, fun A B hAB => ?_⟩, hR, h4, ⟨fun _ w => (by cases w), fun _ => rfl⟩, fun _ => hrs0⟩
      · rcases List.mem_cons.mp hA with rfl | hA
        · refine ⟨⟨hC.1.1, hC.1.2.1, fun e he => ?_⟩, hC.2⟩
          rcases List.mem_cons.mp he with rfl | he
          · exact ⟨by show (G.2.1 F.1).2.2.1 < 4; have := hokr.2.2; omega, by show okV cl (G.2.1 F.1).2.2.1 a.1; rw [← ea]; exact u1.2⟩
          · exact hC.1.2.2 e he
        · exact hS.1 A (List.mem_cons_of_mem _ (List.mem_cons_of_mem _ hA))
      · obtain ⟨rfl, rfl⟩ := List.cons.inj hAB
        exact ⟨hch.1, iC_e (F := C) (F' := pPut C a.1 (G.2.1 F.1).2.2.1) rfl hch.2⟩
  · -- 15
    obtain ⟨ex, hx⟩ := ox.resolve_left (by omega)
    have ec : ckOp G (G.2.1 F.1) (15, x, y) (tyS F, false) = ckPut 0 (ckTake x (ckTake x (tyS F, false))) := rfl
    rw [ec] at k2 es
    have f1 := ck_f1 (f := ckPut 0) (fun σ => ckPut_t) k2
    have f2 := ck_f1 (f := ckTake x) (fun σ => ckTake_t) f1
    obtain ⟨r, a1, a2⟩ := ckTake_ok f2
    rw [a2] at f1 k2 es
    obtain ⟨r2, b1, b2⟩ := ckTake_ok f1
    rw [b2] at k2 es
    obtain ⟨c1, c2⟩ := ckPut_ok k2
    rw [c2] at es
    rw [b1] at a1
    obtain ⟨a, S, d1, d2, d3⟩ := map_cons a1
    obtain ⟨b, S2, d4, d5, d6⟩ := map_cons d3
    rw [d4] at d1
    obtain ⟨u1, u2⟩ := sub d1
    refine ⟨⟨a, b, S2, d1⟩, ?_⟩
    have eo : pOp G (15, x, y) (F.1, F.2.1 + 1, F.2.2) R (1, rs, cl, vl, ou, on) = ((F.1, F.2.1 + 1, F.2.2.1, (if b.1 = a.1 then 1 else 0, 0) :: S2) :: R, 1, rs, cl, vl, ou, on) := by
      simp only [pOp, p2, d1, pPut, pSk]
    rw [eo]
    exact top _ _ _ _ _ (by have := hnl (by omega) (by omega); omega) hloc (cons4 (by omega) (Or.inl rfl) (fun e he => u2 e (List.mem_cons_of_mem _ he))) (by rw [es, List.map_cons, d6]; rfl)
  · -- 16
    have ec : ckOp G (G.2.1 F.1) (16, x, y) (tyS F, false) = ckTake 0 (tyS F, false) := rfl
    rw [ec] at k2 es
    obtain ⟨r, a1, a2⟩ := ckTake_ok k2
    rw [a2] at es
    obtain ⟨a, S, b1, b2, b3⟩ := map_cons a1
    obtain ⟨c1, c2⟩ := sub b1
    refine ⟨⟨a, S, b1⟩, ?_⟩
    have eo : pOp G (16, x, y) (F.1, F.2.1 + 1, F.2.2) R (1, rs, cl, vl, ou, on) = ((F.1, F.2.1 + 1, F.2.2.1, S) :: R, 1, rs, cl, vl, pSt ou (on &&& 15).toNatClampNeg a.1, on + 1) := by simp only [pOp, p1, b1, pSk]
    rw [eo]
    exact top _ _ _ _ _ (by have := hnl (by omega) (by omega); omega) hloc c2 (by rw [es]; exact b3.symm)
