/-! What always holds: kept by every call -/
theorem iI_step {Z : pSg} (h : iI Z) (h1 : Z.2.2.2.1.2.1 = 1) : cdR Z ∧ iI (pStep1 Z) := by
  obtain ⟨hA, hB, hC, hM⟩ := id h
  have hM' : iM (Z.2.1 0) Z.2.2.2.1 := hM
  obtain ⟨hP, hG⟩ := hB 0 (by omega)
  obtain ⟨D, P, w, ⟨FS, st, rs, cl, vl, ou, on⟩, am⟩ := Z
  dsimp only at h1 hM' hP hG
  subst h1
  cases FS with
  | nil => exact absurd rfl (hM'.2.2.2.1.mp rfl)
  | cons F R =>
    have hF := hM'.1.1 F List.mem_cons_self
    obtain ⟨e, he⟩ : ∃ e, ((P 0).2.1 F.1).2.2.2[F.2.1]? = some e := ⟨_, List.getElem?_eq_getElem hF.2⟩
    obtain ⟨i1, i2⟩ := i_step hP hG hM' he
    refine ⟨⟨F, R, e, rfl, he, hP.1.2 F.1 hF.1.1 F.2.1 e he, i1, ?_⟩, ?_⟩
    · refine i_live (fun A hA => ?_) hM'.2.1
      rcases List.mem_cons.mp hA with rfl | hA
      · exact hF.1
      · exact (hM'.1.1 A (List.mem_cons_of_mem _ hA)).1
    · have ep : pStep1 (D, P, w, (F :: R, 1, rs, cl, vl, ou, on), am) = (D, P, w, pOp (P 0) e (F.1, F.2.1 + 1, F.2.2) R (1, rs, cl, vl, ou, on), am) := by
        unfold pStep1
        dsimp only
        rw [he]
      rw [ep]
      exact ⟨hA, hB, hC, i2⟩
theorem iC_same {N D : pPg} : ∀ {R : List pFr} {F : pFr}, (∀ A ∈ F :: R, D.2.1 A.1 = N.2.1 A.1 ∧ ckTo D (D.2.1 A.1) A.2.1 = ckTo N (N.2.1 A.1) A.2.1) → iC N F R → iC D F R
  | [], _, _, _ => trivial
  | C :: R, F, h, hc => ⟨by rw [(h C (List.mem_cons_of_mem _ List.mem_cons_self)).2, (h F List.mem_cons_self).1]; exact hc.1, iC_same (fun A hA => h A (List.mem_cons_of_mem _ hA)) hc.2⟩
theorem iI_ap1 {Z : pSg} (h : iI Z) (hw : 0 < Z.2.2.1) (hh : ¬ pHas Z.2.2.2.1.1 (Z.2.1 1).2.2.2.2) : iI (pAp1 Z) := by
  obtain ⟨hA, hB, hC, hS, hR, h4, h5, h6⟩ := h
  obtain ⟨D, P, w, ⟨FS, st, rs, cl, vl, ou, on⟩, ap, mv⟩ := Z
  dsimp only at *
  obtain ⟨hP0, hG0⟩ := hB 0 (by omega)
  obtain ⟨hP1, hG1⟩ := hB 1 (by omega)
  obtain ⟨hL, hBr⟩ := hC 0 (by omega)
  obtain ⟨c1, c2, c3⟩ := i_collect (FS' := []) (fun F hF => (hS.1 F hF).1) hR h4
  have same : ∀ F ∈ FS, (P 1).2.1 F.1 = (P 0).2.1 F.1 ∧ ckTo (P 1) ((P 1).2.1 F.1) F.2.1 = ckTo (P 0) ((P 0).2.1 F.1) F.2.1 := fun F hF => by
    have hf := hS.1 F hF
    have hb : tbit (P 1).2.2.2.2 (nI F.1) = false := by
      refine Bool.eq_false_iff.mpr (fun q => hh ⟨F, hF, ?_⟩)
      unfold tbit at q
      exact of_decide_eq_true q
    obtain ⟨a1, a2⟩ := ckTo_same hP0 hP1 hG0 hG1 hL hBr hf.1.1 hb
    exact ⟨a1, a2 F.2.1 (Nat.le_of_lt hf.2)⟩
  refine ⟨⟨hA.1, ?_⟩, fun i hi => ?_, fun i hi => ?_, ⟨fun F hF => ?_, fun F R hFR => ?_⟩, fun j hj hc k e he => ?_, c3, h5, h6⟩
  · show iL (P (w - 1 + 1)) D
    rw [Nat.sub_add_cancel hw]
    exact hA.2
  · have hi' : i ≤ w - 1 := hi
    exact hB (i + 1) (by omega)
  · have hi' : i < w - 1 := hi
    exact hC (i + 1) (by omega)
  · have hv := c1 F hF
    have hs := same F hF
    show iF (P 1) (tkc cl (pLs (P 0) FS cl vl)) F
    refine ⟨⟨hv.1, ?_, hv.2.2⟩, ?_⟩
    · rw [hs.1]; exact hv.2.1
    · rw [hs.1]; exact (hS.1 F hF).2
  · show (ckTo (P 1) ((P 1).2.1 F.1) F.2.1).1 = tyS F ∧ iC (P 1) F R
    have hFR' : FS = F :: R := hFR
    obtain ⟨b1, b2⟩ := hS.2 F R hFR'
    have hm : F ∈ FS := by rw [hFR']; exact List.mem_cons_self
    refine ⟨by rw [(same F hm).2]; exact b1, iC_same (fun A hA => same A (by rw [hFR']; exact hA)) b2⟩
  · have hc' : tkc cl (pLs (P 0) FS cl vl) j ≠ 0 := hc
    have he' : ((P 1).1 (tkc cl (pLs (P 0) FS cl vl) j))[k]? = some e := he
    have hc4 := c3 j hj
    show okV (tkc cl (pLs (P 0) FS cl vl)) e.2.1 (mvo (tkc cl (pLs (P 0) FS cl vl)) vl (P 0).1 (P 1).1 (P 1).2.2.1 j k)
    generalize tkc cl (pLs (P 0) FS cl vl) = cl1 at *
    obtain ⟨l1, l2⟩ := hL.1 (cl1 j) hc4
    unfold mvo
    by_cases q : tbit (P 1).2.2.1 (nI (cl1 j)) = true
    · rw [if_pos q]
      unfold mvv
      rw [he']
      dsimp only
      rcases l2 q k e he' with w1 | w1
      · rw [w1, find_neg (hP0.2.2.1 (cl1 j) hc4) (by decide)]
        exact okV_0 _ _
      · cases hf : pFind ((P 0).1 (cl1 j)) e.2.2 with
        | none => exact okV_0 _ _
        | some r =>
          dsimp only
          have hrl := pFind_lt hf
          obtain ⟨fe, hfe⟩ : ∃ fe, ((P 0).1 (cl1 j))[r]? = some fe := ⟨_, List.getElem?_eq_getElem hrl⟩
          rw [pTy, hf, Option.bind_some, hfe] at w1
          have w2 : fe.2.1 = e.2.1 := Option.some.inj w1
          rw [← w2]
          exact c2 j hj hc' r fe hfe
    · rw [if_neg q]
      have q' : tbit (P 1).2.2.1 (nI (cl1 j)) = false := by simpa using q
      rw [l1 q'] at he'
      exact c2 j hj hc' k e he'
theorem iI_ap : ∀ (r : Nat) {Z : pSg}, iI Z → iI (pAp r Z)
  | 0, _, h => h
  | r + 1, Z, h => by
    rw [pAp]
    by_cases q : Z.2.2.1 = 0 ∨ pHas Z.2.2.2.1.1 (Z.2.1 1).2.2.2.2
    · rw [zif_t q]; exact h
    · rw [zif_f q]
      exact iI_ap r (iI_ap1 h (by
        have : ¬ Z.2.2.1 = 0 := fun w => q (Or.inl w)
        omega) (fun w => q (Or.inr w)))
theorem iP_new {N : pPg} (h : iP N) : iP (pNewD N) := by
  obtain ⟨p1, p2, p3, p4, p5, p6⟩ := h
  exact ⟨p1, p2, p3, ⟨0, by omega, rfl⟩, ⟨0, by omega, rfl⟩, bt_0 0 (by omega)⟩
theorem iL_new {N : pPg} : iL N (pNewD N) := by
  refine ⟨fun c hc => ⟨fun _ => rfl, fun q => ?_⟩, fun m hm _ => rfl⟩
  have : tbit (0 : Int32) (nI c) = true := q
  rw [show (0 : Int32) = nI 0 from rfl, bt_0 c (by omega)] at this
  cases this
theorem iI_add {Z : pSg} (h : iI Z) (hck : ckAll Z.1 0 6 = none) : iI (pAdd Z) := by
  obtain ⟨hA, hB, hC, hM⟩ := h
  have hPB : iP (pBar Z.1 (Z.2.1 Z.2.2.1)) := hA.1
  refine ⟨⟨iP_new hPB, ?_⟩, fun i hi => ?_, fun i hi => ?_, ?_⟩
  · show iL (pSt Z.2.1 (Z.2.2.1 + 1) (pBar Z.1 (Z.2.1 Z.2.2.1)) (Z.2.2.1 + 1)) _
    rw [pSt_s]
    exact iL_new
  · have hi' : i ≤ Z.2.2.1 + 1 := hi
    show iP (pSt Z.2.1 (Z.2.2.1 + 1) (pBar Z.1 (Z.2.1 Z.2.2.1)) i) ∧ iG (pSt Z.2.1 (Z.2.2.1 + 1) (pBar Z.1 (Z.2.1 Z.2.2.1)) i)
    by_cases q : i = Z.2.2.1 + 1
    · rw [q, pSt_s]
      exact ⟨hPB, iG_e (G' := Z.1) rfl rfl (iG_of hck)⟩
    · rw [pSt_n q]
      exact hB i (by omega)
  · have hi' : i < Z.2.2.1 + 1 := hi
    show iL (pSt Z.2.1 (Z.2.2.1 + 1) (pBar Z.1 (Z.2.1 Z.2.2.1)) i) (pSt Z.2.1 (Z.2.2.1 + 1) (pBar Z.1 (Z.2.1 Z.2.2.1)) (i + 1)) ∧ iB (pSt Z.2.1 (Z.2.2.1 + 1) (pBar Z.1 (Z.2.1 Z.2.2.1)) i) (pSt Z.2.1 (Z.2.2.1 + 1) (pBar Z.1 (Z.2.1 Z.2.2.1)) (i + 1))
    rw [pSt_n (show i ≠ Z.2.2.1 + 1 by omega)]
    by_cases q : i = Z.2.2.1
    · rw [q, pSt_s]
      exact ⟨hA.2, rfl⟩
    · rw [pSt_n (by omega)]
      exact hC i (by omega)
  · show iM (pSt Z.2.1 (Z.2.2.1 + 1) (pBar Z.1 (Z.2.1 Z.2.2.1)) 0) Z.2.2.2.1
    rw [pSt_n (by omega)]
    exact hM
theorem iI_draft {Z : pSg} (h : iI Z) {D : pPg} (h1 : iP D) (h2 : iL (Z.2.1 Z.2.2.1) D) : iI (D, Z.2) := ⟨⟨h1, h2⟩, h.2⟩
theorem iI_layout {Z : pSg} (h : iI Z) (c : Int32) : iI (pLayout Z c).2 := by
  unfold pLayout
  by_cases hc : isC c
  · rw [zif_t hc]
    obtain ⟨ec, k1, k3⟩ := isC_n hc
    obtain ⟨⟨⟨p1, p2, p3, ⟨n, hn, en⟩, p5, p6⟩, hL⟩, _⟩ := id h
    obtain ⟨b1, b2, b3⟩ := bt_or n hn (cN c) (by omega)
    rw [← ec] at b1 b2
    refine iI_draft h ⟨p1, fun d hd k e he => ?_, fun d hd k e he => ?_, ⟨_, b3, by rw [en]; exact b2⟩, p5, ?_⟩ ⟨fun d hd => ?_, hL.2⟩
    · dsimp only at he
      by_cases q : d = cN c
      · rw [q, pSt_s] at he; simp at he
      · rw [pSt_n q] at he; exact p2 d hd k e he
    · dsimp only at he
      by_cases q : d = cN c
      · rw [q, pSt_s] at he; simp at he
      · rw [pSt_n q] at he; exact p3 d hd k e he
    · dsimp only
      rw [en, b1 0 (by omega), ← en, p6]
      simp only [Bool.false_or]
      exact decide_eq_false (by omega)
    · dsimp only
      rw [en, b1 d (by omega), ← en]
      by_cases q : d = cN c
      · rw [q, pSt_s]
        exact ⟨fun w => by simp at w, fun _ k e he => by simp at he⟩
      · rw [pSt_n q, decide_eq_false (fun w => q w.symm), Bool.or_false]
        exact hL.1 d hd
  · rw [zif_f hc]; exact h
theorem iI_field {Z : pSg} (h : iI Z) (c nm ty fr : Int32) : iI (pField Z c nm ty fr).2 := by
  unfold pField
  by_cases hf : okField Z c nm ty fr
  · rw [zif_t hf]
    obtain ⟨⟨f1, f2, f3, f4⟩, ⟨f5, f6⟩, f7⟩ := hf
    obtain ⟨ec, k1, k3⟩ := isC_n f1
    obtain ⟨en, n9⟩ := isN_n f3
    obtain ⟨et, t3⟩ := isT_n f4
    obtain ⟨⟨⟨p1, p2, p3, p4, p5, p6⟩, hL⟩, _⟩ := id h
    refine iI_draft h ⟨p1, fun d hd k e he => ?_, fun d hd k e he => ?_, p4, p5, p6⟩ ⟨fun d hd => ?_, hL.2⟩
    · dsimp only at he
      by_cases q : d = cN c
      · rw [q, pSt_s] at he
        rcases app_at he with ⟨_, w⟩ | ⟨_, w⟩
        · exact p2 _ (by omega) k e w
        · rw [w]; show cN ty < 4; omega
      · rw [pSt_n q] at he; exact p2 d hd k e he
    · dsimp only at he
      by_cases q : d = cN c
      · rw [q, pSt_s] at he
        rcases app_at he with ⟨_, w⟩ | ⟨_, w⟩
        · exact p3 _ (by omega) k e w
        · rw [w]; exact n9
      · rw [pSt_n q] at he; exact p3 d hd k e he
    · dsimp only
      by_cases q : d = cN c
      · rw [q, pSt_s]
        rw [ec] at f2
        refine ⟨fun w => absurd f2 (by rw [w]; simp), fun w k e he => ?_⟩
        rcases app_at he with ⟨_, w2⟩ | ⟨_, w2⟩
        · exact (hL.1 _ (by omega)).2 w k e w2
        · rw [w2]; exact f7
      · rw [pSt_n q]
        exact hL.1 d hd
  · rw [zif_f hf]; exact h
theorem iI_head {Z : pSg} (h : iI Z) (m n K g : Int32) : iI (pHead Z m n K g).2 := by
  unfold pHead
  by_cases hf : okHead m n K g
  · rw [zif_t hf]
    obtain ⟨⟨f1, f2⟩, ⟨f3, f4⟩, f5, f6⟩ := hf
    obtain ⟨em, hm⟩ := isM_n f1
    obtain ⟨eg, hg⟩ := isT_n f2
    obtain ⟨n', hn', rfl⟩ := nI_of2 (M := 3) (n := 3) (by decide) f3 (Int32.not_lt.mp f4)
    obtain ⟨K', hK', rfl⟩ := nI_of2 (M := 255) (n := 255) (by decide) f5 f6
    rw [cN_nI (by omega), cN_nI (by omega)]
    obtain ⟨⟨⟨p1, p2, p3, p4, ⟨q0, hq0, eq0⟩, p6⟩, hL⟩, _⟩ := id h
    obtain ⟨b1, b2, b3⟩ := bt_or q0 hq0 (cN m) hm
    rw [← em] at b1 b2
    refine iI_draft h ⟨⟨fun m' hm' => ?_, fun m' hm' j e he => ?_⟩, p2, p3, p4, ⟨_, b3, by rw [eq0]; exact b2⟩, p6⟩ ⟨hL.1, fun m' hm' ht => ?_⟩
    · dsimp only
      by_cases q : m' = cN m
      · rw [q, pSt_s]; exact ⟨by show n' ≤ 3; omega, by show K' < 256; omega, hg⟩
      · rw [pSt_n q]; exact p1.1 m' hm'
    · dsimp only at he
      by_cases q : m' = cN m
      · rw [q, pSt_s] at he; simp at he
      · rw [pSt_n q] at he; exact p1.2 m' hm' j e he
    · dsimp only at ht ⊢
      rw [eq0, b1 m' hm', ← eq0, Bool.or_eq_false_iff] at ht
      have q : m' ≠ cN m := fun w => absurd w.symm (of_decide_eq_false ht.2)
      rw [pSt_n q]
      exact hL.2 m' hm' ht.1
  · rw [zif_f hf]; exact h
theorem okX_okE {o : Nat} {x y : Int32} (ho : o ≤ 16) (hx : okX o x) (hy : okY o y) : okE (o, x, cN y) := by
  obtain ⟨ey, y9⟩ := okY_n hy
  refine ⟨ho, y9, ?_⟩
  by_cases q : o = 0
  · exact Or.inl q
  · refine Or.inr ?_
    show x = nI (cN x) ∧ xr o (cN x)
    have hC : isC x → (x = nI (cN x) ∧ 1 ≤ cN x ∧ cN x ≤ 3) := isC_n
    have h0 : x = 0 → (x = nI (cN x) ∧ cN x = 0) := fun w => by rw [w]; decide
    have hN : ∀ n, n < 100 → ¬ x < 0 → ¬ nI n ≤ x → (x = nI (cN x) ∧ cN x < n) := fun n hn w1 w2 => by
      obtain ⟨k, hk, rfl⟩ := nI_of w1
      have : ¬ n ≤ k := fun w3 => w2 (nI_le w3 hk)
      rw [cN_nI (by omega)]
      exact ⟨rfl, by omega⟩
    rcases (show o = 1 ∨ o = 10 ∨ o = 11 ∨ o = 12 ∨ o = 15 ∨ o = 2 ∨ o = 3 ∨ o = 8 ∨ o = 9 ∨ o = 13 ∨ o = 4 ∨ o = 5 ∨ o = 6 ∨ o = 7 ∨ o = 14 ∨ o = 16 by omega) with rfl | rfl | rfl | rfl | rfl | rfl | rfl | rfl | rfl | rfl | rfl | rfl | rfl | rfl | rfl | rfl
    · have := hC hx; exact ⟨this.1, by unfold xr; omega⟩
    · have := hC hx; exact ⟨this.1, by unfold xr; omega⟩
    · have := hC hx; exact ⟨this.1, by unfold xr; omega⟩
    · have := hC hx; exact ⟨this.1, by unfold xr; omega⟩
    · have := hC hx; exact ⟨this.1, by unfold xr; omega⟩
    · have := hN 4 (by omega) hx.1 hx.2; exact ⟨this.1, by unfold xr; omega⟩
    · have := hN 4 (by omega) hx.1 hx.2; exact ⟨this.1, by unfold xr; omega⟩
    · have := hN 14 (by omega) hx.1 hx.2; exact ⟨this.1, by unfold xr; omega⟩
    · have := hN 14 (by omega) hx.1 hx.2; exact ⟨this.1, by unfold xr; omega⟩
    · have := isM_n hx; exact ⟨this.1, by unfold xr; omega⟩
    · have := h0 hx; exact ⟨this.1, by unfold xr; omega⟩
    · have := h0 hx; exact ⟨this.1, by unfold xr; omega⟩
    · have := h0 hx; exact ⟨this.1, by unfold xr; omega⟩
    · have := h0 hx; exact ⟨this.1, by unfold xr; omega⟩
    · have := h0 hx; exact ⟨this.1, by unfold xr; omega⟩
    · have := h0 hx; exact ⟨this.1, by unfold xr; omega⟩
theorem iI_code {Z : pSg} (h : iI Z) (m o x y : Int32) : iI (pCode Z m o x y).2 := by
  unfold pCode
  by_cases hf : okCode Z m o x y
  · rw [zif_t hf]
    obtain ⟨⟨f1, f2, f3⟩, f4, f5, f6, f7⟩ := hf
    obtain ⟨em, hm⟩ := isM_n f1
    obtain ⟨o', ho', rfl⟩ := nI_of2 (M := 16) (n := 16) (by decide) f4 (Int32.not_lt.mp f5)
    rw [cN_nI (by omega)] at f6 f7 ⊢
    obtain ⟨⟨⟨p1, p2, p3, p4, p5, p6⟩, hL⟩, _⟩ := id h
    refine iI_draft h ⟨⟨fun m' hm' => ?_, fun m' hm' j e he => ?_⟩, p2, p3, p4, p5, p6⟩ ⟨hL.1, fun m' hm' ht => ?_⟩
    · dsimp only
      by_cases q : m' = cN m
      · rw [q, pSt_s]; exact p1.1 _ hm
      · rw [pSt_n q]; exact p1.1 m' hm'
    · dsimp only at he
      by_cases q : m' = cN m
      · rw [q, pSt_s] at he
        rcases app_at he with ⟨_, w⟩ | ⟨_, w⟩
        · exact p1.2 _ hm j e w
        · rw [w]; exact okX_okE ho' f6 f7
      · rw [pSt_n q] at he; exact p1.2 m' hm' j e he
    · dsimp only at ht ⊢
      by_cases q : m' = cN m
      · rw [em, ← q] at f2
        rw [ht] at f2
        cases f2
      · rw [pSt_n q]; exact hL.2 m' hm' ht
  · rw [zif_f hf]; exact h
theorem iI_drop {Z : pSg} (h : iI Z) : iI (pDrop Z).2 := by
  unfold pDrop
  by_cases q : Z.1.2.2.1 = 0 ∧ Z.1.2.2.2.1 = 0
  · rw [zif_t q]; exact h
  · rw [zif_f q]
    exact iI_draft h (iP_new (h.2.1 _ (Nat.le_refl _)).1) iL_new
theorem iI_commit {Z : pSg} (h : iI Z) : iI (pCommit Z).2 := by
  unfold pCommit
  by_cases q : (Z.1.2.2.1 = 0 ∧ Z.1.2.2.2.1 = 0) ∨ 3 ≤ Z.2.2.1
  · rw [zif_t q]; exact h
  · rw [zif_f q]
    cases hck : ckAll Z.1 0 6 with
    | some k => exact h
    | none => exact iI_ap 3 (iI_add h hck)
theorem iI_start {Z : pSg} (h : iI Z) (m : Int32) : iI (pStart Z m).2 := by
  unfold pStart
  by_cases q : okStart Z m
  · rw [zif_t q]
    obtain ⟨q1, q2, q3, q4, q5⟩ := q
    obtain ⟨em, hm⟩ := isM_n q2
    obtain ⟨hA, hB, hC, hS, hR, h4, h5, h6⟩ := h
    refine ⟨hA, hB, hC, ⟨fun F hF => ?_, fun F R hFR => ?_⟩, hR, h4, ⟨fun _ w => (by cases w), fun _ => rfl⟩, fun _ => rfl⟩
    · rw [List.mem_singleton] at hF
      rw [hF]
      exact ⟨⟨hm, fun i hi => okV_0 _ _, fun e he => by cases he⟩, q3⟩
    · have hFR' : [(cN m, 0, fun _ => (0 : Int32), ([] : List (Int32 × Nat)))] = F :: R := hFR
      obtain ⟨rfl, rfl⟩ := List.cons.inj hFR'
      exact ⟨rfl, trivial⟩
  · rw [zif_f q]; exact h
theorem iI_loop : ∀ (r k : Nat) {Z : pSg}, iI Z → iI (pLoop k r Z).2
  | 0, _, _, h => h
  | r + 1, k, Z, h => by
    rw [pLoop]
    by_cases q : Z.2.2.2.1.2.1 = 1
    · rw [zif_t q]
      exact iI_loop r (k + 1) (iI_ap 3 (iI_step h q).2)
    · rw [zif_f q]; exact h
theorem iI_run {Z : pSg} (h : iI Z) (n : Int32) : iI (pRun Z n).2 := by
  unfold pRun
  by_cases q : n < 1 ∨ 300 < n ∨ ¬ Z.2.2.2.1.2.1 = 1
  · rw [zif_t q]; exact h
  · rw [zif_f q]; exact iI_loop _ 0 h
