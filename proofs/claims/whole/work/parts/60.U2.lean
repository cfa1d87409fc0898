/-! Runner: a collection, a new object -/
def rchAll (G : pPg) (l : List Nat) (FS : List pFr) : List Nat := FS.foldl (fun l F => rchFr (G.2.1 F.1).2.1 F l) l
/-- the rows that the frames lead to -/
def pLs (G : pPg) (FS : List pFr) (cl : Nat → Nat) (vl : Nat → Nat → Int32) : List Nat := rof cl vl G.1 0 16 (rchAll G [] FS.reverse)
theorem cnt_e {f g : Nat → Nat} : ∀ n, (∀ j, j < n → f j = g j) → cnt f n = cnt g n
  | 0, _ => rfl
  | n + 1, h => by
    unfold cnt
    rw [h n (by omega), cnt_e n (fun j hj => h j (by omega))]
theorem cnt_le (f : Nat → Nat) : ∀ n, cnt f n ≤ n
  | 0 => Nat.le_refl 0
  | n + 1 => by
    have := cnt_le f n
    unfold cnt
    split <;> omega
theorem cnt_len (cl : Nat → Nat) : ∀ (n : Nat) (l : List Nat), l.Nodup → (∀ j, j ∈ l → j < n ∧ cl j ≠ 0) → cnt (tkc cl l) n = l.length
  | 0, l, _, h => by
    cases l with
    | nil => rfl
    | cons a r => exact absurd (h a List.mem_cons_self).1 (by omega)
  | n + 1, l, hn, h => by
    by_cases hm : n ∈ l
    · have h1 := cnt_len cl n (l.erase n) (hn.erase n) (fun j hj => by
        have q := (hn.mem_erase_iff).mp hj
        have := h j q.2
        exact ⟨by omega, this.2⟩)
      have e1 : cnt (tkc cl l) n = cnt (tkc cl (l.erase n)) n := cnt_e n (fun j hj => by
        unfold tkc
        have : j ∈ l.erase n ↔ j ∈ l := by
          rw [hn.mem_erase_iff]
          exact ⟨fun q => q.2, fun q => ⟨by omega, q⟩⟩
        by_cases q : j ∈ l
        · rw [if_pos q, if_pos (this.mpr q)]
        · rw [if_neg q, if_neg (fun w => q (this.mp w))])
      have h2 : ¬ tkc cl l n = 0 := by unfold tkc; rw [if_pos hm]; exact (h n hm).2
      have hl : 0 < l.length := List.length_pos_of_mem hm
      rw [List.length_erase_of_mem hm] at h1
      unfold cnt
      rw [if_neg h2, e1, h1]
      omega
    · have h2 : tkc cl l n = 0 := by unfold tkc; rw [if_neg hm]
      unfold cnt
      rw [if_pos h2]
      exact cnt_len cl n l hn (fun j hj => by
        have q := h j hj
        have : j ≠ n := fun e => hm (e ▸ hj)
        exact ⟨by omega, q.2⟩)
theorem rcO_rn {s s' : am_S} {σ : pMc} (h : rcO s s') (hR : RnC s σ) : RnC s' σ := by
  obtain ⟨h1, h2, h3, h4, h5, h6, h7, h8, h9⟩ := hR
  have e1 := h.1 250 (by omega) (by omega) (by omega)
  have e3 := h.1 275 (by omega) (by omega) (by omega)
  have e4 := h.1 274 (by omega) (by omega) (by omega)
  refine ⟨by rw [e1]; exact h1, h2, fun k F hk => FrC_same (h3 k F hk) (fun i q1 q2 => h.1 i (by omega) (by omega) (by omega)), by rw [e1]; exact h4, by rw [e1]; exact h5, rcO_hp h h6, by rw [h.2 6 (by omega)]; exact h7, by rw [e3]; exact h8, by rw [e4]; exact h9⟩
theorem rcO_off {s s' : am_S} (h : rcO s s') : off 250 308 s s' := fun i hi => h.1 i (by omega) (by omega) (by omega)
/-- the frames are in range -/
def okF (FS : List pFr) : Prop := ∀ F ∈ FS, F.1 < 6 ∧ ∀ e ∈ F.2.2.2, e.2 < 4
section SU2
variable {s : am_S} {p : Nat} {G : pPg} {FS : List pFr} {st rs : Int32} {cl : Nat → Nat} {vl : Nat → Nat → Int32} {ou : Nat → Int32} {on : Int32}
theorem e_U_collect (hp : p ∈ bsP) (hG : PgC s p G) (hL : okL G.1) (h : RnC s (FS, st, rs, cl, vl, ou, on)) (hF : okF FS) (hlive : ∀ j, j ∈ pLs G FS cl vl → cl j ≠ 0) : uS f_U_collect [.ref 250, .ref p] s (FS, st, rs, tkc cl (pLs G FS cl vl), vl, ou, on) := by
  have h8 : FS.length ≤ 8 := h.2.1
  obtain ⟨s0, b1, b2, b3⟩ := e_H_beginCollection (s := s)
  have loop : ∀ (r j : Nat), j + r = FS.length → ∀ (s1 : am_S) (l : List Nat), RcC s1 l → rcO s s1 → ∀ (jk : List Value), ∃ s', (∃ jk', ∀ Q : Option Value → am_H → Prop, am_W m_U_collect 9 (.ref 250 :: .ref p :: .int (nI j) :: jk) [] (TP, s1) Q ↔ am_W m_U_collect 47 (.ref 250 :: .ref p :: jk') [] (TP, s') Q) ∧ RcC s' (rchAll G l (FS.reverse.drop j)) ∧ rcO s s' := by
    intro r
    induction r with
    | zero =>
      intro j hj s1 l hR hO jk
      have h1 : nI FS.length ≤ nI j := nI_le (by omega) (by omega)
      have hr := rcO_rn hO h
      have hr1 : s1 250 3 = nI FS.length := hr.1
      refine ⟨s1, ⟨.int (nI j) :: jk, fun Q => ?_⟩, ?_, hO⟩
      · rw [k_U_collect_9]
        simp only [k_U_collect_10, k_U_collect_11, k_U_collect_14, g_U3, hr1, h1, am_ob_s, List.tail_cons, List.tail_nil, Option.toList_some, Option.toList_none, List.nil_append, List.cons_append, List.length_nil, List.length_cons, Nat.zero_le, true_and, and_true, true_implies, false_implies, not_true_eq_false, not_false_eq_true, implies_true, or_true, true_or, Nat.reduceAdd, Nat.reduceLeDiff]
      · rw [List.drop_eq_nil_of_le (by rw [List.length_reverse]; omega)]
        exact hR
    | succ r ih =>
      intro j hj s1 l hR hO jk
      have h1 : ¬ nI FS.length ≤ nI j := nI_ge (by omega) (by omega)
      have hr := rcO_rn hO h
      have hr1 : s1 250 3 = nI FS.length := hr.1
      have hjl : j < FS.reverse.length := by rw [List.length_reverse]; omega
      obtain ⟨F, he, hm⟩ : ∃ F, FS.reverse[j]? = some F ∧ FS.reverse.drop j = F :: FS.reverse.drop (j + 1) := ⟨FS.reverse[j], List.getElem?_eq_getElem hjl, List.drop_eq_getElem_cons hjl⟩
      have hf := hF F (List.mem_reverse.mp (List.mem_of_getElem? he))
      have hFC := hr.2.2.1 j F he
      have hj8 : j < 8 := by omega
      obtain ⟨s2, c1, c2, c3⟩ := e_U_reachFrom (bU_F hj8) (bP_R hp hf.1) hFC ((rcO_pg hO hp hG).2.1 F.1 hf.1) hf.2 hR
      obtain ⟨s', ⟨jk', d1⟩, d2, d3⟩ := ih (j + 1) (by omega) s2 _ c2 (rcO_tr hO c3) jk
      refine ⟨s', ⟨jk', fun Q => ?_⟩, ?_, d3⟩
      · rw [k_U_collect_9]
        simp only [k_U_collect_10, k_U_collect_11, k_U_collect_14, k_U_collect_17, k_U_collect_18, k_U_collect_19, k_U_collect_22, k_U_collect_23, k_U_collect_24, k_U_collect_25, k_U_collect_28, k_U_collect_29, k_U_collect_32, k_U_collect_33, k_U_collect_34, k_U_collect_37, k_U_collect_38, k_U_collect_41, k_U_collect_44, g_U3, hr1, h1, g_U0, a_U hj8, g_P1 hp, g_F4 (bU_F hj8), hFC.1, a_Pr hp hf.1, rc_U, c1, nI_1, am_ob_s, List.tail_cons, List.tail_nil, Option.toList_some, Option.toList_none, List.nil_append, List.cons_append, List.length_nil, List.length_cons, Nat.zero_le, true_and, and_true, true_implies, false_implies, not_true_eq_false, not_false_eq_true, implies_true, or_true, true_or, Nat.reduceAdd, Nat.reduceLeDiff]
        exact d1 Q
      · rw [hm]
        exact d2
  obtain ⟨s1, ⟨jk', c1⟩, c2, c3⟩ := loop _ 0 (Nat.zero_add _) s0 [] b2 b3 []
  rw [List.drop_zero] at c2
  obtain ⟨s2, d1, d2, d3⟩ := e_H_reachOverFields hp (rcO_pg c3 hp hG) hL (rcO_hp c3 h.2.2.2.2.2.1) c2
  have hO2 := rcO_tr c3 d3
  have hR2 := rcO_rn hO2 h
  obtain ⟨s3, e1, e2, e3, e4⟩ := e_H_takeAwayTheRest d2 hR2.2.2.2.2.2.1
  have d2' : RcC s2 (pLs G FS cl vl) := d2
  refine ⟨s3, fun Q => ?_, ?_, off_tr (rcO_off hO2) (off_up e4 (by omega) (by omega))⟩
  · rw [nI_0] at c1
    rw [c_U_collect]
    simp only [k_U_collect_0, k_U_collect_1, k_U_collect_4, k_U_collect_7, k_U_collect_8, g_U1, rc_H, b1, am_ob_s, List.tail_cons, List.tail_nil, Option.toList_some, Option.toList_none, List.nil_append, List.cons_append, List.length_nil, List.length_cons, Nat.zero_le, true_and, and_true, true_implies, false_implies, not_true_eq_false, not_false_eq_true, implies_true, or_true, true_or, Nat.reduceAdd, Nat.reduceLeDiff]
    refine (c1 Q).trans ?_
    simp only [k_U_collect_47, k_U_collect_48, k_U_collect_51, k_U_collect_52, k_U_collect_55, k_U_collect_56, k_U_collect_59, k_U_collect_62, g_U1, rc_H, d1, e1, am_ob_s, List.tail_cons, List.tail_nil, Option.toList_some, Option.toList_none, List.nil_append, List.cons_append, List.length_nil, List.length_cons, Nat.zero_le, true_and, and_true, true_implies, false_implies, not_true_eq_false, not_false_eq_true, implies_true, or_true, true_or, Nat.reduceAdd, Nat.reduceLeDiff]
  · obtain ⟨q1, q2, q3, q4, q5, q6, q7, q8, q9⟩ := hR2
    have e : ∀ i, i < 252 ∨ 254 ≤ i → s3 i = s2 i := e4
    have hcl := cnt_len cl 16 (pLs G FS cl vl) d2'.2.2.2.2.1 (fun j hj => ⟨d2'.2.2.2.1 j hj, hlive j hj⟩)
    refine ⟨by rw [e 250 (by omega)]; exact q1, q2, fun k F hk => FrC_same (q3 k F hk) (fun i g1 g2 => e i (by omega)), by rw [e 250 (by omega)]; exact q4, by rw [e 250 (by omega)]; exact q5, e2, ?_, fun j hj => by rw [e 275 (by omega)]; exact q8 j hj, by rw [e 274 (by omega)]; exact q9⟩
    dsimp only
    rw [hcl]
    exact e3
theorem fre_none {cl : Nat → Nat} : ∀ {r j : Nat}, fre cl j r = none ↔ ∀ i, j ≤ i → i < j + r → cl i ≠ 0
  | 0, j => ⟨fun _ i h1 h2 => absurd h2 (by omega), fun _ => rfl⟩
  | r + 1, j => by
    unfold fre
    by_cases e : cl j = 0
    · rw [if_pos e]
      exact ⟨fun h => (by cases h), fun h => absurd e (h j (by omega) (by omega))⟩
    · rw [if_neg e, fre_none]
      refine ⟨fun h i h1 h2 => ?_, fun h i h1 h2 => h i (by omega) (by omega)⟩
      by_cases q : i = j
      · rw [q]; exact e
      · exact h i (by omega) (by omega)
theorem cnt_full (f : Nat → Nat) : ∀ n, cnt f n = n ↔ ∀ i, i < n → f i ≠ 0
  | 0 => ⟨fun _ i h => absurd h (by omega), fun _ => rfl⟩
  | n + 1 => by
    have h1 := cnt_le f n
    have h2 := cnt_full f n
    unfold cnt
    by_cases e : f n = 0
    · rw [if_pos e]
      exact ⟨fun h => absurd h (by omega), fun h => absurd e (h n (by omega))⟩
    · rw [if_neg e]
      refine ⟨fun h i hi => ?_, fun h => by have := h2.mpr (fun i hi => h i (by omega)); omega⟩
      by_cases q : i = n
      · rw [q]; exact e
      · exact h2.mp (by omega) i (by omega)
def pSt {α : Type} (f : Nat → α) (i : Nat) (v : α) : Nat → α := fun j => if j = i then v else f j
theorem pSt_s {α : Type} {f : Nat → α} {i : Nat} {v : α} : pSt f i v i = v := if_pos rfl
theorem pSt_n {α : Type} {f : Nat → α} {i j : Nat} {v : α} (h : j ≠ i) : pSt f i v j = f j := if_neg h
theorem cnt_set {f : Nat → Nat} {j c : Nat} (h0 : f j = 0) (hc : c ≠ 0) : ∀ n, j < n → cnt (pSt f j c) n = cnt f n + 1
  | 0, h => absurd h (by omega)
  | n + 1, h => by
    unfold cnt
    by_cases e : n = j
    · subst e
      rw [pSt_s, if_neg hc, if_pos h0, cnt_e n (fun i hi => pSt_n (by omega))]
    · rw [pSt_n e, cnt_set h0 hc n (by omega)]
      split <;> omega
def pPut (F : pFr) (v : Int32) (t : Nat) : pFr := (F.1, F.2.1, F.2.2.1, (v, t) :: F.2.2.2)
/-- the kinds of rows when an object is asked for -/
def pRoom (G : pPg) (FS : List pFr) (cl : Nat → Nat) (vl : Nat → Nat → Int32) : Nat → Nat := if cnt cl 16 < 16 then cl else tkc cl (pLs G FS cl vl)
theorem e_U_makeObject {F : pFr} {R : List pFr} (hp : p ∈ bsP) (hG : PgC s p G) (hL : okL G.1) (h : RnC s (F :: R, st, rs, cl, vl, ou, on)) (hF : okF (F :: R)) (hlive : ∀ j, j ∈ pLs G (F :: R) cl vl → cl j ≠ 0) (h6 : F.2.2.2.length < 6) {c : Nat} (hc : 1 ≤ c ∧ c < 4) : uS f_U_makeObject [.ref 250, .ref (276 + 4 * R.length), .int (nI c), .ref p] s (match fre (pRoom G (F :: R) cl vl) 0 16 with
    | none => ([], 4, rs, pRoom G (F :: R) cl vl, vl, ou, on)
    | some j => (pPut F (nI (j + 1)) c :: R, st, rs, pSt (pRoom G (F :: R) cl vl) j c, pSt vl j (fun _ => 0), ou, on)) := by
  have hc16 : (16 : Int32) = nI 16 := rfl
  have first : ∃ s1, (∀ Q : Option Value → am_H → Prop, am_C f_U_makeObject [.ref 250, .ref (276 + 4 * R.length), .int (nI c), .ref p] (TP, s) Q ↔ am_W m_U_makeObject 15 [.ref 250, .ref (276 + 4 * R.length), .int (nI c), .ref p] [] (TP, s1) Q) ∧ RnC s1 (F :: R, st, rs, pRoom G (F :: R) cl vl, vl, ou, on) ∧ off 250 308 s s1 := by
    have hcnt : s 252 6 = nI (cnt cl 16) := h.2.2.2.2.2.2.1
    have hle := cnt_le cl 16
    have hlt : (nI (cnt cl 16) < 16) ↔ cnt cl 16 < 16 := nI_ltI (b := 16) (by omega) (by decide)
    by_cases hf : cnt cl 16 < 16
    · refine ⟨s, fun Q => ?_, ?_, off_rf _ _ _⟩
      · rw [c_U_makeObject]
        simp only [k_U_makeObject_0, k_U_makeObject_1, k_U_makeObject_4, k_U_makeObject_7, g_U1, rc_H, e_H_isFull, hcnt, hlt, hf, zb_F, am_ob_s, List.tail_cons, List.tail_nil, Option.toList_some, Option.toList_none, List.nil_append, List.cons_append, List.length_nil, List.length_cons, Nat.zero_le, true_and, and_true, true_implies, false_implies, not_true_eq_false, not_false_eq_true, implies_true, or_true, true_or, Nat.reduceAdd, Nat.reduceLeDiff]
      · rw [pRoom, if_pos hf]
        exact h
    · obtain ⟨s1, d1, d2, d3⟩ := e_U_collect hp hG hL h hF hlive
      refine ⟨s1, fun Q => ?_, ?_, d3⟩
      · rw [c_U_makeObject]
        simp only [k_U_makeObject_0, k_U_makeObject_1, k_U_makeObject_4, k_U_makeObject_7, k_U_makeObject_10, k_U_makeObject_11, k_U_makeObject_12, g_U1, rc_H, rc_U, e_H_isFull, hcnt, hlt, hf, zb_T, hz10, d1, am_ob_s, List.tail_cons, List.tail_nil, Option.toList_some, Option.toList_none, List.nil_append, List.cons_append, List.length_nil, List.length_cons, Nat.zero_le, true_and, and_true, true_implies, false_implies, not_true_eq_false, not_false_eq_true, implies_true, or_true, true_or, Nat.reduceAdd, Nat.reduceLeDiff]
      · rw [pRoom, if_neg hf]
        exact d2
  obtain ⟨s1, a1, a2, a3⟩ := first
  generalize hk : pRoom G (F :: R) cl vl = k at a2 ⊢
  have hcnt : s1 252 6 = nI (cnt k 16) := a2.2.2.2.2.2.2.1
  have hle := cnt_le k 16
  have hlt : (nI (cnt k 16) < 16) ↔ cnt k 16 < 16 := nI_ltI (b := 16) (by omega) (by decide)
  cases hfr : fre k 0 16 with
  | none =>
    have hf : ¬ cnt k 16 < 16 := by
      have := (cnt_full k 16).mpr (fun i hi => fre_none.mp hfr i (by omega) (by omega))
      omega
    obtain ⟨s2, d1, d2, d3⟩ := e_U_end a2 4
    refine ⟨s2, fun Q => ?_, d2, off_tr a3 d3⟩
    rw [a1]
    simp only [k_U_makeObject_15, k_U_makeObject_16, k_U_makeObject_19, k_U_makeObject_22, k_U_makeObject_25, k_U_makeObject_26, k_U_makeObject_27, k_U_makeObject_30, g_U1, rc_H, rc_U, e_H_isFull, hcnt, hlt, hf, zb_T, hz10, d1, am_ob_s, List.tail_cons, List.tail_nil, Option.toList_some, Option.toList_none, List.nil_append, List.cons_append, List.length_nil, List.length_cons, Nat.zero_le, true_and, and_true, true_implies, false_implies, not_true_eq_false, not_false_eq_true, implies_true, or_true, true_or, Nat.reduceAdd, Nat.reduceLeDiff]
  | some j =>
    obtain ⟨_, hj, hj0⟩ := fre_some hfr
    have hj' : j < 16 := by omega
    have hf : cnt k 16 < 16 := by
      have := mt (cnt_full k 16).mp (fun q => q j hj' hj0)
      omega
    have hH : HpC s1 k vl := a2.2.2.2.2.2.1
    have mk := fun (Q : Option Value → am_H → Prop) => e_H_make (Q := Q) hH (nI c)
    rw [hfr] at mk
    dsimp only at mk
    generalize es2 : zrl (am_wr (am_wr s1 253 j (nI c)) 252 6 (s1 252 6 + 1)) (255 + j) 4 = s2 at mk
    have o2 : ∀ i, i ≠ 252 → i ≠ 253 → i ≠ 255 + j → s2 i = s1 i := fun i q1 q2 q3 => by
      rw [← es2, zrl_off _ _ 4 i (by omega), am_wr_row _ q1, am_wr_row _ q2]
    have h252 : s2 252 6 = nI (cnt k 16 + 1) := by
      rw [← es2, zrl_off _ _ 4 252 (by omega), am_wr_self, hcnt, nI_1]
    have h253 : s2 253 = am_wr s1 253 j (nI c) 253 := by
      rw [← es2, zrl_off _ _ 4 253 (by omega), am_wr_row _ (by omega)]
    have hrow : ∀ i, i < 4 → s2 (255 + j) i = 0 := fun i hi => by
      rw [← es2]
      exact zrl_at _ _ 4 i hi
    have hR2 : RnC s2 (F :: R, st, rs, pSt k j c, pSt vl j (fun _ => 0), ou, on) := by
      obtain ⟨q1, q2, q3, q4, q5, q6, q7, q8, q9⟩ := a2
      refine ⟨by rw [o2 250 (by omega) (by omega) (by omega)]; exact q1, q2, fun i A hi => FrC_same (q3 i A hi) (fun x g1 g2 => o2 x (by omega) (by omega) (by omega)), by rw [o2 250 (by omega) (by omega) (by omega)]; exact q4, by rw [o2 250 (by omega) (by omega) (by omega)]; exact q5, fun i hi => ?_, ?_, fun i hi => by rw [o2 275 (by omega) (by omega) (by omega)]; exact q8 i hi, by rw [o2 274 (by omega) (by omega) (by omega)]; exact q9⟩
      · rw [h253]
        by_cases e : i = j
        · subst e
          rw [am_wr_self]
          dsimp only
          rw [pSt_s, pSt_s]
          exact ⟨rfl, hc.2, hrow⟩
        · rw [am_wr_col _ e, o2 (255 + i) (by omega) (by omega) (by omega)]
          dsimp only
          rw [pSt_n e, pSt_n e]
          exact hH i hi
      · dsimp only
        rw [cnt_set hj0 (by omega) 16 hj', h252]
    obtain ⟨t1, t2, t3⟩ := RnC_top hR2
    obtain ⟨s3, d1, d2, d3⟩ := e_F_put (bU_F t2) t1 h6 (nI (j + 1)) c
    have o2' : off 250 308 s1 s2 := fun i hi => o2 i (by omega) (by omega) (by omega)
    refine ⟨s3, fun Q => ?_, RnC_topTo hR2 d2 d3, off_tr (off_tr a3 o2') (RnC_off hR2 d3)⟩
    rw [a1]
    simp only [k_U_makeObject_15, k_U_makeObject_16, k_U_makeObject_19, k_U_makeObject_22, k_U_makeObject_25, k_U_makeObject_26, k_U_makeObject_27, k_U_makeObject_30, k_U_makeObject_31, k_U_makeObject_32, k_U_makeObject_33, k_U_makeObject_36, k_U_makeObject_37, k_U_makeObject_40, k_U_makeObject_41, k_U_makeObject_44, g_U1, rc_H, rc_F (bU_F t2), e_H_isFull, hcnt, hlt, hf, zb_F, mk, d1, am_ob_s, List.tail_cons, List.tail_nil, Option.toList_some, Option.toList_none, List.nil_append, List.cons_append, List.length_nil, List.length_cons, Nat.zero_le, true_and, and_true, true_implies, false_implies, not_true_eq_false, not_false_eq_true, implies_true, or_true, true_or, Nat.reduceAdd, Nat.reduceLeDiff]
end SU2
