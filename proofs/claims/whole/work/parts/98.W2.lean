/-! The law from its start -/
def pG0 : pPg := (fun _ => [], fun _ => (0, 0, 0, []), 0, 0, 0)
def pZ0 : pSg := (pG0, fun _ => pG0, 0, ([], 0, 0, fun _ => 0, fun _ _ => 0, fun _ => 0, 0), 0, 0)
theorem i_0 : iI pZ0 := by
  have hP : iP pG0 := ⟨⟨fun m hm => ⟨by show (0 : Nat) ≤ 3; omega, by show (0 : Nat) < 256; omega, by show (0 : Nat) ≤ 3; omega⟩, fun m hm j e he => by cases he⟩, fun c hc k e he => (by cases he), fun c hc k e he => (by cases he), ⟨0, by omega, rfl⟩, ⟨0, by omega, rfl⟩, bt_0 0 (by omega)⟩
  have hG : iG pG0 := iG_of rfl
  exact ⟨⟨hP, iL_new (N := pG0)⟩, fun i hi => ⟨hP, hG⟩, fun i hi => absurd hi (Nat.not_lt_zero i), iS_nil _ _, fun j hj hc => absurd rfl hc, fun j hj => by show (0 : Nat) < 4; omega, ⟨fun q => absurd q (by show ¬ (0 : Int32) = 1; decide), fun q => absurd rfl q⟩, fun _ => rfl⟩
theorem c_0 : ClC zS pZ0 := by
  have hL : ∀ b, LyC zS b [] := fun b => ⟨rfl, by simp, fun k e hk => by simp at hk⟩
  have lk0 : ∀ i, i < 4 → lk 0 i = 0 := by decide
  have hR : ∀ b, RoC zS b (0, 0, 0, []) := fun b => ⟨rfl, fun i hi => by rw [lk0 i hi]; rfl, rfl, rfl, by simp, fun k e hk => by simp at hk⟩
  have hP : ∀ p, PgC zS p pG0 := fun p => ⟨fun c hc => hL _, fun m hm => hR _, rfl, rfl, rfl⟩
  refine ⟨0, by omega, rfl, rfl, by show (0 : Nat) ≤ 3; omega, hP 1, fun i hi => hP _, ⟨rfl, by show (0 : Nat) ≤ 8; omega, fun k F hk => (by simp [pZ0] at hk), rfl, rfl, fun j hj => ⟨rfl, by show (0 : Nat) < 4; omega, fun k hk => rfl⟩, rfl, fun j hj => rfl, rfl⟩, rfl, rfl, ([], false), rfl, by simp, fun k v hk => by simp at hk, ?_⟩
  rw [zb_f (by simp)]
  rfl
theorem m_0 : MdC zS pZ0 := by
  have hL : ∀ b c, MlC zS b c [] := fun b c => ⟨rfl, by simp, fun k e hk => by simp at hk⟩
  have hR : ∀ a, MrC zS a (0, 0, 0, []) := fun a => ⟨rfl, rfl, rfl, rfl, by simp, fun k e hk => by simp at hk⟩
  have hP : ∀ b, MpC zS b pG0 := fun b => ⟨fun c _ _ => hL _ _, fun m hm => hR _, rfl, rfl⟩
  exact ⟨rfl, by show (0 : Nat) ≤ 3; omega, hP 4, fun i hi => ⟨hP _, rfl⟩, ⟨rfl, by show (0 : Nat) ≤ 8; omega, fun k F hk => (by simp [pZ0] at hk), rfl, rfl, fun j hj => ⟨rfl, by show (0 : Nat) < 4; omega, fun k hk => rfl⟩, fun j hj => rfl, rfl⟩, rfl, rfl⟩
theorem law_all (L : Nat) (xs : Nat → Int32) (hL : L ≤ 2560) : am_W (m_W_law L xs) 0 [.retAddr 0] [] ([], zS) lawQ := by
  have lp := law_loop (xs := xs) hL (L + 1) 0 (by omega) (by omega) zS pZ0 c_0 m_0 i_0
  rw [nI_0] at lp
  have ix := fun (Q : Option Value → am_H → Prop) => e_X_init (Q := Q)
  have im := fun (Q : Option Value → am_H → Prop) => e_M_init (Q := Q)
  have rx : am_rc ([.inr (9, [some none, some none, some none, some none, none, none])], zS) [.ref 0] (some 9) = true := rfl
  have rm := fun (fs : List (Option (Option Nat))) => rcM (s := zS) (ci := 10) (fs := fs) TPX_len
  simp only [k_W_law_0, k_W_law_3, k_W_law_4, k_W_law_7, k_W_law_8, k_W_law_11, k_W_law_12, k_W_law_15, k_W_law_16, k_W_law_17, rx, ix, TPX_len, rm, im, am_ob_s, List.tail_cons, List.tail_nil, Option.toList_some, Option.toList_none, List.nil_append, List.cons_append, List.length_nil, List.length_cons, Nat.zero_le, true_and, and_true, true_implies, false_implies, not_true_eq_false, not_false_eq_true, implies_true, or_true, true_or, Nat.reduceAdd, Nat.reduceLeDiff]
  exact lp
theorem am_pure (L : Nat) (xs : Nat → Int32) (hL : L ≤ 2560) : am_law L xs := by
  obtain ⟨N, r, h', e, q1, q2⟩ := law_all L xs hL
  rw [q1] at e
  exact ⟨N, h', e, q2⟩
