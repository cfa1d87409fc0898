/-! reading and writing the fixed cells; printed by base.py -/
section BS
variable {s : am_S} {i ci k t n j x : Nat} {fl : List (Option (Option Nat))} {rs : List (Option Nat)} {v : Int32} {as : List Value}
theorem gfI (hd : TP[i]? = some (.inr (ci, fl))) (hk : fl[k]? = some none) : am_gf (TP, s) i ci k = some (.int (s i k)) := by simp [am_gf, hd, hk]
theorem gfR (hd : TP[i]? = some (.inr (ci, fl))) (hk : fl[k]? = some (some (some j))) : am_gf (TP, s) i ci k = some (.ref j) := by simp [am_gf, hd, hk]
theorem pfI (hd : TP[i]? = some (.inr (ci, fl))) (hk : fl[k]? = some none) : am_pf (TP, s) i ci k 0 (.int v) = some (TP, am_wr s i k v) := by simp [am_pf, hd, hk]
theorem pfZ (hd : TP[i]? = some (.inr (ci, fl))) (hk : fl[k]? = some none) (hv : v = 0 ∨ v = 1) : am_pf (TP, s) i ci k 1 (.int v) = some (TP, am_wr s i k v) := by simp [am_pf, hd, hk, hv]
theorem nI_out (hj : j < n) (hn : n < 2 ^ 31) : ¬ am_out (nI j) n := by
  intro h
  rcases h with h | h
  · exact nI_pos (by omega) h
  · rw [nI_clamp (by omega)] at h
    omega
theorem ldI (hd : TP[i]? = some (.inl (t, n, none))) (hn : n < 1000) (hj : j < n) : am_ld (TP, s) t i (nI j) = some (s i j) := by
  have h1 := nI_out hj (by omega : n < 2 ^ 31)
  unfold am_ld
  rw [hd]
  show (if _ then _ else _) = _
  rw [if_pos ⟨rfl, h1⟩, nI_clamp (by omega)]
theorem sdI (hd : TP[i]? = some (.inl (0, n, none))) (hn : n < 1000) (hj : j < n) : am_sd (TP, s) 0 i (nI j) v = some (TP, am_wr s i j v) := by
  have h1 := nI_out hj (by omega : n < 2 ^ 31)
  unfold am_sd
  rw [hd]
  show (if _ then _ else _) = _
  rw [if_pos ⟨rfl, h1, Or.inl rfl⟩, nI_clamp (by omega)]
theorem sdZ (hd : TP[i]? = some (.inl (1, n, none))) (hn : n < 1000) (hj : j < n) (hv : v = 0 ∨ v = 1) : am_sd (TP, s) 1 i (nI j) v = some (TP, am_wr s i j v) := by
  have h1 := nI_out hj (by omega : n < 2 ^ 31)
  unfold am_sd
  rw [hd]
  show (if _ then _ else _) = _
  rw [if_pos ⟨rfl, h1, Or.inr hv⟩, nI_clamp (by omega)]
theorem laI (hd : TP[i]? = some (.inl (t, n, some rs))) (hn : n < 1000) (hj : j < n) (hr : rs[j]? = some (some x)) : am_la (TP, s) i (nI j) = some x := by
  have h1 := nI_out hj (by omega : n < 2 ^ 31)
  unfold am_la
  rw [hd]
  show (if _ then _ else _) = _
  rw [if_neg h1, nI_clamp (by omega), hr]
  rfl
theorem rcI (hd : TP[i]? = some (.inr (ci, fl))) : am_rc (TP, s) (.ref i :: as) (some ci) = true := by simp [am_rc, hd]
theorem g_L0 {b : Nat} (hb : b ∈ bsL) : am_gf (TP, s) b 0 0 = some (.ref (b + 1)) := gfR (tL0 b hb) rfl
theorem g_L1 {b : Nat} (hb : b ∈ bsL) : am_gf (TP, s) b 0 1 = some (.ref (b + 2)) := gfR (tL0 b hb) rfl
theorem g_L2 {b : Nat} (hb : b ∈ bsL) : am_gf (TP, s) b 0 2 = some (.ref (b + 3)) := gfR (tL0 b hb) rfl
theorem g_L3 {b : Nat} (hb : b ∈ bsL) : am_gf (TP, s) b 0 3 = some (.int (s b 3)) := gfI (tL0 b hb) rfl
theorem p_L3 {b : Nat} (hb : b ∈ bsL) : am_pf (TP, s) b 0 3 0 (.int v) = some (TP, am_wr s b 3 v) := pfI (tL0 b hb) rfl
theorem rc_L {b : Nat} (hb : b ∈ bsL) : am_rc (TP, s) (.ref (b) :: as) (some 0) = true := rcI (tL0 b hb)
theorem g_R0 {b : Nat} (hb : b ∈ bsR) : am_gf (TP, s) b 1 0 = some (.ref (b + 1)) := gfR (tR0 b hb) rfl
theorem g_R1 {b : Nat} (hb : b ∈ bsR) : am_gf (TP, s) b 1 1 = some (.ref (b + 2)) := gfR (tR0 b hb) rfl
theorem g_R2 {b : Nat} (hb : b ∈ bsR) : am_gf (TP, s) b 1 2 = some (.ref (b + 3)) := gfR (tR0 b hb) rfl
theorem g_R3 {b : Nat} (hb : b ∈ bsR) : am_gf (TP, s) b 1 3 = some (.ref (b + 4)) := gfR (tR0 b hb) rfl
theorem g_R4 {b : Nat} (hb : b ∈ bsR) : am_gf (TP, s) b 1 4 = some (.int (s b 4)) := gfI (tR0 b hb) rfl
theorem p_R4 {b : Nat} (hb : b ∈ bsR) : am_pf (TP, s) b 1 4 0 (.int v) = some (TP, am_wr s b 4 v) := pfI (tR0 b hb) rfl
theorem g_R5 {b : Nat} (hb : b ∈ bsR) : am_gf (TP, s) b 1 5 = some (.int (s b 5)) := gfI (tR0 b hb) rfl
theorem p_R5 {b : Nat} (hb : b ∈ bsR) : am_pf (TP, s) b 1 5 0 (.int v) = some (TP, am_wr s b 5 v) := pfI (tR0 b hb) rfl
theorem g_R6 {b : Nat} (hb : b ∈ bsR) : am_gf (TP, s) b 1 6 = some (.int (s b 6)) := gfI (tR0 b hb) rfl
theorem p_R6 {b : Nat} (hb : b ∈ bsR) : am_pf (TP, s) b 1 6 0 (.int v) = some (TP, am_wr s b 6 v) := pfI (tR0 b hb) rfl
theorem rc_R {b : Nat} (hb : b ∈ bsR) : am_rc (TP, s) (.ref (b) :: as) (some 1) = true := rcI (tR0 b hb)
theorem g_P0 {b : Nat} (hb : b ∈ bsP) : am_gf (TP, s) b 2 0 = some (.ref (b + 1)) := gfR (tP0 b hb) rfl
theorem g_P1 {b : Nat} (hb : b ∈ bsP) : am_gf (TP, s) b 2 1 = some (.ref (b + 2)) := gfR (tP0 b hb) rfl
theorem g_P2 {b : Nat} (hb : b ∈ bsP) : am_gf (TP, s) b 2 2 = some (.int (s b 2)) := gfI (tP0 b hb) rfl
theorem p_P2 {b : Nat} (hb : b ∈ bsP) : am_pf (TP, s) b 2 2 0 (.int v) = some (TP, am_wr s b 2 v) := pfI (tP0 b hb) rfl
theorem g_P3 {b : Nat} (hb : b ∈ bsP) : am_gf (TP, s) b 2 3 = some (.int (s b 3)) := gfI (tP0 b hb) rfl
theorem p_P3 {b : Nat} (hb : b ∈ bsP) : am_pf (TP, s) b 2 3 0 (.int v) = some (TP, am_wr s b 3 v) := pfI (tP0 b hb) rfl
theorem g_P4 {b : Nat} (hb : b ∈ bsP) : am_gf (TP, s) b 2 4 = some (.int (s b 4)) := gfI (tP0 b hb) rfl
theorem p_P4 {b : Nat} (hb : b ∈ bsP) : am_pf (TP, s) b 2 4 0 (.int v) = some (TP, am_wr s b 4 v) := pfI (tP0 b hb) rfl
theorem rc_P {b : Nat} (hb : b ∈ bsP) : am_rc (TP, s) (.ref (b) :: as) (some 2) = true := rcI (tP0 b hb)
theorem tQ0 : TP[50]? = some (.inr (3, [some (some 51), none, none])) := am_isD_ok (by decide +kernel)
theorem g_Q0 : am_gf (TP, s) 50 3 0 = some (.ref (51)) := gfR tQ0 rfl
theorem g_Q1 : am_gf (TP, s) 50 3 1 = some (.int (s 50 1)) := gfI tQ0 rfl
theorem p_Q1 : am_pf (TP, s) 50 3 1 0 (.int v) = some (TP, am_wr s 50 1 v) := pfI tQ0 rfl
theorem g_Q2 : am_gf (TP, s) 50 3 2 = some (.int (s 50 2)) := gfI tQ0 rfl
theorem p_Q2 : am_pf (TP, s) 50 3 2 0 (.int v) = some (TP, am_wr s 50 2 v) := pfI tQ0 rfl
theorem rc_Q : am_rc (TP, s) (.ref (50) :: as) (some 3) = true := rcI tQ0
theorem tC0 : TP[248]? = some (.inr (4, [some (some 249), none, none])) := am_isD_ok (by decide +kernel)
theorem g_C0 : am_gf (TP, s) 248 4 0 = some (.ref (249)) := gfR tC0 rfl
theorem g_C1 : am_gf (TP, s) 248 4 1 = some (.int (s 248 1)) := gfI tC0 rfl
theorem p_C1 : am_pf (TP, s) 248 4 1 0 (.int v) = some (TP, am_wr s 248 1 v) := pfI tC0 rfl
theorem g_C2 : am_gf (TP, s) 248 4 2 = some (.int (s 248 2)) := gfI tC0 rfl
theorem p_C2 (hv : v = 0 ∨ v = 1) : am_pf (TP, s) 248 4 2 1 (.int v) = some (TP, am_wr s 248 2 v) := pfZ tC0 rfl hv
theorem rc_C : am_rc (TP, s) (.ref (248) :: as) (some 4) = true := rcI tC0
theorem tH0 : TP[252]? = some (.inr (5, [some (some 253), some (some 254), some (some 271), some (some 272), some (some 273), none, none])) := am_isD_ok (by decide +kernel)
theorem g_H0 : am_gf (TP, s) 252 5 0 = some (.ref (253)) := gfR tH0 rfl
theorem g_H1 : am_gf (TP, s) 252 5 1 = some (.ref (254)) := gfR tH0 rfl
theorem g_H2 : am_gf (TP, s) 252 5 2 = some (.ref (271)) := gfR tH0 rfl
theorem g_H3 : am_gf (TP, s) 252 5 3 = some (.ref (272)) := gfR tH0 rfl
theorem g_H4 : am_gf (TP, s) 252 5 4 = some (.ref (273)) := gfR tH0 rfl
theorem g_H5 : am_gf (TP, s) 252 5 5 = some (.int (s 252 5)) := gfI tH0 rfl
theorem p_H5 : am_pf (TP, s) 252 5 5 0 (.int v) = some (TP, am_wr s 252 5 v) := pfI tH0 rfl
theorem g_H6 : am_gf (TP, s) 252 5 6 = some (.int (s 252 6)) := gfI tH0 rfl
theorem p_H6 : am_pf (TP, s) 252 5 6 0 (.int v) = some (TP, am_wr s 252 6 v) := pfI tH0 rfl
theorem rc_H : am_rc (TP, s) (.ref (252) :: as) (some 5) = true := rcI tH0
theorem tO0 : TP[274]? = some (.inr (6, [some (some 275), none])) := am_isD_ok (by decide +kernel)
theorem g_O0 : am_gf (TP, s) 274 6 0 = some (.ref (275)) := gfR tO0 rfl
theorem g_O1 : am_gf (TP, s) 274 6 1 = some (.int (s 274 1)) := gfI tO0 rfl
theorem p_O1 : am_pf (TP, s) 274 6 1 0 (.int v) = some (TP, am_wr s 274 1 v) := pfI tO0 rfl
theorem rc_O : am_rc (TP, s) (.ref (274) :: as) (some 6) = true := rcI tO0
theorem g_F0 {b : Nat} (hb : b ∈ bsF) : am_gf (TP, s) b 7 0 = some (.ref (b + 1)) := gfR (tF0 b hb) rfl
theorem g_F1 {b : Nat} (hb : b ∈ bsF) : am_gf (TP, s) b 7 1 = some (.ref (b + 2)) := gfR (tF0 b hb) rfl
theorem g_F2 {b : Nat} (hb : b ∈ bsF) : am_gf (TP, s) b 7 2 = some (.ref (b + 3)) := gfR (tF0 b hb) rfl
theorem g_F3 {b : Nat} (hb : b ∈ bsF) : am_gf (TP, s) b 7 3 = some (.int (s b 3)) := gfI (tF0 b hb) rfl
theorem p_F3 {b : Nat} (hb : b ∈ bsF) : am_pf (TP, s) b 7 3 0 (.int v) = some (TP, am_wr s b 3 v) := pfI (tF0 b hb) rfl
theorem g_F4 {b : Nat} (hb : b ∈ bsF) : am_gf (TP, s) b 7 4 = some (.int (s b 4)) := gfI (tF0 b hb) rfl
theorem p_F4 {b : Nat} (hb : b ∈ bsF) : am_pf (TP, s) b 7 4 0 (.int v) = some (TP, am_wr s b 4 v) := pfI (tF0 b hb) rfl
theorem g_F5 {b : Nat} (hb : b ∈ bsF) : am_gf (TP, s) b 7 5 = some (.int (s b 5)) := gfI (tF0 b hb) rfl
theorem p_F5 {b : Nat} (hb : b ∈ bsF) : am_pf (TP, s) b 7 5 0 (.int v) = some (TP, am_wr s b 5 v) := pfI (tF0 b hb) rfl
theorem rc_F {b : Nat} (hb : b ∈ bsF) : am_rc (TP, s) (.ref (b) :: as) (some 7) = true := rcI (tF0 b hb)
theorem tU0 : TP[250]? = some (.inr (8, [some (some 251), some (some 252), some (some 274), none, none, none])) := am_isD_ok (by decide +kernel)
theorem g_U0 : am_gf (TP, s) 250 8 0 = some (.ref (251)) := gfR tU0 rfl
theorem g_U1 : am_gf (TP, s) 250 8 1 = some (.ref (252)) := gfR tU0 rfl
theorem g_U2 : am_gf (TP, s) 250 8 2 = some (.ref (274)) := gfR tU0 rfl
theorem g_U3 : am_gf (TP, s) 250 8 3 = some (.int (s 250 3)) := gfI tU0 rfl
theorem p_U3 : am_pf (TP, s) 250 8 3 0 (.int v) = some (TP, am_wr s 250 3 v) := pfI tU0 rfl
theorem g_U4 : am_gf (TP, s) 250 8 4 = some (.int (s 250 4)) := gfI tU0 rfl
theorem p_U4 : am_pf (TP, s) 250 8 4 0 (.int v) = some (TP, am_wr s 250 4 v) := pfI tU0 rfl
theorem g_U5 : am_gf (TP, s) 250 8 5 = some (.int (s 250 5)) := gfI tU0 rfl
theorem p_U5 : am_pf (TP, s) 250 8 5 0 (.int v) = some (TP, am_wr s 250 5 v) := pfI tU0 rfl
theorem rc_U : am_rc (TP, s) (.ref (250) :: as) (some 8) = true := rcI tU0
theorem tX0 : TP[0]? = some (.inr (9, [some (some 1), some (some 50), some (some 248), some (some 250), none, none])) := am_isD_ok (by decide +kernel)
theorem g_X0 : am_gf (TP, s) 0 9 0 = some (.ref (1)) := gfR tX0 rfl
theorem g_X1 : am_gf (TP, s) 0 9 1 = some (.ref (50)) := gfR tX0 rfl
theorem g_X2 : am_gf (TP, s) 0 9 2 = some (.ref (248)) := gfR tX0 rfl
theorem g_X3 : am_gf (TP, s) 0 9 3 = some (.ref (250)) := gfR tX0 rfl
theorem g_X4 : am_gf (TP, s) 0 9 4 = some (.int (s 0 4)) := gfI tX0 rfl
theorem p_X4 : am_pf (TP, s) 0 9 4 0 (.int v) = some (TP, am_wr s 0 4 v) := pfI tX0 rfl
theorem g_X5 : am_gf (TP, s) 0 9 5 = some (.int (s 0 5)) := gfI tX0 rfl
theorem p_X5 : am_pf (TP, s) 0 9 5 0 (.int v) = some (TP, am_wr s 0 5 v) := pfI tX0 rfl
theorem rc_X : am_rc (TP, s) (.ref (0) :: as) (some 9) = true := rcI tX0
theorem tM0 : TP[308]? = some (.inr (10, [some (some 309), some (some 310), some (some 311), some (some 312), some (some 313), some (some 314), some (some 315), some (some 316), some (some 317), some (some 318), some (some 319), some (some 320), some (some 321), some (some 322), none, none, none, some (some 323), none, none, none, none, some (some 324), some (some 325), some (some 326), some (some 327), some (some 328), some (some 329), some (some 330), some (some 331), some (some 332), some (some 333), some (some 334), none])) := am_isD_ok (by decide +kernel)
theorem g_M0 : am_gf (TP, s) 308 10 0 = some (.ref (309)) := gfR tM0 rfl
theorem g_M1 : am_gf (TP, s) 308 10 1 = some (.ref (310)) := gfR tM0 rfl
theorem g_M2 : am_gf (TP, s) 308 10 2 = some (.ref (311)) := gfR tM0 rfl
theorem g_M3 : am_gf (TP, s) 308 10 3 = some (.ref (312)) := gfR tM0 rfl
theorem g_M4 : am_gf (TP, s) 308 10 4 = some (.ref (313)) := gfR tM0 rfl
theorem g_M5 : am_gf (TP, s) 308 10 5 = some (.ref (314)) := gfR tM0 rfl
theorem g_M6 : am_gf (TP, s) 308 10 6 = some (.ref (315)) := gfR tM0 rfl
theorem g_M7 : am_gf (TP, s) 308 10 7 = some (.ref (316)) := gfR tM0 rfl
theorem g_M8 : am_gf (TP, s) 308 10 8 = some (.ref (317)) := gfR tM0 rfl
theorem g_M9 : am_gf (TP, s) 308 10 9 = some (.ref (318)) := gfR tM0 rfl
theorem g_M10 : am_gf (TP, s) 308 10 10 = some (.ref (319)) := gfR tM0 rfl
theorem g_M11 : am_gf (TP, s) 308 10 11 = some (.ref (320)) := gfR tM0 rfl
theorem g_M12 : am_gf (TP, s) 308 10 12 = some (.ref (321)) := gfR tM0 rfl
theorem g_M13 : am_gf (TP, s) 308 10 13 = some (.ref (322)) := gfR tM0 rfl
theorem g_M14 : am_gf (TP, s) 308 10 14 = some (.int (s 308 14)) := gfI tM0 rfl
theorem p_M14 : am_pf (TP, s) 308 10 14 0 (.int v) = some (TP, am_wr s 308 14 v) := pfI tM0 rfl
theorem g_M15 : am_gf (TP, s) 308 10 15 = some (.int (s 308 15)) := gfI tM0 rfl
theorem p_M15 : am_pf (TP, s) 308 10 15 0 (.int v) = some (TP, am_wr s 308 15 v) := pfI tM0 rfl
theorem g_M16 : am_gf (TP, s) 308 10 16 = some (.int (s 308 16)) := gfI tM0 rfl
theorem p_M16 : am_pf (TP, s) 308 10 16 0 (.int v) = some (TP, am_wr s 308 16 v) := pfI tM0 rfl
theorem g_M17 : am_gf (TP, s) 308 10 17 = some (.ref (323)) := gfR tM0 rfl
theorem g_M18 : am_gf (TP, s) 308 10 18 = some (.int (s 308 18)) := gfI tM0 rfl
theorem p_M18 : am_pf (TP, s) 308 10 18 0 (.int v) = some (TP, am_wr s 308 18 v) := pfI tM0 rfl
theorem g_M19 : am_gf (TP, s) 308 10 19 = some (.int (s 308 19)) := gfI tM0 rfl
theorem p_M19 : am_pf (TP, s) 308 10 19 0 (.int v) = some (TP, am_wr s 308 19 v) := pfI tM0 rfl
theorem g_M20 : am_gf (TP, s) 308 10 20 = some (.int (s 308 20)) := gfI tM0 rfl
theorem p_M20 : am_pf (TP, s) 308 10 20 0 (.int v) = some (TP, am_wr s 308 20 v) := pfI tM0 rfl
theorem g_M21 : am_gf (TP, s) 308 10 21 = some (.int (s 308 21)) := gfI tM0 rfl
theorem p_M21 : am_pf (TP, s) 308 10 21 0 (.int v) = some (TP, am_wr s 308 21 v) := pfI tM0 rfl
theorem g_M22 : am_gf (TP, s) 308 10 22 = some (.ref (324)) := gfR tM0 rfl
theorem g_M23 : am_gf (TP, s) 308 10 23 = some (.ref (325)) := gfR tM0 rfl
theorem g_M24 : am_gf (TP, s) 308 10 24 = some (.ref (326)) := gfR tM0 rfl
theorem g_M25 : am_gf (TP, s) 308 10 25 = some (.ref (327)) := gfR tM0 rfl
theorem g_M26 : am_gf (TP, s) 308 10 26 = some (.ref (328)) := gfR tM0 rfl
theorem g_M27 : am_gf (TP, s) 308 10 27 = some (.ref (329)) := gfR tM0 rfl
theorem g_M28 : am_gf (TP, s) 308 10 28 = some (.ref (330)) := gfR tM0 rfl
theorem g_M29 : am_gf (TP, s) 308 10 29 = some (.ref (331)) := gfR tM0 rfl
theorem g_M30 : am_gf (TP, s) 308 10 30 = some (.ref (332)) := gfR tM0 rfl
theorem g_M31 : am_gf (TP, s) 308 10 31 = some (.ref (333)) := gfR tM0 rfl
theorem g_M32 : am_gf (TP, s) 308 10 32 = some (.ref (334)) := gfR tM0 rfl
theorem g_M33 : am_gf (TP, s) 308 10 33 = some (.int (s 308 33)) := gfI tM0 rfl
theorem p_M33 : am_pf (TP, s) 308 10 33 0 (.int v) = some (TP, am_wr s 308 33 v) := pfI tM0 rfl
theorem rc_M : am_rc (TP, s) (.ref (308) :: as) (some 10) = true := rcI tM0
theorem l_L1 {b : Nat} (hb : b ∈ bsL) (hj : j < 4) : am_ld (TP, s) 0 (b + 1) (nI j) = some (s (b + 1) j) := ldI (tL1 b hb) (by decide) hj
theorem w_L1 {b : Nat} (hb : b ∈ bsL) (hj : j < 4) : am_sd (TP, s) 0 (b + 1) (nI j) v = some (TP, am_wr s (b + 1) j v) := sdI (tL1 b hb) (by decide) hj
theorem l_L2 {b : Nat} (hb : b ∈ bsL) (hj : j < 4) : am_ld (TP, s) 0 (b + 2) (nI j) = some (s (b + 2) j) := ldI (tL2 b hb) (by decide) hj
theorem w_L2 {b : Nat} (hb : b ∈ bsL) (hj : j < 4) : am_sd (TP, s) 0 (b + 2) (nI j) v = some (TP, am_wr s (b + 2) j v) := sdI (tL2 b hb) (by decide) hj
theorem l_L3 {b : Nat} (hb : b ∈ bsL) (hj : j < 4) : am_ld (TP, s) 0 (b + 3) (nI j) = some (s (b + 3) j) := ldI (tL3 b hb) (by decide) hj
theorem w_L3 {b : Nat} (hb : b ∈ bsL) (hj : j < 4) : am_sd (TP, s) 0 (b + 3) (nI j) v = some (TP, am_wr s (b + 3) j v) := sdI (tL3 b hb) (by decide) hj
theorem l_R1 {b : Nat} (hb : b ∈ bsR) (hj : j < 4) : am_ld (TP, s) 0 (b + 1) (nI j) = some (s (b + 1) j) := ldI (tR1 b hb) (by decide) hj
theorem w_R1 {b : Nat} (hb : b ∈ bsR) (hj : j < 4) : am_sd (TP, s) 0 (b + 1) (nI j) v = some (TP, am_wr s (b + 1) j v) := sdI (tR1 b hb) (by decide) hj
theorem l_R2 {b : Nat} (hb : b ∈ bsR) (hj : j < 14) : am_ld (TP, s) 0 (b + 2) (nI j) = some (s (b + 2) j) := ldI (tR2 b hb) (by decide) hj
theorem w_R2 {b : Nat} (hb : b ∈ bsR) (hj : j < 14) : am_sd (TP, s) 0 (b + 2) (nI j) v = some (TP, am_wr s (b + 2) j v) := sdI (tR2 b hb) (by decide) hj
theorem l_R3 {b : Nat} (hb : b ∈ bsR) (hj : j < 14) : am_ld (TP, s) 0 (b + 3) (nI j) = some (s (b + 3) j) := ldI (tR3 b hb) (by decide) hj
theorem w_R3 {b : Nat} (hb : b ∈ bsR) (hj : j < 14) : am_sd (TP, s) 0 (b + 3) (nI j) v = some (TP, am_wr s (b + 3) j v) := sdI (tR3 b hb) (by decide) hj
theorem l_R4 {b : Nat} (hb : b ∈ bsR) (hj : j < 14) : am_ld (TP, s) 0 (b + 4) (nI j) = some (s (b + 4) j) := ldI (tR4 b hb) (by decide) hj
theorem w_R4 {b : Nat} (hb : b ∈ bsR) (hj : j < 14) : am_sd (TP, s) 0 (b + 4) (nI j) v = some (TP, am_wr s (b + 4) j v) := sdI (tR4 b hb) (by decide) hj
theorem l_F1 {b : Nat} (hb : b ∈ bsF) (hj : j < 4) : am_ld (TP, s) 0 (b + 1) (nI j) = some (s (b + 1) j) := ldI (tF1 b hb) (by decide) hj
theorem w_F1 {b : Nat} (hb : b ∈ bsF) (hj : j < 4) : am_sd (TP, s) 0 (b + 1) (nI j) v = some (TP, am_wr s (b + 1) j v) := sdI (tF1 b hb) (by decide) hj
theorem l_F2 {b : Nat} (hb : b ∈ bsF) (hj : j < 6) : am_ld (TP, s) 0 (b + 2) (nI j) = some (s (b + 2) j) := ldI (tF2 b hb) (by decide) hj
theorem w_F2 {b : Nat} (hb : b ∈ bsF) (hj : j < 6) : am_sd (TP, s) 0 (b + 2) (nI j) v = some (TP, am_wr s (b + 2) j v) := sdI (tF2 b hb) (by decide) hj
theorem l_F3 {b : Nat} (hb : b ∈ bsF) (hj : j < 6) : am_ld (TP, s) 0 (b + 3) (nI j) = some (s (b + 3) j) := ldI (tF3 b hb) (by decide) hj
theorem w_F3 {b : Nat} (hb : b ∈ bsF) (hj : j < 6) : am_sd (TP, s) 0 (b + 3) (nI j) v = some (TP, am_wr s (b + 3) j v) := sdI (tF3 b hb) (by decide) hj
theorem l_C1 (hj : j < 6) : am_ld (TP, s) 0 (249) (nI j) = some (s (249) j) := ldI (am_isD_ok (by decide +kernel)) (by decide) hj
theorem w_C1 (hj : j < 6) : am_sd (TP, s) 0 (249) (nI j) v = some (TP, am_wr s (249) j v) := sdI (am_isD_ok (by decide +kernel)) (by decide) hj
theorem l_H1 (hj : j < 16) : am_ld (TP, s) 0 (253) (nI j) = some (s (253) j) := ldI (am_isD_ok (by decide +kernel)) (by decide) hj
theorem w_H1 (hj : j < 16) : am_sd (TP, s) 0 (253) (nI j) v = some (TP, am_wr s (253) j v) := sdI (am_isD_ok (by decide +kernel)) (by decide) hj
theorem l_H3 (hj : j < 4) : am_ld (TP, s) 0 (271) (nI j) = some (s (271) j) := ldI (am_isD_ok (by decide +kernel)) (by decide) hj
theorem w_H3 (hj : j < 4) : am_sd (TP, s) 0 (271) (nI j) v = some (TP, am_wr s (271) j v) := sdI (am_isD_ok (by decide +kernel)) (by decide) hj
theorem l_H4 (hj : j < 16) : am_ld (TP, s) 1 (272) (nI j) = some (s (272) j) := ldI (am_isD_ok (by decide +kernel)) (by decide) hj
theorem w_H4 (hj : j < 16) (hv : v = 0 ∨ v = 1) : am_sd (TP, s) 1 (272) (nI j) v = some (TP, am_wr s (272) j v) := sdZ (am_isD_ok (by decide +kernel)) (by decide) hj hv
theorem l_H5 (hj : j < 16) : am_ld (TP, s) 0 (273) (nI j) = some (s (273) j) := ldI (am_isD_ok (by decide +kernel)) (by decide) hj
theorem w_H5 (hj : j < 16) : am_sd (TP, s) 0 (273) (nI j) v = some (TP, am_wr s (273) j v) := sdI (am_isD_ok (by decide +kernel)) (by decide) hj
theorem l_O1 (hj : j < 16) : am_ld (TP, s) 0 (275) (nI j) = some (s (275) j) := ldI (am_isD_ok (by decide +kernel)) (by decide) hj
theorem w_O1 (hj : j < 16) : am_sd (TP, s) 0 (275) (nI j) v = some (TP, am_wr s (275) j v) := sdI (am_isD_ok (by decide +kernel)) (by decide) hj
theorem tHr : ∀ r, r < 16 → TP[255 + r]? = some (.inl (0, 4, none)) := fun r hr => am_isD_ok (List.all_eq_true.mp (show (List.range 16).all (fun r => am_isD (255 + r) (.inl (0, 4, none))) = true by decide +kernel) r (List.mem_range.mpr hr))
theorem l_Hr {r : Nat} (hr : r < 16) (hj : j < 4) : am_ld (TP, s) 0 (255 + r) (nI j) = some (s (255 + r) j) := ldI (tHr r hr) (by decide) hj
theorem w_Hr {r : Nat} (hr : r < 16) (hj : j < 4) : am_sd (TP, s) 0 (255 + r) (nI j) v = some (TP, am_wr s (255 + r) j v) := sdI (tHr r hr) (by decide) hj
theorem l_M_fields (hj : j < 15) : am_ld (TP, s) 0 (309) (nI j) = some (s (309) j) := ldI (am_isD_ok (by decide +kernel)) (by decide) hj
theorem w_M_fields (hj : j < 15) : am_sd (TP, s) 0 (309) (nI j) v = some (TP, am_wr s (309) j v) := sdI (am_isD_ok (by decide +kernel)) (by decide) hj
theorem l_M_name (hj : j < 60) : am_ld (TP, s) 0 (310) (nI j) = some (s (310) j) := ldI (am_isD_ok (by decide +kernel)) (by decide) hj
theorem w_M_name (hj : j < 60) : am_sd (TP, s) 0 (310) (nI j) v = some (TP, am_wr s (310) j v) := sdI (am_isD_ok (by decide +kernel)) (by decide) hj
theorem l_M_type (hj : j < 60) : am_ld (TP, s) 0 (311) (nI j) = some (s (311) j) := ldI (am_isD_ok (by decide +kernel)) (by decide) hj
theorem w_M_type (hj : j < 60) : am_sd (TP, s) 0 (311) (nI j) v = some (TP, am_wr s (311) j v) := sdI (am_isD_ok (by decide +kernel)) (by decide) hj
theorem l_M_source (hj : j < 60) : am_ld (TP, s) 0 (312) (nI j) = some (s (312) j) := ldI (am_isD_ok (by decide +kernel)) (by decide) hj
theorem w_M_source (hj : j < 60) : am_sd (TP, s) 0 (312) (nI j) v = some (TP, am_wr s (312) j v) := sdI (am_isD_ok (by decide +kernel)) (by decide) hj
theorem l_M_parameters (hj : j < 30) : am_ld (TP, s) 0 (313) (nI j) = some (s (313) j) := ldI (am_isD_ok (by decide +kernel)) (by decide) hj
theorem w_M_parameters (hj : j < 30) : am_sd (TP, s) 0 (313) (nI j) v = some (TP, am_wr s (313) j v) := sdI (am_isD_ok (by decide +kernel)) (by decide) hj
theorem l_M_kinds (hj : j < 30) : am_ld (TP, s) 0 (314) (nI j) = some (s (314) j) := ldI (am_isD_ok (by decide +kernel)) (by decide) hj
theorem w_M_kinds (hj : j < 30) : am_sd (TP, s) 0 (314) (nI j) v = some (TP, am_wr s (314) j v) := sdI (am_isD_ok (by decide +kernel)) (by decide) hj
theorem l_M_gives (hj : j < 30) : am_ld (TP, s) 0 (315) (nI j) = some (s (315) j) := ldI (am_isD_ok (by decide +kernel)) (by decide) hj
theorem w_M_gives (hj : j < 30) : am_sd (TP, s) 0 (315) (nI j) v = some (TP, am_wr s (315) j v) := sdI (am_isD_ok (by decide +kernel)) (by decide) hj
theorem l_M_length (hj : j < 30) : am_ld (TP, s) 0 (316) (nI j) = some (s (316) j) := ldI (am_isD_ok (by decide +kernel)) (by decide) hj
theorem w_M_length (hj : j < 30) : am_sd (TP, s) 0 (316) (nI j) v = some (TP, am_wr s (316) j v) := sdI (am_isD_ok (by decide +kernel)) (by decide) hj
theorem l_M_op (hj : j < 420) : am_ld (TP, s) 0 (317) (nI j) = some (s (317) j) := ldI (am_isD_ok (by decide +kernel)) (by decide) hj
theorem w_M_op (hj : j < 420) : am_sd (TP, s) 0 (317) (nI j) v = some (TP, am_wr s (317) j v) := sdI (am_isD_ok (by decide +kernel)) (by decide) hj
theorem l_M_x (hj : j < 420) : am_ld (TP, s) 0 (318) (nI j) = some (s (318) j) := ldI (am_isD_ok (by decide +kernel)) (by decide) hj
theorem w_M_x (hj : j < 420) : am_sd (TP, s) 0 (318) (nI j) v = some (TP, am_wr s (318) j v) := sdI (am_isD_ok (by decide +kernel)) (by decide) hj
theorem l_M_y (hj : j < 420) : am_ld (TP, s) 0 (319) (nI j) = some (s (319) j) := ldI (am_isD_ok (by decide +kernel)) (by decide) hj
theorem w_M_y (hj : j < 420) : am_sd (TP, s) 0 (319) (nI j) v = some (TP, am_wr s (319) j v) := sdI (am_isD_ok (by decide +kernel)) (by decide) hj
theorem l_M_classes (hj : j < 5) : am_ld (TP, s) 0 (320) (nI j) = some (s (320) j) := ldI (am_isD_ok (by decide +kernel)) (by decide) hj
theorem w_M_classes (hj : j < 5) : am_sd (TP, s) 0 (320) (nI j) v = some (TP, am_wr s (320) j v) := sdI (am_isD_ok (by decide +kernel)) (by decide) hj
theorem l_M_methods (hj : j < 5) : am_ld (TP, s) 0 (321) (nI j) = some (s (321) j) := ldI (am_isD_ok (by decide +kernel)) (by decide) hj
theorem w_M_methods (hj : j < 5) : am_sd (TP, s) 0 (321) (nI j) v = some (TP, am_wr s (321) j v) := sdI (am_isD_ok (by decide +kernel)) (by decide) hj
theorem l_M_barred (hj : j < 5) : am_ld (TP, s) 0 (322) (nI j) = some (s (322) j) := ldI (am_isD_ok (by decide +kernel)) (by decide) hj
theorem w_M_barred (hj : j < 5) : am_sd (TP, s) 0 (322) (nI j) v = some (TP, am_wr s (322) j v) := sdI (am_isD_ok (by decide +kernel)) (by decide) hj
theorem l_M_seen (hj : j < 8) : am_ld (TP, s) 0 (323) (nI j) = some (s (323) j) := ldI (am_isD_ok (by decide +kernel)) (by decide) hj
theorem w_M_seen (hj : j < 8) : am_sd (TP, s) 0 (323) (nI j) v = some (TP, am_wr s (323) j v) := sdI (am_isD_ok (by decide +kernel)) (by decide) hj
theorem l_M_method (hj : j < 8) : am_ld (TP, s) 0 (324) (nI j) = some (s (324) j) := ldI (am_isD_ok (by decide +kernel)) (by decide) hj
theorem w_M_method (hj : j < 8) : am_sd (TP, s) 0 (324) (nI j) v = some (TP, am_wr s (324) j v) := sdI (am_isD_ok (by decide +kernel)) (by decide) hj
theorem l_M_place (hj : j < 8) : am_ld (TP, s) 0 (325) (nI j) = some (s (325) j) := ldI (am_isD_ok (by decide +kernel)) (by decide) hj
theorem w_M_place (hj : j < 8) : am_sd (TP, s) 0 (325) (nI j) v = some (TP, am_wr s (325) j v) := sdI (am_isD_ok (by decide +kernel)) (by decide) hj
theorem l_M_locals (hj : j < 32) : am_ld (TP, s) 0 (326) (nI j) = some (s (326) j) := ldI (am_isD_ok (by decide +kernel)) (by decide) hj
theorem w_M_locals (hj : j < 32) : am_sd (TP, s) 0 (326) (nI j) v = some (TP, am_wr s (326) j v) := sdI (am_isD_ok (by decide +kernel)) (by decide) hj
theorem l_M_stack (hj : j < 48) : am_ld (TP, s) 0 (327) (nI j) = some (s (327) j) := ldI (am_isD_ok (by decide +kernel)) (by decide) hj
theorem w_M_stack (hj : j < 48) : am_sd (TP, s) 0 (327) (nI j) v = some (TP, am_wr s (327) j v) := sdI (am_isD_ok (by decide +kernel)) (by decide) hj
theorem l_M_sort (hj : j < 48) : am_ld (TP, s) 0 (328) (nI j) = some (s (328) j) := ldI (am_isD_ok (by decide +kernel)) (by decide) hj
theorem w_M_sort (hj : j < 48) : am_sd (TP, s) 0 (328) (nI j) v = some (TP, am_wr s (328) j v) := sdI (am_isD_ok (by decide +kernel)) (by decide) hj
theorem l_M_top (hj : j < 8) : am_ld (TP, s) 0 (329) (nI j) = some (s (329) j) := ldI (am_isD_ok (by decide +kernel)) (by decide) hj
theorem w_M_top (hj : j < 8) : am_sd (TP, s) 0 (329) (nI j) v = some (TP, am_wr s (329) j v) := sdI (am_isD_ok (by decide +kernel)) (by decide) hj
theorem l_M_made (hj : j < 17) : am_ld (TP, s) 0 (330) (nI j) = some (s (330) j) := ldI (am_isD_ok (by decide +kernel)) (by decide) hj
theorem w_M_made (hj : j < 17) : am_sd (TP, s) 0 (330) (nI j) v = some (TP, am_wr s (330) j v) := sdI (am_isD_ok (by decide +kernel)) (by decide) hj
theorem l_M_held (hj : j < 68) : am_ld (TP, s) 0 (331) (nI j) = some (s (331) j) := ldI (am_isD_ok (by decide +kernel)) (by decide) hj
theorem w_M_held (hj : j < 68) : am_sd (TP, s) 0 (331) (nI j) v = some (TP, am_wr s (331) j v) := sdI (am_isD_ok (by decide +kernel)) (by decide) hj
theorem l_M_led (hj : j < 17) : am_ld (TP, s) 1 (332) (nI j) = some (s (332) j) := ldI (am_isD_ok (by decide +kernel)) (by decide) hj
theorem w_M_led (hj : j < 17) (hv : v = 0 ∨ v = 1) : am_sd (TP, s) 1 (332) (nI j) v = some (TP, am_wr s (332) j v) := sdZ (am_isD_ok (by decide +kernel)) (by decide) hj hv
theorem l_M_fresh (hj : j < 4) : am_ld (TP, s) 0 (333) (nI j) = some (s (333) j) := ldI (am_isD_ok (by decide +kernel)) (by decide) hj
theorem w_M_fresh (hj : j < 4) : am_sd (TP, s) 0 (333) (nI j) v = some (TP, am_wr s (333) j v) := sdI (am_isD_ok (by decide +kernel)) (by decide) hj
theorem l_M_out (hj : j < 16) : am_ld (TP, s) 0 (334) (nI j) = some (s (334) j) := ldI (am_isD_ok (by decide +kernel)) (by decide) hj
theorem w_M_out (hj : j < 16) : am_sd (TP, s) 0 (334) (nI j) v = some (TP, am_wr s (334) j v) := sdI (am_isD_ok (by decide +kernel)) (by decide) hj
theorem a_Pl {p : Nat} (hp : p ∈ bsP) {c : Nat} (hc : c < 4) : am_la (TP, s) (p + 1) (nI c) = some (p + 3 + 4 * c) := laI (tP1 p hp) (by decide) hc (by rcases (show c = 0 ∨ c = 1 ∨ c = 2 ∨ c = 3 by omega) with rfl | rfl | rfl | rfl <;> rfl)
theorem a_Pr {p : Nat} (hp : p ∈ bsP) {m : Nat} (hm : m < 6) : am_la (TP, s) (p + 2) (nI m) = some (p + 19 + 5 * m) := laI (tP2 p hp) (by decide) hm (by rcases (show m = 0 ∨ m = 1 ∨ m = 2 ∨ m = 3 ∨ m = 4 ∨ m = 5 by omega) with rfl | rfl | rfl | rfl | rfl | rfl <;> rfl)
theorem a_Q {m : Nat} (hm : m < 4) : am_la (TP, s) 51 (nI m) = some (52 + 49 * m) := laI (t := 4) (n := 4) (rs := [some 52, some 101, some 150, some 199]) (am_isD_ok (by decide +kernel)) (by decide) hm (by rcases (show m = 0 ∨ m = 1 ∨ m = 2 ∨ m = 3 by omega) with rfl | rfl | rfl | rfl <;> rfl)
theorem a_U {m : Nat} (hm : m < 8) : am_la (TP, s) 251 (nI m) = some (276 + 4 * m) := laI (t := 5) (n := 8) (rs := (List.range 8).map fun i => some (276 + 4 * i)) (am_isD_ok (by decide +kernel)) (by decide) hm (by rw [List.getElem?_map, List.getElem?_range hm]; rfl)
theorem a_H {m : Nat} (hm : m < 16) : am_la (TP, s) 254 (nI m) = some (255 + m) := laI (t := 6) (n := 16) (rs := (List.range 16).map fun i => some (255 + i)) (am_isD_ok (by decide +kernel)) (by decide) hm (by rw [List.getElem?_map, List.getElem?_range hm]; rfl)
theorem bP_L {p : Nat} (hp : p ∈ bsP) {c : Nat} (hc : c < 4) : p + 3 + 4 * c ∈ bsL := by
  refine List.mem_flatMap.mpr ⟨p, hp, ?_⟩
  rcases (show c = 0 ∨ c = 1 ∨ c = 2 ∨ c = 3 by omega) with rfl | rfl | rfl | rfl <;> simp
theorem bP_R {p : Nat} (hp : p ∈ bsP) {m : Nat} (hm : m < 6) : p + 19 + 5 * m ∈ bsR := by
  refine List.mem_flatMap.mpr ⟨p, hp, ?_⟩
  rcases (show m = 0 ∨ m = 1 ∨ m = 2 ∨ m = 3 ∨ m = 4 ∨ m = 5 by omega) with rfl | rfl | rfl | rfl | rfl | rfl <;> simp
theorem bQ_P {m : Nat} (hm : m < 4) : 52 + 49 * m ∈ bsP := by
  rcases (show m = 0 ∨ m = 1 ∨ m = 2 ∨ m = 3 by omega) with rfl | rfl | rfl | rfl <;> simp [bsP]
theorem bU_F {m : Nat} (hm : m < 8) : 276 + 4 * m ∈ bsF := by
  rcases (show m = 0 ∨ m = 1 ∨ m = 2 ∨ m = 3 ∨ m = 4 ∨ m = 5 ∨ m = 6 ∨ m = 7 by omega) with rfl | rfl | rfl | rfl | rfl | rfl | rfl | rfl <;> simp [bsF]
end BS
