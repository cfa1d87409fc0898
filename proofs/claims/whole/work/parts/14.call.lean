/-! Calls of our own methods: every contract has the whole table's words. -/
theorem am_goodIn {y : MethodName} {cc : ByteArray} {nL : Nat} {ret : Option FieldType} (h : Cond.code y cc nL ret ∈ am_tb) : GoodIn am_tb (am_ws y cc nL ret) := by
  intro w hwi
  rcases List.mem_cons.mp hwi with rfl | h2
  · exact ⟨h, good_of_word rfl⟩
  · have h3 := List.mem_filter.mp h2
    exact ⟨List.mem_filter.mpr ⟨h3.1, by rw [h3.2]; rfl⟩, good_of_word h3.2⟩
/-- numbers of a call -/
def am_ckC (y : MethodName) (nL fr lo nL2 fr2 lo2 na : Nat) (y2 : MethodName) : Bool :=
  decide (y2.cls ≠ "java/lang/invoke/MethodHandle") && (decide (y2.cls ≠ "java/lang/invoke/VarHandle") && (decide ((parseMethodDescriptor y2.desc).map (fun d => d.parameters.length) = some na) && (decide (fr2 + 1 ≤ fr) && decide (8 + (nL2 + 11) + lo2 ≤ lo))))
section AMCC
variable {l : Launch} {y y2 : MethodName} {cl : List vw_C} {cc cc2 : ByteArray} {nL fr lo nL2 fr2 lo2 na x ci : Nat} {ret2 : Option FieldType} {Ts : List Jvm.Cond} {f : am_F} {host : String} {T : u_T} {Nf : Nat}
theorem am_KV (hsub : ∀ w ∈ Ts, w ∈ am_tb) (hSd : am_Sd l cl y2 (am_ws y2 cc2 nL2 ret2) fr2 lo2 f) (hci : cl[ci]? = some (y2.cls, T, Nf)) (hn : am_ckC y nL fr lo nL2 fr2 lo2 na y2 = true)
    (hw : (am_in Ts (.code y2 cc2 nL2 ret2) && (am_in Ts (.methodLink y.cls x y2) && (am_in Ts (.instanceMethod y2) && (am_in Ts (.selects y2.cls y2 y2) && am_in Ts (.initialized y2.cls))))) = true) :
    am_K l y cl cc nL fr lo (.invokevirtual x, x, na + 1, some ci, f) := by
  intro p e R s m args below meth c A D cy tys sb n0 s0 pc S hN hK hty hA hR1 hR2 hd
  simp only [Bool.and_eq_true] at hw
  obtain ⟨w1, w2, w3, w4, w5⟩ := hw
  unfold am_ckC at hn
  simp only [Bool.and_eq_true] at hn
  obtain ⟨n1, n2, n3, n4, n5⟩ := hn
  have hts := S.2.2.2.2
  have hG := am_goodIn (hsub _ (of_decide_eq_true w1))
  refine am_cV (bytes := cc2) (maxL := nL2) (ret := ret2) S hK hN hty hA hSd hci (fun mc ms => ⟨callB_of na hts hG rfl rfl rfl (am_in_ok hts hsub w5) (am_in_ok hts hsub w2) ⟨of_decide_eq_true n1, of_decide_eq_true n2, of_decide_eq_true n3⟩ ⟨?_, ?_⟩, am_in_ok hts hsub w3, am_in_ok hts hsub w4⟩) hd
  · rw [hR1]; exact of_decide_eq_true n4
  · rw [hR2]; exact of_decide_eq_true n5
theorem am_KVN (hsub : ∀ w ∈ Ts, w ∈ am_tb) (hSd : am_Sd l cl y2 (am_ws y2 cc2 nL2 ret2) fr2 lo2 f) (hci : cl[ci]? = some (y2.cls, T, Nf)) (hn : am_ckC y nL fr lo nL2 fr2 lo2 na y2 = true)
    (hw : (am_in Ts (.code y2 cc2 nL2 ret2) && (am_in Ts (.methodLinkNest y.cls x y2 host) && (am_in Ts (.instanceMethod y2) && (am_in Ts (.selects y2.cls y2 y2) && am_in Ts (.initialized y2.cls))))) = true) :
    am_K l y cl cc nL fr lo (.invokevirtual x, x, na + 1, some ci, f) := by
  intro p e R s m args below meth c A D cy tys sb n0 s0 pc S hN hK hty hA hR1 hR2 hd
  simp only [Bool.and_eq_true] at hw
  obtain ⟨w1, w2, w3, w4, w5⟩ := hw
  unfold am_ckC at hn
  simp only [Bool.and_eq_true] at hn
  obtain ⟨n1, n2, n3, n4, n5⟩ := hn
  have hts := S.2.2.2.2
  have hG := am_goodIn (hsub _ (of_decide_eq_true w1))
  refine am_cVN (host := host) (bytes := cc2) (maxL := nL2) (ret := ret2) S hK hN hty hA hSd hci (fun mc ms => ⟨va_cnB na hts hG rfl rfl rfl (va_any rfl (am_in_ok hts hsub w2)) (am_in_ok hts hsub w5) ⟨of_decide_eq_true n1, of_decide_eq_true n2, of_decide_eq_true n3⟩ ⟨?_, ?_⟩, am_in_ok hts hsub w3, am_in_ok hts hsub w4⟩) hd
  · rw [hR1]; exact of_decide_eq_true n4
  · rw [hR2]; exact of_decide_eq_true n5
theorem am_KS (hsub : ∀ w ∈ Ts, w ∈ am_tb) (hSd : am_Sd l cl y2 (am_ws y2 cc2 nL2 ret2) fr2 lo2 f) (hn : am_ckC y nL fr lo nL2 fr2 lo2 na y2 = true)
    (hw : (am_in Ts (.code y2 cc2 nL2 ret2) && (am_in Ts (.methodLink y.cls x y2) && (am_in Ts (.static y2) && am_in Ts (.initialized y2.cls)))) = true) :
    am_K l y cl cc nL fr lo (.invokestatic x, x, na, none, f) := by
  intro p e R s m args below meth c A D cy tys sb n0 s0 pc S hN hK hty hA hR1 hR2 hd
  simp only [Bool.and_eq_true] at hw
  obtain ⟨w1, w2, w3, w5⟩ := hw
  unfold am_ckC at hn
  simp only [Bool.and_eq_true] at hn
  obtain ⟨n1, n2, n3, n4, n5⟩ := hn
  have hts := S.2.2.2.2
  have hG := am_goodIn (hsub _ (of_decide_eq_true w1))
  refine am_cS (bytes := cc2) (maxL := nL2) (ret := ret2) S hK hN hty hA hSd (fun mc ms => ⟨callB_of na hts hG rfl rfl rfl (am_in_ok hts hsub w5) (am_in_ok hts hsub w2) ⟨of_decide_eq_true n1, of_decide_eq_true n2, of_decide_eq_true n3⟩ ⟨?_, ?_⟩, am_in_ok hts hsub w3⟩) hd
  · rw [hR1]; exact of_decide_eq_true n4
  · rw [hR2]; exact of_decide_eq_true n5
theorem am_KSN (hsub : ∀ w ∈ Ts, w ∈ am_tb) (hSd : am_Sd l cl y2 (am_ws y2 cc2 nL2 ret2) fr2 lo2 f) (hn : am_ckC y nL fr lo nL2 fr2 lo2 na y2 = true)
    (hw : (am_in Ts (.code y2 cc2 nL2 ret2) && (am_in Ts (.methodLinkNest y.cls x y2 host) && (am_in Ts (.static y2) && am_in Ts (.initialized y2.cls)))) = true) :
    am_K l y cl cc nL fr lo (.invokestatic x, x, na, none, f) := by
  intro p e R s m args below meth c A D cy tys sb n0 s0 pc S hN hK hty hA hR1 hR2 hd
  simp only [Bool.and_eq_true] at hw
  obtain ⟨w1, w2, w3, w5⟩ := hw
  unfold am_ckC at hn
  simp only [Bool.and_eq_true] at hn
  obtain ⟨n1, n2, n3, n4, n5⟩ := hn
  have hts := S.2.2.2.2
  have hG := am_goodIn (hsub _ (of_decide_eq_true w1))
  refine am_cSN (host := host) (bytes := cc2) (maxL := nL2) (ret := ret2) S hK hN hty hA hSd (fun mc ms => ⟨va_cnB na hts hG rfl rfl rfl (va_any rfl (am_in_ok hts hsub w2)) (am_in_ok hts hsub w5) ⟨of_decide_eq_true n1, of_decide_eq_true n2, of_decide_eq_true n3⟩ ⟨?_, ?_⟩, am_in_ok hts hsub w3, trivial⟩) hd
  · rw [hR1]; exact of_decide_eq_true n4
  · rw [hR2]; exact of_decide_eq_true n5
theorem am_KI (hsub : ∀ w ∈ Ts, w ∈ am_tb) (hSd : am_Sd l cl y2 (am_ws y2 cc2 nL2 none) fr2 lo2 f) (hy : y2.name = "<init>") (hn : am_ckC y nL fr lo nL2 fr2 lo2 na y2 = true)
    (hw : (am_in Ts (.code y2 cc2 nL2 none) && (am_in Ts (.methodLink y.cls x y2) && (am_in Ts (.instanceMethod y2) && am_in Ts (.initialized y2.cls)))) = true) :
    am_K l y cl cc nL fr lo (.invokespecial x, x, na + 1, some ci, f) := by
  intro p e R s m args below meth c A D cy tys sb n0 s0 pc S hN hK hty hA hR1 hR2 hd
  simp only [Bool.and_eq_true] at hw
  obtain ⟨w1, w2, w3, w5⟩ := hw
  unfold am_ckC at hn
  simp only [Bool.and_eq_true] at hn
  obtain ⟨n1, n2, n3, n4, n5⟩ := hn
  have hts := S.2.2.2.2
  have hG := am_goodIn (hsub _ (of_decide_eq_true w1))
  refine am_cI (bytes := cc2) (maxL := nL2) S hK hN hty hA hSd (fun mc ms => ⟨callB_of na hts hG rfl rfl rfl (am_in_ok hts hsub w5) (am_in_ok hts hsub w2) ⟨of_decide_eq_true n1, of_decide_eq_true n2, of_decide_eq_true n3⟩ ⟨?_, ?_⟩, hy, am_in_ok hts hsub w3⟩) hd
  · rw [hR1]; exact of_decide_eq_true n4
  · rw [hR2]; exact of_decide_eq_true n5
theorem am_KIN (hsub : ∀ w ∈ Ts, w ∈ am_tb) (hSd : am_Sd l cl y2 (am_ws y2 cc2 nL2 none) fr2 lo2 f) (hy : y2.name = "<init>") (hn : am_ckC y nL fr lo nL2 fr2 lo2 na y2 = true)
    (hw : (am_in Ts (.code y2 cc2 nL2 none) && (am_in Ts (.methodLinkNest y.cls x y2 host) && (am_in Ts (.instanceMethod y2) && am_in Ts (.initialized y2.cls)))) = true) :
    am_K l y cl cc nL fr lo (.invokespecial x, x, na + 1, some ci, f) := by
  intro p e R s m args below meth c A D cy tys sb n0 s0 pc S hN hK hty hA hR1 hR2 hd
  simp only [Bool.and_eq_true] at hw
  obtain ⟨w1, w2, w3, w5⟩ := hw
  unfold am_ckC at hn
  simp only [Bool.and_eq_true] at hn
  obtain ⟨n1, n2, n3, n4, n5⟩ := hn
  have hts := S.2.2.2.2
  have hG := am_goodIn (hsub _ (of_decide_eq_true w1))
  refine am_cIN (host := host) (bytes := cc2) (maxL := nL2) S hK hN hty hA hSd (fun mc ms => ⟨va_cnB na hts hG rfl rfl rfl (va_any rfl (am_in_ok hts hsub w2)) (am_in_ok hts hsub w5) ⟨of_decide_eq_true n1, of_decide_eq_true n2, of_decide_eq_true n3⟩ ⟨?_, ?_⟩, hy, am_in_ok hts hsub w3⟩) hd
  · rw [hR1]; exact of_decide_eq_true n4
  · rw [hR2]; exact of_decide_eq_true n5
theorem am_KO {rc : Option Nat} (hsub : ∀ w ∈ Ts, w ∈ am_tb) (hn : (decide (1 ≤ fr) && decide (20 ≤ lo)) = true)
    (hw : (am_in Ts (.methodLink y.cls x Lib.objectInit) && (am_in Ts (.instanceMethod Lib.objectInit) && am_in Ts (.code Lib.objectInit ⟨#[0xb1]⟩ 1 none))) = true) :
    am_K l y cl cc nL fr lo (.invokespecial x, x, 1, rc, am_obj) := by
  intro p e R s m args below meth c A D cy tys sb n0 s0 pc S hN hK hty hA hR1 hR2 hd
  simp only [Bool.and_eq_true] at hw hn
  obtain ⟨w1, w2, w3⟩ := hw
  have hts := S.2.2.2.2
  exact am_cObj S (am_in_ok hts hsub w1) (am_in_ok hts hsub w2) (am_in_ok hts hsub w3) ⟨by rw [hR1]; exact of_decide_eq_true hn.1, by rw [hR2]; exact of_decide_eq_true hn.2⟩ hd
theorem am_KC {rc : Option Nat} (hsub : ∀ w ∈ Ts, w ∈ am_tb) (hn : (decide (1 ≤ fr) && decide (26 ≤ lo)) = true)
    (hw : (am_in Ts (.methodLink y.cls x arraycopyName) && (am_in Ts (.native arraycopyName) && (am_in Ts (.static arraycopyName) && am_in Ts (.initialized "java/lang/System")))) = true) :
    am_K l y cl cc nL fr lo (.invokestatic x, x, 5, rc, am_cpy) := by
  intro p e R s m args below meth c A D cy tys sb n0 s0 pc S hN hK hty hA hR1 hR2 hd
  simp only [Bool.and_eq_true] at hw hn
  obtain ⟨w1, w2, w3, w4⟩ := hw
  have hts := S.2.2.2.2
  exact am_cCp S hK hty rfl (am_in_ok hts hsub w1) (am_in_ok hts hsub w2) (am_in_ok hts hsub w3) (am_in_ok hts hsub w4) ⟨by rw [hR1]; exact of_decide_eq_true hn.1, by rw [hR2]; exact of_decide_eq_true hn.2⟩ hd
end AMCC
