/-! SPECS: Rule, a clause more. -/
section S5
variable {R : azP} {d n z : Nat} {kd : azK} {I : azI} {J : azJ} {F : azR} {Q : azQ} {r k : Nat} {cs : List Cls} {pd : List Nat}
/-- what addClause makes of the memory -/
def acI (I : azI) (r k : Nat) (x1 x2 x3 x4 x5 : Int32) : azI := azUp (azUp (azUp (azUp (azUp (azUp I (r + 1) k x1) (r + 2) k x2) (r + 3) k x3) (r + 4) k x4) (r + 5) k x5) r 0 (nI (k + 1))
theorem acI_0 {x1 x2 x3 x4 x5 : Int32} : acI I r k x1 x2 x3 x4 x5 r 0 = nI (k + 1) := azUp_s
theorem acI_r {x1 x2 x3 x4 x5 : Int32} {j : Nat} (h : j ≠ 0) : acI I r k x1 x2 x3 x4 x5 r j = I r j := by
  unfold acI
  rw [azUp_nk h, azUp_nb (by omega), azUp_nb (by omega), azUp_nb (by omega), azUp_nb (by omega), azUp_nb (by omega)]
theorem acI_b {x1 x2 x3 x4 x5 : Int32} {b : Nat} (h : b < r ∨ r + 5 < b) : acI I r k x1 x2 x3 x4 x5 b = I b := by
  unfold acI
  rw [azUp_nb (by omega), azUp_nb (by omega), azUp_nb (by omega), azUp_nb (by omega), azUp_nb (by omega), azUp_nb (by omega)]
theorem acI_1 {x1 x2 x3 x4 x5 : Int32} {j : Nat} : acI I r k x1 x2 x3 x4 x5 (r + 1) j = if j = k then x1 else I (r + 1) j := by simp [acI, azUp]
theorem acI_2 {x1 x2 x3 x4 x5 : Int32} {j : Nat} : acI I r k x1 x2 x3 x4 x5 (r + 2) j = if j = k then x2 else I (r + 2) j := by simp [acI, azUp]
theorem acI_3 {x1 x2 x3 x4 x5 : Int32} {j : Nat} : acI I r k x1 x2 x3 x4 x5 (r + 3) j = if j = k then x3 else I (r + 3) j := by simp [acI, azUp]
theorem acI_4 {x1 x2 x3 x4 x5 : Int32} {j : Nat} : acI I r k x1 x2 x3 x4 x5 (r + 4) j = if j = k then x4 else I (r + 4) j := by simp [acI, azUp]
theorem acI_5 {x1 x2 x3 x4 x5 : Int32} {j : Nat} : acI I r k x1 x2 x3 x4 x5 (r + 5) j = if j = k then x5 else I (r + 5) j := by simp [acI, azUp]
theorem S_addClause (hR : azClosed R) (hM : RuOk kd F r) (hk : k < 12) (h0 : I r 0 = nI k) {x1 x2 x3 x4 : Int32} (h : Q (some (.int (nI 1))) ((n, z, kd), acI I r k x1 x2 x3 x4 (I r 5), J, F)) : R d mX5_addClause 0 [.ref r, .int x1, .int x2, .int x3, .int x4] [] ((n, z, kd), I, J, F) Q := by
  obtain ⟨k0, k1, k2, k3, k4, k5, k6, k7, k8, f6, f7, f8, f9, f10, f11, f12, f13⟩ := hM
  refine BX5_addClause_0 hR ?_
  have e1 : r ≠ r + 1 := by omega
  have e2 : r ≠ r + 2 := by omega
  have e3 : r ≠ r + 3 := by omega
  have e4 : r ≠ r + 4 := by omega
  have e5 : r ≠ r + 5 := by omega
  simp (disch := omega) only [k0, k1, k2, k3, k4, k5, f6, f7, f8, f9, f10, zOf_some, azUp_nb e1, azUp_nb e2, azUp_nb e3, azUp_nb e4, azUp_nb e5, h0, nI_clamp, vpT, nI_ad, nI_lti, nlt_T, true_and, true_implies, not_true_eq_false, false_implies, and_true, n01_1, or_true]
  exact h
theorem cR.adds {c : Cls} (h : cR I r cs pd) (hp : pd = cCode c) {I' : azI} (e0 : I' r 0 = nI (cs.length + 1)) (e1 : I' r 1 = nI (rIdx 0 0 (cs ++ [c])).length) (e2 : I' r 2 = nI (rIdx 2 0 (cs ++ [c])).length) (e3 : I' r 3 = nI (rMany (cs ++ [c]))) (e4 : I' r 4 = nI (rBits (cs ++ [c]))) (e5 : I' r 5 = I r 5)
    (a1 : I' (r + 1) = acI I r cs.length (nI c.1) (cPl c) (cW c) (nI (rCode cs).length) (I r 5) (r + 1)) (a2 : I' (r + 2) = acI I r cs.length (nI c.1) (cPl c) (cW c) (nI (rCode cs).length) (I r 5) (r + 2)) (a3 : I' (r + 3) = acI I r cs.length (nI c.1) (cPl c) (cW c) (nI (rCode cs).length) (I r 5) (r + 3)) (a4 : I' (r + 4) = acI I r cs.length (nI c.1) (cPl c) (cW c) (nI (rCode cs).length) (I r 5) (r + 4)) (a5 : I' (r + 5) = acI I r cs.length (nI c.1) (cPl c) (cW c) (nI (rCode cs).length) (I r 5) (r + 5))
    (a6 : lst (I' (r + 6)) ((rIdx 0 0 (cs ++ [c])).map nI)) (a7 : lst (I' (r + 7)) ((rIdx 2 0 (cs ++ [c])).map nI)) (a8 : I' (r + 8) = I (r + 8)) : cR I' r (cs ++ [c]) [] := by
  obtain ⟨cn, ct, cg, cc, ce, cl, cks, cps, cws, cbs, ces, cts, cgs, cco⟩ := h
  subst hp
  refine ⟨?_, e1, e2, e3, e4, ?_, ?_, ?_, ?_, ?_, ?_, a6, a7, ?_⟩
  · rw [e0, List.length_append]; rfl
  · rw [e5, cl, rCode_add, List.append_nil]
  · rw [a1, List.map_append]
    refine cks.add ?_ (fun i hi => ?_)
    · rw [acI_1, List.length_map, if_pos rfl]
    · rw [List.length_map] at hi
      rw [acI_1, if_neg hi]
  · rw [a2, List.map_append]
    refine cps.add ?_ (fun i hi => ?_)
    · rw [acI_2, List.length_map, if_pos rfl]
    · rw [List.length_map] at hi
      rw [acI_2, if_neg hi]
  · rw [a3, List.map_append]
    refine cws.add ?_ (fun i hi => ?_)
    · rw [acI_3, List.length_map, if_pos rfl]
    · rw [List.length_map] at hi
      rw [acI_3, if_neg hi]
  · rw [a4, rBegs_add, Nat.zero_add]
    refine cbs.add ?_ (fun i hi => ?_)
    · rw [acI_4, rBegs_len, if_pos rfl]
    · rw [rBegs_len] at hi
      rw [acI_4, if_neg hi]
  · rw [a5, rEnds_add, Nat.zero_add]
    refine ces.add ?_ (fun i hi => ?_)
    · rw [acI_5, rEnds_len, if_pos rfl, cl, List.length_append]
    · rw [rEnds_len] at hi
      rw [acI_5, if_neg hi]
  · rw [a8, rCode_add, List.append_nil]; exact cco
theorem S_addTake (hR : azClosed R) (hM : RuOk kd F r) (hc : cR I r cs []) {p w : Nat} (hk : cs.length < 12) (ht : (rIdx 0 0 cs).length < 3) (h : ∀ I', cR I' r (cs ++ [(0, p, w, [])]) [] → (∀ b, b < r ∨ r + 8 < b → I' b = I b) → Q none ((n, z, kd), I', J, F)) : R (d + 1) mX5_addTake 0 [.ref r, .int (nI p), .int (nI w)] [] ((n, z, kd), I, J, F) Q := by
  have hM' := hM
  have hc' := hc
  obtain ⟨k0, k1, k2, k3, k4, k5, k6, k7, k8, f6, f7, f8, f9, f10, f11, f12, f13⟩ := hM
  obtain ⟨cn, ct, cg, cc, ce, cl, cks, cps, cws, cbs, ces, cts, cgs, cco⟩ := hc
  refine BX5_addTake_0 hR ?_
  simp (disch := omega) only [nI_ad, nI_ml, nI_lti, nI_lei, nI_eqi, nI_nn, nI_0le, nI_eq0, nI_0lt, nI_le0, nI_clamp, nI_pd, nI_sb, zOf_some, zOp_some, zOp_none, kI_int, kL_long, kO_ref, kO_null, nlt_T, nlt_F, nle_T, nle_F, neq_F, vpT, azUp_at, if_true, if_false, true_and, and_true, true_implies, false_implies, implies_true, not_true_eq_false, not_false_eq_true, true_or, or_true, false_or, or_false, and_false, false_and, eq_self, n01_0, n01_1, nm1_0, k0, ct]
  refine S_addClause hR hM' hk cn ?_
  have g1 : acI I r cs.length (nI 0) (nI p) (nI w) (I r 5) (I r 5) r 1 = nI (rIdx 0 0 cs).length := by rw [acI_r (by omega), ct]
  simp (disch := omega) only [nI_ad, nI_ml, nI_lti, nI_lei, nI_eqi, nI_nn, nI_0le, nI_eq0, nI_0lt, nI_le0, nI_clamp, nI_pd, nI_sb, zOf_some, zOp_some, zOp_none, kI_int, kL_long, kO_ref, kO_null, nlt_T, nlt_F, nle_T, nle_F, neq_F, vpT, azUp_at, if_true, if_false, true_and, and_true, true_implies, false_implies, implies_true, not_true_eq_false, not_false_eq_true, true_or, or_true, false_or, or_false, and_false, false_and, eq_self, n01_0, n01_1, nm1_0, k0, f11, k6, g1, acI_0, @azUp_nb _ (r + 6) r, Nat.add_sub_cancel]
  have i0 : rIdx 0 0 (cs ++ [((0, p, w, []) : Cls)]) = rIdx 0 0 cs ++ [cs.length] := by rw [rIdx_add, if_pos rfl, Nat.zero_add]
  have i2 : rIdx 2 0 (cs ++ [((0, p, w, []) : Cls)]) = rIdx 2 0 cs := by rw [rIdx_add, if_neg (fun h => Nat.noConfusion h), List.append_nil]
  have eb : I r 5 = nI (rCode cs).length := by rw [cl, List.append_nil]
  refine h _ (hc'.adds (c := ((0, p, w, []) : Cls)) rfl ?_ ?_ ?_ ?_ ?_ ?_ ?_ ?_ ?_ ?_ ?_ ?_ ?_ ?_) ?_
  · rw [azUp_nk (by omega), azUp_nb (by omega), acI_0]
  · rw [azUp_s, i0, List.length_append]; rfl
  · rw [azUp_nk (by omega), azUp_nb (by omega), acI_r (by omega), cg, i2]
  · rw [azUp_nk (by omega), azUp_nb (by omega), acI_r (by omega), cc, rMany_add]; rfl
  · rw [azUp_nk (by omega), azUp_nb (by omega), acI_r (by omega), ce, rBits_add]
    congr 1
    exact (Nat.or_zero _).symm
  · rw [azUp_nk (by omega), azUp_nb (by omega), acI_r (by omega)]
  · rw [azUp_nb (by omega), azUp_nb (by omega), ← eb]; rfl
  · rw [azUp_nb (by omega), azUp_nb (by omega), ← eb]; rfl
  · rw [azUp_nb (by omega), azUp_nb (by omega), ← eb]; rfl
  · rw [azUp_nb (by omega), azUp_nb (by omega), ← eb]; rfl
  · rw [azUp_nb (by omega), azUp_nb (by omega), ← eb]; rfl
  · rw [i0, List.map_append]
    refine cts.add ?_ (fun i hi => ?_)
    · rw [azUp_nb (by omega), List.length_map, azUp_s]
    · rw [List.length_map] at hi
      rw [azUp_nb (by omega), azUp_nk hi, acI_b (by omega)]
  · rw [i2, azUp_nb (by omega), azUp_nb (by omega), acI_b (by omega)]
    exact cgs
  · rw [azUp_nb (by omega), azUp_nb (by omega), acI_b (by omega)]
  · intro b hb
    rw [azUp_nb (by omega), azUp_nb (by omega), acI_b (by omega)]
end S5
