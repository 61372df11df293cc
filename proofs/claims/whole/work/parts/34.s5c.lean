/-! SPECS: Rule, the other clauses; changeOf. -/
section S5
variable {R : azP} {d n z : Nat} {kd : azK} {I : azI} {J : azJ} {F : azR} {Q : azQ} {r k : Nat} {cs : List Cls} {pd : List Nat}
theorem S_addGive (hR : azClosed R) (hM : RuOk kd F r) {p : Nat} {e : Ex} (hc : cR I r cs (exPost e)) (hk : cs.length < 12) (ht : (rIdx 2 0 cs).length < 3) (h : ∀ I', cR I' r (cs ++ [(2, p, 0, [e])]) [] → (∀ b, b < r ∨ r + 8 < b → I' b = I b) → Q none ((n, z, kd), I', J, F)) : R (d + 1) mX5_addGive 0 [.ref r, .int (nI p), .int (nI (rCode cs).length)] [] ((n, z, kd), I, J, F) Q := by
  have hM' := hM
  have hc' := hc
  obtain ⟨k0, k1, k2, k3, k4, k5, k6, k7, k8, f6, f7, f8, f9, f10, f11, f12, f13⟩ := hM
  obtain ⟨cn, ct, cg, cc, ce, cl, cks, cps, cws, cbs, ces, cts, cgs, cco⟩ := hc
  refine BX5_addGive_0 hR ?_
  simp (disch := omega) only [nI_ad, nI_ml, nI_lti, nI_lei, nI_eqi, nI_nn, nI_0le, nI_eq0, nI_0lt, nI_le0, nI_clamp, nI_pd, nI_sb, zOf_some, zOp_some, zOp_none, kI_int, kL_long, kO_ref, kO_null, nlt_T, nlt_F, nle_T, nle_F, neq_F, vpT, azUp_at, if_true, if_false, true_and, and_true, true_implies, false_implies, implies_true, not_true_eq_false, not_false_eq_true, true_or, or_true, false_or, or_false, and_false, false_and, eq_self, n01_0, n01_1, nm1_0, k0, cg]
  refine S_addClause hR hM' hk cn ?_
  have g1 : acI I r cs.length (nI 2) (nI p) (-(nI 1)) (nI (rCode cs).length) (I r 5) r 2 = nI (rIdx 2 0 cs).length := by rw [acI_r (by omega), cg]
  simp (disch := omega) only [nI_ad, nI_ml, nI_lti, nI_lei, nI_eqi, nI_nn, nI_0le, nI_eq0, nI_0lt, nI_le0, nI_clamp, nI_pd, nI_sb, zOf_some, zOp_some, zOp_none, kI_int, kL_long, kO_ref, kO_null, nlt_T, nlt_F, nle_T, nle_F, neq_F, vpT, azUp_at, if_true, if_false, true_and, and_true, true_implies, false_implies, implies_true, not_true_eq_false, not_false_eq_true, true_or, or_true, false_or, or_false, and_false, false_and, eq_self, n01_0, n01_1, nm1_0, k0, f12, k7, g1, acI_0, @azUp_nb _ (r + 7) r, Nat.add_sub_cancel]
  have i0 : rIdx 2 0 (cs ++ [((2, p, 0, [e]) : Cls)]) = rIdx 2 0 cs ++ [cs.length] := by rw [rIdx_add, if_pos rfl, Nat.zero_add]
  have i2 : rIdx 0 0 (cs ++ [((2, p, 0, [e]) : Cls)]) = rIdx 0 0 cs := by rw [rIdx_add, if_neg (fun h => Nat.noConfusion h), List.append_nil]
  refine h _ (hc'.adds (c := ((2, p, 0, [e]) : Cls)) rfl ?_ ?_ ?_ ?_ ?_ ?_ ?_ ?_ ?_ ?_ ?_ ?_ ?_ ?_) ?_
  · rw [azUp_nk (by omega), azUp_nb (by omega), acI_0]
  · rw [azUp_nk (by omega), azUp_nb (by omega), acI_r (by omega), ct, i2]
  · rw [azUp_s, i0, List.length_append]; rfl
  · rw [azUp_nk (by omega), azUp_nb (by omega), acI_r (by omega), cc, rMany_add]; rfl
  · rw [azUp_nk (by omega), azUp_nb (by omega), acI_r (by omega), ce, rBits_add]
    congr 1
    exact (Nat.or_zero _).symm
  · rw [azUp_nk (by omega), azUp_nb (by omega), acI_r (by omega)]
  · rw [azUp_nb (by omega), azUp_nb (by omega)]; rfl
  · rw [azUp_nb (by omega), azUp_nb (by omega)]; rfl
  · rw [azUp_nb (by omega), azUp_nb (by omega)]; rfl
  · rw [azUp_nb (by omega), azUp_nb (by omega)]; rfl
  · rw [azUp_nb (by omega), azUp_nb (by omega)]; rfl
  · rw [i2, azUp_nb (by omega), azUp_nb (by omega), acI_b (by omega)]
    exact cts
  · rw [i0, List.map_append]
    refine cgs.add ?_ (fun i hi => ?_)
    · rw [azUp_nb (by omega), List.length_map, azUp_s]
    · rw [List.length_map] at hi
      rw [azUp_nb (by omega), azUp_nk hi, acI_b (by omega)]
  · rw [azUp_nb (by omega), azUp_nb (by omega), acI_b (by omega)]
  · intro b hb
    rw [azUp_nb (by omega), azUp_nb (by omega), acI_b (by omega)]
theorem S_addCondition (hR : azClosed R) (hM : RuOk kd F r) {l : List Ex} (hc : cR I r cs (exCode l)) (hk : cs.length < 12) (h : ∀ I', cR I' r (cs ++ [(1, 0, 0, l)]) [] → (∀ b, b < r ∨ r + 8 < b → I' b = I b) → Q none ((n, z, kd), I', J, F)) : R (d + 1) mX5_addCondition 0 [.ref r, .int (nI (rCode cs).length), .int (nI l.length)] [] ((n, z, kd), I, J, F) Q := by
  have hM' := hM
  have hc' := hc
  obtain ⟨k0, k1, k2, k3, k4, k5, k6, k7, k8, f6, f7, f8, f9, f10, f11, f12, f13⟩ := hM
  obtain ⟨cn, ct, cg, cc, ce, cl, cks, cps, cws, cbs, ces, cts, cgs, cco⟩ := hc
  refine BX5_addCondition_0 hR ?_
  simp (disch := omega) only [nI_ad, nI_ml, nI_lti, nI_lei, nI_eqi, nI_nn, nI_0le, nI_eq0, nI_0lt, nI_le0, nI_clamp, nI_pd, nI_sb, zOf_some, zOp_some, zOp_none, kI_int, kL_long, kO_ref, kO_null, nlt_T, nlt_F, nle_T, nle_F, neq_F, vpT, azUp_at, if_true, if_false, true_and, and_true, true_implies, false_implies, implies_true, not_true_eq_false, not_false_eq_true, true_or, or_true, false_or, or_false, and_false, false_and, eq_self, n01_0, n01_1, nm1_0, k0]
  refine S_addClause hR hM' hk cn ?_
  have g1 : acI I r cs.length (nI 1) (-(nI 1)) (-(nI 1)) (nI (rCode cs).length) (I r 5) r 3 = nI (rMany cs) := by rw [acI_r (by omega), cc]
  simp (disch := omega) only [nI_ad, nI_ml, nI_lti, nI_lei, nI_eqi, nI_nn, nI_0le, nI_eq0, nI_0lt, nI_le0, nI_clamp, nI_pd, nI_sb, zOf_some, zOp_some, zOp_none, kI_int, kL_long, kO_ref, kO_null, nlt_T, nlt_F, nle_T, nle_F, neq_F, vpT, azUp_at, if_true, if_false, true_and, and_true, true_implies, false_implies, implies_true, not_true_eq_false, not_false_eq_true, true_or, or_true, false_or, or_false, and_false, false_and, eq_self, n01_0, n01_1, nm1_0, k0, g1]
  have i0 : rIdx 2 0 (cs ++ [((1, 0, 0, l) : Cls)]) = rIdx 2 0 cs := by rw [rIdx_add, if_neg (fun h => by have h : (1 : Nat) = 2 := h; omega), List.append_nil]
  have i2 : rIdx 0 0 (cs ++ [((1, 0, 0, l) : Cls)]) = rIdx 0 0 cs := by rw [rIdx_add, if_neg (fun h => Nat.noConfusion h), List.append_nil]
  refine h _ (hc'.adds (c := ((1, 0, 0, l) : Cls)) rfl ?_ ?_ ?_ ?_ ?_ ?_ ?_ ?_ ?_ ?_ ?_ ?_ ?_ ?_) ?_
  · rw [azUp_nk (by omega), acI_0]
  · rw [azUp_nk (by omega), acI_r (by omega), ct, i2]
  · rw [azUp_nk (by omega), acI_r (by omega), cg, i0]
  · rw [azUp_s, rMany_add]; rfl
  · rw [azUp_nk (by omega), acI_r (by omega), ce, rBits_add]
    congr 1
    exact (Nat.or_zero _).symm
  · rw [azUp_nk (by omega), acI_r (by omega)]
  · rw [azUp_nb (by omega)]; rfl
  · rw [azUp_nb (by omega)]; rfl
  · rw [azUp_nb (by omega)]; rfl
  · rw [azUp_nb (by omega)]; rfl
  · rw [azUp_nb (by omega)]; rfl
  · rw [i2, azUp_nb (by omega), acI_b (by omega)]
    exact cts
  · rw [i0, azUp_nb (by omega), acI_b (by omega)]
    exact cgs
  · rw [azUp_nb (by omega), acI_b (by omega)]
  · intro b hb
    rw [azUp_nb (by omega), acI_b (by omega)]
theorem nI_or (a b : Nat) : nI a ||| nI b = nI (a ||| b) := by
  rw [← Int32.toBitVec_inj, Int32.toBitVec_or]
  exact BitVec.ofNat_or.symm
theorem nI_bit {p : Nat} (hp : p < 10) : nI 1 <<< (nI p &&& 31) = nI (2 ^ p) := by
  revert p
  decide
theorem S_addEmpty (hR : azClosed R) (hM : RuOk kd F r) {p : Nat} (hp : p < 10) (hc : cR I r cs []) (hk : cs.length < 12) (h : ∀ I', cR I' r (cs ++ [(3, p, 0, [])]) [] → (∀ b, b < r ∨ r + 8 < b → I' b = I b) → Q none ((n, z, kd), I', J, F)) : R (d + 1) mX5_addEmpty 0 [.ref r, .int (nI p)] [] ((n, z, kd), I, J, F) Q := by
  have hM' := hM
  have hc' := hc
  obtain ⟨k0, k1, k2, k3, k4, k5, k6, k7, k8, f6, f7, f8, f9, f10, f11, f12, f13⟩ := hM
  obtain ⟨cn, ct, cg, cc, ce, cl, cks, cps, cws, cbs, ces, cts, cgs, cco⟩ := hc
  refine BX5_addEmpty_0 hR (S_isPlace hR ?_)
  unfold isP
  rw [ix_nI (by decide) hp]
  dsimp only
  simp (disch := omega) only [nI_ad, nI_ml, nI_lti, nI_lei, nI_eqi, nI_nn, nI_0le, nI_eq0, nI_0lt, nI_le0, nI_clamp, nI_pd, nI_sb, zOf_some, zOp_some, zOp_none, kI_int, kL_long, kO_ref, kO_null, nlt_T, nlt_F, nle_T, nle_F, neq_F, vpT, azUp_at, if_true, if_false, true_and, and_true, true_implies, false_implies, implies_true, not_true_eq_false, not_false_eq_true, true_or, or_true, false_or, or_false, and_false, false_and, eq_self, n01_0, n01_1, nm1_0, k0]
  refine S_addClause hR hM' hk cn ?_
  have g1 : acI I r cs.length (nI 3) (nI p) (-(nI 1)) (I r 5) (I r 5) r 4 = nI (rBits cs) := by rw [acI_r (by omega), ce]
  have eb : I r 5 = nI (rCode cs).length := by rw [cl, List.append_nil]
  simp (disch := omega) only [nI_ad, nI_ml, nI_lti, nI_lei, nI_eqi, nI_nn, nI_0le, nI_eq0, nI_0lt, nI_le0, nI_clamp, nI_pd, nI_sb, zOf_some, zOp_some, zOp_none, kI_int, kL_long, kO_ref, kO_null, nlt_T, nlt_F, nle_T, nle_F, neq_F, vpT, azUp_at, if_true, if_false, true_and, and_true, true_implies, false_implies, implies_true, not_true_eq_false, not_false_eq_true, true_or, or_true, false_or, or_false, and_false, false_and, eq_self, n01_0, n01_1, nm1_0, k0, g1, nI_bit, nI_or]
  have i0 : rIdx 2 0 (cs ++ [((3, p, 0, []) : Cls)]) = rIdx 2 0 cs := by rw [rIdx_add, if_neg (fun h => by have h : (3 : Nat) = 2 := h; omega), List.append_nil]
  have i2 : rIdx 0 0 (cs ++ [((3, p, 0, []) : Cls)]) = rIdx 0 0 cs := by rw [rIdx_add, if_neg (fun h => Nat.noConfusion h), List.append_nil]
  refine h _ (hc'.adds (c := ((3, p, 0, []) : Cls)) rfl ?_ ?_ ?_ ?_ ?_ ?_ ?_ ?_ ?_ ?_ ?_ ?_ ?_ ?_) ?_
  · rw [azUp_nk (by omega), acI_0]
  · rw [azUp_nk (by omega), acI_r (by omega), ct, i2]
  · rw [azUp_nk (by omega), acI_r (by omega), cg, i0]
  · rw [azUp_nk (by omega), acI_r (by omega), cc, rMany_add]; rfl
  · rw [azUp_s, rBits_add]; rfl
  · rw [azUp_nk (by omega), acI_r (by omega)]
  · rw [azUp_nb (by omega), ← eb]; rfl
  · rw [azUp_nb (by omega), ← eb]; rfl
  · rw [azUp_nb (by omega), ← eb]; rfl
  · rw [azUp_nb (by omega), ← eb]; rfl
  · rw [azUp_nb (by omega), ← eb]; rfl
  · rw [i2, azUp_nb (by omega), acI_b (by omega)]
    exact cts
  · rw [i0, azUp_nb (by omega), acI_b (by omega)]
    exact cgs
  · rw [azUp_nb (by omega), acI_b (by omega)]
  · intro b hb
    rw [azUp_nb (by omega), acI_b (by omega)]
end S5
