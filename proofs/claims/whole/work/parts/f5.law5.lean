/-! THE LAW: balance. -/
theorem lg_self (x : Int64) : lg_cmp x x = 0 := by
  have a1 : ¬ lg_cmp x x < 0 := fun h => by have := lgc_neg.mp h; omega
  have a2 : ¬ 0 < lg_cmp x x := fun h => by have := lgc_pos.mp h; omega
  rw [Int32.not_lt] at a1 a2
  exact Int32.le_antisymm a2 a1
section SL
variable {R : azP} {Q : azQ} {L p : Nat} {xs : Nat → Int32} {σ : azS} {st : St}
theorem LC_884 (hR : azClosed R) (hp : p + 3 < L) (hW : LW L xs σ st) (next : LN R L xs p Q σ) : R 200 mL_law 884 [.ref (azB + 10), .ref 0, .ref 228, .int (nI p)] [] σ Q := by
  obtain ⟨⟨n, z, kd⟩, I, J, F⟩ := σ
  obtain ⟨hC, hM, hk, hx⟩ := id hW
  have k0 : (kd 0).1 = 8 := hC.1.1.1
  refine BL_law_884 (d := 199) hR ?_
  simp (disch := omega) only [nI_ad, nI_ml, nI_lti, nI_lei, nI_eqi, nI_nn, nI_0le, nI_eq0, nI_0lt, nI_le0, nI_clamp, nI_pd, nI_sb, zOf_some, zOp_some, zOp_none, kI_int, kL_long, kO_ref, kO_null, nlt_T, nlt_F, nle_T, nle_F, neq_F, vpT, azUp_at, if_true, if_false, true_and, and_true, true_implies, false_implies, implies_true, not_true_eq_false, not_false_eq_true, true_or, or_true, false_or, or_false, and_false, false_and, eq_self, n01_0, n01_1, nm1_0, k0]
  refine S_tnInvariants (d := 194) hR hC fun σ1 c1 c2 => ?_
  obtain ⟨hM1, hk1, hx1⟩ := hW.cl c2
  have k91 : (σ1.1.2.2 228).1 = 9 := hM1.1.1
  simp (disch := omega) only [nI_ad, nI_ml, nI_lti, nI_lei, nI_eqi, nI_nn, nI_0le, nI_eq0, nI_0lt, nI_le0, nI_clamp, nI_pd, nI_sb, zOf_some, zOp_some, zOp_none, kI_int, kL_long, kO_ref, kO_null, nlt_T, nlt_F, nle_T, nle_F, neq_F, vpT, azUp_at, if_true, if_false, true_and, and_true, true_implies, false_implies, implies_true, not_true_eq_false, not_false_eq_true, true_or, or_true, false_or, or_false, and_false, false_and, eq_self, n01_0, n01_1, nm1_0, k91]
  refine S_mdInvariants (d := 173) hR hM1 fun σ2 m1 m2 => ?_
  simp (disch := omega) only [nI_ad, nI_ml, nI_lti, nI_lei, nI_eqi, nI_nn, nI_0le, nI_eq0, nI_0lt, nI_le0, nI_clamp, nI_pd, nI_sb, zOf_some, zOp_some, zOp_none, kI_int, kL_long, kO_ref, kO_null, nlt_T, nlt_F, nle_T, nle_F, neq_F, vpT, azUp_at, if_true, if_false, true_and, and_true, true_implies, false_implies, implies_true, not_true_eq_false, not_false_eq_true, true_or, or_true, false_or, or_false, and_false, false_and, eq_self, n01_0, n01_1, nm1_0]
  exact next _ _ (LW.md c1 hk1 hx1 m1 m2) (by rw [m2.1]; exact c2.2.1) (by rw [m2.1]; exact c2.2.2.1)
theorem LC_897 (hR : azClosed R) (hL : L ≤ 2048) (hp : p + 3 < L) (hW : LW L xs σ st) (next : LN R L xs p Q σ) : R 200 mL_law 897 [.ref (azB + 10), .ref 0, .ref 228, .int (nI p)] [] σ Q := by
  obtain ⟨⟨n, z, kd⟩, I, J, F⟩ := σ
  obtain ⟨hC, hM, hk, hx⟩ := id hW
  have hk : kd (azB + 10) = (15, L) := hk
  have hx : I (azB + 10) = xs := hx
  have k0 : (kd 0).1 = 8 := hC.1.1.1
  refine BL_law_897 (d := 199) hR ?_
  simp (disch := omega) only [nI_ad, nI_ml, nI_lti, nI_lei, nI_eqi, nI_nn, nI_0le, nI_eq0, nI_0lt, nI_le0, nI_clamp, nI_pd, nI_sb, zOf_some, zOp_some, zOp_none, kI_int, kL_long, kO_ref, kO_null, nlt_T, nlt_F, nle_T, nle_F, neq_F, vpT, azUp_at, if_true, if_false, true_and, and_true, true_implies, false_implies, implies_true, not_true_eq_false, not_false_eq_true, true_or, or_true, false_or, or_false, and_false, false_and, eq_self, n01_0, n01_1, nm1_0, hk, hx, k0]
  refine S_tnWeight (d := 194) hR hC fun σ1 c1 c2 => ?_
  obtain ⟨hM1, hk1, hx1⟩ := hW.cl c2
  have k91 : (σ1.1.2.2 228).1 = 9 := hM1.1.1
  simp (disch := omega) only [nI_ad, nI_ml, nI_lti, nI_lei, nI_eqi, nI_nn, nI_0le, nI_eq0, nI_0lt, nI_le0, nI_clamp, nI_pd, nI_sb, zOf_some, zOp_some, zOp_none, kI_int, kL_long, kO_ref, kO_null, nlt_T, nlt_F, nle_T, nle_F, neq_F, vpT, azUp_at, if_true, if_false, true_and, and_true, true_implies, false_implies, implies_true, not_true_eq_false, not_false_eq_true, true_or, or_true, false_or, or_false, and_false, false_and, eq_self, n01_0, n01_1, nm1_0, hk1, hx1, k91]
  refine S_mdWeight (d := 173) hR hM1 fun σ2 m1 m2 => ?_
  rw [kL_long]
  refine ⟨fun _ => ?_, fun e => absurd (lg_self _) e⟩
  exact next _ _ (LW.md c1 hk1 hx1 m1 m2) (by rw [m2.1]; exact c2.2.1) (by rw [m2.1]; exact c2.2.2.1)
theorem LC_941 (hR : azClosed R) (hL : L ≤ 2048) (hp : p + 3 < L) (hW : LW L xs σ st) (next : LN R L xs p Q σ) : R 200 mL_law 941 [.ref (azB + 10), .ref 0, .ref 228, .int (nI p)] [] σ Q := by
  obtain ⟨⟨n, z, kd⟩, I, J, F⟩ := σ
  obtain ⟨hC, hM, hk, hx⟩ := id hW
  have hk : kd (azB + 10) = (15, L) := hk
  have hx : I (azB + 10) = xs := hx
  have k0 : (kd 0).1 = 8 := hC.1.1.1
  refine BL_law_941 (d := 199) hR ?_
  simp (disch := omega) only [nI_ad, nI_ml, nI_lti, nI_lei, nI_eqi, nI_nn, nI_0le, nI_eq0, nI_0lt, nI_le0, nI_clamp, nI_pd, nI_sb, zOf_some, zOp_some, zOp_none, kI_int, kL_long, kO_ref, kO_null, nlt_T, nlt_F, nle_T, nle_F, neq_F, vpT, azUp_at, if_true, if_false, true_and, and_true, true_implies, false_implies, implies_true, not_true_eq_false, not_false_eq_true, true_or, or_true, false_or, or_false, and_false, false_and, eq_self, n01_0, n01_1, nm1_0, hk, hx, k0]
  refine S_tnSum (d := 194) hR hC fun σ1 c1 c2 => ?_
  obtain ⟨hM1, hk1, hx1⟩ := hW.cl c2
  have k91 : (σ1.1.2.2 228).1 = 9 := hM1.1.1
  simp (disch := omega) only [nI_ad, nI_ml, nI_lti, nI_lei, nI_eqi, nI_nn, nI_0le, nI_eq0, nI_0lt, nI_le0, nI_clamp, nI_pd, nI_sb, zOf_some, zOp_some, zOp_none, kI_int, kL_long, kO_ref, kO_null, nlt_T, nlt_F, nle_T, nle_F, neq_F, vpT, azUp_at, if_true, if_false, true_and, and_true, true_implies, false_implies, implies_true, not_true_eq_false, not_false_eq_true, true_or, or_true, false_or, or_false, and_false, false_and, eq_self, n01_0, n01_1, nm1_0, hk1, hx1, k91]
  refine S_mdSum (d := 173) hR hM1 fun σ2 m1 m2 => ?_
  simp (disch := omega) only [nI_ad, nI_ml, nI_lti, nI_lei, nI_eqi, nI_nn, nI_0le, nI_eq0, nI_0lt, nI_le0, nI_clamp, nI_pd, nI_sb, zOf_some, zOp_some, zOp_none, kI_int, kL_long, kO_ref, kO_null, nlt_T, nlt_F, nle_T, nle_F, neq_F, vpT, azUp_at, if_true, if_false, true_and, and_true, true_implies, false_implies, implies_true, not_true_eq_false, not_false_eq_true, true_or, or_true, false_or, or_false, and_false, false_and, eq_self, n01_0, n01_1, nm1_0]
  exact next _ _ (LW.md c1 hk1 hx1 m1 m2) (by rw [m2.1]; exact c2.2.1) (by rw [m2.1]; exact c2.2.2.1)
theorem bal_holds (hR : azClosed R) (hL : L ≤ 2048) : balOK R L xs Q := fun p σ st hp hW _ next => ⟨LC_884 hR hp hW next, LC_897 hR hL hp hW next, LC_941 hR hL hp hW next⟩
end SL
