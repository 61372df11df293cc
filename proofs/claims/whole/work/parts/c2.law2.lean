/-! THE LAW: its cases but for balance (written by wip/whole/genlaw.py). -/
section SL
variable {R : azP} {Q : azQ} {L p : Nat} {xs : Nat → Int32} {σ : azS} {st : St}
theorem LC_176 (hR : azClosed R) (hL : L ≤ 2048) (hp : p + 3 < L) (hW : LW L xs σ st) (hB : σ.1.1 + 8 < azB) (next : LN R L xs p Q σ) : R 200 mL_law 176 [.ref (azB + 10), .ref 0, .ref 228, .int (nI p)] [] σ Q := by
  obtain ⟨⟨n, z, kd⟩, I, J, F⟩ := σ
  obtain ⟨hC, hM, hk, hx⟩ := id hW
  have hk : kd (azB + 10) = (15, L) := hk
  have hx : I (azB + 10) = xs := hx
  have k0 : (kd 0).1 = 8 := hC.1.1.1
  have k9 : (kd 228).1 = 9 := hM.1.1
  refine BL_law_176 (d := 199) hR ?_
  simp (disch := omega) only [nI_ad, nI_ml, nI_lti, nI_lei, nI_eqi, nI_nn, nI_0le, nI_eq0, nI_0lt, nI_le0, nI_clamp, nI_pd, nI_sb, zOf_some, zOp_some, zOp_none, kI_int, kL_long, kO_ref, kO_null, nlt_T, nlt_F, nle_T, nle_F, neq_F, vpT, azUp_at, if_true, if_false, true_and, and_true, true_implies, false_implies, implies_true, not_true_eq_false, not_false_eq_true, true_or, or_true, false_or, or_false, and_false, false_and, eq_self, n01_0, n01_1, nm1_0, hk, hx, k0]
  refine S_tnPut hR hC fun σ1 c1 c2 => ?_
  obtain ⟨hM1, hk1, hx1⟩ := hW.cl c2
  have k91 : (σ1.1.2.2 228).1 = 9 := hM1.1.1
  simp (disch := omega) only [nI_ad, nI_ml, nI_lti, nI_lei, nI_eqi, nI_nn, nI_0le, nI_eq0, nI_0lt, nI_le0, nI_clamp, nI_pd, nI_sb, zOf_some, zOp_some, zOp_none, kI_int, kL_long, kO_ref, kO_null, nlt_T, nlt_F, nle_T, nle_F, neq_F, vpT, azUp_at, if_true, if_false, true_and, and_true, true_implies, false_implies, implies_true, not_true_eq_false, not_false_eq_true, true_or, or_true, false_or, or_false, and_false, false_and, eq_self, n01_0, n01_1, nm1_0, hk1, hx1, k91]
  refine S_mdPut hR hM1 fun σ2 m1 m2 => ?_
  simp (disch := omega) only [nI_ad, nI_ml, nI_lti, nI_lei, nI_eqi, nI_nn, nI_0le, nI_eq0, nI_0lt, nI_le0, nI_clamp, nI_pd, nI_sb, zOf_some, zOp_some, zOp_none, kI_int, kL_long, kO_ref, kO_null, nlt_T, nlt_F, nle_T, nle_F, neq_F, vpT, azUp_at, if_true, if_false, true_and, and_true, true_implies, false_implies, implies_true, not_true_eq_false, not_false_eq_true, true_or, or_true, false_or, or_false, and_false, false_and, eq_self, n01_0, n01_1, nm1_0]
  exact next _ _ (LW.md c1 hk1 hx1 m1 m2) (by rw [m2.1]; exact c2.2.1) (by rw [m2.1]; exact c2.2.2.1)
theorem LC_209 (hR : azClosed R) (hL : L ≤ 2048) (hp : p + 3 < L) (hW : LW L xs σ st) (hB : σ.1.1 + 8 < azB) (next : LN R L xs p Q σ) : R 200 mL_law 209 [.ref (azB + 10), .ref 0, .ref 228, .int (nI p)] [] σ Q := by
  obtain ⟨⟨n, z, kd⟩, I, J, F⟩ := σ
  obtain ⟨hC, hM, hk, hx⟩ := id hW
  have hk : kd (azB + 10) = (15, L) := hk
  have hx : I (azB + 10) = xs := hx
  have k0 : (kd 0).1 = 8 := hC.1.1.1
  have k9 : (kd 228).1 = 9 := hM.1.1
  refine BL_law_209 (d := 199) hR ?_
  simp (disch := omega) only [nI_ad, nI_ml, nI_lti, nI_lei, nI_eqi, nI_nn, nI_0le, nI_eq0, nI_0lt, nI_le0, nI_clamp, nI_pd, nI_sb, zOf_some, zOp_some, zOp_none, kI_int, kL_long, kO_ref, kO_null, nlt_T, nlt_F, nle_T, nle_F, neq_F, vpT, azUp_at, if_true, if_false, true_and, and_true, true_implies, false_implies, implies_true, not_true_eq_false, not_false_eq_true, true_or, or_true, false_or, or_false, and_false, false_and, eq_self, n01_0, n01_1, nm1_0, hk, hx, k0]
  refine S_tnTake hR hC fun σ1 c1 c2 => ?_
  obtain ⟨hM1, hk1, hx1⟩ := hW.cl c2
  have k91 : (σ1.1.2.2 228).1 = 9 := hM1.1.1
  simp (disch := omega) only [nI_ad, nI_ml, nI_lti, nI_lei, nI_eqi, nI_nn, nI_0le, nI_eq0, nI_0lt, nI_le0, nI_clamp, nI_pd, nI_sb, zOf_some, zOp_some, zOp_none, kI_int, kL_long, kO_ref, kO_null, nlt_T, nlt_F, nle_T, nle_F, neq_F, vpT, azUp_at, if_true, if_false, true_and, and_true, true_implies, false_implies, implies_true, not_true_eq_false, not_false_eq_true, true_or, or_true, false_or, or_false, and_false, false_and, eq_self, n01_0, n01_1, nm1_0, hk1, hx1, k91]
  refine S_mdTake hR hM1 fun σ2 m1 m2 => ?_
  simp (disch := omega) only [nI_ad, nI_ml, nI_lti, nI_lei, nI_eqi, nI_nn, nI_0le, nI_eq0, nI_0lt, nI_le0, nI_clamp, nI_pd, nI_sb, zOf_some, zOp_some, zOp_none, kI_int, kL_long, kO_ref, kO_null, nlt_T, nlt_F, nle_T, nle_F, neq_F, vpT, azUp_at, if_true, if_false, true_and, and_true, true_implies, false_implies, implies_true, not_true_eq_false, not_false_eq_true, true_or, or_true, false_or, or_false, and_false, false_and, eq_self, n01_0, n01_1, nm1_0]
  exact next _ _ (LW.md c1 hk1 hx1 m1 m2) (by rw [m2.1]; exact c2.2.1) (by rw [m2.1]; exact c2.2.2.1)
theorem LC_242 (hR : azClosed R) (hL : L ≤ 2048) (hp : p + 3 < L) (hW : LW L xs σ st) (hB : σ.1.1 + 8 < azB) (next : LN R L xs p Q σ) : R 200 mL_law 242 [.ref (azB + 10), .ref 0, .ref 228, .int (nI p)] [] σ Q := by
  obtain ⟨⟨n, z, kd⟩, I, J, F⟩ := σ
  obtain ⟨hC, hM, hk, hx⟩ := id hW
  have hk : kd (azB + 10) = (15, L) := hk
  have hx : I (azB + 10) = xs := hx
  have k0 : (kd 0).1 = 8 := hC.1.1.1
  have k9 : (kd 228).1 = 9 := hM.1.1
  refine BL_law_242 (d := 199) hR ?_
  simp (disch := omega) only [nI_ad, nI_ml, nI_lti, nI_lei, nI_eqi, nI_nn, nI_0le, nI_eq0, nI_0lt, nI_le0, nI_clamp, nI_pd, nI_sb, zOf_some, zOp_some, zOp_none, kI_int, kL_long, kO_ref, kO_null, nlt_T, nlt_F, nle_T, nle_F, neq_F, vpT, azUp_at, if_true, if_false, true_and, and_true, true_implies, false_implies, implies_true, not_true_eq_false, not_false_eq_true, true_or, or_true, false_or, or_false, and_false, false_and, eq_self, n01_0, n01_1, nm1_0, hk, hx, k0]
  refine S_tnToken hR hC ?_
  simp (disch := omega) only [nI_ad, nI_ml, nI_lti, nI_lei, nI_eqi, nI_nn, nI_0le, nI_eq0, nI_0lt, nI_le0, nI_clamp, nI_pd, nI_sb, zOf_some, zOp_some, zOp_none, kI_int, kL_long, kO_ref, kO_null, nlt_T, nlt_F, nle_T, nle_F, neq_F, vpT, azUp_at, if_true, if_false, true_and, and_true, true_implies, false_implies, implies_true, not_true_eq_false, not_false_eq_true, true_or, or_true, false_or, or_false, and_false, false_and, eq_self, n01_0, n01_1, nm1_0, hk, hx, k9]
  refine S_mdToken hR hM ?_
  simp (disch := omega) only [nI_ad, nI_ml, nI_lti, nI_lei, nI_eqi, nI_nn, nI_0le, nI_eq0, nI_0lt, nI_le0, nI_clamp, nI_pd, nI_sb, zOf_some, zOp_some, zOp_none, kI_int, kL_long, kO_ref, kO_null, nlt_T, nlt_F, nle_T, nle_F, neq_F, vpT, azUp_at, if_true, if_false, true_and, and_true, true_implies, false_implies, implies_true, not_true_eq_false, not_false_eq_true, true_or, or_true, false_or, or_false, and_false, false_and, eq_self, n01_0, n01_1, nm1_0]
  exact next _ _ hW (Nat.le_add_right _ _) (Nat.le_add_right _ _)
theorem LC_275 (hR : azClosed R) (hL : L ≤ 2048) (hp : p + 3 < L) (hW : LW L xs σ st) (hB : σ.1.1 + 8 < azB) (next : LN R L xs p Q σ) : R 200 mL_law 275 [.ref (azB + 10), .ref 0, .ref 228, .int (nI p)] [] σ Q := by
  obtain ⟨⟨n, z, kd⟩, I, J, F⟩ := σ
  obtain ⟨hC, hM, hk, hx⟩ := id hW
  have hk : kd (azB + 10) = (15, L) := hk
  have hx : I (azB + 10) = xs := hx
  have k0 : (kd 0).1 = 8 := hC.1.1.1
  have k9 : (kd 228).1 = 9 := hM.1.1
  refine BL_law_275 (d := 199) hR ?_
  simp (disch := omega) only [nI_ad, nI_ml, nI_lti, nI_lei, nI_eqi, nI_nn, nI_0le, nI_eq0, nI_0lt, nI_le0, nI_clamp, nI_pd, nI_sb, zOf_some, zOp_some, zOp_none, kI_int, kL_long, kO_ref, kO_null, nlt_T, nlt_F, nle_T, nle_F, neq_F, vpT, azUp_at, if_true, if_false, true_and, and_true, true_implies, false_implies, implies_true, not_true_eq_false, not_false_eq_true, true_or, or_true, false_or, or_false, and_false, false_and, eq_self, n01_0, n01_1, nm1_0, hk, hx, k0]
  refine S_tnFeed hR hC fun σ1 c1 c2 => ?_
  obtain ⟨hM1, hk1, hx1⟩ := hW.cl c2
  have k91 : (σ1.1.2.2 228).1 = 9 := hM1.1.1
  simp (disch := omega) only [nI_ad, nI_ml, nI_lti, nI_lei, nI_eqi, nI_nn, nI_0le, nI_eq0, nI_0lt, nI_le0, nI_clamp, nI_pd, nI_sb, zOf_some, zOp_some, zOp_none, kI_int, kL_long, kO_ref, kO_null, nlt_T, nlt_F, nle_T, nle_F, neq_F, vpT, azUp_at, if_true, if_false, true_and, and_true, true_implies, false_implies, implies_true, not_true_eq_false, not_false_eq_true, true_or, or_true, false_or, or_false, and_false, false_and, eq_self, n01_0, n01_1, nm1_0, hk1, hx1, k91]
  refine S_mdFeed hR hM1 fun σ2 m1 m2 => ?_
  simp (disch := omega) only [nI_ad, nI_ml, nI_lti, nI_lei, nI_eqi, nI_nn, nI_0le, nI_eq0, nI_0lt, nI_le0, nI_clamp, nI_pd, nI_sb, zOf_some, zOp_some, zOp_none, kI_int, kL_long, kO_ref, kO_null, nlt_T, nlt_F, nle_T, nle_F, neq_F, vpT, azUp_at, if_true, if_false, true_and, and_true, true_implies, false_implies, implies_true, not_true_eq_false, not_false_eq_true, true_or, or_true, false_or, or_false, and_false, false_and, eq_self, n01_0, n01_1, nm1_0]
  exact next _ _ (LW.md c1 hk1 hx1 m1 m2) (by rw [m2.1]; exact c2.2.1) (by rw [m2.1]; exact c2.2.2.1)
theorem LC_298 (hR : azClosed R) (hL : L ≤ 2048) (hp : p + 3 < L) (hW : LW L xs σ st) (hB : σ.1.1 + 8 < azB) (next : LN R L xs p Q σ) : R 200 mL_law 298 [.ref (azB + 10), .ref 0, .ref 228, .int (nI p)] [] σ Q := by
  obtain ⟨⟨n, z, kd⟩, I, J, F⟩ := σ
  obtain ⟨hC, hM, hk, hx⟩ := id hW
  have hk : kd (azB + 10) = (15, L) := hk
  have hx : I (azB + 10) = xs := hx
  have k0 : (kd 0).1 = 8 := hC.1.1.1
  have k9 : (kd 228).1 = 9 := hM.1.1
  refine BL_law_298 (d := 199) hR ?_
  simp (disch := omega) only [nI_ad, nI_ml, nI_lti, nI_lei, nI_eqi, nI_nn, nI_0le, nI_eq0, nI_0lt, nI_le0, nI_clamp, nI_pd, nI_sb, zOf_some, zOp_some, zOp_none, kI_int, kL_long, kO_ref, kO_null, nlt_T, nlt_F, nle_T, nle_F, neq_F, vpT, azUp_at, if_true, if_false, true_and, and_true, true_implies, false_implies, implies_true, not_true_eq_false, not_false_eq_true, true_or, or_true, false_or, or_false, and_false, false_and, eq_self, n01_0, n01_1, nm1_0, hk, hx, k0]
  refine S_tnClear hR hC fun σ1 c1 c2 => ?_
  obtain ⟨hM1, hk1, hx1⟩ := hW.cl c2
  have k91 : (σ1.1.2.2 228).1 = 9 := hM1.1.1
  simp (disch := omega) only [nI_ad, nI_ml, nI_lti, nI_lei, nI_eqi, nI_nn, nI_0le, nI_eq0, nI_0lt, nI_le0, nI_clamp, nI_pd, nI_sb, zOf_some, zOp_some, zOp_none, kI_int, kL_long, kO_ref, kO_null, nlt_T, nlt_F, nle_T, nle_F, neq_F, vpT, azUp_at, if_true, if_false, true_and, and_true, true_implies, false_implies, implies_true, not_true_eq_false, not_false_eq_true, true_or, or_true, false_or, or_false, and_false, false_and, eq_self, n01_0, n01_1, nm1_0, hk1, hx1, k91]
  refine S_mdClear hR hM1 fun σ2 m1 m2 => ?_
  simp (disch := omega) only [nI_ad, nI_ml, nI_lti, nI_lei, nI_eqi, nI_nn, nI_0le, nI_eq0, nI_0lt, nI_le0, nI_clamp, nI_pd, nI_sb, zOf_some, zOp_some, zOp_none, kI_int, kL_long, kO_ref, kO_null, nlt_T, nlt_F, nle_T, nle_F, neq_F, vpT, azUp_at, if_true, if_false, true_and, and_true, true_implies, false_implies, implies_true, not_true_eq_false, not_false_eq_true, true_or, or_true, false_or, or_false, and_false, false_and, eq_self, n01_0, n01_1, nm1_0]
  exact next _ _ (LW.md c1 hk1 hx1 m1 m2) (by rw [m2.1]; exact c2.2.1) (by rw [m2.1]; exact c2.2.2.1)
theorem LC_311 (hR : azClosed R) (hL : L ≤ 2048) (hp : p + 3 < L) (hW : LW L xs σ st) (hB : σ.1.1 + 8 < azB) (next : LN R L xs p Q σ) : R 200 mL_law 311 [.ref (azB + 10), .ref 0, .ref 228, .int (nI p)] [] σ Q := by
  obtain ⟨⟨n, z, kd⟩, I, J, F⟩ := σ
  obtain ⟨hC, hM, hk, hx⟩ := id hW
  have hk : kd (azB + 10) = (15, L) := hk
  have hx : I (azB + 10) = xs := hx
  have k0 : (kd 0).1 = 8 := hC.1.1.1
  have k9 : (kd 228).1 = 9 := hM.1.1
  refine BL_law_311 (d := 199) hR ?_
  simp (disch := omega) only [nI_ad, nI_ml, nI_lti, nI_lei, nI_eqi, nI_nn, nI_0le, nI_eq0, nI_0lt, nI_le0, nI_clamp, nI_pd, nI_sb, zOf_some, zOp_some, zOp_none, kI_int, kL_long, kO_ref, kO_null, nlt_T, nlt_F, nle_T, nle_F, neq_F, vpT, azUp_at, if_true, if_false, true_and, and_true, true_implies, false_implies, implies_true, not_true_eq_false, not_false_eq_true, true_or, or_true, false_or, or_false, and_false, false_and, eq_self, n01_0, n01_1, nm1_0, hk, hx, k0]
  refine S_tnRule hR hC hB fun σ1 c1 c2 => ?_
  obtain ⟨hM1, hk1, hx1⟩ := hW.cl c2
  have k91 : (σ1.1.2.2 228).1 = 9 := hM1.1.1
  simp (disch := omega) only [nI_ad, nI_ml, nI_lti, nI_lei, nI_eqi, nI_nn, nI_0le, nI_eq0, nI_0lt, nI_le0, nI_clamp, nI_pd, nI_sb, zOf_some, zOp_some, zOp_none, kI_int, kL_long, kO_ref, kO_null, nlt_T, nlt_F, nle_T, nle_F, neq_F, vpT, azUp_at, if_true, if_false, true_and, and_true, true_implies, false_implies, implies_true, not_true_eq_false, not_false_eq_true, true_or, or_true, false_or, or_false, and_false, false_and, eq_self, n01_0, n01_1, nm1_0, hk1, hx1, k91]
  refine S_mdRule hR hM1 fun σ2 m1 m2 => ?_
  simp (disch := omega) only [nI_ad, nI_ml, nI_lti, nI_lei, nI_eqi, nI_nn, nI_0le, nI_eq0, nI_0lt, nI_le0, nI_clamp, nI_pd, nI_sb, zOf_some, zOp_some, zOp_none, kI_int, kL_long, kO_ref, kO_null, nlt_T, nlt_F, nle_T, nle_F, neq_F, vpT, azUp_at, if_true, if_false, true_and, and_true, true_implies, false_implies, implies_true, not_true_eq_false, not_false_eq_true, true_or, or_true, false_or, or_false, and_false, false_and, eq_self, n01_0, n01_1, nm1_0]
  exact next _ _ (LW.md c1 hk1 hx1 m1 m2) (by rw [m2.1]; exact c2.2.1) (by rw [m2.1]; exact c2.2.2.1)
theorem LC_334 (hR : azClosed R) (hL : L ≤ 2048) (hp : p + 3 < L) (hW : LW L xs σ st) (hB : σ.1.1 + 8 < azB) (next : LN R L xs p Q σ) : R 200 mL_law 334 [.ref (azB + 10), .ref 0, .ref 228, .int (nI p)] [] σ Q := by
  obtain ⟨⟨n, z, kd⟩, I, J, F⟩ := σ
  obtain ⟨hC, hM, hk, hx⟩ := id hW
  have hk : kd (azB + 10) = (15, L) := hk
  have hx : I (azB + 10) = xs := hx
  have k0 : (kd 0).1 = 8 := hC.1.1.1
  have k9 : (kd 228).1 = 9 := hM.1.1
  refine BL_law_334 (d := 199) hR ?_
  simp (disch := omega) only [nI_ad, nI_ml, nI_lti, nI_lei, nI_eqi, nI_nn, nI_0le, nI_eq0, nI_0lt, nI_le0, nI_clamp, nI_pd, nI_sb, zOf_some, zOp_some, zOp_none, kI_int, kL_long, kO_ref, kO_null, nlt_T, nlt_F, nle_T, nle_F, neq_F, vpT, azUp_at, if_true, if_false, true_and, and_true, true_implies, false_implies, implies_true, not_true_eq_false, not_false_eq_true, true_or, or_true, false_or, or_false, and_false, false_and, eq_self, n01_0, n01_1, nm1_0, hk, hx, k0]
  refine S_tnDrop hR hC fun σ1 c1 c2 => ?_
  obtain ⟨hM1, hk1, hx1⟩ := hW.cl c2
  have k91 : (σ1.1.2.2 228).1 = 9 := hM1.1.1
  simp (disch := omega) only [nI_ad, nI_ml, nI_lti, nI_lei, nI_eqi, nI_nn, nI_0le, nI_eq0, nI_0lt, nI_le0, nI_clamp, nI_pd, nI_sb, zOf_some, zOp_some, zOp_none, kI_int, kL_long, kO_ref, kO_null, nlt_T, nlt_F, nle_T, nle_F, neq_F, vpT, azUp_at, if_true, if_false, true_and, and_true, true_implies, false_implies, implies_true, not_true_eq_false, not_false_eq_true, true_or, or_true, false_or, or_false, and_false, false_and, eq_self, n01_0, n01_1, nm1_0, hk1, hx1, k91]
  refine S_mdDrop hR hM1 fun σ2 m1 m2 => ?_
  simp (disch := omega) only [nI_ad, nI_ml, nI_lti, nI_lei, nI_eqi, nI_nn, nI_0le, nI_eq0, nI_0lt, nI_le0, nI_clamp, nI_pd, nI_sb, zOf_some, zOp_some, zOp_none, kI_int, kL_long, kO_ref, kO_null, nlt_T, nlt_F, nle_T, nle_F, neq_F, vpT, azUp_at, if_true, if_false, true_and, and_true, true_implies, false_implies, implies_true, not_true_eq_false, not_false_eq_true, true_or, or_true, false_or, or_false, and_false, false_and, eq_self, n01_0, n01_1, nm1_0]
  exact next _ _ (LW.md c1 hk1 hx1 m1 m2) (by rw [m2.1]; exact c2.2.1) (by rw [m2.1]; exact c2.2.2.1)
theorem LC_357 (hR : azClosed R) (hL : L ≤ 2048) (hp : p + 3 < L) (hW : LW L xs σ st) (hB : σ.1.1 + 8 < azB) (next : LN R L xs p Q σ) : R 200 mL_law 357 [.ref (azB + 10), .ref 0, .ref 228, .int (nI p)] [] σ Q := by
  obtain ⟨⟨n, z, kd⟩, I, J, F⟩ := σ
  obtain ⟨hC, hM, hk, hx⟩ := id hW
  have hk : kd (azB + 10) = (15, L) := hk
  have hx : I (azB + 10) = xs := hx
  have k0 : (kd 0).1 = 8 := hC.1.1.1
  have k9 : (kd 228).1 = 9 := hM.1.1
  refine BL_law_357 (d := 199) hR ?_
  simp (disch := omega) only [nI_ad, nI_ml, nI_lti, nI_lei, nI_eqi, nI_nn, nI_0le, nI_eq0, nI_0lt, nI_le0, nI_clamp, nI_pd, nI_sb, zOf_some, zOp_some, zOp_none, kI_int, kL_long, kO_ref, kO_null, nlt_T, nlt_F, nle_T, nle_F, neq_F, vpT, azUp_at, if_true, if_false, true_and, and_true, true_implies, false_implies, implies_true, not_true_eq_false, not_false_eq_true, true_or, or_true, false_or, or_false, and_false, false_and, eq_self, n01_0, n01_1, nm1_0, hk, hx, k0]
  refine S_tnHas hR hC ?_
  simp (disch := omega) only [nI_ad, nI_ml, nI_lti, nI_lei, nI_eqi, nI_nn, nI_0le, nI_eq0, nI_0lt, nI_le0, nI_clamp, nI_pd, nI_sb, zOf_some, zOp_some, zOp_none, kI_int, kL_long, kO_ref, kO_null, nlt_T, nlt_F, nle_T, nle_F, neq_F, vpT, azUp_at, if_true, if_false, true_and, and_true, true_implies, false_implies, implies_true, not_true_eq_false, not_false_eq_true, true_or, or_true, false_or, or_false, and_false, false_and, eq_self, n01_0, n01_1, nm1_0, hk, hx, k9]
  refine S_mdHas hR hM fun σ2 m1 m2 => ?_
  simp (disch := omega) only [nI_ad, nI_ml, nI_lti, nI_lei, nI_eqi, nI_nn, nI_0le, nI_eq0, nI_0lt, nI_le0, nI_clamp, nI_pd, nI_sb, zOf_some, zOp_some, zOp_none, kI_int, kL_long, kO_ref, kO_null, nlt_T, nlt_F, nle_T, nle_F, neq_F, vpT, azUp_at, if_true, if_false, true_and, and_true, true_implies, false_implies, implies_true, not_true_eq_false, not_false_eq_true, true_or, or_true, false_or, or_false, and_false, false_and, eq_self, n01_0, n01_1, nm1_0]
  exact next _ _ (LW.md hC hk hx m1 m2) (by rw [m2.1]; exact Nat.le_add_right _ _) (by rw [m2.1]; exact Nat.le_add_right _ _)
theorem LC_390 (hR : azClosed R) (hL : L ≤ 2048) (hp : p + 3 < L) (hW : LW L xs σ st) (hB : σ.1.1 + 8 < azB) (next : LN R L xs p Q σ) : R 200 mL_law 390 [.ref (azB + 10), .ref 0, .ref 228, .int (nI p)] [] σ Q := by
  obtain ⟨⟨n, z, kd⟩, I, J, F⟩ := σ
  obtain ⟨hC, hM, hk, hx⟩ := id hW
  have hk : kd (azB + 10) = (15, L) := hk
  have hx : I (azB + 10) = xs := hx
  have k0 : (kd 0).1 = 8 := hC.1.1.1
  have k9 : (kd 228).1 = 9 := hM.1.1
  refine BL_law_390 (d := 199) hR ?_
  simp (disch := omega) only [nI_ad, nI_ml, nI_lti, nI_lei, nI_eqi, nI_nn, nI_0le, nI_eq0, nI_0lt, nI_le0, nI_clamp, nI_pd, nI_sb, zOf_some, zOp_some, zOp_none, kI_int, kL_long, kO_ref, kO_null, nlt_T, nlt_F, nle_T, nle_F, neq_F, vpT, azUp_at, if_true, if_false, true_and, and_true, true_implies, false_implies, implies_true, not_true_eq_false, not_false_eq_true, true_or, or_true, false_or, or_false, and_false, false_and, eq_self, n01_0, n01_1, nm1_0, hk, hx, k0]
  refine S_tnSpell hR hC fun σ1 c1 c2 => ?_
  obtain ⟨hM1, hk1, hx1⟩ := hW.cl c2
  have k91 : (σ1.1.2.2 228).1 = 9 := hM1.1.1
  simp (disch := omega) only [nI_ad, nI_ml, nI_lti, nI_lei, nI_eqi, nI_nn, nI_0le, nI_eq0, nI_0lt, nI_le0, nI_clamp, nI_pd, nI_sb, zOf_some, zOp_some, zOp_none, kI_int, kL_long, kO_ref, kO_null, nlt_T, nlt_F, nle_T, nle_F, neq_F, vpT, azUp_at, if_true, if_false, true_and, and_true, true_implies, false_implies, implies_true, not_true_eq_false, not_false_eq_true, true_or, or_true, false_or, or_false, and_false, false_and, eq_self, n01_0, n01_1, nm1_0, hk1, hx1, k91]
  refine S_mdSpell hR hM1 fun σ2 m1 m2 => ?_
  simp (disch := omega) only [nI_ad, nI_ml, nI_lti, nI_lei, nI_eqi, nI_nn, nI_0le, nI_eq0, nI_0lt, nI_le0, nI_clamp, nI_pd, nI_sb, zOf_some, zOp_some, zOp_none, kI_int, kL_long, kO_ref, kO_null, nlt_T, nlt_F, nle_T, nle_F, neq_F, vpT, azUp_at, if_true, if_false, true_and, and_true, true_implies, false_implies, implies_true, not_true_eq_false, not_false_eq_true, true_or, or_true, false_or, or_false, and_false, false_and, eq_self, n01_0, n01_1, nm1_0]
  exact next _ _ (LW.md c1 hk1 hx1 m1 m2) (by rw [m2.1]; exact c2.2.1) (by rw [m2.1]; exact c2.2.2.1)
theorem LC_413 (hR : azClosed R) (hL : L ≤ 2048) (hp : p + 3 < L) (hW : LW L xs σ st) (hB : σ.1.1 + 8 < azB) (next : LN R L xs p Q σ) : R 200 mL_law 413 [.ref (azB + 10), .ref 0, .ref 228, .int (nI p)] [] σ Q := by
  obtain ⟨⟨n, z, kd⟩, I, J, F⟩ := σ
  obtain ⟨hC, hM, hk, hx⟩ := id hW
  have hk : kd (azB + 10) = (15, L) := hk
  have hx : I (azB + 10) = xs := hx
  have k0 : (kd 0).1 = 8 := hC.1.1.1
  have k9 : (kd 228).1 = 9 := hM.1.1
  refine BL_law_413 (d := 199) hR ?_
  simp (disch := omega) only [nI_ad, nI_ml, nI_lti, nI_lei, nI_eqi, nI_nn, nI_0le, nI_eq0, nI_0lt, nI_le0, nI_clamp, nI_pd, nI_sb, zOf_some, zOp_some, zOp_none, kI_int, kL_long, kO_ref, kO_null, nlt_T, nlt_F, nle_T, nle_F, neq_F, vpT, azUp_at, if_true, if_false, true_and, and_true, true_implies, false_implies, implies_true, not_true_eq_false, not_false_eq_true, true_or, or_true, false_or, or_false, and_false, false_and, eq_self, n01_0, n01_1, nm1_0, hk, hx, k0]
  refine S_tnLine hR hC fun σ1 c1 c2 => ?_
  obtain ⟨hM1, hk1, hx1⟩ := hW.cl c2
  have k91 : (σ1.1.2.2 228).1 = 9 := hM1.1.1
  simp (disch := omega) only [nI_ad, nI_ml, nI_lti, nI_lei, nI_eqi, nI_nn, nI_0le, nI_eq0, nI_0lt, nI_le0, nI_clamp, nI_pd, nI_sb, zOf_some, zOp_some, zOp_none, kI_int, kL_long, kO_ref, kO_null, nlt_T, nlt_F, nle_T, nle_F, neq_F, vpT, azUp_at, if_true, if_false, true_and, and_true, true_implies, false_implies, implies_true, not_true_eq_false, not_false_eq_true, true_or, or_true, false_or, or_false, and_false, false_and, eq_self, n01_0, n01_1, nm1_0, hk1, hx1, k91]
  refine S_mdLine hR hM1 fun σ2 m1 m2 => ?_
  simp (disch := omega) only [nI_ad, nI_ml, nI_lti, nI_lei, nI_eqi, nI_nn, nI_0le, nI_eq0, nI_0lt, nI_le0, nI_clamp, nI_pd, nI_sb, zOf_some, zOp_some, zOp_none, kI_int, kL_long, kO_ref, kO_null, nlt_T, nlt_F, nle_T, nle_F, neq_F, vpT, azUp_at, if_true, if_false, true_and, and_true, true_implies, false_implies, implies_true, not_true_eq_false, not_false_eq_true, true_or, or_true, false_or, or_false, and_false, false_and, eq_self, n01_0, n01_1, nm1_0]
  exact next _ _ (LW.md c1 hk1 hx1 m1 m2) (by rw [m2.1]; exact c2.2.1) (by rw [m2.1]; exact c2.2.2.1)
theorem LC_426 (hR : azClosed R) (hL : L ≤ 2048) (hp : p + 3 < L) (hW : LW L xs σ st) (hB : σ.1.1 + 8 < azB) (next : LN R L xs p Q σ) : R 200 mL_law 426 [.ref (azB + 10), .ref 0, .ref 228, .int (nI p)] [] σ Q := by
  obtain ⟨⟨n, z, kd⟩, I, J, F⟩ := σ
  obtain ⟨hC, hM, hk, hx⟩ := id hW
  have hk : kd (azB + 10) = (15, L) := hk
  have hx : I (azB + 10) = xs := hx
  have k0 : (kd 0).1 = 8 := hC.1.1.1
  have k9 : (kd 228).1 = 9 := hM.1.1
  refine BL_law_426 (d := 199) hR ?_
  simp (disch := omega) only [nI_ad, nI_ml, nI_lti, nI_lei, nI_eqi, nI_nn, nI_0le, nI_eq0, nI_0lt, nI_le0, nI_clamp, nI_pd, nI_sb, zOf_some, zOp_some, zOp_none, kI_int, kL_long, kO_ref, kO_null, nlt_T, nlt_F, nle_T, nle_F, neq_F, vpT, azUp_at, if_true, if_false, true_and, and_true, true_implies, false_implies, implies_true, not_true_eq_false, not_false_eq_true, true_or, or_true, false_or, or_false, and_false, false_and, eq_self, n01_0, n01_1, nm1_0, hk, hx, k0]
  refine S_tnPaper hR hC ?_
  simp (disch := omega) only [nI_ad, nI_ml, nI_lti, nI_lei, nI_eqi, nI_nn, nI_0le, nI_eq0, nI_0lt, nI_le0, nI_clamp, nI_pd, nI_sb, zOf_some, zOp_some, zOp_none, kI_int, kL_long, kO_ref, kO_null, nlt_T, nlt_F, nle_T, nle_F, neq_F, vpT, azUp_at, if_true, if_false, true_and, and_true, true_implies, false_implies, implies_true, not_true_eq_false, not_false_eq_true, true_or, or_true, false_or, or_false, and_false, false_and, eq_self, n01_0, n01_1, nm1_0, hk, hx, k9]
  refine S_mdPaper hR hM ?_
  simp (disch := omega) only [nI_ad, nI_ml, nI_lti, nI_lei, nI_eqi, nI_nn, nI_0le, nI_eq0, nI_0lt, nI_le0, nI_clamp, nI_pd, nI_sb, zOf_some, zOp_some, zOp_none, kI_int, kL_long, kO_ref, kO_null, nlt_T, nlt_F, nle_T, nle_F, neq_F, vpT, azUp_at, if_true, if_false, true_and, and_true, true_implies, false_implies, implies_true, not_true_eq_false, not_false_eq_true, true_or, or_true, false_or, or_false, and_false, false_and, eq_self, n01_0, n01_1, nm1_0]
  exact next _ _ hW (Nat.le_add_right _ _) (Nat.le_add_right _ _)
theorem LC_449 (hR : azClosed R) (hL : L ≤ 2048) (hp : p + 3 < L) (hW : LW L xs σ st) (hB : σ.1.1 + 8 < azB) (next : LN R L xs p Q σ) : R 200 mL_law 449 [.ref (azB + 10), .ref 0, .ref 228, .int (nI p)] [] σ Q := by
  obtain ⟨⟨n, z, kd⟩, I, J, F⟩ := σ
  obtain ⟨hC, hM, hk, hx⟩ := id hW
  have hk : kd (azB + 10) = (15, L) := hk
  have hx : I (azB + 10) = xs := hx
  have k0 : (kd 0).1 = 8 := hC.1.1.1
  have k9 : (kd 228).1 = 9 := hM.1.1
  refine BL_law_449 (d := 199) hR ?_
  simp (disch := omega) only [nI_ad, nI_ml, nI_lti, nI_lei, nI_eqi, nI_nn, nI_0le, nI_eq0, nI_0lt, nI_le0, nI_clamp, nI_pd, nI_sb, zOf_some, zOp_some, zOp_none, kI_int, kL_long, kO_ref, kO_null, nlt_T, nlt_F, nle_T, nle_F, neq_F, vpT, azUp_at, if_true, if_false, true_and, and_true, true_implies, false_implies, implies_true, not_true_eq_false, not_false_eq_true, true_or, or_true, false_or, or_false, and_false, false_and, eq_self, n01_0, n01_1, nm1_0, hk, hx, k0]
  refine S_tnCan hR hC fun σ1 c1 c2 => ?_
  obtain ⟨hM1, hk1, hx1⟩ := hW.cl c2
  have k91 : (σ1.1.2.2 228).1 = 9 := hM1.1.1
  simp (disch := omega) only [nI_ad, nI_ml, nI_lti, nI_lei, nI_eqi, nI_nn, nI_0le, nI_eq0, nI_0lt, nI_le0, nI_clamp, nI_pd, nI_sb, zOf_some, zOp_some, zOp_none, kI_int, kL_long, kO_ref, kO_null, nlt_T, nlt_F, nle_T, nle_F, neq_F, vpT, azUp_at, if_true, if_false, true_and, and_true, true_implies, false_implies, implies_true, not_true_eq_false, not_false_eq_true, true_or, or_true, false_or, or_false, and_false, false_and, eq_self, n01_0, n01_1, nm1_0, hk1, hx1, k91]
  refine S_mdCan hR hM1 fun σ2 m1 m2 => ?_
  simp (disch := omega) only [nI_ad, nI_ml, nI_lti, nI_lei, nI_eqi, nI_nn, nI_0le, nI_eq0, nI_0lt, nI_le0, nI_clamp, nI_pd, nI_sb, zOf_some, zOp_some, zOp_none, kI_int, kL_long, kO_ref, kO_null, nlt_T, nlt_F, nle_T, nle_F, neq_F, vpT, azUp_at, if_true, if_false, true_and, and_true, true_implies, false_implies, implies_true, not_true_eq_false, not_false_eq_true, true_or, or_true, false_or, or_false, and_false, false_and, eq_self, n01_0, n01_1, nm1_0]
  exact next _ _ (LW.md c1 hk1 hx1 m1 m2) (by rw [m2.1]; exact c2.2.1) (by rw [m2.1]; exact c2.2.2.1)
theorem LC_472 (hR : azClosed R) (hL : L ≤ 2048) (hp : p + 3 < L) (hW : LW L xs σ st) (hB : σ.1.1 + 8 < azB) (next : LN R L xs p Q σ) : R 200 mL_law 472 [.ref (azB + 10), .ref 0, .ref 228, .int (nI p)] [] σ Q := by
  obtain ⟨⟨n, z, kd⟩, I, J, F⟩ := σ
  obtain ⟨hC, hM, hk, hx⟩ := id hW
  have hk : kd (azB + 10) = (15, L) := hk
  have hx : I (azB + 10) = xs := hx
  have k0 : (kd 0).1 = 8 := hC.1.1.1
  have k9 : (kd 228).1 = 9 := hM.1.1
  refine BL_law_472 (d := 199) hR ?_
  simp (disch := omega) only [nI_ad, nI_ml, nI_lti, nI_lei, nI_eqi, nI_nn, nI_0le, nI_eq0, nI_0lt, nI_le0, nI_clamp, nI_pd, nI_sb, zOf_some, zOp_some, zOp_none, kI_int, kL_long, kO_ref, kO_null, nlt_T, nlt_F, nle_T, nle_F, neq_F, vpT, azUp_at, if_true, if_false, true_and, and_true, true_implies, false_implies, implies_true, not_true_eq_false, not_false_eq_true, true_or, or_true, false_or, or_false, and_false, false_and, eq_self, n01_0, n01_1, nm1_0, hk, hx, k0]
  refine S_tnBound hR hC fun σ1 c1 c2 => ?_
  obtain ⟨hM1, hk1, hx1⟩ := hW.cl c2
  have k91 : (σ1.1.2.2 228).1 = 9 := hM1.1.1
  simp (disch := omega) only [nI_ad, nI_ml, nI_lti, nI_lei, nI_eqi, nI_nn, nI_0le, nI_eq0, nI_0lt, nI_le0, nI_clamp, nI_pd, nI_sb, zOf_some, zOp_some, zOp_none, kI_int, kL_long, kO_ref, kO_null, nlt_T, nlt_F, nle_T, nle_F, neq_F, vpT, azUp_at, if_true, if_false, true_and, and_true, true_implies, false_implies, implies_true, not_true_eq_false, not_false_eq_true, true_or, or_true, false_or, or_false, and_false, false_and, eq_self, n01_0, n01_1, nm1_0, hk1, hx1, k91]
  refine S_mdBound hR hM1 fun σ2 m1 m2 => ?_
  simp (disch := omega) only [nI_ad, nI_ml, nI_lti, nI_lei, nI_eqi, nI_nn, nI_0le, nI_eq0, nI_0lt, nI_le0, nI_clamp, nI_pd, nI_sb, zOf_some, zOp_some, zOp_none, kI_int, kL_long, kO_ref, kO_null, nlt_T, nlt_F, nle_T, nle_F, neq_F, vpT, azUp_at, if_true, if_false, true_and, and_true, true_implies, false_implies, implies_true, not_true_eq_false, not_false_eq_true, true_or, or_true, false_or, or_false, and_false, false_and, eq_self, n01_0, n01_1, nm1_0]
  exact next _ _ (LW.md c1 hk1 hx1 m1 m2) (by rw [m2.1]; exact c2.2.1) (by rw [m2.1]; exact c2.2.2.1)
theorem LC_505 (hR : azClosed R) (hL : L ≤ 2048) (hp : p + 3 < L) (hW : LW L xs σ st) (hB : σ.1.1 + 8 < azB) (next : LN R L xs p Q σ) : R 200 mL_law 505 [.ref (azB + 10), .ref 0, .ref 228, .int (nI p)] [] σ Q := by
  obtain ⟨⟨n, z, kd⟩, I, J, F⟩ := σ
  obtain ⟨hC, hM, hk, hx⟩ := id hW
  have hk : kd (azB + 10) = (15, L) := hk
  have hx : I (azB + 10) = xs := hx
  have k0 : (kd 0).1 = 8 := hC.1.1.1
  have k9 : (kd 228).1 = 9 := hM.1.1
  refine BL_law_505 (d := 199) hR ?_
  simp (disch := omega) only [nI_ad, nI_ml, nI_lti, nI_lei, nI_eqi, nI_nn, nI_0le, nI_eq0, nI_0lt, nI_le0, nI_clamp, nI_pd, nI_sb, zOf_some, zOp_some, zOp_none, kI_int, kL_long, kO_ref, kO_null, nlt_T, nlt_F, nle_T, nle_F, neq_F, vpT, azUp_at, if_true, if_false, true_and, and_true, true_implies, false_implies, implies_true, not_true_eq_false, not_false_eq_true, true_or, or_true, false_or, or_false, and_false, false_and, eq_self, n01_0, n01_1, nm1_0, hk, hx, k0]
  refine S_tnBindings hR hC fun σ1 c1 c2 => ?_
  obtain ⟨hM1, hk1, hx1⟩ := hW.cl c2
  have k91 : (σ1.1.2.2 228).1 = 9 := hM1.1.1
  simp (disch := omega) only [nI_ad, nI_ml, nI_lti, nI_lei, nI_eqi, nI_nn, nI_0le, nI_eq0, nI_0lt, nI_le0, nI_clamp, nI_pd, nI_sb, zOf_some, zOp_some, zOp_none, kI_int, kL_long, kO_ref, kO_null, nlt_T, nlt_F, nle_T, nle_F, neq_F, vpT, azUp_at, if_true, if_false, true_and, and_true, true_implies, false_implies, implies_true, not_true_eq_false, not_false_eq_true, true_or, or_true, false_or, or_false, and_false, false_and, eq_self, n01_0, n01_1, nm1_0, hk1, hx1, k91]
  refine S_mdBindings hR hM1 fun σ2 m1 m2 => ?_
  simp (disch := omega) only [nI_ad, nI_ml, nI_lti, nI_lei, nI_eqi, nI_nn, nI_0le, nI_eq0, nI_0lt, nI_le0, nI_clamp, nI_pd, nI_sb, zOf_some, zOp_some, zOp_none, kI_int, kL_long, kO_ref, kO_null, nlt_T, nlt_F, nle_T, nle_F, neq_F, vpT, azUp_at, if_true, if_false, true_and, and_true, true_implies, false_implies, implies_true, not_true_eq_false, not_false_eq_true, true_or, or_true, false_or, or_false, and_false, false_and, eq_self, n01_0, n01_1, nm1_0]
  exact next _ _ (LW.md c1 hk1 hx1 m1 m2) (by rw [m2.1]; exact c2.2.1) (by rw [m2.1]; exact c2.2.2.1)
theorem LC_528 (hR : azClosed R) (hL : L ≤ 2048) (hp : p + 3 < L) (hW : LW L xs σ st) (hB : σ.1.1 + 8 < azB) (next : LN R L xs p Q σ) : R 200 mL_law 528 [.ref (azB + 10), .ref 0, .ref 228, .int (nI p)] [] σ Q := by
  obtain ⟨⟨n, z, kd⟩, I, J, F⟩ := σ
  obtain ⟨hC, hM, hk, hx⟩ := id hW
  have hk : kd (azB + 10) = (15, L) := hk
  have hx : I (azB + 10) = xs := hx
  have k0 : (kd 0).1 = 8 := hC.1.1.1
  have k9 : (kd 228).1 = 9 := hM.1.1
  refine BL_law_528 (d := 199) hR ?_
  simp (disch := omega) only [nI_ad, nI_ml, nI_lti, nI_lei, nI_eqi, nI_nn, nI_0le, nI_eq0, nI_0lt, nI_le0, nI_clamp, nI_pd, nI_sb, zOf_some, zOp_some, zOp_none, kI_int, kL_long, kO_ref, kO_null, nlt_T, nlt_F, nle_T, nle_F, neq_F, vpT, azUp_at, if_true, if_false, true_and, and_true, true_implies, false_implies, implies_true, not_true_eq_false, not_false_eq_true, true_or, or_true, false_or, or_false, and_false, false_and, eq_self, n01_0, n01_1, nm1_0, hk, hx, k0]
  refine S_tnGo hR hC fun σ1 c1 c2 => ?_
  obtain ⟨hM1, hk1, hx1⟩ := hW.cl c2
  have k91 : (σ1.1.2.2 228).1 = 9 := hM1.1.1
  simp (disch := omega) only [nI_ad, nI_ml, nI_lti, nI_lei, nI_eqi, nI_nn, nI_0le, nI_eq0, nI_0lt, nI_le0, nI_clamp, nI_pd, nI_sb, zOf_some, zOp_some, zOp_none, kI_int, kL_long, kO_ref, kO_null, nlt_T, nlt_F, nle_T, nle_F, neq_F, vpT, azUp_at, if_true, if_false, true_and, and_true, true_implies, false_implies, implies_true, not_true_eq_false, not_false_eq_true, true_or, or_true, false_or, or_false, and_false, false_and, eq_self, n01_0, n01_1, nm1_0, hk1, hx1, k91]
  refine S_mdGo hR hM1 fun σ2 m1 m2 => ?_
  simp (disch := omega) only [nI_ad, nI_ml, nI_lti, nI_lei, nI_eqi, nI_nn, nI_0le, nI_eq0, nI_0lt, nI_le0, nI_clamp, nI_pd, nI_sb, zOf_some, zOp_some, zOp_none, kI_int, kL_long, kO_ref, kO_null, nlt_T, nlt_F, nle_T, nle_F, neq_F, vpT, azUp_at, if_true, if_false, true_and, and_true, true_implies, false_implies, implies_true, not_true_eq_false, not_false_eq_true, true_or, or_true, false_or, or_false, and_false, false_and, eq_self, n01_0, n01_1, nm1_0]
  exact next _ _ (LW.md c1 hk1 hx1 m1 m2) (by rw [m2.1]; exact c2.2.1) (by rw [m2.1]; exact c2.2.2.1)
theorem LC_551 (hR : azClosed R) (hL : L ≤ 2048) (hp : p + 3 < L) (hW : LW L xs σ st) (hB : σ.1.1 + 8 < azB) (next : LN R L xs p Q σ) : R 200 mL_law 551 [.ref (azB + 10), .ref 0, .ref 228, .int (nI p)] [] σ Q := by
  obtain ⟨⟨n, z, kd⟩, I, J, F⟩ := σ
  obtain ⟨hC, hM, hk, hx⟩ := id hW
  have hk : kd (azB + 10) = (15, L) := hk
  have hx : I (azB + 10) = xs := hx
  have k0 : (kd 0).1 = 8 := hC.1.1.1
  have k9 : (kd 228).1 = 9 := hM.1.1
  refine BL_law_551 (d := 199) hR ?_
  simp (disch := omega) only [nI_ad, nI_ml, nI_lti, nI_lei, nI_eqi, nI_nn, nI_0le, nI_eq0, nI_0lt, nI_le0, nI_clamp, nI_pd, nI_sb, zOf_some, zOp_some, zOp_none, kI_int, kL_long, kO_ref, kO_null, nlt_T, nlt_F, nle_T, nle_F, neq_F, vpT, azUp_at, if_true, if_false, true_and, and_true, true_implies, false_implies, implies_true, not_true_eq_false, not_false_eq_true, true_or, or_true, false_or, or_false, and_false, false_and, eq_self, n01_0, n01_1, nm1_0, hk, hx, k0]
  refine S_tnAll hR hC fun σ1 c1 c2 => ?_
  obtain ⟨hM1, hk1, hx1⟩ := hW.cl c2
  have k91 : (σ1.1.2.2 228).1 = 9 := hM1.1.1
  simp (disch := omega) only [nI_ad, nI_ml, nI_lti, nI_lei, nI_eqi, nI_nn, nI_0le, nI_eq0, nI_0lt, nI_le0, nI_clamp, nI_pd, nI_sb, zOf_some, zOp_some, zOp_none, kI_int, kL_long, kO_ref, kO_null, nlt_T, nlt_F, nle_T, nle_F, neq_F, vpT, azUp_at, if_true, if_false, true_and, and_true, true_implies, false_implies, implies_true, not_true_eq_false, not_false_eq_true, true_or, or_true, false_or, or_false, and_false, false_and, eq_self, n01_0, n01_1, nm1_0, hk1, hx1, k91]
  refine S_mdAll hR hM1 fun σ2 m1 m2 => ?_
  simp (disch := omega) only [nI_ad, nI_ml, nI_lti, nI_lei, nI_eqi, nI_nn, nI_0le, nI_eq0, nI_0lt, nI_le0, nI_clamp, nI_pd, nI_sb, zOf_some, zOp_some, zOp_none, kI_int, kL_long, kO_ref, kO_null, nlt_T, nlt_F, nle_T, nle_F, neq_F, vpT, azUp_at, if_true, if_false, true_and, and_true, true_implies, false_implies, implies_true, not_true_eq_false, not_false_eq_true, true_or, or_true, false_or, or_false, and_false, false_and, eq_self, n01_0, n01_1, nm1_0]
  exact next _ _ (LW.md c1 hk1 hx1 m1 m2) (by rw [m2.1]; exact c2.2.1) (by rw [m2.1]; exact c2.2.2.1)
theorem LC_564 (hR : azClosed R) (hL : L ≤ 2048) (hp : p + 3 < L) (hW : LW L xs σ st) (hB : σ.1.1 + 8 < azB) (next : LN R L xs p Q σ) : R 200 mL_law 564 [.ref (azB + 10), .ref 0, .ref 228, .int (nI p)] [] σ Q := by
  obtain ⟨⟨n, z, kd⟩, I, J, F⟩ := σ
  obtain ⟨hC, hM, hk, hx⟩ := id hW
  have hk : kd (azB + 10) = (15, L) := hk
  have hx : I (azB + 10) = xs := hx
  have k0 : (kd 0).1 = 8 := hC.1.1.1
  have k9 : (kd 228).1 = 9 := hM.1.1
  refine BL_law_564 (d := 199) hR ?_
  simp (disch := omega) only [nI_ad, nI_ml, nI_lti, nI_lei, nI_eqi, nI_nn, nI_0le, nI_eq0, nI_0lt, nI_le0, nI_clamp, nI_pd, nI_sb, zOf_some, zOp_some, zOp_none, kI_int, kL_long, kO_ref, kO_null, nlt_T, nlt_F, nle_T, nle_F, neq_F, vpT, azUp_at, if_true, if_false, true_and, and_true, true_implies, false_implies, implies_true, not_true_eq_false, not_false_eq_true, true_or, or_true, false_or, or_false, and_false, false_and, eq_self, n01_0, n01_1, nm1_0, hk, hx, k0]
  refine S_tnAgain hR hC fun σ1 c1 c2 => ?_
  obtain ⟨hM1, hk1, hx1⟩ := hW.cl c2
  have k91 : (σ1.1.2.2 228).1 = 9 := hM1.1.1
  simp (disch := omega) only [nI_ad, nI_ml, nI_lti, nI_lei, nI_eqi, nI_nn, nI_0le, nI_eq0, nI_0lt, nI_le0, nI_clamp, nI_pd, nI_sb, zOf_some, zOp_some, zOp_none, kI_int, kL_long, kO_ref, kO_null, nlt_T, nlt_F, nle_T, nle_F, neq_F, vpT, azUp_at, if_true, if_false, true_and, and_true, true_implies, false_implies, implies_true, not_true_eq_false, not_false_eq_true, true_or, or_true, false_or, or_false, and_false, false_and, eq_self, n01_0, n01_1, nm1_0, hk1, hx1, k91]
  refine S_mdAgain hR hM1 fun σ2 m1 m2 => ?_
  simp (disch := omega) only [nI_ad, nI_ml, nI_lti, nI_lei, nI_eqi, nI_nn, nI_0le, nI_eq0, nI_0lt, nI_le0, nI_clamp, nI_pd, nI_sb, zOf_some, zOp_some, zOp_none, kI_int, kL_long, kO_ref, kO_null, nlt_T, nlt_F, nle_T, nle_F, neq_F, vpT, azUp_at, if_true, if_false, true_and, and_true, true_implies, false_implies, implies_true, not_true_eq_false, not_false_eq_true, true_or, or_true, false_or, or_false, and_false, false_and, eq_self, n01_0, n01_1, nm1_0]
  exact next _ _ (LW.md c1 hk1 hx1 m1 m2) (by rw [m2.1]; exact c2.2.1) (by rw [m2.1]; exact c2.2.2.1)
theorem LC_597 (hR : azClosed R) (hL : L ≤ 2048) (hp : p + 3 < L) (hW : LW L xs σ st) (hB : σ.1.1 + 8 < azB) (next : LN R L xs p Q σ) : R 200 mL_law 597 [.ref (azB + 10), .ref 0, .ref 228, .int (nI p)] [] σ Q := by
  obtain ⟨⟨n, z, kd⟩, I, J, F⟩ := σ
  obtain ⟨hC, hM, hk, hx⟩ := id hW
  have hk : kd (azB + 10) = (15, L) := hk
  have hx : I (azB + 10) = xs := hx
  have k0 : (kd 0).1 = 8 := hC.1.1.1
  have k9 : (kd 228).1 = 9 := hM.1.1
  refine BL_law_597 (d := 199) hR ?_
  simp (disch := omega) only [nI_ad, nI_ml, nI_lti, nI_lei, nI_eqi, nI_nn, nI_0le, nI_eq0, nI_0lt, nI_le0, nI_clamp, nI_pd, nI_sb, zOf_some, zOp_some, zOp_none, kI_int, kL_long, kO_ref, kO_null, nlt_T, nlt_F, nle_T, nle_F, neq_F, vpT, azUp_at, if_true, if_false, true_and, and_true, true_implies, false_implies, implies_true, not_true_eq_false, not_false_eq_true, true_or, or_true, false_or, or_false, and_false, false_and, eq_self, n01_0, n01_1, nm1_0, hk, hx, k0]
  refine S_tnLast hR hC fun σ1 c1 c2 => ?_
  obtain ⟨hM1, hk1, hx1⟩ := hW.cl c2
  have k91 : (σ1.1.2.2 228).1 = 9 := hM1.1.1
  simp (disch := omega) only [nI_ad, nI_ml, nI_lti, nI_lei, nI_eqi, nI_nn, nI_0le, nI_eq0, nI_0lt, nI_le0, nI_clamp, nI_pd, nI_sb, zOf_some, zOp_some, zOp_none, kI_int, kL_long, kO_ref, kO_null, nlt_T, nlt_F, nle_T, nle_F, neq_F, vpT, azUp_at, if_true, if_false, true_and, and_true, true_implies, false_implies, implies_true, not_true_eq_false, not_false_eq_true, true_or, or_true, false_or, or_false, and_false, false_and, eq_self, n01_0, n01_1, nm1_0, hk1, hx1, k91]
  refine S_mdLast hR hM1 fun σ2 m1 m2 => ?_
  simp (disch := omega) only [nI_ad, nI_ml, nI_lti, nI_lei, nI_eqi, nI_nn, nI_0le, nI_eq0, nI_0lt, nI_le0, nI_clamp, nI_pd, nI_sb, zOf_some, zOp_some, zOp_none, kI_int, kL_long, kO_ref, kO_null, nlt_T, nlt_F, nle_T, nle_F, neq_F, vpT, azUp_at, if_true, if_false, true_and, and_true, true_implies, false_implies, implies_true, not_true_eq_false, not_false_eq_true, true_or, or_true, false_or, or_false, and_false, false_and, eq_self, n01_0, n01_1, nm1_0]
  exact next _ _ (LW.md c1 hk1 hx1 m1 m2) (by rw [m2.1]; exact c2.2.1) (by rw [m2.1]; exact c2.2.2.1)
theorem LC_640 (hR : azClosed R) (hL : L ≤ 2048) (hp : p + 3 < L) (hW : LW L xs σ st) (hB : σ.1.1 + 8 < azB) (next : LN R L xs p Q σ) : R 200 mL_law 640 [.ref (azB + 10), .ref 0, .ref 228, .int (nI p)] [] σ Q := by
  obtain ⟨⟨n, z, kd⟩, I, J, F⟩ := σ
  obtain ⟨hC, hM, hk, hx⟩ := id hW
  have hk : kd (azB + 10) = (15, L) := hk
  have hx : I (azB + 10) = xs := hx
  have k0 : (kd 0).1 = 8 := hC.1.1.1
  have k9 : (kd 228).1 = 9 := hM.1.1
  refine BL_law_640 (d := 199) hR ?_
  simp (disch := omega) only [nI_ad, nI_ml, nI_lti, nI_lei, nI_eqi, nI_nn, nI_0le, nI_eq0, nI_0lt, nI_le0, nI_clamp, nI_pd, nI_sb, zOf_some, zOp_some, zOp_none, kI_int, kL_long, kO_ref, kO_null, nlt_T, nlt_F, nle_T, nle_F, neq_F, vpT, azUp_at, if_true, if_false, true_and, and_true, true_implies, false_implies, implies_true, not_true_eq_false, not_false_eq_true, true_or, or_true, false_or, or_false, and_false, false_and, eq_self, n01_0, n01_1, nm1_0, hk, hx, k0]
  refine S_tnReach hR hC fun σ1 c1 c2 => ?_
  obtain ⟨hM1, hk1, hx1⟩ := hW.cl c2
  have k91 : (σ1.1.2.2 228).1 = 9 := hM1.1.1
  simp (disch := omega) only [nI_ad, nI_ml, nI_lti, nI_lei, nI_eqi, nI_nn, nI_0le, nI_eq0, nI_0lt, nI_le0, nI_clamp, nI_pd, nI_sb, zOf_some, zOp_some, zOp_none, kI_int, kL_long, kO_ref, kO_null, nlt_T, nlt_F, nle_T, nle_F, neq_F, vpT, azUp_at, if_true, if_false, true_and, and_true, true_implies, false_implies, implies_true, not_true_eq_false, not_false_eq_true, true_or, or_true, false_or, or_false, and_false, false_and, eq_self, n01_0, n01_1, nm1_0, hk1, hx1, k91]
  refine S_mdReach hR hM1 fun σ2 m1 m2 => ?_
  simp (disch := omega) only [nI_ad, nI_ml, nI_lti, nI_lei, nI_eqi, nI_nn, nI_0le, nI_eq0, nI_0lt, nI_le0, nI_clamp, nI_pd, nI_sb, zOf_some, zOp_some, zOp_none, kI_int, kL_long, kO_ref, kO_null, nlt_T, nlt_F, nle_T, nle_F, neq_F, vpT, azUp_at, if_true, if_false, true_and, and_true, true_implies, false_implies, implies_true, not_true_eq_false, not_false_eq_true, true_or, or_true, false_or, or_false, and_false, false_and, eq_self, n01_0, n01_1, nm1_0]
  exact next _ _ (LW.md c1 hk1 hx1 m1 m2) (by rw [m2.1]; exact c2.2.1) (by rw [m2.1]; exact c2.2.2.1)
theorem LC_663 (hR : azClosed R) (hL : L ≤ 2048) (hp : p + 3 < L) (hW : LW L xs σ st) (hB : σ.1.1 + 8 < azB) (next : LN R L xs p Q σ) : R 200 mL_law 663 [.ref (azB + 10), .ref 0, .ref 228, .int (nI p)] [] σ Q := by
  obtain ⟨⟨n, z, kd⟩, I, J, F⟩ := σ
  obtain ⟨hC, hM, hk, hx⟩ := id hW
  have hk : kd (azB + 10) = (15, L) := hk
  have hx : I (azB + 10) = xs := hx
  have k0 : (kd 0).1 = 8 := hC.1.1.1
  have k9 : (kd 228).1 = 9 := hM.1.1
  refine BL_law_663 (d := 199) hR ?_
  simp (disch := omega) only [nI_ad, nI_ml, nI_lti, nI_lei, nI_eqi, nI_nn, nI_0le, nI_eq0, nI_0lt, nI_le0, nI_clamp, nI_pd, nI_sb, zOf_some, zOp_some, zOp_none, kI_int, kL_long, kO_ref, kO_null, nlt_T, nlt_F, nle_T, nle_F, neq_F, vpT, azUp_at, if_true, if_false, true_and, and_true, true_implies, false_implies, implies_true, not_true_eq_false, not_false_eq_true, true_or, or_true, false_or, or_false, and_false, false_and, eq_self, n01_0, n01_1, nm1_0, hk, hx, k0]
  refine S_tnMost hR hC fun σ1 c1 c2 => ?_
  obtain ⟨hM1, hk1, hx1⟩ := hW.cl c2
  have k91 : (σ1.1.2.2 228).1 = 9 := hM1.1.1
  simp (disch := omega) only [nI_ad, nI_ml, nI_lti, nI_lei, nI_eqi, nI_nn, nI_0le, nI_eq0, nI_0lt, nI_le0, nI_clamp, nI_pd, nI_sb, zOf_some, zOp_some, zOp_none, kI_int, kL_long, kO_ref, kO_null, nlt_T, nlt_F, nle_T, nle_F, neq_F, vpT, azUp_at, if_true, if_false, true_and, and_true, true_implies, false_implies, implies_true, not_true_eq_false, not_false_eq_true, true_or, or_true, false_or, or_false, and_false, false_and, eq_self, n01_0, n01_1, nm1_0, hk1, hx1, k91]
  refine S_mdMost hR hM1 fun σ2 m1 m2 => ?_
  simp (disch := omega) only [nI_ad, nI_ml, nI_lti, nI_lei, nI_eqi, nI_nn, nI_0le, nI_eq0, nI_0lt, nI_le0, nI_clamp, nI_pd, nI_sb, zOf_some, zOp_some, zOp_none, kI_int, kL_long, kO_ref, kO_null, nlt_T, nlt_F, nle_T, nle_F, neq_F, vpT, azUp_at, if_true, if_false, true_and, and_true, true_implies, false_implies, implies_true, not_true_eq_false, not_false_eq_true, true_or, or_true, false_or, or_false, and_false, false_and, eq_self, n01_0, n01_1, nm1_0]
  exact next _ _ (LW.md c1 hk1 hx1 m1 m2) (by rw [m2.1]; exact c2.2.1) (by rw [m2.1]; exact c2.2.2.1)
theorem LC_696 (hR : azClosed R) (hL : L ≤ 2048) (hp : p + 3 < L) (hW : LW L xs σ st) (hB : σ.1.1 + 8 < azB) (next : LN R L xs p Q σ) : R 200 mL_law 696 [.ref (azB + 10), .ref 0, .ref 228, .int (nI p)] [] σ Q := by
  obtain ⟨⟨n, z, kd⟩, I, J, F⟩ := σ
  obtain ⟨hC, hM, hk, hx⟩ := id hW
  have hk : kd (azB + 10) = (15, L) := hk
  have hx : I (azB + 10) = xs := hx
  have k0 : (kd 0).1 = 8 := hC.1.1.1
  have k9 : (kd 228).1 = 9 := hM.1.1
  refine BL_law_696 (d := 199) hR ?_
  simp (disch := omega) only [nI_ad, nI_ml, nI_lti, nI_lei, nI_eqi, nI_nn, nI_0le, nI_eq0, nI_0lt, nI_le0, nI_clamp, nI_pd, nI_sb, zOf_some, zOp_some, zOp_none, kI_int, kL_long, kO_ref, kO_null, nlt_T, nlt_F, nle_T, nle_F, neq_F, vpT, azUp_at, if_true, if_false, true_and, and_true, true_implies, false_implies, implies_true, not_true_eq_false, not_false_eq_true, true_or, or_true, false_or, or_false, and_false, false_and, eq_self, n01_0, n01_1, nm1_0, hk, hx, k0]
  refine S_tnDead hR hC fun σ1 c1 c2 => ?_
  obtain ⟨hM1, hk1, hx1⟩ := hW.cl c2
  have k91 : (σ1.1.2.2 228).1 = 9 := hM1.1.1
  simp (disch := omega) only [nI_ad, nI_ml, nI_lti, nI_lei, nI_eqi, nI_nn, nI_0le, nI_eq0, nI_0lt, nI_le0, nI_clamp, nI_pd, nI_sb, zOf_some, zOp_some, zOp_none, kI_int, kL_long, kO_ref, kO_null, nlt_T, nlt_F, nle_T, nle_F, neq_F, vpT, azUp_at, if_true, if_false, true_and, and_true, true_implies, false_implies, implies_true, not_true_eq_false, not_false_eq_true, true_or, or_true, false_or, or_false, and_false, false_and, eq_self, n01_0, n01_1, nm1_0, hk1, hx1, k91]
  refine S_mdDead hR hM1 fun σ2 m1 m2 => ?_
  simp (disch := omega) only [nI_ad, nI_ml, nI_lti, nI_lei, nI_eqi, nI_nn, nI_0le, nI_eq0, nI_0lt, nI_le0, nI_clamp, nI_pd, nI_sb, zOf_some, zOp_some, zOp_none, kI_int, kL_long, kO_ref, kO_null, nlt_T, nlt_F, nle_T, nle_F, neq_F, vpT, azUp_at, if_true, if_false, true_and, and_true, true_implies, false_implies, implies_true, not_true_eq_false, not_false_eq_true, true_or, or_true, false_or, or_false, and_false, false_and, eq_self, n01_0, n01_1, nm1_0]
  exact next _ _ (LW.md c1 hk1 hx1 m1 m2) (by rw [m2.1]; exact c2.2.1) (by rw [m2.1]; exact c2.2.2.1)
theorem LC_719 (hR : azClosed R) (hL : L ≤ 2048) (hp : p + 3 < L) (hW : LW L xs σ st) (hB : σ.1.1 + 8 < azB) (next : LN R L xs p Q σ) : R 200 mL_law 719 [.ref (azB + 10), .ref 0, .ref 228, .int (nI p)] [] σ Q := by
  obtain ⟨⟨n, z, kd⟩, I, J, F⟩ := σ
  obtain ⟨hC, hM, hk, hx⟩ := id hW
  have hk : kd (azB + 10) = (15, L) := hk
  have hx : I (azB + 10) = xs := hx
  have k0 : (kd 0).1 = 8 := hC.1.1.1
  have k9 : (kd 228).1 = 9 := hM.1.1
  refine BL_law_719 (d := 199) hR ?_
  simp (disch := omega) only [nI_ad, nI_ml, nI_lti, nI_lei, nI_eqi, nI_nn, nI_0le, nI_eq0, nI_0lt, nI_le0, nI_clamp, nI_pd, nI_sb, zOf_some, zOp_some, zOp_none, kI_int, kL_long, kO_ref, kO_null, nlt_T, nlt_F, nle_T, nle_F, neq_F, vpT, azUp_at, if_true, if_false, true_and, and_true, true_implies, false_implies, implies_true, not_true_eq_false, not_false_eq_true, true_or, or_true, false_or, or_false, and_false, false_and, eq_self, n01_0, n01_1, nm1_0, hk, hx, k0]
  refine S_tnEnds hR hC fun σ1 c1 c2 => ?_
  obtain ⟨hM1, hk1, hx1⟩ := hW.cl c2
  have k91 : (σ1.1.2.2 228).1 = 9 := hM1.1.1
  simp (disch := omega) only [nI_ad, nI_ml, nI_lti, nI_lei, nI_eqi, nI_nn, nI_0le, nI_eq0, nI_0lt, nI_le0, nI_clamp, nI_pd, nI_sb, zOf_some, zOp_some, zOp_none, kI_int, kL_long, kO_ref, kO_null, nlt_T, nlt_F, nle_T, nle_F, neq_F, vpT, azUp_at, if_true, if_false, true_and, and_true, true_implies, false_implies, implies_true, not_true_eq_false, not_false_eq_true, true_or, or_true, false_or, or_false, and_false, false_and, eq_self, n01_0, n01_1, nm1_0, hk1, hx1, k91]
  refine S_mdEnds hR hM1 fun σ2 m1 m2 => ?_
  simp (disch := omega) only [nI_ad, nI_ml, nI_lti, nI_lei, nI_eqi, nI_nn, nI_0le, nI_eq0, nI_0lt, nI_le0, nI_clamp, nI_pd, nI_sb, zOf_some, zOp_some, zOp_none, kI_int, kL_long, kO_ref, kO_null, nlt_T, nlt_F, nle_T, nle_F, neq_F, vpT, azUp_at, if_true, if_false, true_and, and_true, true_implies, false_implies, implies_true, not_true_eq_false, not_false_eq_true, true_or, or_true, false_or, or_false, and_false, false_and, eq_self, n01_0, n01_1, nm1_0]
  exact next _ _ (LW.md c1 hk1 hx1 m1 m2) (by rw [m2.1]; exact c2.2.1) (by rw [m2.1]; exact c2.2.2.1)
theorem LC_742 (hR : azClosed R) (hL : L ≤ 2048) (hp : p + 3 < L) (hW : LW L xs σ st) (hB : σ.1.1 + 8 < azB) (next : LN R L xs p Q σ) : R 200 mL_law 742 [.ref (azB + 10), .ref 0, .ref 228, .int (nI p)] [] σ Q := by
  obtain ⟨⟨n, z, kd⟩, I, J, F⟩ := σ
  obtain ⟨hC, hM, hk, hx⟩ := id hW
  have hk : kd (azB + 10) = (15, L) := hk
  have hx : I (azB + 10) = xs := hx
  have k0 : (kd 0).1 = 8 := hC.1.1.1
  have k9 : (kd 228).1 = 9 := hM.1.1
  refine BL_law_742 (d := 199) hR ?_
  simp (disch := omega) only [nI_ad, nI_ml, nI_lti, nI_lei, nI_eqi, nI_nn, nI_0le, nI_eq0, nI_0lt, nI_le0, nI_clamp, nI_pd, nI_sb, zOf_some, zOp_some, zOp_none, kI_int, kL_long, kO_ref, kO_null, nlt_T, nlt_F, nle_T, nle_F, neq_F, vpT, azUp_at, if_true, if_false, true_and, and_true, true_implies, false_implies, implies_true, not_true_eq_false, not_false_eq_true, true_or, or_true, false_or, or_false, and_false, false_and, eq_self, n01_0, n01_1, nm1_0, hk, hx, k0]
  refine S_tnStuck hR hC fun σ1 v c0 c1 c2 => ?_
  obtain ⟨hM1, hk1, hx1⟩ := hW.cl c2
  have k91 : (σ1.1.2.2 228).1 = 9 := hM1.1.1
  simp (disch := omega) only [nI_ad, nI_ml, nI_lti, nI_lei, nI_eqi, nI_nn, nI_0le, nI_eq0, nI_0lt, nI_le0, nI_clamp, nI_pd, nI_sb, zOf_some, zOp_some, zOp_none, kI_int, kL_long, kO_ref, kO_null, nlt_T, nlt_F, nle_T, nle_F, neq_F, vpT, azUp_at, if_true, if_false, true_and, and_true, true_implies, false_implies, implies_true, not_true_eq_false, not_false_eq_true, true_or, or_true, false_or, or_false, and_false, false_and, eq_self, n01_0, n01_1, nm1_0, hk1, hx1, k91]
  refine S_mdStuck hR hM1 fun σ2 v2 m0 m1 m2 => ?_
  rw [kI_int]
  have e : v = v2 := aStuck_eq c0 m0
  refine ⟨fun _ => ?_, fun e2 => absurd e e2⟩
  exact next _ _ (LW.md c1 hk1 hx1 m1 m2) (by rw [m2.1]; exact c2.2.1) (by rw [m2.1]; exact c2.2.2.1)
theorem LC_765 (hR : azClosed R) (hL : L ≤ 2048) (hp : p + 3 < L) (hW : LW L xs σ st) (hB : σ.1.1 + 8 < azB) (next : LN R L xs p Q σ) : R 200 mL_law 765 [.ref (azB + 10), .ref 0, .ref 228, .int (nI p)] [] σ Q := by
  obtain ⟨⟨n, z, kd⟩, I, J, F⟩ := σ
  obtain ⟨hC, hM, hk, hx⟩ := id hW
  have hk : kd (azB + 10) = (15, L) := hk
  have hx : I (azB + 10) = xs := hx
  have k0 : (kd 0).1 = 8 := hC.1.1.1
  have k9 : (kd 228).1 = 9 := hM.1.1
  refine BL_law_765 (d := 199) hR ?_
  simp (disch := omega) only [nI_ad, nI_ml, nI_lti, nI_lei, nI_eqi, nI_nn, nI_0le, nI_eq0, nI_0lt, nI_le0, nI_clamp, nI_pd, nI_sb, zOf_some, zOp_some, zOp_none, kI_int, kL_long, kO_ref, kO_null, nlt_T, nlt_F, nle_T, nle_F, neq_F, vpT, azUp_at, if_true, if_false, true_and, and_true, true_implies, false_implies, implies_true, not_true_eq_false, not_false_eq_true, true_or, or_true, false_or, or_false, and_false, false_and, eq_self, n01_0, n01_1, nm1_0, hk, hx, k0]
  refine S_tnWalk hR hC fun σ1 c1 c2 => ?_
  obtain ⟨hM1, hk1, hx1⟩ := hW.cl c2
  have k91 : (σ1.1.2.2 228).1 = 9 := hM1.1.1
  simp (disch := omega) only [nI_ad, nI_ml, nI_lti, nI_lei, nI_eqi, nI_nn, nI_0le, nI_eq0, nI_0lt, nI_le0, nI_clamp, nI_pd, nI_sb, zOf_some, zOp_some, zOp_none, kI_int, kL_long, kO_ref, kO_null, nlt_T, nlt_F, nle_T, nle_F, neq_F, vpT, azUp_at, if_true, if_false, true_and, and_true, true_implies, false_implies, implies_true, not_true_eq_false, not_false_eq_true, true_or, or_true, false_or, or_false, and_false, false_and, eq_self, n01_0, n01_1, nm1_0, hk1, hx1, k91]
  refine S_mdWalk hR hM1 fun σ2 m1 m2 => ?_
  simp (disch := omega) only [nI_ad, nI_ml, nI_lti, nI_lei, nI_eqi, nI_nn, nI_0le, nI_eq0, nI_0lt, nI_le0, nI_clamp, nI_pd, nI_sb, zOf_some, zOp_some, zOp_none, kI_int, kL_long, kO_ref, kO_null, nlt_T, nlt_F, nle_T, nle_F, neq_F, vpT, azUp_at, if_true, if_false, true_and, and_true, true_implies, false_implies, implies_true, not_true_eq_false, not_false_eq_true, true_or, or_true, false_or, or_false, and_false, false_and, eq_self, n01_0, n01_1, nm1_0]
  exact next _ _ (LW.md c1 hk1 hx1 m1 m2) (by rw [m2.1]; exact c2.2.1) (by rw [m2.1]; exact c2.2.2.1)
theorem LC_808 (hR : azClosed R) (hL : L ≤ 2048) (hp : p + 3 < L) (hW : LW L xs σ st) (hB : σ.1.1 + 8 < azB) (next : LN R L xs p Q σ) : R 200 mL_law 808 [.ref (azB + 10), .ref 0, .ref 228, .int (nI p)] [] σ Q := by
  obtain ⟨⟨n, z, kd⟩, I, J, F⟩ := σ
  obtain ⟨hC, hM, hk, hx⟩ := id hW
  have hk : kd (azB + 10) = (15, L) := hk
  have hx : I (azB + 10) = xs := hx
  have k0 : (kd 0).1 = 8 := hC.1.1.1
  have k9 : (kd 228).1 = 9 := hM.1.1
  refine BL_law_808 (d := 199) hR ?_
  simp (disch := omega) only [nI_ad, nI_ml, nI_lti, nI_lei, nI_eqi, nI_nn, nI_0le, nI_eq0, nI_0lt, nI_le0, nI_clamp, nI_pd, nI_sb, zOf_some, zOp_some, zOp_none, kI_int, kL_long, kO_ref, kO_null, nlt_T, nlt_F, nle_T, nle_F, neq_F, vpT, azUp_at, if_true, if_false, true_and, and_true, true_implies, false_implies, implies_true, not_true_eq_false, not_false_eq_true, true_or, or_true, false_or, or_false, and_false, false_and, eq_self, n01_0, n01_1, nm1_0, hk, hx, k0]
  refine S_tnHeld hR hC fun σ1 c1 c2 => ?_
  obtain ⟨hM1, hk1, hx1⟩ := hW.cl c2
  have k91 : (σ1.1.2.2 228).1 = 9 := hM1.1.1
  simp (disch := omega) only [nI_ad, nI_ml, nI_lti, nI_lei, nI_eqi, nI_nn, nI_0le, nI_eq0, nI_0lt, nI_le0, nI_clamp, nI_pd, nI_sb, zOf_some, zOp_some, zOp_none, kI_int, kL_long, kO_ref, kO_null, nlt_T, nlt_F, nle_T, nle_F, neq_F, vpT, azUp_at, if_true, if_false, true_and, and_true, true_implies, false_implies, implies_true, not_true_eq_false, not_false_eq_true, true_or, or_true, false_or, or_false, and_false, false_and, eq_self, n01_0, n01_1, nm1_0, hk1, hx1, k91]
  refine S_mdHeld hR hM1 fun σ2 m1 m2 => ?_
  simp (disch := omega) only [nI_ad, nI_ml, nI_lti, nI_lei, nI_eqi, nI_nn, nI_0le, nI_eq0, nI_0lt, nI_le0, nI_clamp, nI_pd, nI_sb, zOf_some, zOp_some, zOp_none, kI_int, kL_long, kO_ref, kO_null, nlt_T, nlt_F, nle_T, nle_F, neq_F, vpT, azUp_at, if_true, if_false, true_and, and_true, true_implies, false_implies, implies_true, not_true_eq_false, not_false_eq_true, true_or, or_true, false_or, or_false, and_false, false_and, eq_self, n01_0, n01_1, nm1_0]
  exact next _ _ (LW.md c1 hk1 hx1 m1 m2) (by rw [m2.1]; exact c2.2.1) (by rw [m2.1]; exact c2.2.2.1)
theorem LC_851 (hR : azClosed R) (hL : L ≤ 2048) (hp : p + 3 < L) (hW : LW L xs σ st) (hB : σ.1.1 + 8 < azB) (next : LN R L xs p Q σ) : R 200 mL_law 851 [.ref (azB + 10), .ref 0, .ref 228, .int (nI p)] [] σ Q := by
  obtain ⟨⟨n, z, kd⟩, I, J, F⟩ := σ
  obtain ⟨hC, hM, hk, hx⟩ := id hW
  have hk : kd (azB + 10) = (15, L) := hk
  have hx : I (azB + 10) = xs := hx
  have k0 : (kd 0).1 = 8 := hC.1.1.1
  have k9 : (kd 228).1 = 9 := hM.1.1
  refine BL_law_851 (d := 199) hR ?_
  simp (disch := omega) only [nI_ad, nI_ml, nI_lti, nI_lei, nI_eqi, nI_nn, nI_0le, nI_eq0, nI_0lt, nI_le0, nI_clamp, nI_pd, nI_sb, zOf_some, zOp_some, zOp_none, kI_int, kL_long, kO_ref, kO_null, nlt_T, nlt_F, nle_T, nle_F, neq_F, vpT, azUp_at, if_true, if_false, true_and, and_true, true_implies, false_implies, implies_true, not_true_eq_false, not_false_eq_true, true_or, or_true, false_or, or_false, and_false, false_and, eq_self, n01_0, n01_1, nm1_0, hk, hx, k0]
  refine S_tnChange hR hC ?_
  simp (disch := omega) only [nI_ad, nI_ml, nI_lti, nI_lei, nI_eqi, nI_nn, nI_0le, nI_eq0, nI_0lt, nI_le0, nI_clamp, nI_pd, nI_sb, zOf_some, zOp_some, zOp_none, kI_int, kL_long, kO_ref, kO_null, nlt_T, nlt_F, nle_T, nle_F, neq_F, vpT, azUp_at, if_true, if_false, true_and, and_true, true_implies, false_implies, implies_true, not_true_eq_false, not_false_eq_true, true_or, or_true, false_or, or_false, and_false, false_and, eq_self, n01_0, n01_1, nm1_0, hk, hx, k9]
  refine S_mdChange hR hM fun σ2 m1 m2 => ?_
  simp (disch := omega) only [nI_ad, nI_ml, nI_lti, nI_lei, nI_eqi, nI_nn, nI_0le, nI_eq0, nI_0lt, nI_le0, nI_clamp, nI_pd, nI_sb, zOf_some, zOp_some, zOp_none, kI_int, kL_long, kO_ref, kO_null, nlt_T, nlt_F, nle_T, nle_F, neq_F, vpT, azUp_at, if_true, if_false, true_and, and_true, true_implies, false_implies, implies_true, not_true_eq_false, not_false_eq_true, true_or, or_true, false_or, or_false, and_false, false_and, eq_self, n01_0, n01_1, nm1_0]
  exact next _ _ (LW.md hC hk hx m1 m2) (by rw [m2.1]; exact Nat.le_add_right _ _) (by rw [m2.1]; exact Nat.le_add_right _ _)
theorem LC_974 (hR : azClosed R) (hL : L ≤ 2048) (hp : p + 3 < L) (hW : LW L xs σ st) (hB : σ.1.1 + 8 < azB) (next : LN R L xs p Q σ) : R 200 mL_law 974 [.ref (azB + 10), .ref 0, .ref 228, .int (nI p)] [] σ Q := by
  obtain ⟨⟨n, z, kd⟩, I, J, F⟩ := σ
  obtain ⟨hC, hM, hk, hx⟩ := id hW
  have hk : kd (azB + 10) = (15, L) := hk
  have hx : I (azB + 10) = xs := hx
  have k0 : (kd 0).1 = 8 := hC.1.1.1
  have k9 : (kd 228).1 = 9 := hM.1.1
  refine BL_law_974 (d := 199) hR ?_
  simp (disch := omega) only [nI_ad, nI_ml, nI_lti, nI_lei, nI_eqi, nI_nn, nI_0le, nI_eq0, nI_0lt, nI_le0, nI_clamp, nI_pd, nI_sb, zOf_some, zOp_some, zOp_none, kI_int, kL_long, kO_ref, kO_null, nlt_T, nlt_F, nle_T, nle_F, neq_F, vpT, azUp_at, if_true, if_false, true_and, and_true, true_implies, false_implies, implies_true, not_true_eq_false, not_false_eq_true, true_or, or_true, false_or, or_false, and_false, false_and, eq_self, n01_0, n01_1, nm1_0, hk, hx, k0]
  refine S_tnTold hR hC ?_
  simp (disch := omega) only [nI_ad, nI_ml, nI_lti, nI_lei, nI_eqi, nI_nn, nI_0le, nI_eq0, nI_0lt, nI_le0, nI_clamp, nI_pd, nI_sb, zOf_some, zOp_some, zOp_none, kI_int, kL_long, kO_ref, kO_null, nlt_T, nlt_F, nle_T, nle_F, neq_F, vpT, azUp_at, if_true, if_false, true_and, and_true, true_implies, false_implies, implies_true, not_true_eq_false, not_false_eq_true, true_or, or_true, false_or, or_false, and_false, false_and, eq_self, n01_0, n01_1, nm1_0, hk, hx, k9]
  refine S_mdTold hR hM ?_
  simp (disch := omega) only [nI_ad, nI_ml, nI_lti, nI_lei, nI_eqi, nI_nn, nI_0le, nI_eq0, nI_0lt, nI_le0, nI_clamp, nI_pd, nI_sb, zOf_some, zOp_some, zOp_none, kI_int, kL_long, kO_ref, kO_null, nlt_T, nlt_F, nle_T, nle_F, neq_F, vpT, azUp_at, if_true, if_false, true_and, and_true, true_implies, false_implies, implies_true, not_true_eq_false, not_false_eq_true, true_or, or_true, false_or, or_false, and_false, false_and, eq_self, n01_0, n01_1, nm1_0]
  exact next _ _ hW (Nat.le_add_right _ _) (Nat.le_add_right _ _)
theorem LC_997 (hR : azClosed R) (hL : L ≤ 2048) (hp : p + 3 < L) (hW : LW L xs σ st) (hB : σ.1.1 + 8 < azB) (next : LN R L xs p Q σ) : R 200 mL_law 997 [.ref (azB + 10), .ref 0, .ref 228, .int (nI p)] [] σ Q := by
  obtain ⟨⟨n, z, kd⟩, I, J, F⟩ := σ
  obtain ⟨hC, hM, hk, hx⟩ := id hW
  have hk : kd (azB + 10) = (15, L) := hk
  have hx : I (azB + 10) = xs := hx
  have k0 : (kd 0).1 = 8 := hC.1.1.1
  have k9 : (kd 228).1 = 9 := hM.1.1
  refine BL_law_997 (d := 199) hR ?_
  simp (disch := omega) only [nI_ad, nI_ml, nI_lti, nI_lei, nI_eqi, nI_nn, nI_0le, nI_eq0, nI_0lt, nI_le0, nI_clamp, nI_pd, nI_sb, zOf_some, zOp_some, zOp_none, kI_int, kL_long, kO_ref, kO_null, nlt_T, nlt_F, nle_T, nle_F, neq_F, vpT, azUp_at, if_true, if_false, true_and, and_true, true_implies, false_implies, implies_true, not_true_eq_false, not_false_eq_true, true_or, or_true, false_or, or_false, and_false, false_and, eq_self, n01_0, n01_1, nm1_0, hk, hx, k0]
  refine S_tnImage hR hC fun σ1 c1 c2 => ?_
  obtain ⟨hM1, hk1, hx1⟩ := hW.cl c2
  have k91 : (σ1.1.2.2 228).1 = 9 := hM1.1.1
  simp (disch := omega) only [nI_ad, nI_ml, nI_lti, nI_lei, nI_eqi, nI_nn, nI_0le, nI_eq0, nI_0lt, nI_le0, nI_clamp, nI_pd, nI_sb, zOf_some, zOp_some, zOp_none, kI_int, kL_long, kO_ref, kO_null, nlt_T, nlt_F, nle_T, nle_F, neq_F, vpT, azUp_at, if_true, if_false, true_and, and_true, true_implies, false_implies, implies_true, not_true_eq_false, not_false_eq_true, true_or, or_true, false_or, or_false, and_false, false_and, eq_self, n01_0, n01_1, nm1_0, hk1, hx1, k91]
  refine S_mdImage hR hM1 fun σ2 m1 m2 => ?_
  simp (disch := omega) only [nI_ad, nI_ml, nI_lti, nI_lei, nI_eqi, nI_nn, nI_0le, nI_eq0, nI_0lt, nI_le0, nI_clamp, nI_pd, nI_sb, zOf_some, zOp_some, zOp_none, kI_int, kL_long, kO_ref, kO_null, nlt_T, nlt_F, nle_T, nle_F, neq_F, vpT, azUp_at, if_true, if_false, true_and, and_true, true_implies, false_implies, implies_true, not_true_eq_false, not_false_eq_true, true_or, or_true, false_or, or_false, and_false, false_and, eq_self, n01_0, n01_1, nm1_0]
  exact next _ _ (LW.md c1 hk1 hx1 m1 m2) (by rw [m2.1]; exact c2.2.1) (by rw [m2.1]; exact c2.2.2.1)
theorem LC_1010 (hR : azClosed R) (hL : L ≤ 2048) (hp : p + 3 < L) (hW : LW L xs σ st) (hB : σ.1.1 + 8 < azB) (next : LN R L xs p Q σ) : R 200 mL_law 1010 [.ref (azB + 10), .ref 0, .ref 228, .int (nI p)] [] σ Q := by
  obtain ⟨⟨n, z, kd⟩, I, J, F⟩ := σ
  obtain ⟨hC, hM, hk, hx⟩ := id hW
  have hk : kd (azB + 10) = (15, L) := hk
  have hx : I (azB + 10) = xs := hx
  have k0 : (kd 0).1 = 8 := hC.1.1.1
  have k9 : (kd 228).1 = 9 := hM.1.1
  refine BL_law_1010 (d := 199) hR ?_
  simp (disch := omega) only [nI_ad, nI_ml, nI_lti, nI_lei, nI_eqi, nI_nn, nI_0le, nI_eq0, nI_0lt, nI_le0, nI_clamp, nI_pd, nI_sb, zOf_some, zOp_some, zOp_none, kI_int, kL_long, kO_ref, kO_null, nlt_T, nlt_F, nle_T, nle_F, neq_F, vpT, azUp_at, if_true, if_false, true_and, and_true, true_implies, false_implies, implies_true, not_true_eq_false, not_false_eq_true, true_or, or_true, false_or, or_false, and_false, false_and, eq_self, n01_0, n01_1, nm1_0, hk, hx, k0]
  refine S_tnUndo hR hC fun σ1 c1 c2 => ?_
  obtain ⟨hM1, hk1, hx1⟩ := hW.cl c2
  have k91 : (σ1.1.2.2 228).1 = 9 := hM1.1.1
  simp (disch := omega) only [nI_ad, nI_ml, nI_lti, nI_lei, nI_eqi, nI_nn, nI_0le, nI_eq0, nI_0lt, nI_le0, nI_clamp, nI_pd, nI_sb, zOf_some, zOp_some, zOp_none, kI_int, kL_long, kO_ref, kO_null, nlt_T, nlt_F, nle_T, nle_F, neq_F, vpT, azUp_at, if_true, if_false, true_and, and_true, true_implies, false_implies, implies_true, not_true_eq_false, not_false_eq_true, true_or, or_true, false_or, or_false, and_false, false_and, eq_self, n01_0, n01_1, nm1_0, hk1, hx1, k91]
  refine S_mdUndo hR hM1 fun σ2 m1 m2 => ?_
  simp (disch := omega) only [nI_ad, nI_ml, nI_lti, nI_lei, nI_eqi, nI_nn, nI_0le, nI_eq0, nI_0lt, nI_le0, nI_clamp, nI_pd, nI_sb, zOf_some, zOp_some, zOp_none, kI_int, kL_long, kO_ref, kO_null, nlt_T, nlt_F, nle_T, nle_F, neq_F, vpT, azUp_at, if_true, if_false, true_and, and_true, true_implies, false_implies, implies_true, not_true_eq_false, not_false_eq_true, true_or, or_true, false_or, or_false, and_false, false_and, eq_self, n01_0, n01_1, nm1_0]
  exact next _ _ (LW.md c1 hk1 hx1 m1 m2) (by rw [m2.1]; exact c2.2.1) (by rw [m2.1]; exact c2.2.2.1)
end SL
