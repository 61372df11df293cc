/-! THE REFERENCE: weight, sum. -/
theorem rdc_p {a b : Int} (h : 0 < b) : rdc a b = (a.tdiv (Int.gcd a b), b.tdiv (Int.gcd a b)) := if_pos (Int.le_of_lt h)
section S9
variable {R : azP} {d : Nat} {Q : azQ} {st : St} {σ : azS}
theorem S_mdWeight (hR : azClosed R) (hW : MW σ st) {x y w : Int32} (h : ∀ σ', MW σ' st → mdF σ σ' → Q (some (.long (aWeight st x y w))) σ') : R (d + 26) mX9_weight 0 [.ref 228, .int x, .int y, .int w] [] σ Q := by
  obtain ⟨⟨n, z, kd⟩, I, J, F⟩ := σ
  obtain ⟨hK, hC, hS⟩ := id hW
  have hK : MdOk kd F := hK
  have hC : cMd I st := hC
  have k0 := hK.1
  refine BX9_weight_0 hR ?_
  simp (disch := omega) only [nI_ad, nI_ml, nI_lti, nI_lei, nI_eqi, nI_nn, nI_0le, nI_eq0, nI_0lt, nI_le0, nI_clamp, nI_pd, nI_sb, zOf_some, zOp_some, zOp_none, kI_int, kL_long, kO_ref, kO_null, nlt_T, nlt_F, nle_T, nle_F, neq_F, vpT, azUp_at, if_true, if_false, true_and, and_true, true_implies, false_implies, implies_true, not_true_eq_false, not_false_eq_true, true_or, or_true, false_or, or_false, and_false, false_and, eq_self, n01_0, n01_1, nm1_0, k0]
  refine S_reduces hR hK hC.2.1 hS.2.1 fun I1 J1 T V W c k ro lc g1 g2 g3 => ⟨rfl, ?_⟩
  have fin := fun (J2 : azJ) (hj : ∀ b, b ≠ 228 → J2 b = J1 b) => hW.kp g1 (J' := J2) fun b hb => by rw [hj b (by omega)]; exact g2 b (by omega) (by omega)
  have e42 := g3.2.2.2.2.2.2.1
  rw [g3.cnt hS.rl (Nat.le_refl 10)] at e42
  have hN := frCt_le (rs := rsOf st.2.1) 10
  simp (disch := omega) only [nI_ad, nI_ml, nI_lti, nI_lei, nI_eqi, nI_nn, nI_0le, nI_eq0, nI_0lt, nI_le0, nI_clamp, nI_pd, nI_sb, zOf_some, zOp_some, zOp_none, kI_int, kL_long, kO_ref, kO_null, nlt_T, nlt_F, nle_T, nle_F, neq_F, vpT, azUp_at, if_true, if_false, true_and, and_true, true_implies, false_implies, implies_true, not_true_eq_false, not_false_eq_true, true_or, or_true, false_or, or_false, and_false, false_and, eq_self, n01_0, n01_1, nm1_0, k0]
  unfold aWeight at h
  refine S_isInP9 hR (k := frCt (rsOf st.2.1) 10) (by omega) rfl (by rw [e42]; exact len_sub _ (by omega)) ?_
  unfold isP
  rcases ix_cases x (n := frCt (rsOf st.2.1) 10) (by omega) with ⟨e, _⟩ | ⟨i, hi, rfl, e⟩
  · rw [e] at h ⊢
    obtain ⟨w1, w2⟩ := fin J1 fun _ _ => rfl
    simp (disch := omega) only [nI_ad, nI_ml, nI_lti, nI_lei, nI_eqi, nI_nn, nI_0le, nI_eq0, nI_0lt, nI_le0, nI_clamp, nI_pd, nI_sb, zOf_some, zOp_some, zOp_none, kI_int, kL_long, kO_ref, kO_null, nlt_T, nlt_F, nle_T, nle_F, neq_F, vpT, azUp_at, if_true, if_false, true_and, and_true, true_implies, false_implies, implies_true, not_true_eq_false, not_false_eq_true, true_or, or_true, false_or, or_false, and_false, false_and, eq_self, n01_0, n01_1, nm1_0]
    exact h _ w1 w2
  rw [e] at h ⊢
  dsimp only at h
  simp (disch := omega) only [nI_ad, nI_ml, nI_lti, nI_lei, nI_eqi, nI_nn, nI_0le, nI_eq0, nI_0lt, nI_le0, nI_clamp, nI_pd, nI_sb, zOf_some, zOp_some, zOp_none, kI_int, kL_long, kO_ref, kO_null, nlt_T, nlt_F, nle_T, nle_F, neq_F, vpT, azUp_at, if_true, if_false, true_and, and_true, true_implies, false_implies, implies_true, not_true_eq_false, not_false_eq_true, true_or, or_true, false_or, or_false, and_false, false_and, eq_self, n01_0, n01_1, nm1_0]
  refine S_isPlace9 hR ?_
  unfold isP
  rcases ix_cases y (n := 10) (by decide) with ⟨e, c⟩ | ⟨q, hq, rfl, e⟩
  · rw [e] at h ⊢
    obtain ⟨w1, w2⟩ := fin J1 fun _ _ => rfl
    simp (disch := omega) only [nI_ad, nI_ml, nI_lti, nI_lei, nI_eqi, nI_nn, nI_0le, nI_eq0, nI_0lt, nI_le0, nI_clamp, nI_pd, nI_sb, zOf_some, zOp_some, zOp_none, kI_int, kL_long, kO_ref, kO_null, nlt_T, nlt_F, nle_T, nle_F, neq_F, vpT, azUp_at, if_true, if_false, true_and, and_true, true_implies, false_implies, implies_true, not_true_eq_false, not_false_eq_true, true_or, or_true, false_or, or_false, and_false, false_and, eq_self, n01_0, n01_1, nm1_0]
    exact h _ w1 w2
  rw [e] at h ⊢
  dsimp only at h
  simp (disch := omega) only [nI_ad, nI_ml, nI_lti, nI_lei, nI_eqi, nI_nn, nI_0le, nI_eq0, nI_0lt, nI_le0, nI_clamp, nI_pd, nI_sb, zOf_some, zOp_some, zOp_none, kI_int, kL_long, kO_ref, kO_null, nlt_T, nlt_F, nle_T, nle_F, neq_F, vpT, azUp_at, if_true, if_false, true_and, and_true, true_implies, false_implies, implies_true, not_true_eq_false, not_false_eq_true, true_or, or_true, false_or, or_false, and_false, false_and, eq_self, n01_0, n01_1, nm1_0]
  refine S_isInP9 hR (k := 2) (by decide) rfl rfl ?_
  unfold isP
  rcases ix_cases w (n := 2) (by decide) with ⟨e, c⟩ | ⟨s, hs, rfl, e⟩
  · rw [e] at h ⊢
    obtain ⟨w1, w2⟩ := fin J1 fun _ _ => rfl
    simp (disch := omega) only [nI_ad, nI_ml, nI_lti, nI_lei, nI_eqi, nI_nn, nI_0le, nI_eq0, nI_0lt, nI_le0, nI_clamp, nI_pd, nI_sb, zOf_some, zOp_some, zOp_none, kI_int, kL_long, kO_ref, kO_null, nlt_T, nlt_F, nle_T, nle_F, neq_F, vpT, azUp_at, if_true, if_false, true_and, and_true, true_implies, false_implies, implies_true, not_true_eq_false, not_false_eq_true, true_or, or_true, false_or, or_false, and_false, false_and, eq_self, n01_0, n01_1, nm1_0]
    exact h _ w1 w2
  rw [e] at h ⊢
  dsimp only at h
  obtain ⟨f, hfr, rfl⟩ := frCt_ex hi
  rw [frA_eq hfr] at h
  simp (disch := omega) only [nI_ad, nI_ml, nI_lti, nI_lei, nI_eqi, nI_nn, nI_0le, nI_eq0, nI_0lt, nI_le0, nI_clamp, nI_pd, nI_sb, zOf_some, zOp_some, zOp_none, kI_int, kL_long, kO_ref, kO_null, nlt_T, nlt_F, nle_T, nle_F, neq_F, vpT, azUp_at, if_true, if_false, true_and, and_true, true_implies, false_implies, implies_true, not_true_eq_false, not_false_eq_true, true_or, or_true, false_or, or_false, and_false, false_and, eq_self, n01_0, n01_1, nm1_0, k0]
  refine S_weighs9 hR hK hS.rl g3 hfr hq fun J2 v1 v2 v3 => ⟨rfl, ?_⟩
  obtain ⟨w1, w2⟩ := fin J2 v1
  have h := h _ w1 w2
  have : s = 0 ∨ s = 1 := by omega
  rcases this with rfl | rfl
  · rw [if_pos rfl, ← v2] at h
    simp (disch := omega) only [nI_ad, nI_ml, nI_lti, nI_lei, nI_eqi, nI_nn, nI_0le, nI_eq0, nI_0lt, nI_le0, nI_clamp, nI_pd, nI_sb, zOf_some, zOp_some, zOp_none, kI_int, kL_long, kO_ref, kO_null, nlt_T, nlt_F, nle_T, nle_F, neq_F, vpT, azUp_at, if_true, if_false, true_and, and_true, true_implies, false_implies, implies_true, not_true_eq_false, not_false_eq_true, true_or, or_true, false_or, or_false, and_false, false_and, eq_self, n01_0, n01_1, nm1_0, k0]
    exact h
  · rw [if_neg (by decide), ← v3] at h
    simp (disch := omega) only [nI_ad, nI_ml, nI_lti, nI_lei, nI_eqi, nI_nn, nI_0le, nI_eq0, nI_0lt, nI_le0, nI_clamp, nI_pd, nI_sb, zOf_some, zOp_some, zOp_none, kI_int, kL_long, kO_ref, kO_null, nlt_T, nlt_F, nle_T, nle_F, neq_F, vpT, azUp_at, if_true, if_false, true_and, and_true, true_implies, false_implies, implies_true, not_true_eq_false, not_false_eq_true, true_or, or_true, false_or, or_false, and_false, false_and, eq_self, n01_0, n01_1, nm1_0, k0]
    exact h
theorem S_mdSum (hR : azClosed R) (hW : MW σ st) {x w : Int32} (h : ∀ σ', MW σ' st → mdF σ σ' → Q (some (.int (aSum st x w))) σ') : R (d + 26) mX9_sum 0 [.ref 228, .int x, .int w, .retAddr 0, .retAddr 0, .retAddr 0, .retAddr 0, .retAddr 0, .retAddr 0, .retAddr 0] [] σ Q := by
  obtain ⟨⟨n, z, kd⟩, I, J, F⟩ := σ
  obtain ⟨hK, hC, hS⟩ := id hW
  have hK : MdOk kd F := hK
  have hC : cMd I st := hC
  have ⟨k0, ⟨k220, _⟩, _, ⟨f0, _⟩, _⟩ := id hK
  refine BX9_sum_0 hR ?_
  simp (disch := omega) only [nI_ad, nI_ml, nI_lti, nI_lei, nI_eqi, nI_nn, nI_0le, nI_eq0, nI_0lt, nI_le0, nI_clamp, nI_pd, nI_sb, zOf_some, zOp_some, zOp_none, kI_int, kL_long, kO_ref, kO_null, nlt_T, nlt_F, nle_T, nle_F, neq_F, vpT, azUp_at, if_true, if_false, true_and, and_true, true_implies, false_implies, implies_true, not_true_eq_false, not_false_eq_true, true_or, or_true, false_or, or_false, and_false, false_and, eq_self, n01_0, n01_1, nm1_0, k0]
  refine S_reduces hR hK hC.2.1 hS.2.1 fun I1 J1 T V W c k ro lc g1 g2 g3 => ⟨rfl, ?_⟩
  have fin := fun (J2 : azJ) (hj : ∀ b, b ≠ 228 → J2 b = J1 b) => hW.kp g1 (J' := J2) fun b hb => by rw [hj b (by omega)]; exact g2 b (by omega) (by omega)
  have e42 := g3.2.2.2.2.2.2.1
  rw [g3.cnt hS.rl (Nat.le_refl 10)] at e42
  have hN := frCt_le (rs := rsOf st.2.1) 10
  simp (disch := omega) only [nI_ad, nI_ml, nI_lti, nI_lei, nI_eqi, nI_nn, nI_0le, nI_eq0, nI_0lt, nI_le0, nI_clamp, nI_pd, nI_sb, zOf_some, zOp_some, zOp_none, kI_int, kL_long, kO_ref, kO_null, nlt_T, nlt_F, nle_T, nle_F, neq_F, vpT, azUp_at, if_true, if_false, true_and, and_true, true_implies, false_implies, implies_true, not_true_eq_false, not_false_eq_true, true_or, or_true, false_or, or_false, and_false, false_and, eq_self, n01_0, n01_1, nm1_0, k0]
  unfold aSum at h
  refine S_isInP9 hR (k := frCt (rsOf st.2.1) 10) (by omega) rfl (by rw [e42]; exact len_sub _ (by omega)) ?_
  unfold isP
  rcases ix_cases x (n := frCt (rsOf st.2.1) 10) (by omega) with ⟨e, _⟩ | ⟨i, hi, rfl, e⟩
  · rw [e] at h ⊢
    obtain ⟨w1, w2⟩ := fin J1 fun _ _ => rfl
    simp (disch := omega) only [nI_ad, nI_ml, nI_lti, nI_lei, nI_eqi, nI_nn, nI_0le, nI_eq0, nI_0lt, nI_le0, nI_clamp, nI_pd, nI_sb, zOf_some, zOp_some, zOp_none, kI_int, kL_long, kO_ref, kO_null, nlt_T, nlt_F, nle_T, nle_F, neq_F, vpT, azUp_at, if_true, if_false, true_and, and_true, true_implies, false_implies, implies_true, not_true_eq_false, not_false_eq_true, true_or, or_true, false_or, or_false, and_false, false_and, eq_self, n01_0, n01_1, nm1_0]
    exact h _ w1 w2
  rw [e] at h ⊢
  dsimp only at h
  simp (disch := omega) only [nI_ad, nI_ml, nI_lti, nI_lei, nI_eqi, nI_nn, nI_0le, nI_eq0, nI_0lt, nI_le0, nI_clamp, nI_pd, nI_sb, zOf_some, zOp_some, zOp_none, kI_int, kL_long, kO_ref, kO_null, nlt_T, nlt_F, nle_T, nle_F, neq_F, vpT, azUp_at, if_true, if_false, true_and, and_true, true_implies, false_implies, implies_true, not_true_eq_false, not_false_eq_true, true_or, or_true, false_or, or_false, and_false, false_and, eq_self, n01_0, n01_1, nm1_0]
  refine S_isInP9 hR (k := 2) (by decide) rfl rfl ?_
  unfold isP
  rcases ix_cases w (n := 2) (by decide) with ⟨e, c⟩ | ⟨s, hs, rfl, e⟩
  · rw [e] at h ⊢
    obtain ⟨w1, w2⟩ := fin J1 fun _ _ => rfl
    simp (disch := omega) only [nI_ad, nI_ml, nI_lti, nI_lei, nI_eqi, nI_nn, nI_0le, nI_eq0, nI_0lt, nI_le0, nI_clamp, nI_pd, nI_sb, zOf_some, zOp_some, zOp_none, kI_int, kL_long, kO_ref, kO_null, nlt_T, nlt_F, nle_T, nle_F, neq_F, vpT, azUp_at, if_true, if_false, true_and, and_true, true_implies, false_implies, implies_true, not_true_eq_false, not_false_eq_true, true_or, or_true, false_or, or_false, and_false, false_and, eq_self, n01_0, n01_1, nm1_0]
    exact h _ w1 w2
  rw [e] at h ⊢
  dsimp only at h
  obtain ⟨f, hfr, rfl⟩ := frCt_ex hi
  rw [frA_eq hfr] at h
  have hf10 := hfr.1
  have ho := hS.rl
  have hw := g3.sv.wb ho hfr
  have hmo := hS.1
  have hm : cD (I1 229) st.1 := by rw [g1.1 229 (by decide) (by decide)]; exact hC.1
  have main : ∀ s' p (J2 : azJ) (w8 w9 : Value), s' + p = 10 → (∀ b, b ≠ 228 → J2 b = J1 b) → R (d + 26) mX9_sum 40 [.ref 228, .int (nI (frCt (rsOf st.2.1) f)), .int (nI s), .long (lO (sF (rsOf st.2.1) st.1 f p).1), .retAddr 1, .long (lO (sF (rsOf st.2.1) st.1 f p).2), .retAddr 1, .int (nI p), w8, w9] [] ((n, z, kd), I1, J2, F) Q := by
    intro s'
    induction s' with
    | zero =>
      intro p J2 w8 w9 hp hj
      obtain rfl : p = 10 := by omega
      obtain ⟨w1, w2⟩ := fin J2 hj
      have h := h _ w1 w2
      refine BX9_sum_40 hR ?_
      have : s = 0 ∨ s = 1 := by omega
      rcases this with rfl | rfl
      · rw [if_pos rfl] at h
        simp (disch := omega) only [nI_ad, nI_ml, nI_lti, nI_lei, nI_eqi, nI_nn, nI_0le, nI_eq0, nI_0lt, nI_le0, nI_clamp, nI_pd, nI_sb, zOf_some, zOp_some, zOp_none, kI_int, kL_long, kO_ref, kO_null, nlt_T, nlt_F, nle_T, nle_F, neq_F, vpT, azUp_at, if_true, if_false, true_and, and_true, true_implies, false_implies, implies_true, not_true_eq_false, not_false_eq_true, true_or, or_true, false_or, or_false, and_false, false_and, eq_self, n01_0, n01_1, nm1_0]
        exact h
      · rw [if_neg (by decide)] at h
        simp (disch := omega) only [nI_ad, nI_ml, nI_lti, nI_lei, nI_eqi, nI_nn, nI_0le, nI_eq0, nI_0lt, nI_le0, nI_clamp, nI_pd, nI_sb, zOf_some, zOp_some, zOp_none, kI_int, kL_long, kO_ref, kO_null, nlt_T, nlt_F, nle_T, nle_F, neq_F, vpT, azUp_at, if_true, if_false, true_and, and_true, true_implies, false_implies, implies_true, not_true_eq_false, not_false_eq_true, true_or, or_true, false_or, or_false, and_false, false_and, eq_self, n01_0, n01_1, nm1_0]
        exact h
    | succ s' ih =>
      intro p J2 w8 w9 hp hj
      have hp10 : p < 10 := by omega
      have lm := (hmo.1 p).1
      obtain ⟨es, en⟩ := sF_s (m := st.1) (p := p) hw
      have b1 := sF_bd (m := st.1) (p := p) hf10 hw hmo (by omega)
      have b2 := g3.sv.wbd ho hfr hp10
      have b3 := mul_bd (A := 3542940) (B := 59049) b1.1 (show -59049 ≤ (wF (rsOf st.2.1) f p).2 ∧ (wF (rsOf st.2.1) f p).2 ≤ 59049 by omega)
      have b4 := mul_bd (A := 59049) (B := 6) b2.1 (show -6 ≤ ((st.1 p).length : Int) ∧ ((st.1 p).length : Int) ≤ 6 by omega)
      have b5 := mul_bd (B := 3542940) b4 (show -3542940 ≤ (sF (rsOf st.2.1) st.1 f p).2 ∧ (sF (rsOf st.2.1) st.1 f p).2 ≤ 3542940 by omega)
      have b6 := mul_bd (A := 3542940) (B := 59049) (show -3542940 ≤ (sF (rsOf st.2.1) st.1 f p).2 ∧ (sF (rsOf st.2.1) st.1 f p).2 ≤ 3542940 by omega) (show -59049 ≤ (wF (rsOf st.2.1) f p).2 ∧ (wF (rsOf st.2.1) f p).2 ≤ 59049 by omega)
      have bp : 0 < (sF (rsOf st.2.1) st.1 f p).2 * (wF (rsOf st.2.1) f p).2 := Int.mul_pos b1.2.1 b2.2.1
      rw [rdc_p bp] at es
      have g3' : RD (rsOf st.2.1) I1 J2 T V W c k 10 ro lc := ⟨g3.1, g3.2.1, g3.2.2.1, g3.2.2.2.1, g3.2.2.2.2.1, fun i hi q hq => by rw [hj 252 (by decide), hj 253 (by decide)]; exact g3.2.2.2.2.2.1 i hi q hq, g3.2.2.2.2.2.2⟩
      refine BX9_sum_40 hR ?_
      simp (disch := omega) only [nI_ad, nI_ml, nI_lti, nI_lei, nI_eqi, nI_nn, nI_0le, nI_eq0, nI_0lt, nI_le0, nI_clamp, nI_pd, nI_sb, zOf_some, zOp_some, zOp_none, kI_int, kL_long, kO_ref, kO_null, nlt_T, nlt_F, nle_T, nle_F, neq_F, vpT, azUp_at, if_true, if_false, true_and, and_true, true_implies, false_implies, implies_true, not_true_eq_false, not_false_eq_true, true_or, or_true, false_or, or_false, and_false, false_and, eq_self, n01_0, n01_1, nm1_0, k0]
      refine S_weighs9 hR hK ho g3' hfr hp10 fun J3 v1 v2 v3 => ⟨rfl, ?_⟩
      have ep := (hm p hp10).1
      simp (disch := omega) only [nI_ad, nI_ml, nI_lti, nI_lei, nI_eqi, nI_nn, nI_0le, nI_eq0, nI_0lt, nI_le0, nI_clamp, nI_pd, nI_sb, zOf_some, zOp_some, zOp_none, kI_int, kL_long, kO_ref, kO_null, nlt_T, nlt_F, nle_T, nle_F, neq_F, vpT, azUp_at, if_true, if_false, true_and, and_true, true_implies, false_implies, implies_true, not_true_eq_false, not_false_eq_true, true_or, or_true, false_or, or_false, and_false, false_and, eq_self, n01_0, n01_1, nm1_0, k0, f0, k220, ep]
      have sA : sml ((sF (rsOf st.2.1) st.1 f p).1 * (wF (rsOf st.2.1) f p).2 + (wF (rsOf st.2.1) f p).1 * ((st.1 p).length : Int) * (sF (rsOf st.2.1) st.1 f p).2) := by unfold sml; omega
      have sB : sml ((sF (rsOf st.2.1) st.1 f p).2 * (wF (rsOf st.2.1) f p).2) := by unfold sml; omega
      rw [v2, v3, i64_nI (by omega), lO_ml, lO_ml, lO_ml, lO_ad, lO_ml]
      have nx := ih (p + 1) J3
      rw [es] at nx
      generalize (sF (rsOf st.2.1) st.1 f p).1 * (wF (rsOf st.2.1) f p).2 + (wF (rsOf st.2.1) f p).1 * ((st.1 p).length : Int) * (sF (rsOf st.2.1) st.1 f p).2 = A at sA nx ⊢
      generalize (sF (rsOf st.2.1) st.1 f p).2 * (wF (rsOf st.2.1) f p).2 = B at sB bp nx ⊢
      have hg := gcd_sml (a := A) sB (by omega)
      have hgp := gcd_pos (a := A) (b := B) (by omega)
      have g0 : ¬ lO (Int.gcd A B : Int) = 0 := fun e => by
        rw [lO_z, lO_inj hg sml_0] at e
        omega
      refine S_gcd9 hR sA sB ?_
      rw [kL_long]
      refine ⟨g0, g0, ?_⟩
      rw [lO_dv sA hg, lO_dv sB hg]
      exact nx _ _ (by omega) fun b hb => by rw [v1 b hb, hj b hb]
  have e0 : sF (rsOf st.2.1) st.1 f 0 = (0, 1) := rdc_0 hw.1.2.1
  have := main 10 0 J1 (.retAddr 0) (.retAddr 0) rfl fun _ _ => rfl
  rw [e0] at this
  simp (disch := omega) only [nI_ad, nI_ml, nI_lti, nI_lei, nI_eqi, nI_nn, nI_0le, nI_eq0, nI_0lt, nI_le0, nI_clamp, nI_pd, nI_sb, zOf_some, zOp_some, zOp_none, kI_int, kL_long, kO_ref, kO_null, nlt_T, nlt_F, nle_T, nle_F, neq_F, vpT, azUp_at, if_true, if_false, true_and, and_true, true_implies, false_implies, implies_true, not_true_eq_false, not_false_eq_true, true_or, or_true, false_or, or_false, and_false, false_and, eq_self, n01_0, n01_1, nm1_0]
  exact this
end S9
