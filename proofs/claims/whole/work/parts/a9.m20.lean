/-! THE REFERENCE: can, bound, bindings, go, all. -/
section S9
variable {R : azP} {d n z : Nat} {kd : azK} {I : azI} {J : azJ} {F : azR} {Q : azQ} {st : St} {σ : azS}
theorem S_mdCan (hR : azClosed R) (hW : MW σ st) {x : Int32} (h : ∀ σ', MW σ' st → mdF σ σ' → Q (some (.int (aCan st x))) σ') : R (d + 26) mX9_can 0 [.ref 228, .int x] [] σ Q := by
  obtain ⟨⟨n, z, kd⟩, I, J, F⟩ := σ
  obtain ⟨hK, hC, hS⟩ := id hW
  have hK : MdOk kd F := hK
  have hC : cMd I st := hC
  have ⟨k0, ⟨k220, k221, k222, _⟩, _, ⟨f0, f1, f2, _⟩, _⟩ := id hK
  refine BX9_can_0 hR (S_isPlace9 hR ?_)
  unfold isP
  unfold aCan at h
  rcases ix_cases x (n := 10) (by decide) with ⟨e, c⟩ | ⟨p, hp, rfl, e⟩
  · rw [e] at h ⊢
    simp (disch := omega) only [nI_ad, nI_ml, nI_lti, nI_lei, nI_eqi, nI_nn, nI_0le, nI_eq0, nI_0lt, nI_le0, nI_clamp, nI_pd, nI_sb, zOf_some, zOp_some, zOp_none, kI_int, kL_long, kO_ref, kO_null, nlt_T, nlt_F, nle_T, nle_F, neq_F, vpT, azUp_at, if_true, if_false, true_and, and_true, true_implies, false_implies, implies_true, not_true_eq_false, not_false_eq_true, true_or, or_true, false_or, or_false, and_false, false_and, eq_self, n01_0, n01_1, nm1_0]
    exact h _ hW mdF.refl
  rw [e] at h ⊢
  dsimp only at h
  have hcr := hC.2.1 p hp
  cases hr : st.2.1 p with
  | none =>
    rw [hr] at h
    have e0 := hcr.1 hr
    simp (disch := omega) only [nI_ad, nI_ml, nI_lti, nI_lei, nI_eqi, nI_nn, nI_0le, nI_eq0, nI_0lt, nI_le0, nI_clamp, nI_pd, nI_sb, zOf_some, zOp_some, zOp_none, kI_int, kL_long, kO_ref, kO_null, nlt_T, nlt_F, nle_T, nle_F, neq_F, vpT, azUp_at, if_true, if_false, true_and, and_true, true_implies, false_implies, implies_true, not_true_eq_false, not_false_eq_true, true_or, or_true, false_or, or_false, and_false, false_and, eq_self, n01_0, n01_1, nm1_0, k0, f2, k222, e0]
    exact h _ hW mdF.refl
  | some c =>
    obtain ⟨t, cs⟩ := c
    rw [hr] at h
    dsimp only at h
    obtain ⟨htk, ht0, hpr⟩ := hS.2.1 p t cs hr
    have htl := htk.1
    have e0 := (hcr.2 t cs hr).1
    have n0 : ¬ t.length = 0 := by omega
    have ef : pfire (rsOf st.2.1) p st.1 = fire cs st.1 := by unfold pfire rsOf; rw [hr]; rfl
    simp (disch := omega) only [nI_ad, nI_ml, nI_lti, nI_lei, nI_eqi, nI_nn, nI_0le, nI_eq0, nI_0lt, nI_le0, nI_clamp, nI_pd, nI_sb, zOf_some, zOp_some, zOp_none, kI_int, kL_long, kO_ref, kO_null, nlt_T, nlt_F, nle_T, nle_F, neq_F, vpT, azUp_at, if_true, if_false, true_and, and_true, true_implies, false_implies, implies_true, not_true_eq_false, not_false_eq_true, true_or, or_true, false_or, or_false, and_false, false_and, eq_self, n01_0, n01_1, nm1_0, k0, f0, f2, k222, e0, n0]
    refine S_goes9 hR hK hC.2.1 hS.2.1 hp k220 (by decide) (by decide) hC.1 hS.1 fun I' g1 g2 => ?_
    rw [ef]
    obtain ⟨w1, w2⟩ := hW.kp g1.mdS (J' := J) fun _ _ => rfl
    have h := h _ w1 w2
    by_cases c : (fire cs st.1).isSome = true
    · rw [if_pos c] at h ⊢; simp (disch := omega) only [nI_ad, nI_ml, nI_lti, nI_lei, nI_eqi, nI_nn, nI_0le, nI_eq0, nI_0lt, nI_le0, nI_clamp, nI_pd, nI_sb, zOf_some, zOp_some, zOp_none, kI_int, kL_long, kO_ref, kO_null, nlt_T, nlt_F, nle_T, nle_F, neq_F, vpT, azUp_at, if_true, if_false, true_and, and_true, true_implies, false_implies, implies_true, not_true_eq_false, not_false_eq_true, true_or, or_true, false_or, or_false, and_false, false_and, eq_self, n01_0, n01_1, nm1_0]; exact h
    · rw [if_neg c] at h ⊢; simp (disch := omega) only [nI_ad, nI_ml, nI_lti, nI_lei, nI_eqi, nI_nn, nI_0le, nI_eq0, nI_0lt, nI_le0, nI_clamp, nI_pd, nI_sb, zOf_some, zOp_some, zOp_none, kI_int, kL_long, kO_ref, kO_null, nlt_T, nlt_F, nle_T, nle_F, neq_F, vpT, azUp_at, if_true, if_false, true_and, and_true, true_implies, false_implies, implies_true, not_true_eq_false, not_false_eq_true, true_or, or_true, false_or, or_false, and_false, false_and, eq_self, n01_0, n01_1, nm1_0]; exact h
theorem S_mdBindings (hR : azClosed R) (hW : MW σ st) {x : Int32} (h : ∀ σ', MW σ' st → mdF σ σ' → Q (some (.int (aBindings st x))) σ') : R (d + 26) mX9_bindings 0 [.ref 228, .int x] [] σ Q := by
  obtain ⟨⟨n, z, kd⟩, I, J, F⟩ := σ
  obtain ⟨hK, hC, hS⟩ := id hW
  have hK : MdOk kd F := hK
  have hC : cMd I st := hC
  have ⟨k0, ⟨k220, k221, k222, _⟩, _, ⟨f0, f1, f2, _⟩, _⟩ := id hK
  refine BX9_bindings_0 hR (S_isPlace9 hR ?_)
  unfold isP
  unfold aBindings at h
  rcases ix_cases x (n := 10) (by decide) with ⟨e, c⟩ | ⟨p, hp, rfl, e⟩
  · rw [e] at h ⊢
    simp (disch := omega) only [nI_ad, nI_ml, nI_lti, nI_lei, nI_eqi, nI_nn, nI_0le, nI_eq0, nI_0lt, nI_le0, nI_clamp, nI_pd, nI_sb, zOf_some, zOp_some, zOp_none, kI_int, kL_long, kO_ref, kO_null, nlt_T, nlt_F, nle_T, nle_F, neq_F, vpT, azUp_at, if_true, if_false, true_and, and_true, true_implies, false_implies, implies_true, not_true_eq_false, not_false_eq_true, true_or, or_true, false_or, or_false, and_false, false_and, eq_self, n01_0, n01_1, nm1_0]
    exact h _ hW mdF.refl
  rw [e] at h ⊢
  dsimp only at h
  simp (disch := omega) only [nI_ad, nI_ml, nI_lti, nI_lei, nI_eqi, nI_nn, nI_0le, nI_eq0, nI_0lt, nI_le0, nI_clamp, nI_pd, nI_sb, zOf_some, zOp_some, zOp_none, kI_int, kL_long, kO_ref, kO_null, nlt_T, nlt_F, nle_T, nle_F, neq_F, vpT, azUp_at, if_true, if_false, true_and, and_true, true_implies, false_implies, implies_true, not_true_eq_false, not_false_eq_true, true_or, or_true, false_or, or_false, and_false, false_and, eq_self, n01_0, n01_1, nm1_0, k0]
  refine S_readsRule9 (d := d + 1) hR hK hC.2.1 hS.2.1 hp (fun hr I1 g1 g2 _ => ?_) (fun t cs hr I1 g1 g2 _ hx hrd h12 h25 => ?_)
  · rw [hr] at h
    obtain ⟨w1, w2⟩ := hW.kp g1 (J' := J) fun _ _ => rfl
    simp (disch := omega) only [nI_ad, nI_ml, nI_lti, nI_lei, nI_eqi, nI_nn, nI_0le, nI_eq0, nI_0lt, nI_le0, nI_clamp, nI_pd, nI_sb, zOf_some, zOp_some, zOp_none, kI_int, kL_long, kO_ref, kO_null, nlt_T, nlt_F, nle_T, nle_F, neq_F, vpT, azUp_at, if_true, if_false, true_and, and_true, true_implies, false_implies, implies_true, not_true_eq_false, not_false_eq_true, true_or, or_true, false_or, or_false, and_false, false_and, eq_self, n01_0, n01_1, nm1_0]
    exact h _ w1 w2
  · rw [hr] at h
    dsimp only at h
    have e220 : I1 229 = I 229 := g1.1 229 (by decide) (by decide)
    have htk := (hS.2.1 p t cs hr).1
    simp (disch := omega) only [nI_ad, nI_ml, nI_lti, nI_lei, nI_eqi, nI_nn, nI_0le, nI_eq0, nI_0lt, nI_le0, nI_clamp, nI_pd, nI_sb, zOf_some, zOp_some, zOp_none, kI_int, kL_long, kO_ref, kO_null, nlt_T, nlt_F, nle_T, nle_F, neq_F, vpT, azUp_at, if_true, if_false, true_and, and_true, true_implies, false_implies, implies_true, not_true_eq_false, not_false_eq_true, true_or, or_true, false_or, or_false, and_false, false_and, eq_self, n01_0, n01_1, nm1_0, k0, f0]
    refine S_binds9 (d := d + 3) hR hK htk hx hrd (hS.rule hr) h12 h25 k220 (by decide) (by decide) (by decide) (by decide) (by rw [e220]; exact hC.1) hS.1 false fun I2 u1 u2 u3 => ?_
    obtain ⟨w1, w2⟩ := hW.kp (I' := I2) (J' := J) (g1.trans ⟨fun c a b => u1.1 c a (by omega) (by omega) (by omega), fun j a => u1.2 j (by omega) (by omega)⟩) fun _ _ => rfl
    exact h _ w1 w2
theorem S_mdBound (hR : azClosed R) (hW : MW σ st) {x y : Int32} (h : ∀ σ', MW σ' st → mdF σ σ' → Q (some (.int (aBound st x y))) σ') : R (d + 26) mX9_bound 0 [.ref 228, .int x, .int y] [] σ Q := by
  obtain ⟨⟨n, z, kd⟩, I, J, F⟩ := σ
  obtain ⟨hK, hC, hS⟩ := id hW
  have hK : MdOk kd F := hK
  have hC : cMd I st := hC
  have ⟨k0, ⟨k220, k221, k222, _⟩, ⟨_, k233, k234, _⟩, ⟨f0, f1, f2, _⟩, ⟨_, f28, f29, _⟩⟩ := id hK
  refine BX9_bound_0 hR (S_isPlace9 hR ?_)
  unfold isP
  unfold aBound at h
  rcases ix_cases x (n := 10) (by decide) with ⟨e, c⟩ | ⟨p, hp, rfl, e⟩
  · rw [e] at h ⊢
    simp (disch := omega) only [nI_ad, nI_ml, nI_lti, nI_lei, nI_eqi, nI_nn, nI_0le, nI_eq0, nI_0lt, nI_le0, nI_clamp, nI_pd, nI_sb, zOf_some, zOp_some, zOp_none, kI_int, kL_long, kO_ref, kO_null, nlt_T, nlt_F, nle_T, nle_F, neq_F, vpT, azUp_at, if_true, if_false, true_and, and_true, true_implies, false_implies, implies_true, not_true_eq_false, not_false_eq_true, true_or, or_true, false_or, or_false, and_false, false_and, eq_self, n01_0, n01_1, nm1_0]
    exact h _ hW mdF.refl
  rw [e] at h ⊢
  dsimp only at h
  simp (disch := omega) only [nI_ad, nI_ml, nI_lti, nI_lei, nI_eqi, nI_nn, nI_0le, nI_eq0, nI_0lt, nI_le0, nI_clamp, nI_pd, nI_sb, zOf_some, zOp_some, zOp_none, kI_int, kL_long, kO_ref, kO_null, nlt_T, nlt_F, nle_T, nle_F, neq_F, vpT, azUp_at, if_true, if_false, true_and, and_true, true_implies, false_implies, implies_true, not_true_eq_false, not_false_eq_true, true_or, or_true, false_or, or_false, and_false, false_and, eq_self, n01_0, n01_1, nm1_0, k0]
  refine S_readsRule9 (d := d + 1) hR hK hC.2.1 hS.2.1 hp (fun hr I1 g1 g2 _ => ?_) (fun t cs hr I1 g1 g2 _ hx hrd h12 h25 => ?_)
  · rw [hr] at h
    obtain ⟨w1, w2⟩ := hW.kp g1 (J' := J) fun _ _ => rfl
    simp (disch := omega) only [nI_ad, nI_ml, nI_lti, nI_lei, nI_eqi, nI_nn, nI_0le, nI_eq0, nI_0lt, nI_le0, nI_clamp, nI_pd, nI_sb, zOf_some, zOp_some, zOp_none, kI_int, kL_long, kO_ref, kO_null, nlt_T, nlt_F, nle_T, nle_F, neq_F, vpT, azUp_at, if_true, if_false, true_and, and_true, true_implies, false_implies, implies_true, not_true_eq_false, not_false_eq_true, true_or, or_true, false_or, or_false, and_false, false_and, eq_self, n01_0, n01_1, nm1_0]
    exact h _ w1 w2
  · rw [hr] at h
    dsimp only at h
    have e220 : I1 229 = I 229 := g1.1 229 (by decide) (by decide)
    have htk := (hS.2.1 p t cs hr).1
    have ho := hS.rule hr
    have h3 : nTk cs ≤ 3 := ho.2.2.2.1
    have q1 := hrd.1
    obtain ⟨w1, w2⟩ := hW.kp g1 (J' := J) fun _ _ => rfl
    simp (disch := omega) only [nI_ad, nI_ml, nI_lti, nI_lei, nI_eqi, nI_nn, nI_0le, nI_eq0, nI_0lt, nI_le0, nI_clamp, nI_pd, nI_sb, zOf_some, zOp_some, zOp_none, kI_int, kL_long, kO_ref, kO_null, nlt_T, nlt_F, nle_T, nle_F, neq_F, vpT, azUp_at, if_true, if_false, true_and, and_true, true_implies, false_implies, implies_true, not_true_eq_false, not_false_eq_true, true_or, or_true, false_or, or_false, and_false, false_and, eq_self, n01_0, n01_1, nm1_0, k0]
    refine S_isInP9 hR (k := nTk cs) (by omega) rfl (by rw [q1]; exact len_sub _ (by omega)) ?_
    unfold isP
    rcases ix_cases y (n := nTk cs) (by omega) with ⟨e, c⟩ | ⟨i, hi, rfl, e⟩
    · rw [e] at h ⊢
      simp (disch := omega) only [nI_ad, nI_ml, nI_lti, nI_lei, nI_eqi, nI_nn, nI_0le, nI_eq0, nI_0lt, nI_le0, nI_clamp, nI_pd, nI_sb, zOf_some, zOp_some, zOp_none, kI_int, kL_long, kO_ref, kO_null, nlt_T, nlt_F, nle_T, nle_F, neq_F, vpT, azUp_at, if_true, if_false, true_and, and_true, true_implies, false_implies, implies_true, not_true_eq_false, not_false_eq_true, true_or, or_true, false_or, or_false, and_false, false_and, eq_self, n01_0, n01_1, nm1_0]
      exact h _ w1 w2
    rw [e] at h ⊢
    dsimp only at h
    simp (disch := omega) only [nI_ad, nI_ml, nI_lti, nI_lei, nI_eqi, nI_nn, nI_0le, nI_eq0, nI_0lt, nI_le0, nI_clamp, nI_pd, nI_sb, zOf_some, zOp_some, zOp_none, kI_int, kL_long, kO_ref, kO_null, nlt_T, nlt_F, nle_T, nle_F, neq_F, vpT, azUp_at, if_true, if_false, true_and, and_true, true_implies, false_implies, implies_true, not_true_eq_false, not_false_eq_true, true_or, or_true, false_or, or_false, and_false, false_and, eq_self, n01_0, n01_1, nm1_0, k0, f0]
    refine S_binds9 (d := d + 3) hR hK htk hx hrd ho h12 h25 k220 (by decide) (by decide) (by decide) (by decide) (by rw [e220]; exact hC.1) hS.1 true fun I2 u1 u2 u3 => ?_
    obtain ⟨w1, w2⟩ := hW.kp (I' := I2) (J' := J) (g1.trans ⟨fun c a b => u1.1 c a (by omega) (by omega) (by omega), fun j a => u1.2 j (by omega) (by omega)⟩) fun _ _ => rfl
    have h := h _ w1 w2
    cases hb : bnds cs st.1 with
    | nil =>
      rw [hb] at h
      have e0 : nI (cnt true ([] : List (List Nat))) = nI 0 := rfl
      rw [e0]
      simp (disch := omega) only [nI_ad, nI_ml, nI_lti, nI_lei, nI_eqi, nI_nn, nI_0le, nI_eq0, nI_0lt, nI_le0, nI_clamp, nI_pd, nI_sb, zOf_some, zOp_some, zOp_none, kI_int, kL_long, kO_ref, kO_null, nlt_T, nlt_F, nle_T, nle_F, neq_F, vpT, azUp_at, if_true, if_false, true_and, and_true, true_implies, false_implies, implies_true, not_true_eq_false, not_false_eq_true, true_or, or_true, false_or, or_false, and_false, false_and, eq_self, n01_0, n01_1, nm1_0]
      exact h
    | cons ch l =>
      rw [hb] at h
      have e0 : nI (cnt true (ch :: l)) = nI 1 := by
        unfold cnt
        rw [if_pos rfl, List.length_cons, Nat.min_eq_left (by omega)]
      have e234 := u3 ch l hb i hi
      rw [e0]
      simp (disch := omega) only [nI_ad, nI_ml, nI_lti, nI_lei, nI_eqi, nI_nn, nI_0le, nI_eq0, nI_0lt, nI_le0, nI_clamp, nI_pd, nI_sb, zOf_some, zOp_some, zOp_none, kI_int, kL_long, kO_ref, kO_null, nlt_T, nlt_F, nle_T, nle_F, neq_F, vpT, azUp_at, if_true, if_false, true_and, and_true, true_implies, false_implies, implies_true, not_true_eq_false, not_false_eq_true, true_or, or_true, false_or, or_false, and_false, false_and, eq_self, n01_0, n01_1, nm1_0, k0, f29, k234, e234]
      exact h
theorem S_mdGo (hR : azClosed R) (hW : MW σ st) {x : Int32} (h : ∀ σ', MW σ' (aGo st x).2 → mdF σ σ' → Q (some (.int (aGo st x).1)) σ') : R (d + 26) mX9_go 0 [.ref 228, .int x] [] σ Q := by
  obtain ⟨⟨n, z, kd⟩, I, J, F⟩ := σ
  obtain ⟨hK, hC, hS⟩ := id hW
  have hK : MdOk kd F := hK
  have hC : cMd I st := hC
  have ⟨k0, ⟨k220, k221, k222, _⟩, ⟨_, k233, k234, k235, _⟩, ⟨f0, f1, f2, _⟩, ⟨_, f28, f29, f30, _⟩⟩ := id hK
  refine BX9_go_0 hR (S_isPlace9 hR ?_)
  unfold isP
  unfold aGo at h
  rcases ix_cases x (n := 10) (by decide) with ⟨e, c⟩ | ⟨p, hp, rfl, e⟩
  · rw [e] at h ⊢
    simp (disch := omega) only [nI_ad, nI_ml, nI_lti, nI_lei, nI_eqi, nI_nn, nI_0le, nI_eq0, nI_0lt, nI_le0, nI_clamp, nI_pd, nI_sb, zOf_some, zOp_some, zOp_none, kI_int, kL_long, kO_ref, kO_null, nlt_T, nlt_F, nle_T, nle_F, neq_F, vpT, azUp_at, if_true, if_false, true_and, and_true, true_implies, false_implies, implies_true, not_true_eq_false, not_false_eq_true, true_or, or_true, false_or, or_false, and_false, false_and, eq_self, n01_0, n01_1, nm1_0]
    exact h _ hW mdF.refl
  rw [e] at h ⊢
  dsimp only at h
  simp (disch := omega) only [nI_ad, nI_ml, nI_lti, nI_lei, nI_eqi, nI_nn, nI_0le, nI_eq0, nI_0lt, nI_le0, nI_clamp, nI_pd, nI_sb, zOf_some, zOp_some, zOp_none, kI_int, kL_long, kO_ref, kO_null, nlt_T, nlt_F, nle_T, nle_F, neq_F, vpT, azUp_at, if_true, if_false, true_and, and_true, true_implies, false_implies, implies_true, not_true_eq_false, not_false_eq_true, true_or, or_true, false_or, or_false, and_false, false_and, eq_self, n01_0, n01_1, nm1_0, k0, f0]
  refine S_goes9 hR hK hC.2.1 hS.2.1 hp k220 (by decide) (by decide) hC.1 hS.1 fun I1 g1 g2 => ?_
  have hW1 := (hW.kp g1.mdS (J' := J) fun _ _ => rfl).1
  cases hf : pfire (rsOf st.2.1) p st.1 with
  | none =>
    rw [hf] at h
    obtain ⟨w1, w2⟩ := hW.kp g1.mdS (J' := J) fun _ _ => rfl
    simp (disch := omega) only [nI_ad, nI_ml, nI_lti, nI_lei, nI_eqi, nI_nn, nI_0le, nI_eq0, nI_0lt, nI_le0, nI_clamp, nI_pd, nI_sb, zOf_some, zOp_some, zOp_none, kI_int, kL_long, kO_ref, kO_null, nlt_T, nlt_F, nle_T, nle_F, neq_F, vpT, azUp_at, if_true, if_false, true_and, and_true, true_implies, false_implies, implies_true, not_true_eq_false, not_false_eq_true, true_or, or_true, false_or, or_false, and_false, false_and, eq_self, n01_0, n01_1, nm1_0, Option.isSome_none, Bool.false_eq_true]
    exact h _ w1 w2
  | some M =>
    rw [hf] at h
    dsimp only at h
    have hM : mOK M := by
      unfold pfire rsOf at hf
      cases hr : st.2.1 p with
      | none => rw [hr] at hf; cases hf
      | some c =>
        rw [hr] at hf
        exact fire_ok (hS.rule (t := c.1) (cs := c.2) hr) hS.1 hf
    have hcd := g2 M hf
    have e4 : I1 228 4 = nI st.2.2.2.2.1 := by rw [g1.2 4 (by decide)]; exact hC.2.2.2.2.1
    simp (disch := omega) only [nI_ad, nI_ml, nI_lti, nI_lei, nI_eqi, nI_nn, nI_0le, nI_eq0, nI_0lt, nI_le0, nI_clamp, nI_pd, nI_sb, zOf_some, zOp_some, zOp_none, kI_int, kL_long, kO_ref, kO_null, nlt_T, nlt_F, nle_T, nle_F, neq_F, vpT, azUp_at, if_true, if_false, true_and, and_true, true_implies, false_implies, implies_true, not_true_eq_false, not_false_eq_true, true_or, or_true, false_or, or_false, and_false, false_and, eq_self, n01_0, n01_1, nm1_0, k0, f0, f30, Option.isSome_some]
    refine S_pours9 hR (by decide) k235 k220 (by decide) (by decide) (by decide) (by decide) fun I2 p1 p2 p3 => ⟨rfl, ?_⟩
    have e42 : I2 228 4 = nI st.2.2.2.2.1 := by rw [p1 228 (by decide)]; exact e4
    simp (disch := omega) only [nI_ad, nI_ml, nI_lti, nI_lei, nI_eqi, nI_nn, nI_0le, nI_eq0, nI_0lt, nI_le0, nI_clamp, nI_pd, nI_sb, zOf_some, zOp_some, zOp_none, kI_int, kL_long, kO_ref, kO_null, nlt_T, nlt_F, nle_T, nle_F, neq_F, vpT, azUp_at, if_true, if_false, true_and, and_true, true_implies, false_implies, implies_true, not_true_eq_false, not_false_eq_true, true_or, or_true, false_or, or_false, and_false, false_and, eq_self, n01_0, n01_1, nm1_0, k0, e42]
    refine h _ (MW.mk hK (hC.mark (fun b b1 b2 => by rw [azUp_nb b1, p1 b (by omega)]; exact g1.1 b b1 (by omega)) (fun j j1 j2 => by rw [azUp_nk j1, p1 228 (by decide)]; exact g1.2 j (by omega)) azUp_s ?_) ⟨hM, hS.2⟩) (mdF_I (fun b hb => by rw [azUp_nb (by omega), p1 b (by omega)]; exact g1.1 b (by omega) (by omega)) fun _ _ => rfl)
    rw [azUp_nb (by decide)]
    refine hcd.row fun i hi => ?_
    have := p2 i hi
    rw [Nat.zero_add] at this
    exact this
theorem allT_lt (rs : Nat → Option (List Cls)) (m : Mk) : ∀ p, allT rs m p < 2 ^ p := by
  intro p
  induction p with
  | zero => show 0 < 1; decide
  | succ p ih =>
    have e : allT rs m (p + 1) = if (pfire rs p m).isSome then allT rs m p ||| 2 ^ p else allT rs m p := rfl
    rw [e]
    have h1 : (2 : Nat) ^ p < 2 ^ (p + 1) := Nat.pow_lt_pow_right (by decide) (by omega)
    split
    · exact Nat.or_lt_two_pow (Nat.lt_trans ih h1) h1
    · exact Nat.lt_trans ih h1
theorem S_mdAll (hR : azClosed R) (hW : MW σ st) (h : ∀ σ', MW σ' st → mdF σ σ' → Q (some (.int (aAll st))) σ') : R (d + 26) mX9_all 0 [.ref 228, .retAddr 0, .retAddr 0] [] σ Q := by
  obtain ⟨⟨n, z, kd⟩, I, J, F⟩ := σ
  obtain ⟨hK, hC, hS⟩ := id hW
  have hK : MdOk kd F := hK
  have hC : cMd I st := hC
  have ⟨k0, ⟨k220, k221, k222, _⟩, _, ⟨f0, f1, f2, _⟩, _⟩ := id hK
  have main : ∀ (s p : Nat) (I1 : azI), s + p = 10 → frG9 I I1 → R (d + 26) mX9_all 4 [.ref 228, .int (nI (allT (rsOf st.2.1) st.1 p)), .int (nI p)] [] ((n, z, kd), I1, J, F) Q := by
    intro s
    induction s with
    | zero =>
      intro p I1 hs g
      obtain rfl : p = 10 := by omega
      obtain ⟨w1, w2⟩ := hW.kp g.mdS (J' := J) fun _ _ => rfl
      refine BX9_all_4 hR ?_
      simp (disch := omega) only [nI_ad, nI_ml, nI_lti, nI_lei, nI_eqi, nI_nn, nI_0le, nI_eq0, nI_0lt, nI_le0, nI_clamp, nI_pd, nI_sb, zOf_some, zOp_some, zOp_none, kI_int, kL_long, kO_ref, kO_null, nlt_T, nlt_F, nle_T, nle_F, neq_F, vpT, azUp_at, if_true, if_false, true_and, and_true, true_implies, false_implies, implies_true, not_true_eq_false, not_false_eq_true, true_or, or_true, false_or, or_false, and_false, false_and, eq_self, n01_0, n01_1, nm1_0]
      exact h _ w1 w2
    | succ s ih =>
      intro p I1 hs g
      have hp : p < 10 := by omega
      have e220 : I1 229 = I 229 := g.1 229 (by decide) (by decide)
      have e222 : I1 231 = I 231 := g.1 231 (by decide) (by decide)
      have ea : allT (rsOf st.2.1) st.1 (p + 1) = if (pfire (rsOf st.2.1) p st.1).isSome then allT (rsOf st.2.1) st.1 p ||| 2 ^ p else allT (rsOf st.2.1) st.1 p := rfl
      refine BX9_all_4 hR ?_
      simp (disch := omega) only [nI_ad, nI_ml, nI_lti, nI_lei, nI_eqi, nI_nn, nI_0le, nI_eq0, nI_0lt, nI_le0, nI_clamp, nI_pd, nI_sb, zOf_some, zOp_some, zOp_none, kI_int, kL_long, kO_ref, kO_null, nlt_T, nlt_F, nle_T, nle_F, neq_F, vpT, azUp_at, if_true, if_false, true_and, and_true, true_implies, false_implies, implies_true, not_true_eq_false, not_false_eq_true, true_or, or_true, false_or, or_false, and_false, false_and, eq_self, n01_0, n01_1, nm1_0, k0, f0]
      refine S_goes9 hR hK (by rw [e222]; exact hC.2.1) hS.2.1 hp k220 (by decide) (by decide) (by rw [e220]; exact hC.1) hS.1 fun I2 g1 g2 => ?_
      have hh := ih (p + 1) I2 (by omega) (g.trans g1)
      rw [ea] at hh
      by_cases c : (pfire (rsOf st.2.1) p st.1).isSome = true
      · rw [if_pos c] at hh ⊢
        simp (disch := omega) only [nI_ad, nI_ml, nI_lti, nI_lei, nI_eqi, nI_nn, nI_0le, nI_eq0, nI_0lt, nI_le0, nI_clamp, nI_pd, nI_sb, zOf_some, zOp_some, zOp_none, kI_int, kL_long, kO_ref, kO_null, nlt_T, nlt_F, nle_T, nle_F, neq_F, vpT, azUp_at, if_true, if_false, true_and, and_true, true_implies, false_implies, implies_true, not_true_eq_false, not_false_eq_true, true_or, or_true, false_or, or_false, and_false, false_and, eq_self, n01_0, n01_1, nm1_0, nI_bit hp, nI_or]
        exact hh
      · rw [if_neg c] at hh ⊢
        simp (disch := omega) only [nI_ad, nI_ml, nI_lti, nI_lei, nI_eqi, nI_nn, nI_0le, nI_eq0, nI_0lt, nI_le0, nI_clamp, nI_pd, nI_sb, zOf_some, zOp_some, zOp_none, kI_int, kL_long, kO_ref, kO_null, nlt_T, nlt_F, nle_T, nle_F, neq_F, vpT, azUp_at, if_true, if_false, true_and, and_true, true_implies, false_implies, implies_true, not_true_eq_false, not_false_eq_true, true_or, or_true, false_or, or_false, and_false, false_and, eq_self, n01_0, n01_1, nm1_0, nI_or, Nat.or_zero]
        exact hh
  refine BX9_all_0 hR ?_
  exact main 10 0 I rfl frG9.refl
end S9
