/-! THE CLASS: can, bound, bindings, go, all. -/
section S8
variable {R : azP} {d : Nat} {σ : azS} {Q : azQ} {st : St}
theorem stOK.fire (hS : stOK st) {p : Nat} {M : Mk} (h : pfire (rsOf st.2.1) p st.1 = some M) : mOK M := by
  refine pfire_ok (fun cs hcs => ?_) hS.1 h
  obtain ⟨t, _, _, _, _, h6⟩ := hS.2.1.rl hcs
  exact h6
theorem scr_of {I I' : azI} (h : ∀ c, c ≠ 26 + 1 → c ≠ 26 + 2 → c ≠ 26 + 3 → c ≠ 4 + 1 → c ≠ 4 + 2 → I' c = I c) : ∀ b, ¬ scrB b → I' b = I b := fun b hb => by
  have hb' : ¬ ((4 ≤ b ∧ b ≤ 9) ∨ (24 ≤ b ∧ b ≤ 29) ∨ (212 ≤ b ∧ b ≤ 214) ∨ (219 ≤ b ∧ b ≤ 222)) := hb
  exact h b (by omega) (by omega) (by omega) (by omega) (by omega)
/-- scratch alone has changed -/
theorem CW.scr {n z : Nat} {kd : azK} {I I' : azI} {J J' : azJ} {F : azR} (hW : CW ((n, z, kd), I, J, F) st) (hf : ∀ b, ¬ scrB b → I' b = I b) (hj : ∀ b, 228 ≤ b → J' b = J b) : CW ((n, z, kd), I', J', F) st ∧ clF ((n, z, kd), I, J, F) ((n, z, kd), I', J', F) := by
  obtain ⟨hT, hC, hX, hn, hS⟩ := hW
  have g : ∀ b, 228 ≤ b → I' b = I b := fun b hb => hf b (by
    intro h
    have h : (4 ≤ b ∧ b ≤ 9) ∨ (24 ≤ b ∧ b ≤ 29) ∨ (212 ≤ b ∧ b ≤ 214) ∨ (219 ≤ b ∧ b ≤ 222) := h
    omega)
  exact ⟨CW.mk hT (cTn.kp hC hS hf) (TxOk.keep hX fun b hb => g b (by omega)) hn hS, clF_I g hj⟩
theorem S_tnCan (hR : azClosed R) (hW : CW σ st) {x : Int32} (h : ∀ σ', CW σ' st → clF σ σ' → Q (some (.int (aCan st x))) σ') : R (d + 8) mX8_can 0 [.ref 0, .int x] [] σ Q := by
  obtain ⟨⟨n, z, kd⟩, I, J, F⟩ := σ
  have hW' := hW
  obtain ⟨hT, hC, hX, hn, hS⟩ := hW
  have hT : TnOk kd F := hT
  have hC : cTn kd I F st := hC
  obtain ⟨⟨k0, f0, f1, f2, f3, f4, f5, f6, f7, f8, f9⟩, ⟨m1, m2, m3⟩, ⟨t1, t2, t3⟩, p1, p2, p3, p4, p5⟩ := id hT
  have kg := hC.2.1.1
  have kF := p2.1
  have hh := h _ hW' (clF_I (fun _ _ => rfl) fun _ _ => rfl)
  refine BX8_can_0 hR (S_isPart hR ?_)
  unfold isP
  unfold aCan at h hh
  rcases ix_cases x (n := 10) (by decide) with ⟨e, c⟩ | ⟨p, hp, rfl, e⟩
  · rw [e] at hh ⊢
    simp (disch := omega) only [nI_ad, nI_ml, nI_lti, nI_lei, nI_eqi, nI_nn, nI_0le, nI_eq0, nI_0lt, nI_le0, nI_clamp, nI_pd, nI_sb, zOf_some, zOp_some, zOp_none, kI_int, kL_long, kO_ref, kO_null, nlt_T, nlt_F, nle_T, nle_F, neq_F, vpT, azUp_at, if_true, if_false, true_and, and_true, true_implies, false_implies, implies_true, not_true_eq_false, not_false_eq_true, true_or, or_true, false_or, or_false, and_false, false_and, eq_self, n01_0, n01_1, nm1_0]
    exact hh
  rw [e] at h hh ⊢
  dsimp only at h hh
  rcases hC.2.1.cases hp with ⟨e1, e2⟩ | ⟨t, cs, r, e1, e2, e3, e4, e5, e6, e7⟩
  · rw [e1] at hh
    simp (disch := omega) only [nI_ad, nI_ml, nI_lti, nI_lei, nI_eqi, nI_nn, nI_0le, nI_eq0, nI_0lt, nI_le0, nI_clamp, nI_pd, nI_sb, zOf_some, zOp_some, zOp_none, kI_int, kL_long, kO_ref, kO_null, nlt_T, nlt_F, nle_T, nle_F, neq_F, vpT, azUp_at, if_true, if_false, true_and, and_true, true_implies, false_implies, implies_true, not_true_eq_false, not_false_eq_true, true_or, or_true, false_or, or_false, and_false, false_and, eq_self, n01_0, n01_1, nm1_0, k0, f3, kg, e2]
    exact hh
  · rw [e1] at h
    dsimp only at h
    simp (disch := omega) only [nI_ad, nI_ml, nI_lti, nI_lei, nI_eqi, nI_nn, nI_0le, nI_eq0, nI_0lt, nI_le0, nI_clamp, nI_pd, nI_sb, zOf_some, zOp_some, zOp_none, kI_int, kL_long, kO_ref, kO_null, nlt_T, nlt_F, nle_T, nle_F, neq_F, vpT, azUp_at, if_true, if_false, true_and, and_true, true_implies, false_implies, implies_true, not_true_eq_false, not_false_eq_true, true_or, or_true, false_or, or_false, and_false, false_and, eq_self, n01_0, n01_1, nm1_0, k0, f3, kg, e3, f6, f0, f1, kF]
    refine S_goes hR p2 e5 m1 m2 (by omega) (by omega) (by omega) (by omega) (by omega) hC.1 hS.1 e6 e7 fun I' g1 g2 => ?_
    obtain ⟨w1, w2⟩ := hW'.scr (scr_of g1) (J' := J) fun _ _ => rfl
    have := h _ w1 w2
    revert this
    cases (fire cs st.1).isSome with
    | true => intro this; simp (disch := omega) only [nI_ad, nI_ml, nI_lti, nI_lei, nI_eqi, nI_nn, nI_0le, nI_eq0, nI_0lt, nI_le0, nI_clamp, nI_pd, nI_sb, zOf_some, zOp_some, zOp_none, kI_int, kL_long, kO_ref, kO_null, nlt_T, nlt_F, nle_T, nle_F, neq_F, vpT, azUp_at, if_true, if_false, true_and, and_true, true_implies, false_implies, implies_true, not_true_eq_false, not_false_eq_true, true_or, or_true, false_or, or_false, and_false, false_and, eq_self, n01_0, n01_1, nm1_0]; exact this
    | false => intro this; rw [if_neg (by decide)] at this ⊢; simp (disch := omega) only [nI_ad, nI_ml, nI_lti, nI_lei, nI_eqi, nI_nn, nI_0le, nI_eq0, nI_0lt, nI_le0, nI_clamp, nI_pd, nI_sb, zOf_some, zOp_some, zOp_none, kI_int, kL_long, kO_ref, kO_null, nlt_T, nlt_F, nle_T, nle_F, neq_F, vpT, azUp_at, if_true, if_false, true_and, and_true, true_implies, false_implies, implies_true, not_true_eq_false, not_false_eq_true, true_or, or_true, false_or, or_false, and_false, false_and, eq_self, n01_0, n01_1, nm1_0]; exact this
theorem S_tnBound (hR : azClosed R) (hW : CW σ st) {x y : Int32} (h : ∀ σ', CW σ' st → clF σ σ' → Q (some (.int (aBound st x y))) σ') : R (d + 8) mX8_bound 0 [.ref 0, .int x, .int y, .retAddr 0] [] σ Q := by
  obtain ⟨⟨n, z, kd⟩, I, J, F⟩ := σ
  have hW' := hW
  obtain ⟨hT, hC, hX, hn, hS⟩ := hW
  have hT : TnOk kd F := hT
  have hC : cTn kd I F st := hC
  obtain ⟨⟨k0, f0, f1, f2, f3, f4, f5, f6, f7, f8, f9⟩, ⟨m1, m2, m3⟩, ⟨t1, t2, t3⟩, p1, p2, p3, p4, p5⟩ := id hT
  have kg := hC.2.1.1
  have kF := p2.1
  have hh := h _ hW' (clF_I (fun _ _ => rfl) fun _ _ => rfl)
  refine BX8_bound_0 hR (S_isPart hR ?_)
  unfold isP
  unfold aBound at h hh
  rcases ix_cases x (n := 10) (by decide) with ⟨e, c⟩ | ⟨p, hp, rfl, e⟩
  · rw [e] at hh ⊢
    simp (disch := omega) only [nI_ad, nI_ml, nI_lti, nI_lei, nI_eqi, nI_nn, nI_0le, nI_eq0, nI_0lt, nI_le0, nI_clamp, nI_pd, nI_sb, zOf_some, zOp_some, zOp_none, kI_int, kL_long, kO_ref, kO_null, nlt_T, nlt_F, nle_T, nle_F, neq_F, vpT, azUp_at, if_true, if_false, true_and, and_true, true_implies, false_implies, implies_true, not_true_eq_false, not_false_eq_true, true_or, or_true, false_or, or_false, and_false, false_and, eq_self, n01_0, n01_1, nm1_0]
    exact hh
  rw [e] at h hh ⊢
  dsimp only at h hh
  rcases hC.2.1.cases hp with ⟨e1, e2⟩ | ⟨t, cs, r, e1, e2, e3, e4, e5, e6, e7⟩
  · rw [e1] at hh
    simp (disch := omega) only [nI_ad, nI_ml, nI_lti, nI_lei, nI_eqi, nI_nn, nI_0le, nI_eq0, nI_0lt, nI_le0, nI_clamp, nI_pd, nI_sb, zOf_some, zOp_some, zOp_none, kI_int, kL_long, kO_ref, kO_null, nlt_T, nlt_F, nle_T, nle_F, neq_F, vpT, azUp_at, if_true, if_false, true_and, and_true, true_implies, false_implies, implies_true, not_true_eq_false, not_false_eq_true, true_or, or_true, false_or, or_false, and_false, false_and, eq_self, n01_0, n01_1, nm1_0, k0, f3, kg, e2]
    exact hh
  rw [e1] at h hh
  dsimp only at h hh
  have k5 := e5.1
  have h3 : nTk cs ≤ 3 := e7.2.2.2.1
  have ct : I r 1 = nI (nTk cs) := e6.2.1
  rcases ix_cases y (n := nTk cs) (by omega) with ⟨e, c | ⟨c0, c⟩⟩ | ⟨i, hi, rfl, e⟩
  · rw [e] at hh
    simp (disch := omega) only [nI_ad, nI_ml, nI_lti, nI_lei, nI_eqi, nI_nn, nI_0le, nI_eq0, nI_0lt, nI_le0, nI_clamp, nI_pd, nI_sb, zOf_some, zOp_some, zOp_none, kI_int, kL_long, kO_ref, kO_null, nlt_T, nlt_F, nle_T, nle_F, neq_F, vpT, azUp_at, if_true, if_false, true_and, and_true, true_implies, false_implies, implies_true, not_true_eq_false, not_false_eq_true, true_or, or_true, false_or, or_false, and_false, false_and, eq_self, n01_0, n01_1, nm1_0, k0, f3, kg, e3, c]
    exact hh
  · rw [e] at hh
    have c2 : ¬ (y < nI (nTk cs)) := Int32.not_lt.mpr c
    simp (disch := omega) only [nI_ad, nI_ml, nI_lti, nI_lei, nI_eqi, nI_nn, nI_0le, nI_eq0, nI_0lt, nI_le0, nI_clamp, nI_pd, nI_sb, zOf_some, zOp_some, zOp_none, kI_int, kL_long, kO_ref, kO_null, nlt_T, nlt_F, nle_T, nle_F, neq_F, vpT, azUp_at, if_true, if_false, true_and, and_true, true_implies, false_implies, implies_true, not_true_eq_false, not_false_eq_true, true_or, or_true, false_or, or_false, and_false, false_and, eq_self, n01_0, n01_1, nm1_0, k0, f3, kg, e3, c0, k5, ct, c2]
    exact hh
  · rw [e] at h
    dsimp only at h
    simp (disch := omega) only [nI_ad, nI_ml, nI_lti, nI_lei, nI_eqi, nI_nn, nI_0le, nI_eq0, nI_0lt, nI_le0, nI_clamp, nI_pd, nI_sb, zOf_some, zOp_some, zOp_none, kI_int, kL_long, kO_ref, kO_null, nlt_T, nlt_F, nle_T, nle_F, neq_F, vpT, azUp_at, if_true, if_false, true_and, and_true, true_implies, false_implies, implies_true, not_true_eq_false, not_false_eq_true, true_or, or_true, false_or, or_false, and_false, false_and, eq_self, n01_0, n01_1, nm1_0, k0, f3, kg, e3, k5, ct, f6, f0, kF]
    refine S_bindFirst hR p2 e5 m1 (by omega) (by omega) hC.1 hS.1 e6 e7 fun I' g1 g2 => ?_
    obtain ⟨w1, w2⟩ := hW'.scr (scr_of fun c h1 h2 h3 _ _ => g1 c h1 h2 h3) (J' := J) fun _ _ => rfl
    have := h _ w1 w2
    revert this
    cases hb : bnds cs st.1 with
    | nil =>
      intro this
      rw [if_pos rfl]
      simp (disch := omega) only [nI_ad, nI_ml, nI_lti, nI_lei, nI_eqi, nI_nn, nI_0le, nI_eq0, nI_0lt, nI_le0, nI_clamp, nI_pd, nI_sb, zOf_some, zOp_some, zOp_none, kI_int, kL_long, kO_ref, kO_null, nlt_T, nlt_F, nle_T, nle_F, neq_F, vpT, azUp_at, if_true, if_false, true_and, and_true, true_implies, false_implies, implies_true, not_true_eq_false, not_false_eq_true, true_or, or_true, false_or, or_false, and_false, false_and, eq_self, n01_0, n01_1, nm1_0]
      exact this
    | cons ch l =>
      intro this
      have hbi := g2 ch l hb
      have hcl := (bnds_mem (cs := cs) (m := st.1) (x := ch) (by rw [hb]; exact List.mem_cons_self ..)).1
      rw [if_neg (by simp)]
      simp (disch := omega) only [nI_ad, nI_ml, nI_lti, nI_lei, nI_eqi, nI_nn, nI_0le, nI_eq0, nI_0lt, nI_le0, nI_clamp, nI_pd, nI_sb, zOf_some, zOp_some, zOp_none, kI_int, kL_long, kO_ref, kO_null, nlt_T, nlt_F, nle_T, nle_F, neq_F, vpT, azUp_at, if_true, if_false, true_and, and_true, true_implies, false_implies, implies_true, not_true_eq_false, not_false_eq_true, true_or, or_true, false_or, or_false, and_false, false_and, eq_self, n01_0, n01_1, nm1_0, k0, f6, kF]
      refine S_chosenFor hR p2 (by omega) ?_
      rw [(hbi i (by omega)).1]
      simp (disch := omega) only [nI_ad, nI_ml, nI_lti, nI_lei, nI_eqi, nI_nn, nI_0le, nI_eq0, nI_0lt, nI_le0, nI_clamp, nI_pd, nI_sb, zOf_some, zOp_some, zOp_none, kI_int, kL_long, kO_ref, kO_null, nlt_T, nlt_F, nle_T, nle_F, neq_F, vpT, azUp_at, if_true, if_false, true_and, and_true, true_implies, false_implies, implies_true, not_true_eq_false, not_false_eq_true, true_or, or_true, false_or, or_false, and_false, false_and, eq_self, n01_0, n01_1, nm1_0]
      exact this
theorem S_tnBindings (hR : azClosed R) (hW : CW σ st) {x : Int32} (h : ∀ σ', CW σ' st → clF σ σ' → Q (some (.int (aBindings st x))) σ') : R (d + 8) mX8_bindings 0 [.ref 0, .int x] [] σ Q := by
  obtain ⟨⟨n, z, kd⟩, I, J, F⟩ := σ
  have hW' := hW
  obtain ⟨hT, hC, hX, hn, hS⟩ := hW
  have hT : TnOk kd F := hT
  have hC : cTn kd I F st := hC
  obtain ⟨⟨k0, f0, f1, f2, f3, f4, f5, f6, f7, f8, f9⟩, ⟨m1, m2, m3⟩, ⟨t1, t2, t3⟩, p1, p2, p3, p4, p5⟩ := id hT
  have kg := hC.2.1.1
  have kF := p2.1
  have hh := h _ hW' (clF_I (fun _ _ => rfl) fun _ _ => rfl)
  refine BX8_bindings_0 hR (S_isPart hR ?_)
  unfold isP
  unfold aBindings at h hh
  rcases ix_cases x (n := 10) (by decide) with ⟨e, c⟩ | ⟨p, hp, rfl, e⟩
  · rw [e] at hh ⊢
    simp (disch := omega) only [nI_ad, nI_ml, nI_lti, nI_lei, nI_eqi, nI_nn, nI_0le, nI_eq0, nI_0lt, nI_le0, nI_clamp, nI_pd, nI_sb, zOf_some, zOp_some, zOp_none, kI_int, kL_long, kO_ref, kO_null, nlt_T, nlt_F, nle_T, nle_F, neq_F, vpT, azUp_at, if_true, if_false, true_and, and_true, true_implies, false_implies, implies_true, not_true_eq_false, not_false_eq_true, true_or, or_true, false_or, or_false, and_false, false_and, eq_self, n01_0, n01_1, nm1_0]
    exact hh
  rw [e] at h hh ⊢
  dsimp only at h hh
  rcases hC.2.1.cases hp with ⟨e1, e2⟩ | ⟨t, cs, r, e1, e2, e3, e4, e5, e6, e7⟩
  · rw [e1] at hh
    simp (disch := omega) only [nI_ad, nI_ml, nI_lti, nI_lei, nI_eqi, nI_nn, nI_0le, nI_eq0, nI_0lt, nI_le0, nI_clamp, nI_pd, nI_sb, zOf_some, zOp_some, zOp_none, kI_int, kL_long, kO_ref, kO_null, nlt_T, nlt_F, nle_T, nle_F, neq_F, vpT, azUp_at, if_true, if_false, true_and, and_true, true_implies, false_implies, implies_true, not_true_eq_false, not_false_eq_true, true_or, or_true, false_or, or_false, and_false, false_and, eq_self, n01_0, n01_1, nm1_0, k0, f3, kg, e2]
    exact hh
  · rw [e1] at h
    dsimp only at h
    simp (disch := omega) only [nI_ad, nI_ml, nI_lti, nI_lei, nI_eqi, nI_nn, nI_0le, nI_eq0, nI_0lt, nI_le0, nI_clamp, nI_pd, nI_sb, zOf_some, zOp_some, zOp_none, kI_int, kL_long, kO_ref, kO_null, nlt_T, nlt_F, nle_T, nle_F, neq_F, vpT, azUp_at, if_true, if_false, true_and, and_true, true_implies, false_implies, implies_true, not_true_eq_false, not_false_eq_true, true_or, or_true, false_or, or_false, and_false, false_and, eq_self, n01_0, n01_1, nm1_0, k0, f3, kg, e3, f6, f0, kF]
    refine S_countBindings hR p2 e5 m1 (by omega) (by omega) hC.1 hS.1 e6 e7 fun I' g1 => ?_
    obtain ⟨w1, w2⟩ := hW'.scr (scr_of fun c h1 h2 h3 _ _ => g1 c h1 h2 h3) (J' := J) fun _ _ => rfl
    simp (disch := omega) only [nI_ad, nI_ml, nI_lti, nI_lei, nI_eqi, nI_nn, nI_0le, nI_eq0, nI_0lt, nI_le0, nI_clamp, nI_pd, nI_sb, zOf_some, zOp_some, zOp_none, kI_int, kL_long, kO_ref, kO_null, nlt_T, nlt_F, nle_T, nle_F, neq_F, vpT, azUp_at, if_true, if_false, true_and, and_true, true_implies, false_implies, implies_true, not_true_eq_false, not_false_eq_true, true_or, or_true, false_or, or_false, and_false, false_and, eq_self, n01_0, n01_1, nm1_0]
    exact h _ w1 w2
theorem S_tnGo (hR : azClosed R) (hW : CW σ st) {x : Int32} (h : ∀ σ', CW σ' (aGo st x).2 → clF σ σ' → Q (some (.int (aGo st x).1)) σ') : R (d + 8) mX8_go 0 [.ref 0, .int x] [] σ Q := by
  obtain ⟨⟨n, z, kd⟩, I, J, F⟩ := σ
  have hW' := hW
  obtain ⟨hT, hC, hX, hn, hS⟩ := hW
  have hT : TnOk kd F := hT
  have hC : cTn kd I F st := hC
  have hX : TxOk kd I := hX
  have hn : CN n F := hn
  obtain ⟨⟨k0, f0, f1, f2, f3, f4, f5, f6, f7, f8, f9⟩, ⟨m1, m2, m3⟩, ⟨t1, t2, t3⟩, p1, p2, p3, p4, p5⟩ := id hT
  have kg := hC.2.1.1
  have kF := p2.1
  have km : (kd 1).1 = 3 := by rw [m1.1]
  refine BX8_go_0 hR (S_isPart hR ?_)
  unfold isP
  unfold aGo at h
  rcases ix_cases x (n := 10) (by decide) with ⟨e, c⟩ | ⟨p, hp, rfl, e⟩
  · rw [e] at h ⊢
    simp (disch := omega) only [nI_ad, nI_ml, nI_lti, nI_lei, nI_eqi, nI_nn, nI_0le, nI_eq0, nI_0lt, nI_le0, nI_clamp, nI_pd, nI_sb, zOf_some, zOp_some, zOp_none, kI_int, kL_long, kO_ref, kO_null, nlt_T, nlt_F, nle_T, nle_F, neq_F, vpT, azUp_at, if_true, if_false, true_and, and_true, true_implies, false_implies, implies_true, not_true_eq_false, not_false_eq_true, true_or, or_true, false_or, or_false, and_false, false_and, eq_self, n01_0, n01_1, nm1_0]
    exact h _ hW' (clF_I (fun _ _ => rfl) fun _ _ => rfl)
  rw [e] at h ⊢
  dsimp only at h
  rcases hC.2.1.cases hp with ⟨e1, e2⟩ | ⟨t, cs, r, e1, e2, e3, e4, e5, e6, e7⟩
  · have ep : pfire (rsOf st.2.1) p st.1 = none := by unfold pfire rsOf; rw [e1]; rfl
    rw [ep] at h
    simp (disch := omega) only [nI_ad, nI_ml, nI_lti, nI_lei, nI_eqi, nI_nn, nI_0le, nI_eq0, nI_0lt, nI_le0, nI_clamp, nI_pd, nI_sb, zOf_some, zOp_some, zOp_none, kI_int, kL_long, kO_ref, kO_null, nlt_T, nlt_F, nle_T, nle_F, neq_F, vpT, azUp_at, if_true, if_false, true_and, and_true, true_implies, false_implies, implies_true, not_true_eq_false, not_false_eq_true, true_or, or_true, false_or, or_false, and_false, false_and, eq_self, n01_0, n01_1, nm1_0, k0, f6, f3, kg, e2, f0, f1, kF]
    refine S_goesNull hR ?_
    simp (disch := omega) only [nI_ad, nI_ml, nI_lti, nI_lei, nI_eqi, nI_nn, nI_0le, nI_eq0, nI_0lt, nI_le0, nI_clamp, nI_pd, nI_sb, zOf_some, zOp_some, zOp_none, kI_int, kL_long, kO_ref, kO_null, nlt_T, nlt_F, nle_T, nle_F, neq_F, vpT, azUp_at, if_true, if_false, true_and, and_true, true_implies, false_implies, implies_true, not_true_eq_false, not_false_eq_true, true_or, or_true, false_or, or_false, and_false, false_and, eq_self, n01_0, n01_1, nm1_0]
    exact h _ hW' (clF_I (fun _ _ => rfl) fun _ _ => rfl)
  · have ep : pfire (rsOf st.2.1) p st.1 = fire cs st.1 := by unfold pfire; rw [e2]
    rw [ep] at h
    simp (disch := omega) only [nI_ad, nI_ml, nI_lti, nI_lei, nI_eqi, nI_nn, nI_0le, nI_eq0, nI_0lt, nI_le0, nI_clamp, nI_pd, nI_sb, zOf_some, zOp_some, zOp_none, kI_int, kL_long, kO_ref, kO_null, nlt_T, nlt_F, nle_T, nle_F, neq_F, vpT, azUp_at, if_true, if_false, true_and, and_true, true_implies, false_implies, implies_true, not_true_eq_false, not_false_eq_true, true_or, or_true, false_or, or_false, and_false, false_and, eq_self, n01_0, n01_1, nm1_0, k0, f6, f3, kg, e3, f0, f1, kF]
    refine S_goes hR p2 e5 m1 m2 (by omega) (by omega) (by omega) (by omega) (by omega) hC.1 hS.1 e6 e7 fun I' g1 g2 => ?_
    cases ef : fire cs st.1 with
    | none =>
      rw [ef] at h
      rw [Option.isSome_none, if_neg (by decide)]
      obtain ⟨w1, w2⟩ := hW'.scr (scr_of g1) (J' := J) fun _ _ => rfl
      simp (disch := omega) only [nI_ad, nI_ml, nI_lti, nI_lei, nI_eqi, nI_nn, nI_0le, nI_eq0, nI_0lt, nI_le0, nI_clamp, nI_pd, nI_sb, zOf_some, zOp_some, zOp_none, kI_int, kL_long, kO_ref, kO_null, nlt_T, nlt_F, nle_T, nle_F, neq_F, vpT, azUp_at, if_true, if_false, true_and, and_true, true_implies, false_implies, implies_true, not_true_eq_false, not_false_eq_true, true_or, or_true, false_or, or_false, and_false, false_and, eq_self, n01_0, n01_1, nm1_0]
      exact h _ w1 w2
    | some M =>
      rw [ef] at h
      dsimp only at h
      have hMv := fire_ok e7 hS.1 ef
      have w10 : I 0 10 = nI st.2.2.2.2.1 := hC.2.2.2.2.1
      rw [Option.isSome_some, if_pos rfl]
      simp (disch := omega) only [nI_ad, nI_ml, nI_lti, nI_lei, nI_eqi, nI_nn, nI_0le, nI_eq0, nI_0lt, nI_le0, nI_clamp, nI_pd, nI_sb, zOf_some, zOp_some, zOp_none, kI_int, kL_long, kO_ref, kO_null, nlt_T, nlt_F, nle_T, nle_F, neq_F, vpT, azUp_at, if_true, if_false, true_and, and_true, true_implies, false_implies, implies_true, not_true_eq_false, not_false_eq_true, true_or, or_true, false_or, or_false, and_false, false_and, eq_self, n01_0, n01_1, nm1_0, k0, f0, f1, km]
      refine S_copy hR m1 m2 (by omega) (g2 M ef) hMv fun I2 q1 q2 => ⟨rfl, ?_⟩
      have e10 : I2 0 10 = nI st.2.2.2.2.1 := by rw [q2 0 (by omega) (by omega), g1 0 (by omega) (by omega) (by omega) (by omega) (by omega)]; exact w10
      simp (disch := omega) only [nI_ad, nI_ml, nI_lti, nI_lei, nI_eqi, nI_nn, nI_0le, nI_eq0, nI_0lt, nI_le0, nI_clamp, nI_pd, nI_sb, zOf_some, zOp_some, zOp_none, kI_int, kL_long, kO_ref, kO_null, nlt_T, nlt_F, nle_T, nle_F, neq_F, vpT, azUp_at, if_true, if_false, true_and, and_true, true_implies, false_implies, implies_true, not_true_eq_false, not_false_eq_true, true_or, or_true, false_or, or_false, and_false, false_and, eq_self, n01_0, n01_1, nm1_0, k0, e10]
      have gg : ∀ b, ¬ scrB b → b ≠ 0 → b ≠ 2 → b ≠ 3 → azUp (azUp I2 0 11 (nI 0)) 0 10 (nI (st.2.2.2.2.1 + 1)) b = I b := fun b hb h0 h2 h3 => by
        rw [azUp_nb h0, azUp_nb h0, q2 b (by omega) (by omega), scr_of g1 b hb]
      have g9 : ∀ b, 228 ≤ b → azUp (azUp I2 0 11 (nI 0)) 0 10 (nI (st.2.2.2.2.1 + 1)) b = I b := fun b hb => gg b (by
        intro h
        have h : (4 ≤ b ∧ b ≤ 9) ∨ (24 ≤ b ∧ b ≤ 29) ∨ (212 ≤ b ∧ b ≤ 214) ∨ (219 ≤ b ∧ b ≤ 222) := h
        omega) (by omega) (by omega) (by omega)
      refine h _ (CW.mk hT (hC.mark gg ?_ (w := st.2.2.2.2.1 + 1) azUp_s (q1.keep (by rw [azUp_nb (by omega), azUp_nb (by omega)]) (by rw [azUp_nb (by omega), azUp_nb (by omega)]))) (hX.keep fun b hb => g9 b (by omega)) hn ⟨hMv, hS.2⟩) (clF_I g9 fun _ _ => rfl)
      rw [azUp_nk (by omega), azUp_s]
theorem S_tnAll (hR : azClosed R) (hW : CW σ st) (h : ∀ σ', CW σ' st → clF σ σ' → Q (some (.int (aAll st))) σ') : R (d + 8) mX8_all 0 [.ref 0, .retAddr 0, .retAddr 0] [] σ Q := by
  obtain ⟨⟨n, z, kd⟩, I, J, F⟩ := σ
  have hW' := hW
  obtain ⟨hT, hC, hX, hn, hS⟩ := hW
  have hT : TnOk kd F := hT
  obtain ⟨⟨k0, f0, f1, f2, f3, f4, f5, f6, f7, f8, f9⟩, ⟨m1, m2, m3⟩, ⟨t1, t2, t3⟩, p1, p2, p3, p4, p5⟩ := id hT
  have kF := p2.1
  have main : ∀ s p (I1 : azI), s + p = 10 → (∀ b, ¬ scrB b → I1 b = I b) → R (d + 8) mX8_all 4 [.ref 0, .int (nI (allT (rsOf st.2.1) st.1 p)), .int (nI p)] [] ((n, z, kd), I1, J, F) Q := by
    intro s
    induction s with
    | zero =>
      intro p I1 hp hf
      obtain rfl : p = 10 := by omega
      obtain ⟨w1, w2⟩ := hW'.scr hf (J' := J) fun _ _ => rfl
      refine BX8_all_4 hR ?_
      simp (disch := omega) only [nI_ad, nI_ml, nI_lti, nI_lei, nI_eqi, nI_nn, nI_0le, nI_eq0, nI_0lt, nI_le0, nI_clamp, nI_pd, nI_sb, zOf_some, zOp_some, zOp_none, kI_int, kL_long, kO_ref, kO_null, nlt_T, nlt_F, nle_T, nle_F, neq_F, vpT, azUp_at, if_true, if_false, true_and, and_true, true_implies, false_implies, implies_true, not_true_eq_false, not_false_eq_true, true_or, or_true, false_or, or_false, and_false, false_and, eq_self, n01_0, n01_1, nm1_0]
      exact h _ w1 w2
    | succ s ih =>
      intro p I1 hs hf
      have hp : p < 10 := by omega
      have hC : cTn kd I1 F st := cTn.kp hC hS hf
      have kg := hC.2.1.1
      have hh := fun I2 hf2 => ih (p + 1) I2 (by omega) hf2
      have ea : allT (rsOf st.2.1) st.1 (p + 1) = if (pfire (rsOf st.2.1) p st.1).isSome then allT (rsOf st.2.1) st.1 p ||| 2 ^ p else allT (rsOf st.2.1) st.1 p := rfl
      rw [ea] at hh
      refine BX8_all_4 hR ?_
      rcases hC.2.1.cases hp with ⟨e1, e2⟩ | ⟨t, cs, r, e1, e2, e3, e4, e5, e6, e7⟩
      · have ep : pfire (rsOf st.2.1) p st.1 = none := by unfold pfire rsOf; rw [e1]; rfl
        rw [ep, Option.isSome_none, if_neg (by decide)] at hh
        simp (disch := omega) only [nI_ad, nI_ml, nI_lti, nI_lei, nI_eqi, nI_nn, nI_0le, nI_eq0, nI_0lt, nI_le0, nI_clamp, nI_pd, nI_sb, zOf_some, zOp_some, zOp_none, kI_int, kL_long, kO_ref, kO_null, nlt_T, nlt_F, nle_T, nle_F, neq_F, vpT, azUp_at, if_true, if_false, true_and, and_true, true_implies, false_implies, implies_true, not_true_eq_false, not_false_eq_true, true_or, or_true, false_or, or_false, and_false, false_and, eq_self, n01_0, n01_1, nm1_0, k0, f6, f3, kg, e2, f0, f1, kF]
        refine S_goesNull hR ?_
        simp (disch := omega) only [nI_ad, nI_ml, nI_lti, nI_lei, nI_eqi, nI_nn, nI_0le, nI_eq0, nI_0lt, nI_le0, nI_clamp, nI_pd, nI_sb, zOf_some, zOp_some, zOp_none, kI_int, kL_long, kO_ref, kO_null, nlt_T, nlt_F, nle_T, nle_F, neq_F, vpT, azUp_at, if_true, if_false, true_and, and_true, true_implies, false_implies, implies_true, not_true_eq_false, not_false_eq_true, true_or, or_true, false_or, or_false, and_false, false_and, eq_self, n01_0, n01_1, nm1_0]
        exact hh I1 hf
      · have ep : pfire (rsOf st.2.1) p st.1 = fire cs st.1 := by unfold pfire; rw [e2]
        rw [ep] at hh
        simp (disch := omega) only [nI_ad, nI_ml, nI_lti, nI_lei, nI_eqi, nI_nn, nI_0le, nI_eq0, nI_0lt, nI_le0, nI_clamp, nI_pd, nI_sb, zOf_some, zOp_some, zOp_none, kI_int, kL_long, kO_ref, kO_null, nlt_T, nlt_F, nle_T, nle_F, neq_F, vpT, azUp_at, if_true, if_false, true_and, and_true, true_implies, false_implies, implies_true, not_true_eq_false, not_false_eq_true, true_or, or_true, false_or, or_false, and_false, false_and, eq_self, n01_0, n01_1, nm1_0, k0, f6, f3, kg, e3, f0, f1, kF]
        refine S_goes hR p2 e5 m1 m2 (by omega) (by omega) (by omega) (by omega) (by omega) hC.1 hS.1 e6 e7 fun I2 g1 g2 => ?_
        have hf2 : ∀ b, ¬ scrB b → I2 b = I b := fun b hb => by rw [scr_of g1 b hb, hf b hb]
        have hh := hh I2 hf2
        revert hh
        cases (fire cs st.1).isSome with
        | true => intro hh; rw [if_pos rfl] at hh ⊢; simp (disch := omega) only [nI_ad, nI_ml, nI_lti, nI_lei, nI_eqi, nI_nn, nI_0le, nI_eq0, nI_0lt, nI_le0, nI_clamp, nI_pd, nI_sb, zOf_some, zOp_some, zOp_none, kI_int, kL_long, kO_ref, kO_null, nlt_T, nlt_F, nle_T, nle_F, neq_F, vpT, azUp_at, if_true, if_false, true_and, and_true, true_implies, false_implies, implies_true, not_true_eq_false, not_false_eq_true, true_or, or_true, false_or, or_false, and_false, false_and, eq_self, n01_0, n01_1, nm1_0, nI_bit, nI_or]; exact hh
        | false => intro hh; rw [if_neg (by decide)] at hh ⊢; simp (disch := omega) only [nI_ad, nI_ml, nI_lti, nI_lei, nI_eqi, nI_nn, nI_0le, nI_eq0, nI_0lt, nI_le0, nI_clamp, nI_pd, nI_sb, zOf_some, zOp_some, zOp_none, kI_int, kL_long, kO_ref, kO_null, nlt_T, nlt_F, nle_T, nle_F, neq_F, vpT, azUp_at, if_true, if_false, true_and, and_true, true_implies, false_implies, implies_true, not_true_eq_false, not_false_eq_true, true_or, or_true, false_or, or_false, and_false, false_and, eq_self, n01_0, n01_1, nm1_0]; exact hh
  exact BX8_all_0 hR (main 10 0 I rfl fun _ _ => rfl)
end S8
