/-! THE REFERENCE: compares. -/
section S9
variable {R : azP} {d n z : Nat} {kd : azK} {I : azI} {J : azJ} {F : azR} {Q : azQ} {t : List Nat} {kb : Nat}
/-- with a fault nothing is read any more -/
theorem S_expr9f (hR : azClosed R) (hK : MdOk kd F) (ht : t.length ≤ 80) {f j : Nat} (hx : txt I t) (h11 : I 228 11 = nI j) (hj : j ≤ 80) (hf : f < 100000) (h12 : I 228 12 = nI f) (h : Q (some (.int (nI 0))) ((n, z, kd), I, J, F)) : R (d + 3) mX9_expression 0 [.ref 228, .retAddr 0, .retAddr 0, .retAddr 0] [] ((n, z, kd), I, J, F) Q := by
  have k0 := hK.1
  refine BX9_expression_0 hR ⟨k0, ?_⟩
  refine BX9_term_0 hR ⟨k0, ?_⟩
  refine BX9_factor_0 hR ⟨k0, ?_⟩
  refine S_peek9 hR hK ht hx h11 (by omega) ?_
  simp (disch := omega) only [nI_ad, nI_ml, nI_lti, nI_lei, nI_eqi, nI_nn, nI_0le, nI_eq0, nI_0lt, nI_le0, nI_clamp, nI_pd, nI_sb, zOf_some, zOp_some, zOp_none, kI_int, kL_long, kO_ref, kO_null, nlt_T, nlt_F, nle_T, nle_F, neq_F, vpT, azUp_at, if_true, if_false, true_and, and_true, true_implies, false_implies, implies_true, not_true_eq_false, not_false_eq_true, true_or, or_true, false_or, or_false, and_false, false_and, eq_self, n01_0, n01_1, nm1_0, k0, h12]
  refine BX9_term_5 hR ?_
  simp (disch := omega) only [nI_ad, nI_ml, nI_lti, nI_lei, nI_eqi, nI_nn, nI_0le, nI_eq0, nI_0lt, nI_le0, nI_clamp, nI_pd, nI_sb, zOf_some, zOp_some, zOp_none, kI_int, kL_long, kO_ref, kO_null, nlt_T, nlt_F, nle_T, nle_F, neq_F, vpT, azUp_at, if_true, if_false, true_and, and_true, true_implies, false_implies, implies_true, not_true_eq_false, not_false_eq_true, true_or, or_true, false_or, or_false, and_false, false_and, eq_self, n01_0, n01_1, nm1_0, k0, h12]
  refine BX9_expression_5 hR ?_
  simp (disch := omega) only [nI_ad, nI_ml, nI_lti, nI_lei, nI_eqi, nI_nn, nI_0le, nI_eq0, nI_0lt, nI_le0, nI_clamp, nI_pd, nI_sb, zOf_some, zOp_some, zOp_none, kI_int, kL_long, kO_ref, kO_null, nlt_T, nlt_F, nle_T, nle_F, neq_F, vpT, azUp_at, if_true, if_false, true_and, and_true, true_implies, false_implies, implies_true, not_true_eq_false, not_false_eq_true, true_or, or_true, false_or, or_false, and_false, false_and, eq_self, n01_0, n01_1, nm1_0, k0, h12]
  exact h
theorem S_compares9 (hR : azClosed R) (hK : MdOk kd F) (htk : tOK t) (hkb : kb < 8) {i : Nat} (hc : cu I t kb 5 i) (hi : i ≤ t.length) (hP : prP (exEv fun w => I 240 w) I (fun I' => ((n, z, kd), I', J, F)) Q (pC kb t i)) : R (d + 20) mX9_compares 0 [.ref 228, .retAddr 0, .retAddr 0, .retAddr 0] [] ((n, z, kd), I, J, F) Q := by
  have k0 := hK.1
  have ht := htk.1
  have hng := m1_ng
  -- with a fault
  have s36f : ∀ (f j : Nat) (I1 : azI) (x1 x2 : Int32), (∀ I' v j, frp I I' → I' 228 12 = nI f → I' 228 11 = nI j → j ≤ 80 → Q (some (.int v)) ((n, z, kd), I', J, F)) → f ≤ 80 → frp I I1 → I1 228 12 = nI f → I1 228 11 = nI j → j ≤ 80 → R (d + 20) mX9_compares 36 [.ref 228, .int x1, .int x2, .retAddr 0] [] ((n, z, kd), I1, J, F) Q := by
    intro f j I1 x1 x2 hQ hf hfr h12 h11 hj
    have e : azUp I1 228 11 (nI j) = I1 := by rw [← h11]; exact azUp_id
    refine BX9_compares_36 hR ?_
    simp (disch := omega) only [nI_ad, nI_ml, nI_lti, nI_lei, nI_eqi, nI_nn, nI_0le, nI_eq0, nI_0lt, nI_le0, nI_clamp, nI_pd, nI_sb, zOf_some, zOp_some, zOp_none, kI_int, kL_long, kO_ref, kO_null, nlt_T, nlt_F, nle_T, nle_F, neq_F, vpT, azUp_at, if_true, if_false, true_and, and_true, true_implies, false_implies, implies_true, not_true_eq_false, not_false_eq_true, true_or, or_true, false_or, or_false, and_false, false_and, eq_self, n01_0, n01_1, nm1_0, k0, h12, h11, Nat.add_zero, e]
    refine S_expr9f (d := d + 16) hR hK ht (hfr.txt hc.1) h11 hj (by omega) h12 ?_
    rw [kI_int]
    have q := fun v => hQ I1 v j hfr h12 h11 hj
    exact ⟨fun _ => ⟨fun _ => ⟨fun _ => q _, fun _ => q _⟩, fun _ => ⟨fun _ => q _, fun _ => q _⟩⟩, fun _ => ⟨fun _ => q _, fun _ => q _⟩⟩
  refine BX9_compares_0 hR ⟨k0, ?_⟩
  refine S_exprX9 hR hK htk hkb I i _ hc hi ?_
  unfold pC at hP
  have g := PG_X (kb := kb) (t := t) i hi
  revert hP g
  cases pX kb t i with
  | error f =>
    intro hP g I1 v j h1 h2 h4 h5
    have hP : ∀ I' v j, frp I I' → I' 228 12 = nI f → I' 228 11 = nI j → j ≤ 80 → Q (some (.int v)) ((n, z, kd), I', J, F) := hP
    have hf' := g.2
    have hb := tb_lt htk (i := j)
    rw [kI_int]
    simp (disch := omega) only [nI_ad, nI_ml, nI_lti, nI_lei, nI_eqi, nI_nn, nI_0le, nI_eq0, nI_0lt, nI_le0, nI_clamp, nI_pd, nI_sb, zOf_some, zOp_some, zOp_none, kI_int, kL_long, kO_ref, kO_null, nlt_T, nlt_F, nle_T, nle_F, neq_F, vpT, azUp_at, if_true, if_false, true_and, and_true, true_implies, false_implies, implies_true, not_true_eq_false, not_false_eq_true, true_or, or_true, false_or, or_false, and_false, false_and, eq_self, n01_0, n01_1, nm1_0, k0]
    refine S_peek9 hR hK ht (h1.txt hc.1) h4 (by omega) ?_
    have fin := fun x1 x2 => s36f f j I1 x1 x2 hP (by omega) h1 h2 h4 h5
    rw [kI_int]
    refine ⟨fun _ => fin _ _, fun _ => ⟨fun _ => fin _ _, fun _ => ⟨fun _ => fin _ _, fun _ => ⟨k0, k0, ?_⟩⟩⟩⟩
    exact S_wrong9f hR hK (f := f) (by omega) h2 ⟨rfl, fin _ _⟩
  | ok x =>
    intro hP g I1 h1 h2 h3
    rw [pb_ok] at hP
    have g2 := g.2.1
    have hb := tb_lt htk (i := x.2)
    have hc1 := hc.to h1 h2 h3
    rw [kI_int]
    simp (disch := omega) only [nI_ad, nI_ml, nI_lti, nI_lei, nI_eqi, nI_nn, nI_0le, nI_eq0, nI_0lt, nI_le0, nI_clamp, nI_pd, nI_sb, zOf_some, zOp_some, zOp_none, kI_int, kL_long, kO_ref, kO_null, nlt_T, nlt_F, nle_T, nle_F, neq_F, vpT, azUp_at, if_true, if_false, true_and, and_true, true_implies, false_implies, implies_true, not_true_eq_false, not_false_eq_true, true_or, or_true, false_or, or_false, and_false, false_and, eq_self, n01_0, n01_1, nm1_0, k0]
    refine S_peek9 hR hK ht hc1.1 h2 (by omega) ?_
    by_cases c : tb t x.2 = 60 ∨ tb t x.2 = 61 ∨ tb t x.2 = 62
    · rw [if_pos c] at hP
      have hjl := tb_len (t := t) (i := x.2) (by omega)
      have s36 : R (d + 20) mX9_compares 36 [.ref 228, .int (exEv (fun w => I 240 w) x.1), .int (nI (tb t x.2)), .retAddr 0] [] ((n, z, kd), I1, J, F) Q := by
        refine BX9_compares_36 hR ?_
        have hf1 : frp I (azUp I1 228 11 (nI (x.2 + 1))) := h1.up11
        have ev0 : (fun w => azUp I1 228 11 (nI (x.2 + 1)) 240 w) = fun w => I 240 w := nm_frp hf1
        simp (disch := omega) only [nI_ad, nI_ml, nI_lti, nI_lei, nI_eqi, nI_nn, nI_0le, nI_eq0, nI_0lt, nI_le0, nI_clamp, nI_pd, nI_sb, zOf_some, zOp_some, zOp_none, kI_int, kL_long, kO_ref, kO_null, nlt_T, nlt_F, nle_T, nle_F, neq_F, vpT, azUp_at, if_true, if_false, true_and, and_true, true_implies, false_implies, implies_true, not_true_eq_false, not_false_eq_true, true_or, or_true, false_or, or_false, and_false, false_and, eq_self, n01_0, n01_1, nm1_0, k0, h3, hng, h2]
        refine S_exprX9 hR hK htk hkb _ (x.2 + 1) _ (hc1.to frp.refl.up11 azUp_s (by rw [azUp_nk (by decide)]; exact h3)) hjl ?_
        rw [ev0]
        have g3 := PG_X (kb := kb) (t := t) (x.2 + 1) hjl
        revert hP g3
        cases pX kb t (x.2 + 1) with
        | error f =>
          intro hP g3 I2 v j q1 q2 q4 q5
          have hP : ∀ I' v j, frp I I' → I' 228 12 = nI f → I' 228 11 = nI j → j ≤ 80 → Q (some (.int v)) ((n, z, kd), I', J, F) := hP
          have q := fun v => hP I2 v j (hf1.trans q1) q2 q4 q5
          rw [kI_int]
          exact ⟨fun _ => ⟨fun _ => ⟨fun _ => q _, fun _ => q _⟩, fun _ => ⟨fun _ => q _, fun _ => q _⟩⟩, fun _ => ⟨fun _ => q _, fun _ => q _⟩⟩
        | ok y =>
          intro hP g3 I2 q1 q2 q3
          rw [pb_ok] at hP
          have q := hP I2 (hf1.trans q1) q2 q3
          rw [kI_int]
          have eo : exEv (fun w => I 240 w) (.branch (tb t x.2) x.1 y.1) = opS (tb t x.2) (exEv (fun w => I 240 w) x.1) (exEv (fun w => I 240 w) y.1) := rfl
          dsimp only at q
          rw [eo] at q
          generalize exEv (fun w => I 240 w) x.1 = A at q ⊢
          generalize exEv (fun w => I 240 w) y.1 = B at q ⊢
          unfold opS at q
          rcases c with c | c | c
          · rw [c] at q ⊢
            rw [if_neg (by decide), if_neg (by decide), if_neg (by decide), if_pos rfl] at q
            refine ⟨fun e => absurd rfl e, fun _ => ⟨fun e => ?_, fun e => ?_⟩⟩
            · rw [if_neg (Int32.not_lt.mpr e)] at q; exact q
            · rw [if_pos (Int32.not_le.mp e)] at q; exact q
          · rw [c] at q ⊢
            rw [if_neg (by decide), if_neg (by decide), if_neg (by decide), if_neg (by decide), if_pos rfl] at q
            refine ⟨fun _ => ⟨fun e => absurd rfl e, fun _ => ⟨fun e => ?_, fun e => ?_⟩⟩, fun e => absurd (by decide) e⟩
            · rw [if_neg e] at q; exact q
            · rw [if_pos (Classical.not_not.mp e)] at q; exact q
          · rw [c] at q ⊢
            rw [if_neg (by decide), if_neg (by decide), if_neg (by decide), if_neg (by decide), if_neg (by decide), if_pos rfl] at q
            refine ⟨fun _ => ⟨fun _ => ⟨fun e => ?_, fun e => ?_⟩, fun e => absurd (by decide) e⟩, fun e => absurd (by decide) e⟩
            · rw [if_neg (Int32.not_lt.mpr e)] at q; exact q
            · rw [if_pos (Int32.not_le.mp e)] at q; exact q
      rcases c with c | c | c
      · rw [c] at s36 ⊢
        simp (disch := omega) only [nI_ad, nI_ml, nI_lti, nI_lei, nI_eqi, nI_nn, nI_0le, nI_eq0, nI_0lt, nI_le0, nI_clamp, nI_pd, nI_sb, zOf_some, zOp_some, zOp_none, kI_int, kL_long, kO_ref, kO_null, nlt_T, nlt_F, nle_T, nle_F, neq_F, vpT, azUp_at, if_true, if_false, true_and, and_true, true_implies, false_implies, implies_true, not_true_eq_false, not_false_eq_true, true_or, or_true, false_or, or_false, and_false, false_and, eq_self, n01_0, n01_1, nm1_0]
        exact s36
      · rw [c] at s36 ⊢
        simp (disch := omega) only [nI_ad, nI_ml, nI_lti, nI_lei, nI_eqi, nI_nn, nI_0le, nI_eq0, nI_0lt, nI_le0, nI_clamp, nI_pd, nI_sb, zOf_some, zOp_some, zOp_none, kI_int, kL_long, kO_ref, kO_null, nlt_T, nlt_F, nle_T, nle_F, neq_F, vpT, azUp_at, if_true, if_false, true_and, and_true, true_implies, false_implies, implies_true, not_true_eq_false, not_false_eq_true, true_or, or_true, false_or, or_false, and_false, false_and, eq_self, n01_0, n01_1, nm1_0]
        exact s36
      · rw [c] at s36 ⊢
        simp (disch := omega) only [nI_ad, nI_ml, nI_lti, nI_lei, nI_eqi, nI_nn, nI_0le, nI_eq0, nI_0lt, nI_le0, nI_clamp, nI_pd, nI_sb, zOf_some, zOp_some, zOp_none, kI_int, kL_long, kO_ref, kO_null, nlt_T, nlt_F, nle_T, nle_F, neq_F, vpT, azUp_at, if_true, if_false, true_and, and_true, true_implies, false_implies, implies_true, not_true_eq_false, not_false_eq_true, true_or, or_true, false_or, or_false, and_false, false_and, eq_self, n01_0, n01_1, nm1_0]
        exact s36
    · rw [if_neg c] at hP
      have hP : ∀ I' v j, frp I I' → I' 228 12 = nI x.2 → I' 228 11 = nI j → j ≤ 80 → Q (some (.int v)) ((n, z, kd), I', J, F) := hP
      have c1 : ¬ tb t x.2 = 60 := fun q => c (Or.inl q)
      have c2 : ¬ tb t x.2 = 61 := fun q => c (Or.inr (Or.inl q))
      have c3 : ¬ tb t x.2 = 62 := fun q => c (Or.inr (Or.inr q))
      simp (disch := omega) only [nI_ad, nI_ml, nI_lti, nI_lei, nI_eqi, nI_nn, nI_0le, nI_eq0, nI_0lt, nI_le0, nI_clamp, nI_pd, nI_sb, zOf_some, zOp_some, zOp_none, kI_int, kL_long, kO_ref, kO_null, nlt_T, nlt_F, nle_T, nle_F, neq_F, vpT, azUp_at, if_true, if_false, true_and, and_true, true_implies, false_implies, implies_true, not_true_eq_false, not_false_eq_true, true_or, or_true, false_or, or_false, and_false, false_and, eq_self, n01_0, n01_1, nm1_0, c1, c2, c3, k0, h2]
      refine S_wrong9 hR hK h3 ⟨rfl, ?_⟩
      exact s36f x.2 x.2 _ _ _ hP (by omega) h1.up12 azUp_s (by rw [azUp_nk (by decide)]; exact h2) (by omega)
end S9
