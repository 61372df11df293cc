/-! SPECS: Firing.conditionsHold. -/
/-- all conditions hold of such names -/
def cndB (nm : Nat → Int32) (cs : List Cls) : Bool := cs.all fun c => !(decide (c.1 = 1)) || !(decide (exEv nm (cEx c) = 0))
section S1
variable {R : azP} {D d n z : Nat} {kd : azK} {I : azI} {J : azJ} {F : azR} {Q : azQ} {a r : Nat} {kb : Nat} {cs l1 l2 : List Cls} {c : Cls}
theorem S_conds (hR : azClosed R) (hF : FiOk kd F a) (hM : RuOk kd F r) (hra : a + 3 < r) (hc : cR I r cs []) (ho : rlOK cs) (h : ∀ I', (∀ b, b ≠ a + 3 → I' b = I b) → Q (some (.int (nI (if cndB (fun w => I (a + 2) w) cs then 1 else 0)))) ((n, z, kd), I', J, F)) : R (d + 2) mX1_conditionsHold 0 [.ref a, .ref r, .retAddr 0] [] ((n, z, kd), I, J, F) Q := by
  have main : ∀ (l2 l1 : List Cls) (I1 : azI), l1 ++ l2 = cs → (∀ b, b ≠ a + 3 → I1 b = I b) → (∀ I', (∀ b, b ≠ a + 3 → I' b = I b) → Q (some (.int (nI (if cndB (fun w => I (a + 2) w) l2 then 1 else 0)))) ((n, z, kd), I', J, F)) → R (d + 2) mX1_conditionsHold 2 [.ref a, .ref r, .int (nI l1.length)] [] ((n, z, kd), I1, J, F) Q := by
    intro l2
    induction l2 with
    | nil =>
      intro l1 I1 e hI h
      have e0 : I1 r 0 = nI l1.length := by
        rw [hI r (by omega), hc.1, ← e, List.append_nil]
      have hl : l1.length ≤ 12 := by have := ho.1; rw [← e, List.length_append] at this; omega
      refine BX1_conditionsHold_2 hR ?_
      simp (disch := omega) only [nI_ad, nI_ml, nI_lti, nI_lei, nI_eqi, nI_nn, nI_0le, nI_eq0, nI_0lt, nI_le0, nI_clamp, nI_pd, nI_sb, zOf_some, zOp_some, zOp_none, kI_int, kL_long, kO_ref, kO_null, nlt_T, nlt_F, nle_T, nle_F, neq_F, vpT, azUp_at, if_true, if_false, true_and, and_true, true_implies, false_implies, implies_true, not_true_eq_false, not_false_eq_true, true_or, or_true, false_or, or_false, and_false, false_and, eq_self, n01_0, n01_1, nm1_0, hM.1, e0]
      have := h I1 hI
      exact this
    | cons c l2 ih =>
      intro l1 I1 e hI h
      have hc1 : cR I1 r (l1 ++ c :: l2) [] := by
        rw [e]
        exact hc.keep fun b hb1 hb2 => hI b (by omega)
      have ho1 : rlOK (l1 ++ c :: l2) := by rw [e]; exact ho
      have hl : (l1 ++ c :: l2).length ≤ 12 := ho1.1
      have e0 := hc1.1
      rw [List.length_append, List.length_cons] at hl
      have hcl := ho1.2.2.2.2.2.2 c (by simp)
      have hk := hc1.kind
      have hc4 : c.1 < 4 := hcl.1
      have en : (fun w => I1 (a + 2) w) = fun w => I (a + 2) w := by rw [hI (a + 2) (by omega)]
      have hlen : (l1 ++ c :: l2).length = l1.length + (l2.length + 1) := by simp
      rw [hlen] at e0
      have next : (¬ c.1 = 1 ∨ ¬ exEv (fun w => I (a + 2) w) (cEx c) = 0) → ∀ I2, (∀ b, b ≠ a + 3 → I2 b = I b) → R (d + 2) mX1_conditionsHold 2 [.ref a, .ref r, .int (nI (l1.length + 1))] [] ((n, z, kd), I2, J, F) Q := by
        intro hx I2 hI2
        have e1 : l1.length + 1 = (l1 ++ [c]).length := by rw [List.length_append]; rfl
        rw [e1]
        refine ih (l1 ++ [c]) I2 (by rw [← e]; simp) hI2 fun I' hI' => ?_
        have := h I' hI'
        have e2 : cndB (fun w => I (a + 2) w) (c :: l2) = cndB (fun w => I (a + 2) w) l2 := by
          unfold cndB
          rw [List.all_cons]
          rcases hx with hx | hx
          · simp [hx]
          · simp [hx]
        rw [e2] at this
        exact this
      refine BX1_conditionsHold_2 hR ?_
      simp (disch := omega) only [nI_ad, nI_ml, nI_lti, nI_lei, nI_eqi, nI_nn, nI_0le, nI_eq0, nI_0lt, nI_le0, nI_clamp, nI_pd, nI_sb, zOf_some, zOp_some, zOp_none, kI_int, kL_long, kO_ref, kO_null, nlt_T, nlt_F, nle_T, nle_F, neq_F, vpT, azUp_at, if_true, if_false, true_and, and_true, true_implies, false_implies, implies_true, not_true_eq_false, not_false_eq_true, true_or, or_true, false_or, or_false, and_false, false_and, eq_self, n01_0, n01_1, nm1_0, hM.1, e0]
      refine S_kind hR hM (by omega) ?_
      rw [hk]
      by_cases c1 : c.1 = 1
      · rw [c1]
        simp (disch := omega) only [nI_ad, nI_ml, nI_lti, nI_lei, nI_eqi, nI_nn, nI_0le, nI_eq0, nI_0lt, nI_le0, nI_clamp, nI_pd, nI_sb, zOf_some, zOp_some, zOp_none, kI_int, kL_long, kO_ref, kO_null, nlt_T, nlt_F, nle_T, nle_F, neq_F, vpT, azUp_at, if_true, if_false, true_and, and_true, true_implies, false_implies, implies_true, not_true_eq_false, not_false_eq_true, true_or, or_true, false_or, or_false, and_false, false_and, eq_self, n01_0, n01_1, nm1_0, hF.1]
        refine S_value hR hF hM hra hc1 ho1 (hcl.2.2.2.2.2.2.1 c1) fun I2 hI2 => ?_
        rw [en]
        have hI3 : ∀ b, b ≠ a + 3 → I2 b = I b := fun b hb => by rw [hI2 b hb, hI b hb]
        by_cases c2 : exEv (fun w => I (a + 2) w) (cEx c) = 0
        · have := h I2 hI3
          have e2 : cndB (fun w => I (a + 2) w) (c :: l2) = false := by
            unfold cndB
            rw [List.all_cons]
            simp [c1, c2]
          rw [e2, if_neg (by decide)] at this
          rw [c2]
          simp (disch := omega) only [nI_ad, nI_ml, nI_lti, nI_lei, nI_eqi, nI_nn, nI_0le, nI_eq0, nI_0lt, nI_le0, nI_clamp, nI_pd, nI_sb, zOf_some, zOp_some, zOp_none, kI_int, kL_long, kO_ref, kO_null, nlt_T, nlt_F, nle_T, nle_F, neq_F, vpT, azUp_at, if_true, if_false, true_and, and_true, true_implies, false_implies, implies_true, not_true_eq_false, not_false_eq_true, true_or, or_true, false_or, or_false, and_false, false_and, eq_self, n01_0, n01_1, nm1_0]
          exact this
        · simp (disch := omega) only [nI_ad, nI_ml, nI_lti, nI_lei, nI_eqi, nI_nn, nI_0le, nI_eq0, nI_0lt, nI_le0, nI_clamp, nI_pd, nI_sb, zOf_some, zOp_some, zOp_none, kI_int, kL_long, kO_ref, kO_null, nlt_T, nlt_F, nle_T, nle_F, neq_F, vpT, azUp_at, if_true, if_false, true_and, and_true, true_implies, false_implies, implies_true, not_true_eq_false, not_false_eq_true, true_or, or_true, false_or, or_false, and_false, false_and, eq_self, n01_0, n01_1, nm1_0, c2]
          exact next (Or.inr c2) I2 hI3
      · simp (disch := omega) only [nI_ad, nI_ml, nI_lti, nI_lei, nI_eqi, nI_nn, nI_0le, nI_eq0, nI_0lt, nI_le0, nI_clamp, nI_pd, nI_sb, zOf_some, zOp_some, zOp_none, kI_int, kL_long, kO_ref, kO_null, nlt_T, nlt_F, nle_T, nle_F, neq_F, vpT, azUp_at, if_true, if_false, true_and, and_true, true_implies, false_implies, implies_true, not_true_eq_false, not_false_eq_true, true_or, or_true, false_or, or_false, and_false, false_and, eq_self, n01_0, n01_1, nm1_0, c1]
        exact next (Or.inl c1) I1 hI
  exact BX1_conditionsHold_0 hR (main cs [] I rfl (fun _ _ => rfl) h)
end S1
