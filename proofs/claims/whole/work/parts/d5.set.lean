/-! BALANCE: sets, setFraction, less, swaps. -/
section SB
variable {R : azP} {d n z : Nat} {kd : azK} {I : azI} {J : azJ} {F : azR} {Q : azQ}
theorem lN_o : lN 1 = lO 1 := rfl
theorem lO_m1 : (-1 : Int64) = lO (-1) := by decide
theorem lO_z : (0 : Int64) = lO 0 := rfl
theorem gcd_sml {a b : Int} (hb : sml b) (h : b ≠ 0) : sml (Int.gcd a b : Int) := by
  have : Int.gcd a b ≤ b.natAbs := Nat.gcd_le_right _ (by omega)
  unfold sml at hb ⊢
  omega
theorem S_sets9 (hR : azClosed R) (hK : MdOk kd F) {k : Nat} (hk : k < 100) {a b : Int} (ha : sml a) (hb : sml b) (h0 : b ≠ 0) (h : Q none ((n, z, kd), I, azUp (azUp J 252 k (lO (rdc a b).1)) 253 k (lO (rdc a b).2), F)) : R (d + 1) mX9_sets 0 [.ref 228, .int (nI k), .long (lO a), .retAddr 1, .long (lO b), .retAddr 1, .retAddr 0, .retAddr 0, .retAddr 0, .retAddr 0] [] ((n, z, kd), I, J, F) Q := by
  have ⟨k0, _, ⟨_, k233, k234, k235, k236, k237, k238, k239, k240, k241, k242, k243, k244, _⟩, _, ⟨_, f28, f29, f30, f31, f33, f34, f35, f36, f37, f38, f39, f40, _⟩⟩ := id hK
  have hg := gcd_sml (a := a) hb h0
  have hgp := gcd_pos (a := a) h0
  have g0 : ¬ lO (Int.gcd a b : Int) = 0 := fun e => by
    rw [lO_z, lO_inj hg sml_0] at e
    omega
  have sna : sml (-a) := by unfold sml at ha ⊢; omega
  have snb : sml (-b) := by unfold sml at hb ⊢; omega
  refine BX9_sets_0 hR ?_
  refine S_gcd9 hR ha hb ?_
  rw [kL_long, lN_0, lg_ge0 hb sml_0, lN_o, lO_m1, lO_ml, lO_ml, lO_ml, lO_ml, Int.one_mul, Int.one_mul, Int.neg_one_mul, Int.neg_one_mul, lO_dv ha hg, lO_dv hb hg, lO_dv sna hg, lO_dv snb hg]
  unfold rdc at h
  refine ⟨fun e => ?_, fun e => ?_⟩
  · rw [if_pos e] at h
    simp (disch := omega) only [nI_ad, nI_ml, nI_lti, nI_lei, nI_eqi, nI_nn, nI_0le, nI_eq0, nI_0lt, nI_le0, nI_clamp, nI_pd, nI_sb, zOf_some, zOp_some, zOp_none, kI_int, kL_long, kO_ref, kO_null, nlt_T, nlt_F, nle_T, nle_F, neq_F, vpT, azUp_at, if_true, if_false, true_and, and_true, true_implies, false_implies, implies_true, not_true_eq_false, not_false_eq_true, true_or, or_true, false_or, or_false, and_false, false_and, eq_self, n01_0, n01_1, nm1_0, k0, f39, f40, k243, k244, g0]
    exact h
  · rw [if_neg e] at h
    simp (disch := omega) only [nI_ad, nI_ml, nI_lti, nI_lei, nI_eqi, nI_nn, nI_0le, nI_eq0, nI_0lt, nI_le0, nI_clamp, nI_pd, nI_sb, zOf_some, zOp_some, zOp_none, kI_int, kL_long, kO_ref, kO_null, nlt_T, nlt_F, nle_T, nle_F, neq_F, vpT, azUp_at, if_true, if_false, true_and, and_true, true_implies, false_implies, implies_true, not_true_eq_false, not_false_eq_true, true_or, or_true, false_or, or_false, and_false, false_and, eq_self, n01_0, n01_1, nm1_0, k0, f39, f40, k243, k244, g0]
    exact h
theorem S_setFraction (hR : azClosed R) (k0 : (kd 220).1 = 0) {a b : Int} (ha : sml a) (hb : sml b) (h0 : b ≠ 0) (h : Q none ((n, z, kd), I, azUp (azUp J 220 2 (lO (rdc a b).1)) 220 3 (lO (rdc a b).2), F)) : R (d + 2) mX0_setFraction 0 [.ref 220, .long (lO a), .retAddr 1, .long (lO b), .retAddr 1, .retAddr 0, .retAddr 0, .retAddr 0, .retAddr 0] [] ((n, z, kd), I, J, F) Q := by
  have hg := gcd_sml (a := a) hb h0
  have hgp := gcd_pos (a := a) h0
  have g0 : ¬ lO (Int.gcd a b : Int) = 0 := fun e => by
    rw [lO_z, lO_inj hg sml_0] at e
    omega
  have hga : ¬ ((Int.gcd a b : Int) = 0) := by omega
  have e1 : ∀ x g : Int, g ∣ x → - (x.tdiv g) = (-x).tdiv g := fun x g _ => (Int.neg_tdiv x g).symm
  have d1 : (Int.gcd a b : Int) ∣ a := Int.gcd_dvd_left a b
  have d2 : (Int.gcd a b : Int) ∣ b := Int.gcd_dvd_right a b
  refine BX0_setFraction_0 hR ?_
  refine S_comDiv hR ha hb ?_
  rw [kL_long, lN_0, lg_eq0 hg sml_0, lg_eq0 hb sml_0, lg_ge0 hb sml_0, lN_o, lO_m1, lO_dv ha hg, lO_dv hb hg, lO_ml, lO_ml, lO_ml, lO_ml, Int.one_mul, Int.one_mul, Int.neg_one_mul, Int.neg_one_mul, e1 _ _ d1, e1 _ _ d2]
  unfold rdc at h
  refine ⟨fun e => absurd e hga, fun _ => ⟨fun _ => ⟨fun e => ?_, fun e => ?_⟩, fun e => absurd h0 e⟩⟩
  · rw [if_pos e] at h
    exact ⟨g0, k0, g0, k0, h⟩
  · rw [if_neg e] at h
    exact ⟨g0, k0, g0, k0, h⟩
end SB
