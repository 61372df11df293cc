/-! SPECS: Marking. -/
def MkOk (kd : azK) (F : azR) (a : Nat) : Prop := kd a = (3, 2) ∧ kd (a + 1) = (10, 10) ∧ kd (a + 2) = (10, 60) ∧ F a 0 = some (a + 1) ∧ F a 1 = some (a + 2)
/-- a marking in the class: how many tokens, and which -/
def cM (I : azI) (a : Nat) (m : Nat → List Nat) : Prop := ∀ p, p < 10 → I (a + 1) p = nI (m p).length ∧ ∀ j, j < (m p).length → I (a + 2) (p * 6 + j) = nI ((m p).getD j 0)
def mOK (m : Nat → List Nat) : Prop := (∀ p, (m p).length ≤ 6 ∧ ∀ t ∈ m p, t < 100) ∧ ∀ p, 10 ≤ p → m p = []
section S3
variable {R : azP} {d n z : Nat} {kd : azK} {I : azI} {J : azJ} {F : azR} {Q : azQ} {a : Nat} {m : Nat → List Nat}
/-- what a place is: 1 or 0 -/
def isP (x : Int32) (k : Nat) : Int32 := match ix x k with
  | none => nI 0
  | some _ => nI 1
theorem S_isPlace (hR : azClosed R) {x : Int32} {σ : azS} (h : Q (some (.int (isP x 10))) σ) : R d mX8_isPlace 0 [.int x] [] σ Q := by
  obtain ⟨⟨n, z, kd⟩, I, J, F⟩ := σ
  refine BX8_isPlace_0 hR ?_
  unfold isP at h
  rcases ix_cases x (n := 10) (by decide) with ⟨e, c | ⟨c0, c⟩⟩ | ⟨k, hk, rfl, e⟩
  · rw [e] at h; simp (disch := omega) only [nI_ad, nI_ml, nI_lti, nI_lei, nI_eqi, nI_nn, nI_0le, nI_eq0, nI_0lt, nI_le0, nI_clamp, nI_pd, nI_sb, zOf_some, zOp_some, zOp_none, kI_int, kL_long, kO_ref, kO_null, nlt_T, nlt_F, nle_T, nle_F, neq_F, vpT, azUp_at, if_true, if_false, true_and, and_true, true_implies, false_implies, implies_true, not_true_eq_false, not_false_eq_true, true_or, or_true, false_or, or_false, and_false, false_and, eq_self, n01_0, n01_1, nm1_0, c]; exact h
  · rw [e] at h; simp (disch := omega) only [nI_ad, nI_ml, nI_lti, nI_lei, nI_eqi, nI_nn, nI_0le, nI_eq0, nI_0lt, nI_le0, nI_clamp, nI_pd, nI_sb, zOf_some, zOp_some, zOp_none, kI_int, kL_long, kO_ref, kO_null, nlt_T, nlt_F, nle_T, nle_F, neq_F, vpT, azUp_at, if_true, if_false, true_and, and_true, true_implies, false_implies, implies_true, not_true_eq_false, not_false_eq_true, true_or, or_true, false_or, or_false, and_false, false_and, eq_self, n01_0, n01_1, nm1_0, c0, c]; exact h
  · rw [e] at h; simp (disch := omega) only [nI_ad, nI_ml, nI_lti, nI_lei, nI_eqi, nI_nn, nI_0le, nI_eq0, nI_0lt, nI_le0, nI_clamp, nI_pd, nI_sb, zOf_some, zOp_some, zOp_none, kI_int, kL_long, kO_ref, kO_null, nlt_T, nlt_F, nle_T, nle_F, neq_F, vpT, azUp_at, if_true, if_false, true_and, and_true, true_implies, false_implies, implies_true, not_true_eq_false, not_false_eq_true, true_or, or_true, false_or, or_false, and_false, false_and, eq_self, n01_0, n01_1, nm1_0]; exact h
theorem S_count (hR : azClosed R) (hM : MkOk kd F a) (hm : cM I a m) {p : Nat} (hp : p < 10) (h : Q (some (.int (nI (m p).length))) ((n, z, kd), I, J, F)) : R d mX3_count 0 [.ref a, .int (nI p)] [] ((n, z, kd), I, J, F) Q := by
  obtain ⟨k0, k1, k2, f0, f1⟩ := hM
  refine BX3_count_0 hR ?_
  simp (disch := omega) only [nI_ad, nI_ml, nI_lti, nI_lei, nI_eqi, nI_nn, nI_0le, nI_eq0, nI_0lt, nI_le0, nI_clamp, nI_pd, nI_sb, zOf_some, zOp_some, zOp_none, kI_int, kL_long, kO_ref, kO_null, nlt_T, nlt_F, nle_T, nle_F, neq_F, vpT, azUp_at, if_true, if_false, true_and, and_true, true_implies, false_implies, implies_true, not_true_eq_false, not_false_eq_true, true_or, or_true, false_or, or_false, and_false, false_and, eq_self, n01_0, n01_1, nm1_0, k0, k1, f0, (hm p hp).1]
  exact h
/-- holds(place, i), of any two ints -/
def hold (m : Nat → List Nat) (x y : Int32) : Int32 := match ix x 10 with
  | none => nI 0
  | some p => match ix y (m p).length with
    | none => nI 0
    | some _ => nI 1
theorem S_holds (hR : azClosed R) (hM : MkOk kd F a) (hm : cM I a m) (hv : mOK m) {x y : Int32} (h : Q (some (.int (hold m x y))) ((n, z, kd), I, J, F)) : R d mX3_holds 0 [.ref a, .int x, .int y] [] ((n, z, kd), I, J, F) Q := by
  obtain ⟨k0, k1, k2, f0, f1⟩ := hM
  refine BX3_holds_0 hR ?_
  unfold hold at h
  rcases ix_cases x (n := 10) (by decide) with ⟨e, c | ⟨c0, c⟩⟩ | ⟨p, hp, rfl, e⟩
  · rw [e] at h; simp (disch := omega) only [nI_ad, nI_ml, nI_lti, nI_lei, nI_eqi, nI_nn, nI_0le, nI_eq0, nI_0lt, nI_le0, nI_clamp, nI_pd, nI_sb, zOf_some, zOp_some, zOp_none, kI_int, kL_long, kO_ref, kO_null, nlt_T, nlt_F, nle_T, nle_F, neq_F, vpT, azUp_at, if_true, if_false, true_and, and_true, true_implies, false_implies, implies_true, not_true_eq_false, not_false_eq_true, true_or, or_true, false_or, or_false, and_false, false_and, eq_self, n01_0, n01_1, nm1_0, c]; exact h
  · rw [e] at h; simp (disch := omega) only [nI_ad, nI_ml, nI_lti, nI_lei, nI_eqi, nI_nn, nI_0le, nI_eq0, nI_0lt, nI_le0, nI_clamp, nI_pd, nI_sb, zOf_some, zOp_some, zOp_none, kI_int, kL_long, kO_ref, kO_null, nlt_T, nlt_F, nle_T, nle_F, neq_F, vpT, azUp_at, if_true, if_false, true_and, and_true, true_implies, false_implies, implies_true, not_true_eq_false, not_false_eq_true, true_or, or_true, false_or, or_false, and_false, false_and, eq_self, n01_0, n01_1, nm1_0, c0, c]; exact h
  · have hl := (hv.1 p).1
    rw [e] at h
    dsimp only at h
    simp (disch := omega) only [nI_ad, nI_ml, nI_lti, nI_lei, nI_eqi, nI_nn, nI_0le, nI_eq0, nI_0lt, nI_le0, nI_clamp, nI_pd, nI_sb, zOf_some, zOp_some, zOp_none, kI_int, kL_long, kO_ref, kO_null, nlt_T, nlt_F, nle_T, nle_F, neq_F, vpT, azUp_at, if_true, if_false, true_and, and_true, true_implies, false_implies, implies_true, not_true_eq_false, not_false_eq_true, true_or, or_true, false_or, or_false, and_false, false_and, eq_self, n01_0, n01_1, nm1_0, k0, k1, f0, (hm p hp).1]
    rcases ix_cases y (n := (m p).length) (by omega) with ⟨e, c | ⟨c0, c⟩⟩ | ⟨j, hj, rfl, e⟩
    · rw [e] at h; simp (disch := omega) only [nI_ad, nI_ml, nI_lti, nI_lei, nI_eqi, nI_nn, nI_0le, nI_eq0, nI_0lt, nI_le0, nI_clamp, nI_pd, nI_sb, zOf_some, zOp_some, zOp_none, kI_int, kL_long, kO_ref, kO_null, nlt_T, nlt_F, nle_T, nle_F, neq_F, vpT, azUp_at, if_true, if_false, true_and, and_true, true_implies, false_implies, implies_true, not_true_eq_false, not_false_eq_true, true_or, or_true, false_or, or_false, and_false, false_and, eq_self, n01_0, n01_1, nm1_0, c]; exact h
    · rw [e] at h; simp (disch := omega) only [nI_ad, nI_ml, nI_lti, nI_lei, nI_eqi, nI_nn, nI_0le, nI_eq0, nI_0lt, nI_le0, nI_clamp, nI_pd, nI_sb, zOf_some, zOp_some, zOp_none, kI_int, kL_long, kO_ref, kO_null, nlt_T, nlt_F, nle_T, nle_F, neq_F, vpT, azUp_at, if_true, if_false, true_and, and_true, true_implies, false_implies, implies_true, not_true_eq_false, not_false_eq_true, true_or, or_true, false_or, or_false, and_false, false_and, eq_self, n01_0, n01_1, nm1_0, c0, c]; exact ⟨fun _ => h, fun _ => h⟩
    · rw [e] at h; simp (disch := omega) only [nI_ad, nI_ml, nI_lti, nI_lei, nI_eqi, nI_nn, nI_0le, nI_eq0, nI_0lt, nI_le0, nI_clamp, nI_pd, nI_sb, zOf_some, zOp_some, zOp_none, kI_int, kL_long, kO_ref, kO_null, nlt_T, nlt_F, nle_T, nle_F, neq_F, vpT, azUp_at, if_true, if_false, true_and, and_true, true_implies, false_implies, implies_true, not_true_eq_false, not_false_eq_true, true_or, or_true, false_or, or_false, and_false, false_and, eq_self, n01_0, n01_1, nm1_0]; exact h
/-- at(place, i): the token, -1 -/
def atS (m : Nat → List Nat) (x y : Int32) : Int32 := match ix x 10 with
  | none => -(nI 1)
  | some p => match ix y (m p).length with
    | none => -(nI 1)
    | some j => nI ((m p).getD j 0)
theorem S_at (hR : azClosed R) (hM : MkOk kd F a) (hm : cM I a m) (hv : mOK m) {x y : Int32} (h : Q (some (.int (atS m x y))) ((n, z, kd), I, J, F)) : R (d + 1) mX3_at 0 [.ref a, .int x, .int y] [] ((n, z, kd), I, J, F) Q := by
  have hM' := hM
  obtain ⟨k0, k1, k2, f0, f1⟩ := hM
  refine BX3_at_0 hR ⟨by rw [k0], S_holds hR hM' hm hv ?_⟩
  unfold atS at h
  unfold hold
  rcases ix_cases x (n := 10) (by decide) with ⟨e, c⟩ | ⟨p, hp, rfl, e⟩
  · rw [e] at h ⊢; simp (disch := omega) only [nI_ad, nI_ml, nI_lti, nI_lei, nI_eqi, nI_nn, nI_0le, nI_eq0, nI_0lt, nI_le0, nI_clamp, nI_pd, nI_sb, zOf_some, zOp_some, zOp_none, kI_int, kL_long, kO_ref, kO_null, nlt_T, nlt_F, nle_T, nle_F, neq_F, vpT, azUp_at, if_true, if_false, true_and, and_true, true_implies, false_implies, implies_true, not_true_eq_false, not_false_eq_true, true_or, or_true, false_or, or_false, and_false, false_and, eq_self, n01_0, n01_1, nm1_0]; exact h
  · have hl := (hv.1 p).1
    rw [e] at h ⊢
    dsimp only at h ⊢
    rcases ix_cases y (n := (m p).length) (by omega) with ⟨e, c⟩ | ⟨j, hj, rfl, e⟩
    · rw [e] at h ⊢; simp (disch := omega) only [nI_ad, nI_ml, nI_lti, nI_lei, nI_eqi, nI_nn, nI_0le, nI_eq0, nI_0lt, nI_le0, nI_clamp, nI_pd, nI_sb, zOf_some, zOp_some, zOp_none, kI_int, kL_long, kO_ref, kO_null, nlt_T, nlt_F, nle_T, nle_F, neq_F, vpT, azUp_at, if_true, if_false, true_and, and_true, true_implies, false_implies, implies_true, not_true_eq_false, not_false_eq_true, true_or, or_true, false_or, or_false, and_false, false_and, eq_self, n01_0, n01_1, nm1_0]; exact h
    · rw [e] at h ⊢; simp (disch := omega) only [nI_ad, nI_ml, nI_lti, nI_lei, nI_eqi, nI_nn, nI_0le, nI_eq0, nI_0lt, nI_le0, nI_clamp, nI_pd, nI_sb, zOf_some, zOp_some, zOp_none, kI_int, kL_long, kO_ref, kO_null, nlt_T, nlt_F, nle_T, nle_F, neq_F, vpT, azUp_at, if_true, if_false, true_and, and_true, true_implies, false_implies, implies_true, not_true_eq_false, not_false_eq_true, true_or, or_true, false_or, or_false, and_false, false_and, eq_self, n01_0, n01_1, nm1_0, k0, f1, k2, (hm p hp).2 j hj]; exact h
end S3
