/-! WALKS: what is asked of them. -/
def mstT (S : WS) (p : Nat) : Nat → Nat
  | 0 => 0
  | k + 1 => max (mstT S p k) ((S.1.getD k mNil) p).length
def orT (S : WS) : Nat → Nat
  | 0 => 0
  | k + 1 => orT S k ||| abl S.2.2 k 10
def ndT (S : WS) : Nat → Nat
  | 0 => 0
  | k + 1 => if (S.1.getD k mNil) 9 = [] then ndT S k else ndT S k + 1
/-- how many steps lead back to the first, and which is so many steps ahead -/
def stp (S : WS) : Nat → Nat → Nat
  | 0, _ => 0
  | f + 1, i => if i = 0 then 0 else stp S f (S.2.1.getD i (0, 0)).1 + 1
def anc (S : WS) : Nat → Nat → Nat
  | 0, i => i
  | k + 1, i => if i = 0 then 0 else anc S k (S.2.1.getD i (0, 0)).1
theorem mstT_le {S : WS} (hS : wsOK 60 S) {p : Nat} : ∀ k, k ≤ S.1.length → mstT S p k ≤ 6 := by
  intro k
  induction k with
  | zero => intro _; exact Nat.zero_le _
  | succ k ih =>
    intro h
    have h1 := ih (by omega)
    have h2 := ((hS.2.2.2.1 _ (getD_memM (l := S.1) (i := k) (by omega))).1 p).1
    unfold mstT
    omega
theorem ndT_le {S : WS} : ∀ k, ndT S k ≤ k := by
  intro k
  induction k with
  | zero => exact Nat.le_refl _
  | succ k ih => unfold ndT; split <;> omega
section S7
variable {R : azP} {d n z : Nat} {kd : azK} {I : azI} {J : azJ} {F : azR} {Q : azQ} {a : Nat} {S : WS}
theorem S_min (hR : azClosed R) {x y : Nat} (hx : x < 1000) (hy : y < 1000) {σ : azS} (h : Q (some (.int (nI (min x y)))) σ) : R d mJ9_min_7cf53 0 [.int (nI x), .int (nI y)] [] σ Q := by
  obtain ⟨⟨n, z, kd⟩, I, J, F⟩ := σ
  refine BJ9_min_7cf53_0 hR ?_
  by_cases c : y < x
  · rw [Nat.min_eq_right (by omega)] at h
    simp (disch := omega) only [nI_ad, nI_ml, nI_lti, nI_lei, nI_eqi, nI_nn, nI_0le, nI_eq0, nI_0lt, nI_le0, nI_clamp, nI_pd, nI_sb, zOf_some, zOp_some, zOp_none, kI_int, kL_long, kO_ref, kO_null, nlt_T, nlt_F, nle_T, nle_F, neq_F, vpT, azUp_at, if_true, if_false, true_and, and_true, true_implies, false_implies, implies_true, not_true_eq_false, not_false_eq_true, true_or, or_true, false_or, or_false, and_false, false_and, eq_self, n01_0, n01_1, nm1_0, c]; exact h
  · rw [Nat.min_eq_left (by omega)] at h
    simp (disch := omega) only [nI_ad, nI_ml, nI_lti, nI_lei, nI_eqi, nI_nn, nI_0le, nI_eq0, nI_0lt, nI_le0, nI_clamp, nI_pd, nI_sb, zOf_some, zOp_some, zOp_none, kI_int, kL_long, kO_ref, kO_null, nlt_T, nlt_F, nle_T, nle_F, neq_F, vpT, azUp_at, if_true, if_false, true_and, and_true, true_implies, false_implies, implies_true, not_true_eq_false, not_false_eq_true, true_or, or_true, false_or, or_false, and_false, false_and, eq_self, n01_0, n01_1, nm1_0, c]; exact h
theorem S_max (hR : azClosed R) {x y : Nat} (hx : x < 1000) (hy : y < 1000) {σ : azS} (h : Q (some (.int (nI (max x y)))) σ) : R d mJ9_max_7cf53 0 [.int (nI x), .int (nI y)] [] σ Q := by
  obtain ⟨⟨n, z, kd⟩, I, J, F⟩ := σ
  refine BJ9_max_7cf53_0 hR ?_
  by_cases c : x < y
  · rw [Nat.max_eq_right (by omega)] at h
    simp (disch := omega) only [nI_ad, nI_ml, nI_lti, nI_lei, nI_eqi, nI_nn, nI_0le, nI_eq0, nI_0lt, nI_le0, nI_clamp, nI_pd, nI_sb, zOf_some, zOp_some, zOp_none, kI_int, kL_long, kO_ref, kO_null, nlt_T, nlt_F, nle_T, nle_F, neq_F, vpT, azUp_at, if_true, if_false, true_and, and_true, true_implies, false_implies, implies_true, not_true_eq_false, not_false_eq_true, true_or, or_true, false_or, or_false, and_false, false_and, eq_self, n01_0, n01_1, nm1_0, c]; exact h
  · rw [Nat.max_eq_left (by omega)] at h
    simp (disch := omega) only [nI_ad, nI_ml, nI_lti, nI_lei, nI_eqi, nI_nn, nI_0le, nI_eq0, nI_0lt, nI_le0, nI_clamp, nI_pd, nI_sb, zOf_some, zOp_some, zOp_none, kI_int, kL_long, kO_ref, kO_null, nlt_T, nlt_F, nle_T, nle_F, neq_F, vpT, azUp_at, if_true, if_false, true_and, and_true, true_implies, false_implies, implies_true, not_true_eq_false, not_false_eq_true, true_or, or_true, false_or, or_false, and_false, false_and, eq_self, n01_0, n01_1, nm1_0, c]; exact h
theorem S_among (hR : azClosed R) (hW : WkOk kd F a) (hS : wsOK 60 S) (hc : cWk I a S) {k : Nat} (hk : k ≤ 60) (h : Q (some (.int (nI (min k S.1.length)))) ((n, z, kd), I, J, F)) : R (d + 1) mX7_among 0 [.ref a, .int (nI k)] [] ((n, z, kd), I, J, F) Q := by
  have hl := hS.2.1
  refine BX7_among_0 hR ⟨hW.1, ?_⟩
  rw [hc.1.1]
  refine S_min hR (by omega) (by omega) ?_
  rw [kI_int]
  refine S_min hR (by omega) (by omega) ?_
  rw [kI_int, Nat.min_eq_left hl]
  exact h
theorem S_countIn (hR : azClosed R) (hW : WkOk kd F a) (hS : wsOK 60 S) (hc : cWk I a S) {i p : Nat} (hi : i < S.1.length) (hp : p < 10) (h : Q (some (.int (nI ((S.1.getD i mNil) p).length))) ((n, z, kd), I, J, F)) : R (d + 1) mX7_countIn 0 [.ref a, .int (nI i), .int (nI p)] [] ((n, z, kd), I, J, F) Q := by
  obtain ⟨k0, k1, kf, kn, k2, k3, k4, k5, k6, f0, f1, f2, f3, f4, f5, f6⟩ := hW
  have hl := hS.2.1
  obtain ⟨g1, g2⟩ := kf i (by omega)
  have kb3 : (kd (a + 2 + 3 * i)).1 = 3 := by rw [g2.1]
  refine BX7_countIn_0 hR ?_
  simp (disch := omega) only [nI_ad, nI_ml, nI_lti, nI_lei, nI_eqi, nI_nn, nI_0le, nI_eq0, nI_0lt, nI_le0, nI_clamp, nI_pd, nI_sb, zOf_some, zOp_some, zOp_none, kI_int, kL_long, kO_ref, kO_null, nlt_T, nlt_F, nle_T, nle_F, neq_F, vpT, azUp_at, if_true, if_false, true_and, and_true, true_implies, false_implies, implies_true, not_true_eq_false, not_false_eq_true, true_or, or_true, false_or, or_false, and_false, false_and, eq_self, n01_0, n01_1, nm1_0, k0, hc.1.1, f0, k1, g1, kb3]
  refine S_count hR g2 (hc.1.2.1 i hi) hp ?_
  simp (disch := omega) only [nI_ad, nI_ml, nI_lti, nI_lei, nI_eqi, nI_nn, nI_0le, nI_eq0, nI_0lt, nI_le0, nI_clamp, nI_pd, nI_sb, zOf_some, zOp_some, zOp_none, kI_int, kL_long, kO_ref, kO_null, nlt_T, nlt_F, nle_T, nle_F, neq_F, vpT, azUp_at, if_true, if_false, true_and, and_true, true_implies, false_implies, implies_true, not_true_eq_false, not_false_eq_true, true_or, or_true, false_or, or_false, and_false, false_and, eq_self, n01_0, n01_1, nm1_0]
  exact h
theorem S_fullest (hR : azClosed R) (hW : WkOk kd F a) (hS : wsOK 60 S) (hc : cWk I a S) {k p : Nat} (hk : k ≤ 60) (hp : p < 10) (h : Q (some (.int (nI (mstT S p (min k S.1.length))))) ((n, z, kd), I, J, F)) : R (d + 2) mX7_fullest 0 [.ref a, .int (nI p), .int (nI k), .retAddr 0, .retAddr 0] [] ((n, z, kd), I, J, F) Q := by
  have hl := hS.2.1
  have k0 := hW.1
  have main : ∀ s i, s + i = min k S.1.length → R (d + 2) mX7_fullest 5 [.ref a, .int (nI p), .int (nI k), .int (nI (mstT S p i)), .int (nI i)] [] ((n, z, kd), I, J, F) Q := by
    intro s
    induction s with
    | zero =>
      intro i hi
      refine BX7_fullest_5 hR ⟨k0, S_among hR hW hS hc hk ?_⟩
      simp (disch := omega) only [nI_ad, nI_ml, nI_lti, nI_lei, nI_eqi, nI_nn, nI_0le, nI_eq0, nI_0lt, nI_le0, nI_clamp, nI_pd, nI_sb, zOf_some, zOp_some, zOp_none, kI_int, kL_long, kO_ref, kO_null, nlt_T, nlt_F, nle_T, nle_F, neq_F, vpT, azUp_at, if_true, if_false, true_and, and_true, true_implies, false_implies, implies_true, not_true_eq_false, not_false_eq_true, true_or, or_true, false_or, or_false, and_false, false_and, eq_self, n01_0, n01_1, nm1_0]
      rw [← hi, Nat.zero_add] at h
      exact h
    | succ s ih =>
      intro i hi
      have h1 := mstT_le hS (p := p) i (by omega)
      have h2 := ((hS.2.2.2.1 _ (getD_memM (l := S.1) (i := i) (by omega))).1 p).1
      refine BX7_fullest_5 hR ⟨k0, S_among hR hW hS hc hk ?_⟩
      simp (disch := omega) only [nI_ad, nI_ml, nI_lti, nI_lei, nI_eqi, nI_nn, nI_0le, nI_eq0, nI_0lt, nI_le0, nI_clamp, nI_pd, nI_sb, zOf_some, zOp_some, zOp_none, kI_int, kL_long, kO_ref, kO_null, nlt_T, nlt_F, nle_T, nle_F, neq_F, vpT, azUp_at, if_true, if_false, true_and, and_true, true_implies, false_implies, implies_true, not_true_eq_false, not_false_eq_true, true_or, or_true, false_or, or_false, and_false, false_and, eq_self, n01_0, n01_1, nm1_0, k0]
      refine S_countIn hR hW hS hc (by omega) hp ?_
      simp (disch := omega) only [nI_ad, nI_ml, nI_lti, nI_lei, nI_eqi, nI_nn, nI_0le, nI_eq0, nI_0lt, nI_le0, nI_clamp, nI_pd, nI_sb, zOf_some, zOp_some, zOp_none, kI_int, kL_long, kO_ref, kO_null, nlt_T, nlt_F, nle_T, nle_F, neq_F, vpT, azUp_at, if_true, if_false, true_and, and_true, true_implies, false_implies, implies_true, not_true_eq_false, not_false_eq_true, true_or, or_true, false_or, or_false, and_false, false_and, eq_self, n01_0, n01_1, nm1_0]
      refine S_max hR (by omega) (by omega) ?_
      simp (disch := omega) only [nI_ad, nI_ml, nI_lti, nI_lei, nI_eqi, nI_nn, nI_0le, nI_eq0, nI_0lt, nI_le0, nI_clamp, nI_pd, nI_sb, zOf_some, zOp_some, zOp_none, kI_int, kL_long, kO_ref, kO_null, nlt_T, nlt_F, nle_T, nle_F, neq_F, vpT, azUp_at, if_true, if_false, true_and, and_true, true_implies, false_implies, implies_true, not_true_eq_false, not_false_eq_true, true_or, or_true, false_or, or_false, and_false, false_and, eq_self, n01_0, n01_1, nm1_0]
      exact ih (i + 1) (by omega)
  exact BX7_fullest_0 hR (main (min k S.1.length) 0 rfl)
theorem S_able (hR : azClosed R) (hW : WkOk kd F a) (hS : wsOK 60 S) (hc : cWk I a S) {k : Nat} (hk : k ≤ 60) (h : Q (some (.int (nI (orT S (min k S.1.length))))) ((n, z, kd), I, J, F)) : R (d + 2) mX7_ableSomewhere 0 [.ref a, .int (nI k), .retAddr 0, .retAddr 0] [] ((n, z, kd), I, J, F) Q := by
  have hl := hS.2.1
  have ⟨k0, k1, kf, kn, k2, k3, k4, k5, k6, f0, f1, f2, f3, f4, f5, f6⟩ := hW
  have main : ∀ s i, s + i = min k S.1.length → R (d + 2) mX7_ableSomewhere 4 [.ref a, .int (nI k), .int (nI (orT S i)), .int (nI i)] [] ((n, z, kd), I, J, F) Q := by
    intro s
    induction s with
    | zero =>
      intro i hi
      refine BX7_ableSomewhere_4 hR ⟨k0, S_among hR hW hS hc hk ?_⟩
      simp (disch := omega) only [nI_ad, nI_ml, nI_lti, nI_lei, nI_eqi, nI_nn, nI_0le, nI_eq0, nI_0lt, nI_le0, nI_clamp, nI_pd, nI_sb, zOf_some, zOp_some, zOp_none, kI_int, kL_long, kO_ref, kO_null, nlt_T, nlt_F, nle_T, nle_F, neq_F, vpT, azUp_at, if_true, if_false, true_and, and_true, true_implies, false_implies, implies_true, not_true_eq_false, not_false_eq_true, true_or, or_true, false_or, or_false, and_false, false_and, eq_self, n01_0, n01_1, nm1_0]
      rw [← hi, Nat.zero_add] at h
      exact h
    | succ s ih =>
      intro i hi
      refine BX7_ableSomewhere_4 hR ⟨k0, S_among hR hW hS hc hk ?_⟩
      simp (disch := omega) only [nI_ad, nI_ml, nI_lti, nI_lei, nI_eqi, nI_nn, nI_0le, nI_eq0, nI_0lt, nI_le0, nI_clamp, nI_pd, nI_sb, zOf_some, zOp_some, zOp_none, kI_int, kL_long, kO_ref, kO_null, nlt_T, nlt_F, nle_T, nle_F, neq_F, vpT, azUp_at, if_true, if_false, true_and, and_true, true_implies, false_implies, implies_true, not_true_eq_false, not_false_eq_true, true_or, or_true, false_or, or_false, and_false, false_and, eq_self, n01_0, n01_1, nm1_0, k0, f4, k4, hc.2 i (by omega), nI_or]
      exact ih (i + 1) (by omega)
  exact BX7_ableSomewhere_0 hR (main (min k S.1.length) 0 rfl)
theorem S_ends (hR : azClosed R) (hW : WkOk kd F a) (hS : wsOK 60 S) (hc : cWk I a S) {k : Nat} (hk : k ≤ 60) (h : Q (some (.int (nI (ndT S (min k S.1.length))))) ((n, z, kd), I, J, F)) : R (d + 2) mX7_countEnds 0 [.ref a, .int (nI k), .retAddr 0, .retAddr 0] [] ((n, z, kd), I, J, F) Q := by
  have hl := hS.2.1
  have k0 := hW.1
  have main : ∀ s i, s + i = min k S.1.length → R (d + 2) mX7_countEnds 4 [.ref a, .int (nI k), .int (nI (ndT S i)), .int (nI i)] [] ((n, z, kd), I, J, F) Q := by
    intro s
    induction s with
    | zero =>
      intro i hi
      refine BX7_countEnds_4 hR ⟨k0, S_among hR hW hS hc hk ?_⟩
      simp (disch := omega) only [nI_ad, nI_ml, nI_lti, nI_lei, nI_eqi, nI_nn, nI_0le, nI_eq0, nI_0lt, nI_le0, nI_clamp, nI_pd, nI_sb, zOf_some, zOp_some, zOp_none, kI_int, kL_long, kO_ref, kO_null, nlt_T, nlt_F, nle_T, nle_F, neq_F, vpT, azUp_at, if_true, if_false, true_and, and_true, true_implies, false_implies, implies_true, not_true_eq_false, not_false_eq_true, true_or, or_true, false_or, or_false, and_false, false_and, eq_self, n01_0, n01_1, nm1_0]
      rw [← hi, Nat.zero_add] at h
      exact h
    | succ s ih =>
      intro i hi
      have h2 := ((hS.2.2.2.1 _ (getD_memM (l := S.1) (i := i) (by omega))).1 9).1
      have hh := ih (i + 1) (by omega)
      refine BX7_countEnds_4 hR ⟨k0, S_among hR hW hS hc hk ?_⟩
      simp (disch := omega) only [nI_ad, nI_ml, nI_lti, nI_lei, nI_eqi, nI_nn, nI_0le, nI_eq0, nI_0lt, nI_le0, nI_clamp, nI_pd, nI_sb, zOf_some, zOp_some, zOp_none, kI_int, kL_long, kO_ref, kO_null, nlt_T, nlt_F, nle_T, nle_F, neq_F, vpT, azUp_at, if_true, if_false, true_and, and_true, true_implies, false_implies, implies_true, not_true_eq_false, not_false_eq_true, true_or, or_true, false_or, or_false, and_false, false_and, eq_self, n01_0, n01_1, nm1_0, k0]
      refine S_countIn hR hW hS hc (by omega) (by decide) ?_
      by_cases c : (S.1.getD i mNil) 9 = []
      · have : ndT S (i + 1) = ndT S i := by show (if _ then _ else _) = _; rw [if_pos c]
        rw [this] at hh
        rw [c]
        simp (disch := omega) only [nI_ad, nI_ml, nI_lti, nI_lei, nI_eqi, nI_nn, nI_0le, nI_eq0, nI_0lt, nI_le0, nI_clamp, nI_pd, nI_sb, zOf_some, zOp_some, zOp_none, kI_int, kL_long, kO_ref, kO_null, nlt_T, nlt_F, nle_T, nle_F, neq_F, vpT, azUp_at, if_true, if_false, true_and, and_true, true_implies, false_implies, implies_true, not_true_eq_false, not_false_eq_true, true_or, or_true, false_or, or_false, and_false, false_and, eq_self, n01_0, n01_1, nm1_0, List.length_nil]
        exact hh
      · have : ndT S (i + 1) = ndT S i + 1 := by show (if _ then _ else _) = _; rw [if_neg c]
        rw [this] at hh
        have hpos : ¬ (((S.1.getD i mNil) 9).length = 0) := by
          have := List.length_pos_iff.mpr c
          omega
        simp (disch := omega) only [nI_ad, nI_ml, nI_lti, nI_lei, nI_eqi, nI_nn, nI_0le, nI_eq0, nI_0lt, nI_le0, nI_clamp, nI_pd, nI_sb, zOf_some, zOp_some, zOp_none, kI_int, kL_long, kO_ref, kO_null, nlt_T, nlt_F, nle_T, nle_F, neq_F, vpT, azUp_at, if_true, if_false, true_and, and_true, true_implies, false_implies, implies_true, not_true_eq_false, not_false_eq_true, true_or, or_true, false_or, or_false, and_false, false_and, eq_self, n01_0, n01_1, nm1_0, hpos]
        exact hh
  exact BX7_countEnds_0 hR (main (min k S.1.length) 0 rfl)
theorem S_steps (hR : azClosed R) (hW : WkOk kd F a) (hS : wsOK 60 S) (hc : cWk I a S) {i : Nat} (hi : i < S.1.length) (h : Q (some (.int (nI (stp S 60 i)))) ((n, z, kd), I, J, F)) : R d mX7_steps 0 [.ref a, .int (nI i), .retAddr 0, .retAddr 0, .retAddr 0] [] ((n, z, kd), I, J, F) Q := by
  have hl := hS.2.1
  have ⟨k0, k1, kf, kn, k2, k3, k4, k5, k6, f0, f1, f2, f3, f4, f5, f6⟩ := hW
  have main : ∀ s c j, s + c = 60 → j < S.1.length → c + stp S s j = stp S 60 i → R d mX7_steps 7 [.ref a, .int (nI i), .int (nI c), .int (nI j), .int (nI c)] [] ((n, z, kd), I, J, F) Q := by
    intro s
    induction s with
    | zero =>
      intro c j hs hj he
      refine BX7_steps_7 hR ?_
      simp (disch := omega) only [nI_ad, nI_ml, nI_lti, nI_lei, nI_eqi, nI_nn, nI_0le, nI_eq0, nI_0lt, nI_le0, nI_clamp, nI_pd, nI_sb, zOf_some, zOp_some, zOp_none, kI_int, kL_long, kO_ref, kO_null, nlt_T, nlt_F, nle_T, nle_F, neq_F, vpT, azUp_at, if_true, if_false, true_and, and_true, true_implies, false_implies, implies_true, not_true_eq_false, not_false_eq_true, true_or, or_true, false_or, or_false, and_false, false_and, eq_self, n01_0, n01_1, nm1_0]
      rw [← he] at h
      exact h
    | succ s ih =>
      intro c j hs hj he
      refine BX7_steps_7 hR ?_
      have e1 : stp S (s + 1) j = if j = 0 then 0 else stp S s (S.2.1.getD j (0, 0)).1 + 1 := rfl
      rw [e1] at he
      by_cases c0 : j = 0
      · subst c0
        rw [if_pos rfl] at he
        simp (disch := omega) only [nI_ad, nI_ml, nI_lti, nI_lei, nI_eqi, nI_nn, nI_0le, nI_eq0, nI_0lt, nI_le0, nI_clamp, nI_pd, nI_sb, zOf_some, zOp_some, zOp_none, kI_int, kL_long, kO_ref, kO_null, nlt_T, nlt_F, nle_T, nle_F, neq_F, vpT, azUp_at, if_true, if_false, true_and, and_true, true_implies, false_implies, implies_true, not_true_eq_false, not_false_eq_true, true_or, or_true, false_or, or_false, and_false, false_and, eq_self, n01_0, n01_1, nm1_0]
        have e : stp S 60 i = c := by omega
        rw [e] at h
        exact h
      · rw [if_neg c0] at he
        have hb := hS.2.2.2.2.1 j (by omega) hj
        simp (disch := omega) only [nI_ad, nI_ml, nI_lti, nI_lei, nI_eqi, nI_nn, nI_0le, nI_eq0, nI_0lt, nI_le0, nI_clamp, nI_pd, nI_sb, zOf_some, zOp_some, zOp_none, kI_int, kL_long, kO_ref, kO_null, nlt_T, nlt_F, nle_T, nle_F, neq_F, vpT, azUp_at, if_true, if_false, true_and, and_true, true_implies, false_implies, implies_true, not_true_eq_false, not_false_eq_true, true_or, or_true, false_or, or_false, and_false, false_and, eq_self, n01_0, n01_1, nm1_0, c0, k0, f2, k2, (hc.1.2.2.1 j (by omega) hj).1]
        exact ih (c + 1) _ (by omega) (by omega) (by omega)
  exact BX7_steps_0 hR (main 60 0 i rfl hi (Nat.zero_add _))
theorem S_step (hR : azClosed R) (hW : WkOk kd F a) (hS : wsOK 60 S) (hc : cWk I a S) {i k : Nat} (hi : i < S.1.length) (hk : k < 1000) (h : Q (some (.int (if anc S k i = 0 then -(nI 1) else nI (S.2.1.getD (anc S k i) (0, 0)).2))) ((n, z, kd), I, J, F)) : R d mX7_step 0 [.ref a, .int (nI i), .int (nI k), .retAddr 0, .retAddr 0] [] ((n, z, kd), I, J, F) Q := by
  have hl := hS.2.1
  have ⟨k0, k1, kf, kn, k2, k3, k4, k5, k6, f0, f1, f2, f3, f4, f5, f6⟩ := hW
  have s34 : ∀ j c, j < S.1.length → j = anc S k i → R d mX7_step 34 [.ref a, .int (nI i), .int (nI k), .int (nI j), .int (nI c)] [] ((n, z, kd), I, J, F) Q := by
    intro j c hj he
    rw [← he] at h
    refine BX7_step_34 hR ?_
    by_cases c0 : j = 0
    · rw [if_pos c0] at h
      simp (disch := omega) only [nI_ad, nI_ml, nI_lti, nI_lei, nI_eqi, nI_nn, nI_0le, nI_eq0, nI_0lt, nI_le0, nI_clamp, nI_pd, nI_sb, zOf_some, zOp_some, zOp_none, kI_int, kL_long, kO_ref, kO_null, nlt_T, nlt_F, nle_T, nle_F, neq_F, vpT, azUp_at, if_true, if_false, true_and, and_true, true_implies, false_implies, implies_true, not_true_eq_false, not_false_eq_true, true_or, or_true, false_or, or_false, and_false, false_and, eq_self, n01_0, n01_1, nm1_0, c0]
      exact h
    · rw [if_neg c0] at h
      simp (disch := omega) only [nI_ad, nI_ml, nI_lti, nI_lei, nI_eqi, nI_nn, nI_0le, nI_eq0, nI_0lt, nI_le0, nI_clamp, nI_pd, nI_sb, zOf_some, zOp_some, zOp_none, kI_int, kL_long, kO_ref, kO_null, nlt_T, nlt_F, nle_T, nle_F, neq_F, vpT, azUp_at, if_true, if_false, true_and, and_true, true_implies, false_implies, implies_true, not_true_eq_false, not_false_eq_true, true_or, or_true, false_or, or_false, and_false, false_and, eq_self, n01_0, n01_1, nm1_0, c0, k0, f3, k3, (hc.1.2.2.1 j (by omega) hj).2]
      exact h
  have main : ∀ s c j, s + c = k → j < S.1.length → anc S s j = anc S k i → R d mX7_step 5 [.ref a, .int (nI i), .int (nI k), .int (nI j), .int (nI c)] [] ((n, z, kd), I, J, F) Q := by
    intro s
    induction s with
    | zero =>
      intro c j hs hj he
      refine BX7_step_5 hR ?_
      simp (disch := omega) only [nI_ad, nI_ml, nI_lti, nI_lei, nI_eqi, nI_nn, nI_0le, nI_eq0, nI_0lt, nI_le0, nI_clamp, nI_pd, nI_sb, zOf_some, zOp_some, zOp_none, kI_int, kL_long, kO_ref, kO_null, nlt_T, nlt_F, nle_T, nle_F, neq_F, vpT, azUp_at, if_true, if_false, true_and, and_true, true_implies, false_implies, implies_true, not_true_eq_false, not_false_eq_true, true_or, or_true, false_or, or_false, and_false, false_and, eq_self, n01_0, n01_1, nm1_0]
      exact s34 j c hj he
    | succ s ih =>
      intro c j hs hj he
      refine BX7_step_5 hR ?_
      have e1 : anc S (s + 1) j = if j = 0 then 0 else anc S s (S.2.1.getD j (0, 0)).1 := rfl
      rw [e1] at he
      by_cases c0 : j = 0
      · rw [if_pos c0] at he
        simp (disch := omega) only [nI_ad, nI_ml, nI_lti, nI_lei, nI_eqi, nI_nn, nI_0le, nI_eq0, nI_0lt, nI_le0, nI_clamp, nI_pd, nI_sb, zOf_some, zOp_some, zOp_none, kI_int, kL_long, kO_ref, kO_null, nlt_T, nlt_F, nle_T, nle_F, neq_F, vpT, azUp_at, if_true, if_false, true_and, and_true, true_implies, false_implies, implies_true, not_true_eq_false, not_false_eq_true, true_or, or_true, false_or, or_false, and_false, false_and, eq_self, n01_0, n01_1, nm1_0, c0]
        have := s34 j c hj (by rw [← he]; exact c0)
        rw [c0] at this
        exact this
      · rw [if_neg c0] at he
        have hb := hS.2.2.2.2.1 j (by omega) hj
        simp (disch := omega) only [nI_ad, nI_ml, nI_lti, nI_lei, nI_eqi, nI_nn, nI_0le, nI_eq0, nI_0lt, nI_le0, nI_clamp, nI_pd, nI_sb, zOf_some, zOp_some, zOp_none, kI_int, kL_long, kO_ref, kO_null, nlt_T, nlt_F, nle_T, nle_F, neq_F, vpT, azUp_at, if_true, if_false, true_and, and_true, true_implies, false_implies, implies_true, not_true_eq_false, not_false_eq_true, true_or, or_true, false_or, or_false, and_false, false_and, eq_self, n01_0, n01_1, nm1_0, c0, k0, f2, k2, (hc.1.2.2.1 j (by omega) hj).1]
        exact ih (c + 1) _ (by omega) (by omega) he
  exact BX7_step_0 hR (main k 0 i rfl hi rfl)
end S7
