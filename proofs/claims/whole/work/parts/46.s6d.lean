/-! SPECS: Tape.expect, words, comparisons, conditions. -/
theorem TxOk.frm {kd : azK} {I I' : azI} {a r : Nat} (h : TxOk kd I) (hf : frm a r I I') (ha : a < azB) (hr : r + 8 < azB) : TxOk kd I' := by
  intro j hj
  obtain ⟨h1, h2, h3⟩ := h j hj
  refine ⟨h1, h2, fun k hk => ?_⟩
  rw [hf (azB + j + 20) (by omega) (by omega)]
  exact h3 k hk
/-- the word j stands between two places -/
def wB (j : Nat) (t : List Nat) (b e : Nat) : Prop := e = b + (wTx.getD j []).length ∧ ∀ k, k < (wTx.getD j []).length → tb t (b + k) = (wTx.getD j []).getD k 0
theorem wB_0 {t : List Nat} {b e : Nat} : wB 0 t b e ↔ (e = b + 2 ∧ tb t b = 105 ∧ tb t (b + 1) = 110) := by
  refine ⟨fun h => ⟨h.1, h.2 0 (by decide), h.2 1 (by decide)⟩, fun h => ⟨h.1, fun k hk => ?_⟩⟩
  have hk : k < 2 := hk
  match k with
  | 0 => exact h.2.1
  | 1 => exact h.2.2
theorem wB_1 {t : List Nat} {b e : Nat} : wB 1 t b e ↔ (e = b + 2 ∧ tb t b = 105 ∧ tb t (b + 1) = 102) := by
  refine ⟨fun h => ⟨h.1, h.2 0 (by decide), h.2 1 (by decide)⟩, fun h => ⟨h.1, fun k hk => ?_⟩⟩
  have hk : k < 2 := hk
  match k with
  | 0 => exact h.2.1
  | 1 => exact h.2.2
theorem wB_2 {t : List Nat} {b e : Nat} : wB 2 t b e ↔ (e = b + 3 ∧ tb t b = 111 ∧ tb t (b + 1) = 117 ∧ tb t (b + 2) = 116) := by
  refine ⟨fun h => ⟨h.1, h.2 0 (by decide), h.2 1 (by decide), h.2 2 (by decide)⟩, fun h => ⟨h.1, fun k hk => ?_⟩⟩
  have hk : k < 3 := hk
  match k with
  | 0 => exact h.2.1
  | 1 => exact h.2.2.1
  | 2 => exact h.2.2.2
theorem wB_3 {t : List Nat} {b e : Nat} : wB 3 t b e ↔ (e = b + 5 ∧ tb t b = 101 ∧ tb t (b + 1) = 109 ∧ tb t (b + 2) = 112 ∧ tb t (b + 3) = 116 ∧ tb t (b + 4) = 121) := by
  refine ⟨fun h => ⟨h.1, h.2 0 (by decide), h.2 1 (by decide), h.2 2 (by decide), h.2 3 (by decide), h.2 4 (by decide)⟩, fun h => ⟨h.1, fun k hk => ?_⟩⟩
  have hk : k < 5 := hk
  match k with
  | 0 => exact h.2.1
  | 1 => exact h.2.2.1
  | 2 => exact h.2.2.2.1
  | 3 => exact h.2.2.2.2.1
  | 4 => exact h.2.2.2.2.2
section S6
variable {R : azP} {D d n z : Nat} {kd : azK} {I : azI} {J : azJ} {F : azR} {Q : azQ} {a r : Nat} {t : List Nat} {cs : List Cls} {kb i : Nat} {I0 : azI} {pd : List Nat}
theorem S_expect (hR : azClosed R) (hM : TpOk kd F a r) (ht : tOK t) (h0 : rdOk I0 a r t kb cs pd i I) (hi : i ≤ t.length) {c : Nat} (hc : c < 128) (h1 : tb t i = c → ∀ I', rdOk I0 a r t kb cs pd (i + 1) I' → Q (some (.int (nI 1))) ((n, z, kd), I', J, F)) (h2 : tb t i ≠ c → ∀ I', rdEr I0 a r t i I' → Q (some (.int (nI 0))) ((n, z, kd), I', J, F)) : R (d + 1) mX6_expect 0 [.ref a, .int (nI c)] [] ((n, z, kd), I, J, F) Q := by
  have hl := ht.1
  have hb := tb_lt ht (i := i)
  refine BX6_expect_0 hR ?_
  simp (disch := omega) only [nI_ad, nI_ml, nI_lti, nI_lei, nI_eqi, nI_nn, nI_0le, nI_eq0, nI_0lt, nI_le0, nI_clamp, nI_pd, nI_sb, zOf_some, zOp_some, zOp_none, kI_int, kL_long, kO_ref, kO_null, nlt_T, nlt_F, nle_T, nle_F, neq_F, vpT, azUp_at, if_true, if_false, true_and, and_true, true_implies, false_implies, implies_true, not_true_eq_false, not_false_eq_true, true_or, or_true, false_or, or_false, and_false, false_and, eq_self, n01_0, n01_1, nm1_0, hM.1]
  refine S_peek hR hM ht h0.1 hi ?_
  by_cases e : tb t i = c
  · rw [e]
    simp (disch := omega) only [nI_ad, nI_ml, nI_lti, nI_lei, nI_eqi, nI_nn, nI_0le, nI_eq0, nI_0lt, nI_le0, nI_clamp, nI_pd, nI_sb, zOf_some, zOp_some, zOp_none, kI_int, kL_long, kO_ref, kO_null, nlt_T, nlt_F, nle_T, nle_F, neq_F, vpT, azUp_at, if_true, if_false, true_and, and_true, true_implies, false_implies, implies_true, not_true_eq_false, not_false_eq_true, true_or, or_true, false_or, or_false, and_false, false_and, eq_self, n01_0, n01_1, nm1_0, hM.1, h0.1.2.1]
    exact h1 e _ (h0.up hM.2.2.2.2.2 (i + 1))
  · simp (disch := omega) only [nI_ad, nI_ml, nI_lti, nI_lei, nI_eqi, nI_nn, nI_0le, nI_eq0, nI_0lt, nI_le0, nI_clamp, nI_pd, nI_sb, zOf_some, zOp_some, zOp_none, kI_int, kL_long, kO_ref, kO_null, nlt_T, nlt_F, nle_T, nle_F, neq_F, vpT, azUp_at, if_true, if_false, true_and, and_true, true_implies, false_implies, implies_true, not_true_eq_false, not_false_eq_true, true_or, or_true, false_or, or_false, and_false, false_and, eq_self, n01_0, n01_1, nm1_0, hM.1, h0.1.2.1, e]
    refine S_fail hR hM ?_
    simp (disch := omega) only [nI_ad, nI_ml, nI_lti, nI_lei, nI_eqi, nI_nn, nI_0le, nI_eq0, nI_0lt, nI_le0, nI_clamp, nI_pd, nI_sb, zOf_some, zOp_some, zOp_none, kI_int, kL_long, kO_ref, kO_null, nlt_T, nlt_F, nle_T, nle_F, neq_F, vpT, azUp_at, if_true, if_false, true_and, and_true, true_implies, false_implies, implies_true, not_true_eq_false, not_false_eq_true, true_or, or_true, false_or, or_false, and_false, false_and, eq_self, n01_0, n01_1, nm1_0]
    exact h2 e _ (h0.fail i)
theorem S_byteAt (hR : azClosed R) (hM : TpOk kd F a r) (ht : tOK t) (hc : cT I a t i kb) {j : Nat} (hj : j < 1000) (h : Q (some (.int (nI (tb t j)))) ((n, z, kd), I, J, F)) : R d mX6_byteAt 0 [.ref a, .int (nI j)] [] ((n, z, kd), I, J, F) Q := by
  obtain ⟨k0, k1, f0, f5, hr, hd⟩ := hM
  obtain ⟨c1, c2, c4, c5⟩ := hc
  have hl := ht.1
  refine BX6_byteAt_0 hR ?_
  by_cases hh : j < t.length
  · have e := c5.get hh
    simp (disch := omega) only [nI_ad, nI_ml, nI_lti, nI_lei, nI_eqi, nI_nn, nI_0le, nI_eq0, nI_0lt, nI_le0, nI_clamp, nI_pd, nI_sb, zOf_some, zOp_some, zOp_none, kI_int, kL_long, kO_ref, kO_null, nlt_T, nlt_F, nle_T, nle_F, neq_F, vpT, azUp_at, if_true, if_false, true_and, and_true, true_implies, false_implies, implies_true, not_true_eq_false, not_false_eq_true, true_or, or_true, false_or, or_false, and_false, false_and, eq_self, n01_0, n01_1, nm1_0, k0, k1, f0, c1, e]
    exact h
  · rw [tb_0 (by omega)] at h
    simp (disch := omega) only [nI_ad, nI_ml, nI_lti, nI_lei, nI_eqi, nI_nn, nI_0le, nI_eq0, nI_0lt, nI_le0, nI_clamp, nI_pd, nI_sb, zOf_some, zOp_some, zOp_none, kI_int, kL_long, kO_ref, kO_null, nlt_T, nlt_F, nle_T, nle_F, neq_F, vpT, azUp_at, if_true, if_false, true_and, and_true, true_implies, false_implies, implies_true, not_true_eq_false, not_false_eq_true, true_or, or_true, false_or, or_false, and_false, false_and, eq_self, n01_0, n01_1, nm1_0, k0, c1]
    exact h
theorem S_wordEnd (hR : azClosed R) (hM : TpOk kd F a r) (ht : tOK t) (hc : cT I a t i kb) {b : Nat} (hb : b ≤ 80) (h : Q (some (.int (nI (wEnd t 80 b)))) ((n, z, kd), I, J, F)) : R (d + 1) mX6_wordEnd 0 [.ref a, .int (nI b), .retAddr 0, .retAddr 0] [] ((n, z, kd), I, J, F) Q := by
  refine BX6_wordEnd_0 hR ?_
  have main : ∀ m k x, m + k = 80 → x = b + k → Q (some (.int (nI (wEnd t m x)))) ((n, z, kd), I, J, F) → R (d + 1) mX6_wordEnd 4 [.ref a, .int (nI b), .int (nI x), .int (nI k)] [] ((n, z, kd), I, J, F) Q := by
    intro m
    induction m with
    | zero =>
      intro k x hk hx h
      obtain rfl : k = 80 := by omega
      refine BX6_wordEnd_4 hR ?_
      simp (disch := omega) only [nI_ad, nI_ml, nI_lti, nI_lei, nI_eqi, nI_nn, nI_0le, nI_eq0, nI_0lt, nI_le0, nI_clamp, nI_pd, nI_sb, zOf_some, zOp_some, zOp_none, kI_int, kL_long, kO_ref, kO_null, nlt_T, nlt_F, nle_T, nle_F, neq_F, vpT, azUp_at, if_true, if_false, true_and, and_true, true_implies, false_implies, implies_true, not_true_eq_false, not_false_eq_true, true_or, or_true, false_or, or_false, and_false, false_and, eq_self, n01_0, n01_1, nm1_0]
      exact h
    | succ m ih =>
      intro k x hk hx h
      have hb := tb_lt ht (i := x)
      unfold wEnd at h
      refine BX6_wordEnd_4 hR ?_
      simp (disch := omega) only [nI_ad, nI_ml, nI_lti, nI_lei, nI_eqi, nI_nn, nI_0le, nI_eq0, nI_0lt, nI_le0, nI_clamp, nI_pd, nI_sb, zOf_some, zOp_some, zOp_none, kI_int, kL_long, kO_ref, kO_null, nlt_T, nlt_F, nle_T, nle_F, neq_F, vpT, azUp_at, if_true, if_false, true_and, and_true, true_implies, false_implies, implies_true, not_true_eq_false, not_false_eq_true, true_or, or_true, false_or, or_false, and_false, false_and, eq_self, n01_0, n01_1, nm1_0, hM.1]
      refine S_byteAt hR hM ht hc (by omega) ?_
      by_cases c1 : tb t x < 97
      · rw [if_neg (by omega)] at h
        simp (disch := omega) only [nI_ad, nI_ml, nI_lti, nI_lei, nI_eqi, nI_nn, nI_0le, nI_eq0, nI_0lt, nI_le0, nI_clamp, nI_pd, nI_sb, zOf_some, zOp_some, zOp_none, kI_int, kL_long, kO_ref, kO_null, nlt_T, nlt_F, nle_T, nle_F, neq_F, vpT, azUp_at, if_true, if_false, true_and, and_true, true_implies, false_implies, implies_true, not_true_eq_false, not_false_eq_true, true_or, or_true, false_or, or_false, and_false, false_and, eq_self, n01_0, n01_1, nm1_0, c1]
        exact h
      · simp (disch := omega) only [nI_ad, nI_ml, nI_lti, nI_lei, nI_eqi, nI_nn, nI_0le, nI_eq0, nI_0lt, nI_le0, nI_clamp, nI_pd, nI_sb, zOf_some, zOp_some, zOp_none, kI_int, kL_long, kO_ref, kO_null, nlt_T, nlt_F, nle_T, nle_F, neq_F, vpT, azUp_at, if_true, if_false, true_and, and_true, true_implies, false_implies, implies_true, not_true_eq_false, not_false_eq_true, true_or, or_true, false_or, or_false, and_false, false_and, eq_self, n01_0, n01_1, nm1_0, c1, hM.1]
        refine S_byteAt hR hM ht hc (by omega) ?_
        by_cases c2 : tb t x ≤ 122
        · rw [if_pos (by omega)] at h
          simp (disch := omega) only [nI_ad, nI_ml, nI_lti, nI_lei, nI_eqi, nI_nn, nI_0le, nI_eq0, nI_0lt, nI_le0, nI_clamp, nI_pd, nI_sb, zOf_some, zOp_some, zOp_none, kI_int, kL_long, kO_ref, kO_null, nlt_T, nlt_F, nle_T, nle_F, neq_F, vpT, azUp_at, if_true, if_false, true_and, and_true, true_implies, false_implies, implies_true, not_true_eq_false, not_false_eq_true, true_or, or_true, false_or, or_false, and_false, false_and, eq_self, n01_0, n01_1, nm1_0, c2]
          exact ih (k + 1) (x + 1) (by omega) (by omega) h
        · rw [if_neg (by omega)] at h
          simp (disch := omega) only [nI_ad, nI_ml, nI_lti, nI_lei, nI_eqi, nI_nn, nI_0le, nI_eq0, nI_0lt, nI_le0, nI_clamp, nI_pd, nI_sb, zOf_some, zOp_some, zOp_none, kI_int, kL_long, kO_ref, kO_null, nlt_T, nlt_F, nle_T, nle_F, neq_F, vpT, azUp_at, if_true, if_false, true_and, and_true, true_implies, false_implies, implies_true, not_true_eq_false, not_false_eq_true, true_or, or_true, false_or, or_false, and_false, false_and, eq_self, n01_0, n01_1, nm1_0, c2]
          exact h
  exact main 80 0 b rfl rfl h
theorem S_isWord (hR : azClosed R) (hM : TpOk kd F a r) (ht : tOK t) (hX : TxOk kd I) (hc : cT I a t i kb) {j b e : Nat} (hj : j < 4) (hbe : b ≤ e) (he : e ≤ 80) (h1 : wB j t b e → Q (some (.int (nI 1))) ((n, z, kd), I, J, F)) (h0 : ¬ wB j t b e → Q (some (.int (nI 0))) ((n, z, kd), I, J, F)) : R (d + 4) mX6_isWord 0 [.ref a, .ref (azB + j), .int (nI b), .int (nI e), .retAddr 0] [] ((n, z, kd), I, J, F) Q := by
  have hl := (wTx_lt j hj).1
  have hlt := (wTx_lt j hj).2
  refine BX6_isWord_0 hR ⟨(hX j hj).1, S_length hR hX hj ?_⟩
  have main : ∀ m k, m + k = (wTx.getD j []).length → e = b + (wTx.getD j []).length → (∀ q, q < k → tb t (b + q) = (wTx.getD j []).getD q 0) → R (d + 4) mX6_isWord 15 [.ref a, .ref (azB + j), .int (nI b), .int (nI e), .int (nI k)] [] ((n, z, kd), I, J, F) Q := by
    intro m
    induction m with
    | zero =>
      intro k hk he hq
      obtain rfl : k = (wTx.getD j []).length := by omega
      refine BX6_isWord_15 hR ⟨(hX j hj).1, S_length hR hX hj ?_⟩
      simp (disch := omega) only [nI_ad, nI_ml, nI_lti, nI_lei, nI_eqi, nI_nn, nI_0le, nI_eq0, nI_0lt, nI_le0, nI_clamp, nI_pd, nI_sb, zOf_some, zOp_some, zOp_none, kI_int, kL_long, kO_ref, kO_null, nlt_T, nlt_F, nle_T, nle_F, neq_F, vpT, azUp_at, if_true, if_false, true_and, and_true, true_implies, false_implies, implies_true, not_true_eq_false, not_false_eq_true, true_or, or_true, false_or, or_false, and_false, false_and, eq_self, n01_0, n01_1, nm1_0]
      exact h1 ⟨he, hq⟩
    | succ m ih =>
      intro k hk he hq
      have hb := tb_lt ht (i := b + k)
      have hcc := hlt k (by omega)
      refine BX6_isWord_15 hR ⟨(hX j hj).1, S_length hR hX hj ?_⟩
      simp (disch := omega) only [nI_ad, nI_ml, nI_lti, nI_lei, nI_eqi, nI_nn, nI_0le, nI_eq0, nI_0lt, nI_le0, nI_clamp, nI_pd, nI_sb, zOf_some, zOp_some, zOp_none, kI_int, kL_long, kO_ref, kO_null, nlt_T, nlt_F, nle_T, nle_F, neq_F, vpT, azUp_at, if_true, if_false, true_and, and_true, true_implies, false_implies, implies_true, not_true_eq_false, not_false_eq_true, true_or, or_true, false_or, or_false, and_false, false_and, eq_self, n01_0, n01_1, nm1_0, hM.1]
      refine S_byteAt hR hM ht hc (by omega) ?_
      rw [kI_int]
      refine ⟨(hX j hj).1, S_charAt hR hX hj (by omega) ?_⟩
      by_cases c : tb t (b + k) = (wTx.getD j []).getD k 0
      · simp (disch := omega) only [nI_ad, nI_ml, nI_lti, nI_lei, nI_eqi, nI_nn, nI_0le, nI_eq0, nI_0lt, nI_le0, nI_clamp, nI_pd, nI_sb, zOf_some, zOp_some, zOp_none, kI_int, kL_long, kO_ref, kO_null, nlt_T, nlt_F, nle_T, nle_F, neq_F, vpT, azUp_at, if_true, if_false, true_and, and_true, true_implies, false_implies, implies_true, not_true_eq_false, not_false_eq_true, true_or, or_true, false_or, or_false, and_false, false_and, eq_self, n01_0, n01_1, nm1_0, c]
        refine ih (k + 1) (by omega) he fun q hq2 => ?_
        by_cases e : q = k
        · subst e; exact c
        · exact hq q (by omega)
      · simp (disch := omega) only [nI_ad, nI_ml, nI_lti, nI_lei, nI_eqi, nI_nn, nI_0le, nI_eq0, nI_0lt, nI_le0, nI_clamp, nI_pd, nI_sb, zOf_some, zOp_some, zOp_none, kI_int, kL_long, kO_ref, kO_null, nlt_T, nlt_F, nle_T, nle_F, neq_F, vpT, azUp_at, if_true, if_false, true_and, and_true, true_implies, false_implies, implies_true, not_true_eq_false, not_false_eq_true, true_or, or_true, false_or, or_false, and_false, false_and, eq_self, n01_0, n01_1, nm1_0, c]
        exact h0 fun h => c (h.2 k (by omega))
  rw [kI_int]
  by_cases c : e = b + (wTx.getD j []).length
  · have c' : e - b = (wTx.getD j []).length := by omega
    simp (disch := omega) only [nI_ad, nI_ml, nI_lti, nI_lei, nI_eqi, nI_nn, nI_0le, nI_eq0, nI_0lt, nI_le0, nI_clamp, nI_pd, nI_sb, zOf_some, zOp_some, zOp_none, kI_int, kL_long, kO_ref, kO_null, nlt_T, nlt_F, nle_T, nle_F, neq_F, vpT, azUp_at, if_true, if_false, true_and, and_true, true_implies, false_implies, implies_true, not_true_eq_false, not_false_eq_true, true_or, or_true, false_or, or_false, and_false, false_and, eq_self, n01_0, n01_1, nm1_0, c']
    exact main _ 0 rfl c fun q hq => absurd hq (by omega)
  · have c' : ¬ (e - b = (wTx.getD j []).length) := by omega
    simp (disch := omega) only [nI_ad, nI_ml, nI_lti, nI_lei, nI_eqi, nI_nn, nI_0le, nI_eq0, nI_0lt, nI_le0, nI_clamp, nI_pd, nI_sb, zOf_some, zOp_some, zOp_none, kI_int, kL_long, kO_ref, kO_null, nlt_T, nlt_F, nle_T, nle_F, neq_F, vpT, azUp_at, if_true, if_false, true_and, and_true, true_implies, false_implies, implies_true, not_true_eq_false, not_false_eq_true, true_or, or_true, false_or, or_false, and_false, false_and, eq_self, n01_0, n01_1, nm1_0, c']
    exact h0 fun h => c h.1
end S6
