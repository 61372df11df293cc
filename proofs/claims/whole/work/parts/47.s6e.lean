/-! SPECS: Tape.kindOf, comparisons, conditions. -/
theorem kOf_0 {t : List Nat} {b e : Nat} (h : wB 0 t b e) : kOf t b e = 0 := by
  unfold kOf
  rw [if_pos (wB_0.mp h)]
theorem kOf_1 {t : List Nat} {b e : Nat} (h0 : ¬ wB 0 t b e) (h : wB 1 t b e) : kOf t b e = 1 := by
  unfold kOf
  rw [if_neg (fun c => h0 (wB_0.mpr c)), if_pos (wB_1.mp h)]
theorem kOf_2 {t : List Nat} {b e : Nat} (h0 : ¬ wB 0 t b e) (h1 : ¬ wB 1 t b e) (h : wB 2 t b e) : kOf t b e = 2 := by
  unfold kOf
  rw [if_neg (fun c => h0 (wB_0.mpr c)), if_neg (fun c => h1 (wB_1.mpr c)), if_pos (wB_2.mp h)]
theorem kOf_3 {t : List Nat} {b e : Nat} (h0 : ¬ wB 0 t b e) (h1 : ¬ wB 1 t b e) (h2 : ¬ wB 2 t b e) (h : wB 3 t b e) : kOf t b e = 3 := by
  unfold kOf
  rw [if_neg (fun c => h0 (wB_0.mpr c)), if_neg (fun c => h1 (wB_1.mpr c)), if_neg (fun c => h2 (wB_2.mpr c)), if_pos (wB_3.mp h)]
theorem kOf_4 {t : List Nat} {b e : Nat} (h0 : ¬ wB 0 t b e) (h1 : ¬ wB 1 t b e) (h2 : ¬ wB 2 t b e) (h3 : ¬ wB 3 t b e) : kOf t b e = 4 := by
  unfold kOf
  rw [if_neg (fun c => h0 (wB_0.mpr c)), if_neg (fun c => h1 (wB_1.mpr c)), if_neg (fun c => h2 (wB_2.mpr c)), if_neg (fun c => h3 (wB_3.mpr c))]
def clPost (I0 : azI) (a r : Nat) (t : List Nat) (cs : List Cls) (S : azI → azS) (Q : azQ) : PR Cls → Prop
  | .ok x => ∀ I', rdOk I0 a r t (knB (cs ++ [x.1])) (cs ++ [x.1]) [] x.2 I' → Q (some (.int (nI 1))) (S I')
  | .error e => ∀ I', rdEr I0 a r t e I' → Q (some (.int (nI 0))) (S I')
section S6
variable {R : azP} {D d n z : Nat} {kd : azK} {I : azI} {J : azJ} {F : azR} {Q : azQ} {a r : Nat} {t : List Nat} {cs : List Cls} {kb i : Nat} {I0 : azI} {pd : List Nat}
theorem S_wordOf (hR : azClosed R) {k : Nat} (hk : k < 4) {σ : azS} (h : Q (some (.ref (azB + k))) σ) : R d mX8_wordOf 0 [.int (nI k)] [] σ Q := by
  obtain ⟨⟨n, z, kd⟩, I, J, F⟩ := σ
  refine BX8_wordOf_0 hR ?_
  rw [nI_toInt (by omega)]
  refine ⟨fun e => ?_, fun e => ?_, fun e => ?_, fun e => ?_, trivial⟩
  · obtain rfl : k = 3 := by omega
    exact h
  · obtain rfl : k = 0 := by omega
    exact h
  · obtain rfl : k = 1 := by omega
    exact h
  · obtain rfl : k = 2 := by omega
    exact h
theorem S_kindOf (hR : azClosed R) (hM : TpOk kd F a r) (ht : tOK t) (hX : TxOk kd I) (hc : cT I a t i kb) {b e : Nat} (hbe : b ≤ e) (he : e ≤ 80) (h : Q (some (.int (if kOf t b e = 4 then -(nI 1) else nI (kOf t b e)))) ((n, z, kd), I, J, F)) : R (d + 5) mX6_kindOf 0 [.ref a, .int (nI b), .int (nI e), .retAddr 0] [] ((n, z, kd), I, J, F) Q := by
  have step : ∀ k, k < 4 → (wB k t b e → Q (some (.int (nI k))) ((n, z, kd), I, J, F)) → (¬ wB k t b e → R (d + 5) mX6_kindOf 2 [.ref a, .int (nI b), .int (nI e), .int (nI (k + 1))] [] ((n, z, kd), I, J, F) Q) → R (d + 5) mX6_kindOf 2 [.ref a, .int (nI b), .int (nI e), .int (nI k)] [] ((n, z, kd), I, J, F) Q := by
    intro k hk h1 h2
    refine BX6_kindOf_2 hR ?_
    simp (disch := omega) only [nI_ad, nI_ml, nI_lti, nI_lei, nI_eqi, nI_nn, nI_0le, nI_eq0, nI_0lt, nI_le0, nI_clamp, nI_pd, nI_sb, zOf_some, zOp_some, zOp_none, kI_int, kL_long, kO_ref, kO_null, nlt_T, nlt_F, nle_T, nle_F, neq_F, vpT, azUp_at, if_true, if_false, true_and, and_true, true_implies, false_implies, implies_true, not_true_eq_false, not_false_eq_true, true_or, or_true, false_or, or_false, and_false, false_and, eq_self, n01_0, n01_1, nm1_0]
    refine S_wordOf hR hk ?_
    rw [kO_ref]
    refine ⟨hM.1, S_isWord hR hM ht hX hc hk hbe he (fun w => ?_) (fun w => ?_)⟩
    · simp (disch := omega) only [nI_ad, nI_ml, nI_lti, nI_lei, nI_eqi, nI_nn, nI_0le, nI_eq0, nI_0lt, nI_le0, nI_clamp, nI_pd, nI_sb, zOf_some, zOp_some, zOp_none, kI_int, kL_long, kO_ref, kO_null, nlt_T, nlt_F, nle_T, nle_F, neq_F, vpT, azUp_at, if_true, if_false, true_and, and_true, true_implies, false_implies, implies_true, not_true_eq_false, not_false_eq_true, true_or, or_true, false_or, or_false, and_false, false_and, eq_self, n01_0, n01_1, nm1_0]
      exact h1 w
    · simp (disch := omega) only [nI_ad, nI_ml, nI_lti, nI_lei, nI_eqi, nI_nn, nI_0le, nI_eq0, nI_0lt, nI_le0, nI_clamp, nI_pd, nI_sb, zOf_some, zOp_some, zOp_none, kI_int, kL_long, kO_ref, kO_null, nlt_T, nlt_F, nle_T, nle_F, neq_F, vpT, azUp_at, if_true, if_false, true_and, and_true, true_implies, false_implies, implies_true, not_true_eq_false, not_false_eq_true, true_or, or_true, false_or, or_false, and_false, false_and, eq_self, n01_0, n01_1, nm1_0]
      exact h2 w
  refine BX6_kindOf_0 hR (step 0 (by decide) (fun w => ?_) fun w0 => step 1 (by decide) (fun w => ?_) fun w1 => step 2 (by decide) (fun w => ?_) fun w2 => step 3 (by decide) (fun w => ?_) fun w3 => ?_)
  · rw [kOf_0 w, if_neg (by decide)] at h; exact h
  · rw [kOf_1 w0 w, if_neg (by decide)] at h; exact h
  · rw [kOf_2 w0 w1 w, if_neg (by decide)] at h; exact h
  · rw [kOf_3 w0 w1 w2 w, if_neg (by decide)] at h; exact h
  · rw [kOf_4 w0 w1 w2 w3, if_pos rfl] at h
    refine BX6_kindOf_2 hR ?_
    simp (disch := omega) only [nI_ad, nI_ml, nI_lti, nI_lei, nI_eqi, nI_nn, nI_0le, nI_eq0, nI_0lt, nI_le0, nI_clamp, nI_pd, nI_sb, zOf_some, zOp_some, zOp_none, kI_int, kL_long, kO_ref, kO_null, nlt_T, nlt_F, nle_T, nle_F, neq_F, vpT, azUp_at, if_true, if_false, true_and, and_true, true_implies, false_implies, implies_true, not_true_eq_false, not_false_eq_true, true_or, or_true, false_or, or_false, and_false, false_and, eq_self, n01_0, n01_1, nm1_0]
    exact h
theorem S_many (hR : azClosed R) (hM : TpOk kd F a r) (hc : cR I r cs pd) (ht3 : nTk cs ≤ 3) (hg3 : nGv cs ≤ 3) {k : Nat} (hk : k < 4) (h : Q (some (.int (nI (if (k = 0 ∧ 3 ≤ nTk cs) ∨ (k = 2 ∧ 3 ≤ nGv cs) then 1 else 0)))) ((n, z, kd), I, J, F)) : R d mX6_isOneTooMany 0 [.ref a, .int (nI k)] [] ((n, z, kd), I, J, F) Q := by
  obtain ⟨k0, k1, f0, f5, hr, hd⟩ := hM
  have e1 : I r 1 = nI (nTk cs) := hc.2.1
  have e2 : I r 2 = nI (nGv cs) := hc.2.2.1
  have h15 : ¬ (k = 0 ∧ 3 ≤ nTk cs) → R d mX6_isOneTooMany 15 [.ref a, .int (nI k)] [] ((n, z, kd), I, J, F) Q := by
    intro c
    refine BX6_isOneTooMany_15 hR ?_
    by_cases c2 : k = 2
    · by_cases c3 : 3 ≤ nGv cs
      · rw [if_pos (Or.inr ⟨c2, c3⟩)] at h
        simp (disch := omega) only [nI_ad, nI_ml, nI_lti, nI_lei, nI_eqi, nI_nn, nI_0le, nI_eq0, nI_0lt, nI_le0, nI_clamp, nI_pd, nI_sb, zOf_some, zOp_some, zOp_none, kI_int, kL_long, kO_ref, kO_null, nlt_T, nlt_F, nle_T, nle_F, neq_F, vpT, azUp_at, if_true, if_false, true_and, and_true, true_implies, false_implies, implies_true, not_true_eq_false, not_false_eq_true, true_or, or_true, false_or, or_false, and_false, false_and, eq_self, n01_0, n01_1, nm1_0, c2, k0, f5, hr.1, e2]
        exact h
      · rw [if_neg (by omega)] at h
        simp (disch := omega) only [nI_ad, nI_ml, nI_lti, nI_lei, nI_eqi, nI_nn, nI_0le, nI_eq0, nI_0lt, nI_le0, nI_clamp, nI_pd, nI_sb, zOf_some, zOp_some, zOp_none, kI_int, kL_long, kO_ref, kO_null, nlt_T, nlt_F, nle_T, nle_F, neq_F, vpT, azUp_at, if_true, if_false, true_and, and_true, true_implies, false_implies, implies_true, not_true_eq_false, not_false_eq_true, true_or, or_true, false_or, or_false, and_false, false_and, eq_self, n01_0, n01_1, nm1_0, c2, k0, f5, hr.1, e2]
        exact h
    · rw [if_neg (by omega)] at h
      simp (disch := omega) only [nI_ad, nI_ml, nI_lti, nI_lei, nI_eqi, nI_nn, nI_0le, nI_eq0, nI_0lt, nI_le0, nI_clamp, nI_pd, nI_sb, zOf_some, zOp_some, zOp_none, kI_int, kL_long, kO_ref, kO_null, nlt_T, nlt_F, nle_T, nle_F, neq_F, vpT, azUp_at, if_true, if_false, true_and, and_true, true_implies, false_implies, implies_true, not_true_eq_false, not_false_eq_true, true_or, or_true, false_or, or_false, and_false, false_and, eq_self, n01_0, n01_1, nm1_0, c2]
      exact h
  refine BX6_isOneTooMany_0 hR ?_
  by_cases c : k = 0
  · by_cases c3 : 3 ≤ nTk cs
    · rw [if_pos (Or.inl ⟨c, c3⟩)] at h
      simp (disch := omega) only [nI_ad, nI_ml, nI_lti, nI_lei, nI_eqi, nI_nn, nI_0le, nI_eq0, nI_0lt, nI_le0, nI_clamp, nI_pd, nI_sb, zOf_some, zOp_some, zOp_none, kI_int, kL_long, kO_ref, kO_null, nlt_T, nlt_F, nle_T, nle_F, neq_F, vpT, azUp_at, if_true, if_false, true_and, and_true, true_implies, false_implies, implies_true, not_true_eq_false, not_false_eq_true, true_or, or_true, false_or, or_false, and_false, false_and, eq_self, n01_0, n01_1, nm1_0, c, k0, f5, hr.1, e1]
      exact h
    · have := h15 (by omega)
      rw [c] at this ⊢
      simp (disch := omega) only [nI_ad, nI_ml, nI_lti, nI_lei, nI_eqi, nI_nn, nI_0le, nI_eq0, nI_0lt, nI_le0, nI_clamp, nI_pd, nI_sb, zOf_some, zOp_some, zOp_none, kI_int, kL_long, kO_ref, kO_null, nlt_T, nlt_F, nle_T, nle_F, neq_F, vpT, azUp_at, if_true, if_false, true_and, and_true, true_implies, false_implies, implies_true, not_true_eq_false, not_false_eq_true, true_or, or_true, false_or, or_false, and_false, false_and, eq_self, n01_0, n01_1, nm1_0, k0, f5, hr.1, e1]
      exact this
  · simp (disch := omega) only [nI_ad, nI_ml, nI_lti, nI_lei, nI_eqi, nI_nn, nI_0le, nI_eq0, nI_0lt, nI_le0, nI_clamp, nI_pd, nI_sb, zOf_some, zOp_some, zOp_none, kI_int, kL_long, kO_ref, kO_null, nlt_T, nlt_F, nle_T, nle_F, neq_F, vpT, azUp_at, if_true, if_false, true_and, and_true, true_implies, false_implies, implies_true, not_true_eq_false, not_false_eq_true, true_or, or_true, false_or, or_false, and_false, false_and, eq_self, n01_0, n01_1, nm1_0, c]
    exact h15 (by omega)
theorem rdEr.mono {e : Nat} (h : rdEr I0 a r t e I) : rdEr I0 a r t e I := h
theorem S_comp (hR : azClosed R) (hM : TpOk kd F a r) (ht : tOK t) (hkb : kb < 8) (h0 : rdOk I0 a r t kb cs pd i I) (hl : (rCode cs ++ pd).length ≤ i) (hi : i ≤ t.length) (hP : rdPost I0 a r t kb cs pd (fun I' => ((n, z, kd), I', J, F)) Q (pC kb t i)) : R (d + 13) mX6_readComparison 0 [.ref a, .retAddr 0] [] ((n, z, kd), I, J, F) Q := by
  have ⟨k0, k1, f0, f5, hr, hd⟩ := hM
  have htl := ht.1
  refine BX6_readComparison_0 hR ⟨k0, S_readSum hR hM ht hkb I i pd _ h0 hl hi ?_⟩
  unfold pC at hP
  have g := PG_X (kb := kb) (t := t) i hi
  revert hP g
  cases pX kb t i with
  | error e =>
    intro hP g I' h1
    simp (disch := omega) only [nI_ad, nI_ml, nI_lti, nI_lei, nI_eqi, nI_nn, nI_0le, nI_eq0, nI_0lt, nI_le0, nI_clamp, nI_pd, nI_sb, zOf_some, zOp_some, zOp_none, kI_int, kL_long, kO_ref, kO_null, nlt_T, nlt_F, nle_T, nle_F, neq_F, vpT, azUp_at, if_true, if_false, true_and, and_true, true_implies, false_implies, implies_true, not_true_eq_false, not_false_eq_true, true_or, or_true, false_or, or_false, and_false, false_and, eq_self, n01_0, n01_1, nm1_0]
    exact hP I' h1
  | ok x =>
    intro hP g I' h1
    rw [pb_ok] at hP
    obtain ⟨g1, g2, g3, g4⟩ := g
    have hb := tb_lt ht (i := x.2)
    simp (disch := omega) only [nI_ad, nI_ml, nI_lti, nI_lei, nI_eqi, nI_nn, nI_0le, nI_eq0, nI_0lt, nI_le0, nI_clamp, nI_pd, nI_sb, zOf_some, zOp_some, zOp_none, kI_int, kL_long, kO_ref, kO_null, nlt_T, nlt_F, nle_T, nle_F, neq_F, vpT, azUp_at, if_true, if_false, true_and, and_true, true_implies, false_implies, implies_true, not_true_eq_false, not_false_eq_true, true_or, or_true, false_or, or_false, and_false, false_and, eq_self, n01_0, n01_1, nm1_0, k0]
    refine S_peek hR hM ht h1.1 g2 ?_
    have h42 : (tb t x.2 = 60 ∨ tb t x.2 = 61 ∨ tb t x.2 = 62) → R (d + 13) mX6_readComparison 42 [.ref a, .int (nI (tb t x.2))] [] ((n, z, kd), I', J, F) Q := by
      intro c
      rw [if_pos c] at hP
      have hlt := tb_len (t := t) (i := x.2) (by omega)
      refine BX6_readComparison_42 hR ?_
      simp (disch := omega) only [nI_ad, nI_ml, nI_lti, nI_lei, nI_eqi, nI_nn, nI_0le, nI_eq0, nI_0lt, nI_le0, nI_clamp, nI_pd, nI_sb, zOf_some, zOp_some, zOp_none, kI_int, kL_long, kO_ref, kO_null, nlt_T, nlt_F, nle_T, nle_F, neq_F, vpT, azUp_at, if_true, if_false, true_and, and_true, true_implies, false_implies, implies_true, not_true_eq_false, not_false_eq_true, true_or, or_true, false_or, or_false, and_false, false_and, eq_self, n01_0, n01_1, nm1_0, k0, h1.1.2.1]
      have h2 := h1.up hd (x.2 + 1)
      refine S_readSum hR hM ht hkb _ (x.2 + 1) _ _ h2 (by simp only [List.length_append] at hl ⊢; omega) (by omega) ?_
      have g := PG_X (kb := kb) (t := t) (x.2 + 1) (by omega)
      revert hP g
      cases pX kb t (x.2 + 1) with
      | error e =>
        intro hP g I' h1
        simp (disch := omega) only [nI_ad, nI_ml, nI_lti, nI_lei, nI_eqi, nI_nn, nI_0le, nI_eq0, nI_0lt, nI_le0, nI_clamp, nI_pd, nI_sb, zOf_some, zOp_some, zOp_none, kI_int, kL_long, kO_ref, kO_null, nlt_T, nlt_F, nle_T, nle_F, neq_F, vpT, azUp_at, if_true, if_false, true_and, and_true, true_implies, false_implies, implies_true, not_true_eq_false, not_false_eq_true, true_or, or_true, false_or, or_false, and_false, false_and, eq_self, n01_0, n01_1, nm1_0]
        exact hP I' h1
      | ok y =>
        intro hP g I2 h3
        obtain ⟨b1, b2, b3, b4⟩ := g
        simp (disch := omega) only [nI_ad, nI_ml, nI_lti, nI_lei, nI_eqi, nI_nn, nI_0le, nI_eq0, nI_0lt, nI_le0, nI_clamp, nI_pd, nI_sb, zOf_some, zOp_some, zOp_none, kI_int, kL_long, kO_ref, kO_null, nlt_T, nlt_F, nle_T, nle_F, neq_F, vpT, azUp_at, if_true, if_false, true_and, and_true, true_implies, false_implies, implies_true, not_true_eq_false, not_false_eq_true, true_or, or_true, false_or, or_false, and_false, false_and, eq_self, n01_0, n01_1, nm1_0, k0, f5, hr.1]
        exact S_item1 hR hM h3 (by simp only [List.length_append] at hl ⊢; omega) fun I3 h4 => ⟨rfl, hP I3 (h4.cast (by simp [exPost]))⟩
    by_cases c0 : tb t x.2 = 60
    · have := h42 (Or.inl c0)
      rw [c0] at this ⊢
      simp (disch := omega) only [nI_ad, nI_ml, nI_lti, nI_lei, nI_eqi, nI_nn, nI_0le, nI_eq0, nI_0lt, nI_le0, nI_clamp, nI_pd, nI_sb, zOf_some, zOp_some, zOp_none, kI_int, kL_long, kO_ref, kO_null, nlt_T, nlt_F, nle_T, nle_F, neq_F, vpT, azUp_at, if_true, if_false, true_and, and_true, true_implies, false_implies, implies_true, not_true_eq_false, not_false_eq_true, true_or, or_true, false_or, or_false, and_false, false_and, eq_self, n01_0, n01_1, nm1_0]
      exact this
    · by_cases c1 : tb t x.2 = 61
      · have := h42 (Or.inr (Or.inl c1))
        rw [c1] at this ⊢
        simp (disch := omega) only [nI_ad, nI_ml, nI_lti, nI_lei, nI_eqi, nI_nn, nI_0le, nI_eq0, nI_0lt, nI_le0, nI_clamp, nI_pd, nI_sb, zOf_some, zOp_some, zOp_none, kI_int, kL_long, kO_ref, kO_null, nlt_T, nlt_F, nle_T, nle_F, neq_F, vpT, azUp_at, if_true, if_false, true_and, and_true, true_implies, false_implies, implies_true, not_true_eq_false, not_false_eq_true, true_or, or_true, false_or, or_false, and_false, false_and, eq_self, n01_0, n01_1, nm1_0]
        exact this
      · by_cases c2 : tb t x.2 = 62
        · have := h42 (Or.inr (Or.inr c2))
          rw [c2] at this ⊢
          simp (disch := omega) only [nI_ad, nI_ml, nI_lti, nI_lei, nI_eqi, nI_nn, nI_0le, nI_eq0, nI_0lt, nI_le0, nI_clamp, nI_pd, nI_sb, zOf_some, zOp_some, zOp_none, kI_int, kL_long, kO_ref, kO_null, nlt_T, nlt_F, nle_T, nle_F, neq_F, vpT, azUp_at, if_true, if_false, true_and, and_true, true_implies, false_implies, implies_true, not_true_eq_false, not_false_eq_true, true_or, or_true, false_or, or_false, and_false, false_and, eq_self, n01_0, n01_1, nm1_0]
          exact this
        · rw [if_neg (by omega)] at hP
          simp (disch := omega) only [nI_ad, nI_ml, nI_lti, nI_lei, nI_eqi, nI_nn, nI_0le, nI_eq0, nI_0lt, nI_le0, nI_clamp, nI_pd, nI_sb, zOf_some, zOp_some, zOp_none, kI_int, kL_long, kO_ref, kO_null, nlt_T, nlt_F, nle_T, nle_F, neq_F, vpT, azUp_at, if_true, if_false, true_and, and_true, true_implies, false_implies, implies_true, not_true_eq_false, not_false_eq_true, true_or, or_true, false_or, or_false, and_false, false_and, eq_self, n01_0, n01_1, nm1_0, c0, c1, c2, k0, h1.1.2.1]
          refine S_fail hR hM ?_
          simp (disch := omega) only [nI_ad, nI_ml, nI_lti, nI_lei, nI_eqi, nI_nn, nI_0le, nI_eq0, nI_0lt, nI_le0, nI_clamp, nI_pd, nI_sb, zOf_some, zOp_some, zOp_none, kI_int, kL_long, kO_ref, kO_null, nlt_T, nlt_F, nle_T, nle_F, neq_F, vpT, azUp_at, if_true, if_false, true_and, and_true, true_implies, false_implies, implies_true, not_true_eq_false, not_false_eq_true, true_or, or_true, false_or, or_false, and_false, false_and, eq_self, n01_0, n01_1, nm1_0]
          exact hP _ (h1.fail x.2)
end S6
