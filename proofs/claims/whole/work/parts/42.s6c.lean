/-! SPECS: Tape.readFactor and readSum, whole. -/
theorem nBit : ∀ kb, kb < 8 → ∀ w, w < 3 → ((((nI kb >>> (nI w &&& 31)) &&& nI 1) = nI 1) = (kb.testBit w = true)) := by
  intro kb hkb w hw
  have : ∀ kb, kb < 8 → ∀ w, w < 3 → ((((nI kb >>> (nI w &&& 31)) &&& nI 1) = nI 1) ↔ (kb.testBit w = true)) := by decide
  exact propext (this kb hkb w hw)
theorem nI_sb2 {a b c : Nat} (h : b ≤ a) (e : a - b = c) : nI a - nI b = nI c := by rw [nI_sb h, e]
section S6
variable {R : azP} {D d n z : Nat} {kd : azK} {I : azI} {J : azJ} {F : azR} {Q : azQ} {a r : Nat} {t : List Nat} {cs : List Cls} {kb i : Nat} {I0 : azI} {pd : List Nat}
theorem S_sumOf (hR : azClosed R) (hM : TpOk kd F a r) (ht : tOK t) {b : Nat} {xb : Int32} (hF : facSpec R D n z kd J F I0 a r t kb cs xb (pF kb t b)) : sumSpec R (D + 1) n z kd J F I0 a r t kb cs xb (pE (pF kb t b) t) := by
  intro I i pd Q h0 hl hi hP
  rw [← gLo_pE (PG_F b) (fun i h => pF_0 h) (n := 80) (by have := ht.1; omega) hi] at hP
  exact BX6_readSum_0 hR (L_sum hR hM ht (PG_F b) hF 80 0 none none I i _ rfl (fun w e => by cases e) (h0.cast (by simp [gCo, gDo])) (by simpa [gCo, gDo, gMu, gLn] using hl) hi hP)
theorem pF_fg {b : Nat} (c1 : isFg (tb t i) = true) : pF kb t b i = if isFg (tb t (i + 1)) then .ok (.leaf ((tb t i - 48) * 10 + (tb t (i + 1) - 48)), i + 2) else .ok (.leaf (tb t i - 48), i + 1) := by
  unfold pF
  rw [if_pos c1]
theorem pF_nm {b : Nat} (c1 : ¬ isFg (tb t i) = true) (c2 : 120 ≤ tb t i ∧ tb t i ≤ 122 ∧ kb.testBit (tb t i - 120)) : pF kb t b i = .ok (.leaf (100 + (tb t i - 120)), i + 1) := by
  unfold pF
  rw [if_neg c1, if_pos c2]
theorem pF_er {b : Nat} (c1 : ¬ isFg (tb t i) = true) (c2 : ¬ (120 ≤ tb t i ∧ tb t i ≤ 122 ∧ kb.testBit (tb t i - 120))) (c3 : tb t i ≠ 40) : pF kb t b i = .error i := by
  unfold pF
  rw [if_neg c1, if_neg c2, if_neg c3]
theorem pF_b0 (c3 : tb t i = 40) : pF kb t 0 i = .error i := by
  unfold pF
  rw [c3]
  rfl
theorem pF_b1 {b : Nat} (c3 : tb t i = 40) : pF kb t (b + 1) i = pb (pE (pF kb t b) t (i + 1)) fun x => if tb t x.2 = 41 then .ok (x.1, x.2 + 1) else .error x.2 := by
  conv => lhs; unfold pF
  rw [c3]
  rfl
/-- a factor, if what is in brackets is read well -/
theorem S_factorOf (hR : azClosed R) (hM : TpOk kd F a r) (ht : tOK t) (hkb : kb < 8) {b k : Nat} (hbk : b + k = 5) (hS : ∀ b', b = b' + 1 → sumSpec R D n z kd J F I0 a r t kb cs (nI (k + 1)) (pE (pF kb t b') t)) : facSpec R (D + 1) n z kd J F I0 a r t kb cs (nI k) (pF kb t b) := by
  intro I i pd Q h0 hl hi hP
  have ⟨k0, k1, f0, f5, hr, hd⟩ := hM
  have htl := ht.1
  have hb := tb_lt ht (i := i)
  refine BX6_readFactor_0 hR ?_
  simp (disch := omega) only [nI_ad, nI_ml, nI_lti, nI_lei, nI_eqi, nI_nn, nI_0le, nI_eq0, nI_0lt, nI_le0, nI_clamp, nI_pd, nI_sb, zOf_some, zOp_some, zOp_none, kI_int, kL_long, kO_ref, kO_null, nlt_T, nlt_F, nle_T, nle_F, neq_F, vpT, azUp_at, if_true, if_false, true_and, and_true, true_implies, false_implies, implies_true, not_true_eq_false, not_false_eq_true, true_or, or_true, false_or, or_false, and_false, false_and, eq_self, n01_0, n01_1, nm1_0, k0]
  refine S_peek hR hM ht h0.1 hi ?_
  simp (disch := omega) only [nI_ad, nI_ml, nI_lti, nI_lei, nI_eqi, nI_nn, nI_0le, nI_eq0, nI_0lt, nI_le0, nI_clamp, nI_pd, nI_sb, zOf_some, zOp_some, zOp_none, kI_int, kL_long, kO_ref, kO_null, nlt_T, nlt_F, nle_T, nle_F, neq_F, vpT, azUp_at, if_true, if_false, true_and, and_true, true_implies, false_implies, implies_true, not_true_eq_false, not_false_eq_true, true_or, or_true, false_or, or_false, and_false, false_and, eq_self, n01_0, n01_1, nm1_0]
  refine S_isFigure hR (by omega) ?_
  by_cases c1 : isFg (tb t i) = true
  · rw [if_pos c1]
    have q1 := isFg_iff.mp c1
    have l1 := tb_len (t := t) (i := i) (by omega)
    rw [pF_fg c1] at hP
    simp (disch := omega) only [nI_ad, nI_ml, nI_lti, nI_lei, nI_eqi, nI_nn, nI_0le, nI_eq0, nI_0lt, nI_le0, nI_clamp, nI_pd, nI_sb, zOf_some, zOp_some, zOp_none, kI_int, kL_long, kO_ref, kO_null, nlt_T, nlt_F, nle_T, nle_F, neq_F, vpT, azUp_at, if_true, if_false, true_and, and_true, true_implies, false_implies, implies_true, not_true_eq_false, not_false_eq_true, true_or, or_true, false_or, or_false, and_false, false_and, eq_self, n01_0, n01_1, nm1_0, k0, h0.1.2.1]
    have h1 := h0.up hd (i + 1)
    refine S_peek hR hM ht h1.1 (by omega) ?_
    simp (disch := omega) only [nI_ad, nI_ml, nI_lti, nI_lei, nI_eqi, nI_nn, nI_0le, nI_eq0, nI_0lt, nI_le0, nI_clamp, nI_pd, nI_sb, zOf_some, zOp_some, zOp_none, kI_int, kL_long, kO_ref, kO_null, nlt_T, nlt_F, nle_T, nle_F, neq_F, vpT, azUp_at, if_true, if_false, true_and, and_true, true_implies, false_implies, implies_true, not_true_eq_false, not_false_eq_true, true_or, or_true, false_or, or_false, and_false, false_and, eq_self, n01_0, n01_1, nm1_0]
    have hb1 := tb_lt ht (i := i + 1)
    refine S_isFigure hR (by omega) ?_
    by_cases c2 : isFg (tb t (i + 1)) = true
    · rw [if_pos c2] at hP ⊢
      have q2 := isFg_iff.mp c2
      have l2 := tb_len (t := t) (i := i + 1) (by omega)
      simp (disch := omega) only [nI_ad, nI_ml, nI_lti, nI_lei, nI_eqi, nI_nn, nI_0le, nI_eq0, nI_0lt, nI_le0, nI_clamp, nI_pd, nI_sb, zOf_some, zOp_some, zOp_none, kI_int, kL_long, kO_ref, kO_null, nlt_T, nlt_F, nle_T, nle_F, neq_F, vpT, azUp_at, if_true, if_false, true_and, and_true, true_implies, false_implies, implies_true, not_true_eq_false, not_false_eq_true, true_or, or_true, false_or, or_false, and_false, false_and, eq_self, n01_0, n01_1, nm1_0, k0]
      refine S_peek hR hM ht h1.1 (by omega) ?_
      simp (disch := omega) only [nI_ad, nI_ml, nI_lti, nI_lei, nI_eqi, nI_nn, nI_0le, nI_eq0, nI_0lt, nI_le0, nI_clamp, nI_pd, nI_sb, zOf_some, zOp_some, zOp_none, kI_int, kL_long, kO_ref, kO_null, nlt_T, nlt_F, nle_T, nle_F, neq_F, vpT, azUp_at, if_true, if_false, true_and, and_true, true_implies, false_implies, implies_true, not_true_eq_false, not_false_eq_true, true_or, or_true, false_or, or_false, and_false, false_and, eq_self, n01_0, n01_1, nm1_0, k0, f5, hr.1, h1.1.2.1]
      have h2 := h1.up hd (i + 1 + 1)
      refine S_item1 hR hM h2 (by omega) fun I' h3 => ⟨rfl, hP I' (h3.cast ?_)⟩
      simp only [exPost]
      congr 2
      omega
    · rw [if_neg c2] at hP ⊢
      simp (disch := omega) only [nI_ad, nI_ml, nI_lti, nI_lei, nI_eqi, nI_nn, nI_0le, nI_eq0, nI_0lt, nI_le0, nI_clamp, nI_pd, nI_sb, zOf_some, zOp_some, zOp_none, kI_int, kL_long, kO_ref, kO_null, nlt_T, nlt_F, nle_T, nle_F, neq_F, vpT, azUp_at, if_true, if_false, true_and, and_true, true_implies, false_implies, implies_true, not_true_eq_false, not_false_eq_true, true_or, or_true, false_or, or_false, and_false, false_and, eq_self, n01_0, n01_1, nm1_0, k0, f5, hr.1]
      exact S_item1 hR hM h1 (by omega) fun I' h3 => ⟨rfl, hP I' h3⟩
  · rw [if_neg c1]
    simp (disch := omega) only [nI_ad, nI_ml, nI_lti, nI_lei, nI_eqi, nI_nn, nI_0le, nI_eq0, nI_0lt, nI_le0, nI_clamp, nI_pd, nI_sb, zOf_some, zOp_some, zOp_none, kI_int, kL_long, kO_ref, kO_null, nlt_T, nlt_F, nle_T, nle_F, neq_F, vpT, azUp_at, if_true, if_false, true_and, and_true, true_implies, false_implies, implies_true, not_true_eq_false, not_false_eq_true, true_or, or_true, false_or, or_false, and_false, false_and, eq_self, n01_0, n01_1, nm1_0]
    refine S_isName hR (by omega) ?_
    have h118 : ¬ (120 ≤ tb t i ∧ tb t i ≤ 122 ∧ kb.testBit (tb t i - 120)) → R (D + 1) mX6_readFactor 118 [.ref a, .int (nI k), .int (nI (tb t i)), .retAddr 0] [] ((n, z, kd), I, J, F) Q := by
      intro c2
      refine BX6_readFactor_118 hR ?_
      by_cases c3 : tb t i = 40
      · have l1 := tb_len (t := t) (i := i) (by omega)
        rw [c3]
        simp (disch := omega) only [nI_ad, nI_ml, nI_lti, nI_lei, nI_eqi, nI_nn, nI_0le, nI_eq0, nI_0lt, nI_le0, nI_clamp, nI_pd, nI_sb, zOf_some, zOp_some, zOp_none, kI_int, kL_long, kO_ref, kO_null, nlt_T, nlt_F, nle_T, nle_F, neq_F, vpT, azUp_at, if_true, if_false, true_and, and_true, true_implies, false_implies, implies_true, not_true_eq_false, not_false_eq_true, true_or, or_true, false_or, or_false, and_false, false_and, eq_self, n01_0, n01_1, nm1_0, k0]
        cases b with
        | zero =>
          rw [pF_b0 c3] at hP
          simp (disch := omega) only [nI_ad, nI_ml, nI_lti, nI_lei, nI_eqi, nI_nn, nI_0le, nI_eq0, nI_0lt, nI_le0, nI_clamp, nI_pd, nI_sb, zOf_some, zOp_some, zOp_none, kI_int, kL_long, kO_ref, kO_null, nlt_T, nlt_F, nle_T, nle_F, neq_F, vpT, azUp_at, if_true, if_false, true_and, and_true, true_implies, false_implies, implies_true, not_true_eq_false, not_false_eq_true, true_or, or_true, false_or, or_false, and_false, false_and, eq_self, n01_0, n01_1, nm1_0, h0.1.2.1]
          refine S_fail hR hM ?_
          simp (disch := omega) only [nI_ad, nI_ml, nI_lti, nI_lei, nI_eqi, nI_nn, nI_0le, nI_eq0, nI_0lt, nI_le0, nI_clamp, nI_pd, nI_sb, zOf_some, zOp_some, zOp_none, kI_int, kL_long, kO_ref, kO_null, nlt_T, nlt_F, nle_T, nle_F, neq_F, vpT, azUp_at, if_true, if_false, true_and, and_true, true_implies, false_implies, implies_true, not_true_eq_false, not_false_eq_true, true_or, or_true, false_or, or_false, and_false, false_and, eq_self, n01_0, n01_1, nm1_0]
          exact hP _ (h0.fail i)
        | succ b =>
          rw [pF_b1 c3] at hP
          simp (disch := omega) only [nI_ad, nI_ml, nI_lti, nI_lei, nI_eqi, nI_nn, nI_0le, nI_eq0, nI_0lt, nI_le0, nI_clamp, nI_pd, nI_sb, zOf_some, zOp_some, zOp_none, kI_int, kL_long, kO_ref, kO_null, nlt_T, nlt_F, nle_T, nle_F, neq_F, vpT, azUp_at, if_true, if_false, true_and, and_true, true_implies, false_implies, implies_true, not_true_eq_false, not_false_eq_true, true_or, or_true, false_or, or_false, and_false, false_and, eq_self, n01_0, n01_1, nm1_0, h0.1.2.1]
          have h1 := h0.up hd (i + 1)
          refine hS b rfl _ (i + 1) pd _ h1 (by omega) (by omega) ?_
          have hg := PG_E (PG_F (kb := kb) (t := t) b) (i + 1) (by omega)
          revert hP hg
          cases pE (pF kb t b) t (i + 1) with
          | error e =>
            intro hP hg I' h2
            rw [pb_er] at hP
            simp (disch := omega) only [nI_ad, nI_ml, nI_lti, nI_lei, nI_eqi, nI_nn, nI_0le, nI_eq0, nI_0lt, nI_le0, nI_clamp, nI_pd, nI_sb, zOf_some, zOp_some, zOp_none, kI_int, kL_long, kO_ref, kO_null, nlt_T, nlt_F, nle_T, nle_F, neq_F, vpT, azUp_at, if_true, if_false, true_and, and_true, true_implies, false_implies, implies_true, not_true_eq_false, not_false_eq_true, true_or, or_true, false_or, or_false, and_false, false_and, eq_self, n01_0, n01_1, nm1_0]
            exact hP I' h2
          | ok x =>
            intro hP hg I' h2
            rw [pb_ok] at hP
            obtain ⟨g1, g2, g3, g4⟩ := hg
            simp (disch := omega) only [nI_ad, nI_ml, nI_lti, nI_lei, nI_eqi, nI_nn, nI_0le, nI_eq0, nI_0lt, nI_le0, nI_clamp, nI_pd, nI_sb, zOf_some, zOp_some, zOp_none, kI_int, kL_long, kO_ref, kO_null, nlt_T, nlt_F, nle_T, nle_F, neq_F, vpT, azUp_at, if_true, if_false, true_and, and_true, true_implies, false_implies, implies_true, not_true_eq_false, not_false_eq_true, true_or, or_true, false_or, or_false, and_false, false_and, eq_self, n01_0, n01_1, nm1_0, k0]
            refine S_peek hR hM ht h2.1 g2 ?_
            have hb2 := tb_lt ht (i := x.2)
            by_cases c4 : tb t x.2 = 41
            · rw [if_pos c4] at hP
              rw [c4]
              simp (disch := omega) only [nI_ad, nI_ml, nI_lti, nI_lei, nI_eqi, nI_nn, nI_0le, nI_eq0, nI_0lt, nI_le0, nI_clamp, nI_pd, nI_sb, zOf_some, zOp_some, zOp_none, kI_int, kL_long, kO_ref, kO_null, nlt_T, nlt_F, nle_T, nle_F, neq_F, vpT, azUp_at, if_true, if_false, true_and, and_true, true_implies, false_implies, implies_true, not_true_eq_false, not_false_eq_true, true_or, or_true, false_or, or_false, and_false, false_and, eq_self, n01_0, n01_1, nm1_0, k0, h2.1.2.1]
              exact hP _ (h2.up hd (x.2 + 1))
            · rw [if_neg c4] at hP
              simp (disch := omega) only [nI_ad, nI_ml, nI_lti, nI_lei, nI_eqi, nI_nn, nI_0le, nI_eq0, nI_0lt, nI_le0, nI_clamp, nI_pd, nI_sb, zOf_some, zOp_some, zOp_none, kI_int, kL_long, kO_ref, kO_null, nlt_T, nlt_F, nle_T, nle_F, neq_F, vpT, azUp_at, if_true, if_false, true_and, and_true, true_implies, false_implies, implies_true, not_true_eq_false, not_false_eq_true, true_or, or_true, false_or, or_false, and_false, false_and, eq_self, n01_0, n01_1, nm1_0, k0, neq_F (a := tb t x.2) (b := 41), h2.1.2.1]
              refine S_fail hR hM ?_
              simp (disch := omega) only [nI_ad, nI_ml, nI_lti, nI_lei, nI_eqi, nI_nn, nI_0le, nI_eq0, nI_0lt, nI_le0, nI_clamp, nI_pd, nI_sb, zOf_some, zOp_some, zOp_none, kI_int, kL_long, kO_ref, kO_null, nlt_T, nlt_F, nle_T, nle_F, neq_F, vpT, azUp_at, if_true, if_false, true_and, and_true, true_implies, false_implies, implies_true, not_true_eq_false, not_false_eq_true, true_or, or_true, false_or, or_false, and_false, false_and, eq_self, n01_0, n01_1, nm1_0]
              exact hP _ (h2.fail x.2)
      · rw [pF_er c1 c2 c3] at hP
        simp (disch := omega) only [nI_ad, nI_ml, nI_lti, nI_lei, nI_eqi, nI_nn, nI_0le, nI_eq0, nI_0lt, nI_le0, nI_clamp, nI_pd, nI_sb, zOf_some, zOp_some, zOp_none, kI_int, kL_long, kO_ref, kO_null, nlt_T, nlt_F, nle_T, nle_F, neq_F, vpT, azUp_at, if_true, if_false, true_and, and_true, true_implies, false_implies, implies_true, not_true_eq_false, not_false_eq_true, true_or, or_true, false_or, or_false, and_false, false_and, eq_self, n01_0, n01_1, nm1_0, k0, neq_F (a := tb t i) (b := 40), h0.1.2.1]
        refine S_fail hR hM ?_
        simp (disch := omega) only [nI_ad, nI_ml, nI_lti, nI_lei, nI_eqi, nI_nn, nI_0le, nI_eq0, nI_0lt, nI_le0, nI_clamp, nI_pd, nI_sb, zOf_some, zOp_some, zOp_none, kI_int, kL_long, kO_ref, kO_null, nlt_T, nlt_F, nle_T, nle_F, neq_F, vpT, azUp_at, if_true, if_false, true_and, and_true, true_implies, false_implies, implies_true, not_true_eq_false, not_false_eq_true, true_or, or_true, false_or, or_false, and_false, false_and, eq_self, n01_0, n01_1, nm1_0]
        exact hP _ (h0.fail i)
    by_cases c2 : 120 ≤ tb t i ∧ tb t i ≤ 122
    · rw [if_pos c2]
      by_cases c3 : kb.testBit (tb t i - 120) = true
      · have l1 := tb_len (t := t) (i := i) (by omega)
        rw [pF_nm c1 ⟨c2.1, c2.2, c3⟩] at hP
        simp (disch := omega) only [nI_ad, nI_ml, nI_lti, nI_lei, nI_eqi, nI_nn, nI_0le, nI_eq0, nI_0lt, nI_le0, nI_clamp, nI_pd, nI_sb, zOf_some, zOp_some, zOp_none, kI_int, kL_long, kO_ref, kO_null, nlt_T, nlt_F, nle_T, nle_F, neq_F, vpT, azUp_at, if_true, if_false, true_and, and_true, true_implies, false_implies, implies_true, not_true_eq_false, not_false_eq_true, true_or, or_true, false_or, or_false, and_false, false_and, eq_self, n01_0, n01_1, nm1_0, k0, f5, hr.1, h0.1.2.1, h0.1.2.2.1, nBit, c3]
        have h1 := h0.up hd (i + 1)
        have e : 100 + tb t i - 120 = 100 + (tb t i - 120) := by omega
        rw [e]
        exact S_item1 hR hM h1 (by omega) fun I' h3 => ⟨rfl, hP I' h3⟩
      · simp (disch := omega) only [nI_ad, nI_ml, nI_lti, nI_lei, nI_eqi, nI_nn, nI_0le, nI_eq0, nI_0lt, nI_le0, nI_clamp, nI_pd, nI_sb, zOf_some, zOp_some, zOp_none, kI_int, kL_long, kO_ref, kO_null, nlt_T, nlt_F, nle_T, nle_F, neq_F, vpT, azUp_at, if_true, if_false, true_and, and_true, true_implies, false_implies, implies_true, not_true_eq_false, not_false_eq_true, true_or, or_true, false_or, or_false, and_false, false_and, eq_self, n01_0, n01_1, nm1_0, k0, f5, hr.1, h0.1.2.1, h0.1.2.2.1, nBit, c3, Bool.false_eq_true]
        exact h118 fun h => c3 h.2.2
    · rw [if_neg c2]
      simp (disch := omega) only [nI_ad, nI_ml, nI_lti, nI_lei, nI_eqi, nI_nn, nI_0le, nI_eq0, nI_0lt, nI_le0, nI_clamp, nI_pd, nI_sb, zOf_some, zOp_some, zOp_none, kI_int, kL_long, kO_ref, kO_null, nlt_T, nlt_F, nle_T, nle_F, neq_F, vpT, azUp_at, if_true, if_false, true_and, and_true, true_implies, false_implies, implies_true, not_true_eq_false, not_false_eq_true, true_or, or_true, false_or, or_false, and_false, false_and, eq_self, n01_0, n01_1, nm1_0]
      exact h118 fun h => c2 ⟨h.1, h.2.1⟩
theorem S_sumAll (hR : azClosed R) (hM : TpOk kd F a r) (ht : tOK t) (hkb : kb < 8) : ∀ b k, b + k = 5 → sumSpec R (D + 2 * b + 2) n z kd J F I0 a r t kb cs (nI k) (pE (pF kb t b) t) := by
  intro b
  induction b with
  | zero => intro k hk; exact S_sumOf hR hM ht (S_factorOf hR hM ht hkb hk fun b' h => absurd h (by omega))
  | succ b ih => intro k hk; exact S_sumOf hR hM ht (S_factorOf hR hM ht hkb hk fun b' h => by cases h; exact ih (k + 1) (by omega))
theorem S_readSum (hR : azClosed R) (hM : TpOk kd F a r) (ht : tOK t) (hkb : kb < 8) : sumSpec R (D + 12) n z kd J F I0 a r t kb cs (nI 0) (pX kb t) := S_sumAll hR hM ht hkb 5 0 rfl
end S6
