/-! THE REFERENCE: factor. -/
section S9
variable {R : azP} {d n z : Nat} {kd : azK} {J : azJ} {F : azR} {t : List Nat} {kb : Nat}
theorem L_factor9 (hR : azClosed R) (hK : MdOk kd F) (htk : tOK t) (hkb : kb < 8) {b D : Nat} (hbr : ∀ (I : azI) (i : Nat) (Q : azQ), cu I t kb b i → i ≤ t.length → tb t i = 40 → prP (exEv fun w => I 240 w) I (fun I' => ((n, z, kd), I', J, F)) Q (pF kb t b i) → R (D + 2) mX9_factor 106 [.ref 228, .int (nI 40), .retAddr 0] [] ((n, z, kd), I, J, F) Q) : rdS R n z kd J F t kb b (D + 2) mX9_factor [.retAddr 0, .retAddr 0] (pF kb t b) := by
  intro I i Q hc hi hP
  have ⟨k0, ⟨k220, k221, k222, k223, k224, k225, k226, k227, k228, k229, k230, k231⟩, _, ⟨f0, f1, f2, f3, f7, f9, f14, f15, f17, f18, f20, f23⟩, _⟩ := hK
  have ht := htk.1
  have hng := m1_ng
  have hneg := m1_neg
  have hb := tb_lt htk (i := i)
  have e12 := hc.2.2.1
  have e11 := hc.2.1
  have hPb := hP
  unfold pF at hP
  refine BX9_factor_0 hR ?_
  simp (disch := omega) only [nI_ad, nI_ml, nI_lti, nI_lei, nI_eqi, nI_nn, nI_0le, nI_eq0, nI_0lt, nI_le0, nI_clamp, nI_pd, nI_sb, zOf_some, zOp_some, zOp_none, kI_int, kL_long, kO_ref, kO_null, nlt_T, nlt_F, nle_T, nle_F, neq_F, vpT, azUp_at, if_true, if_false, true_and, and_true, true_implies, false_implies, implies_true, not_true_eq_false, not_false_eq_true, true_or, or_true, false_or, or_false, and_false, false_and, eq_self, n01_0, n01_1, nm1_0, k0]
  refine S_peek9 hR hK ht hc.1 e11 (by omega) ?_
  simp (disch := omega) only [nI_ad, nI_ml, nI_lti, nI_lei, nI_eqi, nI_nn, nI_0le, nI_eq0, nI_0lt, nI_le0, nI_clamp, nI_pd, nI_sb, zOf_some, zOp_some, zOp_none, kI_int, kL_long, kO_ref, kO_null, nlt_T, nlt_F, nle_T, nle_F, neq_F, vpT, azUp_at, if_true, if_false, true_and, and_true, true_implies, false_implies, implies_true, not_true_eq_false, not_false_eq_true, true_or, or_true, false_or, or_false, and_false, false_and, eq_self, n01_0, n01_1, nm1_0, k0, e12, hneg]
  refine S_isFigure9 hR hb ?_
  by_cases c1 : isFg (tb t i) = true
  · rw [if_pos c1] at hP ⊢
    have d1 := isFg_iff.mp c1
    have l1 := tb_len (t := t) (i := i) (by omega)
    simp (disch := omega) only [nI_ad, nI_ml, nI_lti, nI_lei, nI_eqi, nI_nn, nI_0le, nI_eq0, nI_0lt, nI_le0, nI_clamp, nI_pd, nI_sb, zOf_some, zOp_some, zOp_none, kI_int, kL_long, kO_ref, kO_null, nlt_T, nlt_F, nle_T, nle_F, neq_F, vpT, azUp_at, if_true, if_false, true_and, and_true, true_implies, false_implies, implies_true, not_true_eq_false, not_false_eq_true, true_or, or_true, false_or, or_false, and_false, false_and, eq_self, n01_0, n01_1, nm1_0, k0]
    refine S_figure9 hR hK ht hc (by omega) htk (fun _ => ?_) (fun e => by rw [e] at c1; cases c1)
    have hf1 : frp I (azUp I 228 11 (nI (i + 1))) := frp.refl.up11
    have hc1 := hc.to hf1 azUp_s (by rw [azUp_nk (by decide)]; exact e12)
    have hb2 := tb_lt htk (i := i + 1)
    simp (disch := omega) only [nI_ad, nI_ml, nI_lti, nI_lei, nI_eqi, nI_nn, nI_0le, nI_eq0, nI_0lt, nI_le0, nI_clamp, nI_pd, nI_sb, zOf_some, zOp_some, zOp_none, kI_int, kL_long, kO_ref, kO_null, nlt_T, nlt_F, nle_T, nle_F, neq_F, vpT, azUp_at, if_true, if_false, true_and, and_true, true_implies, false_implies, implies_true, not_true_eq_false, not_false_eq_true, true_or, or_true, false_or, or_false, and_false, false_and, eq_self, n01_0, n01_1, nm1_0, k0]
    refine S_peek9 hR hK ht hc1.1 hc1.2.1 (by omega) ?_
    simp (disch := omega) only [nI_ad, nI_ml, nI_lti, nI_lei, nI_eqi, nI_nn, nI_0le, nI_eq0, nI_0lt, nI_le0, nI_clamp, nI_pd, nI_sb, zOf_some, zOp_some, zOp_none, kI_int, kL_long, kO_ref, kO_null, nlt_T, nlt_F, nle_T, nle_F, neq_F, vpT, azUp_at, if_true, if_false, true_and, and_true, true_implies, false_implies, implies_true, not_true_eq_false, not_false_eq_true, true_or, or_true, false_or, or_false, and_false, false_and, eq_self, n01_0, n01_1, nm1_0]
    refine S_isFigure9 hR hb2 ?_
    by_cases c2 : isFg (tb t (i + 1)) = true
    · rw [if_pos c2] at hP ⊢
      have d2 := isFg_iff.mp c2
      simp (disch := omega) only [nI_ad, nI_ml, nI_lti, nI_lei, nI_eqi, nI_nn, nI_0le, nI_eq0, nI_0lt, nI_le0, nI_clamp, nI_pd, nI_sb, zOf_some, zOp_some, zOp_none, kI_int, kL_long, kO_ref, kO_null, nlt_T, nlt_F, nle_T, nle_F, neq_F, vpT, azUp_at, if_true, if_false, true_and, and_true, true_implies, false_implies, implies_true, not_true_eq_false, not_false_eq_true, true_or, or_true, false_or, or_false, and_false, false_and, eq_self, n01_0, n01_1, nm1_0, k0]
      refine S_figure9 hR hK ht hc1 (by omega) htk (fun _ => ?_) (fun e => by rw [e] at c2; cases c2)
      simp (disch := omega) only [nI_ad, nI_ml, nI_lti, nI_lei, nI_eqi, nI_nn, nI_0le, nI_eq0, nI_0lt, nI_le0, nI_clamp, nI_pd, nI_sb, zOf_some, zOp_some, zOp_none, kI_int, kL_long, kO_ref, kO_null, nlt_T, nlt_F, nle_T, nle_F, neq_F, vpT, azUp_at, if_true, if_false, true_and, and_true, true_implies, false_implies, implies_true, not_true_eq_false, not_false_eq_true, true_or, or_true, false_or, or_false, and_false, false_and, eq_self, n01_0, n01_1, nm1_0]
      have hf2 : frp I (azUp (azUp I 228 11 (nI (i + 1))) 228 11 (nI (i + 1 + 1))) := hf1.up11
      have := hP _ hf2 azUp_s (by rw [azUp_nk (by decide), azUp_nk (by decide)]; exact e12)
      have ev : exEv (fun w => I 240 w) (.leaf ((tb t i - 48) * 10 + (tb t (i + 1) - 48))) = nI (10 * (tb t i - 48) + (tb t (i + 1) - 48)) := by
        unfold exEv
        rw [if_pos (by omega)]
        congr 1
        omega
      rw [ev] at this
      exact this
    · rw [if_neg c2] at hP ⊢
      simp (disch := omega) only [nI_ad, nI_ml, nI_lti, nI_lei, nI_eqi, nI_nn, nI_0le, nI_eq0, nI_0lt, nI_le0, nI_clamp, nI_pd, nI_sb, zOf_some, zOp_some, zOp_none, kI_int, kL_long, kO_ref, kO_null, nlt_T, nlt_F, nle_T, nle_F, neq_F, vpT, azUp_at, if_true, if_false, true_and, and_true, true_implies, false_implies, implies_true, not_true_eq_false, not_false_eq_true, true_or, or_true, false_or, or_false, and_false, false_and, eq_self, n01_0, n01_1, nm1_0]
      have := hP _ hf1 azUp_s (by rw [azUp_nk (by decide)]; exact e12)
      have ev : exEv (fun w => I 240 w) (.leaf (tb t i - 48)) = nI (tb t i - 48) := by
        unfold exEv
        rw [if_pos (by omega)]
      rw [ev] at this
      exact this
  · rw [if_neg c1] at hP ⊢
    have bad : (∀ I' v j, frp I I' → I' 228 12 = nI i → I' 228 11 = nI j → j ≤ 80 → Q (some (.int v)) ((n, z, kd), I', J, F)) → ∀ σ', σ' = ((n, z, kd), I, J, F) → ∀ r : Int32, R (D + 1) mX9_wrong 0 [.ref 228, .int (nI i)] [] σ' fun v8 s9 => v8 = none ∧ Q (some (.int r)) s9 := fun hh σ' es r => by
      subst es
      exact S_wrong9 hR hK e12 ⟨rfl, hh _ r i frp.refl.up12 azUp_s (by rw [azUp_nk (by decide)]; exact e11) (by omega)⟩
    have s106 : ¬ (120 ≤ tb t i ∧ tb t i ≤ 122) → R (D + 2) mX9_factor 106 [.ref 228, .int (nI (tb t i)), .retAddr 0] [] ((n, z, kd), I, J, F) Q := by
      intro hn
      rw [if_neg (fun q => hn ⟨q.1, q.2.1⟩)] at hP
      by_cases c3 : tb t i = 40
      · rw [c3]
        exact hbr I i Q hc hi c3 hPb
      · rw [if_neg c3] at hP
        refine BX9_factor_106 hR ?_
        simp (disch := omega) only [nI_ad, nI_ml, nI_lti, nI_lei, nI_eqi, nI_nn, nI_0le, nI_eq0, nI_0lt, nI_le0, nI_clamp, nI_pd, nI_sb, zOf_some, zOp_some, zOp_none, kI_int, kL_long, kO_ref, kO_null, nlt_T, nlt_F, nle_T, nle_F, neq_F, vpT, azUp_at, if_true, if_false, true_and, and_true, true_implies, false_implies, implies_true, not_true_eq_false, not_false_eq_true, true_or, or_true, false_or, or_false, and_false, false_and, eq_self, n01_0, n01_1, nm1_0, c3, k0, e11]
        exact bad hP _ rfl _
    simp (disch := omega) only [nI_ad, nI_ml, nI_lti, nI_lei, nI_eqi, nI_nn, nI_0le, nI_eq0, nI_0lt, nI_le0, nI_clamp, nI_pd, nI_sb, zOf_some, zOp_some, zOp_none, kI_int, kL_long, kO_ref, kO_null, nlt_T, nlt_F, nle_T, nle_F, neq_F, vpT, azUp_at, if_true, if_false, true_and, and_true, true_implies, false_implies, implies_true, not_true_eq_false, not_false_eq_true, true_or, or_true, false_or, or_false, and_false, false_and, eq_self, n01_0, n01_1, nm1_0]
    by_cases c2 : 120 ≤ tb t i ∧ tb t i ≤ 122
    · have e24 := hc.2.2.2.1
      have hw := kbW kb hkb (tb t i - 120) (by omega)
      by_cases c4 : kb.testBit (tb t i - 120) = true
      · rw [if_pos ⟨c2.1, c2.2, c4⟩] at hP
        have hw' : ¬ (((nI kb >>> (nI (tb t i - 120) &&& 31)) &&& nI 1) = 0) := fun q => by rw [hw.mp q] at c4; cases c4
        simp (disch := omega) only [nI_ad, nI_ml, nI_lti, nI_lei, nI_eqi, nI_nn, nI_0le, nI_eq0, nI_0lt, nI_le0, nI_clamp, nI_pd, nI_sb, zOf_some, zOp_some, zOp_none, kI_int, kL_long, kO_ref, kO_null, nlt_T, nlt_F, nle_T, nle_F, neq_F, vpT, azUp_at, if_true, if_false, true_and, and_true, true_implies, false_implies, implies_true, not_true_eq_false, not_false_eq_true, true_or, or_true, false_or, or_false, and_false, false_and, eq_self, n01_0, n01_1, nm1_0, k0, e24, hw', e11, f23, k231]
        have hf1 : frp I (azUp I 228 11 (nI (i + 1))) := frp.refl.up11
        have := hP _ hf1 azUp_s (by rw [azUp_nk (by decide)]; exact e12)
        have ev : exEv (fun w => I 240 w) (.leaf (100 + (tb t i - 120))) = I 240 (tb t i - 120) := by
          unfold exEv
          rw [if_neg (by omega)]
          show I 240 (100 + (tb t i - 120) - 100) = _
          rw [Nat.add_sub_cancel_left]
        rw [ev] at this
        exact this
      · rw [if_neg (fun q => c4 q.2.2), if_neg (by omega)] at hP
        have hw' : ((nI kb >>> (nI (tb t i - 120) &&& 31)) &&& nI 1) = 0 := hw.mpr (by simpa using c4)
        simp (disch := omega) only [nI_ad, nI_ml, nI_lti, nI_lei, nI_eqi, nI_nn, nI_0le, nI_eq0, nI_0lt, nI_le0, nI_clamp, nI_pd, nI_sb, zOf_some, zOp_some, zOp_none, kI_int, kL_long, kO_ref, kO_null, nlt_T, nlt_F, nle_T, nle_F, neq_F, vpT, azUp_at, if_true, if_false, true_and, and_true, true_implies, false_implies, implies_true, not_true_eq_false, not_false_eq_true, true_or, or_true, false_or, or_false, and_false, false_and, eq_self, n01_0, n01_1, nm1_0, k0, e24, hw', e11]
        exact bad hP _ rfl _
    · refine ⟨fun _ => s106 c2, fun q1 => ⟨fun _ => s106 c2, fun q2 => absurd ⟨by omega, by omega⟩ c2⟩⟩
theorem S_factor9 (hR : azClosed R) (hK : MdOk kd F) (htk : tOK t) (hkb : kb < 8) : ∀ b, b ≤ 5 → rdS R n z kd J F t kb b (fD d b) mX9_factor [.retAddr 0, .retAddr 0] (pF kb t b) := by
  have k0 := hK.1
  have ht := htk.1
  intro b
  induction b with
  | zero =>
    intro _
    refine L_factor9 hR hK htk hkb fun I i Q hc hi h40 hP => ?_
    have e12 := hc.2.2.1
    have e11 := hc.2.1
    have e25 : I 228 25 = nI 5 := hc.2.2.2.2
    have ep : pF kb t 0 i = .error i := by
      unfold pF
      rw [h40, if_neg (by decide), if_neg (by omega), if_pos rfl]
    rw [ep] at hP
    refine BX9_factor_106 hR ?_
    simp (disch := omega) only [nI_ad, nI_ml, nI_lti, nI_lei, nI_eqi, nI_nn, nI_0le, nI_eq0, nI_0lt, nI_le0, nI_clamp, nI_pd, nI_sb, zOf_some, zOp_some, zOp_none, kI_int, kL_long, kO_ref, kO_null, nlt_T, nlt_F, nle_T, nle_F, neq_F, vpT, azUp_at, if_true, if_false, true_and, and_true, true_implies, false_implies, implies_true, not_true_eq_false, not_false_eq_true, true_or, or_true, false_or, or_false, and_false, false_and, eq_self, n01_0, n01_1, nm1_0, k0, e25, e11]
    exact S_wrong9 hR hK e12 ⟨rfl, hP _ _ i frp.refl.up12 azUp_s (by rw [azUp_nk (by decide)]; exact e11) (by omega)⟩
  | succ b ih =>
    intro hb5
    have hE := S_expr9 hR hK htk (PG_F b) (ih (by omega))
    refine L_factor9 (D := fD d b + 1) hR hK htk hkb fun I i Q hc hi h40 hP => ?_
    have e12 := hc.2.2.1
    have e11 := hc.2.1
    have e25 : I 228 25 = nI (5 - (b + 1)) := hc.2.2.2.2
    have hil := tb_len (t := t) (i := i) (by omega)
    have ep : pF kb t (b + 1) i = pb (pE (pF kb t b) t (i + 1)) fun x => if tb t x.2 = 41 then .ok (x.1, x.2 + 1) else .error x.2 := by
      show (if isFg (tb t i) then _ else _) = _
      rw [h40, if_neg (by decide), if_neg (by omega), if_pos rfl]
    rw [ep] at hP
    refine BX9_factor_106 hR ?_
    simp (disch := omega) only [nI_ad, nI_ml, nI_lti, nI_lei, nI_eqi, nI_nn, nI_0le, nI_eq0, nI_0lt, nI_le0, nI_clamp, nI_pd, nI_sb, zOf_some, zOp_some, zOp_none, kI_int, kL_long, kO_ref, kO_null, nlt_T, nlt_F, nle_T, nle_F, neq_F, vpT, azUp_at, if_true, if_false, true_and, and_true, true_implies, false_implies, implies_true, not_true_eq_false, not_false_eq_true, true_or, or_true, false_or, or_false, and_false, false_and, eq_self, n01_0, n01_1, nm1_0, k0, e25, e11]
    have es : 5 - (b + 1) + 1 = 5 - b := by omega
    rw [es]
    have hx : txt (azUp (azUp I 228 11 (nI (i + 1))) 228 25 (nI (5 - b))) t := ⟨by rw [azUp_nk (by decide), azUp_nk (by decide)]; exact hc.1.1, by rw [azUp_nb (by decide), azUp_nb (by decide)]; exact hc.1.2⟩
    refine hE _ (i + 1) _ ⟨hx, by rw [azUp_nk (by decide), azUp_s], by rw [azUp_nk (by decide), azUp_nk (by decide)]; exact e12, by rw [azUp_nk (by decide), azUp_nk (by decide)]; exact hc.2.2.2.1, azUp_s⟩ hil ?_
    -- brackets are as they were behind it
    have bk : ∀ I1, frp (azUp (azUp I 228 11 (nI (i + 1))) 228 25 (nI (5 - b))) I1 → I1 228 25 = nI (5 - b) ∧ frp I (azUp I1 228 25 (nI (5 - (b + 1)))) := fun I1 h1 => by
      refine ⟨by rw [h1.2 25 (by decide) (by decide), azUp_s], fun c hc' => by rw [azUp_nb hc', h1.1 c hc', azUp_nb hc', azUp_nb hc'], fun j j1 j2 => ?_⟩
      by_cases ej : j = 25
      · rw [ej, azUp_s, e25]
      · rw [azUp_nk ej, h1.2 j j1 j2, azUp_nk ej, azUp_nk j1]
    have e5 : 5 - b - 1 = 5 - (b + 1) := by omega
    have ev0 : (fun w => azUp (azUp I 228 11 (nI (i + 1))) 228 25 (nI (5 - b)) 240 w) = fun w => I 240 w := by rw [azUp_nb (by decide), azUp_nb (by decide)]
    rw [ev0]
    have g := PG_E (PG_F (kb := kb) (t := t) b) (i + 1) hil
    revert hP g
    cases pE (pF kb t b) t (i + 1) with
    | error f =>
      intro hP g I1 v j' h1 h2 h4 h5
      have hP : ∀ I' v j, frp I I' → I' 228 12 = nI f → I' 228 11 = nI j → j ≤ 80 → Q (some (.int v)) ((n, z, kd), I', J, F) := hP
      obtain ⟨b1, b2⟩ := bk I1 h1
      have hf' := g.2
      rw [kI_int]
      simp (disch := omega) only [nI_ad, nI_ml, nI_lti, nI_lei, nI_eqi, nI_nn, nI_0le, nI_eq0, nI_0lt, nI_le0, nI_clamp, nI_pd, nI_sb, zOf_some, zOp_some, zOp_none, kI_int, kL_long, kO_ref, kO_null, nlt_T, nlt_F, nle_T, nle_F, neq_F, vpT, azUp_at, if_true, if_false, true_and, and_true, true_implies, false_implies, implies_true, not_true_eq_false, not_false_eq_true, true_or, or_true, false_or, or_false, and_false, false_and, eq_self, n01_0, n01_1, nm1_0, k0, b1]
      rw [e5]
      exact S_takes9f hR hK (f := f) (by omega) (by rw [azUp_nk (by decide)]; exact h2) ⟨rfl, hP _ _ j' b2 (by rw [azUp_nk (by decide)]; exact h2) (by rw [azUp_nk (by decide)]; exact h4) h5⟩
    | ok x =>
      intro hP g I1 h1 h2 h3
      rw [pb_ok] at hP
      obtain ⟨b1, b2⟩ := bk I1 h1
      have g2 := g.2.1
      rw [kI_int]
      simp (disch := omega) only [nI_ad, nI_ml, nI_lti, nI_lei, nI_eqi, nI_nn, nI_0le, nI_eq0, nI_0lt, nI_le0, nI_clamp, nI_pd, nI_sb, zOf_some, zOp_some, zOp_none, kI_int, kL_long, kO_ref, kO_null, nlt_T, nlt_F, nle_T, nle_F, neq_F, vpT, azUp_at, if_true, if_false, true_and, and_true, true_implies, false_implies, implies_true, not_true_eq_false, not_false_eq_true, true_or, or_true, false_or, or_false, and_false, false_and, eq_self, n01_0, n01_1, nm1_0, k0, b1]
      rw [e5]
      have hc2 : cu (azUp I1 228 25 (nI (5 - (b + 1)))) t kb (b + 1) x.2 := ⟨b2.txt hc.1, by rw [azUp_nk (by decide)]; exact h2, by rw [azUp_nk (by decide)]; exact h3, by rw [b2.2 24 (by decide) (by decide)]; exact hc.2.2.2.1, azUp_s⟩
      refine S_takes9 hR hK ht hc2 (by omega) (by decide) htk (fun c => ⟨rfl, ?_⟩) (fun c => ⟨rfl, ?_⟩)
      · rw [if_pos c] at hP
        exact hP _ b2.up11 azUp_s (by rw [azUp_nk (by decide)]; exact hc2.2.2.1)
      · rw [if_neg c] at hP
        exact hP _ _ x.2 b2.up12 azUp_s (by rw [azUp_nk (by decide)]; exact hc2.2.1) (by omega)
/-- an expression with no bracket round it -/
theorem S_exprX9 (hR : azClosed R) (hK : MdOk kd F) (htk : tOK t) (hkb : kb < 8) : rdS R n z kd J F t kb 5 (d + 19) mX9_expression [.retAddr 0, .retAddr 0, .retAddr 0] (pX kb t) := S_expr9 hR hK htk (PG_F 5) (S_factor9 (d := d) hR hK htk hkb 5 (Nat.le_refl _))
end S9
