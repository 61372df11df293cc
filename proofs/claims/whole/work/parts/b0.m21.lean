/-! THE REFERENCE: again, last. -/
section S9
variable {R : azP} {d n z : Nat} {kd : azK} {I : azI} {J : azJ} {F : azR} {Q : azQ} {st : St} {σ : azS}
def frA9 (I I' : azI) : Prop := (∀ c, c ≠ 228 → (c < 234 ∨ c = 241 ∨ 245 < c) → I' c = I c) ∧ ∀ j, j ≤ 8 ∨ 26 ≤ j → I' 228 j = I 228 j
theorem frA9.of {I I1 I2 : azI} (h1 : frA9 I I1) (h2 : frG9 I1 I2) : frA9 I I2 := ⟨fun c a b => by rw [h2.1 c a (by omega), h1.1 c a b], fun j a => by rw [h2.2 j a, h1.2 j a]⟩
theorem frA9.mdS {I I' : azI} (h : frA9 I I') : mdS I I' := ⟨fun b a b' => h.1 b a (by omega), fun j a => h.2 j (by omega)⟩
theorem S_repeats9 (hR : azClosed R) (hW : MW ((n, z, kd), I, J, F) st) {s k : Nat} (hs : s < 1024) (hk : k ≤ 200) (h : ∀ I', frA9 I I' → cD (I' 245) (rpt (rsOf st.2.1) s k st.1).2 → Q (some (.int (nI (rpt (rsOf st.2.1) s k st.1).1))) ((n, z, kd), I', J, F)) : R (d + 26) mX9_repeats 0 [.ref 228, .int (nI s), .int (nI k), .retAddr 0, .retAddr 0, .retAddr 0] [] ((n, z, kd), I, J, F) Q := by
  obtain ⟨hK, hC, hS⟩ := id hW
  have hK : MdOk kd F := hK
  have hC : cMd I st := hC
  have ⟨k0, ⟨k220, k221, k222, _⟩, ⟨_, k233, k234, k235, k236, _⟩, ⟨f0, f1, f2, _⟩, ⟨_, f28, f29, f30, f31, _⟩⟩ := id hK
  have ho := stOK.all hS
  have main : ∀ (r j : Nat) (M : Mk) (I1 : azI) (w5 : Value), r + j = k → frA9 I I1 → cD (I1 245) M → mOK M → j + (rpt (rsOf st.2.1) s r M).1 = (rpt (rsOf st.2.1) s k st.1).1 → (rpt (rsOf st.2.1) s r M).2 = (rpt (rsOf st.2.1) s k st.1).2 → R (d + 26) mX9_repeats 20 [.ref 228, .int (nI s), .int (nI k), .int (nI j), .int (nI 1), w5] [] ((n, z, kd), I1, J, F) Q := by
    intro r
    induction r with
    | zero =>
      intro j M I1 w5 hj hf hm hv e1 e2
      have er : rpt (rsOf st.2.1) s 0 M = (0, M) := rfl
      rw [er] at e1 e2
      have := h I1 hf (by rw [← e2]; exact hm)
      rw [← e1] at this
      refine BX9_repeats_20 hR ?_
      simp (disch := omega) only [nI_ad, nI_ml, nI_lti, nI_lei, nI_eqi, nI_nn, nI_0le, nI_eq0, nI_0lt, nI_le0, nI_clamp, nI_pd, nI_sb, zOf_some, zOp_some, zOp_none, kI_int, kL_long, kO_ref, kO_null, nlt_T, nlt_F, nle_T, nle_F, neq_F, vpT, azUp_at, if_true, if_false, true_and, and_true, true_implies, false_implies, implies_true, not_true_eq_false, not_false_eq_true, true_or, or_true, false_or, or_false, and_false, false_and, eq_self, n01_0, n01_1, nm1_0]
      exact this
    | succ r ih =>
      intro j M I1 w5 hj hf hm hv e1 e2
      have er : rpt (rsOf st.2.1) s (r + 1) M = match tryT (rsOf st.2.1) s M 10 0 with
        | none => (0, M)
        | some M' => ((rpt (rsOf st.2.1) s r M').1 + 1, (rpt (rsOf st.2.1) s r M').2) := rfl
      rw [er] at e1 e2
      -- one can go
      have yes : ∀ (M' : Mk) (p : Nat) (I2 : azI), tryT (rsOf st.2.1) s M 10 0 = some M' → frA9 I I2 → cD (I2 244) M' → R (d + 26) mX9_repeats 84 [.ref 228, .int (nI s), .int (nI k), .int (nI j), .int (nI 1), .int (nI p)] [] ((n, z, kd), I2, J, F) Q := by
        intro M' p I2 et hf2 hcd
        rw [et] at e1 e2
        dsimp only at e1 e2
        refine BX9_repeats_84 hR ?_
        simp (disch := omega) only [nI_ad, nI_ml, nI_lti, nI_lei, nI_eqi, nI_nn, nI_0le, nI_eq0, nI_0lt, nI_le0, nI_clamp, nI_pd, nI_sb, zOf_some, zOp_some, zOp_none, kI_int, kL_long, kO_ref, kO_null, nlt_T, nlt_F, nle_T, nle_F, neq_F, vpT, azUp_at, if_true, if_false, true_and, and_true, true_implies, false_implies, implies_true, not_true_eq_false, not_false_eq_true, true_or, or_true, false_or, or_false, and_false, false_and, eq_self, n01_0, n01_1, nm1_0, k0, f30, f31]
        refine S_pours9 hR (by decide) k235 k236 (by decide) (by decide) (by decide) (by decide) fun I3 p1 p2 p3 => ⟨rfl, ?_⟩
        refine ih (j + 1) M' I3 _ (by omega) ⟨fun c a b => by rw [p1 c (by omega)]; exact hf2.1 c a b, fun j a => by rw [p1 228 (by decide)]; exact hf2.2 j a⟩ (hcd.row fun i hi => ?_) (tryT_ok ho hv _ _ et) (by omega) e2
        have := p2 i hi
        rw [Nat.zero_add] at this
        exact this
      have inn : ∀ (q p : Nat) (I2 : azI), q + p = 10 → frA9 I I2 → cD (I2 245) M → tryT (rsOf st.2.1) s M q p = tryT (rsOf st.2.1) s M 10 0 → R (d + 26) mX9_repeats 36 [.ref 228, .int (nI s), .int (nI k), .int (nI j), .int (nI 0), .int (nI p)] [] ((n, z, kd), I2, J, F) Q := by
        intro q
        induction q with
        | zero =>
          intro p I2 hq hf2 hm2 et
          obtain rfl : p = 10 := by omega
          have et : tryT (rsOf st.2.1) s M 10 0 = none := et.symm
          rw [et] at e1 e2
          dsimp only at e1 e2
          have := h I2 hf2 (by rw [← e2]; exact hm2)
          rw [← e1] at this
          refine BX9_repeats_36 hR ?_
          simp (disch := omega) only [nI_ad, nI_ml, nI_lti, nI_lei, nI_eqi, nI_nn, nI_0le, nI_eq0, nI_0lt, nI_le0, nI_clamp, nI_pd, nI_sb, zOf_some, zOp_some, zOp_none, kI_int, kL_long, kO_ref, kO_null, nlt_T, nlt_F, nle_T, nle_F, neq_F, vpT, azUp_at, if_true, if_false, true_and, and_true, true_implies, false_implies, implies_true, not_true_eq_false, not_false_eq_true, true_or, or_true, false_or, or_false, and_false, false_and, eq_self, n01_0, n01_1, nm1_0]
          refine BX9_repeats_84 hR ?_
          simp (disch := omega) only [nI_ad, nI_ml, nI_lti, nI_lei, nI_eqi, nI_nn, nI_0le, nI_eq0, nI_0lt, nI_le0, nI_clamp, nI_pd, nI_sb, zOf_some, zOp_some, zOp_none, kI_int, kL_long, kO_ref, kO_null, nlt_T, nlt_F, nle_T, nle_F, neq_F, vpT, azUp_at, if_true, if_false, true_and, and_true, true_implies, false_implies, implies_true, not_true_eq_false, not_false_eq_true, true_or, or_true, false_or, or_false, and_false, false_and, eq_self, n01_0, n01_1, nm1_0]
          refine BX9_repeats_20 hR ?_
          simp (disch := omega) only [nI_ad, nI_ml, nI_lti, nI_lei, nI_eqi, nI_nn, nI_0le, nI_eq0, nI_0lt, nI_le0, nI_clamp, nI_pd, nI_sb, zOf_some, zOp_some, zOp_none, kI_int, kL_long, kO_ref, kO_null, nlt_T, nlt_F, nle_T, nle_F, neq_F, vpT, azUp_at, if_true, if_false, true_and, and_true, true_implies, false_implies, implies_true, not_true_eq_false, not_false_eq_true, true_or, or_true, false_or, or_false, and_false, false_and, eq_self, n01_0, n01_1, nm1_0]
          exact this
        | succ q ihq =>
          intro p I2 hq hf2 hm2 et
          have hp : p < 10 := by omega
          have hw := nBitV s hs p hp
          have et1 : tryT (rsOf st.2.1) s M (q + 1) p = if s.testBit p then (match pfire (rsOf st.2.1) p M with
            | some M => some M
            | none => tryT (rsOf st.2.1) s M q (p + 1)) else tryT (rsOf st.2.1) s M q (p + 1) := rfl
          rw [et1] at et
          have e222 : I2 231 = I 231 := hf2.1 231 (by decide) (by decide)
          refine BX9_repeats_36 hR ?_
          by_cases c : s.testBit p = true
          · rw [if_pos c] at et
            rw [if_pos c] at hw
            simp (disch := omega) only [nI_ad, nI_ml, nI_lti, nI_lei, nI_eqi, nI_nn, nI_0le, nI_eq0, nI_0lt, nI_le0, nI_clamp, nI_pd, nI_sb, zOf_some, zOp_some, zOp_none, kI_int, kL_long, kO_ref, kO_null, nlt_T, nlt_F, nle_T, nle_F, neq_F, vpT, azUp_at, if_true, if_false, true_and, and_true, true_implies, false_implies, implies_true, not_true_eq_false, not_false_eq_true, true_or, or_true, false_or, or_false, and_false, false_and, eq_self, n01_0, n01_1, nm1_0, hw, k0, f31]
            refine S_goes9 hR hK (by rw [e222]; exact hC.2.1) hS.2.1 hp k236 (by decide) (by decide) hm2 hv fun I3 g1 g2 => ?_
            cases ef : pfire (rsOf st.2.1) p M with
            | none =>
              rw [ef] at et
              dsimp only at et
              have := ihq (p + 1) I3 (by omega) (hf2.of g1) (by rw [g1.1 245 (by decide) (by decide)]; exact hm2) et
              simp (disch := omega) only [nI_ad, nI_ml, nI_lti, nI_lei, nI_eqi, nI_nn, nI_0le, nI_eq0, nI_0lt, nI_le0, nI_clamp, nI_pd, nI_sb, zOf_some, zOp_some, zOp_none, kI_int, kL_long, kO_ref, kO_null, nlt_T, nlt_F, nle_T, nle_F, neq_F, vpT, azUp_at, if_true, if_false, true_and, and_true, true_implies, false_implies, implies_true, not_true_eq_false, not_false_eq_true, true_or, or_true, false_or, or_false, and_false, false_and, eq_self, n01_0, n01_1, nm1_0, Option.isSome_none, Bool.false_eq_true]
              exact this
            | some M' =>
              rw [ef] at et
              dsimp only at et
              have hy := yes M' (p + 1) I3 et.symm (hf2.of g1) (g2 M' ef)
              simp (disch := omega) only [nI_ad, nI_ml, nI_lti, nI_lei, nI_eqi, nI_nn, nI_0le, nI_eq0, nI_0lt, nI_le0, nI_clamp, nI_pd, nI_sb, zOf_some, zOp_some, zOp_none, kI_int, kL_long, kO_ref, kO_null, nlt_T, nlt_F, nle_T, nle_F, neq_F, vpT, azUp_at, if_true, if_false, true_and, and_true, true_implies, false_implies, implies_true, not_true_eq_false, not_false_eq_true, true_or, or_true, false_or, or_false, and_false, false_and, eq_self, n01_0, n01_1, nm1_0, Option.isSome_some]
              refine BX9_repeats_36 hR ?_
              have n10 : ¬ (nI 1 = 0) := by decide
              by_cases c10 : 10 ≤ p + 1
              · simp (disch := omega) only [nI_ad, nI_ml, nI_lti, nI_lei, nI_eqi, nI_nn, nI_0le, nI_eq0, nI_0lt, nI_le0, nI_clamp, nI_pd, nI_sb, zOf_some, zOp_some, zOp_none, kI_int, kL_long, kO_ref, kO_null, nlt_T, nlt_F, nle_T, nle_F, neq_F, vpT, azUp_at, if_true, if_false, true_and, and_true, true_implies, false_implies, implies_true, not_true_eq_false, not_false_eq_true, true_or, or_true, false_or, or_false, and_false, false_and, eq_self, n01_0, n01_1, nm1_0, c10]
                exact hy
              · simp (disch := omega) only [nI_ad, nI_ml, nI_lti, nI_lei, nI_eqi, nI_nn, nI_0le, nI_eq0, nI_0lt, nI_le0, nI_clamp, nI_pd, nI_sb, zOf_some, zOp_some, zOp_none, kI_int, kL_long, kO_ref, kO_null, nlt_T, nlt_F, nle_T, nle_F, neq_F, vpT, azUp_at, if_true, if_false, true_and, and_true, true_implies, false_implies, implies_true, not_true_eq_false, not_false_eq_true, true_or, or_true, false_or, or_false, and_false, false_and, eq_self, n01_0, n01_1, nm1_0, c10]
                exact hy
          · rw [if_neg c] at et
            rw [if_neg c] at hw
            simp (disch := omega) only [nI_ad, nI_ml, nI_lti, nI_lei, nI_eqi, nI_nn, nI_0le, nI_eq0, nI_0lt, nI_le0, nI_clamp, nI_pd, nI_sb, zOf_some, zOp_some, zOp_none, kI_int, kL_long, kO_ref, kO_null, nlt_T, nlt_F, nle_T, nle_F, neq_F, vpT, azUp_at, if_true, if_false, true_and, and_true, true_implies, false_implies, implies_true, not_true_eq_false, not_false_eq_true, true_or, or_true, false_or, or_false, and_false, false_and, eq_self, n01_0, n01_1, nm1_0, hw]
            exact ihq (p + 1) I2 (by omega) hf2 hm2 et
      refine BX9_repeats_20 hR ?_
      simp (disch := omega) only [nI_ad, nI_ml, nI_lti, nI_lei, nI_eqi, nI_nn, nI_0le, nI_eq0, nI_0lt, nI_le0, nI_clamp, nI_pd, nI_sb, zOf_some, zOp_some, zOp_none, kI_int, kL_long, kO_ref, kO_null, nlt_T, nlt_F, nle_T, nle_F, neq_F, vpT, azUp_at, if_true, if_false, true_and, and_true, true_implies, false_implies, implies_true, not_true_eq_false, not_false_eq_true, true_or, or_true, false_or, or_false, and_false, false_and, eq_self, n01_0, n01_1, nm1_0]
      exact inn 10 0 I1 rfl hf hm rfl
  refine BX9_repeats_0 hR ?_
  simp (disch := omega) only [nI_ad, nI_ml, nI_lti, nI_lei, nI_eqi, nI_nn, nI_0le, nI_eq0, nI_0lt, nI_le0, nI_clamp, nI_pd, nI_sb, zOf_some, zOp_some, zOp_none, kI_int, kL_long, kO_ref, kO_null, nlt_T, nlt_F, nle_T, nle_F, neq_F, vpT, azUp_at, if_true, if_false, true_and, and_true, true_implies, false_implies, implies_true, not_true_eq_false, not_false_eq_true, true_or, or_true, false_or, or_false, and_false, false_and, eq_self, n01_0, n01_1, nm1_0, k0, f0, f31]
  refine S_pours9 hR (by decide) k220 k236 (by decide) (by decide) (by decide) (by decide) fun I3 p1 p2 p3 => ⟨rfl, ?_⟩
  refine main k 0 st.1 I3 _ (by omega) ⟨fun c a b => p1 c (by omega), fun j a => by rw [p1 228 (by decide)]⟩ (hC.1.row fun i hi => ?_) hS.1 (Nat.zero_add _) rfl
  have := p2 i hi
  rw [Nat.zero_add] at this
  exact this
theorem S_isRepeat9 (hR : azClosed R) {x y : Int32} (h0 : (ix x 1024 = none ∨ jx y 200 = none) → Q (some (.int (nI 0))) σ) (h1 : ∀ s k, ix x 1024 = some s → jx y 200 = some k → Q (some (.int (nI 1))) σ) : R (d + 1) mX9_isRepeat 0 [.int x, .int y] [] σ Q := by
  obtain ⟨⟨n, z, kd⟩, I, J, F⟩ := σ
  refine BX9_isRepeat_0 hR (S_isInP9 hR (k := 1024) (by decide) (by decide) (by decide) ?_)
  unfold isP
  cases e : ix x 1024 with
  | none =>
    simp (disch := omega) only [nI_ad, nI_ml, nI_lti, nI_lei, nI_eqi, nI_nn, nI_0le, nI_eq0, nI_0lt, nI_le0, nI_clamp, nI_pd, nI_sb, zOf_some, zOp_some, zOp_none, kI_int, kL_long, kO_ref, kO_null, nlt_T, nlt_F, nle_T, nle_F, neq_F, vpT, azUp_at, if_true, if_false, true_and, and_true, true_implies, false_implies, implies_true, not_true_eq_false, not_false_eq_true, true_or, or_true, false_or, or_false, and_false, false_and, eq_self, n01_0, n01_1, nm1_0]
    exact h0 (Or.inl e)
  | some s =>
    simp (disch := omega) only [nI_ad, nI_ml, nI_lti, nI_lei, nI_eqi, nI_nn, nI_0le, nI_eq0, nI_0lt, nI_le0, nI_clamp, nI_pd, nI_sb, zOf_some, zOp_some, zOp_none, kI_int, kL_long, kO_ref, kO_null, nlt_T, nlt_F, nle_T, nle_F, neq_F, vpT, azUp_at, if_true, if_false, true_and, and_true, true_implies, false_implies, implies_true, not_true_eq_false, not_false_eq_true, true_or, or_true, false_or, or_false, and_false, false_and, eq_self, n01_0, n01_1, nm1_0]
    refine S_isInJ9 hR (K := 200) (by decide) (by decide) (by decide) ?_
    unfold isJ
    cases e2 : jx y 200 with
    | none =>
      simp (disch := omega) only [nI_ad, nI_ml, nI_lti, nI_lei, nI_eqi, nI_nn, nI_0le, nI_eq0, nI_0lt, nI_le0, nI_clamp, nI_pd, nI_sb, zOf_some, zOp_some, zOp_none, kI_int, kL_long, kO_ref, kO_null, nlt_T, nlt_F, nle_T, nle_F, neq_F, vpT, azUp_at, if_true, if_false, true_and, and_true, true_implies, false_implies, implies_true, not_true_eq_false, not_false_eq_true, true_or, or_true, false_or, or_false, and_false, false_and, eq_self, n01_0, n01_1, nm1_0]
      exact h0 (Or.inr e2)
    | some k =>
      simp (disch := omega) only [nI_ad, nI_ml, nI_lti, nI_lei, nI_eqi, nI_nn, nI_0le, nI_eq0, nI_0lt, nI_le0, nI_clamp, nI_pd, nI_sb, zOf_some, zOp_some, zOp_none, kI_int, kL_long, kO_ref, kO_null, nlt_T, nlt_F, nle_T, nle_F, neq_F, vpT, azUp_at, if_true, if_false, true_and, and_true, true_implies, false_implies, implies_true, not_true_eq_false, not_false_eq_true, true_or, or_true, false_or, or_false, and_false, false_and, eq_self, n01_0, n01_1, nm1_0]
      exact h1 s k e e2
theorem S_mdAgain (hR : azClosed R) (hW : MW σ st) {x y : Int32} (h : ∀ σ', MW σ' st → mdF σ σ' → Q (some (.int (aAgain st x y))) σ') : R (d + 27) mX9_again 0 [.ref 228, .int x, .int y] [] σ Q := by
  obtain ⟨⟨n, z, kd⟩, I, J, F⟩ := σ
  have hK : MdOk kd F := hW.1
  have k0 := hK.1
  unfold aAgain at h
  refine BX9_again_0 hR (S_isRepeat9 hR (fun e => ?_) fun s k e1 e2 => ?_)
  · simp (disch := omega) only [nI_ad, nI_ml, nI_lti, nI_lei, nI_eqi, nI_nn, nI_0le, nI_eq0, nI_0lt, nI_le0, nI_clamp, nI_pd, nI_sb, zOf_some, zOp_some, zOp_none, kI_int, kL_long, kO_ref, kO_null, nlt_T, nlt_F, nle_T, nle_F, neq_F, vpT, azUp_at, if_true, if_false, true_and, and_true, true_implies, false_implies, implies_true, not_true_eq_false, not_false_eq_true, true_or, or_true, false_or, or_false, and_false, false_and, eq_self, n01_0, n01_1, nm1_0]
    rcases e with e | e
    · rw [e] at h; exact h _ hW mdF.refl
    · rw [e] at h
      cases e2 : ix x 1024 with
      | none => rw [e2] at h; exact h _ hW mdF.refl
      | some s => rw [e2] at h; exact h _ hW mdF.refl
  · rw [e1, e2] at h
    dsimp only at h
    rcases ix_cases x (n := 1024) (by decide) with ⟨e, c⟩ | ⟨s', hs, rfl, e⟩
    · rw [e] at e1; cases e1
    rw [e] at e1
    cases e1
    rcases jx_cases y (K := 200) (by decide) (by decide) with ⟨e, c⟩ | ⟨k', hk0, hk, rfl, e'⟩
    · rw [e] at e2; cases e2
    rw [e'] at e2
    cases e2
    simp (disch := omega) only [nI_ad, nI_ml, nI_lti, nI_lei, nI_eqi, nI_nn, nI_0le, nI_eq0, nI_0lt, nI_le0, nI_clamp, nI_pd, nI_sb, zOf_some, zOp_some, zOp_none, kI_int, kL_long, kO_ref, kO_null, nlt_T, nlt_F, nle_T, nle_F, neq_F, vpT, azUp_at, if_true, if_false, true_and, and_true, true_implies, false_implies, implies_true, not_true_eq_false, not_false_eq_true, true_or, or_true, false_or, or_false, and_false, false_and, eq_self, n01_0, n01_1, nm1_0, k0]
    refine S_repeats9 hR hW hs hk fun I' g1 g2 => ?_
    obtain ⟨w1, w2⟩ := hW.kp g1.mdS (J' := J) fun _ _ => rfl
    exact h _ w1 w2
theorem S_mdLast (hR : azClosed R) (hW : MW σ st) {x y v : Int32} (h : ∀ σ', MW σ' st → mdF σ σ' → Q (some (.int (aLast st x y v))) σ') : R (d + 27) mX9_last 0 [.ref 228, .int x, .int y, .int v] [] σ Q := by
  obtain ⟨⟨n, z, kd⟩, I, J, F⟩ := σ
  have hK : MdOk kd F := hW.1
  have hS := hW.2.2
  have ⟨k0, ⟨k220, k221, k222, _⟩, ⟨_, k233, k234, k235, k236, _⟩, ⟨f0, f1, f2, _⟩, ⟨_, f28, f29, f30, f31, _⟩⟩ := id hK
  unfold aLast at h
  refine BX9_last_0 hR (S_isRepeat9 hR (fun e => ?_) fun s k e1 e2 => ?_)
  · simp (disch := omega) only [nI_ad, nI_ml, nI_lti, nI_lei, nI_eqi, nI_nn, nI_0le, nI_eq0, nI_0lt, nI_le0, nI_clamp, nI_pd, nI_sb, zOf_some, zOp_some, zOp_none, kI_int, kL_long, kO_ref, kO_null, nlt_T, nlt_F, nle_T, nle_F, neq_F, vpT, azUp_at, if_true, if_false, true_and, and_true, true_implies, false_implies, implies_true, not_true_eq_false, not_false_eq_true, true_or, or_true, false_or, or_false, and_false, false_and, eq_self, n01_0, n01_1, nm1_0]
    rcases e with e | e
    · rw [e] at h; exact h _ hW mdF.refl
    · rw [e] at h
      cases e2 : ix x 1024 with
      | none => rw [e2] at h; exact h _ hW mdF.refl
      | some s => rw [e2] at h; exact h _ hW mdF.refl
  · rw [e1, e2] at h
    dsimp only at h
    rcases ix_cases x (n := 1024) (by decide) with ⟨e, c⟩ | ⟨s', hs, rfl, e⟩
    · rw [e] at e1; cases e1
    rw [e] at e1
    cases e1
    rcases jx_cases y (K := 200) (by decide) (by decide) with ⟨e, c⟩ | ⟨k', hk0, hk, rfl, e'⟩
    · rw [e] at e2; cases e2
    rw [e'] at e2
    cases e2
    simp (disch := omega) only [nI_ad, nI_ml, nI_lti, nI_lei, nI_eqi, nI_nn, nI_0le, nI_eq0, nI_0lt, nI_le0, nI_clamp, nI_pd, nI_sb, zOf_some, zOp_some, zOp_none, kI_int, kL_long, kO_ref, kO_null, nlt_T, nlt_F, nle_T, nle_F, neq_F, vpT, azUp_at, if_true, if_false, true_and, and_true, true_implies, false_implies, implies_true, not_true_eq_false, not_false_eq_true, true_or, or_true, false_or, or_false, and_false, false_and, eq_self, n01_0, n01_1, nm1_0]
    refine S_isPlace9 hR ?_
    unfold isP
    rcases ix_cases v (n := 10) (by decide) with ⟨e3, c⟩ | ⟨p, hp, rfl, e3⟩
    · rw [e3] at h ⊢
      simp (disch := omega) only [nI_ad, nI_ml, nI_lti, nI_lei, nI_eqi, nI_nn, nI_0le, nI_eq0, nI_0lt, nI_le0, nI_clamp, nI_pd, nI_sb, zOf_some, zOp_some, zOp_none, kI_int, kL_long, kO_ref, kO_null, nlt_T, nlt_F, nle_T, nle_F, neq_F, vpT, azUp_at, if_true, if_false, true_and, and_true, true_implies, false_implies, implies_true, not_true_eq_false, not_false_eq_true, true_or, or_true, false_or, or_false, and_false, false_and, eq_self, n01_0, n01_1, nm1_0]
      exact h _ hW mdF.refl
    rw [e3] at h ⊢
    dsimp only at h
    simp (disch := omega) only [nI_ad, nI_ml, nI_lti, nI_lei, nI_eqi, nI_nn, nI_0le, nI_eq0, nI_0lt, nI_le0, nI_clamp, nI_pd, nI_sb, zOf_some, zOp_some, zOp_none, kI_int, kL_long, kO_ref, kO_null, nlt_T, nlt_F, nle_T, nle_F, neq_F, vpT, azUp_at, if_true, if_false, true_and, and_true, true_implies, false_implies, implies_true, not_true_eq_false, not_false_eq_true, true_or, or_true, false_or, or_false, and_false, false_and, eq_self, n01_0, n01_1, nm1_0, k0]
    refine S_repeats9 hR hW hs hk fun I' g1 g2 => ?_
    obtain ⟨w1, w2⟩ := hW.kp g1.mdS (J' := J) fun _ _ => rfl
    have h := h _ w1 w2
    have hv := (rpt_ok (s := s) (stOK.all hS) k st.1 hS.1).1 p
    generalize (rpt (rsOf st.2.1) s k st.1).2 = M at g2 h hv
    obtain ⟨r1, r2⟩ := g2 p hp
    by_cases c : M p = []
    · rw [if_pos c] at h
      rw [c] at r1
      simp (disch := omega) only [nI_ad, nI_ml, nI_lti, nI_lei, nI_eqi, nI_nn, nI_0le, nI_eq0, nI_0lt, nI_le0, nI_clamp, nI_pd, nI_sb, zOf_some, zOp_some, zOp_none, kI_int, kL_long, kO_ref, kO_null, nlt_T, nlt_F, nle_T, nle_F, neq_F, vpT, azUp_at, if_true, if_false, true_and, and_true, true_implies, false_implies, implies_true, not_true_eq_false, not_false_eq_true, true_or, or_true, false_or, or_false, and_false, false_and, eq_self, n01_0, n01_1, nm1_0, k0, f31, k236, r1, List.length_nil]
      exact h
    · rw [if_neg c] at h
      have h0 : 0 < (M p).length := List.length_pos_iff.mpr c
      have n0 : ¬ (M p).length = 0 := by omega
      have hl := hv.1
      have er := r2 ((M p).length - 1) (by omega)
      simp (disch := omega) only [nI_ad, nI_ml, nI_lti, nI_lei, nI_eqi, nI_nn, nI_0le, nI_eq0, nI_0lt, nI_le0, nI_clamp, nI_pd, nI_sb, zOf_some, zOp_some, zOp_none, kI_int, kL_long, kO_ref, kO_null, nlt_T, nlt_F, nle_T, nle_F, neq_F, vpT, azUp_at, if_true, if_false, true_and, and_true, true_implies, false_implies, implies_true, not_true_eq_false, not_false_eq_true, true_or, or_true, false_or, or_false, and_false, false_and, eq_self, n01_0, n01_1, nm1_0, k0, f31, k236, r1, n0]
      refine S_at9 hR ?_
      simp (disch := omega) only [nI_ad, nI_ml, nI_lti, nI_lei, nI_eqi, nI_nn, nI_0le, nI_eq0, nI_0lt, nI_le0, nI_clamp, nI_pd, nI_sb, zOf_some, zOp_some, zOp_none, kI_int, kL_long, kO_ref, kO_null, nlt_T, nlt_F, nle_T, nle_F, neq_F, vpT, azUp_at, if_true, if_false, true_and, and_true, true_implies, false_implies, implies_true, not_true_eq_false, not_false_eq_true, true_or, or_true, false_or, or_false, and_false, false_and, eq_self, n01_0, n01_1, nm1_0, k236, er]
      exact h
end S9
