/-! THE REFERENCE: goes, all of it. -/
section S9
variable {R : azP} {d n z : Nat} {kd : azK} {I : azI} {J : azJ} {F : azR} {Q : azQ} {m : Mk} {b : Nat} {ru : Ru}
theorem rBits_1024 {cs : List Cls} (ho : rlOK cs) : rBits cs < 1024 := rBits_lt cs fun c hc => (ho.2.2.2.2.2.2 c hc).2.1
theorem S_goes9 (hR : azClosed R) (hK : MdOk kd F) (hC : cRu (I 231) ru) (hru : ruOK ru) {p : Nat} (hp : p < 10) (kb10 : kd b = (10, 70)) (hb : b ≠ 228) (hb2 : b < 234 ∨ 244 < b) (hm : cD (I b) m) (hv : mOK m) (h : ∀ I', frG9 I I' → (∀ M, pfire (rsOf ru) p m = some M → cD (I' 244) M) → Q (some (.int (nI (if (pfire (rsOf ru) p m).isSome then 1 else 0)))) ((n, z, kd), I', J, F)) : R (d + 25) mX9_goes 0 [.ref 228, .int (nI p), .ref b, .retAddr 0, .retAddr 0] [] ((n, z, kd), I, J, F) Q := by
  have ⟨k0, ⟨k220, k221, k222, k223, k224, k225, k226, k227, k228, k229, k230, k231⟩, ⟨k232, k233, k234, k235, _⟩, ⟨f0, f1, f2, f3, f7, f9, f14, f15, f17, f18, f20, f23⟩, ⟨f26, f28, f29, f30, _⟩⟩ := id hK
  have kb0 : (kd b).1 = 10 := by rw [kb10]
  refine BX9_goes_0 hR ⟨k0, ?_⟩
  refine S_readsRule9 hR hK hC hru hp (fun hr I1 g1 g2 g3 => ?_) (fun t cs hr I1 g1 g2 g3 hx hrd h12 h25 => ?_)
  · have ef : pfire (rsOf ru) p m = none := by unfold pfire rsOf; rw [hr]; rfl
    rw [ef] at h
    simp (disch := omega) only [nI_ad, nI_ml, nI_lti, nI_lei, nI_eqi, nI_nn, nI_0le, nI_eq0, nI_0lt, nI_le0, nI_clamp, nI_pd, nI_sb, zOf_some, zOp_some, zOp_none, kI_int, kL_long, kO_ref, kO_null, nlt_T, nlt_F, nle_T, nle_F, neq_F, vpT, azUp_at, if_true, if_false, true_and, and_true, true_implies, false_implies, implies_true, not_true_eq_false, not_false_eq_true, true_or, or_true, false_or, or_false, and_false, false_and, eq_self, n01_0, n01_1, nm1_0]
    exact h I1 ⟨fun c a b => by
      rcases b with b | b | b
      · exact g1.1 c a (by omega)
      · exact g1.1 c a (by omega)
      · exact g2 c (by omega), fun j a => by
      rcases a with a | a
      · exact g1.2 j (by omega)
      · exact g3 j a⟩ fun M e => by cases e
  · have ef : pfire (rsOf ru) p m = fire cs m := by unfold pfire rsOf; rw [hr]; rfl
    rw [ef] at h
    obtain ⟨htk, ht0, hpr⟩ := hru p t cs hr
    have ho : rlOK cs := by
      have := pgQ_rule (t := t) htk.1
      rw [hpr] at this
      exact this
    have hG1 : frG9 I I1 := ⟨fun c a b => by
      rcases b with b | b | b
      · exact g1.1 c a (by omega)
      · exact g1.1 c a (by omega)
      · exact g2 c (by omega), fun j a => by
      rcases a with a | a
      · exact g1.2 j (by omega)
      · exact g3 j a⟩
    have eb1 : I1 b = I b := hG1.1 b hb (by omega)
    have h3 : nTk cs ≤ 3 := ho.2.2.2.1
    simp (disch := omega) only [nI_ad, nI_ml, nI_lti, nI_lei, nI_eqi, nI_nn, nI_0le, nI_eq0, nI_0lt, nI_le0, nI_clamp, nI_pd, nI_sb, zOf_some, zOp_some, zOp_none, kI_int, kL_long, kO_ref, kO_null, nlt_T, nlt_F, nle_T, nle_F, neq_F, vpT, azUp_at, if_true, if_false, true_and, and_true, true_implies, false_implies, implies_true, not_true_eq_false, not_false_eq_true, true_or, or_true, false_or, or_false, and_false, false_and, eq_self, n01_0, n01_1, nm1_0, k0]
    refine S_binds9 (d := d + 2) hR hK htk hx hrd ho h12 h25 kb10 hb (by omega) (by omega) (by omega) (by rw [eb1]; exact hm) hv true fun I2 u1 u2 u3 => ?_
    have hG2 : frG9 I I2 := hG1.trans ⟨fun c a b => u1.1 c a (by omega) (by omega) (by omega), fun j a => u1.2 j (by omega) (by omega)⟩
    cases hbn : bnds cs m with
    | nil =>
      have ef : fire cs m = none := by unfold fire; rw [hbn]
      have e0 : nI (cnt true ([] : List (List Nat))) = nI 0 := rfl
      rw [ef] at h
      rw [e0]
      simp (disch := omega) only [nI_ad, nI_ml, nI_lti, nI_lei, nI_eqi, nI_nn, nI_0le, nI_eq0, nI_0lt, nI_le0, nI_clamp, nI_pd, nI_sb, zOf_some, zOp_some, zOp_none, kI_int, kL_long, kO_ref, kO_null, nlt_T, nlt_F, nle_T, nle_F, neq_F, vpT, azUp_at, if_true, if_false, true_and, and_true, true_implies, false_implies, implies_true, not_true_eq_false, not_false_eq_true, true_or, or_true, false_or, or_false, and_false, false_and, eq_self, n01_0, n01_1, nm1_0]
      exact h I2 hG2 fun M e => by cases e
    | cons x l =>
      have e0 : nI (cnt true (x :: l)) = nI 1 := by
        unfold cnt
        rw [if_pos rfl, List.length_cons, Nat.min_eq_left (by omega)]
      have efi : fire cs m = gvA (nmF cs m (lF x)) (rOf 2 cs) (lfM cs (lF x) m) := by unfold fire; rw [hbn]
      obtain ⟨hcl, hok⟩ := bnds_mem (cs := cs) (m := m) (x := x) (by rw [hbn]; exact List.mem_cons_self ..)
      have h234 : ∀ k, k < nTk cs → I2 243 k = nI (lF x k) := u3 x l hbn
      rw [e0]
      have hrd2 : rdM I2 t cs := hrd.kp (fun c a b => u1.1 c (by omega) (by omega) (by omega) (by omega)) fun j a b => u1.2 j (by omega) (by omega)
      have hx2 : txt I2 t := ⟨by rw [u1.2 10 (by decide) (by decide)]; exact hx.1, by rw [u1.1 234 (by decide) (by decide) (by decide) (by decide)]; exact hx.2⟩
      have h252 : I2 228 25 = nI 0 := by rw [u1.2 25 (by decide) (by decide)]; exact h25
      have eb2 : I2 b = I b := by rw [u1.1 b hb (by omega) (by omega) (by omega), eb1]
      obtain ⟨q1, q2, q3, q4, q5, q6, q7, q8, q9⟩ := id hrd2
      have hnm : ∀ k, k < nTk cs → nmF cs m (lF x) (tkN cs k) = nI (tkV cs m (lF x) k) := fun k hk => nmF_eq (fun k hk => (hok k (by omega)).2) hk
      have fin : ∀ I', frH I2 I' → (∀ M, fire cs m = some M → cD (I' 244) M) → Q (some (.int (nI (if (fire cs m).isSome then 1 else 0)))) ((n, z, kd), I', J, F) := fun I' f1 f2 => h I' (hG2.trans ⟨fun c a b => f1.1 c a (by omega) (by omega), fun j a => f1.2.1 j (by omega) (by omega)⟩) f2
      -- marks
      have mk : ∀ (s k : Nat) (I3 : azI), s + k = nTk cs → frH I2 I3 → (∀ j, j < nTk cs → I3 240 (tkN cs j) = nmF cs m (lF x) (tkN cs j)) → (∀ q, q < 10 → I3 244 q = nI (m q).length ∧ ∀ i, i < 6 → (((∃ h, h < k ∧ tkP cs h = q ∧ lF x h = i) → I3 244 (10 + 6 * q + i) = -(nI 1)) ∧ ((¬ ∃ h, h < k ∧ tkP cs h = q ∧ lF x h = i) → I3 244 (10 + 6 * q + i) = nI ((m q).getD i 0)))) → R (d + 25) mX9_goes 77 [.ref 228, .int (nI p), .ref b, .int (nI k), .retAddr 0] [] ((n, z, kd), I3, J, F) Q := by
        intro s
        induction s with
        | zero =>
          intro k I3 hs g1 g2 g3
          obtain rfl : k = nTk cs := by omega
          have e13 : I3 228 13 = nI (nTk cs) := by rw [g1.2.1 13 (by decide) (by decide)]; exact q1
          have hrow : cRw (I3 244) (fun q => mrk cs (lF x) q 0 (m q)) := fun q hq => by
            obtain ⟨r1, r2⟩ := g3 q hq
            refine ⟨by rw [mrk_len]; exact r1, fun j hj => ?_⟩
            by_cases c : j < (m q).length
            · rw [mrk_get _ _ _ c, Nat.zero_add]
              by_cases ct : tknB cs (lF x) q j = true
              · rw [if_pos ct]; exact (r2 j hj).1 (tknB_iff.mp ct)
              · rw [if_neg ct]; exact (r2 j hj).2 fun e => ct (tknB_iff.mpr e)
            · rw [List.getD_eq_getElem?_getD, List.getElem?_eq_none (by rw [mrk_len]; omega), Option.getD_none, (r2 j hj).2 ?_]
              · rw [List.getD_eq_getElem?_getD, List.getElem?_eq_none (by omega)]; rfl
              · rintro ⟨k, k1, k2, k3⟩
                have := (hok k (by omega)).1
                rw [k2, k3] at this
                omega
          refine BX9_goes_77 hR ?_
          simp (disch := omega) only [nI_ad, nI_ml, nI_lti, nI_lei, nI_eqi, nI_nn, nI_0le, nI_eq0, nI_0lt, nI_le0, nI_clamp, nI_pd, nI_sb, zOf_some, zOp_some, zOp_none, kI_int, kL_long, kO_ref, kO_null, nlt_T, nlt_F, nle_T, nle_F, neq_F, vpT, azUp_at, if_true, if_false, true_and, and_true, true_implies, false_implies, implies_true, not_true_eq_false, not_false_eq_true, true_or, or_true, false_or, or_false, and_false, false_and, eq_self, n01_0, n01_1, nm1_0, k0, e13]
          have h12' := g1.2.2
          refine S_leaves9 hR hK hv (I := I3) (m := m) (cs := cs) (E := fun q => mrk cs (lF x) q 0 (m q)) (fun q => by rw [mrk_len]; exact (hv.1 q).1) (by rw [g1.2.1 21 (by decide) (by decide)]; exact q4) (rBits_1024 ho) (fun I4 f1 f2 f3 => ?_) 10 0 I3 (.retAddr 0) rfl (frH.refl h12') rfl (hrow.cong fun q hq => by rw [if_neg (Nat.not_lt_zero _)])
          have hcd : cD (I4 244) (lfM cs (lF x) m) := cRw.cD (f3.cong fun q hq => (kpF_lfM hv q).symm)
          refine S_gives9 hR hK htk ho hx2 hrd2 h252 (nm := nmF cs m (lF x)) (go := fire cs m) fin (rOf 2 cs) [] I4 (some (lfM cs (lF x) m)) rfl (g1.trans f1) (by rw [f2]; exact g2) (fun M e => by cases e; exact ⟨hcd, lfM_ok hv, efi.symm⟩) fun e => by cases e
        | succ s ih =>
          intro k I3 hs g1 g2 g3
          have hk : k < nTk cs := by omega
          have hk3 : k < 3 := by omega
          obtain ⟨tp, tn⟩ := ho.tk hk
          have hl := (hok k (by omega)).1
          have hm6 := (hv.1 (tkP cs k)).1
          have e13 : I3 228 13 = nI (nTk cs) := by rw [g1.2.1 13 (by decide) (by decide)]; exact q1
          have e226 : I3 235 k = nI (tkP cs k) := by rw [g1.1 235 (by decide) (by decide) (by decide)]; exact (q7 k hk).1
          have e234 : I3 243 k = nI (lF x k) := by rw [g1.1 243 (by decide) (by decide) (by decide)]; exact h234 k hk
          have := ih (k + 1) (azUp I3 244 (10 + 6 * tkP cs k + lF x k) (-(nI 1))) (by omega) (g1.up (Or.inr rfl)) (by rw [azUp_nb (by decide)]; exact g2) fun q hq => by
            obtain ⟨r1, r2⟩ := g3 q hq
            refine ⟨by rw [azUp_nk (by omega)]; exact r1, fun i hi => ⟨?_, ?_⟩⟩
            · rintro ⟨h, h1, h2, h3⟩
              by_cases e : h = k
              · subst e; rw [h2, h3, azUp_s]
              · by_cases e' : 10 + 6 * q + i = 10 + 6 * tkP cs k + lF x k
                · rw [e', azUp_s]
                · rw [azUp_nk e']; exact (r2 i hi).1 ⟨h, by omega, h2, h3⟩
            · intro hn
              have e' : 10 + 6 * q + i ≠ 10 + 6 * tkP cs k + lF x k := fun e => hn ⟨k, by omega, by omega, by omega⟩
              rw [azUp_nk e']
              exact (r2 i hi).2 fun ⟨h, h1, h2, h3⟩ => hn ⟨h, by omega, h2, h3⟩
          refine BX9_goes_77 hR ?_
          simp (disch := omega) only [nI_ad, nI_ml, nI_lti, nI_lei, nI_eqi, nI_nn, nI_0le, nI_eq0, nI_0lt, nI_le0, nI_clamp, nI_pd, nI_sb, zOf_some, zOp_some, zOp_none, kI_int, kL_long, kO_ref, kO_null, nlt_T, nlt_F, nle_T, nle_F, neq_F, vpT, azUp_at, if_true, if_false, true_and, and_true, true_implies, false_implies, implies_true, not_true_eq_false, not_false_eq_true, true_or, or_true, false_or, or_false, and_false, false_and, eq_self, n01_0, n01_1, nm1_0, k0, e13, f30, f14, f29, k226, k234, e226, e234]
          refine S_at9 hR ?_
          simp (disch := omega) only [nI_ad, nI_ml, nI_lti, nI_lei, nI_eqi, nI_nn, nI_0le, nI_eq0, nI_0lt, nI_le0, nI_clamp, nI_pd, nI_sb, zOf_some, zOp_some, zOp_none, kI_int, kL_long, kO_ref, kO_null, nlt_T, nlt_F, nle_T, nle_F, neq_F, vpT, azUp_at, if_true, if_false, true_and, and_true, true_implies, false_implies, implies_true, not_true_eq_false, not_false_eq_true, true_or, or_true, false_or, or_false, and_false, false_and, eq_self, n01_0, n01_1, nm1_0, k235]
          exact this
      -- names
      have nam : ∀ (s k : Nat) (I3 : azI), s + k = nTk cs → frH I2 I3 → (∀ j, j < k → I3 240 (tkN cs j) = nmF cs m (lF x) (tkN cs j)) → R (d + 25) mX9_goes 21 [.ref 228, .int (nI p), .ref b, .int (nI k), .retAddr 0] [] ((n, z, kd), I3, J, F) Q := by
        intro s
        induction s with
        | zero =>
          intro k I3 hs g1 g2
          obtain rfl : k = nTk cs := by omega
          have e13 : I3 228 13 = nI (nTk cs) := by rw [g1.2.1 13 (by decide) (by decide)]; exact q1
          have eb3 : I3 b = I b := by rw [g1.1 b hb (by omega) (by omega), eb2]
          refine BX9_goes_21 hR ?_
          simp (disch := omega) only [nI_ad, nI_ml, nI_lti, nI_lei, nI_eqi, nI_nn, nI_0le, nI_eq0, nI_0lt, nI_le0, nI_clamp, nI_pd, nI_sb, zOf_some, zOp_some, zOp_none, kI_int, kL_long, kO_ref, kO_null, nlt_T, nlt_F, nle_T, nle_F, neq_F, vpT, azUp_at, if_true, if_false, true_and, and_true, true_implies, false_implies, implies_true, not_true_eq_false, not_false_eq_true, true_or, or_true, false_or, or_false, and_false, false_and, eq_self, n01_0, n01_1, nm1_0, k0, e13, f30]
          refine S_pours9 hR (by omega) kb10 k235 (by decide) (by decide) (by decide) (by decide) fun I4 p1 p2 p3 => ⟨rfl, ?_⟩
          refine mk (nTk cs) 0 I4 (by omega) (g1.of fun c _ c2 => p1 c c2) (by rw [p1 240 (by decide)]; exact g2) fun q hq => ?_
          have r1 := p2 q (by omega)
          rw [Nat.zero_add] at r1
          obtain ⟨m1, m2⟩ := hm q hq
          refine ⟨by rw [r1, eb3]; exact m1, fun i hi => ⟨fun ⟨h, h1, _⟩ => absurd h1 (Nat.not_lt_zero _), fun _ => ?_⟩⟩
          have r2 := p2 (10 + 6 * q + i) (by omega)
          rw [Nat.zero_add] at r2
          rw [r2, eb3]
          exact m2 i hi
        | succ s ih =>
          intro k I3 hs g1 g2
          have hk : k < nTk cs := by omega
          have hk3 : k < 3 := by omega
          obtain ⟨tp, tn⟩ := ho.tk hk
          have hl := (hok k (by omega)).1
          have hm6 := (hv.1 (tkP cs k)).1
          have e13 : I3 228 13 = nI (nTk cs) := by rw [g1.2.1 13 (by decide) (by decide)]; exact q1
          have e226 : I3 235 k = nI (tkP cs k) := by rw [g1.1 235 (by decide) (by decide) (by decide)]; exact (q7 k hk).1
          have e227 : I3 236 k = nI (tkN cs k) := by rw [g1.1 236 (by decide) (by decide) (by decide)]; exact (q7 k hk).2
          have e234 : I3 243 k = nI (lF x k) := by rw [g1.1 243 (by decide) (by decide) (by decide)]; exact h234 k hk
          have etk : I3 b (10 + 6 * tkP cs k + lF x k) = nI (tkV cs m (lF x) k) := by rw [g1.1 b hb (by omega) (by omega), eb2]; exact (hm _ tp).2 _ (by omega)
          have := ih (k + 1) (azUp I3 240 (tkN cs k) (nI (tkV cs m (lF x) k))) (by omega) (g1.up (Or.inl rfl)) fun j hj => by
            by_cases e : tkN cs j = tkN cs k
            · rw [e, azUp_s, hnm k hk]
            · rw [azUp_nk e]
              exact g2 j (by
                have : j ≠ k := fun e' => e (by rw [e'])
                omega)
          refine BX9_goes_21 hR ?_
          simp (disch := omega) only [nI_ad, nI_ml, nI_lti, nI_lei, nI_eqi, nI_nn, nI_0le, nI_eq0, nI_0lt, nI_le0, nI_clamp, nI_pd, nI_sb, zOf_some, zOp_some, zOp_none, kI_int, kL_long, kO_ref, kO_null, nlt_T, nlt_F, nle_T, nle_F, neq_F, vpT, azUp_at, if_true, if_false, true_and, and_true, true_implies, false_implies, implies_true, not_true_eq_false, not_false_eq_true, true_or, or_true, false_or, or_false, and_false, false_and, eq_self, n01_0, n01_1, nm1_0, k0, e13, f23, f15, f14, f29, k227, k226, k234, e226, e227, e234]
          refine S_at9 hR ?_
          simp (disch := omega) only [nI_ad, nI_ml, nI_lti, nI_lei, nI_eqi, nI_nn, nI_0le, nI_eq0, nI_0lt, nI_le0, nI_clamp, nI_pd, nI_sb, zOf_some, zOp_some, zOp_none, kI_int, kL_long, kO_ref, kO_null, nlt_T, nlt_F, nle_T, nle_F, neq_F, vpT, azUp_at, if_true, if_false, true_and, and_true, true_implies, false_implies, implies_true, not_true_eq_false, not_false_eq_true, true_or, or_true, false_or, or_false, and_false, false_and, eq_self, n01_0, n01_1, nm1_0, kb10, k231, etk]
          exact this
      simp (disch := omega) only [nI_ad, nI_ml, nI_lti, nI_lei, nI_eqi, nI_nn, nI_0le, nI_eq0, nI_0lt, nI_le0, nI_clamp, nI_pd, nI_sb, zOf_some, zOp_some, zOp_none, kI_int, kL_long, kO_ref, kO_null, nlt_T, nlt_F, nle_T, nle_F, neq_F, vpT, azUp_at, if_true, if_false, true_and, and_true, true_implies, false_implies, implies_true, not_true_eq_false, not_false_eq_true, true_or, or_true, false_or, or_false, and_false, false_and, eq_self, n01_0, n01_1, nm1_0]
      exact nam (nTk cs) 0 I2 (by omega) (frH.refl u2) fun j hj => absurd hj (Nat.not_lt_zero _)
end S9
