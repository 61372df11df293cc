/-! THE REFERENCE: conditions. -/
def kSub (kb kb' : Nat) : Prop := ∀ w, kb.testBit w = true → kb'.testBit w = true
theorem kSub.refl {kb : Nat} : kSub kb kb := fun _ h => h
theorem kSub.trans {a b c : Nat} (h1 : kSub a b) (h2 : kSub b c) : kSub a c := fun w h => h2 w (h1 w h)
/-- where conditions begin -/
def cdM (I : azI) (t : List Nat) (kb : Nat) (L : List Ex) : Prop := ∀ k, k < L.length → ∃ pos kb' x, I 239 k = nI pos ∧ pos ≤ t.length ∧ kSub kb' kb ∧ pC kb' t pos = .ok x ∧ x.1 = L.getD k (.leaf 0)
theorem cdM.keep {I I' : azI} {t : List Nat} {kb kb' : Nat} {L : List Ex} (h : cdM I t kb L) (hf : I' 239 = I 239) (hk : kSub kb kb') : cdM I' t kb' L := fun k hk' => by
  obtain ⟨pos, k1, x, h1, h2, h3, h4, h5⟩ := h k hk'
  exact ⟨pos, k1, x, by rw [hf]; exact h1, h2, h3.trans hk, h4, h5⟩
def frC (I I' : azI) : Prop := (∀ c, c ≠ 228 → c ≠ 239 → I' c = I c) ∧ ∀ j, j ≠ 11 → j ≠ 12 → j ≠ 19 → I' 228 j = I 228 j
theorem frC.refl {I : azI} : frC I I := ⟨fun _ _ _ => rfl, fun _ _ _ _ => rfl⟩
theorem frC.trans {I I1 I2 : azI} (h1 : frC I I1) (h2 : frC I1 I2) : frC I I2 := ⟨fun c a b => by rw [h2.1 c a b, h1.1 c a b], fun j a b c => by rw [h2.2 j a b c, h1.2 j a b c]⟩
theorem frC.of {I I' : azI} (h : frp I I') : frC I I' := ⟨fun c a _ => h.1 c a, fun j a b _ => h.2 j a b⟩
theorem frC.txt {I I' : azI} {t : List Nat} (h : frC I I') (ht : txt I t) : txt I' t := ⟨by rw [h.2 10 (by decide) (by decide) (by decide)]; exact ht.1, by rw [h.1 234 (by decide) (by decide)]; exact ht.2⟩
section S9
variable {R : azP} {d n z : Nat} {kd : azK} {I : azI} {J : azJ} {F : azR} {Q : azQ} {t : List Nat} {kb : Nat}
def cdP (I : azI) (t : List Nat) (kb : Nat) (C : List Ex) (S : azI → azS) (Q : azQ) : PR (List Ex) → Prop
  | .ok x => ∀ I', frC I I' → I' 228 11 = nI x.2 → I' 228 12 = -(nI 1) → cdM I' t kb (C ++ x.1) → I' 228 19 = nI (C ++ x.1).length → Q none (S I')
  | .error f => ∀ I' j, frC I I' → I' 228 12 = nI f → I' 228 11 = nI j → j ≤ 80 → Q none (S I')
theorem S_conds9 (hR : azClosed R) (hK : MdOk kd F) (htk : tOK t) (hkb : kb < 8) {C : List Ex} {i : Nat} (hc : cu I t kb 5 i) (hi : i ≤ t.length) (hi1 : 1 ≤ i) (hcd : cdM I t kb C) (h19 : I 228 19 = nI C.length) (h4 : 4 * C.length ≤ i) (hP : cdP I t kb C (fun I' => ((n, z, kd), I', J, F)) Q (pCs kb t 79 [] i)) : R (d + 21) mX9_conditionClause 0 [.ref 228, .retAddr 0] [] ((n, z, kd), I, J, F) Q := by
  have ⟨k0, ⟨k220, k221, k222, k223, k224, k225, k226, k227, k228, k229, k230, k231⟩, _, ⟨f0, f1, f2, f3, f7, f9, f14, f15, f17, f18, f20, f23⟩, _⟩ := hK
  have ht := htk.1
  have hng := m1_ng
  have n10 : ¬ (nI 1 = 0) := by decide
  -- no more
  have done : ∀ (I1 : azI) (x1 : Int32), (∃ v : Nat, I1 228 11 = nI v) → Q none ((n, z, kd), I1, J, F) → R (d + 21) mX9_conditionClause 61 [.ref 228, .int x1] [] ((n, z, kd), I1, J, F) Q := by
    rintro I1 x1 ⟨v, hv⟩ hq
    have e : azUp I1 228 11 (nI v) = I1 := by rw [← hv]; exact azUp_id
    refine BX9_conditionClause_61 hR ?_
    simp (disch := omega) only [nI_ad, nI_ml, nI_lti, nI_lei, nI_eqi, nI_nn, nI_0le, nI_eq0, nI_0lt, nI_le0, nI_clamp, nI_pd, nI_sb, zOf_some, zOp_some, zOp_none, kI_int, kL_long, kO_ref, kO_null, nlt_T, nlt_F, nle_T, nle_F, neq_F, vpT, azUp_at, if_true, if_false, true_and, and_true, true_implies, false_implies, implies_true, not_true_eq_false, not_false_eq_true, true_or, or_true, false_or, or_false, and_false, false_and, eq_self, n01_0, n01_1, nm1_0, k0, hv, Nat.add_zero, e]
    refine BX9_conditionClause_2 hR ?_
    simp (disch := omega) only [nI_ad, nI_ml, nI_lti, nI_lei, nI_eqi, nI_nn, nI_0le, nI_eq0, nI_0lt, nI_le0, nI_clamp, nI_pd, nI_sb, zOf_some, zOp_some, zOp_none, kI_int, kL_long, kO_ref, kO_null, nlt_T, nlt_F, nle_T, nle_F, neq_F, vpT, azUp_at, if_true, if_false, true_and, and_true, true_implies, false_implies, implies_true, not_true_eq_false, not_false_eq_true, true_or, or_true, false_or, or_false, and_false, false_and, eq_self, n01_0, n01_1, nm1_0]
    exact hq
  have main : ∀ (m : Nat) (l : List Ex) (j : Nat) (I1 : azI), t.length ≤ m + j → frC I I1 → I1 228 11 = nI j → I1 228 12 = -(nI 1) → j ≤ t.length → cdM I1 t kb (C ++ l) → I1 228 19 = nI (C ++ l).length → 4 * (C ++ l).length ≤ j → cdP I t kb C (fun I' => ((n, z, kd), I', J, F)) Q (pCs kb t m l j) → R (d + 21) mX9_conditionClause 2 [.ref 228, .int (nI 1)] [] ((n, z, kd), I1, J, F) Q := by
    intro m
    induction m with
    | zero =>
      intro l j I1 hm hfr e11 e12 hj hd e19 h4 hP
      -- nothing is left to read
      have hx1 := hfr.txt hc.1
      refine BX9_conditionClause_2 hR ?_
      have n40 : (C ++ l).length < 40 := by omega
      simp (disch := omega) only [nI_ad, nI_ml, nI_lti, nI_lei, nI_eqi, nI_nn, nI_0le, nI_eq0, nI_0lt, nI_le0, nI_clamp, nI_pd, nI_sb, zOf_some, zOp_some, zOp_none, kI_int, kL_long, kO_ref, kO_null, nlt_T, nlt_F, nle_T, nle_F, neq_F, vpT, azUp_at, if_true, if_false, true_and, and_true, true_implies, false_implies, implies_true, not_true_eq_false, not_false_eq_true, true_or, or_true, false_or, or_false, and_false, false_and, eq_self, n01_0, n01_1, nm1_0, n10, k0, e12, hng, f20, k230, e19, e11, @azUp_nb _ 239 228]
      have hfr1 : frC I (azUp (azUp I1 239 (C ++ l).length (nI j)) 228 19 (nI ((C ++ l).length + 1))) := hfr.trans ⟨fun c c1 c2 => by rw [azUp_nb c1, azUp_nb c2], fun q q1 q2 q3 => by rw [azUp_nk q3, azUp_nb (by decide)]⟩
      have hc1 : cu (azUp (azUp I1 239 (C ++ l).length (nI j)) 228 19 (nI ((C ++ l).length + 1))) t kb 5 j := ⟨hfr1.txt hc.1, by rw [azUp_nk (by decide), azUp_nb (by decide)]; exact e11, by rw [azUp_nk (by decide), azUp_nb (by decide)]; exact e12, by rw [hfr1.2 24 (by decide) (by decide) (by decide)]; exact hc.2.2.2.1, by rw [hfr1.2 25 (by decide) (by decide) (by decide)]; exact hc.2.2.2.2⟩
      refine S_compares9 hR hK htk hkb hc1 hj ?_
      have e0 : pC kb t j = .error j := by
        unfold pC pX pE pT
        rw [pF_0 (by omega)]
        rfl
      rw [e0]
      intro I2 v j' g1 g2 g3 g4
      rw [kI_int]
      simp (disch := omega) only [nI_ad, nI_ml, nI_lti, nI_lei, nI_eqi, nI_nn, nI_0le, nI_eq0, nI_0lt, nI_le0, nI_clamp, nI_pd, nI_sb, zOf_some, zOp_some, zOp_none, kI_int, kL_long, kO_ref, kO_null, nlt_T, nlt_F, nle_T, nle_F, neq_F, vpT, azUp_at, if_true, if_false, true_and, and_true, true_implies, false_implies, implies_true, not_true_eq_false, not_false_eq_true, true_or, or_true, false_or, or_false, and_false, false_and, eq_self, n01_0, n01_1, nm1_0, k0, g2]
      exact done I2 _ ⟨j', g3⟩ (hP I2 j' (hfr1.trans (frC.of g1)) g2 g3 g4)
    | succ m ih =>
      intro l j I1 hm hfr e11 e12 hj hd e19 h4 hP
      have e1 : pCs kb t (m + 1) l j = pb (pC kb t j) fun x => if tb t x.2 = 38 then pCs kb t m (l ++ [x.1]) (x.2 + 1) else .ok (l ++ [x.1], x.2) := rfl
      rw [e1] at hP
      have n40 : (C ++ l).length < 40 := by omega
      refine BX9_conditionClause_2 hR ?_
      simp (disch := omega) only [nI_ad, nI_ml, nI_lti, nI_lei, nI_eqi, nI_nn, nI_0le, nI_eq0, nI_0lt, nI_le0, nI_clamp, nI_pd, nI_sb, zOf_some, zOp_some, zOp_none, kI_int, kL_long, kO_ref, kO_null, nlt_T, nlt_F, nle_T, nle_F, neq_F, vpT, azUp_at, if_true, if_false, true_and, and_true, true_implies, false_implies, implies_true, not_true_eq_false, not_false_eq_true, true_or, or_true, false_or, or_false, and_false, false_and, eq_self, n01_0, n01_1, nm1_0, n10, k0, e12, hng, f20, k230, e19, e11, @azUp_nb _ 239 228]
      have hfr1 : frC I (azUp (azUp I1 239 (C ++ l).length (nI j)) 228 19 (nI ((C ++ l).length + 1))) := hfr.trans ⟨fun c c1 c2 => by rw [azUp_nb c1, azUp_nb c2], fun q q1 q2 q3 => by rw [azUp_nk q3, azUp_nb (by decide)]⟩
      have hc1 : cu (azUp (azUp I1 239 (C ++ l).length (nI j)) 228 19 (nI ((C ++ l).length + 1))) t kb 5 j := ⟨hfr1.txt hc.1, by rw [azUp_nk (by decide), azUp_nb (by decide)]; exact e11, by rw [azUp_nk (by decide), azUp_nb (by decide)]; exact e12, by rw [hfr1.2 24 (by decide) (by decide) (by decide)]; exact hc.2.2.2.1, by rw [hfr1.2 25 (by decide) (by decide) (by decide)]; exact hc.2.2.2.2⟩
      refine S_compares9 hR hK htk hkb hc1 hj ?_
      have g3 := fun x => pC_3 (kb := kb) (t := t) hj (x := x)
      have gg := PG_C (kb := kb) (t := t) j hj
      revert hP g3 gg
      cases hpc : pC kb t j with
      | error f =>
        intro hP _ gg I2 v j' g1 g2 g3 g4
        have hP : ∀ I' j, frC I I' → I' 228 12 = nI f → I' 228 11 = nI j → j ≤ 80 → Q none ((n, z, kd), I', J, F) := hP
        have hf' := gg.2
        rw [kI_int]
        simp (disch := omega) only [nI_ad, nI_ml, nI_lti, nI_lei, nI_eqi, nI_nn, nI_0le, nI_eq0, nI_0lt, nI_le0, nI_clamp, nI_pd, nI_sb, zOf_some, zOp_some, zOp_none, kI_int, kL_long, kO_ref, kO_null, nlt_T, nlt_F, nle_T, nle_F, neq_F, vpT, azUp_at, if_true, if_false, true_and, and_true, true_implies, false_implies, implies_true, not_true_eq_false, not_false_eq_true, true_or, or_true, false_or, or_false, and_false, false_and, eq_self, n01_0, n01_1, nm1_0, k0, g2]
        exact done I2 _ ⟨j', g3⟩ (hP I2 j' (hfr1.trans (frC.of g1)) g2 g3 g4)
      | ok x =>
        intro hP g3 gg I2 g1 g2 g4
        have g3 := g3 x rfl
        have gl := gg.2.1
        rw [pb_ok] at hP
        have hfr2 := hfr1.trans (frC.of g1)
        have hb := tb_lt htk (i := x.2)
        have hL : (C ++ (l ++ [x.1])).length = (C ++ l).length + 1 := by simp only [List.length_append, List.length_cons, List.length_nil]; omega
        have e230 : I2 239 = azUp I1 239 (C ++ l).length (nI j) 239 := by rw [g1.1 239 (by decide), azUp_nb (by decide)]
        have hd2 : cdM I2 t kb (C ++ (l ++ [x.1])) := by
          intro k hk
          rw [hL] at hk
          by_cases ek : k = (C ++ l).length
          · refine ⟨j, kb, x, by rw [e230, ek, azUp_s], hj, kSub.refl, hpc, ?_⟩
            rw [ek, ← List.append_assoc, getD_app_eq]
          · obtain ⟨pos, kb', y, q1, q2, q3, q4, q5⟩ := hd k (by omega)
            refine ⟨pos, kb', y, by rw [e230, azUp_nk ek]; exact q1, q2, q3, q4, ?_⟩
            rw [← List.append_assoc, getD_app_lt (by omega)]
            exact q5
        have e19' : I2 228 19 = nI (C ++ (l ++ [x.1])).length := by rw [g1.2 19 (by decide) (by decide), azUp_s, hL]
        rw [kI_int]
        simp (disch := omega) only [nI_ad, nI_ml, nI_lti, nI_lei, nI_eqi, nI_nn, nI_0le, nI_eq0, nI_0lt, nI_le0, nI_clamp, nI_pd, nI_sb, zOf_some, zOp_some, zOp_none, kI_int, kL_long, kO_ref, kO_null, nlt_T, nlt_F, nle_T, nle_F, neq_F, vpT, azUp_at, if_true, if_false, true_and, and_true, true_implies, false_implies, implies_true, not_true_eq_false, not_false_eq_true, true_or, or_true, false_or, or_false, and_false, false_and, eq_self, n01_0, n01_1, nm1_0, k0, g4, hng]
        refine S_peek9 hR hK ht (hfr2.txt hc.1) g2 (by omega) ?_
        by_cases c : tb t x.2 = 38
        · rw [if_pos c] at hP
          have hjl := tb_len (t := t) (i := x.2) (by omega)
          simp (disch := omega) only [nI_ad, nI_ml, nI_lti, nI_lei, nI_eqi, nI_nn, nI_0le, nI_eq0, nI_0lt, nI_le0, nI_clamp, nI_pd, nI_sb, zOf_some, zOp_some, zOp_none, kI_int, kL_long, kO_ref, kO_null, nlt_T, nlt_F, nle_T, nle_F, neq_F, vpT, azUp_at, if_true, if_false, true_and, and_true, true_implies, false_implies, implies_true, not_true_eq_false, not_false_eq_true, true_or, or_true, false_or, or_false, and_false, false_and, eq_self, n01_0, n01_1, nm1_0, c, k0, n10, g2]
          refine ih (l ++ [x.1]) (x.2 + 1) _ (by omega) (hfr2.trans (frC.of frp.refl.up11)) azUp_s (by rw [azUp_nk (by decide)]; exact g4) hjl (hd2.keep (azUp_nb (by decide)) kSub.refl) (by rw [azUp_nk (by decide)]; exact e19') (by rw [hL]; omega) hP
        · rw [if_neg c] at hP
          simp (disch := omega) only [nI_ad, nI_ml, nI_lti, nI_lei, nI_eqi, nI_nn, nI_0le, nI_eq0, nI_0lt, nI_le0, nI_clamp, nI_pd, nI_sb, zOf_some, zOp_some, zOp_none, kI_int, kL_long, kO_ref, kO_null, nlt_T, nlt_F, nle_T, nle_F, neq_F, vpT, azUp_at, if_true, if_false, true_and, and_true, true_implies, false_implies, implies_true, not_true_eq_false, not_false_eq_true, true_or, or_true, false_or, or_false, and_false, false_and, eq_self, n01_0, n01_1, nm1_0, c]
          exact done I2 _ ⟨_, g2⟩ (hP I2 hfr2 g2 g4 hd2 e19')
  refine BX9_conditionClause_0 hR ?_
  exact main 79 [] i I (by omega) frC.refl hc.2.1 hc.2.2.1 hi (by rw [List.append_nil]; exact hcd) (by rw [List.append_nil]; exact h19) (by rw [List.append_nil]; exact h4) hP
end S9
