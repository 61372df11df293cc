/-! THE REFERENCE: put, take, token, feed, clear. -/
section S9
variable {R : azP} {d n z : Nat} {kd : azK} {I : azI} {J : azJ} {F : azR} {Q : azQ} {st : St} {σ : azS}
theorem S_at9 (hR : azClosed R) {p j : Nat} (h : Q (some (.int (nI (10 + 6 * p + j)))) σ) : R d mX9_at 0 [.int (nI p), .int (nI j)] [] σ Q := by
  obtain ⟨⟨n, z, kd⟩, I, J, F⟩ := σ
  refine BX9_at_0 hR ?_
  rw [nI_ml, nI_ad, nI_ad]
  exact h
theorem S_removes9 (hR : azClosed R) {a p i : Nat} (ka : kd a = (10, 70)) (hp : p < 10) (hi : i < 6) (h : ∀ I', (∀ c, c ≠ a → I' c = I c) → (∀ q, I' a q = if q = p then I a p - nI 1 else if 10 + 6 * p + i ≤ q ∧ q < 10 + 6 * p + 5 then I a (q + 1) else if q = 10 + 6 * p + 5 then nI 0 else I a q) → Q none ((n, z, kd), I', J, F)) : R (d + 1) mX9_removes 0 [.ref a, .int (nI p), .int (nI i), .retAddr 0] [] ((n, z, kd), I, J, F) Q := by
  have main : ∀ s k (I1 : azI), s + k = 5 → i ≤ k → (∀ c, c ≠ a → I1 c = I c) → (∀ q, I1 a q = if 10 + 6 * p + i ≤ q ∧ q < 10 + 6 * p + k then I a (q + 1) else I a q) → R (d + 1) mX9_removes 2 [.ref a, .int (nI p), .int (nI i), .int (nI k)] [] ((n, z, kd), I1, J, F) Q := by
    intro s
    induction s with
    | zero =>
      intro k I1 hs hk g1 g2
      obtain rfl : k = 5 := by omega
      refine BX9_removes_2 hR ?_
      simp (disch := omega) only [nI_ad, nI_ml, nI_lti, nI_lei, nI_eqi, nI_nn, nI_0le, nI_eq0, nI_0lt, nI_le0, nI_clamp, nI_pd, nI_sb, zOf_some, zOp_some, zOp_none, kI_int, kL_long, kO_ref, kO_null, nlt_T, nlt_F, nle_T, nle_F, neq_F, vpT, azUp_at, if_true, if_false, true_and, and_true, true_implies, false_implies, implies_true, not_true_eq_false, not_false_eq_true, true_or, or_true, false_or, or_false, and_false, false_and, eq_self, n01_0, n01_1, nm1_0]
      refine S_at9 hR ?_
      have e : azUp I1 a (10 + 6 * p + 5) (nI 0) a p = I a p := by rw [azUp_nk (by omega), g2 p, if_neg (by omega)]
      simp (disch := omega) only [nI_ad, nI_ml, nI_lti, nI_lei, nI_eqi, nI_nn, nI_0le, nI_eq0, nI_0lt, nI_le0, nI_clamp, nI_pd, nI_sb, zOf_some, zOp_some, zOp_none, kI_int, kL_long, kO_ref, kO_null, nlt_T, nlt_F, nle_T, nle_F, neq_F, vpT, azUp_at, if_true, if_false, true_and, and_true, true_implies, false_implies, implies_true, not_true_eq_false, not_false_eq_true, true_or, or_true, false_or, or_false, and_false, false_and, eq_self, n01_0, n01_1, nm1_0, ka]
      refine h _ (fun c hc => by rw [azUp_nb hc, azUp_nb hc, g1 c hc]) fun q => ?_
      by_cases e1 : q = p
      · rw [e1, azUp_s, if_pos rfl]
        rw [g2 p, if_neg (by omega)]
      · rw [azUp_nk e1, if_neg e1]
        by_cases e2 : q = 10 + 6 * p + 5
        · rw [e2, azUp_s, if_neg (by omega), if_pos rfl]
        · rw [azUp_nk e2, g2 q]
          by_cases e3 : 10 + 6 * p + i ≤ q ∧ q < 10 + 6 * p + 5
          · rw [if_pos e3, if_pos e3]
          · rw [if_neg e3, if_neg e3, if_neg e2]
    | succ s ih =>
      intro k I1 hs hk g1 g2
      refine BX9_removes_2 hR ?_
      simp (disch := omega) only [nI_ad, nI_ml, nI_lti, nI_lei, nI_eqi, nI_nn, nI_0le, nI_eq0, nI_0lt, nI_le0, nI_clamp, nI_pd, nI_sb, zOf_some, zOp_some, zOp_none, kI_int, kL_long, kO_ref, kO_null, nlt_T, nlt_F, nle_T, nle_F, neq_F, vpT, azUp_at, if_true, if_false, true_and, and_true, true_implies, false_implies, implies_true, not_true_eq_false, not_false_eq_true, true_or, or_true, false_or, or_false, and_false, false_and, eq_self, n01_0, n01_1, nm1_0]
      refine S_at9 hR ?_
      simp (disch := omega) only [nI_ad, nI_ml, nI_lti, nI_lei, nI_eqi, nI_nn, nI_0le, nI_eq0, nI_0lt, nI_le0, nI_clamp, nI_pd, nI_sb, zOf_some, zOp_some, zOp_none, kI_int, kL_long, kO_ref, kO_null, nlt_T, nlt_F, nle_T, nle_F, neq_F, vpT, azUp_at, if_true, if_false, true_and, and_true, true_implies, false_implies, implies_true, not_true_eq_false, not_false_eq_true, true_or, or_true, false_or, or_false, and_false, false_and, eq_self, n01_0, n01_1, nm1_0]
      refine S_at9 hR ?_
      simp (disch := omega) only [nI_ad, nI_ml, nI_lti, nI_lei, nI_eqi, nI_nn, nI_0le, nI_eq0, nI_0lt, nI_le0, nI_clamp, nI_pd, nI_sb, zOf_some, zOp_some, zOp_none, kI_int, kL_long, kO_ref, kO_null, nlt_T, nlt_F, nle_T, nle_F, neq_F, vpT, azUp_at, if_true, if_false, true_and, and_true, true_implies, false_implies, implies_true, not_true_eq_false, not_false_eq_true, true_or, or_true, false_or, or_false, and_false, false_and, eq_self, n01_0, n01_1, nm1_0, ka]
      refine ih (k + 1) _ (by omega) (by omega) (fun c hc => by rw [azUp_nb hc, g1 c hc]) fun q => ?_
      by_cases e1 : q = 10 + 6 * p + k
      · rw [e1, azUp_s, if_pos (by omega), g2, if_neg (by omega)]
        rfl
      · rw [azUp_nk e1, g2 q]
        by_cases e3 : 10 + 6 * p + i ≤ q ∧ q < 10 + 6 * p + k
        · rw [if_pos e3, if_pos (by omega)]
        · rw [if_neg e3, if_neg (by omega)]
  by_cases c : i ≤ 5
  · exact BX9_removes_0 hR (main (5 - i) i I (by omega) (Nat.le_refl _) (fun _ _ => rfl) fun q => by rw [if_neg (by omega)])
  · omega
theorem cD.erase {f g : Nat → Int32} {m : Mk} (h : cD f m) (hv : mOK m) {p i : Nat} (hp : p < 10) (hi : i < (m p).length) (hg : ∀ q, g q = if q = p then f p - nI 1 else if 10 + 6 * p + i ≤ q ∧ q < 10 + 6 * p + 5 then f (q + 1) else if q = 10 + 6 * p + 5 then nI 0 else f q) : cD g (mUp m p ((m p).eraseIdx i)) := by
  have hl := (hv.1 p).1
  intro q hq
  unfold mUp
  by_cases e : q = p
  · subst e
    rw [if_pos rfl, hg, if_pos rfl, (h q hq).1, nI_sb (by omega), List.length_eraseIdx, if_pos hi]
    refine ⟨rfl, fun j hj => ?_⟩
    rw [hg, if_neg (by omega)]
    have ge : ((m q).eraseIdx i).getD j 0 = if j < i then (m q).getD j 0 else (m q).getD (j + 1) 0 := by
      simp only [List.getD_eq_getElem?_getD]
      by_cases c : j < i
      · rw [if_pos c, List.getElem?_eraseIdx_of_lt c]
      · rw [if_neg c, List.getElem?_eraseIdx_of_ge (by omega)]
    rw [ge]
    by_cases c1 : j < i
    · rw [if_pos c1, if_neg (by omega), if_neg (by omega), (h q hq).2 j hj]
    · rw [if_neg c1]
      by_cases c2 : j < 5
      · rw [if_pos (by omega)]
        have := (h q hq).2 (j + 1) (by omega)
        rw [← Nat.add_assoc] at this
        exact this
      · obtain rfl : j = 5 := by omega
        rw [if_neg (by omega), if_pos rfl]
        simp only [List.getD_eq_getElem?_getD]
        rw [List.getElem?_eq_none (by omega)]
        rfl
  · rw [if_neg e]
    refine ⟨by rw [hg, if_neg e, if_neg (by omega), if_neg (by omega)]; exact (h q hq).1, fun j hj => ?_⟩
    rw [hg, if_neg (by omega), if_neg (by omega), if_neg (by omega)]
    exact (h q hq).2 j hj
theorem cD.add {f g : Nat → Int32} {m : Mk} (h : cD f m) {p t : Nat} (hp : p < 10) (hl : (m p).length < 6) (hg : ∀ q, g q = if q = p then nI ((m p).length + 1) else if q = 10 + 6 * p + (m p).length then nI t else f q) : cD g (mUp m p (m p ++ [t])) := by
  intro q hq
  unfold mUp
  by_cases e : q = p
  · subst e
    rw [if_pos rfl, hg, if_pos rfl, List.length_append]
    refine ⟨rfl, fun j hj => ?_⟩
    rw [hg, if_neg (by omega)]
    by_cases c : j = (m q).length
    · rw [if_pos (by rw [c]), c, getD_app_eq]
    · rw [if_neg (by omega), (h q hq).2 j hj]
      by_cases c2 : j < (m q).length
      · rw [getD_app_lt c2]
      · congr 1
        simp only [List.getD_eq_getElem?_getD]
        rw [List.getElem?_eq_none (by omega), List.getElem?_eq_none (by rw [List.length_append, List.length_cons, List.length_nil]; omega)]
  · rw [if_neg e]
    refine ⟨by rw [hg, if_neg e, if_neg (by omega)]; exact (h q hq).1, fun j hj => ?_⟩
    rw [hg, if_neg (by omega)]
    by_cases c : 10 + 6 * q + j = 10 + 6 * p + (m p).length
    · omega
    · rw [if_neg c]; exact (h q hq).2 j hj
theorem S_adds9 (hR : azClosed R) {a p t : Nat} {m : Mk} (ka : kd a = (10, 70)) (hp : p < 10) (hv : mOK m) (hm : cD (I a) m) (h0 : (m p).length = 6 → Q (some (.int (nI 0))) ((n, z, kd), I, J, F)) (h1 : (m p).length < 6 → ∀ I', (∀ c, c ≠ a → I' c = I c) → cD (I' a) (mUp m p (m p ++ [t])) → Q (some (.int (nI 1))) ((n, z, kd), I', J, F)) : R (d + 1) mX9_adds 0 [.ref a, .int (nI p), .int (nI t)] [] ((n, z, kd), I, J, F) Q := by
  have hl := (hv.1 p).1
  refine BX9_adds_0 hR ?_
  by_cases c : (m p).length < 6
  · have e0 : azUp I a (10 + 6 * p + (m p).length) (nI t) a p = nI (m p).length := by rw [azUp_nk (by omega)]; exact (hm p hp).1
    simp (disch := omega) only [nI_ad, nI_ml, nI_lti, nI_lei, nI_eqi, nI_nn, nI_0le, nI_eq0, nI_0lt, nI_le0, nI_clamp, nI_pd, nI_sb, zOf_some, zOp_some, zOp_none, kI_int, kL_long, kO_ref, kO_null, nlt_T, nlt_F, nle_T, nle_F, neq_F, vpT, azUp_at, if_true, if_false, true_and, and_true, true_implies, false_implies, implies_true, not_true_eq_false, not_false_eq_true, true_or, or_true, false_or, or_false, and_false, false_and, eq_self, n01_0, n01_1, nm1_0, ka, (hm p hp).1]
    refine S_at9 hR ?_
    simp (disch := omega) only [nI_ad, nI_ml, nI_lti, nI_lei, nI_eqi, nI_nn, nI_0le, nI_eq0, nI_0lt, nI_le0, nI_clamp, nI_pd, nI_sb, zOf_some, zOp_some, zOp_none, kI_int, kL_long, kO_ref, kO_null, nlt_T, nlt_F, nle_T, nle_F, neq_F, vpT, azUp_at, if_true, if_false, true_and, and_true, true_implies, false_implies, implies_true, not_true_eq_false, not_false_eq_true, true_or, or_true, false_or, or_false, and_false, false_and, eq_self, n01_0, n01_1, nm1_0, ka, (hm p hp).1]
    refine h1 c _ (fun c hc => by rw [azUp_nb hc, azUp_nb hc]) (hm.add hp c fun q => ?_)
    by_cases e1 : q = p
    · rw [e1, azUp_s, if_pos rfl]
    · rw [azUp_nk e1, if_neg e1]
      by_cases e2 : q = 10 + 6 * p + (m p).length
      · rw [if_pos e2, e2, azUp_s]
      · rw [if_neg e2, azUp_nk e2]
  · have c6 : (m p).length = 6 := by omega
    simp (disch := omega) only [nI_ad, nI_ml, nI_lti, nI_lei, nI_eqi, nI_nn, nI_0le, nI_eq0, nI_0lt, nI_le0, nI_clamp, nI_pd, nI_sb, zOf_some, zOp_some, zOp_none, kI_int, kL_long, kO_ref, kO_null, nlt_T, nlt_F, nle_T, nle_F, neq_F, vpT, azUp_at, if_true, if_false, true_and, and_true, true_implies, false_implies, implies_true, not_true_eq_false, not_false_eq_true, true_or, or_true, false_or, or_false, and_false, false_and, eq_self, n01_0, n01_1, nm1_0, ka, (hm p hp).1, c6]
    exact h0 c6
theorem mdF.refl {σ : azS} : mdF σ σ := ⟨rfl, rfl, fun _ _ => ⟨rfl, rfl⟩⟩
/-- another marking -/
theorem cMd.mark {I' : azI} (h : cMd I st) (hf : ∀ b, b ≠ 228 → (b < 229 ∨ (229 < b ∧ b < 234) ∨ b = 241 ∨ 255 < b) → I' b = I b) (hj : ∀ j, j ≠ 4 → (j ≤ 8 ∨ j = 27) → I' 228 j = I 228 j) {w : Nat} (h4 : I' 228 4 = nI w) {m : Mk} (hm : cD (I' 229) m) : cMd I' (m, st.2.1, st.2.2.1, st.2.2.2.1, w, st.2.2.2.2.2) := by
  obtain ⟨h1, h2, h3, h4', h5, h6, h7⟩ := h
  refine ⟨hm, by rw [hf 231 (by omega) (by omega)]; exact h2, by rw [hj 8 (by omega) (by omega), hf 233 (by omega) (by omega)]; exact h3, by rw [hj 27 (by omega) (by omega), hf 241 (by omega) (by omega)]; exact h4', h4, fun e => by rw [hj 6 (by omega) (by omega)]; exact h6 e, fun m ru w e => by rw [hj 6 (by omega) (by omega), hf 230 (by omega) (by omega), hf 232 (by omega) (by omega), hj 5 (by omega) (by omega)]; exact h7 m ru w e⟩
theorem len_sub (k : Nat) (hk : k < 100) : (nI k - nI 1).toInt64.toInt = (k : Int) - 1 := by
  rw [Int32.toInt_toInt64, Int32.toInt_sub, nI_toInt (by omega), nI_toInt (by decide)]
  apply Int.bmod_eq_of_le <;> omega
theorem MW.mk {n z : Nat} {kd : azK} {I : azI} {J : azJ} {F : azR} (hK : MdOk kd F) (hC : cMd I st) (hS : stOK st) : MW ((n, z, kd), I, J, F) st := ⟨hK, hC, hS⟩
theorem mdF_I {I' : azI} {J' : azJ} (h : ∀ b, b < 228 ∨ 255 < b → I' b = I b) (hj : ∀ b, b < 228 ∨ 255 < b → J' b = J b) : mdF ((n, z, kd), I, J, F) ((n, z, kd), I', J', F) := ⟨rfl, rfl, fun b hb => ⟨h b hb, hj b hb⟩⟩
theorem S_mdPut (hR : azClosed R) (hW : MW σ st) {x y : Int32} (h : ∀ σ', MW σ' (aPut st x y).2 → mdF σ σ' → Q (some (.int (aPut st x y).1)) σ') : R (d + 3) mX9_put 0 [.ref 228, .int x, .int y] [] σ Q := by
  obtain ⟨⟨n, z, kd⟩, I, J, F⟩ := σ
  obtain ⟨hK, hC, hS⟩ := id hW
  have hK : MdOk kd F := hK
  have hC : cMd I st := hC
  have ⟨k0, ⟨k220, k221, k222, k223, k224, k225, k226, k227, k228, k229, k230, k231⟩, _, ⟨f0, f1, f2, f3, f7, f9, f14, f15, f17, f18, f20, f23⟩, _⟩ := id hK
  have hv := hS.1
  refine BX9_put_0 hR (S_isPlace9 hR ?_)
  unfold isP
  unfold aPut at h
  rcases ix_cases x (n := 10) (by decide) with ⟨e, c⟩ | ⟨p, hp, rfl, e⟩
  · rw [e] at h ⊢
    simp (disch := omega) only [nI_ad, nI_ml, nI_lti, nI_lei, nI_eqi, nI_nn, nI_0le, nI_eq0, nI_0lt, nI_le0, nI_clamp, nI_pd, nI_sb, zOf_some, zOp_some, zOp_none, kI_int, kL_long, kO_ref, kO_null, nlt_T, nlt_F, nle_T, nle_F, neq_F, vpT, azUp_at, if_true, if_false, true_and, and_true, true_implies, false_implies, implies_true, not_true_eq_false, not_false_eq_true, true_or, or_true, false_or, or_false, and_false, false_and, eq_self, n01_0, n01_1, nm1_0]
    exact h _ hW mdF.refl
  rw [e] at h ⊢
  dsimp only at h
  simp (disch := omega) only [nI_ad, nI_ml, nI_lti, nI_lei, nI_eqi, nI_nn, nI_0le, nI_eq0, nI_0lt, nI_le0, nI_clamp, nI_pd, nI_sb, zOf_some, zOp_some, zOp_none, kI_int, kL_long, kO_ref, kO_null, nlt_T, nlt_F, nle_T, nle_F, neq_F, vpT, azUp_at, if_true, if_false, true_and, and_true, true_implies, false_implies, implies_true, not_true_eq_false, not_false_eq_true, true_or, or_true, false_or, or_false, and_false, false_and, eq_self, n01_0, n01_1, nm1_0]
  refine S_isInP9 hR (k := 100) (by decide) rfl rfl ?_
  unfold isP
  rcases ix_cases y (n := 100) (by decide) with ⟨e, c⟩ | ⟨t, ht, rfl, e⟩
  · rw [e] at h ⊢
    simp (disch := omega) only [nI_ad, nI_ml, nI_lti, nI_lei, nI_eqi, nI_nn, nI_0le, nI_eq0, nI_0lt, nI_le0, nI_clamp, nI_pd, nI_sb, zOf_some, zOp_some, zOp_none, kI_int, kL_long, kO_ref, kO_null, nlt_T, nlt_F, nle_T, nle_F, neq_F, vpT, azUp_at, if_true, if_false, true_and, and_true, true_implies, false_implies, implies_true, not_true_eq_false, not_false_eq_true, true_or, or_true, false_or, or_false, and_false, false_and, eq_self, n01_0, n01_1, nm1_0]
    exact h _ hW mdF.refl
  rw [e] at h ⊢
  dsimp only at h
  simp (disch := omega) only [nI_ad, nI_ml, nI_lti, nI_lei, nI_eqi, nI_nn, nI_0le, nI_eq0, nI_0lt, nI_le0, nI_clamp, nI_pd, nI_sb, zOf_some, zOp_some, zOp_none, kI_int, kL_long, kO_ref, kO_null, nlt_T, nlt_F, nle_T, nle_F, neq_F, vpT, azUp_at, if_true, if_false, true_and, and_true, true_implies, false_implies, implies_true, not_true_eq_false, not_false_eq_true, true_or, or_true, false_or, or_false, and_false, false_and, eq_self, n01_0, n01_1, nm1_0, k0, f0]
  refine S_adds9 hR k220 hp hv hC.1 (fun c => ?_) (fun c I1 g1 g2 => ?_)
  · rw [if_neg (by omega)] at h
    simp (disch := omega) only [nI_ad, nI_ml, nI_lti, nI_lei, nI_eqi, nI_nn, nI_0le, nI_eq0, nI_0lt, nI_le0, nI_clamp, nI_pd, nI_sb, zOf_some, zOp_some, zOp_none, kI_int, kL_long, kO_ref, kO_null, nlt_T, nlt_F, nle_T, nle_F, neq_F, vpT, azUp_at, if_true, if_false, true_and, and_true, true_implies, false_implies, implies_true, not_true_eq_false, not_false_eq_true, true_or, or_true, false_or, or_false, and_false, false_and, eq_self, n01_0, n01_1, nm1_0]
    exact h _ hW mdF.refl
  · rw [if_pos c] at h
    have el : (mUp st.1 p (st.1 p ++ [t]) p).length = (st.1 p).length + 1 := by simp [mUp]
    have e2 := (g2 p hp).1
    rw [el] at e2
    simp (disch := omega) only [nI_ad, nI_ml, nI_lti, nI_lei, nI_eqi, nI_nn, nI_0le, nI_eq0, nI_0lt, nI_le0, nI_clamp, nI_pd, nI_sb, zOf_some, zOp_some, zOp_none, kI_int, kL_long, kO_ref, kO_null, nlt_T, nlt_F, nle_T, nle_F, neq_F, vpT, azUp_at, if_true, if_false, true_and, and_true, true_implies, false_implies, implies_true, not_true_eq_false, not_false_eq_true, true_or, or_true, false_or, or_false, and_false, false_and, eq_self, n01_0, n01_1, nm1_0, k0, f0, k220, e2]
    refine h _ (MW.mk hK (hC.mark (fun b b1 b2 => g1 b (by omega)) (fun j _ _ => by rw [g1 228 (by omega)]) (w := st.2.2.2.2.1) (by rw [g1 228 (by omega)]; exact hC.2.2.2.2.1) g2) ⟨hv.up hp (by rw [List.length_append, List.length_cons, List.length_nil]; omega) fun t' ht' => ?_, hS.2⟩) (mdF_I (fun b hb => g1 b (by omega)) fun _ _ => rfl)
    rcases List.mem_append.mp ht' with q | q
    · exact (hv.1 p).2 t' q
    · rw [List.mem_singleton] at q; subst q; exact ht
theorem S_mdTake (hR : azClosed R) (hW : MW σ st) {x y : Int32} (h : ∀ σ', MW σ' (aTake st x y).2 → mdF σ σ' → Q (some (.int (aTake st x y).1)) σ') : R (d + 3) mX9_take 0 [.ref 228, .int x, .int y, .retAddr 0] [] σ Q := by
  obtain ⟨⟨n, z, kd⟩, I, J, F⟩ := σ
  obtain ⟨hK, hC, hS⟩ := id hW
  have hK : MdOk kd F := hK
  have hC : cMd I st := hC
  have ⟨k0, ⟨k220, k221, k222, k223, k224, k225, k226, k227, k228, k229, k230, k231⟩, _, ⟨f0, f1, f2, f3, f7, f9, f14, f15, f17, f18, f20, f23⟩, _⟩ := id hK
  have hv := hS.1
  refine BX9_take_0 hR (S_isPlace9 hR ?_)
  unfold isP
  unfold aTake at h
  rcases ix_cases x (n := 10) (by decide) with ⟨e, c⟩ | ⟨p, hp, rfl, e⟩
  · rw [e] at h ⊢
    simp (disch := omega) only [nI_ad, nI_ml, nI_lti, nI_lei, nI_eqi, nI_nn, nI_0le, nI_eq0, nI_0lt, nI_le0, nI_clamp, nI_pd, nI_sb, zOf_some, zOp_some, zOp_none, kI_int, kL_long, kO_ref, kO_null, nlt_T, nlt_F, nle_T, nle_F, neq_F, vpT, azUp_at, if_true, if_false, true_and, and_true, true_implies, false_implies, implies_true, not_true_eq_false, not_false_eq_true, true_or, or_true, false_or, or_false, and_false, false_and, eq_self, n01_0, n01_1, nm1_0]
    exact h _ hW mdF.refl
  rw [e] at h ⊢
  dsimp only at h
  have hl := (hv.1 p).1
  simp (disch := omega) only [nI_ad, nI_ml, nI_lti, nI_lei, nI_eqi, nI_nn, nI_0le, nI_eq0, nI_0lt, nI_le0, nI_clamp, nI_pd, nI_sb, zOf_some, zOp_some, zOp_none, kI_int, kL_long, kO_ref, kO_null, nlt_T, nlt_F, nle_T, nle_F, neq_F, vpT, azUp_at, if_true, if_false, true_and, and_true, true_implies, false_implies, implies_true, not_true_eq_false, not_false_eq_true, true_or, or_true, false_or, or_false, and_false, false_and, eq_self, n01_0, n01_1, nm1_0, k0, f0, k220, (hC.1 p hp).1]
  refine S_isInP9 hR (k := (st.1 p).length) (by omega) rfl (len_sub _ (by omega)) ?_
  unfold isP
  rcases ix_cases y (n := (st.1 p).length) (by omega) with ⟨e, c⟩ | ⟨i, hi, rfl, e⟩
  · rw [e] at h ⊢
    simp (disch := omega) only [nI_ad, nI_ml, nI_lti, nI_lei, nI_eqi, nI_nn, nI_0le, nI_eq0, nI_0lt, nI_le0, nI_clamp, nI_pd, nI_sb, zOf_some, zOp_some, zOp_none, kI_int, kL_long, kO_ref, kO_null, nlt_T, nlt_F, nle_T, nle_F, neq_F, vpT, azUp_at, if_true, if_false, true_and, and_true, true_implies, false_implies, implies_true, not_true_eq_false, not_false_eq_true, true_or, or_true, false_or, or_false, and_false, false_and, eq_self, n01_0, n01_1, nm1_0]
    exact h _ hW mdF.refl
  rw [e] at h ⊢
  dsimp only at h
  simp (disch := omega) only [nI_ad, nI_ml, nI_lti, nI_lei, nI_eqi, nI_nn, nI_0le, nI_eq0, nI_0lt, nI_le0, nI_clamp, nI_pd, nI_sb, zOf_some, zOp_some, zOp_none, kI_int, kL_long, kO_ref, kO_null, nlt_T, nlt_F, nle_T, nle_F, neq_F, vpT, azUp_at, if_true, if_false, true_and, and_true, true_implies, false_implies, implies_true, not_true_eq_false, not_false_eq_true, true_or, or_true, false_or, or_false, and_false, false_and, eq_self, n01_0, n01_1, nm1_0, k0, f0]
  refine S_at9 hR ?_
  have ea := (hC.1 p hp).2 i (by omega)
  simp (disch := omega) only [nI_ad, nI_ml, nI_lti, nI_lei, nI_eqi, nI_nn, nI_0le, nI_eq0, nI_0lt, nI_le0, nI_clamp, nI_pd, nI_sb, zOf_some, zOp_some, zOp_none, kI_int, kL_long, kO_ref, kO_null, nlt_T, nlt_F, nle_T, nle_F, neq_F, vpT, azUp_at, if_true, if_false, true_and, and_true, true_implies, false_implies, implies_true, not_true_eq_false, not_false_eq_true, true_or, or_true, false_or, or_false, and_false, false_and, eq_self, n01_0, n01_1, nm1_0, k0, f0, k220]
  refine S_removes9 hR k220 hp (by omega) fun I1 g1 g2 => ⟨rfl, ?_⟩
  rw [ea]
  refine h _ (MW.mk hK (hC.mark (fun b b1 b2 => g1 b (by omega)) (fun j _ _ => by rw [g1 228 (by omega)]) (w := st.2.2.2.2.1) (by rw [g1 228 (by omega)]; exact hC.2.2.2.2.1) (hC.1.erase hv hp hi g2)) ⟨hv.up hp (by rw [List.length_eraseIdx]; split <;> omega) fun t ht => (hv.1 p).2 t (List.mem_of_mem_eraseIdx ht), hS.2⟩) (mdF_I (fun b hb => g1 b (by omega)) fun _ _ => rfl)
theorem S_mdToken (hR : azClosed R) (hW : MW σ st) {x y : Int32} (h : Q (some (.int (aToken st x y))) σ) : R (d + 3) mX9_token 0 [.ref 228, .int x, .int y] [] σ Q := by
  obtain ⟨⟨n, z, kd⟩, I, J, F⟩ := σ
  obtain ⟨hK, hC, hS⟩ := id hW
  have hK : MdOk kd F := hK
  have hC : cMd I st := hC
  have ⟨k0, ⟨k220, k221, k222, k223, k224, k225, k226, k227, k228, k229, k230, k231⟩, _, ⟨f0, f1, f2, f3, f7, f9, f14, f15, f17, f18, f20, f23⟩, _⟩ := id hK
  have hv := hS.1
  refine BX9_token_0 hR (S_isPlace9 hR ?_)
  unfold isP
  unfold aToken at h
  rcases ix_cases x (n := 10) (by decide) with ⟨e, c⟩ | ⟨p, hp, rfl, e⟩
  · rw [e] at h ⊢
    simp (disch := omega) only [nI_ad, nI_ml, nI_lti, nI_lei, nI_eqi, nI_nn, nI_0le, nI_eq0, nI_0lt, nI_le0, nI_clamp, nI_pd, nI_sb, zOf_some, zOp_some, zOp_none, kI_int, kL_long, kO_ref, kO_null, nlt_T, nlt_F, nle_T, nle_F, neq_F, vpT, azUp_at, if_true, if_false, true_and, and_true, true_implies, false_implies, implies_true, not_true_eq_false, not_false_eq_true, true_or, or_true, false_or, or_false, and_false, false_and, eq_self, n01_0, n01_1, nm1_0]
    exact h
  rw [e] at h ⊢
  dsimp only at h
  have hl := (hv.1 p).1
  by_cases c : y = -(nI 1)
  · rw [if_pos c] at h
    simp (disch := omega) only [nI_ad, nI_ml, nI_lti, nI_lei, nI_eqi, nI_nn, nI_0le, nI_eq0, nI_0lt, nI_le0, nI_clamp, nI_pd, nI_sb, zOf_some, zOp_some, zOp_none, kI_int, kL_long, kO_ref, kO_null, nlt_T, nlt_F, nle_T, nle_F, neq_F, vpT, azUp_at, if_true, if_false, true_and, and_true, true_implies, false_implies, implies_true, not_true_eq_false, not_false_eq_true, true_or, or_true, false_or, or_false, and_false, false_and, eq_self, n01_0, n01_1, nm1_0, c, k0, f0, k220, (hC.1 p hp).1]
    exact h
  · rw [if_neg c] at h
    simp (disch := omega) only [nI_ad, nI_ml, nI_lti, nI_lei, nI_eqi, nI_nn, nI_0le, nI_eq0, nI_0lt, nI_le0, nI_clamp, nI_pd, nI_sb, zOf_some, zOp_some, zOp_none, kI_int, kL_long, kO_ref, kO_null, nlt_T, nlt_F, nle_T, nle_F, neq_F, vpT, azUp_at, if_true, if_false, true_and, and_true, true_implies, false_implies, implies_true, not_true_eq_false, not_false_eq_true, true_or, or_true, false_or, or_false, and_false, false_and, eq_self, n01_0, n01_1, nm1_0, c, k0, f0, k220, (hC.1 p hp).1]
    refine S_isInP9 hR (k := (st.1 p).length) (by omega) rfl (len_sub _ (by omega)) ?_
    unfold isP
    unfold atS at h
    rw [ix_nI (by decide) hp] at h
    dsimp only at h
    rcases ix_cases y (n := (st.1 p).length) (by omega) with ⟨e, c⟩ | ⟨i, hi, rfl, e⟩
    · rw [e] at h ⊢
      simp (disch := omega) only [nI_ad, nI_ml, nI_lti, nI_lei, nI_eqi, nI_nn, nI_0le, nI_eq0, nI_0lt, nI_le0, nI_clamp, nI_pd, nI_sb, zOf_some, zOp_some, zOp_none, kI_int, kL_long, kO_ref, kO_null, nlt_T, nlt_F, nle_T, nle_F, neq_F, vpT, azUp_at, if_true, if_false, true_and, and_true, true_implies, false_implies, implies_true, not_true_eq_false, not_false_eq_true, true_or, or_true, false_or, or_false, and_false, false_and, eq_self, n01_0, n01_1, nm1_0]
      exact h
    rw [e] at h ⊢
    dsimp only at h
    simp (disch := omega) only [nI_ad, nI_ml, nI_lti, nI_lei, nI_eqi, nI_nn, nI_0le, nI_eq0, nI_0lt, nI_le0, nI_clamp, nI_pd, nI_sb, zOf_some, zOp_some, zOp_none, kI_int, kL_long, kO_ref, kO_null, nlt_T, nlt_F, nle_T, nle_F, neq_F, vpT, azUp_at, if_true, if_false, true_and, and_true, true_implies, false_implies, implies_true, not_true_eq_false, not_false_eq_true, true_or, or_true, false_or, or_false, and_false, false_and, eq_self, n01_0, n01_1, nm1_0, k0, f0]
    refine S_at9 hR ?_
    have ea := (hC.1 p hp).2 i (by omega)
    simp (disch := omega) only [nI_ad, nI_ml, nI_lti, nI_lei, nI_eqi, nI_nn, nI_0le, nI_eq0, nI_0lt, nI_le0, nI_clamp, nI_pd, nI_sb, zOf_some, zOp_some, zOp_none, kI_int, kL_long, kO_ref, kO_null, nlt_T, nlt_F, nle_T, nle_F, neq_F, vpT, azUp_at, if_true, if_false, true_and, and_true, true_implies, false_implies, implies_true, not_true_eq_false, not_false_eq_true, true_or, or_true, false_or, or_false, and_false, false_and, eq_self, n01_0, n01_1, nm1_0, k220, ea]
    exact h
/-- the tape is another -/
theorem cMd.tape {I' : azI} (h : cMd I st) (hf : ∀ b, b ≠ 228 → (b < 233 ∨ b = 241) → I' b = I b) (hj : ∀ j, j ≤ 6 ∨ j = 27 → I' 228 j = I 228 j) {t : List Nat} (h8 : I' 228 8 = nI t.length) (ht : lst (I' 233) (t.map nI)) : cMd I' (st.1, st.2.1, t, st.2.2.2) := by
  obtain ⟨h1, h2, h3, h4', h5, h6, h7⟩ := h
  refine ⟨by rw [hf 229 (by omega) (by omega)]; exact h1, by rw [hf 231 (by omega) (by omega)]; exact h2, ⟨h8, ht⟩, by rw [hj 27 (by omega), hf 241 (by omega) (by omega)]; exact h4', by rw [hj 4 (by omega)]; exact h5, fun e => by rw [hj 6 (by omega)]; exact h6 e, fun m ru w e => by rw [hj 6 (by omega), hf 230 (by omega) (by omega), hf 232 (by omega) (by omega), hj 5 (by omega)]; exact h7 m ru w e⟩
theorem S_mdFeed (hR : azClosed R) (hW : MW σ st) {x : Int32} (h : ∀ σ', MW σ' (aFeed st x).2 → mdF σ σ' → Q (some (.int (aFeed st x).1)) σ') : R (d + 3) mX9_feed 0 [.ref 228, .int x] [] σ Q := by
  obtain ⟨⟨n, z, kd⟩, I, J, F⟩ := σ
  obtain ⟨hK, hC, hS⟩ := id hW
  have hK : MdOk kd F := hK
  have hC : cMd I st := hC
  have ⟨k0, ⟨k220, k221, k222, k223, k224, k225, k226, k227, k228, k229, k230, k231⟩, _, ⟨f0, f1, f2, f3, f7, f9, f14, f15, f17, f18, f20, f23⟩, _⟩ := id hK
  have ht := hS.2.2.1
  have e8 := hC.2.2.1.1
  refine BX9_feed_0 hR (S_isInJ9 hR (K := 127) (by decide) rfl rfl ?_)
  unfold isJ jx
  unfold aFeed at h
  cases e : ix x (127 + 1) with
  | none =>
    rw [e] at h
    simp (disch := omega) only [nI_ad, nI_ml, nI_lti, nI_lei, nI_eqi, nI_nn, nI_0le, nI_eq0, nI_0lt, nI_le0, nI_clamp, nI_pd, nI_sb, zOf_some, zOp_some, zOp_none, kI_int, kL_long, kO_ref, kO_null, nlt_T, nlt_F, nle_T, nle_F, neq_F, vpT, azUp_at, if_true, if_false, true_and, and_true, true_implies, false_implies, implies_true, not_true_eq_false, not_false_eq_true, true_or, or_true, false_or, or_false, and_false, false_and, eq_self, n01_0, n01_1, nm1_0]
    exact h _ hW mdF.refl
  | some k =>
    rw [e] at h
    dsimp only at h ⊢
    by_cases ck : k = 0
    · rw [if_pos ck] at h ⊢
      simp (disch := omega) only [nI_ad, nI_ml, nI_lti, nI_lei, nI_eqi, nI_nn, nI_0le, nI_eq0, nI_0lt, nI_le0, nI_clamp, nI_pd, nI_sb, zOf_some, zOp_some, zOp_none, kI_int, kL_long, kO_ref, kO_null, nlt_T, nlt_F, nle_T, nle_F, neq_F, vpT, azUp_at, if_true, if_false, true_and, and_true, true_implies, false_implies, implies_true, not_true_eq_false, not_false_eq_true, true_or, or_true, false_or, or_false, and_false, false_and, eq_self, n01_0, n01_1, nm1_0]
      exact h _ hW mdF.refl
    · rw [if_neg ck] at h ⊢
      rcases ix_cases x (n := 128) (by decide) with ⟨e2, c⟩ | ⟨k', hk', rfl, e2⟩
      · rw [e2] at e; cases e
      have ek : k' = k := by rw [e2] at e; exact Option.some.inj e
      subst ek
      by_cases c : st.2.2.1.length < 80
      · rw [if_pos c] at h
        simp (disch := omega) only [nI_ad, nI_ml, nI_lti, nI_lei, nI_eqi, nI_nn, nI_0le, nI_eq0, nI_0lt, nI_le0, nI_clamp, nI_pd, nI_sb, zOf_some, zOp_some, zOp_none, kI_int, kL_long, kO_ref, kO_null, nlt_T, nlt_F, nle_T, nle_F, neq_F, vpT, azUp_at, if_true, if_false, true_and, and_true, true_implies, false_implies, implies_true, not_true_eq_false, not_false_eq_true, true_or, or_true, false_or, or_false, and_false, false_and, eq_self, n01_0, n01_1, nm1_0, k0, e8, f7, k224, @azUp_nb _ 233 228]
        have o : ∀ b, b ≠ 228 → b ≠ 233 → azUp (azUp I 233 st.2.2.1.length (nI k')) 228 8 (nI (st.2.2.1.length + 1)) b = I b := fun b b1 b2 => by rw [azUp_nb b1, azUp_nb b2]
        refine h _ (MW.mk hK (hC.tape (fun b b1 b2 => o b b1 (by omega)) (fun j hj => by rw [azUp_nk (by omega), azUp_nb (by decide)]) ?_ ?_) ⟨hS.1, hS.2.1, ⟨by rw [List.length_append, List.length_cons, List.length_nil]; omega, fun y hy => ?_⟩, hS.2.2.2⟩) (mdF_I (fun b hb => o b (by omega) (by omega)) fun _ _ => rfl)
        · rw [azUp_s, List.length_append]; rfl
        · rw [azUp_nb (by decide), List.map_append]
          refine hC.2.2.1.2.add ?_ fun i hi => ?_
          · rw [List.length_map, azUp_s]
          · rw [List.length_map] at hi
            rw [azUp_nk hi]
        · rcases List.mem_append.mp hy with hy | hy
          · exact ht.2 y hy
          · rw [List.mem_singleton] at hy; subst hy; omega
      · rw [if_neg c] at h
        have c80 : st.2.2.1.length = 80 := by have := ht.1; omega
        simp (disch := omega) only [nI_ad, nI_ml, nI_lti, nI_lei, nI_eqi, nI_nn, nI_0le, nI_eq0, nI_0lt, nI_le0, nI_clamp, nI_pd, nI_sb, zOf_some, zOp_some, zOp_none, kI_int, kL_long, kO_ref, kO_null, nlt_T, nlt_F, nle_T, nle_F, neq_F, vpT, azUp_at, if_true, if_false, true_and, and_true, true_implies, false_implies, implies_true, not_true_eq_false, not_false_eq_true, true_or, or_true, false_or, or_false, and_false, false_and, eq_self, n01_0, n01_1, nm1_0, k0, e8, c80]
        exact h _ hW mdF.refl
theorem S_mdClear (hR : azClosed R) (hW : MW σ st) (h : ∀ σ', MW σ' (aClear st).2 → mdF σ σ' → Q (some (.int (aClear st).1)) σ') : R d mX9_clear 0 [.ref 228, .retAddr 0] [] σ Q := by
  obtain ⟨⟨n, z, kd⟩, I, J, F⟩ := σ
  obtain ⟨hK, hC, hS⟩ := id hW
  have hK : MdOk kd F := hK
  have hC : cMd I st := hC
  have k0 := hK.1
  refine BX9_clear_0 hR ⟨k0, k0, ?_⟩
  rw [hC.2.2.1.1]
  refine h _ (MW.mk hK (hC.tape (fun b b1 _ => azUp_nb b1) (fun j hj => azUp_nk (by omega)) azUp_s (fun i hi => absurd hi (Nat.not_lt_zero _))) ⟨hS.1, hS.2.1, ⟨Nat.zero_le _, fun y hy => absurd hy List.not_mem_nil⟩, hS.2.2.2⟩) (mdF_I (fun b hb => azUp_nb (by omega)) fun _ _ => rfl)
end S9
