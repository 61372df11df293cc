/-! THE REFERENCE: factor, term, expression. -/
/-- what a reader leaves behind: a value and a place, or a fault -/
def prP {α : Type} (val : α → Int32) (I : azI) (S : azI → azS) (Q : azQ) : PR α → Prop
  | .ok x => ∀ I', frp I I' → I' 228 11 = nI x.2 → I' 228 12 = -(nI 1) → Q (some (.int (val x.1))) (S I')
  | .error f => ∀ I' v j, frp I I' → I' 228 12 = nI f → I' 228 11 = nI j → j ≤ 80 → Q (some (.int v)) (S I')
/-- how deep factors go with so many brackets -/
def fD (d : Nat) : Nat → Nat
  | 0 => d + 2
  | b + 1 => fD d b + 3
section S9
variable {R : azP} {d n z : Nat} {kd : azK} {J : azJ} {F : azR} {t : List Nat} {kb : Nat}
def rdS (R : azP) (n z : Nat) (kd : azK) (J : azJ) (F : azR) (t : List Nat) (kb b : Nat) (D : Nat) (M : azM) (ls : List Value) (rd : Nat → PR Ex) : Prop := ∀ (I : azI) (i : Nat) (Q : azQ), cu I t kb b i → i ≤ t.length → prP (exEv fun w => I 240 w) I (fun I' => ((n, z, kd), I', J, F)) Q (rd i) → R D M 0 (.ref 228 :: ls) [] ((n, z, kd), I, J, F) Q
theorem nm_frp {I I' : azI} (h : frp I I') : (fun w => I' 240 w) = fun w => I 240 w := by rw [h.1 240 (by decide)]
theorem S_term9 (hR : azClosed R) (hK : MdOk kd F) (htk : tOK t) {b D : Nat} {fac : Nat → PR Ex} (hg : PG kb fac t) (hf : rdS R n z kd J F t kb b D mX9_factor [.retAddr 0, .retAddr 0] fac) : rdS R n z kd J F t kb b (D + 1) mX9_term [.retAddr 0] (pT fac t) := by
  intro I i Q hc hi hP
  have k0 := hK.1
  have ht := htk.1
  have hng := m1_ng
  have main : ∀ (m : Nat) (a : Ex) (j : Nat) (I1 : azI), t.length ≤ m + j → j ≤ t.length → frp I I1 → I1 228 11 = nI j → I1 228 12 = -(nI 1) → prP (exEv fun w => I 240 w) I (fun I' => ((n, z, kd), I', J, F)) Q (pTm fac t m a j) → R (D + 1) mX9_term 5 [.ref 228, .int (exEv (fun w => I 240 w) a)] [] ((n, z, kd), I1, J, F) Q := by
    intro m
    induction m with
    | zero =>
      intro a j I1 hm hj hfr e11 e12 hP
      have hc1 := hc.to hfr e11 e12
      refine BX9_term_5 hR ?_
      simp (disch := omega) only [nI_ad, nI_ml, nI_lti, nI_lei, nI_eqi, nI_nn, nI_0le, nI_eq0, nI_0lt, nI_le0, nI_clamp, nI_pd, nI_sb, zOf_some, zOp_some, zOp_none, kI_int, kL_long, kO_ref, kO_null, nlt_T, nlt_F, nle_T, nle_F, neq_F, vpT, azUp_at, if_true, if_false, true_and, and_true, true_implies, false_implies, implies_true, not_true_eq_false, not_false_eq_true, true_or, or_true, false_or, or_false, and_false, false_and, eq_self, n01_0, n01_1, nm1_0, k0, e12, hng]
      refine S_peek9 hR hK ht hc1.1 e11 (by omega) ?_
      rw [tb_0 (by omega)]
      simp (disch := omega) only [nI_ad, nI_ml, nI_lti, nI_lei, nI_eqi, nI_nn, nI_0le, nI_eq0, nI_0lt, nI_le0, nI_clamp, nI_pd, nI_sb, zOf_some, zOp_some, zOp_none, kI_int, kL_long, kO_ref, kO_null, nlt_T, nlt_F, nle_T, nle_F, neq_F, vpT, azUp_at, if_true, if_false, true_and, and_true, true_implies, false_implies, implies_true, not_true_eq_false, not_false_eq_true, true_or, or_true, false_or, or_false, and_false, false_and, eq_self, n01_0, n01_1, nm1_0]
      exact hP I1 hfr e11 e12
    | succ m ih =>
      intro a j I1 hm hj hfr e11 e12 hP
      have hc1 := hc.to hfr e11 e12
      have hb := tb_lt htk (i := j)
      have e1 : pTm fac t (m + 1) a j = if tb t j = 42 then pb (fac (j + 1)) fun x => pTm fac t m (.branch 42 a x.1) x.2 else .ok (a, j) := rfl
      rw [e1] at hP
      refine BX9_term_5 hR ?_
      simp (disch := omega) only [nI_ad, nI_ml, nI_lti, nI_lei, nI_eqi, nI_nn, nI_0le, nI_eq0, nI_0lt, nI_le0, nI_clamp, nI_pd, nI_sb, zOf_some, zOp_some, zOp_none, kI_int, kL_long, kO_ref, kO_null, nlt_T, nlt_F, nle_T, nle_F, neq_F, vpT, azUp_at, if_true, if_false, true_and, and_true, true_implies, false_implies, implies_true, not_true_eq_false, not_false_eq_true, true_or, or_true, false_or, or_false, and_false, false_and, eq_self, n01_0, n01_1, nm1_0, k0, e12, hng]
      refine S_peek9 hR hK ht hc1.1 e11 (by omega) ?_
      by_cases c : tb t j = 42
      · rw [if_pos c] at hP
        have hjl := tb_len (t := t) (i := j) (by omega)
        simp (disch := omega) only [nI_ad, nI_ml, nI_lti, nI_lei, nI_eqi, nI_nn, nI_0le, nI_eq0, nI_0lt, nI_le0, nI_clamp, nI_pd, nI_sb, zOf_some, zOp_some, zOp_none, kI_int, kL_long, kO_ref, kO_null, nlt_T, nlt_F, nle_T, nle_F, neq_F, vpT, azUp_at, if_true, if_false, true_and, and_true, true_implies, false_implies, implies_true, not_true_eq_false, not_false_eq_true, true_or, or_true, false_or, or_false, and_false, false_and, eq_self, n01_0, n01_1, nm1_0, k0, c, e11]
        have hf1 : frp I (azUp I1 228 11 (nI (j + 1))) := hfr.up11
        refine hf _ (j + 1) _ (hc1.to (frp.refl.up11) azUp_s (by rw [azUp_nk (by decide)]; exact e12)) hjl ?_
        have g := hg (j + 1) hjl
        revert hP g
        cases fac (j + 1) with
        | error f =>
          intro hP g I2 v j' h1 h2 h4 h5
          have hP : ∀ I' v j, frp I I' → I' 228 12 = nI f → I' 228 11 = nI j → j ≤ 80 → Q (some (.int v)) ((n, z, kd), I', J, F) := hP
          have hf2 := hf1.trans h1
          rw [kI_int]
          refine BX9_term_5 hR ?_
          have hf' := g.2
          simp (disch := omega) only [nI_ad, nI_ml, nI_lti, nI_lei, nI_eqi, nI_nn, nI_0le, nI_eq0, nI_0lt, nI_le0, nI_clamp, nI_pd, nI_sb, zOf_some, zOp_some, zOp_none, kI_int, kL_long, kO_ref, kO_null, nlt_T, nlt_F, nle_T, nle_F, neq_F, vpT, azUp_at, if_true, if_false, true_and, and_true, true_implies, false_implies, implies_true, not_true_eq_false, not_false_eq_true, true_or, or_true, false_or, or_false, and_false, false_and, eq_self, n01_0, n01_1, nm1_0, k0, h2]
          exact hP I2 _ j' hf2 h2 h4 h5
        | ok x =>
          intro hP g I2 h1 h2 h3
          rw [pb_ok] at hP
          have hf2 := hf1.trans h1
          have ev : (exEv (fun w => azUp I1 228 11 (nI (j + 1)) 240 w) x.1) = exEv (fun w => I 240 w) x.1 := by rw [nm_frp hf1]
          rw [kI_int, ev]
          have := ih (.branch 42 a x.1) x.2 I2 (by have := g.1; omega) g.2.1 hf2 h2 h3 hP
          have eo : exEv (fun w => I 240 w) (.branch 42 a x.1) = exEv (fun w => I 240 w) a * exEv (fun w => I 240 w) x.1 := rfl
          rw [eo] at this
          exact this
      · rw [if_neg c] at hP
        simp (disch := omega) only [nI_ad, nI_ml, nI_lti, nI_lei, nI_eqi, nI_nn, nI_0le, nI_eq0, nI_0lt, nI_le0, nI_clamp, nI_pd, nI_sb, zOf_some, zOp_some, zOp_none, kI_int, kL_long, kO_ref, kO_null, nlt_T, nlt_F, nle_T, nle_F, neq_F, vpT, azUp_at, if_true, if_false, true_and, and_true, true_implies, false_implies, implies_true, not_true_eq_false, not_false_eq_true, true_or, or_true, false_or, or_false, and_false, false_and, eq_self, n01_0, n01_1, nm1_0, c]
        exact hP I1 hfr e11 e12
  refine BX9_term_0 hR ?_
  simp (disch := omega) only [nI_ad, nI_ml, nI_lti, nI_lei, nI_eqi, nI_nn, nI_0le, nI_eq0, nI_0lt, nI_le0, nI_clamp, nI_pd, nI_sb, zOf_some, zOp_some, zOp_none, kI_int, kL_long, kO_ref, kO_null, nlt_T, nlt_F, nle_T, nle_F, neq_F, vpT, azUp_at, if_true, if_false, true_and, and_true, true_implies, false_implies, implies_true, not_true_eq_false, not_false_eq_true, true_or, or_true, false_or, or_false, and_false, false_and, eq_self, n01_0, n01_1, nm1_0, k0]
  refine hf I i _ hc hi ?_
  unfold pT at hP
  have g := hg i hi
  revert hP g
  cases fac i with
  | error f =>
    intro hP g I2 v j' h1 h2 h4 h5
    have hP : ∀ I' v j, frp I I' → I' 228 12 = nI f → I' 228 11 = nI j → j ≤ 80 → Q (some (.int v)) ((n, z, kd), I', J, F) := hP
    have hf' := g.2
    rw [kI_int]
    refine BX9_term_5 hR ?_
    simp (disch := omega) only [nI_ad, nI_ml, nI_lti, nI_lei, nI_eqi, nI_nn, nI_0le, nI_eq0, nI_0lt, nI_le0, nI_clamp, nI_pd, nI_sb, zOf_some, zOp_some, zOp_none, kI_int, kL_long, kO_ref, kO_null, nlt_T, nlt_F, nle_T, nle_F, neq_F, vpT, azUp_at, if_true, if_false, true_and, and_true, true_implies, false_implies, implies_true, not_true_eq_false, not_false_eq_true, true_or, or_true, false_or, or_false, and_false, false_and, eq_self, n01_0, n01_1, nm1_0, k0, h2]
    exact hP I2 _ j' h1 h2 h4 h5
  | ok x =>
    intro hP g I2 h1 h2 h3
    rw [pb_ok] at hP
    rw [kI_int]
    exact main t.length x.1 x.2 I2 (by omega) g.2.1 h1 h2 h3 hP
theorem S_expr9 (hR : azClosed R) (hK : MdOk kd F) (htk : tOK t) {b D : Nat} {fac : Nat → PR Ex} (hg : PG kb fac t) (hf : rdS R n z kd J F t kb b D mX9_factor [.retAddr 0, .retAddr 0] fac) : rdS R n z kd J F t kb b (D + 2) mX9_expression [.retAddr 0, .retAddr 0, .retAddr 0] (pE fac t) := by
  intro I i Q hc hi hP
  have k0 := hK.1
  have ht := htk.1
  have hng := m1_ng
  have hT := S_term9 hR hK htk hg hf
  have hgT := PG_T hg
  have main : ∀ (m : Nat) (a : Ex) (j : Nat) (I1 : azI) (w2 w3 : Value), t.length ≤ m + j → j ≤ t.length → frp I I1 → I1 228 11 = nI j → I1 228 12 = -(nI 1) → prP (exEv fun w => I 240 w) I (fun I' => ((n, z, kd), I', J, F)) Q (pSm fac t m a j) → R (D + 2) mX9_expression 5 [.ref 228, .int (exEv (fun w => I 240 w) a), w2, w3] [] ((n, z, kd), I1, J, F) Q := by
    intro m
    induction m with
    | zero =>
      intro a j I1 w2 w3 hm hj hfr e11 e12 hP
      have hc1 := hc.to hfr e11 e12
      refine BX9_expression_5 hR ?_
      simp (disch := omega) only [nI_ad, nI_ml, nI_lti, nI_lei, nI_eqi, nI_nn, nI_0le, nI_eq0, nI_0lt, nI_le0, nI_clamp, nI_pd, nI_sb, zOf_some, zOp_some, zOp_none, kI_int, kL_long, kO_ref, kO_null, nlt_T, nlt_F, nle_T, nle_F, neq_F, vpT, azUp_at, if_true, if_false, true_and, and_true, true_implies, false_implies, implies_true, not_true_eq_false, not_false_eq_true, true_or, or_true, false_or, or_false, and_false, false_and, eq_self, n01_0, n01_1, nm1_0, k0, e12, hng]
      refine S_peek9 hR hK ht hc1.1 e11 (by omega) ?_
      rw [tb_0 (by omega)]
      simp (disch := omega) only [nI_ad, nI_ml, nI_lti, nI_lei, nI_eqi, nI_nn, nI_0le, nI_eq0, nI_0lt, nI_le0, nI_clamp, nI_pd, nI_sb, zOf_some, zOp_some, zOp_none, kI_int, kL_long, kO_ref, kO_null, nlt_T, nlt_F, nle_T, nle_F, neq_F, vpT, azUp_at, if_true, if_false, true_and, and_true, true_implies, false_implies, implies_true, not_true_eq_false, not_false_eq_true, true_or, or_true, false_or, or_false, and_false, false_and, eq_self, n01_0, n01_1, nm1_0, k0]
      refine S_peek9 hR hK ht hc1.1 e11 (by omega) ?_
      rw [tb_0 (by omega)]
      simp (disch := omega) only [nI_ad, nI_ml, nI_lti, nI_lei, nI_eqi, nI_nn, nI_0le, nI_eq0, nI_0lt, nI_le0, nI_clamp, nI_pd, nI_sb, zOf_some, zOp_some, zOp_none, kI_int, kL_long, kO_ref, kO_null, nlt_T, nlt_F, nle_T, nle_F, neq_F, vpT, azUp_at, if_true, if_false, true_and, and_true, true_implies, false_implies, implies_true, not_true_eq_false, not_false_eq_true, true_or, or_true, false_or, or_false, and_false, false_and, eq_self, n01_0, n01_1, nm1_0]
      exact hP I1 hfr e11 e12
    | succ m ih =>
      intro a j I1 w2 w3 hm hj hfr e11 e12 hP
      have hc1 := hc.to hfr e11 e12
      have hb := tb_lt htk (i := j)
      have e1 : pSm fac t (m + 1) a j = if tb t j = 43 ∨ tb t j = 45 then pb (pT fac t (j + 1)) fun x => pSm fac t m (.branch (tb t j) a x.1) x.2 else .ok (a, j) := rfl
      rw [e1] at hP
      -- behind the term
      have bh : (tb t j = 43 ∨ tb t j = 45) → ∀ (f : Int32 → Int32 → Int32) (w : Value), (∀ x : Ex, exEv (fun w => I 240 w) (.branch (tb t j) a x) = f (exEv (fun w => I 240 w) a) (exEv (fun w => I 240 w) x)) → R (D + 1) mX9_term 0 [.ref 228, .retAddr 0] [] ((n, z, kd), azUp I1 228 11 (nI (j + 1)), J, F) fun v4 s5 => kI v4 fun r6 => R (D + 2) mX9_expression 5 [.ref 228, .int (f (exEv (fun w => I 240 w) a) r6), w, .int r6] [] s5 Q := by
        intro c f w ef
        rw [if_pos c] at hP
        have hjl := tb_len (t := t) (i := j) (by omega)
        have hf1 : frp I (azUp I1 228 11 (nI (j + 1))) := hfr.up11
        refine hT _ (j + 1) _ (hc1.to (frp.refl.up11) azUp_s (by rw [azUp_nk (by decide)]; exact e12)) hjl ?_
        have g := hgT (j + 1) hjl
        revert hP g
        cases pT fac t (j + 1) with
        | error f' =>
          intro hP g I2 v j' h1 h2 h4 h5
          have hP : ∀ I' v j, frp I I' → I' 228 12 = nI f' → I' 228 11 = nI j → j ≤ 80 → Q (some (.int v)) ((n, z, kd), I', J, F) := hP
          have hf2 := hf1.trans h1
          have hf' := g.2
          rw [kI_int]
          refine BX9_expression_5 hR ?_
          simp (disch := omega) only [nI_ad, nI_ml, nI_lti, nI_lei, nI_eqi, nI_nn, nI_0le, nI_eq0, nI_0lt, nI_le0, nI_clamp, nI_pd, nI_sb, zOf_some, zOp_some, zOp_none, kI_int, kL_long, kO_ref, kO_null, nlt_T, nlt_F, nle_T, nle_F, neq_F, vpT, azUp_at, if_true, if_false, true_and, and_true, true_implies, false_implies, implies_true, not_true_eq_false, not_false_eq_true, true_or, or_true, false_or, or_false, and_false, false_and, eq_self, n01_0, n01_1, nm1_0, k0, h2]
          exact hP I2 _ j' hf2 h2 h4 h5
        | ok x =>
          intro hP g I2 h1 h2 h3
          rw [pb_ok] at hP
          have hf2 := hf1.trans h1
          have ev : (exEv (fun w => azUp I1 228 11 (nI (j + 1)) 240 w) x.1) = exEv (fun w => I 240 w) x.1 := by rw [nm_frp hf1]
          rw [kI_int, ev, ← ef]
          exact ih (.branch (tb t j) a x.1) x.2 I2 _ _ (by have := g.1; omega) g.2.1 hf2 h2 h3 hP
      have s30 : (tb t j = 43 ∨ tb t j = 45) → R (D + 2) mX9_expression 30 [.ref 228, .int (exEv (fun w => I 240 w) a), w2, w3] [] ((n, z, kd), I1, J, F) Q := by
        intro c
        refine BX9_expression_30 hR ?_
        simp (disch := omega) only [nI_ad, nI_ml, nI_lti, nI_lei, nI_eqi, nI_nn, nI_0le, nI_eq0, nI_0lt, nI_le0, nI_clamp, nI_pd, nI_sb, zOf_some, zOp_some, zOp_none, kI_int, kL_long, kO_ref, kO_null, nlt_T, nlt_F, nle_T, nle_F, neq_F, vpT, azUp_at, if_true, if_false, true_and, and_true, true_implies, false_implies, implies_true, not_true_eq_false, not_false_eq_true, true_or, or_true, false_or, or_false, and_false, false_and, eq_self, n01_0, n01_1, nm1_0, k0]
        refine S_peek9 hR hK ht hc1.1 e11 (by omega) ?_
        have n1 : ¬ (nI 1 = 0) := by decide
        rcases c with c1 | c1
        · rw [c1]
          simp (disch := omega) only [nI_ad, nI_ml, nI_lti, nI_lei, nI_eqi, nI_nn, nI_0le, nI_eq0, nI_0lt, nI_le0, nI_clamp, nI_pd, nI_sb, zOf_some, zOp_some, zOp_none, kI_int, kL_long, kO_ref, kO_null, nlt_T, nlt_F, nle_T, nle_F, neq_F, vpT, azUp_at, if_true, if_false, true_and, and_true, true_implies, false_implies, implies_true, not_true_eq_false, not_false_eq_true, true_or, or_true, false_or, or_false, and_false, false_and, eq_self, n01_0, n01_1, nm1_0, k0, e11, n1]
          refine bh (Or.inl c1) (fun x y => x + y) _ (fun x => ?_)
          rw [c1]; rfl
        · rw [c1]
          simp (disch := omega) only [nI_ad, nI_ml, nI_lti, nI_lei, nI_eqi, nI_nn, nI_0le, nI_eq0, nI_0lt, nI_le0, nI_clamp, nI_pd, nI_sb, zOf_some, zOp_some, zOp_none, kI_int, kL_long, kO_ref, kO_null, nlt_T, nlt_F, nle_T, nle_F, neq_F, vpT, azUp_at, if_true, if_false, true_and, and_true, true_implies, false_implies, implies_true, not_true_eq_false, not_false_eq_true, true_or, or_true, false_or, or_false, and_false, false_and, eq_self, n01_0, n01_1, nm1_0, k0, e11]
          refine bh (Or.inr c1) (fun x y => x - y) _ (fun x => ?_)
          rw [c1]; rfl
      refine BX9_expression_5 hR ?_
      simp (disch := omega) only [nI_ad, nI_ml, nI_lti, nI_lei, nI_eqi, nI_nn, nI_0le, nI_eq0, nI_0lt, nI_le0, nI_clamp, nI_pd, nI_sb, zOf_some, zOp_some, zOp_none, kI_int, kL_long, kO_ref, kO_null, nlt_T, nlt_F, nle_T, nle_F, neq_F, vpT, azUp_at, if_true, if_false, true_and, and_true, true_implies, false_implies, implies_true, not_true_eq_false, not_false_eq_true, true_or, or_true, false_or, or_false, and_false, false_and, eq_self, n01_0, n01_1, nm1_0, k0, e12, hng]
      refine S_peek9 hR hK ht hc1.1 e11 (by omega) ?_
      by_cases c1 : tb t j = 43
      · simp (disch := omega) only [nI_ad, nI_ml, nI_lti, nI_lei, nI_eqi, nI_nn, nI_0le, nI_eq0, nI_0lt, nI_le0, nI_clamp, nI_pd, nI_sb, zOf_some, zOp_some, zOp_none, kI_int, kL_long, kO_ref, kO_null, nlt_T, nlt_F, nle_T, nle_F, neq_F, vpT, azUp_at, if_true, if_false, true_and, and_true, true_implies, false_implies, implies_true, not_true_eq_false, not_false_eq_true, true_or, or_true, false_or, or_false, and_false, false_and, eq_self, n01_0, n01_1, nm1_0, c1]
        exact s30 (Or.inl c1)
      · simp (disch := omega) only [nI_ad, nI_ml, nI_lti, nI_lei, nI_eqi, nI_nn, nI_0le, nI_eq0, nI_0lt, nI_le0, nI_clamp, nI_pd, nI_sb, zOf_some, zOp_some, zOp_none, kI_int, kL_long, kO_ref, kO_null, nlt_T, nlt_F, nle_T, nle_F, neq_F, vpT, azUp_at, if_true, if_false, true_and, and_true, true_implies, false_implies, implies_true, not_true_eq_false, not_false_eq_true, true_or, or_true, false_or, or_false, and_false, false_and, eq_self, n01_0, n01_1, nm1_0, c1, k0]
        refine S_peek9 hR hK ht hc1.1 e11 (by omega) ?_
        by_cases c2 : tb t j = 45
        · simp (disch := omega) only [nI_ad, nI_ml, nI_lti, nI_lei, nI_eqi, nI_nn, nI_0le, nI_eq0, nI_0lt, nI_le0, nI_clamp, nI_pd, nI_sb, zOf_some, zOp_some, zOp_none, kI_int, kL_long, kO_ref, kO_null, nlt_T, nlt_F, nle_T, nle_F, neq_F, vpT, azUp_at, if_true, if_false, true_and, and_true, true_implies, false_implies, implies_true, not_true_eq_false, not_false_eq_true, true_or, or_true, false_or, or_false, and_false, false_and, eq_self, n01_0, n01_1, nm1_0, c2]
          exact s30 (Or.inr c2)
        · rw [if_neg (by omega)] at hP
          simp (disch := omega) only [nI_ad, nI_ml, nI_lti, nI_lei, nI_eqi, nI_nn, nI_0le, nI_eq0, nI_0lt, nI_le0, nI_clamp, nI_pd, nI_sb, zOf_some, zOp_some, zOp_none, kI_int, kL_long, kO_ref, kO_null, nlt_T, nlt_F, nle_T, nle_F, neq_F, vpT, azUp_at, if_true, if_false, true_and, and_true, true_implies, false_implies, implies_true, not_true_eq_false, not_false_eq_true, true_or, or_true, false_or, or_false, and_false, false_and, eq_self, n01_0, n01_1, nm1_0, c2]
          exact hP I1 hfr e11 e12
  refine BX9_expression_0 hR ?_
  simp (disch := omega) only [nI_ad, nI_ml, nI_lti, nI_lei, nI_eqi, nI_nn, nI_0le, nI_eq0, nI_0lt, nI_le0, nI_clamp, nI_pd, nI_sb, zOf_some, zOp_some, zOp_none, kI_int, kL_long, kO_ref, kO_null, nlt_T, nlt_F, nle_T, nle_F, neq_F, vpT, azUp_at, if_true, if_false, true_and, and_true, true_implies, false_implies, implies_true, not_true_eq_false, not_false_eq_true, true_or, or_true, false_or, or_false, and_false, false_and, eq_self, n01_0, n01_1, nm1_0, k0]
  refine hT I i _ hc hi ?_
  unfold pE at hP
  have g := hgT i hi
  revert hP g
  cases pT fac t i with
  | error f =>
    intro hP g I2 v j' h1 h2 h4 h5
    have hP : ∀ I' v j, frp I I' → I' 228 12 = nI f → I' 228 11 = nI j → j ≤ 80 → Q (some (.int v)) ((n, z, kd), I', J, F) := hP
    have hf' := g.2
    rw [kI_int]
    refine BX9_expression_5 hR ?_
    simp (disch := omega) only [nI_ad, nI_ml, nI_lti, nI_lei, nI_eqi, nI_nn, nI_0le, nI_eq0, nI_0lt, nI_le0, nI_clamp, nI_pd, nI_sb, zOf_some, zOp_some, zOp_none, kI_int, kL_long, kO_ref, kO_null, nlt_T, nlt_F, nle_T, nle_F, neq_F, vpT, azUp_at, if_true, if_false, true_and, and_true, true_implies, false_implies, implies_true, not_true_eq_false, not_false_eq_true, true_or, or_true, false_or, or_false, and_false, false_and, eq_self, n01_0, n01_1, nm1_0, k0, h2]
    exact hP I2 _ j' h1 h2 h4 h5
  | ok x =>
    intro hP g I2 h1 h2 h3
    rw [pb_ok] at hP
    rw [kI_int]
    exact main t.length x.1 x.2 I2 _ _ (by omega) g.2.1 h1 h2 h3 hP
end S9
