/-! SPECS: Tape.read, its loop. -/
def rulePost (I0 : azI) (a r : Nat) (t : List Nat) (S : azI → azS) (Q : azQ) : Except Nat (List Cls) → Prop
  | .ok cs => ∀ I', cR I' r cs [] → I' a 1 = nI t.length → frm a r I0 I' → Q (some (.ref r)) (S I')
  | .error e => ∀ I', rdEr I0 a r t e I' → Q (some .null) (S I')
section S6
variable {R : azP} {D d n z : Nat} {kd : azK} {I : azI} {J : azJ} {F : azR} {Q : azQ} {a r : Nat} {t : List Nat} {cs : List Cls} {i : Nat} {I0 : azI}
theorem L_read69 (hR : azClosed R) (hM : TpOk kd F a r) (ht : tOK t) {kb k : Nat} (h0 : rdOk I0 a r t kb cs [] i I) (hi : i = t.length) (hn : nTk cs ≤ 3) (hP : rulePost I0 a r t (fun I' => ((n, z, kd), I', J, F)) Q (if nTk cs = 0 then .error t.length else .ok cs)) : R (d + 1) mX6_read 69 [.ref a, .int (nI k)] [] ((n, z, kd), I, J, F) Q := by
  have ⟨k0, k1, f0, f5, hr, hd⟩ := hM
  have htl := ht.1
  have e1 : I a 1 = nI t.length := h0.1.1
  have e2 : I a 2 = nI i := h0.1.2.1
  have e3 : I r 1 = nI (nTk cs) := h0.2.1.2.1
  refine BX6_read_69 hR ?_
  by_cases c : nTk cs = 0
  · rw [if_pos c] at hP
    simp (disch := omega) only [nI_ad, nI_ml, nI_lti, nI_lei, nI_eqi, nI_nn, nI_0le, nI_eq0, nI_0lt, nI_le0, nI_clamp, nI_pd, nI_sb, zOf_some, zOp_some, zOp_none, kI_int, kL_long, kO_ref, kO_null, nlt_T, nlt_F, nle_T, nle_F, neq_F, vpT, azUp_at, if_true, if_false, true_and, and_true, true_implies, false_implies, implies_true, not_true_eq_false, not_false_eq_true, true_or, or_true, false_or, or_false, and_false, false_and, eq_self, n01_0, n01_1, nm1_0, k0, f5, hr.1, e1, e2, e3, hi, c]
    exact hP _ (h0.fail t.length)
  · rw [if_neg c] at hP
    simp (disch := omega) only [nI_ad, nI_ml, nI_lti, nI_lei, nI_eqi, nI_nn, nI_0le, nI_eq0, nI_0lt, nI_le0, nI_clamp, nI_pd, nI_sb, zOf_some, zOp_some, zOp_none, kI_int, kL_long, kO_ref, kO_null, nlt_T, nlt_F, nle_T, nle_F, neq_F, vpT, azUp_at, if_true, if_false, true_and, and_true, true_implies, false_implies, implies_true, not_true_eq_false, not_false_eq_true, true_or, or_true, false_or, or_false, and_false, false_and, eq_self, n01_0, n01_1, nm1_0, k0, f5, hr.1, e1, e2, e3, hi, c]
    exact hP I h0.2.1 e1 h0.2.2
theorem L_read (hR : azClosed R) (hM : TpOk kd F a r) (ht : tOK t) (hX : TxOk kd I0) (hra : r + 8 < azB) : ∀ (m : Nat) (cs : List Cls) (I : azI) (i : Nat), m + cs.length = 12 → csOK cs i → i ≤ t.length → rdOk I0 a r t (knB cs) cs [] i I → rulePost I0 a r t (fun I' => ((n, z, kd), I', J, F)) Q (pR t m cs i) → R (d + 16) mX6_read 23 [.ref a, .int (nI cs.length)] [] ((n, z, kd), I, J, F) Q := by
  have ⟨k0, k1, f0, f5, hr, hd⟩ := hM
  have htl := ht.1
  intro m
  induction m with
  | zero =>
    intro cs I i hm hc hi h0 hP
    have := hc.1
    omega
  | succ m ih =>
    intro cs I i hm hc hi h0 hP
    have hc' := hc
    obtain ⟨c1, c2, c3, c4, c5, c6⟩ := hc
    refine BX6_read_23 hR ?_
    simp (disch := omega) only [nI_ad, nI_ml, nI_lti, nI_lei, nI_eqi, nI_nn, nI_0le, nI_eq0, nI_0lt, nI_le0, nI_clamp, nI_pd, nI_sb, zOf_some, zOp_some, zOp_none, kI_int, kL_long, kO_ref, kO_null, nlt_T, nlt_F, nle_T, nle_F, neq_F, vpT, azUp_at, if_true, if_false, true_and, and_true, true_implies, false_implies, implies_true, not_true_eq_false, not_false_eq_true, true_or, or_true, false_or, or_false, and_false, false_and, eq_self, n01_0, n01_1, nm1_0, k0]
    refine S_readClause hR hM ht hX hra (by omega) c5 c3 c4 h0 (by omega) hi ?_
    unfold pR at hP
    have g := pgK_cl (cs := cs) hi
    revert hP g
    cases pCl t cs i with
    | error e =>
      intro hP g I' h1
      simp (disch := omega) only [nI_ad, nI_ml, nI_lti, nI_lei, nI_eqi, nI_nn, nI_0le, nI_eq0, nI_0lt, nI_le0, nI_clamp, nI_pd, nI_sb, zOf_some, zOp_some, zOp_none, kI_int, kL_long, kO_ref, kO_null, nlt_T, nlt_F, nle_T, nle_F, neq_F, vpT, azUp_at, if_true, if_false, true_and, and_true, true_implies, false_implies, implies_true, not_true_eq_false, not_false_eq_true, true_or, or_true, false_or, or_false, and_false, false_and, eq_self, n01_0, n01_1, nm1_0]
      exact hP I' h1
    | ok x =>
      intro hP g I' h1
      rw [pb_ok] at hP
      have ha := hc'.add g
      have g2 := g.2.1
      have e1 : I' a 1 = nI t.length := h1.1.1
      have e2 : I' a 2 = nI x.2 := h1.1.2.1
      by_cases q : t.length ≤ x.2
      · rw [if_pos q] at hP
        simp (disch := omega) only [nI_ad, nI_ml, nI_lti, nI_lei, nI_eqi, nI_nn, nI_0le, nI_eq0, nI_0lt, nI_le0, nI_clamp, nI_pd, nI_sb, zOf_some, zOp_some, zOp_none, kI_int, kL_long, kO_ref, kO_null, nlt_T, nlt_F, nle_T, nle_F, neq_F, vpT, azUp_at, if_true, if_false, true_and, and_true, true_implies, false_implies, implies_true, not_true_eq_false, not_false_eq_true, true_or, or_true, false_or, or_false, and_false, false_and, eq_self, n01_0, n01_1, nm1_0, k0, e1, e2]
        exact L_read69 hR hM ht h1 (by omega) ha.2.2.1 hP
      · rw [if_neg q] at hP
        simp (disch := omega) only [nI_ad, nI_ml, nI_lti, nI_lei, nI_eqi, nI_nn, nI_0le, nI_eq0, nI_0lt, nI_le0, nI_clamp, nI_pd, nI_sb, zOf_some, zOp_some, zOp_none, kI_int, kL_long, kO_ref, kO_null, nlt_T, nlt_F, nle_T, nle_F, neq_F, vpT, azUp_at, if_true, if_false, true_and, and_true, true_implies, false_implies, implies_true, not_true_eq_false, not_false_eq_true, true_or, or_true, false_or, or_false, and_false, false_and, eq_self, n01_0, n01_1, nm1_0, k0, e1, e2]
        refine S_expect hR hM ht h1 g2 (by decide) (fun c I2 h2 => ?_) (fun c I2 h2 => ?_)
        · rw [if_pos c] at hP
          simp (disch := omega) only [nI_ad, nI_ml, nI_lti, nI_lei, nI_eqi, nI_nn, nI_0le, nI_eq0, nI_0lt, nI_le0, nI_clamp, nI_pd, nI_sb, zOf_some, zOp_some, zOp_none, kI_int, kL_long, kO_ref, kO_null, nlt_T, nlt_F, nle_T, nle_F, neq_F, vpT, azUp_at, if_true, if_false, true_and, and_true, true_implies, false_implies, implies_true, not_true_eq_false, not_false_eq_true, true_or, or_true, false_or, or_false, and_false, false_and, eq_self, n01_0, n01_1, nm1_0]
          have e : cs.length + 1 = (cs ++ [x.1]).length := by rw [List.length_append]; rfl
          rw [e]
          exact ih _ I2 (x.2 + 1) (by rw [List.length_append, List.length_cons, List.length_nil]; omega) ha (by omega) h2 hP
        · rw [if_neg c] at hP
          simp (disch := omega) only [nI_ad, nI_ml, nI_lti, nI_lei, nI_eqi, nI_nn, nI_0le, nI_eq0, nI_0lt, nI_le0, nI_clamp, nI_pd, nI_sb, zOf_some, zOp_some, zOp_none, kI_int, kL_long, kO_ref, kO_null, nlt_T, nlt_F, nle_T, nle_F, neq_F, vpT, azUp_at, if_true, if_false, true_and, and_true, true_implies, false_implies, implies_true, not_true_eq_false, not_false_eq_true, true_or, or_true, false_or, or_false, and_false, false_and, eq_self, n01_0, n01_1, nm1_0]
          exact hP I2 h2
end S6
