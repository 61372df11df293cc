/-! SPECS: Tape.readIf, readIn, readOut, readClause. -/
def ifPost (I0 : azI) (a r : Nat) (t : List Nat) (kb : Nat) (cs : List Cls) (S : azI → azS) (Q : azQ) : PR (List Ex) → Prop
  | .ok x => ∀ I', rdOk I0 a r t kb (cs ++ [(1, 0, 0, x.1)]) [] x.2 I' → Q (some (.int (nI 1))) (S I')
  | .error e => ∀ I', rdEr I0 a r t e I' → Q (some (.int (nI 0))) (S I')
section S6
variable {R : azP} {D d n z : Nat} {kd : azK} {I : azI} {J : azJ} {F : azR} {Q : azQ} {a r : Nat} {t : List Nat} {cs : List Cls} {kb i : Nat} {I0 : azI} {pd : List Nat}
theorem rdOk.rule {I' : azI} {cs' : List Cls} {pd' : List Nat} (h : rdOk I0 a r t kb cs pd i I) (hd : a + 1 < r) (hc : cR I' r cs' pd') (hf : ∀ b, b < r ∨ r + 8 < b → I' b = I b) : rdOk I0 a r t kb cs' pd' i I' := by
  obtain ⟨⟨t1, t2, t3, t4⟩, _, hf0⟩ := h
  refine ⟨⟨?_, ?_, ?_, ?_⟩, hc, fun b h1 h2 => ?_⟩
  · rw [hf a (by omega)]; exact t1
  · rw [hf a (by omega)]; exact t2
  · rw [hf a (by omega)]; exact t3
  · rw [hf (a + 1) (by omega)]; exact t4
  · rw [hf b h2]; exact hf0 b h1 h2
theorem L_if (hR : azClosed R) (hM : TpOk kd F a r) (ht : tOK t) (hkb : kb < 8) (hk : cs.length < 12) : ∀ (m : Nat) (l : List Ex) (I : azI) (i : Nat), m + l.length = 79 → rdOk I0 a r t kb cs (exCode l) i I → (rCode cs ++ exCode l).length + (if l = [] then 0 else 1) ≤ i → i ≤ t.length → ifPost I0 a r t kb cs (fun I' => ((n, z, kd), I', J, F)) Q (pCs kb t m l i) → R (d + 14) mX6_readIf 10 [.ref a, .int (nI (rCode cs).length), .int (nI (l.length + 1))] [] ((n, z, kd), I, J, F) Q := by
  have ⟨k0, k1, f0, f5, hr, hd⟩ := hM
  have htl := ht.1
  intro m
  induction m with
  | zero =>
    intro l I i hm h0 hl hi hP
    refine BX6_readIf_10 hR ?_
    simp (disch := omega) only [nI_ad, nI_ml, nI_lti, nI_lei, nI_eqi, nI_nn, nI_0le, nI_eq0, nI_0lt, nI_le0, nI_clamp, nI_pd, nI_sb, zOf_some, zOp_some, zOp_none, kI_int, kL_long, kO_ref, kO_null, nlt_T, nlt_F, nle_T, nle_F, neq_F, vpT, azUp_at, if_true, if_false, true_and, and_true, true_implies, false_implies, implies_true, not_true_eq_false, not_false_eq_true, true_or, or_true, false_or, or_false, and_false, false_and, eq_self, n01_0, n01_1, nm1_0, k0, h0.1.2.1]
    refine S_fail hR hM ?_
    simp (disch := omega) only [nI_ad, nI_ml, nI_lti, nI_lei, nI_eqi, nI_nn, nI_0le, nI_eq0, nI_0lt, nI_le0, nI_clamp, nI_pd, nI_sb, zOf_some, zOp_some, zOp_none, kI_int, kL_long, kO_ref, kO_null, nlt_T, nlt_F, nle_T, nle_F, neq_F, vpT, azUp_at, if_true, if_false, true_and, and_true, true_implies, false_implies, implies_true, not_true_eq_false, not_false_eq_true, true_or, or_true, false_or, or_false, and_false, false_and, eq_self, n01_0, n01_1, nm1_0]
    exact hP _ (h0.fail i)
  | succ m ih =>
    intro l I i hm h0 hl hi hP
    have hl0 : (rCode cs ++ exCode l).length ≤ i := by omega
    refine BX6_readIf_10 hR ?_
    simp (disch := omega) only [nI_ad, nI_ml, nI_lti, nI_lei, nI_eqi, nI_nn, nI_0le, nI_eq0, nI_0lt, nI_le0, nI_clamp, nI_pd, nI_sb, zOf_some, zOp_some, zOp_none, kI_int, kL_long, kO_ref, kO_null, nlt_T, nlt_F, nle_T, nle_F, neq_F, vpT, azUp_at, if_true, if_false, true_and, and_true, true_implies, false_implies, implies_true, not_true_eq_false, not_false_eq_true, true_or, or_true, false_or, or_false, and_false, false_and, eq_self, n01_0, n01_1, nm1_0, k0]
    refine S_comp hR hM ht hkb h0 hl0 hi ?_
    unfold pCs at hP
    have g := PG_C (kb := kb) (t := t) i hi
    revert hP g
    cases pC kb t i with
    | error e =>
      intro hP g I' h1
      simp (disch := omega) only [nI_ad, nI_ml, nI_lti, nI_lei, nI_eqi, nI_nn, nI_0le, nI_eq0, nI_0lt, nI_le0, nI_clamp, nI_pd, nI_sb, zOf_some, zOp_some, zOp_none, kI_int, kL_long, kO_ref, kO_null, nlt_T, nlt_F, nle_T, nle_F, neq_F, vpT, azUp_at, if_true, if_false, true_and, and_true, true_implies, false_implies, implies_true, not_true_eq_false, not_false_eq_true, true_or, or_true, false_or, or_false, and_false, false_and, eq_self, n01_0, n01_1, nm1_0]
      exact hP I' h1
    | ok x =>
      intro hP g I' h1
      rw [pb_ok] at hP
      obtain ⟨g1, g2, g3, g4⟩ := g
      have hb := tb_lt ht (i := x.2)
      have hlen : (rCode cs ++ exCode (l ++ [x.1])).length ≤ x.2 := by
        rw [exCode_add]
        by_cases e : l = []
        · subst e
          simp only [exCode, List.length_append, if_true, List.length_nil] at hl ⊢
          omega
        · rw [if_neg e] at hl ⊢
          simp only [List.length_append, List.length_cons, List.length_nil] at hl ⊢
          omega
      have h40 : ∀ I', rdOk I0 a r t kb cs (exCode (l ++ [x.1])) x.2 I' → R (d + 14) mX6_readIf 40 [.ref a, .int (nI (rCode cs).length), .int (nI (l.length + 1))] [] ((n, z, kd), I', J, F) Q := by
        intro I' h1
        refine BX6_readIf_40 hR ?_
        simp (disch := omega) only [nI_ad, nI_ml, nI_lti, nI_lei, nI_eqi, nI_nn, nI_0le, nI_eq0, nI_0lt, nI_le0, nI_clamp, nI_pd, nI_sb, zOf_some, zOp_some, zOp_none, kI_int, kL_long, kO_ref, kO_null, nlt_T, nlt_F, nle_T, nle_F, neq_F, vpT, azUp_at, if_true, if_false, true_and, and_true, true_implies, false_implies, implies_true, not_true_eq_false, not_false_eq_true, true_or, or_true, false_or, or_false, and_false, false_and, eq_self, n01_0, n01_1, nm1_0, k0]
        refine S_peek hR hM ht h1.1 g2 ?_
        by_cases c : tb t x.2 = 38
        · rw [if_pos c] at hP
          have hlt := tb_len (t := t) (i := x.2) (by omega)
          rw [c]
          simp (disch := omega) only [nI_ad, nI_ml, nI_lti, nI_lei, nI_eqi, nI_nn, nI_0le, nI_eq0, nI_0lt, nI_le0, nI_clamp, nI_pd, nI_sb, zOf_some, zOp_some, zOp_none, kI_int, kL_long, kO_ref, kO_null, nlt_T, nlt_F, nle_T, nle_F, neq_F, vpT, azUp_at, if_true, if_false, true_and, and_true, true_implies, false_implies, implies_true, not_true_eq_false, not_false_eq_true, true_or, or_true, false_or, or_false, and_false, false_and, eq_self, n01_0, n01_1, nm1_0, k0, h1.1.2.1]
          have h2 := h1.up hd (x.2 + 1)
          have e : l.length + 1 + 1 = (l ++ [x.1]).length + 1 := by rw [List.length_append]; rfl
          rw [e]
          exact ih (l ++ [x.1]) _ (x.2 + 1) (by rw [List.length_append, List.length_cons, List.length_nil]; omega) h2 (by rw [if_neg (by simp)]; omega) (by omega) hP
        · rw [if_neg c] at hP
          simp (disch := omega) only [nI_ad, nI_ml, nI_lti, nI_lei, nI_eqi, nI_nn, nI_0le, nI_eq0, nI_0lt, nI_le0, nI_clamp, nI_pd, nI_sb, zOf_some, zOp_some, zOp_none, kI_int, kL_long, kO_ref, kO_null, nlt_T, nlt_F, nle_T, nle_F, neq_F, vpT, azUp_at, if_true, if_false, true_and, and_true, true_implies, false_implies, implies_true, not_true_eq_false, not_false_eq_true, true_or, or_true, false_or, or_false, and_false, false_and, eq_self, n01_0, n01_1, nm1_0, c, k0, f5, hr.1]
          have e : l.length + 1 = (l ++ [x.1]).length := by rw [List.length_append]; rfl
          rw [e]
          exact S_addCondition hR hr h1.2.1 hk fun I2 hc2 hf2 => ⟨rfl, hP I2 (h1.rule hd hc2 hf2)⟩
      by_cases e : l = []
      · subst e
        simp (disch := omega) only [nI_ad, nI_ml, nI_lti, nI_lei, nI_eqi, nI_nn, nI_0le, nI_eq0, nI_0lt, nI_le0, nI_clamp, nI_pd, nI_sb, zOf_some, zOp_some, zOp_none, kI_int, kL_long, kO_ref, kO_null, nlt_T, nlt_F, nle_T, nle_F, neq_F, vpT, azUp_at, if_true, if_false, true_and, and_true, true_implies, false_implies, implies_true, not_true_eq_false, not_false_eq_true, true_or, or_true, false_or, or_false, and_false, false_and, eq_self, n01_0, n01_1, nm1_0, List.length_nil]
        exact h40 I' (h1.cast (by simp [exCode]))
      · have hl1 : 0 < l.length := List.length_pos_iff.mpr e
        rw [if_neg e] at hl
        simp (disch := omega) only [nI_ad, nI_ml, nI_lti, nI_lei, nI_eqi, nI_nn, nI_0le, nI_eq0, nI_0lt, nI_le0, nI_clamp, nI_pd, nI_sb, zOf_some, zOp_some, zOp_none, kI_int, kL_long, kO_ref, kO_null, nlt_T, nlt_F, nle_T, nle_F, neq_F, vpT, azUp_at, if_true, if_false, true_and, and_true, true_implies, false_implies, implies_true, not_true_eq_false, not_false_eq_true, true_or, or_true, false_or, or_false, and_false, false_and, eq_self, n01_0, n01_1, nm1_0, k0, f5, hr.1]
        exact S_item1 hR hM h1 (by simp only [List.length_append] at hl ⊢; omega) fun I2 h2 => ⟨rfl, h40 I2 (h2.cast (by rw [exCode_add, if_neg e]))⟩
theorem S_readIf (hR : azClosed R) (hM : TpOk kd F a r) (ht : tOK t) (hkb : kb < 8) (hk : cs.length < 12) (h0 : rdOk I0 a r t kb cs [] i I) (hl : (rCode cs).length ≤ i) (hi : i ≤ t.length) (hP : ifPost I0 a r t kb cs (fun I' => ((n, z, kd), I', J, F)) Q (pCs kb t 79 [] i)) : R (d + 14) mX6_readIf 0 [.ref a, .retAddr 0, .retAddr 0] [] ((n, z, kd), I, J, F) Q := by
  have ⟨k0, k1, f0, f5, hr, hd⟩ := hM
  have e : I r 5 = nI (rCode cs).length := by have := h0.2.1.2.2.2.2.2.1; rw [List.append_nil] at this; exact this
  refine BX6_readIf_0 hR ?_
  simp (disch := omega) only [nI_ad, nI_ml, nI_lti, nI_lei, nI_eqi, nI_nn, nI_0le, nI_eq0, nI_0lt, nI_le0, nI_clamp, nI_pd, nI_sb, zOf_some, zOp_some, zOp_none, kI_int, kL_long, kO_ref, kO_null, nlt_T, nlt_F, nle_T, nle_F, neq_F, vpT, azUp_at, if_true, if_false, true_and, and_true, true_implies, false_implies, implies_true, not_true_eq_false, not_false_eq_true, true_or, or_true, false_or, or_false, and_false, false_and, eq_self, n01_0, n01_1, nm1_0, k0, f5, hr.1, e]
  exact L_if hR hM ht hkb hk 79 [] I i rfl h0 (by rw [if_pos rfl]; simp only [exCode, List.append_nil]; omega) hi hP
theorem S_readOut (hR : azClosed R) (hM : TpOk kd F a r) (ht : tOK t) (hkb : kb < 8) (hk : cs.length < 12) (hg : nGv cs < 3) (h0 : rdOk I0 a r t kb cs [] i I) (hl : (rCode cs).length ≤ i) (hi : i ≤ t.length) {p : Nat} (h1 : ∀ x I', pX kb t i = .ok x → rdOk I0 a r t kb (cs ++ [(2, p, 0, [x.1])]) [] x.2 I' → Q (some (.int (nI 1))) ((n, z, kd), I', J, F)) (h2 : ∀ e I', pX kb t i = .error e → rdEr I0 a r t e I' → Q (some (.int (nI 0))) ((n, z, kd), I', J, F)) : R (d + 13) mX6_readOut 0 [.ref a, .int (nI p), .retAddr 0] [] ((n, z, kd), I, J, F) Q := by
  have ⟨k0, k1, f0, f5, hr, hd⟩ := hM
  have e : I r 5 = nI (rCode cs).length := by have := h0.2.1.2.2.2.2.2.1; rw [List.append_nil] at this; exact this
  refine BX6_readOut_0 hR ?_
  simp (disch := omega) only [nI_ad, nI_ml, nI_lti, nI_lei, nI_eqi, nI_nn, nI_0le, nI_eq0, nI_0lt, nI_le0, nI_clamp, nI_pd, nI_sb, zOf_some, zOp_some, zOp_none, kI_int, kL_long, kO_ref, kO_null, nlt_T, nlt_F, nle_T, nle_F, neq_F, vpT, azUp_at, if_true, if_false, true_and, and_true, true_implies, false_implies, implies_true, not_true_eq_false, not_false_eq_true, true_or, or_true, false_or, or_false, and_false, false_and, eq_self, n01_0, n01_1, nm1_0, k0, f5, hr.1, e]
  refine S_readSum hR hM ht hkb I i [] _ h0 (by rw [List.append_nil]; exact hl) hi ?_
  revert h1 h2
  cases pX kb t i with
  | error e =>
    intro h1 h2 I' hI
    simp (disch := omega) only [nI_ad, nI_ml, nI_lti, nI_lei, nI_eqi, nI_nn, nI_0le, nI_eq0, nI_0lt, nI_le0, nI_clamp, nI_pd, nI_sb, zOf_some, zOp_some, zOp_none, kI_int, kL_long, kO_ref, kO_null, nlt_T, nlt_F, nle_T, nle_F, neq_F, vpT, azUp_at, if_true, if_false, true_and, and_true, true_implies, false_implies, implies_true, not_true_eq_false, not_false_eq_true, true_or, or_true, false_or, or_false, and_false, false_and, eq_self, n01_0, n01_1, nm1_0]
    exact h2 e I' rfl hI
  | ok x =>
    intro h1 h2 I' hI
    simp (disch := omega) only [nI_ad, nI_ml, nI_lti, nI_lei, nI_eqi, nI_nn, nI_0le, nI_eq0, nI_0lt, nI_le0, nI_clamp, nI_pd, nI_sb, zOf_some, zOp_some, zOp_none, kI_int, kL_long, kO_ref, kO_null, nlt_T, nlt_F, nle_T, nle_F, neq_F, vpT, azUp_at, if_true, if_false, true_and, and_true, true_implies, false_implies, implies_true, not_true_eq_false, not_false_eq_true, true_or, or_true, false_or, or_false, and_false, false_and, eq_self, n01_0, n01_1, nm1_0, k0, f5, hr.1]
    exact S_addGive hR hr hI.2.1 hk hg fun I2 hc2 hf2 => ⟨rfl, h1 x I2 rfl (hI.rule hd hc2 hf2)⟩
theorem nI_bit3 {p : Nat} (hp : p < 3) : nI 1 <<< (nI p &&& 31) = nI (2 ^ p) := nI_bit (by omega)
theorem S_readIn (hR : azClosed R) (hM : TpOk kd F a r) (ht : tOK t) (hkb : kb < 8) (hk : cs.length < 12) (hg : nTk cs < 3) (h0 : rdOk I0 a r t kb cs [] i I) (hi : i ≤ t.length) {p : Nat} (h1 : 120 ≤ tb t i ∧ tb t i ≤ 122 → ∀ I', rdOk I0 a r t (kb ||| 2 ^ (tb t i - 120)) (cs ++ [(0, p, tb t i - 120, [])]) [] (i + 1) I' → Q (some (.int (nI 1))) ((n, z, kd), I', J, F)) (h2 : ¬ (120 ≤ tb t i ∧ tb t i ≤ 122) → ∀ I', rdEr I0 a r t i I' → Q (some (.int (nI 0))) ((n, z, kd), I', J, F)) : R (d + 2) mX6_readIn 0 [.ref a, .int (nI p), .retAddr 0] [] ((n, z, kd), I, J, F) Q := by
  have ⟨k0, k1, f0, f5, hr, hd⟩ := hM
  have hb := tb_lt ht (i := i)
  refine BX6_readIn_0 hR ?_
  simp (disch := omega) only [nI_ad, nI_ml, nI_lti, nI_lei, nI_eqi, nI_nn, nI_0le, nI_eq0, nI_0lt, nI_le0, nI_clamp, nI_pd, nI_sb, zOf_some, zOp_some, zOp_none, kI_int, kL_long, kO_ref, kO_null, nlt_T, nlt_F, nle_T, nle_F, neq_F, vpT, azUp_at, if_true, if_false, true_and, and_true, true_implies, false_implies, implies_true, not_true_eq_false, not_false_eq_true, true_or, or_true, false_or, or_false, and_false, false_and, eq_self, n01_0, n01_1, nm1_0, k0]
  refine S_peek hR hM ht h0.1 hi ?_
  simp (disch := omega) only [nI_ad, nI_ml, nI_lti, nI_lei, nI_eqi, nI_nn, nI_0le, nI_eq0, nI_0lt, nI_le0, nI_clamp, nI_pd, nI_sb, zOf_some, zOp_some, zOp_none, kI_int, kL_long, kO_ref, kO_null, nlt_T, nlt_F, nle_T, nle_F, neq_F, vpT, azUp_at, if_true, if_false, true_and, and_true, true_implies, false_implies, implies_true, not_true_eq_false, not_false_eq_true, true_or, or_true, false_or, or_false, and_false, false_and, eq_self, n01_0, n01_1, nm1_0]
  refine S_isName hR (by omega) ?_
  by_cases c : 120 ≤ tb t i ∧ tb t i ≤ 122
  · rw [if_pos c]
    simp (disch := omega) only [nI_ad, nI_ml, nI_lti, nI_lei, nI_eqi, nI_nn, nI_0le, nI_eq0, nI_0lt, nI_le0, nI_clamp, nI_pd, nI_sb, zOf_some, zOp_some, zOp_none, kI_int, kL_long, kO_ref, kO_null, nlt_T, nlt_F, nle_T, nle_F, neq_F, vpT, azUp_at, if_true, if_false, true_and, and_true, true_implies, false_implies, implies_true, not_true_eq_false, not_false_eq_true, true_or, or_true, false_or, or_false, and_false, false_and, eq_self, n01_0, n01_1, nm1_0, k0]
    refine S_peek hR hM ht h0.1 hi ?_
    have e4 : I a 4 = nI kb := h0.1.2.2.1
    simp (disch := omega) only [nI_ad, nI_ml, nI_lti, nI_lei, nI_eqi, nI_nn, nI_0le, nI_eq0, nI_0lt, nI_le0, nI_clamp, nI_pd, nI_sb, zOf_some, zOp_some, zOp_none, kI_int, kL_long, kO_ref, kO_null, nlt_T, nlt_F, nle_T, nle_F, neq_F, vpT, azUp_at, if_true, if_false, true_and, and_true, true_implies, false_implies, implies_true, not_true_eq_false, not_false_eq_true, true_or, or_true, false_or, or_false, and_false, false_and, eq_self, n01_0, n01_1, nm1_0, k0, f5, hr.1, h0.1.2.1, e4, nI_bit3, nI_or]
    have h3 : rdOk I0 a r t (kb ||| 2 ^ (tb t i - 120)) cs [] (i + 1) (azUp (azUp I a 2 (nI (i + 1))) a 4 (nI (kb ||| 2 ^ (tb t i - 120)))) := by
      obtain ⟨⟨t1, t2, t3, t4⟩, hc, hf⟩ := h0.up hd (i + 1)
      refine ⟨⟨?_, ?_, azUp_s, ?_⟩, hc.keep fun b h1 h2 => azUp_nb (by omega), fun b h1 h2 => ?_⟩
      · rw [azUp_nk (by omega)]; exact t1
      · rw [azUp_nk (by omega)]; exact t2
      · rw [azUp_nb (by omega)]; exact t4
      · rw [azUp_nb h1]; exact hf b h1 h2
    exact S_addTake hR hr h3.2.1 hk hg fun I2 hc2 hf2 => ⟨rfl, h1 c I2 (h3.rule hd hc2 hf2)⟩
  · rw [if_neg c]
    simp (disch := omega) only [nI_ad, nI_ml, nI_lti, nI_lei, nI_eqi, nI_nn, nI_0le, nI_eq0, nI_0lt, nI_le0, nI_clamp, nI_pd, nI_sb, zOf_some, zOp_some, zOp_none, kI_int, kL_long, kO_ref, kO_null, nlt_T, nlt_F, nle_T, nle_F, neq_F, vpT, azUp_at, if_true, if_false, true_and, and_true, true_implies, false_implies, implies_true, not_true_eq_false, not_false_eq_true, true_or, or_true, false_or, or_false, and_false, false_and, eq_self, n01_0, n01_1, nm1_0, k0, h0.1.2.1]
    refine S_fail hR hM ?_
    simp (disch := omega) only [nI_ad, nI_ml, nI_lti, nI_lei, nI_eqi, nI_nn, nI_0le, nI_eq0, nI_0lt, nI_le0, nI_clamp, nI_pd, nI_sb, zOf_some, zOp_some, zOp_none, kI_int, kL_long, kO_ref, kO_null, nlt_T, nlt_F, nle_T, nle_F, neq_F, vpT, azUp_at, if_true, if_false, true_and, and_true, true_implies, false_implies, implies_true, not_true_eq_false, not_false_eq_true, true_or, or_true, false_or, or_false, and_false, false_and, eq_self, n01_0, n01_1, nm1_0]
    exact h2 c _ (h0.fail i)
end S6
