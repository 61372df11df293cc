/-! SPECS: Paper.writeClause, writeRule. -/
theorem bool3 {a b : Bool} : a = b ∨ a ≠ b := Classical.em _
section S4
variable {R : azP} {d n z : Nat} {kd : azK} {I : azI} {J : azJ} {F : azR} {Q : azQ} {a r : Nat} {t : List Nat} {kb : Nat} {l1 l2 cs : List Cls} {c : Cls}
theorem S_writeCode (hR : azClosed R) (hP : PpOk kd F a) (hM : RuOk kd F r) (hra : a + 3 < r) (hc : cR I r (l1 ++ c :: l2) []) (ho : rlOK (l1 ++ c :: l2)) (hn : c.2.2.2 ≠ []) (hp : cP I a t) (hl : t.length + (exShow (cEx c)).length ≤ 256) (h : ∀ I', cP I' a (t ++ exShow (cEx c)) → (∀ b, b < a ∨ a + 3 < b → I' b = I b) → Q none ((n, z, kd), I', J, F)) : R (d + 3) mX4_writeCode 0 [.ref a, .ref r, .int (nI (rCode l1).length), .int (nI ((rCode l1).length + (cCode c).length)), .retAddr 0, .retAddr 0, .retAddr 0] [] ((n, z, kd), I, J, F) Q := by
  have hcl := ho.2.2.2.2.2.2 c (by simp)
  have hE : (rCode l1).length + (cCode c).length ≤ 80 := by
    have := ho.2.1
    have e : rCode (l1 ++ c :: l2) = rCode l1 ++ (cCode c ++ rCode l2) := by simp [rCode]
    rw [e, List.length_append, List.length_append] at this
    omega
  have ec := cEx_code hn
  have hco := hc.code
  rw [ec] at hE hco
  rw [ec]
  refine BX4_writeCode_0 hR ?_
  refine L_code (kb := knB (l1 ++ c :: l2)) hR hP hM hra rfl hE (cEx c) _ 0 I _ t (cEx_ok hcl hn) hco hp hl (Nat.le_refl _) (by omega) fun I' w6 a1 a2 a3 a4 a5 => ?_
  refine BX4_writeCode_6 hR ?_
  simp (disch := omega) only [nI_ad, nI_ml, nI_lti, nI_lei, nI_eqi, nI_nn, nI_0le, nI_eq0, nI_0lt, nI_le0, nI_clamp, nI_pd, nI_sb, zOf_some, zOp_some, zOp_none, kI_int, kL_long, kO_ref, kO_null, nlt_T, nlt_F, nle_T, nle_F, neq_F, vpT, azUp_at, if_true, if_false, true_and, and_true, true_implies, false_implies, implies_true, not_true_eq_false, not_false_eq_true, true_or, or_true, false_or, or_false, and_false, false_and, eq_self, n01_0, n01_1, nm1_0]
  exact h I' a1 a5
theorem S_writeClause (hR : azClosed R) (hP : PpOk kd F a) (hA : a + 3 < azB) (hX : TxOk kd I) (hM : RuOk kd F r) (hra : a + 3 < r) (hc : cR I r (l1 ++ c :: l2) []) (ho : rlOK (l1 ++ c :: l2)) (hp : cP I a t) (hl : t.length + (clShow c).length ≤ 256) (h : ∀ I', cP I' a (t ++ clShow c) → (∀ b, b < a ∨ a + 3 < b → I' b = I b) → Q none ((n, z, kd), I', J, F)) : R (d + 5) mX4_writeClause 0 [.ref a, .ref r, .int (nI l1.length), .retAddr 0] [] ((n, z, kd), I, J, F) Q := by
  have hcl := ho.2.2.2.2.2.2 c (by simp)
  have k0 := hP.1
  have hl1 : l1.length < 12 := by have := ho.1; rw [List.length_append, List.length_cons] at this; omega
  have keepc : ∀ I', (∀ b, b < a ∨ a + 3 < b → I' b = I b) → cR I' r (l1 ++ c :: l2) [] := fun I' hf => hc.keep fun b h1 h2 => hf b (by omega)
  have s77 : (c.1 = 2 ∨ c.1 = 1) → ∀ (I1 : azI) (T : List Nat), cP I1 a T → T ++ exShow (cEx c) = t ++ clShow c → (∀ b, b < a ∨ a + 3 < b → I1 b = I b) → R (d + 5) mX4_writeClause 77 [.ref a, .ref r, .int (nI l1.length), .int (nI c.1)] [] ((n, z, kd), I1, J, F) Q := by
    intro c12 I1 T g1 g2 g3
    have hc1 := keepc I1 g3
    have hne : c.2.2.2 ≠ [] := by
      rcases c12 with e | e
      · obtain ⟨q, hq⟩ := hcl.2.2.2.2.2.2.2 e
        rw [hq]; simp
      · exact hcl.2.2.2.2.2.2.1 e
    refine BX4_writeClause_77 hR ?_
    simp (disch := omega) only [nI_ad, nI_ml, nI_lti, nI_lei, nI_eqi, nI_nn, nI_0le, nI_eq0, nI_0lt, nI_le0, nI_clamp, nI_pd, nI_sb, zOf_some, zOp_some, zOp_none, kI_int, kL_long, kO_ref, kO_null, nlt_T, nlt_F, nle_T, nle_F, neq_F, vpT, azUp_at, if_true, if_false, true_and, and_true, true_implies, false_implies, implies_true, not_true_eq_false, not_false_eq_true, true_or, or_true, false_or, or_false, and_false, false_and, eq_self, n01_0, n01_1, nm1_0, hM.1]
    refine S_begin hR hM hl1 ?_
    rw [hc1.beg]
    simp (disch := omega) only [nI_ad, nI_ml, nI_lti, nI_lei, nI_eqi, nI_nn, nI_0le, nI_eq0, nI_0lt, nI_le0, nI_clamp, nI_pd, nI_sb, zOf_some, zOp_some, zOp_none, kI_int, kL_long, kO_ref, kO_null, nlt_T, nlt_F, nle_T, nle_F, neq_F, vpT, azUp_at, if_true, if_false, true_and, and_true, true_implies, false_implies, implies_true, not_true_eq_false, not_false_eq_true, true_or, or_true, false_or, or_false, and_false, false_and, eq_self, n01_0, n01_1, nm1_0, hM.1]
    refine S_end hR hM hl1 ?_
    rw [hc1.fin]
    simp (disch := omega) only [nI_ad, nI_ml, nI_lti, nI_lei, nI_eqi, nI_nn, nI_0le, nI_eq0, nI_0lt, nI_le0, nI_clamp, nI_pd, nI_sb, zOf_some, zOp_some, zOp_none, kI_int, kL_long, kO_ref, kO_null, nlt_T, nlt_F, nle_T, nle_F, neq_F, vpT, azUp_at, if_true, if_false, true_and, and_true, true_implies, false_implies, implies_true, not_true_eq_false, not_false_eq_true, true_or, or_true, false_or, or_false, and_false, false_and, eq_self, n01_0, n01_1, nm1_0, k0]
    refine S_writeCode hR hP hM hra hc1 ho hne g1 (by rw [← List.length_append, g2, List.length_append]; exact hl) fun I2 q1 q2 => ⟨rfl, ?_⟩
    rw [g2] at q1
    exact h I2 q1 fun b hb => by rw [q2 b hb, g3 b hb]
  have s67 : ∀ (I1 : azI) (T : List Nat), cP I1 a T → T ++ (if c.1 = 2 ∨ c.1 = 1 then exShow (cEx c) else []) = t ++ clShow c → (∀ b, b < a ∨ a + 3 < b → I1 b = I b) → R (d + 5) mX4_writeClause 67 [.ref a, .ref r, .int (nI l1.length), .int (nI c.1)] [] ((n, z, kd), I1, J, F) Q := by
    intro I1 T g1 g2 g3
    have hc4 := hcl.1
    refine BX4_writeClause_67 hR ?_
    simp (disch := omega) only [nI_ad, nI_ml, nI_lti, nI_lei, nI_eqi, nI_nn, nI_0le, nI_eq0, nI_0lt, nI_le0, nI_clamp, nI_pd, nI_sb, zOf_some, zOp_some, zOp_none, kI_int, kL_long, kO_ref, kO_null, nlt_T, nlt_F, nle_T, nle_F, neq_F, vpT, azUp_at, if_true, if_false, true_and, and_true, true_implies, false_implies, implies_true, not_true_eq_false, not_false_eq_true, true_or, or_true, false_or, or_false, and_false, false_and, eq_self, n01_0, n01_1, nm1_0]
    refine ⟨fun e => ?_, fun e => ⟨fun e1 => ?_, fun e1 => ?_⟩⟩
    · rw [if_pos (Or.inl e)] at g2
      exact s77 (Or.inl e) I1 T g1 g2 g3
    · rw [if_neg (by omega), List.append_nil] at g2
      rw [g2] at g1
      exact h I1 g1 g3
    · have e1 := Classical.not_not.mp e1
      rw [if_pos (Or.inr e1)] at g2
      exact s77 (Or.inr e1) I1 T g1 g2 g3
  have s56 : ∀ (I1 : azI) (T : List Nat), cP I1 a T → T ++ ((if c.1 = 2 then [32] else []) ++ (if c.1 = 2 ∨ c.1 = 1 then exShow (cEx c) else [])) = t ++ clShow c → (∀ b, b < a ∨ a + 3 < b → I1 b = I b) → R (d + 5) mX4_writeClause 56 [.ref a, .ref r, .int (nI l1.length), .int (nI c.1)] [] ((n, z, kd), I1, J, F) Q := by
    intro I1 T g1 g2 g3
    have hc4 := hcl.1
    refine BX4_writeClause_56 hR ?_
    simp (disch := omega) only [nI_ad, nI_ml, nI_lti, nI_lei, nI_eqi, nI_nn, nI_0le, nI_eq0, nI_0lt, nI_le0, nI_clamp, nI_pd, nI_sb, zOf_some, zOp_some, zOp_none, kI_int, kL_long, kO_ref, kO_null, nlt_T, nlt_F, nle_T, nle_F, neq_F, vpT, azUp_at, if_true, if_false, true_and, and_true, true_implies, false_implies, implies_true, not_true_eq_false, not_false_eq_true, true_or, or_true, false_or, or_false, and_false, false_and, eq_self, n01_0, n01_1, nm1_0, k0]
    refine ⟨fun e => ?_, fun e => ?_⟩
    · rw [if_neg e, List.nil_append] at g2
      exact s67 I1 T g1 g2 g3
    · have e := Classical.not_not.mp e
      rw [if_pos e] at g2
      have hlen : T.length < 256 := by
        have := congrArg List.length g2
        simp only [List.length_append, List.length_cons] at this
        omega
      refine S_write hR hP g1 hlen fun I2 q1 q2 => ⟨rfl, ?_⟩
      refine s67 I2 _ q1 (by rw [List.append_assoc]; exact g2) fun b hb => by rw [q2 b (by omega) (by omega), g3 b hb]
  have s34 : ∀ (I1 : azI) (T : List Nat), cP I1 a T → T ++ ((if c.1 = 0 then [32, 120 + c.2.2.1] else []) ++ ((if c.1 = 2 then [32] else []) ++ (if c.1 = 2 ∨ c.1 = 1 then exShow (cEx c) else []))) = t ++ clShow c → (∀ b, b < a ∨ a + 3 < b → I1 b = I b) → R (d + 5) mX4_writeClause 34 [.ref a, .ref r, .int (nI l1.length), .int (nI c.1)] [] ((n, z, kd), I1, J, F) Q := by
    intro I1 T g1 g2 g3
    have hc4 := hcl.1
    refine BX4_writeClause_34 hR ?_
    simp (disch := omega) only [nI_ad, nI_ml, nI_lti, nI_lei, nI_eqi, nI_nn, nI_0le, nI_eq0, nI_0lt, nI_le0, nI_clamp, nI_pd, nI_sb, zOf_some, zOp_some, zOp_none, kI_int, kL_long, kO_ref, kO_null, nlt_T, nlt_F, nle_T, nle_F, neq_F, vpT, azUp_at, if_true, if_false, true_and, and_true, true_implies, false_implies, implies_true, not_true_eq_false, not_false_eq_true, true_or, or_true, false_or, or_false, and_false, false_and, eq_self, n01_0, n01_1, nm1_0, k0]
    refine ⟨fun e => ?_, fun e => ?_⟩
    · rw [if_neg e, List.nil_append] at g2
      exact s56 I1 T g1 g2 g3
    · have e := Classical.not_not.mp e
      rw [if_pos e] at g2
      have hlen : T.length + 2 ≤ 256 := by
        have := congrArg List.length g2
        simp only [List.length_append, List.length_cons, List.length_nil] at this
        omega
      have hw : I1 (r + 3) l1.length = nI c.2.2.1 := by
        have := (keepc I1 g3).name
        unfold cW at this
        rw [if_pos e] at this
        exact this
      refine S_write hR hP g1 (by omega) fun I2 q1 q2 => ⟨rfl, ?_⟩
      simp (disch := omega) only [nI_ad, nI_ml, nI_lti, nI_lei, nI_eqi, nI_nn, nI_0le, nI_eq0, nI_0lt, nI_le0, nI_clamp, nI_pd, nI_sb, zOf_some, zOp_some, zOp_none, kI_int, kL_long, kO_ref, kO_null, nlt_T, nlt_F, nle_T, nle_F, neq_F, vpT, azUp_at, if_true, if_false, true_and, and_true, true_implies, false_implies, implies_true, not_true_eq_false, not_false_eq_true, true_or, or_true, false_or, or_false, and_false, false_and, eq_self, n01_0, n01_1, nm1_0, hM.1]
      refine S_name hR hM hl1 ?_
      rw [q2 _ (by omega) (by omega), hw]
      simp (disch := omega) only [nI_ad, nI_ml, nI_lti, nI_lei, nI_eqi, nI_nn, nI_0le, nI_eq0, nI_0lt, nI_le0, nI_clamp, nI_pd, nI_sb, zOf_some, zOp_some, zOp_none, kI_int, kL_long, kO_ref, kO_null, nlt_T, nlt_F, nle_T, nle_F, neq_F, vpT, azUp_at, if_true, if_false, true_and, and_true, true_implies, false_implies, implies_true, not_true_eq_false, not_false_eq_true, true_or, or_true, false_or, or_false, and_false, false_and, eq_self, n01_0, n01_1, nm1_0, k0]
      refine S_write hR hP q1 (by rw [List.length_append, List.length_cons, List.length_nil]; omega) fun I3 u1 u2 => ⟨rfl, ?_⟩
      refine s56 I3 _ u1 ?_ fun b hb => by rw [u2 b (by omega) (by omega), q2 b (by omega) (by omega), g3 b hb]
      rw [← g2]
      simp
  have hc4 := hcl.1
  have e0 : clShow c = wTx.getD c.1 [] ++ ([32] ++ ((if c.1 = 1 then [] else numTx c.2.1) ++ ((if c.1 = 0 then [32, 120 + c.2.2.1] else []) ++ ((if c.1 = 2 then [32] else []) ++ (if c.1 = 2 ∨ c.1 = 1 then exShow (cEx c) else []))))) := by
    unfold clShow
    simp only [List.append_assoc]
  have hkd : I (r + 1) l1.length = nI c.1 := hc.kind
  rw [e0, List.length_append, List.length_append, List.length_cons, List.length_nil] at hl
  refine BX4_writeClause_0 hR ?_
  simp (disch := omega) only [nI_ad, nI_ml, nI_lti, nI_lei, nI_eqi, nI_nn, nI_0le, nI_eq0, nI_0lt, nI_le0, nI_clamp, nI_pd, nI_sb, zOf_some, zOp_some, zOp_none, kI_int, kL_long, kO_ref, kO_null, nlt_T, nlt_F, nle_T, nle_F, neq_F, vpT, azUp_at, if_true, if_false, true_and, and_true, true_implies, false_implies, implies_true, not_true_eq_false, not_false_eq_true, true_or, or_true, false_or, or_false, and_false, false_and, eq_self, n01_0, n01_1, nm1_0, hM.1]
  refine S_kind hR hM hl1 ?_
  rw [hkd]
  simp (disch := omega) only [nI_ad, nI_ml, nI_lti, nI_lei, nI_eqi, nI_nn, nI_0le, nI_eq0, nI_0lt, nI_le0, nI_clamp, nI_pd, nI_sb, zOf_some, zOp_some, zOp_none, kI_int, kL_long, kO_ref, kO_null, nlt_T, nlt_F, nle_T, nle_F, neq_F, vpT, azUp_at, if_true, if_false, true_and, and_true, true_implies, false_implies, implies_true, not_true_eq_false, not_false_eq_true, true_or, or_true, false_or, or_false, and_false, false_and, eq_self, n01_0, n01_1, nm1_0]
  refine S_wordOf hR hc4 ?_
  simp (disch := omega) only [nI_ad, nI_ml, nI_lti, nI_lei, nI_eqi, nI_nn, nI_0le, nI_eq0, nI_0lt, nI_le0, nI_clamp, nI_pd, nI_sb, zOf_some, zOp_some, zOp_none, kI_int, kL_long, kO_ref, kO_null, nlt_T, nlt_F, nle_T, nle_F, neq_F, vpT, azUp_at, if_true, if_false, true_and, and_true, true_implies, false_implies, implies_true, not_true_eq_false, not_false_eq_true, true_or, or_true, false_or, or_false, and_false, false_and, eq_self, n01_0, n01_1, nm1_0, k0]
  refine S_writeText hR hP hA hX hc4 hp (by omega) fun I1 q1 q2 => ⟨rfl, ?_⟩
  simp (disch := omega) only [nI_ad, nI_ml, nI_lti, nI_lei, nI_eqi, nI_nn, nI_0le, nI_eq0, nI_0lt, nI_le0, nI_clamp, nI_pd, nI_sb, zOf_some, zOp_some, zOp_none, kI_int, kL_long, kO_ref, kO_null, nlt_T, nlt_F, nle_T, nle_F, neq_F, vpT, azUp_at, if_true, if_false, true_and, and_true, true_implies, false_implies, implies_true, not_true_eq_false, not_false_eq_true, true_or, or_true, false_or, or_false, and_false, false_and, eq_self, n01_0, n01_1, nm1_0, k0]
  refine S_write hR hP q1 (by rw [List.length_append]; omega) fun I2 u1 u2 => ⟨rfl, ?_⟩
  have f2 : ∀ b, b < a ∨ a + 3 < b → I2 b = I b := fun b hb => by rw [u2 b (by omega) (by omega), q2 b (by omega) (by omega)]
  by_cases c1 : c.1 = 1
  · simp (disch := omega) only [nI_ad, nI_ml, nI_lti, nI_lei, nI_eqi, nI_nn, nI_0le, nI_eq0, nI_0lt, nI_le0, nI_clamp, nI_pd, nI_sb, zOf_some, zOp_some, zOp_none, kI_int, kL_long, kO_ref, kO_null, nlt_T, nlt_F, nle_T, nle_F, neq_F, vpT, azUp_at, if_true, if_false, true_and, and_true, true_implies, false_implies, implies_true, not_true_eq_false, not_false_eq_true, true_or, or_true, false_or, or_false, and_false, false_and, eq_self, n01_0, n01_1, nm1_0, c1]
    have := s34 I2 _ u1 (by rw [e0, if_pos c1]; simp only [List.append_assoc, List.nil_append]) f2
    rw [c1] at this
    exact this
  · simp (disch := omega) only [nI_ad, nI_ml, nI_lti, nI_lei, nI_eqi, nI_nn, nI_0le, nI_eq0, nI_0lt, nI_le0, nI_clamp, nI_pd, nI_sb, zOf_some, zOp_some, zOp_none, kI_int, kL_long, kO_ref, kO_null, nlt_T, nlt_F, nle_T, nle_F, neq_F, vpT, azUp_at, if_true, if_false, true_and, and_true, true_implies, false_implies, implies_true, not_true_eq_false, not_false_eq_true, true_or, or_true, false_or, or_false, and_false, false_and, eq_self, n01_0, n01_1, nm1_0, c1, hM.1]
    refine S_place hR hM hl1 ?_
    have hpl : I2 (r + 2) l1.length = nI c.2.1 := by
      have := (keepc I2 f2).place
      unfold cPl at this
      rw [if_neg c1] at this
      exact this
    rw [hpl]
    simp (disch := omega) only [nI_ad, nI_ml, nI_lti, nI_lei, nI_eqi, nI_nn, nI_0le, nI_eq0, nI_0lt, nI_le0, nI_clamp, nI_pd, nI_sb, zOf_some, zOp_some, zOp_none, kI_int, kL_long, kO_ref, kO_null, nlt_T, nlt_F, nle_T, nle_F, neq_F, vpT, azUp_at, if_true, if_false, true_and, and_true, true_implies, false_implies, implies_true, not_true_eq_false, not_false_eq_true, true_or, or_true, false_or, or_false, and_false, false_and, eq_self, n01_0, n01_1, nm1_0, k0]
    have := hcl.2.1
    rw [if_neg c1, List.length_append] at hl
    refine S_writeNumber hR hP u1 (by omega) (by simp only [List.length_append, List.length_cons, List.length_nil]; omega) fun I3 v1 v2 => ⟨rfl, ?_⟩
    exact s34 I3 _ v1 (by rw [e0, if_neg c1]; simp only [List.append_assoc]) fun b hb => by rw [v2 b (by omega) (by omega), f2 b hb]
theorem S_writeRule (hR : azClosed R) (hP : PpOk kd F a) (hA : a + 3 < azB) (hX : TxOk kd I) (hM : RuOk kd F r) (hra : a + 3 < r) (hc : cR I r cs []) (ho : rlOK cs) (hl : (rShow cs).length ≤ 256) (h : ∀ I', cP I' a (rShow cs) → (∀ b, b < a ∨ a + 3 < b → I' b = I b) → Q none ((n, z, kd), I', J, F)) : R (d + 6) mX4_writeRule 0 [.ref a, .ref r, .retAddr 0] [] ((n, z, kd), I, J, F) Q := by
  have k0 := hP.1
  have main : ∀ (l2 l1 : List Cls) (I1 : azI), l1 ++ l2 = cs → cP I1 a (rShow l1) → (∀ b, b < a ∨ a + 3 < b → I1 b = I b) → R (d + 6) mX4_writeRule 7 [.ref a, .ref r, .int (nI l1.length)] [] ((n, z, kd), I1, J, F) Q := by
    intro l2
    induction l2 with
    | nil =>
      intro l1 I1 e hp hf
      rw [List.append_nil] at e
      have e0 : I1 r 0 = nI l1.length := by rw [hf r (by omega), hc.1, e]
      have := ho.1
      rw [← e] at this
      refine BX4_writeRule_7 hR ?_
      simp (disch := omega) only [nI_ad, nI_ml, nI_lti, nI_lei, nI_eqi, nI_nn, nI_0le, nI_eq0, nI_0lt, nI_le0, nI_clamp, nI_pd, nI_sb, zOf_some, zOp_some, zOp_none, kI_int, kL_long, kO_ref, kO_null, nlt_T, nlt_F, nle_T, nle_F, neq_F, vpT, azUp_at, if_true, if_false, true_and, and_true, true_implies, false_implies, implies_true, not_true_eq_false, not_false_eq_true, true_or, or_true, false_or, or_false, and_false, false_and, eq_self, n01_0, n01_1, nm1_0, hM.1, e0]
      rw [e] at hp
      exact h I1 hp hf
    | cons c l2 ih =>
      intro l1 I1 e hp hf
      have hX1 : ∀ I2 : azI, (∀ b, b < a ∨ a + 3 < b → I2 b = I b) → TxOk kd I2 := fun I2 hf2 j hj => ⟨(hX j hj).1, (hX j hj).2.1, fun k hk => by rw [hf2 _ (by omega)]; exact (hX j hj).2.2 k hk⟩
      have hc1 : ∀ I2 : azI, (∀ b, b < a ∨ a + 3 < b → I2 b = I b) → cR I2 r (l1 ++ c :: l2) [] := fun I2 hf2 => by
        rw [e]
        exact hc.keep fun b h1 h2 => hf2 b (by omega)
      have ho1 : rlOK (l1 ++ c :: l2) := by rw [e]; exact ho
      have hlen := ho1.1
      have e0 : I1 r 0 = nI (l1 ++ c :: l2).length := by rw [hf r (by omega), hc.1, e]
      rw [List.length_append, List.length_cons] at e0 hlen
      have hs : (rShow (l1 ++ [c])).length ≤ 256 := by
        have := rShow_len (l1 ++ [c]) l2
        rw [List.append_assoc, List.singleton_append, e] at this
        omega
      have el : l1.length + 1 = (l1 ++ [c]).length := by simp
      have hadd := rShow_add l1 c
      rw [hadd] at hs
      have next : ∀ I2 : azI, cP I2 a (rShow (l1 ++ [c])) → (∀ b, b < a ∨ a + 3 < b → I2 b = I b) → R (d + 6) mX4_writeRule 7 [.ref a, .ref r, .int (nI (l1.length + 1))] [] ((n, z, kd), I2, J, F) Q := by
        intro I2 g1 g2
        rw [el]
        exact ih (l1 ++ [c]) I2 (by rw [← e]; simp) g1 g2
      refine BX4_writeRule_7 hR ?_
      simp (disch := omega) only [nI_ad, nI_ml, nI_lti, nI_lei, nI_eqi, nI_nn, nI_0le, nI_eq0, nI_0lt, nI_le0, nI_clamp, nI_pd, nI_sb, zOf_some, zOp_some, zOp_none, kI_int, kL_long, kO_ref, kO_null, nlt_T, nlt_F, nle_T, nle_F, neq_F, vpT, azUp_at, if_true, if_false, true_and, and_true, true_implies, false_implies, implies_true, not_true_eq_false, not_false_eq_true, true_or, or_true, false_or, or_false, and_false, false_and, eq_self, n01_0, n01_1, nm1_0, hM.1, e0, k0]
      by_cases c0 : l1 = []
      · subst c0
        simp (disch := omega) only [nI_ad, nI_ml, nI_lti, nI_lei, nI_eqi, nI_nn, nI_0le, nI_eq0, nI_0lt, nI_le0, nI_clamp, nI_pd, nI_sb, zOf_some, zOp_some, zOp_none, kI_int, kL_long, kO_ref, kO_null, nlt_T, nlt_F, nle_T, nle_F, neq_F, vpT, azUp_at, if_true, if_false, true_and, and_true, true_implies, false_implies, implies_true, not_true_eq_false, not_false_eq_true, true_or, or_true, false_or, or_false, and_false, false_and, eq_self, n01_0, n01_1, nm1_0, List.length_nil]
        rw [if_pos rfl, List.append_nil] at hs hadd
        refine S_writeClause (l1 := []) hR hP hA (hX1 I1 hf) hM hra (hc1 I1 hf) ho1 hp (by rw [← List.length_append]; exact hs) fun I2 g1 g2 => ⟨rfl, ?_⟩
        exact next I2 (by rw [hadd]; exact g1) fun b hb => by rw [g2 b hb, hf b hb]
      · have hpos : 0 < l1.length := List.length_pos_iff.mpr c0
        have hx : ¬ (l1.length = 0) := by omega
        simp (disch := omega) only [nI_ad, nI_ml, nI_lti, nI_lei, nI_eqi, nI_nn, nI_0le, nI_eq0, nI_0lt, nI_le0, nI_clamp, nI_pd, nI_sb, zOf_some, zOp_some, zOp_none, kI_int, kL_long, kO_ref, kO_null, nlt_T, nlt_F, nle_T, nle_F, neq_F, vpT, azUp_at, if_true, if_false, true_and, and_true, true_implies, false_implies, implies_true, not_true_eq_false, not_false_eq_true, true_or, or_true, false_or, or_false, and_false, false_and, eq_self, n01_0, n01_1, nm1_0, hx]
        rw [if_neg c0] at hs hadd
        have hs' := hs
        simp only [List.length_append, List.length_cons, List.length_nil] at hs'
        refine S_write hR hP hp (by omega) fun I2 g1 g2 => ⟨rfl, ?_⟩
        have hf2 : ∀ b, b < a ∨ a + 3 < b → I2 b = I b := fun b hb => by rw [g2 b (by omega) (by omega), hf b hb]
        simp (disch := omega) only [nI_ad, nI_ml, nI_lti, nI_lei, nI_eqi, nI_nn, nI_0le, nI_eq0, nI_0lt, nI_le0, nI_clamp, nI_pd, nI_sb, zOf_some, zOp_some, zOp_none, kI_int, kL_long, kO_ref, kO_null, nlt_T, nlt_F, nle_T, nle_F, neq_F, vpT, azUp_at, if_true, if_false, true_and, and_true, true_implies, false_implies, implies_true, not_true_eq_false, not_false_eq_true, true_or, or_true, false_or, or_false, and_false, false_and, eq_self, n01_0, n01_1, nm1_0, k0]
        refine S_writeClause hR hP hA (hX1 I2 hf2) hM hra (hc1 I2 hf2) ho1 g1 (by rw [← List.length_append]; exact hs) fun I3 q1 q2 => ⟨rfl, ?_⟩
        exact next I3 (by rw [hadd]; exact q1) fun b hb => by rw [q2 b hb, hf2 b hb]
  refine BX4_writeRule_0 hR ⟨k0, ?_⟩
  refine main cs [] _ rfl ⟨azUp_s, fun i hi => absurd hi (Nat.not_lt_zero _)⟩ fun b hb => azUp_nb (by omega)
theorem S_paperAt (hR : azClosed R) (hP : PpOk kd F a) (hp : cP I a t) (hl : t.length ≤ 256) {x : Int32} (h : Q (some (.int (match ix x t.length with | none => -(nI 1) | some k => nI (t.getD k 0)))) ((n, z, kd), I, J, F)) : R d mX4_at 0 [.ref a, .int x] [] ((n, z, kd), I, J, F) Q := by
  obtain ⟨k0, k1, k2, k3, f0, f1, f2⟩ := hP
  refine BX4_at_0 hR ?_
  rcases ix_cases x (n := t.length) (by omega) with ⟨e, c | ⟨c0, c⟩⟩ | ⟨k, hk, rfl, e⟩
  · rw [e] at h; simp (disch := omega) only [nI_ad, nI_ml, nI_lti, nI_lei, nI_eqi, nI_nn, nI_0le, nI_eq0, nI_0lt, nI_le0, nI_clamp, nI_pd, nI_sb, zOf_some, zOp_some, zOp_none, kI_int, kL_long, kO_ref, kO_null, nlt_T, nlt_F, nle_T, nle_F, neq_F, vpT, azUp_at, if_true, if_false, true_and, and_true, true_implies, false_implies, implies_true, not_true_eq_false, not_false_eq_true, true_or, or_true, false_or, or_false, and_false, false_and, eq_self, n01_0, n01_1, nm1_0, c]; exact h
  · rw [e] at h; simp (disch := omega) only [nI_ad, nI_ml, nI_lti, nI_lei, nI_eqi, nI_nn, nI_0le, nI_eq0, nI_0lt, nI_le0, nI_clamp, nI_pd, nI_sb, zOf_some, zOp_some, zOp_none, kI_int, kL_long, kO_ref, kO_null, nlt_T, nlt_F, nle_T, nle_F, neq_F, vpT, azUp_at, if_true, if_false, true_and, and_true, true_implies, false_implies, implies_true, not_true_eq_false, not_false_eq_true, true_or, or_true, false_or, or_false, and_false, false_and, eq_self, n01_0, n01_1, nm1_0, c0, k0, hp.1, c]; exact h
  · rw [e] at h; simp (disch := omega) only [nI_ad, nI_ml, nI_lti, nI_lei, nI_eqi, nI_nn, nI_0le, nI_eq0, nI_0lt, nI_le0, nI_clamp, nI_pd, nI_sb, zOf_some, zOp_some, zOp_none, kI_int, kL_long, kO_ref, kO_null, nlt_T, nlt_F, nle_T, nle_F, neq_F, vpT, azUp_at, if_true, if_false, true_and, and_true, true_implies, false_implies, implies_true, not_true_eq_false, not_false_eq_true, true_or, or_true, false_or, or_false, and_false, false_and, eq_self, n01_0, n01_1, nm1_0, k0, hp.1, f0, k1, hp.2.get hk]; exact h
end S4
