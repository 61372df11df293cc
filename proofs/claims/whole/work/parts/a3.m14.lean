/-! THE REFERENCE: has, change, line. -/
section S9
variable {R : azP} {d n z : Nat} {kd : azK} {I : azI} {J : azJ} {F : azR} {Q : azQ} {st : St} {σ : azS} {cs : List Cls} {t : List Nat}
theorem S_mdHas (hR : azClosed R) (hW : MW σ st) {x y : Int32} (h : ∀ σ', MW σ' st → mdF σ σ' → Q (some (.int (aHas st x y))) σ') : R (d + 25) mX9_has 0 [.ref 228, .int x, .int y, .retAddr 0, .retAddr 0] [] σ Q := by
  obtain ⟨⟨n, z, kd⟩, I, J, F⟩ := σ
  obtain ⟨hK, hC, hS⟩ := id hW
  have hK : MdOk kd F := hK
  have hC : cMd I st := hC
  have k0 := hK.1
  refine BX9_has_0 hR (S_isPlace9 hR ?_)
  unfold isP
  unfold aHas at h
  rcases ix_cases x (n := 10) (by decide) with ⟨e, c⟩ | ⟨p, hp, rfl, e⟩
  · rw [e] at h ⊢
    simp (disch := omega) only [nI_ad, nI_ml, nI_lti, nI_lei, nI_eqi, nI_nn, nI_0le, nI_eq0, nI_0lt, nI_le0, nI_clamp, nI_pd, nI_sb, zOf_some, zOp_some, zOp_none, kI_int, kL_long, kO_ref, kO_null, nlt_T, nlt_F, nle_T, nle_F, neq_F, vpT, azUp_at, if_true, if_false, true_and, and_true, true_implies, false_implies, implies_true, not_true_eq_false, not_false_eq_true, true_or, or_true, false_or, or_false, and_false, false_and, eq_self, n01_0, n01_1, nm1_0]
    exact h _ hW mdF.refl
  rw [e] at h ⊢
  dsimp only at h
  simp (disch := omega) only [nI_ad, nI_ml, nI_lti, nI_lei, nI_eqi, nI_nn, nI_0le, nI_eq0, nI_0lt, nI_le0, nI_clamp, nI_pd, nI_sb, zOf_some, zOp_some, zOp_none, kI_int, kL_long, kO_ref, kO_null, nlt_T, nlt_F, nle_T, nle_F, neq_F, vpT, azUp_at, if_true, if_false, true_and, and_true, true_implies, false_implies, implies_true, not_true_eq_false, not_false_eq_true, true_or, or_true, false_or, or_false, and_false, false_and, eq_self, n01_0, n01_1, nm1_0]
  refine S_isInP9 hR (k := 4) (by decide) rfl rfl ?_
  unfold isP
  rcases ix_cases y (n := 4) (by decide) with ⟨e, c⟩ | ⟨w, hw, rfl, e⟩
  · rw [e] at h ⊢
    simp (disch := omega) only [nI_ad, nI_ml, nI_lti, nI_lei, nI_eqi, nI_nn, nI_0le, nI_eq0, nI_0lt, nI_le0, nI_clamp, nI_pd, nI_sb, zOf_some, zOp_some, zOp_none, kI_int, kL_long, kO_ref, kO_null, nlt_T, nlt_F, nle_T, nle_F, neq_F, vpT, azUp_at, if_true, if_false, true_and, and_true, true_implies, false_implies, implies_true, not_true_eq_false, not_false_eq_true, true_or, or_true, false_or, or_false, and_false, false_and, eq_self, n01_0, n01_1, nm1_0]
    exact h _ hW mdF.refl
  rw [e] at h ⊢
  dsimp only at h
  simp (disch := omega) only [nI_ad, nI_ml, nI_lti, nI_lei, nI_eqi, nI_nn, nI_0le, nI_eq0, nI_0lt, nI_le0, nI_clamp, nI_pd, nI_sb, zOf_some, zOp_some, zOp_none, kI_int, kL_long, kO_ref, kO_null, nlt_T, nlt_F, nle_T, nle_F, neq_F, vpT, azUp_at, if_true, if_false, true_and, and_true, true_implies, false_implies, implies_true, not_true_eq_false, not_false_eq_true, true_or, or_true, false_or, or_false, and_false, false_and, eq_self, n01_0, n01_1, nm1_0, k0]
  refine S_readsRule9 hR hK hC.2.1 hS.2.1 hp (fun hr I1 g1 g2 _ => ?_) (fun t cs hr I1 g1 g2 _ g3 g4 g5 g6 => ?_)
  · rw [hr] at h
    obtain ⟨w1, w2⟩ := hW.kp g1 (J' := J) fun _ _ => rfl
    simp (disch := omega) only [nI_ad, nI_ml, nI_lti, nI_lei, nI_eqi, nI_nn, nI_0le, nI_eq0, nI_0lt, nI_le0, nI_clamp, nI_pd, nI_sb, zOf_some, zOp_some, zOp_none, kI_int, kL_long, kO_ref, kO_null, nlt_T, nlt_F, nle_T, nle_F, neq_F, vpT, azUp_at, if_true, if_false, true_and, and_true, true_implies, false_implies, implies_true, not_true_eq_false, not_false_eq_true, true_or, or_true, false_or, or_false, and_false, false_and, eq_self, n01_0, n01_1, nm1_0]
    exact h _ w1 w2
  · rw [hr] at h
    dsimp only at h
    obtain ⟨w1, w2⟩ := hW.kp g1 (J' := J) fun _ _ => rfl
    have h := h _ w1 w2
    obtain ⟨u1, u2, u3⟩ := hS.2.1 p t cs hr
    have hrl : rlOK cs := by
      have := pgQ_rule (t := t) u1.1
      rw [u3] at this
      exact this
    have hb := rBits_lt cs fun c hc => (hrl.2.2.2.2.2.2 c hc).2.1
    obtain ⟨q1, q2, q3, q4, _⟩ := g4
    have main : ∀ s k, s + k = 10 → R (d + 25) mX9_has 37 [.ref 228, .int (nI p), .int (nI w), .int (nI (pcT (rBits cs) k)), .int (nI k)] [] ((n, z, kd), I1, J, F) Q := by
      intro s
      induction s with
      | zero =>
        intro k hk
        obtain rfl : k = 10 := by omega
        refine BX9_has_37 hR ?_
        simp (disch := omega) only [nI_ad, nI_ml, nI_lti, nI_lei, nI_eqi, nI_nn, nI_0le, nI_eq0, nI_0lt, nI_le0, nI_clamp, nI_pd, nI_sb, zOf_some, zOp_some, zOp_none, kI_int, kL_long, kO_ref, kO_null, nlt_T, nlt_F, nle_T, nle_F, neq_F, vpT, azUp_at, if_true, if_false, true_and, and_true, true_implies, false_implies, implies_true, not_true_eq_false, not_false_eq_true, true_or, or_true, false_or, or_false, and_false, false_and, eq_self, n01_0, n01_1, nm1_0, k0, q1, q2, q3]
        refine ⟨fun n0 => ⟨fun n1 => ⟨fun n2 => ?_, fun n2 => ?_⟩, fun n1 => ?_⟩, fun n0 => ?_⟩
        · rw [if_neg n0, if_neg n1, if_neg n2] at h
          exact h
        · have n2 := Classical.not_not.mp n2
          rw [if_neg n0, if_neg n1, if_pos n2] at h
          exact h
        · have n1 := Classical.not_not.mp n1
          rw [if_neg n0, if_pos n1] at h
          rw [conds_len]
          exact h
        · have n0 := Classical.not_not.mp n0
          rw [if_pos n0] at h
          exact h
      | succ s ih =>
        intro k hk
        have hh := ih (k + 1) (by omega)
        have ep : pcT (rBits cs) (k + 1) = pcT (rBits cs) k + if (rBits cs).testBit k then 1 else 0 := rfl
        rw [ep] at hh
        refine BX9_has_37 hR ?_
        simp (disch := omega) only [nI_ad, nI_ml, nI_lti, nI_lei, nI_eqi, nI_nn, nI_0le, nI_eq0, nI_0lt, nI_le0, nI_clamp, nI_pd, nI_sb, zOf_some, zOp_some, zOp_none, kI_int, kL_long, kO_ref, kO_null, nlt_T, nlt_F, nle_T, nle_F, neq_F, vpT, azUp_at, if_true, if_false, true_and, and_true, true_implies, false_implies, implies_true, not_true_eq_false, not_false_eq_true, true_or, or_true, false_or, or_false, and_false, false_and, eq_self, n01_0, n01_1, nm1_0, k0, q4, nBitV _ hb k (by omega)]
        exact hh
    simp (disch := omega) only [nI_ad, nI_ml, nI_lti, nI_lei, nI_eqi, nI_nn, nI_0le, nI_eq0, nI_0lt, nI_le0, nI_clamp, nI_pd, nI_sb, zOf_some, zOp_some, zOp_none, kI_int, kL_long, kO_ref, kO_null, nlt_T, nlt_F, nle_T, nle_F, neq_F, vpT, azUp_at, if_true, if_false, true_and, and_true, true_implies, false_implies, implies_true, not_true_eq_false, not_false_eq_true, true_or, or_true, false_or, or_false, and_false, false_and, eq_self, n01_0, n01_1, nm1_0]
    exact main 10 0 rfl
theorem S_changeOf9 (hR : azClosed R) (hK : MdOk kd F) (hr : rdM I t cs) (ho : rlOK cs) {p : Nat} (hp : p < 10) (h : Q (some (.int (Int32.ofInt (rChg cs p)))) ((n, z, kd), I, J, F)) : R d mX9_changeOf 0 [.ref 228, .int (nI p), .retAddr 0, .retAddr 0] [] ((n, z, kd), I, J, F) Q := by
  have ⟨k0, ⟨k220, k221, k222, k223, k224, k225, k226, k227, k228, k229, k230, k231⟩, _, ⟨f0, f1, f2, f3, f7, f9, f14, f15, f17, f18, f20, f23⟩, _⟩ := id hK
  obtain ⟨q1, q2, q3, q4, q5, q6, q7, q8, q9⟩ := id hr
  have hg3 : nGv cs ≤ 3 := ho.2.2.2.2.1
  have ht3 : nTk cs ≤ 3 := ho.2.2.2.1
  have hgl : nGv cs = (rOf 2 cs).length := rOf_len 2 0 cs
  have htl : nTk cs = (rOf 0 cs).length := rOf_len 0 0 cs
  rw [rChg_eq] at h
  -- the takes
  have m2 : ∀ (rest pre : List Cls), pre ++ rest = rOf 0 cs → R d mX9_changeOf 38 [.ref 228, .int (nI p), .int (Int32.ofInt (cntP (rOf 2 cs) p - cntP pre p)), .int (nI pre.length)] [] ((n, z, kd), I, J, F) Q := by
    intro rest
    induction rest with
    | nil =>
      intro pre e
      rw [List.append_nil] at e
      subst e
      refine BX9_changeOf_38 hR ?_
      simp (disch := omega) only [nI_ad, nI_ml, nI_lti, nI_lei, nI_eqi, nI_nn, nI_0le, nI_eq0, nI_0lt, nI_le0, nI_clamp, nI_pd, nI_sb, zOf_some, zOp_some, zOp_none, kI_int, kL_long, kO_ref, kO_null, nlt_T, nlt_F, nle_T, nle_F, neq_F, vpT, azUp_at, if_true, if_false, true_and, and_true, true_implies, false_implies, implies_true, not_true_eq_false, not_false_eq_true, true_or, or_true, false_or, or_false, and_false, false_and, eq_self, n01_0, n01_1, nm1_0, k0, q1]
      exact h
    | cons c rest ih =>
      intro pre e
      have hl : pre.length < nTk cs := by rw [htl, ← e, List.length_append, List.length_cons]; omega
      have hc : tkP cs pre.length = c.2.1 := by unfold tkP; rw [← e]; simp
      have e14 := (q7 _ hl).1
      have hh := ih (pre ++ [c]) (by rw [← e]; simp)
      rw [cntP_add, List.length_append, List.length_cons, List.length_nil] at hh
      have hcl : c.2.1 < 10 := (ho.2.2.2.2.2.2 c (List.mem_filter.mp (show c ∈ rOf 0 cs by rw [← e]; simp)).1).2.1
      refine BX9_changeOf_38 hR ?_
      rw [hc] at e14
      simp (disch := omega) only [nI_ad, nI_ml, nI_lti, nI_lei, nI_eqi, nI_nn, nI_0le, nI_eq0, nI_0lt, nI_le0, nI_clamp, nI_pd, nI_sb, zOf_some, zOp_some, zOp_none, kI_int, kL_long, kO_ref, kO_null, nlt_T, nlt_F, nle_T, nle_F, neq_F, vpT, azUp_at, if_true, if_false, true_and, and_true, true_implies, false_implies, implies_true, not_true_eq_false, not_false_eq_true, true_or, or_true, false_or, or_false, and_false, false_and, eq_self, n01_0, n01_1, nm1_0, k0, q1, f14, k226, e14]
      by_cases c1 : c.2.1 = p
      · rw [if_pos c1] at hh
        simp (disch := omega) only [nI_ad, nI_ml, nI_lti, nI_lei, nI_eqi, nI_nn, nI_0le, nI_eq0, nI_0lt, nI_le0, nI_clamp, nI_pd, nI_sb, zOf_some, zOp_some, zOp_none, kI_int, kL_long, kO_ref, kO_null, nlt_T, nlt_F, nle_T, nle_F, neq_F, vpT, azUp_at, if_true, if_false, true_and, and_true, true_implies, false_implies, implies_true, not_true_eq_false, not_false_eq_true, true_or, or_true, false_or, or_false, and_false, false_and, eq_self, n01_0, n01_1, nm1_0, c1]
        rw [oI_s1, show cntP (rOf 2 cs) p - cntP pre p - 1 = cntP (rOf 2 cs) p - (cntP pre p + 1) by omega]
        exact hh
      · rw [if_neg c1] at hh
        simp (disch := omega) only [nI_ad, nI_ml, nI_lti, nI_lei, nI_eqi, nI_nn, nI_0le, nI_eq0, nI_0lt, nI_le0, nI_clamp, nI_pd, nI_sb, zOf_some, zOp_some, zOp_none, kI_int, kL_long, kO_ref, kO_null, nlt_T, nlt_F, nle_T, nle_F, neq_F, vpT, azUp_at, if_true, if_false, true_and, and_true, true_implies, false_implies, implies_true, not_true_eq_false, not_false_eq_true, true_or, or_true, false_or, or_false, and_false, false_and, eq_self, n01_0, n01_1, nm1_0, c1]
        rw [oI_s0, show cntP (rOf 2 cs) p - cntP pre p - 0 = cntP (rOf 2 cs) p - (cntP pre p + 0) by omega]
        exact hh
  have m1 : ∀ (rest pre : List Cls), pre ++ rest = rOf 2 cs → R d mX9_changeOf 4 [.ref 228, .int (nI p), .int (Int32.ofInt (cntP pre p)), .int (nI pre.length)] [] ((n, z, kd), I, J, F) Q := by
    intro rest
    induction rest with
    | nil =>
      intro pre e
      rw [List.append_nil] at e
      subst e
      refine BX9_changeOf_4 hR ?_
      simp (disch := omega) only [nI_ad, nI_ml, nI_lti, nI_lei, nI_eqi, nI_nn, nI_0le, nI_eq0, nI_0lt, nI_le0, nI_clamp, nI_pd, nI_sb, zOf_some, zOp_some, zOp_none, kI_int, kL_long, kO_ref, kO_null, nlt_T, nlt_F, nle_T, nle_F, neq_F, vpT, azUp_at, if_true, if_false, true_and, and_true, true_implies, false_implies, implies_true, not_true_eq_false, not_false_eq_true, true_or, or_true, false_or, or_false, and_false, false_and, eq_self, n01_0, n01_1, nm1_0, k0, q2]
      have := m2 (rOf 0 cs) [] rfl
      rw [show cntP ([] : List Cls) p = 0 from rfl, Int.sub_zero] at this
      exact this
    | cons c rest ih =>
      intro pre e
      have hl : pre.length < nGv cs := by rw [hgl, ← e, List.length_append, List.length_cons]; omega
      have hc : gvC cs pre.length = c := by unfold gvC; rw [← e]; simp
      have e17 := (q8 _ hl).1
      have hh := ih (pre ++ [c]) (by rw [← e]; simp)
      rw [cntP_add, List.length_append, List.length_cons, List.length_nil] at hh
      have hcl : c.2.1 < 10 := (ho.2.2.2.2.2.2 c (List.mem_filter.mp (show c ∈ rOf 2 cs by rw [← e]; simp)).1).2.1
      refine BX9_changeOf_4 hR ?_
      rw [hc] at e17
      simp (disch := omega) only [nI_ad, nI_ml, nI_lti, nI_lei, nI_eqi, nI_nn, nI_0le, nI_eq0, nI_0lt, nI_le0, nI_clamp, nI_pd, nI_sb, zOf_some, zOp_some, zOp_none, kI_int, kL_long, kO_ref, kO_null, nlt_T, nlt_F, nle_T, nle_F, neq_F, vpT, azUp_at, if_true, if_false, true_and, and_true, true_implies, false_implies, implies_true, not_true_eq_false, not_false_eq_true, true_or, or_true, false_or, or_false, and_false, false_and, eq_self, n01_0, n01_1, nm1_0, k0, q2, f17, k228, e17]
      by_cases c1 : c.2.1 = p
      · rw [if_pos c1] at hh
        simp (disch := omega) only [nI_ad, nI_ml, nI_lti, nI_lei, nI_eqi, nI_nn, nI_0le, nI_eq0, nI_0lt, nI_le0, nI_clamp, nI_pd, nI_sb, zOf_some, zOp_some, zOp_none, kI_int, kL_long, kO_ref, kO_null, nlt_T, nlt_F, nle_T, nle_F, neq_F, vpT, azUp_at, if_true, if_false, true_and, and_true, true_implies, false_implies, implies_true, not_true_eq_false, not_false_eq_true, true_or, or_true, false_or, or_false, and_false, false_and, eq_self, n01_0, n01_1, nm1_0, c1]
        rw [oI_1]
        exact hh
      · rw [if_neg c1] at hh
        simp (disch := omega) only [nI_ad, nI_ml, nI_lti, nI_lei, nI_eqi, nI_nn, nI_0le, nI_eq0, nI_0lt, nI_le0, nI_clamp, nI_pd, nI_sb, zOf_some, zOp_some, zOp_none, kI_int, kL_long, kO_ref, kO_null, nlt_T, nlt_F, nle_T, nle_F, neq_F, vpT, azUp_at, if_true, if_false, true_and, and_true, true_implies, false_implies, implies_true, not_true_eq_false, not_false_eq_true, true_or, or_true, false_or, or_false, and_false, false_and, eq_self, n01_0, n01_1, nm1_0, c1]
        rw [oI_0]
        exact hh
  refine BX9_changeOf_0 hR ?_
  exact m1 (rOf 2 cs) [] rfl
theorem stOK.rule (hS : stOK st) {p : Nat} {t : List Nat} {cs : List Cls} (hr : st.2.1 p = some (t, cs)) : rlOK cs := by
  obtain ⟨u1, u2, u3⟩ := hS.2.1 p t cs hr
  have := pgQ_rule (t := t) u1.1
  rw [u3] at this
  exact this
theorem S_mdChange (hR : azClosed R) (hW : MW σ st) {x y : Int32} (h : ∀ σ', MW σ' st → mdF σ σ' → Q (some (.int (aChange st x y))) σ') : R (d + 25) mX9_change 0 [.ref 228, .int x, .int y] [] σ Q := by
  obtain ⟨⟨n, z, kd⟩, I, J, F⟩ := σ
  obtain ⟨hK, hC, hS⟩ := id hW
  have hK : MdOk kd F := hK
  have hC : cMd I st := hC
  have k0 := hK.1
  refine BX9_change_0 hR (S_isPlace9 hR ?_)
  unfold isP
  unfold aChange at h
  rcases ix_cases x (n := 10) (by decide) with ⟨e, c⟩ | ⟨p, hp, rfl, e⟩
  · rw [e] at h ⊢
    simp (disch := omega) only [nI_ad, nI_ml, nI_lti, nI_lei, nI_eqi, nI_nn, nI_0le, nI_eq0, nI_0lt, nI_le0, nI_clamp, nI_pd, nI_sb, zOf_some, zOp_some, zOp_none, kI_int, kL_long, kO_ref, kO_null, nlt_T, nlt_F, nle_T, nle_F, neq_F, vpT, azUp_at, if_true, if_false, true_and, and_true, true_implies, false_implies, implies_true, not_true_eq_false, not_false_eq_true, true_or, or_true, false_or, or_false, and_false, false_and, eq_self, n01_0, n01_1, nm1_0]
    exact h _ hW mdF.refl
  rw [e] at h ⊢
  dsimp only at h
  simp (disch := omega) only [nI_ad, nI_ml, nI_lti, nI_lei, nI_eqi, nI_nn, nI_0le, nI_eq0, nI_0lt, nI_le0, nI_clamp, nI_pd, nI_sb, zOf_some, zOp_some, zOp_none, kI_int, kL_long, kO_ref, kO_null, nlt_T, nlt_F, nle_T, nle_F, neq_F, vpT, azUp_at, if_true, if_false, true_and, and_true, true_implies, false_implies, implies_true, not_true_eq_false, not_false_eq_true, true_or, or_true, false_or, or_false, and_false, false_and, eq_self, n01_0, n01_1, nm1_0]
  refine S_isPlace9 hR ?_
  unfold isP
  rcases ix_cases y (n := 10) (by decide) with ⟨e, c⟩ | ⟨q, hq, rfl, e⟩
  · rw [e] at h ⊢
    simp (disch := omega) only [nI_ad, nI_ml, nI_lti, nI_lei, nI_eqi, nI_nn, nI_0le, nI_eq0, nI_0lt, nI_le0, nI_clamp, nI_pd, nI_sb, zOf_some, zOp_some, zOp_none, kI_int, kL_long, kO_ref, kO_null, nlt_T, nlt_F, nle_T, nle_F, neq_F, vpT, azUp_at, if_true, if_false, true_and, and_true, true_implies, false_implies, implies_true, not_true_eq_false, not_false_eq_true, true_or, or_true, false_or, or_false, and_false, false_and, eq_self, n01_0, n01_1, nm1_0]
    exact h _ hW mdF.refl
  rw [e] at h ⊢
  dsimp only at h
  simp (disch := omega) only [nI_ad, nI_ml, nI_lti, nI_lei, nI_eqi, nI_nn, nI_0le, nI_eq0, nI_0lt, nI_le0, nI_clamp, nI_pd, nI_sb, zOf_some, zOp_some, zOp_none, kI_int, kL_long, kO_ref, kO_null, nlt_T, nlt_F, nle_T, nle_F, neq_F, vpT, azUp_at, if_true, if_false, true_and, and_true, true_implies, false_implies, implies_true, not_true_eq_false, not_false_eq_true, true_or, or_true, false_or, or_false, and_false, false_and, eq_self, n01_0, n01_1, nm1_0, k0]
  refine S_readsRule9 hR hK hC.2.1 hS.2.1 hp (fun hr I1 g1 g2 _ => ?_) (fun t cs hr I1 g1 g2 _ g3 g4 g5 g6 => ?_)
  · rw [hr] at h
    obtain ⟨w1, w2⟩ := hW.kp g1 (J' := J) fun _ _ => rfl
    simp (disch := omega) only [nI_ad, nI_ml, nI_lti, nI_lei, nI_eqi, nI_nn, nI_0le, nI_eq0, nI_0lt, nI_le0, nI_clamp, nI_pd, nI_sb, zOf_some, zOp_some, zOp_none, kI_int, kL_long, kO_ref, kO_null, nlt_T, nlt_F, nle_T, nle_F, neq_F, vpT, azUp_at, if_true, if_false, true_and, and_true, true_implies, false_implies, implies_true, not_true_eq_false, not_false_eq_true, true_or, or_true, false_or, or_false, and_false, false_and, eq_self, n01_0, n01_1, nm1_0]
    exact h _ w1 w2
  · rw [hr] at h
    dsimp only at h
    obtain ⟨w1, w2⟩ := hW.kp g1 (J' := J) fun _ _ => rfl
    have h := h _ w1 w2
    simp (disch := omega) only [nI_ad, nI_ml, nI_lti, nI_lei, nI_eqi, nI_nn, nI_0le, nI_eq0, nI_0lt, nI_le0, nI_clamp, nI_pd, nI_sb, zOf_some, zOp_some, zOp_none, kI_int, kL_long, kO_ref, kO_null, nlt_T, nlt_F, nle_T, nle_F, neq_F, vpT, azUp_at, if_true, if_false, true_and, and_true, true_implies, false_implies, implies_true, not_true_eq_false, not_false_eq_true, true_or, or_true, false_or, or_false, and_false, false_and, eq_self, n01_0, n01_1, nm1_0, k0]
    refine S_changeOf9 hR hK g4 (hS.rule hr) hq ?_
    exact h
/-- the paper holds a text -/
def cP9 (I : azI) (g : List Nat) : Prop := I 228 27 = nI g.length ∧ lst (I 241) (g.map nI)
theorem S_writes9 (hR : azClosed R) (hK : MdOk kd F) {g : List Nat} (hg : cP9 I g) (hl : g.length < 800) {c : Nat} (h : ∀ I', cP9 I' (g ++ [c]) → (∀ b, b ≠ 228 → b ≠ 241 → I' b = I b) → (∀ j, j ≠ 27 → I' 228 j = I 228 j) → Q none ((n, z, kd), I', J, F)) : R d mX9_writes 0 [.ref 228, .int (nI c)] [] ((n, z, kd), I, J, F) Q := by
  have ⟨k0, _, ⟨k232, _⟩, _, ⟨f26, _⟩⟩ := id hK
  obtain ⟨g1, g2⟩ := hg
  refine BX9_writes_0 hR ?_
  simp (disch := omega) only [nI_ad, nI_ml, nI_lti, nI_lei, nI_eqi, nI_nn, nI_0le, nI_eq0, nI_0lt, nI_le0, nI_clamp, nI_pd, nI_sb, zOf_some, zOp_some, zOp_none, kI_int, kL_long, kO_ref, kO_null, nlt_T, nlt_F, nle_T, nle_F, neq_F, vpT, azUp_at, if_true, if_false, true_and, and_true, true_implies, false_implies, implies_true, not_true_eq_false, not_false_eq_true, true_or, or_true, false_or, or_false, and_false, false_and, eq_self, n01_0, n01_1, nm1_0, k0, f26, k232, g1, @azUp_nb _ 241 228]
  refine h _ ⟨?_, ?_⟩ (fun b b1 b2 => by rw [azUp_nb b1, azUp_nb b2]) (fun j hj => by rw [azUp_nk hj, azUp_nb (by decide)])
  · rw [azUp_s, List.length_append]; rfl
  · rw [azUp_nb (by decide), List.map_append]
    refine g2.add ?_ fun i hi => ?_
    · rw [List.length_map, azUp_s]
    · rw [List.length_map] at hi
      rw [azUp_nk hi]
theorem S_writesNumber9 (hR : azClosed R) (hK : MdOk kd F) {g : List Nat} (hg : cP9 I g) {k : Nat} (hk : k < 100) (hl : g.length + 2 < 800) (h : ∀ I', cP9 I' (g ++ numTx k) → (∀ b, b ≠ 228 → b ≠ 241 → I' b = I b) → (∀ j, j ≠ 27 → I' 228 j = I 228 j) → Q none ((n, z, kd), I', J, F)) : R (d + 1) mX9_writesNumber 0 [.ref 228, .int (nI k)] [] ((n, z, kd), I, J, F) Q := by
  obtain ⟨d1, d2⟩ := dv10 k hk
  have k0 := hK.1
  have ten : ¬ nI 10 = 0 := by decide
  refine BX9_writesNumber_0 hR ?_
  rw [d2, d1, nI_ad, nI_ad]
  unfold numTx at h
  by_cases c : k < 10
  · rw [if_pos c] at h
    simp (disch := omega) only [nI_ad, nI_ml, nI_lti, nI_lei, nI_eqi, nI_nn, nI_0le, nI_eq0, nI_0lt, nI_le0, nI_clamp, nI_pd, nI_sb, zOf_some, zOp_some, zOp_none, kI_int, kL_long, kO_ref, kO_null, nlt_T, nlt_F, nle_T, nle_F, neq_F, vpT, azUp_at, if_true, if_false, true_and, and_true, true_implies, false_implies, implies_true, not_true_eq_false, not_false_eq_true, true_or, or_true, false_or, or_false, and_false, false_and, eq_self, n01_0, n01_1, nm1_0, k0, ten]
    rw [show k % 10 = k by omega]
    exact S_writes9 hR hK hg (by omega) fun I' h1 h2 h3 => ⟨rfl, h I' h1 h2 h3⟩
  · rw [if_neg c] at h
    simp (disch := omega) only [nI_ad, nI_ml, nI_lti, nI_lei, nI_eqi, nI_nn, nI_0le, nI_eq0, nI_0lt, nI_le0, nI_clamp, nI_pd, nI_sb, zOf_some, zOp_some, zOp_none, kI_int, kL_long, kO_ref, kO_null, nlt_T, nlt_F, nle_T, nle_F, neq_F, vpT, azUp_at, if_true, if_false, true_and, and_true, true_implies, false_implies, implies_true, not_true_eq_false, not_false_eq_true, true_or, or_true, false_or, or_false, and_false, false_and, eq_self, n01_0, n01_1, nm1_0, k0, ten]
    refine S_writes9 hR hK hg (by omega) fun I' h1 h2 h3 => ⟨rfl, ?_⟩
    simp (disch := omega) only [nI_ad, nI_ml, nI_lti, nI_lei, nI_eqi, nI_nn, nI_0le, nI_eq0, nI_0lt, nI_le0, nI_clamp, nI_pd, nI_sb, zOf_some, zOp_some, zOp_none, kI_int, kL_long, kO_ref, kO_null, nlt_T, nlt_F, nle_T, nle_F, neq_F, vpT, azUp_at, if_true, if_false, true_and, and_true, true_implies, false_implies, implies_true, not_true_eq_false, not_false_eq_true, true_or, or_true, false_or, or_false, and_false, false_and, eq_self, n01_0, n01_1, nm1_0, k0]
    refine S_writes9 hR hK h1 (by rw [List.length_append, List.length_cons, List.length_nil]; omega) fun I'' g1 g2 g3 => ⟨rfl, ?_⟩
    refine h I'' (by rw [List.append_assoc] at g1; exact g1) (fun b h3 h4 => by rw [g2 b h3 h4, h2 b h3 h4]) fun j hj => by rw [g3 j hj, h3 j hj]
/-- the paper is another -/
theorem cMd.page {I' : azI} (h : cMd I st) (hf : ∀ b, b ≠ 228 → b < 234 → I' b = I b) (hj : ∀ j, j ≤ 8 → I' 228 j = I 228 j) {g : List Nat} (hg : cP9 I' g) : cMd I' (st.1, st.2.1, st.2.2.1, g, st.2.2.2.2) := by
  obtain ⟨h1, h2, h3, h4', h5, h6, h7⟩ := h
  refine ⟨by rw [hf 229 (by omega) (by omega)]; exact h1, by rw [hf 231 (by omega) (by omega)]; exact h2, by rw [hj 8 (by omega), hf 233 (by omega) (by omega)]; exact h3, hg, by rw [hj 4 (by omega)]; exact h5, fun e => by rw [hj 6 (by omega)]; exact h6 e, fun m ru w e => by rw [hj 6 (by omega), hf 230 (by omega) (by omega), hf 232 (by omega) (by omega), hj 5 (by omega)]; exact h7 m ru w e⟩
theorem S_mdLine (hR : azClosed R) (hW : MW σ st) (h : ∀ σ', MW σ' (aLine st).2 → mdF σ σ' → Q (some (.int (aLine st).1)) σ') : R (d + 3) mX9_line 0 [.ref 228, .retAddr 0, .retAddr 0] [] σ Q := by
  obtain ⟨⟨n, z, kd⟩, I, J, F⟩ := σ
  obtain ⟨hK, hC, hS⟩ := id hW
  have hK : MdOk kd F := hK
  have hC : cMd I st := hC
  have ⟨k0, ⟨k220, _⟩, _, ⟨f0, _⟩, _⟩ := id hK
  have hv := hS.1
  have hm := hC.1
  let fr : azI → Prop := fun I1 => (∀ b, b ≠ 228 → b ≠ 241 → I1 b = I b) ∧ ∀ j, j ≠ 27 → I1 228 j = I 228 j
  have key : ∀ I1, fr I1 → cD (I1 229) st.1 := fun I1 hf => by rw [hf.1 229 (by decide) (by decide)]; exact hm
  have main : ∀ s p (I1 : azI) (w : Value), s + p = 10 → cP9 I1 (lnT st.1 p) → fr I1 → R (d + 3) mX9_line 7 [.ref 228, .int (nI p), w] [] ((n, z, kd), I1, J, F) Q := by
    intro s
    induction s with
    | zero =>
      intro p I1 w hp hc hf
      obtain rfl : p = 10 := by omega
      have hl := lnT_len hv 10
      refine BX9_line_7 hR ?_
      simp (disch := omega) only [nI_ad, nI_ml, nI_lti, nI_lei, nI_eqi, nI_nn, nI_0le, nI_eq0, nI_0lt, nI_le0, nI_clamp, nI_pd, nI_sb, zOf_some, zOp_some, zOp_none, kI_int, kL_long, kO_ref, kO_null, nlt_T, nlt_F, nle_T, nle_F, neq_F, vpT, azUp_at, if_true, if_false, true_and, and_true, true_implies, false_implies, implies_true, not_true_eq_false, not_false_eq_true, true_or, or_true, false_or, or_false, and_false, false_and, eq_self, n01_0, n01_1, nm1_0, k0, hc.1]
      refine h _ (MW.mk hK (hC.page (fun b b1 b2 => hf.1 b b1 (by omega)) (fun j hj => hf.2 j (by omega)) hc) ⟨hS.1, hS.2.1, hS.2.2.1, by show (lnT st.1 10).length ≤ 256; omega, hS.2.2.2.2⟩) (mdF_I (fun b hb => hf.1 b (by omega) (by omega)) fun _ _ => rfl)
    | succ s ih =>
      intro p I1 w hp hc hf
      have hp10 : p < 10 := by omega
      have hl := lnT_len hv p
      have hl6 := (hv.1 p).1
      have hcn := (key I1 hf p hp10).1
      refine BX9_line_7 hR ?_
      by_cases ce : st.1 p = []
      · have e1 : lnT st.1 (p + 1) = lnT st.1 p := by show lnP st.1 p (lnT st.1 p) = _; unfold lnP; rw [if_pos ce]
        rw [ce] at hcn
        simp (disch := omega) only [nI_ad, nI_ml, nI_lti, nI_lei, nI_eqi, nI_nn, nI_0le, nI_eq0, nI_0lt, nI_le0, nI_clamp, nI_pd, nI_sb, zOf_some, zOp_some, zOp_none, kI_int, kL_long, kO_ref, kO_null, nlt_T, nlt_F, nle_T, nle_F, neq_F, vpT, azUp_at, if_true, if_false, true_and, and_true, true_implies, false_implies, implies_true, not_true_eq_false, not_false_eq_true, true_or, or_true, false_or, or_false, and_false, false_and, eq_self, n01_0, n01_1, nm1_0, k0, f0, k220, hcn, List.length_nil]
        exact ih (p + 1) I1 w (by omega) (by rw [e1]; exact hc) hf
      · have hpos : 0 < (st.1 p).length := List.length_pos_iff.mpr ce
        have hx' : ¬ ((st.1 p).length = 0) := by omega
        have e1 : lnT st.1 (p + 1) = lnT st.1 p ++ (if lnT st.1 p = [] then [] else [32]) ++ [80] ++ numTx p ++ lnTk 0 (st.1 p) := by show lnP st.1 p (lnT st.1 p) = _; unfold lnP; rw [if_neg ce]
        have hlen : (lnT st.1 (p + 1)).length ≤ 229 := by have := lnT_len hv (p + 1); omega
        have inner : ∀ (rest pre : List Nat) (acc : List Nat) (I2 : azI), pre ++ rest = st.1 p → acc ++ lnTk pre.length rest = lnT st.1 (p + 1) → cP9 I2 acc → fr I2 → R (d + 3) mX9_line 51 [.ref 228, .int (nI p), .int (nI pre.length)] [] ((n, z, kd), I2, J, F) Q := by
          intro rest
          induction rest with
          | nil =>
            intro pre acc I2 f1 f2 f3 f4
            have hcn2 := (key I2 f4 p hp10).1
            rw [List.append_nil] at f1
            rw [← f1] at hcn2 hl6
            refine BX9_line_51 hR ?_
            simp (disch := omega) only [nI_ad, nI_ml, nI_lti, nI_lei, nI_eqi, nI_nn, nI_0le, nI_eq0, nI_0lt, nI_le0, nI_clamp, nI_pd, nI_sb, zOf_some, zOp_some, zOp_none, kI_int, kL_long, kO_ref, kO_null, nlt_T, nlt_F, nle_T, nle_F, neq_F, vpT, azUp_at, if_true, if_false, true_and, and_true, true_implies, false_implies, implies_true, not_true_eq_false, not_false_eq_true, true_or, or_true, false_or, or_false, and_false, false_and, eq_self, n01_0, n01_1, nm1_0, k0, f0, k220, hcn2]
            have f2 : acc = lnT st.1 (p + 1) := by rw [← f2]; exact (List.append_nil _).symm
            exact ih (p + 1) I2 _ (by omega) (by rw [← f2]; exact f3) f4
          | cons x rest ihr =>
            intro pre acc I2 f1 f2 f3 f4
            have hlt : pre.length < (st.1 p).length := by rw [← f1, List.length_append, List.length_cons]; omega
            have hx0 : (st.1 p).getD pre.length 0 = x := by rw [← f1]; simp
            have hx100 : x < 100 := (hv.1 p).2 x (by rw [← f1]; simp)
            have ep : (pre ++ [x]).length = pre.length + 1 := by simp
            have hcn2 := (key I2 f4 p hp10).1
            have hla : acc.length + 1 + (numTx x).length ≤ 229 := by
              rw [← f2] at hlen
              unfold lnTk at hlen
              simp only [List.length_append, List.length_cons] at hlen
              omega
            have step : ∀ (I3 : azI), cP9 I3 (acc ++ [if pre.length = 0 then 61 else 44]) → fr I3 → R (d + 2) mX9_at 0 [.int (nI p), .int (nI pre.length)] [] ((n, z, kd), I3, J, F) fun v5 s6 => kI v5 fun r7 => (((s6.1.2.2 229).1 = 10 ∨ (s6.1.2.2 229).1 = 15) ∧ vp_in r7 (s6.1.2.2 229).2 ∧ ((s6.1.2.2 228).1 = 9 ∧ R (d + 2) mX9_writesNumber 0 [.ref 228, .int (s6.2.1 229 r7.toNatClampNeg)] [] s6 fun v8 s9 => v8 = none ∧ R (d + 3) mX9_line 51 [.ref 228, .int (nI p), .int (nI (pre.length + 1))] [] s9 Q)) := by
              intro I3 g1 g3
              have et := (key I3 g3 p hp10).2 pre.length (by omega)
              rw [hx0] at et
              refine S_at9 hR ?_
              simp (disch := omega) only [nI_ad, nI_ml, nI_lti, nI_lei, nI_eqi, nI_nn, nI_0le, nI_eq0, nI_0lt, nI_le0, nI_clamp, nI_pd, nI_sb, zOf_some, zOp_some, zOp_none, kI_int, kL_long, kO_ref, kO_null, nlt_T, nlt_F, nle_T, nle_F, neq_F, vpT, azUp_at, if_true, if_false, true_and, and_true, true_implies, false_implies, implies_true, not_true_eq_false, not_false_eq_true, true_or, or_true, false_or, or_false, and_false, false_and, eq_self, n01_0, n01_1, nm1_0, k220, k0, et]
              refine S_writesNumber9 hR hK g1 hx100 (by rw [List.length_append, List.length_cons, List.length_nil]; omega) fun I4 q1 q2 q3 => ⟨rfl, ?_⟩
              rw [← ep]
              refine ihr (pre ++ [x]) _ I4 (by rw [← f1]; simp) ?_ q1 ⟨fun c h1 h2 => by rw [q2 c h1 h2, g3.1 c h1 h2], fun j hj => by rw [q3 j hj, g3.2 j hj]⟩
              rw [ep, ← f2]
              simp [lnTk]
            refine BX9_line_51 hR ?_
            simp (disch := omega) only [nI_ad, nI_ml, nI_lti, nI_lei, nI_eqi, nI_nn, nI_0le, nI_eq0, nI_0lt, nI_le0, nI_clamp, nI_pd, nI_sb, zOf_some, zOp_some, zOp_none, kI_int, kL_long, kO_ref, kO_null, nlt_T, nlt_F, nle_T, nle_F, neq_F, vpT, azUp_at, if_true, if_false, true_and, and_true, true_implies, false_implies, implies_true, not_true_eq_false, not_false_eq_true, true_or, or_true, false_or, or_false, and_false, false_and, eq_self, n01_0, n01_1, nm1_0, k0, f0, k220, hcn2]
            refine ⟨fun e => ?_, fun e => ?_⟩
            · refine S_writes9 hR hK f3 (by omega) (c := 44) fun I3 g1 g2 g3 => ⟨rfl, ?_⟩
              simp (disch := omega) only [nI_ad, nI_ml, nI_lti, nI_lei, nI_eqi, nI_nn, nI_0le, nI_eq0, nI_0lt, nI_le0, nI_clamp, nI_pd, nI_sb, zOf_some, zOp_some, zOp_none, kI_int, kL_long, kO_ref, kO_null, nlt_T, nlt_F, nle_T, nle_F, neq_F, vpT, azUp_at, if_true, if_false, true_and, and_true, true_implies, false_implies, implies_true, not_true_eq_false, not_false_eq_true, true_or, or_true, false_or, or_false, and_false, false_and, eq_self, n01_0, n01_1, nm1_0, k0, f0]
              refine step I3 ?_ ⟨fun c h1 h2 => by rw [g2 c h1 h2, f4.1 c h1 h2], fun j hj => by rw [g3 j hj, f4.2 j hj]⟩
              rw [if_neg e]; exact g1
            · refine S_writes9 hR hK f3 (by omega) (c := 61) fun I3 g1 g2 g3 => ⟨rfl, ?_⟩
              simp (disch := omega) only [nI_ad, nI_ml, nI_lti, nI_lei, nI_eqi, nI_nn, nI_0le, nI_eq0, nI_0lt, nI_le0, nI_clamp, nI_pd, nI_sb, zOf_some, zOp_some, zOp_none, kI_int, kL_long, kO_ref, kO_null, nlt_T, nlt_F, nle_T, nle_F, neq_F, vpT, azUp_at, if_true, if_false, true_and, and_true, true_implies, false_implies, implies_true, not_true_eq_false, not_false_eq_true, true_or, or_true, false_or, or_false, and_false, false_and, eq_self, n01_0, n01_1, nm1_0, k0, f0]
              refine step I3 ?_ ⟨fun c h1 h2 => by rw [g2 c h1 h2, f4.1 c h1 h2], fun j hj => by rw [g3 j hj, f4.2 j hj]⟩
              rw [if_pos (Classical.not_not.mp e)]; exact g1
        have tail : ∀ (I2 : azI) (acc : List Nat), acc = lnT st.1 p ++ (if lnT st.1 p = [] then [] else [32]) → cP9 I2 acc → fr I2 → R (d + 3) mX9_line 35 [.ref 228, .int (nI p), w] [] ((n, z, kd), I2, J, F) Q := by
          intro I2 acc ea g1 g2
          have hal : acc.length ≤ 22 * p + 1 := by
            have h4 : (if lnT st.1 p = [] then ([] : List Nat) else [32]).length ≤ 1 := by split <;> simp
            rw [ea, List.length_append]
            omega
          refine BX9_line_35 hR ⟨k0, ?_⟩
          refine S_writes9 hR hK g1 (by omega) fun I3 q1 q2 q3 => ⟨rfl, k0, ?_⟩
          rw [nI_ad]
          refine S_writes9 hR hK q1 (by rw [List.length_append, List.length_cons, List.length_nil]; omega) fun I4 r1 r2 r3 => ⟨rfl, ?_⟩
          refine inner (st.1 p) [] _ I4 rfl ?_ r1 ⟨fun c h1 h2 => by rw [r2 c h1 h2, q2 c h1 h2, g2.1 c h1 h2], fun j hj => by rw [r3 j hj, q3 j hj, g2.2 j hj]⟩
          rw [e1, ea]
          have en : numTx p = [48 + p] := by unfold numTx; rw [if_pos hp10]
          rw [en]
          rfl
        by_cases c0 : lnT st.1 p = []
        · have h27 : I1 228 27 = nI 0 := by rw [hc.1, c0]; rfl
          simp (disch := omega) only [nI_ad, nI_ml, nI_lti, nI_lei, nI_eqi, nI_nn, nI_0le, nI_eq0, nI_0lt, nI_le0, nI_clamp, nI_pd, nI_sb, zOf_some, zOp_some, zOp_none, kI_int, kL_long, kO_ref, kO_null, nlt_T, nlt_F, nle_T, nle_F, neq_F, vpT, azUp_at, if_true, if_false, true_and, and_true, true_implies, false_implies, implies_true, not_true_eq_false, not_false_eq_true, true_or, or_true, false_or, or_false, and_false, false_and, eq_self, n01_0, n01_1, nm1_0, k0, f0, k220, hcn, hx', h27]
          refine tail I1 [] (by rw [c0]; rfl) (by rw [c0] at hc; exact hc) hf
        · have h0 : 0 < (lnT st.1 p).length := List.length_pos_iff.mpr c0
          have h0' : ¬ ((lnT st.1 p).length = 0) := by omega
          simp (disch := omega) only [nI_ad, nI_ml, nI_lti, nI_lei, nI_eqi, nI_nn, nI_0le, nI_eq0, nI_0lt, nI_le0, nI_clamp, nI_pd, nI_sb, zOf_some, zOp_some, zOp_none, kI_int, kL_long, kO_ref, kO_null, nlt_T, nlt_F, nle_T, nle_F, neq_F, vpT, azUp_at, if_true, if_false, true_and, and_true, true_implies, false_implies, implies_true, not_true_eq_false, not_false_eq_true, true_or, or_true, false_or, or_false, and_false, false_and, eq_self, n01_0, n01_1, nm1_0, k0, f0, k220, hcn, hx', hc.1, h0']
          refine S_writes9 hR hK hc (by omega) fun I2 q1 q2 q3 => ⟨rfl, ?_⟩
          exact tail I2 _ (by rw [if_neg c0]) q1 ⟨fun c h1 h2 => by rw [q2 c h1 h2, hf.1 c h1 h2], fun j hj => by rw [q3 j hj, hf.2 j hj]⟩
  refine BX9_line_0 hR ⟨k0, ?_⟩
  refine main 10 0 _ _ rfl ⟨azUp_s, fun i hi => absurd hi (Nat.not_lt_zero _)⟩ ⟨fun c h1 h2 => azUp_nb h1, fun j hj => azUp_nk hj⟩
end S9
