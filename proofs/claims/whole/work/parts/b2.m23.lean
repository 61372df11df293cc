/-! THE REFERENCE: reach, most, dead, ends, held, walk. -/
section S9
variable {R : azP} {d n z : Nat} {kd : azK} {I : azI} {J : azJ} {F : azR} {Q : azQ} {st : St} {σ : azS} {S : WS} {N : Nat}
theorem S_mdReach (hR : azClosed R) (hW : MW σ st) {x : Int32} (h : ∀ σ', MW σ' st → mdF σ σ' → Q (some (.int (aReach st x))) σ') : R (d + 27) mX9_reach 0 [.ref 228, .int x] [] σ Q := by
  obtain ⟨⟨n, z, kd⟩, I, J, F⟩ := σ
  have hK : MdOk kd F := hW.1
  have k0 := hK.1
  unfold aReach at h
  refine BX9_reach_0 hR ⟨k0, ?_⟩
  refine S_finds9 hR hW (fun e => ?_) fun N h0 hN e I' g1 g2 => ?_
  · rw [e] at h
    simp (disch := omega) only [nI_ad, nI_ml, nI_lti, nI_lei, nI_eqi, nI_nn, nI_0le, nI_eq0, nI_0lt, nI_le0, nI_clamp, nI_pd, nI_sb, zOf_some, zOp_some, zOp_none, kI_int, kL_long, kO_ref, kO_null, nlt_T, nlt_F, nle_T, nle_F, neq_F, vpT, azUp_at, if_true, if_false, true_and, and_true, true_implies, false_implies, implies_true, not_true_eq_false, not_false_eq_true, true_or, or_true, false_or, or_false, and_false, false_and, eq_self, n01_0, n01_1, nm1_0]
    exact h _ hW mdF.refl
  · rw [e] at h
    obtain ⟨w1, w2⟩ := hW.kp g1.mdS (J' := J) fun _ _ => rfl
    simp (disch := omega) only [nI_ad, nI_ml, nI_lti, nI_lei, nI_eqi, nI_nn, nI_0le, nI_eq0, nI_0lt, nI_le0, nI_clamp, nI_pd, nI_sb, zOf_some, zOp_some, zOp_none, kI_int, kL_long, kO_ref, kO_null, nlt_T, nlt_F, nle_T, nle_F, neq_F, vpT, azUp_at, if_true, if_false, true_and, and_true, true_implies, false_implies, implies_true, not_true_eq_false, not_false_eq_true, true_or, or_true, false_or, or_false, and_false, false_and, eq_self, n01_0, n01_1, nm1_0, k0, g2.1.1]
    exact h _ w1 w2
theorem S_mdMost (hR : azClosed R) (hW : MW σ st) {x y : Int32} (h : ∀ σ', MW σ' st → mdF σ σ' → Q (some (.int (aMost st x y))) σ') : R (d + 27) mX9_most 0 [.ref 228, .int x, .int y, .retAddr 0, .retAddr 0] [] σ Q := by
  obtain ⟨⟨n, z, kd⟩, I, J, F⟩ := σ
  have hK : MdOk kd F := hW.1
  have hS : stOK st := hW.2.2
  have ⟨k0, _, ⟨_, k233, k234, k235, k236, k237, _⟩, _, ⟨_, f28, f29, f30, f31, f33, _⟩⟩ := id hK
  unfold aMost at h
  refine BX9_most_0 hR (S_isPlace9 hR ?_)
  unfold isP
  rcases ix_cases x (n := 10) (by decide) with ⟨e, c⟩ | ⟨p, hp, rfl, e⟩
  · rw [e] at h ⊢
    simp (disch := omega) only [nI_ad, nI_ml, nI_lti, nI_lei, nI_eqi, nI_nn, nI_0le, nI_eq0, nI_0lt, nI_le0, nI_clamp, nI_pd, nI_sb, zOf_some, zOp_some, zOp_none, kI_int, kL_long, kO_ref, kO_null, nlt_T, nlt_F, nle_T, nle_F, neq_F, vpT, azUp_at, if_true, if_false, true_and, and_true, true_implies, false_implies, implies_true, not_true_eq_false, not_false_eq_true, true_or, or_true, false_or, or_false, and_false, false_and, eq_self, n01_0, n01_1, nm1_0]
    exact h _ hW mdF.refl
  rw [e] at h ⊢
  dsimp only at h
  simp (disch := omega) only [nI_ad, nI_ml, nI_lti, nI_lei, nI_eqi, nI_nn, nI_0le, nI_eq0, nI_0lt, nI_le0, nI_clamp, nI_pd, nI_sb, zOf_some, zOp_some, zOp_none, kI_int, kL_long, kO_ref, kO_null, nlt_T, nlt_F, nle_T, nle_F, neq_F, vpT, azUp_at, if_true, if_false, true_and, and_true, true_implies, false_implies, implies_true, not_true_eq_false, not_false_eq_true, true_or, or_true, false_or, or_false, and_false, false_and, eq_self, n01_0, n01_1, nm1_0, k0]
  refine S_finds9 hR hW (fun e => ?_) fun N h0 hN e I' g1 g2 => ?_
  · rw [e] at h
    simp (disch := omega) only [nI_ad, nI_ml, nI_lti, nI_lei, nI_eqi, nI_nn, nI_0le, nI_eq0, nI_0lt, nI_le0, nI_clamp, nI_pd, nI_sb, zOf_some, zOp_some, zOp_none, kI_int, kL_long, kO_ref, kO_null, nlt_T, nlt_F, nle_T, nle_F, neq_F, vpT, azUp_at, if_true, if_false, true_and, and_true, true_implies, false_implies, implies_true, not_true_eq_false, not_false_eq_true, true_or, or_true, false_or, or_false, and_false, false_and, eq_self, n01_0, n01_1, nm1_0]
    exact h _ hW mdF.refl
  · rw [e] at h
    obtain ⟨w1, w2⟩ := hW.kp g1.mdS (J' := J) fun _ _ => rfl
    have h := h _ w1 w2
    have fo := (hS.fs h0 hN).2
    have hlN := fo.2.1
    have fo60 : wsOK 60 (wkS st N) := ⟨fo.1, by omega, fo.2.2⟩
    have main : ∀ s k, s + k = (wkS st N).1.length → R (d + 27) mX9_most 25 [.ref 228, .int (nI p), .int y, .int (nI (mstT (wkS st N) p k)), .int (nI k)] [] ((n, z, kd), I', J, F) Q := by
      intro s
      induction s with
      | zero =>
        intro k hk
        obtain rfl : k = (wkS st N).1.length := by omega
        refine BX9_most_25 hR ?_
        simp (disch := omega) only [nI_ad, nI_ml, nI_lti, nI_lei, nI_eqi, nI_nn, nI_0le, nI_eq0, nI_0lt, nI_le0, nI_clamp, nI_pd, nI_sb, zOf_some, zOp_some, zOp_none, kI_int, kL_long, kO_ref, kO_null, nlt_T, nlt_F, nle_T, nle_F, neq_F, vpT, azUp_at, if_true, if_false, true_and, and_true, true_implies, false_implies, implies_true, not_true_eq_false, not_false_eq_true, true_or, or_true, false_or, or_false, and_false, false_and, eq_self, n01_0, n01_1, nm1_0, k0, g2.1.1]
        exact h
      | succ s ih =>
        intro k hk
        have hkl : k < (wkS st N).1.length := by omega
        have hb : 70 * k + p < 4200 := by omega
        have ec := (g2.1.2 k hkl p hp).1
        dsimp only at ec
        have hm := mstT_le fo60 (p := p) k (by omega)
        have hl6 := ((fo.2.2.2.1 _ (getD_memM hkl)).1 p).1
        refine BX9_most_25 hR ?_
        simp (disch := omega) only [nI_ad, nI_ml, nI_lti, nI_lei, nI_eqi, nI_nn, nI_0le, nI_eq0, nI_0lt, nI_le0, nI_clamp, nI_pd, nI_sb, zOf_some, zOp_some, zOp_none, kI_int, kL_long, kO_ref, kO_null, nlt_T, nlt_F, nle_T, nle_F, neq_F, vpT, azUp_at, if_true, if_false, true_and, and_true, true_implies, false_implies, implies_true, not_true_eq_false, not_false_eq_true, true_or, or_true, false_or, or_false, and_false, false_and, eq_self, n01_0, n01_1, nm1_0, k0, g2.1.1, f33, k237, ec]
        refine S_max hR (by omega) (by omega) ?_
        simp (disch := omega) only [nI_ad, nI_ml, nI_lti, nI_lei, nI_eqi, nI_nn, nI_0le, nI_eq0, nI_0lt, nI_le0, nI_clamp, nI_pd, nI_sb, zOf_some, zOp_some, zOp_none, kI_int, kL_long, kO_ref, kO_null, nlt_T, nlt_F, nle_T, nle_F, neq_F, vpT, azUp_at, if_true, if_false, true_and, and_true, true_implies, false_implies, implies_true, not_true_eq_false, not_false_eq_true, true_or, or_true, false_or, or_false, and_false, false_and, eq_self, n01_0, n01_1, nm1_0]
        exact ih (k + 1) (by omega)
    simp (disch := omega) only [nI_ad, nI_ml, nI_lti, nI_lei, nI_eqi, nI_nn, nI_0le, nI_eq0, nI_0lt, nI_le0, nI_clamp, nI_pd, nI_sb, zOf_some, zOp_some, zOp_none, kI_int, kL_long, kO_ref, kO_null, nlt_T, nlt_F, nle_T, nle_F, neq_F, vpT, azUp_at, if_true, if_false, true_and, and_true, true_implies, false_implies, implies_true, not_true_eq_false, not_false_eq_true, true_or, or_true, false_or, or_false, and_false, false_and, eq_self, n01_0, n01_1, nm1_0]
    exact main (wkS st N).1.length 0 (by omega)
theorem S_isEnd9 (hR : azClosed R) (hK : MdOk kd F) (hc : cWM I S) (hS : wsOK 60 S) {i : Nat} (hi : i < S.1.length) (h : Q (some (.int (nI (if (S.1.getD i mNil) 9 = [] then 0 else 1)))) ((n, z, kd), I, J, F)) : R d mX9_isEnd 0 [.ref 228, .int (nI i)] [] ((n, z, kd), I, J, F) Q := by
  have ⟨k0, _, ⟨_, k233, k234, k235, k236, k237, _⟩, _, ⟨_, f28, f29, f30, f31, f33, _⟩⟩ := id hK
  have hl60 := hS.2.1
  have ec := (hc.1.2 i hi 9 (by decide)).1
  dsimp only at ec
  have hl6 := ((hS.2.2.2.1 _ (getD_memM hi)).1 9).1
  have hb : 70 * i + 9 < 4200 := by omega
  refine BX9_isEnd_0 hR ?_
  by_cases c : (S.1.getD i mNil) 9 = []
  · rw [if_pos c] at h
    rw [c] at ec
    simp (disch := omega) only [nI_ad, nI_ml, nI_lti, nI_lei, nI_eqi, nI_nn, nI_0le, nI_eq0, nI_0lt, nI_le0, nI_clamp, nI_pd, nI_sb, zOf_some, zOp_some, zOp_none, kI_int, kL_long, kO_ref, kO_null, nlt_T, nlt_F, nle_T, nle_F, neq_F, vpT, azUp_at, if_true, if_false, true_and, and_true, true_implies, false_implies, implies_true, not_true_eq_false, not_false_eq_true, true_or, or_true, false_or, or_false, and_false, false_and, eq_self, n01_0, n01_1, nm1_0, k0, f33, k237, ec, List.length_nil]
    exact h
  · rw [if_neg c] at h
    have h0 : 0 < ((S.1.getD i mNil) 9).length := List.length_pos_iff.mpr c
    have h0' : ¬ ((S.1.getD i mNil) 9).length = 0 := by omega
    simp (disch := omega) only [nI_ad, nI_ml, nI_lti, nI_lei, nI_eqi, nI_nn, nI_0le, nI_eq0, nI_0lt, nI_le0, nI_clamp, nI_pd, nI_sb, zOf_some, zOp_some, zOp_none, kI_int, kL_long, kO_ref, kO_null, nlt_T, nlt_F, nle_T, nle_F, neq_F, vpT, azUp_at, if_true, if_false, true_and, and_true, true_implies, false_implies, implies_true, not_true_eq_false, not_false_eq_true, true_or, or_true, false_or, or_false, and_false, false_and, eq_self, n01_0, n01_1, nm1_0, k0, f33, k237, ec, h0']
    exact h
theorem S_mdEnds (hR : azClosed R) (hW : MW σ st) {x : Int32} (h : ∀ σ', MW σ' st → mdF σ σ' → Q (some (.int (aEnds st x))) σ') : R (d + 27) mX9_ends 0 [.ref 228, .int x, .retAddr 0, .retAddr 0] [] σ Q := by
  obtain ⟨⟨n, z, kd⟩, I, J, F⟩ := σ
  have hK : MdOk kd F := hW.1
  have hS : stOK st := hW.2.2
  have k0 := hK.1
  unfold aEnds at h
  refine BX9_ends_0 hR ⟨k0, ?_⟩
  refine S_finds9 hR hW (fun e => ?_) fun N h0 hN e I' g1 g2 => ?_
  · rw [e] at h
    simp (disch := omega) only [nI_ad, nI_ml, nI_lti, nI_lei, nI_eqi, nI_nn, nI_0le, nI_eq0, nI_0lt, nI_le0, nI_clamp, nI_pd, nI_sb, zOf_some, zOp_some, zOp_none, kI_int, kL_long, kO_ref, kO_null, nlt_T, nlt_F, nle_T, nle_F, neq_F, vpT, azUp_at, if_true, if_false, true_and, and_true, true_implies, false_implies, implies_true, not_true_eq_false, not_false_eq_true, true_or, or_true, false_or, or_false, and_false, false_and, eq_self, n01_0, n01_1, nm1_0]
    exact h _ hW mdF.refl
  · rw [e] at h
    obtain ⟨w1, w2⟩ := hW.kp g1.mdS (J' := J) fun _ _ => rfl
    have h := h _ w1 w2
    have fo := (hS.fs h0 hN).2
    have hlN := fo.2.1
    have fo60 : wsOK 60 (wkS st N) := ⟨fo.1, by omega, fo.2.2⟩
    have main : ∀ s k, s + k = (wkS st N).1.length → R (d + 27) mX9_ends 15 [.ref 228, .int x, .int (nI (ndT (wkS st N) k)), .int (nI k)] [] ((n, z, kd), I', J, F) Q := by
      intro s
      induction s with
      | zero =>
        intro k hk
        obtain rfl : k = (wkS st N).1.length := by omega
        refine BX9_ends_15 hR ?_
        simp (disch := omega) only [nI_ad, nI_ml, nI_lti, nI_lei, nI_eqi, nI_nn, nI_0le, nI_eq0, nI_0lt, nI_le0, nI_clamp, nI_pd, nI_sb, zOf_some, zOp_some, zOp_none, kI_int, kL_long, kO_ref, kO_null, nlt_T, nlt_F, nle_T, nle_F, neq_F, vpT, azUp_at, if_true, if_false, true_and, and_true, true_implies, false_implies, implies_true, not_true_eq_false, not_false_eq_true, true_or, or_true, false_or, or_false, and_false, false_and, eq_self, n01_0, n01_1, nm1_0, k0, g2.1.1]
        exact h
      | succ s ih =>
        intro k hk
        have hkl : k < (wkS st N).1.length := by omega
        have hh := ih (k + 1) (by omega)
        have e1 : ndT (wkS st N) (k + 1) = if ((wkS st N).1.getD k mNil) 9 = [] then ndT (wkS st N) k else ndT (wkS st N) k + 1 := rfl
        rw [e1] at hh
        refine BX9_ends_15 hR ?_
        simp (disch := omega) only [nI_ad, nI_ml, nI_lti, nI_lei, nI_eqi, nI_nn, nI_0le, nI_eq0, nI_0lt, nI_le0, nI_clamp, nI_pd, nI_sb, zOf_some, zOp_some, zOp_none, kI_int, kL_long, kO_ref, kO_null, nlt_T, nlt_F, nle_T, nle_F, neq_F, vpT, azUp_at, if_true, if_false, true_and, and_true, true_implies, false_implies, implies_true, not_true_eq_false, not_false_eq_true, true_or, or_true, false_or, or_false, and_false, false_and, eq_self, n01_0, n01_1, nm1_0, k0, g2.1.1]
        refine S_isEnd9 hR hK g2 fo60 hkl ?_
        by_cases c : ((wkS st N).1.getD k mNil) 9 = []
        · rw [if_pos c] at hh ⊢
          simp (disch := omega) only [nI_ad, nI_ml, nI_lti, nI_lei, nI_eqi, nI_nn, nI_0le, nI_eq0, nI_0lt, nI_le0, nI_clamp, nI_pd, nI_sb, zOf_some, zOp_some, zOp_none, kI_int, kL_long, kO_ref, kO_null, nlt_T, nlt_F, nle_T, nle_F, neq_F, vpT, azUp_at, if_true, if_false, true_and, and_true, true_implies, false_implies, implies_true, not_true_eq_false, not_false_eq_true, true_or, or_true, false_or, or_false, and_false, false_and, eq_self, n01_0, n01_1, nm1_0, Nat.add_zero]
          exact hh
        · rw [if_neg c] at hh ⊢
          simp (disch := omega) only [nI_ad, nI_ml, nI_lti, nI_lei, nI_eqi, nI_nn, nI_0le, nI_eq0, nI_0lt, nI_le0, nI_clamp, nI_pd, nI_sb, zOf_some, zOp_some, zOp_none, kI_int, kL_long, kO_ref, kO_null, nlt_T, nlt_F, nle_T, nle_F, neq_F, vpT, azUp_at, if_true, if_false, true_and, and_true, true_implies, false_implies, implies_true, not_true_eq_false, not_false_eq_true, true_or, or_true, false_or, or_false, and_false, false_and, eq_self, n01_0, n01_1, nm1_0]
          exact hh
    simp (disch := omega) only [nI_ad, nI_ml, nI_lti, nI_lei, nI_eqi, nI_nn, nI_0le, nI_eq0, nI_0lt, nI_le0, nI_clamp, nI_pd, nI_sb, zOf_some, zOp_some, zOp_none, kI_int, kL_long, kO_ref, kO_null, nlt_T, nlt_F, nle_T, nle_F, neq_F, vpT, azUp_at, if_true, if_false, true_and, and_true, true_implies, false_implies, implies_true, not_true_eq_false, not_false_eq_true, true_or, or_true, false_or, or_false, and_false, false_and, eq_self, n01_0, n01_1, nm1_0]
    exact main (wkS st N).1.length 0 (by omega)
theorem S_mdHeld (hR : azClosed R) (hW : MW σ st) {x y w : Int32} (h : ∀ σ', MW σ' st → mdF σ σ' → Q (some (.int (aHeld st x y w))) σ') : R (d + 27) mX9_held 0 [.ref 228, .int x, .int y, .int w] [] σ Q := by
  obtain ⟨⟨n, z, kd⟩, I, J, F⟩ := σ
  have hK : MdOk kd F := hW.1
  have hS : stOK st := hW.2.2
  have ⟨k0, _, ⟨_, k233, k234, k235, k236, k237, _⟩, _, ⟨_, f28, f29, f30, f31, f33, _⟩⟩ := id hK
  unfold aHeld at h
  refine BX9_held_0 hR ⟨k0, ?_⟩
  refine S_finds9 hR hW (fun e => ?_) fun N h0 hN e I' g1 g2 => ?_
  · rw [e] at h
    simp (disch := omega) only [nI_ad, nI_ml, nI_lti, nI_lei, nI_eqi, nI_nn, nI_0le, nI_eq0, nI_0lt, nI_le0, nI_clamp, nI_pd, nI_sb, zOf_some, zOp_some, zOp_none, kI_int, kL_long, kO_ref, kO_null, nlt_T, nlt_F, nle_T, nle_F, neq_F, vpT, azUp_at, if_true, if_false, true_and, and_true, true_implies, false_implies, implies_true, not_true_eq_false, not_false_eq_true, true_or, or_true, false_or, or_false, and_false, false_and, eq_self, n01_0, n01_1, nm1_0]
    exact h _ hW mdF.refl
  · rw [e] at h
    dsimp only at h
    obtain ⟨w1, w2⟩ := hW.kp g1.mdS (J' := J) fun _ _ => rfl
    have h := h _ w1 w2
    have fo := (hS.fs h0 hN).2
    have hlN := fo.2.1
    simp (disch := omega) only [nI_ad, nI_ml, nI_lti, nI_lei, nI_eqi, nI_nn, nI_0le, nI_eq0, nI_0lt, nI_le0, nI_clamp, nI_pd, nI_sb, zOf_some, zOp_some, zOp_none, kI_int, kL_long, kO_ref, kO_null, nlt_T, nlt_F, nle_T, nle_F, neq_F, vpT, azUp_at, if_true, if_false, true_and, and_true, true_implies, false_implies, implies_true, not_true_eq_false, not_false_eq_true, true_or, or_true, false_or, or_false, and_false, false_and, eq_self, n01_0, n01_1, nm1_0, k0]
    refine S_isInP9 hR (k := (wkS st N).1.length) (by omega) (by decide) (by rw [g2.1.1]; exact len_sub _ (by omega)) ?_
    unfold isP
    rcases ix_cases y (n := (wkS st N).1.length) (by omega) with ⟨e, c⟩ | ⟨i, hi, rfl, e⟩
    · rw [e] at h ⊢
      simp (disch := omega) only [nI_ad, nI_ml, nI_lti, nI_lei, nI_eqi, nI_nn, nI_0le, nI_eq0, nI_0lt, nI_le0, nI_clamp, nI_pd, nI_sb, zOf_some, zOp_some, zOp_none, kI_int, kL_long, kO_ref, kO_null, nlt_T, nlt_F, nle_T, nle_F, neq_F, vpT, azUp_at, if_true, if_false, true_and, and_true, true_implies, false_implies, implies_true, not_true_eq_false, not_false_eq_true, true_or, or_true, false_or, or_false, and_false, false_and, eq_self, n01_0, n01_1, nm1_0]
      exact h
    rw [e] at h ⊢
    dsimp only at h
    simp (disch := omega) only [nI_ad, nI_ml, nI_lti, nI_lei, nI_eqi, nI_nn, nI_0le, nI_eq0, nI_0lt, nI_le0, nI_clamp, nI_pd, nI_sb, zOf_some, zOp_some, zOp_none, kI_int, kL_long, kO_ref, kO_null, nlt_T, nlt_F, nle_T, nle_F, neq_F, vpT, azUp_at, if_true, if_false, true_and, and_true, true_implies, false_implies, implies_true, not_true_eq_false, not_false_eq_true, true_or, or_true, false_or, or_false, and_false, false_and, eq_self, n01_0, n01_1, nm1_0]
    refine S_isPlace9 hR ?_
    unfold isP
    rcases ix_cases w (n := 10) (by decide) with ⟨e, c⟩ | ⟨p, hp, rfl, e⟩
    · rw [e] at h ⊢
      simp (disch := omega) only [nI_ad, nI_ml, nI_lti, nI_lei, nI_eqi, nI_nn, nI_0le, nI_eq0, nI_0lt, nI_le0, nI_clamp, nI_pd, nI_sb, zOf_some, zOp_some, zOp_none, kI_int, kL_long, kO_ref, kO_null, nlt_T, nlt_F, nle_T, nle_F, neq_F, vpT, azUp_at, if_true, if_false, true_and, and_true, true_implies, false_implies, implies_true, not_true_eq_false, not_false_eq_true, true_or, or_true, false_or, or_false, and_false, false_and, eq_self, n01_0, n01_1, nm1_0]
      exact h
    rw [e] at h ⊢
    dsimp only at h
    have ec := (g2.1.2 i hi p hp).1
    dsimp only at ec
    have hb : 70 * i + p < 4200 := by omega
    simp (disch := omega) only [nI_ad, nI_ml, nI_lti, nI_lei, nI_eqi, nI_nn, nI_0le, nI_eq0, nI_0lt, nI_le0, nI_clamp, nI_pd, nI_sb, zOf_some, zOp_some, zOp_none, kI_int, kL_long, kO_ref, kO_null, nlt_T, nlt_F, nle_T, nle_F, neq_F, vpT, azUp_at, if_true, if_false, true_and, and_true, true_implies, false_implies, implies_true, not_true_eq_false, not_false_eq_true, true_or, or_true, false_or, or_false, and_false, false_and, eq_self, n01_0, n01_1, nm1_0, k0, f33, k237, ec]
    exact h
theorem anc_pos {S : WS} : ∀ (k f i : Nat), k < stp S f i → anc S k i ≠ 0 := by
  intro k
  induction k with
  | zero =>
    intro f i h
    cases f with
    | zero => exact absurd h (Nat.not_lt_zero _)
    | succ f =>
      have e : stp S (f + 1) i = if i = 0 then 0 else stp S f (S.2.1.getD i (0, 0)).1 + 1 := rfl
      rw [e] at h
      intro hi
      have hi : i = 0 := hi
      rw [if_pos hi] at h
      exact absurd h (Nat.not_lt_zero _)
  | succ k ih =>
    intro f i h
    cases f with
    | zero => exact absurd h (Nat.not_lt_zero _)
    | succ f =>
      have e : stp S (f + 1) i = if i = 0 then 0 else stp S f (S.2.1.getD i (0, 0)).1 + 1 := rfl
      have ea : anc S (k + 1) i = if i = 0 then 0 else anc S k (S.2.1.getD i (0, 0)).1 := rfl
      rw [e] at h
      rw [ea]
      by_cases c : i = 0
      · rw [if_pos c] at h; exact absurd h (Nat.not_lt_zero _)
      · rw [if_neg c] at h ⊢
        exact ih f _ (by omega)
theorem anc_lt {S : WS} (hS : wsOK N S) : ∀ (k i : Nat), i < S.1.length → anc S k i < S.1.length := by
  intro k
  induction k with
  | zero => intro i h; exact h
  | succ k ih =>
    intro i h
    have ea : anc S (k + 1) i = if i = 0 then 0 else anc S k (S.2.1.getD i (0, 0)).1 := rfl
    rw [ea]
    by_cases c : i = 0
    · rw [if_pos c]; exact hS.1
    · rw [if_neg c]
      have := (hS.2.2.2.2.1 i (by omega) h).1
      exact ih _ (by omega)
theorem S_mdWalk (hR : azClosed R) (hW : MW σ st) {x y w : Int32} (h : ∀ σ', MW σ' st → mdF σ σ' → Q (some (.int (aWalk st x y w))) σ') : R (d + 27) mX9_walk 0 [.ref 228, .int x, .int y, .int w, .retAddr 0, .retAddr 0, .retAddr 0] [] σ Q := by
  obtain ⟨⟨n, z, kd⟩, I, J, F⟩ := σ
  have hK : MdOk kd F := hW.1
  have hS : stOK st := hW.2.2
  have ⟨k0, _, ⟨_, k233, k234, k235, k236, k237, k238, k239, _⟩, _, ⟨_, f28, f29, f30, f31, f33, f34, f35, _⟩⟩ := id hK
  unfold aWalk at h
  refine BX9_walk_0 hR ⟨k0, ?_⟩
  refine S_finds9 hR hW (fun e => ?_) fun N h0 hN e I' g1 g2 => ?_
  · rw [e] at h
    simp (disch := omega) only [nI_ad, nI_ml, nI_lti, nI_lei, nI_eqi, nI_nn, nI_0le, nI_eq0, nI_0lt, nI_le0, nI_clamp, nI_pd, nI_sb, zOf_some, zOp_some, zOp_none, kI_int, kL_long, kO_ref, kO_null, nlt_T, nlt_F, nle_T, nle_F, neq_F, vpT, azUp_at, if_true, if_false, true_and, and_true, true_implies, false_implies, implies_true, not_true_eq_false, not_false_eq_true, true_or, or_true, false_or, or_false, and_false, false_and, eq_self, n01_0, n01_1, nm1_0]
    exact h _ hW mdF.refl
  · rw [e] at h
    dsimp only at h
    obtain ⟨w1, w2⟩ := hW.kp g1.mdS (J' := J) fun _ _ => rfl
    have h := h _ w1 w2
    have fo := (hS.fs h0 hN).2
    have hlN := fo.2.1
    simp (disch := omega) only [nI_ad, nI_ml, nI_lti, nI_lei, nI_eqi, nI_nn, nI_0le, nI_eq0, nI_0lt, nI_le0, nI_clamp, nI_pd, nI_sb, zOf_some, zOp_some, zOp_none, kI_int, kL_long, kO_ref, kO_null, nlt_T, nlt_F, nle_T, nle_F, neq_F, vpT, azUp_at, if_true, if_false, true_and, and_true, true_implies, false_implies, implies_true, not_true_eq_false, not_false_eq_true, true_or, or_true, false_or, or_false, and_false, false_and, eq_self, n01_0, n01_1, nm1_0, k0]
    refine S_isInP9 hR (k := (wkS st N).1.length) (by omega) (by decide) (by rw [g2.1.1]; exact len_sub _ (by omega)) ?_
    unfold isP
    rcases ix_cases y (n := (wkS st N).1.length) (by omega) with ⟨e, c⟩ | ⟨i, hi, rfl, e⟩
    · rw [e] at h ⊢
      simp (disch := omega) only [nI_ad, nI_ml, nI_lti, nI_lei, nI_eqi, nI_nn, nI_0le, nI_eq0, nI_0lt, nI_le0, nI_clamp, nI_pd, nI_sb, zOf_some, zOp_some, zOp_none, kI_int, kL_long, kO_ref, kO_null, nlt_T, nlt_F, nle_T, nle_F, neq_F, vpT, azUp_at, if_true, if_false, true_and, and_true, true_implies, false_implies, implies_true, not_true_eq_false, not_false_eq_true, true_or, or_true, false_or, or_false, and_false, false_and, eq_self, n01_0, n01_1, nm1_0]
      exact h
    rw [e] at h ⊢
    dsimp only at h
    have hs60 := stp_le (S := wkS st N) 60 i
    -- the way back
    have back : ∀ (s k a : Nat) (I5 x6 : Int32) (j : Nat), w = nI j → j < stp (wkS st N) 60 i → s + j = k → x6 = nI k → anc (wkS st N) s a = anc (wkS st N) (stp (wkS st N) 60 i - 1 - j) i → a < (wkS st N).1.length → k < stp (wkS st N) 60 i → (0 < s → a ≠ 0) → R (d + 27) mX9_walk 95 [.ref 228, .int x, .int (nI i), .int w, .int (nI (stp (wkS st N) 60 i)), .int (nI a), .int x6] [] ((n, z, kd), I', J, F) Q := by
      intro s
      induction s with
      | zero =>
        intro k a _ x6 j ew hj hk ex ea hal hks _
        subst ew
        subst ex
        obtain rfl : k = j := by omega
        have ea : a = anc (wkS st N) (stp (wkS st N) 60 i - 1 - k) i := ea
        have hne := anc_pos (S := wkS st N) (stp (wkS st N) 60 i - 1 - k) 60 i (by omega)
        rcases ix_cases (nI k) (n := stp (wkS st N) 60 i) (by omega) with ⟨e, c⟩ | ⟨k', hk', e', e⟩
        · rcases c with c | ⟨c0, c⟩
          · exact absurd c (nI_nn (by omega))
          · rw [nI_lei (by omega) (by omega)] at c; omega
        · rw [nI_eqi (by omega) (by omega)] at e'
          subst e'
          have n1 : ¬ (nI k = -(nI 1)) := by
            intro e
            have := nI_neg1 (k := k) (by omega)
            rw [e] at this
            exact (this ▸ rfl : False)
          rw [if_neg n1, e] at h
          dsimp only at h
          rw [if_neg hne, ← ea] at h
          have a0 : 0 < a := by omega
          have e238 := (g2.2.1 a a0 hal).1
          refine BX9_walk_95 hR ?_
          simp (disch := omega) only [nI_ad, nI_ml, nI_lti, nI_lei, nI_eqi, nI_nn, nI_0le, nI_eq0, nI_0lt, nI_le0, nI_clamp, nI_pd, nI_sb, zOf_some, zOp_some, zOp_none, kI_int, kL_long, kO_ref, kO_null, nlt_T, nlt_F, nle_T, nle_F, neq_F, vpT, azUp_at, if_true, if_false, true_and, and_true, true_implies, false_implies, implies_true, not_true_eq_false, not_false_eq_true, true_or, or_true, false_or, or_false, and_false, false_and, eq_self, n01_0, n01_1, nm1_0, k0, f34, k238, e238]
          exact h
      | succ s ih =>
        intro k a I5 x6 j ew hj hk ex ea hal hks han
        subst ew
        subst ex
        have ha := han (by omega)
        have ea1 : anc (wkS st N) (s + 1) a = if a = 0 then 0 else anc (wkS st N) s ((wkS st N).2.1.getD a (0, 0)).1 := rfl
        rw [ea1, if_neg ha] at ea
        have e239 := (g2.2.1 a (by omega) hal).2
        have hfa := (fo.2.2.2.2.1 a (by omega) hal).1
        have hne := anc_pos (S := wkS st N) (stp (wkS st N) 60 i - 1 - j) 60 i (by omega)
        have := ih (k - 1) ((wkS st N).2.1.getD a (0, 0)).1 I5 (nI (k - 1)) j rfl hj (by omega) rfl ea (by omega) (by omega) fun hs hz => by
          rw [hz] at ea
          cases s with
          | zero => exact absurd hs (Nat.lt_irrefl _)
          | succ s =>
            have : anc (wkS st N) (s + 1) 0 = 0 := rfl
            rw [this] at ea
            exact hne ea.symm
        refine BX9_walk_95 hR ?_
        simp (disch := omega) only [nI_ad, nI_ml, nI_lti, nI_lei, nI_eqi, nI_nn, nI_0le, nI_eq0, nI_0lt, nI_le0, nI_clamp, nI_pd, nI_sb, zOf_some, zOp_some, zOp_none, kI_int, kL_long, kO_ref, kO_null, nlt_T, nlt_F, nle_T, nle_F, neq_F, vpT, azUp_at, if_true, if_false, true_and, and_true, true_implies, false_implies, implies_true, not_true_eq_false, not_false_eq_true, true_or, or_true, false_or, or_false, and_false, false_and, eq_self, n01_0, n01_1, nm1_0, k0, f35, k239, e239]
        exact this
    have dn : R (d + 27) mX9_walk 35 [.ref 228, .int x, .int (nI i), .int w, .int (nI (stp (wkS st N) 60 i)), .int (nI 0), .retAddr 0] [] ((n, z, kd), I', J, F) Q := by
      refine BX9_walk_35 hR ?_
      by_cases cw : w = -(nI 1)
      · rw [if_pos cw] at h
        simp (disch := omega) only [nI_ad, nI_ml, nI_lti, nI_lei, nI_eqi, nI_nn, nI_0le, nI_eq0, nI_0lt, nI_le0, nI_clamp, nI_pd, nI_sb, zOf_some, zOp_some, zOp_none, kI_int, kL_long, kO_ref, kO_null, nlt_T, nlt_F, nle_T, nle_F, neq_F, vpT, azUp_at, if_true, if_false, true_and, and_true, true_implies, false_implies, implies_true, not_true_eq_false, not_false_eq_true, true_or, or_true, false_or, or_false, and_false, false_and, eq_self, n01_0, n01_1, nm1_0, cw]
        exact h
      · rw [if_neg cw] at h
        simp (disch := omega) only [nI_ad, nI_ml, nI_lti, nI_lei, nI_eqi, nI_nn, nI_0le, nI_eq0, nI_0lt, nI_le0, nI_clamp, nI_pd, nI_sb, zOf_some, zOp_some, zOp_none, kI_int, kL_long, kO_ref, kO_null, nlt_T, nlt_F, nle_T, nle_F, neq_F, vpT, azUp_at, if_true, if_false, true_and, and_true, true_implies, false_implies, implies_true, not_true_eq_false, not_false_eq_true, true_or, or_true, false_or, or_false, and_false, false_and, eq_self, n01_0, n01_1, nm1_0, cw]
        refine S_isInP9 hR (k := stp (wkS st N) 60 i) (by omega) (by decide) (len_sub _ (by omega)) ?_
        unfold isP
        rcases ix_cases w (n := stp (wkS st N) 60 i) (by omega) with ⟨e, c⟩ | ⟨j, hj, ew, e⟩
        · rw [e] at h ⊢
          simp (disch := omega) only [nI_ad, nI_ml, nI_lti, nI_lei, nI_eqi, nI_nn, nI_0le, nI_eq0, nI_0lt, nI_le0, nI_clamp, nI_pd, nI_sb, zOf_some, zOp_some, zOp_none, kI_int, kL_long, kO_ref, kO_null, nlt_T, nlt_F, nle_T, nle_F, neq_F, vpT, azUp_at, if_true, if_false, true_and, and_true, true_implies, false_implies, implies_true, not_true_eq_false, not_false_eq_true, true_or, or_true, false_or, or_false, and_false, false_and, eq_self, n01_0, n01_1, nm1_0]
          exact h
        · rw [e]
          have := back (stp (wkS st N) 60 i - 1 - j) (stp (wkS st N) 60 i - 1) i 0 (nI (stp (wkS st N) 60 i - 1)) j ew hj (by omega) rfl rfl hi (by omega) fun _ hz => by
            subst hz
            have : stp (wkS st N) 60 0 = 0 := rfl
            omega
          rw [nI_sb (by omega)]
          simp (disch := omega) only [nI_ad, nI_ml, nI_lti, nI_lei, nI_eqi, nI_nn, nI_0le, nI_eq0, nI_0lt, nI_le0, nI_clamp, nI_pd, nI_sb, zOf_some, zOp_some, zOp_none, kI_int, kL_long, kO_ref, kO_null, nlt_T, nlt_F, nle_T, nle_F, neq_F, vpT, azUp_at, if_true, if_false, true_and, and_true, true_implies, false_implies, implies_true, not_true_eq_false, not_false_eq_true, true_or, or_true, false_or, or_false, and_false, false_and, eq_self, n01_0, n01_1, nm1_0]
          exact this
    have fwd : ∀ (f m c : Nat), m ≤ f → m < (wkS st N).1.length → c + stp (wkS st N) f m = stp (wkS st N) 60 i → R (d + 27) mX9_walk 35 [.ref 228, .int x, .int (nI i), .int w, .int (nI c), .int (nI m), .retAddr 0] [] ((n, z, kd), I', J, F) Q := by
      intro f
      induction f with
      | zero =>
        intro m c hm hml hc
        obtain rfl : m = 0 := by omega
        have : stp (wkS st N) 0 0 = 0 := rfl
        obtain rfl : c = stp (wkS st N) 60 i := by omega
        exact dn
      | succ f ih =>
        intro m c hm hml hc
        have e1 : stp (wkS st N) (f + 1) m = if m = 0 then 0 else stp (wkS st N) f ((wkS st N).2.1.getD m (0, 0)).1 + 1 := rfl
        rw [e1] at hc
        by_cases c0 : m = 0
        · rw [if_pos c0] at hc
          obtain rfl : c = stp (wkS st N) 60 i := by omega
          rw [c0]
          exact dn
        · rw [if_neg c0] at hc
          have hfm := (fo.2.2.2.2.1 m (by omega) hml).1
          have e239 := (g2.2.1 m (by omega) hml).2
          have := ih ((wkS st N).2.1.getD m (0, 0)).1 (c + 1) (by omega) (by omega) (by omega)
          refine BX9_walk_35 hR ?_
          simp (disch := omega) only [nI_ad, nI_ml, nI_lti, nI_lei, nI_eqi, nI_nn, nI_0le, nI_eq0, nI_0lt, nI_le0, nI_clamp, nI_pd, nI_sb, zOf_some, zOp_some, zOp_none, kI_int, kL_long, kO_ref, kO_null, nlt_T, nlt_F, nle_T, nle_F, neq_F, vpT, azUp_at, if_true, if_false, true_and, and_true, true_implies, false_implies, implies_true, not_true_eq_false, not_false_eq_true, true_or, or_true, false_or, or_false, and_false, false_and, eq_self, n01_0, n01_1, nm1_0, c0, k0, f35, k239, e239]
          exact this
    simp (disch := omega) only [nI_ad, nI_ml, nI_lti, nI_lei, nI_eqi, nI_nn, nI_0le, nI_eq0, nI_0lt, nI_le0, nI_clamp, nI_pd, nI_sb, zOf_some, zOp_some, zOp_none, kI_int, kL_long, kO_ref, kO_null, nlt_T, nlt_F, nle_T, nle_F, neq_F, vpT, azUp_at, if_true, if_false, true_and, and_true, true_implies, false_implies, implies_true, not_true_eq_false, not_false_eq_true, true_or, or_true, false_or, or_false, and_false, false_and, eq_self, n01_0, n01_1, nm1_0]
    exact fwd 60 i 0 (by omega) hi (Nat.zero_add _)
end S9
