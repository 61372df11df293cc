/-! THE CLASS: reach, most, dead, ends, stuck, walk, held. -/
abbrev wkS (st : St) (k : Nat) : WS := wk k (rsOf st.2.1) st.1
def aReach (st : St) (x : Int32) : Int32 := match jx x 60 with
  | none => -(nI 2)
  | some k => nI (wkS st k).1.length
def aMost (st : St) (x y : Int32) : Int32 := match ix x 10 with
  | none => -(nI 1)
  | some p => match jx y 60 with
    | none => -(nI 2)
    | some k => nI (mstT (wkS st k) p (wkS st k).1.length)
def aDead (st : St) (x : Int32) : Int32 := match jx x 60 with
  | none => -(nI 2)
  | some k => nI (ddT st.2.1 (orT (wkS st k) (wkS st k).1.length) 10)
def aEnds (st : St) (x : Int32) : Int32 := match jx x 60 with
  | none => -(nI 2)
  | some k => nI (ndT (wkS st k) (wkS st k).1.length)
def aStuck (st : St) (x : Int32) (v : Int32) : Prop := match jx x 60 with
  | none => v = -(nI 2)
  | some k => isStk (wkS st k) (wkS st k).1.length v
def aWalk (st : St) (x y z : Int32) : Int32 := match jx x 60 with
  | none => -(nI 2)
  | some k => match ix y (wkS st k).1.length with
    | none => -(nI 1)
    | some i => if z = -(nI 1) then nI (stp (wkS st k) 60 i) else match ix z (stp (wkS st k) 60 i) with
      | none => -(nI 1)
      | some j => if anc (wkS st k) (stp (wkS st k) 60 i - 1 - j) i = 0 then -(nI 1) else nI ((wkS st k).2.1.getD (anc (wkS st k) (stp (wkS st k) 60 i - 1 - j) i) (0, 0)).2
def aHeld (st : St) (x y z : Int32) : Int32 := match jx x 60 with
  | none => -(nI 2)
  | some k => match ix y (wkS st k).1.length with
    | none => -(nI 1)
    | some i => match ix z 10 with
      | none => -(nI 1)
      | some p => nI (((wkS st k).1.getD i mNil) p).length
theorem stp_le {S : WS} : ∀ f i, stp S f i ≤ f := by
  intro f
  induction f with
  | zero => intro i; exact Nat.le_refl _
  | succ f ih =>
    intro i
    have := ih (S.2.1.getD i (0, 0)).1
    unfold stp
    split <;> omega
theorem RsOk.less {kd : azK} {I : azI} {F : azR} {lo lo' g : Nat} {rs : Nat → Option (List Cls)} (h : RsOk kd I F lo g rs) (hl : lo' ≤ lo) : RsOk kd I F lo' g rs := ⟨h.1, fun p hp => ⟨(h.2 p hp).1, fun cs hcs => by
  obtain ⟨r, h1, h2, h3, h4, h5⟩ := (h.2 p hp).2 cs hcs
  exact ⟨r, h1, by omega, h3, h4, h5⟩⟩⟩
section S8
variable {R : azP} {d : Nat} {σ : azS} {Q : azQ} {st : St} {n z : Nat} {kd : azK} {I : azI} {J : azJ} {F : azR}
theorem S_walksNow (hR : azClosed R) (hW : CW ((n, z, kd), I, J, F) st) (h : ∀ I', CW ((n, z, kd), I', J, F) st → clF ((n, z, kd), I, J, F) ((n, z, kd), I', J, F) → cWk I' 30 (wkS st 60) → Q (some (.ref 30)) ((n, z, kd), I', J, F)) : R (d + 9) mX8_walksNow 0 [.ref 0] [] ((n, z, kd), I, J, F) Q := by
  obtain ⟨hT, hC, hX, hn, hS⟩ := id hW
  have hT : TnOk kd F := hT
  have hC : cTn kd I F st := hC
  have hX : TxOk kd I := hX
  have hn : CN n F := hn
  obtain ⟨⟨k0, f0, f1, f2, f3, f4, f5, f6, f7, f8, f9⟩, ⟨m1, m2, m3⟩, ⟨t1, t2, t3⟩, p1, p2, p3, p4, p5⟩ := id hT
  obtain ⟨a1, a2, a3, a4, a5, a6, a7⟩ := id hC
  have k21 := p3.1
  refine BX8_walksNow_0 hR ?_
  rcases a6 with a6 | ⟨a6, a8⟩
  · simp (disch := omega) only [nI_ad, nI_ml, nI_lti, nI_lei, nI_eqi, nI_nn, nI_0le, nI_eq0, nI_0lt, nI_le0, nI_clamp, nI_pd, nI_sb, zOf_some, zOp_some, zOp_none, kI_int, kL_long, kO_ref, kO_null, nlt_T, nlt_F, nle_T, nle_F, neq_F, vpT, azUp_at, if_true, if_false, true_and, and_true, true_implies, false_implies, implies_true, not_true_eq_false, not_false_eq_true, true_or, or_true, false_or, or_false, and_false, false_and, eq_self, n01_0, n01_1, nm1_0, k0, a6, f7, f0, f3, f6, k21]
    refine S_search hR p3 p2 (by omega) m1 (by omega) a1 hS.1 (a2.less (by omega)) fun I1 g1 g2 => ⟨rfl, ?_⟩
    simp (disch := omega) only [nI_ad, nI_ml, nI_lti, nI_lei, nI_eqi, nI_nn, nI_0le, nI_eq0, nI_0lt, nI_le0, nI_clamp, nI_pd, nI_sb, zOf_some, zOp_some, zOp_none, kI_int, kL_long, kO_ref, kO_null, nlt_T, nlt_F, nle_T, nle_F, neq_F, vpT, azUp_at, if_true, if_false, true_and, and_true, true_implies, false_implies, implies_true, not_true_eq_false, not_false_eq_true, true_or, or_true, false_or, or_false, and_false, false_and, eq_self, n01_0, n01_1, nm1_0, k0, f7]
    have gg : ∀ b, b ≠ 0 → (b < 30 ∨ 219 < b) → b ≠ 27 → b ≠ 28 → b ≠ 29 → azUp I1 0 11 (nI 1) b = I b := fun b b0 b1 b2 b3 b4 => by
      rw [azUp_nb b0, g2 b b1 b2 b3 b4]
    have gk : ∀ b, 30 ≤ b → azUp I1 0 11 (nI 1) b = I1 b := fun b hb => azUp_nb (by omega)
    have hwk : cWk (azUp I1 0 11 (nI 1)) 30 (wkS st 60) := by
      obtain ⟨⟨q1, q2, q3, q4⟩, q5⟩ := g1
      exact ⟨⟨by rw [gk _ (by omega)]; exact q1, fun i hi => (q2 i hi).keep (gk _ (by omega)) (gk _ (by omega)), fun i i1 i2 => by rw [gk _ (by omega), gk _ (by omega)]; exact q3 i i1 i2, fun k hk => by rw [gk _ (by omega)]; exact q4 k hk⟩, fun i hi => by rw [gk _ (by omega)]; exact q5 i hi⟩
    refine h _ (CW.mk hT ⟨a1.keep (gg 2 (by omega) (by omega) (by omega) (by omega) (by omega)) (gg 3 (by omega) (by omega) (by omega) (by omega) (by omega)), a2.keep fun b hb => gg b (by omega) (by omega) (by omega) (by omega) (by omega), ?_, a4.keep (gg 22 (by omega) (by omega) (by omega) (by omega) (by omega)) (gg 23 (by omega) (by omega) (by omega) (by omega) (by omega)), ?_, Or.inr ⟨azUp_s, hwk⟩, a7.keep fun b hb => gg b (by omega) (by omega) (by omega) (by omega) (by omega)⟩ (hX.keep fun b hb => gg b (by omega) (by omega) (by omega) (by omega) (by omega)) hn hS) (clF_I (fun b hb => gg b (by omega) (by omega) (by omega) (by omega) (by omega)) fun _ _ => rfl) hwk
    · rw [gg 11 (by omega) (by omega) (by omega) (by omega) (by omega), gg 12 (by omega) (by omega) (by omega) (by omega) (by omega)]; exact a3
    · rw [azUp_nk (by omega), g2 0 (by omega) (by omega) (by omega) (by omega)]; exact a5
  · simp (disch := omega) only [nI_ad, nI_ml, nI_lti, nI_lei, nI_eqi, nI_nn, nI_0le, nI_eq0, nI_0lt, nI_le0, nI_clamp, nI_pd, nI_sb, zOf_some, zOp_some, zOp_none, kI_int, kL_long, kO_ref, kO_null, nlt_T, nlt_F, nle_T, nle_F, neq_F, vpT, azUp_at, if_true, if_false, true_and, and_true, true_implies, false_implies, implies_true, not_true_eq_false, not_false_eq_true, true_or, or_true, false_or, or_false, and_false, false_and, eq_self, n01_0, n01_1, nm1_0, k0, a6, f7]
    exact h I hW (clF_I (fun _ _ => rfl) fun _ _ => rfl) a8
theorem stOK.ws (hS : stOK st) : wsOK 60 (wkS st 60) ∧ (wkS st 60).2.2.length = 10 * (wkS st 60).1.length := ⟨wk60_le hS.rl hS.1, wk_full (by decide) (by decide) hS.rl hS.1⟩
theorem stOK.fs (hS : stOK st) {k : Nat} (h0 : 0 < k) (hk : k ≤ 60) : fst k (wkS st k) (wkS st 60) ∧ wsOK k (wkS st k) := ⟨wk_fst hk h0 hS.rl hS.1, wk_ok hS.rl hS.1 h0⟩
theorem S_tnReach (hR : azClosed R) (hW : CW σ st) {x : Int32} (h : ∀ σ', CW σ' st → clF σ σ' → Q (some (.int (aReach st x))) σ') : R (d + 10) mX8_reach 0 [.ref 0, .int x] [] σ Q := by
  obtain ⟨⟨n, z, kd⟩, I, J, F⟩ := σ
  have k0 : (kd 0).1 = 8 := hW.1.1.1
  have p3 : WkOk kd F 30 := hW.1.2.2.2.2.2.1
  have hS : stOK st := hW.2.2.2.2
  have k21 := p3.1
  have hh := h _ hW (clF_I (fun _ _ => rfl) fun _ _ => rfl)
  refine BX8_reach_0 hR (S_isReach hR ?_)
  unfold isJ
  unfold aReach at h hh
  rcases jx_cases x (K := 60) (by decide) (by decide) with ⟨e, c⟩ | ⟨k, h0, hk, rfl, e⟩
  · rw [e] at hh ⊢
    simp (disch := omega) only [nI_ad, nI_ml, nI_lti, nI_lei, nI_eqi, nI_nn, nI_0le, nI_eq0, nI_0lt, nI_le0, nI_clamp, nI_pd, nI_sb, zOf_some, zOp_some, zOp_none, kI_int, kL_long, kO_ref, kO_null, nlt_T, nlt_F, nle_T, nle_F, neq_F, vpT, azUp_at, if_true, if_false, true_and, and_true, true_implies, false_implies, implies_true, not_true_eq_false, not_false_eq_true, true_or, or_true, false_or, or_false, and_false, false_and, eq_self, n01_0, n01_1, nm1_0]
    exact hh
  rw [e] at h ⊢
  dsimp only at h
  simp (disch := omega) only [nI_ad, nI_ml, nI_lti, nI_lei, nI_eqi, nI_nn, nI_0le, nI_eq0, nI_0lt, nI_le0, nI_clamp, nI_pd, nI_sb, zOf_some, zOp_some, zOp_none, kI_int, kL_long, kO_ref, kO_null, nlt_T, nlt_F, nle_T, nle_F, neq_F, vpT, azUp_at, if_true, if_false, true_and, and_true, true_implies, false_implies, implies_true, not_true_eq_false, not_false_eq_true, true_or, or_true, false_or, or_false, and_false, false_and, eq_self, n01_0, n01_1, nm1_0, k0]
  refine S_walksNow hR hW fun I1 w1 w2 w3 => ?_
  obtain ⟨ws, wf⟩ := hS.ws
  obtain ⟨fs, fo⟩ := hS.fs h0 hk
  simp (disch := omega) only [nI_ad, nI_ml, nI_lti, nI_lei, nI_eqi, nI_nn, nI_0le, nI_eq0, nI_0lt, nI_le0, nI_clamp, nI_pd, nI_sb, zOf_some, zOp_some, zOp_none, kI_int, kL_long, kO_ref, kO_null, nlt_T, nlt_F, nle_T, nle_F, neq_F, vpT, azUp_at, if_true, if_false, true_and, and_true, true_implies, false_implies, implies_true, not_true_eq_false, not_false_eq_true, true_or, or_true, false_or, or_false, and_false, false_and, eq_self, n01_0, n01_1, nm1_0, k21]
  refine S_among hR p3 ws w3 hk ?_
  rw [← fs.1]
  simp (disch := omega) only [nI_ad, nI_ml, nI_lti, nI_lei, nI_eqi, nI_nn, nI_0le, nI_eq0, nI_0lt, nI_le0, nI_clamp, nI_pd, nI_sb, zOf_some, zOp_some, zOp_none, kI_int, kL_long, kO_ref, kO_null, nlt_T, nlt_F, nle_T, nle_F, neq_F, vpT, azUp_at, if_true, if_false, true_and, and_true, true_implies, false_implies, implies_true, not_true_eq_false, not_false_eq_true, true_or, or_true, false_or, or_false, and_false, false_and, eq_self, n01_0, n01_1, nm1_0]
  exact h _ w1 w2
theorem S_tnMost (hR : azClosed R) (hW : CW σ st) {x y : Int32} (h : ∀ σ', CW σ' st → clF σ σ' → Q (some (.int (aMost st x y))) σ') : R (d + 10) mX8_most 0 [.ref 0, .int x, .int y] [] σ Q := by
  obtain ⟨⟨n, z, kd⟩, I, J, F⟩ := σ
  have k0 : (kd 0).1 = 8 := hW.1.1.1
  have p3 : WkOk kd F 30 := hW.1.2.2.2.2.2.1
  have hS : stOK st := hW.2.2.2.2
  have k21 := p3.1
  have hh := h _ hW (clF_I (fun _ _ => rfl) fun _ _ => rfl)
  refine BX8_most_0 hR (S_isPlace hR ?_)
  unfold isP
  unfold aMost at h hh
  rcases ix_cases x (n := 10) (by decide) with ⟨e, c⟩ | ⟨p, hp, rfl, e⟩
  · rw [e] at hh ⊢
    simp (disch := omega) only [nI_ad, nI_ml, nI_lti, nI_lei, nI_eqi, nI_nn, nI_0le, nI_eq0, nI_0lt, nI_le0, nI_clamp, nI_pd, nI_sb, zOf_some, zOp_some, zOp_none, kI_int, kL_long, kO_ref, kO_null, nlt_T, nlt_F, nle_T, nle_F, neq_F, vpT, azUp_at, if_true, if_false, true_and, and_true, true_implies, false_implies, implies_true, not_true_eq_false, not_false_eq_true, true_or, or_true, false_or, or_false, and_false, false_and, eq_self, n01_0, n01_1, nm1_0]
    exact hh
  rw [e] at h hh ⊢
  dsimp only at h hh
  simp (disch := omega) only [nI_ad, nI_ml, nI_lti, nI_lei, nI_eqi, nI_nn, nI_0le, nI_eq0, nI_0lt, nI_le0, nI_clamp, nI_pd, nI_sb, zOf_some, zOp_some, zOp_none, kI_int, kL_long, kO_ref, kO_null, nlt_T, nlt_F, nle_T, nle_F, neq_F, vpT, azUp_at, if_true, if_false, true_and, and_true, true_implies, false_implies, implies_true, not_true_eq_false, not_false_eq_true, true_or, or_true, false_or, or_false, and_false, false_and, eq_self, n01_0, n01_1, nm1_0]
  refine S_isReach hR ?_
  unfold isJ
  rcases jx_cases y (K := 60) (by decide) (by decide) with ⟨e, c⟩ | ⟨k, h0, hk, rfl, e⟩
  · rw [e] at hh ⊢
    simp (disch := omega) only [nI_ad, nI_ml, nI_lti, nI_lei, nI_eqi, nI_nn, nI_0le, nI_eq0, nI_0lt, nI_le0, nI_clamp, nI_pd, nI_sb, zOf_some, zOp_some, zOp_none, kI_int, kL_long, kO_ref, kO_null, nlt_T, nlt_F, nle_T, nle_F, neq_F, vpT, azUp_at, if_true, if_false, true_and, and_true, true_implies, false_implies, implies_true, not_true_eq_false, not_false_eq_true, true_or, or_true, false_or, or_false, and_false, false_and, eq_self, n01_0, n01_1, nm1_0]
    exact hh
  rw [e] at h ⊢
  dsimp only at h
  simp (disch := omega) only [nI_ad, nI_ml, nI_lti, nI_lei, nI_eqi, nI_nn, nI_0le, nI_eq0, nI_0lt, nI_le0, nI_clamp, nI_pd, nI_sb, zOf_some, zOp_some, zOp_none, kI_int, kL_long, kO_ref, kO_null, nlt_T, nlt_F, nle_T, nle_F, neq_F, vpT, azUp_at, if_true, if_false, true_and, and_true, true_implies, false_implies, implies_true, not_true_eq_false, not_false_eq_true, true_or, or_true, false_or, or_false, and_false, false_and, eq_self, n01_0, n01_1, nm1_0, k0]
  refine S_walksNow hR hW fun I1 w1 w2 w3 => ?_
  obtain ⟨ws, wf⟩ := hS.ws
  obtain ⟨fs, fo⟩ := hS.fs h0 hk
  simp (disch := omega) only [nI_ad, nI_ml, nI_lti, nI_lei, nI_eqi, nI_nn, nI_0le, nI_eq0, nI_0lt, nI_le0, nI_clamp, nI_pd, nI_sb, zOf_some, zOp_some, zOp_none, kI_int, kL_long, kO_ref, kO_null, nlt_T, nlt_F, nle_T, nle_F, neq_F, vpT, azUp_at, if_true, if_false, true_and, and_true, true_implies, false_implies, implies_true, not_true_eq_false, not_false_eq_true, true_or, or_true, false_or, or_false, and_false, false_and, eq_self, n01_0, n01_1, nm1_0, k21]
  refine S_fullest hR p3 ws w3 hk hp ?_
  rw [← fs.1, ← mstT_fst fs _ (Nat.le_refl _)]
  simp (disch := omega) only [nI_ad, nI_ml, nI_lti, nI_lei, nI_eqi, nI_nn, nI_0le, nI_eq0, nI_0lt, nI_le0, nI_clamp, nI_pd, nI_sb, zOf_some, zOp_some, zOp_none, kI_int, kL_long, kO_ref, kO_null, nlt_T, nlt_F, nle_T, nle_F, neq_F, vpT, azUp_at, if_true, if_false, true_and, and_true, true_implies, false_implies, implies_true, not_true_eq_false, not_false_eq_true, true_or, or_true, false_or, or_false, and_false, false_and, eq_self, n01_0, n01_1, nm1_0]
  exact h _ w1 w2
theorem S_rulesTold (hR : azClosed R) (hW : CW ((n, z, kd), I, J, F) st) (h : Q (some (.int (nI (tldT st.2.1 10)))) ((n, z, kd), I, J, F)) : R d mX8_rulesTold 0 [.ref 0, .retAddr 0, .retAddr 0] [] ((n, z, kd), I, J, F) Q := by
  have k0 : (kd 0).1 = 8 := hW.1.1.1
  have f3 : F 0 3 = some 10 := hW.1.1.2.2.2.2.1
  have hC : cTn kd I F st := hW.2.1
  have kg := hC.2.1.1
  have main : ∀ s p, s + p = 10 → R d mX8_rulesTold 4 [.ref 0, .int (nI (tldT st.2.1 p)), .int (nI p)] [] ((n, z, kd), I, J, F) Q := by
    intro s
    induction s with
    | zero =>
      intro p hp
      obtain rfl : p = 10 := by omega
      refine BX8_rulesTold_4 hR ?_
      simp (disch := omega) only [nI_ad, nI_ml, nI_lti, nI_lei, nI_eqi, nI_nn, nI_0le, nI_eq0, nI_0lt, nI_le0, nI_clamp, nI_pd, nI_sb, zOf_some, zOp_some, zOp_none, kI_int, kL_long, kO_ref, kO_null, nlt_T, nlt_F, nle_T, nle_F, neq_F, vpT, azUp_at, if_true, if_false, true_and, and_true, true_implies, false_implies, implies_true, not_true_eq_false, not_false_eq_true, true_or, or_true, false_or, or_false, and_false, false_and, eq_self, n01_0, n01_1, nm1_0]
      exact h
    | succ s ih =>
      intro p hs
      have hp : p < 10 := by omega
      have hh := ih (p + 1) (by omega)
      have et : tldT st.2.1 (p + 1) = if (st.2.1 p).isSome then tldT st.2.1 p ||| 2 ^ p else tldT st.2.1 p := rfl
      rw [et] at hh
      refine BX8_rulesTold_4 hR ?_
      rcases hC.2.1.cases hp with ⟨e1, e2⟩ | ⟨t, cs, r, e1, e2, e3, e4, e5, e6, e7⟩
      · rw [e1, Option.isSome_none, if_neg (by decide)] at hh
        simp (disch := omega) only [nI_ad, nI_ml, nI_lti, nI_lei, nI_eqi, nI_nn, nI_0le, nI_eq0, nI_0lt, nI_le0, nI_clamp, nI_pd, nI_sb, zOf_some, zOp_some, zOp_none, kI_int, kL_long, kO_ref, kO_null, nlt_T, nlt_F, nle_T, nle_F, neq_F, vpT, azUp_at, if_true, if_false, true_and, and_true, true_implies, false_implies, implies_true, not_true_eq_false, not_false_eq_true, true_or, or_true, false_or, or_false, and_false, false_and, eq_self, n01_0, n01_1, nm1_0, k0, f3, kg, e2]
        exact hh
      · rw [e1, Option.isSome_some, if_pos rfl] at hh
        simp (disch := omega) only [nI_ad, nI_ml, nI_lti, nI_lei, nI_eqi, nI_nn, nI_0le, nI_eq0, nI_0lt, nI_le0, nI_clamp, nI_pd, nI_sb, zOf_some, zOp_some, zOp_none, kI_int, kL_long, kO_ref, kO_null, nlt_T, nlt_F, nle_T, nle_F, neq_F, vpT, azUp_at, if_true, if_false, true_and, and_true, true_implies, false_implies, implies_true, not_true_eq_false, not_false_eq_true, true_or, or_true, false_or, or_false, and_false, false_and, eq_self, n01_0, n01_1, nm1_0, k0, f3, kg, e3, nI_bit, nI_or]
        exact hh
  exact BX8_rulesTold_0 hR (main 10 0 rfl)
theorem S_tnDead (hR : azClosed R) (hW : CW σ st) {x : Int32} (h : ∀ σ', CW σ' st → clF σ σ' → Q (some (.int (aDead st x))) σ') : R (d + 10) mX8_dead 0 [.ref 0, .int x] [] σ Q := by
  obtain ⟨⟨n, z, kd⟩, I, J, F⟩ := σ
  have k0 : (kd 0).1 = 8 := hW.1.1.1
  have p3 : WkOk kd F 30 := hW.1.2.2.2.2.2.1
  have hS : stOK st := hW.2.2.2.2
  have k21 := p3.1
  have hh := h _ hW (clF_I (fun _ _ => rfl) fun _ _ => rfl)
  refine BX8_dead_0 hR (S_isReach hR ?_)
  unfold isJ
  unfold aDead at h hh
  rcases jx_cases x (K := 60) (by decide) (by decide) with ⟨e, c⟩ | ⟨k, h0, hk, rfl, e⟩
  · rw [e] at hh ⊢
    simp (disch := omega) only [nI_ad, nI_ml, nI_lti, nI_lei, nI_eqi, nI_nn, nI_0le, nI_eq0, nI_0lt, nI_le0, nI_clamp, nI_pd, nI_sb, zOf_some, zOp_some, zOp_none, kI_int, kL_long, kO_ref, kO_null, nlt_T, nlt_F, nle_T, nle_F, neq_F, vpT, azUp_at, if_true, if_false, true_and, and_true, true_implies, false_implies, implies_true, not_true_eq_false, not_false_eq_true, true_or, or_true, false_or, or_false, and_false, false_and, eq_self, n01_0, n01_1, nm1_0]
    exact hh
  rw [e] at h ⊢
  dsimp only at h
  simp (disch := omega) only [nI_ad, nI_ml, nI_lti, nI_lei, nI_eqi, nI_nn, nI_0le, nI_eq0, nI_0lt, nI_le0, nI_clamp, nI_pd, nI_sb, zOf_some, zOp_some, zOp_none, kI_int, kL_long, kO_ref, kO_null, nlt_T, nlt_F, nle_T, nle_F, neq_F, vpT, azUp_at, if_true, if_false, true_and, and_true, true_implies, false_implies, implies_true, not_true_eq_false, not_false_eq_true, true_or, or_true, false_or, or_false, and_false, false_and, eq_self, n01_0, n01_1, nm1_0, k0]
  refine S_rulesTold hR hW ?_
  simp (disch := omega) only [nI_ad, nI_ml, nI_lti, nI_lei, nI_eqi, nI_nn, nI_0le, nI_eq0, nI_0lt, nI_le0, nI_clamp, nI_pd, nI_sb, zOf_some, zOp_some, zOp_none, kI_int, kL_long, kO_ref, kO_null, nlt_T, nlt_F, nle_T, nle_F, neq_F, vpT, azUp_at, if_true, if_false, true_and, and_true, true_implies, false_implies, implies_true, not_true_eq_false, not_false_eq_true, true_or, or_true, false_or, or_false, and_false, false_and, eq_self, n01_0, n01_1, nm1_0, k0]
  refine S_walksNow hR hW fun I1 w1 w2 w3 => ?_
  obtain ⟨ws, wf⟩ := hS.ws
  obtain ⟨fs, fo⟩ := hS.fs h0 hk
  simp (disch := omega) only [nI_ad, nI_ml, nI_lti, nI_lei, nI_eqi, nI_nn, nI_0le, nI_eq0, nI_0lt, nI_le0, nI_clamp, nI_pd, nI_sb, zOf_some, zOp_some, zOp_none, kI_int, kL_long, kO_ref, kO_null, nlt_T, nlt_F, nle_T, nle_F, neq_F, vpT, azUp_at, if_true, if_false, true_and, and_true, true_implies, false_implies, implies_true, not_true_eq_false, not_false_eq_true, true_or, or_true, false_or, or_false, and_false, false_and, eq_self, n01_0, n01_1, nm1_0, k21]
  refine S_able hR p3 ws w3 hk ?_
  rw [← fs.1, ← orT_fst fs _ (Nat.le_refl _), kI_int, dd_eq (orT_lt _)]
  exact h _ w1 w2
theorem S_tnEnds (hR : azClosed R) (hW : CW σ st) {x : Int32} (h : ∀ σ', CW σ' st → clF σ σ' → Q (some (.int (aEnds st x))) σ') : R (d + 10) mX8_ends 0 [.ref 0, .int x] [] σ Q := by
  obtain ⟨⟨n, z, kd⟩, I, J, F⟩ := σ
  have k0 : (kd 0).1 = 8 := hW.1.1.1
  have p3 : WkOk kd F 30 := hW.1.2.2.2.2.2.1
  have hS : stOK st := hW.2.2.2.2
  have k21 := p3.1
  have hh := h _ hW (clF_I (fun _ _ => rfl) fun _ _ => rfl)
  refine BX8_ends_0 hR (S_isReach hR ?_)
  unfold isJ
  unfold aEnds at h hh
  rcases jx_cases x (K := 60) (by decide) (by decide) with ⟨e, c⟩ | ⟨k, h0, hk, rfl, e⟩
  · rw [e] at hh ⊢
    simp (disch := omega) only [nI_ad, nI_ml, nI_lti, nI_lei, nI_eqi, nI_nn, nI_0le, nI_eq0, nI_0lt, nI_le0, nI_clamp, nI_pd, nI_sb, zOf_some, zOp_some, zOp_none, kI_int, kL_long, kO_ref, kO_null, nlt_T, nlt_F, nle_T, nle_F, neq_F, vpT, azUp_at, if_true, if_false, true_and, and_true, true_implies, false_implies, implies_true, not_true_eq_false, not_false_eq_true, true_or, or_true, false_or, or_false, and_false, false_and, eq_self, n01_0, n01_1, nm1_0]
    exact hh
  rw [e] at h ⊢
  dsimp only at h
  simp (disch := omega) only [nI_ad, nI_ml, nI_lti, nI_lei, nI_eqi, nI_nn, nI_0le, nI_eq0, nI_0lt, nI_le0, nI_clamp, nI_pd, nI_sb, zOf_some, zOp_some, zOp_none, kI_int, kL_long, kO_ref, kO_null, nlt_T, nlt_F, nle_T, nle_F, neq_F, vpT, azUp_at, if_true, if_false, true_and, and_true, true_implies, false_implies, implies_true, not_true_eq_false, not_false_eq_true, true_or, or_true, false_or, or_false, and_false, false_and, eq_self, n01_0, n01_1, nm1_0, k0]
  refine S_walksNow hR hW fun I1 w1 w2 w3 => ?_
  obtain ⟨ws, wf⟩ := hS.ws
  obtain ⟨fs, fo⟩ := hS.fs h0 hk
  simp (disch := omega) only [nI_ad, nI_ml, nI_lti, nI_lei, nI_eqi, nI_nn, nI_0le, nI_eq0, nI_0lt, nI_le0, nI_clamp, nI_pd, nI_sb, zOf_some, zOp_some, zOp_none, kI_int, kL_long, kO_ref, kO_null, nlt_T, nlt_F, nle_T, nle_F, neq_F, vpT, azUp_at, if_true, if_false, true_and, and_true, true_implies, false_implies, implies_true, not_true_eq_false, not_false_eq_true, true_or, or_true, false_or, or_false, and_false, false_and, eq_self, n01_0, n01_1, nm1_0, k21]
  refine S_ends hR p3 ws w3 hk ?_
  rw [← fs.1, ← ndT_fst fs _ (Nat.le_refl _)]
  simp (disch := omega) only [nI_ad, nI_ml, nI_lti, nI_lei, nI_eqi, nI_nn, nI_0le, nI_eq0, nI_0lt, nI_le0, nI_clamp, nI_pd, nI_sb, zOf_some, zOp_some, zOp_none, kI_int, kL_long, kO_ref, kO_null, nlt_T, nlt_F, nle_T, nle_F, neq_F, vpT, azUp_at, if_true, if_false, true_and, and_true, true_implies, false_implies, implies_true, not_true_eq_false, not_false_eq_true, true_or, or_true, false_or, or_false, and_false, false_and, eq_self, n01_0, n01_1, nm1_0]
  exact h _ w1 w2
theorem S_tnStuck (hR : azClosed R) (hW : CW σ st) {x : Int32} (h : ∀ σ' v, aStuck st x v → CW σ' st → clF σ σ' → Q (some (.int v)) σ') : R (d + 10) mX8_stuck 0 [.ref 0, .int x] [] σ Q := by
  obtain ⟨⟨n, z, kd⟩, I, J, F⟩ := σ
  have k0 : (kd 0).1 = 8 := hW.1.1.1
  have p3 : WkOk kd F 30 := hW.1.2.2.2.2.2.1
  have hS : stOK st := hW.2.2.2.2
  have k21 := p3.1
  have hh := fun v hv => h _ v hv hW (clF_I (fun _ _ => rfl) fun _ _ => rfl)
  refine BX8_stuck_0 hR (S_isReach hR ?_)
  unfold isJ
  unfold aStuck at h hh
  rcases jx_cases x (K := 60) (by decide) (by decide) with ⟨e, c⟩ | ⟨k, h0, hk, rfl, e⟩
  · rw [e] at hh ⊢
    simp (disch := omega) only [nI_ad, nI_ml, nI_lti, nI_lei, nI_eqi, nI_nn, nI_0le, nI_eq0, nI_0lt, nI_le0, nI_clamp, nI_pd, nI_sb, zOf_some, zOp_some, zOp_none, kI_int, kL_long, kO_ref, kO_null, nlt_T, nlt_F, nle_T, nle_F, neq_F, vpT, azUp_at, if_true, if_false, true_and, and_true, true_implies, false_implies, implies_true, not_true_eq_false, not_false_eq_true, true_or, or_true, false_or, or_false, and_false, false_and, eq_self, n01_0, n01_1, nm1_0]
    exact hh _ rfl
  rw [e] at h ⊢
  dsimp only at h
  simp (disch := omega) only [nI_ad, nI_ml, nI_lti, nI_lei, nI_eqi, nI_nn, nI_0le, nI_eq0, nI_0lt, nI_le0, nI_clamp, nI_pd, nI_sb, zOf_some, zOp_some, zOp_none, kI_int, kL_long, kO_ref, kO_null, nlt_T, nlt_F, nle_T, nle_F, neq_F, vpT, azUp_at, if_true, if_false, true_and, and_true, true_implies, false_implies, implies_true, not_true_eq_false, not_false_eq_true, true_or, or_true, false_or, or_false, and_false, false_and, eq_self, n01_0, n01_1, nm1_0, k0]
  refine S_walksNow hR hW fun I1 w1 w2 w3 => ?_
  obtain ⟨ws, wf⟩ := hS.ws
  obtain ⟨fs, fo⟩ := hS.fs h0 hk
  simp (disch := omega) only [nI_ad, nI_ml, nI_lti, nI_lei, nI_eqi, nI_nn, nI_0le, nI_eq0, nI_0lt, nI_le0, nI_clamp, nI_pd, nI_sb, zOf_some, zOp_some, zOp_none, kI_int, kL_long, kO_ref, kO_null, nlt_T, nlt_F, nle_T, nle_F, neq_F, vpT, azUp_at, if_true, if_false, true_and, and_true, true_implies, false_implies, implies_true, not_true_eq_false, not_false_eq_true, true_or, or_true, false_or, or_false, and_false, false_and, eq_self, n01_0, n01_1, nm1_0, k21]
  refine S_stuck hR p3 ws wf w3 hk fun I2 v g1 g2 => ?_
  rw [← fs.1] at g2
  have hsc : ∀ b, ¬ scrB b → I2 b = I1 b := fun b hb => by
    have hb' : ¬ ((4 ≤ b ∧ b ≤ 9) ∨ (24 ≤ b ∧ b ≤ 29) ∨ (212 ≤ b ∧ b ≤ 214) ∨ (219 ≤ b ∧ b ≤ 222)) := hb
    exact g1 b (by omega)
  obtain ⟨v1, v2⟩ := w1.scr hsc (J' := J) fun _ _ => rfl
  simp (disch := omega) only [nI_ad, nI_ml, nI_lti, nI_lei, nI_eqi, nI_nn, nI_0le, nI_eq0, nI_0lt, nI_le0, nI_clamp, nI_pd, nI_sb, zOf_some, zOp_some, zOp_none, kI_int, kL_long, kO_ref, kO_null, nlt_T, nlt_F, nle_T, nle_F, neq_F, vpT, azUp_at, if_true, if_false, true_and, and_true, true_implies, false_implies, implies_true, not_true_eq_false, not_false_eq_true, true_or, or_true, false_or, or_false, and_false, false_and, eq_self, n01_0, n01_1, nm1_0]
  refine h _ v (isStk_fst fs (fun k j hj => ?_) g2) v1 ⟨Nat.le_refl _, Nat.le_add_right _ _, Nat.le_add_right _ _, fun b b1 b2 => ?_⟩
  · refine ws.2.2.2.2.2 j ?_
    rw [← hj]
    unfold ld at hj ⊢
    have hk : k < (wkS st 60).2.2.length := by
      rcases Nat.lt_or_ge k (wkS st 60).2.2.length with q | q
      · exact q
      · rw [List.getD_eq_getElem?_getD, List.getElem?_eq_none q] at hj; cases hj
    rw [List.getD_eq_getElem?_getD, List.getElem?_eq_getElem hk]
    exact List.getElem_mem hk
  · obtain ⟨x1, x2, x3, x4⟩ := v2.2.2.2 b b1 b2
    obtain ⟨y1, y2, y3, y4⟩ := w2.2.2.2 b b1 b2
    exact ⟨by rw [x1, y1], by rw [x2, y2], by rw [x3, y3], by rw [x4, y4]⟩
theorem S_tnWalk (hR : azClosed R) (hW : CW σ st) {x y z : Int32} (h : ∀ σ', CW σ' st → clF σ σ' → Q (some (.int (aWalk st x y z))) σ') : R (d + 10) mX8_walk 0 [.ref 0, .int x, .int y, .int z, .retAddr 0] [] σ Q := by
  obtain ⟨⟨n, z', kd⟩, I, J, F⟩ := σ
  have k0 : (kd 0).1 = 8 := hW.1.1.1
  have f7 : F 0 7 = some 30 := hW.1.1.2.2.2.2.2.2.2.2.1
  have p3 : WkOk kd F 30 := hW.1.2.2.2.2.2.1
  have hS : stOK st := hW.2.2.2.2
  have k21 := p3.1
  have hh := h _ hW (clF_I (fun _ _ => rfl) fun _ _ => rfl)
  refine BX8_walk_0 hR (S_isReach hR ?_)
  unfold isJ
  unfold aWalk at h hh
  rcases jx_cases x (K := 60) (by decide) (by decide) with ⟨e, c⟩ | ⟨k, h0, hk, rfl, e⟩
  · rw [e] at hh ⊢
    simp (disch := omega) only [nI_ad, nI_ml, nI_lti, nI_lei, nI_eqi, nI_nn, nI_0le, nI_eq0, nI_0lt, nI_le0, nI_clamp, nI_pd, nI_sb, zOf_some, zOp_some, zOp_none, kI_int, kL_long, kO_ref, kO_null, nlt_T, nlt_F, nle_T, nle_F, neq_F, vpT, azUp_at, if_true, if_false, true_and, and_true, true_implies, false_implies, implies_true, not_true_eq_false, not_false_eq_true, true_or, or_true, false_or, or_false, and_false, false_and, eq_self, n01_0, n01_1, nm1_0]
    exact hh
  rw [e] at h hh ⊢
  dsimp only at h hh
  obtain ⟨ws, wf⟩ := hS.ws
  obtain ⟨fs, fo⟩ := hS.fs h0 hk
  have hlk := fo.2.1
  rcases ix_cases y (n := (wkS st k).1.length) (by omega) with ⟨e, c | ⟨c0, c⟩⟩ | ⟨i, hi, rfl, e⟩
  · rw [e] at hh
    simp (disch := omega) only [nI_ad, nI_ml, nI_lti, nI_lei, nI_eqi, nI_nn, nI_0le, nI_eq0, nI_0lt, nI_le0, nI_clamp, nI_pd, nI_sb, zOf_some, zOp_some, zOp_none, kI_int, kL_long, kO_ref, kO_null, nlt_T, nlt_F, nle_T, nle_F, neq_F, vpT, azUp_at, if_true, if_false, true_and, and_true, true_implies, false_implies, implies_true, not_true_eq_false, not_false_eq_true, true_or, or_true, false_or, or_false, and_false, false_and, eq_self, n01_0, n01_1, nm1_0, c]
    exact hh
  · rw [e] at h
    simp (disch := omega) only [nI_ad, nI_ml, nI_lti, nI_lei, nI_eqi, nI_nn, nI_0le, nI_eq0, nI_0lt, nI_le0, nI_clamp, nI_pd, nI_sb, zOf_some, zOp_some, zOp_none, kI_int, kL_long, kO_ref, kO_null, nlt_T, nlt_F, nle_T, nle_F, neq_F, vpT, azUp_at, if_true, if_false, true_and, and_true, true_implies, false_implies, implies_true, not_true_eq_false, not_false_eq_true, true_or, or_true, false_or, or_false, and_false, false_and, eq_self, n01_0, n01_1, nm1_0, c0, k0]
    refine S_walksNow hR hW fun I1 w1 w2 w3 => ?_
    simp (disch := omega) only [nI_ad, nI_ml, nI_lti, nI_lei, nI_eqi, nI_nn, nI_0le, nI_eq0, nI_0lt, nI_le0, nI_clamp, nI_pd, nI_sb, zOf_some, zOp_some, zOp_none, kI_int, kL_long, kO_ref, kO_null, nlt_T, nlt_F, nle_T, nle_F, neq_F, vpT, azUp_at, if_true, if_false, true_and, and_true, true_implies, false_implies, implies_true, not_true_eq_false, not_false_eq_true, true_or, or_true, false_or, or_false, and_false, false_and, eq_self, n01_0, n01_1, nm1_0, k21]
    refine S_among hR p3 ws w3 hk ?_
    rw [← fs.1]
    have c2 : ¬ (y < nI (wkS st k).1.length) := Int32.not_lt.mpr c
    simp (disch := omega) only [nI_ad, nI_ml, nI_lti, nI_lei, nI_eqi, nI_nn, nI_0le, nI_eq0, nI_0lt, nI_le0, nI_clamp, nI_pd, nI_sb, zOf_some, zOp_some, zOp_none, kI_int, kL_long, kO_ref, kO_null, nlt_T, nlt_F, nle_T, nle_F, neq_F, vpT, azUp_at, if_true, if_false, true_and, and_true, true_implies, false_implies, implies_true, not_true_eq_false, not_false_eq_true, true_or, or_true, false_or, or_false, and_false, false_and, eq_self, n01_0, n01_1, nm1_0, c2]
    exact h _ w1 w2
  · rw [e] at h
    dsimp only at h
    simp (disch := omega) only [nI_ad, nI_ml, nI_lti, nI_lei, nI_eqi, nI_nn, nI_0le, nI_eq0, nI_0lt, nI_le0, nI_clamp, nI_pd, nI_sb, zOf_some, zOp_some, zOp_none, kI_int, kL_long, kO_ref, kO_null, nlt_T, nlt_F, nle_T, nle_F, neq_F, vpT, azUp_at, if_true, if_false, true_and, and_true, true_implies, false_implies, implies_true, not_true_eq_false, not_false_eq_true, true_or, or_true, false_or, or_false, and_false, false_and, eq_self, n01_0, n01_1, nm1_0, k0]
    refine S_walksNow hR hW fun I1 w1 w2 w3 => ?_
    have h := h _ w1 w2
    have hi60 : i < (wkS st 60).1.length := by have := fs.1; omega
    simp (disch := omega) only [nI_ad, nI_ml, nI_lti, nI_lei, nI_eqi, nI_nn, nI_0le, nI_eq0, nI_0lt, nI_le0, nI_clamp, nI_pd, nI_sb, zOf_some, zOp_some, zOp_none, kI_int, kL_long, kO_ref, kO_null, nlt_T, nlt_F, nle_T, nle_F, neq_F, vpT, azUp_at, if_true, if_false, true_and, and_true, true_implies, false_implies, implies_true, not_true_eq_false, not_false_eq_true, true_or, or_true, false_or, or_false, and_false, false_and, eq_self, n01_0, n01_1, nm1_0, k21]
    refine S_among hR p3 ws w3 hk ?_
    rw [← fs.1]
    simp (disch := omega) only [nI_ad, nI_ml, nI_lti, nI_lei, nI_eqi, nI_nn, nI_0le, nI_eq0, nI_0lt, nI_le0, nI_clamp, nI_pd, nI_sb, zOf_some, zOp_some, zOp_none, kI_int, kL_long, kO_ref, kO_null, nlt_T, nlt_F, nle_T, nle_F, neq_F, vpT, azUp_at, if_true, if_false, true_and, and_true, true_implies, false_implies, implies_true, not_true_eq_false, not_false_eq_true, true_or, or_true, false_or, or_false, and_false, false_and, eq_self, n01_0, n01_1, nm1_0, k0, f7, k21]
    refine S_steps hR p3 ws w3 hi60 ?_
    rw [← stp_fst fs fo 60 i hi]
    have hs60 := stp_le (S := wkS st k) 60 i
    by_cases cz : z = -(nI 1)
    · rw [if_pos cz] at h
      simp (disch := omega) only [nI_ad, nI_ml, nI_lti, nI_lei, nI_eqi, nI_nn, nI_0le, nI_eq0, nI_0lt, nI_le0, nI_clamp, nI_pd, nI_sb, zOf_some, zOp_some, zOp_none, kI_int, kL_long, kO_ref, kO_null, nlt_T, nlt_F, nle_T, nle_F, neq_F, vpT, azUp_at, if_true, if_false, true_and, and_true, true_implies, false_implies, implies_true, not_true_eq_false, not_false_eq_true, true_or, or_true, false_or, or_false, and_false, false_and, eq_self, n01_0, n01_1, nm1_0, cz]
      exact h
    rw [if_neg cz] at h
    rcases ix_cases z (n := stp (wkS st k) 60 i) (by omega) with ⟨e, c | ⟨c0, c⟩⟩ | ⟨j, hj, rfl, e⟩
    · rw [e] at h
      simp (disch := omega) only [nI_ad, nI_ml, nI_lti, nI_lei, nI_eqi, nI_nn, nI_0le, nI_eq0, nI_0lt, nI_le0, nI_clamp, nI_pd, nI_sb, zOf_some, zOp_some, zOp_none, kI_int, kL_long, kO_ref, kO_null, nlt_T, nlt_F, nle_T, nle_F, neq_F, vpT, azUp_at, if_true, if_false, true_and, and_true, true_implies, false_implies, implies_true, not_true_eq_false, not_false_eq_true, true_or, or_true, false_or, or_false, and_false, false_and, eq_self, n01_0, n01_1, nm1_0, cz, c]
      exact h
    · rw [e] at h
      simp (disch := omega) only [nI_ad, nI_ml, nI_lti, nI_lei, nI_eqi, nI_nn, nI_0le, nI_eq0, nI_0lt, nI_le0, nI_clamp, nI_pd, nI_sb, zOf_some, zOp_some, zOp_none, kI_int, kL_long, kO_ref, kO_null, nlt_T, nlt_F, nle_T, nle_F, neq_F, vpT, azUp_at, if_true, if_false, true_and, and_true, true_implies, false_implies, implies_true, not_true_eq_false, not_false_eq_true, true_or, or_true, false_or, or_false, and_false, false_and, eq_self, n01_0, n01_1, nm1_0, cz, c0, c]
      exact h
    · rw [e] at h
      dsimp only at h
      simp (disch := omega) only [nI_ad, nI_ml, nI_lti, nI_lei, nI_eqi, nI_nn, nI_0le, nI_eq0, nI_0lt, nI_le0, nI_clamp, nI_pd, nI_sb, zOf_some, zOp_some, zOp_none, kI_int, kL_long, kO_ref, kO_null, nlt_T, nlt_F, nle_T, nle_F, neq_F, vpT, azUp_at, if_true, if_false, true_and, and_true, true_implies, false_implies, implies_true, not_true_eq_false, not_false_eq_true, true_or, or_true, false_or, or_false, and_false, false_and, eq_self, n01_0, n01_1, nm1_0, cz, k0, f7, k21]
      refine S_step hR p3 ws w3 hi60 (by omega) ?_
      obtain ⟨a1, a2⟩ := anc_fst fs fo (stp (wkS st k) 60 i - 1 - j) i hi
      rw [← a1, ← (fs.2.1 _ a2).2]
      simp (disch := omega) only [nI_ad, nI_ml, nI_lti, nI_lei, nI_eqi, nI_nn, nI_0le, nI_eq0, nI_0lt, nI_le0, nI_clamp, nI_pd, nI_sb, zOf_some, zOp_some, zOp_none, kI_int, kL_long, kO_ref, kO_null, nlt_T, nlt_F, nle_T, nle_F, neq_F, vpT, azUp_at, if_true, if_false, true_and, and_true, true_implies, false_implies, implies_true, not_true_eq_false, not_false_eq_true, true_or, or_true, false_or, or_false, and_false, false_and, eq_self, n01_0, n01_1, nm1_0]
      exact h
theorem S_tnHeld (hR : azClosed R) (hW : CW σ st) {x y z : Int32} (h : ∀ σ', CW σ' st → clF σ σ' → Q (some (.int (aHeld st x y z))) σ') : R (d + 10) mX8_held 0 [.ref 0, .int x, .int y, .int z] [] σ Q := by
  obtain ⟨⟨n, z', kd⟩, I, J, F⟩ := σ
  have k0 : (kd 0).1 = 8 := hW.1.1.1
  have f7 : F 0 7 = some 30 := hW.1.1.2.2.2.2.2.2.2.2.1
  have p3 : WkOk kd F 30 := hW.1.2.2.2.2.2.1
  have hS : stOK st := hW.2.2.2.2
  have k21 := p3.1
  have hh := h _ hW (clF_I (fun _ _ => rfl) fun _ _ => rfl)
  refine BX8_held_0 hR (S_isReach hR ?_)
  unfold isJ
  unfold aHeld at h hh
  rcases jx_cases x (K := 60) (by decide) (by decide) with ⟨e, c⟩ | ⟨k, h0, hk, rfl, e⟩
  · rw [e] at hh ⊢
    simp (disch := omega) only [nI_ad, nI_ml, nI_lti, nI_lei, nI_eqi, nI_nn, nI_0le, nI_eq0, nI_0lt, nI_le0, nI_clamp, nI_pd, nI_sb, zOf_some, zOp_some, zOp_none, kI_int, kL_long, kO_ref, kO_null, nlt_T, nlt_F, nle_T, nle_F, neq_F, vpT, azUp_at, if_true, if_false, true_and, and_true, true_implies, false_implies, implies_true, not_true_eq_false, not_false_eq_true, true_or, or_true, false_or, or_false, and_false, false_and, eq_self, n01_0, n01_1, nm1_0]
    exact hh
  rw [e] at h hh ⊢
  dsimp only at h hh
  obtain ⟨ws, wf⟩ := hS.ws
  obtain ⟨fs, fo⟩ := hS.fs h0 hk
  have hlk := fo.2.1
  rcases ix_cases y (n := (wkS st k).1.length) (by omega) with ⟨e, c | ⟨c0, c⟩⟩ | ⟨i, hi, rfl, e⟩
  · rw [e] at hh
    simp (disch := omega) only [nI_ad, nI_ml, nI_lti, nI_lei, nI_eqi, nI_nn, nI_0le, nI_eq0, nI_0lt, nI_le0, nI_clamp, nI_pd, nI_sb, zOf_some, zOp_some, zOp_none, kI_int, kL_long, kO_ref, kO_null, nlt_T, nlt_F, nle_T, nle_F, neq_F, vpT, azUp_at, if_true, if_false, true_and, and_true, true_implies, false_implies, implies_true, not_true_eq_false, not_false_eq_true, true_or, or_true, false_or, or_false, and_false, false_and, eq_self, n01_0, n01_1, nm1_0, c]
    exact hh
  · rw [e] at h
    simp (disch := omega) only [nI_ad, nI_ml, nI_lti, nI_lei, nI_eqi, nI_nn, nI_0le, nI_eq0, nI_0lt, nI_le0, nI_clamp, nI_pd, nI_sb, zOf_some, zOp_some, zOp_none, kI_int, kL_long, kO_ref, kO_null, nlt_T, nlt_F, nle_T, nle_F, neq_F, vpT, azUp_at, if_true, if_false, true_and, and_true, true_implies, false_implies, implies_true, not_true_eq_false, not_false_eq_true, true_or, or_true, false_or, or_false, and_false, false_and, eq_self, n01_0, n01_1, nm1_0, c0, k0]
    refine S_walksNow hR hW fun I1 w1 w2 w3 => ?_
    simp (disch := omega) only [nI_ad, nI_ml, nI_lti, nI_lei, nI_eqi, nI_nn, nI_0le, nI_eq0, nI_0lt, nI_le0, nI_clamp, nI_pd, nI_sb, zOf_some, zOp_some, zOp_none, kI_int, kL_long, kO_ref, kO_null, nlt_T, nlt_F, nle_T, nle_F, neq_F, vpT, azUp_at, if_true, if_false, true_and, and_true, true_implies, false_implies, implies_true, not_true_eq_false, not_false_eq_true, true_or, or_true, false_or, or_false, and_false, false_and, eq_self, n01_0, n01_1, nm1_0, k21]
    refine S_among hR p3 ws w3 hk ?_
    rw [← fs.1]
    simp (disch := omega) only [nI_ad, nI_ml, nI_lti, nI_lei, nI_eqi, nI_nn, nI_0le, nI_eq0, nI_0lt, nI_le0, nI_clamp, nI_pd, nI_sb, zOf_some, zOp_some, zOp_none, kI_int, kL_long, kO_ref, kO_null, nlt_T, nlt_F, nle_T, nle_F, neq_F, vpT, azUp_at, if_true, if_false, true_and, and_true, true_implies, false_implies, implies_true, not_true_eq_false, not_false_eq_true, true_or, or_true, false_or, or_false, and_false, false_and, eq_self, n01_0, n01_1, nm1_0, c]
    exact h _ w1 w2
  · rw [e] at h
    dsimp only at h
    simp (disch := omega) only [nI_ad, nI_ml, nI_lti, nI_lei, nI_eqi, nI_nn, nI_0le, nI_eq0, nI_0lt, nI_le0, nI_clamp, nI_pd, nI_sb, zOf_some, zOp_some, zOp_none, kI_int, kL_long, kO_ref, kO_null, nlt_T, nlt_F, nle_T, nle_F, neq_F, vpT, azUp_at, if_true, if_false, true_and, and_true, true_implies, false_implies, implies_true, not_true_eq_false, not_false_eq_true, true_or, or_true, false_or, or_false, and_false, false_and, eq_self, n01_0, n01_1, nm1_0, k0]
    refine S_walksNow hR hW fun I1 w1 w2 w3 => ?_
    have h := h _ w1 w2
    have hi60 : i < (wkS st 60).1.length := by have := fs.1; omega
    simp (disch := omega) only [nI_ad, nI_ml, nI_lti, nI_lei, nI_eqi, nI_nn, nI_0le, nI_eq0, nI_0lt, nI_le0, nI_clamp, nI_pd, nI_sb, zOf_some, zOp_some, zOp_none, kI_int, kL_long, kO_ref, kO_null, nlt_T, nlt_F, nle_T, nle_F, neq_F, vpT, azUp_at, if_true, if_false, true_and, and_true, true_implies, false_implies, implies_true, not_true_eq_false, not_false_eq_true, true_or, or_true, false_or, or_false, and_false, false_and, eq_self, n01_0, n01_1, nm1_0, k21]
    refine S_among hR p3 ws w3 hk ?_
    rw [← fs.1]
    simp (disch := omega) only [nI_ad, nI_ml, nI_lti, nI_lei, nI_eqi, nI_nn, nI_0le, nI_eq0, nI_0lt, nI_le0, nI_clamp, nI_pd, nI_sb, zOf_some, zOp_some, zOp_none, kI_int, kL_long, kO_ref, kO_null, nlt_T, nlt_F, nle_T, nle_F, neq_F, vpT, azUp_at, if_true, if_false, true_and, and_true, true_implies, false_implies, implies_true, not_true_eq_false, not_false_eq_true, true_or, or_true, false_or, or_false, and_false, false_and, eq_self, n01_0, n01_1, nm1_0]
    refine S_isPlace hR ?_
    unfold isP
    rcases ix_cases z (n := 10) (by decide) with ⟨e, c⟩ | ⟨p, hp, rfl, e⟩
    · rw [e] at h ⊢
      simp (disch := omega) only [nI_ad, nI_ml, nI_lti, nI_lei, nI_eqi, nI_nn, nI_0le, nI_eq0, nI_0lt, nI_le0, nI_clamp, nI_pd, nI_sb, zOf_some, zOp_some, zOp_none, kI_int, kL_long, kO_ref, kO_null, nlt_T, nlt_F, nle_T, nle_F, neq_F, vpT, azUp_at, if_true, if_false, true_and, and_true, true_implies, false_implies, implies_true, not_true_eq_false, not_false_eq_true, true_or, or_true, false_or, or_false, and_false, false_and, eq_self, n01_0, n01_1, nm1_0]
      exact h
    rw [e] at h ⊢
    dsimp only at h
    simp (disch := omega) only [nI_ad, nI_ml, nI_lti, nI_lei, nI_eqi, nI_nn, nI_0le, nI_eq0, nI_0lt, nI_le0, nI_clamp, nI_pd, nI_sb, zOf_some, zOp_some, zOp_none, kI_int, kL_long, kO_ref, kO_null, nlt_T, nlt_F, nle_T, nle_F, neq_F, vpT, azUp_at, if_true, if_false, true_and, and_true, true_implies, false_implies, implies_true, not_true_eq_false, not_false_eq_true, true_or, or_true, false_or, or_false, and_false, false_and, eq_self, n01_0, n01_1, nm1_0, k0, f7, k21]
    refine S_countIn hR p3 ws w3 hi60 hp ?_
    rw [← (fs.2.1 i hi).1]
    simp (disch := omega) only [nI_ad, nI_ml, nI_lti, nI_lei, nI_eqi, nI_nn, nI_0le, nI_eq0, nI_0lt, nI_le0, nI_clamp, nI_pd, nI_sb, zOf_some, zOp_some, zOp_none, kI_int, kL_long, kO_ref, kO_null, nlt_T, nlt_F, nle_T, nle_F, neq_F, vpT, azUp_at, if_true, if_false, true_and, and_true, true_implies, false_implies, implies_true, not_true_eq_false, not_false_eq_true, true_or, or_true, false_or, or_false, and_false, false_and, eq_self, n01_0, n01_1, nm1_0]
    exact h
end S8
