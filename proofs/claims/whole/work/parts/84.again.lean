/-! THE CLASS: again, last. -/
/-- a number 1 .. K, or none -/
def jx (x : Int32) (K : Nat) : Option Nat := match ix x (K + 1) with
  | none => none
  | some k => if k = 0 then none else some k
theorem jx_cases (x : Int32) {K : Nat} (hK : K < 1000) (hK1 : 1 ≤ K) : (jx x K = none ∧ (x < nI 1 ∨ (¬ x < nI 1 ∧ nI K < x))) ∨ ∃ k, 0 < k ∧ k ≤ K ∧ x = nI k ∧ jx x K = some k := by
  unfold jx
  rcases ix_cases x (n := K + 1) (by omega) with ⟨e, c | ⟨c0, c⟩⟩ | ⟨k, hk, rfl, e⟩
  · left
    rw [e]
    exact ⟨rfl, Or.inl (of_eq_true (neg_lt c (by decide)))⟩
  · left
    rw [e]
    refine ⟨rfl, Or.inr ⟨fun h => ?_, ?_⟩⟩
    · rw [big_lt c (by omega) (by omega)] at h; exact h
    · rw [Int32.lt_iff_toInt_lt, nI_toInt (by omega)]
      rw [Int32.le_iff_toInt_le, nI_toInt (by omega)] at c
      omega
  · rw [e]
    dsimp only
    by_cases h0 : k = 0
    · left
      rw [if_pos h0]
      refine ⟨rfl, Or.inl ?_⟩
      subst h0
      exact (nI_lti (by decide) (by decide)).mpr (by decide)
    · right
      exact ⟨k, by omega, by omega, rfl, by rw [if_neg h0]⟩
def isJ (x : Int32) (k : Nat) : Int32 := match jx x k with
  | none => nI 0
  | some _ => nI 1
section S8
variable {R : azP} {d : Nat} {σ : azS} {Q : azQ} {st : St}
theorem S_isSet (hR : azClosed R) {x : Int32} (h : Q (some (.int (isP x 1024))) σ) : R d mX8_isSet 0 [.int x] [] σ Q := by
  obtain ⟨⟨n, z, kd⟩, I, J, F⟩ := σ
  refine BX8_isSet_0 hR ?_
  unfold isP at h
  rcases ix_cases x (n := 1024) (by decide) with ⟨e, c | ⟨c0, c⟩⟩ | ⟨k, hk, rfl, e⟩
  · rw [e] at h; simp (disch := omega) only [nI_ad, nI_ml, nI_lti, nI_lei, nI_eqi, nI_nn, nI_0le, nI_eq0, nI_0lt, nI_le0, nI_clamp, nI_pd, nI_sb, zOf_some, zOp_some, zOp_none, kI_int, kL_long, kO_ref, kO_null, nlt_T, nlt_F, nle_T, nle_F, neq_F, vpT, azUp_at, if_true, if_false, true_and, and_true, true_implies, false_implies, implies_true, not_true_eq_false, not_false_eq_true, true_or, or_true, false_or, or_false, and_false, false_and, eq_self, n01_0, n01_1, nm1_0, c]; exact h
  · rw [e] at h; simp (disch := omega) only [nI_ad, nI_ml, nI_lti, nI_lei, nI_eqi, nI_nn, nI_0le, nI_eq0, nI_0lt, nI_le0, nI_clamp, nI_pd, nI_sb, zOf_some, zOp_some, zOp_none, kI_int, kL_long, kO_ref, kO_null, nlt_T, nlt_F, nle_T, nle_F, neq_F, vpT, azUp_at, if_true, if_false, true_and, and_true, true_implies, false_implies, implies_true, not_true_eq_false, not_false_eq_true, true_or, or_true, false_or, or_false, and_false, false_and, eq_self, n01_0, n01_1, nm1_0, c0, c]; exact h
  · rw [e] at h; simp (disch := omega) only [nI_ad, nI_ml, nI_lti, nI_lei, nI_eqi, nI_nn, nI_0le, nI_eq0, nI_0lt, nI_le0, nI_clamp, nI_pd, nI_sb, zOf_some, zOp_some, zOp_none, kI_int, kL_long, kO_ref, kO_null, nlt_T, nlt_F, nle_T, nle_F, neq_F, vpT, azUp_at, if_true, if_false, true_and, and_true, true_implies, false_implies, implies_true, not_true_eq_false, not_false_eq_true, true_or, or_true, false_or, or_false, and_false, false_and, eq_self, n01_0, n01_1, nm1_0]; exact h
theorem S_isTimes (hR : azClosed R) {x : Int32} (h : Q (some (.int (isJ x 200))) σ) : R d mX8_isTimes 0 [.int x] [] σ Q := by
  obtain ⟨⟨n, z, kd⟩, I, J, F⟩ := σ
  refine BX8_isTimes_0 hR ?_
  unfold isJ at h
  rcases jx_cases x (K := 200) (by decide) (by decide) with ⟨e, c | ⟨c0, c⟩⟩ | ⟨k, h0, hk, rfl, e⟩
  · rw [e] at h; simp (disch := omega) only [nI_ad, nI_ml, nI_lti, nI_lei, nI_eqi, nI_nn, nI_0le, nI_eq0, nI_0lt, nI_le0, nI_clamp, nI_pd, nI_sb, zOf_some, zOp_some, zOp_none, kI_int, kL_long, kO_ref, kO_null, nlt_T, nlt_F, nle_T, nle_F, neq_F, vpT, azUp_at, if_true, if_false, true_and, and_true, true_implies, false_implies, implies_true, not_true_eq_false, not_false_eq_true, true_or, or_true, false_or, or_false, and_false, false_and, eq_self, n01_0, n01_1, nm1_0, c]; exact h
  · rw [e] at h; simp (disch := omega) only [nI_ad, nI_ml, nI_lti, nI_lei, nI_eqi, nI_nn, nI_0le, nI_eq0, nI_0lt, nI_le0, nI_clamp, nI_pd, nI_sb, zOf_some, zOp_some, zOp_none, kI_int, kL_long, kO_ref, kO_null, nlt_T, nlt_F, nle_T, nle_F, neq_F, vpT, azUp_at, if_true, if_false, true_and, and_true, true_implies, false_implies, implies_true, not_true_eq_false, not_false_eq_true, true_or, or_true, false_or, or_false, and_false, false_and, eq_self, n01_0, n01_1, nm1_0, c0, c]; exact h
  · rw [e] at h; simp (disch := omega) only [nI_ad, nI_ml, nI_lti, nI_lei, nI_eqi, nI_nn, nI_0le, nI_eq0, nI_0lt, nI_le0, nI_clamp, nI_pd, nI_sb, zOf_some, zOp_some, zOp_none, kI_int, kL_long, kO_ref, kO_null, nlt_T, nlt_F, nle_T, nle_F, neq_F, vpT, azUp_at, if_true, if_false, true_and, and_true, true_implies, false_implies, implies_true, not_true_eq_false, not_false_eq_true, true_or, or_true, false_or, or_false, and_false, false_and, eq_self, n01_0, n01_1, nm1_0]; exact h
theorem S_isReach (hR : azClosed R) {x : Int32} (h : Q (some (.int (isJ x 60))) σ) : R d mX8_isReach 0 [.int x] [] σ Q := by
  obtain ⟨⟨n, z, kd⟩, I, J, F⟩ := σ
  refine BX8_isReach_0 hR ?_
  unfold isJ at h
  rcases jx_cases x (K := 60) (by decide) (by decide) with ⟨e, c | ⟨c0, c⟩⟩ | ⟨k, h0, hk, rfl, e⟩
  · rw [e] at h; simp (disch := omega) only [nI_ad, nI_ml, nI_lti, nI_lei, nI_eqi, nI_nn, nI_0le, nI_eq0, nI_0lt, nI_le0, nI_clamp, nI_pd, nI_sb, zOf_some, zOp_some, zOp_none, kI_int, kL_long, kO_ref, kO_null, nlt_T, nlt_F, nle_T, nle_F, neq_F, vpT, azUp_at, if_true, if_false, true_and, and_true, true_implies, false_implies, implies_true, not_true_eq_false, not_false_eq_true, true_or, or_true, false_or, or_false, and_false, false_and, eq_self, n01_0, n01_1, nm1_0, c]; exact h
  · rw [e] at h; simp (disch := omega) only [nI_ad, nI_ml, nI_lti, nI_lei, nI_eqi, nI_nn, nI_0le, nI_eq0, nI_0lt, nI_le0, nI_clamp, nI_pd, nI_sb, zOf_some, zOp_some, zOp_none, kI_int, kL_long, kO_ref, kO_null, nlt_T, nlt_F, nle_T, nle_F, neq_F, vpT, azUp_at, if_true, if_false, true_and, and_true, true_implies, false_implies, implies_true, not_true_eq_false, not_false_eq_true, true_or, or_true, false_or, or_false, and_false, false_and, eq_self, n01_0, n01_1, nm1_0, c0, c]; exact h
  · rw [e] at h; simp (disch := omega) only [nI_ad, nI_ml, nI_lti, nI_lei, nI_eqi, nI_nn, nI_0le, nI_eq0, nI_0lt, nI_le0, nI_clamp, nI_pd, nI_sb, zOf_some, zOp_some, zOp_none, kI_int, kL_long, kO_ref, kO_null, nlt_T, nlt_F, nle_T, nle_F, neq_F, vpT, azUp_at, if_true, if_false, true_and, and_true, true_implies, false_implies, implies_true, not_true_eq_false, not_false_eq_true, true_or, or_true, false_or, or_false, and_false, false_and, eq_self, n01_0, n01_1, nm1_0]; exact h
end S8
/-- the first part of a set that can go, from p on -/
def tryT (rs : Nat → Option (List Cls)) (s : Nat) (m : Mk) : Nat → Nat → Option Mk
  | 0, _ => none
  | r + 1, p => if s.testBit p then (match pfire rs p m with
      | some M => some M
      | none => tryT rs s m r (p + 1)) else tryT rs s m r (p + 1)
/-- again: how often, and what is then -/
def rpt (rs : Nat → Option (List Cls)) (s : Nat) : Nat → Mk → Nat × Mk
  | 0, m => (0, m)
  | n + 1, m => match tryT rs s m 10 0 with
    | none => (0, m)
    | some M => ((rpt rs s n M).1 + 1, (rpt rs s n M).2)
def aAgain (st : St) (x y : Int32) : Int32 := match ix x 1024 with
  | none => -(nI 2)
  | some s => match jx y 200 with
    | none => -(nI 2)
    | some k => nI (rpt (rsOf st.2.1) s k st.1).1
def aLast (st : St) (x y z : Int32) : Int32 := match ix x 1024 with
  | none => -(nI 2)
  | some s => match jx y 200 with
    | none => -(nI 2)
    | some k => match ix z 10 with
      | none => -(nI 1)
      | some p => if (rpt (rsOf st.2.1) s k st.1).2 p = [] then -(nI 5) else nI (((rpt (rsOf st.2.1) s k st.1).2 p).getD (((rpt (rsOf st.2.1) s k st.1).2 p).length - 1) 0)
theorem tryT_ok {rs : Nat → Option (List Cls)} {s : Nat} {m M : Mk} (ho : ∀ p cs, rs p = some cs → rlOK cs) (hv : mOK m) : ∀ r p, tryT rs s m r p = some M → mOK M := by
  intro r
  induction r with
  | zero => intro p h; cases h
  | succ r ih =>
    intro p h
    unfold tryT at h
    by_cases c : s.testBit p = true
    · rw [if_pos c] at h
      cases e : pfire rs p m with
      | none => rw [e] at h; exact ih _ h
      | some M' =>
        rw [e] at h
        cases h
        exact pfire_ok (ho p) hv e
    · rw [if_neg c] at h; exact ih _ h
theorem rpt_ok {rs : Nat → Option (List Cls)} {s : Nat} (ho : ∀ p cs, rs p = some cs → rlOK cs) : ∀ n m, mOK m → mOK (rpt rs s n m).2 := by
  intro n
  induction n with
  | zero => intro m h; exact h
  | succ n ih =>
    intro m h
    unfold rpt
    cases e : tryT rs s m 10 0 with
    | none => exact h
    | some M => exact ih M (tryT_ok ho h _ _ e)
section S8
variable {R : azP} {d : Nat} {σ : azS} {Q : azQ} {st : St} {n z : Nat} {kd : azK} {I : azI} {J : azJ} {F : azR}
theorem stOK.all (hS : stOK st) : ∀ p cs, rsOf st.2.1 p = some cs → rlOK cs := fun p cs hcs => by
  obtain ⟨t, _, _, _, _, h6⟩ := hS.2.1.rl hcs
  exact h6
theorem S_tryOne (hR : azClosed R) (hW : CW ((n, z, kd), I, J, F) st) {m : Mk} (hm : cM I 7 m) (hv : mOK m) {s : Nat} (hs : s < 1024) (h0 : tryT (rsOf st.2.1) s m 10 0 = none → ∀ I', (∀ b, ¬ scrB b → I' b = I b) → cM I' 7 m → Q (some (.int (nI 0))) ((n, z, kd), I', J, F)) (h1 : ∀ M, tryT (rsOf st.2.1) s m 10 0 = some M → ∀ I', (∀ b, ¬ scrB b → I' b = I b) → cM I' 7 M → Q (some (.int (nI 1))) ((n, z, kd), I', J, F)) : R (d + 8) mX8_tryOne 0 [.ref 0, .int (nI s), .retAddr 0] [] ((n, z, kd), I, J, F) Q := by
  obtain ⟨hT, hC0, hX, hn, hS⟩ := hW
  have hT : TnOk kd F := hT
  obtain ⟨⟨k0, f0, f1, f2, f3, f4, f5, f6, f7, f8, f9⟩, ⟨m1, m2, m3⟩, ⟨t1, t2, t3⟩, p1, p2, p3, p4, p5⟩ := id hT
  have kF := p2.1
  have km : (kd 7).1 = 3 := by rw [m3.1]
  have main : ∀ r p (I1 : azI), r + p = 10 → (∀ b, ¬ scrB b → I1 b = I b) → cM I1 7 m → tryT (rsOf st.2.1) s m r p = tryT (rsOf st.2.1) s m 10 0 → R (d + 8) mX8_tryOne 2 [.ref 0, .int (nI s), .int (nI p)] [] ((n, z, kd), I1, J, F) Q := by
    intro r
    induction r with
    | zero =>
      intro p I1 hp hf hm1 e
      obtain rfl : p = 10 := by omega
      refine BX8_tryOne_2 hR ?_
      simp (disch := omega) only [nI_ad, nI_ml, nI_lti, nI_lei, nI_eqi, nI_nn, nI_0le, nI_eq0, nI_0lt, nI_le0, nI_clamp, nI_pd, nI_sb, zOf_some, zOp_some, zOp_none, kI_int, kL_long, kO_ref, kO_null, nlt_T, nlt_F, nle_T, nle_F, neq_F, vpT, azUp_at, if_true, if_false, true_and, and_true, true_implies, false_implies, implies_true, not_true_eq_false, not_false_eq_true, true_or, or_true, false_or, or_false, and_false, false_and, eq_self, n01_0, n01_1, nm1_0]
      exact h0 e.symm I1 hf hm1
    | succ r ih =>
      intro p I1 hrp hf hm1 e
      have hp : p < 10 := by omega
      have hC : cTn kd I1 F st := cTn.kp hC0 hS hf
      have kg := hC.2.1.1
      have hw := nBitW s hs p hp
      have et : tryT (rsOf st.2.1) s m (r + 1) p = if s.testBit p then (match pfire (rsOf st.2.1) p m with
        | some M => some M
        | none => tryT (rsOf st.2.1) s m r (p + 1)) else tryT (rsOf st.2.1) s m r (p + 1) := rfl
      rw [et] at e
      refine BX8_tryOne_2 hR ?_
      by_cases c : s.testBit p = true
      · rw [if_pos c] at e
        have hw' := eq_true (hw.mpr c)
        rcases hC.2.1.cases hp with ⟨e1, e2⟩ | ⟨t, cs, r', e1, e2, e3, e4, e5, e6, e7⟩
        · have ep : pfire (rsOf st.2.1) p m = none := by unfold pfire rsOf; rw [e1]; rfl
          rw [ep] at e
          simp (disch := omega) only [nI_ad, nI_ml, nI_lti, nI_lei, nI_eqi, nI_nn, nI_0le, nI_eq0, nI_0lt, nI_le0, nI_clamp, nI_pd, nI_sb, zOf_some, zOp_some, zOp_none, kI_int, kL_long, kO_ref, kO_null, nlt_T, nlt_F, nle_T, nle_F, neq_F, vpT, azUp_at, if_true, if_false, true_and, and_true, true_implies, false_implies, implies_true, not_true_eq_false, not_false_eq_true, true_or, or_true, false_or, or_false, and_false, false_and, eq_self, n01_0, n01_1, nm1_0, hw', k0, f6, f3, kg, e2, f2, f1, kF]
          refine S_goesNull hR ?_
          simp (disch := omega) only [nI_ad, nI_ml, nI_lti, nI_lei, nI_eqi, nI_nn, nI_0le, nI_eq0, nI_0lt, nI_le0, nI_clamp, nI_pd, nI_sb, zOf_some, zOp_some, zOp_none, kI_int, kL_long, kO_ref, kO_null, nlt_T, nlt_F, nle_T, nle_F, neq_F, vpT, azUp_at, if_true, if_false, true_and, and_true, true_implies, false_implies, implies_true, not_true_eq_false, not_false_eq_true, true_or, or_true, false_or, or_false, and_false, false_and, eq_self, n01_0, n01_1, nm1_0]
          exact ih (p + 1) I1 (by omega) hf hm1 e
        · have ep : pfire (rsOf st.2.1) p m = fire cs m := by unfold pfire; rw [e2]
          rw [ep] at e
          simp (disch := omega) only [nI_ad, nI_ml, nI_lti, nI_lei, nI_eqi, nI_nn, nI_0le, nI_eq0, nI_0lt, nI_le0, nI_clamp, nI_pd, nI_sb, zOf_some, zOp_some, zOp_none, kI_int, kL_long, kO_ref, kO_null, nlt_T, nlt_F, nle_T, nle_F, neq_F, vpT, azUp_at, if_true, if_false, true_and, and_true, true_implies, false_implies, implies_true, not_true_eq_false, not_false_eq_true, true_or, or_true, false_or, or_false, and_false, false_and, eq_self, n01_0, n01_1, nm1_0, hw', k0, f6, f3, kg, e3, f2, f1, kF]
          refine S_goes hR p2 e5 m3 m2 (by omega) (by omega) (by omega) (by omega) (by omega) hm1 hv e6 e7 fun I2 g1 g2 => ?_
          have hf2 : ∀ b, ¬ scrB b → I2 b = I b := fun b hb => by rw [scr_of g1 b hb, hf b hb]
          cases ef : fire cs m with
          | none =>
            rw [ef] at e
            rw [Option.isSome_none, if_neg (by decide)]
            simp (disch := omega) only [nI_ad, nI_ml, nI_lti, nI_lei, nI_eqi, nI_nn, nI_0le, nI_eq0, nI_0lt, nI_le0, nI_clamp, nI_pd, nI_sb, zOf_some, zOp_some, zOp_none, kI_int, kL_long, kO_ref, kO_null, nlt_T, nlt_F, nle_T, nle_F, neq_F, vpT, azUp_at, if_true, if_false, true_and, and_true, true_implies, false_implies, implies_true, not_true_eq_false, not_false_eq_true, true_or, or_true, false_or, or_false, and_false, false_and, eq_self, n01_0, n01_1, nm1_0]
            exact ih (p + 1) I2 (by omega) hf2 (hm1.keep (g1 8 (by omega) (by omega) (by omega) (by omega) (by omega)) (g1 9 (by omega) (by omega) (by omega) (by omega) (by omega))) e
          | some M =>
            rw [ef] at e
            rw [Option.isSome_some, if_pos rfl]
            simp (disch := omega) only [nI_ad, nI_ml, nI_lti, nI_lei, nI_eqi, nI_nn, nI_0le, nI_eq0, nI_0lt, nI_le0, nI_clamp, nI_pd, nI_sb, zOf_some, zOp_some, zOp_none, kI_int, kL_long, kO_ref, kO_null, nlt_T, nlt_F, nle_T, nle_F, neq_F, vpT, azUp_at, if_true, if_false, true_and, and_true, true_implies, false_implies, implies_true, not_true_eq_false, not_false_eq_true, true_or, or_true, false_or, or_false, and_false, false_and, eq_self, n01_0, n01_1, nm1_0, k0, f2, f1, km]
            refine S_copy hR m3 m2 (by omega) (g2 M ef) (fire_ok e7 hv ef) fun I3 q1 q2 => ⟨rfl, ?_⟩
            refine h1 M e.symm I3 (fun b hb => ?_) q1
            have hb' : ¬ ((4 ≤ b ∧ b ≤ 9) ∨ (24 ≤ b ∧ b ≤ 29) ∨ (212 ≤ b ∧ b ≤ 214) ∨ (219 ≤ b ∧ b ≤ 222)) := hb
            rw [q2 b (by omega) (by omega), hf2 b hb]
      · rw [if_neg c] at e
        have hw' := eq_false fun hh => c (hw.mp hh)
        simp (disch := omega) only [nI_ad, nI_ml, nI_lti, nI_lei, nI_eqi, nI_nn, nI_0le, nI_eq0, nI_0lt, nI_le0, nI_clamp, nI_pd, nI_sb, zOf_some, zOp_some, zOp_none, kI_int, kL_long, kO_ref, kO_null, nlt_T, nlt_F, nle_T, nle_F, neq_F, vpT, azUp_at, if_true, if_false, true_and, and_true, true_implies, false_implies, implies_true, not_true_eq_false, not_false_eq_true, true_or, or_true, false_or, or_false, and_false, false_and, eq_self, n01_0, n01_1, nm1_0, hw']
        exact ih (p + 1) I1 (by omega) hf hm1 e
  exact BX8_tryOne_0 hR (main 10 0 I rfl (fun _ _ => rfl) hm rfl)
theorem S_tryOut (hR : azClosed R) (hW : CW ((n, z, kd), I, J, F) st) {s k : Nat} (hs : s < 1024) (hk : k ≤ 200) (h : ∀ I', (∀ b, ¬ scrB b → I' b = I b) → cM I' 7 (rpt (rsOf st.2.1) s k st.1).2 → Q (some (.int (nI (rpt (rsOf st.2.1) s k st.1).1))) ((n, z, kd), I', J, F)) : R (d + 9) mX8_tryOut 0 [.ref 0, .int (nI s), .int (nI k), .retAddr 0, .retAddr 0] [] ((n, z, kd), I, J, F) Q := by
  obtain ⟨hT, hC0, hX, hn, hS⟩ := id hW
  have hT : TnOk kd F := hT
  have hC0 : cTn kd I F st := hC0
  obtain ⟨⟨k0, f0, f1, f2, f3, f4, f5, f6, f7, f8, f9⟩, ⟨m1, m2, m3⟩, ⟨t1, t2, t3⟩, p1, p2, p3, p4, p5⟩ := id hT
  have km : (kd 7).1 = 3 := by rw [m3.1]
  have main : ∀ r c (I1 : azI) (m : Mk), r + c = k → (∀ b, ¬ scrB b → I1 b = I b) → cM I1 7 m → mOK m → (rpt (rsOf st.2.1) s k st.1) = (c + (rpt (rsOf st.2.1) s r m).1, (rpt (rsOf st.2.1) s r m).2) → R (d + 9) mX8_tryOut 16 [.ref 0, .int (nI s), .int (nI k), .int (nI c), .int (nI c)] [] ((n, z, kd), I1, J, F) Q := by
    intro r
    induction r with
    | zero =>
      intro c I1 m hc hf hm hv e
      have h := h I1 hf
      rw [e] at h
      refine BX8_tryOut_16 hR ?_
      simp (disch := omega) only [nI_ad, nI_ml, nI_lti, nI_lei, nI_eqi, nI_nn, nI_0le, nI_eq0, nI_0lt, nI_le0, nI_clamp, nI_pd, nI_sb, zOf_some, zOp_some, zOp_none, kI_int, kL_long, kO_ref, kO_null, nlt_T, nlt_F, nle_T, nle_F, neq_F, vpT, azUp_at, if_true, if_false, true_and, and_true, true_implies, false_implies, implies_true, not_true_eq_false, not_false_eq_true, true_or, or_true, false_or, or_false, and_false, false_and, eq_self, n01_0, n01_1, nm1_0]
      exact h hm
    | succ r ih =>
      intro c I1 m hc hf hm hv e
      have er : rpt (rsOf st.2.1) s (r + 1) m = match tryT (rsOf st.2.1) s m 10 0 with
        | none => (0, m)
        | some M => ((rpt (rsOf st.2.1) s r M).1 + 1, (rpt (rsOf st.2.1) s r M).2) := rfl
      refine BX8_tryOut_16 hR ?_
      simp (disch := omega) only [nI_ad, nI_ml, nI_lti, nI_lei, nI_eqi, nI_nn, nI_0le, nI_eq0, nI_0lt, nI_le0, nI_clamp, nI_pd, nI_sb, zOf_some, zOp_some, zOp_none, kI_int, kL_long, kO_ref, kO_null, nlt_T, nlt_F, nle_T, nle_F, neq_F, vpT, azUp_at, if_true, if_false, true_and, and_true, true_implies, false_implies, implies_true, not_true_eq_false, not_false_eq_true, true_or, or_true, false_or, or_false, and_false, false_and, eq_self, n01_0, n01_1, nm1_0, k0]
      refine S_tryOne hR (hW.scr hf (J' := J) fun _ _ => rfl).1 hm hv hs (fun e0 I2 g1 g2 => ?_) (fun M e0 I2 g1 g2 => ?_)
      · rw [er, e0] at e
        have h := h I2 fun b hb => by rw [g1 b hb, hf b hb]
        rw [e] at h
        simp (disch := omega) only [nI_ad, nI_ml, nI_lti, nI_lei, nI_eqi, nI_nn, nI_0le, nI_eq0, nI_0lt, nI_le0, nI_clamp, nI_pd, nI_sb, zOf_some, zOp_some, zOp_none, kI_int, kL_long, kO_ref, kO_null, nlt_T, nlt_F, nle_T, nle_F, neq_F, vpT, azUp_at, if_true, if_false, true_and, and_true, true_implies, false_implies, implies_true, not_true_eq_false, not_false_eq_true, true_or, or_true, false_or, or_false, and_false, false_and, eq_self, n01_0, n01_1, nm1_0]
        exact h g2
      · rw [er, e0] at e
        simp (disch := omega) only [nI_ad, nI_ml, nI_lti, nI_lei, nI_eqi, nI_nn, nI_0le, nI_eq0, nI_0lt, nI_le0, nI_clamp, nI_pd, nI_sb, zOf_some, zOp_some, zOp_none, kI_int, kL_long, kO_ref, kO_null, nlt_T, nlt_F, nle_T, nle_F, neq_F, vpT, azUp_at, if_true, if_false, true_and, and_true, true_implies, false_implies, implies_true, not_true_eq_false, not_false_eq_true, true_or, or_true, false_or, or_false, and_false, false_and, eq_self, n01_0, n01_1, nm1_0]
        refine ih (c + 1) I2 M (by omega) (fun b hb => by rw [g1 b hb, hf b hb]) g2 (tryT_ok hS.all hv _ _ e0) ?_
        rw [e]
        simp only [Nat.add_assoc, Nat.add_comm 1]
  refine BX8_tryOut_0 hR ?_
  simp (disch := omega) only [nI_ad, nI_ml, nI_lti, nI_lei, nI_eqi, nI_nn, nI_0le, nI_eq0, nI_0lt, nI_le0, nI_clamp, nI_pd, nI_sb, zOf_some, zOp_some, zOp_none, kI_int, kL_long, kO_ref, kO_null, nlt_T, nlt_F, nle_T, nle_F, neq_F, vpT, azUp_at, if_true, if_false, true_and, and_true, true_implies, false_implies, implies_true, not_true_eq_false, not_false_eq_true, true_or, or_true, false_or, or_false, and_false, false_and, eq_self, n01_0, n01_1, nm1_0, k0, f2, f0, km]
  refine S_copy hR m3 m1 (by omega) hC0.1 hS.1 fun I1 q1 q2 => ⟨rfl, ?_⟩
  refine main k 0 I1 st.1 rfl (fun b hb => ?_) q1 hS.1 (by rw [Nat.zero_add])
  have hb' : ¬ ((4 ≤ b ∧ b ≤ 9) ∨ (24 ≤ b ∧ b ≤ 29) ∨ (212 ≤ b ∧ b ≤ 214) ∨ (219 ≤ b ∧ b ≤ 222)) := hb
  exact q2 b (by omega) (by omega)
theorem S_tnAgain (hR : azClosed R) (hW : CW σ st) {x y : Int32} (h : ∀ σ', CW σ' st → clF σ σ' → Q (some (.int (aAgain st x y))) σ') : R (d + 10) mX8_again 0 [.ref 0, .int x, .int y] [] σ Q := by
  obtain ⟨⟨n, z, kd⟩, I, J, F⟩ := σ
  have k0 : (kd 0).1 = 8 := hW.1.1.1
  have hh := h _ hW (clF_I (fun _ _ => rfl) fun _ _ => rfl)
  refine BX8_again_0 hR (S_isSet hR ?_)
  unfold isP
  unfold aAgain at h hh
  rcases ix_cases x (n := 1024) (by decide) with ⟨e, c⟩ | ⟨s, hs, rfl, e⟩
  · rw [e] at hh ⊢
    simp (disch := omega) only [nI_ad, nI_ml, nI_lti, nI_lei, nI_eqi, nI_nn, nI_0le, nI_eq0, nI_0lt, nI_le0, nI_clamp, nI_pd, nI_sb, zOf_some, zOp_some, zOp_none, kI_int, kL_long, kO_ref, kO_null, nlt_T, nlt_F, nle_T, nle_F, neq_F, vpT, azUp_at, if_true, if_false, true_and, and_true, true_implies, false_implies, implies_true, not_true_eq_false, not_false_eq_true, true_or, or_true, false_or, or_false, and_false, false_and, eq_self, n01_0, n01_1, nm1_0]
    exact hh
  rw [e] at h hh ⊢
  dsimp only at h hh
  simp (disch := omega) only [nI_ad, nI_ml, nI_lti, nI_lei, nI_eqi, nI_nn, nI_0le, nI_eq0, nI_0lt, nI_le0, nI_clamp, nI_pd, nI_sb, zOf_some, zOp_some, zOp_none, kI_int, kL_long, kO_ref, kO_null, nlt_T, nlt_F, nle_T, nle_F, neq_F, vpT, azUp_at, if_true, if_false, true_and, and_true, true_implies, false_implies, implies_true, not_true_eq_false, not_false_eq_true, true_or, or_true, false_or, or_false, and_false, false_and, eq_self, n01_0, n01_1, nm1_0]
  refine S_isTimes hR ?_
  unfold isJ
  rcases jx_cases y (K := 200) (by decide) (by decide) with ⟨e, c⟩ | ⟨k, hk0, hk, rfl, e⟩
  · rw [e] at hh ⊢
    simp (disch := omega) only [nI_ad, nI_ml, nI_lti, nI_lei, nI_eqi, nI_nn, nI_0le, nI_eq0, nI_0lt, nI_le0, nI_clamp, nI_pd, nI_sb, zOf_some, zOp_some, zOp_none, kI_int, kL_long, kO_ref, kO_null, nlt_T, nlt_F, nle_T, nle_F, neq_F, vpT, azUp_at, if_true, if_false, true_and, and_true, true_implies, false_implies, implies_true, not_true_eq_false, not_false_eq_true, true_or, or_true, false_or, or_false, and_false, false_and, eq_self, n01_0, n01_1, nm1_0]
    exact hh
  rw [e] at h hh ⊢
  dsimp only at h hh
  simp (disch := omega) only [nI_ad, nI_ml, nI_lti, nI_lei, nI_eqi, nI_nn, nI_0le, nI_eq0, nI_0lt, nI_le0, nI_clamp, nI_pd, nI_sb, zOf_some, zOp_some, zOp_none, kI_int, kL_long, kO_ref, kO_null, nlt_T, nlt_F, nle_T, nle_F, neq_F, vpT, azUp_at, if_true, if_false, true_and, and_true, true_implies, false_implies, implies_true, not_true_eq_false, not_false_eq_true, true_or, or_true, false_or, or_false, and_false, false_and, eq_self, n01_0, n01_1, nm1_0, k0]
  refine S_tryOut hR hW hs hk fun I' g1 g2 => ?_
  obtain ⟨w1, w2⟩ := hW.scr g1 (J' := J) fun _ _ => rfl
  simp (disch := omega) only [nI_ad, nI_ml, nI_lti, nI_lei, nI_eqi, nI_nn, nI_0le, nI_eq0, nI_0lt, nI_le0, nI_clamp, nI_pd, nI_sb, zOf_some, zOp_some, zOp_none, kI_int, kL_long, kO_ref, kO_null, nlt_T, nlt_F, nle_T, nle_F, neq_F, vpT, azUp_at, if_true, if_false, true_and, and_true, true_implies, false_implies, implies_true, not_true_eq_false, not_false_eq_true, true_or, or_true, false_or, or_false, and_false, false_and, eq_self, n01_0, n01_1, nm1_0]
  exact h _ w1 w2
theorem S_tnLast (hR : azClosed R) (hW : CW σ st) {x y z : Int32} (h : ∀ σ', CW σ' st → clF σ σ' → Q (some (.int (aLast st x y z))) σ') : R (d + 10) mX8_last 0 [.ref 0, .int x, .int y, .int z, .retAddr 0] [] σ Q := by
  obtain ⟨⟨n, z', kd⟩, I, J, F⟩ := σ
  have k0 : (kd 0).1 = 8 := hW.1.1.1
  have f2 : F 0 2 = some 7 := hW.1.1.2.2.2.1
  have m3 : MkOk kd F 7 := hW.1.2.1.2.2
  have km : (kd 7).1 = 3 := by rw [m3.1]
  have hS : stOK st := hW.2.2.2.2
  have hh := h _ hW (clF_I (fun _ _ => rfl) fun _ _ => rfl)
  refine BX8_last_0 hR (S_isSet hR ?_)
  unfold isP
  unfold aLast at h hh
  rcases ix_cases x (n := 1024) (by decide) with ⟨e, c⟩ | ⟨s, hs, rfl, e⟩
  · rw [e] at hh ⊢
    simp (disch := omega) only [nI_ad, nI_ml, nI_lti, nI_lei, nI_eqi, nI_nn, nI_0le, nI_eq0, nI_0lt, nI_le0, nI_clamp, nI_pd, nI_sb, zOf_some, zOp_some, zOp_none, kI_int, kL_long, kO_ref, kO_null, nlt_T, nlt_F, nle_T, nle_F, neq_F, vpT, azUp_at, if_true, if_false, true_and, and_true, true_implies, false_implies, implies_true, not_true_eq_false, not_false_eq_true, true_or, or_true, false_or, or_false, and_false, false_and, eq_self, n01_0, n01_1, nm1_0]
    exact hh
  rw [e] at h hh ⊢
  dsimp only at h hh
  simp (disch := omega) only [nI_ad, nI_ml, nI_lti, nI_lei, nI_eqi, nI_nn, nI_0le, nI_eq0, nI_0lt, nI_le0, nI_clamp, nI_pd, nI_sb, zOf_some, zOp_some, zOp_none, kI_int, kL_long, kO_ref, kO_null, nlt_T, nlt_F, nle_T, nle_F, neq_F, vpT, azUp_at, if_true, if_false, true_and, and_true, true_implies, false_implies, implies_true, not_true_eq_false, not_false_eq_true, true_or, or_true, false_or, or_false, and_false, false_and, eq_self, n01_0, n01_1, nm1_0]
  refine S_isTimes hR ?_
  unfold isJ
  rcases jx_cases y (K := 200) (by decide) (by decide) with ⟨e, c⟩ | ⟨k, hk0, hk, rfl, e⟩
  · rw [e] at hh ⊢
    simp (disch := omega) only [nI_ad, nI_ml, nI_lti, nI_lei, nI_eqi, nI_nn, nI_0le, nI_eq0, nI_0lt, nI_le0, nI_clamp, nI_pd, nI_sb, zOf_some, zOp_some, zOp_none, kI_int, kL_long, kO_ref, kO_null, nlt_T, nlt_F, nle_T, nle_F, neq_F, vpT, azUp_at, if_true, if_false, true_and, and_true, true_implies, false_implies, implies_true, not_true_eq_false, not_false_eq_true, true_or, or_true, false_or, or_false, and_false, false_and, eq_self, n01_0, n01_1, nm1_0]
    exact hh
  rw [e] at h hh ⊢
  dsimp only at h hh
  simp (disch := omega) only [nI_ad, nI_ml, nI_lti, nI_lei, nI_eqi, nI_nn, nI_0le, nI_eq0, nI_0lt, nI_le0, nI_clamp, nI_pd, nI_sb, zOf_some, zOp_some, zOp_none, kI_int, kL_long, kO_ref, kO_null, nlt_T, nlt_F, nle_T, nle_F, neq_F, vpT, azUp_at, if_true, if_false, true_and, and_true, true_implies, false_implies, implies_true, not_true_eq_false, not_false_eq_true, true_or, or_true, false_or, or_false, and_false, false_and, eq_self, n01_0, n01_1, nm1_0]
  refine S_isPlace hR ?_
  unfold isP
  rcases ix_cases z (n := 10) (by decide) with ⟨e, c⟩ | ⟨p, hp, rfl, e⟩
  · rw [e] at hh ⊢
    simp (disch := omega) only [nI_ad, nI_ml, nI_lti, nI_lei, nI_eqi, nI_nn, nI_0le, nI_eq0, nI_0lt, nI_le0, nI_clamp, nI_pd, nI_sb, zOf_some, zOp_some, zOp_none, kI_int, kL_long, kO_ref, kO_null, nlt_T, nlt_F, nle_T, nle_F, neq_F, vpT, azUp_at, if_true, if_false, true_and, and_true, true_implies, false_implies, implies_true, not_true_eq_false, not_false_eq_true, true_or, or_true, false_or, or_false, and_false, false_and, eq_self, n01_0, n01_1, nm1_0]
    exact hh
  rw [e] at h hh ⊢
  dsimp only at h hh
  simp (disch := omega) only [nI_ad, nI_ml, nI_lti, nI_lei, nI_eqi, nI_nn, nI_0le, nI_eq0, nI_0lt, nI_le0, nI_clamp, nI_pd, nI_sb, zOf_some, zOp_some, zOp_none, kI_int, kL_long, kO_ref, kO_null, nlt_T, nlt_F, nle_T, nle_F, neq_F, vpT, azUp_at, if_true, if_false, true_and, and_true, true_implies, false_implies, implies_true, not_true_eq_false, not_false_eq_true, true_or, or_true, false_or, or_false, and_false, false_and, eq_self, n01_0, n01_1, nm1_0, k0]
  refine S_tryOut hR hW hs hk fun I' g1 g2 => ?_
  obtain ⟨w1, w2⟩ := hW.scr g1 (J' := J) fun _ _ => rfl
  have h := h _ w1 w2
  have hv := rpt_ok (s := s) hS.all k st.1 hS.1
  have hl := (hv.1 p).1
  simp (disch := omega) only [nI_ad, nI_ml, nI_lti, nI_lei, nI_eqi, nI_nn, nI_0le, nI_eq0, nI_0lt, nI_le0, nI_clamp, nI_pd, nI_sb, zOf_some, zOp_some, zOp_none, kI_int, kL_long, kO_ref, kO_null, nlt_T, nlt_F, nle_T, nle_F, neq_F, vpT, azUp_at, if_true, if_false, true_and, and_true, true_implies, false_implies, implies_true, not_true_eq_false, not_false_eq_true, true_or, or_true, false_or, or_false, and_false, false_and, eq_self, n01_0, n01_1, nm1_0, k0, f2, km]
  refine S_count hR m3 g2 hp ?_
  by_cases c : (rpt (rsOf st.2.1) s k st.1).2 p = []
  · rw [if_pos c] at h
    rw [c]
    simp (disch := omega) only [nI_ad, nI_ml, nI_lti, nI_lei, nI_eqi, nI_nn, nI_0le, nI_eq0, nI_0lt, nI_le0, nI_clamp, nI_pd, nI_sb, zOf_some, zOp_some, zOp_none, kI_int, kL_long, kO_ref, kO_null, nlt_T, nlt_F, nle_T, nle_F, neq_F, vpT, azUp_at, if_true, if_false, true_and, and_true, true_implies, false_implies, implies_true, not_true_eq_false, not_false_eq_true, true_or, or_true, false_or, or_false, and_false, false_and, eq_self, n01_0, n01_1, nm1_0, List.length_nil]
    exact h
  · rw [if_neg c] at h
    have hpos := List.length_pos_iff.mpr c
    have hx : ¬ (((rpt (rsOf st.2.1) s k st.1).2 p).length = 0) := by omega
    simp (disch := omega) only [nI_ad, nI_ml, nI_lti, nI_lei, nI_eqi, nI_nn, nI_0le, nI_eq0, nI_0lt, nI_le0, nI_clamp, nI_pd, nI_sb, zOf_some, zOp_some, zOp_none, kI_int, kL_long, kO_ref, kO_null, nlt_T, nlt_F, nle_T, nle_F, neq_F, vpT, azUp_at, if_true, if_false, true_and, and_true, true_implies, false_implies, implies_true, not_true_eq_false, not_false_eq_true, true_or, or_true, false_or, or_false, and_false, false_and, eq_self, n01_0, n01_1, nm1_0, hx, k0, f2, km]
    refine S_at hR m3 g2 hv ?_
    rw [atS_nI hv hp (by omega)]
    simp (disch := omega) only [nI_ad, nI_ml, nI_lti, nI_lei, nI_eqi, nI_nn, nI_0le, nI_eq0, nI_0lt, nI_le0, nI_clamp, nI_pd, nI_sb, zOf_some, zOp_some, zOp_none, kI_int, kL_long, kO_ref, kO_null, nlt_T, nlt_F, nle_T, nle_F, neq_F, vpT, azUp_at, if_true, if_false, true_and, and_true, true_implies, false_implies, implies_true, not_true_eq_false, not_false_eq_true, true_or, or_true, false_or, or_false, and_false, false_and, eq_self, n01_0, n01_1, nm1_0]
    exact h
end S8
