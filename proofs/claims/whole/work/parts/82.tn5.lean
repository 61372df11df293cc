/-! THE CLASS: has, spell, line, paper, can, bound, bindings, go, all. -/
def aHas (st : St) (x y : Int32) : Int32 := match ix x 10 with
  | none => -(nI 1)
  | some p => match ix y 4 with
    | none => -(nI 1)
    | some w => match st.2.1 p with
      | none => -(nI 3)
      | some c => if w = 0 then nI (nTk c.2) else if w = 1 then nI (rMany c.2) else if w = 2 then nI (nGv c.2) else nI (pcT (rBits c.2) 10)
def aSpell (st : St) (x : Int32) : Int32 × St := match ix x 10 with
  | none => (-(nI 1), st)
  | some p => match st.2.1 p with
    | none => (-(nI 3), st)
    | some c => (nI (rShow c.2).length, (st.1, st.2.1, st.2.2.1, rShow c.2, st.2.2.2.2))
def aLine (st : St) : Int32 × St := (nI (lnT st.1 10).length, (st.1, st.2.1, st.2.2.1, lnT st.1 10, st.2.2.2.2))
def aPaper (st : St) (x : Int32) : Int32 := match ix x st.2.2.2.1.length with
  | none => -(nI 1)
  | some k => nI (st.2.2.2.1.getD k 0)
def aCan (st : St) (x : Int32) : Int32 := match ix x 10 with
  | none => -(nI 1)
  | some p => match st.2.1 p with
    | none => -(nI 3)
    | some c => nI (if (fire c.2 st.1).isSome then 1 else 0)
def aBound (st : St) (x y : Int32) : Int32 := match ix x 10 with
  | none => -(nI 1)
  | some p => match st.2.1 p with
    | none => -(nI 3)
    | some c => match ix y (nTk c.2) with
      | none => -(nI 1)
      | some i => match bnds c.2 st.1 with
        | [] => -(nI 5)
        | ch :: _ => nI (lF ch i)
def aBindings (st : St) (x : Int32) : Int32 := match ix x 10 with
  | none => -(nI 1)
  | some p => match st.2.1 p with
    | none => -(nI 3)
    | some c => nI (bnds c.2 st.1).length
def aGo (st : St) (x : Int32) : Int32 × St := match ix x 10 with
  | none => (-(nI 1), st)
  | some p => match pfire (rsOf st.2.1) p st.1 with
    | none => (-(nI 3), st)
    | some M => (nI (st.2.2.2.2.1 + 1), (M, st.2.1, st.2.2.1, st.2.2.2.1, st.2.2.2.2.1 + 1, st.2.2.2.2.2))
def allT (rs : Nat → Option (List Cls)) (m : Mk) : Nat → Nat
  | 0 => 0
  | p + 1 => if (pfire rs p m).isSome then allT rs m p ||| 2 ^ p else allT rs m p
def aAll (st : St) : Int32 := nI (allT (rsOf st.2.1) st.1 10)
section S8
variable {R : azP} {d : Nat} {σ : azS} {Q : azQ} {st : St}
/-- a part's rule, if any, lies where the row says -/
theorem RsOk.cases {kd : azK} {I : azI} {F : azR} {lo g : Nat} {ru : Ru} (h : RsOk kd I F lo g (rsOf ru)) {p : Nat} (hp : p < 10) : (ru p = none ∧ F g p = none) ∨ ∃ t cs r, ru p = some (t, cs) ∧ rsOf ru p = some cs ∧ F g p = some r ∧ lo < r ∧ RuOk kd F r ∧ cR I r cs [] ∧ rlOK cs := by
  cases e : ru p with
  | none => exact Or.inl ⟨rfl, (h.2 p hp).1 (by unfold rsOf; rw [e]; rfl)⟩
  | some y =>
    obtain ⟨t, cs⟩ := y
    have e2 : rsOf ru p = some cs := by unfold rsOf; rw [e]; rfl
    obtain ⟨r, w⟩ := (h.2 p hp).2 cs e2
    exact Or.inr ⟨t, cs, r, rfl, e2, w⟩
/-- the paper is another -/
theorem cTn.page {kd : azK} {I I' : azI} {F : azR} (h : cTn kd I F st) (hS : stOK st) (hf : ∀ b, ¬ scrB b → b ≠ 22 → b ≠ 23 → I' b = I b) {g : List Nat} (hg : cP I' 22 g) : cTn kd I' F (st.1, st.2.1, st.2.2.1, g, st.2.2.2.2) := by
  obtain ⟨a1, a2, a3, a4, a5, a6, a7⟩ := h
  have e : ∀ b, ¬ ((4 ≤ b ∧ b ≤ 9) ∨ (24 ≤ b ∧ b ≤ 29) ∨ (212 ≤ b ∧ b ≤ 214) ∨ (219 ≤ b ∧ b ≤ 222)) → b ≠ 22 → b ≠ 23 → I' b = I b := hf
  refine ⟨a1.keep (e 2 (by omega) (by omega) (by omega)) (e 3 (by omega) (by omega) (by omega)), a2.keep fun b hb => e b (by omega) (by omega) (by omega), ?_, hg, by rw [e 0 (by omega) (by omega) (by omega)]; exact a5, ?_, a7.keep fun b hb => e b (by omega) (by omega) (by omega)⟩
  · rw [e 11 (by omega) (by omega) (by omega), e 12 (by omega) (by omega) (by omega)]; exact a3
  · rw [e 0 (by omega) (by omega) (by omega)]
    rcases a6 with a6 | a6
    · exact Or.inl a6
    · have := wk60_le hS.rl hS.1
      exact Or.inr ⟨a6.1, a6.2.keep this.2.1 fun b b1 b2 => e b (by omega) (by omega) (by omega)⟩
theorem S_tnHas (hR : azClosed R) (hW : CW σ st) {x y : Int32} (h : Q (some (.int (aHas st x y))) σ) : R (d + 2) mX8_has 0 [.ref 0, .int x, .int y, .retAddr 0] [] σ Q := by
  obtain ⟨⟨n, z, kd⟩, I, J, F⟩ := σ
  obtain ⟨hT, hC, hX, hn, hS⟩ := hW
  have hT : TnOk kd F := hT
  have hC : cTn kd I F st := hC
  obtain ⟨⟨k0, f0, f1, f2, f3, f4, f5, f6, f7, f8, f9⟩, ⟨m1, m2, m3⟩, ⟨t1, t2, t3⟩, p1, p2, p3, p4, p5⟩ := id hT
  have kg := hC.2.1.1
  refine BX8_has_0 hR (S_isPart hR ?_)
  unfold isP
  unfold aHas at h
  rcases ix_cases x (n := 10) (by decide) with ⟨e, c⟩ | ⟨p, hp, rfl, e⟩
  · rw [e] at h ⊢
    simp (disch := omega) only [nI_ad, nI_ml, nI_lti, nI_lei, nI_eqi, nI_nn, nI_0le, nI_eq0, nI_0lt, nI_le0, nI_clamp, nI_pd, nI_sb, zOf_some, zOp_some, zOp_none, kI_int, kL_long, kO_ref, kO_null, nlt_T, nlt_F, nle_T, nle_F, neq_F, vpT, azUp_at, if_true, if_false, true_and, and_true, true_implies, false_implies, implies_true, not_true_eq_false, not_false_eq_true, true_or, or_true, false_or, or_false, and_false, false_and, eq_self, n01_0, n01_1, nm1_0]
    exact h
  rw [e] at h ⊢
  dsimp only at h
  rcases ix_cases y (n := 4) (by decide) with ⟨e, c | ⟨c0, c⟩⟩ | ⟨w, hw, rfl, e⟩
  · rw [e] at h; simp (disch := omega) only [nI_ad, nI_ml, nI_lti, nI_lei, nI_eqi, nI_nn, nI_0le, nI_eq0, nI_0lt, nI_le0, nI_clamp, nI_pd, nI_sb, zOf_some, zOp_some, zOp_none, kI_int, kL_long, kO_ref, kO_null, nlt_T, nlt_F, nle_T, nle_F, neq_F, vpT, azUp_at, if_true, if_false, true_and, and_true, true_implies, false_implies, implies_true, not_true_eq_false, not_false_eq_true, true_or, or_true, false_or, or_false, and_false, false_and, eq_self, n01_0, n01_1, nm1_0, c]; exact h
  · rw [e] at h
    have c3 := big_le (k := 3) c (by decide) (by decide)
    simp (disch := omega) only [nI_ad, nI_ml, nI_lti, nI_lei, nI_eqi, nI_nn, nI_0le, nI_eq0, nI_0lt, nI_le0, nI_clamp, nI_pd, nI_sb, zOf_some, zOp_some, zOp_none, kI_int, kL_long, kO_ref, kO_null, nlt_T, nlt_F, nle_T, nle_F, neq_F, vpT, azUp_at, if_true, if_false, true_and, and_true, true_implies, false_implies, implies_true, not_true_eq_false, not_false_eq_true, true_or, or_true, false_or, or_false, and_false, false_and, eq_self, n01_0, n01_1, nm1_0, c0, c3]; exact h
  rw [e] at h
  dsimp only at h
  rcases hC.2.1.cases hp with ⟨e1, e2⟩ | ⟨t, cs, r, e1, e2, e3, e4, e5, e6, e7⟩
  · rw [e1] at h
    simp (disch := omega) only [nI_ad, nI_ml, nI_lti, nI_lei, nI_eqi, nI_nn, nI_0le, nI_eq0, nI_0lt, nI_le0, nI_clamp, nI_pd, nI_sb, zOf_some, zOp_some, zOp_none, kI_int, kL_long, kO_ref, kO_null, nlt_T, nlt_F, nle_T, nle_F, neq_F, vpT, azUp_at, if_true, if_false, true_and, and_true, true_implies, false_implies, implies_true, not_true_eq_false, not_false_eq_true, true_or, or_true, false_or, or_false, and_false, false_and, eq_self, n01_0, n01_1, nm1_0, k0, f3, kg, e2]
    exact h
  · rw [e1] at h
    dsimp only at h
    have hb := rBits_lt cs fun c hc => (e7.2.2.2.2.2.2 c hc).2.1
    obtain ⟨cn, ct, cg, cc, ce, _⟩ := e6
    have k5 := e5.1
    have s0 : w < 4 := hw
    simp (disch := omega) only [nI_ad, nI_ml, nI_lti, nI_lei, nI_eqi, nI_nn, nI_0le, nI_eq0, nI_0lt, nI_le0, nI_clamp, nI_pd, nI_sb, zOf_some, zOp_some, zOp_none, kI_int, kL_long, kO_ref, kO_null, nlt_T, nlt_F, nle_T, nle_F, neq_F, vpT, azUp_at, if_true, if_false, true_and, and_true, true_implies, false_implies, implies_true, not_true_eq_false, not_false_eq_true, true_or, or_true, false_or, or_false, and_false, false_and, eq_self, n01_0, n01_1, nm1_0, k0, f3, kg, e3, nI_toInt]
    refine ⟨fun q => ⟨k5, ?_⟩, fun q => ⟨k5, ?_⟩, fun q => ⟨k5, ?_⟩, fun q => ⟨k5, ?_⟩⟩
    · have : w = 3 := by omega
      rw [this] at h
      rw [ce]
      refine S_bitCount hR hb ?_
      exact h
    · have : w = 0 := by omega
      rw [this] at h
      rw [ct]; exact h
    · have : w = 1 := by omega
      rw [this] at h
      rw [cc]; exact h
    · have : w = 2 := by omega
      rw [this] at h
      rw [cg]; exact h
theorem S_tnSpell (hR : azClosed R) (hW : CW σ st) {x : Int32} (h : ∀ σ', CW σ' (aSpell st x).2 → clF σ σ' → Q (some (.int (aSpell st x).1)) σ') : R (d + 7) mX8_spell 0 [.ref 0, .int x] [] σ Q := by
  obtain ⟨⟨n, z, kd⟩, I, J, F⟩ := σ
  have hW' := hW
  obtain ⟨hT, hC, hX, hn, hS⟩ := hW
  have hT : TnOk kd F := hT
  have hC : cTn kd I F st := hC
  have hX : TxOk kd I := hX
  have hn : CN n F := hn
  have aB : azB = 1000000 := rfl
  obtain ⟨⟨k0, f0, f1, f2, f3, f4, f5, f6, f7, f8, f9⟩, ⟨m1, m2, m3⟩, ⟨t1, t2, t3⟩, p1, p2, p3, p4, p5⟩ := id hT
  have kg := hC.2.1.1
  have k13 := p1.1
  refine BX8_spell_0 hR (S_isPart hR ?_)
  unfold isP
  unfold aSpell at h
  rcases ix_cases x (n := 10) (by decide) with ⟨e, c⟩ | ⟨p, hp, rfl, e⟩
  · rw [e] at h ⊢
    simp (disch := omega) only [nI_ad, nI_ml, nI_lti, nI_lei, nI_eqi, nI_nn, nI_0le, nI_eq0, nI_0lt, nI_le0, nI_clamp, nI_pd, nI_sb, zOf_some, zOp_some, zOp_none, kI_int, kL_long, kO_ref, kO_null, nlt_T, nlt_F, nle_T, nle_F, neq_F, vpT, azUp_at, if_true, if_false, true_and, and_true, true_implies, false_implies, implies_true, not_true_eq_false, not_false_eq_true, true_or, or_true, false_or, or_false, and_false, false_and, eq_self, n01_0, n01_1, nm1_0]
    exact h _ hW' (clF_I (fun _ _ => rfl) fun _ _ => rfl)
  rw [e] at h ⊢
  dsimp only at h
  rcases hC.2.1.cases hp with ⟨e1, e2⟩ | ⟨t, cs, r, e1, e2, e3, e4, e5, e6, e7⟩
  · rw [e1] at h
    simp (disch := omega) only [nI_ad, nI_ml, nI_lti, nI_lei, nI_eqi, nI_nn, nI_0le, nI_eq0, nI_0lt, nI_le0, nI_clamp, nI_pd, nI_sb, zOf_some, zOp_some, zOp_none, kI_int, kL_long, kO_ref, kO_null, nlt_T, nlt_F, nle_T, nle_F, neq_F, vpT, azUp_at, if_true, if_false, true_and, and_true, true_implies, false_implies, implies_true, not_true_eq_false, not_false_eq_true, true_or, or_true, false_or, or_false, and_false, false_and, eq_self, n01_0, n01_1, nm1_0, k0, f3, kg, e2]
    exact h _ hW' (clF_I (fun _ _ => rfl) fun _ _ => rfl)
  · rw [e1] at h
    dsimp only at h
    obtain ⟨u1, u2, u3⟩ := hS.2.1 p t cs e1
    have hl := rShow_le u3
    have hl2 := u1.1
    simp (disch := omega) only [nI_ad, nI_ml, nI_lti, nI_lei, nI_eqi, nI_nn, nI_0le, nI_eq0, nI_0lt, nI_le0, nI_clamp, nI_pd, nI_sb, zOf_some, zOp_some, zOp_none, kI_int, kL_long, kO_ref, kO_null, nlt_T, nlt_F, nle_T, nle_F, neq_F, vpT, azUp_at, if_true, if_false, true_and, and_true, true_implies, false_implies, implies_true, not_true_eq_false, not_false_eq_true, true_or, or_true, false_or, or_false, and_false, false_and, eq_self, n01_0, n01_1, nm1_0, k0, f3, kg, e3, f5, k13]
    refine S_writeRule hR p1 (by omega) hX e5 (by omega) e6 e7 (by omega) fun I' g1 g2 => ⟨rfl, ?_⟩
    simp (disch := omega) only [nI_ad, nI_ml, nI_lti, nI_lei, nI_eqi, nI_nn, nI_0le, nI_eq0, nI_0lt, nI_le0, nI_clamp, nI_pd, nI_sb, zOf_some, zOp_some, zOp_none, kI_int, kL_long, kO_ref, kO_null, nlt_T, nlt_F, nle_T, nle_F, neq_F, vpT, azUp_at, if_true, if_false, true_and, and_true, true_implies, false_implies, implies_true, not_true_eq_false, not_false_eq_true, true_or, or_true, false_or, or_false, and_false, false_and, eq_self, n01_0, n01_1, nm1_0, k0, f5, k13]
    rw [g1.1]
    refine h _ (CW.mk hT (hC.page hS (fun b hb h13 h14 => g2 b ?_) g1) (hX.keep fun b hb => g2 b (by omega)) hn ⟨hS.1, hS.2.1, hS.2.2.1, by show (rShow cs).length ≤ 256; omega, hS.2.2.2.2⟩) (clF_I (fun b hb => g2 b (by omega)) fun _ _ => rfl)
    have hb' : ¬ ((4 ≤ b ∧ b ≤ 9) ∨ (24 ≤ b ∧ b ≤ 29) ∨ (212 ≤ b ∧ b ≤ 214) ∨ (219 ≤ b ∧ b ≤ 222)) := hb
    omega
theorem S_tnLine (hR : azClosed R) (hW : CW σ st) (h : ∀ σ', CW σ' (aLine st).2 → clF σ σ' → Q (some (.int (aLine st).1)) σ') : R (d + 3) mX8_line 0 [.ref 0] [] σ Q := by
  obtain ⟨⟨n, z, kd⟩, I, J, F⟩ := σ
  obtain ⟨hT, hC, hX, hn, hS⟩ := hW
  have hT : TnOk kd F := hT
  have hC : cTn kd I F st := hC
  have hX : TxOk kd I := hX
  have hn : CN n F := hn
  obtain ⟨⟨k0, f0, f1, f2, f3, f4, f5, f6, f7, f8, f9⟩, ⟨m1, m2, m3⟩, ⟨t1, t2, t3⟩, p1, p2, p3, p4, p5⟩ := id hT
  have k13 := p1.1
  have hl := lnT_len hS.1 10
  refine BX8_line_0 hR ?_
  simp (disch := omega) only [nI_ad, nI_ml, nI_lti, nI_lei, nI_eqi, nI_nn, nI_0le, nI_eq0, nI_0lt, nI_le0, nI_clamp, nI_pd, nI_sb, zOf_some, zOp_some, zOp_none, kI_int, kL_long, kO_ref, kO_null, nlt_T, nlt_F, nle_T, nle_F, neq_F, vpT, azUp_at, if_true, if_false, true_and, and_true, true_implies, false_implies, implies_true, not_true_eq_false, not_false_eq_true, true_or, or_true, false_or, or_false, and_false, false_and, eq_self, n01_0, n01_1, nm1_0, k0, f5, f0, k13]
  refine S_writeMarking hR p1 m1 (by omega) hC.1 hS.1 fun I' g1 g2 => ⟨rfl, ?_⟩
  simp (disch := omega) only [nI_ad, nI_ml, nI_lti, nI_lei, nI_eqi, nI_nn, nI_0le, nI_eq0, nI_0lt, nI_le0, nI_clamp, nI_pd, nI_sb, zOf_some, zOp_some, zOp_none, kI_int, kL_long, kO_ref, kO_null, nlt_T, nlt_F, nle_T, nle_F, neq_F, vpT, azUp_at, if_true, if_false, true_and, and_true, true_implies, false_implies, implies_true, not_true_eq_false, not_false_eq_true, true_or, or_true, false_or, or_false, and_false, false_and, eq_self, n01_0, n01_1, nm1_0, k0, f5, k13]
  rw [g1.1]
  exact h _ (CW.mk hT (hC.page hS (fun b hb h13 h14 => g2 b h13 h14) g1) (hX.keep fun b hb => g2 b (by omega) (by omega)) hn ⟨hS.1, hS.2.1, hS.2.2.1, by show (lnT st.1 10).length ≤ 256; omega, hS.2.2.2.2⟩) (clF_I (fun b hb => g2 b (by omega) (by omega)) fun _ _ => rfl)
theorem S_tnPaper (hR : azClosed R) (hW : CW σ st) {x : Int32} (h : Q (some (.int (aPaper st x))) σ) : R (d + 1) mX8_paper 0 [.ref 0, .int x] [] σ Q := by
  obtain ⟨⟨n, z, kd⟩, I, J, F⟩ := σ
  obtain ⟨hT, hC, hX, hn, hS⟩ := hW
  have hT : TnOk kd F := hT
  have hC : cTn kd I F st := hC
  obtain ⟨⟨k0, f0, f1, f2, f3, f4, f5, f6, f7, f8, f9⟩, ⟨m1, m2, m3⟩, ⟨t1, t2, t3⟩, p1, p2, p3, p4, p5⟩ := id hT
  have k13 := p1.1
  refine BX8_paper_0 hR ?_
  simp (disch := omega) only [nI_ad, nI_ml, nI_lti, nI_lei, nI_eqi, nI_nn, nI_0le, nI_eq0, nI_0lt, nI_le0, nI_clamp, nI_pd, nI_sb, zOf_some, zOp_some, zOp_none, kI_int, kL_long, kO_ref, kO_null, nlt_T, nlt_F, nle_T, nle_F, neq_F, vpT, azUp_at, if_true, if_false, true_and, and_true, true_implies, false_implies, implies_true, not_true_eq_false, not_false_eq_true, true_or, or_true, false_or, or_false, and_false, false_and, eq_self, n01_0, n01_1, nm1_0, k0, f5, k13]
  refine S_paperAt hR p1 hC.2.2.2.1 hS.2.2.2.1 ?_
  exact h
end S8
