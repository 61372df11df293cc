/-! THE CLASS: change, told, image, undo. -/
def aChange (st : St) (x y : Int32) : Int32 := match ix x 10 with
  | none => -(nI 1)
  | some p => match ix y 10 with
    | none => -(nI 1)
    | some q => match st.2.1 p with
      | none => -(nI 3)
      | some c => Int32.ofInt (rChg c.2 q)
def aTold (st : St) (x : Int32) : Int32 := match ix x 5 with
  | none => -(nI 1)
  | some w => if w = 0 then nI (mTo st.1 10) else if w = 1 then nI (pcT (tldT st.2.1 10) 10) else if w = 2 then nI st.2.2.2.2.1 else if w = 3 then nI st.2.2.1.length else nI st.2.2.2.1.length
def aImage (st : St) : Int32 × St := (nI (mTo st.1 10), (st.1, st.2.1, st.2.2.1, st.2.2.2.1, st.2.2.2.2.1, some (st.1, st.2.1, st.2.2.2.2.1)))
def aUndo (st : St) : Int32 × St := match st.2.2.2.2.2 with
  | none => (-(nI 3), st)
  | some i => (nI (mTo i.1 10), (i.1, i.2.1, st.2.2.1, st.2.2.2.1, i.2.2, st.2.2.2.2.2))
section S8
variable {R : azP} {d : Nat} {σ : azS} {Q : azQ} {st : St} {n z : Nat} {kd : azK} {I : azI} {J : azJ} {F : azR}
theorem S_tnChange (hR : azClosed R) (hW : CW σ st) {x y : Int32} (h : Q (some (.int (aChange st x y))) σ) : R (d + 3) mX8_change 0 [.ref 0, .int x, .int y] [] σ Q := by
  obtain ⟨⟨n, z, kd⟩, I, J, F⟩ := σ
  have k0 : (kd 0).1 = 8 := hW.1.1.1
  have f3 : F 0 3 = some 10 := hW.1.1.2.2.2.2.1
  have hC : cTn kd I F st := hW.2.1
  have kg := hC.2.1.1
  refine BX8_change_0 hR (S_isPart hR ?_)
  unfold isP
  unfold aChange at h
  rcases ix_cases x (n := 10) (by decide) with ⟨e, c⟩ | ⟨p, hp, rfl, e⟩
  · rw [e] at h ⊢
    simp (disch := omega) only [nI_ad, nI_ml, nI_lti, nI_lei, nI_eqi, nI_nn, nI_0le, nI_eq0, nI_0lt, nI_le0, nI_clamp, nI_pd, nI_sb, zOf_some, zOp_some, zOp_none, kI_int, kL_long, kO_ref, kO_null, nlt_T, nlt_F, nle_T, nle_F, neq_F, vpT, azUp_at, if_true, if_false, true_and, and_true, true_implies, false_implies, implies_true, not_true_eq_false, not_false_eq_true, true_or, or_true, false_or, or_false, and_false, false_and, eq_self, n01_0, n01_1, nm1_0]
    exact h
  rw [e] at h ⊢
  dsimp only at h
  simp (disch := omega) only [nI_ad, nI_ml, nI_lti, nI_lei, nI_eqi, nI_nn, nI_0le, nI_eq0, nI_0lt, nI_le0, nI_clamp, nI_pd, nI_sb, zOf_some, zOp_some, zOp_none, kI_int, kL_long, kO_ref, kO_null, nlt_T, nlt_F, nle_T, nle_F, neq_F, vpT, azUp_at, if_true, if_false, true_and, and_true, true_implies, false_implies, implies_true, not_true_eq_false, not_false_eq_true, true_or, or_true, false_or, or_false, and_false, false_and, eq_self, n01_0, n01_1, nm1_0]
  refine S_isPlace hR ?_
  unfold isP
  rcases ix_cases y (n := 10) (by decide) with ⟨e, c⟩ | ⟨q, hq, rfl, e⟩
  · rw [e] at h ⊢
    simp (disch := omega) only [nI_ad, nI_ml, nI_lti, nI_lei, nI_eqi, nI_nn, nI_0le, nI_eq0, nI_0lt, nI_le0, nI_clamp, nI_pd, nI_sb, zOf_some, zOp_some, zOp_none, kI_int, kL_long, kO_ref, kO_null, nlt_T, nlt_F, nle_T, nle_F, neq_F, vpT, azUp_at, if_true, if_false, true_and, and_true, true_implies, false_implies, implies_true, not_true_eq_false, not_false_eq_true, true_or, or_true, false_or, or_false, and_false, false_and, eq_self, n01_0, n01_1, nm1_0]
    exact h
  rw [e] at h ⊢
  dsimp only at h
  rcases hC.2.1.cases hp with ⟨e1, e2⟩ | ⟨t, cs, r, e1, e2, e3, e4, e5, e6, e7⟩
  · rw [e1] at h
    simp (disch := omega) only [nI_ad, nI_ml, nI_lti, nI_lei, nI_eqi, nI_nn, nI_0le, nI_eq0, nI_0lt, nI_le0, nI_clamp, nI_pd, nI_sb, zOf_some, zOp_some, zOp_none, kI_int, kL_long, kO_ref, kO_null, nlt_T, nlt_F, nle_T, nle_F, neq_F, vpT, azUp_at, if_true, if_false, true_and, and_true, true_implies, false_implies, implies_true, not_true_eq_false, not_false_eq_true, true_or, or_true, false_or, or_false, and_false, false_and, eq_self, n01_0, n01_1, nm1_0, k0, f3, kg, e2]
    exact h
  · rw [e1] at h
    dsimp only at h
    have k5 := e5.1
    simp (disch := omega) only [nI_ad, nI_ml, nI_lti, nI_lei, nI_eqi, nI_nn, nI_0le, nI_eq0, nI_0lt, nI_le0, nI_clamp, nI_pd, nI_sb, zOf_some, zOp_some, zOp_none, kI_int, kL_long, kO_ref, kO_null, nlt_T, nlt_F, nle_T, nle_F, neq_F, vpT, azUp_at, if_true, if_false, true_and, and_true, true_implies, false_implies, implies_true, not_true_eq_false, not_false_eq_true, true_or, or_true, false_or, or_false, and_false, false_and, eq_self, n01_0, n01_1, nm1_0, k0, f3, kg, e3, k5]
    refine S_changeOf hR e5 hq e6 e7.1 (fun c hc => ⟨(e7.2.2.2.2.2.2 c hc).1, (e7.2.2.2.2.2.2 c hc).2.1, (e7.2.2.2.2.2.2 c hc).2.2.1⟩) ?_
    simp (disch := omega) only [nI_ad, nI_ml, nI_lti, nI_lei, nI_eqi, nI_nn, nI_0le, nI_eq0, nI_0lt, nI_le0, nI_clamp, nI_pd, nI_sb, zOf_some, zOp_some, zOp_none, kI_int, kL_long, kO_ref, kO_null, nlt_T, nlt_F, nle_T, nle_F, neq_F, vpT, azUp_at, if_true, if_false, true_and, and_true, true_implies, false_implies, implies_true, not_true_eq_false, not_false_eq_true, true_or, or_true, false_or, or_false, and_false, false_and, eq_self, n01_0, n01_1, nm1_0]
    exact h
theorem S_tnTold (hR : azClosed R) (hW : CW σ st) {x : Int32} (h : Q (some (.int (aTold st x))) σ) : R (d + 2) mX8_told 0 [.ref 0, .int x] [] σ Q := by
  obtain ⟨⟨n, z, kd⟩, I, J, F⟩ := σ
  obtain ⟨hT, hC, hX, hn, hS⟩ := id hW
  have hT : TnOk kd F := hT
  have hC : cTn kd I F st := hC
  obtain ⟨⟨k0, f0, f1, f2, f3, f4, f5, f6, f7, f8, f9⟩, ⟨m1, m2, m3⟩, ⟨t1, t2, t3⟩, p1, p2, p3, p4, p5⟩ := id hT
  obtain ⟨a1, a2, a3, a4, a5, a6, a7⟩ := id hC
  have km : (kd 1).1 = 3 := by rw [m1.1]
  have k13 := p1.1
  refine BX8_told_0 hR ?_
  unfold aTold at h
  rcases ix_cases x (n := 5) (by decide) with ⟨e, c⟩ | ⟨w, hw, rfl, e⟩
  · rw [e] at h
    have hx : x.toInt < 0 ∨ 4 < x.toInt := by
      rcases c with c | ⟨c0, c⟩
      · rw [Int32.lt_iff_toInt_lt] at c
        have e0 : (0 : Int32).toInt = 0 := rfl
        rw [e0] at c
        exact Or.inl c
      · rw [Int32.le_iff_toInt_le, nI_toInt (by decide)] at c
        exact Or.inr (by omega)
    exact ⟨fun _ => h, fun q => absurd q (by omega), fun q => absurd q (by omega), fun q => absurd q (by omega), fun q => absurd q (by omega), fun q => absurd q (by omega), trivial⟩
  rw [e] at h
  dsimp only at h
  rw [nI_toInt (by omega)]
  refine ⟨fun q => absurd q (by omega), fun q => ?_, fun q => ?_, fun q => ?_, fun q => ?_, fun q => ?_, trivial⟩
  · have : w = 0 := by omega
    rw [this] at h
    simp (disch := omega) only [nI_ad, nI_ml, nI_lti, nI_lei, nI_eqi, nI_nn, nI_0le, nI_eq0, nI_0lt, nI_le0, nI_clamp, nI_pd, nI_sb, zOf_some, zOp_some, zOp_none, kI_int, kL_long, kO_ref, kO_null, nlt_T, nlt_F, nle_T, nle_F, neq_F, vpT, azUp_at, if_true, if_false, true_and, and_true, true_implies, false_implies, implies_true, not_true_eq_false, not_false_eq_true, true_or, or_true, false_or, or_false, and_false, false_and, eq_self, n01_0, n01_1, nm1_0, k0, f0, km]
    refine S_total hR m1 a1 ?_
    exact h
  · have : w = 1 := by omega
    rw [this] at h
    refine ⟨k0, S_rulesTold hR hW ?_⟩
    rw [kI_int]
    refine S_bitCount hR (tldT_lt 10) ?_
    exact h
  · have : w = 2 := by omega
    rw [this] at h
    refine ⟨k0, ?_⟩
    rw [a5]
    exact h
  · have : w = 3 := by omega
    rw [this] at h
    simp (disch := omega) only [nI_ad, nI_ml, nI_lti, nI_lei, nI_eqi, nI_nn, nI_0le, nI_eq0, nI_0lt, nI_le0, nI_clamp, nI_pd, nI_sb, zOf_some, zOp_some, zOp_none, kI_int, kL_long, kO_ref, kO_null, nlt_T, nlt_F, nle_T, nle_F, neq_F, vpT, azUp_at, if_true, if_false, true_and, and_true, true_implies, false_implies, implies_true, not_true_eq_false, not_false_eq_true, true_or, or_true, false_or, or_false, and_false, false_and, eq_self, n01_0, n01_1, nm1_0, k0, f4, t1]
    rw [a3.1]
    exact h
  · have : w = 4 := by omega
    rw [this] at h
    simp (disch := omega) only [nI_ad, nI_ml, nI_lti, nI_lei, nI_eqi, nI_nn, nI_0le, nI_eq0, nI_0lt, nI_le0, nI_clamp, nI_pd, nI_sb, zOf_some, zOp_some, zOp_none, kI_int, kL_long, kO_ref, kO_null, nlt_T, nlt_F, nle_T, nle_F, neq_F, vpT, azUp_at, if_true, if_false, true_and, and_true, true_implies, false_implies, implies_true, not_true_eq_false, not_false_eq_true, true_or, or_true, false_or, or_false, and_false, false_and, eq_self, n01_0, n01_1, nm1_0, k0, f5, k13]
    rw [a4.1]
    exact h
theorem S_keep (hR : azClosed R) (hW : CW ((n, z, kd), I, J, F) st) {w : Int32} (h : ∀ I' F', cM I' 224 st.1 → (∀ b, b ≠ 223 → b ≠ 225 → b ≠ 226 → I' b = I b) → I' 223 2 = w → I' 223 3 = nI 1 → (∀ b, b ≠ 227 → F' b = F b) → (∀ p, p < 10 → F' 227 p = F 10 p) → (∀ p, 10 ≤ p → F' 227 p = F 227 p) → Q none ((n, z, kd), I', J, F')) : R (d + 2) mX2_keep 0 [.ref 223, .ref 1, .ref 10, .int w, .retAddr 0] [] ((n, z, kd), I, J, F) Q := by
  obtain ⟨hT, hC, hX, hn, hS⟩ := id hW
  have hT : TnOk kd F := hT
  have hC : cTn kd I F st := hC
  obtain ⟨⟨k0, f0, f1, f2, f3, f4, f5, f6, f7, f8, f9⟩, ⟨m1, m2, m3⟩, ⟨t1, t2, t3⟩, p1, p2, p3, p4, p5⟩ := id hT
  obtain ⟨i0, i1, i2, i3, i4⟩ := p5
  have km : (kd (223 + 1)).1 = 3 := by rw [i1.1]
  have kg := hC.2.1.1
  have main : ∀ s p (I1 : azI) (F1 : azR), s + p = 10 → cM I1 224 st.1 → (∀ b, b ≠ 223 → b ≠ 225 → b ≠ 226 → I1 b = I b) → (∀ b, b ≠ 227 → F1 b = F b) → (∀ q, q < p → F1 227 q = F 10 q) → (∀ q, p ≤ q → F1 227 q = F 227 q) → R (d + 2) mX2_keep 11 [.ref 223, .ref 1, .ref 10, .int w, .int (nI p)] [] ((n, z, kd), I1, J, F1) Q := by
    intro s
    induction s with
    | zero =>
      intro p I1 F1 hp g1 g2 g3 g4 g5
      obtain rfl : p = 10 := by omega
      refine BX2_keep_11 hR ?_
      simp (disch := omega) only [nI_ad, nI_ml, nI_lti, nI_lei, nI_eqi, nI_nn, nI_0le, nI_eq0, nI_0lt, nI_le0, nI_clamp, nI_pd, nI_sb, zOf_some, zOp_some, zOp_none, kI_int, kL_long, kO_ref, kO_null, nlt_T, nlt_F, nle_T, nle_F, neq_F, vpT, azUp_at, if_true, if_false, true_and, and_true, true_implies, false_implies, implies_true, not_true_eq_false, not_false_eq_true, true_or, or_true, false_or, or_false, and_false, false_and, eq_self, n01_0, n01_1, nm1_0, i0]
      refine h _ _ (g1.keep (by rw [azUp_nb (by omega), azUp_nb (by omega)]) (by rw [azUp_nb (by omega), azUp_nb (by omega)])) (fun b b1 b2 b3 => by rw [azUp_nb b1, azUp_nb b1, g2 b b1 b2 b3]) ?_ azUp_s g3 g4 g5
      rw [azUp_nk (by omega), azUp_s]
    | succ s ih =>
      intro p I1 F1 hs g1 g2 g3 g4 g5
      have hp : p < 10 := by omega
      have e10 : F1 10 = F 10 := g3 10 (by omega)
      have e214 : F1 223 = F 223 := g3 223 (by omega)
      have hup : ∀ x, F 10 p = x → R (d + 2) mX2_keep 11 [.ref 223, .ref 1, .ref 10, .int w, .int (nI (p + 1))] [] ((n, z, kd), I1, J, azUp F1 (223 + 4) p x) Q := fun x hx => by
        refine ih (p + 1) I1 _ (by omega) g1 g2 (fun b hb => ?_) (fun q hq => ?_) (fun q hq => ?_)
        · rw [← g3 b hb]; funext j; simp [azUp, hb]
        · by_cases eq : q = p
          · subst eq; rw [hx]; simp [azUp]
          · have : azUp F1 (223 + 4) p x 227 q = F1 227 q := by simp [azUp, eq]
            rw [this]; exact g4 q (by omega)
        · have : azUp F1 (223 + 4) p x 227 q = F1 227 q := by
            have : q ≠ p := by omega
            simp [azUp, this]
          rw [this]; exact g5 q (by omega)
      refine BX2_keep_11 hR ?_
      rcases hC.2.1.cases hp with ⟨e1, e2⟩ | ⟨t, cs, r, e1, e2, e3, e4, e5, e6, e7⟩
      · simp (disch := omega) only [nI_ad, nI_ml, nI_lti, nI_lei, nI_eqi, nI_nn, nI_0le, nI_eq0, nI_0lt, nI_le0, nI_clamp, nI_pd, nI_sb, zOf_some, zOp_some, zOp_none, kI_int, kL_long, kO_ref, kO_null, nlt_T, nlt_F, nle_T, nle_F, neq_F, vpT, azUp_at, if_true, if_false, true_and, and_true, true_implies, false_implies, implies_true, not_true_eq_false, not_false_eq_true, true_or, or_true, false_or, or_false, and_false, false_and, eq_self, n01_0, n01_1, nm1_0, kg, i0, e214, i4, e10, e2, i2]
        exact hup none e2
      · have k5 := e5.1
        simp (disch := omega) only [nI_ad, nI_ml, nI_lti, nI_lei, nI_eqi, nI_nn, nI_0le, nI_eq0, nI_0lt, nI_le0, nI_clamp, nI_pd, nI_sb, zOf_some, zOp_some, zOp_none, kI_int, kL_long, kO_ref, kO_null, nlt_T, nlt_F, nle_T, nle_F, neq_F, vpT, azUp_at, if_true, if_false, true_and, and_true, true_implies, false_implies, implies_true, not_true_eq_false, not_false_eq_true, true_or, or_true, false_or, or_false, and_false, false_and, eq_self, n01_0, n01_1, nm1_0, kg, i0, e214, i4, e10, e3, i2, k5]
        exact hup (some r) e3
  refine BX2_keep_0 hR ?_
  simp (disch := omega) only [nI_ad, nI_ml, nI_lti, nI_lei, nI_eqi, nI_nn, nI_0le, nI_eq0, nI_0lt, nI_le0, nI_clamp, nI_pd, nI_sb, zOf_some, zOp_some, zOp_none, kI_int, kL_long, kO_ref, kO_null, nlt_T, nlt_F, nle_T, nle_F, neq_F, vpT, azUp_at, if_true, if_false, true_and, and_true, true_implies, false_implies, implies_true, not_true_eq_false, not_false_eq_true, true_or, or_true, false_or, or_false, and_false, false_and, eq_self, n01_0, n01_1, nm1_0, i0, i3, km]
  refine S_copy hR i1 m1 (by omega) hC.1 hS.1 fun I1 q1 q2 => ⟨rfl, ?_⟩
  exact main 10 0 I1 F rfl q1 (fun b b1 b2 b3 => q2 b (by omega) (by omega)) (fun _ _ => rfl) (fun q hq => absurd hq (Nat.not_lt_zero _)) fun _ _ => rfl
theorem S_tnImage (hR : azClosed R) (hW : CW σ st) (h : ∀ σ', CW σ' (aImage st).2 → clF σ σ' → Q (some (.int (aImage st).1)) σ') : R (d + 3) mX8_image 0 [.ref 0] [] σ Q := by
  obtain ⟨⟨n, z, kd⟩, I, J, F⟩ := σ
  obtain ⟨hT, hC, hX, hn, hS⟩ := id hW
  have hT : TnOk kd F := hT
  have hC : cTn kd I F st := hC
  have hn : CN n F := hn
  have hX : TxOk kd I := hX
  obtain ⟨⟨k0, f0, f1, f2, f3, f4, f5, f6, f7, f8, f9⟩, ⟨m1, m2, m3⟩, ⟨t1, t2, t3⟩, p1, p2, p3, p4, p5⟩ := id hT
  obtain ⟨a1, a2, a3, a4, a5, a6, a7⟩ := id hC
  have km : (kd 1).1 = 3 := by rw [m1.1]
  have k2 := p5.1
  refine BX8_image_0 hR ?_
  simp (disch := omega) only [nI_ad, nI_ml, nI_lti, nI_lei, nI_eqi, nI_nn, nI_0le, nI_eq0, nI_0lt, nI_le0, nI_clamp, nI_pd, nI_sb, zOf_some, zOp_some, zOp_none, kI_int, kL_long, kO_ref, kO_null, nlt_T, nlt_F, nle_T, nle_F, neq_F, vpT, azUp_at, if_true, if_false, true_and, and_true, true_implies, false_implies, implies_true, not_true_eq_false, not_false_eq_true, true_or, or_true, false_or, or_false, and_false, false_and, eq_self, n01_0, n01_1, nm1_0, k0, f9, f0, f3, k2]
  refine S_keep hR hW fun I1 F1 g1 g2 g3 g4 g5 g6 g7 => ⟨rfl, ?_⟩
  have e0 : F1 0 = F 0 := g5 0 (by omega)
  have c1 : cM I1 1 st.1 := a1.keep (g2 2 (by omega) (by omega) (by omega)) (g2 3 (by omega) (by omega) (by omega))
  have m1' : MkOk kd F1 1 := m1.keep (fun _ _ _ => rfl) (g5 1 (by omega))
  simp (disch := omega) only [nI_ad, nI_ml, nI_lti, nI_lei, nI_eqi, nI_nn, nI_0le, nI_eq0, nI_0lt, nI_le0, nI_clamp, nI_pd, nI_sb, zOf_some, zOp_some, zOp_none, kI_int, kL_long, kO_ref, kO_null, nlt_T, nlt_F, nle_T, nle_F, neq_F, vpT, azUp_at, if_true, if_false, true_and, and_true, true_implies, false_implies, implies_true, not_true_eq_false, not_false_eq_true, true_or, or_true, false_or, or_false, and_false, false_and, eq_self, n01_0, n01_1, nm1_0, k0, e0, f0, km]
  refine S_total hR m1' c1 ?_
  simp (disch := omega) only [nI_ad, nI_ml, nI_lti, nI_lei, nI_eqi, nI_nn, nI_0le, nI_eq0, nI_0lt, nI_le0, nI_clamp, nI_pd, nI_sb, zOf_some, zOp_some, zOp_none, kI_int, kL_long, kO_ref, kO_null, nlt_T, nlt_F, nle_T, nle_F, neq_F, vpT, azUp_at, if_true, if_false, true_and, and_true, true_implies, false_implies, implies_true, not_true_eq_false, not_false_eq_true, true_or, or_true, false_or, or_false, and_false, false_and, eq_self, n01_0, n01_1, nm1_0]
  have hr10 : RsOk kd I1 F1 255 10 (rsOf st.2.1) := (a2.keep fun b hb => g2 b (by omega) (by omega) (by omega)).oth fun b hb => g5 b (by omega)
  have hr218 : RsOk kd I1 F1 255 227 (rsOf st.2.1) := ⟨a7.1, fun p hp => by rw [g6 p hp, ← congrFun (g5 10 (by omega)) p]; exact hr10.2 p hp⟩
  refine h _ (CW.mk (hT.keep (fun _ _ => rfl) (fun b _ _ _ hb => g5 b hb) (by rw [g5 11 (by omega)])) ⟨c1, hr10, ?_, a4.keep (g2 22 (by omega) (by omega) (by omega)) (g2 23 (by omega) (by omega) (by omega)), ?_, ?_, ?_⟩ (hX.keep fun b hb => g2 b (by omega) (by omega) (by omega)) ⟨hn.1, fun g hg p r hp => ?_⟩ ⟨hS.1, hS.2.1, hS.2.2.1, hS.2.2.2.1, fun m ru w e => ?_⟩) ⟨Nat.le_refl _, Nat.le_add_right _ _, Nat.le_add_right _ _, fun b hb _ => ⟨rfl, g2 b (by omega) (by omega) (by omega), rfl, g5 b (by omega)⟩⟩
  · rw [g2 11 (by omega) (by omega) (by omega), g2 12 (by omega) (by omega) (by omega)]; exact a3
  · show I1 0 10 = _
    rw [g2 0 (by omega) (by omega) (by omega)]; exact a5
  · rw [g2 0 (by omega) (by omega) (by omega)]
    rcases a6 with a6 | a6
    · exact Or.inl a6
    · have := (hS.ws).1
      exact Or.inr ⟨a6.1, a6.2.keep this.2.1 fun b b1 b2 => g2 b (by omega) (by omega) (by omega)⟩
  · refine ⟨a7.1, ⟨fun e => (by cases e), fun m ru w e => ?_⟩⟩
    cases e
    exact ⟨g4, g1, hr218, by rw [g3]; exact a5⟩
  · rcases hg with rfl | rfl
    · have hp : F1 10 p = some r := hp
      rw [g5 10 (by omega)] at hp
      exact hn.2 10 (Or.inl rfl) p r hp
    · have hp : F1 227 p = some r := hp
      by_cases c : p < 10
      · rw [g6 p c] at hp
        exact hn.2 10 (Or.inl rfl) p r hp
      · rw [g7 p (by omega)] at hp
        exact hn.2 227 (Or.inr rfl) p r hp
  · cases e
    exact ⟨hS.1, hS.2.1⟩
theorem S_giveBack (hR : azClosed R) (hW : CW ((n, z, kd), I, J, F) st) {m : Mk} {ru : Ru} {w : Nat} (e : st.2.2.2.2.2 = some (m, ru, w)) (h : ∀ I' F', cM I' 1 m → (∀ b, b ≠ 2 → b ≠ 3 → I' b = I b) → (∀ b, b ≠ 10 → F' b = F b) → (∀ p, p < 10 → F' 10 p = F 227 p) → (∀ p, 10 ≤ p → F' 10 p = F 10 p) → Q none ((n, z, kd), I', J, F')) : R (d + 2) mX2_giveBack 0 [.ref 223, .ref 1, .ref 10, .retAddr 0] [] ((n, z, kd), I, J, F) Q := by
  obtain ⟨hT, hC, hX, hn, hS⟩ := id hW
  have hT : TnOk kd F := hT
  have hC : cTn kd I F st := hC
  obtain ⟨⟨k0, f0, f1, f2, f3, f4, f5, f6, f7, f8, f9⟩, ⟨m1, m2, m3⟩, ⟨t1, t2, t3⟩, p1, p2, p3, p4, p5⟩ := id hT
  obtain ⟨i0, i1, i2, i3, i4⟩ := p5
  have km : (kd 1).1 = 3 := by rw [m1.1]
  have kg := hC.2.1.1
  obtain ⟨b1, b2, b3, b4⟩ := hC.2.2.2.2.2.2.2.2 m ru w e
  have hmv := (hS.2.2.2.2 m ru w e).1
  have main : ∀ s p (I1 : azI) (F1 : azR), s + p = 10 → cM I1 1 m → (∀ b, b ≠ 2 → b ≠ 3 → I1 b = I b) → (∀ b, b ≠ 10 → F1 b = F b) → (∀ q, q < p → F1 10 q = F 227 q) → (∀ q, p ≤ q → F1 10 q = F 10 q) → R (d + 2) mX2_giveBack 10 [.ref 223, .ref 1, .ref 10, .int (nI p)] [] ((n, z, kd), I1, J, F1) Q := by
    intro s
    induction s with
    | zero =>
      intro p I1 F1 hp g1 g2 g3 g4 g5
      obtain rfl : p = 10 := by omega
      refine BX2_giveBack_10 hR ?_
      simp (disch := omega) only [nI_ad, nI_ml, nI_lti, nI_lei, nI_eqi, nI_nn, nI_0le, nI_eq0, nI_0lt, nI_le0, nI_clamp, nI_pd, nI_sb, zOf_some, zOp_some, zOp_none, kI_int, kL_long, kO_ref, kO_null, nlt_T, nlt_F, nle_T, nle_F, neq_F, vpT, azUp_at, if_true, if_false, true_and, and_true, true_implies, false_implies, implies_true, not_true_eq_false, not_false_eq_true, true_or, or_true, false_or, or_false, and_false, false_and, eq_self, n01_0, n01_1, nm1_0]
      exact h _ _ g1 g2 g3 g4 g5
    | succ s ih =>
      intro p I1 F1 hs g1 g2 g3 g4 g5
      have hp : p < 10 := by omega
      have e218 : F1 (223 + 4) = F 227 := g3 227 (by omega)
      have e214 : F1 223 = F 223 := g3 223 (by omega)
      have hup : ∀ x, F 227 p = x → R (d + 2) mX2_giveBack 10 [.ref 223, .ref 1, .ref 10, .int (nI (p + 1))] [] ((n, z, kd), I1, J, azUp F1 10 p x) Q := fun x hx => by
        refine ih (p + 1) I1 _ (by omega) g1 g2 (fun b hb => ?_) (fun q hq => ?_) (fun q hq => ?_)
        · rw [← g3 b hb]; funext j; simp [azUp, hb]
        · by_cases eq : q = p
          · subst eq; rw [hx]; simp [azUp]
          · have : azUp F1 10 p x 10 q = F1 10 q := by simp [azUp, eq]
            rw [this]; exact g4 q (by omega)
        · have : azUp F1 10 p x 10 q = F1 10 q := by
            have : q ≠ p := by omega
            simp [azUp, this]
          rw [this]; exact g5 q (by omega)
      refine BX2_giveBack_10 hR ?_
      rcases b3.cases hp with ⟨e1, e2⟩ | ⟨t, cs, r, e1, e2, e3, e4, e5, e6, e7⟩
      · simp (disch := omega) only [nI_ad, nI_ml, nI_lti, nI_lei, nI_eqi, nI_nn, nI_0le, nI_eq0, nI_0lt, nI_le0, nI_clamp, nI_pd, nI_sb, zOf_some, zOp_some, zOp_none, kI_int, kL_long, kO_ref, kO_null, nlt_T, nlt_F, nle_T, nle_F, neq_F, vpT, azUp_at, if_true, if_false, true_and, and_true, true_implies, false_implies, implies_true, not_true_eq_false, not_false_eq_true, true_or, or_true, false_or, or_false, and_false, false_and, eq_self, n01_0, n01_1, nm1_0, kg, i0, e214, i4, e218, e2, i2]
        exact hup none e2
      · have k5 := e5.1
        simp (disch := omega) only [nI_ad, nI_ml, nI_lti, nI_lei, nI_eqi, nI_nn, nI_0le, nI_eq0, nI_0lt, nI_le0, nI_clamp, nI_pd, nI_sb, zOf_some, zOp_some, zOp_none, kI_int, kL_long, kO_ref, kO_null, nlt_T, nlt_F, nle_T, nle_F, neq_F, vpT, azUp_at, if_true, if_false, true_and, and_true, true_implies, false_implies, implies_true, not_true_eq_false, not_false_eq_true, true_or, or_true, false_or, or_false, and_false, false_and, eq_self, n01_0, n01_1, nm1_0, kg, i0, e214, i4, e218, e3, i2, k5]
        exact hup (some r) e3
  refine BX2_giveBack_0 hR ?_
  simp (disch := omega) only [nI_ad, nI_ml, nI_lti, nI_lei, nI_eqi, nI_nn, nI_0le, nI_eq0, nI_0lt, nI_le0, nI_clamp, nI_pd, nI_sb, zOf_some, zOp_some, zOp_none, kI_int, kL_long, kO_ref, kO_null, nlt_T, nlt_F, nle_T, nle_F, neq_F, vpT, azUp_at, if_true, if_false, true_and, and_true, true_implies, false_implies, implies_true, not_true_eq_false, not_false_eq_true, true_or, or_true, false_or, or_false, and_false, false_and, eq_self, n01_0, n01_1, nm1_0, i0, i3, km]
  refine S_copy hR m1 i1 (by omega) b2 hmv fun I1 q1 q2 => ⟨rfl, ?_⟩
  exact main 10 0 I1 F rfl q1 (fun b b1 b2 => q2 b (by omega) (by omega)) (fun _ _ => rfl) (fun q hq => absurd hq (Nat.not_lt_zero _)) fun _ _ => rfl
theorem S_tnUndo (hR : azClosed R) (hW : CW σ st) (h : ∀ σ', CW σ' (aUndo st).2 → clF σ σ' → Q (some (.int (aUndo st).1)) σ') : R (d + 3) mX8_undo 0 [.ref 0] [] σ Q := by
  obtain ⟨⟨n, z, kd⟩, I, J, F⟩ := σ
  obtain ⟨hT, hC, hX, hn, hS⟩ := id hW
  have hT : TnOk kd F := hT
  have hC : cTn kd I F st := hC
  have hn : CN n F := hn
  have hX : TxOk kd I := hX
  obtain ⟨⟨k0, f0, f1, f2, f3, f4, f5, f6, f7, f8, f9⟩, ⟨m1, m2, m3⟩, ⟨t1, t2, t3⟩, p1, p2, p3, p4, p5⟩ := id hT
  obtain ⟨a1, a2, a3, a4, a5, a6, a7⟩ := id hC
  have km : (kd 1).1 = 3 := by rw [m1.1]
  have k2 := p5.1
  refine BX8_undo_0 hR ?_
  unfold aUndo at h
  cases e : st.2.2.2.2.2 with
  | none =>
    have e3 := a7.2.1 e
    rw [e] at h
    simp (disch := omega) only [nI_ad, nI_ml, nI_lti, nI_lei, nI_eqi, nI_nn, nI_0le, nI_eq0, nI_0lt, nI_le0, nI_clamp, nI_pd, nI_sb, zOf_some, zOp_some, zOp_none, kI_int, kL_long, kO_ref, kO_null, nlt_T, nlt_F, nle_T, nle_F, neq_F, vpT, azUp_at, if_true, if_false, true_and, and_true, true_implies, false_implies, implies_true, not_true_eq_false, not_false_eq_true, true_or, or_true, false_or, or_false, and_false, false_and, eq_self, n01_0, n01_1, nm1_0, k0, f9, k2, e3]
    exact h _ hW (clF_I (fun _ _ => rfl) fun _ _ => rfl)
  | some i =>
    obtain ⟨m, ru, w⟩ := i
    obtain ⟨b1, b2, b3, b4⟩ := a7.2.2 m ru w e
    obtain ⟨hmv, hru⟩ := hS.2.2.2.2 m ru w e
    rw [e] at h
    dsimp only at h
    simp (disch := omega) only [nI_ad, nI_ml, nI_lti, nI_lei, nI_eqi, nI_nn, nI_0le, nI_eq0, nI_0lt, nI_le0, nI_clamp, nI_pd, nI_sb, zOf_some, zOp_some, zOp_none, kI_int, kL_long, kO_ref, kO_null, nlt_T, nlt_F, nle_T, nle_F, neq_F, vpT, azUp_at, if_true, if_false, true_and, and_true, true_implies, false_implies, implies_true, not_true_eq_false, not_false_eq_true, true_or, or_true, false_or, or_false, and_false, false_and, eq_self, n01_0, n01_1, nm1_0, k0, f9, k2, b1, f0, f3]
    refine S_giveBack hR hW e fun I1 F1 g1 g2 g5 g6 g7 => ⟨rfl, ?_⟩
    have e0 : F1 0 = F 0 := g5 0 (by omega)
    have e214 : I1 223 2 = nI w := by rw [g2 223 (by omega) (by omega)]; exact b4
    have m1' : MkOk kd F1 1 := m1.keep (fun _ _ _ => rfl) (g5 1 (by omega))
    simp (disch := omega) only [nI_ad, nI_ml, nI_lti, nI_lei, nI_eqi, nI_nn, nI_0le, nI_eq0, nI_0lt, nI_le0, nI_clamp, nI_pd, nI_sb, zOf_some, zOp_some, zOp_none, kI_int, kL_long, kO_ref, kO_null, nlt_T, nlt_F, nle_T, nle_F, neq_F, vpT, azUp_at, if_true, if_false, true_and, and_true, true_implies, false_implies, implies_true, not_true_eq_false, not_false_eq_true, true_or, or_true, false_or, or_false, and_false, false_and, eq_self, n01_0, n01_1, nm1_0, k0, e0, f9, k2, e214, f0, km]
    have gg : ∀ b, b ≠ 0 → b ≠ 2 → b ≠ 3 → azUp (azUp I1 0 10 (nI w)) 0 11 (nI 0) b = I b := fun b h0 h1 h2 => by rw [azUp_nb h0, azUp_nb h0, g2 b h1 h2]
    have c1 : cM (azUp (azUp I1 0 10 (nI w)) 0 11 (nI 0)) 1 m := g1.keep (by rw [azUp_nb (by omega), azUp_nb (by omega)]) (by rw [azUp_nb (by omega), azUp_nb (by omega)])
    refine S_total hR m1' c1 ?_
    simp (disch := omega) only [nI_ad, nI_ml, nI_lti, nI_lei, nI_eqi, nI_nn, nI_0le, nI_eq0, nI_0lt, nI_le0, nI_clamp, nI_pd, nI_sb, zOf_some, zOp_some, zOp_none, kI_int, kL_long, kO_ref, kO_null, nlt_T, nlt_F, nle_T, nle_F, neq_F, vpT, azUp_at, if_true, if_false, true_and, and_true, true_implies, false_implies, implies_true, not_true_eq_false, not_false_eq_true, true_or, or_true, false_or, or_false, and_false, false_and, eq_self, n01_0, n01_1, nm1_0]
    have hr218 : RsOk kd (azUp (azUp I1 0 10 (nI w)) 0 11 (nI 0)) F1 255 227 (rsOf ru) := (b3.keep fun b hb => gg b (by omega) (by omega) (by omega)).oth fun b hb => g5 b (by omega)
    have hr10 : RsOk kd (azUp (azUp I1 0 10 (nI w)) 0 11 (nI 0)) F1 255 10 (rsOf ru) := ⟨a2.1, fun p hp => by rw [g6 p hp, ← congrFun (g5 227 (by omega)) p]; exact hr218.2 p hp⟩
    refine h _ (CW.mk (hT.keep (fun _ _ => rfl) (fun b _ hb _ _ => g5 b hb) (by rw [g5 11 (by omega)])) ⟨c1, hr10, ?_, a4.keep (gg 22 (by omega) (by omega) (by omega)) (gg 23 (by omega) (by omega) (by omega)), ?_, Or.inl azUp_s, ⟨a7.1, fun e' => ?_, fun m' ru' w' e' => ?_⟩⟩ (hX.keep fun b hb => gg b (by omega) (by omega) (by omega)) ⟨hn.1, fun g hg p r hp => ?_⟩ ⟨hmv, hru, hS.2.2.1, hS.2.2.2.1, fun m' ru' w' e' => ?_⟩) ⟨Nat.le_refl _, Nat.le_add_right _ _, Nat.le_add_right _ _, fun b hb _ => ⟨rfl, gg b (by omega) (by omega) (by omega), rfl, g5 b (by omega)⟩⟩
    · rw [gg 11 (by omega) (by omega) (by omega), gg 12 (by omega) (by omega) (by omega)]; exact a3
    · show azUp (azUp I1 0 10 (nI w)) 0 11 (nI 0) 0 10 = _
      rw [azUp_nk (by omega), azUp_s]
    · cases e'
    · cases e'
      rw [gg 223 (by omega) (by omega) (by omega)]
      exact ⟨b1, b2.keep (gg 225 (by omega) (by omega) (by omega)) (gg 226 (by omega) (by omega) (by omega)), hr218, b4⟩
    · rcases hg with rfl | rfl
      · have hp : F1 10 p = some r := hp
        by_cases c : p < 10
        · rw [g6 p c] at hp
          exact hn.2 227 (Or.inr rfl) p r hp
        · rw [g7 p (by omega)] at hp
          exact hn.2 10 (Or.inl rfl) p r hp
      · have hp : F1 227 p = some r := hp
        rw [g5 227 (by omega)] at hp
        exact hn.2 227 (Or.inr rfl) p r hp
    · cases e'
      exact ⟨hmv, hru⟩
end S8
