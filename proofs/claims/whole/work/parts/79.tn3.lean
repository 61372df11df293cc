/-! THE CLASS: rule, drop. -/
theorem S_isPart {R : azP} (hR : azClosed R) {d : Nat} {Q : azQ} {x : Int32} {σ : azS} (h : Q (some (.int (isP x 10))) σ) : R d mX8_isPart 0 [.int x] [] σ Q := by
  obtain ⟨⟨n, z, kd⟩, I, J, F⟩ := σ
  refine BX8_isPart_0 hR ?_
  unfold isP at h
  rcases ix_cases x (n := 10) (by decide) with ⟨e, c | ⟨c0, c⟩⟩ | ⟨k, hk, rfl, e⟩
  · rw [e] at h; simp (disch := omega) only [nI_ad, nI_ml, nI_lti, nI_lei, nI_eqi, nI_nn, nI_0le, nI_eq0, nI_0lt, nI_le0, nI_clamp, nI_pd, nI_sb, zOf_some, zOp_some, zOp_none, kI_int, kL_long, kO_ref, kO_null, nlt_T, nlt_F, nle_T, nle_F, neq_F, vpT, azUp_at, if_true, if_false, true_and, and_true, true_implies, false_implies, implies_true, not_true_eq_false, not_false_eq_true, true_or, or_true, false_or, or_false, and_false, false_and, eq_self, n01_0, n01_1, nm1_0, c]; exact h
  · rw [e] at h; simp (disch := omega) only [nI_ad, nI_ml, nI_lti, nI_lei, nI_eqi, nI_nn, nI_0le, nI_eq0, nI_0lt, nI_le0, nI_clamp, nI_pd, nI_sb, zOf_some, zOp_some, zOp_none, kI_int, kL_long, kO_ref, kO_null, nlt_T, nlt_F, nle_T, nle_F, neq_F, vpT, azUp_at, if_true, if_false, true_and, and_true, true_implies, false_implies, implies_true, not_true_eq_false, not_false_eq_true, true_or, or_true, false_or, or_false, and_false, false_and, eq_self, n01_0, n01_1, nm1_0, c0, c]; exact h
  · rw [e] at h; simp (disch := omega) only [nI_ad, nI_ml, nI_lti, nI_lei, nI_eqi, nI_nn, nI_0le, nI_eq0, nI_0lt, nI_le0, nI_clamp, nI_pd, nI_sb, zOf_some, zOp_some, zOp_none, kI_int, kL_long, kO_ref, kO_null, nlt_T, nlt_F, nle_T, nle_F, neq_F, vpT, azUp_at, if_true, if_false, true_and, and_true, true_implies, false_implies, implies_true, not_true_eq_false, not_false_eq_true, true_or, or_true, false_or, or_false, and_false, false_and, eq_self, n01_0, n01_1, nm1_0]; exact h
section S8
variable {R : azP} {d : Nat} {σ : azS} {Q : azQ} {st : St}
theorem CW.mk {n z : Nat} {kd : azK} {I : azI} {J : azJ} {F : azR} (hT : TnOk kd F) (hC : cTn kd I F st) (hX : TxOk kd I) (hn : CN n F) (hS : stOK st) : CW ((n, z, kd), I, J, F) st := ⟨hT, hC, hX, hn, hS⟩
/-- another rule, or none -/
theorem RsOk.up {kd : azK} {I : azI} {F : azR} {lo g : Nat} {rs : Nat → Option (List Cls)} (h : RsOk kd I F lo g rs) (hg : g ≤ lo) {p : Nat} {x : Option Nat} {y : Option (List Cls)} (h0 : x = none → y = none) (h1 : ∀ r, x = some r → ∃ cs, y = some cs ∧ lo < r ∧ RuOk kd F r ∧ cR I r cs [] ∧ rlOK cs) : RsOk kd I (azUp F g p x) lo g (rUp rs p y) := ⟨h.1, fun q hq => by
  have eF : ∀ b, b ≠ g → azUp F g p x b = F b := fun b hb => by funext j; simp [azUp, hb]
  by_cases e : q = p
  · subst e
    have e1 : azUp F g q x g q = x := by simp [azUp]
    have e2 : rUp rs q y q = y := by simp [rUp]
    rw [e1, e2]
    refine ⟨fun hy => ?_, fun cs hcs => ?_⟩
    · cases hx : x with
      | none => rfl
      | some r =>
        obtain ⟨cs, w, _⟩ := h1 r hx
        rw [w] at hy; cases hy
    · cases hx : x with
      | none => rw [h0 hx] at hcs; cases hcs
      | some r =>
        obtain ⟨cs', w1, w2, w3, w4, w5⟩ := h1 r hx
        rw [w1] at hcs; cases hcs
        exact ⟨r, rfl, w2, w3.keep (fun _ _ _ => rfl) (by rw [← hx]; exact eF r (by omega)), w4, w5⟩
  · have e1 : azUp F g p x g q = F g q := by simp [azUp, e]
    have e2 : rUp rs p y q = rs q := by simp [rUp, e]
    rw [e1, e2]
    refine ⟨(h.2 q hq).1, fun cs hcs => ?_⟩
    obtain ⟨r, w1, w2, w3, w4, w5⟩ := (h.2 q hq).2 cs hcs
    exact ⟨r, w1, w2, w3.keep (fun _ _ _ => rfl) (eF r (by omega)), w4, w5⟩⟩
/-- the same rules with another row of references elsewhere -/
theorem RsOk.oth {kd : azK} {I : azI} {F F' : azR} {lo g : Nat} {rs : Nat → Option (List Cls)} (h : RsOk kd I F lo g rs) (hf : ∀ b, b = g ∨ lo < b → F' b = F b) : RsOk kd I F' lo g rs := ⟨h.1, fun p hp => ⟨fun e => by rw [hf g (Or.inl rfl)]; exact (h.2 p hp).1 e, fun cs hcs => by
  obtain ⟨r, h1, h2, h3, h4, h5⟩ := (h.2 p hp).2 cs hcs
  exact ⟨r, by rw [hf g (Or.inl rfl)]; exact h1, h2, h3.keep (fun _ _ _ => rfl) (hf r (Or.inr h2)), h4, h5⟩⟩⟩
theorem ruOK.up {ru : Ru} (h : ruOK ru) {p : Nat} {x : Option (List Nat × List Cls)} (hx : ∀ t cs, x = some (t, cs) → tOK t ∧ 0 < t.length ∧ pRule t = .ok cs) : ruOK (rUp ru p x) := fun q t cs e => by
  unfold rUp at e
  by_cases c : q = p
  · rw [if_pos c] at e; exact hx t cs e
  · rw [if_neg c] at e; exact h q t cs e
theorem S_tnDrop (hR : azClosed R) (hW : CW σ st) {x : Int32} (h : ∀ σ', CW σ' (aDrop st x).2 → clF σ σ' → Q (some (.int (aDrop st x).1)) σ') : R (d + 2) mX8_drop 0 [.ref 0, .int x] [] σ Q := by
  obtain ⟨⟨n, z, kd⟩, I, J, F⟩ := σ
  have hW' := hW
  obtain ⟨hT, hC, hX, hn, hS⟩ := hW
  have hT : TnOk kd F := hT
  have hC : cTn kd I F st := hC
  have hn : CN n F := hn
  obtain ⟨⟨k0, f0, f1, f2, f3, f4, f5, f6, f7, f8, f9⟩, ⟨m1, m2, m3⟩, ⟨t1, t2, t3⟩, p1, p2, p3, p4, p5⟩ := id hT
  obtain ⟨a1, a2, a3, a4, a5, a6, a7⟩ := id hC
  have kg := a2.1
  refine BX8_drop_0 hR (S_isPart hR ?_)
  unfold isP
  unfold aDrop at h
  rcases ix_cases x (n := 10) (by decide) with ⟨e, c⟩ | ⟨p, hp, rfl, e⟩
  · rw [e] at h ⊢
    simp (disch := omega) only [nI_ad, nI_ml, nI_lti, nI_lei, nI_eqi, nI_nn, nI_0le, nI_eq0, nI_0lt, nI_le0, nI_clamp, nI_pd, nI_sb, zOf_some, zOp_some, zOp_none, kI_int, kL_long, kO_ref, kO_null, nlt_T, nlt_F, nle_T, nle_F, neq_F, vpT, azUp_at, if_true, if_false, true_and, and_true, true_implies, false_implies, implies_true, not_true_eq_false, not_false_eq_true, true_or, or_true, false_or, or_false, and_false, false_and, eq_self, n01_0, n01_1, nm1_0]
    exact h _ hW' (clF_I (fun _ _ => rfl) fun _ _ => rfl)
  rw [e] at h ⊢
  dsimp only at h
  cases hr : st.2.1 p with
  | none =>
    have hF := (a2.2 p hp).1 (by unfold rsOf; rw [hr]; rfl)
    rw [hr] at h
    simp (disch := omega) only [nI_ad, nI_ml, nI_lti, nI_lei, nI_eqi, nI_nn, nI_0le, nI_eq0, nI_0lt, nI_le0, nI_clamp, nI_pd, nI_sb, zOf_some, zOp_some, zOp_none, kI_int, kL_long, kO_ref, kO_null, nlt_T, nlt_F, nle_T, nle_F, neq_F, vpT, azUp_at, if_true, if_false, true_and, and_true, true_implies, false_implies, implies_true, not_true_eq_false, not_false_eq_true, true_or, or_true, false_or, or_false, and_false, false_and, eq_self, n01_0, n01_1, nm1_0, k0, f3, kg, hF]
    exact h _ hW' (clF_I (fun _ _ => rfl) fun _ _ => rfl)
  | some y =>
    obtain ⟨r, hF, _⟩ := (a2.2 p hp).2 y.2 (by unfold rsOf; rw [hr]; rfl)
    rw [hr] at h
    simp (disch := omega) only [nI_ad, nI_ml, nI_lti, nI_lei, nI_eqi, nI_nn, nI_0le, nI_eq0, nI_0lt, nI_le0, nI_clamp, nI_pd, nI_sb, zOf_some, zOp_some, zOp_none, kI_int, kL_long, kO_ref, kO_null, nlt_T, nlt_F, nle_T, nle_F, neq_F, vpT, azUp_at, if_true, if_false, true_and, and_true, true_implies, false_implies, implies_true, not_true_eq_false, not_false_eq_true, true_or, or_true, false_or, or_false, and_false, false_and, eq_self, n01_0, n01_1, nm1_0, k0, f3, kg, hF]
    have gg : ∀ b, b ≠ 0 → azUp I 0 11 (nI 0) b = I b := fun b hb => azUp_nb hb
    have eF : ∀ b, b ≠ 10 → azUp F 10 p none b = F b := fun b hb => by funext j; simp [azUp, hb]
    refine h _ (CW.mk (hT.keep (fun _ _ => rfl) (fun b _ hb _ _ => eF b hb) (by rw [eF 11 (by omega)])) ?_ (hX.keep fun b hb => gg b (by omega)) ⟨hn.1, fun g hg q r hq => ?_⟩ ⟨hS.1, hS.2.1.up (fun t cs e => by cases e), hS.2.2⟩) ⟨Nat.le_refl _, Nat.le_add_right _ _, Nat.le_add_right _ _, fun b hb _ => ⟨rfl, gg b (by omega), rfl, eF b (by omega)⟩⟩
    · refine ⟨a1.keep (gg 2 (by omega)) (gg 3 (by omega)), ?_, ?_, a4.keep (gg 22 (by omega)) (gg 23 (by omega)), ?_, Or.inl azUp_s, ?_⟩
      · have := (a2.up (by omega) (p := p) (x := none) (y := none) (fun _ => rfl) (fun r e => by cases e)).keep (I' := azUp I 0 11 (nI 0)) fun b hb => gg b (by omega)
        rw [rsOf_up]
        exact this
      · rw [gg 11 (by omega), gg 12 (by omega)]; exact a3
      · show azUp I 0 11 (nI 0) 0 10 = _
        rw [azUp_nk (by omega)]; exact a5
      · refine cIm.keep (I := I) ⟨a7.1, a7.2.1, fun m ru w e => ?_⟩ fun b hb => gg b (by omega)
        obtain ⟨b1, b2, b3, b4⟩ := a7.2.2 m ru w e
        exact ⟨b1, b2, b3.oth fun b hb => eF b (by omega), b4⟩
    · by_cases c : g = 10 ∧ q = p
      · obtain ⟨rfl, rfl⟩ := c
        have : azUp F 10 q none 10 q = none := by simp [azUp]
        rw [this] at hq; cases hq
      · have : azUp F 10 p none g q = F g q := by
          unfold azUp
          by_cases c1 : g = 10
          · rw [if_pos c1, if_neg fun c2 => c ⟨c1, c2⟩]
          · rw [if_neg c1]
        rw [this] at hq
        exact hn.2 g hg q r hq
/-- the same state, for cells that come behind -/
theorem cTn.far {n n' : Nat} (hS : stOK st) {kd kd' : azK} {I I' : azI} {F F' : azR} (h : cTn kd I F st) (hn : CN n F) (hk : ∀ b, b < n → kd' b = kd b) (hI : ∀ b, b ≠ 11 → b < n → I' b = I b) (hF : ∀ b, b ≠ 11 → b < n → F' b = F b) (hw : I' 11 1 = I 11 1) (hnn : n ≤ n') : cTn kd' I' F' st ∧ CN n' F' := by
  obtain ⟨a1, a2, a3, a4, a5, a6, a7⟩ := h
  have h247 := hn.1
  have hR : ∀ g rs, g = 10 ∨ g = 227 → RsOk kd I F 255 g rs → RsOk kd' I' F' 255 g rs := fun g rs hg hr => hr.far (n := n) (hn.2 g hg) (fun b b1 b2 => ⟨hk b b2, hI b (by omega) b2, hF b (by omega) b2⟩) (hk g (by omega)) (hF g (by omega) (by omega))
  refine ⟨⟨a1.keep (hI 2 (by omega) (by omega)) (hI 3 (by omega) (by omega)), hR 10 _ (Or.inl rfl) a2, ⟨by rw [hw]; exact a3.1, by rw [hI 12 (by omega) (by omega)]; exact a3.2⟩, a4.keep (hI 22 (by omega) (by omega)) (hI 23 (by omega) (by omega)), by rw [hI 0 (by omega) (by omega)]; exact a5, ?_, ⟨by rw [hk 227 (by omega)]; exact a7.1, fun e => by rw [hI 223 (by omega) (by omega)]; exact a7.2.1 e, fun m ru w e => ?_⟩⟩, ⟨by omega, fun g hg p r hp => ?_⟩⟩
  · rw [hI 0 (by omega) (by omega)]
    rcases a6 with a6 | a6
    · exact Or.inl a6
    · refine Or.inr ⟨a6.1, ?_⟩
      have e : ∀ b, 30 ≤ b → b < 256 → I' b = I b := fun b hb hb2 => hI b (by omega) (by omega)
      obtain ⟨⟨q1, q2, q3, q4⟩, q5⟩ := a6.2
      have h60 := (wk60_le hS.rl hS.1).2.1
      have hl : ∀ i, i < (wk 60 (rsOf st.2.1) st.1).1.length → I' (30 + 2 + 3 * i + 1) = I (30 + 2 + 3 * i + 1) ∧ I' (30 + 2 + 3 * i + 2) = I (30 + 2 + 3 * i + 2) := fun i hi => ⟨e _ (by omega) (by omega), e _ (by omega) (by omega)⟩
      exact ⟨⟨by rw [e _ (by omega) (by omega)]; exact q1, fun i hi => (q2 i hi).keep (hl i hi).1 (hl i hi).2, fun i i1 i2 => by rw [e _ (by omega) (by omega), e _ (by omega) (by omega)]; exact q3 i i1 i2, fun k hk => by rw [e _ (by omega) (by omega)]; exact q4 k hk⟩, fun i hi => by rw [e _ (by omega) (by omega)]; exact q5 i hi⟩
  · obtain ⟨b1, b2, b3, b4⟩ := a7.2.2 m ru w e
    rw [hI 223 (by omega) (by omega)]
    exact ⟨b1, b2.keep (hI 225 (by omega) (by omega)) (hI 226 (by omega) (by omega)), hR 227 _ (Or.inr rfl) b3, b4⟩
  · rw [hF g (by omega) (by omega)] at hp
    have := hn.2 g hg p r hp
    omega
end S8
