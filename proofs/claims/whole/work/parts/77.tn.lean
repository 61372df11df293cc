/-! THE CLASS'S WORLD. -/
/-- rules: text and clauses -/
abbrev Ru := Nat → Option (List Nat × List Cls)
/-- marking, rules, tape, paper, went, image -/
abbrev St := Mk × Ru × List Nat × List Nat × Nat × Option (Mk × Ru × Nat)
def rsOf (ru : Ru) : Nat → Option (List Cls) := fun p => (ru p).map Prod.snd
def ruOK (ru : Ru) : Prop := ∀ p t cs, ru p = some (t, cs) → tOK t ∧ 0 < t.length ∧ pRule t = .ok cs
def imOK (im : Option (Mk × Ru × Nat)) : Prop := ∀ m ru w, im = some (m, ru, w) → mOK m ∧ ruOK ru
def stOK (st : St) : Prop := mOK st.1 ∧ ruOK st.2.1 ∧ tOK st.2.2.1 ∧ st.2.2.2.1.length ≤ 256 ∧ imOK st.2.2.2.2.2
theorem ruOK.rl {ru : Ru} (h : ruOK ru) {p : Nat} {cs : List Cls} (hp : rsOf ru p = some cs) : ∃ t, ru p = some (t, cs) ∧ tOK t ∧ 0 < t.length ∧ pRule t = .ok cs ∧ rlOK cs := by
  unfold rsOf at hp
  cases e : ru p with
  | none => rw [e] at hp; cases hp
  | some x =>
    rw [e] at hp
    obtain ⟨t, c⟩ := x
    have hp : c = cs := Option.some.inj hp
    subst hp
    obtain ⟨h1, h2, h3⟩ := h p t c e
    refine ⟨t, rfl, h1, h2, h3, ?_⟩
    have := pgQ_rule (t := t) h1.1
    rw [h3] at this
    exact this
def BlOk (kd : azK) (F : azR) (a : Nat) : Prop := (kd a).1 = 0 ∧ kd (a + 1) = (11, 100) ∧ kd (a + 2) = (10, 10) ∧ F a 0 = some (a + 1) ∧ F a 1 = some (a + 2)
def ImOk (kd : azK) (F : azR) (a : Nat) : Prop := (kd a).1 = 2 ∧ MkOk kd F (a + 1) ∧ kd (a + 4) = (14, 10) ∧ F a 0 = some (a + 1) ∧ F a 1 = some (a + 4)
def TnOk (kd : azK) (F : azR) : Prop := ((kd 0).1 = 8 ∧ F 0 0 = some 1 ∧ F 0 1 = some 4 ∧ F 0 2 = some 7 ∧ F 0 3 = some 10 ∧ F 0 4 = some 11 ∧ F 0 5 = some 22 ∧ F 0 6 = some 26 ∧ F 0 7 = some 30 ∧ F 0 8 = some 220 ∧ F 0 9 = some 223) ∧ (MkOk kd F 1 ∧ MkOk kd F 4 ∧ MkOk kd F 7) ∧ ((kd 11).1 = 6 ∧ kd 12 = (10, 80) ∧ F 11 0 = some 12) ∧ PpOk kd F 22 ∧ FiOk kd F 26 ∧ WkOk kd F 30 ∧ BlOk kd F 220 ∧ ImOk kd F 223
def cIm (kd : azK) (I : azI) (F : azR) (im : Option (Mk × Ru × Nat)) : Prop := kd 227 = (14, 10) ∧ (im = none → I 223 3 = nI 0) ∧ ∀ m ru w, im = some (m, ru, w) → I 223 3 = nI 1 ∧ cM I 224 m ∧ RsOk kd I F 255 227 (rsOf ru) ∧ I 223 2 = nI w
def cTn (kd : azK) (I : azI) (F : azR) (st : St) : Prop := cM I 1 st.1 ∧ RsOk kd I F 255 10 (rsOf st.2.1) ∧ (I 11 1 = nI st.2.2.1.length ∧ lst (I 12) (st.2.2.1.map nI)) ∧ cP I 22 st.2.2.2.1 ∧ I 0 10 = nI st.2.2.2.2.1 ∧ (I 0 11 = nI 0 ∨ (I 0 11 = nI 1 ∧ cWk I 30 (wk 60 (rsOf st.2.1) st.1))) ∧ cIm kd I F st.2.2.2.2.2
/-- rules lie below n -/
def CN (n : Nat) (F : azR) : Prop := 256 ≤ n ∧ ∀ g, g = 10 ∨ g = 227 → ∀ p r, F g p = some r → r + 9 ≤ n
def CW (σ : azS) (st : St) : Prop := TnOk σ.1.2.2 σ.2.2.2 ∧ cTn σ.1.2.2 σ.2.1 σ.2.2.2 st ∧ TxOk σ.1.2.2 σ.2.1 ∧ CN σ.1.1 σ.2.2.2 ∧ stOK st
/-- what a call of the class leaves as it is -/
def clF (σ σ' : azS) : Prop := σ.1.1 ≤ σ'.1.1 ∧ σ'.1.1 ≤ σ.1.1 + 9 ∧ σ'.1.2.1 ≤ σ.1.2.1 + 160 ∧ ∀ b, 228 ≤ b → (b < σ.1.1 ∨ azB ≤ b) → σ'.1.2.2 b = σ.1.2.2 b ∧ σ'.2.1 b = σ.2.1 b ∧ σ'.2.2.1 b = σ.2.2.1 b ∧ σ'.2.2.2 b = σ.2.2.2 b
/-- cells that say nothing between calls -/
def scrB (b : Nat) : Prop := (4 ≤ b ∧ b ≤ 9) ∨ (24 ≤ b ∧ b ≤ 29) ∨ (212 ≤ b ∧ b ≤ 214) ∨ (219 ≤ b ∧ b ≤ 222)
theorem wk60_le {rs : Nat → Option (List Cls)} {m : Mk} (ho : ∀ p cs, p < 10 → rs p = some cs → rlOK cs) (hv : mOK m) : wsOK 60 (wk 60 rs m) := wk_ok ho hv (by decide)
section S8
variable {n z : Nat} {kd : azK} {I I' : azI} {J : azJ} {F : azR} {st : St}
theorem clF_I {J' : azJ} (h : ∀ b, 228 ≤ b → I' b = I b) (hj : ∀ b, 228 ≤ b → J' b = J b) : clF ((n, z, kd), I, J, F) ((n, z, kd), I', J', F) := ⟨Nat.le_refl _, Nat.le_add_right _ _, Nat.le_add_right _ _, fun b hb _ => ⟨rfl, h b hb, hj b hb, rfl⟩⟩
theorem cIm.keep {im : Option (Mk × Ru × Nat)} (h : cIm kd I F im) (hf : ∀ b, b = 223 ∨ b = 225 ∨ b = 226 ∨ 255 < b → I' b = I b) : cIm kd I' F im := ⟨h.1, fun e => by rw [hf 223 (by omega)]; exact h.2.1 e, fun m ru w e => by
  obtain ⟨h1, h2, h3, h4⟩ := h.2.2 m ru w e
  rw [hf 223 (by omega)]
  exact ⟨h1, h2.keep (hf 225 (by omega)) (hf 226 (by omega)), h3.keep fun b hb => hf b (by omega), h4⟩⟩
theorem stOK.rl (h : stOK st) : ∀ p cs, p < 10 → rsOf st.2.1 p = some cs → rlOK cs := fun p cs _ hp => by
  obtain ⟨t, _, _, _, _, h6⟩ := h.2.1.rl hp
  exact h6
/-- scratch changes nothing -/
theorem cTn.kp (h : cTn kd I F st) (hs : stOK st) (hf : ∀ b, ¬ scrB b → I' b = I b) : cTn kd I' F st := by
  obtain ⟨h1, h2, h3, h4, h5, h6, h7⟩ := h
  have g : ∀ b, ¬ ((4 ≤ b ∧ b ≤ 9) ∨ (24 ≤ b ∧ b ≤ 29) ∨ (212 ≤ b ∧ b ≤ 214) ∨ (219 ≤ b ∧ b ≤ 222)) → I' b = I b := hf
  refine ⟨h1.keep (g 2 (by omega)) (g 3 (by omega)), h2.keep fun b hb => g b (by omega), ?_, h4.keep (g 22 (by omega)) (g 23 (by omega)), by rw [g 0 (by omega)]; exact h5, ?_, h7.keep fun b hb => g b (by omega)⟩
  · rw [g 11 (by omega), g 12 (by omega)]; exact h3
  · rw [g 0 (by omega)]
    rcases h6 with h6 | h6
    · exact Or.inl h6
    · have := wk60_le hs.rl hs.1
      exact Or.inr ⟨h6.1, h6.2.keep this.2.1 fun b b1 b2 => g b (by omega)⟩
/-- another marking -/
theorem cTn.mark (h : cTn kd I F st) (hf : ∀ b, ¬ scrB b → b ≠ 0 → b ≠ 2 → b ≠ 3 → I' b = I b) (h11 : I' 0 11 = nI 0) {w : Nat} (h10 : I' 0 10 = nI w) {m : Mk} (hm : cM I' 1 m) : cTn kd I' F (m, st.2.1, st.2.2.1, st.2.2.2.1, w, st.2.2.2.2.2) := by
  obtain ⟨h1, h2, h3, h4, h5, h6, h7⟩ := h
  have g : ∀ b, ¬ ((4 ≤ b ∧ b ≤ 9) ∨ (24 ≤ b ∧ b ≤ 29) ∨ (212 ≤ b ∧ b ≤ 214) ∨ (219 ≤ b ∧ b ≤ 222)) → b ≠ 0 → b ≠ 2 → b ≠ 3 → I' b = I b := hf
  refine ⟨hm, h2.keep fun b hb => g b (by omega) (by omega) (by omega) (by omega), ?_, h4.keep (g 22 (by omega) (by omega) (by omega) (by omega)) (g 23 (by omega) (by omega) (by omega) (by omega)), h10, Or.inl h11, h7.keep fun b hb => g b (by omega) (by omega) (by omega) (by omega)⟩
  rw [g 11 (by omega) (by omega) (by omega) (by omega), g 12 (by omega) (by omega) (by omega) (by omega)]; exact h3
theorem TxOk.keep (h : TxOk kd I) (hf : ∀ b, 1000000 ≤ b → I' b = I b) : TxOk kd I' := fun j hj => ⟨(h j hj).1, (h j hj).2.1, fun k hk => by rw [hf _ (by have : azB = 1000000 := rfl; omega)]; exact (h j hj).2.2 k hk⟩
end S8
/-! ANSWERS: what each call answers, and what is then. -/
def aPut (st : St) (x y : Int32) : Int32 × St := match ix x 10 with
  | none => (-(nI 1), st)
  | some p => match ix y 100 with
    | none => (-(nI 2), st)
    | some t => if (st.1 p).length < 6 then (nI ((st.1 p).length + 1), (mUp st.1 p (st.1 p ++ [t]), st.2)) else (-(nI 4), st)
def aTake (st : St) (x y : Int32) : Int32 × St := match ix x 10 with
  | none => (-(nI 1), st)
  | some p => match ix y (st.1 p).length with
    | none => (-(nI 1), st)
    | some i => (nI ((st.1 p).getD i 0), (mUp st.1 p ((st.1 p).eraseIdx i), st.2))
def aToken (st : St) (x y : Int32) : Int32 := match ix x 10 with
  | none => -(nI 1)
  | some p => if y = -(nI 1) then nI (st.1 p).length else atS st.1 x y
section S8
variable {R : azP} {d : Nat} {σ : azS} {Q : azQ} {st : St}
theorem S_tnPut (hR : azClosed R) (hW : CW σ st) {x y : Int32} (h : ∀ σ', CW σ' (aPut st x y).2 → clF σ σ' → Q (some (.int (aPut st x y).1)) σ') : R (d + 2) mX8_put 0 [.ref 0, .int x, .int y] [] σ Q := by
  obtain ⟨⟨n, z, kd⟩, I, J, F⟩ := σ
  have hW' := hW
  obtain ⟨hT, hC, hX, hn, hS⟩ := hW
  have hT : TnOk kd F := hT
  have hC : cTn kd I F st := hC
  have hn : CN n F := hn
  obtain ⟨⟨k0, f0, f1, f2, f3, f4, f5, f6, f7, f8, f9⟩, ⟨m1, m2, m3⟩, ⟨t1, t2, t3⟩, p1, p2, p3, p4, p5⟩ := id hT
  have km : (kd 1).1 = 3 := by rw [m1.1]
  have hv := hS.1
  refine BX8_put_0 hR (S_isPlace hR ?_)
  unfold isP
  unfold aPut at h
  rcases ix_cases x (n := 10) (by decide) with ⟨e, c⟩ | ⟨p, hp, rfl, e⟩
  · rw [e] at h ⊢
    simp (disch := omega) only [nI_ad, nI_ml, nI_lti, nI_lei, nI_eqi, nI_nn, nI_0le, nI_eq0, nI_0lt, nI_le0, nI_clamp, nI_pd, nI_sb, zOf_some, zOp_some, zOp_none, kI_int, kL_long, kO_ref, kO_null, nlt_T, nlt_F, nle_T, nle_F, neq_F, vpT, azUp_at, if_true, if_false, true_and, and_true, true_implies, false_implies, implies_true, not_true_eq_false, not_false_eq_true, true_or, or_true, false_or, or_false, and_false, false_and, eq_self, n01_0, n01_1, nm1_0]
    exact h _ hW' (clF_I (fun _ _ => rfl) fun _ _ => rfl)
  rw [e] at h ⊢
  dsimp only at h
  rcases ix_cases y (n := 100) (by decide) with ⟨e, c | ⟨c0, c⟩⟩ | ⟨t, ht, rfl, e⟩
  · rw [e] at h; simp (disch := omega) only [nI_ad, nI_ml, nI_lti, nI_lei, nI_eqi, nI_nn, nI_0le, nI_eq0, nI_0lt, nI_le0, nI_clamp, nI_pd, nI_sb, zOf_some, zOp_some, zOp_none, kI_int, kL_long, kO_ref, kO_null, nlt_T, nlt_F, nle_T, nle_F, neq_F, vpT, azUp_at, if_true, if_false, true_and, and_true, true_implies, false_implies, implies_true, not_true_eq_false, not_false_eq_true, true_or, or_true, false_or, or_false, and_false, false_and, eq_self, n01_0, n01_1, nm1_0, c]; exact h _ hW' (clF_I (fun _ _ => rfl) fun _ _ => rfl)
  · rw [e] at h
    have c2 : ¬ (y < nI 100) := Int32.not_lt.mpr c
    simp (disch := omega) only [nI_ad, nI_ml, nI_lti, nI_lei, nI_eqi, nI_nn, nI_0le, nI_eq0, nI_0lt, nI_le0, nI_clamp, nI_pd, nI_sb, zOf_some, zOp_some, zOp_none, kI_int, kL_long, kO_ref, kO_null, nlt_T, nlt_F, nle_T, nle_F, neq_F, vpT, azUp_at, if_true, if_false, true_and, and_true, true_implies, false_implies, implies_true, not_true_eq_false, not_false_eq_true, true_or, or_true, false_or, or_false, and_false, false_and, eq_self, n01_0, n01_1, nm1_0, c0, c2]; exact h _ hW' (clF_I (fun _ _ => rfl) fun _ _ => rfl)
  rw [e] at h
  dsimp only at h
  simp (disch := omega) only [nI_ad, nI_ml, nI_lti, nI_lei, nI_eqi, nI_nn, nI_0le, nI_eq0, nI_0lt, nI_le0, nI_clamp, nI_pd, nI_sb, zOf_some, zOp_some, zOp_none, kI_int, kL_long, kO_ref, kO_null, nlt_T, nlt_F, nle_T, nle_F, neq_F, vpT, azUp_at, if_true, if_false, true_and, and_true, true_implies, false_implies, implies_true, not_true_eq_false, not_false_eq_true, true_or, or_true, false_or, or_false, and_false, false_and, eq_self, n01_0, n01_1, nm1_0, k0, f0, km]
  refine S_append hR m1 hC.1 hv hp (fun c => ?_) (fun c I1 g1 g2 => ?_)
  · rw [if_neg (by omega)] at h
    simp (disch := omega) only [nI_ad, nI_ml, nI_lti, nI_lei, nI_eqi, nI_nn, nI_0le, nI_eq0, nI_0lt, nI_le0, nI_clamp, nI_pd, nI_sb, zOf_some, zOp_some, zOp_none, kI_int, kL_long, kO_ref, kO_null, nlt_T, nlt_F, nle_T, nle_F, neq_F, vpT, azUp_at, if_true, if_false, true_and, and_true, true_implies, false_implies, implies_true, not_true_eq_false, not_false_eq_true, true_or, or_true, false_or, or_false, and_false, false_and, eq_self, n01_0, n01_1, nm1_0]
    exact h _ hW' (clF_I (fun _ _ => rfl) fun _ _ => rfl)
  · rw [if_pos c] at h
    simp (disch := omega) only [nI_ad, nI_ml, nI_lti, nI_lei, nI_eqi, nI_nn, nI_0le, nI_eq0, nI_0lt, nI_le0, nI_clamp, nI_pd, nI_sb, zOf_some, zOp_some, zOp_none, kI_int, kL_long, kO_ref, kO_null, nlt_T, nlt_F, nle_T, nle_F, neq_F, vpT, azUp_at, if_true, if_false, true_and, and_true, true_implies, false_implies, implies_true, not_true_eq_false, not_false_eq_true, true_or, or_true, false_or, or_false, and_false, false_and, eq_self, n01_0, n01_1, nm1_0, k0, f0, km]
    refine S_count hR m1 (g1.keep (azUp_nb (by omega)) (azUp_nb (by omega))) hp ?_
    have el : (mUp st.1 p (st.1 p ++ [t]) p).length = (st.1 p).length + 1 := by simp [mUp]
    rw [kI_int, el]
    have gg : ∀ b, b ≠ 0 → b ≠ 2 → b ≠ 3 → azUp I1 0 11 (nI 0) b = I b := fun b b0 b2 b3 => by rw [azUp_nb b0, g2 b b2 b3]
    refine h _ ⟨hT, hC.mark (fun b _ b0 b2 b3 => gg b b0 b2 b3) azUp_s (w := st.2.2.2.2.1) ?_ (g1.keep (azUp_nb (by omega)) (azUp_nb (by omega))), hX.keep fun b hb => gg b (by omega) (by omega) (by omega), hn, ⟨hv.up hp (by rw [List.length_append, List.length_cons, List.length_nil]; omega) fun t ht => ?_, hS.2⟩⟩ (clF_I (fun b hb => gg b (by omega) (by omega) (by omega)) fun _ _ => rfl)
    · show azUp I1 0 11 (nI 0) 0 10 = _
      rw [azUp_nk (by omega), g2 0 (by omega) (by omega)]; exact hC.2.2.2.2.1
    · rcases List.mem_append.mp ht with ht | ht
      · exact (hv.1 p).2 t ht
      · rw [List.mem_singleton] at ht; subst ht; assumption
theorem S_tnTake (hR : azClosed R) (hW : CW σ st) {x y : Int32} (h : ∀ σ', CW σ' (aTake st x y).2 → clF σ σ' → Q (some (.int (aTake st x y).1)) σ') : R (d + 2) mX8_take 0 [.ref 0, .int x, .int y] [] σ Q := by
  obtain ⟨⟨n, z, kd⟩, I, J, F⟩ := σ
  have hW' := hW
  obtain ⟨hT, hC, hX, hn, hS⟩ := hW
  have hT : TnOk kd F := hT
  have hC : cTn kd I F st := hC
  have hn : CN n F := hn
  obtain ⟨⟨k0, f0, f1, f2, f3, f4, f5, f6, f7, f8, f9⟩, ⟨m1, m2, m3⟩, ⟨t1, t2, t3⟩, p1, p2, p3, p4, p5⟩ := id hT
  have km : (kd 1).1 = 3 := by rw [m1.1]
  have hv := hS.1
  refine BX8_take_0 hR ?_
  simp (disch := omega) only [nI_ad, nI_ml, nI_lti, nI_lei, nI_eqi, nI_nn, nI_0le, nI_eq0, nI_0lt, nI_le0, nI_clamp, nI_pd, nI_sb, zOf_some, zOp_some, zOp_none, kI_int, kL_long, kO_ref, kO_null, nlt_T, nlt_F, nle_T, nle_F, neq_F, vpT, azUp_at, if_true, if_false, true_and, and_true, true_implies, false_implies, implies_true, not_true_eq_false, not_false_eq_true, true_or, or_true, false_or, or_false, and_false, false_and, eq_self, n01_0, n01_1, nm1_0, k0, f0, km]
  refine S_holds hR m1 hC.1 hv ?_
  unfold hold
  unfold aTake at h
  rcases ix_cases x (n := 10) (by decide) with ⟨e, c⟩ | ⟨p, hp, rfl, e⟩
  · rw [e] at h ⊢
    simp (disch := omega) only [nI_ad, nI_ml, nI_lti, nI_lei, nI_eqi, nI_nn, nI_0le, nI_eq0, nI_0lt, nI_le0, nI_clamp, nI_pd, nI_sb, zOf_some, zOp_some, zOp_none, kI_int, kL_long, kO_ref, kO_null, nlt_T, nlt_F, nle_T, nle_F, neq_F, vpT, azUp_at, if_true, if_false, true_and, and_true, true_implies, false_implies, implies_true, not_true_eq_false, not_false_eq_true, true_or, or_true, false_or, or_false, and_false, false_and, eq_self, n01_0, n01_1, nm1_0]
    exact h _ hW' (clF_I (fun _ _ => rfl) fun _ _ => rfl)
  rw [e] at h ⊢
  dsimp only at h ⊢
  have hl := (hv.1 p).1
  rcases ix_cases y (n := (st.1 p).length) (by omega) with ⟨e, c⟩ | ⟨i, hi, rfl, e⟩
  · rw [e] at h ⊢
    simp (disch := omega) only [nI_ad, nI_ml, nI_lti, nI_lei, nI_eqi, nI_nn, nI_0le, nI_eq0, nI_0lt, nI_le0, nI_clamp, nI_pd, nI_sb, zOf_some, zOp_some, zOp_none, kI_int, kL_long, kO_ref, kO_null, nlt_T, nlt_F, nle_T, nle_F, neq_F, vpT, azUp_at, if_true, if_false, true_and, and_true, true_implies, false_implies, implies_true, not_true_eq_false, not_false_eq_true, true_or, or_true, false_or, or_false, and_false, false_and, eq_self, n01_0, n01_1, nm1_0]
    exact h _ hW' (clF_I (fun _ _ => rfl) fun _ _ => rfl)
  rw [e] at h ⊢
  dsimp only at h ⊢
  simp (disch := omega) only [nI_ad, nI_ml, nI_lti, nI_lei, nI_eqi, nI_nn, nI_0le, nI_eq0, nI_0lt, nI_le0, nI_clamp, nI_pd, nI_sb, zOf_some, zOp_some, zOp_none, kI_int, kL_long, kO_ref, kO_null, nlt_T, nlt_F, nle_T, nle_F, neq_F, vpT, azUp_at, if_true, if_false, true_and, and_true, true_implies, false_implies, implies_true, not_true_eq_false, not_false_eq_true, true_or, or_true, false_or, or_false, and_false, false_and, eq_self, n01_0, n01_1, nm1_0, k0, f0, km]
  refine S_remove hR m1 (hC.1.keep (azUp_nb (by omega)) (azUp_nb (by omega))) hv hp hi fun I1 g1 g2 => ?_
  rw [kI_int]
  have gg : ∀ b, b ≠ 0 → b ≠ 2 → b ≠ 3 → I1 b = I b := fun b b0 b2 b3 => by rw [g2 b b2 b3, azUp_nb b0]
  refine h _ ⟨hT, hC.mark (fun b _ b0 b2 b3 => gg b b0 b2 b3) ?_ (w := st.2.2.2.2.1) ?_ g1, hX.keep fun b hb => gg b (by omega) (by omega) (by omega), hn, ⟨hv.up hp (by rw [List.length_eraseIdx]; split <;> omega) fun t ht => (hv.1 p).2 t (List.mem_of_mem_eraseIdx ht), hS.2⟩⟩ (clF_I (fun b hb => gg b (by omega) (by omega) (by omega)) fun _ _ => rfl)
  · rw [g2 0 (by omega) (by omega), azUp_s]
  · show I1 0 10 = _
    rw [g2 0 (by omega) (by omega), azUp_nk (by omega)]; exact hC.2.2.2.2.1
theorem S_tnToken (hR : azClosed R) (hW : CW σ st) {x y : Int32} (h : Q (some (.int (aToken st x y))) σ) : R (d + 2) mX8_token 0 [.ref 0, .int x, .int y] [] σ Q := by
  obtain ⟨⟨n, z, kd⟩, I, J, F⟩ := σ
  obtain ⟨hT, hC, hX, hn, hS⟩ := hW
  have hT : TnOk kd F := hT
  have hC : cTn kd I F st := hC
  have hn : CN n F := hn
  obtain ⟨⟨k0, f0, f1, f2, f3, f4, f5, f6, f7, f8, f9⟩, ⟨m1, m2, m3⟩, ⟨t1, t2, t3⟩, p1, p2, p3, p4, p5⟩ := id hT
  have km : (kd 1).1 = 3 := by rw [m1.1]
  have hv := hS.1
  refine BX8_token_0 hR (S_isPlace hR ?_)
  unfold isP
  unfold aToken at h
  rcases ix_cases x (n := 10) (by decide) with ⟨e, c⟩ | ⟨p, hp, rfl, e⟩
  · rw [e] at h ⊢
    simp (disch := omega) only [nI_ad, nI_ml, nI_lti, nI_lei, nI_eqi, nI_nn, nI_0le, nI_eq0, nI_0lt, nI_le0, nI_clamp, nI_pd, nI_sb, zOf_some, zOp_some, zOp_none, kI_int, kL_long, kO_ref, kO_null, nlt_T, nlt_F, nle_T, nle_F, neq_F, vpT, azUp_at, if_true, if_false, true_and, and_true, true_implies, false_implies, implies_true, not_true_eq_false, not_false_eq_true, true_or, or_true, false_or, or_false, and_false, false_and, eq_self, n01_0, n01_1, nm1_0]
    exact h
  rw [e] at h ⊢
  dsimp only at h
  by_cases c : y = -(nI 1)
  · rw [if_pos c] at h
    simp (disch := omega) only [nI_ad, nI_ml, nI_lti, nI_lei, nI_eqi, nI_nn, nI_0le, nI_eq0, nI_0lt, nI_le0, nI_clamp, nI_pd, nI_sb, zOf_some, zOp_some, zOp_none, kI_int, kL_long, kO_ref, kO_null, nlt_T, nlt_F, nle_T, nle_F, neq_F, vpT, azUp_at, if_true, if_false, true_and, and_true, true_implies, false_implies, implies_true, not_true_eq_false, not_false_eq_true, true_or, or_true, false_or, or_false, and_false, false_and, eq_self, n01_0, n01_1, nm1_0, c, k0, f0, km]
    refine S_count hR m1 hC.1 hp ?_
    exact h
  · rw [if_neg c] at h
    simp (disch := omega) only [nI_ad, nI_ml, nI_lti, nI_lei, nI_eqi, nI_nn, nI_0le, nI_eq0, nI_0lt, nI_le0, nI_clamp, nI_pd, nI_sb, zOf_some, zOp_some, zOp_none, kI_int, kL_long, kO_ref, kO_null, nlt_T, nlt_F, nle_T, nle_F, neq_F, vpT, azUp_at, if_true, if_false, true_and, and_true, true_implies, false_implies, implies_true, not_true_eq_false, not_false_eq_true, true_or, or_true, false_or, or_false, and_false, false_and, eq_self, n01_0, n01_1, nm1_0, c, k0, f0, km]
    refine S_at hR m1 hC.1 hv ?_
    exact h
end S8
