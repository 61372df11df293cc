/-! THE CLASS: feed, clear, rule, drop. -/
theorem neg_lt {x : Int32} {k : Nat} (h : x < 0) (hk : k < 2 ^ 31) : (x < nI k) = True := by
  refine eq_true ?_
  rw [Int32.lt_iff_toInt_lt] at h ⊢
  rw [nI_toInt hk]
  have e : (0 : Int32).toInt = 0 := rfl
  rw [e] at h
  omega
theorem neg_le {x : Int32} {k : Nat} (h : x < 0) (hk : k < 2 ^ 31) : (x ≤ nI k) = True := by
  refine eq_true ?_
  rw [Int32.le_iff_toInt_le]
  rw [Int32.lt_iff_toInt_lt] at h
  rw [nI_toInt hk]
  have e : (0 : Int32).toInt = 0 := rfl
  rw [e] at h
  omega
theorem big_lt {x : Int32} {k n : Nat} (h : nI n ≤ x) (hk : k ≤ n) (hn : n < 2 ^ 31) : (x < nI k) = False := by
  refine eq_false fun c => ?_
  rw [Int32.lt_iff_toInt_lt, nI_toInt (by omega)] at c
  rw [Int32.le_iff_toInt_le, nI_toInt hn] at h
  omega
theorem big_le {x : Int32} {k n : Nat} (h : nI n ≤ x) (hk : k < n) (hn : n < 2 ^ 31) : (x ≤ nI k) = False := by
  refine eq_false fun c => ?_
  rw [Int32.le_iff_toInt_le, nI_toInt (by omega)] at c
  rw [Int32.le_iff_toInt_le, nI_toInt hn] at h
  omega
theorem MkOk.keep {kd kd' : azK} {F F' : azR} {a : Nat} (h : MkOk kd F a) (hk : ∀ b, a ≤ b → b ≤ a + 2 → kd' b = kd b) (hf : F' a = F a) : MkOk kd' F' a := by
  obtain ⟨h1, h2, h3, h4, h5⟩ := h
  exact ⟨by rw [hk a (by omega) (by omega)]; exact h1, by rw [hk _ (by omega) (by omega)]; exact h2, by rw [hk _ (by omega) (by omega)]; exact h3, by rw [hf]; exact h4, by rw [hf]; exact h5⟩
theorem RuOk.keep {kd kd' : azK} {F F' : azR} {r : Nat} (h : RuOk kd F r) (hk : ∀ b, r ≤ b → b ≤ r + 8 → kd' b = kd b) (hf : F' r = F r) : RuOk kd' F' r := by
  unfold RuOk at h ⊢
  rw [hk r (by omega) (by omega), hk (r + 1) (by omega) (by omega), hk (r + 2) (by omega) (by omega), hk (r + 3) (by omega) (by omega), hk (r + 4) (by omega) (by omega), hk (r + 5) (by omega) (by omega), hk (r + 6) (by omega) (by omega), hk (r + 7) (by omega) (by omega), hk (r + 8) (by omega) (by omega), hf]
  exact h
theorem WkOk.keep {kd kd' : azK} {F F' : azR} {a : Nat} (h : WkOk kd F a) (hk : ∀ b, a ≤ b → b ≤ a + 189 → kd' b = kd b) (hf : ∀ b, a ≤ b → b ≤ a + 189 → F' b = F b) : WkOk kd' F' a := by
  obtain ⟨k0, k1, kf, kn, k2, k3, k4, k5, k6, f0, f1, f2, f3, f4, f5, f6⟩ := h
  have e := hf a (by omega) (by omega)
  exact ⟨by rw [hk a (by omega) (by omega)]; exact k0, by rw [hk _ (by omega) (by omega)]; exact k1, fun i hi => ⟨by rw [hf _ (by omega) (by omega)]; exact (kf i hi).1, (kf i hi).2.keep (fun b h1 h2 => hk b (by omega) (by omega)) (hf _ (by omega) (by omega))⟩, kn.keep (fun b h1 h2 => hk b (by omega) (by omega)) (hf _ (by omega) (by omega)), by rw [hk _ (by omega) (by omega)]; exact k2, by rw [hk _ (by omega) (by omega)]; exact k3, by rw [hk _ (by omega) (by omega)]; exact k4, by rw [hk _ (by omega) (by omega)]; exact k5, by rw [hk _ (by omega) (by omega)]; exact k6, by rw [e]; exact f0, by rw [e]; exact f1, by rw [e]; exact f2, by rw [e]; exact f3, by rw [e]; exact f4, by rw [e]; exact f5, by rw [e]; exact f6⟩
/-- the class's objects stay as they are if cells come behind them -/
theorem TnOk.keep {kd kd' : azK} {F F' : azR} (h : TnOk kd F) (hk : ∀ b, b < 228 → kd' b = kd b) (hf : ∀ b, b < 228 → b ≠ 10 → b ≠ 11 → b ≠ 227 → F' b = F b) (hf11 : F' 11 0 = F 11 0) : TnOk kd' F' := by
  obtain ⟨h0, ⟨m1, m2, m3⟩, ⟨t1, t2, t3⟩, p1, p2, p3, p4, p5⟩ := h
  refine ⟨?_, ⟨m1.keep (fun b h1 h2 => hk b (by omega)) (hf 1 (by omega) (by omega) (by omega) (by omega)), m2.keep (fun b h1 h2 => hk b (by omega)) (hf 4 (by omega) (by omega) (by omega) (by omega)), m3.keep (fun b h1 h2 => hk b (by omega)) (hf 7 (by omega) (by omega) (by omega) (by omega))⟩, ⟨by rw [hk 11 (by omega)]; exact t1, by rw [hk 12 (by omega)]; exact t2, by rw [hf11]; exact t3⟩, ?_, ?_, p3.keep (fun b h1 h2 => hk b (by omega)) (fun b h1 h2 => hf b (by omega) (by omega) (by omega) (by omega)), ?_, ?_⟩
  · rw [hk 0 (by omega), hf 0 (by omega) (by omega) (by omega) (by omega)]; exact h0
  · unfold PpOk at p1 ⊢
    rw [hk 22 (by omega), hk (22 + 1) (by omega), hk (22 + 2) (by omega), hk (22 + 3) (by omega), hf 22 (by omega) (by omega) (by omega) (by omega)]; exact p1
  · unfold FiOk at p2 ⊢
    rw [hk 26 (by omega), hk (26 + 1) (by omega), hk (26 + 2) (by omega), hk (26 + 3) (by omega), hf 26 (by omega) (by omega) (by omega) (by omega)]; exact p2
  · unfold BlOk at p4 ⊢
    rw [hk 220 (by omega), hk (220 + 1) (by omega), hk (220 + 2) (by omega), hf 220 (by omega) (by omega) (by omega) (by omega)]; exact p4
  · obtain ⟨q1, q2, q3, q4, q5⟩ := p5
    exact ⟨by rw [hk 223 (by omega)]; exact q1, q2.keep (fun b h1 h2 => hk b (by omega)) (hf (223 + 1) (by omega) (by omega) (by omega) (by omega)), by rw [hk _ (by omega)]; exact q3, by rw [hf 223 (by omega) (by omega) (by omega) (by omega)]; exact q4, by rw [hf 223 (by omega) (by omega) (by omega) (by omega)]; exact q5⟩
/-- rules stay if cells come behind them -/
theorem RsOk.far {kd kd' : azK} {I I' : azI} {F F' : azR} {lo g n : Nat} {rs : Nat → Option (List Cls)} (h : RsOk kd I F lo g rs) (hb : ∀ p r, F g p = some r → r + 9 ≤ n) (hk : ∀ b, lo < b → b < n → kd' b = kd b ∧ I' b = I b ∧ F' b = F b) (hg : kd' g = kd g) (hf : F' g = F g) : RsOk kd' I' F' lo g rs := ⟨by rw [hg]; exact h.1, fun p hp => ⟨fun e => by rw [hf]; exact (h.2 p hp).1 e, fun cs hcs => by
  obtain ⟨r, h1, h2, h3, h4, h5⟩ := (h.2 p hp).2 cs hcs
  have := hb p r h1
  exact ⟨r, by rw [hf]; exact h1, h2, h3.keep (fun b b1 b2 => (hk b (by omega) (by omega)).1) (hk r (by omega) (by omega)).2.2, h4.keep fun b b1 b2 => (hk b (by omega) (by omega)).2.1, h5⟩⟩⟩
/-- one rule is another one, or none -/
def rUp {α : Type} (f : Nat → Option α) (p : Nat) (x : Option α) : Nat → Option α := fun q => if q = p then x else f q
theorem rsOf_up (ru : Ru) (p : Nat) (x : Option (List Nat × List Cls)) : rsOf (rUp ru p x) = rUp (rsOf ru) p (x.map Prod.snd) := by
  funext q
  unfold rsOf rUp
  split <;> rfl
def aFeed (st : St) (x : Int32) : Int32 × St := match ix x 128 with
  | none => (-(nI 2), st)
  | some c => if c = 0 then (-(nI 2), st) else if st.2.2.1.length < 80 then (nI (st.2.2.1.length + 1), (st.1, st.2.1, st.2.2.1 ++ [c], st.2.2.2)) else (-(nI 4), st)
def aClear (st : St) : Int32 × St := (nI st.2.2.1.length, (st.1, st.2.1, [], st.2.2.2))
def aRule (st : St) (x : Int32) : Int32 × St := match ix x 10 with
  | none => (-(nI 1), st)
  | some p => match pRule st.2.2.1 with
    | .error e => (-(nI 100) - nI e, (st.1, st.2.1, [], st.2.2.2))
    | .ok cs => (nI cs.length, (st.1, rUp st.2.1 p (some (st.2.2.1, cs)), [], st.2.2.2))
def aDrop (st : St) (x : Int32) : Int32 × St := match ix x 10 with
  | none => (-(nI 1), st)
  | some p => match st.2.1 p with
    | none => (-(nI 3), st)
    | some _ => (nI 1, (st.1, rUp st.2.1 p none, st.2.2))
theorem pRule_nil : pRule [] = .error 0 := rfl
section S8
variable {R : azP} {d : Nat} {σ : azS} {Q : azQ} {st : St}
theorem CN.I {n : Nat} {F : azR} (h : CN n F) : 256 ≤ n := h.1
theorem cTn.tape {kd : azK} {I I' : azI} {F : azR} (h : cTn kd I F st) (hf : ∀ b, b ≠ 11 → b ≠ 12 → I' b = I b) {t : List Nat} (h1 : I' 11 1 = nI t.length) (h2 : lst (I' 12) (t.map nI)) : cTn kd I' F (st.1, st.2.1, t, st.2.2.2) := by
  obtain ⟨a1, a2, a3, a4, a5, a6, a7⟩ := h
  refine ⟨a1.keep (hf 2 (by omega) (by omega)) (hf 3 (by omega) (by omega)), a2.keep fun b hb => hf b (by omega) (by omega), ⟨h1, h2⟩, a4.keep (hf 22 (by omega) (by omega)) (hf 23 (by omega) (by omega)), by rw [hf 0 (by omega) (by omega)]; exact a5, ?_, a7.keep fun b hb => hf b (by omega) (by omega)⟩
  rw [hf 0 (by omega) (by omega)]
  rcases a6 with a6 | a6
  · exact Or.inl a6
  · refine Or.inr ⟨a6.1, ?_⟩
    have e : ∀ b, 30 ≤ b → I' b = I b := fun b hb => hf b (by omega) (by omega)
    obtain ⟨⟨q1, q2, q3, q4⟩, q5⟩ := a6.2
    exact ⟨⟨by rw [e _ (by omega)]; exact q1, fun i hi => (q2 i hi).keep (e _ (by omega)) (e _ (by omega)), fun i i1 i2 => by rw [e _ (by omega), e _ (by omega)]; exact q3 i i1 i2, fun k hk => by rw [e _ (by omega)]; exact q4 k hk⟩, fun i hi => by rw [e _ (by omega)]; exact q5 i hi⟩
theorem S_tnFeed (hR : azClosed R) (hW : CW σ st) {x : Int32} (h : ∀ σ', CW σ' (aFeed st x).2 → clF σ σ' → Q (some (.int (aFeed st x).1)) σ') : R (d + 2) mX8_feed 0 [.ref 0, .int x] [] σ Q := by
  obtain ⟨⟨n, z, kd⟩, I, J, F⟩ := σ
  have hW' := hW
  obtain ⟨hT, hC, hX, hn, hS⟩ := hW
  have hT : TnOk kd F := hT
  have hC : cTn kd I F st := hC
  have hn : CN n F := hn
  obtain ⟨⟨k0, f0, f1, f2, f3, f4, f5, f6, f7, f8, f9⟩, ⟨m1, m2, m3⟩, ⟨t1, t2, t3⟩, p1, p2, p3, p4, p5⟩ := id hT
  refine BX8_feed_0 hR ?_
  unfold aFeed at h
  rcases ix_cases x (n := 128) (by decide) with ⟨e, c | ⟨c0, c⟩⟩ | ⟨k, hk, rfl, e⟩
  · rw [e] at h
    have c2 := neg_lt (k := 1) c (by decide)
    simp (disch := omega) only [nI_ad, nI_ml, nI_lti, nI_lei, nI_eqi, nI_nn, nI_0le, nI_eq0, nI_0lt, nI_le0, nI_clamp, nI_pd, nI_sb, zOf_some, zOp_some, zOp_none, kI_int, kL_long, kO_ref, kO_null, nlt_T, nlt_F, nle_T, nle_F, neq_F, vpT, azUp_at, if_true, if_false, true_and, and_true, true_implies, false_implies, implies_true, not_true_eq_false, not_false_eq_true, true_or, or_true, false_or, or_false, and_false, false_and, eq_self, n01_0, n01_1, nm1_0, c2]
    exact h _ hW' (clF_I (fun _ _ => rfl) fun _ _ => rfl)
  · rw [e] at h
    have c2 := big_lt (k := 1) c (by decide) (by decide)
    have c3 := big_le (k := 127) c (by decide) (by decide)
    simp (disch := omega) only [nI_ad, nI_ml, nI_lti, nI_lei, nI_eqi, nI_nn, nI_0le, nI_eq0, nI_0lt, nI_le0, nI_clamp, nI_pd, nI_sb, zOf_some, zOp_some, zOp_none, kI_int, kL_long, kO_ref, kO_null, nlt_T, nlt_F, nle_T, nle_F, neq_F, vpT, azUp_at, if_true, if_false, true_and, and_true, true_implies, false_implies, implies_true, not_true_eq_false, not_false_eq_true, true_or, or_true, false_or, or_false, and_false, false_and, eq_self, n01_0, n01_1, nm1_0, c2, c3]
    exact h _ hW' (clF_I (fun _ _ => rfl) fun _ _ => rfl)
  rw [e] at h
  dsimp only at h
  by_cases ck : k = 0
  · rw [if_pos ck] at h
    simp (disch := omega) only [nI_ad, nI_ml, nI_lti, nI_lei, nI_eqi, nI_nn, nI_0le, nI_eq0, nI_0lt, nI_le0, nI_clamp, nI_pd, nI_sb, zOf_some, zOp_some, zOp_none, kI_int, kL_long, kO_ref, kO_null, nlt_T, nlt_F, nle_T, nle_F, neq_F, vpT, azUp_at, if_true, if_false, true_and, and_true, true_implies, false_implies, implies_true, not_true_eq_false, not_false_eq_true, true_or, or_true, false_or, or_false, and_false, false_and, eq_self, n01_0, n01_1, nm1_0, ck]
    exact h _ hW' (clF_I (fun _ _ => rfl) fun _ _ => rfl)
  rw [if_neg ck] at h
  have ht := hS.2.2.1
  simp (disch := omega) only [nI_ad, nI_ml, nI_lti, nI_lei, nI_eqi, nI_nn, nI_0le, nI_eq0, nI_0lt, nI_le0, nI_clamp, nI_pd, nI_sb, zOf_some, zOp_some, zOp_none, kI_int, kL_long, kO_ref, kO_null, nlt_T, nlt_F, nle_T, nle_F, neq_F, vpT, azUp_at, if_true, if_false, true_and, and_true, true_implies, false_implies, implies_true, not_true_eq_false, not_false_eq_true, true_or, or_true, false_or, or_false, and_false, false_and, eq_self, n01_0, n01_1, nm1_0, k0, f4, t1]
  refine S_tapeAppend hR t1 t2 t3 ht hC.2.2.1.1 hC.2.2.1.2 (fun c I1 g1 g2 g3 => ?_) (fun c => ?_)
  · rw [if_pos c] at h
    simp (disch := omega) only [nI_ad, nI_ml, nI_lti, nI_lei, nI_eqi, nI_nn, nI_0le, nI_eq0, nI_0lt, nI_le0, nI_clamp, nI_pd, nI_sb, zOf_some, zOp_some, zOp_none, kI_int, kL_long, kO_ref, kO_null, nlt_T, nlt_F, nle_T, nle_F, neq_F, vpT, azUp_at, if_true, if_false, true_and, and_true, true_implies, false_implies, implies_true, not_true_eq_false, not_false_eq_true, true_or, or_true, false_or, or_false, and_false, false_and, eq_self, n01_0, n01_1, nm1_0, k0, f4, t1, g1]
    refine h _ ⟨hT, hC.tape g3 (by rw [g1, List.length_append]; rfl) g2, hX.keep fun b hb => g3 b (by omega) (by omega), hn, ⟨hS.1, hS.2.1, ⟨by rw [List.length_append, List.length_cons, List.length_nil]; omega, fun y hy => ?_⟩, hS.2.2.2⟩⟩ (clF_I (fun b hb => g3 b (by omega) (by omega)) fun _ _ => rfl)
    rcases List.mem_append.mp hy with hy | hy
    · exact ht.2 y hy
    · rw [List.mem_singleton] at hy; subst hy; omega
  · rw [if_neg (by omega)] at h
    simp (disch := omega) only [nI_ad, nI_ml, nI_lti, nI_lei, nI_eqi, nI_nn, nI_0le, nI_eq0, nI_0lt, nI_le0, nI_clamp, nI_pd, nI_sb, zOf_some, zOp_some, zOp_none, kI_int, kL_long, kO_ref, kO_null, nlt_T, nlt_F, nle_T, nle_F, neq_F, vpT, azUp_at, if_true, if_false, true_and, and_true, true_implies, false_implies, implies_true, not_true_eq_false, not_false_eq_true, true_or, or_true, false_or, or_false, and_false, false_and, eq_self, n01_0, n01_1, nm1_0]
    exact h _ hW' (clF_I (fun _ _ => rfl) fun _ _ => rfl)
theorem S_tnClear (hR : azClosed R) (hW : CW σ st) (h : ∀ σ', CW σ' (aClear st).2 → clF σ σ' → Q (some (.int (aClear st).1)) σ') : R (d + 2) mX8_clear 0 [.ref 0, .retAddr 0] [] σ Q := by
  obtain ⟨⟨n, z, kd⟩, I, J, F⟩ := σ
  obtain ⟨hT, hC, hX, hn, hS⟩ := hW
  have hT : TnOk kd F := hT
  have hC : cTn kd I F st := hC
  obtain ⟨⟨k0, f0, f1, f2, f3, f4, f5, f6, f7, f8, f9⟩, ⟨m1, m2, m3⟩, ⟨t1, t2, t3⟩, p1, p2, p3, p4, p5⟩ := id hT
  refine BX8_clear_0 hR ?_
  simp (disch := omega) only [nI_ad, nI_ml, nI_lti, nI_lei, nI_eqi, nI_nn, nI_0le, nI_eq0, nI_0lt, nI_le0, nI_clamp, nI_pd, nI_sb, zOf_some, zOp_some, zOp_none, kI_int, kL_long, kO_ref, kO_null, nlt_T, nlt_F, nle_T, nle_F, neq_F, vpT, azUp_at, if_true, if_false, true_and, and_true, true_implies, false_implies, implies_true, not_true_eq_false, not_false_eq_true, true_or, or_true, false_or, or_false, and_false, false_and, eq_self, n01_0, n01_1, nm1_0, k0, f4, t1]
  refine S_tapeWipe hR t1 ⟨rfl, ?_⟩
  rw [hC.2.2.1.1]
  have gg : ∀ b, b ≠ 11 → azUp I 11 1 (nI 0) b = I b := fun b hb => azUp_nb hb
  refine h _ ⟨hT, hC.tape (fun b hb _ => gg b hb) azUp_s (fun i hi => absurd hi (Nat.not_lt_zero _)), hX.keep fun b hb => gg b (by omega), hn, ⟨hS.1, hS.2.1, ⟨Nat.zero_le _, fun y hy => absurd hy List.not_mem_nil⟩, hS.2.2.2⟩⟩ (clF_I (fun b hb => gg b (by omega)) fun _ _ => rfl)
end S8
