/-! SPECS: Marking, what changes it. -/
/-- one place of a marking is another list -/
def mUp (m : Nat → List Nat) (p : Nat) (l : List Nat) : Nat → List Nat := fun q => if q = p then l else m q
def mTot (m : Nat → List Nat) : Nat := ((List.range 10).map fun p => (m p).length).sum
/-- how many tokens stand in the places ahead of p -/
def mTo (m : Nat → List Nat) : Nat → Nat
  | 0 => 0
  | p + 1 => mTo m p + (m p).length
def mNil : Nat → List Nat := fun _ => []
def mEq (m m' : Nat → List Nat) : Bool := (List.range 10).all fun p => m p == m' p
theorem azUp_nb {I : azI} {a b k : Nat} {v : Int32} (h : b ≠ a) : azUp I a k v b = I b := by funext j; simp [azUp, h]
theorem azUp_nk {I : azI} {a k j : Nat} {v : Int32} (h : j ≠ k) : azUp I a k v a j = I a j := by simp [azUp, h]
theorem azUp_s {I : azI} {a k : Nat} {v : Int32} : azUp I a k v a k = v := by simp [azUp]
theorem mOK.up {m : Nat → List Nat} (h : mOK m) {p : Nat} {l : List Nat} (hp : p < 10) (hl : l.length ≤ 6) (ht : ∀ t ∈ l, t < 100) : mOK (mUp m p l) := by
  refine ⟨fun q => ?_, fun q hq => ?_⟩
  · unfold mUp
    by_cases e : q = p
    · rw [if_pos e]; exact ⟨hl, ht⟩
    · rw [if_neg e]; exact h.1 q
  · unfold mUp
    rw [if_neg (by omega)]
    exact h.2 q hq
theorem mOK.nil : mOK mNil := ⟨fun _ => ⟨Nat.zero_le _, fun t h => absurd h List.not_mem_nil⟩, fun _ _ => rfl⟩
theorem cM.keep {I I' : azI} {a : Nat} {m : Nat → List Nat} (h : cM I a m) (h1 : I' (a + 1) = I (a + 1)) (h2 : I' (a + 2) = I (a + 2)) : cM I' a m := fun p hp => by rw [h1, h2]; exact h p hp
section S3
variable {R : azP} {d n z : Nat} {kd : azK} {I : azI} {J : azJ} {F : azR} {Q : azQ} {a b : Nat} {m : Nat → List Nat}
theorem S_append (hR : azClosed R) (hM : MkOk kd F a) (hm : cM I a m) (hv : mOK m) {p t : Nat} (hp : p < 10) (h0 : 6 ≤ (m p).length → Q (some (.int (nI 0))) ((n, z, kd), I, J, F)) (h1 : (m p).length < 6 → ∀ I', cM I' a (mUp m p (m p ++ [t])) → (∀ b, b ≠ a + 1 → b ≠ a + 2 → I' b = I b) → Q (some (.int (nI 1))) ((n, z, kd), I', J, F)) : R (d + 1) mX3_append 0 [.ref a, .int (nI p), .int (nI t)] [] ((n, z, kd), I, J, F) Q := by
  obtain ⟨k0, k1, k2, f0, f1⟩ := hM
  refine BX3_append_0 hR (S_isPlace hR ?_)
  have hl := (hv.1 p).1
  unfold isP
  rw [ix_nI (by decide) hp]
  dsimp only
  simp (disch := omega) only [nI_ad, nI_ml, nI_lti, nI_lei, nI_eqi, nI_nn, nI_0le, nI_eq0, nI_0lt, nI_le0, nI_clamp, nI_pd, nI_sb, zOf_some, zOp_some, zOp_none, kI_int, kL_long, kO_ref, kO_null, nlt_T, nlt_F, nle_T, nle_F, neq_F, vpT, azUp_at, if_true, if_false, true_and, and_true, true_implies, false_implies, implies_true, not_true_eq_false, not_false_eq_true, true_or, or_true, false_or, or_false, and_false, false_and, eq_self, n01_0, n01_1, nm1_0, k0, k1, k2, f0, f1, (hm p hp).1]
  by_cases hc : (m p).length < 6
  · simp (disch := omega) only [nI_ad, nI_ml, nI_lti, nI_lei, nI_eqi, nI_nn, nI_0le, nI_eq0, nI_0lt, nI_le0, nI_clamp, nI_pd, nI_sb, zOf_some, zOp_some, zOp_none, kI_int, kL_long, kO_ref, kO_null, nlt_T, nlt_F, nle_T, nle_F, neq_F, vpT, azUp_at, if_true, if_false, true_and, and_true, true_implies, false_implies, implies_true, not_true_eq_false, not_false_eq_true, true_or, or_true, false_or, or_false, and_false, false_and, eq_self, n01_0, n01_1, nm1_0, hc]
    refine h1 hc _ (fun q hq => ⟨?_, fun j hj => ?_⟩) (fun b hb1 hb2 => ?_)
    · by_cases eq : q = p
      · subst eq
        simp [mUp, azUp, nI_ad, (hm q hq).1]
      · rw [azUp_nk eq, azUp_nb (by omega), (hm q hq).1]
        simp [mUp, eq]
    · rw [azUp_nb (by omega)]
      by_cases eq : q = p
      · subst eq
        simp only [mUp, if_true, List.length_append, List.length_cons, List.length_nil] at hj ⊢
        by_cases ej : j = (m q).length
        · subst ej
          rw [azUp_s]
          simp
        · rw [azUp_nk (by omega), (hm q hq).2 j (by omega)]
          simp only [List.getD_eq_getElem?_getD]
          rw [List.getElem?_append_left (by omega)]
      · simp only [mUp, if_neg eq] at hj ⊢
        have := (hv.1 q).1
        rw [azUp_nk (by omega)]
        exact (hm q hq).2 j hj
    · rw [azUp_nb hb1, azUp_nb hb2]
  · simp (disch := omega) only [nI_ad, nI_ml, nI_lti, nI_lei, nI_eqi, nI_nn, nI_0le, nI_eq0, nI_0lt, nI_le0, nI_clamp, nI_pd, nI_sb, zOf_some, zOp_some, zOp_none, kI_int, kL_long, kO_ref, kO_null, nlt_T, nlt_F, nle_T, nle_F, neq_F, vpT, azUp_at, if_true, if_false, true_and, and_true, true_implies, false_implies, implies_true, not_true_eq_false, not_false_eq_true, true_or, or_true, false_or, or_false, and_false, false_and, eq_self, n01_0, n01_1, nm1_0]
    exact h0 (by omega)
theorem L_wipe (hR : azClosed R) (hM : MkOk kd F a) {I0 : azI} (hQ : ∀ I', (∀ p, p < 10 → I' (a + 1) p = nI 0) → (∀ b, b ≠ a + 1 → I' b = I0 b) → Q none ((n, z, kd), I', J, F)) : ∀ (r k : Nat) (I : azI), r + k = 10 → (∀ p, p < k → I (a + 1) p = nI 0) → (∀ b, b ≠ a + 1 → I b = I0 b) → R d mX3_wipe 2 [.ref a, .int (nI k)] [] ((n, z, kd), I, J, F) Q := by
  obtain ⟨k0, k1, k2, f0, f1⟩ := hM
  intro r
  induction r with
  | zero =>
    intro k I hk h1 h2
    obtain rfl : k = 10 := by omega
    refine BX3_wipe_2 hR ?_
    simp (disch := omega) only [nI_ad, nI_ml, nI_lti, nI_lei, nI_eqi, nI_nn, nI_0le, nI_eq0, nI_0lt, nI_le0, nI_clamp, nI_pd, nI_sb, zOf_some, zOp_some, zOp_none, kI_int, kL_long, kO_ref, kO_null, nlt_T, nlt_F, nle_T, nle_F, neq_F, vpT, azUp_at, if_true, if_false, true_and, and_true, true_implies, false_implies, implies_true, not_true_eq_false, not_false_eq_true, true_or, or_true, false_or, or_false, and_false, false_and, eq_self, n01_0, n01_1, nm1_0]
    exact hQ I h1 h2
  | succ r ih =>
    intro k I hk h1 h2
    refine BX3_wipe_2 hR ?_
    simp (disch := omega) only [nI_ad, nI_ml, nI_lti, nI_lei, nI_eqi, nI_nn, nI_0le, nI_eq0, nI_0lt, nI_le0, nI_clamp, nI_pd, nI_sb, zOf_some, zOp_some, zOp_none, kI_int, kL_long, kO_ref, kO_null, nlt_T, nlt_F, nle_T, nle_F, neq_F, vpT, azUp_at, if_true, if_false, true_and, and_true, true_implies, false_implies, implies_true, not_true_eq_false, not_false_eq_true, true_or, or_true, false_or, or_false, and_false, false_and, eq_self, n01_0, n01_1, nm1_0, k0, f0, k1]
    refine ih (k + 1) _ (by omega) (fun p hp => ?_) (fun b hb => ?_)
    · by_cases e : p = k
      · subst e; exact azUp_s
      · rw [azUp_nk e]; exact h1 p (by omega)
    · rw [azUp_nb hb]; exact h2 b hb
theorem S_wipe (hR : azClosed R) (hM : MkOk kd F a) (h : ∀ I', cM I' a mNil → (∀ b, b ≠ a + 1 → I' b = I b) → Q none ((n, z, kd), I', J, F)) : R d mX3_wipe 0 [.ref a, .retAddr 0] [] ((n, z, kd), I, J, F) Q := by
  refine BX3_wipe_0 hR (L_wipe hR hM (I0 := I) (fun I' h1 h2 => h I' (fun p hp => ⟨h1 p hp, fun j hj => absurd hj (Nat.not_lt_zero j)⟩) h2) 10 0 I rfl (fun p hp => absurd hp (Nat.not_lt_zero p)) (fun _ _ => rfl))
theorem L_copy1 (hR : azClosed R) (hM : MkOk kd F a) (hN : MkOk kd F b) (hab : a + 1 ≠ b + 1) {I0 : azI} (hQ : ∀ I', (∀ p, p < 10 → I' (a + 1) p = I0 (b + 1) p) → (∀ c, c ≠ a + 1 → I' c = I0 c) → R d mX3_copy 28 [.ref a, .ref b, .int (nI 0)] [] ((n, z, kd), I', J, F) Q) : ∀ (r k : Nat) (I : azI), r + k = 10 → (∀ p, p < k → I (a + 1) p = I0 (b + 1) p) → (∀ c, c ≠ a + 1 → I c = I0 c) → R d mX3_copy 2 [.ref a, .ref b, .int (nI k)] [] ((n, z, kd), I, J, F) Q := by
  obtain ⟨k0, k1, k2, f0, f1⟩ := hM
  obtain ⟨l0, l1, l2, g0, g1⟩ := hN
  intro r
  induction r with
  | zero =>
    intro k I hk h1 h2
    obtain rfl : k = 10 := by omega
    refine BX3_copy_2 hR ?_
    simp (disch := omega) only [nI_ad, nI_ml, nI_lti, nI_lei, nI_eqi, nI_nn, nI_0le, nI_eq0, nI_0lt, nI_le0, nI_clamp, nI_pd, nI_sb, zOf_some, zOp_some, zOp_none, kI_int, kL_long, kO_ref, kO_null, nlt_T, nlt_F, nle_T, nle_F, neq_F, vpT, azUp_at, if_true, if_false, true_and, and_true, true_implies, false_implies, implies_true, not_true_eq_false, not_false_eq_true, true_or, or_true, false_or, or_false, and_false, false_and, eq_self, n01_0, n01_1, nm1_0]
    exact hQ I h1 h2
  | succ r ih =>
    intro k I hk h1 h2
    refine BX3_copy_2 hR ?_
    simp (disch := omega) only [nI_ad, nI_ml, nI_lti, nI_lei, nI_eqi, nI_nn, nI_0le, nI_eq0, nI_0lt, nI_le0, nI_clamp, nI_pd, nI_sb, zOf_some, zOp_some, zOp_none, kI_int, kL_long, kO_ref, kO_null, nlt_T, nlt_F, nle_T, nle_F, neq_F, vpT, azUp_at, if_true, if_false, true_and, and_true, true_implies, false_implies, implies_true, not_true_eq_false, not_false_eq_true, true_or, or_true, false_or, or_false, and_false, false_and, eq_self, n01_0, n01_1, nm1_0, k0, f0, k1, l0, g0, l1]
    refine ih (k + 1) _ (by omega) (fun p hp => ?_) (fun c hc => ?_)
    · by_cases e : p = k
      · subst e
        rw [azUp_s, h2 _ (Ne.symm hab)]
      · rw [azUp_nk e]; exact h1 p (by omega)
    · rw [azUp_nb hc]; exact h2 c hc
theorem L_copy2 (hR : azClosed R) (hM : MkOk kd F a) (hN : MkOk kd F b) (hab : a + 2 ≠ b + 2) {I0 : azI} (hQ : ∀ I', (∀ p, p < 60 → I' (a + 2) p = I0 (b + 2) p) → (∀ c, c ≠ a + 2 → I' c = I0 c) → Q none ((n, z, kd), I', J, F)) : ∀ (r k : Nat) (I : azI), r + k = 60 → (∀ p, p < k → I (a + 2) p = I0 (b + 2) p) → (∀ c, c ≠ a + 2 → I c = I0 c) → R d mX3_copy 28 [.ref a, .ref b, .int (nI k)] [] ((n, z, kd), I, J, F) Q := by
  obtain ⟨k0, k1, k2, f0, f1⟩ := hM
  obtain ⟨l0, l1, l2, g0, g1⟩ := hN
  intro r
  induction r with
  | zero =>
    intro k I hk h1 h2
    obtain rfl : k = 60 := by omega
    refine BX3_copy_28 hR ?_
    simp (disch := omega) only [nI_ad, nI_ml, nI_lti, nI_lei, nI_eqi, nI_nn, nI_0le, nI_eq0, nI_0lt, nI_le0, nI_clamp, nI_pd, nI_sb, zOf_some, zOp_some, zOp_none, kI_int, kL_long, kO_ref, kO_null, nlt_T, nlt_F, nle_T, nle_F, neq_F, vpT, azUp_at, if_true, if_false, true_and, and_true, true_implies, false_implies, implies_true, not_true_eq_false, not_false_eq_true, true_or, or_true, false_or, or_false, and_false, false_and, eq_self, n01_0, n01_1, nm1_0]
    exact hQ I h1 h2
  | succ r ih =>
    intro k I hk h1 h2
    refine BX3_copy_28 hR ?_
    simp (disch := omega) only [nI_ad, nI_ml, nI_lti, nI_lei, nI_eqi, nI_nn, nI_0le, nI_eq0, nI_0lt, nI_le0, nI_clamp, nI_pd, nI_sb, zOf_some, zOp_some, zOp_none, kI_int, kL_long, kO_ref, kO_null, nlt_T, nlt_F, nle_T, nle_F, neq_F, vpT, azUp_at, if_true, if_false, true_and, and_true, true_implies, false_implies, implies_true, not_true_eq_false, not_false_eq_true, true_or, or_true, false_or, or_false, and_false, false_and, eq_self, n01_0, n01_1, nm1_0, k0, f1, k2, l0, g1, l2]
    refine ih (k + 1) _ (by omega) (fun p hp => ?_) (fun c hc => ?_)
    · by_cases e : p = k
      · subst e
        rw [azUp_s, h2 _ (Ne.symm hab)]
      · rw [azUp_nk e]; exact h1 p (by omega)
    · rw [azUp_nb hc]; exact h2 c hc
/-- a becomes as b is; they may not overlap -/
theorem S_copy (hR : azClosed R) (hM : MkOk kd F a) (hN : MkOk kd F b) (hab : a + 2 < b ∨ b + 2 < a) (hm : cM I b m) (hv : mOK m) (h : ∀ I', cM I' a m → (∀ c, c ≠ a + 1 → c ≠ a + 2 → I' c = I c) → Q none ((n, z, kd), I', J, F)) : R d mX3_copy 0 [.ref a, .ref b, .retAddr 0] [] ((n, z, kd), I, J, F) Q := by
  refine BX3_copy_0 hR (L_copy1 hR hM hN (by omega) (I0 := I) (fun I1 h1 h2 => ?_) 10 0 I rfl (fun p hp => absurd hp (Nat.not_lt_zero p)) (fun _ _ => rfl))
  refine L_copy2 hR hM hN (by omega) (I0 := I1) (fun I' h3 h4 => ?_) 60 0 I1 rfl (fun p hp => absurd hp (Nat.not_lt_zero p)) (fun _ _ => rfl)
  refine h I' (fun p hp => ⟨?_, fun j hj => ?_⟩) (fun c hc1 hc2 => ?_)
  · rw [h4 _ (by omega), h1 p hp]; exact (hm p hp).1
  · have := (hv.1 p).1
    rw [h3 _ (by omega), h2 _ (by omega)]
    exact (hm p hp).2 j hj
  · rw [h4 c hc2, h2 c hc1]
theorem mTo_le {m : Nat → List Nat} (hv : mOK m) : ∀ p, mTo m p ≤ 6 * p
  | 0 => Nat.le_refl _
  | p + 1 => by
    have h1 := mTo_le hv p
    have h2 := (hv.1 p).1
    unfold mTo
    omega
theorem L_total (hR : azClosed R) (hM : MkOk kd F a) (hm : cM I a m) (h : Q (some (.int (nI (mTo m 10)))) ((n, z, kd), I, J, F)) : ∀ (r k : Nat), r + k = 10 → R d mX3_total 4 [.ref a, .int (nI (mTo m k)), .int (nI k)] [] ((n, z, kd), I, J, F) Q := by
  obtain ⟨k0, k1, k2, f0, f1⟩ := hM
  intro r
  induction r with
  | zero =>
    intro k hk
    obtain rfl : k = 10 := by omega
    refine BX3_total_4 hR ?_
    simp (disch := omega) only [nI_ad, nI_ml, nI_lti, nI_lei, nI_eqi, nI_nn, nI_0le, nI_eq0, nI_0lt, nI_le0, nI_clamp, nI_pd, nI_sb, zOf_some, zOp_some, zOp_none, kI_int, kL_long, kO_ref, kO_null, nlt_T, nlt_F, nle_T, nle_F, neq_F, vpT, azUp_at, if_true, if_false, true_and, and_true, true_implies, false_implies, implies_true, not_true_eq_false, not_false_eq_true, true_or, or_true, false_or, or_false, and_false, false_and, eq_self, n01_0, n01_1, nm1_0]
    exact h
  | succ r ih =>
    intro k hk
    refine BX3_total_4 hR ?_
    simp (disch := omega) only [nI_ad, nI_ml, nI_lti, nI_lei, nI_eqi, nI_nn, nI_0le, nI_eq0, nI_0lt, nI_le0, nI_clamp, nI_pd, nI_sb, zOf_some, zOp_some, zOp_none, kI_int, kL_long, kO_ref, kO_null, nlt_T, nlt_F, nle_T, nle_F, neq_F, vpT, azUp_at, if_true, if_false, true_and, and_true, true_implies, false_implies, implies_true, not_true_eq_false, not_false_eq_true, true_or, or_true, false_or, or_false, and_false, false_and, eq_self, n01_0, n01_1, nm1_0, k0, f0, k1, (hm k (by omega)).1]
    exact ih (k + 1) (by omega)
theorem S_total (hR : azClosed R) (hM : MkOk kd F a) (hm : cM I a m) (h : Q (some (.int (nI (mTo m 10)))) ((n, z, kd), I, J, F)) : R d mX3_total 0 [.ref a, .retAddr 0, .retAddr 0] [] ((n, z, kd), I, J, F) Q :=
  BX3_total_0 hR (L_total hR hM hm h 10 0 rfl)
/-- the tokens behind the one that goes move up -/
theorem L_remove (hR : azClosed R) (hM : MkOk kd F a) {I0 : azI} {p c : Nat} {x2 x3 : Int32} (hp : p < 10) (hc : c < 6) (j : Nat) (hQ : ∀ I', I' (a + 1) = I0 (a + 1) → (∀ b, b ≠ a + 1 → b ≠ a + 2 → I' b = I0 b) → (∀ i, I' (a + 2) i = if p * 6 + j ≤ i ∧ i < p * 6 + c then I0 (a + 2) (i + 1) else I0 (a + 2) i) → Q (some (.int x3)) ((n, z, kd), I', J, F)) (h0 : I0 (a + 1) p = nI c) : ∀ (r k : Nat) (I : azI), r + k = c → j ≤ k → I (a + 1) = I0 (a + 1) → (∀ b, b ≠ a + 1 → b ≠ a + 2 → I b = I0 b) → (∀ i, I (a + 2) i = if p * 6 + j ≤ i ∧ i < p * 6 + k then I0 (a + 2) (i + 1) else I0 (a + 2) i) → R (d + 1) mX3_remove 36 [.ref a, .int (nI p), .int x2, .int x3, .int (nI k)] [] ((n, z, kd), I, J, F) Q := by
  obtain ⟨k0, k1, k2, f0, f1⟩ := hM
  intro r
  induction r with
  | zero =>
    intro k I hk hjk h1 h2 h3
    obtain rfl : k = c := by omega
    refine BX3_remove_36 hR ?_
    simp (disch := omega) only [nI_ad, nI_ml, nI_lti, nI_lei, nI_eqi, nI_nn, nI_0le, nI_eq0, nI_0lt, nI_le0, nI_clamp, nI_pd, nI_sb, zOf_some, zOp_some, zOp_none, kI_int, kL_long, kO_ref, kO_null, nlt_T, nlt_F, nle_T, nle_F, neq_F, vpT, azUp_at, if_true, if_false, true_and, and_true, true_implies, false_implies, implies_true, not_true_eq_false, not_false_eq_true, true_or, or_true, false_or, or_false, and_false, false_and, eq_self, n01_0, n01_1, nm1_0, k0, f0, k1, h1, h0]
    exact hQ I h1 h2 h3
  | succ r ih =>
    intro k I hk hjk h1 h2 h3
    refine BX3_remove_36 hR ?_
    simp (disch := omega) only [nI_ad, nI_ml, nI_lti, nI_lei, nI_eqi, nI_nn, nI_0le, nI_eq0, nI_0lt, nI_le0, nI_clamp, nI_pd, nI_sb, zOf_some, zOp_some, zOp_none, kI_int, kL_long, kO_ref, kO_null, nlt_T, nlt_F, nle_T, nle_F, neq_F, vpT, azUp_at, if_true, if_false, true_and, and_true, true_implies, false_implies, implies_true, not_true_eq_false, not_false_eq_true, true_or, or_true, false_or, or_false, and_false, false_and, eq_self, n01_0, n01_1, nm1_0, k0, f0, k1, h1, h0, f1, k2]
    refine ih (k + 1) _ (by omega) (by omega) (by rw [azUp_nb (by omega)]; exact h1) (fun b hb1 hb2 => by rw [azUp_nb hb2]; exact h2 b hb1 hb2) (fun i => ?_)
    by_cases e : i = p * 6 + k
    · subst e
      rw [azUp_s, h3, if_neg (by omega), if_pos (by omega)]
    · rw [azUp_nk e, h3 i]
      by_cases e2 : p * 6 + j ≤ i ∧ i < p * 6 + k
      · rw [if_pos e2, if_pos (by omega)]
      · rw [if_neg e2, if_neg (by omega)]
theorem S_remove (hR : azClosed R) (hM : MkOk kd F a) (hm : cM I a m) (hv : mOK m) {p j : Nat} (hp : p < 10) (hj : j < (m p).length) (h : ∀ I', cM I' a (mUp m p ((m p).eraseIdx j)) → (∀ b, b ≠ a + 1 → b ≠ a + 2 → I' b = I b) → Q (some (.int (nI ((m p).getD j 0)))) ((n, z, kd), I', J, F)) : R (d + 1) mX3_remove 0 [.ref a, .int (nI p), .int (nI j), .retAddr 0, .retAddr 0] [] ((n, z, kd), I, J, F) Q := by
  have hM' := hM
  obtain ⟨k0, k1, k2, f0, f1⟩ := hM
  have hl := (hv.1 p).1
  refine BX3_remove_0 hR ⟨by rw [k0], S_holds hR hM' hm hv ?_⟩
  unfold hold
  rw [ix_nI (by decide) hp]
  dsimp only
  rw [ix_nI (by omega) hj]
  dsimp only
  simp (disch := omega) only [nI_ad, nI_ml, nI_lti, nI_lei, nI_eqi, nI_nn, nI_0le, nI_eq0, nI_0lt, nI_le0, nI_clamp, nI_pd, nI_sb, zOf_some, zOp_some, zOp_none, kI_int, kL_long, kO_ref, kO_null, nlt_T, nlt_F, nle_T, nle_F, neq_F, vpT, azUp_at, if_true, if_false, true_and, and_true, true_implies, false_implies, implies_true, not_true_eq_false, not_false_eq_true, true_or, or_true, false_or, or_false, and_false, false_and, eq_self, n01_0, n01_1, nm1_0, k0, f0, k1, f1, k2, (hm p hp).1, (hm p hp).2 j hj]
  refine L_remove hR hM' (I0 := azUp I (a + 1) p (nI ((m p).length - 1))) (c := (m p).length - 1) hp (by omega) j (fun I' h1 h2 h3 => ?_) azUp_s ((m p).length - 1 - j) j _ (by omega) (Nat.le_refl _) rfl (fun _ _ _ => rfl) (fun i => by rw [if_neg (by omega)])
  refine h I' (fun q hq => ⟨?_, fun i hi => ?_⟩) (fun b hb1 hb2 => by rw [h2 b hb1 hb2, azUp_nb hb1])
  · rw [h1]
    unfold mUp
    by_cases e : q = p
    · subst e
      rw [azUp_s, if_pos rfl, List.length_eraseIdx, if_pos hj]
    · rw [azUp_nk e, if_neg e]
      exact (hm q hq).1
  · rw [h3]
    unfold mUp at hi ⊢
    have hq6 := (hv.1 q).1
    rw [azUp_nb (by omega)]
    by_cases e : q = p
    · subst e
      rw [if_pos rfl] at hi ⊢
      rw [List.length_eraseIdx, if_pos hj] at hi
      by_cases e2 : j ≤ i
      · rw [if_pos (by omega), show q * 6 + i + 1 = q * 6 + (i + 1) by omega, (hm q hq).2 (i + 1) (by omega)]
        simp only [List.getD_eq_getElem?_getD]
        rw [List.getElem?_eraseIdx_of_ge e2]
      · rw [if_neg (by omega), (hm q hq).2 i (by omega)]
        simp only [List.getD_eq_getElem?_getD]
        rw [List.getElem?_eraseIdx_of_lt (by omega)]
    · rw [if_neg e] at hi ⊢
      rw [if_neg (by omega)]
      exact (hm q hq).2 i hi
theorem mEq_iff {m m' : Nat → List Nat} : mEq m m' = true ↔ ∀ p, p < 10 → m p = m' p := by
  unfold mEq
  rw [List.all_eq_true]
  constructor
  · intro h p hp
    exact eq_of_beq (h p (List.mem_range.mpr hp))
  · intro h p hp
    exact beq_iff_eq.mpr (h p (List.mem_range.mp hp))
theorem mEq_no {m m' : Nat → List Nat} {p : Nat} (hp : p < 10) (h : m p ≠ m' p) : mEq m m' = false := by
  cases e : mEq m m' with
  | false => rfl
  | true => exact absurd (mEq_iff.mp e p hp) h
theorem getD_mem {l : List Nat} {j : Nat} (h : j < l.length) : l.getD j 0 ∈ l := by
  rw [List.getD_eq_getElem?_getD, List.getElem?_eq_getElem h]
  exact List.getElem_mem h
theorem L_like2 (hR : azClosed R) (hM : MkOk kd F a) (hN : MkOk kd F b) {m' : Nat → List Nat} (hm : cM I a m) (hv : mOK m) (hm' : cM I b m') (hv' : mOK m') {k : Nat} (hk : k < 10) (hlen : (m k).length = (m' k).length) (h : mEq m m' = false → Q (some (.int (nI 0))) ((n, z, kd), I, J, F)) (hnext : m k = m' k → R d mX3_isLike 2 [.ref a, .ref b, .int (nI (k + 1)), .int (nI (m k).length)] [] ((n, z, kd), I, J, F) Q) : ∀ (r i : Nat), r + i = (m k).length → (∀ j, j < i → (m k).getD j 0 = (m' k).getD j 0) → R d mX3_isLike 27 [.ref a, .ref b, .int (nI k), .int (nI i)] [] ((n, z, kd), I, J, F) Q := by
  obtain ⟨k0, k1, k2, f0, f1⟩ := hM
  obtain ⟨l0, l1, l2, g0, g1⟩ := hN
  have hl := (hv.1 k).1
  intro r
  induction r with
  | zero =>
    intro i hi hj
    obtain rfl : i = (m k).length := by omega
    refine BX3_isLike_27 hR ?_
    simp (disch := omega) only [nI_ad, nI_ml, nI_lti, nI_lei, nI_eqi, nI_nn, nI_0le, nI_eq0, nI_0lt, nI_le0, nI_clamp, nI_pd, nI_sb, zOf_some, zOp_some, zOp_none, kI_int, kL_long, kO_ref, kO_null, nlt_T, nlt_F, nle_T, nle_F, neq_F, vpT, azUp_at, if_true, if_false, true_and, and_true, true_implies, false_implies, implies_true, not_true_eq_false, not_false_eq_true, true_or, or_true, false_or, or_false, and_false, false_and, eq_self, n01_0, n01_1, nm1_0, k0, f0, k1, (hm k hk).1]
    refine hnext (List.ext_getElem hlen (fun j h1 h2 => ?_))
    have := hj j h1
    rw [List.getD_eq_getElem?_getD, List.getD_eq_getElem?_getD, List.getElem?_eq_getElem h1, List.getElem?_eq_getElem h2] at this
    exact this
  | succ r ih =>
    intro i hi hj
    refine BX3_isLike_27 hR ?_
    have t1 := (hv.1 k).2 _ (getD_mem (l := m k) (j := i) (by omega))
    have t2 := (hv'.1 k).2 _ (getD_mem (l := m' k) (j := i) (by omega))
    simp (disch := omega) only [nI_ad, nI_ml, nI_lti, nI_lei, nI_eqi, nI_nn, nI_0le, nI_eq0, nI_0lt, nI_le0, nI_clamp, nI_pd, nI_sb, zOf_some, zOp_some, zOp_none, kI_int, kL_long, kO_ref, kO_null, nlt_T, nlt_F, nle_T, nle_F, neq_F, vpT, azUp_at, if_true, if_false, true_and, and_true, true_implies, false_implies, implies_true, not_true_eq_false, not_false_eq_true, true_or, or_true, false_or, or_false, and_false, false_and, eq_self, n01_0, n01_1, nm1_0, k0, f0, k1, (hm k hk).1, f1, k2, l0, g1, l2, (hm k hk).2 i (by omega), (hm' k hk).2 i (by omega)]
    refine ⟨fun e => ih (i + 1) (by omega) (fun j hj' => ?_), fun e => h (mEq_no hk (fun q => e (by rw [q])))⟩
    by_cases ej : j = i
    · subst ej; exact e
    · exact hj j (by omega)
theorem L_like (hR : azClosed R) (hM : MkOk kd F a) (hN : MkOk kd F b) {m' : Nat → List Nat} (hm : cM I a m) (hv : mOK m) (hm' : cM I b m') (hv' : mOK m') (h : Q (some (.int (if mEq m m' then nI 1 else nI 0))) ((n, z, kd), I, J, F)) : ∀ (r k : Nat) (w : Value), r + k = 10 → (∀ p, p < k → m p = m' p) → R d mX3_isLike 2 [.ref a, .ref b, .int (nI k), w] [] ((n, z, kd), I, J, F) Q := by
  have hM' := hM
  have hN' := hN
  obtain ⟨k0, k1, k2, f0, f1⟩ := hM
  obtain ⟨l0, l1, l2, g0, g1⟩ := hN
  intro r
  induction r with
  | zero =>
    intro k w hk hp
    obtain rfl : k = 10 := by omega
    refine BX3_isLike_2 hR ?_
    rw [mEq_iff.mpr hp] at h
    simp (disch := omega) only [nI_ad, nI_ml, nI_lti, nI_lei, nI_eqi, nI_nn, nI_0le, nI_eq0, nI_0lt, nI_le0, nI_clamp, nI_pd, nI_sb, zOf_some, zOp_some, zOp_none, kI_int, kL_long, kO_ref, kO_null, nlt_T, nlt_F, nle_T, nle_F, neq_F, vpT, azUp_at, if_true, if_false, true_and, and_true, true_implies, false_implies, implies_true, not_true_eq_false, not_false_eq_true, true_or, or_true, false_or, or_false, and_false, false_and, eq_self, n01_0, n01_1, nm1_0]
    exact h
  | succ r ih =>
    intro k w hk hp
    have hk10 : k < 10 := by omega
    refine BX3_isLike_2 hR ?_
    have h1 := (hv.1 k).1
    have h2 := (hv'.1 k).1
    simp (disch := omega) only [nI_ad, nI_ml, nI_lti, nI_lei, nI_eqi, nI_nn, nI_0le, nI_eq0, nI_0lt, nI_le0, nI_clamp, nI_pd, nI_sb, zOf_some, zOp_some, zOp_none, kI_int, kL_long, kO_ref, kO_null, nlt_T, nlt_F, nle_T, nle_F, neq_F, vpT, azUp_at, if_true, if_false, true_and, and_true, true_implies, false_implies, implies_true, not_true_eq_false, not_false_eq_true, true_or, or_true, false_or, or_false, and_false, false_and, eq_self, n01_0, n01_1, nm1_0, k0, f0, k1, (hm k hk10).1, l0, g0, l1, (hm' k hk10).1]
    have hno : mEq m m' = false → Q (some (.int (nI 0))) ((n, z, kd), I, J, F) := fun e => by rw [e] at h; exact h
    refine ⟨fun e => L_like2 hR hM' hN' hm hv hm' hv' hk10 e hno (fun q => ih (k + 1) _ (by omega) (fun p hp' => ?_)) (m k).length 0 rfl (fun j hj => absurd hj (Nat.not_lt_zero j)), fun e => hno (mEq_no hk10 (fun q => e (by rw [q])))⟩
    by_cases ep : p = k
    · subst ep; exact q
    · exact hp p (by omega)
theorem S_like (hR : azClosed R) (hM : MkOk kd F a) (hN : MkOk kd F b) {m' : Nat → List Nat} (hm : cM I a m) (hv : mOK m) (hm' : cM I b m') (hv' : mOK m') (h : Q (some (.int (if mEq m m' then nI 1 else nI 0))) ((n, z, kd), I, J, F)) : R d mX3_isLike 0 [.ref a, .ref b, .retAddr 0, .retAddr 0] [] ((n, z, kd), I, J, F) Q :=
  BX3_isLike_0 hR (L_like hR hM hN hm hv hm' hv' h 10 0 _ rfl (fun p hp => absurd hp (Nat.not_lt_zero p)))
end S3
