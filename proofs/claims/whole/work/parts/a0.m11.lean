/-! THE REFERENCE: bounds; its world; rules are read at every use. -/
theorem lgc_neg {x y : Int64} : lg_cmp x y < 0 ↔ x.toInt < y.toInt := by
  unfold lg_cmp
  by_cases c1 : x > y
  · rw [if_pos c1]
    have c : y.toInt < x.toInt := Int64.lt_iff_toInt_lt.mp c1
    exact ⟨fun h => absurd h (by decide), fun h => by omega⟩
  · rw [if_neg c1]
    have c : ¬ (y.toInt < x.toInt) := fun h => c1 (Int64.lt_iff_toInt_lt.mpr h)
    by_cases c2 : x = y
    · rw [if_pos c2, c2]
      exact ⟨fun h => absurd h (by decide), fun h => by omega⟩
    · rw [if_neg c2]
      have : x.toInt ≠ y.toInt := fun h => c2 (Int64.toInt_inj.mp h)
      exact ⟨fun _ => by omega, fun _ => by decide⟩
theorem lgc_pos {x y : Int64} : 0 < lg_cmp x y ↔ y.toInt < x.toInt := by
  unfold lg_cmp
  by_cases c1 : x > y
  · rw [if_pos c1]
    have c : y.toInt < x.toInt := Int64.lt_iff_toInt_lt.mp c1
    exact ⟨fun _ => c, fun _ => by decide⟩
  · rw [if_neg c1]
    have c : ¬ (y.toInt < x.toInt) := fun h => c1 (Int64.lt_iff_toInt_lt.mpr h)
    by_cases c2 : x = y
    · rw [if_pos c2]
      exact ⟨fun h => absurd h (by decide), fun h => absurd h c⟩
    · rw [if_neg c2]
      exact ⟨fun h => absurd h (by decide), fun h => absurd h c⟩
theorem ix_iff {x : Int32} {n k : Nat} (hn : n < 2 ^ 31) : ix x n = some k ↔ x.toInt = k ∧ k < n := by
  rcases ix_cases x hn with ⟨e, c⟩ | ⟨j, hj, rfl, e⟩
  · rw [e]
    refine ⟨fun h => (by cases h), fun ⟨h1, h2⟩ => ?_⟩
    exfalso
    rcases c with c | ⟨c0, c⟩
    · rw [Int32.lt_iff_toInt_lt] at c
      have e0 : (0 : Int32).toInt = 0 := rfl
      rw [e0] at c
      omega
    · rw [Int32.le_iff_toInt_le, nI_toInt hn] at c
      omega
  · rw [e, nI_toInt (by omega)]
    constructor
    · intro h; cases h; exact ⟨rfl, hj⟩
    · rintro ⟨h1, h2⟩
      have : j = k := by omega
      rw [this]
theorem isP_eq {x : Int32} {n : Nat} (hn : n < 2 ^ 31) : isP x n = nI (if 0 ≤ x.toInt ∧ x.toInt < n then 1 else 0) := by
  unfold isP
  cases e : ix x n with
  | none =>
    rw [if_neg]
    rintro ⟨h1, h2⟩
    have := (ix_iff (x := x) (k := x.toInt.toNat) hn).mpr ⟨by omega, by omega⟩
    rw [e] at this; cases this
  | some k =>
    obtain ⟨h1, h2⟩ := (ix_iff hn).mp e
    rw [if_pos ⟨by omega, by omega⟩]
theorem isJ_eq {x : Int32} {K : Nat} (hK : K < 1000) : isJ x K = nI (if 1 ≤ x.toInt ∧ x.toInt ≤ K then 1 else 0) := by
  unfold isJ jx
  cases e : ix x (K + 1) with
  | none =>
    rw [if_neg]
    rintro ⟨h1, h2⟩
    have := (ix_iff (x := x) (n := K + 1) (k := x.toInt.toNat) (by omega)).mpr ⟨by omega, by omega⟩
    rw [e] at this; cases this
  | some k =>
    obtain ⟨h1, h2⟩ := (ix_iff (by omega)).mp e
    dsimp only
    by_cases c : k = 0
    · rw [if_pos c, if_neg (by omega)]
    · rw [if_neg c, if_pos ⟨by omega, by omega⟩]
section S9
variable {R : azP} {d n z : Nat} {kd : azK} {I : azI} {J : azJ} {F : azR} {Q : azQ} {t : List Nat} {kb : Nat} {cs : List Cls} {σ : azS}
theorem S_isIn9 (hR : azClosed R) {x : Int32} {y z : Int64} {lo hi : Int} (hy : y.toInt = lo) (hz : z.toInt = hi) (h : Q (some (.int (nI (if lo ≤ x.toInt ∧ x.toInt ≤ hi then 1 else 0)))) σ) : R d mX9_isIn 0 [.long x.toInt64, .retAddr 1, .long y, .retAddr 1, .long z, .retAddr 1] [] σ Q := by
  obtain ⟨⟨n, z', kd⟩, I, J, F⟩ := σ
  have ex : x.toInt64.toInt = x.toInt := Int32.toInt_toInt64 x
  refine BX9_isIn_0 hR ⟨fun c => ⟨Or.inl nI_0, ?_⟩, fun c => ⟨fun c2 => ⟨Or.inl nI_0, ?_⟩, fun c2 => ⟨Or.inr (by decide), ?_⟩⟩⟩
  · rw [lgc_neg, ex, hy] at c
    rw [if_neg (by omega)] at h; exact h
  · rw [lgc_neg, ex, hy] at c
    rw [lgc_pos, ex, hz] at c2
    rw [if_neg (by omega)] at h; exact h
  · rw [lgc_neg, ex, hy] at c
    rw [lgc_pos, ex, hz] at c2
    rw [if_pos (by omega)] at h; exact h
/-- 0 .. n - 1 -/
theorem S_isInP9 (hR : azClosed R) {x : Int32} {y z : Int64} {k : Nat} (hk : k < 2 ^ 31) (hy : y.toInt = 0) (hz : z.toInt = (k : Int) - 1) (h : Q (some (.int (isP x k))) σ) : R d mX9_isIn 0 [.long x.toInt64, .retAddr 1, .long y, .retAddr 1, .long z, .retAddr 1] [] σ Q := by
  refine S_isIn9 hR hy hz ?_
  rw [isP_eq hk] at h
  have e : (0 ≤ x.toInt ∧ x.toInt ≤ (k : Int) - 1) ↔ (0 ≤ x.toInt ∧ x.toInt < k) := by omega
  by_cases c : 0 ≤ x.toInt ∧ x.toInt < k
  · rw [if_pos c] at h; rw [if_pos (e.mpr c)]; exact h
  · rw [if_neg c] at h; rw [if_neg (fun q => c (e.mp q))]; exact h
theorem S_isInJ9 (hR : azClosed R) {x : Int32} {y z : Int64} {K : Nat} (hK : K < 1000) (hy : y.toInt = 1) (hz : z.toInt = K) (h : Q (some (.int (isJ x K))) σ) : R d mX9_isIn 0 [.long x.toInt64, .retAddr 1, .long y, .retAddr 1, .long z, .retAddr 1] [] σ Q := by
  refine S_isIn9 hR hy hz ?_
  rw [isJ_eq hK] at h
  exact h
theorem isP_01 {x : Int32} {k : Nat} : isP x k = 0 ∨ isP x k = 1 := by
  unfold isP
  split
  · exact Or.inl nI_0
  · exact Or.inr (by decide)
theorem isJ_01 {x : Int32} {k : Nat} : isJ x k = 0 ∨ isJ x k = 1 := by
  unfold isJ
  split
  · exact Or.inl nI_0
  · exact Or.inr (by decide)
theorem S_isPlace9 (hR : azClosed R) {x : Int32} (h : Q (some (.int (isP x 10))) σ) : R (d + 1) mX9_isPlace 0 [.int x] [] σ Q := by
  obtain ⟨⟨n, z, kd⟩, I, J, F⟩ := σ
  refine BX9_isPlace_0 hR (S_isInP9 hR (k := 10) (by decide) rfl rfl ?_)
  exact ⟨isP_01, h⟩
theorem S_pours9 (hR : azClosed R) {a b x y k la lb : Nat} (hab : a ≠ b) (ka : kd a = (10, la)) (kb : kd b = (10, lb)) (hla : la < 100000) (hlb : lb < 100000) (hx : x + k ≤ la) (hy : y + k ≤ lb) (h : ∀ I', (∀ c, c ≠ b → I' c = I c) → (∀ i, i < k → I' b (y + i) = I a (x + i)) → (∀ q, (q < y ∨ y + k ≤ q) → I' b q = I b q) → Q none ((n, z, kd), I', J, F)) : R d mX9_pours 0 [.ref a, .int (nI x), .ref b, .int (nI y), .int (nI k), .retAddr 0] [] ((n, z, kd), I, J, F) Q := by
  have main : ∀ s i (I1 : azI), s + i = k → (∀ c, c ≠ b → I1 c = I c) → (∀ j, j < i → I1 b (y + j) = I a (x + j)) → (∀ q, (q < y ∨ y + i ≤ q) → I1 b q = I b q) → R d mX9_pours 3 [.ref a, .int (nI x), .ref b, .int (nI y), .int (nI k), .int (nI i)] [] ((n, z, kd), I1, J, F) Q := by
    intro s
    induction s with
    | zero =>
      intro i I1 hs g1 g2 g3
      obtain rfl : i = k := by omega
      refine BX9_pours_3 hR ?_
      simp (disch := omega) only [nI_ad, nI_ml, nI_lti, nI_lei, nI_eqi, nI_nn, nI_0le, nI_eq0, nI_0lt, nI_le0, nI_clamp, nI_pd, nI_sb, zOf_some, zOp_some, zOp_none, kI_int, kL_long, kO_ref, kO_null, nlt_T, nlt_F, nle_T, nle_F, neq_F, vpT, azUp_at, if_true, if_false, true_and, and_true, true_implies, false_implies, implies_true, not_true_eq_false, not_false_eq_true, true_or, or_true, false_or, or_false, and_false, false_and, eq_self, n01_0, n01_1, nm1_0]
      exact h I1 g1 g2 g3
    | succ s ih =>
      intro i I1 hs g1 g2 g3
      refine BX9_pours_3 hR ?_
      simp (disch := omega) only [nI_ad, nI_ml, nI_lti, nI_lei, nI_eqi, nI_nn, nI_0le, nI_eq0, nI_0lt, nI_le0, nI_clamp, nI_pd, nI_sb, zOf_some, zOp_some, zOp_none, kI_int, kL_long, kO_ref, kO_null, nlt_T, nlt_F, nle_T, nle_F, neq_F, vpT, azUp_at, if_true, if_false, true_and, and_true, true_implies, false_implies, implies_true, not_true_eq_false, not_false_eq_true, true_or, or_true, false_or, or_false, and_false, false_and, eq_self, n01_0, n01_1, nm1_0, ka, kb]
      refine ih (i + 1) _ (by omega) (fun c hc => by rw [azUp_nb hc]; exact g1 c hc) (fun j hj => ?_) (fun q hq => ?_)
      · by_cases ej : j = i
        · rw [ej, azUp_s, g1 a hab]
        · rw [azUp_nk (by omega)]; exact g2 j (by omega)
      · rw [azUp_nk (by omega)]; exact g3 q (by omega)
  exact BX9_pours_0 hR (main k 0 I rfl (fun _ _ => rfl) (fun j hj => absurd hj (Nat.not_lt_zero _)) fun _ _ => rfl)
end S9
/-- a marking as a row of numbers -/
def cD (f : Nat → Int32) (m : Mk) : Prop := ∀ p, p < 10 → f p = nI (m p).length ∧ ∀ j, j < 6 → f (10 + 6 * p + j) = nI ((m p).getD j 0)
/-- rules as texts -/
def cRu (f : Nat → Int32) (ru : Ru) : Prop := ∀ p, p < 10 → (ru p = none → f (81 * p) = nI 0) ∧ ∀ t cs, ru p = some (t, cs) → f (81 * p) = nI t.length ∧ ∀ j, j < t.length → f (81 * p + 1 + j) = nI (t.getD j 0)
def cMd (I : azI) (st : St) : Prop := cD (I 229) st.1 ∧ cRu (I 231) st.2.1 ∧ (I 228 8 = nI st.2.2.1.length ∧ lst (I 233) (st.2.2.1.map nI)) ∧ (I 228 27 = nI st.2.2.2.1.length ∧ lst (I 241) (st.2.2.2.1.map nI)) ∧ I 228 4 = nI st.2.2.2.2.1 ∧ (st.2.2.2.2.2 = none → I 228 6 = nI 0) ∧ ∀ m ru w, st.2.2.2.2.2 = some (m, ru, w) → I 228 6 = nI 1 ∧ cD (I 230) m ∧ cRu (I 232) ru ∧ I 228 5 = nI w
def MW (σ : azS) (st : St) : Prop := MdOk σ.1.2.2 σ.2.2.2 ∧ cMd σ.2.1 st ∧ stOK st
/-- what a call of the reference leaves as it is -/
def mdF (σ σ' : azS) : Prop := σ'.1 = σ.1 ∧ σ'.2.2.2 = σ.2.2.2 ∧ ∀ b, b < 228 ∨ 255 < b → σ'.2.1 b = σ.2.1 b ∧ σ'.2.2.1 b = σ.2.2.1 b
/-- scratch alone has changed -/
def mdS (I I' : azI) : Prop := (∀ b, b ≠ 228 → (b < 234 ∨ b = 241 ∨ 255 < b) → I' b = I b) ∧ ∀ j, j ≤ 8 ∨ j = 27 → I' 228 j = I 228 j
theorem mdS.refl {I : azI} : mdS I I := ⟨fun _ _ _ => rfl, fun _ _ => rfl⟩
theorem mdS.trans {I I1 I2 : azI} (h1 : mdS I I1) (h2 : mdS I1 I2) : mdS I I2 := ⟨fun c a b => by rw [h2.1 c a b, h1.1 c a b], fun j a => by rw [h2.2 j a, h1.2 j a]⟩
theorem mdS.up {I I' : azI} {k : Nat} {v : Int32} (h : mdS I I') (hk : 9 ≤ k) (hk2 : k ≠ 27) : mdS I (azUp I' 228 k v) := ⟨fun c a b => by rw [azUp_nb a]; exact h.1 c a b, fun j a => by rw [azUp_nk (by omega)]; exact h.2 j a⟩
theorem mdS.upc {I I' : azI} {c k : Nat} {v : Int32} (h : mdS I I') (hc : 234 ≤ c) (hc2 : c ≠ 241) (hc3 : c ≤ 255) : mdS I (azUp I' c k v) := ⟨fun b a b' => by rw [azUp_nb (by omega)]; exact h.1 b a b', fun j a => by rw [azUp_nb (by omega)]; exact h.2 j a⟩
theorem mdS.ofR {I I' : azI} (h : frR I I') : mdS I I' := ⟨fun b a b' => h.1 b a (by omega), fun j a => h.2 j (by omega)⟩
theorem mdS.of {I I' : azI} (h : frp I I') : mdS I I' := ⟨fun b a _ => h.1 b a, fun j a => h.2 j (by omega) (by omega)⟩
theorem cMd.kp {I I' : azI} {st : St} (h : cMd I st) (hf : mdS I I') : cMd I' st := by
  obtain ⟨h1, h2, h3, h4, h5, h6, h7⟩ := h
  refine ⟨by rw [hf.1 229 (by omega) (by omega)]; exact h1, by rw [hf.1 231 (by omega) (by omega)]; exact h2, by rw [hf.2 8 (by omega), hf.1 233 (by omega) (by omega)]; exact h3, by rw [hf.2 27 (by omega), hf.1 241 (by omega) (by omega)]; exact h4, by rw [hf.2 4 (by omega)]; exact h5, fun e => by rw [hf.2 6 (by omega)]; exact h6 e, fun m ru w e => by rw [hf.2 6 (by omega), hf.1 230 (by omega) (by omega), hf.1 232 (by omega) (by omega), hf.2 5 (by omega)]; exact h7 m ru w e⟩
theorem MW.kp {n z : Nat} {kd : azK} {I I' : azI} {J J' : azJ} {F : azR} {st : St} (h : MW ((n, z, kd), I, J, F) st) (hf : mdS I I') (hj : ∀ b, b < 228 ∨ 255 < b → J' b = J b) : MW ((n, z, kd), I', J', F) st ∧ mdF ((n, z, kd), I, J, F) ((n, z, kd), I', J', F) := ⟨⟨h.1, cMd.kp h.2.1 hf, h.2.2⟩, rfl, rfl, fun b hb => ⟨hf.1 b (by omega) (by omega), hj b hb⟩⟩
section S9
variable {R : azP} {d n z : Nat} {kd : azK} {I : azI} {J : azJ} {F : azR} {Q : azQ} {st : St}
/-- the rule of a part is read -/
theorem S_readsRule9 (hR : azClosed R) (hK : MdOk kd F) {ru : Ru} (hC : cRu (I 231) ru) (hru : ruOK ru) {p : Nat} (hp : p < 10) (h0 : ru p = none → ∀ I', mdS I I' → (∀ b, 239 < b → I' b = I b) → (∀ j, 26 ≤ j → I' 228 j = I 228 j) → Q (some (.int (nI 0))) ((n, z, kd), I', J, F)) (h1 : ∀ t cs, ru p = some (t, cs) → ∀ I', mdS I I' → (∀ b, 239 < b → I' b = I b) → (∀ j, 26 ≤ j → I' 228 j = I 228 j) → txt I' t → rdM I' t cs → I' 228 12 = -(nI 1) → I' 228 25 = nI 0 → Q (some (.int (nI 1))) ((n, z, kd), I', J, F)) : R (d + 24) mX9_readsRule 0 [.ref 228, .int (nI p)] [] ((n, z, kd), I, J, F) Q := by
  have ⟨k0, ⟨k220, k221, k222, k223, k224, k225, k226, k227, k228, k229, k230, k231⟩, _, ⟨f0, f1, f2, f3, f7, f9, f14, f15, f17, f18, f20, f23⟩, _⟩ := hK
  refine BX9_readsRule_0 hR ?_
  cases e : ru p with
  | none =>
    have e0 := (hC p hp).1 e
    simp (disch := omega) only [nI_ad, nI_ml, nI_lti, nI_lei, nI_eqi, nI_nn, nI_0le, nI_eq0, nI_0lt, nI_le0, nI_clamp, nI_pd, nI_sb, zOf_some, zOp_some, zOp_none, kI_int, kL_long, kO_ref, kO_null, nlt_T, nlt_F, nle_T, nle_F, neq_F, vpT, azUp_at, if_true, if_false, true_and, and_true, true_implies, false_implies, implies_true, not_true_eq_false, not_false_eq_true, true_or, or_true, false_or, or_false, and_false, false_and, eq_self, n01_0, n01_1, nm1_0, k0, f2, k222, f9, e0]
    refine S_pours9 hR (la := 810) (lb := 80) (k := 0) (by decide) k222 k225 (by decide) (by decide) (by omega) (by omega) fun I1 g1 g2 g3 => ⟨rfl, ?_⟩
    have e10 : I1 228 10 = nI 0 := by rw [g1 228 (by decide), azUp_s]
    simp (disch := omega) only [nI_ad, nI_ml, nI_lti, nI_lei, nI_eqi, nI_nn, nI_0le, nI_eq0, nI_0lt, nI_le0, nI_clamp, nI_pd, nI_sb, zOf_some, zOp_some, zOp_none, kI_int, kL_long, kO_ref, kO_null, nlt_T, nlt_F, nle_T, nle_F, neq_F, vpT, azUp_at, if_true, if_false, true_and, and_true, true_implies, false_implies, implies_true, not_true_eq_false, not_false_eq_true, true_or, or_true, false_or, or_false, and_false, false_and, eq_self, n01_0, n01_1, nm1_0, k0, e10]
    refine h0 e I1 ⟨fun b hb hb2 => by rw [g1 b (by omega), azUp_nb hb], fun j hj => by rw [g1 228 (by decide), azUp_nk (by omega)]⟩ (fun b hb => by rw [g1 b (by omega), azUp_nb (by omega)]) (fun j hj => by rw [g1 228 (by decide), azUp_nk (by omega)])
  | some x =>
    obtain ⟨t, cs⟩ := x
    obtain ⟨e0, e1⟩ := (hC p hp).2 t cs e
    obtain ⟨htk, ht0, hpr⟩ := hru p t cs e
    have ht := htk.1
    simp (disch := omega) only [nI_ad, nI_ml, nI_lti, nI_lei, nI_eqi, nI_nn, nI_0le, nI_eq0, nI_0lt, nI_le0, nI_clamp, nI_pd, nI_sb, zOf_some, zOp_some, zOp_none, kI_int, kL_long, kO_ref, kO_null, nlt_T, nlt_F, nle_T, nle_F, neq_F, vpT, azUp_at, if_true, if_false, true_and, and_true, true_implies, false_implies, implies_true, not_true_eq_false, not_false_eq_true, true_or, or_true, false_or, or_false, and_false, false_and, eq_self, n01_0, n01_1, nm1_0, k0, f2, k222, f9, e0]
    refine S_pours9 hR (la := 810) (lb := 80) (k := t.length) (by decide) k222 k225 (by decide) (by decide) (by omega) (by omega) fun I1 g1 g2 g3 => ⟨rfl, ?_⟩
    have e10 : I1 228 10 = nI t.length := by rw [g1 228 (by decide), azUp_s]
    have hx : txt I1 t := ⟨e10, lst.nat fun i hi => by
      have := g2 i hi
      rw [Nat.zero_add] at this
      rw [this, azUp_nb (by decide)]
      exact e1 i hi⟩
    have hm : mdS I I1 := ⟨fun b hb hb2 => by rw [g1 b (by omega), azUp_nb hb], fun j hj => by rw [g1 228 (by decide), azUp_nk (by omega)]⟩
    have hne : ¬ (t.length = 0) := by omega
    simp (disch := omega) only [nI_ad, nI_ml, nI_lti, nI_lei, nI_eqi, nI_nn, nI_0le, nI_eq0, nI_0lt, nI_le0, nI_clamp, nI_pd, nI_sb, zOf_some, zOp_some, zOp_none, kI_int, kL_long, kO_ref, kO_null, nlt_T, nlt_F, nle_T, nle_F, neq_F, vpT, azUp_at, if_true, if_false, true_and, and_true, true_implies, false_implies, implies_true, not_true_eq_false, not_false_eq_true, true_or, or_true, false_or, or_false, and_false, false_and, eq_self, n01_0, n01_1, nm1_0, k0, e10, hne]
    refine S_reads9 hR hK htk hx ?_
    rw [hpr]
    intro I2 g4 g5 g6 g7
    rw [kI_int]
    refine h1 t cs e I2 (hm.trans (mdS.ofR g4)) (fun b hb => by rw [g4.1 b (by omega) (by omega), g1 b (by omega), azUp_nb (by omega)]) (fun j hj => by rw [g4.2 j (by omega), g1 228 (by decide), azUp_nk (by omega)]) (g4.txt hx) g5 g6 g7
end S9
