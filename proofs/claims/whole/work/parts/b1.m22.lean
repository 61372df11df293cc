/-! THE REFERENCE: placeOf, finds. -/
/-- rows alike -/
theorem cD_eq {f g : Nat → Int32} {x y : Mk} (hx : cD f x) (hy : cD g y) (vx : mOK x) (vy : mOK y) : (∀ k, k < 70 → f k = g k) ↔ mEq x y = true := by
  rw [mEq_iff]
  constructor
  · intro h p hp
    have lx := (vx.1 p).1
    have ly := (vy.1 p).1
    have el : (x p).length = (y p).length := by
      have := h p (by omega)
      rw [(hx p hp).1, (hy p hp).1, nI_eqi (by omega) (by omega)] at this
      exact this
    refine List.ext_getElem el fun j h1 h2 => ?_
    have := h (10 + 6 * p + j) (by omega)
    rw [(hx p hp).2 j (by omega), (hy p hp).2 j (by omega)] at this
    have t1 := vx.tok h1
    have t2 := vy.tok h2
    rw [nI_eqi (by omega) (by omega)] at this
    simpa only [List.getD_eq_getElem?_getD, List.getElem?_eq_getElem h1, List.getElem?_eq_getElem h2, Option.getD_some] using this
  · intro h k hk
    by_cases c : k < 10
    · rw [(hx k c).1, (hy k c).1, h k c]
    · have e : k = 10 + 6 * ((k - 10) / 6) + (k - 10) % 6 := by omega
      have hp : (k - 10) / 6 < 10 := by omega
      have hj : (k - 10) % 6 < 6 := by omega
      rw [e, (hx _ hp).2 _ hj, (hy _ hp).2 _ hj, h _ hp]
def lcV (x : Option (Option Nat)) : Int32 := match x with
  | none => -(nI 2)
  | some none => -(nI 1)
  | some (some i) => nI i
/-- the markings that are found -/
def cWF (I : azI) (l : List Mk) : Prop := I 228 32 = nI l.length ∧ ∀ i, i < l.length → cD (fun j => I 246 (70 * i + j)) (l.getD i mNil)
def cWM (I : azI) (S : WS) : Prop := cWF I S.1 ∧ (∀ i, 0 < i → i < S.1.length → I 247 i = nI (S.2.1.getD i (0, 0)).2 ∧ I 248 i = nI (S.2.1.getD i (0, 0)).1) ∧ ∀ k, k < S.2.2.length → I 249 k = lcV (S.2.2.getD k none)
section S9
variable {R : azP} {d n z : Nat} {kd : azK} {I : azI} {J : azJ} {F : azR} {Q : azQ} {st : St} {σ : azS} {l : List Mk} {m : Mk} {b : Nat}
theorem S_placeOf9 (hR : azClosed R) (hK : MdOk kd F) (hl : cWF I l) (hll : l.length ≤ 60) (hlv : ∀ x ∈ l, mOK x) (kb10 : kd b = (10, 70)) (hm : cD (I b) m) (hv : mOK m) (h0 : fidx m 0 l = none → Q (some (.int (-(nI 1)))) ((n, z, kd), I, J, F)) (h1 : ∀ i, fidx m 0 l = some i → Q (some (.int (nI i))) ((n, z, kd), I, J, F)) : R d mX9_placeOf 0 [.ref 228, .ref b, .retAddr 0, .retAddr 0, .retAddr 0] [] ((n, z, kd), I, J, F) Q := by
  have ⟨k0, _, ⟨_, k233, k234, k235, k236, k237, _⟩, _, ⟨_, f28, f29, f30, f31, f33, _⟩⟩ := id hK
  have kb0 : (kd b).1 = 10 := by rw [kb10]
  have main : ∀ s i (w3 w4 : Value), s + i = l.length → fidx m i (l.drop i) = fidx m 0 l → R d mX9_placeOf 2 [.ref 228, .ref b, .int (nI i), w3, w4] [] ((n, z, kd), I, J, F) Q := by
    intro s
    induction s with
    | zero =>
      intro i w3 w4 hi e
      obtain rfl : i = l.length := by omega
      rw [List.drop_length] at e
      have := h0 e.symm
      refine BX9_placeOf_2 hR ?_
      simp (disch := omega) only [nI_ad, nI_ml, nI_lti, nI_lei, nI_eqi, nI_nn, nI_0le, nI_eq0, nI_0lt, nI_le0, nI_clamp, nI_pd, nI_sb, zOf_some, zOp_some, zOp_none, kI_int, kL_long, kO_ref, kO_null, nlt_T, nlt_F, nle_T, nle_F, neq_F, vpT, azUp_at, if_true, if_false, true_and, and_true, true_implies, false_implies, implies_true, not_true_eq_false, not_false_eq_true, true_or, or_true, false_or, or_false, and_false, false_and, eq_self, n01_0, n01_1, nm1_0, k0, hl.1]
      exact this
    | succ s ih =>
      intro i w3 w4 hi e
      have hil : i < l.length := by omega
      rw [List.drop_eq_getElem_cons hil, fidx_cons] at e
      have hx := hl.2 i hil
      have ex : l.getD i mNil = l[i] := by rw [List.getD_eq_getElem?_getD, List.getElem?_eq_getElem hil]; rfl
      have hxv := hlv l[i] (List.getElem_mem hil)
      rw [ex] at hx
      have key := cD_eq hx hm hxv hv
      have no : (¬ mEq l[i] m = true) → ∀ w3 w4, R d mX9_placeOf 2 [.ref 228, .ref b, .int (nI (i + 1)), w3, w4] [] ((n, z, kd), I, J, F) Q := fun c w3 w4 => by
        rw [if_neg c] at e
        exact ih (i + 1) w3 w4 (by omega) e
      have cmp : ∀ s k, s + k = 70 → (∀ j, j < k → I 246 (70 * i + j) = I b j) → R d mX9_placeOf 15 [.ref 228, .ref b, .int (nI i), .int (nI 1), .int (nI k)] [] ((n, z, kd), I, J, F) Q := by
        intro s
        induction s with
        | zero =>
          intro k hk hj
          obtain rfl : k = 70 := by omega
          have c := key.mp hj
          rw [if_pos c] at e
          have := h1 i e.symm
          refine BX9_placeOf_15 hR ?_
          simp (disch := omega) only [nI_ad, nI_ml, nI_lti, nI_lei, nI_eqi, nI_nn, nI_0le, nI_eq0, nI_0lt, nI_le0, nI_clamp, nI_pd, nI_sb, zOf_some, zOp_some, zOp_none, kI_int, kL_long, kO_ref, kO_null, nlt_T, nlt_F, nle_T, nle_F, neq_F, vpT, azUp_at, if_true, if_false, true_and, and_true, true_implies, false_implies, implies_true, not_true_eq_false, not_false_eq_true, true_or, or_true, false_or, or_false, and_false, false_and, eq_self, n01_0, n01_1, nm1_0]
          exact this
        | succ s ihs =>
          intro k hk hj
          have hk70 : k < 70 := by omega
          have hb2 : 70 * i + k < 4200 := by omega
          refine BX9_placeOf_15 hR ?_
          simp (disch := omega) only [nI_ad, nI_ml, nI_lti, nI_lei, nI_eqi, nI_nn, nI_0le, nI_eq0, nI_0lt, nI_le0, nI_clamp, nI_pd, nI_sb, zOf_some, zOp_some, zOp_none, kI_int, kL_long, kO_ref, kO_null, nlt_T, nlt_F, nle_T, nle_F, neq_F, vpT, azUp_at, if_true, if_false, true_and, and_true, true_implies, false_implies, implies_true, not_true_eq_false, not_false_eq_true, true_or, or_true, false_or, or_false, and_false, false_and, eq_self, n01_0, n01_1, nm1_0, k0, f33, k237, kb10]
          refine ⟨fun c => ?_, fun c => ?_⟩
          · have hn : ¬ mEq l[i] m = true := fun e' => c (key.mpr e' k hk70)
            refine BX9_placeOf_15 hR ?_
            have := no hn (.int (nI 0)) (.int (nI (k + 1)))
            by_cases c7 : 70 ≤ k + 1
            · simp (disch := omega) only [nI_ad, nI_ml, nI_lti, nI_lei, nI_eqi, nI_nn, nI_0le, nI_eq0, nI_0lt, nI_le0, nI_clamp, nI_pd, nI_sb, zOf_some, zOp_some, zOp_none, kI_int, kL_long, kO_ref, kO_null, nlt_T, nlt_F, nle_T, nle_F, neq_F, vpT, azUp_at, if_true, if_false, true_and, and_true, true_implies, false_implies, implies_true, not_true_eq_false, not_false_eq_true, true_or, or_true, false_or, or_false, and_false, false_and, eq_self, n01_0, n01_1, nm1_0, c7]
              exact this
            · simp (disch := omega) only [nI_ad, nI_ml, nI_lti, nI_lei, nI_eqi, nI_nn, nI_0le, nI_eq0, nI_0lt, nI_le0, nI_clamp, nI_pd, nI_sb, zOf_some, zOp_some, zOp_none, kI_int, kL_long, kO_ref, kO_null, nlt_T, nlt_F, nle_T, nle_F, neq_F, vpT, azUp_at, if_true, if_false, true_and, and_true, true_implies, false_implies, implies_true, not_true_eq_false, not_false_eq_true, true_or, or_true, false_or, or_false, and_false, false_and, eq_self, n01_0, n01_1, nm1_0, c7]
              exact this
          · refine ihs (k + 1) (by omega) fun j hj' => ?_
            by_cases ej : j = k
            · subst ej; exact Classical.not_not.mp c
            · exact hj j (by omega)
      refine BX9_placeOf_2 hR ?_
      simp (disch := omega) only [nI_ad, nI_ml, nI_lti, nI_lei, nI_eqi, nI_nn, nI_0le, nI_eq0, nI_0lt, nI_le0, nI_clamp, nI_pd, nI_sb, zOf_some, zOp_some, zOp_none, kI_int, kL_long, kO_ref, kO_null, nlt_T, nlt_F, nle_T, nle_F, neq_F, vpT, azUp_at, if_true, if_false, true_and, and_true, true_implies, false_implies, implies_true, not_true_eq_false, not_false_eq_true, true_or, or_true, false_or, or_false, and_false, false_and, eq_self, n01_0, n01_1, nm1_0, k0, hl.1]
      exact cmp 70 0 rfl fun j hj => absurd hj (Nat.not_lt_zero _)
  refine BX9_placeOf_0 hR ?_
  exact main l.length 0 _ _ (by omega) (by rw [List.drop_zero])
theorem srch_stop {N : Nat} {rs : Nat → Option (List Cls)} {r : Nat} {S : WS} (h : ¬ (S.2.2.length < 10 * S.1.length)) : srch N rs r S = S := by
  cases r with
  | zero => rfl
  | succ r => show (if _ then _ else _) = _; rw [if_neg h]
def frW9 (I I' : azI) : Prop := (∀ c, c ≠ 228 → (c < 234 ∨ c = 241 ∨ 250 < c) → I' c = I c) ∧ ∀ j, j ≤ 8 ∨ (26 ≤ j ∧ j ≠ 32) → I' 228 j = I 228 j
theorem frW9.trans {I I1 I2 : azI} (h1 : frW9 I I1) (h2 : frW9 I1 I2) : frW9 I I2 := ⟨fun c a b => by rw [h2.1 c a b, h1.1 c a b], fun j a => by rw [h2.2 j a, h1.2 j a]⟩
theorem frW9.ofG {I I1 : azI} (h : frG9 I I1) : frW9 I I1 := ⟨fun c a b => h.1 c a (by omega), fun j a => h.2 j (by omega)⟩
theorem frW9.ofc {I I1 : azI} {b : Nat} (hb : 242 ≤ b) (hb2 : b ≤ 250) (h : ∀ c, c ≠ b → I1 c = I c) : frW9 I I1 := ⟨fun c a b => h c (by omega), fun j _ => by rw [h 228 (by omega)]⟩
theorem frW9.mdS {I I' : azI} (h : frW9 I I') : mdS I I' := ⟨fun b a b' => h.1 b a (by omega), fun j a => h.2 j (by omega)⟩
theorem cWF.keep {I I' : azI} (h : cWF I l) (h1 : I' 228 32 = I 228 32) (h2 : I' 246 = I 246) : cWF I' l := ⟨by rw [h1]; exact h.1, by rw [h2]; exact h.2⟩
theorem cWM.keep {I I' : azI} {S : WS} (h : cWM I S) (h1 : I' 228 32 = I 228 32) (h2 : ∀ c, 246 ≤ c → c ≤ 249 → I' c = I c) : cWM I' S := ⟨h.1.keep h1 (h2 246 (by decide) (by decide)), by rw [h2 247 (by decide) (by decide), h2 248 (by decide) (by decide)]; exact h.2.1, by rw [h2 249 (by decide) (by decide)]; exact h.2.2⟩
theorem S_finds9 (hR : azClosed R) (hW : MW ((n, z, kd), I, J, F) st) {x : Int32} (h0 : jx x 60 = none → Q (some (.int (nI 0))) ((n, z, kd), I, J, F)) (h1 : ∀ N, 0 < N → N ≤ 60 → jx x 60 = some N → ∀ I', frW9 I I' → cWM I' (wkS st N) → Q (some (.int (nI 1))) ((n, z, kd), I', J, F)) : R (d + 26) mX9_finds 0 [.ref 228, .int x, .retAddr 0, .retAddr 0, .retAddr 0] [] ((n, z, kd), I, J, F) Q := by
  obtain ⟨hK, hC, hS⟩ := id hW
  have hK : MdOk kd F := hK
  have hC : cMd I st := hC
  have ⟨k0, ⟨k220, k221, k222, _⟩, ⟨_, k233, k234, k235, k236, k237, k238, k239, k240, k241, _⟩, ⟨f0, f1, f2, _⟩, ⟨_, f28, f29, f30, f31, f33, f34, f35, f36, f37, _⟩⟩ := id hK
  have ho := hS.rl
  refine BX9_finds_0 hR (S_isInJ9 hR (K := 60) (by decide) (by decide) (by decide) ?_)
  unfold isJ
  rcases jx_cases x (K := 60) (by decide) (by decide) with ⟨e, c⟩ | ⟨N, hN0, hN, rfl, e⟩
  · rw [e]
    simp (disch := omega) only [nI_ad, nI_ml, nI_lti, nI_lei, nI_eqi, nI_nn, nI_0le, nI_eq0, nI_0lt, nI_le0, nI_clamp, nI_pd, nI_sb, zOf_some, zOp_some, zOp_none, kI_int, kL_long, kO_ref, kO_null, nlt_T, nlt_F, nle_T, nle_F, neq_F, vpT, azUp_at, if_true, if_false, true_and, and_true, true_implies, false_implies, implies_true, not_true_eq_false, not_false_eq_true, true_or, or_true, false_or, or_false, and_false, false_and, eq_self, n01_0, n01_1, nm1_0]
    exact h0 e
  rw [e]
  have h1 := h1 N hN0 hN e
  have main : ∀ r (S : WS) (i p : Nat) (I1 : azI) (w4 : Value), r + S.2.2.length = 600 → S.2.2.length = 10 * i + p → p < 10 → i < S.1.length → wsOK N S → cWM I1 S → frW9 I I1 → srch N (rsOf st.2.1) r S = wkS st N → R (d + 26) mX9_finds 46 [.ref 228, .int (nI N), .int (nI i), .int (nI p), w4] [] ((n, z, kd), I1, J, F) Q := by
    intro r
    induction r with
    | zero =>
      intro S i p I1 w4 hr hl hp hi hS1
      have := hS1.2.1
      omega
    | succ r ih =>
      intro S i p I1 w4 hr hl hp hi hS1 hc hf es
      have hl60 := hS1.2.1
      have hdiv : S.2.2.length / 10 = i := by omega
      have hmod : S.2.2.length % 10 = p := by omega
      have es1 : srch N (rsOf st.2.1) (r + 1) S = if S.2.2.length < 10 * S.1.length then srch N (rsOf st.2.1) r (stepS N (rsOf st.2.1) S (S.2.2.length / 10) (S.2.2.length % 10)) else S := rfl
      rw [es1, if_pos (by omega), hdiv, hmod] at es
      obtain ⟨so1, so2, so3⟩ := stepS_ok (f := i) (p := p) ho hS1 hi hp
      generalize hS' : stepS N (rsOf st.2.1) S i p = S' at es so1 so2 so3
      have hl60' := so1.2.1
      -- a part leads on
      have nxt : ∀ (I2 : azI), cWM I2 S' → frW9 I I2 → ∀ v : Int32, R (d + 26) mX9_finds 46 [.ref 228, .int (nI N), .int (nI i), .int (nI (p + 1)), .int v] [] ((n, z, kd), I2, J, F) Q := by
        intro I2 hc2 hf2 v
        by_cases c9 : p + 1 < 10
        · exact ih S' i (p + 1) I2 _ (by omega) (by omega) c9 (by omega) so1 hc2 hf2 es
        · refine BX9_finds_46 hR ?_
          simp (disch := omega) only [nI_ad, nI_ml, nI_lti, nI_lei, nI_eqi, nI_nn, nI_0le, nI_eq0, nI_0lt, nI_le0, nI_clamp, nI_pd, nI_sb, zOf_some, zOp_some, zOp_none, kI_int, kL_long, kO_ref, kO_null, nlt_T, nlt_F, nle_T, nle_F, neq_F, vpT, azUp_at, if_true, if_false, true_and, and_true, true_implies, false_implies, implies_true, not_true_eq_false, not_false_eq_true, true_or, or_true, false_or, or_false, and_false, false_and, eq_self, n01_0, n01_1, nm1_0]
          refine BX9_finds_36 hR ?_
          by_cases ce : S'.1.length ≤ i + 1
          · rw [srch_stop (by omega)] at es
            have := h1 I2 hf2 (by rw [← es]; exact hc2)
            simp (disch := omega) only [nI_ad, nI_ml, nI_lti, nI_lei, nI_eqi, nI_nn, nI_0le, nI_eq0, nI_0lt, nI_le0, nI_clamp, nI_pd, nI_sb, zOf_some, zOp_some, zOp_none, kI_int, kL_long, kO_ref, kO_null, nlt_T, nlt_F, nle_T, nle_F, neq_F, vpT, azUp_at, if_true, if_false, true_and, and_true, true_implies, false_implies, implies_true, not_true_eq_false, not_false_eq_true, true_or, or_true, false_or, or_false, and_false, false_and, eq_self, n01_0, n01_1, nm1_0, k0, hc2.1.1]
            exact this
          · have := ih S' (i + 1) 0 I2 (.int v) (by omega) (by omega) (by decide) (by omega) so1 hc2 hf2 es
            simp (disch := omega) only [nI_ad, nI_ml, nI_lti, nI_lei, nI_eqi, nI_nn, nI_0le, nI_eq0, nI_0lt, nI_le0, nI_clamp, nI_pd, nI_sb, zOf_some, zOp_some, zOp_none, kI_int, kL_long, kO_ref, kO_null, nlt_T, nlt_F, nle_T, nle_F, neq_F, vpT, azUp_at, if_true, if_false, true_and, and_true, true_implies, false_implies, implies_true, not_true_eq_false, not_false_eq_true, true_or, or_true, false_or, or_false, and_false, false_and, eq_self, n01_0, n01_1, nm1_0, k0, hc2.1.1]
            exact this
      have ld : ∀ (I2 : azI) (y : Option (Option Nat)), cWF I2 S'.1 → (∀ i, 0 < i → i < S'.1.length → I2 247 i = nI (S'.2.1.getD i (0, 0)).2 ∧ I2 248 i = nI (S'.2.1.getD i (0, 0)).1) → (∀ k, k < S.2.2.length → I2 249 k = lcV (S.2.2.getD k none)) → S'.2.2 = S.2.2 ++ [y] → frW9 I I2 → R (d + 26) mX9_finds 166 [.ref 228, .int (nI N), .int (nI i), .int (nI p), .int (lcV y)] [] ((n, z, kd), I2, J, F) Q := by
        intro I2 y g1 g2 g3 g4 g5
        have hb : 10 * i + p < 600 := by omega
        refine BX9_finds_166 hR ?_
        simp (disch := omega) only [nI_ad, nI_ml, nI_lti, nI_lei, nI_eqi, nI_nn, nI_0le, nI_eq0, nI_0lt, nI_le0, nI_clamp, nI_pd, nI_sb, zOf_some, zOp_some, zOp_none, kI_int, kL_long, kO_ref, kO_null, nlt_T, nlt_F, nle_T, nle_F, neq_F, vpT, azUp_at, if_true, if_false, true_and, and_true, true_implies, false_implies, implies_true, not_true_eq_false, not_false_eq_true, true_or, or_true, false_or, or_false, and_false, false_and, eq_self, n01_0, n01_1, nm1_0, k0, f36, k240]
        refine nxt _ ⟨g1.keep (by rw [azUp_nb (by decide)]) (azUp_nb (by decide)), by rw [azUp_nb (by decide), azUp_nb (by decide)]; exact g2, fun k hk => ?_⟩ (g5.trans (frW9.ofc (b := 249) (by decide) (by decide) fun c hc => azUp_nb hc)) _
        rw [g4] at hk ⊢
        rw [List.length_append, List.length_cons, List.length_nil] at hk
        by_cases ek : k = S.2.2.length
        · subst ek
          rw [getD_app_eq, ← hl, azUp_s]
        · rw [getD_app_lt (by omega), azUp_nk (by omega)]
          exact g3 k (by omega)
      have hcd := hc.1.2 i hi
      have hvi := hS1.2.2.2.1 _ (getD_memM hi)
      have hb : 70 * i + 70 ≤ 4200 := by omega
      refine BX9_finds_46 hR ?_
      simp (disch := omega) only [nI_ad, nI_ml, nI_lti, nI_lei, nI_eqi, nI_nn, nI_0le, nI_eq0, nI_0lt, nI_le0, nI_clamp, nI_pd, nI_sb, zOf_some, zOp_some, zOp_none, kI_int, kL_long, kO_ref, kO_null, nlt_T, nlt_F, nle_T, nle_F, neq_F, vpT, azUp_at, if_true, if_false, true_and, and_true, true_implies, false_implies, implies_true, not_true_eq_false, not_false_eq_true, true_or, or_true, false_or, or_false, and_false, false_and, eq_self, n01_0, n01_1, nm1_0, k0, f33, f37]
      refine S_pours9 hR (by decide) k237 k241 (by decide) (by decide) hb (by decide) fun I2 p1 p2 p3 => ⟨rfl, ?_⟩
      have e222 : I2 231 = I 231 := by rw [p1 231 (by decide)]; exact hf.1 231 (by decide) (by decide)
      simp (disch := omega) only [nI_ad, nI_ml, nI_lti, nI_lei, nI_eqi, nI_nn, nI_0le, nI_eq0, nI_0lt, nI_le0, nI_clamp, nI_pd, nI_sb, zOf_some, zOp_some, zOp_none, kI_int, kL_long, kO_ref, kO_null, nlt_T, nlt_F, nle_T, nle_F, neq_F, vpT, azUp_at, if_true, if_false, true_and, and_true, true_implies, false_implies, implies_true, not_true_eq_false, not_false_eq_true, true_or, or_true, false_or, or_false, and_false, false_and, eq_self, n01_0, n01_1, nm1_0, k0, f37]
      refine S_goes9 hR hK (by rw [e222]; exact hC.2.1) hS.2.1 hp k241 (by decide) (by decide) (m := S.1.getD i mNil) (hcd.row fun j hj => by
        have := p2 j hj
        rw [Nat.zero_add] at this
        exact this) hvi fun I3 g1 g2 => ?_
      have hf3 : frW9 I I3 := (hf.trans (frW9.ofc (b := 250) (by decide) (by decide) p1)).trans (frW9.ofG g1)
      have hc3 : cWM I3 S := hc.keep (by rw [g1.2 32 (by decide), p1 228 (by decide)]) fun c c1 c2 => by rw [g1.1 c (by omega) (by omega), p1 c (by omega)]
      unfold stepS at hS'
      cases ef : pfire (rsOf st.2.1) p (S.1.getD i mNil) with
      | none =>
        rw [ef] at hS'
        dsimp only at hS'
        subst hS'
        simp (disch := omega) only [nI_ad, nI_ml, nI_lti, nI_lei, nI_eqi, nI_nn, nI_0le, nI_eq0, nI_0lt, nI_le0, nI_clamp, nI_pd, nI_sb, zOf_some, zOp_some, zOp_none, kI_int, kL_long, kO_ref, kO_null, nlt_T, nlt_F, nle_T, nle_F, neq_F, vpT, azUp_at, if_true, if_false, true_and, and_true, true_implies, false_implies, implies_true, not_true_eq_false, not_false_eq_true, true_or, or_true, false_or, or_false, and_false, false_and, eq_self, n01_0, n01_1, nm1_0, Option.isSome_none, Bool.false_eq_true]
        exact ld I3 none hc3.1 hc3.2.1 hc3.2.2 rfl hf3
      | some M =>
        rw [ef] at hS'
        dsimp only at hS'
        have hM : mOK M := pfire_ok (ho p · hp) hvi ef
        have hcM := g2 M ef
        simp (disch := omega) only [nI_ad, nI_ml, nI_lti, nI_lei, nI_eqi, nI_nn, nI_0le, nI_eq0, nI_0lt, nI_le0, nI_clamp, nI_pd, nI_sb, zOf_some, zOp_some, zOp_none, kI_int, kL_long, kO_ref, kO_null, nlt_T, nlt_F, nle_T, nle_F, neq_F, vpT, azUp_at, if_true, if_false, true_and, and_true, true_implies, false_implies, implies_true, not_true_eq_false, not_false_eq_true, true_or, or_true, false_or, or_false, and_false, false_and, eq_self, n01_0, n01_1, nm1_0, Option.isSome_some, k0, f30]
        refine S_placeOf9 hR hK hc3.1 (by omega) hS1.2.2.2.1 k235 hcM hM (fun en => ?_) fun q en => ?_
        · have n1 := m1_ng
          by_cases cN : S.1.length < N
          · have en' : numS N S (i, p) M = ((S.1 ++ [M], S.2.1 ++ [(i, p)], S.2.2), some S.1.length) := by unfold numS; rw [en]; dsimp only; rw [if_pos cN]
            rw [en'] at hS'
            dsimp only at hS'
            have hb3 : 70 * S.1.length + 70 ≤ 4200 := by omega
            simp (disch := omega) only [nI_ad, nI_ml, nI_lti, nI_lei, nI_eqi, nI_nn, nI_0le, nI_eq0, nI_0lt, nI_le0, nI_clamp, nI_pd, nI_sb, zOf_some, zOp_some, zOp_none, kI_int, kL_long, kO_ref, kO_null, nlt_T, nlt_F, nle_T, nle_F, neq_F, vpT, azUp_at, if_true, if_false, true_and, and_true, true_implies, false_implies, implies_true, not_true_eq_false, not_false_eq_true, true_or, or_true, false_or, or_false, and_false, false_and, eq_self, n01_0, n01_1, nm1_0, n1, k0, f30, f33, hc3.1.1]
            refine S_pours9 hR (by decide) k235 k237 (by decide) (by decide) (by decide) hb3 fun I4 q1 q2 q3 => ⟨rfl, ?_⟩
            have e32 : I4 228 32 = nI S.1.length := by rw [q1 228 (by decide)]; exact hc3.1.1
            have hs60 : S.1.length < 60 := by omega
            simp (disch := omega) only [nI_ad, nI_ml, nI_lti, nI_lei, nI_eqi, nI_nn, nI_0le, nI_eq0, nI_0lt, nI_le0, nI_clamp, nI_pd, nI_sb, zOf_some, zOp_some, zOp_none, kI_int, kL_long, kO_ref, kO_null, nlt_T, nlt_F, nle_T, nle_F, neq_F, vpT, azUp_at, if_true, if_false, true_and, and_true, true_implies, false_implies, implies_true, not_true_eq_false, not_false_eq_true, true_or, or_true, false_or, or_false, and_false, false_and, eq_self, n01_0, n01_1, nm1_0, k0, f34, f35, k238, k239, e32, @azUp_nb _ 247 228, @azUp_nb _ 248 228]
            subst hS'
            refine ld _ (some (some S.1.length)) ⟨?_, fun j hj => ?_⟩ (fun j hj0 hj => ?_) (fun k hk => ?_) rfl ?_
            · rw [azUp_s, List.length_append]; rfl
            · rw [List.length_append, List.length_cons, List.length_nil] at hj
              rw [azUp_nb (by decide), azUp_nb (by decide), azUp_nb (by decide)]
              by_cases ej : j = S.1.length
              · subst ej
                rw [getD_app_eq]
                refine hcM.row fun k hk => ?_
                have := q2 k hk
                rw [Nat.zero_add] at this
                exact this
              · rw [getD_app_lt (by omega)]
                refine (hc3.1.2 j (by omega)).row fun k hk => ?_
                exact q3 _ (by omega)
            · rw [List.length_append, List.length_cons, List.length_nil] at hj
              have hl2 := hS1.2.2.1
              by_cases ej : j = S.1.length
              · have e2 : (S.2.1 ++ [(i, p)]).getD j (0, 0) = (i, p) := by rw [ej, ← hl2]; exact getD_app_eq
                rw [e2, ej, azUp_nb (by decide), azUp_nb (by decide), azUp_s, azUp_nb (by decide), azUp_s]
                exact ⟨rfl, rfl⟩
              · have e2 : (S.2.1 ++ [(i, p)]).getD j (0, 0) = S.2.1.getD j (0, 0) := getD_app_lt (by omega)
                obtain ⟨t1, t2⟩ := hc3.2.1 j hj0 (by omega)
                rw [e2, azUp_nb (by decide), azUp_nb (by decide), azUp_nk ej, azUp_nb (by decide), azUp_nk ej, azUp_nb (by decide), q1 247 (by decide), q1 248 (by decide)]
                exact ⟨t1, t2⟩
            · rw [azUp_nb (by decide), azUp_nb (by decide), azUp_nb (by decide), q1 249 (by decide)]
              exact hc3.2.2 k hk
            · refine hf3.trans ⟨fun c a b => ?_, fun j a => ?_⟩
              · rw [azUp_nb a, azUp_nb (by omega), azUp_nb (by omega), q1 c (by omega)]
              · rw [azUp_nk (by omega), azUp_nb (by decide), azUp_nb (by decide), q1 228 (by decide)]
          · have en' : numS N S (i, p) M = (S, none) := by unfold numS; rw [en]; dsimp only; rw [if_neg cN]
            rw [en'] at hS'
            dsimp only at hS'
            subst hS'
            simp (disch := omega) only [nI_ad, nI_ml, nI_lti, nI_lei, nI_eqi, nI_nn, nI_0le, nI_eq0, nI_0lt, nI_le0, nI_clamp, nI_pd, nI_sb, zOf_some, zOp_some, zOp_none, kI_int, kL_long, kO_ref, kO_null, nlt_T, nlt_F, nle_T, nle_F, neq_F, vpT, azUp_at, if_true, if_false, true_and, and_true, true_implies, false_implies, implies_true, not_true_eq_false, not_false_eq_true, true_or, or_true, false_or, or_false, and_false, false_and, eq_self, n01_0, n01_1, nm1_0, n1, k0, hc3.1.1]
            exact ld I3 (some none) hc3.1 hc3.2.1 hc3.2.2 rfl hf3
        · have en' : numS N S (i, p) M = (S, some q) := by unfold numS; rw [en]
          rw [en'] at hS'
          dsimp only at hS'
          subst hS'
          have hq := fidx_lt _ _ _ en
          simp (disch := omega) only [nI_ad, nI_ml, nI_lti, nI_lei, nI_eqi, nI_nn, nI_0le, nI_eq0, nI_0lt, nI_le0, nI_clamp, nI_pd, nI_sb, zOf_some, zOp_some, zOp_none, kI_int, kL_long, kO_ref, kO_null, nlt_T, nlt_F, nle_T, nle_F, neq_F, vpT, azUp_at, if_true, if_false, true_and, and_true, true_implies, false_implies, implies_true, not_true_eq_false, not_false_eq_true, true_or, or_true, false_or, or_false, and_false, false_and, eq_self, n01_0, n01_1, nm1_0, k0]
          exact ld I3 (some (some q)) hc3.1 hc3.2.1 hc3.2.2 rfl hf3
  simp (disch := omega) only [nI_ad, nI_ml, nI_lti, nI_lei, nI_eqi, nI_nn, nI_0le, nI_eq0, nI_0lt, nI_le0, nI_clamp, nI_pd, nI_sb, zOf_some, zOp_some, zOp_none, kI_int, kL_long, kO_ref, kO_null, nlt_T, nlt_F, nle_T, nle_F, neq_F, vpT, azUp_at, if_true, if_false, true_and, and_true, true_implies, false_implies, implies_true, not_true_eq_false, not_false_eq_true, true_or, or_true, false_or, or_false, and_false, false_and, eq_self, n01_0, n01_1, nm1_0, k0, f0, f33]
  refine S_pours9 hR (by decide) k220 k237 (by decide) (by decide) (by decide) (by decide) fun I2 p1 p2 p3 => ⟨rfl, ?_⟩
  have e32 : I2 228 32 = nI 1 := by rw [p1 228 (by decide), azUp_s]
  refine BX9_finds_36 hR ?_
  simp (disch := omega) only [nI_ad, nI_ml, nI_lti, nI_lei, nI_eqi, nI_nn, nI_0le, nI_eq0, nI_0lt, nI_le0, nI_clamp, nI_pd, nI_sb, zOf_some, zOp_some, zOp_none, kI_int, kL_long, kO_ref, kO_null, nlt_T, nlt_F, nle_T, nle_F, neq_F, vpT, azUp_at, if_true, if_false, true_and, and_true, true_implies, false_implies, implies_true, not_true_eq_false, not_false_eq_true, true_or, or_true, false_or, or_false, and_false, false_and, eq_self, n01_0, n01_1, nm1_0, k0, e32]
  refine main 600 ([st.1], [(0, 0)], []) 0 0 I2 _ rfl rfl (by decide) Nat.one_pos ⟨Nat.one_pos, hN0, rfl, fun x hx => by rw [List.mem_singleton] at hx; subst hx; exact hS.1, fun i h1 h2 => by simp at h2; omega, fun j hj => absurd hj List.not_mem_nil⟩ ⟨⟨e32, fun i hi => ?_⟩, fun i hi hi2 => ?_, fun k hk => absurd hk (Nat.not_lt_zero _)⟩ ?_ rfl
  · have hi : i < 1 := hi
    obtain rfl : i = 0 := by omega
    refine hC.1.row fun k hk => ?_
    have := p2 k hk
    rw [Nat.zero_add, azUp_nb (by decide)] at this
    rw [Nat.mul_zero, Nat.zero_add]
    exact this
  · have hi2 : i < 1 := hi2
    omega
  · refine ⟨fun c a b => by rw [p1 c (by omega), azUp_nb a], fun j a => by rw [p1 228 (by decide), azUp_nk (by omega)]⟩
end S9
