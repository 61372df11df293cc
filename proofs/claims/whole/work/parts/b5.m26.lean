/-! THE REFERENCE: sign, bare, looseness. -/
def nO (o c : Nat) : Nat := if c = 40 then o + 1 else if c = 41 then o - 1 else o
/-- what a scan has found behind an expression -/
def rs (t : List Nat) (e : Ex) (i j : Nat) (s p s' p' : Int32) : Prop := match e with
  | .leaf _ => s' = s ∧ p' = p
  | .branch c a b => ∃ k, i ≤ k ∧ k < j ∧ cut t c a b i j k ∧ (c = 42 → s' = s ∧ p' = nI k) ∧ (c ≠ 42 → s' = nI k)
section S9
variable {R : azP} {d n z : Nat} {kd : azK} {I : azI} {J : azJ} {F : azR} {Q : azQ} {t : List Nat} {x1 : Int32} {x2 : Nat}
theorem S_scan1 (hR : azClosed R) (hK : MdOk kd F) (htk : tOK t) (hx : txt I t) {k o : Nat} {s p : Int32} {w7 : Value} (hk : k < t.length) (hkx : k < x2) (hx2 : x2 ≤ 80) (hok : o ≤ k) (ho : tb t k = 41 → 0 < o)
    (h : ∀ w, R d mX9_sign 11 [.ref 228, .int x1, .int (nI x2), .int (nI (nO o (tb t k))), .int (if nO o (tb t k) = 0 ∧ (tb t k = 43 ∨ tb t k = 45) then nI k else s), .int (if nO o (tb t k) = 0 ∧ tb t k = 42 then nI k else p), .int (nI (k + 1)), w] [] ((n, z, kd), I, J, F) Q) : R d mX9_sign 11 [.ref 228, .int x1, .int (nI x2), .int (nI o), .int s, .int p, .int (nI k), w7] [] ((n, z, kd), I, J, F) Q := by
  have ⟨k0, ⟨_, _, _, _, _, k225, _⟩, _, ⟨_, _, _, _, _, f9, _⟩, _⟩ := id hK
  have e : I 234 k = nI (tb t k) := hx.2.get hk
  have hb := tb_lt htk (i := k)
  generalize hc : tb t k = c at *
  have h := h (.int (nI c))
  refine BX9_sign_11 hR ?_
  unfold nO at h
  by_cases c1 : c = 40
  · rw [if_pos c1, if_neg (by omega), if_neg (by omega)] at h
    simp (disch := omega) only [nI_ad, nI_ml, nI_lti, nI_lei, nI_eqi, nI_nn, nI_0le, nI_eq0, nI_0lt, nI_le0, nI_clamp, nI_pd, nI_sb, zOf_some, zOp_some, zOp_none, kI_int, kL_long, kO_ref, kO_null, nlt_T, nlt_F, nle_T, nle_F, neq_F, vpT, azUp_at, if_true, if_false, true_and, and_true, true_implies, false_implies, implies_true, not_true_eq_false, not_false_eq_true, true_or, or_true, false_or, or_false, and_false, false_and, eq_self, n01_0, n01_1, nm1_0, k0, f9, k225, e, c1]
    refine BX9_sign_75 hR ?_
    rw [c1] at h
    simp (disch := omega) only [nI_ad, nI_ml, nI_lti, nI_lei, nI_eqi, nI_nn, nI_0le, nI_eq0, nI_0lt, nI_le0, nI_clamp, nI_pd, nI_sb, zOf_some, zOp_some, zOp_none, kI_int, kL_long, kO_ref, kO_null, nlt_T, nlt_F, nle_T, nle_F, neq_F, vpT, azUp_at, if_true, if_false, true_and, and_true, true_implies, false_implies, implies_true, not_true_eq_false, not_false_eq_true, true_or, or_true, false_or, or_false, and_false, false_and, eq_self, n01_0, n01_1, nm1_0]
    exact h
  rw [if_neg c1] at h
  by_cases c2 : c = 41
  · rw [if_pos c2, if_neg (by omega), if_neg (by omega)] at h
    have ho := ho c2
    rw [c2] at h
    by_cases o1 : o - 1 = 0
    · rw [o1] at h
      simp (disch := omega) only [nI_ad, nI_ml, nI_lti, nI_lei, nI_eqi, nI_nn, nI_0le, nI_eq0, nI_0lt, nI_le0, nI_clamp, nI_pd, nI_sb, zOf_some, zOp_some, zOp_none, kI_int, kL_long, kO_ref, kO_null, nlt_T, nlt_F, nle_T, nle_F, neq_F, vpT, azUp_at, if_true, if_false, true_and, and_true, true_implies, false_implies, implies_true, not_true_eq_false, not_false_eq_true, true_or, or_true, false_or, or_false, and_false, false_and, eq_self, n01_0, n01_1, nm1_0, k0, f9, k225, e, c1, c2, o1]
      refine BX9_sign_75 hR ?_
      simp (disch := omega) only [nI_ad, nI_ml, nI_lti, nI_lei, nI_eqi, nI_nn, nI_0le, nI_eq0, nI_0lt, nI_le0, nI_clamp, nI_pd, nI_sb, zOf_some, zOp_some, zOp_none, kI_int, kL_long, kO_ref, kO_null, nlt_T, nlt_F, nle_T, nle_F, neq_F, vpT, azUp_at, if_true, if_false, true_and, and_true, true_implies, false_implies, implies_true, not_true_eq_false, not_false_eq_true, true_or, or_true, false_or, or_false, and_false, false_and, eq_self, n01_0, n01_1, nm1_0]
      exact h
    · simp (disch := omega) only [nI_ad, nI_ml, nI_lti, nI_lei, nI_eqi, nI_nn, nI_0le, nI_eq0, nI_0lt, nI_le0, nI_clamp, nI_pd, nI_sb, zOf_some, zOp_some, zOp_none, kI_int, kL_long, kO_ref, kO_null, nlt_T, nlt_F, nle_T, nle_F, neq_F, vpT, azUp_at, if_true, if_false, true_and, and_true, true_implies, false_implies, implies_true, not_true_eq_false, not_false_eq_true, true_or, or_true, false_or, or_false, and_false, false_and, eq_self, n01_0, n01_1, nm1_0, k0, f9, k225, e, c1, c2, o1]
      refine BX9_sign_75 hR ?_
      simp (disch := omega) only [nI_ad, nI_ml, nI_lti, nI_lei, nI_eqi, nI_nn, nI_0le, nI_eq0, nI_0lt, nI_le0, nI_clamp, nI_pd, nI_sb, zOf_some, zOp_some, zOp_none, kI_int, kL_long, kO_ref, kO_null, nlt_T, nlt_F, nle_T, nle_F, neq_F, vpT, azUp_at, if_true, if_false, true_and, and_true, true_implies, false_implies, implies_true, not_true_eq_false, not_false_eq_true, true_or, or_true, false_or, or_false, and_false, false_and, eq_self, n01_0, n01_1, nm1_0, o1]
      exact h
  rw [if_neg c2] at h
  by_cases o0 : o = 0
  · subst o0
    by_cases c3 : c = 43
    · rw [if_pos ⟨rfl, Or.inl c3⟩, if_neg (by omega), c3] at h
      simp (disch := omega) only [nI_ad, nI_ml, nI_lti, nI_lei, nI_eqi, nI_nn, nI_0le, nI_eq0, nI_0lt, nI_le0, nI_clamp, nI_pd, nI_sb, zOf_some, zOp_some, zOp_none, kI_int, kL_long, kO_ref, kO_null, nlt_T, nlt_F, nle_T, nle_F, neq_F, vpT, azUp_at, if_true, if_false, true_and, and_true, true_implies, false_implies, implies_true, not_true_eq_false, not_false_eq_true, true_or, or_true, false_or, or_false, and_false, false_and, eq_self, n01_0, n01_1, nm1_0, k0, f9, k225, e, c3]
      refine BX9_sign_70 hR ?_
      simp (disch := omega) only [nI_ad, nI_ml, nI_lti, nI_lei, nI_eqi, nI_nn, nI_0le, nI_eq0, nI_0lt, nI_le0, nI_clamp, nI_pd, nI_sb, zOf_some, zOp_some, zOp_none, kI_int, kL_long, kO_ref, kO_null, nlt_T, nlt_F, nle_T, nle_F, neq_F, vpT, azUp_at, if_true, if_false, true_and, and_true, true_implies, false_implies, implies_true, not_true_eq_false, not_false_eq_true, true_or, or_true, false_or, or_false, and_false, false_and, eq_self, n01_0, n01_1, nm1_0]
      exact h
    by_cases c4 : c = 45
    · rw [if_pos ⟨rfl, Or.inr c4⟩, if_neg (by omega), c4] at h
      simp (disch := omega) only [nI_ad, nI_ml, nI_lti, nI_lei, nI_eqi, nI_nn, nI_0le, nI_eq0, nI_0lt, nI_le0, nI_clamp, nI_pd, nI_sb, zOf_some, zOp_some, zOp_none, kI_int, kL_long, kO_ref, kO_null, nlt_T, nlt_F, nle_T, nle_F, neq_F, vpT, azUp_at, if_true, if_false, true_and, and_true, true_implies, false_implies, implies_true, not_true_eq_false, not_false_eq_true, true_or, or_true, false_or, or_false, and_false, false_and, eq_self, n01_0, n01_1, nm1_0, k0, f9, k225, e, c4]
      refine BX9_sign_70 hR ?_
      simp (disch := omega) only [nI_ad, nI_ml, nI_lti, nI_lei, nI_eqi, nI_nn, nI_0le, nI_eq0, nI_0lt, nI_le0, nI_clamp, nI_pd, nI_sb, zOf_some, zOp_some, zOp_none, kI_int, kL_long, kO_ref, kO_null, nlt_T, nlt_F, nle_T, nle_F, neq_F, vpT, azUp_at, if_true, if_false, true_and, and_true, true_implies, false_implies, implies_true, not_true_eq_false, not_false_eq_true, true_or, or_true, false_or, or_false, and_false, false_and, eq_self, n01_0, n01_1, nm1_0]
      exact h
    rw [if_neg (by omega)] at h
    by_cases c5 : c = 42
    · rw [if_pos ⟨rfl, c5⟩, c5] at h
      simp (disch := omega) only [nI_ad, nI_ml, nI_lti, nI_lei, nI_eqi, nI_nn, nI_0le, nI_eq0, nI_0lt, nI_le0, nI_clamp, nI_pd, nI_sb, zOf_some, zOp_some, zOp_none, kI_int, kL_long, kO_ref, kO_null, nlt_T, nlt_F, nle_T, nle_F, neq_F, vpT, azUp_at, if_true, if_false, true_and, and_true, true_implies, false_implies, implies_true, not_true_eq_false, not_false_eq_true, true_or, or_true, false_or, or_false, and_false, false_and, eq_self, n01_0, n01_1, nm1_0, k0, f9, k225, e, c5]
      refine BX9_sign_75 hR ?_
      simp (disch := omega) only [nI_ad, nI_ml, nI_lti, nI_lei, nI_eqi, nI_nn, nI_0le, nI_eq0, nI_0lt, nI_le0, nI_clamp, nI_pd, nI_sb, zOf_some, zOp_some, zOp_none, kI_int, kL_long, kO_ref, kO_null, nlt_T, nlt_F, nle_T, nle_F, neq_F, vpT, azUp_at, if_true, if_false, true_and, and_true, true_implies, false_implies, implies_true, not_true_eq_false, not_false_eq_true, true_or, or_true, false_or, or_false, and_false, false_and, eq_self, n01_0, n01_1, nm1_0]
      exact h
    · rw [if_neg (by omega)] at h
      simp (disch := omega) only [nI_ad, nI_ml, nI_lti, nI_lei, nI_eqi, nI_nn, nI_0le, nI_eq0, nI_0lt, nI_le0, nI_clamp, nI_pd, nI_sb, zOf_some, zOp_some, zOp_none, kI_int, kL_long, kO_ref, kO_null, nlt_T, nlt_F, nle_T, nle_F, neq_F, vpT, azUp_at, if_true, if_false, true_and, and_true, true_implies, false_implies, implies_true, not_true_eq_false, not_false_eq_true, true_or, or_true, false_or, or_false, and_false, false_and, eq_self, n01_0, n01_1, nm1_0, k0, f9, k225, e, c1, c2, c3, c4]
      refine BX9_sign_75 hR ?_
      simp (disch := omega) only [nI_ad, nI_ml, nI_lti, nI_lei, nI_eqi, nI_nn, nI_0le, nI_eq0, nI_0lt, nI_le0, nI_clamp, nI_pd, nI_sb, zOf_some, zOp_some, zOp_none, kI_int, kL_long, kO_ref, kO_null, nlt_T, nlt_F, nle_T, nle_F, neq_F, vpT, azUp_at, if_true, if_false, true_and, and_true, true_implies, false_implies, implies_true, not_true_eq_false, not_false_eq_true, true_or, or_true, false_or, or_false, and_false, false_and, eq_self, n01_0, n01_1, nm1_0, c5]
      exact h
  · rw [if_neg (by omega), if_neg (by omega)] at h
    simp (disch := omega) only [nI_ad, nI_ml, nI_lti, nI_lei, nI_eqi, nI_nn, nI_0le, nI_eq0, nI_0lt, nI_le0, nI_clamp, nI_pd, nI_sb, zOf_some, zOp_some, zOp_none, kI_int, kL_long, kO_ref, kO_null, nlt_T, nlt_F, nle_T, nle_F, neq_F, vpT, azUp_at, if_true, if_false, true_and, and_true, true_implies, false_implies, implies_true, not_true_eq_false, not_false_eq_true, true_or, or_true, false_or, or_false, and_false, false_and, eq_self, n01_0, n01_1, nm1_0, k0, f9, k225, e, c1, c2, o0, Nat.add_zero]
    refine BX9_sign_75 hR ?_
    simp (disch := omega) only [nI_ad, nI_ml, nI_lti, nI_lei, nI_eqi, nI_nn, nI_0le, nI_eq0, nI_0lt, nI_le0, nI_clamp, nI_pd, nI_sb, zOf_some, zOp_some, zOp_none, kI_int, kL_long, kO_ref, kO_null, nlt_T, nlt_F, nle_T, nle_F, neq_F, vpT, azUp_at, if_true, if_false, true_and, and_true, true_implies, false_implies, implies_true, not_true_eq_false, not_false_eq_true, true_or, or_true, false_or, or_false, and_false, false_and, eq_self, n01_0, n01_1, nm1_0, o0]
    exact h
theorem S_opens (hR : azClosed R) (hK : MdOk kd F) (htk : tOK t) (hx : txt I t) (hx2 : x2 ≤ 80) {s p : Int32} : ∀ (w i o : Nat), (∀ x, x < w → tb t (i + x) = 40) → i + w ≤ x2 → o ≤ i → (∀ v, R d mX9_sign 11 [.ref 228, .int x1, .int (nI x2), .int (nI (o + w)), .int s, .int p, .int (nI (i + w)), v] [] ((n, z, kd), I, J, F) Q) → ∀ v, R d mX9_sign 11 [.ref 228, .int x1, .int (nI x2), .int (nI o), .int s, .int p, .int (nI i), v] [] ((n, z, kd), I, J, F) Q := by
  intro w
  induction w with
  | zero => intro i o _ _ _ h v; exact h v
  | succ w ih =>
    intro i o hw hi ho h v
    have h0 := hw 0 (by omega)
    rw [Nat.add_zero] at h0
    have hl := tb_len (t := t) (i := i) (by omega)
    refine S_scan1 hR hK htk hx hl (by omega) hx2 ho (fun e => by omega) fun v => ?_
    rw [h0]
    have e : nO o 40 = o + 1 := rfl
    rw [e, if_neg (by omega), if_neg (by omega)]
    exact ih (i + 1) (o + 1) (fun x hx => by
      have := hw (x + 1) (by omega)
      rw [show i + 1 + x = i + (x + 1) by omega]; exact this) (by omega) (by omega) (fun v => by
      have := h v
      rw [show o + 1 + w = o + (w + 1) by omega, show i + 1 + w = i + (w + 1) by omega]; exact this) v
theorem S_closes (hR : azClosed R) (hK : MdOk kd F) (htk : tOK t) (hx : txt I t) (hx2 : x2 ≤ 80) {s p : Int32} : ∀ (w i o : Nat), (∀ x, x < w → tb t (i + x) = 41) → i + w ≤ x2 → o + w ≤ i → (∀ v, R d mX9_sign 11 [.ref 228, .int x1, .int (nI x2), .int (nI o), .int s, .int p, .int (nI (i + w)), v] [] ((n, z, kd), I, J, F) Q) → ∀ v, R d mX9_sign 11 [.ref 228, .int x1, .int (nI x2), .int (nI (o + w)), .int s, .int p, .int (nI i), v] [] ((n, z, kd), I, J, F) Q := by
  intro w
  induction w with
  | zero => intro i o _ _ _ h v; exact h v
  | succ w ih =>
    intro i o hw hi ho h v
    have h0 := hw 0 (by omega)
    rw [Nat.add_zero] at h0
    have hl := tb_len (t := t) (i := i) (by omega)
    refine S_scan1 hR hK htk hx hl (by omega) hx2 ho (fun e => by omega) fun v => ?_
    rw [h0]
    have e : nO (o + (w + 1)) 41 = o + w := rfl
    rw [e, if_neg (by omega), if_neg (by omega)]
    exact ih (i + 1) o (fun x hx => by
      have := hw (x + 1) (by omega)
      rw [show i + 1 + x = i + (x + 1) by omega]; exact this) (by omega) (by omega) (fun v => by
      have := h v
      rw [show i + 1 + w = i + (w + 1) by omega]; exact this) v
/-- brackets, and what stands in them -/
theorem S_scanW (hR : azClosed R) (hK : MdOk kd F) (htk : tOK t) (hx : txt I t) (hx2 : x2 ≤ 80) {e : Ex}
    (hco : ∀ i j, co t e i j → j ≤ x2 → ∀ (o : Nat) (s p : Int32), o ≤ i → (∀ s' p' v, (o ≠ 0 → s' = s ∧ p' = p) → (o = 0 → rs t e i j s p s' p') → R d mX9_sign 11 [.ref 228, .int x1, .int (nI x2), .int (nI o), .int s', .int p', .int (nI j), v] [] ((n, z, kd), I, J, F) Q) → ∀ v, R d mX9_sign 11 [.ref 228, .int x1, .int (nI x2), .int (nI o), .int s, .int p, .int (nI i), v] [] ((n, z, kd), I, J, F) Q)
    {w i j : Nat} (hw : wr t w i j) (hc : co t e (i + w) (j - w)) (hj : j ≤ x2) {o : Nat} {s p : Int32} (ho : o ≤ i) (h : ∀ s' p' v, (o ≠ 0 ∨ w ≠ 0 → s' = s ∧ p' = p) → (o = 0 ∧ w = 0 → rs t e i j s p s' p') → R d mX9_sign 11 [.ref 228, .int x1, .int (nI x2), .int (nI o), .int s', .int p', .int (nI j), v] [] ((n, z, kd), I, J, F) Q) : ∀ v, R d mX9_sign 11 [.ref 228, .int x1, .int (nI x2), .int (nI o), .int s, .int p, .int (nI i), v] [] ((n, z, kd), I, J, F) Q := by
  have h1 := hw.1
  refine S_opens hR hK htk hx hx2 w i o (fun x hx => (hw.2 x hx).1) (by omega) ho ?_
  refine hco _ _ hc (by omega) (o + w) s p (by omega) fun s' p' v g1 g2 => ?_
  refine S_closes hR hK htk hx hx2 w (j - w) o (fun x hx => ?_) (by omega) (by omega) (fun v => ?_) v
  · have := (hw.2 (w - 1 - x) (by omega)).2
    rw [show j - 1 - (w - 1 - x) = j - w + x by omega] at this
    exact this
  · rw [show j - w + w = j by omega]
    refine h s' p' v (fun e => g1 (by omega)) fun ⟨e1, e2⟩ => ?_
    subst e1
    subst e2
    exact g2 rfl
theorem S_scanCo (hR : azClosed R) (hK : MdOk kd F) (htk : tOK t) (hx : txt I t) (hx2 : x2 ≤ 80) : ∀ (e : Ex) (i j : Nat), co t e i j → j ≤ x2 → ∀ (o : Nat) (s p : Int32), o ≤ i → (∀ s' p' v, (o ≠ 0 → s' = s ∧ p' = p) → (o = 0 → rs t e i j s p s' p') → R d mX9_sign 11 [.ref 228, .int x1, .int (nI x2), .int (nI o), .int s', .int p', .int (nI j), v] [] ((n, z, kd), I, J, F) Q) → ∀ v, R d mX9_sign 11 [.ref 228, .int x1, .int (nI x2), .int (nI o), .int s, .int p, .int (nI i), v] [] ((n, z, kd), I, J, F) Q := by
  intro e
  induction e with
  | leaf m =>
    intro i j hc hj o s p ho h
    -- a byte that is none of the signs
    have one : ∀ k, i ≤ k → k < x2 → 48 ≤ tb t k → (∀ v, R d mX9_sign 11 [.ref 228, .int x1, .int (nI x2), .int (nI o), .int s, .int p, .int (nI (k + 1)), v] [] ((n, z, kd), I, J, F) Q) → ∀ v, R d mX9_sign 11 [.ref 228, .int x1, .int (nI x2), .int (nI o), .int s, .int p, .int (nI k), v] [] ((n, z, kd), I, J, F) Q := by
      intro k hik hk hb hh v
      have hl := tb_len (t := t) (i := k) (by omega)
      refine S_scan1 hR hK htk hx hl hk hx2 (by omega) (fun e => by omega) fun v => ?_
      have e : nO o (tb t k) = o := by unfold nO; rw [if_neg (by omega), if_neg (by omega)]
      rw [e, if_neg (by omega), if_neg (by omega)]
      exact hh v
    have fin := fun v => h s p v (fun _ => ⟨rfl, rfl⟩) fun _ => ⟨rfl, rfl⟩
    rcases hc with ⟨e1, e2, _⟩ | ⟨e1, e2, e3, _⟩ | ⟨e1, e2, e3, _⟩
    · subst e1
      have := isFg_b e2
      exact one i (Nat.le_refl _) (by omega) (by omega) fin
    · subst e1
      have := isFg_b e2
      have := isFg_b e3
      exact one i (Nat.le_refl _) (by omega) (by omega) (one (i + 1) (by omega) (by omega) (by omega) fin)
    · subst e1
      exact one i (Nat.le_refl _) (by omega) (by omega) fin
  | branch c a b iha ihb =>
    intro i j hc hj o s p ho h
    obtain ⟨k, hk⟩ := hc
    obtain ⟨h1, h2, ⟨wa, a1, a2, a3⟩, wb, b1, b2, b3⟩ := id hk
    have l1 := a1.1
    have l2 := b1.1
    have hl := tb_len (t := t) (i := k) (by omega)
    refine S_scanW hR hK htk hx hx2 iha a1 a2 (by omega) ho fun s1 p1 v g1 g2 => ?_
    refine S_scan1 hR hK htk hx hl (by omega) hx2 (by omega) (fun e => by omega) fun v => ?_
    have e : nO o (tb t k) = o := by unfold nO; rw [if_neg (by omega), if_neg (by omega)]
    rw [e, h1]
    refine S_scanW hR hK htk hx hx2 ihb b1 b2 hj (by omega) (fun s2 p2 v' g3 g4 => ?_) v
    refine h s2 p2 v' (fun o0 => ?_) fun o0 => ?_
    · obtain ⟨q1, q2⟩ := g3 (Or.inl o0)
      obtain ⟨q3, q4⟩ := g1 (Or.inl o0)
      rw [q1, q2, if_neg (by omega), if_neg (by omega)]
      exact ⟨q3, q4⟩
    · refine ⟨k, by omega, by omega, hk, fun c42 => ?_, fun c42 => ?_⟩
      · -- a product
        have e1 : lvS c = 1 := by unfold lvS; rw [if_pos c42]
        have hs1 : s1 = s := by
          by_cases w0 : wa = 0
          · have := g2 ⟨o0, w0⟩
            have hl := a3 w0
            rw [e1] at hl
            revert this hl
            cases a with
            | leaf m => intro h _; exact h.1
            | branch c' a' b' =>
              rintro ⟨k', _, _, _, h42, _⟩ hl
              have : c' = 42 := by
                have hl : lvS c' ≤ 1 := hl
                unfold lvS at hl
                split at hl
                · assumption
                · omega
              exact (h42 this).1
          · exact (g1 (Or.inr w0)).1
        have hb : s2 = (if o = 0 ∧ (c = 43 ∨ c = 45) then nI k else s1) ∧ p2 = (if o = 0 ∧ c = 42 then nI k else p1) := by
          by_cases w0 : wb = 0
          · have := g4 ⟨o0, w0⟩
            have hl := b3 w0
            rw [e1] at hl
            revert this hl
            cases b with
            | leaf m => intro h _; exact h
            | branch c' a' b' =>
              intro _ hl
              have hl : lvS c' < 1 := hl
              unfold lvS at hl
              split at hl <;> omega
          · exact g3 (Or.inr w0)
        rw [if_neg (by omega), if_pos ⟨o0, c42⟩] at hb
        exact ⟨by rw [hb.1, hs1], hb.2⟩
      · have e1 : lvS c = 2 := by unfold lvS; rw [if_neg c42]
        have hc' : c = 43 ∨ c = 45 := by omega
        have hb : s2 = (if o = 0 ∧ (c = 43 ∨ c = 45) then nI k else s1) := by
          by_cases w0 : wb = 0
          · have := g4 ⟨o0, w0⟩
            have hl := b3 w0
            rw [e1] at hl
            revert this hl
            cases b with
            | leaf m => intro h _; exact h.1
            | branch c' a' b' =>
              rintro ⟨k', _, _, _, h42, _⟩ hl
              have : c' = 42 := by
                have hl : lvS c' < 2 := hl
                unfold lvS at hl
                split at hl
                · assumption
                · omega
              exact (h42 this).1
          · exact (g3 (Or.inr w0)).1
        rw [if_pos ⟨o0, hc'⟩] at hb
        exact hb
/-- where the loosest sign of an expression stands -/
def sgn (t : List Nat) (e : Ex) (i j : Nat) (v : Int32) : Prop := match e with
  | .leaf _ => v = -(nI 1)
  | .branch c a b => ∃ k, i ≤ k ∧ k < j ∧ cut t c a b i j k ∧ v = nI k
theorem S_sign9 (hR : azClosed R) (hK : MdOk kd F) (htk : tOK t) (hx : txt I t) {e : Ex} {w i j : Nat} (hj : j ≤ t.length) (hw : wr t w i j) (hc : co t e (i + w) (j - w)) (h0 : w ≠ 0 → Q (some (.int (-(nI 1)))) ((n, z, kd), I, J, F)) (h1 : w = 0 → ∀ v, sgn t e i j v → Q (some (.int v)) ((n, z, kd), I, J, F)) : R d mX9_sign 0 [.ref 228, .int (nI i), .int (nI j), .retAddr 0, .retAddr 0, .retAddr 0, .retAddr 0, .retAddr 0] [] ((n, z, kd), I, J, F) Q := by
  have ht := htk.1
  have hng := m1_neg
  refine BX9_sign_0 hR ?_
  refine S_scanW hR hK htk hx (x2 := j) (by omega) (fun i' j' => S_scanCo hR hK htk hx (by omega) e i' j') hw hc (Nat.le_refl _) (o := 0) (Nat.zero_le _) (fun s' p' v g1 g2 => ?_) _
  refine BX9_sign_11 hR ?_
  by_cases w0 : w = 0
  · have h1 := h1 w0
    have := g2 ⟨rfl, w0⟩
    revert this h1
    cases e with
    | leaf m =>
      rintro h1 ⟨rfl, rfl⟩
      have := h1 _ rfl
      simp (disch := omega) only [nI_ad, nI_ml, nI_lti, nI_lei, nI_eqi, nI_nn, nI_0le, nI_eq0, nI_0lt, nI_le0, nI_clamp, nI_pd, nI_sb, zOf_some, zOp_some, zOp_none, kI_int, kL_long, kO_ref, kO_null, nlt_T, nlt_F, nle_T, nle_F, neq_F, vpT, azUp_at, if_true, if_false, true_and, and_true, true_implies, false_implies, implies_true, not_true_eq_false, not_false_eq_true, true_or, or_true, false_or, or_false, and_false, false_and, eq_self, n01_0, n01_1, nm1_0, hng]
      exact this
    | branch c a b =>
      rintro h1 ⟨k, k1, k2, k3, k4, k5⟩
      have hq := h1 (nI k) ⟨k, k1, k2, k3, rfl⟩
      by_cases c42 : c = 42
      · obtain ⟨rfl, rfl⟩ := k4 c42
        simp (disch := omega) only [nI_ad, nI_ml, nI_lti, nI_lei, nI_eqi, nI_nn, nI_0le, nI_eq0, nI_0lt, nI_le0, nI_clamp, nI_pd, nI_sb, zOf_some, zOp_some, zOp_none, kI_int, kL_long, kO_ref, kO_null, nlt_T, nlt_F, nle_T, nle_F, neq_F, vpT, azUp_at, if_true, if_false, true_and, and_true, true_implies, false_implies, implies_true, not_true_eq_false, not_false_eq_true, true_or, or_true, false_or, or_false, and_false, false_and, eq_self, n01_0, n01_1, nm1_0, hng]
        exact hq
      · obtain rfl := k5 c42
        simp (disch := omega) only [nI_ad, nI_ml, nI_lti, nI_lei, nI_eqi, nI_nn, nI_0le, nI_eq0, nI_0lt, nI_le0, nI_clamp, nI_pd, nI_sb, zOf_some, zOp_some, zOp_none, kI_int, kL_long, kO_ref, kO_null, nlt_T, nlt_F, nle_T, nle_F, neq_F, vpT, azUp_at, if_true, if_false, true_and, and_true, true_implies, false_implies, implies_true, not_true_eq_false, not_false_eq_true, true_or, or_true, false_or, or_false, and_false, false_and, eq_self, n01_0, n01_1, nm1_0]
        exact hq
  · obtain ⟨rfl, rfl⟩ := g1 (Or.inr w0)
    have := h0 w0
    simp (disch := omega) only [nI_ad, nI_ml, nI_lti, nI_lei, nI_eqi, nI_nn, nI_0le, nI_eq0, nI_0lt, nI_le0, nI_clamp, nI_pd, nI_sb, zOf_some, zOp_some, zOp_none, kI_int, kL_long, kO_ref, kO_null, nlt_T, nlt_F, nle_T, nle_F, neq_F, vpT, azUp_at, if_true, if_false, true_and, and_true, true_implies, false_implies, implies_true, not_true_eq_false, not_false_eq_true, true_or, or_true, false_or, or_false, and_false, false_and, eq_self, n01_0, n01_1, nm1_0, hng]
    exact this
end S9
