/-! THE REFERENCE: word. -/
/-- the number of a word of so many letters -/
def wN (t : List Nat) (i : Nat) : Nat → Nat
  | 0 => 0
  | n + 1 => wN t i n * 27 + (tb t (i + n) - 96)
def wV (t : List Nat) (i n : Nat) : Int32 := if n ≤ 6 then nI (wN t i n) else -(nI 1)
theorem wN_0 {t : List Nat} {i : Nat} : wN t i 0 = 0 := rfl
theorem wN_s {t : List Nat} {i n : Nat} : wN t i (n + 1) = wN t i n * 27 + (tb t (i + n) - 96) := rfl
theorem wN_lt {t : List Nat} {i : Nat} : ∀ n, n ≤ 6 → (∀ k, k < n → tb t (i + k) ≤ 122) → wN t i n < 27 ^ n := by
  intro n
  induction n with
  | zero => intro _ _; exact Nat.one_pos
  | succ n ih =>
    intro hn h
    have h1 := ih (by omega) fun k hk => h k (by omega)
    have h2 := h n (by omega)
    rw [wN_s, Nat.pow_succ]
    omega
theorem azUp_up {I : azI} {a k : Nat} {v w : Int32} : azUp (azUp I a k v) a k w = azUp I a k w := by
  funext b j
  unfold azUp
  split
  · split <;> rfl
  · rfl
theorem kOf_iff {t : List Nat} {b e : Nat} : (kOf t b e = 0 ↔ e = b + 2 ∧ tb t b = 105 ∧ tb t (b + 1) = 110) ∧ (kOf t b e = 1 ↔ e = b + 2 ∧ tb t b = 105 ∧ tb t (b + 1) = 102) ∧ (kOf t b e = 2 ↔ e = b + 3 ∧ tb t b = 111 ∧ tb t (b + 1) = 117 ∧ tb t (b + 2) = 116) ∧ (kOf t b e = 3 ↔ e = b + 5 ∧ tb t b = 101 ∧ tb t (b + 1) = 109 ∧ tb t (b + 2) = 112 ∧ tb t (b + 3) = 116 ∧ tb t (b + 4) = 121) := by
  unfold kOf
  split
  · omega
  · split
    · omega
    · split
      · omega
      · split <;> omega
theorem wN_k {t : List Nat} {i n x : Nat} (h : tb t (i + n) = x + 97) : wN t i (n + 1) = wN t i n * 27 + (x + 1) := by
  rw [wN_s, h]
  omega
theorem tb_x {t : List Nat} {k : Nat} (h : 97 ≤ tb t k ∧ tb t k ≤ 122) : ∃ x, x ≤ 25 ∧ tb t k = x + 97 := ⟨tb t k - 97, by omega, by omega⟩
theorem wN_cases {t : List Nat} {i : Nat} : ∀ n, n ≤ 6 → (∀ k, k < n → 97 ≤ tb t (i + k) ∧ tb t (i + k) ≤ 122) → (wN t i n = 257 ↔ n = 2 ∧ tb t i = 105 ∧ tb t (i + 1) = 110) ∧ (wN t i n = 249 ↔ n = 2 ∧ tb t i = 105 ∧ tb t (i + 1) = 102) ∧ (wN t i n = 11522 ↔ n = 3 ∧ tb t i = 111 ∧ tb t (i + 1) = 117 ∧ tb t (i + 2) = 116) ∧ (wN t i n = 2925313 ↔ n = 5 ∧ tb t i = 101 ∧ tb t (i + 1) = 109 ∧ tb t (i + 2) = 112 ∧ tb t (i + 3) = 116 ∧ tb t (i + 4) = 121) := by
  intro n hn h
  by_cases c0 : n = 0
  · subst c0; rw [wN_0]; refine ⟨⟨fun q => ?_, fun q => ?_⟩, ⟨fun q => ?_, fun q => ?_⟩, ⟨fun q => ?_, fun q => ?_⟩, fun q => ?_, fun q => ?_⟩ <;> omega
  obtain ⟨x0, b0, e0⟩ := tb_x (h 0 (by omega))
  have w1 := wN_k e0
  rw [wN_0] at w1
  rw [Nat.add_zero] at e0
  by_cases c1 : n = 1
  · subst c1; rw [w1]; refine ⟨⟨fun q => ?_, fun q => ?_⟩, ⟨fun q => ?_, fun q => ?_⟩, ⟨fun q => ?_, fun q => ?_⟩, fun q => ?_, fun q => ?_⟩ <;> omega
  obtain ⟨x1, b1, e1⟩ := tb_x (h 1 (by omega))
  have w2 := wN_k e1
  by_cases c2 : n = 2
  · subst c2; rw [w2, w1, e0, e1]; refine ⟨⟨fun q => ?_, fun q => ?_⟩, ⟨fun q => ?_, fun q => ?_⟩, ⟨fun q => ?_, fun q => ?_⟩, fun q => ?_, fun q => ?_⟩ <;> first | omega | (have p0 : x0 = 8 := (by omega); subst p0; omega)
  obtain ⟨x2, b2, e2⟩ := tb_x (h 2 (by omega))
  have w3 := wN_k e2
  by_cases c3 : n = 3
  · subst c3; rw [w3, w2, w1, e0, e1, e2]; refine ⟨⟨fun q => ?_, fun q => ?_⟩, ⟨fun q => ?_, fun q => ?_⟩, ⟨fun q => ?_, fun q => ?_⟩, fun q => ?_, fun q => ?_⟩ <;> first | omega | (have p0 : x0 = 14 := (by omega); subst p0; have p1 : x1 = 20 := (by omega); subst p1; omega)
  obtain ⟨x3, b3, e3⟩ := tb_x (h 3 (by omega))
  have w4 := wN_k e3
  by_cases c4 : n = 4
  · subst c4; rw [w4, w3, w2, w1]; refine ⟨⟨fun q => ?_, fun q => ?_⟩, ⟨fun q => ?_, fun q => ?_⟩, ⟨fun q => ?_, fun q => ?_⟩, fun q => ?_, fun q => ?_⟩ <;> omega
  obtain ⟨x4, b4, e4⟩ := tb_x (h 4 (by omega))
  have w5 := wN_k e4
  by_cases c5 : n = 5
  · subst c5; rw [w5, w4, w3, w2, w1, e0, e1, e2, e3, e4]; refine ⟨⟨fun q => ?_, fun q => ?_⟩, ⟨fun q => ?_, fun q => ?_⟩, ⟨fun q => ?_, fun q => ?_⟩, fun q => ?_, fun q => ?_⟩ <;> first | omega | (have p0 : x0 = 4 := (by omega); subst p0; have p1 : x1 = 12 := (by omega); subst p1; have p2 : x2 = 15 := (by omega); subst p2; have p3 : x3 = 19 := (by omega); subst p3; omega)
  obtain ⟨x5, b5, e5⟩ := tb_x (h 5 (by omega))
  have w6 := wN_k e5
  obtain rfl : n = 6 := by omega
  rw [w6, w5, w4, w3, w2, w1]
  refine ⟨⟨fun q => ?_, fun q => ?_⟩, ⟨fun q => ?_, fun q => ?_⟩, ⟨fun q => ?_, fun q => ?_⟩, fun q => ?_, fun q => ?_⟩ <;> omega
/-- a word's number tells its kind -/
theorem wV_iff {t : List Nat} {i n : Nat} (h : ∀ k, k < n → 97 ≤ tb t (i + k) ∧ tb t (i + k) ≤ 122) : (wV t i n = nI 257 ↔ kOf t i (i + n) = 0) ∧ (wV t i n = nI 249 ↔ kOf t i (i + n) = 1) ∧ (wV t i n = nI 11522 ↔ kOf t i (i + n) = 2) ∧ (wV t i n = nI 2925313 ↔ kOf t i (i + n) = 3) := by
  obtain ⟨k0, k1, k2, k3⟩ := kOf_iff (t := t) (b := i) (e := i + n)
  rw [k0, k1, k2, k3]
  unfold wV
  by_cases c : n ≤ 6
  · rw [if_pos c]
    have hl := wN_lt (t := t) (i := i) n c fun k hk => (h k hk).2
    have hp : 27 ^ n ≤ 27 ^ 6 := Nat.pow_le_pow_right (by decide) c
    have hb : wN t i n < 2 ^ 31 := by omega
    rw [nI_eqi hb (by decide), nI_eqi hb (by decide), nI_eqi hb (by decide), nI_eqi hb (by decide)]
    obtain ⟨w0, w1, w2, w3⟩ := wN_cases n c h
    rw [w0, w1, w2, w3]
    omega
  · rw [if_neg c, nI_neg1 (by decide), nI_neg1 (by decide), nI_neg1 (by decide), nI_neg1 (by decide)]
    refine ⟨⟨fun f => f.elim, fun q => by omega⟩, ⟨fun f => f.elim, fun q => by omega⟩, ⟨fun f => f.elim, fun q => by omega⟩, fun f => f.elim, fun q => by omega⟩
section S9
variable {R : azP} {d n z : Nat} {kd : azK} {I : azI} {J : azJ} {F : azR} {Q : azQ} {t : List Nat} {kb : Nat}
theorem S_word9 (hR : azClosed R) (hK : MdOk kd F) (htk : tOK t) {i : Nat} (hx : txt I t) (h11 : I 228 11 = nI i) (hi : i ≤ t.length) (h : (∀ k, k < wEnd t 80 i - i → 97 ≤ tb t (i + k) ∧ tb t (i + k) ≤ 122) → Q (some (.int (wV t i (wEnd t 80 i - i)))) ((n, z, kd), azUp I 228 11 (nI (wEnd t 80 i)), J, F)) : R (d + 1) mX9_word 0 [.ref 228, .retAddr 0, .retAddr 0] [] ((n, z, kd), I, J, F) Q := by
  have k0 := hK.1
  have ht := htk.1
  have main : ∀ (m k : Nat) (I1 : azI), t.length ≤ m + (i + k) → i + k ≤ t.length → I1 = azUp I 228 11 (nI (i + k)) → (∀ l, l < k → 97 ≤ tb t (i + l) ∧ tb t (i + l) ≤ 122) → wEnd t m (i + k) = wEnd t 80 i → R (d + 1) mX9_word 4 [.ref 228, .int (wV t i k), .int (nI k)] [] ((n, z, kd), I1, J, F) Q := by
    intro m
    induction m with
    | zero =>
      intro k I1 hm hk e1 hl hw
      have hx1 : txt I1 t := by rw [e1]; exact (frp.refl.up11).txt hx
      have e11 : I1 228 11 = nI (i + k) := by rw [e1, azUp_s]
      have hw : i + k = wEnd t 80 i := hw
      refine BX9_word_4 hR ⟨k0, S_peek9 hR hK ht hx1 e11 (by omega) ?_⟩
      rw [tb_0 (by omega)]
      simp (disch := omega) only [nI_ad, nI_ml, nI_lti, nI_lei, nI_eqi, nI_nn, nI_0le, nI_eq0, nI_0lt, nI_le0, nI_clamp, nI_pd, nI_sb, zOf_some, zOp_some, zOp_none, kI_int, kL_long, kO_ref, kO_null, nlt_T, nlt_F, nle_T, nle_F, neq_F, vpT, azUp_at, if_true, if_false, true_and, and_true, true_implies, false_implies, implies_true, not_true_eq_false, not_false_eq_true, true_or, or_true, false_or, or_false, and_false, false_and, eq_self, n01_0, n01_1, nm1_0]
      rw [← hw, Nat.add_sub_cancel_left] at h
      rw [e1]
      exact h hl
    | succ m ih =>
      intro k I1 hm hk e1 hl hw
      have hx1 : txt I1 t := by rw [e1]; exact (frp.refl.up11).txt hx
      have e11 : I1 228 11 = nI (i + k) := by rw [e1, azUp_s]
      have hb := tb_lt htk (i := i + k)
      have ew : wEnd t (m + 1) (i + k) = if 97 ≤ tb t (i + k) ∧ tb t (i + k) ≤ 122 then wEnd t m (i + k + 1) else i + k := rfl
      rw [ew] at hw
      refine BX9_word_4 hR ⟨k0, S_peek9 hR hK ht hx1 e11 (by omega) ?_⟩
      by_cases c : 97 ≤ tb t (i + k) ∧ tb t (i + k) ≤ 122
      · rw [if_pos c] at hw
        have hkl := tb_len (t := t) (i := i + k) (by omega)
        have next : ∀ v, v = wV t i (k + 1) → R (d + 1) mX9_word 4 [.ref 228, .int v, .int (nI (k + 1))] [] ((n, z, kd), azUp I1 228 11 (nI (i + k + 1)), J, F) Q := by
          intro v hv
          rw [hv]
          refine ih (k + 1) _ (by omega) (by omega) (by rw [e1, azUp_up, Nat.add_assoc]) (fun l hl' => ?_) hw
          by_cases el : l = k
          · rw [el]; exact c
          · exact hl l (by omega)
        simp (disch := omega) only [nI_ad, nI_ml, nI_lti, nI_lei, nI_eqi, nI_nn, nI_0le, nI_eq0, nI_0lt, nI_le0, nI_clamp, nI_pd, nI_sb, zOf_some, zOp_some, zOp_none, kI_int, kL_long, kO_ref, kO_null, nlt_T, nlt_F, nle_T, nle_F, neq_F, vpT, azUp_at, if_true, if_false, true_and, and_true, true_implies, false_implies, implies_true, not_true_eq_false, not_false_eq_true, true_or, or_true, false_or, or_false, and_false, false_and, eq_self, n01_0, n01_1, nm1_0, k0]
        refine S_peek9 hR hK ht hx1 e11 (by omega) ?_
        by_cases c6 : 6 ≤ k
        · simp (disch := omega) only [nI_ad, nI_ml, nI_lti, nI_lei, nI_eqi, nI_nn, nI_0le, nI_eq0, nI_0lt, nI_le0, nI_clamp, nI_pd, nI_sb, zOf_some, zOp_some, zOp_none, kI_int, kL_long, kO_ref, kO_null, nlt_T, nlt_F, nle_T, nle_F, neq_F, vpT, azUp_at, if_true, if_false, true_and, and_true, true_implies, false_implies, implies_true, not_true_eq_false, not_false_eq_true, true_or, or_true, false_or, or_false, and_false, false_and, eq_self, n01_0, n01_1, nm1_0, c6, k0, e11]
          refine next _ ?_
          unfold wV
          rw [if_neg (by omega)]
        · simp (disch := omega) only [nI_ad, nI_ml, nI_lti, nI_lei, nI_eqi, nI_nn, nI_0le, nI_eq0, nI_0lt, nI_le0, nI_clamp, nI_pd, nI_sb, zOf_some, zOp_some, zOp_none, kI_int, kL_long, kO_ref, kO_null, nlt_T, nlt_F, nle_T, nle_F, neq_F, vpT, azUp_at, if_true, if_false, true_and, and_true, true_implies, false_implies, implies_true, not_true_eq_false, not_false_eq_true, true_or, or_true, false_or, or_false, and_false, false_and, eq_self, n01_0, n01_1, nm1_0, c6, k0]
          refine S_peek9 hR hK ht hx1 e11 (by omega) ?_
          have ev : wV t i k = nI (wN t i k) := by unfold wV; rw [if_pos (by omega)]
          rw [ev]
          simp (disch := omega) only [nI_ad, nI_ml, nI_lti, nI_lei, nI_eqi, nI_nn, nI_0le, nI_eq0, nI_0lt, nI_le0, nI_clamp, nI_pd, nI_sb, zOf_some, zOp_some, zOp_none, kI_int, kL_long, kO_ref, kO_null, nlt_T, nlt_F, nle_T, nle_F, neq_F, vpT, azUp_at, if_true, if_false, true_and, and_true, true_implies, false_implies, implies_true, not_true_eq_false, not_false_eq_true, true_or, or_true, false_or, or_false, and_false, false_and, eq_self, n01_0, n01_1, nm1_0, k0, e11]
          refine next _ ?_
          unfold wV
          rw [if_pos (by omega), wN_s]
          congr 1
          omega
      · rw [if_neg c] at hw
        have fin : Q (some (.int (wV t i k))) ((n, z, kd), I1, J, F) := by
          rw [← hw, Nat.add_sub_cancel_left] at h
          rw [e1]
          exact h hl
        by_cases c1 : tb t (i + k) < 97
        · simp (disch := omega) only [nI_ad, nI_ml, nI_lti, nI_lei, nI_eqi, nI_nn, nI_0le, nI_eq0, nI_0lt, nI_le0, nI_clamp, nI_pd, nI_sb, zOf_some, zOp_some, zOp_none, kI_int, kL_long, kO_ref, kO_null, nlt_T, nlt_F, nle_T, nle_F, neq_F, vpT, azUp_at, if_true, if_false, true_and, and_true, true_implies, false_implies, implies_true, not_true_eq_false, not_false_eq_true, true_or, or_true, false_or, or_false, and_false, false_and, eq_self, n01_0, n01_1, nm1_0, c1]; exact fin
        · simp (disch := omega) only [nI_ad, nI_ml, nI_lti, nI_lei, nI_eqi, nI_nn, nI_0le, nI_eq0, nI_0lt, nI_le0, nI_clamp, nI_pd, nI_sb, zOf_some, zOp_some, zOp_none, kI_int, kL_long, kO_ref, kO_null, nlt_T, nlt_F, nle_T, nle_F, neq_F, vpT, azUp_at, if_true, if_false, true_and, and_true, true_implies, false_implies, implies_true, not_true_eq_false, not_false_eq_true, true_or, or_true, false_or, or_false, and_false, false_and, eq_self, n01_0, n01_1, nm1_0, c1, k0]
          refine S_peek9 hR hK ht hx1 e11 (by omega) ?_
          simp (disch := omega) only [nI_ad, nI_ml, nI_lti, nI_lei, nI_eqi, nI_nn, nI_0le, nI_eq0, nI_0lt, nI_le0, nI_clamp, nI_pd, nI_sb, zOf_some, zOp_some, zOp_none, kI_int, kL_long, kO_ref, kO_null, nlt_T, nlt_F, nle_T, nle_F, neq_F, vpT, azUp_at, if_true, if_false, true_and, and_true, true_implies, false_implies, implies_true, not_true_eq_false, not_false_eq_true, true_or, or_true, false_or, or_false, and_false, false_and, eq_self, n01_0, n01_1, nm1_0]
          exact fin
  refine BX9_word_0 hR ?_
  exact main 80 0 I (by omega) (by omega) (by rw [Nat.add_zero, ← h11, azUp_id]) (fun l hl => absurd hl (Nat.not_lt_zero _)) rfl
end S9
