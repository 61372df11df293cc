/-! BALANCE: the class's rows of whole numbers. -/
section SB
variable {R : azP} {d n z : Nat} {kd : azK} {I : azI} {J : azJ} {F : azR} {Q : azQ} {V : Nat → Nat → Int}
/-- rows of whole numbers -/
def cZ (J : azJ) (V : Nat → Nat → Int) : Prop := ∀ i, i < 10 → ∀ p, p < 10 → J 221 (10 * i + p) = lO (V i p)
theorem cZ.cong {V' : Nat → Nat → Int} (h : cZ J V) (e : ∀ i p, i < 10 → p < 10 → V' i p = V i p) : cZ J V' := fun i hi p hp => by rw [e i p hi hp]; exact h i hi p hp
theorem cZ.up (h : cZ J V) {r q : Nat} (hq : q < 10) {x : Int} : cZ (azUp J 221 (10 * r + q) (lO x)) (fun i p => if i = r ∧ p = q then x else V i p) := fun i hi p hp => by
  dsimp only
  by_cases e : i = r ∧ p = q
  · obtain ⟨rfl, rfl⟩ := e
    rw [if_pos (show i = i ∧ p = p from ⟨rfl, rfl⟩), upJ_s]
  · have hne : 10 * i + p ≠ 10 * r + q := fun h => e ⟨by omega, by omega⟩
    rw [if_neg e, upJ_nk hne]
    exact h i hi p hp
theorem S_rowWith (hR : azClosed R) (hB : BlOk kd F 220) (hV : cZ J V) {p r0 : Nat} (hp : p < 10) (hr0 : r0 ≤ 10) (hs : ∀ i, i < 10 → sml (V i p)) (h0 : (∀ r, r0 ≤ r → r < 10 → V r p = 0) → Q (some (.int (-(nI 1)))) ((n, z, kd), I, J, F)) (h1 : ∀ r, r0 ≤ r → r < 10 → V r p ≠ 0 → (∀ q, r0 ≤ q → q < r → V q p = 0) → Q (some (.int (nI r))) ((n, z, kd), I, J, F)) : R d mX0_rowWith 0 [.ref 220, .int (nI p), .int (nI r0), .retAddr 0] [] ((n, z, kd), I, J, F) Q := by
  obtain ⟨k0, k1, k2, f0, f1⟩ := hB
  have main : ∀ s r, s + r = 10 → r0 ≤ r → (∀ q, r0 ≤ q → q < r → V q p = 0) → R d mX0_rowWith 2 [.ref 220, .int (nI p), .int (nI r0), .int (nI r)] [] ((n, z, kd), I, J, F) Q := by
    intro s
    induction s with
    | zero =>
      intro r hr _ hz
      obtain rfl : r = 10 := by omega
      refine BX0_rowWith_2 hR ?_
      simp (disch := omega) only [nI_ad, nI_ml, nI_lti, nI_lei, nI_eqi, nI_nn, nI_0le, nI_eq0, nI_0lt, nI_le0, nI_clamp, nI_pd, nI_sb, zOf_some, zOp_some, zOp_none, kI_int, kL_long, kO_ref, kO_null, nlt_T, nlt_F, nle_T, nle_F, neq_F, vpT, azUp_at, if_true, if_false, true_and, and_true, true_implies, false_implies, implies_true, not_true_eq_false, not_false_eq_true, true_or, or_true, false_or, or_false, and_false, false_and, eq_self, n01_0, n01_1, nm1_0]
      exact h0 hz
    | succ s ih =>
      intro r hr hle hz
      have hr10 : r < 10 := by omega
      have e := hV r hr10 p hp
      have hb : r * 10 + p < 100 := by omega
      refine BX0_rowWith_2 hR ?_
      simp (disch := omega) only [nI_ad, nI_ml, nI_lti, nI_lei, nI_eqi, nI_nn, nI_0le, nI_eq0, nI_0lt, nI_le0, nI_clamp, nI_pd, nI_sb, zOf_some, zOp_some, zOp_none, kI_int, kL_long, kO_ref, kO_null, nlt_T, nlt_F, nle_T, nle_F, neq_F, vpT, azUp_at, if_true, if_false, true_and, and_true, true_implies, false_implies, implies_true, not_true_eq_false, not_false_eq_true, true_or, or_true, false_or, or_false, and_false, false_and, eq_self, n01_0, n01_1, nm1_0, k0, f0, k1]
      rw [Nat.mul_comm r 10, e, lN_0, lg_eq0 (hs r hr10) sml_0]
      refine ⟨fun e0 => ?_, fun e0 => h1 r hle hr10 e0 hz⟩
      refine ih (r + 1) (by omega) (by omega) fun q h1 h2 => ?_
      by_cases eq : q = r
      · rw [eq]; exact e0
      · exact hz q h1 (by omega)
  refine BX0_rowWith_0 hR ?_
  exact main (10 - r0) r0 (by omega) (Nat.le_refl _) fun q h1 h2 => absurd h1 (by omega)
theorem S_swapRows (hR : azClosed R) (hB : BlOk kd F 220) (hV : cZ J V) {r o : Nat} (hr : r < 10) (ho : o < 10) (h : ∀ J', (∀ c, c ≠ 221 → J' c = J c) → cZ J' (fun i p => if i = r then V o p else if i = o then V r p else V i p) → Q none ((n, z, kd), I, J', F)) : R d mX0_swapRows 0 [.ref 220, .int (nI r), .int (nI o), .retAddr 0, .retAddr 0, .retAddr 0] [] ((n, z, kd), I, J, F) Q := by
  obtain ⟨k0, k1, k2, f0, f1⟩ := hB
  have main : ∀ s p (J1 : azJ) (w4 w5 : Value), s + p = 10 → (∀ c, c ≠ 221 → J1 c = J c) → cZ J1 (fun i q => if q < p then (if i = r then V o q else if i = o then V r q else V i q) else V i q) → R d mX0_swapRows 2 [.ref 220, .int (nI r), .int (nI o), .int (nI p), w4, w5] [] ((n, z, kd), I, J1, F) Q := by
    intro s
    induction s with
    | zero =>
      intro p J1 w4 w5 hp hf hc
      obtain rfl : p = 10 := by omega
      have := h J1 hf (hc.cong fun i q hi hq => by rw [if_pos hq])
      refine BX0_swapRows_2 hR ?_
      simp (disch := omega) only [nI_ad, nI_ml, nI_lti, nI_lei, nI_eqi, nI_nn, nI_0le, nI_eq0, nI_0lt, nI_le0, nI_clamp, nI_pd, nI_sb, zOf_some, zOp_some, zOp_none, kI_int, kL_long, kO_ref, kO_null, nlt_T, nlt_F, nle_T, nle_F, neq_F, vpT, azUp_at, if_true, if_false, true_and, and_true, true_implies, false_implies, implies_true, not_true_eq_false, not_false_eq_true, true_or, or_true, false_or, or_false, and_false, false_and, eq_self, n01_0, n01_1, nm1_0]
      exact this
    | succ s ih =>
      intro p J1 w4 w5 hp hf hc
      have hp10 : p < 10 := by omega
      have c1 := hc r hr p hp10
      have c2 := hc o ho p hp10
      dsimp only at c1 c2
      rw [if_neg (Nat.lt_irrefl p), Nat.mul_comm] at c1 c2
      have b1 : r * 10 + p < 100 := by omega
      have b2 : o * 10 + p < 100 := by omega
      refine BX0_swapRows_2 hR ?_
      simp (disch := omega) only [nI_ad, nI_ml, nI_lti, nI_lei, nI_eqi, nI_nn, nI_0le, nI_eq0, nI_0lt, nI_le0, nI_clamp, nI_pd, nI_sb, zOf_some, zOp_some, zOp_none, kI_int, kL_long, kO_ref, kO_null, nlt_T, nlt_F, nle_T, nle_F, neq_F, vpT, azUp_at, if_true, if_false, true_and, and_true, true_implies, false_implies, implies_true, not_true_eq_false, not_false_eq_true, true_or, or_true, false_or, or_false, and_false, false_and, eq_self, n01_0, n01_1, nm1_0, k0, f0, k1, c1, c2]
      rw [Nat.mul_comm r, Nat.mul_comm o]
      refine ih (p + 1) _ _ _ (by omega) (fun c h1 => by rw [upJ_nb h1, upJ_nb h1]; exact hf c h1) (((hc.up (r := r) hp10).up (r := o) hp10).cong fun i q hi hq => ?_)
      by_cases eq : q = p
      · subst eq
        rw [if_pos (by omega)]
        by_cases eo : i = o
        · rw [if_pos (show i = o ∧ q = q from ⟨eo, rfl⟩)]
          by_cases er : i = r
          · rw [if_pos er, ← eo, er]
          · rw [if_neg er, if_pos eo]
        · rw [if_neg (show ¬ (i = o ∧ q = q) from fun h => eo h.1)]
          by_cases er : i = r
          · rw [if_pos er, if_pos (show i = r ∧ q = q from ⟨er, rfl⟩)]
          · rw [if_neg er, if_neg eo, if_neg (show ¬ (i = r ∧ q = q) from fun h => er h.1), if_neg (Nat.lt_irrefl q)]
      · rw [if_neg (show ¬ (i = o ∧ q = p) from fun h => eq h.2), if_neg (show ¬ (i = r ∧ q = p) from fun h => eq h.2)]
        by_cases e : q < p
        · rw [if_pos e, if_pos (by omega)]
        · rw [if_neg e, if_neg (by omega)]
  refine BX0_swapRows_0 hR ?_
  exact main 10 0 J _ _ rfl (fun _ _ => rfl) (hV.cong fun i q _ _ => by rw [if_neg (Nat.not_lt_zero _)])
theorem S_clearRow (hR : azClosed R) (hB : BlOk kd F 220) (hV : cZ J V) {r o c0 : Nat} (hr : r < 10) (ho : o < 10) (hc0 : c0 < 10) (hne : r ≠ o) (h : ∀ J', (∀ c, c ≠ 221 → J' c = J c) → cZ J' (fun i p => if i = r then V r p * V o c0 - V o p * V r c0 else V i p) → Q none ((n, z, kd), I, J', F)) : R d mX0_clearRow 0 [.ref 220, .int (nI r), .int (nI o), .int (nI c0), .retAddr 0, .retAddr 0, .retAddr 0, .retAddr 0, .retAddr 0] [] ((n, z, kd), I, J, F) Q := by
  obtain ⟨k0, k1, k2, f0, f1⟩ := hB
  have main : ∀ s p (J1 : azJ), s + p = 10 → (∀ c, c ≠ 221 → J1 c = J c) → cZ J1 (fun i q => if i = r ∧ q < p then V r q * V o c0 - V o q * V r c0 else V i q) → R d mX0_clearRow 29 [.ref 220, .int (nI r), .int (nI o), .int (nI c0), .long (lO (V r c0)), .retAddr 1, .long (lO (V o c0)), .retAddr 1, .int (nI p)] [] ((n, z, kd), I, J1, F) Q := by
    intro s
    induction s with
    | zero =>
      intro p J1 hp hf hc
      obtain rfl : p = 10 := by omega
      have := h J1 hf (hc.cong fun i q hi hq => by
        by_cases e : i = r
        · rw [if_pos e, if_pos ⟨e, hq⟩]
        · rw [if_neg e, if_neg fun h => e h.1])
      refine BX0_clearRow_29 hR ?_
      simp (disch := omega) only [nI_ad, nI_ml, nI_lti, nI_lei, nI_eqi, nI_nn, nI_0le, nI_eq0, nI_0lt, nI_le0, nI_clamp, nI_pd, nI_sb, zOf_some, zOp_some, zOp_none, kI_int, kL_long, kO_ref, kO_null, nlt_T, nlt_F, nle_T, nle_F, neq_F, vpT, azUp_at, if_true, if_false, true_and, and_true, true_implies, false_implies, implies_true, not_true_eq_false, not_false_eq_true, true_or, or_true, false_or, or_false, and_false, false_and, eq_self, n01_0, n01_1, nm1_0]
      exact this
    | succ s ih =>
      intro p J1 hp hf hc
      have hp10 : p < 10 := by omega
      have c1 := hc r hr p hp10
      have c2 := hc o ho p hp10
      dsimp only at c1 c2
      rw [if_neg (show ¬ (r = r ∧ p < p) by omega), Nat.mul_comm] at c1
      rw [if_neg (show ¬ (o = r ∧ p < p) by omega), Nat.mul_comm] at c2
      have b1 : r * 10 + p < 100 := by omega
      have b2 : o * 10 + p < 100 := by omega
      refine BX0_clearRow_29 hR ?_
      simp (disch := omega) only [nI_ad, nI_ml, nI_lti, nI_lei, nI_eqi, nI_nn, nI_0le, nI_eq0, nI_0lt, nI_le0, nI_clamp, nI_pd, nI_sb, zOf_some, zOp_some, zOp_none, kI_int, kL_long, kO_ref, kO_null, nlt_T, nlt_F, nle_T, nle_F, neq_F, vpT, azUp_at, if_true, if_false, true_and, and_true, true_implies, false_implies, implies_true, not_true_eq_false, not_false_eq_true, true_or, or_true, false_or, or_false, and_false, false_and, eq_self, n01_0, n01_1, nm1_0, k0, f0, k1, c1, c2, lO_ml, lO_sb]
      rw [Nat.mul_comm r]
      refine ih (p + 1) _ (by omega) (fun c h1 => by rw [upJ_nb h1]; exact hf c h1) ((hc.up (r := r) hp10).cong fun i q hi hq => ?_)
      by_cases e : i = r ∧ q = p
      · rw [if_pos e, if_pos ⟨e.1, by omega⟩, e.2]
      · rw [if_neg e]
        by_cases e2 : i = r ∧ q < p
        · rw [if_pos e2, if_pos ⟨e2.1, by omega⟩]
        · rw [if_neg e2, if_neg fun h => by
            by_cases eq : q = p
            · exact e ⟨h.1, eq⟩
            · exact e2 ⟨h.1, by omega⟩]
  have a1 := hV r hr c0 hc0
  have a2 := hV o ho c0 hc0
  rw [Nat.mul_comm] at a1 a2
  have b1 : r * 10 + c0 < 100 := by omega
  have b2 : o * 10 + c0 < 100 := by omega
  refine BX0_clearRow_0 hR ?_
  simp (disch := omega) only [nI_ad, nI_ml, nI_lti, nI_lei, nI_eqi, nI_nn, nI_0le, nI_eq0, nI_0lt, nI_le0, nI_clamp, nI_pd, nI_sb, zOf_some, zOp_some, zOp_none, kI_int, kL_long, kO_ref, kO_null, nlt_T, nlt_F, nle_T, nle_F, neq_F, vpT, azUp_at, if_true, if_false, true_and, and_true, true_implies, false_implies, implies_true, not_true_eq_false, not_false_eq_true, true_or, or_true, false_or, or_false, and_false, false_and, eq_self, n01_0, n01_1, nm1_0, k0, f0, k1, a1, a2]
  exact main 10 0 J rfl (fun _ _ => rfl) (hV.cong fun i q _ _ => by rw [if_neg fun h => Nat.not_lt_zero _ h.2])
end SB
