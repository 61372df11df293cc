/-! BALANCE: shortenRow. -/
/-- what divides a row's first entries -/
def gRow (v : Nat → Int) : Nat → Nat
  | 0 => 0
  | p + 1 => Int.gcd (gRow v p) (v p)
theorem gRow_sml {v : Nat → Int} (h : ∀ p, p < 10 → sml (v p)) : ∀ p, p ≤ 10 → sml (gRow v p : Int) := by
  intro p
  induction p with
  | zero => intro _; exact sml_0
  | succ p ih =>
    intro hp
    have h1 := ih (by omega)
    have h2 := h p (by omega)
    show sml (Int.gcd (gRow v p) (v p) : Int)
    by_cases e : v p = 0
    · rw [e, Int.gcd_zero_right]
      exact h1
    · exact gcd_sml h2 e
theorem gRow_dvd {v : Nat → Int} : ∀ p q, q < p → (gRow v p : Int) ∣ v q := by
  intro p
  induction p with
  | zero => intro q h; exact absurd h (Nat.not_lt_zero _)
  | succ p ih =>
    intro q h
    have e : gRow v (p + 1) = Int.gcd (gRow v p) (v p) := rfl
    rw [e]
    by_cases eq : q = p
    · rw [eq]; exact Int.gcd_dvd_right _ _
    · exact Int.dvd_trans (Int.gcd_dvd_left _ _) (ih q (by omega))
theorem gRow_max {v : Nat → Int} {k : Int} : ∀ p, (∀ q, q < p → k ∣ v q) → k ∣ (gRow v p : Int) := by
  intro p
  induction p with
  | zero => intro _; exact Int.dvd_zero k
  | succ p ih =>
    intro h
    have e : gRow v (p + 1) = Int.gcd (gRow v p) (v p) := rfl
    rw [e]
    exact Int.dvd_coe_gcd (ih fun q hq => h q (by omega)) (h p (by omega))
section SB
variable {R : azP} {d n z : Nat} {kd : azK} {I : azI} {J : azJ} {F : azR} {Q : azQ} {V : Nat → Nat → Int}
/-- a row without its common divisor -/
def shR (v : Nat → Int) (p : Nat) : Int := if 1 < gRow v 10 then (v p).tdiv (gRow v 10) else v p
theorem lg_gt0 {a b : Int} (ha : sml a) (hb : sml b) : (0 < lg_cmp (lO a) (lO b)) = (b < a) := by
  have h1 := @lgc_pos (lO a) (lO b)
  rw [lO_toInt ha, lO_toInt hb] at h1
  exact propext h1
theorem S_shortenRow (hR : azClosed R) (hB : BlOk kd F 220) (hV : cZ J V) {r : Nat} (hr : r < 10) (hs : ∀ p, p < 10 → sml (V r p)) (h : ∀ J', (∀ c, c ≠ 221 → J' c = J c) → cZ J' (fun i p => if i = r then shR (V r) p else V i p) → Q none ((n, z, kd), I, J', F)) : R (d + 2) mX0_shortenRow 0 [.ref 220, .int (nI r), .retAddr 0, .retAddr 0, .retAddr 0] [] ((n, z, kd), I, J, F) Q := by
  obtain ⟨k0, k1, k2, f0, f1⟩ := hB
  have hg := gRow_sml hs
  have hg10 := hg 10 (Nat.le_refl _)
  have s1 : sml 1 := by unfold sml; omega
  have div : 1 < gRow (V r) 10 → ∀ s p (J1 : azJ), s + p = 10 → (∀ c, c ≠ 221 → J1 c = J c) → cZ J1 (fun i q => if i = r ∧ q < p then (V r q).tdiv (gRow (V r) 10) else V i q) → R (d + 2) mX0_shortenRow 45 [.ref 220, .int (nI r), .long (lO (gRow (V r) 10 : Int)), .retAddr 1, .int (nI p)] [] ((n, z, kd), I, J1, F) Q := by
    intro hgt s
    have g0 : ¬ lO (gRow (V r) 10 : Int) = 0 := fun e => by
      rw [lO_z, lO_inj hg10 sml_0] at e
      omega
    induction s with
    | zero =>
      intro p J1 hp hf hc
      obtain rfl : p = 10 := by omega
      have := h J1 hf (hc.cong fun i q hi hq => by
        by_cases e : i = r
        · rw [if_pos e, if_pos ⟨e, hq⟩]
          unfold shR
          rw [if_pos hgt]
        · rw [if_neg e, if_neg fun h => e h.1])
      refine BX0_shortenRow_45 hR ?_
      simp (disch := omega) only [nI_ad, nI_ml, nI_lti, nI_lei, nI_eqi, nI_nn, nI_0le, nI_eq0, nI_0lt, nI_le0, nI_clamp, nI_pd, nI_sb, zOf_some, zOp_some, zOp_none, kI_int, kL_long, kO_ref, kO_null, nlt_T, nlt_F, nle_T, nle_F, neq_F, vpT, azUp_at, if_true, if_false, true_and, and_true, true_implies, false_implies, implies_true, not_true_eq_false, not_false_eq_true, true_or, or_true, false_or, or_false, and_false, false_and, eq_self, n01_0, n01_1, nm1_0]
      exact this
    | succ s ih =>
      intro p J1 hp hf hc
      have hp10 : p < 10 := by omega
      have c1 := hc r hr p hp10
      dsimp only at c1
      rw [if_neg (show ¬ (r = r ∧ p < p) by omega), Nat.mul_comm] at c1
      have b1 : r * 10 + p < 100 := by omega
      have ed := lO_dv (hs p hp10) hg10
      refine BX0_shortenRow_45 hR ?_
      simp (disch := omega) only [nI_ad, nI_ml, nI_lti, nI_lei, nI_eqi, nI_nn, nI_0le, nI_eq0, nI_0lt, nI_le0, nI_clamp, nI_pd, nI_sb, zOf_some, zOp_some, zOp_none, kI_int, kL_long, kO_ref, kO_null, nlt_T, nlt_F, nle_T, nle_F, neq_F, vpT, azUp_at, if_true, if_false, true_and, and_true, true_implies, false_implies, implies_true, not_true_eq_false, not_false_eq_true, true_or, or_true, false_or, or_false, and_false, false_and, eq_self, n01_0, n01_1, nm1_0, k0, f0, k1, c1, g0, ed]
      rw [Nat.mul_comm r]
      refine ih (p + 1) _ (by omega) (fun c h1 => by rw [upJ_nb h1]; exact hf c h1) ((hc.up (r := r) hp10).cong fun i q hi hq => ?_)
      by_cases e : i = r ∧ q = p
      · rw [if_pos e, if_pos ⟨e.1, by omega⟩, e.2]
      · rw [if_neg e]
        by_cases e2 : i = r ∧ q < p
        · rw [if_pos e2, if_pos ⟨e2.1, by omega⟩]
        · rw [if_neg e2, if_neg fun h => by
            by_cases eq : q = p
            · exact e ⟨h.1, eq⟩
            · exact e2 ⟨h.1, by omega⟩]
  have main : ∀ s p, s + p = 10 → R (d + 2) mX0_shortenRow 5 [.ref 220, .int (nI r), .long (lO (gRow (V r) p : Int)), .retAddr 1, .int (nI p)] [] ((n, z, kd), I, J, F) Q := by
    intro s
    induction s with
    | zero =>
      intro p hp
      obtain rfl : p = 10 := by omega
      refine BX0_shortenRow_5 hR ?_
      rw [show lN 1 = lO 1 from rfl, lg_gt0 hg10 s1]
      by_cases c : 1 < gRow (V r) 10
      · have := div c 10 0 J rfl (fun _ _ => rfl) (hV.cong fun i q _ _ => by rw [if_neg fun h => Nat.not_lt_zero _ h.2])
        have c' : (1 : Int) < (gRow (V r) 10 : Int) := by omega
        simp (disch := omega) only [nI_ad, nI_ml, nI_lti, nI_lei, nI_eqi, nI_nn, nI_0le, nI_eq0, nI_0lt, nI_le0, nI_clamp, nI_pd, nI_sb, zOf_some, zOp_some, zOp_none, kI_int, kL_long, kO_ref, kO_null, nlt_T, nlt_F, nle_T, nle_F, neq_F, vpT, azUp_at, if_true, if_false, true_and, and_true, true_implies, false_implies, implies_true, not_true_eq_false, not_false_eq_true, true_or, or_true, false_or, or_false, and_false, false_and, eq_self, n01_0, n01_1, nm1_0, c']
        exact this
      · have := h J (fun _ _ => rfl) (hV.cong fun i q _ _ => by
          by_cases e : i = r
          · rw [if_pos e, e]
            unfold shR
            rw [if_neg c]
          · rw [if_neg e])
        have c' : ¬ (1 : Int) < (gRow (V r) 10 : Int) := by omega
        simp (disch := omega) only [nI_ad, nI_ml, nI_lti, nI_lei, nI_eqi, nI_nn, nI_0le, nI_eq0, nI_0lt, nI_le0, nI_clamp, nI_pd, nI_sb, zOf_some, zOp_some, zOp_none, kI_int, kL_long, kO_ref, kO_null, nlt_T, nlt_F, nle_T, nle_F, neq_F, vpT, azUp_at, if_true, if_false, true_and, and_true, true_implies, false_implies, implies_true, not_true_eq_false, not_false_eq_true, true_or, or_true, false_or, or_false, and_false, false_and, eq_self, n01_0, n01_1, nm1_0, c']
        exact this
    | succ s ih =>
      intro p hp
      have hp10 : p < 10 := by omega
      have c1 := hV r hr p hp10
      rw [Nat.mul_comm] at c1
      have b1 : r * 10 + p < 100 := by omega
      refine BX0_shortenRow_5 hR ?_
      simp (disch := omega) only [nI_ad, nI_ml, nI_lti, nI_lei, nI_eqi, nI_nn, nI_0le, nI_eq0, nI_0lt, nI_le0, nI_clamp, nI_pd, nI_sb, zOf_some, zOp_some, zOp_none, kI_int, kL_long, kO_ref, kO_null, nlt_T, nlt_F, nle_T, nle_F, neq_F, vpT, azUp_at, if_true, if_false, true_and, and_true, true_implies, false_implies, implies_true, not_true_eq_false, not_false_eq_true, true_or, or_true, false_or, or_false, and_false, false_and, eq_self, n01_0, n01_1, nm1_0, k0, f0, k1, c1]
      refine S_comDiv hR (hg p (by omega)) (hs p hp10) ?_
      rw [kL_long]
      exact ih (p + 1) (by omega)
  refine BX0_shortenRow_0 hR ?_
  exact main 10 0 rfl
end SB
