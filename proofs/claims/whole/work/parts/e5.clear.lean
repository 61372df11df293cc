/-! BALANCE: clearOthers. -/
section SB
variable {R : azP} {d n z : Nat} {kd : azK} {I : azI} {J : azJ} {F : azR} {Q : azQ} {V : Nat → Nat → Int}
/-- a row cleared by another in a column -/
def clO (V : Nat → Nat → Int) (o c i : Nat) : Nat → Int := if i = o ∨ V i c = 0 then V i else shR fun q => V i q * V o c - V o q * V i c
theorem S_clearOthers (hR : azClosed R) (hB : BlOk kd F 220) (hV : cZ J V) {o c : Nat} (ho : o < 10) (hc : c < 10) (hs : ∀ i, i < 10 → sml (V i c)) (hs2 : ∀ i, i < 10 → i ≠ o → ∀ p, p < 10 → sml (V i p * V o c - V o p * V i c)) (h : ∀ J', (∀ b, b ≠ 221 → J' b = J b) → cZ J' (fun i => clO V o c i) → Q none ((n, z, kd), I, J', F)) : R (d + 3) mX0_clearOthers 0 [.ref 220, .int (nI o), .int (nI c), .retAddr 0] [] ((n, z, kd), I, J, F) Q := by
  have ⟨k0, k1, k2, f0, f1⟩ := id hB
  have main : ∀ s r (J1 : azJ), s + r = 10 → (∀ b, b ≠ 221 → J1 b = J b) → cZ J1 (fun i => if i < r then clO V o c i else V i) → R (d + 3) mX0_clearOthers 2 [.ref 220, .int (nI o), .int (nI c), .int (nI r)] [] ((n, z, kd), I, J1, F) Q := by
    intro s
    induction s with
    | zero =>
      intro r J1 hr hf hz
      obtain rfl : r = 10 := by omega
      have := h J1 hf (hz.cong fun i q hi hq => by rw [if_pos hi])
      refine BX0_clearOthers_2 hR ?_
      simp (disch := omega) only [nI_ad, nI_ml, nI_lti, nI_lei, nI_eqi, nI_nn, nI_0le, nI_eq0, nI_0lt, nI_le0, nI_clamp, nI_pd, nI_sb, zOf_some, zOp_some, zOp_none, kI_int, kL_long, kO_ref, kO_null, nlt_T, nlt_F, nle_T, nle_F, neq_F, vpT, azUp_at, if_true, if_false, true_and, and_true, true_implies, false_implies, implies_true, not_true_eq_false, not_false_eq_true, true_or, or_true, false_or, or_false, and_false, false_and, eq_self, n01_0, n01_1, nm1_0]
      exact this
    | succ s ih =>
      intro r J1 hr hf hz
      have hr10 : r < 10 := by omega
      have same : (r = o ∨ V r c = 0) → R (d + 3) mX0_clearOthers 2 [.ref 220, .int (nI o), .int (nI c), .int (nI (r + 1))] [] ((n, z, kd), I, J1, F) Q := fun hh => ih (r + 1) J1 (by omega) hf (hz.cong fun i q hi hq => by
        by_cases e : i = r
        · subst e
          rw [if_pos (by omega), if_neg (Nat.lt_irrefl i)]
          unfold clO
          rw [if_pos hh]
        · by_cases e2 : i < r
          · rw [if_pos e2, if_pos (by omega)]
          · rw [if_neg e2, if_neg (by omega)])
      refine BX0_clearOthers_2 hR ?_
      by_cases ero : r = o
      · simp (disch := omega) only [nI_ad, nI_ml, nI_lti, nI_lei, nI_eqi, nI_nn, nI_0le, nI_eq0, nI_0lt, nI_le0, nI_clamp, nI_pd, nI_sb, zOf_some, zOp_some, zOp_none, kI_int, kL_long, kO_ref, kO_null, nlt_T, nlt_F, nle_T, nle_F, neq_F, vpT, azUp_at, if_true, if_false, true_and, and_true, true_implies, false_implies, implies_true, not_true_eq_false, not_false_eq_true, true_or, or_true, false_or, or_false, and_false, false_and, eq_self, n01_0, n01_1, nm1_0, ero]
        rw [ero] at same
        exact same (Or.inl rfl)
      have c1 := hz r hr10 c hc
      dsimp only at c1
      rw [if_neg (Nat.lt_irrefl r), Nat.mul_comm] at c1
      have b1 : r * 10 + c < 100 := by omega
      simp (disch := omega) only [nI_ad, nI_ml, nI_lti, nI_lei, nI_eqi, nI_nn, nI_0le, nI_eq0, nI_0lt, nI_le0, nI_clamp, nI_pd, nI_sb, zOf_some, zOp_some, zOp_none, kI_int, kL_long, kO_ref, kO_null, nlt_T, nlt_F, nle_T, nle_F, neq_F, vpT, azUp_at, if_true, if_false, true_and, and_true, true_implies, false_implies, implies_true, not_true_eq_false, not_false_eq_true, true_or, or_true, false_or, or_false, and_false, false_and, eq_self, n01_0, n01_1, nm1_0, ero, k0, f0, k1, c1]
      rw [lN_0, lg_eq0 (hs r hr10) sml_0]
      refine ⟨fun e => same (Or.inr e), fun e => ?_⟩
      have er : (fun i => if i < r then clO V o c i else V i) r = V r := if_neg (Nat.lt_irrefl r)
      have eo : ∀ q, (if o < r then clO V o c o else V o) q = V o q := fun q => by
        by_cases x : o < r
        · rw [if_pos x]
          unfold clO
          rw [if_pos (Or.inl rfl)]
        · rw [if_neg x]
      refine S_clearRow hR hB hz hr10 ho hc ero fun J2 g1 g2 => ⟨rfl, k0, ?_⟩
      have g2' : cZ J2 (fun i p => if i = r then V r p * V o c - V o p * V r c else if i < r then clO V o c i p else V i p) := g2.cong fun i q hi hq => by
        by_cases x : i = r
        · rw [if_pos x, if_pos x, if_neg (Nat.lt_irrefl r), eo, eo]
        · rw [if_neg x, if_neg x]
          by_cases y : i < r
          · rw [if_pos y, if_pos y]
          · rw [if_neg y, if_neg y]
      refine S_shortenRow hR hB g2' hr10 (fun p hp => by rw [if_pos rfl]; exact hs2 r hr10 ero p hp) fun J3 u1 u2 => ⟨rfl, ?_⟩
      refine ih (r + 1) J3 (by omega) (fun b hb => by rw [u1 b hb, g1 b hb]; exact hf b hb) (u2.cong fun i q hi hq => ?_)
      by_cases x : i = r
      · subst x
        rw [if_pos (by omega), if_pos rfl]
        unfold clO
        rw [if_neg (by omega)]
        congr 1
        funext q
        rw [if_pos rfl]
      · rw [if_neg x, if_neg x]
        by_cases y : i < r
        · rw [if_pos y, if_pos (by omega)]
        · rw [if_neg y, if_neg (by omega)]
  refine BX0_clearOthers_0 hR ?_
  exact main 10 0 J rfl (fun _ _ => rfl) (hV.cong fun i q _ _ => by rw [if_neg (Nat.not_lt_zero _)])
end SB
