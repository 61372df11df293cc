/-! THE LAW: its loop. -/
section SL
variable {R : azP} {L : Nat} {xs : Nat → Int32}
/-- what balance must yet give -/
def balOK (R : azP) (L : Nat) (xs : Nat → Int32) (Q : azQ) : Prop := ∀ p σ st, p + 3 < L → LW L xs σ st → σ.1.1 + 8 < azB → LN R L xs p Q σ → R 200 mL_law 884 [.ref (azB + 10), .ref 0, .ref 228, .int (nI p)] [] σ Q ∧ R 200 mL_law 897 [.ref (azB + 10), .ref 0, .ref 228, .int (nI p)] [] σ Q ∧ R 200 mL_law 941 [.ref (azB + 10), .ref 0, .ref 228, .int (nI p)] [] σ Q
def lwQ : azQ := fun v σ => v = some (.int 1) ∧ σ.1.1 ≤ 600000 ∧ σ.1.2.1 ≤ 7302250
theorem law_loop (hR : azClosed R) (hL : L ≤ 2048) (hbal : balOK R L xs lwQ) {z0 : Nat} (hz0 : z0 ≤ 7000000) : ∀ s k (σ : azS) (st : St), L ≤ 4 * s + 4 * k → 4 * k ≤ L + 3 → LW L xs σ st → σ.1.1 ≤ 256 + 9 * k → σ.1.2.1 ≤ z0 + 160 * k → R 200 mL_law 18 [.ref (azB + 10), .ref 0, .ref 228, .int (nI (4 * k))] [] σ lwQ := by
  have hB : azB = 1000000 := rfl
  have done : ∀ k (σ : azS) (st : St), L < 4 * k + 4 → 4 * k ≤ L + 3 → LW L xs σ st → σ.1.1 ≤ 256 + 9 * k → σ.1.2.1 ≤ z0 + 160 * k → R 200 mL_law 18 [.ref (azB + 10), .ref 0, .ref 228, .int (nI (4 * k))] [] σ lwQ := by
    intro k σ st h1 h2 hW hn hz
    obtain ⟨⟨n, z, kd⟩, I, J, F⟩ := σ
    have hk : kd (azB + 10) = (15, L) := hW.2.2.1
    have hn : n ≤ 256 + 9 * k := hn
    have hz : z ≤ z0 + 160 * k := hz
    refine BL_law_18 (d := 199) hR ?_
    have hlt : nI L - nI 4 < nI (4 * k) := by
      by_cases c : 4 ≤ L
      · rw [nI_sb c, nI_lti (by omega) (by omega)]
        omega
      · rcases (by omega : L = 0 ∨ L = 1 ∨ L = 2 ∨ L = 3) with e | e | e | e <;> subst e
        · rw [Int32.lt_iff_toInt_lt, nI_toInt (by omega)]
          have : (nI 0 - nI 4).toInt = -4 := by decide
          omega
        · rw [Int32.lt_iff_toInt_lt, nI_toInt (by omega)]
          have : (nI 1 - nI 4).toInt = -3 := by decide
          omega
        · rw [Int32.lt_iff_toInt_lt, nI_toInt (by omega)]
          have : (nI 2 - nI 4).toInt = -2 := by decide
          omega
        · rw [Int32.lt_iff_toInt_lt, nI_toInt (by omega)]
          have : (nI 3 - nI 4).toInt = -1 := by decide
          omega
    rw [hk]
    exact ⟨Or.inl ⟨(show 10 ≤ 15 by decide), (show 15 ≤ 15 by decide)⟩, fun _ => ⟨Or.inr rfl, rfl, (by show n ≤ 600000; omega), (by show z ≤ 7302250; omega)⟩, fun h => absurd hlt h⟩
  intro s
  induction s with
  | zero =>
    intro k σ st h1 h2 hW hn hz
    exact done k σ st (by omega) h2 hW hn hz
  | succ s ih =>
    intro k σ st h1 h2 hW hn hz
    by_cases c : L < 4 * k + 4
    · exact done k σ st c h2 hW hn hz
    · have hp : 4 * k + 3 < L := by omega
      have hBn : σ.1.1 + 8 < azB := by omega
      have next : LN R L xs (4 * k) lwQ σ := fun σ' st' hW' g1 g2 => by
        obtain ⟨⟨n', z', kd'⟩, I', J', F'⟩ := σ'
        have g1 : n' ≤ σ.1.1 + 9 := g1
        have g2 : z' ≤ σ.1.2.1 + 160 := g2
        refine BL_law_1023 (d := 199) hR ?_
        rw [nI_ad]
        have := ih (k + 1) ((n', z', kd'), I', J', F') st' (by omega) (by omega) hW' (by show n' ≤ _; omega) (by show z' ≤ _; omega)
        rw [show 4 * (k + 1) = 4 * k + 4 by omega] at this
        exact this
      obtain ⟨b1, b2, b3⟩ := hbal (4 * k) σ st hp hW hBn next
      have nx := next σ st hW (Nat.le_add_right _ _) (Nat.le_add_right _ _)
      have c176 := LC_176 hR hL hp hW hBn next
      have c209 := LC_209 hR hL hp hW hBn next
      have c242 := LC_242 hR hL hp hW hBn next
      have c275 := LC_275 hR hL hp hW hBn next
      have c298 := LC_298 hR hL hp hW hBn next
      have c311 := LC_311 hR hL hp hW hBn next
      have c334 := LC_334 hR hL hp hW hBn next
      have c357 := LC_357 hR hL hp hW hBn next
      have c390 := LC_390 hR hL hp hW hBn next
      have c413 := LC_413 hR hL hp hW hBn next
      have c426 := LC_426 hR hL hp hW hBn next
      have c449 := LC_449 hR hL hp hW hBn next
      have c472 := LC_472 hR hL hp hW hBn next
      have c505 := LC_505 hR hL hp hW hBn next
      have c528 := LC_528 hR hL hp hW hBn next
      have c551 := LC_551 hR hL hp hW hBn next
      have c564 := LC_564 hR hL hp hW hBn next
      have c597 := LC_597 hR hL hp hW hBn next
      have c640 := LC_640 hR hL hp hW hBn next
      have c663 := LC_663 hR hL hp hW hBn next
      have c696 := LC_696 hR hL hp hW hBn next
      have c719 := LC_719 hR hL hp hW hBn next
      have c742 := LC_742 hR hL hp hW hBn next
      have c765 := LC_765 hR hL hp hW hBn next
      have c808 := LC_808 hR hL hp hW hBn next
      have c851 := LC_851 hR hL hp hW hBn next
      have c974 := LC_974 hR hL hp hW hBn next
      have c997 := LC_997 hR hL hp hW hBn next
      have c1010 := LC_1010 hR hL hp hW hBn next
      obtain ⟨⟨n, z, kd⟩, I, J, F⟩ := σ
      have hk : kd (azB + 10) = (15, L) := hW.2.2.1
      refine BL_law_18 (d := 199) hR ?_
      have hlt : ¬ (nI L - nI 4 < nI (4 * k)) := by
        rw [nI_sb (by omega), nI_lti (by omega) (by omega)]
        omega
      rw [hk]
      refine ⟨Or.inl ⟨(show 10 ≤ 15 by decide), (show 15 ≤ 15 by decide)⟩, fun h => absurd h hlt, fun _ => ⟨Or.inr rfl, (by rw [vpT (show 4 * k < L by omega) (show L < 2 ^ 31 by omega)]; trivial), fun _ => nx, fun _ => c176, fun _ => c209, fun _ => c242, fun _ => c275, fun _ => c298, fun _ => c311, fun _ => c334, fun _ => c357, fun _ => c390, fun _ => c413, fun _ => c426, fun _ => c449, fun _ => c472, fun _ => c505, fun _ => c528, fun _ => c551, fun _ => c564, fun _ => c597, fun _ => c640, fun _ => c663, fun _ => c696, fun _ => c719, fun _ => c742, fun _ => c765, fun _ => c808, fun _ => c851, fun _ => b1, fun _ => b2, fun _ => b3, fun _ => c974, fun _ => c997, fun _ => c1010, ?_⟩⟩
      first
        | trivial
        | exact fun _ => nx
end SL
