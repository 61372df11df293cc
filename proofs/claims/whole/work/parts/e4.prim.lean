/-! BALANCE: a row without a common divisor is no larger than one that it is proportional to. -/
theorem prim_bd {v M : Nat → Int} {a b B : Int} (ha : a ≠ 0) (hb : b ≠ 0) (h : ∀ j, j < 10 → a * v j = b * M j) (hM : ∀ j, j < 10 → -B ≤ M j ∧ M j ≤ B) (hp : gRow v 10 = 1) : ∀ j, j < 10 → -B ≤ v j ∧ v j ≤ B := by
  have hg : 0 < Int.gcd a b := Int.gcd_pos_of_ne_zero_right a hb
  have g0 : (Int.gcd a b : Int) ≠ 0 := by omega
  have h1 : (Int.gcd a b : Int) ∣ a := Int.gcd_dvd_left a b
  have h2 : (Int.gcd a b : Int) ∣ b := Int.gcd_dvd_right a b
  have hc := Int.gcd_ediv_gcd_ediv_gcd (i := a) (j := b) hg
  have ea := Int.ediv_mul_cancel h1
  have eb := Int.ediv_mul_cancel h2
  generalize a / (Int.gcd a b : Int) = a' at hc ea
  generalize b / (Int.gcd a b : Int) = b' at hc eb
  generalize (Int.gcd a b : Int) = g at g0 ea eb
  have h' : ∀ j, j < 10 → a' * v j = b' * M j := fun j hj => by
    refine Int.eq_of_mul_eq_mul_right g0 ?_
    rw [Int.mul_right_comm, ea, Int.mul_right_comm, eb]
    exact h j hj
  have hb1 : b' ∣ ((gRow v 10 : Nat) : Int) := gRow_max 10 fun q hq => (cop_dvd hc (h' q hq)).2
  rw [hp] at hb1
  have hab : b'.natAbs = 1 := by
    have := Int.natAbs_dvd_natAbs.mpr hb1
    exact Nat.dvd_one.mp this
  have ha' : a' ≠ 0 := fun e => ha (by rw [← ea, e, Int.zero_mul])
  intro j hj
  have := h' j hj
  have hm := hM j hj
  have hna : a'.natAbs * (v j).natAbs = (M j).natAbs := by
    have := congrArg Int.natAbs this
    rw [Int.natAbs_mul, Int.natAbs_mul, hab, Nat.one_mul] at this
    exact this
  have : (v j).natAbs ≤ (M j).natAbs := by
    rw [← hna]
    exact Nat.le_mul_of_pos_left _ (by omega)
  omega
/-- a row that was shortened has no common divisor, or is zero -/
theorem shR_prim {v : Nat → Int} : gRow (shR v) 10 = 1 ∨ ∀ j, j < 10 → v j = 0 := by
  by_cases c0 : gRow v 10 = 0
  · right
    intro j hj
    have := gRow_dvd (v := v) 10 j hj
    rw [c0] at this
    exact Int.zero_dvd.mp this
  left
  by_cases c : 1 < gRow v 10
  · have e : ∀ j, j < 10 → shR v j * (gRow v 10 : Int) = v j := fun j hj => by
      unfold shR
      rw [if_pos c]
      exact tdiv_ex (gRow_dvd 10 j hj)
    have h1 : ((gRow (shR v) 10 : Nat) : Int) * (gRow v 10 : Int) ∣ (gRow v 10 : Int) := gRow_max 10 fun q hq => by
      rw [← e q hq]
      exact Int.mul_dvd_mul_right _ (gRow_dvd 10 q hq)
    have h2 : gRow (shR v) 10 * gRow v 10 ∣ gRow v 10 := by exact_mod_cast h1
    obtain ⟨t, ht⟩ := h2
    have hpos : 0 < gRow v 10 := by omega
    have h3 : gRow (shR v) 10 * t = 1 := by
      refine Nat.eq_of_mul_eq_mul_right hpos ?_
      rw [Nat.one_mul, Nat.mul_right_comm]
      exact ht.symm
    exact Nat.eq_one_of_mul_eq_one_right h3
  · have e : shR v = v := by
      funext j
      unfold shR
      rw [if_neg c]
    rw [e]
    omega
