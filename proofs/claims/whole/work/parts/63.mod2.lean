/-! NUMBERS: the other way to the rest by 100. -/
theorem irem_100 (x : Int32) : (x - x / nI 100 * nI 100 + nI 100) - (x - x / nI 100 * nI 100 + nI 100) / nI 100 * nI 100 = nI (fm x) := by
  have t1 := td100 x
  have f1 := fm_lt x
  have b1 := Int.tmod_lt_of_pos x.toInt (b := 100) (by decide)
  have b2 := Int.lt_tmod_of_pos x.toInt (b := 100) (by decide)
  have fe : (fm x : Int) = x.toInt % 100 := by
    unfold fm
    have := Int.emod_nonneg x.toInt (b := 100) (by decide)
    omega
  have s : (x - x / nI 100 * nI 100 + nI 100).toInt = x.toInt.tmod 100 + 100 := by
    rw [Int32.toInt_add, t1, i100]
    apply Int.bmod_eq_of_le <;> omega
  have e := Int.mul_tdiv_add_tmod x.toInt 100
  rw [← Int32.toInt_inj, td100, s, nI_toInt (by omega), Int.tmod_eq_emod_of_nonneg (by omega), fe]
  omega
