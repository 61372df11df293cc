/-! SPECS: Math.floorMod by 100. -/
def fm (x : Int32) : Nat := (x.toInt % 100).toNat
theorem i100 : (nI 100).toInt = 100 := by decide
theorem td100 (x : Int32) : (x - x / nI 100 * nI 100).toInt = x.toInt.tmod 100 := by
  have h1 := Int32.toInt_lt x
  have h2 := Int32.le_toInt x
  have e1 : (x / nI 100).toInt = x.toInt.tdiv 100 := by
    rw [Int32.toInt_div_of_ne_right x (nI 100) (by decide), i100]
  have e2 : x.toInt.tmod 100 = x.toInt - x.toInt.tdiv 100 * 100 := by
    rw [Int.tmod_def, Int.mul_comm]
  have b := Int.tmod_lt_of_pos x.toInt (b := 100) (by decide)
  have b2 := Int.lt_tmod_of_pos x.toInt (b := 100) (by decide)
  rw [Int32.toInt_sub, Int32.toInt_mul, e1, i100, Int.sub_bmod_bmod, ← e2]
  apply Int.bmod_eq_of_le <;> omega
theorem xor_sign (x : Int32) : (0 ≤ (x ^^^ nI 100)) ↔ 0 ≤ x.toInt := by
  rw [Int32.le_iff_toInt_le]
  have e : (x ^^^ nI 100).toInt = (x.toBitVec ^^^ (nI 100).toBitVec).toInt := rfl
  have e0 : (0 : Int32).toInt = 0 := rfl
  have e1 : x.toInt = x.toBitVec.toInt := rfl
  rw [e, e0, e1]
  have m : ∀ y : BitVec 32, 0 ≤ y.toInt ↔ y.msb = false := fun y => by
    rw [BitVec.msb_eq_toInt]
    simp
  rw [m, m, BitVec.msb_xor]
  have : (nI 100).toBitVec.msb = false := by decide
  rw [this]
  simp
theorem fm_lt (x : Int32) : fm x < 100 := by
  unfold fm
  have := Int.emod_lt_of_pos x.toInt (b := 100) (by decide)
  omega
theorem S_floorMod {R : azP} (hR : azClosed R) {d : Nat} {Q : azQ} {x : Int32} {σ : azS} (h : Q (some (.int (nI (fm x)))) σ) : R d mJ9_floorMod_7cf53 0 [.int x, .int (nI 100), .retAddr 0] [] σ Q := by
  obtain ⟨⟨n, z, kd⟩, I, J, F⟩ := σ
  have t1 := td100 x
  have f1 := fm_lt x
  have b1 := Int.tmod_lt_of_pos x.toInt (b := 100) (by decide)
  have b2 := Int.lt_tmod_of_pos x.toInt (b := 100) (by decide)
  have ti : ∀ y : Int32, y.toInt = (fm x : Int) → y = nI (fm x) := fun y hy => by
    rw [← Int32.toInt_inj, hy, nI_toInt (by omega)]
  have fe : (fm x : Int) = x.toInt % 100 := by
    unfold fm
    have := Int.emod_nonneg x.toInt (b := 100) (by decide)
    omega
  refine BJ9_floorMod_7cf53_0 hR ⟨by decide, fun c => ?_, fun c => ⟨fun c2 => ?_, fun c2 => ?_⟩⟩
  · rw [xor_sign] at c
    rw [ti (x - x / nI 100 * nI 100) (by rw [t1, fe, Int.tmod_eq_emod_of_nonneg c])]
    exact h
  · rw [xor_sign] at c
    rw [ti (x - x / nI 100 * nI 100) ?_]
    · exact h
    · have z0 : x.toInt.tmod 100 = 0 := by rw [← t1, c2]; rfl
      rw [t1, fe, z0]
      have e := Int.mul_tdiv_add_tmod x.toInt 100
      omega
  · rw [xor_sign] at c
    rw [ti (x - x / nI 100 * nI 100 + nI 100) ?_]
    · exact h
    · have z0 : x.toInt.tmod 100 ≠ 0 := fun hz => c2 (by rw [← Int32.toInt_inj, t1, hz]; rfl)
      have e := Int.mul_tdiv_add_tmod x.toInt 100
      have ng := Int.tmod_nonneg (a := -x.toInt) 100 (by omega)
      rw [Int.neg_tmod] at ng
      rw [Int32.toInt_add, t1, i100, fe]
      have : x.toInt.tmod 100 + 100 = x.toInt % 100 := by omega
      rw [this]
      apply Int.bmod_eq_of_le <;> omega
