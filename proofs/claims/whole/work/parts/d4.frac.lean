/-! BALANCE: fractions in lowest terms. -/
/-- lowest terms, the lower one above 0 -/
def rdc (a b : Int) : Int × Int := if 0 ≤ b then (a.tdiv (Int.gcd a b), b.tdiv (Int.gcd a b)) else ((-a).tdiv (Int.gcd a b), (-b).tdiv (Int.gcd a b))
theorem tdiv_ex {a g : Int} (h : g ∣ a) : a.tdiv g * g = a := Int.tdiv_mul_cancel h
theorem gcd_pos {a b : Int} (h : b ≠ 0) : 0 < (Int.gcd a b : Int) := by
  have : 0 < Int.gcd a b := Int.gcd_pos_of_ne_zero_right a h
  omega
theorem rdc_pos {a b : Int} (h : b ≠ 0) : 0 < (rdc a b).2 := by
  have hg := gcd_pos (a := a) h
  have hd : (Int.gcd a b : Int) ∣ b := Int.gcd_dvd_right a b
  unfold rdc
  split
  · have := tdiv_ex hd
    show 0 < b.tdiv (Int.gcd a b)
    refine Int.pos_of_mul_pos_left (b := (Int.gcd a b : Int)) ?_ (by omega)
    rw [this]; omega
  · have := tdiv_ex (a := -b) (Int.dvd_neg.mpr hd)
    show 0 < (-b).tdiv (Int.gcd a b)
    refine Int.pos_of_mul_pos_left (b := (Int.gcd a b : Int)) ?_ (by omega)
    rw [this]; omega
/-- it is the same fraction -/
theorem rdc_eq {a b : Int} (h : b ≠ 0) : (rdc a b).1 * b = (rdc a b).2 * a := by
  have hg := gcd_pos (a := a) h
  have h1 : (Int.gcd a b : Int) ∣ a := Int.gcd_dvd_left a b
  have h2 : (Int.gcd a b : Int) ∣ b := Int.gcd_dvd_right a b
  have g0 : (Int.gcd a b : Int) ≠ 0 := by omega
  refine Int.eq_of_mul_eq_mul_right g0 ?_
  unfold rdc
  split
  · have e1 := tdiv_ex h1
    have e2 := tdiv_ex h2
    show a.tdiv _ * b * _ = b.tdiv _ * a * _
    rw [Int.mul_right_comm, e1, Int.mul_right_comm (b.tdiv _), e2, Int.mul_comm]
  · have e1 := tdiv_ex (Int.dvd_neg.mpr h1)
    have e2 := tdiv_ex (Int.dvd_neg.mpr h2)
    show (-a).tdiv _ * b * _ = (-b).tdiv _ * a * _
    rw [Int.mul_right_comm, e1, Int.mul_right_comm ((-b).tdiv _), e2, Int.neg_mul, Int.neg_mul, Int.mul_comm]
