/-! BALANCE: fractions in lowest terms. -/
/-- lowest terms, the lower one above 0 -/
def rdc (a b : Int) : Int × Int := if 0 ≤ b then (a.tdiv (Int.gcd a b), b.tdiv (Int.gcd a b)) else ((-a).tdiv (Int.gcd a b), (-b).tdiv (Int.gcd a b))
theorem tdiv_ex {a g : Int} (h : g ∣ a) : a.tdiv g * g = a := Int.tdiv_mul_cancel h
theorem gcd_pos {a b : Int} (h : b ≠ 0) : 0 < (Int.gcd a b : Int) := by
  have : 0 < Int.gcd a b := Int.gcd_pos_of_ne_zero_right a h
  omega
theorem rdc_pos {a b : Int} (h : b ≠ 0) : 0 < (rdc a b).2 := by
  have hg := gcd_pos (a := a) h
  have hd : (Int.gcd a b : Int) ∣ b := Int.gcd_dvd_right a b
  unfold rdc
  split
  · have := tdiv_ex hd
    show 0 < b.tdiv (Int.gcd a b)
    refine Int.pos_of_mul_pos_left (b := (Int.gcd a b : Int)) ?_ (by omega)
    rw [this]; omega
  · have := tdiv_ex (a := -b) (Int.dvd_neg.mpr hd)
    show 0 < (-b).tdiv (Int.gcd a b)
    refine Int.pos_of_mul_pos_left (b := (Int.gcd a b : Int)) ?_ (by omega)
    rw [this]; omega
/-- it is the same fraction -/
theorem rdc_eq {a b : Int} (h : b ≠ 0) : (rdc a b).1 * b = (rdc a b).2 * a := by
  have hg := gcd_pos (a := a) h
  have h1 : (Int.gcd a b : Int) ∣ a := Int.gcd_dvd_left a b
  have h2 : (Int.gcd a b : Int) ∣ b := Int.gcd_dvd_right a b
  have g0 : (Int.gcd a b : Int) ≠ 0 := by omega
  refine Int.eq_of_mul_eq_mul_right g0 ?_
  unfold rdc
  split
  · have e1 := tdiv_ex h1
    have e2 := tdiv_ex h2
    show a.tdiv _ * b * _ = b.tdiv _ * a * _
    rw [Int.mul_right_comm, e1, Int.mul_right_comm (b.tdiv _), e2, Int.mul_comm]
  · have e1 := tdiv_ex (Int.dvd_neg.mpr h1)
    have e2 := tdiv_ex (Int.dvd_neg.mpr h2)
    show (-a).tdiv _ * b * _ = (-b).tdiv _ * a * _
    rw [Int.mul_right_comm, e1, Int.mul_right_comm ((-b).tdiv _), e2, Int.neg_mul, Int.neg_mul, Int.mul_comm]
theorem tdiv_ed {a g : Int} (h : g ∣ a) : a.tdiv g = a / g := Int.tdiv_eq_ediv_of_dvd h
theorem rdc_cop {a b : Int} (h : b ≠ 0) : Int.gcd (rdc a b).1 (rdc a b).2 = 1 := by
  have hg : 0 < Int.gcd a b := Int.gcd_pos_of_ne_zero_right a h
  have h1 : (Int.gcd a b : Int) ∣ a := Int.gcd_dvd_left a b
  have h2 : (Int.gcd a b : Int) ∣ b := Int.gcd_dvd_right a b
  have k := Int.gcd_ediv_gcd_ediv_gcd (i := a) (j := b) hg
  unfold rdc
  split
  · rw [tdiv_ed h1, tdiv_ed h2]; exact k
  · have e1 : (-a) / (Int.gcd a b : Int) = -(a / (Int.gcd a b : Int)) := Int.neg_ediv_of_dvd h1
    have e2 : (-b) / (Int.gcd a b : Int) = -(b / (Int.gcd a b : Int)) := Int.neg_ediv_of_dvd h2
    dsimp only
    rw [tdiv_ed (Int.dvd_neg.mpr h1), tdiv_ed (Int.dvd_neg.mpr h2), e1, e2, Int.gcd_neg, Int.neg_gcd]
    exact k
/-- lowest terms divide any other terms -/
theorem cop_dvd {p q n m : Int} (hc : Int.gcd p q = 1) (h : p * m = q * n) : p ∣ n ∧ q ∣ m := by
  have hc' : Nat.Coprime p.natAbs q.natAbs := hc
  have hn : p.natAbs * m.natAbs = q.natAbs * n.natAbs := by rw [← Int.natAbs_mul, ← Int.natAbs_mul, h]
  constructor
  · rw [← Int.natAbs_dvd_natAbs]
    exact hc'.dvd_of_dvd_mul_left ⟨m.natAbs, hn.symm⟩
  · rw [← Int.natAbs_dvd_natAbs]
    exact hc'.symm.dvd_of_dvd_mul_left ⟨n.natAbs, hn⟩
theorem dvd_le {p n B : Int} (h : p ∣ n) (hn : -B ≤ n ∧ n ≤ B) (h0 : n ≠ 0) : -B ≤ p ∧ p ≤ B := by
  have := Nat.le_of_dvd (by omega) (Int.natAbs_dvd_natAbs.mpr h)
  omega
/-- how large lowest terms are, when other terms are known -/
theorem rdc_bd {a b n m B : Int} (hb : b ≠ 0) (hm : m ≠ 0) (h : a * m = b * n) (hn : -B ≤ n ∧ n ≤ B) (hmb : -B ≤ m ∧ m ≤ B) : (-B ≤ (rdc a b).1 ∧ (rdc a b).1 ≤ B) ∧ (rdc a b).2 ≤ B := by
  have e := rdc_eq (a := a) hb
  have hp := rdc_pos (a := a) hb
  have hx : (rdc a b).1 * m = (rdc a b).2 * n := by
    refine Int.eq_of_mul_eq_mul_right hb ?_
    rw [Int.mul_right_comm, e, Int.mul_assoc, h, Int.mul_assoc, Int.mul_comm n]
  obtain ⟨d1, d2⟩ := cop_dvd (rdc_cop hb) hx
  refine ⟨?_, (dvd_le d2 hmb hm).2⟩
  by_cases h0 : n = 0
  · rw [h0, Int.mul_zero] at hx
    rcases Int.mul_eq_zero.mp hx with h | h
    · omega
    · exact absurd h hm
  · exact dvd_le d1 hn h0
/-- the same fraction has the same lowest terms -/
theorem rdc_uniq {a b n d : Int} (hb : b ≠ 0) (hd : 0 < d) (hc : Int.gcd n d = 1) (h : n * b = d * a) : rdc a b = (n, d) := by
  have e := rdc_eq (a := a) hb
  have hp := rdc_pos (a := a) hb
  have hx : (rdc a b).1 * d = (rdc a b).2 * n := by
    refine Int.eq_of_mul_eq_mul_right hb ?_
    rw [Int.mul_right_comm, e, Int.mul_assoc (rdc a b).2 n b, h, Int.mul_assoc, Int.mul_comm a]
  obtain ⟨_, d2⟩ := cop_dvd (rdc_cop hb) hx
  obtain ⟨_, d3⟩ := cop_dvd hc (show n * (rdc a b).2 = d * (rdc a b).1 by rw [Int.mul_comm d, hx, Int.mul_comm])
  have e2 : (rdc a b).2 = d := Int.dvd_antisymm (by omega) (by omega) d2 d3
  rw [e2, Int.mul_comm d] at hx
  exact Prod.ext (Int.eq_of_mul_eq_mul_right (by omega) hx) e2
