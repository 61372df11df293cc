/-! BALANCE: long numbers; Euclid. -/
abbrev lO (k : Int) : Int64 := Int64.ofInt k
/-- far from the ends -/
def sml (k : Int) : Prop := -4611686018427387904 < k ∧ k < 4611686018427387904
theorem lO_toInt {k : Int} (h : sml k) : (lO k).toInt = k := by
  unfold sml at h
  exact Int64.toInt_ofInt_of_le (by omega) (by omega)
theorem lO_ad (a b : Int) : lO a + lO b = lO (a + b) := (Int64.ofInt_add a b).symm
theorem lO_ml (a b : Int) : lO a * lO b = lO (a * b) := (Int64.ofInt_mul a b).symm
theorem lO_sb (a b : Int) : lO a - lO b = lO (a - b) := (Int64.ofInt_sub a b).symm
theorem lO_ng (a : Int) : - lO a = lO (-a) := (Int64.ofInt_neg a).symm
theorem lN_0 : lN 0 = lO 0 := rfl
theorem lO_inj {a b : Int} (ha : sml a) (hb : sml b) : lO a = lO b ↔ a = b := by
  rw [← Int64.toInt_inj, lO_toInt ha, lO_toInt hb]
theorem sml_0 : sml 0 := by unfold sml; omega
theorem lO_dv {a b : Int} (ha : sml a) (hb : sml b) : lO a / lO b = lO (a.tdiv b) := by
  have h1 := lO_toInt ha
  have hq : sml (a.tdiv b) := by
    have := Int.natAbs_tdiv_le_natAbs a b
    unfold sml at ha ⊢
    omega
  rw [← Int64.toInt_inj, Int64.toInt_div_of_ne_left, h1, lO_toInt hb, lO_toInt hq]
  intro e
  rw [e] at h1
  have : Int64.minValue.toInt = -9223372036854775808 := by decide
  unfold sml at ha
  omega
theorem lg_eq0 {a b : Int} (ha : sml a) (hb : sml b) : (lg_cmp (lO a) (lO b) = 0) = (a = b) := by
  have h1 := @lgc_neg (lO a) (lO b)
  have h2 := @lgc_pos (lO a) (lO b)
  rw [lO_toInt ha, lO_toInt hb] at h1 h2
  refine propext ⟨fun e => ?_, fun e => ?_⟩
  · rw [e] at h1 h2
    have n1 : ¬ ((0 : Int32) < 0) := by decide
    have a1 : ¬ a < b := fun h => n1 (h1.mpr h)
    have a2 : ¬ b < a := fun h => n1 (h2.mpr h)
    omega
  · have a1 : ¬ lg_cmp (lO a) (lO b) < 0 := fun h => by have := h1.mp h; omega
    have a2 : ¬ 0 < lg_cmp (lO a) (lO b) := fun h => by have := h2.mp h; omega
    rw [Int32.not_lt] at a1 a2
    exact Int32.le_antisymm a2 a1
theorem lg_ge0 {a b : Int} (ha : sml a) (hb : sml b) : (0 ≤ lg_cmp (lO a) (lO b)) = (b ≤ a) := by
  have h1 := @lgc_neg (lO a) (lO b)
  rw [lO_toInt ha, lO_toInt hb] at h1
  refine propext ⟨fun e => ?_, fun e => ?_⟩
  · have : ¬ lg_cmp (lO a) (lO b) < 0 := Int32.not_lt.mpr e
    have : ¬ a < b := fun h => this (h1.mpr h)
    omega
  · exact Int32.not_lt.mp fun h => by have := h1.mp h; omega
theorem lg_lt0 {a b : Int} (ha : sml a) (hb : sml b) : (lg_cmp (lO a) (lO b) < 0) = (a < b) := by
  have h1 := @lgc_neg (lO a) (lO b)
  rw [lO_toInt ha, lO_toInt hb] at h1
  exact propext h1
/-- the rest of a division -/
theorem lO_rm {x y : Nat} (hx : sml x) (hy : sml y) : lO x - lO x / lO y * lO y = lO ((x % y : Nat) : Int) := by
  rw [lO_dv hx hy, lO_ml, lO_sb]
  congr 1
  have e : ((x : Int).tdiv (y : Int)) = ((x / y : Nat) : Int) := by
    rw [Int.tdiv_eq_ediv_of_nonneg (by omega)]; rfl
  rw [e]
  have := Nat.div_add_mod x y
  have h2 : ((x / y * y : Nat) : Int) = ((x / y : Nat) : Int) * (y : Int) := by simp
  rw [← h2]
  rw [Nat.mul_comm] at this
  omega
section SB
variable {R : azP} {d n z : Nat} {kd : azK} {I : azI} {J : azJ} {F : azR} {Q : azQ}
theorem S_abs (hR : azClosed R) {a : Int} (ha : sml a) (h : Q (some (.long (lO (a.natAbs : Int)))) ((n, z, kd), I, J, F)) : R d mJ9_abs_067f4 0 [.long (lO a), .retAddr 1] [] ((n, z, kd), I, J, F) Q := by
  refine BJ9_abs_067f4_0 hR ?_
  rw [lN_0, lg_ge0 ha sml_0]
  refine ⟨fun e => ?_, fun e => ?_⟩
  · rw [show (a.natAbs : Int) = a by omega] at h
    exact h
  · rw [show (a.natAbs : Int) = -a by omega] at h
    rw [lO_ng]
    exact h
theorem gcd_step {x y : Nat} : Nat.gcd x y = Nat.gcd y (x % y) := by
  rw [Nat.gcd_comm x y, Nat.gcd_rec y x, Nat.gcd_comm]
theorem L_euc9 (hR : azClosed R) {y0 y2 : Int64} : ∀ (m x y : Nat) (w8 w9 : Value), y < m → sml x → sml y → Q (some (.long (lO (Nat.gcd x y : Int)))) ((n, z, kd), I, J, F) → R d mX9_gcd 28 [.long y0, .retAddr 1, .long y2, .retAddr 1, .long (lO x), .retAddr 1, .long (lO y), .retAddr 1, w8, w9] [] ((n, z, kd), I, J, F) Q := by
  intro m
  induction m with
  | zero => intro x y _ _ h; omega
  | succ m ih =>
    intro x y w8 w9 hm hx hy h
    refine BX9_gcd_28 hR ?_
    rw [lN_0, lg_eq0 hy sml_0]
    refine ⟨fun e => ?_, fun e => ⟨fun e2 => e ?_, ?_⟩⟩
    · have : y = 0 := by omega
      subst this
      rw [Nat.gcd_zero_right] at h
      exact h
    · exact (lO_inj hy sml_0).mp e2
    · have hy0 : 0 < y := by omega
      have hlt := Nat.mod_lt x hy0
      rw [lO_rm hx hy]
      rw [gcd_step] at h
      exact ih y (x % y) _ _ (by omega) hy (by unfold sml at hy ⊢; omega) h
theorem S_gcd9 (hR : azClosed R) {a b : Int} (ha : sml a) (hb : sml b) (h : Q (some (.long (lO (Int.gcd a b : Int)))) ((n, z, kd), I, J, F)) : R d mX9_gcd 0 [.long (lO a), .retAddr 1, .long (lO b), .retAddr 1, .retAddr 0, .retAddr 0, .retAddr 0, .retAddr 0, .retAddr 0, .retAddr 0] [] ((n, z, kd), I, J, F) Q := by
  have h : Q (some (.long (lO (Nat.gcd a.natAbs b.natAbs : Int)))) ((n, z, kd), I, J, F) := h
  have sa : sml (a.natAbs : Int) := by unfold sml at ha ⊢; omega
  have sb : sml (b.natAbs : Int) := by unfold sml at hb ⊢; omega
  have main := fun w8 w9 => L_euc9 (d := d) hR (y0 := lO a) (y2 := lO b) (b.natAbs + 1) a.natAbs b.natAbs w8 w9 (by omega) sa sb h
  refine BX9_gcd_0 hR ?_
  rw [lN_0, lg_ge0 ha sml_0, lg_ge0 hb sml_0, lO_ng, lO_ng]
  refine ⟨fun e => ⟨fun e2 => ?_, fun e2 => ?_⟩, fun e => ⟨fun e2 => ?_, fun e2 => ?_⟩⟩
  · rw [show (a.natAbs : Int) = a by omega, show (b.natAbs : Int) = b by omega] at main; exact main _ _
  · rw [show (a.natAbs : Int) = a by omega, show (b.natAbs : Int) = -b by omega] at main; exact main _ _
  · rw [show (a.natAbs : Int) = -a by omega, show (b.natAbs : Int) = b by omega] at main; exact main _ _
  · rw [show (a.natAbs : Int) = -a by omega, show (b.natAbs : Int) = -b by omega] at main; exact main _ _
theorem L_euc0 (hR : azClosed R) {y0 y2 : Int64} : ∀ (m x y s : Nat) (w9 w10 : Value), y < 2 ^ m → s + 2 * m ≤ 200 → sml x → sml y → Q (some (.long (lO (Nat.gcd x y : Int)))) ((n, z, kd), I, J, F) → R (d + 1) mX0_commonDivisor 15 [.long y0, .retAddr 1, .long y2, .retAddr 1, .long (lO x), .retAddr 1, .long (lO y), .retAddr 1, .int (nI s), w9, w10] [] ((n, z, kd), I, J, F) Q := by
  have done : ∀ (x s : Nat) (w9 w10 : Value), Q (some (.long (lO (x : Int)))) ((n, z, kd), I, J, F) → R (d + 1) mX0_commonDivisor 15 [.long y0, .retAddr 1, .long y2, .retAddr 1, .long (lO x), .retAddr 1, .long (lO ((0 : Nat) : Int)), .retAddr 1, .int (nI s), w9, w10] [] ((n, z, kd), I, J, F) Q := by
    intro x s w9 w10 h
    refine BX0_commonDivisor_15 hR ?_
    rw [lN_0, lg_eq0 (a := ((0 : Nat) : Int)) sml_0 sml_0]
    exact ⟨fun _ => h, fun _ => ⟨fun _ => h, fun e => absurd rfl e⟩⟩
  have step : ∀ (x y s : Nat) (w9 w10 : Value), 0 < y → s < 200 → sml x → sml y → (∀ w9 w10, R (d + 1) mX0_commonDivisor 15 [.long y0, .retAddr 1, .long y2, .retAddr 1, .long (lO y), .retAddr 1, .long (lO ((x % y : Nat) : Int)), .retAddr 1, .int (nI (s + 1)), w9, w10] [] ((n, z, kd), I, J, F) Q) → R (d + 1) mX0_commonDivisor 15 [.long y0, .retAddr 1, .long y2, .retAddr 1, .long (lO x), .retAddr 1, .long (lO y), .retAddr 1, .int (nI s), w9, w10] [] ((n, z, kd), I, J, F) Q := by
    intro x y s w9 w10 hy0 hs hx hy h
    refine BX0_commonDivisor_15 hR ?_
    rw [lN_0, lg_eq0 hy sml_0, lO_rm hx hy]
    refine ⟨fun e => ?_, fun _ => ⟨fun e => ?_, fun _ => ⟨fun e => ?_, ?_⟩⟩⟩
    · rw [nI_lei (by omega) (by omega)] at e; omega
    · omega
    · have := (lO_inj hy sml_0).mp e
      omega
    · rw [nI_ad]; exact h _ _
  intro m
  induction m with
  | zero =>
    intro x y s w9 w10 hy _ hx _ h
    obtain rfl : y = 0 := by
      rw [Nat.pow_zero] at hy; omega
    rw [Nat.gcd_zero_right] at h
    exact done x s w9 w10 h
  | succ m ih =>
    intro x y s w9 w10 hy hs hx hsy h
    by_cases y00 : y = 0
    · subst y00
      rw [Nat.gcd_zero_right] at h
      exact done x s w9 w10 h
    · have hy0 : 0 < y := by omega
      have hr := Nat.mod_lt x hy0
      have hsr : sml ((x % y : Nat) : Int) := by unfold sml at hsy ⊢; omega
      refine step x y s w9 w10 hy0 (by omega) hx hsy fun w9 w10 => ?_
      rw [gcd_step] at h
      by_cases r0 : x % y = 0
      · rw [r0] at h ⊢
        rw [Nat.gcd_zero_right] at h
        exact done y (s + 1) w9 w10 h
      · have hr0 : 0 < x % y := by omega
        have hq := Nat.mod_lt y hr0
        have hle : y % (x % y) ≤ y - (x % y) := by
          have h1 := Nat.div_add_mod y (x % y)
          have h2 : 1 ≤ y / (x % y) := (Nat.le_div_iff_mul_le hr0).mpr (by omega)
          have h3 : x % y ≤ (x % y) * (y / (x % y)) := Nat.le_mul_of_pos_right _ h2
          omega
        refine step y (x % y) (s + 1) w9 w10 hr0 (by omega) hsy hsr fun w9 w10 => ?_
        rw [gcd_step] at h
        rw [Nat.pow_succ] at hy
        exact ih (x % y) (y % (x % y)) (s + 2) w9 w10 (by omega) (by omega) hsr (by unfold sml at hsr ⊢; omega) h
theorem S_comDiv (hR : azClosed R) {a b : Int} (ha : sml a) (hb : sml b) (h : Q (some (.long (lO (Int.gcd a b : Int)))) ((n, z, kd), I, J, F)) : R (d + 1) mX0_commonDivisor 0 [.long (lO a), .retAddr 1, .long (lO b), .retAddr 1, .retAddr 0, .retAddr 0, .retAddr 0, .retAddr 0, .retAddr 0, .retAddr 0, .retAddr 0] [] ((n, z, kd), I, J, F) Q := by
  have sa : sml (a.natAbs : Int) := by unfold sml at ha ⊢; omega
  have sb : sml (b.natAbs : Int) := by unfold sml at hb ⊢; omega
  refine BX0_commonDivisor_0 hR ?_
  refine S_abs hR ha ?_
  rw [kL_long]
  refine S_abs hR hb ?_
  rw [kL_long]
  exact L_euc0 hR 62 a.natAbs b.natAbs 0 _ _ (by unfold sml at sb; have : (2 : Nat) ^ 62 = 4611686018427387904 := (by decide); omega) (by decide) sa sb h
end SB
