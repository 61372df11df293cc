/-! NUMBERS: the machine's ints that are natural numbers. -/
theorem nI_ad (a b : Nat) : nI a + nI b = nI (a + b) := (Int32.ofNat_add a b).symm
theorem nI_ml (a b : Nat) : nI a * nI b = nI (a * b) := (Int32.ofNat_mul a b).symm
theorem nI_lti {a b : Nat} (ha : a < 2 ^ 31) (hb : b < 2 ^ 31) : nI a < nI b ↔ a < b := by
  rw [Int32.lt_iff_toInt_lt, nI_toInt ha, nI_toInt hb]; omega
theorem nI_lei {a b : Nat} (ha : a < 2 ^ 31) (hb : b < 2 ^ 31) : nI a ≤ nI b ↔ a ≤ b := by
  rw [Int32.le_iff_toInt_le, nI_toInt ha, nI_toInt hb]; omega
theorem nI_eqi {a b : Nat} (ha : a < 2 ^ 31) (hb : b < 2 ^ 31) : nI a = nI b ↔ a = b := by
  rw [← Int32.toInt_inj, nI_toInt ha, nI_toInt hb]; omega
theorem nI_eq0 {a : Nat} (ha : a < 2 ^ 31) : nI a = 0 ↔ a = 0 := by
  rw [← nI_0, nI_eqi ha (by decide)]
theorem nI_nn {a : Nat} (ha : a < 2 ^ 31) : ¬ nI a < 0 := by
  rw [← nI_0, nI_lti ha (by decide)]; omega
theorem nI_0le {a : Nat} (ha : a < 2 ^ 31) : 0 ≤ nI a := by
  rw [← nI_0, nI_lei (by decide) ha]; omega
theorem nI_0lt {a : Nat} (ha : a < 2 ^ 31) : 0 < nI a ↔ 0 < a := by
  rw [← nI_0, nI_lti (by decide) ha]
theorem nI_le0 {a : Nat} (ha : a < 2 ^ 31) : nI a ≤ 0 ↔ a = 0 := by
  rw [← nI_0, nI_lei ha (by decide)]; omega
theorem nI_sb {a b : Nat} (h : b ≤ a) : nI a - nI b = nI (a - b) := by
  have e : nI a = nI (a - b) + nI b := by rw [nI_ad]; congr 1; omega
  rw [e]
  exact Int32.add_sub_cancel _ _
theorem nI_pd {a : Nat} (h : 0 < a) : nI a + -(nI 1) = nI (a - 1) := by
  rw [← Int32.sub_eq_add_neg, nI_sb h]
theorem zOf_some {α : Type} (x : α) (f : α → Prop) : zOf (some x) f = f x := rfl
theorem zOp_some {α : Type} (x : α) (f : α → Prop) (g : Prop) : zOp (some x) f g = f x := rfl
theorem zOp_none {α : Type} (f : α → Prop) (g : Prop) : zOp (none : Option α) f g = g := rfl
theorem kI_int (x : Int32) (f : Int32 → Prop) : kI (some (.int x)) f = f x := rfl
theorem kL_long (x : Int64) (f : Int64 → Prop) : kL (some (.long x)) f = f x := rfl
theorem kO_ref (x : Nat) (f : Nat → Prop) (g : Prop) : kO (some (.ref x)) f g = f x := rfl
theorem kO_null (f : Nat → Prop) (g : Prop) : kO (some .null) f g = g := rfl
theorem azUp_at {α : Type} (f : Nat → Nat → α) (a k b j : Nat) (v : α) : azUp f a k v b j = if b = a then (if j = k then v else f b j) else f b j := rfl
/-- an index below n, or none -/
def ix (x : Int32) (n : Nat) : Option Nat := if 0 ≤ x ∧ x < nI n then some x.toNatClampNeg else none
theorem ix_nI {k n : Nat} (hn : n < 2 ^ 31) (h : k < n) : ix (nI k) n = some k := by
  unfold ix
  rw [if_pos ⟨nI_0le (by omega), (nI_lti (by omega) hn).mpr h⟩, nI_clamp (by omega)]
theorem ix_cases (x : Int32) {n : Nat} (hn : n < 2 ^ 31) : (ix x n = none ∧ (x < 0 ∨ (¬ x < 0 ∧ nI n ≤ x))) ∨ ∃ k, k < n ∧ x = nI k ∧ ix x n = some k := by
  by_cases h0 : x < 0
  · left
    refine ⟨?_, Or.inl h0⟩
    unfold ix
    rw [if_neg (fun h => absurd h0 (Int32.not_lt.mpr h.1))]
  · obtain ⟨k, hk, rfl⟩ := nI_of h0
    by_cases h1 : k < n
    · exact Or.inr ⟨k, h1, rfl, ix_nI hn h1⟩
    · left
      refine ⟨?_, Or.inr ⟨h0, (nI_lei hn hk).mpr (by omega)⟩⟩
      unfold ix
      rw [if_neg (fun h => h1 ((nI_lti hk hn).mp h.2))]
theorem nlt_T {a b : Nat} (h : a < b) : (a < b) = True := eq_true h
theorem nlt_F {a b : Nat} (h : b ≤ a) : (a < b) = False := eq_false (by omega)
theorem nle_T {a b : Nat} (h : a ≤ b) : (a ≤ b) = True := eq_true h
theorem nle_F {a b : Nat} (h : b < a) : (a ≤ b) = False := eq_false (by omega)
theorem neq_F {a b : Nat} (h : a < b ∨ b < a) : (a = b) = False := eq_false (by omega)
theorem vpT {k n : Nat} (h : k < n) (h2 : n < 2 ^ 31) : vp_in (nI k) n = True := eq_true (vp_in_nI h h2)
theorem n01_0 : (nI 0 = 0) = True := eq_true nI_0
theorem n01_1 : (nI 1 = 1) = True := eq_true (by decide)
theorem nm1_0 : (-(nI 1) = 0) = False := eq_false (by decide)
