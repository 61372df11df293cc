/-! BALANCE: how large the class's rows are. -/
/-- a row as at the start, or without a common divisor -/
def okR (v : Nat → Int) : Prop := (∀ j, j < 10 → -3 ≤ v j ∧ v j ≤ 3) ∨ gRow v 10 = 1
section EL
variable {A : Nat → Rw} {T : Nat → T3} {V : Nat → Rw} {k p : Nat} {lc : Nat → Nat}
theorem pow3_le {k : Nat} (h : k ≤ 10) : (3 ^ k : Int) ≤ 59049 := by
  have h1 : (3 ^ k : Nat) ≤ 3 ^ 10 := Nat.pow_le_pow_right (by decide) h
  have h2 : (3 ^ 10 : Nat) = 59049 := by decide
  have h3 : ((3 ^ k : Nat) : Int) = (3 : Int) ^ k := by rw [Int.natCast_pow]; rfl
  rw [← h3]
  omega
theorem bd_le {x : Int} {k : Nat} (h : k ≤ 10) (hx : -(3 ^ k : Int) ≤ x ∧ x ≤ 3 ^ k) : -59049 ≤ x ∧ x ≤ 59049 := by
  have := pow3_le h
  omega
theorem EI.bound (h : EI (fun i => d3 (T i)) V k p lc) (hk : k ≤ 10) (hp : p ≤ 10) {i : Nat} (hi : i < 10) (ho : okR (V i)) : ∀ j, j < 10 → -59049 ≤ V i j ∧ V i j ≤ 59049 := by
  rcases ho with ho | ho
  · intro j hj
    have := ho j hj
    omega
  have nd := ldC_nd (k := k) h.2.1
  by_cases c : k ≤ i
  · obtain ⟨l, m, hl, hm, hh⟩ := h.val hp c hi
    classical
    refine prim_bd (v := V i) (M := fun j => if ∃ a, a < k ∧ j = lc a then 0 else dt (d3 (T i) :: ldR (fun i => d3 (T i)) k) (j :: ldC lc k)) (Int.mul_ne_zero hl h.2.2.1) hm (fun j hj => ?_) (fun j hj => ?_) ho
    · by_cases e : ∃ a, a < k ∧ j = lc a
      · rw [if_pos e]
        obtain ⟨a, a1, a2⟩ := e
        rw [a2, (h.2.2.2.1 a a1).2 i hi (by omega), Int.mul_zero, Int.mul_zero]
      · rw [if_neg e]
        have := hh j hj fun a ha ea => e ⟨a, ha, ea⟩
        rw [Int.mul_assoc, Int.mul_comm _ (V i j)]
        exact this
    · by_cases e : ∃ a, a < k ∧ j = lc a
      · rw [if_pos e]; omega
      · rw [if_neg e]; exact bd_le (by omega) (dt_bd1 k i _)
  · have ha : i < k := by omega
    classical
    refine prim_bd (v := V i) (a := dt (ldR (fun i => d3 (T i)) k) (ldC lc k)) (b := V i (lc i)) (M := fun j => if j = lc i then dt (ldR (fun i => d3 (T i)) k) (ldC lc k) else if ∃ a, a < k ∧ j = lc a then 0 else -(crm (ldR (fun i => d3 (T i)) k) (j :: ldC lc k) (lc i))) h.2.2.1 (h.2.2.2.1 i ha).1 (fun j hj => ?_) (fun j hj => ?_) ho
    · by_cases e0 : j = lc i
      · rw [if_pos e0, e0, Int.mul_comm]
      · rw [if_neg e0]
        by_cases e : ∃ a, a < k ∧ j = lc a
        · rw [if_pos e]
          obtain ⟨a, a1, a2⟩ := e
          have : i ≠ a := fun e => e0 (by rw [e]; exact a2)
          rw [a2, (h.2.2.2.1 a a1).2 i hi this, Int.mul_zero, Int.mul_zero]
        · rw [if_neg e]
          have := h.lead hk hp ha hj fun b hb eb => e ⟨b, hb, eb⟩
          rw [Int.mul_comm, Int.mul_neg]
          omega
    · by_cases e0 : j = lc i
      · rw [if_pos e0]; exact bd_le hk (dt_bd k _)
      · rw [if_neg e0]
        by_cases e : ∃ a, a < k ∧ j = lc a
        · rw [if_pos e]; omega
        · rw [if_neg e]
          have hn : (j :: ldC lc k).Nodup := List.nodup_cons.mpr ⟨fun hm => e (ldC_mem.mp hm), nd⟩
          have := bd_le hk (crm_bd3 (T := T) k (lc i) hn)
          omega
/-- what is cleared stays so -/
theorem clO_ok {V : Nat → Nat → Int} {o c i : Nat} (h : okR (V i)) : okR (clO V o c i) := by
  unfold clO
  split
  · exact h
  · rcases shR_prim (v := fun q => V i q * V o c - V o q * V i c) with e | e
    · exact Or.inr e
    · refine Or.inl fun j hj => ?_
      have e := e j hj
      unfold shR
      split
      · dsimp only
        rw [e, Int.zero_tdiv]
        omega
      · dsimp only
        rw [e]
        omega
theorem sml_of {x : Int} (h : -59049 ≤ x ∧ x ≤ 59049) : sml x := by unfold sml; omega
theorem mul_bd {a b A B : Int} (ha : -A ≤ a ∧ a ≤ A) (hb : -B ≤ b ∧ b ≤ B) : -(A * B) ≤ a * b ∧ a * b ≤ A * B := by
  have h : (a * b).natAbs ≤ A.toNat * B.toNat := by
    rw [Int.natAbs_mul]
    exact Nat.mul_le_mul (by omega) (by omega)
  have e : ((A.toNat * B.toNat : Nat) : Int) = A * B := by
    rw [Int.natCast_mul, Int.toNat_of_nonneg (by omega), Int.toNat_of_nonneg (by omega)]
  omega
theorem sml_mm {a b c d : Int} (ha : -59049 ≤ a ∧ a ≤ 59049) (hb : -59049 ≤ b ∧ b ≤ 59049) (hc : -59049 ≤ c ∧ c ≤ 59049) (hd : -59049 ≤ d ∧ d ≤ 59049) : sml (a * b - c * d) := by
  have h1 := mul_bd ha hb
  have h2 := mul_bd hc hd
  unfold sml
  omega
theorem shR_rel {v : Nat → Int} : ∃ l : Int, l ≠ 0 ∧ ∀ q, q < 10 → l * shR v q = v q := by
  by_cases c : 1 < gRow v 10
  · refine ⟨(gRow v 10 : Int), by omega, fun q hq => ?_⟩
    unfold shR
    rw [if_pos c, Int.mul_comm]
    exact tdiv_ex (gRow_dvd 10 q hq)
  · refine ⟨1, by decide, fun q hq => ?_⟩
    unfold shR
    rw [if_neg c, Int.one_mul]
theorem shR_0 {v : Nat → Int} {q : Nat} (h : v q = 0) : shR v q = 0 := by
  unfold shR
  rw [h, Int.zero_tdiv]
  exact ite_self _
/-- one place of the class's elimination -/
theorem EI.class_step (h : EI A V k p lc) (hk : k < 10) (hp : p < 10) (hv : V k p ≠ 0) : EI A (fun i => clO V k p i) (k + 1) (p + 1) (fun a => if a = k then p else lc a) := by
  refine h.lead_step hk hp hv ⟨1, 1, by decide, by decide, fun q hq => ?_⟩ fun i hi hne => ?_
  · unfold clO
    rw [if_pos (Or.inl rfl)]
  · by_cases e : V i p = 0
    · refine ⟨?_, 1, 1, 0, by decide, by decide, fun q hq => ?_⟩
      · unfold clO
        rw [if_pos (Or.inr e)]
        exact e
      · unfold clO
        rw [if_pos (Or.inr e)]
        omega
    · have en : ¬ (i = k ∨ V i p = 0) := fun x => x.elim hne e
      obtain ⟨l, l1, l2⟩ := shR_rel (v := fun q => V i q * V k p - V k q * V i p)
      refine ⟨?_, l, V k p, V i p, l1, hv, fun q hq => ?_⟩
      · unfold clO
        rw [if_neg en]
        refine shR_0 ?_
        rw [Int.mul_comm]
        omega
      · unfold clO
        rw [if_neg en, l2 q hq]
        rw [Int.mul_comm (V i q), Int.mul_comm (V k q)]
end EL
