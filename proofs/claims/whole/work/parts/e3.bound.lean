/-! BALANCE: how large the minors are. -/
abbrev T3 := (Nat × Nat) × (Nat × Nat) × (Nat × Nat)
/-- the change of a part: of its rule, or none -/
def chP (rs : Nat → Option (List Cls)) (p : Nat) : T3 := match rs p with
  | none => ((10, 10), (10, 10), (10, 10))
  | some cs => chT3 cs
theorem d3_none {p : Nat} : d3 ((10, 10), (10, 10), (10, 10)) p = 0 := by
  unfold d3 dfr
  dsimp only
  omega
def ldT (T : Nat → T3) : Nat → List T3
  | 0 => []
  | k + 1 => T k :: ldT T k
theorem ldT_len {T : Nat → T3} : ∀ k, (ldT T k).length = k := by
  intro k
  induction k with
  | zero => rfl
  | succ k ih =>
    show (T k :: ldT T k).length = _
    rw [List.length_cons, ih]
theorem ldR_d3 {T : Nat → T3} : ∀ k, ldR (fun i => d3 (T i)) k = (ldT T k).map d3 := by
  intro k
  induction k with
  | zero => rfl
  | succ k ih =>
    show d3 (T k) :: ldR (fun i => d3 (T i)) k = (T k :: ldT T k).map d3
    rw [ih]
    rfl
theorem dt_bd {T : Nat → T3} (k : Nat) (C : List Nat) : -(3 ^ k : Int) ≤ dt (ldR (fun i => d3 (T i)) k) C ∧ dt (ldR (fun i => d3 (T i)) k) C ≤ 3 ^ k := by
  rw [ldR_d3]
  have := dt_3k (ldT T k) [] C
  rw [ldT_len] at this
  exact this
theorem dt_bd1 {T : Nat → T3} (k i : Nat) (C : List Nat) : -(3 ^ (k + 1) : Int) ≤ dt (d3 (T i) :: ldR (fun i => d3 (T i)) k) C ∧ dt (d3 (T i) :: ldR (fun i => d3 (T i)) k) C ≤ 3 ^ (k + 1) := by
  rw [ldR_d3]
  have := dt_3k (T i :: ldT T k) [] C
  rw [List.length_cons, ldT_len] at this
  exact this
theorem crm_bd3 {T : Nat → T3} (k j : Nat) {C : List Nat} (hn : C.Nodup) : -(3 ^ k : Int) ≤ crm (ldR (fun i => d3 (T i)) k) C j ∧ crm (ldR (fun i => d3 (T i)) k) C j ≤ 3 ^ k := crm_bd (fun C => dt_bd k C) (Int.le_of_lt (Int.pow_pos (by decide))) C hn
/-- orthogonal to all changes: KX -/
theorem KX_iff {rs : Nat → Option (List Cls)} (ho : ∀ p cs, p < 10 → rs p = some cs → rlOK cs) (x : Rw) : KX rs x ↔ ∀ i, i < 10 → dotL (d3 (chP rs i)) x pls = 0 := by
  have e : ∀ cs, rlOK cs → dotL (d3 (chT3 cs)) x pls = dotL (rChg cs) x pls := fun cs h => by
    unfold dotL
    congr 1
    exact List.map_congr_left fun j hj => by rw [chT3_eq h (pls_mem.mp hj)]
  constructor
  · intro h i hi
    unfold chP
    cases hr : rs i with
    | none => exact dotL_v0 fun j _ => d3_none
    | some cs => exact (e cs (ho i cs hi hr)).trans (h i cs hi hr)
  · intro h p cs hp hr
    have := h p hp
    unfold chP at this
    rw [hr] at this
    exact (e cs (ho p cs hp hr)).symm.trans this
