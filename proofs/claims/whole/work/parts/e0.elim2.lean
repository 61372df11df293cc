/-! BALANCE: the invariant of elimination. -/
/-- so many leaders, in rows 0 .., with their columns; columns before p are passed; A: the rows at the start, in the order of now -/
def EI (A V : Nat → Rw) (k p : Nat) (lc : Nat → Nat) : Prop :=
  (∀ a, a < k → lc a < p) ∧ (∀ a b, a < b → b < k → lc a < lc b) ∧ dt (ldR A k) (ldC lc k) ≠ 0 ∧ (∀ a, a < k → V a (lc a) ≠ 0 ∧ ∀ i, i < 10 → i ≠ a → V i (lc a) = 0) ∧ (∀ i, k ≤ i → i < 10 → ∀ q, q < p → V i q = 0) ∧ (∀ a, a < k → ∀ q, q < lc a → V a q = 0) ∧ (∀ x, (∀ a, a < k → dotL (A a) x pls = 0) → ∀ a, a < k → dotL (V a) x pls = 0) ∧ (∀ i, k ≤ i → i < 10 → ∃ l m, l ≠ 0 ∧ m ≠ 0 ∧ ∀ x, (∀ a, a < k → dotL (A a) x pls = 0) → l * dotL (V i) x pls = m * dotL (A i) x pls) ∧ (∀ x, (∀ i, i < 10 → dotL (A i) x pls = 0) → ∀ i, i < 10 → dotL (V i) x pls = 0)
section EL
variable {A V : Nat → Rw} {k p : Nat} {lc : Nat → Nat}
theorem ldC_nd : ∀ {k}, (∀ a b, a < b → b < k → lc a < lc b) → (ldC lc k).Nodup := by
  intro k
  induction k with
  | zero => intro _; exact List.nodup_nil
  | succ k ih =>
    intro h
    show (lc k :: ldC lc k).Nodup
    refine List.nodup_cons.mpr ⟨fun hm => ?_, ih fun a b h1 h2 => h a b h1 (by omega)⟩
    obtain ⟨a, h1, h2⟩ := ldC_mem.mp hm
    have := h a k h1 (by omega)
    omega
/-- the start: nothing is passed -/
theorem EI.start (h : ∀ i, V i = A i) : EI A V 0 0 lc := ⟨fun a h => absurd h (Nat.not_lt_zero _), fun a b _ h => absurd h (Nat.not_lt_zero _), (show (1 : Int) ≠ 0 by decide), fun a h => absurd h (Nat.not_lt_zero _), fun i _ _ q h => absurd h (Nat.not_lt_zero _), fun a h => absurd h (Nat.not_lt_zero _), fun x _ a h => absurd h (Nat.not_lt_zero _), fun i _ _ => ⟨1, 1, by decide, by decide, fun x _ => by rw [h i]⟩, fun x hx i hi => by rw [h i]; exact hx i hi⟩
/-- no row for a column -/
theorem EI.skip (h : EI A V k p lc) (h0 : ∀ i, k ≤ i → i < 10 → V i p = 0) : EI A V k (p + 1) lc := by
  obtain ⟨h1, h2, h3, h4, h5, h6, h7, h8, h9⟩ := h
  refine ⟨fun a ha => by have := h1 a ha; omega, h2, h3, h4, fun i hi hi2 q hq => ?_, h6, h7, h8, h9⟩
  by_cases e : q = p
  · rw [e]; exact h0 i hi hi2
  · exact h5 i hi hi2 q (by omega)
/-- the vector of minors for one column more -/
theorem EI.minors (h : EI A V k p lc) (hp : p ≤ 10) {j : Nat} (hj : j < 10) (hn : ∀ a, a < k → j ≠ lc a) : (∀ a, a < k → dotL (A a) (crm (ldR A k) (j :: ldC lc k)) pls = 0) ∧ (j :: ldC lc k).Nodup ∧ crm (ldR A k) (j :: ldC lc k) j = dt (ldR A k) (ldC lc k) := by
  obtain ⟨h1, h2, h3, h4, h5, h6, h7, h8, h9⟩ := h
  have hj' : j ∉ ldC lc k := fun hm => by
    obtain ⟨a, a1, a2⟩ := ldC_mem.mp hm
    exact hn a a1 a2
  have nd : (j :: ldC lc k).Nodup := List.nodup_cons.mpr ⟨hj', ldC_nd h2⟩
  have lt : ∀ q ∈ j :: ldC lc k, q < 10 := fun q hq => by
    rcases List.mem_cons.mp hq with e | e
    · omega
    · obtain ⟨a, a1, a2⟩ := ldC_mem.mp e
      have := h1 a a1
      omega
  refine ⟨fun a ha => ?_, nd, crm_self hj'⟩
  rw [crm_pls nd lt]
  exact dt_mem _ _ (ldR_mem.mpr ⟨a, ha, rfl⟩)
theorem dotL_v0 {s x : Rw} : ∀ {T : List Nat}, (∀ j ∈ T, s j = 0) → dotL s x T = 0 := by
  intro T
  induction T with
  | nil => intro _; rfl
  | cons c C ih =>
    intro h
    rw [dotL_cons, h c (List.mem_cons_self ..), ih fun j hj => h j (List.mem_cons_of_mem _ hj)]
    omega
theorem EI.dots (h : EI A V k p lc) (hp : p ≤ 10) {j : Nat} (hj : j < 10) (hn : ∀ a, a < k → j ≠ lc a) (v : Rw) : dotL v (crm (ldR A k) (j :: ldC lc k)) pls = v j * dt (ldR A k) (ldC lc k) + dotL v (crm (ldR A k) (j :: ldC lc k)) (ldC lc k) := by
  obtain ⟨_, nd, es⟩ := h.minors hp hj hn
  have lt : ∀ q ∈ j :: ldC lc k, q < 10 := fun q hq => by
    rcases List.mem_cons.mp hq with e | e
    · omega
    · obtain ⟨a, a1, a2⟩ := ldC_mem.mp e
      have := h.1 a a1
      omega
  rw [dotL_sub pls (j :: ldC lc k) pls_nd nd (fun q hq => pls_mem.mpr (lt q hq)) fun q _ hq => crm_out hq, dotL_cons, es]
/-- a row that is no leader: its entries are minors -/
theorem EI.val (h : EI A V k p lc) (hp : p ≤ 10) {i : Nat} (hi : k ≤ i) (hi2 : i < 10) : ∃ l m, l ≠ 0 ∧ m ≠ 0 ∧ ∀ j, j < 10 → (∀ a, a < k → j ≠ lc a) → l * (V i j * dt (ldR A k) (ldC lc k)) = m * dt (A i :: ldR A k) (j :: ldC lc k) := by
  obtain ⟨l, m, hl, hm, hx⟩ := h.2.2.2.2.2.2.2.1 i hi hi2
  refine ⟨l, m, hl, hm, fun j hj hn => ?_⟩
  obtain ⟨ho, nd, es⟩ := h.minors hp hj hn
  have lt : ∀ q ∈ j :: ldC lc k, q < 10 := fun q hq => by
    rcases List.mem_cons.mp hq with e | e
    · omega
    · obtain ⟨a, a1, a2⟩ := ldC_mem.mp e
      have := h.1 a a1
      omega
  have e1 := hx _ ho
  rw [h.dots hp hj hn, crm_pls nd lt, dotL_v0 fun c hc => ?_, Int.add_zero] at e1
  · exact e1
  · obtain ⟨a, a1, a2⟩ := ldC_mem.mp hc
    rw [a2]
    exact (h.2.2.2.1 a a1).2 i hi2 (by omega)
/-- a leader: its entries are minors but for a factor -/
theorem EI.lead (h : EI A V k p lc) (hk : k ≤ 10) (hp : p ≤ 10) {a : Nat} (ha : a < k) {j : Nat} (hj : j < 10) (hn : ∀ b, b < k → j ≠ lc b) : V a j * dt (ldR A k) (ldC lc k) + V a (lc a) * crm (ldR A k) (j :: ldC lc k) (lc a) = 0 := by
  obtain ⟨ho, nd, es⟩ := h.minors hp hj hn
  have e1 := h.2.2.2.2.2.2.1 _ ho a ha
  have nc := (List.nodup_cons.mp nd).2
  rw [h.dots hp hj hn, dotL_erase (c := lc a) (ldC lc k) (ldC_mem.mpr ⟨a, ha, rfl⟩), dotL_v0 fun c hc => ?_] at e1
  · omega
  · obtain ⟨c1, c2⟩ := (nc.mem_erase_iff).mp hc
    obtain ⟨b, b1, b2⟩ := ldC_mem.mp c2
    rw [b2]
    exact (h.2.2.2.1 b b1).2 a (by omega) fun e => c1 (by rw [b2, e])
end EL
