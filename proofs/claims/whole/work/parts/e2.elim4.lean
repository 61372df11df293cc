/-! BALANCE: the end of elimination. -/
theorem dotL_t0 {s x : Rw} : ∀ {T : List Nat}, (∀ j ∈ T, s j = 0 ∨ x j = 0) → dotL s x T = 0 := by
  intro T
  induction T with
  | nil => intro _; rfl
  | cons c C ih =>
    intro h
    rw [dotL_cons, ih fun j hj => h j (List.mem_cons_of_mem _ hj)]
    rcases h c (List.mem_cons_self ..) with e | e <;> rw [e] <;> omega
theorem alg1 {D X y f v w : Int} (hl : v * D + w * X = 0) (u : y * D = X * f) : D * (v * f + w * y) = 0 := by
  have e1 : D * (v * f) = f * (v * D) := by rw [Int.mul_comm D, Int.mul_comm v f, Int.mul_assoc]
  have e2 : D * (w * y) = f * (w * X) := by
    rw [Int.mul_left_comm, Int.mul_comm D y, u, Int.mul_comm X f, Int.mul_left_comm]
  rw [Int.mul_add, e1, e2, ← Int.mul_add, hl, Int.mul_zero]
section EL
variable {A V : Nat → Rw} {k : Nat} {lc : Nat → Nat} {rs : Nat → Option (List Cls)}
/-- a leader's place is not bound -/
theorem EI.end_lead (h : EI A V k 10 lc) (hk : k ≤ 10) (hK : ∀ x, KX rs x → ∀ i, i < 10 → dotL (A i) x pls = 0) {a : Nat} (ha : a < k) : ¬ freeP rs (lc a) := by
  rintro ⟨_, x, hx, hne, hz⟩
  have hla := h.1 a ha
  have e := h.2.2.2.2.2.2.2.2 x (hK x hx) a (by omega)
  rw [dotL_erase (c := lc a) pls (pls_mem.mpr hla), dotL_t0 fun j hj => ?_, Int.add_zero] at e
  · rcases Int.mul_eq_zero.mp e with e | e
    · exact (h.2.2.2.1 a ha).1 e
    · exact hne e
  · obtain ⟨j1, j2⟩ := (pls_nd.mem_erase_iff).mp hj
    have := pls_mem.mp j2
    by_cases c : j < lc a
    · exact Or.inl (h.2.2.2.2.2.1 a ha j c)
    · exact Or.inr (hz j (by omega) this)
/-- any other place is bound, and its weights are minors -/
theorem EI.end_free (h : EI A V k 10 lc) (hk : k ≤ 10) (hK : ∀ x, KX rs x ↔ ∀ i, i < 10 → dotL (A i) x pls = 0) {f : Nat} (hf : f < 10) (hn : ∀ a, a < k → f ≠ lc a) : freeP rs f ∧ wX rs f (crm (ldR A k) (f :: ldC lc k)) := by
  obtain ⟨ho, nd, es⟩ := h.minors (Nat.le_refl 10) hf hn
  have hD := h.2.2.1
  have inK : KX rs (crm (ldR A k) (f :: ldC lc k)) := (hK _).mpr fun i hi => by
    by_cases c : i < k
    · exact ho i c
    · obtain ⟨l, m, hl, hm, hh⟩ := h.2.2.2.2.2.2.2.1 i (by omega) hi
      have := hh _ ho
      rw [dotL_v0 (s := V i) fun j hj => h.2.2.2.2.1 i (by omega) hi j (pls_mem.mp hj), Int.mul_zero] at this
      exact eq0_of hm this.symm
  have up : ∀ q, f < q → q < 10 → crm (ldR A k) (f :: ldC lc k) q = 0 := fun q h1 h2 => by
    by_cases c : q ∈ f :: ldC lc k
    · rcases List.mem_cons.mp c with e | e
      · omega
      · obtain ⟨a, a1, a2⟩ := ldC_mem.mp e
        have hl := h.lead hk (Nat.le_refl 10) a1 hf hn
        rw [h.2.2.2.2.2.1 a a1 f (by omega), Int.zero_mul, Int.zero_add, ← a2] at hl
        refine eq0_of ?_ hl
        rw [a2]
        exact (h.2.2.2.1 a a1).1
    · exact crm_out c
  have hne : crm (ldR A k) (f :: ldC lc k) f ≠ 0 := by rw [es]; exact hD
  refine ⟨⟨hf, _, inK, hne, up⟩, inK, hne, fun q hq hqf hfr => crm_out fun hm => ?_⟩
  rcases List.mem_cons.mp hm with e | e
  · exact hqf e
  · obtain ⟨a, a1, a2⟩ := ldC_mem.mp e
    rw [a2] at hfr
    exact h.end_lead hk (fun x hx => (hK x).mp hx) a1 hfr
/-- a leader's entry there is the weight but for a sign -/
theorem EI.end_weight (h : EI A V k 10 lc) (hk : k ≤ 10) (hK : ∀ x, KX rs x ↔ ∀ i, i < 10 → dotL (A i) x pls = 0) {f : Nat} (hf : f < 10) (hn : ∀ a, a < k → f ≠ lc a) {x : Rw} (hx : wX rs f x) {a : Nat} (ha : a < k) : V a f * x f + V a (lc a) * x (lc a) = 0 := by
  have hl := h.lead hk (Nat.le_refl 10) ha hf hn
  obtain ⟨_, hw⟩ := h.end_free hk hK hf hn
  obtain ⟨_, _, es⟩ := h.minors (Nat.le_refl 10) hf hn
  have u := wX.uniq hf hx hw (lc a) (h.1 a ha)
  rw [es] at u
  have hD := h.2.2.1
  refine eq0_of hD ?_
  exact alg1 hl u
end EL
