/-! BALANCE: the steps of elimination keep the invariant. -/
theorem ldR_congr {A B : Nat → Rw} : ∀ {k}, (∀ a, a < k → A a = B a) → ldR A k = ldR B k := by
  intro k
  induction k with
  | zero => intro _; rfl
  | succ k ih =>
    intro h
    show A k :: ldR A k = B k :: ldR B k
    rw [h k (by omega), ih fun a ha => h a (by omega)]
theorem ldC_congr {f g : Nat → Nat} : ∀ {k}, (∀ a, a < k → f a = g a) → ldC f k = ldC g k := by
  intro k
  induction k with
  | zero => intro _; rfl
  | succ k ih =>
    intro h
    show f k :: ldC f k = g k :: ldC g k
    rw [h k (by omega), ih fun a ha => h a (by omega)]
theorem dotL_rel {l m e : Int} {v' v w x : Rw} : ∀ {T : List Nat}, (∀ q ∈ T, l * v' q = m * v q - e * w q) → l * dotL v' x T = m * dotL v x T - e * dotL w x T := by
  intro T
  induction T with
  | nil => intro _; show l * 0 = m * 0 - e * 0; omega
  | cons c C ih =>
    intro h
    have h1 := h c (List.mem_cons_self ..)
    have h2 := ih fun q hq => h q (List.mem_cons_of_mem _ hq)
    rw [dotL_cons, dotL_cons, dotL_cons, Int.mul_add, Int.mul_add, Int.mul_add, h2, ← Int.mul_assoc, ← Int.mul_assoc, ← Int.mul_assoc, h1, Int.sub_mul]
    omega
theorem eq0_of {l a : Int} (hl : l ≠ 0) (h : l * a = 0) : a = 0 := by
  rcases Int.mul_eq_zero.mp h with h | h
  · exact absurd h hl
  · exact h
section EL
variable {A V V' : Nat → Rw} {k p : Nat} {lc : Nat → Nat}
/-- rows that are no leaders change places -/
theorem EI.perm (h : EI A V k p lc) (π : Nat → Nat) (h0 : ∀ i, i < k → π i = i) (h1 : ∀ i, k ≤ i → i < 10 → k ≤ π i ∧ π i < 10) (h2 : ∀ i, i < 10 → ∃ j, j < 10 ∧ π j = i) (hk : k ≤ 10) : EI (fun i => A (π i)) (fun i => V (π i)) k p lc := by
  obtain ⟨g1, g2, g3, g4, g5, g6, g7, g8, g9⟩ := h
  have eA : ∀ x : Rw, (∀ a, a < k → dotL (A (π a)) x pls = 0) → ∀ a, a < k → dotL (A a) x pls = 0 := fun x hx a ha => by
    have := hx a ha
    rw [h0 a ha] at this
    exact this
  have lt : ∀ i, i < 10 → π i < 10 := fun i hi => by
    by_cases c : i < k
    · rw [h0 i c]; exact hi
    · exact (h1 i (by omega) hi).2
  refine ⟨g1, g2, ?_, fun a ha => ⟨?_, fun i hi hne => ?_⟩, fun i hi hi2 q hq => g5 _ (h1 i hi hi2).1 (h1 i hi hi2).2 q hq, fun a ha q hq => ?_, fun x hx a ha => ?_, fun i hi hi2 => ?_, fun x hx i hi => ?_⟩
  · rw [ldR_congr (A := fun i => A (π i)) (B := A) fun a ha => by rw [h0 a ha]]
    exact g3
  · dsimp only; rw [h0 a ha]; exact (g4 a ha).1
  · refine (g4 a ha).2 _ (lt i hi) fun e => hne ?_
    by_cases c : i < k
    · rw [h0 i c] at e; exact e
    · have := (h1 i (by omega) hi).1
      omega
  · dsimp only; rw [h0 a ha]; exact g6 a ha q hq
  · dsimp only; rw [h0 a ha]; exact g7 x (eA x hx) a ha
  · obtain ⟨l, m, hl, hm, hh⟩ := g8 _ (h1 i hi hi2).1 (h1 i hi hi2).2
    exact ⟨l, m, hl, hm, fun x hx => hh x (eA x hx)⟩
  · refine g9 x (fun j hj => ?_) _ (lt i hi)
    obtain ⟨j', j1, j2⟩ := h2 j hj
    rw [← j2]
    exact hx j' j1
/-- row k becomes a leader in column p -/
theorem EI.lead_step (h : EI A V k p lc) (hk : k < 10) (hp : p < 10) (hv : V k p ≠ 0) (hK : ∃ l m, l ≠ 0 ∧ m ≠ 0 ∧ ∀ q, q < 10 → l * V' k q = m * V k q)
    (hI : ∀ i, i < 10 → i ≠ k → V' i p = 0 ∧ ∃ l m e, l ≠ 0 ∧ m ≠ 0 ∧ ∀ q, q < 10 → l * V' i q = m * V i q - e * V k q) : EI A V' (k + 1) (p + 1) (fun a => if a = k then p else lc a) := by
  have hval := h.val (by omega) (Nat.le_refl k) hk
  obtain ⟨g1, g2, g3, g4, g5, g6, g7, g8, g9⟩ := h
  obtain ⟨lk, mk, hlk, hmk, hK⟩ := hK
  have pn : ∀ a, a < k → p ≠ lc a := fun a ha e => by have := g1 a ha; omega
  have eC : ldC (fun a => if a = k then p else lc a) (k + 1) = p :: ldC lc k := by
    show (if k = k then p else lc k) :: ldC _ k = _
    rw [if_pos rfl, ldC_congr (g := lc) fun a ha => if_neg (by omega)]
  have zk : ∀ q, q < p → V k q = 0 := fun q hq => g5 k (Nat.le_refl k) hk q hq
  have zkl : ∀ a, a < k → V k (lc a) = 0 := fun a ha => (g4 a ha).2 k hk (by omega)
  have kz : ∀ q, q < 10 → V k q = 0 → V' k q = 0 := fun q hq e => eq0_of hlk (by rw [hK q hq, e, Int.mul_zero])
  have iz : ∀ i q, i < 10 → i ≠ k → q < 10 → V i q = 0 → V k q = 0 → V' i q = 0 := fun i q hi hne hq e1 e2 => by
    obtain ⟨_, l, m, e, hl, hm, hh⟩ := hI i hi hne
    exact eq0_of hl (by rw [hh q hq, e1, e2]; omega)
  have dk : ∀ x, lk * dotL (V' k) x pls = mk * dotL (V k) x pls := fun x => by
    have := dotL_rel (l := lk) (m := mk) (e := 0) (v' := V' k) (v := V k) (w := V k) (x := x) (T := pls) fun q hq => by
      rw [hK q (pls_mem.mp hq)]; omega
    omega
  have lt10 : ∀ a, a < k → lc a < 10 := fun a ha => by have := g1 a ha; omega
  have dk0 : ∀ x, (∀ a, a < k + 1 → dotL (A a) x pls = 0) → dotL (V k) x pls = 0 := fun x hx => by
    obtain ⟨l, m, hl, hm, hh⟩ := g8 k (Nat.le_refl k) hk
    have := hh x fun a ha => hx a (by omega)
    rw [hx k (by omega), Int.mul_zero] at this
    exact eq0_of hl this
  refine ⟨fun a ha => ?_, fun a b hab hb => ?_, ?_, fun a ha => ⟨?_, fun i hi hne => ?_⟩, fun i hi hi2 q hq => ?_, fun a ha q hq => ?_, fun x hx a ha => ?_, fun i hi hi2 => ?_, fun x hx i hi => ?_⟩
  · dsimp only
    by_cases e : a = k
    · rw [if_pos e]; omega
    · rw [if_neg e]; have := g1 a (by omega); omega
  · dsimp only
    rw [if_neg (show ¬ a = k by omega)]
    by_cases e : b = k
    · rw [if_pos e]; exact g1 a (by omega)
    · rw [if_neg e]; exact g2 a b hab (by omega)
  · rw [eC]
    show dt (A k :: ldR A k) (p :: ldC lc k) ≠ 0
    obtain ⟨l, m, hl, hm, hh⟩ := hval
    have := hh p hp pn
    intro e0
    rw [e0, Int.mul_zero] at this
    have := eq0_of hl this
    rcases Int.mul_eq_zero.mp this with h | h
    · exact hv h
    · exact g3 h
  · dsimp only
    by_cases e : a = k
    · rw [if_pos e, e]
      intro e0
      have := hK p hp
      rw [e0, Int.mul_zero] at this
      exact hv (eq0_of hmk this.symm)
    · rw [if_neg e]
      have ha' : a < k := by omega
      obtain ⟨_, l, m, c, hl, hm, hh⟩ := hI a (by omega) e
      intro e0
      have := hh (lc a) (lt10 a ha')
      rw [e0, zkl a ha', Int.mul_zero, Int.mul_zero, Int.sub_zero] at this
      exact (g4 a ha').1 (eq0_of hm this.symm)
  · dsimp only
    by_cases e : a = k
    · rw [if_pos e]
      exact (hI i hi (by omega)).1
    · rw [if_neg e]
      have ha' : a < k := by omega
      by_cases ek : i = k
      · rw [ek]; exact kz _ (lt10 a ha') (zkl a ha')
      · exact iz i _ hi ek (lt10 a ha') ((g4 a ha').2 i hi hne) (zkl a ha')
  · by_cases e : q = p
    · rw [e]; exact (hI i hi2 (by omega)).1
    · exact iz i q hi2 (by omega) (by omega) (g5 i (by omega) hi2 q (by omega)) (zk q (by omega))
  · dsimp only at hq
    by_cases e : a = k
    · rw [if_pos e] at hq
      rw [e]
      exact kz q (by omega) (zk q hq)
    · rw [if_neg e] at hq
      have ha' : a < k := by omega
      have := g1 a ha'
      exact iz a q (by omega) e (by omega) (g6 a ha' q hq) (zk q (by omega))
  · have z := dk0 x hx
    by_cases e : a = k
    · rw [e]
      refine eq0_of hlk ?_
      rw [dk x, z, Int.mul_zero]
    · obtain ⟨_, l, m, c, hl, hm, hh⟩ := hI a (by omega) e
      have := dotL_rel (l := l) (m := m) (e := c) (v' := V' a) (v := V a) (w := V k) (x := x) (T := pls) fun q hq => hh q (pls_mem.mp hq)
      rw [z, g7 x (fun b hb => hx b (by omega)) a (by omega), Int.mul_zero, Int.mul_zero] at this
      exact eq0_of hl (by omega)
  · obtain ⟨l0, m0, hl0, hm0, hh0⟩ := g8 i (by omega) hi2
    obtain ⟨_, l, m, c, hl, hm, hh⟩ := hI i hi2 (by omega)
    refine ⟨l0 * l, m * m0, Int.mul_ne_zero hl0 hl, Int.mul_ne_zero hm hm0, fun x hx => ?_⟩
    have h1 := dotL_rel (l := l) (m := m) (e := c) (v' := V' i) (v := V i) (w := V k) (x := x) (T := pls) fun q hq => hh q (pls_mem.mp hq)
    have h2 := hh0 x fun b hb => hx b (by omega)
    rw [dk0 x hx, Int.mul_zero, Int.sub_zero] at h1
    rw [Int.mul_assoc, h1, Int.mul_left_comm, h2, Int.mul_assoc]
  · have zi := g9 x hx
    by_cases e : i = k
    · rw [e]
      refine eq0_of hlk ?_
      rw [dk x, zi k hk, Int.mul_zero]
    · obtain ⟨_, l, m, c, hl, hm, hh⟩ := hI i hi e
      have := dotL_rel (l := l) (m := m) (e := c) (v' := V' i) (v := V i) (w := V k) (x := x) (T := pls) fun q hq => hh q (pls_mem.mp hq)
      rw [zi i hi, zi k hk, Int.mul_zero, Int.mul_zero] at this
      exact eq0_of hl (by omega)
end EL
