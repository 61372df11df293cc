/-! BALANCE: what elimination keeps. -/
theorem dotL_0 {s : Rw} {x : Rw} : ∀ {T : List Nat}, (∀ j ∈ T, x j = 0) → dotL s x T = 0 := by
  intro T
  induction T with
  | nil => intro _; rfl
  | cons c C ih =>
    intro h
    rw [dotL_cons, h c (List.mem_cons_self ..), ih fun j hj => h j (List.mem_cons_of_mem _ hj)]
    omega
theorem dotL_erase {s x : Rw} {c : Nat} : ∀ (T : List Nat), c ∈ T → dotL s x T = s c * x c + dotL s x (T.erase c) := by
  intro T
  induction T with
  | nil => intro h; exact absurd h List.not_mem_nil
  | cons d T ih =>
    intro h
    by_cases e : d = c
    · subst e
      rw [List.erase_cons_head, dotL_cons]
    · have hc : c ∈ T := by
        rcases List.mem_cons.mp h with h | h
        · exact absurd h.symm e
        · exact h
      rw [List.erase_cons_tail (by simpa using e), dotL_cons, dotL_cons, ih hc]
      omega
/-- outside of T there is nothing -/
theorem dotL_sub {s x : Rw} : ∀ (U T : List Nat), U.Nodup → T.Nodup → (∀ j ∈ T, j ∈ U) → (∀ j ∈ U, j ∉ T → x j = 0) → dotL s x U = dotL s x T := by
  intro U
  induction U with
  | nil =>
    intro T _ _ h _
    cases T with
    | nil => rfl
    | cons c T => exact absurd (h c (List.mem_cons_self ..)) List.not_mem_nil
  | cons c U ih =>
    intro T hU hT hs h0
    obtain ⟨hc, hU⟩ := List.nodup_cons.mp hU
    rw [dotL_cons]
    by_cases e : c ∈ T
    · have hT' : (T.erase c).Nodup := hT.erase c
      rw [dotL_erase T e, ih (T.erase c) hU hT' (fun j hj => ?_) fun j hj hn => ?_]
      · have hjT := List.mem_of_mem_erase hj
        rcases List.mem_cons.mp (hs j hjT) with h | h
        · subst h
          exact absurd hj (by rw [hT.mem_erase_iff]; exact fun h => h.1 rfl)
        · exact h
      · refine h0 j (List.mem_cons_of_mem _ hj) fun hjT => hn ?_
        rw [hT.mem_erase_iff]
        exact ⟨fun e => hc (by rw [← e]; exact hj), hjT⟩
    · rw [h0 c (List.mem_cons_self ..) e, ih T hU hT (fun j hj => ?_) fun j hj hn => h0 j (List.mem_cons_of_mem _ hj) hn]
      · omega
      · rcases List.mem_cons.mp (hs j hj) with h | h
        · subst h; exact absurd hj e
        · exact h
theorem pls_mem {j : Nat} : j ∈ pls ↔ j < 10 := by
  unfold pls
  simp only [List.mem_cons, List.not_mem_nil, or_false]
  omega
theorem pls_nd : pls.Nodup := by decide
/-- a row times the vector of minors -/
theorem crm_pls {s : Rw} {R : List Rw} {T : List Nat} (hn : T.Nodup) (ht : ∀ j ∈ T, j < 10) : dotL s (crm R T) pls = dt (s :: R) T := by
  rw [dotL_sub pls T pls_nd hn (fun j hj => pls_mem.mpr (ht j hj)) fun j _ hj => crm_out hj, crm_dot hn]
/-- the leaders' first rows and their columns, newest first -/
def ldR (A : Nat → Rw) : Nat → List Rw
  | 0 => []
  | k + 1 => A k :: ldR A k
def ldC (lc : Nat → Nat) : Nat → List Nat
  | 0 => []
  | k + 1 => lc k :: ldC lc k
theorem ldR_mem {A : Nat → Rw} {r : Rw} : ∀ {k}, r ∈ ldR A k ↔ ∃ a, a < k ∧ r = A a := by
  intro k
  induction k with
  | zero => simp [ldR]
  | succ k ih =>
    show r ∈ A k :: ldR A k ↔ _
    rw [List.mem_cons, ih]
    constructor
    · rintro (h | ⟨a, h1, h2⟩)
      · exact ⟨k, by omega, h⟩
      · exact ⟨a, by omega, h2⟩
    · rintro ⟨a, h1, h2⟩
      by_cases e : a = k
      · subst e; exact Or.inl h2
      · exact Or.inr ⟨a, by omega, h2⟩
theorem ldC_mem {lc : Nat → Nat} {c : Nat} : ∀ {k}, c ∈ ldC lc k ↔ ∃ a, a < k ∧ c = lc a := by
  intro k
  induction k with
  | zero => simp [ldC]
  | succ k ih =>
    show c ∈ lc k :: ldC lc k ↔ _
    rw [List.mem_cons, ih]
    constructor
    · rintro (h | ⟨a, h1, h2⟩)
      · exact ⟨k, by omega, h⟩
      · exact ⟨a, by omega, h2⟩
    · rintro ⟨a, h1, h2⟩
      by_cases e : a = k
      · subst e; exact Or.inl h2
      · exact Or.inr ⟨a, by omega, h2⟩
