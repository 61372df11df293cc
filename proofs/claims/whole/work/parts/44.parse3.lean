/-! READING: what clauses and rules keep to. -/
theorem wEnd_ge {t : List Nat} : ∀ n i, i ≤ wEnd t n i := by
  intro n
  induction n with
  | zero => intro i; exact Nat.le_refl _
  | succ n ih =>
    intro i
    unfold wEnd
    by_cases c : 97 ≤ tb t i ∧ tb t i ≤ 122
    · rw [if_pos c]; have := ih (i + 1); omega
    · rw [if_neg c]; exact Nat.le_refl _
theorem wEnd_le {t : List Nat} : ∀ n i, i ≤ t.length → wEnd t n i ≤ t.length := by
  intro n
  induction n with
  | zero => intro i h; exact h
  | succ n ih =>
    intro i h
    unfold wEnd
    by_cases c : 97 ≤ tb t i ∧ tb t i ≤ 122
    · rw [if_pos c]; exact ih (i + 1) (tb_len (by omega))
    · rw [if_neg c]; exact h
theorem kOf_len {t : List Nat} {b e : Nat} : kOf t b e ≤ 4 ∧ (kOf t b e = 0 → e = b + 2) ∧ (kOf t b e = 1 → e = b + 2) ∧ (kOf t b e = 2 → e = b + 3) ∧ (kOf t b e = 3 → e = b + 5) := by
  unfold kOf
  split
  · rename_i h; exact ⟨by omega, fun _ => h.1, fun h => by omega, fun h => by omega, fun h => by omega⟩
  · split
    · rename_i h; exact ⟨by omega, fun h => by omega, fun _ => h.1, fun h => by omega, fun h => by omega⟩
    · split
      · rename_i h; exact ⟨by omega, fun h => by omega, fun h => by omega, fun _ => h.1, fun h => by omega⟩
      · split
        · rename_i h; exact ⟨by omega, fun h => by omega, fun h => by omega, fun h => by omega, fun _ => h.1⟩
        · exact ⟨by omega, fun h => by omega, fun h => by omega, fun h => by omega, fun h => by omega⟩
/-- what a clause keeps to -/
def clOK (kb : Nat) (c : Cls) : Prop := c.1 < 4 ∧ c.2.1 < 10 ∧ c.2.2.1 < 3 ∧ (∀ e ∈ c.2.2.2, exOK kb e) ∧ (c.1 = 0 → c.2.2.2 = []) ∧ (c.1 = 3 → c.2.2.2 = []) ∧ (c.1 = 1 → c.2.2.2 ≠ []) ∧ (c.1 = 2 → ∃ e, c.2.2.2 = [e])
def pgK (kb : Nat) (t : List Nat) (cs : List Cls) (i : Nat) : PR Cls → Prop
  | .error e => i ≤ e ∧ e ≤ t.length
  | .ok x => i + 6 ≤ x.2 ∧ x.2 ≤ t.length ∧ (cCode x.1).length + i ≤ x.2 ∧ clOK kb x.1 ∧ (x.1.1 = 0 → nTk cs < 3) ∧ (x.1.1 = 2 → nGv cs < 3)
theorem pgK_cl {t : List Nat} {cs : List Cls} {i : Nat} (hi : i ≤ t.length) : pgK (knB cs) t cs i (pCl t cs i) := by
  have w1 := wEnd_ge (t := t) 80 i
  have w2 := wEnd_le (t := t) 80 i hi
  have hk := kOf_len (t := t) (b := i) (e := wEnd t 80 i)
  unfold pCl
  revert w1 w2 hk
  generalize wEnd t 80 i = e
  intro w1 w2 hk
  generalize kOf t i e = k at hk ⊢
  obtain ⟨hk4, hk0, hk1, hk2, hk3⟩ := hk
  by_cases c1 : k = 4 ∨ (k = 0 ∧ 3 ≤ nTk cs) ∨ (k = 2 ∧ 3 ≤ nGv cs)
  · rw [if_pos c1]; exact ⟨Nat.le_refl _, hi⟩
  rw [if_neg c1]
  by_cases c2 : tb t e ≠ 32
  · rw [if_pos c2]; exact ⟨w1, w2⟩
  rw [if_neg c2]
  have l2 := tb_len (t := t) (i := e) (by omega)
  by_cases c3 : k = 1
  · rw [if_pos c3]
    have g := pgL_cs (kb := knB cs) (t := t) (k := e + 1) 79 [] (e + 1) (by omega) (by omega) (by simp [exCode]) (fun e he => absurd he List.not_mem_nil)
    revert g
    cases pCs (knB cs) t 79 [] (e + 1) with
    | error e => intro g; exact ⟨by have := g.1; omega, g.2⟩
    | ok x =>
      intro g
      obtain ⟨g1, g2, g3, g4, g5⟩ := g
      have := hk1 c3
      refine ⟨by dsimp only; omega, g2, by simp only [cCode]; omega, ⟨by dsimp only; omega, by dsimp only; omega, by dsimp only; omega, g4, fun h => by dsimp only at h; omega, fun h => ?_, fun _ => g5, fun h => ?_⟩, fun h => by dsimp only at h; omega, fun h => ?_⟩
      · dsimp only at h; omega
      · dsimp only at h; omega
      · dsimp only at h; omega
  rw [if_neg c3]
  by_cases c4 : isFg (tb t (e + 1)) = false
  · rw [if_pos c4]; exact ⟨by omega, by omega⟩
  rw [if_neg c4]
  have f4 : isFg (tb t (e + 1)) = true := by simpa using c4
  have q4 := isFg_iff.mp f4
  have l4 := tb_len (t := t) (i := e + 1) (by omega)
  by_cases c5 : k = 3
  · rw [if_pos c5]
    have := hk3 c5
    refine ⟨by dsimp only; omega, by dsimp only; omega, by simp only [cCode, exCode, List.length_nil]; omega, ⟨by dsimp only; omega, by dsimp only; omega, by dsimp only; omega, fun e he => absurd he List.not_mem_nil, fun _ => rfl, fun _ => rfl, fun h => ?_, fun h => ?_⟩, fun h => by dsimp only at h; omega, fun h => ?_⟩
    · dsimp only at h; omega
    · dsimp only at h; omega
    · dsimp only at h; omega
  rw [if_neg c5]
  by_cases c6 : tb t (e + 2) ≠ 32
  · rw [if_pos c6]; exact ⟨by omega, by omega⟩
  rw [if_neg c6]
  have l6 := tb_len (t := t) (i := e + 2) (by omega)
  by_cases c7 : k = 0
  · rw [if_pos c7]
    have := hk0 c7
    by_cases c8 : 120 ≤ tb t (e + 3) ∧ tb t (e + 3) ≤ 122
    · rw [if_pos c8]
      have l8 := tb_len (t := t) (i := e + 3) (by omega)
      refine ⟨by dsimp only; omega, by dsimp only; omega, by simp only [cCode, exCode, List.length_nil]; omega, ⟨by dsimp only; omega, by dsimp only; omega, by dsimp only; omega, fun e he => absurd he List.not_mem_nil, fun _ => rfl, fun _ => rfl, fun h => by dsimp only at h; omega, fun h => ?_⟩, fun h => by omega, fun h => ?_⟩
      · dsimp only at h; omega
      · dsimp only at h; omega
    · rw [if_neg c8]; exact ⟨by omega, by omega⟩
  rw [if_neg c7]
  have k2 : k = 2 := by omega
  have := hk2 k2
  have g := PG_X (kb := knB cs) (t := t) (e + 3) (by omega)
  revert g
  cases pX (knB cs) t (e + 3) with
  | error e => intro g; exact ⟨by have := g.1; omega, g.2⟩
  | ok x =>
    intro g
    obtain ⟨g1, g2, g3, g4⟩ := g
    rw [pb_ok]
    refine ⟨by dsimp only; omega, g2, by simp only [cCode, exCode, List.foldl_nil]; omega, ⟨by dsimp only; omega, by dsimp only; omega, by dsimp only; omega, ?_, fun h => by dsimp only at h; omega, fun h => ?_, fun h => ?_, fun _ => ⟨_, rfl⟩⟩, fun h => by dsimp only at h; omega, fun _ => by omega⟩
    · intro e he
      rw [List.mem_singleton] at he
      subst he
      exact g4
    · dsimp only at h; omega
    · dsimp only at h; omega
theorem exOK.mono {kb kb' : Nat} (h : ∀ w, kb.testBit w = true → kb'.testBit w = true) : ∀ {e : Ex}, exOK kb e → exOK kb' e := by
  intro e
  induction e with
  | leaf n => intro he; rcases he with he | ⟨h1, h2, h3⟩
              · exact Or.inl he
              · exact Or.inr ⟨h1, h2, h _ h3⟩
  | branch s a b iha ihb => intro he; exact ⟨he.1, he.2.1, iha he.2.2.1, ihb he.2.2.2⟩
theorem clOK.mono {kb kb' : Nat} (h : ∀ w, kb.testBit w = true → kb'.testBit w = true) {c : Cls} (hc : clOK kb c) : clOK kb' c := ⟨hc.1, hc.2.1, hc.2.2.1, fun e he => (hc.2.2.2.1 e he).mono h, hc.2.2.2.2⟩
/-- what clauses that are read up to a place keep to -/
def csOK (cs : List Cls) (i : Nat) : Prop := 7 * cs.length ≤ i ∧ (rCode cs).length ≤ i ∧ nTk cs ≤ 3 ∧ nGv cs ≤ 3 ∧ knB cs < 8 ∧ ∀ c ∈ cs, clOK (knB cs) c
theorem csOK.add {t : List Nat} {cs : List Cls} {i : Nat} (h : csOK cs i) {x : Cls × Nat} (hx : pgK (knB cs) t cs i (.ok x)) : csOK (cs ++ [x.1]) (x.2 + 1) := by
  obtain ⟨h1, h2, h3, h4, h5, h6⟩ := h
  obtain ⟨x1, x2, x3, x4, x5, x6⟩ := hx
  have hm : ∀ w, (knB cs).testBit w = true → (knB (cs ++ [x.1])).testBit w = true := by
    intro w hw
    rw [knB_add, Nat.testBit_or, hw, Bool.true_or]
  refine ⟨by rw [List.length_append, List.length_cons, List.length_nil]; omega, by rw [rCode_add, List.length_append]; omega, ?_, ?_, ?_, ?_⟩
  · rw [nTk_add]
    by_cases e : x.1.1 = 0
    · rw [if_pos e]; have := x5 e; omega
    · rw [if_neg e]; omega
  · rw [nGv_add]
    by_cases e : x.1.1 = 2
    · rw [if_pos e]; have := x6 e; omega
    · rw [if_neg e]; omega
  · rw [knB_add]
    have : (if x.1.1 = 0 then 2 ^ x.1.2.2.1 else 0) < 2 ^ 3 := by
      by_cases e : x.1.1 = 0
      · rw [if_pos e]; exact Nat.pow_lt_pow_right (by decide) x4.2.2.1
      · rw [if_neg e]; decide
    exact Nat.or_lt_two_pow (n := 3) h5 this
  · intro c hc
    rcases List.mem_append.mp hc with h | h
    · exact (h6 c h).mono hm
    · rw [List.mem_singleton] at h
      subst h
      exact x4.mono hm
/-- what a rule keeps to -/
def rlOK (cs : List Cls) : Prop := cs.length ≤ 12 ∧ (rCode cs).length ≤ 80 ∧ 0 < nTk cs ∧ nTk cs ≤ 3 ∧ nGv cs ≤ 3 ∧ knB cs < 8 ∧ ∀ c ∈ cs, clOK (knB cs) c
def pgQ (t : List Nat) : Except Nat (List Cls) → Prop
  | .error e => e ≤ t.length
  | .ok cs => rlOK cs
theorem pgQ_r {t : List Nat} (ht : t.length ≤ 80) : ∀ n cs i, csOK cs i → i ≤ t.length → pgQ t (pR t n cs i) := by
  intro n
  induction n with
  | zero => intro cs i h hi; exact Nat.le_refl _
  | succ n ih =>
    intro cs i h hi
    unfold pR
    have g := pgK_cl (cs := cs) hi
    revert g
    cases pCl t cs i with
    | error e => intro g; exact g.2
    | ok x =>
      intro g
      have ha := h.add g
      rw [pb_ok]
      have g2 := g.2.1
      by_cases c1 : t.length ≤ x.2
      · rw [if_pos c1]
        by_cases c2 : nTk (cs ++ [x.1]) = 0
        · rw [if_pos c2]; exact Nat.le_refl _
        · rw [if_neg c2]
          obtain ⟨a1, a2, a3, a4, a5, a6⟩ := ha
          have : (rCode (cs ++ [x.1])).length ≤ x.2 := by
            rw [rCode_add, List.length_append]
            have := h.2.1
            have := g.2.2.1
            omega
          exact ⟨by omega, by omega, by omega, a3, a4, a5, a6⟩
      · rw [if_neg c1]
        by_cases c2 : tb t x.2 = 59
        · rw [if_pos c2]; exact ih _ _ ha (by omega)
        · rw [if_neg c2]; exact g2
theorem pgQ_rule {t : List Nat} (ht : t.length ≤ 80) : pgQ t (pRule t) := pgQ_r ht 12 [] 0 ⟨by decide, by decide, by decide, by decide, by decide, fun c hc => absurd hc List.not_mem_nil⟩ (Nat.zero_le _)
