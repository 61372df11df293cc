/-! READING: clauses and rules. -/
def isCm (c : Nat) : Prop := c = 60 ∨ c = 61 ∨ c = 62
theorem isCm_dec (c : Nat) : isCm c ∨ ¬ isCm c := Classical.em _
def pC (kb : Nat) (t : List Nat) (i : Nat) : PR Ex := pb (pX kb t i) fun x => if tb t x.2 = 60 ∨ tb t x.2 = 61 ∨ tb t x.2 = 62 then pb (pX kb t (x.2 + 1)) fun y => .ok (.branch (tb t x.2) x.1 y.1, y.2) else .error x.2
def pCs (kb : Nat) (t : List Nat) : Nat → List Ex → Nat → PR (List Ex)
  | 0, _, i => .error i
  | n + 1, l, i => pb (pC kb t i) fun x => if tb t x.2 = 38 then pCs kb t n (l ++ [x.1]) (x.2 + 1) else .ok (l ++ [x.1], x.2)
def wEnd (t : List Nat) : Nat → Nat → Nat
  | 0, i => i
  | n + 1, i => if 97 ≤ tb t i ∧ tb t i ≤ 122 then wEnd t n (i + 1) else i
def wTx : List (List Nat) := [[105, 110], [105, 102], [111, 117, 116], [101, 109, 112, 116, 121]]
def isW (s t : List Nat) (b e : Nat) : Prop := e = b + s.length ∧ ∀ k, k < s.length → tb t (b + k) = s.getD k 0
/-- the kind that a word tells, 4 if none -/
def kOf (t : List Nat) (b e : Nat) : Nat :=
  if e = b + 2 ∧ tb t b = 105 ∧ tb t (b + 1) = 110 then 0
  else if e = b + 2 ∧ tb t b = 105 ∧ tb t (b + 1) = 102 then 1
  else if e = b + 3 ∧ tb t b = 111 ∧ tb t (b + 1) = 117 ∧ tb t (b + 2) = 116 then 2
  else if e = b + 5 ∧ tb t b = 101 ∧ tb t (b + 1) = 109 ∧ tb t (b + 2) = 112 ∧ tb t (b + 3) = 116 ∧ tb t (b + 4) = 121 then 3
  else 4
/-- the names that clauses take, as bits -/
def knB : List Cls → Nat
  | [] => 0
  | c :: cs => (if c.1 = 0 then 2 ^ c.2.2.1 else 0) ||| knB cs
def nTk (cs : List Cls) : Nat := (rIdx 0 0 cs).length
def nGv (cs : List Cls) : Nat := (rIdx 2 0 cs).length
def pCl (t : List Nat) (cs : List Cls) (i : Nat) : PR Cls :=
  if kOf t i (wEnd t 80 i) = 4 ∨ (kOf t i (wEnd t 80 i) = 0 ∧ 3 ≤ nTk cs) ∨ (kOf t i (wEnd t 80 i) = 2 ∧ 3 ≤ nGv cs) then .error i
  else if tb t (wEnd t 80 i) ≠ 32 then .error (wEnd t 80 i)
  else if kOf t i (wEnd t 80 i) = 1 then pb (pCs (knB cs) t 79 [] (wEnd t 80 i + 1)) fun x => .ok ((1, 0, 0, x.1), x.2)
  else if isFg (tb t (wEnd t 80 i + 1)) = false then .error (wEnd t 80 i + 1)
  else if kOf t i (wEnd t 80 i) = 3 then .ok ((3, tb t (wEnd t 80 i + 1) - 48, 0, []), wEnd t 80 i + 2)
  else if tb t (wEnd t 80 i + 2) ≠ 32 then .error (wEnd t 80 i + 2)
  else if kOf t i (wEnd t 80 i) = 0 then (if 120 ≤ tb t (wEnd t 80 i + 3) ∧ tb t (wEnd t 80 i + 3) ≤ 122 then .ok ((0, tb t (wEnd t 80 i + 1) - 48, tb t (wEnd t 80 i + 3) - 120, []), wEnd t 80 i + 4) else .error (wEnd t 80 i + 3))
  else pb (pX (knB cs) t (wEnd t 80 i + 3)) fun x => .ok ((2, tb t (wEnd t 80 i + 1) - 48, 0, [x.1]), x.2)
def pR (t : List Nat) : Nat → List Cls → Nat → Except Nat (List Cls)
  | 0, _, _ => .error t.length
  | n + 1, cs, i => pb (pCl t cs i) fun x =>
      if t.length ≤ x.2 then (if nTk (cs ++ [x.1]) = 0 then .error t.length else .ok (cs ++ [x.1]))
      else if tb t x.2 = 59 then pR t n (cs ++ [x.1]) (x.2 + 1) else .error x.2
/-- a text as a rule: where its fault is, or its clauses -/
def pRule (t : List Nat) : Except Nat (List Cls) := pR t 12 [] 0
theorem knB_add (cs : List Cls) (c : Cls) : knB (cs ++ [c]) = knB cs ||| (if c.1 = 0 then 2 ^ c.2.2.1 else 0) := by
  induction cs with
  | nil => simp [knB]
  | cons a cs ih => simp only [List.cons_append, knB, ih, Nat.or_assoc]
theorem nTk_add (cs : List Cls) (c : Cls) : nTk (cs ++ [c]) = nTk cs + if c.1 = 0 then 1 else 0 := by
  unfold nTk
  rw [rIdx_add, List.length_append]
  by_cases h : c.1 = 0
  · rw [if_pos h, if_pos h]; rfl
  · rw [if_neg h, if_neg h]; rfl
theorem nGv_add (cs : List Cls) (c : Cls) : nGv (cs ++ [c]) = nGv cs + if c.1 = 2 then 1 else 0 := by
  unfold nGv
  rw [rIdx_add, List.length_append]
  by_cases h : c.1 = 2
  · rw [if_pos h, if_pos h]; rfl
  · rw [if_neg h, if_neg h]; rfl
theorem PG_C {kb : Nat} {t : List Nat} : PG kb (pC kb t) t := by
  intro i hi
  refine pgR_pb (PG_X i hi) fun a j h1 h2 h3 h4 => ?_
  dsimp only
  by_cases c : tb t j = 60 ∨ tb t j = 61 ∨ tb t j = 62
  · rw [if_pos c]
    have hj := tb_len (t := t) (i := j) (by omega)
    refine pgR_pbm (PG_X (j + 1) (by omega)) (by omega) fun b k b1 b2 b3 b4 => ⟨by dsimp only; omega, b2, ?_, by omega, by omega, h4, b4⟩
    simp only [exPost, List.length_append, List.length_cons, List.length_nil]
    omega
  · rw [if_neg c]; exact ⟨by omega, h2⟩
/-- a comparison has three bytes -/
theorem pC_3 {kb : Nat} {t : List Nat} {i : Nat} (hi : i ≤ t.length) {x : Ex × Nat} (h : pC kb t i = .ok x) : i + 3 ≤ x.2 := by
  unfold pC at h
  have g := PG_X (kb := kb) (t := t) i hi
  revert h g
  cases pX kb t i with
  | error e => intro h; cases h
  | ok a =>
    intro h g
    rw [pb_ok] at h
    by_cases c : tb t a.2 = 60 ∨ tb t a.2 = 61 ∨ tb t a.2 = 62
    · rw [if_pos c] at h
      have hj := tb_len (t := t) (i := a.2) (by omega)
      have g2 := PG_X (kb := kb) (t := t) (a.2 + 1) (by omega)
      revert h g2
      cases pX kb t (a.2 + 1) with
      | error e => intro h; cases h
      | ok b =>
        intro h g2
        rw [pb_ok] at h
        cases h
        have := g.1
        have := g2.1
        dsimp only
        omega
    · rw [if_neg c] at h; cases h
theorem exCode_add (l : List Ex) (c : Ex) : exCode (l ++ [c]) = exCode l ++ exPost c ++ (if l = [] then [] else [238]) := by
  cases l with
  | nil => simp [exCode]
  | cons a l => simp [exCode, exPost, List.foldl_append]
def pgL (kb : Nat) (t : List Nat) (i : Nat) : PR (List Ex) → Prop
  | .error e => i ≤ e ∧ e ≤ t.length
  | .ok x => i + 3 ≤ x.2 ∧ x.2 ≤ t.length ∧ (exCode x.1).length + i ≤ x.2 ∧ (∀ e ∈ x.1, exOK kb e) ∧ x.1 ≠ []
theorem pgL_cs {kb : Nat} {t : List Nat} {k : Nat} : ∀ (n : Nat) (l : List Ex) (i : Nat), k ≤ i → i ≤ t.length → (exCode l).length + (if l = [] then 0 else 1) + k ≤ i → (∀ e ∈ l, exOK kb e) → pgL kb t k (pCs kb t n l i) := by
  intro n
  induction n with
  | zero => intro l i h1 h2 h3 h4; exact ⟨h1, h2⟩
  | succ n ih =>
    intro l i h1 h2 h3 h4
    unfold pCs
    have g := PG_C (kb := kb) (t := t) i h2
    have g3 := fun x => pC_3 (kb := kb) (t := t) h2 (x := x)
    revert g g3
    cases pC kb t i with
    | error e => intro g _; exact ⟨by have := g.1; omega, g.2⟩
    | ok x =>
      intro g g3
      have g3 := g3 x rfl
      obtain ⟨g1, g2, gl, gk⟩ := g
      rw [pb_ok]
      have hk : ∀ e ∈ l ++ [x.1], exOK kb e := by
        intro e he
        rcases List.mem_append.mp he with h | h
        · exact h4 e h
        · rw [List.mem_singleton] at h; subst h; exact gk
      have hl : (exCode (l ++ [x.1])).length + k ≤ x.2 := by
        rw [exCode_add]
        by_cases e : l = []
        · subst e
          simp only [exCode, List.length_append, if_true, List.length_nil] at h3 ⊢
          omega
        · rw [if_neg e] at h3 ⊢
          simp only [List.length_append, List.length_cons, List.length_nil]
          omega
      by_cases c : tb t x.2 = 38
      · rw [if_pos c]
        have hj := tb_len (t := t) (i := x.2) (by omega)
        refine ih _ _ (by omega) (by omega) ?_ hk
        rw [if_neg (by simp)]
        omega
      · rw [if_neg c]
        exact ⟨by dsimp only; omega, g2, hl, hk, by simp⟩
theorem pCs_fuel {kb : Nat} {t : List Nat} : ∀ (n m : Nat) (l : List Ex) (i : Nat), t.length ≤ n + i → t.length ≤ m + i → i ≤ t.length → pCs kb t n l i = pCs kb t m l i := by
  have h0 : ∀ i, t.length ≤ i → pC kb t i = .error i := by
    intro i hi
    unfold pC pX pE pT
    rw [pF_0 hi]
    rfl
  intro n
  induction n with
  | zero =>
    intro m l i hn hm hi
    cases m with
    | zero => rfl
    | succ m => unfold pCs; rw [h0 i (by omega)]; rfl
  | succ n ih =>
    intro m l i hn hm hi
    cases m with
    | zero => unfold pCs; rw [h0 i (by omega)]; rfl
    | succ m =>
      unfold pCs
      have g := PG_C (kb := kb) (t := t) i hi
      revert g
      cases pC kb t i with
      | error e => intro _; rfl
      | ok x =>
        intro g
        rw [pb_ok, pb_ok]
        by_cases c : tb t x.2 = 38
        · have hj := tb_len (t := t) (i := x.2) (by omega)
          rw [if_pos c, if_pos c]
          have := g.1
          exact ih m _ _ (by omega) (by omega) (by omega)
        · rw [if_neg c, if_neg c]
