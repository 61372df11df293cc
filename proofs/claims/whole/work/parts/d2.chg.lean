/-! BALANCE: the changes of rules are three up and three down. -/
/-- the place of a clause, 10 if there is none -/
def pl3 (l : List Cls) (i : Nat) : Nat := match l[i]? with
  | some c => c.2.1
  | none => 10
theorem cntP_3 {l : List Cls} (hl : l.length ≤ 3) {p : Nat} (hp : p < 10) : cntP l p = (if p = pl3 l 0 then 1 else 0) + (if p = pl3 l 1 then 1 else 0) + (if p = pl3 l 2 then 1 else 0) := by
  have n10 : ¬ p = 10 := by omega
  have sw : ∀ a : Nat, (if a = p then (1 : Int) else 0) = if p = a then 1 else 0 := fun a => by
    by_cases e : a = p
    · rw [if_pos e, if_pos e.symm]
    · rw [if_neg e, if_neg fun h => e h.symm]
  match l, hl with
  | [], _ => simp [cntP, pl3, n10]
  | [a], _ => simp [cntP, pl3, n10, sw]
  | [a, b], _ => simp [cntP, pl3, n10, sw]
  | [a, b, c], _ => simp [cntP, pl3, sw]; omega
  | _ :: _ :: _ :: _ :: _, h => simp at h
/-- a rule's change, with a place 10 that takes up what is missing -/
def chT3 (cs : List Cls) : (Nat × Nat) × (Nat × Nat) × (Nat × Nat) := ((pl3 (rOf 2 cs) 0, pl3 (rOf 0 cs) 0), (pl3 (rOf 2 cs) 1, pl3 (rOf 0 cs) 1), (pl3 (rOf 2 cs) 2, pl3 (rOf 0 cs) 2))
theorem chT3_eq {cs : List Cls} (ho : rlOK cs) {p : Nat} (hp : p < 10) : d3 (chT3 cs) p = rChg cs p := by
  have hg : (rOf 2 cs).length ≤ 3 := by rw [← rOf_len 2 0 cs]; exact ho.2.2.2.2.1
  have ht : (rOf 0 cs).length ≤ 3 := by rw [← rOf_len 0 0 cs]; exact ho.2.2.2.1
  rw [rChg_eq, cntP_3 hg hp, cntP_3 ht hp]
  unfold d3 chT3 dfr
  dsimp only
  omega
theorem rChg_3 {cs : List Cls} (ho : rlOK cs) {p : Nat} (hp : p < 10) : -3 ≤ rChg cs p ∧ rChg cs p ≤ 3 := by
  rw [← chT3_eq ho hp]
  have g : ∀ a b : Nat, -1 ≤ dfr a b p ∧ dfr a b p ≤ 1 := fun a b => by
    unfold dfr
    split <;> split <;> omega
  have h1 := g (pl3 (rOf 2 cs) 0) (pl3 (rOf 0 cs) 0)
  have h2 := g (pl3 (rOf 2 cs) 1) (pl3 (rOf 0 cs) 1)
  have h3 := g (pl3 (rOf 2 cs) 2) (pl3 (rOf 0 cs) 2)
  unfold d3 chT3
  dsimp only
  omega
/-- places 0 .. 9 -/
abbrev pls : List Nat := [0, 1, 2, 3, 4, 5, 6, 7, 8, 9]
/-- what no part's rule changes, weighted by x -/
def KX (rs : Nat → Option (List Cls)) (x : Rw) : Prop := ∀ p cs, p < 10 → rs p = some cs → dotL (rChg cs) x pls = 0
/-- a place that is bound: the last of some such weights -/
def freeP (rs : Nat → Option (List Cls)) (p : Nat) : Prop := p < 10 ∧ ∃ x, KX rs x ∧ x p ≠ 0 ∧ ∀ q, p < q → q < 10 → x q = 0
/-- weights that belong to a bound place -/
def wX (rs : Nat → Option (List Cls)) (f : Nat) (x : Rw) : Prop := KX rs x ∧ x f ≠ 0 ∧ ∀ q, q < 10 → q ≠ f → freeP rs q → x q = 0
theorem KX.lin {rs : Nat → Option (List Cls)} {x y : Rw} {k : Int} (hx : KX rs x) (hy : KX rs y) : KX rs (fun j => x j + k * y j) := fun p cs hp hr => by
  rw [dotL_lin, hx p cs hp hr, hy p cs hp hr, Int.mul_zero]
  rfl
theorem KX.scale {rs : Nat → Option (List Cls)} {x : Rw} {k : Int} (hx : KX rs x) : KX rs (fun j => k * x j) := fun p cs hp hr => by
  have h := dotL_lin (s := rChg cs) (x := fun _ => 0) (y := x) (k := k) pls
  have e : dotL (rChg cs) (fun j => (fun _ => (0 : Int)) j + k * x j) pls = dotL (rChg cs) (fun j => k * x j) pls := dotL_congr fun j _ => by
    show 0 + k * x j = k * x j
    omega
  have z : ∀ C : List Nat, dotL (rChg cs) (fun _ => 0) C = 0 := by
    intro C
    induction C with
    | nil => rfl
    | cons c C ih => rw [dotL_cons, ih]; omega
  rw [e, z, hx p cs hp hr] at h
  rw [h]
  omega
/-- weights that are zero in all bound places are zero -/
theorem KX.zero {rs : Nat → Option (List Cls)} {x : Rw} (hx : KX rs x) (hz : ∀ q, freeP rs q → x q = 0) : ∀ q, q < 10 → x q = 0 := by
  have : ∀ s q, s + q = 10 → ∀ q', q ≤ q' → q' < 10 → x q' = 0 := by
    intro s
    induction s with
    | zero => intro q hq q' h1 h2; omega
    | succ s ih =>
      intro q hq q' h1 h2
      by_cases e : q' = q
      · subst e
        by_cases e0 : x q' = 0
        · exact e0
        · exact hz q' ⟨h2, x, hx, e0, fun r r1 r2 => ih (q' + 1) (by omega) r (by omega) r2⟩
      · exact ih (q + 1) (by omega) q' (by omega) h2
  exact fun q hq => this 10 0 rfl q (Nat.zero_le _) hq
/-- a bound place's weights are one vector's multiples -/
theorem wX.uniq {rs : Nat → Option (List Cls)} {f : Nat} {x y : Rw} (hf : f < 10) (hx : wX rs f x) (hy : wX rs f y) : ∀ q, q < 10 → x q * y f = y q * x f := by
  intro q hq
  have h1 : KX rs (fun j => y f * x j + (- x f) * y j) := KX.lin hx.1.scale hy.1
  have := h1.zero (fun q hq => by
    by_cases e : q = f
    · subst e
      show y q * x q + (- x q) * y q = 0
      rw [Int.neg_mul, Int.mul_comm]
      omega
    · show y f * x q + (- x f) * y q = 0
      rw [hx.2.2 q hq.1 e hq, hy.2.2 q hq.1 e hq]
      omega) q hq
  have h2 : y f * x q + (- x f) * y q = 0 := this
  rw [Int.neg_mul] at h2
  rw [Int.mul_comm (x q), Int.mul_comm (y q)]
  omega
