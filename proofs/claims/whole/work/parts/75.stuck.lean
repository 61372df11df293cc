/-! WALKS: stuck. -/
def ld (S : WS) (k : Nat) : Option (Option Nat) := S.2.2.getD k none
/-- by a lead to one that has it -/
def lds (S : WS) (L : Nat) (e : Nat → Bool) (i : Nat) : Bool := (List.range 10).any fun p => match ld S (10 * i + p) with
  | some (some j) => decide (j < L) && e j
  | _ => false
def reF (S : WS) (L : Nat) : Nat → Nat → Bool
  | 0, i => !(decide ((S.1.getD i mNil) 9 = []))
  | k + 1, i => reF S L k i || lds S L (reF S L k) i
/-- an end can be reached by leads -/
def RE (S : WS) (L i : Nat) : Prop := ∃ k, reF S L k i = true
def isStk (S : WS) (L : Nat) (v : Int32) : Prop := (v = -(nI 5) ∧ ∀ i, i < L → RE S L i) ∨ ∃ i, i < L ∧ v = nI i ∧ ¬ RE S L i ∧ ∀ j, j < i → RE S L j
theorem isStk_eq {S : WS} {L : Nat} {v w : Int32} (h1 : isStk S L v) (h2 : isStk S L w) : v = w := by
  rcases h1 with ⟨e1, a1⟩ | ⟨i, i1, e1, b1, c1⟩
  · rcases h2 with ⟨e2, a2⟩ | ⟨j, j1, e2, b2, c2⟩
    · rw [e1, e2]
    · exact absurd (a1 j j1) b2
  · rcases h2 with ⟨e2, a2⟩ | ⟨j, j1, e2, b2, c2⟩
    · exact absurd (a2 i i1) b1
    · rcases Nat.lt_trichotomy i j with h | h | h
      · exact absurd (c2 i h) b1
      · rw [e1, e2, h]
      · exact absurd (c1 j h) b2
theorem lds_iff {S : WS} {L : Nat} {e : Nat → Bool} {i : Nat} : lds S L e i = true ↔ ∃ p, p < 10 ∧ ∃ j, ld S (10 * i + p) = some (some j) ∧ j < L ∧ e j = true := by
  unfold lds
  rw [List.any_eq_true]
  constructor
  · rintro ⟨p, hp, h⟩
    refine ⟨p, List.mem_range.mp hp, ?_⟩
    revert h
    split
    · rename_i j hj
      intro h
      rw [Bool.and_eq_true, decide_eq_true_iff] at h
      exact ⟨j, hj, h.1, h.2⟩
    · intro h; cases h
  · rintro ⟨p, hp, j, hj, h1, h2⟩
    refine ⟨p, List.mem_range.mpr hp, ?_⟩
    rw [hj]
    simp [h1, h2]
theorem lds_mono {S : WS} {L : Nat} {e e' : Nat → Bool} {i : Nat} (h : ∀ j, j < L → e j = true → e' j = true) (hl : lds S L e i = true) : lds S L e' i = true := by
  obtain ⟨p, hp, j, hj, h1, h2⟩ := lds_iff.mp hl
  exact lds_iff.mpr ⟨p, hp, j, hj, h1, h j h1 h2⟩
theorem reF_le {S : WS} {L : Nat} {i : Nat} : ∀ (m k : Nat), reF S L k i = true → reF S L (k + m) i = true := by
  intro m
  induction m with
  | zero => intro k h; exact h
  | succ m ih =>
    intro k h
    show reF S L (k + m + 1) i = true
    unfold reF
    rw [ih k h, Bool.true_or]
/-- what leads to one from where an end can be reached is one -/
theorem RE_lds {S : WS} {L : Nat} {e : Nat → Bool} {i : Nat} (he : ∀ j, j < L → e j = true → RE S L j) (h : lds S L e i = true) : RE S L i := by
  obtain ⟨p, hp, j, hj, h1, h2⟩ := lds_iff.mp h
  obtain ⟨k, hk⟩ := he j h1 h2
  refine ⟨k + 1, ?_⟩
  unfold reF
  rw [Bool.or_eq_true]
  exact Or.inr (lds_iff.mpr ⟨p, hp, j, hj, h1, hk⟩)
/-- how many have it -/
def eN (e : Nat → Bool) : Nat → Nat
  | 0 => 0
  | k + 1 => eN e k + if e k then 1 else 0
theorem eN_le {e : Nat → Bool} : ∀ k, eN e k ≤ k := by
  intro k
  induction k with
  | zero => exact Nat.le_refl _
  | succ k ih => unfold eN; split <;> omega
theorem eN_mono {e e' : Nat → Bool} : ∀ k, (∀ j, j < k → e j = true → e' j = true) → eN e k ≤ eN e' k := by
  intro k
  induction k with
  | zero => intro _; exact Nat.le_refl _
  | succ k ih =>
    intro h
    have h1 := ih fun j hj => h j (by omega)
    have h2 := h k (by omega)
    unfold eN
    by_cases c : e k = true
    · rw [if_pos c, if_pos (h2 c)]; omega
    · rw [if_neg c]; omega
theorem eN_lt {e e' : Nat → Bool} : ∀ k, (∀ j, j < k → e j = true → e' j = true) → (∃ j, j < k ∧ e j = false ∧ e' j = true) → eN e k < eN e' k := by
  intro k
  induction k with
  | zero => rintro _ ⟨j, hj, _⟩; exact absurd hj (Nat.not_lt_zero _)
  | succ k ih =>
    rintro h ⟨j, hj, h1, h2⟩
    unfold eN
    by_cases ej : j = k
    · subst ej
      have := eN_mono j fun i hi => h i (by omega)
      rw [h1, h2, if_neg (by decide), if_pos rfl]
      omega
    · have h3 := ih (fun i hi => h i (by omega)) ⟨j, by omega, h1, h2⟩
      have h4 := h k (by omega)
      by_cases c : e k = true
      · rw [if_pos c, if_pos (h4 c)]; omega
      · rw [if_neg c]; omega
theorem eN_all {e : Nat → Bool} : ∀ k, eN e k = k → ∀ j, j < k → e j = true := by
  intro k
  induction k with
  | zero => intro _ j hj; exact absurd hj (Nat.not_lt_zero _)
  | succ k ih =>
    intro h j hj
    have := eN_le (e := e) k
    unfold eN at h
    by_cases c : e k = true
    · rw [if_pos c] at h
      by_cases ej : j = k
      · rw [ej]; exact c
      · exact ih (by omega) j (by omega)
    · rw [if_neg c] at h; omega
/-- what is spread so far: what is in it can reach an end, and all ends are -/
def spOK (S : WS) (L : Nat) (e : Nat → Bool) : Prop := (∀ i, i < L → e i = true → RE S L i) ∧ ∀ i, i < L → (S.1.getD i mNil) 9 ≠ [] → e i = true
def spCl (S : WS) (L : Nat) (e : Nat → Bool) : Prop := ∀ i, i < L → lds S L e i = true → e i = true
theorem spOK_all {S : WS} {L : Nat} {e : Nat → Bool} (h : spOK S L e) (hc : spCl S L e) : ∀ i, i < L → (e i = true ↔ RE S L i) := by
  have key : ∀ k i, i < L → reF S L k i = true → e i = true := by
    intro k
    induction k with
    | zero =>
      intro i hi hr
      unfold reF at hr
      refine h.2 i hi fun e0 => ?_
      rw [e0] at hr
      simp at hr
    | succ k ih =>
      intro i hi hr
      unfold reF at hr
      rw [Bool.or_eq_true] at hr
      rcases hr with hr | hr
      · exact ih i hi hr
      · exact hc i hi (lds_mono (fun j hj hjr => ih j hj hjr) hr)
  exact fun i hi => ⟨h.1 i hi, fun ⟨k, hk⟩ => key k i hi hk⟩
