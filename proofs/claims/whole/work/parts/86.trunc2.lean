/-! WALKS: what is asked of the first ones alone. -/
/-- S holds the first L of S' -/
def fst (N : Nat) (S S' : WS) : Prop := S.1.length = min N S'.1.length ∧ (∀ i, i < S.1.length → S.1.getD i mNil = S'.1.getD i mNil ∧ S.2.1.getD i (0, 0) = S'.2.1.getD i (0, 0)) ∧ ∀ k, k < 10 * S.1.length → ld S k = tr N (ld S' k)
theorem wk_fst {N : Nat} (hN : N ≤ 60) (h0 : 0 < N) {rs : Nat → Option (List Cls)} {m : Mk} (ho : ∀ p cs, p < 10 → rs p = some cs → rlOK cs) (hv : mOK m) : fst N (wk N rs m) (wk 60 rs m) := by
  obtain ⟨h1, h2, l, h3⟩ := wk_TR hN h0 ho hv
  have hf := wk_full hN h0 ho hv
  have hl : (wk N rs m).1.length = min N (wk 60 rs m).1.length := by rw [h1, List.length_take]
  refine ⟨hl, fun i hi => ⟨?_, ?_⟩, fun k hk => ?_⟩
  · rw [h1, getD_take (by omega)]
  · rw [h2, getD_take (by omega)]
  · unfold ld
    rw [← hf] at hk
    have e : (wk N rs m).2.2.getD k none = ((wk N rs m).2.2 ++ l).getD k none := by
      simp only [List.getD_eq_getElem?_getD]
      rw [List.getElem?_append_left hk]
    rw [e, ← h3]
    simp only [List.getD_eq_getElem?_getD, List.getElem?_map]
    cases (wk 60 rs m).2.2[k]? with
    | none => rfl
    | some x => rfl
section TR
variable {N : Nat} {S S' : WS}
theorem mstT_fst (h : fst N S S') {p : Nat} : ∀ k, k ≤ S.1.length → mstT S p k = mstT S' p k := by
  intro k
  induction k with
  | zero => intro _; rfl
  | succ k ih =>
    intro hk
    unfold mstT
    rw [ih (by omega), (h.2.1 k (by omega)).1]
theorem ndT_fst (h : fst N S S') : ∀ k, k ≤ S.1.length → ndT S k = ndT S' k := by
  intro k
  induction k with
  | zero => intro _; rfl
  | succ k ih =>
    intro hk
    unfold ndT
    rw [ih (by omega), (h.2.1 k (by omega)).1]
theorem stp_fst (h : fst N S S') (hS : wsOK N S) : ∀ f i, i < S.1.length → stp S f i = stp S' f i := by
  intro f
  induction f with
  | zero => intro i _; rfl
  | succ f ih =>
    intro i hi
    unfold stp
    by_cases c : i = 0
    · rw [if_pos c, if_pos c]
    · rw [if_neg c, if_neg c, ← (h.2.1 i hi).2]
      have := (hS.2.2.2.2.1 i (by omega) hi).1
      rw [ih _ (by omega)]
theorem anc_fst (h : fst N S S') (hS : wsOK N S) : ∀ f i, i < S.1.length → anc S f i = anc S' f i ∧ anc S f i < S.1.length := by
  intro f
  induction f with
  | zero => intro i hi; exact ⟨rfl, hi⟩
  | succ f ih =>
    intro i hi
    unfold anc
    by_cases c : i = 0
    · rw [if_pos c, if_pos c]; exact ⟨rfl, by omega⟩
    · rw [if_neg c, if_neg c, ← (h.2.1 i hi).2]
      have := (hS.2.2.2.2.1 i (by omega) hi).1
      exact ih _ (by omega)
theorem reF_fst (h : fst N S S') (hj : ∀ k j, ld S' k = some (some j) → j < S'.1.length) : ∀ k i, i < S.1.length → reF S S.1.length k i = reF S' S.1.length k i := by
  intro k
  induction k with
  | zero =>
    intro i hi
    unfold reF
    rw [(h.2.1 i hi).1]
  | succ k ih =>
    intro i hi
    have e : lds S S.1.length (reF S S.1.length k) i = lds S' S.1.length (reF S' S.1.length k) i := by
      rw [Bool.eq_iff_iff, lds_iff, lds_iff]
      constructor
      · rintro ⟨p, hp, j, e1, e2, e3⟩
        have e4 := h.2.2 (10 * i + p) (by omega)
        rw [e1] at e4
        refine ⟨p, hp, j, ?_, e2, by rw [← ih j e2]; exact e3⟩
        cases e5 : ld S' (10 * i + p) with
        | none => rw [e5] at e4; cases e4
        | some x =>
          cases x with
          | none => rw [e5] at e4; cases e4
          | some j' =>
            rw [e5] at e4
            have e4 : some (some j) = if j' < N then some (some j') else some none := e4
            by_cases c : j' < N
            · rw [if_pos c] at e4; exact e4.symm
            · rw [if_neg c] at e4; cases e4
      · rintro ⟨p, hp, j, e1, e2, e3⟩
        have e4 := h.2.2 (10 * i + p) (by omega)
        rw [e1] at e4
        have e4 : ld S (10 * i + p) = if j < N then some (some j) else some none := e4
        have := h.1
        rw [if_pos (by omega)] at e4
        exact ⟨p, hp, j, e4, e2, by rw [ih j e2]; exact e3⟩
    show (reF S S.1.length k i || _) = (reF S' S.1.length k i || _)
    rw [ih i hi, e]
theorem isStk_fst (h : fst N S S') (hj : ∀ k j, ld S' k = some (some j) → j < S'.1.length) {v : Int32} (hv : isStk S' S.1.length v) : isStk S S.1.length v := by
  have e : ∀ i, i < S.1.length → (RE S S.1.length i ↔ RE S' S.1.length i) := fun i hi => by
    unfold RE
    constructor
    · rintro ⟨k, hk⟩; exact ⟨k, by rw [← reF_fst h hj k i hi]; exact hk⟩
    · rintro ⟨k, hk⟩; exact ⟨k, by rw [reF_fst h hj k i hi]; exact hk⟩
  rcases hv with ⟨e1, a1⟩ | ⟨i, i1, e1, b1, c1⟩
  · exact Or.inl ⟨e1, fun i hi => (e i hi).mpr (a1 i hi)⟩
  · exact Or.inr ⟨i, i1, e1, fun q => b1 ((e i i1).mp q), fun j hj' => (e j (by omega)).mpr (c1 j hj')⟩
/-- parts that can go somewhere among the first k, as bits -/
theorem abl_bit {l : List (Option (Option Nat))} {i : Nat} : ∀ n p, (abl l i n).testBit p = (decide (p < n) && (l.getD (10 * i + p) none).isSome) := by
  intro n
  induction n with
  | zero => intro p; simp [abl]
  | succ n ih =>
    intro p
    unfold abl
    by_cases c : (l.getD (10 * i + n) none).isSome = true
    · rw [if_pos c, Nat.testBit_or, ih, Nat.testBit_two_pow]
      by_cases e : p = n
      · subst e; rw [c]; simp
      · have h1 : decide (p < n + 1) = decide (p < n) := by simp; omega
        have h2 : decide (n = p) = false := by simp; omega
        rw [h1, h2, Bool.or_false]
    · rw [if_neg c, ih]
      by_cases e : p = n
      · subst e; rw [Bool.eq_false_iff.mpr c]; simp
      · have h1 : decide (p < n + 1) = decide (p < n) := by simp; omega
        rw [h1]
theorem orT_bit {p : Nat} : ∀ k, (orT S k).testBit p = true ↔ p < 10 ∧ ∃ i, i < k ∧ (ld S (10 * i + p)).isSome = true := by
  intro k
  induction k with
  | zero => constructor
            · intro h; simp [orT] at h
            · rintro ⟨_, i, hi, _⟩; omega
  | succ k ih =>
    unfold orT
    rw [Nat.testBit_or, Bool.or_eq_true, ih, abl_bit, Bool.and_eq_true, decide_eq_true_eq]
    constructor
    · rintro (⟨h1, i, h2, h3⟩ | ⟨h1, h2⟩)
      · exact ⟨h1, i, by omega, h3⟩
      · exact ⟨h1, k, by omega, h2⟩
    · rintro ⟨h1, i, h2, h3⟩
      by_cases e : i = k
      · subst e; exact Or.inr ⟨h1, h3⟩
      · exact Or.inl ⟨h1, i, by omega, h3⟩
theorem tr_some {x : Option (Option Nat)} : (tr N x).isSome = x.isSome := by
  cases x with
  | none => rfl
  | some y =>
    cases y with
    | none => rfl
    | some i => unfold tr; dsimp only; split <;> rfl
theorem orT_fst (h : fst N S S') : ∀ k, k ≤ S.1.length → orT S k = orT S' k := by
  intro k hk
  apply Nat.eq_of_testBit_eq
  intro p
  rw [Bool.eq_iff_iff, orT_bit, orT_bit]
  constructor
  · rintro ⟨h1, i, h2, h3⟩
    refine ⟨h1, i, h2, ?_⟩
    rw [h.2.2 _ (by omega), tr_some] at h3
    exact h3
  · rintro ⟨h1, i, h2, h3⟩
    refine ⟨h1, i, h2, ?_⟩
    rw [h.2.2 _ (by omega), tr_some]
    exact h3
theorem orT_lt : ∀ k, orT S k < 1024 := by
  intro k
  induction k with
  | zero => show 0 < 1024; decide
  | succ k ih => exact Nat.or_lt_two_pow (n := 10) ih (abl_lt 10)
end TR
/-- parts told, as bits -/
def tldT (ru : Ru) : Nat → Nat
  | 0 => 0
  | p + 1 => if (ru p).isSome then tldT ru p ||| 2 ^ p else tldT ru p
theorem tldT_lt {ru : Ru} : ∀ p, tldT ru p < 2 ^ p := by
  intro p
  induction p with
  | zero => exact Nat.one_pos
  | succ p ih =>
    unfold tldT
    have h1 : 2 ^ p < 2 ^ (p + 1) := Nat.pow_lt_pow_right (by decide) (by omega)
    split
    · exact Nat.or_lt_two_pow (by omega) h1
    · omega
theorem tldT_bit {ru : Ru} : ∀ n p, (tldT ru n).testBit p = (decide (p < n) && (ru p).isSome) := by
  intro n
  induction n with
  | zero => intro p; simp [tldT]
  | succ n ih =>
    intro p
    unfold tldT
    by_cases c : (ru n).isSome = true
    · rw [if_pos c, Nat.testBit_or, ih, Nat.testBit_two_pow]
      by_cases e : p = n
      · subst e; simp [c]
      · have h1 : decide (p < n + 1) = decide (p < n) := by simp; omega
        have h2 : decide (n = p) = false := by simp; omega
        rw [h1, h2, Bool.or_false]
    · rw [if_neg c, ih]
      by_cases e : p = n
      · subst e; simp at c; simp [c]
      · have h1 : decide (p < n + 1) = decide (p < n) := by simp; omega
        rw [h1]
/-- told, but not among these -/
def ddT (ru : Ru) (o : Nat) : Nat → Nat
  | 0 => 0
  | p + 1 => if (ru p).isSome && !(o.testBit p) then ddT ru o p ||| 2 ^ p else ddT ru o p
theorem ddT_lt {ru : Ru} {o : Nat} : ∀ p, ddT ru o p < 2 ^ p := by
  intro p
  induction p with
  | zero => exact Nat.one_pos
  | succ p ih =>
    unfold ddT
    have h1 : 2 ^ p < 2 ^ (p + 1) := Nat.pow_lt_pow_right (by decide) (by omega)
    split
    · exact Nat.or_lt_two_pow (by omega) h1
    · omega
theorem ddT_bit {ru : Ru} {o : Nat} : ∀ n p, (ddT ru o n).testBit p = (decide (p < n) && ((ru p).isSome && !(o.testBit p))) := by
  intro n
  induction n with
  | zero => intro p; simp [ddT]
  | succ n ih =>
    intro p
    unfold ddT
    by_cases c : ((ru n).isSome && !(o.testBit n)) = true
    · rw [if_pos c, Nat.testBit_or, ih, Nat.testBit_two_pow]
      by_cases e : p = n
      · subst e; simp [c]
      · have h1 : decide (p < n + 1) = decide (p < n) := by simp; omega
        have h2 : decide (n = p) = false := by simp; omega
        rw [h1, h2, Bool.or_false]
    · rw [if_neg c, ih]
      by_cases e : p = n
      · subst e
        have c : ((ru p).isSome && !(o.testBit p)) = false := by simpa using c
        simp [c]
      · have h1 : decide (p < n + 1) = decide (p < n) := by simp; omega
        rw [h1]
theorem dd_eq {ru : Ru} {o : Nat} (ho : o < 1024) : nI (tldT ru 10) &&& (nI o ^^^ -(nI 1)) = nI (ddT ru o 10) := by
  rw [← Int32.toBitVec_inj]
  have e : (nI (tldT ru 10) &&& (nI o ^^^ -(nI 1))).toBitVec = BitVec.ofNat 32 (tldT ru 10) &&& (BitVec.ofNat 32 o ^^^ BitVec.allOnes 32) := rfl
  rw [e]
  apply BitVec.eq_of_getLsbD_eq
  intro i hi
  have e2 : (nI (ddT ru o 10)).toBitVec = BitVec.ofNat 32 (ddT ru o 10) := rfl
  rw [e2, BitVec.getLsbD_and, BitVec.getLsbD_xor, BitVec.getLsbD_allOnes, BitVec.getLsbD_ofNat, BitVec.getLsbD_ofNat, BitVec.getLsbD_ofNat, tldT_bit, ddT_bit]
  simp only [hi, decide_true, Bool.true_and, Bool.bne_true]
  cases decide (i < 10) <;> cases (ru i).isSome <;> cases o.testBit i <;> rfl
