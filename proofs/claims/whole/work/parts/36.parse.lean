/-! READING: how a text is read as a rule. -/
abbrev PR (α : Type) := Except Nat (α × Nat)
def pb {α β : Type} : Except Nat α → (α → Except Nat β) → Except Nat β
  | .error e, _ => .error e
  | .ok a, f => f a
theorem pb_ok {α β : Type} (a : α) (f : α → Except Nat β) : pb (.ok a) f = f a := rfl
theorem pb_er {α β : Type} (e : Nat) (f : α → Except Nat β) : pb (.error e) f = .error e := rfl
/-- the byte at a place, 0 behind the text -/
def tb (t : List Nat) (i : Nat) : Nat := t.getD i 0
def isFg (c : Nat) : Bool := decide (48 ≤ c) && decide (c ≤ 57)
def pTm (fac : Nat → PR Ex) (t : List Nat) : Nat → Ex → Nat → PR Ex
  | 0, a, i => .ok (a, i)
  | n + 1, a, i => if tb t i = 42 then pb (fac (i + 1)) fun x => pTm fac t n (.branch 42 a x.1) x.2 else .ok (a, i)
def pT (fac : Nat → PR Ex) (t : List Nat) (i : Nat) : PR Ex := pb (fac i) fun x => pTm fac t t.length x.1 x.2
def pSm (fac : Nat → PR Ex) (t : List Nat) : Nat → Ex → Nat → PR Ex
  | 0, a, i => .ok (a, i)
  | n + 1, a, i => if tb t i = 43 ∨ tb t i = 45 then pb (pT fac t (i + 1)) fun x => pSm fac t n (.branch (tb t i) a x.1) x.2 else .ok (a, i)
def pE (fac : Nat → PR Ex) (t : List Nat) (i : Nat) : PR Ex := pb (pT fac t i) fun x => pSm fac t t.length x.1 x.2
/-- a factor, with so many brackets to spare; kb tells the names -/
def pF (kb : Nat) (t : List Nat) : Nat → Nat → PR Ex
  | b, i =>
    if isFg (tb t i) then (if isFg (tb t (i + 1)) then .ok (.leaf ((tb t i - 48) * 10 + (tb t (i + 1) - 48)), i + 2) else .ok (.leaf (tb t i - 48), i + 1))
    else if 120 ≤ tb t i ∧ tb t i ≤ 122 ∧ kb.testBit (tb t i - 120) then .ok (.leaf (100 + (tb t i - 120)), i + 1)
    else if tb t i = 40 then (match b with
      | 0 => .error i
      | b + 1 => pb (pE (pF kb t b) t (i + 1)) fun x => if tb t x.2 = 41 then .ok (x.1, x.2 + 1) else .error x.2)
    else .error i
/-- an expression with no bracket round it -/
def pX (kb : Nat) (t : List Nat) (i : Nat) : PR Ex := pE (pF kb t 5) t i
/-- the way of one loop over factors -/
def gPr (P : Option Ex) (F : Ex) : Ex := match P with
  | none => F
  | some p => .branch 42 p F
def gSu (L : Option (Nat × Ex)) (T : Ex) : Ex := match L with
  | none => T
  | some w => .branch w.1 w.2 T
def gLo (fac : Nat → PR Ex) (t : List Nat) : Nat → Option (Nat × Ex) → Option Ex → Nat → PR Ex
  | 0, _, _, i => .error i
  | n + 1, L, P, i => pb (fac i) fun x =>
      if tb t x.2 = 42 then gLo fac t n L (some (gPr P x.1)) (x.2 + 1)
      else if tb t x.2 = 43 ∨ tb t x.2 = 45 then gLo fac t n (some (tb t x.2, gSu L (gPr P x.1))) none (x.2 + 1)
      else .ok (gSu L (gPr P x.1), x.2)
theorem tb_len {t : List Nat} {i : Nat} (h : tb t i ≠ 0) : i < t.length := by
  by_cases hi : i < t.length
  · exact hi
  · exfalso; apply h; unfold tb; simp [List.getD_eq_getElem?_getD, Nat.le_of_not_lt hi]
theorem tb_0 {t : List Nat} {i : Nat} (h : t.length ≤ i) : tb t i = 0 := by
  unfold tb; simp [List.getD_eq_getElem?_getD, h]
/-- what any reader of expressions keeps to -/
def exOK (kb : Nat) : Ex → Prop
  | .leaf n => n < 100 ∨ (100 ≤ n ∧ n < 103 ∧ kb.testBit (n - 100) = true)
  | .branch s a b => s < 100 ∧ s ≠ 0 ∧ exOK kb a ∧ exOK kb b
def pgR (kb : Nat) (t : List Nat) (i : Nat) : PR Ex → Prop
  | .error e => i ≤ e ∧ e ≤ t.length
  | .ok x => i < x.2 ∧ x.2 ≤ t.length ∧ (exPost x.1).length + i ≤ x.2 ∧ exOK kb x.1
def PG (kb : Nat) (fac : Nat → PR Ex) (t : List Nat) : Prop := ∀ i, i ≤ t.length → pgR kb t i (fac i)
theorem pgR_pb {kb : Nat} {t : List Nat} {i : Nat} {x : PR Ex} (h : pgR kb t i x) {f : Ex × Nat → PR Ex} (hf : ∀ a j, i < j → j ≤ t.length → (exPost a).length + i ≤ j → exOK kb a → pgR kb t i (f (a, j))) : pgR kb t i (pb x f) := by
  cases x with
  | error e => exact h
  | ok x => exact hf x.1 x.2 h.1 h.2.1 h.2.2.1 h.2.2.2
/-- the same from farther on -/
theorem pgR_pbm {kb : Nat} {t : List Nat} {i k : Nat} {x : PR Ex} (h : pgR kb t k x) (hk : i ≤ k) {f : Ex × Nat → PR Ex} (hf : ∀ a j, k < j → j ≤ t.length → (exPost a).length + k ≤ j → exOK kb a → pgR kb t i (f (a, j))) : pgR kb t i (pb x f) := by
  cases x with
  | error e => exact ⟨Nat.le_trans hk h.1, h.2⟩
  | ok x => exact hf x.1 x.2 h.1 h.2.1 h.2.2.1 h.2.2.2
theorem pgR_tm {kb : Nat} {fac : Nat → PR Ex} {t : List Nat} (hf : PG kb fac t) : ∀ (n : Nat) (a : Ex) (i k : Nat), k < i → i ≤ t.length → (exPost a).length + k ≤ i → exOK kb a → pgR kb t k (pTm fac t n a i) := by
  intro n
  induction n with
  | zero => intro a i k h1 h2 h3 h4; exact ⟨h1, h2, h3, h4⟩
  | succ n ih =>
    intro a i k h1 h2 h3 h4
    unfold pTm
    by_cases c : tb t i = 42
    · rw [if_pos c]
      have hi := tb_len (t := t) (i := i) (by omega)
      refine pgR_pbm (hf (i + 1) (by omega)) (by omega) fun b j b1 b2 b3 b4 => ih _ _ _ (by omega) b2 ?_ ⟨by decide, by decide, h4, b4⟩
      simp only [exPost, List.length_append, List.length_cons, List.length_nil]
      omega
    · rw [if_neg c]; exact ⟨h1, h2, h3, h4⟩
theorem PG_T {kb : Nat} {fac : Nat → PR Ex} {t : List Nat} (hf : PG kb fac t) : PG kb (pT fac t) t := fun i hi => pgR_pb (hf i hi) fun a j h1 h2 h3 h4 => pgR_tm hf _ _ _ _ h1 h2 h3 h4
theorem pgR_sm {kb : Nat} {fac : Nat → PR Ex} {t : List Nat} (hf : PG kb fac t) : ∀ (n : Nat) (a : Ex) (i k : Nat), k < i → i ≤ t.length → (exPost a).length + k ≤ i → exOK kb a → pgR kb t k (pSm fac t n a i) := by
  intro n
  induction n with
  | zero => intro a i k h1 h2 h3 h4; exact ⟨h1, h2, h3, h4⟩
  | succ n ih =>
    intro a i k h1 h2 h3 h4
    unfold pSm
    by_cases c : tb t i = 43 ∨ tb t i = 45
    · rw [if_pos c]
      have hi := tb_len (t := t) (i := i) (by omega)
      refine pgR_pbm (PG_T hf (i + 1) (by omega)) (by omega) fun b j b1 b2 b3 b4 => ih _ _ _ (by omega) b2 ?_ ⟨by omega, by omega, h4, b4⟩
      simp only [exPost, List.length_append, List.length_cons, List.length_nil]
      omega
    · rw [if_neg c]; exact ⟨h1, h2, h3, h4⟩
theorem PG_E {kb : Nat} {fac : Nat → PR Ex} {t : List Nat} (hf : PG kb fac t) : PG kb (pE fac t) t := fun i hi => pgR_pb (PG_T hf i hi) fun a j h1 h2 h3 h4 => pgR_sm hf _ _ _ _ h1 h2 h3 h4
theorem isFg_iff {c : Nat} : isFg c = true ↔ 48 ≤ c ∧ c ≤ 57 := by simp [isFg]
theorem PG_F {kb : Nat} {t : List Nat} : ∀ b, PG kb (pF kb t b) t := by
  intro b
  induction b with
  | zero =>
    intro i hi
    unfold pF
    by_cases c1 : isFg (tb t i) = true
    · rw [if_pos c1]
      have d1 := isFg_iff.mp c1
      have l1 := tb_len (t := t) (i := i) (by omega)
      by_cases c2 : isFg (tb t (i + 1)) = true
      · rw [if_pos c2]
        have d2 := isFg_iff.mp c2
        have l2 := tb_len (t := t) (i := i + 1) (by omega)
        refine ⟨by omega, by omega, ?_, ?_⟩
        · simp only [exPost, List.length_cons, List.length_nil]; omega
        · simp only [exOK]; omega
      · rw [if_neg c2]
        refine ⟨by omega, by omega, ?_, ?_⟩
        · simp only [exPost, List.length_cons, List.length_nil]; omega
        · simp only [exOK]; omega
    · rw [if_neg c1]
      by_cases c2 : 120 ≤ tb t i ∧ tb t i ≤ 122 ∧ kb.testBit (tb t i - 120)
      · rw [if_pos c2]
        have l1 := tb_len (t := t) (i := i) (by omega)
        refine ⟨by omega, by omega, ?_, ?_⟩
        · simp only [exPost, List.length_cons, List.length_nil]; omega
        · exact Or.inr ⟨by omega, by omega, by rw [Nat.add_sub_cancel_left]; exact c2.2.2⟩
      · rw [if_neg c2]
        by_cases c3 : tb t i = 40
        · rw [if_pos c3]; exact ⟨by omega, hi⟩
        · rw [if_neg c3]; exact ⟨by omega, hi⟩
  | succ b ih =>
    intro i hi
    unfold pF
    by_cases c1 : isFg (tb t i) = true
    · rw [if_pos c1]
      have d1 := isFg_iff.mp c1
      have l1 := tb_len (t := t) (i := i) (by omega)
      by_cases c2 : isFg (tb t (i + 1)) = true
      · rw [if_pos c2]
        have d2 := isFg_iff.mp c2
        have l2 := tb_len (t := t) (i := i + 1) (by omega)
        refine ⟨by omega, by omega, ?_, ?_⟩
        · simp only [exPost, List.length_cons, List.length_nil]; omega
        · simp only [exOK]; omega
      · rw [if_neg c2]
        refine ⟨by omega, by omega, ?_, ?_⟩
        · simp only [exPost, List.length_cons, List.length_nil]; omega
        · simp only [exOK]; omega
    · rw [if_neg c1]
      by_cases c2 : 120 ≤ tb t i ∧ tb t i ≤ 122 ∧ kb.testBit (tb t i - 120)
      · rw [if_pos c2]
        have l1 := tb_len (t := t) (i := i) (by omega)
        refine ⟨by omega, by omega, ?_, ?_⟩
        · simp only [exPost, List.length_cons, List.length_nil]; omega
        · exact Or.inr ⟨by omega, by omega, by rw [Nat.add_sub_cancel_left]; exact c2.2.2⟩
      · rw [if_neg c2]
        by_cases c3 : tb t i = 40
        · rw [if_pos c3]
          have l1 := tb_len (t := t) (i := i) (by omega)
          refine pgR_pbm (PG_E ih (i + 1) (by omega)) (by omega) fun a j h1 h2 h3 h4 => ?_
          dsimp only
          by_cases c4 : tb t j = 41
          · rw [if_pos c4]
            have l2 := tb_len (t := t) (i := j) (by omega)
            exact ⟨by omega, by omega, by dsimp only; omega, h4⟩
          · rw [if_neg c4]; exact ⟨by omega, h2⟩
        · rw [if_neg c3]; exact ⟨by omega, hi⟩
theorem PG_X {kb : Nat} {t : List Nat} : PG kb (pX kb t) t := PG_E (PG_F 5)
theorem pF_0 {kb : Nat} {t : List Nat} {b i : Nat} (h : t.length ≤ i) : pF kb t b i = .error i := by
  unfold pF
  rw [tb_0 h]
  rfl
/-- loops that have as many turns as there are bytes left go as far as any -/
theorem pTm_fuel {kb : Nat} {fac : Nat → PR Ex} {t : List Nat} (hf : PG kb fac t) : ∀ (n m : Nat) (a : Ex) (i : Nat), t.length ≤ n + i → t.length ≤ m + i → pTm fac t n a i = pTm fac t m a i := by
  intro n
  induction n with
  | zero =>
    intro m a i hn hm
    cases m with
    | zero => rfl
    | succ m => unfold pTm; rw [if_neg (by rw [tb_0 (by omega)]; omega)]
  | succ n ih =>
    intro m a i hn hm
    by_cases c : tb t i = 42
    · have hi := tb_len (t := t) (i := i) (by omega)
      cases m with
      | zero => omega
      | succ m =>
        unfold pTm
        rw [if_pos c, if_pos c]
        have := hf (i + 1) (by omega)
        revert this
        cases fac (i + 1) with
        | error e => intro _; rfl
        | ok x => intro h; exact ih m _ _ (by have := h.1; omega) (by have := h.1; omega)
    · cases m with
      | zero => unfold pTm; rw [if_neg c]
      | succ m => unfold pTm; rw [if_neg c, if_neg c]
theorem pSm_fuel {kb : Nat} {fac : Nat → PR Ex} {t : List Nat} (hf : PG kb fac t) : ∀ (n m : Nat) (a : Ex) (i : Nat), t.length ≤ n + i → t.length ≤ m + i → pSm fac t n a i = pSm fac t m a i := by
  intro n
  induction n with
  | zero =>
    intro m a i hn hm
    cases m with
    | zero => rfl
    | succ m => unfold pSm; rw [if_neg (by rw [tb_0 (by omega)]; omega)]
  | succ n ih =>
    intro m a i hn hm
    by_cases c : tb t i = 43 ∨ tb t i = 45
    · have hi := tb_len (t := t) (i := i) (by omega)
      cases m with
      | zero => omega
      | succ m =>
        unfold pSm
        rw [if_pos c, if_pos c]
        have := PG_T hf (i + 1) (by omega)
        revert this
        cases pT fac t (i + 1) with
        | error e => intro _; rfl
        | ok x => intro h; exact ih m _ _ (by have := h.1; omega) (by have := h.1; omega)
    · cases m with
      | zero => unfold pSm; rw [if_neg c]
      | succ m => unfold pSm; rw [if_neg c, if_neg c]
/-- one turn of a loop, at its full length -/
theorem pTm_eq {kb : Nat} {fac : Nat → PR Ex} {t : List Nat} (hf : PG kb fac t) {a : Ex} {i : Nat} : pTm fac t t.length a i = if tb t i = 42 then pb (fac (i + 1)) fun x => pTm fac t t.length (.branch 42 a x.1) x.2 else .ok (a, i) := by
  by_cases c : tb t i = 42
  · have hi := tb_len (t := t) (i := i) (by omega)
    rw [pTm_fuel hf _ (t.length + 1) _ _ (by omega) (by omega)]
    rfl
  · rw [if_neg c]
    cases t.length with
    | zero => rfl
    | succ m => unfold pTm; rw [if_neg c]
theorem pSm_eq {kb : Nat} {fac : Nat → PR Ex} {t : List Nat} (hf : PG kb fac t) {a : Ex} {i : Nat} : pSm fac t t.length a i = if tb t i = 43 ∨ tb t i = 45 then pb (pT fac t (i + 1)) fun x => pSm fac t t.length (.branch (tb t i) a x.1) x.2 else .ok (a, i) := by
  by_cases c : tb t i = 43 ∨ tb t i = 45
  · have hi := tb_len (t := t) (i := i) (by omega)
    rw [pSm_fuel hf _ (t.length + 1) _ _ (by omega) (by omega)]
    rfl
  · rw [if_neg c]
    cases t.length with
    | zero => rfl
    | succ m => unfold pSm; rw [if_neg c]
theorem gLo_eq {kb : Nat} {fac : Nat → PR Ex} {t : List Nat} (hf : PG kb fac t) (h0 : ∀ i, t.length ≤ i → fac i = .error i) : ∀ (n : Nat) (L : Option (Nat × Ex)) (P : Option Ex) (i : Nat), t.length ≤ n + i → i ≤ t.length → gLo fac t n L P i = pb (pb (fac i) fun x => pTm fac t t.length (gPr P x.1) x.2) fun x => pSm fac t t.length (gSu L x.1) x.2 := by
  intro n
  induction n with
  | zero =>
    intro L P i hn hi
    rw [h0 i (by omega)]
    rfl
  | succ n ih =>
    intro L P i hn hi
    unfold gLo
    have hp := hf i hi
    revert hp
    cases fac i with
    | error e => intro _; rfl
    | ok x =>
      intro hp
      have q1 := hp.1
      have q2 := hp.2.1
      rw [pb_ok, pb_ok, pTm_eq hf]
      by_cases c1 : tb t x.2 = 42
      · have hj := tb_len (t := t) (i := x.2) (by omega)
        rw [if_pos c1, if_pos c1, ih _ _ _ (by omega) (by omega)]
        rfl
      · rw [if_neg c1, if_neg c1, pb_ok, pSm_eq hf]
        by_cases c2 : tb t x.2 = 43 ∨ tb t x.2 = 45
        · have hj := tb_len (t := t) (i := x.2) (by omega)
          rw [if_pos c2, if_pos c2, ih _ _ _ (by omega) (by omega)]
          rfl
        · rw [if_neg c2, if_neg c2]
theorem gLo_pE {kb : Nat} {fac : Nat → PR Ex} {t : List Nat} (hf : PG kb fac t) (h0 : ∀ i, t.length ≤ i → fac i = .error i) {n i : Nat} (hn : t.length ≤ n + i) (hi : i ≤ t.length) : gLo fac t n none none i = pE fac t i := gLo_eq hf h0 n none none i hn hi
