/-! THE REFERENCE: where in a text the parts of an expression stand. -/
def lvS (s : Nat) : Nat := if s = 42 then 1 else 2
def lvE : Ex → Nat
  | .leaf _ => 0
  | .branch s _ _ => lvS s
/-- so many brackets stand round it -/
def wr (t : List Nat) (w i j : Nat) : Prop := i + 2 * w < j ∧ ∀ x, x < w → tb t (i + x) = 40 ∧ tb t (j - 1 - x) = 41
/-- it stands there with no bracket round it -/
def co (t : List Nat) : Ex → Nat → Nat → Prop
  | .leaf n, i, j => (j = i + 1 ∧ isFg (tb t i) = true ∧ n = tb t i - 48) ∨ (j = i + 2 ∧ isFg (tb t i) = true ∧ isFg (tb t (i + 1)) = true ∧ n = (tb t i - 48) * 10 + (tb t (i + 1) - 48)) ∨ (j = i + 1 ∧ 120 ≤ tb t i ∧ tb t i ≤ 122 ∧ n = 100 + (tb t i - 120))
  | .branch s a b, i, j => ∃ k, tb t k = s ∧ (s = 42 ∨ s = 43 ∨ s = 45) ∧ (∃ w, wr t w i k ∧ co t a (i + w) (k - w) ∧ (w = 0 → lvE a ≤ lvS s)) ∧ ∃ w, wr t w (k + 1) j ∧ co t b (k + 1 + w) (j - w) ∧ (w = 0 → lvE b < lvS s)
def cut (t : List Nat) (s : Nat) (a b : Ex) (i j k : Nat) : Prop := tb t k = s ∧ (s = 42 ∨ s = 43 ∨ s = 45) ∧ (∃ w, wr t w i k ∧ co t a (i + w) (k - w) ∧ (w = 0 → lvE a ≤ lvS s)) ∧ ∃ w, wr t w (k + 1) j ∧ co t b (k + 1 + w) (j - w) ∧ (w = 0 → lvE b < lvS s)
theorem co_br {t : List Nat} {s : Nat} {a b : Ex} {i j : Nat} : co t (.branch s a b) i j = ∃ k, cut t s a b i j k := rfl
/-- it stands there, no looser than so if no bracket stands round it -/
def sg (t : List Nat) (e : Ex) (L i j : Nat) : Prop := ∃ w, wr t w i j ∧ co t e (i + w) (j - w) ∧ (w = 0 → lvE e ≤ L)
theorem sg.le {t : List Nat} {e : Ex} {L L' i j : Nat} (h : sg t e L i j) (hL : L ≤ L') : sg t e L' i j := by
  obtain ⟨w, h1, h2, h3⟩ := h
  exact ⟨w, h1, h2, fun e => Nat.le_trans (h3 e) hL⟩
theorem sg.lt {t : List Nat} {e : Ex} {L i j : Nat} (h : sg t e L i j) : i < j := by
  obtain ⟨w, h1, h2, h3⟩ := h
  have := h1.1
  omega
theorem wr0 {t : List Nat} {i j : Nat} (h : i < j) : wr t 0 i j := ⟨by omega, fun x hx => absurd hx (Nat.not_lt_zero _)⟩
theorem sg_br {t : List Nat} {s : Nat} {a b : Ex} {i k j : Nat} (hs : s = 42 ∨ s = 43 ∨ s = 45) (hk : tb t k = s) (ha : sg t a (lvS s) i k) (hb : sg t b (lvS s - 1) (k + 1) j) : sg t (.branch s a b) (lvS s) i j := by
  have h1 := ha.lt
  have h2 := hb.lt
  obtain ⟨wa, a1, a2, a3⟩ := ha
  obtain ⟨wb, b1, b2, b3⟩ := hb
  refine ⟨0, wr0 (by omega), ⟨k, hk, hs, ⟨wa, a1, a2, a3⟩, wb, b1, b2, fun e => ?_⟩, fun _ => Nat.le_refl _⟩
  have := b3 e
  have : 0 < lvS s := by unfold lvS; split <;> decide
  omega
/-- what a reader reads stands there so -/
def rdG (t : List Nat) (L : Nat) (f : Nat → PR Ex) : Prop := ∀ i x, f i = .ok x → sg t x.1 L i x.2
theorem pTm_sg {t : List Nat} {fac : Nat → PR Ex} (h : rdG t 0 fac) : ∀ (n : Nat) (a : Ex) (i k : Nat) (x : Ex × Nat), sg t a 1 i k → pTm fac t n a k = .ok x → sg t x.1 1 i x.2 := by
  intro n
  induction n with
  | zero => intro a i k x hs e; cases e; exact hs
  | succ n ih =>
    intro a i k x hs e
    have e1 : pTm fac t (n + 1) a k = if tb t k = 42 then pb (fac (k + 1)) fun x => pTm fac t n (.branch 42 a x.1) x.2 else .ok (a, k) := rfl
    rw [e1] at e
    by_cases c : tb t k = 42
    · rw [if_pos c] at e
      obtain ⟨y, h1, h2⟩ := pb_inv e
      exact ih _ i _ x (sg_br (Or.inl rfl) c hs (h _ _ h1)) h2
    · rw [if_neg c] at e; cases e; exact hs
theorem pT_sg {t : List Nat} {fac : Nat → PR Ex} (h : rdG t 0 fac) : rdG t 1 (pT fac t) := fun i x e => by
  unfold pT at e
  obtain ⟨y, h1, h2⟩ := pb_inv e
  exact pTm_sg h _ _ i _ x ((h _ _ h1).le (by decide)) h2
theorem pSm_sg {t : List Nat} {fac : Nat → PR Ex} (h : rdG t 0 fac) : ∀ (n : Nat) (a : Ex) (i k : Nat) (x : Ex × Nat), sg t a 2 i k → pSm fac t n a k = .ok x → sg t x.1 2 i x.2 := by
  intro n
  induction n with
  | zero => intro a i k x hs e; cases e; exact hs
  | succ n ih =>
    intro a i k x hs e
    have e1 : pSm fac t (n + 1) a k = if tb t k = 43 ∨ tb t k = 45 then pb (pT fac t (k + 1)) fun x => pSm fac t n (.branch (tb t k) a x.1) x.2 else .ok (a, k) := rfl
    rw [e1] at e
    by_cases c : tb t k = 43 ∨ tb t k = 45
    · rw [if_pos c] at e
      obtain ⟨y, h1, h2⟩ := pb_inv e
      have el : lvS (tb t k) = 2 := by unfold lvS; rw [if_neg (by omega)]
      have := sg_br (t := t) (s := tb t k) (a := a) (b := y.1) (i := i) (k := k) (j := y.2) (Or.inr c) rfl (by rw [el]; exact hs) (by rw [el]; exact pT_sg h _ _ h1)
      rw [el] at this
      exact ih _ i _ x this h2
    · rw [if_neg c] at e; cases e; exact hs
theorem pE_sg {t : List Nat} {fac : Nat → PR Ex} (h : rdG t 0 fac) : rdG t 2 (pE fac t) := fun i x e => by
  unfold pE at e
  obtain ⟨y, h1, h2⟩ := pb_inv e
  exact pSm_sg h _ _ i _ x ((pT_sg h _ _ h1).le (by decide)) h2
theorem sg_bra {t : List Nat} {e : Ex} {i j : Nat} (h : sg t e 2 (i + 1) j) (h1 : tb t i = 40) (h2 : tb t j = 41) : sg t e 0 i (j + 1) := by
  obtain ⟨w, ⟨a1, a2⟩, b, c⟩ := h
  refine ⟨w + 1, ⟨by omega, fun x hx => ?_⟩, ?_, fun e => by omega⟩
  · cases x with
    | zero => exact ⟨h1, h2⟩
    | succ x =>
      obtain ⟨q1, q2⟩ := a2 x (by omega)
      rw [show i + (x + 1) = i + 1 + x by omega, show j + 1 - 1 - (x + 1) = j - 1 - x by omega]
      exact ⟨q1, q2⟩
  · rw [show i + (w + 1) = i + 1 + w by omega, show j + 1 - (w + 1) = j - w by omega]
    exact b
theorem pF_sg {kb : Nat} {t : List Nat} : ∀ b, rdG t 0 (pF kb t b) := by
  have dig : ∀ i, isFg (tb t i) = true → ∀ x, (if isFg (tb t (i + 1)) then (.ok (.leaf ((tb t i - 48) * 10 + (tb t (i + 1) - 48)), i + 2) : PR Ex) else .ok (.leaf (tb t i - 48), i + 1)) = .ok x → sg t x.1 0 i x.2 := by
    intro i c x e
    by_cases c2 : isFg (tb t (i + 1)) = true
    · rw [if_pos c2] at e
      cases e
      exact ⟨0, wr0 (by omega), Or.inr (Or.inl ⟨rfl, c, c2, rfl⟩), fun _ => Nat.le_refl _⟩
    · rw [if_neg c2] at e
      cases e
      exact ⟨0, wr0 (by omega), Or.inl ⟨rfl, c, rfl⟩, fun _ => Nat.le_refl _⟩
  intro b
  induction b with
  | zero =>
    intro i x e
    have e1 : pF kb t 0 i = if isFg (tb t i) then (if isFg (tb t (i + 1)) then .ok (.leaf ((tb t i - 48) * 10 + (tb t (i + 1) - 48)), i + 2) else .ok (.leaf (tb t i - 48), i + 1)) else if 120 ≤ tb t i ∧ tb t i ≤ 122 ∧ kb.testBit (tb t i - 120) then .ok (.leaf (100 + (tb t i - 120)), i + 1) else if tb t i = 40 then .error i else .error i := by unfold pF; rfl
    rw [e1] at e
    by_cases c1 : isFg (tb t i) = true
    · rw [if_pos c1] at e; exact dig i c1 x e
    rw [if_neg c1] at e
    by_cases c2 : 120 ≤ tb t i ∧ tb t i ≤ 122 ∧ kb.testBit (tb t i - 120)
    · rw [if_pos c2] at e
      cases e
      exact ⟨0, wr0 (by omega), Or.inr (Or.inr ⟨rfl, c2.1, c2.2.1, rfl⟩), fun _ => Nat.le_refl _⟩
    rw [if_neg c2] at e
    split at e <;> cases e
  | succ b ih =>
    intro i x e
    have e1 : pF kb t (b + 1) i = if isFg (tb t i) then (if isFg (tb t (i + 1)) then .ok (.leaf ((tb t i - 48) * 10 + (tb t (i + 1) - 48)), i + 2) else .ok (.leaf (tb t i - 48), i + 1)) else if 120 ≤ tb t i ∧ tb t i ≤ 122 ∧ kb.testBit (tb t i - 120) then .ok (.leaf (100 + (tb t i - 120)), i + 1) else if tb t i = 40 then (pb (pE (pF kb t b) t (i + 1)) fun x => if tb t x.2 = 41 then .ok (x.1, x.2 + 1) else .error x.2) else .error i := by rw [pF]
    rw [e1] at e
    by_cases c1 : isFg (tb t i) = true
    · rw [if_pos c1] at e; exact dig i c1 x e
    rw [if_neg c1] at e
    by_cases c2 : 120 ≤ tb t i ∧ tb t i ≤ 122 ∧ kb.testBit (tb t i - 120)
    · rw [if_pos c2] at e
      cases e
      exact ⟨0, wr0 (by omega), Or.inr (Or.inr ⟨rfl, c2.1, c2.2.1, rfl⟩), fun _ => Nat.le_refl _⟩
    rw [if_neg c2] at e
    by_cases c3 : tb t i = 40
    · rw [if_pos c3] at e
      obtain ⟨y, h1, h2⟩ := pb_inv e
      by_cases c4 : tb t y.2 = 41
      · rw [if_pos c4] at h2
        cases h2
        exact sg_bra (pE_sg ih _ _ h1) c3 c4
      · rw [if_neg c4] at h2; cases h2
    · rw [if_neg c3] at e; cases e
/-- an expression that is read -/
theorem pX_sg {kb : Nat} {t : List Nat} : rdG t 2 (pX kb t) := pE_sg (pF_sg 5)
theorem isFg_b {c : Nat} (h : isFg c = true) : 48 ≤ c ∧ c ≤ 57 := isFg_iff.mp h
/-- none of its bytes ends an expression -/
def inB (c : Nat) : Prop := c ≠ 0 ∧ c ≠ 59 ∧ c ≠ 38 ∧ c ≠ 60 ∧ c ≠ 61 ∧ c ≠ 62
theorem co_in {t : List Nat} : ∀ (e : Ex) (i j : Nat), co t e i j → i < j ∧ ∀ k, i ≤ k → k < j → inB (tb t k) := by
  have fg : ∀ c, isFg c = true → inB c := fun c h => by have := isFg_b h; unfold inB; omega
  intro e
  induction e with
  | leaf n =>
    intro i j h
    rcases h with ⟨e1, e2, _⟩ | ⟨e1, e2, e3, _⟩ | ⟨e1, e2, e3, _⟩
    · refine ⟨by omega, fun k k1 k2 => ?_⟩
      obtain rfl : k = i := by omega
      exact fg _ e2
    · refine ⟨by omega, fun k k1 k2 => ?_⟩
      by_cases c : k = i
      · rw [c]; exact fg _ e2
      · rw [show k = i + 1 by omega]; exact fg _ e3
    · refine ⟨by omega, fun k k1 k2 => ?_⟩
      obtain rfl : k = i := by omega
      unfold inB
      omega
  | branch s a b iha ihb =>
    intro i j h
    obtain ⟨c, h1, h2, ⟨wa, a1, a2, _⟩, wb, b1, b2, _⟩ := h
    have wrp : ∀ {w i j : Nat}, wr t w i j → (∀ k, i + w ≤ k → k < j - w → inB (tb t k)) → ∀ k, i ≤ k → k < j → inB (tb t k) := fun {w i j} hw hc k k1 k2 => by
      by_cases q1 : k < i + w
      · have := (hw.2 (k - i) (by omega)).1
        rw [show i + (k - i) = k by omega] at this
        unfold inB; omega
      · by_cases q2 : k < j - w
        · exact hc k (by omega) q2
        · have := (hw.2 (j - 1 - k) (by omega)).2
          rw [show j - 1 - (j - 1 - k) = k by omega] at this
          unfold inB; omega
    have g1 := wrp a1 (iha _ _ a2).2
    have g2 := wrp b1 (ihb _ _ b2).2
    have l1 := a1.1
    have l2 := b1.1
    refine ⟨by omega, fun k k1 k2 => ?_⟩
    rcases Nat.lt_trichotomy k c with q | q | q
    · exact g1 k k1 q
    · rw [q, h1]; unfold inB; omega
    · exact g2 k (by omega) k2
theorem sg_in {t : List Nat} {e : Ex} {L i j : Nat} (h : sg t e L i j) : ∀ k, i ≤ k → k < j → inB (tb t k) := by
  obtain ⟨w, hw, hc, _⟩ := h
  intro k k1 k2
  by_cases q1 : k < i + w
  · have := (hw.2 (k - i) (by omega)).1
    rw [show i + (k - i) = k by omega] at this
    unfold inB; omega
  · by_cases q2 : k < j - w
    · exact (co_in e _ _ hc).2 k (by omega) q2
    · have := (hw.2 (j - 1 - k) (by omega)).2
      rw [show j - 1 - (j - 1 - k) = k by omega] at this
      unfold inB; omega
