/-! BINDINGS: in order, as lists of indices. -/
/-- the token that the take h has -/
def tkV (cs : List Cls) (m : Nat → List Nat) (ch : Nat → Nat) (h : Nat) : Nat := (m (tkP cs h)).getD (ch h) 0
/-- what a name tells: the token of the first take that has it -/
def nmF (cs : List Cls) (m : Nat → List Nat) (ch : Nat → Nat) (w : Nat) : Int32 := match (List.range (nTk cs)).find? (fun h => decide (tkN cs h = w)) with
  | some h => nI (tkV cs m ch h)
  | none => 0
def bnL (cs : List Cls) (m : Nat → List Nat) : Nat → List Nat → List (List Nat)
  | 0, ch => if cndB (nmF cs m (fun h => ch.getD h 0)) cs then [ch] else []
  | r + 1, ch => (List.range (m (tkP cs ch.length)).length).flatMap fun i => if frB cs m (fun h => ch.getD h 0) ch.length i then bnL cs m r (ch ++ [i]) else []
/-- all bindings of a rule in a marking, in order -/
def bnds (cs : List Cls) (m : Nat → List Nat) : List (List Nat) := bnL cs m (nTk cs) []
theorem exEv_cong {kb : Nat} {nm nm' : Nat → Int32} (h : ∀ w, kb.testBit w = true → nm w = nm' w) : ∀ {e : Ex}, exOK kb e → exEv nm e = exEv nm' e := by
  intro e
  induction e with
  | leaf n =>
    intro ho
    unfold exEv
    by_cases c : n < 100
    · rw [if_pos c, if_pos c]
    · rw [if_neg c, if_neg c]
      rcases ho with ho | ⟨h1, h2, h3⟩
      · exact absurd ho c
      · exact h _ h3
  | branch s a b iha ihb =>
    intro ho
    unfold exEv
    rw [iha ho.2.2.1, ihb ho.2.2.2]
theorem knB_tk : ∀ (cs : List Cls) (w : Nat), (knB cs).testBit w = true → ∃ c ∈ cs, c.1 = 0 ∧ c.2.2.1 = w := by
  intro cs
  induction cs with
  | nil => intro w h; simp [knB] at h
  | cons c cs ih =>
    intro w h
    unfold knB at h
    rw [Nat.testBit_or, Bool.or_eq_true] at h
    rcases h with h | h
    · by_cases e : c.1 = 0
      · rw [if_pos e, Nat.testBit_two_pow] at h
        exact ⟨c, List.mem_cons_self .., e, by simpa using h⟩
      · rw [if_neg e] at h; simp at h
    · obtain ⟨c', h1, h2, h3⟩ := ih w h
      exact ⟨c', List.mem_cons_of_mem _ h1, h2, h3⟩
/-- a name that is known has a take -/
theorem kn_tk {cs : List Cls} {w : Nat} (h : (knB cs).testBit w = true) : ∃ j, j < nTk cs ∧ tkN cs j = w := by
  obtain ⟨c, h1, h2, h3⟩ := knB_tk cs w h
  have hm : c ∈ rOf 0 cs := List.mem_filter.mpr ⟨h1, by simpa using h2⟩
  obtain ⟨j, hj, e⟩ := List.getElem_of_mem hm
  refine ⟨j, by unfold nTk; rw [rOf_len]; exact hj, ?_⟩
  unfold tkN
  rw [List.getD_eq_getElem?_getD, List.getElem?_eq_getElem hj, Option.getD_some, e]
  exact h3
theorem nmF_eq {cs : List Cls} {m : Nat → List Nat} {ch : Nat → Nat} (hfr : ∀ k, k < nTk cs → frB cs m ch k (ch k) = true) {j : Nat} (hj : j < nTk cs) : nmF cs m ch (tkN cs j) = nI (tkV cs m ch j) := by
  have hco : ∀ h k, h < k → k < nTk cs → tkN cs h = tkN cs k → tkV cs m ch h = tkV cs m ch k := by
    intro h k hk hkn e
    have := hfr k hkn
    unfold frB at this
    rw [List.all_eq_true] at this
    exact (of_decide_eq_true (this h (List.mem_range.mpr hk))).2 e
  unfold nmF
  cases hf : (List.range (nTk cs)).find? (fun h => decide (tkN cs h = tkN cs j)) with
  | none =>
    have := List.find?_eq_none.mp hf j (List.mem_range.mpr hj)
    simp at this
  | some h =>
    have h1 := List.find?_some hf
    have h2 := List.mem_range.mp (List.mem_of_find?_eq_some hf)
    have h1 : tkN cs h = tkN cs j := by simpa using h1
    dsimp only
    rcases Nat.lt_trichotomy h j with hh | hh | hh
    · rw [hco h j hh hj h1]
    · rw [hh]
    · rw [hco j h hh h2 h1.symm]
