/-! WALKS: those by a lesser bound are the first ones. -/
theorem wk_full {N : Nat} (hN : N ≤ 60) (h0 : 0 < N) {rs : Nat → Option (List Cls)} {m : Mk} (ho : ∀ p cs, p < 10 → rs p = some cs → rlOK cs) (hv : mOK m) : (wk N rs m).2.2.length = 10 * (wk N rs m).1.length := by
  have main : ∀ (n : Nat) (S : WS), wsOK N S → S.2.2.length ≤ 10 * S.1.length → 600 ≤ n + S.2.2.length → (srch N rs n S).2.2.length = 10 * (srch N rs n S).1.length := by
    intro n
    induction n with
    | zero =>
      intro S hS h1 h2
      have := hS.2.1
      show S.2.2.length = 10 * S.1.length
      omega
    | succ n ih =>
      intro S hS h1 h2
      unfold srch
      by_cases c : S.2.2.length < 10 * S.1.length
      · rw [if_pos c]
        obtain ⟨s1, s2, s3⟩ := stepS_ok ho hS (f := S.2.2.length / 10) (p := S.2.2.length % 10) (by omega) (by omega)
        exact ih _ s1 (by omega) (by omega)
      · rw [if_neg c]; omega
  exact main 600 ([m], [(0, 0)], []) ⟨Nat.one_pos, h0, rfl, fun x hx => by rw [List.mem_singleton] at hx; subst hx; exact hv, fun i h1 h2 => by simp at h2; omega, fun j hj => absurd hj List.not_mem_nil⟩ (Nat.zero_le _) (Nat.le_refl _)
def tr (N : Nat) (x : Option (Option Nat)) : Option (Option Nat) := match x with
  | some (some i) => if i < N then some (some i) else some none
  | some none => some none
  | none => none
def TR (N : Nat) (S S' : WS) : Prop := S.1 = S'.1.take N ∧ S.2.1 = S'.2.1.take N ∧ S.2.2 = S'.2.2.map (tr N)
theorem fidx_take {m : Mk} {N : Nat} : ∀ (l : List Mk) (o n : Nat), o + n = N → fidx m o (l.take n) = match fidx m o l with
    | some i => if i < N then some i else none
    | none => none := by
  intro l
  induction l with
  | nil => intro o n h; simp [fidx]
  | cons x l ih =>
    intro o n h
    cases n with
    | zero =>
      rw [List.take_zero]
      cases e : fidx m o (x :: l) with
      | none => rfl
      | some i =>
        have := (fidx_lt _ _ _ e).1
        show none = if i < N then some i else none
        rw [if_neg (by omega)]
    | succ n =>
      rw [List.take_succ_cons, fidx_cons, fidx_cons]
      by_cases c : mEq x m = true
      · rw [if_pos c, if_pos c]
        show some o = if o < N then some o else none
        rw [if_pos (by omega)]
      · rw [if_neg c, if_neg c]
        exact ih (o + 1) n (by omega)
theorem getD_take {α : Type} {l : List α} {N i : Nat} {y : α} (h : i < N) : (l.take N).getD i y = l.getD i y := by
  simp only [List.getD_eq_getElem?_getD]
  rw [List.getElem?_take_of_lt h]
theorem numS_TR {N : Nat} (hN : N ≤ 60) {S S' : WS} (h : TR N S S') (hS' : wsOK 60 S') {w : Nat × Nat} {m : Mk} : (numS N S w m).1.1 = (numS 60 S' w m).1.1.take N ∧ (numS N S w m).1.2.1 = (numS 60 S' w m).1.2.1.take N ∧ some (numS N S w m).2 = tr N (some (numS 60 S' w m).2) := by
  obtain ⟨h1, h2, h3⟩ := h
  have e := fidx_take (m := m) (N := N) S'.1 0 N (Nat.zero_add _)
  rw [← h1] at e
  have hl : S.1.length = min N S'.1.length := by rw [h1, List.length_take]
  have hb := hS'.2.2.1
  unfold numS
  cases e' : fidx m 0 S'.1 with
  | some i =>
    rw [e'] at e
    have hi := fidx_lt _ _ _ e'
    by_cases c : i < N
    · have e : fidx m 0 S.1 = some i := by rw [e]; exact if_pos c
      rw [e]
      refine ⟨h1, h2, ?_⟩
      show some (some i) = if i < N then some (some i) else some none
      rw [if_pos c]
    · have e : fidx m 0 S.1 = none := by rw [e]; exact if_neg c
      rw [e]
      dsimp only
      rw [if_neg (by omega)]
      refine ⟨h1, h2, ?_⟩
      show some none = if i < N then some (some i) else some none
      rw [if_neg c]
  | none =>
    rw [e'] at e
    have e : fidx m 0 S.1 = none := e
    rw [e]
    dsimp only
    by_cases c : S.1.length < N
    · rw [if_pos c, if_pos (by omega)]
      have el : S.1.length = S'.1.length := by omega
      refine ⟨?_, ?_, ?_⟩
      · show S.1 ++ [m] = (S'.1 ++ [m]).take N
        rw [List.take_of_length_le (by rw [List.length_append, List.length_cons, List.length_nil]; omega), h1, List.take_of_length_le (by omega)]
      · show S.2.1 ++ [w] = (S'.2.1 ++ [w]).take N
        rw [List.take_of_length_le (by rw [List.length_append, List.length_cons, List.length_nil]; omega), h2, List.take_of_length_le (by omega)]
      · show some (some S.1.length) = if S'.1.length < N then some (some S'.1.length) else some none
        rw [if_pos (by omega), el]
    · rw [if_neg c]
      by_cases c2 : S'.1.length < 60
      · rw [if_pos c2]
        refine ⟨?_, ?_, ?_⟩
        · show S.1 = (S'.1 ++ [m]).take N
          rw [List.take_append_of_le_length (by omega)]; exact h1
        · show S.2.1 = (S'.2.1 ++ [w]).take N
          rw [List.take_append_of_le_length (by omega)]; exact h2
        · show some none = if S'.1.length < N then some (some S'.1.length) else some none
          rw [if_neg (by omega)]
      · rw [if_neg c2]
        exact ⟨h1, h2, rfl⟩
theorem numS_ext {N : Nat} {S : WS} {w : Nat × Nat} {m : Mk} : (∃ l, (numS N S w m).1.1 = S.1 ++ l) ∧ ∃ l, (numS N S w m).1.2.1 = S.2.1 ++ l := by
  unfold numS
  cases fidx m 0 S.1 with
  | some i => exact ⟨⟨[], (List.append_nil _).symm⟩, ⟨[], (List.append_nil _).symm⟩⟩
  | none =>
    dsimp only
    by_cases c : S.1.length < N
    · rw [if_pos c]; exact ⟨⟨_, rfl⟩, ⟨_, rfl⟩⟩
    · rw [if_neg c]; exact ⟨⟨[], (List.append_nil _).symm⟩, ⟨[], (List.append_nil _).symm⟩⟩
theorem srch_ext {N : Nat} {rs : Nat → Option (List Cls)} : ∀ (n : Nat) (S : WS), (∃ l, (srch N rs n S).1 = S.1 ++ l) ∧ (∃ l, (srch N rs n S).2.1 = S.2.1 ++ l) ∧ ∃ l, (srch N rs n S).2.2 = S.2.2 ++ l := by
  intro n
  induction n with
  | zero => intro S; exact ⟨⟨[], (List.append_nil _).symm⟩, ⟨[], (List.append_nil _).symm⟩, ⟨[], (List.append_nil _).symm⟩⟩
  | succ n ih =>
    intro S
    unfold srch
    by_cases c : S.2.2.length < 10 * S.1.length
    · rw [if_pos c]
      obtain ⟨⟨l1, e1⟩, ⟨l2, e2⟩, l3, e3⟩ := ih (stepS N rs S (S.2.2.length / 10) (S.2.2.length % 10))
      have hx : (∃ l, (stepS N rs S (S.2.2.length / 10) (S.2.2.length % 10)).1 = S.1 ++ l) ∧ (∃ l, (stepS N rs S (S.2.2.length / 10) (S.2.2.length % 10)).2.1 = S.2.1 ++ l) ∧ ∃ l, (stepS N rs S (S.2.2.length / 10) (S.2.2.length % 10)).2.2 = S.2.2 ++ l := by
        unfold stepS
        cases pfire rs (S.2.2.length % 10) (S.1.getD (S.2.2.length / 10) mNil) with
        | none => exact ⟨⟨[], (List.append_nil _).symm⟩, ⟨[], (List.append_nil _).symm⟩, ⟨_, rfl⟩⟩
        | some m => exact ⟨numS_ext.1, numS_ext.2, ⟨_, rfl⟩⟩
      obtain ⟨⟨k1, g1⟩, ⟨k2, g2⟩, k3, g3⟩ := hx
      rw [e1, e2, e3, g1, g2, g3]
      exact ⟨⟨k1 ++ l1, by rw [List.append_assoc]⟩, ⟨k2 ++ l2, by rw [List.append_assoc]⟩, ⟨k3 ++ l3, by rw [List.append_assoc]⟩⟩
    · rw [if_neg c]; exact ⟨⟨[], (List.append_nil _).symm⟩, ⟨[], (List.append_nil _).symm⟩, ⟨[], (List.append_nil _).symm⟩⟩
theorem srch_TR {N : Nat} (hN : N ≤ 60) {rs : Nat → Option (List Cls)} (ho : ∀ p cs, p < 10 → rs p = some cs → rlOK cs) : ∀ (n : Nat) (S S' : WS), TR N S S' → wsOK 60 S' → (srch N rs n S).1 = (srch 60 rs n S').1.take N ∧ (srch N rs n S).2.1 = (srch 60 rs n S').2.1.take N ∧ ∃ l, (srch 60 rs n S').2.2.map (tr N) = (srch N rs n S).2.2 ++ l := by
  intro n
  induction n with
  | zero => intro S S' h _; exact ⟨h.1, h.2.1, [], by rw [List.append_nil]; exact h.2.2.symm⟩
  | succ n ih =>
    intro S S' h hS'
    have hl : S.1.length = min N S'.1.length := by rw [h.1, List.length_take]
    have hk : S.2.2.length = S'.2.2.length := by rw [h.2.2, List.length_map]
    have e1 : srch N rs (n + 1) S = if S.2.2.length < 10 * S.1.length then srch N rs n (stepS N rs S (S.2.2.length / 10) (S.2.2.length % 10)) else S := rfl
    have e2 : srch 60 rs (n + 1) S' = if S'.2.2.length < 10 * S'.1.length then srch 60 rs n (stepS 60 rs S' (S'.2.2.length / 10) (S'.2.2.length % 10)) else S' := rfl
    by_cases c : S.2.2.length < 10 * S.1.length
    · rw [e1, e2, if_pos c, if_pos (by omega), ← hk]
      refine ih _ _ ?_ (stepS_ok ho hS' (by omega) (by omega)).1
      have eg : S.1.getD (S.2.2.length / 10) mNil = S'.1.getD (S.2.2.length / 10) mNil := by rw [h.1, getD_take (by omega)]
      unfold stepS
      rw [eg]
      cases pfire rs (S.2.2.length % 10) (S'.1.getD (S.2.2.length / 10) mNil) with
      | none =>
        refine ⟨h.1, h.2.1, ?_⟩
        show S.2.2 ++ [none] = (S'.2.2 ++ [none]).map (tr N)
        rw [List.map_append, h.2.2]; rfl
      | some m =>
        obtain ⟨q1, q2, q3⟩ := numS_TR hN h hS' (w := (S.2.2.length / 10, S.2.2.length % 10)) (m := m)
        refine ⟨q1, q2, ?_⟩
        show S.2.2 ++ [some _] = (S'.2.2 ++ [some _]).map (tr N)
        rw [List.map_append, ← h.2.2, q3]; rfl
    · rw [e1, if_neg c]
      by_cases c2 : S'.1.length ≤ N
      · rw [e2, if_neg (by omega)]
        exact ⟨h.1, h.2.1, [], by rw [List.append_nil]; exact h.2.2.symm⟩
      · obtain ⟨⟨l1, g1⟩, ⟨l2, g2⟩, l3, g3⟩ := srch_ext (N := 60) (rs := rs) (n + 1) S'
        have hb := hS'.2.2.1
        refine ⟨?_, ?_, l3.map (tr N), ?_⟩
        · rw [g1, List.take_append_of_le_length (by omega)]; exact h.1
        · rw [g2, List.take_append_of_le_length (by omega)]; exact h.2.1
        · rw [g3, List.map_append, h.2.2]
/-- by n they are the first n, with the leads among them alone -/
theorem wk_TR {N : Nat} (hN : N ≤ 60) (h0 : 0 < N) {rs : Nat → Option (List Cls)} {m : Mk} (ho : ∀ p cs, p < 10 → rs p = some cs → rlOK cs) (hv : mOK m) : (wk N rs m).1 = (wk 60 rs m).1.take N ∧ (wk N rs m).2.1 = (wk 60 rs m).2.1.take N ∧ ∃ l, (wk 60 rs m).2.2.map (tr N) = (wk N rs m).2.2 ++ l := by
  refine srch_TR hN ho 600 _ _ ⟨?_, ?_, rfl⟩ ⟨Nat.one_pos, (by show 1 ≤ 60; omega), rfl, fun x hx => by rw [List.mem_singleton] at hx; subst hx; exact hv, fun i h1 h2 => by simp at h2; omega, fun j hj => absurd hj List.not_mem_nil⟩
  · show [m] = [m].take N
    rw [List.take_of_length_le (by simp; omega)]
  · show [(0, 0)] = [(0, 0)].take N
    rw [List.take_of_length_le (by simp; omega)]
