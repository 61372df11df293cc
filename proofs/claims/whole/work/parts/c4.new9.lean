/-! CONSTRUCTORS: the start, as lists (written by wip/whole/gennew.py). -/
def lkP : List (Nat × Nat × Nat) → Nat → Nat → Option Nat
  | [], _, _ => none
  | (a, k, x) :: l, b, j => if b = a then (if j = k then some x else lkP l b j) else lkP l b j
/-- cells so far (kind, length), slots, references that were set: all else is as at the start -/
def wSt (L : Nat) (xs : Nat → Int32) (ks : List (Nat × Nat)) (z : Nat) (pt : List (Nat × Nat × Nat)) : azS := ((ks.length, z, fun b => ks.getD b ((az0 L xs).1.2.2 b)), (fun b j => if b < ks.length then 0 else (az0 L xs).2.1 b j), (fun _ _ => 0), fun b j => lkP pt b j)
def wO (ks : List (Nat × Nat)) (pt : List (Nat × Nat × Nat)) (a c : Nat) : Prop := a < ks.length ∧ (ks.getD a (99, 0)).1 = c ∧ ∀ e ∈ pt, e.1 < ks.length
theorem lkP_none {pt : List (Nat × Nat × Nat)} {b : Nat} (h : ∀ e ∈ pt, e.1 < b) (j : Nat) : lkP pt b j = none := by
  induction pt with
  | nil => rfl
  | cons e pt ih =>
    obtain ⟨a, k, x⟩ := e
    have h1 : a < b := h (a, k, x) (List.mem_cons_self ..)
    show (if b = a then _ else _) = _
    rw [if_neg (by omega)]
    exact ih fun e he => h e (List.mem_cons_of_mem _ he)
theorem getD_any {α : Type} {l : List α} {i : Nat} {x y : α} (h : i < l.length) : l.getD i x = l.getD i y := by
  rw [List.getD_eq_getElem?_getD, List.getD_eq_getElem?_getD, List.getElem?_eq_getElem h]; rfl
section SN
variable {L : Nat} {xs : Nat → Int32} {ks : List (Nat × Nat)} {z a c : Nat} {pt : List (Nat × Nat × Nat)} {x : Int32} {R : azP} {d : Nat} {Q : azQ}
theorem wNew (h : ∀ e ∈ pt, e.1 < ks.length) {k n : Nat} : azNew (wSt L xs ks z pt) k n = wSt L xs (ks ++ [(k, n)]) (z + n) pt := by
  have hl : (ks ++ [(k, n)]).length = ks.length + 1 := by simp
  unfold azNew wSt
  refine Prod.ext (Prod.ext hl.symm (Prod.ext rfl ?_)) (Prod.ext ?_ (Prod.ext ?_ ?_))
  · funext b
    show (if b = ks.length then (k, n) else ks.getD b _) = (ks ++ [(k, n)]).getD b _
    by_cases e : b = ks.length
    · rw [if_pos e, e, getD_app_eq]
    · rw [if_neg e]
      by_cases e2 : b < ks.length
      · rw [getD_app_lt e2]
      · rw [List.getD_eq_getElem?_getD, List.getD_eq_getElem?_getD, List.getElem?_eq_none (by omega), List.getElem?_eq_none (by omega)]
  · funext b j
    show (if b = ks.length then 0 else if b < ks.length then 0 else _) = if b < (ks ++ [(k, n)]).length then 0 else _
    rw [hl]
    by_cases e : b = ks.length
    · rw [if_pos e, if_pos (by omega)]
    · rw [if_neg e]
      by_cases e2 : b < ks.length
      · rw [if_pos e2, if_pos (by omega)]
      · rw [if_neg e2, if_neg (by omega)]
  · funext b j
    show (if b = ks.length then (0 : Int64) else 0) = 0
    split <;> rfl
  · funext b j
    show (if b = ks.length then none else lkP pt b j) = lkP pt b j
    by_cases e : b = ks.length
    · rw [if_pos e, e, lkP_none h]
    · rw [if_neg e]
theorem wRef {s y : Nat} : azSR (wSt L xs ks z pt) a s (some y) = wSt L xs ks z ((a, s, y) :: pt) := by
  unfold azSR wSt
  refine Prod.ext rfl (Prod.ext rfl (Prod.ext rfl ?_))
  funext b j
  show azUp _ a s (some y) b j = if b = a then (if j = s then some y else lkP pt b j) else lkP pt b j
  unfold azUp
  rfl
theorem wO.new (h : wO ks pt a c) {e : Nat × Nat} : wO (ks ++ [e]) pt a c := ⟨by rw [List.length_append]; have := h.1; omega, by rw [getD_app_lt h.1]; exact h.2.1, fun q hq => by rw [List.length_append]; have := h.2.2 q hq; omega⟩
theorem wO.ptr (h : wO ks pt a c) {b s y : Nat} (hb : b < ks.length) : wO ks ((b, s, y) :: pt) a c := ⟨h.1, h.2.1, fun q hq => by
  rcases List.mem_cons.mp hq with e | e
  · subst e; exact hb
  · exact h.2.2 q e⟩
theorem wO.step (h : wO ks pt a c) {e : Nat × Nat} {s y : Nat} : wO (ks ++ [e]) ((a, s, y) :: pt) a c := h.new.ptr (by rw [List.length_append]; have := h.1; omega)
theorem wO.kd (h : wO ks pt a c) {z' : Nat} : ((wSt L xs ks z' pt).1.2.2 a).1 = c := by
  show (ks.getD a _).1 = c
  rw [getD_any (y := (99, 0)) h.1]
  exact h.2.1
theorem CX0_0 (hR : azClosed R) (h : R (d + 1) mX0_init 4 [.ref a] [] (wSt L xs ks z pt) Q) : R (d + 1) mX0_init 0 [.ref a] [] (wSt L xs ks z pt) Q := hR.go [4] 5 h
theorem CX0_4 (hR : azClosed R) (o : wO ks pt a 0) (h : R (d + 1) mX0_init 12 [.ref a] [] (wSt L xs (ks ++ [(11, 100)]) (z + 100) ((a, 0, ks.length) :: pt)) Q) : R (d + 1) mX0_init 4 [.ref a] [] (wSt L xs ks z pt) Q := by
  rw [← wRef, ← wNew o.2.2] at h
  refine hR.go [12] 7 ?_
  conv => whnf
  refine ⟨by decide, by decide, ?_⟩
  conv => whnf
  refine ⟨?_, h⟩
  show ((azNew (wSt L xs ks z pt) 11 100).1.2.2 a).1 = 0
  rw [wNew o.2.2]
  exact o.new.kd
theorem CX0_12 (hR : azClosed R) (o : wO ks pt a 0) (h : R (d + 1) mX0_init 20 [.ref a] [] (wSt L xs (ks ++ [(10, 10)]) (z + 10) ((a, 1, ks.length) :: pt)) Q) : R (d + 1) mX0_init 12 [.ref a] [] (wSt L xs ks z pt) Q := by
  rw [← wRef, ← wNew o.2.2] at h
  refine hR.go [20] 7 ?_
  conv => whnf
  refine ⟨by decide, by decide, ?_⟩
  conv => whnf
  refine ⟨?_, h⟩
  show ((azNew (wSt L xs ks z pt) 10 10).1.2.2 a).1 = 0
  rw [wNew o.2.2]
  exact o.new.kd
theorem CX0_20 (hR : azClosed R) (h : Q none (wSt L xs ks z pt)) : R (d + 1) mX0_init 20 [.ref a] [] (wSt L xs ks z pt) Q := hR.go [] 3 h
theorem CX1_0 (hR : azClosed R) (h : R (d + 1) mX1_init 4 [.ref a] [] (wSt L xs ks z pt) Q) : R (d + 1) mX1_init 0 [.ref a] [] (wSt L xs ks z pt) Q := hR.go [4] 5 h
theorem CX1_4 (hR : azClosed R) (o : wO ks pt a 1) (h : R (d + 1) mX1_init 11 [.ref a] [] (wSt L xs (ks ++ [(10, 3)]) (z + 3) ((a, 0, ks.length) :: pt)) Q) : R (d + 1) mX1_init 4 [.ref a] [] (wSt L xs ks z pt) Q := by
  rw [← wRef, ← wNew o.2.2] at h
  refine hR.go [11] 7 ?_
  conv => whnf
  refine ⟨by decide, by decide, ?_⟩
  conv => whnf
  refine ⟨?_, h⟩
  show ((azNew (wSt L xs ks z pt) 10 3).1.2.2 a).1 = 1
  rw [wNew o.2.2]
  exact o.new.kd
theorem CX1_11 (hR : azClosed R) (o : wO ks pt a 1) (h : R (d + 1) mX1_init 18 [.ref a] [] (wSt L xs (ks ++ [(10, 3)]) (z + 3) ((a, 1, ks.length) :: pt)) Q) : R (d + 1) mX1_init 11 [.ref a] [] (wSt L xs ks z pt) Q := by
  rw [← wRef, ← wNew o.2.2] at h
  refine hR.go [18] 7 ?_
  conv => whnf
  refine ⟨by decide, by decide, ?_⟩
  conv => whnf
  refine ⟨?_, h⟩
  show ((azNew (wSt L xs ks z pt) 10 3).1.2.2 a).1 = 1
  rw [wNew o.2.2]
  exact o.new.kd
theorem CX1_18 (hR : azClosed R) (o : wO ks pt a 1) (h : R (d + 1) mX1_init 26 [.ref a] [] (wSt L xs (ks ++ [(10, 80)]) (z + 80) ((a, 2, ks.length) :: pt)) Q) : R (d + 1) mX1_init 18 [.ref a] [] (wSt L xs ks z pt) Q := by
  rw [← wRef, ← wNew o.2.2] at h
  refine hR.go [26] 7 ?_
  conv => whnf
  refine ⟨by decide, by decide, ?_⟩
  conv => whnf
  refine ⟨?_, h⟩
  show ((azNew (wSt L xs ks z pt) 10 80).1.2.2 a).1 = 1
  rw [wNew o.2.2]
  exact o.new.kd
theorem CX1_26 (hR : azClosed R) (h : Q none (wSt L xs ks z pt)) : R (d + 1) mX1_init 26 [.ref a] [] (wSt L xs ks z pt) Q := hR.go [] 3 h
theorem CX2_0 (hR : azClosed R) (h : R (d + 1) mX2_init 4 [.ref a] [] (wSt L xs ks z pt) Q) : R (d + 1) mX2_init 0 [.ref a] [] (wSt L xs ks z pt) Q := hR.go [4] 5 h
theorem CX2_4 (hR : azClosed R) (o : wO ks pt a 2) (h : R d mX3_init 0 [.ref ks.length] [] (wSt L xs (ks ++ [(3, 2)]) (z + 2) pt) fun v s => v = none ∧ ((s.1.2.2 a).1 = 2 ∧ R (d + 1) mX2_init 15 [.ref a] [] (azSR s a 0 (some ks.length)) Q)) : R (d + 1) mX2_init 4 [.ref a] [] (wSt L xs ks z pt) Q := by
  rw [← wNew o.2.2] at h
  exact hR.go [15] 12 h
theorem CX2_15 (hR : azClosed R) (o : wO ks pt a 2) (h : R (d + 1) mX2_init 24 [.ref a] [] (wSt L xs (ks ++ [(14, 10)]) (z + 10) ((a, 1, ks.length) :: pt)) Q) : R (d + 1) mX2_init 15 [.ref a] [] (wSt L xs ks z pt) Q := by
  rw [← wRef, ← wNew o.2.2] at h
  refine hR.go [24] 7 ?_
  conv => whnf
  refine ⟨by decide, by decide, ?_⟩
  conv => whnf
  refine ⟨?_, h⟩
  show ((azNew (wSt L xs ks z pt) 14 10).1.2.2 a).1 = 2
  rw [wNew o.2.2]
  exact o.new.kd
theorem CX2_24 (hR : azClosed R) (h : Q none (wSt L xs ks z pt)) : R (d + 1) mX2_init 24 [.ref a] [] (wSt L xs ks z pt) Q := hR.go [] 3 h
theorem CX3_0 (hR : azClosed R) (h : R (d + 1) mX3_init 4 [.ref a] [] (wSt L xs ks z pt) Q) : R (d + 1) mX3_init 0 [.ref a] [] (wSt L xs ks z pt) Q := hR.go [4] 5 h
theorem CX3_4 (hR : azClosed R) (o : wO ks pt a 3) (h : R (d + 1) mX3_init 12 [.ref a] [] (wSt L xs (ks ++ [(10, 10)]) (z + 10) ((a, 0, ks.length) :: pt)) Q) : R (d + 1) mX3_init 4 [.ref a] [] (wSt L xs ks z pt) Q := by
  rw [← wRef, ← wNew o.2.2] at h
  refine hR.go [12] 7 ?_
  conv => whnf
  refine ⟨by decide, by decide, ?_⟩
  conv => whnf
  refine ⟨?_, h⟩
  show ((azNew (wSt L xs ks z pt) 10 10).1.2.2 a).1 = 3
  rw [wNew o.2.2]
  exact o.new.kd
theorem CX3_12 (hR : azClosed R) (o : wO ks pt a 3) (h : R (d + 1) mX3_init 20 [.ref a] [] (wSt L xs (ks ++ [(10, 60)]) (z + 60) ((a, 1, ks.length) :: pt)) Q) : R (d + 1) mX3_init 12 [.ref a] [] (wSt L xs ks z pt) Q := by
  rw [← wRef, ← wNew o.2.2] at h
  refine hR.go [20] 7 ?_
  conv => whnf
  refine ⟨by decide, by decide, ?_⟩
  conv => whnf
  refine ⟨?_, h⟩
  show ((azNew (wSt L xs ks z pt) 10 60).1.2.2 a).1 = 3
  rw [wNew o.2.2]
  exact o.new.kd
theorem CX3_20 (hR : azClosed R) (h : Q none (wSt L xs ks z pt)) : R (d + 1) mX3_init 20 [.ref a] [] (wSt L xs ks z pt) Q := hR.go [] 3 h
theorem CX4_0 (hR : azClosed R) (h : R (d + 1) mX4_init 4 [.ref a] [] (wSt L xs ks z pt) Q) : R (d + 1) mX4_init 0 [.ref a] [] (wSt L xs ks z pt) Q := hR.go [4] 5 h
theorem CX4_4 (hR : azClosed R) (o : wO ks pt a 4) (h : R (d + 1) mX4_init 13 [.ref a] [] (wSt L xs (ks ++ [(10, 256)]) (z + 256) ((a, 0, ks.length) :: pt)) Q) : R (d + 1) mX4_init 4 [.ref a] [] (wSt L xs ks z pt) Q := by
  rw [← wRef, ← wNew o.2.2] at h
  refine hR.go [13] 7 ?_
  conv => whnf
  refine ⟨by decide, by decide, ?_⟩
  conv => whnf
  refine ⟨?_, h⟩
  show ((azNew (wSt L xs ks z pt) 10 256).1.2.2 a).1 = 4
  rw [wNew o.2.2]
  exact o.new.kd
theorem CX4_13 (hR : azClosed R) (o : wO ks pt a 4) (h : R (d + 1) mX4_init 21 [.ref a] [] (wSt L xs (ks ++ [(10, 80)]) (z + 80) ((a, 1, ks.length) :: pt)) Q) : R (d + 1) mX4_init 13 [.ref a] [] (wSt L xs ks z pt) Q := by
  rw [← wRef, ← wNew o.2.2] at h
  refine hR.go [21] 7 ?_
  conv => whnf
  refine ⟨by decide, by decide, ?_⟩
  conv => whnf
  refine ⟨?_, h⟩
  show ((azNew (wSt L xs ks z pt) 10 80).1.2.2 a).1 = 4
  rw [wNew o.2.2]
  exact o.new.kd
theorem CX4_21 (hR : azClosed R) (o : wO ks pt a 4) (h : R (d + 1) mX4_init 29 [.ref a] [] (wSt L xs (ks ++ [(10, 80)]) (z + 80) ((a, 2, ks.length) :: pt)) Q) : R (d + 1) mX4_init 21 [.ref a] [] (wSt L xs ks z pt) Q := by
  rw [← wRef, ← wNew o.2.2] at h
  refine hR.go [29] 7 ?_
  conv => whnf
  refine ⟨by decide, by decide, ?_⟩
  conv => whnf
  refine ⟨?_, h⟩
  show ((azNew (wSt L xs ks z pt) 10 80).1.2.2 a).1 = 4
  rw [wNew o.2.2]
  exact o.new.kd
theorem CX4_29 (hR : azClosed R) (h : Q none (wSt L xs ks z pt)) : R (d + 1) mX4_init 29 [.ref a] [] (wSt L xs ks z pt) Q := hR.go [] 3 h
theorem CX5_0 (hR : azClosed R) (h : R (d + 1) mX5_init 4 [.ref a] [] (wSt L xs ks z pt) Q) : R (d + 1) mX5_init 0 [.ref a] [] (wSt L xs ks z pt) Q := hR.go [4] 5 h
theorem CX5_4 (hR : azClosed R) (o : wO ks pt a 5) (h : R (d + 1) mX5_init 12 [.ref a] [] (wSt L xs (ks ++ [(10, 12)]) (z + 12) ((a, 6, ks.length) :: pt)) Q) : R (d + 1) mX5_init 4 [.ref a] [] (wSt L xs ks z pt) Q := by
  rw [← wRef, ← wNew o.2.2] at h
  refine hR.go [12] 7 ?_
  conv => whnf
  refine ⟨by decide, by decide, ?_⟩
  conv => whnf
  refine ⟨?_, h⟩
  show ((azNew (wSt L xs ks z pt) 10 12).1.2.2 a).1 = 5
  rw [wNew o.2.2]
  exact o.new.kd
theorem CX5_12 (hR : azClosed R) (o : wO ks pt a 5) (h : R (d + 1) mX5_init 20 [.ref a] [] (wSt L xs (ks ++ [(10, 12)]) (z + 12) ((a, 7, ks.length) :: pt)) Q) : R (d + 1) mX5_init 12 [.ref a] [] (wSt L xs ks z pt) Q := by
  rw [← wRef, ← wNew o.2.2] at h
  refine hR.go [20] 7 ?_
  conv => whnf
  refine ⟨by decide, by decide, ?_⟩
  conv => whnf
  refine ⟨?_, h⟩
  show ((azNew (wSt L xs ks z pt) 10 12).1.2.2 a).1 = 5
  rw [wNew o.2.2]
  exact o.new.kd
theorem CX5_20 (hR : azClosed R) (o : wO ks pt a 5) (h : R (d + 1) mX5_init 28 [.ref a] [] (wSt L xs (ks ++ [(10, 12)]) (z + 12) ((a, 8, ks.length) :: pt)) Q) : R (d + 1) mX5_init 20 [.ref a] [] (wSt L xs ks z pt) Q := by
  rw [← wRef, ← wNew o.2.2] at h
  refine hR.go [28] 7 ?_
  conv => whnf
  refine ⟨by decide, by decide, ?_⟩
  conv => whnf
  refine ⟨?_, h⟩
  show ((azNew (wSt L xs ks z pt) 10 12).1.2.2 a).1 = 5
  rw [wNew o.2.2]
  exact o.new.kd
theorem CX5_28 (hR : azClosed R) (o : wO ks pt a 5) (h : R (d + 1) mX5_init 36 [.ref a] [] (wSt L xs (ks ++ [(10, 12)]) (z + 12) ((a, 9, ks.length) :: pt)) Q) : R (d + 1) mX5_init 28 [.ref a] [] (wSt L xs ks z pt) Q := by
  rw [← wRef, ← wNew o.2.2] at h
  refine hR.go [36] 7 ?_
  conv => whnf
  refine ⟨by decide, by decide, ?_⟩
  conv => whnf
  refine ⟨?_, h⟩
  show ((azNew (wSt L xs ks z pt) 10 12).1.2.2 a).1 = 5
  rw [wNew o.2.2]
  exact o.new.kd
theorem CX5_36 (hR : azClosed R) (o : wO ks pt a 5) (h : R (d + 1) mX5_init 44 [.ref a] [] (wSt L xs (ks ++ [(10, 12)]) (z + 12) ((a, 10, ks.length) :: pt)) Q) : R (d + 1) mX5_init 36 [.ref a] [] (wSt L xs ks z pt) Q := by
  rw [← wRef, ← wNew o.2.2] at h
  refine hR.go [44] 7 ?_
  conv => whnf
  refine ⟨by decide, by decide, ?_⟩
  conv => whnf
  refine ⟨?_, h⟩
  show ((azNew (wSt L xs ks z pt) 10 12).1.2.2 a).1 = 5
  rw [wNew o.2.2]
  exact o.new.kd
theorem CX5_44 (hR : azClosed R) (o : wO ks pt a 5) (h : R (d + 1) mX5_init 51 [.ref a] [] (wSt L xs (ks ++ [(10, 3)]) (z + 3) ((a, 11, ks.length) :: pt)) Q) : R (d + 1) mX5_init 44 [.ref a] [] (wSt L xs ks z pt) Q := by
  rw [← wRef, ← wNew o.2.2] at h
  refine hR.go [51] 7 ?_
  conv => whnf
  refine ⟨by decide, by decide, ?_⟩
  conv => whnf
  refine ⟨?_, h⟩
  show ((azNew (wSt L xs ks z pt) 10 3).1.2.2 a).1 = 5
  rw [wNew o.2.2]
  exact o.new.kd
theorem CX5_51 (hR : azClosed R) (o : wO ks pt a 5) (h : R (d + 1) mX5_init 58 [.ref a] [] (wSt L xs (ks ++ [(10, 3)]) (z + 3) ((a, 12, ks.length) :: pt)) Q) : R (d + 1) mX5_init 51 [.ref a] [] (wSt L xs ks z pt) Q := by
  rw [← wRef, ← wNew o.2.2] at h
  refine hR.go [58] 7 ?_
  conv => whnf
  refine ⟨by decide, by decide, ?_⟩
  conv => whnf
  refine ⟨?_, h⟩
  show ((azNew (wSt L xs ks z pt) 10 3).1.2.2 a).1 = 5
  rw [wNew o.2.2]
  exact o.new.kd
theorem CX5_58 (hR : azClosed R) (o : wO ks pt a 5) (h : R (d + 1) mX5_init 66 [.ref a] [] (wSt L xs (ks ++ [(10, 80)]) (z + 80) ((a, 13, ks.length) :: pt)) Q) : R (d + 1) mX5_init 58 [.ref a] [] (wSt L xs ks z pt) Q := by
  rw [← wRef, ← wNew o.2.2] at h
  refine hR.go [66] 7 ?_
  conv => whnf
  refine ⟨by decide, by decide, ?_⟩
  conv => whnf
  refine ⟨?_, h⟩
  show ((azNew (wSt L xs ks z pt) 10 80).1.2.2 a).1 = 5
  rw [wNew o.2.2]
  exact o.new.kd
theorem CX5_66 (hR : azClosed R) (h : Q none (wSt L xs ks z pt)) : R (d + 1) mX5_init 66 [.ref a] [] (wSt L xs ks z pt) Q := hR.go [] 3 h
theorem CX6_0 (hR : azClosed R) (h : R (d + 1) mX6_init 4 [.ref a] [] (wSt L xs ks z pt) Q) : R (d + 1) mX6_init 0 [.ref a] [] (wSt L xs ks z pt) Q := hR.go [4] 5 h
theorem CX6_4 (hR : azClosed R) (o : wO ks pt a 6) (h : R (d + 1) mX6_init 12 [.ref a] [] (wSt L xs (ks ++ [(10, 80)]) (z + 80) ((a, 0, ks.length) :: pt)) Q) : R (d + 1) mX6_init 4 [.ref a] [] (wSt L xs ks z pt) Q := by
  rw [← wRef, ← wNew o.2.2] at h
  refine hR.go [12] 7 ?_
  conv => whnf
  refine ⟨by decide, by decide, ?_⟩
  conv => whnf
  refine ⟨?_, h⟩
  show ((azNew (wSt L xs ks z pt) 10 80).1.2.2 a).1 = 6
  rw [wNew o.2.2]
  exact o.new.kd
theorem CX6_12 (hR : azClosed R) (o : wO ks pt a 6) (h : R d mX5_init 0 [.ref ks.length] [] (wSt L xs (ks ++ [(5, 14)]) (z + 14) pt) fun v s => v = none ∧ ((s.1.2.2 a).1 = 6 ∧ R (d + 1) mX6_init 23 [.ref a] [] (azSR s a 5 (some ks.length)) Q)) : R (d + 1) mX6_init 12 [.ref a] [] (wSt L xs ks z pt) Q := by
  rw [← wNew o.2.2] at h
  exact hR.go [23] 12 h
theorem CX6_23 (hR : azClosed R) (h : Q none (wSt L xs ks z pt)) : R (d + 1) mX6_init 23 [.ref a] [] (wSt L xs ks z pt) Q := hR.go [] 3 h
theorem CX9_0 (hR : azClosed R) (h : R (d + 1) mX9_init 4 [.ref a] [] (wSt L xs ks z pt) Q) : R (d + 1) mX9_init 0 [.ref a] [] (wSt L xs ks z pt) Q := hR.go [4] 5 h
theorem CX9_4 (hR : azClosed R) (o : wO ks pt a 9) (h : R (d + 1) mX9_init 12 [.ref a] [] (wSt L xs (ks ++ [(10, 70)]) (z + 70) ((a, 0, ks.length) :: pt)) Q) : R (d + 1) mX9_init 4 [.ref a] [] (wSt L xs ks z pt) Q := by
  rw [← wRef, ← wNew o.2.2] at h
  refine hR.go [12] 7 ?_
  conv => whnf
  refine ⟨by decide, by decide, ?_⟩
  conv => whnf
  refine ⟨?_, h⟩
  show ((azNew (wSt L xs ks z pt) 10 70).1.2.2 a).1 = 9
  rw [wNew o.2.2]
  exact o.new.kd
theorem CX9_12 (hR : azClosed R) (o : wO ks pt a 9) (h : R (d + 1) mX9_init 20 [.ref a] [] (wSt L xs (ks ++ [(10, 70)]) (z + 70) ((a, 1, ks.length) :: pt)) Q) : R (d + 1) mX9_init 12 [.ref a] [] (wSt L xs ks z pt) Q := by
  rw [← wRef, ← wNew o.2.2] at h
  refine hR.go [20] 7 ?_
  conv => whnf
  refine ⟨by decide, by decide, ?_⟩
  conv => whnf
  refine ⟨?_, h⟩
  show ((azNew (wSt L xs ks z pt) 10 70).1.2.2 a).1 = 9
  rw [wNew o.2.2]
  exact o.new.kd
theorem CX9_20 (hR : azClosed R) (o : wO ks pt a 9) (h : R (d + 1) mX9_init 29 [.ref a] [] (wSt L xs (ks ++ [(10, 810)]) (z + 810) ((a, 2, ks.length) :: pt)) Q) : R (d + 1) mX9_init 20 [.ref a] [] (wSt L xs ks z pt) Q := by
  rw [← wRef, ← wNew o.2.2] at h
  refine hR.go [29] 7 ?_
  conv => whnf
  refine ⟨by decide, by decide, ?_⟩
  conv => whnf
  refine ⟨?_, h⟩
  show ((azNew (wSt L xs ks z pt) 10 810).1.2.2 a).1 = 9
  rw [wNew o.2.2]
  exact o.new.kd
theorem CX9_29 (hR : azClosed R) (o : wO ks pt a 9) (h : R (d + 1) mX9_init 38 [.ref a] [] (wSt L xs (ks ++ [(10, 810)]) (z + 810) ((a, 3, ks.length) :: pt)) Q) : R (d + 1) mX9_init 29 [.ref a] [] (wSt L xs ks z pt) Q := by
  rw [← wRef, ← wNew o.2.2] at h
  refine hR.go [38] 7 ?_
  conv => whnf
  refine ⟨by decide, by decide, ?_⟩
  conv => whnf
  refine ⟨?_, h⟩
  show ((azNew (wSt L xs ks z pt) 10 810).1.2.2 a).1 = 9
  rw [wNew o.2.2]
  exact o.new.kd
theorem CX9_38 (hR : azClosed R) (o : wO ks pt a 9) (h : R (d + 1) mX9_init 46 [.ref a] [] (wSt L xs (ks ++ [(10, 80)]) (z + 80) ((a, 7, ks.length) :: pt)) Q) : R (d + 1) mX9_init 38 [.ref a] [] (wSt L xs ks z pt) Q := by
  rw [← wRef, ← wNew o.2.2] at h
  refine hR.go [46] 7 ?_
  conv => whnf
  refine ⟨by decide, by decide, ?_⟩
  conv => whnf
  refine ⟨?_, h⟩
  show ((azNew (wSt L xs ks z pt) 10 80).1.2.2 a).1 = 9
  rw [wNew o.2.2]
  exact o.new.kd
theorem CX9_46 (hR : azClosed R) (o : wO ks pt a 9) (h : R (d + 1) mX9_init 54 [.ref a] [] (wSt L xs (ks ++ [(10, 80)]) (z + 80) ((a, 9, ks.length) :: pt)) Q) : R (d + 1) mX9_init 46 [.ref a] [] (wSt L xs ks z pt) Q := by
  rw [← wRef, ← wNew o.2.2] at h
  refine hR.go [54] 7 ?_
  conv => whnf
  refine ⟨by decide, by decide, ?_⟩
  conv => whnf
  refine ⟨?_, h⟩
  show ((azNew (wSt L xs ks z pt) 10 80).1.2.2 a).1 = 9
  rw [wNew o.2.2]
  exact o.new.kd
theorem CX9_54 (hR : azClosed R) (o : wO ks pt a 9) (h : R (d + 1) mX9_init 61 [.ref a] [] (wSt L xs (ks ++ [(10, 3)]) (z + 3) ((a, 14, ks.length) :: pt)) Q) : R (d + 1) mX9_init 54 [.ref a] [] (wSt L xs ks z pt) Q := by
  rw [← wRef, ← wNew o.2.2] at h
  refine hR.go [61] 7 ?_
  conv => whnf
  refine ⟨by decide, by decide, ?_⟩
  conv => whnf
  refine ⟨?_, h⟩
  show ((azNew (wSt L xs ks z pt) 10 3).1.2.2 a).1 = 9
  rw [wNew o.2.2]
  exact o.new.kd
theorem CX9_61 (hR : azClosed R) (o : wO ks pt a 9) (h : R (d + 1) mX9_init 68 [.ref a] [] (wSt L xs (ks ++ [(10, 3)]) (z + 3) ((a, 15, ks.length) :: pt)) Q) : R (d + 1) mX9_init 61 [.ref a] [] (wSt L xs ks z pt) Q := by
  rw [← wRef, ← wNew o.2.2] at h
  refine hR.go [68] 7 ?_
  conv => whnf
  refine ⟨by decide, by decide, ?_⟩
  conv => whnf
  refine ⟨?_, h⟩
  show ((azNew (wSt L xs ks z pt) 10 3).1.2.2 a).1 = 9
  rw [wNew o.2.2]
  exact o.new.kd
theorem CX9_68 (hR : azClosed R) (o : wO ks pt a 9) (h : R (d + 1) mX9_init 75 [.ref a] [] (wSt L xs (ks ++ [(10, 3)]) (z + 3) ((a, 17, ks.length) :: pt)) Q) : R (d + 1) mX9_init 68 [.ref a] [] (wSt L xs ks z pt) Q := by
  rw [← wRef, ← wNew o.2.2] at h
  refine hR.go [75] 7 ?_
  conv => whnf
  refine ⟨by decide, by decide, ?_⟩
  conv => whnf
  refine ⟨?_, h⟩
  show ((azNew (wSt L xs ks z pt) 10 3).1.2.2 a).1 = 9
  rw [wNew o.2.2]
  exact o.new.kd
theorem CX9_75 (hR : azClosed R) (o : wO ks pt a 9) (h : R (d + 1) mX9_init 82 [.ref a] [] (wSt L xs (ks ++ [(10, 3)]) (z + 3) ((a, 18, ks.length) :: pt)) Q) : R (d + 1) mX9_init 75 [.ref a] [] (wSt L xs ks z pt) Q := by
  rw [← wRef, ← wNew o.2.2] at h
  refine hR.go [82] 7 ?_
  conv => whnf
  refine ⟨by decide, by decide, ?_⟩
  conv => whnf
  refine ⟨?_, h⟩
  show ((azNew (wSt L xs ks z pt) 10 3).1.2.2 a).1 = 9
  rw [wNew o.2.2]
  exact o.new.kd
theorem CX9_82 (hR : azClosed R) (o : wO ks pt a 9) (h : R (d + 1) mX9_init 90 [.ref a] [] (wSt L xs (ks ++ [(10, 40)]) (z + 40) ((a, 20, ks.length) :: pt)) Q) : R (d + 1) mX9_init 82 [.ref a] [] (wSt L xs ks z pt) Q := by
  rw [← wRef, ← wNew o.2.2] at h
  refine hR.go [90] 7 ?_
  conv => whnf
  refine ⟨by decide, by decide, ?_⟩
  conv => whnf
  refine ⟨?_, h⟩
  show ((azNew (wSt L xs ks z pt) 10 40).1.2.2 a).1 = 9
  rw [wNew o.2.2]
  exact o.new.kd
theorem CX9_90 (hR : azClosed R) (o : wO ks pt a 9) (h : R (d + 1) mX9_init 97 [.ref a] [] (wSt L xs (ks ++ [(10, 3)]) (z + 3) ((a, 23, ks.length) :: pt)) Q) : R (d + 1) mX9_init 90 [.ref a] [] (wSt L xs ks z pt) Q := by
  rw [← wRef, ← wNew o.2.2] at h
  refine hR.go [97] 7 ?_
  conv => whnf
  refine ⟨by decide, by decide, ?_⟩
  conv => whnf
  refine ⟨?_, h⟩
  show ((azNew (wSt L xs ks z pt) 10 3).1.2.2 a).1 = 9
  rw [wNew o.2.2]
  exact o.new.kd
theorem CX9_97 (hR : azClosed R) (o : wO ks pt a 9) (h : R (d + 1) mX9_init 106 [.ref a] [] (wSt L xs (ks ++ [(10, 800)]) (z + 800) ((a, 26, ks.length) :: pt)) Q) : R (d + 1) mX9_init 97 [.ref a] [] (wSt L xs ks z pt) Q := by
  rw [← wRef, ← wNew o.2.2] at h
  refine hR.go [106] 7 ?_
  conv => whnf
  refine ⟨by decide, by decide, ?_⟩
  conv => whnf
  refine ⟨?_, h⟩
  show ((azNew (wSt L xs ks z pt) 10 800).1.2.2 a).1 = 9
  rw [wNew o.2.2]
  exact o.new.kd
theorem CX9_106 (hR : azClosed R) (o : wO ks pt a 9) (h : R (d + 1) mX9_init 113 [.ref a] [] (wSt L xs (ks ++ [(10, 3)]) (z + 3) ((a, 28, ks.length) :: pt)) Q) : R (d + 1) mX9_init 106 [.ref a] [] (wSt L xs ks z pt) Q := by
  rw [← wRef, ← wNew o.2.2] at h
  refine hR.go [113] 7 ?_
  conv => whnf
  refine ⟨by decide, by decide, ?_⟩
  conv => whnf
  refine ⟨?_, h⟩
  show ((azNew (wSt L xs ks z pt) 10 3).1.2.2 a).1 = 9
  rw [wNew o.2.2]
  exact o.new.kd
theorem CX9_113 (hR : azClosed R) (o : wO ks pt a 9) (h : R (d + 1) mX9_init 120 [.ref a] [] (wSt L xs (ks ++ [(10, 3)]) (z + 3) ((a, 29, ks.length) :: pt)) Q) : R (d + 1) mX9_init 113 [.ref a] [] (wSt L xs ks z pt) Q := by
  rw [← wRef, ← wNew o.2.2] at h
  refine hR.go [120] 7 ?_
  conv => whnf
  refine ⟨by decide, by decide, ?_⟩
  conv => whnf
  refine ⟨?_, h⟩
  show ((azNew (wSt L xs ks z pt) 10 3).1.2.2 a).1 = 9
  rw [wNew o.2.2]
  exact o.new.kd
theorem CX9_120 (hR : azClosed R) (o : wO ks pt a 9) (h : R (d + 1) mX9_init 128 [.ref a] [] (wSt L xs (ks ++ [(10, 70)]) (z + 70) ((a, 30, ks.length) :: pt)) Q) : R (d + 1) mX9_init 120 [.ref a] [] (wSt L xs ks z pt) Q := by
  rw [← wRef, ← wNew o.2.2] at h
  refine hR.go [128] 7 ?_
  conv => whnf
  refine ⟨by decide, by decide, ?_⟩
  conv => whnf
  refine ⟨?_, h⟩
  show ((azNew (wSt L xs ks z pt) 10 70).1.2.2 a).1 = 9
  rw [wNew o.2.2]
  exact o.new.kd
theorem CX9_128 (hR : azClosed R) (o : wO ks pt a 9) (h : R (d + 1) mX9_init 136 [.ref a] [] (wSt L xs (ks ++ [(10, 70)]) (z + 70) ((a, 31, ks.length) :: pt)) Q) : R (d + 1) mX9_init 128 [.ref a] [] (wSt L xs ks z pt) Q := by
  rw [← wRef, ← wNew o.2.2] at h
  refine hR.go [136] 7 ?_
  conv => whnf
  refine ⟨by decide, by decide, ?_⟩
  conv => whnf
  refine ⟨?_, h⟩
  show ((azNew (wSt L xs ks z pt) 10 70).1.2.2 a).1 = 9
  rw [wNew o.2.2]
  exact o.new.kd
theorem CX9_136 (hR : azClosed R) (o : wO ks pt a 9) (h : R (d + 1) mX9_init 145 [.ref a] [] (wSt L xs (ks ++ [(10, 4200)]) (z + 4200) ((a, 33, ks.length) :: pt)) Q) : R (d + 1) mX9_init 136 [.ref a] [] (wSt L xs ks z pt) Q := by
  rw [← wRef, ← wNew o.2.2] at h
  refine hR.go [145] 7 ?_
  conv => whnf
  refine ⟨by decide, by decide, ?_⟩
  conv => whnf
  refine ⟨?_, h⟩
  show ((azNew (wSt L xs ks z pt) 10 4200).1.2.2 a).1 = 9
  rw [wNew o.2.2]
  exact o.new.kd
theorem CX9_145 (hR : azClosed R) (o : wO ks pt a 9) (h : R (d + 1) mX9_init 153 [.ref a] [] (wSt L xs (ks ++ [(10, 60)]) (z + 60) ((a, 34, ks.length) :: pt)) Q) : R (d + 1) mX9_init 145 [.ref a] [] (wSt L xs ks z pt) Q := by
  rw [← wRef, ← wNew o.2.2] at h
  refine hR.go [153] 7 ?_
  conv => whnf
  refine ⟨by decide, by decide, ?_⟩
  conv => whnf
  refine ⟨?_, h⟩
  show ((azNew (wSt L xs ks z pt) 10 60).1.2.2 a).1 = 9
  rw [wNew o.2.2]
  exact o.new.kd
theorem CX9_153 (hR : azClosed R) (o : wO ks pt a 9) (h : R (d + 1) mX9_init 161 [.ref a] [] (wSt L xs (ks ++ [(10, 60)]) (z + 60) ((a, 35, ks.length) :: pt)) Q) : R (d + 1) mX9_init 153 [.ref a] [] (wSt L xs ks z pt) Q := by
  rw [← wRef, ← wNew o.2.2] at h
  refine hR.go [161] 7 ?_
  conv => whnf
  refine ⟨by decide, by decide, ?_⟩
  conv => whnf
  refine ⟨?_, h⟩
  show ((azNew (wSt L xs ks z pt) 10 60).1.2.2 a).1 = 9
  rw [wNew o.2.2]
  exact o.new.kd
theorem CX9_161 (hR : azClosed R) (o : wO ks pt a 9) (h : R (d + 1) mX9_init 170 [.ref a] [] (wSt L xs (ks ++ [(10, 600)]) (z + 600) ((a, 36, ks.length) :: pt)) Q) : R (d + 1) mX9_init 161 [.ref a] [] (wSt L xs ks z pt) Q := by
  rw [← wRef, ← wNew o.2.2] at h
  refine hR.go [170] 7 ?_
  conv => whnf
  refine ⟨by decide, by decide, ?_⟩
  conv => whnf
  refine ⟨?_, h⟩
  show ((azNew (wSt L xs ks z pt) 10 600).1.2.2 a).1 = 9
  rw [wNew o.2.2]
  exact o.new.kd
theorem CX9_170 (hR : azClosed R) (o : wO ks pt a 9) (h : R (d + 1) mX9_init 178 [.ref a] [] (wSt L xs (ks ++ [(10, 70)]) (z + 70) ((a, 37, ks.length) :: pt)) Q) : R (d + 1) mX9_init 170 [.ref a] [] (wSt L xs ks z pt) Q := by
  rw [← wRef, ← wNew o.2.2] at h
  refine hR.go [178] 7 ?_
  conv => whnf
  refine ⟨by decide, by decide, ?_⟩
  conv => whnf
  refine ⟨?_, h⟩
  show ((azNew (wSt L xs ks z pt) 10 70).1.2.2 a).1 = 9
  rw [wNew o.2.2]
  exact o.new.kd
theorem CX9_178 (hR : azClosed R) (o : wO ks pt a 9) (h : R (d + 1) mX9_init 186 [.ref a] [] (wSt L xs (ks ++ [(12, 60)]) (z + 60) ((a, 38, ks.length) :: pt)) Q) : R (d + 1) mX9_init 178 [.ref a] [] (wSt L xs ks z pt) Q := by
  rw [← wRef, ← wNew o.2.2] at h
  refine hR.go [186] 7 ?_
  conv => whnf
  refine ⟨by decide, by decide, ?_⟩
  conv => whnf
  refine ⟨?_, h⟩
  show ((azNew (wSt L xs ks z pt) 12 60).1.2.2 a).1 = 9
  rw [wNew o.2.2]
  exact o.new.kd
theorem CX9_186 (hR : azClosed R) (o : wO ks pt a 9) (h : R (d + 1) mX9_init 194 [.ref a] [] (wSt L xs (ks ++ [(11, 100)]) (z + 100) ((a, 39, ks.length) :: pt)) Q) : R (d + 1) mX9_init 186 [.ref a] [] (wSt L xs ks z pt) Q := by
  rw [← wRef, ← wNew o.2.2] at h
  refine hR.go [194] 7 ?_
  conv => whnf
  refine ⟨by decide, by decide, ?_⟩
  conv => whnf
  refine ⟨?_, h⟩
  show ((azNew (wSt L xs ks z pt) 11 100).1.2.2 a).1 = 9
  rw [wNew o.2.2]
  exact o.new.kd
theorem CX9_194 (hR : azClosed R) (o : wO ks pt a 9) (h : R (d + 1) mX9_init 202 [.ref a] [] (wSt L xs (ks ++ [(11, 100)]) (z + 100) ((a, 40, ks.length) :: pt)) Q) : R (d + 1) mX9_init 194 [.ref a] [] (wSt L xs ks z pt) Q := by
  rw [← wRef, ← wNew o.2.2] at h
  refine hR.go [202] 7 ?_
  conv => whnf
  refine ⟨by decide, by decide, ?_⟩
  conv => whnf
  refine ⟨?_, h⟩
  show ((azNew (wSt L xs ks z pt) 11 100).1.2.2 a).1 = 9
  rw [wNew o.2.2]
  exact o.new.kd
theorem CX9_202 (hR : azClosed R) (o : wO ks pt a 9) (h : R (d + 1) mX9_init 210 [.ref a] [] (wSt L xs (ks ++ [(10, 10)]) (z + 10) ((a, 41, ks.length) :: pt)) Q) : R (d + 1) mX9_init 202 [.ref a] [] (wSt L xs ks z pt) Q := by
  rw [← wRef, ← wNew o.2.2] at h
  refine hR.go [210] 7 ?_
  conv => whnf
  refine ⟨by decide, by decide, ?_⟩
  conv => whnf
  refine ⟨?_, h⟩
  show ((azNew (wSt L xs ks z pt) 10 10).1.2.2 a).1 = 9
  rw [wNew o.2.2]
  exact o.new.kd
theorem CX9_210 (hR : azClosed R) (o : wO ks pt a 9) (h : R (d + 1) mX9_init 218 [.ref a] [] (wSt L xs (ks ++ [(10, 10)]) (z + 10) ((a, 43, ks.length) :: pt)) Q) : R (d + 1) mX9_init 210 [.ref a] [] (wSt L xs ks z pt) Q := by
  rw [← wRef, ← wNew o.2.2] at h
  refine hR.go [218] 7 ?_
  conv => whnf
  refine ⟨by decide, by decide, ?_⟩
  conv => whnf
  refine ⟨?_, h⟩
  show ((azNew (wSt L xs ks z pt) 10 10).1.2.2 a).1 = 9
  rw [wNew o.2.2]
  exact o.new.kd
theorem CX9_218 (hR : azClosed R) (h : Q none (wSt L xs ks z pt)) : R (d + 1) mX9_init 218 [.ref a] [] (wSt L xs ks z pt) Q := hR.go [] 3 h
theorem CX7_0 (hR : azClosed R) (h : R (d + 1) mX7_init 4 [.ref a, .retAddr 0] [] (wSt L xs ks z pt) Q) : R (d + 1) mX7_init 0 [.ref a, .retAddr 0] [] (wSt L xs ks z pt) Q := hR.go [4] 5 h
theorem CX7_4 (hR : azClosed R) (o : wO ks pt a 7) (h : R (d + 1) mX7_init 13 [.ref a, .retAddr 0] [] (wSt L xs (ks ++ [(13, 60)]) (z + 60) ((a, 0, ks.length) :: pt)) Q) : R (d + 1) mX7_init 4 [.ref a, .retAddr 0] [] (wSt L xs ks z pt) Q := by
  rw [← wRef, ← wNew o.2.2] at h
  refine hR.go [13] 7 ?_
  conv => whnf
  refine ⟨by decide, by decide, ?_⟩
  conv => whnf
  refine ⟨?_, h⟩
  show ((azNew (wSt L xs ks z pt) 13 60).1.2.2 a).1 = 7
  rw [wNew o.2.2]
  exact o.new.kd
theorem CX7_40 (hR : azClosed R) (o : wO ks pt a 7) (h : R d mX3_init 0 [.ref ks.length] [] (wSt L xs (ks ++ [(3, 2)]) (z + 2) pt) fun v s => v = none ∧ ((s.1.2.2 a).1 = 7 ∧ R (d + 1) mX7_init 51 [.ref a, .int x] [] (azSR s a 1 (some ks.length)) Q)) : R (d + 1) mX7_init 40 [.ref a, .int x] [] (wSt L xs ks z pt) Q := by
  rw [← wNew o.2.2] at h
  exact hR.go [51] 12 h
theorem CX7_51 (hR : azClosed R) (o : wO ks pt a 7) (h : R (d + 1) mX7_init 59 [.ref a, .int x] [] (wSt L xs (ks ++ [(10, 60)]) (z + 60) ((a, 2, ks.length) :: pt)) Q) : R (d + 1) mX7_init 51 [.ref a, .int x] [] (wSt L xs ks z pt) Q := by
  rw [← wRef, ← wNew o.2.2] at h
  refine hR.go [59] 7 ?_
  conv => whnf
  refine ⟨by decide, by decide, ?_⟩
  conv => whnf
  refine ⟨?_, h⟩
  show ((azNew (wSt L xs ks z pt) 10 60).1.2.2 a).1 = 7
  rw [wNew o.2.2]
  exact o.new.kd
theorem CX7_59 (hR : azClosed R) (o : wO ks pt a 7) (h : R (d + 1) mX7_init 67 [.ref a, .int x] [] (wSt L xs (ks ++ [(10, 60)]) (z + 60) ((a, 3, ks.length) :: pt)) Q) : R (d + 1) mX7_init 59 [.ref a, .int x] [] (wSt L xs ks z pt) Q := by
  rw [← wRef, ← wNew o.2.2] at h
  refine hR.go [67] 7 ?_
  conv => whnf
  refine ⟨by decide, by decide, ?_⟩
  conv => whnf
  refine ⟨?_, h⟩
  show ((azNew (wSt L xs ks z pt) 10 60).1.2.2 a).1 = 7
  rw [wNew o.2.2]
  exact o.new.kd
theorem CX7_67 (hR : azClosed R) (o : wO ks pt a 7) (h : R (d + 1) mX7_init 75 [.ref a, .int x] [] (wSt L xs (ks ++ [(10, 60)]) (z + 60) ((a, 4, ks.length) :: pt)) Q) : R (d + 1) mX7_init 67 [.ref a, .int x] [] (wSt L xs ks z pt) Q := by
  rw [← wRef, ← wNew o.2.2] at h
  refine hR.go [75] 7 ?_
  conv => whnf
  refine ⟨by decide, by decide, ?_⟩
  conv => whnf
  refine ⟨?_, h⟩
  show ((azNew (wSt L xs ks z pt) 10 60).1.2.2 a).1 = 7
  rw [wNew o.2.2]
  exact o.new.kd
theorem CX7_75 (hR : azClosed R) (o : wO ks pt a 7) (h : R (d + 1) mX7_init 84 [.ref a, .int x] [] (wSt L xs (ks ++ [(10, 600)]) (z + 600) ((a, 5, ks.length) :: pt)) Q) : R (d + 1) mX7_init 75 [.ref a, .int x] [] (wSt L xs ks z pt) Q := by
  rw [← wRef, ← wNew o.2.2] at h
  refine hR.go [84] 7 ?_
  conv => whnf
  refine ⟨by decide, by decide, ?_⟩
  conv => whnf
  refine ⟨?_, h⟩
  show ((azNew (wSt L xs ks z pt) 10 600).1.2.2 a).1 = 7
  rw [wNew o.2.2]
  exact o.new.kd
theorem CX7_84 (hR : azClosed R) (o : wO ks pt a 7) (h : R (d + 1) mX7_init 92 [.ref a, .int x] [] (wSt L xs (ks ++ [(12, 60)]) (z + 60) ((a, 6, ks.length) :: pt)) Q) : R (d + 1) mX7_init 84 [.ref a, .int x] [] (wSt L xs ks z pt) Q := by
  rw [← wRef, ← wNew o.2.2] at h
  refine hR.go [92] 7 ?_
  conv => whnf
  refine ⟨by decide, by decide, ?_⟩
  conv => whnf
  refine ⟨?_, h⟩
  show ((azNew (wSt L xs ks z pt) 12 60).1.2.2 a).1 = 7
  rw [wNew o.2.2]
  exact o.new.kd
theorem CX7_92 (hR : azClosed R) (h : Q none (wSt L xs ks z pt)) : R (d + 1) mX7_init 92 [.ref a, .int x] [] (wSt L xs ks z pt) Q := hR.go [] 3 h
theorem CX8_0 (hR : azClosed R) (h : R (d + 1) mX8_init 4 [.ref a] [] (wSt L xs ks z pt) Q) : R (d + 1) mX8_init 0 [.ref a] [] (wSt L xs ks z pt) Q := hR.go [4] 5 h
theorem CX8_4 (hR : azClosed R) (o : wO ks pt a 8) (h : R d mX3_init 0 [.ref ks.length] [] (wSt L xs (ks ++ [(3, 2)]) (z + 2) pt) fun v s => v = none ∧ ((s.1.2.2 a).1 = 8 ∧ R (d + 1) mX8_init 15 [.ref a] [] (azSR s a 0 (some ks.length)) Q)) : R (d + 1) mX8_init 4 [.ref a] [] (wSt L xs ks z pt) Q := by
  rw [← wNew o.2.2] at h
  exact hR.go [15] 12 h
theorem CX8_15 (hR : azClosed R) (o : wO ks pt a 8) (h : R d mX3_init 0 [.ref ks.length] [] (wSt L xs (ks ++ [(3, 2)]) (z + 2) pt) fun v s => v = none ∧ ((s.1.2.2 a).1 = 8 ∧ R (d + 1) mX8_init 26 [.ref a] [] (azSR s a 1 (some ks.length)) Q)) : R (d + 1) mX8_init 15 [.ref a] [] (wSt L xs ks z pt) Q := by
  rw [← wNew o.2.2] at h
  exact hR.go [26] 12 h
theorem CX8_26 (hR : azClosed R) (o : wO ks pt a 8) (h : R d mX3_init 0 [.ref ks.length] [] (wSt L xs (ks ++ [(3, 2)]) (z + 2) pt) fun v s => v = none ∧ ((s.1.2.2 a).1 = 8 ∧ R (d + 1) mX8_init 37 [.ref a] [] (azSR s a 2 (some ks.length)) Q)) : R (d + 1) mX8_init 26 [.ref a] [] (wSt L xs ks z pt) Q := by
  rw [← wNew o.2.2] at h
  exact hR.go [37] 12 h
theorem CX8_37 (hR : azClosed R) (o : wO ks pt a 8) (h : R (d + 1) mX8_init 46 [.ref a] [] (wSt L xs (ks ++ [(14, 10)]) (z + 10) ((a, 3, ks.length) :: pt)) Q) : R (d + 1) mX8_init 37 [.ref a] [] (wSt L xs ks z pt) Q := by
  rw [← wRef, ← wNew o.2.2] at h
  refine hR.go [46] 7 ?_
  conv => whnf
  refine ⟨by decide, by decide, ?_⟩
  conv => whnf
  refine ⟨?_, h⟩
  show ((azNew (wSt L xs ks z pt) 14 10).1.2.2 a).1 = 8
  rw [wNew o.2.2]
  exact o.new.kd
theorem CX8_46 (hR : azClosed R) (o : wO ks pt a 8) (h : R d mX6_init 0 [.ref ks.length] [] (wSt L xs (ks ++ [(6, 6)]) (z + 6) pt) fun v s => v = none ∧ ((s.1.2.2 a).1 = 8 ∧ R (d + 1) mX8_init 57 [.ref a] [] (azSR s a 4 (some ks.length)) Q)) : R (d + 1) mX8_init 46 [.ref a] [] (wSt L xs ks z pt) Q := by
  rw [← wNew o.2.2] at h
  exact hR.go [57] 12 h
theorem CX8_57 (hR : azClosed R) (o : wO ks pt a 8) (h : R d mX4_init 0 [.ref ks.length] [] (wSt L xs (ks ++ [(4, 4)]) (z + 4) pt) fun v s => v = none ∧ ((s.1.2.2 a).1 = 8 ∧ R (d + 1) mX8_init 68 [.ref a] [] (azSR s a 5 (some ks.length)) Q)) : R (d + 1) mX8_init 57 [.ref a] [] (wSt L xs ks z pt) Q := by
  rw [← wNew o.2.2] at h
  exact hR.go [68] 12 h
theorem CX8_68 (hR : azClosed R) (o : wO ks pt a 8) (h : R d mX1_init 0 [.ref ks.length] [] (wSt L xs (ks ++ [(1, 3)]) (z + 3) pt) fun v s => v = none ∧ ((s.1.2.2 a).1 = 8 ∧ R (d + 1) mX8_init 79 [.ref a] [] (azSR s a 6 (some ks.length)) Q)) : R (d + 1) mX8_init 68 [.ref a] [] (wSt L xs ks z pt) Q := by
  rw [← wNew o.2.2] at h
  exact hR.go [79] 12 h
theorem CX8_79 (hR : azClosed R) (o : wO ks pt a 8) (h : R d mX7_init 0 [.ref ks.length, .retAddr 0] [] (wSt L xs (ks ++ [(7, 8)]) (z + 8) pt) fun v s => v = none ∧ ((s.1.2.2 a).1 = 8 ∧ R (d + 1) mX8_init 90 [.ref a] [] (azSR s a 7 (some ks.length)) Q)) : R (d + 1) mX8_init 79 [.ref a] [] (wSt L xs ks z pt) Q := by
  rw [← wNew o.2.2] at h
  exact hR.go [90] 12 h
theorem CX8_90 (hR : azClosed R) (o : wO ks pt a 8) (h : R d mX0_init 0 [.ref ks.length] [] (wSt L xs (ks ++ [(0, 4)]) (z + 4) pt) fun v s => v = none ∧ ((s.1.2.2 a).1 = 8 ∧ R (d + 1) mX8_init 101 [.ref a] [] (azSR s a 8 (some ks.length)) Q)) : R (d + 1) mX8_init 90 [.ref a] [] (wSt L xs ks z pt) Q := by
  rw [← wNew o.2.2] at h
  exact hR.go [101] 12 h
theorem CX8_101 (hR : azClosed R) (o : wO ks pt a 8) (h : R d mX2_init 0 [.ref ks.length] [] (wSt L xs (ks ++ [(2, 4)]) (z + 4) pt) fun v s => v = none ∧ ((s.1.2.2 a).1 = 8 ∧ R (d + 1) mX8_init 112 [.ref a] [] (azSR s a 9 (some ks.length)) Q)) : R (d + 1) mX8_init 101 [.ref a] [] (wSt L xs ks z pt) Q := by
  rw [← wNew o.2.2] at h
  exact hR.go [112] 12 h
theorem CX8_112 (hR : azClosed R) (h : Q none (wSt L xs ks z pt)) : R (d + 1) mX8_init 112 [.ref a] [] (wSt L xs ks z pt) Q := hR.go [] 3 h
theorem CX7_13 (hR : azClosed R) (h : R (d + 1) mX7_init 15 [.ref a, .int (nI 0)] [] (wSt L xs ks z pt) Q) : R (d + 1) mX7_init 13 [.ref a, .retAddr 0] [] (wSt L xs ks z pt) Q := hR.go [15] 5 h
theorem CX7_15 (hR : azClosed R) (o : wO ks pt a 7) (h : ((nI 60) ≤ x → R (d + 1) mX7_init 40 [.ref a, .int x] [] (wSt L xs ks z pt) Q) ∧ (¬ ((nI 60) ≤ x) → (((wSt L xs ks z pt).1.2.2 a).1 = 7 ∧ zOf (lkP pt a 0) fun b => R d mX3_init 0 [.ref ks.length] [] (wSt L xs (ks ++ [(3, 2)]) (z + 2) pt) fun v s => v = none ∧ ((((s.1.2.2 b).1 = 13 ∧ (s.1.2.2 ks.length).1 = 3) ∨ ((s.1.2.2 b).1 = 14 ∧ (s.1.2.2 ks.length).1 = 5)) ∧ vp_in x (s.1.2.2 b).2 ∧ R (d + 1) mX7_init 15 [.ref a, .int (x + nI 1)] [] (azSR s b x.toNatClampNeg (some ks.length)) Q)))) : R (d + 1) mX7_init 15 [.ref a, .int x] [] (wSt L xs ks z pt) Q := by
  rw [← wNew o.2.2] at h
  exact hR.go [15, 40] 20 h
end SN
