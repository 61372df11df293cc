/-! CONSTRUCTORS: TokenNet. -/
section SN
variable {L : Nat} {xs : Nat → Int32} {ks : List (Nat × Nat)} {z a c : Nat} {pt : List (Nat × Nat × Nat)} {x : Int32} {R : azP} {d : Nat} {Q : azQ}
/-- what TokenNet's constructor leaves -/
def chT (ks : List (Nat × Nat)) (z : Nat) (pt : List (Nat × Nat × Nat)) : Prop := ks.length = 228 ∧ z ≤ 100000 ∧ TnOk (fun b => ks.getD b (99, 0)) (lkP pt) ∧ (∀ e ∈ pt, e.1 < 228) ∧ (ks.getD 10 (99, 0) = (14, 10) ∧ ks.getD 227 (99, 0) = (14, 10)) ∧ ∀ e ∈ pt, e.1 ≠ 10 ∧ e.1 ≠ 227
def wkC (K : Nat → Nat × Nat) (G : Nat → Nat → Option Nat) (a : Nat) : Bool := (List.range 60).all fun i => (G (a + 1) i == some (a + 2 + 3 * i)) && (K (a + 2 + 3 * i) == (3, 2)) && (K (a + 2 + 3 * i + 1) == (10, 10)) && (K (a + 2 + 3 * i + 2) == (10, 60)) && (G (a + 2 + 3 * i) 0 == some (a + 2 + 3 * i + 1)) && (G (a + 2 + 3 * i) 1 == some (a + 2 + 3 * i + 2))
theorem wkC_ok {K : azK} {G : azR} {a : Nat} (h : wkC K G a = true) : ∀ i, i < 60 → G (a + 1) i = some (a + 2 + 3 * i) ∧ MkOk K G (a + 2 + 3 * i) := by
  intro i hi
  unfold wkC at h
  rw [List.all_eq_true] at h
  have := h i (List.mem_range.mpr hi)
  simp only [Bool.and_eq_true, beq_iff_eq] at this
  obtain ⟨⟨⟨⟨⟨h1, h2⟩, h3⟩, h4⟩, h5⟩, h6⟩ := this
  exact ⟨h1, h2, h3, h4, h5, h6⟩
theorem WX8 (hR : azClosed R) (h : ∀ ks z pt, chT ks z pt → Q none (wSt L xs ks z pt)) : R (d + 3) mX8_init 0 [.ref 0] [] (wSt L xs [(8, 12)] 12 []) Q := by
  have o : wO [(8, 12)] [] 0 8 := ⟨by decide, by decide, by decide⟩
  refine CX8_0 hR ?_
  refine CX8_4 hR o ?_
  refine WX3 (d := d + 1) hR (by decide) ⟨by decide, by decide, by decide⟩ ⟨rfl, wO.kd (c := 8) ⟨by decide, by decide, by decide⟩, ?_⟩
  rw [wRef]
  refine CX8_15 hR ⟨by decide, by decide, by decide⟩ ?_
  refine WX3 (d := d + 1) hR (by decide) ⟨by decide, by decide, by decide⟩ ⟨rfl, wO.kd (c := 8) ⟨by decide, by decide, by decide⟩, ?_⟩
  rw [wRef]
  refine CX8_26 hR ⟨by decide, by decide, by decide⟩ ?_
  refine WX3 (d := d + 1) hR (by decide) ⟨by decide, by decide, by decide⟩ ⟨rfl, wO.kd (c := 8) ⟨by decide, by decide, by decide⟩, ?_⟩
  rw [wRef]
  refine CX8_37 hR ⟨by decide, by decide, by decide⟩ ?_
  refine CX8_46 hR ⟨by decide, by decide, by decide⟩ ?_
  refine WX6 (d := d) hR (by decide) ⟨by decide, by decide, by decide⟩ ⟨rfl, wO.kd (c := 8) ⟨by decide, by decide, by decide⟩, ?_⟩
  rw [wRef]
  refine CX8_57 hR ⟨by decide, by decide, by decide⟩ ?_
  refine WX4 (d := d + 1) hR (by decide) ⟨by decide, by decide, by decide⟩ ⟨rfl, wO.kd (c := 8) ⟨by decide, by decide, by decide⟩, ?_⟩
  rw [wRef]
  refine CX8_68 hR ⟨by decide, by decide, by decide⟩ ?_
  refine WX1 (d := d + 1) hR (by decide) ⟨by decide, by decide, by decide⟩ ⟨rfl, wO.kd (c := 8) ⟨by decide, by decide, by decide⟩, ?_⟩
  rw [wRef]
  refine CX8_79 hR ⟨by decide, by decide, by decide⟩ ?_
  refine WX7 (d := d) hR (by decide) ⟨by decide, by decide, by decide⟩ ⟨rfl, ?_, ?_⟩
  · exact wO.kd (c := 8) ⟨by decide +kernel, by decide +kernel, by decide +kernel⟩
  rw [wRef]
  refine CX8_90 hR ⟨by decide +kernel, by decide +kernel, by decide +kernel⟩ ?_
  refine WX0 (d := d + 1) hR (by decide +kernel) ⟨by decide +kernel, by decide +kernel, by decide +kernel⟩ ⟨rfl, ?_, ?_⟩
  · exact wO.kd (c := 8) ⟨by decide +kernel, by decide +kernel, by decide +kernel⟩
  rw [wRef]
  refine CX8_101 hR ⟨by decide +kernel, by decide +kernel, by decide +kernel⟩ ?_
  refine WX2 (d := d) hR (by decide +kernel) ⟨by decide +kernel, by decide +kernel, by decide +kernel⟩ ⟨rfl, ?_, ?_⟩
  · exact wO.kd (c := 8) ⟨by decide +kernel, by decide +kernel, by decide +kernel⟩
  rw [wRef]
  refine CX8_112 hR ?_
  refine h _ _ _ ⟨by decide +kernel, by decide +kernel, ?_, by decide +kernel, ⟨by decide +kernel, by decide +kernel⟩, by decide +kernel⟩
  unfold TnOk MkOk PpOk FiOk WkOk BlOk ImOk
  repeat' apply And.intro
  all_goals first | (refine wkC_ok ?_; decide +kernel) | decide +kernel
end SN
