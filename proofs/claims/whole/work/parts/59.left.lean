/-! SPECS: Firing.copyLeft; Tape.append, wipe. -/
/-- what of a place is left from an index on -/
def lfL (cs : List Cls) (ch : Nat → Nat) (p : Nat) : Nat → List Nat → List Nat
  | _, [] => []
  | i, x :: l => if tknB cs ch p i then lfL cs ch p (i + 1) l else x :: lfL cs ch p (i + 1) l
def lfM (cs : List Cls) (ch : Nat → Nat) (m : Nat → List Nat) : Nat → List Nat := fun p => if (rBits cs).testBit p then [] else lfL cs ch p 0 (m p)
theorem lfL_le (cs : List Cls) (ch : Nat → Nat) (p : Nat) : ∀ (l : List Nat) (i : Nat), (lfL cs ch p i l).length ≤ l.length ∧ ∀ x ∈ lfL cs ch p i l, x ∈ l := by
  intro l
  induction l with
  | nil => intro i; exact ⟨Nat.le_refl _, fun x h => h⟩
  | cons y l ih =>
    intro i
    unfold lfL
    by_cases h : tknB cs ch p i = true
    · rw [if_pos h]
      exact ⟨Nat.le_trans (ih (i + 1)).1 (by simp), fun x hx => List.mem_cons_of_mem _ ((ih (i + 1)).2 x hx)⟩
    · rw [if_neg h]
      refine ⟨by have := (ih (i + 1)).1; simp only [List.length_cons]; omega, fun x hx => ?_⟩
      rcases List.mem_cons.mp hx with h | h
      · subst h; exact List.mem_cons_self ..
      · exact List.mem_cons_of_mem _ ((ih (i + 1)).2 x h)
theorem lfM_ok {cs : List Cls} {ch : Nat → Nat} {m : Nat → List Nat} (hv : mOK m) : mOK (lfM cs ch m) := by
  refine ⟨fun p => ?_, fun p hp => ?_⟩
  · unfold lfM
    by_cases h : (rBits cs).testBit p = true
    · rw [if_pos h]; exact ⟨Nat.zero_le _, fun t ht => absurd ht List.not_mem_nil⟩
    · rw [if_neg h]
      have := lfL_le cs ch p (m p) 0
      exact ⟨Nat.le_trans this.1 (hv.1 p).1, fun t ht => (hv.1 p).2 t (this.2 t ht)⟩
  · unfold lfM
    rw [hv.2 p hp]
    by_cases h : (rBits cs).testBit p = true
    · rw [if_pos h]
    · rw [if_neg h]; rfl
section S6
variable {R : azP} {D d n z : Nat} {kd : azK} {I : azI} {J : azJ} {F : azR} {Q : azQ} {a r : Nat} {t : List Nat}
theorem S_tapeAppend (hR : azClosed R) (k0 : (kd a).1 = 6) (k1 : kd (a + 1) = (10, 80)) (f0 : F a 0 = some (a + 1)) (ht : tOK t) (e1 : I a 1 = nI t.length) (eb : lst (I (a + 1)) (t.map nI)) {c : Nat} (h1 : t.length < 80 → ∀ I', I' a 1 = nI (t.length + 1) → lst (I' (a + 1)) ((t ++ [c]).map nI) → (∀ b, b ≠ a → b ≠ a + 1 → I' b = I b) → Q (some (.int (nI 1))) ((n, z, kd), I', J, F)) (h2 : t.length = 80 → Q (some (.int (nI 0))) ((n, z, kd), I, J, F)) : R d mX6_append 0 [.ref a, .int (nI c)] [] ((n, z, kd), I, J, F) Q := by
  have htl := ht.1
  refine BX6_append_0 hR ?_
  by_cases h : t.length < 80
  · simp (disch := omega) only [nI_ad, nI_ml, nI_lti, nI_lei, nI_eqi, nI_nn, nI_0le, nI_eq0, nI_0lt, nI_le0, nI_clamp, nI_pd, nI_sb, zOf_some, zOp_some, zOp_none, kI_int, kL_long, kO_ref, kO_null, nlt_T, nlt_F, nle_T, nle_F, neq_F, vpT, azUp_at, if_true, if_false, true_and, and_true, true_implies, false_implies, implies_true, not_true_eq_false, not_false_eq_true, true_or, or_true, false_or, or_false, and_false, false_and, eq_self, n01_0, n01_1, nm1_0, k0, k1, f0, e1, @azUp_nb _ (a + 1) a]
    refine h1 h _ azUp_s ?_ fun b hb1 hb2 => ?_
    · rw [List.map_append, azUp_nb (by omega)]
      refine eb.add ?_ fun i hi => ?_
      · rw [List.length_map, azUp_s]
      · rw [List.length_map] at hi
        rw [azUp_nk hi]
    · rw [azUp_nb hb1, azUp_nb hb2]
  · simp (disch := omega) only [nI_ad, nI_ml, nI_lti, nI_lei, nI_eqi, nI_nn, nI_0le, nI_eq0, nI_0lt, nI_le0, nI_clamp, nI_pd, nI_sb, zOf_some, zOp_some, zOp_none, kI_int, kL_long, kO_ref, kO_null, nlt_T, nlt_F, nle_T, nle_F, neq_F, vpT, azUp_at, if_true, if_false, true_and, and_true, true_implies, false_implies, implies_true, not_true_eq_false, not_false_eq_true, true_or, or_true, false_or, or_false, and_false, false_and, eq_self, n01_0, n01_1, nm1_0, k0, e1]
    exact h2 (by omega)
theorem S_tapeWipe (hR : azClosed R) (k0 : (kd a).1 = 6) (h : Q none ((n, z, kd), azUp I a 1 (nI 0), J, F)) : R d mX6_wipe 0 [.ref a] [] ((n, z, kd), I, J, F) Q := by
  refine BX6_wipe_0 hR ?_
  simp (disch := omega) only [nI_ad, nI_ml, nI_lti, nI_lei, nI_eqi, nI_nn, nI_0le, nI_eq0, nI_0lt, nI_le0, nI_clamp, nI_pd, nI_sb, zOf_some, zOp_some, zOp_none, kI_int, kL_long, kO_ref, kO_null, nlt_T, nlt_F, nle_T, nle_F, neq_F, vpT, azUp_at, if_true, if_false, true_and, and_true, true_implies, false_implies, implies_true, not_true_eq_false, not_false_eq_true, true_or, or_true, false_or, or_false, and_false, false_and, eq_self, n01_0, n01_1, nm1_0, k0]
  exact h
end S6
