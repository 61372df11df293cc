/-! SPECS: constructors. -/
/-- cells outside of a row of cells are as they were -/
def frN (lo hi : Nat) (σ σ' : azS) : Prop := ∀ b, b < lo ∨ hi ≤ b → σ'.1.2.2 b = σ.1.2.2 b ∧ σ'.2.1 b = σ.2.1 b ∧ σ'.2.2.1 b = σ.2.2.1 b ∧ σ'.2.2.2 b = σ.2.2.2 b
section SN
variable {R : azP} {D d n z : Nat} {kd : azK} {I : azI} {J : azJ} {F : azR} {Q : azQ} {a r : Nat}
theorem T_newMarking (hR : azClosed R) (hk : kd a = (3, 2)) (ha : a + 1 = n) (h : ∀ kd' I' J' F', MkOk kd' F' a → cM I' a mNil → frN a (a + 3) ((n, z, kd), I, J, F) ((n + 2, z + 70, kd'), I', J', F') → Q none ((n + 2, z + 70, kd'), I', J', F')) : R (d + 1) mX3_init 0 [.ref a] [] ((n, z, kd), I, J, F) Q := by
  subst ha
  refine hR.go [] 40 ?_
  conv => whnf
  refine ⟨by decide, by decide, ?_⟩
  conv => whnf
  refine ⟨by (simp (disch := omega) only [azKd, azNew, azSR, azSI, azUp, azC, nI_clamp, neq_F, if_false, if_true, eq_self, Nat.add_assoc, Nat.reduceAdd, hk]), ?_⟩
  conv => whnf
  refine ⟨by decide, by decide, ?_⟩
  conv => whnf
  refine ⟨by (simp (disch := omega) only [azKd, azNew, azSR, azSI, azUp, azC, nI_clamp, neq_F, if_false, if_true, eq_self, Nat.add_assoc, Nat.reduceAdd, hk]), ?_⟩
  conv => whnf
  refine h _ _ _ _ ?_ ?_ ?_
  · refine ⟨?_, ?_, ?_, ?_, ?_⟩
    all_goals (simp (disch := omega) only [azKd, azNew, azSR, azSI, azUp, azC, nI_clamp, neq_F, if_false, if_true, eq_self, Nat.add_assoc, Nat.reduceAdd, hk])
  · intro p hp
    refine ⟨?_, fun j hj => absurd hj (Nat.not_lt_zero j)⟩
    (simp (disch := omega) only [azKd, azNew, azSR, azSI, azUp, azC, nI_clamp, neq_F, if_false, if_true, eq_self, Nat.add_assoc, Nat.reduceAdd, mNil, List.length_nil, nI_0])
  · intro b hb
    refine ⟨?_, ?_, ?_, ?_⟩
    all_goals first | (funext j; (simp (disch := omega) only [azKd, azNew, azSR, azSI, azUp, azC, nI_clamp, neq_F, if_false, if_true, eq_self, Nat.add_assoc, Nat.reduceAdd])) | (simp (disch := omega) only [azKd, azNew, azSR, azSI, azUp, azC, nI_clamp, neq_F, if_false, if_true, eq_self, Nat.add_assoc, Nat.reduceAdd])
end SN
