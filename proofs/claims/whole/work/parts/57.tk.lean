/-! SPECS: the takes and gives of a rule, in order; Firing.isTaken. -/
/-- the clauses of a kind, in order -/
def rOf (k : Nat) (cs : List Cls) : List Cls := cs.filter fun c => decide (c.1 = k)
/-- place and name of the take j -/
def tkP (cs : List Cls) (j : Nat) : Nat := ((rOf 0 cs).getD j (0, 0, 0, [])).2.1
def tkN (cs : List Cls) (j : Nat) : Nat := ((rOf 0 cs).getD j (0, 0, 0, [])).2.2.1
theorem rOf_len (k o : Nat) (cs : List Cls) : (rIdx k o cs).length = (rOf k cs).length := by
  induction cs generalizing o with
  | nil => rfl
  | cons c cs ih =>
    unfold rIdx rOf
    rw [List.filter_cons]
    by_cases h : c.1 = k
    · rw [if_pos h, if_pos (by simpa using h), List.length_cons, List.length_cons, ih]; rfl
    · rw [if_neg h, if_neg (by simpa using h), ih]; rfl
theorem rIdx_at (k : Nat) : ∀ (cs : List Cls) (o j : Nat), j < (rIdx k o cs).length → ∃ l1 c l2, cs = l1 ++ c :: l2 ∧ (rIdx k o cs).getD j 0 = o + l1.length ∧ c.1 = k ∧ (rOf k cs).getD j (0, 0, 0, []) = c := by
  intro cs
  induction cs with
  | nil => intro o j h; exact absurd h (Nat.not_lt_zero _)
  | cons c cs ih =>
    intro o j h
    unfold rIdx at h ⊢
    unfold rOf
    rw [List.filter_cons]
    by_cases hc : c.1 = k
    · rw [if_pos hc] at h ⊢
      rw [if_pos (by simpa using hc)]
      cases j with
      | zero => exact ⟨[], c, cs, rfl, rfl, hc, rfl⟩
      | succ j =>
        obtain ⟨l1, c', l2, e1, e2, e3, e4⟩ := ih (o + 1) j (by rw [List.length_cons] at h; omega)
        refine ⟨c :: l1, c', l2, by rw [e1]; rfl, ?_, e3, ?_⟩
        · rw [List.getD_cons_succ, e2, List.length_cons]; omega
        · rw [List.getD_cons_succ]; exact e4
    · rw [if_neg hc] at h ⊢
      rw [if_neg (by simpa using hc)]
      obtain ⟨l1, c', l2, e1, e2, e3, e4⟩ := ih (o + 1) j h
      refine ⟨c :: l1, c', l2, by rw [e1]; rfl, ?_, e3, e4⟩
      rw [e2, List.length_cons]; omega
section S1
variable {R : azP} {D d n z : Nat} {kd : azK} {I : azI} {J : azJ} {F : azR} {Q : azQ} {a r : Nat} {kb : Nat} {cs l1 l2 : List Cls} {c : Cls}
/-- where a take's clause stands, and what it says -/
theorem cR.tk (hc : cR I r cs []) (ho : rlOK cs) {j : Nat} (hj : j < nTk cs) : ∃ q, q < 12 ∧ I (r + 6) j = nI q ∧ I (r + 2) q = nI (tkP cs j) ∧ I (r + 3) q = nI (tkN cs j) ∧ tkP cs j < 10 ∧ tkN cs j < 3 := by
  obtain ⟨l1, c, l2, e1, e2, e3, e4⟩ := rIdx_at 0 cs 0 j hj
  have hl := ho.1
  have h6 := hc.2.2.2.2.2.2.2.2.2.2.2.1.get hj
  have hcl := ho.2.2.2.2.2.2 c (by rw [e1]; simp)
  rw [e2, Nat.zero_add] at h6
  have hc' : cR I r (l1 ++ c :: l2) [] := by rw [← e1]; exact hc
  have hp := hc'.place
  have hw := hc'.name
  unfold cPl at hp
  unfold cW at hw
  rw [if_neg (by omega)] at hp
  rw [if_pos e3] at hw
  refine ⟨l1.length, ?_, h6, ?_, ?_, ?_, ?_⟩
  · rw [e1, List.length_append, List.length_cons] at hl; omega
  · unfold tkP; rw [e4]; exact hp
  · unfold tkN; rw [e4]; exact hw
  · unfold tkP; rw [e4]; exact hcl.2.1
  · unfold tkN; rw [e4]; exact hcl.2.2.1
/-- whether a token is one of those chosen -/
def tknB (cs : List Cls) (ch : Nat → Nat) (p i : Nat) : Bool := (List.range (nTk cs)).any fun h => decide (tkP cs h = p) && decide (ch h = i)
theorem S_isTaken (hR : azClosed R) (hF : FiOk kd F a) (hM : RuOk kd F r) (hc : cR I r cs []) (ho : rlOK cs) {ch : Nat → Nat} (hch : ∀ h, h < nTk cs → I (a + 1) h = nI (ch h) ∧ ch h < 6) {p i : Nat} (hp : p < 10) (hi : i < 6) (h : Q (some (.int (nI (if tknB cs ch p i then 1 else 0)))) ((n, z, kd), I, J, F)) : R (d + 1) mX1_isTaken 0 [.ref a, .ref r, .int (nI p), .int (nI i), .retAddr 0] [] ((n, z, kd), I, J, F) Q := by
  have ⟨k0, k1, k2, k3, f0, f1, f2⟩ := hF
  have h3 : nTk cs ≤ 3 := ho.2.2.2.1
  have e1 : I r 1 = nI (nTk cs) := hc.2.1
  have main : ∀ m k, m + k = nTk cs → (∀ h, h < k → ¬ (tkP cs h = p ∧ ch h = i)) → R (d + 1) mX1_isTaken 3 [.ref a, .ref r, .int (nI p), .int (nI i), .int (nI k)] [] ((n, z, kd), I, J, F) Q := by
    intro m
    induction m with
    | zero =>
      intro k hk hn
      obtain rfl : k = nTk cs := by omega
      have ef : tknB cs ch p i = false := by
        unfold tknB
        rw [List.any_eq_false]
        intro x hx
        have := hn x (List.mem_range.mp hx)
        simpa using this
      rw [ef, if_neg (by decide)] at h
      refine BX1_isTaken_3 hR ?_
      simp (disch := omega) only [nI_ad, nI_ml, nI_lti, nI_lei, nI_eqi, nI_nn, nI_0le, nI_eq0, nI_0lt, nI_le0, nI_clamp, nI_pd, nI_sb, zOf_some, zOp_some, zOp_none, kI_int, kL_long, kO_ref, kO_null, nlt_T, nlt_F, nle_T, nle_F, neq_F, vpT, azUp_at, if_true, if_false, true_and, and_true, true_implies, false_implies, implies_true, not_true_eq_false, not_false_eq_true, true_or, or_true, false_or, or_false, and_false, false_and, eq_self, n01_0, n01_1, nm1_0, hM.1, e1]
      exact h
    | succ m ih =>
      intro k hk hn
      obtain ⟨q, q1, q2, q3, q4, q5, q6⟩ := hc.tk ho (j := k) (by omega)
      obtain ⟨c1, c2⟩ := hch k (by omega)
      refine BX1_isTaken_3 hR ?_
      simp (disch := omega) only [nI_ad, nI_ml, nI_lti, nI_lei, nI_eqi, nI_nn, nI_0le, nI_eq0, nI_0lt, nI_le0, nI_clamp, nI_pd, nI_sb, zOf_some, zOp_some, zOp_none, kI_int, kL_long, kO_ref, kO_null, nlt_T, nlt_F, nle_T, nle_F, neq_F, vpT, azUp_at, if_true, if_false, true_and, and_true, true_implies, false_implies, implies_true, not_true_eq_false, not_false_eq_true, true_or, or_true, false_or, or_false, and_false, false_and, eq_self, n01_0, n01_1, nm1_0, hM.1, e1]
      refine S_takeClause hR hM (by omega) ?_
      rw [q2]
      simp (disch := omega) only [nI_ad, nI_ml, nI_lti, nI_lei, nI_eqi, nI_nn, nI_0le, nI_eq0, nI_0lt, nI_le0, nI_clamp, nI_pd, nI_sb, zOf_some, zOp_some, zOp_none, kI_int, kL_long, kO_ref, kO_null, nlt_T, nlt_F, nle_T, nle_F, neq_F, vpT, azUp_at, if_true, if_false, true_and, and_true, true_implies, false_implies, implies_true, not_true_eq_false, not_false_eq_true, true_or, or_true, false_or, or_false, and_false, false_and, eq_self, n01_0, n01_1, nm1_0, hM.1]
      refine S_place hR hM q1 ?_
      rw [q3]
      have et : (tkP cs k = p ∧ ch k = i) → tknB cs ch p i = true := fun hh => by
        unfold tknB
        rw [List.any_eq_true]
        exact ⟨k, List.mem_range.mpr (by omega), by simp [hh]⟩
      by_cases x1 : tkP cs k = p
      · by_cases x2 : ch k = i
        · rw [et ⟨x1, x2⟩, if_pos rfl] at h
          simp (disch := omega) only [nI_ad, nI_ml, nI_lti, nI_lei, nI_eqi, nI_nn, nI_0le, nI_eq0, nI_0lt, nI_le0, nI_clamp, nI_pd, nI_sb, zOf_some, zOp_some, zOp_none, kI_int, kL_long, kO_ref, kO_null, nlt_T, nlt_F, nle_T, nle_F, neq_F, vpT, azUp_at, if_true, if_false, true_and, and_true, true_implies, false_implies, implies_true, not_true_eq_false, not_false_eq_true, true_or, or_true, false_or, or_false, and_false, false_and, eq_self, n01_0, n01_1, nm1_0, x1, x2, k0, f0, k1, c1]
          exact h
        · simp (disch := omega) only [nI_ad, nI_ml, nI_lti, nI_lei, nI_eqi, nI_nn, nI_0le, nI_eq0, nI_0lt, nI_le0, nI_clamp, nI_pd, nI_sb, zOf_some, zOp_some, zOp_none, kI_int, kL_long, kO_ref, kO_null, nlt_T, nlt_F, nle_T, nle_F, neq_F, vpT, azUp_at, if_true, if_false, true_and, and_true, true_implies, false_implies, implies_true, not_true_eq_false, not_false_eq_true, true_or, or_true, false_or, or_false, and_false, false_and, eq_self, n01_0, n01_1, nm1_0, x1, x2, k0, f0, k1, c1]
          exact ih (k + 1) (by omega) fun h hh => by
            by_cases e : h = k
            · subst e; exact fun hx => x2 hx.2
            · exact hn h (by omega)
      · simp (disch := omega) only [nI_ad, nI_ml, nI_lti, nI_lei, nI_eqi, nI_nn, nI_0le, nI_eq0, nI_0lt, nI_le0, nI_clamp, nI_pd, nI_sb, zOf_some, zOp_some, zOp_none, kI_int, kL_long, kO_ref, kO_null, nlt_T, nlt_F, nle_T, nle_F, neq_F, vpT, azUp_at, if_true, if_false, true_and, and_true, true_implies, false_implies, implies_true, not_true_eq_false, not_false_eq_true, true_or, or_true, false_or, or_false, and_false, false_and, eq_self, n01_0, n01_1, nm1_0, x1]
        exact ih (k + 1) (by omega) fun h hh => by
          by_cases e : h = k
          · subst e; exact fun hx => x1 hx.1
          · exact hn h (by omega)
  exact BX1_isTaken_0 hR (main (nTk cs) 0 rfl fun h hh => absurd hh (Nat.not_lt_zero _))
end S1
