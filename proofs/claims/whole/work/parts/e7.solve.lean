/-! BALANCE: the class's elimination. -/
/-- the rows at the start are the parts' changes, in some order -/
def TP (rs : Nat → Option (List Cls)) (T : Nat → T3) : Prop := (∀ i, i < 10 → T i = ((10, 10), (10, 10), (10, 10)) ∨ ∃ j, j < 10 ∧ T i = chP rs j) ∧ ∀ j, j < 10 → rs j ≠ none → ∃ i, i < 10 ∧ T i = chP rs j
/-- so many places are passed; a leader's place tells its row -/
def cL (f : Nat → Int32) (k p : Nat) (lc : Nat → Nat) : Prop := ∀ q, q < p → (∀ a, a < k → lc a = q → f q = nI a) ∧ ((∀ a, a < k → lc a ≠ q) → f q = -(nI 1))
def SV (rs : Nat → Option (List Cls)) (T : Nat → T3) (V : Nat → Rw) (k : Nat) (lc : Nat → Nat) : Prop := EI (fun i => d3 (T i)) V k 10 lc ∧ k ≤ 10 ∧ TP rs T
def swq (r k i : Nat) : Nat := if i = r then k else if i = k then r else i
theorem swp_k {r k : Nat} : swq r k k = r := by
  unfold swq
  by_cases e : k = r
  · rw [if_pos e]; exact e
  · rw [if_neg e, if_pos rfl]
theorem swp_r {r k : Nat} : swq r k r = k := by
  unfold swq
  rw [if_pos rfl]
theorem swp_o {r k i : Nat} (h1 : i ≠ r) (h2 : i ≠ k) : swq r k i = i := by
  unfold swq
  rw [if_neg h1, if_neg h2]
theorem swp_lt {r k i : Nat} (hr : r < 10) (hk : k < 10) (hi : i < 10) : swq r k i < 10 := by
  unfold swq
  split
  · exact hk
  · split
    · exact hr
    · exact hi
theorem swp_swp {r k i : Nat} : swq r k (swq r k i) = i := by
  by_cases e1 : i = r
  · rw [e1, swp_r, swp_k]
  · by_cases e2 : i = k
    · rw [e2, swp_k, swp_r]
    · rw [swp_o e1 e2, swp_o e1 e2]
theorem TP.swp {rs : Nat → Option (List Cls)} {T : Nat → T3} {r k : Nat} (h : TP rs T) (hr : r < 10) (hk : k < 10) : TP rs fun i => T (swq r k i) := ⟨fun i hi => h.1 _ (swp_lt hr hk hi), fun j hj hn => by
  obtain ⟨i, h1, h2⟩ := h.2 j hj hn
  exact ⟨swq r k i, swp_lt hr hk h1, by dsimp only; rw [swp_swp]; exact h2⟩⟩
theorem EI.swp {A V : Nat → Rw} {k p r : Nat} {lc : Nat → Nat} (h : EI A V k p lc) (hr : r < 10) (hk : k ≤ r) : EI (fun i => A (swq r k i)) (fun i => V (swq r k i)) k p lc := by
  refine h.perm (swq r k) (fun i hi => swp_o (by omega) (by omega)) (fun i h1 h2 => ⟨?_, swp_lt hr (by omega) h2⟩) (fun i hi => ⟨swq r k i, swp_lt hr (by omega) hi, swp_swp⟩) (by omega)
  by_cases e1 : i = r
  · rw [e1, swp_r]; omega
  · by_cases e2 : i = k
    · rw [e2, swp_k]; exact hk
    · rw [swp_o e1 e2]; exact h1
theorem cL.skip {f : Nat → Int32} {k p : Nat} {lc : Nat → Nat} (h : cL f k p lc) (hl : ∀ a, a < k → lc a < p) {g : Nat → Int32} (hg : ∀ q, q < p → g q = f q) (hp : g p = -(nI 1)) : cL g k (p + 1) lc := fun q hq => by
  by_cases e : q = p
  · rw [e]
    exact ⟨fun a ha ea => absurd (hl a ha) (by omega), fun _ => hp⟩
  · rw [hg q (by omega)]
    exact h q (by omega)
theorem cL.lead {f : Nat → Int32} {k p : Nat} {lc : Nat → Nat} (h : cL f k p lc) (hl : ∀ a, a < k → lc a < p) {g : Nat → Int32} (hg : ∀ q, q < p → g q = f q) (hp : g p = nI k) : cL g (k + 1) (p + 1) (fun a => if a = k then p else lc a) := fun q hq => by
  by_cases e : q = p
  · subst e
    refine ⟨fun a ha ea => ?_, fun hn => absurd (if_pos rfl) (hn k (by omega))⟩
    dsimp only at ea
    by_cases ek : a = k
    · rw [ek]; exact hp
    · rw [if_neg ek] at ea
      have := hl a (by omega)
      omega
  · rw [hg q (by omega)]
    obtain ⟨h1, h2⟩ := h q (by omega)
    refine ⟨fun a ha ea => ?_, fun hn => h2 fun a ha ea => hn a (by omega) ?_⟩
    · dsimp only at ea
      by_cases ek : a = k
      · rw [if_pos ek] at ea; omega
      · rw [if_neg ek] at ea
        exact h1 a (by omega) ea
    · dsimp only
      rw [if_neg (by omega)]
      exact ea
theorem d3_bd3 {t : T3} {p : Nat} : -3 ≤ d3 t p ∧ d3 t p ≤ 3 := by
  have g : ∀ a b : Nat, -1 ≤ dfr a b p ∧ dfr a b p ≤ 1 := fun a b => by
    unfold dfr
    split <;> split <;> omega
  have h1 := g t.1.1 t.1.2
  have h2 := g t.2.1.1 t.2.1.2
  have h3 := g t.2.2.1 t.2.2.2
  unfold d3
  omega
theorem i64_of {x : Int} (h : -59049 ≤ x ∧ x ≤ 59049) : (Int32.ofInt x).toInt64 = lO x := by
  rw [← Int64.toInt_inj, Int32.toInt_toInt64, Int32.toInt_ofInt_of_le (by omega) (by omega), lO_toInt (sml_of h)]
section SB
variable {R : azP} {d n z : Nat} {kd : azK} {I : azI} {J : azJ} {F : azR} {Q : azQ} {ru : Ru}
theorem L_solve67 (hR : azClosed R) (hB : BlOk kd F 220) {rs : Nat → Option (List Cls)} (h : ∀ I' J' T V k lc, (∀ b, b ≠ 222 → I' b = I b) → (∀ b, b ≠ 221 → J' b = J b) → SV rs T V k lc → (∀ i, i < 10 → okR (V i)) → cZ J' V → cL (I' 222) k 10 lc → Q none ((n, z, kd), I', J', F)) : ∀ s p (I1 : azI) (J1 : azJ) (T : Nat → T3) (V : Nat → Rw) (k : Nat) (lc : Nat → Nat) (w : Value), s + p = 10 → k ≤ p → (∀ b, b ≠ 222 → I1 b = I b) → (∀ b, b ≠ 221 → J1 b = J b) → EI (fun i => d3 (T i)) V k p lc → TP rs T → (∀ i, i < 10 → okR (V i)) → cZ J1 V → cL (I1 222) k p lc → R (d + 4) mX0_solve 67 [.ref 220, .ref 10, .int (nI k), .int (nI p), w] [] ((n, z, kd), I1, J1, F) Q := by
  have ⟨k0, k1, k2, f0, f1⟩ := id hB
  intro s
  induction s with
  | zero =>
    intro p I1 J1 T V k lc w hp hk g1 g2 g3 g4 g5 g6 g7
    obtain rfl : p = 10 := by omega
    refine BX0_solve_67 hR ?_
    simp (disch := omega) only [nI_ad, nI_ml, nI_lti, nI_lei, nI_eqi, nI_nn, nI_0le, nI_eq0, nI_0lt, nI_le0, nI_clamp, nI_pd, nI_sb, zOf_some, zOp_some, zOp_none, kI_int, kL_long, kO_ref, kO_null, nlt_T, nlt_F, nle_T, nle_F, neq_F, vpT, azUp_at, if_true, if_false, true_and, and_true, true_implies, false_implies, implies_true, not_true_eq_false, not_false_eq_true, true_or, or_true, false_or, or_false, and_false, false_and, eq_self, n01_0, n01_1, nm1_0]
    exact h I1 J1 T V k lc g1 g2 ⟨g3, hk, g4⟩ g5 g6 g7
  | succ s ih =>
    intro p I1 J1 T V k lc w hp hk g1 g2 g3 g4 g5 g6 g7
    have hp10 : p < 10 := by omega
    have hl := g3.1
    have bd := fun i hi => g3.bound (by omega) (by omega) hi (g5 i hi)
    refine BX0_solve_67 hR ?_
    simp (disch := omega) only [nI_ad, nI_ml, nI_lti, nI_lei, nI_eqi, nI_nn, nI_0le, nI_eq0, nI_0lt, nI_le0, nI_clamp, nI_pd, nI_sb, zOf_some, zOp_some, zOp_none, kI_int, kL_long, kO_ref, kO_null, nlt_T, nlt_F, nle_T, nle_F, neq_F, vpT, azUp_at, if_true, if_false, true_and, and_true, true_implies, false_implies, implies_true, not_true_eq_false, not_false_eq_true, true_or, or_true, false_or, or_false, and_false, false_and, eq_self, n01_0, n01_1, nm1_0, k0]
    refine S_rowWith hR hB g6 hp10 (by omega) (fun i hi => sml_of (bd i hi p hp10)) (fun hz => ?_) (fun r r1 r2 r3 _ => ?_)
    · simp (disch := omega) only [nI_ad, nI_ml, nI_lti, nI_lei, nI_eqi, nI_nn, nI_0le, nI_eq0, nI_0lt, nI_le0, nI_clamp, nI_pd, nI_sb, zOf_some, zOp_some, zOp_none, kI_int, kL_long, kO_ref, kO_null, nlt_T, nlt_F, nle_T, nle_F, neq_F, vpT, azUp_at, if_true, if_false, true_and, and_true, true_implies, false_implies, implies_true, not_true_eq_false, not_false_eq_true, true_or, or_true, false_or, or_false, and_false, false_and, eq_self, n01_0, n01_1, nm1_0, k0, f1, k2]
      refine ih (p + 1) _ J1 T V k lc _ (by omega) (by omega) (fun b hb => by rw [azUp_nb hb]; exact g1 b hb) g2 (g3.skip hz) g4 g5 g6 (g7.skip hl (fun q hq => by rw [azUp_nk (by omega)]) (by rw [azUp_s]))
    · have hk10 : k < 10 := by omega
      have rne : ¬ nI r = -(nI 1) := by
        rw [show (-(nI 1)) = -(nI 1) from rfl]
        exact fun e => by
          have := congrArg Int32.toInt e
          rw [nI_toInt (by omega)] at this
          have e1 : (-(nI 1)).toInt = -1 := by decide
          rw [e1] at this
          omega
      simp (disch := omega) only [nI_ad, nI_ml, nI_lti, nI_lei, nI_eqi, nI_nn, nI_0le, nI_eq0, nI_0lt, nI_le0, nI_clamp, nI_pd, nI_sb, zOf_some, zOp_some, zOp_none, kI_int, kL_long, kO_ref, kO_null, nlt_T, nlt_F, nle_T, nle_F, neq_F, vpT, azUp_at, if_true, if_false, true_and, and_true, true_implies, false_implies, implies_true, not_true_eq_false, not_false_eq_true, true_or, or_true, false_or, or_false, and_false, false_and, eq_self, n01_0, n01_1, nm1_0, k0, f1, k2, rne]
      refine S_swapRows hR hB g6 r2 hk10 fun J2 u1 u2 => ⟨rfl, k0, ?_⟩
      have u2' : cZ J2 (fun i => V (swq r k i)) := u2.cong fun i q hi hq => by
        by_cases e1 : i = r
        · rw [if_pos e1, e1, swp_r]
        · rw [if_neg e1]
          by_cases e2 : i = k
          · rw [if_pos e2, e2, swp_k]
          · rw [if_neg e2, swp_o e1 e2]
      have g3' := g3.swp r2 r1
      have g5' : ∀ i, i < 10 → okR (V (swq r k i)) := fun i hi => g5 _ (swp_lt r2 hk10 hi)
      have bd' := fun i (hi : i < 10) => bd (swq r k i) (swp_lt r2 hk10 hi)
      refine S_clearOthers hR hB u2' hk10 hp10 (fun i hi => sml_of (bd' i hi p hp10)) (fun i hi _ q hq => sml_mm (bd' i hi q hq) (bd' k hk10 p hp10) (bd' k hk10 q hq) (bd' i hi p hp10)) fun J3 v1 v2 => ⟨rfl, ?_⟩
      simp (disch := omega) only [nI_ad, nI_ml, nI_lti, nI_lei, nI_eqi, nI_nn, nI_0le, nI_eq0, nI_0lt, nI_le0, nI_clamp, nI_pd, nI_sb, zOf_some, zOp_some, zOp_none, kI_int, kL_long, kO_ref, kO_null, nlt_T, nlt_F, nle_T, nle_F, neq_F, vpT, azUp_at, if_true, if_false, true_and, and_true, true_implies, false_implies, implies_true, not_true_eq_false, not_false_eq_true, true_or, or_true, false_or, or_false, and_false, false_and, eq_self, n01_0, n01_1, nm1_0, k0, f1, k2]
      refine ih (p + 1) _ J3 (fun i => T (swq r k i)) _ (k + 1) _ _ (by omega) (by omega) (fun b hb => by rw [azUp_nb hb, azUp_nb hb]; exact g1 b hb) (fun b hb => by rw [v1 b hb, u1 b hb]; exact g2 b hb) (g3'.class_step hk10 hp10 (by rw [swp_k]; exact r3)) (g4.swp r2 hk10) (fun i hi => clO_ok (g5' i hi)) v2 (g7.lead hl (fun q hq => by rw [azUp_nk (by omega), azUp_nk (by omega)]) (by rw [azUp_s]))
theorem S_solve (hR : azClosed R) (hB : BlOk kd F 220) (hG : RsOk kd I F 255 10 (rsOf ru)) (h : ∀ I' J' T V k lc, (∀ b, b ≠ 222 → I' b = I b) → (∀ b, b ≠ 221 → J' b = J b) → SV (rsOf ru) T V k lc → (∀ i, i < 10 → okR (V i)) → cZ J' V → cL (I' 222) k 10 lc → Q none ((n, z, kd), I', J', F)) : R (d + 4) mX0_solve 0 [.ref 220, .ref 10, .retAddr 0, .retAddr 0, .retAddr 0] [] ((n, z, kd), I, J, F) Q := by
  have ⟨k0, k1, k2, f0, f1⟩ := id hB
  have kg := hG.1
  have last := fun J1 (hf : ∀ b, b ≠ 221 → J1 b = J b) (hz : cZ J1 fun i => d3 (chP (rsOf ru) i)) (w : Value) => L_solve67 (d := d) hR hB h 10 0 I J1 (chP (rsOf ru)) (fun i => d3 (chP (rsOf ru) i)) 0 (fun _ => 0) w rfl (Nat.le_refl 0) (fun _ _ => rfl) hf (EI.start fun _ => rfl) ⟨fun i hi => Or.inr ⟨i, hi, rfl⟩, fun i hi _ => ⟨i, hi, rfl⟩⟩ (fun i hi => Or.inl fun j _ => d3_bd3) hz fun q hq => absurd hq (Nat.not_lt_zero _)
  have main : ∀ s i (J1 : azJ) (w : Value), s + i = 10 → (∀ b, b ≠ 221 → J1 b = J b) → (∀ x q, x < i → q < 10 → J1 221 (10 * x + q) = lO (d3 (chP (rsOf ru) x) q)) → R (d + 4) mX0_solve 2 [.ref 220, .ref 10, .int (nI i), w, .retAddr 0] [] ((n, z, kd), I, J1, F) Q := by
    intro s
    induction s with
    | zero =>
      intro i J1 w hi hf hc
      obtain rfl : i = 10 := by omega
      refine BX0_solve_2 hR ?_
      simp (disch := omega) only [nI_ad, nI_ml, nI_lti, nI_lei, nI_eqi, nI_nn, nI_0le, nI_eq0, nI_0lt, nI_le0, nI_clamp, nI_pd, nI_sb, zOf_some, zOp_some, zOp_none, kI_int, kL_long, kO_ref, kO_null, nlt_T, nlt_F, nle_T, nle_F, neq_F, vpT, azUp_at, if_true, if_false, true_and, and_true, true_implies, false_implies, implies_true, not_true_eq_false, not_false_eq_true, true_or, or_true, false_or, or_false, and_false, false_and, eq_self, n01_0, n01_1, nm1_0]
      exact last J1 hf (fun x hx q hq => hc x q hx hq) _
    | succ s ih =>
      intro i J1 w hi hf hc
      have hi10 : i < 10 := by omega
      refine BX0_solve_2 hR ?_
      simp (disch := omega) only [nI_ad, nI_ml, nI_lti, nI_lei, nI_eqi, nI_nn, nI_0le, nI_eq0, nI_0lt, nI_le0, nI_clamp, nI_pd, nI_sb, zOf_some, zOp_some, zOp_none, kI_int, kL_long, kO_ref, kO_null, nlt_T, nlt_F, nle_T, nle_F, neq_F, vpT, azUp_at, if_true, if_false, true_and, and_true, true_implies, false_implies, implies_true, not_true_eq_false, not_false_eq_true, true_or, or_true, false_or, or_false, and_false, false_and, eq_self, n01_0, n01_1, nm1_0, kg]
      have inner : ∀ s q (J2 : azJ), s + q = 10 → (∀ b, b ≠ 221 → J2 b = J b) → (∀ x y, x < 10 → y < 10 → 10 * x + y < 10 * i + q → J2 221 (10 * x + y) = lO (d3 (chP (rsOf ru) x) y)) → R (d + 4) mX0_solve 16 [.ref 220, .ref 10, .int (nI i), .int (nI q), .retAddr 0] [] ((n, z, kd), I, J2, F) Q := by
        intro s
        induction s with
        | zero =>
          intro q J2 hq hf2 hc2
          obtain rfl : q = 10 := by omega
          refine BX0_solve_16 hR ?_
          simp (disch := omega) only [nI_ad, nI_ml, nI_lti, nI_lei, nI_eqi, nI_nn, nI_0le, nI_eq0, nI_0lt, nI_le0, nI_clamp, nI_pd, nI_sb, zOf_some, zOp_some, zOp_none, kI_int, kL_long, kO_ref, kO_null, nlt_T, nlt_F, nle_T, nle_F, neq_F, vpT, azUp_at, if_true, if_false, true_and, and_true, true_implies, false_implies, implies_true, not_true_eq_false, not_false_eq_true, true_or, or_true, false_or, or_false, and_false, false_and, eq_self, n01_0, n01_1, nm1_0]
          exact ih (i + 1) J2 _ (by omega) hf2 fun x y hx hy => hc2 x y (by omega) hy (by omega)
        | succ s ih2 =>
          intro q J2 hq hf2 hc2
          have hq10 : q < 10 := by omega
          have hb : i * 10 + q < 100 := by omega
          have next : ∀ v, v = d3 (chP (rsOf ru) i) q → R (d + 4) mX0_solve 16 [.ref 220, .ref 10, .int (nI i), .int (nI (q + 1)), .retAddr 0] [] ((n, z, kd), I, azUp J2 221 (i * 10 + q) (lO v), F) Q := fun v hv => ih2 (q + 1) _ (by omega) (fun b hb => by rw [upJ_nb hb]; exact hf2 b hb) fun x y hx hy hlt => by
            by_cases e : x = i ∧ y = q
            · rw [e.1, e.2, Nat.mul_comm 10 i, upJ_s, hv]
            · have : 10 * x + y ≠ i * 10 + q := fun h => e ⟨by omega, by omega⟩
              rw [upJ_nk this]
              exact hc2 x y hx hy (by omega)
          refine BX0_solve_16 hR ?_
          rcases hG.cases hi10 with ⟨e1, e2⟩ | ⟨t, cs, r, e1, e2, e3, e4, e5, e6, e7⟩
          · simp (disch := omega) only [nI_ad, nI_ml, nI_lti, nI_lei, nI_eqi, nI_nn, nI_0le, nI_eq0, nI_0lt, nI_le0, nI_clamp, nI_pd, nI_sb, zOf_some, zOp_some, zOp_none, kI_int, kL_long, kO_ref, kO_null, nlt_T, nlt_F, nle_T, nle_F, neq_F, vpT, azUp_at, if_true, if_false, true_and, and_true, true_implies, false_implies, implies_true, not_true_eq_false, not_false_eq_true, true_or, or_true, false_or, or_false, and_false, false_and, eq_self, n01_0, n01_1, nm1_0, k0, f0, k1, kg, e2]
            refine next 0 ?_
            unfold chP rsOf
            rw [e1]
            exact d3_none.symm
          · have k5 := e5.1
            simp (disch := omega) only [nI_ad, nI_ml, nI_lti, nI_lei, nI_eqi, nI_nn, nI_0le, nI_eq0, nI_0lt, nI_le0, nI_clamp, nI_pd, nI_sb, zOf_some, zOp_some, zOp_none, kI_int, kL_long, kO_ref, kO_null, nlt_T, nlt_F, nle_T, nle_F, neq_F, vpT, azUp_at, if_true, if_false, true_and, and_true, true_implies, false_implies, implies_true, not_true_eq_false, not_false_eq_true, true_or, or_true, false_or, or_false, and_false, false_and, eq_self, n01_0, n01_1, nm1_0, k0, f0, k1, kg, e3, k5]
            refine S_changeOf hR e5 hq10 e6 e7.1 (fun c hc => ⟨(e7.2.2.2.2.2.2 c hc).1, (e7.2.2.2.2.2.2 c hc).2.1, (e7.2.2.2.2.2.2 c hc).2.2.1⟩) ?_
            have b3 := rChg_3 e7 hq10
            simp (disch := omega) only [nI_ad, nI_ml, nI_lti, nI_lei, nI_eqi, nI_nn, nI_0le, nI_eq0, nI_0lt, nI_le0, nI_clamp, nI_pd, nI_sb, zOf_some, zOp_some, zOp_none, kI_int, kL_long, kO_ref, kO_null, nlt_T, nlt_F, nle_T, nle_F, neq_F, vpT, azUp_at, if_true, if_false, true_and, and_true, true_implies, false_implies, implies_true, not_true_eq_false, not_false_eq_true, true_or, or_true, false_or, or_false, and_false, false_and, eq_self, n01_0, n01_1, nm1_0, k1]
            rw [i64_of (by omega)]
            refine next _ ?_
            unfold chP
            rw [e2]
            exact (chT3_eq e7 hq10).symm
      exact inner 10 0 J1 rfl hf fun x y hx hy hlt => hc x y (by omega) hy
  refine BX0_solve_0 hR ?_
  exact main 10 0 J _ rfl (fun _ _ => rfl) fun x q hx => absurd hx (Nat.not_lt_zero _)
end SB
