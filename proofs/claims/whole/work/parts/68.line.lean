/-! SPECS: Paper.writeMarking. -/
def lnTk : Nat → List Nat → List Nat
  | _, [] => []
  | i, x :: l => ((if i = 0 then 61 else 44) :: numTx x) ++ lnTk (i + 1) l
def lnP (m : Nat → List Nat) (p : Nat) (acc : List Nat) : List Nat := if m p = [] then acc else acc ++ (if acc = [] then [] else [32]) ++ [80] ++ numTx p ++ lnTk 0 (m p)
/-- the line of a marking, its first p places -/
def lnT (m : Nat → List Nat) : Nat → List Nat
  | 0 => []
  | p + 1 => lnP m p (lnT m p)
theorem lnTk_len : ∀ (l : List Nat) (i : Nat), (lnTk i l).length ≤ 3 * l.length := by
  intro l
  induction l with
  | nil => intro i; exact Nat.le_refl _
  | cons x l ih =>
    intro i
    have := ih (i + 1)
    have := (numTx_len (n := x)).2
    unfold lnTk
    simp only [List.length_append, List.length_cons]
    omega
theorem lnP_len {m : Nat → List Nat} (hv : mOK m) {p : Nat} {acc : List Nat} : (lnP m p acc).length ≤ acc.length + 22 := by
  unfold lnP
  by_cases c : m p = []
  · rw [if_pos c]; omega
  · rw [if_neg c]
    have h1 := lnTk_len (m p) 0
    have h2 := (hv.1 p).1
    have h3 := (numTx_len (n := p)).2
    have h4 : (if acc = [] then ([] : List Nat) else [32]).length ≤ 1 := by split <;> simp
    simp only [List.length_append, List.length_cons, List.length_nil]
    omega
theorem lnT_len {m : Nat → List Nat} (hv : mOK m) : ∀ p, (lnT m p).length ≤ 22 * p
  | 0 => Nat.le_refl _
  | p + 1 => by
    have h1 := lnT_len hv p
    have h2 := lnP_len hv (p := p) (acc := lnT m p)
    unfold lnT
    omega
section S4
variable {R : azP} {d n z : Nat} {kd : azK} {I : azI} {J : azJ} {F : azR} {Q : azQ} {a b : Nat} {t : List Nat} {m : Nat → List Nat}
theorem S_writeMarking (hR : azClosed R) (hM : PpOk kd F a) (hK : MkOk kd F b) (hab : b + 2 < a ∨ a + 3 < b) (hm : cM I b m) (hv : mOK m) (h : ∀ I', cP I' a (lnT m 10) → (∀ c, c ≠ a → c ≠ a + 1 → I' c = I c) → Q none ((n, z, kd), I', J, F)) : R (d + 2) mX4_writeMarking 0 [.ref a, .ref b, .retAddr 0, .retAddr 0] [] ((n, z, kd), I, J, F) Q := by
  have k0 := hM.1
  have kb3 : (kd b).1 = 3 := by rw [hK.1]
  have key : ∀ I', (∀ c, c ≠ a → c ≠ a + 1 → I' c = I c) → cM I' b m := fun I' hf => hm.keep (hf _ (by omega) (by omega)) (hf _ (by omega) (by omega))
  have main : ∀ s p (I1 : azI) (w : Value), s + p = 10 → cP I1 a (lnT m p) → (∀ c, c ≠ a → c ≠ a + 1 → I1 c = I c) → R (d + 2) mX4_writeMarking 7 [.ref a, .ref b, .int (nI p), w] [] ((n, z, kd), I1, J, F) Q := by
    intro s
    induction s with
    | zero =>
      intro p I1 w hp hc hf
      obtain rfl : p = 10 := by omega
      refine BX4_writeMarking_7 hR ?_
      simp (disch := omega) only [nI_ad, nI_ml, nI_lti, nI_lei, nI_eqi, nI_nn, nI_0le, nI_eq0, nI_0lt, nI_le0, nI_clamp, nI_pd, nI_sb, zOf_some, zOp_some, zOp_none, kI_int, kL_long, kO_ref, kO_null, nlt_T, nlt_F, nle_T, nle_F, neq_F, vpT, azUp_at, if_true, if_false, true_and, and_true, true_implies, false_implies, implies_true, not_true_eq_false, not_false_eq_true, true_or, or_true, false_or, or_false, and_false, false_and, eq_self, n01_0, n01_1, nm1_0]
      exact h I1 hc hf
    | succ s ih =>
      intro p I1 w hp hc hf
      have hp10 : p < 10 := by omega
      have hl := lnT_len hv p
      have hl6 := (hv.1 p).1
      refine BX4_writeMarking_7 hR ?_
      simp (disch := omega) only [nI_ad, nI_ml, nI_lti, nI_lei, nI_eqi, nI_nn, nI_0le, nI_eq0, nI_0lt, nI_le0, nI_clamp, nI_pd, nI_sb, zOf_some, zOp_some, zOp_none, kI_int, kL_long, kO_ref, kO_null, nlt_T, nlt_F, nle_T, nle_F, neq_F, vpT, azUp_at, if_true, if_false, true_and, and_true, true_implies, false_implies, implies_true, not_true_eq_false, not_false_eq_true, true_or, or_true, false_or, or_false, and_false, false_and, eq_self, n01_0, n01_1, nm1_0, kb3]
      refine S_count hR hK (key I1 hf) hp10 ?_
      simp (disch := omega) only [nI_ad, nI_ml, nI_lti, nI_lei, nI_eqi, nI_nn, nI_0le, nI_eq0, nI_0lt, nI_le0, nI_clamp, nI_pd, nI_sb, zOf_some, zOp_some, zOp_none, kI_int, kL_long, kO_ref, kO_null, nlt_T, nlt_F, nle_T, nle_F, neq_F, vpT, azUp_at, if_true, if_false, true_and, and_true, true_implies, false_implies, implies_true, not_true_eq_false, not_false_eq_true, true_or, or_true, false_or, or_false, and_false, false_and, eq_self, n01_0, n01_1, nm1_0, k0, hc.1]
      by_cases ce : m p = []
      · have e1 : lnT m (p + 1) = lnT m p := by show lnP m p (lnT m p) = _; unfold lnP; rw [if_pos ce]
        rw [ce]
        simp (disch := omega) only [nI_ad, nI_ml, nI_lti, nI_lei, nI_eqi, nI_nn, nI_0le, nI_eq0, nI_0lt, nI_le0, nI_clamp, nI_pd, nI_sb, zOf_some, zOp_some, zOp_none, kI_int, kL_long, kO_ref, kO_null, nlt_T, nlt_F, nle_T, nle_F, neq_F, vpT, azUp_at, if_true, if_false, true_and, and_true, true_implies, false_implies, implies_true, not_true_eq_false, not_false_eq_true, true_or, or_true, false_or, or_false, and_false, false_and, eq_self, n01_0, n01_1, nm1_0, List.length_nil]
        exact ih (p + 1) I1 w (by omega) (by rw [e1]; exact hc) hf
      · have hpos : 0 < (m p).length := List.length_pos_iff.mpr ce
        have hx := neq_F (a := (m p).length) (b := 0) (Or.inr hpos)
        have hx' : ¬ ((m p).length ≤ 0) := by omega
        have e1 : lnT m (p + 1) = lnT m p ++ (if lnT m p = [] then [] else [32]) ++ [80] ++ numTx p ++ lnTk 0 (m p) := by show lnP m p (lnT m p) = _; unfold lnP; rw [if_neg ce]
        have hlen : (lnT m (p + 1)).length ≤ 220 := by have := lnT_len hv (p + 1); omega
        -- the tokens
        have inner : ∀ (rest pre : List Nat) (acc : List Nat) (I2 : azI), pre ++ rest = m p → acc ++ lnTk pre.length rest = lnT m (p + 1) → cP I2 a acc → (∀ c, c ≠ a → c ≠ a + 1 → I2 c = I c) → R (d + 2) mX4_writeMarking 50 [.ref a, .ref b, .int (nI p), .int (nI pre.length)] [] ((n, z, kd), I2, J, F) Q := by
          intro rest
          induction rest with
          | nil =>
            intro pre acc I2 f1 f2 f3 f4
            rw [List.append_nil] at f1
            refine BX4_writeMarking_50 hR ?_
            simp (disch := omega) only [nI_ad, nI_ml, nI_lti, nI_lei, nI_eqi, nI_nn, nI_0le, nI_eq0, nI_0lt, nI_le0, nI_clamp, nI_pd, nI_sb, zOf_some, zOp_some, zOp_none, kI_int, kL_long, kO_ref, kO_null, nlt_T, nlt_F, nle_T, nle_F, neq_F, vpT, azUp_at, if_true, if_false, true_and, and_true, true_implies, false_implies, implies_true, not_true_eq_false, not_false_eq_true, true_or, or_true, false_or, or_false, and_false, false_and, eq_self, n01_0, n01_1, nm1_0, kb3]
            refine S_count hR hK (key I2 f4) hp10 ?_
            rw [← f1]
            rw [← f1] at hl6
            simp (disch := omega) only [nI_ad, nI_ml, nI_lti, nI_lei, nI_eqi, nI_nn, nI_0le, nI_eq0, nI_0lt, nI_le0, nI_clamp, nI_pd, nI_sb, zOf_some, zOp_some, zOp_none, kI_int, kL_long, kO_ref, kO_null, nlt_T, nlt_F, nle_T, nle_F, neq_F, vpT, azUp_at, if_true, if_false, true_and, and_true, true_implies, false_implies, implies_true, not_true_eq_false, not_false_eq_true, true_or, or_true, false_or, or_false, and_false, false_and, eq_self, n01_0, n01_1, nm1_0]
            have f2 : acc = lnT m (p + 1) := by rw [← f2]; exact (List.append_nil _).symm
            exact ih (p + 1) I2 _ (by omega) (by rw [← f2]; exact f3) f4
          | cons x rest ihr =>
            intro pre acc I2 f1 f2 f3 f4
            have hlt : pre.length < (m p).length := by rw [← f1, List.length_append, List.length_cons]; omega
            have hx0 : (m p).getD pre.length 0 = x := by rw [← f1]; simp
            have hx100 : x < 100 := (hv.1 p).2 x (by rw [← f1]; simp)
            have ep : (pre ++ [x]).length = pre.length + 1 := by simp
            have hla : acc.length + 1 + (numTx x).length ≤ 220 := by
              rw [← f2] at hlen
              unfold lnTk at hlen
              simp only [List.length_append, List.length_cons] at hlen
              omega
            have step : ∀ (I3 : azI), cP I3 a (acc ++ [if pre.length = 0 then 61 else 44]) → (∀ c, c ≠ a → c ≠ a + 1 → I3 c = I2 c) → R (d + 1) mX3_at 0 [.ref b, .int (nI p), .int (nI pre.length)] [] ((n, z, kd), I3, J, F) fun v6 s7 => kI v6 fun r8 => ((s7.1.2.2 a).1 = 4 ∧ R (d + 1) mX4_writeNumber 0 [.ref a, .int r8] [] s7 fun v9 s10 => v9 = none ∧ R (d + 2) mX4_writeMarking 50 [.ref a, .ref b, .int (nI p), .int (nI (pre.length + 1))] [] s10 Q) := by
              intro I3 g1 g2
              have g3 : ∀ c, c ≠ a → c ≠ a + 1 → I3 c = I c := fun c h1 h2 => by rw [g2 c h1 h2, f4 c h1 h2]
              refine S_at hR hK (key I3 g3) hv ?_
              rw [atS_nI hv hp10 hlt, hx0]
              simp (disch := omega) only [nI_ad, nI_ml, nI_lti, nI_lei, nI_eqi, nI_nn, nI_0le, nI_eq0, nI_0lt, nI_le0, nI_clamp, nI_pd, nI_sb, zOf_some, zOp_some, zOp_none, kI_int, kL_long, kO_ref, kO_null, nlt_T, nlt_F, nle_T, nle_F, neq_F, vpT, azUp_at, if_true, if_false, true_and, and_true, true_implies, false_implies, implies_true, not_true_eq_false, not_false_eq_true, true_or, or_true, false_or, or_false, and_false, false_and, eq_self, n01_0, n01_1, nm1_0, k0]
              refine S_writeNumber hR hM g1 hx100 (by rw [List.length_append, List.length_cons, List.length_nil]; omega) fun I4 q1 q2 => ⟨rfl, ?_⟩
              rw [← ep]
              refine ihr (pre ++ [x]) _ I4 (by rw [← f1]; simp) ?_ q1 fun c h1 h2 => by rw [q2 c h1 h2, g3 c h1 h2]
              rw [ep, ← f2]
              simp [lnTk]
            refine BX4_writeMarking_50 hR ?_
            simp (disch := omega) only [nI_ad, nI_ml, nI_lti, nI_lei, nI_eqi, nI_nn, nI_0le, nI_eq0, nI_0lt, nI_le0, nI_clamp, nI_pd, nI_sb, zOf_some, zOp_some, zOp_none, kI_int, kL_long, kO_ref, kO_null, nlt_T, nlt_F, nle_T, nle_F, neq_F, vpT, azUp_at, if_true, if_false, true_and, and_true, true_implies, false_implies, implies_true, not_true_eq_false, not_false_eq_true, true_or, or_true, false_or, or_false, and_false, false_and, eq_self, n01_0, n01_1, nm1_0, kb3]
            refine S_count hR hK (key I2 f4) hp10 ?_
            simp (disch := omega) only [nI_ad, nI_ml, nI_lti, nI_lei, nI_eqi, nI_nn, nI_0le, nI_eq0, nI_0lt, nI_le0, nI_clamp, nI_pd, nI_sb, zOf_some, zOp_some, zOp_none, kI_int, kL_long, kO_ref, kO_null, nlt_T, nlt_F, nle_T, nle_F, neq_F, vpT, azUp_at, if_true, if_false, true_and, and_true, true_implies, false_implies, implies_true, not_true_eq_false, not_false_eq_true, true_or, or_true, false_or, or_false, and_false, false_and, eq_self, n01_0, n01_1, nm1_0, k0, kb3]
            refine ⟨fun e => ?_, fun e => ?_⟩
            · refine S_write hR hM f3 (by omega) (c := 44) fun I3 g1 g2 => ⟨rfl, kb3, step I3 ?_ g2⟩
              rw [if_neg e]; exact g1
            · refine S_write hR hM f3 (by omega) (c := 61) fun I3 g1 g2 => ⟨rfl, kb3, step I3 ?_ g2⟩
              rw [if_pos (Classical.not_not.mp e)]; exact g1
        have tail : ∀ (I2 : azI) (acc : List Nat), acc = lnT m p ++ (if lnT m p = [] then [] else [32]) → cP I2 a acc → (∀ c, c ≠ a → c ≠ a + 1 → I2 c = I c) → R (d + 1) mX4_write 0 [.ref a, .int (nI 80)] [] ((n, z, kd), I2, J, F) fun v10 s11 => v10 = none ∧ ((s11.1.2.2 a).1 = 4 ∧ R (d + 1) mX4_writeNumber 0 [.ref a, .int (nI p)] [] s11 fun v12 s13 => v12 = none ∧ R (d + 2) mX4_writeMarking 50 [.ref a, .ref b, .int (nI p), .int (nI 0)] [] s13 Q) := by
          intro I2 acc ea g1 g2
          have hal : acc.length ≤ 22 * p + 1 := by
            have h4 : (if lnT m p = [] then ([] : List Nat) else [32]).length ≤ 1 := by split <;> simp
            rw [ea, List.length_append]
            omega
          have hn := (numTx_len (n := p)).2
          refine S_write hR hM g1 (by omega) fun I3 q1 q2 => ⟨rfl, k0, ?_⟩
          refine S_writeNumber hR hM q1 (by omega) (by rw [List.length_append, List.length_cons, List.length_nil]; omega) fun I4 r1 r2 => ⟨rfl, ?_⟩
          refine inner (m p) [] _ I4 rfl ?_ r1 fun c h1 h2 => by rw [r2 c h1 h2, q2 c h1 h2, g2 c h1 h2]
          rw [e1, ea]
          rfl
        by_cases c0 : lnT m p = []
        · simp (disch := omega) only [nI_ad, nI_ml, nI_lti, nI_lei, nI_eqi, nI_nn, nI_0le, nI_eq0, nI_0lt, nI_le0, nI_clamp, nI_pd, nI_sb, zOf_some, zOp_some, zOp_none, kI_int, kL_long, kO_ref, kO_null, nlt_T, nlt_F, nle_T, nle_F, neq_F, vpT, azUp_at, if_true, if_false, true_and, and_true, true_implies, false_implies, implies_true, not_true_eq_false, not_false_eq_true, true_or, or_true, false_or, or_false, and_false, false_and, eq_self, n01_0, n01_1, nm1_0, c0, List.length_nil, hx]
          have hc0 : cP I1 a [] := by rw [← c0]; exact hc
          refine tail I1 _ (by rw [c0]; rfl) hc0 hf
        · have h0 : 0 < (lnT m p).length := List.length_pos_iff.mpr c0
          have h0' : ¬ ((lnT m p).length = 0) := by omega
          simp (disch := omega) only [nI_ad, nI_ml, nI_lti, nI_lei, nI_eqi, nI_nn, nI_0le, nI_eq0, nI_0lt, nI_le0, nI_clamp, nI_pd, nI_sb, zOf_some, zOp_some, zOp_none, kI_int, kL_long, kO_ref, kO_null, nlt_T, nlt_F, nle_T, nle_F, neq_F, vpT, azUp_at, if_true, if_false, true_and, and_true, true_implies, false_implies, implies_true, not_true_eq_false, not_false_eq_true, true_or, or_true, false_or, or_false, and_false, false_and, eq_self, n01_0, n01_1, nm1_0, hx, h0']
          refine S_write hR hM hc (by omega) fun I2 q1 q2 => ⟨rfl, k0, ?_⟩
          exact tail I2 _ (by rw [if_neg c0]) q1 fun c h1 h2 => by rw [q2 c h1 h2, hf c h1 h2]
  refine BX4_writeMarking_0 hR ⟨k0, ?_⟩
  refine main 10 0 _ _ rfl ⟨azUp_s, fun i hi => absurd hi (Nat.not_lt_zero _)⟩ fun c h1 h2 => azUp_nb h1
end S4
