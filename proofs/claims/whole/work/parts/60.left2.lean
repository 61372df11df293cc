/-! SPECS: Firing.copyLeft. -/
theorem rBits_lt : ∀ (cs : List Cls), (∀ c ∈ cs, c.2.1 < 10) → rBits cs < 1024 := by
  intro cs
  induction cs with
  | nil => intro _; decide
  | cons c cs ih =>
    intro h
    have h1 := ih fun c hc => h c (List.mem_cons_of_mem _ hc)
    have h2 : cBit c < 2 ^ 10 := by
      unfold cBit
      by_cases e : c.1 = 3
      · rw [if_pos e]; exact Nat.pow_lt_pow_right (by decide) (h c (List.mem_cons_self ..))
      · rw [if_neg e]; decide
    exact Nat.or_lt_two_pow (n := 10) h2 h1
theorem nBitW : ∀ b, b < 1024 → ∀ p, p < 10 → ((((nI b >>> (nI p &&& 31)) &&& nI 1) = nI 1) ↔ (b.testBit p = true)) := by decide +kernel
theorem lfL_nil {cs : List Cls} {ch : Nat → Nat} {p i : Nat} : lfL cs ch p i [] = [] := rfl
theorem lfL_cons {cs : List Cls} {ch : Nat → Nat} {p i x : Nat} {l : List Nat} : lfL cs ch p i (x :: l) = if tknB cs ch p i then lfL cs ch p (i + 1) l else x :: lfL cs ch p (i + 1) l := rfl
theorem cM.cong {I : azI} {a : Nat} {m m' : Nat → List Nat} (h : cM I a m) (e : ∀ p, p < 10 → m p = m' p) : cM I a m' := fun p hp => by
  rw [← e p hp]; exact h p hp
section S1
variable {R : azP} {D d n z : Nat} {kd : azK} {I : azI} {J : azJ} {F : azR} {Q : azQ} {a r b e : Nat} {cs : List Cls} {m : Nat → List Nat} {ch : Nat → Nat}
theorem S_copyLeft (hR : azClosed R) (hF : FiOk kd F a) (hM : RuOk kd F r) (hK : MkOk kd F b) (hE : MkOk kd F e) (hbe : b + 2 < e ∨ e + 2 < b) (hae : e + 2 < a ∨ a + 3 < e) (her : e + 2 < r) (hm : cM I b m) (hv : mOK m) (hc : cR I r cs []) (ho : rlOK cs) (hch : ∀ h, h < nTk cs → I (a + 1) h = nI (ch h) ∧ ch h < 6)
    (h : ∀ I', cM I' e (lfM cs ch m) → (∀ b, b ≠ e + 1 → b ≠ e + 2 → I' b = I b) → Q none ((n, z, kd), I', J, F)) : R (d + 2) mX1_copyLeft 0 [.ref a, .ref r, .ref b, .ref e, .retAddr 0, .retAddr 0] [] ((n, z, kd), I, J, F) Q := by
  have kb3 : (kd b).1 = 3 := by rw [hK.1]
  have ke3 : (kd e).1 = 3 := by rw [hE.1]
  have hbits := rBits_lt cs fun c hc => (ho.2.2.2.2.2.2 c hc).2.1
  have key : ∀ I', (∀ b, b ≠ e + 1 → b ≠ e + 2 → I' b = I b) → cM I' b m ∧ cR I' r cs [] ∧ (∀ h, h < nTk cs → I' (a + 1) h = nI (ch h) ∧ ch h < 6) := fun I' hI => ⟨hm.keep (hI _ (by omega) (by omega)) (hI _ (by omega) (by omega)), hc.keep fun b h1 h2 => hI b (by omega) (by omega), fun h hh => by rw [hI (a + 1) (by omega) (by omega)]; exact hch h hh⟩
  have main : ∀ s p (I1 : azI) (M : Nat → List Nat) (w5 : Value), s + p = 10 → mOK M → (∀ q, q < p → M q = lfM cs ch m q) → (∀ q, p ≤ q → M q = []) → cM I1 e M → (∀ b, b ≠ e + 1 → b ≠ e + 2 → I1 b = I b) → R (d + 2) mX1_copyLeft 7 [.ref a, .ref r, .ref b, .ref e, .int (nI p), w5] [] ((n, z, kd), I1, J, F) Q := by
    intro s
    induction s with
    | zero =>
      intro p I1 M w5 hp hMo h1 h2 hcM hI
      obtain rfl : p = 10 := by omega
      refine BX1_copyLeft_7 hR ?_
      simp (disch := omega) only [nI_ad, nI_ml, nI_lti, nI_lei, nI_eqi, nI_nn, nI_0le, nI_eq0, nI_0lt, nI_le0, nI_clamp, nI_pd, nI_sb, zOf_some, zOp_some, zOp_none, kI_int, kL_long, kO_ref, kO_null, nlt_T, nlt_F, nle_T, nle_F, neq_F, vpT, azUp_at, if_true, if_false, true_and, and_true, true_implies, false_implies, implies_true, not_true_eq_false, not_false_eq_true, true_or, or_true, false_or, or_false, and_false, false_and, eq_self, n01_0, n01_1, nm1_0]
      exact h I1 (hcM.cong h1) hI
    | succ s ih =>
      intro p I1 M w5 hp hMo h1 h2 hcM hI
      obtain ⟨x1, x2, x3⟩ := key I1 hI
      have e4 : I1 r 4 = nI (rBits cs) := x2.2.2.2.2.1
      have inner : (rBits cs).testBit p = false → ∀ (rest pre acc : List Nat) (I2 : azI) (M2 : Nat → List Nat), pre ++ rest = m p → acc ++ lfL cs ch p pre.length rest = lfL cs ch p 0 (m p) → acc.length ≤ pre.length → (∀ x ∈ acc, x < 100) → mOK M2 → (∀ q, q < p → M2 q = lfM cs ch m q) → M2 p = acc → (∀ q, p < q → M2 q = []) → cM I2 e M2 → (∀ b, b ≠ e + 1 → b ≠ e + 2 → I2 b = I b) → R (d + 2) mX1_copyLeft 33 [.ref a, .ref r, .ref b, .ref e, .int (nI p), .int (nI pre.length)] [] ((n, z, kd), I2, J, F) Q := by
        intro hbit rest
        induction rest with
        | nil =>
          intro pre acc I2 M2 f1 f2 f3 f4 g1 g2 g3 g4 g5 g6
          obtain ⟨y1, y2, y3⟩ := key I2 g6
          have hl := (hv.1 p).1
          rw [List.append_nil] at f1
          rw [← f1] at hl
          refine BX1_copyLeft_33 hR ?_
          simp (disch := omega) only [nI_ad, nI_ml, nI_lti, nI_lei, nI_eqi, nI_nn, nI_0le, nI_eq0, nI_0lt, nI_le0, nI_clamp, nI_pd, nI_sb, zOf_some, zOp_some, zOp_none, kI_int, kL_long, kO_ref, kO_null, nlt_T, nlt_F, nle_T, nle_F, neq_F, vpT, azUp_at, if_true, if_false, true_and, and_true, true_implies, false_implies, implies_true, not_true_eq_false, not_false_eq_true, true_or, or_true, false_or, or_false, and_false, false_and, eq_self, n01_0, n01_1, nm1_0, kb3]
          refine S_count hR hK y1 (by omega) ?_
          rw [← f1]
          simp (disch := omega) only [nI_ad, nI_ml, nI_lti, nI_lei, nI_eqi, nI_nn, nI_0le, nI_eq0, nI_0lt, nI_le0, nI_clamp, nI_pd, nI_sb, zOf_some, zOp_some, zOp_none, kI_int, kL_long, kO_ref, kO_null, nlt_T, nlt_F, nle_T, nle_F, neq_F, vpT, azUp_at, if_true, if_false, true_and, and_true, true_implies, false_implies, implies_true, not_true_eq_false, not_false_eq_true, true_or, or_true, false_or, or_false, and_false, false_and, eq_self, n01_0, n01_1, nm1_0]
          refine ih (p + 1) I2 M2 _ (by omega) g1 (fun q hq => ?_) (fun q hq => g4 q (by omega)) g5 g6
          by_cases eq : q = p
          · subst eq
            rw [g3]
            unfold lfM
            rw [hbit, if_neg (by decide), ← f2, lfL_nil, List.append_nil]
          · exact g2 q (by omega)
        | cons x rest ihr =>
          intro pre acc I2 M2 f1 f2 f3 f4 g1 g2 g3 g4 g5 g6
          obtain ⟨y1, y2, y3⟩ := key I2 g6
          have hl := (hv.1 p).1
          have hlen : (m p).length = pre.length + (rest.length + 1) := by rw [← f1]; simp
          have hx : (m p).getD pre.length 0 = x := by rw [← f1]; simp
          have hx100 : x < 100 := (hv.1 p).2 x (by rw [← f1]; simp)
          have ep : (pre ++ [x]).length = pre.length + 1 := by simp
          refine BX1_copyLeft_33 hR ?_
          simp (disch := omega) only [nI_ad, nI_ml, nI_lti, nI_lei, nI_eqi, nI_nn, nI_0le, nI_eq0, nI_0lt, nI_le0, nI_clamp, nI_pd, nI_sb, zOf_some, zOp_some, zOp_none, kI_int, kL_long, kO_ref, kO_null, nlt_T, nlt_F, nle_T, nle_F, neq_F, vpT, azUp_at, if_true, if_false, true_and, and_true, true_implies, false_implies, implies_true, not_true_eq_false, not_false_eq_true, true_or, or_true, false_or, or_false, and_false, false_and, eq_self, n01_0, n01_1, nm1_0, kb3]
          refine S_count hR hK y1 (by omega) ?_
          simp (disch := omega) only [nI_ad, nI_ml, nI_lti, nI_lei, nI_eqi, nI_nn, nI_0le, nI_eq0, nI_0lt, nI_le0, nI_clamp, nI_pd, nI_sb, zOf_some, zOp_some, zOp_none, kI_int, kL_long, kO_ref, kO_null, nlt_T, nlt_F, nle_T, nle_F, neq_F, vpT, azUp_at, if_true, if_false, true_and, and_true, true_implies, false_implies, implies_true, not_true_eq_false, not_false_eq_true, true_or, or_true, false_or, or_false, and_false, false_and, eq_self, n01_0, n01_1, nm1_0, hF.1]
          refine S_isTaken hR hF hM y2 ho y3 (by omega) (by omega) ?_
          rw [lfL_cons] at f2
          by_cases tk : tknB cs ch p pre.length = true
          · rw [if_pos tk] at f2 ⊢
            simp (disch := omega) only [nI_ad, nI_ml, nI_lti, nI_lei, nI_eqi, nI_nn, nI_0le, nI_eq0, nI_0lt, nI_le0, nI_clamp, nI_pd, nI_sb, zOf_some, zOp_some, zOp_none, kI_int, kL_long, kO_ref, kO_null, nlt_T, nlt_F, nle_T, nle_F, neq_F, vpT, azUp_at, if_true, if_false, true_and, and_true, true_implies, false_implies, implies_true, not_true_eq_false, not_false_eq_true, true_or, or_true, false_or, or_false, and_false, false_and, eq_self, n01_0, n01_1, nm1_0]
            rw [← ep]
            exact ihr (pre ++ [x]) acc I2 M2 (by rw [← f1]; simp) (by rw [ep]; exact f2) (by omega) f4 g1 g2 g3 g4 g5 g6
          · rw [if_neg tk] at f2 ⊢
            simp (disch := omega) only [nI_ad, nI_ml, nI_lti, nI_lei, nI_eqi, nI_nn, nI_0le, nI_eq0, nI_0lt, nI_le0, nI_clamp, nI_pd, nI_sb, zOf_some, zOp_some, zOp_none, kI_int, kL_long, kO_ref, kO_null, nlt_T, nlt_F, nle_T, nle_F, neq_F, vpT, azUp_at, if_true, if_false, true_and, and_true, true_implies, false_implies, implies_true, not_true_eq_false, not_false_eq_true, true_or, or_true, false_or, or_false, and_false, false_and, eq_self, n01_0, n01_1, nm1_0, kb3]
            refine S_at hR hK y1 hv ?_
            rw [atS_nI hv (by omega) (by omega), hx]
            simp (disch := omega) only [nI_ad, nI_ml, nI_lti, nI_lei, nI_eqi, nI_nn, nI_0le, nI_eq0, nI_0lt, nI_le0, nI_clamp, nI_pd, nI_sb, zOf_some, zOp_some, zOp_none, kI_int, kL_long, kO_ref, kO_null, nlt_T, nlt_F, nle_T, nle_F, neq_F, vpT, azUp_at, if_true, if_false, true_and, and_true, true_implies, false_implies, implies_true, not_true_eq_false, not_false_eq_true, true_or, or_true, false_or, or_false, and_false, false_and, eq_self, n01_0, n01_1, nm1_0, ke3]
            refine S_append hR hE g5 g1 (by omega) (fun hc6 => ?_) (fun hc6 I3 hc3 hf3 => ?_)
            · rw [g3] at hc6; omega
            · rw [kI_int, ← ep]
              rw [g3] at hc3
              have f4' : ∀ y ∈ acc ++ [x], y < 100 := fun y hy => by
                rcases List.mem_append.mp hy with hy | hy
                · exact f4 y hy
                · rw [List.mem_singleton] at hy; subst hy; exact hx100
              refine ihr (pre ++ [x]) (acc ++ [x]) I3 (mUp M2 p (acc ++ [x])) (by rw [← f1]; simp) (by rw [ep, ← f2]; simp) (by simp; omega) f4' (g1.up (by omega) (by simp; omega) f4') (fun q hq => ?_) ?_ (fun q hq => ?_) hc3 fun b hb1 hb2 => ?_
              · unfold mUp; rw [if_neg (by omega)]; exact g2 q hq
              · unfold mUp; rw [if_pos rfl]
              · unfold mUp; rw [if_neg (by omega)]; exact g4 q hq
              · rw [hf3 b hb1 hb2, g6 b hb1 hb2]
      refine BX1_copyLeft_7 hR ?_
      have hw := nBitW (rBits cs) hbits p (by omega)
      by_cases hb : (rBits cs).testBit p = true
      · have hw' := eq_true (hw.mpr hb)
        simp (disch := omega) only [nI_ad, nI_ml, nI_lti, nI_lei, nI_eqi, nI_nn, nI_0le, nI_eq0, nI_0lt, nI_le0, nI_clamp, nI_pd, nI_sb, zOf_some, zOp_some, zOp_none, kI_int, kL_long, kO_ref, kO_null, nlt_T, nlt_F, nle_T, nle_F, neq_F, vpT, azUp_at, if_true, if_false, true_and, and_true, true_implies, false_implies, implies_true, not_true_eq_false, not_false_eq_true, true_or, or_true, false_or, or_false, and_false, false_and, eq_self, n01_0, n01_1, nm1_0, hM.1, e4, hw']
        refine ih (p + 1) I1 M w5 (by omega) hMo (fun q hq => ?_) (fun q hq => h2 q (by omega)) hcM hI
        by_cases eq : q = p
        · subst eq
          rw [h2 q (Nat.le_refl _)]
          unfold lfM
          rw [if_pos hb]
        · exact h1 q (by omega)
      · have hw' := eq_false (fun hh => hb (hw.mp hh))
        simp (disch := omega) only [nI_ad, nI_ml, nI_lti, nI_lei, nI_eqi, nI_nn, nI_0le, nI_eq0, nI_0lt, nI_le0, nI_clamp, nI_pd, nI_sb, zOf_some, zOp_some, zOp_none, kI_int, kL_long, kO_ref, kO_null, nlt_T, nlt_F, nle_T, nle_F, neq_F, vpT, azUp_at, if_true, if_false, true_and, and_true, true_implies, false_implies, implies_true, not_true_eq_false, not_false_eq_true, true_or, or_true, false_or, or_false, and_false, false_and, eq_self, n01_0, n01_1, nm1_0, hM.1, e4, hw']
        have hb' : (rBits cs).testBit p = false := by simpa using hb
        exact inner hb' (m p) [] [] I1 M rfl rfl (Nat.le_refl _) (fun x hx => absurd hx List.not_mem_nil) hMo h1 (h2 p (Nat.le_refl _)) (fun q hq => h2 q (by omega)) hcM hI
  refine BX1_copyLeft_0 hR ?_
  simp (disch := omega) only [nI_ad, nI_ml, nI_lti, nI_lei, nI_eqi, nI_nn, nI_0le, nI_eq0, nI_0lt, nI_le0, nI_clamp, nI_pd, nI_sb, zOf_some, zOp_some, zOp_none, kI_int, kL_long, kO_ref, kO_null, nlt_T, nlt_F, nle_T, nle_F, neq_F, vpT, azUp_at, if_true, if_false, true_and, and_true, true_implies, false_implies, implies_true, not_true_eq_false, not_false_eq_true, true_or, or_true, false_or, or_false, and_false, false_and, eq_self, n01_0, n01_1, nm1_0, ke3]
  refine S_wipe hR hE fun I' hc' hf' => ⟨rfl, ?_⟩
  exact main 10 0 I' mNil _ rfl mOK.nil (fun q hq => absurd hq (Nat.not_lt_zero _)) (fun q _ => rfl) hc' fun b h1 h2 => hf' b h1
end S1
