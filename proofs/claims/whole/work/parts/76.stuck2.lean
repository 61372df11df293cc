/-! WALKS: Walks.firstStuck. -/
def cE (I : azI) (a : Nat) (e : Nat → Bool) (L : Nat) : Prop := ∀ i, i < L → I (a + 189) i = nI (if e i then 1 else 0)
def eUp (e : Nat → Bool) (i : Nat) : Nat → Bool := fun j => if j = i then true else e j
theorem cWk.keep {I I' : azI} {a : Nat} {S : WS} (h : cWk I a S) (hl : S.1.length ≤ 60) (hf : ∀ b, a ≤ b → b < a + 182 ∨ (a + 185 ≤ b ∧ b ≤ a + 188) → I' b = I b) : cWk I' a S := by
  obtain ⟨⟨h1, h2, h3, h4⟩, h5⟩ := h
  refine ⟨⟨by rw [hf a (by omega) (by omega)]; exact h1, fun i hi => (h2 i hi).keep (hf _ (by omega) (by omega)) (hf _ (by omega) (by omega)), fun i i1 i2 => by rw [hf _ (by omega) (by omega), hf _ (by omega) (by omega)]; exact h3 i i1 i2, fun k hk => by rw [hf _ (by omega) (by omega)]; exact h4 k hk⟩, fun i hi => by rw [hf _ (by omega) (by omega)]; exact h5 i hi⟩
theorem eb01 (b : Bool) : nI (if b then 1 else 0) = 0 ∨ nI (if b then 1 else 0) = 1 := by cases b <;> decide
theorem eb_0 (b : Bool) : nI (if b then 1 else 0) = 0 ↔ b = false := by cases b <;> decide
section S7
variable {R : azP} {d n z : Nat} {kd : azK} {I : azI} {J : azJ} {F : azR} {Q : azQ} {a : Nat} {S : WS} {L : Nat}
theorem S_leads (hR : azClosed R) (hW : WkOk kd F a) (hS : wsOK 60 S) (hfl : S.2.2.length = 10 * S.1.length) (hc : cWk I a S) (hL : L ≤ S.1.length) {e : Nat → Bool} (he : cE I a e L) {i : Nat} (hi : i < L) (h : Q (some (.int (nI (if lds S L e i then 1 else 0)))) ((n, z, kd), I, J, F)) : R d mX7_leadsToEnding 0 [.ref a, .int (nI i), .int (nI L), .retAddr 0, .retAddr 0] [] ((n, z, kd), I, J, F) Q := by
  have hl := hS.2.1
  have ⟨k0, k1, kf, kn, k2, k3, k4, k5, k6, f0, f1, f2, f3, f4, f5, f6⟩ := hW
  have main : ∀ s p (w : Value), s + p = 10 → (∀ q, q < p → ∀ j, ld S (10 * i + q) = some (some j) → j < L → e j = false) → R d mX7_leadsToEnding 2 [.ref a, .int (nI i), .int (nI L), .int (nI p), w] [] ((n, z, kd), I, J, F) Q := by
    intro s
    induction s with
    | zero =>
      intro p w hs hq
      obtain rfl : p = 10 := by omega
      have ef : lds S L e i = false := by
        cases eb : lds S L e i with
        | false => rfl
        | true =>
          obtain ⟨p, hp, j, hj, h1, h2⟩ := lds_iff.mp eb
          rw [hq p hp j hj h1] at h2
          cases h2
      rw [ef] at h
      refine BX7_leadsToEnding_2 hR ?_
      simp (disch := omega) only [nI_ad, nI_ml, nI_lti, nI_lei, nI_eqi, nI_nn, nI_0le, nI_eq0, nI_0lt, nI_le0, nI_clamp, nI_pd, nI_sb, zOf_some, zOp_some, zOp_none, kI_int, kL_long, kO_ref, kO_null, nlt_T, nlt_F, nle_T, nle_F, neq_F, vpT, azUp_at, if_true, if_false, true_and, and_true, true_implies, false_implies, implies_true, not_true_eq_false, not_false_eq_true, true_or, or_true, false_or, or_false, and_false, false_and, eq_self, n01_0, n01_1, nm1_0]
      exact h
    | succ s ih =>
      intro p w hs hq
      have hidx : i * 10 + p < S.2.2.length := by omega
      have hcl := hc.1.2.2.2 (i * 10 + p) hidx
      have eix : 10 * i + p = i * 10 + p := by omega
      have hmem : S.2.2.getD (i * 10 + p) none ∈ S.2.2 := by
        rw [List.getD_eq_getElem?_getD, List.getElem?_eq_getElem hidx]
        exact List.getElem_mem hidx
      refine BX7_leadsToEnding_2 hR ?_
      cases hld : S.2.2.getD (i * 10 + p) none with
      | none =>
        rw [hld] at hcl
        have hcl : I (a + 188) (i * 10 + p) = -(nI 1) := hcl
        have neg : -(nI 1) < 0 := by decide
        simp (disch := omega) only [nI_ad, nI_ml, nI_lti, nI_lei, nI_eqi, nI_nn, nI_0le, nI_eq0, nI_0lt, nI_le0, nI_clamp, nI_pd, nI_sb, zOf_some, zOp_some, zOp_none, kI_int, kL_long, kO_ref, kO_null, nlt_T, nlt_F, nle_T, nle_F, neq_F, vpT, azUp_at, if_true, if_false, true_and, and_true, true_implies, false_implies, implies_true, not_true_eq_false, not_false_eq_true, true_or, or_true, false_or, or_false, and_false, false_and, eq_self, n01_0, n01_1, nm1_0, k0, f5, k5, hcl, neg]
        refine ih (p + 1) _ (by omega) fun q hq1 j hj hjL => ?_
        by_cases eq : q = p
        · subst eq
          unfold ld at hj
          rw [eix, hld] at hj
          cases hj
        · exact hq q (by omega) j hj hjL
      | some x =>
        cases x with
        | none =>
          rw [hld] at hcl
          have hcl : I (a + 188) (i * 10 + p) = -(nI 1) := hcl
          have neg : -(nI 1) < 0 := by decide
          simp (disch := omega) only [nI_ad, nI_ml, nI_lti, nI_lei, nI_eqi, nI_nn, nI_0le, nI_eq0, nI_0lt, nI_le0, nI_clamp, nI_pd, nI_sb, zOf_some, zOp_some, zOp_none, kI_int, kL_long, kO_ref, kO_null, nlt_T, nlt_F, nle_T, nle_F, neq_F, vpT, azUp_at, if_true, if_false, true_and, and_true, true_implies, false_implies, implies_true, not_true_eq_false, not_false_eq_true, true_or, or_true, false_or, or_false, and_false, false_and, eq_self, n01_0, n01_1, nm1_0, k0, f5, k5, hcl, neg]
          refine ih (p + 1) _ (by omega) fun q hq1 j hj hjL => ?_
          by_cases eq : q = p
          · subst eq
            unfold ld at hj
            rw [eix, hld] at hj
            cases hj
          · exact hq q (by omega) j hj hjL
        | some j0 =>
          rw [hld] at hcl hmem
          have hcl : I (a + 188) (i * 10 + p) = nI j0 := hcl
          have hj0 := hS.2.2.2.2.2 j0 hmem
          have next : (j0 < L → e j0 = false) → ∀ w, R d mX7_leadsToEnding 2 [.ref a, .int (nI i), .int (nI L), .int (nI (p + 1)), w] [] ((n, z, kd), I, J, F) Q := by
            intro hx w
            refine ih (p + 1) _ (by omega) fun q hq1 j hj hjL => ?_
            by_cases eq : q = p
            · subst eq
              unfold ld at hj
              rw [eix, hld] at hj
              cases hj
              exact hx hjL
            · exact hq q (by omega) j hj hjL
          by_cases c : j0 < L
          · have hej := he j0 c
            cases eb : e j0 with
            | false =>
              rw [eb] at hej
              have hej : I (a + 189) j0 = nI 0 := hej
              simp (disch := omega) only [nI_ad, nI_ml, nI_lti, nI_lei, nI_eqi, nI_nn, nI_0le, nI_eq0, nI_0lt, nI_le0, nI_clamp, nI_pd, nI_sb, zOf_some, zOp_some, zOp_none, kI_int, kL_long, kO_ref, kO_null, nlt_T, nlt_F, nle_T, nle_F, neq_F, vpT, azUp_at, if_true, if_false, true_and, and_true, true_implies, false_implies, implies_true, not_true_eq_false, not_false_eq_true, true_or, or_true, false_or, or_false, and_false, false_and, eq_self, n01_0, n01_1, nm1_0, k0, f5, k5, hcl, c, f6, k6, hej]
              exact next (fun _ => eb) _
            | true =>
              rw [eb] at hej
              have hej : I (a + 189) j0 = nI 1 := hej
              have ef : lds S L e i = true := lds_iff.mpr ⟨p, by omega, j0, by unfold ld; rw [eix]; exact hld, c, eb⟩
              rw [ef] at h
              simp (disch := omega) only [nI_ad, nI_ml, nI_lti, nI_lei, nI_eqi, nI_nn, nI_0le, nI_eq0, nI_0lt, nI_le0, nI_clamp, nI_pd, nI_sb, zOf_some, zOp_some, zOp_none, kI_int, kL_long, kO_ref, kO_null, nlt_T, nlt_F, nle_T, nle_F, neq_F, vpT, azUp_at, if_true, if_false, true_and, and_true, true_implies, false_implies, implies_true, not_true_eq_false, not_false_eq_true, true_or, or_true, false_or, or_false, and_false, false_and, eq_self, n01_0, n01_1, nm1_0, k0, f5, k5, hcl, c, f6, k6, hej]
              exact h
          · simp (disch := omega) only [nI_ad, nI_ml, nI_lti, nI_lei, nI_eqi, nI_nn, nI_0le, nI_eq0, nI_0lt, nI_le0, nI_clamp, nI_pd, nI_sb, zOf_some, zOp_some, zOp_none, kI_int, kL_long, kO_ref, kO_null, nlt_T, nlt_F, nle_T, nle_F, neq_F, vpT, azUp_at, if_true, if_false, true_and, and_true, true_implies, false_implies, implies_true, not_true_eq_false, not_false_eq_true, true_or, or_true, false_or, or_false, and_false, false_and, eq_self, n01_0, n01_1, nm1_0, k0, f5, k5, hcl, c]
            exact next (fun hc => absurd hc c) _
  exact BX7_leadsToEnding_0 hR (main 10 0 _ rfl fun q hq => absurd hq (Nat.not_lt_zero _))
/-- one pass -/
theorem S_spread (hR : azClosed R) (hW : WkOk kd F a) (hS : wsOK 60 S) (hfl : S.2.2.length = 10 * S.1.length) (hc : cWk I a S) (hL : L ≤ S.1.length) {e : Nat → Bool} (he : cE I a e L) (hok : spOK S L e) (h : ∀ I' e' (b : Bool), (∀ c, c ≠ a + 189 → I' c = I c) → cE I' a e' L → spOK S L e' → (b = false → spCl S L e') → (b = true → eN e L < eN e' L) → Q (some (.int (nI (if b then 1 else 0)))) ((n, z, kd), I', J, F)) : R (d + 1) mX7_spreadEnding 0 [.ref a, .int (nI L), .retAddr 0, .retAddr 0] [] ((n, z, kd), I, J, F) Q := by
  have hl := hS.2.1
  have ⟨k0, k1, kf, kn, k2, k3, k4, k5, k6, f0, f1, f2, f3, f4, f5, f6⟩ := hW
  have main : ∀ s i (I1 : azI) (e1 : Nat → Bool) (b : Bool), s + i = L → (∀ c, c ≠ a + 189 → I1 c = I c) → cE I1 a e1 L → spOK S L e1 → (∀ j, j < L → e j = true → e1 j = true) → (b = false → ∀ j, j < i → lds S L e1 j = true → e1 j = true) → (b = true → ∃ j, j < L ∧ e j = false ∧ e1 j = true) → R (d + 1) mX7_spreadEnding 4 [.ref a, .int (nI L), .int (nI (if b then 1 else 0)), .int (nI i)] [] ((n, z, kd), I1, J, F) Q := by
    intro s
    induction s with
    | zero =>
      intro i I1 e1 b hs hf hce hok1 hm hb0 hb1
      obtain rfl : i = L := by omega
      refine BX7_spreadEnding_4 hR ?_
      simp (disch := omega) only [nI_ad, nI_ml, nI_lti, nI_lei, nI_eqi, nI_nn, nI_0le, nI_eq0, nI_0lt, nI_le0, nI_clamp, nI_pd, nI_sb, zOf_some, zOp_some, zOp_none, kI_int, kL_long, kO_ref, kO_null, nlt_T, nlt_F, nle_T, nle_F, neq_F, vpT, azUp_at, if_true, if_false, true_and, and_true, true_implies, false_implies, implies_true, not_true_eq_false, not_false_eq_true, true_or, or_true, false_or, or_false, and_false, false_and, eq_self, n01_0, n01_1, nm1_0]
      refine ⟨eb01 b, h I1 e1 b hf hce hok1 (fun hb j hj hlj => hb0 hb j hj hlj) fun hb => eN_lt i hm (hb1 hb)⟩
    | succ s ih =>
      intro i I1 e1 b hs hf hce hok1 hm hb0 hb1
      have hi : i < L := by omega
      have hc1 : cWk I1 a S := hc.keep hl fun b h1 h2 => hf b (by omega)
      have hei := hce i hi
      refine BX7_spreadEnding_4 hR ?_
      cases eb : e1 i with
      | true =>
        rw [eb] at hei
        have hei : I1 (a + 189) i = nI 1 := hei
        simp (disch := omega) only [nI_ad, nI_ml, nI_lti, nI_lei, nI_eqi, nI_nn, nI_0le, nI_eq0, nI_0lt, nI_le0, nI_clamp, nI_pd, nI_sb, zOf_some, zOp_some, zOp_none, kI_int, kL_long, kO_ref, kO_null, nlt_T, nlt_F, nle_T, nle_F, neq_F, vpT, azUp_at, if_true, if_false, true_and, and_true, true_implies, false_implies, implies_true, not_true_eq_false, not_false_eq_true, true_or, or_true, false_or, or_false, and_false, false_and, eq_self, n01_0, n01_1, nm1_0, k0, f6, k6, hei]
        refine ih (i + 1) I1 e1 b (by omega) hf hce hok1 hm (fun hb j hj hlj => ?_) hb1
        by_cases ej : j = i
        · rw [ej]; exact eb
        · exact hb0 hb j (by omega) hlj
      | false =>
        rw [eb] at hei
        have hei : I1 (a + 189) i = nI 0 := hei
        simp (disch := omega) only [nI_ad, nI_ml, nI_lti, nI_lei, nI_eqi, nI_nn, nI_0le, nI_eq0, nI_0lt, nI_le0, nI_clamp, nI_pd, nI_sb, zOf_some, zOp_some, zOp_none, kI_int, kL_long, kO_ref, kO_null, nlt_T, nlt_F, nle_T, nle_F, neq_F, vpT, azUp_at, if_true, if_false, true_and, and_true, true_implies, false_implies, implies_true, not_true_eq_false, not_false_eq_true, true_or, or_true, false_or, or_false, and_false, false_and, eq_self, n01_0, n01_1, nm1_0, k0, f6, k6, hei]
        refine S_leads hR hW hS hfl hc1 hL hce hi ?_
        cases el : lds S L e1 i with
        | false =>
          have z : nI (if false = true then 1 else 0) = nI 0 := rfl
          rw [z]
          simp (disch := omega) only [nI_ad, nI_ml, nI_lti, nI_lei, nI_eqi, nI_nn, nI_0le, nI_eq0, nI_0lt, nI_le0, nI_clamp, nI_pd, nI_sb, zOf_some, zOp_some, zOp_none, kI_int, kL_long, kO_ref, kO_null, nlt_T, nlt_F, nle_T, nle_F, neq_F, vpT, azUp_at, if_true, if_false, true_and, and_true, true_implies, false_implies, implies_true, not_true_eq_false, not_false_eq_true, true_or, or_true, false_or, or_false, and_false, false_and, eq_self, n01_0, n01_1, nm1_0]
          refine ih (i + 1) I1 e1 b (by omega) hf hce hok1 hm (fun hb j hj hlj => ?_) hb1
          by_cases ej : j = i
          · rw [ej, el] at hlj; cases hlj
          · exact hb0 hb j (by omega) hlj
        | true =>
          have z : nI (if true = true then 1 else 0) = nI 1 := rfl
          rw [z]
          simp (disch := omega) only [nI_ad, nI_ml, nI_lti, nI_lei, nI_eqi, nI_nn, nI_0le, nI_eq0, nI_0lt, nI_le0, nI_clamp, nI_pd, nI_sb, zOf_some, zOp_some, zOp_none, kI_int, kL_long, kO_ref, kO_null, nlt_T, nlt_F, nle_T, nle_F, neq_F, vpT, azUp_at, if_true, if_false, true_and, and_true, true_implies, false_implies, implies_true, not_true_eq_false, not_false_eq_true, true_or, or_true, false_or, or_false, and_false, false_and, eq_self, n01_0, n01_1, nm1_0, k0, f6, k6]
          refine ih (i + 1) _ (eUp e1 i) true (by omega) (fun c hc => by rw [azUp_nb hc]; exact hf c hc) (fun j hj => ?_) ⟨fun j hj hej => ?_, fun j hj hej => ?_⟩ (fun j hj hej => ?_) (fun hb => by cases hb) fun _ => ⟨i, hi, ?_, ?_⟩
          · unfold eUp
            by_cases ej : j = i
            · rw [ej, azUp_s, if_pos rfl]; rfl
            · rw [azUp_nk ej, if_neg ej]; exact hce j hj
          · unfold eUp at hej
            by_cases ej : j = i
            · rw [ej]; exact RE_lds hok1.1 el
            · rw [if_neg ej] at hej; exact hok1.1 j hj hej
          · unfold eUp
            by_cases ej : j = i
            · rw [if_pos ej]
            · rw [if_neg ej]; exact hok1.2 j hj hej
          · unfold eUp
            by_cases ej : j = i
            · rw [if_pos ej]
            · rw [if_neg ej]; exact hm j hj hej
          · cases ei : e i with
            | false => rfl
            | true => rw [hm i hi ei] at eb; cases eb
          · unfold eUp; rw [if_pos rfl]
  refine BX7_spreadEnding_0 hR ?_
  exact main L 0 I e false (Nat.add_zero _) (fun _ _ => rfl) he hok (fun _ _ h => h) (fun _ j hj => absurd hj (Nat.not_lt_zero _)) (fun hb => by cases hb)
theorem S_stuck (hR : azClosed R) (hW : WkOk kd F a) (hS : wsOK 60 S) (hfl : S.2.2.length = 10 * S.1.length) (hc : cWk I a S) {k : Nat} (hk : k ≤ 60) (h : ∀ I' v, (∀ c, c ≠ a + 189 → I' c = I c) → isStk S (min k S.1.length) v → Q (some (.int v)) ((n, z, kd), I', J, F)) : R (d + 3) mX7_firstStuck 0 [.ref a, .int (nI k), .retAddr 0, .retAddr 0] [] ((n, z, kd), I, J, F) Q := by
  have hl := hS.2.1
  have ⟨k0, k1, kf, kn, k2, k3, k4, k5, k6, f0, f1, f2, f3, f4, f5, f6⟩ := hW
  generalize hLe : min k S.1.length = L at h
  have hL : L ≤ S.1.length := by omega
  have keep : ∀ I', (∀ c, c ≠ a + 189 → I' c = I c) → cWk I' a S := fun I' hf => hc.keep hl fun b h1 h2 => hf b (by omega)
  -- the first that isn't one
  have p3 : ∀ (I1 : azI) (e : Nat → Bool), (∀ c, c ≠ a + 189 → I1 c = I c) → cE I1 a e L → spOK S L e → spCl S L e → R (d + 3) mX7_firstStuck 66 [.ref a, .int (nI k), .int (nI L), .int (nI 0)] [] ((n, z, kd), I1, J, F) Q := by
    intro I1 e hf hce hok hcl
    have hall := spOK_all hok hcl
    have main : ∀ s i, s + i = L → (∀ j, j < i → e j = true) → R (d + 3) mX7_firstStuck 66 [.ref a, .int (nI k), .int (nI L), .int (nI i)] [] ((n, z, kd), I1, J, F) Q := by
      intro s
      induction s with
      | zero =>
        intro i hs hj
        obtain rfl : i = L := by omega
        refine BX7_firstStuck_66 hR ?_
        simp (disch := omega) only [nI_ad, nI_ml, nI_lti, nI_lei, nI_eqi, nI_nn, nI_0le, nI_eq0, nI_0lt, nI_le0, nI_clamp, nI_pd, nI_sb, zOf_some, zOp_some, zOp_none, kI_int, kL_long, kO_ref, kO_null, nlt_T, nlt_F, nle_T, nle_F, neq_F, vpT, azUp_at, if_true, if_false, true_and, and_true, true_implies, false_implies, implies_true, not_true_eq_false, not_false_eq_true, true_or, or_true, false_or, or_false, and_false, false_and, eq_self, n01_0, n01_1, nm1_0]
        exact h I1 _ hf (Or.inl ⟨rfl, fun j hj' => (hall j hj').mp (hj j hj')⟩)
      | succ s ih =>
        intro i hs hj
        have hi : i < L := by omega
        have hei := hce i hi
        refine BX7_firstStuck_66 hR ?_
        cases eb : e i with
        | true =>
          rw [eb] at hei
          have hei : I1 (a + 189) i = nI 1 := hei
          simp (disch := omega) only [nI_ad, nI_ml, nI_lti, nI_lei, nI_eqi, nI_nn, nI_0le, nI_eq0, nI_0lt, nI_le0, nI_clamp, nI_pd, nI_sb, zOf_some, zOp_some, zOp_none, kI_int, kL_long, kO_ref, kO_null, nlt_T, nlt_F, nle_T, nle_F, neq_F, vpT, azUp_at, if_true, if_false, true_and, and_true, true_implies, false_implies, implies_true, not_true_eq_false, not_false_eq_true, true_or, or_true, false_or, or_false, and_false, false_and, eq_self, n01_0, n01_1, nm1_0, k0, f6, k6, hei]
          refine ih (i + 1) (by omega) fun j hj' => ?_
          by_cases ej : j = i
          · rw [ej]; exact eb
          · exact hj j (by omega)
        | false =>
          rw [eb] at hei
          have hei : I1 (a + 189) i = nI 0 := hei
          simp (disch := omega) only [nI_ad, nI_ml, nI_lti, nI_lei, nI_eqi, nI_nn, nI_0le, nI_eq0, nI_0lt, nI_le0, nI_clamp, nI_pd, nI_sb, zOf_some, zOp_some, zOp_none, kI_int, kL_long, kO_ref, kO_null, nlt_T, nlt_F, nle_T, nle_F, neq_F, vpT, azUp_at, if_true, if_false, true_and, and_true, true_implies, false_implies, implies_true, not_true_eq_false, not_false_eq_true, true_or, or_true, false_or, or_false, and_false, false_and, eq_self, n01_0, n01_1, nm1_0, k0, f6, k6, hei]
          refine h I1 _ hf (Or.inr ⟨i, hi, rfl, fun hr => ?_, fun j hj' => (hall j (by omega)).mp (hj j hj')⟩)
          rw [(hall i hi).mpr hr] at eb
          cases eb
    exact main L 0 (Nat.add_zero _) fun j hj => absurd hj (Nat.not_lt_zero _)
  -- the rounds
  have p2 : ∀ s r (I1 : azI) (e : Nat → Bool), s + r = L → (∀ c, c ≠ a + 189 → I1 c = I c) → cE I1 a e L → spOK S L e → r ≤ eN e L → R (d + 3) mX7_firstStuck 42 [.ref a, .int (nI k), .int (nI L), .int (nI r)] [] ((n, z, kd), I1, J, F) Q := by
    intro s
    induction s with
    | zero =>
      intro r I1 e hs hf hce hok hr
      obtain rfl : r = L := by omega
      refine BX7_firstStuck_42 hR ?_
      simp (disch := omega) only [nI_ad, nI_ml, nI_lti, nI_lei, nI_eqi, nI_nn, nI_0le, nI_eq0, nI_0lt, nI_le0, nI_clamp, nI_pd, nI_sb, zOf_some, zOp_some, zOp_none, kI_int, kL_long, kO_ref, kO_null, nlt_T, nlt_F, nle_T, nle_F, neq_F, vpT, azUp_at, if_true, if_false, true_and, and_true, true_implies, false_implies, implies_true, not_true_eq_false, not_false_eq_true, true_or, or_true, false_or, or_false, and_false, false_and, eq_self, n01_0, n01_1, nm1_0]
      have := eN_le (e := e) r
      exact p3 I1 e hf hce hok fun i hi _ => eN_all r (by omega) i hi
    | succ s ih =>
      intro r I1 e hs hf hce hok hr
      refine BX7_firstStuck_42 hR ?_
      simp (disch := omega) only [nI_ad, nI_ml, nI_lti, nI_lei, nI_eqi, nI_nn, nI_0le, nI_eq0, nI_0lt, nI_le0, nI_clamp, nI_pd, nI_sb, zOf_some, zOp_some, zOp_none, kI_int, kL_long, kO_ref, kO_null, nlt_T, nlt_F, nle_T, nle_F, neq_F, vpT, azUp_at, if_true, if_false, true_and, and_true, true_implies, false_implies, implies_true, not_true_eq_false, not_false_eq_true, true_or, or_true, false_or, or_false, and_false, false_and, eq_self, n01_0, n01_1, nm1_0, k0]
      refine S_spread hR hW hS hfl (keep I1 hf) hL hce hok fun I2 e2 b q1 q2 q3 q4 q5 => ?_
      have hf2 : ∀ c, c ≠ a + 189 → I2 c = I c := fun c hc => by rw [q1 c hc, hf c hc]
      cases b with
      | false =>
        have z : nI (if false = true then 1 else 0) = nI 0 := rfl
        rw [z]
        simp (disch := omega) only [nI_ad, nI_ml, nI_lti, nI_lei, nI_eqi, nI_nn, nI_0le, nI_eq0, nI_0lt, nI_le0, nI_clamp, nI_pd, nI_sb, zOf_some, zOp_some, zOp_none, kI_int, kL_long, kO_ref, kO_null, nlt_T, nlt_F, nle_T, nle_F, neq_F, vpT, azUp_at, if_true, if_false, true_and, and_true, true_implies, false_implies, implies_true, not_true_eq_false, not_false_eq_true, true_or, or_true, false_or, or_false, and_false, false_and, eq_self, n01_0, n01_1, nm1_0]
        exact p3 I2 e2 hf2 q2 q3 (q4 rfl)
      | true =>
        have z : nI (if true = true then 1 else 0) = nI 1 := rfl
        rw [z]
        simp (disch := omega) only [nI_ad, nI_ml, nI_lti, nI_lei, nI_eqi, nI_nn, nI_0le, nI_eq0, nI_0lt, nI_le0, nI_clamp, nI_pd, nI_sb, zOf_some, zOp_some, zOp_none, kI_int, kL_long, kO_ref, kO_null, nlt_T, nlt_F, nle_T, nle_F, neq_F, vpT, azUp_at, if_true, if_false, true_and, and_true, true_implies, false_implies, implies_true, not_true_eq_false, not_false_eq_true, true_or, or_true, false_or, or_false, and_false, false_and, eq_self, n01_0, n01_1, nm1_0]
        have := q5 rfl
        exact ih (r + 1) I2 e2 (by omega) hf2 q2 q3 (by omega)
  -- the ends
  have p1 : ∀ s i (I1 : azI), s + i = L → (∀ c, c ≠ a + 189 → I1 c = I c) → cE I1 a (reF S L 0) i → R (d + 3) mX7_firstStuck 8 [.ref a, .int (nI k), .int (nI L), .int (nI i)] [] ((n, z, kd), I1, J, F) Q := by
    intro s
    induction s with
    | zero =>
      intro i I1 hs hf hce
      obtain rfl : i = L := by omega
      refine BX7_firstStuck_8 hR ?_
      simp (disch := omega) only [nI_ad, nI_ml, nI_lti, nI_lei, nI_eqi, nI_nn, nI_0le, nI_eq0, nI_0lt, nI_le0, nI_clamp, nI_pd, nI_sb, zOf_some, zOp_some, zOp_none, kI_int, kL_long, kO_ref, kO_null, nlt_T, nlt_F, nle_T, nle_F, neq_F, vpT, azUp_at, if_true, if_false, true_and, and_true, true_implies, false_implies, implies_true, not_true_eq_false, not_false_eq_true, true_or, or_true, false_or, or_false, and_false, false_and, eq_self, n01_0, n01_1, nm1_0]
      refine p2 i 0 I1 (reF S i 0) (Nat.add_zero _) hf hce ⟨fun j hj hr => ⟨0, hr⟩, fun j hj hne => ?_⟩ (Nat.zero_le _)
      unfold reF
      rw [decide_eq_false hne]
      rfl
    | succ s ih =>
      intro i I1 hs hf hce
      have h2 := ((hS.2.2.2.1 _ (getD_memM (l := S.1) (i := i) (by omega))).1 9).1
      have fin : ∀ v, v = nI (if reF S L 0 i then 1 else 0) → R (d + 3) mX7_firstStuck 8 [.ref a, .int (nI k), .int (nI L), .int (nI (i + 1))] [] ((n, z, kd), azUp I1 (a + 189) i v, J, F) Q := by
        intro v hv
        refine ih (i + 1) _ (by omega) (fun c hc => by rw [azUp_nb hc]; exact hf c hc) fun j hj => ?_
        by_cases ej : j = i
        · rw [ej, azUp_s]; exact hv
        · rw [azUp_nk ej]; exact hce j (by omega)
      refine BX7_firstStuck_8 hR ?_
      simp (disch := omega) only [nI_ad, nI_ml, nI_lti, nI_lei, nI_eqi, nI_nn, nI_0le, nI_eq0, nI_0lt, nI_le0, nI_clamp, nI_pd, nI_sb, zOf_some, zOp_some, zOp_none, kI_int, kL_long, kO_ref, kO_null, nlt_T, nlt_F, nle_T, nle_F, neq_F, vpT, azUp_at, if_true, if_false, true_and, and_true, true_implies, false_implies, implies_true, not_true_eq_false, not_false_eq_true, true_or, or_true, false_or, or_false, and_false, false_and, eq_self, n01_0, n01_1, nm1_0, k0, f6]
      refine S_countIn hR hW hS (keep I1 hf) (by omega) (by decide) ?_
      by_cases c : (S.1.getD i mNil) 9 = []
      · rw [c]
        simp (disch := omega) only [nI_ad, nI_ml, nI_lti, nI_lei, nI_eqi, nI_nn, nI_0le, nI_eq0, nI_0lt, nI_le0, nI_clamp, nI_pd, nI_sb, zOf_some, zOp_some, zOp_none, kI_int, kL_long, kO_ref, kO_null, nlt_T, nlt_F, nle_T, nle_F, neq_F, vpT, azUp_at, if_true, if_false, true_and, and_true, true_implies, false_implies, implies_true, not_true_eq_false, not_false_eq_true, true_or, or_true, false_or, or_false, and_false, false_and, eq_self, n01_0, n01_1, nm1_0, List.length_nil, k6]
        refine fin _ ?_
        unfold reF
        rw [c]
        rfl
      · have hpos : ¬ (((S.1.getD i mNil) 9).length = 0) := by
          have := List.length_pos_iff.mpr c
          omega
        simp (disch := omega) only [nI_ad, nI_ml, nI_lti, nI_lei, nI_eqi, nI_nn, nI_0le, nI_eq0, nI_0lt, nI_le0, nI_clamp, nI_pd, nI_sb, zOf_some, zOp_some, zOp_none, kI_int, kL_long, kO_ref, kO_null, nlt_T, nlt_F, nle_T, nle_F, neq_F, vpT, azUp_at, if_true, if_false, true_and, and_true, true_implies, false_implies, implies_true, not_true_eq_false, not_false_eq_true, true_or, or_true, false_or, or_false, and_false, false_and, eq_self, n01_0, n01_1, nm1_0, hpos, k6]
        refine fin _ ?_
        unfold reF
        rw [decide_eq_false c]
        rfl
  refine BX7_firstStuck_0 hR ⟨k0, S_among hR hW hS hc hk ?_⟩
  rw [kI_int, hLe]
  exact p1 L 0 I (Nat.add_zero _) (fun _ _ => rfl) fun i hi => absurd hi (Nat.not_lt_zero _)
end S7
