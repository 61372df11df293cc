/-! SPECS: Tape.readSum and Tape.readFactor. -/
def facSpec (R : azP) (D n z : Nat) (kd : azK) (J : azJ) (F : azR) (I0 : azI) (a r : Nat) (t : List Nat) (kb : Nat) (cs : List Cls) (xb : Int32) (fac : Nat → PR Ex) : Prop :=
  ∀ (I : azI) (i : Nat) (pd : List Nat) (Q : azQ), rdOk I0 a r t kb cs pd i I → (rCode cs ++ pd).length ≤ i → i ≤ t.length → rdPost I0 a r t kb cs pd (fun I' => ((n, z, kd), I', J, F)) Q (fac i) → R D mX6_readFactor 0 [.ref a, .int xb, .retAddr 0, .retAddr 0] [] ((n, z, kd), I, J, F) Q
def sumSpec (R : azP) (D n z : Nat) (kd : azK) (J : azJ) (F : azR) (I0 : azI) (a r : Nat) (t : List Nat) (kb : Nat) (cs : List Cls) (xb : Int32) (ex : Nat → PR Ex) : Prop :=
  ∀ (I : azI) (i : Nat) (pd : List Nat) (Q : azQ), rdOk I0 a r t kb cs pd i I → (rCode cs ++ pd).length ≤ i → i ≤ t.length → rdPost I0 a r t kb cs pd (fun I' => ((n, z, kd), I', J, F)) Q (ex i) → R D mX6_readSum 0 [.ref a, .int xb, .retAddr 0, .retAddr 0, .retAddr 0, .retAddr 0] [] ((n, z, kd), I, J, F) Q
def gCo (L : Option (Nat × Ex)) : List Nat := match L with
  | none => []
  | some w => exPost w.2
def gWa (L : Option (Nat × Ex)) : Nat := match L with
  | none => 0
  | some w => w.1
def gLn (L : Option (Nat × Ex)) : Nat := match L with
  | none => 0
  | some _ => 1
def gDo (P : Option Ex) : List Nat := match P with
  | none => []
  | some p => exPost p
def gMu (P : Option Ex) : Nat := match P with
  | none => 0
  | some _ => 1
section S6
variable {R : azP} {D d n z : Nat} {kd : azK} {I : azI} {J : azJ} {F : azR} {Q : azQ} {a r : Nat} {t : List Nat} {cs : List Cls} {kb i : Nat} {I0 : azI} {pd : List Nat}
theorem rdOk.cast {pd' : List Nat} (h : rdOk I0 a r t kb cs pd i I) (e : pd = pd') : rdOk I0 a r t kb cs pd' i I := e ▸ h
/-- a product is whole: what waits is added, and the loop goes on or ends -/
theorem L_sum77 (hR : azClosed R) (hM : TpOk kd F a r) (ht : tOK t) {xb : Int32} {fac : Nat → PR Ex} {m : Nat} {S : Ex} {x2 x3 : Int32} {k : Nat} (hk : k < 80) (hi : i ≤ t.length) (h0 : rdOk I0 a r t kb cs (pd ++ exPost S) i I) (hl : (rCode cs ++ pd ++ exPost S).length ≤ i) (hx3 : x3 = nI 0)
    (hP : rdPost I0 a r t kb cs pd (fun I' => ((n, z, kd), I', J, F)) Q (if tb t i = 43 ∨ tb t i = 45 then gLo fac t m (some (tb t i, S)) none (i + 1) else .ok (S, i)))
    (ih : ∀ (I : azI) (w5 : Value) (w : Nat), (w = 43 ∨ w = 45) → i + 1 ≤ t.length → rdOk I0 a r t kb cs (pd ++ exPost S) (i + 1) I → rdPost I0 a r t kb cs pd (fun I' => ((n, z, kd), I', J, F)) Q (gLo fac t m (some (w, S)) none (i + 1)) → R (D + 1) mX6_readSum 7 [.ref a, .int xb, .int (nI w), .int (nI 0), .int (nI (k + 1)), w5] [] ((n, z, kd), I, J, F) Q) :
    R (D + 1) mX6_readSum 77 [.ref a, .int xb, .int x2, .int x3, .int (nI k), .int (nI (tb t i))] [] ((n, z, kd), I, J, F) Q := by
  subst hx3
  have hb := tb_lt ht (i := i)
  have h93 : (tb t i = 43 ∨ tb t i = 45) → R (D + 1) mX6_readSum 93 [.ref a, .int xb, .int x2, .int (nI 0), .int (nI k), .int (nI (tb t i))] [] ((n, z, kd), I, J, F) Q := by
    intro c
    rw [if_pos c] at hP
    have hlt := tb_len (t := t) (i := i) (by omega)
    refine BX6_readSum_93 hR ?_
    simp (disch := omega) only [nI_ad, nI_ml, nI_lti, nI_lei, nI_eqi, nI_nn, nI_0le, nI_eq0, nI_0lt, nI_le0, nI_clamp, nI_pd, nI_sb, zOf_some, zOp_some, zOp_none, kI_int, kL_long, kO_ref, kO_null, nlt_T, nlt_F, nle_T, nle_F, neq_F, vpT, azUp_at, if_true, if_false, true_and, and_true, true_implies, false_implies, implies_true, not_true_eq_false, not_false_eq_true, true_or, or_true, false_or, or_false, and_false, false_and, eq_self, n01_0, n01_1, nm1_0, hM.1, h0.1.2.1]
    exact ih _ _ _ c (by omega) (h0.up hM.2.2.2.2.2 (i + 1)) hP
  refine BX6_readSum_77 hR ?_
  by_cases c1 : tb t i = 43
  · have := h93 (Or.inl c1)
    rw [c1] at this ⊢
    simp (disch := omega) only [nI_ad, nI_ml, nI_lti, nI_lei, nI_eqi, nI_nn, nI_0le, nI_eq0, nI_0lt, nI_le0, nI_clamp, nI_pd, nI_sb, zOf_some, zOp_some, zOp_none, kI_int, kL_long, kO_ref, kO_null, nlt_T, nlt_F, nle_T, nle_F, neq_F, vpT, azUp_at, if_true, if_false, true_and, and_true, true_implies, false_implies, implies_true, not_true_eq_false, not_false_eq_true, true_or, or_true, false_or, or_false, and_false, false_and, eq_self, n01_0, n01_1, nm1_0]
    exact this
  · by_cases c2 : tb t i = 45
    · have := h93 (Or.inr c2)
      rw [c2] at this ⊢
      simp (disch := omega) only [nI_ad, nI_ml, nI_lti, nI_lei, nI_eqi, nI_nn, nI_0le, nI_eq0, nI_0lt, nI_le0, nI_clamp, nI_pd, nI_sb, zOf_some, zOp_some, zOp_none, kI_int, kL_long, kO_ref, kO_null, nlt_T, nlt_F, nle_T, nle_F, neq_F, vpT, azUp_at, if_true, if_false, true_and, and_true, true_implies, false_implies, implies_true, not_true_eq_false, not_false_eq_true, true_or, or_true, false_or, or_false, and_false, false_and, eq_self, n01_0, n01_1, nm1_0]
      exact this
    · rw [if_neg (by omega)] at hP
      simp (disch := omega) only [nI_ad, nI_ml, nI_lti, nI_lei, nI_eqi, nI_nn, nI_0le, nI_eq0, nI_0lt, nI_le0, nI_clamp, nI_pd, nI_sb, zOf_some, zOp_some, zOp_none, kI_int, kL_long, kO_ref, kO_null, nlt_T, nlt_F, nle_T, nle_F, neq_F, vpT, azUp_at, if_true, if_false, true_and, and_true, true_implies, false_implies, implies_true, not_true_eq_false, not_false_eq_true, true_or, or_true, false_or, or_false, and_false, false_and, eq_self, n01_0, n01_1, nm1_0, neq_F (a := tb t i) (b := 43), neq_F (a := tb t i) (b := 45)]
      exact hP I h0
theorem L_sum (hR : azClosed R) (hM : TpOk kd F a r) (ht : tOK t) {xb : Int32} {fac : Nat → PR Ex} (hg : PG kb fac t) (hF : facSpec R D n z kd J F I0 a r t kb cs xb fac) : ∀ (m k : Nat) (L : Option (Nat × Ex)) (P : Option Ex) (I : azI) (i : Nat) (w5 : Value), m + k = 80 → (∀ w, L = some w → w.1 = 43 ∨ w.1 = 45) → rdOk I0 a r t kb cs (pd ++ gCo L ++ gDo P) i I → (rCode cs ++ (pd ++ gCo L ++ gDo P)).length + gMu P + gLn L ≤ i → i ≤ t.length → rdPost I0 a r t kb cs pd (fun I' => ((n, z, kd), I', J, F)) Q (gLo fac t m L P i) → R (D + 1) mX6_readSum 7 [.ref a, .int xb, .int (nI (gWa L)), .int (nI (gMu P)), .int (nI k), w5] [] ((n, z, kd), I, J, F) Q := by
  have ⟨k0, k1, f0, f5, hr, hd⟩ := hM
  have htl := ht.1
  intro m
  induction m with
  | zero =>
    intro k L P I i w5 hk hL h0 hl hi hP
    obtain rfl : k = 80 := by omega
    refine BX6_readSum_7 hR ?_
    simp (disch := omega) only [nI_ad, nI_ml, nI_lti, nI_lei, nI_eqi, nI_nn, nI_0le, nI_eq0, nI_0lt, nI_le0, nI_clamp, nI_pd, nI_sb, zOf_some, zOp_some, zOp_none, kI_int, kL_long, kO_ref, kO_null, nlt_T, nlt_F, nle_T, nle_F, neq_F, vpT, azUp_at, if_true, if_false, true_and, and_true, true_implies, false_implies, implies_true, not_true_eq_false, not_false_eq_true, true_or, or_true, false_or, or_false, and_false, false_and, eq_self, n01_0, n01_1, nm1_0, k0, h0.1.2.1]
    refine S_fail hR hM ?_
    simp (disch := omega) only [nI_ad, nI_ml, nI_lti, nI_lei, nI_eqi, nI_nn, nI_0le, nI_eq0, nI_0lt, nI_le0, nI_clamp, nI_pd, nI_sb, zOf_some, zOp_some, zOp_none, kI_int, kL_long, kO_ref, kO_null, nlt_T, nlt_F, nle_T, nle_F, neq_F, vpT, azUp_at, if_true, if_false, true_and, and_true, true_implies, false_implies, implies_true, not_true_eq_false, not_false_eq_true, true_or, or_true, false_or, or_false, and_false, false_and, eq_self, n01_0, n01_1, nm1_0]
    exact hP _ (h0.fail i)
  | succ m ih =>
    intro k L P I i w5 hk hL h0 hl hi hP
    unfold gLo at hP
    have hgi := hg i hi
    have hwa : gWa L < 100 := by
      cases L with
      | none => decide
      | some w => have := hL w rfl; simp only [gWa]; omega
    have hmu : gMu P < 2 := by cases P <;> simp [gMu]
    refine BX6_readSum_7 hR ?_
    simp (disch := omega) only [nI_ad, nI_ml, nI_lti, nI_lei, nI_eqi, nI_nn, nI_0le, nI_eq0, nI_0lt, nI_le0, nI_clamp, nI_pd, nI_sb, zOf_some, zOp_some, zOp_none, kI_int, kL_long, kO_ref, kO_null, nlt_T, nlt_F, nle_T, nle_F, neq_F, vpT, azUp_at, if_true, if_false, true_and, and_true, true_implies, false_implies, implies_true, not_true_eq_false, not_false_eq_true, true_or, or_true, false_or, or_false, and_false, false_and, eq_self, n01_0, n01_1, nm1_0, k0]
    refine hF I i _ _ h0 (by omega) hi ?_
    revert hP hgi
    cases fac i with
    | error e =>
      intro hP hgi I' hI'
      rw [pb_er] at hP
      simp (disch := omega) only [nI_ad, nI_ml, nI_lti, nI_lei, nI_eqi, nI_nn, nI_0le, nI_eq0, nI_0lt, nI_le0, nI_clamp, nI_pd, nI_sb, zOf_some, zOp_some, zOp_none, kI_int, kL_long, kO_ref, kO_null, nlt_T, nlt_F, nle_T, nle_F, neq_F, vpT, azUp_at, if_true, if_false, true_and, and_true, true_implies, false_implies, implies_true, not_true_eq_false, not_false_eq_true, true_or, or_true, false_or, or_false, and_false, false_and, eq_self, n01_0, n01_1, nm1_0]
      exact hP I' hI'
    | ok x =>
      intro hP hgi I' hI'
      rw [pb_ok] at hP
      obtain ⟨g1, g2, g3, g4⟩ := hgi
      -- the product with this factor
      have h38 : ∀ I', rdOk I0 a r t kb cs (pd ++ gCo L ++ exPost (gPr P x.1)) x.2 I' → (rCode cs ++ (pd ++ gCo L ++ exPost (gPr P x.1))).length + gLn L ≤ x.2 → R (D + 1) mX6_readSum 38 [.ref a, .int xb, .int (nI (gWa L)), .int (nI (gMu P)), .int (nI k), w5] [] ((n, z, kd), I', J, F) Q := by
        intro I' h1 hl1
        refine BX6_readSum_38 hR ?_
        simp (disch := omega) only [nI_ad, nI_ml, nI_lti, nI_lei, nI_eqi, nI_nn, nI_0le, nI_eq0, nI_0lt, nI_le0, nI_clamp, nI_pd, nI_sb, zOf_some, zOp_some, zOp_none, kI_int, kL_long, kO_ref, kO_null, nlt_T, nlt_F, nle_T, nle_F, neq_F, vpT, azUp_at, if_true, if_false, true_and, and_true, true_implies, false_implies, implies_true, not_true_eq_false, not_false_eq_true, true_or, or_true, false_or, or_false, and_false, false_and, eq_self, n01_0, n01_1, nm1_0, k0]
        refine S_peek hR hM ht h1.1 g2 ?_
        have hb := tb_lt ht (i := x.2)
        by_cases c1 : tb t x.2 = 42
        · rw [if_pos c1] at hP
          have hlt := tb_len (t := t) (i := x.2) (by omega)
          rw [c1]
          simp (disch := omega) only [nI_ad, nI_ml, nI_lti, nI_lei, nI_eqi, nI_nn, nI_0le, nI_eq0, nI_0lt, nI_le0, nI_clamp, nI_pd, nI_sb, zOf_some, zOp_some, zOp_none, kI_int, kL_long, kO_ref, kO_null, nlt_T, nlt_F, nle_T, nle_F, neq_F, vpT, azUp_at, if_true, if_false, true_and, and_true, true_implies, false_implies, implies_true, not_true_eq_false, not_false_eq_true, true_or, or_true, false_or, or_false, and_false, false_and, eq_self, n01_0, n01_1, nm1_0, k0, h1.1.2.1]
          refine ih (k + 1) L (some (gPr P x.1)) _ (x.2 + 1) _ (by omega) hL (h1.up hd (x.2 + 1)) ?_ (by omega) hP
          simp only [gMu, gDo]
          omega
        · rw [if_neg c1] at hP
          simp (disch := omega) only [nI_ad, nI_ml, nI_lti, nI_lei, nI_eqi, nI_nn, nI_0le, nI_eq0, nI_0lt, nI_le0, nI_clamp, nI_pd, nI_sb, zOf_some, zOp_some, zOp_none, kI_int, kL_long, kO_ref, kO_null, nlt_T, nlt_F, nle_T, nle_F, neq_F, vpT, azUp_at, if_true, if_false, true_and, and_true, true_implies, false_implies, implies_true, not_true_eq_false, not_false_eq_true, true_or, or_true, false_or, or_false, and_false, false_and, eq_self, n01_0, n01_1, nm1_0, neq_F (a := tb t x.2) (b := 42)]
          cases L with
          | none =>
            simp only [gWa] at hl1 ⊢
            simp (disch := omega) only [nI_ad, nI_ml, nI_lti, nI_lei, nI_eqi, nI_nn, nI_0le, nI_eq0, nI_0lt, nI_le0, nI_clamp, nI_pd, nI_sb, zOf_some, zOp_some, zOp_none, kI_int, kL_long, kO_ref, kO_null, nlt_T, nlt_F, nle_T, nle_F, neq_F, vpT, azUp_at, if_true, if_false, true_and, and_true, true_implies, false_implies, implies_true, not_true_eq_false, not_false_eq_true, true_or, or_true, false_or, or_false, and_false, false_and, eq_self, n01_0, n01_1, nm1_0, k0]
            refine L_sum77 hR hM ht (S := gSu none (gPr P x.1)) (by omega) g2 (h1.cast (by simp [gCo, gSu])) ?_ rfl hP fun I w5 w hw hi2 h2 hP2 => ih (k + 1) (some (w, _)) none I _ w5 (by omega) (fun w' e => by cases e; exact hw) (h2.cast (by simp [gCo, gDo])) ?_ hi2 hP2
            · simp only [gCo, gSu, List.append_nil, List.length_append] at hl1 ⊢
              omega
            · simp only [gCo, gDo, gSu, gMu, gLn, List.append_nil, List.length_append] at hl1 ⊢
              omega
          | some w =>
            have hw := hL w rfl
            simp only [gWa, gLn] at hl1 hwa ⊢
            simp (disch := omega) only [nI_ad, nI_ml, nI_lti, nI_lei, nI_eqi, nI_nn, nI_0le, nI_eq0, nI_0lt, nI_le0, nI_clamp, nI_pd, nI_sb, zOf_some, zOp_some, zOp_none, kI_int, kL_long, kO_ref, kO_null, nlt_T, nlt_F, nle_T, nle_F, neq_F, vpT, azUp_at, if_true, if_false, true_and, and_true, true_implies, false_implies, implies_true, not_true_eq_false, not_false_eq_true, true_or, or_true, false_or, or_false, and_false, false_and, eq_self, n01_0, n01_1, nm1_0, k0, f5, hr.1, neq_F (a := w.1) (b := 0)]
            refine S_item1 hR hM h1 (by simp only [List.length_append] at hl1 ⊢; omega) fun I2 h2 => ⟨rfl, ?_⟩
            refine L_sum77 hR hM ht (S := gSu (some w) (gPr P x.1)) (by omega) g2 (h2.cast (by simp [gCo, gSu, exPost])) ?_ rfl hP fun I w5 w' hw' hi2 h2 hP2 => ih (k + 1) (some (w', _)) none I _ w5 (by omega) (fun w'' e => by cases e; exact hw') (h2.cast (by simp [gCo, gDo])) ?_ hi2 hP2
            · simp only [gCo, gSu, exPost, List.append_nil, List.length_append, List.length_cons, List.length_nil] at hl1 ⊢
              omega
            · simp only [gCo, gDo, gSu, gMu, gLn, exPost, List.append_nil, List.length_append, List.length_cons, List.length_nil] at hl1 ⊢
              omega
      cases P with
      | none =>
        simp only [gMu]
        simp (disch := omega) only [nI_ad, nI_ml, nI_lti, nI_lei, nI_eqi, nI_nn, nI_0le, nI_eq0, nI_0lt, nI_le0, nI_clamp, nI_pd, nI_sb, zOf_some, zOp_some, zOp_none, kI_int, kL_long, kO_ref, kO_null, nlt_T, nlt_F, nle_T, nle_F, neq_F, vpT, azUp_at, if_true, if_false, true_and, and_true, true_implies, false_implies, implies_true, not_true_eq_false, not_false_eq_true, true_or, or_true, false_or, or_false, and_false, false_and, eq_self, n01_0, n01_1, nm1_0]
        refine h38 I' (hI'.cast (by simp [gDo, gPr])) ?_
        simp only [gMu, gDo, gPr, List.length_append, List.append_nil] at hl ⊢
        omega
      | some p =>
        simp only [gMu]
        simp (disch := omega) only [nI_ad, nI_ml, nI_lti, nI_lei, nI_eqi, nI_nn, nI_0le, nI_eq0, nI_0lt, nI_le0, nI_clamp, nI_pd, nI_sb, zOf_some, zOp_some, zOp_none, kI_int, kL_long, kO_ref, kO_null, nlt_T, nlt_F, nle_T, nle_F, neq_F, vpT, azUp_at, if_true, if_false, true_and, and_true, true_implies, false_implies, implies_true, not_true_eq_false, not_false_eq_true, true_or, or_true, false_or, or_false, and_false, false_and, eq_self, n01_0, n01_1, nm1_0, k0, f5, hr.1]
        simp only [gMu, gDo, List.length_append] at hl
        refine S_item1 hR hM hI' (by simp only [gDo, List.length_append] at hl ⊢; omega) fun I2 h2 => ⟨rfl, h38 I2 (h2.cast (by simp [gDo, gPr, exPost])) ?_⟩
        simp only [gPr, exPost, List.length_append, List.length_cons, List.length_nil] at hl ⊢
        omega
end S6
