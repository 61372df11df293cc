/-! SPECS: Firing.goes. -/
theorem bnL_mem {cs : List Cls} {m : Nat → List Nat} : ∀ (w : Nat) (ch : List Nat), ch.length + w = nTk cs → bOK cs m ch → ∀ x ∈ bnL cs m w ch, x.length = nTk cs ∧ bOK cs m x := by
  intro w
  induction w with
  | zero =>
    intro ch hl hok x hx
    unfold bnL at hx
    by_cases c : cndB (nmF cs m (fun h => ch.getD h 0)) cs = true
    · rw [if_pos c, List.mem_singleton] at hx
      subst hx
      exact ⟨hl, hok⟩
    · rw [if_neg c] at hx
      exact absurd hx List.not_mem_nil
  | succ w ih =>
    intro ch hl hok x hx
    unfold bnL at hx
    obtain ⟨i, hi, hx⟩ := List.mem_flatMap.mp hx
    have hi := List.mem_range.mp hi
    by_cases c : frB cs m (fun h => ch.getD h 0) ch.length i = true
    · rw [if_pos c] at hx
      exact ih (ch ++ [i]) (by rw [List.length_append, List.length_cons, List.length_nil]; omega) (hok.app hi c) x hx
    · rw [if_neg c] at hx
      exact absurd hx List.not_mem_nil
theorem bnds_mem {cs : List Cls} {m : Nat → List Nat} {x : List Nat} (h : x ∈ bnds cs m) : x.length = nTk cs ∧ bOK cs m x := bnL_mem (nTk cs) [] (Nat.zero_add _) (fun k hk => absurd hk (Nat.not_lt_zero _)) x h
/-- the gives, in order; none if there is no room -/
def gvA (nm : Nat → Int32) : List Cls → (Nat → List Nat) → Option (Nat → List Nat)
  | [], M => some M
  | c :: l, M => if (M c.2.1).length < 6 then gvA nm l (mUp M c.2.1 (M c.2.1 ++ [fm (exEv nm (cEx c))])) else none
/-- what is behind a part's going, if it can -/
def fire (cs : List Cls) (m : Nat → List Nat) : Option (Nat → List Nat) := match bnds cs m with
  | [] => none
  | ch :: _ => gvA (nmF cs m (lF ch)) (rOf 2 cs) (lfM cs (lF ch) m)
theorem gvA_ok {nm : Nat → Int32} : ∀ (l : List Cls) (M M' : Nat → List Nat), (∀ c ∈ l, c.2.1 < 10) → mOK M → gvA nm l M = some M' → mOK M' := by
  intro l
  induction l with
  | nil => intro M M' _ h e; cases e; exact h
  | cons c l ih =>
    intro M M' hl h e
    unfold gvA at e
    by_cases c1 : (M c.2.1).length < 6
    · rw [if_pos c1] at e
      refine ih _ _ (fun x hx => hl x (List.mem_cons_of_mem _ hx)) (h.up (hl c (List.mem_cons_self ..)) (by rw [List.length_append, List.length_cons, List.length_nil]; omega) fun t ht => ?_) e
      rcases List.mem_append.mp ht with ht | ht
      · exact (h.1 _).2 t ht
      · rw [List.mem_singleton] at ht; subst ht; exact fm_lt _
    · rw [if_neg c1] at e; cases e
theorem fire_ok {cs : List Cls} {m M : Nat → List Nat} (ho : rlOK cs) (hv : mOK m) (h : fire cs m = some M) : mOK M := by
  unfold fire at h
  revert h
  split
  · intro h; cases h
  · intro h
    exact gvA_ok _ _ _ (fun c hc => (ho.2.2.2.2.2.2 c (List.mem_filter.mp hc).1).2.1) (lfM_ok hv) h
section S1
variable {R : azP} {d n z : Nat} {kd : azK} {I : azI} {J : azJ} {F : azR} {Q : azQ} {a r b e : Nat} {cs : List Cls} {m : Nat → List Nat}
theorem S_bind (hR : azClosed R) (hF : FiOk kd F a) (hM : RuOk kd F r) (hK : MkOk kd F b) (hra : a + 3 < r) (hba : b + 2 < a ∨ a + 3 < b) (hm : cM I b m) (hv : mOK m) (hc : cR I r cs []) (ho : rlOK cs) (one : Bool) (h : ∀ I', (∀ c, c ≠ a + 1 → c ≠ a + 2 → c ≠ a + 3 → I' c = I c) → (one = true → ∀ x l, bnds cs m = x :: l → bInv cs m a I' x) → Q (some (.int (nI (cnt one (bnds cs m))))) ((n, z, kd), I', J, F)) : R (d + 6) mX1_bindFrom 0 [.ref a, .ref r, .ref b, .int (nI 0), .int (nI (if one then 1 else 0)), .retAddr 0, .retAddr 0, .retAddr 0, .retAddr 0, .retAddr 0] [] ((n, z, kd), I, J, F) Q := by
  have h3 : nTk cs ≤ 3 := ho.2.2.2.1
  have ed : d + 6 = d + (3 - nTk cs) + nTk cs + 3 := by omega
  rw [ed]
  exact S_bindFrom hR hF hM hK hra hba hv ho one (nTk cs) [] I Q (Nat.zero_add _) hm hc (fun k hk => absurd hk (Nat.not_lt_zero _)) (fun k hk => absurd hk (Nat.not_lt_zero _)) fun I' hp => h I' hp.1 hp.2.2
theorem S_countBindings (hR : azClosed R) (hF : FiOk kd F a) (hM : RuOk kd F r) (hK : MkOk kd F b) (hra : a + 3 < r) (hba : b + 2 < a ∨ a + 3 < b) (hm : cM I b m) (hv : mOK m) (hc : cR I r cs []) (ho : rlOK cs) (h : ∀ I', (∀ c, c ≠ a + 1 → c ≠ a + 2 → c ≠ a + 3 → I' c = I c) → Q (some (.int (nI (bnds cs m).length))) ((n, z, kd), I', J, F)) : R (d + 7) mX1_countBindings 0 [.ref a, .ref r, .ref b] [] ((n, z, kd), I, J, F) Q := by
  refine BX1_countBindings_0 hR ⟨hF.1, ?_⟩
  exact S_bind hR hF hM hK hra hba hm hv hc ho false fun I' hf _ => h I' hf
theorem S_bindFirst (hR : azClosed R) (hF : FiOk kd F a) (hM : RuOk kd F r) (hK : MkOk kd F b) (hra : a + 3 < r) (hba : b + 2 < a ∨ a + 3 < b) (hm : cM I b m) (hv : mOK m) (hc : cR I r cs []) (ho : rlOK cs) (h : ∀ I', (∀ c, c ≠ a + 1 → c ≠ a + 2 → c ≠ a + 3 → I' c = I c) → (∀ x l, bnds cs m = x :: l → bInv cs m a I' x) → Q (some (.int (nI (if bnds cs m = [] then 0 else 1)))) ((n, z, kd), I', J, F)) : R (d + 7) mX1_bindFirst 0 [.ref a, .ref r, .ref b] [] ((n, z, kd), I, J, F) Q := by
  refine BX1_bindFirst_0 hR ⟨hF.1, ?_⟩
  refine S_bind hR hF hM hK hra hba hm hv hc ho true fun I' hf hx => ?_
  have h := h I' hf (hx rfl)
  revert h
  cases bnds cs m with
  | nil =>
    intro h
    have e : nI (cnt true ([] : List (List Nat))) = nI 0 := rfl
    rw [e]
    simp (disch := omega) only [nI_ad, nI_ml, nI_lti, nI_lei, nI_eqi, nI_nn, nI_0le, nI_eq0, nI_0lt, nI_le0, nI_clamp, nI_pd, nI_sb, zOf_some, zOp_some, zOp_none, kI_int, kL_long, kO_ref, kO_null, nlt_T, nlt_F, nle_T, nle_F, neq_F, vpT, azUp_at, if_true, if_false, true_and, and_true, true_implies, false_implies, implies_true, not_true_eq_false, not_false_eq_true, true_or, or_true, false_or, or_false, and_false, false_and, eq_self, n01_0, n01_1, nm1_0]
    exact h
  | cons x l =>
    intro h
    have e : nI (cnt true (x :: l)) = nI 1 := by
      unfold cnt
      rw [if_pos rfl, List.length_cons, Nat.min_eq_left (by omega)]
    rw [e]
    simp (disch := omega) only [nI_ad, nI_ml, nI_lti, nI_lei, nI_eqi, nI_nn, nI_0le, nI_eq0, nI_0lt, nI_le0, nI_clamp, nI_pd, nI_sb, zOf_some, zOp_some, zOp_none, kI_int, kL_long, kO_ref, kO_null, nlt_T, nlt_F, nle_T, nle_F, neq_F, vpT, azUp_at, if_true, if_false, true_and, and_true, true_implies, false_implies, implies_true, not_true_eq_false, not_false_eq_true, true_or, or_true, false_or, or_false, and_false, false_and, eq_self, n01_0, n01_1, nm1_0]
    exact h
theorem S_chosenFor (hR : azClosed R) (hF : FiOk kd F a) {k : Nat} (hk : k < 3) (h : Q (some (.int (I (a + 1) k))) ((n, z, kd), I, J, F)) : R d mX1_chosenFor 0 [.ref a, .int (nI k)] [] ((n, z, kd), I, J, F) Q := by
  have ⟨k0, k1, k2, k3, f0, f1, f2⟩ := hF
  refine BX1_chosenFor_0 hR ?_
  simp (disch := omega) only [nI_ad, nI_ml, nI_lti, nI_lei, nI_eqi, nI_nn, nI_0le, nI_eq0, nI_0lt, nI_le0, nI_clamp, nI_pd, nI_sb, zOf_some, zOp_some, zOp_none, kI_int, kL_long, kO_ref, kO_null, nlt_T, nlt_F, nle_T, nle_F, neq_F, vpT, azUp_at, if_true, if_false, true_and, and_true, true_implies, false_implies, implies_true, not_true_eq_false, not_false_eq_true, true_or, or_true, false_or, or_false, and_false, false_and, eq_self, n01_0, n01_1, nm1_0, k0, k1, f0]
  exact h
theorem S_goesNull (hR : azClosed R) {w2 w3 : Value} {σ : azS} (h : Q (some (.int (nI 0))) σ) : R d mX1_goes 0 [.ref a, .null, w2, w3, .retAddr 0, .retAddr 0, .retAddr 0] [] σ Q := by
  obtain ⟨⟨n, z, kd⟩, I, J, F⟩ := σ
  exact hR.go [] 18 ⟨Or.inl nI_0, h⟩
theorem S_goes (hR : azClosed R) (hF : FiOk kd F a) (hM : RuOk kd F r) (hK : MkOk kd F b) (hE : MkOk kd F e) (hbe : b + 2 < e ∨ e + 2 < b) (hra : a + 3 < r) (hba : b + 2 < a ∨ a + 3 < b) (hae : e + 2 < a ∨ a + 3 < e) (her : e + 2 < r) (hm : cM I b m) (hv : mOK m) (hc : cR I r cs []) (ho : rlOK cs)
    (h : ∀ I', (∀ c, c ≠ a + 1 → c ≠ a + 2 → c ≠ a + 3 → c ≠ e + 1 → c ≠ e + 2 → I' c = I c) → (∀ M, fire cs m = some M → cM I' e M) → Q (some (.int (nI (if (fire cs m).isSome then 1 else 0)))) ((n, z, kd), I', J, F)) : R (d + 7) mX1_goes 0 [.ref a, .ref r, .ref b, .ref e, .retAddr 0, .retAddr 0, .retAddr 0] [] ((n, z, kd), I, J, F) Q := by
  have ⟨k0, k1, k2, k3, f0, f1, f2⟩ := hF
  have ke3 : (kd e).1 = 3 := by rw [hE.1]
  refine BX1_goes_0 hR ⟨hF.1, ?_⟩
  refine S_bind hR hF hM hK hra hba hm hv hc ho true fun I1 hf hx => ?_
  cases hb : bnds cs m with
  | nil =>
    have ef : fire cs m = none := by unfold fire; rw [hb]
    have e0 : nI (cnt true ([] : List (List Nat))) = nI 0 := rfl
    rw [ef] at h
    rw [e0]
    simp (disch := omega) only [nI_ad, nI_ml, nI_lti, nI_lei, nI_eqi, nI_nn, nI_0le, nI_eq0, nI_0lt, nI_le0, nI_clamp, nI_pd, nI_sb, zOf_some, zOp_some, zOp_none, kI_int, kL_long, kO_ref, kO_null, nlt_T, nlt_F, nle_T, nle_F, neq_F, vpT, azUp_at, if_true, if_false, true_and, and_true, true_implies, false_implies, implies_true, not_true_eq_false, not_false_eq_true, true_or, or_true, false_or, or_false, and_false, false_and, eq_self, n01_0, n01_1, nm1_0]
    exact h I1 (fun c h1 h2 h3 _ _ => hf c h1 h2 h3) fun M hM => by cases hM
  | cons ch l =>
    have e0 : nI (cnt true (ch :: l)) = nI 1 := by
      unfold cnt
      rw [if_pos rfl, List.length_cons, Nat.min_eq_left (by omega)]
    have ef : fire cs m = gvA (nmF cs m (lF ch)) (rOf 2 cs) (lfM cs (lF ch) m) := by unfold fire; rw [hb]
    obtain ⟨hcl, hok⟩ := bnds_mem (cs := cs) (m := m) (x := ch) (by rw [hb]; exact List.mem_cons_self ..)
    have hbi := hx rfl ch l hb
    rw [e0]
    simp (disch := omega) only [nI_ad, nI_ml, nI_lti, nI_lei, nI_eqi, nI_nn, nI_0le, nI_eq0, nI_0lt, nI_le0, nI_clamp, nI_pd, nI_sb, zOf_some, zOp_some, zOp_none, kI_int, kL_long, kO_ref, kO_null, nlt_T, nlt_F, nle_T, nle_F, neq_F, vpT, azUp_at, if_true, if_false, true_and, and_true, true_implies, false_implies, implies_true, not_true_eq_false, not_false_eq_true, true_or, or_true, false_or, or_false, and_false, false_and, eq_self, n01_0, n01_1, nm1_0, k0]
    have hc1 : cR I1 r cs [] := hc.keep fun c h1 h2 => hf c (by omega) (by omega) (by omega)
    have hm1 : cM I1 b m := hm.keep (hf _ (by omega) (by omega) (by omega)) (hf _ (by omega) (by omega) (by omega))
    refine S_copyLeft hR hF hM hK hE hbe hae her hm1 hv hc1 ho (ch := lF ch) (fun k hk => ⟨(hbi k (by omega)).1, ?_⟩) fun I2 hm2 hf2 => ⟨rfl, ?_⟩
    · have := (hok k (by omega)).1
      have := (hv.1 (tkP cs k)).1
      omega
    have hg3 : nGv cs ≤ 3 := ho.2.2.2.2.1
    have hgl : nGv cs = (rOf 2 cs).length := rOf_len 2 0 cs
    have main : ∀ (rest pre : List Cls) (I3 : azI) (M : Nat → List Nat) (w5 w6 : Value), pre ++ rest = rOf 2 cs → cM I3 e M → mOK M → (∀ c, c ≠ a + 3 → c ≠ e + 1 → c ≠ e + 2 → I3 c = I1 c) → gvA (nmF cs m (lF ch)) rest M = fire cs m → R (d + 7) mX1_goes 27 [.ref a, .ref r, .ref b, .ref e, .int (nI pre.length), w5, w6] [] ((n, z, kd), I3, J, F) Q := by
      intro rest
      induction rest with
      | nil =>
        intro pre I3 M w5 w6 hp hcM hM3 hf3 hg
        rw [List.append_nil] at hp
        have e2 : I3 r 2 = nI (nGv cs) := by rw [hf3 r (by omega) (by omega) (by omega)]; exact hc1.2.2.1
        have hl : pre.length = nGv cs := by rw [hp, hgl]
        refine BX1_goes_27 hR ?_
        simp (disch := omega) only [nI_ad, nI_ml, nI_lti, nI_lei, nI_eqi, nI_nn, nI_0le, nI_eq0, nI_0lt, nI_le0, nI_clamp, nI_pd, nI_sb, zOf_some, zOp_some, zOp_none, kI_int, kL_long, kO_ref, kO_null, nlt_T, nlt_F, nle_T, nle_F, neq_F, vpT, azUp_at, if_true, if_false, true_and, and_true, true_implies, false_implies, implies_true, not_true_eq_false, not_false_eq_true, true_or, or_true, false_or, or_false, and_false, false_and, eq_self, n01_0, n01_1, nm1_0, hM.1, e2]
        have := h I3 (fun c h1 h2 h3 h4 h5 => by rw [hf3 c h3 h4 h5, hf c h1 h2 h3]) fun M' hM' => by
          rw [← hg] at hM'
          unfold gvA at hM'
          cases hM'
          exact hcM
        rw [← hg] at this
        exact this
      | cons c rest ih =>
        intro pre I3 M w5 w6 hp hcM hM3 hf3 hg
        have e2 : I3 r 2 = nI (nGv cs) := by rw [hf3 r (by omega) (by omega) (by omega)]; exact hc1.2.2.1
        have hl : pre.length < nGv cs := by rw [hgl, ← hp, List.length_append, List.length_cons]; omega
        obtain ⟨l1, c', l2, x1, x2, x3, x4⟩ := rIdx_at 2 cs 0 pre.length hl
        have hcc : c' = c := by rw [← x4, ← hp]; simp
        subst hcc
        rw [Nat.zero_add] at x2
        have hc3 : cR I3 r (l1 ++ c' :: l2) [] := by
          rw [← x1]
          exact hc1.keep fun c h1 h2 => hf3 c (by omega) (by omega) (by omega)
        have hgi : I3 (r + 7) pre.length = nI l1.length := by
          have := hc3.2.2.2.2.2.2.2.2.2.2.2.2.1
          rw [← x1] at this
          rw [this.get hl, x2]
        have hcl' := ho.2.2.2.2.2.2 c' (by rw [x1]; simp)
        have hne : c'.2.2.2 ≠ [] := by
          obtain ⟨q, hq⟩ := hcl'.2.2.2.2.2.2.2 x3
          rw [hq]; simp
        have hl1 : l1.length < 12 := by
          have := ho.1
          rw [x1, List.length_append, List.length_cons] at this
          omega
        refine BX1_goes_27 hR ?_
        simp (disch := omega) only [nI_ad, nI_ml, nI_lti, nI_lei, nI_eqi, nI_nn, nI_0le, nI_eq0, nI_0lt, nI_le0, nI_clamp, nI_pd, nI_sb, zOf_some, zOp_some, zOp_none, kI_int, kL_long, kO_ref, kO_null, nlt_T, nlt_F, nle_T, nle_F, neq_F, vpT, azUp_at, if_true, if_false, true_and, and_true, true_implies, false_implies, implies_true, not_true_eq_false, not_false_eq_true, true_or, or_true, false_or, or_false, and_false, false_and, eq_self, n01_0, n01_1, nm1_0, hM.1, e2]
        refine S_giveClause hR hM (by omega) ?_
        rw [hgi]
        simp (disch := omega) only [nI_ad, nI_ml, nI_lti, nI_lei, nI_eqi, nI_nn, nI_0le, nI_eq0, nI_0lt, nI_le0, nI_clamp, nI_pd, nI_sb, zOf_some, zOp_some, zOp_none, kI_int, kL_long, kO_ref, kO_null, nlt_T, nlt_F, nle_T, nle_F, neq_F, vpT, azUp_at, if_true, if_false, true_and, and_true, true_implies, false_implies, implies_true, not_true_eq_false, not_false_eq_true, true_or, or_true, false_or, or_false, and_false, false_and, eq_self, n01_0, n01_1, nm1_0, k0]
        refine S_value hR hF hM hra hc3 (by rw [← x1]; exact ho) hne fun I4 hf4 => ?_
        have ev : exEv (fun w => I3 (a + 2) w) (cEx c') = exEv (nmF cs m (lF ch)) (cEx c') := by
          refine exEv_cong (kb := knB cs) (fun w hw => ?_) (cEx_ok hcl' hne)
          obtain ⟨j, hj, ej⟩ := kn_tk hw
          rw [← ej, nmF_eq (fun k hk => (hok k (by omega)).2) hj, hf3 (a + 2) (by omega) (by omega) (by omega)]
          exact (hbi j (by omega)).2
        rw [ev]
        simp (disch := omega) only [nI_ad, nI_ml, nI_lti, nI_lei, nI_eqi, nI_nn, nI_0le, nI_eq0, nI_0lt, nI_le0, nI_clamp, nI_pd, nI_sb, zOf_some, zOp_some, zOp_none, kI_int, kL_long, kO_ref, kO_null, nlt_T, nlt_F, nle_T, nle_F, neq_F, vpT, azUp_at, if_true, if_false, true_and, and_true, true_implies, false_implies, implies_true, not_true_eq_false, not_false_eq_true, true_or, or_true, false_or, or_false, and_false, false_and, eq_self, n01_0, n01_1, nm1_0]
        refine S_floorMod hR ?_
        simp (disch := omega) only [nI_ad, nI_ml, nI_lti, nI_lei, nI_eqi, nI_nn, nI_0le, nI_eq0, nI_0lt, nI_le0, nI_clamp, nI_pd, nI_sb, zOf_some, zOp_some, zOp_none, kI_int, kL_long, kO_ref, kO_null, nlt_T, nlt_F, nle_T, nle_F, neq_F, vpT, azUp_at, if_true, if_false, true_and, and_true, true_implies, false_implies, implies_true, not_true_eq_false, not_false_eq_true, true_or, or_true, false_or, or_false, and_false, false_and, eq_self, n01_0, n01_1, nm1_0, hM.1]
        have hpl : I4 (r + 2) l1.length = nI c'.2.1 := by
          rw [hf4 (r + 2) (by omega)]
          have := hc3.place
          unfold cPl at this
          rw [if_neg (by omega)] at this
          exact this
        refine S_place hR hM hl1 ?_
        rw [hpl]
        simp (disch := omega) only [nI_ad, nI_ml, nI_lti, nI_lei, nI_eqi, nI_nn, nI_0le, nI_eq0, nI_0lt, nI_le0, nI_clamp, nI_pd, nI_sb, zOf_some, zOp_some, zOp_none, kI_int, kL_long, kO_ref, kO_null, nlt_T, nlt_F, nle_T, nle_F, neq_F, vpT, azUp_at, if_true, if_false, true_and, and_true, true_implies, false_implies, implies_true, not_true_eq_false, not_false_eq_true, true_or, or_true, false_or, or_false, and_false, false_and, eq_self, n01_0, n01_1, nm1_0, ke3]
        have hcM4 : cM I4 e M := hcM.keep (hf4 _ (by omega)) (hf4 _ (by omega))
        unfold gvA at hg
        refine S_append hR hE hcM4 hM3 hcl'.2.1 (fun hc6 => ?_) (fun hc6 I5 hc5 hf5 => ?_)
        · rw [if_neg (by omega)] at hg
          simp (disch := omega) only [nI_ad, nI_ml, nI_lti, nI_lei, nI_eqi, nI_nn, nI_0le, nI_eq0, nI_0lt, nI_le0, nI_clamp, nI_pd, nI_sb, zOf_some, zOp_some, zOp_none, kI_int, kL_long, kO_ref, kO_null, nlt_T, nlt_F, nle_T, nle_F, neq_F, vpT, azUp_at, if_true, if_false, true_and, and_true, true_implies, false_implies, implies_true, not_true_eq_false, not_false_eq_true, true_or, or_true, false_or, or_false, and_false, false_and, eq_self, n01_0, n01_1, nm1_0]
          have := h I4 (fun c h1 h2 h3 h4 h5 => by rw [hf4 c h3, hf3 c h3 h4 h5, hf c h1 h2 h3]) fun M' hM' => by
            rw [← hg] at hM'; cases hM'
          rw [← hg] at this
          exact this
        · rw [if_pos hc6] at hg
          simp (disch := omega) only [nI_ad, nI_ml, nI_lti, nI_lei, nI_eqi, nI_nn, nI_0le, nI_eq0, nI_0lt, nI_le0, nI_clamp, nI_pd, nI_sb, zOf_some, zOp_some, zOp_none, kI_int, kL_long, kO_ref, kO_null, nlt_T, nlt_F, nle_T, nle_F, neq_F, vpT, azUp_at, if_true, if_false, true_and, and_true, true_implies, false_implies, implies_true, not_true_eq_false, not_false_eq_true, true_or, or_true, false_or, or_false, and_false, false_and, eq_self, n01_0, n01_1, nm1_0]
          have el : pre.length + 1 = (pre ++ [c']).length := by simp
          rw [el]
          refine ih (pre ++ [c']) I5 _ _ _ (by rw [← hp]; simp) hc5 (hM3.up hcl'.2.1 (by rw [List.length_append, List.length_cons, List.length_nil]; omega) fun t ht => ?_) (fun c h3 h4 h5 => by rw [hf5 c h4 h5, hf4 c h3, hf3 c h3 h4 h5]) hg
          rcases List.mem_append.mp ht with ht | ht
          · exact (hM3.1 _).2 t ht
          · rw [List.mem_singleton] at ht; subst ht; exact fm_lt _
    refine main (rOf 2 cs) [] I2 _ _ _ rfl hm2 (lfM_ok hv) (fun c _ h4 h5 => hf2 c h4 h5) ef.symm
end S1
