/-! THE REFERENCE: takes and gives. -/
def conds (cs : List Cls) : List Ex := cs.flatMap fun c => if c.1 = 1 then c.2.2.2 else []
theorem conds_add (cs : List Cls) (c : Cls) : conds (cs ++ [c]) = conds cs ++ if c.1 = 1 then c.2.2.2 else [] := by simp [conds]
theorem conds_len (cs : List Cls) : (conds cs).length = rMany cs := by
  induction cs with
  | nil => rfl
  | cons c cs ih =>
    have e1 : conds (c :: cs) = (if c.1 = 1 then c.2.2.2 else []) ++ conds cs := by simp [conds]
    have e2 : rMany (c :: cs) = cMany c + rMany cs := by simp [rMany]
    rw [e1, e2, List.length_append, ih]
    unfold cMany
    split <;> rfl
def gvC (cs : List Cls) (k : Nat) : Cls := (rOf 2 cs).getD k (0, 0, 0, [])
theorem rOf_add (k : Nat) (cs : List Cls) (c : Cls) : rOf k (cs ++ [c]) = rOf k cs ++ if c.1 = k then [c] else [] := by
  unfold rOf
  rw [List.filter_append]
  congr 1
  by_cases h : c.1 = k
  · simp [h]
  · simp [h]
def gvM (I : azI) (t : List Nat) (cs : List Cls) : Prop := ∀ k, k < nGv cs → I 237 k = nI (gvC cs k).2.1 ∧ ∃ pos kb x, I 238 k = nI pos ∧ pos ≤ t.length ∧ kSub kb (knB cs) ∧ pX kb t pos = .ok x ∧ x.1 = cEx (gvC cs k)
/-- so many clauses are read -/
def rdM (I : azI) (t : List Nat) (cs : List Cls) : Prop := I 228 13 = nI (nTk cs) ∧ I 228 16 = nI (nGv cs) ∧ I 228 19 = nI (conds cs).length ∧ I 228 21 = nI (rBits cs) ∧ I 228 22 = nI cs.length ∧ I 228 24 = nI (knB cs) ∧ (∀ j, j < nTk cs → I 235 j = nI (tkP cs j) ∧ I 236 j = nI (tkN cs j)) ∧ gvM I t cs ∧ cdM I t (knB cs) (conds cs)
def frR (I I' : azI) : Prop := (∀ b, b ≠ 228 → (b < 235 ∨ 239 < b) → I' b = I b) ∧ ∀ j, j ≤ 10 ∨ 26 ≤ j → I' 228 j = I 228 j
theorem frR.refl {I : azI} : frR I I := ⟨fun _ _ _ => rfl, fun _ _ => rfl⟩
theorem frR.trans {I I1 I2 : azI} (h1 : frR I I1) (h2 : frR I1 I2) : frR I I2 := ⟨fun c a b => by rw [h2.1 c a b, h1.1 c a b], fun j a => by rw [h2.2 j a, h1.2 j a]⟩
theorem frR.of {I I' : azI} (h : frp I I') : frR I I' := ⟨fun c a _ => h.1 c a, fun j a => h.2 j (by omega) (by omega)⟩
theorem frR.ofC {I I' : azI} (h : frC I I') : frR I I' := ⟨fun c a b => h.1 c a (by omega), fun j a => h.2 j (by omega) (by omega) (by omega)⟩
theorem frR.up {I I' : azI} {k : Nat} {v : Int32} (h : frR I I') (hk : 11 ≤ k) (hk2 : k < 26) : frR I (azUp I' 228 k v) := ⟨fun c a b => by rw [azUp_nb a]; exact h.1 c a b, fun j a => by rw [azUp_nk (by omega)]; exact h.2 j a⟩
theorem frR.upc {I I' : azI} {c k : Nat} {v : Int32} (h : frR I I') (hc : 235 ≤ c) (hc2 : c ≤ 239) : frR I (azUp I' c k v) := ⟨fun b a b' => by rw [azUp_nb (by omega)]; exact h.1 b a b', fun j a => by rw [azUp_nb (by omega)]; exact h.2 j a⟩
theorem frR.txt {I I' : azI} {t : List Nat} (h : frR I I') (ht : txt I t) : txt I' t := ⟨by rw [h.2 10 (by omega)]; exact ht.1, by rw [h.1 234 (by omega) (by omega)]; exact ht.2⟩
/-- what a take's clause says behind its word -/
def tcR (t : List Nat) (p : Nat) : Except Nat (Nat × Nat) := if isFg (tb t p) = false then .error p else if tb t (p + 1) ≠ 32 then .error (p + 1) else if 120 ≤ tb t (p + 2) ∧ tb t (p + 2) ≤ 122 then .ok (tb t p - 48, tb t (p + 2) - 120) else .error (p + 2)
section S9
variable {R : azP} {d n z : Nat} {kd : azK} {I : azI} {J : azJ} {F : azR} {Q : azQ} {t : List Nat} {kb : Nat}
theorem S_takeClause9 (hR : azClosed R) (hK : MdOk kd F) (htk : tOK t) (hkb : kb < 8) {p k : Nat} (hc : cu I t kb 5 p) (hp : p ≤ t.length) (hk : k < 3) (h13 : I 228 13 = nI k)
    (h1 : ∀ pl w, tcR t p = .ok (pl, w) → ∀ I', frR I I' → I' 235 k = nI pl → I' 236 k = nI w → (∀ q, q ≠ k → I' 235 q = I 235 q ∧ I' 236 q = I 236 q) → I' 237 = I 237 → I' 238 = I 238 → I' 239 = I 239 → I' 228 13 = nI (k + 1) → I' 228 24 = nI (kb ||| 2 ^ w) → (∀ j, j ≠ 11 → j ≠ 12 → j ≠ 13 → j ≠ 24 → I' 228 j = I 228 j) → I' 228 11 = nI (p + 3) → I' 228 12 = -(nI 1) → Q none ((n, z, kd), I', J, F))
    (h2 : ∀ f, tcR t p = .error f → ∀ I' j, frR I I' → I' 228 12 = nI f → I' 228 11 = nI j → j ≤ 80 → Q none ((n, z, kd), I', J, F)) : R (d + 2) mX9_takeClause 0 [.ref 228, .retAddr 0] [] ((n, z, kd), I, J, F) Q := by
  have ⟨k0, ⟨k220, k221, k222, k223, k224, k225, k226, k227, k228, k229, k230, k231⟩, _, ⟨f0, f1, f2, f3, f7, f9, f14, f15, f17, f18, f20, f23⟩, _⟩ := hK
  have ht := htk.1
  have hng := m1_ng
  obtain ⟨hx, e11, e12, e24, e25⟩ := id hc
  refine BX9_takeClause_0 hR ?_
  simp (disch := omega) only [nI_ad, nI_ml, nI_lti, nI_lei, nI_eqi, nI_nn, nI_0le, nI_eq0, nI_0lt, nI_le0, nI_clamp, nI_pd, nI_sb, zOf_some, zOp_some, zOp_none, kI_int, kL_long, kO_ref, kO_null, nlt_T, nlt_F, nle_T, nle_F, neq_F, vpT, azUp_at, if_true, if_false, true_and, and_true, true_implies, false_implies, implies_true, not_true_eq_false, not_false_eq_true, true_or, or_true, false_or, or_false, and_false, false_and, eq_self, n01_0, n01_1, nm1_0, k0, f14]
  refine S_figure9 hR hK ht hc (by omega) htk (fun cf => ?_) (fun cf => ?_)
  · have d1 := isFg_iff.mp cf
    have l1 := tb_len (t := t) (i := p) (by omega)
    simp (disch := omega) only [nI_ad, nI_ml, nI_lti, nI_lei, nI_eqi, nI_nn, nI_0le, nI_eq0, nI_0lt, nI_le0, nI_clamp, nI_pd, nI_sb, zOf_some, zOp_some, zOp_none, kI_int, kL_long, kO_ref, kO_null, nlt_T, nlt_F, nle_T, nle_F, neq_F, vpT, azUp_at, if_true, if_false, true_and, and_true, true_implies, false_implies, implies_true, not_true_eq_false, not_false_eq_true, true_or, or_true, false_or, or_false, and_false, false_and, eq_self, n01_0, n01_1, nm1_0, k226, h13, k0]
    generalize hA : azUp (azUp I 228 11 (nI (p + 1))) 235 k (nI (tb t p - 48)) = A
    have hfA : frR I A := by rw [← hA]; exact (frR.refl.up (by omega) (by omega)).upc (by omega) (by omega)
    have hcA : cu A t kb 5 (p + 1) := by
      rw [← hA]
      exact ⟨by rw [hA]; exact hfA.txt hx, by rw [azUp_nb (by decide), azUp_s], by rw [azUp_nb (by decide), azUp_nk (by decide)]; exact e12, by rw [azUp_nb (by decide), azUp_nk (by decide)]; exact e24, by rw [azUp_nb (by decide), azUp_nk (by decide)]; exact e25⟩
    refine S_takes9 hR hK ht hcA (by omega) (by decide) htk (fun c2 => ⟨rfl, ?_⟩) (fun c2 => ⟨rfl, ?_⟩)
    · have l2 := tb_len (t := t) (i := p + 1) (by omega)
      generalize hB : azUp A 228 11 (nI (p + 1 + 1)) = B
      have hfB : frR I B := by rw [← hB]; exact hfA.up (by omega) (by omega)
      have eB11 : B 228 11 = nI (p + 2) := by rw [← hB, azUp_s]
      have eBj : ∀ j, j ≠ 11 → B 228 j = I 228 j := fun j hj => by rw [← hB, azUp_nk hj, ← hA, azUp_nb (by decide), azUp_nk hj]
      have hb := tb_lt htk (i := p + 2)
      have eB12 : B 228 12 = -(nI 1) := by rw [eBj 12 (by decide)]; exact e12
      have eB13 : B 228 13 = nI k := by rw [eBj 13 (by decide)]; exact h13
      have eB24 : B 228 24 = nI kb := by rw [eBj 24 (by decide)]; exact e24
      simp (disch := omega) only [nI_ad, nI_ml, nI_lti, nI_lei, nI_eqi, nI_nn, nI_0le, nI_eq0, nI_0lt, nI_le0, nI_clamp, nI_pd, nI_sb, zOf_some, zOp_some, zOp_none, kI_int, kL_long, kO_ref, kO_null, nlt_T, nlt_F, nle_T, nle_F, neq_F, vpT, azUp_at, if_true, if_false, true_and, and_true, true_implies, false_implies, implies_true, not_true_eq_false, not_false_eq_true, true_or, or_true, false_or, or_false, and_false, false_and, eq_self, n01_0, n01_1, nm1_0, k0]
      refine S_peek9 hR hK ht (hfB.txt hx) eB11 (by omega) ?_
      have bad : ¬ (120 ≤ tb t (p + 2) ∧ tb t (p + 2) ≤ 122) → R (d + 1) mX9_wrong 0 [.ref 228, .int (nI (p + 2))] [] ((n, z, kd), B, J, F) fun v12 s13 => v12 = none ∧ Q none s13 := fun cn => by
        refine S_wrong9 hR hK eB12 ⟨rfl, ?_⟩
        refine h2 (p + 2) ?_ _ (p + 2) (hfB.up (by omega) (by omega)) azUp_s (by rw [azUp_nk (by decide)]; exact eB11) (by omega)
        unfold tcR
        rw [cf, if_neg (by decide), if_neg (fun q => q c2), if_neg cn]
      simp (disch := omega) only [nI_ad, nI_ml, nI_lti, nI_lei, nI_eqi, nI_nn, nI_0le, nI_eq0, nI_0lt, nI_le0, nI_clamp, nI_pd, nI_sb, zOf_some, zOp_some, zOp_none, kI_int, kL_long, kO_ref, kO_null, nlt_T, nlt_F, nle_T, nle_F, neq_F, vpT, azUp_at, if_true, if_false, true_and, and_true, true_implies, false_implies, implies_true, not_true_eq_false, not_false_eq_true, true_or, or_true, false_or, or_false, and_false, false_and, eq_self, n01_0, n01_1, nm1_0, k0, eB12, hng, eB11]
      refine ⟨fun q => bad (by omega), fun q => ⟨fun q2 => ?_, fun q2 => bad (by omega)⟩⟩
      have g : tcR t p = .ok (tb t p - 48, tb t (p + 2) - 120) := by
        unfold tcR
        rw [cf, if_neg (by decide), if_neg (fun q => q c2), if_pos ⟨by omega, q2⟩]
      simp (disch := omega) only [nI_ad, nI_ml, nI_lti, nI_lei, nI_eqi, nI_nn, nI_0le, nI_eq0, nI_0lt, nI_le0, nI_clamp, nI_pd, nI_sb, zOf_some, zOp_some, zOp_none, kI_int, kL_long, kO_ref, kO_null, nlt_T, nlt_F, nle_T, nle_F, neq_F, vpT, azUp_at, if_true, if_false, true_and, and_true, true_implies, false_implies, implies_true, not_true_eq_false, not_false_eq_true, true_or, or_true, false_or, or_false, and_false, false_and, eq_self, n01_0, n01_1, nm1_0, k0, f15, k227, eB13, eB24, nI_bit, nI_or, @azUp_nb _ 236 228]
      refine h1 _ _ g _ ((((hfB.up (by omega) (by omega)).upc (by omega) (by omega)).up (by omega) (by omega)).up (by omega) (by omega)) ?_ ?_ (fun q hq => ⟨?_, ?_⟩) ?_ ?_ ?_ ?_ ?_ (fun j j1 j2 j3 j4 => ?_) ?_ ?_
      · rw [azUp_nb (by decide), azUp_nb (by decide), azUp_nb (by decide), azUp_nb (by decide), ← hB, azUp_nb (by decide), ← hA, azUp_s]
      · rw [azUp_nb (by decide), azUp_nb (by decide), azUp_s]
      · rw [azUp_nb (by decide), azUp_nb (by decide), azUp_nb (by decide), azUp_nb (by decide), ← hB, azUp_nb (by decide), ← hA, azUp_nk hq, azUp_nb (by decide)]
      · rw [azUp_nb (by decide), azUp_nb (by decide), azUp_nk hq, azUp_nb (by decide), ← hB, azUp_nb (by decide), ← hA, azUp_nb (by decide), azUp_nb (by decide)]
      · rw [azUp_nb (by decide), azUp_nb (by decide), azUp_nb (by decide), azUp_nb (by decide), ← hB, azUp_nb (by decide), ← hA, azUp_nb (by decide), azUp_nb (by decide)]
      · rw [azUp_nb (by decide), azUp_nb (by decide), azUp_nb (by decide), azUp_nb (by decide), ← hB, azUp_nb (by decide), ← hA, azUp_nb (by decide), azUp_nb (by decide)]
      · rw [azUp_nb (by decide), azUp_nb (by decide), azUp_nb (by decide), azUp_nb (by decide), ← hB, azUp_nb (by decide), ← hA, azUp_nb (by decide), azUp_nb (by decide)]
      · rw [azUp_nk (by decide), azUp_s]
      · rw [azUp_s]
      · rw [azUp_nk j4, azUp_nk j3, azUp_nb (by decide), azUp_nk j1, eBj j j1]
      · rw [azUp_nk (by decide), azUp_nk (by decide), azUp_nb (by decide), azUp_s]
      · rw [azUp_nk (by decide), azUp_nk (by decide), azUp_nb (by decide), azUp_nk (by decide)]; exact eB12
    · generalize hB : azUp A 228 12 (nI (p + 1)) = B
      have hfB : frR I B := by rw [← hB]; exact hfA.up (by omega) (by omega)
      have eB11 : B 228 11 = nI (p + 1) := by rw [← hB, azUp_nk (by decide)]; exact hcA.2.1
      have eB12 : B 228 12 = nI (p + 1) := by rw [← hB, azUp_s]
      simp (disch := omega) only [nI_ad, nI_ml, nI_lti, nI_lei, nI_eqi, nI_nn, nI_0le, nI_eq0, nI_0lt, nI_le0, nI_clamp, nI_pd, nI_sb, zOf_some, zOp_some, zOp_none, kI_int, kL_long, kO_ref, kO_null, nlt_T, nlt_F, nle_T, nle_F, neq_F, vpT, azUp_at, if_true, if_false, true_and, and_true, true_implies, false_implies, implies_true, not_true_eq_false, not_false_eq_true, true_or, or_true, false_or, or_false, and_false, false_and, eq_self, n01_0, n01_1, nm1_0, k0]
      refine S_peek9 hR hK ht (hfB.txt hx) eB11 (by omega) ?_
      simp (disch := omega) only [nI_ad, nI_ml, nI_lti, nI_lei, nI_eqi, nI_nn, nI_0le, nI_eq0, nI_0lt, nI_le0, nI_clamp, nI_pd, nI_sb, zOf_some, zOp_some, zOp_none, kI_int, kL_long, kO_ref, kO_null, nlt_T, nlt_F, nle_T, nle_F, neq_F, vpT, azUp_at, if_true, if_false, true_and, and_true, true_implies, false_implies, implies_true, not_true_eq_false, not_false_eq_true, true_or, or_true, false_or, or_false, and_false, false_and, eq_self, n01_0, n01_1, nm1_0, k0, eB12, eB11]
      refine S_wrong9f hR hK (f := p + 1) (by omega) eB12 ⟨rfl, ?_⟩
      refine h2 (p + 1) ?_ B (p + 1) hfB eB12 eB11 (by omega)
      unfold tcR
      rw [cf, if_neg (by decide), if_pos c2]
  · simp (disch := omega) only [nI_ad, nI_ml, nI_lti, nI_lei, nI_eqi, nI_nn, nI_0le, nI_eq0, nI_0lt, nI_le0, nI_clamp, nI_pd, nI_sb, zOf_some, zOp_some, zOp_none, kI_int, kL_long, kO_ref, kO_null, nlt_T, nlt_F, nle_T, nle_F, neq_F, vpT, azUp_at, if_true, if_false, true_and, and_true, true_implies, false_implies, implies_true, not_true_eq_false, not_false_eq_true, true_or, or_true, false_or, or_false, and_false, false_and, eq_self, n01_0, n01_1, nm1_0, k226, h13, k0]
    generalize hB : azUp (azUp I 228 12 (nI p)) 235 k (nI 0) = B
    have hfB : frR I B := by rw [← hB]; exact (frR.refl.up (by omega) (by omega)).upc (by omega) (by omega)
    have eB11 : B 228 11 = nI p := by rw [← hB, azUp_nb (by decide), azUp_nk (by decide)]; exact e11
    have eB12 : B 228 12 = nI p := by rw [← hB, azUp_nb (by decide), azUp_s]
    refine S_takes9f hR hK (f := p) (by omega) eB12 ⟨rfl, ?_⟩
    simp (disch := omega) only [nI_ad, nI_ml, nI_lti, nI_lei, nI_eqi, nI_nn, nI_0le, nI_eq0, nI_0lt, nI_le0, nI_clamp, nI_pd, nI_sb, zOf_some, zOp_some, zOp_none, kI_int, kL_long, kO_ref, kO_null, nlt_T, nlt_F, nle_T, nle_F, neq_F, vpT, azUp_at, if_true, if_false, true_and, and_true, true_implies, false_implies, implies_true, not_true_eq_false, not_false_eq_true, true_or, or_true, false_or, or_false, and_false, false_and, eq_self, n01_0, n01_1, nm1_0, k0]
    refine S_peek9 hR hK ht (hfB.txt hx) eB11 (by omega) ?_
    simp (disch := omega) only [nI_ad, nI_ml, nI_lti, nI_lei, nI_eqi, nI_nn, nI_0le, nI_eq0, nI_0lt, nI_le0, nI_clamp, nI_pd, nI_sb, zOf_some, zOp_some, zOp_none, kI_int, kL_long, kO_ref, kO_null, nlt_T, nlt_F, nle_T, nle_F, neq_F, vpT, azUp_at, if_true, if_false, true_and, and_true, true_implies, false_implies, implies_true, not_true_eq_false, not_false_eq_true, true_or, or_true, false_or, or_false, and_false, false_and, eq_self, n01_0, n01_1, nm1_0, k0, eB12, eB11]
    refine S_wrong9f hR hK (f := p) (by omega) eB12 ⟨rfl, ?_⟩
    refine h2 p ?_ B p hfB eB12 eB11 (by omega)
    unfold tcR
    rw [cf, if_pos rfl]
/-- what a give's clause says behind its word -/
def gcR (kb : Nat) (t : List Nat) (p : Nat) : PR (Nat × Ex) := if isFg (tb t p) = false then .error p else if tb t (p + 1) ≠ 32 then .error (p + 1) else pb (pX kb t (p + 2)) fun x => .ok ((tb t p - 48, x.1), x.2)
theorem S_giveClause9 (hR : azClosed R) (hK : MdOk kd F) (htk : tOK t) (hkb : kb < 8) {p k : Nat} (hc : cu I t kb 5 p) (hp : p ≤ t.length) (hk : k < 3) (h16 : I 228 16 = nI k)
    (h1 : ∀ pl e j, gcR kb t p = .ok ((pl, e), j) → ∀ I', frR I I' → I' 237 k = nI pl → I' 238 k = nI (p + 2) → p + 2 ≤ t.length → pX kb t (p + 2) = .ok (e, j) → (∀ q, q ≠ k → I' 237 q = I 237 q ∧ I' 238 q = I 238 q) → I' 235 = I 235 → I' 236 = I 236 → I' 239 = I 239 → I' 228 16 = nI (k + 1) → (∀ j, j ≠ 11 → j ≠ 12 → j ≠ 16 → I' 228 j = I 228 j) → I' 228 11 = nI j → I' 228 12 = -(nI 1) → Q none ((n, z, kd), I', J, F))
    (h2 : ∀ f, gcR kb t p = .error f → ∀ I' j, frR I I' → I' 228 12 = nI f → I' 228 11 = nI j → j ≤ 80 → Q none ((n, z, kd), I', J, F)) : R (d + 20) mX9_giveClause 0 [.ref 228] [] ((n, z, kd), I, J, F) Q := by
  have ⟨k0, ⟨k220, k221, k222, k223, k224, k225, k226, k227, k228, k229, k230, k231⟩, _, ⟨f0, f1, f2, f3, f7, f9, f14, f15, f17, f18, f20, f23⟩, _⟩ := hK
  have ht := htk.1
  have hng := m1_ng
  obtain ⟨hx, e11, e12, e24, e25⟩ := id hc
  -- with a fault
  have bad : ∀ (f j : Nat) (B : azI), gcR kb t p = .error f → f ≤ 80 → frR I B → B 228 16 = nI k → B 228 12 = nI f → B 228 11 = nI j → j ≤ 80 → R (d + 19) mX9_expression 0 [.ref 228, .retAddr 0, .retAddr 0, .retAddr 0] [] ((n, z, kd), azUp (azUp B 238 k (nI j)) 228 16 (nI (k + 1)), J, F) fun v8 s9 => kI v8 fun r10 => Q none s9 := by
    intro f j B hg hf hfB e16 e12 e11 hj
    have hfC : frR I (azUp (azUp B 238 k (nI j)) 228 16 (nI (k + 1))) := (hfB.upc (by omega) (by omega)).up (by omega) (by omega)
    refine S_expr9f (d := d + 16) (f := f) (j := j) hR hK ht (hfC.txt hx) (by rw [azUp_nk (by decide), azUp_nb (by decide)]; exact e11) hj (by omega) (by rw [azUp_nk (by decide), azUp_nb (by decide)]; exact e12) ?_
    exact h2 f hg _ j hfC (by rw [azUp_nk (by decide), azUp_nb (by decide)]; exact e12) (by rw [azUp_nk (by decide), azUp_nb (by decide)]; exact e11) hj
  refine BX9_giveClause_0 hR ?_
  simp (disch := omega) only [nI_ad, nI_ml, nI_lti, nI_lei, nI_eqi, nI_nn, nI_0le, nI_eq0, nI_0lt, nI_le0, nI_clamp, nI_pd, nI_sb, zOf_some, zOp_some, zOp_none, kI_int, kL_long, kO_ref, kO_null, nlt_T, nlt_F, nle_T, nle_F, neq_F, vpT, azUp_at, if_true, if_false, true_and, and_true, true_implies, false_implies, implies_true, not_true_eq_false, not_false_eq_true, true_or, or_true, false_or, or_false, and_false, false_and, eq_self, n01_0, n01_1, nm1_0, k0, f17]
  refine S_figure9 hR hK ht hc (by omega) htk (fun cf => ?_) (fun cf => ?_)
  · have d1 := isFg_iff.mp cf
    have l1 := tb_len (t := t) (i := p) (by omega)
    simp (disch := omega) only [nI_ad, nI_ml, nI_lti, nI_lei, nI_eqi, nI_nn, nI_0le, nI_eq0, nI_0lt, nI_le0, nI_clamp, nI_pd, nI_sb, zOf_some, zOp_some, zOp_none, kI_int, kL_long, kO_ref, kO_null, nlt_T, nlt_F, nle_T, nle_F, neq_F, vpT, azUp_at, if_true, if_false, true_and, and_true, true_implies, false_implies, implies_true, not_true_eq_false, not_false_eq_true, true_or, or_true, false_or, or_false, and_false, false_and, eq_self, n01_0, n01_1, nm1_0, k228, h16, k0]
    generalize hA : azUp (azUp I 228 11 (nI (p + 1))) 237 k (nI (tb t p - 48)) = A
    have hfA : frR I A := by rw [← hA]; exact (frR.refl.up (by omega) (by omega)).upc (by omega) (by omega)
    have eA16 : A 228 16 = nI k := by rw [← hA, azUp_nb (by decide), azUp_nk (by decide)]; exact h16
    have hcA : cu A t kb 5 (p + 1) := by
      rw [← hA]
      exact ⟨by rw [hA]; exact hfA.txt hx, by rw [azUp_nb (by decide), azUp_s], by rw [azUp_nb (by decide), azUp_nk (by decide)]; exact e12, by rw [azUp_nb (by decide), azUp_nk (by decide)]; exact e24, by rw [azUp_nb (by decide), azUp_nk (by decide)]; exact e25⟩
    refine S_takes9 hR hK ht hcA (by omega) (by decide) htk (fun c2 => ⟨rfl, ?_⟩) (fun c2 => ⟨rfl, ?_⟩)
    · have l2 := tb_len (t := t) (i := p + 1) (by omega)
      generalize hB : azUp A 228 11 (nI (p + 1 + 1)) = B
      have hfB : frR I B := by rw [← hB]; exact hfA.up (by omega) (by omega)
      have eB11 : B 228 11 = nI (p + 2) := by rw [← hB, azUp_s]
      have eBj : ∀ j, j ≠ 11 → B 228 j = I 228 j := fun j hj => by rw [← hB, azUp_nk hj, ← hA, azUp_nb (by decide), azUp_nk hj]
      have eB16 : B 228 16 = nI k := by rw [eBj 16 (by decide)]; exact h16
      simp (disch := omega) only [nI_ad, nI_ml, nI_lti, nI_lei, nI_eqi, nI_nn, nI_0le, nI_eq0, nI_0lt, nI_le0, nI_clamp, nI_pd, nI_sb, zOf_some, zOp_some, zOp_none, kI_int, kL_long, kO_ref, kO_null, nlt_T, nlt_F, nle_T, nle_F, neq_F, vpT, azUp_at, if_true, if_false, true_and, and_true, true_implies, false_implies, implies_true, not_true_eq_false, not_false_eq_true, true_or, or_true, false_or, or_false, and_false, false_and, eq_self, n01_0, n01_1, nm1_0, k0, f18, eB16, k229, eB11, @azUp_nb _ 238 228]
      generalize hC : azUp (azUp B 238 k (nI (p + 2))) 228 16 (nI (k + 1)) = C
      have hfC : frR I C := by rw [← hC]; exact (hfB.upc (by omega) (by omega)).up (by omega) (by omega)
      have eCj : ∀ j, j ≠ 11 → j ≠ 16 → C 228 j = I 228 j := fun j hj hj2 => by rw [← hC, azUp_nk hj2, azUp_nb (by decide), eBj j hj]
      have hcC : cu C t kb 5 (p + 2) := ⟨hfC.txt hx, by rw [← hC, azUp_nk (by decide), azUp_nb (by decide)]; exact eB11, by rw [eCj 12 (by decide) (by decide)]; exact e12, by rw [eCj 24 (by decide) (by decide)]; exact e24, by rw [eCj 25 (by decide) (by decide)]; exact e25⟩
      refine S_exprX9 hR hK htk hkb C (p + 2) _ hcC l2 ?_
      have g : gcR kb t p = pb (pX kb t (p + 2)) fun x => .ok ((tb t p - 48, x.1), x.2) := by
        unfold gcR
        rw [cf, if_neg (by decide), if_neg (fun q => q c2)]
      cases hpx : pX kb t (p + 2) with
      | error f =>
        intro I1 v j g1 g2 g3 g4
        rw [hpx] at g
        exact h2 f g I1 j (hfC.trans (frR.of g1)) g2 g3 g4
      | ok x =>
        intro I1 g1 g2 g3
        rw [hpx] at g
        have c1 : ∀ b, b ≠ 228 → b ≠ 238 → b ≠ 237 → I1 b = I b := fun b b1 b2 b3 => by rw [g1.1 b b1, ← hC, azUp_nb b1, azUp_nb b2, ← hB, azUp_nb b1, ← hA, azUp_nb b3, azUp_nb b1]
        refine h1 _ _ _ g I1 (hfC.trans (frR.of g1)) ?_ ?_ l2 hpx (fun q hq => ⟨?_, ?_⟩) (c1 235 (by decide) (by decide) (by decide)) (c1 236 (by decide) (by decide) (by decide)) (c1 239 (by decide) (by decide) (by decide)) ?_ (fun j j1 j2 j3 => ?_) g2 g3
        · rw [g1.1 237 (by decide), ← hC, azUp_nb (by decide), azUp_nb (by decide), ← hB, azUp_nb (by decide), ← hA, azUp_s]
        · rw [g1.1 238 (by decide), ← hC, azUp_nb (by decide), azUp_s]
        · rw [g1.1 237 (by decide), ← hC, azUp_nb (by decide), azUp_nb (by decide), ← hB, azUp_nb (by decide), ← hA, azUp_nk hq, azUp_nb (by decide)]
        · rw [g1.1 238 (by decide), ← hC, azUp_nb (by decide), azUp_nk hq, ← hB, azUp_nb (by decide), ← hA, azUp_nb (by decide), azUp_nb (by decide)]
        · rw [g1.2 16 (by decide) (by decide), ← hC, azUp_s]
        · rw [g1.2 j j1 j2, eCj j j1 j3]
    · have e16 : azUp A 228 12 (nI (p + 1)) 228 16 = nI k := by rw [azUp_nk (by decide)]; exact eA16
      have e11' : azUp A 228 12 (nI (p + 1)) 228 11 = nI (p + 1) := by rw [azUp_nk (by decide)]; exact hcA.2.1
      generalize hB : azUp A 228 12 (nI (p + 1)) = B at e16 e11'
      simp (disch := omega) only [nI_ad, nI_ml, nI_lti, nI_lei, nI_eqi, nI_nn, nI_0le, nI_eq0, nI_0lt, nI_le0, nI_clamp, nI_pd, nI_sb, zOf_some, zOp_some, zOp_none, kI_int, kL_long, kO_ref, kO_null, nlt_T, nlt_F, nle_T, nle_F, neq_F, vpT, azUp_at, if_true, if_false, true_and, and_true, true_implies, false_implies, implies_true, not_true_eq_false, not_false_eq_true, true_or, or_true, false_or, or_false, and_false, false_and, eq_self, n01_0, n01_1, nm1_0, k0, f18, e16, k229, e11', @azUp_nb _ 238 228]
      refine bad (p + 1) (p + 1) B ?_ (by omega) (by rw [← hB]; exact hfA.up (by omega) (by omega)) e16 (by rw [← hB, azUp_s]) e11' (by omega)
      unfold gcR
      rw [cf, if_neg (by decide), if_pos c2]
  · simp (disch := omega) only [nI_ad, nI_ml, nI_lti, nI_lei, nI_eqi, nI_nn, nI_0le, nI_eq0, nI_0lt, nI_le0, nI_clamp, nI_pd, nI_sb, zOf_some, zOp_some, zOp_none, kI_int, kL_long, kO_ref, kO_null, nlt_T, nlt_F, nle_T, nle_F, neq_F, vpT, azUp_at, if_true, if_false, true_and, and_true, true_implies, false_implies, implies_true, not_true_eq_false, not_false_eq_true, true_or, or_true, false_or, or_false, and_false, false_and, eq_self, n01_0, n01_1, nm1_0, k228, h16, k0]
    generalize hB : azUp (azUp I 228 12 (nI p)) 237 k (nI 0) = B
    have hfB : frR I B := by rw [← hB]; exact (frR.refl.up (by omega) (by omega)).upc (by omega) (by omega)
    have eB11 : B 228 11 = nI p := by rw [← hB, azUp_nb (by decide), azUp_nk (by decide)]; exact e11
    have eB12 : B 228 12 = nI p := by rw [← hB, azUp_nb (by decide), azUp_s]
    have eB16 : B 228 16 = nI k := by rw [← hB, azUp_nb (by decide), azUp_nk (by decide)]; exact h16
    refine S_takes9f hR hK (f := p) (by omega) eB12 ⟨rfl, ?_⟩
    simp (disch := omega) only [nI_ad, nI_ml, nI_lti, nI_lei, nI_eqi, nI_nn, nI_0le, nI_eq0, nI_0lt, nI_le0, nI_clamp, nI_pd, nI_sb, zOf_some, zOp_some, zOp_none, kI_int, kL_long, kO_ref, kO_null, nlt_T, nlt_F, nle_T, nle_F, neq_F, vpT, azUp_at, if_true, if_false, true_and, and_true, true_implies, false_implies, implies_true, not_true_eq_false, not_false_eq_true, true_or, or_true, false_or, or_false, and_false, false_and, eq_self, n01_0, n01_1, nm1_0, k0, f18, eB16, k229, eB11, @azUp_nb _ 238 228]
    refine bad p p B ?_ (by omega) hfB eB16 eB12 eB11 (by omega)
    unfold gcR
    rw [cf, if_pos rfl]
end S9
