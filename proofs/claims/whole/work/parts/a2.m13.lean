/-! THE REFERENCE: rule, drop, has, paper, told, image, undo, change. -/
theorem nBitV : ∀ b, b < 1024 → ∀ p, p < 10 → ((nI b >>> (nI p &&& 31)) &&& nI 1) = nI (if b.testBit p then 1 else 0) := by decide +kernel
/-- how many of such clauses have a place -/
def cntP (l : List Cls) (p : Nat) : Int := (l.map fun c => if c.2.1 = p then (1 : Int) else 0).sum
theorem rChg_eq (cs : List Cls) (p : Nat) : rChg cs p = cntP (rOf 2 cs) p - cntP (rOf 0 cs) p := by
  induction cs with
  | nil => rfl
  | cons c cs ih =>
    have e0 : rChg (c :: cs) p = cChg p c + rChg cs p := by simp [rChg]
    have e2 : ∀ k, cntP (rOf k (c :: cs)) p = (if c.1 = k then (if c.2.1 = p then 1 else 0) else 0) + cntP (rOf k cs) p := fun k => by
      unfold rOf
      rw [List.filter_cons]
      by_cases h : c.1 = k
      · rw [if_pos (by simpa using h), if_pos h]
        simp [cntP]
      · rw [if_neg (by simpa using h), if_neg h, Int.zero_add]
    rw [e0, e2, e2, ih]
    unfold cChg
    by_cases h1 : c.2.1 = p
    · rw [if_pos h1, if_pos h1]
      by_cases h2 : c.1 = 2
      · rw [if_pos h2, if_pos h2, if_neg (by omega)]; omega
      · rw [if_neg h2, if_neg h2]
        by_cases h3 : c.1 = 0
        · rw [if_pos h3, if_pos h3]; omega
        · rw [if_neg h3, if_neg h3]; omega
    · rw [if_neg h1, if_neg h1]
      by_cases h2 : c.1 = 2
      · rw [if_pos h2, if_neg (by omega)]; omega
      · rw [if_neg h2]
        by_cases h3 : c.1 = 0
        · rw [if_pos h3]; omega
        · rw [if_neg h3]; omega
theorem cntP_add (l : List Cls) (c : Cls) (p : Nat) : cntP (l ++ [c]) p = cntP l p + if c.2.1 = p then 1 else 0 := by simp [cntP]
theorem oI_0 (a : Int) : Int32.ofInt a + nI 0 = Int32.ofInt (a + 0) := (Int32.ofInt_add a 0).symm
theorem oI_s1 (a : Int) : Int32.ofInt a - nI 1 = Int32.ofInt (a - 1) := (Int32.ofInt_sub a 1).symm
theorem oI_s0 (a : Int) : Int32.ofInt a - nI 0 = Int32.ofInt (a - 0) := (Int32.ofInt_sub a 0).symm
section S9
variable {R : azP} {d n z : Nat} {kd : azK} {I : azI} {J : azJ} {F : azR} {Q : azQ} {st : St} {σ : azS}
theorem cRu.up {f g : Nat → Int32} {ru : Ru} (h : cRu f ru) {p : Nat} (hp : p < 10) {x : Option (List Nat × List Cls)} (ho : ∀ q i, q ≠ p → q < 10 → i < 81 → g (81 * q + i) = f (81 * q + i)) (hl : ∀ q t cs, ru q = some (t, cs) → t.length ≤ 80) (h0 : x = none → g (81 * p) = nI 0) (h1 : ∀ t cs, x = some (t, cs) → g (81 * p) = nI t.length ∧ ∀ j, j < t.length → g (81 * p + 1 + j) = nI (t.getD j 0)) : cRu g (rUp ru p x) := fun q hq => by
  unfold rUp
  by_cases e : q = p
  · subst e
    rw [if_pos rfl]
    exact ⟨h0, h1⟩
  · rw [if_neg e]
    have g0 := ho q 0 e hq (by omega)
    rw [Nat.add_zero] at g0
    refine ⟨fun hr => by rw [g0]; exact (h q hq).1 hr, fun t cs hr => ?_⟩
    obtain ⟨a1, a2⟩ := (h q hq).2 t cs hr
    have := hl q t cs hr
    exact ⟨by rw [g0]; exact a1, fun j hj => by rw [Nat.add_assoc, ho q (1 + j) e hq (by omega), ← Nat.add_assoc]; exact a2 j hj⟩
/-- the rules are others -/
theorem cMd.rules {I' : azI} (h : cMd I st) (hf : ∀ b, b ≠ 228 → b ≠ 231 → (b < 233 ∨ b = 241) → I' b = I b) (hj : ∀ j, j ≤ 6 ∨ j = 27 → I' 228 j = I 228 j) {ru : Ru} {t : List Nat} (hr : cRu (I' 231) ru) (h8 : I' 228 8 = nI t.length) (ht : lst (I' 233) (t.map nI)) : cMd I' (st.1, ru, t, st.2.2.2) := by
  obtain ⟨h1, h2, h3, h4', h5, h6, h7⟩ := h
  refine ⟨by rw [hf 229 (by omega) (by omega) (by omega)]; exact h1, hr, ⟨h8, ht⟩, by rw [hj 27 (by omega), hf 241 (by omega) (by omega) (by omega)]; exact h4', by rw [hj 4 (by omega)]; exact h5, fun e => by rw [hj 6 (by omega)]; exact h6 e, fun m ru w e => by rw [hj 6 (by omega), hf 230 (by omega) (by omega) (by omega), hf 232 (by omega) (by omega) (by omega), hj 5 (by omega)]; exact h7 m ru w e⟩
theorem ruOK.len (h : ruOK st.2.1) : ∀ q t cs, st.2.1 q = some (t, cs) → t.length ≤ 80 := fun q t cs e => (h q t cs e).1.1
theorem S_mdDrop (hR : azClosed R) (hW : MW σ st) {x : Int32} (h : ∀ σ', MW σ' (aDrop st x).2 → mdF σ σ' → Q (some (.int (aDrop st x).1)) σ') : R (d + 3) mX9_drop 0 [.ref 228, .int x] [] σ Q := by
  obtain ⟨⟨n, z, kd⟩, I, J, F⟩ := σ
  obtain ⟨hK, hC, hS⟩ := id hW
  have hK : MdOk kd F := hK
  have hC : cMd I st := hC
  have ⟨k0, ⟨k220, k221, k222, k223, k224, k225, k226, k227, k228, k229, k230, k231⟩, _, ⟨f0, f1, f2, f3, f7, f9, f14, f15, f17, f18, f20, f23⟩, _⟩ := id hK
  refine BX9_drop_0 hR (S_isPlace9 hR ?_)
  unfold isP
  unfold aDrop at h
  rcases ix_cases x (n := 10) (by decide) with ⟨e, c⟩ | ⟨p, hp, rfl, e⟩
  · rw [e] at h ⊢
    simp (disch := omega) only [nI_ad, nI_ml, nI_lti, nI_lei, nI_eqi, nI_nn, nI_0le, nI_eq0, nI_0lt, nI_le0, nI_clamp, nI_pd, nI_sb, zOf_some, zOp_some, zOp_none, kI_int, kL_long, kO_ref, kO_null, nlt_T, nlt_F, nle_T, nle_F, neq_F, vpT, azUp_at, if_true, if_false, true_and, and_true, true_implies, false_implies, implies_true, not_true_eq_false, not_false_eq_true, true_or, or_true, false_or, or_false, and_false, false_and, eq_self, n01_0, n01_1, nm1_0]
    exact h _ hW mdF.refl
  rw [e] at h ⊢
  dsimp only at h
  obtain ⟨r0, r1⟩ := hC.2.1 p hp
  cases hr : st.2.1 p with
  | none =>
    have e0 := r0 hr
    rw [hr] at h
    simp (disch := omega) only [nI_ad, nI_ml, nI_lti, nI_lei, nI_eqi, nI_nn, nI_0le, nI_eq0, nI_0lt, nI_le0, nI_clamp, nI_pd, nI_sb, zOf_some, zOp_some, zOp_none, kI_int, kL_long, kO_ref, kO_null, nlt_T, nlt_F, nle_T, nle_F, neq_F, vpT, azUp_at, if_true, if_false, true_and, and_true, true_implies, false_implies, implies_true, not_true_eq_false, not_false_eq_true, true_or, or_true, false_or, or_false, and_false, false_and, eq_self, n01_0, n01_1, nm1_0, k0, f2, k222, e0]
    exact h _ hW mdF.refl
  | some y =>
    obtain ⟨t, cs⟩ := y
    obtain ⟨e0, _⟩ := r1 t cs hr
    obtain ⟨u1, u2, u3⟩ := hS.2.1 p t cs hr
    have hl := u1.1
    have hne : ¬ (t.length = 0) := by omega
    rw [hr] at h
    simp (disch := omega) only [nI_ad, nI_ml, nI_lti, nI_lei, nI_eqi, nI_nn, nI_0le, nI_eq0, nI_0lt, nI_le0, nI_clamp, nI_pd, nI_sb, zOf_some, zOp_some, zOp_none, kI_int, kL_long, kO_ref, kO_null, nlt_T, nlt_F, nle_T, nle_F, neq_F, vpT, azUp_at, if_true, if_false, true_and, and_true, true_implies, false_implies, implies_true, not_true_eq_false, not_false_eq_true, true_or, or_true, false_or, or_false, and_false, false_and, eq_self, n01_0, n01_1, nm1_0, k0, f2, k222, e0, hne]
    have o : ∀ b, b ≠ 231 → azUp I 231 (81 * p) (nI 0) b = I b := fun b hb => azUp_nb hb
    refine h _ (MW.mk hK (hC.rules (fun b b1 b2 _ => o b b2) (fun j hj => by rw [o 228 (by decide)]) (hC.2.1.up (g := azUp I 231 (81 * p) (nI 0) 231) hp (x := none) (fun q i hq hq2 hi => azUp_nk (by omega)) hS.2.1.len (fun _ => azUp_s) (fun t cs e => by cases e)) (by rw [o 228 (by decide)]; exact hC.2.2.1.1) (by rw [o 233 (by decide)]; exact hC.2.2.1.2)) ⟨hS.1, hS.2.1.up (fun t cs e => by cases e), hS.2.2⟩) (mdF_I (fun b hb => o b (by omega)) fun _ _ => rfl)
theorem S_mdRule (hR : azClosed R) (hW : MW σ st) {x : Int32} (h : ∀ σ', MW σ' (aRule st x).2 → mdF σ σ' → Q (some (.int (aRule st x).1)) σ') : R (d + 24) mX9_rule 0 [.ref 228, .int x] [] σ Q := by
  obtain ⟨⟨n, z, kd⟩, I, J, F⟩ := σ
  obtain ⟨hK, hC, hS⟩ := id hW
  have hK : MdOk kd F := hK
  have hC : cMd I st := hC
  have ⟨k0, ⟨k220, k221, k222, k223, k224, k225, k226, k227, k228, k229, k230, k231⟩, _, ⟨f0, f1, f2, f3, f7, f9, f14, f15, f17, f18, f20, f23⟩, _⟩ := id hK
  have htk := hS.2.2.1
  have ht := htk.1
  have hng := m1_ng
  refine BX9_rule_0 hR (S_isPlace9 hR ?_)
  unfold isP
  unfold aRule at h
  rcases ix_cases x (n := 10) (by decide) with ⟨e, c⟩ | ⟨p, hp, rfl, e⟩
  · rw [e] at h ⊢
    simp (disch := omega) only [nI_ad, nI_ml, nI_lti, nI_lei, nI_eqi, nI_nn, nI_0le, nI_eq0, nI_0lt, nI_le0, nI_clamp, nI_pd, nI_sb, zOf_some, zOp_some, zOp_none, kI_int, kL_long, kO_ref, kO_null, nlt_T, nlt_F, nle_T, nle_F, neq_F, vpT, azUp_at, if_true, if_false, true_and, and_true, true_implies, false_implies, implies_true, not_true_eq_false, not_false_eq_true, true_or, or_true, false_or, or_false, and_false, false_and, eq_self, n01_0, n01_1, nm1_0]
    exact h _ hW mdF.refl
  rw [e] at h ⊢
  dsimp only at h
  have e8 := hC.2.2.1.1
  simp (disch := omega) only [nI_ad, nI_ml, nI_lti, nI_lei, nI_eqi, nI_nn, nI_0le, nI_eq0, nI_0lt, nI_le0, nI_clamp, nI_pd, nI_sb, zOf_some, zOp_some, zOp_none, kI_int, kL_long, kO_ref, kO_null, nlt_T, nlt_F, nle_T, nle_F, neq_F, vpT, azUp_at, if_true, if_false, true_and, and_true, true_implies, false_implies, implies_true, not_true_eq_false, not_false_eq_true, true_or, or_true, false_or, or_false, and_false, false_and, eq_self, n01_0, n01_1, nm1_0, k0, f7, f9, e8]
  refine S_pours9 hR (la := 80) (lb := 80) (k := st.2.2.1.length) (by decide) k224 k225 (by decide) (by decide) (by omega) (by omega) fun I1 g1 g2 g3 => ⟨rfl, ?_⟩
  simp (disch := omega) only [nI_ad, nI_ml, nI_lti, nI_lei, nI_eqi, nI_nn, nI_0le, nI_eq0, nI_0lt, nI_le0, nI_clamp, nI_pd, nI_sb, zOf_some, zOp_some, zOp_none, kI_int, kL_long, kO_ref, kO_null, nlt_T, nlt_F, nle_T, nle_F, neq_F, vpT, azUp_at, if_true, if_false, true_and, and_true, true_implies, false_implies, implies_true, not_true_eq_false, not_false_eq_true, true_or, or_true, false_or, or_false, and_false, false_and, eq_self, n01_0, n01_1, nm1_0, k0]
  generalize hA : azUp I1 228 8 (nI 0) = A
  have eA : ∀ b, b ≠ 228 → b ≠ 234 → A b = I b := fun b b1 b2 => by rw [← hA, azUp_nb b1, g1 b b2, azUp_nb b1]
  have eAj : ∀ j, j ≠ 8 → j ≠ 10 → A 228 j = I 228 j := fun j j1 j2 => by rw [← hA, azUp_nk j1, g1 228 (by decide), azUp_nk j2]
  have eA8 : A 228 8 = nI 0 := by rw [← hA, azUp_s]
  have eA10 : A 228 10 = nI st.2.2.1.length := by rw [← hA, azUp_nk (by decide), g1 228 (by decide), azUp_s]
  have hxA : txt A st.2.2.1 := ⟨eA10, lst.nat fun i hi => by
    have := g2 i hi
    rw [Nat.zero_add] at this
    rw [← hA, azUp_nb (by decide), this, azUp_nb (by decide)]
    exact hC.2.2.1.2.get hi⟩
  refine S_reads9 hR hK htk hxA ?_
  cases hp2 : pRule st.2.2.1 with
  | error f =>
    rw [hp2] at h
    dsimp only at h
    have hfl : f ≤ st.2.2.1.length := by
      have := pgQ_rule (t := st.2.2.1) ht
      rw [hp2] at this
      exact this
    intro I2 q1 q2
    rw [kI_int]
    simp (disch := omega) only [nI_ad, nI_ml, nI_lti, nI_lei, nI_eqi, nI_nn, nI_0le, nI_eq0, nI_0lt, nI_le0, nI_clamp, nI_pd, nI_sb, zOf_some, zOp_some, zOp_none, kI_int, kL_long, kO_ref, kO_null, nlt_T, nlt_F, nle_T, nle_F, neq_F, vpT, azUp_at, if_true, if_false, true_and, and_true, true_implies, false_implies, implies_true, not_true_eq_false, not_false_eq_true, true_or, or_true, false_or, or_false, and_false, false_and, eq_self, n01_0, n01_1, nm1_0, k0, q2]
    refine h _ (MW.mk hK (hC.tape (fun b b1 b2 => by rw [q1.1 b b1 (by omega), eA b b1 (by omega)]) (fun j hj => by rw [q1.2 j (by omega), eAj j (by omega) (by omega)]) ?_ (fun i hi => absurd hi (Nat.not_lt_zero _))) ⟨hS.1, hS.2.1, ⟨Nat.zero_le _, fun y hy => absurd hy List.not_mem_nil⟩, hS.2.2.2⟩) (mdF_I (fun b hb => by rw [q1.1 b (by omega) (by omega), eA b (by omega) (by omega)]) fun _ _ => rfl)
    rw [q1.2 8 (by omega)]; exact eA8
  | ok cs =>
    rw [hp2] at h
    dsimp only at h
    intro I2 q1 q2 q3 q4
    have hneg := m1_neg
    have e10 : I2 228 10 = nI st.2.2.1.length := by rw [q1.2 10 (by omega)]; exact eA10
    have e22 : I2 228 22 = nI cs.length := q2.2.2.2.2.1
    have ht0 : 0 < st.2.2.1.length := by
      rcases Nat.eq_zero_or_pos st.2.2.1.length with h0 | h0
      · have := List.length_eq_zero_iff.mp h0
        rw [this, pRule_nil] at hp2
        cases hp2
      · exact h0
    rw [kI_int]
    simp (disch := omega) only [nI_ad, nI_ml, nI_lti, nI_lei, nI_eqi, nI_nn, nI_0le, nI_eq0, nI_0lt, nI_le0, nI_clamp, nI_pd, nI_sb, zOf_some, zOp_some, zOp_none, kI_int, kL_long, kO_ref, kO_null, nlt_T, nlt_F, nle_T, nle_F, neq_F, vpT, azUp_at, if_true, if_false, true_and, and_true, true_implies, false_implies, implies_true, not_true_eq_false, not_false_eq_true, true_or, or_true, false_or, or_false, and_false, false_and, eq_self, n01_0, n01_1, nm1_0, hneg, k0, f2, k222, f9, e10, @azUp_nb _ 231 228]
    refine S_pours9 hR (la := 80) (lb := 810) (k := st.2.2.1.length) (by decide) k225 k222 (by decide) (by decide) (by omega) (by omega) fun I3 w1 w2 w3 => ⟨rfl, ?_⟩
    have e22' : I3 228 22 = nI cs.length := by rw [w1 228 (by decide), azUp_nb (by decide)]; exact e22
    simp (disch := omega) only [nI_ad, nI_ml, nI_lti, nI_lei, nI_eqi, nI_nn, nI_0le, nI_eq0, nI_0lt, nI_le0, nI_clamp, nI_pd, nI_sb, zOf_some, zOp_some, zOp_none, kI_int, kL_long, kO_ref, kO_null, nlt_T, nlt_F, nle_T, nle_F, neq_F, vpT, azUp_at, if_true, if_false, true_and, and_true, true_implies, false_implies, implies_true, not_true_eq_false, not_false_eq_true, true_or, or_true, false_or, or_false, and_false, false_and, eq_self, n01_0, n01_1, nm1_0, k0, e22']
    have o : ∀ b, b ≠ 228 → b ≠ 231 → (b < 234 ∨ 239 < b) → I3 b = I b := fun b b1 b2 b3 => by rw [w1 b b2, azUp_nb b2, q1.1 b b1 (by omega), eA b b1 (by omega)]
    have oj : ∀ j, j ≤ 10 ∨ 26 ≤ j → j ≠ 8 → j ≠ 10 → I3 228 j = I 228 j := fun j j1 j2 j3 => by rw [w1 228 (by decide), azUp_nb (by decide), q1.2 j j1, eAj j j2 j3]
    have e222 : I2 231 = I 231 := by rw [q1.1 231 (by decide) (by omega), eA 231 (by decide) (by decide)]
    have hx2 := q1.txt hxA
    refine h _ (MW.mk hK (hC.rules (fun b b1 b2 b3 => o b b1 b2 (by omega)) (fun j hj => oj j (by omega) (by omega) (by omega)) (hC.2.1.up (g := I3 231) hp (x := some (st.2.2.1, cs)) (fun q i hq hq2 hi => ?_) hS.2.1.len (fun e => by cases e) (fun t cs' e => ?_)) ?_ (fun i hi => absurd hi (Nat.not_lt_zero _))) ⟨hS.1, hS.2.1.up (fun t cs' e => ?_), ⟨Nat.zero_le _, fun y hy => absurd hy List.not_mem_nil⟩, hS.2.2.2⟩) (mdF_I (fun b hb => o b (by omega) (by omega) (by omega)) fun _ _ => rfl)
    · rw [w3 _ (by omega), azUp_nk (by omega), e222]
    · cases e
      refine ⟨by rw [w3 _ (by omega), azUp_s], fun j hj => ?_⟩
      rw [w2 j hj, Nat.zero_add, azUp_nb (by decide)]
      exact hx2.2.get hj
    · rw [w1 228 (by decide), azUp_nb (by decide), q1.2 8 (by omega)]; exact eA8
    · cases e
      exact ⟨htk, ht0, hp2⟩
theorem S_mdPaper (hR : azClosed R) (hW : MW σ st) {x : Int32} (h : Q (some (.int (aPaper st x))) σ) : R (d + 3) mX9_paper 0 [.ref 228, .int x] [] σ Q := by
  obtain ⟨⟨n, z, kd⟩, I, J, F⟩ := σ
  obtain ⟨hK, hC, hS⟩ := id hW
  have hK : MdOk kd F := hK
  have hC : cMd I st := hC
  have ⟨k0, _, ⟨k232, k233, k234, k235, k236, k237, k238, k239, k240, k241, k242, k243, k244, k245, k246⟩, _, ⟨f26, f28, f29, f30, f31, f33, f34, f35, f36, f37, f38, f39, f40, f41, f43⟩⟩ := id hK
  have hl := hS.2.2.2.1
  have e27 := hC.2.2.2.1.1
  refine BX9_paper_0 hR ⟨k0, ?_⟩
  rw [e27]
  have ls : (nI st.2.2.2.1.length - nI 1).toInt64.toInt = (st.2.2.2.1.length : Int) - 1 := by
    rw [Int32.toInt_toInt64, Int32.toInt_sub, nI_toInt (by omega), nI_toInt (by decide)]
    apply Int.bmod_eq_of_le <;> omega
  refine S_isInP9 hR (k := st.2.2.2.1.length) (by omega) rfl ls ?_
  unfold isP
  unfold aPaper at h
  rcases ix_cases x (n := st.2.2.2.1.length) (by omega) with ⟨e, c⟩ | ⟨k, hk, rfl, e⟩
  · rw [e] at h ⊢
    simp (disch := omega) only [nI_ad, nI_ml, nI_lti, nI_lei, nI_eqi, nI_nn, nI_0le, nI_eq0, nI_0lt, nI_le0, nI_clamp, nI_pd, nI_sb, zOf_some, zOp_some, zOp_none, kI_int, kL_long, kO_ref, kO_null, nlt_T, nlt_F, nle_T, nle_F, neq_F, vpT, azUp_at, if_true, if_false, true_and, and_true, true_implies, false_implies, implies_true, not_true_eq_false, not_false_eq_true, true_or, or_true, false_or, or_false, and_false, false_and, eq_self, n01_0, n01_1, nm1_0]
    exact h
  rw [e] at h ⊢
  dsimp only at h
  have eb := hC.2.2.2.1.2.get hk
  simp (disch := omega) only [nI_ad, nI_ml, nI_lti, nI_lei, nI_eqi, nI_nn, nI_0le, nI_eq0, nI_0lt, nI_le0, nI_clamp, nI_pd, nI_sb, zOf_some, zOp_some, zOp_none, kI_int, kL_long, kO_ref, kO_null, nlt_T, nlt_F, nle_T, nle_F, neq_F, vpT, azUp_at, if_true, if_false, true_and, and_true, true_implies, false_implies, implies_true, not_true_eq_false, not_false_eq_true, true_or, or_true, false_or, or_false, and_false, false_and, eq_self, n01_0, n01_1, nm1_0, k0, f26, k232, eb]
  exact h
theorem S_tokens9 (hR : azClosed R) (hK : MdOk kd F) {m : Mk} (hm : cD (I 229) m) (h : Q (some (.int (nI (mTo m 10)))) ((n, z, kd), I, J, F)) : R d mX9_tokens 0 [.ref 228, .retAddr 0, .retAddr 0] [] ((n, z, kd), I, J, F) Q := by
  have ⟨k0, ⟨k220, _⟩, _, ⟨f0, _⟩, _⟩ := id hK
  have main : ∀ s p, s + p = 10 → R d mX9_tokens 4 [.ref 228, .int (nI (mTo m p)), .int (nI p)] [] ((n, z, kd), I, J, F) Q := by
    intro s
    induction s with
    | zero =>
      intro p hp
      obtain rfl : p = 10 := by omega
      refine BX9_tokens_4 hR ?_
      simp (disch := omega) only [nI_ad, nI_ml, nI_lti, nI_lei, nI_eqi, nI_nn, nI_0le, nI_eq0, nI_0lt, nI_le0, nI_clamp, nI_pd, nI_sb, zOf_some, zOp_some, zOp_none, kI_int, kL_long, kO_ref, kO_null, nlt_T, nlt_F, nle_T, nle_F, neq_F, vpT, azUp_at, if_true, if_false, true_and, and_true, true_implies, false_implies, implies_true, not_true_eq_false, not_false_eq_true, true_or, or_true, false_or, or_false, and_false, false_and, eq_self, n01_0, n01_1, nm1_0]
      exact h
    | succ s ih =>
      intro p hp
      refine BX9_tokens_4 hR ?_
      simp (disch := omega) only [nI_ad, nI_ml, nI_lti, nI_lei, nI_eqi, nI_nn, nI_0le, nI_eq0, nI_0lt, nI_le0, nI_clamp, nI_pd, nI_sb, zOf_some, zOp_some, zOp_none, kI_int, kL_long, kO_ref, kO_null, nlt_T, nlt_F, nle_T, nle_F, neq_F, vpT, azUp_at, if_true, if_false, true_and, and_true, true_implies, false_implies, implies_true, not_true_eq_false, not_false_eq_true, true_or, or_true, false_or, or_false, and_false, false_and, eq_self, n01_0, n01_1, nm1_0, k0, f0, k220, (hm p (by omega)).1]
      exact ih (p + 1) (by omega)
  exact BX9_tokens_0 hR (main 10 0 rfl)
theorem S_mdTold (hR : azClosed R) (hW : MW σ st) {x : Int32} (h : Q (some (.int (aTold st x))) σ) : R (d + 3) mX9_told 0 [.ref 228, .int x, .retAddr 0, .retAddr 0] [] σ Q := by
  obtain ⟨⟨n, z, kd⟩, I, J, F⟩ := σ
  obtain ⟨hK, hC, hS⟩ := id hW
  have hK : MdOk kd F := hK
  have hC : cMd I st := hC
  have ⟨k0, ⟨k220, k221, k222, k223, k224, k225, k226, k227, k228, k229, k230, k231⟩, _, ⟨f0, f1, f2, f3, f7, f9, f14, f15, f17, f18, f20, f23⟩, _⟩ := id hK
  refine BX9_told_0 hR ?_
  unfold aTold at h
  rcases ix_cases x (n := 5) (by decide) with ⟨e, c⟩ | ⟨w, hw, rfl, e⟩
  · rw [e] at h
    have hx : x.toInt < 0 ∨ 4 < x.toInt := by
      rcases c with c | ⟨c0, c⟩
      · rw [Int32.lt_iff_toInt_lt] at c
        have e0 : (0 : Int32).toInt = 0 := rfl
        rw [e0] at c
        exact Or.inl c
      · rw [Int32.le_iff_toInt_le, nI_toInt (by decide)] at c
        exact Or.inr (by omega)
    exact ⟨fun _ => h, fun q => absurd q (by omega), fun q => absurd q (by omega), fun q => absurd q (by omega), fun q => absurd q (by omega), fun q => absurd q (by omega), trivial⟩
  rw [e] at h
  dsimp only at h
  rw [nI_toInt (by omega)]
  refine ⟨fun q => absurd q (by omega), fun q => ?_, fun q => ?_, fun q => ?_, fun q => ?_, fun q => ?_, trivial⟩
  · have : w = 0 := by omega
    rw [this] at h
    exact ⟨k0, S_tokens9 hR hK hC.1 h⟩
  · have hw1 : w = 1 := by omega
    rw [hw1] at h ⊢
    have h : Q (some (.int (nI (pcT (tldT st.2.1 10) 10)))) ((n, z, kd), I, J, F) := h
    have main : ∀ s p, s + p = 10 → R (d + 3) mX9_told 45 [.ref 228, .int (nI 1), .int (nI (pcT (tldT st.2.1 10) p)), .int (nI p)] [] ((n, z, kd), I, J, F) Q := by
      intro s
      induction s with
      | zero =>
        intro p hp
        obtain rfl : p = 10 := by omega
        refine BX9_told_45 hR ?_
        simp (disch := omega) only [nI_ad, nI_ml, nI_lti, nI_lei, nI_eqi, nI_nn, nI_0le, nI_eq0, nI_0lt, nI_le0, nI_clamp, nI_pd, nI_sb, zOf_some, zOp_some, zOp_none, kI_int, kL_long, kO_ref, kO_null, nlt_T, nlt_F, nle_T, nle_F, neq_F, vpT, azUp_at, if_true, if_false, true_and, and_true, true_implies, false_implies, implies_true, not_true_eq_false, not_false_eq_true, true_or, or_true, false_or, or_false, and_false, false_and, eq_self, n01_0, n01_1, nm1_0]
        exact h
      | succ s ih =>
        intro p hs
        have hp : p < 10 := by omega
        have hh := ih (p + 1) (by omega)
        have ep : pcT (tldT st.2.1 10) (p + 1) = pcT (tldT st.2.1 10) p + if (tldT st.2.1 10).testBit p then 1 else 0 := rfl
        rw [ep, tldT_bit, decide_eq_true hp, Bool.true_and] at hh
        obtain ⟨r0, r1⟩ := hC.2.1 p hp
        refine BX9_told_45 hR ?_
        cases hr : st.2.1 p with
        | none =>
          have e0 := r0 hr
          rw [hr] at hh
          simp (disch := omega) only [nI_ad, nI_ml, nI_lti, nI_lei, nI_eqi, nI_nn, nI_0le, nI_eq0, nI_0lt, nI_le0, nI_clamp, nI_pd, nI_sb, zOf_some, zOp_some, zOp_none, kI_int, kL_long, kO_ref, kO_null, nlt_T, nlt_F, nle_T, nle_F, neq_F, vpT, azUp_at, if_true, if_false, true_and, and_true, true_implies, false_implies, implies_true, not_true_eq_false, not_false_eq_true, true_or, or_true, false_or, or_false, and_false, false_and, eq_self, n01_0, n01_1, nm1_0, k0, f2, k222, e0]
          exact hh
        | some y =>
          obtain ⟨t, cs⟩ := y
          obtain ⟨e0, _⟩ := r1 t cs hr
          obtain ⟨u1, u2, u3⟩ := hS.2.1 p t cs hr
          have hl := u1.1
          have hne : ¬ (t.length = 0) := by omega
          rw [hr] at hh
          simp (disch := omega) only [nI_ad, nI_ml, nI_lti, nI_lei, nI_eqi, nI_nn, nI_0le, nI_eq0, nI_0lt, nI_le0, nI_clamp, nI_pd, nI_sb, zOf_some, zOp_some, zOp_none, kI_int, kL_long, kO_ref, kO_null, nlt_T, nlt_F, nle_T, nle_F, neq_F, vpT, azUp_at, if_true, if_false, true_and, and_true, true_implies, false_implies, implies_true, not_true_eq_false, not_false_eq_true, true_or, or_true, false_or, or_false, and_false, false_and, eq_self, n01_0, n01_1, nm1_0, k0, f2, k222, e0, hne]
          exact hh
    exact main 10 0 rfl
  · have : w = 2 := by omega
    rw [this] at h
    refine ⟨k0, ?_⟩
    rw [hC.2.2.2.2.1]
    exact h
  · have : w = 3 := by omega
    rw [this] at h
    refine ⟨k0, ?_⟩
    rw [hC.2.2.1.1]
    exact h
  · have : w = 4 := by omega
    rw [this] at h
    refine ⟨k0, ?_⟩
    rw [hC.2.2.2.1.1]
    exact h
theorem cD.row {f g : Nat → Int32} {m : Mk} (h : cD f m) (e : ∀ i, i < 70 → g i = f i) : cD g m := fun p hp => ⟨by rw [e p (by omega)]; exact (h p hp).1, fun j hj => by rw [e _ (by omega)]; exact (h p hp).2 j hj⟩
theorem cRu.row {f g : Nat → Int32} {ru : Ru} (h : cRu f ru) (hl : ∀ q t cs, ru q = some (t, cs) → t.length ≤ 80) (e : ∀ i, i < 810 → g i = f i) : cRu g ru := fun p hp => ⟨fun hr => by rw [e _ (by omega)]; exact (h p hp).1 hr, fun t cs hr => by
  have := hl p t cs hr
  exact ⟨by rw [e _ (by omega)]; exact ((h p hp).2 t cs hr).1, fun j hj => by rw [e _ (by omega)]; exact ((h p hp).2 t cs hr).2 j hj⟩⟩
theorem S_mdImage (hR : azClosed R) (hW : MW σ st) (h : ∀ σ', MW σ' (aImage st).2 → mdF σ σ' → Q (some (.int (aImage st).1)) σ') : R (d + 3) mX9_image 0 [.ref 228] [] σ Q := by
  obtain ⟨⟨n, z, kd⟩, I, J, F⟩ := σ
  obtain ⟨hK, hC, hS⟩ := id hW
  have hK : MdOk kd F := hK
  have hC : cMd I st := hC
  have ⟨k0, ⟨k220, k221, k222, k223, k224, k225, k226, k227, k228, k229, k230, k231⟩, _, ⟨f0, f1, f2, f3, f7, f9, f14, f15, f17, f18, f20, f23⟩, _⟩ := id hK
  obtain ⟨h1, h2, h3, h4, h5, h6, h7⟩ := id hC
  refine BX9_image_0 hR ?_
  simp (disch := omega) only [nI_ad, nI_ml, nI_lti, nI_lei, nI_eqi, nI_nn, nI_0le, nI_eq0, nI_0lt, nI_le0, nI_clamp, nI_pd, nI_sb, zOf_some, zOp_some, zOp_none, kI_int, kL_long, kO_ref, kO_null, nlt_T, nlt_F, nle_T, nle_F, neq_F, vpT, azUp_at, if_true, if_false, true_and, and_true, true_implies, false_implies, implies_true, not_true_eq_false, not_false_eq_true, true_or, or_true, false_or, or_false, and_false, false_and, eq_self, n01_0, n01_1, nm1_0, k0, f0, f1]
  refine S_pours9 hR (la := 70) (lb := 70) (k := 70) (by decide) k220 k221 (by decide) (by decide) (by omega) (by omega) fun I1 g1 g2 g3 => ⟨rfl, ?_⟩
  simp (disch := omega) only [nI_ad, nI_ml, nI_lti, nI_lei, nI_eqi, nI_nn, nI_0le, nI_eq0, nI_0lt, nI_le0, nI_clamp, nI_pd, nI_sb, zOf_some, zOp_some, zOp_none, kI_int, kL_long, kO_ref, kO_null, nlt_T, nlt_F, nle_T, nle_F, neq_F, vpT, azUp_at, if_true, if_false, true_and, and_true, true_implies, false_implies, implies_true, not_true_eq_false, not_false_eq_true, true_or, or_true, false_or, or_false, and_false, false_and, eq_self, n01_0, n01_1, nm1_0, k0, f2, f3]
  refine S_pours9 hR (la := 810) (lb := 810) (k := 810) (by decide) k222 k223 (by decide) (by decide) (by omega) (by omega) fun I2 w1 w2 w3 => ⟨rfl, ?_⟩
  have e4 : I2 228 4 = nI st.2.2.2.2.1 := by rw [w1 228 (by decide), g1 228 (by decide)]; exact h5
  simp (disch := omega) only [nI_ad, nI_ml, nI_lti, nI_lei, nI_eqi, nI_nn, nI_0le, nI_eq0, nI_0lt, nI_le0, nI_clamp, nI_pd, nI_sb, zOf_some, zOp_some, zOp_none, kI_int, kL_long, kO_ref, kO_null, nlt_T, nlt_F, nle_T, nle_F, neq_F, vpT, azUp_at, if_true, if_false, true_and, and_true, true_implies, false_implies, implies_true, not_true_eq_false, not_false_eq_true, true_or, or_true, false_or, or_false, and_false, false_and, eq_self, n01_0, n01_1, nm1_0, k0, e4]
  generalize hB : azUp (azUp I2 228 5 (nI st.2.2.2.2.1)) 228 6 (nI 1) = B
  have o : ∀ b, b ≠ 228 → b ≠ 230 → b ≠ 232 → B b = I b := fun b b1 b2 b3 => by rw [← hB, azUp_nb b1, azUp_nb b1, w1 b b3, g1 b b2]
  have oj : ∀ j, j ≠ 5 → j ≠ 6 → B 228 j = I 228 j := fun j j1 j2 => by rw [← hB, azUp_nk j2, azUp_nk j1, w1 228 (by decide), g1 228 (by decide)]
  refine S_tokens9 hR hK (m := st.1) (by rw [o 229 (by decide) (by decide) (by decide)]; exact h1) ?_
  simp (disch := omega) only [nI_ad, nI_ml, nI_lti, nI_lei, nI_eqi, nI_nn, nI_0le, nI_eq0, nI_0lt, nI_le0, nI_clamp, nI_pd, nI_sb, zOf_some, zOp_some, zOp_none, kI_int, kL_long, kO_ref, kO_null, nlt_T, nlt_F, nle_T, nle_F, neq_F, vpT, azUp_at, if_true, if_false, true_and, and_true, true_implies, false_implies, implies_true, not_true_eq_false, not_false_eq_true, true_or, or_true, false_or, or_false, and_false, false_and, eq_self, n01_0, n01_1, nm1_0]
  refine h _ (MW.mk hK ⟨by rw [o 229 (by decide) (by decide) (by decide)]; exact h1, by rw [o 231 (by decide) (by decide) (by decide)]; exact h2, by rw [oj 8 (by decide) (by decide), o 233 (by decide) (by decide) (by decide)]; exact h3, by rw [oj 27 (by decide) (by decide), o 241 (by decide) (by decide) (by decide)]; exact h4, by rw [oj 4 (by decide) (by decide)]; exact h5, fun e => (by cases e), fun m ru w e => ?_⟩ ⟨hS.1, hS.2.1, hS.2.2.1, hS.2.2.2.1, fun m ru w e => by cases e; exact ⟨hS.1, hS.2.1⟩⟩) (mdF_I (fun b hb => o b (by omega) (by omega) (by omega)) fun _ _ => rfl)
  cases e
  refine ⟨by rw [← hB, azUp_s], h1.row fun i hi => ?_, h2.row hS.2.1.len fun i hi => ?_, by rw [← hB, azUp_nk (by decide), azUp_s]⟩
  · rw [← hB, azUp_nb (by decide), azUp_nb (by decide), w1 230 (by decide)]
    have := g2 i hi
    rw [Nat.zero_add] at this
    exact this
  · rw [← hB, azUp_nb (by decide), azUp_nb (by decide)]
    have := w2 i hi
    rw [Nat.zero_add, g1 231 (by decide)] at this
    exact this
theorem S_mdUndo (hR : azClosed R) (hW : MW σ st) (h : ∀ σ', MW σ' (aUndo st).2 → mdF σ σ' → Q (some (.int (aUndo st).1)) σ') : R (d + 3) mX9_undo 0 [.ref 228] [] σ Q := by
  obtain ⟨⟨n, z, kd⟩, I, J, F⟩ := σ
  obtain ⟨hK, hC, hS⟩ := id hW
  have hK : MdOk kd F := hK
  have hC : cMd I st := hC
  have ⟨k0, ⟨k220, k221, k222, k223, k224, k225, k226, k227, k228, k229, k230, k231⟩, _, ⟨f0, f1, f2, f3, f7, f9, f14, f15, f17, f18, f20, f23⟩, _⟩ := id hK
  obtain ⟨h1, h2, h3, h4, h5, h6, h7⟩ := id hC
  refine BX9_undo_0 hR ?_
  unfold aUndo at h
  cases e : st.2.2.2.2.2 with
  | none =>
    have e6 := h6 e
    rw [e] at h
    simp (disch := omega) only [nI_ad, nI_ml, nI_lti, nI_lei, nI_eqi, nI_nn, nI_0le, nI_eq0, nI_0lt, nI_le0, nI_clamp, nI_pd, nI_sb, zOf_some, zOp_some, zOp_none, kI_int, kL_long, kO_ref, kO_null, nlt_T, nlt_F, nle_T, nle_F, neq_F, vpT, azUp_at, if_true, if_false, true_and, and_true, true_implies, false_implies, implies_true, not_true_eq_false, not_false_eq_true, true_or, or_true, false_or, or_false, and_false, false_and, eq_self, n01_0, n01_1, nm1_0, k0, e6]
    exact h _ hW mdF.refl
  | some i =>
    obtain ⟨m, ru, w⟩ := i
    obtain ⟨b1, b2, b3, b4⟩ := h7 m ru w e
    obtain ⟨hmv, hru⟩ := hS.2.2.2.2 m ru w e
    rw [e] at h
    dsimp only at h
    simp (disch := omega) only [nI_ad, nI_ml, nI_lti, nI_lei, nI_eqi, nI_nn, nI_0le, nI_eq0, nI_0lt, nI_le0, nI_clamp, nI_pd, nI_sb, zOf_some, zOp_some, zOp_none, kI_int, kL_long, kO_ref, kO_null, nlt_T, nlt_F, nle_T, nle_F, neq_F, vpT, azUp_at, if_true, if_false, true_and, and_true, true_implies, false_implies, implies_true, not_true_eq_false, not_false_eq_true, true_or, or_true, false_or, or_false, and_false, false_and, eq_self, n01_0, n01_1, nm1_0, k0, b1, f1, f0]
    refine S_pours9 hR (la := 70) (lb := 70) (k := 70) (by decide) k221 k220 (by decide) (by decide) (by omega) (by omega) fun I1 g1 g2 g3 => ⟨rfl, ?_⟩
    simp (disch := omega) only [nI_ad, nI_ml, nI_lti, nI_lei, nI_eqi, nI_nn, nI_0le, nI_eq0, nI_0lt, nI_le0, nI_clamp, nI_pd, nI_sb, zOf_some, zOp_some, zOp_none, kI_int, kL_long, kO_ref, kO_null, nlt_T, nlt_F, nle_T, nle_F, neq_F, vpT, azUp_at, if_true, if_false, true_and, and_true, true_implies, false_implies, implies_true, not_true_eq_false, not_false_eq_true, true_or, or_true, false_or, or_false, and_false, false_and, eq_self, n01_0, n01_1, nm1_0, k0, f2, f3]
    refine S_pours9 hR (la := 810) (lb := 810) (k := 810) (by decide) k223 k222 (by decide) (by decide) (by omega) (by omega) fun I2 w1 w2 w3 => ⟨rfl, ?_⟩
    have e5 : I2 228 5 = nI w := by rw [w1 228 (by decide), g1 228 (by decide)]; exact b4
    simp (disch := omega) only [nI_ad, nI_ml, nI_lti, nI_lei, nI_eqi, nI_nn, nI_0le, nI_eq0, nI_0lt, nI_le0, nI_clamp, nI_pd, nI_sb, zOf_some, zOp_some, zOp_none, kI_int, kL_long, kO_ref, kO_null, nlt_T, nlt_F, nle_T, nle_F, neq_F, vpT, azUp_at, if_true, if_false, true_and, and_true, true_implies, false_implies, implies_true, not_true_eq_false, not_false_eq_true, true_or, or_true, false_or, or_false, and_false, false_and, eq_self, n01_0, n01_1, nm1_0, k0, e5]
    generalize hB : azUp I2 228 4 (nI w) = B
    have o : ∀ b, b ≠ 228 → b ≠ 229 → b ≠ 231 → B b = I b := fun b b1 b2 b3 => by rw [← hB, azUp_nb b1, w1 b b3, g1 b b2]
    have oj : ∀ j, j ≠ 4 → B 228 j = I 228 j := fun j j1 => by rw [← hB, azUp_nk j1, w1 228 (by decide), g1 228 (by decide)]
    have c1 : cD (B 229) m := b2.row fun i hi => by
      rw [← hB, azUp_nb (by decide), w1 229 (by decide)]
      have := g2 i hi
      rw [Nat.zero_add] at this
      exact this
    have c2 : cRu (B 231) ru := b3.row (fun q t cs e => (hru q t cs e).1.1) fun i hi => by
      rw [← hB, azUp_nb (by decide)]
      have := w2 i hi
      rw [Nat.zero_add, g1 232 (by decide)] at this
      exact this
    refine S_tokens9 hR hK (m := m) c1 ?_
    simp (disch := omega) only [nI_ad, nI_ml, nI_lti, nI_lei, nI_eqi, nI_nn, nI_0le, nI_eq0, nI_0lt, nI_le0, nI_clamp, nI_pd, nI_sb, zOf_some, zOp_some, zOp_none, kI_int, kL_long, kO_ref, kO_null, nlt_T, nlt_F, nle_T, nle_F, neq_F, vpT, azUp_at, if_true, if_false, true_and, and_true, true_implies, false_implies, implies_true, not_true_eq_false, not_false_eq_true, true_or, or_true, false_or, or_false, and_false, false_and, eq_self, n01_0, n01_1, nm1_0]
    refine h _ (MW.mk hK ⟨c1, c2, by rw [oj 8 (by decide), o 233 (by decide) (by decide) (by decide)]; exact h3, by rw [oj 27 (by decide), o 241 (by decide) (by decide) (by decide)]; exact h4, by rw [← hB, azUp_s], fun e => (by cases e), fun m' ru' w' e' => ?_⟩ ⟨hmv, hru, hS.2.2.1, hS.2.2.2.1, fun m' ru' w' e' => by cases e'; exact ⟨hmv, hru⟩⟩) (mdF_I (fun b hb => o b (by omega) (by omega) (by omega)) fun _ _ => rfl)
    cases e'
    rw [oj 6 (by decide), o 230 (by decide) (by decide) (by decide), o 232 (by decide) (by decide) (by decide), oj 5 (by decide)]
    exact ⟨b1, b2, b3, b4⟩
end S9
