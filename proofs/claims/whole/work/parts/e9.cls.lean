/-! BALANCE: the class's answers. -/
theorem nI_nm1 {a : Nat} (h : a < 100) : ¬ nI a = -(nI 1) := fun e => by
  have := congrArg Int32.toInt e
  rw [nI_toInt (by omega)] at this
  have e1 : (-(nI 1)).toInt = -1 := by decide
  rw [e1] at this
  omega
theorem i64_nI {k : Nat} (h : k < 100) : (nI k).toInt64 = lO k := by
  rw [← Int64.toInt_inj, Int32.toInt_toInt64, nI_toInt (by omega), lO_toInt (by unfold sml; omega)]
section SB
variable {R : azP} {d n z : Nat} {kd : azK} {I : azI} {J : azJ} {F : azR} {Q : azQ} {rs : Nat → Option (List Cls)} {T : Nat → T3} {V : Nat → Rw} {k : Nat} {lc : Nat → Nat}
theorem S_isSide (hR : azClosed R) {x : Int32} {σ : azS} (h : Q (some (.int (isP x 2))) σ) : R d mX8_isSide 0 [.int x] [] σ Q := by
  obtain ⟨⟨n, z, kd⟩, I, J, F⟩ := σ
  refine BX8_isSide_0 hR ?_
  unfold isP at h
  rcases ix_cases x (n := 2) (by decide) with ⟨e, c⟩ | ⟨k, hk, rfl, e⟩
  · rw [e] at h
    have h0 : ¬ x = 0 := fun e => by
      rw [e] at c
      exact absurd c (by decide)
    have h1 : ¬ x = nI 1 := fun e => by
      rw [e] at c
      exact absurd c (by decide)
    simp (disch := omega) only [nI_ad, nI_ml, nI_lti, nI_lei, nI_eqi, nI_nn, nI_0le, nI_eq0, nI_0lt, nI_le0, nI_clamp, nI_pd, nI_sb, zOf_some, zOp_some, zOp_none, kI_int, kL_long, kO_ref, kO_null, nlt_T, nlt_F, nle_T, nle_F, neq_F, vpT, azUp_at, if_true, if_false, true_and, and_true, true_implies, false_implies, implies_true, not_true_eq_false, not_false_eq_true, true_or, or_true, false_or, or_false, and_false, false_and, eq_self, n01_0, n01_1, nm1_0, h0, h1]
    exact h
  · rw [e] at h
    dsimp only at h
    have : k = 0 ∨ k = 1 := by omega
    rcases this with rfl | rfl
    · simp (disch := omega) only [nI_ad, nI_ml, nI_lti, nI_lei, nI_eqi, nI_nn, nI_0le, nI_eq0, nI_0lt, nI_le0, nI_clamp, nI_pd, nI_sb, zOf_some, zOp_some, zOp_none, kI_int, kL_long, kO_ref, kO_null, nlt_T, nlt_F, nle_T, nle_F, neq_F, vpT, azUp_at, if_true, if_false, true_and, and_true, true_implies, false_implies, implies_true, not_true_eq_false, not_false_eq_true, true_or, or_true, false_or, or_false, and_false, false_and, eq_self, n01_0, n01_1, nm1_0]; exact h
    · simp (disch := omega) only [nI_ad, nI_ml, nI_lti, nI_lei, nI_eqi, nI_nn, nI_0le, nI_eq0, nI_0lt, nI_le0, nI_clamp, nI_pd, nI_sb, zOf_some, zOp_some, zOp_none, kI_int, kL_long, kO_ref, kO_null, nlt_T, nlt_F, nle_T, nle_F, neq_F, vpT, azUp_at, if_true, if_false, true_and, and_true, true_implies, false_implies, implies_true, not_true_eq_false, not_false_eq_true, true_or, or_true, false_or, or_false, and_false, false_and, eq_self, n01_0, n01_1, nm1_0]; exact h
theorem SV.led (h : SV rs T V k lc) (ho : ∀ p cs, p < 10 → rs p = some cs → rlOK cs) {g : Nat → Int32} (hL : cL g k 10 lc) {p : Nat} (hp : p < 10) : (freeP rs p ∧ g p = -(nI 1)) ∨ (¬ freeP rs p ∧ ∃ a, a < k ∧ lc a = p ∧ g p = nI a) := by
  obtain ⟨h1, h2⟩ := hL p hp
  by_cases c : ∃ a, a < k ∧ lc a = p
  · obtain ⟨a, a1, a2⟩ := c
    refine Or.inr ⟨fun hf => ?_, a, a1, a2, h1 a a1 a2⟩
    exact (h.free ho hp).mp hf a a1 a2
  · have hn : ∀ a, a < k → lc a ≠ p := fun a a1 a2 => c ⟨a, a1, a2⟩
    exact Or.inl ⟨(h.free ho hp).mpr hn, h2 hn⟩
theorem S_cnt0 (hR : azClosed R) (hB : BlOk kd F 220) (ho : ∀ p cs, p < 10 → rs p = some cs → rlOK cs) (hS : SV rs T V k lc) (hL : cL (I 222) k 10 lc) (h : Q (some (.int (nI (frCt rs 10)))) ((n, z, kd), I, J, F)) : R d mX0_count 0 [.ref 220, .retAddr 0, .retAddr 0] [] ((n, z, kd), I, J, F) Q := by
  have ⟨k0, k1, k2, f0, f1⟩ := id hB
  have main : ∀ s p, s + p = 10 → R d mX0_count 4 [.ref 220, .int (nI (frCt rs p)), .int (nI p)] [] ((n, z, kd), I, J, F) Q := by
    intro s
    induction s with
    | zero =>
      intro p hp
      obtain rfl : p = 10 := by omega
      refine BX0_count_4 hR ?_
      simp (disch := omega) only [nI_ad, nI_ml, nI_lti, nI_lei, nI_eqi, nI_nn, nI_0le, nI_eq0, nI_0lt, nI_le0, nI_clamp, nI_pd, nI_sb, zOf_some, zOp_some, zOp_none, kI_int, kL_long, kO_ref, kO_null, nlt_T, nlt_F, nle_T, nle_F, neq_F, vpT, azUp_at, if_true, if_false, true_and, and_true, true_implies, false_implies, implies_true, not_true_eq_false, not_false_eq_true, true_or, or_true, false_or, or_false, and_false, false_and, eq_self, n01_0, n01_1, nm1_0]
      exact h
    | succ s ih =>
      intro p hp
      have hp10 : p < 10 := by omega
      have nx := ih (p + 1) (by omega)
      refine BX0_count_4 hR ?_
      rcases hS.led ho hL hp10 with ⟨c1, c2⟩ | ⟨c1, a, a1, a2, a3⟩
      · rw [frCt_1 c1] at nx
        simp (disch := omega) only [nI_ad, nI_ml, nI_lti, nI_lei, nI_eqi, nI_nn, nI_0le, nI_eq0, nI_0lt, nI_le0, nI_clamp, nI_pd, nI_sb, zOf_some, zOp_some, zOp_none, kI_int, kL_long, kO_ref, kO_null, nlt_T, nlt_F, nle_T, nle_F, neq_F, vpT, azUp_at, if_true, if_false, true_and, and_true, true_implies, false_implies, implies_true, not_true_eq_false, not_false_eq_true, true_or, or_true, false_or, or_false, and_false, false_and, eq_self, n01_0, n01_1, nm1_0, k0, f1, k2, c2]
        exact nx
      · have hk := hS.2.1
        have ne := nI_nm1 (a := a) (by omega)
        rw [frCt_0 c1] at nx
        simp (disch := omega) only [nI_ad, nI_ml, nI_lti, nI_lei, nI_eqi, nI_nn, nI_0le, nI_eq0, nI_0lt, nI_le0, nI_clamp, nI_pd, nI_sb, zOf_some, zOp_some, zOp_none, kI_int, kL_long, kO_ref, kO_null, nlt_T, nlt_F, nle_T, nle_F, neq_F, vpT, azUp_at, if_true, if_false, true_and, and_true, true_implies, false_implies, implies_true, not_true_eq_false, not_false_eq_true, true_or, or_true, false_or, or_false, and_false, false_and, eq_self, n01_0, n01_1, nm1_0, k0, f1, k2, a3, ne]
        exact nx
  exact BX0_count_0 hR (main 10 0 rfl)
theorem S_plc0 (hR : azClosed R) (hB : BlOk kd F 220) (ho : ∀ p cs, p < 10 → rs p = some cs → rlOK cs) (hS : SV rs T V k lc) (hL : cL (I 222) k 10 lc) {x : Int32} (h0 : ix x (frCt rs 10) = none → Q (some (.int (-(nI 1)))) ((n, z, kd), I, J, F)) (h1 : ∀ i, ix x (frCt rs 10) = some i → freeP rs (frA rs i) → Q (some (.int (nI (frA rs i)))) ((n, z, kd), I, J, F)) : R d mX0_placeOf 0 [.ref 220, .int x, .retAddr 0, .retAddr 0] [] ((n, z, kd), I, J, F) Q := by
  have ⟨k0, k1, k2, f0, f1⟩ := id hB
  have hN := frCt_le (rs := rs) 10
  have main : ∀ s p, s + p = 10 → (∀ i, ix x (frCt rs 10) = some i → frCt rs p ≤ i) → R d mX0_placeOf 4 [.ref 220, .int x, .int (nI (frCt rs p)), .int (nI p)] [] ((n, z, kd), I, J, F) Q := by
    intro s
    induction s with
    | zero =>
      intro p hp hle
      obtain rfl : p = 10 := by omega
      refine BX0_placeOf_4 hR ?_
      simp (disch := omega) only [nI_ad, nI_ml, nI_lti, nI_lei, nI_eqi, nI_nn, nI_0le, nI_eq0, nI_0lt, nI_le0, nI_clamp, nI_pd, nI_sb, zOf_some, zOp_some, zOp_none, kI_int, kL_long, kO_ref, kO_null, nlt_T, nlt_F, nle_T, nle_F, neq_F, vpT, azUp_at, if_true, if_false, true_and, and_true, true_implies, false_implies, implies_true, not_true_eq_false, not_false_eq_true, true_or, or_true, false_or, or_false, and_false, false_and, eq_self, n01_0, n01_1, nm1_0]
      refine h0 ?_
      rcases ix_cases x (n := frCt rs 10) (by omega) with ⟨e, _⟩ | ⟨i, hi, rfl, e⟩
      · exact e
      · have := hle i e
        omega
    | succ s ih =>
      intro p hp hle
      have hp10 : p < 10 := by omega
      refine BX0_placeOf_4 hR ?_
      rcases hS.led ho hL hp10 with ⟨c1, c2⟩ | ⟨c1, a, a1, a2, a3⟩
      · have nx := ih (p + 1) (by omega)
        rw [frCt_1 c1] at nx
        have hlt := frCt_lt c1
        simp (disch := omega) only [nI_ad, nI_ml, nI_lti, nI_lei, nI_eqi, nI_nn, nI_0le, nI_eq0, nI_0lt, nI_le0, nI_clamp, nI_pd, nI_sb, zOf_some, zOp_some, zOp_none, kI_int, kL_long, kO_ref, kO_null, nlt_T, nlt_F, nle_T, nle_F, neq_F, vpT, azUp_at, if_true, if_false, true_and, and_true, true_implies, false_implies, implies_true, not_true_eq_false, not_false_eq_true, true_or, or_true, false_or, or_false, and_false, false_and, eq_self, n01_0, n01_1, nm1_0, k0, f1, k2, c2]
        refine ⟨fun e => nx fun i hi => ?_, fun e => ?_⟩
        · have := hle i hi
          by_cases ei : i = frCt rs p
          · rcases ix_cases x (n := frCt rs 10) (by omega) with ⟨e1, _⟩ | ⟨j, hj, rfl, e1⟩
            · rw [e1] at hi; cases hi
            · rw [e1] at hi
              have := Option.some.inj hi
              subst this
              exact absurd (by rw [ei]) e
          · omega
        · have e := Classical.not_not.mp e
          subst e
          have hi := ix_nI (n := frCt rs 10) (by omega) hlt
          have := h1 _ hi (by rw [frA_eq c1]; exact c1)
          rw [frA_eq c1] at this
          exact this
      · have hk := hS.2.1
        have ne := nI_nm1 (a := a) (by omega)
        have nx := ih (p + 1) (by omega)
        rw [frCt_0 c1] at nx
        simp (disch := omega) only [nI_ad, nI_ml, nI_lti, nI_lei, nI_eqi, nI_nn, nI_0le, nI_eq0, nI_0lt, nI_le0, nI_clamp, nI_pd, nI_sb, zOf_some, zOp_some, zOp_none, kI_int, kL_long, kO_ref, kO_null, nlt_T, nlt_F, nle_T, nle_F, neq_F, vpT, azUp_at, if_true, if_false, true_and, and_true, true_implies, false_implies, implies_true, not_true_eq_false, not_false_eq_true, true_or, or_true, false_or, or_false, and_false, false_and, eq_self, n01_0, n01_1, nm1_0, k0, f1, k2, a3, ne]
        exact nx hle
  exact BX0_placeOf_0 hR (main 10 0 rfl fun i _ => Nat.zero_le _)
theorem isP_in {q k : Nat} (hk : k < 2 ^ 31) (h : q < k) : isP (nI q) k = nI 1 := by
  unfold isP
  rw [ix_nI hk h]
theorem S_weigh (hR : azClosed R) (hB : BlOk kd F 220) (ho : ∀ p cs, p < 10 → rs p = some cs → rlOK cs) (hS : SV rs T V k lc) (hok : ∀ i, i < 10 → okR (V i)) (hV : cZ J V) (hL : cL (I 222) k 10 lc) {f q : Nat} (hf : freeP rs f) (hq : q < 10) (h : Q none ((n, z, kd), I, azUp (azUp J 220 2 (lO (wF rs f q).1)) 220 3 (lO (wF rs f q).2), F)) : R (d + 3) mX0_weigh 0 [.ref 220, .int (nI f), .int (nI q), .retAddr 0] [] ((n, z, kd), I, J, F) Q := by
  have ⟨k0, k1, k2, f0, f1⟩ := id hB
  have hf10 := hf.1
  have s1 : sml 1 := by unfold sml; omega
  refine BX0_weigh_0 hR (S_isPlace hR ?_)
  rw [isP_in (by decide) hf10]
  simp (disch := omega) only [nI_ad, nI_ml, nI_lti, nI_lei, nI_eqi, nI_nn, nI_0le, nI_eq0, nI_0lt, nI_le0, nI_clamp, nI_pd, nI_sb, zOf_some, zOp_some, zOp_none, kI_int, kL_long, kO_ref, kO_null, nlt_T, nlt_F, nle_T, nle_F, neq_F, vpT, azUp_at, if_true, if_false, true_and, and_true, true_implies, false_implies, implies_true, not_true_eq_false, not_false_eq_true, true_or, or_true, false_or, or_false, and_false, false_and, eq_self, n01_0, n01_1, nm1_0]
  refine S_isPlace hR ?_
  rw [isP_in (by decide) hq]
  rcases hS.led ho hL hq with ⟨c1, c2⟩ | ⟨c1, a, a1, a2, a3⟩
  · rw [hS.w0 ho hf c1] at h
    simp (disch := omega) only [nI_ad, nI_ml, nI_lti, nI_lei, nI_eqi, nI_nn, nI_0le, nI_eq0, nI_0lt, nI_le0, nI_clamp, nI_pd, nI_sb, zOf_some, zOp_some, zOp_none, kI_int, kL_long, kO_ref, kO_null, nlt_T, nlt_F, nle_T, nle_F, neq_F, vpT, azUp_at, if_true, if_false, true_and, and_true, true_implies, false_implies, implies_true, not_true_eq_false, not_false_eq_true, true_or, or_true, false_or, or_false, and_false, false_and, eq_self, n01_0, n01_1, nm1_0, k0, f1, k2, c2, m1_neg]
    refine BX0_weigh_38 hR ?_
    by_cases e : q = f
    · rw [if_pos e] at h
      rw [e]
      simp (disch := omega) only [nI_ad, nI_ml, nI_lti, nI_lei, nI_eqi, nI_nn, nI_0le, nI_eq0, nI_0lt, nI_le0, nI_clamp, nI_pd, nI_sb, zOf_some, zOp_some, zOp_none, kI_int, kL_long, kO_ref, kO_null, nlt_T, nlt_F, nle_T, nle_F, neq_F, vpT, azUp_at, if_true, if_false, true_and, and_true, true_implies, false_implies, implies_true, not_true_eq_false, not_false_eq_true, true_or, or_true, false_or, or_false, and_false, false_and, eq_self, n01_0, n01_1, nm1_0, k0]
      refine S_setFraction hR k0 s1 s1 (by decide) ?_
      rw [rdc_self (by decide)]
      exact ⟨rfl, h⟩
    · rw [if_neg e] at h
      have e' : ¬ f = q := fun x => e x.symm
      simp (disch := omega) only [nI_ad, nI_ml, nI_lti, nI_lei, nI_eqi, nI_nn, nI_0le, nI_eq0, nI_0lt, nI_le0, nI_clamp, nI_pd, nI_sb, zOf_some, zOp_some, zOp_none, kI_int, kL_long, kO_ref, kO_null, nlt_T, nlt_F, nle_T, nle_F, neq_F, vpT, azUp_at, if_true, if_false, true_and, and_true, true_implies, false_implies, implies_true, not_true_eq_false, not_false_eq_true, true_or, or_true, false_or, or_false, and_false, false_and, eq_self, n01_0, n01_1, nm1_0, k0, e']
      refine S_setFraction hR k0 sml_0 s1 (by decide) ?_
      rw [rdc_0 (by decide)]
      exact ⟨rfl, h⟩
  · have hk := hS.2.1
    have ha : a < 10 := by omega
    have b1 : a * 10 + f < 100 := by omega
    have b2 : a * 10 + q < 100 := by omega
    have v1 := hV a ha f hf10
    have v2 := hV a ha q hq
    rw [Nat.mul_comm] at v1 v2
    have d1 := hS.1.bound hk (Nat.le_refl 10) ha (hok a ha) f hf10
    have d2 := hS.1.bound hk (Nat.le_refl 10) ha (hok a ha) q hq
    have hne := (hS.1.2.2.2.1 a a1).1
    have ew := hS.w1 ho hf a1
    rw [a2] at hne ew
    rw [ew] at h
    simp (disch := omega) only [nI_ad, nI_ml, nI_lti, nI_lei, nI_eqi, nI_nn, nI_0le, nI_eq0, nI_0lt, nI_le0, nI_clamp, nI_pd, nI_sb, zOf_some, zOp_some, zOp_none, kI_int, kL_long, kO_ref, kO_null, nlt_T, nlt_F, nle_T, nle_F, neq_F, vpT, azUp_at, if_true, if_false, true_and, and_true, true_implies, false_implies, implies_true, not_true_eq_false, not_false_eq_true, true_or, or_true, false_or, or_false, and_false, false_and, eq_self, n01_0, n01_1, nm1_0, k0, f1, k2, a3, f0, k1, v1, v2, lO_ng]
    refine S_setFraction hR k0 (sml_of (by omega)) (sml_of d2) hne ?_
    exact ⟨rfl, h⟩
theorem cZ.oth {J' : azJ} {V : Nat → Nat → Int} (h : cZ J V) (e : J' 221 = J 221) : cZ J' V := fun i hi p hp => by rw [e]; exact h i hi p hp
theorem S_addUp (hR : azClosed R) (hB : BlOk kd F 220) (ho : ∀ p cs, p < 10 → rs p = some cs → rlOK cs) (hS : SV rs T V k lc) (hok : ∀ i, i < 10 → okR (V i)) (hV : cZ J V) (hL : cL (I 222) k 10 lc) {f : Nat} (hf : freeP rs f) {m : Mk} (hM : MkOk kd F 1) (hm : cM I 1 m) (hmo : mOK m) (h : ∀ J', (∀ b, b ≠ 220 → J' b = J b) → J' 220 2 = lO (sF rs m f 10).1 → J' 220 3 = lO (sF rs m f 10).2 → Q none ((n, z, kd), I, J', F)) : R (d + 4) mX0_addUp 0 [.ref 220, .int (nI f), .ref 1, .retAddr 0, .retAddr 0, .retAddr 0, .retAddr 0, .retAddr 0] [] ((n, z, kd), I, J, F) Q := by
  have ⟨k0, k1, k2, f0, f1⟩ := id hB
  have hf10 := hf.1
  have hw := hS.wb ho hf
  have main : ∀ s p (J1 : azJ), s + p = 10 → (∀ b, b ≠ 220 → J1 b = J b) → (p = 10 → J1 220 2 = lO (sF rs m f 10).1 ∧ J1 220 3 = lO (sF rs m f 10).2) → R (d + 4) mX0_addUp 8 [.ref 220, .int (nI f), .ref 1, .long (lO (sF rs m f p).1), .retAddr 1, .long (lO (sF rs m f p).2), .retAddr 1, .int (nI p)] [] ((n, z, kd), I, J1, F) Q := by
    intro s
    induction s with
    | zero =>
      intro p J1 hp hj he
      obtain rfl : p = 10 := by omega
      refine BX0_addUp_8 hR ?_
      simp (disch := omega) only [nI_ad, nI_ml, nI_lti, nI_lei, nI_eqi, nI_nn, nI_0le, nI_eq0, nI_0lt, nI_le0, nI_clamp, nI_pd, nI_sb, zOf_some, zOp_some, zOp_none, kI_int, kL_long, kO_ref, kO_null, nlt_T, nlt_F, nle_T, nle_F, neq_F, vpT, azUp_at, if_true, if_false, true_and, and_true, true_implies, false_implies, implies_true, not_true_eq_false, not_false_eq_true, true_or, or_true, false_or, or_false, and_false, false_and, eq_self, n01_0, n01_1, nm1_0]
      exact h J1 hj (he rfl).1 (he rfl).2
    | succ s ih =>
      intro p J1 hp hj _
      have hp10 : p < 10 := by omega
      have km : (kd 1).1 = 3 := by rw [hM.1]
      have lm := (hmo.1 p).1
      obtain ⟨es, en⟩ := sF_s (m := m) (p := p) hw
      have b1 := sF_bd (m := m) (p := p) hf10 hw hmo (by omega)
      have b2 := hS.wbd ho hf hp10
      have b3 := mul_bd (A := 3542940) (B := 59049) b1.1 (show -59049 ≤ (wF rs f p).2 ∧ (wF rs f p).2 ≤ 59049 by omega)
      have b4 := mul_bd (A := 59049) (B := 6) b2.1 (show -6 ≤ ((m p).length : Int) ∧ ((m p).length : Int) ≤ 6 by omega)
      have b5 := mul_bd (B := 3542940) b4 (show -3542940 ≤ (sF rs m f p).2 ∧ (sF rs m f p).2 ≤ 3542940 by omega)
      have b6 := mul_bd (A := 3542940) (B := 59049) (show -3542940 ≤ (sF rs m f p).2 ∧ (sF rs m f p).2 ≤ 3542940 by omega) (show -59049 ≤ (wF rs f p).2 ∧ (wF rs f p).2 ≤ 59049 by omega)
      refine BX0_addUp_8 hR ?_
      simp (disch := omega) only [nI_ad, nI_ml, nI_lti, nI_lei, nI_eqi, nI_nn, nI_0le, nI_eq0, nI_0lt, nI_le0, nI_clamp, nI_pd, nI_sb, zOf_some, zOp_some, zOp_none, kI_int, kL_long, kO_ref, kO_null, nlt_T, nlt_F, nle_T, nle_F, neq_F, vpT, azUp_at, if_true, if_false, true_and, and_true, true_implies, false_implies, implies_true, not_true_eq_false, not_false_eq_true, true_or, or_true, false_or, or_false, and_false, false_and, eq_self, n01_0, n01_1, nm1_0, k0]
      refine S_weigh hR hB ho hS hok (hV.oth (hj 221 (by decide))) hL hf hp10 ⟨rfl, ?_⟩
      simp (disch := omega) only [nI_ad, nI_ml, nI_lti, nI_lei, nI_eqi, nI_nn, nI_0le, nI_eq0, nI_0lt, nI_le0, nI_clamp, nI_pd, nI_sb, zOf_some, zOp_some, zOp_none, kI_int, kL_long, kO_ref, kO_null, nlt_T, nlt_F, nle_T, nle_F, neq_F, vpT, azUp_at, if_true, if_false, true_and, and_true, true_implies, false_implies, implies_true, not_true_eq_false, not_false_eq_true, true_or, or_true, false_or, or_false, and_false, false_and, eq_self, n01_0, n01_1, nm1_0, k0, km]
      refine S_count hR hM hm hp10 ?_
      have u2 : azUp (azUp J1 220 2 (lO (wF rs f p).1)) 220 3 (lO (wF rs f p).2) 220 3 = lO (wF rs f p).2 := by rw [upJ_s]
      dsimp only
      rw [kI_int, u2, i64_nI (by omega), lO_ml, lO_ml, lO_ml, lO_ad, lO_ml]
      refine ⟨k0, k0, ?_⟩
      refine S_setFraction hR k0 (by unfold sml; omega) (by unfold sml; omega) en ⟨rfl, k0, k0, ?_⟩
      dsimp only
      rw [← es, upJ_s, upJ_nk (by decide), upJ_s]
      refine ih (p + 1) _ (by omega) (fun b hb => by rw [upJ_nb hb, upJ_nb hb, upJ_nb hb, upJ_nb hb]; exact hj b hb) fun e => ?_
      rw [e, upJ_s, upJ_nk (by decide), upJ_s]
      exact ⟨rfl, rfl⟩
  have e0 : sF rs m f 0 = (0, 1) := rdc_0 hw.1.2.1
  have := main 10 0 J rfl (fun _ _ => rfl) fun e => absurd e (by decide)
  rw [e0] at this
  exact BX0_addUp_0 hR this
end SB
