/-! THE REFERENCE: invariants, weight, sum. -/
section S9
variable {R : azP} {d n z : Nat} {kd : azK} {I : azI} {J : azJ} {F : azR} {Q : azQ} {ru : Ru} {st : St} {σ : azS}
theorem S_reduces (hR : azClosed R) (hK : MdOk kd F) (hC : cRu (I 231) ru) (hru : ruOK ru) (h : ∀ I' J' T V W c k ro lc, mdS I I' → (∀ b, b ≠ 252 → b ≠ 253 → J' b = J b) → RD (rsOf ru) I' J' T V W c k 10 ro lc → Q none ((n, z, kd), I', J', F)) : R (d + 25) mX9_reduces 0 [.ref 228, .retAddr 0, .retAddr 0, .retAddr 0, .retAddr 0, .retAddr 0, .retAddr 0, .retAddr 0, .retAddr 0, .retAddr 0] [] ((n, z, kd), I, J, F) Q := by
  have ⟨k0, _, ⟨_, k233, k234, k235, k236, k237, k238, k239, k240, k241, k242, k243, k244, k245, k246⟩, _, ⟨_, f28, f29, f30, f31, f33, f34, f35, f36, f37, f38, f39, f40, f41, f43⟩⟩ := id hK
  have main : ∀ s i (I1 : azI) (J1 : azJ) (T : Nat → T3) (ro : Nat) (w3 : Value), s + i = 10 → mdS I I1 → (∀ b, b ≠ 252 → b ≠ 253 → J1 b = J b) → (∀ r, r < ro → ∃ j, j < i ∧ T r = chP (rsOf ru) j) → (∀ j, j < i → rsOf ru j ≠ none → ∃ r, r < ro ∧ T r = chP (rsOf ru) j) → ro ≤ i → (∀ r, r < ro → ∀ q, q < 10 → J1 252 (10 * r + q) = lO (d3 (T r) q) ∧ J1 253 (10 * r + q) = lO 1) → R (d + 25) mX9_reduces 4 [.ref 228, .int (nI ro), .int (nI i), w3, .retAddr 0, .retAddr 0, .retAddr 0, .retAddr 0, .retAddr 0, .retAddr 0] [] ((n, z, kd), I1, J1, F) Q := by
    intro s
    induction s with
    | zero =>
      intro i I1 J1 T ro w3 hi g1 g2 g3 g4 g5 g6
      obtain rfl : i = 10 := by omega
      refine BX9_reduces_4 hR ?_
      simp (disch := omega) only [nI_ad, nI_ml, nI_lti, nI_lei, nI_eqi, nI_nn, nI_0le, nI_eq0, nI_0lt, nI_le0, nI_clamp, nI_pd, nI_sb, zOf_some, zOp_some, zOp_none, kI_int, kL_long, kO_ref, kO_null, nlt_T, nlt_F, nle_T, nle_F, neq_F, vpT, azUp_at, if_true, if_false, true_and, and_true, true_implies, false_implies, implies_true, not_true_eq_false, not_false_eq_true, true_or, or_true, false_or, or_false, and_false, false_and, eq_self, n01_0, n01_1, nm1_0, k0]
      have e1 : ∀ r, r < ro → (if r < ro then T r else ((10, 10), (10, 10), (10, 10))) = T r := fun r hr => if_pos hr
      refine L_red82 (d := d + 22) (I := I) (J := J) (rs := rsOf ru) hR hK (fun I' J' T V W c k lc u1 u2 u3 => h I' J' T V W c k ro lc u1 u2 u3) 10 0 _ J1 (fun r => if r < ro then T r else ((10, 10), (10, 10), (10, 10))) (fun i q => if i < ro then (d3 (T i) q, 1) else ((J1 252 (10 * i + q)).toInt, (J1 253 (10 * i + q)).toInt)) (fun i => d3 (if i < ro then T i else ((10, 10), (10, 10), (10, 10)))) (fun _ => 1) 0 (fun _ => 0) _ _ _ _ _ _ _ rfl ((g1.up (by decide) (by decide)).up (by decide) (by decide)) g2 ⟨EI.start fun _ => rfl, ⟨fun i hi => ?_, fun j hj hn => ?_⟩, FR.start (fun i h1 _ => if_neg (by omega)) (fun i hi q hq => ?_), ⟨fun i _ _ x _ => (Int.one_mul _).symm, fun a ha => absurd ha (Nat.not_lt_zero _)⟩, ⟨Nat.le_refl 0, Nat.zero_le _, g5⟩, fun i hi q hq => ?_, ?_⟩
      · by_cases c : i < ro
        · obtain ⟨j, j1, j2⟩ := g3 i c
          exact Or.inr ⟨j, j1, (if_pos c).trans j2⟩
        · exact Or.inl (if_neg c)
      · obtain ⟨r, r1, r2⟩ := g4 j hj hn
        exact ⟨r, by omega, (if_pos r1).trans r2⟩
      · rw [if_pos hi, if_pos hi]
      · dsimp only
        by_cases c : i < ro
        · rw [if_pos c]
          exact g6 i c q hq
        · rw [if_neg c]
          exact ⟨(Int64.ofInt_toInt _).symm, (Int64.ofInt_toInt _).symm⟩
      · exact ⟨azUp_s, fun q hq => absurd hq (Nat.not_lt_zero _), by rw [azUp_nk (by decide), azUp_s], fun a ha => absurd ha (Nat.not_lt_zero _)⟩
    | succ s ih =>
      intro i I1 J1 T ro w3 hi g1 g2 g3 g4 g5 g6
      have hi10 : i < 10 := by omega
      refine BX9_reduces_4 hR ?_
      simp (disch := omega) only [nI_ad, nI_ml, nI_lti, nI_lei, nI_eqi, nI_nn, nI_0le, nI_eq0, nI_0lt, nI_le0, nI_clamp, nI_pd, nI_sb, zOf_some, zOp_some, zOp_none, kI_int, kL_long, kO_ref, kO_null, nlt_T, nlt_F, nle_T, nle_F, neq_F, vpT, azUp_at, if_true, if_false, true_and, and_true, true_implies, false_implies, implies_true, not_true_eq_false, not_false_eq_true, true_or, or_true, false_or, or_false, and_false, false_and, eq_self, n01_0, n01_1, nm1_0, k0]
      refine S_readsRule9 hR hK (by rw [g1.1 231 (by decide) (by decide)]; exact hC) hru hi10 (fun hr I2 u1 _ _ => ?_) (fun t cs hr I2 u1 _ _ _ u5 _ _ => ?_)
      · have hn : rsOf ru i = none := by unfold rsOf; rw [hr]; rfl
        simp (disch := omega) only [nI_ad, nI_ml, nI_lti, nI_lei, nI_eqi, nI_nn, nI_0le, nI_eq0, nI_0lt, nI_le0, nI_clamp, nI_pd, nI_sb, zOf_some, zOp_some, zOp_none, kI_int, kL_long, kO_ref, kO_null, nlt_T, nlt_F, nle_T, nle_F, neq_F, vpT, azUp_at, if_true, if_false, true_and, and_true, true_implies, false_implies, implies_true, not_true_eq_false, not_false_eq_true, true_or, or_true, false_or, or_false, and_false, false_and, eq_self, n01_0, n01_1, nm1_0]
        refine ih (i + 1) I2 J1 T ro _ (by omega) (g1.trans u1) g2 (fun r hr => ?_) (fun j hj hne => g4 j ?_ hne) (by omega) g6
        · obtain ⟨j, j1, j2⟩ := g3 r hr
          exact ⟨j, by omega, j2⟩
        · by_cases e : j = i
          · rw [e] at hne; exact absurd hn hne
          · omega
      · have hcs : rsOf ru i = some cs := by unfold rsOf; rw [hr]; rfl
        obtain ⟨_, _, _, _, _, hrl⟩ := hru.rl hcs
        simp (disch := omega) only [nI_ad, nI_ml, nI_lti, nI_lei, nI_eqi, nI_nn, nI_0le, nI_eq0, nI_0lt, nI_le0, nI_clamp, nI_pd, nI_sb, zOf_some, zOp_some, zOp_none, kI_int, kL_long, kO_ref, kO_null, nlt_T, nlt_F, nle_T, nle_F, neq_F, vpT, azUp_at, if_true, if_false, true_and, and_true, true_implies, false_implies, implies_true, not_true_eq_false, not_false_eq_true, true_or, or_true, false_or, or_false, and_false, false_and, eq_self, n01_0, n01_1, nm1_0]
        have inner : ∀ s q (J2 : azJ), s + q = 10 → (∀ b, b ≠ 252 → b ≠ 253 → J2 b = J b) → (∀ r, r < ro → ∀ q, q < 10 → J2 252 (10 * r + q) = lO (d3 (T r) q) ∧ J2 253 (10 * r + q) = lO 1) → (∀ x, x < q → J2 252 (10 * ro + x) = lO (rChg cs x) ∧ J2 253 (10 * ro + x) = lO 1) → R (d + 25) mX9_reduces 20 [.ref 228, .int (nI ro), .int (nI i), .int (nI q), .retAddr 0, .retAddr 0, .retAddr 0, .retAddr 0, .retAddr 0, .retAddr 0] [] ((n, z, kd), I2, J2, F) Q := by
          intro s
          induction s with
          | zero =>
            intro q J2 hq v1 v2 v3
            obtain rfl : q = 10 := by omega
            refine BX9_reduces_20 hR ?_
            simp (disch := omega) only [nI_ad, nI_ml, nI_lti, nI_lei, nI_eqi, nI_nn, nI_0le, nI_eq0, nI_0lt, nI_le0, nI_clamp, nI_pd, nI_sb, zOf_some, zOp_some, zOp_none, kI_int, kL_long, kO_ref, kO_null, nlt_T, nlt_F, nle_T, nle_F, neq_F, vpT, azUp_at, if_true, if_false, true_and, and_true, true_implies, false_implies, implies_true, not_true_eq_false, not_false_eq_true, true_or, or_true, false_or, or_false, and_false, false_and, eq_self, n01_0, n01_1, nm1_0]
            refine ih (i + 1) I2 J2 (fun r => if r = ro then chP (rsOf ru) i else T r) (ro + 1) _ (by omega) (g1.trans u1) v1 (fun r hr => ?_) (fun j hj hne => ?_) (by omega) (fun r hr q hq => ?_)
            · by_cases e : r = ro
              · exact ⟨i, by omega, if_pos e⟩
              · obtain ⟨j, j1, j2⟩ := g3 r (by omega)
                exact ⟨j, by omega, by rw [if_neg e]; exact j2⟩
            · by_cases e : j = i
              · exact ⟨ro, by omega, by rw [if_pos rfl, e]⟩
              · obtain ⟨r, r1, r2⟩ := g4 j (by omega) hne
                exact ⟨r, by omega, by rw [if_neg (by omega)]; exact r2⟩
            · by_cases e : r = ro
              · rw [if_pos e, e]
                have ec : d3 (chP (rsOf ru) i) q = rChg cs q := by
                  unfold chP
                  rw [hcs]
                  exact chT3_eq hrl hq
                rw [ec]
                exact v3 q hq
              · rw [if_neg e]
                exact v2 r (by omega) q hq
          | succ s ih2 =>
            intro q J2 hq v1 v2 v3
            have hq10 : q < 10 := by omega
            have b1 : 10 * ro + q < 100 := by omega
            have b3 := rChg_3 hrl hq10
            refine BX9_reduces_20 hR ?_
            simp (disch := omega) only [nI_ad, nI_ml, nI_lti, nI_lei, nI_eqi, nI_nn, nI_0le, nI_eq0, nI_0lt, nI_le0, nI_clamp, nI_pd, nI_sb, zOf_some, zOp_some, zOp_none, kI_int, kL_long, kO_ref, kO_null, nlt_T, nlt_F, nle_T, nle_F, neq_F, vpT, azUp_at, if_true, if_false, true_and, and_true, true_implies, false_implies, implies_true, not_true_eq_false, not_false_eq_true, true_or, or_true, false_or, or_false, and_false, false_and, eq_self, n01_0, n01_1, nm1_0, k0, f39]
            refine S_changeOf9 hR hK u5 hrl hq10 ?_
            simp (disch := omega) only [nI_ad, nI_ml, nI_lti, nI_lei, nI_eqi, nI_nn, nI_0le, nI_eq0, nI_0lt, nI_le0, nI_clamp, nI_pd, nI_sb, zOf_some, zOp_some, zOp_none, kI_int, kL_long, kO_ref, kO_null, nlt_T, nlt_F, nle_T, nle_F, neq_F, vpT, azUp_at, if_true, if_false, true_and, and_true, true_implies, false_implies, implies_true, not_true_eq_false, not_false_eq_true, true_or, or_true, false_or, or_false, and_false, false_and, eq_self, n01_0, n01_1, nm1_0, k0, f39, f40, k243, k244]
            rw [i64_of (by omega), lN_o]
            refine ih2 (q + 1) _ (by omega) (fun b h1 h2 => by rw [upJ_nb h2, upJ_nb h1]; exact v1 b h1 h2) (fun r hr x hx => ?_) (fun x hx => ?_)
            · have ne : 10 * r + x ≠ 10 * ro + q := by omega
              rw [upJ_nb (by decide), upJ_nk ne, upJ_nk ne, upJ_nb (by decide)]
              exact v2 r hr x hx
            · by_cases e : x = q
              · rw [e, upJ_nb (by decide), upJ_s, upJ_s]
                exact ⟨rfl, rfl⟩
              · have ne : 10 * ro + x ≠ 10 * ro + q := by omega
                rw [upJ_nb (by decide), upJ_nk ne, upJ_nk ne, upJ_nb (by decide)]
                exact v3 x (by omega)
        exact inner 10 0 J1 rfl g2 g6 fun x hx => absurd hx (Nat.not_lt_zero _)
  refine BX9_reduces_0 hR ?_
  exact main 10 0 I J (fun _ => ((10, 10), (10, 10), (10, 10))) 0 _ rfl mdS.refl (fun _ _ _ => rfl) (fun r hr => absurd hr (Nat.not_lt_zero _)) (fun j hj => absurd hj (Nat.not_lt_zero _)) (Nat.le_refl 0) fun r hr => absurd hr (Nat.not_lt_zero _)
section RDs
variable {rs : Nat → Option (List Cls)} {T : Nat → T3} {V : Nat → Nat → Int × Int} {W : Nat → Rw} {c : Nat → Int} {k ro : Nat} {lc : Nat → Nat}
theorem RD.sv (h : RD rs I J T V W c k 10 ro lc) : SV rs T W k lc := ⟨h.1, h.2.2.2.2.1.1, h.2.1⟩
theorem RD.cnt (h : RD rs I J T V W c k 10 ro lc) (ho : ∀ p cs, p < 10 → rs p = some cs → rlOK cs) {p : Nat} (hp : p ≤ 10) : cntB (nL k lc) p = frCt rs p := by
  rw [← cntB_fr]
  exact cntB_cong p fun q hq => ((h.sv).free ho (by omega)).symm
theorem RD.w1 (h : RD rs I J T V W c k 10 ro lc) (ho : ∀ p cs, p < 10 → rs p = some cs → rlOK cs) {f : Nat} (hf : freeP rs f) {a : Nat} (ha : a < k) : wF rs f (lc a) = (-(V a f).1, (V a f).2) := by
  rw [h.sv.w1 ho hf ha, h.2.2.2.1.2 a ha]
  obtain ⟨hc, h1⟩ := h.2.2.1.1 a (by have := h.2.2.2.2.1; omega)
  obtain ⟨h2, h3, h4⟩ := h1 f hf.1
  refine rdc_uniq hc h2 (by rw [Int.neg_gcd]; exact h3) ?_
  rw [Int.neg_mul, h4, Int.mul_neg, Int.mul_comm]
theorem S_weighs9 (hR : azClosed R) (hK : MdOk kd F) (ho : ∀ p cs, p < 10 → rs p = some cs → rlOK cs) (hD : RD rs I J T V W c k 10 ro lc) {f q : Nat} (hf : freeP rs f) (hq : q < 10) (h : ∀ J', (∀ b, b ≠ 228 → J' b = J b) → J' 228 45 = lO (wF rs f q).1 → J' 228 46 = lO (wF rs f q).2 → Q none ((n, z, kd), I, J', F)) : R d mX9_weighs 0 [.ref 228, .int (nI (frCt rs f)), .int (nI q), .retAddr 0] [] ((n, z, kd), I, J, F) Q := by
  have ⟨k0, _, ⟨_, k233, k234, k235, k236, k237, k238, k239, k240, k241, k242, k243, k244, k245, k246⟩, _, ⟨_, f28, f29, f30, f31, f33, f34, f35, f36, f37, f38, f39, f40, f41, f43⟩⟩ := id hK
  have hf10 := hf.1
  have hfl := frCt_le (rs := rs) f
  obtain ⟨a1, a2, a3, a4⟩ := hD.2.2.2.2.2.2
  have hkk : k ≤ 10 := hD.2.2.2.2.1.1
  have hro := hD.2.2.2.2.1
  have e5 : I 254 (frCt rs f) = nI f := by
    have := a2 f hf10 ((hD.sv.free ho hf10).mp hf)
    rw [hD.cnt ho (by omega)] at this
    exact this
  have main : ∀ s a (J1 : azJ), s + a = k → (∀ b, b ≠ 228 → J1 b = J b) → ((∃ b, b < a ∧ lc b = q) → J1 228 45 = lO (wF rs f q).1 ∧ J1 228 46 = lO (wF rs f q).2) → ((∀ b, b < a → lc b ≠ q) → J1 228 45 = lO (if q = f then (1, 1) else (0, 1) : Int × Int).1 ∧ J1 228 46 = lO (if q = f then (1, 1) else (0, 1) : Int × Int).2) → R d mX9_weighs 26 [.ref 228, .int (nI (frCt rs f)), .int (nI q), .int (nI a)] [] ((n, z, kd), I, J1, F) Q := by
    intro s
    induction s with
    | zero =>
      intro a J1 ha g1 g2 g3
      obtain rfl : a = k := by omega
      have : J1 228 45 = lO (wF rs f q).1 ∧ J1 228 46 = lO (wF rs f q).2 := by
        by_cases e : ∃ b, b < a ∧ lc b = q
        · exact g2 e
        · have hn : ∀ b, b < a → lc b ≠ q := fun b b1 b2 => e ⟨b, b1, b2⟩
          rw [hD.sv.w0 ho hf ((hD.sv.free ho hq).mpr hn)]
          exact g3 hn
      refine BX9_weighs_26 hR ?_
      simp (disch := omega) only [nI_ad, nI_ml, nI_lti, nI_lei, nI_eqi, nI_nn, nI_0le, nI_eq0, nI_0lt, nI_le0, nI_clamp, nI_pd, nI_sb, zOf_some, zOp_some, zOp_none, kI_int, kL_long, kO_ref, kO_null, nlt_T, nlt_F, nle_T, nle_F, neq_F, vpT, azUp_at, if_true, if_false, true_and, and_true, true_implies, false_implies, implies_true, not_true_eq_false, not_false_eq_true, true_or, or_true, false_or, or_false, and_false, false_and, eq_self, n01_0, n01_1, nm1_0, k0, a3]
      exact h J1 g1 this.1 this.2
    | succ s ih =>
      intro a J1 ha g1 g2 g3
      have hak : a < k := by omega
      have hlt := hD.1.1 a hak
      have b1 : 10 * a + f < 100 := by omega
      refine BX9_weighs_26 hR ?_
      by_cases e : lc a = q
      · obtain ⟨y1, y2⟩ := hD.2.2.2.2.2.1 a (by omega) f hf10
        have c1 : ∀ v, azUp J1 228 45 v 253 = J 253 := fun v => by rw [upJ_nb (by decide), g1 253 (by decide)]
        have c3 : J1 253 = J 253 := g1 253 (by decide)
        have c2 : J1 252 = J 252 := g1 252 (by decide)
        have hw := hD.w1 ho hf hak
        rw [e] at hw
        simp (disch := omega) only [nI_ad, nI_ml, nI_lti, nI_lei, nI_eqi, nI_nn, nI_0le, nI_eq0, nI_0lt, nI_le0, nI_clamp, nI_pd, nI_sb, zOf_some, zOp_some, zOp_none, kI_int, kL_long, kO_ref, kO_null, nlt_T, nlt_F, nle_T, nle_F, neq_F, vpT, azUp_at, if_true, if_false, true_and, and_true, true_implies, false_implies, implies_true, not_true_eq_false, not_false_eq_true, true_or, or_true, false_or, or_false, and_false, false_and, eq_self, n01_0, n01_1, nm1_0, k0, a3, f43, k246, a4 a hak, e, f39, f41, k245, e5, k243, f40, k244, c1, c2, c3, y1, y2, lO_ng]
        refine ih (a + 1) _ (by omega) (fun b hb => by rw [upJ_nb hb, upJ_nb hb]; exact g1 b hb) (fun _ => ?_) fun hn => absurd e (hn a (by omega))
        rw [hw, upJ_nk (by decide), upJ_s, upJ_s]
        exact ⟨rfl, rfl⟩
      · simp (disch := omega) only [nI_ad, nI_ml, nI_lti, nI_lei, nI_eqi, nI_nn, nI_0le, nI_eq0, nI_0lt, nI_le0, nI_clamp, nI_pd, nI_sb, zOf_some, zOp_some, zOp_none, kI_int, kL_long, kO_ref, kO_null, nlt_T, nlt_F, nle_T, nle_F, neq_F, vpT, azUp_at, if_true, if_false, true_and, and_true, true_implies, false_implies, implies_true, not_true_eq_false, not_false_eq_true, true_or, or_true, false_or, or_false, and_false, false_and, eq_self, n01_0, n01_1, nm1_0, k0, a3, f43, k246, a4 a hak, e]
        refine ih (a + 1) J1 (by omega) g1 (fun ⟨b, b1, b2⟩ => g2 ⟨b, ?_, b2⟩) fun hn => g3 fun b hb => hn b (by omega)
        by_cases eb : b = a
        · rw [eb] at b2; exact absurd b2 e
        · omega
  refine BX9_weighs_0 hR ?_
  by_cases e : q = f
  · have := main k 0 (azUp (azUp J 228 45 (lO 1)) 228 46 (lO 1)) (by omega) (fun b hb => by rw [upJ_nb hb, upJ_nb hb]) (fun ⟨b, hb, _⟩ => absurd hb (Nat.not_lt_zero _)) fun _ => by
      rw [if_pos e, upJ_nk (by decide), upJ_s, upJ_s]
      exact ⟨rfl, rfl⟩
    simp (disch := omega) only [nI_ad, nI_ml, nI_lti, nI_lei, nI_eqi, nI_nn, nI_0le, nI_eq0, nI_0lt, nI_le0, nI_clamp, nI_pd, nI_sb, zOf_some, zOp_some, zOp_none, kI_int, kL_long, kO_ref, kO_null, nlt_T, nlt_F, nle_T, nle_F, neq_F, vpT, azUp_at, if_true, if_false, true_and, and_true, true_implies, false_implies, implies_true, not_true_eq_false, not_false_eq_true, true_or, or_true, false_or, or_false, and_false, false_and, eq_self, n01_0, n01_1, nm1_0, k0, f41, k245, e5, e, lN_o]
    rw [e] at this
    exact this
  · have := main k 0 (azUp (azUp J 228 45 (lO 0)) 228 46 (lO 1)) (by omega) (fun b hb => by rw [upJ_nb hb, upJ_nb hb]) (fun ⟨b, hb, _⟩ => absurd hb (Nat.not_lt_zero _)) fun _ => by
      rw [if_neg e, upJ_nk (by decide), upJ_s, upJ_s]
      exact ⟨rfl, rfl⟩
    simp (disch := omega) only [nI_ad, nI_ml, nI_lti, nI_lei, nI_eqi, nI_nn, nI_0le, nI_eq0, nI_0lt, nI_le0, nI_clamp, nI_pd, nI_sb, zOf_some, zOp_some, zOp_none, kI_int, kL_long, kO_ref, kO_null, nlt_T, nlt_F, nle_T, nle_F, neq_F, vpT, azUp_at, if_true, if_false, true_and, and_true, true_implies, false_implies, implies_true, not_true_eq_false, not_false_eq_true, true_or, or_true, false_or, or_false, and_false, false_and, eq_self, n01_0, n01_1, nm1_0, k0, f41, k245, e5, e, lN_o, lN_0]
    exact this
end RDs
theorem S_mdInvariants (hR : azClosed R) (hW : MW σ st) (h : ∀ σ', MW σ' st → mdF σ σ' → Q (some (.int (aInv st))) σ') : R (d + 26) mX9_invariants 0 [.ref 228] [] σ Q := by
  obtain ⟨⟨n, z, kd⟩, I, J, F⟩ := σ
  obtain ⟨hK, hC, hS⟩ := id hW
  have hK : MdOk kd F := hK
  have hC : cMd I st := hC
  have k0 := hK.1
  refine BX9_invariants_0 hR ?_
  simp (disch := omega) only [nI_ad, nI_ml, nI_lti, nI_lei, nI_eqi, nI_nn, nI_0le, nI_eq0, nI_0lt, nI_le0, nI_clamp, nI_pd, nI_sb, zOf_some, zOp_some, zOp_none, kI_int, kL_long, kO_ref, kO_null, nlt_T, nlt_F, nle_T, nle_F, neq_F, vpT, azUp_at, if_true, if_false, true_and, and_true, true_implies, false_implies, implies_true, not_true_eq_false, not_false_eq_true, true_or, or_true, false_or, or_false, and_false, false_and, eq_self, n01_0, n01_1, nm1_0, k0]
  refine S_reduces hR hK hC.2.1 hS.2.1 fun I1 J1 T V W c k ro lc g1 g2 g3 => ⟨rfl, ?_⟩
  obtain ⟨w1, w2⟩ := hW.kp g1 (J' := J1) fun b hb => g2 b (by omega) (by omega)
  have h := h _ w1 w2
  have e := g3.2.2.2.2.2.2.1
  rw [g3.cnt hS.rl (Nat.le_refl 10)] at e
  unfold aInv at h
  rw [← e] at h
  simp (disch := omega) only [nI_ad, nI_ml, nI_lti, nI_lei, nI_eqi, nI_nn, nI_0le, nI_eq0, nI_0lt, nI_le0, nI_clamp, nI_pd, nI_sb, zOf_some, zOp_some, zOp_none, kI_int, kL_long, kO_ref, kO_null, nlt_T, nlt_F, nle_T, nle_F, neq_F, vpT, azUp_at, if_true, if_false, true_and, and_true, true_implies, false_implies, implies_true, not_true_eq_false, not_false_eq_true, true_or, or_true, false_or, or_false, and_false, false_and, eq_self, n01_0, n01_1, nm1_0, k0]
  exact h
end S9
