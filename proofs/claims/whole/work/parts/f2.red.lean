/-! BALANCE: the reference's elimination. -/
/-- how many of the first have a property -/
noncomputable def cntB (P : Nat → Prop) : Nat → Nat
  | 0 => 0
  | p + 1 => cntB P p + @ite Nat (P p) (Classical.propDecidable _) 1 0
theorem cntB_1 {P : Nat → Prop} {p : Nat} (h : P p) : cntB P (p + 1) = cntB P p + 1 := by
  show cntB P p + _ = _
  rw [if_pos h]
theorem cntB_0 {P : Nat → Prop} {p : Nat} (h : ¬ P p) : cntB P (p + 1) = cntB P p := by
  show cntB P p + _ = _
  rw [if_neg h]
  rfl
theorem cntB_cong {P P' : Nat → Prop} : ∀ p, (∀ q, q < p → (P q ↔ P' q)) → cntB P p = cntB P' p := by
  intro p
  induction p with
  | zero => intro _; rfl
  | succ p ih =>
    intro h
    have h1 := ih fun q hq => h q (by omega)
    have h2 := h p (by omega)
    by_cases c : P p
    · rw [cntB_1 c, cntB_1 (h2.mp c), h1]
    · rw [cntB_0 c, cntB_0 fun x => c (h2.mpr x), h1]
theorem cntB_le {P : Nat → Prop} : ∀ p, cntB P p ≤ p := by
  intro p
  induction p with
  | zero => exact Nat.le_refl _
  | succ p ih =>
    by_cases c : P p
    · rw [cntB_1 c]; omega
    · rw [cntB_0 c]; omega
theorem cntB_lt {P : Nat → Prop} {q : Nat} (h : P q) : ∀ p, q < p → cntB P q < cntB P p := by
  intro p
  induction p with
  | zero => intro h; omega
  | succ p ih =>
    intro hq
    by_cases e : q = p
    · subst e
      rw [cntB_1 h]
      omega
    · have := ih (by omega)
      by_cases c : P p
      · rw [cntB_1 c]; omega
      · rw [cntB_0 c]; exact this
theorem cntB_fr {rs : Nat → Option (List Cls)} : ∀ p, cntB (freeP rs) p = frCt rs p := by
  intro p
  induction p with
  | zero => rfl
  | succ p ih =>
    by_cases c : freeP rs p
    · rw [cntB_1 c, frCt_1 c, ih]
    · rw [cntB_0 c, frCt_0 c, ih]
/-- no leader's column -/
def nL (k : Nat) (lc : Nat → Nat) (q : Nat) : Prop := ∀ a, a < k → lc a ≠ q
def cA (I : azI) (k p : Nat) (lc : Nat → Nat) : Prop := I 228 42 = nI (cntB (nL k lc) p) ∧ (∀ q, q < p → nL k lc q → I 254 (cntB (nL k lc) q) = nI q) ∧ I 228 44 = nI k ∧ ∀ a, a < k → I 255 a = nI (lc a)
theorem nL_new {k p : Nat} {lc : Nat → Nat} {q : Nat} (hq : q < p) : nL (k + 1) (fun a => if a = k then p else lc a) q ↔ nL k lc q := by
  constructor
  · intro h a ha
    have := h a (by omega)
    dsimp only at this
    rw [if_neg (by omega)] at this
    exact this
  · intro h a ha
    dsimp only
    by_cases e : a = k
    · rw [if_pos e]; omega
    · rw [if_neg e]; exact h a (by omega)
section SB
variable {R : azP} {d n z : Nat} {kd : azK} {I : azI} {J : azJ} {F : azR} {Q : azQ} {ru : Ru}
/-- what is there when the reference has reduced its rows -/
def RD (rs : Nat → Option (List Cls)) (I : azI) (J : azJ) (T : Nat → T3) (V : Nat → Nat → Int × Int) (W : Nat → Rw) (c : Nat → Int) (k p ro : Nat) (lc : Nat → Nat) : Prop := EI (fun i => d3 (T i)) W k p lc ∧ TP rs T ∧ FR V W c ro ∧ EX T W c k lc ∧ (k ≤ p ∧ k ≤ ro ∧ ro ≤ 10) ∧ cF J V ∧ cA I k p lc
theorem cF.up2 {V : Nat → Nat → Int × Int} (h : cF J V) {r q : Nat} (hq : q < 10) {x : Int × Int} : cF (azUp (azUp J 252 (10 * r + q) (lO x.1)) 253 (10 * r + q) (lO x.2)) (fun i p => if i = r ∧ p = q then x else V i p) := h.up hq
theorem sml_sq {a b : Int} (ha : -59049 ≤ a ∧ a ≤ 59049) (hb : -59049 ≤ b ∧ b ≤ 59049) : sml (a * b) := by
  have := mul_bd ha hb
  unfold sml
  omega
theorem sml_cu {a b c e f g : Int} (ha : -59049 ≤ a ∧ a ≤ 59049) (hb : -59049 ≤ b ∧ b ≤ 59049) (hc : -59049 ≤ c ∧ c ≤ 59049) (he : -59049 ≤ e ∧ e ≤ 59049) (hf : -59049 ≤ f ∧ f ≤ 59049) (hg : -59049 ≤ g ∧ g ≤ 59049) : sml (a * (b * c) - e * f * g) ∧ sml (a * (b * c)) := by
  have h1 := mul_bd hb hc
  have h2 := mul_bd ha h1
  have h3 := mul_bd he hf
  have h4 := mul_bd h3 hg
  unfold sml
  constructor <;> omega
theorem L_red192 (hR : azClosed R) (hK : MdOk kd F) {ro k p : Nat} {x3 : Int32} {w9 : Value} {V : Nat → Nat → Int × Int} (hk : k < ro) (hr : ro ≤ 10) (hp : p < 10) (a3 : I 228 44 = nI k) (eJ : cF J V) (bv : ∀ i, i < ro → ∀ q, q < 10 → (-59049 ≤ (V i q).1 ∧ (V i q).1 ≤ 59049) ∧ 0 < (V i q).2 ∧ (V i q).2 ≤ 59049) (bn : ∀ q, q < 10 → (-59049 ≤ (nV1 V k p k q).1 ∧ (nV1 V k p k q).1 ≤ 59049) ∧ 0 < (nV1 V k p k q).2 ∧ (nV1 V k p k q).2 ≤ 59049) (hv : (V k p).1 ≠ 0) (next : ∀ J' w3 w4 w5 w6 w7 w8 w9, (∀ b, b ≠ 252 → b ≠ 253 → J' b = J b) → cF J' (nV2 V k p ro) → R (d + 3) mX9_reduces 82 [.ref 228, .int (nI ro), .int (nI (p + 1)), w3, w4, w5, w6, w7, w8, w9] [] ((n, z, kd), azUp (azUp I 255 k (nI p)) 228 44 (nI (k + 1)), J', F) Q) : R (d + 3) mX9_reduces 192 [.ref 228, .int (nI ro), .int (nI p), .int x3, .long (lO (V k p).1), .retAddr 1, .long (lO (V k p).2), .retAddr 1, .int (nI 0), w9] [] ((n, z, kd), I, J, F) Q := by
  have ⟨k0, _, ⟨_, k233, k234, k235, k236, k237, k238, k239, k240, k241, k242, k243, k244, k245, k246⟩, _, ⟨_, f28, f29, f30, f31, f33, f34, f35, f36, f37, f38, f39, f40, f41, f43⟩⟩ := id hK
  have hk10 : k < 10 := by omega
  have c0 : ∀ v, azUp I 255 k v 228 = I 228 := fun v => azUp_nb (by decide)
  have bp := bv k hk p hp
  have main2 : ∀ s i (J2 : azJ) (w9 : Value), s + i = ro → (∀ b, b ≠ 252 → b ≠ 253 → J2 b = J b) → cF J2 (fun j x => if j < i then nV2 V k p ro j x else nV1 V k p j x) → R (d + 3) mX9_reduces 246 [.ref 228, .int (nI ro), .int (nI p), .int x3, .long (lO (V k p).1), .retAddr 1, .long (lO (V k p).2), .retAddr 1, .int (nI i), w9] [] ((n, z, kd), I, J2, F) Q := by
    intro s
    induction s with
    | zero =>
      intro i J2 w9 hi hf hc
      obtain rfl : i = ro := by omega
      refine BX9_reduces_246 hR ?_
      simp (disch := omega) only [nI_ad, nI_ml, nI_lti, nI_lei, nI_eqi, nI_nn, nI_0le, nI_eq0, nI_0lt, nI_le0, nI_clamp, nI_pd, nI_sb, zOf_some, zOp_some, zOp_none, kI_int, kL_long, kO_ref, kO_null, nlt_T, nlt_F, nle_T, nle_F, neq_F, vpT, azUp_at, if_true, if_false, true_and, and_true, true_implies, false_implies, implies_true, not_true_eq_false, not_false_eq_true, true_or, or_true, false_or, or_false, and_false, false_and, eq_self, n01_0, n01_1, nm1_0, k0, f43, k246, a3, c0]
      refine next J2 _ _ _ _ _ _ _ hf (hc.cong fun j x hj hx => ?_)
      by_cases e : j < i
      · rw [if_pos e]
      · rw [if_neg e]
        unfold nV2
        rw [if_neg fun h => e h.1]
    | succ s ih =>
      intro i J2 w9 hi hf hc
      have hiro : i < ro := by omega
      refine BX9_reduces_246 hR ?_
      by_cases ek : i = k
      · simp (disch := omega) only [nI_ad, nI_ml, nI_lti, nI_lei, nI_eqi, nI_nn, nI_0le, nI_eq0, nI_0lt, nI_le0, nI_clamp, nI_pd, nI_sb, zOf_some, zOp_some, zOp_none, kI_int, kL_long, kO_ref, kO_null, nlt_T, nlt_F, nle_T, nle_F, neq_F, vpT, azUp_at, if_true, if_false, true_and, and_true, true_implies, false_implies, implies_true, not_true_eq_false, not_false_eq_true, true_or, or_true, false_or, or_false, and_false, false_and, eq_self, n01_0, n01_1, nm1_0, k0, a3, ek]
        subst ek
        refine ih (i + 1) J2 _ (by omega) hf (hc.cong fun j x hj hx => ?_)
        by_cases e : j = i
        · rw [if_pos (by omega), if_neg (by omega)]
          unfold nV2
          rw [if_neg fun h => h.2 e]
        · by_cases e2 : j < i
          · rw [if_pos e2, if_pos (by omega)]
          · rw [if_neg e2, if_neg (by omega)]
      · have b1 : 10 * i + p < 100 := by omega
        obtain ⟨e1, e2⟩ := hc i (by omega) p hp
        dsimp only at e1 e2
        have en : ∀ x, nV1 V k p i x = V i x := fun x => if_neg ek
        rw [if_neg (Nat.lt_irrefl i), en] at e1 e2
        have er : (fun j x => if j < i then nV2 V k p ro j x else nV1 V k p j x) i = V i := by
          funext x
          dsimp only
          rw [if_neg (Nat.lt_irrefl i), en]
        have eo : (fun j x => if j < i then nV2 V k p ro j x else nV1 V k p j x) k = nV1 V k p k := by
          funext x
          dsimp only
          by_cases e : k < i
          · rw [if_pos e]
            unfold nV2
            rw [if_neg fun h => h.2 rfl]
          · rw [if_neg e]
        have eN : ∀ q, lesN (fun j x => if j < i then nV2 V k p ro j x else nV1 V k p j x) i k (V i p).1 (V i p).2 q = lesN (nV1 V k p) i k (V i p).1 (V i p).2 q := fun q => by
          unfold lesN
          rw [er, eo, en]
        have eD : ∀ q, lesD (fun j x => if j < i then nV2 V k p ro j x else nV1 V k p j x) i k (V i p).2 q = lesD (nV1 V k p) i k (V i p).2 q := fun q => by
          unfold lesD
          rw [er, eo, en]
        simp (disch := omega) only [nI_ad, nI_ml, nI_lti, nI_lei, nI_eqi, nI_nn, nI_0le, nI_eq0, nI_0lt, nI_le0, nI_clamp, nI_pd, nI_sb, zOf_some, zOp_some, zOp_none, kI_int, kL_long, kO_ref, kO_null, nlt_T, nlt_F, nle_T, nle_F, neq_F, vpT, azUp_at, if_true, if_false, true_and, and_true, true_implies, false_implies, implies_true, not_true_eq_false, not_false_eq_true, true_or, or_true, false_or, or_false, and_false, false_and, eq_self, n01_0, n01_1, nm1_0, k0, a3, ek, f39, f40, k243, k244, e1, e2]
        have bi := bv i hiro
        have bip := bi p hp
        refine S_less9 hR hK (by omega) hk10 ek hc (fun q hq => ?_) fun J3 u1 u2 => ⟨rfl, ?_⟩
        · rw [eN, eD]
          unfold lesN lesD
          rw [en]
          have b1 := bi q hq
          have b2 := bn q hq
          have := sml_cu (a := (V i q).1) (b := (nV1 V k p k q).2) (c := (V i p).2) (e := (nV1 V k p k q).1) (f := (V i p).1) (g := (V i q).2) b1.1 (by omega) (by omega) b2.1 bip.1 (by omega)
          have h2 := sml_cu (a := (V i q).2) (b := (nV1 V k p k q).2) (c := (V i p).2) (e := (nV1 V k p k q).1) (f := (V i p).1) (g := (V i q).2) (by omega) (by omega) (by omega) b2.1 bip.1 (by omega)
          exact ⟨this.1, h2.2, Int.mul_ne_zero (by omega) (Int.mul_ne_zero (by omega) (by omega))⟩
        · refine ih (i + 1) J3 _ (by omega) (fun b h1 h2 => by rw [u1 b h1 h2]; exact hf b h1 h2) (u2.cong fun j x hj hx => ?_)
          by_cases e : j = i
          · rw [if_pos (by omega), if_pos e, eN, eD, e]
            unfold nV2
            rw [if_pos ⟨hiro, ek⟩]
          · rw [if_neg e]
            by_cases e2 : j < i
            · rw [if_pos e2, if_pos (by omega)]
            · rw [if_neg e2, if_neg (by omega)]
  have main1 : ∀ s q (J2 : azJ) (w9 : Value), s + q = 10 → (∀ b, b ≠ 252 → b ≠ 253 → J2 b = J b) → cF J2 (fun i x => if i = k ∧ x < q then nV1 V k p k x else V i x) → R (d + 3) mX9_reduces 192 [.ref 228, .int (nI ro), .int (nI p), .int x3, .long (lO (V k p).1), .retAddr 1, .long (lO (V k p).2), .retAddr 1, .int (nI q), w9] [] ((n, z, kd), I, J2, F) Q := by
    intro s
    induction s with
    | zero =>
      intro q J2 w9 hq hf hc
      obtain rfl : q = 10 := by omega
      refine BX9_reduces_192 hR ?_
      simp (disch := omega) only [nI_ad, nI_ml, nI_lti, nI_lei, nI_eqi, nI_nn, nI_0le, nI_eq0, nI_0lt, nI_le0, nI_clamp, nI_pd, nI_sb, zOf_some, zOp_some, zOp_none, kI_int, kL_long, kO_ref, kO_null, nlt_T, nlt_F, nle_T, nle_F, neq_F, vpT, azUp_at, if_true, if_false, true_and, and_true, true_implies, false_implies, implies_true, not_true_eq_false, not_false_eq_true, true_or, or_true, false_or, or_false, and_false, false_and, eq_self, n01_0, n01_1, nm1_0]
      refine main2 ro 0 J2 _ (by omega) hf (hc.cong fun i x hi hx => ?_)
      rw [if_neg (Nat.not_lt_zero _)]
      by_cases e : i = k
      · rw [if_pos ⟨e, hx⟩, e]
      · rw [if_neg fun h => e h.1]
        unfold nV1
        rw [if_neg e]
    | succ s ih =>
      intro q J2 w9 hq hf hc
      have hq10 : q < 10 := by omega
      have b1 : 10 * k + q < 100 := by omega
      obtain ⟨e1, e2⟩ := hc k hk10 q hq10
      dsimp only at e1 e2
      rw [if_neg (by omega)] at e1 e2
      have bq := bv k hk q hq10
      refine BX9_reduces_192 hR ?_
      simp (disch := omega) only [nI_ad, nI_ml, nI_lti, nI_lei, nI_eqi, nI_nn, nI_0le, nI_eq0, nI_0lt, nI_le0, nI_clamp, nI_pd, nI_sb, zOf_some, zOp_some, zOp_none, kI_int, kL_long, kO_ref, kO_null, nlt_T, nlt_F, nle_T, nle_F, neq_F, vpT, azUp_at, if_true, if_false, true_and, and_true, true_implies, false_implies, implies_true, not_true_eq_false, not_false_eq_true, true_or, or_true, false_or, or_false, and_false, false_and, eq_self, n01_0, n01_1, nm1_0, k0, a3, f39, f40, k243, k244, e1, e2, lO_ml]
      refine S_sets9 hR hK b1 (sml_sq bq.1 (by omega)) (sml_sq (by omega) bp.1) (Int.mul_ne_zero (by omega) hv) ⟨rfl, ?_⟩
      refine ih (q + 1) _ _ (by omega) (fun b h1 h2 => by rw [upJ_nb h2, upJ_nb h1]; exact hf b h1 h2) ((hc.up2 (r := k) hq10 (x := rdc ((V k q).1 * (V k p).2) ((V k q).2 * (V k p).1))).cong fun i x hi hx => ?_)
      by_cases e : i = k ∧ x = q
      · rw [if_pos e, if_pos ⟨e.1, by omega⟩, e.2]
        unfold nV1
        rw [if_pos rfl]
      · rw [if_neg e]
        by_cases e2 : i = k ∧ x < q
        · rw [if_pos e2, if_pos ⟨e2.1, by omega⟩]
        · rw [if_neg e2, if_neg fun h => by
            by_cases eq : x = q
            · exact e ⟨h.1, eq⟩
            · exact e2 ⟨h.1, by omega⟩]
  exact main1 10 0 J _ rfl (fun _ _ _ => rfl) (eJ.cong fun i x _ _ => by rw [if_neg fun h => Nat.not_lt_zero _ h.2])
theorem L_red82 (hR : azClosed R) (hK : MdOk kd F) {rs : Nat → Option (List Cls)} {ro : Nat} (h : ∀ I' J' T V W c k lc, mdS I I' → (∀ b, b ≠ 252 → b ≠ 253 → J' b = J b) → RD rs I' J' T V W c k 10 ro lc → Q none ((n, z, kd), I', J', F)) : ∀ s p (I1 : azI) (J1 : azJ) (T : Nat → T3) (V : Nat → Nat → Int × Int) (W : Nat → Rw) (c : Nat → Int) (k : Nat) (lc : Nat → Nat) (w3 w4 w5 w6 w7 w8 w9 : Value), s + p = 10 → mdS I I1 → (∀ b, b ≠ 252 → b ≠ 253 → J1 b = J b) → RD rs I1 J1 T V W c k p ro lc → R (d + 3) mX9_reduces 82 [.ref 228, .int (nI ro), .int (nI p), w3, w4, w5, w6, w7, w8, w9] [] ((n, z, kd), I1, J1, F) Q := by
  have ⟨k0, _, ⟨_, k233, k234, k235, k236, k237, k238, k239, k240, k241, k242, k243, k244, k245, k246⟩, _, ⟨_, f28, f29, f30, f31, f33, f34, f35, f36, f37, f38, f39, f40, f41, f43⟩⟩ := id hK
  intro s
  induction s with
  | zero =>
    intro p I1 J1 T V W c k lc w3 w4 w5 w6 w7 w8 w9 hp g1 g2 g3
    obtain rfl : p = 10 := by omega
    refine BX9_reduces_82 hR ?_
    simp (disch := omega) only [nI_ad, nI_ml, nI_lti, nI_lei, nI_eqi, nI_nn, nI_0le, nI_eq0, nI_0lt, nI_le0, nI_clamp, nI_pd, nI_sb, zOf_some, zOp_some, zOp_none, kI_int, kL_long, kO_ref, kO_null, nlt_T, nlt_F, nle_T, nle_F, neq_F, vpT, azUp_at, if_true, if_false, true_and, and_true, true_implies, false_implies, implies_true, not_true_eq_false, not_false_eq_true, true_or, or_true, false_or, or_false, and_false, false_and, eq_self, n01_0, n01_1, nm1_0]
    exact h I1 J1 T V W c k lc g1 g2 g3
  | succ s ih =>
    intro p I1 J1 T V W c k lc w3 w4 w5 w6 w7 w8 w9 hp g1 g2 g3
    have hp10 : p < 10 := by omega
    obtain ⟨eI, eT, eF, eX, ⟨r1, r2, r3⟩, eJ, eA⟩ := id g3
    obtain ⟨a1, a2, a3, a4⟩ := id eA
    have bd := fun i (hi : i < ro) => eF.bound eX eI (by omega) (by omega) r3 hi
    have zro : ∀ i, i < ro → ((V i p).1 = 0 ↔ W i p = 0) := fun i hi => by
      obtain ⟨h1, h2⟩ := eF.1 i hi
      obtain ⟨h3, h4, h5⟩ := h2 p hp10
      constructor
      · intro e
        rw [e, Int.zero_mul] at h5
        rcases Int.mul_eq_zero.mp h5.symm with h | h
        · exact h
        · omega
      · intro e
        rw [e, Int.zero_mul] at h5
        rcases Int.mul_eq_zero.mp h5 with h | h
        · exact h
        · exact absurd h h1
    have at120 : ∀ r, k ≤ r → r ≤ ro → (∀ q, k ≤ q → q < r → (V q p).1 = 0) → (r < ro → (V r p).1 ≠ 0) → R (d + 3) mX9_reduces 120 [.ref 228, .int (nI ro), .int (nI p), .int (nI r), w4, w5, w6, w7, w8, w9] [] ((n, z, kd), I1, J1, F) Q := by
      intro r hr1 hr2 hz hnz
      refine BX9_reduces_120 hR ?_
      by_cases er : r = ro
      · have hlt := cntB_le (P := nL k lc) p
        have hl := eI.1
        have np : nL k lc p := fun a ha => by have := hl a ha; omega
        have c0 : ∀ J : azI, azUp J 254 (cntB (nL k lc) p) (nI p) 228 = J 228 := fun J => azUp_nb (by decide)
        rw [er] at hz ⊢
        simp (disch := omega) only [nI_ad, nI_ml, nI_lti, nI_lei, nI_eqi, nI_nn, nI_0le, nI_eq0, nI_0lt, nI_le0, nI_clamp, nI_pd, nI_sb, zOf_some, zOp_some, zOp_none, kI_int, kL_long, kO_ref, kO_null, nlt_T, nlt_F, nle_T, nle_F, neq_F, vpT, azUp_at, if_true, if_false, true_and, and_true, true_implies, false_implies, implies_true, not_true_eq_false, not_false_eq_true, true_or, or_true, false_or, or_false, and_false, false_and, eq_self, n01_0, n01_1, nm1_0, k0, f41, k245, a1, c0]
        refine ih (p + 1) _ J1 T V W c k lc _ _ _ _ _ _ _ (by omega) ((g1.upc (by decide) (by decide) (by decide)).up (by decide) (by decide)) g2 ⟨eI.skip fun i h1 h2 => ?_, eT, eF, eX, ⟨by omega, r2, r3⟩, eJ, ?_, fun q hq hn => ?_, ?_, fun a ha => ?_⟩
        · by_cases c : i < ro
          · exact (zro i c).mp (hz i h1 c)
          · exact eF.2 i (by omega) h2 p
        · rw [azUp_s, cntB_1 np]
        · rw [azUp_nb (by decide)]
          by_cases e : q = p
          · rw [e, azUp_s]
          · have := cntB_lt hn p (by omega)
            rw [azUp_nk (by omega)]
            exact a2 q (by omega) hn
        · rw [azUp_nk (by decide), azUp_nb (by decide)]
          exact a3
        · rw [azUp_nb (by decide), azUp_nb (by decide)]
          exact a4 a ha
      · have hr : r < ro := by omega
        have hk : k < ro := by omega
        have hk10 : k < 10 := by omega
        have hv := hnz hr
        have b1 : 10 * k + p < 100 := by omega
        simp (disch := omega) only [nI_ad, nI_ml, nI_lti, nI_lei, nI_eqi, nI_nn, nI_0le, nI_eq0, nI_0lt, nI_le0, nI_clamp, nI_pd, nI_sb, zOf_some, zOp_some, zOp_none, kI_int, kL_long, kO_ref, kO_null, nlt_T, nlt_F, nle_T, nle_F, neq_F, vpT, azUp_at, if_true, if_false, true_and, and_true, true_implies, false_implies, implies_true, not_true_eq_false, not_false_eq_true, true_or, or_true, false_or, or_false, and_false, false_and, eq_self, n01_0, n01_1, nm1_0, k0, er, a3]
        refine S_swaps9 hR hK (r := k) (o := r) hk10 (by omega) eJ fun J2 u1 u2 => ⟨rfl, ?_⟩
        have u2' : cF J2 (fun i => V (swq r k i)) := u2.cong fun i q hi hq => by
          by_cases e1 : i = k
          · rw [if_pos e1, e1, swp_k]
          · rw [if_neg e1]
            by_cases e2 : i = r
            · rw [if_pos e2, e2, swp_r]
            · rw [if_neg e2, swp_o e2 e1]
        have eI' := eI.swp (r := r) (by omega) hr1
        have eF' := eF.swp hr hk
        have eX' := eX.swp (r := r) (by omega) hr1
        have eT' := eT.swp (r := r) (k := k) (by omega) hk10
        have hv' : (V (swq r k k) p).1 ≠ 0 := by rw [swp_k]; exact hv
        have hW' : W (swq r k k) p ≠ 0 := by
          rw [swp_k]
          exact fun e => hv ((zro r hr).mpr e)
        have bd' := fun i (hi : i < ro) => eF'.bound eX' eI' (by omega) (by omega) r3 hi
        have sF := eF'.step hk hp10 hv'
        have sX := eX'.step eI' hk10 hp10
        have sI := eI'.frac_step hk10 hp10 hW'
        have bd2 := sF.bound sX sI (by omega) (by omega) r3 hk
        obtain ⟨y1, y2⟩ := u2' k hk10 p hp10
        simp (disch := omega) only [nI_ad, nI_ml, nI_lti, nI_lei, nI_eqi, nI_nn, nI_0le, nI_eq0, nI_0lt, nI_le0, nI_clamp, nI_pd, nI_sb, zOf_some, zOp_some, zOp_none, kI_int, kL_long, kO_ref, kO_null, nlt_T, nlt_F, nle_T, nle_F, neq_F, vpT, azUp_at, if_true, if_false, true_and, and_true, true_implies, false_implies, implies_true, not_true_eq_false, not_false_eq_true, true_or, or_true, false_or, or_false, and_false, false_and, eq_self, n01_0, n01_1, nm1_0, k0, f39, f40, k243, k244, a3, y1, y2]
        refine L_red192 (V := fun i => V (swq r k i)) (k := k) hR hK hk r3 hp10 a3 u2' bd' (fun q hq => ?_) hv' fun J3 w3 w4 w5 w6 w7 w8 w9 v1 v2 => ?_
        · have := bd2 q hq
          have e : nV2 (fun i => V (swq r k i)) k p ro k q = nV1 (fun i => V (swq r k i)) k p k q := if_neg fun h => h.2 rfl
          rw [e] at this
          exact this
        · refine ih (p + 1) _ J3 _ _ _ _ (k + 1) _ _ _ _ _ _ _ _ (by omega) ((g1.upc (by decide) (by decide) (by decide)).up (by decide) (by decide)) (fun b h1 h2 => by rw [v1 b h1 h2, u1 b h1 h2]; exact g2 b h1 h2) ⟨sI, eT', sF, sX, ⟨by omega, by omega, r3⟩, v2, ?_, fun q hq hn => ?_, ?_, fun a ha => ?_⟩
          · have hnp : ¬ nL (k + 1) (fun a => if a = k then p else lc a) p := fun h => h k (by omega) (if_pos rfl)
            rw [azUp_nk (by decide), azUp_nb (by decide), cntB_0 hnp, cntB_cong (P' := nL k lc) p fun q hq => nL_new hq]
            exact a1
          · have hq' : q < p := by
              by_cases e : q = p
              · exact absurd (if_pos rfl) (by rw [e] at hn; exact hn k (by omega))
              · omega
            rw [azUp_nb (by decide), azUp_nb (by decide), cntB_cong (P' := nL k lc) q fun x hx => nL_new (by omega)]
            exact a2 q hq' ((nL_new hq').mp hn)
          · rw [azUp_s]
          · rw [azUp_nb (by decide)]
            dsimp only
            by_cases e : a = k
            · rw [if_pos e, e, azUp_s]
            · rw [if_neg e, azUp_nk e]
              exact a4 a (by omega)
    have at93 : ∀ s r, s + r = ro → k ≤ r → (∀ q, k ≤ q → q < r → (V q p).1 = 0) → R (d + 3) mX9_reduces 93 [.ref 228, .int (nI ro), .int (nI p), .int (nI r), w4, w5, w6, w7, w8, w9] [] ((n, z, kd), I1, J1, F) Q := by
      intro s
      induction s with
      | zero =>
        intro r hs hr hz
        obtain rfl : r = ro := by omega
        refine BX9_reduces_93 hR ?_
        simp (disch := omega) only [nI_ad, nI_ml, nI_lti, nI_lei, nI_eqi, nI_nn, nI_0le, nI_eq0, nI_0lt, nI_le0, nI_clamp, nI_pd, nI_sb, zOf_some, zOp_some, zOp_none, kI_int, kL_long, kO_ref, kO_null, nlt_T, nlt_F, nle_T, nle_F, neq_F, vpT, azUp_at, if_true, if_false, true_and, and_true, true_implies, false_implies, implies_true, not_true_eq_false, not_false_eq_true, true_or, or_true, false_or, or_false, and_false, false_and, eq_self, n01_0, n01_1, nm1_0]
        exact at120 r hr (Nat.le_refl _) hz fun h => absurd h (Nat.lt_irrefl _)
      | succ s ih2 =>
        intro r hs hr hz
        have hro : r < ro := by omega
        have b1 : 10 * r + p < 100 := by omega
        have e1 := (eJ r (by omega) p hp10).1
        refine BX9_reduces_93 hR ?_
        simp (disch := omega) only [nI_ad, nI_ml, nI_lti, nI_lei, nI_eqi, nI_nn, nI_0le, nI_eq0, nI_0lt, nI_le0, nI_clamp, nI_pd, nI_sb, zOf_some, zOp_some, zOp_none, kI_int, kL_long, kO_ref, kO_null, nlt_T, nlt_F, nle_T, nle_F, neq_F, vpT, azUp_at, if_true, if_false, true_and, and_true, true_implies, false_implies, implies_true, not_true_eq_false, not_false_eq_true, true_or, or_true, false_or, or_false, and_false, false_and, eq_self, n01_0, n01_1, nm1_0, k0, f39, k243, e1]
        rw [lN_0, lg_eq0 (sml_of (bd r hro p hp10).1) sml_0]
        refine ⟨fun ne => at120 r hr (by omega) hz fun _ => ne, fun e => ih2 (r + 1) (by omega) (by omega) fun q h1 h2 => ?_⟩
        by_cases eq : q = r
        · rw [eq]; exact Classical.not_not.mp e
        · exact hz q h1 (by omega)
    refine BX9_reduces_82 hR ?_
    simp (disch := omega) only [nI_ad, nI_ml, nI_lti, nI_lei, nI_eqi, nI_nn, nI_0le, nI_eq0, nI_0lt, nI_le0, nI_clamp, nI_pd, nI_sb, zOf_some, zOp_some, zOp_none, kI_int, kL_long, kO_ref, kO_null, nlt_T, nlt_F, nle_T, nle_F, neq_F, vpT, azUp_at, if_true, if_false, true_and, and_true, true_implies, false_implies, implies_true, not_true_eq_false, not_false_eq_true, true_or, or_true, false_or, or_false, and_false, false_and, eq_self, n01_0, n01_1, nm1_0, k0, a3]
    exact at93 (ro - k) k (by omega) (Nat.le_refl k) fun q h1 h2 => absurd h1 (by omega)
end SB
