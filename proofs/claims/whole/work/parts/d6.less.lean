/-! BALANCE: the reference's rows of fractions. -/
section SB
variable {R : azP} {d n z : Nat} {kd : azK} {I : azI} {J : azJ} {F : azR} {Q : azQ}
theorem upJ_nb {a b k : Nat} {v : Int64} (h : b ≠ a) : azUp J a k v b = J b := by
  funext j
  unfold azUp
  rw [if_neg h]
theorem upJ_nk {a k j : Nat} {v : Int64} (h : j ≠ k) : azUp J a k v a j = J a j := by
  unfold azUp
  rw [if_pos rfl, if_neg h]
theorem upJ_s {a k : Nat} {v : Int64} : azUp J a k v a k = v := by
  unfold azUp
  rw [if_pos rfl, if_pos rfl]
/-- rows of fractions -/
def cF (J : azJ) (V : Nat → Nat → Int × Int) : Prop := ∀ i, i < 10 → ∀ p, p < 10 → J 252 (10 * i + p) = lO (V i p).1 ∧ J 253 (10 * i + p) = lO (V i p).2
theorem cF.cong {V V' : Nat → Nat → Int × Int} (h : cF J V) (e : ∀ i p, i < 10 → p < 10 → V' i p = V i p) : cF J V' := fun i hi p hp => by rw [e i p hi hp]; exact h i hi p hp
theorem cF.up {V : Nat → Nat → Int × Int} (h : cF J V) {r q : Nat} (hq : q < 10) {x y : Int} : cF (azUp (azUp J 252 (10 * r + q) (lO x)) 253 (10 * r + q) (lO y)) (fun i p => if i = r ∧ p = q then (x, y) else V i p) := fun i hi p hp => by
  by_cases e : i = r ∧ p = q
  · obtain ⟨rfl, rfl⟩ := e
    dsimp only
    rw [if_pos (show i = i ∧ p = p from ⟨rfl, rfl⟩), upJ_nb (by decide), upJ_s, upJ_s]
    exact ⟨rfl, rfl⟩
  · have hne : 10 * i + p ≠ 10 * r + q := fun h => e ⟨by omega, by omega⟩
    dsimp only
    rw [if_neg e, upJ_nb (by decide), upJ_nk hne, upJ_nk hne]
    exact h i hi p hp
def lesN (V : Nat → Nat → Int × Int) (r o : Nat) (a b : Int) (p : Nat) : Int := (V r p).1 * ((V o p).2 * b) - (V o p).1 * a * (V r p).2
def lesD (V : Nat → Nat → Int × Int) (r o : Nat) (b : Int) (p : Nat) : Int := (V r p).2 * ((V o p).2 * b)
theorem S_less9 (hR : azClosed R) (hK : MdOk kd F) {r o : Nat} (hr : r < 10) (ho : o < 10) (hne : r ≠ o) {V : Nat → Nat → Int × Int} (hV : cF J V) {a b : Int} (hs : ∀ p, p < 10 → sml (lesN V r o a b p) ∧ sml (lesD V r o b p) ∧ lesD V r o b p ≠ 0)
    (h : ∀ J', (∀ c, c ≠ 252 → c ≠ 253 → J' c = J c) → cF J' (fun i p => if i = r then rdc (lesN V r o a b p) (lesD V r o b p) else V i p) → Q none ((n, z, kd), I, J', F)) : R (d + 2) mX9_less 0 [.ref 228, .int (nI r), .int (nI o), .long (lO a), .retAddr 1, .long (lO b), .retAddr 1, .retAddr 0, .retAddr 0, .retAddr 0, .retAddr 0, .retAddr 0, .retAddr 0, .retAddr 0] [] ((n, z, kd), I, J, F) Q := by
  have ⟨k0, _, ⟨_, k233, k234, k235, k236, k237, k238, k239, k240, k241, k242, k243, k244, _⟩, _, ⟨_, f28, f29, f30, f31, f33, f34, f35, f36, f37, f38, f39, f40, _⟩⟩ := id hK
  have main : ∀ s p (J1 : azJ) (w8 w9 w10 w11 w12 w13 : Value), s + p = 10 → (∀ c, c ≠ 252 → c ≠ 253 → J1 c = J c) → cF J1 (fun i q => if i = r ∧ q < p then rdc (lesN V r o a b q) (lesD V r o b q) else V i q) → R (d + 2) mX9_less 3 [.ref 228, .int (nI r), .int (nI o), .long (lO a), .retAddr 1, .long (lO b), .retAddr 1, .int (nI p), w8, w9, w10, w11, w12, w13] [] ((n, z, kd), I, J1, F) Q := by
    intro s
    induction s with
    | zero =>
      intro p J1 w8 w9 w10 w11 w12 w13 hp hf hc
      obtain rfl : p = 10 := by omega
      have := h J1 hf (hc.cong fun i q hi hq => by
        by_cases e : i = r
        · rw [if_pos e, if_pos ⟨e, hq⟩]
        · rw [if_neg e, if_neg fun h => e h.1])
      refine BX9_less_3 hR ?_
      simp (disch := omega) only [nI_ad, nI_ml, nI_lti, nI_lei, nI_eqi, nI_nn, nI_0le, nI_eq0, nI_0lt, nI_le0, nI_clamp, nI_pd, nI_sb, zOf_some, zOp_some, zOp_none, kI_int, kL_long, kO_ref, kO_null, nlt_T, nlt_F, nle_T, nle_F, neq_F, vpT, azUp_at, if_true, if_false, true_and, and_true, true_implies, false_implies, implies_true, not_true_eq_false, not_false_eq_true, true_or, or_true, false_or, or_false, and_false, false_and, eq_self, n01_0, n01_1, nm1_0]
      exact this
    | succ s ih =>
      intro p J1 w8 w9 w10 w11 w12 w13 hp hf hc
      have hp10 : p < 10 := by omega
      obtain ⟨s1, s2, s3⟩ := hs p hp10
      obtain ⟨c1, c2⟩ := hc r hr p hp10
      obtain ⟨c3, c4⟩ := hc o ho p hp10
      dsimp only at c1 c2 c3 c4
      rw [if_neg (show ¬ (r = r ∧ p < p) by omega)] at c1 c2
      rw [if_neg (show ¬ (o = r ∧ p < p) by omega)] at c3 c4
      have b1 : 10 * r + p < 100 := by omega
      have b2 : 10 * o + p < 100 := by omega
      refine BX9_less_3 hR ?_
      simp (disch := omega) only [nI_ad, nI_ml, nI_lti, nI_lei, nI_eqi, nI_nn, nI_0le, nI_eq0, nI_0lt, nI_le0, nI_clamp, nI_pd, nI_sb, zOf_some, zOp_some, zOp_none, kI_int, kL_long, kO_ref, kO_null, nlt_T, nlt_F, nle_T, nle_F, neq_F, vpT, azUp_at, if_true, if_false, true_and, and_true, true_implies, false_implies, implies_true, not_true_eq_false, not_false_eq_true, true_or, or_true, false_or, or_false, and_false, false_and, eq_self, n01_0, n01_1, nm1_0, k0, f39, f40, k243, k244, c1, c2, c3, c4, lO_ml, lO_sb]
      refine S_sets9 hR hK b1 s1 s2 s3 ⟨rfl, ?_⟩
      refine ih (p + 1) _ _ _ _ _ _ _ (by omega) (fun c h1 h2 => by rw [upJ_nb h2, upJ_nb h1]; exact hf c h1 h2) ((hc.up hp10).cong fun i q hi hq => ?_)
      by_cases e : i = r ∧ q = p
      · rw [if_pos e, if_pos ⟨e.1, by omega⟩, e.2]; rfl
      · rw [if_neg e]
        by_cases e2 : i = r ∧ q < p
        · rw [if_pos e2, if_pos ⟨e2.1, by omega⟩]
        · rw [if_neg e2, if_neg fun h => by
            by_cases eq : q = p
            · exact e ⟨h.1, eq⟩
            · exact e2 ⟨h.1, by omega⟩]
  refine BX9_less_0 hR ?_
  exact main 10 0 J _ _ _ _ _ _ rfl (fun _ _ _ => rfl) (hV.cong fun i q _ _ => by rw [if_neg fun h => Nat.not_lt_zero _ h.2])
theorem S_swaps9 (hR : azClosed R) (hK : MdOk kd F) {r o : Nat} (hr : r < 10) (ho : o < 10) {V : Nat → Nat → Int × Int} (hV : cF J V)
    (h : ∀ J', (∀ c, c ≠ 252 → c ≠ 253 → J' c = J c) → cF J' (fun i p => if i = r then V o p else if i = o then V r p else V i p) → Q none ((n, z, kd), I, J', F)) : R d mX9_swaps 0 [.ref 228, .int (nI r), .int (nI o), .retAddr 0, .retAddr 0, .retAddr 0, .retAddr 0, .retAddr 0] [] ((n, z, kd), I, J, F) Q := by
  have ⟨k0, _, ⟨_, k233, k234, k235, k236, k237, k238, k239, k240, k241, k242, k243, k244, _⟩, _, ⟨_, f28, f29, f30, f31, f33, f34, f35, f36, f37, f38, f39, f40, _⟩⟩ := id hK
  have main : ∀ s p (J1 : azJ) (w4 w5 w6 w7 : Value), s + p = 10 → (∀ c, c ≠ 252 → c ≠ 253 → J1 c = J c) → cF J1 (fun i q => if q < p then (if i = r then V o q else if i = o then V r q else V i q) else V i q) → R d mX9_swaps 2 [.ref 228, .int (nI r), .int (nI o), .int (nI p), w4, w5, w6, w7] [] ((n, z, kd), I, J1, F) Q := by
    intro s
    induction s with
    | zero =>
      intro p J1 w4 w5 w6 w7 hp hf hc
      obtain rfl : p = 10 := by omega
      have := h J1 hf (hc.cong fun i q hi hq => by rw [if_pos hq])
      refine BX9_swaps_2 hR ?_
      simp (disch := omega) only [nI_ad, nI_ml, nI_lti, nI_lei, nI_eqi, nI_nn, nI_0le, nI_eq0, nI_0lt, nI_le0, nI_clamp, nI_pd, nI_sb, zOf_some, zOp_some, zOp_none, kI_int, kL_long, kO_ref, kO_null, nlt_T, nlt_F, nle_T, nle_F, neq_F, vpT, azUp_at, if_true, if_false, true_and, and_true, true_implies, false_implies, implies_true, not_true_eq_false, not_false_eq_true, true_or, or_true, false_or, or_false, and_false, false_and, eq_self, n01_0, n01_1, nm1_0]
      exact this
    | succ s ih =>
      intro p J1 w4 w5 w6 w7 hp hf hc
      have hp10 : p < 10 := by omega
      obtain ⟨c1, c2⟩ := hc r hr p hp10
      obtain ⟨c3, c4⟩ := hc o ho p hp10
      dsimp only at c1 c2 c3 c4
      rw [if_neg (Nat.lt_irrefl p)] at c1 c2 c3 c4
      have b1 : 10 * r + p < 100 := by omega
      have b2 : 10 * o + p < 100 := by omega
      have e1 : azUp J1 252 (10 * r + p) (lO (V o p).1) 253 = J1 253 := upJ_nb (by decide)
      refine BX9_swaps_2 hR ?_
      simp (disch := omega) only [nI_ad, nI_ml, nI_lti, nI_lei, nI_eqi, nI_nn, nI_0le, nI_eq0, nI_0lt, nI_le0, nI_clamp, nI_pd, nI_sb, zOf_some, zOp_some, zOp_none, kI_int, kL_long, kO_ref, kO_null, nlt_T, nlt_F, nle_T, nle_F, neq_F, vpT, azUp_at, if_true, if_false, true_and, and_true, true_implies, false_implies, implies_true, not_true_eq_false, not_false_eq_true, true_or, or_true, false_or, or_false, and_false, false_and, eq_self, n01_0, n01_1, nm1_0, k0, f39, f40, k243, k244, c1, c2, c3, c4, e1]
      refine ih (p + 1) _ _ _ _ _ (by omega) (fun c h1 h2 => by rw [upJ_nb h2, upJ_nb h1, upJ_nb h2, upJ_nb h1]; exact hf c h1 h2) fun i hi q hq => ?_
      obtain ⟨g1, g2⟩ := hc i hi q hq
      dsimp only at g1 g2 ⊢
      by_cases eq : q = p
      · subst eq
        rw [if_pos (by omega)]
        rw [if_neg (Nat.lt_irrefl q)] at g1 g2
        by_cases eo : i = o
        · subst eo
          have : (if i = r then V i q else if i = i then V r q else V i q) = V r q := by
            by_cases er : i = r
            · rw [if_pos er, er]
            · rw [if_neg er, if_pos rfl]
          rw [this, upJ_nb (by decide), upJ_s, upJ_s]
          exact ⟨rfl, rfl⟩
        · have ho' : 10 * i + q ≠ 10 * o + q := fun e => eo (by omega)
          by_cases er : i = r
          · subst er
            rw [if_pos rfl, upJ_nb (by decide), upJ_nk ho', upJ_nb (by decide), upJ_s, upJ_nk ho', upJ_nb (by decide), upJ_s]
            exact ⟨rfl, rfl⟩
          · have hr' : 10 * i + q ≠ 10 * r + q := fun e => er (by omega)
            rw [if_neg er, if_neg eo, upJ_nb (by decide), upJ_nk ho', upJ_nb (by decide), upJ_nk hr', upJ_nk ho', upJ_nb (by decide), upJ_nk hr', upJ_nb (by decide)]
            exact ⟨g1, g2⟩
      · have ho' : 10 * i + q ≠ 10 * o + p := fun e => eq (by omega)
        have hr' : 10 * i + q ≠ 10 * r + p := fun e => eq (by omega)
        have ec : (if q < p + 1 then (if i = r then V o q else if i = o then V r q else V i q) else V i q) = if q < p then (if i = r then V o q else if i = o then V r q else V i q) else V i q := by
          by_cases e : q < p
          · rw [if_pos e, if_pos (by omega)]
          · rw [if_neg e, if_neg (by omega)]
        rw [ec, upJ_nb (by decide), upJ_nk ho', upJ_nb (by decide), upJ_nk hr', upJ_nk ho', upJ_nb (by decide), upJ_nk hr', upJ_nb (by decide)]
        exact ⟨g1, g2⟩
  refine BX9_swaps_0 hR ?_
  exact main 10 0 J _ _ _ _ rfl (fun _ _ _ => rfl) (hV.cong fun i q _ _ => by rw [if_neg (Nat.not_lt_zero _)])
end SB
