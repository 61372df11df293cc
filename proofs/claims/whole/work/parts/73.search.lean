/-! WALKS: Walks.search. -/
def RsOk (kd : azK) (I : azI) (F : azR) (lo g : Nat) (rs : Nat → Option (List Cls)) : Prop := kd g = (14, 10) ∧ ∀ p, p < 10 → (rs p = none → F g p = none) ∧ ∀ cs, rs p = some cs → ∃ r, F g p = some r ∧ lo < r ∧ RuOk kd F r ∧ cR I r cs [] ∧ rlOK cs
theorem RsOk.keep {kd : azK} {I I' : azI} {F : azR} {lo g : Nat} {rs : Nat → Option (List Cls)} (h : RsOk kd I F lo g rs) (hf : ∀ b, lo < b → I' b = I b) : RsOk kd I' F lo g rs := ⟨h.1, fun p hp => ⟨(h.2 p hp).1, fun cs hcs => by
  obtain ⟨r, h1, h2, h3, h4, h5⟩ := (h.2 p hp).2 cs hcs
  exact ⟨r, h1, h2, h3, h4.keep fun b b1 b2 => hf b (by omega), h5⟩⟩⟩
theorem pfire_ok {rs : Nat → Option (List Cls)} {p : Nat} {m M : Mk} (ho : ∀ cs, rs p = some cs → rlOK cs) (hv : mOK m) (h : pfire rs p m = some M) : mOK M := by
  unfold pfire at h
  revert h
  cases hr : rs p with
  | none => intro h; cases h
  | some cs => intro h; exact fire_ok (ho cs hr) hv h
theorem getD_app_lt {α : Type} {l : List α} {x y : α} {i : Nat} (h : i < l.length) : (l ++ [x]).getD i y = l.getD i y := by
  simp only [List.getD_eq_getElem?_getD]
  rw [List.getElem?_append_left h]
theorem getD_app_eq {α : Type} {l : List α} {x y : α} : (l ++ [x]).getD l.length y = x := by simp
theorem numS_ok {N : Nat} {S : WS} {w : Nat × Nat} {m : Mk} (h : wsOK N S) (hv : mOK m) (hw : w.1 < S.1.length ∧ w.2 < 10) : wsOK N (numS N S w m).1 ∧ S.1.length ≤ (numS N S w m).1.1.length ∧ (∀ i, i < S.1.length → (numS N S w m).1.1.getD i mNil = S.1.getD i mNil) ∧ ∀ j, (numS N S w m).2 = some j → j < (numS N S w m).1.1.length := by
  obtain ⟨h1, h2, h3, h4, h5, h6⟩ := h
  unfold numS
  cases e : fidx m 0 S.1 with
  | some i =>
    dsimp only
    refine ⟨⟨h1, h2, h3, h4, h5, h6⟩, Nat.le_refl _, fun _ _ => rfl, fun j hj => ?_⟩
    cases hj
    have := fidx_lt _ _ _ e
    omega
  | none =>
    dsimp only
    by_cases c : S.1.length < N
    · rw [if_pos c]
      dsimp only
      have hl : (S.1 ++ [m]).length = S.1.length + 1 := by simp
      refine ⟨⟨by rw [hl]; omega, by rw [hl]; omega, by rw [hl, List.length_append, h3]; rfl, fun x hx => ?_, fun i hi hi2 => ?_, fun j hj => ?_⟩, by rw [hl]; omega, fun i hi => getD_app_lt hi, fun j hj => ?_⟩
      · rcases List.mem_append.mp hx with hx | hx
        · exact h4 x hx
        · rw [List.mem_singleton] at hx; subst hx; exact hv
      · rw [hl] at hi2
        by_cases ei : i = S.1.length
        · subst ei
          rw [← h3, getD_app_eq, h3]
          exact hw
        · rw [getD_app_lt (by omega)]
          exact h5 i hi (by omega)
      · rw [hl]; have := h6 j hj; omega
      · cases hj; rw [hl]; omega
    · rw [if_neg c]
      exact ⟨⟨h1, h2, h3, h4, h5, h6⟩, Nat.le_refl _, fun _ _ => rfl, fun j hj => by cases hj⟩
theorem stepS_ok {N : Nat} {rs : Nat → Option (List Cls)} {S : WS} {f p : Nat} (ho : ∀ p cs, p < 10 → rs p = some cs → rlOK cs) (h : wsOK N S) (hf : f < S.1.length) (hp : p < 10) : wsOK N (stepS N rs S f p) ∧ S.1.length ≤ (stepS N rs S f p).1.length ∧ (stepS N rs S f p).2.2.length = S.2.2.length + 1 := by
  have hv := h.2.2.2.1 _ (getD_memM hf)
  unfold stepS
  cases e : pfire rs p (S.1.getD f mNil) with
  | none =>
    dsimp only
    obtain ⟨h1, h2, h3, h4, h5, h6⟩ := h
    refine ⟨⟨h1, h2, h3, h4, h5, fun j hj => ?_⟩, Nat.le_refl _, by simp⟩
    rcases List.mem_append.mp hj with hj | hj
    · exact h6 j hj
    · rw [List.mem_singleton] at hj; cases hj
  | some m =>
    dsimp only
    obtain ⟨⟨h1, h2, h3, h4, h5, h6⟩, g1, g2, g3⟩ := numS_ok h (pfire_ok (ho p · hp) hv e) (w := (f, p)) ⟨hf, hp⟩
    have e22 : (numS N S (f, p) m).1.2.2 = S.2.2 := by
      unfold numS
      split
      · rfl
      · split <;> rfl
    refine ⟨⟨h1, h2, h3, h4, h5, fun j hj => ?_⟩, g1, by simp⟩
    rcases List.mem_append.mp hj with hj | hj
    · exact h6 j (by rw [e22]; exact hj)
    · rw [List.mem_singleton] at hj
      exact g3 j (Option.some.inj hj).symm
theorem srch_ok {N : Nat} {rs : Nat → Option (List Cls)} (ho : ∀ p cs, p < 10 → rs p = some cs → rlOK cs) : ∀ (n : Nat) (S : WS), wsOK N S → wsOK N (srch N rs n S) := by
  intro n
  induction n with
  | zero => intro S h; exact h
  | succ n ih =>
    intro S h
    unfold srch
    by_cases c : S.2.2.length < 10 * S.1.length
    · rw [if_pos c]
      exact ih _ (stepS_ok ho h (by omega) (by omega)).1
    · rw [if_neg c]; exact h
theorem wk_ok {N : Nat} {rs : Nat → Option (List Cls)} {m : Mk} (ho : ∀ p cs, p < 10 → rs p = some cs → rlOK cs) (hv : mOK m) (hN : 0 < N) : wsOK N (wk N rs m) := srch_ok ho _ _ ⟨Nat.one_pos, hN, rfl, fun x hx => by rw [List.mem_singleton] at hx; subst hx; exact hv, fun i h1 h2 => by simp at h2; omega, fun j hj => absurd hj List.not_mem_nil⟩
theorem abl_succ {ld : List (Option (Option Nat))} {i p : Nat} : abl ld i (p + 1) = if (ld.getD (10 * i + p) none).isSome then abl ld i p ||| 2 ^ p else abl ld i p := rfl
section S7
variable {R : azP} {d n z : Nat} {kd : azK} {I : azI} {J : azJ} {F : azR} {Q : azQ} {a b g fr : Nat} {m : Mk} {rs : Nat → Option (List Cls)}
/-- cells that a search may change -/
def fzW (a fr : Nat) (I I' : azI) : Prop := ∀ b, (b < a ∨ a + 189 < b) → b ≠ fr + 1 → b ≠ fr + 2 → b ≠ fr + 3 → I' b = I b
theorem fzW.trans {I1 I2 I3 : azI} (h1 : fzW a fr I1 I2) (h2 : fzW a fr I2 I3) : fzW a fr I1 I3 := fun b b1 b2 b3 b4 => by rw [h2 b b1 b2 b3 b4, h1 b b1 b2 b3 b4]
theorem S_search (hR : azClosed R) (hW : WkOk kd F a) (hF : FiOk kd F fr) (hfa : fr + 3 < a) (hN : MkOk kd F b) (hb : b + 2 < fr) (hm : cM I b m) (hv : mOK m) (hRs : RsOk kd I F (a + 189) g rs) (h : ∀ I', cWk I' a (wk 60 rs m) → fzW a fr I I' → Q none ((n, z, kd), I', J, F)) : R (d + 8) mX7_search 0 [.ref a, .ref b, .ref g, .ref fr, .retAddr 0, .retAddr 0] [] ((n, z, kd), I, J, F) Q := by
  have hW' := hW
  obtain ⟨k0, k1, kf, kn, k2, k3, k4, k5, k6, f0, f1, f2, f3, f4, f5, f6⟩ := hW
  have kF := hF.1
  have ho : ∀ p cs, p < 10 → rs p = some cs → rlOK cs := fun p cs hp hcs => by
    obtain ⟨r, _, _, _, _, h5⟩ := (hRs.2 p hp).2 cs hcs
    exact h5
  have kg := hRs.1
  have main : ∀ (s : Nat) (S : WS) (I1 : azI) (f p : Nat), s + S.2.2.length = 600 → S.2.2.length = 10 * f + p → p < 10 → f < S.1.length → wsOK 60 S → cWp I1 a S → (∀ i, i < f → I1 (a + 187) i = nI (abl S.2.2 i 10)) → I1 (a + 187) f = nI (abl S.2.2 f p) → fzW a fr I I1 → srch 60 rs s S = wk 60 rs m → R (d + 8) mX7_search 59 [.ref a, .ref b, .ref g, .ref fr, .int (nI f), .int (nI p)] [] ((n, z, kd), I1, J, F) Q := by
    intro s
    induction s with
    | zero => intro S I1 f p e1 e2 hp hf hS; have := hS.2.1; omega
    | succ s ih =>
      intro S I1 f p e1 e2 hp hf hS hc ha haf hz hw
      have hf60 : f < 60 := by have := hS.2.1; omega
      have hlen60 := hS.2.1
      have hRs1 := hRs.keep (I' := I1) fun b hb' => hz b (Or.inr hb') (by omega) (by omega) (by omega)
      unfold srch at hw
      rw [if_pos (by omega), show S.2.2.length / 10 = f by omega, show S.2.2.length % 10 = p by omega] at hw
      obtain ⟨s1, s2, s3⟩ := stepS_ok ho hS hf hp
      -- behind one pair
      have next : ∀ I2, cWp I2 a (stepS 60 rs S f p) → (∀ i, i < f → I2 (a + 187) i = nI (abl (stepS 60 rs S f p).2.2 i 10)) → I2 (a + 187) f = nI (abl (stepS 60 rs S f p).2.2 f (p + 1)) → fzW a fr I I2 → R (d + 8) mX7_search 59 [.ref a, .ref b, .ref g, .ref fr, .int (nI f), .int (nI (p + 1))] [] ((n, z, kd), I2, J, F) Q := by
        intro I2 hc2 ha2 haf2 hz2
        by_cases c : p + 1 < 10
        · exact ih _ I2 f (p + 1) (by omega) (by omega) c (by omega) s1 hc2 ha2 haf2 hz2 hw
        · obtain rfl : p = 9 := by omega
          refine BX7_search_59 hR ?_
          simp (disch := omega) only [nI_ad, nI_ml, nI_lti, nI_lei, nI_eqi, nI_nn, nI_0le, nI_eq0, nI_0lt, nI_le0, nI_clamp, nI_pd, nI_sb, zOf_some, zOp_some, zOp_none, kI_int, kL_long, kO_ref, kO_null, nlt_T, nlt_F, nle_T, nle_F, neq_F, vpT, azUp_at, if_true, if_false, true_and, and_true, true_implies, false_implies, implies_true, not_true_eq_false, not_false_eq_true, true_or, or_true, false_or, or_false, and_false, false_and, eq_self, n01_0, n01_1, nm1_0]
          refine BX7_search_32 hR ?_
          simp (disch := omega) only [nI_ad, nI_ml, nI_lti, nI_lei, nI_eqi, nI_nn, nI_0le, nI_eq0, nI_0lt, nI_le0, nI_clamp, nI_pd, nI_sb, zOf_some, zOp_some, zOp_none, kI_int, kL_long, kO_ref, kO_null, nlt_T, nlt_F, nle_T, nle_F, neq_F, vpT, azUp_at, if_true, if_false, true_and, and_true, true_implies, false_implies, implies_true, not_true_eq_false, not_false_eq_true, true_or, or_true, false_or, or_false, and_false, false_and, eq_self, n01_0, n01_1, nm1_0, k0, hc2.1]
          have hl2 := s1.2.1
          by_cases c2 : f + 1 < (stepS 60 rs S f 9).1.length
          · simp (disch := omega) only [nI_ad, nI_ml, nI_lti, nI_lei, nI_eqi, nI_nn, nI_0le, nI_eq0, nI_0lt, nI_le0, nI_clamp, nI_pd, nI_sb, zOf_some, zOp_some, zOp_none, kI_int, kL_long, kO_ref, kO_null, nlt_T, nlt_F, nle_T, nle_F, neq_F, vpT, azUp_at, if_true, if_false, true_and, and_true, true_implies, false_implies, implies_true, not_true_eq_false, not_false_eq_true, true_or, or_true, false_or, or_false, and_false, false_and, eq_self, n01_0, n01_1, nm1_0, c2, f4, k4]
            refine ih _ _ (f + 1) 0 (by omega) (by omega) (by omega) c2 s1 ?_ (fun i hi => ?_) ?_ (fun b b1 b2 b3 b4 => by rw [azUp_nb (by omega)]; exact hz2 b b1 b2 b3 b4) hw
            · obtain ⟨q1, q2, q3, q4⟩ := hc2
              refine ⟨by rw [azUp_nb (by omega)]; exact q1, fun i hi => (q2 i hi).keep (azUp_nb (by omega)) (azUp_nb (by omega)), fun i h1 h2 => ?_, fun k hk => ?_⟩
              · rw [azUp_nb (by omega), azUp_nb (by omega)]; exact q3 i h1 h2
              · rw [azUp_nb (by omega)]; exact q4 k hk
            · rw [azUp_nk (by omega)]
              by_cases ei : i = f
              · subst ei; exact haf2
              · exact ha2 i (by omega)
            · rw [azUp_s]; rfl
          · simp (disch := omega) only [nI_ad, nI_ml, nI_lti, nI_lei, nI_eqi, nI_nn, nI_0le, nI_eq0, nI_0lt, nI_le0, nI_clamp, nI_pd, nI_sb, zOf_some, zOp_some, zOp_none, kI_int, kL_long, kO_ref, kO_null, nlt_T, nlt_F, nle_T, nle_F, neq_F, vpT, azUp_at, if_true, if_false, true_and, and_true, true_implies, false_implies, implies_true, not_true_eq_false, not_false_eq_true, true_or, or_true, false_or, or_false, and_false, false_and, eq_self, n01_0, n01_1, nm1_0, c2]
            refine h I2 ?_ hz2
            have : srch 60 rs s (stepS 60 rs S f 9) = stepS 60 rs S f 9 := by
              cases s with
              | zero => rfl
              | succ s => unfold srch; rw [if_neg (by omega)]
            rw [← hw, this]
            refine ⟨hc2, fun i hi => ?_⟩
            by_cases ei : i = f
            · subst ei; exact haf2
            · exact ha2 i (by omega)
      obtain ⟨c7, cf, cb, cl⟩ := hc
      obtain ⟨g1, g2⟩ := kf f hf60
      have hidx : f * 10 + p = S.2.2.length := by omega
      -- what stands when the lead is -1
      have hz1 : fzW a fr I (azUp I1 (a + 188) (f * 10 + p) (-(nI 1))) := fun b b1 b2 b3 b4 => by rw [azUp_nb (by omega)]; exact hz b b1 b2 b3 b4
      have hfm : cM I1 (a + 2 + 3 * f) (S.1.getD f mNil) := cf f hf
      have hfv := hS.2.2.2.1 _ (getD_memM hf)
      refine BX7_search_59 hR ?_
      -- the part can't go
      have no : pfire rs p (S.1.getD f mNil) = none → ∀ I2, (∀ c, c ≠ fr + 1 → c ≠ fr + 2 → c ≠ fr + 3 → c ≠ a + 182 + 1 → c ≠ a + 182 + 2 → I2 c = azUp I1 (a + 188) (f * 10 + p) (-(nI 1)) c) → R (d + 8) mX7_search 59 [.ref a, .ref b, .ref g, .ref fr, .int (nI f), .int (nI (p + 1))] [] ((n, z, kd), I2, J, F) Q := by
        intro e I2 hf2
        have est : stepS 60 rs S f p = (S.1, S.2.1, S.2.2 ++ [none]) := by unfold stepS; rw [e]
        refine next I2 ?_ (fun i hi => ?_) ?_ (fun b b1 b2 b3 b4 => by rw [hf2 b b2 b3 b4 (by omega) (by omega)]; exact hz1 b b1 b2 b3 b4)
        · rw [est]
          refine ⟨by rw [hf2 _ (by omega) (by omega) (by omega) (by omega) (by omega), azUp_nb (by omega)]; exact c7, fun i hi => ?_, fun i h1 h2 => ?_, fun k hk => ?_⟩
          · have hi : i < S.1.length := hi
            exact (cf i hi).keep (by rw [hf2 _ (by omega) (by omega) (by omega) (by omega) (by omega), azUp_nb (by omega)]) (by rw [hf2 _ (by omega) (by omega) (by omega) (by omega) (by omega), azUp_nb (by omega)])
          · rw [hf2 _ (by omega) (by omega) (by omega) (by omega) (by omega), azUp_nb (by omega), hf2 _ (by omega) (by omega) (by omega) (by omega) (by omega), azUp_nb (by omega)]
            exact cb i h1 h2
          · have hk : k < (S.2.2 ++ [none]).length := hk
            rw [List.length_append, List.length_cons, List.length_nil] at hk
            rw [hf2 _ (by omega) (by omega) (by omega) (by omega) (by omega)]
            show _ = ldI ((S.2.2 ++ [none]).getD k none)
            by_cases ek : k = S.2.2.length
            · rw [ek, getD_app_eq, ← hidx, azUp_s]; rfl
            · rw [getD_app_lt (by omega), azUp_nk (by omega)]
              exact cl k (by omega)
        · rw [est, hf2 _ (by omega) (by omega) (by omega) (by omega) (by omega), azUp_nb (by omega), ha i hi]
          show _ = nI (abl (S.2.2 ++ [none]) i 10)
          rw [abl_app _ (by omega)]
        · rw [est, hf2 _ (by omega) (by omega) (by omega) (by omega) (by omega), azUp_nb (by omega), haf]
          show _ = nI (abl (S.2.2 ++ [none]) f (p + 1))
          rw [abl_succ, show 10 * f + p = S.2.2.length by omega, getD_app_eq, abl_app _ (by omega)]
          rfl
      have yes : ∀ M, pfire rs p (S.1.getD f mNil) = some M → ∀ I2, (∀ c, c ≠ fr + 1 → c ≠ fr + 2 → c ≠ fr + 3 → c ≠ a + 182 + 1 → c ≠ a + 182 + 2 → I2 c = azUp I1 (a + 188) (f * 10 + p) (-(nI 1)) c) → cM I2 (a + 182) M → R (d + 7) mX7_numberOfNext 0 [.ref a, .int (nI f), .int (nI p), .retAddr 0] [] ((n, z, kd), azUp I2 (a + 187) f (nI (abl S.2.2 f p ||| 2 ^ p)), J, F) fun v s => kI v fun r => ((s.1.2.2 (a + 188)).1 = 10 ∧ vp_in (nI (f * 10 + p)) (s.1.2.2 (a + 188)).2 ∧ R (d + 8) mX7_search 59 [.ref a, .ref b, .ref g, .ref fr, .int (nI f), .int (nI (p + 1))] [] ((s.1), (azUp s.2.1 (a + 188) (f * 10 + p) r), s.2.2.1, s.2.2.2) Q) := by
        intro M e I2 hf2 hM2
        have hMv := pfire_ok (ho p · hp) hfv e
        have hfr : ∀ c, c ≠ fr + 1 → c ≠ fr + 2 → c ≠ fr + 3 → c ≠ a + 182 + 1 → c ≠ a + 182 + 2 → c ≠ a + 187 → c ≠ a + 188 → azUp I2 (a + 187) f (nI (abl S.2.2 f p ||| 2 ^ p)) c = I1 c := fun c h1 h2 h3 h4 h5 h6 h7 => by rw [azUp_nb h6, hf2 c h1 h2 h3 h4 h5, azUp_nb h7]
        have z2 : fzW a fr I (azUp I2 (a + 187) f (nI (abl S.2.2 f p ||| 2 ^ p))) := fun b b1 b2 b3 b4 => by rw [hfr b b2 b3 b4 (by omega) (by omega) (by omega) (by omega)]; exact hz b b1 b2 b3 b4
        -- behind the number, whichever it is
        have fin : ∀ (I3 : azI) (v : Option Nat), (numS 60 S (f, p) M).2 = v → I3 a 7 = nI (numS 60 S (f, p) M).1.1.length → (∀ i, i < (numS 60 S (f, p) M).1.1.length → cM I3 (a + 2 + 3 * i) ((numS 60 S (f, p) M).1.1.getD i mNil)) → (∀ i, 0 < i → i < (numS 60 S (f, p) M).1.1.length → I3 (a + 185) i = nI ((numS 60 S (f, p) M).1.2.1.getD i (0, 0)).1 ∧ I3 (a + 186) i = nI ((numS 60 S (f, p) M).1.2.1.getD i (0, 0)).2) → I3 (a + 187) = azUp I2 (a + 187) f (nI (abl S.2.2 f p ||| 2 ^ p)) (a + 187) → I3 (a + 188) = I2 (a + 188) → fzW a fr I I3 → R (d + 8) mX7_search 59 [.ref a, .ref b, .ref g, .ref fr, .int (nI f), .int (nI (p + 1))] [] ((n, z, kd), azUp I3 (a + 188) (f * 10 + p) (ldI (some v)), J, F) Q := by
          intro I3 v ev j1 j2 j3 j4 j5 j6
          have est : stepS 60 rs S f p = ((numS 60 S (f, p) M).1.1, (numS 60 S (f, p) M).1.2.1, S.2.2 ++ [some (numS 60 S (f, p) M).2]) := by unfold stepS; rw [e]
          rw [ev] at est
          have j5' : ∀ k, k ≠ f * 10 + p → I3 (a + 188) k = I1 (a + 188) k := fun k hk => by rw [j5, hf2 _ (by omega) (by omega) (by omega) (by omega) (by omega), azUp_nk hk]
          have j4' : ∀ k, k ≠ f → I3 (a + 187) k = I1 (a + 187) k := fun k hk => by rw [j4, azUp_nk hk, hf2 _ (by omega) (by omega) (by omega) (by omega) (by omega), azUp_nb (by omega)]
          refine next _ ?_ (fun i hi => ?_) ?_ (fun b b1 b2 b3 b4 => by rw [azUp_nb (by omega)]; exact j6 b b1 b2 b3 b4)
          · rw [est]
            refine ⟨by rw [azUp_nb (by omega)]; exact j1, fun i hi => (j2 i hi).keep (azUp_nb (by have := s1.2.1; rw [est] at this; have : (numS 60 S (f, p) M).1.1.length ≤ 60 := this; have : i < (numS 60 S (f, p) M).1.1.length := hi; omega)) (azUp_nb (by have := s1.2.1; rw [est] at this; have : (numS 60 S (f, p) M).1.1.length ≤ 60 := this; have : i < (numS 60 S (f, p) M).1.1.length := hi; omega)), fun i h1 h2 => ?_, fun k hk => ?_⟩
            · rw [azUp_nb (by omega), azUp_nb (by omega)]; exact j3 i h1 h2
            · have hk : k < (S.2.2 ++ [some v]).length := hk
              rw [List.length_append, List.length_cons, List.length_nil] at hk
              show _ = ldI ((S.2.2 ++ [some v]).getD k none)
              by_cases ek : k = S.2.2.length
              · rw [ek, getD_app_eq, ← hidx, azUp_s]
              · rw [getD_app_lt (by omega), azUp_nk (by omega), j5' k (by omega)]
                exact cl k (by omega)
          · rw [est, azUp_nb (by omega), j4' i (by omega), ha i hi]
            show _ = nI (abl (S.2.2 ++ [some v]) i 10)
            rw [abl_app _ (by omega)]
          · rw [est, azUp_nb (by omega), j4, azUp_s]
            show _ = nI (abl (S.2.2 ++ [some v]) f (p + 1))
            rw [abl_succ, show 10 * f + p = S.2.2.length by omega, getD_app_eq, abl_app _ (by omega)]
            rfl
        refine S_numberOfNext hR hW' (by rw [hfr _ (by omega) (by omega) (by omega) (by omega) (by omega) (by omega) (by omega)]; exact c7) (fun i hi => (cf i hi).keep (hfr _ (by omega) (by omega) (by omega) (by omega) (by omega) (by omega) (by omega)) (hfr _ (by omega) (by omega) (by omega) (by omega) (by omega) (by omega) (by omega))) hlen60 hS.2.2.2.1 (hM2.keep (azUp_nb (by omega)) (azUp_nb (by omega))) hMv (fun i hi => ?_) (fun hi hl I3 q1 q2 q3 q4 q5 q6 => ?_) (fun hi hl => ?_)
        · have en : numS 60 S (f, p) M = (S, some i) := by unfold numS; rw [hi]
          have i1 := fidx_lt _ _ _ hi
          simp (disch := omega) only [nI_ad, nI_ml, nI_lti, nI_lei, nI_eqi, nI_nn, nI_0le, nI_eq0, nI_0lt, nI_le0, nI_clamp, nI_pd, nI_sb, zOf_some, zOp_some, zOp_none, kI_int, kL_long, kO_ref, kO_null, nlt_T, nlt_F, nle_T, nle_F, neq_F, vpT, azUp_at, if_true, if_false, true_and, and_true, true_implies, false_implies, implies_true, not_true_eq_false, not_false_eq_true, true_or, or_true, false_or, or_false, and_false, false_and, eq_self, n01_0, n01_1, nm1_0, k5]
          have := fin _ (some i) (by rw [en]) (by rw [en, hfr _ (by omega) (by omega) (by omega) (by omega) (by omega) (by omega) (by omega)]; exact c7) (fun i hi => by rw [en] at hi ⊢; have hi : i < S.1.length := hi; exact (cf i hi).keep (hfr _ (by omega) (by omega) (by omega) (by omega) (by omega) (by omega) (by omega)) (hfr _ (by omega) (by omega) (by omega) (by omega) (by omega) (by omega) (by omega))) (fun i h1 h2 => by rw [en] at h2 ⊢; have h2 : i < S.1.length := h2; rw [hfr _ (by omega) (by omega) (by omega) (by omega) (by omega) (by omega) (by omega), hfr _ (by omega) (by omega) (by omega) (by omega) (by omega) (by omega) (by omega)]; exact cb i h1 h2) rfl (azUp_nb (by omega)) z2
          exact this
        · have en : numS 60 S (f, p) M = ((S.1 ++ [M], S.2.1 ++ [(f, p)], S.2.2), some S.1.length) := by unfold numS; rw [hi]; dsimp only; rw [if_pos hl]
          have ell : (S.1 ++ [M]).length = S.1.length + 1 := by simp
          have h3 := hS.2.2.1
          simp (disch := omega) only [nI_ad, nI_ml, nI_lti, nI_lei, nI_eqi, nI_nn, nI_0le, nI_eq0, nI_0lt, nI_le0, nI_clamp, nI_pd, nI_sb, zOf_some, zOp_some, zOp_none, kI_int, kL_long, kO_ref, kO_null, nlt_T, nlt_F, nle_T, nle_F, neq_F, vpT, azUp_at, if_true, if_false, true_and, and_true, true_implies, false_implies, implies_true, not_true_eq_false, not_false_eq_true, true_or, or_true, false_or, or_false, and_false, false_and, eq_self, n01_0, n01_1, nm1_0, k5]
          have := fin I3 (some S.1.length) (by rw [en]) (by rw [en]; show _ = nI (S.1 ++ [M]).length; rw [ell]; exact q1) (fun i hi => by
              rw [en] at hi ⊢
              have hi : i < (S.1 ++ [M]).length := hi
              show cM I3 _ ((S.1 ++ [M]).getD i mNil)
              rw [ell] at hi
              by_cases ei : i = S.1.length
              · rw [ei, getD_app_eq]; exact q2
              · rw [getD_app_lt (by omega)]
                exact (cf i (by omega)).keep (by rw [q6 _ (by omega) (by omega) (by omega) (by omega) (by omega), hfr _ (by omega) (by omega) (by omega) (by omega) (by omega) (by omega) (by omega)]) (by rw [q6 _ (by omega) (by omega) (by omega) (by omega) (by omega), hfr _ (by omega) (by omega) (by omega) (by omega) (by omega) (by omega) (by omega)]))
            (fun i h1 h2 => by
              rw [en] at h2 ⊢
              have h2 : i < (S.1 ++ [M]).length := h2
              show _ = nI ((S.2.1 ++ [(f, p)]).getD i (0, 0)).1 ∧ _ = nI ((S.2.1 ++ [(f, p)]).getD i (0, 0)).2
              rw [ell] at h2
              by_cases ei : i = S.1.length
              · rw [ei]
                rw [← h3] at q3 q4 ⊢
                rw [getD_app_eq]; exact ⟨q3, q4⟩
              · rw [getD_app_lt (by omega), (q5 i ei).1, (q5 i ei).2, hfr _ (by omega) (by omega) (by omega) (by omega) (by omega) (by omega) (by omega), hfr _ (by omega) (by omega) (by omega) (by omega) (by omega) (by omega) (by omega)]
                exact cb i h1 (by omega))
            (q6 _ (by omega) (by omega) (by omega) (by omega) (by omega)) (by rw [q6 _ (by omega) (by omega) (by omega) (by omega) (by omega), azUp_nb (by omega)]) (fun b b1 b2 b3 b4 => by rw [q6 b (by omega) (by omega) (by omega) (by omega) (by omega)]; exact z2 b b1 b2 b3 b4)
          exact this
        · have en : numS 60 S (f, p) M = (S, none) := by unfold numS; rw [hi]; dsimp only; rw [if_neg (by omega)]
          simp (disch := omega) only [nI_ad, nI_ml, nI_lti, nI_lei, nI_eqi, nI_nn, nI_0le, nI_eq0, nI_0lt, nI_le0, nI_clamp, nI_pd, nI_sb, zOf_some, zOp_some, zOp_none, kI_int, kL_long, kO_ref, kO_null, nlt_T, nlt_F, nle_T, nle_F, neq_F, vpT, azUp_at, if_true, if_false, true_and, and_true, true_implies, false_implies, implies_true, not_true_eq_false, not_false_eq_true, true_or, or_true, false_or, or_false, and_false, false_and, eq_self, n01_0, n01_1, nm1_0, k5]
          have := fin _ none (by rw [en]) (by rw [en, hfr _ (by omega) (by omega) (by omega) (by omega) (by omega) (by omega) (by omega)]; exact c7) (fun i hi => by rw [en] at hi ⊢; have hi : i < S.1.length := hi; exact (cf i hi).keep (hfr _ (by omega) (by omega) (by omega) (by omega) (by omega) (by omega) (by omega)) (hfr _ (by omega) (by omega) (by omega) (by omega) (by omega) (by omega) (by omega))) (fun i h1 h2 => by rw [en] at h2 ⊢; have h2 : i < S.1.length := h2; rw [hfr _ (by omega) (by omega) (by omega) (by omega) (by omega) (by omega) (by omega), hfr _ (by omega) (by omega) (by omega) (by omega) (by omega) (by omega) (by omega)]; exact cb i h1 h2) rfl (azUp_nb (by omega)) z2
          exact this
      cases hr : rs p with
      | none =>
        have hFg := (hRs.2 p hp).1 hr
        simp (disch := omega) only [nI_ad, nI_ml, nI_lti, nI_lei, nI_eqi, nI_nn, nI_0le, nI_eq0, nI_0lt, nI_le0, nI_clamp, nI_pd, nI_sb, zOf_some, zOp_some, zOp_none, kI_int, kL_long, kO_ref, kO_null, nlt_T, nlt_F, nle_T, nle_F, neq_F, vpT, azUp_at, if_true, if_false, true_and, and_true, true_implies, false_implies, implies_true, not_true_eq_false, not_false_eq_true, true_or, or_true, false_or, or_false, and_false, false_and, eq_self, n01_0, n01_1, nm1_0, kg, k0, f5, k5, hFg, f0, k1, g1, f1, kF]
        refine S_goesNull hR ?_
        simp (disch := omega) only [nI_ad, nI_ml, nI_lti, nI_lei, nI_eqi, nI_nn, nI_0le, nI_eq0, nI_0lt, nI_le0, nI_clamp, nI_pd, nI_sb, zOf_some, zOp_some, zOp_none, kI_int, kL_long, kO_ref, kO_null, nlt_T, nlt_F, nle_T, nle_F, neq_F, vpT, azUp_at, if_true, if_false, true_and, and_true, true_implies, false_implies, implies_true, not_true_eq_false, not_false_eq_true, true_or, or_true, false_or, or_false, and_false, false_and, eq_self, n01_0, n01_1, nm1_0]
        exact no (by unfold pfire; rw [hr]) _ fun c _ _ _ _ _ => rfl
      | some cs =>
        obtain ⟨r, hFg, hlo, hM, hcR, hrl⟩ := (hRs1.2 p hp).2 cs hr
        have epf : pfire rs p (S.1.getD f mNil) = fire cs (S.1.getD f mNil) := by unfold pfire; rw [hr]
        simp (disch := omega) only [nI_ad, nI_ml, nI_lti, nI_lei, nI_eqi, nI_nn, nI_0le, nI_eq0, nI_0lt, nI_le0, nI_clamp, nI_pd, nI_sb, zOf_some, zOp_some, zOp_none, kI_int, kL_long, kO_ref, kO_null, nlt_T, nlt_F, nle_T, nle_F, neq_F, vpT, azUp_at, if_true, if_false, true_and, and_true, true_implies, false_implies, implies_true, not_true_eq_false, not_false_eq_true, true_or, or_true, false_or, or_false, and_false, false_and, eq_self, n01_0, n01_1, nm1_0, kg, k0, f5, k5, hFg, f0, k1, g1, f1, kF]
        refine S_goes hR hF hM g2 kn (by omega) (by omega) (by omega) (by omega) (by omega) (hfm.keep (azUp_nb (by omega)) (azUp_nb (by omega))) hfv (hcR.keep fun b b1 b2 => azUp_nb (by omega)) hrl fun I2 q1 q2 => ?_
        rw [← epf] at q2 ⊢
        cases e : pfire rs p (S.1.getD f mNil) with
        | none =>
          rw [Option.isSome_none, if_neg (by decide)]
          simp (disch := omega) only [nI_ad, nI_ml, nI_lti, nI_lei, nI_eqi, nI_nn, nI_0le, nI_eq0, nI_0lt, nI_le0, nI_clamp, nI_pd, nI_sb, zOf_some, zOp_some, zOp_none, kI_int, kL_long, kO_ref, kO_null, nlt_T, nlt_F, nle_T, nle_F, neq_F, vpT, azUp_at, if_true, if_false, true_and, and_true, true_implies, false_implies, implies_true, not_true_eq_false, not_false_eq_true, true_or, or_true, false_or, or_false, and_false, false_and, eq_self, n01_0, n01_1, nm1_0]
          exact no e I2 q1
        | some M =>
          have e187 : I2 (a + 187) f = nI (abl S.2.2 f p) := by rw [q1 _ (by omega) (by omega) (by omega) (by omega) (by omega), azUp_nb (by omega)]; exact haf
          rw [Option.isSome_some, if_pos rfl]
          simp (disch := omega) only [nI_ad, nI_ml, nI_lti, nI_lei, nI_eqi, nI_nn, nI_0le, nI_eq0, nI_0lt, nI_le0, nI_clamp, nI_pd, nI_sb, zOf_some, zOp_some, zOp_none, kI_int, kL_long, kO_ref, kO_null, nlt_T, nlt_F, nle_T, nle_F, neq_F, vpT, azUp_at, if_true, if_false, true_and, and_true, true_implies, false_implies, implies_true, not_true_eq_false, not_false_eq_true, true_or, or_true, false_or, or_false, and_false, false_and, eq_self, n01_0, n01_1, nm1_0, k0, f4, k4, f5, e187, nI_bit, nI_or]
          exact yes M e I2 q1 (q2 M e)
  obtain ⟨g1, g2⟩ := kf 0 (by omega)
  have kb3 : (kd (a + 2 + 3 * 0)).1 = 3 := by rw [g2.1]
  refine BX7_search_0 hR ?_
  simp (disch := omega) only [nI_ad, nI_ml, nI_lti, nI_lei, nI_eqi, nI_nn, nI_0le, nI_eq0, nI_0lt, nI_le0, nI_clamp, nI_pd, nI_sb, zOf_some, zOp_some, zOp_none, kI_int, kL_long, kO_ref, kO_null, nlt_T, nlt_F, nle_T, nle_F, neq_F, vpT, azUp_at, if_true, if_false, true_and, and_true, true_implies, false_implies, implies_true, not_true_eq_false, not_false_eq_true, true_or, or_true, false_or, or_false, and_false, false_and, eq_self, n01_0, n01_1, nm1_0, k0, f0, k1, g1, kb3]
  refine S_copy hR g2 hN (by omega) hm hv fun I1 q1 q2 => ⟨rfl, ?_⟩
  simp (disch := omega) only [nI_ad, nI_ml, nI_lti, nI_lei, nI_eqi, nI_nn, nI_0le, nI_eq0, nI_0lt, nI_le0, nI_clamp, nI_pd, nI_sb, zOf_some, zOp_some, zOp_none, kI_int, kL_long, kO_ref, kO_null, nlt_T, nlt_F, nle_T, nle_F, neq_F, vpT, azUp_at, if_true, if_false, true_and, and_true, true_implies, false_implies, implies_true, not_true_eq_false, not_false_eq_true, true_or, or_true, false_or, or_false, and_false, false_and, eq_self, n01_0, n01_1, nm1_0, k0, f2, k2, f3, k3]
  refine BX7_search_32 hR ?_
  simp (disch := omega) only [nI_ad, nI_ml, nI_lti, nI_lei, nI_eqi, nI_nn, nI_0le, nI_eq0, nI_0lt, nI_le0, nI_clamp, nI_pd, nI_sb, zOf_some, zOp_some, zOp_none, kI_int, kL_long, kO_ref, kO_null, nlt_T, nlt_F, nle_T, nle_F, neq_F, vpT, azUp_at, if_true, if_false, true_and, and_true, true_implies, false_implies, implies_true, not_true_eq_false, not_false_eq_true, true_or, or_true, false_or, or_false, and_false, false_and, eq_self, n01_0, n01_1, nm1_0, k0, f4, k4, azUp_s]
  have hz1 : ∀ b, b ≠ a → b ≠ a + 185 → b ≠ a + 186 → b ≠ a + 187 → azUp (azUp (azUp (azUp I1 (a + 185) 0 (-(nI 1))) (a + 186) 0 (-(nI 1))) a 7 (nI 1)) (a + 187) 0 (nI 0) b = I1 b := fun b h1 h2 h3 h4 => by rw [azUp_nb h4, azUp_nb h1, azUp_nb h3, azUp_nb h2]
  refine main 600 ([m], [(0, 0)], []) _ 0 0 rfl rfl (by omega) Nat.one_pos ⟨Nat.one_pos, (by show 1 ≤ 60; omega), rfl, fun x hx => by rw [List.mem_singleton] at hx; subst hx; exact hv, fun i h1 h2 => by simp at h2; omega, fun j hj => absurd hj List.not_mem_nil⟩ ⟨?_, fun i hi => ?_, fun i h1 h2 => ?_, fun k hk => absurd hk (Nat.not_lt_zero _)⟩ (fun i hi => absurd hi (Nat.not_lt_zero _)) ?_ (fun b b1 b2 b3 b4 => ?_) rfl
  · rw [azUp_nb (by omega), azUp_s]; rfl
  · have hi : i < 1 := hi
    obtain rfl : i = 0 := by omega
    exact q1.keep (hz1 _ (by omega) (by omega) (by omega) (by omega)) (hz1 _ (by omega) (by omega) (by omega) (by omega))
  · have h2 : i < 1 := h2
    omega
  · rw [azUp_s]; rfl
  · rw [hz1 b (by omega) (by omega) (by omega) (by omega), q2 b (by omega) (by omega)]
end S7
