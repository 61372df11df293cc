/-! THE REFERENCE: goes, the whole. -/
section S9
variable {R : azP} {d n z : Nat} {kd : azK} {I : azI} {J : azJ} {F : azR} {Q : azQ} {cs : List Cls} {t : List Nat} {m : Mk} {b : Nat}
theorem frH.refl (h : I 228 12 = -(nI 1)) : frH I I := ⟨fun _ _ _ _ => rfl, fun _ _ _ => rfl, h⟩
theorem frH.trans {I I1 I2 : azI} (h1 : frH I I1) (h2 : frH I1 I2) : frH I I2 := ⟨fun c a b e => by rw [h2.1 c a b e, h1.1 c a b e], fun j a b => by rw [h2.2.1 j a b, h1.2.1 j a b], h2.2.2⟩
theorem frH.up {I I1 : azI} {a k : Nat} {v : Int32} (h1 : frH I I1) (ha : a = 240 ∨ a = 244) : frH I (azUp I1 a k v) := ⟨fun c c1 c2 c3 => by rw [azUp_nb (by omega)]; exact h1.1 c c1 c2 c3, fun j a b => by rw [azUp_nb (by omega)]; exact h1.2.1 j a b, by rw [azUp_nb (by omega)]; exact h1.2.2⟩
theorem frH.of {I I1 I2 : azI} (h1 : frH I I1) (h : ∀ c, c ≠ 240 → c ≠ 244 → I2 c = I1 c) : frH I I2 := ⟨fun c c1 c2 c3 => by rw [h c c2 c3]; exact h1.1 c c1 c2 c3, fun j a b => by rw [h 228 (by decide) (by decide)]; exact h1.2.1 j a b, by rw [h 228 (by decide) (by decide)]; exact h1.2.2⟩
/-- what is taken leaves its place, and places are emptied -/
theorem S_leaves9 (hR : azClosed R) (hK : MdOk kd F) (hv : mOK m) {E : Nat → List Int32} (hE : ∀ p, (E p).length ≤ 6) (hr : I 228 21 = nI (rBits cs)) (hrb : rBits cs < 1024) {x1 : Nat} (hQ : ∀ I', frH I I' → I' 240 = I 240 → cRw (I' 244) (fun p => kpF ((rBits cs).testBit p) (E p)) → R (d + 25) mX9_goes 192 [.ref 228, .int (nI x1), .ref b, .int (nI 1), .int (nI 0)] [] ((n, z, kd), I', J, F) Q) : ∀ (s p : Nat) (I1 : azI) (w4 : Value), s + p = 10 → frH I I1 → I1 240 = I 240 → cRw (I1 244) (fun q => if q < p then kpF ((rBits cs).testBit q) (E q) else E q) → R (d + 25) mX9_goes 114 [.ref 228, .int (nI x1), .ref b, .int (nI p), w4] [] ((n, z, kd), I1, J, F) Q := by
  have ⟨k0, ⟨k220, k221, k222, k223, k224, k225, k226, k227, k228, k229, k230, k231⟩, ⟨k232, k233, k234, k235, _⟩, ⟨f0, f1, f2, f3, f7, f9, f14, f15, f17, f18, f20, f23⟩, ⟨f26, f28, f29, f30, _⟩⟩ := id hK
  have hng := m1_neg
  intro s
  induction s with
  | zero =>
    intro p I1 w4 hs hf h231 hc
    obtain rfl : p = 10 := by omega
    have := hQ I1 hf h231 (hc.cong fun q hq => by rw [if_pos hq])
    refine BX9_goes_114 hR ?_
    simp (disch := omega) only [nI_ad, nI_ml, nI_lti, nI_lei, nI_eqi, nI_nn, nI_0le, nI_eq0, nI_0lt, nI_le0, nI_clamp, nI_pd, nI_sb, zOf_some, zOp_some, zOp_none, kI_int, kL_long, kO_ref, kO_null, nlt_T, nlt_F, nle_T, nle_F, neq_F, vpT, azUp_at, if_true, if_false, true_and, and_true, true_implies, false_implies, implies_true, not_true_eq_false, not_false_eq_true, true_or, or_true, false_or, or_false, and_false, false_and, eq_self, n01_0, n01_1, nm1_0]
    exact this
  | succ s ih =>
    intro p I1 w4 hs hf h231 hc
    have hp : p < 10 := by omega
    have hl6 := hE p
    have inn : ∀ (i : Nat) (I2 : azI) (v : Int32), i ≤ 6 → v = nI i + -(nI 1) → frH I I2 → I2 240 = I 240 → cRw (I2 244) (fun q => if q < p then kpF ((rBits cs).testBit q) (E q) else if q = p then (E p).take i ++ kpF ((rBits cs).testBit p) ((E p).drop i) else E q) → R (d + 25) mX9_goes 123 [.ref 228, .int (nI x1), .ref b, .int (nI p), .int v] [] ((n, z, kd), I2, J, F) Q := by
      intro i
      induction i with
      | zero =>
        intro I2 v hi ev hf2 h2 hc2
        have ev : v = -(nI 1) := by rw [ev]; decide
        subst ev
        have := ih (p + 1) I2 (.int (-(nI 1))) (by omega) hf2 h2 (hc2.cong fun q hq => by
          by_cases c1 : q < p
          · rw [if_pos c1, if_pos (by omega)]
          · by_cases c2 : q = p
            · subst c2
              rw [if_neg c1, if_pos (by omega), if_pos rfl]
              rfl
            · rw [if_neg c1, if_neg c2, if_neg (by omega)])
        refine BX9_goes_123 hR ?_
        simp (disch := omega) only [nI_ad, nI_ml, nI_lti, nI_lei, nI_eqi, nI_nn, nI_0le, nI_eq0, nI_0lt, nI_le0, nI_clamp, nI_pd, nI_sb, zOf_some, zOp_some, zOp_none, kI_int, kL_long, kO_ref, kO_null, nlt_T, nlt_F, nle_T, nle_F, neq_F, vpT, azUp_at, if_true, if_false, true_and, and_true, true_implies, false_implies, implies_true, not_true_eq_false, not_false_eq_true, true_or, or_true, false_or, or_false, and_false, false_and, eq_self, n01_0, n01_1, nm1_0, hng]
        exact this
      | succ i ihi =>
        intro I2 v hi ev hf2 h2 hc2
        have ev : v = nI i := by rw [ev, nI_pd (by omega)]; rfl
        subst ev
        have hbt := nBitV _ hrb p hp
        have e21 : I2 228 21 = nI (rBits cs) := by rw [hf2.2.1 21 (by decide) (by decide)]; exact hr
        have hrow := hc2 p hp
        dsimp only at hrow
        rw [if_neg (Nat.lt_irrefl p), if_pos rfl] at hrow
        by_cases c : i < (E p).length
        · -- a token is there
          have et : (E p).take (i + 1) = (E p).take i ++ [(E p)[i]] := by
            rw [List.take_succ, List.getElem?_eq_getElem c]; rfl
          have ed : (E p).drop i = (E p)[i] :: (E p).drop (i + 1) := List.drop_eq_getElem_cons c
          have elt : ((E p).take i).length = i := by rw [List.length_take]; omega
          generalize hx : (E p)[i] = x at et ed
          have hel := hrow.2 i (by omega)
          rw [et, List.append_assoc] at hel hrow
          have eget : ((E p).take i ++ ([x] ++ kpF ((rBits cs).testBit p) ((E p).drop (i + 1)))).getD i 0 = x := by
            rw [List.getD_eq_getElem?_getD, List.getElem?_append_right (by omega), elt, Nat.sub_self]; rfl
          rw [eget] at hel
          have hlen : ((E p).take i ++ ([x] ++ kpF ((rBits cs).testBit p) ((E p).drop (i + 1)))).length ≤ 6 := by
            have := List.length_filter_le (fun x => !(decide (x < 0)) && !((rBits cs).testBit p)) ((E p).drop (i + 1))
            rw [List.length_drop] at this
            have this : (kpF ((rBits cs).testBit p) ((E p).drop (i + 1))).length ≤ (E p).length - (i + 1) := this
            rw [List.length_append, elt, List.length_append]
            simp only [List.length_cons, List.length_nil]
            omega
          have hil : i < ((E p).take i ++ ([x] ++ kpF ((rBits cs).testBit p) ((E p).drop (i + 1)))).length := by
            rw [List.length_append, elt, List.length_append]
            simp only [List.length_cons, List.length_nil]
            omega
          have her : ((E p).take i ++ ([x] ++ kpF ((rBits cs).testBit p) ((E p).drop (i + 1)))).eraseIdx i = (E p).take i ++ kpF ((rBits cs).testBit p) ((E p).drop (i + 1)) := by
            rw [List.eraseIdx_append_of_length_le (by omega), elt, Nat.sub_self]; rfl
          have rem : (x < 0 ∨ (rBits cs).testBit p = true) → R (d + 24) mX9_removes 0 [.ref 244, .int (nI p), .int (nI i), .retAddr 0] [] ((n, z, kd), I2, J, F) fun v6 s7 => v6 = none ∧ R (d + 25) mX9_goes 123 [.ref 228, .int (nI x1), .ref b, .int (nI p), .int (nI i + -(nI 1))] [] s7 Q := by
            intro hb
            have ek : kpF ((rBits cs).testBit p) ((E p).drop i) = kpF ((rBits cs).testBit p) ((E p).drop (i + 1)) := by
              rw [ed]
              unfold kpF
              rw [List.filter_cons, if_neg]
              rcases hb with hb | hb
              · rw [decide_eq_true hb]; simp
              · rw [hb]; simp
            refine S_removes9 hR k235 hp (by omega) fun I3 u1 u2 => ⟨rfl, ?_⟩
            refine ihi I3 _ (by omega) rfl (hf2.of fun c _ c2 => u1 c c2) (by rw [u1 240 (by decide)]; exact h2) ?_
            have hcc := hc2.erase (p := p) (i := i) (by rw [if_neg (Nat.lt_irrefl p), if_pos rfl, et, List.append_assoc]; exact hlen) (by rw [if_neg (Nat.lt_irrefl p), if_pos rfl, et, List.append_assoc]; exact hil) u2 hp
            refine hcc.cong fun q hq => ?_
            by_cases c2 : q = p
            · subst c2
              rw [if_neg (Nat.lt_irrefl q), if_pos rfl, if_pos rfl, if_neg (Nat.lt_irrefl q), if_pos rfl, et, List.append_assoc, her, ek]
            · rw [if_neg c2, if_neg c2, if_neg c2]
          refine BX9_goes_123 hR ?_
          simp (disch := omega) only [nI_ad, nI_ml, nI_lti, nI_lei, nI_eqi, nI_nn, nI_0le, nI_eq0, nI_0lt, nI_le0, nI_clamp, nI_pd, nI_sb, zOf_some, zOp_some, zOp_none, kI_int, kL_long, kO_ref, kO_null, nlt_T, nlt_F, nle_T, nle_F, neq_F, vpT, azUp_at, if_true, if_false, true_and, and_true, true_implies, false_implies, implies_true, not_true_eq_false, not_false_eq_true, true_or, or_true, false_or, or_false, and_false, false_and, eq_self, n01_0, n01_1, nm1_0, k0, f30]
          refine S_at9 hR ?_
          simp (disch := omega) only [nI_ad, nI_ml, nI_lti, nI_lei, nI_eqi, nI_nn, nI_0le, nI_eq0, nI_0lt, nI_le0, nI_clamp, nI_pd, nI_sb, zOf_some, zOp_some, zOp_none, kI_int, kL_long, kO_ref, kO_null, nlt_T, nlt_F, nle_T, nle_F, neq_F, vpT, azUp_at, if_true, if_false, true_and, and_true, true_implies, false_implies, implies_true, not_true_eq_false, not_false_eq_true, true_or, or_true, false_or, or_false, and_false, false_and, eq_self, n01_0, n01_1, nm1_0, k0, k235, f30, hel, e21, hbt]
          refine ⟨fun hx0 => rem (Or.inl hx0), fun hx0 => ?_⟩
          by_cases cb : (rBits cs).testBit p = true
          · rw [if_pos cb]
            simp (disch := omega) only [nI_ad, nI_ml, nI_lti, nI_lei, nI_eqi, nI_nn, nI_0le, nI_eq0, nI_0lt, nI_le0, nI_clamp, nI_pd, nI_sb, zOf_some, zOp_some, zOp_none, kI_int, kL_long, kO_ref, kO_null, nlt_T, nlt_F, nle_T, nle_F, neq_F, vpT, azUp_at, if_true, if_false, true_and, and_true, true_implies, false_implies, implies_true, not_true_eq_false, not_false_eq_true, true_or, or_true, false_or, or_false, and_false, false_and, eq_self, n01_0, n01_1, nm1_0, hrow.1]
            exact rem (Or.inr cb)
          · rw [if_neg cb]
            simp (disch := omega) only [nI_ad, nI_ml, nI_lti, nI_lei, nI_eqi, nI_nn, nI_0le, nI_eq0, nI_0lt, nI_le0, nI_clamp, nI_pd, nI_sb, zOf_some, zOp_some, zOp_none, kI_int, kL_long, kO_ref, kO_null, nlt_T, nlt_F, nle_T, nle_F, neq_F, vpT, azUp_at, if_true, if_false, true_and, and_true, true_implies, false_implies, implies_true, not_true_eq_false, not_false_eq_true, true_or, or_true, false_or, or_false, and_false, false_and, eq_self, n01_0, n01_1, nm1_0]
            refine ihi I2 _ (by omega) rfl hf2 h2 (hc2.cong fun q hq => ?_)
            by_cases c2 : q = p
            · subst c2
              have ek : kpF ((rBits cs).testBit q) ((E q).drop i) = x :: kpF ((rBits cs).testBit q) ((E q).drop (i + 1)) := by
                rw [ed]
                unfold kpF
                rw [List.filter_cons, if_pos]
                rw [decide_eq_false hx0, Bool.not_eq_true _ |>.mp cb]
                rfl
              rw [if_neg (Nat.lt_irrefl q), if_pos rfl, if_neg (Nat.lt_irrefl q), if_pos rfl, et, List.append_assoc, ek]
              rfl
            · rw [if_neg c2, if_neg c2]
        · -- no token is there
          have e1 : (E p).take (i + 1) = E p := List.take_of_length_le (by omega)
          have e2 : (E p).take i = E p := List.take_of_length_le (by omega)
          have e3 : (E p).drop (i + 1) = [] := List.drop_eq_nil_of_le (by omega)
          have e4 : (E p).drop i = [] := List.drop_eq_nil_of_le (by omega)
          have ek : kpF ((rBits cs).testBit p) [] = [] := rfl
          have hel := hrow.2 i (by omega)
          have hl := hrow.1
          rw [e1, e3, ek, List.append_nil] at hel hl
          rw [List.getD_eq_getElem?_getD, List.getElem?_eq_none (by omega), Option.getD_none] at hel
          have n0 : ¬ ((0 : Int32) < 0) := by decide
          have same := ihi I2 (nI i + -(nI 1)) (by omega) rfl hf2 h2 (hc2.cong fun q hq => by
            by_cases c2 : q = p
            · subst c2
              rw [if_pos rfl, if_pos rfl, e1, e2, e3, e4]
            · rw [if_neg c2, if_neg c2])
          refine BX9_goes_123 hR ?_
          simp (disch := omega) only [nI_ad, nI_ml, nI_lti, nI_lei, nI_eqi, nI_nn, nI_0le, nI_eq0, nI_0lt, nI_le0, nI_clamp, nI_pd, nI_sb, zOf_some, zOp_some, zOp_none, kI_int, kL_long, kO_ref, kO_null, nlt_T, nlt_F, nle_T, nle_F, neq_F, vpT, azUp_at, if_true, if_false, true_and, and_true, true_implies, false_implies, implies_true, not_true_eq_false, not_false_eq_true, true_or, or_true, false_or, or_false, and_false, false_and, eq_self, n01_0, n01_1, nm1_0, k0, f30]
          refine S_at9 hR ?_
          simp (disch := omega) only [nI_ad, nI_ml, nI_lti, nI_lei, nI_eqi, nI_nn, nI_0le, nI_eq0, nI_0lt, nI_le0, nI_clamp, nI_pd, nI_sb, zOf_some, zOp_some, zOp_none, kI_int, kL_long, kO_ref, kO_null, nlt_T, nlt_F, nle_T, nle_F, neq_F, vpT, azUp_at, if_true, if_false, true_and, and_true, true_implies, false_implies, implies_true, not_true_eq_false, not_false_eq_true, true_or, or_true, false_or, or_false, and_false, false_and, eq_self, n01_0, n01_1, nm1_0, k0, k235, f30, hel, e21, hbt, n0]
          by_cases cb : (rBits cs).testBit p = true
          · rw [if_pos cb]
            simp (disch := omega) only [nI_ad, nI_ml, nI_lti, nI_lei, nI_eqi, nI_nn, nI_0le, nI_eq0, nI_0lt, nI_le0, nI_clamp, nI_pd, nI_sb, zOf_some, zOp_some, zOp_none, kI_int, kL_long, kO_ref, kO_null, nlt_T, nlt_F, nle_T, nle_F, neq_F, vpT, azUp_at, if_true, if_false, true_and, and_true, true_implies, false_implies, implies_true, not_true_eq_false, not_false_eq_true, true_or, or_true, false_or, or_false, and_false, false_and, eq_self, n01_0, n01_1, nm1_0, hl]
            exact same
          · rw [if_neg cb]
            simp (disch := omega) only [nI_ad, nI_ml, nI_lti, nI_lei, nI_eqi, nI_nn, nI_0le, nI_eq0, nI_0lt, nI_le0, nI_clamp, nI_pd, nI_sb, zOf_some, zOp_some, zOp_none, kI_int, kL_long, kO_ref, kO_null, nlt_T, nlt_F, nle_T, nle_F, neq_F, vpT, azUp_at, if_true, if_false, true_and, and_true, true_implies, false_implies, implies_true, not_true_eq_false, not_false_eq_true, true_or, or_true, false_or, or_false, and_false, false_and, eq_self, n01_0, n01_1, nm1_0]
            exact same
    refine BX9_goes_114 hR ?_
    simp (disch := omega) only [nI_ad, nI_ml, nI_lti, nI_lei, nI_eqi, nI_nn, nI_0le, nI_eq0, nI_0lt, nI_le0, nI_clamp, nI_pd, nI_sb, zOf_some, zOp_some, zOp_none, kI_int, kL_long, kO_ref, kO_null, nlt_T, nlt_F, nle_T, nle_F, neq_F, vpT, azUp_at, if_true, if_false, true_and, and_true, true_implies, false_implies, implies_true, not_true_eq_false, not_false_eq_true, true_or, or_true, false_or, or_false, and_false, false_and, eq_self, n01_0, n01_1, nm1_0]
    refine inn 6 I1 _ (Nat.le_refl _) (by decide) hf h231 (hc.cong fun q hq => ?_)
    by_cases c1 : q < p
    · rw [if_pos c1, if_pos c1]
    · rw [if_neg c1, if_neg c1]
      by_cases c2 : q = p
      · subst c2
        rw [if_pos rfl, List.take_of_length_le hl6, List.drop_eq_nil_of_le hl6]
        exact List.append_nil _
      · rw [if_neg c2]
end S9
