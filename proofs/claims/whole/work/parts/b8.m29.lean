/-! THE REFERENCE: spell, clauses and rules. -/
theorem exShow_cmp {c : Nat} {a b : Ex} (hc : c = 60 ∨ c = 61 ∨ c = 62) (ha : 2 ≤ tgt a) (hb : 2 ≤ tgt b) : exShow (.branch c a b) = exShow a ++ c :: exShow b := by
  have e : exShow (.branch c a b) = bra (decide (tgt a < hof c)) (exShow a) ++ c :: bra (decide (tgt b ≤ hof c)) (exShow b) := rfl
  rw [e, hof_cmp hc, decide_eq_false (by omega), decide_eq_false (by omega)]
  rfl
section S9
variable {R : azP} {d n z : Nat} {kd : azK} {I : azI} {J : azJ} {F : azR} {Q : azQ} {t : List Nat} {cs : List Cls} {x1 : Int32}
theorem S_fin9 (hR : azClosed R) (hK : MdOk kd F) (htk : tOK t) (hx : txt I t) {x3 x4 x6 : Int32} {h0 q : Nat} (hh : 0 < h0) (hh2 : h0 < 100) (hq : q ≤ t.length) (hs : q = t.length ∨ tb t q = 59) (h : R (d + 1) mX9_spell 255 [.ref 228, .int x1, .int (nI q), .int x3, .int x4, .int (nI h0), .int x6] [] ((n, z, kd), I, J, F) Q) : R (d + 1) mX9_spell 138 [.ref 228, .int x1, .int (nI q), .int x3, .int x4, .int (nI h0), .int x6] [] ((n, z, kd), I, J, F) Q := by
  have ⟨k0, ⟨_, _, _, _, _, k225, _⟩, _, ⟨_, _, _, _, _, f9, _⟩, _⟩ := id hK
  have ht := htk.1
  have h0n : ¬ h0 = 0 := by omega
  have h' : R (d + 1) mX9_spell 215 [.ref 228, .int x1, .int (nI q), .int x3, .int x4, .int (nI h0), .int x6] [] ((n, z, kd), I, J, F) Q := by
    refine BX9_spell_215 hR ?_
    simp (disch := omega) only [nI_ad, nI_ml, nI_lti, nI_lei, nI_eqi, nI_nn, nI_0le, nI_eq0, nI_0lt, nI_le0, nI_clamp, nI_pd, nI_sb, zOf_some, zOp_some, zOp_none, kI_int, kL_long, kO_ref, kO_null, nlt_T, nlt_F, nle_T, nle_F, neq_F, vpT, azUp_at, if_true, if_false, true_and, and_true, true_implies, false_implies, implies_true, not_true_eq_false, not_false_eq_true, true_or, or_true, false_or, or_false, and_false, false_and, eq_self, n01_0, n01_1, nm1_0, h0n]
    exact h
  refine BX9_spell_138 hR ?_
  by_cases c : q = t.length
  · subst c
    simp (disch := omega) only [nI_ad, nI_ml, nI_lti, nI_lei, nI_eqi, nI_nn, nI_0le, nI_eq0, nI_0lt, nI_le0, nI_clamp, nI_pd, nI_sb, zOf_some, zOp_some, zOp_none, kI_int, kL_long, kO_ref, kO_null, nlt_T, nlt_F, nle_T, nle_F, neq_F, vpT, azUp_at, if_true, if_false, true_and, and_true, true_implies, false_implies, implies_true, not_true_eq_false, not_false_eq_true, true_or, or_true, false_or, or_false, and_false, false_and, eq_self, n01_0, n01_1, nm1_0, k0, hx.1, h0n]
    exact h'
  · have e := hs.resolve_left c
    have el : I 234 q = nI (tb t q) := hx.2.get (by omega)
    rw [e] at el
    simp (disch := omega) only [nI_ad, nI_ml, nI_lti, nI_lei, nI_eqi, nI_nn, nI_0le, nI_eq0, nI_0lt, nI_le0, nI_clamp, nI_pd, nI_sb, zOf_some, zOp_some, zOp_none, kI_int, kL_long, kO_ref, kO_null, nlt_T, nlt_F, nle_T, nle_F, neq_F, vpT, azUp_at, if_true, if_false, true_and, and_true, true_implies, false_implies, implies_true, not_true_eq_false, not_false_eq_true, true_or, or_true, false_or, or_false, and_false, false_and, eq_self, n01_0, n01_1, nm1_0, k0, hx.1, h0n, f9, k225, el]
    exact h'
theorem S_cnds9 (hR : azClosed R) (hK : MdOk kd F) (htk : tOK t) {x3 x4 : Int32} {kb k : Nat} {g0 : List Nat} (hg0 : g0.length ≤ k) : ∀ (m : Nat) (l : List Ex) (p : Nat) (I1 : azI) (x6 : Int32) (x : List Ex × Nat), pCs kb t m l p = .ok x → p ≤ t.length → x.2 ≤ t.length → (x.2 = t.length ∨ tb t x.2 = 59) → fL l + (if l = [] then 0 else 1) + k ≤ p → txt I1 t → cP9 I1 (g0 ++ fS l ++ if l = [] then [] else [38]) → (∀ I' x6', frP9 I1 I' → cP9 I' (g0 ++ fS x.1) → R (d + 83) mX9_spell 138 [.ref 228, .int x1, .int (nI x.2), .int x3, .int x4, .int (nI 3), .int x6'] [] ((n, z, kd), I', J, F) Q) → R (d + 83) mX9_spell 138 [.ref 228, .int x1, .int (nI p), .int x3, .int x4, .int (nI 3), .int x6] [] ((n, z, kd), I1, J, F) Q := by
  have ht := htk.1
  intro m
  induction m with
  | zero => intro l p I1 x6 x e; cases e
  | succ m ih =>
    intro l p I1 x6 x e hp hxl hs hl hx hg h
    have e1 : pCs kb t (m + 1) l p = pb (pC kb t p) fun x => if tb t x.2 = 38 then pCs kb t m (l ++ [x.1]) (x.2 + 1) else .ok (l ++ [x.1], x.2) := rfl
    rw [e1] at e
    obtain ⟨u, eu, e2⟩ := pb_inv e
    have gC := sg_C (kb := kb) (t := t) p
    rw [eu] at gC
    obtain ⟨gC1, gC2⟩ := gC
    unfold pC at eu
    obtain ⟨y, ey, e3⟩ := pb_inv eu
    have py := PG_X (kb := kb) (t := t) p hp
    rw [ey] at py
    have sy := sg_X (kb := kb) (t := t) p
    rw [ey] at sy
    obtain ⟨sy1, sy2⟩ := sy
    obtain ⟨py1, py2, py3, _⟩ := py
    by_cases cc : tb t y.2 = 60 ∨ tb t y.2 = 61 ∨ tb t y.2 = 62
    · rw [if_pos cc] at e3
      have hyl := tb_len (t := t) (i := y.2) (by omega)
      obtain ⟨w, ew, e4⟩ := pb_inv e3
      cases e4
      dsimp only at gC1 gC2 e2
      have pw := PG_X (kb := kb) (t := t) (y.2 + 1) (by omega)
      rw [ew] at pw
      have sw := sg_X (kb := kb) (t := t) (y.2 + 1)
      rw [ew] at sw
      obtain ⟨sw1, sw2⟩ := sw
      obtain ⟨pw1, pw2, pw3, _⟩ := pw
      have hgl : (g0 ++ fS l ++ if l = [] then [] else [38]).length ≤ p := by
        rw [List.length_append, List.length_append, fS_len]
        have : (if l = [] then ([] : List Nat) else [38]).length = if l = [] then 0 else 1 := by split <;> rfl
        omega
      have efs := fS_add l (.branch (tb t y.2) y.1 w.1) (by omega)
      rw [exShow_cmp cc sy1 sw1] at efs
      have efl := fL_add l (.branch (tb t y.2) y.1 w.1) (by omega)
      refine S_seg9 hR hK htk hx (by decide) (by decide) (pX_sg _ _ ey) (by omega) (by omega) (Or.inr (Or.inr (Or.inr cc))) hg (by omega) (fun e => by omega) fun _ _ I2 u1 u2 => ?_
      have hx2 := u1.txt hx
      have hg2 : (g0 ++ fS l ++ (if l = [] then [] else [38]) ++ exShow y.1 ++ [tb t y.2]).length ≤ y.2 + 1 := by
        rw [List.length_append, List.length_append, List.length_cons, List.length_nil]
        omega
      have hst : stB t w.2 := by
        by_cases c38 : tb t w.2 = 38
        · exact Or.inr (Or.inr (Or.inl c38))
        · rw [if_neg c38] at e2
          cases e2
          rcases hs with hs | hs
          · exact Or.inl hs
          · exact Or.inr (Or.inl hs)
      refine S_seg9 hR hK htk hx2 (by decide) (by decide) (pX_sg _ _ ew) (by omega) (by omega) hst u2 (by omega) (fun c59 I3 v1 v2 => ?_) fun w1 w2 I3 v1 v2 => ?_
      · rw [if_neg (by
          rcases c59 with c | c
          · rw [tb_0 (by omega)]; decide
          · omega)] at e2
        cases e2
        refine h I3 _ (u1.trans v1) ?_
        rw [efs]
        simpa only [List.append_assoc, List.cons_append, List.nil_append] using v2
      · by_cases c38 : tb t w.2 = 38
        · rw [if_pos c38] at e2
          refine ih _ _ I3 _ x e2 (by omega) hxl hs ?_ ((u1.trans v1).txt hx) ?_ fun I' x6' y1 y2 => h I' x6' ((u1.trans v1).trans y1) y2
          · rw [efl, if_neg (show l ++ [_] ≠ [] by simp)]
            omega
          · rw [efs, if_neg (show l ++ [_] ≠ [] by simp)]
            rw [c38] at v2
            simpa only [List.append_assoc, List.cons_append, List.nil_append] using v2
        · exfalso
          rw [if_neg c38] at e2
          cases e2
          rcases hs with hs | hs
          · dsimp only at hs; omega
          · exact w2 hs
    · rw [if_neg cc] at e3; cases e3
end S9
