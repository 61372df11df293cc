/-! THE REFERENCE: clause. -/
theorem pCs4 {kb : Nat} {t : List Nat} {k : Nat} : ∀ (n : Nat) (l : List Ex) (i : Nat), i ≤ t.length → 4 * l.length + k ≤ i → ∀ x, pCs kb t n l i = .ok x → 4 * x.1.length + k ≤ x.2 + 1 := by
  intro n
  induction n with
  | zero => intro l i _ _ x h; cases h
  | succ n ih =>
    intro l i hi h x hx
    have e1 : pCs kb t (n + 1) l i = pb (pC kb t i) fun x => if tb t x.2 = 38 then pCs kb t n (l ++ [x.1]) (x.2 + 1) else .ok (l ++ [x.1], x.2) := rfl
    rw [e1] at hx
    have g3 := fun x => pC_3 (kb := kb) (t := t) hi (x := x)
    have gg := PG_C (kb := kb) (t := t) i hi
    revert hx g3 gg
    cases pC kb t i with
    | error f => intro hx; cases hx
    | ok y =>
      intro hx g3 gg
      have g3 := g3 y rfl
      have gl := gg.2.1
      rw [pb_ok] at hx
      have el : (l ++ [y.1]).length = l.length + 1 := by simp
      by_cases c : tb t y.2 = 38
      · rw [if_pos c] at hx
        have hjl := tb_len (t := t) (i := y.2) (by omega)
        exact ih _ _ hjl (by rw [el]; omega) x hx
      · rw [if_neg c] at hx
        cases hx
        dsimp only
        rw [el]; omega
section S9
variable {R : azP} {d n z : Nat} {kd : azK} {I : azI} {J : azJ} {F : azR} {Q : azQ} {t : List Nat} {kb : Nat} {cs : List Cls}
theorem pCl_1 {i : Nat} (hk : kOf t i (wEnd t 80 i) = 1) (hb : tb t (wEnd t 80 i) = 32) : pCl t cs i = pb (pCs (knB cs) t 79 [] (wEnd t 80 i + 1)) fun x => .ok ((1, 0, 0, x.1), x.2) := by
  unfold pCl
  rw [hk, if_neg (by omega), if_neg (fun q => q hb), if_pos rfl]
theorem pCl_3 {i : Nat} (hk : kOf t i (wEnd t 80 i) = 3) (hb : tb t (wEnd t 80 i) = 32) : pCl t cs i = if isFg (tb t (wEnd t 80 i + 1)) = false then .error (wEnd t 80 i + 1) else .ok ((3, tb t (wEnd t 80 i + 1) - 48, 0, []), wEnd t 80 i + 2) := by
  unfold pCl
  rw [hk, if_neg (by omega), if_neg (fun q => q hb), if_neg (by omega)]
  by_cases c1 : isFg (tb t (wEnd t 80 i + 1)) = false
  · rw [if_pos c1, if_pos c1]
  · rw [if_neg c1, if_neg c1, if_pos rfl]
theorem pCl_4 {i : Nat} (h : kOf t i (wEnd t 80 i) = 4 ∨ (kOf t i (wEnd t 80 i) = 0 ∧ 3 ≤ nTk cs) ∨ (kOf t i (wEnd t 80 i) = 2 ∧ 3 ≤ nGv cs)) : pCl t cs i = .error i := by
  unfold pCl
  rw [if_pos h]
theorem pCl_5 {i : Nat} (h : ¬ (kOf t i (wEnd t 80 i) = 4 ∨ (kOf t i (wEnd t 80 i) = 0 ∧ 3 ≤ nTk cs) ∨ (kOf t i (wEnd t 80 i) = 2 ∧ 3 ≤ nGv cs))) (hb : tb t (wEnd t 80 i) ≠ 32) : pCl t cs i = .error (wEnd t 80 i) := by
  unfold pCl
  rw [if_neg h, if_pos hb]
/-- conditions have four bytes each -/
theorem pCl4 {i : Nat} (hi : i ≤ t.length) (h4 : 4 * (conds cs).length ≤ i) {x : Cls × Nat} (hx : pCl t cs i = .ok x) : 4 * (conds (cs ++ [x.1])).length ≤ x.2 + 1 := by
  have w1 := wEnd_ge (t := t) 80 i
  have w2 := wEnd_le (t := t) 80 i hi
  have g := pgK_cl (cs := cs) hi
  rw [hx] at g
  rw [conds_add, List.length_append]
  by_cases c : x.1.1 = 1
  · rw [if_pos c]
    have hk4 := (kOf_len (t := t) (b := i) (e := wEnd t 80 i)).1
    by_cases c4 : kOf t i (wEnd t 80 i) = 4 ∨ (kOf t i (wEnd t 80 i) = 0 ∧ 3 ≤ nTk cs) ∨ (kOf t i (wEnd t 80 i) = 2 ∧ 3 ≤ nGv cs)
    · rw [pCl_4 c4] at hx; cases hx
    by_cases hb : tb t (wEnd t 80 i) = 32
    · by_cases k1 : kOf t i (wEnd t 80 i) = 1
      · rw [pCl_1 k1 hb] at hx
        have hjl := tb_len (t := t) (i := wEnd t 80 i) (by omega)
        have q := pCs4 (kb := knB cs) (t := t) (k := wEnd t 80 i + 1) 79 [] (wEnd t 80 i + 1) hjl (by simp)
        revert hx q
        cases pCs (knB cs) t 79 [] (wEnd t 80 i + 1) with
        | error f => intro hx; cases hx
        | ok y =>
          intro hx q
          have q := q y rfl
          rw [pb_ok] at hx
          cases hx
          dsimp only
          omega
      · exfalso
        by_cases k0 : kOf t i (wEnd t 80 i) = 0
        · rw [pCl_0 k0 (by omega) hb] at hx
          revert hx
          cases tcR t (wEnd t 80 i + 1) with
          | error f => intro hx; cases hx
          | ok y => intro hx; cases hx; exact absurd c (show ¬ (0 = 1) by decide)
        · by_cases k2 : kOf t i (wEnd t 80 i) = 2
          · rw [pCl_2 k2 (by omega) hb] at hx
            revert hx
            cases gcR (knB cs) t (wEnd t 80 i + 1) with
            | error f => intro hx; cases hx
            | ok y => intro hx; cases hx; exact absurd c (show ¬ (2 = 1) by decide)
          · rw [pCl_3 (by omega) hb] at hx
            by_cases c1 : isFg (tb t (wEnd t 80 i + 1)) = false
            · rw [if_pos c1] at hx; cases hx
            · rw [if_neg c1] at hx; cases hx; exact absurd c (show ¬ (3 = 1) by decide)
    · rw [pCl_5 c4 hb] at hx; cases hx
  · rw [if_neg c]
    have := g.1
    simp only [List.length_nil]
    omega
def clP (I : azI) (t : List Nat) (cs : List Cls) (S : azI → azS) (Q : azQ) : PR Cls → Prop
  | .ok x => ∀ I', frR I I' → rdM I' t (cs ++ [x.1]) → I' 228 11 = nI x.2 → I' 228 12 = -(nI 1) → I' 228 25 = nI 0 → Q none (S I')
  | .error f => ∀ I' j, frR I I' → I' 228 12 = nI f → I' 228 11 = nI j → j ≤ 80 → Q none (S I')
theorem S_clause9 (hR : azClosed R) (hK : MdOk kd F) (htk : tOK t) {i : Nat} (hx : txt I t) (e11 : I 228 11 = nI i) (e12 : I 228 12 = -(nI 1)) (hi : i ≤ t.length) (hrd : rdM I t cs) (hcs : csOK cs i) (h4 : 4 * (conds cs).length ≤ i) (hP : clP I t cs (fun I' => ((n, z, kd), I', J, F)) Q (pCl t cs i)) : R (d + 22) mX9_clause 0 [.ref 228, .retAddr 0, .retAddr 0] [] ((n, z, kd), I, J, F) Q := by
  have ⟨k0, ⟨k220, k221, k222, k223, k224, k225, k226, k227, k228, k229, k230, k231⟩, _, ⟨f0, f1, f2, f3, f7, f9, f14, f15, f17, f18, f20, f23⟩, _⟩ := hK
  have ht := htk.1
  have hng := m1_ng
  have hneg := m1_neg
  have w1 := wEnd_ge (t := t) 80 i
  have w2 := wEnd_le (t := t) 80 i hi
  have hk4 := (kOf_len (t := t) (b := i) (e := wEnd t 80 i)).1
  obtain ⟨q1, q2, q3, q4, q5, q6, q7, q8, q9⟩ := id hrd
  obtain ⟨c1, c2, c3, c4, c5, c6⟩ := hcs
  have c5' : knB cs < 8 := c5
  have big : (2925313 : Int32) = nI 2925313 := rfl
  refine BX9_clause_0 hR ⟨k0, k0, ?_⟩
  refine S_word9 hR hK htk hx e11 hi fun hl => ?_
  obtain ⟨v0, v1, v2, v3⟩ := wV_iff hl
  rw [show i + (wEnd t 80 i - i) = wEnd t 80 i by omega] at v0 v1 v2 v3
  rw [kI_int]
  generalize hA : azUp (azUp (azUp I 228 11 (nI (wEnd t 80 i))) 228 22 (nI (cs.length + 1))) 228 25 (nI 0) = A
  have eA : azUp (azUp (azUp I 228 11 (nI (wEnd t 80 i))) 228 22 (azUp I 228 11 (nI (wEnd t 80 i)) 228 22 + nI 1)) 228 25 (nI 0) = A := by
    rw [← hA, azUp_nk (by decide : 22 ≠ 11), q5, nI_ad]
  have hfA : frR I A := by rw [← hA]; exact ((frR.refl.up (by omega) (by omega)).up (by omega) (by omega)).up (by omega) (by omega)
  have eAj : ∀ j, j ≠ 11 → j ≠ 22 → j ≠ 25 → A 228 j = I 228 j := fun j a b c => by rw [← hA, azUp_nk c, azUp_nk b, azUp_nk a]
  have eAb : ∀ b, b ≠ 228 → A b = I b := fun b hb => by rw [← hA, azUp_nb hb, azUp_nb hb, azUp_nb hb]
  have eA11 : A 228 11 = nI (wEnd t 80 i) := by rw [← hA, azUp_nk (by decide), azUp_nk (by decide), azUp_s]
  have eA22 : A 228 22 = nI (cs.length + 1) := by rw [← hA, azUp_nk (by decide), azUp_s]
  have eA25 : A 228 25 = nI 0 := by rw [← hA, azUp_s]
  have eA12 : A 228 12 = -(nI 1) := by rw [eAj 12 (by decide) (by decide) (by decide)]; exact e12
  have eA24 : A 228 24 = nI (knB cs) := by rw [eAj 24 (by decide) (by decide) (by decide)]; exact q6
  have eA13 : A 228 13 = nI (nTk cs) := by rw [eAj 13 (by decide) (by decide) (by decide)]; exact q1
  have eA16 : A 228 16 = nI (nGv cs) := by rw [eAj 16 (by decide) (by decide) (by decide)]; exact q2
  have hcA : cu A t (knB cs) 5 (wEnd t 80 i) := ⟨hfA.txt hx, eA11, eA12, eA24, eA25⟩
  generalize hv : wV t i (wEnd t 80 i - i) = v at v0 v1 v2 v3
  generalize hk : kOf t i (wEnd t 80 i) = k at v0 v1 v2 v3 hk4
  generalize he : wEnd t 80 i = e at *
  -- a fault where the word begins
  have bad : pCl t cs i = .error i → R (d + 21) mX9_wrong 0 [.ref 228, .int (nI i)] [] ((n, z, kd), A, J, F) fun v4 s5 => v4 = none ∧ Q none s5 := by
    intro hp
    rw [hp] at hP
    refine S_wrong9 hR hK eA12 ⟨rfl, ?_⟩
    exact hP _ e (hfA.up (by omega) (by omega)) azUp_s (by rw [azUp_nk (by decide)]; exact eA11) (by omega)
  -- behind the word
  have s88 : ¬ (k = 4 ∨ (k = 0 ∧ 3 ≤ nTk cs) ∨ (k = 2 ∧ 3 ≤ nGv cs)) → R (d + 22) mX9_clause 88 [.ref 228, .int (nI i), .int v] [] ((n, z, kd), A, J, F) Q := by
    intro hn
    refine BX9_clause_88 hR ⟨k0, ?_⟩
    refine S_takes9 hR hK ht hcA (by omega) (by decide) htk (fun hb => ⟨rfl, ?_⟩) (fun hb => ⟨rfl, ?_⟩)
    · have l2 := tb_len (t := t) (i := e) (by omega)
      generalize hB : azUp A 228 11 (nI (e + 1)) = B
      have hfB : frR I B := by rw [← hB]; exact hfA.up (by omega) (by omega)
      have eBj : ∀ j, j ≠ 11 → B 228 j = A 228 j := fun j a => by rw [← hB, azUp_nk a]
      have eBb : ∀ b, b ≠ 228 → B b = A b := fun b hb => by rw [← hB, azUp_nb hb]
      have eB12 : B 228 12 = -(nI 1) := by rw [eBj 12 (by decide)]; exact eA12
      have hcB : cu B t (knB cs) 5 (e + 1) := ⟨hfB.txt hx, by rw [← hB, azUp_s], eB12, by rw [eBj 24 (by decide)]; exact eA24, by rw [eBj 25 (by decide)]; exact eA25⟩
      have oI : ∀ j, j ≠ 11 → j ≠ 22 → j ≠ 25 → B 228 j = I 228 j := fun j a b c => by rw [eBj j a, eAj j a b c]
      have oB : ∀ b, b ≠ 228 → B b = I b := fun b hb => by rw [eBb b hb, eAb b hb]
      simp (disch := omega) only [nI_ad, nI_ml, nI_lti, nI_lei, nI_eqi, nI_nn, nI_0le, nI_eq0, nI_0lt, nI_le0, nI_clamp, nI_pd, nI_sb, zOf_some, zOp_some, zOp_none, kI_int, kL_long, kO_ref, kO_null, nlt_T, nlt_F, nle_T, nle_F, neq_F, vpT, azUp_at, if_true, if_false, true_and, and_true, true_implies, false_implies, implies_true, not_true_eq_false, not_false_eq_true, true_or, or_true, false_or, or_false, and_false, false_and, eq_self, n01_0, n01_1, nm1_0, k0, eB12, hneg]
      refine ⟨fun n0 => ⟨fun n2 => ⟨fun n1 => ?_, fun n1 => ?_⟩, fun n2 => ?_⟩, fun n0 => ?_⟩
      · have k3 : k = 3 := by
          have a0 : ¬ k = 0 := fun q => n0 (v0.mpr q)
          have a1 : ¬ k = 1 := fun q => n1 (v1.mpr q)
          have a2 : ¬ k = 2 := fun q => n2 (v2.mpr q)
          have a4 : ¬ k = 4 := fun q => hn (Or.inl q)
          omega
        have hp := pCl_3 (t := t) (cs := cs) (i := i) (by rw [he, hk, k3]) (by rw [he]; exact hb)
        rw [he] at hp
        rw [hp] at hP
        refine S_figure9 hR hK ht hcB (by omega) htk (fun cf => ?_) (fun cf => ?_)
        · rw [cf, if_neg (by decide)] at hP
          have d1 := isFg_iff.mp cf
          have eB21 : B 228 21 = nI (rBits cs) := by rw [oI 21 (by decide) (by decide) (by decide)]; exact q4
          simp (disch := omega) only [nI_ad, nI_ml, nI_lti, nI_lei, nI_eqi, nI_nn, nI_0le, nI_eq0, nI_0lt, nI_le0, nI_clamp, nI_pd, nI_sb, zOf_some, zOp_some, zOp_none, kI_int, kL_long, kO_ref, kO_null, nlt_T, nlt_F, nle_T, nle_F, neq_F, vpT, azUp_at, if_true, if_false, true_and, and_true, true_implies, false_implies, implies_true, not_true_eq_false, not_false_eq_true, true_or, or_true, false_or, or_false, and_false, false_and, eq_self, n01_0, n01_1, nm1_0, k0, eB21, nI_bit, nI_or]
          refine hP _ ((hfB.up (by omega) (by omega)).up (by omega) (by omega)) ?_ ?_ ?_ ?_
          · refine hrd.emp azUp_s ?_ ?_ ?_ ?_ ?_ ?_ ?_ ?_ ?_ ?_
            · rw [azUp_nb (by decide), azUp_nb (by decide), oB 235 (by decide)]
            · rw [azUp_nb (by decide), azUp_nb (by decide), oB 236 (by decide)]
            · rw [azUp_nb (by decide), azUp_nb (by decide), oB 237 (by decide)]
            · rw [azUp_nb (by decide), azUp_nb (by decide), oB 238 (by decide)]
            · rw [azUp_nb (by decide), azUp_nb (by decide), oB 239 (by decide)]
            · rw [azUp_nk (by decide), azUp_nk (by decide), eBj 22 (by decide)]; exact eA22
            · rw [azUp_nk (by decide), azUp_nk (by decide), oI 13 (by decide) (by decide) (by decide)]
            · rw [azUp_nk (by decide), azUp_nk (by decide), oI 16 (by decide) (by decide) (by decide)]
            · rw [azUp_nk (by decide), azUp_nk (by decide), oI 24 (by decide) (by decide) (by decide)]
            · rw [azUp_nk (by decide), azUp_nk (by decide), oI 19 (by decide) (by decide) (by decide)]
          · rw [azUp_nk (by decide), azUp_s]
          · rw [azUp_nk (by decide), azUp_nk (by decide)]; exact eB12
          · rw [azUp_nk (by decide), azUp_nk (by decide), eBj 25 (by decide)]; exact eA25
        · rw [cf, if_pos rfl] at hP
          simp (disch := omega) only [nI_ad, nI_ml, nI_lti, nI_lei, nI_eqi, nI_nn, nI_0le, nI_eq0, nI_0lt, nI_le0, nI_clamp, nI_pd, nI_sb, zOf_some, zOp_some, zOp_none, kI_int, kL_long, kO_ref, kO_null, nlt_T, nlt_F, nle_T, nle_F, neq_F, vpT, azUp_at, if_true, if_false, true_and, and_true, true_implies, false_implies, implies_true, not_true_eq_false, not_false_eq_true, true_or, or_true, false_or, or_false, and_false, false_and, eq_self, n01_0, n01_1, nm1_0, k0]
          exact hP _ (e + 1) ((hfB.up (by omega) (by omega)).up (by omega) (by omega)) (by rw [azUp_nk (by decide), azUp_s]) (by rw [azUp_nk (by decide), azUp_nk (by decide)]; exact hcB.2.1) (by omega)
      · have k1 : k = 1 := v1.mp (Classical.not_not.mp n1)
        have hp := pCl_1 (t := t) (cs := cs) (i := i) (by rw [he, hk, k1]) (by rw [he]; exact hb)
        rw [he] at hp
        rw [hp] at hP
        have hcd : cdM B t (knB cs) (conds cs) := q9.keep (oB 239 (by decide)) kSub.refl
        refine S_conds9 hR hK htk c5' hcB l2 (by omega) hcd (by rw [oI 19 (by decide) (by decide) (by decide)]; exact q3) (by omega) ?_
        revert hP
        cases pCs (knB cs) t 79 [] (e + 1) with
        | error f =>
          intro hP I1 j g1 g2 g3 g4
          exact ⟨rfl, hP I1 j (hfB.trans (frR.ofC g1)) g2 g3 g4⟩
        | ok y =>
          intro hP I1 g1 g2 g3 g4 g5
          refine ⟨rfl, hP I1 (hfB.trans (frR.ofC g1)) ?_ g2 g3 ?_⟩
          · refine hrd.cond g4 g5 ?_ ?_ ?_ ?_ ?_ ?_ ?_ ?_ ?_
            · rw [g1.1 235 (by decide) (by decide), oB 235 (by decide)]
            · rw [g1.1 236 (by decide) (by decide), oB 236 (by decide)]
            · rw [g1.1 237 (by decide) (by decide), oB 237 (by decide)]
            · rw [g1.1 238 (by decide) (by decide), oB 238 (by decide)]
            · rw [g1.2 22 (by decide) (by decide) (by decide), eBj 22 (by decide)]; exact eA22
            · rw [g1.2 13 (by decide) (by decide) (by decide), oI 13 (by decide) (by decide) (by decide)]
            · rw [g1.2 16 (by decide) (by decide) (by decide), oI 16 (by decide) (by decide) (by decide)]
            · rw [g1.2 24 (by decide) (by decide) (by decide), oI 24 (by decide) (by decide) (by decide)]
            · rw [g1.2 21 (by decide) (by decide) (by decide), oI 21 (by decide) (by decide) (by decide)]
          · rw [g1.2 25 (by decide) (by decide) (by decide), eBj 25 (by decide)]; exact eA25
      · have k2 : k = 2 := v2.mp (Classical.not_not.mp n2)
        have hg3 : nGv cs < 3 := by
          rcases Nat.lt_or_ge (nGv cs) 3 with q | q
          · exact q
          · exact absurd (Or.inr (Or.inr ⟨k2, q⟩)) hn
        have hp := pCl_2 (t := t) (cs := cs) (i := i) (by rw [he, hk, k2]) hg3 (by rw [he]; exact hb)
        rw [he] at hp
        rw [hp] at hP
        refine S_giveClause9 hR hK htk c5' hcB l2 hg3 (by rw [oI 16 (by decide) (by decide) (by decide)]; exact q2) (fun pl ex j hg I1 g1 g2 g3 g4 g5 g6 g7 g8 g9 g10 g11 g12 g13 => ⟨rfl, ?_⟩) (fun f hg I1 j g1 g2 g3 g4 => ⟨rfl, ?_⟩)
        · rw [hg] at hP
          refine hP I1 (hfB.trans g1) ?_ g12 g13 ?_
          · refine hrd.give g2 g3 g4 g5 (fun q hq => ?_) ?_ ?_ ?_ g10 ?_ ?_ ?_ ?_ ?_
            · rw [(g6 q hq).1, (g6 q hq).2, oB 237 (by decide), oB 238 (by decide)]; exact ⟨rfl, rfl⟩
            · rw [g7, oB 235 (by decide)]
            · rw [g8, oB 236 (by decide)]
            · rw [g9, oB 239 (by decide)]
            · rw [g11 22 (by decide) (by decide) (by decide), eBj 22 (by decide)]; exact eA22
            · rw [g11 13 (by decide) (by decide) (by decide), oI 13 (by decide) (by decide) (by decide)]
            · rw [g11 24 (by decide) (by decide) (by decide), oI 24 (by decide) (by decide) (by decide)]
            · rw [g11 19 (by decide) (by decide) (by decide), oI 19 (by decide) (by decide) (by decide)]
            · rw [g11 21 (by decide) (by decide) (by decide), oI 21 (by decide) (by decide) (by decide)]
          · rw [g11 25 (by decide) (by decide) (by decide), eBj 25 (by decide)]; exact eA25
        · rw [hg] at hP
          exact hP I1 j (hfB.trans g1) g2 g3 g4
      · have k00 : k = 0 := v0.mp (Classical.not_not.mp n0)
        have hg3 : nTk cs < 3 := by
          rcases Nat.lt_or_ge (nTk cs) 3 with q | q
          · exact q
          · exact absurd (Or.inr (Or.inl ⟨k00, q⟩)) hn
        have hp := pCl_0 (t := t) (cs := cs) (i := i) (by rw [he, hk, k00]) hg3 (by rw [he]; exact hb)
        rw [he] at hp
        rw [hp] at hP
        refine S_takeClause9 hR hK htk c5' hcB l2 hg3 (by rw [oI 13 (by decide) (by decide) (by decide)]; exact q1) (fun pl w hg I1 g1 g2 g3 g4 g5 g6 g7 g8 g9 g10 g11 g12 => ⟨rfl, ?_⟩) (fun f hg I1 j g1 g2 g3 g4 => ⟨rfl, ?_⟩)
        · rw [hg] at hP
          refine hP I1 (hfB.trans g1) ?_ g11 g12 ?_
          · refine hrd.take g2 g3 (fun q hq => ?_) ?_ ?_ ?_ g8 g9 ?_ ?_ ?_ ?_
            · rw [(g4 q hq).1, (g4 q hq).2, oB 235 (by decide), oB 236 (by decide)]; exact ⟨rfl, rfl⟩
            · rw [g5, oB 237 (by decide)]
            · rw [g6, oB 238 (by decide)]
            · rw [g7, oB 239 (by decide)]
            · rw [g10 22 (by decide) (by decide) (by decide) (by decide), eBj 22 (by decide)]; exact eA22
            · rw [g10 16 (by decide) (by decide) (by decide) (by decide), oI 16 (by decide) (by decide) (by decide)]
            · rw [g10 19 (by decide) (by decide) (by decide) (by decide), oI 19 (by decide) (by decide) (by decide)]
            · rw [g10 21 (by decide) (by decide) (by decide) (by decide), oI 21 (by decide) (by decide) (by decide)]
          · rw [g10 25 (by decide) (by decide) (by decide) (by decide), eBj 25 (by decide)]; exact eA25
        · rw [hg] at hP
          exact hP I1 j (hfB.trans g1) g2 g3 g4
    · have hp := pCl_5 (t := t) (cs := cs) (i := i) (by rw [he, hk]; exact hn) (by rw [he]; exact hb)
      rw [he] at hp
      rw [hp] at hP
      have e12' : azUp A 228 12 (nI e) 228 12 = nI e := azUp_s
      simp (disch := omega) only [nI_ad, nI_ml, nI_lti, nI_lei, nI_eqi, nI_nn, nI_0le, nI_eq0, nI_0lt, nI_le0, nI_clamp, nI_pd, nI_sb, zOf_some, zOp_some, zOp_none, kI_int, kL_long, kO_ref, kO_null, nlt_T, nlt_F, nle_T, nle_F, neq_F, vpT, azUp_at, if_true, if_false, true_and, and_true, true_implies, false_implies, implies_true, not_true_eq_false, not_false_eq_true, true_or, or_true, false_or, or_false, and_false, false_and, eq_self, n01_0, n01_1, nm1_0, k0]
      exact hP _ e (hfA.up (by omega) (by omega)) azUp_s (by rw [azUp_nk (by decide)]; exact eA11) (by omega)
  have s52 : ¬ k = 4 → R (d + 22) mX9_clause 52 [.ref 228, .int (nI i), .int v] [] ((n, z, kd), A, J, F) Q := by
    intro n4
    have s67 : ¬ (k = 0 ∧ 3 ≤ nTk cs) → R (d + 22) mX9_clause 67 [.ref 228, .int (nI i), .int v] [] ((n, z, kd), A, J, F) Q := by
      intro nt
      refine BX9_clause_67 hR ?_
      simp (disch := omega) only [nI_ad, nI_ml, nI_lti, nI_lei, nI_eqi, nI_nn, nI_0le, nI_eq0, nI_0lt, nI_le0, nI_clamp, nI_pd, nI_sb, zOf_some, zOp_some, zOp_none, kI_int, kL_long, kO_ref, kO_null, nlt_T, nlt_F, nle_T, nle_F, neq_F, vpT, azUp_at, if_true, if_false, true_and, and_true, true_implies, false_implies, implies_true, not_true_eq_false, not_false_eq_true, true_or, or_true, false_or, or_false, and_false, false_and, eq_self, n01_0, n01_1, nm1_0, k0, eA16]
      refine ⟨fun n2 => s88 fun q => ?_, fun n2 => ⟨fun n3 => s88 fun q => ?_, fun n3 => bad (pCl_4 (by rw [he, hk]; exact Or.inr (Or.inr ⟨v2.mp (Classical.not_not.mp n2), by omega⟩)))⟩⟩
      · rcases q with q | q | q
        · exact n4 q
        · exact nt q
        · exact n2 (v2.mpr q.1)
      · rcases q with q | q | q
        · exact n4 q
        · exact nt q
        · omega
    refine BX9_clause_52 hR ?_
    simp (disch := omega) only [nI_ad, nI_ml, nI_lti, nI_lei, nI_eqi, nI_nn, nI_0le, nI_eq0, nI_0lt, nI_le0, nI_clamp, nI_pd, nI_sb, zOf_some, zOp_some, zOp_none, kI_int, kL_long, kO_ref, kO_null, nlt_T, nlt_F, nle_T, nle_F, neq_F, vpT, azUp_at, if_true, if_false, true_and, and_true, true_implies, false_implies, implies_true, not_true_eq_false, not_false_eq_true, true_or, or_true, false_or, or_false, and_false, false_and, eq_self, n01_0, n01_1, nm1_0, k0, eA13]
    refine ⟨fun n0 => s67 fun q => n0 (v0.mpr q.1), fun n0 => ⟨fun n3 => bad (pCl_4 (by rw [he, hk]; exact Or.inr (Or.inl ⟨v0.mp (Classical.not_not.mp n0), by omega⟩))), fun n3 => s67 fun q => by omega⟩⟩
  rw [eA, e11]
  refine ⟨k0, k0, k0, fun n0 => s52 (by have := v0.mp n0; omega), fun n0 => ⟨fun n1 => s52 (by have := v1.mp n1; omega), fun n1 => ⟨fun n2 => s52 (by have := v2.mp n2; omega), fun n2 => ⟨fun n3 => ⟨k0, bad (pCl_4 (by
    rw [he, hk]
    left
    have a0 : ¬ k = 0 := fun q => n0 (v0.mpr q)
    have a1 : ¬ k = 1 := fun q => n1 (v1.mpr q)
    have a2 : ¬ k = 2 := fun q => n2 (v2.mpr q)
    have a3 : ¬ k = 3 := fun q => n3 (v3.mpr q)
    omega))⟩, fun n3 => s52 (by have := v3.mp (Classical.not_not.mp n3); omega)⟩⟩⟩⟩
end S9
