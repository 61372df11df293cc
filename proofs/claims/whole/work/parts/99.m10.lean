/-! THE REFERENCE: reads, readsRule. -/
def reP (I : azI) (t : List Nat) (S : azI → azS) (Q : azQ) : Except Nat (List Cls) → Prop
  | .ok cs => ∀ I', frR I I' → rdM I' t cs → I' 228 12 = -(nI 1) → I' 228 25 = nI 0 → Q (some (.int (-(nI 1)))) (S I')
  | .error f => ∀ I', frR I I' → I' 228 12 = nI f → Q (some (.int (nI f))) (S I')
section S9
variable {R : azP} {d n z : Nat} {kd : azK} {I : azI} {J : azJ} {F : azR} {Q : azQ} {t : List Nat} {kb : Nat} {cs : List Cls}
theorem S_reads9 (hR : azClosed R) (hK : MdOk kd F) (htk : tOK t) (hx : txt I t) (hP : reP I t (fun I' => ((n, z, kd), I', J, F)) Q (pRule t)) : R (d + 23) mX9_reads 0 [.ref 228, .retAddr 0] [] ((n, z, kd), I, J, F) Q := by
  have k0 := hK.1
  have ht := htk.1
  have hng := m1_ng
  have n10 : ¬ (nI 1 = 0) := by decide
  -- the end, with a fault
  have e126 : ∀ (f : Nat) (I1 : azI) (x : Int32), f ≤ 80 → frR I I1 → I1 228 12 = nI f → (∀ I', frR I I' → I' 228 12 = nI f → Q (some (.int (nI f))) ((n, z, kd), I', J, F)) → R (d + 23) mX9_reads 126 [.ref 228, .int x] [] ((n, z, kd), I1, J, F) Q := by
    intro f I1 x hf hfr e12 hQ
    refine BX9_reads_126 hR ⟨k0, fun _ => ⟨k0, ?_⟩, fun _ => ⟨k0, k0, ?_⟩⟩
    · rw [e12]; exact hQ I1 hfr e12
    · refine S_wrong9f hR hK (f := f) (by omega) e12 ⟨rfl, k0, ?_⟩
      show Q (some (.int (I1 228 12))) _
      rw [e12]
      exact hQ I1 hfr e12
  have e77 : ∀ (f j : Nat) (I1 : azI) (x : Int32), f ≤ 80 → frR I I1 → I1 228 12 = nI f → I1 228 11 = nI j → (∀ I', frR I I' → I' 228 12 = nI f → Q (some (.int (nI f))) ((n, z, kd), I', J, F)) → R (d + 23) mX9_reads 77 [.ref 228, .int x] [] ((n, z, kd), I1, J, F) Q := by
    intro f j I1 x hf hfr e12 e11 hQ
    have e : azUp I1 228 11 (nI j) = I1 := by rw [← e11]; exact azUp_id
    refine BX9_reads_77 hR ?_
    simp (disch := omega) only [nI_ad, nI_ml, nI_lti, nI_lei, nI_eqi, nI_nn, nI_0le, nI_eq0, nI_0lt, nI_le0, nI_clamp, nI_pd, nI_sb, zOf_some, zOp_some, zOp_none, kI_int, kL_long, kO_ref, kO_null, nlt_T, nlt_F, nle_T, nle_F, neq_F, vpT, azUp_at, if_true, if_false, true_and, and_true, true_implies, false_implies, implies_true, not_true_eq_false, not_false_eq_true, true_or, or_true, false_or, or_false, and_false, false_and, eq_self, n01_0, n01_1, nm1_0, k0, e11, Nat.add_zero, e]
    refine BX9_reads_42 hR ?_
    simp (disch := omega) only [nI_ad, nI_ml, nI_lti, nI_lei, nI_eqi, nI_nn, nI_0le, nI_eq0, nI_0lt, nI_le0, nI_clamp, nI_pd, nI_sb, zOf_some, zOp_some, zOp_none, kI_int, kL_long, kO_ref, kO_null, nlt_T, nlt_F, nle_T, nle_F, neq_F, vpT, azUp_at, if_true, if_false, true_and, and_true, true_implies, false_implies, implies_true, not_true_eq_false, not_false_eq_true, true_or, or_true, false_or, or_false, and_false, false_and, eq_self, n01_0, n01_1, nm1_0]
    refine BX9_reads_100 hR ?_
    simp (disch := omega) only [nI_ad, nI_ml, nI_lti, nI_lei, nI_eqi, nI_nn, nI_0le, nI_eq0, nI_0lt, nI_le0, nI_clamp, nI_pd, nI_sb, zOf_some, zOp_some, zOp_none, kI_int, kL_long, kO_ref, kO_null, nlt_T, nlt_F, nle_T, nle_F, neq_F, vpT, azUp_at, if_true, if_false, true_and, and_true, true_implies, false_implies, implies_true, not_true_eq_false, not_false_eq_true, true_or, or_true, false_or, or_false, and_false, false_and, eq_self, n01_0, n01_1, nm1_0, k0, e12]
    exact e126 f I1 _ hf hfr e12 hQ
  have main : ∀ (m : Nat) (cs : List Cls) (I1 : azI) (i : Nat), m + cs.length = 12 → csOK cs i → i ≤ t.length → frR I I1 → rdM I1 t cs → I1 228 11 = nI i → I1 228 12 = -(nI 1) → 4 * (conds cs).length ≤ i → reP I t (fun I' => ((n, z, kd), I', J, F)) Q (pR t m cs i) → R (d + 23) mX9_reads 42 [.ref 228, .int (nI 1)] [] ((n, z, kd), I1, J, F) Q := by
    intro m
    induction m with
    | zero =>
      intro cs I1 i hm hcs hi
      have := hcs.1
      omega
    | succ m ih =>
      intro cs I1 i hm hcs hi hfr hrd e11 e12 h4 hP
      have e1 : pR t (m + 1) cs i = pb (pCl t cs i) fun x =>
        if t.length ≤ x.2 then (if nTk (cs ++ [x.1]) = 0 then .error t.length else .ok (cs ++ [x.1]))
        else if tb t x.2 = 59 then pR t m (cs ++ [x.1]) (x.2 + 1) else .error x.2 := rfl
      rw [e1] at hP
      refine BX9_reads_42 hR ?_
      simp (disch := omega) only [nI_ad, nI_ml, nI_lti, nI_lei, nI_eqi, nI_nn, nI_0le, nI_eq0, nI_0lt, nI_le0, nI_clamp, nI_pd, nI_sb, zOf_some, zOp_some, zOp_none, kI_int, kL_long, kO_ref, kO_null, nlt_T, nlt_F, nle_T, nle_F, neq_F, vpT, azUp_at, if_true, if_false, true_and, and_true, true_implies, false_implies, implies_true, not_true_eq_false, not_false_eq_true, true_or, or_true, false_or, or_false, and_false, false_and, eq_self, n01_0, n01_1, nm1_0, n10, k0, e12, hng]
      refine S_clause9 hR hK htk (hfr.txt hx) e11 e12 hi hrd hcs h4 ?_
      have g := pgK_cl (cs := cs) hi
      have g4 := fun x => pCl4 (cs := cs) hi h4 (x := x)
      revert hP g g4
      cases pCl t cs i with
      | error f =>
        intro hP g _ I2 j g1 g2 g3 g4
        have hP : ∀ I', frR I I' → I' 228 12 = nI f → Q (some (.int (nI f))) ((n, z, kd), I', J, F) := hP
        have hf := g.2
        refine ⟨rfl, ?_⟩
        simp (disch := omega) only [nI_ad, nI_ml, nI_lti, nI_lei, nI_eqi, nI_nn, nI_0le, nI_eq0, nI_0lt, nI_le0, nI_clamp, nI_pd, nI_sb, zOf_some, zOp_some, zOp_none, kI_int, kL_long, kO_ref, kO_null, nlt_T, nlt_F, nle_T, nle_F, neq_F, vpT, azUp_at, if_true, if_false, true_and, and_true, true_implies, false_implies, implies_true, not_true_eq_false, not_false_eq_true, true_or, or_true, false_or, or_false, and_false, false_and, eq_self, n01_0, n01_1, nm1_0, k0, g2]
        exact e77 f j I2 _ (by omega) (hfr.trans g1) g2 g3 hP
      | ok x =>
        intro hP g g4 I2 g1 g2 g3 g5 g6
        have g4 := g4 x rfl
        have gl := g.2.1
        have ha := hcs.add g
        rw [pb_ok] at hP
        have hfr2 := hfr.trans g1
        have hb := tb_lt htk (i := x.2)
        refine ⟨rfl, ?_⟩
        simp (disch := omega) only [nI_ad, nI_ml, nI_lti, nI_lei, nI_eqi, nI_nn, nI_0le, nI_eq0, nI_0lt, nI_le0, nI_clamp, nI_pd, nI_sb, zOf_some, zOp_some, zOp_none, kI_int, kL_long, kO_ref, kO_null, nlt_T, nlt_F, nle_T, nle_F, neq_F, vpT, azUp_at, if_true, if_false, true_and, and_true, true_implies, false_implies, implies_true, not_true_eq_false, not_false_eq_true, true_or, or_true, false_or, or_false, and_false, false_and, eq_self, n01_0, n01_1, nm1_0, k0, g5, hng]
        refine S_peek9 hR hK ht (hfr2.txt hx) g3 (by omega) ?_
        have e : azUp I2 228 11 (nI x.2) = I2 := by rw [← g3]; exact azUp_id
        have e10 : I2 228 10 = nI t.length := (hfr2.txt hx).1
        have e13 : I2 228 13 = nI (nTk (cs ++ [x.1])) := g2.1
        have ht3 := ha.2.2.1
        -- no more
        have s77 : tb t x.2 ≠ 59 → R (d + 23) mX9_reads 77 [.ref 228, .int (nI 1)] [] ((n, z, kd), I2, J, F) Q := by
          intro h59
          refine BX9_reads_77 hR ?_
          simp (disch := omega) only [nI_ad, nI_ml, nI_lti, nI_lei, nI_eqi, nI_nn, nI_0le, nI_eq0, nI_0lt, nI_le0, nI_clamp, nI_pd, nI_sb, zOf_some, zOp_some, zOp_none, kI_int, kL_long, kO_ref, kO_null, nlt_T, nlt_F, nle_T, nle_F, neq_F, vpT, azUp_at, if_true, if_false, true_and, and_true, true_implies, false_implies, implies_true, not_true_eq_false, not_false_eq_true, true_or, or_true, false_or, or_false, and_false, false_and, eq_self, n01_0, n01_1, nm1_0, k0, g3, Nat.add_zero, e]
          refine BX9_reads_42 hR ?_
          simp (disch := omega) only [nI_ad, nI_ml, nI_lti, nI_lei, nI_eqi, nI_nn, nI_0le, nI_eq0, nI_0lt, nI_le0, nI_clamp, nI_pd, nI_sb, zOf_some, zOp_some, zOp_none, kI_int, kL_long, kO_ref, kO_null, nlt_T, nlt_F, nle_T, nle_F, neq_F, vpT, azUp_at, if_true, if_false, true_and, and_true, true_implies, false_implies, implies_true, not_true_eq_false, not_false_eq_true, true_or, or_true, false_or, or_false, and_false, false_and, eq_self, n01_0, n01_1, nm1_0]
          refine BX9_reads_100 hR ?_
          by_cases c1 : t.length ≤ x.2
          · rw [if_pos c1] at hP
            simp (disch := omega) only [nI_ad, nI_ml, nI_lti, nI_lei, nI_eqi, nI_nn, nI_0le, nI_eq0, nI_0lt, nI_le0, nI_clamp, nI_pd, nI_sb, zOf_some, zOp_some, zOp_none, kI_int, kL_long, kO_ref, kO_null, nlt_T, nlt_F, nle_T, nle_F, neq_F, vpT, azUp_at, if_true, if_false, true_and, and_true, true_implies, false_implies, implies_true, not_true_eq_false, not_false_eq_true, true_or, or_true, false_or, or_false, and_false, false_and, eq_self, n01_0, n01_1, nm1_0, k0, g5, hng, e10, g3]
            refine BX9_reads_126 hR ?_
            by_cases c2 : nTk (cs ++ [x.1]) = 0
            · rw [if_pos c2] at hP
              simp (disch := omega) only [nI_ad, nI_ml, nI_lti, nI_lei, nI_eqi, nI_nn, nI_0le, nI_eq0, nI_0lt, nI_le0, nI_clamp, nI_pd, nI_sb, zOf_some, zOp_some, zOp_none, kI_int, kL_long, kO_ref, kO_null, nlt_T, nlt_F, nle_T, nle_F, neq_F, vpT, azUp_at, if_true, if_false, true_and, and_true, true_implies, false_implies, implies_true, not_true_eq_false, not_false_eq_true, true_or, or_true, false_or, or_false, and_false, false_and, eq_self, n01_0, n01_1, nm1_0, k0, e13, c2, e10]
              refine S_wrong9 hR hK g5 ⟨rfl, k0, ?_⟩
              have := hP _ (hfr2.up (by omega) (by omega)) azUp_s
              show Q (some (.int (azUp I2 228 12 (nI t.length) 228 12))) _
              rw [azUp_s]
              exact this
            · rw [if_neg c2] at hP
              simp (disch := omega) only [nI_ad, nI_ml, nI_lti, nI_lei, nI_eqi, nI_nn, nI_0le, nI_eq0, nI_0lt, nI_le0, nI_clamp, nI_pd, nI_sb, zOf_some, zOp_some, zOp_none, kI_int, kL_long, kO_ref, kO_null, nlt_T, nlt_F, nle_T, nle_F, neq_F, vpT, azUp_at, if_true, if_false, true_and, and_true, true_implies, false_implies, implies_true, not_true_eq_false, not_false_eq_true, true_or, or_true, false_or, or_false, and_false, false_and, eq_self, n01_0, n01_1, nm1_0, k0, e13, c2, g5]
              exact hP I2 hfr2 g2 g5 g6
          · rw [if_neg c1, if_neg h59] at hP
            simp (disch := omega) only [nI_ad, nI_ml, nI_lti, nI_lei, nI_eqi, nI_nn, nI_0le, nI_eq0, nI_0lt, nI_le0, nI_clamp, nI_pd, nI_sb, zOf_some, zOp_some, zOp_none, kI_int, kL_long, kO_ref, kO_null, nlt_T, nlt_F, nle_T, nle_F, neq_F, vpT, azUp_at, if_true, if_false, true_and, and_true, true_implies, false_implies, implies_true, not_true_eq_false, not_false_eq_true, true_or, or_true, false_or, or_false, and_false, false_and, eq_self, n01_0, n01_1, nm1_0, k0, g5, hng, e10, g3]
            refine S_wrong9 hR hK g5 ⟨rfl, ?_⟩
            exact e126 x.2 _ _ (by omega) (hfr2.up (by omega) (by omega)) azUp_s hP
        by_cases c : tb t x.2 = 59
        · have hjl := tb_len (t := t) (i := x.2) (by omega)
          rw [if_neg (by omega), if_pos c] at hP
          simp (disch := omega) only [nI_ad, nI_ml, nI_lti, nI_lei, nI_eqi, nI_nn, nI_0le, nI_eq0, nI_0lt, nI_le0, nI_clamp, nI_pd, nI_sb, zOf_some, zOp_some, zOp_none, kI_int, kL_long, kO_ref, kO_null, nlt_T, nlt_F, nle_T, nle_F, neq_F, vpT, azUp_at, if_true, if_false, true_and, and_true, true_implies, false_implies, implies_true, not_true_eq_false, not_false_eq_true, true_or, or_true, false_or, or_false, and_false, false_and, eq_self, n01_0, n01_1, nm1_0, c, k0, n10, g3]
          have el : (cs ++ [x.1]).length = cs.length + 1 := by simp
          have g2' : rdM (azUp I2 228 11 (nI (x.2 + 1))) t (cs ++ [x.1]) := by
            obtain ⟨y1, y2, y3, y4, y5, y6, y7, y8, y9⟩ := g2
            have o : ∀ b, b ≠ 228 → azUp I2 228 11 (nI (x.2 + 1)) b = I2 b := fun b hb => azUp_nb hb
            refine ⟨by rw [azUp_nk (by decide)]; exact y1, by rw [azUp_nk (by decide)]; exact y2, by rw [azUp_nk (by decide)]; exact y3, by rw [azUp_nk (by decide)]; exact y4, by rw [azUp_nk (by decide)]; exact y5, by rw [azUp_nk (by decide)]; exact y6, fun j hj => by rw [o 235 (by decide), o 236 (by decide)]; exact y7 j hj, fun k hk => by rw [o 237 (by decide), o 238 (by decide)]; exact y8 k hk, y9.keep (o 239 (by decide)) kSub.refl⟩
          exact ih (cs ++ [x.1]) _ (x.2 + 1) (by rw [el]; omega) ha hjl (hfr2.up (by omega) (by omega)) g2' azUp_s (by rw [azUp_nk (by decide)]; exact g5) g4 hP
        · simp (disch := omega) only [nI_ad, nI_ml, nI_lti, nI_lei, nI_eqi, nI_nn, nI_0le, nI_eq0, nI_0lt, nI_le0, nI_clamp, nI_pd, nI_sb, zOf_some, zOp_some, zOp_none, kI_int, kL_long, kO_ref, kO_null, nlt_T, nlt_F, nle_T, nle_F, neq_F, vpT, azUp_at, if_true, if_false, true_and, and_true, true_implies, false_implies, implies_true, not_true_eq_false, not_false_eq_true, true_or, or_true, false_or, or_false, and_false, false_and, eq_self, n01_0, n01_1, nm1_0, c]
          exact s77 c
  refine BX9_reads_0 hR ⟨k0, k0, k0, k0, k0, k0, k0, k0, ?_⟩
  refine main 12 [] _ 0 rfl ⟨by decide, by decide, by decide, by decide, by decide, fun c hc => absurd hc List.not_mem_nil⟩ (Nat.zero_le _) ?_ ?_ ?_ ?_ (Nat.le_refl _) hP
  · exact (((((((frR.refl.up (by omega) (by omega)).up (by omega) (by omega)).up (by omega) (by omega)).up (by omega) (by omega)).up (by omega) (by omega)).up (by omega) (by omega)).up (by omega) (by omega)).up (by omega) (by omega)
  · refine ⟨?_, ?_, ?_, ?_, ?_, ?_, fun j hj => absurd hj (Nat.not_lt_zero _), fun j hj => absurd hj (Nat.not_lt_zero _), fun j hj => absurd hj (Nat.not_lt_zero _)⟩
    · rw [azUp_nk (by decide), azUp_nk (by decide), azUp_nk (by decide), azUp_nk (by decide), azUp_nk (by decide), azUp_s]; rfl
    · rw [azUp_nk (by decide), azUp_nk (by decide), azUp_nk (by decide), azUp_nk (by decide), azUp_s]; rfl
    · rw [azUp_nk (by decide), azUp_nk (by decide), azUp_nk (by decide), azUp_s]; rfl
    · rw [azUp_nk (by decide), azUp_nk (by decide), azUp_s]; rfl
    · rw [azUp_nk (by decide), azUp_s]; rfl
    · rw [azUp_s]; rfl
  · rw [azUp_nk (by decide), azUp_nk (by decide), azUp_nk (by decide), azUp_nk (by decide), azUp_nk (by decide), azUp_nk (by decide), azUp_nk (by decide), azUp_s]
  · rw [azUp_nk (by decide), azUp_nk (by decide), azUp_nk (by decide), azUp_nk (by decide), azUp_nk (by decide), azUp_nk (by decide), azUp_s]
end S9
