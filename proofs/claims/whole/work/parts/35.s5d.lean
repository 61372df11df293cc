/-! SPECS: Rule.changeOf. -/
/-- what one clause makes of a place, and what all do -/
def cChg (p : Nat) (c : Cls) : Int := if c.2.1 = p then (if c.1 = 2 then 1 else if c.1 = 0 then -1 else 0) else 0
def rChg (cs : List Cls) (p : Nat) : Int := (cs.map (cChg p)).sum
/-- all clauses are as clauses are -/
def cOK (cs : List Cls) : Prop := ∀ c ∈ cs, c.1 < 4 ∧ c.2.1 < 10 ∧ c.2.2.1 < 3
theorem lst.mid {f : Nat → Int32} {l1 l2 : List Int32} {v : Int32} (h : lst f (l1 ++ v :: l2)) : f l1.length = v := by
  rw [h l1.length (by simp)]
  simp
theorem lst.mp {α : Type} {f : Nat → Int32} {g : α → Int32} {l1 l2 : List α} {c : α} (h : lst f ((l1 ++ c :: l2).map g)) : f l1.length = g c := by
  rw [List.map_append, List.map_cons] at h
  have := h.mid
  rwa [List.length_map] at this
theorem nI_neg1 {k : Nat} (h : k < 2 ^ 31) : (-(nI 1) = nI k) = False := by
  refine eq_false fun e => ?_
  have h1 := nI_nn h
  rw [← e] at h1
  exact h1 (by decide)
theorem oI_1 (a : Int) : Int32.ofInt a + nI 1 = Int32.ofInt (a + 1) := (Int32.ofInt_add a 1).symm
theorem oI_m1 (a : Int) : Int32.ofInt a + -(nI 1) = Int32.ofInt (a + -1) := by
  have e : -(nI 1) = Int32.ofInt (-1) := by decide
  rw [e, ← Int32.ofInt_add]
section S5
variable {R : azP} {d n z : Nat} {kd : azK} {I : azI} {J : azJ} {F : azR} {Q : azQ} {r k : Nat} {cs : List Cls} {pd : List Nat}
theorem L_changeOf (hR : azClosed R) (hM : RuOk kd F r) {p : Nat} (hp : p < 10) (hc : cR I r cs pd) (hk : cs.length ≤ 12) (ho : cOK cs) (h : Q (some (.int (Int32.ofInt (rChg cs p)))) ((n, z, kd), I, J, F)) : ∀ (cs2 cs1 : List Cls), cs1 ++ cs2 = cs → R (d + 1) mX5_changeOf 4 [.ref r, .int (nI p), .int (Int32.ofInt (rChg cs1 p)), .int (nI cs1.length)] [] ((n, z, kd), I, J, F) Q := by
  intro cs2
  induction cs2 with
  | nil =>
    intro cs1 e
    rw [List.append_nil] at e
    subst e
    refine BX5_changeOf_4 hR ?_
    simp (disch := omega) only [nI_ad, nI_ml, nI_lti, nI_lei, nI_eqi, nI_nn, nI_0le, nI_eq0, nI_0lt, nI_le0, nI_clamp, nI_pd, nI_sb, zOf_some, zOp_some, zOp_none, kI_int, kL_long, kO_ref, kO_null, nlt_T, nlt_F, nle_T, nle_F, neq_F, vpT, azUp_at, if_true, if_false, true_and, and_true, true_implies, false_implies, implies_true, not_true_eq_false, not_false_eq_true, true_or, or_true, false_or, or_false, and_false, false_and, eq_self, n01_0, n01_1, nm1_0, hM.1, hc.1]
    exact h
  | cons c cs2 ih =>
    intro cs1 e
    have hl : cs1.length < cs.length := by rw [← e]; simp
    have hh := ih (cs1 ++ [c]) (by rw [← e]; simp)
    have e1 : rChg (cs1 ++ [c]) p = rChg cs1 p + cChg p c := by simp [rChg]
    rw [e1, List.length_append, List.length_cons, List.length_nil] at hh
    obtain ⟨cn, ct, cg, cc, ce, cl, cks, cps, cws, cbs, ces, cts, cgs, cco⟩ := hc
    have h1 := ho c (by rw [← e]; simp)
    rw [← e] at cks cps
    have vk : I (r + 1) cs1.length = nI c.1 := cks.mp
    have vp : I (r + 2) cs1.length = cPl c := cps.mp
    refine BX5_changeOf_4 hR ?_
    simp (disch := omega) only [nI_ad, nI_ml, nI_lti, nI_lei, nI_eqi, nI_nn, nI_0le, nI_eq0, nI_0lt, nI_le0, nI_clamp, nI_pd, nI_sb, zOf_some, zOp_some, zOp_none, kI_int, kL_long, kO_ref, kO_null, nlt_T, nlt_F, nle_T, nle_F, neq_F, vpT, azUp_at, if_true, if_false, true_and, and_true, true_implies, false_implies, implies_true, not_true_eq_false, not_false_eq_true, true_or, or_true, false_or, or_false, and_false, false_and, eq_self, n01_0, n01_1, nm1_0, hM.1, cn]
    refine S_place hR hM (by omega) ?_
    rw [vp]
    unfold cPl
    have h33 : R (d + 1) mX5_changeOf 4 [.ref r, .int (nI p), .int (Int32.ofInt (rChg cs1 p)), .int (nI (cs1.length + 1))] [] ((n, z, kd), I, J, F) Q ∨ c.2.1 = p := by
      by_cases ep : c.2.1 = p
      · exact Or.inr ep
      · left
        unfold cChg at hh
        rw [if_neg ep] at hh
        simpa using hh
    by_cases ek : c.1 = 1
    · rw [if_pos ek]
      have hh' : R (d + 1) mX5_changeOf 4 [.ref r, .int (nI p), .int (Int32.ofInt (rChg cs1 p)), .int (nI (cs1.length + 1))] [] ((n, z, kd), I, J, F) Q := by
        unfold cChg at hh
        rw [ek] at hh
        simpa using hh
      simp (disch := omega) only [nI_ad, nI_ml, nI_lti, nI_lei, nI_eqi, nI_nn, nI_0le, nI_eq0, nI_0lt, nI_le0, nI_clamp, nI_pd, nI_sb, zOf_some, zOp_some, zOp_none, kI_int, kL_long, kO_ref, kO_null, nlt_T, nlt_F, nle_T, nle_F, neq_F, vpT, azUp_at, if_true, if_false, true_and, and_true, true_implies, false_implies, implies_true, not_true_eq_false, not_false_eq_true, true_or, or_true, false_or, or_false, and_false, false_and, eq_self, n01_0, n01_1, nm1_0, nI_neg1 (k := p)]
      refine BX5_changeOf_33 hR ?_
      simp (disch := omega) only [nI_ad, nI_ml, nI_lti, nI_lei, nI_eqi, nI_nn, nI_0le, nI_eq0, nI_0lt, nI_le0, nI_clamp, nI_pd, nI_sb, zOf_some, zOp_some, zOp_none, kI_int, kL_long, kO_ref, kO_null, nlt_T, nlt_F, nle_T, nle_F, neq_F, vpT, azUp_at, if_true, if_false, true_and, and_true, true_implies, false_implies, implies_true, not_true_eq_false, not_false_eq_true, true_or, or_true, false_or, or_false, and_false, false_and, eq_self, n01_0, n01_1, nm1_0, hM.1]
      refine S_place hR hM (by omega) ?_
      rw [vp]
      unfold cPl
      rw [if_pos ek]
      simp (disch := omega) only [nI_ad, nI_ml, nI_lti, nI_lei, nI_eqi, nI_nn, nI_0le, nI_eq0, nI_0lt, nI_le0, nI_clamp, nI_pd, nI_sb, zOf_some, zOp_some, zOp_none, kI_int, kL_long, kO_ref, kO_null, nlt_T, nlt_F, nle_T, nle_F, neq_F, vpT, azUp_at, if_true, if_false, true_and, and_true, true_implies, false_implies, implies_true, not_true_eq_false, not_false_eq_true, true_or, or_true, false_or, or_false, and_false, false_and, eq_self, n01_0, n01_1, nm1_0, nI_neg1 (k := p)]
      exact hh'
    · rw [if_neg ek]
      by_cases ep : c.2.1 = p
      · unfold cChg at hh
        rw [if_pos ep] at hh
        rw [ep]
        simp (disch := omega) only [nI_ad, nI_ml, nI_lti, nI_lei, nI_eqi, nI_nn, nI_0le, nI_eq0, nI_0lt, nI_le0, nI_clamp, nI_pd, nI_sb, zOf_some, zOp_some, zOp_none, kI_int, kL_long, kO_ref, kO_null, nlt_T, nlt_F, nle_T, nle_F, neq_F, vpT, azUp_at, if_true, if_false, true_and, and_true, true_implies, false_implies, implies_true, not_true_eq_false, not_false_eq_true, true_or, or_true, false_or, or_false, and_false, false_and, eq_self, n01_0, n01_1, nm1_0, hM.1]
        refine S_kind hR hM (by omega) ?_
        rw [vk]
        by_cases e2 : c.1 = 2
        · rw [if_pos e2] at hh
          rw [e2]
          simp (disch := omega) only [nI_ad, nI_ml, nI_lti, nI_lei, nI_eqi, nI_nn, nI_0le, nI_eq0, nI_0lt, nI_le0, nI_clamp, nI_pd, nI_sb, zOf_some, zOp_some, zOp_none, kI_int, kL_long, kO_ref, kO_null, nlt_T, nlt_F, nle_T, nle_F, neq_F, vpT, azUp_at, if_true, if_false, true_and, and_true, true_implies, false_implies, implies_true, not_true_eq_false, not_false_eq_true, true_or, or_true, false_or, or_false, and_false, false_and, eq_self, n01_0, n01_1, nm1_0, oI_1]
          refine BX5_changeOf_33 hR ?_
          simp (disch := omega) only [nI_ad, nI_ml, nI_lti, nI_lei, nI_eqi, nI_nn, nI_0le, nI_eq0, nI_0lt, nI_le0, nI_clamp, nI_pd, nI_sb, zOf_some, zOp_some, zOp_none, kI_int, kL_long, kO_ref, kO_null, nlt_T, nlt_F, nle_T, nle_F, neq_F, vpT, azUp_at, if_true, if_false, true_and, and_true, true_implies, false_implies, implies_true, not_true_eq_false, not_false_eq_true, true_or, or_true, false_or, or_false, and_false, false_and, eq_self, n01_0, n01_1, nm1_0, hM.1]
          refine S_place hR hM (by omega) ?_
          rw [vp]
          unfold cPl
          rw [if_neg ek, ep]
          simp (disch := omega) only [nI_ad, nI_ml, nI_lti, nI_lei, nI_eqi, nI_nn, nI_0le, nI_eq0, nI_0lt, nI_le0, nI_clamp, nI_pd, nI_sb, zOf_some, zOp_some, zOp_none, kI_int, kL_long, kO_ref, kO_null, nlt_T, nlt_F, nle_T, nle_F, neq_F, vpT, azUp_at, if_true, if_false, true_and, and_true, true_implies, false_implies, implies_true, not_true_eq_false, not_false_eq_true, true_or, or_true, false_or, or_false, and_false, false_and, eq_self, n01_0, n01_1, nm1_0, hM.1]
          refine S_kind hR hM (by omega) ?_
          rw [vk, e2]
          simp (disch := omega) only [nI_ad, nI_ml, nI_lti, nI_lei, nI_eqi, nI_nn, nI_0le, nI_eq0, nI_0lt, nI_le0, nI_clamp, nI_pd, nI_sb, zOf_some, zOp_some, zOp_none, kI_int, kL_long, kO_ref, kO_null, nlt_T, nlt_F, nle_T, nle_F, neq_F, vpT, azUp_at, if_true, if_false, true_and, and_true, true_implies, false_implies, implies_true, not_true_eq_false, not_false_eq_true, true_or, or_true, false_or, or_false, and_false, false_and, eq_self, n01_0, n01_1, nm1_0]
          simpa using hh
        · rw [if_neg e2] at hh
          simp (disch := omega) only [nI_ad, nI_ml, nI_lti, nI_lei, nI_eqi, nI_nn, nI_0le, nI_eq0, nI_0lt, nI_le0, nI_clamp, nI_pd, nI_sb, zOf_some, zOp_some, zOp_none, kI_int, kL_long, kO_ref, kO_null, nlt_T, nlt_F, nle_T, nle_F, neq_F, vpT, azUp_at, if_true, if_false, true_and, and_true, true_implies, false_implies, implies_true, not_true_eq_false, not_false_eq_true, true_or, or_true, false_or, or_false, and_false, false_and, eq_self, n01_0, n01_1, nm1_0, neq_F (a := c.1) (b := 2)]
          refine BX5_changeOf_33 hR ?_
          simp (disch := omega) only [nI_ad, nI_ml, nI_lti, nI_lei, nI_eqi, nI_nn, nI_0le, nI_eq0, nI_0lt, nI_le0, nI_clamp, nI_pd, nI_sb, zOf_some, zOp_some, zOp_none, kI_int, kL_long, kO_ref, kO_null, nlt_T, nlt_F, nle_T, nle_F, neq_F, vpT, azUp_at, if_true, if_false, true_and, and_true, true_implies, false_implies, implies_true, not_true_eq_false, not_false_eq_true, true_or, or_true, false_or, or_false, and_false, false_and, eq_self, n01_0, n01_1, nm1_0, hM.1]
          refine S_place hR hM (by omega) ?_
          rw [vp]
          unfold cPl
          rw [if_neg ek, ep]
          simp (disch := omega) only [nI_ad, nI_ml, nI_lti, nI_lei, nI_eqi, nI_nn, nI_0le, nI_eq0, nI_0lt, nI_le0, nI_clamp, nI_pd, nI_sb, zOf_some, zOp_some, zOp_none, kI_int, kL_long, kO_ref, kO_null, nlt_T, nlt_F, nle_T, nle_F, neq_F, vpT, azUp_at, if_true, if_false, true_and, and_true, true_implies, false_implies, implies_true, not_true_eq_false, not_false_eq_true, true_or, or_true, false_or, or_false, and_false, false_and, eq_self, n01_0, n01_1, nm1_0, hM.1]
          refine S_kind hR hM (by omega) ?_
          rw [vk]
          by_cases e0 : c.1 = 0
          · rw [if_pos e0] at hh
            rw [e0]
            simp (disch := omega) only [nI_ad, nI_ml, nI_lti, nI_lei, nI_eqi, nI_nn, nI_0le, nI_eq0, nI_0lt, nI_le0, nI_clamp, nI_pd, nI_sb, zOf_some, zOp_some, zOp_none, kI_int, kL_long, kO_ref, kO_null, nlt_T, nlt_F, nle_T, nle_F, neq_F, vpT, azUp_at, if_true, if_false, true_and, and_true, true_implies, false_implies, implies_true, not_true_eq_false, not_false_eq_true, true_or, or_true, false_or, or_false, and_false, false_and, eq_self, n01_0, n01_1, nm1_0, oI_m1]
            exact hh
          · rw [if_neg e0] at hh
            simp (disch := omega) only [nI_ad, nI_ml, nI_lti, nI_lei, nI_eqi, nI_nn, nI_0le, nI_eq0, nI_0lt, nI_le0, nI_clamp, nI_pd, nI_sb, zOf_some, zOp_some, zOp_none, kI_int, kL_long, kO_ref, kO_null, nlt_T, nlt_F, nle_T, nle_F, neq_F, vpT, azUp_at, if_true, if_false, true_and, and_true, true_implies, false_implies, implies_true, not_true_eq_false, not_false_eq_true, true_or, or_true, false_or, or_false, and_false, false_and, eq_self, n01_0, n01_1, nm1_0, neq_F (a := c.1) (b := 0)]
            simpa using hh
      · have h33' := h33.resolve_right ep
        simp (disch := omega) only [nI_ad, nI_ml, nI_lti, nI_lei, nI_eqi, nI_nn, nI_0le, nI_eq0, nI_0lt, nI_le0, nI_clamp, nI_pd, nI_sb, zOf_some, zOp_some, zOp_none, kI_int, kL_long, kO_ref, kO_null, nlt_T, nlt_F, nle_T, nle_F, neq_F, vpT, azUp_at, if_true, if_false, true_and, and_true, true_implies, false_implies, implies_true, not_true_eq_false, not_false_eq_true, true_or, or_true, false_or, or_false, and_false, false_and, eq_self, n01_0, n01_1, nm1_0, neq_F (a := c.2.1) (b := p)]
        refine BX5_changeOf_33 hR ?_
        simp (disch := omega) only [nI_ad, nI_ml, nI_lti, nI_lei, nI_eqi, nI_nn, nI_0le, nI_eq0, nI_0lt, nI_le0, nI_clamp, nI_pd, nI_sb, zOf_some, zOp_some, zOp_none, kI_int, kL_long, kO_ref, kO_null, nlt_T, nlt_F, nle_T, nle_F, neq_F, vpT, azUp_at, if_true, if_false, true_and, and_true, true_implies, false_implies, implies_true, not_true_eq_false, not_false_eq_true, true_or, or_true, false_or, or_false, and_false, false_and, eq_self, n01_0, n01_1, nm1_0, hM.1]
        refine S_place hR hM (by omega) ?_
        rw [vp]
        unfold cPl
        rw [if_neg ek]
        simp (disch := omega) only [nI_ad, nI_ml, nI_lti, nI_lei, nI_eqi, nI_nn, nI_0le, nI_eq0, nI_0lt, nI_le0, nI_clamp, nI_pd, nI_sb, zOf_some, zOp_some, zOp_none, kI_int, kL_long, kO_ref, kO_null, nlt_T, nlt_F, nle_T, nle_F, neq_F, vpT, azUp_at, if_true, if_false, true_and, and_true, true_implies, false_implies, implies_true, not_true_eq_false, not_false_eq_true, true_or, or_true, false_or, or_false, and_false, false_and, eq_self, n01_0, n01_1, nm1_0, neq_F (a := c.2.1) (b := p)]
        exact h33'
theorem S_changeOf (hR : azClosed R) (hM : RuOk kd F r) {p : Nat} (hp : p < 10) (hc : cR I r cs pd) (hk : cs.length ≤ 12) (ho : cOK cs) (h : Q (some (.int (Int32.ofInt (rChg cs p)))) ((n, z, kd), I, J, F)) : R (d + 1) mX5_changeOf 0 [.ref r, .int (nI p), .retAddr 0, .retAddr 0] [] ((n, z, kd), I, J, F) Q :=
  BX5_changeOf_0 hR (L_changeOf hR hM hp hc hk ho h cs [] rfl)
end S5
