/-! SPECS: Firing.isFree. -/
theorem atS_nI {m : Nat → List Nat} (hv : mOK m) {p j : Nat} (hp : p < 10) (hj : j < (m p).length) : atS m (nI p) (nI j) = nI ((m p).getD j 0) := by
  have hl := (hv.1 p).1
  unfold atS
  rw [ix_nI (by decide) hp]
  dsimp only
  rw [ix_nI (by omega) hj]
theorem mOK.tok {m : Nat → List Nat} (hv : mOK m) {p j : Nat} (hj : j < (m p).length) : (m p).getD j 0 < 100 := by
  rw [List.getD_eq_getElem?_getD, List.getElem?_eq_getElem hj]
  exact (hv.1 p).2 _ (List.getElem_mem hj)
/-- the take h ahead lets the take k have the token i -/
def fr1 (cs : List Cls) (m : Nat → List Nat) (ch : Nat → Nat) (k i h : Nat) : Bool := decide (¬ (tkP cs h = tkP cs k ∧ ch h = i) ∧ (tkN cs h = tkN cs k → (m (tkP cs h)).getD (ch h) 0 = (m (tkP cs k)).getD i 0))
def frB (cs : List Cls) (m : Nat → List Nat) (ch : Nat → Nat) (k i : Nat) : Bool := (List.range k).all (fr1 cs m ch k i)
section S1
variable {R : azP} {D d n z : Nat} {kd : azK} {I : azI} {J : azJ} {F : azR} {Q : azQ} {a r b : Nat} {kb : Nat} {cs l1 l2 : List Cls} {c : Cls} {m : Nat → List Nat}
theorem S_isFree (hR : azClosed R) (hF : FiOk kd F a) (hM : RuOk kd F r) (hK : MkOk kd F b) (hm : cM I b m) (hv : mOK m) (hc : cR I r cs []) (ho : rlOK cs) {ch : Nat → Nat} {k i : Nat} (hk : k < nTk cs) (hch : ∀ h, h < k → I (a + 1) h = nI (ch h) ∧ ch h < (m (tkP cs h)).length) (hi : i < (m (tkP cs k)).length) (h : Q (some (.int (nI (if frB cs m ch k i then 1 else 0)))) ((n, z, kd), I, J, F)) : R (d + 2) mX1_isFree 0 [.ref a, .ref r, .ref b, .int (nI k), .int (nI i), .retAddr 0, .retAddr 0, .retAddr 0, .retAddr 0] [] ((n, z, kd), I, J, F) Q := by
  have ⟨k0, k1, k2, k3, f0, f1, f2⟩ := hF
  have kb3 : (kd b).1 = 3 := by rw [hK.1]
  have h3 : nTk cs ≤ 3 := ho.2.2.2.1
  obtain ⟨q, q1, q2, q3, q4, q5, q6⟩ := hc.tk ho hk
  have hi6 : i < 6 := by have := (hv.1 (tkP cs k)).1; omega
  have ht := hv.tok hi
  have main : ∀ mm g (w8 : Value), mm + g = k → (∀ h, h < g → fr1 cs m ch k i h = true) → R (d + 2) mX1_isFree 24 [.ref a, .ref r, .ref b, .int (nI k), .int (nI i), .int (nI q), .int (nI ((m (tkP cs k)).getD i 0)), .int (nI g), w8] [] ((n, z, kd), I, J, F) Q := by
    intro mm
    induction mm with
    | zero =>
      intro g w8 hg hn
      obtain rfl : g = k := by omega
      have ef : frB cs m ch g i = true := by
        unfold frB
        rw [List.all_eq_true]
        exact fun x hx => hn x (List.mem_range.mp hx)
      rw [ef, if_pos rfl] at h
      refine BX1_isFree_24 hR ?_
      simp (disch := omega) only [nI_ad, nI_ml, nI_lti, nI_lei, nI_eqi, nI_nn, nI_0le, nI_eq0, nI_0lt, nI_le0, nI_clamp, nI_pd, nI_sb, zOf_some, zOp_some, zOp_none, kI_int, kL_long, kO_ref, kO_null, nlt_T, nlt_F, nle_T, nle_F, neq_F, vpT, azUp_at, if_true, if_false, true_and, and_true, true_implies, false_implies, implies_true, not_true_eq_false, not_false_eq_true, true_or, or_true, false_or, or_false, and_false, false_and, eq_self, n01_0, n01_1, nm1_0]
      exact h
    | succ mm ih =>
      intro g w8 hg hn
      obtain ⟨s, s1, s2, s3, s4, s5, s6⟩ := hc.tk ho (j := g) (by omega)
      obtain ⟨c1, c2⟩ := hch g (by omega)
      have cg6 : ch g < 6 := by have := (hv.1 (tkP cs g)).1; omega
      have htg := hv.tok c2
      have bad : fr1 cs m ch k i g = false → Q (some (.int (nI 0))) ((n, z, kd), I, J, F) := fun hb => by
        have ef : frB cs m ch k i = false := by
          unfold frB
          rw [List.all_eq_false]
          exact ⟨g, List.mem_range.mpr (by omega), by simp [hb]⟩
        rw [ef, if_neg (by decide)] at h
        exact h
      have good : fr1 cs m ch k i g = true → ∀ w8, R (d + 2) mX1_isFree 24 [.ref a, .ref r, .ref b, .int (nI k), .int (nI i), .int (nI q), .int (nI ((m (tkP cs k)).getD i 0)), .int (nI (g + 1)), w8] [] ((n, z, kd), I, J, F) Q := fun hgd w8 => ih (g + 1) w8 (by omega) fun x hx => by
        by_cases e : x = g
        · subst e; exact hgd
        · exact hn x (by omega)
      have h73 : ¬ (tkP cs g = tkP cs k ∧ ch g = i) → R (d + 2) mX1_isFree 73 [.ref a, .ref r, .ref b, .int (nI k), .int (nI i), .int (nI q), .int (nI ((m (tkP cs k)).getD i 0)), .int (nI g), .int (nI s)] [] ((n, z, kd), I, J, F) Q := by
        intro hx
        refine BX1_isFree_73 hR ?_
        simp (disch := omega) only [nI_ad, nI_ml, nI_lti, nI_lei, nI_eqi, nI_nn, nI_0le, nI_eq0, nI_0lt, nI_le0, nI_clamp, nI_pd, nI_sb, zOf_some, zOp_some, zOp_none, kI_int, kL_long, kO_ref, kO_null, nlt_T, nlt_F, nle_T, nle_F, neq_F, vpT, azUp_at, if_true, if_false, true_and, and_true, true_implies, false_implies, implies_true, not_true_eq_false, not_false_eq_true, true_or, or_true, false_or, or_false, and_false, false_and, eq_self, n01_0, n01_1, nm1_0, hM.1]
        refine S_name hR hM s1 ?_
        rw [s4]
        simp (disch := omega) only [nI_ad, nI_ml, nI_lti, nI_lei, nI_eqi, nI_nn, nI_0le, nI_eq0, nI_0lt, nI_le0, nI_clamp, nI_pd, nI_sb, zOf_some, zOp_some, zOp_none, kI_int, kL_long, kO_ref, kO_null, nlt_T, nlt_F, nle_T, nle_F, neq_F, vpT, azUp_at, if_true, if_false, true_and, and_true, true_implies, false_implies, implies_true, not_true_eq_false, not_false_eq_true, true_or, or_true, false_or, or_false, and_false, false_and, eq_self, n01_0, n01_1, nm1_0, hM.1]
        refine S_name hR hM q1 ?_
        rw [q4]
        by_cases n1 : tkN cs g = tkN cs k
        · simp (disch := omega) only [nI_ad, nI_ml, nI_lti, nI_lei, nI_eqi, nI_nn, nI_0le, nI_eq0, nI_0lt, nI_le0, nI_clamp, nI_pd, nI_sb, zOf_some, zOp_some, zOp_none, kI_int, kL_long, kO_ref, kO_null, nlt_T, nlt_F, nle_T, nle_F, neq_F, vpT, azUp_at, if_true, if_false, true_and, and_true, true_implies, false_implies, implies_true, not_true_eq_false, not_false_eq_true, true_or, or_true, false_or, or_false, and_false, false_and, eq_self, n01_0, n01_1, nm1_0, n1, hM.1]
          refine S_place hR hM s1 ?_
          rw [s3]
          simp (disch := omega) only [nI_ad, nI_ml, nI_lti, nI_lei, nI_eqi, nI_nn, nI_0le, nI_eq0, nI_0lt, nI_le0, nI_clamp, nI_pd, nI_sb, zOf_some, zOp_some, zOp_none, kI_int, kL_long, kO_ref, kO_null, nlt_T, nlt_F, nle_T, nle_F, neq_F, vpT, azUp_at, if_true, if_false, true_and, and_true, true_implies, false_implies, implies_true, not_true_eq_false, not_false_eq_true, true_or, or_true, false_or, or_false, and_false, false_and, eq_self, n01_0, n01_1, nm1_0, k0, f0, k1, c1, kb3]
          refine S_at hR hK hm hv ?_
          rw [atS_nI hv s5 c2]
          by_cases v1 : (m (tkP cs g)).getD (ch g) 0 = (m (tkP cs k)).getD i 0
          · simp (disch := omega) only [nI_ad, nI_ml, nI_lti, nI_lei, nI_eqi, nI_nn, nI_0le, nI_eq0, nI_0lt, nI_le0, nI_clamp, nI_pd, nI_sb, zOf_some, zOp_some, zOp_none, kI_int, kL_long, kO_ref, kO_null, nlt_T, nlt_F, nle_T, nle_F, neq_F, vpT, azUp_at, if_true, if_false, true_and, and_true, true_implies, false_implies, implies_true, not_true_eq_false, not_false_eq_true, true_or, or_true, false_or, or_false, and_false, false_and, eq_self, n01_0, n01_1, nm1_0, v1]
            exact good (decide_eq_true ⟨hx, fun _ => v1⟩) _
          · simp (disch := omega) only [nI_ad, nI_ml, nI_lti, nI_lei, nI_eqi, nI_nn, nI_0le, nI_eq0, nI_0lt, nI_le0, nI_clamp, nI_pd, nI_sb, zOf_some, zOp_some, zOp_none, kI_int, kL_long, kO_ref, kO_null, nlt_T, nlt_F, nle_T, nle_F, neq_F, vpT, azUp_at, if_true, if_false, true_and, and_true, true_implies, false_implies, implies_true, not_true_eq_false, not_false_eq_true, true_or, or_true, false_or, or_false, and_false, false_and, eq_self, n01_0, n01_1, nm1_0, v1]
            exact bad (decide_eq_false fun hh => v1 (hh.2 n1))
        · simp (disch := omega) only [nI_ad, nI_ml, nI_lti, nI_lei, nI_eqi, nI_nn, nI_0le, nI_eq0, nI_0lt, nI_le0, nI_clamp, nI_pd, nI_sb, zOf_some, zOp_some, zOp_none, kI_int, kL_long, kO_ref, kO_null, nlt_T, nlt_F, nle_T, nle_F, neq_F, vpT, azUp_at, if_true, if_false, true_and, and_true, true_implies, false_implies, implies_true, not_true_eq_false, not_false_eq_true, true_or, or_true, false_or, or_false, and_false, false_and, eq_self, n01_0, n01_1, nm1_0, n1]
          exact good (decide_eq_true ⟨hx, fun e => absurd e n1⟩) _
      refine BX1_isFree_24 hR ?_
      simp (disch := omega) only [nI_ad, nI_ml, nI_lti, nI_lei, nI_eqi, nI_nn, nI_0le, nI_eq0, nI_0lt, nI_le0, nI_clamp, nI_pd, nI_sb, zOf_some, zOp_some, zOp_none, kI_int, kL_long, kO_ref, kO_null, nlt_T, nlt_F, nle_T, nle_F, neq_F, vpT, azUp_at, if_true, if_false, true_and, and_true, true_implies, false_implies, implies_true, not_true_eq_false, not_false_eq_true, true_or, or_true, false_or, or_false, and_false, false_and, eq_self, n01_0, n01_1, nm1_0, hM.1]
      refine S_takeClause hR hM (by omega) ?_
      rw [s2]
      simp (disch := omega) only [nI_ad, nI_ml, nI_lti, nI_lei, nI_eqi, nI_nn, nI_0le, nI_eq0, nI_0lt, nI_le0, nI_clamp, nI_pd, nI_sb, zOf_some, zOp_some, zOp_none, kI_int, kL_long, kO_ref, kO_null, nlt_T, nlt_F, nle_T, nle_F, neq_F, vpT, azUp_at, if_true, if_false, true_and, and_true, true_implies, false_implies, implies_true, not_true_eq_false, not_false_eq_true, true_or, or_true, false_or, or_false, and_false, false_and, eq_self, n01_0, n01_1, nm1_0, hM.1]
      refine S_place hR hM s1 ?_
      rw [s3]
      simp (disch := omega) only [nI_ad, nI_ml, nI_lti, nI_lei, nI_eqi, nI_nn, nI_0le, nI_eq0, nI_0lt, nI_le0, nI_clamp, nI_pd, nI_sb, zOf_some, zOp_some, zOp_none, kI_int, kL_long, kO_ref, kO_null, nlt_T, nlt_F, nle_T, nle_F, neq_F, vpT, azUp_at, if_true, if_false, true_and, and_true, true_implies, false_implies, implies_true, not_true_eq_false, not_false_eq_true, true_or, or_true, false_or, or_false, and_false, false_and, eq_self, n01_0, n01_1, nm1_0, hM.1]
      refine S_place hR hM q1 ?_
      rw [q3]
      by_cases p1 : tkP cs g = tkP cs k
      · by_cases p2 : ch g = i
        · simp (disch := omega) only [nI_ad, nI_ml, nI_lti, nI_lei, nI_eqi, nI_nn, nI_0le, nI_eq0, nI_0lt, nI_le0, nI_clamp, nI_pd, nI_sb, zOf_some, zOp_some, zOp_none, kI_int, kL_long, kO_ref, kO_null, nlt_T, nlt_F, nle_T, nle_F, neq_F, vpT, azUp_at, if_true, if_false, true_and, and_true, true_implies, false_implies, implies_true, not_true_eq_false, not_false_eq_true, true_or, or_true, false_or, or_false, and_false, false_and, eq_self, n01_0, n01_1, nm1_0, p1, k0, f0, k1, c1, p2]
          exact bad (decide_eq_false fun hh => hh.1 ⟨p1, p2⟩)
        · simp (disch := omega) only [nI_ad, nI_ml, nI_lti, nI_lei, nI_eqi, nI_nn, nI_0le, nI_eq0, nI_0lt, nI_le0, nI_clamp, nI_pd, nI_sb, zOf_some, zOp_some, zOp_none, kI_int, kL_long, kO_ref, kO_null, nlt_T, nlt_F, nle_T, nle_F, neq_F, vpT, azUp_at, if_true, if_false, true_and, and_true, true_implies, false_implies, implies_true, not_true_eq_false, not_false_eq_true, true_or, or_true, false_or, or_false, and_false, false_and, eq_self, n01_0, n01_1, nm1_0, p1, k0, f0, k1, c1, p2]
          exact h73 fun hx => p2 hx.2
      · simp (disch := omega) only [nI_ad, nI_ml, nI_lti, nI_lei, nI_eqi, nI_nn, nI_0le, nI_eq0, nI_0lt, nI_le0, nI_clamp, nI_pd, nI_sb, zOf_some, zOp_some, zOp_none, kI_int, kL_long, kO_ref, kO_null, nlt_T, nlt_F, nle_T, nle_F, neq_F, vpT, azUp_at, if_true, if_false, true_and, and_true, true_implies, false_implies, implies_true, not_true_eq_false, not_false_eq_true, true_or, or_true, false_or, or_false, and_false, false_and, eq_self, n01_0, n01_1, nm1_0, p1]
        exact h73 fun hx => p1 hx.1
  refine BX1_isFree_0 hR ?_
  simp (disch := omega) only [nI_ad, nI_ml, nI_lti, nI_lei, nI_eqi, nI_nn, nI_0le, nI_eq0, nI_0lt, nI_le0, nI_clamp, nI_pd, nI_sb, zOf_some, zOp_some, zOp_none, kI_int, kL_long, kO_ref, kO_null, nlt_T, nlt_F, nle_T, nle_F, neq_F, vpT, azUp_at, if_true, if_false, true_and, and_true, true_implies, false_implies, implies_true, not_true_eq_false, not_false_eq_true, true_or, or_true, false_or, or_false, and_false, false_and, eq_self, n01_0, n01_1, nm1_0, hM.1]
  refine S_takeClause hR hM (by omega) ?_
  rw [q2]
  simp (disch := omega) only [nI_ad, nI_ml, nI_lti, nI_lei, nI_eqi, nI_nn, nI_0le, nI_eq0, nI_0lt, nI_le0, nI_clamp, nI_pd, nI_sb, zOf_some, zOp_some, zOp_none, kI_int, kL_long, kO_ref, kO_null, nlt_T, nlt_F, nle_T, nle_F, neq_F, vpT, azUp_at, if_true, if_false, true_and, and_true, true_implies, false_implies, implies_true, not_true_eq_false, not_false_eq_true, true_or, or_true, false_or, or_false, and_false, false_and, eq_self, n01_0, n01_1, nm1_0, hM.1]
  refine S_place hR hM q1 ?_
  rw [q3]
  simp (disch := omega) only [nI_ad, nI_ml, nI_lti, nI_lei, nI_eqi, nI_nn, nI_0le, nI_eq0, nI_0lt, nI_le0, nI_clamp, nI_pd, nI_sb, zOf_some, zOp_some, zOp_none, kI_int, kL_long, kO_ref, kO_null, nlt_T, nlt_F, nle_T, nle_F, neq_F, vpT, azUp_at, if_true, if_false, true_and, and_true, true_implies, false_implies, implies_true, not_true_eq_false, not_false_eq_true, true_or, or_true, false_or, or_false, and_false, false_and, eq_self, n01_0, n01_1, nm1_0, kb3]
  refine S_at hR hK hm hv ?_
  rw [atS_nI hv q5 hi]
  simp (disch := omega) only [nI_ad, nI_ml, nI_lti, nI_lei, nI_eqi, nI_nn, nI_0le, nI_eq0, nI_0lt, nI_le0, nI_clamp, nI_pd, nI_sb, zOf_some, zOp_some, zOp_none, kI_int, kL_long, kO_ref, kO_null, nlt_T, nlt_F, nle_T, nle_F, neq_F, vpT, azUp_at, if_true, if_false, true_and, and_true, true_implies, false_implies, implies_true, not_true_eq_false, not_false_eq_true, true_or, or_true, false_or, or_false, and_false, false_and, eq_self, n01_0, n01_1, nm1_0]
  exact main k 0 _ rfl fun h hh => absurd hh (Nat.not_lt_zero _)
end S1
