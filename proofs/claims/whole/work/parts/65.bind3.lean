/-! SPECS: Firing.bindFrom. -/
abbrev lF (l : List Nat) : Nat → Nat := fun h => l.getD h 0
/-- memory holds what the takes so far have chosen, and their names' tokens -/
def bInv (cs : List Cls) (m : Nat → List Nat) (a : Nat) (I : azI) (ch : List Nat) : Prop := ∀ h, h < ch.length → I (a + 1) h = nI (lF ch h) ∧ I (a + 2) (tkN cs h) = nI (tkV cs m (lF ch) h)
def bOK (cs : List Cls) (m : Nat → List Nat) (ch : List Nat) : Prop := ∀ h, h < ch.length → lF ch h < (m (tkP cs h)).length ∧ frB cs m (lF ch) h (lF ch h) = true
def cnt (one : Bool) (l : List (List Nat)) : Nat := if one then min 1 l.length else l.length
/-- what stands behind a search -/
def bPost (cs : List Cls) (m : Nat → List Nat) (a : Nat) (one : Bool) (I I' : azI) (ch : List Nat) (L : List (List Nat)) : Prop := (∀ c, c ≠ a + 1 → c ≠ a + 2 → c ≠ a + 3 → I' c = I c) ∧ bInv cs m a I' ch ∧ (one = true → ∀ x l, L = x :: l → bInv cs m a I' x)
theorem lF_app {ch : List Nat} {i h : Nat} (hh : h < ch.length) : lF (ch ++ [i]) h = lF ch h := by
  simp only [lF, List.getD_eq_getElem?_getD]
  rw [List.getElem?_append_left hh]
theorem lF_last {ch : List Nat} {i : Nat} : lF (ch ++ [i]) ch.length = i := by simp [lF]
theorem tkV_app {cs : List Cls} {m : Nat → List Nat} {ch : List Nat} {i h : Nat} (hh : h < ch.length) : tkV cs m (lF (ch ++ [i])) h = tkV cs m (lF ch) h := by
  unfold tkV; rw [lF_app hh]
theorem bInv.less {cs : List Cls} {m : Nat → List Nat} {a : Nat} {I : azI} {ch : List Nat} {i : Nat} (h : bInv cs m a I (ch ++ [i])) : bInv cs m a I ch := fun k hk => by
  have := h k (by rw [List.length_append]; omega)
  rw [lF_app hk, tkV_app hk] at this
  exact this
theorem bOK.app {cs : List Cls} {m : Nat → List Nat} {ch : List Nat} {i : Nat} (h : bOK cs m ch) (hi : i < (m (tkP cs ch.length)).length) (hf : frB cs m (lF ch) ch.length i = true) : bOK cs m (ch ++ [i]) := fun k hk => by
  rw [List.length_append, List.length_cons, List.length_nil] at hk
  by_cases e : k = ch.length
  · subst e
    rw [lF_last]
    refine ⟨hi, ?_⟩
    rw [frB_cong (ch' := lF ch) fun j hj => lF_app hj]
    exact hf
  · rw [lF_app (by omega)]
    refine ⟨(h k (by omega)).1, ?_⟩
    rw [frB_cong (ch' := lF ch) fun j hj => lF_app (by omega)]
    exact (h k (by omega)).2
/-- takes of one name have tokens that are equal -/
theorem bOK.same {cs : List Cls} {m : Nat → List Nat} {ch : List Nat} (h : bOK cs m ch) {j k : Nat} (hj : j < k) (hk : k < ch.length) (e : tkN cs j = tkN cs k) : tkV cs m (lF ch) j = tkV cs m (lF ch) k := by
  have := (h k hk).2
  unfold frB at this
  rw [List.all_eq_true] at this
  exact (of_decide_eq_true (this j (List.mem_range.mpr hj))).2 e
section S1
variable {R : azP} {d n z : Nat} {kd : azK} {J : azJ} {F : azR} {a r b : Nat} {cs : List Cls} {m : Nat → List Nat}
theorem S_bindFrom (hR : azClosed R) (hF : FiOk kd F a) (hM : RuOk kd F r) (hK : MkOk kd F b) (hra : a + 3 < r) (hba : b + 2 < a ∨ a + 3 < b) (hv : mOK m) (ho : rlOK cs) (one : Bool) : ∀ (w : Nat) (ch : List Nat) (I : azI) (Q : azQ), ch.length + w = nTk cs → cM I b m → cR I r cs [] → bInv cs m a I ch → bOK cs m ch → (∀ I', bPost cs m a one I I' ch (bnL cs m w ch) → Q (some (.int (nI (cnt one (bnL cs m w ch))))) ((n, z, kd), I', J, F)) → R (d + w + 3) mX1_bindFrom 0 [.ref a, .ref r, .ref b, .int (nI ch.length), .int (nI (if one then 1 else 0)), .retAddr 0, .retAddr 0, .retAddr 0, .retAddr 0, .retAddr 0] [] ((n, z, kd), I, J, F) Q := by
  have ⟨k0, k1, k2, k3, f0, f1, f2⟩ := hF
  have kb3 : (kd b).1 = 3 := by rw [hK.1]
  have h3 : nTk cs ≤ 3 := ho.2.2.2.1
  have keepM : ∀ {I I' : azI}, cM I b m → (∀ c, c ≠ a + 1 → c ≠ a + 2 → c ≠ a + 3 → I' c = I c) → cM I' b m := fun h hf => h.keep (hf _ (by omega) (by omega) (by omega)) (hf _ (by omega) (by omega) (by omega))
  have keepR : ∀ {I I' : azI}, cR I r cs [] → (∀ c, c ≠ a + 1 → c ≠ a + 2 → c ≠ a + 3 → I' c = I c) → cR I' r cs [] := fun h hf => h.keep fun c h1 h2 => hf c (by omega) (by omega) (by omega)
  intro w
  induction w with
  | zero =>
    intro ch I Q hl hm hc hb hok hQ
    have e1 : I r 1 = nI (nTk cs) := hc.2.1
    have en : cndB (fun w => I (a + 2) w) cs = cndB (nmF cs m (lF ch)) cs := cndB_cong ho fun j hj => by
      rw [nmF_eq (fun k hk => (hok k (by omega)).2) hj]
      exact (hb j (by omega)).2
    refine BX1_bindFrom_0 hR ?_
    simp (disch := omega) only [nI_ad, nI_ml, nI_lti, nI_lei, nI_eqi, nI_nn, nI_0le, nI_eq0, nI_0lt, nI_le0, nI_clamp, nI_pd, nI_sb, zOf_some, zOp_some, zOp_none, kI_int, kL_long, kO_ref, kO_null, nlt_T, nlt_F, nle_T, nle_F, neq_F, vpT, azUp_at, if_true, if_false, true_and, and_true, true_implies, false_implies, implies_true, not_true_eq_false, not_false_eq_true, true_or, or_true, false_or, or_false, and_false, false_and, eq_self, n01_0, n01_1, nm1_0, hM.1, e1, k0]
    refine S_conds hR hF hM hra hc ho fun I' hI' => ?_
    rw [en]
    have hbi : bInv cs m a I' ch := fun h hh => by rw [hI' (a + 1) (by omega), hI' (a + 2) (by omega)]; exact hb h hh
    unfold bnL at hQ
    by_cases c : cndB (nmF cs m (lF ch)) cs = true
    · rw [if_pos c] at hQ ⊢
      simp (disch := omega) only [nI_ad, nI_ml, nI_lti, nI_lei, nI_eqi, nI_nn, nI_0le, nI_eq0, nI_0lt, nI_le0, nI_clamp, nI_pd, nI_sb, zOf_some, zOp_some, zOp_none, kI_int, kL_long, kO_ref, kO_null, nlt_T, nlt_F, nle_T, nle_F, neq_F, vpT, azUp_at, if_true, if_false, true_and, and_true, true_implies, false_implies, implies_true, not_true_eq_false, not_false_eq_true, true_or, or_true, false_or, or_false, and_false, false_and, eq_self, n01_0, n01_1, nm1_0]
      have := hQ I' ⟨fun c _ _ h => hI' c h, hbi, fun _ x l e => by cases e; exact hbi⟩
      cases one <;> exact this
    · rw [if_neg c] at hQ ⊢
      simp (disch := omega) only [nI_ad, nI_ml, nI_lti, nI_lei, nI_eqi, nI_nn, nI_0le, nI_eq0, nI_0lt, nI_le0, nI_clamp, nI_pd, nI_sb, zOf_some, zOp_some, zOp_none, kI_int, kL_long, kO_ref, kO_null, nlt_T, nlt_F, nle_T, nle_F, neq_F, vpT, azUp_at, if_true, if_false, true_and, and_true, true_implies, false_implies, implies_true, not_true_eq_false, not_false_eq_true, true_or, or_true, false_or, or_false, and_false, false_and, eq_self, n01_0, n01_1, nm1_0]
      have := hQ I' ⟨fun c _ _ h => hI' c h, hbi, fun _ x l e => by cases e⟩
      cases one <;> exact this
  | succ w ih =>
    intro ch I Q hl hm hc hb hok hQ
    have e1 : I r 1 = nI (nTk cs) := hc.2.1
    obtain ⟨q, q1, q2, q3, q4, q5, q6⟩ := hc.tk ho (j := ch.length) (by omega)
    let f : Nat → List (List Nat) := fun i => if frB cs m (lF ch) ch.length i then bnL cs m w (ch ++ [i]) else []
    have ef : bnL cs m (w + 1) ch = (List.range' 0 (m (tkP cs ch.length)).length).flatMap f := by
      rw [← List.range_eq_range']; rfl
    rw [ef] at hQ
    have hp6 := (hv.1 (tkP cs ch.length)).1
    have main : ∀ (s i c : Nat) (I1 : azI) (Q : azQ), s + i = (m (tkP cs ch.length)).length → (one = true → c = 0) → (∀ c, c ≠ a + 1 → c ≠ a + 2 → c ≠ a + 3 → I1 c = I c) → bInv cs m a I1 ch → (∀ I', bPost cs m a one I I' ch ((List.range' i s).flatMap f) → Q (some (.int (nI (c + cnt one ((List.range' i s).flatMap f))))) ((n, z, kd), I', J, F)) → R (d + w + 4) mX1_bindFrom 56 [.ref a, .ref r, .ref b, .int (nI ch.length), .int (nI (if one then 1 else 0)), .int (nI q), .int (nI (tkP cs ch.length)), .int (nI (tkN cs ch.length)), .int (nI c), .int (nI i)] [] ((n, z, kd), I1, J, F) Q := by
      intro s
      induction s with
      | zero =>
        intro i c I1 Q hs hc0 hf hbi hQ
        refine BX1_bindFrom_56 hR ?_
        simp (disch := omega) only [nI_ad, nI_ml, nI_lti, nI_lei, nI_eqi, nI_nn, nI_0le, nI_eq0, nI_0lt, nI_le0, nI_clamp, nI_pd, nI_sb, zOf_some, zOp_some, zOp_none, kI_int, kL_long, kO_ref, kO_null, nlt_T, nlt_F, nle_T, nle_F, neq_F, vpT, azUp_at, if_true, if_false, true_and, and_true, true_implies, false_implies, implies_true, not_true_eq_false, not_false_eq_true, true_or, or_true, false_or, or_false, and_false, false_and, eq_self, n01_0, n01_1, nm1_0, kb3]
        refine S_count hR hK (keepM hm hf) q5 ?_
        simp (disch := omega) only [nI_ad, nI_ml, nI_lti, nI_lei, nI_eqi, nI_nn, nI_0le, nI_eq0, nI_0lt, nI_le0, nI_clamp, nI_pd, nI_sb, zOf_some, zOp_some, zOp_none, kI_int, kL_long, kO_ref, kO_null, nlt_T, nlt_F, nle_T, nle_F, neq_F, vpT, azUp_at, if_true, if_false, true_and, and_true, true_implies, false_implies, implies_true, not_true_eq_false, not_false_eq_true, true_or, or_true, false_or, or_false, and_false, false_and, eq_self, n01_0, n01_1, nm1_0]
        have := hQ I1 ⟨hf, hbi, fun _ x l e => by cases e⟩
        cases one <;> exact this
      | succ s ihs =>
        intro i c I1 Q hs hc0 hf hbi hQ
        have hi : i < (m (tkP cs ch.length)).length := by omega
        have hm1 := keepM hm hf
        have hr1 := keepR hc hf
        rw [List.range'_succ, List.flatMap_cons] at hQ
        have skip : f i = [] → ∀ I2, (∀ c, c ≠ a + 1 → c ≠ a + 2 → c ≠ a + 3 → I2 c = I c) → bInv cs m a I2 ch → R (d + w + 4) mX1_bindFrom 56 [.ref a, .ref r, .ref b, .int (nI ch.length), .int (nI (if one then 1 else 0)), .int (nI q), .int (nI (tkP cs ch.length)), .int (nI (tkN cs ch.length)), .int (nI c), .int (nI (i + 1))] [] ((n, z, kd), I2, J, F) Q := by
          intro e I2 hf2 hb2
          rw [e, List.nil_append] at hQ
          exact ihs (i + 1) c I2 Q (by omega) hc0 hf2 hb2 hQ
        refine BX1_bindFrom_56 hR ?_
        simp (disch := omega) only [nI_ad, nI_ml, nI_lti, nI_lei, nI_eqi, nI_nn, nI_0le, nI_eq0, nI_0lt, nI_le0, nI_clamp, nI_pd, nI_sb, zOf_some, zOp_some, zOp_none, kI_int, kL_long, kO_ref, kO_null, nlt_T, nlt_F, nle_T, nle_F, neq_F, vpT, azUp_at, if_true, if_false, true_and, and_true, true_implies, false_implies, implies_true, not_true_eq_false, not_false_eq_true, true_or, or_true, false_or, or_false, and_false, false_and, eq_self, n01_0, n01_1, nm1_0, kb3]
        refine S_count hR hK hm1 q5 ?_
        simp (disch := omega) only [nI_ad, nI_ml, nI_lti, nI_lei, nI_eqi, nI_nn, nI_0le, nI_eq0, nI_0lt, nI_le0, nI_clamp, nI_pd, nI_sb, zOf_some, zOp_some, zOp_none, kI_int, kL_long, kO_ref, kO_null, nlt_T, nlt_F, nle_T, nle_F, neq_F, vpT, azUp_at, if_true, if_false, true_and, and_true, true_implies, false_implies, implies_true, not_true_eq_false, not_false_eq_true, true_or, or_true, false_or, or_false, and_false, false_and, eq_self, n01_0, n01_1, nm1_0, k0]
        refine S_isFree hR hF hM hK hm1 hv hr1 ho (ch := lF ch) (by omega) (fun h hh => ⟨(hbi h hh).1, (hok h hh).1⟩) hi ?_
        by_cases fr : frB cs m (lF ch) ch.length i = true
        · rw [if_pos fr]
          have hfi : f i = bnL cs m w (ch ++ [i]) := if_pos fr
          simp (disch := omega) only [nI_ad, nI_ml, nI_lti, nI_lei, nI_eqi, nI_nn, nI_0le, nI_eq0, nI_0lt, nI_le0, nI_clamp, nI_pd, nI_sb, zOf_some, zOp_some, zOp_none, kI_int, kL_long, kO_ref, kO_null, nlt_T, nlt_F, nle_T, nle_F, neq_F, vpT, azUp_at, if_true, if_false, true_and, and_true, true_implies, false_implies, implies_true, not_true_eq_false, not_false_eq_true, true_or, or_true, false_or, or_false, and_false, false_and, eq_self, n01_0, n01_1, nm1_0, k0, f0, f1, k1, k2, kb3]
          have hm2 : cM (azUp I1 (a + 1) ch.length (nI i)) b m := hm1.keep (azUp_nb (by omega)) (azUp_nb (by omega))
          refine S_at hR hK hm2 hv ?_
          rw [atS_nI hv q5 hi]
          simp (disch := omega) only [nI_ad, nI_ml, nI_lti, nI_lei, nI_eqi, nI_nn, nI_0le, nI_eq0, nI_0lt, nI_le0, nI_clamp, nI_pd, nI_sb, zOf_some, zOp_some, zOp_none, kI_int, kL_long, kO_ref, kO_null, nlt_T, nlt_F, nle_T, nle_F, neq_F, vpT, azUp_at, if_true, if_false, true_and, and_true, true_implies, false_implies, implies_true, not_true_eq_false, not_false_eq_true, true_or, or_true, false_or, or_false, and_false, false_and, eq_self, n01_0, n01_1, nm1_0, k2]
          have ht := hv.tok hi
          generalize hI2 : azUp (azUp I1 (a + 1) ch.length (nI i)) (a + 2) (tkN cs ch.length) (nI ((m (tkP cs ch.length)).getD i 0)) = I2
          have g1 : ∀ c, c ≠ a + 1 → c ≠ a + 2 → c ≠ a + 3 → I2 c = I c := fun c h1 h2 h3 => by
            rw [← hI2, azUp_nb h2, azUp_nb h1]; exact hf c h1 h2 h3
          have hok2 := hok.app hi fr
          have g2 : bInv cs m a I2 (ch ++ [i]) := fun h hh => by
            rw [List.length_append, List.length_cons, List.length_nil] at hh
            by_cases e : h = ch.length
            · subst e
              rw [lF_last]
              refine ⟨?_, ?_⟩
              · rw [← hI2, azUp_nb (by omega), azUp_s]
              · rw [← hI2, azUp_s]; unfold tkV; rw [lF_last]
            · have hh' : h < ch.length := by omega
              refine ⟨?_, ?_⟩
              · rw [lF_app hh', ← hI2, azUp_nb (by omega), azUp_nk e]; exact (hbi h hh').1
              · by_cases e2 : tkN cs h = tkN cs ch.length
                · rw [hok2.same hh' (by simp) e2, e2, ← hI2, azUp_s]
                  unfold tkV; rw [lF_last]
                · rw [tkV_app hh', ← hI2, azUp_nk e2, azUp_nb (by omega)]; exact (hbi h hh').2
          have el : ch.length + 1 = (ch ++ [i]).length := by simp
          rw [el]
          refine ⟨k0, ih (ch ++ [i]) I2 _ (by rw [← el]; omega) (keepM hm g1) (keepR hc g1) g2 hok2 fun I3 hp => ?_⟩
          obtain ⟨p1, p2, p3⟩ := hp
          have p1' : ∀ c, c ≠ a + 1 → c ≠ a + 2 → c ≠ a + 3 → I3 c = I c := fun c h1 h2 h3 => by rw [p1 c h1 h2 h3, g1 c h1 h2 h3]
          rw [hfi] at hQ
          cases one with
          | false =>
            simp (disch := omega) only [nI_ad, nI_ml, nI_lti, nI_lei, nI_eqi, nI_nn, nI_0le, nI_eq0, nI_0lt, nI_le0, nI_clamp, nI_pd, nI_sb, zOf_some, zOp_some, zOp_none, kI_int, kL_long, kO_ref, kO_null, nlt_T, nlt_F, nle_T, nle_F, neq_F, vpT, azUp_at, if_true, if_false, true_and, and_true, true_implies, false_implies, implies_true, not_true_eq_false, not_false_eq_true, true_or, or_true, false_or, or_false, and_false, false_and, eq_self, n01_0, n01_1, nm1_0, Bool.false_eq_true]
            refine ihs (i + 1) (c + cnt false (bnL cs m w (ch ++ [i]))) I3 Q (by omega) (fun h => by cases h) p1' p2.less fun I' hp' => ?_
            have := hQ I' ⟨hp'.1, hp'.2.1, fun h => by cases h⟩
            have e3 : ∀ l1 l2 : List (List Nat), c + cnt false (l1 ++ l2) = c + cnt false l1 + cnt false l2 := fun l1 l2 => by
              simp [cnt, Nat.add_assoc]
            rw [e3] at this
            exact this
          | true =>
            obtain rfl := hc0 rfl
            cases hb0 : bnL cs m w (ch ++ [i]) with
            | nil =>
              have e0 : nI (cnt true ([] : List (List Nat))) = nI 0 := rfl
              rw [e0]
              simp (disch := omega) only [nI_ad, nI_ml, nI_lti, nI_lei, nI_eqi, nI_nn, nI_0le, nI_eq0, nI_0lt, nI_le0, nI_clamp, nI_pd, nI_sb, zOf_some, zOp_some, zOp_none, kI_int, kL_long, kO_ref, kO_null, nlt_T, nlt_F, nle_T, nle_F, neq_F, vpT, azUp_at, if_true, if_false, true_and, and_true, true_implies, false_implies, implies_true, not_true_eq_false, not_false_eq_true, true_or, or_true, false_or, or_false, and_false, false_and, eq_self, n01_0, n01_1, nm1_0]
              exact skip (hfi.trans hb0) I3 p1' p2.less
            | cons x l =>
              have e0 : nI (cnt true (x :: l)) = nI 1 := by
                unfold cnt
                rw [if_pos rfl, List.length_cons, Nat.min_eq_left (by omega)]
              rw [e0]
              rw [hb0] at hQ p3
              simp (disch := omega) only [nI_ad, nI_ml, nI_lti, nI_lei, nI_eqi, nI_nn, nI_0le, nI_eq0, nI_0lt, nI_le0, nI_clamp, nI_pd, nI_sb, zOf_some, zOp_some, zOp_none, kI_int, kL_long, kO_ref, kO_null, nlt_T, nlt_F, nle_T, nle_F, neq_F, vpT, azUp_at, if_true, if_false, true_and, and_true, true_implies, false_implies, implies_true, not_true_eq_false, not_false_eq_true, true_or, or_true, false_or, or_false, and_false, false_and, eq_self, n01_0, n01_1, nm1_0]
              have := hQ I3 ⟨p1', p2.less, fun _ x' l' e => by cases e; exact p3 rfl x l rfl⟩
              have e4 : 0 + cnt true (x :: l ++ (List.range' (i + 1) s).flatMap f) = 1 := by
                unfold cnt
                rw [if_pos rfl, List.cons_append, List.length_cons, Nat.min_eq_left (by omega)]
              rw [e4] at this
              exact this
        · rw [if_neg fr]
          have hfi : f i = [] := if_neg fr
          simp (disch := omega) only [nI_ad, nI_ml, nI_lti, nI_lei, nI_eqi, nI_nn, nI_0le, nI_eq0, nI_0lt, nI_le0, nI_clamp, nI_pd, nI_sb, zOf_some, zOp_some, zOp_none, kI_int, kL_long, kO_ref, kO_null, nlt_T, nlt_F, nle_T, nle_F, neq_F, vpT, azUp_at, if_true, if_false, true_and, and_true, true_implies, false_implies, implies_true, not_true_eq_false, not_false_eq_true, true_or, or_true, false_or, or_false, and_false, false_and, eq_self, n01_0, n01_1, nm1_0]
          exact skip hfi I1 hf hbi
    refine BX1_bindFrom_0 hR ?_
    simp (disch := omega) only [nI_ad, nI_ml, nI_lti, nI_lei, nI_eqi, nI_nn, nI_0le, nI_eq0, nI_0lt, nI_le0, nI_clamp, nI_pd, nI_sb, zOf_some, zOp_some, zOp_none, kI_int, kL_long, kO_ref, kO_null, nlt_T, nlt_F, nle_T, nle_F, neq_F, vpT, azUp_at, if_true, if_false, true_and, and_true, true_implies, false_implies, implies_true, not_true_eq_false, not_false_eq_true, true_or, or_true, false_or, or_false, and_false, false_and, eq_self, n01_0, n01_1, nm1_0, hM.1, e1]
    refine S_takeClause hR hM (by omega) ?_
    rw [q2]
    simp (disch := omega) only [nI_ad, nI_ml, nI_lti, nI_lei, nI_eqi, nI_nn, nI_0le, nI_eq0, nI_0lt, nI_le0, nI_clamp, nI_pd, nI_sb, zOf_some, zOp_some, zOp_none, kI_int, kL_long, kO_ref, kO_null, nlt_T, nlt_F, nle_T, nle_F, neq_F, vpT, azUp_at, if_true, if_false, true_and, and_true, true_implies, false_implies, implies_true, not_true_eq_false, not_false_eq_true, true_or, or_true, false_or, or_false, and_false, false_and, eq_self, n01_0, n01_1, nm1_0, hM.1]
    refine S_place hR hM q1 ?_
    rw [q3]
    simp (disch := omega) only [nI_ad, nI_ml, nI_lti, nI_lei, nI_eqi, nI_nn, nI_0le, nI_eq0, nI_0lt, nI_le0, nI_clamp, nI_pd, nI_sb, zOf_some, zOp_some, zOp_none, kI_int, kL_long, kO_ref, kO_null, nlt_T, nlt_F, nle_T, nle_F, neq_F, vpT, azUp_at, if_true, if_false, true_and, and_true, true_implies, false_implies, implies_true, not_true_eq_false, not_false_eq_true, true_or, or_true, false_or, or_false, and_false, false_and, eq_self, n01_0, n01_1, nm1_0, hM.1]
    refine S_name hR hM q1 ?_
    rw [q4]
    simp (disch := omega) only [nI_ad, nI_ml, nI_lti, nI_lei, nI_eqi, nI_nn, nI_0le, nI_eq0, nI_0lt, nI_le0, nI_clamp, nI_pd, nI_sb, zOf_some, zOp_some, zOp_none, kI_int, kL_long, kO_ref, kO_null, nlt_T, nlt_F, nle_T, nle_F, neq_F, vpT, azUp_at, if_true, if_false, true_and, and_true, true_implies, false_implies, implies_true, not_true_eq_false, not_false_eq_true, true_or, or_true, false_or, or_false, and_false, false_and, eq_self, n01_0, n01_1, nm1_0]
    refine main (m (tkP cs ch.length)).length 0 0 I Q rfl (fun _ => rfl) (fun _ _ _ _ => rfl) hb fun I' hp => ?_
    rw [Nat.zero_add]
    exact hQ I' hp
end S1
