/-! WALKS: pure; Walks.numberOfNext. -/
abbrev Mk := Nat → List Nat
/-- what is found, from where and by which part, and where each part leads: none it can't go, some none to none -/
abbrev WS := List Mk × List (Nat × Nat) × List (Option (Option Nat))
def pfire (rs : Nat → Option (List Cls)) (p : Nat) (m : Mk) : Option Mk := match rs p with
  | none => none
  | some cs => fire cs m
def fidx (m : Mk) : Nat → List Mk → Option Nat
  | _, [] => none
  | i, x :: l => if mEq x m then some i else fidx m (i + 1) l
/-- the number of a marking, which is found now if it wasn't and there is room -/
def numS (N : Nat) (S : WS) (w : Nat × Nat) (m : Mk) : WS × Option Nat := match fidx m 0 S.1 with
  | some i => (S, some i)
  | none => if S.1.length < N then ((S.1 ++ [m], S.2.1 ++ [w], S.2.2), some S.1.length) else (S, none)
def stepS (N : Nat) (rs : Nat → Option (List Cls)) (S : WS) (f p : Nat) : WS := match pfire rs p (S.1.getD f mNil) with
  | none => (S.1, S.2.1, S.2.2 ++ [none])
  | some m => ((numS N S (f, p) m).1.1, (numS N S (f, p) m).1.2.1, S.2.2 ++ [some (numS N S (f, p) m).2])
def srch (N : Nat) (rs : Nat → Option (List Cls)) : Nat → WS → WS
  | 0, S => S
  | n + 1, S => if S.2.2.length < 10 * S.1.length then srch N rs n (stepS N rs S (S.2.2.length / 10) (S.2.2.length % 10)) else S
/-- all that is found, N at most -/
def wk (N : Nat) (rs : Nat → Option (List Cls)) (m : Mk) : WS := srch N rs 600 ([m], [(0, 0)], [])
theorem fidx_cons {m x : Mk} {l : List Mk} {i : Nat} : fidx m i (x :: l) = if mEq x m then some i else fidx m (i + 1) l := rfl
theorem fidx_lt {m : Mk} : ∀ (l : List Mk) (i k : Nat), fidx m i l = some k → i ≤ k ∧ k < i + l.length := by
  intro l
  induction l with
  | nil => intro i k h; cases h
  | cons x l ih =>
    intro i k h
    unfold fidx at h
    by_cases c : mEq x m = true
    · rw [if_pos c] at h
      cases h
      rw [List.length_cons]; omega
    · rw [if_neg c] at h
      have := ih (i + 1) k h
      rw [List.length_cons]; omega
def ldI (x : Option (Option Nat)) : Int32 := match x with
  | some (some i) => nI i
  | _ => -(nI 1)
def abl (ld : List (Option (Option Nat))) (i : Nat) : Nat → Nat
  | 0 => 0
  | p + 1 => if (ld.getD (10 * i + p) none).isSome then abl ld i p ||| 2 ^ p else abl ld i p
theorem abl_app {ld : List (Option (Option Nat))} {x : Option (Option Nat)} {i : Nat} : ∀ p, 10 * i + p ≤ ld.length → abl (ld ++ [x]) i p = abl ld i p := by
  intro p
  induction p with
  | zero => intro _; rfl
  | succ p ih =>
    intro h
    unfold abl
    rw [ih (by omega)]
    have e : (ld ++ [x]).getD (10 * i + p) none = ld.getD (10 * i + p) none := by
      simp only [List.getD_eq_getElem?_getD]
      rw [List.getElem?_append_left (by omega)]
    rw [e]
theorem abl_lt {ld : List (Option (Option Nat))} {i : Nat} : ∀ p, abl ld i p < 2 ^ p := by
  intro p
  induction p with
  | zero => exact Nat.one_pos
  | succ p ih =>
    unfold abl
    have h1 : 2 ^ p < 2 ^ (p + 1) := Nat.pow_lt_pow_right (by decide) (by omega)
    split
    · exact Nat.or_lt_two_pow (by omega) h1
    · omega
def WkOk (kd : azK) (F : azR) (a : Nat) : Prop := (kd a).1 = 7 ∧ kd (a + 1) = (13, 60) ∧ (∀ i, i < 60 → F (a + 1) i = some (a + 2 + 3 * i) ∧ MkOk kd F (a + 2 + 3 * i)) ∧ MkOk kd F (a + 182) ∧ kd (a + 185) = (10, 60) ∧ kd (a + 186) = (10, 60) ∧ kd (a + 187) = (10, 60) ∧ kd (a + 188) = (10, 600) ∧ kd (a + 189) = (12, 60) ∧ F a 0 = some (a + 1) ∧ F a 1 = some (a + 182) ∧ F a 2 = some (a + 185) ∧ F a 3 = some (a + 186) ∧ F a 4 = some (a + 187) ∧ F a 5 = some (a + 188) ∧ F a 6 = some (a + 189)
/-- what walks are, in the class -/
def cWp (I : azI) (a : Nat) (S : WS) : Prop := I a 7 = nI S.1.length ∧ (∀ i, i < S.1.length → cM I (a + 2 + 3 * i) (S.1.getD i mNil)) ∧ (∀ i, 0 < i → i < S.1.length → I (a + 185) i = nI (S.2.1.getD i (0, 0)).1 ∧ I (a + 186) i = nI (S.2.1.getD i (0, 0)).2) ∧ ∀ k, k < S.2.2.length → I (a + 188) k = ldI (S.2.2.getD k none)
def cWk (I : azI) (a : Nat) (S : WS) : Prop := cWp I a S ∧ ∀ i, i < S.1.length → I (a + 187) i = nI (abl S.2.2 i 10)
/-- what walks keep to -/
def wsOK (N : Nat) (S : WS) : Prop := 0 < S.1.length ∧ S.1.length ≤ N ∧ S.2.1.length = S.1.length ∧ (∀ m ∈ S.1, mOK m) ∧ (∀ i, 0 < i → i < S.1.length → (S.2.1.getD i (0, 0)).1 < i ∧ (S.2.1.getD i (0, 0)).2 < 10) ∧ ∀ j, some (some j) ∈ S.2.2 → j < S.1.length
theorem getD_memM {l : List Mk} {i : Nat} (h : i < l.length) : l.getD i mNil ∈ l := by
  rw [List.getD_eq_getElem?_getD, List.getElem?_eq_getElem h]
  exact List.getElem_mem h
section S7
variable {R : azP} {d n z : Nat} {kd : azK} {I : azI} {J : azJ} {F : azR} {Q : azQ} {a : Nat} {fd : List Mk} {m : Mk}
theorem S_numberOfNext (hR : azClosed R) (hW : WkOk kd F a) (h7 : I a 7 = nI fd.length) (hf : ∀ i, i < fd.length → cM I (a + 2 + 3 * i) (fd.getD i mNil)) (hl : fd.length ≤ 60) (hok : ∀ m ∈ fd, mOK m) (hm : cM I (a + 182) m) (hv : mOK m) {x p : Nat}
    (h0 : ∀ i, fidx m 0 fd = some i → Q (some (.int (nI i))) ((n, z, kd), I, J, F))
    (h1 : fidx m 0 fd = none → fd.length < 60 → ∀ I', I' a 7 = nI (fd.length + 1) → cM I' (a + 2 + 3 * fd.length) m → I' (a + 185) fd.length = nI x → I' (a + 186) fd.length = nI p → (∀ i, i ≠ fd.length → I' (a + 185) i = I (a + 185) i ∧ I' (a + 186) i = I (a + 186) i) → (∀ b, b ≠ a → b ≠ a + 185 → b ≠ a + 186 → b ≠ a + 2 + 3 * fd.length + 1 → b ≠ a + 2 + 3 * fd.length + 2 → I' b = I b) → Q (some (.int (nI fd.length))) ((n, z, kd), I', J, F))
    (h2 : fidx m 0 fd = none → fd.length = 60 → Q (some (.int (-(nI 1)))) ((n, z, kd), I, J, F)) : R (d + 1) mX7_numberOfNext 0 [.ref a, .int (nI x), .int (nI p), .retAddr 0] [] ((n, z, kd), I, J, F) Q := by
  obtain ⟨k0, k1, kf, kn, k2, k3, k4, k5, k6, f0, f1, f2, f3, f4, f5, f6⟩ := hW
  have s40 : fidx m 0 fd = none → ∀ x3, R (d + 1) mX7_numberOfNext 40 [.ref a, .int (nI x), .int (nI p), .int x3] [] ((n, z, kd), I, J, F) Q := by
    intro e x3
    refine BX7_numberOfNext_40 hR ?_
    simp (disch := omega) only [nI_ad, nI_ml, nI_lti, nI_lei, nI_eqi, nI_nn, nI_0le, nI_eq0, nI_0lt, nI_le0, nI_clamp, nI_pd, nI_sb, zOf_some, zOp_some, zOp_none, kI_int, kL_long, kO_ref, kO_null, nlt_T, nlt_F, nle_T, nle_F, neq_F, vpT, azUp_at, if_true, if_false, true_and, and_true, true_implies, false_implies, implies_true, not_true_eq_false, not_false_eq_true, true_or, or_true, false_or, or_false, and_false, false_and, eq_self, n01_0, n01_1, nm1_0, k0, h7]
    by_cases c : fd.length < 60
    · obtain ⟨g1, g2⟩ := kf fd.length c
      have kb3 : (kd (a + 2 + 3 * fd.length)).1 = 3 := by rw [g2.1]
      simp (disch := omega) only [nI_ad, nI_ml, nI_lti, nI_lei, nI_eqi, nI_nn, nI_0le, nI_eq0, nI_0lt, nI_le0, nI_clamp, nI_pd, nI_sb, zOf_some, zOp_some, zOp_none, kI_int, kL_long, kO_ref, kO_null, nlt_T, nlt_F, nle_T, nle_F, neq_F, vpT, azUp_at, if_true, if_false, true_and, and_true, true_implies, false_implies, implies_true, not_true_eq_false, not_false_eq_true, true_or, or_true, false_or, or_false, and_false, false_and, eq_self, n01_0, n01_1, nm1_0, c, f0, k1, g1, f1, kb3]
      refine S_copy hR g2 kn (by omega) hm hv fun I1 q1 q2 => ⟨rfl, ?_⟩
      have e7 : I1 a 7 = nI fd.length := by rw [q2 a (by omega) (by omega)]; exact h7
      simp (disch := omega) only [nI_ad, nI_ml, nI_lti, nI_lei, nI_eqi, nI_nn, nI_0le, nI_eq0, nI_0lt, nI_le0, nI_clamp, nI_pd, nI_sb, zOf_some, zOp_some, zOp_none, kI_int, kL_long, kO_ref, kO_null, nlt_T, nlt_F, nle_T, nle_F, neq_F, vpT, azUp_at, if_true, if_false, true_and, and_true, true_implies, false_implies, implies_true, not_true_eq_false, not_false_eq_true, true_or, or_true, false_or, or_false, and_false, false_and, eq_self, n01_0, n01_1, nm1_0, k0, f2, k2, f3, k3, e7, @azUp_nb _ (a + 185) a, @azUp_nb _ (a + 186) a]
      rw [show fd.length + 1 - 1 = fd.length by omega]
      refine h1 e c _ ?_ ?_ ?_ ?_ (fun i hi => ⟨?_, ?_⟩) fun b b1 b2 b3 b4 b5 => ?_
      · rw [azUp_s]
      · exact q1.keep (by rw [azUp_nb (by omega), azUp_nb (by omega), azUp_nb (by omega)]) (by rw [azUp_nb (by omega), azUp_nb (by omega), azUp_nb (by omega)])
      · rw [azUp_nb (by omega), azUp_nb (by omega), azUp_s]
      · rw [azUp_nb (by omega), azUp_s]
      · rw [azUp_nb (by omega), azUp_nb (by omega), azUp_nk hi, q2 _ (by omega) (by omega)]
      · rw [azUp_nb (by omega), azUp_nk hi, azUp_nb (by omega), q2 _ (by omega) (by omega)]
      · rw [azUp_nb b1, azUp_nb b3, azUp_nb b2, q2 b b4 b5]
    · simp (disch := omega) only [nI_ad, nI_ml, nI_lti, nI_lei, nI_eqi, nI_nn, nI_0le, nI_eq0, nI_0lt, nI_le0, nI_clamp, nI_pd, nI_sb, zOf_some, zOp_some, zOp_none, kI_int, kL_long, kO_ref, kO_null, nlt_T, nlt_F, nle_T, nle_F, neq_F, vpT, azUp_at, if_true, if_false, true_and, and_true, true_implies, false_implies, implies_true, not_true_eq_false, not_false_eq_true, true_or, or_true, false_or, or_false, and_false, false_and, eq_self, n01_0, n01_1, nm1_0, c]
      exact h2 e (by omega)
  have main : ∀ (rest pre : List Mk), pre ++ rest = fd → fidx m pre.length rest = fidx m 0 fd → R (d + 1) mX7_numberOfNext 2 [.ref a, .int (nI x), .int (nI p), .int (nI pre.length)] [] ((n, z, kd), I, J, F) Q := by
    intro rest
    induction rest with
    | nil =>
      intro pre e1 e2
      rw [List.append_nil] at e1
      subst e1
      refine BX7_numberOfNext_2 hR ?_
      simp (disch := omega) only [nI_ad, nI_ml, nI_lti, nI_lei, nI_eqi, nI_nn, nI_0le, nI_eq0, nI_0lt, nI_le0, nI_clamp, nI_pd, nI_sb, zOf_some, zOp_some, zOp_none, kI_int, kL_long, kO_ref, kO_null, nlt_T, nlt_F, nle_T, nle_F, neq_F, vpT, azUp_at, if_true, if_false, true_and, and_true, true_implies, false_implies, implies_true, not_true_eq_false, not_false_eq_true, true_or, or_true, false_or, or_false, and_false, false_and, eq_self, n01_0, n01_1, nm1_0, k0, h7]
      exact s40 e2.symm _
    | cons y rest ih =>
      intro pre e1 e2
      have hlt : pre.length < fd.length := by rw [← e1, List.length_append, List.length_cons]; omega
      have hy : fd.getD pre.length mNil = y := by rw [← e1]; simp
      have hym : cM I (a + 2 + 3 * pre.length) y := by rw [← hy]; exact hf _ hlt
      have hyv : mOK y := hok y (by rw [← e1]; simp)
      obtain ⟨g1, g2⟩ := kf pre.length (by omega)
      have kb3 : (kd (a + 2 + 3 * pre.length)).1 = 3 := by rw [g2.1]
      refine BX7_numberOfNext_2 hR ?_
      simp (disch := omega) only [nI_ad, nI_ml, nI_lti, nI_lei, nI_eqi, nI_nn, nI_0le, nI_eq0, nI_0lt, nI_le0, nI_clamp, nI_pd, nI_sb, zOf_some, zOp_some, zOp_none, kI_int, kL_long, kO_ref, kO_null, nlt_T, nlt_F, nle_T, nle_F, neq_F, vpT, azUp_at, if_true, if_false, true_and, and_true, true_implies, false_implies, implies_true, not_true_eq_false, not_false_eq_true, true_or, or_true, false_or, or_false, and_false, false_and, eq_self, n01_0, n01_1, nm1_0, k0, h7, f0, k1, g1, f1, kb3]
      refine S_like hR g2 kn hym hyv hm hv ?_
      rw [fidx_cons] at e2
      by_cases c : mEq y m = true
      · rw [if_pos c] at e2 ⊢
        simp (disch := omega) only [nI_ad, nI_ml, nI_lti, nI_lei, nI_eqi, nI_nn, nI_0le, nI_eq0, nI_0lt, nI_le0, nI_clamp, nI_pd, nI_sb, zOf_some, zOp_some, zOp_none, kI_int, kL_long, kO_ref, kO_null, nlt_T, nlt_F, nle_T, nle_F, neq_F, vpT, azUp_at, if_true, if_false, true_and, and_true, true_implies, false_implies, implies_true, not_true_eq_false, not_false_eq_true, true_or, or_true, false_or, or_false, and_false, false_and, eq_self, n01_0, n01_1, nm1_0]
        exact h0 _ e2.symm
      · rw [if_neg c] at e2 ⊢
        simp (disch := omega) only [nI_ad, nI_ml, nI_lti, nI_lei, nI_eqi, nI_nn, nI_0le, nI_eq0, nI_0lt, nI_le0, nI_clamp, nI_pd, nI_sb, zOf_some, zOp_some, zOp_none, kI_int, kL_long, kO_ref, kO_null, nlt_T, nlt_F, nle_T, nle_F, neq_F, vpT, azUp_at, if_true, if_false, true_and, and_true, true_implies, false_implies, implies_true, not_true_eq_false, not_false_eq_true, true_or, or_true, false_or, or_false, and_false, false_and, eq_self, n01_0, n01_1, nm1_0]
        have ep : pre.length + 1 = (pre ++ [y]).length := by simp
        rw [ep] at e2 ⊢
        exact ih (pre ++ [y]) (by rw [← e1]; simp) e2
  exact BX7_numberOfNext_0 hR (main fd [] rfl rfl)
end S7
