/-! THE REFERENCE: dead, stuck. -/
section S9
variable {R : azP} {d n z : Nat} {kd : azK} {I : azI} {J : azJ} {F : azR} {Q : azQ} {st : St} {σ : azS} {S : WS} {N : Nat}
theorem lcV_le (x : Option (Option Nat)) (h : ∀ j, x = some (some j) → j < 60) : (lcV x ≤ -(nI 2)) = (x.isSome = false) := by
  rcases x with _ | _ | j
  · exact eq_true (by decide) |>.trans (eq_true rfl).symm
  · exact eq_false (by decide) |>.trans (eq_false (by simp)).symm
  · have hj := h j rfl
    refine (eq_false ?_).trans (eq_false (by simp)).symm
    show ¬ (nI j ≤ -(nI 2))
    rw [Int32.le_iff_toInt_le, nI_toInt (by omega)]
    have : (-(nI 2)).toInt = -2 := by decide
    omega
theorem S_mdDead (hR : azClosed R) (hW : MW σ st) {x : Int32} (h : ∀ σ', MW σ' st → mdF σ σ' → Q (some (.int (aDead st x))) σ') : R (d + 27) mX9_dead 0 [.ref 228, .int x, .retAddr 0, .retAddr 0, .retAddr 0, .retAddr 0] [] σ Q := by
  obtain ⟨⟨n, z, kd⟩, I, J, F⟩ := σ
  have hK : MdOk kd F := hW.1
  have hC : cMd I st := hW.2.1
  have hS : stOK st := hW.2.2
  have ⟨k0, ⟨k220, k221, k222, _⟩, ⟨_, k233, k234, k235, k236, k237, k238, k239, k240, _⟩, ⟨f0, f1, f2, _⟩, ⟨_, f28, f29, f30, f31, f33, f34, f35, f36, _⟩⟩ := id hK
  unfold aDead at h
  refine BX9_dead_0 hR ⟨k0, ?_⟩
  refine S_finds9 hR hW (fun e => ?_) fun N h0 hN e I' g1 g2 => ?_
  · rw [e] at h
    simp (disch := omega) only [nI_ad, nI_ml, nI_lti, nI_lei, nI_eqi, nI_nn, nI_0le, nI_eq0, nI_0lt, nI_le0, nI_clamp, nI_pd, nI_sb, zOf_some, zOp_some, zOp_none, kI_int, kL_long, kO_ref, kO_null, nlt_T, nlt_F, nle_T, nle_F, neq_F, vpT, azUp_at, if_true, if_false, true_and, and_true, true_implies, false_implies, implies_true, not_true_eq_false, not_false_eq_true, true_or, or_true, false_or, or_false, and_false, false_and, eq_self, n01_0, n01_1, nm1_0]
    exact h _ hW mdF.refl
  · rw [e] at h
    dsimp only at h
    obtain ⟨w1, w2⟩ := hW.kp g1.mdS (J' := J) fun _ _ => rfl
    have h := h _ w1 w2
    have fo := (hS.fs h0 hN).2
    have hlN := fo.2.1
    have hfull : (wkS st N).2.2.length = 10 * (wkS st N).1.length := wk_full hN h0 hS.rl hS.1
    have e222 : I' 231 = I 231 := g1.1 231 (by decide) (by decide)
    have hj : ∀ k j, ld (wkS st N) k = some (some j) → j < 60 := fun k j hj => by
      have : some (some j) ∈ (wkS st N).2.2 := by
        unfold ld at hj
        rcases Nat.lt_or_ge k (wkS st N).2.2.length with q | q
        · rw [← hj, List.getD_eq_getElem?_getD, List.getElem?_eq_getElem q]
          exact List.getElem_mem q
        · rw [List.getD_eq_getElem?_getD, List.getElem?_eq_none q] at hj; cases hj
      have := fo.2.2.2.2.2 j this
      omega
    let sm : Nat → Nat → Bool := fun p m => !(st.2.1 p).isSome || (List.range m).any fun i => (ld (wkS st N) (10 * i + p)).isSome
    have main : ∀ s p (w4 w5 : Value), s + p = 10 → R (d + 27) mX9_dead 15 [.ref 228, .int x, .int (nI (ddT st.2.1 (orT (wkS st N) (wkS st N).1.length) p)), .int (nI p), w4, w5] [] ((n, z, kd), I', J, F) Q := by
      intro s
      induction s with
      | zero =>
        intro p w4 w5 hp
        obtain rfl : p = 10 := by omega
        refine BX9_dead_15 hR ?_
        simp (disch := omega) only [nI_ad, nI_ml, nI_lti, nI_lei, nI_eqi, nI_nn, nI_0le, nI_eq0, nI_0lt, nI_le0, nI_clamp, nI_pd, nI_sb, zOf_some, zOp_some, zOp_none, kI_int, kL_long, kO_ref, kO_null, nlt_T, nlt_F, nle_T, nle_F, neq_F, vpT, azUp_at, if_true, if_false, true_and, and_true, true_implies, false_implies, implies_true, not_true_eq_false, not_false_eq_true, true_or, or_true, false_or, or_false, and_false, false_and, eq_self, n01_0, n01_1, nm1_0]
        exact h
      | succ s ih =>
        intro p w4 w5 hp
        have hp10 : p < 10 := by omega
        have edd : ddT st.2.1 (orT (wkS st N) (wkS st N).1.length) (p + 1) = if (st.2.1 p).isSome && !((orT (wkS st N) (wkS st N).1.length).testBit p) then ddT st.2.1 (orT (wkS st N) (wkS st N).1.length) p ||| 2 ^ p else ddT st.2.1 (orT (wkS st N) (wkS st N).1.length) p := rfl
        have esm : ((st.2.1 p).isSome && !((orT (wkS st N) (wkS st N).1.length).testBit p)) = !(sm p (wkS st N).1.length) := by
          have : (orT (wkS st N) (wkS st N).1.length).testBit p = (List.range (wkS st N).1.length).any fun i => (ld (wkS st N) (10 * i + p)).isSome := by
            rw [Bool.eq_iff_iff, orT_bit, List.any_eq_true]
            exact ⟨fun ⟨_, i, h1, h2⟩ => ⟨i, List.mem_range.mpr h1, h2⟩, fun ⟨i, h1, h2⟩ => ⟨hp10, i, List.mem_range.mp h1, h2⟩⟩
          rw [this]
          show _ = !(!(st.2.1 p).isSome || _)
          rw [Bool.not_or, Bool.not_not]
        rw [esm] at edd
        have inn : ∀ s m, s + m = (wkS st N).1.length → R (d + 27) mX9_dead 43 [.ref 228, .int x, .int (nI (ddT st.2.1 (orT (wkS st N) (wkS st N).1.length) p)), .int (nI p), .int (nI (if sm p m then 1 else 0)), .int (nI m)] [] ((n, z, kd), I', J, F) Q := by
          intro s
          induction s with
          | zero =>
            intro m hm
            obtain rfl : m = (wkS st N).1.length := by omega
            refine BX9_dead_43 hR ?_
            by_cases c : sm p (wkS st N).1.length = true
            · rw [if_pos c]
              rw [c, Bool.not_true, if_neg (by decide)] at edd
              have := ih (p + 1) (.int (nI 1)) (.int (nI (wkS st N).1.length)) (by omega)
              rw [edd] at this
              simp (disch := omega) only [nI_ad, nI_ml, nI_lti, nI_lei, nI_eqi, nI_nn, nI_0le, nI_eq0, nI_0lt, nI_le0, nI_clamp, nI_pd, nI_sb, zOf_some, zOp_some, zOp_none, kI_int, kL_long, kO_ref, kO_null, nlt_T, nlt_F, nle_T, nle_F, neq_F, vpT, azUp_at, if_true, if_false, true_and, and_true, true_implies, false_implies, implies_true, not_true_eq_false, not_false_eq_true, true_or, or_true, false_or, or_false, and_false, false_and, eq_self, n01_0, n01_1, nm1_0, k0, g2.1.1, nI_or, Nat.or_zero]
              exact this
            · rw [if_neg c]
              rw [Bool.not_eq_true _ |>.mp c, Bool.not_false, if_pos rfl] at edd
              have := ih (p + 1) (.int (nI 0)) (.int (nI (wkS st N).1.length)) (by omega)
              rw [edd] at this
              simp (disch := omega) only [nI_ad, nI_ml, nI_lti, nI_lei, nI_eqi, nI_nn, nI_0le, nI_eq0, nI_0lt, nI_le0, nI_clamp, nI_pd, nI_sb, zOf_some, zOp_some, zOp_none, kI_int, kL_long, kO_ref, kO_null, nlt_T, nlt_F, nle_T, nle_F, neq_F, vpT, azUp_at, if_true, if_false, true_and, and_true, true_implies, false_implies, implies_true, not_true_eq_false, not_false_eq_true, true_or, or_true, false_or, or_false, and_false, false_and, eq_self, n01_0, n01_1, nm1_0, k0, g2.1.1, nI_bit hp10, nI_or]
              exact this
          | succ s ihs =>
            intro m hm
            have hml : m < (wkS st N).1.length := by omega
            have hb : 10 * m + p < 600 := by omega
            have es : sm p (m + 1) = (sm p m || (ld (wkS st N) (10 * m + p)).isSome) := by
              show (!(st.2.1 p).isSome || (List.range (m + 1)).any _) = ((!(st.2.1 p).isSome || (List.range m).any _) || _)
              rw [List.range_succ, List.any_append, Bool.or_assoc]
              simp
            have hh := ihs (m + 1) (by omega)
            rw [es] at hh
            refine BX9_dead_43 hR ?_
            by_cases c : sm p m = true
            · rw [c, Bool.true_or, if_pos rfl] at hh
              rw [if_pos c]
              simp (disch := omega) only [nI_ad, nI_ml, nI_lti, nI_lei, nI_eqi, nI_nn, nI_0le, nI_eq0, nI_0lt, nI_le0, nI_clamp, nI_pd, nI_sb, zOf_some, zOp_some, zOp_none, kI_int, kL_long, kO_ref, kO_null, nlt_T, nlt_F, nle_T, nle_F, neq_F, vpT, azUp_at, if_true, if_false, true_and, and_true, true_implies, false_implies, implies_true, not_true_eq_false, not_false_eq_true, true_or, or_true, false_or, or_false, and_false, false_and, eq_self, n01_0, n01_1, nm1_0, k0, g2.1.1]
              exact hh
            · rw [Bool.not_eq_true _ |>.mp c, Bool.false_or] at hh
              rw [if_neg c]
              have el : I' 249 (10 * m + p) = lcV (ld (wkS st N) (10 * m + p)) := g2.2.2 _ (by rw [hfull]; omega)
              simp (disch := omega) only [nI_ad, nI_ml, nI_lti, nI_lei, nI_eqi, nI_nn, nI_0le, nI_eq0, nI_0lt, nI_le0, nI_clamp, nI_pd, nI_sb, zOf_some, zOp_some, zOp_none, kI_int, kL_long, kO_ref, kO_null, nlt_T, nlt_F, nle_T, nle_F, neq_F, vpT, azUp_at, if_true, if_false, true_and, and_true, true_implies, false_implies, implies_true, not_true_eq_false, not_false_eq_true, true_or, or_true, false_or, or_false, and_false, false_and, eq_self, n01_0, n01_1, nm1_0, k0, g2.1.1, f36, k240, el, lcV_le _ (hj (10 * m + p))]
              cases hc : (ld (wkS st N) (10 * m + p)).isSome with
              | true =>
                rw [hc, if_pos rfl] at hh
                exact ⟨fun e => (by cases e), fun _ => hh⟩
              | false =>
                rw [hc, if_neg (by decide)] at hh
                exact ⟨fun _ => hh, fun e => absurd rfl e⟩
        have hcr := hC.2.1 p hp10
        have hh := inn (wkS st N).1.length 0 (by omega)
        have es0 : sm p 0 = !(st.2.1 p).isSome := by
          show (!(st.2.1 p).isSome || false) = _
          rw [Bool.or_false]
        rw [es0] at hh
        refine BX9_dead_15 hR ?_
        have hb81 : 81 * p < 810 := by omega
        cases hr : st.2.1 p with
        | none =>
          have e0 := hcr.1 hr
          rw [← e222] at e0
          rw [hr] at hh
          simp (disch := omega) only [nI_ad, nI_ml, nI_lti, nI_lei, nI_eqi, nI_nn, nI_0le, nI_eq0, nI_0lt, nI_le0, nI_clamp, nI_pd, nI_sb, zOf_some, zOp_some, zOp_none, kI_int, kL_long, kO_ref, kO_null, nlt_T, nlt_F, nle_T, nle_F, neq_F, vpT, azUp_at, if_true, if_false, true_and, and_true, true_implies, false_implies, implies_true, not_true_eq_false, not_false_eq_true, true_or, or_true, false_or, or_false, and_false, false_and, eq_self, n01_0, n01_1, nm1_0, k0, f2, k222, e0]
          exact hh
        | some c =>
          have e0 := (hcr.2 c.1 c.2 hr).1
          obtain ⟨u1, u2, u3⟩ := hS.2.1 p c.1 c.2 hr
          have u4 := u1.1
          have n0 : ¬ c.1.length = 0 := by omega
          rw [← e222] at e0
          rw [hr] at hh
          simp (disch := omega) only [nI_ad, nI_ml, nI_lti, nI_lei, nI_eqi, nI_nn, nI_0le, nI_eq0, nI_0lt, nI_le0, nI_clamp, nI_pd, nI_sb, zOf_some, zOp_some, zOp_none, kI_int, kL_long, kO_ref, kO_null, nlt_T, nlt_F, nle_T, nle_F, neq_F, vpT, azUp_at, if_true, if_false, true_and, and_true, true_implies, false_implies, implies_true, not_true_eq_false, not_false_eq_true, true_or, or_true, false_or, or_false, and_false, false_and, eq_self, n01_0, n01_1, nm1_0, k0, f2, k222, e0, n0]
          exact hh
    simp (disch := omega) only [nI_ad, nI_ml, nI_lti, nI_lei, nI_eqi, nI_nn, nI_0le, nI_eq0, nI_0lt, nI_le0, nI_clamp, nI_pd, nI_sb, zOf_some, zOp_some, zOp_none, kI_int, kL_long, kO_ref, kO_null, nlt_T, nlt_F, nle_T, nle_F, neq_F, vpT, azUp_at, if_true, if_false, true_and, and_true, true_implies, false_implies, implies_true, not_true_eq_false, not_false_eq_true, true_or, or_true, false_or, or_false, and_false, false_and, eq_self, n01_0, n01_1, nm1_0]
    exact main 10 0 _ _ rfl
def cE9 (I : azI) (e : Nat → Bool) (L : Nat) : Prop := ∀ i, i < L → I 251 i = nI (if e i then 1 else 0)
theorem cE9.up {I : azI} {e : Nat → Bool} {L i : Nat} {b : Bool} {v : Int32} (h : cE9 I e L) (hv : v = nI (if b then 1 else 0)) : cE9 (azUp I 251 i v) (fun j => if j = i then b else e j) L := fun j hj => by
  by_cases c : j = i
  · subst c; rw [azUp_s, hv]; simp
  · rw [azUp_nk c, h j hj]; simp [c]
theorem cE9.cong {I : azI} {e e' : Nat → Bool} {L : Nat} (h : cE9 I e L) (he : ∀ i, i < L → e' i = e i) : cE9 I e' L := fun i hi => by rw [he i hi]; exact h i hi
def frX9 (I I' : azI) : Prop := ∀ c, c ≠ 251 → I' c = I c
theorem S_mdStuck (hR : azClosed R) (hW : MW σ st) {x : Int32} (h : ∀ σ' v, aStuck st x v → MW σ' st → mdF σ σ' → Q (some (.int v)) σ') : R (d + 27) mX9_stuck 0 [.ref 228, .int x, .retAddr 0, .retAddr 0] [] σ Q := by
  obtain ⟨⟨n, z, kd⟩, I, J, F⟩ := σ
  have hK : MdOk kd F := hW.1
  have hC : cMd I st := hW.2.1
  have hS : stOK st := hW.2.2
  have ⟨k0, ⟨k220, k221, k222, _⟩, ⟨_, k233, k234, k235, k236, k237, k238, k239, k240, k241, k242, _⟩, ⟨f0, f1, f2, _⟩, ⟨_, f28, f29, f30, f31, f33, f34, f35, f36, f37, f38, _⟩⟩ := id hK
  unfold aStuck at h
  refine BX9_stuck_0 hR ⟨k0, ?_⟩
  refine S_finds9 hR hW (fun e => ?_) fun N h0 hN e I' g1 g2 => ?_
  · rw [e] at h
    simp (disch := omega) only [nI_ad, nI_ml, nI_lti, nI_lei, nI_eqi, nI_nn, nI_0le, nI_eq0, nI_0lt, nI_le0, nI_clamp, nI_pd, nI_sb, zOf_some, zOp_some, zOp_none, kI_int, kL_long, kO_ref, kO_null, nlt_T, nlt_F, nle_T, nle_F, neq_F, vpT, azUp_at, if_true, if_false, true_and, and_true, true_implies, false_implies, implies_true, not_true_eq_false, not_false_eq_true, true_or, or_true, false_or, or_false, and_false, false_and, eq_self, n01_0, n01_1, nm1_0]
    exact h _ _ rfl hW mdF.refl
  rw [e] at h
  dsimp only at h
  have fo := (hS.fs h0 hN).2
  have hlN := fo.2.1
  have fo60 : wsOK 60 (wkS st N) := ⟨fo.1, by omega, fo.2.2⟩
  have hfull : (wkS st N).2.2.length = 10 * (wkS st N).1.length := wk_full hN h0 hS.rl hS.1
  have hj : ∀ k j, ld (wkS st N) k = some (some j) → j < (wkS st N).1.length := fun k j hj => by
    have : some (some j) ∈ (wkS st N).2.2 := by
      unfold ld at hj
      rcases Nat.lt_or_ge k (wkS st N).2.2.length with q | q
      · rw [← hj, List.getD_eq_getElem?_getD, List.getElem?_eq_getElem q]
        exact List.getElem_mem q
      · rw [List.getD_eq_getElem?_getD, List.getElem?_eq_none q] at hj; cases hj
    exact fo.2.2.2.2.2 j this
  generalize hSS : wkS st N = S at *
  generalize hLL : S.1.length = L at *
  have kp : ∀ {I1 : azI}, frX9 I' I1 → cWM I1 S := fun {I1} g => g2.keep (by rw [g 228 (by decide)]) fun c c1 c2 => g c (by omega)
  have e32 : ∀ {I1 : azI}, frX9 I' I1 → I1 228 32 = nI L := fun {I1} g => by rw [← hLL]; exact (kp g).1.1
  have fin : ∀ (I1 : azI) (v : Int32), frX9 I' I1 → isStk S L v → Q (some (.int v)) ((n, z, kd), I1, J, F) := fun I1 v g hv => by
    obtain ⟨w1, w2⟩ := hW.kp (I' := I1) (J' := J) (g1.mdS.trans ⟨fun b a b' => g b (by omega), fun j a => by rw [g 228 (by decide)]⟩) fun _ _ => rfl
    exact h _ v hv w1 w2
  have up : ∀ {I1 : azI} {i : Nat} {v : Int32}, frX9 I' I1 → frX9 I' (azUp I1 251 i v) := fun {I1 i v} g c hc => by rw [azUp_nb hc]; exact g c hc
  -- the answer
  have scan : ∀ (e : Nat → Bool), spOK S L e → spCl S L e → ∀ s k (I1 : azI) (w3 : Value), s + k = L → frX9 I' I1 → cE9 I1 e L → (∀ i, i < k → e i = true) → R (d + 27) mX9_stuck 124 [.ref 228, .int x, .int (nI k), w3] [] ((n, z, kd), I1, J, F) Q := by
    intro e ho hc s
    have hall := spOK_all ho hc
    induction s with
    | zero =>
      intro k I1 w3 hk hf hce hi
      obtain rfl : k = L := by omega
      have := fin I1 (-(nI 5)) hf (Or.inl ⟨rfl, fun i hik => (hall i hik).mp (hi i hik)⟩)
      refine BX9_stuck_124 hR ?_
      simp (disch := omega) only [nI_ad, nI_ml, nI_lti, nI_lei, nI_eqi, nI_nn, nI_0le, nI_eq0, nI_0lt, nI_le0, nI_clamp, nI_pd, nI_sb, zOf_some, zOp_some, zOp_none, kI_int, kL_long, kO_ref, kO_null, nlt_T, nlt_F, nle_T, nle_F, neq_F, vpT, azUp_at, if_true, if_false, true_and, and_true, true_implies, false_implies, implies_true, not_true_eq_false, not_false_eq_true, true_or, or_true, false_or, or_false, and_false, false_and, eq_self, n01_0, n01_1, nm1_0, k0, e32 hf]
      exact this
    | succ s ih =>
      intro k I1 w3 hk hf hce hi
      have hkL : k < L := by omega
      have hk60 : k < 60 := by omega
      have ec := hce k hkL
      refine BX9_stuck_124 hR ?_
      cases c : e k with
      | true =>
        rw [c, if_pos rfl] at ec
        have := ih (k + 1) I1 w3 (by omega) hf hce fun i hi' => by
          by_cases ei : i = k
          · rw [ei]; exact c
          · exact hi i (by omega)
        simp (disch := omega) only [nI_ad, nI_ml, nI_lti, nI_lei, nI_eqi, nI_nn, nI_0le, nI_eq0, nI_0lt, nI_le0, nI_clamp, nI_pd, nI_sb, zOf_some, zOp_some, zOp_none, kI_int, kL_long, kO_ref, kO_null, nlt_T, nlt_F, nle_T, nle_F, neq_F, vpT, azUp_at, if_true, if_false, true_and, and_true, true_implies, false_implies, implies_true, not_true_eq_false, not_false_eq_true, true_or, or_true, false_or, or_false, and_false, false_and, eq_self, n01_0, n01_1, nm1_0, k0, e32 hf, f38, k242, ec]
        exact this
      | false =>
        rw [c, if_neg (by decide)] at ec
        have := fin I1 (nI k) hf (Or.inr ⟨k, hkL, rfl, fun hr => (by rw [(hall k hkL).mpr hr] at c; cases c), fun j hjk => (hall j (by omega)).mp (hi j hjk)⟩)
        simp (disch := omega) only [nI_ad, nI_ml, nI_lti, nI_lei, nI_eqi, nI_nn, nI_0le, nI_eq0, nI_0lt, nI_le0, nI_clamp, nI_pd, nI_sb, zOf_some, zOp_some, zOp_none, kI_int, kL_long, kO_ref, kO_null, nlt_T, nlt_F, nle_T, nle_F, neq_F, vpT, azUp_at, if_true, if_false, true_and, and_true, true_implies, false_implies, implies_true, not_true_eq_false, not_false_eq_true, true_or, or_true, false_or, or_false, and_false, false_and, eq_self, n01_0, n01_1, nm1_0, k0, e32 hf, f38, k242, ec]
        exact this
  -- a round
  have rnd : ∀ (e : Nat → Bool) (r : Nat), (∀ (I2 : azI) (e' : Nat → Bool) (w3 : Value), frX9 I' I2 → cE9 I2 e' L → spOK S L e' → (∀ j, j < L → e j = true → e' j = true) → (∀ i, i < L → lds S L e i = true → e' i = true) → R (d + 27) mX9_stuck 40 [.ref 228, .int x, .int (nI (r + 1)), w3] [] ((n, z, kd), I2, J, F) Q) → ∀ s k (I1 : azI) (ec : Nat → Bool), s + k = 10 * L → frX9 I' I1 → cE9 I1 ec L → spOK S L ec → (∀ j, j < L → e j = true → ec j = true) → (∀ k' j, k' < k → ld S k' = some (some j) → e j = true → ec (k' / 10) = true) → R (d + 27) mX9_stuck 50 [.ref 228, .int x, .int (nI r), .int (nI k)] [] ((n, z, kd), I1, J, F) Q := by
    intro e r hr s
    induction s with
    | zero =>
      intro k I1 ec hk hf hce ho hm hd
      obtain rfl : k = 10 * L := by omega
      have := hr I1 ec (.int (nI (10 * L))) hf hce ho hm fun i hi hl => by
        obtain ⟨p, hp, j, h1, h2, h3⟩ := lds_iff.mp hl
        have := hd (10 * i + p) j (by omega) h1 h3
        rw [show (10 * i + p) / 10 = i by omega] at this
        exact this
      refine BX9_stuck_50 hR ?_
      simp (disch := omega) only [nI_ad, nI_ml, nI_lti, nI_lei, nI_eqi, nI_nn, nI_0le, nI_eq0, nI_0lt, nI_le0, nI_clamp, nI_pd, nI_sb, zOf_some, zOp_some, zOp_none, kI_int, kL_long, kO_ref, kO_null, nlt_T, nlt_F, nle_T, nle_F, neq_F, vpT, azUp_at, if_true, if_false, true_and, and_true, true_implies, false_implies, implies_true, not_true_eq_false, not_false_eq_true, true_or, or_true, false_or, or_false, and_false, false_and, eq_self, n01_0, n01_1, nm1_0, k0, e32 hf]
      exact this
    | succ s ih =>
      intro k I1 ec hk hf hce ho hm hd
      have hkL : k < 10 * L := by omega
      have hk600 : k < 600 := by omega
      have hi : k / 10 < L := by omega
      have hi60 : k / 10 < 60 := by omega
      have ed : nI k / nI 10 = nI (k / 10) := nI_dv (by omega) (by decide)
      have ten : ¬ nI 10 = 0 := by decide
      have eci := hce _ hi
      have el : I1 249 k = lcV (ld S k) := (kp hf).2.2 k (by rw [hfull]; exact hkL)
      have same : (∀ j, ld S k = some (some j) → e j = true → ec (k / 10) = true) → ∀ v : Int32, v = nI (if ec (k / 10) then 1 else 0) → R (d + 27) mX9_stuck 50 [.ref 228, .int x, .int (nI r), .int (nI (k + 1))] [] ((n, z, kd), azUp I1 251 (k / 10) v, J, F) Q := fun hq v hv => by
        refine ih (k + 1) _ ec (by omega) (up hf) ((hce.up hv).cong fun i _ => ?_) ho hm fun k' j hk' h1 h2 => ?_
        · by_cases c : i = k / 10
          · rw [if_pos c, c]
          · rw [if_neg c]
        · by_cases c : k' = k
          · subst c; exact hq j h1 h2
          · exact hd k' j (by omega) h1 h2
      refine BX9_stuck_50 hR ?_
      cases c : ec (k / 10) with
      | true =>
        rw [c, if_pos rfl] at eci
        have := same (fun _ _ _ => c) (nI 1) (by rw [c]; rfl)
        simp (disch := omega) only [nI_ad, nI_ml, nI_lti, nI_lei, nI_eqi, nI_nn, nI_0le, nI_eq0, nI_0lt, nI_le0, nI_clamp, nI_pd, nI_sb, zOf_some, zOp_some, zOp_none, kI_int, kL_long, kO_ref, kO_null, nlt_T, nlt_F, nle_T, nle_F, neq_F, vpT, azUp_at, if_true, if_false, true_and, and_true, true_implies, false_implies, implies_true, not_true_eq_false, not_false_eq_true, true_or, or_true, false_or, or_false, and_false, false_and, eq_self, n01_0, n01_1, nm1_0, k0, e32 hf, f38, k242, ed, eci, ten]
        exact this
      | false =>
        rw [c, if_neg (by decide)] at eci
        have n1 := m1_neg
        have n2 : -(nI 2) < 0 := by decide
        rcases hl : ld S k with _ | _ | j
        · rw [hl] at el
          have el : I1 249 k = -(nI 2) := el
          have := same (fun j h1 _ => by rw [hl] at h1; cases h1) (nI 0) (by rw [c]; rfl)
          simp (disch := omega) only [nI_ad, nI_ml, nI_lti, nI_lei, nI_eqi, nI_nn, nI_0le, nI_eq0, nI_0lt, nI_le0, nI_clamp, nI_pd, nI_sb, zOf_some, zOp_some, zOp_none, kI_int, kL_long, kO_ref, kO_null, nlt_T, nlt_F, nle_T, nle_F, neq_F, vpT, azUp_at, if_true, if_false, true_and, and_true, true_implies, false_implies, implies_true, not_true_eq_false, not_false_eq_true, true_or, or_true, false_or, or_false, and_false, false_and, eq_self, n01_0, n01_1, nm1_0, k0, e32 hf, f38, k242, ed, eci, ten, f36, k240, el, n2]
          exact this
        · rw [hl] at el
          have el : I1 249 k = -(nI 1) := el
          have := same (fun j h1 _ => by rw [hl] at h1; cases h1) (nI 0) (by rw [c]; rfl)
          simp (disch := omega) only [nI_ad, nI_ml, nI_lti, nI_lei, nI_eqi, nI_nn, nI_0le, nI_eq0, nI_0lt, nI_le0, nI_clamp, nI_pd, nI_sb, zOf_some, zOp_some, zOp_none, kI_int, kL_long, kO_ref, kO_null, nlt_T, nlt_F, nle_T, nle_F, neq_F, vpT, azUp_at, if_true, if_false, true_and, and_true, true_implies, false_implies, implies_true, not_true_eq_false, not_false_eq_true, true_or, or_true, false_or, or_false, and_false, false_and, eq_self, n01_0, n01_1, nm1_0, k0, e32 hf, f38, k242, ed, eci, ten, f36, k240, el, n1]
          exact this
        · rw [hl] at el
          have el : I1 249 k = nI j := el
          have hjL := hj k j hl
          have hj60 : j < 60 := by omega
          have ecj := hce j hjL
          cases cj : ec j with
          | false =>
            rw [cj, if_neg (by decide)] at ecj
            have := same (fun j' h1 h2 => by
              rw [hl] at h1
              cases h1
              rw [hm j hjL h2] at cj
              cases cj) (nI 0) (by rw [c]; rfl)
            simp (disch := omega) only [nI_ad, nI_ml, nI_lti, nI_lei, nI_eqi, nI_nn, nI_0le, nI_eq0, nI_0lt, nI_le0, nI_clamp, nI_pd, nI_sb, zOf_some, zOp_some, zOp_none, kI_int, kL_long, kO_ref, kO_null, nlt_T, nlt_F, nle_T, nle_F, neq_F, vpT, azUp_at, if_true, if_false, true_and, and_true, true_implies, false_implies, implies_true, not_true_eq_false, not_false_eq_true, true_or, or_true, false_or, or_false, and_false, false_and, eq_self, n01_0, n01_1, nm1_0, k0, e32 hf, f38, k242, ed, eci, ten, f36, k240, el, ecj]
            exact this
          | true =>
            rw [cj, if_pos rfl] at ecj
            have := ih (k + 1) (azUp I1 251 (k / 10) (nI 1)) (fun i => if i = k / 10 then true else ec i) (by omega) (up hf) (hce.up (b := true) rfl) ⟨fun i hi' he => by
              by_cases ci : i = k / 10
              · subst ci
                refine RE_lds ho.1 (lds_iff.mpr ⟨k % 10, by omega, j, ?_, hjL, cj⟩)
                rw [show 10 * (k / 10) + k % 10 = k by omega]
                exact hl
              · dsimp only at he
                rw [if_neg ci] at he
                exact ho.1 i hi' he, fun i hi' he => by
              dsimp only
              by_cases ci : i = k / 10
              · rw [if_pos ci]
              · rw [if_neg ci]; exact ho.2 i hi' he⟩ (fun i hi' he => by
              by_cases ci : i = k / 10
              · rw [if_pos ci]
              · rw [if_neg ci]; exact hm i hi' he) fun k' j' hk' h1 h2 => by
              by_cases ci : k' / 10 = k / 10
              · rw [if_pos ci]
              · rw [if_neg ci]
                exact hd k' j' (by
                  have : k' ≠ k := fun e => ci (by rw [e])
                  omega) h1 h2
            simp (disch := omega) only [nI_ad, nI_ml, nI_lti, nI_lei, nI_eqi, nI_nn, nI_0le, nI_eq0, nI_0lt, nI_le0, nI_clamp, nI_pd, nI_sb, zOf_some, zOp_some, zOp_none, kI_int, kL_long, kO_ref, kO_null, nlt_T, nlt_F, nle_T, nle_F, neq_F, vpT, azUp_at, if_true, if_false, true_and, and_true, true_implies, false_implies, implies_true, not_true_eq_false, not_false_eq_true, true_or, or_true, false_or, or_false, and_false, false_and, eq_self, n01_0, n01_1, nm1_0, k0, e32 hf, f38, k242, ed, eci, ten, f36, k240, el, ecj]
            exact this
  have rnds : ∀ s r (I1 : azI) (e : Nat → Bool) (w3 : Value), s + r = L → frX9 I' I1 → cE9 I1 e L → spOK S L e → (spCl S L e ∨ r ≤ eN e L) → R (d + 27) mX9_stuck 40 [.ref 228, .int x, .int (nI r), w3] [] ((n, z, kd), I1, J, F) Q := by
    intro s
    induction s with
    | zero =>
      intro r I1 e w3 hr hf hce ho hc
      obtain rfl : r = L := by omega
      have hcl : spCl S r e := by
        rcases hc with hc | hc
        · exact hc
        · have := eN_le (e := e) r
          exact fun i hi _ => eN_all r (by omega) i hi
      have := scan e ho hcl r 0 I1 w3 (by omega) hf hce fun i hi => absurd hi (Nat.not_lt_zero _)
      refine BX9_stuck_40 hR ?_
      simp (disch := omega) only [nI_ad, nI_ml, nI_lti, nI_lei, nI_eqi, nI_nn, nI_0le, nI_eq0, nI_0lt, nI_le0, nI_clamp, nI_pd, nI_sb, zOf_some, zOp_some, zOp_none, kI_int, kL_long, kO_ref, kO_null, nlt_T, nlt_F, nle_T, nle_F, neq_F, vpT, azUp_at, if_true, if_false, true_and, and_true, true_implies, false_implies, implies_true, not_true_eq_false, not_false_eq_true, true_or, or_true, false_or, or_false, and_false, false_and, eq_self, n01_0, n01_1, nm1_0, k0, e32 hf]
      exact this
    | succ s ih =>
      intro r I1 e w3 hr hf hce ho hc
      have := rnd e r (fun I2 e' w3 u1 u2 u3 u4 u5 => ih (r + 1) I2 e' w3 (by omega) u1 u2 u3 ?_) (10 * L) 0 I1 e (by omega) hf hce ho (fun _ _ h => h) fun _ _ h => absurd h (Nat.not_lt_zero _)
      · refine BX9_stuck_40 hR ?_
        simp (disch := omega) only [nI_ad, nI_ml, nI_lti, nI_lei, nI_eqi, nI_nn, nI_0le, nI_eq0, nI_0lt, nI_le0, nI_clamp, nI_pd, nI_sb, zOf_some, zOp_some, zOp_none, kI_int, kL_long, kO_ref, kO_null, nlt_T, nlt_F, nle_T, nle_F, neq_F, vpT, azUp_at, if_true, if_false, true_and, and_true, true_implies, false_implies, implies_true, not_true_eq_false, not_false_eq_true, true_or, or_true, false_or, or_false, and_false, false_and, eq_self, n01_0, n01_1, nm1_0, k0, e32 hf]
        exact this
      · by_cases hcl : spCl S L e
        · left
          intro i hi hl
          exact u4 i hi ((spOK_all ho hcl i hi).mpr (RE_lds u3.1 hl))
        · right
          have hr : r ≤ eN e L := hc.resolve_left hcl
          have : ∃ i, i < L ∧ lds S L e i = true ∧ e i = false := by
            refine Classical.byContradiction fun hn => hcl fun i hi hl => ?_
            cases ce : e i with
            | true => rfl
            | false => exact absurd ⟨i, hi, hl, ce⟩ hn
          obtain ⟨i, hi, hl, ce⟩ := this
          have := eN_lt L u4 ⟨i, hi, ce, u5 i hi hl⟩
          omega
  have ini : ∀ s k (I1 : azI), s + k = L → frX9 I' I1 → (∀ i, i < k → I1 251 i = nI (if !(decide ((S.1.getD i mNil) 9 = [])) then 1 else 0)) → R (d + 27) mX9_stuck 13 [.ref 228, .int x, .int (nI k), .retAddr 0] [] ((n, z, kd), I1, J, F) Q := by
    intro s
    induction s with
    | zero =>
      intro k I1 hk hf hi
      obtain rfl : k = L := by omega
      have := rnds k 0 I1 (fun i => !(decide ((S.1.getD i mNil) 9 = []))) (.retAddr 0) (by omega) hf hi ⟨fun i _ he => ⟨0, he⟩, fun i _ he => by
        dsimp only
        rw [decide_eq_false he]; rfl⟩ (Or.inr (Nat.zero_le _))
      refine BX9_stuck_13 hR ?_
      simp (disch := omega) only [nI_ad, nI_ml, nI_lti, nI_lei, nI_eqi, nI_nn, nI_0le, nI_eq0, nI_0lt, nI_le0, nI_clamp, nI_pd, nI_sb, zOf_some, zOp_some, zOp_none, kI_int, kL_long, kO_ref, kO_null, nlt_T, nlt_F, nle_T, nle_F, neq_F, vpT, azUp_at, if_true, if_false, true_and, and_true, true_implies, false_implies, implies_true, not_true_eq_false, not_false_eq_true, true_or, or_true, false_or, or_false, and_false, false_and, eq_self, n01_0, n01_1, nm1_0, k0, e32 hf]
      exact this
    | succ s ih =>
      intro k I1 hk hf hi
      have hkL : k < L := by omega
      have hk60 : k < 60 := by omega
      have := fun (v : Int32) (hv : v = nI (if !(decide ((S.1.getD k mNil) 9 = [])) then 1 else 0)) => ih (k + 1) (azUp I1 251 k v) (by omega) (up hf) fun i hi' => by
        by_cases c : i = k
        · rw [c, azUp_s]; exact hv
        · rw [azUp_nk c]; exact hi i (by omega)
      refine BX9_stuck_13 hR ?_
      simp (disch := omega) only [nI_ad, nI_ml, nI_lti, nI_lei, nI_eqi, nI_nn, nI_0le, nI_eq0, nI_0lt, nI_le0, nI_clamp, nI_pd, nI_sb, zOf_some, zOp_some, zOp_none, kI_int, kL_long, kO_ref, kO_null, nlt_T, nlt_F, nle_T, nle_F, neq_F, vpT, azUp_at, if_true, if_false, true_and, and_true, true_implies, false_implies, implies_true, not_true_eq_false, not_false_eq_true, true_or, or_true, false_or, or_false, and_false, false_and, eq_self, n01_0, n01_1, nm1_0, k0, e32 hf, f38]
      refine S_isEnd9 hR hK (kp hf) fo60 (by omega) ?_
      by_cases c : (S.1.getD k mNil) 9 = []
      · rw [if_pos c]
        have := this (nI 0) (by rw [decide_eq_true c]; rfl)
        simp (disch := omega) only [nI_ad, nI_ml, nI_lti, nI_lei, nI_eqi, nI_nn, nI_0le, nI_eq0, nI_0lt, nI_le0, nI_clamp, nI_pd, nI_sb, zOf_some, zOp_some, zOp_none, kI_int, kL_long, kO_ref, kO_null, nlt_T, nlt_F, nle_T, nle_F, neq_F, vpT, azUp_at, if_true, if_false, true_and, and_true, true_implies, false_implies, implies_true, not_true_eq_false, not_false_eq_true, true_or, or_true, false_or, or_false, and_false, false_and, eq_self, n01_0, n01_1, nm1_0, k242]
        exact this
      · rw [if_neg c]
        have := this (nI 1) (by rw [decide_eq_false c]; rfl)
        simp (disch := omega) only [nI_ad, nI_ml, nI_lti, nI_lei, nI_eqi, nI_nn, nI_0le, nI_eq0, nI_0lt, nI_le0, nI_clamp, nI_pd, nI_sb, zOf_some, zOp_some, zOp_none, kI_int, kL_long, kO_ref, kO_null, nlt_T, nlt_F, nle_T, nle_F, neq_F, vpT, azUp_at, if_true, if_false, true_and, and_true, true_implies, false_implies, implies_true, not_true_eq_false, not_false_eq_true, true_or, or_true, false_or, or_false, and_false, false_and, eq_self, n01_0, n01_1, nm1_0, k242]
        exact this
  simp (disch := omega) only [nI_ad, nI_ml, nI_lti, nI_lei, nI_eqi, nI_nn, nI_0le, nI_eq0, nI_0lt, nI_le0, nI_clamp, nI_pd, nI_sb, zOf_some, zOp_some, zOp_none, kI_int, kL_long, kO_ref, kO_null, nlt_T, nlt_F, nle_T, nle_F, neq_F, vpT, azUp_at, if_true, if_false, true_and, and_true, true_implies, false_implies, implies_true, not_true_eq_false, not_false_eq_true, true_or, or_true, false_or, or_false, and_false, false_and, eq_self, n01_0, n01_1, nm1_0]
  exact ini L 0 I' (by omega) (fun _ _ => rfl) fun i hi => absurd hi (Nat.not_lt_zero _)
end S9
