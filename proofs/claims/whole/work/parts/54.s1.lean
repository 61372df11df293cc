/-! SPECS: Firing.value. -/
def opS (s : Nat) (a b : Int32) : Int32 :=
  if s = 42 then a * b else if s = 43 then a + b else if s = 45 then a - b else if s = 60 then (if a < b then nI 1 else nI 0) else if s = 61 then (if a = b then nI 1 else nI 0) else if s = 62 then (if b < a then nI 1 else nI 0) else a &&& b
/-- the value of a tree -/
def exEv (nm : Nat → Int32) : Ex → Int32
  | .leaf n => if n < 100 then nI n else nm (n - 100)
  | .branch s a b => opS s (exEv nm a) (exEv nm b)
def FiOk (kd : azK) (F : azR) (a : Nat) : Prop := (kd a).1 = 1 ∧ kd (a + 1) = (10, 3) ∧ kd (a + 2) = (10, 3) ∧ kd (a + 3) = (10, 80) ∧ F a 0 = some (a + 1) ∧ F a 1 = some (a + 2) ∧ F a 2 = some (a + 3)
theorem exPost_pos : ∀ e : Ex, 0 < (exPost e).length
  | .leaf _ => by simp [exPost]
  | .branch _ _ _ => by simp [exPost]; omega
section S1
variable {R : azP} {D d n z : Nat} {kd : azK} {I : azI} {J : azJ} {F : azR} {Q : azQ} {a r : Nat} {kb : Nat}
theorem S_result (hR : azClosed R) {s : Nat} (hs : s < 100) {x y : Int32} {σ : azS} (h : Q (some (.int (opS s x y))) σ) : R d mX1_result 0 [.int (nI s), .int x, .int y] [] σ Q := by
  obtain ⟨⟨n, z, kd⟩, I, J, F⟩ := σ
  refine BX1_result_0 hR ?_
  rw [nI_toInt (by omega)]
  unfold opS at h
  by_cases c1 : s = 42
  · subst c1; exact ⟨fun _ => h, fun e => absurd rfl e⟩
  rw [if_neg c1] at h
  refine ⟨fun e => absurd e (by omega), fun _ => ?_⟩
  by_cases c2 : s = 43
  · subst c2; exact ⟨fun _ => h, fun e => absurd rfl e⟩
  rw [if_neg c2] at h
  refine ⟨fun e => absurd e (by omega), fun _ => ?_⟩
  by_cases c3 : s = 45
  · subst c3; exact ⟨fun _ => h, fun e => absurd rfl e⟩
  rw [if_neg c3] at h
  refine ⟨fun e => absurd e (by omega), fun _ => ?_⟩
  by_cases c4 : s = 60
  · subst c4
    refine ⟨fun _ => ⟨fun e => ?_, fun e => ?_⟩, fun e => absurd rfl e⟩
    · rw [if_pos rfl, if_neg (Int32.not_lt.mpr e)] at h; exact h
    · rw [if_pos rfl, if_pos (Int32.not_le.mp e)] at h; exact h
  rw [if_neg c4] at h
  refine ⟨fun e => absurd e (by omega), fun _ => ?_⟩
  by_cases c5 : s = 61
  · subst c5
    refine ⟨fun _ => ⟨fun e => ?_, fun e => ?_⟩, fun e => absurd rfl e⟩
    · rw [if_pos rfl, if_neg e] at h; exact h
    · rw [if_pos rfl, if_pos (Classical.not_not.mp e)] at h; exact h
  rw [if_neg c5] at h
  refine ⟨fun e => absurd e (by omega), fun _ => ?_⟩
  by_cases c6 : s = 62
  · subst c6
    refine ⟨fun _ => ⟨fun e => ?_, fun e => ?_⟩, fun e => absurd rfl e⟩
    · rw [if_pos rfl, if_neg (Int32.not_lt.mpr e)] at h; exact h
    · rw [if_pos rfl, if_pos (Int32.not_le.mp e)] at h; exact h
  rw [if_neg c6] at h
  exact ⟨fun e => absurd e (by omega), fun _ => h⟩
/-- code stands in a rule from a place on -/
def coAt (I : azI) (r k : Nat) (l : List Nat) : Prop := ∀ j, j < l.length → I (r + 8) (k + j) = nI (l.getD j 0)
theorem coAt.lft {k : Nat} {l m : List Nat} (h : coAt I r k (l ++ m)) : coAt I r k l := fun j hj => by
  rw [h j (by rw [List.length_append]; omega)]
  simp only [List.getD_eq_getElem?_getD]
  rw [List.getElem?_append_left hj]
theorem coAt.rgt {k : Nat} {l m : List Nat} (h : coAt I r k (l ++ m)) : coAt I r (k + l.length) m := fun j hj => by
  have := h (l.length + j) (by rw [List.length_append]; omega)
  rw [← Nat.add_assoc] at this
  rw [this]
  simp only [List.getD_eq_getElem?_getD]
  rw [List.getElem?_append_right (by omega), Nat.add_sub_cancel_left]
theorem L_value (hR : azClosed R) (hF : FiOk kd F a) (hM : RuOk kd F r) (hra : a + 3 < r) {c E : Nat} (hc : c < 12) (hE : E ≤ 80) : ∀ (e : Ex) (k p : Nat) (I : azI) (w5 w6 : Value), exOK kb e → coAt I r k (exPost e) → I (r + 5) c = nI E → k + (exPost e).length ≤ E → p + (exPost e).length ≤ 80 →
    (∀ (I' : azI) (w5 w6 : Value), I' (a + 3) p = exEv (fun w => I (a + 2) w) e → (∀ q, q < p → I' (a + 3) q = I (a + 3) q) → (∀ b, b ≠ a + 3 → I' b = I b) → R (d + 1) mX1_value 9 [.ref a, .ref r, .int (nI c), .int (nI (p + 1)), .int (nI (k + (exPost e).length)), w5, w6] [] ((n, z, kd), I', J, F) Q) →
    R (d + 1) mX1_value 9 [.ref a, .ref r, .int (nI c), .int (nI p), .int (nI k), w5, w6] [] ((n, z, kd), I, J, F) Q := by
  have ⟨k0, k1, k2, k3, f0, f1, f2⟩ := hF
  intro e
  induction e with
  | leaf v =>
    intro k p I w5 w6 ho hco hE5 hk hp h
    simp only [exPost, List.length_cons, List.length_nil, Nat.zero_add] at hk hp h hco
    have hi : I (r + 8) k = nI v := by have := hco 0 (by simp); simpa using this
    have hv : v < 103 := by rcases ho with h | h <;> omega
    have fin : ∀ (w5 w6 : Value), R (d + 1) mX1_value 9 [.ref a, .ref r, .int (nI c), .int (nI (p + 1)), .int (nI (k + 1)), w5, w6] [] ((n, z, kd), azUp I (a + 3) p (exEv (fun w => I (a + 2) w) (.leaf v)), J, F) Q := by
      intro w5 w6
      refine h _ w5 w6 azUp_s (fun q hq => azUp_nk (by omega)) (fun b hb => azUp_nb hb)
    refine BX1_value_9 hR ?_
    simp (disch := omega) only [nI_ad, nI_ml, nI_lti, nI_lei, nI_eqi, nI_nn, nI_0le, nI_eq0, nI_0lt, nI_le0, nI_clamp, nI_pd, nI_sb, zOf_some, zOp_some, zOp_none, kI_int, kL_long, kO_ref, kO_null, nlt_T, nlt_F, nle_T, nle_F, neq_F, vpT, azUp_at, if_true, if_false, true_and, and_true, true_implies, false_implies, implies_true, not_true_eq_false, not_false_eq_true, true_or, or_true, false_or, or_false, and_false, false_and, eq_self, n01_0, n01_1, nm1_0, hM.1]
    refine S_end hR hM hc ?_
    rw [hE5]
    simp (disch := omega) only [nI_ad, nI_ml, nI_lti, nI_lei, nI_eqi, nI_nn, nI_0le, nI_eq0, nI_0lt, nI_le0, nI_clamp, nI_pd, nI_sb, zOf_some, zOp_some, zOp_none, kI_int, kL_long, kO_ref, kO_null, nlt_T, nlt_F, nle_T, nle_F, neq_F, vpT, azUp_at, if_true, if_false, true_and, and_true, true_implies, false_implies, implies_true, not_true_eq_false, not_false_eq_true, true_or, or_true, false_or, or_false, and_false, false_and, eq_self, n01_0, n01_1, nm1_0, hM.1]
    refine S_item hR hM (by omega) ?_
    rw [hi]
    by_cases c1 : v < 100
    · simp (disch := omega) only [nI_ad, nI_ml, nI_lti, nI_lei, nI_eqi, nI_nn, nI_0le, nI_eq0, nI_0lt, nI_le0, nI_clamp, nI_pd, nI_sb, zOf_some, zOp_some, zOp_none, kI_int, kL_long, kO_ref, kO_null, nlt_T, nlt_F, nle_T, nle_F, neq_F, vpT, azUp_at, if_true, if_false, true_and, and_true, true_implies, false_implies, implies_true, not_true_eq_false, not_false_eq_true, true_or, or_true, false_or, or_false, and_false, false_and, eq_self, n01_0, n01_1, nm1_0, c1]
      refine BX1_value_99 hR ?_
      have := fin
      simp only [exEv, if_pos c1] at this
      simp (disch := omega) only [nI_ad, nI_ml, nI_lti, nI_lei, nI_eqi, nI_nn, nI_0le, nI_eq0, nI_0lt, nI_le0, nI_clamp, nI_pd, nI_sb, zOf_some, zOp_some, zOp_none, kI_int, kL_long, kO_ref, kO_null, nlt_T, nlt_F, nle_T, nle_F, neq_F, vpT, azUp_at, if_true, if_false, true_and, and_true, true_implies, false_implies, implies_true, not_true_eq_false, not_false_eq_true, true_or, or_true, false_or, or_false, and_false, false_and, eq_self, n01_0, n01_1, nm1_0, k0, f2, k3]
      exact this _ _
    · have := fin
      simp only [exEv, if_neg c1] at this
      simp (disch := omega) only [nI_ad, nI_ml, nI_lti, nI_lei, nI_eqi, nI_nn, nI_0le, nI_eq0, nI_0lt, nI_le0, nI_clamp, nI_pd, nI_sb, zOf_some, zOp_some, zOp_none, kI_int, kL_long, kO_ref, kO_null, nlt_T, nlt_F, nle_T, nle_F, neq_F, vpT, azUp_at, if_true, if_false, true_and, and_true, true_implies, false_implies, implies_true, not_true_eq_false, not_false_eq_true, true_or, or_true, false_or, or_false, and_false, false_and, eq_self, n01_0, n01_1, nm1_0, c1, k0, f2, k3, f1, k2]
      exact this _ _
  | branch s x y ihx ihy =>
    intro k p I w5 w6 ho hco hE5 hk hp h
    obtain ⟨hs, hs0, hx, hy⟩ := ho
    simp only [exPost, List.length_append, List.length_cons, List.length_nil, Nat.zero_add] at hk hp h
    unfold exPost at hco
    have l1 := exPost_pos x
    have l2 := exPost_pos y
    refine ihx k p I w5 w6 hx hco.lft.lft hE5 (by omega) (by omega) fun I1 w5 w6 a1 a2 a3 => ?_
    have e8 : I1 (r + 8) = I (r + 8) := a3 (r + 8) (by omega)
    have e5 : I1 (r + 5) c = nI E := by rw [a3 (r + 5) (by omega)]; exact hE5
    refine ihy (k + (exPost x).length) (p + 1) I1 w5 w6 hy (fun j hj => by rw [e8]; exact hco.lft.rgt j hj) e5 (by omega) (by omega) fun I2 w5 w6 b1 b2 b3 => ?_
    have e8' : I2 (r + 8) = I (r + 8) := by rw [b3 (r + 8) (by omega), e8]
    have e5' : I2 (r + 5) c = nI E := by rw [b3 (r + 5) (by omega)]; exact e5
    have hi : I2 (r + 8) (k + (exPost x).length + (exPost y).length) = nI (200 + s) := by
      have := hco.rgt 0 (by simp)
      rw [e8']
      simpa [Nat.add_assoc] using this
    have v1 : I2 (a + 3) p = exEv (fun w => I (a + 2) w) x := by rw [b2 p (by omega)]; exact a1
    have v2 : I2 (a + 3) (p + 1) = exEv (fun w => I (a + 2) w) y := by rw [b1, a3 (a + 2) (by omega)]
    have s1 : p + 1 + 1 - 2 = p := by omega
    have s2 : p + 1 + 1 - 1 = p + 1 := by omega
    have s3 : 200 + s - 200 = s := by omega
    refine BX1_value_9 hR ?_
    simp (disch := omega) only [nI_ad, nI_ml, nI_lti, nI_lei, nI_eqi, nI_nn, nI_0le, nI_eq0, nI_0lt, nI_le0, nI_clamp, nI_pd, nI_sb, zOf_some, zOp_some, zOp_none, kI_int, kL_long, kO_ref, kO_null, nlt_T, nlt_F, nle_T, nle_F, neq_F, vpT, azUp_at, if_true, if_false, true_and, and_true, true_implies, false_implies, implies_true, not_true_eq_false, not_false_eq_true, true_or, or_true, false_or, or_false, and_false, false_and, eq_self, n01_0, n01_1, nm1_0, hM.1]
    refine S_end hR hM hc ?_
    rw [e5']
    simp (disch := omega) only [nI_ad, nI_ml, nI_lti, nI_lei, nI_eqi, nI_nn, nI_0le, nI_eq0, nI_0lt, nI_le0, nI_clamp, nI_pd, nI_sb, zOf_some, zOp_some, zOp_none, kI_int, kL_long, kO_ref, kO_null, nlt_T, nlt_F, nle_T, nle_F, neq_F, vpT, azUp_at, if_true, if_false, true_and, and_true, true_implies, false_implies, implies_true, not_true_eq_false, not_false_eq_true, true_or, or_true, false_or, or_false, and_false, false_and, eq_self, n01_0, n01_1, nm1_0, hM.1]
    refine S_item hR hM (by omega) ?_
    rw [hi]
    simp (disch := omega) only [nI_ad, nI_ml, nI_lti, nI_lei, nI_eqi, nI_nn, nI_0le, nI_eq0, nI_0lt, nI_le0, nI_clamp, nI_pd, nI_sb, zOf_some, zOp_some, zOp_none, kI_int, kL_long, kO_ref, kO_null, nlt_T, nlt_F, nle_T, nle_F, neq_F, vpT, azUp_at, if_true, if_false, true_and, and_true, true_implies, false_implies, implies_true, not_true_eq_false, not_false_eq_true, true_or, or_true, false_or, or_false, and_false, false_and, eq_self, n01_0, n01_1, nm1_0, k0, f2, k3, s1, s2, s3, v1, v2, nI_pd]
    refine S_result hR hs ?_
    simp (disch := omega) only [nI_ad, nI_ml, nI_lti, nI_lei, nI_eqi, nI_nn, nI_0le, nI_eq0, nI_0lt, nI_le0, nI_clamp, nI_pd, nI_sb, zOf_some, zOp_some, zOp_none, kI_int, kL_long, kO_ref, kO_null, nlt_T, nlt_F, nle_T, nle_F, neq_F, vpT, azUp_at, if_true, if_false, true_and, and_true, true_implies, false_implies, implies_true, not_true_eq_false, not_false_eq_true, true_or, or_true, false_or, or_false, and_false, false_and, eq_self, n01_0, n01_1, nm1_0, k3, s1, s2, nI_pd]
    rw [← Nat.add_assoc, ← Nat.add_assoc] at h
    refine h _ _ _ azUp_s (fun q hq => ?_) (fun b hb => ?_)
    · rw [azUp_nk (by omega), b2 q (by omega), a2 q hq]
    · rw [azUp_nb hb, b3 b hb, a3 b hb]
end S1
