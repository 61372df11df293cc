/-! SPECS: Paper.writeCode. -/
/-- how tightly a sign holds, and a tree -/
def hof (s : Nat) : Nat := if s = 38 then 0 else if s = 42 then 3 else if s = 43 ∨ s = 45 then 2 else 1
def tgt : Ex → Nat
  | .leaf _ => 4
  | .branch s _ _ => hof s
def bra (b : Bool) (t : List Nat) : List Nat := if b then 40 :: t ++ [41] else t
/-- a tree spelled -/
def exShow : Ex → List Nat
  | .leaf n => if n < 100 then numTx n else [120 + n - 100]
  | .branch s a b => bra (decide (tgt a < hof s)) (exShow a) ++ s :: bra (decide (tgt b ≤ hof s)) (exShow b)
theorem hof_le (s : Nat) : hof s ≤ 3 := by
  unfold hof
  split
  · omega
  · split
    · omega
    · split <;> omega
theorem tgt_le (e : Ex) : tgt e ≤ 4 := by
  cases e with
  | leaf n => exact Nat.le_refl _
  | branch s a b => exact Nat.le_trans (hof_le s) (by decide)
theorem bra_len {b : Bool} {t : List Nat} : t.length ≤ (bra b t).length := by
  unfold bra
  split
  · simp only [List.cons_append, List.length_cons, List.length_append, List.length_nil]; omega
  · exact Nat.le_refl _
section S4
variable {R : azP} {d n z : Nat} {kd : azK} {I : azI} {J : azJ} {F : azR} {Q : azQ} {a r : Nat} {t : List Nat}
theorem S_holdOf (hR : azClosed R) {s : Nat} (hs : s < 100) {σ : azS} (h : Q (some (.int (nI (hof s)))) σ) : R d mX4_holdOf 0 [.int (nI s)] [] σ Q := by
  obtain ⟨⟨n, z, kd⟩, I, J, F⟩ := σ
  refine BX4_holdOf_0 hR ?_
  rw [nI_toInt (by omega)]
  unfold hof at h
  refine ⟨fun e => ?_, fun e => ?_, fun e => ?_, fun e => ?_, fun e => ?_, fun e => ?_, fun e => ?_, fun e => ?_, fun e => ?_, trivial⟩
  · rw [if_neg (by omega), if_neg (by omega), if_neg (by omega)] at h; exact h
  · rw [if_pos (by omega)] at h; exact h
  · rw [if_neg (by omega), if_neg (by omega), if_neg (by omega)] at h; exact h
  · rw [if_neg (by omega), if_neg (by omega), if_neg (by omega)] at h; exact h
  · rw [if_neg (by omega), if_neg (by omega), if_neg (by omega)] at h; exact h
  · rw [if_neg (by omega), if_pos (by omega)] at h; exact h
  · rw [if_neg (by omega), if_neg (by omega), if_pos (by omega)] at h; exact h
  · rw [if_neg (by omega), if_neg (by omega), if_neg (by omega)] at h; exact h
  · rw [if_neg (by omega), if_neg (by omega), if_pos (by omega)] at h; exact h
theorem S_writeItem (hR : azClosed R) (hM : PpOk kd F a) (hc : cP I a t) {v : Nat} (hv : v < 103) (hl : t.length + (exShow (.leaf v)).length ≤ 256) (h : ∀ I', cP I' a (t ++ exShow (.leaf v)) → (∀ b, b ≠ a → b ≠ a + 1 → I' b = I b) → Q none ((n, z, kd), I', J, F)) : R (d + 2) mX4_writeItem 0 [.ref a, .int (nI v)] [] ((n, z, kd), I, J, F) Q := by
  have k0 := hM.1
  refine BX4_writeItem_0 hR ?_
  unfold exShow at h hl
  by_cases c : v < 100
  · rw [if_pos c] at h hl
    simp (disch := omega) only [nI_ad, nI_ml, nI_lti, nI_lei, nI_eqi, nI_nn, nI_0le, nI_eq0, nI_0lt, nI_le0, nI_clamp, nI_pd, nI_sb, zOf_some, zOp_some, zOp_none, kI_int, kL_long, kO_ref, kO_null, nlt_T, nlt_F, nle_T, nle_F, neq_F, vpT, azUp_at, if_true, if_false, true_and, and_true, true_implies, false_implies, implies_true, not_true_eq_false, not_false_eq_true, true_or, or_true, false_or, or_false, and_false, false_and, eq_self, n01_0, n01_1, nm1_0, k0, c]
    exact S_writeNumber hR hM hc c hl fun I' h1 h2 => ⟨rfl, h I' h1 h2⟩
  · rw [if_neg c] at h hl
    simp (disch := omega) only [nI_ad, nI_ml, nI_lti, nI_lei, nI_eqi, nI_nn, nI_0le, nI_eq0, nI_0lt, nI_le0, nI_clamp, nI_pd, nI_sb, zOf_some, zOp_some, zOp_none, kI_int, kL_long, kO_ref, kO_null, nlt_T, nlt_F, nle_T, nle_F, neq_F, vpT, azUp_at, if_true, if_false, true_and, and_true, true_implies, false_implies, implies_true, not_true_eq_false, not_false_eq_true, true_or, or_true, false_or, or_false, and_false, false_and, eq_self, n01_0, n01_1, nm1_0, k0, c]
    exact S_write hR hM hc (by simp at hl; omega) fun I' h1 h2 => ⟨rfl, h I' h1 h2⟩
/-- two pieces become one -/
theorem S_joinPieces (hR : azClosed R) (hM : PpOk kd F a) {A B : List Nat} {ha hb : Nat} (hc : cP I a (t ++ A ++ B)) {p s : Nat} (hp : p + 1 < 80) (hs : s < 100) (s1 : I (a + 2) p = nI t.length) (s2 : I (a + 2) (p + 1) = nI (t ++ A).length) (h1 : I (a + 3) p = nI ha) (h2 : I (a + 3) (p + 1) = nI hb) (ha4 : ha ≤ 4) (hb4 : hb ≤ 4)
    (hl : (t ++ (bra (decide (ha < hof s)) A ++ s :: bra (decide (hb ≤ hof s)) B)).length ≤ 256)
    (h : ∀ I', cP I' a (t ++ (bra (decide (ha < hof s)) A ++ s :: bra (decide (hb ≤ hof s)) B)) → I' (a + 3) p = nI (hof s) → (∀ q, q ≠ p → I' (a + 3) q = I (a + 3) q) → (∀ b, b ≠ a → b ≠ a + 1 → b ≠ a + 3 → I' b = I b) → Q none ((n, z, kd), I', J, F)) : R (d + 1) mX4_joinPieces 0 [.ref a, .int (nI p), .int (nI (p + 1)), .int (nI s), .retAddr 0] [] ((n, z, kd), I, J, F) Q := by
  have hM' := hM
  obtain ⟨k0, k1, k2, k3, f0, f1, f2⟩ := hM
  have hh := hof_le s
  have main : ∀ (I1 : azI) (B' : List Nat), B' = bra (decide (hb ≤ hof s)) B → cP I1 a (t ++ A ++ B') → (∀ b, b ≠ a → b ≠ a + 1 → I1 b = I b) → R (d + 1) mX4_joinPieces 56 [.ref a, .int (nI p), .int (nI (p + 1)), .int (nI s), .int (nI (hof s))] [] ((n, z, kd), I1, J, F) Q := by
    intro I1 B' eB hc1 hf1
    rw [← eB] at hl h
    have i2 : I1 (a + 2) (p + 1) = nI (t ++ A).length := by rw [hf1 _ (by omega) (by omega)]; exact s2
    have la : A.length ≤ (bra (decide (ha < hof s)) A).length := bra_len
    have hl2 : (t ++ A ++ s :: B').length ≤ 256 := by
      simp only [List.length_append, List.length_cons] at hl ⊢
      omega
    have hA256 : (t ++ A).length < 256 := by rw [List.length_append, List.length_cons] at hl2; omega
    have ht256 : t.length < 256 := by rw [List.length_append] at hA256; omega
    refine BX4_joinPieces_56 hR ?_
    simp (disch := omega) only [nI_ad, nI_ml, nI_lti, nI_lei, nI_eqi, nI_nn, nI_0le, nI_eq0, nI_0lt, nI_le0, nI_clamp, nI_pd, nI_sb, zOf_some, zOp_some, zOp_none, kI_int, kL_long, kO_ref, kO_null, nlt_T, nlt_F, nle_T, nle_F, neq_F, vpT, azUp_at, if_true, if_false, true_and, and_true, true_implies, false_implies, implies_true, not_true_eq_false, not_false_eq_true, true_or, or_true, false_or, or_false, and_false, false_and, eq_self, n01_0, n01_1, nm1_0, k0, f1, k2, i2]
    refine S_insert hR hM' hc1 (by rw [List.length_append, List.length_cons] at hl2; rw [List.length_append]; omega) (by rw [List.length_append (bs := B')]; omega) fun I2 q1 q2 => ⟨rfl, ?_⟩
    rw [ins_app] at q1
    have j1 : I2 (a + 3) p = nI ha := by rw [q2 _ (by omega) (by omega), hf1 _ (by omega) (by omega)]; exact h1
    have i22 : I2 (a + 2) (p + 1) = nI (t ++ A).length := by rw [q2 _ (by omega) (by omega)]; exact i2
    have i21 : I2 (a + 2) p = nI t.length := by rw [q2 _ (by omega) (by omega), hf1 _ (by omega) (by omega)]; exact s1
    simp (disch := omega) only [nI_ad, nI_ml, nI_lti, nI_lei, nI_eqi, nI_nn, nI_0le, nI_eq0, nI_0lt, nI_le0, nI_clamp, nI_pd, nI_sb, zOf_some, zOp_some, zOp_none, kI_int, kL_long, kO_ref, kO_null, nlt_T, nlt_F, nle_T, nle_F, neq_F, vpT, azUp_at, if_true, if_false, true_and, and_true, true_implies, false_implies, implies_true, not_true_eq_false, not_false_eq_true, true_or, or_true, false_or, or_false, and_false, false_and, eq_self, n01_0, n01_1, nm1_0, k0, f2, k3, j1]
    by_cases c : ha < hof s
    · rw [decide_eq_true c] at hl h
      simp (disch := omega) only [nI_ad, nI_ml, nI_lti, nI_lei, nI_eqi, nI_nn, nI_0le, nI_eq0, nI_0lt, nI_le0, nI_clamp, nI_pd, nI_sb, zOf_some, zOp_some, zOp_none, kI_int, kL_long, kO_ref, kO_null, nlt_T, nlt_F, nle_T, nle_F, neq_F, vpT, azUp_at, if_true, if_false, true_and, and_true, true_implies, false_implies, implies_true, not_true_eq_false, not_false_eq_true, true_or, or_true, false_or, or_false, and_false, false_and, eq_self, n01_0, n01_1, nm1_0, f1, k2, i22, c]
      have el : (t ++ A ++ s :: B').length + 2 ≤ 256 := by
        simp only [bra, if_pos, List.length_append, List.length_cons, List.length_nil] at hl ⊢
        omega
      refine S_insert hR hM' q1 (by omega) (by rw [List.length_append (bs := s :: B')]; omega) fun I3 r1 r2 => ⟨rfl, ?_⟩
      rw [ins_app] at r1
      have i31 : I3 (a + 2) p = nI t.length := by rw [r2 _ (by omega) (by omega)]; exact i21
      simp (disch := omega) only [nI_ad, nI_ml, nI_lti, nI_lei, nI_eqi, nI_nn, nI_0le, nI_eq0, nI_0lt, nI_le0, nI_clamp, nI_pd, nI_sb, zOf_some, zOp_some, zOp_none, kI_int, kL_long, kO_ref, kO_null, nlt_T, nlt_F, nle_T, nle_F, neq_F, vpT, azUp_at, if_true, if_false, true_and, and_true, true_implies, false_implies, implies_true, not_true_eq_false, not_false_eq_true, true_or, or_true, false_or, or_false, and_false, false_and, eq_self, n01_0, n01_1, nm1_0, k0, f1, k2, i31]
      have e5 : t ++ A ++ 41 :: s :: B' = t ++ (A ++ 41 :: s :: B') := by rw [List.append_assoc]
      refine S_insert hR hM' r1 (by simp only [List.length_append, List.length_cons] at el ⊢; omega) (by rw [e5, List.length_append]; omega) fun I4 u1 u2 => ⟨rfl, ?_⟩
      rw [e5, ins_app] at u1
      simp (disch := omega) only [nI_ad, nI_ml, nI_lti, nI_lei, nI_eqi, nI_nn, nI_0le, nI_eq0, nI_0lt, nI_le0, nI_clamp, nI_pd, nI_sb, zOf_some, zOp_some, zOp_none, kI_int, kL_long, kO_ref, kO_null, nlt_T, nlt_F, nle_T, nle_F, neq_F, vpT, azUp_at, if_true, if_false, true_and, and_true, true_implies, false_implies, implies_true, not_true_eq_false, not_false_eq_true, true_or, or_true, false_or, or_false, and_false, false_and, eq_self, n01_0, n01_1, nm1_0, k0, f2, k3]
      refine h _ ?_ azUp_s (fun q hq => ?_) fun b g1 g2 g3 => ?_
      · have := u1.keep (I' := azUp I4 (a + 3) p (nI (hof s))) (azUp_nb (by omega)) (azUp_nb (by omega))
        have e6 : t ++ 40 :: (A ++ 41 :: s :: B') = t ++ (bra true A ++ s :: B') := by simp [bra]
        rw [e6] at this
        exact this
      · rw [azUp_nk hq, u2 _ (by omega) (by omega), r2 _ (by omega) (by omega), q2 _ (by omega) (by omega), hf1 _ (by omega) (by omega)]
      · rw [azUp_nb g3, u2 _ g1 g2, r2 _ g1 g2, q2 _ g1 g2, hf1 _ g1 g2]
    · rw [decide_eq_false c] at hl h
      simp (disch := omega) only [nI_ad, nI_ml, nI_lti, nI_lei, nI_eqi, nI_nn, nI_0le, nI_eq0, nI_0lt, nI_le0, nI_clamp, nI_pd, nI_sb, zOf_some, zOp_some, zOp_none, kI_int, kL_long, kO_ref, kO_null, nlt_T, nlt_F, nle_T, nle_F, neq_F, vpT, azUp_at, if_true, if_false, true_and, and_true, true_implies, false_implies, implies_true, not_true_eq_false, not_false_eq_true, true_or, or_true, false_or, or_false, and_false, false_and, eq_self, n01_0, n01_1, nm1_0, c]
      refine h _ ?_ azUp_s (fun q hq => ?_) fun b g1 g2 g3 => ?_
      · have := q1.keep (I' := azUp I2 (a + 3) p (nI (hof s))) (azUp_nb (by omega)) (azUp_nb (by omega))
        rw [List.append_assoc] at this
        exact this
      · rw [azUp_nk hq, q2 _ (by omega) (by omega), hf1 _ (by omega) (by omega)]
      · rw [azUp_nb g3, q2 _ g1 g2, hf1 _ g1 g2]
  refine BX4_joinPieces_0 hR ?_
  simp (disch := omega) only [nI_ad, nI_ml, nI_lti, nI_lei, nI_eqi, nI_nn, nI_0le, nI_eq0, nI_0lt, nI_le0, nI_clamp, nI_pd, nI_sb, zOf_some, zOp_some, zOp_none, kI_int, kL_long, kO_ref, kO_null, nlt_T, nlt_F, nle_T, nle_F, neq_F, vpT, azUp_at, if_true, if_false, true_and, and_true, true_implies, false_implies, implies_true, not_true_eq_false, not_false_eq_true, true_or, or_true, false_or, or_false, and_false, false_and, eq_self, n01_0, n01_1, nm1_0]
  refine S_holdOf hR hs ?_
  simp (disch := omega) only [nI_ad, nI_ml, nI_lti, nI_lei, nI_eqi, nI_nn, nI_0le, nI_eq0, nI_0lt, nI_le0, nI_clamp, nI_pd, nI_sb, zOf_some, zOp_some, zOp_none, kI_int, kL_long, kO_ref, kO_null, nlt_T, nlt_F, nle_T, nle_F, neq_F, vpT, azUp_at, if_true, if_false, true_and, and_true, true_implies, false_implies, implies_true, not_true_eq_false, not_false_eq_true, true_or, or_true, false_or, or_false, and_false, false_and, eq_self, n01_0, n01_1, nm1_0, k0, f2, k3, h2]
  by_cases c : hb ≤ hof s
  · simp (disch := omega) only [nI_ad, nI_ml, nI_lti, nI_lei, nI_eqi, nI_nn, nI_0le, nI_eq0, nI_0lt, nI_le0, nI_clamp, nI_pd, nI_sb, zOf_some, zOp_some, zOp_none, kI_int, kL_long, kO_ref, kO_null, nlt_T, nlt_F, nle_T, nle_F, neq_F, vpT, azUp_at, if_true, if_false, true_and, and_true, true_implies, false_implies, implies_true, not_true_eq_false, not_false_eq_true, true_or, or_true, false_or, or_false, and_false, false_and, eq_self, n01_0, n01_1, nm1_0, f1, k2, s2, c]
    have eB : bra (decide (hb ≤ hof s)) B = 40 :: B ++ [41] := by rw [decide_eq_true c]; rfl
    have la : A.length ≤ (bra (decide (ha < hof s)) A).length := bra_len
    rw [eB] at hl
    have el : (t ++ A ++ B).length + 3 ≤ 256 := by
      simp only [List.length_append, List.length_cons, List.length_nil] at hl ⊢
      omega
    refine S_insert hR hM' hc (by omega) (by rw [List.length_append (bs := B)]; omega) fun I1 q1 q2 => ⟨rfl, ?_⟩
    rw [ins_app] at q1
    simp (disch := omega) only [nI_ad, nI_ml, nI_lti, nI_lei, nI_eqi, nI_nn, nI_0le, nI_eq0, nI_0lt, nI_le0, nI_clamp, nI_pd, nI_sb, zOf_some, zOp_some, zOp_none, kI_int, kL_long, kO_ref, kO_null, nlt_T, nlt_F, nle_T, nle_F, neq_F, vpT, azUp_at, if_true, if_false, true_and, and_true, true_implies, false_implies, implies_true, not_true_eq_false, not_false_eq_true, true_or, or_true, false_or, or_false, and_false, false_and, eq_self, n01_0, n01_1, nm1_0, k0]
    refine S_write hR hM' q1 (by rw [List.length_append, List.length_cons]; rw [List.length_append] at el; omega) fun I2 r1 r2 => ⟨rfl, ?_⟩
    refine main I2 _ eB.symm ?_ fun b g1 g2 => by rw [r2 b g1 g2, q2 b g1 g2]
    have : t ++ A ++ (40 :: B ++ [41]) = t ++ A ++ 40 :: B ++ [41] := by simp
    rw [this]
    exact r1
  · simp (disch := omega) only [nI_ad, nI_ml, nI_lti, nI_lei, nI_eqi, nI_nn, nI_0le, nI_eq0, nI_0lt, nI_le0, nI_clamp, nI_pd, nI_sb, zOf_some, zOp_some, zOp_none, kI_int, kL_long, kO_ref, kO_null, nlt_T, nlt_F, nle_T, nle_F, neq_F, vpT, azUp_at, if_true, if_false, true_and, and_true, true_implies, false_implies, implies_true, not_true_eq_false, not_false_eq_true, true_or, or_true, false_or, or_false, and_false, false_and, eq_self, n01_0, n01_1, nm1_0, c]
    refine main I B ?_ hc fun _ _ _ => rfl
    rw [decide_eq_false c]
    rfl
end S4
