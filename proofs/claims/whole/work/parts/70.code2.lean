/-! SPECS: Paper.writeCode, writeClause, writeRule. -/
/-- a clause spelled, and a rule -/
def clShow (c : Cls) : List Nat := wTx.getD c.1 [] ++ [32] ++ (if c.1 = 1 then [] else numTx c.2.1) ++ (if c.1 = 0 then [32, 120 + c.2.2.1] else []) ++ (if c.1 = 2 then [32] else []) ++ (if c.1 = 2 ∨ c.1 = 1 then exShow (cEx c) else [])
def rShow : List Cls → List Nat
  | [] => []
  | c :: l => clShow c ++ l.flatMap fun c => 59 :: clShow c
theorem rShow_add (cs : List Cls) (c : Cls) : rShow (cs ++ [c]) = rShow cs ++ (if cs = [] then [] else [59]) ++ clShow c := by
  cases cs with
  | nil => simp [rShow]
  | cons a l => simp [rShow]
theorem rShow_len (l1 l2 : List Cls) : (rShow l1).length ≤ (rShow (l1 ++ l2)).length := by
  cases l1 with
  | nil => exact Nat.zero_le _
  | cons a l => simp [rShow]
section S4
variable {R : azP} {d n z : Nat} {kd : azK} {I : azI} {J : azJ} {F : azR} {Q : azQ} {a r : Nat} {t : List Nat} {kb : Nat} {l1 l2 cs : List Cls} {c : Cls}
theorem L_code (hR : azClosed R) (hP : PpOk kd F a) (hM : RuOk kd F r) (hra : a + 3 < r) {E : Nat} {x2 : Value} {b2 : Int32} (hx2 : x2 = .int b2) (hE : E ≤ 80) : ∀ (e : Ex) (k p : Nat) (I : azI) (w6 : Value) (T : List Nat), exOK kb e → coAt I r k (exPost e) → cP I a T → T.length + (exShow e).length ≤ 256 → k + (exPost e).length ≤ E → p + (exPost e).length ≤ 80 →
    (∀ (I' : azI) (w6 : Value), cP I' a (T ++ exShow e) → I' (a + 2) p = nI T.length → I' (a + 3) p = nI (tgt e) → (∀ q, q < p → I' (a + 2) q = I (a + 2) q ∧ I' (a + 3) q = I (a + 3) q) → (∀ b, b < a ∨ a + 3 < b → I' b = I b) → R (d + 3) mX4_writeCode 6 [.ref a, .ref r, x2, .int (nI E), .int (nI (p + 1)), .int (nI (k + (exPost e).length)), w6] [] ((n, z, kd), I', J, F) Q) →
    R (d + 3) mX4_writeCode 6 [.ref a, .ref r, x2, .int (nI E), .int (nI p), .int (nI k), w6] [] ((n, z, kd), I, J, F) Q := by
  have ⟨k0, k1, k2, k3, f0, f1, f2⟩ := hP
  subst hx2
  intro e
  induction e with
  | leaf v =>
    intro k p I w6 T ho hco hc hT hk hp h
    simp only [exPost, List.length_cons, List.length_nil, Nat.zero_add] at hk hp h hco
    have hi : I (r + 8) k = nI v := by have := hco 0 (by simp); simpa using this
    have hv : v < 103 := by rcases ho with h | h <;> omega
    refine BX4_writeCode_6 hR ?_
    simp (disch := omega) only [nI_ad, nI_ml, nI_lti, nI_lei, nI_eqi, nI_nn, nI_0le, nI_eq0, nI_0lt, nI_le0, nI_clamp, nI_pd, nI_sb, zOf_some, zOp_some, zOp_none, kI_int, kL_long, kO_ref, kO_null, nlt_T, nlt_F, nle_T, nle_F, neq_F, vpT, azUp_at, if_true, if_false, true_and, and_true, true_implies, false_implies, implies_true, not_true_eq_false, not_false_eq_true, true_or, or_true, false_or, or_false, and_false, false_and, eq_self, n01_0, n01_1, nm1_0, hM.1]
    refine S_item hR hM (by omega) ?_
    rw [hi]
    simp (disch := omega) only [nI_ad, nI_ml, nI_lti, nI_lei, nI_eqi, nI_nn, nI_0le, nI_eq0, nI_0lt, nI_le0, nI_clamp, nI_pd, nI_sb, zOf_some, zOp_some, zOp_none, kI_int, kL_long, kO_ref, kO_null, nlt_T, nlt_F, nle_T, nle_F, neq_F, vpT, azUp_at, if_true, if_false, true_and, and_true, true_implies, false_implies, implies_true, not_true_eq_false, not_false_eq_true, true_or, or_true, false_or, or_false, and_false, false_and, eq_self, n01_0, n01_1, nm1_0, k0, f1, k2, f2, k3, hc.1]
    refine S_writeItem hR hP (hc.keep (by rw [azUp_nb (by omega), azUp_nb (by omega)]) (by rw [azUp_nb (by omega), azUp_nb (by omega)])) hv hT fun I' g1 g2 => ⟨rfl, ?_⟩
    refine h I' _ g1 ?_ ?_ (fun q hq => ⟨?_, ?_⟩) fun b hb => ?_
    · rw [g2 _ (by omega) (by omega), azUp_nb (by omega), azUp_s]
    · rw [g2 _ (by omega) (by omega), azUp_s]; rfl
    · rw [g2 _ (by omega) (by omega), azUp_nb (by omega), azUp_nk (by omega)]
    · rw [g2 _ (by omega) (by omega), azUp_nk (by omega), azUp_nb (by omega)]
    · rw [g2 _ (by omega) (by omega), azUp_nb (by omega), azUp_nb (by omega)]
  | branch s x y ihx ihy =>
    intro k p I w6 T ho hco hc hT hk hp h
    obtain ⟨hs, hs0, hx, hy⟩ := ho
    simp only [exPost, List.length_append, List.length_cons, List.length_nil, Nat.zero_add] at hk hp h
    unfold exPost at hco
    have l1 := exPost_pos x
    have l2 := exPost_pos y
    have b1 := bra_len (b := decide (tgt x < hof s)) (t := exShow x)
    have b2 := bra_len (b := decide (tgt y ≤ hof s)) (t := exShow y)
    have hT2 : (T ++ (bra (decide (tgt x < hof s)) (exShow x) ++ s :: bra (decide (tgt y ≤ hof s)) (exShow y))).length ≤ 256 := by
      rw [List.length_append]; exact hT
    have hT3 : T.length + (exShow x).length + (exShow y).length + 1 ≤ 256 := by
      simp only [List.length_append, List.length_cons] at hT2
      omega
    refine ihx k p I w6 T hx hco.lft.lft hc (by omega) (by omega) (by omega) fun I1 w6 a1 a2 a3 a4 a5 => ?_
    have e8 : I1 (r + 8) = I (r + 8) := a5 (r + 8) (by omega)
    refine ihy (k + (exPost x).length) (p + 1) I1 w6 _ hy (fun j hj => by rw [e8]; exact hco.lft.rgt j hj) a1 (by rw [List.length_append]; omega) (by omega) (by omega) fun I2 w6 b1 b2 b3 b4 b5 => ?_
    have e8' : I2 (r + 8) = I (r + 8) := by rw [b5 (r + 8) (by omega), e8]
    have hi : I2 (r + 8) (k + (exPost x).length + (exPost y).length) = nI (200 + s) := by
      have := hco.rgt 0 (by simp)
      rw [e8']
      simpa [Nat.add_assoc] using this
    have s1 : p + 1 + 1 - 2 = p := by omega
    have s2 : p + 1 + 1 - 1 = p + 1 := by omega
    have s3 : 200 + s - 200 = s := by omega
    refine BX4_writeCode_6 hR ?_
    simp (disch := omega) only [nI_ad, nI_ml, nI_lti, nI_lei, nI_eqi, nI_nn, nI_0le, nI_eq0, nI_0lt, nI_le0, nI_clamp, nI_pd, nI_sb, zOf_some, zOp_some, zOp_none, kI_int, kL_long, kO_ref, kO_null, nlt_T, nlt_F, nle_T, nle_F, neq_F, vpT, azUp_at, if_true, if_false, true_and, and_true, true_implies, false_implies, implies_true, not_true_eq_false, not_false_eq_true, true_or, or_true, false_or, or_false, and_false, false_and, eq_self, n01_0, n01_1, nm1_0, hM.1]
    refine S_item hR hM (by omega) ?_
    rw [hi]
    simp (disch := omega) only [nI_ad, nI_ml, nI_lti, nI_lei, nI_eqi, nI_nn, nI_0le, nI_eq0, nI_0lt, nI_le0, nI_clamp, nI_pd, nI_sb, zOf_some, zOp_some, zOp_none, kI_int, kL_long, kO_ref, kO_null, nlt_T, nlt_F, nle_T, nle_F, neq_F, vpT, azUp_at, if_true, if_false, true_and, and_true, true_implies, false_implies, implies_true, not_true_eq_false, not_false_eq_true, true_or, or_true, false_or, or_false, and_false, false_and, eq_self, n01_0, n01_1, nm1_0, k0, s1, s2, s3, nI_pd]
    refine S_joinPieces hR hP (A := exShow x) (B := exShow y) b1 (by omega) hs (by rw [(b4 p (by omega)).1]; exact a2) b2 (by rw [(b4 p (by omega)).2]; exact a3) b3 (tgt_le x) (tgt_le y) hT2 fun I3 g1 g2 g3 g4 => ⟨rfl, ?_⟩
    rw [← Nat.add_assoc, ← Nat.add_assoc] at h
    refine h I3 _ g1 ?_ g2 (fun q hq => ⟨?_, ?_⟩) fun b hb => ?_
    · rw [g4 _ (by omega) (by omega) (by omega), (b4 p (by omega)).1]; exact a2
    · rw [g4 _ (by omega) (by omega) (by omega), (b4 q (by omega)).1, (a4 q hq).1]
    · rw [g3 q (by omega), (b4 q (by omega)).2, (a4 q hq).2]
    · rw [g4 b (by omega) (by omega) (by omega), b5 b hb, a5 b hb]
theorem S_writeText (hR : azClosed R) (hP : PpOk kd F a) (hA : a + 3 < azB) (hX : TxOk kd I) {j : Nat} (hj : j < 4) (hc : cP I a t) (hl : t.length + (wTx.getD j []).length ≤ 256) (h : ∀ I', cP I' a (t ++ wTx.getD j []) → (∀ b, b ≠ a → b ≠ a + 1 → I' b = I b) → Q none ((n, z, kd), I', J, F)) : R (d + 4) mX4_writeText 0 [.ref a, .ref (azB + j), .retAddr 0] [] ((n, z, kd), I, J, F) Q := by
  have k0 := hP.1
  have k16 := (hX j hj).1
  have hl6 := (wTx_lt j hj).1
  have main : ∀ (rest pre : List Nat) (I1 : azI), pre ++ rest = wTx.getD j [] → cP I1 a (t ++ pre) → (∀ b, b ≠ a → b ≠ a + 1 → I1 b = I b) → R (d + 4) mX4_writeText 2 [.ref a, .ref (azB + j), .int (nI pre.length)] [] ((n, z, kd), I1, J, F) Q := by
    intro rest
    induction rest with
    | nil =>
      intro pre I1 hp hc1 hf
      have hX1 : TxOk kd I1 := fun j hj => ⟨(hX j hj).1, (hX j hj).2.1, fun k hk => by rw [hf _ (by omega) (by omega)]; exact (hX j hj).2.2 k hk⟩
      rw [List.append_nil] at hp
      refine BX4_writeText_2 hR ⟨k16, S_length hR hX1 hj ?_⟩
      rw [← hp] at hl6 ⊢
      simp (disch := omega) only [nI_ad, nI_ml, nI_lti, nI_lei, nI_eqi, nI_nn, nI_0le, nI_eq0, nI_0lt, nI_le0, nI_clamp, nI_pd, nI_sb, zOf_some, zOp_some, zOp_none, kI_int, kL_long, kO_ref, kO_null, nlt_T, nlt_F, nle_T, nle_F, neq_F, vpT, azUp_at, if_true, if_false, true_and, and_true, true_implies, false_implies, implies_true, not_true_eq_false, not_false_eq_true, true_or, or_true, false_or, or_false, and_false, false_and, eq_self, n01_0, n01_1, nm1_0]
      exact h I1 (by rw [← hp]; exact hc1) hf
    | cons x rest ih =>
      intro pre I1 hp hc1 hf
      have hX1 : TxOk kd I1 := fun j hj => ⟨(hX j hj).1, (hX j hj).2.1, fun k hk => by rw [hf _ (by omega) (by omega)]; exact (hX j hj).2.2 k hk⟩
      have hlt : pre.length < (wTx.getD j []).length := by rw [← hp, List.length_append, List.length_cons]; omega
      have hx : (wTx.getD j []).getD pre.length 0 = x := by rw [← hp]; simp
      have ep : (pre ++ [x]).length = pre.length + 1 := by simp
      refine BX4_writeText_2 hR ⟨k16, S_length hR hX1 hj ?_⟩
      simp (disch := omega) only [nI_ad, nI_ml, nI_lti, nI_lei, nI_eqi, nI_nn, nI_0le, nI_eq0, nI_0lt, nI_le0, nI_clamp, nI_pd, nI_sb, zOf_some, zOp_some, zOp_none, kI_int, kL_long, kO_ref, kO_null, nlt_T, nlt_F, nle_T, nle_F, neq_F, vpT, azUp_at, if_true, if_false, true_and, and_true, true_implies, false_implies, implies_true, not_true_eq_false, not_false_eq_true, true_or, or_true, false_or, or_false, and_false, false_and, eq_self, n01_0, n01_1, nm1_0, k16]
      refine S_charAt hR hX1 hj hlt ?_
      rw [hx]
      simp (disch := omega) only [nI_ad, nI_ml, nI_lti, nI_lei, nI_eqi, nI_nn, nI_0le, nI_eq0, nI_0lt, nI_le0, nI_clamp, nI_pd, nI_sb, zOf_some, zOp_some, zOp_none, kI_int, kL_long, kO_ref, kO_null, nlt_T, nlt_F, nle_T, nle_F, neq_F, vpT, azUp_at, if_true, if_false, true_and, and_true, true_implies, false_implies, implies_true, not_true_eq_false, not_false_eq_true, true_or, or_true, false_or, or_false, and_false, false_and, eq_self, n01_0, n01_1, nm1_0, k0]
      refine S_write hR hP hc1 (by rw [List.length_append]; omega) fun I2 g1 g2 => ⟨rfl, ?_⟩
      rw [← ep]
      refine ih (pre ++ [x]) I2 (by rw [← hp]; simp) (by rw [← List.append_assoc]; exact g1) fun b h1 h2 => by rw [g2 b h1 h2, hf b h1 h2]
  exact BX4_writeText_0 hR (main _ [] I rfl (by rw [List.append_nil]; exact hc) fun _ _ _ => rfl)
end S4
