/-! THE REFERENCE: spell. -/
/-- where an expression ends -/
def stB (t : List Nat) (q : Nat) : Prop := q = t.length ∨ (tb t q = 59 ∨ tb t q = 38 ∨ tb t q = 60 ∨ tb t q = 61 ∨ tb t q = 62)
/-- bytes of a text in a row -/
def slc (t : List Nat) (k s : Nat) : List Nat := (List.range s).map fun x => tb t (k + x)
theorem slc_succ {t : List Nat} {k s : Nat} : slc t k (s + 1) = tb t k :: slc t (k + 1) s := by
  unfold slc
  rw [List.range_succ_eq_map, List.map_cons, List.map_map]
  refine congrArg (tb t k :: ·) (List.map_congr_left fun x _ => ?_)
  show tb t (k + (x + 1)) = _
  rw [show k + (x + 1) = k + 1 + x by omega]
theorem slc_len {t : List Nat} {k s : Nat} : (slc t k s).length = s := by unfold slc; rw [List.length_map, List.length_range]
/-- comparisons joined, spelled -/
def fS : List Ex → List Nat
  | [] => []
  | a :: l => exShow (l.foldl (Lean.RArray.branch 38) a)
theorem fS_add (l : List Ex) (c : Ex) (h : 1 ≤ tgt c) : fS (l ++ [c]) = fS l ++ (if l = [] then [] else [38]) ++ exShow c := by
  cases l with
  | nil => simp [fS]
  | cons a l =>
    have e : fS (a :: l ++ [c]) = exShow (.branch 38 (l.foldl (Lean.RArray.branch 38) a) c) := by
      show exShow ((l ++ [c]).foldl (Lean.RArray.branch 38) a) = _
      rw [List.foldl_append]; rfl
    have e2 : exShow (.branch 38 (l.foldl (Lean.RArray.branch 38) a) c) = bra (decide (tgt (l.foldl (Lean.RArray.branch 38) a) < 0)) (exShow (l.foldl (Lean.RArray.branch 38) a)) ++ 38 :: bra (decide (tgt c ≤ 0)) (exShow c) := rfl
    rw [e, e2, decide_eq_false (Nat.not_lt_zero _), decide_eq_false (by omega), if_neg (by simp), List.append_assoc]
    rfl
theorem fS_len (l : List Ex) : (fS l).length = fL l := by cases l <;> rfl
section S9
variable {R : azP} {d n z : Nat} {kd : azK} {I : azI} {J : azJ} {F : azR} {Q : azQ} {t : List Nat} {cs : List Cls} {x1 : Int32}
theorem S_end9 (hR : azClosed R) (hK : MdOk kd F) (htk : tOK t) (hx : txt I t) {k0' q : Nat} (hq : q ≤ t.length) (hs : stB t q) : ∀ (s k : Nat), s + k = q → (∀ y, k ≤ y → y < q → inB (tb t y)) → Q (some (.int (nI q))) ((n, z, kd), I, J, F) → R d mX9_end 2 [.ref 228, .int (nI k0'), .int (nI k)] [] ((n, z, kd), I, J, F) Q := by
  have ⟨k0, ⟨_, _, _, _, _, k225, _⟩, _, ⟨_, _, _, _, _, f9, _⟩, _⟩ := id hK
  have ht := htk.1
  intro s
  induction s with
  | zero =>
    intro k hk _ h
    obtain rfl : k = q := by omega
    refine BX9_end_2 hR ?_
    by_cases c : k = t.length
    · subst c
      simp (disch := omega) only [nI_ad, nI_ml, nI_lti, nI_lei, nI_eqi, nI_nn, nI_0le, nI_eq0, nI_0lt, nI_le0, nI_clamp, nI_pd, nI_sb, zOf_some, zOp_some, zOp_none, kI_int, kL_long, kO_ref, kO_null, nlt_T, nlt_F, nle_T, nle_F, neq_F, vpT, azUp_at, if_true, if_false, true_and, and_true, true_implies, false_implies, implies_true, not_true_eq_false, not_false_eq_true, true_or, or_true, false_or, or_false, and_false, false_and, eq_self, n01_0, n01_1, nm1_0, k0, hx.1]
      exact h
    · have hs : tb t k = 59 ∨ tb t k = 38 ∨ tb t k = 60 ∨ tb t k = 61 ∨ tb t k = 62 := hs.resolve_left c
      have el : I 234 k = nI (tb t k) := hx.2.get (by omega)
      rcases hs with e | e | e | e | e <;> rw [e] at el <;> simp (disch := omega) only [nI_ad, nI_ml, nI_lti, nI_lei, nI_eqi, nI_nn, nI_0le, nI_eq0, nI_0lt, nI_le0, nI_clamp, nI_pd, nI_sb, zOf_some, zOp_some, zOp_none, kI_int, kL_long, kO_ref, kO_null, nlt_T, nlt_F, nle_T, nle_F, neq_F, vpT, azUp_at, if_true, if_false, true_and, and_true, true_implies, false_implies, implies_true, not_true_eq_false, not_false_eq_true, true_or, or_true, false_or, or_false, and_false, false_and, eq_self, n01_0, n01_1, nm1_0, k0, hx.1, f9, k225, el] <;> exact h
  | succ s ih =>
    intro k hk hb h
    have el : I 234 k = nI (tb t k) := hx.2.get (by omega)
    have hbk := hb k (Nat.le_refl _) (by omega)
    unfold inB at hbk
    have hlt := tb_lt htk (i := k)
    have := ih (k + 1) (by omega) (fun y y1 y2 => hb y (by omega) y2) h
    have n1 : ¬ tb t k = 59 := hbk.2.1
    have n2 : ¬ tb t k = 38 := hbk.2.2.1
    have n3 : ¬ tb t k = 60 := hbk.2.2.2.1
    have n4 : ¬ tb t k = 61 := hbk.2.2.2.2.1
    have n5 : ¬ tb t k = 62 := hbk.2.2.2.2.2
    refine BX9_end_2 hR ?_
    simp (disch := omega) only [nI_ad, nI_ml, nI_lti, nI_lei, nI_eqi, nI_nn, nI_0le, nI_eq0, nI_0lt, nI_le0, nI_clamp, nI_pd, nI_sb, zOf_some, zOp_some, zOp_none, kI_int, kL_long, kO_ref, kO_null, nlt_T, nlt_F, nle_T, nle_F, neq_F, vpT, azUp_at, if_true, if_false, true_and, and_true, true_implies, false_implies, implies_true, not_true_eq_false, not_false_eq_true, true_or, or_true, false_or, or_false, and_false, false_and, eq_self, n01_0, n01_1, nm1_0, k0, hx.1, f9, k225, el, n1, n2, n3, n4, n5]
    exact this
/-- bytes as they are -/
theorem S_verb9 (hR : azClosed R) (hK : MdOk kd F) (htk : tOK t) (hx : txt I t) {x3 x4 x6 : Int32} {q : Nat} (hq : q ≤ t.length) (hs : q = t.length ∨ tb t q = 59) : ∀ (s k : Nat) (g : List Nat) (I1 : azI), s + k = q → (∀ y, k ≤ y → y < q → tb t y ≠ 59) → frP9 I I1 → cP9 I1 g → g.length + s ≤ 700 → (∀ I', frP9 I I' → cP9 I' (g ++ slc t k s) → R (d + 1) mX9_spell 255 [.ref 228, .int x1, .int (nI q), .int x3, .int x4, .int (nI 0), .int x6] [] ((n, z, kd), I', J, F) Q) → R (d + 1) mX9_spell 215 [.ref 228, .int x1, .int (nI k), .int x3, .int x4, .int (nI 0), .int x6] [] ((n, z, kd), I1, J, F) Q := by
  have ⟨k0, ⟨_, _, _, _, _, k225, _⟩, _, ⟨_, _, _, _, _, f9, _⟩, _⟩ := id hK
  have ht := htk.1
  intro s
  induction s with
  | zero =>
    intro k g I1 hk hb hf hg hl h
    obtain rfl : k = q := by omega
    have := h I1 hf (by
      have : slc t k 0 = [] := rfl
      rw [this, List.append_nil]; exact hg)
    refine BX9_spell_215 hR ?_
    have hx1 := hf.txt hx
    by_cases c : k = t.length
    · subst c
      simp (disch := omega) only [nI_ad, nI_ml, nI_lti, nI_lei, nI_eqi, nI_nn, nI_0le, nI_eq0, nI_0lt, nI_le0, nI_clamp, nI_pd, nI_sb, zOf_some, zOp_some, zOp_none, kI_int, kL_long, kO_ref, kO_null, nlt_T, nlt_F, nle_T, nle_F, neq_F, vpT, azUp_at, if_true, if_false, true_and, and_true, true_implies, false_implies, implies_true, not_true_eq_false, not_false_eq_true, true_or, or_true, false_or, or_false, and_false, false_and, eq_self, n01_0, n01_1, nm1_0, k0, hx1.1]
      exact this
    · have e := hs.resolve_left c
      have el : I1 234 k = nI (tb t k) := hx1.2.get (by omega)
      rw [e] at el
      simp (disch := omega) only [nI_ad, nI_ml, nI_lti, nI_lei, nI_eqi, nI_nn, nI_0le, nI_eq0, nI_0lt, nI_le0, nI_clamp, nI_pd, nI_sb, zOf_some, zOp_some, zOp_none, kI_int, kL_long, kO_ref, kO_null, nlt_T, nlt_F, nle_T, nle_F, neq_F, vpT, azUp_at, if_true, if_false, true_and, and_true, true_implies, false_implies, implies_true, not_true_eq_false, not_false_eq_true, true_or, or_true, false_or, or_false, and_false, false_and, eq_self, n01_0, n01_1, nm1_0, k0, hx1.1, f9, k225, el]
      exact this
  | succ s ih =>
    intro k g I1 hk hb hf hg hl h
    have hx1 := hf.txt hx
    have el : I1 234 k = nI (tb t k) := hx1.2.get (by omega)
    have n1 := hb k (Nat.le_refl _) (by omega)
    have hlt := tb_lt htk (i := k)
    refine BX9_spell_215 hR ?_
    simp (disch := omega) only [nI_ad, nI_ml, nI_lti, nI_lei, nI_eqi, nI_nn, nI_0le, nI_eq0, nI_0lt, nI_le0, nI_clamp, nI_pd, nI_sb, zOf_some, zOp_some, zOp_none, kI_int, kL_long, kO_ref, kO_null, nlt_T, nlt_F, nle_T, nle_F, neq_F, vpT, azUp_at, if_true, if_false, true_and, and_true, true_implies, false_implies, implies_true, not_true_eq_false, not_false_eq_true, true_or, or_true, false_or, or_false, and_false, false_and, eq_self, n01_0, n01_1, nm1_0, k0, hx1.1, f9, k225, el, n1]
    refine S_writes9 hR hK hg (by omega) fun I2 u1 u2 u3 => ⟨rfl, ?_⟩
    refine ih (k + 1) _ I2 (by omega) (fun y y1 y2 => hb y (by omega) y2) (hf.trans ⟨u2, u3⟩) u1 (by rw [List.length_append, List.length_cons, List.length_nil]; omega) fun I' v1 v2 => h I' v1 ?_
    rw [slc_succ]
    rw [List.append_assoc] at v2
    exact v2
/-- a clause's head -/
theorem S_head9 (hR : azClosed R) (hK : MdOk kd F) (htk : tOK t) (hx : txt I t) {x3 x4 : Int32} {k h0 : Nat} (hq : k + h0 ≤ t.length) : ∀ (s y : Nat) (g : List Nat) (I1 : azI), s + y = h0 → frP9 I I1 → cP9 I1 g → g.length + s ≤ 700 → (∀ I', frP9 I I' → cP9 I' (g ++ slc t (k + y) s) → R (d + 1) mX9_spell 138 [.ref 228, .int x1, .int (nI (k + h0)), .int x3, .int x4, .int (nI h0), .int (nI h0)] [] ((n, z, kd), I', J, F) Q) → R (d + 1) mX9_spell 107 [.ref 228, .int x1, .int (nI k), .int x3, .int x4, .int (nI h0), .int (nI y)] [] ((n, z, kd), I1, J, F) Q := by
  have ⟨k0, ⟨_, _, _, _, _, k225, _⟩, _, ⟨_, _, _, _, _, f9, _⟩, _⟩ := id hK
  have ht := htk.1
  intro s
  induction s with
  | zero =>
    intro y g I1 hy hf hg hl h
    obtain rfl : y = h0 := by omega
    have := h I1 hf (by
      have : slc t (k + y) 0 = [] := rfl
      rw [this, List.append_nil]; exact hg)
    refine BX9_spell_107 hR ?_
    simp (disch := omega) only [nI_ad, nI_ml, nI_lti, nI_lei, nI_eqi, nI_nn, nI_0le, nI_eq0, nI_0lt, nI_le0, nI_clamp, nI_pd, nI_sb, zOf_some, zOp_some, zOp_none, kI_int, kL_long, kO_ref, kO_null, nlt_T, nlt_F, nle_T, nle_F, neq_F, vpT, azUp_at, if_true, if_false, true_and, and_true, true_implies, false_implies, implies_true, not_true_eq_false, not_false_eq_true, true_or, or_true, false_or, or_false, and_false, false_and, eq_self, n01_0, n01_1, nm1_0]
    exact this
  | succ s ih =>
    intro y g I1 hy hf hg hl h
    have hx1 := hf.txt hx
    have el : I1 234 (k + y) = nI (tb t (k + y)) := hx1.2.get (by omega)
    refine BX9_spell_107 hR ?_
    simp (disch := omega) only [nI_ad, nI_ml, nI_lti, nI_lei, nI_eqi, nI_nn, nI_0le, nI_eq0, nI_0lt, nI_le0, nI_clamp, nI_pd, nI_sb, zOf_some, zOp_some, zOp_none, kI_int, kL_long, kO_ref, kO_null, nlt_T, nlt_F, nle_T, nle_F, neq_F, vpT, azUp_at, if_true, if_false, true_and, and_true, true_implies, false_implies, implies_true, not_true_eq_false, not_false_eq_true, true_or, or_true, false_or, or_false, and_false, false_and, eq_self, n01_0, n01_1, nm1_0, k0, f9, k225, el]
    refine S_writes9 hR hK hg (by omega) fun I2 u1 u2 u3 => ⟨rfl, ?_⟩
    refine ih (y + 1) _ I2 (by omega) (hf.trans ⟨u2, u3⟩) u1 (by rw [List.length_append, List.length_cons, List.length_nil]; omega) fun I' v1 v2 => h I' v1 ?_
    rw [slc_succ]
    rw [List.append_assoc] at v2
    exact v2
/-- an expression, and the sign behind it -/
theorem S_seg9 (hR : azClosed R) (hK : MdOk kd F) (htk : tOK t) (hx : txt I t) {x3 x4 x6 : Int32} {h0 k q : Nat} {e : Ex} {g : List Nat} (hh : 0 < h0) (hh2 : h0 < 100) (hsg : sg t e 2 k q) (hsz : (exPost e).length ≤ 80) (hq : q ≤ t.length) (hs : stB t q) (hg : cP9 I g) (hl : g.length + (exShow e).length ≤ 600)
    (hA : (q = t.length ∨ tb t q = 59) → ∀ I', frP9 I I' → cP9 I' (g ++ exShow e) → R (d + 83) mX9_spell 138 [.ref 228, .int x1, .int (nI q), .int x3, .int x4, .int (nI h0), .int (nI q)] [] ((n, z, kd), I', J, F) Q)
    (hB : q < t.length → tb t q ≠ 59 → ∀ I', frP9 I I' → cP9 I' (g ++ exShow e ++ [tb t q]) → R (d + 83) mX9_spell 138 [.ref 228, .int x1, .int (nI (q + 1)), .int x3, .int x4, .int (nI h0), .int (nI q)] [] ((n, z, kd), I', J, F) Q) : R (d + 83) mX9_spell 138 [.ref 228, .int x1, .int (nI k), .int x3, .int x4, .int (nI h0), .int x6] [] ((n, z, kd), I, J, F) Q := by
  have ⟨k0, ⟨_, _, _, _, _, k225, _⟩, _, ⟨_, _, _, _, _, f9, _⟩, _⟩ := id hK
  have ht := htk.1
  have hkq := hsg.lt
  have hb := sg_in hsg
  have hbk := hb k (Nat.le_refl _) hkq
  unfold inB at hbk
  have el : I 234 k = nI (tb t k) := hx.2.get (by omega)
  have n1 : ¬ tb t k = 59 := hbk.2.1
  have hlt := tb_lt htk (i := k)
  have h0n : ¬ h0 = 0 := by omega
  have hle := lvE_le e
  obtain ⟨w, hw, hc, _⟩ := hsg
  refine BX9_spell_138 hR ?_
  simp (disch := omega) only [nI_ad, nI_ml, nI_lti, nI_lei, nI_eqi, nI_nn, nI_0le, nI_eq0, nI_0lt, nI_le0, nI_clamp, nI_pd, nI_sb, zOf_some, zOp_some, zOp_none, kI_int, kL_long, kO_ref, kO_null, nlt_T, nlt_F, nle_T, nle_F, neq_F, vpT, azUp_at, if_true, if_false, true_and, and_true, true_implies, false_implies, implies_true, not_true_eq_false, not_false_eq_true, true_or, or_true, false_or, or_false, and_false, false_and, eq_self, n01_0, n01_1, nm1_0, k0, hx.1, f9, k225, el, n1, h0n]
  refine BX9_end_0 hR ?_
  refine S_end9 hR hK htk hx hq hs (q - k) k (by omega) hb ?_
  simp (disch := omega) only [nI_ad, nI_ml, nI_lti, nI_lei, nI_eqi, nI_nn, nI_0le, nI_eq0, nI_0lt, nI_le0, nI_clamp, nI_pd, nI_sb, zOf_some, zOp_some, zOp_none, kI_int, kL_long, kO_ref, kO_null, nlt_T, nlt_F, nle_T, nle_F, neq_F, vpT, azUp_at, if_true, if_false, true_and, and_true, true_implies, false_implies, implies_true, not_true_eq_false, not_false_eq_true, true_or, or_true, false_or, or_false, and_false, false_and, eq_self, n01_0, n01_1, nm1_0, k0]
  have := S_spells9 hR hK htk (J := J) (n := n) (z := z) e (d + 80 - (exPost e).length) w k q 2 g I
  rw [show d + 80 - (exPost e).length + 2 + (exPost e).length = d + 82 by omega, decide_eq_false (by omega), bra_f] at this
  refine this _ hx hq hw hc (by decide) hg (by omega) fun I2 u1 u2 => ⟨rfl, ?_⟩
  have hx2 := u1.txt hx
  by_cases c : q = t.length
  · have := hA (Or.inl c) I2 u1 u2
    simp (disch := omega) only [nI_ad, nI_ml, nI_lti, nI_lei, nI_eqi, nI_nn, nI_0le, nI_eq0, nI_0lt, nI_le0, nI_clamp, nI_pd, nI_sb, zOf_some, zOp_some, zOp_none, kI_int, kL_long, kO_ref, kO_null, nlt_T, nlt_F, nle_T, nle_F, neq_F, vpT, azUp_at, if_true, if_false, true_and, and_true, true_implies, false_implies, implies_true, not_true_eq_false, not_false_eq_true, true_or, or_true, false_or, or_false, and_false, false_and, eq_self, n01_0, n01_1, nm1_0, k0, hx2.1]
    exact this
  · have el2 : I2 234 q = nI (tb t q) := hx2.2.get (by omega)
    have hlt2 := tb_lt htk (i := q)
    by_cases c2 : tb t q = 59
    · have := hA (Or.inr c2) I2 u1 u2
      simp (disch := omega) only [nI_ad, nI_ml, nI_lti, nI_lei, nI_eqi, nI_nn, nI_0le, nI_eq0, nI_0lt, nI_le0, nI_clamp, nI_pd, nI_sb, zOf_some, zOp_some, zOp_none, kI_int, kL_long, kO_ref, kO_null, nlt_T, nlt_F, nle_T, nle_F, neq_F, vpT, azUp_at, if_true, if_false, true_and, and_true, true_implies, false_implies, implies_true, not_true_eq_false, not_false_eq_true, true_or, or_true, false_or, or_false, and_false, false_and, eq_self, n01_0, n01_1, nm1_0, k0, hx2.1, f9, k225, el2, c2]
      exact this
    · have hB := hB (by omega) c2
      simp (disch := omega) only [nI_ad, nI_ml, nI_lti, nI_lei, nI_eqi, nI_nn, nI_0le, nI_eq0, nI_0lt, nI_le0, nI_clamp, nI_pd, nI_sb, zOf_some, zOp_some, zOp_none, kI_int, kL_long, kO_ref, kO_null, nlt_T, nlt_F, nle_T, nle_F, neq_F, vpT, azUp_at, if_true, if_false, true_and, and_true, true_implies, false_implies, implies_true, not_true_eq_false, not_false_eq_true, true_or, or_true, false_or, or_false, and_false, false_and, eq_self, n01_0, n01_1, nm1_0, k0, hx2.1, f9, k225, el2, c2]
      refine S_writes9 hR hK u2 (by rw [List.length_append]; omega) fun I3 v1 v2 v3 => ⟨rfl, ?_⟩
      exact hB I3 (u1.trans ⟨v2, v3⟩) v1
end S9
