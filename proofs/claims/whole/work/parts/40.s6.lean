/-! SPECS: Tape, the reading of expressions. -/
def TpOk (kd : azK) (F : azR) (a r : Nat) : Prop := (kd a).1 = 6 ∧ kd (a + 1) = (10, 80) ∧ F a 0 = some (a + 1) ∧ F a 5 = some r ∧ RuOk kd F r ∧ a + 1 < r
def tOK (t : List Nat) : Prop := t.length ≤ 80 ∧ ∀ c ∈ t, 0 < c ∧ c < 128
def cT (I : azI) (a : Nat) (t : List Nat) (i kb : Nat) : Prop := I a 1 = nI t.length ∧ I a 2 = nI i ∧ I a 4 = nI kb ∧ lst (I (a + 1)) (t.map nI)
def frm (a r : Nat) (I I' : azI) : Prop := ∀ b, b ≠ a → (b < r ∨ r + 8 < b) → I' b = I b
def rdOk (I0 : azI) (a r : Nat) (t : List Nat) (kb : Nat) (cs : List Cls) (pd : List Nat) (i : Nat) (I : azI) : Prop := cT I a t i kb ∧ cR I r cs pd ∧ frm a r I0 I
def rdEr (I0 : azI) (a r : Nat) (t : List Nat) (e : Nat) (I : azI) : Prop := I a 1 = nI t.length ∧ I a 3 = nI e ∧ frm a r I0 I
theorem tb_lt {t : List Nat} (ht : tOK t) {i : Nat} : tb t i < 128 := by
  by_cases h : i < t.length
  · unfold tb
    rw [List.getD_eq_getElem?_getD, List.getElem?_eq_getElem h]
    exact (ht.2 _ (List.getElem_mem h)).2
  · rw [tb_0 (by omega)]; omega
theorem tb_nz {t : List Nat} (ht : tOK t) {i : Nat} (h : i < t.length) : tb t i ≠ 0 := by
  unfold tb
  rw [List.getD_eq_getElem?_getD, List.getElem?_eq_getElem h]
  have := (ht.2 _ (List.getElem_mem h)).1
  exact Nat.pos_iff_ne_zero.mp this
theorem rdOk.up {I0 I : azI} {a r : Nat} {t : List Nat} {kb : Nat} {cs : List Cls} {pd : List Nat} {i : Nat} (h : rdOk I0 a r t kb cs pd i I) (hd : a + 1 < r) (j : Nat) : rdOk I0 a r t kb cs pd j (azUp I a 2 (nI j)) := by
  obtain ⟨⟨t1, t2, t3, t4⟩, hc, hf⟩ := h
  refine ⟨⟨?_, azUp_s, ?_, ?_⟩, hc.keep fun b h1 h2 => azUp_nb (by omega), fun b h1 h2 => ?_⟩
  · rw [azUp_nk (by omega)]; exact t1
  · rw [azUp_nk (by omega)]; exact t3
  · rw [azUp_nb (by omega)]; exact t4
  · rw [azUp_nb h1]; exact hf b h1 h2
theorem rdOk.fail {I0 I : azI} {a r : Nat} {t : List Nat} {kb : Nat} {cs : List Cls} {pd : List Nat} {i : Nat} (h : rdOk I0 a r t kb cs pd i I) (e : Nat) : rdEr I0 a r t e (azUp I a 3 (nI e)) := by
  obtain ⟨⟨t1, t2, t3, t4⟩, hc, hf⟩ := h
  refine ⟨?_, azUp_s, fun b h1 h2 => ?_⟩
  · rw [azUp_nk (by omega)]; exact t1
  · rw [azUp_nb h1]; exact hf b h1 h2
/-- what must hold behind a reader: its answer and the memory -/
def rdPost (I0 : azI) (a r : Nat) (t : List Nat) (kb : Nat) (cs : List Cls) (pd : List Nat) (S : azI → azS) (Q : azQ) : PR Ex → Prop
  | .ok x => ∀ I', rdOk I0 a r t kb cs (pd ++ exPost x.1) x.2 I' → Q (some (.int (nI 1))) (S I')
  | .error e => ∀ I', rdEr I0 a r t e I' → Q (some (.int (nI 0))) (S I')
section S6
variable {R : azP} {d n z : Nat} {kd : azK} {I : azI} {J : azJ} {F : azR} {Q : azQ} {a r : Nat} {t : List Nat} {cs : List Cls} {kb i : Nat} {I0 : azI} {pd : List Nat}
theorem S_isFigure (hR : azClosed R) {c : Nat} (hc : c < 200) {σ : azS} (h : Q (some (.int (nI (if isFg c then 1 else 0)))) σ) : R d mX8_isFigure 0 [.int (nI c)] [] σ Q := by
  obtain ⟨⟨n, z, kd⟩, I, J, F⟩ := σ
  refine BX8_isFigure_0 hR ?_
  by_cases h1 : c < 48
  · rw [if_neg (by rw [isFg_iff]; omega)] at h
    simp (disch := omega) only [nI_ad, nI_ml, nI_lti, nI_lei, nI_eqi, nI_nn, nI_0le, nI_eq0, nI_0lt, nI_le0, nI_clamp, nI_pd, nI_sb, zOf_some, zOp_some, zOp_none, kI_int, kL_long, kO_ref, kO_null, nlt_T, nlt_F, nle_T, nle_F, neq_F, vpT, azUp_at, if_true, if_false, true_and, and_true, true_implies, false_implies, implies_true, not_true_eq_false, not_false_eq_true, true_or, or_true, false_or, or_false, and_false, false_and, eq_self, n01_0, n01_1, nm1_0, h1]; exact h
  · by_cases h2 : 57 < c
    · rw [if_neg (by rw [isFg_iff]; omega)] at h
      simp (disch := omega) only [nI_ad, nI_ml, nI_lti, nI_lei, nI_eqi, nI_nn, nI_0le, nI_eq0, nI_0lt, nI_le0, nI_clamp, nI_pd, nI_sb, zOf_some, zOp_some, zOp_none, kI_int, kL_long, kO_ref, kO_null, nlt_T, nlt_F, nle_T, nle_F, neq_F, vpT, azUp_at, if_true, if_false, true_and, and_true, true_implies, false_implies, implies_true, not_true_eq_false, not_false_eq_true, true_or, or_true, false_or, or_false, and_false, false_and, eq_self, n01_0, n01_1, nm1_0, h1, h2]; exact h
    · rw [if_pos (by rw [isFg_iff]; omega)] at h
      simp (disch := omega) only [nI_ad, nI_ml, nI_lti, nI_lei, nI_eqi, nI_nn, nI_0le, nI_eq0, nI_0lt, nI_le0, nI_clamp, nI_pd, nI_sb, zOf_some, zOp_some, zOp_none, kI_int, kL_long, kO_ref, kO_null, nlt_T, nlt_F, nle_T, nle_F, neq_F, vpT, azUp_at, if_true, if_false, true_and, and_true, true_implies, false_implies, implies_true, not_true_eq_false, not_false_eq_true, true_or, or_true, false_or, or_false, and_false, false_and, eq_self, n01_0, n01_1, nm1_0, h1, h2]; exact h
theorem S_isName (hR : azClosed R) {c : Nat} (hc : c < 200) {σ : azS} (h : Q (some (.int (nI (if 120 ≤ c ∧ c ≤ 122 then 1 else 0)))) σ) : R d mX8_isName 0 [.int (nI c)] [] σ Q := by
  obtain ⟨⟨n, z, kd⟩, I, J, F⟩ := σ
  refine BX8_isName_0 hR ?_
  by_cases h1 : c < 120
  · rw [if_neg (by omega)] at h
    simp (disch := omega) only [nI_ad, nI_ml, nI_lti, nI_lei, nI_eqi, nI_nn, nI_0le, nI_eq0, nI_0lt, nI_le0, nI_clamp, nI_pd, nI_sb, zOf_some, zOp_some, zOp_none, kI_int, kL_long, kO_ref, kO_null, nlt_T, nlt_F, nle_T, nle_F, neq_F, vpT, azUp_at, if_true, if_false, true_and, and_true, true_implies, false_implies, implies_true, not_true_eq_false, not_false_eq_true, true_or, or_true, false_or, or_false, and_false, false_and, eq_self, n01_0, n01_1, nm1_0, h1]; exact h
  · by_cases h2 : 122 < c
    · rw [if_neg (by omega)] at h
      simp (disch := omega) only [nI_ad, nI_ml, nI_lti, nI_lei, nI_eqi, nI_nn, nI_0le, nI_eq0, nI_0lt, nI_le0, nI_clamp, nI_pd, nI_sb, zOf_some, zOp_some, zOp_none, kI_int, kL_long, kO_ref, kO_null, nlt_T, nlt_F, nle_T, nle_F, neq_F, vpT, azUp_at, if_true, if_false, true_and, and_true, true_implies, false_implies, implies_true, not_true_eq_false, not_false_eq_true, true_or, or_true, false_or, or_false, and_false, false_and, eq_self, n01_0, n01_1, nm1_0, h1, h2]; exact h
    · rw [if_pos (by omega)] at h
      simp (disch := omega) only [nI_ad, nI_ml, nI_lti, nI_lei, nI_eqi, nI_nn, nI_0le, nI_eq0, nI_0lt, nI_le0, nI_clamp, nI_pd, nI_sb, zOf_some, zOp_some, zOp_none, kI_int, kL_long, kO_ref, kO_null, nlt_T, nlt_F, nle_T, nle_F, neq_F, vpT, azUp_at, if_true, if_false, true_and, and_true, true_implies, false_implies, implies_true, not_true_eq_false, not_false_eq_true, true_or, or_true, false_or, or_false, and_false, false_and, eq_self, n01_0, n01_1, nm1_0, h1, h2]; exact h
theorem S_peek (hR : azClosed R) (hM : TpOk kd F a r) (ht : tOK t) (hc : cT I a t i kb) (hi : i ≤ t.length) (h : Q (some (.int (nI (tb t i)))) ((n, z, kd), I, J, F)) : R d mX6_peek 0 [.ref a] [] ((n, z, kd), I, J, F) Q := by
  obtain ⟨k0, k1, f0, f5, hr, hd⟩ := hM
  obtain ⟨c1, c2, c4, c5⟩ := hc
  have hl := ht.1
  refine BX6_peek_0 hR ?_
  by_cases hh : i < t.length
  · have e := c5.get hh
    simp (disch := omega) only [nI_ad, nI_ml, nI_lti, nI_lei, nI_eqi, nI_nn, nI_0le, nI_eq0, nI_0lt, nI_le0, nI_clamp, nI_pd, nI_sb, zOf_some, zOp_some, zOp_none, kI_int, kL_long, kO_ref, kO_null, nlt_T, nlt_F, nle_T, nle_F, neq_F, vpT, azUp_at, if_true, if_false, true_and, and_true, true_implies, false_implies, implies_true, not_true_eq_false, not_false_eq_true, true_or, or_true, false_or, or_false, and_false, false_and, eq_self, n01_0, n01_1, nm1_0, k0, k1, f0, c1, c2, e]
    exact h
  · rw [tb_0 (by omega)] at h
    simp (disch := omega) only [nI_ad, nI_ml, nI_lti, nI_lei, nI_eqi, nI_nn, nI_0le, nI_eq0, nI_0lt, nI_le0, nI_clamp, nI_pd, nI_sb, zOf_some, zOp_some, zOp_none, kI_int, kL_long, kO_ref, kO_null, nlt_T, nlt_F, nle_T, nle_F, neq_F, vpT, azUp_at, if_true, if_false, true_and, and_true, true_implies, false_implies, implies_true, not_true_eq_false, not_false_eq_true, true_or, or_true, false_or, or_false, and_false, false_and, eq_self, n01_0, n01_1, nm1_0, k0, c1, c2]
    exact h
theorem S_fail (hR : azClosed R) (hM : TpOk kd F a r) {x : Int32} (h : Q (some (.int (nI 0))) ((n, z, kd), azUp I a 3 x, J, F)) : R d mX6_fail 0 [.ref a, .int x] [] ((n, z, kd), I, J, F) Q := by
  refine BX6_fail_0 hR ?_
  simp (disch := omega) only [nI_ad, nI_ml, nI_lti, nI_lei, nI_eqi, nI_nn, nI_0le, nI_eq0, nI_0lt, nI_le0, nI_clamp, nI_pd, nI_sb, zOf_some, zOp_some, zOp_none, kI_int, kL_long, kO_ref, kO_null, nlt_T, nlt_F, nle_T, nle_F, neq_F, vpT, azUp_at, if_true, if_false, true_and, and_true, true_implies, false_implies, implies_true, not_true_eq_false, not_false_eq_true, true_or, or_true, false_or, or_false, and_false, false_and, eq_self, n01_0, n01_1, nm1_0, hM.1]
  exact h
theorem S_item1 (hR : azClosed R) (hM : TpOk kd F a r) (h0 : rdOk I0 a r t kb cs pd i I) {x : Nat} (hl : (rCode cs ++ pd).length < 80) (h : ∀ I', rdOk I0 a r t kb cs (pd ++ [x]) i I' → Q none ((n, z, kd), I', J, F)) : R d mX5_addItem 0 [.ref r, .int (nI x)] [] ((n, z, kd), I, J, F) Q := by
  obtain ⟨k0, k1, f0, f5, hr, hd⟩ := hM
  obtain ⟨⟨t1, t2, t3, t4⟩, hc, hf⟩ := h0
  refine S_addItem hR hr hc hl fun I' hc' hf' => h I' ⟨⟨?_, ?_, ?_, ?_⟩, hc', fun b h1 h2 => ?_⟩
  · rw [hf' a (by omega)]; exact t1
  · rw [hf' a (by omega)]; exact t2
  · rw [hf' a (by omega)]; exact t3
  · rw [hf' (a + 1) (by omega)]; exact t4
  · rw [hf' b h2]; exact hf b h1 h2
end S6
