/-! THE REFERENCE: its object; bytes of the text. -/
def MdOk (kd : azK) (F : azR) : Prop := (kd 228).1 = 9 ∧ (kd 229 = (10, 70) ∧ kd 230 = (10, 70) ∧ kd 231 = (10, 810) ∧ kd 232 = (10, 810) ∧ kd 233 = (10, 80) ∧ kd 234 = (10, 80) ∧ kd 235 = (10, 3) ∧ kd 236 = (10, 3) ∧ kd 237 = (10, 3) ∧ kd 238 = (10, 3) ∧ kd 239 = (10, 40) ∧ kd 240 = (10, 3)) ∧ (kd 241 = (10, 800) ∧ kd 242 = (10, 3) ∧ kd 243 = (10, 3) ∧ kd 244 = (10, 70) ∧ kd 245 = (10, 70) ∧ kd 246 = (10, 4200) ∧ kd 247 = (10, 60) ∧ kd 248 = (10, 60) ∧ kd 249 = (10, 600) ∧ kd 250 = (10, 70) ∧ kd 251 = (12, 60) ∧ kd 252 = (11, 100) ∧ kd 253 = (11, 100) ∧ kd 254 = (10, 10) ∧ kd 255 = (10, 10)) ∧
  (F 228 0 = some 229 ∧ F 228 1 = some 230 ∧ F 228 2 = some 231 ∧ F 228 3 = some 232 ∧ F 228 7 = some 233 ∧ F 228 9 = some 234 ∧ F 228 14 = some 235 ∧ F 228 15 = some 236 ∧ F 228 17 = some 237 ∧ F 228 18 = some 238 ∧ F 228 20 = some 239 ∧ F 228 23 = some 240) ∧ (F 228 26 = some 241 ∧ F 228 28 = some 242 ∧ F 228 29 = some 243 ∧ F 228 30 = some 244 ∧ F 228 31 = some 245 ∧ F 228 33 = some 246 ∧ F 228 34 = some 247 ∧ F 228 35 = some 248 ∧ F 228 36 = some 249 ∧ F 228 37 = some 250 ∧ F 228 38 = some 251 ∧ F 228 39 = some 252 ∧ F 228 40 = some 253 ∧ F 228 41 = some 254 ∧ F 228 43 = some 255)
/-- the text that is read -/
def txt (I : azI) (t : List Nat) : Prop := I 228 10 = nI t.length ∧ lst (I 234) (t.map nI)
/-- reading goes on at a place: so many brackets to spare -/
def cu (I : azI) (t : List Nat) (kb b i : Nat) : Prop := txt I t ∧ I 228 11 = nI i ∧ I 228 12 = -(nI 1) ∧ I 228 24 = nI kb ∧ I 228 25 = nI (5 - b)
/-- but for place and fault all is as it was -/
def frp (I I' : azI) : Prop := (∀ c, c ≠ 228 → I' c = I c) ∧ ∀ j, j ≠ 11 → j ≠ 12 → I' 228 j = I 228 j
theorem frp.refl {I : azI} : frp I I := ⟨fun _ _ => rfl, fun _ _ _ => rfl⟩
theorem frp.trans {I I1 I2 : azI} (h1 : frp I I1) (h2 : frp I1 I2) : frp I I2 := ⟨fun c hc => by rw [h2.1 c hc, h1.1 c hc], fun j h h' => by rw [h2.2 j h h', h1.2 j h h']⟩
theorem frp.up11 {I I' : azI} {v : Int32} (h : frp I I') : frp I (azUp I' 228 11 v) := ⟨fun c hc => by rw [azUp_nb hc]; exact h.1 c hc, fun j h1 h2 => by rw [azUp_nk h1]; exact h.2 j h1 h2⟩
theorem frp.up12 {I I' : azI} {v : Int32} (h : frp I I') : frp I (azUp I' 228 12 v) := ⟨fun c hc => by rw [azUp_nb hc]; exact h.1 c hc, fun j h1 h2 => by rw [azUp_nk h2]; exact h.2 j h1 h2⟩
theorem frp.txt {I I' : azI} {t : List Nat} (h : frp I I') (ht : txt I t) : txt I' t := ⟨by rw [h.2 10 (by decide) (by decide)]; exact ht.1, by rw [h.1 234 (by decide)]; exact ht.2⟩
theorem cu.to {I I' : azI} {t : List Nat} {kb b i j : Nat} (h : cu I t kb b i) (hf : frp I I') (h1 : I' 228 11 = nI j) (h2 : I' 228 12 = -(nI 1)) : cu I' t kb b j := ⟨hf.txt h.1, h1, h2, by rw [hf.2 24 (by decide) (by decide)]; exact h.2.2.2.1, by rw [hf.2 25 (by decide) (by decide)]; exact h.2.2.2.2⟩
theorem azUp_id {I : azI} {a k : Nat} : azUp I a k (I a k) = I := by
  funext b j
  unfold azUp
  split
  · split
    · rename_i h1 h2; rw [h1, h2]
    · rfl
  · rfl
theorem m1_neg : -(nI 1) < 0 := by decide
theorem m1_ng : ¬ (0 ≤ -(nI 1)) := by decide
theorem kbW : ∀ kb, kb < 8 → ∀ w, w < 3 → ((((nI kb >>> (nI w &&& 31)) &&& nI 1) = 0) ↔ (kb.testBit w = false)) := by decide
section S9
variable {R : azP} {d n z : Nat} {kd : azK} {I : azI} {J : azJ} {F : azR} {Q : azQ} {t : List Nat} {kb b i : Nat}
theorem S_peek9 (hR : azClosed R) (hK : MdOk kd F) (ht : t.length ≤ 80) (hx : txt I t) (h11 : I 228 11 = nI i) (hi : i < 100000) (h : Q (some (.int (nI (tb t i)))) ((n, z, kd), I, J, F)) : R d mX9_peek 0 [.ref 228] [] ((n, z, kd), I, J, F) Q := by
  obtain ⟨k0, ⟨k220, k221, k222, k223, k224, k225, k226, k227, k228, k229, k230, k231⟩, _, ⟨f0, f1, f2, f3, f7, f9, f14, f15, f17, f18, f20, f23⟩, _⟩ := hK
  refine BX9_peek_0 hR ?_
  by_cases c : i < t.length
  · have e : I 234 i = nI (tb t i) := hx.2.get c
    simp (disch := omega) only [nI_ad, nI_ml, nI_lti, nI_lei, nI_eqi, nI_nn, nI_0le, nI_eq0, nI_0lt, nI_le0, nI_clamp, nI_pd, nI_sb, zOf_some, zOp_some, zOp_none, kI_int, kL_long, kO_ref, kO_null, nlt_T, nlt_F, nle_T, nle_F, neq_F, vpT, azUp_at, if_true, if_false, true_and, and_true, true_implies, false_implies, implies_true, not_true_eq_false, not_false_eq_true, true_or, or_true, false_or, or_false, and_false, false_and, eq_self, n01_0, n01_1, nm1_0, k0, hx.1, h11, f9, k225, e]
    exact h
  · rw [tb_0 (by omega)] at h
    simp (disch := omega) only [nI_ad, nI_ml, nI_lti, nI_lei, nI_eqi, nI_nn, nI_0le, nI_eq0, nI_0lt, nI_le0, nI_clamp, nI_pd, nI_sb, zOf_some, zOp_some, zOp_none, kI_int, kL_long, kO_ref, kO_null, nlt_T, nlt_F, nle_T, nle_F, neq_F, vpT, azUp_at, if_true, if_false, true_and, and_true, true_implies, false_implies, implies_true, not_true_eq_false, not_false_eq_true, true_or, or_true, false_or, or_false, and_false, false_and, eq_self, n01_0, n01_1, nm1_0, k0, hx.1, h11]
    exact h
theorem S_wrong9 (hR : azClosed R) (hK : MdOk kd F) (h12 : I 228 12 = -(nI 1)) {x : Int32} (h : Q none ((n, z, kd), azUp I 228 12 x, J, F)) : R d mX9_wrong 0 [.ref 228, .int x] [] ((n, z, kd), I, J, F) Q := by
  have k0 := hK.1
  refine BX9_wrong_0 hR ?_
  have hg := m1_ng
  simp (disch := omega) only [nI_ad, nI_ml, nI_lti, nI_lei, nI_eqi, nI_nn, nI_0le, nI_eq0, nI_0lt, nI_le0, nI_clamp, nI_pd, nI_sb, zOf_some, zOp_some, zOp_none, kI_int, kL_long, kO_ref, kO_null, nlt_T, nlt_F, nle_T, nle_F, neq_F, vpT, azUp_at, if_true, if_false, true_and, and_true, true_implies, false_implies, implies_true, not_true_eq_false, not_false_eq_true, true_or, or_true, false_or, or_false, and_false, false_and, eq_self, n01_0, n01_1, nm1_0, k0, h12, hg]
  exact h
theorem S_wrong9f (hR : azClosed R) (hK : MdOk kd F) {f : Nat} (hf : f < 100000) (h12 : I 228 12 = nI f) {x : Int32} (h : Q none ((n, z, kd), I, J, F)) : R d mX9_wrong 0 [.ref 228, .int x] [] ((n, z, kd), I, J, F) Q := by
  have k0 := hK.1
  have e : azUp I 228 12 (nI f) = I := by rw [← h12]; exact azUp_id
  refine BX9_wrong_0 hR ?_
  simp (disch := omega) only [nI_ad, nI_ml, nI_lti, nI_lei, nI_eqi, nI_nn, nI_0le, nI_eq0, nI_0lt, nI_le0, nI_clamp, nI_pd, nI_sb, zOf_some, zOp_some, zOp_none, kI_int, kL_long, kO_ref, kO_null, nlt_T, nlt_F, nle_T, nle_F, neq_F, vpT, azUp_at, if_true, if_false, true_and, and_true, true_implies, false_implies, implies_true, not_true_eq_false, not_false_eq_true, true_or, or_true, false_or, or_false, and_false, false_and, eq_self, n01_0, n01_1, nm1_0, k0, h12, e]
  exact h
theorem S_takes9 (hR : azClosed R) (hK : MdOk kd F) (ht : t.length ≤ 80) (hc : cu I t kb b i) (hi : i < 100000) {c : Nat} (hc2 : c < 128) (htk : tOK t) (h1 : tb t i = c → Q none ((n, z, kd), azUp I 228 11 (nI (i + 1)), J, F)) (h2 : tb t i ≠ c → Q none ((n, z, kd), azUp I 228 12 (nI i), J, F)) : R (d + 1) mX9_takes 0 [.ref 228, .int (nI c)] [] ((n, z, kd), I, J, F) Q := by
  have k0 := hK.1
  have hg := m1_ng
  have hb := tb_lt htk (i := i)
  refine BX9_takes_0 hR ?_
  simp (disch := omega) only [nI_ad, nI_ml, nI_lti, nI_lei, nI_eqi, nI_nn, nI_0le, nI_eq0, nI_0lt, nI_le0, nI_clamp, nI_pd, nI_sb, zOf_some, zOp_some, zOp_none, kI_int, kL_long, kO_ref, kO_null, nlt_T, nlt_F, nle_T, nle_F, neq_F, vpT, azUp_at, if_true, if_false, true_and, and_true, true_implies, false_implies, implies_true, not_true_eq_false, not_false_eq_true, true_or, or_true, false_or, or_false, and_false, false_and, eq_self, n01_0, n01_1, nm1_0, k0, hc.2.2.1, hg]
  refine S_peek9 hR hK ht hc.1 hc.2.1 hi ?_
  by_cases e : tb t i = c
  · simp (disch := omega) only [nI_ad, nI_ml, nI_lti, nI_lei, nI_eqi, nI_nn, nI_0le, nI_eq0, nI_0lt, nI_le0, nI_clamp, nI_pd, nI_sb, zOf_some, zOp_some, zOp_none, kI_int, kL_long, kO_ref, kO_null, nlt_T, nlt_F, nle_T, nle_F, neq_F, vpT, azUp_at, if_true, if_false, true_and, and_true, true_implies, false_implies, implies_true, not_true_eq_false, not_false_eq_true, true_or, or_true, false_or, or_false, and_false, false_and, eq_self, n01_0, n01_1, nm1_0, k0, e, hc.2.1]
    exact h1 e
  · simp (disch := omega) only [nI_ad, nI_ml, nI_lti, nI_lei, nI_eqi, nI_nn, nI_0le, nI_eq0, nI_0lt, nI_le0, nI_clamp, nI_pd, nI_sb, zOf_some, zOp_some, zOp_none, kI_int, kL_long, kO_ref, kO_null, nlt_T, nlt_F, nle_T, nle_F, neq_F, vpT, azUp_at, if_true, if_false, true_and, and_true, true_implies, false_implies, implies_true, not_true_eq_false, not_false_eq_true, true_or, or_true, false_or, or_false, and_false, false_and, eq_self, n01_0, n01_1, nm1_0, k0, e, hc.2.1]
    exact S_wrong9 hR hK hc.2.2.1 ⟨rfl, h2 e⟩
theorem S_takes9f (hR : azClosed R) (hK : MdOk kd F) {f : Nat} (hf : f < 100000) (h12 : I 228 12 = nI f) {x : Int32} (h : Q none ((n, z, kd), I, J, F)) : R (d + 1) mX9_takes 0 [.ref 228, .int x] [] ((n, z, kd), I, J, F) Q := by
  have k0 := hK.1
  refine BX9_takes_0 hR ?_
  simp (disch := omega) only [nI_ad, nI_ml, nI_lti, nI_lei, nI_eqi, nI_nn, nI_0le, nI_eq0, nI_0lt, nI_le0, nI_clamp, nI_pd, nI_sb, zOf_some, zOp_some, zOp_none, kI_int, kL_long, kO_ref, kO_null, nlt_T, nlt_F, nle_T, nle_F, neq_F, vpT, azUp_at, if_true, if_false, true_and, and_true, true_implies, false_implies, implies_true, not_true_eq_false, not_false_eq_true, true_or, or_true, false_or, or_false, and_false, false_and, eq_self, n01_0, n01_1, nm1_0, k0, h12]
  exact S_wrong9f hR hK hf h12 ⟨rfl, h⟩
theorem S_isFigure9 (hR : azClosed R) {c : Nat} (hc : c < 128) {σ : azS} (h : Q (some (.int (nI (if isFg c then 1 else 0)))) σ) : R d mX9_isFigure 0 [.int (nI c)] [] σ Q := by
  obtain ⟨⟨n, z, kd⟩, I, J, F⟩ := σ
  refine BX9_isFigure_0 hR ?_
  by_cases e : isFg c = true
  · have := isFg_iff.mp e
    rw [e] at h
    simp (disch := omega) only [nI_ad, nI_ml, nI_lti, nI_lei, nI_eqi, nI_nn, nI_0le, nI_eq0, nI_0lt, nI_le0, nI_clamp, nI_pd, nI_sb, zOf_some, zOp_some, zOp_none, kI_int, kL_long, kO_ref, kO_null, nlt_T, nlt_F, nle_T, nle_F, neq_F, vpT, azUp_at, if_true, if_false, true_and, and_true, true_implies, false_implies, implies_true, not_true_eq_false, not_false_eq_true, true_or, or_true, false_or, or_false, and_false, false_and, eq_self, n01_0, n01_1, nm1_0]
    exact h
  · rw [if_neg e] at h
    have : ¬ (48 ≤ c ∧ c ≤ 57) := fun q => e (isFg_iff.mpr q)
    by_cases q : c < 48
    · simp (disch := omega) only [nI_ad, nI_ml, nI_lti, nI_lei, nI_eqi, nI_nn, nI_0le, nI_eq0, nI_0lt, nI_le0, nI_clamp, nI_pd, nI_sb, zOf_some, zOp_some, zOp_none, kI_int, kL_long, kO_ref, kO_null, nlt_T, nlt_F, nle_T, nle_F, neq_F, vpT, azUp_at, if_true, if_false, true_and, and_true, true_implies, false_implies, implies_true, not_true_eq_false, not_false_eq_true, true_or, or_true, false_or, or_false, and_false, false_and, eq_self, n01_0, n01_1, nm1_0, q]; exact h
    · simp (disch := omega) only [nI_ad, nI_ml, nI_lti, nI_lei, nI_eqi, nI_nn, nI_0le, nI_eq0, nI_0lt, nI_le0, nI_clamp, nI_pd, nI_sb, zOf_some, zOp_some, zOp_none, kI_int, kL_long, kO_ref, kO_null, nlt_T, nlt_F, nle_T, nle_F, neq_F, vpT, azUp_at, if_true, if_false, true_and, and_true, true_implies, false_implies, implies_true, not_true_eq_false, not_false_eq_true, true_or, or_true, false_or, or_false, and_false, false_and, eq_self, n01_0, n01_1, nm1_0, q]; exact h
theorem S_figure9 (hR : azClosed R) (hK : MdOk kd F) (ht : t.length ≤ 80) (hc : cu I t kb b i) (hi : i < 100000) (htk : tOK t) (h1 : isFg (tb t i) = true → Q (some (.int (nI (tb t i - 48)))) ((n, z, kd), azUp I 228 11 (nI (i + 1)), J, F)) (h2 : isFg (tb t i) = false → Q (some (.int (nI 0))) ((n, z, kd), azUp I 228 12 (nI i), J, F)) : R (d + 1) mX9_figure 0 [.ref 228, .retAddr 0] [] ((n, z, kd), I, J, F) Q := by
  have k0 := hK.1
  have hg := m1_ng
  have hb := tb_lt htk (i := i)
  refine BX9_figure_0 hR ?_
  simp (disch := omega) only [nI_ad, nI_ml, nI_lti, nI_lei, nI_eqi, nI_nn, nI_0le, nI_eq0, nI_0lt, nI_le0, nI_clamp, nI_pd, nI_sb, zOf_some, zOp_some, zOp_none, kI_int, kL_long, kO_ref, kO_null, nlt_T, nlt_F, nle_T, nle_F, neq_F, vpT, azUp_at, if_true, if_false, true_and, and_true, true_implies, false_implies, implies_true, not_true_eq_false, not_false_eq_true, true_or, or_true, false_or, or_false, and_false, false_and, eq_self, n01_0, n01_1, nm1_0, k0]
  refine S_peek9 hR hK ht hc.1 hc.2.1 hi ?_
  simp (disch := omega) only [nI_ad, nI_ml, nI_lti, nI_lei, nI_eqi, nI_nn, nI_0le, nI_eq0, nI_0lt, nI_le0, nI_clamp, nI_pd, nI_sb, zOf_some, zOp_some, zOp_none, kI_int, kL_long, kO_ref, kO_null, nlt_T, nlt_F, nle_T, nle_F, neq_F, vpT, azUp_at, if_true, if_false, true_and, and_true, true_implies, false_implies, implies_true, not_true_eq_false, not_false_eq_true, true_or, or_true, false_or, or_false, and_false, false_and, eq_self, n01_0, n01_1, nm1_0, k0, hc.2.2.1, hg]
  refine S_isFigure9 hR hb ?_
  cases e : isFg (tb t i) with
  | true =>
    have := isFg_iff.mp e
    rw [if_pos rfl]
    simp (disch := omega) only [nI_ad, nI_ml, nI_lti, nI_lei, nI_eqi, nI_nn, nI_0le, nI_eq0, nI_0lt, nI_le0, nI_clamp, nI_pd, nI_sb, zOf_some, zOp_some, zOp_none, kI_int, kL_long, kO_ref, kO_null, nlt_T, nlt_F, nle_T, nle_F, neq_F, vpT, azUp_at, if_true, if_false, true_and, and_true, true_implies, false_implies, implies_true, not_true_eq_false, not_false_eq_true, true_or, or_true, false_or, or_false, and_false, false_and, eq_self, n01_0, n01_1, nm1_0, k0, hc.2.1]
    exact h1 e
  | false =>
    rw [if_neg (by decide)]
    simp (disch := omega) only [nI_ad, nI_ml, nI_lti, nI_lei, nI_eqi, nI_nn, nI_0le, nI_eq0, nI_0lt, nI_le0, nI_clamp, nI_pd, nI_sb, zOf_some, zOp_some, zOp_none, kI_int, kL_long, kO_ref, kO_null, nlt_T, nlt_F, nle_T, nle_F, neq_F, vpT, azUp_at, if_true, if_false, true_and, and_true, true_implies, false_implies, implies_true, not_true_eq_false, not_false_eq_true, true_or, or_true, false_or, or_false, and_false, false_and, eq_self, n01_0, n01_1, nm1_0, k0, hc.2.1]
    exact S_wrong9 hR hK hc.2.2.1 ⟨rfl, h2 e⟩
end S9
