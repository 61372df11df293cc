/-! THE REFERENCE: goes. -/
/-- a row of tokens, some of them marked -/
def cRw (f : Nat → Int32) (E : Nat → List Int32) : Prop := ∀ p, p < 10 → f p = nI (E p).length ∧ ∀ j, j < 6 → f (10 + 6 * p + j) = (E p).getD j 0
theorem cRw.erase {f g : Nat → Int32} {E : Nat → List Int32} (h : cRw f E) {p i : Nat} (hl : (E p).length ≤ 6) (hi : i < (E p).length) (hg : ∀ q, g q = if q = p then f p - nI 1 else if 10 + 6 * p + i ≤ q ∧ q < 10 + 6 * p + 5 then f (q + 1) else if q = 10 + 6 * p + 5 then nI 0 else f q) (hp : p < 10) : cRw g (fun q => if q = p then (E p).eraseIdx i else E q) := by
  intro q hq
  dsimp only
  by_cases e : q = p
  · subst e
    rw [if_pos rfl, hg, if_pos rfl, (h q hq).1, nI_sb (by omega), List.length_eraseIdx, if_pos hi]
    refine ⟨rfl, fun j hj => ?_⟩
    rw [hg, if_neg (by omega)]
    have ge : ((E q).eraseIdx i).getD j 0 = if j < i then (E q).getD j 0 else (E q).getD (j + 1) 0 := by
      simp only [List.getD_eq_getElem?_getD]
      by_cases c : j < i
      · rw [if_pos c, List.getElem?_eraseIdx_of_lt c]
      · rw [if_neg c, List.getElem?_eraseIdx_of_ge (by omega)]
    rw [ge]
    by_cases c1 : j < i
    · rw [if_pos c1, if_neg (by omega), if_neg (by omega), (h q hq).2 j hj]
    · rw [if_neg c1]
      by_cases c2 : j < 5
      · rw [if_pos (by omega)]
        have := (h q hq).2 (j + 1) (by omega)
        rw [← Nat.add_assoc] at this
        exact this
      · obtain rfl : j = 5 := by omega
        rw [if_neg (by omega), if_pos rfl]
        simp only [List.getD_eq_getElem?_getD]
        rw [List.getElem?_eq_none (by omega)]
        rfl
  · rw [if_neg e]
    refine ⟨by rw [hg, if_neg e, if_neg (by omega), if_neg (by omega)]; exact (h q hq).1, fun j hj => ?_⟩
    rw [hg, if_neg (by omega), if_neg (by omega), if_neg (by omega)]
    exact (h q hq).2 j hj
theorem cRw.cong {f : Nat → Int32} {E E' : Nat → List Int32} (h : cRw f E) (e : ∀ p, p < 10 → E' p = E p) : cRw f E' := fun p hp => by rw [e p hp]; exact h p hp
theorem cRw.cD {f : Nat → Int32} {m : Mk} (h : cRw f fun p => (m p).map nI) : cD f m := fun p hp => by
  have := h p hp
  rw [List.length_map] at this
  refine ⟨this.1, fun j hj => ?_⟩
  rw [this.2 j hj]
  simp only [List.getD_eq_getElem?_getD, List.getElem?_map]
  cases (m p)[j]? <;> rfl
/-- a place's tokens, what is taken marked -/
def mrk (cs : List Cls) (ch : Nat → Nat) (p : Nat) : Nat → List Nat → List Int32
  | _, [] => []
  | i, x :: l => (if tknB cs ch p i then -(nI 1) else nI x) :: mrk cs ch p (i + 1) l
theorem mrk_len {cs : List Cls} {ch : Nat → Nat} {p : Nat} : ∀ (l : List Nat) (i : Nat), (mrk cs ch p i l).length = l.length := by
  intro l
  induction l with
  | nil => intro i; rfl
  | cons x l ih =>
    intro i
    have e : mrk cs ch p i (x :: l) = (if tknB cs ch p i then -(nI 1) else nI x) :: mrk cs ch p (i + 1) l := rfl
    rw [e, List.length_cons, ih, List.length_cons]
theorem mrk_get {cs : List Cls} {ch : Nat → Nat} {p : Nat} : ∀ (l : List Nat) (i j : Nat), j < l.length → (mrk cs ch p i l).getD j 0 = if tknB cs ch p (i + j) then -(nI 1) else nI (l.getD j 0) := by
  intro l
  induction l with
  | nil => intro i j h; exact absurd h (Nat.not_lt_zero _)
  | cons x l ih =>
    intro i j h
    have e : mrk cs ch p i (x :: l) = (if tknB cs ch p i then -(nI 1) else nI x) :: mrk cs ch p (i + 1) l := rfl
    rw [e]
    cases j with
    | zero => rfl
    | succ j =>
      rw [List.getD_cons_succ, ih (i + 1) j (by rw [List.length_cons] at h; omega), List.getD_cons_succ, show i + 1 + j = i + (j + 1) by omega]
theorem mrk_fil {cs : List Cls} {ch : Nat → Nat} {p : Nat} : ∀ (l : List Nat) (i : Nat), (∀ x ∈ l, x < 100) → (mrk cs ch p i l).filter (fun x => !(decide (x < 0))) = (lfL cs ch p i l).map nI := by
  intro l
  induction l with
  | nil => intro i _; rfl
  | cons x l ih =>
    intro i h
    have e : mrk cs ch p i (x :: l) = (if tknB cs ch p i then -(nI 1) else nI x) :: mrk cs ch p (i + 1) l := rfl
    have e2 : lfL cs ch p i (x :: l) = if tknB cs ch p i then lfL cs ch p (i + 1) l else x :: lfL cs ch p (i + 1) l := rfl
    have hx := h x (List.mem_cons_self ..)
    rw [e, e2, List.filter_cons, ih (i + 1) fun y hy => h y (List.mem_cons_of_mem _ hy)]
    by_cases c : tknB cs ch p i = true
    · rw [if_pos c, if_pos c, decide_eq_true m1_neg]; rfl
    · rw [if_neg c, if_neg c, decide_eq_false (nI_nn (by omega))]; rfl
/-- what is left of a place's row -/
def kpF (bt : Bool) (l : List Int32) : List Int32 := l.filter fun x => !(decide (x < 0)) && !bt
theorem kpF_lfM {cs : List Cls} {ch : Nat → Nat} {m : Mk} (hv : mOK m) (p : Nat) : kpF ((rBits cs).testBit p) (mrk cs ch p 0 (m p)) = (lfM cs ch m p).map nI := by
  unfold kpF lfM
  by_cases c : (rBits cs).testBit p = true
  · rw [if_pos c, c]
    simp
  · have cf : (rBits cs).testBit p = false := by simpa using c
    rw [if_neg c, cf]
    rw [← mrk_fil _ _ (hv.1 p).2]
    congr 1
    funext x
    simp
section S9
variable {R : azP} {d n z : Nat} {kd : azK} {I : azI} {J : azJ} {F : azR} {Q : azQ} {cs : List Cls} {t : List Nat} {m : Mk} {b : Nat}
/-- what a part's going leaves as it was -/
def frG9 (I I' : azI) : Prop := (∀ c, c ≠ 228 → (c < 234 ∨ c = 241 ∨ 244 < c) → I' c = I c) ∧ ∀ j, j ≤ 8 ∨ 26 ≤ j → I' 228 j = I 228 j
theorem frG9.refl : frG9 I I := ⟨fun _ _ _ => rfl, fun _ _ => rfl⟩
theorem frG9.trans {I I1 I2 : azI} (h1 : frG9 I I1) (h2 : frG9 I1 I2) : frG9 I I2 := ⟨fun c a b => by rw [h2.1 c a b, h1.1 c a b], fun j a => by rw [h2.2 j a, h1.2 j a]⟩
theorem frG9.mdS {I I' : azI} (h : frG9 I I') : mdS I I' := ⟨fun b a b' => h.1 b a (by omega), fun j a => h.2 j (by omega)⟩
theorem rdM.kp {I' : azI} (h : rdM I t cs) (h1 : ∀ c, 235 ≤ c → c ≤ 239 → I' c = I c) (h2 : ∀ j, 13 ≤ j → j ≤ 24 → I' 228 j = I 228 j) : rdM I' t cs := by
  obtain ⟨q1, q2, q3, q4, q5, q6, q7, q8, q9⟩ := h
  refine ⟨by rw [h2 13 (by decide) (by decide)]; exact q1, by rw [h2 16 (by decide) (by decide)]; exact q2, by rw [h2 19 (by decide) (by decide)]; exact q3, by rw [h2 21 (by decide) (by decide)]; exact q4, by rw [h2 22 (by decide) (by decide)]; exact q5, by rw [h2 24 (by decide) (by decide)]; exact q6, by rw [h1 235 (by decide) (by decide), h1 236 (by decide) (by decide)]; exact q7, by unfold gvM; rw [h1 237 (by decide) (by decide), h1 238 (by decide) (by decide)]; exact q8, by unfold cdM; rw [h1 239 (by decide) (by decide)]; exact q9⟩
theorem tknB_iff {cs : List Cls} {ch : Nat → Nat} {p i : Nat} : tknB cs ch p i = true ↔ ∃ h, h < nTk cs ∧ tkP cs h = p ∧ ch h = i := by
  unfold tknB
  rw [List.any_eq_true]
  constructor
  · rintro ⟨h, h1, h2⟩
    rw [Bool.and_eq_true, decide_eq_true_iff, decide_eq_true_iff] at h2
    exact ⟨h, List.mem_range.mp h1, h2⟩
  · rintro ⟨h, h1, h2⟩
    exact ⟨h, List.mem_range.mpr h1, by rw [Bool.and_eq_true, decide_eq_true_iff, decide_eq_true_iff]; exact h2⟩
/-- names, next and the reader's place alone are others -/
def frH (I I' : azI) : Prop := (∀ c, c ≠ 228 → c ≠ 240 → c ≠ 244 → I' c = I c) ∧ (∀ j, j ≠ 11 → j ≠ 12 → I' 228 j = I 228 j) ∧ I' 228 12 = -(nI 1)
/-- the gives: a token more, or no room -/
theorem S_gives9 (hR : azClosed R) (hK : MdOk kd F) (htk : tOK t) (ho : rlOK cs) (hx : txt I t) (hr : rdM I t cs) (h25 : I 228 25 = nI 0) {nm : Nat → Int32} {b x1 : Nat} {go : Option Mk} (hQ : ∀ I', frH I I' → (∀ M, go = some M → cD (I' 244) M) → Q (some (.int (nI (if go.isSome then 1 else 0)))) ((n, z, kd), I', J, F)) : ∀ (rest pre : List Cls) (I1 : azI) (st : Option Mk), pre ++ rest = rOf 2 cs → frH I I1 → (∀ j, j < nTk cs → I1 240 (tkN cs j) = nm (tkN cs j)) → (∀ M, st = some M → cD (I1 244) M ∧ mOK M ∧ gvA nm rest M = go) → (st = none → go = none) → R (d + 25) mX9_goes 192 [.ref 228, .int (nI x1), .ref b, .int (nI (if st.isSome then 1 else 0)), .int (nI pre.length)] [] ((n, z, kd), I1, J, F) Q := by
  have ⟨k0, ⟨k220, k221, k222, k223, k224, k225, k226, k227, k228, k229, k230, k231⟩, ⟨k232, k233, k234, k235, _⟩, ⟨f0, f1, f2, f3, f7, f9, f14, f15, f17, f18, f20, f23⟩, ⟨f26, f28, f29, f30, _⟩⟩ := id hK
  have hg3 : nGv cs ≤ 3 := ho.2.2.2.2.1
  have hkb : knB cs < 8 := ho.2.2.2.2.2.1
  have hgl : nGv cs = (rOf 2 cs).length := rOf_len 2 0 cs
  obtain ⟨q1, q2, q3, q4, q5, q6, q7, q8, q9⟩ := id hr
  intro rest
  induction rest with
  | nil =>
    intro pre I1 st hp hf hn hs h0
    rw [List.append_nil] at hp
    have hl : pre.length = nGv cs := by rw [hp, hgl]
    have e16 : I1 228 16 = nI (nGv cs) := by rw [hf.2.1 16 (by decide) (by decide)]; exact q2
    have eg : st = go := by
      cases st with
      | none => exact (h0 rfl).symm
      | some M => exact (hs M rfl).2.2
    subst eg
    have := hQ I1 hf fun M e => (hs M e).1
    refine BX9_goes_192 hR ?_
    simp (disch := omega) only [nI_ad, nI_ml, nI_lti, nI_lei, nI_eqi, nI_nn, nI_0le, nI_eq0, nI_0lt, nI_le0, nI_clamp, nI_pd, nI_sb, zOf_some, zOp_some, zOp_none, kI_int, kL_long, kO_ref, kO_null, nlt_T, nlt_F, nle_T, nle_F, neq_F, vpT, azUp_at, if_true, if_false, true_and, and_true, true_implies, false_implies, implies_true, not_true_eq_false, not_false_eq_true, true_or, or_true, false_or, or_false, and_false, false_and, eq_self, n01_0, n01_1, nm1_0, k0, e16]
    refine ⟨?_, this⟩
    split
    · exact Or.inr (by decide)
    · exact Or.inl (by decide)
  | cons c rest ih =>
    intro pre I1 st hp hf hn hs h0
    have hl : pre.length < nGv cs := by rw [hgl, ← hp, List.length_append, List.length_cons]; omega
    have hl3 : pre.length < 3 := by omega
    have e16 : I1 228 16 = nI (nGv cs) := by rw [hf.2.1 16 (by decide) (by decide)]; exact q2
    have hgc : gvC cs pre.length = c := by unfold gvC; rw [← hp]; simp
    obtain ⟨g1, pos, kb', x, g2, g3, g4, g5, g6⟩ := q8 pre.length hl
    rw [hgc] at g1 g6
    have e228 : I1 237 pre.length = nI c.2.1 := by rw [hf.1 237 (by decide) (by decide) (by decide)]; exact g1
    have e229 : I1 238 pre.length = nI pos := by rw [hf.1 238 (by decide) (by decide) (by decide)]; exact g2
    have hcm : c ∈ cs := (List.mem_filter.mp (show c ∈ rOf 2 cs by rw [← hp]; simp)).1
    have hc2 : c.1 = 2 := by simpa using (List.mem_filter.mp (show c ∈ rOf 2 cs by rw [← hp]; simp)).2
    have hcl := ho.2.2.2.2.2.2 c hcm
    have hc10 := hcl.2.1
    have ep : (pre ++ [c]).length = pre.length + 1 := by simp
    have hf1 : frH I (azUp I1 228 11 (nI pos)) := ⟨fun c a b e => by rw [azUp_nb a]; exact hf.1 c a b e, fun j a b => by rw [azUp_nk a]; exact hf.2.1 j a b, by rw [azUp_nk (by decide)]; exact hf.2.2⟩
    cases st with
    | none =>
      have := ih (pre ++ [c]) (azUp I1 228 11 (nI pos)) none (by rw [← hp]; simp) hf1 (by rw [azUp_nb (by decide)]; exact hn) (fun M e => by cases e) h0
      rw [ep] at this
      refine BX9_goes_192 hR ?_
      simp (disch := omega) only [nI_ad, nI_ml, nI_lti, nI_lei, nI_eqi, nI_nn, nI_0le, nI_eq0, nI_0lt, nI_le0, nI_clamp, nI_pd, nI_sb, zOf_some, zOp_some, zOp_none, kI_int, kL_long, kO_ref, kO_null, nlt_T, nlt_F, nle_T, nle_F, neq_F, vpT, azUp_at, if_true, if_false, true_and, and_true, true_implies, false_implies, implies_true, not_true_eq_false, not_false_eq_true, true_or, or_true, false_or, or_false, and_false, false_and, eq_self, n01_0, n01_1, nm1_0, k0, e16, f18, k229, e229, Option.isSome_none, Bool.false_eq_true]
      exact this
    | some M =>
      obtain ⟨s1, s2, s3⟩ := hs M rfl
      refine BX9_goes_192 hR ?_
      simp (disch := omega) only [nI_ad, nI_ml, nI_lti, nI_lei, nI_eqi, nI_nn, nI_0le, nI_eq0, nI_0lt, nI_le0, nI_clamp, nI_pd, nI_sb, zOf_some, zOp_some, zOp_none, kI_int, kL_long, kO_ref, kO_null, nlt_T, nlt_F, nle_T, nle_F, neq_F, vpT, azUp_at, if_true, if_false, true_and, and_true, true_implies, false_implies, implies_true, not_true_eq_false, not_false_eq_true, true_or, or_true, false_or, or_false, and_false, false_and, eq_self, n01_0, n01_1, nm1_0, k0, e16, f18, f17, f30, k228, k229, e229, Option.isSome_some]
      have hcu : cu (azUp I1 228 11 (nI pos)) t (knB cs) 5 pos := by
        refine ⟨⟨?_, ?_⟩, azUp_s, ?_, ?_, ?_⟩
        · rw [azUp_nk (by decide), hf.2.1 10 (by decide) (by decide)]; exact hx.1
        · rw [azUp_nb (by decide), hf.1 234 (by decide) (by decide) (by decide)]; exact hx.2
        · rw [azUp_nk (by decide)]; exact hf.2.2
        · rw [azUp_nk (by decide), hf.2.1 24 (by decide) (by decide)]; exact q6
        · rw [azUp_nk (by decide), hf.2.1 25 (by decide) (by decide)]; exact h25
      refine S_exprX9 (d := d + 5) hR hK htk hkb _ pos _ hcu g3 ?_
      rw [pX_mono g4 _ _ g5]
      intro I2 r1 r2 r3
      have hn' : c.2.2.2 ≠ [] := by
        obtain ⟨e, he⟩ := hcl.2.2.2.2.2.2.2 hc2
        rw [he]; exact fun h => by cases h
      have en : exEv (fun w => azUp I1 228 11 (nI pos) 240 w) x.1 = exEv nm (cEx c) := by
        rw [azUp_nb (by decide), g6]
        exact exEv_cong (fun w hw => by
          obtain ⟨j, hj, e⟩ := kn_tk hw
          rw [← e]; exact hn j hj) (cEx_ok hcl hn')
      have hf2 : frH I I2 := ⟨fun c a b e => by rw [r1.1 c a]; exact hf1.1 c a b e, fun j a b => by rw [r1.2 j a b]; exact hf1.2.1 j a b, r3⟩
      have e235 : I2 244 = I1 244 := by rw [r1.1 244 (by decide), azUp_nb (by decide)]
      have e231 : I2 240 = I1 240 := by rw [r1.1 240 (by decide), azUp_nb (by decide)]
      have h100 : ¬ (nI 100 = 0) := by decide
      rw [kI_int, en, irem_100, e228]
      have eg : gvA nm (c :: rest) M = if (M c.2.1).length < 6 then gvA nm rest (mUp M c.2.1 (M c.2.1 ++ [fm (exEv nm (cEx c))])) else none := rfl
      rw [eg] at s3
      have hv := s2.1 c.2.1
      refine S_adds9 hR k235 hc10 s2 (by rw [e235]; exact s1) (fun e6 => ?_) fun e6 I3 u1 u2 => ?_
      · rw [if_neg (by omega)] at s3
        have := ih (pre ++ [c]) I2 none (by rw [← hp]; simp) hf2 (by rw [e231]; exact hn) (fun M e => by cases e) fun _ => s3.symm
        rw [ep] at this
        simp (disch := omega) only [nI_ad, nI_ml, nI_lti, nI_lei, nI_eqi, nI_nn, nI_0le, nI_eq0, nI_0lt, nI_le0, nI_clamp, nI_pd, nI_sb, zOf_some, zOp_some, zOp_none, kI_int, kL_long, kO_ref, kO_null, nlt_T, nlt_F, nle_T, nle_F, neq_F, vpT, azUp_at, if_true, if_false, true_and, and_true, true_implies, false_implies, implies_true, not_true_eq_false, not_false_eq_true, true_or, or_true, false_or, or_false, and_false, false_and, eq_self, n01_0, n01_1, nm1_0]
        exact this
      · rw [if_pos e6] at s3
        have hf3 : frH I I3 := ⟨fun c a b e => by rw [u1 c e]; exact hf2.1 c a b e, fun j a b => by rw [u1 228 (by decide)]; exact hf2.2.1 j a b, by rw [u1 228 (by decide)]; exact r3⟩
        have := ih (pre ++ [c]) I3 (some (mUp M c.2.1 (M c.2.1 ++ [fm (exEv nm (cEx c))]))) (by rw [← hp]; simp) hf3 (by rw [u1 240 (by decide), e231]; exact hn) (fun M' e => by
          cases e
          exact ⟨u2, s2.up hc10 (by rw [List.length_append, List.length_cons, List.length_nil]; omega) (fun t ht => by
            rcases List.mem_append.mp ht with ht | ht
            · exact hv.2 t ht
            · rw [List.mem_singleton] at ht; subst ht; exact fm_lt _), s3⟩) fun e => by cases e
        rw [ep] at this
        simp (disch := omega) only [nI_ad, nI_ml, nI_lti, nI_lei, nI_eqi, nI_nn, nI_0le, nI_eq0, nI_0lt, nI_le0, nI_clamp, nI_pd, nI_sb, zOf_some, zOp_some, zOp_none, kI_int, kL_long, kO_ref, kO_null, nlt_T, nlt_F, nle_T, nle_F, neq_F, vpT, azUp_at, if_true, if_false, true_and, and_true, true_implies, false_implies, implies_true, not_true_eq_false, not_false_eq_true, true_or, or_true, false_or, or_false, and_false, false_and, eq_self, n01_0, n01_1, nm1_0]
        exact this
end S9
