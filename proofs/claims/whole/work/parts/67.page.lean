/-! SPECS: Paper: write, insert, numbers. -/
def PpOk (kd : azK) (F : azR) (a : Nat) : Prop := (kd a).1 = 4 ∧ kd (a + 1) = (10, 256) ∧ kd (a + 2) = (10, 80) ∧ kd (a + 3) = (10, 80) ∧ F a 0 = some (a + 1) ∧ F a 1 = some (a + 2) ∧ F a 2 = some (a + 3)
/-- the paper holds a text -/
def cP (I : azI) (a : Nat) (t : List Nat) : Prop := I a 3 = nI t.length ∧ lst (I (a + 1)) (t.map nI)
theorem cP.keep {I I' : azI} {a : Nat} {t : List Nat} (h : cP I a t) (h0 : I' a = I a) (h1 : I' (a + 1) = I (a + 1)) : cP I' a t := by
  unfold cP at h ⊢
  rw [h0, h1]; exact h
def numTx (n : Nat) : List Nat := if n < 10 then [48 + n] else [48 + n / 10, 48 + n % 10]
theorem numTx_len {n : Nat} : 1 ≤ (numTx n).length ∧ (numTx n).length ≤ 2 := by
  unfold numTx
  split <;> simp
def ins (t : List Nat) (p c : Nat) : List Nat := t.take p ++ c :: t.drop p
theorem ins_len {t : List Nat} {p c : Nat} : (ins t p c).length = t.length + 1 := by
  unfold ins
  rw [List.length_append, List.length_cons, List.length_take, List.length_drop]
  omega
theorem ins_at {t : List Nat} {p c i : Nat} (hp : p ≤ t.length) : (ins t p c).getD i 0 = if i < p then t.getD i 0 else if i = p then c else t.getD (i - 1) 0 := by
  unfold ins
  simp only [List.getD_eq_getElem?_getD]
  have hl : (t.take p).length = p := by rw [List.length_take]; omega
  by_cases h1 : i < p
  · rw [if_pos h1, List.getElem?_append_left (by omega), List.getElem?_take_of_lt h1]
  · rw [if_neg h1, List.getElem?_append_right (by omega), hl]
    by_cases h2 : i = p
    · rw [if_pos h2, h2, Nat.sub_self]; rfl
    · rw [if_neg h2]
      obtain ⟨k, hk⟩ : ∃ k, i - p = k + 1 := ⟨i - p - 1, by omega⟩
      rw [hk, List.getElem?_cons_succ, List.getElem?_drop]
      congr 2
      omega
theorem ins_app {s t : List Nat} {c : Nat} : ins (s ++ t) s.length c = s ++ c :: t := by
  unfold ins
  rw [List.take_left, List.drop_left]
theorem lst.nat {f : Nat → Int32} {l : List Nat} (h : ∀ i, i < l.length → f i = nI (l.getD i 0)) : lst f (l.map nI) := fun i hi => by
  rw [List.length_map] at hi
  rw [h i hi]
  simp [List.getD_eq_getElem?_getD, hi]
theorem dv10 : ∀ n, n < 100 → nI n / nI 10 = nI (n / 10) ∧ nI n - nI n / nI 10 * nI 10 = nI (n % 10) := by decide
section S4
variable {R : azP} {d n z : Nat} {kd : azK} {I : azI} {J : azJ} {F : azR} {Q : azQ} {a b : Nat} {t : List Nat}
theorem S_write (hR : azClosed R) (hM : PpOk kd F a) (hc : cP I a t) (hl : t.length < 256) {c : Nat} (h : ∀ I', cP I' a (t ++ [c]) → (∀ b, b ≠ a → b ≠ a + 1 → I' b = I b) → Q none ((n, z, kd), I', J, F)) : R d mX4_write 0 [.ref a, .int (nI c)] [] ((n, z, kd), I, J, F) Q := by
  obtain ⟨k0, k1, k2, k3, f0, f1, f2⟩ := hM
  obtain ⟨c1, c2⟩ := hc
  refine BX4_write_0 hR ?_
  simp (disch := omega) only [nI_ad, nI_ml, nI_lti, nI_lei, nI_eqi, nI_nn, nI_0le, nI_eq0, nI_0lt, nI_le0, nI_clamp, nI_pd, nI_sb, zOf_some, zOp_some, zOp_none, kI_int, kL_long, kO_ref, kO_null, nlt_T, nlt_F, nle_T, nle_F, neq_F, vpT, azUp_at, if_true, if_false, true_and, and_true, true_implies, false_implies, implies_true, not_true_eq_false, not_false_eq_true, true_or, or_true, false_or, or_false, and_false, false_and, eq_self, n01_0, n01_1, nm1_0, k0, f0, k1, c1, @azUp_nb _ (a + 1) a]
  refine h _ ⟨?_, ?_⟩ fun b h1 h2 => ?_
  · rw [azUp_s, List.length_append]; rfl
  · rw [azUp_nb (by omega), List.map_append]
    refine c2.add ?_ fun i hi => ?_
    · rw [List.length_map, azUp_s]
    · rw [List.length_map] at hi
      rw [azUp_nk hi]
  · rw [azUp_nb h1, azUp_nb h2]
theorem S_writeNumber (hR : azClosed R) (hM : PpOk kd F a) (hc : cP I a t) {k : Nat} (hk : k < 100) (hl : t.length + (numTx k).length ≤ 256) (h : ∀ I', cP I' a (t ++ numTx k) → (∀ b, b ≠ a → b ≠ a + 1 → I' b = I b) → Q none ((n, z, kd), I', J, F)) : R (d + 1) mX4_writeNumber 0 [.ref a, .int (nI k)] [] ((n, z, kd), I, J, F) Q := by
  obtain ⟨d1, d2⟩ := dv10 k hk
  refine BX4_writeNumber_0 hR ?_
  have k0 := hM.1
  have ten : ¬ nI 10 = 0 := by decide
  rw [d2, d1, nI_ad, nI_ad]
  unfold numTx at hl h
  by_cases c : k < 10
  · rw [if_pos c] at hl h
    simp (disch := omega) only [nI_ad, nI_ml, nI_lti, nI_lei, nI_eqi, nI_nn, nI_0le, nI_eq0, nI_0lt, nI_le0, nI_clamp, nI_pd, nI_sb, zOf_some, zOp_some, zOp_none, kI_int, kL_long, kO_ref, kO_null, nlt_T, nlt_F, nle_T, nle_F, neq_F, vpT, azUp_at, if_true, if_false, true_and, and_true, true_implies, false_implies, implies_true, not_true_eq_false, not_false_eq_true, true_or, or_true, false_or, or_false, and_false, false_and, eq_self, n01_0, n01_1, nm1_0, c, k0, ten]
    rw [show k % 10 = k by omega]
    exact S_write hR hM hc (by simp at hl; omega) fun I' h1 h2 => ⟨rfl, h I' h1 h2⟩
  · rw [if_neg c] at hl h
    simp (disch := omega) only [nI_ad, nI_ml, nI_lti, nI_lei, nI_eqi, nI_nn, nI_0le, nI_eq0, nI_0lt, nI_le0, nI_clamp, nI_pd, nI_sb, zOf_some, zOp_some, zOp_none, kI_int, kL_long, kO_ref, kO_null, nlt_T, nlt_F, nle_T, nle_F, neq_F, vpT, azUp_at, if_true, if_false, true_and, and_true, true_implies, false_implies, implies_true, not_true_eq_false, not_false_eq_true, true_or, or_true, false_or, or_false, and_false, false_and, eq_self, n01_0, n01_1, nm1_0, c, k0, ten]
    refine S_write hR hM hc (by simp at hl; omega) fun I' h1 h2 => ⟨rfl, ?_⟩
    simp (disch := omega) only [nI_ad, nI_ml, nI_lti, nI_lei, nI_eqi, nI_nn, nI_0le, nI_eq0, nI_0lt, nI_le0, nI_clamp, nI_pd, nI_sb, zOf_some, zOp_some, zOp_none, kI_int, kL_long, kO_ref, kO_null, nlt_T, nlt_F, nle_T, nle_F, neq_F, vpT, azUp_at, if_true, if_false, true_and, and_true, true_implies, false_implies, implies_true, not_true_eq_false, not_false_eq_true, true_or, or_true, false_or, or_false, and_false, false_and, eq_self, n01_0, n01_1, nm1_0, k0]
    refine S_write hR hM h1 (by simp at hl ⊢; omega) fun I'' g1 g2 => ⟨rfl, ?_⟩
    refine h I'' (by rw [List.append_assoc] at g1; exact g1) fun b h3 h4 => by rw [g2 b h3 h4, h2 b h3 h4]
theorem S_insert (hR : azClosed R) (hM : PpOk kd F a) (hc : cP I a t) (hl : t.length < 256) {p c : Nat} (hp : p ≤ t.length) (h : ∀ I', cP I' a (ins t p c) → (∀ b, b ≠ a → b ≠ a + 1 → I' b = I b) → Q none ((n, z, kd), I', J, F)) : R d mX4_insert 0 [.ref a, .int (nI p), .int (nI c), .retAddr 0] [] ((n, z, kd), I, J, F) Q := by
  obtain ⟨k0, k1, k2, k3, f0, f1, f2⟩ := hM
  obtain ⟨c1, c2⟩ := hc
  have main : ∀ s k (I1 : azI), s + p = k → k ≤ t.length → (∀ b, b ≠ a + 1 → I1 b = I b) → (∀ i, i ≤ t.length → I1 (a + 1) i = if i ≤ k then I (a + 1) i else I (a + 1) (i - 1)) → R d mX4_insert 28 [.ref a, .int (nI p), .int (nI c), .int (nI k)] [] ((n, z, kd), I1, J, F) Q := by
    intro s
    induction s with
    | zero =>
      intro k I1 hs hk hf hi
      obtain rfl : p = k := by omega
      have e3 : I1 a 3 = nI t.length := by rw [hf a (by omega)]; exact c1
      refine BX4_insert_28 hR ?_
      simp (disch := omega) only [nI_ad, nI_ml, nI_lti, nI_lei, nI_eqi, nI_nn, nI_0le, nI_eq0, nI_0lt, nI_le0, nI_clamp, nI_pd, nI_sb, zOf_some, zOp_some, zOp_none, kI_int, kL_long, kO_ref, kO_null, nlt_T, nlt_F, nle_T, nle_F, neq_F, vpT, azUp_at, if_true, if_false, true_and, and_true, true_implies, false_implies, implies_true, not_true_eq_false, not_false_eq_true, true_or, or_true, false_or, or_false, and_false, false_and, eq_self, n01_0, n01_1, nm1_0, k0, f0, k1, e3, @azUp_nb _ (a + 1) a]
      refine h _ ⟨?_, lst.nat fun i hi2 => ?_⟩ fun b h1 h2 => ?_
      · rw [azUp_s, ins_len]
      · rw [ins_len] at hi2
        rw [azUp_nb (by omega), ins_at hp]
        by_cases e1 : i = p
        · subst e1
          rw [azUp_s, if_neg (by omega), if_pos rfl]
        · rw [azUp_nk e1, hi i (by omega)]
          by_cases e2 : i < p
          · rw [if_pos (by omega), if_pos e2, c2.get (by omega)]
          · rw [if_neg (by omega), if_neg e2, if_neg e1, c2.get (by omega)]
      · rw [azUp_nb h1, azUp_nb h2, hf b h2]
    | succ s ih =>
      intro k I1 hs hk hf hi
      refine BX4_insert_28 hR ?_
      simp (disch := omega) only [nI_ad, nI_ml, nI_lti, nI_lei, nI_eqi, nI_nn, nI_0le, nI_eq0, nI_0lt, nI_le0, nI_clamp, nI_pd, nI_sb, zOf_some, zOp_some, zOp_none, kI_int, kL_long, kO_ref, kO_null, nlt_T, nlt_F, nle_T, nle_F, neq_F, vpT, azUp_at, if_true, if_false, true_and, and_true, true_implies, false_implies, implies_true, not_true_eq_false, not_false_eq_true, true_or, or_true, false_or, or_false, and_false, false_and, eq_self, n01_0, n01_1, nm1_0, k0, f0, k1]
      refine ih (k - 1) _ (by omega) (by omega) (fun b hb => by rw [azUp_nb hb]; exact hf b hb) fun i hi2 => ?_
      by_cases e1 : i = k
      · subst e1
        rw [azUp_s, if_neg (by omega), hi (i - 1) (by omega), if_pos (by omega)]
      · rw [azUp_nk e1, hi i hi2]
        by_cases e2 : i ≤ k - 1
        · rw [if_pos e2, if_pos (by omega)]
        · rw [if_neg e2, if_neg (by omega)]
  refine BX4_insert_0 hR ?_
  simp (disch := omega) only [nI_ad, nI_ml, nI_lti, nI_lei, nI_eqi, nI_nn, nI_0le, nI_eq0, nI_0lt, nI_le0, nI_clamp, nI_pd, nI_sb, zOf_some, zOp_some, zOp_none, kI_int, kL_long, kO_ref, kO_null, nlt_T, nlt_F, nle_T, nle_F, neq_F, vpT, azUp_at, if_true, if_false, true_and, and_true, true_implies, false_implies, implies_true, not_true_eq_false, not_false_eq_true, true_or, or_true, false_or, or_false, and_false, false_and, eq_self, n01_0, n01_1, nm1_0, k0, c1]
  exact main (t.length - p) t.length I (by omega) (Nat.le_refl _) (fun _ _ => rfl) fun i hi => by rw [if_pos hi]
end S4
