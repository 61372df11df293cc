/-! THE REFERENCE: spell, the whole. -/
section S9
variable {R : azP} {d n z : Nat} {kd : azK} {I : azI} {J : azJ} {F : azR} {Q : azQ} {t : List Nat} {cs : List Cls} {x1 : Int32} {st : St} {σ : azS}
theorem numTx_1 {c : Nat} (h : isFg c = true) : numTx (c - 48) = [c] := by
  have := isFg_b h
  unfold numTx
  rw [if_pos (by omega), show 48 + (c - 48) = c by omega]
theorem clShow_0 (p w : Nat) : clShow (0, p, w, []) = [105, 110, 32] ++ numTx p ++ [32, 120 + w] := by simp [clShow, wTx]
theorem clShow_1 (l : List Ex) : clShow (1, 0, 0, l) = [105, 102, 32] ++ exShow (cEx (1, 0, 0, l)) := by simp [clShow, wTx]
theorem clShow_2 (p : Nat) (e : Ex) : clShow (2, p, 0, [e]) = [111, 117, 116, 32] ++ numTx p ++ [32] ++ exShow e := by
  have : cEx (2, p, 0, [e]) = e := rfl
  simp [clShow, wTx, this]
theorem clShow_3 (p : Nat) : clShow (3, p, 0, []) = [101, 109, 112, 116, 121, 32] ++ numTx p := by simp [clShow, wTx]
theorem S_plain9 (hR : azClosed R) (hK : MdOk kd F) (htk : tOK t) (hx : txt I t) {i q s : Nat} {g l : List Nat} {w3 w4 w5 w6 : Value} (hi : i < t.length) (hi1 : i + 1 < t.length) (hql : q ≤ t.length) (hs : q = t.length ∨ tb t q = 59) (hg : cP9 I g) (hgl : g.length ≤ i) (hs' : i + s = q) (ecl : l = slc t i s) (hb : ∀ y, i ≤ y → y < q → tb t y ≠ 59) (n1 : tb t i ≠ 111) (n2 : tb t i = 105 → tb t (i + 1) ≠ 102) (h : ∀ I' x3 x4 x5 x6, frP9 I I' → cP9 I' (g ++ l) → R (d + 83) mX9_spell 255 [.ref 228, .int x1, .int (nI q), .int x3, .int x4, .int x5, .int x6] [] ((n, z, kd), I', J, F) Q) : R (d + 83) mX9_spell 27 [.ref 228, .int x1, .int (nI i), w3, w4, w5, w6] [] ((n, z, kd), I, J, F) Q := by
  have ⟨k0, ⟨_, _, _, _, _, k225, _⟩, _, ⟨_, _, _, _, _, f9, _⟩, _⟩ := id hK
  have ht := htk.1
  have eli : I 234 i = nI (tb t i) := hx.2.get hi
  have eli1 : I 234 (i + 1) = nI (tb t (i + 1)) := hx.2.get hi1
  have hbi := tb_lt htk (i := i)
  have hbi1 := tb_lt htk (i := i + 1)
  have v : R (d + 83) mX9_spell 107 [.ref 228, .int x1, .int (nI i), .int (nI 0), .int (nI 0), .int (nI 0), .int (nI 0)] [] ((n, z, kd), I, J, F) Q := by
    refine BX9_spell_107 hR ?_
    simp (disch := omega) only [nI_ad, nI_ml, nI_lti, nI_lei, nI_eqi, nI_nn, nI_0le, nI_eq0, nI_0lt, nI_le0, nI_clamp, nI_pd, nI_sb, zOf_some, zOp_some, zOp_none, kI_int, kL_long, kO_ref, kO_null, nlt_T, nlt_F, nle_T, nle_F, neq_F, vpT, azUp_at, if_true, if_false, true_and, and_true, true_implies, false_implies, implies_true, not_true_eq_false, not_false_eq_true, true_or, or_true, false_or, or_false, and_false, false_and, eq_self, n01_0, n01_1, nm1_0, Nat.add_zero]
    refine BX9_spell_138 hR ?_
    simp (disch := omega) only [nI_ad, nI_ml, nI_lti, nI_lei, nI_eqi, nI_nn, nI_0le, nI_eq0, nI_0lt, nI_le0, nI_clamp, nI_pd, nI_sb, zOf_some, zOp_some, zOp_none, kI_int, kL_long, kO_ref, kO_null, nlt_T, nlt_F, nle_T, nle_F, neq_F, vpT, azUp_at, if_true, if_false, true_and, and_true, true_implies, false_implies, implies_true, not_true_eq_false, not_false_eq_true, true_or, or_true, false_or, or_false, and_false, false_and, eq_self, n01_0, n01_1, nm1_0]
    refine S_verb9 (d := d + 82) hR hK htk hx hql hs s i g I (by omega) hb frP9.refl hg (by omega) fun I' u1 u2 => ?_
    exact h I' _ _ _ _ u1 (by rw [ecl]; exact u2)
  have v80 : ∀ w4 w5 w6, R (d + 83) mX9_spell 80 [.ref 228, .int x1, .int (nI i), .int (nI 0), w4, w5, w6] [] ((n, z, kd), I, J, F) Q := fun w4 w5 w6 => by
    refine BX9_spell_80 hR ?_
    simp (disch := omega) only [nI_ad, nI_ml, nI_lti, nI_lei, nI_eqi, nI_nn, nI_0le, nI_eq0, nI_0lt, nI_le0, nI_clamp, nI_pd, nI_sb, zOf_some, zOp_some, zOp_none, kI_int, kL_long, kO_ref, kO_null, nlt_T, nlt_F, nle_T, nle_F, neq_F, vpT, azUp_at, if_true, if_false, true_and, and_true, true_implies, false_implies, implies_true, not_true_eq_false, not_false_eq_true, true_or, or_true, false_or, or_false, and_false, false_and, eq_self, n01_0, n01_1, nm1_0]
    exact v
  refine BX9_spell_27 hR ?_
  by_cases c105 : tb t i = 105
  · have n2 := n2 c105
    simp (disch := omega) only [nI_ad, nI_ml, nI_lti, nI_lei, nI_eqi, nI_nn, nI_0le, nI_eq0, nI_0lt, nI_le0, nI_clamp, nI_pd, nI_sb, zOf_some, zOp_some, zOp_none, kI_int, kL_long, kO_ref, kO_null, nlt_T, nlt_F, nle_T, nle_F, neq_F, vpT, azUp_at, if_true, if_false, true_and, and_true, true_implies, false_implies, implies_true, not_true_eq_false, not_false_eq_true, true_or, or_true, false_or, or_false, and_false, false_and, eq_self, n01_0, n01_1, nm1_0, k0, hx.1, f9, k225, eli, eli1, c105, n2]
    exact v80 _ _ _
  · simp (disch := omega) only [nI_ad, nI_ml, nI_lti, nI_lei, nI_eqi, nI_nn, nI_0le, nI_eq0, nI_0lt, nI_le0, nI_clamp, nI_pd, nI_sb, zOf_some, zOp_some, zOp_none, kI_int, kL_long, kO_ref, kO_null, nlt_T, nlt_F, nle_T, nle_F, neq_F, vpT, azUp_at, if_true, if_false, true_and, and_true, true_implies, false_implies, implies_true, not_true_eq_false, not_false_eq_true, true_or, or_true, false_or, or_false, and_false, false_and, eq_self, n01_0, n01_1, nm1_0, k0, hx.1, f9, k225, eli, n1, c105]
    exact v80 _ _ _
theorem S_cl9 (hR : azClosed R) (hK : MdOk kd F) (htk : tOK t) (hx : txt I t) {i : Nat} {x : Cls × Nat} {g : List Nat} {w3 w4 w5 w6 : Value} (hp : pCl t cs i = .ok x) (hi : i < t.length) (hs : x.2 = t.length ∨ tb t x.2 = 59) (hg : cP9 I g) (hgl : g.length ≤ i) (h : ∀ I' x3 x4 x5 x6, frP9 I I' → cP9 I' (g ++ clShow x.1) → R (d + 83) mX9_spell 255 [.ref 228, .int x1, .int (nI x.2), .int x3, .int x4, .int x5, .int x6] [] ((n, z, kd), I', J, F) Q) : R (d + 83) mX9_spell 27 [.ref 228, .int x1, .int (nI i), w3, w4, w5, w6] [] ((n, z, kd), I, J, F) Q := by
  have ⟨k0, ⟨_, _, _, _, _, k225, _⟩, _, ⟨_, _, _, _, _, f9, _⟩, _⟩ := id hK
  have ht := htk.1
  have hxl := pCl_le (by omega) hp
  have hpk := pgK_cl (cs := cs) (t := t) (i := i) (by omega)
  rw [hp] at hpk
  have hx6 : i + 6 ≤ x.2 := hpk.1
  clear hpk
  have hk4 := (kOf_len (t := t) (b := i) (e := wEnd t 80 i)).1
  have hi1 : i + 1 < t.length := by omega
  have hki := kOf_iff (t := t) (b := i) (e := wEnd t 80 i)
  have el : ∀ y, y < t.length → I 234 y = nI (tb t y) := fun y hy => hx.2.get hy
  have eli := el i hi
  have eli1 := el (i + 1) (by omega)
  have hbi := tb_lt htk (i := i)
  have hbi1 := tb_lt htk (i := i + 1)
  have n10 : ¬ nI 1 = 0 := by decide
  unfold pCl at hp
  generalize hE : wEnd t 80 i = E at *
  by_cases c0 : kOf t i E = 4 ∨ (kOf t i E = 0 ∧ 3 ≤ nTk cs) ∨ (kOf t i E = 2 ∧ 3 ≤ nGv cs)
  · rw [if_pos c0] at hp; cases hp
  rw [if_neg c0] at hp
  by_cases c1 : tb t E ≠ 32
  · rw [if_pos c1] at hp; cases hp
  rw [if_neg c1] at hp
  have c1 := Classical.not_not.mp c1
  by_cases ck1 : kOf t i E = 1
  · -- if
    rw [if_pos ck1] at hp
    obtain ⟨y, hy, hp⟩ := pb_inv hp
    cases hp
    obtain ⟨rfl, b0, b1⟩ := hki.2.1.mp ck1
    clear hki c0 ck1 hk4
    have hsl := sl_cs (kb := knB cs) (t := t) (k := i + 3) 79 [] (i + 3) (by simp [fL])
    have hy' : pCs (knB cs) t 79 [] (i + 3) = .ok y := hy
    rw [hy'] at hsl
    have es : slc t (i + 0) 3 = [105, 102, 32] := by
      rw [slc_succ, slc_succ, slc_succ, Nat.add_zero, b0, b1, c1]; rfl
    have ecl : clShow (1, 0, 0, y.1) = [105, 102, 32] ++ fS y.1 := by
      rw [clShow_1]
      have : exShow (cEx (1, 0, 0, y.1)) = fS y.1 := by
        have h1 := hsl.1
        revert h1
        unfold cEx fS
        cases y.1 with
        | nil => intro h; exact absurd rfl h
        | cons a l => intro _; rfl
      rw [this]
    refine BX9_spell_27 hR ?_
    simp (disch := omega) only [nI_ad, nI_ml, nI_lti, nI_lei, nI_eqi, nI_nn, nI_0le, nI_eq0, nI_0lt, nI_le0, nI_clamp, nI_pd, nI_sb, zOf_some, zOp_some, zOp_none, kI_int, kL_long, kO_ref, kO_null, nlt_T, nlt_F, nle_T, nle_F, neq_F, vpT, azUp_at, if_true, if_false, true_and, and_true, true_implies, false_implies, implies_true, not_true_eq_false, not_false_eq_true, true_or, or_true, false_or, or_false, and_false, false_and, eq_self, n01_0, n01_1, nm1_0, k0, hx.1, f9, k225, eli, eli1, b0, b1, n10]
    refine S_head9 (d := d + 82) hR hK htk hx (k := i) (h0 := 3) (by omega) 3 0 g I rfl frP9.refl hg (by omega) fun I1 u1 u2 => ?_
    rw [es] at u2
    refine S_cnds9 hR hK htk (k := i + 3) (g0 := g ++ [105, 102, 32]) (by rw [List.length_append, List.length_cons, List.length_cons, List.length_cons, List.length_nil]; omega) 79 [] (i + 3) I1 _ y hy' (by omega) hxl hs (by simp [fL]) (u1.txt hx) (by
      have : fS [] = [] := rfl
      rw [this, if_pos rfl, List.append_nil, List.append_nil]; exact u2) fun I2 x6' v1 v2 => ?_
    refine S_fin9 (d := d + 82) hR hK htk ((u1.trans v1).txt hx) (by decide) (by decide) hxl hs ?_
    refine h I2 _ _ _ _ (u1.trans v1) ?_
    rw [ecl, ← List.append_assoc]
    exact v2
  rw [if_neg ck1] at hp
  by_cases c2 : isFg (tb t (E + 1)) = false
  · rw [if_pos c2] at hp; cases hp
  rw [if_neg c2] at hp
  have c2 : isFg (tb t (E + 1)) = true := by simpa using c2
  have c2b := isFg_b c2
  -- copied as it is
  have plain : ∀ s, i + s = x.2 → clShow x.1 = slc t i s → (∀ y, i ≤ y → y < x.2 → tb t y ≠ 59) → tb t i ≠ 111 → (tb t i = 105 → tb t (i + 1) ≠ 102) → R (d + 83) mX9_spell 27 [.ref 228, .int x1, .int (nI i), w3, w4, w5, w6] [] ((n, z, kd), I, J, F) Q := fun s e1 e2 e3 e4 e5 => S_plain9 hR hK htk hx hi hi1 hxl hs hg hgl e1 e2 e3 e4 e5 h
  by_cases ck3 : kOf t i E = 3
  · -- empty
    rw [if_pos ck3] at hp
    cases hp
    obtain ⟨rfl, b0, b1, b2, b3, b4⟩ := hki.2.2.2.mp ck3
    clear hki c0 ck1 ck3 hk4
    refine plain 7 rfl ?_ (fun y y1 y2 => ?_) (by omega) (by omega)
    · rw [clShow_3, numTx_1 c2, slc_succ, slc_succ, slc_succ, slc_succ, slc_succ, slc_succ, slc_succ, b0, b1, b2, b3, b4, c1]
      rfl
    · have y2 : y < i + 5 + 2 := y2
      rcases (by omega : y = i ∨ y = i + 1 ∨ y = i + 2 ∨ y = i + 3 ∨ y = i + 4 ∨ y = i + 5 ∨ y = i + 5 + 1) with e | e | e | e | e | e | e <;> rw [e] <;> omega
  rw [if_neg ck3] at hp
  by_cases c3 : tb t (E + 2) ≠ 32
  · rw [if_pos c3] at hp; cases hp
  rw [if_neg c3] at hp
  have c3 := Classical.not_not.mp c3
  by_cases ck0 : kOf t i E = 0
  · -- in
    rw [if_pos ck0] at hp
    by_cases c4 : 120 ≤ tb t (E + 3) ∧ tb t (E + 3) ≤ 122
    · rw [if_pos c4] at hp
      cases hp
      obtain ⟨rfl, b0, b1⟩ := hki.1.mp ck0
      clear hki c0 ck1 ck3 ck0 hk4
      refine plain 6 rfl ?_ (fun y y1 y2 => ?_) (by omega) (by omega)
      · rw [clShow_0, numTx_1 c2, slc_succ, slc_succ, slc_succ, slc_succ, slc_succ, slc_succ, b0, b1, c1, show i + 1 + 1 + 1 + 1 = i + 2 + 2 by omega, c3, show 120 + (tb t (i + 2 + 3) - 120) = tb t (i + 2 + 3) by omega]
        rfl
      · have y2 : y < i + 2 + 4 := y2
        rcases (by omega : y = i ∨ y = i + 1 ∨ y = i + 2 ∨ y = i + 2 + 1 ∨ y = i + 2 + 2 ∨ y = i + 2 + 3) with e | e | e | e | e | e <;> rw [e] <;> omega
    · rw [if_neg c4] at hp; cases hp
  rw [if_neg ck0] at hp
  -- out
  have ck2 : kOf t i E = 2 := by omega
  obtain ⟨y, hy, hp⟩ := pb_inv hp
  cases hp
  obtain ⟨rfl, b0, b1, b2⟩ := hki.2.2.1.mp ck2
  clear hki c0 ck1 ck3 ck0 hk4 ck2 plain
  have py := PG_X (kb := knB cs) (t := t) (i + 3 + 3) (by omega)
  rw [hy] at py
  have sy := sg_X (kb := knB cs) (t := t) (i + 3 + 3)
  rw [hy] at sy
  obtain ⟨sy1, sy2⟩ := sy
  obtain ⟨py1, py2, py3, _⟩ := py
  have es : slc t (i + 0) 6 = [111, 117, 116, 32, tb t (i + 3 + 1), 32] := by
    rw [slc_succ, slc_succ, slc_succ, slc_succ, slc_succ, slc_succ, Nat.add_zero, b0, b1, b2, c1, show i + 1 + 1 + 1 + 1 + 1 = i + 3 + 2 by omega, c3]; rfl
  have ecl : clShow (2, tb t (i + 3 + 1) - 48, 0, [y.1]) = [111, 117, 116, 32, tb t (i + 3 + 1), 32] ++ exShow y.1 := by
    rw [clShow_2, numTx_1 c2]
    rfl
  refine BX9_spell_27 hR ?_
  simp (disch := omega) only [nI_ad, nI_ml, nI_lti, nI_lei, nI_eqi, nI_nn, nI_0le, nI_eq0, nI_0lt, nI_le0, nI_clamp, nI_pd, nI_sb, zOf_some, zOp_some, zOp_none, kI_int, kL_long, kO_ref, kO_null, nlt_T, nlt_F, nle_T, nle_F, neq_F, vpT, azUp_at, if_true, if_false, true_and, and_true, true_implies, false_implies, implies_true, not_true_eq_false, not_false_eq_true, true_or, or_true, false_or, or_false, and_false, false_and, eq_self, n01_0, n01_1, nm1_0, k0, hx.1, f9, k225, eli, b0]
  refine BX9_spell_80 hR ?_
  simp (disch := omega) only [nI_ad, nI_ml, nI_lti, nI_lei, nI_eqi, nI_nn, nI_0le, nI_eq0, nI_0lt, nI_le0, nI_clamp, nI_pd, nI_sb, zOf_some, zOp_some, zOp_none, kI_int, kL_long, kO_ref, kO_null, nlt_T, nlt_F, nle_T, nle_F, neq_F, vpT, azUp_at, if_true, if_false, true_and, and_true, true_implies, false_implies, implies_true, not_true_eq_false, not_false_eq_true, true_or, or_true, false_or, or_false, and_false, false_and, eq_self, n01_0, n01_1, nm1_0, n10]
  refine S_head9 (d := d + 82) hR hK htk hx (k := i) (h0 := 6) (by omega) 6 0 g I rfl frP9.refl hg (by omega) fun I1 u1 u2 => ?_
  rw [es] at u2
  have hst : stB t y.2 := by
    rcases hs with hs | hs
    · exact Or.inl hs
    · exact Or.inr (Or.inl hs)
  refine S_seg9 hR hK htk (u1.txt hx) (h0 := 6) (by decide) (by decide) (pX_sg _ _ hy) (by omega) py2 hst u2 (by
    simp only [List.length_append, List.length_cons, List.length_nil]; omega) (fun _ I2 v1 v2 => ?_) fun w1 w2 I2 _ _ => ?_
  · refine S_fin9 (d := d + 82) hR hK htk ((u1.trans v1).txt hx) (by decide) (by decide) hxl hs ?_
    refine h I2 _ _ _ _ (u1.trans v1) ?_
    rw [ecl, ← List.append_assoc]
    exact v2
  · exfalso
    rcases hs with hs | hs
    · dsimp only at hs; omega
    · exact w2 hs
theorem S_rl9 (hR : azClosed R) (hK : MdOk kd F) (htk : tOK t) {cs' : List Cls} (hQ : ∀ I', frP9 I I' → cP9 I' (rShow cs') → Q (some (.int (nI (rShow cs').length))) ((n, z, kd), I', J, F)) : ∀ (m : Nat) (cs : List Cls) (i : Nat) (I1 : azI) (w3 w4 w5 w6 : Value), pR t m cs i = .ok cs' → i < t.length ∨ m = 0 ∨ i ≤ t.length → (rShow cs).length + (if cs = [] then 0 else 1) ≤ i → i ≤ t.length → txt I1 t → frP9 I I1 → cP9 I1 (rShow cs ++ if cs = [] then [] else [59]) → R (d + 83) mX9_spell 27 [.ref 228, .int x1, .int (nI i), w3, w4, w5, w6] [] ((n, z, kd), I1, J, F) Q := by
  have k0 := hK.1
  have ht := htk.1
  intro m
  induction m with
  | zero => intro cs i I1 w3 w4 w5 w6 e; cases e
  | succ m ih =>
    intro cs i I1 w3 w4 w5 w6 e _ hl hi hx hf hg
    have e1 : pR t (m + 1) cs i = pb (pCl t cs i) fun x => if t.length ≤ x.2 then (if nTk (cs ++ [x.1]) = 0 then .error t.length else .ok (cs ++ [x.1])) else if tb t x.2 = 59 then pR t m (cs ++ [x.1]) (x.2 + 1) else .error x.2 := rfl
    rw [e1] at e
    obtain ⟨x, hp, e⟩ := pb_inv e
    have hxl := pCl_le hi hp
    have hpk := pgK_cl (cs := cs) (t := t) (i := i) hi
    rw [hp] at hpk
    have hx6 : i + 6 ≤ x.2 := hpk.1
    have sk := sk_cl (t := t) (cs := cs) (i := i)
    rw [hp] at sk
    have sk : (clShow x.1).length + i ≤ x.2 := sk
    have ea := rShow_add cs x.1
    have es : (if cs = [] then ([] : List Nat) else [59]).length = if cs = [] then 0 else 1 := by split <;> rfl
    by_cases c1 : t.length ≤ x.2
    · rw [if_pos c1] at e
      by_cases c2 : nTk (cs ++ [x.1]) = 0
      · rw [if_pos c2] at e; cases e
      rw [if_neg c2] at e
      cases e
      have ex : x.2 = t.length := by omega
      refine S_cl9 hR hK htk hx hp (by omega) (Or.inl ex) hg (by rw [List.length_append, es]; exact hl) fun I2 x3 x4 x5 x6 u1 u2 => ?_
      have hx2 := u1.txt hx
      rw [← ea] at u2
      have := hQ I2 (hf.trans u1) u2
      refine BX9_spell_255 hR ?_
      rw [ex]
      simp (disch := omega) only [nI_ad, nI_ml, nI_lti, nI_lei, nI_eqi, nI_nn, nI_0le, nI_eq0, nI_0lt, nI_le0, nI_clamp, nI_pd, nI_sb, zOf_some, zOp_some, zOp_none, kI_int, kL_long, kO_ref, kO_null, nlt_T, nlt_F, nle_T, nle_F, neq_F, vpT, azUp_at, if_true, if_false, true_and, and_true, true_implies, false_implies, implies_true, not_true_eq_false, not_false_eq_true, true_or, or_true, false_or, or_false, and_false, false_and, eq_self, n01_0, n01_1, nm1_0, k0, hx2.1]
      refine BX9_spell_27 hR ?_
      simp (disch := omega) only [nI_ad, nI_ml, nI_lti, nI_lei, nI_eqi, nI_nn, nI_0le, nI_eq0, nI_0lt, nI_le0, nI_clamp, nI_pd, nI_sb, zOf_some, zOp_some, zOp_none, kI_int, kL_long, kO_ref, kO_null, nlt_T, nlt_F, nle_T, nle_F, neq_F, vpT, azUp_at, if_true, if_false, true_and, and_true, true_implies, false_implies, implies_true, not_true_eq_false, not_false_eq_true, true_or, or_true, false_or, or_false, and_false, false_and, eq_self, n01_0, n01_1, nm1_0, k0, hx2.1, u2.1]
      exact this
    · rw [if_neg c1] at e
      by_cases c2 : tb t x.2 = 59
      · rw [if_pos c2] at e
        refine S_cl9 hR hK htk hx hp (by omega) (Or.inr c2) hg (by rw [List.length_append, es]; exact hl) fun I2 x3 x4 x5 x6 u1 u2 => ?_
        have hx2 := u1.txt hx
        rw [← ea] at u2
        have hln : (rShow (cs ++ [x.1])).length ≤ x.2 := by
          rw [ea, List.length_append, List.length_append, es]; omega
        refine BX9_spell_255 hR ?_
        simp (disch := omega) only [nI_ad, nI_ml, nI_lti, nI_lei, nI_eqi, nI_nn, nI_0le, nI_eq0, nI_0lt, nI_le0, nI_clamp, nI_pd, nI_sb, zOf_some, zOp_some, zOp_none, kI_int, kL_long, kO_ref, kO_null, nlt_T, nlt_F, nle_T, nle_F, neq_F, vpT, azUp_at, if_true, if_false, true_and, and_true, true_implies, false_implies, implies_true, not_true_eq_false, not_false_eq_true, true_or, or_true, false_or, or_false, and_false, false_and, eq_self, n01_0, n01_1, nm1_0, k0, hx2.1]
        refine S_writes9 hR hK u2 (by omega) fun I3 v1 v2 v3 => ⟨rfl, ?_⟩
        have hne : cs ++ [x.1] ≠ [] := by simp
        refine ih (cs ++ [x.1]) (x.2 + 1) I3 _ _ _ _ e (Or.inr (Or.inr (by omega))) (by rw [if_neg hne]; omega) (by omega) ((u1.trans ⟨v2, v3⟩).txt hx) ((hf.trans u1).trans ⟨v2, v3⟩) (by rw [if_neg hne]; exact v1)
      · rw [if_neg c2] at e; cases e
theorem S_mdSpell (hR : azClosed R) (hW : MW σ st) {x : Int32} (h : ∀ σ', MW σ' (aSpell st x).2 → mdF σ σ' → Q (some (.int (aSpell st x).1)) σ') : R (d + 83) mX9_spell 0 [.ref 228, .int x, .retAddr 0, .retAddr 0, .retAddr 0, .retAddr 0, .retAddr 0] [] σ Q := by
  obtain ⟨⟨n, z, kd⟩, I, J, F⟩ := σ
  obtain ⟨hK, hC, hS⟩ := id hW
  have hK : MdOk kd F := hK
  have hC : cMd I st := hC
  have k0 := hK.1
  refine BX9_spell_0 hR (S_isPlace9 hR ?_)
  unfold isP
  unfold aSpell at h
  rcases ix_cases x (n := 10) (by decide) with ⟨e, c⟩ | ⟨p, hp, rfl, e⟩
  · rw [e] at h ⊢
    simp (disch := omega) only [nI_ad, nI_ml, nI_lti, nI_lei, nI_eqi, nI_nn, nI_0le, nI_eq0, nI_0lt, nI_le0, nI_clamp, nI_pd, nI_sb, zOf_some, zOp_some, zOp_none, kI_int, kL_long, kO_ref, kO_null, nlt_T, nlt_F, nle_T, nle_F, neq_F, vpT, azUp_at, if_true, if_false, true_and, and_true, true_implies, false_implies, implies_true, not_true_eq_false, not_false_eq_true, true_or, or_true, false_or, or_false, and_false, false_and, eq_self, n01_0, n01_1, nm1_0]
    exact h _ hW mdF.refl
  rw [e] at h ⊢
  dsimp only at h
  simp (disch := omega) only [nI_ad, nI_ml, nI_lti, nI_lei, nI_eqi, nI_nn, nI_0le, nI_eq0, nI_0lt, nI_le0, nI_clamp, nI_pd, nI_sb, zOf_some, zOp_some, zOp_none, kI_int, kL_long, kO_ref, kO_null, nlt_T, nlt_F, nle_T, nle_F, neq_F, vpT, azUp_at, if_true, if_false, true_and, and_true, true_implies, false_implies, implies_true, not_true_eq_false, not_false_eq_true, true_or, or_true, false_or, or_false, and_false, false_and, eq_self, n01_0, n01_1, nm1_0, k0]
  refine S_readsRule9 (d := d + 58) hR hK hC.2.1 hS.2.1 hp (fun hr I1 g1 g2 _ => ?_) (fun t cs hr I1 g1 g2 _ hx hrd h12 h25 => ?_)
  · rw [hr] at h
    obtain ⟨w1, w2⟩ := hW.kp g1 (J' := J) fun _ _ => rfl
    simp (disch := omega) only [nI_ad, nI_ml, nI_lti, nI_lei, nI_eqi, nI_nn, nI_0le, nI_eq0, nI_0lt, nI_le0, nI_clamp, nI_pd, nI_sb, zOf_some, zOp_some, zOp_none, kI_int, kL_long, kO_ref, kO_null, nlt_T, nlt_F, nle_T, nle_F, neq_F, vpT, azUp_at, if_true, if_false, true_and, and_true, true_implies, false_implies, implies_true, not_true_eq_false, not_false_eq_true, true_or, or_true, false_or, or_false, and_false, false_and, eq_self, n01_0, n01_1, nm1_0]
    exact h _ w1 w2
  · rw [hr] at h
    dsimp only at h
    obtain ⟨u1, u2, u3⟩ := hS.2.1 p t cs hr
    have hlen := rShow_le u3
    have ht := u1.1
    have hc1 : cMd I1 st := hC.kp g1
    simp (disch := omega) only [nI_ad, nI_ml, nI_lti, nI_lei, nI_eqi, nI_nn, nI_0le, nI_eq0, nI_0lt, nI_le0, nI_clamp, nI_pd, nI_sb, zOf_some, zOp_some, zOp_none, kI_int, kL_long, kO_ref, kO_null, nlt_T, nlt_F, nle_T, nle_F, neq_F, vpT, azUp_at, if_true, if_false, true_and, and_true, true_implies, false_implies, implies_true, not_true_eq_false, not_false_eq_true, true_or, or_true, false_or, or_false, and_false, false_and, eq_self, n01_0, n01_1, nm1_0, k0]
    have hx0 : txt (azUp I1 228 27 (nI 0)) t := ⟨by rw [azUp_nk (by decide)]; exact hx.1, by rw [azUp_nb (by decide)]; exact hx.2⟩
    refine S_rl9 hR hK u1 (I := azUp I1 228 27 (nI 0)) (cs' := cs) (fun I' v1 v2 => ?_) 12 [] 0 _ _ _ _ _ u3 (Or.inr (Or.inr (Nat.zero_le _))) (Nat.le_refl _) (Nat.zero_le _) hx0 frP9.refl ⟨azUp_s, fun i hi => absurd hi (Nat.not_lt_zero _)⟩
    refine h _ (MW.mk hK (hc1.page (fun b b1 b2 => by rw [v1.1 b b1 (by omega), azUp_nb b1]) (fun j hj => by rw [v1.2 j (by omega), azUp_nk (by omega)]) v2) ⟨hS.1, hS.2.1, hS.2.2.1, by show (rShow cs).length ≤ 256; omega, hS.2.2.2.2⟩) (mdF_I (fun b hb => ?_) fun _ _ => rfl)
    rw [v1.1 b (by omega) (by omega), azUp_nb (by omega)]
    exact g1.1 b (by omega) (by omega)
end S9
