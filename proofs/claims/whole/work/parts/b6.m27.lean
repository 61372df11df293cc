/-! THE REFERENCE: bare, looseness, spells. -/
theorem lvS_le (s : Nat) : lvS s ≤ 2 := by unfold lvS; split <;> decide
theorem lvE_le (e : Ex) : lvE e ≤ 2 := by
  cases e with
  | leaf n => exact Nat.zero_le _
  | branch s a b => exact lvS_le s
theorem hof_lvS {s : Nat} (h : s = 42 ∨ s = 43 ∨ s = 45) : hof s = 4 - lvS s := by
  rcases h with rfl | rfl | rfl <;> rfl
theorem tgt_lvE {t : List Nat} {e : Ex} {i j : Nat} (h : co t e i j) : tgt e = 4 - lvE e := by
  cases e with
  | leaf n => rfl
  | branch s a b =>
    obtain ⟨k, _, h2, _⟩ := h
    exact hof_lvS h2
section S9
variable {R : azP} {d n z : Nat} {kd : azK} {I : azI} {J : azJ} {F : azR} {Q : azQ} {t : List Nat}
theorem S_bare9 (hR : azClosed R) (hK : MdOk kd F) (htk : tOK t) (hx : txt I t) {e : Ex} {w i j : Nat} (hj : j ≤ t.length) (hw : wr t w i j) (hc : co t e (i + w) (j - w)) (h : Q (some (.int (nI (i + w)))) ((n, z, kd), I, J, F)) : R (d + 1) mX9_bare 0 [.ref 228, .int (nI i), .int (nI j), .retAddr 0] [] ((n, z, kd), I, J, F) Q := by
  have ⟨k0, ⟨_, _, _, _, _, k225, _⟩, _, ⟨_, _, _, _, _, f9, _⟩, _⟩ := id hK
  have ht := htk.1
  have h1 := hw.1
  have hng := m1_ng
  have main : ∀ s y, s + y = w → R (d + 1) mX9_bare 2 [.ref 228, .int (nI i), .int (nI j), .int (nI (i + y))] [] ((n, z, kd), I, J, F) Q := by
    intro s
    induction s with
    | zero =>
      intro y hy
      obtain rfl : y = w := by omega
      have el : I 234 (i + y) = nI (tb t (i + y)) := hx.2.get (by omega)
      have hb := tb_lt htk (i := i + y)
      refine BX9_bare_2 hR ?_
      by_cases c : tb t (i + y) = 40
      · simp (disch := omega) only [nI_ad, nI_ml, nI_lti, nI_lei, nI_eqi, nI_nn, nI_0le, nI_eq0, nI_0lt, nI_le0, nI_clamp, nI_pd, nI_sb, zOf_some, zOp_some, zOp_none, kI_int, kL_long, kO_ref, kO_null, nlt_T, nlt_F, nle_T, nle_F, neq_F, vpT, azUp_at, if_true, if_false, true_and, and_true, true_implies, false_implies, implies_true, not_true_eq_false, not_false_eq_true, true_or, or_true, false_or, or_false, and_false, false_and, eq_self, n01_0, n01_1, nm1_0, k0, f9, k225, el, c]
        rw [show j - (i + y - i) = j - y by omega]
        have hc0 : co t e (i + y + 0) (j - y - 0) := by rw [Nat.add_zero, Nat.sub_zero]; exact hc
        refine S_sign9 hR hK htk hx (w := 0) (by omega) (wr0 (by omega)) hc0 (fun e => absurd rfl e) fun _ v hv => ?_
        revert hv
        cases e with
        | leaf m =>
          intro _
          exfalso
          rcases hc with ⟨_, e2, _⟩ | ⟨_, e2, _⟩ | ⟨_, e2, _⟩
          · have := isFg_b e2; omega
          · have := isFg_b e2; omega
          · omega
        | branch c' a b =>
          rintro ⟨k, k1, k2, _, rfl⟩
          simp (disch := omega) only [nI_ad, nI_ml, nI_lti, nI_lei, nI_eqi, nI_nn, nI_0le, nI_eq0, nI_0lt, nI_le0, nI_clamp, nI_pd, nI_sb, zOf_some, zOp_some, zOp_none, kI_int, kL_long, kO_ref, kO_null, nlt_T, nlt_F, nle_T, nle_F, neq_F, vpT, azUp_at, if_true, if_false, true_and, and_true, true_implies, false_implies, implies_true, not_true_eq_false, not_false_eq_true, true_or, or_true, false_or, or_false, and_false, false_and, eq_self, n01_0, n01_1, nm1_0]
          exact h
      · simp (disch := omega) only [nI_ad, nI_ml, nI_lti, nI_lei, nI_eqi, nI_nn, nI_0le, nI_eq0, nI_0lt, nI_le0, nI_clamp, nI_pd, nI_sb, zOf_some, zOp_some, zOp_none, kI_int, kL_long, kO_ref, kO_null, nlt_T, nlt_F, nle_T, nle_F, neq_F, vpT, azUp_at, if_true, if_false, true_and, and_true, true_implies, false_implies, implies_true, not_true_eq_false, not_false_eq_true, true_or, or_true, false_or, or_false, and_false, false_and, eq_self, n01_0, n01_1, nm1_0, k0, f9, k225, el, c]
        exact h
    | succ s ih =>
      intro y hy
      have hb := (hw.2 y (by omega)).1
      have el : I 234 (i + y) = nI (tb t (i + y)) := hx.2.get (by omega)
      have := ih (y + 1) (by omega)
      refine BX9_bare_2 hR ?_
      simp (disch := omega) only [nI_ad, nI_ml, nI_lti, nI_lei, nI_eqi, nI_nn, nI_0le, nI_eq0, nI_0lt, nI_le0, nI_clamp, nI_pd, nI_sb, zOf_some, zOp_some, zOp_none, kI_int, kL_long, kO_ref, kO_null, nlt_T, nlt_F, nle_T, nle_F, neq_F, vpT, azUp_at, if_true, if_false, true_and, and_true, true_implies, false_implies, implies_true, not_true_eq_false, not_false_eq_true, true_or, or_true, false_or, or_false, and_false, false_and, eq_self, n01_0, n01_1, nm1_0, k0, f9, k225, el, hb]
      rw [show j - (i + y - i) = j - y by omega]
      refine S_sign9 hR hK htk hx (e := e) (w := w - y) (by omega) ⟨by omega, fun q hq => ?_⟩ (by
        rw [show i + y + (w - y) = i + w by omega, show j - y - (w - y) = j - w by omega]; exact hc) (fun _ => ?_) fun e => by omega
      · obtain ⟨q1, q2⟩ := hw.2 (y + q) (by omega)
        rw [show i + y + q = i + (y + q) by omega, show j - y - 1 - q = j - 1 - (y + q) by omega]
        exact ⟨q1, q2⟩
      · simp (disch := omega) only [nI_ad, nI_ml, nI_lti, nI_lei, nI_eqi, nI_nn, nI_0le, nI_eq0, nI_0lt, nI_le0, nI_clamp, nI_pd, nI_sb, zOf_some, zOp_some, zOp_none, kI_int, kL_long, kO_ref, kO_null, nlt_T, nlt_F, nle_T, nle_F, neq_F, vpT, azUp_at, if_true, if_false, true_and, and_true, true_implies, false_implies, implies_true, not_true_eq_false, not_false_eq_true, true_or, or_true, false_or, or_false, and_false, false_and, eq_self, n01_0, n01_1, nm1_0, hng]
        exact this
  refine BX9_bare_0 hR ?_
  exact main w 0 (by omega)
theorem S_loose9 (hR : azClosed R) (hK : MdOk kd F) (htk : tOK t) (hx : txt I t) {e : Ex} {w i j : Nat} (hj : j ≤ t.length) (hw : wr t w i j) (hc : co t e (i + w) (j - w)) (h : Q (some (.int (nI (lvE e)))) ((n, z, kd), I, J, F)) : R (d + 2) mX9_looseness 0 [.ref 228, .int (nI i), .int (nI j), .retAddr 0, .retAddr 0] [] ((n, z, kd), I, J, F) Q := by
  have ⟨k0, ⟨_, _, _, _, _, k225, _⟩, _, ⟨_, _, _, _, _, f9, _⟩, _⟩ := id hK
  have ht := htk.1
  have h1 := hw.1
  have hng := m1_ng
  refine BX9_looseness_0 hR ⟨k0, ?_⟩
  refine S_bare9 hR hK htk hx hj hw hc ?_
  simp (disch := omega) only [nI_ad, nI_ml, nI_lti, nI_lei, nI_eqi, nI_nn, nI_0le, nI_eq0, nI_0lt, nI_le0, nI_clamp, nI_pd, nI_sb, zOf_some, zOp_some, zOp_none, kI_int, kL_long, kO_ref, kO_null, nlt_T, nlt_F, nle_T, nle_F, neq_F, vpT, azUp_at, if_true, if_false, true_and, and_true, true_implies, false_implies, implies_true, not_true_eq_false, not_false_eq_true, true_or, or_true, false_or, or_false, and_false, false_and, eq_self, n01_0, n01_1, nm1_0, k0]
  rw [show j - (i + w - i) = j - w by omega]
  have hc0 : co t e (i + w + 0) (j - w - 0) := by rw [Nat.add_zero, Nat.sub_zero]; exact hc
  refine S_sign9 hR hK htk hx (w := 0) (by omega) (wr0 (by omega)) hc0 (fun e => absurd rfl e) fun _ v hv => ?_
  revert hv h
  cases e with
  | leaf m =>
    intro h hv
    have hv : v = -(nI 1) := hv
    subst hv
    simp (disch := omega) only [nI_ad, nI_ml, nI_lti, nI_lei, nI_eqi, nI_nn, nI_0le, nI_eq0, nI_0lt, nI_le0, nI_clamp, nI_pd, nI_sb, zOf_some, zOp_some, zOp_none, kI_int, kL_long, kO_ref, kO_null, nlt_T, nlt_F, nle_T, nle_F, neq_F, vpT, azUp_at, if_true, if_false, true_and, and_true, true_implies, false_implies, implies_true, not_true_eq_false, not_false_eq_true, true_or, or_true, false_or, or_false, and_false, false_and, eq_self, n01_0, n01_1, nm1_0, hng]
    exact h
  | branch c a b =>
    rintro h ⟨k, k1, k2, k3, rfl⟩
    have el : I 234 k = nI (tb t k) := hx.2.get (by omega)
    rw [k3.1] at el
    have hcs := k3.2.1
    have h : Q (some (.int (nI (lvS c)))) ((n, z, kd), I, J, F) := h
    unfold lvS at h
    by_cases c42 : c = 42
    · rw [if_pos c42] at h
      simp (disch := omega) only [nI_ad, nI_ml, nI_lti, nI_lei, nI_eqi, nI_nn, nI_0le, nI_eq0, nI_0lt, nI_le0, nI_clamp, nI_pd, nI_sb, zOf_some, zOp_some, zOp_none, kI_int, kL_long, kO_ref, kO_null, nlt_T, nlt_F, nle_T, nle_F, neq_F, vpT, azUp_at, if_true, if_false, true_and, and_true, true_implies, false_implies, implies_true, not_true_eq_false, not_false_eq_true, true_or, or_true, false_or, or_false, and_false, false_and, eq_self, n01_0, n01_1, nm1_0, k0, f9, k225, el, c42]
      exact h
    · rw [if_neg c42] at h
      simp (disch := omega) only [nI_ad, nI_ml, nI_lti, nI_lei, nI_eqi, nI_nn, nI_0le, nI_eq0, nI_0lt, nI_le0, nI_clamp, nI_pd, nI_sb, zOf_some, zOp_some, zOp_none, kI_int, kL_long, kO_ref, kO_null, nlt_T, nlt_F, nle_T, nle_F, neq_F, vpT, azUp_at, if_true, if_false, true_and, and_true, true_implies, false_implies, implies_true, not_true_eq_false, not_false_eq_true, true_or, or_true, false_or, or_false, and_false, false_and, eq_self, n01_0, n01_1, nm1_0, k0, f9, k225, el, c42]
      exact h
def frP9 (I I' : azI) : Prop := (∀ b, b ≠ 228 → b ≠ 241 → I' b = I b) ∧ ∀ j, j ≠ 27 → I' 228 j = I 228 j
theorem frP9.refl {I : azI} : frP9 I I := ⟨fun _ _ _ => rfl, fun _ _ => rfl⟩
theorem frP9.trans {I I1 I2 : azI} (h1 : frP9 I I1) (h2 : frP9 I1 I2) : frP9 I I2 := ⟨fun c a b => by rw [h2.1 c a b, h1.1 c a b], fun j a => by rw [h2.2 j a, h1.2 j a]⟩
theorem frP9.txt {I I' : azI} (h : frP9 I I') (ht : txt I t) : txt I' t := ⟨by rw [h.2 10 (by decide)]; exact ht.1, by rw [h.1 234 (by decide) (by decide)]; exact ht.2⟩
theorem bra_t {l : List Nat} : bra true l = 40 :: l ++ [41] := rfl
theorem bra_f {l : List Nat} : bra false l = l := rfl
theorem S_spells9 (hR : azClosed R) (hK : MdOk kd F) (htk : tOK t) : ∀ (e : Ex) (d : Nat) (w i j L : Nat) (g : List Nat) (I : azI) (Q : azQ), txt I t → j ≤ t.length → wr t w i j → co t e (i + w) (j - w) → L < 100 → cP9 I g → g.length + (bra (decide (L < lvE e)) (exShow e)).length ≤ 700 → (∀ I', frP9 I I' → cP9 I' (g ++ bra (decide (L < lvE e)) (exShow e)) → Q none ((n, z, kd), I', J, F)) → R (d + 2 + (exPost e).length) mX9_spells 0 [.ref 228, .int (nI i), .int (nI j), .int (nI L), .retAddr 0, .retAddr 0, .retAddr 0, .retAddr 0, .retAddr 0, .retAddr 0] [] ((n, z, kd), I, J, F) Q := by
  have ⟨k0, ⟨_, _, _, _, _, k225, _⟩, _, ⟨_, _, _, _, _, f9, _⟩, _⟩ := id hK
  have ht := htk.1
  have hng := m1_neg
  intro e
  induction e with
  | leaf m =>
    intro d w i j L g I Q hx hj hw hc hL hg hlen h
    have h1 := hw.1
    have hle : lvE (.leaf m) = 0 := rfl
    have hsz : (exPost (.leaf m)).length = 1 := rfl
    rw [hle, decide_eq_false (Nat.not_lt_zero _), bra_f] at h hlen
    rw [hsz]
    refine BX9_spells_0 hR ⟨k0, ?_⟩
    refine S_bare9 (d := d + 1) hR hK htk hx hj hw hc ?_
    simp (disch := omega) only [nI_ad, nI_ml, nI_lti, nI_lei, nI_eqi, nI_nn, nI_0le, nI_eq0, nI_0lt, nI_le0, nI_clamp, nI_pd, nI_sb, zOf_some, zOp_some, zOp_none, kI_int, kL_long, kO_ref, kO_null, nlt_T, nlt_F, nle_T, nle_F, neq_F, vpT, azUp_at, if_true, if_false, true_and, and_true, true_implies, false_implies, implies_true, not_true_eq_false, not_false_eq_true, true_or, or_true, false_or, or_false, and_false, false_and, eq_self, n01_0, n01_1, nm1_0, k0]
    refine S_loose9 (d := d) hR hK htk hx hj hw hc ?_
    rw [hle]
    simp (disch := omega) only [nI_ad, nI_ml, nI_lti, nI_lei, nI_eqi, nI_nn, nI_0le, nI_eq0, nI_0lt, nI_le0, nI_clamp, nI_pd, nI_sb, zOf_some, zOp_some, zOp_none, kI_int, kL_long, kO_ref, kO_null, nlt_T, nlt_F, nle_T, nle_F, neq_F, vpT, azUp_at, if_true, if_false, true_and, and_true, true_implies, false_implies, implies_true, not_true_eq_false, not_false_eq_true, true_or, or_true, false_or, or_false, and_false, false_and, eq_self, n01_0, n01_1, nm1_0]
    rw [show j - (i + w - i) = j - w by omega]
    refine BX9_spells_44 hR ⟨k0, ?_⟩
    have hc0 : co t (.leaf m) (i + w + 0) (j - w - 0) := by rw [Nat.add_zero, Nat.sub_zero]; exact hc
    refine S_sign9 hR hK htk hx (w := 0) (by omega) (wr0 (by omega)) hc0 (fun e => absurd rfl e) fun _ v hv => ?_
    have hv : v = -(nI 1) := hv
    subst hv
    have out : ∀ (s k : Nat) (g1 : List Nat) (I1 : azI), s + k = j - w → i + w ≤ k → frP9 I I1 → cP9 I1 g1 → g1.length + s ≤ 700 → (∀ I', frP9 I I' → cP9 I' (g1 ++ (List.range s).map fun x => tb t (k + x)) → Q none ((n, z, kd), I', J, F)) → ∀ x1 x2 x3 x8 : Int32, R (d + 3) mX9_spells 152 [.ref 228, .int x1, .int x2, .int x3, .int (nI (i + w)), .int (nI (j - w)), .int (nI 0), .int (-(nI 1)), .int x8, .int (nI k)] [] ((n, z, kd), I1, J, F) Q := by
      intro s
      induction s with
      | zero =>
        intro k g1 I1 hs hk hf hg1 hl hh x1 x2 x3 x8
        have := hh I1 hf (by rw [List.range_zero, List.map_nil, List.append_nil]; exact hg1)
        refine BX9_spells_152 hR ?_
        simp (disch := omega) only [nI_ad, nI_ml, nI_lti, nI_lei, nI_eqi, nI_nn, nI_0le, nI_eq0, nI_0lt, nI_le0, nI_clamp, nI_pd, nI_sb, zOf_some, zOp_some, zOp_none, kI_int, kL_long, kO_ref, kO_null, nlt_T, nlt_F, nle_T, nle_F, neq_F, vpT, azUp_at, if_true, if_false, true_and, and_true, true_implies, false_implies, implies_true, not_true_eq_false, not_false_eq_true, true_or, or_true, false_or, or_false, and_false, false_and, eq_self, n01_0, n01_1, nm1_0]
        exact this
      | succ s ih =>
        intro k g1 I1 hs hk hf hg1 hl hh x1 x2 x3 x8
        have el : I1 234 k = nI (tb t k) := (hf.txt hx).2.get (by omega)
        refine BX9_spells_152 hR ?_
        simp (disch := omega) only [nI_ad, nI_ml, nI_lti, nI_lei, nI_eqi, nI_nn, nI_0le, nI_eq0, nI_0lt, nI_le0, nI_clamp, nI_pd, nI_sb, zOf_some, zOp_some, zOp_none, kI_int, kL_long, kO_ref, kO_null, nlt_T, nlt_F, nle_T, nle_F, neq_F, vpT, azUp_at, if_true, if_false, true_and, and_true, true_implies, false_implies, implies_true, not_true_eq_false, not_false_eq_true, true_or, or_true, false_or, or_false, and_false, false_and, eq_self, n01_0, n01_1, nm1_0, k0, f9, k225, el]
        refine S_writes9 hR hK hg1 (by omega) fun I2 u1 u2 u3 => ⟨rfl, ?_⟩
        refine ih (k + 1) _ I2 (by omega) (by omega) (hf.trans ⟨u2, u3⟩) u1 (by rw [List.length_append, List.length_cons, List.length_nil]; omega) (fun I' v1 v2 => hh I' v1 ?_) _ _ _ _
        rw [List.range_succ_eq_map, List.map_cons, List.map_map]
        rw [List.append_assoc] at v2
        have e : ((fun x => tb t (k + x)) ∘ Nat.succ) = fun x => tb t (k + 1 + x) := by
          funext x
          show tb t (k + (x + 1)) = _
          rw [show k + (x + 1) = k + 1 + x by omega]
        rw [e]
        exact v2
    have hsh : exShow (.leaf m) = if m < 100 then numTx m else [120 + m - 100] := rfl
    rw [hsh] at h hlen
    rcases hc with ⟨e1, e2, e3⟩ | ⟨e1, e2, e3, e4⟩ | ⟨e1, e2, e3, e4⟩
    · have hb := isFg_b e2
      rw [e1]
      simp (disch := omega) only [nI_ad, nI_ml, nI_lti, nI_lei, nI_eqi, nI_nn, nI_0le, nI_eq0, nI_0lt, nI_le0, nI_clamp, nI_pd, nI_sb, zOf_some, zOp_some, zOp_none, kI_int, kL_long, kO_ref, kO_null, nlt_T, nlt_F, nle_T, nle_F, neq_F, vpT, azUp_at, if_true, if_false, true_and, and_true, true_implies, false_implies, implies_true, not_true_eq_false, not_false_eq_true, true_or, or_true, false_or, or_false, and_false, false_and, eq_self, n01_0, n01_1, nm1_0, hng]
      have := out 1 (i + w) g I (by omega) (Nat.le_refl _) frP9.refl hg (by
        rw [if_pos (by omega)] at hlen
        unfold numTx at hlen
        rw [if_pos (by omega)] at hlen
        exact hlen) (fun I' v1 v2 => h I' v1 (by
        rw [if_pos (by omega)]
        unfold numTx
        rw [if_pos (by omega), e3, show 48 + (tb t (i + w) - 48) = tb t (i + w) by omega]
        exact v2)) (nI i) (nI j) (nI L) (nI (i + w))
      rw [e1] at this
      exact this
    · have hb := isFg_b e2
      have hb3 := isFg_b e3
      have el : I 234 (i + w) = nI (tb t (i + w)) := hx.2.get (by omega)
      rw [e1]
      simp (disch := omega) only [nI_ad, nI_ml, nI_lti, nI_lei, nI_eqi, nI_nn, nI_0le, nI_eq0, nI_0lt, nI_le0, nI_clamp, nI_pd, nI_sb, zOf_some, zOp_some, zOp_none, kI_int, kL_long, kO_ref, kO_null, nlt_T, nlt_F, nle_T, nle_F, neq_F, vpT, azUp_at, if_true, if_false, true_and, and_true, true_implies, false_implies, implies_true, not_true_eq_false, not_false_eq_true, true_or, or_true, false_or, or_false, and_false, false_and, eq_self, n01_0, n01_1, nm1_0, hng]
      have h22 : i + w + 2 - (i + w) = 2 := by omega
      by_cases c48 : tb t (i + w) = 48
      · have := out 1 (i + w + 1) g I (by omega) (by omega) frP9.refl hg (by
          rw [if_pos (by omega)] at hlen
          unfold numTx at hlen
          rw [if_pos (by omega)] at hlen
          exact hlen) (fun I' v1 v2 => h I' v1 (by
          rw [if_pos (by omega)]
          unfold numTx
          rw [if_pos (by omega), e4, c48, show 48 + ((48 - 48) * 10 + (tb t (i + w + 1) - 48)) = tb t (i + w + 1) by omega]
          exact v2)) (nI i) (nI j) (nI L) (nI (i + w + 1))
        rw [e1] at this
        simp (disch := omega) only [nI_ad, nI_ml, nI_lti, nI_lei, nI_eqi, nI_nn, nI_0le, nI_eq0, nI_0lt, nI_le0, nI_clamp, nI_pd, nI_sb, zOf_some, zOp_some, zOp_none, kI_int, kL_long, kO_ref, kO_null, nlt_T, nlt_F, nle_T, nle_F, neq_F, vpT, azUp_at, if_true, if_false, true_and, and_true, true_implies, false_implies, implies_true, not_true_eq_false, not_false_eq_true, true_or, or_true, false_or, or_false, and_false, false_and, eq_self, n01_0, n01_1, nm1_0, h22, k0, f9, k225, el, c48]
        exact this
      · have := out 2 (i + w) g I (by omega) (Nat.le_refl _) frP9.refl hg (by
          rw [if_pos (by omega)] at hlen
          unfold numTx at hlen
          rw [if_neg (by omega)] at hlen
          exact hlen) (fun I' v1 v2 => h I' v1 (by
          rw [if_pos (by omega)]
          unfold numTx
          rw [if_neg (by omega), e4, show 48 + ((tb t (i + w) - 48) * 10 + (tb t (i + w + 1) - 48)) / 10 = tb t (i + w) by omega, show 48 + ((tb t (i + w) - 48) * 10 + (tb t (i + w + 1) - 48)) % 10 = tb t (i + w + 1) by omega]
          exact v2)) (nI i) (nI j) (nI L) (nI (i + w))
        rw [e1] at this
        simp (disch := omega) only [nI_ad, nI_ml, nI_lti, nI_lei, nI_eqi, nI_nn, nI_0le, nI_eq0, nI_0lt, nI_le0, nI_clamp, nI_pd, nI_sb, zOf_some, zOp_some, zOp_none, kI_int, kL_long, kO_ref, kO_null, nlt_T, nlt_F, nle_T, nle_F, neq_F, vpT, azUp_at, if_true, if_false, true_and, and_true, true_implies, false_implies, implies_true, not_true_eq_false, not_false_eq_true, true_or, or_true, false_or, or_false, and_false, false_and, eq_self, n01_0, n01_1, nm1_0, h22, k0, f9, k225, el, c48]
        exact this
    · rw [e1]
      simp (disch := omega) only [nI_ad, nI_ml, nI_lti, nI_lei, nI_eqi, nI_nn, nI_0le, nI_eq0, nI_0lt, nI_le0, nI_clamp, nI_pd, nI_sb, zOf_some, zOp_some, zOp_none, kI_int, kL_long, kO_ref, kO_null, nlt_T, nlt_F, nle_T, nle_F, neq_F, vpT, azUp_at, if_true, if_false, true_and, and_true, true_implies, false_implies, implies_true, not_true_eq_false, not_false_eq_true, true_or, or_true, false_or, or_false, and_false, false_and, eq_self, n01_0, n01_1, nm1_0, hng]
      have := out 1 (i + w) g I (by omega) (Nat.le_refl _) frP9.refl hg (by
        rw [if_neg (by omega)] at hlen
        exact hlen) (fun I' v1 v2 => h I' v1 (by
        rw [if_neg (by omega), e4, show 120 + (100 + (tb t (i + w) - 120)) - 100 = tb t (i + w) by omega]
        exact v2)) (nI i) (nI j) (nI L) (nI (i + w))
      rw [e1] at this
      exact this
  | branch c a b iha ihb =>
    intro d w i j L g I Q hx hj hw hc hL hg hlen h
    have h1 := hw.1
    have hsz : (exPost (.branch c a b)).length = (exPost a).length + (exPost b).length + 1 := by
      show (exPost a ++ exPost b ++ [200 + c]).length = _
      simp only [List.length_append, List.length_cons, List.length_nil]
    have pa := exPost_pos a
    have pb' := exPost_pos b
    have hle : lvE (.branch c a b) = lvS c := rfl
    have hl2 := lvS_le c
    obtain ⟨k9, hk9⟩ := id hc
    have hcs := hk9.2.1
    have hsh : exShow (.branch c a b) = bra (decide (tgt a < hof c)) (exShow a) ++ c :: bra (decide (tgt b ≤ hof c)) (exShow b) := rfl
    have hb1 : 1 ≤ lvS c := by unfold lvS; split <;> decide
    -- behind the first bracket, if any
    have mid : ∀ (g1 : List Nat) (I1 : azI) (x6 : Int32), frP9 I I1 → cP9 I1 g1 → g1.length + (exShow (.branch c a b)).length ≤ 700 → (∀ I', frP9 I I' → cP9 I' (g1 ++ exShow (.branch c a b)) → (x6 = 0 → Q none ((n, z, kd), I', J, F)) ∧ (¬ x6 = 0 → R (d + 1 + (exPost (.branch c a b)).length) mX9_writes 0 [.ref 228, .int (nI 41)] [] ((n, z, kd), I', J, F) fun v s => v = none ∧ Q none s)) → ∀ x1 x2 x3 : Int32, R (d + 2 + (exPost (.branch c a b)).length) mX9_spells 44 [.ref 228, .int x1, .int x2, .int x3, .int (nI (i + w)), .int (nI (j - w)), .int x6, .retAddr 0, .retAddr 0, .retAddr 0] [] ((n, z, kd), I1, J, F) Q := by
      intro g1 I1 x6 hf hg1 hl hh x1 x2 x3
      rw [hsz] at hh ⊢
      have ed : d + 2 + ((exPost a).length + (exPost b).length + 1) = (d + 1 + ((exPost a).length + (exPost b).length + 1)) + 1 := by omega
      rw [ed]
      refine BX9_spells_44 hR ⟨k0, ?_⟩
      have hc0 : co t (.branch c a b) (i + w + 0) (j - w - 0) := by rw [Nat.add_zero, Nat.sub_zero]; exact hc
      refine S_sign9 hR hK htk (hf.txt hx) (w := 0) (by omega) (wr0 (by omega)) hc0 (fun e => absurd rfl e) fun _ v hv => ?_
      obtain ⟨k, hk1, hk2, hk, rfl⟩ := hv
      obtain ⟨hkc, _, ⟨wa, a1, a2, a3⟩, wb, b1, b2, b3⟩ := id hk
      have la := a1.1
      have lb := b1.1
      have ea : decide (tgt a < hof c) = decide (lvS c < lvE a) := by
        have q1 := tgt_lvE a2
        have q2 := hof_lvS hcs
        have q3 := lvE_le a
        rw [Bool.eq_iff_iff, decide_eq_true_iff, decide_eq_true_iff]
        omega
      have eb : decide (tgt b ≤ hof c) = decide (lvS c - 1 < lvE b) := by
        have q1 := tgt_lvE b2
        have q2 := hof_lvS hcs
        have q3 := lvE_le b
        rw [Bool.eq_iff_iff, decide_eq_true_iff, decide_eq_true_iff]
        omega
      rw [hsh, ea, eb] at hl hh
      rw [List.length_append, List.length_cons] at hl
      have el : ∀ {I2 : azI}, frP9 I I2 → I2 234 k = nI c := fun {I2} f => by
        have this : I2 234 k = nI (tb t k) := (f.txt hx).2.get (i := k) (by omega)
        rw [hkc] at this
        exact this
      have hc100 : c < 128 := by omega
      have fst := iha (d + ((exPost b).length)) wa (i + w) k (lvS c) g1 I1
      have eda : d + (exPost b).length + 2 + (exPost a).length = d + 1 + ((exPost a).length + (exPost b).length + 1) := by omega
      have edb : d + (exPost a).length + 2 + (exPost b).length = d + 1 + ((exPost a).length + (exPost b).length + 1) := by omega
      rw [eda] at fst
      have snd := fun g2 I2 Q => ihb (d + ((exPost a).length)) wb (k + 1) (j - w) (lvS c - 1) g2 I2 Q
      rw [edb] at snd
      unfold lvS at fst snd hl hh
      by_cases c42 : c = 42
      · simp only [if_pos c42] at fst snd hl hh
        simp (disch := omega) only [nI_ad, nI_ml, nI_lti, nI_lei, nI_eqi, nI_nn, nI_0le, nI_eq0, nI_0lt, nI_le0, nI_clamp, nI_pd, nI_sb, zOf_some, zOp_some, zOp_none, kI_int, kL_long, kO_ref, kO_null, nlt_T, nlt_F, nle_T, nle_F, neq_F, vpT, azUp_at, if_true, if_false, true_and, and_true, true_implies, false_implies, implies_true, not_true_eq_false, not_false_eq_true, true_or, or_true, false_or, or_false, and_false, false_and, eq_self, n01_0, n01_1, nm1_0, k0, f9, k225, el hf, c42]
        refine fst _ (hf.txt hx) (by omega) a1 a2 (by decide) hg1 (by omega) fun I2 u1 u2 => ⟨rfl, ?_⟩
        have el2 := el (hf.trans u1)
        rw [c42] at el2
        simp (disch := omega) only [nI_ad, nI_ml, nI_lti, nI_lei, nI_eqi, nI_nn, nI_0le, nI_eq0, nI_0lt, nI_le0, nI_clamp, nI_pd, nI_sb, zOf_some, zOp_some, zOp_none, kI_int, kL_long, kO_ref, kO_null, nlt_T, nlt_F, nle_T, nle_F, neq_F, vpT, azUp_at, if_true, if_false, true_and, and_true, true_implies, false_implies, implies_true, not_true_eq_false, not_false_eq_true, true_or, or_true, false_or, or_false, and_false, false_and, eq_self, n01_0, n01_1, nm1_0, k0, f9, k225, el2]
        refine S_writes9 hR hK u2 (by rw [List.length_append]; omega) fun I3 v1 v2 v3 => ⟨rfl, k0, ?_⟩
        refine snd _ I3 _ (((hf.trans u1).trans ⟨v2, v3⟩).txt hx) (by omega) b1 b2 (by decide) v1 (by simp only [List.length_append, List.length_cons, List.length_nil]; omega) fun I4 y1 y2 => ⟨rfl, ?_⟩
        obtain ⟨z1, z2⟩ := hh I4 (((hf.trans u1).trans ⟨v2, v3⟩).trans y1) (by
          rw [List.append_assoc, List.append_assoc] at y2
          rw [c42]
          exact y2)
        exact ⟨z1, fun e => ⟨k0, z2 e⟩⟩
      · simp only [if_neg c42] at fst snd hl hh
        simp (disch := omega) only [nI_ad, nI_ml, nI_lti, nI_lei, nI_eqi, nI_nn, nI_0le, nI_eq0, nI_0lt, nI_le0, nI_clamp, nI_pd, nI_sb, zOf_some, zOp_some, zOp_none, kI_int, kL_long, kO_ref, kO_null, nlt_T, nlt_F, nle_T, nle_F, neq_F, vpT, azUp_at, if_true, if_false, true_and, and_true, true_implies, false_implies, implies_true, not_true_eq_false, not_false_eq_true, true_or, or_true, false_or, or_false, and_false, false_and, eq_self, n01_0, n01_1, nm1_0, k0, f9, k225, el hf, c42]
        refine fst _ (hf.txt hx) (by omega) a1 a2 (by decide) hg1 (by omega) fun I2 u1 u2 => ⟨rfl, ?_⟩
        have el2 := el (hf.trans u1)
        simp (disch := omega) only [nI_ad, nI_ml, nI_lti, nI_lei, nI_eqi, nI_nn, nI_0le, nI_eq0, nI_0lt, nI_le0, nI_clamp, nI_pd, nI_sb, zOf_some, zOp_some, zOp_none, kI_int, kL_long, kO_ref, kO_null, nlt_T, nlt_F, nle_T, nle_F, neq_F, vpT, azUp_at, if_true, if_false, true_and, and_true, true_implies, false_implies, implies_true, not_true_eq_false, not_false_eq_true, true_or, or_true, false_or, or_false, and_false, false_and, eq_self, n01_0, n01_1, nm1_0, k0, f9, k225, el2]
        refine S_writes9 hR hK u2 (by rw [List.length_append]; omega) fun I3 v1 v2 v3 => ⟨rfl, k0, ?_⟩
        refine snd _ I3 _ (((hf.trans u1).trans ⟨v2, v3⟩).txt hx) (by omega) b1 b2 (by decide) v1 (by simp only [List.length_append, List.length_cons, List.length_nil]; omega) fun I4 y1 y2 => ⟨rfl, ?_⟩
        obtain ⟨z1, z2⟩ := hh I4 (((hf.trans u1).trans ⟨v2, v3⟩).trans y1) (by
          rw [List.append_assoc, List.append_assoc] at y2
          exact y2)
        exact ⟨z1, fun e => ⟨k0, z2 e⟩⟩
    have ed : d + 2 + (exPost (.branch c a b)).length = (d + 1 + (exPost (.branch c a b)).length) + 1 := by omega
    have ed1 : d + 1 + (exPost (.branch c a b)).length = (d + (exPost (.branch c a b)).length) + 1 := by omega
    have ed2 : d + 1 + (exPost (.branch c a b)).length = (d + 1 + (exPost (.branch c a b)).length - 2) + 2 := by omega
    rw [ed] at mid ⊢
    refine BX9_spells_0 hR ⟨k0, ?_⟩
    rw [ed1]
    refine S_bare9 hR hK htk hx hj hw hc ?_
    rw [← ed1]
    simp (disch := omega) only [nI_ad, nI_ml, nI_lti, nI_lei, nI_eqi, nI_nn, nI_0le, nI_eq0, nI_0lt, nI_le0, nI_clamp, nI_pd, nI_sb, zOf_some, zOp_some, zOp_none, kI_int, kL_long, kO_ref, kO_null, nlt_T, nlt_F, nle_T, nle_F, neq_F, vpT, azUp_at, if_true, if_false, true_and, and_true, true_implies, false_implies, implies_true, not_true_eq_false, not_false_eq_true, true_or, or_true, false_or, or_false, and_false, false_and, eq_self, n01_0, n01_1, nm1_0, k0]
    rw [ed2]
    refine S_loose9 hR hK htk hx hj hw hc ?_
    rw [← ed2]
    rw [hle] at h hlen ⊢
    by_cases cb : L < lvS c
    · rw [decide_eq_true cb, bra_t] at h hlen
      rw [List.cons_append, List.length_cons, List.length_append, List.length_cons, List.length_nil] at hlen
      have n1 : ¬ nI 1 = 0 := by decide
      simp (disch := omega) only [nI_ad, nI_ml, nI_lti, nI_lei, nI_eqi, nI_nn, nI_0le, nI_eq0, nI_0lt, nI_le0, nI_clamp, nI_pd, nI_sb, zOf_some, zOp_some, zOp_none, kI_int, kL_long, kO_ref, kO_null, nlt_T, nlt_F, nle_T, nle_F, neq_F, vpT, azUp_at, if_true, if_false, true_and, and_true, true_implies, false_implies, implies_true, not_true_eq_false, not_false_eq_true, true_or, or_true, false_or, or_false, and_false, false_and, eq_self, n01_0, n01_1, nm1_0, k0, n1]
      rw [show j - (i + w - i) = j - w by omega]
      refine S_writes9 hR hK hg (by omega) fun I1 u1 u2 u3 => ⟨rfl, ?_⟩
      refine mid _ I1 (nI 1) ⟨u2, u3⟩ u1 (by rw [List.length_append, List.length_cons, List.length_nil]; omega) (fun I' v1 v2 => ⟨fun e => absurd e n1, fun _ => ?_⟩) _ _ _
      refine S_writes9 hR hK v2 (by rw [List.length_append, List.length_append, List.length_cons, List.length_nil]; omega) fun I'' y1 y2 y3 => ⟨rfl, h I'' (v1.trans ⟨y2, y3⟩) ?_⟩
      rw [List.append_assoc, List.append_assoc] at y1
      exact y1
    · rw [decide_eq_false cb, bra_f] at h hlen
      simp (disch := omega) only [nI_ad, nI_ml, nI_lti, nI_lei, nI_eqi, nI_nn, nI_0le, nI_eq0, nI_0lt, nI_le0, nI_clamp, nI_pd, nI_sb, zOf_some, zOp_some, zOp_none, kI_int, kL_long, kO_ref, kO_null, nlt_T, nlt_F, nle_T, nle_F, neq_F, vpT, azUp_at, if_true, if_false, true_and, and_true, true_implies, false_implies, implies_true, not_true_eq_false, not_false_eq_true, true_or, or_true, false_or, or_false, and_false, false_and, eq_self, n01_0, n01_1, nm1_0, k0]
      rw [show j - (i + w - i) = j - w by omega]
      refine mid _ I (nI 0) frP9.refl hg (by omega) (fun I' v1 v2 => ⟨fun _ => h I' v1 v2, fun e => absurd rfl e⟩) _ _ _
end S9
