/-! SPECS: Firing.value of a clause; conditionsHold. -/
def cEx (c : Cls) : Ex := match c.2.2.2 with
  | [] => .leaf 0
  | a :: l => l.foldl (Lean.RArray.branch 38) a
theorem cEx_code {c : Cls} (h : c.2.2.2 ≠ []) : cCode c = exPost (cEx c) := by
  unfold cCode cEx exCode
  revert h
  cases c.2.2.2 with
  | nil => intro h; exact absurd rfl h
  | cons a l => intro _; rfl
theorem exOK_fold {kb : Nat} : ∀ (l : List Ex) (a : Ex), exOK kb a → (∀ e ∈ l, exOK kb e) → exOK kb (l.foldl (Lean.RArray.branch 38) a) := by
  intro l
  induction l with
  | nil => intro a ha _; exact ha
  | cons b l ih => intro a ha hl; exact ih _ ⟨by decide, by decide, ha, hl b (List.mem_cons_self ..)⟩ fun e he => hl e (List.mem_cons_of_mem _ he)
theorem cEx_ok {kb : Nat} {c : Cls} (h : clOK kb c) (hn : c.2.2.2 ≠ []) : exOK kb (cEx c) := by
  have hl := h.2.2.2.1
  unfold cEx
  revert hl hn
  cases c.2.2.2 with
  | nil => intro h _; exact absurd rfl h
  | cons a l => intro _ hl; exact exOK_fold l a (hl a (List.mem_cons_self ..)) fun e he => hl e (List.mem_cons_of_mem _ he)
theorem rBegs_app (o : Nat) (l1 l2 : List Cls) : rBegs o (l1 ++ l2) = rBegs o l1 ++ rBegs (o + (rCode l1).length) l2 := by
  induction l1 generalizing o with
  | nil => simp [rBegs, rCode]
  | cons a l ih => simp only [List.cons_append, rBegs, ih, rCode, List.flatMap_cons, List.length_append, Nat.add_assoc]
theorem rEnds_app (o : Nat) (l1 l2 : List Cls) : rEnds o (l1 ++ l2) = rEnds o l1 ++ rEnds (o + (rCode l1).length) l2 := by
  induction l1 generalizing o with
  | nil => simp [rEnds, rCode]
  | cons a l ih => simp only [List.cons_append, rEnds, ih, rCode, List.flatMap_cons, List.length_append, Nat.add_assoc]
section S1
variable {R : azP} {D d n z : Nat} {kd : azK} {I : azI} {J : azJ} {F : azR} {Q : azQ} {a r : Nat} {kb : Nat} {l1 l2 : List Cls} {c : Cls}
theorem cR.beg (h : cR I r (l1 ++ c :: l2) []) : I (r + 4) l1.length = nI (rCode l1).length := by
  have hb := h.2.2.2.2.2.2.2.2.2.1
  rw [rBegs_app, Nat.zero_add] at hb
  have := lst.mid (l1 := rBegs 0 l1) (v := nI (rCode l1).length) (l2 := rBegs ((rCode l1).length + (cCode c).length) l2) hb
  rwa [rBegs_len] at this
theorem cR.fin (h : cR I r (l1 ++ c :: l2) []) : I (r + 5) l1.length = nI ((rCode l1).length + (cCode c).length) := by
  have hb := h.2.2.2.2.2.2.2.2.2.2.1
  rw [rEnds_app, Nat.zero_add] at hb
  have := lst.mid (l1 := rEnds 0 l1) (v := nI ((rCode l1).length + (cCode c).length)) (l2 := rEnds ((rCode l1).length + (cCode c).length) l2) hb
  rwa [rEnds_len] at this
theorem cR.code (h : cR I r (l1 ++ c :: l2) []) : coAt I r (rCode l1).length (cCode c) := by
  have hb := h.2.2.2.2.2.2.2.2.2.2.2.2.2
  intro j hj
  have e : rCode (l1 ++ c :: l2) = rCode l1 ++ (cCode c ++ rCode l2) := by simp [rCode]
  rw [List.append_nil, e] at hb
  rw [hb.get (by rw [List.length_append, List.length_append]; omega)]
  simp only [List.getD_eq_getElem?_getD]
  rw [List.getElem?_append_right (by omega), Nat.add_sub_cancel_left, List.getElem?_append_left hj]
theorem cR.kind (h : cR I r (l1 ++ c :: l2) []) : I (r + 1) l1.length = nI c.1 := lst.mp h.2.2.2.2.2.2.1
theorem cR.place (h : cR I r (l1 ++ c :: l2) []) : I (r + 2) l1.length = cPl c := lst.mp h.2.2.2.2.2.2.2.1
theorem cR.name (h : cR I r (l1 ++ c :: l2) []) : I (r + 3) l1.length = cW c := lst.mp h.2.2.2.2.2.2.2.2.1
theorem S_value (hR : azClosed R) (hF : FiOk kd F a) (hM : RuOk kd F r) (hra : a + 3 < r) (hc : cR I r (l1 ++ c :: l2) []) (ho : rlOK (l1 ++ c :: l2)) (hn : c.2.2.2 ≠ []) (h : ∀ I', (∀ b, b ≠ a + 3 → I' b = I b) → Q (some (.int (exEv (fun w => I (a + 2) w) (cEx c)))) ((n, z, kd), I', J, F)) : R (d + 1) mX1_value 0 [.ref a, .ref r, .int (nI l1.length), .retAddr 0, .retAddr 0, .retAddr 0, .retAddr 0] [] ((n, z, kd), I, J, F) Q := by
  have ⟨k0, k1, k2, k3, f0, f1, f2⟩ := hF
  have hcl := ho.2.2.2.2.2.2 c (by simp)
  have hl : l1.length < 12 := by have := ho.1; rw [List.length_append, List.length_cons] at this; omega
  have hE : (rCode l1).length + (cCode c).length ≤ 80 := by
    have := ho.2.1
    have e : rCode (l1 ++ c :: l2) = rCode l1 ++ (cCode c ++ rCode l2) := by simp [rCode]
    rw [e, List.length_append, List.length_append] at this
    omega
  have ec := cEx_code hn
  have hco := hc.code
  have hb := hc.beg
  have hf := hc.fin
  rw [ec] at hE hco hf
  refine BX1_value_0 hR ?_
  simp (disch := omega) only [nI_ad, nI_ml, nI_lti, nI_lei, nI_eqi, nI_nn, nI_0le, nI_eq0, nI_0lt, nI_le0, nI_clamp, nI_pd, nI_sb, zOf_some, zOp_some, zOp_none, kI_int, kL_long, kO_ref, kO_null, nlt_T, nlt_F, nle_T, nle_F, neq_F, vpT, azUp_at, if_true, if_false, true_and, and_true, true_implies, false_implies, implies_true, not_true_eq_false, not_false_eq_true, true_or, or_true, false_or, or_false, and_false, false_and, eq_self, n01_0, n01_1, nm1_0, hM.1]
  refine S_begin hR hM hl ?_
  rw [hb, kI_int]
  refine L_value (kb := knB (l1 ++ c :: l2)) hR hF hM hra hl hE (cEx c) _ 0 I _ _ (cEx_ok hcl hn) hco hf (Nat.le_refl _) (by omega) fun I' w5 w6 a1 a2 a3 => ?_
  have e5 : I' (r + 5) l1.length = nI ((rCode l1).length + (exPost (cEx c)).length) := by rw [a3 (r + 5) (by omega)]; exact hf
  refine BX1_value_9 hR ?_
  simp (disch := omega) only [nI_ad, nI_ml, nI_lti, nI_lei, nI_eqi, nI_nn, nI_0le, nI_eq0, nI_0lt, nI_le0, nI_clamp, nI_pd, nI_sb, zOf_some, zOp_some, zOp_none, kI_int, kL_long, kO_ref, kO_null, nlt_T, nlt_F, nle_T, nle_F, neq_F, vpT, azUp_at, if_true, if_false, true_and, and_true, true_implies, false_implies, implies_true, not_true_eq_false, not_false_eq_true, true_or, or_true, false_or, or_false, and_false, false_and, eq_self, n01_0, n01_1, nm1_0, hM.1]
  refine S_end hR hM hl ?_
  rw [e5]
  simp (disch := omega) only [nI_ad, nI_ml, nI_lti, nI_lei, nI_eqi, nI_nn, nI_0le, nI_eq0, nI_0lt, nI_le0, nI_clamp, nI_pd, nI_sb, zOf_some, zOp_some, zOp_none, kI_int, kL_long, kO_ref, kO_null, nlt_T, nlt_F, nle_T, nle_F, neq_F, vpT, azUp_at, if_true, if_false, true_and, and_true, true_implies, false_implies, implies_true, not_true_eq_false, not_false_eq_true, true_or, or_true, false_or, or_false, and_false, false_and, eq_self, n01_0, n01_1, nm1_0, k0, f2, k3, a1]
  exact h I' a3
end S1
