/-! SPECS: Rule. Rules as trees, and how a rule lies in the class. -/
/-- an expression: a number or (from 100 on) a name, or a sign (its byte) between two -/
abbrev Ex := Lean.RArray Nat
/-- its code: both sides, then the sign -/
def exPost : Ex → List Nat
  | .leaf n => [n]
  | .branch s a b => exPost a ++ exPost b ++ [200 + s]
/-- a clause: its kind (0 in, 1 if, 2 out, 3 empty), place, name, expressions (of an if: its comparisons) -/
abbrev Cls := Nat × Nat × Nat × List Ex
def exCode : List Ex → List Nat
  | [] => []
  | a :: l => exPost (l.foldl (Lean.RArray.branch 38) a)
def cPl (c : Cls) : Int32 := if c.1 = 1 then -(nI 1) else nI c.2.1
def cW (c : Cls) : Int32 := if c.1 = 0 then nI c.2.2.1 else -(nI 1)
def cCode (c : Cls) : List Nat := exCode c.2.2.2
def cMany (c : Cls) : Nat := if c.1 = 1 then c.2.2.2.length else 0
def cBit (c : Cls) : Nat := if c.1 = 3 then 2 ^ c.2.1 else 0
def rCode (cs : List Cls) : List Nat := cs.flatMap cCode
def rMany (cs : List Cls) : Nat := (cs.map cMany).sum
def rBits : List Cls → Nat
  | [] => 0
  | c :: cs => cBit c ||| rBits cs
/-- where the clauses of a kind stand -/
def rIdx (k o : Nat) : List Cls → List Nat
  | [] => []
  | c :: cs => if c.1 = k then o :: rIdx k (o + 1) cs else rIdx k (o + 1) cs
def rBegs (o : Nat) : List Cls → List Int32
  | [] => []
  | c :: cs => nI o :: rBegs (o + (cCode c).length) cs
def rEnds (o : Nat) : List Cls → List Int32
  | [] => []
  | c :: cs => nI (o + (cCode c).length) :: rEnds (o + (cCode c).length) cs
theorem rCode_add (cs : List Cls) (c : Cls) : rCode (cs ++ [c]) = rCode cs ++ cCode c := by simp [rCode]
theorem rMany_add (cs : List Cls) (c : Cls) : rMany (cs ++ [c]) = rMany cs + cMany c := by simp [rMany]
theorem rBits_add (cs : List Cls) (c : Cls) : rBits (cs ++ [c]) = rBits cs ||| cBit c := by
  induction cs with
  | nil => simp [rBits]
  | cons a cs ih => simp only [List.cons_append, rBits, ih, Nat.or_assoc]
theorem rIdx_add (k o : Nat) (cs : List Cls) (c : Cls) : rIdx k o (cs ++ [c]) = rIdx k o cs ++ if c.1 = k then [o + cs.length] else [] := by
  induction cs generalizing o with
  | nil => simp [rIdx]
  | cons a cs ih =>
    simp only [List.cons_append, rIdx, ih, List.length_cons]
    have : o + 1 + cs.length = o + (cs.length + 1) := by omega
    rw [this]
    by_cases e : a.1 = k
    · rw [if_pos e, if_pos e]; rfl
    · rw [if_neg e, if_neg e]
theorem rBegs_add (o : Nat) (cs : List Cls) (c : Cls) : rBegs o (cs ++ [c]) = rBegs o cs ++ [nI (o + (rCode cs).length)] := by
  induction cs generalizing o with
  | nil => simp [rBegs, rCode]
  | cons a cs ih => simp only [List.cons_append, rBegs, ih, rCode, List.flatMap_cons, List.length_append, Nat.add_assoc]
theorem rEnds_add (o : Nat) (cs : List Cls) (c : Cls) : rEnds o (cs ++ [c]) = rEnds o cs ++ [nI (o + (rCode cs).length + (cCode c).length)] := by
  induction cs generalizing o with
  | nil => simp [rEnds, rCode]
  | cons a cs ih => simp only [List.cons_append, rEnds, ih, rCode, List.flatMap_cons, List.length_append, Nat.add_assoc]
theorem rBegs_len (o : Nat) (cs : List Cls) : (rBegs o cs).length = cs.length := by
  induction cs generalizing o with
  | nil => rfl
  | cons a cs ih => simp [rBegs, ih]
theorem rEnds_len (o : Nat) (cs : List Cls) : (rEnds o cs).length = cs.length := by
  induction cs generalizing o with
  | nil => rfl
  | cons a cs ih => simp [rEnds, ih]
/-- a row's first values are a list -/
def lst (f : Nat → Int32) (l : List Int32) : Prop := ∀ i, i < l.length → f i = l.getD i 0
theorem lst.add {f : Nat → Int32} {l : List Int32} (h : lst f l) {g : Nat → Int32} {v : Int32} (h1 : g l.length = v) (h2 : ∀ i, i ≠ l.length → g i = f i) : lst g (l ++ [v]) := by
  intro i hi
  rw [List.length_append, List.length_cons, List.length_nil] at hi
  by_cases e : i = l.length
  · subst e; rw [h1]; simp
  · rw [h2 i e, h i (by omega)]
    simp only [List.getD_eq_getElem?_getD]
    rw [List.getElem?_append_left (by omega)]
theorem lst.get {f : Nat → Int32} {l : List Nat} (h : lst f (l.map nI)) {i : Nat} (hi : i < l.length) : f i = nI (l.getD i 0) := by
  rw [h i (by rw [List.length_map]; exact hi)]
  simp [List.getD_eq_getElem?_getD, hi]
theorem lst.of {f g : Nat → Int32} {l : List Int32} (h : lst f l) (e : g = f) : lst g l := e ▸ h
def RuOk (kd : azK) (F : azR) (r : Nat) : Prop := (kd r).1 = 5 ∧ kd (r + 1) = (10, 12) ∧ kd (r + 2) = (10, 12) ∧ kd (r + 3) = (10, 12) ∧ kd (r + 4) = (10, 12) ∧ kd (r + 5) = (10, 12) ∧ kd (r + 6) = (10, 3) ∧ kd (r + 7) = (10, 3) ∧ kd (r + 8) = (10, 80) ∧ F r 6 = some (r + 1) ∧ F r 7 = some (r + 2) ∧ F r 8 = some (r + 3) ∧ F r 9 = some (r + 4) ∧ F r 10 = some (r + 5) ∧ F r 11 = some (r + 6) ∧ F r 12 = some (r + 7) ∧ F r 13 = some (r + 8)
/-- a rule in the class: its clauses, and code of a clause that is not whole yet -/
def cR (I : azI) (r : Nat) (cs : List Cls) (pd : List Nat) : Prop :=
  I r 0 = nI cs.length ∧ I r 1 = nI (rIdx 0 0 cs).length ∧ I r 2 = nI (rIdx 2 0 cs).length ∧ I r 3 = nI (rMany cs) ∧ I r 4 = nI (rBits cs) ∧ I r 5 = nI (rCode cs ++ pd).length ∧
  lst (I (r + 1)) (cs.map fun c => nI c.1) ∧ lst (I (r + 2)) (cs.map cPl) ∧ lst (I (r + 3)) (cs.map cW) ∧ lst (I (r + 4)) (rBegs 0 cs) ∧ lst (I (r + 5)) (rEnds 0 cs) ∧
  lst (I (r + 6)) ((rIdx 0 0 cs).map nI) ∧ lst (I (r + 7)) ((rIdx 2 0 cs).map nI) ∧ lst (I (r + 8)) ((rCode cs ++ pd).map nI)
theorem cR.keep {I I' : azI} {r : Nat} {cs : List Cls} {pd : List Nat} (h : cR I r cs pd) (hf : ∀ b, r ≤ b → b ≤ r + 8 → I' b = I b) : cR I' r cs pd := by
  unfold cR at h ⊢
  rw [hf r (by omega) (by omega), hf (r + 1) (by omega) (by omega), hf (r + 2) (by omega) (by omega), hf (r + 3) (by omega) (by omega), hf (r + 4) (by omega) (by omega), hf (r + 5) (by omega) (by omega), hf (r + 6) (by omega) (by omega), hf (r + 7) (by omega) (by omega), hf (r + 8) (by omega) (by omega)]
  exact h
section S5
variable {R : azP} {d n z : Nat} {kd : azK} {I : azI} {J : azJ} {F : azR} {Q : azQ} {r k : Nat} {cs : List Cls} {pd : List Nat}
theorem S_kind (hR : azClosed R) (hM : RuOk kd F r) (hk : k < 12) (h : Q (some (.int (I (r + 1) k))) ((n, z, kd), I, J, F)) : R d mX5_kind 0 [.ref r, .int (nI k)] [] ((n, z, kd), I, J, F) Q := by
  obtain ⟨k0, k1, k2, k3, k4, k5, k6, k7, k8, f6, f7, f8, f9, f10, f11, f12, f13⟩ := hM
  refine BX5_kind_0 hR ?_
  simp (disch := omega) only [nI_ad, nI_ml, nI_lti, nI_lei, nI_eqi, nI_nn, nI_0le, nI_eq0, nI_0lt, nI_le0, nI_clamp, nI_pd, nI_sb, zOf_some, zOp_some, zOp_none, kI_int, kL_long, kO_ref, kO_null, nlt_T, nlt_F, nle_T, nle_F, neq_F, vpT, azUp_at, if_true, if_false, true_and, and_true, true_implies, false_implies, implies_true, not_true_eq_false, not_false_eq_true, true_or, or_true, false_or, or_false, and_false, false_and, eq_self, n01_0, n01_1, nm1_0, k0, k1, f6]
  exact h
theorem S_place (hR : azClosed R) (hM : RuOk kd F r) (hk : k < 12) (h : Q (some (.int (I (r + 2) k))) ((n, z, kd), I, J, F)) : R d mX5_place 0 [.ref r, .int (nI k)] [] ((n, z, kd), I, J, F) Q := by
  obtain ⟨k0, k1, k2, k3, k4, k5, k6, k7, k8, f6, f7, f8, f9, f10, f11, f12, f13⟩ := hM
  refine BX5_place_0 hR ?_
  simp (disch := omega) only [nI_ad, nI_ml, nI_lti, nI_lei, nI_eqi, nI_nn, nI_0le, nI_eq0, nI_0lt, nI_le0, nI_clamp, nI_pd, nI_sb, zOf_some, zOp_some, zOp_none, kI_int, kL_long, kO_ref, kO_null, nlt_T, nlt_F, nle_T, nle_F, neq_F, vpT, azUp_at, if_true, if_false, true_and, and_true, true_implies, false_implies, implies_true, not_true_eq_false, not_false_eq_true, true_or, or_true, false_or, or_false, and_false, false_and, eq_self, n01_0, n01_1, nm1_0, k0, k2, f7]
  exact h
theorem S_name (hR : azClosed R) (hM : RuOk kd F r) (hk : k < 12) (h : Q (some (.int (I (r + 3) k))) ((n, z, kd), I, J, F)) : R d mX5_name 0 [.ref r, .int (nI k)] [] ((n, z, kd), I, J, F) Q := by
  obtain ⟨k0, k1, k2, k3, k4, k5, k6, k7, k8, f6, f7, f8, f9, f10, f11, f12, f13⟩ := hM
  refine BX5_name_0 hR ?_
  simp (disch := omega) only [nI_ad, nI_ml, nI_lti, nI_lei, nI_eqi, nI_nn, nI_0le, nI_eq0, nI_0lt, nI_le0, nI_clamp, nI_pd, nI_sb, zOf_some, zOp_some, zOp_none, kI_int, kL_long, kO_ref, kO_null, nlt_T, nlt_F, nle_T, nle_F, neq_F, vpT, azUp_at, if_true, if_false, true_and, and_true, true_implies, false_implies, implies_true, not_true_eq_false, not_false_eq_true, true_or, or_true, false_or, or_false, and_false, false_and, eq_self, n01_0, n01_1, nm1_0, k0, k3, f8]
  exact h
theorem S_begin (hR : azClosed R) (hM : RuOk kd F r) (hk : k < 12) (h : Q (some (.int (I (r + 4) k))) ((n, z, kd), I, J, F)) : R d mX5_begin 0 [.ref r, .int (nI k)] [] ((n, z, kd), I, J, F) Q := by
  obtain ⟨k0, k1, k2, k3, k4, k5, k6, k7, k8, f6, f7, f8, f9, f10, f11, f12, f13⟩ := hM
  refine BX5_begin_0 hR ?_
  simp (disch := omega) only [nI_ad, nI_ml, nI_lti, nI_lei, nI_eqi, nI_nn, nI_0le, nI_eq0, nI_0lt, nI_le0, nI_clamp, nI_pd, nI_sb, zOf_some, zOp_some, zOp_none, kI_int, kL_long, kO_ref, kO_null, nlt_T, nlt_F, nle_T, nle_F, neq_F, vpT, azUp_at, if_true, if_false, true_and, and_true, true_implies, false_implies, implies_true, not_true_eq_false, not_false_eq_true, true_or, or_true, false_or, or_false, and_false, false_and, eq_self, n01_0, n01_1, nm1_0, k0, k4, f9]
  exact h
theorem S_end (hR : azClosed R) (hM : RuOk kd F r) (hk : k < 12) (h : Q (some (.int (I (r + 5) k))) ((n, z, kd), I, J, F)) : R d mX5_end 0 [.ref r, .int (nI k)] [] ((n, z, kd), I, J, F) Q := by
  obtain ⟨k0, k1, k2, k3, k4, k5, k6, k7, k8, f6, f7, f8, f9, f10, f11, f12, f13⟩ := hM
  refine BX5_end_0 hR ?_
  simp (disch := omega) only [nI_ad, nI_ml, nI_lti, nI_lei, nI_eqi, nI_nn, nI_0le, nI_eq0, nI_0lt, nI_le0, nI_clamp, nI_pd, nI_sb, zOf_some, zOp_some, zOp_none, kI_int, kL_long, kO_ref, kO_null, nlt_T, nlt_F, nle_T, nle_F, neq_F, vpT, azUp_at, if_true, if_false, true_and, and_true, true_implies, false_implies, implies_true, not_true_eq_false, not_false_eq_true, true_or, or_true, false_or, or_false, and_false, false_and, eq_self, n01_0, n01_1, nm1_0, k0, k5, f10]
  exact h
theorem S_takeClause (hR : azClosed R) (hM : RuOk kd F r) (hk : k < 3) (h : Q (some (.int (I (r + 6) k))) ((n, z, kd), I, J, F)) : R d mX5_takeClause 0 [.ref r, .int (nI k)] [] ((n, z, kd), I, J, F) Q := by
  obtain ⟨k0, k1, k2, k3, k4, k5, k6, k7, k8, f6, f7, f8, f9, f10, f11, f12, f13⟩ := hM
  refine BX5_takeClause_0 hR ?_
  simp (disch := omega) only [nI_ad, nI_ml, nI_lti, nI_lei, nI_eqi, nI_nn, nI_0le, nI_eq0, nI_0lt, nI_le0, nI_clamp, nI_pd, nI_sb, zOf_some, zOp_some, zOp_none, kI_int, kL_long, kO_ref, kO_null, nlt_T, nlt_F, nle_T, nle_F, neq_F, vpT, azUp_at, if_true, if_false, true_and, and_true, true_implies, false_implies, implies_true, not_true_eq_false, not_false_eq_true, true_or, or_true, false_or, or_false, and_false, false_and, eq_self, n01_0, n01_1, nm1_0, k0, k6, f11]
  exact h
theorem S_giveClause (hR : azClosed R) (hM : RuOk kd F r) (hk : k < 3) (h : Q (some (.int (I (r + 7) k))) ((n, z, kd), I, J, F)) : R d mX5_giveClause 0 [.ref r, .int (nI k)] [] ((n, z, kd), I, J, F) Q := by
  obtain ⟨k0, k1, k2, k3, k4, k5, k6, k7, k8, f6, f7, f8, f9, f10, f11, f12, f13⟩ := hM
  refine BX5_giveClause_0 hR ?_
  simp (disch := omega) only [nI_ad, nI_ml, nI_lti, nI_lei, nI_eqi, nI_nn, nI_0le, nI_eq0, nI_0lt, nI_le0, nI_clamp, nI_pd, nI_sb, zOf_some, zOp_some, zOp_none, kI_int, kL_long, kO_ref, kO_null, nlt_T, nlt_F, nle_T, nle_F, neq_F, vpT, azUp_at, if_true, if_false, true_and, and_true, true_implies, false_implies, implies_true, not_true_eq_false, not_false_eq_true, true_or, or_true, false_or, or_false, and_false, false_and, eq_self, n01_0, n01_1, nm1_0, k0, k7, f12]
  exact h
theorem S_item (hR : azClosed R) (hM : RuOk kd F r) (hk : k < 80) (h : Q (some (.int (I (r + 8) k))) ((n, z, kd), I, J, F)) : R d mX5_item 0 [.ref r, .int (nI k)] [] ((n, z, kd), I, J, F) Q := by
  obtain ⟨k0, k1, k2, k3, k4, k5, k6, k7, k8, f6, f7, f8, f9, f10, f11, f12, f13⟩ := hM
  refine BX5_item_0 hR ?_
  simp (disch := omega) only [nI_ad, nI_ml, nI_lti, nI_lei, nI_eqi, nI_nn, nI_0le, nI_eq0, nI_0lt, nI_le0, nI_clamp, nI_pd, nI_sb, zOf_some, zOp_some, zOp_none, kI_int, kL_long, kO_ref, kO_null, nlt_T, nlt_F, nle_T, nle_F, neq_F, vpT, azUp_at, if_true, if_false, true_and, and_true, true_implies, false_implies, implies_true, not_true_eq_false, not_false_eq_true, true_or, or_true, false_or, or_false, and_false, false_and, eq_self, n01_0, n01_1, nm1_0, k0, k8, f13]
  exact h
theorem S_addItem (hR : azClosed R) (hM : RuOk kd F r) (hc : cR I r cs pd) {x : Nat} (hl : (rCode cs ++ pd).length < 80) (h : ∀ I', cR I' r cs (pd ++ [x]) → (∀ b, b < r ∨ r + 8 < b → I' b = I b) → Q none ((n, z, kd), I', J, F)) : R d mX5_addItem 0 [.ref r, .int (nI x)] [] ((n, z, kd), I, J, F) Q := by
  obtain ⟨k0, k1, k2, k3, k4, k5, k6, k7, k8, f6, f7, f8, f9, f10, f11, f12, f13⟩ := hM
  refine BX5_addItem_0 hR ?_
  obtain ⟨cn, ct, cg, cc, ce, cl, cks, cps, cws, cbs, ces, cts, cgs, cco⟩ := hc
  simp (disch := omega) only [nI_ad, nI_ml, nI_lti, nI_lei, nI_eqi, nI_nn, nI_0le, nI_eq0, nI_0lt, nI_le0, nI_clamp, nI_pd, nI_sb, zOf_some, zOp_some, zOp_none, kI_int, kL_long, kO_ref, kO_null, nlt_T, nlt_F, nle_T, nle_F, neq_F, vpT, azUp_at, if_true, if_false, true_and, and_true, true_implies, false_implies, implies_true, not_true_eq_false, not_false_eq_true, true_or, or_true, false_or, or_false, and_false, false_and, eq_self, n01_0, n01_1, nm1_0, k0, k8, f13, cl, @azUp_nb _ (r + 8) r]
  refine h _ ⟨?_, ?_, ?_, ?_, ?_, ?_, ?_, ?_, ?_, ?_, ?_, ?_, ?_, ?_⟩ ?_
  · rw [azUp_nk (by omega), azUp_nb (by omega)]; exact cn
  · rw [azUp_nk (by omega), azUp_nb (by omega)]; exact ct
  · rw [azUp_nk (by omega), azUp_nb (by omega)]; exact cg
  · rw [azUp_nk (by omega), azUp_nb (by omega)]; exact cc
  · rw [azUp_nk (by omega), azUp_nb (by omega)]; exact ce
  · rw [azUp_s, ← List.append_assoc, List.length_append (as := rCode cs ++ pd)]; rfl
  · rw [azUp_nb (by omega), azUp_nb (by omega)]; exact cks
  · rw [azUp_nb (by omega), azUp_nb (by omega)]; exact cps
  · rw [azUp_nb (by omega), azUp_nb (by omega)]; exact cws
  · rw [azUp_nb (by omega), azUp_nb (by omega)]; exact cbs
  · rw [azUp_nb (by omega), azUp_nb (by omega)]; exact ces
  · rw [azUp_nb (by omega), azUp_nb (by omega)]; exact cts
  · rw [azUp_nb (by omega), azUp_nb (by omega)]; exact cgs
  · rw [azUp_nb (by omega), ← List.append_assoc, List.map_append]
    refine cco.add ?_ ?_
    · rw [List.length_map, azUp_s]
    · intro i hi
      rw [List.length_map] at hi
      rw [azUp_nk hi]
  · intro b hb
    rw [azUp_nb (by omega), azUp_nb (by omega)]
end S5
