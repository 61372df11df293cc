/-! BALANCE: the answers, purely. -/
theorem KX_T {rs : Nat → Option (List Cls)} {T : Nat → T3} (ho : ∀ p cs, p < 10 → rs p = some cs → rlOK cs) (h : TP rs T) (x : Rw) : KX rs x ↔ ∀ i, i < 10 → dotL (d3 (T i)) x pls = 0 := by
  rw [KX_iff ho]
  constructor
  · intro hx i hi
    rcases h.1 i hi with e | ⟨j, j1, j2⟩
    · rw [e]
      exact dotL_v0 fun q _ => d3_none
    · rw [j2]
      exact hx j j1
  · intro hx j hj
    by_cases e : rs j = none
    · unfold chP
      rw [e]
      exact dotL_v0 fun q _ => d3_none
    · obtain ⟨i, i1, i2⟩ := h.2 j hj e
      rw [← i2]
      exact hx i i1
/-- weights of a bound place, small ones -/
def wBd9 (rs : Nat → Option (List Cls)) (f : Nat) (x : Rw) : Prop := wX rs f x ∧ ∀ q, q < 10 → -59049 ≤ x q ∧ x q ≤ 59049
noncomputable def xOf (rs : Nat → Option (List Cls)) (f : Nat) : Rw := @Classical.epsilon Rw ⟨fun _ => 0⟩ (wBd9 rs f)
theorem xOf_spec {rs : Nat → Option (List Cls)} {f : Nat} {x : Rw} (h : wBd9 rs f x) : wBd9 rs f (xOf rs f) := @Classical.epsilon_spec_aux Rw ⟨fun _ => 0⟩ (wBd9 rs f) ⟨x, h⟩
section SVs
variable {rs : Nat → Option (List Cls)} {T : Nat → T3} {V : Nat → Rw} {k : Nat} {lc : Nat → Nat}
theorem SV.free (h : SV rs T V k lc) (ho : ∀ p cs, p < 10 → rs p = some cs → rlOK cs) {f : Nat} (hf : f < 10) : freeP rs f ↔ ∀ a, a < k → lc a ≠ f := by
  obtain ⟨h1, h2, h3⟩ := h
  have hK := KX_T ho h3
  constructor
  · intro hfr a ha e
    exact h1.end_lead h2 (fun x hx => (hK x).mp hx) ha (by rw [e]; exact hfr)
  · intro hn
    exact (h1.end_free h2 hK hf fun a ha e => hn a ha e.symm).1
theorem SV.wb (h : SV rs T V k lc) (ho : ∀ p cs, p < 10 → rs p = some cs → rlOK cs) {f : Nat} (hf : freeP rs f) : wBd9 rs f (xOf rs f) := by
  have hn := (h.free ho hf.1).mp hf
  obtain ⟨h1, h2, h3⟩ := h
  have hK := KX_T ho h3
  refine xOf_spec ⟨(h1.end_free h2 hK hf.1 fun a ha e => hn a ha e.symm).2, fun q hq => ?_⟩
  refine bd_le h2 (crm_bd3 k q (List.nodup_cons.mpr ⟨fun hm => ?_, ldC_nd h1.2.1⟩))
  obtain ⟨a, a1, a2⟩ := ldC_mem.mp hm
  exact hn a a1 a2.symm
theorem SV.wt (h : SV rs T V k lc) (ho : ∀ p cs, p < 10 → rs p = some cs → rlOK cs) {f : Nat} (hf : freeP rs f) {a : Nat} (ha : a < k) : V a f * xOf rs f f + V a (lc a) * xOf rs f (lc a) = 0 := by
  have hn := (h.free ho hf.1).mp hf
  have hw := h.wb ho hf
  obtain ⟨h1, h2, h3⟩ := h
  exact h1.end_weight h2 (KX_T ho h3) hf.1 (fun a ha e => hn a ha e.symm) hw.1 ha
end SVs
/-- how many places are bound before one -/
noncomputable def frCt (rs : Nat → Option (List Cls)) : Nat → Nat
  | 0 => 0
  | p + 1 => frCt rs p + @ite Nat (freeP rs p) (Classical.propDecidable _) 1 0
theorem frCt_1 {rs : Nat → Option (List Cls)} {p : Nat} (h : freeP rs p) : frCt rs (p + 1) = frCt rs p + 1 := by
  show frCt rs p + _ = _
  rw [if_pos h]
theorem frCt_0 {rs : Nat → Option (List Cls)} {p : Nat} (h : ¬ freeP rs p) : frCt rs (p + 1) = frCt rs p := by
  show frCt rs p + _ = _
  rw [if_neg h]
  rfl
theorem frCt_mono {rs : Nat → Option (List Cls)} {p q : Nat} (h : p ≤ q) : frCt rs p ≤ frCt rs q := by
  induction q with
  | zero =>
    obtain rfl : p = 0 := by omega
    exact Nat.le_refl _
  | succ q ih =>
    by_cases e : p = q + 1
    · rw [e]; exact Nat.le_refl _
    · have := ih (by omega)
      by_cases c : freeP rs q
      · rw [frCt_1 c]; omega
      · rw [frCt_0 c]; exact this
theorem frCt_le {rs : Nat → Option (List Cls)} (p : Nat) : frCt rs p ≤ p := by
  induction p with
  | zero => exact Nat.le_refl _
  | succ p ih =>
    by_cases c : freeP rs p
    · rw [frCt_1 c]; omega
    · rw [frCt_0 c]; omega
theorem frCt_inj {rs : Nat → Option (List Cls)} {p q : Nat} (hp : freeP rs p) (hq : freeP rs q) (h : frCt rs p = frCt rs q) : p = q := by
  by_cases c : p < q
  · have := frCt_mono (rs := rs) (show p + 1 ≤ q from c)
    rw [frCt_1 hp] at this
    omega
  · by_cases c2 : q < p
    · have := frCt_mono (rs := rs) (show q + 1 ≤ p from c2)
      rw [frCt_1 hq] at this
      omega
    · omega
/-- the bound place of a number -/
noncomputable def frA (rs : Nat → Option (List Cls)) (i : Nat) : Nat := @Classical.epsilon Nat ⟨0⟩ fun f => freeP rs f ∧ frCt rs f = i
theorem frA_eq {rs : Nat → Option (List Cls)} {f : Nat} (h : freeP rs f) : frA rs (frCt rs f) = f := by
  have := @Classical.epsilon_spec_aux Nat ⟨0⟩ (fun g => freeP rs g ∧ frCt rs g = frCt rs f) ⟨f, h, rfl⟩
  exact frCt_inj this.1 h this.2
theorem frCt_lt {rs : Nat → Option (List Cls)} {f : Nat} (h : freeP rs f) : frCt rs f < frCt rs 10 := by
  have := frCt_mono (rs := rs) (show f + 1 ≤ 10 from h.1)
  rw [frCt_1 h] at this
  exact this
/-- a bound place's weight for a place -/
noncomputable def wF (rs : Nat → Option (List Cls)) (f q : Nat) : Int × Int := rdc (xOf rs f q) (xOf rs f f)
/-- weights over the tokens before a place -/
noncomputable def sX (rs : Nat → Option (List Cls)) (m : Mk) (f : Nat) : Nat → Int
  | 0 => 0
  | p + 1 => sX rs m f p + xOf rs f p * ((m p).length : Int)
noncomputable def sF (rs : Nat → Option (List Cls)) (m : Mk) (f p : Nat) : Int × Int := rdc (sX rs m f p) (xOf rs f f)
noncomputable def aInv (st : St) : Int32 := nI (frCt (rsOf st.2.1) 10)
noncomputable def aWeight (st : St) (x y w : Int32) : Int64 := match ix x (frCt (rsOf st.2.1) 10) with
  | none => -9223372036854775808
  | some i => match ix y 10 with
    | none => -9223372036854775808
    | some q => match ix w 2 with
      | none => -9223372036854775808
      | some s => if s = 0 then lO (wF (rsOf st.2.1) (frA (rsOf st.2.1) i) q).1 else lO (wF (rsOf st.2.1) (frA (rsOf st.2.1) i) q).2
noncomputable def aSum (st : St) (x w : Int32) : Int32 := match ix x (frCt (rsOf st.2.1) 10) with
  | none => -(nI 1)
  | some i => match ix w 2 with
    | none => -(nI 1)
    | some s => if s = 0 then (lO (sF (rsOf st.2.1) st.1 (frA (rsOf st.2.1) i) 10).1).toInt32 else (lO (sF (rsOf st.2.1) st.1 (frA (rsOf st.2.1) i) 10).2).toInt32
theorem rdc_eqv {a b c e : Int} (hb : b ≠ 0) (he : e ≠ 0) (h : a * e = c * b) : rdc a b = rdc c e := by
  have h1 := rdc_eq (a := c) he
  refine rdc_uniq (n := (rdc c e).1) (d := (rdc c e).2) hb (rdc_pos he) (rdc_cop he) ?_
  generalize rdc c e = u at h1 ⊢
  refine Int.eq_of_mul_eq_mul_right he ?_
  rw [Int.mul_right_comm, h1, Int.mul_assoc, ← h, Int.mul_assoc]
theorem rdc_bd2 {a b B : Int} (hb : b ≠ 0) (ha : -B ≤ a ∧ a ≤ B) (hbb : -B ≤ b ∧ b ≤ B) : (-B ≤ (rdc a b).1 ∧ (rdc a b).1 ≤ B) ∧ 0 < (rdc a b).2 ∧ (rdc a b).2 ≤ B := by
  have := rdc_bd (n := a) (m := b) hb hb (Int.mul_comm _ _) ha hbb
  exact ⟨this.1, rdc_pos hb, this.2⟩
theorem rdc_self {b : Int} (hb : b ≠ 0) : rdc b b = (1, 1) := rdc_uniq hb (by decide) (by decide) rfl
theorem rdc_0 {b : Int} (hb : b ≠ 0) : rdc 0 b = (0, 1) := rdc_uniq hb (by decide) (by decide) (by omega)
theorem rdc_1 {x y : Int} (hp : 0 < y) (hc : Int.gcd x y = 1) : rdc x y = (x, y) := rdc_uniq (by omega) hp hc (Int.mul_comm _ _)
section SVs
variable {rs : Nat → Option (List Cls)} {T : Nat → T3} {V : Nat → Rw} {k : Nat} {lc : Nat → Nat}
/-- a leader's place: its weight from its row -/
theorem SV.w1 (h : SV rs T V k lc) (ho : ∀ p cs, p < 10 → rs p = some cs → rlOK cs) {f : Nat} (hf : freeP rs f) {a : Nat} (ha : a < k) : wF rs f (lc a) = rdc (-(V a f)) (V a (lc a)) := by
  have e := h.wt ho hf ha
  have hw := h.wb ho hf
  have hv := (h.1.2.2.2.1 a ha).1
  refine rdc_eqv hw.1.2.1 hv ?_
  rw [Int.neg_mul, Int.mul_comm (xOf rs f (lc a))]
  omega
theorem SV.w0 (h : SV rs T V k lc) (ho : ∀ p cs, p < 10 → rs p = some cs → rlOK cs) {f q : Nat} (hf : freeP rs f) (hq : freeP rs q) : wF rs f q = if q = f then (1, 1) else (0, 1) := by
  have hw := h.wb ho hf
  unfold wF
  by_cases e : q = f
  · rw [if_pos e, e, rdc_self hw.1.2.1]
  · rw [if_neg e, hw.1.2.2 q hq.1 e hq, rdc_0 hw.1.2.1]
theorem SV.wbd (h : SV rs T V k lc) (ho : ∀ p cs, p < 10 → rs p = some cs → rlOK cs) {f q : Nat} (hf : freeP rs f) (hq : q < 10) : (-59049 ≤ (wF rs f q).1 ∧ (wF rs f q).1 ≤ 59049) ∧ 0 < (wF rs f q).2 ∧ (wF rs f q).2 ≤ 59049 := by
  have hw := h.wb ho hf
  exact rdc_bd2 hw.1.2.1 (hw.2 q hq) (hw.2 f hf.1)
theorem sX_bd {m : Mk} {f : Nat} (hw : wBd9 rs f (xOf rs f)) (hm : mOK m) : ∀ p : Nat, p ≤ 10 → -(354294 * p : Int) ≤ sX rs m f p ∧ sX rs m f p ≤ 354294 * p := by
  intro p
  induction p with
  | zero => intro _; show -(354294 * ((0 : Nat) : Int)) ≤ 0 ∧ 0 ≤ 354294 * ((0 : Nat) : Int); omega
  | succ p ih =>
    intro hp
    have h1 := ih (by omega)
    have h2 := hw.2 p (by omega)
    have h3 : (m p).length ≤ 6 := (hm.1 p).1
    have h4 := mul_bd (B := 6) h2 (show -6 ≤ ((m p).length : Int) ∧ ((m p).length : Int) ≤ 6 by omega)
    show _ ≤ sX rs m f p + _ ∧ sX rs m f p + _ ≤ _
    omega
theorem sF_bd {m : Mk} {f p : Nat} (hf : f < 10) (hw : wBd9 rs f (xOf rs f)) (hm : mOK m) (hp : p ≤ 10) : (-3542940 ≤ (sF rs m f p).1 ∧ (sF rs m f p).1 ≤ 3542940) ∧ 0 < (sF rs m f p).2 ∧ (sF rs m f p).2 ≤ 3542940 := by
  have h1 := sX_bd hw hm p hp
  have h2 := hw.2 f hf
  exact rdc_bd2 hw.1.2.1 (by omega) (by omega)
/-- one place more -/
theorem sF_s {m : Mk} {f p : Nat} (hw : wBd9 rs f (xOf rs f)) : sF rs m f (p + 1) = rdc ((sF rs m f p).1 * (wF rs f p).2 + (wF rs f p).1 * ((m p).length : Int) * (sF rs m f p).2) ((sF rs m f p).2 * (wF rs f p).2) ∧ (sF rs m f p).2 * (wF rs f p).2 ≠ 0 := by
  have hx := hw.1.2.1
  have a1 := rdc_eq (a := sX rs m f p) hx
  have a2 := rdc_eq (a := xOf rs f p) hx
  have p1 := rdc_pos (a := sX rs m f p) hx
  have p2 := rdc_pos (a := xOf rs f p) hx
  have hne : (sF rs m f p).2 * (wF rs f p).2 ≠ 0 := Int.mul_ne_zero (by unfold sF; omega) (by unfold wF; omega)
  refine ⟨rdc_eqv hx hne ?_, hne⟩
  show (sX rs m f p + xOf rs f p * ((m p).length : Int)) * (_ * _) = _
  unfold sF wF
  generalize rdc (sX rs m f p) (xOf rs f f) = u at a1 ⊢
  generalize rdc (xOf rs f p) (xOf rs f f) = v at a2 ⊢
  generalize sX rs m f p = s at a1 ⊢
  generalize xOf rs f f = D at a1 a2 ⊢
  generalize xOf rs f p = y at a2 ⊢
  generalize ((m p).length : Int) = c
  grind
end SVs
theorem frCt_ex {rs : Nat → Option (List Cls)} {i : Nat} : ∀ {p}, i < frCt rs p → ∃ f, freeP rs f ∧ frCt rs f = i := by
  intro p
  induction p with
  | zero => intro h; exact absurd h (Nat.not_lt_zero _)
  | succ p ih =>
    intro h
    by_cases c : freeP rs p
    · rw [frCt_1 c] at h
      by_cases e : i = frCt rs p
      · exact ⟨p, c, e.symm⟩
      · exact ih (by omega)
    · rw [frCt_0 c] at h
      exact ih h
