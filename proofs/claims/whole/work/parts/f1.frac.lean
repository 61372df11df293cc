/-! BALANCE: the reference's rows, as whole numbers with a factor each. -/
theorem mul_can {a b c : Int} (h : c ≠ 0) (e : a * c = b * c) : a = b := Int.eq_of_mul_eq_mul_right h e
/-- fractions in lowest terms, with whole rows W and factors c; no rows from ro on -/
def FR (V : Nat → Nat → Int × Int) (W : Nat → Rw) (c : Nat → Int) (ro : Nat) : Prop := (∀ i, i < ro → c i ≠ 0 ∧ ∀ q, q < 10 → 0 < (V i q).2 ∧ Int.gcd (V i q).1 (V i q).2 = 1 ∧ (V i q).1 * c i = W i q * (V i q).2) ∧ ∀ i, ro ≤ i → i < 10 → ∀ q, W i q = 0
/-- rows that are no leaders, exactly; leaders have 1 in their column -/
def EX (T : Nat → T3) (W : Nat → Rw) (c : Nat → Int) (k : Nat) (lc : Nat → Nat) : Prop := (∀ i, k ≤ i → i < 10 → ∀ x, (∀ a, a < k → dotL (d3 (T a)) x pls = 0) → dotL (W i) x pls = c i * dotL (d3 (T i)) x pls) ∧ ∀ a, a < k → W a (lc a) = c a
section EL
variable {T : Nat → T3} {V : Nat → Nat → Int × Int} {W : Nat → Rw} {c : Nat → Int} {k p ro : Nat} {lc : Nat → Nat}
/-- how large they are -/
theorem FR.bound (hF : FR V W c ro) (hX : EX T W c k lc) (h : EI (fun i => d3 (T i)) W k p lc) (hk : k ≤ 10) (hp : p ≤ 10) (hr : ro ≤ 10) {i : Nat} (hi : i < ro) : ∀ j, j < 10 → (-59049 ≤ (V i j).1 ∧ (V i j).1 ≤ 59049) ∧ 0 < (V i j).2 ∧ (V i j).2 ≤ 59049 := by
  have hi10 : i < 10 := by omega
  intro j hj
  obtain ⟨hc, hv⟩ := hF.1 i hi
  obtain ⟨v1, v2, v3⟩ := hv j hj
  have nd := ldC_nd (k := k) h.2.1
  have fin : ∀ n m : Int, m ≠ 0 → (-59049 ≤ n ∧ n ≤ 59049) → (-59049 ≤ m ∧ m ≤ 59049) → W i j * m = c i * n → (-59049 ≤ (V i j).1 ∧ (V i j).1 ≤ 59049) ∧ 0 < (V i j).2 ∧ (V i j).2 ≤ 59049 := fun n m hm hn hmb e => by
    have e2 : (V i j).1 * m = (V i j).2 * n := mul_can hc (by grind)
    have := rdc_bd (B := 59049) (show (V i j).2 ≠ 0 by omega) hm e2 hn hmb
    rw [rdc_1 v1 v2] at this
    exact ⟨this.1, v1, this.2⟩
  by_cases cj : j ∈ ldC lc k
  · obtain ⟨a, a1, a2⟩ := ldC_mem.mp cj
    by_cases e : i = a
    · refine fin 1 1 (by decide) (by decide) (by decide) ?_
      rw [a2, e, hX.2 a a1]
    · refine fin 0 1 (by decide) (by decide) (by decide) ?_
      rw [a2, (h.2.2.2.1 a a1).2 i hi10 e]
      omega
  · have hn : ∀ a, a < k → j ≠ lc a := fun a a1 a2 => cj (ldC_mem.mpr ⟨a, a1, a2⟩)
    have hD := h.2.2.1
    have bD := bd_le hk (dt_bd (T := T) k (ldC lc k))
    by_cases ci : k ≤ i
    · obtain ⟨o1, o2, o3⟩ := h.minors hp hj hn
      have lt : ∀ q ∈ j :: ldC lc k, q < 10 := fun q hq => by
        rcases List.mem_cons.mp hq with e | e
        · omega
        · obtain ⟨a, a1, a2⟩ := ldC_mem.mp e
          have := h.1 a a1
          omega
      have e1 := hX.1 i ci hi10 _ o1
      rw [h.dots hp hj hn, crm_pls o2 lt, dotL_v0 fun c hc => ?_, Int.add_zero] at e1
      · exact fin _ _ hD (bd_le (by omega) (dt_bd1 k i _)) bD e1
      · obtain ⟨a, a1, a2⟩ := ldC_mem.mp hc
        rw [a2]
        exact (h.2.2.2.1 a a1).2 i hi10 (by omega)
    · have e1 := h.lead hk hp (a := i) (by omega) hj hn
      rw [hX.2 i (by omega)] at e1
      have b2 := bd_le hk (crm_bd3 (T := T) k (lc i) (List.nodup_cons.mpr ⟨cj, nd⟩))
      refine fin (-(crm (ldR (fun i => d3 (T i)) k) (j :: ldC lc k) (lc i))) _ hD (by omega) bD ?_
      rw [Int.mul_neg]
      omega
theorem FR.swp (hF : FR V W c ro) {r k : Nat} (hr : r < ro) (hk : k < ro) : FR (fun i => V (swq r k i)) (fun i => W (swq r k i)) (fun i => c (swq r k i)) ro := by
  refine ⟨fun i hi => hF.1 _ ?_, fun i h1 h2 q => ?_⟩
  · unfold swq
    split
    · exact hk
    · split
      · exact hr
      · exact hi
  · dsimp only
    rw [swp_o (by omega) (by omega)]
    exact hF.2 i h1 h2 q
theorem EX.swp (h : EX T W c k lc) {r : Nat} (hr : r < 10) (hk : k ≤ r) : EX (fun i => T (swq r k i)) (fun i => W (swq r k i)) (fun i => c (swq r k i)) k lc := by
  have o : ∀ a, a < k → swq r k a = a := fun a ha => swp_o (by omega) (by omega)
  refine ⟨fun i h1 h2 x hx => h.1 _ ?_ (swp_lt hr (by omega) h2) x fun a ha => ?_, fun a ha => ?_⟩
  · by_cases e1 : i = r
    · rw [e1, swp_r]; omega
    · by_cases e2 : i = k
      · rw [e2, swp_k]; exact hk
      · rw [swp_o e1 e2]; exact h1
  · have := hx a ha
    dsimp only at this
    rw [o a ha] at this
    exact this
  · dsimp only
    rw [o a ha]
    exact h.2 a ha
/-- the rows after one place -/
def nV1 (V : Nat → Nat → Int × Int) (k p : Nat) (i q : Nat) : Int × Int := if i = k then rdc ((V k q).1 * (V k p).2) ((V k q).2 * (V k p).1) else V i q
def nV2 (V : Nat → Nat → Int × Int) (k p ro : Nat) (i q : Nat) : Int × Int := if i < ro ∧ i ≠ k then rdc (lesN (nV1 V k p) i k (V i p).1 (V i p).2 q) (lesD (nV1 V k p) i k (V i p).2 q) else nV1 V k p i q
def nW (W : Nat → Rw) (k p : Nat) (i : Nat) : Rw := fun q => if i = k then W k q else W i q * W k p - W i p * W k q
def nc (W : Nat → Rw) (c : Nat → Int) (k p : Nat) (i : Nat) : Int := if i = k then W k p else c i * W k p
theorem FR.pivot (hF : FR V W c ro) (hk : k < ro) (hp : p < 10) (hv : (V k p).1 ≠ 0) : W k p ≠ 0 ∧ ∀ q, q < 10 → 0 < (nV1 V k p k q).2 ∧ Int.gcd (nV1 V k p k q).1 (nV1 V k p k q).2 = 1 ∧ (nV1 V k p k q).1 * W k p = W k q * (nV1 V k p k q).2 := by
  obtain ⟨hc, h1⟩ := hF.1 k hk
  obtain ⟨b1, b2, b3⟩ := h1 p hp
  have hw : W k p ≠ 0 := fun e => by
    rw [e, Int.zero_mul] at b3
    rcases Int.mul_eq_zero.mp b3 with h | h
    · exact hv h
    · exact hc h
  refine ⟨hw, fun q hq => ?_⟩
  obtain ⟨c1, c2, c3⟩ := h1 q hq
  have hne : (V k q).2 * (V k p).1 ≠ 0 := Int.mul_ne_zero (by omega) hv
  have e : nV1 V k p k q = rdc ((V k q).1 * (V k p).2) ((V k q).2 * (V k p).1) := by
    unfold nV1
    rw [if_pos rfl]
  rw [e]
  have h0 := rdc_eq (a := (V k q).1 * (V k p).2) hne
  refine ⟨rdc_pos hne, rdc_cop hne, ?_⟩
  generalize rdc ((V k q).1 * (V k p).2) ((V k q).2 * (V k p).1) = u at h0 ⊢
  have hz : (V k q).2 * (V k p).2 ≠ 0 := Int.mul_ne_zero (by omega) (by omega)
  refine mul_can hz ?_
  generalize V k q = v at *
  generalize V k p = b at *
  generalize W k q = w at *
  generalize W k p = wp at *
  have : u.1 * (v.2 * b.1) * c k = u.2 * (v.1 * b.2) * c k := by rw [h0]
  grind
theorem FR.less (hF : FR V W c ro) (hk : k < ro) (hp : p < 10) (hv : (V k p).1 ≠ 0) {i : Nat} (hi : i < ro) (hne : i ≠ k) : nc W c k p i ≠ 0 ∧ ∀ q, q < 10 → lesD (nV1 V k p) i k (V i p).2 q ≠ 0 ∧ 0 < (nV2 V k p ro i q).2 ∧ Int.gcd (nV2 V k p ro i q).1 (nV2 V k p ro i q).2 = 1 ∧ (nV2 V k p ro i q).1 * nc W c k p i = nW W k p i q * (nV2 V k p ro i q).2 := by
  obtain ⟨hw, hpv⟩ := hF.pivot hk hp hv
  obtain ⟨hc, h1⟩ := hF.1 i hi
  obtain ⟨b1, b2, b3⟩ := h1 p hp
  have ec : nc W c k p i = c i * W k p := if_neg hne
  rw [ec]
  refine ⟨Int.mul_ne_zero hc hw, fun q hq => ?_⟩
  obtain ⟨c1, c2, c3⟩ := h1 q hq
  obtain ⟨d1, d2, d3⟩ := hpv q hq
  have eV : nV1 V k p i q = V i q := if_neg hne
  have eD : lesD (nV1 V k p) i k (V i p).2 q = (V i q).2 * ((nV1 V k p k q).2 * (V i p).2) := by
    unfold lesD
    rw [eV]
  have eN : lesN (nV1 V k p) i k (V i p).1 (V i p).2 q = (V i q).1 * ((nV1 V k p k q).2 * (V i p).2) - (nV1 V k p k q).1 * (V i p).1 * (V i q).2 := by
    unfold lesN
    rw [eV]
  have hD : lesD (nV1 V k p) i k (V i p).2 q ≠ 0 := by
    rw [eD]
    exact Int.mul_ne_zero (by omega) (Int.mul_ne_zero (by omega) (by omega))
  have e2 : nV2 V k p ro i q = rdc (lesN (nV1 V k p) i k (V i p).1 (V i p).2 q) (lesD (nV1 V k p) i k (V i p).2 q) := if_pos ⟨hi, hne⟩
  have eW : nW W k p i q = W i q * W k p - W i p * W k q := if_neg hne
  rw [e2, eW]
  have h0 := rdc_eq (a := lesN (nV1 V k p) i k (V i p).1 (V i p).2 q) hD
  refine ⟨hD, rdc_pos hD, rdc_cop hD, ?_⟩
  generalize rdc (lesN (nV1 V k p) i k (V i p).1 (V i p).2 q) (lesD (nV1 V k p) i k (V i p).2 q) = u at h0 ⊢
  refine mul_can hD ?_
  rw [eN, eD] at h0
  rw [eD]
  generalize V i q = v at *
  generalize V i p = b at *
  generalize nV1 V k p k q = t at *
  have h2 : u.1 * (v.2 * (t.2 * b.2)) * (c i * W k p) = u.2 * (v.1 * (t.2 * b.2) - t.1 * b.1 * v.2) * (c i * W k p) := by rw [h0]
  have h3 : (v.1 * (t.2 * b.2) - t.1 * b.1 * v.2) * (c i * W k p) = (W i q * W k p - W i p * W k q) * (v.2 * (t.2 * b.2)) := by grind
  grind
theorem FR.step (hF : FR V W c ro) (hk : k < ro) (hp : p < 10) (hv : (V k p).1 ≠ 0) : FR (nV2 V k p ro) (fun i => nW W k p i) (fun i => nc W c k p i) ro := by
  obtain ⟨hw, hpv⟩ := hF.pivot hk hp hv
  refine ⟨fun i hi => ?_, fun i h1 h2 q => ?_⟩
  · by_cases e : i = k
    · subst e
      have e1 : nc W c i p i = W i p := if_pos rfl
      refine ⟨by dsimp only; rw [e1]; exact hw, fun q hq => ?_⟩
      have e2 : nV2 V i p ro i q = nV1 V i p i q := if_neg fun h => h.2 rfl
      have e3 : nW W i p i q = W i q := if_pos rfl
      dsimp only
      rw [e2, e1, e3]
      exact hpv q hq
    · obtain ⟨h1, h2⟩ := hF.less hk hp hv hi e
      exact ⟨h1, fun q hq => (h2 q hq).2⟩
  · have hne : i ≠ k := by omega
    have e3 : nW W k p i q = W i q * W k p - W i p * W k q := if_neg hne
    dsimp only
    rw [e3, hF.2 i h1 h2, hF.2 i h1 h2]
    omega
theorem EI.frac_step (h : EI (fun i => d3 (T i)) W k p lc) (hk : k < 10) (hp : p < 10) (hv : W k p ≠ 0) : EI (fun i => d3 (T i)) (fun i => nW W k p i) (k + 1) (p + 1) (fun a => if a = k then p else lc a) := by
  refine h.lead_step hk hp hv ⟨1, 1, by decide, by decide, fun q hq => ?_⟩ fun i hi hne => ⟨?_, 1, W k p, W i p, by decide, hv, fun q hq => ?_⟩
  · have e3 : nW W k p k q = W k q := if_pos rfl
    rw [e3]
  · have e3 : nW W k p i p = W i p * W k p - W i p * W k p := if_neg hne
    rw [e3]
    omega
  · have e3 : nW W k p i q = W i q * W k p - W i p * W k q := if_neg hne
    rw [e3]
    grind
theorem EX.step (hX : EX T W c k lc) (h : EI (fun i => d3 (T i)) W k p lc) (hk : k < 10) (hp : p < 10) : EX T (fun i => nW W k p i) (fun i => nc W c k p i) (k + 1) (fun a => if a = k then p else lc a) := by
  refine ⟨fun i h1 h2 x hx => ?_, fun a ha => ?_⟩
  · have hne : i ≠ k := by omega
    have d1 := hX.1 i (by omega) h2 x fun a ha => hx a (by omega)
    have d2 := hX.1 k (Nat.le_refl k) hk x fun a ha => hx a (by omega)
    rw [hx k (by omega), Int.mul_zero] at d2
    have ec : nc W c k p i = c i * W k p := if_neg hne
    have := dotL_rel (l := 1) (m := W k p) (e := W i p) (v' := nW W k p i) (v := W i) (w := W k) (x := x) (T := pls) fun q _ => by
      have e3 : nW W k p i q = W i q * W k p - W i p * W k q := if_neg hne
      rw [e3]
      grind
    dsimp only
    rw [ec]
    grind
  · dsimp only
    by_cases e : a = k
    · rw [if_pos e, e]
      have e1 : nc W c k p k = W k p := if_pos rfl
      have e3 : nW W k p k p = W k p := if_pos rfl
      rw [e1, e3]
    · rw [if_neg e]
      have ec : nc W c k p a = c a * W k p := if_neg e
      have e3 : nW W k p a (lc a) = W a (lc a) * W k p - W a p * W k (lc a) := if_neg e
      rw [ec, e3, hX.2 a (by omega), (h.2.2.2.1 a (by omega)).2 k hk (by omega)]
      omega
/-- the start -/
theorem FR.start (hT : ∀ i, ro ≤ i → i < 10 → T i = ((10, 10), (10, 10), (10, 10))) (hV : ∀ i, i < ro → ∀ q, q < 10 → V i q = (d3 (T i) q, 1)) : FR V (fun i => d3 (T i)) (fun _ => 1) ro := by
  refine ⟨fun i hi => ⟨(show (1 : Int) ≠ 0 by decide), fun q hq => ?_⟩, fun i h1 h2 q => ?_⟩
  · rw [hV i hi q hq]
    exact ⟨(show (0 : Int) < 1 by decide), Int.gcd_one_right _, rfl⟩
  · dsimp only
    rw [hT i h1 h2]
    exact d3_none
end EL
