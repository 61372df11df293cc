/-! THE REFERENCE: binds: all choices in order, by their codes. -/
theorem nI_dv {a b : Nat} (ha : a < 2 ^ 31) (hb : b < 2 ^ 31) : nI a / nI b = nI (a / b) := by
  have h1 := nI_toInt ha
  have hq : a / b < 2 ^ 31 := Nat.lt_of_le_of_lt (Nat.div_le_self a b) ha
  rw [← Int32.toInt_inj, Int32.toInt_div_of_ne_left, h1, nI_toInt hb, nI_toInt hq]
  · rfl
  · intro e
    rw [e] at h1
    have : Int32.minValue.toInt = -2147483648 := by decide
    omega
theorem fM_congr {α β : Type} {l : List α} {f g : α → List β} (h : ∀ a, a ∈ l → f a = g a) : l.flatMap f = l.flatMap g := by
  induction l with
  | nil => rfl
  | cons a l ih => rw [List.flatMap_cons, List.flatMap_cons, h a (List.mem_cons_self ..), ih fun x hx => h x (List.mem_cons_of_mem _ hx)]
/-- how many choices there are for takes from k on -/
def pdL (L : Nat → Nat) : Nat → Nat → Nat
  | _, 0 => 1
  | k, r + 1 => L k * pdL L (k + 1) r
/-- the choice of a code -/
def dgs (L : Nat → Nat) : Nat → Nat → Nat → List Nat
  | _, 0, _ => []
  | k, r + 1, c => (c / pdL L (k + 1) r % L k) :: dgs L (k + 1) r c
theorem dgs_len {L : Nat → Nat} {c : Nat} : ∀ (r k : Nat), (dgs L k r c).length = r := by
  intro r
  induction r with
  | zero => intro k; rfl
  | succ r ih =>
    intro k
    have e : dgs L k (r + 1) c = (c / pdL L (k + 1) r % L k) :: dgs L (k + 1) r c := rfl
    rw [e, List.length_cons, ih]
theorem dgs_get {L : Nat → Nat} {c : Nat} : ∀ (r k i : Nat), i < r → (dgs L k r c).getD i 0 = c / pdL L (k + i + 1) (r - i - 1) % L (k + i) := by
  intro r
  induction r with
  | zero => intro k i h; exact absurd h (Nat.not_lt_zero _)
  | succ r ih =>
    intro k i h
    have e : dgs L k (r + 1) c = (c / pdL L (k + 1) r % L k) :: dgs L (k + 1) r c := rfl
    rw [e]
    cases i with
    | zero => rfl
    | succ i =>
      rw [List.getD_cons_succ, ih (k + 1) i (by omega), show k + 1 + i + 1 = k + (i + 1) + 1 by omega, show k + 1 + i = k + (i + 1) by omega, show r + 1 - (i + 1) - 1 = r - i - 1 by omega]
theorem dgs_add {L : Nat → Nat} : ∀ (r k q c : Nat), dgs L k r (q * pdL L k r + c) = dgs L k r c := by
  intro r
  induction r with
  | zero => intro k q c; rfl
  | succ r ih =>
    intro k q c
    have e : ∀ c, dgs L k (r + 1) c = (c / pdL L (k + 1) r % L k) :: dgs L (k + 1) r c := fun _ => rfl
    have ep : pdL L k (r + 1) = L k * pdL L (k + 1) r := rfl
    rw [e, e, ep]
    have e2 : q * (L k * pdL L (k + 1) r) = (q * L k) * pdL L (k + 1) r := by rw [Nat.mul_assoc]
    rw [e2, ih]
    congr 1
    by_cases hz : pdL L (k + 1) r = 0
    · rw [hz, Nat.div_zero, Nat.div_zero]
    · rw [Nat.add_comm, Nat.add_mul_div_right _ _ (Nat.pos_of_ne_zero hz), Nat.add_mul_mod_self_right]
theorem range_mul (a b : Nat) : List.range (a * b) = (List.range a).flatMap fun i => (List.range b).map (i * b + ·) := by
  induction a with
  | zero => simp
  | succ a ih => rw [Nat.succ_mul, List.range_add, ih, List.range_succ, List.flatMap_append]; simp
/-- all choices, in order -/
def chsL (L : Nat → Nat) : Nat → List Nat → List (List Nat)
  | 0, ch => [ch]
  | r + 1, ch => (List.range (L ch.length)).flatMap fun i => chsL L r (ch ++ [i])
theorem chsL_eq {L : Nat → Nat} : ∀ (r : Nat) (ch : List Nat), chsL L r ch = (List.range (pdL L ch.length r)).map fun c => ch ++ dgs L ch.length r c := by
  intro r
  induction r with
  | zero =>
    intro ch
    show [ch] = (List.range 1).map fun c => ch ++ []
    simp
  | succ r ih =>
    intro ch
    have ea : chsL L (r + 1) ch = (List.range (L ch.length)).flatMap fun i => chsL L r (ch ++ [i]) := rfl
    have ep : pdL L ch.length (r + 1) = L ch.length * pdL L (ch.length + 1) r := rfl
    have ed : ∀ c, dgs L ch.length (r + 1) c = (c / pdL L (ch.length + 1) r % L ch.length) :: dgs L (ch.length + 1) r c := fun _ => rfl
    rw [ea, ep, range_mul, List.map_flatMap]
    refine fM_congr fun i hi => ?_
    have hi := List.mem_range.mp hi
    rw [ih, List.map_map]
    have el : (ch ++ [i]).length = ch.length + 1 := by simp
    rw [el]
    refine List.map_congr_left fun c hc => ?_
    have hc := List.mem_range.mp hc
    show ch ++ [i] ++ dgs L (ch.length + 1) r c = ch ++ dgs L ch.length (r + 1) (i * pdL L (ch.length + 1) r + c)
    rw [ed, dgs_add, Nat.add_comm (i * _) c, Nat.add_mul_div_right _ _ (by omega), Nat.div_eq_of_lt hc, Nat.zero_add, Nat.mod_eq_of_lt hi, List.append_assoc]
    rfl
/-- where a choice begins so, it goes on so -/
theorem chsL_pre {L : Nat → Nat} : ∀ (r : Nat) (ch x : List Nat), x ∈ chsL L r ch → x.length = ch.length + r ∧ ∀ h, h < ch.length → lF x h = lF ch h := by
  intro r
  induction r with
  | zero =>
    intro ch x hx
    have hx : x ∈ [ch] := hx
    rw [List.mem_singleton] at hx
    subst hx
    exact ⟨rfl, fun _ _ => rfl⟩
  | succ r ih =>
    intro ch x hx
    have ea : chsL L (r + 1) ch = (List.range (L ch.length)).flatMap fun i => chsL L r (ch ++ [i]) := rfl
    rw [ea] at hx
    obtain ⟨i, hi, hx⟩ := List.mem_flatMap.mp hx
    obtain ⟨h1, h2⟩ := ih _ x hx
    have el : (ch ++ [i]).length = ch.length + 1 := by simp
    rw [el] at h1 h2
    exact ⟨by omega, fun h hh => by rw [h2 h (by omega)]; exact lF_app hh⟩
theorem bnL_all {cs : List Cls} {m : Mk} : ∀ (r : Nat) (ch : List Nat), ch.length + r = nTk cs → (∀ k, k < ch.length → frB cs m (lF ch) k (lF ch k) = true) → bnL cs m r ch = (chsL (fun k => (m (tkP cs k)).length) r ch).filter fun x => isB cs m (lF x) := by
  intro r
  induction r with
  | zero =>
    intro ch hl hfr
    have ea : chsL (fun k => (m (tkP cs k)).length) 0 ch = [ch] := rfl
    have eb : bnL cs m 0 ch = if cndB (nmF cs m (lF ch)) cs then [ch] else [] := rfl
    have ei : isB cs m (lF ch) = cndB (nmF cs m (lF ch)) cs := by
      unfold isB
      rw [List.all_eq_true.mpr fun k hk => hfr k (by have := List.mem_range.mp hk; omega), Bool.true_and]
    rw [ea, eb, List.filter_cons, ei, List.filter_nil]
  | succ r ih =>
    intro ch hl hfr
    have ea : chsL (fun k => (m (tkP cs k)).length) (r + 1) ch = (List.range (m (tkP cs ch.length)).length).flatMap fun i => chsL (fun k => (m (tkP cs k)).length) r (ch ++ [i]) := rfl
    have eb : bnL cs m (r + 1) ch = (List.range (m (tkP cs ch.length)).length).flatMap fun i => if frB cs m (lF ch) ch.length i then bnL cs m r (ch ++ [i]) else [] := rfl
    rw [ea, eb, List.filter_flatMap]
    refine fM_congr fun i hi => ?_
    have el : (ch ++ [i]).length = ch.length + 1 := by simp
    have cong : ∀ {x : List Nat} k, k ≤ ch.length → (∀ h, h < ch.length + 1 → lF x h = lF (ch ++ [i]) h) → frB cs m (lF x) k (lF x k) = frB cs m (lF ch) k (lF (ch ++ [i]) k) := fun k hk hx => by
      rw [hx k (by omega)]
      exact frB_cong fun j hj => by rw [hx j (by omega)]; exact lF_app (by omega)
    by_cases c : frB cs m (lF ch) ch.length i = true
    · rw [if_pos c]
      refine ih _ (by omega) fun k hk => ?_
      rw [el] at hk
      rw [cong k (by omega) fun _ _ => rfl]
      by_cases e : k = ch.length
      · subst e; rw [lF_last]; exact c
      · rw [lF_app (by omega)]; exact hfr k (by omega)
    · rw [if_neg c]
      symm
      rw [List.filter_eq_nil_iff]
      intro x hx
      obtain ⟨h1, h2⟩ := chsL_pre r _ x hx
      rw [el] at h1 h2
      have h3 := cong (x := x) ch.length (Nat.le_refl _) h2
      rw [lF_last] at h3
      intro hb
      unfold isB at hb
      rw [Bool.and_eq_true, List.all_eq_true] at hb
      have := hb.1 ch.length (List.mem_range.mpr (by omega))
      rw [h3] at this
      exact c this
/-- the bindings are the codes that are bindings -/
theorem bnds_codes (cs : List Cls) (m : Mk) : bnds cs m = ((List.range (pdL (fun k => (m (tkP cs k)).length) 0 (nTk cs))).map (dgs (fun k => (m (tkP cs k)).length) 0 (nTk cs))).filter fun x => isB cs m (lF x) := by
  unfold bnds
  rw [bnL_all (nTk cs) [] (Nat.zero_add _) fun k hk => absurd hk (Nat.not_lt_zero _), chsL_eq]
  rfl
theorem pdL_le {L : Nat → Nat} (h : ∀ k, L k ≤ 6) : ∀ (r k : Nat), pdL L k r ≤ 6 ^ r := by
  intro r
  induction r with
  | zero => intro k; exact Nat.le_refl _
  | succ r ih =>
    intro k
    have ep : pdL L k (r + 1) = L k * pdL L (k + 1) r := rfl
    rw [ep, Nat.pow_succ, Nat.mul_comm]
    exact Nat.mul_le_mul (ih _) (h k)
/-- from the other side -/
theorem pdL_snoc {L : Nat → Nat} : ∀ (r k : Nat), pdL L k (r + 1) = pdL L k r * L (k + r) := by
  intro r
  induction r with
  | zero => intro k; show L k * 1 = 1 * L (k + 0); simp
  | succ r ih =>
    intro k
    have ep : pdL L k (r + 1 + 1) = L k * pdL L (k + 1) (r + 1) := rfl
    have eq : pdL L k (r + 1) = L k * pdL L (k + 1) r := rfl
    rw [ep, ih (k + 1), eq, Nat.mul_assoc, show k + 1 + r = k + (r + 1) by omega]
theorem pdL_pos {L : Nat → Nat} : ∀ (r k : Nat), 0 < pdL L k r → ∀ i, i < r → 0 < L (k + i) := by
  intro r
  induction r with
  | zero => intro k _ i hi; exact absurd hi (Nat.not_lt_zero _)
  | succ r ih =>
    intro k hp i hi
    have ep : pdL L k (r + 1) = L k * pdL L (k + 1) r := rfl
    rw [ep] at hp
    cases i with
    | zero => exact Nat.pos_of_mul_pos_right hp
    | succ i => rw [show k + (i + 1) = k + 1 + i by omega]; exact ih (k + 1) (Nat.pos_of_mul_pos_left hp) i (by omega)
section S9
variable {R : azP} {d n z : Nat} {kd : azK} {I : azI} {J : azJ} {F : azR} {Q : azQ} {cs : List Cls} {t : List Nat} {m : Mk} {b : Nat}
/-- what binding leaves as it was -/
def frB9 (I I' : azI) : Prop := (∀ c, c ≠ 228 → c ≠ 240 → c ≠ 242 → c ≠ 243 → I' c = I c) ∧ ∀ j, j ≠ 11 → j ≠ 12 → I' 228 j = I 228 j
theorem S_binds9 (hR : azClosed R) (hK : MdOk kd F) (htk : tOK t) (hx : txt I t) (hr : rdM I t cs) (ho : rlOK cs) (h12 : I 228 12 = -(nI 1)) (h25 : I 228 25 = nI 0) (kb10 : kd b = (10, 70)) (hb1 : b ≠ 228) (hb2 : b ≠ 240) (hb3 : b ≠ 242) (hb4 : b ≠ 243) (hm : cD (I b) m) (hv : mOK m) (one : Bool) (h : ∀ I', frB9 I I' → I' 228 12 = -(nI 1) → (∀ x l, bnds cs m = x :: l → ∀ k, k < nTk cs → I' 243 k = nI (lF x k)) → Q (some (.int (nI (cnt one (bnds cs m))))) ((n, z, kd), I', J, F)) : R (d + 22) mX9_binds 0 [.ref 228, .ref b, .int (nI (if one then 0 else 1)), .retAddr 0, .retAddr 0, .retAddr 0, .retAddr 0, .retAddr 0] [] ((n, z, kd), I, J, F) Q := by
  have ⟨k0, ⟨k220, k221, k222, k223, k224, k225, k226, k227, k228, k229, k230, k231⟩, ⟨k232, k233, k234, _⟩, ⟨f0, f1, f2, f3, f7, f9, f14, f15, f17, f18, f20, f23⟩, ⟨f26, f28, f29, _⟩⟩ := id hK
  obtain ⟨q1, q2, q3, q4, q5, q6, q7, q8, q9⟩ := id hr
  have h3 : nTk cs ≤ 3 := ho.2.2.2.1
  have kb0 : (kd b).1 = 10 := by rw [kb10]
  have hng := m1_neg
  generalize hL : (fun k => (m (tkP cs k)).length) = L
  have hLk : ∀ k, (m (tkP cs k)).length = L k := fun k => by rw [← hL]
  have hL6 : ∀ k, L k ≤ 6 := fun k => by rw [← hL]; exact (hv.1 _).1
  have hbc := bnds_codes cs m
  rw [hL] at hbc
  have hP216 : ∀ k r, r ≤ 3 → pdL L k r ≤ 216 := fun k r hr => Nat.le_trans (pdL_le hL6 r k) (by
    have : (6 : Nat) ^ r ≤ 6 ^ 3 := Nat.pow_le_pow_right (by decide) hr
    omega)
  have rd : ∀ {I1 : azI}, frB9 I I1 → rdM I1 t cs := fun {I1} g => ⟨by rw [g.2 13 (by decide) (by decide)]; exact q1, by rw [g.2 16 (by decide) (by decide)]; exact q2, by rw [g.2 19 (by decide) (by decide)]; exact q3, by rw [g.2 21 (by decide) (by decide)]; exact q4, by rw [g.2 22 (by decide) (by decide)]; exact q5, by rw [g.2 24 (by decide) (by decide)]; exact q6, by rw [g.1 235 (by decide) (by decide) (by decide) (by decide), g.1 236 (by decide) (by decide) (by decide) (by decide)]; exact q7, by unfold gvM; rw [g.1 237 (by decide) (by decide) (by decide) (by decide), g.1 238 (by decide) (by decide) (by decide) (by decide)]; exact q8, by unfold cdM; rw [g.1 239 (by decide) (by decide) (by decide) (by decide)]; exact q9⟩
  have tx : ∀ {I1 : azI}, frB9 I I1 → txt I1 t := fun {I1} g => ⟨by rw [g.2 10 (by decide) (by decide)]; exact hx.1, by rw [g.1 234 (by decide) (by decide) (by decide) (by decide)]; exact hx.2⟩
  have mk : ∀ {I1 : azI}, frB9 I I1 → I1 b = I b := fun {I1} g => g.1 b hb1 hb2 hb3 hb4
  have elen : ∀ {I1 : azI}, frB9 I I1 → ∀ k, k < nTk cs → I1 b (tkP cs k) = nI (L k) := fun {I1} g k hk => by rw [mk g, (hm _ (ho.tk hk).1).1, hLk]
  have e226 : ∀ {I1 : azI}, frB9 I I1 → ∀ k, k < nTk cs → I1 235 k = nI (tkP cs k) := fun {I1} g k hk => by rw [g.1 235 (by decide) (by decide) (by decide) (by decide)]; exact (q7 k hk).1
  have e13 : ∀ {I1 : azI}, frB9 I I1 → I1 228 13 = nI (nTk cs) := fun {I1} g => by rw [g.2 13 (by decide) (by decide)]; exact q1
  let A : Nat → List (List Nat) := fun c => ((List.range c).map (dgs L 0 (nTk cs))).filter fun x => isB cs m (lF x)
  have eA : ∀ c, A (c + 1) = A c ++ if isB cs m (lF (dgs L 0 (nTk cs) c)) then [dgs L 0 (nTk cs) c] else [] := fun c => by
    show ((List.range (c + 1)).map (dgs L 0 (nTk cs))).filter _ = _
    rw [List.range_succ, List.map_append, List.filter_append, List.map_cons, List.map_nil, List.filter_cons, List.filter_nil]
  have lA : ∀ c, (A c).length ≤ c := fun c => by
    have := List.length_filter_le (fun x => isB cs m (lF x)) ((List.range c).map (dgs L 0 (nTk cs)))
    rw [List.length_map, List.length_range] at this
    exact this
  have main : ∀ (s c : Nat) (I1 : azI) (w6 w7 : Value), s + c = pdL L 0 (nTk cs) → frB9 I I1 → I1 228 12 = -(nI 1) → (one = true → (A c).length ≤ 1) → (∀ x l, A c = x :: l → ∀ k, k < nTk cs → I1 243 k = nI (lF x k)) → R (d + 22) mX9_binds 38 [.ref 228, .ref b, .int (nI (if one then 0 else 1)), .int (nI (pdL L 0 (nTk cs))), .int (nI (A c).length), .int (nI c), w6, w7] [] ((n, z, kd), I1, J, F) Q := by
    intro s
    induction s with
    | zero =>
      intro c I1 w6 w7 hs g1 g2 g4 g3
      have hc : c = pdL L 0 (nTk cs) := by omega
      subst hc
      have hP := hP216 0 (nTk cs) h3
      have hl := lA (pdL L 0 (nTk cs))
      have := h I1 g1 g2 (by rw [hbc]; exact g3)
      rw [hbc] at this
      have ec : cnt one (A (pdL L 0 (nTk cs))) = (A (pdL L 0 (nTk cs))).length := by
        unfold cnt
        cases one with
        | true => rw [if_pos rfl, Nat.min_eq_right (g4 rfl)]
        | false => rfl
      have this : Q (some (.int (nI (cnt one (A (pdL L 0 (nTk cs))))))) ((n, z, kd), I1, J, F) := this
      rw [ec] at this
      refine BX9_binds_38 hR ?_
      simp (disch := omega) only [nI_ad, nI_ml, nI_lti, nI_lei, nI_eqi, nI_nn, nI_0le, nI_eq0, nI_0lt, nI_le0, nI_clamp, nI_pd, nI_sb, zOf_some, zOp_some, zOp_none, kI_int, kL_long, kO_ref, kO_null, nlt_T, nlt_F, nle_T, nle_F, neq_F, vpT, azUp_at, if_true, if_false, true_and, and_true, true_implies, false_implies, implies_true, not_true_eq_false, not_false_eq_true, true_or, or_true, false_or, or_false, and_false, false_and, eq_self, n01_0, n01_1, nm1_0]
      exact this
    | succ s ih =>
      intro c I1 w6 w7 hs g1 g2 g4 g3
      have hP := hP216 0 (nTk cs) h3
      have hcP : c < pdL L 0 (nTk cs) := by omega
      have hl := lA c
      have hLp : ∀ k, k < nTk cs → 0 < L k := fun k hk => by
        have := pdL_pos (L := L) (nTk cs) 0 (by omega) k hk
        rwa [Nat.zero_add] at this
      have hN := ho.2.2.1
      -- the next code
      have go : (one = true → A c = []) → ∀ (w6 w7 : Value), R (d + 22) mX9_binds 65 [.ref 228, .ref b, .int (nI (if one then 0 else 1)), .int (nI (pdL L 0 (nTk cs))), .int (nI (A c).length), .int (nI c), .int (nI c), .int (nI (nTk cs - 1))] [] ((n, z, kd), I1, J, F) Q := by
        intro hon w6 w7
        have one1 : one = true → (A (c + 1)).length ≤ 1 := fun e => by
          rw [eA, hon e]
          split <;> simp
        -- a binding: the first is kept
        have keep : isB cs m (lF (dgs L 0 (nTk cs) c)) = true → ∀ (s k : Nat) (I2 : azI) (x6 : Int32), s + k = nTk cs → frB9 I I2 → I2 228 12 = -(nI 1) → (∀ j, j < nTk cs → I2 242 j = nI (lF (dgs L 0 (nTk cs) c) j)) → (A c = [] → ∀ j, j < k → I2 243 j = nI (lF (dgs L 0 (nTk cs) c) j)) → (∀ x l, A c = x :: l → ∀ k, k < nTk cs → I2 243 k = nI (lF x k)) → R (d + 22) mX9_binds 120 [.ref 228, .ref b, .int (nI (if one then 0 else 1)), .int (nI (pdL L 0 (nTk cs))), .int (nI (A c).length), .int (nI c), .int x6, .int (nI k)] [] ((n, z, kd), I2, J, F) Q := by
          intro hb s
          induction s with
          | zero =>
            intro k I2 x6 hs g1 g2 g3 g5 g6
            obtain rfl : k = nTk cs := by omega
            have hA : (A (c + 1)).length = (A c).length + 1 := by rw [eA, if_pos hb, List.length_append]; rfl
            have := ih (c + 1) I2 (.int x6) (.int (nI (nTk cs))) (by omega) g1 g2 one1 (by
              rw [eA, if_pos hb]
              intro x l e
              cases hc : A c with
              | nil =>
                rw [hc, List.nil_append] at e
                obtain ⟨rfl, -⟩ := List.cons.inj e
                exact g5 hc
              | cons x' l' =>
                rw [hc, List.cons_append] at e
                obtain ⟨rfl, -⟩ := List.cons.inj e
                exact g6 x' l' hc)
            rw [hA] at this
            refine BX9_binds_120 hR ?_
            simp (disch := omega) only [nI_ad, nI_ml, nI_lti, nI_lei, nI_eqi, nI_nn, nI_0le, nI_eq0, nI_0lt, nI_le0, nI_clamp, nI_pd, nI_sb, zOf_some, zOp_some, zOp_none, kI_int, kL_long, kO_ref, kO_null, nlt_T, nlt_F, nle_T, nle_F, neq_F, vpT, azUp_at, if_true, if_false, true_and, and_true, true_implies, false_implies, implies_true, not_true_eq_false, not_false_eq_true, true_or, or_true, false_or, or_false, and_false, false_and, eq_self, n01_0, n01_1, nm1_0, k0, e13 g1]
            exact this
          | succ s ihs =>
            intro k I2 x6 hs g1 g2 g3 g5 g6
            have hk : k < nTk cs := by omega
            have hk3 : k < 3 := by omega
            by_cases c1 : A c = []
            · have e2 : azUp I2 243 k (nI (lF (dgs L 0 (nTk cs) c) k)) 243 = fun j => if j = k then nI (lF (dgs L 0 (nTk cs) c) k) else I2 243 j := by
                funext j
                by_cases e : j = k
                · subst e; rw [azUp_s, if_pos rfl]
                · rw [azUp_nk e, if_neg e]
              have := ihs (k + 1) (azUp I2 243 k (nI (lF (dgs L 0 (nTk cs) c) k))) x6 (by omega) ⟨fun c c1 c2 c3 c4 => by rw [azUp_nb c4]; exact g1.1 c c1 c2 c3 c4, fun j j1 j2 => by rw [azUp_nb (by decide)]; exact g1.2 j j1 j2⟩ (by rw [azUp_nb (by decide)]; exact g2) (by rw [azUp_nb (by decide)]; exact g3) (fun e j hj => by
                rw [e2]
                dsimp only
                by_cases ej : j = k
                · rw [if_pos ej, ej]
                · rw [if_neg ej]; exact g5 e j (by omega)) fun x l e => by rw [c1] at e; cases e
              rw [c1] at this ⊢
              refine BX9_binds_120 hR ?_
              simp (disch := omega) only [nI_ad, nI_ml, nI_lti, nI_lei, nI_eqi, nI_nn, nI_0le, nI_eq0, nI_0lt, nI_le0, nI_clamp, nI_pd, nI_sb, zOf_some, zOp_some, zOp_none, kI_int, kL_long, kO_ref, kO_null, nlt_T, nlt_F, nle_T, nle_F, neq_F, vpT, azUp_at, if_true, if_false, true_and, and_true, true_implies, false_implies, implies_true, not_true_eq_false, not_false_eq_true, true_or, or_true, false_or, or_false, and_false, false_and, eq_self, n01_0, n01_1, nm1_0, k0, e13 g1, List.length_nil, f28, f29, k233, k234, g3 k hk]
              exact this
            · have h0 : 0 < (A c).length := List.length_pos_iff.mpr c1
              have h0' : ¬ (A c).length = 0 := by omega
              have hA : (A (c + 1)).length = (A c).length + 1 := by rw [eA, if_pos hb, List.length_append]; rfl
              have := ih (c + 1) I2 (.int x6) (.int (nI k)) (by omega) g1 g2 one1 (by
                rw [eA]
                intro x l e
                cases hc : A c with
                | nil => exact absurd hc c1
                | cons x' l' =>
                  rw [hc, List.cons_append] at e
                  obtain ⟨rfl, -⟩ := List.cons.inj e
                  exact g6 x' l' hc)
              rw [hA] at this
              refine BX9_binds_120 hR ?_
              simp (disch := omega) only [nI_ad, nI_ml, nI_lti, nI_lei, nI_eqi, nI_nn, nI_0le, nI_eq0, nI_0lt, nI_le0, nI_clamp, nI_pd, nI_sb, zOf_some, zOp_some, zOp_none, kI_int, kL_long, kO_ref, kO_null, nlt_T, nlt_F, nle_T, nle_F, neq_F, vpT, azUp_at, if_true, if_false, true_and, and_true, true_implies, false_implies, implies_true, not_true_eq_false, not_false_eq_true, true_or, or_true, false_or, or_false, and_false, false_and, eq_self, n01_0, n01_1, nm1_0, k0, e13 g1, h0']
              exact this
        have wk : ∀ (k x : Nat) (I2 : azI) (v : Int32), k ≤ nTk cs → v = nI k + -(nI 1) → x = c / pdL L k (nTk cs - k) → frB9 I I2 → I2 228 12 = -(nI 1) → (∀ j, k ≤ j → j < nTk cs → I2 242 j = nI (lF (dgs L 0 (nTk cs) c) j)) → (∀ x l, A c = x :: l → ∀ k, k < nTk cs → I2 243 k = nI (lF x k)) → R (d + 22) mX9_binds 65 [.ref 228, .ref b, .int (nI (if one then 0 else 1)), .int (nI (pdL L 0 (nTk cs))), .int (nI (A c).length), .int (nI c), .int (nI x), .int v] [] ((n, z, kd), I2, J, F) Q := by
          intro k
          induction k with
          | zero =>
            intro x I2 v hk ev ex g1 g2 g3 g6
            have ev : v = -(nI 1) := by rw [ev]; decide
            subst ev
            refine BX9_binds_65 hR ?_
            simp (disch := omega) only [nI_ad, nI_ml, nI_lti, nI_lei, nI_eqi, nI_nn, nI_0le, nI_eq0, nI_0lt, nI_le0, nI_clamp, nI_pd, nI_sb, zOf_some, zOp_some, zOp_none, kI_int, kL_long, kO_ref, kO_null, nlt_T, nlt_F, nle_T, nle_F, neq_F, vpT, azUp_at, if_true, if_false, true_and, and_true, true_implies, false_implies, implies_true, not_true_eq_false, not_false_eq_true, true_or, or_true, false_or, or_false, and_false, false_and, eq_self, n01_0, n01_1, nm1_0, k0, hng]
            refine S_isBinding9 (d := d) hR hK htk (tx g1) (rd g1) ho g2 (by rw [g1.2 25 (by decide) (by decide)]; exact h25) kb10 hb1 hb2 (by rw [mk g1]; exact hm) hv (ch := lF (dgs L 0 (nTk cs) c)) (fun k hk => ⟨g3 k (Nat.zero_le _) hk, ?_⟩) fun I3 r1 r2 r3 => ?_
            · rw [hLk]
              show (dgs L 0 (nTk cs) c).getD k 0 < L k
              rw [dgs_get _ _ _ hk, Nat.zero_add]
              exact Nat.mod_lt _ (hLp k hk)
            · have g1' : frB9 I I3 := ⟨fun c c1 c2 c3 c4 => by rw [r1 c c1 c2]; exact g1.1 c c1 c2 c3 c4, fun j j1 j2 => by rw [r2 j j1 j2]; exact g1.2 j j1 j2⟩
              have e234 : I3 243 = I2 243 := r1 243 (by decide) (by decide)
              have e233 : I3 242 = I2 242 := r1 242 (by decide) (by decide)
              by_cases hb : isB cs m (lF (dgs L 0 (nTk cs) c)) = true
              · rw [if_pos hb]
                have := keep hb (nTk cs) 0 I3 (nI x) (by omega) g1' r3 (by rw [e233]; exact fun j hj => g3 j (Nat.zero_le _) hj) (fun _ j hj => absurd hj (Nat.not_lt_zero _)) (by rw [e234]; exact g6)
                simp (disch := omega) only [nI_ad, nI_ml, nI_lti, nI_lei, nI_eqi, nI_nn, nI_0le, nI_eq0, nI_0lt, nI_le0, nI_clamp, nI_pd, nI_sb, zOf_some, zOp_some, zOp_none, kI_int, kL_long, kO_ref, kO_null, nlt_T, nlt_F, nle_T, nle_F, neq_F, vpT, azUp_at, if_true, if_false, true_and, and_true, true_implies, false_implies, implies_true, not_true_eq_false, not_false_eq_true, true_or, or_true, false_or, or_false, and_false, false_and, eq_self, n01_0, n01_1, nm1_0]
                exact this
              · rw [if_neg hb]
                have hA : A (c + 1) = A c := by rw [eA, if_neg hb, List.append_nil]
                have := ih (c + 1) I3 (.int (nI x)) (.int (-(nI 1))) (by omega) g1' r3 one1 (by rw [hA, e234]; exact g6)
                rw [hA] at this
                simp (disch := omega) only [nI_ad, nI_ml, nI_lti, nI_lei, nI_eqi, nI_nn, nI_0le, nI_eq0, nI_0lt, nI_le0, nI_clamp, nI_pd, nI_sb, zOf_some, zOp_some, zOp_none, kI_int, kL_long, kO_ref, kO_null, nlt_T, nlt_F, nle_T, nle_F, neq_F, vpT, azUp_at, if_true, if_false, true_and, and_true, true_implies, false_implies, implies_true, not_true_eq_false, not_false_eq_true, true_or, or_true, false_or, or_false, and_false, false_and, eq_self, n01_0, n01_1, nm1_0]
                exact this
          | succ k ihk =>
            intro x I2 v hk ev ex g1 g2 g3 g6
            have ev : v = nI k := by rw [ev, nI_pd (by omega)]; rfl
            subst ev
            have hkn : k < nTk cs := by omega
            have hk3 : k < 3 := by omega
            have tp := (ho.tk hkn).1
            have hx : x ≤ 216 := by
              have := Nat.div_le_self c (pdL L (k + 1) (nTk cs - (k + 1)))
              omega
            have l6 := hL6 k
            have lp := hLp k hkn
            have lp' : ¬ L k = 0 := by omega
            have ed : nI x / nI (L k) = nI (x / L k) := nI_dv (by omega) (by omega)
            have em : nI x - nI (x / L k * L k) = nI (x % L k) := by
              rw [nI_sb (Nat.div_mul_le_self _ _)]
              have := Nat.div_add_mod x (L k)
              rw [Nat.mul_comm] at this
              congr 1
              omega
            have exk : x % L k = lF (dgs L 0 (nTk cs) c) k := by
              show _ = (dgs L 0 (nTk cs) c).getD k 0
              rw [dgs_get _ _ _ hkn, Nat.zero_add, ex]
              rfl
            have exd : x / L k = c / pdL L k (nTk cs - k) := by
              have : nTk cs - k = nTk cs - (k + 1) + 1 := by omega
              rw [ex, Nat.div_div_eq_div_mul, this]
              show _ = c / (L k * pdL L (k + 1) (nTk cs - (k + 1)))
              rw [Nat.mul_comm]
            have := ihk (x / L k) (azUp I2 242 k (nI (x % L k))) (nI k + -(nI 1)) (by omega) rfl exd ⟨fun c c1 c2 c3 c4 => by rw [azUp_nb c3]; exact g1.1 c c1 c2 c3 c4, fun j j1 j2 => by rw [azUp_nb (by decide)]; exact g1.2 j j1 j2⟩ (by rw [azUp_nb (by decide)]; exact g2) (fun j h1 h2 => by
              by_cases ej : j = k
              · rw [ej, azUp_s, exk]
              · rw [azUp_nk ej]; exact g3 j (by omega) h2) (by rw [azUp_nb (by decide)]; exact g6)
            refine BX9_binds_65 hR ?_
            simp (disch := omega) only [nI_lti, nI_lei, nI_eqi, nI_nn, nI_0le, nI_eq0, nI_0lt, nI_le0, nI_clamp, nI_ml, zOf_some, nlt_F, nle_F, vpT, true_and, and_true, true_implies, false_implies, not_false_eq_true, not_true_eq_false, true_or, or_true, and_false, false_and, implies_true, eq_self, k0, f14, f28, k226, k233, kb10, e226 g1 k hkn, elen g1 k hkn, lp', ed, em, @azUp_nb _ 242 235, @azUp_nb _ 242 b]
            exact this
        exact wk (nTk cs) c I1 _ (Nat.le_refl _) (by rw [nI_pd hN]) (by rw [Nat.sub_self]; show c = c / 1; rw [Nat.div_one]) g1 g2 (fun j h1 h2 => absurd h1 (by omega)) g3
      refine BX9_binds_38 hR ?_
      by_cases c1 : A c = []
      · simp (disch := omega) only [nI_ad, nI_ml, nI_lti, nI_lei, nI_eqi, nI_nn, nI_0le, nI_eq0, nI_0lt, nI_le0, nI_clamp, nI_pd, nI_sb, zOf_some, zOp_some, zOp_none, kI_int, kL_long, kO_ref, kO_null, nlt_T, nlt_F, nle_T, nle_F, neq_F, vpT, azUp_at, if_true, if_false, true_and, and_true, true_implies, false_implies, implies_true, not_true_eq_false, not_false_eq_true, true_or, or_true, false_or, or_false, and_false, false_and, eq_self, n01_0, n01_1, nm1_0, k0, e13 g1, c1, List.length_nil]
        have := go (fun _ => c1) w6 w7
        rw [c1] at this
        exact ⟨fun _ => this, fun _ => this⟩
      · have h0 : 0 < (A c).length := List.length_pos_iff.mpr c1
        cases hone : one with
        | true =>
          have hle := g4 hone
          obtain ⟨x, l, e⟩ : ∃ x l, A c = x :: l := by
            cases hA : A c with
            | nil => exact absurd hA c1
            | cons x l => exact ⟨x, l, rfl⟩
          obtain ⟨r, er⟩ : ∃ r, bnds cs m = A c ++ r := by
            rw [hbc]
            obtain ⟨u, hu⟩ : ∃ u, pdL L 0 (nTk cs) = c + u := ⟨pdL L 0 (nTk cs) - c, by omega⟩
            rw [hu, List.range_add, List.map_append, List.filter_append]
            exact ⟨_, rfl⟩
          have := h I1 g1 g2 (by
            rw [er, e]
            intro x' l' e'
            rw [List.cons_append] at e'
            obtain ⟨rfl, -⟩ := List.cons.inj e'
            exact g3 x l e)
          have el : (A c).length = 1 := by omega
          have ec : cnt one (bnds cs m) = 1 := by
            unfold cnt
            rw [hone, if_pos rfl, er, List.length_append]
            omega
          rw [ec] at this
          simp (disch := omega) only [nI_ad, nI_ml, nI_lti, nI_lei, nI_eqi, nI_nn, nI_0le, nI_eq0, nI_0lt, nI_le0, nI_clamp, nI_pd, nI_sb, zOf_some, zOp_some, zOp_none, kI_int, kL_long, kO_ref, kO_null, nlt_T, nlt_F, nle_T, nle_F, neq_F, vpT, azUp_at, if_true, if_false, true_and, and_true, true_implies, false_implies, implies_true, not_true_eq_false, not_false_eq_true, true_or, or_true, false_or, or_false, and_false, false_and, eq_self, n01_0, n01_1, nm1_0, el]
          exact this
        | false =>
          have h0' : ¬ (A c).length = 0 := by omega
          have := go (fun e => by rw [hone] at e; cases e) w6 w7
          rw [hone] at this
          simp (disch := omega) only [nI_ad, nI_ml, nI_lti, nI_lei, nI_eqi, nI_nn, nI_0le, nI_eq0, nI_0lt, nI_le0, nI_clamp, nI_pd, nI_sb, zOf_some, zOp_some, zOp_none, kI_int, kL_long, kO_ref, kO_null, nlt_T, nlt_F, nle_T, nle_F, neq_F, vpT, azUp_at, if_true, if_false, true_and, and_true, true_implies, false_implies, implies_true, not_true_eq_false, not_false_eq_true, true_or, or_true, false_or, or_false, and_false, false_and, eq_self, n01_0, n01_1, nm1_0, k0, e13 g1, h0', reduceCtorEq, Bool.false_eq_true]
          exact this
  have cds : ∀ (s k : Nat), s + k = nTk cs → R (d + 22) mX9_binds 5 [.ref 228, .ref b, .int (nI (if one then 0 else 1)), .int (nI (pdL L 0 k)), .int (nI k), .retAddr 0, .retAddr 0, .retAddr 0] [] ((n, z, kd), I, J, F) Q := by
    intro s
    induction s with
    | zero =>
      intro k hk
      obtain rfl : k = nTk cs := by omega
      refine BX9_binds_5 hR ?_
      simp (disch := omega) only [nI_ad, nI_ml, nI_lti, nI_lei, nI_eqi, nI_nn, nI_0le, nI_eq0, nI_0lt, nI_le0, nI_clamp, nI_pd, nI_sb, zOf_some, zOp_some, zOp_none, kI_int, kL_long, kO_ref, kO_null, nlt_T, nlt_F, nle_T, nle_F, neq_F, vpT, azUp_at, if_true, if_false, true_and, and_true, true_implies, false_implies, implies_true, not_true_eq_false, not_false_eq_true, true_or, or_true, false_or, or_false, and_false, false_and, eq_self, n01_0, n01_1, nm1_0, k0, q1]
      exact main (pdL L 0 (nTk cs)) 0 I _ _ (by omega) ⟨fun _ _ _ _ _ => rfl, fun _ _ _ => rfl⟩ h12 (fun _ => Nat.zero_le _) fun x l e => by cases e
    | succ s ih =>
      intro k hk
      have hkn : k < nTk cs := by omega
      have tp := (ho.tk hkn).1
      have el := elen (I1 := I) ⟨fun _ _ _ _ _ => rfl, fun _ _ _ => rfl⟩ k hkn
      refine BX9_binds_5 hR ?_
      simp (disch := omega) only [nI_ad, nI_ml, nI_lti, nI_lei, nI_eqi, nI_nn, nI_0le, nI_eq0, nI_0lt, nI_le0, nI_clamp, nI_pd, nI_sb, zOf_some, zOp_some, zOp_none, kI_int, kL_long, kO_ref, kO_null, nlt_T, nlt_F, nle_T, nle_F, neq_F, vpT, azUp_at, if_true, if_false, true_and, and_true, true_implies, false_implies, implies_true, not_true_eq_false, not_false_eq_true, true_or, or_true, false_or, or_false, and_false, false_and, eq_self, n01_0, n01_1, nm1_0, k0, q1, f14, k226, (q7 k hkn).1, kb10, el]
      have := ih (k + 1) (by omega)
      rw [pdL_snoc, Nat.zero_add] at this
      exact this
  refine BX9_binds_0 hR ?_
  exact cds (nTk cs) 0 (by omega)
end S9
