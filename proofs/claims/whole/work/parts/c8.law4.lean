/-! THE LAW: its start. -/
def k9 : List (Nat × Nat) := [(9, 47), (10, 70), (10, 70), (10, 810), (10, 810), (10, 80), (10, 80), (10, 3), (10, 3), (10, 3), (10, 3), (10, 40), (10, 3), (10, 800), (10, 3), (10, 3), (10, 70), (10, 70), (10, 4200), (10, 60), (10, 60), (10, 600), (10, 70), (12, 60), (11, 100), (11, 100), (10, 10), (10, 10)]
def p9 : List (Nat × Nat × Nat) := [(228, 43, 255), (228, 41, 254), (228, 40, 253), (228, 39, 252), (228, 38, 251), (228, 37, 250), (228, 36, 249), (228, 35, 248), (228, 34, 247), (228, 33, 246), (228, 31, 245), (228, 30, 244), (228, 29, 243), (228, 28, 242), (228, 26, 241), (228, 23, 240), (228, 20, 239), (228, 18, 238), (228, 17, 237), (228, 15, 236), (228, 14, 235), (228, 9, 234), (228, 7, 233), (228, 3, 232), (228, 2, 231), (228, 1, 230), (228, 0, 229)]
theorem lkP_app {p q : List (Nat × Nat × Nat)} {b j : Nat} (h : ∀ e ∈ q, e.1 ≠ b) : lkP (p ++ q) b j = lkP p b j := by
  induction p with
  | nil =>
    induction q with
    | nil => rfl
    | cons e q ih =>
      obtain ⟨a, k, x⟩ := e
      have h1 : a ≠ b := h (a, k, x) (List.mem_cons_self ..)
      show (if b = a then _ else lkP q b j) = none
      rw [if_neg (fun e => h1 e.symm)]
      exact ih fun e he => h e (List.mem_cons_of_mem _ he)
  | cons e p ih =>
    obtain ⟨a, k, x⟩ := e
    show (if b = a then (if j = k then some x else lkP (p ++ q) b j) else lkP (p ++ q) b j) = if b = a then (if j = k then some x else lkP p b j) else lkP p b j
    rw [ih]
theorem lkP_app2 {p q : List (Nat × Nat × Nat)} {b j : Nat} (h : ∀ e ∈ p, e.1 ≠ b) : lkP (p ++ q) b j = lkP q b j := by
  induction p with
  | nil => rfl
  | cons e p ih =>
    obtain ⟨a, k, x⟩ := e
    have h1 : a ≠ b := h (a, k, x) (List.mem_cons_self ..)
    show (if b = a then _ else lkP (p ++ q) b j) = _
    rw [if_neg (fun e => h1 e.symm)]
    exact ih fun e he => h e (List.mem_cons_of_mem _ he)
theorem lkP_no {q : List (Nat × Nat × Nat)} {b j : Nat} (h : ∀ e ∈ q, e.1 ≠ b) : lkP q b j = none := lkP_app (p := []) h
theorem k9_ok : MdOk (fun b => k9.getD (b - 228) (99, 0)) (lkP p9) := by
  unfold MdOk
  repeat' apply And.intro
  all_goals decide +kernel
theorem MkOk.kp {kd kd' : azK} {F F' : azR} {a : Nat} (h : MkOk kd F a) (hk : ∀ b, b < 228 → kd' b = kd b) (hF : ∀ b, b < 228 → F' b = F b) (ha : a + 2 < 228) : MkOk kd' F' a := by
  unfold MkOk at h ⊢
  rw [hk a (by omega), hk (a + 1) (by omega), hk (a + 2) (by omega), hF a (by omega)]
  exact h
theorem TnOk.kp {kd kd' : azK} {F F' : azR} (h : TnOk kd F) (hk : ∀ b, b < 228 → kd' b = kd b) (hF : ∀ b, b < 228 → F' b = F b) : TnOk kd' F' := by
  obtain ⟨h1, ⟨m1, m2, m3⟩, h3, h4, h5, ⟨q1, q2, q3, q4, q5⟩, h7, ⟨i1, i2, i3⟩⟩ := h
  refine ⟨?_, ⟨m1.kp hk hF (by decide), m2.kp hk hF (by decide), m3.kp hk hF (by decide)⟩, ?_, ?_, ?_, ⟨?_, ?_, fun i hi => ⟨?_, (q3 i hi).2.kp hk hF (by omega)⟩, q4.kp hk hF (by decide), ?_⟩, ?_, ⟨?_, i2.kp hk hF (by decide), ?_⟩⟩
  · rw [hk 0 (by decide), hF 0 (by decide)]; exact h1
  · rw [hk 11 (by decide), hk 12 (by decide), hF 11 (by decide)]; exact h3
  · unfold PpOk at h4 ⊢; rw [hk 22 (by decide), hk (22 + 1) (by decide), hk (22 + 2) (by decide), hk (22 + 3) (by decide), hF 22 (by decide)]; exact h4
  · unfold FiOk at h5 ⊢; rw [hk 26 (by decide), hk (26 + 1) (by decide), hk (26 + 2) (by decide), hk (26 + 3) (by decide), hF 26 (by decide)]; exact h5
  · rw [hk 30 (by decide)]; exact q1
  · rw [hk (30 + 1) (by decide)]; exact q2
  · rw [hF (30 + 1) (by decide)]; exact (q3 i hi).1
  · rw [hk (30 + 185) (by decide), hk (30 + 186) (by decide), hk (30 + 187) (by decide), hk (30 + 188) (by decide), hk (30 + 189) (by decide), hF 30 (by decide)]; exact q5
  · unfold BlOk at h7 ⊢; rw [hk 220 (by decide), hk (220 + 1) (by decide), hk (220 + 2) (by decide), hF 220 (by decide)]; exact h7
  · rw [hk 223 (by decide)]; exact i1
  · rw [hk (223 + 4) (by decide), hF 223 (by decide)]; exact i3
def st0 : St := (mNil, fun _ => none, [], [], 0, none)
theorem st0_ok : stOK st0 := ⟨⟨fun p => ⟨Nat.zero_le _, fun t ht => absurd ht List.not_mem_nil⟩, fun _ _ => rfl⟩, fun p t cs h => (by cases h), ⟨Nat.zero_le _, fun c hc => absurd hc List.not_mem_nil⟩, Nat.zero_le _, fun m ru w h => (by cases h)⟩
section SN
variable {L : Nat} {xs : Nat → Int32} {ks : List (Nat × Nat)} {z a c : Nat} {pt : List (Nat × Nat × Nat)} {x : Int32} {R : azP} {d b : Nat} {Q : azQ}
theorem wSt_LW (hc : chT ks z pt) {z' : Nat} : LW L xs (wSt L xs (ks ++ k9) z' (p9 ++ pt)) st0 := by
  obtain ⟨c1, c2, c3, c4, ⟨c5, c6⟩, c7⟩ := hc
  have hB : azB = 1000000 := rfl
  have hl : (ks ++ k9).length = 256 := by rw [List.length_append, c1]; rfl
  have kl : ∀ b, b < 228 → (ks ++ k9).getD b ((az0 L xs).1.2.2 b) = ks.getD b (99, 0) := fun b hb => by
    rw [List.getD_eq_getElem?_getD, List.getElem?_append_left (by omega), ← List.getD_eq_getElem?_getD]
    exact getD_any (by omega)
  have kh : ∀ b, 228 ≤ b → b ≤ 255 → (ks ++ k9).getD b ((az0 L xs).1.2.2 b) = k9.getD (b - 228) (99, 0) := fun b h1 h2 => by
    rw [List.getD_eq_getElem?_getD, List.getElem?_append_right (by omega), c1, ← List.getD_eq_getElem?_getD]
    exact getD_any (by show b - 228 < 28; omega)
  have ko : ∀ b, 256 ≤ b → (ks ++ k9).getD b ((az0 L xs).1.2.2 b) = (az0 L xs).1.2.2 b := fun b hb => by
    rw [List.getD_eq_getElem?_getD, List.getElem?_eq_none (by omega)]; rfl
  have Fl : ∀ b, b < 228 → lkP (p9 ++ pt) b = lkP pt b := fun b hb => by
    funext j
    exact lkP_app2 fun e he => by
      have : ∀ e ∈ p9, e.1 = 228 := by decide
      have := this e he
      omega
  have Fh : lkP (p9 ++ pt) 228 = lkP p9 228 := by
    funext j
    exact lkP_app fun e he => by have := c4 e he; omega
  have I0 : ∀ b, b < 256 → ∀ j, (wSt L xs (ks ++ k9) z' (p9 ++ pt)).2.1 b j = nI 0 := fun b hb j => by
    show (if b < (ks ++ k9).length then 0 else _) = _
    rw [if_pos (by omega), nI_0]
  have Ih : ∀ b, 256 ≤ b → (wSt L xs (ks ++ k9) z' (p9 ++ pt)).2.1 b = (az0 L xs).2.1 b := fun b hb => by
    funext j
    show (if b < (ks ++ k9).length then 0 else _) = _
    rw [if_neg (by omega)]
  have F10 : ∀ p, lkP (p9 ++ pt) 10 p = none := fun p => by rw [Fl 10 (by decide)]; exact lkP_no fun e he => (c7 e he).1
  have F218 : ∀ p, lkP (p9 ++ pt) 227 p = none := fun p => by rw [Fl 227 (by decide)]; exact lkP_no fun e he => (c7 e he).2
  refine ⟨⟨c3.kp kl Fl, ⟨fun p hp => ⟨I0 2 (by decide) p, fun j hj => absurd hj (Nat.not_lt_zero _)⟩, ⟨?_, fun p hp => ⟨fun _ => F10 p, fun cs h => (by cases h)⟩⟩, ⟨I0 11 (by decide) 1, fun i hi => absurd hi (Nat.not_lt_zero _)⟩, ⟨I0 22 (by decide) 3, fun i hi => absurd hi (Nat.not_lt_zero _)⟩, I0 0 (by decide) 10, Or.inl (I0 0 (by decide) 11), ⟨?_, fun _ => I0 223 (by decide) 3, fun m ru w h => (by cases h)⟩⟩, fun j hj => ⟨?_, ?_, fun k hk => ?_⟩, ⟨?_, fun g hg p r hr => ?_⟩, st0_ok⟩, ⟨k9_ok.kp kh Fh, ⟨fun p hp => ⟨I0 229 (by decide) p, fun j hj => I0 229 (by decide) _⟩, fun p hp => ⟨fun _ => I0 231 (by decide) _, fun t cs h => (by cases h)⟩, ⟨I0 228 (by decide) 8, fun i hi => absurd hi (Nat.not_lt_zero _)⟩, ⟨I0 228 (by decide) 27, fun i hi => absurd hi (Nat.not_lt_zero _)⟩, I0 228 (by decide) 4, fun _ => I0 228 (by decide) 6, fun m ru w h => (by cases h)⟩, st0_ok⟩, ?_, ?_⟩
  · exact (kl 10 (by decide)).trans c5
  · exact (kl 227 (by decide)).trans c6
  · rw [show (wSt L xs (ks ++ k9) z' (p9 ++ pt)).1.2.2 (azB + j) = _ from ko (azB + j) (by omega)]
    show (if azB + j = azB + 10 then (15, L) else if azB ≤ azB + j ∧ azB + j < azB + 4 then (16, 0) else _).1 = 16
    rw [if_neg (by omega), if_pos (by omega)]
  · rw [show (wSt L xs (ks ++ k9) z' (p9 ++ pt)).1.2.2 (azB + j + 20) = _ from ko (azB + j + 20) (by omega)]
    show (if azB + j + 20 = azB + 10 then (15, L) else if azB ≤ azB + j + 20 ∧ azB + j + 20 < azB + 4 then (16, 0) else if azB + 20 ≤ azB + j + 20 ∧ azB + j + 20 < azB + 24 then (17, azTl.getD (azB + j + 20 - azB - 20) 0) else (99, 0)) = _
    rw [if_neg (by omega), if_neg (by omega), if_pos (by omega), show azB + j + 20 - azB - 20 = j by omega]
    rcases (by omega : j = 0 ∨ j = 1 ∨ j = 2 ∨ j = 3) with e | e | e | e <;> subst e <;> rfl
  · rw [Ih (azB + j + 20) (by omega)]
    show (if azB + j + 20 = azB + 10 then xs k else (azTx.getD (azB + j + 20 - azB - 20) []).getD k 0) = _
    rw [if_neg (by omega), show azB + j + 20 - azB - 20 = j by omega]
    have : ∀ j, j < 4 → ∀ k, k < (wTx.getD j []).length → (azTx.getD j []).getD k 0 = nI ((wTx.getD j []).getD k 0) := by decide
    exact this j hj k hk
  · show 256 ≤ (ks ++ k9).length
    omega
  · rcases hg with e | e
    · subst e
      have := F10 p
      rw [show (wSt L xs (ks ++ k9) z' (p9 ++ pt)).2.2.2 10 p = _ from this] at hr
      cases hr
    · subst e
      have := F218 p
      rw [show (wSt L xs (ks ++ k9) z' (p9 ++ pt)).2.2.2 227 p = _ from this] at hr
      cases hr
  · rw [show (wSt L xs (ks ++ k9) z' (p9 ++ pt)).1.2.2 (azB + 10) = _ from ko (azB + 10) (by omega)]
    unfold az0
    dsimp only
    rw [if_pos rfl]
  · rw [Ih (azB + 10) (by omega)]
    funext k
    unfold az0
    dsimp only
    rw [if_pos rfl]
theorem CL_g (hR : azClosed R) {σ : azS} (h : R d mX8_init 0 [.ref σ.1.1] [] (azNew σ 8 12) fun v s => v = none ∧ R d mX9_init 0 [.ref s.1.1] [] (azNew s 9 47) fun v2 s2 => v2 = none ∧ R (d + 1) mL_law 18 [.ref b, .ref σ.1.1, .ref s.1.1, .int (nI 0)] [] s2 Q) : R (d + 1) mL_law 0 [.ref b, .retAddr 0, .retAddr 0, .retAddr 0] [] σ Q := hR.go [18] 20 h
theorem az0_g (K : azK) (I : azI) : (((0, 0, K), I, (fun _ _ => 0), fun _ _ => none) : azS) = (((([] : List (Nat × Nat)).length, 0, fun b => ([] : List (Nat × Nat)).getD b (K b)), (fun b j => if b < ([] : List (Nat × Nat)).length then 0 else I b j), (fun _ _ => 0), fun b j => lkP [] b j) : azS) := by
  refine Prod.ext rfl (Prod.ext ?_ (Prod.ext rfl rfl))
  funext b j
  exact (if_neg (α := Int32) (t := 0) (e := I b j) (Nat.not_lt_zero b)).symm
theorem az0_w : az0 L xs = wSt L xs [] 0 [] := az0_g _ _
theorem CL_0 (hR : azClosed R) (h : R d mX8_init 0 [.ref 0] [] (wSt L xs [(8, 12)] 12 []) fun v s => v = none ∧ R d mX9_init 0 [.ref s.1.1] [] (azNew s 9 47) fun v2 s2 => v2 = none ∧ R (d + 1) mL_law 18 [.ref b, .ref 0, .ref s.1.1, .int (nI 0)] [] s2 Q) : R (d + 1) mL_law 0 [.ref b, .retAddr 0, .retAddr 0, .retAddr 0] [] (az0 L xs) Q := by
  have e : azNew (wSt L xs [] 0 []) 8 12 = wSt L xs [(8, 12)] 12 [] := wNew fun e he => absurd he List.not_mem_nil
  have en : (wSt L xs [] 0 []).1.1 = 0 := rfl
  rw [az0_w]
  refine CL_g hR ?_
  rw [e, en]
  exact h
theorem azLaw_of (hbal : ∀ (R : azP), azClosed R → ∀ (L : Nat) (xs : Nat → Int32), L ≤ 2048 → balOK R L xs lwQ) : azLaw := by
  intro R hR L xs hL
  refine CL_0 (d := 199) hR ?_
  refine WX8 (d := 196) hR fun ks z pt hc => ⟨rfl, ?_⟩
  have hc' := hc
  obtain ⟨c1, c2, c3, c4, _⟩ := hc
  rw [wNew (fun e he => by have := c4 e he; omega)]
  have en : (wSt L xs ks z pt).1.1 = 228 := c1
  rw [en]
  have o : wO (ks ++ [(9, 47)]) pt 228 9 := by
    have := wO.self (ks := ks) (pt := pt) (c := 9) (n := 47) (fun e he => by have := c4 e he; omega)
    rw [c1] at this
    exact this
  refine WX9 (d := 198) hR (by rw [List.length_append, c1]; rfl) o ⟨rfl, ?_⟩
  have hw := wSt_LW (L := L) (xs := xs) hc' (z' := z + 47 + 8191)
  have ek : ks ++ k9 = ks ++ [(9, 47)] ++ k9.tail := by rw [List.append_assoc]; rfl
  have := law_loop hR hL (hbal R hR L xs hL) (z0 := 200000) (by decide) L 0 _ st0 (by omega) (by omega) hw (by show (ks ++ k9).length ≤ 256 + 9 * 0; rw [List.length_append, c1]; exact Nat.le_refl _) (by show z + 47 + 8191 ≤ 200000 + 160 * 0; omega)
  rw [ek] at this
  exact this
end SN
