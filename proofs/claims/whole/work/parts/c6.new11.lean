/-! CONSTRUCTORS: Image, Walks. -/
def kWk : Nat → List (Nat × Nat)
  | 0 => []
  | i + 1 => kWk i ++ [(3, 2), (10, 10), (10, 60)]
def wp (a : Nat) (pt : List (Nat × Nat × Nat)) : Nat → List (Nat × Nat × Nat)
  | 0 => pt
  | i + 1 => (a + 1, i, a + 2 + 3 * i) :: (a + 2 + 3 * i, 1, a + 2 + 3 * i + 2) :: (a + 2 + 3 * i, 0, a + 2 + 3 * i + 1) :: wp a pt i
theorem kWk_len : ∀ i, (kWk i).length = 3 * i := by
  intro i
  induction i with
  | zero => rfl
  | succ i ih =>
    have e : kWk (i + 1) = kWk i ++ [(3, 2), (10, 10), (10, 60)] := rfl
    rw [e, List.length_append, ih]
    show 3 * i + 3 = _
    omega
section SN
variable {L : Nat} {xs : Nat → Int32} {ks : List (Nat × Nat)} {z a c : Nat} {pt : List (Nat × Nat × Nat)} {x : Int32} {R : azP} {d : Nat} {Q : azQ}
theorem wO.app (h : wO ks pt a c) {l : List (Nat × Nat)} : wO (ks ++ l) pt a c := ⟨by rw [List.length_append]; have := h.1; omega, by rw [List.getD_eq_getElem?_getD, List.getElem?_append_left h.1, ← List.getD_eq_getElem?_getD]; exact h.2.1, fun q hq => by rw [List.length_append]; have := h.2.2 q hq; omega⟩
theorem wO.self {n : Nat} (h : ∀ e ∈ pt, e.1 < ks.length) : wO (ks ++ [(c, n)]) pt ks.length c := ⟨by rw [List.length_append]; show ks.length < ks.length + 1; omega, by rw [getD_app_eq], fun q hq => by rw [List.length_append]; have := h q hq; omega⟩
theorem WX6 (hR : azClosed R) (ha : a + 1 = ks.length) (o : wO ks pt a 6) (h : Q none (wSt L xs (ks ++ [(10, 80), (5, 14), (10, 12), (10, 12), (10, 12), (10, 12), (10, 12), (10, 3), (10, 3), (10, 80)]) (z + 240) ((a, 5, a + 2) :: (a + 2, 13, a + 10) :: (a + 2, 12, a + 9) :: (a + 2, 11, a + 8) :: (a + 2, 10, a + 7) :: (a + 2, 9, a + 6) :: (a + 2, 8, a + 5) :: (a + 2, 7, a + 4) :: (a + 2, 6, a + 3) :: (a, 0, a + 1) :: pt))) : R (d + 2) mX6_init 0 [.ref a] [] (wSt L xs ks z pt) Q := by
  have e : a + 1 = ks.length := ha
  refine CX6_0 hR ?_
  refine CX6_4 hR o ?_
  refine CX6_12 hR o.step ?_
  have o1 : wO (ks ++ [(10, 80)]) ((a, 0, ks.length) :: pt) a 6 := o.step
  have l1 : (ks ++ [(10, 80)]).length = a + 2 := by rw [List.length_append, ← e]; rfl
  refine WX5 hR (List.length_append (as := ks ++ [(10, 80)]) (bs := [(5, 14)])).symm (wO.self o1.2.2) ⟨rfl, ?_, ?_⟩
  · exact (((((((((o1.app.app.ptr (by simp)).ptr (by simp)).ptr (by simp)).ptr (by simp)).ptr (by simp)).ptr (by simp)).ptr (by simp)).ptr (by simp))).kd
  rw [wRef]
  refine CX6_23 hR ?_
  rw [l1]
  simp only [List.append_assoc, List.cons_append, List.nil_append, ← e, Nat.add_assoc, Nat.reduceAdd]
  exact h
theorem WX2 (hR : azClosed R) (ha : a + 1 = ks.length) (o : wO ks pt a 2) (h : Q none (wSt L xs (ks ++ [(3, 2), (10, 10), (10, 60), (14, 10)]) (z + 82) ((a, 1, a + 4) :: (a, 0, a + 1) :: (a + 1, 1, a + 3) :: (a + 1, 0, a + 2) :: pt))) : R (d + 2) mX2_init 0 [.ref a] [] (wSt L xs ks z pt) Q := by
  have e : a + 1 = ks.length := ha
  refine CX2_0 hR ?_
  refine CX2_4 hR o ?_
  refine WX3 hR (by rw [List.length_append]; rfl) (wO.self o.2.2) ⟨rfl, ?_, ?_⟩
  · exact ((o.app.app.ptr (by simp)).ptr (by simp)).kd
  rw [wRef]
  have o2 : wO (ks ++ [(3, 2)] ++ [(10, 10), (10, 60)]) ((a, 0, ks.length) :: (ks.length, 1, ks.length + 2) :: (ks.length, 0, ks.length + 1) :: pt) a 2 := ((o.app.app.ptr (by simp)).ptr (by simp)).ptr (by simp; omega)
  refine CX2_15 hR o2 ?_
  refine CX2_24 hR ?_
  simp only [List.append_assoc, List.cons_append, List.nil_append, List.length_append, List.length_cons, List.length_nil, ← e, Nat.add_assoc, Nat.reduceAdd]
  exact h
theorem wp_lk {pt0 : List (Nat × Nat × Nat)} {y : Nat} (h : lkP pt0 a 0 = some y) : ∀ i, lkP (wp a pt0 i) a 0 = some y := by
  intro i
  induction i with
  | zero => exact h
  | succ i ih =>
    show (if a = a + 1 then _ else if a = a + 2 + 3 * i then _ else if a = a + 2 + 3 * i then _ else lkP (wp a pt0 i) a 0) = _
    rw [if_neg (by omega), if_neg (by omega), if_neg (by omega)]
    exact ih
theorem WX7 (hR : azClosed R) (ha : a + 1 = ks.length) (o : wO ks pt a 7) (h : Q none (wSt L xs (ks ++ [(13, 60)] ++ kWk 60 ++ [(3, 2), (10, 10), (10, 60), (10, 60), (10, 60), (10, 60), (10, 600), (12, 60)]) (z + 5292) ((a, 6, a + 189) :: (a, 5, a + 188) :: (a, 4, a + 187) :: (a, 3, a + 186) :: (a, 2, a + 185) :: (a, 1, a + 182) :: (a + 182, 1, a + 184) :: (a + 182, 0, a + 183) :: wp a ((a, 0, a + 1) :: pt) 60))) : R (d + 2) mX7_init 0 [.ref a, .retAddr 0] [] (wSt L xs ks z pt) Q := by
  have e : a + 1 = ks.length := ha
  let K : Nat → List (Nat × Nat) := fun i => ks ++ [(13, 60)] ++ kWk i
  have lK : ∀ i, (K i).length = a + 2 + 3 * i := fun i => by
    show (ks ++ [(13, 60)] ++ kWk i).length = _
    rw [List.length_append, List.length_append, kWk_len, ← e]; rfl
  have o0 : wO (K 0) ((a, 0, ks.length) :: pt) a 7 := by
    have : K 0 = ks ++ [(13, 60)] := List.append_nil _
    rw [this]
    exact o.step
  have oi : ∀ i, wO (K i) (wp a ((a, 0, a + 1) :: pt) i) a 7 := by
    intro i
    induction i with
    | zero => rw [← e] at o0; exact o0
    | succ i ih =>
      have eK : K (i + 1) = K i ++ [(3, 2), (10, 10), (10, 60)] := (List.append_assoc ..).symm
      have l1 := lK (i + 1)
      have q : wO (K (i + 1)) (wp a ((a, 0, a + 1) :: pt) i) a 7 := by rw [eK]; exact ih.app
      exact ((q.ptr (by omega)).ptr (by omega)).ptr (by omega)
  have main : ∀ s i, s + i = 60 → R (d + 2) mX7_init 15 [.ref a, .int (nI i)] [] (wSt L xs (K i) (z + 60 + 72 * i) (wp a ((a, 0, a + 1) :: pt) i)) Q := by
    intro s
    induction s with
    | zero =>
      intro i hi
      obtain rfl : i = 60 := by omega
      refine CX7_15 hR (oi 60) ⟨fun _ => ?_, fun hn => absurd (by decide) hn⟩
      refine CX7_40 hR (oi 60) ?_
      have l60 := lK 60
      refine WX3 hR (List.length_append (as := K 60) (bs := [(3, 2)])).symm (wO.self (oi 60).2.2) ⟨rfl, ?_, ?_⟩
      · exact (((oi 60).app.app.ptr (by simp)).ptr (by simp)).kd
      rw [wRef]
      have o2 : wO (K 60 ++ [(3, 2)] ++ [(10, 10), (10, 60)]) ((a, 1, (K 60).length) :: ((K 60).length, 1, (K 60).length + 2) :: ((K 60).length, 0, (K 60).length + 1) :: wp a ((a, 0, a + 1) :: pt) 60) a 7 := (((oi 60).app.app.ptr (by simp)).ptr (by simp)).ptr (by simp; omega)
      refine CX7_51 hR o2 ?_
      refine CX7_59 hR o2.step ?_
      refine CX7_67 hR o2.step.step ?_
      refine CX7_75 hR o2.step.step.step ?_
      refine CX7_84 hR o2.step.step.step.step ?_
      refine CX7_92 hR ?_
      have h' : Q none (wSt L xs (K 60 ++ [(3, 2), (10, 10), (10, 60), (10, 60), (10, 60), (10, 60), (10, 600), (12, 60)]) (z + 5292) ((a, 6, a + 189) :: (a, 5, a + 188) :: (a, 4, a + 187) :: (a, 3, a + 186) :: (a, 2, a + 185) :: (a, 1, a + 182) :: (a + 182, 1, a + 184) :: (a + 182, 0, a + 183) :: wp a ((a, 0, a + 1) :: pt) 60)) := h
      generalize K 60 = k6 at l60 h' ⊢
      simp only [List.append_assoc, List.cons_append, List.nil_append, List.length_append, List.length_cons, List.length_nil, l60, Nat.add_assoc, Nat.reduceAdd, Nat.reduceMul]
      exact h'
    | succ s ih =>
      intro i hi
      have li := lK i
      have hn : ¬ (nI 60 ≤ nI i) := by rw [nI_lei (by omega) (by omega)]; omega
      refine CX7_15 hR (oi i) ⟨fun hh => absurd hh hn, fun _ => ⟨(oi i).kd, ?_⟩⟩
      have lk : lkP (wp a ((a, 0, a + 1) :: pt) i) a 0 = some (a + 1) := wp_lk (by show (if a = a then (if 0 = 0 then _ else _) else _) = _; rw [if_pos rfl, if_pos rfl]) i
      rw [lk, zOf_some]
      have eK : K (i + 1) = K i ++ [(3, 2)] ++ [(10, 10), (10, 60)] := by
        show ks ++ [(13, 60)] ++ (kWk i ++ [(3, 2), (10, 10), (10, 60)]) = ks ++ [(13, 60)] ++ kWk i ++ [(3, 2)] ++ [(10, 10), (10, 60)]
        simp only [List.append_assoc, List.cons_append, List.nil_append]
      have kb : (K (i + 1)).getD (a + 1) ((az0 L xs).1.2.2 (a + 1)) = (13, 60) := by
        show (ks ++ [(13, 60)] ++ kWk (i + 1)).getD (a + 1) _ = _
        rw [List.getD_eq_getElem?_getD, List.getElem?_append_left (by rw [List.length_append, ← e]; show a + 1 < a + 1 + 1; omega), e, List.getElem?_append_right (Nat.le_refl _), Nat.sub_self]
        rfl
      have kn : ((K (i + 1)).getD (K i).length ((az0 L xs).1.2.2 (K i).length)).1 = 3 := by
        rw [eK, List.getD_eq_getElem?_getD, List.append_assoc, List.getElem?_append_right (Nat.le_refl _), Nat.sub_self]
        rfl
      refine WX3 hR (List.length_append (as := K i) (bs := [(3, 2)])).symm (wO.self (oi i).2.2) ⟨rfl, ?_, ?_, ?_⟩
      · rw [← eK]
        refine Or.inl ⟨?_, kn⟩
        show ((K (i + 1)).getD (a + 1) _).1 = 13
        rw [kb]
      · rw [← eK]
        show vp_in (nI i) ((K (i + 1)).getD (a + 1) _).2
        rw [kb, vpT (show i < 60 by omega) (by decide)]
        trivial
      · rw [wRef, ← eK, nI_ad, nI_clamp (by omega), li]
        have := ih (i + 1) (by omega)
        have ez : z + 60 + 72 * i + 2 + 70 = z + 60 + 72 * (i + 1) := by omega
        rw [ez]
        exact this
  refine CX7_0 hR ?_
  refine CX7_4 hR o ?_
  refine CX7_13 hR ?_
  have := main 60 0 rfl
  have eK0 : K 0 = ks ++ [(13, 60)] := List.append_nil _
  rw [eK0, e] at this
  exact this
end SN
