/-! CONSTRUCTORS: whole (written by wip/whole/gennew2.py). -/
section SN
variable {L : Nat} {xs : Nat → Int32} {ks : List (Nat × Nat)} {z a c : Nat} {pt : List (Nat × Nat × Nat)} {x : Int32} {R : azP} {d : Nat} {Q : azQ}
theorem WX3 (hR : azClosed R) (ha : a + 1 = ks.length) (o : wO ks pt a 3) (h : Q none (wSt L xs (ks ++ [(10, 10), (10, 60)]) (z + 70) ((a, 1, a + 2) :: (a, 0, a + 1) :: pt))) : R (d + 1) mX3_init 0 [.ref a] [] (wSt L xs ks z pt) Q := by
  have e : a + 1 = ks.length := ha
  refine CX3_0 hR ?_
  refine CX3_4 hR o ?_
  refine CX3_12 hR o.step ?_
  refine CX3_20 hR ?_
  simp only [List.append_assoc, List.cons_append, List.nil_append, List.length_append, List.length_cons, List.length_nil, ← e, Nat.add_assoc, Nat.reduceAdd]
  exact h
theorem WX0 (hR : azClosed R) (ha : a + 1 = ks.length) (o : wO ks pt a 0) (h : Q none (wSt L xs (ks ++ [(11, 100), (10, 10)]) (z + 110) ((a, 1, a + 2) :: (a, 0, a + 1) :: pt))) : R (d + 1) mX0_init 0 [.ref a] [] (wSt L xs ks z pt) Q := by
  have e : a + 1 = ks.length := ha
  refine CX0_0 hR ?_
  refine CX0_4 hR o ?_
  refine CX0_12 hR o.step ?_
  refine CX0_20 hR ?_
  simp only [List.append_assoc, List.cons_append, List.nil_append, List.length_append, List.length_cons, List.length_nil, ← e, Nat.add_assoc, Nat.reduceAdd]
  exact h
theorem WX1 (hR : azClosed R) (ha : a + 1 = ks.length) (o : wO ks pt a 1) (h : Q none (wSt L xs (ks ++ [(10, 3), (10, 3), (10, 80)]) (z + 86) ((a, 2, a + 3) :: (a, 1, a + 2) :: (a, 0, a + 1) :: pt))) : R (d + 1) mX1_init 0 [.ref a] [] (wSt L xs ks z pt) Q := by
  have e : a + 1 = ks.length := ha
  refine CX1_0 hR ?_
  refine CX1_4 hR o ?_
  refine CX1_11 hR o.step ?_
  refine CX1_18 hR o.step.step ?_
  refine CX1_26 hR ?_
  simp only [List.append_assoc, List.cons_append, List.nil_append, List.length_append, List.length_cons, List.length_nil, ← e, Nat.add_assoc, Nat.reduceAdd]
  exact h
theorem WX4 (hR : azClosed R) (ha : a + 1 = ks.length) (o : wO ks pt a 4) (h : Q none (wSt L xs (ks ++ [(10, 256), (10, 80), (10, 80)]) (z + 416) ((a, 2, a + 3) :: (a, 1, a + 2) :: (a, 0, a + 1) :: pt))) : R (d + 1) mX4_init 0 [.ref a] [] (wSt L xs ks z pt) Q := by
  have e : a + 1 = ks.length := ha
  refine CX4_0 hR ?_
  refine CX4_4 hR o ?_
  refine CX4_13 hR o.step ?_
  refine CX4_21 hR o.step.step ?_
  refine CX4_29 hR ?_
  simp only [List.append_assoc, List.cons_append, List.nil_append, List.length_append, List.length_cons, List.length_nil, ← e, Nat.add_assoc, Nat.reduceAdd]
  exact h
theorem WX5 (hR : azClosed R) (ha : a + 1 = ks.length) (o : wO ks pt a 5) (h : Q none (wSt L xs (ks ++ [(10, 12), (10, 12), (10, 12), (10, 12), (10, 12), (10, 3), (10, 3), (10, 80)]) (z + 146) ((a, 13, a + 8) :: (a, 12, a + 7) :: (a, 11, a + 6) :: (a, 10, a + 5) :: (a, 9, a + 4) :: (a, 8, a + 3) :: (a, 7, a + 2) :: (a, 6, a + 1) :: pt))) : R (d + 1) mX5_init 0 [.ref a] [] (wSt L xs ks z pt) Q := by
  have e : a + 1 = ks.length := ha
  refine CX5_0 hR ?_
  refine CX5_4 hR o ?_
  refine CX5_12 hR o.step ?_
  refine CX5_20 hR o.step.step ?_
  refine CX5_28 hR o.step.step.step ?_
  refine CX5_36 hR o.step.step.step.step ?_
  refine CX5_44 hR o.step.step.step.step.step ?_
  refine CX5_51 hR o.step.step.step.step.step.step ?_
  refine CX5_58 hR o.step.step.step.step.step.step.step ?_
  refine CX5_66 hR ?_
  simp only [List.append_assoc, List.cons_append, List.nil_append, List.length_append, List.length_cons, List.length_nil, ← e, Nat.add_assoc, Nat.reduceAdd]
  exact h
theorem WX9 (hR : azClosed R) (ha : a + 1 = ks.length) (o : wO ks pt a 9) (h : Q none (wSt L xs (ks ++ [(10, 70), (10, 70), (10, 810), (10, 810), (10, 80), (10, 80), (10, 3), (10, 3), (10, 3), (10, 3), (10, 40), (10, 3), (10, 800), (10, 3), (10, 3), (10, 70), (10, 70), (10, 4200), (10, 60), (10, 60), (10, 600), (10, 70), (12, 60), (11, 100), (11, 100), (10, 10), (10, 10)]) (z + 8191) ((a, 43, a + 27) :: (a, 41, a + 26) :: (a, 40, a + 25) :: (a, 39, a + 24) :: (a, 38, a + 23) :: (a, 37, a + 22) :: (a, 36, a + 21) :: (a, 35, a + 20) :: (a, 34, a + 19) :: (a, 33, a + 18) :: (a, 31, a + 17) :: (a, 30, a + 16) :: (a, 29, a + 15) :: (a, 28, a + 14) :: (a, 26, a + 13) :: (a, 23, a + 12) :: (a, 20, a + 11) :: (a, 18, a + 10) :: (a, 17, a + 9) :: (a, 15, a + 8) :: (a, 14, a + 7) :: (a, 9, a + 6) :: (a, 7, a + 5) :: (a, 3, a + 4) :: (a, 2, a + 3) :: (a, 1, a + 2) :: (a, 0, a + 1) :: pt))) : R (d + 1) mX9_init 0 [.ref a] [] (wSt L xs ks z pt) Q := by
  have e : a + 1 = ks.length := ha
  refine CX9_0 hR ?_
  refine CX9_4 hR o ?_
  refine CX9_12 hR o.step ?_
  refine CX9_20 hR o.step.step ?_
  refine CX9_29 hR o.step.step.step ?_
  refine CX9_38 hR o.step.step.step.step ?_
  refine CX9_46 hR o.step.step.step.step.step ?_
  refine CX9_54 hR o.step.step.step.step.step.step ?_
  refine CX9_61 hR o.step.step.step.step.step.step.step ?_
  refine CX9_68 hR o.step.step.step.step.step.step.step.step ?_
  refine CX9_75 hR o.step.step.step.step.step.step.step.step.step ?_
  refine CX9_82 hR o.step.step.step.step.step.step.step.step.step.step ?_
  refine CX9_90 hR o.step.step.step.step.step.step.step.step.step.step.step ?_
  refine CX9_97 hR o.step.step.step.step.step.step.step.step.step.step.step.step ?_
  refine CX9_106 hR o.step.step.step.step.step.step.step.step.step.step.step.step.step ?_
  refine CX9_113 hR o.step.step.step.step.step.step.step.step.step.step.step.step.step.step ?_
  refine CX9_120 hR o.step.step.step.step.step.step.step.step.step.step.step.step.step.step.step ?_
  refine CX9_128 hR o.step.step.step.step.step.step.step.step.step.step.step.step.step.step.step.step ?_
  refine CX9_136 hR o.step.step.step.step.step.step.step.step.step.step.step.step.step.step.step.step.step ?_
  refine CX9_145 hR o.step.step.step.step.step.step.step.step.step.step.step.step.step.step.step.step.step.step ?_
  refine CX9_153 hR o.step.step.step.step.step.step.step.step.step.step.step.step.step.step.step.step.step.step.step ?_
  refine CX9_161 hR o.step.step.step.step.step.step.step.step.step.step.step.step.step.step.step.step.step.step.step.step ?_
  refine CX9_170 hR o.step.step.step.step.step.step.step.step.step.step.step.step.step.step.step.step.step.step.step.step.step ?_
  refine CX9_178 hR o.step.step.step.step.step.step.step.step.step.step.step.step.step.step.step.step.step.step.step.step.step.step ?_
  refine CX9_186 hR o.step.step.step.step.step.step.step.step.step.step.step.step.step.step.step.step.step.step.step.step.step.step.step ?_
  refine CX9_194 hR o.step.step.step.step.step.step.step.step.step.step.step.step.step.step.step.step.step.step.step.step.step.step.step.step ?_
  refine CX9_202 hR o.step.step.step.step.step.step.step.step.step.step.step.step.step.step.step.step.step.step.step.step.step.step.step.step.step ?_
  refine CX9_210 hR o.step.step.step.step.step.step.step.step.step.step.step.step.step.step.step.step.step.step.step.step.step.step.step.step.step.step ?_
  refine CX9_218 hR ?_
  simp only [List.append_assoc, List.cons_append, List.nil_append, List.length_append, List.length_cons, List.length_nil, ← e, Nat.add_assoc, Nat.reduceAdd]
  exact h
end SN
