/-! THE REFERENCE: clause. -/
theorem knB_sub {cs : List Cls} {c : Cls} : kSub (knB cs) (knB (cs ++ [c])) := fun w hw => by
  rw [knB_add, Nat.testBit_or, hw, Bool.true_or]
theorem tk_old {cs : List Cls} {c : Cls} {j : Nat} (h : j < nTk cs) : tkP (cs ++ [c]) j = tkP cs j ∧ tkN (cs ++ [c]) j = tkN cs j := by
  have hl : j < (rOf 0 cs).length := by rw [← rOf_len 0 0]; exact h
  unfold tkP tkN
  rw [rOf_add]
  have e : (rOf 0 cs ++ if c.1 = 0 then [c] else []).getD j (0, 0, 0, []) = (rOf 0 cs).getD j (0, 0, 0, []) := by
    simp only [List.getD_eq_getElem?_getD]
    rw [List.getElem?_append_left hl]
  rw [e]
  exact ⟨rfl, rfl⟩
theorem tk_new {cs : List Cls} {c : Cls} (hc : c.1 = 0) : tkP (cs ++ [c]) (nTk cs) = c.2.1 ∧ tkN (cs ++ [c]) (nTk cs) = c.2.2.1 := by
  unfold tkP tkN nTk
  rw [rOf_add, if_pos hc, rOf_len, getD_app_eq]
  exact ⟨rfl, rfl⟩
theorem gv_old {cs : List Cls} {c : Cls} {j : Nat} (h : j < nGv cs) : gvC (cs ++ [c]) j = gvC cs j := by
  have hl : j < (rOf 2 cs).length := by rw [← rOf_len 2 0]; exact h
  unfold gvC
  rw [rOf_add]
  simp only [List.getD_eq_getElem?_getD]
  rw [List.getElem?_append_left hl]
theorem gv_new {cs : List Cls} {c : Cls} (hc : c.1 = 2) : gvC (cs ++ [c]) (nGv cs) = c := by
  unfold gvC nGv
  rw [rOf_add, if_pos hc, rOf_len, getD_app_eq]
section S9
variable {R : azP} {d n z : Nat} {kd : azK} {I : azI} {J : azJ} {F : azR} {Q : azQ} {t : List Nat} {kb : Nat} {cs : List Cls}
theorem rdM.take {I I' : azI} {pl w : Nat} (h : rdM I t cs) (e226 : I' 235 (nTk cs) = nI pl) (e227 : I' 236 (nTk cs) = nI w) (eo : ∀ q, q ≠ nTk cs → I' 235 q = I 235 q ∧ I' 236 q = I 236 q) (e228 : I' 237 = I 237) (e229 : I' 238 = I 238) (e230 : I' 239 = I 239) (e13 : I' 228 13 = nI (nTk cs + 1)) (e24 : I' 228 24 = nI (knB cs ||| 2 ^ w)) (e22 : I' 228 22 = nI (cs.length + 1)) (e16 : I' 228 16 = I 228 16) (e19 : I' 228 19 = I 228 19) (e21 : I' 228 21 = I 228 21) : rdM I' t (cs ++ [(0, pl, w, [])]) := by
  obtain ⟨h1, h2, h3, h4, h5, h6, h7, h8, h9⟩ := h
  have en : nTk (cs ++ [((0, pl, w, []) : Cls)]) = nTk cs + 1 := by rw [nTk_add, if_pos rfl]
  have eg : nGv (cs ++ [((0, pl, w, []) : Cls)]) = nGv cs := by rw [nGv_add, if_neg (fun h => by have h : (0 : Nat) = 2 := h; omega), Nat.add_zero]
  have ec : conds (cs ++ [((0, pl, w, []) : Cls)]) = conds cs := by rw [conds_add, if_neg (fun h => by have h : (0 : Nat) = 1 := h; omega), List.append_nil]
  have ek : knB (cs ++ [((0, pl, w, []) : Cls)]) = knB cs ||| 2 ^ w := by rw [knB_add, if_pos rfl]
  refine ⟨by rw [e13, en], by rw [e16, eg]; exact h2, by rw [e19, ec]; exact h3, ?_, by rw [e22, List.length_append]; rfl, by rw [e24, ek], fun j hj => ?_, fun k hk => ?_, ?_⟩
  · rw [e21, h4, rBits_add]
    congr 1
    exact (Nat.or_zero _).symm
  · rw [en] at hj
    by_cases ej : j = nTk cs
    · rw [ej, (tk_new rfl).1, (tk_new rfl).2]; exact ⟨e226, e227⟩
    · rw [(tk_old (by omega)).1, (tk_old (by omega)).2, (eo j ej).1, (eo j ej).2]; exact h7 j (by omega)
  · rw [eg] at hk
    obtain ⟨g1, pos, kb, x, g2, g3, g4, g5, g6⟩ := h8 k hk
    rw [gv_old hk, e228, e229]
    exact ⟨g1, pos, kb, x, g2, g3, g4.trans knB_sub, g5, g6⟩
  · rw [ec]
    exact h9.keep e230 knB_sub
theorem rdM.give {I I' : azI} {pl pos j : Nat} {e : Ex} (h : rdM I t cs) (e228 : I' 237 (nGv cs) = nI pl) (e229 : I' 238 (nGv cs) = nI pos) (hp : pos ≤ t.length) (hx : pX (knB cs) t pos = .ok (e, j)) (eo : ∀ q, q ≠ nGv cs → I' 237 q = I 237 q ∧ I' 238 q = I 238 q) (e226 : I' 235 = I 235) (e227 : I' 236 = I 236) (e230 : I' 239 = I 239) (e16 : I' 228 16 = nI (nGv cs + 1)) (e22 : I' 228 22 = nI (cs.length + 1)) (e13 : I' 228 13 = I 228 13) (e24 : I' 228 24 = I 228 24) (e19 : I' 228 19 = I 228 19) (e21 : I' 228 21 = I 228 21) : rdM I' t (cs ++ [(2, pl, 0, [e])]) := by
  obtain ⟨h1, h2, h3, h4, h5, h6, h7, h8, h9⟩ := h
  have en : nTk (cs ++ [((2, pl, 0, [e]) : Cls)]) = nTk cs := by rw [nTk_add, if_neg (fun h => by have h : (2 : Nat) = 0 := h; omega), Nat.add_zero]
  have eg : nGv (cs ++ [((2, pl, 0, [e]) : Cls)]) = nGv cs + 1 := by rw [nGv_add, if_pos rfl]
  have ec : conds (cs ++ [((2, pl, 0, [e]) : Cls)]) = conds cs := by rw [conds_add, if_neg (fun h => by have h : (2 : Nat) = 1 := h; omega), List.append_nil]
  have ek : knB (cs ++ [((2, pl, 0, [e]) : Cls)]) = knB cs := by rw [knB_add, if_neg (fun h => by have h : (2 : Nat) = 0 := h; omega), Nat.or_zero]
  refine ⟨by rw [e13, en]; exact h1, by rw [e16, eg], by rw [e19, ec]; exact h3, ?_, by rw [e22, List.length_append]; rfl, by rw [e24, ek]; exact h6, fun j hj => ?_, fun k hk => ?_, ?_⟩
  · rw [e21, h4, rBits_add]
    congr 1
    exact (Nat.or_zero _).symm
  · rw [en] at hj
    rw [(tk_old hj).1, (tk_old hj).2, e226, e227]; exact h7 j hj
  · rw [eg] at hk
    by_cases ek2 : k = nGv cs
    · rw [ek2, gv_new rfl]
      exact ⟨e228, pos, knB cs, (e, j), e229, hp, knB_sub, hx, rfl⟩
    · obtain ⟨g1, pos, kb, x, g2, g3, g4, g5, g6⟩ := h8 k (by omega)
      rw [gv_old (by omega), (eo k ek2).1, (eo k ek2).2]
      exact ⟨g1, pos, kb, x, g2, g3, g4.trans knB_sub, g5, g6⟩
  · rw [ec]
    exact h9.keep e230 knB_sub
theorem rdM.cond {I I' : azI} {l : List Ex} (h : rdM I t cs) (hcd : cdM I' t (knB cs) (conds cs ++ l)) (e19 : I' 228 19 = nI (conds cs ++ l).length) (e226 : I' 235 = I 235) (e227 : I' 236 = I 236) (e228 : I' 237 = I 237) (e229 : I' 238 = I 238) (e22 : I' 228 22 = nI (cs.length + 1)) (e13 : I' 228 13 = I 228 13) (e16 : I' 228 16 = I 228 16) (e24 : I' 228 24 = I 228 24) (e21 : I' 228 21 = I 228 21) : rdM I' t (cs ++ [(1, 0, 0, l)]) := by
  obtain ⟨h1, h2, h3, h4, h5, h6, h7, h8, h9⟩ := h
  have en : nTk (cs ++ [((1, 0, 0, l) : Cls)]) = nTk cs := by rw [nTk_add, if_neg (fun h => by have h : (1 : Nat) = 0 := h; omega), Nat.add_zero]
  have eg : nGv (cs ++ [((1, 0, 0, l) : Cls)]) = nGv cs := by rw [nGv_add, if_neg (fun h => by have h : (1 : Nat) = 2 := h; omega), Nat.add_zero]
  have ec : conds (cs ++ [((1, 0, 0, l) : Cls)]) = conds cs ++ l := by rw [conds_add, if_pos rfl]
  refine ⟨by rw [e13, en]; exact h1, by rw [e16, eg]; exact h2, by rw [e19, ec], ?_, by rw [e22, List.length_append]; rfl, ?_, fun j hj => ?_, fun k hk => ?_, ?_⟩
  · rw [e21, h4, rBits_add]
    congr 1
    exact (Nat.or_zero _).symm
  · rw [e24, h6, knB_add, if_neg (fun h => by have h : (1 : Nat) = 0 := h; omega), Nat.or_zero]
  · rw [en] at hj
    rw [(tk_old hj).1, (tk_old hj).2, e226, e227]; exact h7 j hj
  · rw [eg] at hk
    obtain ⟨g1, pos, kb, x, g2, g3, g4, g5, g6⟩ := h8 k hk
    rw [gv_old hk, e228, e229]
    exact ⟨g1, pos, kb, x, g2, g3, g4.trans knB_sub, g5, g6⟩
  · rw [ec]
    exact hcd.keep rfl knB_sub
theorem rdM.emp {I I' : azI} {pl : Nat} (h : rdM I t cs) (e21 : I' 228 21 = nI (rBits cs ||| 2 ^ pl)) (e226 : I' 235 = I 235) (e227 : I' 236 = I 236) (e228 : I' 237 = I 237) (e229 : I' 238 = I 238) (e230 : I' 239 = I 239) (e22 : I' 228 22 = nI (cs.length + 1)) (e13 : I' 228 13 = I 228 13) (e16 : I' 228 16 = I 228 16) (e24 : I' 228 24 = I 228 24) (e19 : I' 228 19 = I 228 19) : rdM I' t (cs ++ [(3, pl, 0, [])]) := by
  obtain ⟨h1, h2, h3, h4, h5, h6, h7, h8, h9⟩ := h
  have en : nTk (cs ++ [((3, pl, 0, []) : Cls)]) = nTk cs := by rw [nTk_add, if_neg (fun h => by have h : (3 : Nat) = 0 := h; omega), Nat.add_zero]
  have eg : nGv (cs ++ [((3, pl, 0, []) : Cls)]) = nGv cs := by rw [nGv_add, if_neg (fun h => by have h : (3 : Nat) = 2 := h; omega), Nat.add_zero]
  have ec : conds (cs ++ [((3, pl, 0, []) : Cls)]) = conds cs := by rw [conds_add, if_neg (fun h => by have h : (3 : Nat) = 1 := h; omega), List.append_nil]
  refine ⟨by rw [e13, en]; exact h1, by rw [e16, eg]; exact h2, by rw [e19, ec]; exact h3, by rw [e21, rBits_add]; rfl, by rw [e22, List.length_append]; rfl, ?_, fun j hj => ?_, fun k hk => ?_, ?_⟩
  · rw [e24, h6, knB_add, if_neg (fun h => by have h : (3 : Nat) = 0 := h; omega), Nat.or_zero]
  · rw [en] at hj
    rw [(tk_old hj).1, (tk_old hj).2, e226, e227]; exact h7 j hj
  · rw [eg] at hk
    obtain ⟨g1, pos, kb, x, g2, g3, g4, g5, g6⟩ := h8 k hk
    rw [gv_old hk, e228, e229]
    exact ⟨g1, pos, kb, x, g2, g3, g4.trans knB_sub, g5, g6⟩
  · rw [ec]
    exact h9.keep e230 knB_sub
/-- pCl by kinds -/
theorem pCl_0 {i : Nat} (hk : kOf t i (wEnd t 80 i) = 0) (hn : nTk cs < 3) (hb : tb t (wEnd t 80 i) = 32) : pCl t cs i = match tcR t (wEnd t 80 i + 1) with
    | .error f => .error f
    | .ok x => .ok ((0, x.1, x.2, []), wEnd t 80 i + 4) := by
  unfold pCl tcR
  rw [hk, if_neg (by omega), if_neg (fun q => q hb), if_neg (by omega)]
  by_cases c1 : isFg (tb t (wEnd t 80 i + 1)) = false
  · rw [if_pos c1, if_pos c1]
  rw [if_neg c1, if_neg c1, if_neg (by omega)]
  by_cases c2 : tb t (wEnd t 80 i + 2) ≠ 32
  · rw [if_pos c2, if_pos c2]
  rw [if_neg c2, if_neg c2, if_pos rfl]
  by_cases c3 : 120 ≤ tb t (wEnd t 80 i + 3) ∧ tb t (wEnd t 80 i + 3) ≤ 122
  · rw [if_pos c3, if_pos c3]
  · rw [if_neg c3, if_neg c3]
theorem pCl_2 {i : Nat} (hk : kOf t i (wEnd t 80 i) = 2) (hn : nGv cs < 3) (hb : tb t (wEnd t 80 i) = 32) : pCl t cs i = match gcR (knB cs) t (wEnd t 80 i + 1) with
    | .error f => .error f
    | .ok x => .ok ((2, x.1.1, 0, [x.1.2]), x.2) := by
  unfold pCl gcR
  rw [hk, if_neg (by omega), if_neg (fun q => q hb), if_neg (by omega)]
  by_cases c1 : isFg (tb t (wEnd t 80 i + 1)) = false
  · rw [if_pos c1, if_pos c1]
  rw [if_neg c1, if_neg c1, if_neg (by omega)]
  by_cases c2 : tb t (wEnd t 80 i + 2) ≠ 32
  · rw [if_pos c2, if_pos c2]
  rw [if_neg c2, if_neg c2, if_neg (by omega)]
  show pb (pX (knB cs) t (wEnd t 80 i + 3)) _ = _
  cases pX (knB cs) t (wEnd t 80 i + 1 + 2) with
  | error f => rfl
  | ok x => rfl
end S9
