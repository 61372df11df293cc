/-! READING: what is read is spelled no longer. -/
theorem bra_ln {b : Bool} {t : List Nat} : (bra b t).length = t.length + if b then 2 else 0 := by
  unfold bra
  cases b <;> simp
def sgR (lvl i : Nat) : PR Ex → Prop
  | .error _ => True
  | .ok x => 2 ≤ tgt x.1 ∧ (exShow x.1).length + (if tgt x.1 < lvl then 2 else 0) + i ≤ x.2
def SG (lvl : Nat) (f : Nat → PR Ex) : Prop := ∀ i, sgR lvl i (f i)
theorem hof_42 : hof 42 = 3 := rfl
theorem hof_sum {s : Nat} (h : s = 43 ∨ s = 45) : hof s = 2 := by
  rcases h with rfl | rfl <;> rfl
theorem hof_cmp {s : Nat} (h : s = 60 ∨ s = 61 ∨ s = 62) : hof s = 1 := by
  rcases h with rfl | rfl | rfl <;> rfl
theorem shB {s : Nat} {a b : Ex} : (exShow (.branch s a b)).length = (exShow a).length + (if tgt a < hof s then 2 else 0) + 1 + (exShow b).length + (if tgt b ≤ hof s then 2 else 0) := by
  have e : exShow (.branch s a b) = bra (decide (tgt a < hof s)) (exShow a) ++ s :: bra (decide (tgt b ≤ hof s)) (exShow b) := rfl
  rw [e, List.length_append, List.length_cons, bra_ln, bra_ln]
  simp only [decide_eq_true_eq]
  omega
theorem sg_tm {fac : Nat → PR Ex} {t : List Nat} (hf : SG 4 fac) : ∀ (n : Nat) (a : Ex) (i k : Nat), 2 ≤ tgt a → (exShow a).length + (if tgt a < 3 then 2 else 0) + k ≤ i → sgR 3 k (pTm fac t n a i) := by
  intro n
  induction n with
  | zero => intro a i k h0 h1; exact ⟨h0, h1⟩
  | succ n ih =>
    intro a i k h0 h1
    unfold pTm
    by_cases c : tb t i = 42
    · rw [if_pos c]
      have h2 := hf (i + 1)
      revert h2
      cases fac (i + 1) with
      | error e => intro _; exact True.intro
      | ok x =>
        intro h2
        obtain ⟨h3, h4⟩ := h2
        rw [pb_ok]
        refine ih _ _ _ (by show 2 ≤ hof 42; decide) ?_
        rw [shB, hof_42, show tgt (.branch 42 a x.1) = 3 from rfl, if_neg (show ¬ 3 < 3 by omega)]
        have : (if tgt x.1 ≤ 3 then 2 else 0) = if tgt x.1 < 4 then 2 else 0 := by
          by_cases q : tgt x.1 ≤ 3
          · rw [if_pos q, if_pos (by omega)]
          · rw [if_neg q, if_neg (by omega)]
        omega
    · rw [if_neg c]; exact ⟨h0, h1⟩
theorem sg_T {fac : Nat → PR Ex} {t : List Nat} (hf : SG 4 fac) : SG 3 (pT fac t) := by
  intro i
  unfold pT
  have h2 := hf i
  revert h2
  cases fac i with
  | error e => intro _; exact True.intro
  | ok x =>
    intro h2
    obtain ⟨h3, h4⟩ := h2
    rw [pb_ok]
    refine sg_tm hf _ _ _ _ h3 ?_
    by_cases q : tgt x.1 < 3
    · rw [if_pos q]; rw [if_pos (by omega)] at h4; exact h4
    · rw [if_neg q]; omega
theorem sg_sm {fac : Nat → PR Ex} {t : List Nat} (hf : SG 4 fac) : ∀ (n : Nat) (a : Ex) (i k : Nat), 2 ≤ tgt a → (exShow a).length + (if tgt a < 2 then 2 else 0) + k ≤ i → sgR 2 k (pSm fac t n a i) := by
  intro n
  induction n with
  | zero => intro a i k h0 h1; exact ⟨h0, h1⟩
  | succ n ih =>
    intro a i k h0 h1
    unfold pSm
    by_cases c : tb t i = 43 ∨ tb t i = 45
    · rw [if_pos c]
      have h2 := sg_T (t := t) hf (i + 1)
      revert h2
      cases pT fac t (i + 1) with
      | error e => intro _; exact True.intro
      | ok x =>
        intro h2
        obtain ⟨h3, h4⟩ := h2
        rw [pb_ok]
        have hs := hof_sum c
        refine ih _ _ _ (by show 2 ≤ hof (tb t i); omega) ?_
        rw [shB, hs, show tgt (.branch (tb t i) a x.1) = 2 from hs, if_neg (show ¬ 2 < 2 by omega)]
        have : (if tgt x.1 ≤ 2 then 2 else 0) = if tgt x.1 < 3 then 2 else 0 := by
          by_cases q : tgt x.1 ≤ 2
          · rw [if_pos q, if_pos (by omega)]
          · rw [if_neg q, if_neg (by omega)]
        omega
    · rw [if_neg c]; exact ⟨h0, h1⟩
theorem sg_E {fac : Nat → PR Ex} {t : List Nat} (hf : SG 4 fac) : SG 2 (pE fac t) := by
  intro i
  unfold pE
  have h2 := sg_T (t := t) hf i
  revert h2
  cases pT fac t i with
  | error e => intro _; exact True.intro
  | ok x =>
    intro h2
    obtain ⟨h3, h4⟩ := h2
    rw [pb_ok]
    refine sg_sm hf _ _ _ _ h3 ?_
    rw [if_neg (by omega)]
    omega
theorem sg_F {kb : Nat} {t : List Nat} : ∀ b, SG 4 (pF kb t b) := by
  have key : ∀ b, (∀ i, tb t i = 40 → sgR 4 i (match b with
      | 0 => .error i
      | b + 1 => pb (pE (pF kb t b) t (i + 1)) fun x => if tb t x.2 = 41 then .ok (x.1, x.2 + 1) else .error x.2)) → SG 4 (pF kb t b) := by
    intro b hb i
    unfold pF
    by_cases c1 : isFg (tb t i) = true
    · rw [if_pos c1]
      have d1 := isFg_iff.mp c1
      by_cases c2 : isFg (tb t (i + 1)) = true
      · rw [if_pos c2]
        have d2 := isFg_iff.mp c2
        refine ⟨by show 2 ≤ 4; decide, ?_⟩
        rw [show tgt (.leaf ((tb t i - 48) * 10 + (tb t (i + 1) - 48))) = 4 from rfl, if_neg (by decide)]
        unfold exShow
        rw [if_pos (by omega)]
        have := (numTx_len (n := (tb t i - 48) * 10 + (tb t (i + 1) - 48))).2
        omega
      · rw [if_neg c2]
        refine ⟨by show 2 ≤ 4; decide, ?_⟩
        rw [show tgt (.leaf (tb t i - 48)) = 4 from rfl, if_neg (by decide)]
        unfold exShow
        rw [if_pos (by omega)]
        unfold numTx
        rw [if_pos (by omega)]
        simp
        omega
    · rw [if_neg c1]
      by_cases c2 : 120 ≤ tb t i ∧ tb t i ≤ 122 ∧ kb.testBit (tb t i - 120)
      · rw [if_pos c2]
        refine ⟨by show 2 ≤ 4; decide, ?_⟩
        rw [show tgt (.leaf (100 + (tb t i - 120))) = 4 from rfl, if_neg (by decide)]
        unfold exShow
        rw [if_neg (by omega)]
        simp
        omega
      · rw [if_neg c2]
        by_cases c3 : tb t i = 40
        · rw [if_pos c3]; exact hb i c3
        · rw [if_neg c3]; exact True.intro
  intro b
  induction b with
  | zero => exact key 0 fun i _ => True.intro
  | succ b ih =>
    refine key (b + 1) fun i _ => ?_
    dsimp only
    have h2 := sg_E (t := t) ih (i + 1)
    revert h2
    cases pE (pF kb t b) t (i + 1) with
    | error e => intro _; exact True.intro
    | ok x =>
      intro h2
      obtain ⟨h3, h4⟩ := h2
      rw [pb_ok]
      by_cases c : tb t x.2 = 41
      · rw [if_pos c]
        refine ⟨h3, ?_⟩
        dsimp only
        have : (if tgt x.1 < 4 then 2 else 0) ≤ 2 := by split <;> omega
        omega
      · rw [if_neg c]; exact True.intro
theorem sg_X {kb : Nat} {t : List Nat} : SG 2 (pX kb t) := sg_E (sg_F 5)
def scR (i : Nat) : PR Ex → Prop
  | .error _ => True
  | .ok x => tgt x.1 = 1 ∧ (exShow x.1).length + i ≤ x.2
theorem sg_C {kb : Nat} {t : List Nat} (i : Nat) : scR i (pC kb t i) := by
  unfold pC
  have h2 := sg_X (kb := kb) (t := t) i
  revert h2
  cases pX kb t i with
  | error e => intro _; exact True.intro
  | ok x =>
    intro h2
    obtain ⟨h3, h4⟩ := h2
    rw [pb_ok]
    by_cases c : tb t x.2 = 60 ∨ tb t x.2 = 61 ∨ tb t x.2 = 62
    · rw [if_pos c]
      have g2 := sg_X (kb := kb) (t := t) (x.2 + 1)
      revert g2
      cases pX kb t (x.2 + 1) with
      | error e => intro _; exact True.intro
      | ok y =>
        intro g2
        obtain ⟨g3, g4⟩ := g2
        rw [pb_ok]
        refine ⟨hof_cmp c, ?_⟩
        rw [shB, hof_cmp c, if_neg (by omega), if_neg (by omega)]
        dsimp only
        omega
    · rw [if_neg c]; exact True.intro
/-- comparisons joined -/
def fL : List Ex → Nat
  | [] => 0
  | a :: l => (exShow (l.foldl (Lean.RArray.branch 38) a)).length
theorem fL_add (l : List Ex) (c : Ex) (h : 1 ≤ tgt c) : fL (l ++ [c]) = fL l + (if l = [] then 0 else 1) + (exShow c).length := by
  cases l with
  | nil => simp [fL]
  | cons a l =>
    have e : fL (a :: l ++ [c]) = (exShow (.branch 38 (l.foldl (Lean.RArray.branch 38) a) c)).length := by
      show (exShow ((l ++ [c]).foldl (Lean.RArray.branch 38) a)).length = _
      rw [List.foldl_append]; rfl
    rw [e, shB, show hof 38 = 0 from rfl, if_neg (by omega), if_neg (by omega), if_neg (by simp)]
    rfl
def slR (i : Nat) : PR (List Ex) → Prop
  | .error _ => True
  | .ok x => x.1 ≠ [] ∧ fL x.1 + i ≤ x.2
theorem sl_cs {kb : Nat} {t : List Nat} {k : Nat} : ∀ (n : Nat) (l : List Ex) (i : Nat), fL l + (if l = [] then 0 else 1) + k ≤ i → slR k (pCs kb t n l i) := by
  intro n
  induction n with
  | zero => intro l i h; exact True.intro
  | succ n ih =>
    intro l i h
    unfold pCs
    have g := sg_C (kb := kb) (t := t) i
    revert g
    cases pC kb t i with
    | error e => intro _; exact True.intro
    | ok x =>
      intro g
      obtain ⟨g1, g2⟩ := g
      rw [pb_ok]
      have e := fL_add l x.1 (by omega)
      by_cases c : tb t x.2 = 38
      · rw [if_pos c]
        refine ih _ _ ?_
        rw [e, if_neg (show l ++ [x.1] ≠ [] by simp)]
        omega
      · rw [if_neg c]
        refine ⟨by simp, ?_⟩
        show fL (l ++ [x.1]) + k ≤ x.2
        rw [e]; omega
def skR (i : Nat) : PR Cls → Prop
  | .error _ => True
  | .ok x => (clShow x.1).length + i ≤ x.2
theorem sk_cl {t : List Nat} {cs : List Cls} {i : Nat} : skR i (pCl t cs i) := by
  have hk := kOf_len (t := t) (b := i) (e := wEnd t 80 i)
  unfold pCl
  revert hk
  generalize wEnd t 80 i = e
  intro hk
  generalize kOf t i e = k at hk ⊢
  obtain ⟨hk4, hk0, hk1, hk2, hk3⟩ := hk
  by_cases c1 : k = 4 ∨ (k = 0 ∧ 3 ≤ nTk cs) ∨ (k = 2 ∧ 3 ≤ nGv cs)
  · rw [if_pos c1]; exact True.intro
  rw [if_neg c1]
  by_cases c2 : tb t e ≠ 32
  · rw [if_pos c2]; exact True.intro
  rw [if_neg c2]
  by_cases c3 : k = 1
  · rw [if_pos c3]
    have g := sl_cs (kb := knB cs) (t := t) (k := e + 1) 79 [] (e + 1) (by simp [fL])
    revert g
    cases pCs (knB cs) t 79 [] (e + 1) with
    | error e => intro _; exact True.intro
    | ok x =>
      intro g
      have := hk1 c3
      obtain ⟨gn, g⟩ := g
      have e2 : (exShow (cEx ((1, 0, 0, x.1) : Cls))).length = fL x.1 := by
        unfold cEx fL
        revert gn
        cases x.1 with
        | nil => intro gn; exact absurd rfl gn
        | cons a l => intro _; rfl
      rw [pb_ok]
      show (clShow ((1, 0, 0, x.1) : Cls)).length + i ≤ x.2
      simp [clShow, wTx, e2]
      omega
  rw [if_neg c3]
  by_cases c4 : isFg (tb t (e + 1)) = false
  · rw [if_pos c4]; exact True.intro
  rw [if_neg c4]
  have f4 : isFg (tb t (e + 1)) = true := by simpa using c4
  have q4 := isFg_iff.mp f4
  have n1 : (numTx (tb t (e + 1) - 48)).length = 1 := by unfold numTx; rw [if_pos (by omega)]; rfl
  by_cases c5 : k = 3
  · rw [if_pos c5]
    have := hk3 c5
    show (clShow ((3, tb t (e + 1) - 48, 0, []) : Cls)).length + i ≤ e + 2
    simp [clShow, wTx, n1]
    omega
  rw [if_neg c5]
  by_cases c6 : tb t (e + 2) ≠ 32
  · rw [if_pos c6]; exact True.intro
  rw [if_neg c6]
  by_cases c7 : k = 0
  · rw [if_pos c7]
    have := hk0 c7
    by_cases c8 : 120 ≤ tb t (e + 3) ∧ tb t (e + 3) ≤ 122
    · rw [if_pos c8]
      show (clShow ((0, tb t (e + 1) - 48, tb t (e + 3) - 120, []) : Cls)).length + i ≤ e + 4
      simp [clShow, wTx, n1]
      omega
    · rw [if_neg c8]; exact True.intro
  rw [if_neg c7]
  have k2 : k = 2 := by omega
  have := hk2 k2
  have g := sg_X (kb := knB cs) (t := t) (e + 3)
  revert g
  cases pX (knB cs) t (e + 3) with
  | error e => intro _; exact True.intro
  | ok x =>
    intro g
    obtain ⟨g1, g2⟩ := g
    rw [pb_ok]
    show (clShow ((2, tb t (e + 1) - 48, 0, [x.1]) : Cls)).length + i ≤ x.2
    have e3 : cEx ((2, tb t (e + 1) - 48, 0, [x.1]) : Cls) = x.1 := rfl
    simp [clShow, wTx, n1, e3]
    omega
def srR (t : List Nat) : Except Nat (List Cls) → Prop
  | .error _ => True
  | .ok cs => (rShow cs).length ≤ t.length
theorem pCl_le {t : List Nat} {cs : List Cls} {i : Nat} (hi : i ≤ t.length) {x : Cls × Nat} (h : pCl t cs i = .ok x) : x.2 ≤ t.length := by
  have := pgK_cl (cs := cs) hi
  rw [h] at this
  exact this.2.1
theorem sr_r {t : List Nat} : ∀ (n : Nat) (cs : List Cls) (i : Nat), i ≤ t.length → (rShow cs).length + (if cs = [] then 0 else 1) ≤ i → srR t (pR t n cs i) := by
  intro n
  induction n with
  | zero => intro cs i _ _; exact True.intro
  | succ n ih =>
    intro cs i hi h
    unfold pR
    have g := sk_cl (t := t) (cs := cs) (i := i)
    have gl := fun x => pCl_le (cs := cs) hi (x := x)
    revert g gl
    cases pCl t cs i with
    | error e => intro _ _; exact True.intro
    | ok x =>
      intro g gl
      have gl := gl x rfl
      have g : (clShow x.1).length + i ≤ x.2 := g
      rw [pb_ok]
      have e : (rShow (cs ++ [x.1])).length = (rShow cs).length + (if cs = [] then 0 else 1) + (clShow x.1).length := by
        rw [rShow_add, List.length_append, List.length_append]
        congr 2
        split <;> rfl
      by_cases c1 : t.length ≤ x.2
      · rw [if_pos c1]
        by_cases c2 : nTk (cs ++ [x.1]) = 0
        · rw [if_pos c2]; exact True.intro
        · rw [if_neg c2]
          show (rShow (cs ++ [x.1])).length ≤ t.length
          rw [e]; omega
      · rw [if_neg c1]
        by_cases c2 : tb t x.2 = 59
        · rw [if_pos c2]
          refine ih _ _ (by omega) ?_
          rw [e, if_neg (show cs ++ [x.1] ≠ [] by simp)]
          omega
        · rw [if_neg c2]; exact True.intro
/-- a rule spelled is no longer than its text -/
theorem rShow_le {t : List Nat} {cs : List Cls} (h : pRule t = .ok cs) : (rShow cs).length ≤ t.length := by
  have := sr_r (t := t) 12 [] 0 (Nat.zero_le _) (Nat.le_refl _)
  have h' : pR t 12 [] 0 = .ok cs := h
  rw [h'] at this
  exact this
