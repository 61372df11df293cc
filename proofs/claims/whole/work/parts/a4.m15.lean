/-! THE REFERENCE: what is read with fewer names is read so with more; isBinding. -/
theorem pb_inv {α β : Type} {x : Except Nat α} {f : α → Except Nat β} {y : β} (h : pb x f = .ok y) : ∃ a, x = .ok a ∧ f a = .ok y := by
  cases x with
  | error e => cases h
  | ok a => exact ⟨a, rfl, h⟩
/-- what one reader reads the other reads so too -/
def rdL {α : Type} (f g : Nat → PR α) : Prop := ∀ i x, f i = .ok x → g i = .ok x
theorem pTm_mono {f g : Nat → PR Ex} {t : List Nat} (h : rdL f g) : ∀ (n : Nat) (a : Ex) (i : Nat) (x : Ex × Nat), pTm f t n a i = .ok x → pTm g t n a i = .ok x := by
  intro n
  induction n with
  | zero => intro a i x e; exact e
  | succ n ih =>
    intro a i x e
    have e1 : ∀ fac : Nat → PR Ex, pTm fac t (n + 1) a i = if tb t i = 42 then pb (fac (i + 1)) fun x => pTm fac t n (.branch 42 a x.1) x.2 else .ok (a, i) := fun _ => rfl
    rw [e1] at e ⊢
    by_cases c : tb t i = 42
    · rw [if_pos c] at e ⊢
      obtain ⟨y, h1, h2⟩ := pb_inv e
      rw [h _ _ h1, pb_ok]
      exact ih _ _ _ h2
    · rw [if_neg c] at e ⊢
      exact e
theorem pT_mono {f g : Nat → PR Ex} {t : List Nat} (h : rdL f g) : rdL (pT f t) (pT g t) := fun i x e => by
  unfold pT at e ⊢
  obtain ⟨y, h1, h2⟩ := pb_inv e
  rw [h _ _ h1, pb_ok]
  exact pTm_mono h _ _ _ _ h2
theorem pSm_mono {f g : Nat → PR Ex} {t : List Nat} (h : rdL f g) : ∀ (n : Nat) (a : Ex) (i : Nat) (x : Ex × Nat), pSm f t n a i = .ok x → pSm g t n a i = .ok x := by
  intro n
  induction n with
  | zero => intro a i x e; exact e
  | succ n ih =>
    intro a i x e
    have e1 : ∀ fac : Nat → PR Ex, pSm fac t (n + 1) a i = if tb t i = 43 ∨ tb t i = 45 then pb (pT fac t (i + 1)) fun x => pSm fac t n (.branch (tb t i) a x.1) x.2 else .ok (a, i) := fun _ => rfl
    rw [e1] at e ⊢
    by_cases c : tb t i = 43 ∨ tb t i = 45
    · rw [if_pos c] at e ⊢
      obtain ⟨y, h1, h2⟩ := pb_inv e
      rw [pT_mono h _ _ h1, pb_ok]
      exact ih _ _ _ h2
    · rw [if_neg c] at e ⊢
      exact e
theorem pE_mono {f g : Nat → PR Ex} {t : List Nat} (h : rdL f g) : rdL (pE f t) (pE g t) := fun i x e => by
  unfold pE at e ⊢
  obtain ⟨y, h1, h2⟩ := pb_inv e
  rw [pT_mono h _ _ h1, pb_ok]
  exact pSm_mono h _ _ _ _ h2
theorem pF_mono {kb kb' : Nat} (hk : kSub kb kb') {t : List Nat} : ∀ b, rdL (pF kb t b) (pF kb' t b) := by
  intro b
  induction b with
  | zero =>
    intro i x e
    have e1 : ∀ k, pF k t 0 i = if isFg (tb t i) then (if isFg (tb t (i + 1)) then .ok (.leaf ((tb t i - 48) * 10 + (tb t (i + 1) - 48)), i + 2) else .ok (.leaf (tb t i - 48), i + 1)) else if 120 ≤ tb t i ∧ tb t i ≤ 122 ∧ k.testBit (tb t i - 120) then .ok (.leaf (100 + (tb t i - 120)), i + 1) else if tb t i = 40 then .error i else .error i := fun k => by unfold pF; rfl
    rw [e1] at e ⊢
    by_cases c1 : isFg (tb t i) = true
    · rw [if_pos c1] at e ⊢; exact e
    rw [if_neg c1] at e ⊢
    by_cases c2 : 120 ≤ tb t i ∧ tb t i ≤ 122 ∧ kb.testBit (tb t i - 120)
    · rw [if_pos c2] at e
      rw [if_pos ⟨c2.1, c2.2.1, hk _ c2.2.2⟩]
      exact e
    rw [if_neg c2] at e
    split at e <;> cases e
  | succ b ih =>
    intro i x e
    have e1 : ∀ k, pF k t (b + 1) i = if isFg (tb t i) then (if isFg (tb t (i + 1)) then .ok (.leaf ((tb t i - 48) * 10 + (tb t (i + 1) - 48)), i + 2) else .ok (.leaf (tb t i - 48), i + 1)) else if 120 ≤ tb t i ∧ tb t i ≤ 122 ∧ k.testBit (tb t i - 120) then .ok (.leaf (100 + (tb t i - 120)), i + 1) else if tb t i = 40 then (pb (pE (pF k t b) t (i + 1)) fun x => if tb t x.2 = 41 then .ok (x.1, x.2 + 1) else .error x.2) else .error i := fun k => by rw [pF]
    rw [e1] at e ⊢
    by_cases c1 : isFg (tb t i) = true
    · rw [if_pos c1] at e ⊢; exact e
    rw [if_neg c1] at e ⊢
    by_cases c2 : 120 ≤ tb t i ∧ tb t i ≤ 122 ∧ kb.testBit (tb t i - 120)
    · rw [if_pos c2] at e
      rw [if_pos ⟨c2.1, c2.2.1, hk _ c2.2.2⟩]
      exact e
    rw [if_neg c2] at e
    by_cases c3 : tb t i = 40
    · rw [if_pos c3] at e
      rw [if_neg (by omega), if_pos c3]
      obtain ⟨y, h1, h2⟩ := pb_inv e
      rw [pE_mono ih _ _ h1, pb_ok]
      exact h2
    · rw [if_neg c3] at e; cases e
theorem pX_mono {kb kb' : Nat} (hk : kSub kb kb') {t : List Nat} : rdL (pX kb t) (pX kb' t) := fun i x e => pE_mono (pF_mono hk 5) i x e
theorem pC_mono {kb kb' : Nat} (hk : kSub kb kb') {t : List Nat} : rdL (pC kb t) (pC kb' t) := fun i x e => by
  unfold pC at e ⊢
  obtain ⟨y, h1, h2⟩ := pb_inv e
  rw [pX_mono hk _ _ h1, pb_ok]
  by_cases c : tb t y.2 = 60 ∨ tb t y.2 = 61 ∨ tb t y.2 = 62
  · rw [if_pos c] at h2 ⊢
    obtain ⟨w, h3, h4⟩ := pb_inv h2
    rw [pX_mono hk _ _ h3, pb_ok]
    exact h4
  · rw [if_neg c] at h2; cases h2
theorem pC_01 {kb : Nat} {t : List Nat} {i : Nat} {x : Ex × Nat} (h : pC kb t i = .ok x) (nm : Nat → Int32) : exEv nm x.1 = nI 0 ∨ exEv nm x.1 = nI 1 := by
  unfold pC at h
  obtain ⟨y, h1, h2⟩ := pb_inv h
  by_cases c : tb t y.2 = 60 ∨ tb t y.2 = 61 ∨ tb t y.2 = 62
  · rw [if_pos c] at h2
    obtain ⟨w, h3, h4⟩ := pb_inv h2
    cases h4
    show opS _ _ _ = _ ∨ opS _ _ _ = _
    unfold opS
    rw [if_neg (by omega), if_neg (by omega), if_neg (by omega)]
    by_cases c1 : tb t y.2 = 60
    · rw [if_pos c1]; split <;> simp
    rw [if_neg c1]
    by_cases c2 : tb t y.2 = 61
    · rw [if_pos c2]; split <;> simp
    rw [if_neg c2, if_pos (by omega)]
    split <;> simp
  · rw [if_neg c] at h2; cases h2
theorem pC_ge3 {kb : Nat} {t : List Nat} {i : Nat} {x : Ex × Nat} (h : pC kb t i = .ok x) : 3 ≤ (exPost x.1).length := by
  unfold pC at h
  obtain ⟨y, h1, h2⟩ := pb_inv h
  by_cases c : tb t y.2 = 60 ∨ tb t y.2 = 61 ∨ tb t y.2 = 62
  · rw [if_pos c] at h2
    obtain ⟨w, h3, h4⟩ := pb_inv h2
    cases h4
    show 3 ≤ (exPost y.1 ++ exPost w.1 ++ [200 + tb t y.2]).length
    have := exPost_pos y.1
    have := exPost_pos w.1
    simp only [List.length_append, List.length_cons, List.length_nil]
    omega
  · rw [if_neg c] at h2; cases h2
theorem fold_3 : ∀ (l : List Ex) (a : Ex), (∀ e ∈ l, 3 ≤ (exPost e).length) → (exPost a).length + 3 * l.length ≤ (exPost (l.foldl (Lean.RArray.branch 38) a)).length := by
  intro l
  induction l with
  | nil => intro a _; exact Nat.le_refl _
  | cons b l ih =>
    intro a h
    have h1 := h b (List.mem_cons_self ..)
    have h2 := ih (.branch 38 a b) fun e he => h e (List.mem_cons_of_mem _ he)
    have h3 : (exPost (.branch 38 a b)).length = (exPost a).length + (exPost b).length + 1 := by
      show (exPost a ++ exPost b ++ [200 + 38]).length = _
      simp only [List.length_append, List.length_cons, List.length_nil]
    rw [List.foldl_cons, List.length_cons]
    omega
theorem conds_code {cs : List Cls} (h : ∀ e ∈ conds cs, 3 ≤ (exPost e).length) : 3 * (conds cs).length ≤ (rCode cs).length := by
  induction cs with
  | nil => exact Nat.le_refl _
  | cons c cs ih =>
    have e1 : conds (c :: cs) = (if c.1 = 1 then c.2.2.2 else []) ++ conds cs := by simp [conds]
    have e2 : rCode (c :: cs) = cCode c ++ rCode cs := by simp [rCode]
    have := ih fun e he => h e (by rw [e1]; exact List.mem_append_right _ he)
    have h1 : ∀ e ∈ (if c.1 = 1 then c.2.2.2 else []), 3 ≤ (exPost e).length := fun e he => h e (by rw [e1]; exact List.mem_append_left _ he)
    have h2 : 3 * (if c.1 = 1 then c.2.2.2 else []).length ≤ (cCode c).length := by
      by_cases c1 : c.1 = 1
      · rw [if_pos c1] at h1 ⊢
        unfold cCode exCode
        revert h1
        cases c.2.2.2 with
        | nil => intro _; exact Nat.le_refl _
        | cons a l =>
          intro h1
          have := fold_3 l a fun e he => h1 e (List.mem_cons_of_mem _ he)
          have := h1 a (List.mem_cons_self ..)
          simp only [List.length_cons]
          omega
      · rw [if_neg c1]; exact Nat.zero_le _
    rw [e1, e2, List.length_append, List.length_append]
    omega
theorem fold_01 (nm : Nat → Int32) : ∀ (l : List Ex) (a : Ex), (exEv nm a = nI 0 ∨ exEv nm a = nI 1) → (∀ e ∈ l, exEv nm e = nI 0 ∨ exEv nm e = nI 1) → (exEv nm (l.foldl (Lean.RArray.branch 38) a) = 0 ↔ exEv nm a = 0 ∨ ∃ e ∈ l, exEv nm e = 0) := by
  intro l
  induction l with
  | nil => intro a _ _; simp
  | cons b l ih =>
    intro a ha hl
    have hb := hl b (List.mem_cons_self ..)
    have e1 : exEv nm (.branch 38 a b) = exEv nm a &&& exEv nm b := rfl
    have h00 : nI 0 &&& nI 0 = nI 0 := by decide
    have h01 : nI 0 &&& nI 1 = nI 0 := by decide
    have h10 : nI 1 &&& nI 0 = nI 0 := by decide
    have h11 : nI 1 &&& nI 1 = nI 1 := by decide
    have n1 : ¬ (nI 1 = 0) := by decide
    have hab : exEv nm (.branch 38 a b) = nI 0 ∨ exEv nm (.branch 38 a b) = nI 1 := by
      rw [e1]; rcases ha with h | h <;> rcases hb with h' | h' <;> rw [h, h'] <;> simp [h00, h01, h10, h11]
    rw [List.foldl_cons, ih _ hab fun e he => hl e (List.mem_cons_of_mem _ he)]
    have e2 : exEv nm (.branch 38 a b) = 0 ↔ exEv nm a = 0 ∨ exEv nm b = 0 := by
      rw [e1]
      rcases ha with h | h <;> rcases hb with h' | h' <;> rw [h, h'] <;> simp [h00, h01, h10, h11, n1, nI_0]
    rw [e2]
    simp only [List.mem_cons, exists_eq_or_imp, or_assoc]
/-- a rule's conditions hold when each of its comparisons does -/
theorem cndB_conds {cs : List Cls} (ho : rlOK cs) {nm : Nat → Int32} (h01 : ∀ e ∈ conds cs, exEv nm e = nI 0 ∨ exEv nm e = nI 1) : cndB nm cs = (conds cs).all fun e => !(decide (exEv nm e = 0)) := by
  rw [Bool.eq_iff_iff]
  unfold cndB
  simp only [List.all_eq_true]
  have key : ∀ c ∈ cs, c.1 = 1 → (exEv nm (cEx c) = 0 ↔ ∃ e ∈ c.2.2.2, exEv nm e = 0) := by
    intro c hc e
    have hcl := ho.2.2.2.2.2.2 c hc
    have hn := hcl.2.2.2.2.2.2.1 e
    have hm : ∀ x ∈ c.2.2.2, x ∈ conds cs := fun x hx => List.mem_flatMap.mpr ⟨c, hc, by rw [if_pos e]; exact hx⟩
    unfold cEx
    revert hn hm
    cases c.2.2.2 with
    | nil => intro hn _; exact absurd rfl hn
    | cons a l =>
      intro _ hm
      dsimp only
      rw [fold_01 nm l a (h01 a (hm a (List.mem_cons_self ..))) fun x hx => h01 x (hm x (List.mem_cons_of_mem _ hx))]
      simp only [List.mem_cons, exists_eq_or_imp]
  constructor
  · intro hh e he
    obtain ⟨c, hc, hx⟩ := List.mem_flatMap.mp he
    by_cases c1 : c.1 = 1
    · rw [if_pos c1] at hx
      have h1 := hh c hc
      simp only [c1, decide_true, Bool.not_true, Bool.false_or] at h1
      by_cases e0 : exEv nm e = 0
      · have := (key c hc c1).mpr ⟨e, hx, e0⟩
        simp [this] at h1
      · simp [e0]
    · rw [if_neg c1] at hx; exact absurd hx List.not_mem_nil
  · intro hh c hc
    by_cases c1 : c.1 = 1
    · by_cases e0 : exEv nm (cEx c) = 0
      · obtain ⟨e, he, ez⟩ := (key c hc c1).mp e0
        have := hh e (List.mem_flatMap.mpr ⟨c, hc, by rw [if_pos c1]; exact he⟩)
        simp [ez] at this
      · simp [e0]
    · simp [c1]
/-- the names that the first takes tell -/
def tdB (cs : List Cls) : Nat → Nat
  | 0 => 0
  | k + 1 => tdB cs k ||| 2 ^ tkN cs k
theorem tdB_bit {cs : List Cls} {w : Nat} : ∀ k, (tdB cs k).testBit w = true ↔ ∃ j, j < k ∧ tkN cs j = w := by
  intro k
  induction k with
  | zero => simp [tdB]
  | succ k ih =>
    have e : tdB cs (k + 1) = tdB cs k ||| 2 ^ tkN cs k := rfl
    rw [e, Nat.testBit_or, Bool.or_eq_true, ih, Nat.testBit_two_pow, decide_eq_true_iff]
    constructor
    · rintro (⟨j, h1, h2⟩ | h)
      · exact ⟨j, by omega, h2⟩
      · exact ⟨k, by omega, h⟩
    · rintro ⟨j, h1, h2⟩
      by_cases c : j = k
      · subst c; exact Or.inr h2
      · exact Or.inl ⟨j, by omega, h2⟩
theorem tdB_lt {cs : List Cls} : ∀ k, (∀ j, j < k → tkN cs j < 3) → tdB cs k < 8 := by
  intro k
  induction k with
  | zero => intro _; show 0 < 8; decide
  | succ k ih =>
    intro h
    have e : tdB cs (k + 1) = tdB cs k ||| 2 ^ tkN cs k := rfl
    rw [e]
    exact Nat.or_lt_two_pow (n := 3) (ih fun j hj => h j (by omega)) (Nat.pow_lt_pow_right (by decide) (h k (by omega)))
theorem tdB_or : ∀ b, b < 8 → ∀ w, w < 3 → (nI b ||| (nI 1 <<< (nI w &&& 31))) = nI (b ||| 2 ^ w) := by decide
theorem tdB_1 : ∀ b, b < 8 → ∀ w, w < 3 → (((nI b >>> (nI w &&& 31)) &&& nI 1) = nI 1 ↔ b.testBit w = true) := by decide
theorem rlOK.tk {cs : List Cls} (ho : rlOK cs) {j : Nat} (hj : j < nTk cs) : tkP cs j < 10 ∧ tkN cs j < 3 := by
  obtain ⟨l1, c, l2, e1, e2, e3, e4⟩ := rIdx_at 0 cs 0 j hj
  have hcl := ho.2.2.2.2.2.2 c (by rw [e1]; simp)
  unfold tkP tkN
  rw [e4]
  exact ⟨hcl.2.1, hcl.2.2.1⟩
/-- a choice of tokens is a binding -/
def isB (cs : List Cls) (m : Mk) (ch : Nat → Nat) : Bool := (List.range (nTk cs)).all (fun k => frB cs m ch k (ch k)) && cndB (nmF cs m ch) cs
section S9
variable {R : azP} {d n z : Nat} {kd : azK} {I : azI} {J : azJ} {F : azR} {Q : azQ} {cs : List Cls} {t : List Nat} {m : Mk} {b : Nat}
theorem S_isBinding9 (hR : azClosed R) (hK : MdOk kd F) (htk : tOK t) (hx : txt I t) (hr : rdM I t cs) (ho : rlOK cs) (h12 : I 228 12 = -(nI 1)) (h25 : I 228 25 = nI 0) (kb10 : kd b = (10, 70)) (hb1 : b ≠ 228) (hb2 : b ≠ 240) (hm : cD (I b) m) (hv : mOK m) {ch : Nat → Nat} (hch : ∀ k, k < nTk cs → I 242 k = nI (ch k) ∧ ch k < (m (tkP cs k)).length) (h : ∀ I', (∀ c, c ≠ 228 → c ≠ 240 → I' c = I c) → (∀ j, j ≠ 11 → j ≠ 12 → I' 228 j = I 228 j) → I' 228 12 = -(nI 1) → Q (some (.int (nI (if isB cs m ch then 1 else 0)))) ((n, z, kd), I', J, F)) : R (d + 21) mX9_isBinding 0 [.ref 228, .ref b, .retAddr 0, .retAddr 0, .retAddr 0, .retAddr 0] [] ((n, z, kd), I, J, F) Q := by
  have ⟨k0, ⟨k220, k221, k222, k223, k224, k225, k226, k227, k228, k229, k230, k231⟩, ⟨k232, k233, _⟩, ⟨f0, f1, f2, f3, f7, f9, f14, f15, f17, f18, f20, f23⟩, ⟨f26, f28, _⟩⟩ := id hK
  obtain ⟨q1, q2, q3, q4, q5, q6, q7, q8, q9⟩ := id hr
  have h3 : nTk cs ≤ 3 := ho.2.2.2.1
  have hkb : knB cs < 8 := ho.2.2.2.2.2.1
  have hcl : (conds cs).length < 40 := by
    have h80 := ho.2.1
    have := conds_code (cs := cs) fun e he => by
      obtain ⟨k, hk, e1⟩ := List.getElem_of_mem he
      obtain ⟨pos, kb', x, g1, g2, g3, g4, g5⟩ := q9 k hk
      have := pC_ge3 g4
      rw [g5, List.getD_eq_getElem?_getD, List.getElem?_eq_getElem hk, Option.getD_some, e1] at this
      exact this
    omega
  have no : ∀ (I1 : azI), (∀ c, c ≠ 228 → c ≠ 240 → I1 c = I c) → (∀ j, I1 228 j = I 228 j) → isB cs m ch = false → Q (some (.int (nI 0))) ((n, z, kd), I1, J, F) := fun I1 g1 g2 e => by
    have := h I1 g1 (fun j _ _ => g2 j) (by rw [g2]; exact h12)
    rw [e] at this
    exact this
  have nofr : ∀ k, k < nTk cs → frB cs m ch k (ch k) = false → isB cs m ch = false := fun k hk e => by
    unfold isB
    rw [Bool.and_eq_false_iff]
    left
    rw [List.all_eq_false]
    exact ⟨k, List.mem_range.mpr hk, by rw [e]; simp⟩
  -- the conditions
  have cnd : (∀ k, k < nTk cs → frB cs m ch k (ch k) = true) → ∀ (s k : Nat) (I1 : azI) (x2 : Int32) (w5 : Value), s + k = (conds cs).length → (∀ c, c ≠ 228 → c ≠ 240 → I1 c = I c) → (∀ j, j ≠ 11 → j ≠ 12 → I1 228 j = I 228 j) → I1 228 12 = -(nI 1) → (∀ j, j < nTk cs → I1 240 (tkN cs j) = nI (tkV cs m ch j)) → R (d + 21) mX9_isBinding 147 [.ref 228, .ref b, .int x2, .int (nI (if ((conds cs).take k).all (fun e => !(decide (exEv (fun w => I1 240 w) e = 0))) then 1 else 0)), .int (nI k), w5] [] ((n, z, kd), I1, J, F) Q := by
    intro hfr
    have hnm : ∀ I1 : azI, (∀ j, j < nTk cs → I1 240 (tkN cs j) = nI (tkV cs m ch j)) → (∀ e ∈ conds cs, exEv (fun w => I1 240 w) e = nI 0 ∨ exEv (fun w => I1 240 w) e = nI 1) → (isB cs m ch = (conds cs).all fun e => !(decide (exEv (fun w => I1 240 w) e = 0))) := fun I1 g h01 => by
      unfold isB
      rw [List.all_eq_true.mpr (fun k hk => hfr k (List.mem_range.mp hk)), Bool.true_and, ← cndB_conds ho h01]
      exact cndB_cong ho fun j hj => by rw [nmF_eq hfr hj, g j hj]
    have c01 : ∀ nm, ∀ e ∈ conds cs, exEv nm e = nI 0 ∨ exEv nm e = nI 1 := fun nm e he => by
      obtain ⟨k, hk, e1⟩ := List.getElem_of_mem he
      obtain ⟨pos, kb', x, g1, g2, g3, g4, g5⟩ := q9 k hk
      have := pC_01 g4 nm
      rw [g5, List.getD_eq_getElem?_getD, List.getElem?_eq_getElem hk, Option.getD_some, e1] at this
      exact this
    intro s
    induction s with
    | zero =>
      intro k I1 x2 w5 hs g1 g2 g3 g4
      obtain rfl : k = (conds cs).length := by omega
      have := h I1 g1 g2 g3
      rw [hnm I1 g4 (c01 _)] at this
      rw [List.take_length]
      refine BX9_isBinding_147 hR ?_
      simp (disch := omega) only [nI_ad, nI_ml, nI_lti, nI_lei, nI_eqi, nI_nn, nI_0le, nI_eq0, nI_0lt, nI_le0, nI_clamp, nI_pd, nI_sb, zOf_some, zOp_some, zOp_none, kI_int, kL_long, kO_ref, kO_null, nlt_T, nlt_F, nle_T, nle_F, neq_F, vpT, azUp_at, if_true, if_false, true_and, and_true, true_implies, false_implies, implies_true, not_true_eq_false, not_false_eq_true, true_or, or_true, false_or, or_false, and_false, false_and, eq_self, n01_0, n01_1, nm1_0, k0, g2 19 (by decide) (by decide), q3]
      refine ⟨?_, this⟩
      split
      · exact Or.inr (by decide)
      · exact Or.inl (by decide)
    | succ s ih =>
      intro k I1 x2 w5 hs g1 g2 g3 g4
      have hk : k < (conds cs).length := by omega
      by_cases c : ((conds cs).take k).all (fun e => !(decide (exEv (fun w => I1 240 w) e = 0))) = true
      · rw [if_pos c]
        obtain ⟨pos, kb', x, p1, p2, p3, p4, p5⟩ := q9 k hk
        have p1' : I1 239 k = nI pos := by rw [g1 239 (by decide) (by decide)]; exact p1
        have hk40 : k < 40 := by omega
        refine BX9_isBinding_147 hR ?_
        simp (disch := omega) only [nI_ad, nI_ml, nI_lti, nI_lei, nI_eqi, nI_nn, nI_0le, nI_eq0, nI_0lt, nI_le0, nI_clamp, nI_pd, nI_sb, zOf_some, zOp_some, zOp_none, kI_int, kL_long, kO_ref, kO_null, nlt_T, nlt_F, nle_T, nle_F, neq_F, vpT, azUp_at, if_true, if_false, true_and, and_true, true_implies, false_implies, implies_true, not_true_eq_false, not_false_eq_true, true_or, or_true, false_or, or_false, and_false, false_and, eq_self, n01_0, n01_1, nm1_0, k0, g2 19 (by decide) (by decide), q3, n01_1, f20, k230, p1']
        have hf : frp I1 (azUp I1 228 11 (nI pos)) := frp.refl.up11
        have hcu : cu (azUp I1 228 11 (nI pos)) t (knB cs) 5 pos := by
          refine ⟨hf.txt ⟨by rw [g2 10 (by decide) (by decide)]; exact hx.1, by rw [g1 234 (by decide) (by decide)]; exact hx.2⟩, azUp_s, ?_, ?_, ?_⟩
          · rw [azUp_nk (by decide)]; exact g3
          · rw [azUp_nk (by decide), g2 24 (by decide) (by decide)]; exact q6
          · rw [azUp_nk (by decide), g2 25 (by decide) (by decide)]; exact h25
        refine S_compares9 hR hK htk hkb hcu p2 ?_
        rw [pC_mono p3 _ _ p4]
        intro I2 r1 r2 r3
        have e231 : I2 240 = I1 240 := by rw [r1.1 240 (by decide), azUp_nb (by decide)]
        have en : (exEv (fun w => azUp I1 228 11 (nI pos) 240 w) x.1) = exEv (fun w => I1 240 w) x.1 := by rw [azUp_nb (by decide)]
        rw [kI_int, en]
        have hh := ih (k + 1) I2 x2 w5 (by omega) (fun c c1 c2 => by rw [r1.1 c c1, azUp_nb c1]; exact g1 c c1 c2) (fun j j1 j2 => by rw [r1.2 j j1 j2, azUp_nk j1]; exact g2 j j1 j2) r3 (fun j hj => by rw [e231]; exact g4 j hj)
        rw [e231] at hh
        have et : (conds cs).take (k + 1) = (conds cs).take k ++ [x.1] := by
          rw [p5, List.take_succ, List.getD_eq_getElem?_getD, List.getElem?_eq_getElem hk]
          rfl
        rw [et, List.all_append, c, Bool.true_and] at hh
        have ex : nI (if ([x.1].all fun e => !(decide (exEv (fun w => I1 240 w) e = 0))) = true then 1 else 0) = exEv (fun w => I1 240 w) x.1 := by
          rcases pC_01 p4 (fun w => I1 240 w) with e | e
          · rw [List.all_cons, List.all_nil, e]; decide
          · rw [List.all_cons, List.all_nil, e]; decide
        rw [ex] at hh
        exact hh
      · have hf : ((conds cs).all fun e => !(decide (exEv (fun w => I1 240 w) e = 0))) = false := by
          rw [← Bool.not_eq_true]
          intro ht
          apply c
          rw [List.all_eq_true] at ht ⊢
          exact fun e he => ht e (List.mem_of_mem_take he)
        have := h I1 g1 g2 g3
        rw [hnm I1 g4 (c01 _), hf] at this
        rw [if_neg c]
        refine BX9_isBinding_147 hR ?_
        simp (disch := omega) only [nI_ad, nI_ml, nI_lti, nI_lei, nI_eqi, nI_nn, nI_0le, nI_eq0, nI_0lt, nI_le0, nI_clamp, nI_pd, nI_sb, zOf_some, zOp_some, zOp_none, kI_int, kL_long, kO_ref, kO_null, nlt_T, nlt_F, nle_T, nle_F, neq_F, vpT, azUp_at, if_true, if_false, true_and, and_true, true_implies, false_implies, implies_true, not_true_eq_false, not_false_eq_true, true_or, or_true, false_or, or_false, and_false, false_and, eq_self, n01_0, n01_1, nm1_0, k0, g2 19 (by decide) (by decide), q3]
        exact this
  -- the takes
  have main : ∀ (s k : Nat) (I1 : azI) (w4 w5 : Value), s + k = nTk cs → (∀ c, c ≠ 240 → I1 c = I c) → (∀ j, j < k → frB cs m ch j (ch j) = true ∧ I1 240 (tkN cs j) = nI (tkV cs m ch j)) → R (d + 21) mX9_isBinding 4 [.ref 228, .ref b, .int (nI (tdB cs k)), .int (nI k), w4, w5] [] ((n, z, kd), I1, J, F) Q := by
    intro s
    induction s with
    | zero =>
      intro k I1 w4 w5 hs g1 g2
      obtain rfl : k = nTk cs := by omega
      have := cnd (fun k hk => (g2 k hk).1) (conds cs).length 0 I1 (nI (tdB cs (nTk cs))) w5 (by omega) (fun c _ c2 => g1 c c2) (fun j _ _ => by rw [g1 228 (by decide)]) (by rw [g1 228 (by decide)]; exact h12) fun j hj => (g2 j hj).2
      refine BX9_isBinding_4 hR ?_
      have e13 : I1 228 13 = nI (nTk cs) := by rw [g1 228 (by decide)]; exact q1
      simp (disch := omega) only [nI_ad, nI_ml, nI_lti, nI_lei, nI_eqi, nI_nn, nI_0le, nI_eq0, nI_0lt, nI_le0, nI_clamp, nI_pd, nI_sb, zOf_some, zOp_some, zOp_none, kI_int, kL_long, kO_ref, kO_null, nlt_T, nlt_F, nle_T, nle_F, neq_F, vpT, azUp_at, if_true, if_false, true_and, and_true, true_implies, false_implies, implies_true, not_true_eq_false, not_false_eq_true, true_or, or_true, false_or, or_false, and_false, false_and, eq_self, n01_0, n01_1, nm1_0, k0, e13]
      exact this
    | succ s ih =>
      intro k I1 w4 w5 hs g1 g2
      have hk : k < nTk cs := by omega
      have hk3 : k < 3 := by omega
      obtain ⟨tp, tn⟩ := ho.tk hk
      obtain ⟨c1, c2⟩ := hch k hk
      have hm6 := (hv.1 (tkP cs k)).1
      have e13 : I1 228 13 = nI (nTk cs) := by rw [g1 228 (by decide)]; exact q1
      have e226 : ∀ j, j < nTk cs → I1 235 j = nI (tkP cs j) := fun j hj => by rw [g1 235 (by decide)]; exact (q7 j hj).1
      have e227 : ∀ j, j < nTk cs → I1 236 j = nI (tkN cs j) := fun j hj => by rw [g1 236 (by decide)]; exact (q7 j hj).2
      have e233 : ∀ j, j < nTk cs → I1 242 j = nI (ch j) := fun j hj => by rw [g1 242 (by decide)]; exact (hch j hj).1
      have etk : I1 b (10 + 6 * tkP cs k + ch k) = nI (tkV cs m ch k) := by rw [g1 b hb2]; exact (hm _ tp).2 _ (by omega)
      have etd := tdB_lt (cs := cs) k fun j hj => (ho.tk (by omega)).2
      have tok100 : ∀ j, j < nTk cs → tkV cs m ch j < 100 := fun j hj => hv.tok (hch j hj).2
      -- a name is told
      have put : frB cs m ch k (ch k) = true → R (d + 21) mX9_isBinding 112 [.ref 228, .ref b, .int (nI (tdB cs k)), .int (nI k), .int (nI (tkV cs m ch k)), .int (nI k)] [] ((n, z, kd), I1, J, F) Q := by
        intro hfr
        have hh := ih (k + 1) (azUp I1 240 (tkN cs k) (nI (tkV cs m ch k))) (.int (nI (tkV cs m ch k))) (.int (nI k)) (by omega) (fun c cc => by rw [azUp_nb cc]; exact g1 c cc) (fun j hj => ?_)
        · refine BX9_isBinding_112 hR ?_
          simp (disch := omega) only [nI_ad, nI_ml, nI_lti, nI_lei, nI_eqi, nI_nn, nI_0le, nI_eq0, nI_0lt, nI_le0, nI_clamp, nI_pd, nI_sb, zOf_some, zOp_some, zOp_none, kI_int, kL_long, kO_ref, kO_null, nlt_T, nlt_F, nle_T, nle_F, neq_F, vpT, azUp_at, if_true, if_false, true_and, and_true, true_implies, false_implies, implies_true, not_true_eq_false, not_false_eq_true, true_or, or_true, false_or, or_false, and_false, false_and, eq_self, n01_0, n01_1, nm1_0, k0, e227 k hk, f15, f23, k227, k231, tdB_or _ etd _ tn]
          exact hh
        · by_cases e : j = k
          · subst e; exact ⟨hfr, azUp_s⟩
          · refine ⟨(g2 j (by omega)).1, ?_⟩
            by_cases en : tkN cs j = tkN cs k
            · rw [en, azUp_s]
              unfold frB at hfr
              rw [List.all_eq_true] at hfr
              have := (of_decide_eq_true (hfr j (List.mem_range.mpr (by omega)))).2 en
              unfold tkV
              rw [this]
            · rw [azUp_nk en]; exact (g2 j (by omega)).2
      have scan : ∀ (s j : Nat), s + j = k → (∀ i, i < j → ¬ (tkP cs i = tkP cs k ∧ ch i = ch k)) → R (d + 21) mX9_isBinding 34 [.ref 228, .ref b, .int (nI (tdB cs k)), .int (nI k), .int (nI (tkV cs m ch k)), .int (nI j)] [] ((n, z, kd), I1, J, F) Q := by
        intro s
        induction s with
        | zero =>
          intro j hj hn
          obtain rfl : j = k := by omega
          refine BX9_isBinding_34 hR ?_
          simp (disch := omega) only [nI_ad, nI_ml, nI_lti, nI_lei, nI_eqi, nI_nn, nI_0le, nI_eq0, nI_0lt, nI_le0, nI_clamp, nI_pd, nI_sb, zOf_some, zOp_some, zOp_none, kI_int, kL_long, kO_ref, kO_null, nlt_T, nlt_F, nle_T, nle_F, neq_F, vpT, azUp_at, if_true, if_false, true_and, and_true, true_implies, false_implies, implies_true, not_true_eq_false, not_false_eq_true, true_or, or_true, false_or, or_false, and_false, false_and, eq_self, n01_0, n01_1, nm1_0, k0, e227 j hk, f15, f23, k227, k231]
          refine ⟨fun hb => ?_, fun hb => ?_⟩
          · refine put ?_
            unfold frB
            rw [List.all_eq_true]
            intro i hi
            have hi := List.mem_range.mp hi
            refine decide_eq_true ⟨hn i hi, fun en => absurd ((tdB_1 _ etd _ tn).mpr (tdB_bit j |>.mpr ⟨i, hi, en⟩)) hb⟩
          · obtain ⟨i, hi, en⟩ := (tdB_bit j).mp ((tdB_1 _ etd _ tn).mp (Classical.not_not.mp hb))
            have ev := (g2 i hi).2
            rw [en] at ev
            rw [ev]
            have t1 := tok100 i (by omega)
            have t2 := tok100 j hk
            refine ⟨fun e => ?_, fun e => ?_⟩
            · rw [nI_eqi (by omega) (by omega)] at e
              refine put ?_
              unfold frB
              rw [List.all_eq_true]
              intro i' hi'
              have hi' := List.mem_range.mp hi'
              refine decide_eq_true ⟨hn i' hi', fun en' => ?_⟩
              have ev' := (g2 i' hi').2
              rw [en', ← en, (g2 i hi).2, nI_eqi (by omega) (by have := tok100 i' (by omega); omega)] at ev'
              show tkV cs m ch i' = tkV cs m ch j
              omega
            · refine no I1 (fun c _ cc => g1 c cc) (fun j' => by rw [g1 228 (by decide)]) (nofr j hk ?_)
              rw [← Bool.not_eq_true]
              intro hfr
              unfold frB at hfr
              rw [List.all_eq_true] at hfr
              have := (of_decide_eq_true (hfr i (List.mem_range.mpr hi))).2 en
              apply e
              show nI (tkV cs m ch i) = nI (tkV cs m ch j)
              unfold tkV
              rw [this]
        | succ s ihs =>
          intro j hj hn
          have hjk : j < k := by omega
          have hj3 : j < 3 := by omega
          have tpj := (ho.tk (j := j) (by omega)).1
          have cj := (hch j (by omega)).2
          have hm6j := (hv.1 (tkP cs j)).1
          refine BX9_isBinding_34 hR ?_
          simp (disch := omega) only [nI_ad, nI_ml, nI_lti, nI_lei, nI_eqi, nI_nn, nI_0le, nI_eq0, nI_0lt, nI_le0, nI_clamp, nI_pd, nI_sb, zOf_some, zOp_some, zOp_none, kI_int, kL_long, kO_ref, kO_null, nlt_T, nlt_F, nle_T, nle_F, neq_F, vpT, azUp_at, if_true, if_false, true_and, and_true, true_implies, false_implies, implies_true, not_true_eq_false, not_false_eq_true, true_or, or_true, false_or, or_false, and_false, false_and, eq_self, n01_0, n01_1, nm1_0, k0, e226 j (by omega), e226 k hk, e233 j (by omega), e233 k hk, f14, f28, k226, k233]
          have go : ¬ (tkP cs j = tkP cs k ∧ ch j = ch k) → R (d + 21) mX9_isBinding 34 [.ref 228, .ref b, .int (nI (tdB cs k)), .int (nI k), .int (nI (tkV cs m ch k)), .int (nI (j + 1))] [] ((n, z, kd), I1, J, F) Q := fun e => ihs (j + 1) (by omega) fun i hi => by
            by_cases ei : i = j
            · subst ei; exact e
            · exact hn i (by omega)
          refine ⟨fun e1 => go fun e => e1 e.1, fun e1 => ⟨fun e2 => go fun e => e2 e.2, fun e2 => ?_⟩⟩
          refine no I1 (fun c _ cc => g1 c cc) (fun j' => by rw [g1 228 (by decide)]) (nofr k hk ?_)
          rw [← Bool.not_eq_true]
          intro hfr
          unfold frB at hfr
          rw [List.all_eq_true] at hfr
          exact (of_decide_eq_true (hfr j (List.mem_range.mpr hjk))).1 ⟨Classical.not_not.mp e1, Classical.not_not.mp e2⟩
      have kb0 : (kd b).1 = 10 := by rw [kb10]
      refine BX9_isBinding_4 hR ?_
      simp (disch := omega) only [nI_ad, nI_ml, nI_lti, nI_lei, nI_eqi, nI_nn, nI_0le, nI_eq0, nI_0lt, nI_le0, nI_clamp, nI_pd, nI_sb, zOf_some, zOp_some, zOp_none, kI_int, kL_long, kO_ref, kO_null, nlt_T, nlt_F, nle_T, nle_F, neq_F, vpT, azUp_at, if_true, if_false, true_and, and_true, true_implies, false_implies, implies_true, not_true_eq_false, not_false_eq_true, true_or, or_true, false_or, or_false, and_false, false_and, eq_self, n01_0, n01_1, nm1_0, k0, e13, f14, f28, k226, k233, e226 k hk, e233 k hk]
      refine S_at9 hR ?_
      simp (disch := omega) only [nI_ad, nI_ml, nI_lti, nI_lei, nI_eqi, nI_nn, nI_0le, nI_eq0, nI_0lt, nI_le0, nI_clamp, nI_pd, nI_sb, zOf_some, zOp_some, zOp_none, kI_int, kL_long, kO_ref, kO_null, nlt_T, nlt_F, nle_T, nle_F, neq_F, vpT, azUp_at, if_true, if_false, true_and, and_true, true_implies, false_implies, implies_true, not_true_eq_false, not_false_eq_true, true_or, or_true, false_or, or_false, and_false, false_and, eq_self, n01_0, n01_1, nm1_0, kb10, etk]
      exact scan k 0 (by omega) fun i hi => absurd hi (Nat.not_lt_zero _)
  refine BX9_isBinding_0 hR ?_
  exact main (nTk cs) 0 I _ _ (by omega) (fun _ _ => rfl) fun j hj => absurd hj (Nat.not_lt_zero _)
end S9
