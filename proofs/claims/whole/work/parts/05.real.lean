/-! THE REAL MACHINE BEHIND THE ABSTRACT ONE: what a state of the one is in the other's heap. -/
abbrev azG : Type := (Nat × Heap × Nat × Nat × (Nat → Int32)) × ((Nat → Nat) × (Nat → Nat)) × (Nat → ClassId) × (Nat → Nat → Nat) × (Nat → ClassId)
def gB (G : azG) : Nat := G.1.1
def gH (G : azG) : Heap := G.1.2.1
def gS (G : azG) : Nat := G.1.2.2.1
def gL (G : azG) : Nat := G.1.2.2.2.1
def gX (G : azG) : Nat → Int32 := G.1.2.2.2.2
def gT (G : azG) : Nat → Nat := G.2.1.1
def gV (G : azG) : Nat → Nat := G.2.1.2
def gD (G : azG) : va_G := (G.2.2.1, G.2.2.2.1)
def gA (G : azG) : Nat → ClassId := G.2.2.2.2
def azTx : List (List Int32) := [[105, 110], [105, 102], [111, 117, 116], [101, 109, 112, 116, 121]]
def azTl : List Nat := [2, 2, 3, 5]
def zA (G : azG) (a : Nat) : Nat := if a < azB then gB G + a else if a = azB + 10 then gS G else if a < azB + 10 then gT G (a - azB) else gV G (a - azB - 20)
def zVal (G : azG) (v : Value) : Value := match v with
  | .ref a => .ref (zA G a)
  | .int x => .int x
  | .long x => .long x
  | .null => .null
  | .float x => .float x
  | .double x => .double x
  | .retAddr x => .retAddr x
def azTy (ci : Nat) : Nat → FieldType := match ci with
  | 0 => tyX0 | 1 => tyX1 | 2 => tyX2 | 3 => tyX3 | 4 => tyX4 | 5 => tyX5 | 6 => tyX6 | 7 => tyX7 | 8 => tyX8 | _ => tyX9
def azNf (ci : Nat) : Nat := match ci with
  | 0 => 4 | 1 => 3 | 2 => 4 | 3 => 2 | 4 => 4 | 5 => 14 | 6 => 6 | 7 => 8 | 8 => 12 | _ => 47
def zFv (G : azG) (σ : azS) (a : Nat) (t : FieldType) (j : Nat) : Value := match t with
  | .int => .int (σ.2.1 a j)
  | .boolean => .int (σ.2.1 a j)
  | .long => .long (σ.2.2.1 a j)
  | _ => va_rf ((σ.2.2.2 a j).map (zA G))
def zFs (G : azG) (σ : azS) (a ci : Nat) : List Value := (List.range (azNf ci)).map fun j => zFv G σ a (azTy ci j) j
def zRow (G : azG) (σ : azS) (a : Nat) : Nat → Option Nat := fun j => (σ.2.2.2 a j).map (zA G)
def zCell (G : azG) (σ : azS) (a : Nat) : va_E := match (azKd σ a).1 with
  | 10 => .inl (gA G 10, (azKd σ a).2, .inl (σ.2.1 a))
  | 11 => .inl (gA G 11, (azKd σ a).2, .inr (.inl (σ.2.2.1 a)))
  | 12 => .inl (gA G 12, (azKd σ a).2, .inl (σ.2.1 a))
  | 13 => .inl (gA G 13, (azKd σ a).2, .inr (.inr (.inr (.inr (zRow G σ a)))))
  | 14 => .inl (gA G 14, (azKd σ a).2, .inr (.inr (.inr (.inr (zRow G σ a)))))
  | k => .inr (k, zFs G σ a k)
/-- the cells that are not made by the run: texts and script -/
def zOld (G : azG) (σ : azS) : Prop := (∀ a, (azKd σ a).1 < 15 → a < σ.1.1) ∧ (∀ a, (azKd σ a).1 = 15 → a = azB + 10 ∧ (azKd σ a).2 = gL G ∧ σ.2.1 a = gX G) ∧ (∀ a, (azKd σ a).1 = 16 → ∃ j, j < 4 ∧ a = azB + j) ∧ ∀ a, (azKd σ a).1 = 17 → ∃ j, j < 4 ∧ a = azB + 20 + j ∧ (azKd σ a).2 = azTl.getD j 0 ∧ ∀ k, k < azTl.getD j 0 → σ.2.1 a k = (azTx.getD j []).getD k 0
def zRel (G : azG) (σ : azS) (H : Heap) : Prop := H.size = gB G + σ.1.1 ∧ (∀ a, a < σ.1.1 → (azKd σ a).1 < 15 ∧ va_at (gD G) vwCl (gB G + a, zCell G σ a) H) ∧ zOld G σ ∧ ∀ q, q < gB G → H[q]? = (gH G)[q]?
def zTys (G : azG) : List (ClassId × FieldType) := [(gA G 10, .int), (gA G 11, .long), (gA G 12, .boolean), (gA G 13, .object RX3), (gA G 14, .object RX5)]
/-- what the tables say, of any state of the run -/
def zK (G : azG) (U : State) : Prop := va_K (gD G) vwCl (zTys G) U ∧ (∀ w ∈ azXf ++ azXc, va_Nw w U) ∧ (va_AO RX3 U ∧ va_AO RX5 U) ∧ (∀ q ∈ azSL.getD 8 [], vk_R RX8 q.1 q.2.2 (gT G q.2.1) U) ∧ (va_X (gS G) (gL G) (gX G) U (gH G) ∧ gS G < gB G) ∧ vk_S 4 azTl azTx (gT G) (gV G) (fun q => gB G ≤ q) U (gH G) ∧ (gH G).size = gB G ∧ va_Z "java/lang/String" "COMPACT_STRINGS" "Z" (.int 1) (fun q => gB G ≤ q) U (gH G) ∧ ((gV G 11 = 0 ∧ va_Z "jdk/internal/util/Preconditions" "SIOOBE_FORMATTER" "Ljava/util/function/BiFunction;" .null (fun q => gB G ≤ q) U (gH G)) ∨ (gV G 11 ≠ 0 ∧ va_Z "jdk/internal/util/Preconditions" "SIOOBE_FORMATTER" "Ljava/util/function/BiFunction;" (.ref (gV G 10)) (fun q => gB G ≤ q) U (gH G)))
def zLv (G : azG) (ls : List Value) (ls' : Array Slot) : Prop := ls'.size = ls.length ∧ lv_wf ls' ∧ ∀ (i : Nat) (v : Value), ls[i]? = some v → (∀ n : Nat, v ≠ .retAddr n) → ls'[i]? = some (.val (zVal G v))
def zCtx (p : Program) (s : State) (m : MethodId) (args : Array Value) (meth : Method) (c : Code) (M : azM) : Prop :=
  p.tables.exec = Jvm.exec ∧ c.code = M.2.1 ∧ meth.sig.returnType = M.2.2.2.1 ∧ c.maxLocals = M.2.2.1 ∧ s.vm.findClass (azN M.2.2.2.2.2.1) = some m.cls ∧ (∀ w ∈ azWords, w.before args s = true) ∧ meth.locks = false ∧ (M.2.2.2.2.1 = true → meth.name = "<init>") ∧ azTabOK M = true
def zQ (G : azG) (v : Option Value) (σ : azS) : Array Value → State → Outcome → State → Prop := fun _ _ o t => o = .returned (v.map (zVal G)) ∧ zRel G σ t.heap
def zRuns (G : azG) (l : Launch) (d : Nat) (M : azM) (pc : Nat) (ls st : List Value) (σ : azS) (v : Option Value) (σ' : azS) : Prop :=
  σ.1.1 ≤ σ'.1.1 ∧ σ.1.2.1 ≤ σ'.1.2.1 ∧ (σ'.1.1 < azB → ls.length = M.2.2.1 → ∀ (p : Program) (e : Env) (R : Room) (s : State) (m : MethodId) (args : Array Value) (below : List Frame) (meth : Method) (c : Code) (H : Heap) (locs : List Loc) (cells slots : Nat) (ls' : Array Slot),
    zCtx p s m args meth c M → zK G s → zRel G σ H → zLv G ls ls' → (∀ q ∈ locs, gB G ≤ q.base) → cells + (σ'.1.1 - σ.1.1) ≤ R.cells → slots + (σ'.1.2.1 - σ.1.2.1) ≤ R.slots → d ≤ R.frames → 40 * d ≤ R.locals →
    W p l e R s m args below meth c H locs cells slots (MQ below (zQ G v σ') args s (cells + (σ'.1.1 - σ.1.1)) (slots + (σ'.1.2.1 - σ.1.2.1)) (fun q => gB G ≤ q)) (F0 m pc ls' (st.map (zVal G))))
def zReal (G : azG) (l : Launch) : azP := fun d M pc ls st σ Q => azTabOK M = true → ∃ v σ', Q v σ' ∧ zRuns G l d M pc ls st σ v σ'
-- the tables' rows
theorem azLook_mem : ∀ (t : azT) (pc : Nat) (q : Instr × Nat), azLook t pc = some q → (pc, q) ∈ t
  | [], _, _, h => by simp [azLook] at h
  | x :: t, pc, q, h => by
    unfold azLook at h
    cases hb : Nat.beq x.1 pc with
    | true =>
      rw [hb] at h
      have e1 : x.1 = pc := Nat.eq_of_beq_eq_true hb
      have e2 : x.2 = q := Option.some.inj h
      rw [← e1, ← e2]
      exact List.mem_cons_self
    | false =>
      rw [hb] at h
      exact List.mem_cons_of_mem _ (azLook_mem t pc q h)
theorem azLook_dec {M : azM} (hM : azTabOK M = true) {pc : Nat} {q : Instr × Nat} (h : azLook M.2.2.2.2.2.2 pc = some q) : decode M.2.1 pc = .ok q ∧ azLen q = true := by
  unfold azTabOK at hM
  rw [Bool.and_eq_true] at hM
  have h1 := List.all_eq_true.mp hM.2 _ (azLook_mem _ _ _ h)
  rw [Bool.and_eq_true, decide_eq_true_eq] at h1
  exact h1
theorem azLk_mem {α : Type} {c : Nat} {L : List (List (Nat × α))} {k : Nat} {x : α} (h : azLk c L k = some x) : (k, x) ∈ L.getD c [] := by
  unfold azLk at h
  cases hf : (L.getD c []).find? (fun q => Nat.beq q.1 k) with
  | none => rw [hf] at h; cases h
  | some q =>
    rw [hf] at h
    have e1 : q.1 = k := Nat.eq_of_beq_eq_true (by simpa using List.find?_some hf)
    have e2 : q.2 = x := Option.some.inj h
    rw [← e1, ← e2]
    exact List.mem_of_find?_eq_some hf
theorem azGetD_lt {α : Type} {L : List (List α)} {c : Nat} {q : α} (h : q ∈ L.getD c []) : c < L.length := by
  rcases Nat.lt_or_ge c L.length with g | g
  · exact g
  · rw [List.getD_eq_getElem?_getD, List.getElem?_eq_none g] at h
    exact absurd h List.not_mem_nil
theorem azLays_in : ∀ w ∈ azLays, w ∈ azWords := fun _ h => List.mem_append_right _ (List.mem_append_right _ (List.mem_append_right _ (List.mem_append_right _ (List.mem_append_right _ (List.mem_append_right _ (List.mem_append_right _ (List.mem_append_left _ h)))))))
theorem azWf_w : ∀ w ∈ azWf, w ∈ azWords := fun _ h => List.mem_append_left _ h
theorem azWn_w : ∀ w ∈ azWn, w ∈ azWords := fun _ h => List.mem_append_right _ (List.mem_append_left _ h)
theorem azWa_w : ∀ w ∈ azWa, w ∈ azWords := fun _ h => List.mem_append_right _ (List.mem_append_right _ (List.mem_append_left _ h))
theorem azWd_w : ∀ w ∈ azWd, w ∈ azWords := fun _ h => List.mem_append_right _ (List.mem_append_right _ (List.mem_append_right _ (List.mem_append_left _ h)))
theorem azWl_w : ∀ w ∈ azWl, w ∈ azWords := fun _ h => List.mem_append_right _ (List.mem_append_right _ (List.mem_append_right _ (List.mem_append_right _ (List.mem_append_left _ h))))
theorem azWx_w : ∀ w ∈ azWx, w ∈ azWords := fun _ h => List.mem_append_right _ (List.mem_append_right _ (List.mem_append_right _ (List.mem_append_right _ (List.mem_append_right _ (List.mem_append_left _ h)))))
theorem azWt_w : ∀ w ∈ azWt, w ∈ azWords := fun _ h => List.mem_append_right _ (List.mem_append_right _ (List.mem_append_right _ (List.mem_append_right _ (List.mem_append_right _ (List.mem_append_right _ (List.mem_append_left _ h))))))
theorem azWr_w : ∀ w ∈ azWr, w ∈ azWords := fun _ h => List.mem_append_right _ (List.mem_append_right _ (List.mem_append_right _ (List.mem_append_right _ (List.mem_append_right _ (List.mem_append_right _ (List.mem_append_right _ (List.mem_append_right _ (List.mem_append_left _ h))))))))
theorem azWc_w : ∀ w ∈ azWc, w ∈ azWords := fun _ h => List.mem_append_right _ (List.mem_append_right _ (List.mem_append_right _ (List.mem_append_right _ (List.mem_append_right _ (List.mem_append_right _ (List.mem_append_right _ (List.mem_append_right _ (List.mem_append_right _ h))))))))
/-- a class by its number -/
theorem azCls : ∀ ci, ci < 10 → ∃ (C : String) (T : u_T), vwCl[ci]? = some (C, T, azNf ci) ∧ C = azN ci ∧ (∀ w ∈ u_ws C T (azNf ci), w ∈ azWords) ∧ (∀ k, k < azNf ci → parseFieldDescriptor (T k).2.2.1 = some (azTy ci k)) ∧ (∀ a, a < azNf ci → ∀ b, b < azNf ci → a ≠ b → (T a).2.1 ≠ (T b).2.1) ∧ ∀ k, k < azNf ci → (T k).1 = C
  | 0, _ => ⟨RX0, TX0, rfl, rfl, fun w h => azLays_in w (List.mem_append_left _ h), tyX0_ok, nmX0, by decide +kernel⟩
  | 1, _ => ⟨RX1, TX1, rfl, rfl, fun w h => azLays_in w (List.mem_append_right _ (List.mem_append_left _ h)), tyX1_ok, nmX1, by decide +kernel⟩
  | 2, _ => ⟨RX2, TX2, rfl, rfl, fun w h => azLays_in w (List.mem_append_right _ (List.mem_append_right _ (List.mem_append_left _ h))), tyX2_ok, nmX2, by decide +kernel⟩
  | 3, _ => ⟨RX3, TX3, rfl, rfl, fun w h => azLays_in w (List.mem_append_right _ (List.mem_append_right _ (List.mem_append_right _ (List.mem_append_left _ h)))), tyX3_ok, nmX3, by decide +kernel⟩
  | 4, _ => ⟨RX4, TX4, rfl, rfl, fun w h => azLays_in w (List.mem_append_right _ (List.mem_append_right _ (List.mem_append_right _ (List.mem_append_right _ (List.mem_append_left _ h))))), tyX4_ok, nmX4, by decide +kernel⟩
  | 5, _ => ⟨RX5, TX5, rfl, rfl, fun w h => azLays_in w (List.mem_append_right _ (List.mem_append_right _ (List.mem_append_right _ (List.mem_append_right _ (List.mem_append_right _ (List.mem_append_left _ h)))))), tyX5_ok, nmX5, by decide +kernel⟩
  | 6, _ => ⟨RX6, TX6, rfl, rfl, fun w h => azLays_in w (List.mem_append_right _ (List.mem_append_right _ (List.mem_append_right _ (List.mem_append_right _ (List.mem_append_right _ (List.mem_append_right _ (List.mem_append_left _ h))))))), tyX6_ok, nmX6, by decide +kernel⟩
  | 7, _ => ⟨RX7, TX7, rfl, rfl, fun w h => azLays_in w (List.mem_append_right _ (List.mem_append_right _ (List.mem_append_right _ (List.mem_append_right _ (List.mem_append_right _ (List.mem_append_right _ (List.mem_append_right _ (List.mem_append_left _ h)))))))), tyX7_ok, nmX7, by decide +kernel⟩
  | 8, _ => ⟨RX8, TX8, rfl, rfl, fun w h => azLays_in w (List.mem_append_right _ (List.mem_append_right _ (List.mem_append_right _ (List.mem_append_right _ (List.mem_append_right _ (List.mem_append_right _ (List.mem_append_right _ (List.mem_append_right _ (List.mem_append_left _ h))))))))), tyX8_ok, nmX8, by decide +kernel⟩
  | 9, _ => ⟨RX9, TX9, rfl, rfl, fun w h => azLays_in w (List.mem_append_right _ (List.mem_append_right _ (List.mem_append_right _ (List.mem_append_right _ (List.mem_append_right _ (List.mem_append_right _ (List.mem_append_right _ (List.mem_append_right _ (List.mem_append_right _ h))))))))), tyX9_ok, nmX9, by decide +kernel⟩
  | n + 10, h => absurd h (by omega)
/-- what a row of the fields' table says -/
def azFc (t : FieldType) : Nat := match t with
  | .int => 0
  | .long => 1
  | .boolean => 2
  | _ => 3
def azFok (q : azF) : Bool := Nat.blt q.2.1 10 && Nat.blt q.2.2.1 (azNf q.2.1) && Nat.beq (azFc (azTy q.2.1 q.2.2.1)) q.2.2.2.1 && (match vwCl[q.2.1]? with | some r => (r.2.1 q.2.2.1).2.2.2 == q.2.2.2.2.1 | none => false)
theorem azFok_all : azFL.all (fun l => l.all azFok) = true := by decide +kernel
theorem azFok_of {c : Nat} {q : azF} (h : q ∈ azFL.getD c []) : azFok q = true := by
  have hl := azGetD_lt h
  rw [List.getD_eq_getElem?_getD, List.getElem?_eq_getElem hl] at h
  exact List.all_eq_true.mp (List.all_eq_true.mp azFok_all _ (List.getElem_mem hl)) _ h
-- states that are alike
theorem azX_shape : ∀ w ∈ azXf ++ azXc, (∃ a i b n d h, w = .fieldLinkNest a i b n d h) ∨ ∃ a i x h, w = .methodLinkNest a i x h := by
  intro w hw
  rcases List.mem_append.mp hw with h | h
  · obtain ⟨c, -, h⟩ := List.mem_flatMap.mp h
    obtain ⟨q, -, h⟩ := List.mem_flatMap.mp h
    unfold azFx at h
    split at h
    · exact Or.inl ⟨_, _, _, _, _, _, List.mem_singleton.mp h⟩
    · exact absurd h List.not_mem_nil
  · obtain ⟨c, -, h⟩ := List.mem_flatMap.mp h
    obtain ⟨q, -, h⟩ := List.mem_flatMap.mp h
    unfold azCx at h
    split at h
    · exact Or.inr ⟨_, _, _, _, List.mem_singleton.mp h⟩
    · exact absurd h List.not_mem_nil
theorem zK.warm {G : azG} {s U : State} (hW : s.WarmedH U.vm) (h : zK G s) : zK G U := by
  obtain ⟨h1, h2, h3, h4, h5, h6, h7, h8, h9⟩ := h
  refine ⟨va_K.moved hW.alike h1, fun w hw => ?_, ⟨va_AO.moved hW.alike h3.1, va_AO.moved hW.alike h3.2⟩, fun q hq => vk_R.warm hW (h4 q hq), ⟨va_X.moved hW.alike h5.1, h5.2⟩, vk_S.moved hW.alike h6, h7, h8.moved hW.alike, h9.elim (fun h => Or.inl ⟨h.1, h.2.moved hW.alike⟩) (fun h => Or.inr ⟨h.1, h.2.moved hW.alike⟩)⟩
  have hz := h2 w hw
  rcases azX_shape w hw with ⟨a, i, b, n, d, hh, rfl⟩ | ⟨a, i, x, hh, rfl⟩
  · exact va_Nw.warmF hW hz
  · exact va_Nw.warmM hW hz
theorem zK.same {G : azG} {s U : State} (hW : s.vm = U.vm) (h : zK G s) : zK G U := by
  obtain ⟨h1, h2, h3, h4, h5, h6, h7, h8, h9⟩ := h
  have ha : s.vm.Alike U.vm := by rw [hW]; exact Vm.Alike.refl _
  refine ⟨va_K.moved ha h1, fun w hw => ?_, ⟨va_AO.moved ha h3.1, va_AO.moved ha h3.2⟩, fun q hq => vk_R.same hW.symm (h4 q hq), ⟨va_X.moved ha h5.1, h5.2⟩, vk_S.moved ha h6, h7, h8.moved ha, h9.elim (fun h => Or.inl ⟨h.1, h.2.moved ha⟩) (fun h => Or.inr ⟨h.1, h.2.moved ha⟩)⟩
  have hz := h2 w hw
  rcases azX_shape w hw with ⟨a, i, b, n, d, hh, rfl⟩ | ⟨a, i, x, hh, rfl⟩
  · exact va_Nw.same rfl hW hz
  · exact va_Nw.same rfl hW hz
-- cells
theorem zA_lt {G : azG} {a : Nat} (h : a < azB) : zA G a = gB G + a := if_pos h
theorem zRel.at {G : azG} {σ : azS} {H : Heap} (h : zRel G σ H) {a : Nat} (hk : (azKd σ a).1 < 15) : va_P (gD G) vwCl [(gB G + a, zCell G σ a)] H := by
  intro k q hq
  have h1 := (h.2.1 a (h.2.2.1.1 a hk)).2
  cases k with
  | zero => cases hq; exact h1
  | succ k => cases hq
/-- one cell is written -/
theorem zRel.put {G : azG} {σ σ2 : azS} {H H1 : Heap} (h : zRel G σ H) {a : Nat} (ha : (azKd σ a).1 < 15) (hs : σ2.1 = σ.1) (hc : ∀ b, b ≠ a → zCell G σ2 b = zCell G σ b) (hI : ∀ b, b ≠ a → σ2.2.1 b = σ.2.1 b) (hat : va_at (gD G) vwCl (gB G + a, zCell G σ2 a) H1) (hz : H1.size = H.size) (ho : ∀ q : Nat, q ≠ gB G + a → H1[q]? = H[q]?) : zRel G σ2 H1 := by
  obtain ⟨h1, h2, h3, h4⟩ := h
  have hkd : ∀ b, azKd σ2 b = azKd σ b := fun b => by unfold azKd; rw [hs]
  have hne : ∀ b, 15 ≤ (azKd σ b).1 → b ≠ a := fun b hb e => by subst e; omega
  refine ⟨by rw [hz, hs]; exact h1, fun b hb => ?_, ⟨fun b hb => ?_, fun b hb => ?_, fun b hb => ?_, fun b hb => ?_⟩, fun q hq => ?_⟩
  · rw [hs] at hb
    rw [hkd]
    refine ⟨(h2 b hb).1, ?_⟩
    by_cases e : b = a
    · subst e; exact hat
    · rw [hc b e]
      exact va_at.kept (h2 b hb).2 (ho _ (by show gB G + b ≠ gB G + a; omega))
  · rw [hkd] at hb; rw [hs]; exact h3.1 b hb
  · rw [hkd] at hb ⊢
    rw [hI b (hne b (by omega))]
    exact h3.2.1 b hb
  · rw [hkd] at hb
    exact h3.2.2.1 b hb
  · rw [hkd] at hb ⊢
    rw [hI b (hne b (by omega))]
    exact h3.2.2.2 b hb
  · rw [ho q (by omega)]
    exact h4 q hq
theorem azUp_ne {α : Type} (f : Nat → Nat → α) {a b : Nat} (k : Nat) (v : α) (h : b ≠ a) : azUp f a k v b = f b := by
  funext j
  simp [azUp, h]
theorem azUp_eq {α : Type} (f : Nat → Nat → α) (a k : Nat) (v : α) : azUp f a k v a = fun j => if j = k then v else f a j := by
  funext j
  simp [azUp]
theorem zCell_congr {G : azG} {σ σ2 : azS} {b : Nat} (hk : azKd σ2 b = azKd σ b) (hI : σ2.2.1 b = σ.2.1 b) (hJ : σ2.2.2.1 b = σ.2.2.1 b) (hR : σ2.2.2.2 b = σ.2.2.2 b) : zCell G σ2 b = zCell G σ b := by
  have hr : zRow G σ2 b = zRow G σ b := by funext j; unfold zRow; rw [hR]
  have hf : ∀ ci, zFs G σ2 b ci = zFs G σ b ci := by
    intro ci
    unfold zFs
    congr 1
    funext j
    unfold zFv
    split <;> simp only [hI, hJ, hR]
  unfold zCell
  rw [hk]
  split <;> simp only [hI, hJ, hr, hf]
/-- one cell is made -/
theorem zRel.push {G : azG} {σ : azS} {H H1 : Heap} (h : zRel G σ H) {k len : Nat} (hn : σ.1.1 + 1 < azB) (hk : k < 15) (hat : va_at (gD G) vwCl (gB G + σ.1.1, zCell G (azNew σ k len) σ.1.1) H1) (hz : H1.size = H.size + 1) (ho : ∀ q : Nat, q < H.size → H1[q]? = H[q]?) : zRel G (azNew σ k len) H1 := by
  obtain ⟨h1, h2, h3, h4⟩ := h
  have hkd : ∀ b, b ≠ σ.1.1 → azKd (azNew σ k len) b = azKd σ b := fun b hb => by simp [azKd, azNew, hb]
  have hke : azKd (azNew σ k len) σ.1.1 = (k, len) := by simp [azKd, azNew]
  have hc : ∀ b, b ≠ σ.1.1 → zCell G (azNew σ k len) b = zCell G σ b := fun b hb => zCell_congr (hkd b hb) (by funext j; simp [azNew, hb]) (by funext j; simp [azNew, hb]) (by funext j; simp [azNew, hb])
  refine ⟨by rw [hz, h1]; rfl, fun b hb => ?_, ⟨fun b hb => ?_, fun b hb => ?_, fun b hb => ?_, fun b hb => ?_⟩, fun q hq => ?_⟩
  · by_cases e : b = σ.1.1
    · subst e
      rw [hke]
      exact ⟨hk, hat⟩
    · have hb2 : b < σ.1.1 := by
        have : b < σ.1.1 + 1 := hb
        omega
      rw [hkd b e, hc b e]
      exact ⟨(h2 b hb2).1, va_at.kept (h2 b hb2).2 (ho _ (by show gB G + b < H.size; omega))⟩
  · show b < σ.1.1 + 1
    by_cases e : b = σ.1.1
    · omega
    · rw [hkd b e] at hb
      have := h3.1 b hb
      omega
  · by_cases e : b = σ.1.1
    · subst e
      rw [hke] at hb
      exact absurd hb (by omega)
    · rw [hkd b e] at hb ⊢
      have hI : (azNew σ k len).2.1 b = σ.2.1 b := by funext j; simp [azNew, e]
      rw [hI]
      exact h3.2.1 b hb
  · by_cases e : b = σ.1.1
    · subst e
      rw [hke] at hb
      exact absurd hb (by omega)
    · rw [hkd b e] at hb
      exact h3.2.2.1 b hb
  · by_cases e : b = σ.1.1
    · subst e
      rw [hke] at hb
      exact absurd hb (by omega)
    · rw [hkd b e] at hb ⊢
      have hI : (azNew σ k len).2.1 b = σ.2.1 b := by funext j; simp [azNew, e]
      rw [hI]
      exact h3.2.2.2 b hb
  · rw [ho q (by omega)]
    exact h4 q hq
-- locals
def zLl (G : azG) (ls : List Value) : List (Nat × Value) := (List.range ls.length).filterMap fun i => match azGl ls i with
  | .retAddr _ => none
  | v => some (i, zVal G v)
theorem azGl_of {ls : List Value} {i : Nat} {v : Value} (h : ls[i]? = some v) : azGl ls i = v := by
  unfold azGl
  rw [List.getD_eq_getElem?_getD, h]
  rfl
theorem azGl_get {ls : List Value} {i : Nat} (h : azGl ls i ≠ azUn) : ls[i]? = some (azGl ls i) := by
  unfold azGl at h ⊢
  rw [List.getD_eq_getElem?_getD] at h ⊢
  cases hh : ls[i]? with
  | none => rw [hh] at h; exact absurd rfl h
  | some v => rfl
theorem zLl_mem {G : azG} {ls : List Value} {i : Nat} {w : Value} : (i, w) ∈ zLl G ls ↔ ∃ v, ls[i]? = some v ∧ (∀ n, v ≠ .retAddr n) ∧ w = zVal G v := by
  unfold zLl
  rw [List.mem_filterMap]
  constructor
  · rintro ⟨j, hj, h⟩
    have hl := List.mem_range.mp hj
    have hg : ls[j]? = some (azGl ls j) := by
      unfold azGl
      rw [List.getD_eq_getElem?_getD, List.getElem?_eq_getElem hl]
      rfl
    revert h
    split
    · intro h; cases h
    · rename_i hne
      intro h
      have e := Option.some.inj h
      obtain ⟨rfl, rfl⟩ := Prod.mk.inj e
      exact ⟨_, hg, fun n e => hne n e, rfl⟩
  · rintro ⟨v, hv, hn, rfl⟩
    refine ⟨i, List.mem_range.mpr ((List.getElem?_eq_some_iff.mp hv).1), ?_⟩
    rw [azGl_of hv]
    cases v <;> first | exact absurd rfl (hn _) | rfl
theorem zLv.has {G : azG} {ls : List Value} {ls' : Array Slot} (h : zLv G ls ls') : lv_has ls' ls.length (zLl G ls) := by
  refine ⟨h.1, h.2.1, ?_⟩
  rintro ⟨i, w⟩ hq
  obtain ⟨v, h1, h2, rfl⟩ := zLl_mem.mp hq
  exact h.2.2 i v h1 h2
theorem zLv.at {G : azG} {ls : List Value} {ls' : Array Slot} (h : zLv G ls ls') {i : Nat} {v : Value} (hv : azGl ls i = v) (hn : ∀ n, v ≠ .retAddr n) : ls'[i]? = some (.val (zVal G v)) := by
  subst hv
  exact h.2.2 i _ (azGl_get (hn 0)) hn
theorem azIs2_cat (G : azG) (v : Value) : (zVal G v).category = bif azIs2 v then 2 else 1 := by cases v <;> rfl
/-- a local of one word is written -/
theorem zLv.set1 {G : azG} {ls : List Value} {ls' : Array Slot} {i nL : Nat} {v : Value} (hn : nL = ls.length) (hw : azW1 ls i = true) (hv : azIs2 v = false) (h : lv_has ls' nL ((i, zVal G v) :: (zLl G ls).filter (fun q => !(q.1 == i) && !(q.1 + 1 == i && q.2.category == 2)))) : zLv G (ls.set i v) ls' := by
  unfold azW1 at hw
  rw [Bool.and_eq_true] at hw
  have hi : i < ls.length := Nat.blt_eq.mp hw.1
  refine ⟨by rw [h.1, List.length_set, hn], h.2.1, fun k x hx hr => ?_⟩
  by_cases e : k = i
  · subst e
    rw [List.getElem?_set_self hi] at hx
    obtain rfl := Option.some.inj hx
    exact h.2.2 _ List.mem_cons_self
  · rw [List.getElem?_set_ne (fun q => e q.symm)] at hx
    refine h.2.2 (k, zVal G x) (List.mem_cons_of_mem _ (List.mem_filter.mpr ⟨zLl_mem.mpr ⟨x, hx, hr, rfl⟩, ?_⟩))
    have h2 := hw.2
    have : ¬ (k + 1 = i ∧ (zVal G x).category = 2) := by
      rintro ⟨rfl, h3⟩
      have h2 : (!azIs2 (azGl ls k)) = true := h2
      rw [azGl_of hx] at h2
      rw [azIs2_cat] at h3
      cases hz : azIs2 x <;> simp_all
    simp only [Bool.and_eq_true, Bool.not_eq_true', beq_eq_false_iff_ne, ne_eq, Bool.and_eq_false_iff]
    refine ⟨e, ?_⟩
    by_cases h4 : k + 1 = i
    · right
      exact fun h5 => this ⟨h4, h5⟩
    · left
      exact h4
theorem zLv.set2 {G : azG} {ls : List Value} {ls' : Array Slot} {i nL : Nat} {x : Int64} (hn : nL = ls.length) (hw : azW2 ls i = true) (h : lv_has ls' nL ((i, Value.long x) :: (zLl G ls).filter (fun q => !(q.1 == i) && (!(q.1 == i + 1) && !(q.1 + 1 == i && q.2.category == 2))))) : zLv G ((ls.set i (.long x)).set (i + 1) (.retAddr 1)) ls' := by
  unfold azW2 at hw
  rw [Bool.and_eq_true] at hw
  have hi : i + 1 < ls.length := Nat.blt_eq.mp hw.1
  refine ⟨by rw [h.1, List.length_set, List.length_set, hn], h.2.1, fun k v hx hr => ?_⟩
  by_cases e1 : k = i + 1
  · subst e1
    rw [List.getElem?_set_self (by rw [List.length_set]; exact hi)] at hx
    obtain rfl := Option.some.inj hx
    exact absurd rfl (hr 1)
  rw [List.getElem?_set_ne (fun q => e1 q.symm)] at hx
  by_cases e : k = i
  · subst e
    rw [List.getElem?_set_self (by omega)] at hx
    obtain rfl := Option.some.inj hx
    exact h.2.2 _ List.mem_cons_self
  · rw [List.getElem?_set_ne (fun q => e q.symm)] at hx
    refine h.2.2 (k, zVal G v) (List.mem_cons_of_mem _ (List.mem_filter.mpr ⟨zLl_mem.mpr ⟨v, hx, hr, rfl⟩, ?_⟩))
    have h2 := hw.2
    have : ¬ (k + 1 = i ∧ (zVal G v).category = 2) := by
      rintro ⟨rfl, h3⟩
      have h2 : (!azIs2 (azGl ls k)) = true := h2
      rw [azGl_of hx] at h2
      rw [azIs2_cat] at h3
      cases hz : azIs2 v <;> simp_all
    simp only [Bool.and_eq_true, Bool.not_eq_true', beq_eq_false_iff_ne, ne_eq, Bool.and_eq_false_iff]
    refine ⟨e, e1, ?_⟩
    by_cases h4 : k + 1 = i
    · right
      exact fun h5 => this ⟨h4, h5⟩
    · left
      exact h4
