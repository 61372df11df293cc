/-! SOUNDNESS: calls and returns; the real machine is closed. -/
def azFd : List String := ["(D)D", "(DD)D", "(DDD)D", "(F)F", "(FF)F", "(FFF)F"]
theorem azMathRows : (Jvm.natives.all fun r => r.cls != "java/lang/Math" || azFd.contains r.desc) = true := by decide +kernel
theorem azPlainN : azNs.all (fun x => plainName x || x == "java/lang/Math") = true := by decide +kernel
theorem azPlain {x : MethodName} {c : Nat} (hc : x.cls = azN c) (hd : azFd.contains x.desc = false) : plainFor x = true := by
  have h1 : plainName (azN c) = true ∨ azN c = "java/lang/Math" := by
    unfold azN
    rw [List.getD_eq_getElem?_getD]
    rcases Nat.lt_or_ge c azNs.length with h | h
    · rw [List.getElem?_eq_getElem h]
      have h2 := List.all_eq_true.mp azPlainN _ (List.getElem_mem h)
      rw [Bool.or_eq_true, beq_iff_eq] at h2
      exact h2
    · rw [List.getElem?_eq_none h]
      exact Or.inl (show plainName "" = true by decide +kernel)
  rcases h1 with h1 | h1
  · exact plainFor_of_name (by rw [hc]; exact h1)
  · unfold plainFor
    rw [Bool.or_eq_true]; right
    rw [Option.isNone_iff_eq_none, NativeRow.find?, List.find?_eq_none]
    intro r hr h
    have := List.all_eq_true.mp azMathRows r hr
    simp only [Bool.and_eq_true, beq_iff_eq] at h
    rw [h.1.2, h.2, hc, h1, hd] at this
    simp at this
theorem az_ofW {l : Launch} {y : MethodName} {ws ws' : List Cond} {rm : Room} {Pc : Array Value → State → Prop} {Qc : Array Value → State → Outcome → State → Prop} {mc ms : Nat} {free : Addr → Prop} {cc : ByteArray} {maxL : Nat} {ret : Option FieldType}
    (hy : plainFor y = true) (hw : ws = Cond.code y cc maxL ret :: ws')
    (body : ∀ p e s m args below meth c s₁, BodyLoose p l y (headSpec ws rm) cc maxL ret e s m args below meth c s₁ → c.maxLocals = maxL → Pc args s →
      W p l e (headSpec ws rm).room s m args below meth c s.heap [] 0 0 (MQ below Qc args s mc ms free) (entryFrame m args maxL)) : Met l y ws rm Pc Qc mc ms free := by
  refine MetFree.of_bodySF (code := cc) (maxLocals := maxL) (ret := ret) hy ?_ ?_
  · intro args s m h hn
    obtain ⟨meth, c, h1, h2, h3, h4, h5, h6, -, -⟩ := Cond.code_spec hn (atoms_spec (ws := ws) h _ (by rw [hw]; exact List.mem_cons_self))
    exact ⟨meth, c, h1, h2, h3, h4, h5, h6⟩
  · intro p e s m args below meth c s₁ B hml hP _
    have hh0 : s₁.heap = s.heap := by rw [B.state]; rfl
    obtain ⟨t, a1, o, b1, b2, b3⟩ := body p e s m args below meth c s₁ B hml hP s₁ hh0 (Stand.of_body B)
    exact ⟨t, o, a1, b1, b2, ⟨b3.1, b3.2⟩⟩
theorem azTab_of {M : azM} (hM : azTabOK M = true) : M.1.cls = azN M.2.2.2.2.2.1 ∧ (M.2.2.2.2.1 = true → M.1.name = "<init>") ∧ M.2.2.1 ≤ 21 := by
  unfold azTabOK at hM
  simp only [Bool.and_eq_true, decide_eq_true_eq] at hM
  refine ⟨hM.1.1.1, fun h => ?_, hM.1.2⟩
  have h2 := hM.1.1.2
  rw [h] at h2
  simpa using h2
theorem azSl_sl (G : azG) : ∀ as : List Value, (lg_sl (as.map (zVal G))).length = (azSl as).length ∧ ∀ (i : Nat) (v : Value), (azSl as)[i]? = some v → (∀ n : Nat, v ≠ .retAddr n) → (lg_sl (as.map (zVal G)))[i]? = some (.val (zVal G v))
  | [] => ⟨rfl, fun i v h => by simp [azSl] at h⟩
  | a :: t => by
    obtain ⟨h1, h2⟩ := azSl_sl G t
    have e1 : lg_sl ((a :: t).map (zVal G)) = (if (zVal G a).category = 2 then [.val (zVal G a), .second] else [.val (zVal G a)]) ++ lg_sl (t.map (zVal G)) := by simp [lg_sl]
    have e2 : azSl (a :: t) = bif azIs2 a then a :: .retAddr 1 :: azSl t else a :: azSl t := rfl
    rw [e1, e2, azIs2_cat]
    cases azIs2 a with
    | true =>
      refine ⟨by simp [h1], fun i v hv hn => ?_⟩
      match i with
      | 0 =>
        simp at hv
        subst hv
        rfl
      | 1 =>
        simp at hv
        exact absurd hv.symm (hn 1)
      | i + 2 => exact h2 i v (by simpa using hv) hn
    | false =>
      refine ⟨by simp [h1], fun i v hv hn => ?_⟩
      match i with
      | 0 =>
        simp at hv
        subst hv
        rfl
      | i + 1 => exact h2 i v (by simpa using hv) hn
theorem azEnv_len {as : List Value} {n : Nat} (h : (azSl as).length ≤ n) : (azEnv as n).length = n := by
  unfold azEnv
  rw [List.length_append, List.length_replicate]
  omega
theorem zLv_env {G : azG} {as : List Value} {n : Nat} (h : (azSl as).length ≤ n) : zLv G (azEnv as n) ((lg_sl (as.map (zVal G)) ++ List.replicate (n - (lg_sl (as.map (zVal G))).length) Slot.unset).toArray) := by
  obtain ⟨h1, h2⟩ := azSl_sl G as
  have he := lv_entry (as.map (zVal G)) (n := n) (by rw [h1]; exact h)
  refine ⟨by rw [he.1, azEnv_len h], he.2.1, fun i v hv hn => ?_⟩
  unfold azEnv at hv
  rw [List.getElem?_toArray]
  by_cases hi : i < (azSl as).length
  · rw [List.getElem?_append_left hi] at hv
    rw [List.getElem?_append_left (by rw [h1]; exact hi)]
    exact h2 i v hv hn
  · rw [List.getElem?_append_right (by omega)] at hv
    have := List.mem_of_getElem? hv
    rw [List.mem_replicate] at this
    exact absurd this.2 (hn 0)
theorem azGood : GoodIn azWords azWords := fun w h => ⟨h, (azWords_in w h).2⟩
theorem zRuns.met {G : azG} {l : Launch} {d : Nat} {M : azM} {as : List Value} {σ σ' : azS} {v : Option Value} (h : zRuns G l d M 0 (azEnv as M.2.2.1) [] σ v σ') (hM : azTabOK M = true) (hpl : azFd.contains M.1.desc = false) (hlen : (azSl as).length ≤ M.2.2.1) (hb : σ'.1.1 < azB) :
    Met l M.1 (azCode M :: azWords) ({ frames := d, cells := σ'.1.1 - σ.1.1, slots := σ'.1.2.1 - σ.1.2.1, locals := 40 * d }) (va_Pc (as.map (zVal G)) (fun U => zRel G σ U.heap ∧ zK G U)) (zQ G v σ') (σ'.1.1 - σ.1.1) (σ'.1.2.1 - σ.1.2.1) (fun q => gB G ≤ q) := by
  obtain ⟨t1, t2, t3⟩ := azTab_of hM
  refine az_ofW (cc := M.2.1) (maxL := M.2.2.1) (ret := M.2.2.2.1) (azPlain t1 hpl) rfl ?_
  intro p e s m args below meth c s₁ B hml hv
  obtain ⟨rfl, hR, hK⟩ := hv
  have hts := atoms_spec (ws := azCode M :: azWords) B.pre
  have hown : s.vm.findClass M.1.cls = some m.cls := findClass_of_methodNamed B.named
  rw [t1] at hown
  rw [lg_entry_eq]
  have hw := h.2.2 hb (azEnv_len hlen) p e ({ frames := d, cells := σ'.1.1 - σ.1.1, slots := σ'.1.2.1 - σ.1.2.1, locals := 40 * d }) s m (as.map (zVal G)).toArray below meth c s.heap [] 0 0 _ ⟨B.exec, B.bytes, B.returns, hml, hown, fun w hw => hts w (List.mem_cons_of_mem _ hw), B.notSynchronized, fun hi => by rw [(name_of_methodNamed B.named B.method).1]; exact t2 hi, hM⟩ hK hR (zLv_env hlen) (fun _ h => by cases h) (by simp) (by simp) (Nat.le_refl _) (Nat.le_refl _)
  rw [Nat.zero_add, Nat.zero_add] at hw
  exact hw
theorem z_call {G : azG} {p : Program} {l : Launch} {e : Env} {R : Room} {s : State} {m : MethodId} {args : Array Value} {below : List Frame} {meth : Method} {c : Code} {H : Heap} {locs : List Loc} {cells slots mc ms pc : Nat} {ls' : Array Slot} {st0 rest : List Value} {a : Array Value} {v : Option Value} {σ1 : azS} {Qw : State → Prop}
    (hr : va_Run p l e R s m args below meth c H locs cells slots mc ms (F0 m pc ls' st0) rest (zQ G v σ1 a) (fun q => gB G ≤ q)) (hlo : ∀ q ∈ locs, gB G ≤ q.base)
    (kk : ∀ (H1 : Heap) (locs1 : List Loc), zRel G σ1 H1 → (∀ q ∈ locs1, gB G ≤ q.base) → W p l e R s m args below meth c H1 locs1 (cells + mc) (slots + ms) Qw (F0 m (pc + 3) ls' ((v.map (zVal G)).toList ++ rest))) : W p l e R s m args below meth c H locs cells slots Qw (F0 m pc ls' st0) := by
  intro T hT X
  obtain ⟨v', st₀, t, T', L, h0, X', hL, e1, e2, ⟨hv, hR1⟩, st⟩ := hr T hT X
  have hv := (Outcome.returned.inj hv)
  subst hv
  obtain ⟨t2, a1, b1⟩ := kk T'.heap (locs ++ L) (by rw [e1]; exact hR1) (fun q hq => by
    rcases List.mem_append.mp hq with h | h
    · exact hlo q h
    · exact hL q h) T' rfl X'
  exact ⟨t2, st t2 a1, b1⟩
theorem azPop_of : ∀ (n : Nat) (st acc : List Value) (w : List Value × List Value), azPop n st acc = some w → ∃ as, w.1 = as ++ acc ∧ as.length = n ∧ st = as.reverse ++ w.2
  | 0, st, acc, w, h => by
    cases h
    exact ⟨[], rfl, rfl, rfl⟩
  | n + 1, [], acc, w, h => by cases h
  | n + 1, v :: st, acc, w, h => by
    obtain ⟨as, h1, h2, h3⟩ := azPop_of n st (v :: acc) w h
    refine ⟨as ++ [v], by rw [h1]; simp, by simp [h2], by rw [h3]; simp⟩
theorem azCat_sum (G : azG) : ∀ st : List Value, ((st.map (zVal G)).map fun v => v.category).sum = azCat st
  | [] => rfl
  | v :: t => by
    have h := azCat_sum G t
    simp only [List.map_cons, List.sum_cons]
    rw [h, azIs2_cat]
    rfl
theorem kI_of {v : Option Value} {f : Int32 → Prop} (h : kI v f) : ∃ x, v = some (.int x) ∧ f x := by
  unfold kI at h; split at h <;> first | exact ⟨_, rfl, h⟩ | exact h.elim
theorem kL_of {v : Option Value} {f : Int64 → Prop} (h : kL v f) : ∃ x, v = some (.long x) ∧ f x := by
  unfold kL at h; split at h <;> first | exact ⟨_, rfl, h⟩ | exact h.elim
theorem kO_of {v : Option Value} {f : Nat → Prop} {g : Prop} (h : kO v f g) : (∃ x, v = some (.ref x) ∧ f x) ∨ (v = some .null ∧ g) := by
  unfold kO at h; split at h <;> first | exact Or.inl ⟨_, rfl, h⟩ | exact Or.inr ⟨rfl, h⟩ | exact h.elim
theorem zRet_of {t : Option FieldType} {v : Option Value} {rest : List Value} {f : List Value → Prop} (h : zRet t v rest f) : f (v.toList ++ rest) := by
  unfold zRet at h
  split at h
  · obtain ⟨rfl, h⟩ := h; exact h
  all_goals first
    | (obtain ⟨x, rfl, h⟩ := kI_of h; exact h)
    | (obtain ⟨x, rfl, h⟩ := kL_of h; exact h)
    | (obtain ⟨x, rfl, h⟩ | ⟨rfl, h⟩ := kO_of h <;> exact h)
    | exact h.elim
/-- what the calls' table says of itself -/
def azCLk (q : azCl) : Bool := (Nat.beq q.2.1 6 || decide ((parseMethodDescriptor q.2.2.2.1.desc).map (fun d => d.parameters.length) = some q.2.2.1)) && (!Nat.beq q.2.1 2 || (decide (q.2.2.2.1.name = "<init>") && azNo q.2.2.2.2.2.2.1)) && (Nat.ble q.2.1 3 || Nat.beq q.2.1 6 || Nat.beq q.2.1 7) && (!Nat.beq q.2.1 7 || Nat.beq q.2.2.2.2.2.2.2.2.1 13) && (!Nat.beq q.2.1 0 || Nat.blt q.2.2.2.2.2.2.2.2.1 10) && !azFd.contains q.2.2.2.1.desc
theorem azCLk_all : azCL.all (fun l => l.all azCLk) = true := by decide +kernel
theorem azCLk_of {c : Nat} {q : azCl} (h : q ∈ azCL.getD c []) : azCLk q = true := by
  have hl := azGetD_lt h
  rw [List.getD_eq_getElem?_getD, List.getElem?_eq_getElem hl] at h
  exact List.all_eq_true.mp (List.all_eq_true.mp azCLk_all _ (List.getElem_mem hl)) _ h
theorem azN_ok : ∀ c, azN c ≠ "java/lang/invoke/MethodHandle" ∧ azN c ≠ "java/lang/invoke/VarHandle" := by
  intro c
  unfold azN
  rw [List.getD_eq_getElem?_getD]
  rcases Nat.lt_or_ge c azNs.length with h | h
  · rw [List.getElem?_eq_getElem h]
    have := List.all_eq_true.mp (show azNs.all (fun x => decide (x ≠ "java/lang/invoke/MethodHandle" ∧ x ≠ "java/lang/invoke/VarHandle")) = true by decide +kernel) _ (List.getElem_mem h)
    exact of_decide_eq_true this
  · rw [List.getElem?_eq_none h]
    show ("" : String) ≠ _ ∧ ("" : String) ≠ _
    decide +kernel
