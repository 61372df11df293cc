/-! THE CLAIM'S START OUT OF THE LAW'S RUN ON THE ABSTRACT MACHINE. -/
def az0 (L : Nat) (xs : Nat → Int32) : azS := ((0, 0, fun a => if a = azB + 10 then (15, L) else if azB ≤ a ∧ a < azB + 4 then (16, 0) else if azB + 20 ≤ a ∧ a < azB + 24 then (17, azTl.getD (a - azB - 20) 0) else (99, 0)), (fun a k => if a = azB + 10 then xs k else (azTx.getD (a - azB - 20) []).getD k 0), (fun _ _ => 0), fun _ _ => none)
theorem az0_old {G : azG} (σ : azS) (h : σ = az0 (gL G) (gX G)) : zOld G σ := by
  subst h
  refine ⟨fun a ha => ?_, fun a ha => ?_, fun a ha => ?_, fun a ha => ?_⟩
  · simp only [azKd, az0] at ha
    split at ha
    · exact absurd ha (by simp)
    · split at ha
      · exact absurd ha (by simp)
      · split at ha
        · exact absurd ha (by simp)
        · exact absurd ha (by simp)
  · simp only [azKd, az0] at ha ⊢
    split at ha
    · rename_i h
      subst h
      refine ⟨rfl, ?_, ?_⟩
      · rw [if_pos rfl]
      · funext k
        rw [if_pos rfl]
    · split at ha
      · exact absurd ha (by simp)
      · split at ha
        · exact absurd ha (by simp)
        · exact absurd ha (by simp)
  · simp only [azKd, az0] at ha
    split at ha
    · exact absurd ha (by simp)
    · split at ha
      · rename_i h
        exact ⟨a - azB, by omega, by omega⟩
      · split at ha
        · exact absurd ha (by simp)
        · exact absurd ha (by simp)
  · simp only [azKd, az0] at ha ⊢
    split at ha
    · exact absurd ha (by simp)
    · rename_i h0
      split at ha
      · exact absurd ha (by simp)
      · rename_i h1
        split at ha
        · rename_i h
          refine ⟨a - azB - 20, by omega, by omega, ?_, fun k hk => ?_⟩
          · rw [if_neg h0, if_neg h1, if_pos h]
          · rw [if_neg h0]
        · exact absurd ha (by simp)
/-- the law, run on the abstract machine, for every script -/
def azLaw : Prop := ∀ (R : azP), azClosed R → ∀ (L : Nat) (xs : Nat → Int32), L ≤ 2048 → R 200 mL_law 0 (azEnv [.ref (azB + 10)] 4) [] (az0 L xs) fun v σ => v = some (.int 1) ∧ σ.1.1 ≤ 600000 ∧ σ.1.2.1 ≤ 7302250
theorem azInst : ((List.range 10).all fun ci => decide (Cond.instantiable (azN ci) (azNf ci) ∈ azWn)) = true := by decide +kernel
theorem az_framed {s t : State} {o : Outcome} {L : List Loc} {k n : Nat} (h : FrameEnd s o t L k n) (hL : ∀ q ∈ L, s.heap.size ≤ q.base) (hk : k ≤ 600000) (hn : n ≤ 7302250) : Framed s o t [] 600000 7302250 :=
  ⟨h.1, h.2.1, h.2.2.weaken (fun y hy hlt => absurd hlt (Nat.not_lt.mpr (hL y hy))) hk hn⟩
theorem az_arr {s : State} {args : Array Value} {ty : FieldType} (h : (Cond.arrayClass ty).before args s = true) : ∃ cA : ClassId, ArrOfT s cA ty ∧ s.vm.findClass ("[" ++ ty.toString) = some cA := by
  obtain ⟨c, k, comp, h1, h2, h3⟩ := Cond.arrayClass_spec h
  exact ⟨c, fun n z => ⟨fun k h => (by cases h), k, h2, comp, h3⟩, h1⟩
theorem az_arrO {s : State} {args : Array Value} {C : String} (h : (Cond.arrayOver (.object C)).before args s = true) : ∃ cA : ClassId, ArrOfT s cA (.object C) ∧ va_RA s cA (.object C) := by
  obtain ⟨comp, c, k, h1, h2, h3, h4, h5⟩ := Cond.arrayOver_spec h
  exact ⟨c, fun n z => ⟨fun k h => (by cases h), k, h3, comp, h4⟩, k, comp, h3, h4, h1, h5⟩
set_option maxHeartbeats 4000000 in
set_option maxRecDepth 100000 in
/-- what the tables say at the law's entry -/
theorem az_start {s : State} {b L : Nat} {xs : Nat → Int32} (hts : ∀ w ∈ lw_tbl, w.before #[Value.ref b] s = true) (hX : va_X b L xs s s.heap) (hbl : b < s.heap.size) (hgv : (Jvm.Cond.and given_1 narrow_1).before #[Value.ref b] s = true) : ∃ G : azG, zK G s ∧ gB G = s.heap.size ∧ gH G = s.heap ∧ gL G = L ∧ gX G = xs ∧ gS G = b := by
  have hw : ∀ w ∈ azWords, w.before #[Value.ref b] s = true := fun w h => hts w (azWords_in w h).1
  have hfl := flat_of_before _ hgv
  have hA : ∀ a : Nat, a < s.heap.size → ¬ (fun q : Nat => s.heap.size ≤ q) a := fun a h => Nat.not_le.mpr h
  have hKn : ∀ ci : Nat, ∃ (q : ClassId × (Nat → Nat)), ci < 10 → ∀ (C : String) (T : u_T) (N : Nat), vwCl[ci]? = some (C, T, N) → u_Kn s C T N q.1 q.2 := by
    intro ci
    by_cases hci : ci < 10
    · obtain ⟨C, T, g1, g2, g3, g4, g5, g6⟩ := azCls ci hci
      have hi : Cond.instantiable (azN ci) (azNf ci) ∈ azWn := of_decide_eq_true (List.all_eq_true.mp azInst ci (List.mem_range.mpr hci))
      obtain ⟨cC, iS, h⟩ := u_known (C := C) (T := T) (N := azNf ci) (n := azNf ci) hts (fun w hw => (azWords_in w (g3 w hw)).1) (by rw [g2]; exact hw _ (azWn_w _ hi))
      refine ⟨(cC, iS), fun _ C' T' N' h' => ?_⟩
      rw [g1] at h'
      cases h'
      exact h
    · exact ⟨(0, fun _ => 0), fun h => absurd h hci⟩
  obtain ⟨kq, hkq⟩ := Classical.axiomOfChoice hKn
  obtain ⟨c10, a10, f10⟩ := az_arr (hw _ (azWr_w (.arrayClass .int) (by simp [azWr, azArr])))
  obtain ⟨c11, a11, f11⟩ := az_arr (hw _ (azWr_w (.arrayClass .long) (by simp [azWr, azArr])))
  obtain ⟨c12, a12, f12⟩ := az_arr (hw _ (azWr_w (.arrayClass .boolean) (by simp [azWr, azArr])))
  have o3 := hts _ (azXo_in (.arrayOver (.object RX3)) (by simp [azXo]))
  have o5 := hts _ (azXo_in (.arrayOver (.object RX5)) (by simp [azXo]))
  obtain ⟨c13, a13, f13⟩ := az_arrO o3
  obtain ⟨c14, a14, f14⟩ := az_arrO o5
  obtain ⟨adK, adV, hS, hT⟩ := vk_Sof (args := #[Value.ref b]) (s := s) (N := 4) (tm := fun i => Term.string RX8 (260 + 2 * i)) (len := azTl) (byt := azTx) (A := fun q => s.heap.size ≤ q)
    (fun i hi => match i, hi with
      | 0, _ => by decide
      | 1, _ => by decide
      | 2, _ => by decide
      | 3, _ => by decide)
    (fun i hi => match i, hi with
      | 0, _ => hfl _ (by decide +kernel)
      | 1, _ => hfl _ (by decide +kernel)
      | 2, _ => hfl _ (by decide +kernel)
      | 3, _ => hfl _ (by decide +kernel))
    (fun i hi => match i, hi with
      | 0, _ => hfl _ (by decide +kernel)
      | 1, _ => hfl _ (by decide +kernel)
      | 2, _ => hfl _ (by decide +kernel)
      | 3, _ => hfl _ (by decide +kernel))
    (fun i hi => match i, hi with
      | 0, _ => hfl _ (by decide +kernel)
      | 1, _ => hfl _ (by decide +kernel)
      | 2, _ => hfl _ (by decide +kernel)
      | 3, _ => hfl _ (by decide +kernel))
    (fun i hi => match i, hi with
      | 0, _ => hfl _ (by decide +kernel)
      | 1, _ => hfl _ (by decide +kernel)
      | 2, _ => hfl _ (by decide +kernel)
      | 3, _ => hfl _ (by decide +kernel))
    (fun i hi j hj => match i, hi, j, hj with
      | 0, _, 0, _ => hfl _ (by decide +kernel)
      | 0, _, 1, _ => hfl _ (by decide +kernel)
      | 1, _, 0, _ => hfl _ (by decide +kernel)
      | 1, _, 1, _ => hfl _ (by decide +kernel)
      | 2, _, 0, _ => hfl _ (by decide +kernel)
      | 2, _, 1, _ => hfl _ (by decide +kernel)
      | 2, _, 2, _ => hfl _ (by decide +kernel)
      | 3, _, 0, _ => hfl _ (by decide +kernel)
      | 3, _, 1, _ => hfl _ (by decide +kernel)
      | 3, _, 2, _ => hfl _ (by decide +kernel)
      | 3, _, 3, _ => hfl _ (by decide +kernel)
      | 3, _, 4, _ => hfl _ (by decide +kernel))
    (fun i j hi hj hne => match i, hi, j, hj, hne with
      | 0, _, 1, _, _ => Or.inl (hfl _ (by decide +kernel))
      | 0, _, 2, _, _ => Or.inl (hfl _ (by decide +kernel))
      | 0, _, 3, _, _ => Or.inl (hfl _ (by decide +kernel))
      | 1, _, 2, _, _ => Or.inl (hfl _ (by decide +kernel))
      | 1, _, 3, _, _ => Or.inl (hfl _ (by decide +kernel))
      | 2, _, 3, _, _ => Or.inl (hfl _ (by decide +kernel))
      | 1, _, 0, _, _ => Or.inr (hfl _ (by decide +kernel))
      | 2, _, 0, _, _ => Or.inr (hfl _ (by decide +kernel))
      | 3, _, 0, _, _ => Or.inr (hfl _ (by decide +kernel))
      | 2, _, 1, _, _ => Or.inr (hfl _ (by decide +kernel))
      | 3, _, 1, _, _ => Or.inr (hfl _ (by decide +kernel))
      | 3, _, 2, _, _ => Or.inr (hfl _ (by decide +kernel))
      | 0, _, 0, _, h => absurd rfl h
      | 1, _, 1, _, h => absurd rfl h
      | 2, _, 2, _, h => absurd rfl h
      | 3, _, 3, _, h => absurd rfl h)
    hA
  have hCo : va_Z "java/lang/String" "COMPACT_STRINGS" "Z" (.int 1) (fun q => s.heap.size ≤ q) s s.heap := va_Zof (hts (.laysStatic "java/lang/String" "COMPACT_STRINGS" "Z") (by decide +kernel)) (hts (.initialized "java/lang/String") (by decide +kernel)) (va_eqi (hfl (.eq (.static "java/lang/String" "COMPACT_STRINGS" "Z") (.int 1)) (by decide +kernel))) hA
  have hFm : va_Zq "jdk/internal/util/Preconditions" "SIOOBE_FORMATTER" "Ljava/util/function/BiFunction;" (fun q => s.heap.size ≤ q) s s.heap := va_Zqof (hts (.laysStatic "jdk/internal/util/Preconditions" "SIOOBE_FORMATTER" "Ljava/util/function/BiFunction;") (by decide +kernel)) (hts (.initialized "jdk/internal/util/Preconditions") (by decide +kernel)) (hfl (.isRef (.static "jdk/internal/util/Preconditions" "SIOOBE_FORMATTER" "Ljava/util/function/BiFunction;")) (by decide +kernel)) hA
  obtain ⟨fm, fl, hfm⟩ : ∃ fm fl : Nat, (fl = 0 ∧ va_Z "jdk/internal/util/Preconditions" "SIOOBE_FORMATTER" "Ljava/util/function/BiFunction;" .null (fun q => s.heap.size ≤ q) s s.heap) ∨ (fl ≠ 0 ∧ va_Z "jdk/internal/util/Preconditions" "SIOOBE_FORMATTER" "Ljava/util/function/BiFunction;" (.ref fm) (fun q => s.heap.size ≤ q) s s.heap) := by
    rcases hFm with h | ⟨t, h⟩
    · exact ⟨0, 0, Or.inl ⟨rfl, h⟩⟩
    · exact ⟨t, 1, Or.inr ⟨by decide, h⟩⟩
  refine ⟨((s.heap.size, s.heap, b, L, xs), (adK, fun i => if i = 10 then fm else if i = 11 then fl else adV i), (fun k => (kq k).1), (fun k => (kq k).2), fun k => if k = 10 then c10 else if k = 11 then c11 else if k = 12 then c12 else if k = 13 then c13 else c14), ⟨⟨fun k q hq => ?_, fun k q hq => ?_⟩, fun w hw' => ?_, ⟨va_AO.of o3, va_AO.of o5⟩, fun q hq => ?_, ⟨hX, hbl⟩, ?_, rfl, hCo, hfm⟩, rfl, rfl, rfl, rfl, rfl⟩
  · have hk : k < 10 := (List.getElem?_eq_some_iff.mp hq).1
    exact hkq k hk q.1 q.2.1 q.2.2 hq
  · match k, hq with
    | 0, hq => cases hq; exact ⟨a10, f10⟩
    | 1, hq => cases hq; exact ⟨a11, f11⟩
    | 2, hq => cases hq; exact ⟨a12, f12⟩
    | 3, hq => cases hq; exact ⟨a13, f13⟩
    | 4, hq => cases hq; exact ⟨a14, f14⟩
    | k + 5, hq => simp [zTys] at hq
  · have hb' : w.before #[Value.ref b] s = true := by
      rcases List.mem_append.mp hw' with h | h
      · exact hts _ (azXf_in w h)
      · exact hts _ (azXc_in w h)
    rcases azX_shape w hw' with ⟨a, i, x, n, d, hh, rfl⟩ | ⟨a, i, x, hh, rfl⟩
    · exact va_Nw.of rfl hb'
    · exact va_Nw.of rfl hb'
  · have h1 : (Cond.stringRef RX8 q.1 q.2.2).before #[Value.ref b] s = true := hts _ (azXs_in _ (azMap_mem (c := 8) (by decide) hq (List.mem_singleton_self _)))
    have h2 : q = (260, 0, "in") ∨ q = (262, 1, "if") ∨ q = (264, 2, "out") ∨ q = (266, 3, "empty") := by
      have : q ∈ [(260, 0, "in"), (262, 1, "if"), (264, 2, "out"), (266, 3, "empty")] := hq
      simpa using this
    rcases h2 with rfl | rfl | rfl | rfl
    · exact vk_R.of h1 (hT 0 (by decide))
    · exact vk_R.of h1 (hT 1 (by decide))
    · exact vk_R.of h1 (hT 2 (by decide))
    · exact vk_R.of h1 (hT 3 (by decide))
  · refine ⟨fun i hi => ?_, hS.2⟩
    have h := hS.1 i hi
    have e : (if i = 10 then fm else if i = 11 then fl else adV i) = adV i := by rw [if_neg (by omega), if_neg (by omega)]
    show _ ∧ _ ∧ va_OF _ _ _ (.ref (if i = 10 then fm else if i = 11 then fl else adV i)) _ _ _ _ ∧ va_T _ (if i = 10 then fm else if i = 11 then fl else adV i) _ _ _ _ _
    rw [e]
    exact h
/-! THE CLAIM OUT OF ONE WALK OF THE LAW'S BODY. Your part is whole_start (and what it stands on); all else here is the same for every law, but numbers. -/
def R_law : String := "TokenNetLaw"
def lw_P (b : Addr) (xs : List Int32) (args : Array Value) (s : State) : Prop := args = #[.ref b] ∧ s.IntsAt b xs ∧ xs.length ≤ 2048 ∧ (Jvm.Cond.and given_1 narrow_1).before args s = true
def lw_Q (_ : Array Value) (s : State) (o : Outcome) (t : State) : Prop := o = .returned (some (.int 1)) ∧ Framed s o t [] 600000 7302250
def lw_Z (below : List Frame) (a : Array Value) (s : State) : State → Prop := fun t => ∃ o, t.status = .running ∧ Ended t below o ∧ lw_Q a s o t
/-- the law's own end, with 1 on the stack, nothing written that was there before, its room as the claim has it -/
theorem lw_ret {p : Program} {l : Launch} {e : Env} {s : State} {m : MethodId} {below : List Frame} {meth : Method} {c : Code} {b : Nat} (hx : p.tables.exec = Jvm.exec) (hb : c.code = code) (hr : meth.sig.returnType = ret) (hlocks : meth.locks = false) {pc : Nat} {H : Heap} {ls : Array Slot} (hdg : decode code pc = .ok (.ireturn, 1)) : W p l e room_1 s m #[Value.ref b] below meth c H [] 600000 7302250 (lw_Z below #[Value.ref b] s) (F0 m pc ls [.int 1]) := by
  intro T hT X
  obtain ⟨fs, hret, hrun, hended, hW, hframe⟩ := X.leave (v := some (.int 1)) (hlocks := hlocks) (fun h => by rw [hr] at h; cases h)
  have hmeth' : T.vm.method? m = some meth := X.method'
  refine ⟨T.setFrames fs, ?_, .returned (some (.int 1)), hrun, hended, rfl, ⟨_, rfl⟩, hW, hframe⟩
  jvm_step X.here [X.here.top, hx, hb, hdg, hmeth', hr, ret, narrow_b1]
  (try refine ⟨rfl, ?_⟩); (try refine ⟨rfl, ?_⟩)
  first | (intro acts; rw [hret _ acts rfl rfl rfl]) | rw [hret _ _ rfl rfl rfl]
  exact Steps.refl _
/-- what holds at the law's entry: the machine, the code, the tables' words (any of lw_tbl by 'hts w (by decide +kernel)'), the script of L ints xs at the cell b, what the Statement gives of the start (any of its parts by flat_of_before) -/
def lw_At (p : Program) (s : State) (m : MethodId) (meth : Method) (c : Code) (b L : Nat) (xs : Nat → Int32) : Prop :=
  p.tables.exec = Jvm.exec ∧ c.code = code ∧ meth.sig.returnType = ret ∧ c.maxLocals = 4 ∧ s.vm.findClass R_law = some m.cls ∧ (∀ w ∈ lw_tbl, w.before #[Value.ref b] s = true) ∧ va_X b L xs s s.heap ∧ b < s.heap.size ∧ meth.locks = false ∧ (Jvm.Cond.and given_1 narrow_1).before #[Value.ref b] s = true
set_option maxHeartbeats 4000000 in
set_option maxRecDepth 100000 in
theorem whole_start_open (hlaw : azLaw) {p : Program} {e : Env} {s : State} {m : MethodId} {below : List Frame} {meth : Method} {c : Code} (l : Launch) {b L : Nat} {xs : Nat → Int32} (hL : L ≤ 2048) (C0 : lw_At p s m meth c b L xs) : W p l e room_1 s m #[Value.ref b] below meth c s.heap [] 0 0 (lw_Z below #[Value.ref b] s) (entryFrame m ([Value.ref b] : List Value).toArray 4) := by
  obtain ⟨hx, hb, hr, hml, hown, hts, hX, hbl, hlocks, hgv⟩ := id C0
  have hw : ∀ w ∈ azWords, w.before #[Value.ref b] s = true := fun w h => hts w (azWords_in w h).1
  obtain ⟨G, hK, e1, e2, e3, e4, e5⟩ := az_start hts hX hbl hgv
  obtain ⟨v, σ', ⟨rfl, hn, hz⟩, h1, h2, K⟩ := hlaw (zReal G l) (zReal_closed G l) L xs hL kL_law
  have hzb : zA G (azB + 10) = b := by
    unfold zA
    rw [if_neg (by omega), if_pos rfl, e5]
  have hR : zRel G (az0 L xs) s.heap := by
    refine ⟨by rw [e1]; rfl, fun a ha => absurd ha (Nat.not_lt_zero a), az0_old _ (by rw [e3, e4]), fun q _ => by rw [e2]⟩
  have hlv := zLv_env (G := G) (as := [.ref (azB + 10)]) (n := 4) (by decide)
  rw [show [Value.ref (azB + 10)].map (zVal G) = [Value.ref b] by show [Value.ref (zA G (azB + 10))] = _; rw [hzb]] at hlv
  rw [lg_entry_eq]
  have hwk := K (Nat.lt_of_le_of_lt hn (by decide)) rfl p e room_1 s m #[Value.ref b] below meth c s.heap [] 0 0 _ ⟨hx, hb, hr, hml, hown, hw, hlocks, fun h => (by cases h), kL_law⟩ hK hR hlv (fun _ h => by cases h) (by show 0 + (σ'.1.1 - 0) ≤ 600000; omega) (by show 0 + (σ'.1.2.1 - 0) ≤ 7302250; omega) (by decide) (by decide)
  intro T hT X
  obtain ⟨t, a1, o, b1, b2, ⟨b3, -⟩, L', b4, b5⟩ := hwk T hT X
  exact ⟨t, a1, o, b1, b2, b3, az_framed b4 (fun q hq => by rw [← e1]; exact b5 q hq) (by show 0 + (σ'.1.1 - 0) ≤ 600000; omega) (by show 0 + (σ'.1.2.1 - 0) ≤ 7302250; omega)⟩
