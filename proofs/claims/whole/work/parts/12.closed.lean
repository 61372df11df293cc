/-! SOUNDNESS: the real machine is closed under the abstract one's steps. -/
theorem azPreB {G : azG} {σ : azS} {as : List Value} : FrameBlind (va_Pc (as.map (zVal G)) (fun U => zRel G σ U.heap ∧ zK G U)) := fun a U g mk q => ⟨q.1, q.2.1, zK.same (s := U) (U := U.calling g mk a) rfl q.2.2⟩
theorem azC_of {c k : Nat} {q : Nat × Nat × azM} (h : azLk c azCL k = some q) : c < 17 ∧ azTabOK q.2.2 = true ∧ azFd.contains q.2.2.1.desc = false ∧ azCLk (k, q) = true ∧ (∀ w ∈ azCw c (k, q), w ∈ azWords) ∧ ∀ w ∈ azCx c (k, q), w ∈ azXf ++ azXc := by
  have hm := azLk_mem h
  have hc : c < 17 := azGetD_lt hm
  have h1 := azCLk_of hm
  refine ⟨hc, azCok c (k, q) hm, ?_, h1, fun w hw => azWc_w w (azMap_mem hc hm hw), fun w hw => List.mem_append_right _ (azMap_mem hc hm hw)⟩
  unfold azCLk at h1
  simp only [Bool.and_eq_true, Bool.not_eq_true'] at h1
  exact h1.2
/-- a call behind which the run goes on -/
theorem az_call {G : azG} {l : Launch} {d pc : Nat} {M Mc : azM} {ls st as rest : List Value} {σ : azS} {Q : azQ} (hMc : azTabOK Mc = true) (hpl : azFd.contains Mc.1.desc = false) (hst : st = as.reverse ++ rest) (hlen : (azSl as).length ≤ Mc.2.2.1)
    (h : ∀ {p : Program} {e : Env} {R : Room} {s : State} {m : MethodId} {args : Array Value} {below : List Frame} {meth : Method} {c : Code} {H : Heap} {locs : List Loc} {cells slots mc ms : Nat} {ls' : Array Slot} {v : Option Value} {σ1 : azS},
      zCtx p s m args meth c M → zK G s → zRel G σ H → σ.1.1 < azB → ls'.size = M.2.2.1 → d + 1 ≤ R.frames → 40 * (d + 1) ≤ R.locals → cells + mc ≤ R.cells → slots + ms ≤ R.slots →
      Met l Mc.1 (azCode Mc :: azWords) ({ frames := d, cells := mc, slots := ms, locals := 40 * d }) (va_Pc (as.map (zVal G)) (fun U => zRel G σ U.heap ∧ zK G U)) (zQ G v σ1) mc ms (fun q => gB G ≤ q) →
      va_Run p l e R s m args below meth c H locs cells slots mc ms (F0 m pc ls' (st.map (zVal G))) (rest.map (zVal G)) (zQ G v σ1 (as.map (zVal G)).toArray) (fun q => gB G ≤ q))
    (H : zReal G l d Mc 0 (azEnv as Mc.2.2.1) [] σ fun v σ1 => zRet Mc.2.2.2.1 v rest fun st1 => zReal G l (d + 1) M (pc + 3) ls st1 σ1 Q) : zReal G l (d + 1) M pc ls st σ Q := by
  intro hM
  obtain ⟨v, σ1, hret, hn1, hz1, K1⟩ := H hMc
  obtain ⟨v2, σ2, hQ, hn2, hz2, K2⟩ := zRet_of hret hM
  refine ⟨v2, σ2, hQ, Nat.le_trans hn1 hn2, Nat.le_trans hz1 hz2, fun hb hL p e R s m args below meth c H0 locs cells slots ls' hC hK hR hl hlo hc hs hd hdl => ?_⟩
  have hmet := zRuns.met ⟨hn1, hz1, K1⟩ hMc hpl hlen (by omega)
  have hrun := h (p := p) (e := e) (R := R) (below := below) (meth := meth) (c := c) (locs := locs) (cells := cells) (slots := slots) (ls' := ls') (args := args) (m := m) hC hK hR (by omega) (by rw [hl.1, hL]) hd hdl (by omega) (by omega) hmet
  refine z_call hrun hlo (fun H1 locs1 hR1 hlo1 => ?_)
  have e1 : cells + (σ2.1.1 - σ.1.1) = cells + (σ1.1.1 - σ.1.1) + (σ2.1.1 - σ1.1.1) := by omega
  have e2 : slots + (σ2.1.2.1 - σ.1.2.1) = slots + (σ1.1.2.1 - σ.1.2.1) + (σ2.1.2.1 - σ1.1.2.1) := by omega
  have e3 : (v.map (zVal G)).toList ++ rest.map (zVal G) = (v.toList ++ rest).map (zVal G) := by cases v <;> rfl
  rw [e1, e2, e3]
  exact K2 hb hL p e R s m args below meth c H1 locs1 _ _ ls' hC hK hR1 hl hlo1 (by omega) (by omega) hd hdl
theorem az_callB {R : Room} {s : State} {m : MethodId} {args : Array Value} {p : Program} {meth : Method} {c : Code} {M Mc : azM} {d idx np mc ms : Nat} (hC : zCtx p s m args meth c M) (hMc : azTabOK Mc = true) (hd : d + 1 ≤ R.frames) (hdl : 40 * (d + 1) ≤ R.locals)
    (hcode : azCode Mc ∈ azWords) (hini : Cond.initialized Mc.1.cls ∈ azWords) (hlink : Cond.methodLink (azN M.2.2.2.2.2.1) idx Mc.1 ∈ azWords) (hnp : (parseMethodDescriptor Mc.1.desc).map (fun d => d.parameters.length) = some np) :
    CallB R s args (azN M.2.2.2.2.2.1) idx Mc.1 Mc.2.1 Mc.2.2.1 Mc.2.2.2.1 (azCode Mc :: azWords) ({ frames := d, cells := mc, slots := ms, locals := 40 * d }) mc ms np := by
  obtain ⟨t1, t2, t3⟩ := azTab_of hMc
  have hts := hC.2.2.2.2.2.1
  have hg : GoodIn azWords (azCode Mc :: azWords) := fun w hw => by
    rcases List.mem_cons.mp hw with rfl | hw
    · exact azGood _ hcode
    · exact azGood _ hw
  refine ⟨rfl, rfl, hd, by show 8 + (Mc.2.2.1 + 11) + 40 * d ≤ R.locals; omega, pay_in hts hg, List.mem_cons_self, hts _ hcode, hts _ hini, by rw [t1]; exact azN_ok _, fun sig hsig => ?_, hts _ hlink⟩
  rw [hsig] at hnp
  exact (Option.some.inj hnp).symm
theorem az_objI {G : azG} {l : Launch} {d : Nat} {M : azM} {pc : Nat} {ls : List Value} {σ : azS} {Q : azQ} {idx a : Nat} {r : List Value} (hd : decode M.2.1 pc = .ok (.invokespecial idx, 3)) (hw : ∀ w ∈ [Cond.methodLink (azN M.2.2.2.2.2.1) idx objectInit, .instanceMethod objectInit, .code objectInit ⟨#[0xb1]⟩ 1 none], w ∈ azWords) (hcat : azCat r ≤ 8) (hd1 : 1 ≤ d)
    (H : zReal G l d M (pc + 3) ls r σ Q) : zReal G l d M pc ls (.ref a :: r) σ Q := by
  refine az_go (Nat.le_refl _) (Nat.le_refl _) rfl (fun hC hK hR hl hlo hb hL _ _ hdd hdl k => ?_) H
  have k1 := k _ _ _ hR hl hlo
  rw [Nat.sub_self, Nat.sub_self, Nat.add_zero, Nat.add_zero] at k1
  have hts := hC.2.2.2.2.2.1
  refine W.objInit hC.1 hC.2.1 hC.2.2.2.2.1 (hts _ (hw _ (by simp))) (hts _ (hw _ (by simp))) (hts _ (hw _ (by simp))) rfl (by show _ = _; rw [hC.2.2.2.1, ← hL]; exact hl.1) rfl hd (by omega) ?_ k1
  show 2 * 0 + ((r.map (zVal G)).map fun v => v.category).sum + 12 ≤ _
  rw [azCat_sum]
  omega
theorem az_roomC {G : azG} {m : MethodId} {pc : Nat} {ls' : Array Slot} {st r : List Value} (h : azCat r ≤ 8) : 2 * (F0 m pc ls' st).monitorRoom + ((r.map (zVal G)).map fun v => v.category).sum ≤ 8 := by
  show 2 * 0 + _ ≤ 8
  rw [azCat_sum]
  omega
theorem zRv_2 {σ : azS} {k cls : Nat} {as : List Value} {P : Prop} (H : zRv σ k cls as P) : P := by
  unfold zRv at H
  revert H
  cases Nat.beq k 0 with
  | true => exact (by
      show (match as with | .ref b :: _ => (azKd σ b).1 = cls ∧ P | _ => False) → P
      split <;> first | exact fun q => q.2 | exact fun q => q.elim)
  | false =>
    cases Nat.beq k 7 with
    | true => exact (by
        show (match as with | .ref b :: _ => (azKd σ b).1 = 16 ∧ P | _ => False) → P
        split <;> first | exact fun q => q.2 | exact fun q => q.elim)
    | false =>
      cases Nat.beq k 2 with
      | true => exact (by
          show (match as with | .ref _ :: _ => P | _ => False) → P
          split <;> first | exact id | exact fun q => q.elim)
      | false => exact id
theorem zRv_10 {σ : azS} {cls : Nat} {as : List Value} {P : Prop} (H : zRv σ 0 cls as P) : match (generalizing := false) as with | .ref b :: _ => (azKd σ b).1 = cls | _ => False := by
  have H : (match (generalizing := false) as with | .ref b :: _ => (azKd σ b).1 = cls ∧ P | _ => False) := H
  revert H
  split <;> first | exact fun q => q.1 | exact id
theorem zRv_17 {σ : azS} {cls : Nat} {as : List Value} {P : Prop} (H : zRv σ 7 cls as P) : match (generalizing := false) as with | .ref b :: _ => (azKd σ b).1 = 16 | _ => False := by
  have H : (match (generalizing := false) as with | .ref b :: _ => (azKd σ b).1 = 16 ∧ P | _ => False) := H
  revert H
  split <;> first | exact fun q => q.1 | exact id
theorem zRv_12 {σ : azS} {cls : Nat} {as : List Value} {P : Prop} (H : zRv σ 2 cls as P) : match (generalizing := false) as with | .ref _ :: _ => True | _ => False := by
  have H : (match (generalizing := false) as with | .ref _ :: _ => P | _ => False) := H
  revert H
  split <;> first | exact fun _ => trivial | exact id
set_option maxHeartbeats 4000000 in
theorem az_calls {G : azG} {l : Launch} {d : Nat} {M : azM} {pc : Nat} {ls st : List Value} {σ : azS} {Q : azQ} {i : Instr} {idx : Nat} {kinds : Nat → Bool} (hi : (i = .invokevirtual idx ∧ kinds = fun n => Nat.beq n 0 || Nat.beq n 7) ∨ (i = .invokestatic idx ∧ kinds = fun n => Nat.beq n 1 || Nat.beq n 3) ∨ (i = .invokespecial idx ∧ kinds = fun n => Nat.beq n 2 || Nat.beq n 6))
    (hd : decode M.2.1 pc = .ok (i, 3)) (H : zCall (zReal G l) (zReal G l) d M pc ls st σ Q kinds idx) : zReal G l d M pc ls st σ Q := by
  obtain ⟨q, hq, H⟩ := zOf_of H
  obtain ⟨hk, H⟩ := zG_of H
  obtain ⟨hc17, hMc, hpl, hck, hcw, hcx⟩ := azC_of hq
  unfold azCLk at hck
  simp only [Bool.and_eq_true, Bool.or_eq_true, Bool.not_eq_true'] at hck
  obtain ⟨⟨⟨⟨⟨hnp, hin⟩, hle⟩, hc13⟩, hc10⟩, -⟩ := hck
  obtain ⟨kd, np, Mc⟩ := q
  have hle : kd ≤ 7 := by
    rcases hle with (h | h) | h
    · exact Nat.le_trans (Nat.le_of_ble_eq_true h) (by omega)
    · rw [show kd = 6 from Nat.eq_of_beq_eq_true h]; omega
    · rw [show kd = 7 from Nat.eq_of_beq_eq_true h]; omega
  match d, kd, hle with
  | d, 6, _ =>
    obtain ⟨a, r, rfl, H⟩ := zR_of H
    obtain ⟨hcat, H⟩ := zG_of H
    rw [Bool.and_eq_true] at hcat
    obtain ⟨rfl, rfl⟩ | ⟨rfl, rfl⟩ | ⟨rfl, rfl⟩ := hi
    · exact absurd hk (by simp)
    · exact absurd hk (by simp)
    · exact az_objI hd hcw (Nat.le_of_ble_eq_true hcat.1) (Nat.le_of_ble_eq_true hcat.2) H
  | d, 4, _ => obtain ⟨rfl, rfl⟩ | ⟨rfl, rfl⟩ | ⟨rfl, rfl⟩ := hi <;> exact absurd hk (by simp)
  | d, 5, _ => obtain ⟨rfl, rfl⟩ | ⟨rfl, rfl⟩ | ⟨rfl, rfl⟩ := hi <;> exact absurd hk (by simp)
  | 0, 7, _ =>
    obtain ⟨w, hw, H⟩ := zOf_of H
    exact (zRv_2 H).elim
  | 0, 0, _ =>
    obtain ⟨w, hw, H⟩ := zOf_of H
    exact (zRv_2 H).elim
  | 0, 1, _ =>
    obtain ⟨w, hw, H⟩ := zOf_of H
    exact (zRv_2 H).elim
  | 0, 2, _ =>
    obtain ⟨w, hw, H⟩ := zOf_of H
    exact (zRv_2 H).elim
  | 0, 3, _ =>
    obtain ⟨w, hw, H⟩ := zOf_of H
    exact (zRv_2 H).elim
  | d + 1, 0, _ =>
    obtain ⟨w, hw, H⟩ := zOf_of H
    have H1 := zRv_10 H
    have H2 := zRv_2 H
    obtain ⟨hcat, H⟩ := zG_of H2
    rw [Bool.and_eq_true] at hcat
    obtain ⟨as, e1, e2, e3⟩ := azPop_of _ _ _ _ hw
    rw [List.append_nil] at e1
    have hnp' := of_decide_eq_true (hnp.resolve_left (fun h => Bool.noConfusion (show false = true from h)))
    have hc10' : Mc.2.2.2.2.2.1 < 10 := Nat.blt_eq.mp (hc10.resolve_left (fun h => Bool.noConfusion (show true = false from h)))
    obtain ⟨rfl, -⟩ | ⟨rfl, rfl⟩ | ⟨rfl, rfl⟩ := hi
    · rw [e1] at H1 H hcat
      cases as with
      | nil => exact H1.elim
      | cons v As =>
        cases v <;> first | exact H1.elim | skip
        rename_i b
        have H1 : (azKd σ b).1 = Mc.2.2.2.2.2.1 := H1
        refine az_call hMc hpl e3 (Nat.le_of_ble_eq_true hcat.2) (fun {p e R s m args below meth c H0 locs cells slots mc ms ls' v σ1} hC hK hR hb hsz hdd hdl hc hs hmet => ?_) H
        have hts := hC.2.2.2.2.2.1
        obtain ⟨cell, g1, g2, g3, g4⟩ := az_obj hK hR hc10' H1
        have hbn : b < azB := Nat.lt_trans (hR.2.2.1.1 b (by omega)) hb
        have e2' : As.length + 1 = np + 1 := e2
        exact va_runV (As := As.map (zVal G)) (rest := w.2.map (zVal G)) (C := Mc.1.cls) (b := zA G b) ⟨hC.1, hC.2.1, hC.2.2.2.1, hC.2.2.2.2.1, hts⟩ hmet
          ⟨az_callB hC hMc hdd hdl (hcw _ (by simp [azCw])) (hcw _ (by simp [azCw])) (hcw _ (by simp [azCw])) hnp', hts _ (hcw _ (by simp [azCw])), hts _ (hcw _ (by simp [azCw]))⟩
          ⟨azPreB (as := .ref b :: As), ⟨cell, by rw [zA_lt hbn]; exact g1, by rw [g3]; rfl, by rw [(azTab_of hMc).1, g2]; exact g4.1⟩, fun U hU hW => ⟨rfl, by rw [hU]; exact hR, hK.warm hW⟩⟩
          rfl (by rw [List.length_map]; exact Nat.succ.inj e2') hsz (by show st.map (zVal G) = _; rw [e3]; simp [zVal]) (az_roomC (Nat.le_of_ble_eq_true hcat.1)) hd ⟨hc, hs⟩
    · exact absurd hk (by simp)
    · exact absurd hk (by simp)
  | d + 1, 7, _ =>
    obtain ⟨w, hw, H⟩ := zOf_of H
    have H1 := zRv_17 H
    have H2 := zRv_2 H
    obtain ⟨hcat, H⟩ := zG_of H2
    rw [Bool.and_eq_true] at hcat
    obtain ⟨as, e1, e2, e3⟩ := azPop_of _ _ _ _ hw
    rw [List.append_nil] at e1
    have hnp' := of_decide_eq_true (hnp.resolve_left (fun h => Bool.noConfusion (show false = true from h)))
    have hc13' : Mc.2.2.2.2.2.1 = 13 := Nat.eq_of_beq_eq_true (hc13.resolve_left (fun h => Bool.noConfusion (show true = false from h)))
    obtain ⟨rfl, -⟩ | ⟨rfl, rfl⟩ | ⟨rfl, rfl⟩ := hi
    · rw [e1] at H1 H hcat
      cases as with
      | nil => exact H1.elim
      | cons v As =>
        cases v <;> first | exact H1.elim | skip
        rename_i b
        have H1 : (azKd σ b).1 = 16 := H1
        refine az_call hMc hpl e3 (Nat.le_of_ble_eq_true hcat.2) (fun {p e R s m args below meth c H0 locs cells slots mc ms ls' v σ1} hC hK hR hb hsz hdd hdl hc hs hmet => ?_) H
        have hts := hC.2.2.2.2.2.1
        obtain ⟨i, hi4, rfl⟩ := hR.2.2.1.2.2.1 b H1
        obtain ⟨cell, g1, g2, g3, g4⟩ := (hK.2.2.2.2.2.1.1 i hi4).1
        have hcl : Mc.1.cls = "java/lang/String" := by rw [(azTab_of hMc).1]; show azN Mc.2.2.2.2.2.1 = _; rw [hc13']; rfl
        have e2' : As.length + 1 = np + 1 := e2
        exact va_runV (As := As.map (zVal G)) (rest := w.2.map (zVal G)) (C := Mc.1.cls) (b := zA G (azB + i)) ⟨hC.1, hC.2.1, hC.2.2.2.1, hC.2.2.2.2.1, hts⟩ hmet
          ⟨az_callB hC hMc hdd hdl (hcw _ (by simp [azCw])) (hcw _ (by simp [azCw])) (hcw _ (by simp [azCw])) hnp', hts _ (hcw _ (by simp [azCw])), hts _ (hcw _ (by simp [azCw]))⟩
          ⟨azPreB (as := .ref (azB + i) :: As), ⟨cell, by rw [zA_str hi4, hR.2.2.2 _ (Nat.not_le.mp g4)]; exact g1, g2, by rw [hcl]; exact g3⟩, fun U hU hW => ⟨rfl, by rw [hU]; exact hR, hK.warm hW⟩⟩
          rfl (by rw [List.length_map]; exact Nat.succ.inj e2') hsz (by show st.map (zVal G) = _; rw [e3]; simp [zVal]) (az_roomC (Nat.le_of_ble_eq_true hcat.1)) hd ⟨hc, hs⟩
    · exact absurd hk (by simp)
    · exact absurd hk (by simp)
  | d + 1, 1, _ =>
    obtain ⟨w, hw, H⟩ := zOf_of H
    have H2 := zRv_2 H
    obtain ⟨hcat, H⟩ := zG_of H2
    rw [Bool.and_eq_true] at hcat
    obtain ⟨as, e1, e2, e3⟩ := azPop_of _ _ _ _ hw
    rw [List.append_nil] at e1
    have hnp' := of_decide_eq_true (hnp.resolve_left (fun h => Bool.noConfusion (show false = true from h)))
    obtain ⟨rfl, rfl⟩ | ⟨rfl, -⟩ | ⟨rfl, rfl⟩ := hi
    · exact absurd hk (by simp)
    · rw [e1] at H hcat
      refine az_call hMc hpl e3 (Nat.le_of_ble_eq_true hcat.2) (fun {p e R s m args below meth c H0 locs cells slots mc ms ls' v σ1} hC hK hR hb hsz hdd hdl hc hs hmet => ?_) H
      have hts := hC.2.2.2.2.2.1
      exact va_runS (As := as.map (zVal G)) (rest := w.2.map (zVal G)) ⟨hC.1, hC.2.1, hC.2.2.2.1, hC.2.2.2.2.1, hts⟩ hmet
        ⟨az_callB hC hMc hdd hdl (hcw _ (by simp [azCw])) (hcw _ (by simp [azCw])) (hcw _ (by simp [azCw])) hnp', hts _ (hcw _ (by simp [azCw]))⟩
        ⟨azPreB (as := as), fun U hU hW => ⟨rfl, by rw [hU]; exact hR, hK.warm hW⟩⟩
        rfl (by rw [List.length_map]; exact e2) hsz (by show st.map (zVal G) = _; rw [e3]; simp) (az_roomC (Nat.le_of_ble_eq_true hcat.1)) hd ⟨hc, hs⟩
    · exact absurd hk (by simp)
  | d + 1, 2, _ =>
    obtain ⟨w, hw, H⟩ := zOf_of H
    have H1 := zRv_12 H
    have H2 := zRv_2 H
    obtain ⟨hcat, H⟩ := zG_of H2
    rw [Bool.and_eq_true] at hcat
    obtain ⟨as, e1, e2, e3⟩ := azPop_of _ _ _ _ hw
    rw [List.append_nil] at e1
    have hnp' := of_decide_eq_true (hnp.resolve_left (fun h => Bool.noConfusion (show false = true from h)))
    have hin' := hin.resolve_left (fun h => Bool.noConfusion (show true = false from h))
    obtain ⟨rfl, rfl⟩ | ⟨rfl, rfl⟩ | ⟨rfl, -⟩ := hi
    · exact absurd hk (by simp)
    · exact absurd hk (by simp)
    · rw [e1] at H1 H hcat
      have hnm := of_decide_eq_true hin'.1
      have hno : Mc.2.2.2.1 = none := by
        have h2 := hin'.2
        revert h2
        show azNo Mc.2.2.2.1 = true → _
        cases Mc.2.2.2.1 with
        | none => exact fun _ => rfl
        | some x => exact fun h => Bool.noConfusion (show false = true from h)
      cases as with
      | nil => exact absurd (show 0 = np + 1 from e2) (by omega)
      | cons v As =>
        have e2' : As.length + 1 = np + 1 := e2
        cases v <;> first | exact H1.elim | skip
        rename_i b
        refine az_call hMc hpl e3 (Nat.le_of_ble_eq_true hcat.2) (fun {p e R s m args below meth c H0 locs cells slots mc ms ls' v σ1} hC hK hR hb hsz hdd hdl hc hs hmet => ?_) H
        have hts := hC.2.2.2.2.2.1
        have cb := az_callB (idx := idx) (mc := mc) (ms := ms) hC hMc hdd hdl (hcw _ (by simp [azCw])) (hcw _ (by simp [azCw])) (hcw _ (by simp [azCw])) hnp'
        rw [hno] at cb
        exact va_runI (As := As.map (zVal G)) (rest := w.2.map (zVal G)) (b := zA G b) ⟨hC.1, hC.2.1, hC.2.2.2.1, hC.2.2.2.2.1, hts⟩ hmet
          ⟨cb, hnm, hts _ (hcw _ (by simp [azCw]))⟩
          ⟨azPreB (as := .ref b :: As), fun U hU hW => ⟨rfl, by rw [hU]; exact hR, hK.warm hW⟩⟩
          rfl (by rw [List.length_map]; exact Nat.succ.inj e2') hsz (by show st.map (zVal G) = _; rw [e3]; simp [zVal]) (az_roomC (Nat.le_of_ble_eq_true hcat.1)) hd ⟨hc, hs⟩
  | d + 1, 3, _ =>
    obtain ⟨w, hw, H⟩ := zOf_of H
    have H2 := zRv_2 H
    obtain ⟨hcat, H⟩ := zG_of H2
    rw [Bool.and_eq_true] at hcat
    obtain ⟨as, e1, e2, e3⟩ := azPop_of _ _ _ _ hw
    rw [List.append_nil] at e1
    have hnp' := of_decide_eq_true (hnp.resolve_left (fun h => Bool.noConfusion (show false = true from h)))
    obtain ⟨rfl, rfl⟩ | ⟨rfl, -⟩ | ⟨rfl, rfl⟩ := hi
    · exact absurd hk (by simp)
    · rw [e1] at H hcat
      refine az_call hMc hpl e3 (Nat.le_of_ble_eq_true hcat.2) (fun {p e R s m args below meth c H0 locs cells slots mc ms ls' v σ1} hC hK hR hb hsz hdd hdl hc hs hmet => ?_) H
      have hts := hC.2.2.2.2.2.1
      have hcode : azCode Mc ∈ azWords := hcw _ (by simp [azCw])
      have hg : GoodIn azWords (azCode Mc :: azWords) := fun w hw => by
        rcases List.mem_cons.mp hw with rfl | hw
        · exact azGood _ hcode
        · exact azGood _ hw
      obtain ⟨t1, t2, t3⟩ := azTab_of hMc
      have t3 : Mc.2.2.1 ≤ 21 := t3
      exact va_runSN (As := as.map (zVal G)) (rest := w.2.map (zVal G)) ⟨hC.1, hC.2.1, hC.2.2.2.1, hC.2.2.2.2.1, hts⟩ hmet
        ⟨va_cnB (host := RX8) np hts hg rfl rfl rfl (hK.2.1 _ (hcx _ (by simp [azCx]))) (hts _ (hcw _ (by simp [azCw]))) ⟨by rw [t1]; exact (azN_ok _).1, by rw [t1]; exact (azN_ok _).2, hnp'⟩ ⟨hdd, by show 8 + (Mc.2.2.1 + 11) + 40 * d ≤ R.locals; omega⟩, hts _ (hcw _ (by simp [azCw])), trivial⟩
        ⟨azPreB (as := as), fun U hU hW => ⟨rfl, by rw [hU]; exact hR, hK.warm hW⟩⟩
        rfl (by rw [List.length_map]; exact e2) hsz (by show st.map (zVal G) = _; rw [e3]; simp) (az_roomC (Nat.le_of_ble_eq_true hcat.1)) hd ⟨hc, hs⟩
    · exact absurd hk (by simp)
theorem az_W {G : azG} {p : Program} {l : Launch} {e : Env} {R : Room} {s : State} {m : MethodId} {args : Array Value} {below : List Frame} {meth : Method} {c : Code} {H : Heap} {locs : List Loc} {cells slots pc : Nat} {ls' : Array Slot} {st st2 : List Value} {v : Option Value} {σ : azS} (h : W p l e R s m args below meth c H locs cells slots (MQ below (zQ G v σ) args s cells slots (fun q => gB G ≤ q)) (F0 m pc ls' st)) (hst : st = st2) : W p l e R s m args below meth c H locs (cells) (slots) (MQ below (zQ G v σ) args s (cells + (σ.1.1 - σ.1.1)) (slots + (σ.1.2.1 - σ.1.2.1)) (fun q => gB G ≤ q)) (F0 m pc ls' st2) := by
  subst hst
  rw [Nat.sub_self, Nat.sub_self, Nat.add_zero, Nat.add_zero]
  exact h
def azRt (i : Instr) : Bool := match i with
  | .ireturn | .lreturn | .areturn | .return_ => true
  | _ => false
theorem zNil_of {r : List Value} {P : Prop} (h : zNil r P) : r = [] ∧ P := by
  unfold zNil at h; split at h <;> first | exact ⟨rfl, h⟩ | exact h.elim
theorem zRok_of {t : Option FieldType} {x : Int32} {P : Prop} (h : zRok t x P) : (t = some .int ∨ (t = some .boolean ∧ (x = 0 ∨ x = 1)) ∨ (t = some .byte ∧ narrow .byte (.int x) = .int x) ∨ (t = some .char ∧ narrow .char (.int x) = .int x)) ∧ P := by
  unfold zRok at h
  split at h
  · exact ⟨Or.inl rfl, h⟩
  · exact ⟨Or.inr (Or.inl ⟨rfl, h.1⟩), h.2⟩
  · exact ⟨Or.inr (Or.inr (Or.inl ⟨rfl, h.1⟩)), h.2⟩
  · exact ⟨Or.inr (Or.inr (Or.inr ⟨rfl, h.1⟩)), h.2⟩
  · exact h.elim
theorem az_ret {G : azG} {l : Launch} {d : Nat} {M : azM} {pc : Nat} {ls st : List Value} {σ : azS} {Q : azQ} {i : Instr} {len : Nat} (hi : azRt i = true) (hd : decode M.2.1 pc = .ok (i, len) ∧ azLen (i, len) = true) (H : azStep (zReal G l) (zReal G l) d M pc ls st σ Q i) : zReal G l d M pc ls st σ Q := by
  cases i
  case ireturn =>
    obtain ⟨x, r, rfl, H'⟩ := zI_of H
    obtain ⟨rfl, H'⟩ := zNil_of H'
    obtain ⟨hok, H'⟩ := zRok_of H'
    replace H := H'
    obtain ⟨h1, h2⟩ := hd
    obtain rfl : len = 1 := azLen_beq h2
    refine fun _ => ⟨_, σ, H, Nat.le_refl _, Nat.le_refl _, fun hb hL p e R s m args below meth c H0 locs cells slots ls' hC hK hR hl hlo hc hs hdd hdl => az_W (st := [.int x]) ?_ rfl⟩
    have hlk := hC.2.2.2.2.2.2.1
    revert hok
    generalize hrt : M.2.2.2.1 = rt
    intro hok
    rcases hok with rfl | ⟨rfl, hok⟩ | ⟨rfl, hok⟩ | ⟨rfl, hok⟩
    · exact W.iret hC.1 hC.2.1 (hC.2.2.1.trans hrt) (fun t ht _ => ⟨rfl, by rw [ht]; exact hR⟩) hlo h1 hlk
    · exact W.zret hC.1 hC.2.1 (hC.2.2.1.trans hrt) (by rcases hok with rfl | rfl <;> rfl) (fun t ht _ => ⟨rfl, by rw [ht]; exact hR⟩) hlo h1 hlk
    · exact W.zret hC.1 hC.2.1 (hC.2.2.1.trans hrt) hok (fun t ht _ => ⟨rfl, by rw [ht]; exact hR⟩) hlo h1 hlk
    · exact W.zret hC.1 hC.2.1 (hC.2.2.1.trans hrt) hok (fun t ht _ => ⟨rfl, by rw [ht]; exact hR⟩) hlo h1 hlk
  case lreturn =>
    obtain ⟨x, r, rfl, H'⟩ := zL_of H
    obtain ⟨rfl, H'⟩ := zNil_of H'
    obtain ⟨hr, H⟩ := zG_of H'
    obtain ⟨h1, h2⟩ := hd
    obtain rfl : len = 1 := azLen_beq h2
    have hr : M.2.2.2.1 = some .long := by
      revert hr
      unfold azLL1
      split
      · rename_i h; exact fun _ => h
      · exact fun h => Bool.noConfusion h
    refine fun _ => ⟨_, σ, H, Nat.le_refl _, Nat.le_refl _, fun hb hL p e R s m args below meth c H0 locs cells slots ls' hC hK hR hl hlo hc hs hdd hdl => az_W (st := [.long x]) ?_ rfl⟩
    have hlk := hC.2.2.2.2.2.2.1
    exact W.lret hC.1 hC.2.1 (hC.2.2.1.trans hr) (fun t ht _ => ⟨rfl, by rw [ht]; exact hR⟩) hlo h1 hlk
  case areturn =>
    obtain ⟨h1, h2⟩ := hd
    obtain rfl : len = 1 := azLen_beq h2
    have hob : ∀ {t : Option FieldType}, azOb t = true → ∃ n, t = some (.object n) := by
      intro t
      unfold azOb
      split
      · exact fun _ => ⟨_, rfl⟩
      · exact fun h => Bool.noConfusion h
    obtain ⟨a, r, rfl, H'⟩ | ⟨r, rfl, H'⟩ := zO_of H
    · obtain ⟨rfl, H'⟩ := zNil_of H'
      obtain ⟨hr, H⟩ := zG_of H'
      obtain ⟨n, hr⟩ := hob hr
      refine fun _ => ⟨_, σ, H, Nat.le_refl _, Nat.le_refl _, fun hb hL p e R s m args below meth c H0 locs cells slots ls' hC hK hR hl hlo hc hs hdd hdl => az_W (st := [.ref (zA G a)]) ?_ rfl⟩
      have hlk := hC.2.2.2.2.2.2.1
      exact W.aret hC.1 hC.2.1 (hC.2.2.1.trans hr) (Or.inl ⟨n, rfl⟩) (Or.inr ⟨_, rfl⟩) (fun t ht _ => ⟨rfl, by rw [ht]; exact hR⟩) hlo h1 hlk
    · obtain ⟨rfl, H'⟩ := zNil_of H'
      obtain ⟨hr, H⟩ := zG_of H'
      obtain ⟨n, hr⟩ := hob hr
      refine fun _ => ⟨_, σ, H, Nat.le_refl _, Nat.le_refl _, fun hb hL p e R s m args below meth c H0 locs cells slots ls' hC hK hR hl hlo hc hs hdd hdl => az_W (st := [.null]) ?_ rfl⟩
      have hlk := hC.2.2.2.2.2.2.1
      exact W.aret hC.1 hC.2.1 (hC.2.2.1.trans hr) (Or.inl ⟨n, rfl⟩) (Or.inl rfl) (fun t ht _ => ⟨rfl, by rw [ht]; exact hR⟩) hlo h1 hlk
  case return_ =>
    obtain ⟨rfl, H'⟩ := zNil_of H
    obtain ⟨hr, H⟩ := zG_of H'
    obtain ⟨h1, h2⟩ := hd
    obtain rfl : len = 1 := azLen_beq h2
    have hr : M.2.2.2.1 = none := by
      revert hr
      unfold azNo
      split
      · rename_i h; exact fun _ => h
      · exact fun h => Bool.noConfusion h
    refine fun _ => ⟨_, σ, H, Nat.le_refl _, Nat.le_refl _, fun hb hL p e R s m args below meth c H0 locs cells slots ls' hC hK hR hl hlo hc hs hdd hdl => az_W (st := []) ?_ rfl⟩
    have hlk := hC.2.2.2.2.2.2.1
    exact W.vret hC.1 hC.2.1 (hC.2.2.1.trans hr) (fun t ht _ => ⟨rfl, by rw [ht]; exact hR⟩) hlo h1 hlk
  all_goals cases hi
theorem zReal_closed (G : azG) (l : Launch) : azClosed (zReal G l) := by
  refine ⟨fun d M pc ls st σ Q H hM => ?_, fun d M pc ls st σ Q Q' h H hM => ?_⟩
  · obtain ⟨q, hq, H⟩ := zOf_of H
    obtain ⟨h1, h2⟩ := azLook_dec hM hq
    obtain ⟨i, len⟩ := q
    by_cases h3 : azPl i = true
    · exact az_plain h3 ⟨h1, h2⟩ H hM
    by_cases h4 : azHp i = true
    · exact az_heap h4 ⟨h1, h2⟩ H hM
    by_cases h5 : azRt i = true
    · exact az_ret h5 ⟨h1, h2⟩ H hM
    cases i
    case invokevirtual k =>
      obtain rfl : len = 3 := azLen_beq h2
      exact az_calls (Or.inl ⟨rfl, rfl⟩) h1 H hM
    case invokestatic k =>
      obtain rfl : len = 3 := azLen_beq h2
      exact az_calls (Or.inr (Or.inl ⟨rfl, rfl⟩)) h1 H hM
    case invokespecial k =>
      obtain rfl : len = 3 := azLen_beq h2
      exact az_calls (Or.inr (Or.inr ⟨rfl, rfl⟩)) h1 H hM
    all_goals first
      | exact H.elim
      | exact absurd rfl h3
      | exact absurd rfl h4
      | exact absurd rfl h5
  · obtain ⟨v, σ', hQ, hr⟩ := H hM
    exact ⟨v, σ', h _ _ hQ, hr⟩
