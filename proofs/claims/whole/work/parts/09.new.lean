/-! SOUNDNESS: new objects and arrays; all instructions that touch cells. -/
theorem azNok : azNL.all (fun l => l.all fun q => Nat.blt q.2.1 10 && Nat.beq (azNf q.2.1) q.2.2) = true := by decide +kernel
theorem azN_of {c k : Nat} {q : Nat × Nat} (h : azLk c azNL k = some q) : c < 17 ∧ q.1 < 10 ∧ azNf q.1 = q.2 ∧ Cond.classLink (azN c) k (azN q.1) ∈ azWords ∧ Cond.instantiable (azN q.1) q.2 ∈ azWords ∧ Cond.initialized (azN q.1) ∈ azWords := by
  have hm := azLk_mem h
  have hc : c < 17 := azGetD_lt hm
  have hl := azGetD_lt hm
  have hm2 := hm
  rw [List.getD_eq_getElem?_getD, List.getElem?_eq_getElem hl] at hm2
  have hok := List.all_eq_true.mp (List.all_eq_true.mp azNok _ (List.getElem_mem hl)) _ hm2
  rw [Bool.and_eq_true] at hok
  refine ⟨hc, Nat.blt_eq.mp hok.1, Nat.eq_of_beq_eq_true hok.2, azWn_w _ (azMap_mem (q := (k, q)) hc hm ?_), azWn_w _ (azMap_mem (q := (k, q)) hc hm ?_), azWn_w _ (azMap_mem (q := (k, q)) hc hm ?_)⟩ <;> simp [azNw]
theorem azAok : azAL.all (fun l => l.all fun q => Nat.beq q.2 13 || Nat.beq q.2 14) = true := by decide +kernel
theorem azA_of {c k : Nat} {q : Nat} (h : azLk c azAL k = some q) : c < 17 ∧ ((q = 13 ∧ Cond.classLink (azN c) k RX3 ∈ azWords) ∨ (q = 14 ∧ Cond.classLink (azN c) k RX5 ∈ azWords)) := by
  have hm := azLk_mem h
  have hc : c < 17 := azGetD_lt hm
  have hl := azGetD_lt hm
  have hm2 := hm
  rw [List.getD_eq_getElem?_getD, List.getElem?_eq_getElem hl] at hm2
  have hok := List.all_eq_true.mp (List.all_eq_true.mp azAok _ (List.getElem_mem hl)) _ hm2
  rw [Bool.or_eq_true] at hok
  refine ⟨hc, ?_⟩
  rcases hok with h1 | h1
  · have e : q = 13 := Nat.eq_of_beq_eq_true h1
    subst e
    exact Or.inl ⟨rfl, azWa_w _ (azMap_mem (q := (k, 13)) hc hm (List.mem_singleton_self _))⟩
  · have e : q = 14 := Nat.eq_of_beq_eq_true h1
    subst e
    exact Or.inr ⟨rfl, azWa_w _ (azMap_mem (q := (k, 14)) hc hm (List.mem_singleton_self _))⟩
section Rows
variable {G : azG} {l : Launch} {M : azM} {pc : Nat} {σ : azS} {p : Program} {e : Env} {R : Room} {s : State} {m : MethodId} {args : Array Value} {below : List Frame} {meth : Method} {c : Code} {H : Heap} {locs : List Loc} {cells slots : Nat} {ls' : Array Slot} {Qw : State → Prop} {rest : List Value}
theorem az_newo (hC : zCtx p s m args meth c M) (hK : zK G s) (hR : zRel G σ H) (hb : σ.1.1 + 1 < azB) {k : Nat} {q : Nat × Nat} (hq : azLk M.2.2.2.2.2.1 azNL k = some q) (hc : cells + 1 ≤ R.cells) (hs : slots + q.2 ≤ R.slots) (hdg : decode M.2.1 pc = .ok (.new k, 3))
    (kk : ∀ (H1 : Heap), zRel G (azNew σ q.1 q.2) H1 → W p l e R s m args below meth c H1 locs (cells + 1) (slots + q.2) Qw (F0 m (pc + 3) ls' (.ref (zA G σ.1.1) :: rest))) : W p l e R s m args below meth c H locs cells slots Qw (F0 m pc ls' rest) := by
  obtain ⟨-, h1, h2, w1, w2, w3⟩ := azN_of hq
  obtain ⟨C, T, g1, g2, g4, g5, g6, g7⟩ := azCls q.1 h1
  have hts := hC.2.2.2.2.2.1
  have hKn := hK.1.1 q.1 _ g1
  rw [zA_lt (G := G) (show σ.1.1 < azB by omega)] at kk
  rw [← g2] at w1 w2 w3
  refine W.newcK hC.1 hC.2.1 hC.2.2.2.2.1 (hts _ w1) (hts _ w2) (hts _ w3) rfl hdg hc hs hKn.2.1 rfl fun H1 kC hkC e1 z1 o1 => ?_
  have hkk := kk H1 (hR.push (by omega) (by omega) ?_ z1 o1)
  · rw [← hR.1] at hkk
    exact hkk
  · have hk2 : (azKd (azNew σ q.1 q.2) σ.1.1).1 = q.1 := by simp [azKd, azNew]
    rw [zCell_obj hk2 h1, ← hR.1]
    refine ⟨_, g1, (u_born (azTy q.1) hts g4 hKn hkC e1 g5).to (fun j hj => ?_)⟩
    show defaultValue (azTy q.1 j) = vp_V _ j
    unfold vp_V
    rw [List.getD_eq_getElem?_getD, zFs_get hj]
    have h5 := azTy5_of h1 hj
    show _ = zFv G (azNew σ q.1 q.2) σ.1.1 (azTy q.1 j) j
    revert h5
    generalize azTy q.1 j = t
    intro h5
    cases t <;> first | (simp [zFv, azNew, defaultValue, va_rf]; done) | cases h5
theorem az_newa {k : Nat} {t : ArrayType} (hC : zCtx p s m args meth c M) (hK : zK G s) (hR : zRel G σ H) (hb : σ.1.1 + 1 < azB) {n : Int32} (hk : azNarr t = some k) (hn : ¬ n < 0) (hN : n.toNatClampNeg ≤ 10000) (hc : cells + 1 ≤ R.cells) (hs : slots + n.toNatClampNeg ≤ R.slots) (hdg : decode M.2.1 pc = .ok (.newarray t, 2))
    (kk : ∀ (H1 : Heap), zRel G (azNew σ k n.toNatClampNeg) H1 → W p l e R s m args below meth c H1 locs (cells + 1) (slots + n.toNatClampNeg) Qw (F0 m (pc + 2) ls' (.ref (zA G σ.1.1) :: rest))) : W p l e R s m args below meth c H locs cells slots Qw (F0 m pc ls' (.int n :: rest)) := by
  have hts := hC.2.2.2.2.2.1
  rw [zA_lt (G := G) (show σ.1.1 < azB by omega), ← hR.1] at kk
  have hkd : azKd (azNew σ k n.toNatClampNeg) σ.1.1 = (k, n.toNatClampNeg) := by simp [azKd, azNew]
  have hI : (azNew σ k n.toNatClampNeg).2.1 σ.1.1 = fun _ => 0 := by funext j; simp [azNew]
  have hJ : (azNew σ k n.toNatClampNeg).2.2.1 σ.1.1 = fun _ => 0 := by funext j; simp [azNew]
  cases t <;> cases hk
  · refine va_newaK hC.1 hC.2.1 (hts _ (azWr_w _ (by simp [azWr, azArr, newarray.typeOf]))) rfl hdg rfl hn rfl (by simp only [newarray.typeOf, componentBytes]; omega) hc hs rfl fun H1 cA e1 z1 o1 _ hf => kk H1 (hR.push (by omega) (by omega) ?_ z1 o1)
    have hcA : gA G 12 = cA := Option.some.inj ((hK.1.2 2 _ rfl).2.symm.trans hf)
    rw [zCell_12 (by rw [hkd]), hkd, hI, hcA, ← hR.1]
    exact e1
  · refine va_newaK hC.1 hC.2.1 (hts _ (azWr_w _ (by simp [azWr, azArr, newarray.typeOf]))) rfl hdg rfl hn rfl (by simp only [newarray.typeOf, componentBytes]; omega) hc hs rfl fun H1 cA e1 z1 o1 _ hf => kk H1 (hR.push (by omega) (by omega) ?_ z1 o1)
    have hcA : gA G 10 = cA := Option.some.inj ((hK.1.2 0 _ rfl).2.symm.trans hf)
    rw [zCell_10 (by rw [hkd]), hkd, hI, hcA, ← hR.1]
    exact e1
  · refine va_newaK hC.1 hC.2.1 (hts _ (azWr_w _ (by simp [azWr, azArr, newarray.typeOf]))) rfl hdg rfl hn rfl (by simp only [newarray.typeOf, componentBytes]; omega) hc hs rfl fun H1 cA e1 z1 o1 _ hf => kk H1 (hR.push (by omega) (by omega) ?_ z1 o1)
    have hcA : gA G 11 = cA := Option.some.inj ((hK.1.2 1 _ rfl).2.symm.trans hf)
    rw [zCell_11 (by rw [hkd]), hkd, hJ, hcA, ← hR.1]
    exact e1
theorem az_newq {k q : Nat} (hC : zCtx p s m args meth c M) (hK : zK G s) (hR : zRel G σ H) (hb : σ.1.1 + 1 < azB) {n : Int32} (hq : azLk M.2.2.2.2.2.1 azAL k = some q) (hn : ¬ n < 0) (hN : n.toNatClampNeg ≤ 10000) (hc : cells + 1 ≤ R.cells) (hs : slots + n.toNatClampNeg ≤ R.slots) (hdg : decode M.2.1 pc = .ok (.anewarray k, 3))
    (kk : ∀ (H1 : Heap), zRel G (azNew σ q n.toNatClampNeg) H1 → W p l e R s m args below meth c H1 locs (cells + 1) (slots + n.toNatClampNeg) Qw (F0 m (pc + 3) ls' (.ref (zA G σ.1.1) :: rest))) : W p l e R s m args below meth c H locs cells slots Qw (F0 m pc ls' (.int n :: rest)) := by
  have hts := hC.2.2.2.2.2.1
  rw [zA_lt (G := G) (show σ.1.1 < azB by omega), ← hR.1] at kk
  have hkd : azKd (azNew σ q n.toNatClampNeg) σ.1.1 = (q, n.toNatClampNeg) := by simp [azKd, azNew]
  have hRw : zRow G (azNew σ q n.toNatClampNeg) σ.1.1 = fun _ => none := by funext j; simp [zRow, azNew]
  have fin : ∀ cA : ClassId, va_at (gD G) vwCl (H.size, .inl (cA, n.toNatClampNeg, .inr (.inr (.inr (.inr (fun _ => none)))))) (H.push { cls := cA, slots := Array.replicate n.toNatClampNeg .null, vm := .none }) := by
    intro cA
    show (H.push _)[H.size]? = some (vp_cell _ _)
    rw [Array.getElem?_push_size, vp_cell_q, arrV_new]
    rfl
  have o1 : ∀ (x : Cell) (q : Nat), q < H.size → (H.push x)[q]? = H[q]? := fun x q hq => by rw [Array.getElem?_push, if_neg (Nat.ne_of_lt hq)]
  rcases (azA_of hq).2 with ⟨rfl, w⟩ | ⟨rfl, w⟩
  · refine W.anew hC.1 hC.2.1 hC.2.2.2.2.1 (hts _ w) (va_AO.use hK.2.2.1.1) rfl hdg rfl hn (by omega) hc hs fun cA kA comp f1 f2 f3 f4 => kk _ (hR.push (by omega) (by omega) ?_ (by simp) (o1 _))
    have hcA : gA G 13 = cA := by
      obtain ⟨_, _, _, _, _, h⟩ := (hK.1.2 3 _ rfl).2
      exact Option.some.inj (h.symm.trans f1)
    rw [zCell_13 (by rw [hkd]), hkd, hRw, hcA, ← hR.1]
    exact fin cA
  · refine W.anew hC.1 hC.2.1 hC.2.2.2.2.1 (hts _ w) (va_AO.use hK.2.2.1.2) rfl hdg rfl hn (by omega) hc hs fun cA kA comp f1 f2 f3 f4 => kk _ (hR.push (by omega) (by omega) ?_ (by simp) (o1 _))
    have hcA : gA G 14 = cA := by
      obtain ⟨_, _, _, _, _, h⟩ := (hK.1.2 4 _ rfl).2
      exact Option.some.inj (h.symm.trans f1)
    rw [zCell_14 (by rw [hkd]), hkd, hRw, hcA, ← hR.1]
    exact fin cA
end Rows
/-- cells are made, locals stay -/
theorem az_nw {G : azG} {l : Launch} {d : Nat} {M : azM} {pc : Nat} {ls st : List Value} {σ : azS} {Q : azQ} {pc2 : Nat} {st2 : List Value} {k N : Nat}
    (h : ∀ {p : Program} {e : Env} {R : Room} {s : State} {m : MethodId} {args : Array Value} {below : List Frame} {meth : Method} {c : Code} {H : Heap} {locs : List Loc} {cells slots : Nat} {ls' : Array Slot} {Qw : State → Prop},
      zCtx p s m args meth c M → zK G s → zRel G σ H → σ.1.1 + 1 < azB → cells + 1 ≤ R.cells → slots + N ≤ R.slots → (∀ (H1 : Heap), zRel G (azNew σ k N) H1 → W p l e R s m args below meth c H1 locs (cells + 1) (slots + N) Qw (F0 m pc2 ls' (st2.map (zVal G)))) →
      W p l e R s m args below meth c H locs cells slots Qw (F0 m pc ls' (st.map (zVal G)))) :
    zReal G l d M pc2 ls st2 (azNew σ k N) Q → zReal G l d M pc ls st σ Q := by
  have e1 : (azNew σ k N).1.1 = σ.1.1 + 1 := rfl
  have e2 : (azNew σ k N).1.2.1 = σ.1.2.1 + N := rfl
  refine az_go (by omega) (by omega) rfl (fun hC hK hR hl hlo hb _ hc hs _ _ kk => h hC hK hR (by omega) (by omega) (by omega) (fun H1 hR1 => ?_))
  have k1 := kk H1 _ _ hR1 hl hlo
  rw [e1, e2, show σ.1.1 + 1 - σ.1.1 = 1 by omega, show σ.1.2.1 + N - σ.1.2.1 = N by omega] at k1
  exact k1
def azHp (i : Instr) : Bool := match i with
  | .getfield _ | .putfield _ | .arraylength | .iaload | .baload | .laload | .aaload | .iastore | .bastore | .lastore | .aastore | .new _ | .newarray _ | .anewarray _ | .ldc _ | .ldc_w _ | .ldc2_w _ | .getstatic _ => true
  | _ => false
theorem azD_of {c k : Nat} {v : Int32} (h : azLk c azDL k = some v) : Cond.constant (azN c) k v ∈ azWords := azWd_w _ (azMap_mem (q := (k, v)) (azGetD_lt (azLk_mem h)) (azLk_mem h) (List.mem_singleton_self _))
theorem azL_of {c k : Nat} {v : Int64} (h : azLk c azLL k = some v) : Cond.constantLong (azN c) k v ∈ azWords := azWl_w _ (azMap_mem (q := (k, v)) (azGetD_lt (azLk_mem h)) (azLk_mem h) (List.mem_singleton_self _))
theorem zFs_put {G : azG} {σ σ2 : azS} {a ci j : Nat} {v : Value} (hj : j < azNf ci) (h1 : zFv G σ2 a (azTy ci j) j = v) (h2 : ∀ k, k ≠ j → zFv G σ2 a (azTy ci k) k = zFv G σ a (azTy ci k) k) : zFs G σ2 a ci = (zFs G σ a ci).set j v := by
  refine List.ext_getElem? (fun k => ?_)
  by_cases hk : k < azNf ci
  · rw [zFs_get hk]
    by_cases e : k = j
    · subst e
      rw [List.getElem?_set_self (by rw [zFs_len]; exact hk), h1]
    · rw [List.getElem?_set_ne (fun q => e q.symm), zFs_get hk, h2 k e]
  · rw [List.getElem?_eq_none (by rw [zFs_len]; omega), List.getElem?_eq_none (by rw [List.length_set, zFs_len]; omega)]
