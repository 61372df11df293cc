/-! SOUNDNESS: the instructions that read and write cells. -/
theorem az_rd {G : azG} {l : Launch} {d : Nat} {M : azM} {pc : Nat} {ls st : List Value} {σ : azS} {Q : azQ} {pc2 : Nat} {st2 : List Value}
    (h : ∀ {p : Program} {e : Env} {R : Room} {s : State} {m : MethodId} {args : Array Value} {below : List Frame} {meth : Method} {c : Code} {H : Heap} {locs : List Loc} {cells slots : Nat} {ls' : Array Slot} {Qw : State → Prop},
      zCtx p s m args meth c M → zK G s → zRel G σ H → (∀ q ∈ locs, gB G ≤ q.base) → σ.1.1 < azB → W p l e R s m args below meth c H locs cells slots Qw (F0 m pc2 ls' (st2.map (zVal G))) →
      W p l e R s m args below meth c H locs cells slots Qw (F0 m pc ls' (st.map (zVal G)))) :
    zReal G l d M pc2 ls st2 σ Q → zReal G l d M pc ls st σ Q :=
  az_wr rfl (fun hC hK hR hlo hb k => h hC hK hR hlo hb (k _ _ hR hlo))
theorem zCell_obj {G : azG} {σ : azS} {a ci : Nat} (h : (azKd σ a).1 = ci) (hc : ci < 10) : zCell G σ a = .inr (ci, zFs G σ a ci) := by
  unfold zCell
  rw [h]
  split <;> first | omega | rfl
theorem zCell_10 {G : azG} {σ : azS} {a : Nat} (h : (azKd σ a).1 = 10) : zCell G σ a = .inl (gA G 10, (azKd σ a).2, .inl (σ.2.1 a)) := by unfold zCell; rw [h]; rfl
theorem zCell_11 {G : azG} {σ : azS} {a : Nat} (h : (azKd σ a).1 = 11) : zCell G σ a = .inl (gA G 11, (azKd σ a).2, .inr (.inl (σ.2.2.1 a))) := by unfold zCell; rw [h]; rfl
theorem zCell_12 {G : azG} {σ : azS} {a : Nat} (h : (azKd σ a).1 = 12) : zCell G σ a = .inl (gA G 12, (azKd σ a).2, .inl (σ.2.1 a)) := by unfold zCell; rw [h]; rfl
theorem zCell_13 {G : azG} {σ : azS} {a : Nat} (h : (azKd σ a).1 = 13) : zCell G σ a = .inl (gA G 13, (azKd σ a).2, .inr (.inr (.inr (.inr (zRow G σ a))))) := by unfold zCell; rw [h]; rfl
theorem zCell_14 {G : azG} {σ : azS} {a : Nat} (h : (azKd σ a).1 = 14) : zCell G σ a = .inl (gA G 14, (azKd σ a).2, .inr (.inr (.inr (.inr (zRow G σ a))))) := by unfold zCell; rw [h]; rfl
theorem azFc_0 {t : FieldType} (h : azFc t = 0) : t = .int := by cases t <;> simp_all [azFc]
theorem azFc_1 {t : FieldType} (h : azFc t = 1) : t = .long := by cases t <;> simp_all [azFc]
theorem azFc_2 {t : FieldType} (h : azFc t = 2) : t = .boolean := by cases t <;> simp_all [azFc]
/-- fields hold ints, longs, truths and references alone -/
def azTyR (t : FieldType) : Bool := match t with | .object _ => true | .array _ => true | _ => false
def azTy5 (t : FieldType) : Bool := match t with | .int => true | .long => true | .boolean => true | t => azTyR t
theorem azTy5_all : ((List.range 10).all fun ci => (List.range (azNf ci)).all fun j => azTy5 (azTy ci j)) = true := by decide +kernel
theorem azTy5_of {ci j : Nat} (hc : ci < 10) (hj : j < azNf ci) : azTy5 (azTy ci j) = true :=
  List.all_eq_true.mp (List.all_eq_true.mp azTy5_all ci (List.mem_range.mpr hc)) j (List.mem_range.mpr hj)
theorem azFc_3 {t : FieldType} {n : Nat} (h : azFc t = n + 3) (h5 : azTy5 t = true) : azTyR t = true := by cases t <;> simp_all [azFc, azTy5, azTyR]
theorem zFv_ref {G : azG} {σ : azS} {a j : Nat} {t : FieldType} (h : azTyR t = true) : zFv G σ a t j = va_rf ((σ.2.2.2 a j).map (zA G)) := by cases t <;> first | rfl | cases h
theorem zFs_get {G : azG} {σ : azS} {a ci j : Nat} (h : j < azNf ci) : (zFs G σ a ci)[j]? = some (zFv G σ a (azTy ci j) j) := by
  unfold zFs
  rw [List.getElem?_map, List.getElem?_range h]
  rfl
theorem zFs_len {G : azG} {σ : azS} {a ci : Nat} : (zFs G σ a ci).length = azNf ci := by simp [zFs]
/-- a row of the fields' table -/
theorem azF_of {c k : Nat} {q : Nat × Nat × Nat × Bool × Option String} (h : azLk c azFL k = some q) : c < 17 ∧ q.1 < 10 ∧ q.2.1 < azNf q.1 ∧ azFc (azTy q.1 q.2.1) = q.2.2.1 ∧ ∃ (C : String) (T : u_T), vwCl[q.1]? = some (C, T, azNf q.1) ∧ C = azN q.1 ∧ (T q.2.1).2.2.2 = q.2.2.2.1 ∧ (∀ w ∈ u_ws C T (azNf q.1), w ∈ azWords) ∧ (∀ k, k < azNf q.1 → parseFieldDescriptor (T k).2.2.1 = some (azTy q.1 k)) ∧ (∀ a, a < azNf q.1 → ∀ b, b < azNf q.1 → a ≠ b → (T a).2.1 ≠ (T b).2.1) ∧ (∀ k, k < azNf q.1 → (T k).1 = C) ∧ ((q.2.2.2.2 = none ∧ Cond.fieldLink (azN c) k C (T q.2.1).2.1 (T q.2.1).2.2.1 ∈ azWords) ∨ ∃ hh, q.2.2.2.2 = some hh ∧ Cond.fieldLinkNest (azN c) k C (T q.2.1).2.1 (T q.2.1).2.2.1 hh ∈ azXf ++ azXc) := by
  have hm := azLk_mem h
  have hok := azFok_of hm
  have hc : c < 17 := azGetD_lt hm
  unfold azFok at hok
  simp only [Bool.and_eq_true] at hok
  obtain ⟨⟨⟨h1, h2⟩, h3⟩, h4⟩ := hok
  have h1 : q.1 < 10 := Nat.blt_eq.mp h1
  have h2 : q.2.1 < azNf q.1 := Nat.blt_eq.mp h2
  have h3 : azFc (azTy q.1 q.2.1) = q.2.2.1 := Nat.eq_of_beq_eq_true h3
  obtain ⟨C, T, g1, g2, g3, g4, g5, g6⟩ := azCls q.1 h1
  refine ⟨hc, h1, h2, h3, C, T, g1, g2, ?_, g3, g4, g5, g6, ?_⟩
  · rw [g1] at h4
    simpa using h4
  · cases hh : q.2.2.2.2 with
    | none =>
      refine Or.inl ⟨rfl, azWf_w _ (azMap_mem (q := (k, q)) hc hm ?_)⟩
      unfold azFw
      rw [g1, hh]
      exact List.mem_singleton_self _
    | some w =>
      refine Or.inr ⟨w, rfl, List.mem_append_left _ (azMap_mem (q := (k, q)) hc hm ?_)⟩
      unfold azFx
      rw [g1, hh]
      exact List.mem_singleton_self _
theorem azFL_nf : azFL.all (fun l => l.all fun q => !(q.2.2.2.2.1 && q.2.2.2.2.2.isSome)) = true := by decide +kernel
theorem azFL_nofin {c : Nat} {q : azF} (h : q ∈ azFL.getD c []) : (!(q.2.2.2.2.1 && q.2.2.2.2.2.isSome)) = true := by
  have hl := azGetD_lt h
  rw [List.getD_eq_getElem?_getD, List.getElem?_eq_getElem hl] at h
  exact List.all_eq_true.mp (List.all_eq_true.mp azFL_nf _ (List.getElem_mem hl)) _ h
section Rows
variable {G : azG} {l : Launch} {M : azM} {pc : Nat} {σ : azS} {p : Program} {e : Env} {R : Room} {s : State} {m : MethodId} {args : Array Value} {below : List Frame} {meth : Method} {c : Code} {H : Heap} {locs : List Loc} {cells slots : Nat} {ls' : Array Slot} {Qw : State → Prop} {rest : List Value}
theorem az_getf (hC : zCtx p s m args meth c M) (hK : zK G s) (hR : zRel G σ H) (hb : σ.1.1 < azB) {a k : Nat} {q : Nat × Nat × Nat × Bool × Option String} (hq : azLk M.2.2.2.2.2.1 azFL k = some q) (ha : (azKd σ a).1 = q.1) (hdg : decode M.2.1 pc = .ok (.getfield k, 3))
    (kk : W p l e R s m args below meth c H locs cells slots Qw (F0 m (pc + 3) ls' (zFv G σ a (azTy q.1 q.2.1) q.2.1 :: rest))) : W p l e R s m args below meth c H locs cells slots Qw (F0 m pc ls' (.ref (zA G a) :: rest)) := by
  obtain ⟨-, h1, h2, -, C, T, g1, g2, g3, g4, g5, g6, g7, hl⟩ := azF_of hq
  have han : a < σ.1.1 := hR.2.2.1.1 a (by omega)
  rw [zA_lt (G := G) (show a < azB by omega)]
  have hP := hR.at (a := a) (by omega)
  rw [zCell_obj ha h1] at hP
  have hts := hC.2.2.2.2.2.1
  rcases hl with ⟨-, hl⟩ | ⟨hh, -, hl⟩
  · exact va_get (D := gD G) (tys := zTys G) hC.1 hC.2.1 hts g4 hC.2.2.2.2.1 hK.1 hP 0 rfl g1 q.2.1 h2 (hts _ hl) (fun x hx => by rw [g7 _ h2] at hx; exact hx) (zFs_get h2) hdg kk
  · exact va_getN (D := gD G) (tys := zTys G) hC.1 hC.2.1 hts g4 hC.2.2.2.2.1 hK.1 hP 0 rfl g1 q.2.1 h2 (va_Nw.use rfl (hK.2.1 _ hl)) (fun x hx => by rw [g7 _ h2] at hx; exact hx) (zFs_get h2) hdg kk
theorem az_putf (hC : zCtx p s m args meth c M) (hK : zK G s) (hR : zRel G σ H) (hlo : ∀ q ∈ locs, gB G ≤ q.base) (hb : σ.1.1 < azB) {σ2 : azS} {a k : Nat} {v : Value} {q : Nat × Nat × Nat × Bool × Option String} (hq : azLk M.2.2.2.2.2.1 azFL k = some q) (ha : (azKd σ a).1 = q.1)
    (hfin : (!q.2.2.2.1 || (M.2.2.2.2.1 && Nat.beq q.1 M.2.2.2.2.2.1)) = true) (hnar : narrow (azTy q.1 q.2.1) v = v) (hfit : fits (azTy q.1 q.2.1) v = true) (hdg : decode M.2.1 pc = .ok (.putfield k, 3))
    (hs : σ2.1 = σ.1) (hcell : zFs G σ2 a q.1 = (zFs G σ a q.1).set q.2.1 v) (hoth : ∀ b, b ≠ a → zCell G σ2 b = zCell G σ b) (hI : ∀ b, b ≠ a → σ2.2.1 b = σ.2.1 b)
    (kk : ∀ (H1 : Heap) (locs1 : List Loc), zRel G σ2 H1 → (∀ q ∈ locs1, gB G ≤ q.base) → W p l e R s m args below meth c H1 locs1 cells slots Qw (F0 m (pc + 3) ls' rest)) : W p l e R s m args below meth c H locs cells slots Qw (F0 m pc ls' (v :: .ref (zA G a) :: rest)) := by
  obtain ⟨-, h1, h2, -, C, T, g1, g2, gf, g4, g5, g6, g7, hl⟩ := azF_of hq
  have han : a < σ.1.1 := hR.2.2.1.1 a (by omega)
  rw [zA_lt (G := G) (show a < azB by omega)]
  have hP := hR.at (a := a) (by omega)
  rw [zCell_obj ha h1] at hP
  have hts := hC.2.2.2.2.2.1
  have hap := va_apart (own := C) (tys := zTys G) (D := gD G) hts g4 (azTy q.1) g5 g6 hK.1 g1
  obtain ⟨r, e1, cell, q1, q2, q3, q4⟩ := hP 0 _ rfl
  have hr : r = (C, T, azNf q.1) := Option.some.inj (e1.symm.trans g1)
  subst hr
  obtain ⟨hS, hfc, kC, hkC, hkind⟩ := hK.1.1 q.1 _ g1
  obtain ⟨cf, kf, fi, f, hi, hsl⟩ := hS q.2.1 h2
  have hlay := hts _ (g4 _ (u_in_lay h2))
  unfold u_lay at hlay
  have hst := (u_facts hfc hkC (u_lays hts g4 h2) hi).1
  have hsame : s.fieldFound? C (T q.2.1).2.1 (T q.2.1).2.2.1 = some (cf, kf, fi, f) := by rw [← g7 _ h2]; exact hi
  have fin : ∀ (H1 : Heap), H1[gB G + a]? = some (cell.setSlot ((gD G).2 q.1 q.2.1) v) → H1.size = H.size → (∀ x : Nat, x ≠ gB G + a → H1[x]? = H[x]?) → zRel G σ2 H1 := by
    intro H1 e1 e2 e3
    have hk2 : (azKd σ2 a).1 = q.1 := by unfold azKd at ha ⊢; rw [hs]; exact ha
    refine hR.put (a := a) (by omega) hs hoth hI ?_ e2 e3
    rw [zCell_obj hk2 h1, hcell]
    exact ⟨_, g1, t_OB.to (V := updV (vp_V (zFs G σ a q.1)) q.2.1 v) ⟨_, e1, q2, q3, t_set q4 hap h2 v⟩ (fun j _ => vp_updV_set (by rw [zFs_len]; exact h2) v j)⟩
  have hlo2 : ∀ (n : Nat), ∀ x ∈ locs ++ [(⟨gB G + a, n⟩ : Loc)], gB G ≤ x.base := by
    intro n x hx
    rcases List.mem_append.mp hx with h | h
    · exact hlo x h
    · rw [List.mem_singleton.mp h]
      exact Nat.le_add_right _ _
  cases hf : q.2.2.2.1 with
  | false =>
    rw [if_neg (by rw [gf, hf]; decide)] at hlay
    have h6 := u_store hfc hkC hkind hlay hi (g5 _ h2) hnar hfit
    rcases hl with ⟨-, hl⟩ | ⟨hh, -, hl⟩
    · refine W.putK hC.1 hC.2.1 (f := f) ⟨hC.2.2.2.2.1, hts _ hl, ⟨_, _, _, hsame⟩, hst⟩ (by rw [q2]; exact h6) q1 q3 (by rw [hsl]; exact k2_hasslot (q4 _ h2)) rfl rfl hdg fun H' e1 e2 e3 => ?_
      rw [hsl] at e1 ⊢
      exact kk H' _ (fin H' e1 e2 e3) (hlo2 _)
    · refine va_WputK hC.1 hC.2.1 (f := f) hC.2.2.2.2.1 (va_Nw.use rfl (hK.2.1 _ hl)) hsame hst (by rw [q2]; exact h6) q1 q3 (by rw [hsl]; exact k2_hasslot (q4 _ h2)) rfl rfl hdg fun H' e1 e2 e3 => ?_
      rw [hsl] at e1 ⊢
      exact kk H' _ (fin H' e1 e2 e3) (hlo2 _)
  | true =>
    rw [if_pos (by rw [gf, hf])] at hlay
    rw [hf] at hfin
    simp only [Bool.not_true, Bool.false_or, Bool.and_eq_true] at hfin
    have hcc : q.1 = M.2.2.2.2.2.1 := Nat.eq_of_beq_eq_true hfin.2
    have hcf : m.cls = cf := by
      obtain ⟨_, _, c', _, _, _, -, -, hf', -, -, -, hown2, -⟩ := Cond.laysFinal_spec hlay
      have e1 : c' = cf := by have := hi.symm.trans hf'; simp at this; exact this.1.symm
      rw [g7 _ h2, g2, hcc] at hown2
      rw [← e1]; exact Option.some.inj (hC.2.2.2.2.1.symm.trans hown2)
    have h6 := u_fits hfc hkC hkind (Or.inr hlay) hi (g5 _ h2) hnar hfit
    rcases hl with ⟨-, hl⟩ | ⟨hh, hn, hl⟩
    · refine W.putFinK hC.1 hC.2.1 hC.2.2.2.2.1 (hts _ hl) hsame hst hcf (hC.2.2.2.2.2.2.2.1 hfin.1) (by rw [q2]; exact h6) q1 q3 (by rw [hsl]; exact k2_hasslot (q4 _ h2)) rfl rfl hdg fun H' e1 e2 e3 => ?_
      rw [hsl] at e1 ⊢
      exact kk H' _ (fin H' e1 e2 e3) (hlo2 _)
    · exact absurd (azFL_nofin (azLk_mem hq)) (by simp [hf, hn])
end Rows
