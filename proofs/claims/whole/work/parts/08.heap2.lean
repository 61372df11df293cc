/-! SOUNDNESS: arrays, new objects. -/
section Rows
variable {G : azG} {l : Launch} {M : azM} {pc : Nat} {σ : azS} {p : Program} {e : Env} {R : Room} {s : State} {m : MethodId} {args : Array Value} {below : List Frame} {meth : Method} {c : Code} {H : Heap} {locs : List Loc} {cells slots : Nat} {ls' : Array Slot} {Qw : State → Prop} {rest : List Value}
theorem az_locs {b n : Nat} (hlo : ∀ q ∈ locs, gB G ≤ q.base) : ∀ x ∈ locs ++ [(⟨gB G + b, n⟩ : Loc)], gB G ≤ x.base := by
  intro x hx
  rcases List.mem_append.mp hx with h | h
  · exact hlo x h
  · rw [List.mem_singleton.mp h]
    exact Nat.le_add_right _ _
theorem zRel.old (hR : zRel G σ H) (hK : zK G s) : va_S (fun q => gB G ≤ q) (gH G) H [] := by
  refine ⟨by rw [hK.2.2.2.2.2.2.1, hR.1]; exact Nat.le_add_right _ _, fun q _ h2 => hR.2.2.2 q (Nat.not_le.mp h2), fun _ h => by cases h⟩
theorem az_iald (hC : zCtx p s m args meth c M) (hK : zK G s) (hR : zRel G σ H) (hb : σ.1.1 < azB) {a : Nat} {i : Int32} (ha : azIJ σ a) (hin : vp_in i (azKd σ a).2) (hdg : decode M.2.1 pc = .ok (.iaload, 1))
    (kk : W p l e R s m args below meth c H locs cells slots Qw (F0 m (pc + 1) ls' (.int (σ.2.1 a i.toNatClampNeg) :: rest))) : W p l e R s m args below meth c H locs cells slots Qw (F0 m pc ls' (.int i :: .ref (zA G a) :: rest)) := by
  rcases ha with ha | ha
  · have han : a < σ.1.1 := hR.2.2.1.1 a (by omega)
    rw [zA_lt (G := G) (show a < azB by omega)]
    have hP := hR.at (a := a) (by omega)
    rw [zCell_10 ha] at hP
    exact va_iald (D := gD G) (cl := vwCl) (tys := zTys G) hC.1 hC.2.1 hK.1 hP 0 0 rfl rfl hin hdg kk
  · obtain ⟨rfl, h2, h3⟩ := hR.2.2.1.2.1 a ha
    rw [h2] at hin
    rw [h3] at kk
    have hz : zA G (azB + 10) = gS G := by unfold zA; rw [if_neg (by omega), if_pos rfl]
    rw [hz]
    obtain ⟨scr, g1, g2, g3, g4, g5⟩ := hK.2.2.2.2.1.1
    have hlt : i.toNatClampNeg < gL G := Nat.not_le.mp fun q => hin (Or.inr q)
    exact W.iald (v := .int (gX G i.toNatClampNeg)) hC.1 hC.2.1 (by rw [hR.2.2.2 _ hK.2.2.2.2.1.2]; exact g1) g2 g3 (by rw [g4]; exact hin) (g5 _ hlt) rfl rfl hdg kk
theorem zA_byt {j : Nat} : zA G (azB + 20 + j) = gV G j := by
  unfold zA
  rw [if_neg (by omega), if_neg (by omega), if_neg (by omega), show azB + 20 + j - azB - 20 = j by omega]
theorem az_byt (hK : zK G s) (hR : zRel G σ H) {a : Nat} (ha : (azKd σ a).1 = 17) : ∃ cell : Cell, H[zA G a]? = some cell ∧ s.isArrayOf cell .byte ∧ cell.vm ≠ .unknown ∧ (azKd σ a).2 ≤ cell.slots.size ∧ cell.slots.size.toInt32 = Int32.ofNat (azKd σ a).2 ∧ ∀ j : Nat, j < (azKd σ a).2 → cell.slots[j]? = some (.int (σ.2.1 a j)) := by
  obtain ⟨j, hj, rfl, h2, h3⟩ := hR.2.2.1.2.2.2 a ha
  obtain ⟨cell, c1, c2, c3, c4, c5, c6, c7⟩ := (hK.2.2.2.2.2.1.1 j hj).2.2.2
  rw [zA_byt, h2]
  refine ⟨cell, by rw [hR.2.2.2 _ (Nat.not_le.mp c7)]; exact c1, c2, c3, c4, c5, fun k hk => ?_⟩
  rw [h3 k hk]
  exact c6 k hk
theorem az_ba (hC : zCtx p s m args meth c M) (hK : zK G s) (hR : zRel G σ H) (hb : σ.1.1 < azB) {a : Nat} {i : Int32} (ha : (azKd σ a).1 = 12 ∨ (azKd σ a).1 = 17) (hin : vp_in i (azKd σ a).2) (hdg : decode M.2.1 pc = .ok (.baload, 1))
    (kk : W p l e R s m args below meth c H locs cells slots Qw (F0 m (pc + 1) ls' (.int (σ.2.1 a i.toNatClampNeg) :: rest))) : W p l e R s m args below meth c H locs cells slots Qw (F0 m pc ls' (.int i :: .ref (zA G a) :: rest)) := by
  rcases ha with ha | ha
  · have han : a < σ.1.1 := hR.2.2.1.1 a (by omega)
    rw [zA_lt (G := G) (show a < azB by omega)]
    have hP := hR.at (a := a) (by omega)
    rw [zCell_12 ha] at hP
    exact va_zald (D := gD G) (cl := vwCl) (tys := zTys G) hC.1 hC.2.1 hK.1 hP 0 2 rfl rfl hin hdg kk
  · obtain ⟨cell, c1, c2, c3, c4, c5, c6⟩ := az_byt hK hR ha
    have hlt : i.toNatClampNeg < (azKd σ a).2 := Nat.not_le.mp fun q => hin (Or.inr q)
    exact W.bald (v := .int (σ.2.1 a i.toNatClampNeg)) hC.1 hC.2.1 c1 c2 c3 (fun q => q.elim (fun q => hin (Or.inl q)) (fun q => by omega)) (c6 _ hlt) rfl rfl hdg kk
theorem az_la (hC : zCtx p s m args meth c M) (hK : zK G s) (hR : zRel G σ H) (hb : σ.1.1 < azB) {a : Nat} {i : Int32} (ha : (azKd σ a).1 = 11) (hin : vp_in i (azKd σ a).2) (hdg : decode M.2.1 pc = .ok (.laload, 1))
    (kk : W p l e R s m args below meth c H locs cells slots Qw (F0 m (pc + 1) ls' (.long (σ.2.2.1 a i.toNatClampNeg) :: rest))) : W p l e R s m args below meth c H locs cells slots Qw (F0 m pc ls' (.int i :: .ref (zA G a) :: rest)) := by
  have han : a < σ.1.1 := hR.2.2.1.1 a (by omega)
  rw [zA_lt (G := G) (show a < azB by omega)]
  have hP := hR.at (a := a) (by omega)
  rw [zCell_11 ha] at hP
  exact va_lald (D := gD G) (cl := vwCl) (tys := zTys G) hC.1 hC.2.1 hK.1 hP 0 1 rfl rfl hin hdg kk
theorem az_aa (hC : zCtx p s m args meth c M) (hK : zK G s) (hR : zRel G σ H) (hb : σ.1.1 < azB) {a : Nat} {i : Int32} (ha : (azKd σ a).1 = 13 ∨ (azKd σ a).1 = 14) (hin : vp_in i (azKd σ a).2) (hdg : decode M.2.1 pc = .ok (.aaload, 1))
    (kk : W p l e R s m args below meth c H locs cells slots Qw (F0 m (pc + 1) ls' (va_rf ((σ.2.2.2 a i.toNatClampNeg).map (zA G)) :: rest))) : W p l e R s m args below meth c H locs cells slots Qw (F0 m pc ls' (.int i :: .ref (zA G a) :: rest)) := by
  have han : a < σ.1.1 := hR.2.2.1.1 a (by rcases ha with h | h <;> omega)
  rw [zA_lt (G := G) (show a < azB by omega)]
  have hP := hR.at (a := a) (by rcases ha with h | h <;> omega)
  rcases ha with ha | ha
  · rw [zCell_13 ha] at hP
    exact va_aldq (D := gD G) (cl := vwCl) (tys := zTys G) hC.1 hC.2.1 hK.1 hP 0 3 rfl rfl hin hdg kk
  · rw [zCell_14 ha] at hP
    exact va_aldq (D := gD G) (cl := vwCl) (tys := zTys G) hC.1 hC.2.1 hK.1 hP 0 4 rfl rfl hin hdg kk
theorem az_len (hC : zCtx p s m args meth c M) (hK : zK G s) (hR : zRel G σ H) (hb : σ.1.1 < azB) {a : Nat} (ha : (10 ≤ (azKd σ a).1 ∧ (azKd σ a).1 ≤ 15) ∨ (azKd σ a).1 = 17) (hdg : decode M.2.1 pc = .ok (.arraylength, 1))
    (kk : W p l e R s m args below meth c H locs cells slots Qw (F0 m (pc + 1) ls' (.int (nI (azKd σ a).2) :: rest))) : W p l e R s m args below meth c H locs cells slots Qw (F0 m pc ls' (.ref (zA G a) :: rest)) := by
  rcases ha with ha | ha
  rotate_left
  · obtain ⟨cell, c1, c2, c3, c4, c5, c6⟩ := az_byt hK hR ha
    exact W.alen (n := Int32.ofNat (azKd σ a).2) hC.1 hC.2.1 c1 c2 c5 rfl rfl hdg kk
  rcases (show (azKd σ a).1 = 10 ∨ (azKd σ a).1 = 11 ∨ (azKd σ a).1 = 12 ∨ (azKd σ a).1 = 13 ∨ (azKd σ a).1 = 14 ∨ (azKd σ a).1 = 15 by omega) with h | h | h | h | h | h
  · have han : a < σ.1.1 := hR.2.2.1.1 a (by omega)
    rw [zA_lt (G := G) (show a < azB by omega)]
    have hP := hR.at (a := a) (by omega)
    rw [zCell_10 h] at hP
    exact va_alen (D := gD G) (cl := vwCl) (tys := zTys G) hC.1 hC.2.1 hK.1 hP 0 0 rfl rfl rfl hdg kk
  · have han : a < σ.1.1 := hR.2.2.1.1 a (by omega)
    rw [zA_lt (G := G) (show a < azB by omega)]
    have hP := hR.at (a := a) (by omega)
    rw [zCell_11 h] at hP
    exact va_alen (D := gD G) (cl := vwCl) (tys := zTys G) hC.1 hC.2.1 hK.1 hP 0 1 rfl rfl rfl hdg kk
  · have han : a < σ.1.1 := hR.2.2.1.1 a (by omega)
    rw [zA_lt (G := G) (show a < azB by omega)]
    have hP := hR.at (a := a) (by omega)
    rw [zCell_12 h] at hP
    exact va_alen (D := gD G) (cl := vwCl) (tys := zTys G) hC.1 hC.2.1 hK.1 hP 0 2 rfl rfl rfl hdg kk
  · have han : a < σ.1.1 := hR.2.2.1.1 a (by omega)
    rw [zA_lt (G := G) (show a < azB by omega)]
    have hP := hR.at (a := a) (by omega)
    rw [zCell_13 h] at hP
    exact va_alen (D := gD G) (cl := vwCl) (tys := zTys G) hC.1 hC.2.1 hK.1 hP 0 3 rfl rfl rfl hdg kk
  · have han : a < σ.1.1 := hR.2.2.1.1 a (by omega)
    rw [zA_lt (G := G) (show a < azB by omega)]
    have hP := hR.at (a := a) (by omega)
    rw [zCell_14 h] at hP
    exact va_alen (D := gD G) (cl := vwCl) (tys := zTys G) hC.1 hC.2.1 hK.1 hP 0 4 rfl rfl rfl hdg kk
  · obtain ⟨rfl, h2, h3⟩ := hR.2.2.1.2.1 a h
    have hz : zA G (azB + 10) = gS G := by unfold zA; rw [if_neg (by omega), if_pos rfl]
    rw [hz]
    rw [h2] at kk
    obtain ⟨scr, g1, g2, g3, g4, g5⟩ := hK.2.2.2.2.1.1
    exact W.alen (n := Int32.ofNat (gL G)) hC.1 hC.2.1 (by rw [hR.2.2.2 _ hK.2.2.2.2.1.2]; exact g1) g2 (by rw [g4] <;> rfl) rfl rfl hdg kk
theorem az_cellI {a n : Nat} {i : Int32} {x : Int32} {f : Nat → Int32} {cA : ClassId} {H1 : Heap} (e : H1[gB G + a]? = some ((vp_cell cA (n, .inl f)).setSlot i.toNatClampNeg (.int x))) : va_at (gD G) vwCl (gB G + a, .inl (cA, n, .inl (fun j => if j = i.toNatClampNeg then x else f j))) H1 := by
  show H1[gB G + a]? = some (vp_cell _ _)
  rw [e, vp_cell_i, vp_cell_i, arrV_store]
  congr 2
  funext q
  by_cases hq : q = i.toNatClampNeg
  · subst hq
    simp [updV]
  · simp [updV, hq]
theorem az_iast (hC : zCtx p s m args meth c M) (hK : zK G s) (hR : zRel G σ H) (hlo : ∀ q ∈ locs, gB G ≤ q.base) (hb : σ.1.1 < azB) {a : Nat} {i x : Int32} (ha : (azKd σ a).1 = 10) (hin : vp_in i (azKd σ a).2) (hdg : decode M.2.1 pc = .ok (.iastore, 1))
    (kk : ∀ (H1 : Heap) (locs1 : List Loc), zRel G (azSI σ a i.toNatClampNeg x) H1 → (∀ q ∈ locs1, gB G ≤ q.base) → W p l e R s m args below meth c H1 locs1 cells slots Qw (F0 m (pc + 1) ls' rest)) : W p l e R s m args below meth c H locs cells slots Qw (F0 m pc ls' (.int x :: .int i :: .ref (zA G a) :: rest)) := by
  have han : a < σ.1.1 := hR.2.2.1.1 a (by omega)
  rw [zA_lt (G := G) (show a < azB by omega)]
  have hP := hR.at (a := a) (by omega)
  rw [zCell_10 ha] at hP
  refine W.iast hC.1 hC.2.1 (hP 0 _ rfl) ((hK.1.2 0 _ rfl).1 _ (fun j => .int (σ.2.1 a j))) (fun q => by cases q) (by show ¬ (i < 0 ∨ (arrV _ _ _).slots.size ≤ _); rw [arrV_size]; exact hin) rfl rfl hdg fun H1 e1 z oq => ?_
  refine kk H1 _ (hR.put (a := a) (by omega) rfl (fun b hb => zCell_congr rfl (azUp_ne _ _ _ hb) rfl rfl) (fun b hb => azUp_ne _ _ _ hb) ?_ z oq) (az_locs hlo)
  rw [zCell_10 (σ := azSI σ a i.toNatClampNeg x) ha, show (azSI σ a i.toNatClampNeg x).2.1 a = fun j => if j = i.toNatClampNeg then x else σ.2.1 a j from azUp_eq _ _ _ _]
  exact az_cellI e1
theorem az_zast (hC : zCtx p s m args meth c M) (hK : zK G s) (hR : zRel G σ H) (hlo : ∀ q ∈ locs, gB G ≤ q.base) (hb : σ.1.1 < azB) {a : Nat} {i x : Int32} (ha : (azKd σ a).1 = 12) (hin : vp_in i (azKd σ a).2) (hx : x = 0 ∨ x = 1) (hdg : decode M.2.1 pc = .ok (.bastore, 1))
    (kk : ∀ (H1 : Heap) (locs1 : List Loc), zRel G (azSI σ a i.toNatClampNeg x) H1 → (∀ q ∈ locs1, gB G ≤ q.base) → W p l e R s m args below meth c H1 locs1 cells slots Qw (F0 m (pc + 1) ls' rest)) : W p l e R s m args below meth c H locs cells slots Qw (F0 m pc ls' (.int x :: .int i :: .ref (zA G a) :: rest)) := by
  have han : a < σ.1.1 := hR.2.2.1.1 a (by omega)
  rw [zA_lt (G := G) (show a < azB by omega)]
  have hP := hR.at (a := a) (by omega)
  rw [zCell_12 ha] at hP
  refine W.zast hC.1 hC.2.1 (hP 0 _ rfl) ((hK.1.2 2 _ rfl).1 _ (fun j => .int (σ.2.1 a j))) (fun q => by cases q) (by show ¬ (i < 0 ∨ (arrV _ _ _).slots.size ≤ _); rw [arrV_size]; exact hin) rfl rfl hdg fun H1 e1 z oq => ?_
  have hnx : narrow .boolean (.int x) = .int x := by rcases hx with rfl | rfl <;> rfl
  rw [hnx] at e1
  refine kk H1 _ (hR.put (a := a) (by omega) rfl (fun b hb => zCell_congr rfl (azUp_ne _ _ _ hb) rfl rfl) (fun b hb => azUp_ne _ _ _ hb) ?_ z oq) (az_locs hlo)
  rw [zCell_12 (σ := azSI σ a i.toNatClampNeg x) ha, show (azSI σ a i.toNatClampNeg x).2.1 a = fun j => if j = i.toNatClampNeg then x else σ.2.1 a j from azUp_eq _ _ _ _]
  exact az_cellI e1
theorem az_last (hC : zCtx p s m args meth c M) (hK : zK G s) (hR : zRel G σ H) (hlo : ∀ q ∈ locs, gB G ≤ q.base) (hb : σ.1.1 < azB) {a : Nat} {i : Int32} {x : Int64} (ha : (azKd σ a).1 = 11) (hin : vp_in i (azKd σ a).2) (hdg : decode M.2.1 pc = .ok (.lastore, 1))
    (kk : ∀ (H1 : Heap) (locs1 : List Loc), zRel G (azSJ σ a i.toNatClampNeg x) H1 → (∀ q ∈ locs1, gB G ≤ q.base) → W p l e R s m args below meth c H1 locs1 cells slots Qw (F0 m (pc + 1) ls' rest)) : W p l e R s m args below meth c H locs cells slots Qw (F0 m pc ls' (.long x :: .int i :: .ref (zA G a) :: rest)) := by
  have han : a < σ.1.1 := hR.2.2.1.1 a (by omega)
  rw [zA_lt (G := G) (show a < azB by omega)]
  have hP := hR.at (a := a) (by omega)
  rw [zCell_11 ha] at hP
  refine W.last hC.1 hC.2.1 (hP 0 _ rfl) ((hK.1.2 1 _ rfl).1 _ (fun j => .long (σ.2.2.1 a j))) (fun q => by cases q) (by show ¬ (i < 0 ∨ (arrV _ _ _).slots.size ≤ _); rw [arrV_size]; exact hin) rfl rfl hdg fun H1 e1 z oq => ?_
  refine kk H1 _ (hR.put (a := a) (by omega) rfl (fun b hb => zCell_congr rfl rfl (azUp_ne _ _ _ hb) rfl) (fun b hb => rfl) ?_ z oq) (az_locs hlo)
  rw [zCell_11 (σ := azSJ σ a i.toNatClampNeg x) ha, show (azSJ σ a i.toNatClampNeg x).2.2.1 a = fun j => if j = i.toNatClampNeg then x else σ.2.2.1 a j from azUp_eq _ _ _ _]
  show H1[gB G + a]? = some (vp_cell _ _)
  rw [e1, vp_cell_l, vp_cell_l, arrV_store]
  congr 2
  funext q
  by_cases hq : q = i.toNatClampNeg
  · subst hq
    simp [updV]
  · simp [updV, hq]
theorem az_cellR {a n : Nat} {i : Int32} {x : Option Nat} {cA : ClassId} {H1 : Heap} (e : H1[gB G + a]? = some ((vp_cell cA (n, .inr (.inr (.inr (.inr (zRow G σ a)))))).setSlot i.toNatClampNeg (va_rf (x.map (zA G))))) : va_at (gD G) vwCl (gB G + a, .inl (cA, n, .inr (.inr (.inr (.inr (zRow G (azSR σ a i.toNatClampNeg x) a)))))) H1 := by
  show H1[gB G + a]? = some (vp_cell _ _)
  rw [e, vp_cell_q, vp_cell_q, arrV_store]
  congr 2
  funext q
  by_cases hq : q = i.toNatClampNeg
  · subst hq
    simp [updV, zRow, azSR, azUp]
  · simp [updV, zRow, azSR, azUp, hq]
theorem az_aastN (hC : zCtx p s m args meth c M) (hK : zK G s) (hR : zRel G σ H) (hlo : ∀ q ∈ locs, gB G ≤ q.base) (hb : σ.1.1 < azB) {a : Nat} {i : Int32} (ha : (azKd σ a).1 = 13 ∨ (azKd σ a).1 = 14) (hin : vp_in i (azKd σ a).2) (hdg : decode M.2.1 pc = .ok (.aastore, 1))
    (kk : ∀ (H1 : Heap) (locs1 : List Loc), zRel G (azSR σ a i.toNatClampNeg none) H1 → (∀ q ∈ locs1, gB G ≤ q.base) → W p l e R s m args below meth c H1 locs1 cells slots Qw (F0 m (pc + 1) ls' rest)) : W p l e R s m args below meth c H locs cells slots Qw (F0 m pc ls' (.null :: .int i :: .ref (zA G a) :: rest)) := by
  have ha15 : (azKd σ a).1 < 15 := by rcases ha with h | h <;> omega
  have han : a < σ.1.1 := hR.2.2.1.1 a ha15
  rw [zA_lt (G := G) (show a < azB by omega)]
  have hP := hR.at (a := a) ha15
  have fin : ∀ (H1 : Heap), va_at (gD G) vwCl (gB G + a, zCell G (azSR σ a i.toNatClampNeg none) a) H1 → H1.size = H.size → (∀ x : Nat, x ≠ gB G + a → H1[x]? = H[x]?) → zRel G (azSR σ a i.toNatClampNeg none) H1 := fun H1 h z oq =>
    hR.put (a := a) ha15 rfl (fun b hb => zCell_congr rfl rfl rfl (azUp_ne _ _ _ hb)) (fun b hb => rfl) h z oq
  rcases ha with ha | ha
  · rw [zCell_13 ha] at hP
    refine va_WaastN (C := RX3) hC.1 hC.2.1 (hP 0 _ rfl) ((hK.1.2 3 _ rfl).1 _ (fun j => va_rf (zRow G σ a j))) (fun q => by cases q) (by show ¬ (i < 0 ∨ (arrV _ _ _).slots.size ≤ _); rw [arrV_size]; exact hin) rfl rfl hdg fun H1 e1 z oq => ?_
    refine kk H1 _ (fin H1 ?_ z oq) (az_locs hlo)
    rw [zCell_13 (σ := azSR σ a i.toNatClampNeg none) ha]
    exact az_cellR (x := none) e1
  · rw [zCell_14 ha] at hP
    refine va_WaastN (C := RX5) hC.1 hC.2.1 (hP 0 _ rfl) ((hK.1.2 4 _ rfl).1 _ (fun j => va_rf (zRow G σ a j))) (fun q => by cases q) (by show ¬ (i < 0 ∨ (arrV _ _ _).slots.size ≤ _); rw [arrV_size]; exact hin) rfl rfl hdg fun H1 e1 z oq => ?_
    refine kk H1 _ (fin H1 ?_ z oq) (az_locs hlo)
    rw [zCell_14 (σ := azSR σ a i.toNatClampNeg none) ha]
    exact az_cellR (x := none) e1
theorem az_obj (hK : zK G s) (hR : zRel G σ H) {b ci : Nat} (hc : ci < 10) (hkb : (azKd σ b).1 = ci) : ∃ cell : Cell, H[gB G + b]? = some cell ∧ cell.cls = (gD G).1 ci ∧ cell.vm = .none ∧ ClassAt s (azN ci) ((gD G).1 ci) := by
  obtain ⟨C, T, g1, g2, -⟩ := azCls ci hc
  have hP := hR.at (a := b) (by omega)
  rw [zCell_obj hkb hc] at hP
  obtain ⟨r, e1, cell, q1, q2, q3, q4⟩ := hP 0 _ rfl
  have h := (hK.1.1 ci _ g1).2
  exact ⟨cell, q1, q2, q3, by rw [← g2]; exact h⟩
theorem az_aast1 (hC : zCtx p s m args meth c M) (hK : zK G s) (hR : zRel G σ H) (hlo : ∀ q ∈ locs, gB G ≤ q.base) (hb : σ.1.1 < azB) {a b t0 ci : Nat} {i : Int32} {cA : ClassId} (hci : ci < 10) (ha15 : (azKd σ a).1 < 15) (hkb : (azKd σ b).1 = ci) (hin : vp_in i (azKd σ a).2)
    (hc1 : zCell G σ a = .inl (cA, (azKd σ a).2, .inr (.inr (.inr (.inr (zRow G σ a)))))) (hc2 : zCell G (azSR σ a i.toNatClampNeg (some b)) a = .inl (cA, (azKd σ a).2, .inr (.inr (.inr (.inr (zRow G (azSR σ a i.toNatClampNeg (some b)) a)))))) (ht : (zTys G)[t0]? = some (cA, .object (azN ci))) (hdg : decode M.2.1 pc = .ok (.aastore, 1))
    (kk : ∀ (H1 : Heap) (locs1 : List Loc), zRel G (azSR σ a i.toNatClampNeg (some b)) H1 → (∀ q ∈ locs1, gB G ≤ q.base) → W p l e R s m args below meth c H1 locs1 cells slots Qw (F0 m (pc + 1) ls' rest)) : W p l e R s m args below meth c H locs cells slots Qw (F0 m pc ls' (.ref (zA G b) :: .int i :: .ref (zA G a) :: rest)) := by
  have han : a < σ.1.1 := hR.2.2.1.1 a ha15
  have hbn : b < σ.1.1 := hR.2.2.1.1 b (by omega)
  rw [zA_lt (G := G) (show a < azB by omega), zA_lt (G := G) (show b < azB by omega)]
  have hP := hR.at (a := a) ha15
  rw [hc1] at hP
  have hlt : i.toNatClampNeg < (azKd σ a).2 := Nat.not_le.mp fun q => hin (Or.inr q)
  have h0 : ¬ i < 0 := fun q => hin (Or.inl q)
  obtain ⟨cellV, g1, g2, g3, hcls⟩ := az_obj hK hR hci hkb
  obtain ⟨kA, comp, k1, k2, k3, -⟩ := (hK.1.2 t0 _ ht).2
  have hcomp : comp = (gD G).1 ci := Option.some.inj (k3.symm.trans hcls.1)
  subst hcomp
  obtain ⟨kC, hkC, -⟩ := id hcls.2
  refine W.aast hC.1 hC.2.1 (hP 0 _ rfl) (fun q h => by cases h) (fun h => by cases h) k1 k2 rfl hkC ⟨h0, by show _ < (arrV _ _ _).slots.size; rw [arrV_size]; exact hlt⟩ g1 (fun q h => by rw [g3] at h; cases h) (by rw [g2]; exact hkC) (by rw [g2]; exact va_assign hcls) rfl rfl hdg fun H1 e1 z oq => ?_
  refine kk H1 _ (hR.put (a := a) ha15 rfl (fun b hb => zCell_congr rfl rfl rfl (azUp_ne _ _ _ hb)) (fun b hb => rfl) ?_ z oq) (az_locs hlo)
  rw [hc2]
  exact az_cellR (x := some b) (by rw [show va_rf ((some b).map (zA G)) = .ref (gB G + b) by show Value.ref (zA G b) = _; rw [zA_lt (show b < azB by omega)]]; exact e1)
end Rows
