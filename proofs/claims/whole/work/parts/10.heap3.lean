/-! SOUNDNESS: all instructions that touch cells or the pool. -/
theorem az_ldcS {p : Program} {l : Launch} {e : Env} {R : Room} {s : State} {m : MethodId} {args : Array Value} {below : List Frame} {meth : Method} {c : Code} {T : State} {locs : List Loc} {cells slots : Nat}
    (X : Stand p l e R s m args below meth c T locs cells slots) (hexec : p.tables.exec = Jvm.exec) {own text : String} {index : Nat} {a : Addr} (hown : s.vm.findClass own = some m.cls) (hZ : vk_R own index text a s) {g : JFrame} (hg : g.method = m) (hdg : decode c.code g.pc = .ok (.ldc_w index, 3)) :
    ∀ target, Steps p.tables e below (T.setTop { g with pc := g.pc + 3, stack := .ref a :: g.stack }) target → Steps p.tables e below (T.setTop g) target := by
  obtain ⟨k, cf, i, a', hk, hcf, hcp, -, hr, hev'⟩ := Cond.stringRef_spec hown hZ.1
  cases hZ.2.symm.trans hev'
  obtain ⟨k', hk', he⟩ := X.warmed.alike.2.2 _ _ hk
  have hr' : k'.resolved[index]? = some (some (.string a)) := by
    rcases X.warmed.entry hk hk' index with h | ⟨h, -⟩
    · rw [h]; exact hr
    · rw [hr] at h; cases h
  intro target hrest
  subst hg
  jvm_step X.here [hexec, hdg, ldc_w.wp_string (e := e) (s := T) (f := g) X.here.top hk' (by rw [he]; exact hcf) hcp hr']
  exact hrest
theorem azSL_8 : ∀ c, c ≠ 8 → azSL.getD c [] = [] := by
  intro c hc
  rcases Nat.lt_or_ge c 17 with h | h
  · have : c = 0 ∨ c = 1 ∨ c = 2 ∨ c = 3 ∨ c = 4 ∨ c = 5 ∨ c = 6 ∨ c = 7 ∨ c = 9 ∨ c = 10 ∨ c = 11 ∨ c = 12 ∨ c = 13 ∨ c = 14 ∨ c = 15 ∨ c = 16 := by omega
    rcases this with rfl | rfl | rfl | rfl | rfl | rfl | rfl | rfl | rfl | rfl | rfl | rfl | rfl | rfl | rfl | rfl <;> rfl
  · rw [List.getD_eq_getElem?_getD, List.getElem?_eq_none h]
    rfl
theorem azS_of {c k : Nat} {q : Nat × String} (h : azLk c azSL k = some q) : c = 8 ∧ (k, q) ∈ azSL.getD 8 [] := by
  have hm := azLk_mem h
  by_cases hc : c = 8
  · subst hc
    exact ⟨rfl, hm⟩
  · rw [azSL_8 c hc] at hm
    exact absurd hm List.not_mem_nil
theorem azSok : (azSL.getD 8 []).all (fun q => Nat.blt q.2.1 4) = true := by decide +kernel
theorem zA_str {G : azG} {j : Nat} (h : j < 4) : zA G (azB + j) = gT G j := by
  unfold zA
  rw [if_neg (by omega), if_neg (by omega), if_pos (by omega), Nat.add_sub_cancel_left]
theorem zA_fm {G : azG} : zA G (azB + 30) = gV G 10 := by
  unfold zA
  rw [if_neg (by omega), if_neg (by omega), if_neg (by omega), show azB + 30 - azB - 20 = 10 by omega]
theorem azX_of {c k j : Nat} (h : azLk c azXL k = some j) : (j = 0 ∧ Cond.fieldLink (azN c) k "java/lang/String" "value" "[B" ∈ azWords) ∨ (j ≠ 0 ∧ Cond.fieldLink (azN c) k "java/lang/String" "coder" "B" ∈ azWords) := by
  have hm := azLk_mem h
  have hw := azWx_w _ (azMap_mem (q := (k, j)) (azGetD_lt hm) hm (List.mem_singleton_self _))
  cases j with
  | zero => exact Or.inl ⟨rfl, hw⟩
  | succ j => exact Or.inr ⟨Nat.succ_ne_zero j, hw⟩
theorem azT_of {c k j : Nat} (h : azLk c azTL k = some j) : (j = 0 ∧ Cond.fieldLink (azN c) k "java/lang/String" "COMPACT_STRINGS" "Z" ∈ azWords) ∨ (j ≠ 0 ∧ Cond.fieldLink (azN c) k "jdk/internal/util/Preconditions" "SIOOBE_FORMATTER" "Ljava/util/function/BiFunction;" ∈ azWords) := by
  have hm := azLk_mem h
  have hw := azWt_w _ (azMap_mem (q := (k, j)) (azGetD_lt hm) hm (List.mem_singleton_self _))
  cases j with
  | zero => exact Or.inl ⟨rfl, hw⟩
  | succ j => exact Or.inr ⟨Nat.succ_ne_zero j, hw⟩
theorem az_getsZ {G : azG} {l : Launch} {M : azM} {pc : Nat} {σ : azS} {p : Program} {e : Env} {R : Room} {s : State} {m : MethodId} {args : Array Value} {below : List Frame} {meth : Method} {c : Code} {H : Heap} {locs : List Loc} {cells slots : Nat} {ls' : Array Slot} {Qw : State → Prop} {rest : List Value} (hC : zCtx p s m args meth c M) (hR : zRel G σ H) {C n d : String} {v : Value} {k : Nat} (hZ : va_Z C n d v (fun q => gB G ≤ q) s (gH G)) (hw : Cond.fieldLink (azN M.2.2.2.2.2.1) k C n d ∈ azWords) (hdg : decode M.2.1 pc = .ok (.getstatic k, 3))
    (kk : W p l e R s m args below meth c H locs cells slots Qw (F0 m (pc + 3) ls' (v :: rest))) : W p l e R s m args below meth c H locs cells slots Qw (F0 m pc ls' rest) := by
  obtain ⟨cf, kf, fi, f, a, cell, h1, h2, h3, h4, h5, h6, h7, h8⟩ := hZ
  exact W.gets hC.1 hC.2.1 hC.2.2.2.2.1 (hC.2.2.2.2.2.1 _ hw) h1 h2 h3 h4 (by rw [hR.2.2.2 _ (Nat.not_le.mp h8)]; exact h5) (fun e => by rw [e] at h6; cases h6) h7 rfl hdg kk
theorem az_getS {G : azG} {l : Launch} {M : azM} {pc : Nat} {σ : azS} {p : Program} {e : Env} {R : Room} {s : State} {m : MethodId} {args : Array Value} {below : List Frame} {meth : Method} {c : Code} {H : Heap} {locs : List Loc} {cells slots : Nat} {ls' : Array Slot} {Qw : State → Prop} {rest : List Value} (hC : zCtx p s m args meth c M) (hR : zRel G σ H) {n d : String} {v : Value} {k t : Nat} (hF : va_OF "java/lang/String" n d v t (fun q => gB G ≤ q) s (gH G)) (hw : Cond.fieldLink (azN M.2.2.2.2.2.1) k "java/lang/String" n d ∈ azWords) (hdg : decode M.2.1 pc = .ok (.getfield k, 3))
    (kk : W p l e R s m args below meth c H locs cells slots Qw (F0 m (pc + 3) ls' (v :: rest))) : W p l e R s m args below meth c H locs cells slots Qw (F0 m pc ls' (.ref t :: rest)) := by
  obtain ⟨cf, k, fi, f, cell, h1, h2, h3, h4, h5, h6⟩ := hF
  exact W.getf hC.1 hC.2.1 hC.2.2.2.2.1 (hC.2.2.2.2.2.1 _ hw) h1 h2 (by rw [hR.2.2.2 _ (Nat.not_le.mp h6)]; exact h3) h4 (v := v) h5 rfl rfl hdg kk
set_option maxHeartbeats 4000000 in
theorem az_heap {G : azG} {l : Launch} {d : Nat} {M : azM} {pc : Nat} {ls st : List Value} {σ : azS} {Q : azQ} {i : Instr} {len : Nat} (hi : azHp i = true) (hd : decode M.2.1 pc = .ok (i, len) ∧ azLen (i, len) = true) (H : azStep (zReal G l) (zReal G l) d M pc ls st σ Q i) : zReal G l d M pc ls st σ Q := by
  cases i
  case ldc k =>
    obtain ⟨v, hv, H⟩ | ⟨hv, H⟩ := zOp_of H
    · refine az_pure (fun hC _ _ hl _ k => ?_) H
      obtain ⟨h1, h2⟩ := hd
      obtain rfl : len = 2 := azLen_beq h2
      exact lv_ldc hC.1 hC.2.1 hC.2.2.2.2.1 (hC.2.2.2.2.2.1 _ (azD_of hv)) h1 k
    · obtain ⟨q, hq, H⟩ := zOf_of H
      obtain ⟨hc, hm⟩ := azS_of hq
      refine az_pure (fun hC hK _ hl _ k => ?_) H
      obtain ⟨h1, h2⟩ := hd
      obtain rfl : len = 2 := azLen_beq h2
      have hz := hK.2.2.2.1 _ hm
      have h4 : q.1 < 4 := Nat.blt_eq.mp (List.all_eq_true.mp azSok _ hm)
      have hown := hC.2.2.2.2.1
      rw [hc] at hown
      refine va_ldcS hC.1 hC.2.1 hown hz h1 ?_
      rw [← zA_str (G := G) h4]
      exact k
  case ldc_w k =>
    obtain ⟨v, hv, H⟩ | ⟨hv, H⟩ := zOp_of H
    · refine az_pure (fun hC _ _ hl _ k => ?_) H
      obtain ⟨h1, h2⟩ := hd
      obtain rfl : len = 3 := azLen_beq h2
      exact lv_ldcw hC.1 hC.2.1 hC.2.2.2.2.1 (hC.2.2.2.2.2.1 _ (azD_of hv)) h1 k
    · obtain ⟨q, hq, H⟩ := zOf_of H
      obtain ⟨hc, hm⟩ := azS_of hq
      refine az_pure (fun {p e R s m args below meth c H0 locs cells slots ls' Qw} hC hK _ hl _ k => ?_) H
      obtain ⟨h1, h2⟩ := hd
      obtain rfl : len = 3 := azLen_beq h2
      have hz := hK.2.2.2.1 _ hm
      have h4 : q.1 < 4 := Nat.blt_eq.mp (List.all_eq_true.mp azSok _ hm)
      have hown := hC.2.2.2.2.1
      rw [hc] at hown
      have k : W p l e R s m args below meth c H0 locs cells slots Qw (F0 m (pc + 3) ls' (.ref (zA G (azB + q.1)) :: st.map (zVal G))) := k
      rw [zA_str (G := G) h4] at k
      intro T hT X
      obtain ⟨t, a1, b1⟩ := k T hT X
      exact ⟨t, az_ldcS X hC.1 hown hz (g := F0 m pc ls' (st.map (zVal G))) rfl (by rw [hC.2.1]; exact h1) t a1, b1⟩
  case ldc2_w k =>
    obtain ⟨v, hv, H⟩ := zOf_of H
    refine az_pure (fun hC _ _ hl _ k => ?_) H
    obtain ⟨h1, h2⟩ := hd
    obtain rfl : len = 3 := azLen_beq h2
    exact lv_ldc2 hC.1 hC.2.1 hC.2.2.2.2.1 (hC.2.2.2.2.2.1 _ (azL_of hv)) h1 k
  case getstatic k =>
    obtain ⟨j, hj, H⟩ := zOf_of H
    obtain ⟨hd1, hd2⟩ := hd
    obtain rfl : len = 3 := azLen_beq hd2
    rcases azT_of hj with ⟨rfl, hw⟩ | ⟨hj0, hw⟩
    · exact az_rd (fun hC hK hR _ hb k => az_getsZ hC hR hK.2.2.2.2.2.2.2.1 hw hd1 k) H
    · cases j with
      | zero => exact absurd rfl hj0
      | succ j =>
        by_cases hz : gV G 11 = 0
        · refine az_rd (fun hC hK hR _ hb k => ?_) H.1
          rcases hK.2.2.2.2.2.2.2.2 with h | h
          · exact az_getsZ hC hR h.2 hw hd1 k
          · exact absurd hz h.1
        · refine az_rd (fun {p e R s m args below meth c H0 locs cells slots ls' Qw} hC hK hR _ hb k => ?_) H.2
          have k : W p l e R s m args below meth c H0 locs cells slots Qw (F0 m (pc + 3) ls' (.ref (zA G (azB + 30)) :: st.map (zVal G))) := k
          rw [zA_fm] at k
          rcases hK.2.2.2.2.2.2.2.2 with h | h
          · exact absurd h.1 hz
          · exact az_getsZ hC hR h.2 hw hd1 k
  case getfield k =>
    obtain ⟨q, hq, H⟩ | ⟨-, H⟩ := zOp_of H
    rotate_left
    · obtain ⟨j, hj, H⟩ := zOf_of H
      obtain ⟨a, r, rfl, ha, H⟩ := zR_of H
      obtain ⟨hd1, hd2⟩ := hd
      obtain rfl : len = 3 := azLen_beq hd2
      rcases azX_of hj with ⟨rfl, hw⟩ | ⟨hj0, hw⟩
      · refine az_rd (fun {p e R s m args below meth c H0 locs cells slots ls' Qw} hC hK hR _ hb k => ?_) H
        obtain ⟨i, hi, rfl⟩ := hR.2.2.1.2.2.1 a ha
        have k : W p l e R s m args below meth c H0 locs cells slots Qw (F0 m (pc + 3) ls' (.ref (zA G (azB + i + 20)) :: r.map (zVal G))) := k
        rw [show azB + i + 20 = azB + 20 + i by omega, zA_byt] at k
        show W p l e R s m args below meth c H0 locs cells slots Qw (F0 m pc ls' (.ref (zA G (azB + i)) :: r.map (zVal G)))
        rw [zA_str hi]
        exact az_getS hC hR (hK.2.2.2.2.2.1.1 i hi).2.2.1 hw hd1 k
      · cases j with
        | zero => exact absurd rfl hj0
        | succ j =>
          refine az_rd (fun {p e R s m args below meth c H0 locs cells slots ls' Qw} hC hK hR _ hb k => ?_) H
          obtain ⟨i, hi, rfl⟩ := hR.2.2.1.2.2.1 a ha
          show W p l e R s m args below meth c H0 locs cells slots Qw (F0 m pc ls' (.ref (zA G (azB + i)) :: r.map (zVal G)))
          rw [zA_str hi]
          exact az_getS hC hR (hK.2.2.2.2.2.1.1 i hi).2.1 hw hd1 k
    obtain ⟨a, r, rfl, ha, H⟩ := zR_of H
    obtain ⟨-, h1, h2, h3, -⟩ := azF_of hq
    obtain ⟨hd1, hd2⟩ := hd
    obtain rfl : len = 3 := azLen_beq hd2
    have go : ∀ v : Value, zFv G σ a (azTy q.1 q.2.1) q.2.1 = zVal G v → zReal G l d M (pc + 3) ls (v :: r) σ Q → zReal G l d M pc ls (.ref a :: r) σ Q := by
      intro v hv H
      refine az_rd (fun hC hK hR _ hb k => az_getf hC hK hR hb hq ha hd1 ?_) H
      rw [hv]
      exact k
    rcases hcode : q.2.2.1 with _ | _ | _ | n
    · rw [hcode] at H h3
      exact go (.int (σ.2.1 a q.2.1)) (by rw [azFc_0 h3]; rfl) H
    · rw [hcode] at H h3
      exact go (.long (σ.2.2.1 a q.2.1)) (by rw [azFc_1 h3]; rfl) H
    · rw [hcode] at H h3
      exact go (.int (σ.2.1 a q.2.1)) (by rw [azFc_2 h3]; rfl) H
    · rw [hcode] at H h3
      obtain ⟨b, hb, H⟩ := zOf_of H
      exact go (.ref b) (by rw [zFv_ref (azFc_3 h3 (azTy5_of h1 h2)), hb]; rfl) H
  case putfield k =>
    obtain ⟨q, hq, H⟩ := zOf_of H
    obtain ⟨hfin, H⟩ := zG_of H
    obtain ⟨-, h1, h2, h3, -⟩ := azF_of hq
    obtain ⟨hd1, hd2⟩ := hd
    obtain rfl : len = 3 := azLen_beq hd2
    rcases hcode : q.2.2.1 with _ | _ | _ | n
    · rw [hcode] at H h3
      obtain ⟨a, x, r, rfl, ha, H⟩ := zRI_of H
      have ht := azFc_0 h3
      exact az_wr (σ2 := azSI σ a q.2.1 x) rfl (fun hC hK hR hlo hb k => az_putf (σ2 := azSI σ a q.2.1 x) hC hK hR hlo hb hq ha hfin (v := .int x) (by rw [ht]; rfl) (by rw [ht]; rfl) hd1 rfl (zFs_put h2 (by rw [ht]; simp [zFv, azSI, azUp]) (fun k hk => by unfold zFv; split <;> simp [azSI, azUp, hk])) (fun b hb => zCell_congr rfl (azUp_ne _ _ _ hb) rfl rfl) (fun b hb => azUp_ne _ _ _ hb) k) H
    · rw [hcode] at H h3
      obtain ⟨a, x, r, rfl, ha, H⟩ := zRL_of H
      have ht := azFc_1 h3
      exact az_wr (σ2 := azSJ σ a q.2.1 x) rfl (fun hC hK hR hlo hb k => az_putf (σ2 := azSJ σ a q.2.1 x) hC hK hR hlo hb hq ha hfin (v := .long x) (by rw [ht]; rfl) (by rw [ht]; rfl) hd1 rfl (zFs_put h2 (by rw [ht]; simp [zFv, azSJ, azUp]) (fun k hk => by unfold zFv; split <;> simp [azSJ, azUp, hk])) (fun b hb => zCell_congr rfl rfl (azUp_ne _ _ _ hb) rfl) (fun b hb => rfl) k) H
    · rw [hcode] at H h3
      obtain ⟨a, x, r, rfl, ha, hx, H⟩ := zRI_of H
      have ht := azFc_2 h3
      exact az_wr (σ2 := azSI σ a q.2.1 x) rfl (fun hC hK hR hlo hb k => az_putf (σ2 := azSI σ a q.2.1 x) hC hK hR hlo hb hq ha hfin (v := .int x) (by rw [ht]; rcases hx with rfl | rfl <;> rfl) (by rw [ht]; rcases hx with rfl | rfl <;> rfl) hd1 rfl (zFs_put h2 (by rw [ht]; simp [zFv, azSI, azUp]) (fun k hk => by unfold zFv; split <;> simp [azSI, azUp, hk])) (fun b hb => zCell_congr rfl (azUp_ne _ _ _ hb) rfl rfl) (fun b hb => azUp_ne _ _ _ hb) k) H
    · rw [hcode] at H h3
      obtain ⟨a, b, r, rfl, ha, H⟩ := zRR_of H
      have ht := azFc_3 h3 (azTy5_of h1 h2)
      exact az_wr (σ2 := azSR σ a q.2.1 (some b)) rfl (fun hC hK hR hlo hb k => az_putf (σ2 := azSR σ a q.2.1 (some b)) hC hK hR hlo hb hq ha hfin (v := .ref (zA G b)) (by revert ht; generalize azTy q.1 q.2.1 = t; intro ht; cases t <;> first | rfl | cases ht) (by revert ht; generalize azTy q.1 q.2.1 = t; intro ht; cases t <;> first | rfl | cases ht) hd1 rfl (zFs_put h2 (by rw [zFv_ref ht]; simp [azSR, azUp, va_rf]) (fun k hk => by unfold zFv; split <;> simp [azSR, azUp, hk])) (fun b hb => zCell_congr rfl rfl rfl (azUp_ne _ _ _ hb)) (fun b hb => rfl) k) H
  case arraylength =>
    obtain ⟨a, r, rfl, ha, H⟩ := zR_of H
    obtain ⟨h1, h2⟩ := hd
    obtain rfl : len = 1 := azLen_beq h2
    exact az_rd (fun hC hK hR _ hb k => az_len hC hK hR hb ha h1 k) H
  case iaload =>
    obtain ⟨a, i, r, rfl, ha, hin, H⟩ := zRI_of H
    obtain ⟨h1, h2⟩ := hd
    obtain rfl : len = 1 := azLen_beq h2
    exact az_rd (fun hC hK hR _ hb k => az_iald hC hK hR hb ha hin h1 k) H
  case baload =>
    obtain ⟨a, i, r, rfl, ha, hin, H⟩ := zRI_of H
    obtain ⟨h1, h2⟩ := hd
    obtain rfl : len = 1 := azLen_beq h2
    exact az_rd (fun hC hK hR _ hb k => az_ba hC hK hR hb ha hin h1 k) H
  case laload =>
    obtain ⟨a, i, r, rfl, ha, hin, H⟩ := zRI_of H
    obtain ⟨h1, h2⟩ := hd
    obtain rfl : len = 1 := azLen_beq h2
    exact az_rd (fun hC hK hR _ hb k => az_la hC hK hR hb ha hin h1 k) H
  case aaload =>
    obtain ⟨a, i, r, rfl, ha, hin, H⟩ := zRI_of H
    obtain ⟨h1, h2⟩ := hd
    obtain rfl : len = 1 := azLen_beq h2
    obtain ⟨b, hb', H⟩ | ⟨hb', H⟩ := zOp_of H
    · exact az_rd (fun hC hK hR _ hb k => az_aa hC hK hR hb ha hin h1 (by rw [hb']; exact k)) H
    · exact az_rd (fun hC hK hR _ hb k => az_aa hC hK hR hb ha hin h1 (by rw [hb']; exact k)) H
  case iastore =>
    obtain ⟨a, i, x, r, rfl, ha, hin, H⟩ := zRII_of H
    obtain ⟨h1, h2⟩ := hd
    obtain rfl : len = 1 := azLen_beq h2
    exact az_wr (σ2 := azSI σ a i.toNatClampNeg x) rfl (fun hC hK hR hlo hb k => az_iast hC hK hR hlo hb ha hin h1 k) H
  case bastore =>
    obtain ⟨a, i, x, r, rfl, ha, hin, hx, H⟩ := zRII_of H
    obtain ⟨h1, h2⟩ := hd
    obtain rfl : len = 1 := azLen_beq h2
    exact az_wr (σ2 := azSI σ a i.toNatClampNeg x) rfl (fun hC hK hR hlo hb k => az_zast hC hK hR hlo hb ha hin hx h1 k) H
  case lastore =>
    obtain ⟨a, i, x, r, rfl, ha, hin, H⟩ := zRIL_of H
    obtain ⟨h1, h2⟩ := hd
    obtain rfl : len = 1 := azLen_beq h2
    exact az_wr (σ2 := azSJ σ a i.toNatClampNeg x) rfl (fun hC hK hR hlo hb k => az_last hC hK hR hlo hb ha hin h1 k) H
  case aastore =>
    obtain ⟨h1, h2⟩ := hd
    obtain rfl : len = 1 := azLen_beq h2
    obtain ⟨a, i, b, r, rfl, ha, hin, H⟩ | ⟨a, i, r, rfl, ha, hin, H⟩ := zRIO_of H
    · rcases ha with ⟨ha, hb'⟩ | ⟨ha, hb'⟩
      · exact az_wr (σ2 := azSR σ a i.toNatClampNeg (some b)) rfl (fun hC hK hR hlo hb k => az_aast1 (ci := 3) (t0 := 3) hC hK hR hlo hb (by omega) (by omega) hb' hin (zCell_13 ha) (zCell_13 (σ := azSR σ a i.toNatClampNeg (some b)) ha) rfl h1 k) H
      · exact az_wr (σ2 := azSR σ a i.toNatClampNeg (some b)) rfl (fun hC hK hR hlo hb k => az_aast1 (ci := 5) (t0 := 4) hC hK hR hlo hb (by omega) (by omega) hb' hin (zCell_14 ha) (zCell_14 (σ := azSR σ a i.toNatClampNeg (some b)) ha) rfl h1 k) H
    · exact az_wr (σ2 := azSR σ a i.toNatClampNeg none) rfl (fun hC hK hR hlo hb k => az_aastN hC hK hR hlo hb ha hin h1 k) H
  case new k =>
    obtain ⟨q, hq, H⟩ := zOf_of H
    obtain ⟨h1, h2⟩ := hd
    obtain rfl : len = 3 := azLen_beq h2
    exact az_nw (fun hC hK hR hb hc hs k => az_newo hC hK hR hb hq hc hs h1 k) H
  case newarray t =>
    obtain ⟨n, r, rfl, H⟩ := zI_of H
    obtain ⟨k, hk, hn, hN, H⟩ := zOf_of H
    obtain ⟨h1, h2⟩ := hd
    obtain rfl : len = 2 := azLen_beq h2
    exact az_nw (fun hC hK hR hb hc hs kk => az_newa hC hK hR hb hk hn hN hc hs h1 kk) H
  case anewarray k =>
    obtain ⟨n, r, rfl, H⟩ := zI_of H
    obtain ⟨q, hq, hn, hN, H⟩ := zOf_of H
    obtain ⟨h1, h2⟩ := hd
    obtain rfl : len = 3 := azLen_beq h2
    exact az_nw (fun hC hK hR hb hc hs kk => az_newq hC hK hR hb hq hn hN hc hs h1 kk) H
  all_goals cases hi
