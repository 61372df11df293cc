/-! SOUNDNESS: what runs on the abstract machine runs on the real one. -/
/-- one instruction: what stands behind it may have other locals, other cells, more cells -/
theorem az_go {G : azG} {l : Launch} {d : Nat} {M : azM} {pc : Nat} {ls st : List Value} {σ : azS} {Q : azQ} {pc2 : Nat} {ls2 st2 : List Value} {σ2 : azS} (hn : σ.1.1 ≤ σ2.1.1) (hz : σ.1.2.1 ≤ σ2.1.2.1) (hlen : ls2.length = ls.length)
    (h : ∀ {p : Program} {e : Env} {R : Room} {s : State} {m : MethodId} {args : Array Value} {below : List Frame} {meth : Method} {c : Code} {H : Heap} {locs : List Loc} {cells slots : Nat} {ls' : Array Slot} {Qw : State → Prop},
      zCtx p s m args meth c M → zK G s → zRel G σ H → zLv G ls ls' → (∀ q ∈ locs, gB G ≤ q.base) → σ2.1.1 < azB → ls.length = M.2.2.1 → cells + (σ2.1.1 - σ.1.1) ≤ R.cells → slots + (σ2.1.2.1 - σ.1.2.1) ≤ R.slots → d ≤ R.frames → 40 * d ≤ R.locals →
      (∀ (H1 : Heap) (locs1 : List Loc) (ls1 : Array Slot), zRel G σ2 H1 → zLv G ls2 ls1 → (∀ q ∈ locs1, gB G ≤ q.base) → W p l e R s m args below meth c H1 locs1 (cells + (σ2.1.1 - σ.1.1)) (slots + (σ2.1.2.1 - σ.1.2.1)) Qw (F0 m pc2 ls1 (st2.map (zVal G)))) →
      W p l e R s m args below meth c H locs cells slots Qw (F0 m pc ls' (st.map (zVal G)))) :
    zReal G l d M pc2 ls2 st2 σ2 Q → zReal G l d M pc ls st σ Q := by
  intro h0 hM
  obtain ⟨v, σ', hQ, h1, h2, K⟩ := h0 hM
  refine ⟨v, σ', hQ, Nat.le_trans hn h1, Nat.le_trans hz h2, fun hb hL p e R s m args below meth c H locs cells slots ls' hC hK hR hl hlocs hc hs hd hdl => ?_⟩
  refine h hC hK hR hl hlocs (by omega) hL (by omega) (by omega) hd hdl (fun H1 locs1 ls1 hR1 hl1 hlo1 => ?_)
  have e1 : cells + (σ'.1.1 - σ.1.1) = cells + (σ2.1.1 - σ.1.1) + (σ'.1.1 - σ2.1.1) := by omega
  have e2 : slots + (σ'.1.2.1 - σ.1.2.1) = slots + (σ2.1.2.1 - σ.1.2.1) + (σ'.1.2.1 - σ2.1.2.1) := by omega
  rw [e1, e2]
  exact K hb (by rw [hlen]; exact hL) p e R s m args below meth c H1 locs1 _ _ ls1 hC hK hR1 hl1 hlo1 (by omega) (by omega) hd hdl
/-- cells and locals stay -/
theorem az_pure {G : azG} {l : Launch} {d : Nat} {M : azM} {pc : Nat} {ls st : List Value} {σ : azS} {Q : azQ} {pc2 : Nat} {st2 : List Value}
    (h : ∀ {p : Program} {e : Env} {R : Room} {s : State} {m : MethodId} {args : Array Value} {below : List Frame} {meth : Method} {c : Code} {H : Heap} {locs : List Loc} {cells slots : Nat} {ls' : Array Slot} {Qw : State → Prop},
      zCtx p s m args meth c M → zK G s → zRel G σ H → zLv G ls ls' → σ.1.1 < azB → W p l e R s m args below meth c H locs cells slots Qw (F0 m pc2 ls' (st2.map (zVal G))) →
      W p l e R s m args below meth c H locs cells slots Qw (F0 m pc ls' (st.map (zVal G)))) :
    zReal G l d M pc2 ls st2 σ Q → zReal G l d M pc ls st σ Q :=
  az_go (Nat.le_refl _) (Nat.le_refl _) rfl (fun hC hK hR hl hlo hb _ _ _ _ _ k => h hC hK hR hl hb (by have k1 := k _ _ _ hR hl hlo; simpa using k1))
/-- cells stay -/
theorem az_loc {G : azG} {l : Launch} {d : Nat} {M : azM} {pc : Nat} {ls st : List Value} {σ : azS} {Q : azQ} {pc2 : Nat} {ls2 st2 : List Value} (hlen : ls2.length = ls.length)
    (h : ∀ {p : Program} {e : Env} {R : Room} {s : State} {m : MethodId} {args : Array Value} {below : List Frame} {meth : Method} {c : Code} {H : Heap} {locs : List Loc} {cells slots : Nat} {ls' : Array Slot} {Qw : State → Prop},
      zCtx p s m args meth c M → zLv G ls ls' → (∀ ls1, zLv G ls2 ls1 → W p l e R s m args below meth c H locs cells slots Qw (F0 m pc2 ls1 (st2.map (zVal G)))) →
      W p l e R s m args below meth c H locs cells slots Qw (F0 m pc ls' (st.map (zVal G)))) :
    zReal G l d M pc2 ls2 st2 σ Q → zReal G l d M pc ls st σ Q :=
  az_go (Nat.le_refl _) (Nat.le_refl _) hlen (fun hC hK hR hl hlo hb _ _ _ _ _ k => h hC hl (fun ls1 hl1 => by have k1 := k _ _ _ hR hl1 hlo; simpa using k1))
/-- locals stay, no cell is made -/
theorem az_wr {G : azG} {l : Launch} {d : Nat} {M : azM} {pc : Nat} {ls st : List Value} {σ : azS} {Q : azQ} {pc2 : Nat} {st2 : List Value} {σ2 : azS} (hs : σ2.1 = σ.1)
    (h : ∀ {p : Program} {e : Env} {R : Room} {s : State} {m : MethodId} {args : Array Value} {below : List Frame} {meth : Method} {c : Code} {H : Heap} {locs : List Loc} {cells slots : Nat} {ls' : Array Slot} {Qw : State → Prop},
      zCtx p s m args meth c M → zK G s → zRel G σ H → (∀ q ∈ locs, gB G ≤ q.base) → σ.1.1 < azB → (∀ (H1 : Heap) (locs1 : List Loc), zRel G σ2 H1 → (∀ q ∈ locs1, gB G ≤ q.base) → W p l e R s m args below meth c H1 locs1 cells slots Qw (F0 m pc2 ls' (st2.map (zVal G)))) →
      W p l e R s m args below meth c H locs cells slots Qw (F0 m pc ls' (st.map (zVal G)))) :
    zReal G l d M pc2 ls st2 σ2 Q → zReal G l d M pc ls st σ Q :=
  az_go (by rw [hs]; exact Nat.le_refl _) (by rw [hs]; exact Nat.le_refl _) rfl (fun hC hK hR hl hlo hb _ _ _ _ _ k => h hC hK hR hlo (by rw [← hs]; exact hb) (fun H1 locs1 hR1 hlo1 => by have k1 := k H1 locs1 _ hR1 hl hlo1; rw [hs] at k1; simpa using k1))
-- what stands on the stack
theorem zI_of {st : List Value} {f : Int32 → List Value → Prop} (h : zI st f) : ∃ x r, st = .int x :: r ∧ f x r := by
  unfold zI at h; split at h <;> first | exact ⟨_, _, rfl, h⟩ | exact h.elim
theorem zII_of {st : List Value} {f : Int32 → Int32 → List Value → Prop} (h : zII st f) : ∃ x y r, st = .int y :: .int x :: r ∧ f x y r := by
  unfold zII at h; split at h <;> first | exact ⟨_, _, _, rfl, h⟩ | exact h.elim
theorem zL_of {st : List Value} {f : Int64 → List Value → Prop} (h : zL st f) : ∃ x r, st = .long x :: r ∧ f x r := by
  unfold zL at h; split at h <;> first | exact ⟨_, _, rfl, h⟩ | exact h.elim
theorem zLL_of {st : List Value} {f : Int64 → Int64 → List Value → Prop} (h : zLL st f) : ∃ x y r, st = .long y :: .long x :: r ∧ f x y r := by
  unfold zLL at h; split at h <;> first | exact ⟨_, _, _, rfl, h⟩ | exact h.elim
theorem zR_of {st : List Value} {f : Nat → List Value → Prop} (h : zR st f) : ∃ a r, st = .ref a :: r ∧ f a r := by
  unfold zR at h; split at h <;> first | exact ⟨_, _, rfl, h⟩ | exact h.elim
theorem zRI_of {st : List Value} {f : Nat → Int32 → List Value → Prop} (h : zRI st f) : ∃ a i r, st = .int i :: .ref a :: r ∧ f a i r := by
  unfold zRI at h; split at h <;> first | exact ⟨_, _, _, rfl, h⟩ | exact h.elim
theorem zRII_of {st : List Value} {f : Nat → Int32 → Int32 → List Value → Prop} (h : zRII st f) : ∃ a i x r, st = .int x :: .int i :: .ref a :: r ∧ f a i x r := by
  unfold zRII at h; split at h <;> first | exact ⟨_, _, _, _, rfl, h⟩ | exact h.elim
theorem zRIL_of {st : List Value} {f : Nat → Int32 → Int64 → List Value → Prop} (h : zRIL st f) : ∃ a i x r, st = .long x :: .int i :: .ref a :: r ∧ f a i x r := by
  unfold zRIL at h; split at h <;> first | exact ⟨_, _, _, _, rfl, h⟩ | exact h.elim
theorem zRL_of {st : List Value} {f : Nat → Int64 → List Value → Prop} (h : zRL st f) : ∃ a x r, st = .long x :: .ref a :: r ∧ f a x r := by
  unfold zRL at h; split at h <;> first | exact ⟨_, _, _, rfl, h⟩ | exact h.elim
theorem zRR_of {st : List Value} {f : Nat → Nat → List Value → Prop} (h : zRR st f) : ∃ a b r, st = .ref b :: .ref a :: r ∧ f a b r := by
  unfold zRR at h; split at h <;> first | exact ⟨_, _, _, rfl, h⟩ | exact h.elim
theorem zRIO_of {st : List Value} {f : Nat → Int32 → Nat → List Value → Prop} {g : Nat → Int32 → List Value → Prop} (h : zRIO st f g) : (∃ a i b r, st = .ref b :: .int i :: .ref a :: r ∧ f a i b r) ∨ ∃ a i r, st = .null :: .int i :: .ref a :: r ∧ g a i r := by
  unfold zRIO at h; split at h <;> first | exact Or.inl ⟨_, _, _, _, rfl, h⟩ | exact Or.inr ⟨_, _, _, rfl, h⟩ | exact h.elim
theorem zO_of {st : List Value} {f : Nat → List Value → Prop} {g : List Value → Prop} (h : zO st f g) : (∃ a r, st = .ref a :: r ∧ f a r) ∨ ∃ r, st = .null :: r ∧ g r := by
  unfold zO at h; split at h <;> first | exact Or.inl ⟨_, _, rfl, h⟩ | exact Or.inr ⟨_, rfl, h⟩ | exact h.elim
theorem zV_of {st : List Value} {f : Value → List Value → Prop} (h : zV st f) : ∃ v r, st = v :: r ∧ f v r := by
  unfold zV at h; split at h <;> first | exact ⟨_, _, rfl, h⟩ | exact h.elim
theorem zVV_of {st : List Value} {f : Value → Value → List Value → Prop} (h : zVV st f) : ∃ v w r, st = v :: w :: r ∧ f v w r := by
  unfold zVV at h; split at h <;> first | exact ⟨_, _, _, rfl, h⟩ | exact h.elim
theorem zG_of {b : Bool} {P : Prop} (h : zG b P) : b = true ∧ P := by cases b <;> first | exact h.elim | exact ⟨rfl, h⟩
theorem zOf_of {α : Type} {o : Option α} {f : α → Prop} (h : zOf o f) : ∃ x, o = some x ∧ f x := by cases o <;> first | exact h.elim | exact ⟨_, rfl, h⟩
theorem zOp_of {α : Type} {o : Option α} {f : α → Prop} {g : Prop} (h : zOp o f g) : (∃ x, o = some x ∧ f x) ∨ (o = none ∧ g) := by cases o <;> first | exact Or.inr ⟨rfl, h⟩ | exact Or.inl ⟨_, rfl, h⟩
theorem zlI_of {v : Value} {f : Int32 → Prop} (h : zlI v f) : ∃ x, v = .int x ∧ f x := by cases v <;> first | exact h.elim | exact ⟨_, rfl, h⟩
theorem zlL_of {v : Value} {f : Int64 → Prop} (h : zlL v f) : ∃ x, v = .long x ∧ f x := by cases v <;> first | exact h.elim | exact ⟨_, rfl, h⟩
theorem zlR_of {v : Value} {f : Nat → Prop} {g : Prop} (h : zlR v f g) : (∃ x, v = .ref x ∧ f x) ∨ (v = .null ∧ g) := by cases v <;> first | exact h.elim | exact Or.inl ⟨_, rfl, h⟩ | exact Or.inr ⟨rfl, h⟩
theorem azT0_of {pc : Nat} {o : Int} {t : Nat} (h : azT0 pc o = some t) : (pc : Int) + o = (t : Int) := by
  unfold azT0 at h
  cases hh : (pc : Int) + o with
  | ofNat n => rw [hh] at h; cases h; rfl
  | negSucc n => rw [hh] at h; cases h
theorem azLen_beq {a b : Nat} (h : (a == b) = true) : a = b := by simpa using h
/-- the instructions that are neither calls nor touch the heap nor leave -/
def azPl (i : Instr) : Bool := match i with
  | .iconst _ | .bipush _ | .sipush _ | .lconst _ | .aconst_null | .iload _ | .iload_n _ | .lload _ | .lload_n _ | .aload _ | .aload_n _ | .istore _ | .istore_n _ | .lstore _ | .lstore_n _ | .astore _ | .astore_n _ | .iinc _ _ => true
  | .iadd | .isub | .imul | .iand | .ior | .ixor | .ishl | .ishr | .iushr | .idiv | .irem | .ladd | .lsub | .lmul | .ldiv | .lrem | .lneg | .lcmp | .i2l | .l2i | .i2c | .dup | .dup2 | .pop => true
  | .if_icmp _ _ | .ifCond _ _ | .ifnull _ | .ifnonnull _ | .goto _ | .tableswitch _ _ _ _ | .lookupswitch _ _ => true
  | _ => false
theorem zSw_of {x : Int32} {f : Int → Prop} : ∀ (os : List Int) (lo : Int) (k : Nat) (o : Int), zSw x lo os f → os[k]? = some o → x.toInt = lo + k → f o
  | [], _, k, o, _, h, _ => by simp at h
  | a :: t, lo, 0, o, H, h, e => by
    simp at h
    subst h
    exact H.1 (by simpa using e)
  | a :: t, lo, k + 1, o, H, h, e => zSw_of t (lo + 1) k o H.2 (by simpa using h) (by rw [e]; push_cast; omega)
theorem zLs_of {x : Int32} {df : Int} {f : Int → Prop} : ∀ (ps : List (Int × Int)), zLs x df ps f → f (Op.lookupswitch.offset ps df x.toInt)
  | [], H => H
  | q :: t, H => by
    rw [show q = (q.1, q.2) from rfl, Op.lookupswitch.offset_cons]
    by_cases e : x.toInt = q.1
    · rw [if_pos e.symm]; exact H.1 e
    · rw [if_neg (fun z => e z.symm)]; exact zLs_of t (H.2 e)
theorem azW1_lt {ls : List Value} {i : Nat} (h : azW1 ls i = true) : i < ls.length := by
  unfold azW1 at h
  rw [Bool.and_eq_true] at h
  exact Nat.blt_eq.mp h.1
theorem azW2_lt {ls : List Value} {i : Nat} (h : azW2 ls i = true) : i + 1 < ls.length := by
  unfold azW2 at h
  rw [Bool.and_eq_true] at h
  exact Nat.blt_eq.mp h.1
theorem azIs2_1 {G : azG} {v : Value} (h : (!azIs2 v) = true) : (zVal G v).category = 1 := by
  rw [azIs2_cat]
  cases hz : azIs2 v <;> simp_all
set_option maxHeartbeats 4000000 in
theorem az_plain {G : azG} {l : Launch} {d : Nat} {M : azM} {pc : Nat} {ls st : List Value} {σ : azS} {Q : azQ} {i : Instr} {len : Nat} (hi : azPl i = true) (hd : decode M.2.1 pc = .ok (i, len) ∧ azLen (i, len) = true) (H : azStep (zReal G l) (zReal G l) d M pc ls st σ Q i) : zReal G l d M pc ls st σ Q := by
  cases i
  case iconst n =>
    refine az_pure (fun hC _ _ _ _ k => ?_) H
    obtain ⟨h1, h2⟩ := hd
    simp only [azLen, Bool.and_eq_true, beq_iff_eq] at h2
    obtain ⟨rfl, h3⟩ := h2
    exact lv_iconst hC.1 hC.2.1 h1 h3 k
  case bipush n =>
    refine az_pure (fun hC _ _ _ _ k => ?_) H
    obtain ⟨h1, h2⟩ := hd
    simp only [azLen, Bool.and_eq_true, beq_iff_eq] at h2
    obtain ⟨rfl, h3⟩ := h2
    exact lv_bipush hC.1 hC.2.1 h1 h3 k
  case sipush n =>
    refine az_pure (fun hC _ _ _ _ k => ?_) H
    obtain ⟨h1, h2⟩ := hd
    simp only [azLen, Bool.and_eq_true, beq_iff_eq] at h2
    obtain ⟨rfl, h3⟩ := h2
    exact lv_sipush hC.1 hC.2.1 h1 h3 k
  case lconst n =>
    refine az_pure (fun hC _ _ hl _ k => ?_) H
    obtain ⟨h1, h2⟩ := hd
    obtain rfl : len = 1 := azLen_beq h2
    exact lv_lconst hC.1 hC.2.1 h1 rfl k
  case aconst_null =>
    refine az_pure (fun hC _ _ hl _ k => ?_) H
    obtain ⟨h1, h2⟩ := hd
    obtain rfl : len = 1 := azLen_beq h2
    exact lv_null hC.1 hC.2.1 h1 k
  case iload n =>
    obtain ⟨x, e, H⟩ := zlI_of H
    refine az_pure (fun hC _ _ hl _ k => ?_) H
    obtain ⟨h1, h2⟩ := hd
    obtain rfl : len = 2 := azLen_beq h2
    exact lv_iload hC.1 hC.2.1 h1 (hl.at e (fun _ h => by cases h)) k
  case iload_n n =>
    obtain ⟨x, e, H⟩ := zlI_of H
    refine az_pure (fun hC _ _ hl _ k => ?_) H
    obtain ⟨h1, h2⟩ := hd
    obtain rfl : len = 1 := azLen_beq h2
    exact lv_iload_n hC.1 hC.2.1 h1 rfl (hl.at e (fun _ h => by cases h)) k
  case lload n =>
    obtain ⟨x, e, H⟩ := zlL_of H
    refine az_pure (fun hC _ _ hl _ k => ?_) H
    obtain ⟨h1, h2⟩ := hd
    obtain rfl : len = 2 := azLen_beq h2
    exact lv_lload hC.1 hC.2.1 h1 (hl.at e (fun _ h => by cases h)) k
  case lload_n n =>
    obtain ⟨x, e, H⟩ := zlL_of H
    refine az_pure (fun hC _ _ hl _ k => ?_) H
    obtain ⟨h1, h2⟩ := hd
    obtain rfl : len = 1 := azLen_beq h2
    exact lv_lload_n hC.1 hC.2.1 h1 rfl (hl.at e (fun _ h => by cases h)) k
  case aload n =>
    obtain ⟨x, e, H⟩ | ⟨e, H⟩ := zlR_of H
    · refine az_pure (fun hC _ _ hl _ k => ?_) H
      obtain ⟨h1, h2⟩ := hd
      obtain rfl : len = 2 := azLen_beq h2
      exact lv_aload hC.1 hC.2.1 h1 (hl.at e (fun _ h => by cases h)) k
    · refine az_pure (fun hC _ _ hl _ k => ?_) H
      obtain ⟨h1, h2⟩ := hd
      obtain rfl : len = 2 := azLen_beq h2
      exact lv_aloadN hC.1 hC.2.1 h1 (hl.at e (fun _ h => by cases h)) k
  case aload_n n =>
    obtain ⟨x, e, H⟩ | ⟨e, H⟩ := zlR_of H
    · refine az_pure (fun hC _ _ hl _ k => ?_) H
      obtain ⟨h1, h2⟩ := hd
      obtain rfl : len = 1 := azLen_beq h2
      exact lv_aload_n hC.1 hC.2.1 h1 rfl (hl.at e (fun _ h => by cases h)) k
    · refine az_pure (fun hC _ _ hl _ k => ?_) H
      obtain ⟨h1, h2⟩ := hd
      obtain rfl : len = 1 := azLen_beq h2
      exact lv_aload_nN hC.1 hC.2.1 h1 rfl (hl.at e (fun _ h => by cases h)) k
  case istore n =>
    obtain ⟨x, r, rfl, H⟩ := zI_of H
    obtain ⟨hw, H⟩ := zG_of H
    refine az_loc (by simp) (fun hC hl k => ?_) H
    obtain ⟨h1, h2⟩ := hd
    obtain rfl : len = 2 := azLen_beq h2
    exact lv_istore hC.1 hC.2.1 h1 hl.has (azW1_lt hw) rfl (fun ls1 g => k ls1 (zLv.set1 (v := .int x) rfl hw rfl g))
  case istore_n n =>
    obtain ⟨x, r, rfl, H⟩ := zI_of H
    obtain ⟨hw, H⟩ := zG_of H
    refine az_loc (by simp) (fun hC hl k => ?_) H
    obtain ⟨h1, h2⟩ := hd
    obtain rfl : len = 1 := azLen_beq h2
    exact lv_istore_n hC.1 hC.2.1 h1 rfl hl.has (azW1_lt hw) rfl (fun ls1 g => k ls1 (zLv.set1 (v := .int x) rfl hw rfl g))
  case lstore n =>
    obtain ⟨x, r, rfl, H⟩ := zL_of H
    obtain ⟨hw, H⟩ := zG_of H
    refine az_loc (by simp) (fun hC hl k => ?_) H
    obtain ⟨h1, h2⟩ := hd
    obtain rfl : len = 2 := azLen_beq h2
    exact lv_lstore hC.1 hC.2.1 h1 hl.has (azW2_lt hw) rfl (fun ls1 g => k ls1 (zLv.set2 rfl hw g))
  case lstore_n n =>
    obtain ⟨x, r, rfl, H⟩ := zL_of H
    obtain ⟨hw, H⟩ := zG_of H
    refine az_loc (by simp) (fun hC hl k => ?_) H
    obtain ⟨h1, h2⟩ := hd
    obtain rfl : len = 1 := azLen_beq h2
    exact lv_lstore_n hC.1 hC.2.1 h1 rfl hl.has (azW2_lt hw) rfl (fun ls1 g => k ls1 (zLv.set2 rfl hw g))
  case astore n =>
    obtain ⟨x, r, rfl, H⟩ | ⟨r, rfl, H⟩ := zO_of H
    · obtain ⟨hw, H⟩ := zG_of H
      refine az_loc (by simp) (fun hC hl k => ?_) H
      obtain ⟨h1, h2⟩ := hd
      obtain rfl : len = 2 := azLen_beq h2
      exact lv_astore hC.1 hC.2.1 h1 hl.has (azW1_lt hw) rfl (fun ls1 g => k ls1 (zLv.set1 (v := .ref x) rfl hw rfl g))
    · obtain ⟨hw, H⟩ := zG_of H
      refine az_loc (by simp) (fun hC hl k => ?_) H
      obtain ⟨h1, h2⟩ := hd
      obtain rfl : len = 2 := azLen_beq h2
      exact lv_astoreN hC.1 hC.2.1 h1 hl.has (azW1_lt hw) rfl (fun ls1 g => k ls1 (zLv.set1 (v := .null) rfl hw rfl g))
  case astore_n n =>
    obtain ⟨x, r, rfl, H⟩ | ⟨r, rfl, H⟩ := zO_of H
    · obtain ⟨hw, H⟩ := zG_of H
      refine az_loc (by simp) (fun hC hl k => ?_) H
      obtain ⟨h1, h2⟩ := hd
      obtain rfl : len = 1 := azLen_beq h2
      exact lv_astore_n hC.1 hC.2.1 h1 rfl hl.has (azW1_lt hw) rfl (fun ls1 g => k ls1 (zLv.set1 (v := .ref x) rfl hw rfl g))
    · obtain ⟨hw, H⟩ := zG_of H
      refine az_loc (by simp) (fun hC hl k => ?_) H
      obtain ⟨h1, h2⟩ := hd
      obtain rfl : len = 1 := azLen_beq h2
      exact lv_astore_nN hC.1 hC.2.1 h1 rfl hl.has (azW1_lt hw) rfl (fun ls1 g => k ls1 (zLv.set1 (v := .null) rfl hw rfl g))
  case iinc n b =>
    obtain ⟨x, e, H⟩ := zlI_of H
    obtain ⟨hw, H⟩ := zG_of H
    refine az_loc (by simp) (fun hC hl k => ?_) H
    obtain ⟨h1, h2⟩ := hd
    simp only [azLen, Bool.and_eq_true, beq_iff_eq] at h2
    obtain ⟨rfl, h3⟩ := h2
    have hm : (n, Value.int x) ∈ zLl G ls := zLl_mem.mpr ⟨.int x, by rw [← e]; exact azGl_get (by rw [e]; exact fun h => by cases h), (fun _ h => by cases h), rfl⟩
    obtain ⟨j, hj⟩ := List.getElem?_of_mem hm
    exact lv_iinc hC.1 hC.2.1 h1 hl.has hj (by rw [h3]) (azW1_lt hw) rfl (fun ls1 g => k ls1 (zLv.set1 (v := .int (x + azC b)) rfl hw rfl g))
  case iadd =>
    obtain ⟨x, y, r, rfl, H⟩ := zII_of H
    refine az_pure (fun hC _ _ hl _ k => ?_) H
    obtain ⟨h1, h2⟩ := hd
    obtain rfl : len = 1 := azLen_beq h2
    exact lv_iadd hC.1 hC.2.1 h1 k
  case isub =>
    obtain ⟨x, y, r, rfl, H⟩ := zII_of H
    refine az_pure (fun hC _ _ hl _ k => ?_) H
    obtain ⟨h1, h2⟩ := hd
    obtain rfl : len = 1 := azLen_beq h2
    exact lv_isub hC.1 hC.2.1 h1 k
  case imul =>
    obtain ⟨x, y, r, rfl, H⟩ := zII_of H
    refine az_pure (fun hC _ _ hl _ k => ?_) H
    obtain ⟨h1, h2⟩ := hd
    obtain rfl : len = 1 := azLen_beq h2
    exact lv_imul hC.1 hC.2.1 h1 k
  case iand =>
    obtain ⟨x, y, r, rfl, H⟩ := zII_of H
    refine az_pure (fun hC _ _ hl _ k => ?_) H
    obtain ⟨h1, h2⟩ := hd
    obtain rfl : len = 1 := azLen_beq h2
    exact lv_iand hC.1 hC.2.1 h1 k
  case ior =>
    obtain ⟨x, y, r, rfl, H⟩ := zII_of H
    refine az_pure (fun hC _ _ hl _ k => ?_) H
    obtain ⟨h1, h2⟩ := hd
    obtain rfl : len = 1 := azLen_beq h2
    exact lv_ior hC.1 hC.2.1 h1 k
  case ixor =>
    obtain ⟨x, y, r, rfl, H⟩ := zII_of H
    refine az_pure (fun hC _ _ hl _ k => ?_) H
    obtain ⟨h1, h2⟩ := hd
    obtain rfl : len = 1 := azLen_beq h2
    exact lv_ixor hC.1 hC.2.1 h1 k
  case ishl =>
    obtain ⟨x, y, r, rfl, H⟩ := zII_of H
    refine az_pure (fun hC _ _ hl _ k => ?_) H
    obtain ⟨h1, h2⟩ := hd
    obtain rfl : len = 1 := azLen_beq h2
    exact lv_ishl hC.1 hC.2.1 h1 k
  case ishr =>
    obtain ⟨x, y, r, rfl, H⟩ := zII_of H
    refine az_pure (fun hC _ _ hl _ k => ?_) H
    obtain ⟨h1, h2⟩ := hd
    obtain rfl : len = 1 := azLen_beq h2
    exact lv_ishr hC.1 hC.2.1 h1 k
  case iushr =>
    obtain ⟨x, y, r, rfl, H⟩ := zII_of H
    refine az_pure (fun hC _ _ hl _ k => ?_) H
    obtain ⟨h1, h2⟩ := hd
    obtain rfl : len = 1 := azLen_beq h2
    exact lv_iushr hC.1 hC.2.1 h1 rfl k
  case idiv =>
    obtain ⟨x, y, r, rfl, hne, H⟩ := zII_of H
    refine az_pure (fun hC _ _ hl _ k => ?_) H
    obtain ⟨h1, h2⟩ := hd
    obtain rfl : len = 1 := azLen_beq h2
    exact lv_idiv hC.1 hC.2.1 h1 hne k
  case irem =>
    obtain ⟨x, y, r, rfl, hne, H⟩ := zII_of H
    refine az_pure (fun hC _ _ hl _ k => ?_) H
    obtain ⟨h1, h2⟩ := hd
    obtain rfl : len = 1 := azLen_beq h2
    exact lv_irem hC.1 hC.2.1 h1 hne k
  case ladd =>
    obtain ⟨x, y, r, rfl, H⟩ := zLL_of H
    refine az_pure (fun hC _ _ hl _ k => ?_) H
    obtain ⟨h1, h2⟩ := hd
    obtain rfl : len = 1 := azLen_beq h2
    exact lv_ladd hC.1 hC.2.1 h1 k
  case lsub =>
    obtain ⟨x, y, r, rfl, H⟩ := zLL_of H
    refine az_pure (fun hC _ _ hl _ k => ?_) H
    obtain ⟨h1, h2⟩ := hd
    obtain rfl : len = 1 := azLen_beq h2
    exact lv_lsub hC.1 hC.2.1 h1 k
  case lmul =>
    obtain ⟨x, y, r, rfl, H⟩ := zLL_of H
    refine az_pure (fun hC _ _ hl _ k => ?_) H
    obtain ⟨h1, h2⟩ := hd
    obtain rfl : len = 1 := azLen_beq h2
    exact lv_lmul hC.1 hC.2.1 h1 k
  case ldiv =>
    obtain ⟨x, y, r, rfl, hne, H⟩ := zLL_of H
    refine az_pure (fun hC _ _ hl _ k => ?_) H
    obtain ⟨h1, h2⟩ := hd
    obtain rfl : len = 1 := azLen_beq h2
    exact lv_ldiv hC.1 hC.2.1 h1 hne k
  case lrem =>
    obtain ⟨x, y, r, rfl, hne, H⟩ := zLL_of H
    refine az_pure (fun hC _ _ hl _ k => ?_) H
    obtain ⟨h1, h2⟩ := hd
    obtain rfl : len = 1 := azLen_beq h2
    exact lv_lrem hC.1 hC.2.1 h1 hne k
  case lneg =>
    obtain ⟨x, r, rfl, H⟩ := zL_of H
    refine az_pure (fun hC _ _ hl _ k => ?_) H
    obtain ⟨h1, h2⟩ := hd
    obtain rfl : len = 1 := azLen_beq h2
    exact lv_lneg hC.1 hC.2.1 h1 k
  case lcmp =>
    obtain ⟨x, y, r, rfl, H⟩ := zLL_of H
    refine az_pure (fun hC _ _ hl _ k => ?_) H
    obtain ⟨h1, h2⟩ := hd
    obtain rfl : len = 1 := azLen_beq h2
    exact W.lcmp hC.1 hC.2.1 h1 k
  case i2l =>
    obtain ⟨x, r, rfl, H⟩ := zI_of H
    refine az_pure (fun hC _ _ hl _ k => ?_) H
    obtain ⟨h1, h2⟩ := hd
    obtain rfl : len = 1 := azLen_beq h2
    exact lv_i2l hC.1 hC.2.1 h1 rfl k
  case i2c =>
    obtain ⟨x, r, rfl, H⟩ := zI_of H
    refine az_pure (fun hC _ _ hl _ k => ?_) H
    obtain ⟨h1, h2⟩ := hd
    obtain rfl : len = 1 := azLen_beq h2
    exact lv_i2c hC.1 hC.2.1 h1 rfl k
  case l2i =>
    obtain ⟨x, r, rfl, H⟩ := zL_of H
    refine az_pure (fun hC _ _ hl _ k => ?_) H
    obtain ⟨h1, h2⟩ := hd
    obtain rfl : len = 1 := azLen_beq h2
    exact lv_l2i hC.1 hC.2.1 h1 rfl k
  case dup =>
    obtain ⟨v, r, rfl, H⟩ := zV_of H
    obtain ⟨hv, H⟩ := zG_of H
    refine az_pure (fun hC _ _ hl _ k => ?_) H
    obtain ⟨h1, h2⟩ := hd
    obtain rfl : len = 1 := azLen_beq h2
    exact lv_dup hC.1 hC.2.1 h1 (azIs2_1 hv) k
  case dup2 =>
    obtain ⟨v, w, r, rfl, H⟩ := zVV_of H
    obtain ⟨hv, H⟩ := zG_of H
    rw [Bool.and_eq_true] at hv
    refine az_pure (fun hC _ _ hl _ k => ?_) H
    obtain ⟨h1, h2⟩ := hd
    obtain rfl : len = 1 := azLen_beq h2
    exact lv_dup2_11 hC.1 hC.2.1 h1 (azIs2_1 hv.1) (azIs2_1 hv.2) k
  case pop =>
    obtain ⟨v, r, rfl, H⟩ := zV_of H
    obtain ⟨hv, H⟩ := zG_of H
    refine az_pure (fun hC _ _ hl _ k => ?_) H
    obtain ⟨h1, h2⟩ := hd
    obtain rfl : len = 1 := azLen_beq h2
    exact lv_pop hC.1 hC.2.1 h1 (azIs2_1 hv) k
  case if_icmp cn o =>
    obtain ⟨x, y, r, rfl, H⟩ := zII_of H
    obtain ⟨t, ht, H⟩ := zOf_of H
    cases cn
    case eq =>
      by_cases hc : azCmp .eq x y
      · refine az_pure (fun hC _ _ hl _ k => ?_) (H.1 hc)
        obtain ⟨h1, h2⟩ := hd
        obtain rfl : len = 3 := azLen_beq h2
        exact lv_icmp_eq (tgt := t) hC.1 hC.2.1 h1 (azT0_of ht) (fun _ => k) (fun z => absurd hc z)
      · refine az_pure (fun hC _ _ hl _ k => ?_) (H.2 hc)
        obtain ⟨h1, h2⟩ := hd
        obtain rfl : len = 3 := azLen_beq h2
        exact lv_icmp_eq (tgt := t) hC.1 hC.2.1 h1 (azT0_of ht) (fun z => absurd z hc) (fun _ => k)
    case ne =>
      by_cases hc : azCmp .ne x y
      · refine az_pure (fun hC _ _ hl _ k => ?_) (H.1 hc)
        obtain ⟨h1, h2⟩ := hd
        obtain rfl : len = 3 := azLen_beq h2
        exact lv_icmp_ne (tgt := t) hC.1 hC.2.1 h1 (azT0_of ht) (fun _ => k) (fun z => absurd z hc)
      · refine az_pure (fun hC _ _ hl _ k => ?_) (H.2 hc)
        obtain ⟨h1, h2⟩ := hd
        obtain rfl : len = 3 := azLen_beq h2
        exact lv_icmp_ne (tgt := t) hC.1 hC.2.1 h1 (azT0_of ht) (fun z => absurd z hc) (fun _ => k)
    case lt =>
      by_cases hc : azCmp .lt x y
      · refine az_pure (fun hC _ _ hl _ k => ?_) (H.1 hc)
        obtain ⟨h1, h2⟩ := hd
        obtain rfl : len = 3 := azLen_beq h2
        exact lv_icmp_lt (tgt := t) hC.1 hC.2.1 h1 (azT0_of ht) (fun _ => k) (fun z => absurd hc z)
      · refine az_pure (fun hC _ _ hl _ k => ?_) (H.2 hc)
        obtain ⟨h1, h2⟩ := hd
        obtain rfl : len = 3 := azLen_beq h2
        exact lv_icmp_lt (tgt := t) hC.1 hC.2.1 h1 (azT0_of ht) (fun z => absurd z hc) (fun _ => k)
    case ge =>
      by_cases hc : azCmp .ge x y
      · refine az_pure (fun hC _ _ hl _ k => ?_) (H.1 hc)
        obtain ⟨h1, h2⟩ := hd
        obtain rfl : len = 3 := azLen_beq h2
        exact lv_icmp_ge (tgt := t) hC.1 hC.2.1 h1 (azT0_of ht) (fun _ => k) (fun z => absurd hc z)
      · refine az_pure (fun hC _ _ hl _ k => ?_) (H.2 hc)
        obtain ⟨h1, h2⟩ := hd
        obtain rfl : len = 3 := azLen_beq h2
        exact lv_icmp_ge (tgt := t) hC.1 hC.2.1 h1 (azT0_of ht) (fun z => absurd z hc) (fun _ => k)
    case gt =>
      by_cases hc : azCmp .gt x y
      · refine az_pure (fun hC _ _ hl _ k => ?_) (H.1 hc)
        obtain ⟨h1, h2⟩ := hd
        obtain rfl : len = 3 := azLen_beq h2
        exact lv_icmp_gt (tgt := t) hC.1 hC.2.1 h1 (azT0_of ht) (fun _ => k) (fun z => absurd hc z)
      · refine az_pure (fun hC _ _ hl _ k => ?_) (H.2 hc)
        obtain ⟨h1, h2⟩ := hd
        obtain rfl : len = 3 := azLen_beq h2
        exact lv_icmp_gt (tgt := t) hC.1 hC.2.1 h1 (azT0_of ht) (fun z => absurd z hc) (fun _ => k)
    case le =>
      by_cases hc : azCmp .le x y
      · refine az_pure (fun hC _ _ hl _ k => ?_) (H.1 hc)
        obtain ⟨h1, h2⟩ := hd
        obtain rfl : len = 3 := azLen_beq h2
        exact lv_icmp_le (tgt := t) hC.1 hC.2.1 h1 (azT0_of ht) (fun _ => k) (fun z => absurd hc z)
      · refine az_pure (fun hC _ _ hl _ k => ?_) (H.2 hc)
        obtain ⟨h1, h2⟩ := hd
        obtain rfl : len = 3 := azLen_beq h2
        exact lv_icmp_le (tgt := t) hC.1 hC.2.1 h1 (azT0_of ht) (fun z => absurd z hc) (fun _ => k)
  case ifCond cn o =>
    obtain ⟨x, r, rfl, H⟩ := zI_of H
    obtain ⟨t, ht, H⟩ := zOf_of H
    cases cn
    case eq =>
      by_cases hc : azCmp .eq x 0
      · refine az_pure (fun hC _ _ hl _ k => ?_) (H.1 hc)
        obtain ⟨h1, h2⟩ := hd
        obtain rfl : len = 3 := azLen_beq h2
        exact lv_if_eq (tgt := t) hC.1 hC.2.1 h1 (azT0_of ht) (fun _ => k) (fun z => absurd hc z)
      · refine az_pure (fun hC _ _ hl _ k => ?_) (H.2 hc)
        obtain ⟨h1, h2⟩ := hd
        obtain rfl : len = 3 := azLen_beq h2
        exact lv_if_eq (tgt := t) hC.1 hC.2.1 h1 (azT0_of ht) (fun z => absurd z hc) (fun _ => k)
    case ne =>
      by_cases hc : azCmp .ne x 0
      · refine az_pure (fun hC _ _ hl _ k => ?_) (H.1 hc)
        obtain ⟨h1, h2⟩ := hd
        obtain rfl : len = 3 := azLen_beq h2
        exact lv_if_ne (tgt := t) hC.1 hC.2.1 h1 (azT0_of ht) (fun _ => k) (fun z => absurd z hc)
      · refine az_pure (fun hC _ _ hl _ k => ?_) (H.2 hc)
        obtain ⟨h1, h2⟩ := hd
        obtain rfl : len = 3 := azLen_beq h2
        exact lv_if_ne (tgt := t) hC.1 hC.2.1 h1 (azT0_of ht) (fun z => absurd z hc) (fun _ => k)
    case lt =>
      by_cases hc : azCmp .lt x 0
      · refine az_pure (fun hC _ _ hl _ k => ?_) (H.1 hc)
        obtain ⟨h1, h2⟩ := hd
        obtain rfl : len = 3 := azLen_beq h2
        exact lv_if_lt (tgt := t) hC.1 hC.2.1 h1 (azT0_of ht) (fun _ => k) (fun z => absurd hc z)
      · refine az_pure (fun hC _ _ hl _ k => ?_) (H.2 hc)
        obtain ⟨h1, h2⟩ := hd
        obtain rfl : len = 3 := azLen_beq h2
        exact lv_if_lt (tgt := t) hC.1 hC.2.1 h1 (azT0_of ht) (fun z => absurd z hc) (fun _ => k)
    case ge =>
      by_cases hc : azCmp .ge x 0
      · refine az_pure (fun hC _ _ hl _ k => ?_) (H.1 hc)
        obtain ⟨h1, h2⟩ := hd
        obtain rfl : len = 3 := azLen_beq h2
        exact lv_if_ge (tgt := t) hC.1 hC.2.1 h1 (azT0_of ht) (fun _ => k) (fun z => absurd hc z)
      · refine az_pure (fun hC _ _ hl _ k => ?_) (H.2 hc)
        obtain ⟨h1, h2⟩ := hd
        obtain rfl : len = 3 := azLen_beq h2
        exact lv_if_ge (tgt := t) hC.1 hC.2.1 h1 (azT0_of ht) (fun z => absurd z hc) (fun _ => k)
    case gt =>
      by_cases hc : azCmp .gt x 0
      · refine az_pure (fun hC _ _ hl _ k => ?_) (H.1 hc)
        obtain ⟨h1, h2⟩ := hd
        obtain rfl : len = 3 := azLen_beq h2
        exact lv_if_gt (tgt := t) hC.1 hC.2.1 h1 (azT0_of ht) (fun _ => k) (fun z => absurd hc z)
      · refine az_pure (fun hC _ _ hl _ k => ?_) (H.2 hc)
        obtain ⟨h1, h2⟩ := hd
        obtain rfl : len = 3 := azLen_beq h2
        exact lv_if_gt (tgt := t) hC.1 hC.2.1 h1 (azT0_of ht) (fun z => absurd z hc) (fun _ => k)
    case le =>
      by_cases hc : azCmp .le x 0
      · refine az_pure (fun hC _ _ hl _ k => ?_) (H.1 hc)
        obtain ⟨h1, h2⟩ := hd
        obtain rfl : len = 3 := azLen_beq h2
        exact lv_if_le (tgt := t) hC.1 hC.2.1 h1 (azT0_of ht) (fun _ => k) (fun z => absurd hc z)
      · refine az_pure (fun hC _ _ hl _ k => ?_) (H.2 hc)
        obtain ⟨h1, h2⟩ := hd
        obtain rfl : len = 3 := azLen_beq h2
        exact lv_if_le (tgt := t) hC.1 hC.2.1 h1 (azT0_of ht) (fun z => absurd z hc) (fun _ => k)
  case ifnull o =>
    obtain ⟨x, r, rfl, H⟩ | ⟨r, rfl, H⟩ := zO_of H
    · refine az_pure (fun hC _ _ hl _ k => ?_) H
      obtain ⟨h1, h2⟩ := hd
      obtain rfl : len = 3 := azLen_beq h2
      exact lv_ifnull hC.1 hC.2.1 h1 k
    · obtain ⟨t, ht, H⟩ := zOf_of H
      refine az_pure (fun hC _ _ hl _ k => ?_) H
      obtain ⟨h1, h2⟩ := hd
      obtain rfl : len = 3 := azLen_beq h2
      exact lv_ifnullN hC.1 hC.2.1 h1 (azT0_of ht) k
  case ifnonnull o =>
    obtain ⟨x, r, rfl, H⟩ | ⟨r, rfl, H⟩ := zO_of H
    · obtain ⟨t, ht, H⟩ := zOf_of H
      refine az_pure (fun hC _ _ hl _ k => ?_) H
      obtain ⟨h1, h2⟩ := hd
      obtain rfl : len = 3 := azLen_beq h2
      exact lv_ifnonnull hC.1 hC.2.1 h1 (azT0_of ht) k
    · refine az_pure (fun hC _ _ hl _ k => ?_) H
      obtain ⟨h1, h2⟩ := hd
      obtain rfl : len = 3 := azLen_beq h2
      exact lv_ifnonnullN hC.1 hC.2.1 h1 k
  case goto o =>
    obtain ⟨t, ht, H⟩ := zOf_of H
    refine az_pure (fun hC _ _ hl _ k => ?_) H
    obtain ⟨h1, h2⟩ := hd
    obtain rfl : len = 3 := azLen_beq h2
    exact lv_goto hC.1 hC.2.1 h1 (azT0_of ht) k
  case tableswitch df lo hj os =>
    obtain ⟨x, r, rfl, H⟩ := zI_of H
    by_cases out : x.toInt < lo ∨ hj < x.toInt
    · obtain ⟨t, ht, H⟩ := zOf_of (H.1 out)
      refine az_pure (fun hC _ _ hl _ k => ?_) H
      obtain ⟨h1, h2⟩ := hd
      exact lv_tableOut hC.1 hC.2.1 h1 out (azT0_of ht) k
    · by_cases hsz : os.size = (hj - lo + 1).toNat
      · have hk : (x.toInt - lo).toNat < os.size := by rw [hsz]; omega
        have ho : os[(x.toInt - lo).toNat]? = some os[(x.toInt - lo).toNat] := Array.getElem?_eq_getElem hk
        obtain ⟨t, ht, H⟩ := zOf_of (zSw_of os.toList lo (x.toInt - lo).toNat _ H.2 (by rw [Array.getElem?_toList]; exact ho) (by omega))
        refine az_pure (fun hC _ _ hl _ k => ?_) H
        obtain ⟨h1, h2⟩ := hd
        exact lv_tableIn hC.1 hC.2.1 h1 (fun z => out (Or.inl z)) (fun z => out (Or.inr z)) ho (azT0_of ht) k
      · exact absurd (of_decide_eq_true hd.2) hsz
  case lookupswitch df ps =>
    obtain ⟨x, r, rfl, H⟩ := zI_of H
    obtain ⟨t, ht, H⟩ := zOf_of (zLs_of _ H)
    refine az_pure (fun hC _ _ hl _ k => ?_) H
    obtain ⟨h1, h2⟩ := hd
    exact lv_lookup hC.1 hC.2.1 h1 h2 rfl (azT0_of ht) k
  all_goals cases hi
