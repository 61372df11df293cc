/-! THE LAW: both worlds. -/
/-- the reference is as it was -/
theorem MdOk.kp {kd kd' : azK} {F F' : azR} (h : MdOk kd F) (hk : ∀ b, 228 ≤ b → b ≤ 255 → kd' b = kd b) (hF : F' 228 = F 228) : MdOk kd' F' := by
  unfold MdOk at h ⊢
  rw [hF, hk 228 (by decide) (by decide), hk 229 (by decide) (by decide), hk 230 (by decide) (by decide), hk 231 (by decide) (by decide), hk 232 (by decide) (by decide), hk 233 (by decide) (by decide), hk 234 (by decide) (by decide), hk 235 (by decide) (by decide), hk 236 (by decide) (by decide), hk 237 (by decide) (by decide), hk 238 (by decide) (by decide), hk 239 (by decide) (by decide), hk 240 (by decide) (by decide), hk 241 (by decide) (by decide), hk 242 (by decide) (by decide), hk 243 (by decide) (by decide), hk 244 (by decide) (by decide), hk 245 (by decide) (by decide), hk 246 (by decide) (by decide), hk 247 (by decide) (by decide), hk 248 (by decide) (by decide), hk 249 (by decide) (by decide), hk 250 (by decide) (by decide), hk 251 (by decide) (by decide), hk 252 (by decide) (by decide), hk 253 (by decide) (by decide), hk 254 (by decide) (by decide), hk 255 (by decide) (by decide)]
  exact h
theorem cMd.kp2 {I I' : azI} {st : St} (h : cMd I st) (hf : ∀ b, 228 ≤ b → b ≤ 255 → I' b = I b) : cMd I' st := by
  unfold cMd at h ⊢
  rw [hf 228 (by decide) (by decide), hf 229 (by decide) (by decide), hf 230 (by decide) (by decide), hf 231 (by decide) (by decide), hf 232 (by decide) (by decide), hf 233 (by decide) (by decide), hf 241 (by decide) (by decide)]
  exact h
theorem cTn.kp2 {kd : azK} {I I' : azI} {F : azR} {st : St} (h : cTn kd I F st) (hs : stOK st) (hf : ∀ b, b < 228 ∨ 255 < b → I' b = I b) : cTn kd I' F st := by
  obtain ⟨h1, h2, h3, h4, h5, h6, h7⟩ := h
  refine ⟨h1.keep (hf 2 (by omega)) (hf 3 (by omega)), h2.keep fun b hb => hf b (by omega), ?_, h4.keep (hf 22 (by omega)) (hf 23 (by omega)), by rw [hf 0 (by omega)]; exact h5, ?_, h7.keep fun b hb => hf b (by omega)⟩
  · rw [hf 11 (by omega), hf 12 (by omega)]; exact h3
  · rw [hf 0 (by omega)]
    rcases h6 with h6 | h6
    · exact Or.inl h6
    · have := wk60_le hs.rl hs.1
      exact Or.inr ⟨h6.1, h6.2.keep this.2.1 fun b b1 b2 => hf b (by omega)⟩
def LW (L : Nat) (xs : Nat → Int32) (σ : azS) (st : St) : Prop := CW σ st ∧ MW σ st ∧ σ.1.2.2 (azB + 10) = (15, L) ∧ σ.2.1 (azB + 10) = xs
/-- the law goes on behind a case -/
def LN (R : azP) (L : Nat) (xs : Nat → Int32) (p : Nat) (Q : azQ) (σ : azS) : Prop := ∀ σ' st', LW L xs σ' st' → σ'.1.1 ≤ σ.1.1 + 9 → σ'.1.2.1 ≤ σ.1.2.1 + 160 → R 200 mL_law 1023 [.ref (azB + 10), .ref 0, .ref 228, .int (nI p)] [] σ' Q
theorem CW.ofMd {σ σ' : azS} {st : St} (h : CW σ st) (hm : mdF σ σ') : CW σ' st := by
  obtain ⟨⟨n, z, kd⟩, I, J, F⟩ := σ
  obtain ⟨⟨n', z', kd'⟩, I', J', F'⟩ := σ'
  obtain ⟨h1, h2, h3, h4, h5⟩ := h
  obtain ⟨m1, m2, m3⟩ := hm
  cases m1
  have m2 : F' = F := m2
  subst m2
  have hB : azB = 1000000 := rfl
  refine ⟨h1, cTn.kp2 h2 h5 fun b hb => (m3 b hb).1, fun j hj => ?_, h4, h5⟩
  obtain ⟨t1, t2, t3⟩ := h3 j hj
  refine ⟨t1, t2, fun k hk => ?_⟩
  have := (m3 (azB + j + 20) (by omega)).1
  show I' (azB + j + 20) k = _
  have this : I' (azB + j + 20) = I (azB + j + 20) := this
  rw [this]
  exact t3 k hk
theorem LW.cl {L : Nat} {xs : Nat → Int32} {σ σ' : azS} {st : St} (h : LW L xs σ st) (hc : clF σ σ') : MW σ' st ∧ σ'.1.2.2 (azB + 10) = (15, L) ∧ σ'.2.1 (azB + 10) = xs := by
  obtain ⟨hC, hM, hk, hx⟩ := h
  obtain ⟨c1, c2, c3, c4⟩ := hc
  have hn : 256 ≤ σ.1.1 := hC.2.2.2.1.1
  have hB : azB = 1000000 := rfl
  obtain ⟨e1, e2, _, _⟩ := c4 (azB + 10) (by omega) (Or.inr (by omega))
  have g : ∀ b, 228 ≤ b → b ≤ 255 → _ := fun b b1 b2 => c4 b b1 (Or.inl (by omega))
  refine ⟨⟨hM.1.kp (fun b b1 b2 => (g b b1 b2).1) (g 228 (by decide) (by decide)).2.2.2, hM.2.1.kp2 fun b b1 b2 => (g b b1 b2).2.1, hM.2.2⟩, by rw [e1]; exact hk, by rw [e2]; exact hx⟩
theorem LW.md {L : Nat} {xs : Nat → Int32} {σ σ' : azS} {st : St} (hC : CW σ st) (hk : σ.1.2.2 (azB + 10) = (15, L)) (hx : σ.2.1 (azB + 10) = xs) (hM : MW σ' st) (hm : mdF σ σ') : LW L xs σ' st := by
  have hB : azB = 1000000 := rfl
  obtain ⟨e1, _⟩ := hm.2.2 (azB + 10) (by omega)
  exact ⟨hC.ofMd hm, hM, by rw [hm.1]; exact hk, by rw [e1]; exact hx⟩
theorem aStuck_eq {st : St} {x v w : Int32} (h1 : aStuck st x v) (h2 : aStuck st x w) : v = w := by
  unfold aStuck at h1 h2
  cases e : jx x 60 with
  | none =>
    rw [e] at h1 h2
    have h1 : v = -(nI 2) := h1
    have h2 : w = -(nI 2) := h2
    rw [h1, h2]
  | some k =>
    rw [e] at h1 h2
    exact isStk_eq h1 h2
