/-! SPECS: Tape.read. -/
section S6
variable {R : azP} {D d n z : Nat} {kd : azK} {I : azI} {J : azJ} {F : azR} {Q : azQ} {a r : Nat} {t : List Nat} {cs : List Cls} {i : Nat} {I0 : azI} {σ : azS}
/-- the state in which a new Rule's constructor begins -/
def rd0 (σ : azS) (a : Nat) : azS := azNew (azSI (azSI σ a 2 (nI 0)) a 4 (nI 0)) 5 14
theorem C6_read (hR : azClosed R) (hk : (σ.1.2.2 a).1 = 6) (ha : a < σ.1.1) (h : ∀ σ1, uA (rd0 σ a) σ.1.1 arRule σ1 → R (d + 2) mX6_read 23 [.ref a, .int (nI 0)] [] (azSR σ1 a 5 (some σ.1.1)) Q) : R (d + 2) mX6_read 0 [.ref a, .retAddr 0] [] σ Q := by
  refine hR.go [23] 20 ?_
  conv => whnf
  refine ⟨hk, ?_⟩
  conv => whnf
  refine ⟨hk, ?_⟩
  conv => whnf
  refine S_newRule (a := σ.1.1) (σ0 := rd0 σ a) hR rfl ?_ fun σ1 u => ?_
  · show (if σ.1.1 = σ.1.1 then (5, 14) else σ.1.2.2 _ : Nat × Nat).1 = 5
    rw [if_pos rfl]
  · have e : (σ1.1.2.2 a).1 = 6 := by
      have := (u.2.2.2.2.2 a (Or.inl ha)).1
      rw [this]
      show (if a = σ.1.1 then _ else σ.1.2.2 a).1 = 6
      rw [if_neg (by omega)]
      exact hk
    conv => whnf
    refine ⟨rfl, ?_⟩
    conv => whnf
    refine ⟨e, ?_⟩
    exact h σ1 u
theorem uA_rule {σ1 : azS} (u : uA (rd0 σ a) r arRule σ1) (hr : σ.1.1 = r) (har : a < r) : RuOk σ1.1.2.2 σ1.2.2.2 r ∧ cR σ1.2.1 r [] [] := by
  obtain ⟨u1, u2, u3, u4, u5, u6⟩ := u
  have k0 : (σ1.1.2.2 r).1 = 5 := by
    rw [u3]
    show (if r = σ.1.1 then (5, 14) else σ.1.2.2 r : Nat × Nat).1 = 5
    rw [if_pos hr.symm]
  have i0 : ∀ j, σ1.2.1 r j = nI 0 := by
    intro j
    rw [u4]
    show (if r = σ.1.1 then _ else _) = _
    rw [if_pos hr.symm, nI_0]
  refine ⟨⟨k0, (u5 0 _ rfl).1, (u5 1 _ rfl).1, (u5 2 _ rfl).1, (u5 3 _ rfl).1, (u5 4 _ rfl).1, (u5 5 _ rfl).1, (u5 6 _ rfl).1, (u5 7 _ rfl).1, (u5 0 _ rfl).2.2.2.2, (u5 1 _ rfl).2.2.2.2, (u5 2 _ rfl).2.2.2.2, (u5 3 _ rfl).2.2.2.2, (u5 4 _ rfl).2.2.2.2, (u5 5 _ rfl).2.2.2.2, (u5 6 _ rfl).2.2.2.2, (u5 7 _ rfl).2.2.2.2⟩, i0 0, i0 1, i0 2, i0 3, i0 4, i0 5, ?_, ?_, ?_, ?_, ?_, ?_, ?_, ?_⟩
  all_goals exact fun i hi => absurd hi (Nat.not_lt_zero i)
/-- read: of the memory it keeps all but the tape's own fields and the new rule's cells -/
theorem S_read (hR : azClosed R) (ht : tOK t) (k0 : (kd a).1 = 6) (k1 : kd (a + 1) = (10, 80)) (f0 : F a 0 = some (a + 1)) (ha : a + 1 < n) (hn : n + 8 < azB) (hX : TxOk kd I) (e1 : I a 1 = nI t.length) (eb : lst (I (a + 1)) (t.map nI))
    (h : ∀ kd' J' F', RuOk kd' F' n → (∀ b, b < n ∨ n + 9 ≤ b → kd' b = kd b ∧ J' b = J b ∧ (b ≠ a → F' b = F b)) → (∀ s, s ≠ 5 → F' a s = F a s) → rulePost I a n t (fun I' => ((n + 9, z + 160, kd'), I', J', F')) Q (pRule t)) :
    R (d + 16) mX6_read 0 [.ref a, .retAddr 0] [] ((n, z, kd), I, J, F) Q := by
  refine C6_read hR k0 (by show a < n; omega) fun σ1 u => ?_
  obtain ⟨hr, hc⟩ := uA_rule (r := n) u rfl (by omega)
  obtain ⟨u1, u2, u3, u4, u5, u6⟩ := u
  obtain ⟨⟨n1, z1, kd1⟩, I1, J1, F1⟩ := σ1
  obtain rfl : n1 = n + 9 := u1
  obtain rfl : z1 = z + 160 := by
    refine Eq.trans u2 ?_
    show z + 14 + _ = z + 160
    simp [arRule]
  -- what the cells are now
  have fr : ∀ b, b < n ∨ n + 9 ≤ b → kd1 b = kd b ∧ I1 b = (azUp (azUp I a 2 (nI 0)) a 4 (nI 0)) b ∧ J1 b = J b ∧ F1 b = F b := by
    intro b hb
    have hb' : b ≠ n := by omega
    obtain ⟨w1, w2, w3, w4⟩ := u6 b hb
    refine ⟨w1.trans ?_, w2.trans ?_, w3.trans ?_, w4.trans ?_⟩
    · show (if b = n then _ else kd b) = _
      rw [if_neg hb']
    · show (fun j => if b = n then _ else (azUp (azUp I a 2 (nI 0)) a 4 (nI 0)) b j) = _
      simp only [if_neg hb']
    · show (fun j => if b = n then _ else J b j) = _
      simp only [if_neg hb']
    · show (fun j => if b = n then _ else F b j) = _
      simp only [if_neg hb']
  have ea := fr a (by omega)
  have ea1 := fr (a + 1) (by omega)
  have hF5 : ∀ b, b ≠ a → azUp F1 a 5 (some n) b = F1 b := fun b hb => by funext j; simp [azUp, hb]
  have hF0 : ∀ s, s ≠ 5 → azUp F1 a 5 (some n) a s = F a s := fun s hs => by
    rw [← ea.2.2.2]
    simp [azUp, hs]
  have hr' : RuOk kd1 (azUp F1 a 5 (some n)) n := by
    unfold RuOk at hr ⊢
    rw [hF5 n (by omega)]
    exact hr
  have hP := h kd1 J1 (azUp F1 a 5 (some n)) hr' (fun b hb => ⟨(fr b hb).1, (fr b hb).2.2.1, fun hba => by rw [hF5 b hba]; exact (fr b hb).2.2.2⟩) hF0
  have hM : TpOk kd1 (azUp F1 a 5 (some n)) a n := ⟨by rw [ea.1]; exact k0, by rw [ea1.1]; exact k1, by rw [hF0 0 (by decide)]; exact f0, by simp [azUp], hr', ha⟩
  have hX1 : TxOk kd1 I := fun j hj => by
    obtain ⟨x1, x2, x3⟩ := hX j hj
    rw [(fr (azB + j) (by omega)).1, (fr (azB + j + 20) (by omega)).1]
    exact ⟨x1, x2, x3⟩
  have h0 : rdOk I a n t (knB []) [] [] 0 I1 := by
    refine ⟨⟨?_, ?_, ?_, ?_⟩, hc, fun b hb1 hb2 => ?_⟩
    · rw [ea.2.1, azUp_nk (by omega), azUp_nk (by omega)]; exact e1
    · rw [ea.2.1, azUp_nk (by omega), azUp_s]
    · rw [ea.2.1, azUp_s]; rfl
    · rw [ea1.2.1, azUp_nb (by omega), azUp_nb (by omega)]; exact eb
    · rw [(fr b (by omega)).2.1, azUp_nb hb1, azUp_nb hb1]
  exact L_read hR hM ht hX1 hn 12 [] I1 0 rfl ⟨by decide, by decide, by decide, by decide, by decide, fun c hc => absurd hc List.not_mem_nil⟩ (Nat.zero_le _) h0 hP
end S6
