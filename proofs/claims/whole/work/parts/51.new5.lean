/-! SPECS: objects under construction: their rows one by one. -/
/-- an object a whose rows (kind, length, slot) were made behind it -/
def uA (σ0 : azS) (a : Nat) (ar : List (Nat × Nat × Nat)) (σ : azS) : Prop :=
  σ.1.1 = a + 1 + ar.length ∧ σ.1.2.1 = σ0.1.2.1 + (ar.map fun e => e.2.1).sum ∧ σ.1.2.2 a = σ0.1.2.2 a ∧ σ.2.1 a = σ0.2.1 a ∧
  (∀ i e, ar[i]? = some e → σ.1.2.2 (a + 1 + i) = (e.1, e.2.1) ∧ σ.2.1 (a + 1 + i) = (fun _ => 0) ∧ σ.2.2.1 (a + 1 + i) = (fun _ => 0) ∧ σ.2.2.2 (a + 1 + i) = (fun _ => none) ∧ σ.2.2.2 a e.2.2 = some (a + 1 + i)) ∧
  frN a (a + 1 + ar.length) σ0 σ
theorem uA.nil {σ : azS} {a : Nat} (h : σ.1.1 = a + 1) : uA σ a [] σ := ⟨h, rfl, rfl, rfl, fun i e h => by simp at h, fun b _ => ⟨rfl, rfl, rfl, rfl⟩⟩
theorem uA.step {σ0 σ : azS} {a k L s : Nat} {ar : List (Nat × Nat × Nat)} (u : uA σ0 a ar σ) (hs : ∀ e ∈ ar, e.2.2 ≠ s) : uA σ0 a (ar ++ [(k, L, s)]) (azSR (azNew σ k L) a s (some σ.1.1)) := by
  obtain ⟨u1, u2, u3, u4, u5, u6⟩ := u
  have na : a ≠ σ.1.1 := by omega
  refine ⟨?_, ?_, ?_, ?_, ?_, ?_⟩
  · show σ.1.1 + 1 = _
    rw [List.length_append, List.length_cons, List.length_nil]; omega
  · show σ.1.2.1 + L = _
    rw [List.map_append, List.sum_append, u2]; simp; omega
  · show (if a = σ.1.1 then _ else σ.1.2.2 a) = _
    rw [if_neg na]; exact u3
  · show (fun j => if a = σ.1.1 then _ else σ.2.1 a j) = _
    simp only [if_neg na]; exact u4
  · intro i e he
    by_cases hi : i < ar.length
    · rw [List.getElem?_append_left hi] at he
      obtain ⟨v1, v2, v3, v4, v5⟩ := u5 i e he
      have nb : a + 1 + i ≠ σ.1.1 := by omega
      have nb2 : a + 1 + i ≠ a := by omega
      have ns := hs e (List.mem_of_getElem? he)
      refine ⟨?_, ?_, ?_, ?_, ?_⟩
      · show (if a + 1 + i = σ.1.1 then _ else σ.1.2.2 (a + 1 + i)) = _
        rw [if_neg nb]; exact v1
      · show (fun j => if a + 1 + i = σ.1.1 then _ else σ.2.1 (a + 1 + i) j) = _
        simp only [if_neg nb]; exact v2
      · show (fun j => if a + 1 + i = σ.1.1 then _ else σ.2.2.1 (a + 1 + i) j) = _
        simp only [if_neg nb]; exact v3
      · show (fun j => if a + 1 + i = a then _ else if a + 1 + i = σ.1.1 then _ else σ.2.2.2 (a + 1 + i) j) = _
        simp only [if_neg nb, if_neg nb2]; exact v4
      · show (if a = a then (if e.2.2 = s then _ else if a = σ.1.1 then _ else σ.2.2.2 a e.2.2) else _) = _
        rw [if_pos rfl, if_neg ns, if_neg na]; exact v5
    · have hi2 : i = ar.length := by
        have := (List.getElem?_eq_some_iff.mp he).1
        rw [List.length_append, List.length_cons, List.length_nil] at this
        omega
      subst hi2
      rw [List.getElem?_append_right (Nat.le_refl _), Nat.sub_self] at he
      have he : (k, L, s) = e := by simpa using he
      subst he
      have nb2 : a + 1 + ar.length ≠ a := by omega
      rw [← u1]
      rw [← u1] at nb2
      refine ⟨?_, ?_, ?_, ?_, ?_⟩
      · show (if σ.1.1 = σ.1.1 then _ else σ.1.2.2 _) = _
        rw [if_pos rfl]
      · show (fun j => if σ.1.1 = σ.1.1 then _ else σ.2.1 _ j) = _
        simp only [if_true]
      · show (fun j => if σ.1.1 = σ.1.1 then _ else σ.2.2.1 _ j) = _
        simp only [if_true]
      · show (fun j => if σ.1.1 = a then _ else if σ.1.1 = σ.1.1 then _ else σ.2.2.2 _ j) = _
        simp only [if_neg nb2, if_true]
      · show (if a = a then (if s = s then _ else _) else _) = _
        rw [if_pos rfl, if_pos rfl]
  · intro b hb
    rw [List.length_append, List.length_cons, List.length_nil] at hb
    have n1 : b ≠ σ.1.1 := by omega
    have n2 : b ≠ a := by omega
    obtain ⟨w1, w2, w3, w4⟩ := u6 b (by omega)
    refine ⟨?_, ?_, ?_, ?_⟩
    · show (if b = σ.1.1 then _ else σ.1.2.2 b) = _
      rw [if_neg n1]; exact w1
    · show (fun j => if b = σ.1.1 then _ else σ.2.1 b j) = _
      simp only [if_neg n1]; exact w2
    · show (fun j => if b = σ.1.1 then _ else σ.2.2.1 b j) = _
      simp only [if_neg n1]; exact w3
    · show (fun j => if b = a then _ else if b = σ.1.1 then _ else σ.2.2.2 b j) = _
      simp only [if_neg n1, if_neg n2]; exact w4
section SN
variable {R : azP} {D d : Nat} {σ σ0 : azS} {Q : azQ} {a r : Nat}
theorem C5_0 (hR : azClosed R) (h : R (d + 1) mX5_init 4 [.ref a] [] σ Q) : R (d + 1) mX5_init 0 [.ref a] [] σ Q := by
  refine hR.go [4] 5 ?_
  conv => whnf
  exact h
theorem C5_4 (hR : azClosed R) (hn : a ≠ σ.1.1) (hk : (σ.1.2.2 a).1 = 5) (h : R (d + 1) mX5_init 12 [.ref a] [] (azSR (azNew σ 10 12) a 6 (some σ.1.1)) Q) : R (d + 1) mX5_init 4 [.ref a] [] σ Q := by
  refine hR.go [12] 5 ?_
  conv => whnf
  refine ⟨by decide, by decide, ?_⟩
  conv => whnf
  refine ⟨?_, h⟩
  show (if a = σ.1.1 then _ else σ.1.2.2 a).1 = 5
  rw [if_neg hn]
  exact hk
theorem C5_12 (hR : azClosed R) (hn : a ≠ σ.1.1) (hk : (σ.1.2.2 a).1 = 5) (h : R (d + 1) mX5_init 20 [.ref a] [] (azSR (azNew σ 10 12) a 7 (some σ.1.1)) Q) : R (d + 1) mX5_init 12 [.ref a] [] σ Q := by
  refine hR.go [20] 5 ?_
  conv => whnf
  refine ⟨by decide, by decide, ?_⟩
  conv => whnf
  refine ⟨?_, h⟩
  show (if a = σ.1.1 then _ else σ.1.2.2 a).1 = 5
  rw [if_neg hn]
  exact hk
theorem C5_20 (hR : azClosed R) (hn : a ≠ σ.1.1) (hk : (σ.1.2.2 a).1 = 5) (h : R (d + 1) mX5_init 28 [.ref a] [] (azSR (azNew σ 10 12) a 8 (some σ.1.1)) Q) : R (d + 1) mX5_init 20 [.ref a] [] σ Q := by
  refine hR.go [28] 5 ?_
  conv => whnf
  refine ⟨by decide, by decide, ?_⟩
  conv => whnf
  refine ⟨?_, h⟩
  show (if a = σ.1.1 then _ else σ.1.2.2 a).1 = 5
  rw [if_neg hn]
  exact hk
theorem C5_28 (hR : azClosed R) (hn : a ≠ σ.1.1) (hk : (σ.1.2.2 a).1 = 5) (h : R (d + 1) mX5_init 36 [.ref a] [] (azSR (azNew σ 10 12) a 9 (some σ.1.1)) Q) : R (d + 1) mX5_init 28 [.ref a] [] σ Q := by
  refine hR.go [36] 5 ?_
  conv => whnf
  refine ⟨by decide, by decide, ?_⟩
  conv => whnf
  refine ⟨?_, h⟩
  show (if a = σ.1.1 then _ else σ.1.2.2 a).1 = 5
  rw [if_neg hn]
  exact hk
theorem C5_36 (hR : azClosed R) (hn : a ≠ σ.1.1) (hk : (σ.1.2.2 a).1 = 5) (h : R (d + 1) mX5_init 44 [.ref a] [] (azSR (azNew σ 10 12) a 10 (some σ.1.1)) Q) : R (d + 1) mX5_init 36 [.ref a] [] σ Q := by
  refine hR.go [44] 5 ?_
  conv => whnf
  refine ⟨by decide, by decide, ?_⟩
  conv => whnf
  refine ⟨?_, h⟩
  show (if a = σ.1.1 then _ else σ.1.2.2 a).1 = 5
  rw [if_neg hn]
  exact hk
theorem C5_44 (hR : azClosed R) (hn : a ≠ σ.1.1) (hk : (σ.1.2.2 a).1 = 5) (h : R (d + 1) mX5_init 51 [.ref a] [] (azSR (azNew σ 10 3) a 11 (some σ.1.1)) Q) : R (d + 1) mX5_init 44 [.ref a] [] σ Q := by
  refine hR.go [51] 5 ?_
  conv => whnf
  refine ⟨by decide, by decide, ?_⟩
  conv => whnf
  refine ⟨?_, h⟩
  show (if a = σ.1.1 then _ else σ.1.2.2 a).1 = 5
  rw [if_neg hn]
  exact hk
theorem C5_51 (hR : azClosed R) (hn : a ≠ σ.1.1) (hk : (σ.1.2.2 a).1 = 5) (h : R (d + 1) mX5_init 58 [.ref a] [] (azSR (azNew σ 10 3) a 12 (some σ.1.1)) Q) : R (d + 1) mX5_init 51 [.ref a] [] σ Q := by
  refine hR.go [58] 5 ?_
  conv => whnf
  refine ⟨by decide, by decide, ?_⟩
  conv => whnf
  refine ⟨?_, h⟩
  show (if a = σ.1.1 then _ else σ.1.2.2 a).1 = 5
  rw [if_neg hn]
  exact hk
theorem C5_58 (hR : azClosed R) (hn : a ≠ σ.1.1) (hk : (σ.1.2.2 a).1 = 5) (h : R (d + 1) mX5_init 66 [.ref a] [] (azSR (azNew σ 10 80) a 13 (some σ.1.1)) Q) : R (d + 1) mX5_init 58 [.ref a] [] σ Q := by
  refine hR.go [66] 5 ?_
  conv => whnf
  refine ⟨by decide, by decide, ?_⟩
  conv => whnf
  refine ⟨?_, h⟩
  show (if a = σ.1.1 then _ else σ.1.2.2 a).1 = 5
  rw [if_neg hn]
  exact hk
theorem C5_66 (hR : azClosed R) (h : Q none σ) : R (d + 1) mX5_init 66 [.ref a] [] σ Q := by
  refine hR.go [] 3 ?_
  conv => whnf
  exact h
def arRule : List (Nat × Nat × Nat) := [(10, 12, 6), (10, 12, 7), (10, 12, 8), (10, 12, 9), (10, 12, 10), (10, 3, 11), (10, 3, 12), (10, 80, 13)]
theorem S_newRule (hR : azClosed R) (hn : σ0.1.1 = a + 1) (hk : (σ0.1.2.2 a).1 = 5) (h : ∀ σ, uA σ0 a arRule σ → Q none σ) : R (d + 1) mX5_init 0 [.ref a] [] σ0 Q := by
  have g : ∀ {ar : List (Nat × Nat × Nat)} {σ : azS}, uA σ0 a ar σ → a ≠ σ.1.1 ∧ (σ.1.2.2 a).1 = 5 := fun u => ⟨by have := u.1; omega, by rw [u.2.2.1]; exact hk⟩
  have u0 := uA.nil hn
  refine C5_0 hR ?_
  have u1 := u0.step (k := 10) (L := 12) (s := 6) (by decide)
  refine C5_4 hR (g u0).1 (g u0).2 ?_
  generalize azSR (azNew _ 10 12) a 6 _ = σ1 at u1 ⊢
  have u2 := u1.step (k := 10) (L := 12) (s := 7) (by decide)
  refine C5_12 hR (g u1).1 (g u1).2 ?_
  generalize azSR (azNew _ 10 12) a 7 _ = σ2 at u2 ⊢
  have u3 := u2.step (k := 10) (L := 12) (s := 8) (by decide)
  refine C5_20 hR (g u2).1 (g u2).2 ?_
  generalize azSR (azNew _ 10 12) a 8 _ = σ3 at u3 ⊢
  have u4 := u3.step (k := 10) (L := 12) (s := 9) (by decide)
  refine C5_28 hR (g u3).1 (g u3).2 ?_
  generalize azSR (azNew _ 10 12) a 9 _ = σ4 at u4 ⊢
  have u5 := u4.step (k := 10) (L := 12) (s := 10) (by decide)
  refine C5_36 hR (g u4).1 (g u4).2 ?_
  generalize azSR (azNew _ 10 12) a 10 _ = σ5 at u5 ⊢
  have u6 := u5.step (k := 10) (L := 3) (s := 11) (by decide)
  refine C5_44 hR (g u5).1 (g u5).2 ?_
  generalize azSR (azNew _ 10 3) a 11 _ = σ6 at u6 ⊢
  have u7 := u6.step (k := 10) (L := 3) (s := 12) (by decide)
  refine C5_51 hR (g u6).1 (g u6).2 ?_
  generalize azSR (azNew _ 10 3) a 12 _ = σ7 at u7 ⊢
  have u8 := u7.step (k := 10) (L := 80) (s := 13) (by decide)
  refine C5_58 hR (g u7).1 (g u7).2 ?_
  generalize azSR (azNew _ 10 80) a 13 _ = σ8 at u8 ⊢
  exact C5_66 hR (h _ u8)
end SN
