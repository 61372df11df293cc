/-! THE CLASS: rule, has. -/
/-- how many bits are set, of so many -/
def pcT (b : Nat) : Nat → Nat
  | 0 => 0
  | p + 1 => pcT b p + if b.testBit p then 1 else 0
def bc1 (x : Int32) : Int32 := x - (((x.toUInt32 >>> ((nI 1).toUInt32 &&& Int32.toUInt32 31)).toInt32) &&& (1431655765 : Int32))
def bc2 (y : Int32) : Int32 := (y &&& (858993459 : Int32)) + (((y.toUInt32 >>> ((nI 2).toUInt32 &&& Int32.toUInt32 31)).toInt32) &&& (858993459 : Int32))
def bc3 (y : Int32) : Int32 := (y + ((y.toUInt32 >>> ((nI 4).toUInt32 &&& Int32.toUInt32 31)).toInt32)) &&& (252645135 : Int32)
def bc4 (y : Int32) : Int32 := y + ((y.toUInt32 >>> ((nI 8).toUInt32 &&& Int32.toUInt32 31)).toInt32)
def bc5 (y : Int32) : Int32 := y + ((y.toUInt32 >>> ((nI 16).toUInt32 &&& Int32.toUInt32 31)).toInt32)
def bcc (x : Int32) : Int32 := bc5 (bc4 (bc3 (bc2 (bc1 x)))) &&& nI 63
theorem bcc_eq : ∀ b, b < 1024 → bcc (nI b) = nI (pcT b 10) := by decide +kernel
theorem S_bitCount {R : azP} (hR : azClosed R) {d : Nat} {Q : azQ} {σ : azS} {b : Nat} (hb : b < 1024) (h : Q (some (.int (nI (pcT b 10)))) σ) : R d mJ6_bitCount_0f7a4 0 [.int (nI b)] [] σ Q := by
  obtain ⟨⟨n, z, kd⟩, I, J, F⟩ := σ
  refine BJ6_bitCount_0f7a4_0 hR ?_
  rw [← bcc_eq b hb] at h
  exact h
section S8
variable {R : azP} {d : Nat} {σ : azS} {Q : azQ} {st : St}
theorem CN.up {n : Nat} {F : azR} (h : CN n F) {p : Nat} {x : Option Nat} (hx : ∀ r, x = some r → r + 9 ≤ n) : CN n (azUp F 10 p x) := ⟨h.1, fun g hg q r hq => by
  by_cases c : g = 10 ∧ q = p
  · obtain ⟨rfl, rfl⟩ := c
    have : azUp F 10 q x 10 q = x := by simp [azUp]
    rw [this] at hq; exact hx r hq
  · have : azUp F 10 p x g q = F g q := by
      unfold azUp
      by_cases c1 : g = 10
      · rw [if_pos c1, if_neg fun c2 => c ⟨c1, c2⟩]
      · rw [if_neg c1]
    rw [this] at hq
    exact h.2 g hg q r hq⟩
theorem cTn.rule {kd : azK} {I I' : azI} {F : azR} (h : cTn kd I F st) {p : Nat} {x : Option Nat} {y : Option (List Nat × List Cls)} (h0 : x = none → y = none) (h1 : ∀ r, x = some r → ∃ t cs, y = some (t, cs) ∧ 255 < r ∧ RuOk kd F r ∧ cR I r cs [] ∧ rlOK cs) (hf : ∀ b, b ≠ 0 → b ≠ 11 → I' b = I b) (h11 : I' 0 11 = nI 0) (h10 : I' 0 10 = I 0 10) {t : List Nat} (ht : I' 11 1 = nI t.length) (hb : lst (I' 12) (t.map nI)) : cTn kd I' (azUp F 10 p x) (st.1, rUp st.2.1 p y, t, st.2.2.2) := by
  obtain ⟨a1, a2, a3, a4, a5, a6, a7⟩ := h
  have eF : ∀ b, b ≠ 10 → azUp F 10 p x b = F b := fun b hb => by funext j; simp [azUp, hb]
  refine ⟨a1.keep (hf 2 (by omega) (by omega)) (hf 3 (by omega) (by omega)), ?_, ⟨ht, hb⟩, a4.keep (hf 22 (by omega) (by omega)) (hf 23 (by omega) (by omega)), by rw [h10]; exact a5, Or.inl h11, ?_⟩
  · have := (a2.up (by omega) (p := p) (x := x) (y := y.map Prod.snd) (fun e => by rw [h0 e]; rfl) (fun r e => by
      obtain ⟨t, cs, w1, w2⟩ := h1 r e
      exact ⟨cs, by rw [w1]; rfl, w2⟩)).keep (I' := I') fun b hb => hf b (by omega) (by omega)
    rw [rsOf_up]
    exact this
  · refine cIm.keep (I := I) ⟨a7.1, a7.2.1, fun m ru w e => ?_⟩ fun b hb => hf b (by omega) (by omega)
    obtain ⟨b1, b2, b3, b4⟩ := a7.2.2 m ru w e
    exact ⟨b1, b2, b3.oth fun b hb => eF b (by omega), b4⟩
theorem S_tnRule (hR : azClosed R) (hW : CW σ st) (hB : σ.1.1 + 8 < azB) {x : Int32} (h : ∀ σ', CW σ' (aRule st x).2 → clF σ σ' → Q (some (.int (aRule st x).1)) σ') : R (d + 17) mX8_rule 0 [.ref 0, .int x, .retAddr 0] [] σ Q := by
  obtain ⟨⟨n, z, kd⟩, I, J, F⟩ := σ
  have hW' := hW
  obtain ⟨hT, hC, hX, hn, hS⟩ := hW
  have hT : TnOk kd F := hT
  have hC : cTn kd I F st := hC
  have hn : CN n F := hn
  have hX : TxOk kd I := hX
  have hB : n + 8 < azB := hB
  have aB : azB = 1000000 := rfl
  have h247 := hn.1
  obtain ⟨⟨k0, f0, f1, f2, f3, f4, f5, f6, f7, f8, f9⟩, ⟨m1, m2, m3⟩, ⟨t1, t2, t3⟩, p1, p2, p3, p4, p5⟩ := id hT
  obtain ⟨a1, a2, a3, a4, a5, a6, a7⟩ := id hC
  refine BX8_rule_0 hR (S_isPart hR ?_)
  unfold isP
  unfold aRule at h
  rcases ix_cases x (n := 10) (by decide) with ⟨e, c⟩ | ⟨p, hp, rfl, e⟩
  · rw [e] at h ⊢
    simp (disch := omega) only [nI_ad, nI_ml, nI_lti, nI_lei, nI_eqi, nI_nn, nI_0le, nI_eq0, nI_0lt, nI_le0, nI_clamp, nI_pd, nI_sb, zOf_some, zOp_some, zOp_none, kI_int, kL_long, kO_ref, kO_null, nlt_T, nlt_F, nle_T, nle_F, neq_F, vpT, azUp_at, if_true, if_false, true_and, and_true, true_implies, false_implies, implies_true, not_true_eq_false, not_false_eq_true, true_or, or_true, false_or, or_false, and_false, false_and, eq_self, n01_0, n01_1, nm1_0]
    exact h _ hW' (clF_I (fun _ _ => rfl) fun _ _ => rfl)
  rw [e] at h ⊢
  dsimp only at h
  simp (disch := omega) only [nI_ad, nI_ml, nI_lti, nI_lei, nI_eqi, nI_nn, nI_0le, nI_eq0, nI_0lt, nI_le0, nI_clamp, nI_pd, nI_sb, zOf_some, zOp_some, zOp_none, kI_int, kL_long, kO_ref, kO_null, nlt_T, nlt_F, nle_T, nle_F, neq_F, vpT, azUp_at, if_true, if_false, true_and, and_true, true_implies, false_implies, implies_true, not_true_eq_false, not_false_eq_true, true_or, or_true, false_or, or_false, and_false, false_and, eq_self, n01_0, n01_1, nm1_0, k0, f4, t1]
  refine S_read hR hS.2.2.1 t1 t2 t3 (by omega) hB hX a3.1 a3.2 fun kd' J' F' r1 r2 r3 => ?_
  have hk : ∀ b, b < n → kd' b = kd b := fun b hb => (r2 b (Or.inl hb)).1
  have hF : ∀ b, b ≠ 11 → b < n → F' b = F b := fun b hb hb2 => (r2 b (Or.inl hb2)).2.2 hb
  have hT' : TnOk kd' F' := hT.keep (fun b hb => hk b (by omega)) (fun b hb _ b2 _ => hF b b2 (by omega)) (r3 0 (by omega))
  obtain ⟨⟨k0', f0', f1', f2', f3', f4', f5', f6', f7', f8', f9'⟩, ⟨m1', m2', m3'⟩, ⟨t1', t2', t3'⟩, _⟩ := id hT'
  have kg' : kd' 10 = (14, 10) := by rw [hk 10 (by omega)]; exact a2.1
  have hX' : ∀ I', (∀ b, 1000000 ≤ b → I' b = I b) → TxOk kd' I' := fun I' hI => by
    have hx := hX.keep (I' := I') hI
    exact fun j hj => ⟨by rw [(r2 _ (by omega)).1]; exact (hx j hj).1, by rw [(r2 _ (by omega)).1]; exact (hx j hj).2.1, (hx j hj).2.2⟩
  cases hp2 : pRule st.2.2.1 with
  | error e =>
    rw [hp2] at h
    dsimp only at h
    intro I1 h1
    obtain ⟨g1, g2, g3⟩ := h1
    have hI : ∀ b, b ≠ 11 → b < n → I1 b = I b := fun b hb hb2 => g3 b hb (Or.inl hb2)
    obtain ⟨c1, c2⟩ := cTn.far (n' := n + 9) hS hC hn hk hI hF (by rw [g1]; exact a3.1.symm) (by omega)
    simp (disch := omega) only [nI_ad, nI_ml, nI_lti, nI_lei, nI_eqi, nI_nn, nI_0le, nI_eq0, nI_0lt, nI_le0, nI_clamp, nI_pd, nI_sb, zOf_some, zOp_some, zOp_none, kI_int, kL_long, kO_ref, kO_null, nlt_T, nlt_F, nle_T, nle_F, neq_F, vpT, azUp_at, if_true, if_false, true_and, and_true, true_implies, false_implies, implies_true, not_true_eq_false, not_false_eq_true, true_or, or_true, false_or, or_false, and_false, false_and, eq_self, n01_0, n01_1, nm1_0, k0', f4', t1']
    refine S_tapeWipe hR t1' ⟨rfl, ?_⟩
    have gg : ∀ b, b ≠ 11 → azUp I1 11 1 (nI 0) b = I1 b := fun b hb => azUp_nb hb
    have e3 : azUp I1 11 1 (nI 0) 11 3 = nI e := by rw [azUp_nk (by omega)]; exact g2
    simp (disch := omega) only [nI_ad, nI_ml, nI_lti, nI_lei, nI_eqi, nI_nn, nI_0le, nI_eq0, nI_0lt, nI_le0, nI_clamp, nI_pd, nI_sb, zOf_some, zOp_some, zOp_none, kI_int, kL_long, kO_ref, kO_null, nlt_T, nlt_F, nle_T, nle_F, neq_F, vpT, azUp_at, if_true, if_false, true_and, and_true, true_implies, false_implies, implies_true, not_true_eq_false, not_false_eq_true, true_or, or_true, false_or, or_false, and_false, false_and, eq_self, n01_0, n01_1, nm1_0, k0', f4', t1']
    rw [g2]
    refine h _ (CW.mk hT' (c1.tape (fun b hb _ => gg b hb) azUp_s (fun i hi => absurd hi (Nat.not_lt_zero _))) (hX' _ fun b hb => by rw [gg b (by omega), g3 b (by omega) (by omega)]) c2 ⟨hS.1, hS.2.1, ⟨Nat.zero_le _, fun y hy => absurd hy List.not_mem_nil⟩, hS.2.2.2⟩) ⟨by show n ≤ n + 9; omega, by show n + 9 ≤ n + 9; omega, by show z + 160 ≤ z + 160; omega, fun b hb1 hb2 => ⟨(r2 b ?_).1, ?_, (r2 b ?_).2.1, (r2 b ?_).2.2 (by omega)⟩⟩
    · show b < n ∨ n + 9 ≤ b
      have : b < n ∨ azB ≤ b := hb2
      omega
    · have : b < n ∨ azB ≤ b := hb2
      show azUp I1 11 1 (nI 0) b = I b
      rw [gg b (by omega), g3 b (by omega) (by omega)]
    · have : b < n ∨ azB ≤ b := hb2
      omega
    · have : b < n ∨ azB ≤ b := hb2
      omega
  | ok cs =>
    rw [hp2] at h
    dsimp only at h
    intro I1 g0 g1 g3
    have hI : ∀ b, b ≠ 11 → b < n → I1 b = I b := fun b hb hb2 => g3 b hb (Or.inl hb2)
    obtain ⟨c1, c2⟩ := cTn.far (n' := n + 9) hS hC hn hk hI hF (by rw [g1]; exact a3.1.symm) (by omega)
    have hrl : rlOK cs := by
      have := pgQ_rule (t := st.2.2.1) hS.2.2.1.1
      rw [hp2] at this
      exact this
    have ht0 : 0 < st.2.2.1.length := by
      rcases Nat.eq_zero_or_pos st.2.2.1.length with h0 | h0
      · have := List.length_eq_zero_iff.mp h0
        rw [this, pRule_nil] at hp2
        cases hp2
      · exact h0
    have kn5 : (kd' n).1 = 5 := r1.1
    simp (disch := omega) only [nI_ad, nI_ml, nI_lti, nI_lei, nI_eqi, nI_nn, nI_0le, nI_eq0, nI_0lt, nI_le0, nI_clamp, nI_pd, nI_sb, zOf_some, zOp_some, zOp_none, kI_int, kL_long, kO_ref, kO_null, nlt_T, nlt_F, nle_T, nle_F, neq_F, vpT, azUp_at, if_true, if_false, true_and, and_true, true_implies, false_implies, implies_true, not_true_eq_false, not_false_eq_true, true_or, or_true, false_or, or_false, and_false, false_and, eq_self, n01_0, n01_1, nm1_0, k0', f4', t1']
    refine S_tapeWipe hR t1' ⟨rfl, ?_⟩
    simp (disch := omega) only [nI_ad, nI_ml, nI_lti, nI_lei, nI_eqi, nI_nn, nI_0le, nI_eq0, nI_0lt, nI_le0, nI_clamp, nI_pd, nI_sb, zOf_some, zOp_some, zOp_none, kI_int, kL_long, kO_ref, kO_null, nlt_T, nlt_F, nle_T, nle_F, neq_F, vpT, azUp_at, if_true, if_false, true_and, and_true, true_implies, false_implies, implies_true, not_true_eq_false, not_false_eq_true, true_or, or_true, false_or, or_false, and_false, false_and, eq_self, n01_0, n01_1, nm1_0, k0', f3', kg', kn5]
    have gg : ∀ b, b ≠ 0 → b ≠ 11 → azUp (azUp I1 11 1 (nI 0)) 0 11 (nI 0) b = I1 b := fun b hb hb2 => by rw [azUp_nb hb, azUp_nb hb2]
    have eF : ∀ b, b ≠ 10 → azUp F' 10 p (some n) b = F' b := fun b hb => by funext j; simp [azUp, hb]
    rw [g0.1]
    refine h _ (CW.mk (hT'.keep (fun _ _ => rfl) (fun b _ hb _ _ => eF b hb) (by rw [eF 11 (by omega)])) (c1.rule (p := p) (x := some n) (y := some (st.2.2.1, cs)) (fun e => by cases e) (fun r e => ⟨st.2.2.1, cs, rfl, by cases e; exact ⟨by omega, r1, g0, hrl⟩⟩) gg azUp_s ?_ ?_ (fun i hi => absurd hi (Nat.not_lt_zero _))) (hX' _ fun b hb => by rw [gg b (by omega) (by omega), g3 b (by omega) (by omega)]) (c2.up fun r e => by cases e; omega) ⟨hS.1, hS.2.1.up fun t cs' e => by cases e; exact ⟨hS.2.2.1, ht0, hp2⟩, ⟨Nat.zero_le _, fun y hy => absurd hy List.not_mem_nil⟩, hS.2.2.2⟩) ⟨by show n ≤ n + 9; omega, by show n + 9 ≤ n + 9; omega, by show z + 160 ≤ z + 160; omega, fun b hb1 hb2 => ⟨(r2 b ?_).1, ?_, (r2 b ?_).2.1, ?_⟩⟩
    · rw [azUp_nk (by omega), azUp_nb (by omega)]
    · rw [azUp_nb (by omega), azUp_s]; rfl
    · have : b < n ∨ azB ≤ b := hb2
      omega
    · have : b < n ∨ azB ≤ b := hb2
      show azUp (azUp I1 11 1 (nI 0)) 0 11 (nI 0) b = I b
      rw [gg b (by omega) (by omega), g3 b (by omega) (by omega)]
    · have : b < n ∨ azB ≤ b := hb2
      omega
    · have : b < n ∨ azB ≤ b := hb2
      show azUp F' 10 p (some n) b = F b
      rw [eF b (by omega)]
      exact (r2 b (by omega)).2.2 (by omega)
end S8
