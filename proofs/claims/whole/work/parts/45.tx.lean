/-! SPECS: the texts of the class, and of the machine's own library: length, charAt. -/
def TxOk (kd : azK) (I : azI) : Prop := ∀ j, j < 4 → (kd (azB + j)).1 = 16 ∧ kd (azB + j + 20) = (17, (wTx.getD j []).length) ∧ ∀ k, k < (wTx.getD j []).length → I (azB + j + 20) k = nI ((wTx.getD j []).getD k 0)
theorem wTx_lt : ∀ j, j < 4 → (wTx.getD j []).length < 6 ∧ ∀ k, k < (wTx.getD j []).length → (wTx.getD j []).getD k 0 < 128 := by decide
theorem tx_len : ∀ l, l < 6 → nI l >>> (nI 0 &&& 31) = nI l := by decide
set_option maxRecDepth 20000 in
theorem tx_chr : ∀ c, c < 128 → (((nI c &&& nI 255).toUInt32 % 65536).toInt32) = nI c := by decide
set_option maxRecDepth 20000 in
theorem tx_chr2 : ∀ c, c < 128 → (((nI c).toUInt32 % 65536).toInt32) = nI c := by decide
theorem tx_nar {c : Nat} (h : c < 128) : narrow .char (.int (nI c)) = .int (nI c) := by
  have : ∀ x : Int32, narrow .char (.int x) = .int ((x.toUInt32 % 65536).toInt32) := fun x => rfl
  rw [this, tx_chr2 c h]
section SJ
variable {R : azP} {d n z : Nat} {kd : azK} {I : azI} {J : azJ} {F : azR} {Q : azQ} {j k : Nat}
theorem S_check (hR : azClosed R) {l : Nat} (hk : k < l) (hl : l < 100) {v : Value} {σ : azS} (hv : v = .null ∨ ∃ a, v = .ref a) (h : Q (some (.int (nI k))) σ) : R d mJ3_checkIndex_8e157 0 [.int (nI k), .int (nI l), v] [] σ Q := by
  obtain ⟨⟨n, z, kd⟩, I, J, F⟩ := σ
  rcases hv with rfl | ⟨a, rfl⟩
  · have hh : ((nI k < 0 → False) ∧ (¬ (nI k < 0) → ((nI k < nI l → Q (some (.int (nI k))) ((n, z, kd), I, J, F)) ∧ (¬ (nI k < nI l) → False)))) := by
      simp (disch := omega) only [nI_ad, nI_ml, nI_lti, nI_lei, nI_eqi, nI_nn, nI_0le, nI_eq0, nI_0lt, nI_le0, nI_clamp, nI_pd, nI_sb, zOf_some, zOp_some, zOp_none, kI_int, kL_long, kO_ref, kO_null, nlt_T, nlt_F, nle_T, nle_F, neq_F, vpT, azUp_at, if_true, if_false, true_and, and_true, true_implies, false_implies, implies_true, not_true_eq_false, not_false_eq_true, true_or, or_true, false_or, or_false, and_false, false_and, eq_self, n01_0, n01_1, nm1_0]
      exact h
    exact hR.go [] 8 hh
  · refine BJ3_checkIndex_8e157_0 hR ?_
    simp (disch := omega) only [nI_ad, nI_ml, nI_lti, nI_lei, nI_eqi, nI_nn, nI_0le, nI_eq0, nI_0lt, nI_le0, nI_clamp, nI_pd, nI_sb, zOf_some, zOp_some, zOp_none, kI_int, kL_long, kO_ref, kO_null, nlt_T, nlt_F, nle_T, nle_F, neq_F, vpT, azUp_at, if_true, if_false, true_and, and_true, true_implies, false_implies, implies_true, not_true_eq_false, not_false_eq_true, true_or, or_true, false_or, or_false, and_false, false_and, eq_self, n01_0, n01_1, nm1_0]
    exact h
theorem S_length (hR : azClosed R) (hX : TxOk kd I) (hj : j < 4) (h : Q (some (.int (nI (wTx.getD j []).length))) ((n, z, kd), I, J, F)) : R (d + 1) mJ0_length_8abf5 0 [.ref (azB + j)] [] ((n, z, kd), I, J, F) Q := by
  obtain ⟨k0, k1, k2⟩ := hX j hj
  have hl := (wTx_lt j hj).1
  refine BJ0_length_8abf5_0 hR ?_
  simp only [k0, k1]
  refine ⟨trivial, Or.inr trivial, trivial, BJ0_coder_7d493_0 hR ?_⟩
  refine ⟨fun h => absurd h (by decide), fun _ => ⟨k0, rfl, ?_⟩⟩
  rw [kI_int, tx_len _ hl]
  exact h
theorem S_charAt (hR : azClosed R) (hX : TxOk kd I) (hj : j < 4) (hk : k < (wTx.getD j []).length) (h : Q (some (.int (nI ((wTx.getD j []).getD k 0)))) ((n, z, kd), I, J, F)) : R (d + 3) mJ0_charAt_5068e 0 [.ref (azB + j), .int (nI k)] [] ((n, z, kd), I, J, F) Q := by
  obtain ⟨k0, k1, k2⟩ := hX j hj
  have hl := (wTx_lt j hj).1
  have hc := (wTx_lt j hj).2 k hk
  refine BJ0_charAt_5068e_0 hR ⟨k0, BJ0_isLatin1_aae02_0 hR ⟨fun h => absurd h (by decide), fun _ => ⟨k0, fun h => absurd h (by decide), fun _ => ⟨Or.inr (by decide), ?_⟩⟩⟩⟩
  refine ⟨fun h => absurd h (by decide), fun _ => ⟨k0, BJ1_charAt_3b067_0 hR ?_⟩⟩
  rw [k1]
  refine ⟨Or.inr rfl, BJ0_checkIndex_df160_0 hR ?_⟩
  have e : Q (some (.int ((((I (azB + j + 20) (nI k).toNatClampNeg) &&& (nI 255)).toUInt32 % 65536).toInt32))) ((n, z, kd), I, J, F) := by
    rw [nI_clamp (by omega), k2 k hk, tx_chr _ hc]
    exact h
  have e2 : narrow .char (.int ((((I (azB + j + 20) (nI k).toNatClampNeg) &&& (nI 255)).toUInt32 % 65536).toInt32)) = .int ((((I (azB + j + 20) (nI k).toNatClampNeg) &&& (nI 255)).toUInt32 % 65536).toInt32) := by
    rw [nI_clamp (by omega), k2 k hk, tx_chr _ hc]
    exact tx_nar hc
  have e3 : vp_in (nI k) (kd (azB + j + 20)).2 := by rw [k1]; exact vp_in_nI hk (by omega)
  have e4 : (kd (azB + j + 20)).1 = 12 ∨ (kd (azB + j + 20)).1 = 17 := by rw [k1]; exact Or.inr rfl
  refine ⟨S_check hR hk (by omega) (Or.inl rfl) ?_, S_check hR hk (by omega) (Or.inr ⟨_, rfl⟩) ?_⟩
  · exact ⟨rfl, e4, e3, e2, e2, e⟩
  · exact ⟨rfl, e4, e3, e2, e2, e⟩
end SJ
