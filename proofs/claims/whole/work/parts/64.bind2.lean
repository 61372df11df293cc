/-! BINDINGS: facts. -/
theorem frB_cong {cs : List Cls} {m : Nat → List Nat} {ch ch' : Nat → Nat} {k i : Nat} (h : ∀ j, j < k → ch j = ch' j) : frB cs m ch k i = frB cs m ch' k i := by
  unfold frB
  rw [Bool.eq_iff_iff, List.all_eq_true, List.all_eq_true]
  have : ∀ j, j < k → fr1 cs m ch k i j = fr1 cs m ch' k i j := fun j hj => by unfold fr1; rw [h j hj]
  exact ⟨fun hh x hx => by rw [← this x (List.mem_range.mp hx)]; exact hh x hx, fun hh x hx => by rw [this x (List.mem_range.mp hx)]; exact hh x hx⟩
/-- conditions speak of known names alone -/
theorem cndB_cong {cs : List Cls} (ho : rlOK cs) {nm nm' : Nat → Int32} (h : ∀ j, j < nTk cs → nm (tkN cs j) = nm' (tkN cs j)) : cndB nm cs = cndB nm' cs := by
  have hk : ∀ w, (knB cs).testBit w = true → nm w = nm' w := fun w hw => by
    obtain ⟨j, hj, e⟩ := kn_tk hw
    rw [← e]; exact h j hj
  unfold cndB
  rw [Bool.eq_iff_iff, List.all_eq_true, List.all_eq_true]
  have key : ∀ c ∈ cs, (!(decide (c.1 = 1)) || !(decide (exEv nm (cEx c) = 0))) = (!(decide (c.1 = 1)) || !(decide (exEv nm' (cEx c) = 0))) := fun c hc => by
    by_cases e : c.1 = 1
    · have hcl := ho.2.2.2.2.2.2 c hc
      rw [exEv_cong hk (cEx_ok hcl (hcl.2.2.2.2.2.2.1 e))]
    · simp [e]
  exact ⟨fun hh c hc => by rw [← key c hc]; exact hh c hc, fun hh c hc => by rw [key c hc]; exact hh c hc⟩
