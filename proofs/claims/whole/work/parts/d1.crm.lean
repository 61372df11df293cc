/-! BALANCE: the small vector that rows leave to one column more. -/
/-- a row times a vector, over columns -/
def dotL (s x : Rw) (T : List Nat) : Int := (T.map fun j => s j * x j).sum
theorem dotL_cons {s x : Rw} {c : Nat} {C : List Nat} : dotL s x (c :: C) = s c * x c + dotL s x C := by
  unfold dotL
  rw [List.map_cons, List.sum_cons]
theorem dotL_congr {s x y : Rw} {T : List Nat} (h : ∀ j ∈ T, x j = y j) : dotL s x T = dotL s y T := by
  unfold dotL
  congr 1
  exact List.map_congr_left fun j hj => by rw [h j hj]
theorem dotL_lin {s x y : Rw} {k : Int} (T : List Nat) : dotL s (fun j => x j + k * y j) T = dotL s x T + k * dotL s y T := by
  induction T with
  | nil => show (0 : Int) = 0 + k * 0; omega
  | cons c C ih =>
    rw [dotL_cons, dotL_cons, dotL_cons, ih, Int.mul_add, Int.mul_add, Int.mul_left_comm]
    omega
theorem lap_dot {s : Rw} : ∀ (T : List Nat) (f : List Nat → Int), T.Nodup → lap s f T = dotL s (fun j => lap (fun c => if c = j then 1 else 0) f T) T := by
  intro T
  induction T with
  | nil => intro f _; rfl
  | cons c C ih =>
    intro f hn
    obtain ⟨hc, hn⟩ := List.nodup_cons.mp hn
    rw [lap_cons, ih _ hn, dotL_cons]
    have e1 : lap (fun x => if x = c then (1 : Int) else 0) f (c :: C) = f C := by
      rw [lap_cons, if_pos rfl, lap_r0 C _ fun x hx => if_neg fun e => hc (by rw [← e]; exact hx)]
      omega
    have e2 : dotL s (fun j => lap (fun x => if x = j then (1 : Int) else 0) f (c :: C)) C = dotL s (fun j => 0 + (-1) * lap (fun x => if x = j then (1 : Int) else 0) (fun D => f (c :: D)) C) C := dotL_congr fun j hj => by
      rw [lap_cons, if_neg fun e => hc (by rw [e]; exact hj)]
      omega
    have e3 : ∀ C : List Nat, dotL s (fun _ => 0) C = 0 := by
      intro C
      induction C with
      | nil => rfl
      | cons c C ih => rw [dotL_cons, ih]; omega
    rw [e1, e2, dotL_lin, e3]
    omega
/-- it is orthogonal to them; times another row it is a determinant -/
theorem crm_dot {s : Rw} {R : List Rw} {T : List Nat} (hn : T.Nodup) : dotL s (crm R T) T = dt (s :: R) T := (lap_dot T (dt R) hn).symm
theorem crm_0 {s : Rw} {R : List Rw} {T : List Nat} (hn : T.Nodup) (hs : s ∈ R) : dotL s (crm R T) T = 0 := by
  rw [crm_dot hn]
  exact dt_mem R T hs
/-- its entries are determinants too, but for a sign -/
theorem crm_bd {R : List Rw} {B : Int} (hB : ∀ C, -B ≤ dt R C ∧ dt R C ≤ B) (h0 : 0 ≤ B) {j : Nat} : ∀ (T : List Nat), T.Nodup → -B ≤ crm R T j ∧ crm R T j ≤ B := by
  have : ∀ (T : List Nat) (f : List Nat → Int), (∀ C, -B ≤ f C ∧ f C ≤ B) → T.Nodup → -B ≤ lap (fun c => if c = j then 1 else 0) f T ∧ lap (fun c => if c = j then 1 else 0) f T ≤ B := by
    intro T
    induction T with
    | nil => intro f _ _; show -B ≤ 0 ∧ 0 ≤ B; omega
    | cons c C ih =>
      intro f hf hn
      obtain ⟨hc, hn⟩ := List.nodup_cons.mp hn
      rw [lap_cons]
      have h1 := hf C
      by_cases e : c = j
      · subst e
        rw [if_pos rfl, lap_r0 C _ fun x hx => if_neg fun e => hc (by rw [← e]; exact hx)]
        omega
      · rw [if_neg e]
        have h2 := ih (fun D => f (c :: D)) (fun D => hf _) hn
        omega
  exact fun T hn => this T (dt R) hB hn
theorem crm_out {R : List Rw} {T : List Nat} {j : Nat} (h : j ∉ T) : crm R T j = 0 := lap_r0 T _ fun c hc => if_neg fun e => h (by rw [← e]; exact hc)
/-- a column more: the determinant grows by the row's value -/
theorem dt_grow {s : Rw} {R : List Rw} {C : List Nat} {j : Nat} (hn : (j :: C).Nodup) : dt (s :: R) (j :: C) = s j * dt R C + dotL s (crm R (j :: C)) C := by
  rw [← crm_dot hn, dotL_cons, crm_self (List.nodup_cons.mp hn).1]
