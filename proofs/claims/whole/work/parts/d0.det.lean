/-! BALANCE: determinants, and how large they grow. -/
abbrev Rw := Nat → Int
def lap (r : Rw) (f : List Nat → Int) : List Nat → Int
  | [] => 0
  | c :: C => r c * f C - lap r (fun D => f (c :: D)) C
/-- the determinant of rows in columns -/
def dt : List Rw → List Nat → Int
  | [], C => if C = [] then 1 else 0
  | r :: R, C => lap r (dt R) C
theorem lap_cons {r : Rw} {f : List Nat → Int} {c : Nat} {C : List Nat} : lap r f (c :: C) = r c * f C - lap r (fun D => f (c :: D)) C := rfl
theorem dt_cons {r : Rw} {R : List Rw} {C : List Nat} : dt (r :: R) C = lap r (dt R) C := rfl
theorem lap_lin {r s t : Rw} {k : Int} (h : ∀ c, t c = r c + k * s c) : ∀ (C : List Nat) (f : List Nat → Int), lap t f C = lap r f C + k * lap s f C := by
  intro C
  induction C with
  | nil => intro f; show (0 : Int) = 0 + k * 0; omega
  | cons c C ih =>
    intro f
    rw [lap_cons, lap_cons, lap_cons, ih, h, Int.add_mul, Int.mul_sub, Int.mul_assoc]
    omega
theorem lap_flin {r : Rw} {k : Int} : ∀ (C : List Nat) (f g h : List Nat → Int), (∀ D, h D = f D + k * g D) → lap r h C = lap r f C + k * lap r g C := by
  intro C
  induction C with
  | nil => intro f g h _; show (0 : Int) = 0 + k * 0; omega
  | cons c C ih =>
    intro f g h e
    rw [lap_cons, lap_cons, lap_cons, ih (fun D => f (c :: D)) (fun D => g (c :: D)) _ (fun D => e _), e, Int.mul_add, Int.mul_sub, Int.mul_left_comm]
    omega
theorem lap_f0 {r : Rw} {f : List Nat → Int} (h : ∀ D, f D = 0) : ∀ C, lap r f C = 0 := by
  intro C
  induction C generalizing f with
  | nil => rfl
  | cons c C ih => rw [lap_cons, h, ih fun D => h _]; omega
theorem lap_r0 {r : Rw} : ∀ (C : List Nat) (f : List Nat → Int), (∀ c ∈ C, r c = 0) → lap r f C = 0 := by
  intro C
  induction C with
  | nil => intro f _; rfl
  | cons c C ih => intro f h; rw [lap_cons, h c (List.mem_cons_self ..), ih _ fun x hx => h x (List.mem_cons_of_mem _ hx)]; omega
theorem lap_sub {r : Rw} {C : List Nat} {f g : List Nat → Int} {k : Int} : lap r (fun D => k * f D - g D) C = k * lap r f C - lap r g C := by
  have h1 := lap_flin (r := r) (k := k) C (fun D => - g D) f (fun D => k * f D - g D) fun D => by omega
  have h2 := lap_flin (r := r) (k := -1) C (fun _ => 0) g (fun D => - g D) fun D => by omega
  rw [h1, h2, lap_f0 fun _ => rfl]
  omega
/-- two rows after each other, the other way round -/
theorem lap_swap {r s : Rw} : ∀ (C : List Nat) (f : List Nat → Int), lap r (lap s f) C = - lap s (lap r f) C := by
  intro C
  induction C with
  | nil => intro f; rfl
  | cons c C ih =>
    intro f
    have e1 : lap r (fun D => lap s f (c :: D)) C = s c * lap r f C - lap r (lap s fun E => f (c :: E)) C := lap_sub
    have e2 : lap s (fun D => lap r f (c :: D)) C = r c * lap s f C - lap s (lap r fun E => f (c :: E)) C := lap_sub
    rw [lap_cons, lap_cons, e1, e2, ih]
    omega
theorem lap_same {r : Rw} {C : List Nat} {f : List Nat → Int} : lap r (lap r f) C = 0 := by
  have := lap_swap (r := r) (s := r) C f
  omega
/-- a row that is there twice -/
theorem dt_mem {a : Rw} : ∀ (R : List Rw) (C : List Nat), a ∈ R → dt (a :: R) C = 0 := by
  intro R
  induction R with
  | nil => intro C h; exact absurd h List.not_mem_nil
  | cons b R ih =>
    intro C h
    rw [dt_cons]
    rcases List.mem_cons.mp h with e | e
    · subst e; exact lap_same
    · have := lap_swap (r := a) (s := b) C (dt R)
      show lap a (lap b (dt R)) C = 0
      rw [this, lap_f0 (r := b) (f := lap a (dt R)) fun D => ih D e]
      rfl
/-- one row is a sum -/
theorem dt_lin {r s t : Rw} {k : Int} (h : ∀ c, t c = r c + k * s c) {R : List Rw} : ∀ (P : List Rw) (C : List Nat), dt (P ++ t :: R) C = dt (P ++ r :: R) C + k * dt (P ++ s :: R) C := by
  intro P
  induction P with
  | nil => intro C; exact lap_lin h C _
  | cons p P ih => intro C; exact lap_flin C _ _ _ fun D => ih D
/-- other rows plus so much of the first -/
theorem dt_ops {r : Rw} {φ : Rw → Rw} {k : Rw → Int} (h : ∀ s c, φ s c = s c + k s * r c) : ∀ (R P : List Rw) (C : List Nat), dt (r :: P ++ R) C = dt (r :: P ++ R.map φ) C := by
  intro R
  induction R with
  | nil => intro P C; rfl
  | cons s R ih =>
    intro P C
    have e1 := dt_lin (r := s) (s := r) (t := φ s) (k := k s) (h s) (R := R) (r :: P) C
    have e2 : dt (r :: P ++ r :: R) C = 0 := dt_mem (P ++ r :: R) C (List.mem_append_right _ (List.mem_cons_self ..))
    rw [e2, Int.mul_zero, Int.add_zero] at e1
    rw [← e1]
    have := ih (P ++ [φ s]) C
    have a1 : r :: (P ++ [φ s]) ++ R = r :: P ++ φ s :: R := by simp
    have a2 : r :: (P ++ [φ s]) ++ R.map φ = r :: P ++ (s :: R).map φ := by simp
    rw [a1, a2] at this
    exact this
/-- one place up, one down -/
def dfr (a b : Nat) : Rw := fun c => (if c = a then 1 else 0) - (if c = b then 1 else 0)
theorem lapB {u : Nat} {r : Rw} (hr : r u = 1 ∨ r u = -1) : ∀ (C : List Nat) (f : List Nat → Int), (∀ D, u ∈ D → f D = 0) → (∀ D, -1 ≤ f D ∧ f D ≤ 1) → u ∈ C → -1 ≤ lap r f C ∧ lap r f C ≤ 1 := by
  intro C
  induction C with
  | nil => intro f _ _ h; exact absurd h List.not_mem_nil
  | cons c C ih =>
    intro f h0 hB h
    rw [lap_cons]
    by_cases e : c = u
    · subst e
      rw [lap_f0 fun D => h0 _ (List.mem_cons_self ..)]
      have := hB C
      rcases hr with h | h <;> rw [h] <;> omega
    · have hu : u ∈ C := by
        rcases List.mem_cons.mp h with h | h
        · exact absurd h.symm e
        · exact h
      rw [h0 C hu, Int.mul_zero]
      have := ih (fun D => f (c :: D)) (fun D hD => h0 _ (List.mem_cons_of_mem _ hD)) (fun D => hB _) hu
      omega
theorem dt_col0 {u : Nat} : ∀ (R : List Rw) (C : List Nat), (∀ r ∈ R, r u = 0) → u ∈ C → dt R C = 0 := by
  intro R
  induction R with
  | nil =>
    intro C _ h
    show (if C = [] then (1 : Int) else 0) = 0
    rw [if_neg fun e => by rw [e] at h; exact absurd h List.not_mem_nil]
  | cons r R ih =>
    intro C hR h
    rw [dt_cons]
    have hr := hR r (List.mem_cons_self ..)
    have hf : ∀ D, u ∈ D → dt R D = 0 := fun D hD => ih D (fun x hx => hR x (List.mem_cons_of_mem _ hx)) hD
    have : ∀ (C : List Nat) (f : List Nat → Int), (∀ D, u ∈ D → f D = 0) → u ∈ C → lap r f C = 0 := by
      intro C
      induction C with
      | nil => intro f _ h; exact absurd h List.not_mem_nil
      | cons c C ihC =>
        intro f hf h
        rw [lap_cons]
        by_cases e : c = u
        · subst e
          rw [hr, lap_f0 fun D => hf _ (List.mem_cons_self ..)]
          omega
        · have hu : u ∈ C := by
            rcases List.mem_cons.mp h with h | h
            · exact absurd h.symm e
            · exact h
          rw [hf C hu, ihC (fun D => f (c :: D)) (fun D hD => hf _ (List.mem_cons_of_mem _ hD)) hu]
          omega
    exact this C _ hf h
def dR (l : List (Nat × Nat)) : List Rw := l.map fun e => dfr e.1 e.2
/-- rows of one up and one down: at most 1 -/
theorem dt_unit : ∀ (m : Nat) (l : List (Nat × Nat)), l.length = m → ∀ C, -1 ≤ dt (dR l) C ∧ dt (dR l) C ≤ 1 := by
  intro m
  induction m with
  | zero =>
    intro l hl C
    obtain rfl := List.length_eq_zero_iff.mp hl
    show -1 ≤ (if C = [] then (1 : Int) else 0) ∧ (if C = [] then (1 : Int) else 0) ≤ 1
    split <;> omega
  | succ m ih =>
    intro l hl C
    obtain ⟨⟨u, v⟩, l, rfl⟩ : ∃ e l', l = e :: l' := by
      cases l with
      | nil => simp at hl
      | cons e l => exact ⟨e, l, rfl⟩
    have hl : l.length = m := by simpa using hl
    have main : ∀ u v, u ≠ v → u ∈ C → -1 ≤ dt (dfr u v :: dR l) C ∧ dt (dfr u v :: dR l) C ≤ 1 := by
      intro u v huv hu
      let φ : Rw → Rw := fun s c => s c + (- s u) * dfr u v c
      have e1 := dt_ops (r := dfr u v) (φ := φ) (k := fun s => - s u) (fun s c => rfl) (dR l) [] C
      have e2 : (dR l).map φ = dR (l.map fun e => (if e.1 = u then v else e.1, if e.2 = u then v else e.2)) := by
        unfold dR
        rw [List.map_map, List.map_map]
        refine List.map_congr_left fun e _ => ?_
        funext c
        show dfr e.1 e.2 c + (- dfr e.1 e.2 u) * dfr u v c = dfr (if e.1 = u then v else e.1) (if e.2 = u then v else e.2) c
        unfold dfr
        by_cases a1 : e.1 = u
        · by_cases a2 : e.2 = u
          · rw [a1, a2]; simp
          · simp only [a1, if_true, if_neg a2, if_neg (show ¬ u = e.2 from fun h => a2 h.symm)]; split <;> split <;> split <;> omega
        · by_cases a2 : e.2 = u
          · simp only [a2, if_true, if_neg a1, if_neg (show ¬ u = e.1 from fun h => a1 h.symm)]; split <;> split <;> split <;> omega
          · simp only [if_neg a1, if_neg a2, if_neg (show ¬ u = e.1 from fun h => a1 h.symm), if_neg (show ¬ u = e.2 from fun h => a2 h.symm)]; omega
      have e1 : dt (dfr u v :: dR l) C = dt (dfr u v :: (dR l).map φ) C := e1
      rw [e1, e2, dt_cons]
      refine lapB (u := u) (Or.inl (by unfold dfr; rw [if_pos rfl, if_neg huv]; rfl)) C _ (fun D hD => dt_col0 _ D (fun r hr => ?_) hD) (fun D => ih _ (by rw [List.length_map]; exact hl) D) hu
      unfold dR at hr
      rw [List.map_map] at hr
      obtain ⟨e, _, rfl⟩ := List.mem_map.mp hr
      show dfr (if e.1 = u then v else e.1) (if e.2 = u then v else e.2) u = 0
      unfold dfr
      have g : ∀ x : Nat, ¬ u = (if x = u then v else x) := fun x h => by
        by_cases hx : x = u
        · rw [if_pos hx] at h; exact huv h
        · rw [if_neg hx] at h; exact hx h.symm
      rw [if_neg (g _), if_neg (g _)]
      rfl
    show -1 ≤ dt (dfr u v :: dR l) C ∧ dt (dfr u v :: dR l) C ≤ 1
    by_cases huv : u = v
    · have : dt (dfr u v :: dR l) C = 0 := lap_r0 C _ fun c _ => by unfold dfr; rw [huv]; omega
      omega
    by_cases hu : u ∈ C
    · exact main u v huv hu
    by_cases hv : v ∈ C
    · have h1 := main v u (fun e => huv e.symm) hv
      have h2 := lap_lin (r := fun _ => 0) (s := dfr v u) (t := dfr u v) (k := -1) (fun c => by unfold dfr; omega) C (dt (dR l))
      have h3 : lap (fun _ => 0) (dt (dR l)) C = 0 := lap_r0 C _ fun _ _ => rfl
      rw [h3] at h2
      rw [dt_cons] at h1 ⊢
      omega
    · have : dt (dfr u v :: dR l) C = 0 := lap_r0 C _ fun c hc => by
        unfold dfr
        have n1 : ¬ c = u := fun e => hu (by rw [← e]; exact hc)
        have n2 : ¬ c = v := fun e => hv (by rw [← e]; exact hc)
        rw [if_neg n1, if_neg n2]
        rfl
      omega
/-- three up and three down -/
def d3 (e : (Nat × Nat) × (Nat × Nat) × (Nat × Nat)) : Rw := fun c => dfr e.1.1 e.1.2 c + dfr e.2.1.1 e.2.1.2 c + dfr e.2.2.1 e.2.2.2 c
theorem dt_three {r s q t : Rw} (h : ∀ c, t c = r c + s c + q c) {R P : List Rw} {C : List Nat} : dt (P ++ t :: R) C = dt (P ++ r :: R) C + dt (P ++ s :: R) C + dt (P ++ q :: R) C := by
  have h1 := dt_lin (r := fun c => r c + s c) (s := q) (t := t) (k := 1) (fun c => by rw [h]; omega) (R := R) P C
  have h2 := dt_lin (r := r) (s := s) (t := fun c => r c + s c) (k := 1) (fun c => by omega) (R := R) P C
  omega
/-- how large a determinant of changes is -/
theorem dt_3k : ∀ (R : List ((Nat × Nat) × (Nat × Nat) × (Nat × Nat))) (Q : List (Nat × Nat)) (C : List Nat), -(3 ^ R.length : Int) ≤ dt (dR Q ++ R.map d3) C ∧ dt (dR Q ++ R.map d3) C ≤ 3 ^ R.length := by
  intro R
  induction R with
  | nil =>
    intro Q C
    have := dt_unit Q.length Q rfl C
    have e : dR Q ++ [].map d3 = dR Q := List.append_nil _
    rw [e]
    show -((3 : Int) ^ 0) ≤ _ ∧ _ ≤ (3 : Int) ^ 0
    rw [Int.pow_zero]
    exact this
  | cons e R ih =>
    intro Q C
    have h := dt_three (r := dfr e.1.1 e.1.2) (s := dfr e.2.1.1 e.2.1.2) (q := dfr e.2.2.1 e.2.2.2) (t := d3 e) (fun c => rfl) (R := R.map d3) (P := dR Q) (C := C)
    have g : ∀ x : Nat × Nat, dR Q ++ dfr x.1 x.2 :: R.map d3 = dR (Q ++ [x]) ++ R.map d3 := fun x => by
      unfold dR
      rw [List.map_append, List.append_assoc]; rfl
    have i1 := ih (Q ++ [e.1]) C
    have i2 := ih (Q ++ [e.2.1]) C
    have i3 := ih (Q ++ [e.2.2]) C
    rw [← g] at i1 i2 i3
    have ep : (3 : Int) ^ (e :: R).length = 3 * 3 ^ R.length := by rw [List.length_cons, Int.pow_succ, Int.mul_comm]
    have em : (e :: R).map d3 = d3 e :: R.map d3 := rfl
    rw [em, ep, h]
    omega
/-- a row times the small vector that other rows leave to columns: Laplace -/
def crm (R : List Rw) : List Nat → Nat → Int
  | C, j => lap (fun c => if c = j then 1 else 0) (dt R) C
theorem crm_self {R : List Rw} {j : Nat} {C : List Nat} (hj : j ∉ C) : crm R (j :: C) j = dt R C := by
  show (if j = j then (1 : Int) else 0) * dt R C - lap _ _ C = _
  rw [if_pos rfl, lap_r0 C _ fun c hc => if_neg fun e => hj (by rw [← e]; exact hc)]
  omega
