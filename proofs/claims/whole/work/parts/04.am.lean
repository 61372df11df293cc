/-! THE ABSTRACT MACHINE: one step of a method, as a condition (what must hold so that R holds behind it). -/
def azLook : azT → Nat → Option (Instr × Nat)
  | [], _ => none
  | q :: t, pc => bif Nat.beq q.1 pc then some q.2 else azLook t pc
def azUp {α : Type} (f : Nat → Nat → α) (a k : Nat) (v : α) : Nat → Nat → α := fun b j => if b = a then (if j = k then v else f b j) else f b j
/-- texts stand behind this number, the script behind them -/
abbrev azB : Nat := 1000000
-- the operand stack
def zI (st : List Value) (f : Int32 → List Value → Prop) : Prop := match st with | .int x :: r => f x r | _ => False
def zII (st : List Value) (f : Int32 → Int32 → List Value → Prop) : Prop := match st with | .int y :: .int x :: r => f x y r | _ => False
def zL (st : List Value) (f : Int64 → List Value → Prop) : Prop := match st with | .long x :: r => f x r | _ => False
def zLL (st : List Value) (f : Int64 → Int64 → List Value → Prop) : Prop := match st with | .long y :: .long x :: r => f x y r | _ => False
def zR (st : List Value) (f : Nat → List Value → Prop) : Prop := match st with | .ref a :: r => f a r | _ => False
def zRI (st : List Value) (f : Nat → Int32 → List Value → Prop) : Prop := match st with | .int i :: .ref a :: r => f a i r | _ => False
def zRII (st : List Value) (f : Nat → Int32 → Int32 → List Value → Prop) : Prop := match st with | .int x :: .int i :: .ref a :: r => f a i x r | _ => False
def zRIL (st : List Value) (f : Nat → Int32 → Int64 → List Value → Prop) : Prop := match st with | .long x :: .int i :: .ref a :: r => f a i x r | _ => False
def zRL (st : List Value) (f : Nat → Int64 → List Value → Prop) : Prop := match st with | .long x :: .ref a :: r => f a x r | _ => False
def zRR (st : List Value) (f : Nat → Nat → List Value → Prop) : Prop := match st with | .ref b :: .ref a :: r => f a b r | _ => False
/-- a reference or null, by place -/
def zRIO (st : List Value) (f : Nat → Int32 → Nat → List Value → Prop) (g : Nat → Int32 → List Value → Prop) : Prop := match st with
  | .ref b :: .int i :: .ref a :: r => f a i b r
  | .null :: .int i :: .ref a :: r => g a i r
  | _ => False
def zO (st : List Value) (f : Nat → List Value → Prop) (g : List Value → Prop) : Prop := match st with
  | .ref a :: r => f a r
  | .null :: r => g r
  | _ => False
def zV (st : List Value) (f : Value → List Value → Prop) : Prop := match st with | v :: r => f v r | _ => False
def zVV (st : List Value) (f : Value → Value → List Value → Prop) : Prop := match st with | v :: w :: r => f v w r | _ => False
-- guards, locals, answers
def zG (b : Bool) (P : Prop) : Prop := match b with | true => P | false => False
def zOf {α : Type} (o : Option α) (f : α → Prop) : Prop := match o with | some x => f x | none => False
def zOp {α : Type} (o : Option α) (f : α → Prop) (g : Prop) : Prop := match o with | some x => f x | none => g
abbrev azUn : Value := .retAddr 0
def azGl (ls : List Value) (i : Nat) : Value := ls.getD i azUn
def zlI (v : Value) (f : Int32 → Prop) : Prop := match v with | .int x => f x | _ => False
def zlL (v : Value) (f : Int64 → Prop) : Prop := match v with | .long x => f x | _ => False
def zlR (v : Value) (f : Nat → Prop) (g : Prop) : Prop := match v with | .ref x => f x | .null => g | _ => False
def azIs2 (v : Value) : Bool := match v with | .long _ => true | .double _ => true | _ => false
/-- a local of one word may be written: it is there, and no long ends in it -/
def azW1 (ls : List Value) (i : Nat) : Bool := Nat.blt i ls.length && (match i with | 0 => true | j + 1 => !azIs2 (azGl ls j))
def azW2 (ls : List Value) (i : Nat) : Bool := Nat.blt (i + 1) ls.length && (match i with | 0 => true | j + 1 => !azIs2 (azGl ls j))
def azT0 (pc : Nat) (off : Int) : Option Nat := match (pc : Int) + off with | .ofNat n => some n | .negSucc _ => none
def azCmp (c : ClassFile.Cond) (x y : Int32) : Prop := match c with | .eq => x = y | .ne => ¬ x = y | .lt => x < y | .ge => y ≤ x | .gt => y < x | .le => x ≤ y
def azPop : Nat → List Value → List Value → Option (List Value × List Value)
  | 0, st, acc => some (acc, st)
  | n + 1, v :: st, acc => azPop n st (v :: acc)
  | _ + 1, [], _ => none
def azSl : List Value → List Value
  | [] => []
  | v :: t => bif azIs2 v then v :: .retAddr 1 :: azSl t else v :: azSl t
def azEnv (as : List Value) (n : Nat) : List Value := azSl as ++ List.replicate (n - (azSl as).length) azUn
def azCat (st : List Value) : Nat := match st with | [] => 0 | v :: t => (bif azIs2 v then 2 else 1) + azCat t
def kI (v : Option Value) (f : Int32 → Prop) : Prop := match v with | some (.int x) => f x | _ => False
def kL (v : Option Value) (f : Int64 → Prop) : Prop := match v with | some (.long x) => f x | _ => False
def kO (v : Option Value) (f : Nat → Prop) (g : Prop) : Prop := match v with | some (.ref x) => f x | some .null => g | _ => False
/-- what a call answers -/
def zRet (t : Option FieldType) (v : Option Value) (rest : List Value) (f : List Value → Prop) : Prop := match t with
  | none => v = none ∧ f rest
  | some .int | some .boolean | some .byte | some .char => kI v fun x => f (.int x :: rest)
  | some .long => kL v fun x => f (.long x :: rest)
  | some (.object _) => kO v (fun x => f (.ref x :: rest)) (f (.null :: rest))
  | _ => False
def zNil (r : List Value) (P : Prop) : Prop := match r with | [] => P | _ => False
def zRok (t : Option FieldType) (x : Int32) (P : Prop) : Prop := match t with
  | some .int => P
  | some .boolean => (x = 0 ∨ x = 1) ∧ P
  | some .byte => narrow .byte (.int x) = .int x ∧ P
  | some .char => narrow .char (.int x) = .int x ∧ P
  | _ => False
def azLL1 (t : Option FieldType) : Bool := match t with | some .long => true | _ => false
def azOb (t : Option FieldType) : Bool := match t with | some (.object _) => true | _ => false
def azNo (t : Option FieldType) : Bool := match t with | none => true | _ => false
def zSw (x : Int32) (lo : Int) : List Int → (Int → Prop) → Prop
  | [], _ => True
  | o :: t, f => (x.toInt = lo → f o) ∧ zSw x (lo + 1) t f
def zLs (x : Int32) (d : Int) : List (Int × Int) → (Int → Prop) → Prop
  | [], f => f d
  | q :: t, f => (x.toInt = q.1 → f q.2) ∧ (¬ x.toInt = q.1 → zLs x d t f)
def azNew (σ : azS) (k len : Nat) : azS := ((σ.1.1 + 1, σ.1.2.1 + len, fun b => if b = σ.1.1 then (k, len) else σ.1.2.2 b), (fun b j => if b = σ.1.1 then 0 else σ.2.1 b j), (fun b j => if b = σ.1.1 then 0 else σ.2.2.1 b j), fun b j => if b = σ.1.1 then none else σ.2.2.2 b j)
def azKd (σ : azS) (a : Nat) : Nat × Nat := σ.1.2.2 a
def azSI (σ : azS) (a k : Nat) (x : Int32) : azS := (σ.1, azUp σ.2.1 a k x, σ.2.2.1, σ.2.2.2)
def azSJ (σ : azS) (a k : Nat) (x : Int64) : azS := (σ.1, σ.2.1, azUp σ.2.2.1 a k x, σ.2.2.2)
def azSR (σ : azS) (a k : Nat) (x : Option Nat) : azS := (σ.1, σ.2.1, σ.2.2.1, azUp σ.2.2.2 a k x)
def azNarr (t : ArrayType) : Option Nat := match t with | .int => some 10 | .long => some 11 | .boolean => some 12 | _ => none
/-- the receiver of a call -/
def zRv (σ : azS) (k cls : Nat) (as : List Value) (P : Prop) : Prop := bif Nat.beq k 0 then (match as with | .ref b :: _ => (azKd σ b).1 = cls ∧ P | _ => False) else bif Nat.beq k 7 then (match as with | .ref b :: _ => (azKd σ b).1 = 16 ∧ P | _ => False) else bif Nat.beq k 2 then (match as with | .ref _ :: _ => P | _ => False) else P
/-- a call -/
def zCall (Rc Rn : azP) (d : Nat) (M : azM) (pc : Nat) (ls st : List Value) (σ : azS) (Q : azQ) (kinds : Nat → Bool) (idx : Nat) : Prop :=
  zOf (azLk M.2.2.2.2.2.1 azCL idx) fun q => zG (kinds q.1) (match q.1 with
    | 6 => zR st fun _ r => zG (Nat.ble (azCat r) 8 && Nat.ble 1 d) (Rn d M (pc + 3) ls r σ Q)
    | k => zOf (azPop (bif Nat.beq k 1 || Nat.beq k 3 then q.2.1 else q.2.1 + 1) st []) fun w => zRv σ k q.2.2.2.2.2.2.2.1 w.1
        (match d with | 0 => False | d' + 1 => zG (Nat.ble (azCat w.2) 8 && Nat.ble (azSl w.1).length q.2.2.2.2.1) (Rc d' q.2.2 0 (azEnv w.1 q.2.2.2.2.1) [] σ fun v σ1 => zRet q.2.2.2.2.2.1 v w.2 fun st1 => Rn d M (pc + 3) ls st1 σ1 Q)))
def azIJ (σ : azS) (a : Nat) : Prop := (azKd σ a).1 = 10 ∨ (azKd σ a).1 = 15
def azStep (Rc Rn : azP) (d : Nat) (M : azM) (pc : Nat) (ls st : List Value) (σ : azS) (Q : azQ) (i : Instr) : Prop := match i with
  | .iconst n => Rn d M (pc + 1) ls (.int (azC n) :: st) σ Q
  | .bipush n => Rn d M (pc + 2) ls (.int (azC n) :: st) σ Q
  | .sipush n => Rn d M (pc + 3) ls (.int (azC n) :: st) σ Q
  | .lconst n => Rn d M (pc + 1) ls (.long (lN n) :: st) σ Q
  | .ldc k => zOp (azLk M.2.2.2.2.2.1 azDL k) (fun v => Rn d M (pc + 2) ls (.int v :: st) σ Q) (zOf (azLk M.2.2.2.2.2.1 azSL k) fun q => Rn d M (pc + 2) ls (.ref (azB + q.1) :: st) σ Q)
  | .ldc_w k => zOp (azLk M.2.2.2.2.2.1 azDL k) (fun v => Rn d M (pc + 3) ls (.int v :: st) σ Q) (zOf (azLk M.2.2.2.2.2.1 azSL k) fun q => Rn d M (pc + 3) ls (.ref (azB + q.1) :: st) σ Q)
  | .ldc2_w k => zOf (azLk M.2.2.2.2.2.1 azLL k) fun v => Rn d M (pc + 3) ls (.long v :: st) σ Q
  | .aconst_null => Rn d M (pc + 1) ls (.null :: st) σ Q
  | .iload k => zlI (azGl ls k) fun x => Rn d M (pc + 2) ls (.int x :: st) σ Q
  | .iload_n k => zlI (azGl ls k) fun x => Rn d M (pc + 1) ls (.int x :: st) σ Q
  | .lload k => zlL (azGl ls k) fun x => Rn d M (pc + 2) ls (.long x :: st) σ Q
  | .lload_n k => zlL (azGl ls k) fun x => Rn d M (pc + 1) ls (.long x :: st) σ Q
  | .aload k => zlR (azGl ls k) (fun x => Rn d M (pc + 2) ls (.ref x :: st) σ Q) (Rn d M (pc + 2) ls (.null :: st) σ Q)
  | .aload_n k => zlR (azGl ls k) (fun x => Rn d M (pc + 1) ls (.ref x :: st) σ Q) (Rn d M (pc + 1) ls (.null :: st) σ Q)
  | .istore k => zI st fun x r => zG (azW1 ls k) (Rn d M (pc + 2) (ls.set k (.int x)) r σ Q)
  | .istore_n k => zI st fun x r => zG (azW1 ls k) (Rn d M (pc + 1) (ls.set k (.int x)) r σ Q)
  | .lstore k => zL st fun x r => zG (azW2 ls k) (Rn d M (pc + 2) ((ls.set k (.long x)).set (k + 1) (.retAddr 1)) r σ Q)
  | .lstore_n k => zL st fun x r => zG (azW2 ls k) (Rn d M (pc + 1) ((ls.set k (.long x)).set (k + 1) (.retAddr 1)) r σ Q)
  | .astore k => zO st (fun x r => zG (azW1 ls k) (Rn d M (pc + 2) (ls.set k (.ref x)) r σ Q)) (fun r => zG (azW1 ls k) (Rn d M (pc + 2) (ls.set k .null) r σ Q))
  | .astore_n k => zO st (fun x r => zG (azW1 ls k) (Rn d M (pc + 1) (ls.set k (.ref x)) r σ Q)) (fun r => zG (azW1 ls k) (Rn d M (pc + 1) (ls.set k .null) r σ Q))
  | .iinc k n => zlI (azGl ls k) fun x => zG (azW1 ls k) (Rn d M (pc + 3) (ls.set k (.int (x + azC n))) st σ Q)
  | .iadd => zII st fun x y r => Rn d M (pc + 1) ls (.int (x + y) :: r) σ Q
  | .isub => zII st fun x y r => Rn d M (pc + 1) ls (.int (x - y) :: r) σ Q
  | .imul => zII st fun x y r => Rn d M (pc + 1) ls (.int (x * y) :: r) σ Q
  | .iand => zII st fun x y r => Rn d M (pc + 1) ls (.int (x &&& y) :: r) σ Q
  | .ior => zII st fun x y r => Rn d M (pc + 1) ls (.int (x ||| y) :: r) σ Q
  | .ixor => zII st fun x y r => Rn d M (pc + 1) ls (.int (x ^^^ y) :: r) σ Q
  | .ishl => zII st fun x y r => Rn d M (pc + 1) ls (.int (x <<< (y &&& 31)) :: r) σ Q
  | .ishr => zII st fun x y r => Rn d M (pc + 1) ls (.int (x >>> (y &&& 31)) :: r) σ Q
  | .iushr => zII st fun x y r => Rn d M (pc + 1) ls (.int (x.toUInt32 >>> (y.toUInt32 &&& Int32.toUInt32 31)).toInt32 :: r) σ Q
  | .idiv => zII st fun x y r => ¬ y = 0 ∧ Rn d M (pc + 1) ls (.int (x / y) :: r) σ Q
  | .irem => zII st fun x y r => ¬ y = 0 ∧ Rn d M (pc + 1) ls (.int (x - x / y * y) :: r) σ Q
  | .ladd => zLL st fun x y r => Rn d M (pc + 1) ls (.long (x + y) :: r) σ Q
  | .lsub => zLL st fun x y r => Rn d M (pc + 1) ls (.long (x - y) :: r) σ Q
  | .lmul => zLL st fun x y r => Rn d M (pc + 1) ls (.long (x * y) :: r) σ Q
  | .ldiv => zLL st fun x y r => ¬ y = 0 ∧ Rn d M (pc + 1) ls (.long (x / y) :: r) σ Q
  | .lrem => zLL st fun x y r => ¬ y = 0 ∧ Rn d M (pc + 1) ls (.long (x - x / y * y) :: r) σ Q
  | .lneg => zL st fun x r => Rn d M (pc + 1) ls (.long (-x) :: r) σ Q
  | .lcmp => zLL st fun x y r => Rn d M (pc + 1) ls (.int (lg_cmp x y) :: r) σ Q
  | .i2l => zI st fun x r => Rn d M (pc + 1) ls (.long x.toInt64 :: r) σ Q
  | .l2i => zL st fun x r => Rn d M (pc + 1) ls (.int x.toInt32 :: r) σ Q
  | .dup => zV st fun v r => zG (!azIs2 v) (Rn d M (pc + 1) ls (v :: v :: r) σ Q)
  | .dup2 => zVV st fun v w r => zG (!azIs2 v && !azIs2 w) (Rn d M (pc + 1) ls (v :: w :: v :: w :: r) σ Q)
  | .pop => zV st fun v r => zG (!azIs2 v) (Rn d M (pc + 1) ls r σ Q)
  | .if_icmp c o => zII st fun x y r => zOf (azT0 pc o) fun t => (azCmp c x y → Rn d M t ls r σ Q) ∧ (¬ azCmp c x y → Rn d M (pc + 3) ls r σ Q)
  | .ifCond c o => zI st fun x r => zOf (azT0 pc o) fun t => (azCmp c x 0 → Rn d M t ls r σ Q) ∧ (¬ azCmp c x 0 → Rn d M (pc + 3) ls r σ Q)
  | .ifnull o => zO st (fun _ r => Rn d M (pc + 3) ls r σ Q) (fun r => zOf (azT0 pc o) fun t => Rn d M t ls r σ Q)
  | .ifnonnull o => zO st (fun _ r => zOf (azT0 pc o) fun t => Rn d M t ls r σ Q) (fun r => Rn d M (pc + 3) ls r σ Q)
  | .goto o => zOf (azT0 pc o) fun t => Rn d M t ls st σ Q
  | .tableswitch df lo hi os => zI st fun x r => (x.toInt < lo ∨ hi < x.toInt → zOf (azT0 pc df) fun t => Rn d M t ls r σ Q) ∧ zSw x lo os.toList fun o => zOf (azT0 pc o) fun t => Rn d M t ls r σ Q
  | .lookupswitch df ps => zI st fun x r => zLs x df ps.toList fun o => zOf (azT0 pc o) fun t => Rn d M t ls r σ Q
  | .getfield k => zOp (azLk M.2.2.2.2.2.1 azFL k) (fun q => zR st fun a r => (azKd σ a).1 = q.1 ∧ (match q.2.2.1 with
      | 0 => Rn d M (pc + 3) ls (.int (σ.2.1 a q.2.1) :: r) σ Q
      | 1 => Rn d M (pc + 3) ls (.long (σ.2.2.1 a q.2.1) :: r) σ Q
      | 2 => Rn d M (pc + 3) ls (.int (σ.2.1 a q.2.1) :: r) σ Q
      | _ => zOf (σ.2.2.2 a q.2.1) fun b => Rn d M (pc + 3) ls (.ref b :: r) σ Q))
      (zOf (azLk M.2.2.2.2.2.1 azXL k) fun j => zR st fun a r => (azKd σ a).1 = 16 ∧ (match j with | 0 => Rn d M (pc + 3) ls (.ref (a + 20) :: r) σ Q | _ => Rn d M (pc + 3) ls (.int (nI 0) :: r) σ Q))
  | .getstatic k => zOf (azLk M.2.2.2.2.2.1 azTL k) fun j => (match j with | 0 => Rn d M (pc + 3) ls (.int (nI 1) :: st) σ Q | _ => Rn d M (pc + 3) ls (.null :: st) σ Q ∧ Rn d M (pc + 3) ls (.ref (azB + 30) :: st) σ Q)
  | .i2c => zI st fun x r => Rn d M (pc + 1) ls (.int (x.toUInt32 % 65536).toInt32 :: r) σ Q
  | .putfield k => zOf (azLk M.2.2.2.2.2.1 azFL k) fun q => zG (!q.2.2.2.1 || (M.2.2.2.2.1 && Nat.beq q.1 M.2.2.2.2.2.1)) (match q.2.2.1 with
      | 0 => zRI st fun a x r => (azKd σ a).1 = q.1 ∧ Rn d M (pc + 3) ls r (azSI σ a q.2.1 x) Q
      | 1 => zRL st fun a x r => (azKd σ a).1 = q.1 ∧ Rn d M (pc + 3) ls r (azSJ σ a q.2.1 x) Q
      | 2 => zRI st fun a x r => (azKd σ a).1 = q.1 ∧ (x = 0 ∨ x = 1) ∧ Rn d M (pc + 3) ls r (azSI σ a q.2.1 x) Q
      | _ => zRR st fun a b r => (azKd σ a).1 = q.1 ∧ Rn d M (pc + 3) ls r (azSR σ a q.2.1 (some b)) Q)
  | .arraylength => zR st fun a r => ((10 ≤ (azKd σ a).1 ∧ (azKd σ a).1 ≤ 15) ∨ (azKd σ a).1 = 17) ∧ Rn d M (pc + 1) ls (.int (nI (azKd σ a).2) :: r) σ Q
  | .iaload => zRI st fun a i r => azIJ σ a ∧ vp_in i (azKd σ a).2 ∧ Rn d M (pc + 1) ls (.int (σ.2.1 a i.toNatClampNeg) :: r) σ Q
  | .baload => zRI st fun a i r => ((azKd σ a).1 = 12 ∨ (azKd σ a).1 = 17) ∧ vp_in i (azKd σ a).2 ∧ Rn d M (pc + 1) ls (.int (σ.2.1 a i.toNatClampNeg) :: r) σ Q
  | .laload => zRI st fun a i r => (azKd σ a).1 = 11 ∧ vp_in i (azKd σ a).2 ∧ Rn d M (pc + 1) ls (.long (σ.2.2.1 a i.toNatClampNeg) :: r) σ Q
  | .aaload => zRI st fun a i r => ((azKd σ a).1 = 13 ∨ (azKd σ a).1 = 14) ∧ vp_in i (azKd σ a).2 ∧ zOp (σ.2.2.2 a i.toNatClampNeg) (fun b => Rn d M (pc + 1) ls (.ref b :: r) σ Q) (Rn d M (pc + 1) ls (.null :: r) σ Q)
  | .iastore => zRII st fun a i x r => (azKd σ a).1 = 10 ∧ vp_in i (azKd σ a).2 ∧ Rn d M (pc + 1) ls r (azSI σ a i.toNatClampNeg x) Q
  | .bastore => zRII st fun a i x r => (azKd σ a).1 = 12 ∧ vp_in i (azKd σ a).2 ∧ (x = 0 ∨ x = 1) ∧ Rn d M (pc + 1) ls r (azSI σ a i.toNatClampNeg x) Q
  | .lastore => zRIL st fun a i x r => (azKd σ a).1 = 11 ∧ vp_in i (azKd σ a).2 ∧ Rn d M (pc + 1) ls r (azSJ σ a i.toNatClampNeg x) Q
  | .aastore => zRIO st (fun a i b r => (((azKd σ a).1 = 13 ∧ (azKd σ b).1 = 3) ∨ ((azKd σ a).1 = 14 ∧ (azKd σ b).1 = 5)) ∧ vp_in i (azKd σ a).2 ∧ Rn d M (pc + 1) ls r (azSR σ a i.toNatClampNeg (some b)) Q)
      (fun a i r => ((azKd σ a).1 = 13 ∨ (azKd σ a).1 = 14) ∧ vp_in i (azKd σ a).2 ∧ Rn d M (pc + 1) ls r (azSR σ a i.toNatClampNeg none) Q)
  | .new k => zOf (azLk M.2.2.2.2.2.1 azNL k) fun q => Rn d M (pc + 3) ls (.ref σ.1.1 :: st) (azNew σ q.1 q.2) Q
  | .newarray t => zI st fun n r => zOf (azNarr t) fun k => ¬ n < 0 ∧ n.toNatClampNeg ≤ 10000 ∧ Rn d M (pc + 2) ls (.ref σ.1.1 :: r) (azNew σ k n.toNatClampNeg) Q
  | .anewarray k => zI st fun n r => zOf (azLk M.2.2.2.2.2.1 azAL k) fun q => ¬ n < 0 ∧ n.toNatClampNeg ≤ 10000 ∧ Rn d M (pc + 3) ls (.ref σ.1.1 :: r) (azNew σ q n.toNatClampNeg) Q
  | .invokevirtual k => zCall Rc Rn d M pc ls st σ Q (fun n => Nat.beq n 0 || Nat.beq n 7) k
  | .invokestatic k => zCall Rc Rn d M pc ls st σ Q (fun n => Nat.beq n 1 || Nat.beq n 3) k
  | .invokespecial k => zCall Rc Rn d M pc ls st σ Q (fun n => Nat.beq n 2 || Nat.beq n 6) k
  | .ireturn => zI st fun x r => zNil r (zRok M.2.2.2.1 x (Q (some (.int x)) σ))
  | .lreturn => zL st fun x r => zNil r (zG (azLL1 M.2.2.2.1) (Q (some (.long x)) σ))
  | .areturn => zO st (fun a r => zNil r (zG (azOb M.2.2.2.1) (Q (some (.ref a)) σ))) (fun r => zNil r (zG (azOb M.2.2.2.1) (Q (some .null) σ)))
  | .return_ => zNil st (zG (azNo M.2.2.2.1) (Q none σ))
  | _ => False
def azPre (Rc Rn : azP) : azP := fun d M pc ls st σ Q => zOf (azLook M.2.2.2.2.2.2 pc) fun q => azStep Rc Rn d M pc ls st σ Q q.1
def azClosed (R : azP) : Prop := (∀ d M pc ls st σ Q, azPre R R d M pc ls st σ Q → R d M pc ls st σ Q) ∧ ∀ d M pc ls st σ Q Q', (∀ v σ1, Q v σ1 → Q' v σ1) → R d M pc ls st σ Q → R d M pc ls st σ Q'

-- what follows from less follows from more
theorem zI_mono {st : List Value} {f g : Int32 → List Value → Prop} (h : ∀ x r, f x r → g x r) : zI st f → zI st g := by
  unfold zI; split <;> first | exact h _ _ | exact id
theorem zII_mono {st : List Value} {f g : Int32 → Int32 → List Value → Prop} (h : ∀ x y r, f x y r → g x y r) : zII st f → zII st g := by
  unfold zII; split <;> first | exact h _ _ _ | exact id
theorem zL_mono {st : List Value} {f g : Int64 → List Value → Prop} (h : ∀ x r, f x r → g x r) : zL st f → zL st g := by
  unfold zL; split <;> first | exact h _ _ | exact id
theorem zLL_mono {st : List Value} {f g : Int64 → Int64 → List Value → Prop} (h : ∀ x y r, f x y r → g x y r) : zLL st f → zLL st g := by
  unfold zLL; split <;> first | exact h _ _ _ | exact id
theorem zR_mono {st : List Value} {f g : Nat → List Value → Prop} (h : ∀ x r, f x r → g x r) : zR st f → zR st g := by
  unfold zR; split <;> first | exact h _ _ | exact id
theorem zRI_mono {st : List Value} {f g : Nat → Int32 → List Value → Prop} (h : ∀ x y r, f x y r → g x y r) : zRI st f → zRI st g := by
  unfold zRI; split <;> first | exact h _ _ _ | exact id
theorem zRII_mono {st : List Value} {f g : Nat → Int32 → Int32 → List Value → Prop} (h : ∀ x y z r, f x y z r → g x y z r) : zRII st f → zRII st g := by
  unfold zRII; split <;> first | exact h _ _ _ _ | exact id
theorem zRIL_mono {st : List Value} {f g : Nat → Int32 → Int64 → List Value → Prop} (h : ∀ x y z r, f x y z r → g x y z r) : zRIL st f → zRIL st g := by
  unfold zRIL; split <;> first | exact h _ _ _ _ | exact id
theorem zRL_mono {st : List Value} {f g : Nat → Int64 → List Value → Prop} (h : ∀ x y r, f x y r → g x y r) : zRL st f → zRL st g := by
  unfold zRL; split <;> first | exact h _ _ _ | exact id
theorem zRR_mono {st : List Value} {f g : Nat → Nat → List Value → Prop} (h : ∀ x y r, f x y r → g x y r) : zRR st f → zRR st g := by
  unfold zRR; split <;> first | exact h _ _ _ | exact id
theorem zRIO_mono {st : List Value} {f f' : Nat → Int32 → Nat → List Value → Prop} {g g' : Nat → Int32 → List Value → Prop} (h : ∀ x y z r, f x y z r → f' x y z r) (h2 : ∀ x y r, g x y r → g' x y r) : zRIO st f g → zRIO st f' g' := by
  unfold zRIO; split <;> first | exact h _ _ _ _ | exact h2 _ _ _ | exact id
theorem zO_mono {st : List Value} {f f' : Nat → List Value → Prop} {g g' : List Value → Prop} (h : ∀ x r, f x r → f' x r) (h2 : ∀ r, g r → g' r) : zO st f g → zO st f' g' := by
  unfold zO; split <;> first | exact h _ _ | exact h2 _ | exact id
theorem zV_mono {st : List Value} {f g : Value → List Value → Prop} (h : ∀ x r, f x r → g x r) : zV st f → zV st g := by
  unfold zV; split <;> first | exact h _ _ | exact id
theorem zVV_mono {st : List Value} {f g : Value → Value → List Value → Prop} (h : ∀ x y r, f x y r → g x y r) : zVV st f → zVV st g := by
  unfold zVV; split <;> first | exact h _ _ _ | exact id
theorem zG_mono {b : Bool} {P P' : Prop} (h : P → P') : zG b P → zG b P' := by
  unfold zG; split <;> first | exact h | exact id
theorem zOf_mono {α : Type} {o : Option α} {f g : α → Prop} (h : ∀ x, f x → g x) : zOf o f → zOf o g := by
  unfold zOf; split <;> first | exact h _ | exact id
theorem zOp_mono {α : Type} {o : Option α} {f f' : α → Prop} {g g' : Prop} (h : ∀ x, f x → f' x) (h2 : g → g') : zOp o f g → zOp o f' g' := by
  unfold zOp; split <;> first | exact h _ | exact h2
theorem zlI_mono {v : Value} {f g : Int32 → Prop} (h : ∀ x, f x → g x) : zlI v f → zlI v g := by
  unfold zlI; split <;> first | exact h _ | exact id
theorem zlL_mono {v : Value} {f g : Int64 → Prop} (h : ∀ x, f x → g x) : zlL v f → zlL v g := by
  unfold zlL; split <;> first | exact h _ | exact id
theorem zlR_mono {v : Value} {f f' : Nat → Prop} {g g' : Prop} (h : ∀ x, f x → f' x) (h2 : g → g') : zlR v f g → zlR v f' g' := by
  unfold zlR; split <;> first | exact h _ | exact h2 | exact id
theorem kI_mono {v : Option Value} {f g : Int32 → Prop} (h : ∀ x, f x → g x) : kI v f → kI v g := by
  unfold kI; split <;> first | exact h _ | exact id
theorem kL_mono {v : Option Value} {f g : Int64 → Prop} (h : ∀ x, f x → g x) : kL v f → kL v g := by
  unfold kL; split <;> first | exact h _ | exact id
theorem kO_mono {v : Option Value} {f f' : Nat → Prop} {g g' : Prop} (h : ∀ x, f x → f' x) (h2 : g → g') : kO v f g → kO v f' g' := by
  unfold kO; split <;> first | exact h _ | exact h2 | exact id
theorem zNil_mono {r : List Value} {P P' : Prop} (h : P → P') : zNil r P → zNil r P' := by
  unfold zNil; split <;> first | exact h | exact id
theorem zRet_mono {t : Option FieldType} {v : Option Value} {rest : List Value} {f g : List Value → Prop} (h : ∀ x, f x → g x) : zRet t v rest f → zRet t v rest g := by
  unfold zRet
  split
  · exact fun q => ⟨q.1, h _ q.2⟩
  all_goals first | exact kI_mono fun _ => h _ | exact kL_mono fun _ => h _ | exact kO_mono (fun _ => h _) (h _) | exact id
theorem zRv_mono {σ : azS} {k cls : Nat} {as : List Value} {P P' : Prop} (h : P → P') : zRv σ k cls as P → zRv σ k cls as P' := by
  unfold zRv
  cases Nat.beq k 0 with
  | true => exact (by
      show (match as with | .ref b :: _ => (azKd σ b).1 = cls ∧ P | _ => False) → (match as with | .ref b :: _ => (azKd σ b).1 = cls ∧ P' | _ => False)
      split <;> first | exact fun q => ⟨q.1, h q.2⟩ | exact id)
  | false =>
    cases Nat.beq k 7 with
    | true => exact (by
        show (match as with | .ref b :: _ => (azKd σ b).1 = 16 ∧ P | _ => False) → (match as with | .ref b :: _ => (azKd σ b).1 = 16 ∧ P' | _ => False)
        split <;> first | exact fun q => ⟨q.1, h q.2⟩ | exact id)
    | false =>
      cases Nat.beq k 2 with
      | true => exact (by
          show (match as with | .ref _ :: _ => P | _ => False) → (match as with | .ref _ :: _ => P' | _ => False)
          split <;> first | exact h | exact id)
      | false => exact h
theorem zSw_mono {x : Int32} {f g : Int → Prop} (h : ∀ x, f x → g x) : ∀ (l : List Int) (lo : Int), zSw x lo l f → zSw x lo l g
  | [], _, _ => trivial
  | _ :: t, lo, q => ⟨fun c => h _ (q.1 c), zSw_mono h t (lo + 1) q.2⟩
theorem zLs_mono {x : Int32} {d : Int} {f g : Int → Prop} (h : ∀ x, f x → g x) : ∀ (l : List (Int × Int)), zLs x d l f → zLs x d l g
  | [], q => h _ q
  | _ :: t, q => ⟨fun c => h _ (q.1 c), fun c => zLs_mono h t (q.2 c)⟩
theorem zCall_mono {R Rn Rn' : azP} (hQ : ∀ d M pc ls st σ Q Q', (∀ v σ1, Q v σ1 → Q' v σ1) → R d M pc ls st σ Q → R d M pc ls st σ Q') (h : ∀ d M pc ls st σ Q, Rn d M pc ls st σ Q → Rn' d M pc ls st σ Q) (d : Nat) (M : azM) (pc : Nat) (ls st : List Value) (σ : azS) (Q : azQ) (kinds : Nat → Bool) (idx : Nat) : zCall R Rn d M pc ls st σ Q kinds idx → zCall R Rn' d M pc ls st σ Q kinds idx := by
  unfold zCall
  refine zOf_mono fun q => zG_mono fun H => ?_
  revert H
  split
  · exact zR_mono fun _ _ H => zG_mono (h _ _ _ _ _ _ _) H
  · refine zOf_mono fun w => zRv_mono fun H => ?_
    cases d with
    | zero => exact H
    | succ d => exact zG_mono (hQ _ _ _ _ _ _ _ _ fun v σ1 H => zRet_mono (fun _ H => h _ _ _ _ _ _ _ H) H) H
set_option maxHeartbeats 4000000 in
theorem azStep_mono {R Rn Rn' : azP} (hQ : ∀ d M pc ls st σ Q Q', (∀ v σ1, Q v σ1 → Q' v σ1) → R d M pc ls st σ Q → R d M pc ls st σ Q') (h : ∀ d M pc ls st σ Q, Rn d M pc ls st σ Q → Rn' d M pc ls st σ Q) (d : Nat) (M : azM) (pc : Nat) (ls st : List Value) (σ : azS) (Q : azQ) (i : Instr) : azStep R Rn d M pc ls st σ Q i → azStep R Rn' d M pc ls st σ Q i := by
  intro H
  cases i
  all_goals first
    | exact H.elim
    | exact h _ _ _ _ _ _ _ H
    | exact zII_mono (fun _ _ _ H => h _ _ _ _ _ _ _ H) H
    | exact zII_mono (fun _ _ _ H => ⟨H.1, h _ _ _ _ _ _ _ H.2⟩) H
    | exact zLL_mono (fun _ _ _ H => h _ _ _ _ _ _ _ H) H
    | exact zLL_mono (fun _ _ _ H => ⟨H.1, h _ _ _ _ _ _ _ H.2⟩) H
    | exact zL_mono (fun _ _ H => h _ _ _ _ _ _ _ H) H
    | exact zI_mono (fun _ _ H => h _ _ _ _ _ _ _ H) H
    | exact zI_mono (fun _ _ H => zG_mono (h _ _ _ _ _ _ _) H) H
    | exact zL_mono (fun _ _ H => zG_mono (h _ _ _ _ _ _ _) H) H
    | exact zlI_mono (fun _ H => h _ _ _ _ _ _ _ H) H
    | exact zlL_mono (fun _ H => h _ _ _ _ _ _ _ H) H
    | exact zlR_mono (fun _ H => h _ _ _ _ _ _ _ H) (h _ _ _ _ _ _ _) H
    | exact zO_mono (fun _ _ H => zG_mono (h _ _ _ _ _ _ _) H) (fun _ H => zG_mono (h _ _ _ _ _ _ _) H) H
    | exact zlI_mono (fun _ H => zG_mono (h _ _ _ _ _ _ _) H) H
    | exact zOp_mono (fun _ H => h _ _ _ _ _ _ _ H) (zOf_mono fun _ H => h _ _ _ _ _ _ _ H) H
    | exact zOf_mono (fun _ H => h _ _ _ _ _ _ _ H) H
    | exact zV_mono (fun _ _ H => zG_mono (h _ _ _ _ _ _ _) H) H
    | exact zVV_mono (fun _ _ _ H => zG_mono (h _ _ _ _ _ _ _) H) H
    | exact zII_mono (fun _ _ _ H => zOf_mono (fun _ H => ⟨fun c => h _ _ _ _ _ _ _ (H.1 c), fun c => h _ _ _ _ _ _ _ (H.2 c)⟩) H) H
    | exact zI_mono (fun _ _ H => zOf_mono (fun _ H => ⟨fun c => h _ _ _ _ _ _ _ (H.1 c), fun c => h _ _ _ _ _ _ _ (H.2 c)⟩) H) H
    | exact zO_mono (fun _ _ H => h _ _ _ _ _ _ _ H) (fun _ H => zOf_mono (fun _ H => h _ _ _ _ _ _ _ H) H) H
    | exact zO_mono (fun _ _ H => zOf_mono (fun _ H => h _ _ _ _ _ _ _ H) H) (fun _ H => h _ _ _ _ _ _ _ H) H
    | exact zI_mono (fun _ _ H => ⟨fun c => zOf_mono (fun _ H => h _ _ _ _ _ _ _ H) (H.1 c), zSw_mono (fun _ H => zOf_mono (fun _ H => h _ _ _ _ _ _ _ H) H) _ _ H.2⟩) H
    | exact zI_mono (fun _ _ H => zLs_mono (fun _ H => zOf_mono (fun _ H => h _ _ _ _ _ _ _ H) H) _ H) H
    | exact zR_mono (fun _ _ H => ⟨H.1, h _ _ _ _ _ _ _ H.2⟩) H
    | exact zRI_mono (fun _ _ _ H => ⟨H.1, H.2.1, h _ _ _ _ _ _ _ H.2.2⟩) H
    | exact zRII_mono (fun _ _ _ _ H => ⟨H.1, H.2.1, h _ _ _ _ _ _ _ H.2.2⟩) H
    | exact zRII_mono (fun _ _ _ _ H => ⟨H.1, H.2.1, H.2.2.1, h _ _ _ _ _ _ _ H.2.2.2⟩) H
    | exact zRIL_mono (fun _ _ _ _ H => ⟨H.1, H.2.1, h _ _ _ _ _ _ _ H.2.2⟩) H
    | exact zRI_mono (fun _ _ _ H => ⟨H.1, H.2.1, zOp_mono (fun _ H => h _ _ _ _ _ _ _ H) (h _ _ _ _ _ _ _) H.2.2⟩) H
    | exact zRIO_mono (fun _ _ _ _ H => ⟨H.1, H.2.1, h _ _ _ _ _ _ _ H.2.2⟩) (fun _ _ _ H => ⟨H.1, H.2.1, h _ _ _ _ _ _ _ H.2.2⟩) H
    | exact zI_mono (fun _ _ H => zOf_mono (fun _ H => ⟨H.1, H.2.1, h _ _ _ _ _ _ _ H.2.2⟩) H) H
    | exact zCall_mono hQ h d M pc ls st σ Q (fun n => Nat.beq n 0 || Nat.beq n 7) _ H
    | exact zCall_mono hQ h d M pc ls st σ Q (fun n => Nat.beq n 1 || Nat.beq n 3) _ H
    | exact zCall_mono hQ h d M pc ls st σ Q (fun n => Nat.beq n 2 || Nat.beq n 6) _ H
    | exact H
    | skip
  · refine zOp_mono (fun q H => zR_mono (fun a r H => ⟨H.1, ?_⟩) H) (fun H => zOf_mono (fun q H => zR_mono (fun a r H => ⟨H.1, ?_⟩) H) H) H
    · have H := H.2
      revert H
      split <;> first | exact h _ _ _ _ _ _ _ | exact zOf_mono fun _ H => h _ _ _ _ _ _ _ H
    · have H := H.2
      revert H
      split <;> exact h _ _ _ _ _ _ _
  · refine zOf_mono (fun q H => ?_) H
    revert H
    split
    · exact h _ _ _ _ _ _ _
    · exact fun H => ⟨h _ _ _ _ _ _ _ H.1, h _ _ _ _ _ _ _ H.2⟩
  · refine zOf_mono (fun q H => zG_mono (fun H => ?_) H) H
    revert H
    split
    · exact zRI_mono fun _ _ _ H => ⟨H.1, h _ _ _ _ _ _ _ H.2⟩
    · exact zRL_mono fun _ _ _ H => ⟨H.1, h _ _ _ _ _ _ _ H.2⟩
    · exact zRI_mono fun _ _ _ H => ⟨H.1, H.2.1, h _ _ _ _ _ _ _ H.2.2⟩
    · exact zRR_mono fun _ _ _ H => ⟨H.1, h _ _ _ _ _ _ _ H.2⟩
theorem azPre_mono {R Rn Rn' : azP} (hQ : ∀ d M pc ls st σ Q Q', (∀ v σ1, Q v σ1 → Q' v σ1) → R d M pc ls st σ Q → R d M pc ls st σ Q') (h : ∀ d M pc ls st σ Q, Rn d M pc ls st σ Q → Rn' d M pc ls st σ Q) (d : Nat) (M : azM) (pc : Nat) (ls st : List Value) (σ : azS) (Q : azQ) : azPre R Rn d M pc ls st σ Q → azPre R Rn' d M pc ls st σ Q :=
  zOf_mono fun q => azStep_mono hQ h d M pc ls st σ Q q.1
def azRun (R : azP) (stops : List Nat) : Nat → azP
  | 0 => R
  | n + 1 => fun d M pc ls st σ Q => bif stops.any (fun k => Nat.beq k pc) then R d M pc ls st σ Q else azPre R (azRun R stops n) d M pc ls st σ Q
theorem azRun_ok {R : azP} (hR : azClosed R) (stops : List Nat) : ∀ n d M pc ls st σ Q, azRun R stops n d M pc ls st σ Q → R d M pc ls st σ Q
  | 0, _, _, _, _, _, _, _, H => H
  | n + 1, d, M, pc, ls, st, σ, Q, H => by
    unfold azRun at H
    revert H
    cases stops.any (fun k => Nat.beq k pc) with
    | true => exact id
    | false => exact fun H => hR.1 _ _ _ _ _ _ _ (azPre_mono hR.2 (azRun_ok hR stops n) _ _ _ _ _ _ _ H)
/-- n instructions at most, up to one of the stops -/
theorem azClosed.go {R : azP} (hR : azClosed R) (stops : List Nat) (n : Nat) {d : Nat} {M : azM} {pc : Nat} {ls st : List Value} {σ : azS} {Q : azQ} (H : azPre R (azRun R stops n) d M pc ls st σ Q) : R d M pc ls st σ Q :=
  hR.1 _ _ _ _ _ _ _ (azPre_mono hR.2 (azRun_ok hR stops n) _ _ _ _ _ _ _ H)
theorem azClosed.more {R : azP} (hR : azClosed R) {d : Nat} {M : azM} {pc : Nat} {ls st : List Value} {σ : azS} {Q Q' : azQ} (h : ∀ v σ1, Q v σ1 → Q' v σ1) (H : R d M pc ls st σ Q) : R d M pc ls st σ Q' := hR.2 _ _ _ _ _ _ _ _ h H
