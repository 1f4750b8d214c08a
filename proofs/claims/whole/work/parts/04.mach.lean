/-! THE ABSTRACT MACHINE: memory = cell, place ↦ Int32; references are cell numbers; a step is a predicate transformer, made of ∧, → and ∃ alone so that it is walked by constructors -/
abbrev Kt : Type := Nat → List Value → List Value → Mm → Prop
abbrev Qt : Type := Option Value → Mm → Prop
abbrev Ct : Type := Nat → List Value → Mm → Qt → Prop
abbrev Sc : Type := Option (Nat × (Nat → Int32))
def pI (st : List Value) (f : Int32 → List Value → Prop) : Prop := match st with
  | .int x :: st => f x st
  | _ => False
def pL (st : List Value) (f : Int64 → List Value → Prop) : Prop := match st with
  | .long x :: st => f x st
  | _ => False
def pR (st : List Value) (f : Nat → List Value → Prop) : Prop := match st with
  | .ref x :: st => f x st
  | _ => False
def vI (v : Value) (f : Int32 → Prop) : Prop := match v with
  | .int x => f x
  | _ => False
def vL (v : Value) (f : Int64 → Prop) : Prop := match v with
  | .long x => f x
  | _ => False
def vR (v : Value) (f : Nat → Prop) : Prop := match v with
  | .ref x => f x
  | _ => False
def lget : List Value → Nat → Value
  | [], _ => .null
  | v :: _, 0 => v
  | _ :: l, n + 1 => lget l n
def kil (w : Value) : Value := match w with
  | .long _ => .null
  | .double _ => .null
  | w => w
def lset : List Value → Nat → Value → List Value
  | [], _, _ => []
  | _ :: l, 0, v => v :: l
  | w :: l, 1, v => kil w :: lset l 0 v
  | w :: l, n + 2, v => w :: lset l (n + 1) v
def lset2 : List Value → Nat → Value → List Value
  | [], _, _ => []
  | [_], 0, v => [v]
  | _ :: _ :: l, 0, v => v :: .null :: l
  | w :: l, 1, v => kil w :: lset2 l 0 v
  | w :: l, n + 2, v => w :: lset2 l (n + 1) v
def up (σ : Mm) (k : Nat) (g : Nat → Int32) : Mm := fun j => if j = k then g else σ j
def wr (σ : Mm) (k i : Nat) (v : Int32) : Mm := up σ k (upd (σ k) i v)
def rpush (r : Option Value) (st : List Value) : List Value := match r with
  | some v => v :: st
  | none => st
/-- the texts of the constants -/
def sLen (i : Nat) : Nat := bif Nat.ble 2 i then (bif Nat.ble 3 i then 4 else 6) else (bif Nat.ble 1 i then 3 else 5)
def sByts : List (List Int32) := [[107, 119, 116, 97, 98], [101, 110, 100], [99, 104, 97, 110, 103, 101], [103, 97, 105, 110]]
def sByt (i : Nat) (j : Nat) : Int32 := (sByts.getD i []).getD j 0
def tyF (k : Nat) : FieldType := bif Nat.ble 2 k then (bif Nat.ble 4 k then (bif Nat.ble 5 k then .array .short else .array .int) else (bif Nat.ble 3 k then .short else .byte)) else (bif Nat.ble 1 k then .boolean else .int)
def brk (c A B : Prop) : Prop := (c → A) ∧ (¬ c → B)
def sws (x : Int) (K : Nat → Prop) (d : Nat) : List (Int × Nat) → Prop
  | [] => K d
  | q :: l => brk (x = q.1) (K q.2) (sws x K d l)
def ixs (i : Int32) (n : Nat) : Prop := 0 ≤ i.toInt ∧ i.toInt < (n : Int)
def nq : List (Option Nat) → Nat → Option (Option Nat)
  | [], _ => none
  | x :: _, 0 => some x
  | _ :: l, n + 1 => nq l n
def isb (x : Int32) : Prop := x.toInt = 0 ∨ x.toInt = 1
def retc (rt : Option FieldType) (x : Int32) : Prop := match rt with
  | some .int => True
  | some .boolean => isb x
  | some .char => 0 ≤ x.toInt ∧ x.toInt < 65536
  | some .byte => -128 ≤ x.toInt ∧ x.toInt < 128
  | _ => False
/-- the receiver is an object of the method's class -/
def rcv (as : List Value) (t : Nat) : Bool := match as with
  | .ref a :: _ => (match shq a with
    | some (.inl (ci, _)) => Nat.beq ci (mO t)
    | some _ => false
    | none => Nat.ble 2000 a && Nat.ble a 2003 && Nat.beq 20 (mO t))
  | _ => false
def fget (K : Value → Prop) (t u a : Nat) (σ : Mm) : Prop := match shq a with
  | some (.inl (ci, fs)) => bif Nat.beq ci (t % 100) then (match nq fs u with
    | some none => K (.int (σ a u))
    | some (some r) => K (.ref r)
    | none => False) else False
  | some _ => False
  | none => bif Nat.beq t 20 && Nat.ble 2000 a && Nat.ble a 2003 then (bif Nat.beq u 0 then K (.ref (a + 100)) else (bif Nat.beq u 1 then K (.int 0) else False)) else False
def fput (K : Mm → Prop) (t u a : Nat) (x : Int32) (σ : Mm) : Prop := match shq a with
  | some (.inl (ci, fs)) => bif Nat.beq ci (t % 100) then (match nq fs u with
    | some none => bif Nat.ble 100 t then (isb x ∧ K (wr σ a u x)) else K (wr σ a u x)
    | _ => False) else False
  | _ => False
def shN (ty a : Nat) : Option Nat := match shq a with
  | some (.inr (t, n, _)) => bif Nat.beq t ty then some n else none
  | _ => none
def rdI (scr : Sc) (σ : Mm) (a : Nat) : Option (Nat × (Nat → Int32)) := match shq a with
  | some (.inr (t, n, _)) => bif Nat.beq t 0 then some (n, σ a) else none
  | some _ => none
  | none => bif Nat.beq a 1000 then scr else none
def rdB (σ : Mm) (a : Nat) : Option (Nat × (Nat → Int32)) := match shq a with
  | some (.inr (t, n, _)) => bif Nat.beq t 1 || Nat.beq t 2 then some (n, σ a) else none
  | some _ => none
  | none => bif Nat.ble 2100 a && Nat.ble a 2103 then some (sLen (a - 2100), sByt (a - 2100)) else none
def rdA (a : Nat) : Option (Nat × Nat) := match shq a with
  | some (.inr (t, n, b)) => bif Nat.beq t 4 || Nat.beq t 5 then some (n, b) else none
  | _ => none
def rdN (scr : Sc) (a : Nat) : Option Nat := match shq a with
  | some (.inr (_, n, _)) => some n
  | some _ => none
  | none => bif Nat.beq a 1000 then (match scr with
    | some (L, _) => some L
    | none => none) else (bif Nat.ble 2100 a && Nat.ble a 2103 then some (sLen (a - 2100)) else none)
def aI (scr : Sc) (K : Int32 → Prop) (a : Nat) (i : Int32) (σ : Mm) : Prop := ∃ (n : Nat) (f : Nat → Int32), rdI scr σ a = some (n, f) ∧ ixs i n ∧ K (f i.toInt.toNat)
def aB (K : Int32 → Prop) (a : Nat) (i : Int32) (σ : Mm) : Prop := ∃ (n : Nat) (f : Nat → Int32), rdB σ a = some (n, f) ∧ ixs i n ∧ K (f i.toInt.toNat)
def aS (K : Int32 → Prop) (a : Nat) (i : Int32) (σ : Mm) : Prop := ∃ n : Nat, shN 3 a = some n ∧ ixs i n ∧ K (σ a i.toInt.toNat)
def aA (K : Nat → Prop) (a : Nat) (i : Int32) : Prop := ∃ n b : Nat, rdA a = some (n, b) ∧ ixs i n ∧ K (b + i.toInt.toNat)
def sI (K : Mm → Prop) (a : Nat) (i x : Int32) (σ : Mm) : Prop := ∃ n : Nat, shN 0 a = some n ∧ ixs i n ∧ K (wr σ a i.toInt.toNat x)
def sB (K : Mm → Prop) (a : Nat) (i x : Int32) (σ : Mm) : Prop := match shq a with
  | some (.inr (t, n, _)) => bif Nat.beq t 1 then (ixs i n ∧ isb x ∧ K (wr σ a i.toInt.toNat x)) else (bif Nat.beq t 2 then (ixs i n ∧ K (wr σ a i.toInt.toNat x.toInt8.toInt32)) else False)
  | _ => False
def sS (K : Mm → Prop) (a : Nat) (i x : Int32) (σ : Mm) : Prop := ∃ n : Nat, shN 3 a = some n ∧ ixs i n ∧ K (wr σ a i.toInt.toNat x.toInt16.toInt32)
def aN (scr : Sc) (K : Int32 → Prop) (a : Nat) : Prop := ∃ n : Nat, rdN scr a = some n ∧ K (nI n)
def cpy (K : Mm → Prop) (a b : Nat) (sp dp n : Int32) (σ : Mm) : Prop := ∃ ty n0 n1 : Nat, (Nat.ble ty 3 = true ∧ shN ty a = some n0 ∧ shN ty b = some n1) ∧ (0 ≤ sp.toInt ∧ 0 ≤ dp.toInt ∧ 0 ≤ n.toInt ∧ sp.toInt + n.toInt ≤ (n0 : Int) ∧ dp.toInt + n.toInt ≤ (n1 : Int)) ∧ K (up σ b (va_cpy (σ a) (σ b) sp.toInt.toNat dp.toInt.toNat n.toInt.toNat))
def slw : List Value → Nat
  | [] => 0
  | .long _ :: l => slw l + 2
  | .double _ :: l => slw l + 2
  | _ :: l => slw l + 1
def inc (t u : Nat) (st : List Value) : Bool := Nat.ble (slw (st.take u)) (mL t) && Nat.beq (st.take u).length u && Nat.ble (st.drop u).length 4
def inv (call : Ct) (K : Option Value → List Value → Mm → Prop) (t u : Nat) (st : List Value) (σ : Mm) : Prop :=
  inc t u st = true ∧ call t (st.take u).reverse σ (fun r σ' => K r (st.drop u) σ')
def mmx (x y : Int32) : Int32 := if x < y then y else x
def mmn (x y : Int32) : Int32 := if y < x then y else x
def mml (x y : Int64) : Int64 := if y < x then y else x
/-- library members that the machine does itself: arraycopy, Math.max, min, min of longs -/
def spc (K : List Value → Mm → Prop) (t : Nat) (st : List Value) (σ : Mm) : Prop := bif Nat.beq t 903 then (pI st fun n st => pI st fun dp st => pR st fun b st => pI st fun sp st => pR st fun a st => Nat.ble st.length 4 = true ∧ cpy (fun σ' => K st σ') a b sp dp n σ) else
  bif Nat.beq t 904 then (pI st fun y st => pI st fun x st => Nat.ble st.length 4 = true ∧ K (.int (mmx x y) :: st) σ) else
  bif Nat.beq t 905 then (pI st fun y st => pI st fun x st => Nat.ble st.length 4 = true ∧ K (.int (mmn x y) :: st) σ) else
  bif Nat.beq t 906 then (pL st fun y st => pL st fun x st => Nat.ble st.length 4 = true ∧ K (.long (mml x y) :: st) σ) else False
def stp (call : Ct) (scr : Sc) (rt : Option FieldType) (Q : Qt) (K : Kt) (ls st : List Value) (σ : Mm) (i : Instr) (nx : Nat) (v : Int32) (t u : Nat) : Prop := match i with
  | .iconst _ => K nx ls (.int v :: st) σ
  | .bipush _ => K nx ls (.int v :: st) σ
  | .sipush _ => K nx ls (.int v :: st) σ
  | .ldc _ => bif Nat.beq t 0 then K nx ls (.int v :: st) σ else K nx ls (.ref t :: st) σ
  | .ldc_w _ => K nx ls (.int v :: st) σ
  | .lconst _ => bif Nat.beq t 0 then K nx ls (.long 0 :: st) σ else K nx ls (.long 1 :: st) σ
  | .iload_n _ => vI (lget ls t) fun x => K nx ls (.int x :: st) σ
  | .iload _ => vI (lget ls t) fun x => K nx ls (.int x :: st) σ
  | .lload_n _ => vL (lget ls t) fun x => K nx ls (.long x :: st) σ
  | .lload _ => vL (lget ls t) fun x => K nx ls (.long x :: st) σ
  | .aload_n _ => vR (lget ls t) fun x => K nx ls (.ref x :: st) σ
  | .aload _ => vR (lget ls t) fun x => K nx ls (.ref x :: st) σ
  | .istore_n _ => pI st fun x st => K nx (lset ls t (.int x)) st σ
  | .istore _ => pI st fun x st => K nx (lset ls t (.int x)) st σ
  | .lstore_n _ => pL st fun x st => K nx (lset2 ls t (.long x)) st σ
  | .lstore _ => pL st fun x st => K nx (lset2 ls t (.long x)) st σ
  | .iinc _ _ => vI (lget ls t) fun x => K nx (lset ls t (.int (x + v))) st σ
  | .dup => (match st with
    | .int x :: st => K nx ls (.int x :: .int x :: st) σ
    | .ref x :: st => K nx ls (.ref x :: .ref x :: st) σ
    | _ => False)
  | .dup2 => pI st fun x st => pR st fun a st => K nx ls (.int x :: .ref a :: .int x :: .ref a :: st) σ
  | .pop => pI st fun _ st => K nx ls st σ
  | .iadd => pI st fun y st => pI st fun x st => K nx ls (.int (x + y) :: st) σ
  | .isub => pI st fun y st => pI st fun x st => K nx ls (.int (x - y) :: st) σ
  | .imul => pI st fun y st => pI st fun x st => K nx ls (.int (x * y) :: st) σ
  | .iand => pI st fun y st => pI st fun x st => K nx ls (.int (x &&& y) :: st) σ
  | .idiv => pI st fun y st => pI st fun x st => ¬ y.toInt = 0 ∧ K nx ls (.int (x / y) :: st) σ
  | .irem => pI st fun y st => pI st fun x st => ¬ y.toInt = 0 ∧ K nx ls (.int (x - x / y * y) :: st) σ
  | .ishr => pI st fun y st => pI st fun x st => K nx ls (.int (x >>> (y &&& 31)) :: st) σ
  | .iushr => pI st fun y st => pI st fun x st => K nx ls (.int (x.toUInt32 >>> (y.toUInt32 &&& Int32.toUInt32 31)).toInt32 :: st) σ
  | .ineg => pI st fun x st => K nx ls (.int (-x) :: st) σ
  | .ladd => pL st fun y st => pL st fun x st => K nx ls (.long (x + y) :: st) σ
  | .lsub => pL st fun y st => pL st fun x st => K nx ls (.long (x - y) :: st) σ
  | .lmul => pL st fun y st => pL st fun x st => K nx ls (.long (x * y) :: st) σ
  | .ldiv => pL st fun y st => pL st fun x st => ¬ y.toInt = 0 ∧ K nx ls (.long (x / y) :: st) σ
  | .lcmp => pL st fun y st => pL st fun x st => K nx ls (.int (lg_cmp x y) :: st) σ
  | .i2l => pI st fun x st => K nx ls (.long x.toInt64 :: st) σ
  | .l2i => pL st fun x st => K nx ls (.int x.toInt32 :: st) σ
  | .i2b => pI st fun x st => K nx ls (.int x.toInt8.toInt32 :: st) σ
  | .i2s => pI st fun x st => K nx ls (.int x.toInt16.toInt32 :: st) σ
  | .i2c => pI st fun x st => K nx ls (.int (x.toUInt32 % 65536).toInt32 :: st) σ
  | .goto _ => K t ls st σ
  | .ifCond c _ => pI st fun x st => (match c with
    | .eq => brk (x.toInt = 0) (K t ls st σ) (K nx ls st σ)
    | .ne => brk (x.toInt = 0) (K nx ls st σ) (K t ls st σ)
    | .lt => brk (x.toInt < 0) (K t ls st σ) (K nx ls st σ)
    | .ge => brk (x.toInt < 0) (K nx ls st σ) (K t ls st σ)
    | .gt => brk (0 < x.toInt) (K t ls st σ) (K nx ls st σ)
    | .le => brk (0 < x.toInt) (K nx ls st σ) (K t ls st σ))
  | .if_icmp c _ => pI st fun y st => pI st fun x st => (match c with
    | .eq => brk (x.toInt = y.toInt) (K t ls st σ) (K nx ls st σ)
    | .ne => brk (x.toInt = y.toInt) (K nx ls st σ) (K t ls st σ)
    | .lt => brk (x.toInt < y.toInt) (K t ls st σ) (K nx ls st σ)
    | .ge => brk (x.toInt < y.toInt) (K nx ls st σ) (K t ls st σ)
    | .gt => brk (y.toInt < x.toInt) (K t ls st σ) (K nx ls st σ)
    | .le => brk (y.toInt < x.toInt) (K nx ls st σ) (K t ls st σ))
  | .tableswitch _ _ _ _ => pI st fun x st => sws x.toInt (fun q => K q ls st σ) t (swl u)
  | .lookupswitch _ _ => pI st fun x st => sws x.toInt (fun q => K q ls st σ) t (swl u)
  | .getfield _ => pR st fun a st => fget (fun w => K nx ls (w :: st) σ) t u a σ
  | .putfield _ => pI st fun x st => pR st fun a st => fput (fun σ' => K nx ls st σ') t u a x σ
  | .getstatic _ => bif Nat.beq t 0 then K nx ls (.int 1 :: st) σ else K nx ls (.retAddr 0 :: st) σ
  | .iaload => pI st fun x st => pR st fun a st => aI scr (fun w => K nx ls (.int w :: st) σ) a x σ
  | .baload => pI st fun x st => pR st fun a st => aB (fun w => K nx ls (.int w :: st) σ) a x σ
  | .saload => pI st fun x st => pR st fun a st => aS (fun w => K nx ls (.int w :: st) σ) a x σ
  | .aaload => pI st fun x st => pR st fun a st => aA (fun w => K nx ls (.ref w :: st) σ) a x
  | .iastore => pI st fun w st => pI st fun x st => pR st fun a st => sI (fun σ' => K nx ls st σ') a x w σ
  | .bastore => pI st fun w st => pI st fun x st => pR st fun a st => sB (fun σ' => K nx ls st σ') a x w σ
  | .sastore => pI st fun w st => pI st fun x st => pR st fun a st => sS (fun σ' => K nx ls st σ') a x w σ
  | .arraylength => pR st fun a st => aN scr (fun w => K nx ls (.int w :: st) σ) a
  | .invokevirtual _ => rcv (st.take u).reverse t = true ∧ inv call (fun r st σ' => K nx ls (rpush r st) σ') t u st σ
  | .invokestatic _ => bif Nat.ble 903 t then spc (fun st σ' => K nx ls st σ') t st σ else inv call (fun r st σ' => K nx ls (rpush r st) σ') t u st σ
  | .ireturn => pI st fun x st => st = [] ∧ retc rt x ∧ Q (some (.int x)) σ
  | .lreturn => pL st fun x st => st = [] ∧ rt = some .long ∧ Q (some (.long x)) σ
  | .areturn => pR st fun x st => st = [] ∧ rt = some (.array .int) ∧ Q (some (.ref x)) σ
  | .return_ => st = [] ∧ rt = none ∧ Q none σ
  | _ => False
/-- one step at a place of a code -/
def st1 (call : Ct) (scr : Sc) (rt : Option FieldType) (cd : Nat → Option Ae) (Q : Qt) (K : Kt) : Kt := fun pc ls st σ => match cd pc with
  | some (i, nx, v, t, u) => stp call scr rt Q K ls st σ i nx v t u
  | none => False
/-- X is closed under steps backwards -/
def Clo (call : Ct) (scr : Sc) (rt : Option FieldType) (cd : Nat → Option Ae) (Q : Qt) (X : Kt) : Prop := ∀ pc ls st σ, st1 call scr rt cd Q X pc ls st σ → X pc ls st σ
/-- the least set of places from which Q comes -/
def RunC (call : Ct) (scr : Sc) (rt : Option FieldType) (cd : Nat → Option Ae) (Q : Qt) : Kt := fun pc ls st σ => ∀ X : Kt, Clo call scr rt cd Q X → X pc ls st σ
/-- entry locals: the arguments, a long of two places; then nothing known -/
def ent : Nat → List Value → List Value
  | n, [] => List.replicate n .null
  | n, .long x :: l => .long x :: .null :: ent (n - 2) l
  | n, .double x :: l => .double x :: .null :: ent (n - 2) l
  | n, v :: l => v :: ent (n - 1) l
def Call : Nat → Ct
  | 0 => fun _ _ _ _ => False
  | d + 1 => fun t as σ Q => RunC (Call d) none (mR t) (mE t) Q 0 (ent (mL t) as) [] σ
/-- n steps, but none from a place that is cut -/
noncomputable def ex (call : Ct) (scr : Sc) (rt : Option FieldType) (cd : Nat → Option Ae) (cut : Nat → Bool) (Q : Qt) (X : Kt) (n : Nat) : Kt := Nat.rec X (fun _ K pc ls st σ => bif cut pc then X pc ls st σ else st1 call scr rt cd Q K pc ls st σ) n
def cu (l : List Nat) (pc : Nat) : Bool := match l with
  | [] => false
  | k :: l => Nat.beq pc k || cu l pc
-- monotone
theorem pI_m {st : List Value} {f g : Int32 → List Value → Prop} (h : ∀ x s, f x s → g x s) : pI st f → pI st g := by
  unfold pI
  split
  · exact h _ _
  · exact id
theorem pL_m {st : List Value} {f g : Int64 → List Value → Prop} (h : ∀ x s, f x s → g x s) : pL st f → pL st g := by
  unfold pL
  split
  · exact h _ _
  · exact id
theorem pR_m {st : List Value} {f g : Nat → List Value → Prop} (h : ∀ x s, f x s → g x s) : pR st f → pR st g := by
  unfold pR
  split
  · exact h _ _
  · exact id
theorem vI_m {v : Value} {f g : Int32 → Prop} (h : ∀ x, f x → g x) : vI v f → vI v g := by
  unfold vI
  split
  · exact h _
  · exact id
theorem vL_m {v : Value} {f g : Int64 → Prop} (h : ∀ x, f x → g x) : vL v f → vL v g := by
  unfold vL
  split
  · exact h _
  · exact id
theorem vR_m {v : Value} {f g : Nat → Prop} (h : ∀ x, f x → g x) : vR v f → vR v g := by
  unfold vR
  split
  · exact h _
  · exact id
theorem and_m {a b c : Prop} (h : b → c) : a ∧ b → a ∧ c := fun q => ⟨q.1, h q.2⟩
theorem ex_m {α : Sort _} {f g : α → Prop} (h : ∀ x, f x → g x) : (∃ x, f x) → ∃ x, g x := fun ⟨x, q⟩ => ⟨x, h x q⟩
theorem brk_m {c A B A' B' : Prop} (h : A → A') (h2 : B → B') : brk c A B → brk c A' B' := fun q => ⟨fun z => h (q.1 z), fun z => h2 (q.2 z)⟩
theorem bif_m {c : Bool} {a b a' b' : Prop} (h : a → a') (h2 : b → b') : (bif c then a else b) → (bif c then a' else b') := by
  cases c
  · exact h2
  · exact h
theorem sws_m {x : Int} {f g : Nat → Prop} {d : Nat} (h : ∀ x, f x → g x) : ∀ l, sws x f d l → sws x g d l
  | [] => h _
  | _ :: l => brk_m (h _) (sws_m h l)
theorem fget_m {f g : Value → Prop} {t u a : Nat} {σ : Mm} (h : ∀ x, f x → g x) : fget f t u a σ → fget g t u a σ := by
  unfold fget
  split
  · refine bif_m ?_ id
    split
    · exact h _
    · exact h _
    · exact id
  · exact id
  · exact bif_m (bif_m (h _) (bif_m (h _) id)) id
theorem fput_m {f g : Mm → Prop} {t u a : Nat} {x : Int32} {σ : Mm} (h : ∀ x, f x → g x) : fput f t u a x σ → fput g t u a x σ := by
  unfold fput
  split
  · refine bif_m ?_ id
    split
    · exact bif_m (and_m (h _)) (h _)
    · exact id
  · exact id
theorem aI_m {scr : Sc} {f g : Int32 → Prop} {a : Nat} {i : Int32} {σ : Mm} (h : ∀ x, f x → g x) : aI scr f a i σ → aI scr g a i σ := ex_m fun _ => ex_m fun _ => and_m (and_m (h _))
theorem aB_m {f g : Int32 → Prop} {a : Nat} {i : Int32} {σ : Mm} (h : ∀ x, f x → g x) : aB f a i σ → aB g a i σ := ex_m fun _ => ex_m fun _ => and_m (and_m (h _))
theorem aS_m {f g : Int32 → Prop} {a : Nat} {i : Int32} {σ : Mm} (h : ∀ x, f x → g x) : aS f a i σ → aS g a i σ := ex_m fun _ => and_m (and_m (h _))
theorem aA_m {f g : Nat → Prop} {a : Nat} {i : Int32} (h : ∀ x, f x → g x) : aA f a i → aA g a i := ex_m fun _ => ex_m fun _ => and_m (and_m (h _))
theorem sI_m {f g : Mm → Prop} {a : Nat} {i x : Int32} {σ : Mm} (h : ∀ x, f x → g x) : sI f a i x σ → sI g a i x σ := ex_m fun _ => and_m (and_m (h _))
theorem sB_m {f g : Mm → Prop} {a : Nat} {i x : Int32} {σ : Mm} (h : ∀ x, f x → g x) : sB f a i x σ → sB g a i x σ := by
  unfold sB
  split
  · exact bif_m (and_m (and_m (h _))) (bif_m (and_m (h _)) id)
  · exact id
theorem sS_m {f g : Mm → Prop} {a : Nat} {i x : Int32} {σ : Mm} (h : ∀ x, f x → g x) : sS f a i x σ → sS g a i x σ := ex_m fun _ => and_m (and_m (h _))
theorem aN_m {scr : Sc} {f g : Int32 → Prop} {a : Nat} (h : ∀ x, f x → g x) : aN scr f a → aN scr g a := ex_m fun _ => and_m (h _)
theorem cpy_m {f g : Mm → Prop} {a b : Nat} {sp dp n : Int32} {σ : Mm} (h : ∀ x, f x → g x) : cpy f a b sp dp n σ → cpy g a b sp dp n σ := ex_m fun _ => ex_m fun _ => ex_m fun _ => and_m (and_m (h _))
theorem spc_m {f g : List Value → Mm → Prop} {t : Nat} {st : List Value} {σ : Mm} (h : ∀ s x, f s x → g s x) : spc f t st σ → spc g t st σ := bif_m (pI_m fun _ _ => pI_m fun _ _ => pR_m fun _ _ => pI_m fun _ _ => pR_m fun _ _ => and_m (cpy_m (fun _ => h _ _))) (bif_m (pI_m fun _ _ => pI_m fun _ _ => and_m (h _ _)) (bif_m (pI_m fun _ _ => pI_m fun _ _ => and_m (h _ _)) (bif_m (pL_m fun _ _ => pL_m fun _ _ => and_m (h _ _)) id)))
def cmono (call : Ct) : Prop := ∀ (t : Nat) (as : List Value) (σ : Mm) (Q Q' : Qt), (∀ r σ, Q r σ → Q' r σ) → call t as σ Q → call t as σ Q'
theorem inv_m {call call' : Ct} (hc : ∀ (t : Nat) (as : List Value) (σ : Mm) (Q Q' : Qt), (∀ r σ, Q r σ → Q' r σ) → call t as σ Q → call' t as σ Q') {f g : Option Value → List Value → Mm → Prop} {t u : Nat} {st : List Value} {σ : Mm} (h : ∀ r s x, f r s x → g r s x) : inv call f t u st σ → inv call' g t u st σ := and_m (hc _ _ _ _ _ (fun _ _ => h _ _ _))
theorem stp_m {call call' : Ct} (hc : ∀ (t : Nat) (as : List Value) (σ : Mm) (Q Q' : Qt), (∀ r σ, Q r σ → Q' r σ) → call t as σ Q → call' t as σ Q') {scr : Sc} {rt : Option FieldType} {Q Q' : Qt} {K K' : Kt} (hQ : ∀ r σ, Q r σ → Q' r σ) (hK : ∀ pc ls st σ, K pc ls st σ → K' pc ls st σ) {ls st : List Value} {σ : Mm} {i : Instr} {nx : Nat} {v : Int32} {t u : Nat} : stp call scr rt Q K ls st σ i nx v t u → stp call' scr rt Q' K' ls st σ i nx v t u := by
  cases i <;> first
    | exact id
    | exact hK _ _ _ _
    | exact bif_m (hK _ _ _ _) (hK _ _ _ _)
    | exact vI_m (fun _ => hK _ _ _ _)
    | exact vL_m (fun _ => hK _ _ _ _)
    | exact vR_m (fun _ => hK _ _ _ _)
    | exact pI_m (fun _ _ => hK _ _ _ _)
    | exact pL_m (fun _ _ => hK _ _ _ _)
    | exact pI_m (fun _ _ => pI_m (fun _ _ => hK _ _ _ _))
    | exact pL_m (fun _ _ => pL_m (fun _ _ => hK _ _ _ _))
    | exact pI_m (fun _ _ => pI_m (fun _ _ => and_m (hK _ _ _ _)))
    | exact pL_m (fun _ _ => pL_m (fun _ _ => and_m (hK _ _ _ _)))
    | exact pI_m (fun _ _ => pR_m (fun _ _ => hK _ _ _ _))
    | exact pI_m (fun _ _ => sws_m (fun _ => hK _ _ _ _) _)
    | exact pR_m (fun _ _ => fget_m (fun _ => hK _ _ _ _))
    | exact pI_m (fun _ _ => pR_m (fun _ _ => fput_m (fun _ => hK _ _ _ _)))
    | exact pI_m (fun _ _ => pR_m (fun _ _ => aI_m (fun _ => hK _ _ _ _)))
    | exact pI_m (fun _ _ => pR_m (fun _ _ => aB_m (fun _ => hK _ _ _ _)))
    | exact pI_m (fun _ _ => pR_m (fun _ _ => aS_m (fun _ => hK _ _ _ _)))
    | exact pI_m (fun _ _ => pR_m (fun _ _ => aA_m (fun _ => hK _ _ _ _)))
    | exact pI_m (fun _ _ => pI_m (fun _ _ => pR_m (fun _ _ => sI_m (fun _ => hK _ _ _ _))))
    | exact pI_m (fun _ _ => pI_m (fun _ _ => pR_m (fun _ _ => sB_m (fun _ => hK _ _ _ _))))
    | exact pI_m (fun _ _ => pI_m (fun _ _ => pR_m (fun _ _ => sS_m (fun _ => hK _ _ _ _))))
    | exact pR_m (fun _ _ => aN_m (fun _ => hK _ _ _ _))
    | exact and_m (inv_m hc (fun _ _ _ => hK _ _ _ _))
    | exact bif_m (spc_m (fun _ _ => hK _ _ _ _)) (inv_m hc (fun _ _ _ => hK _ _ _ _))
    | exact pI_m (fun _ _ => and_m (and_m (hQ _ _)))
    | exact pL_m (fun _ _ => and_m (and_m (hQ _ _)))
    | exact pR_m (fun _ _ => and_m (and_m (hQ _ _)))
    | exact and_m (and_m (hQ _ _))
    | (refine pI_m (fun _ _ => ?_); split <;> exact brk_m (hK _ _ _ _) (hK _ _ _ _))
    | (refine pI_m (fun _ _ => pI_m (fun _ _ => ?_)); split <;> exact brk_m (hK _ _ _ _) (hK _ _ _ _))
    | (simp only [stp]; split <;> first | exact hK _ _ _ _ | exact id)
theorem st1_m {call call' : Ct} (hc : ∀ (t : Nat) (as : List Value) (σ : Mm) (Q Q' : Qt), (∀ r σ, Q r σ → Q' r σ) → call t as σ Q → call' t as σ Q') {scr : Sc} {rt : Option FieldType} {cd : Nat → Option Ae} {Q Q' : Qt} {K K' : Kt} (hQ : ∀ r σ, Q r σ → Q' r σ) (hK : ∀ pc ls st σ, K pc ls st σ → K' pc ls st σ) {pc : Nat} {ls st : List Value} {σ : Mm} : st1 call scr rt cd Q K pc ls st σ → st1 call' scr rt cd Q' K' pc ls st σ := by
  unfold st1
  split
  · exact stp_m hc hQ hK
  · exact id
theorem RunC_m {call call' : Ct} (hc : ∀ (t : Nat) (as : List Value) (σ : Mm) (Q Q' : Qt), (∀ r σ, Q r σ → Q' r σ) → call t as σ Q → call' t as σ Q') {scr : Sc} {rt : Option FieldType} {cd : Nat → Option Ae} {Q Q' : Qt} (hQ : ∀ r σ, Q r σ → Q' r σ) {pc : Nat} {ls st : List Value} {σ : Mm} (h : RunC call scr rt cd Q pc ls st σ) : RunC call' scr rt cd Q' pc ls st σ := fun X hX => h X (fun _ _ _ _ q => hX _ _ _ _ (st1_m hc hQ (fun _ _ _ _ z => z) q))
theorem Call_m : ∀ d, cmono (Call d)
  | 0 => fun _ _ _ _ _ _ h => h
  | d + 1 => fun _ _ _ _ _ hQ h => RunC_m (Call_m d) hQ h
/-- deeper is no less -/
theorem Call_s : ∀ d (t : Nat) (as : List Value) (σ : Mm) (Q Q' : Qt), (∀ r σ, Q r σ → Q' r σ) → Call d t as σ Q → Call (d + 1) t as σ Q'
  | 0 => fun _ _ _ _ _ _ h => h.elim
  | d + 1 => fun _ _ _ _ _ hQ h => RunC_m (Call_s d) hQ h
theorem Call_up {d : Nat} {t : Nat} {as : List Value} {σ : Mm} {Q : Qt} (h : Call d t as σ Q) : ∀ k, Call (d + k) t as σ Q
  | 0 => h
  | k + 1 => Call_s (d + k) _ _ _ _ _ (fun _ _ z => z) (Call_up h k)
theorem ex_ok {call : Ct} (hc : cmono call) {scr : Sc} {rt : Option FieldType} {cd : Nat → Option Ae} {cut : Nat → Bool} {Q : Qt} {X : Kt} (hX : Clo call scr rt cd Q X) : ∀ (n pc : Nat) (ls st : List Value) (σ : Mm), ex call scr rt cd cut Q X n pc ls st σ → X pc ls st σ := by
  intro n
  induction n with
  | zero => intro pc ls st σ h; exact h
  | succ n ih =>
    intro pc ls st σ h
    have h : bif cut pc then X pc ls st σ else st1 call scr rt cd Q (ex call scr rt cd cut Q X n) pc ls st σ := h
    cases hk : cut pc with
    | true => rw [hk] at h; exact h
    | false => rw [hk] at h; exact hX _ _ _ _ (st1_m hc (fun _ _ z => z) ih h)
/-- walk from a place: the first step is taken, cut or not -/
theorem go {d : Nat} {scr : Sc} {rt : Option FieldType} {cd : Nat → Option Ae} {Q : Qt} {X : Kt} (cut : List Nat) (n : Nat) (hX : Clo (Call d) scr rt cd Q X) {pc : Nat} {ls st : List Value} {σ : Mm} (h : st1 (Call d) scr rt cd Q (ex (Call d) scr rt cd (cu cut) Q X n) pc ls st σ) : X pc ls st σ := hX _ _ _ _ (st1_m (Call_m d) (fun _ _ z => z) (ex_ok (Call_m d) hX n) h)
/-- a call is a walk of its code -/
theorem Call_go {d t : Nat} {as : List Value} {σ : Mm} {Q : Qt} (h : ∀ X : Kt, Clo (Call d) none (mR t) (mE t) Q X → X 0 (ent (mL t) as) [] σ) : Call (d + 1) t as σ Q := h
/-- a call without loops, walked at once -/
theorem Call_st {d t : Nat} {as : List Value} {σ : Mm} {Q : Qt} (n : Nat) (h : ∀ X : Kt, Clo (Call d) none (mR t) (mE t) Q X → st1 (Call d) none (mR t) (mE t) Q (ex (Call d) none (mR t) (mE t) (cu []) Q X n) 0 (ent (mL t) as) [] σ) : Call (d + 1) t as σ Q := fun X hX => go [] n hX (h X hX)
