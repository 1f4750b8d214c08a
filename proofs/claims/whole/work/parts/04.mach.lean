/-! THE ABSTRACT MACHINE: memory = cell, place ↦ Int32; references are cell numbers; a step is a predicate transformer -/
abbrev Kt : Type := Nat → List Value → List Value → Mm → Prop
abbrev Qt : Type := Option Value → Mm → Prop
abbrev Ct : Type := Nat → List Value → Mm → Qt → Prop
abbrev Sc : Type := Option (Nat × (Nat → Int32))
def pI (st : List Value) (f : Int32 → List Value → Prop) : Prop := match st with
  | .int x :: st => f x st
  | _ => False
def pL (st : List Value) (f : Int64 → List Value → Prop) : Prop := match st with
  | .long x :: st => f x st
  | _ => False
def pR (st : List Value) (f : Nat → List Value → Prop) : Prop := match st with
  | .ref x :: st => f x st
  | _ => False
def vI (v : Value) (f : Int32 → Prop) : Prop := match v with
  | .int x => f x
  | _ => False
def vL (v : Value) (f : Int64 → Prop) : Prop := match v with
  | .long x => f x
  | _ => False
def vR (v : Value) (f : Nat → Prop) : Prop := match v with
  | .ref x => f x
  | _ => False
def lget : List Value → Nat → Value
  | [], _ => .null
  | v :: _, 0 => v
  | _ :: l, n + 1 => lget l n
def lset : List Value → Nat → Value → List Value
  | [], _, _ => []
  | _ :: l, 0, v => v :: l
  | .long _ :: l, 1, v => .null :: lset l 0 v
  | w :: l, n + 1, v => w :: lset l n v
def lset2 : List Value → Nat → Value → List Value
  | [], _, _ => []
  | _ :: _ :: l, 0, v => v :: .null :: l
  | [_], 0, v => [v]
  | .long _ :: l, 1, v => .null :: lset2 l 0 v
  | w :: l, n + 1, v => w :: lset2 l n v
def up (σ : Mm) (k : Nat) (g : Nat → Int32) : Mm := fun j => if j = k then g else σ j
def wr (σ : Mm) (k i : Nat) (v : Int32) : Mm := up σ k (upd (σ k) i v)
def rpush (r : Option Value) (st : List Value) : List Value := match r with
  | some v => v :: st
  | none => st
/-- the texts of the constants -/
def sLen (i : Nat) : Nat := bif Nat.ble 2 i then (bif Nat.ble 3 i then 4 else 6) else (bif Nat.ble 1 i then 3 else 5)
def sLens : List Nat := [5, 3, 6, 4]
def sByts : List (List Int32) := [[107, 119, 116, 97, 98], [101, 110, 100], [99, 104, 97, 110, 103, 101], [103, 97, 105, 110]]
def sByt (i : Nat) (j : Nat) : Int32 := (sByts.getD i []).getD j 0
def tyF (k : Nat) : FieldType := bif Nat.ble 2 k then (bif Nat.ble 4 k then (bif Nat.ble 5 k then .array .short else .array .int) else (bif Nat.ble 3 k then .short else .byte)) else (bif Nat.ble 1 k then .boolean else .int)
def retc (rt : Option FieldType) (x : Int32) : Prop := match rt with
  | some .int => True
  | some .boolean => x = 0 ∨ x = 1
  | some ty => narrow ty (.int x) = .int x
  | none => False
/-- the receiver is an object of the method's class -/
def rcv (as : List Value) (t : Nat) : Bool := match as with
  | .ref a :: _ => (match shq a with
    | some (.inl (ci, _)) => Nat.beq ci (mO t)
    | some _ => false
    | none => Nat.ble 2000 a && Nat.ble a 2003 && Nat.beq 20 (mO t))
  | _ => false
def fget (K : Value → Prop) (t a : Nat) (σ : Mm) : Prop := match shq a with
  | some (.inl (ci, fs)) => Nat.beq ci (t % 10000 / 100) = true ∧ (match fs[t % 100]? with
    | some none => K (.int (σ a (t % 100)))
    | some (some r) => K (.ref r)
    | none => False)
  | some _ => False
  | none => Nat.ble 20000 t = true ∧ Nat.ble 2000 a = true ∧ Nat.ble a 2003 = true ∧ (bif Nat.beq t 20000 then K (.ref (a + 100)) else K (.int 0))
def fput (K : Mm → Prop) (t a : Nat) (x : Int32) (σ : Mm) : Prop := match shq a with
  | some (.inl (ci, fs)) => Nat.beq ci (t % 10000 / 100) = true ∧ fs[t % 100]? = some none ∧ (bif Nat.ble 10000 t then ((x = 0 ∨ x = 1) ∧ K (wr σ a (t % 100) x)) else K (wr σ a (t % 100) x))
  | _ => False
def aI (scr : Sc) (K : Int32 → Prop) (a : Nat) (i : Int32) (σ : Mm) : Prop := match shq a with
  | some (.inr (0, n, _)) => vp_in i n ∧ K (σ a i.toNatClampNeg)
  | some _ => False
  | none => (match scr with
    | some (L, xs) => a = 1000 ∧ vp_in i L ∧ K (xs i.toNatClampNeg)
    | none => False)
def aB (K : Int32 → Prop) (a : Nat) (i : Int32) (σ : Mm) : Prop := match shq a with
  | some (.inr (1, n, _)) => vp_in i n ∧ K (σ a i.toNatClampNeg)
  | some (.inr (2, n, _)) => vp_in i n ∧ K (σ a i.toNatClampNeg)
  | some _ => False
  | none => Nat.ble 2100 a = true ∧ Nat.ble a 2103 = true ∧ vp_in i (sLen (a - 2100)) ∧ K (sByt (a - 2100) i.toNatClampNeg)
def aS (K : Int32 → Prop) (a : Nat) (i : Int32) (σ : Mm) : Prop := match shq a with
  | some (.inr (3, n, _)) => vp_in i n ∧ K (σ a i.toNatClampNeg)
  | _ => False
def aA (K : Nat → Prop) (a : Nat) (i : Int32) : Prop := match shq a with
  | some (.inr (4, n, b)) => vp_in i n ∧ K (b + i.toNatClampNeg)
  | some (.inr (5, n, b)) => vp_in i n ∧ K (b + i.toNatClampNeg)
  | _ => False
def sI (K : Mm → Prop) (a : Nat) (i x : Int32) (σ : Mm) : Prop := match shq a with
  | some (.inr (0, n, _)) => vp_in i n ∧ K (wr σ a i.toNatClampNeg x)
  | _ => False
def sB (K : Mm → Prop) (a : Nat) (i x : Int32) (σ : Mm) : Prop := match shq a with
  | some (.inr (1, n, _)) => vp_in i n ∧ (x = 0 ∨ x = 1) ∧ K (wr σ a i.toNatClampNeg x)
  | some (.inr (2, n, _)) => vp_in i n ∧ K (wr σ a i.toNatClampNeg x.toInt8.toInt32)
  | _ => False
def sS (K : Mm → Prop) (a : Nat) (i x : Int32) (σ : Mm) : Prop := match shq a with
  | some (.inr (3, n, _)) => vp_in i n ∧ K (wr σ a i.toNatClampNeg x.toInt16.toInt32)
  | _ => False
def aN (scr : Sc) (K : Int32 → Prop) (a : Nat) : Prop := match shq a with
  | some (.inr (_, n, _)) => K (Int32.ofNat n)
  | some _ => False
  | none => (bif Nat.beq a 1000 then (match scr with
    | some (L, _) => K (Int32.ofNat L)
    | none => False) else (Nat.ble 2100 a = true ∧ Nat.ble a 2103 = true ∧ K (Int32.ofNat (sLen (a - 2100)))))
def cpy (K : Mm → Prop) (a b : Nat) (sp dp n : Int32) (σ : Mm) : Prop := match shq a, shq b with
  | some (.inr (ty, n0, _)), some (.inr (ty', n1, _)) => Nat.beq ty ty' = true ∧ Nat.ble ty 3 = true ∧ ¬ sp < 0 ∧ ¬ dp < 0 ∧ ¬ n < 0 ∧ sp.toNatClampNeg + n.toNatClampNeg ≤ n0 ∧ dp.toNatClampNeg + n.toNatClampNeg ≤ n1 ∧ (Nat.beq ty 0 = true ∨ ∀ i, i < n.toNatClampNeg → fits (tyF ty) (.int (σ a (sp.toNatClampNeg + i))) = true) ∧ K (up σ b (va_cpy (σ a) (σ b) sp.toNatClampNeg dp.toNatClampNeg n.toNatClampNeg))
  | _, _ => False
def jmp (K : Nat → Prop) (pc : Nat) (off : Int) : Prop := 0 ≤ (pc : Int) + off ∧ K ((pc : Int) + off).toNat
def swi (K : Nat → Prop) (pc : Nat) (d lo hi : Int) (offs : Array Int) (x : Int32) : Prop := if x.toInt < lo ∨ hi < x.toInt then jmp K pc d else (match offs[(x.toInt - lo).toNat]? with
  | some off => jmp K pc off
  | none => False)
def inv (call : Ct) (K : Option Value → List Value → Mm → Prop) (t u : Nat) (st : List Value) (σ : Mm) : Prop :=
  Nat.ble (st.drop u).length 4 = true ∧ call t (st.take u).reverse σ (fun r σ' => K r (st.drop u) σ')
def stp (call : Ct) (scr : Sc) (rt : Option FieldType) (Q : Qt) (K : Kt) (pc : Nat) (ls st : List Value) (σ : Mm) (i : Instr) (v : Int32) (t u : Nat) : Prop := match i with
  | .iconst _ => K (pc + 1) ls (.int v :: st) σ
  | .bipush _ => K (pc + 2) ls (.int v :: st) σ
  | .sipush _ => K (pc + 3) ls (.int v :: st) σ
  | .ldc _ => bif Nat.beq t 0 then K (pc + 2) ls (.int v :: st) σ else K (pc + 2) ls (.ref t :: st) σ
  | .ldc_w _ => K (pc + 3) ls (.int v :: st) σ
  | .lconst _ => bif Nat.beq t 0 then K (pc + 1) ls (.long 0 :: st) σ else K (pc + 1) ls (.long 1 :: st) σ
  | .iload_n _ => vI (lget ls t) fun x => K (pc + 1) ls (.int x :: st) σ
  | .iload _ => vI (lget ls t) fun x => K (pc + 2) ls (.int x :: st) σ
  | .lload_n _ => vL (lget ls t) fun x => K (pc + 1) ls (.long x :: st) σ
  | .lload _ => vL (lget ls t) fun x => K (pc + 2) ls (.long x :: st) σ
  | .aload_n _ => vR (lget ls t) fun x => K (pc + 1) ls (.ref x :: st) σ
  | .aload _ => vR (lget ls t) fun x => K (pc + 2) ls (.ref x :: st) σ
  | .istore_n _ => pI st fun x st => K (pc + 1) (lset ls t (.int x)) st σ
  | .istore _ => pI st fun x st => K (pc + 2) (lset ls t (.int x)) st σ
  | .lstore_n _ => pL st fun x st => K (pc + 1) (lset2 ls t (.long x)) st σ
  | .lstore _ => pL st fun x st => K (pc + 2) (lset2 ls t (.long x)) st σ
  | .iinc _ _ => vI (lget ls t) fun x => K (pc + 3) (lset ls t (.int (x + v))) st σ
  | .dup => (match st with
    | .int x :: st => K (pc + 1) ls (.int x :: .int x :: st) σ
    | .ref x :: st => K (pc + 1) ls (.ref x :: .ref x :: st) σ
    | _ => False)
  | .dup2 => pI st fun x st => pR st fun a st => K (pc + 1) ls (.int x :: .ref a :: .int x :: .ref a :: st) σ
  | .pop => pI st fun _ st => K (pc + 1) ls st σ
  | .iadd => pI st fun y st => pI st fun x st => K (pc + 1) ls (.int (x + y) :: st) σ
  | .isub => pI st fun y st => pI st fun x st => K (pc + 1) ls (.int (x - y) :: st) σ
  | .imul => pI st fun y st => pI st fun x st => K (pc + 1) ls (.int (x * y) :: st) σ
  | .iand => pI st fun y st => pI st fun x st => K (pc + 1) ls (.int (x &&& y) :: st) σ
  | .idiv => pI st fun y st => pI st fun x st => ¬ y = 0 ∧ K (pc + 1) ls (.int (x / y) :: st) σ
  | .irem => pI st fun y st => pI st fun x st => ¬ y = 0 ∧ K (pc + 1) ls (.int (x - x / y * y) :: st) σ
  | .ishr => pI st fun y st => pI st fun x st => K (pc + 1) ls (.int (x >>> (y &&& 31)) :: st) σ
  | .iushr => pI st fun y st => pI st fun x st => K (pc + 1) ls (.int (x.toUInt32 >>> (y.toUInt32 &&& Int32.toUInt32 31)).toInt32 :: st) σ
  | .ineg => pI st fun x st => K (pc + 1) ls (.int (-x) :: st) σ
  | .ladd => pL st fun y st => pL st fun x st => K (pc + 1) ls (.long (x + y) :: st) σ
  | .lsub => pL st fun y st => pL st fun x st => K (pc + 1) ls (.long (x - y) :: st) σ
  | .lmul => pL st fun y st => pL st fun x st => K (pc + 1) ls (.long (x * y) :: st) σ
  | .ldiv => pL st fun y st => pL st fun x st => ¬ y = 0 ∧ K (pc + 1) ls (.long (x / y) :: st) σ
  | .lcmp => pL st fun y st => pL st fun x st => K (pc + 1) ls (.int (lg_cmp x y) :: st) σ
  | .i2l => pI st fun x st => K (pc + 1) ls (.long x.toInt64 :: st) σ
  | .l2i => pL st fun x st => K (pc + 1) ls (.int x.toInt32 :: st) σ
  | .i2b => pI st fun x st => K (pc + 1) ls (.int x.toInt8.toInt32 :: st) σ
  | .i2s => pI st fun x st => K (pc + 1) ls (.int x.toInt16.toInt32 :: st) σ
  | .i2c => pI st fun x st => K (pc + 1) ls (.int (x.toUInt32 % 65536).toInt32 :: st) σ
  | .goto _ => K t ls st σ
  | .ifCond c _ => pI st fun x st => (match c with
    | .eq => if x = 0 then K t ls st σ else K (pc + 3) ls st σ
    | .ne => if ¬ x = 0 then K t ls st σ else K (pc + 3) ls st σ
    | .lt => if x < 0 then K t ls st σ else K (pc + 3) ls st σ
    | .ge => if 0 ≤ x then K t ls st σ else K (pc + 3) ls st σ
    | .gt => if 0 < x then K t ls st σ else K (pc + 3) ls st σ
    | .le => if x ≤ 0 then K t ls st σ else K (pc + 3) ls st σ)
  | .if_icmp c _ => pI st fun y st => pI st fun x st => (match c with
    | .eq => if x = y then K t ls st σ else K (pc + 3) ls st σ
    | .ne => if ¬ x = y then K t ls st σ else K (pc + 3) ls st σ
    | .lt => if x < y then K t ls st σ else K (pc + 3) ls st σ
    | .ge => if y ≤ x then K t ls st σ else K (pc + 3) ls st σ
    | .gt => if y < x then K t ls st σ else K (pc + 3) ls st σ
    | .le => if x ≤ y then K t ls st σ else K (pc + 3) ls st σ)
  | .tableswitch d lo hi offs => pI st fun x st => swi (fun q => K q ls st σ) pc d lo hi offs x
  | .lookupswitch d ps => pI st fun x st => jmp (fun q => K q ls st σ) pc (Op.lookupswitch.offset ps.toList d x.toInt)
  | .getfield _ => pR st fun a st => fget (fun w => K (pc + 3) ls (w :: st) σ) t a σ
  | .putfield _ => pI st fun x st => pR st fun a st => fput (fun σ' => K (pc + 3) ls st σ') t a x σ
  | .getstatic _ => bif Nat.beq t 0 then K (pc + 3) ls (.int 1 :: st) σ else K (pc + 3) ls (.retAddr 0 :: st) σ
  | .iaload => pI st fun x st => pR st fun a st => aI scr (fun w => K (pc + 1) ls (.int w :: st) σ) a x σ
  | .baload => pI st fun x st => pR st fun a st => aB (fun w => K (pc + 1) ls (.int w :: st) σ) a x σ
  | .saload => pI st fun x st => pR st fun a st => aS (fun w => K (pc + 1) ls (.int w :: st) σ) a x σ
  | .aaload => pI st fun x st => pR st fun a st => aA (fun w => K (pc + 1) ls (.ref w :: st) σ) a x
  | .iastore => pI st fun w st => pI st fun x st => pR st fun a st => sI (fun σ' => K (pc + 1) ls st σ') a x w σ
  | .bastore => pI st fun w st => pI st fun x st => pR st fun a st => sB (fun σ' => K (pc + 1) ls st σ') a x w σ
  | .sastore => pI st fun w st => pI st fun x st => pR st fun a st => sS (fun σ' => K (pc + 1) ls st σ') a x w σ
  | .arraylength => pR st fun a st => aN scr (fun w => K (pc + 1) ls (.int w :: st) σ) a
  | .invokevirtual _ => rcv (st.take u).reverse t = true ∧ inv call (fun r st σ' => K (pc + 3) ls (rpush r st) σ') t u st σ
  | .invokestatic _ => bif Nat.beq t 903 then (pI st fun n st => pI st fun dp st => pR st fun b st => pI st fun sp st => pR st fun a st => Nat.ble st.length 4 = true ∧ cpy (fun σ' => K (pc + 3) ls st σ') a b sp dp n σ) else inv call (fun r st σ' => K (pc + 3) ls (rpush r st) σ') t u st σ
  | .ireturn => pI st fun x st => st = [] ∧ retc rt x ∧ Q (some (.int x)) σ
  | .lreturn => pL st fun x st => st = [] ∧ rt = some .long ∧ Q (some (.long x)) σ
  | .areturn => pR st fun x st => st = [] ∧ (∃ ty, rt = some (.array ty)) ∧ Q (some (.ref x)) σ
  | .return_ => st = [] ∧ rt = none ∧ Q none σ
  | _ => False
/-- one step at a place of a code -/
def st1 (call : Ct) (scr : Sc) (rt : Option FieldType) (cd : Nat → Option Ae) (Q : Qt) (K : Kt) : Kt := fun pc ls st σ => ∃ e, cd pc = some e ∧ stp call scr rt Q K pc ls st σ e.1 e.2.2.1 e.2.2.2.1 e.2.2.2.2
/-- the least set of places from which Q comes -/
def RunC (call : Ct) (scr : Sc) (rt : Option FieldType) (cd : Nat → Option Ae) (Q : Qt) : Kt := fun pc ls st σ => ∀ X : Kt, (∀ pc ls st σ, st1 call scr rt cd Q X pc ls st σ → X pc ls st σ) → X pc ls st σ
/-- entry locals: the arguments, a long of two places; then nothing known -/
def ent : Nat → List Value → List Value
  | n, [] => List.replicate n .null
  | n, .long x :: l => .long x :: .null :: ent (n - 2) l
  | n, v :: l => v :: ent (n - 1) l
def Call : Nat → Ct
  | 0 => fun _ _ _ _ => False
  | d + 1 => fun t as σ Q => RunC (Call d) none (mR t) (mE t) Q 0 (ent (mL t) as) [] σ
-- monotone
theorem pI_m {st : List Value} {f g : Int32 → List Value → Prop} (h : ∀ x s, f x s → g x s) : pI st f → pI st g := by
  unfold pI
  split
  · exact h _ _
  · exact id
theorem pL_m {st : List Value} {f g : Int64 → List Value → Prop} (h : ∀ x s, f x s → g x s) : pL st f → pL st g := by
  unfold pL
  split
  · exact h _ _
  · exact id
theorem pR_m {st : List Value} {f g : Nat → List Value → Prop} (h : ∀ x s, f x s → g x s) : pR st f → pR st g := by
  unfold pR
  split
  · exact h _ _
  · exact id
theorem vI_m {v : Value} {f g : Int32 → Prop} (h : ∀ x, f x → g x) : vI v f → vI v g := by
  unfold vI
  split
  · exact h _
  · exact id
theorem vL_m {v : Value} {f g : Int64 → Prop} (h : ∀ x, f x → g x) : vL v f → vL v g := by
  unfold vL
  split
  · exact h _
  · exact id
theorem vR_m {v : Value} {f g : Nat → Prop} (h : ∀ x, f x → g x) : vR v f → vR v g := by
  unfold vR
  split
  · exact h _
  · exact id
theorem and_m {a b c : Prop} (h : b → c) : a ∧ b → a ∧ c := fun q => ⟨q.1, h q.2⟩
theorem ite_m {c : Prop} [Decidable c] {a b a' b' : Prop} (h : a → a') (h2 : b → b') : (if c then a else b) → (if c then a' else b') := by
  split
  · exact h
  · exact h2
theorem bif_m {c : Bool} {a b a' b' : Prop} (h : a → a') (h2 : b → b') : (bif c then a else b) → (bif c then a' else b') := by
  cases c
  · exact h2
  · exact h
theorem jmp_m {f g : Nat → Prop} {pc : Nat} {o : Int} (h : ∀ x, f x → g x) : jmp f pc o → jmp g pc o := and_m (h _)
theorem swi_m {f g : Nat → Prop} {pc : Nat} {d lo hi : Int} {offs : Array Int} {x : Int32} (h : ∀ x, f x → g x) : swi f pc d lo hi offs x → swi g pc d lo hi offs x := by
  unfold swi
  refine ite_m (jmp_m h) ?_
  split
  · exact jmp_m h
  · exact id
theorem fget_m {f g : Value → Prop} {t a : Nat} {σ : Mm} (h : ∀ x, f x → g x) : fget f t a σ → fget g t a σ := by
  unfold fget
  split
  · refine and_m ?_
    split
    · exact h _
    · exact h _
    · exact id
  · exact id
  · exact and_m (and_m (and_m (bif_m (h _) (h _))))
theorem fput_m {f g : Mm → Prop} {t a : Nat} {x : Int32} {σ : Mm} (h : ∀ x, f x → g x) : fput f t a x σ → fput g t a x σ := by
  unfold fput
  split
  · exact and_m (and_m (bif_m (and_m (h _)) (h _)))
  · exact id
theorem aI_m {scr : Sc} {f g : Int32 → Prop} {a : Nat} {i : Int32} {σ : Mm} (h : ∀ x, f x → g x) : aI scr f a i σ → aI scr g a i σ := by
  unfold aI
  split
  · exact and_m (h _)
  · exact id
  · split
    · exact and_m (and_m (h _))
    · exact id
theorem aB_m {f g : Int32 → Prop} {a : Nat} {i : Int32} {σ : Mm} (h : ∀ x, f x → g x) : aB f a i σ → aB g a i σ := by
  unfold aB
  split
  · exact and_m (h _)
  · exact and_m (h _)
  · exact id
  · exact and_m (and_m (and_m (h _)))
theorem aS_m {f g : Int32 → Prop} {a : Nat} {i : Int32} {σ : Mm} (h : ∀ x, f x → g x) : aS f a i σ → aS g a i σ := by
  unfold aS
  split
  · exact and_m (h _)
  · exact id
theorem aA_m {f g : Nat → Prop} {a : Nat} {i : Int32} (h : ∀ x, f x → g x) : aA f a i → aA g a i := by
  unfold aA
  split
  · exact and_m (h _)
  · exact and_m (h _)
  · exact id
theorem sI_m {f g : Mm → Prop} {a : Nat} {i x : Int32} {σ : Mm} (h : ∀ x, f x → g x) : sI f a i x σ → sI g a i x σ := by
  unfold sI
  split
  · exact and_m (h _)
  · exact id
theorem sB_m {f g : Mm → Prop} {a : Nat} {i x : Int32} {σ : Mm} (h : ∀ x, f x → g x) : sB f a i x σ → sB g a i x σ := by
  unfold sB
  split
  · exact and_m (and_m (h _))
  · exact and_m (h _)
  · exact id
theorem sS_m {f g : Mm → Prop} {a : Nat} {i x : Int32} {σ : Mm} (h : ∀ x, f x → g x) : sS f a i x σ → sS g a i x σ := by
  unfold sS
  split
  · exact and_m (h _)
  · exact id
theorem aN_m {scr : Sc} {f g : Int32 → Prop} {a : Nat} (h : ∀ x, f x → g x) : aN scr f a → aN scr g a := by
  unfold aN
  split
  · exact h _
  · exact id
  · refine bif_m ?_ (and_m (and_m (h _)))
    split
    · exact h _
    · exact id
theorem cpy_m {f g : Mm → Prop} {a b : Nat} {sp dp n : Int32} {σ : Mm} (h : ∀ x, f x → g x) : cpy f a b sp dp n σ → cpy g a b sp dp n σ := by
  unfold cpy
  split
  · exact and_m (and_m (and_m (and_m (and_m (and_m (and_m (and_m (h _))))))))
  · exact id
def cmono (call : Ct) : Prop := ∀ (t : Nat) (as : List Value) (σ : Mm) (Q Q' : Qt), (∀ r σ, Q r σ → Q' r σ) → call t as σ Q → call t as σ Q'
theorem inv_m {call : Ct} (hc : cmono call) {f g : Option Value → List Value → Mm → Prop} {t u : Nat} {st : List Value} {σ : Mm} (h : ∀ r s x, f r s x → g r s x) : inv call f t u st σ → inv call g t u st σ := and_m (hc _ _ _ _ _ (fun _ _ => h _ _ _))
theorem stp_m {call : Ct} (hc : cmono call) {scr : Sc} {rt : Option FieldType} {Q Q' : Qt} {K K' : Kt} (hQ : ∀ r σ, Q r σ → Q' r σ) (hK : ∀ pc ls st σ, K pc ls st σ → K' pc ls st σ) {pc : Nat} {ls st : List Value} {σ : Mm} {i : Instr} {v : Int32} {t u : Nat} : stp call scr rt Q K pc ls st σ i v t u → stp call scr rt Q' K' pc ls st σ i v t u := by
  have k1 := hK
  cases i <;> first
    | exact id
    | exact hK _ _ _ _
    | exact bif_m (hK _ _ _ _) (hK _ _ _ _)
    | exact vI_m (fun _ => hK _ _ _ _)
    | exact vL_m (fun _ => hK _ _ _ _)
    | exact vR_m (fun _ => hK _ _ _ _)
    | exact pI_m (fun _ _ => hK _ _ _ _)
    | exact pL_m (fun _ _ => hK _ _ _ _)
    | exact pI_m (fun _ _ => pI_m (fun _ _ => hK _ _ _ _))
    | exact pL_m (fun _ _ => pL_m (fun _ _ => hK _ _ _ _))
    | exact pI_m (fun _ _ => pI_m (fun _ _ => and_m (hK _ _ _ _)))
    | exact pL_m (fun _ _ => pL_m (fun _ _ => and_m (hK _ _ _ _)))
    | exact pI_m (fun _ _ => pR_m (fun _ _ => hK _ _ _ _))
    | exact pI_m (fun _ _ => swi_m (fun _ => hK _ _ _ _))
    | exact pI_m (fun _ _ => jmp_m (fun _ => hK _ _ _ _))
    | exact pR_m (fun _ _ => fget_m (fun _ => hK _ _ _ _))
    | exact pI_m (fun _ _ => pR_m (fun _ _ => fput_m (fun _ => hK _ _ _ _)))
    | exact pI_m (fun _ _ => pR_m (fun _ _ => aI_m (fun _ => hK _ _ _ _)))
    | exact pI_m (fun _ _ => pR_m (fun _ _ => aB_m (fun _ => hK _ _ _ _)))
    | exact pI_m (fun _ _ => pR_m (fun _ _ => aS_m (fun _ => hK _ _ _ _)))
    | exact pI_m (fun _ _ => pR_m (fun _ _ => aA_m (fun _ => hK _ _ _ _)))
    | exact pI_m (fun _ _ => pI_m (fun _ _ => pR_m (fun _ _ => sI_m (fun _ => hK _ _ _ _))))
    | exact pI_m (fun _ _ => pI_m (fun _ _ => pR_m (fun _ _ => sB_m (fun _ => hK _ _ _ _))))
    | exact pI_m (fun _ _ => pI_m (fun _ _ => pR_m (fun _ _ => sS_m (fun _ => hK _ _ _ _))))
    | exact pR_m (fun _ _ => aN_m (fun _ => hK _ _ _ _))
    | exact and_m (inv_m hc (fun _ _ _ => hK _ _ _ _))
    | exact bif_m (pI_m fun _ _ => pI_m fun _ _ => pR_m fun _ _ => pI_m fun _ _ => pR_m fun _ _ => and_m (cpy_m (fun _ => hK _ _ _ _))) (inv_m hc (fun _ _ _ => hK _ _ _ _))
    | exact pI_m (fun _ _ => and_m (and_m (hQ _ _)))
    | exact pL_m (fun _ _ => and_m (and_m (hQ _ _)))
    | exact pR_m (fun _ _ => and_m (and_m (hQ _ _)))
    | exact and_m (and_m (hQ _ _))
    | (refine pI_m (fun _ _ => ?_); split <;> exact ite_m (hK _ _ _ _) (hK _ _ _ _))
    | (refine pI_m (fun _ _ => pI_m (fun _ _ => ?_)); split <;> exact ite_m (hK _ _ _ _) (hK _ _ _ _))
    | (simp only [stp]; split <;> first | exact hK _ _ _ _ | exact id)
theorem st1_m {call : Ct} (hc : cmono call) {scr : Sc} {rt : Option FieldType} {cd : Nat → Option Ae} {Q Q' : Qt} {K K' : Kt} (hQ : ∀ r σ, Q r σ → Q' r σ) (hK : ∀ pc ls st σ, K pc ls st σ → K' pc ls st σ) {pc : Nat} {ls st : List Value} {σ : Mm} : st1 call scr rt cd Q K pc ls st σ → st1 call scr rt cd Q' K' pc ls st σ := fun ⟨e, h1, h2⟩ => ⟨e, h1, stp_m hc hQ hK h2⟩
theorem RunC_m {call : Ct} (hc : cmono call) {scr : Sc} {rt : Option FieldType} {cd : Nat → Option Ae} {Q Q' : Qt} (hQ : ∀ r σ, Q r σ → Q' r σ) {pc : Nat} {ls st : List Value} {σ : Mm} (h : RunC call scr rt cd Q pc ls st σ) : RunC call scr rt cd Q' pc ls st σ := fun X hX => h X (fun _ _ _ _ q => hX _ _ _ _ (st1_m hc hQ (fun _ _ _ _ z => z) q))
theorem Call_m : ∀ d, cmono (Call d)
  | 0 => fun _ _ _ _ _ _ h => h
  | d + 1 => fun _ _ _ _ _ hQ h => RunC_m (Call_m d) hQ h
theorem RunC.mk {d : Nat} {scr : Sc} {rt : Option FieldType} {cd : Nat → Option Ae} {Q : Qt} {pc : Nat} {ls st : List Value} {σ : Mm} (h : st1 (Call d) scr rt cd Q (RunC (Call d) scr rt cd Q) pc ls st σ) : RunC (Call d) scr rt cd Q pc ls st σ := fun X hX => hX _ _ _ _ (st1_m (Call_m d) (fun _ _ z => z) (fun _ _ _ _ z => z X hX) h)
