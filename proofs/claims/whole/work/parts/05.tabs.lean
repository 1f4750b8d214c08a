/-! WHAT THE TABLES SAY OF THE MACHINE'S ENTRIES: decided by the kernel -/
def dcd (cc : ByteArray) (pc : Nat) (i : Instr) (len nx : Nat) : Bool := decide (decode cc pc = .ok (i, len)) && Nat.beq nx (pc + len)
def swF (x : Int) (d : Nat) : List (Int × Nat) → Nat
  | [] => d
  | q :: l => if x = q.1 then q.2 else swF x d l
def tabok (pc : Nat) (d lo hi : Int) (offs : Array Int) (t : Nat) (l : List (Int × Nat)) : Bool :=
  decide ((pc : Int) + d = (t : Int)) && l.all (fun q => decide (lo ≤ q.1) && decide (q.1 ≤ hi)) && decide (hi - lo + 1 = (offs.toList.length : Int)) && (List.range offs.toList.length).all (fun k => match offs.toList[k]? with
    | some o => decide ((pc : Int) + o = (swF (lo + k) t l : Int))
    | none => false)
def lokok (pc : Nat) (d : Int) (ps : Array (Int × Int)) (t : Nat) (l : List (Int × Nat)) : Bool :=
  decide ((pc : Int) + d = (t : Int)) && (ps.toList.zip (ps.toList.drop 1)).all (fun (a, next) => a.1 < next.1) && decide (l.map (fun q => (q.1, (q.2 : Int))) = ps.toList.map (fun q => (q.1, (pc : Int) + q.2)))
def okE (oc : Nat) (cc : ByteArray) (nL pc : Nat) (i : Instr) (nx : Nat) (v : Int32) (t u : Nat) : Bool := match i with
  | .iconst n => dcd cc pc (.iconst n) 1 nx && decide (Int32.ofInt n = v)
  | .bipush n => dcd cc pc (.bipush n) 2 nx && decide ((Int8.ofInt n).toInt32 = v)
  | .sipush n => dcd cc pc (.sipush n) 3 nx && decide ((Int16.ofInt n).toInt32 = v)
  | .ldc k => dcd cc pc (.ldc k) 2 nx && (bif Nat.beq t 0 then decide ((k, v) ∈ cT oc) else (Nat.beq oc 4 && decide ((k, t) ∈ strq)))
  | .ldc_w k => dcd cc pc (.ldc_w k) 3 nx && decide ((k, v) ∈ cT oc)
  | .lconst n => dcd cc pc (.lconst n) 1 nx && Nat.beq n.val t
  | .iload_n k => dcd cc pc (.iload_n k) 1 nx && Nat.beq k.val t
  | .iload k => dcd cc pc (.iload k) 2 nx && Nat.beq k t
  | .lload_n k => dcd cc pc (.lload_n k) 1 nx && Nat.beq k.val t
  | .lload k => dcd cc pc (.lload k) 2 nx && Nat.beq k t
  | .aload_n k => dcd cc pc (.aload_n k) 1 nx && Nat.beq k.val t
  | .aload k => dcd cc pc (.aload k) 2 nx && Nat.beq k t
  | .istore_n k => dcd cc pc (.istore_n k) 1 nx && Nat.beq k.val t && Nat.blt t nL
  | .istore k => dcd cc pc (.istore k) 2 nx && Nat.beq k t && Nat.blt t nL
  | .lstore_n k => dcd cc pc (.lstore_n k) 1 nx && Nat.beq k.val t && Nat.blt (t + 1) nL
  | .lstore k => dcd cc pc (.lstore k) 2 nx && Nat.beq k t && Nat.blt (t + 1) nL
  | .iinc k n => dcd cc pc (.iinc k n) 3 nx && Nat.beq k t && decide (Int32.ofInt n = v) && Nat.blt t nL
  | .goto o => dcd cc pc (.goto o) 3 nx && decide ((pc : Int) + o = (t : Int))
  | .ifCond c o => dcd cc pc (.ifCond c o) 3 nx && decide ((pc : Int) + o = (t : Int))
  | .if_icmp c o => dcd cc pc (.if_icmp c o) 3 nx && decide ((pc : Int) + o = (t : Int))
  | .tableswitch d lo hi offs => decide (decode cc pc = .ok (.tableswitch d lo hi offs, nx - pc)) && tabok pc d lo hi offs t (swl u)
  | .lookupswitch d ps => decide (decode cc pc = .ok (.lookupswitch d ps, nx - pc)) && lokok pc d ps t (swl u)
  | .getfield k => dcd cc pc (.getfield k) 3 nx && decide ((k, 100 * t + u) ∈ fT oc) && Nat.blt u 100
  | .putfield k => dcd cc pc (.putfield k) 3 nx && decide ((k, 100 * t + u) ∈ fT oc) && Nat.blt u 100
  | .getstatic k => dcd cc pc (.getstatic k) 3 nx && Nat.beq oc 20 && (bif Nat.beq t 0 then Nat.beq k 38 else Nat.beq k 1053)
  | .invokevirtual k => dcd cc pc (.invokevirtual k) 3 nx && decide ((k, t) ∈ mT oc) && !mS t && Nat.beq u (mA t) && Nat.blt t NM
  | .invokestatic k => dcd cc pc (.invokestatic k) 3 nx && (bif Nat.ble 903 t then (bif Nat.beq t 903 then decide ((oc, k) ∈ acT) else decide ((oc, k, t) ∈ maT)) else ((decide ((k, t) ∈ mT oc) || (Nat.beq oc 6 && Nat.beq k 57 && Nat.beq t k_X11_within)) && mS t && Nat.beq u (mA t) && Nat.blt t NM))
  | .dup => dcd cc pc .dup 1 nx
  | .dup2 => dcd cc pc .dup2 1 nx
  | .pop => dcd cc pc .pop 1 nx
  | .iadd => dcd cc pc .iadd 1 nx
  | .isub => dcd cc pc .isub 1 nx
  | .imul => dcd cc pc .imul 1 nx
  | .iand => dcd cc pc .iand 1 nx
  | .idiv => dcd cc pc .idiv 1 nx
  | .irem => dcd cc pc .irem 1 nx
  | .ishr => dcd cc pc .ishr 1 nx
  | .iushr => dcd cc pc .iushr 1 nx
  | .ineg => dcd cc pc .ineg 1 nx
  | .ladd => dcd cc pc .ladd 1 nx
  | .lsub => dcd cc pc .lsub 1 nx
  | .lmul => dcd cc pc .lmul 1 nx
  | .ldiv => dcd cc pc .ldiv 1 nx
  | .lcmp => dcd cc pc .lcmp 1 nx
  | .i2l => dcd cc pc .i2l 1 nx
  | .l2i => dcd cc pc .l2i 1 nx
  | .i2b => dcd cc pc .i2b 1 nx
  | .i2s => dcd cc pc .i2s 1 nx
  | .i2c => dcd cc pc .i2c 1 nx
  | .iaload => dcd cc pc .iaload 1 nx
  | .baload => dcd cc pc .baload 1 nx
  | .saload => dcd cc pc .saload 1 nx
  | .aaload => dcd cc pc .aaload 1 nx
  | .iastore => dcd cc pc .iastore 1 nx
  | .bastore => dcd cc pc .bastore 1 nx
  | .sastore => dcd cc pc .sastore 1 nx
  | .arraylength => dcd cc pc .arraylength 1 nx
  | .ireturn => dcd cc pc .ireturn 1 nx
  | .lreturn => dcd cc pc .lreturn 1 nx
  | .areturn => dcd cc pc .areturn 1 nx
  | .return_ => dcd cc pc .return_ 1 nx
  | _ => false
/-- all entries of a code -/
def okC (oc : Nat) (cc : ByteArray) (nL : Nat) (cd : Nat → Option Ae) (z : Nat) : Bool := (List.range z).all fun pc => match cd pc with
  | some (i, nx, v, t, u) => okE oc cc nL pc i nx v t u
  | none => true
theorem okC_at {oc : Nat} {cc : ByteArray} {nL : Nat} {cd : Nat → Option Ae} {z : Nat} (h : okC oc cc nL cd z = true) {pc : Nat} (hz : pc < z) {i : Instr} {nx : Nat} {v : Int32} {t u : Nat} (he : cd pc = some (i, nx, v, t, u)) : okE oc cc nL pc i nx v t u = true := by
  have := List.all_eq_true.mp h pc (List.mem_range.mpr hz)
  rw [he] at this
  exact this
def okM (t : Nat) : Bool := okC (mO t) (mC t) (mL t) (mE t) (mZ t)
/-- the words that are good everywhere -/
def tg : List Cond := lw_tbl.filter goodWord
theorem tg_of {w : Cond} (i : Nat) (h : lw_tbl[i]? = some w) (hg : goodWord w = true) : w ∈ tg := List.mem_filter.mpr ⟨List.mem_of_getElem? h, hg⟩
def isA (i : Nat) (w : Cond) : Bool := decide (lw_tbl[i]? = some w)
theorem isA_of {i : Nat} {w : Cond} (h : isA i w = true) (hg : goodWord w = true) : w ∈ tg := tg_of i (of_decide_eq_true h) hg
def lkM (t : Nat) : Bool := isA (stap.getD t 0) (bif mS t then .static (mN t) else .instanceMethod (mN t)) && (mS t || isA (selq.getD t 0) (.selects (cn (mO t)) (mN t) (mN t))) && decide ((mN t).cls = cn (mO t)) && decide (mO t ∈ ocs) && decide ((parseMethodDescriptor (mN t).desc).map (fun d => d.parameters.length) = some (bif mS t then mA t else mA t - 1)) && (mS t || Nat.ble 1 (mA t)) && plainName (mN t).cls && Nat.ble (mL t) 30
def lkI (k : Nat) : Bool := (ocs.zip inip).all (fun q => bif Nat.beq q.1 k then isA q.2 (.initialized (cn k)) else true) && decide (cn k ≠ "java/lang/invoke/MethodHandle") && decide (cn k ≠ "java/lang/invoke/VarHandle")
def zipA {α β : Type} (l : List α) (m : List β) (f : α → β → Bool) : Bool := match l, m with
  | [], _ => true
  | a :: l, b :: m => f a b && zipA l m f
  | _ :: _, [] => false
theorem zipA_at {α β : Type} {f : α → β → Bool} : ∀ {l : List α} {m : List β}, zipA l m f = true → ∀ a ∈ l, ∃ b, f a b = true
  | [], _, _, a, h => by cases h
  | a :: l, b :: m, h, q, hq => by
    simp only [zipA, Bool.and_eq_true] at h
    rcases List.mem_cons.mp hq with rfl | hq
    · exact ⟨b, h.1⟩
    · exact zipA_at h.2 q hq
  | _ :: _, [], h, _, _ => by cases h
def fRef (c : Nat) : String × String × String := bif Nat.beq c 2000 then ("java/lang/String", "value", "[B") else (bif Nat.beq c 2001 then ("java/lang/String", "coder", "B") else (match cl[c / 100 % 100]? with
  | some q => (q.1, (q.2.1 (c % 100)).2.1, (q.2.1 (c % 100)).2.2.1)
  | none => ("", "", "")))
def lkF (oc : Nat) : Bool := zipA (fT oc) (fTp oc) fun q p => isA p (.fieldLink (cn oc) q.1 (fRef q.2).1 (fRef q.2).2.1 (fRef q.2).2.2)
def lkT (oc : Nat) : Bool := zipA (mT oc) (mTp oc) fun q p => isA p (.methodLink (cn oc) q.1 (mN q.2))
def lkC (oc : Nat) : Bool := zipA (cT oc) (cTp oc) fun q p => isA p (.constant (cn oc) q.1 q.2)
def shok (k : Nat) : Bool := match sh k with
  | .inl (ci, fs) => (match cl[ci]? with
    | some q => Nat.beq q.2.2 fs.length && (List.range fs.length).all (fun j => match nq fs j with
      | some none => !(q.2.1 j).2.2.2 && decide ((q.2.1 j).1 = q.1) && (decide ((q.2.1 j).2.2.1 = "I") || decide ((q.2.1 j).2.2.1 = "Z"))
      | some (some r) => Nat.blt r 140 && decide ((q.2.1 j).1 = q.1)
      | none => false)
    | none => false)
  | .inr (ty, n, b) => Nat.ble ty 5 && (Nat.ble ty 3 || Nat.ble (b + n) 140) && Nat.blt n 2000
