/-! SOUNDNESS: a step of the machine is a step of the Java machine -/
theorem pI_of {st : List Value} {f : Int32 → List Value → Prop} (h : pI st f) : ∃ x s, st = .int x :: s ∧ f x s := by
  unfold pI at h
  split at h
  · exact ⟨_, _, rfl, h⟩
  · exact h.elim
theorem pL_of {st : List Value} {f : Int64 → List Value → Prop} (h : pL st f) : ∃ x s, st = .long x :: s ∧ f x s := by
  unfold pL at h
  split at h
  · exact ⟨_, _, rfl, h⟩
  · exact h.elim
theorem pR_of {st : List Value} {f : Nat → List Value → Prop} (h : pR st f) : ∃ x s, st = .ref x :: s ∧ f x s := by
  unfold pR at h
  split at h
  · exact ⟨_, _, rfl, h⟩
  · exact h.elim
theorem vI_of {v : Value} {f : Int32 → Prop} (h : vI v f) : ∃ x, v = .int x ∧ f x := by
  unfold vI at h
  split at h
  · exact ⟨_, rfl, h⟩
  · exact h.elim
theorem vL_of {v : Value} {f : Int64 → Prop} (h : vL v f) : ∃ x, v = .long x ∧ f x := by
  unfold vL at h
  split at h
  · exact ⟨_, rfl, h⟩
  · exact h.elim
theorem vR_of {v : Value} {f : Nat → Prop} (h : vR v f) : ∃ x, v = .ref x ∧ f x := by
  unfold vR at h
  split at h
  · exact ⟨_, rfl, h⟩
  · exact h.elim
theorem dcd_of {cc : ByteArray} {pc : Nat} {i : Instr} {len nx : Nat} (h : dcd cc pc i len nx = true) : decode cc pc = .ok (i, len) ∧ nx = pc + len := by
  simp only [dcd, Bool.and_eq_true, decide_eq_true_eq] at h
  exact ⟨h.1, Nat.eq_of_beq_eq_true h.2⟩
theorem and2 {a b : Bool} (h : (a && b) = true) : a = true ∧ b = true := by simpa using h
theorem i0 (x : Int32) : x = 0 ↔ x.toInt = 0 := by rw [← Int32.toInt_inj]; rfl
theorem ilt0 (x : Int32) : x < 0 ↔ x.toInt < 0 := Int32.lt_iff_toInt_lt
theorem ige0 (x : Int32) : 0 ≤ x ↔ ¬ x.toInt < 0 := by
  rw [Int32.le_iff_toInt_le]
  show (0 : Int) ≤ x.toInt ↔ _
  omega
theorem igt0 (x : Int32) : 0 < x ↔ 0 < x.toInt := Int32.lt_iff_toInt_lt
theorem ile0 (x : Int32) : x ≤ 0 ↔ ¬ 0 < x.toInt := by
  rw [Int32.le_iff_toInt_le]
  show x.toInt ≤ (0 : Int) ↔ _
  omega
theorem ieq (x y : Int32) : x = y ↔ x.toInt = y.toInt := Int32.toInt_inj.symm
theorem ilt (x y : Int32) : x < y ↔ x.toInt < y.toInt := Int32.lt_iff_toInt_lt
theorem ile (x y : Int32) : x ≤ y ↔ ¬ y.toInt < x.toInt := by
  rw [Int32.le_iff_toInt_le]
  omega
theorem l0 (x : Int64) : x = 0 ↔ x.toInt = 0 := by rw [← Int64.toInt_inj]; rfl
theorem ixs_in {i : Int32} {n : Nat} (h : ixs i n) : vp_in i n := vp_in_iff.mpr h
theorem isb_nar {x : Int32} (h : isb x) : narrow .boolean (.int x) = .int x ∧ fits .boolean (.int x) = true ∧ vp_nar .boolean x = x := by
  rcases h with h | h
  · have : x = 0 := (i0 x).mpr h
    subst this
    exact ⟨rfl, rfl, rfl⟩
  · have : x = 1 := (ieq x 1).mpr h
    subst this
    exact ⟨rfl, rfl, rfl⟩
theorem ret_nar {ty : FieldType} {x : Int32} (h : retc (some ty) x) : narrow ty (.int x) = .int x := by
  unfold retc at h
  split at h
  · rename_i e
    cases e
    rfl
  · rename_i e
    cases e
    exact (isb_nar h).1
  · rename_i e
    cases e
    obtain ⟨j, hj, rfl⟩ := nI_of (x := x) (by rw [ilt0]; omega)
    rw [nI_toInt hj] at h
    exact (pk_charN (q := j) (by omega)).1
  · rename_i e
    cases e
    show Value.int x.toInt8.toInt32 = .int x
    rw [show x.toInt8.toInt32 = x from (ieq _ _).mpr (by rw [Int8.toInt_toInt32, Int32.toInt_toInt8]; simp only [Int.bmod]; omega)]
  · exact h.elim
theorem sws_of {x : Int} {K : Nat → Prop} {d : Nat} : ∀ {l : List (Int × Nat)}, sws x K d l → K (swF x d l)
  | [], h => h
  | q :: l, h => by
    unfold swF
    split
    · rename_i e
      exact h.1 e
    · rename_i e
      exact sws_of (h.2 e)
theorem swF_out {x : Int} {d : Nat} : ∀ {l : List (Int × Nat)}, (∀ q ∈ l, x ≠ q.1) → swF x d l = d
  | [], _ => rfl
  | q :: l, h => by
    unfold swF
    rw [if_neg (h q List.mem_cons_self)]
    exact swF_out fun z hz => h z (List.mem_cons_of_mem _ hz)
theorem look_of {pc t : Nat} {d x : Int} : ∀ {l : List (Int × Nat)} {ps : List (Int × Int)}, (pc : Int) + d = (t : Int) → l.map (fun q => (q.1, (q.2 : Int))) = ps.map (fun q => (q.1, (pc : Int) + q.2)) → (pc : Int) + Op.lookupswitch.offset ps d x = (swF x t l : Int)
  | [], [], hd, _ => hd
  | [], _ :: _, _, h => by simp at h
  | _ :: _, [], _, h => by simp at h
  | q :: l, r :: ps, hd, h => by
    obtain ⟨r1, r2⟩ := r
    simp only [List.map_cons, List.cons.injEq, Prod.mk.injEq] at h
    obtain ⟨⟨e1, e2⟩, h⟩ := h
    rw [Op.lookupswitch.offset_cons]
    unfold swF
    by_cases hx : x = q.1
    · rw [if_pos hx, if_pos (by rw [hx, e1])]
      exact e2.symm
    · rw [if_neg hx, if_neg (fun z => hx (by rw [e1, z]))]
      exact look_of hd h
def Wd (D : va_G) (ad : Nat → Nat) (tc : Nat → ClassId) (A : Nat → Prop) (σ : Mm) (H : Heap) : Prop := va_P D cl (wl ad tc σ) H ∧ va_D A (wl ad tc σ) ∧ Fit σ
def Ad (ad : Nat → Nat) : Nat → Prop := fun q => ∃ k, k < 140 ∧ q = ad k
def wsm (t : Nat) : List Cond := .code (mN t) (mC t) (mL t) (mR t) :: tg
def Pcm (D : va_G) (ad : Nat → Nat) (tc : Nat → ClassId) (V : Value) (as : List Value) (σ : Mm) : Array Value → State → Prop := va_Pc (as.map (cv ad V)) (fun U => Wd D ad tc (Ad ad) σ U.heap ∧ va_K D cl (tysl tc) U ∧ Zs ad V (Ad ad) U U.heap)
def Qcm (D : va_G) (ad : Nat → Nat) (tc : Nat → ClassId) (V : Value) (Q : Qt) : Array Value → State → Outcome → State → Prop := fun _ st oc t => (∃ (r : Option Value) (σ' : Mm), oc = .returned (r.map (cv ad V)) ∧ Q r σ' ∧ va_P D cl (wl ad tc σ') t.heap ∧ Fit σ') ∧ va_F (Ad ad) st t
def CallOK (l : Launch) (D : va_G) (ad : Nat → Nat) (tc : Nat → ClassId) (V : Value) (call : Ct) (rm : Room) : Prop := ∀ (t : Nat) (as : List Value) (σ : Mm) (Q : Qt), t < NM → slw as ≤ mL t → call t as σ Q → Met l (mN t) (wsm t) rm (Pcm D ad tc V as σ) (Qcm D ad tc V Q) 0 0 (Ad ad)
def Cx (p : Program) (R : Room) (s : State) (m : MethodId) (args : Array Value) (c : Code) (cells slots : Nat) (D : va_G) (ad : Nat → Nat) (tc : Nat → ClassId) (V : Value) (A : Nat → Prop) (cc : ByteArray) (nL oc : Nat) (rm : Room) : Prop :=
  CallFix p m c cc nL s args tg (cn oc) ∧ oc ∈ ocs ∧ va_K D cl (tysl tc) s ∧ Zs ad V A s s.heap ∧ V.category = 1 ∧ (∀ q, Ad ad q → A q) ∧ (rm.cells = 0 ∧ rm.slots = 0 ∧ rm.frames + 1 ≤ R.frames ∧ rm.locals + 49 ≤ R.locals) ∧ (1 ≤ R.frames ∧ 49 ≤ R.locals) ∧ cells ≤ R.cells ∧ slots ≤ R.slots
def XX (p : Program) (l : Launch) (e : Env) (R : Room) (s : State) (m : MethodId) (args : Array Value) (below : List Frame) (meth : Method) (c : Code) (cells slots : Nat) (QF : State → Prop) (D : va_G) (ad : Nat → Nat) (tc : Nat → ClassId) (V : Value) (A : Nat → Prop) (nL : Nat) : Kt := fun pc ls st σ =>
  ∀ (H : Heap) (locs : List Loc) (lsA : Array Slot), lv_has lsA nL (lpl ad V ls) → Wd D ad tc A σ H → va_S A s.heap H locs → W p l e R s m args below meth c H locs cells slots QF (F0 m pc lsA (st.map (cv ad V)))
/-- the end of the method -/
def RetOK (p : Program) (l : Launch) (e : Env) (R : Room) (s : State) (m : MethodId) (args : Array Value) (below : List Frame) (meth : Method) (c : Code) (cells slots : Nat) (QF : State → Prop) (D : va_G) (ad : Nat → Nat) (tc : Nat → ClassId) (V : Value) (A : Nat → Prop) (cc : ByteArray) (rt : Option FieldType) (Q : Qt) : Prop :=
  ∀ (pc : Nat) (H : Heap) (locs : List Loc) (lsA : Array Slot) (σ : Mm), Wd D ad tc A σ H → va_S A s.heap H locs →
    (∀ x, decode cc pc = .ok (.ireturn, 1) → retc rt x → Q (some (.int x)) σ → W p l e R s m args below meth c H locs cells slots QF (F0 m pc lsA [.int x])) ∧
    (∀ x, decode cc pc = .ok (.lreturn, 1) → rt = some .long → Q (some (.long x)) σ → W p l e R s m args below meth c H locs cells slots QF (F0 m pc lsA [.long x])) ∧
    (∀ x, decode cc pc = .ok (.areturn, 1) → rt = some (.array .int) → Q (some (.ref x)) σ → W p l e R s m args below meth c H locs cells slots QF (F0 m pc lsA [.ref (ad x)])) ∧
    (decode cc pc = .ok (.return_, 1) → rt = none → Q none σ → W p l e R s m args below meth c H locs cells slots QF (F0 m pc lsA []))
def ScrOK (s : State) (ad : Nat → Nat) (A : Nat → Prop) (scr : Sc) : Prop := ∀ n f, scr = some (n, f) → va_X (ad 1000) n f s s.heap ∧ ad 1000 < s.heap.size ∧ ¬ A (ad 1000)
theorem Fit_up {σ : Mm} (h : Fit σ) {a ty n b : Nat} {g : Nat → Int32} (hs : shq a = some (.inr (ty, n, b))) (hg : ∀ i, fits (tyF ty) (.int (g i)) = true) : Fit (up σ a g) := by
  intro k ty' n' b' hk h3 i
  by_cases e : k = a
  · subst e
    rw [hs] at hk
    cases hk
    simpa [up] using hg i
  · simpa [up, e] using h k ty' n' b' hk h3 i
theorem Fit_obj {σ : Mm} (h : Fit σ) {a ci : Nat} {fs : List (Option Nat)} {g : Nat → Int32} (hs : shq a = some (.inl (ci, fs))) : Fit (up σ a g) := by
  intro k ty' n' b' hk h3 i
  by_cases e : k = a
  · subst e
    rw [hs] at hk
    cases hk
  · simpa [up, e] using h k ty' n' b' hk h3 i
theorem fit_upd {ty : FieldType} {g : Nat → Int32} {j : Nat} {x : Int32} (h : ∀ i, fits ty (.int (g i)) = true) (hx : fits ty (.int x) = true) : ∀ i, fits ty (.int (upd g j x i)) = true := by
  intro i
  unfold upd
  split
  · exact hx
  · exact h i
section
variable {p : Program} {l : Launch} {e : Env} {R : Room} {s : State} {m : MethodId} {args : Array Value} {below : List Frame} {meth : Method} {c : Code} {cells slots : Nat} {QF : State → Prop}
variable {D : va_G} {ad : Nat → Nat} {tc : Nat → ClassId} {V : Value} {A : Nat → Prop} {cc : ByteArray} {nL oc : Nat} {rm : Room} {pc : Nat} {ls st : List Value} {σ : Mm}
/-- putting into a cell of the world -/
theorem wd_up {H1 : Heap} {k : Nat} {g : Nat → Int32} (hk : k < 140) (hF : Fit (up σ k g)) (h1 : va_P D cl ((wl ad tc σ).set k (ad k, contC ad tc g k)) H1) (h2 : va_D A ((wl ad tc σ).set k (ad k, contC ad tc g k))) : Wd D ad tc A (up σ k g) H1 := by
  rw [wl_up hk] at h1 h2
  exact ⟨h1, h2, hF⟩
theorem st_getf {K : Value → Prop} {t u a k : Nat} {H : Heap} {locs : List Loc} {lsA : Array Slot} {rest : List Value} (C : Cx p R s m args c cells slots D ad tc V A cc nL oc rm) (hW : Wd D ad tc A σ H) (hS : va_S A s.heap H locs) (hd : decode cc pc = .ok (.getfield k, 3)) (hm : (k, 100 * t + u) ∈ fT oc) (hu : u < 100)
    (hK : ∀ w, K w → W p l e R s m args below meth c H locs cells slots QF (F0 m (pc + 3) lsA (cv ad V w :: rest))) (h : fget K t u a σ) : W p l e R s m args below meth c H locs cells slots QF (F0 m pc lsA (.ref (ad a) :: rest)) := by
  obtain ⟨⟨hx, hb, hml, hown, hts⟩, hoc, hKs, hZ, hV, hAd, hrm, hR1, hcl, hsl⟩ := C
  obtain ⟨pl, hpl⟩ := zipA_at (List.all_eq_true.mp lkF_all oc hoc) _ hm
  have hlk := hts _ (isA_of hpl rfl)
  dsimp only at hlk
  unfold fget at h
  split at h
  · rename_i ci fs hs
    obtain ⟨ha, hsh⟩ := shq_some hs
    cases hb1 : Nat.beq ci (t % 100) with
    | false => rw [hb1] at h; exact h.elim
    | true =>
      rw [hb1, cond_true] at h
      have hci := Nat.eq_of_beq_eq_true hb1
      have hok := List.all_eq_true.mp shok_all a (List.mem_range.mpr ha)
      simp only [shok, hsh] at hok
      cases hq : cl[ci]? with
      | none => rw [hq] at hok; cases hok
      | some q =>
        rw [hq] at hok
        obtain ⟨hok1, hok2⟩ := and2 hok
        have hN := Nat.eq_of_beq_eq_true hok1
        obtain ⟨hin, -, -, -⟩ := clsP_of hq
        have hfr : fRef (100 * t + u) = (q.1, (q.2.1 u).2.1, (q.2.1 u).2.2.1) := by
          have e1 : (100 * t + u) / 100 % 100 = ci := by omega
          have e2 : (100 * t + u) % 100 = u := by omega
          have e3 : Nat.beq (100 * t + u) 2000 = false := by
            cases hz : Nat.beq (100 * t + u) 2000 with
            | false => rfl
            | true =>
              have := Nat.eq_of_beq_eq_true hz
              have e4 : ci = 20 := by omega
              rw [e4] at hq
              exact absurd hq (by simp [cl])
          have e5 : Nat.beq (100 * t + u) 2001 = false := by
            cases hz : Nat.beq (100 * t + u) 2001 with
            | false => rfl
            | true =>
              have := Nat.eq_of_beq_eq_true hz
              have e4 : ci = 20 := by omega
              rw [e4] at hq
              exact absurd hq (by simp [cl])
          simp only [fRef, e1, e2, e3, e5, cond_false, hq]
        rw [hfr] at hlk
        have he : (wl ad tc σ)[a]? = some (ad a, .inr (ci, fv ad (σ a) 0 fs)) := by rw [wl_at ha, cont_obj hsh]
        have own : ∀ x, nq fs u = some x → (q.2.1 u).1 = q.1 := by
          intro x hx'
          have := List.all_eq_true.mp hok2 u (List.mem_range.mpr (nq_lt hx'))
          rw [hx'] at this
          cases x with
          | none =>
            obtain ⟨z, -⟩ := and2 this
            exact of_decide_eq_true (and2 z).2
          | some r => exact of_decide_eq_true (and2 this).2
        split at h
        · rename_i hnq
          exact va_get (C := q.1) (T := q.2.1) (N := q.2.2) hx hb hts hin hown hKs hW.1 a he hq u (by rw [hN]; exact nq_lt hnq) hlk (by rw [own _ hnq]; exact fun _ z => z) (v := .int (σ a u)) (by simpa using fv_int (ad := ad) (g := σ a) (i := 0) hnq) hd (hK _ h)
        · rename_i r hnq
          exact va_get (C := q.1) (T := q.2.1) (N := q.2.2) hx hb hts hin hown hKs hW.1 a he hq u (by rw [hN]; exact nq_lt hnq) hlk (by rw [own _ hnq]; exact fun _ z => z) (v := .ref (ad r)) (fv_ref (ad := ad) (g := σ a) (i := 0) hnq) hd (hK _ h)
        · exact h.elim
  · exact h.elim
  · rename_i hs
    cases hb1 : (Nat.beq t 20 && Nat.ble 2000 a && Nat.ble a 2003) with
    | false => rw [hb1] at h; exact h.elim
    | true =>
      rw [hb1, cond_true] at h
      obtain ⟨hb2, hb5⟩ := and2 hb1
      obtain ⟨hb3, hb4⟩ := and2 hb2
      have ht := Nat.eq_of_beq_eq_true hb3
      have h2 := Nat.le_of_ble_eq_true hb4
      have h3 := Nat.le_of_ble_eq_true hb5
      obtain ⟨i, hi, rfl⟩ : ∃ i, i < 4 ∧ a = 2000 + i := ⟨a - 2000, by omega, by omega⟩
      subst ht
      have hZi := hZ.1.1 i hi
      cases hu0 : Nat.beq u 0 with
      | true =>
        rw [hu0, cond_true] at h
        have := Nat.eq_of_beq_eq_true hu0
        subst this
        exact vk_getf (v := .ref (ad (2100 + i))) hx hb hZi.2.2.1 hS hown hlk (fun _ z => z) hd (by rw [show 2100 + i = 2000 + i + 100 by omega]; exact hK _ h)
      | false =>
        rw [hu0, cond_false] at h
        cases hu1 : Nat.beq u 1 with
        | false => rw [hu1] at h; exact h.elim
        | true =>
          rw [hu1, cond_true] at h
          have := Nat.eq_of_beq_eq_true hu1
          subst this
          exact vk_getf (v := .int 0) hx hb hZi.2.1 hS hown hlk (fun _ z => z) hd (hK _ h)
end
