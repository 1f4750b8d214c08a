/-! WHAT THE MACHINE'S MEMORY IS IN A HEAP -/
def cv (ad : Nat → Nat) (V : Value) (v : Value) : Value := match v with
  | .ref a => .ref (ad a)
  | .retAddr _ => V
  | v => v
theorem cv_cat {ad : Nat → Nat} {V : Value} (hV : V.category = 1) (v : Value) : (cv ad V v).category = v.category := by
  cases v <;> first | rfl | exact hV
def lpl (ad : Nat → Nat) (V : Value) (ls : List Value) : List (Nat × Value) := (List.range ls.length).filterMap fun i => if lget ls i = .null then none else some (i, cv ad V (lget ls i))
theorem lget_out : ∀ (ls : List Value) (i : Nat), ls.length ≤ i → lget ls i = .null
  | [], _, _ => rfl
  | _ :: l, 0, h => by simp at h
  | _ :: l, i + 1, h => lget_out l i (by simpa using h)
theorem lpl_of {ad : Nat → Nat} {V : Value} {ls : List Value} {i : Nat} {v : Value} (h : lget ls i = v) (hv : v ≠ .null) : (i, cv ad V v) ∈ lpl ad V ls := by
  subst h
  refine List.mem_filterMap.mpr ⟨i, List.mem_range.mpr ?_, by rw [if_neg hv]⟩
  rcases Nat.lt_or_ge i ls.length with q | q
  · exact q
  · exact absurd (lget_out ls i q) hv
theorem lpl_in {ad : Nat → Nat} {V : Value} {ls : List Value} {q : Nat × Value} (h : q ∈ lpl ad V ls) : lget ls q.1 ≠ .null ∧ q.2 = cv ad V (lget ls q.1) := by
  obtain ⟨i, -, hi⟩ := List.mem_filterMap.mp h
  split at hi
  · cases hi
  · rename_i hn
    cases hi
    exact ⟨hn, rfl⟩
theorem lget_lset : ∀ (ls : List Value) (t : Nat) (v : Value) (i : Nat), lget (lset ls t v) i ≠ .null → (i = t ∧ lget (lset ls t v) i = v) ∨ (i ≠ t ∧ lget (lset ls t v) i = lget ls i ∧ ¬ (i + 1 = t ∧ (lget ls i).category = 2))
  | [], t, v, i, h => by
    cases t <;> exact absurd rfl h
  | w :: l, 0, v, 0, _ => Or.inl ⟨rfl, rfl⟩
  | w :: l, 0, v, i + 1, _ => Or.inr ⟨by omega, rfl, by omega⟩
  | w :: l, 1, v, 0, h => by
    refine Or.inr ⟨by omega, ?_, ?_⟩
    · show kil w = w
      have h : kil w ≠ .null := h
      cases w <;> first | rfl | exact absurd rfl h
    · intro q
      have h : kil w ≠ .null := h
      have q2 : w.category = 2 := q.2
      cases w <;> first | exact absurd rfl h | (simp [Value.category] at q2)
  | w :: l, 1, v, i + 1, h => by
    rcases lget_lset l 0 v i h with ⟨a, b⟩ | ⟨a, b, c⟩
    · exact Or.inl ⟨by omega, b⟩
    · exact Or.inr ⟨by omega, b, by omega⟩
  | w :: l, t + 2, v, 0, h => Or.inr ⟨by omega, rfl, by omega⟩
  | w :: l, t + 2, v, i + 1, h => by
    rcases lget_lset l (t + 1) v i h with ⟨a, b⟩ | ⟨a, b, c⟩
    · exact Or.inl ⟨by omega, b⟩
    · exact Or.inr ⟨by omega, b, fun z => c ⟨by omega, z.2⟩⟩
theorem lget_lset2 : ∀ (ls : List Value) (t : Nat) (v : Value) (i : Nat), lget (lset2 ls t v) i ≠ .null → (i = t ∧ lget (lset2 ls t v) i = v) ∨ (i ≠ t ∧ i ≠ t + 1 ∧ lget (lset2 ls t v) i = lget ls i ∧ ¬ (i + 1 = t ∧ (lget ls i).category = 2))
  | [], t, v, i, h => by
    cases t <;> exact absurd rfl h
  | [w], 0, v, 0, _ => Or.inl ⟨rfl, rfl⟩
  | [w], 0, v, i + 1, h => absurd rfl h
  | _ :: _ :: l, 0, v, 0, _ => Or.inl ⟨rfl, rfl⟩
  | _ :: _ :: l, 0, v, 1, h => absurd rfl h
  | _ :: _ :: l, 0, v, i + 2, _ => Or.inr ⟨by omega, by omega, rfl, by omega⟩
  | w :: l, 1, v, 0, h => by
    have e : lset2 (w :: l) 1 v = kil w :: lset2 l 0 v := by cases l <;> rfl
    rw [e] at h ⊢
    refine Or.inr ⟨by omega, by omega, ?_, ?_⟩
    · show kil w = w
      have h : kil w ≠ .null := h
      cases w <;> first | rfl | exact absurd rfl h
    · intro q
      have h : kil w ≠ .null := h
      have q2 : w.category = 2 := q.2
      cases w <;> first | exact absurd rfl h | (simp [Value.category] at q2)
  | w :: l, 1, v, i + 1, h => by
    have e : lset2 (w :: l) 1 v = kil w :: lset2 l 0 v := by cases l <;> rfl
    rw [e] at h ⊢
    rcases lget_lset2 l 0 v i h with ⟨a, b⟩ | ⟨a, a2, b, c⟩
    · exact Or.inl ⟨by omega, b⟩
    · exact Or.inr ⟨by omega, by omega, b, by omega⟩
  | w :: l, t + 2, v, 0, h => by
    have e : lset2 (w :: l) (t + 2) v = w :: lset2 l (t + 1) v := by cases l <;> rfl
    rw [e]
    exact Or.inr ⟨by omega, by omega, rfl, by omega⟩
  | w :: l, t + 2, v, i + 1, h => by
    have e : lset2 (w :: l) (t + 2) v = w :: lset2 l (t + 1) v := by cases l <;> rfl
    rw [e] at h ⊢
    rcases lget_lset2 l (t + 1) v i h with ⟨a, b⟩ | ⟨a, a2, b, c⟩
    · exact Or.inl ⟨by omega, b⟩
    · exact Or.inr ⟨by omega, by omega, b, fun z => c ⟨by omega, z.2⟩⟩
theorem lv_less {ls : Array Slot} {nL : Nat} {l l' : List (Nat × Value)} (h : lv_has ls nL l) (hs : ∀ q ∈ l', q ∈ l) : lv_has ls nL l' := ⟨h.1, h.2.1, fun q hq => h.2.2 q (hs q hq)⟩
theorem lpl_set {ad : Nat → Nat} {V : Value} (hV : V.category = 1) {ls : List Value} {t : Nat} {v : Value} : ∀ q ∈ lpl ad V (lset ls t v), q ∈ (t, cv ad V v) :: (lpl ad V ls).filter (fun q => !(q.1 == t) && !(q.1 + 1 == t && q.2.category == 2)) := by
  intro q hq
  obtain ⟨h1, h2⟩ := lpl_in hq
  obtain ⟨i, w⟩ := q
  dsimp only at h1 h2
  rcases lget_lset ls t v i h1 with ⟨a, b⟩ | ⟨a, b, c⟩
  · rw [b] at h2
    rw [a, h2]
    exact List.mem_cons_self
  · rw [b] at h1 h2
    refine List.mem_cons_of_mem _ (List.mem_filter.mpr ⟨by rw [h2]; exact lpl_of rfl h1, ?_⟩)
    rw [h2]
    simp only [cv_cat hV, Bool.and_eq_true, Bool.not_eq_true', beq_eq_false_iff_ne, ne_eq, Bool.and_eq_false_iff]
    refine ⟨a, ?_⟩
    by_cases z : i + 1 = t
    · exact Or.inr fun y => c ⟨z, y⟩
    · exact Or.inl z
theorem lpl_set2 {ad : Nat → Nat} {V : Value} (hV : V.category = 1) {ls : List Value} {t : Nat} {v : Value} : ∀ q ∈ lpl ad V (lset2 ls t v), q ∈ (t, cv ad V v) :: (lpl ad V ls).filter (fun q => !(q.1 == t) && (!(q.1 == t + 1) && !(q.1 + 1 == t && q.2.category == 2))) := by
  intro q hq
  obtain ⟨h1, h2⟩ := lpl_in hq
  obtain ⟨i, w⟩ := q
  dsimp only at h1 h2
  rcases lget_lset2 ls t v i h1 with ⟨a, b⟩ | ⟨a, a2, b, c⟩
  · rw [b] at h2
    rw [a, h2]
    exact List.mem_cons_self
  · rw [b] at h1 h2
    refine List.mem_cons_of_mem _ (List.mem_filter.mpr ⟨by rw [h2]; exact lpl_of rfl h1, ?_⟩)
    rw [h2]
    simp only [cv_cat hV, Bool.and_eq_true, Bool.not_eq_true', beq_eq_false_iff_ne, ne_eq, Bool.and_eq_false_iff]
    refine ⟨a, a2, ?_⟩
    by_cases z : i + 1 = t
    · exact Or.inr fun y => c ⟨z, y⟩
    · exact Or.inl z
theorem lget_rep : ∀ (n i : Nat), lget (List.replicate n .null) i = .null
  | 0, _ => rfl
  | n + 1, 0 => rfl
  | n + 1, i + 1 => lget_rep n i
theorem ent_in {ad : Nat → Nat} {V : Value} (hV : V.category = 1) : ∀ (as : List Value) (n i j : Nat), lget (ent n as) j ≠ .null → (i + j, cv ad V (lget (ent n as) j)) ∈ lv_args i (as.map (cv ad V))
  | [], n, i, j, h => by
    have : lget (List.replicate n .null) j ≠ .null := h
    exact absurd (lget_rep n j) this
  | .long x :: l, n, i, 0, h => List.mem_cons_self
  | .long x :: l, n, i, 1, h => absurd rfl h
  | .long x :: l, n, i, j + 2, h => by
    have := ent_in (ad := ad) hV l (n - 2) (i + 2) j h
    rw [show i + 2 + j = i + (j + 2) by omega] at this
    exact List.mem_cons_of_mem _ this
  | .double x :: l, n, i, 0, h => List.mem_cons_self
  | .double x :: l, n, i, 1, h => absurd rfl h
  | .double x :: l, n, i, j + 2, h => by
    have := ent_in (ad := ad) hV l (n - 2) (i + 2) j h
    rw [show i + 2 + j = i + (j + 2) by omega] at this
    exact List.mem_cons_of_mem _ this
  | .int x :: l, n, i, 0, h => List.mem_cons_self
  | .int x :: l, n, i, j + 1, h => by
    have := ent_in (ad := ad) hV l (n - 1) (i + 1) j h
    rw [show i + 1 + j = i + (j + 1) by omega] at this
    exact List.mem_cons_of_mem _ this
  | .float x :: l, n, i, 0, h => List.mem_cons_self
  | .float x :: l, n, i, j + 1, h => by
    have := ent_in (ad := ad) hV l (n - 1) (i + 1) j h
    rw [show i + 1 + j = i + (j + 1) by omega] at this
    exact List.mem_cons_of_mem _ this
  | .null :: l, n, i, 0, h => absurd rfl h
  | .null :: l, n, i, j + 1, h => by
    have := ent_in (ad := ad) hV l (n - 1) (i + 1) j h
    rw [show i + 1 + j = i + (j + 1) by omega] at this
    exact List.mem_cons_of_mem _ this
  | .ref x :: l, n, i, 0, h => List.mem_cons_self
  | .ref x :: l, n, i, j + 1, h => by
    have := ent_in (ad := ad) hV l (n - 1) (i + 1) j h
    rw [show i + 1 + j = i + (j + 1) by omega] at this
    exact List.mem_cons_of_mem _ this
  | .retAddr x :: l, n, i, 0, h => List.mem_cons_self
  | .retAddr x :: l, n, i, j + 1, h => by
    have := ent_in (ad := ad) hV l (n - 1) (i + 1) j h
    rw [show i + 1 + j = i + (j + 1) by omega] at this
    refine List.mem_cons_of_mem _ ?_
    have e : (if (cv ad V (.retAddr x)).category = 2 then i + 2 else i + 1) = i + 1 := by
      rw [cv_cat hV]
      rfl
    rw [e]
    exact this
theorem slw_len {ad : Nat → Nat} {V : Value} (hV : V.category = 1) : ∀ l : List Value, (lg_sl (l.map (cv ad V))).length = slw l
  | [] => rfl
  | v :: l => by
    have ih := slw_len (ad := ad) hV l
    have e : lg_sl ((v :: l).map (cv ad V)) = (if (cv ad V v).category = 2 then [.val (cv ad V v), .second] else [.val (cv ad V v)]) ++ lg_sl (l.map (cv ad V)) := rfl
    rw [e, List.length_append, ih, cv_cat hV]
    cases v <;> simp [slw, Value.category] <;> omega
theorem slw_rev : ∀ l : List Value, slw l.reverse = slw l := by
  have ha : ∀ a b : List Value, slw (a ++ b) = slw a + slw b := by
    intro a b
    induction a with
    | nil => simp [slw]
    | cons v a ih => cases v <;> simp only [List.cons_append, slw, ih] <;> omega
  intro l
  induction l with
  | nil => rfl
  | cons v l ih =>
    rw [List.reverse_cons, ha, ih]
    cases v <;> simp [slw]
-- the cells
def fv (ad : Nat → Nat) (g : Nat → Int32) : Nat → List (Option Nat) → List Value
  | _, [] => []
  | i, none :: l => .int (g i) :: fv ad g (i + 1) l
  | i, some r :: l => .ref (ad r) :: fv ad g (i + 1) l
theorem fv_int {ad : Nat → Nat} {g : Nat → Int32} : ∀ {fs : List (Option Nat)} {u i : Nat}, nq fs u = some none → (fv ad g i fs)[u]? = some (.int (g (i + u)))
  | none :: l, 0, i, _ => rfl
  | none :: l, u + 1, i, h => by
    have := fv_int (ad := ad) (g := g) (fs := l) (u := u) (i := i + 1) h
    rw [show i + 1 + u = i + (u + 1) by omega] at this
    exact this
  | some r :: l, u + 1, i, h => by
    have := fv_int (ad := ad) (g := g) (fs := l) (u := u) (i := i + 1) h
    rw [show i + 1 + u = i + (u + 1) by omega] at this
    exact this
theorem fv_ref {ad : Nat → Nat} {g : Nat → Int32} : ∀ {fs : List (Option Nat)} {u i r : Nat}, nq fs u = some (some r) → (fv ad g i fs)[u]? = some (.ref (ad r))
  | some r :: l, 0, i, _, h => by cases h; rfl
  | none :: l, u + 1, i, _, h => fv_ref (fs := l) (u := u) (i := i + 1) h
  | some r :: l, u + 1, i, _, h => fv_ref (fs := l) (u := u) (i := i + 1) h
theorem fv_len {ad : Nat → Nat} {g : Nat → Int32} : ∀ (fs : List (Option Nat)) (i : Nat), (fv ad g i fs).length = fs.length
  | [], _ => rfl
  | none :: l, i => by simp [fv, fv_len l]
  | some r :: l, i => by simp [fv, fv_len l]
theorem nq_lt : ∀ {fs : List (Option Nat)} {u : Nat} {x : Option Nat}, nq fs u = some x → u < fs.length
  | _ :: _, 0, _, _ => Nat.succ_pos _
  | _ :: l, u + 1, _, h => Nat.succ_lt_succ (nq_lt (fs := l) h)
theorem fv_cong {ad : Nat → Nat} {g g' : Nat → Int32} : ∀ (fs : List (Option Nat)) (i : Nat), (∀ j, i ≤ j → g j = g' j) → fv ad g i fs = fv ad g' i fs
  | [], _, _ => rfl
  | none :: l, i, h => by
    show Value.int (g i) :: _ = Value.int (g' i) :: _
    rw [h i (Nat.le_refl i), fv_cong l (i + 1) fun j hj => h j (by omega)]
  | some r :: l, i, h => by
    show Value.ref (ad r) :: _ = Value.ref (ad r) :: _
    rw [fv_cong l (i + 1) fun j hj => h j (by omega)]
theorem fv_set {ad : Nat → Nat} {g : Nat → Int32} {x : Int32} : ∀ {fs : List (Option Nat)} {u i : Nat}, nq fs u = some none → (fv ad g i fs).set u (.int x) = fv ad (upd g (i + u) x) i fs
  | none :: l, 0, i, _ => by
    show Value.int x :: fv ad g (i + 1) l = Value.int (upd g i x i) :: fv ad (upd g i x) (i + 1) l
    rw [pk_us, fv_cong l (i + 1) fun j hj => (pk_un (show j ≠ i by omega)).symm]
  | none :: l, u + 1, i, h => by
    have := fv_set (ad := ad) (g := g) (x := x) (fs := l) (u := u) (i := i + 1) h
    rw [show i + 1 + u = i + (u + 1) by omega] at this
    show Value.int (g i) :: (fv ad g (i + 1) l).set u (.int x) = Value.int (upd g (i + (u + 1)) x i) :: _
    rw [this, pk_un (show i ≠ i + (u + 1) by omega)]
  | some r :: l, u + 1, i, h => by
    have := fv_set (ad := ad) (g := g) (x := x) (fs := l) (u := u) (i := i + 1) h
    rw [show i + 1 + u = i + (u + 1) by omega] at this
    show Value.ref (ad r) :: (fv ad g (i + 1) l).set u (.int x) = Value.ref (ad r) :: _
    rw [this]
def contC (ad : Nat → Nat) (tc : Nat → ClassId) (g : Nat → Int32) (k : Nat) : va_E := match sh k with
  | .inl (ci, fs) => .inr (ci, fv ad g 0 fs)
  | .inr (ty, n, b) => .inl (tc ty, n, bif Nat.ble ty 3 then .inl g else .inr (.inr (.inr (.inr fun j => some (ad (b + j))))))
def wl (ad : Nat → Nat) (tc : Nat → ClassId) (σ : Mm) : va_W := (List.range 140).map fun k => (ad k, contC ad tc (σ k) k)
theorem wl_at {ad : Nat → Nat} {tc : Nat → ClassId} {σ : Mm} {k : Nat} (hk : k < 140) : (wl ad tc σ)[k]? = some (ad k, contC ad tc (σ k) k) := by simp [wl, hk]
theorem wl_up {ad : Nat → Nat} {tc : Nat → ClassId} {σ : Mm} {k : Nat} {g : Nat → Int32} (hk : k < 140) : (wl ad tc σ).set k (ad k, contC ad tc g k) = wl ad tc (up σ k g) := by
  apply List.ext_getElem?
  intro j
  rw [List.getElem?_set]
  by_cases h : k = j
  · subst h
    rw [if_pos rfl, if_pos (by simp [wl, hk]), wl_at hk]
    simp [up]
  · rw [if_neg h]
    by_cases hj : j < 140
    · rw [wl_at hj, wl_at hj]
      simp [up, Ne.symm h]
    · simp [wl, hj]
theorem wl_D {ad : Nat → Nat} {tc : Nat → ClassId} {σ σ' : Mm} {A : Nat → Prop} (h : va_D A (wl ad tc σ)) : va_D A (wl ad tc σ') := by
  have e : ∀ (k : Nat) (q : Nat × va_E), (wl ad tc σ')[k]? = some q → ∃ q', (wl ad tc σ)[k]? = some q' ∧ q'.1 = q.1 := by
    intro k q hq
    have hk : k < 140 := by
      have := (List.getElem?_eq_some_iff.mp hq).1
      simpa [wl] using this
    rw [wl_at hk] at hq
    cases hq
    exact ⟨_, wl_at hk, rfl⟩
  refine ⟨fun i j p q hp hq hpq => ?_, fun k q hq => ?_⟩
  · obtain ⟨p', a1, a2⟩ := e i p hp
    obtain ⟨q', b1, b2⟩ := e j q hq
    exact h.1 i j p' q' a1 b1 (by rw [a2, b2]; exact hpq)
  · obtain ⟨q', a1, a2⟩ := e k q hq
    rw [← a2]
    exact h.2 k q' a1
theorem shq_some {a : Nat} {x : Sp} (h : shq a = some x) : a < 140 ∧ sh a = x := by
  unfold shq at h
  cases hb : Nat.ble 140 a with
  | true => rw [hb] at h; cases h
  | false =>
    rw [hb] at h
    refine ⟨Nat.not_le.mp fun q => ?_, Option.some.inj h⟩
    rw [Nat.ble_eq_true_of_le q] at hb
    cases hb
theorem cont_arr {ad : Nat → Nat} {tc : Nat → ClassId} {g : Nat → Int32} {k ty n b : Nat} (h : sh k = .inr (ty, n, b)) (h3 : Nat.ble ty 3 = true) : contC ad tc g k = .inl (tc ty, n, .inl g) := by
  simp only [contC, h, h3, cond_true]
theorem cont_row {ad : Nat → Nat} {tc : Nat → ClassId} {g : Nat → Int32} {k ty n b : Nat} (h : sh k = .inr (ty, n, b)) (h3 : Nat.ble ty 3 = false) : contC ad tc g k = .inl (tc ty, n, .inr (.inr (.inr (.inr fun j => some (ad (b + j)))))) := by
  simp only [contC, h, h3, cond_false]
theorem cont_obj {ad : Nat → Nat} {tc : Nat → ClassId} {g : Nat → Int32} {k ci : Nat} {fs : List (Option Nat)} (h : sh k = .inl (ci, fs)) : contC ad tc g k = .inr (ci, fv ad g 0 fs) := by
  simp only [contC, h]
/-- what narrow cells hold fits -/
def Fit (σ : Mm) : Prop := ∀ k ty n b : Nat, shq k = some (.inr (ty, n, b)) → Nat.ble ty 3 = true → ∀ i : Nat, fits (tyF ty) (.int (σ k i)) = true
def tysl (tc : Nat → ClassId) : List (ClassId × FieldType) := [(tc 0, .int), (tc 1, .boolean), (tc 2, .byte), (tc 3, .short), (tc 4, .array .int), (tc 5, .array .short)]
theorem tysl_at {tc : Nat → ClassId} {ty : Nat} (h : ty < 6) : (tysl tc)[ty]? = some (tc ty, tyF ty) := by
  rcases (show ty = 0 ∨ ty = 1 ∨ ty = 2 ∨ ty = 3 ∨ ty = 4 ∨ ty = 5 by omega) with rfl | rfl | rfl | rfl | rfl | rfl <;> rfl
def sLens : List Nat := [5, 3, 6, 4]
def sTx (i : Nat) : Nat × String := bif Nat.ble 2 i then (bif Nat.ble 3 i then (116, "gain") else (114, "change")) else (bif Nat.ble 1 i then (108, "end") else (101, "kwtab"))
/-- what nobody writes: texts and statics -/
def Zs (ad : Nat → Nat) (V : Value) (A : Nat → Prop) (U : State) (H : Heap) : Prop :=
  vk_S 4 sLens sByts (fun i => ad (2000 + i)) (fun i => ad (2100 + i)) A U H ∧ va_Z "java/lang/String" "COMPACT_STRINGS" "Z" (.int 1) A U H ∧ va_Z "jdk/internal/util/Preconditions" "SIOOBE_FORMATTER" "Ljava/util/function/BiFunction;" V A U H ∧
  (∀ i, i < 4 → vk_R "VoucherHall$LawReader" (sTx i).1 (sTx i).2 (ad (2000 + i)) U) ∧ va_Nw (.methodLinkNest "VoucherHall$Mixer" 57 yX11_within "VoucherHall") U
theorem Zs.at {ad : Nat → Nat} {V : Value} {A B : Nat → Prop} {s U : State} {H : Heap} {locs : List Loc} (h : Zs ad V A s s.heap) (hS : va_S A s.heap H locs) (hAB : ∀ q, B q → A q) (hW : s.WarmedH U.vm) : Zs ad V B U H := by
  obtain ⟨h1, h2, h3, h4, h5⟩ := h
  exact ⟨((h1.kept hS.2.1).narrow hAB).moved hW.alike, ((h2.kept hS.2.1).narrow hAB).moved hW.alike, ((h3.kept hS.2.1).narrow hAB).moved hW.alike, fun i hi => (h4 i hi).warm hW, h5.warmM hW⟩
theorem Zs.same {ad : Nat → Nat} {V : Value} {A : Nat → Prop} {s U : State} {H : Heap} (h : Zs ad V A s H) (hv : U.vm = s.vm) : Zs ad V A U H := by
  obtain ⟨h1, h2, h3, h4, h5⟩ := h
  have al : s.vm.Alike U.vm := by rw [hv]; exact Vm.Alike.refl _
  exact ⟨h1.moved al, h2.moved al, h3.moved al, fun i hi => (h4 i hi).same hv, va_Nw.same rfl hv.symm h5⟩
