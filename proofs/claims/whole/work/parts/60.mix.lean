/-- all but one cell -/
def Bt (k : Nat) (τ ρ : Mm) : Prop := ∀ c, c ≠ k → ρ c = τ c
theorem bt_rf {k : Nat} {τ : Mm} : Bt k τ τ := fun _ _ => rfl
theorem bt_wr {k i : Nat} {v : Int32} {τ ρ : Mm} (h : Bt k τ ρ) : Bt k τ (wr ρ k i v) := fun c hc => (wr_c hc).trans (h c hc)
def sumF (c : Nat → Int32) (off : Int32) : Nat → Int32
  | 0 => -off
  | n + 1 => sumF c off n + c n
def allF (c : Nat → Int32) (off : Int32) (n : Nat) : Int32 := mmx 0 (sumF c off n)
abbrev srP (b so : Nat → Int32) (p i : Nat) : Prop := ((b p >>> (so i &&& 31)) &&& 1).toInt = 1
def ptF (b so a : Nat → Int32) (p : Nat) (c : Nat → Int32) (i : Nat) : Int32 := if srP b so p i then c i - c i * a p / 100 else c i
/-- the least of a sort, and how many there are -/
def plF (b so : Nat → Int32) (p : Nat) (c : Nat → Int32) : Nat → Option Nat
  | 0 => none
  | i + 1 => if srP b so p i then (match plF b so p c i with
    | none => some i
    | some l => if (c i).toInt < (c l).toInt then some i else some l) else plF b so p c i
def pmF (b so : Nat → Int32) (p : Nat) : Nat → Nat
  | 0 => 0
  | i + 1 => if srP b so p i then pmF b so p i + 1 else pmF b so p i
theorem pm_le (b so : Nat → Int32) (p : Nat) : ∀ n, pmF b so p n ≤ n
  | 0 => Nat.le_refl 0
  | n + 1 => by
    have := pm_le b so p n
    unfold pmF
    split <;> omega
theorem pl_lt {b so : Nat → Int32} {p : Nat} {c : Nat → Int32} : ∀ (n l : Nat), plF b so p c n = some l → l < n
  | 0, l, h => by cases h
  | n + 1, l, h => by
    unfold plF at h
    split at h
    · cases q : plF b so p c n with
      | none => rw [q] at h; cases h; omega
      | some k =>
        rw [q] at h
        have := pl_lt n k q
        dsimp only at h
        split at h <;> (cases h; omega)
    · have := pl_lt n l h
      omega
theorem pl_some {b so : Nat → Int32} {p : Nat} {c : Nat → Int32} : ∀ n, plF b so p c n = none → pmF b so p n = 0
  | 0, _ => rfl
  | n + 1, h => by
    unfold plF at h
    unfold pmF
    split at h
    · cases q : plF b so p c n with
      | none => rw [q] at h; cases h
      | some k => rw [q] at h; dsimp only at h; split at h <;> cases h
    · rename_i z
      rw [if_neg z]
      exact pl_some n h
def wkC (kd a b so : Nat → Int32) (n : Nat) (p : Nat) (s : (Nat → Int32) × Int32) : (Nat → Int32) × Int32 :=
  if (kd p).toInt = 0 then (ptF b so a p s.1, s.2) else if (kd p).toInt = 1 then (s.1, if (allF s.1 s.2 n).toInt < (b p).toInt then s.2 else s.2 + a p) else if (kd p).toInt = 2 then ((match plF b so p s.1 n with
    | none => s.1
    | some l => if (pmF b so p n : Int) < (a p).toInt then s.1 else upd s.1 l 0), s.2) else (s.1, if (n : Int) < (b p).toInt then s.2 else s.2 + mmx 0 (allF s.1 s.2 n - a p))
theorem sum_cong {c c' : Nat → Int32} {off : Int32} : ∀ n, (∀ i, i < n → c' i = c i) → sumF c' off n = sumF c off n
  | 0, _ => rfl
  | n + 1, h => by
    unfold sumF
    rw [sum_cong n (fun i hi => h i (Nat.lt_succ_of_lt hi)), h n (Nat.lt_succ_self n)]
theorem all_cong {c c' : Nat → Int32} {off : Int32} {n : Nat} (h : ∀ i, i < n → c' i = c i) : allF c' off n = allF c off n := by
  unfold allF
  rw [sum_cong n h]
theorem pl_cong {b so : Nat → Int32} {p : Nat} {c c' : Nat → Int32} : ∀ n, (∀ i, i < n → c' i = c i) → plF b so p c' n = plF b so p c n
  | 0, _ => rfl
  | n + 1, h => by
    have ih := pl_cong (b := b) (so := so) (p := p) n (fun i hi => h i (Nat.lt_succ_of_lt hi))
    unfold plF
    rw [ih]
    cases q : plF b so p c n with
    | none => rfl
    | some l =>
      have := pl_lt n l q
      dsimp only
      rw [h n (Nat.lt_succ_self n), h l (by omega)]
theorem wk_cong {kd a b so : Nat → Int32} {n p : Nat} {s t : (Nat → Int32) × Int32} (h : ∀ i, i < n → t.1 i = s.1 i) (h2 : t.2 = s.2) : (∀ i, i < n → (wkC kd a b so n p t).1 i = (wkC kd a b so n p s).1 i) ∧ (wkC kd a b so n p t).2 = (wkC kd a b so n p s).2 := by
  unfold wkC
  rw [h2, all_cong h, pl_cong n h]
  split
  · refine ⟨fun i hi => ?_, rfl⟩
    show ptF _ _ _ _ _ i = ptF _ _ _ _ _ i
    unfold ptF
    rw [h i hi]
  · split
    · exact ⟨h, rfl⟩
    · split
      · refine ⟨fun i hi => ?_, rfl⟩
        cases q : plF b so p s.1 n with
        | none => exact h i hi
        | some l =>
          dsimp only
          split
          · exact h i hi
          · exact updE (h i hi) rfl
      · exact ⟨h, rfl⟩
theorem s_all {d : Nat} {τ : Mm} {Q : Qt} {x : Int32} (hN : 0 ≤ (τ 45 0).toInt ∧ (τ 45 0).toInt ≤ 8) (hx : 0 ≤ x.toInt ∧ x.toInt ≤ 6) (hQ : Q (some (.int (allF (τ (63 + x.toInt.toNat)) (τ 70 x.toInt.toNat) (τ 45 0).toInt.toNat))) τ) : Call (d + 2) k_X6_all [.ref 58, .int x] τ Q := by
  refine Call_go fun X hX => ?_
  have loop : ∀ (k i : Nat), i + k = (τ 45 0).toInt.toNat → X 22 [.ref 58, .int x, .int (sumF (τ (63 + x.toInt.toNat)) (τ 70 x.toInt.toNat) i), .int (nI i)] [] τ := by
    intro k
    induction k with
    | zero =>
      intro i hi
      rw [Nat.add_zero] at hi
      have e1 := nIt (n := i) (by omega)
      subst hi
      refine go [22] 100 hX ?_
      refine ⟨fun c30 => ?_, fun c30 => ?_⟩
      · exfalso; omega
      · refine ⟨rfl, ?_⟩
        refine ⟨rfl, trivial, ?_⟩
        exact hQ
    | succ k ih =>
      intro i hi
      have e1 := nIt (n := i) (by omega)
      have e2 := nIn (i := i) (by omega)
      refine go [22] 100 hX ?_
      refine ⟨fun c30 => ?_, fun c30 => ?_⟩
      · refine ⟨_, _, rfl, ⟨by omega, by omega⟩, ?_⟩
        refine ⟨_, _, rdI_row (rw63 (by omega)), ⟨by omega, by omega⟩, ?_⟩
        have ih1 := ih (i + 1) (by omega)
        have es : sumF (τ (63 + x.toInt.toNat)) (τ 70 x.toInt.toNat) (i + 1) = sumF (τ (63 + x.toInt.toNat)) (τ 70 x.toInt.toNat) i + τ (63 + x.toInt.toNat) (nI i).toInt.toNat := by rw [e2]; rfl
        rw [es, ← nI_1] at ih1
        exact ih1
      · exfalso; omega
  refine go [22] 30 hX ?_
  refine ⟨rfl, ?_⟩
  refine s_withinK (l := 0) (h := 6) (by decide) (by decide) ?_
  refine ⟨fun c7 => ?_, fun c7 => ?_⟩
  · replace c7 := bI_z c7
    refine ⟨rfl, trivial, ?_⟩
    exfalso; omega
  · replace c7 := bI_nz c7
    refine ⟨_, _, rfl, ⟨by omega, by omega⟩, ?_⟩
    exact loop _ 0 (Nat.zero_add _)
theorem s_sortOf {d : Nat} {τ : Mm} {Q : Qt} {i p : Int32} (hi : 0 ≤ i.toInt ∧ i.toInt < 8) (hp : 0 ≤ p.toInt ∧ p.toInt < 6) (hQ : Q (some (.int (bI (srP (τ 50) (τ 47) p.toInt.toNat i.toInt.toNat)))) τ) : Call (d + 1) k_X0_isSortOf [.ref 45, .int i, .int p] τ Q := by
  refine Call_st 30 fun X hX => ?_
  refine ⟨_, _, rfl, ⟨by omega, by omega⟩, ?_⟩
  refine ⟨_, _, rfl, ⟨by omega, by omega⟩, ?_⟩
  refine ⟨fun c16 => ?_, fun c16 => ?_⟩
  · refine ⟨rfl, Or.inr rfl, ?_⟩
    exact bI_t hQ c16
  · refine ⟨rfl, Or.inl rfl, ?_⟩
    exact bI_f hQ c16
theorem s_takePart {d : Nat} {τ : Mm} {Q : Qt} {p x : Int32} (hN : 0 ≤ (τ 45 0).toInt ∧ (τ 45 0).toInt ≤ 8) (hp : 0 ≤ p.toInt ∧ p.toInt < 6) (hx : 0 ≤ x.toInt ∧ x.toInt ≤ 6) (hQ : ∀ ρ, Bt (63 + x.toInt.toNat) τ ρ → (∀ i, i < (τ 45 0).toInt.toNat → ρ (63 + x.toInt.toNat) i = ptF (τ 50) (τ 47) (τ 49) p.toInt.toNat (τ (63 + x.toInt.toNat)) i) → Q none ρ) : Call (d + 2) k_X6_takePart [.ref 58, .int p, .int x] τ Q := by
  refine Call_go fun X hX => ?_
  have loop : ∀ (k i : Nat) (ρ : Mm), i + k = (τ 45 0).toInt.toNat → Bt (63 + x.toInt.toNat) τ ρ → (∀ j, j < i → ρ (63 + x.toInt.toNat) j = ptF (τ 50) (τ 47) (τ 49) p.toInt.toNat (τ (63 + x.toInt.toNat)) j) → (∀ j, i ≤ j → ρ (63 + x.toInt.toNat) j = τ (63 + x.toInt.toNat) j) → X 2 [.ref 58, .int p, .int x, .int (nI i)] [] ρ := by
    intro k
    induction k with
    | zero =>
      intro i ρ hi hB hd ho
      rw [Nat.add_zero] at hi
      have f45 : ρ 45 = τ 45 := hB 45 (by omega)
      have q45 : (ρ 45 0).toInt = (τ 45 0).toInt := by rw [f45]
      have f47 : ρ 47 = τ 47 := hB 47 (by omega)
      have f49 : ρ 49 = τ 49 := hB 49 (by omega)
      have f50 : ρ 50 = τ 50 := hB 50 (by omega)
      have e1 := nIt (n := i) (by omega)
      refine go [2] 100 hX ?_
      refine ⟨fun c10 => ?_, fun c10 => ?_⟩
      · exfalso; omega
      · refine ⟨rfl, rfl, ?_⟩
        exact hQ ρ hB (fun j hj => hd j (by omega))
    | succ k ih =>
      intro i ρ hi hB hd ho
      have f45 : ρ 45 = τ 45 := hB 45 (by omega)
      have q45 : (ρ 45 0).toInt = (τ 45 0).toInt := by rw [f45]
      have f47 : ρ 47 = τ 47 := hB 47 (by omega)
      have f49 : ρ 49 = τ 49 := hB 49 (by omega)
      have f50 : ρ 50 = τ 50 := hB 50 (by omega)
      have e1 := nIt (n := i) (by omega)
      have e2 := nIn (i := i) (by omega)
      refine go [2] 100 hX ?_
      refine ⟨fun c10 => ?_, fun c10 => ?_⟩
      · refine ⟨rfl, rfl, ?_⟩
        refine s_sortOf ⟨by omega, by omega⟩ hp ?_
        refine ⟨fun c22 => ?_, fun c22 => ?_⟩
        · replace c22 := bI_z c22
          rw [f50, f47, e2] at c22
          refine (fun ih1 => ?_) (ih (i + 1) ρ (by omega) hB (fun j hj => ?_) (fun j hj => ho j (by omega)))
          · rw [← nI_1] at ih1
            exact ih1
          · by_cases q : j = i
            · rw [q, ho i (Nat.le_refl i)]; exact (if_neg c22).symm
            · exact hd j (by omega)
        · replace c22 := bI_nz c22
          refine ⟨_, _, rfl, ⟨by omega, by omega⟩, ?_⟩
          refine ⟨_, _, rdI_row (rw63 (by omega)), ⟨by omega, by omega⟩, ?_⟩
          refine ⟨_, _, rfl, ⟨by omega, by omega⟩, ?_⟩
          refine ⟨_, _, rdI_row (rw63 (by omega)), ⟨by omega, by omega⟩, ?_⟩
          refine ⟨_, _, rfl, ⟨by omega, by omega⟩, ?_⟩
          refine ⟨(by decide), ?_⟩
          refine ⟨_, (rw63 (by omega)), ⟨by omega, by omega⟩, ?_⟩
          rw [f50, f47, e2] at c22
          refine (fun ih1 => ?_) (ih (i + 1) (wr ρ (63 + x.toInt.toNat) (nI i).toInt.toNat (ρ (63 + x.toInt.toNat) (nI i).toInt.toNat - ρ (63 + x.toInt.toNat) (nI i).toInt.toNat * ρ 49 p.toInt.toNat / 100)) (by omega) (bt_wr hB) (fun j hj => ?_) (fun j hj => ?_))
          · rw [← nI_1] at ih1
            exact ih1
          · rw [wr_k, e2]
            by_cases q : j = i
            · rw [q, pk_us, ho i (Nat.le_refl i), f49]; exact (if_pos c22).symm
            · rw [pk_un q]; exact hd j (by omega)
          · rw [wr_k, e2, pk_un (by omega)]
            exact ho j (by omega)
      · exfalso; omega
  refine go [2] 20 hX ?_
  exact loop _ 0 τ (Nat.zero_add _) bt_rf (fun j hj => by omega) (fun j _ => rfl)
theorem s_takeOff {d : Nat} {τ : Mm} {Q : Qt} {p x : Int32} (hN : 0 ≤ (τ 45 0).toInt ∧ (τ 45 0).toInt ≤ 8) (hp : 0 ≤ p.toInt ∧ p.toInt < 6) (hx : 0 ≤ x.toInt ∧ x.toInt ≤ 6) (h1 : (allF (τ (63 + x.toInt.toNat)) (τ 70 x.toInt.toNat) (τ 45 0).toInt.toNat).toInt < (τ 50 p.toInt.toNat).toInt → Q none τ) (h2 : ¬ (allF (τ (63 + x.toInt.toNat)) (τ 70 x.toInt.toNat) (τ 45 0).toInt.toNat).toInt < (τ 50 p.toInt.toNat).toInt → Q none (wr τ 70 x.toInt.toNat (τ 70 x.toInt.toNat + τ 49 p.toInt.toNat))) : Call (d + 3) k_X6_takeOff [.ref 58, .int p, .int x] τ Q := by
  refine Call_st 40 fun X hX => ?_
  refine ⟨rfl, rfl, ?_⟩
  refine s_all hN hx ?_
  refine ⟨_, _, rfl, ⟨by omega, by omega⟩, ?_⟩
  refine ⟨fun c14 => ?_, fun c14 => ?_⟩
  · refine ⟨rfl, rfl, ?_⟩
    exact h1 c14
  · refine ⟨_, _, rfl, ⟨by omega, by omega⟩, ?_⟩
    refine ⟨_, _, rfl, ⟨by omega, by omega⟩, ?_⟩
    refine ⟨_, rfl, ⟨by omega, by omega⟩, ?_⟩
    refine ⟨rfl, rfl, ?_⟩
    exact h2 c14
theorem s_takeCap {d : Nat} {τ : Mm} {Q : Qt} {p x : Int32} (hN : 0 ≤ (τ 45 0).toInt ∧ (τ 45 0).toInt ≤ 8) (hp : 0 ≤ p.toInt ∧ p.toInt < 6) (hx : 0 ≤ x.toInt ∧ x.toInt ≤ 6) (h1 : (τ 45 0).toInt < (τ 50 p.toInt.toNat).toInt → Q none τ) (h2 : ¬ (τ 45 0).toInt < (τ 50 p.toInt.toNat).toInt → Q none (wr τ 70 x.toInt.toNat (τ 70 x.toInt.toNat + mmx 0 (allF (τ (63 + x.toInt.toNat)) (τ 70 x.toInt.toNat) (τ 45 0).toInt.toNat - τ 49 p.toInt.toNat)))) : Call (d + 3) k_X6_takeCap [.ref 58, .int p, .int x] τ Q := by
  refine Call_st 40 fun X hX => ?_
  refine ⟨_, _, rfl, ⟨by omega, by omega⟩, ?_⟩
  refine ⟨fun c16 => ?_, fun c16 => ?_⟩
  · refine ⟨rfl, rfl, ?_⟩
    exact h1 c16
  · refine ⟨_, _, rfl, ⟨by omega, by omega⟩, ?_⟩
    refine ⟨rfl, rfl, ?_⟩
    refine s_all hN hx ?_
    refine ⟨_, _, rfl, ⟨by omega, by omega⟩, ?_⟩
    refine ⟨rfl, ?_⟩
    refine ⟨_, rfl, ⟨by omega, by omega⟩, ?_⟩
    refine ⟨rfl, rfl, ?_⟩
    exact h2 c16
def opC : Option Nat → Int32
  | none => -1000000005
  | some l => nI l
theorem pl_n {b so : Nat → Int32} {p : Nat} {c : Nat → Int32} {i : Nat} (h : ¬ srP b so p i) : plF b so p c (i + 1) = plF b so p c i := if_neg h
theorem pl_0 {b so : Nat → Int32} {p : Nat} {c : Nat → Int32} {i : Nat} (h : srP b so p i) (q : plF b so p c i = none) : plF b so p c (i + 1) = some i := by
  rw [plF, if_pos h, q]
theorem pl_l {b so : Nat → Int32} {p l : Nat} {c : Nat → Int32} {i : Nat} (h : srP b so p i) (q : plF b so p c i = some l) (r : (c i).toInt < (c l).toInt) : plF b so p c (i + 1) = some i := by
  rw [plF, if_pos h, q]
  exact if_pos r
theorem pl_g {b so : Nat → Int32} {p l : Nat} {c : Nat → Int32} {i : Nat} (h : srP b so p i) (q : plF b so p c i = some l) (r : ¬ (c i).toInt < (c l).toInt) : plF b so p c (i + 1) = some l := by
  rw [plF, if_pos h, q]
  exact if_neg r
theorem pm_p {b so : Nat → Int32} {p : Nat} {i : Nat} (h : srP b so p i) : pmF b so p (i + 1) = pmF b so p i + 1 := if_pos h
theorem pm_n {b so : Nat → Int32} {p : Nat} {i : Nat} (h : ¬ srP b so p i) : pmF b so p (i + 1) = pmF b so p i := if_neg h
theorem s_takePair {d : Nat} {τ : Mm} {Q : Qt} {p x : Int32} (hN : 0 ≤ (τ 45 0).toInt ∧ (τ 45 0).toInt ≤ 8) (hp : 0 ≤ p.toInt ∧ p.toInt < 6) (hx : 0 ≤ x.toInt ∧ x.toInt ≤ 6) (h1 : plF (τ 50) (τ 47) p.toInt.toNat (τ (63 + x.toInt.toNat)) (τ 45 0).toInt.toNat = none ∨ (pmF (τ 50) (τ 47) p.toInt.toNat (τ 45 0).toInt.toNat : Int) < (τ 49 p.toInt.toNat).toInt → Q none τ) (h2 : ∀ l, plF (τ 50) (τ 47) p.toInt.toNat (τ (63 + x.toInt.toNat)) (τ 45 0).toInt.toNat = some l → ¬ (pmF (τ 50) (τ 47) p.toInt.toNat (τ 45 0).toInt.toNat : Int) < (τ 49 p.toInt.toNat).toInt → Q none (wr τ (63 + x.toInt.toNat) l 0)) : Call (d + 2) k_X6_takePair [.ref 58, .int p, .int x] τ Q := by
  refine Call_go fun X hX => ?_
  have loop : ∀ (k i : Nat), i + k = (τ 45 0).toInt.toNat → X 9 [.ref 58, .int p, .int x, .int (opC (plF (τ 50) (τ 47) p.toInt.toNat (τ (63 + x.toInt.toNat)) i)), .int (nI (pmF (τ 50) (τ 47) p.toInt.toNat i)), .int (nI i)] [] τ := by
    intro k
    induction k with
    | zero =>
      intro i hi
      rw [Nat.add_zero] at hi
      have e1 := nIt (n := i) (by omega)
      subst hi
      refine go [9] 100 hX ?_
      refine ⟨fun c18 => ?_, fun c18 => ?_⟩
      · exfalso; omega
      · refine ⟨_, _, rfl, ⟨by omega, by omega⟩, ?_⟩
        refine ⟨fun c87 => ?_, fun c87 => ?_⟩
        · refine ⟨rfl, rfl, ?_⟩
          have hm := pm_le (τ 50) (τ 47) p.toInt.toNat (τ 45 0).toInt.toNat
          rw [nIt (by omega)] at c87
          exact h1 (Or.inr c87)
        · refine ⟨fun c93 => ?_, fun c93 => ?_⟩
          · refine ⟨rfl, rfl, ?_⟩
            have hm := pm_le (τ 50) (τ 47) p.toInt.toNat (τ 45 0).toInt.toNat
            rw [nIt (by omega)] at c87
            refine h1 (Or.inl ?_)
            cases ho : plF (τ 50) (τ 47) p.toInt.toNat (τ (63 + x.toInt.toNat)) (τ 45 0).toInt.toNat with
            | none => rfl
            | some l =>
              have hl := pl_lt _ _ ho
              rw [ho] at c93
              have c93 : (nI l).toInt = (-1000000005 : Int32).toInt := c93
              rw [nIt (by omega)] at c93
              simp only [Int32.reduceToInt] at c93
              omega
          · refine ⟨_, _, rfl, ⟨by omega, by omega⟩, ?_⟩
            refine ⟨_, (rw63 (by omega)), (by
        cases ho : plF (τ 50) (τ 47) p.toInt.toNat (τ (63 + x.toInt.toNat)) (τ 45 0).toInt.toNat with
        | none => rw [ho] at c93; exact absurd rfl c93
        | some l =>
          have hl := pl_lt _ _ ho
          have := nIt (n := l) (by omega)
          exact ⟨by show 0 ≤ (nI l).toInt; omega, by show (nI l).toInt < _; omega⟩), ?_⟩
            refine ⟨rfl, rfl, ?_⟩
            have hm := pm_le (τ 50) (τ 47) p.toInt.toNat (τ 45 0).toInt.toNat
            rw [nIt (by omega)] at c87
            cases ho : plF (τ 50) (τ 47) p.toInt.toNat (τ (63 + x.toInt.toNat)) (τ 45 0).toInt.toNat with
            | none => rw [ho] at c93; exact absurd rfl c93
            | some l =>
              have hl := pl_lt _ _ ho
              have h3 := h2 l ho c87
              rw [← nIn (i := l) (by omega)] at h3
              exact h3
    | succ k ih =>
      intro i hi
      have e1 := nIt (n := i) (by omega)
      have e2 := nIn (i := i) (by omega)
      refine go [9] 100 hX ?_
      refine ⟨fun c18 => ?_, fun c18 => ?_⟩
      · refine ⟨rfl, rfl, ?_⟩
        refine s_sortOf ⟨by omega, by omega⟩ hp ?_
        refine ⟨fun c31 => ?_, fun c31 => ?_⟩
        · replace c31 := bI_z c31
          rw [e2] at c31
          have ih1 := ih (i + 1) (by omega)
          rw [pl_n c31, pm_n c31, ← nI_1] at ih1
          exact ih1
        · replace c31 := bI_nz c31
          refine ⟨fun c40 => ?_, fun c40 => ?_⟩
          · rw [e2] at c31
            have ih1 := ih (i + 1) (by omega)
            cases ho : plF (τ 50) (τ 47) p.toInt.toNat (τ (63 + x.toInt.toNat)) i with
            | none =>
              rw [pl_0 c31 ho, pm_p c31, ← nI_1 i, ← nI_1 (pmF (τ 50) (τ 47) p.toInt.toNat i)] at ih1
              exact ih1
            | some l =>
              rw [ho] at c40
              have hl := pl_lt _ _ ho
              have c40 : (nI l).toInt = (-1000000005 : Int32).toInt := c40
              rw [nIt (by omega)] at c40
              simp only [Int32.reduceToInt] at c40
              omega
          · have hop : ixs (opC (plF (τ 50) (τ 47) p.toInt.toNat (τ (63 + x.toInt.toNat)) i)) 8 := by
              cases ho : plF (τ 50) (τ 47) p.toInt.toNat (τ (63 + x.toInt.toNat)) i with
              | none => rw [ho] at c40; exact absurd rfl c40
              | some l =>
                have hl := pl_lt _ _ ho
                have := nIt (n := l) (by omega)
                exact ⟨by show 0 ≤ (nI l).toInt; omega, by show (nI l).toInt < _; omega⟩
            refine ⟨_, _, rfl, ⟨by omega, by omega⟩, ?_⟩
            refine ⟨_, _, rdI_row (rw63 (by omega)), ⟨by omega, by omega⟩, ?_⟩
            refine ⟨_, _, rfl, ⟨by omega, by omega⟩, ?_⟩
            refine ⟨_, _, rdI_row (rw63 (by omega)), hop, ?_⟩
            refine ⟨fun c60 => ?_, fun c60 => ?_⟩
            · rw [e2] at c31
              have ih1 := ih (i + 1) (by omega)
              cases ho : plF (τ 50) (τ 47) p.toInt.toNat (τ (63 + x.toInt.toNat)) i with
              | none =>
                rw [ho] at c40
                exact absurd rfl c40
              | some l =>
                have hl := pl_lt _ _ ho
                have c60 : (τ (63 + x.toInt.toNat) (nI i).toInt.toNat).toInt < (τ (63 + x.toInt.toNat) (opC (plF (τ 50) (τ 47) p.toInt.toNat (τ (63 + x.toInt.toNat)) i)).toInt.toNat).toInt := c60
                rw [ho, e2] at c60
                have c60 : (τ (63 + x.toInt.toNat) i).toInt < (τ (63 + x.toInt.toNat) (nI l).toInt.toNat).toInt := c60
                rw [nIn (by omega)] at c60
                rw [pl_l c31 ho c60, pm_p c31, ← nI_1 i, ← nI_1 (pmF (τ 50) (τ 47) p.toInt.toNat i)] at ih1
                exact ih1
            · rw [e2] at c31
              have ih1 := ih (i + 1) (by omega)
              cases ho : plF (τ 50) (τ 47) p.toInt.toNat (τ (63 + x.toInt.toNat)) i with
              | none =>
                rw [ho] at c40
                exact absurd rfl c40
              | some l =>
                have hl := pl_lt _ _ ho
                have c60 : ¬ (τ (63 + x.toInt.toNat) (nI i).toInt.toNat).toInt < (τ (63 + x.toInt.toNat) (opC (plF (τ 50) (τ 47) p.toInt.toNat (τ (63 + x.toInt.toNat)) i)).toInt.toNat).toInt := c60
                rw [ho, e2] at c60
                have c60 : ¬ (τ (63 + x.toInt.toNat) i).toInt < (τ (63 + x.toInt.toNat) (nI l).toInt.toNat).toInt := c60
                rw [nIn (by omega)] at c60
                rw [pl_g c31 ho c60, pm_p c31, ← nI_1 i, ← nI_1 (pmF (τ 50) (τ 47) p.toInt.toNat i)] at ih1
                exact ih1
      · exfalso; omega
  refine go [9] 30 hX ?_
  exact loop _ 0 (Nat.zero_add _)
