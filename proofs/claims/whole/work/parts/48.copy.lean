theorem lgc_le {x y : Int64} (h : ¬ 0 < (lg_cmp x y).toInt) : x.toInt ≤ y.toInt := by
  have := (lg_cmp_gt x y)
  rw [Int32.lt_iff_toInt_lt, Int64.lt_iff_toInt_lt] at this
  have z : (0 : Int32).toInt = 0 := rfl
  omega
theorem lgc_gt {x y : Int64} (h : 0 < (lg_cmp x y).toInt) : y.toInt < x.toInt := by
  have := (lg_cmp_gt x y)
  rw [Int32.lt_iff_toInt_lt, Int64.lt_iff_toInt_lt] at this
  have z : (0 : Int32).toInt = 0 := rfl
  omega
theorem l64 (x : Int32) : x.toInt64.toInt = x.toInt := Int32.toInt_toInt64 x
theorem l64a (x y : Int32) : (x.toInt64 + y.toInt64).toInt = x.toInt + y.toInt := by
  have h1 := Int32.le_toInt x
  have h2 := Int32.toInt_lt x
  have h3 := Int32.le_toInt y
  have h4 := Int32.toInt_lt y
  simp only [Int64.toInt_add, l64, Int.bmod]
  omega
theorem s_hasPlaces {d : Nat} {σ : Mm} {Q : Qt} {s p m : Int32} (hs : 0 ≤ s.toInt ∧ s.toInt ≤ 1) (hz : -1 ≤ (σ 83 s.toInt.toNat).toInt ∧ (σ 83 s.toInt.toNat).toInt ≤ 16) (hQ : Q (some (.int (bI (0 ≤ p.toInt ∧ 0 ≤ m.toInt ∧ p.toInt + m.toInt ≤ (σ 83 s.toInt.toNat).toInt)))) σ) : Call (d + 1) k_X7_hasPlaces [.ref 82, .int s, .int p, .int m] σ Q := by
  refine Call_st 120 fun X hX => ?_
  refine ⟨fun c1 => ?_, fun c1 => ?_⟩
  · refine ⟨rfl, Or.inl rfl, ?_⟩
    first | exact bI_t hQ (by (first | omega | (simp only [Int32.reduceToInt] at c1 ⊢; omega) | (simp only [Int32.reduceToInt, Int32.toInt_sub, Int.bmod] at c1 ⊢; omega))) | exact bI_f hQ (by (first | omega | (simp only [Int32.reduceToInt] at c1 ⊢; omega) | (simp only [Int32.reduceToInt, Int32.toInt_sub, Int.bmod] at c1 ⊢; omega)))
  · refine ⟨fun c5 => ?_, fun c5 => ?_⟩
    · refine ⟨rfl, Or.inl rfl, ?_⟩
      first | exact bI_t hQ (by (first | omega | (simp only [Int32.reduceToInt] at c1 c5 ⊢; omega) | (simp only [Int32.reduceToInt, Int32.toInt_sub, Int.bmod] at c1 c5 ⊢; omega))) | exact bI_f hQ (by (first | omega | (simp only [Int32.reduceToInt] at c1 c5 ⊢; omega) | (simp only [Int32.reduceToInt, Int32.toInt_sub, Int.bmod] at c1 c5 ⊢; omega)))
    · refine ⟨_, _, rfl, (by refine ⟨?_, ?_⟩ <;> omega), ?_⟩
      refine ⟨fun c15 => ?_, fun c15 => ?_⟩
      · refine ⟨rfl, Or.inl rfl, ?_⟩
        first | exact bI_t hQ (by (first | omega | (simp only [Int32.reduceToInt] at c1 c5 c15 ⊢; omega) | (simp only [Int32.reduceToInt, Int32.toInt_sub, Int.bmod] at c1 c5 c15 ⊢; omega))) | exact bI_f hQ (by (first | omega | (simp only [Int32.reduceToInt] at c1 c5 c15 ⊢; omega) | (simp only [Int32.reduceToInt, Int32.toInt_sub, Int.bmod] at c1 c5 c15 ⊢; omega)))
      · refine ⟨_, _, rfl, (by refine ⟨?_, ?_⟩ <;> omega), ?_⟩
        refine ⟨fun c27 => ?_, fun c27 => ?_⟩
        · refine ⟨rfl, Or.inl rfl, ?_⟩
          first | exact bI_t hQ (by (first | omega | (simp only [Int32.reduceToInt] at c1 c5 c15 c27 ⊢; omega) | (simp only [Int32.reduceToInt, Int32.toInt_sub, Int.bmod] at c1 c5 c15 c27 ⊢; omega))) | exact bI_f hQ (by (first | omega | (simp only [Int32.reduceToInt] at c1 c5 c15 c27 ⊢; omega) | (simp only [Int32.reduceToInt, Int32.toInt_sub, Int.bmod] at c1 c5 c15 c27 ⊢; omega)))
        · refine ⟨rfl, Or.inr rfl, ?_⟩
          first | exact bI_t hQ (by (first | omega | (simp only [Int32.reduceToInt] at c1 c5 c15 c27 ⊢; omega) | (simp only [Int32.reduceToInt, Int32.toInt_sub, Int.bmod] at c1 c5 c15 c27 ⊢; omega))) | exact bI_f hQ (by (first | omega | (simp only [Int32.reduceToInt] at c1 c5 c15 c27 ⊢; omega) | (simp only [Int32.reduceToInt, Int32.toInt_sub, Int.bmod] at c1 c5 c15 c27 ⊢; omega)))
theorem cs_copy {d : Nat} {σ : Mm} {Q : Qt} {f p t a m : Int32} (hz : (0 ≤ f.toInt ∧ f.toInt ≤ 1 ∧ 0 ≤ t.toInt ∧ t.toInt ≤ 1) → (-1 ≤ (σ 83 f.toInt.toNat).toInt ∧ (σ 83 f.toInt.toNat).toInt ≤ 16) ∧ (-1 ≤ (σ 83 t.toInt.toNat).toInt ∧ (σ 83 t.toInt.toNat).toInt ≤ 16)) (h1 : ¬ (0 ≤ f.toInt ∧ f.toInt ≤ 1 ∧ 0 ≤ t.toInt ∧ t.toInt ≤ 1) → Q (some (.int (-1000000001))) σ) (h2 : (0 ≤ f.toInt ∧ f.toInt ≤ 1 ∧ 0 ≤ t.toInt ∧ t.toInt ≤ 1) → ((σ 83 f.toInt.toNat).toInt < 0 ∨ (σ 83 t.toInt.toNat).toInt < 0) → Q (some (.int (-1000000011))) σ) (h3 : (0 ≤ f.toInt ∧ f.toInt ≤ 1 ∧ 0 ≤ t.toInt ∧ t.toInt ≤ 1) → ¬ ((σ 83 f.toInt.toNat).toInt < 0 ∨ (σ 83 t.toInt.toNat).toInt < 0) → ¬ (0 ≤ p.toInt ∧ 0 ≤ a.toInt ∧ 0 ≤ m.toInt ∧ p.toInt + m.toInt ≤ (σ 83 f.toInt.toNat).toInt ∧ a.toInt + m.toInt ≤ (σ 83 t.toInt.toNat).toInt) → Q (some (.int (-1000000013))) σ) (h4 : (0 ≤ f.toInt ∧ f.toInt ≤ 1 ∧ 0 ≤ t.toInt ∧ t.toInt ≤ 1) → (0 ≤ p.toInt ∧ 0 ≤ a.toInt ∧ 0 ≤ m.toInt ∧ p.toInt + m.toInt ≤ (σ 83 f.toInt.toNat).toInt ∧ a.toInt + m.toInt ≤ (σ 83 t.toInt.toNat).toInt) → Q (some (.int m)) (up σ (85 + t.toInt.toNat) (va_cpy (σ (85 + f.toInt.toNat)) (σ (85 + t.toInt.toNat)) p.toInt.toNat a.toInt.toNat m.toInt.toNat))) : Call (d + 2) k_X11_copy [.ref 0, .int f, .int p, .int t, .int a, .int m] σ Q := by
  refine Call_st 120 fun X hX => ?_
  refine ⟨rfl, ?_⟩
  refine s_withinK (l := 0) (h := 1) (by decide) (by decide) ?_
  refine ⟨fun c6 => ?_, fun c6 => ?_⟩
  · replace c6 := bI_z c6
    refine ⟨rfl, trivial, ?_⟩
    exact h1 (by (first | omega | (simp only [Int32.reduceToInt] at c6 ⊢; omega)))
  · replace c6 := bI_nz c6
    refine ⟨rfl, ?_⟩
    refine s_withinK (l := 0) (h := 1) (by decide) (by decide) ?_
    refine ⟨fun c15 => ?_, fun c15 => ?_⟩
    · replace c15 := bI_z c15
      refine ⟨rfl, trivial, ?_⟩
      exact h1 (by (first | omega | (simp only [Int32.reduceToInt] at c6 c15 ⊢; omega)))
    · replace c15 := bI_nz c15
      have hok : (0 ≤ f.toInt ∧ f.toInt ≤ 1 ∧ 0 ≤ t.toInt ∧ t.toInt ≤ 1) := by (first | omega | (simp only [Int32.reduceToInt] at c6 c15 ⊢; omega))
      have hz0 := hz hok
      refine ⟨rfl, rfl, ?_⟩
      refine s_isMissing (by omega) ?_
      refine ⟨fun c29 => ?_, fun c29 => ?_⟩
      · replace c29 := bI_z c29
        refine ⟨rfl, rfl, ?_⟩
        refine s_isMissing (by omega) ?_
        refine ⟨fun c40 => ?_, fun c40 => ?_⟩
        · replace c40 := bI_z c40
          refine ⟨rfl, rfl, ?_⟩
          refine s_hasPlaces (by omega) (by omega) ?_
          refine ⟨fun c58 => ?_, fun c58 => ?_⟩
          · replace c58 := bI_z c58
            refine ⟨rfl, trivial, ?_⟩
            exact h3 hok (by omega) (by omega)
          · replace c58 := bI_nz c58
            refine ⟨rfl, rfl, ?_⟩
            refine s_hasPlaces (by omega) (by omega) ?_
            refine ⟨fun c73 => ?_, fun c73 => ?_⟩
            · replace c73 := bI_z c73
              refine ⟨rfl, trivial, ?_⟩
              exact h3 hok (by omega) (by omega)
            · replace c73 := bI_nz c73
              refine ⟨_, _, rfl, (by refine ⟨?_, ?_⟩ <;> (first | omega | (simp only [Int32.reduceToInt] at c6 c15 c29 c40 c58 c73 ⊢; omega))), ?_⟩
              refine ⟨_, _, rfl, (by refine ⟨?_, ?_⟩ <;> (first | omega | (simp only [Int32.reduceToInt] at c6 c15 c29 c40 c58 c73 ⊢; omega))), ?_⟩
              refine ⟨rfl, 3, 16, 16, ⟨rfl, rw85 (by omega), rw85 (by omega)⟩, ⟨by omega, by omega, by omega, by omega, by omega⟩, ?_⟩
              refine ⟨rfl, trivial, ?_⟩
              exact h4 hok (by omega)
        · replace c40 := bI_nz c40
          refine ⟨rfl, trivial, ?_⟩
          exact h2 hok (by omega)
      · replace c29 := bI_nz c29
        refine ⟨rfl, trivial, ?_⟩
        exact h2 hok (by omega)
theorem ix16a {a b c : Int32} (ha : 0 ≤ a.toInt ∧ a.toInt ≤ 1) (hb : 0 ≤ b.toInt ∧ b.toInt ≤ 16) (hc : 0 ≤ c.toInt ∧ c.toInt ≤ 16) (hd : b.toInt + c.toInt < 16) : (16 * a + b + c).toInt = 16 * a.toInt + b.toInt + c.toInt := by
  simp only [Int32.toInt_add, Int32.toInt_mul, Int32.reduceToInt, Int.bmod]
  omega
theorem ix16b {a b c : Int32} (ha : 0 ≤ a.toInt ∧ a.toInt ≤ 1) (hb : 0 ≤ b.toInt ∧ b.toInt ≤ 16) (hc : 0 ≤ c.toInt ∧ c.toInt ≤ 16) (hd : b.toInt + c.toInt < 16) : (16 * a + b + c).toInt.toNat = 16 * a.toInt.toNat + b.toInt.toNat + c.toInt.toNat := by
  rw [ix16a ha hb hc hd]
  omega
set_option maxHeartbeats 4000000 in
theorem ms_copy {d : Nat} {σ : Mm} {Q : Qt} {f p t a m : Int32} (hz : (0 ≤ f.toInt ∧ f.toInt ≤ 1 ∧ 0 ≤ t.toInt ∧ t.toInt ≤ 1) → (-1 ≤ (σ 103 f.toInt.toNat).toInt ∧ (σ 103 f.toInt.toNat).toInt ≤ 16) ∧ (-1 ≤ (σ 103 t.toInt.toNat).toInt ∧ (σ 103 t.toInt.toNat).toInt ≤ 16)) (h1 : ¬ (0 ≤ f.toInt ∧ f.toInt ≤ 1 ∧ 0 ≤ t.toInt ∧ t.toInt ≤ 1) → Q (some (.int (-1000000001))) σ) (h2 : (0 ≤ f.toInt ∧ f.toInt ≤ 1 ∧ 0 ≤ t.toInt ∧ t.toInt ≤ 1) → ((σ 103 f.toInt.toNat).toInt < 0 ∨ (σ 103 t.toInt.toNat).toInt < 0) → Q (some (.int (-1000000011))) σ) (h3 : (0 ≤ f.toInt ∧ f.toInt ≤ 1 ∧ 0 ≤ t.toInt ∧ t.toInt ≤ 1) → ¬ ((σ 103 f.toInt.toNat).toInt < 0 ∨ (σ 103 t.toInt.toNat).toInt < 0) → ¬ (0 ≤ p.toInt ∧ 0 ≤ a.toInt ∧ 0 ≤ m.toInt ∧ p.toInt + m.toInt ≤ (σ 103 f.toInt.toNat).toInt ∧ a.toInt + m.toInt ≤ (σ 103 t.toInt.toNat).toInt) → Q (some (.int (-1000000013))) σ) (h4 : (0 ≤ f.toInt ∧ f.toInt ≤ 1 ∧ 0 ≤ t.toInt ∧ t.toInt ≤ 1) → (0 ≤ p.toInt ∧ 0 ≤ a.toInt ∧ 0 ≤ m.toInt ∧ p.toInt + m.toInt ≤ (σ 103 f.toInt.toNat).toInt ∧ a.toInt + m.toInt ≤ (σ 103 t.toInt.toNat).toInt) → ∀ g h : Nat → Int32, (∀ j, j < m.toInt.toNat → h (16 * t.toInt.toNat + a.toInt.toNat + j) = σ 104 (16 * f.toInt.toNat + p.toInt.toNat + j)) → (∀ j, j < 16 * t.toInt.toNat + a.toInt.toNat ∨ 16 * t.toInt.toNat + a.toInt.toNat + m.toInt.toNat ≤ j → h j = σ 104 j) → Q (some (.int m)) (up (up σ 139 g) 104 h)) : Call (d + 3) k_X12_copy [.ref 88, .int f, .int p, .int t, .int a, .int m] σ Q := by
  refine Call_go fun X hX => ?_
  have loop2 : (0 ≤ f.toInt ∧ f.toInt ≤ 1 ∧ 0 ≤ t.toInt ∧ t.toInt ≤ 1) → (0 ≤ p.toInt ∧ 0 ≤ a.toInt ∧ 0 ≤ m.toInt ∧ p.toInt + m.toInt ≤ (σ 103 f.toInt.toNat).toInt ∧ a.toInt + m.toInt ≤ (σ 103 t.toInt.toNat).toInt) → ∀ g : Nat → Int32, (∀ j, j < m.toInt.toNat → g j = σ 104 (16 * f.toInt.toNat + p.toInt.toNat + j)) → ∀ (k i : Nat) (h : Nat → Int32), i + k = m.toInt.toNat → (∀ j, j < i → h (16 * t.toInt.toNat + a.toInt.toNat + j) = σ 104 (16 * f.toInt.toNat + p.toInt.toNat + j)) → (∀ j, j < 16 * t.toInt.toNat + a.toInt.toNat ∨ 16 * t.toInt.toNat + a.toInt.toNat + m.toInt.toNat ≤ j → h j = σ 104 j) → X 132 [.ref 88, .int f, .int p, .int t, .int a, .int m, .int (nI i)] [] (up (up σ 139 g) 104 h) := by
    intro hok hpl g hg k
    have hz0 := hz hok
    induction k with
    | zero =>
      intro i h hi hh ho
      rw [Nat.add_zero] at hi
      have e1 := nIt (n := i) (by omega)
      have e2 := nIn (i := i) (by omega)
      refine go [132] 100 hX ?_
      refine ⟨fun c136 => ?_, fun c136 => ?_⟩
      · exfalso; omega
      · refine ⟨rfl, trivial, ?_⟩
        exact h4 hok hpl g h (fun j hj => hh j (by omega)) ho
    | succ k ih =>
      intro i h hi hh ho
      have e1 := nIt (n := i) (by omega)
      have e2 := nIn (i := i) (by omega)
      refine go [132] 100 hX ?_
      refine ⟨fun c136 => ?_, fun c136 => ?_⟩
      · refine ⟨_, _, rfl, (by refine ⟨?_, ?_⟩ <;> omega), ?_⟩
        refine ⟨_, rfl, (by unfold ixs; rw [ix16a (by omega) (by omega) (by omega) (by omega)]; constructor <;> omega), ?_⟩
        have ih1 := ih (i + 1) (upd h (16 * t.toInt.toNat + a.toInt.toNat + i) (g i)) (by omega) (fun j hj => by
          by_cases q : j = i
          · rw [q]; exact pk_us.trans (hg i (by omega))
          · rw [pk_un (by omega)]; exact hh j (by omega)) (fun j hj => by rw [pk_un (by omega)]; exact ho j hj)
        have em : wr (up (up σ 139 g) 104 h) 104 (16 * t + a + nI i).toInt.toNat (up (up σ 139 g) 104 h 139 (nI i).toInt.toNat) = up (up σ 139 g) 104 (upd h (16 * t.toInt.toNat + a.toInt.toNat + i) (g i)) := by
          rw [wr, up_up, up_k, up_c (by decide), up_k, ix16b (by omega) (by omega) (by omega) (by omega), e2]
        rw [← em, ← nI_1] at ih1
        exact ih1
      · refine ⟨rfl, trivial, ?_⟩
        exfalso; omega
  have loop1 : (0 ≤ f.toInt ∧ f.toInt ≤ 1 ∧ 0 ≤ t.toInt ∧ t.toInt ≤ 1) → (0 ≤ p.toInt ∧ 0 ≤ a.toInt ∧ 0 ≤ m.toInt ∧ p.toInt + m.toInt ≤ (σ 103 f.toInt.toNat).toInt ∧ a.toInt + m.toInt ≤ (σ 103 t.toInt.toNat).toInt) → ∀ (k i : Nat) (g : Nat → Int32), i + k = m.toInt.toNat → (∀ j, j < i → g j = σ 104 (16 * f.toInt.toNat + p.toInt.toNat + j)) → X 95 [.ref 88, .int f, .int p, .int t, .int a, .int m, .int (nI i)] [] (up σ 139 g) := by
    intro hok hpl k
    have hz0 := hz hok
    induction k with
    | zero =>
      intro i g hi hg
      rw [Nat.add_zero] at hi
      have e1 := nIt (n := i) (by omega)
      have e2 := nIn (i := i) (by omega)
      have hg' : ∀ j, j < m.toInt.toNat → g j = σ 104 (16 * f.toInt.toNat + p.toInt.toNat + j) := fun j hj => hg j (by omega)
      refine go [95, 132] 100 hX ?_
      refine ⟨fun c99 => ?_, fun c99 => ?_⟩
      · exfalso; omega
      · have h0 := loop2 hok hpl g hg' m.toInt.toNat 0 (σ 104) (Nat.zero_add _) (fun j hj => by omega) (fun j hj => rfl)
        rw [up_id' (σ := up σ 139 g) (k := 104) (g := σ 104) rfl] at h0
        exact h0
    | succ k ih =>
      intro i g hi hg
      have e1 := nIt (n := i) (by omega)
      have e2 := nIn (i := i) (by omega)
      refine go [95, 132] 100 hX ?_
      refine ⟨fun c99 => ?_, fun c99 => ?_⟩
      · refine ⟨_, _, rfl, (by unfold ixs; rw [ix16a (by omega) (by omega) (by omega) (by omega)]; constructor <;> omega), ?_⟩
        refine ⟨_, rfl, (by refine ⟨?_, ?_⟩ <;> omega), ?_⟩
        have ih1 := ih (i + 1) (upd g i (σ 104 (16 * f.toInt.toNat + p.toInt.toNat + i))) (by omega) (fun j hj => by
          by_cases q : j = i
          · rw [q]; exact pk_us
          · rw [pk_un q]; exact hg j (by omega))
        have em : wr (up σ 139 g) 139 (nI i).toInt.toNat (up σ 139 g 104 (16 * f + p + nI i).toInt.toNat) = up σ 139 (upd g i (σ 104 (16 * f.toInt.toNat + p.toInt.toNat + i))) := by
          rw [wr, up_up, up_k, e2, up_c (by decide), ix16b (by omega) (by omega) (by omega) (by omega), e2]
        rw [← em, ← nI_1] at ih1
        exact ih1
      · exfalso; omega
  refine go [95] 100 hX ?_
  refine ⟨rfl, ?_⟩
  refine m_isSheet ?_
  refine ⟨fun c4 => ?_, fun c4 => ?_⟩
  · replace c4 := bI_z c4
    refine ⟨rfl, trivial, ?_⟩
    exact h1 (by (first | omega | (simp only [Int32.reduceToInt] at c4 ⊢; omega)))
  · replace c4 := bI_nz c4
    refine ⟨rfl, ?_⟩
    refine m_isSheet ?_
    refine ⟨fun c11 => ?_, fun c11 => ?_⟩
    · replace c11 := bI_z c11
      refine ⟨rfl, trivial, ?_⟩
      exact h1 (by (first | omega | (simp only [Int32.reduceToInt] at c4 c11 ⊢; omega)))
    · replace c11 := bI_nz c11
      have hok : (0 ≤ f.toInt ∧ f.toInt ≤ 1 ∧ 0 ≤ t.toInt ∧ t.toInt ≤ 1) := by (first | omega | (simp only [Int32.reduceToInt] at c4 c11 ⊢; omega))
      have hz0 := hz hok
      refine ⟨_, _, rfl, (by refine ⟨?_, ?_⟩ <;> (first | omega | (simp only [Int32.reduceToInt] at c4 c11 ⊢; omega))), ?_⟩
      refine ⟨fun c23 => ?_, fun c23 => ?_⟩
      · refine ⟨rfl, trivial, ?_⟩
        exact h2 hok (by omega)
      · refine ⟨_, _, rfl, (by refine ⟨?_, ?_⟩ <;> (first | omega | (simp only [Int32.reduceToInt] at c4 c11 c23 ⊢; omega))), ?_⟩
        refine ⟨fun c32 => ?_, fun c32 => ?_⟩
        · refine ⟨rfl, trivial, ?_⟩
          exact h2 hok (by omega)
        · refine ⟨fun c40 => ?_, fun c40 => ?_⟩
          · refine ⟨rfl, trivial, ?_⟩
            (try replace c67 := lgc_le c67); (try replace c67 := lgc_gt c67); (try replace c85 := lgc_le c85); (try replace c85 := lgc_gt c85); (try simp only [l64, l64a] at c67); (try simp only [l64, l64a] at c85)
            exact h3 hok (by omega) (by omega)
          · refine ⟨fun c45 => ?_, fun c45 => ?_⟩
            · refine ⟨rfl, trivial, ?_⟩
              (try replace c67 := lgc_le c67); (try replace c67 := lgc_gt c67); (try replace c85 := lgc_le c85); (try replace c85 := lgc_gt c85); (try simp only [l64, l64a] at c67); (try simp only [l64, l64a] at c85)
              exact h3 hok (by omega) (by omega)
            · refine ⟨fun c50 => ?_, fun c50 => ?_⟩
              · refine ⟨rfl, trivial, ?_⟩
                (try replace c67 := lgc_le c67); (try replace c67 := lgc_gt c67); (try replace c85 := lgc_le c85); (try replace c85 := lgc_gt c85); (try simp only [l64, l64a] at c67); (try simp only [l64, l64a] at c85)
                exact h3 hok (by omega) (by omega)
              · refine ⟨_, _, rfl, (by refine ⟨?_, ?_⟩ <;> (first | omega | (simp only [Int32.reduceToInt] at c4 c11 c23 c32 c40 c45 c50 ⊢; omega))), ?_⟩
                refine ⟨fun c67 => ?_, fun c67 => ?_⟩
                · refine ⟨rfl, trivial, ?_⟩
                  (try replace c67 := lgc_le c67); (try replace c67 := lgc_gt c67); (try replace c85 := lgc_le c85); (try replace c85 := lgc_gt c85); (try simp only [l64, l64a] at c67); (try simp only [l64, l64a] at c85)
                  exact h3 hok (by omega) (by omega)
                · refine ⟨_, _, rfl, (by refine ⟨?_, ?_⟩ <;> (first | omega | (simp only [Int32.reduceToInt] at c4 c11 c23 c32 c40 c45 c50 c67 ⊢; omega))), ?_⟩
                  refine ⟨fun c85 => ?_, fun c85 => ?_⟩
                  · refine ⟨rfl, trivial, ?_⟩
                    (try replace c67 := lgc_le c67); (try replace c67 := lgc_gt c67); (try replace c85 := lgc_le c85); (try replace c85 := lgc_gt c85); (try simp only [l64, l64a] at c67); (try simp only [l64, l64a] at c85)
                    exact h3 hok (by omega) (by omega)
                  · (try replace c67 := lgc_le c67); (try replace c67 := lgc_gt c67); (try replace c85 := lgc_le c85); (try replace c85 := lgc_gt c85); (try simp only [l64, l64a] at c67); (try simp only [l64, l64a] at c85)
                    have hpl : (0 ≤ p.toInt ∧ 0 ≤ a.toInt ∧ 0 ≤ m.toInt ∧ p.toInt + m.toInt ≤ (σ 103 f.toInt.toNat).toInt ∧ a.toInt + m.toInt ≤ (σ 103 t.toInt.toNat).toInt) := by omega
                    have hP1 : p.toInt.toNat + m.toInt.toNat ≤ 16 := by omega
                    have h0 := loop1 hok hpl m.toInt.toNat 0 (σ 139) (Nat.zero_add _) (fun j hj => by omega)
                    rw [up_id] at h0
                    exact h0
theorem op_copy {σ : Mm} {f p t a m : Int32} (hI : Inv σ) : Call 120 k_X11_copy [.ref 0, .int f, .int p, .int t, .int a, .int m] σ (fun r τ => Call 120 k_X12_copy [.ref 88, .int f, .int p, .int t, .int a, .int m] τ (fun r' τ' => (∃ x : Int32, r = some (.int x) ∧ r' = some (.int x)) ∧ Inv τ')) := by
  have hsh := hI.2.2.2.2.2.2.2.2.1
  have e3 : ∀ {τ : Mm}, τ 103 = σ 103 → (τ 103 f.toInt.toNat).toInt = (σ 83 f.toInt.toNat).toInt ∧ (τ 103 t.toInt.toNat).toInt = (σ 83 t.toInt.toNat).toInt := fun e => by rw [e, hsh.1]; exact ⟨rfl, rfl⟩
  have hz : (0 ≤ f.toInt ∧ f.toInt ≤ 1 ∧ 0 ≤ t.toInt ∧ t.toInt ≤ 1) → (-1 ≤ (σ 83 f.toInt.toNat).toInt ∧ (σ 83 f.toInt.toNat).toInt ≤ 16) ∧ (-1 ≤ (σ 83 t.toInt.toNat).toInt ∧ (σ 83 t.toInt.toNat).toInt ≤ 16) := fun q => ⟨sz_rng hsh (by omega), sz_rng hsh (by omega)⟩
  have hz3 : ∀ {τ : Mm}, τ 103 = σ 103 → (0 ≤ f.toInt ∧ f.toInt ≤ 1 ∧ 0 ≤ t.toInt ∧ t.toInt ≤ 1) → (-1 ≤ (τ 103 f.toInt.toNat).toInt ∧ (τ 103 f.toInt.toNat).toInt ≤ 16) ∧ (-1 ≤ (τ 103 t.toInt.toNat).toInt ∧ (τ 103 t.toInt.toNat).toInt ≤ 16) := fun e q => by
    rw [(e3 e).1, (e3 e).2]
    exact hz q
  have d3 := e3 (τ := σ) rfl
  refine cs_copy hz (fun c => ?_) (fun x y => ?_) (fun x y z => ?_) (fun x y => ?_)
  · exact ms_copy (hz3 rfl) (fun _ => ⟨⟨_, rfl, rfl⟩, hI⟩) (fun x _ => absurd x c) (fun x _ _ => absurd x c) (fun x _ => absurd x c)
  · exact ms_copy (hz3 rfl) (fun c => absurd x c) (fun _ _ => ⟨⟨_, rfl, rfl⟩, hI⟩) (fun _ q _ => absurd y (by omega)) (fun _ q => absurd y (by omega))
  · exact ms_copy (hz3 rfl) (fun c => absurd x c) (fun _ q => absurd q (by omega)) (fun _ _ _ => ⟨⟨_, rfl, rfl⟩, hI⟩) (fun _ q => absurd q (by omega))
  · have hF : f.toInt.toNat ≤ 1 := by omega
    have hT : t.toInt.toNat ≤ 1 := by omega
    have hz0 := hz x
    have hP : p.toInt.toNat + m.toInt.toNat ≤ 16 := by omega
    have hA : a.toInt.toNat + m.toInt.toNat ≤ 16 := by omega
    have g3 : up σ (85 + t.toInt.toNat) (va_cpy (σ (85 + f.toInt.toNat)) (σ (85 + t.toInt.toNat)) p.toInt.toNat a.toInt.toNat m.toInt.toNat) 103 = σ 103 := up_c (by omega)
    have f3 := e3 g3
    refine ms_copy (hz3 g3) (fun c => absurd x c) (fun _ q => absurd q (by omega)) (fun _ _ q => absurd q (by omega)) (fun _ _ g h hh ho => ?_)
    refine ⟨⟨_, rfl, rfl⟩, ?_⟩
    rw [up_c (j := 104) (by omega)] at hh ho
    generalize f.toInt.toNat = F at *
    generalize t.toInt.toNat = T at *
    generalize p.toInt.toNat = P at *
    generalize a.toInt.toNat = A at *
    generalize m.toInt.toNat = M at *
    refine Inv_sh hI (Ag.up (Ag.up (ag_sh Ag.rf hT rfl rfl) rfl) rfl) (I_sh_mk ?_ (fun S hS => ?_) (fun S hS i hi => ?_))
    · rw [up_c (by decide), up_c (by decide), up_c (by omega), up_c (by decide), up_c (by decide), up_c (by omega)]
      exact hsh.1
    · rw [up_c (by decide), up_c (by decide), up_c (by omega)]
      exact sz_rng hsh hS
    · rw [up_k, up_c (k := 104) (by omega), up_c (k := 139) (by omega)]
      by_cases q : S = T
      · rw [q, up_k]
        by_cases r : A ≤ i ∧ i < A + M
        · rw [pk_cpy_in r.1 r.2]
          have := hh (i - A) (by omega)
          rw [show 16 * T + A + (i - A) = 16 * T + i by omega] at this
          rw [this, show 16 * F + P + (i - A) = 16 * F + (P + (i - A)) by omega]
          exact sh_num hsh hF (by omega)
        · rw [pk_cpy_out (by omega), ho _ (by omega)]
          exact sh_num hsh hT hi
      · rw [up_c (by omega), ho _ (by omega)]
        exact sh_num hsh hS hi
