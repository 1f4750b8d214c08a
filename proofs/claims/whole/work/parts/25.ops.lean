theorem nIn {i : Nat} (h : i < 2147483648) : (nI i).toInt.toNat = i := by rw [nIt h]; rfl
/-- wild ones of a shop in the days up to today -/
def barN (sh dy wi : Nat → Int32) (s t : Int32) : Nat → Nat
  | 0 => 0
  | n + 1 => barN sh dy wi s t n + (if (sh n).toInt = s.toInt ∧ ¬ (wi n).toInt = 0 ∧ (t - 7).toInt < (dy n).toInt then 1 else 0)
theorem barN_le (sh dy wi : Nat → Int32) (s t : Int32) : ∀ n, barN sh dy wi s t n ≤ n
  | 0 => Nat.le_refl 0
  | n + 1 => by
    have := barN_le sh dy wi s t n
    unfold barN
    split <;> omega
theorem s_isBarred {d : Nat} {σ : Mm} {Q : Qt} {s t : Int32} (h0 : 0 ≤ (σ 78 0).toInt) (h1 : (σ 78 0).toInt ≤ 60) (hQ : Q (some (.int (bI ((σ 78 1).toInt < (barN (σ 79) (σ 80) (σ 81) s (t) (σ 78 0).toInt.toNat : Nat))))) σ) : Call (d + 1) k_X2_isBarred [.ref 78, .int s, .int t] σ Q := by
  refine Call_go fun X hX => ?_
  have loop : ∀ k i : Nat, i + k = (σ 78 0).toInt.toNat → X 5 [.ref 78, .int s, .int t, .int (nI (barN (σ 79) (σ 80) (σ 81) s t i)), .int (nI i)] [] σ := by
    intro k
    induction k with
    | zero =>
      intro i hi
      have e := nIt (n := i) (by omega)
      have e2 := nIn (i := i) (by omega)
      have eb := barN_le (σ 79) (σ 80) (σ 81) s (t) i
      have e3 := nIt (n := barN (σ 79) (σ 80) (σ 81) s (t) i) (by omega)
      rw [Nat.add_zero] at hi
      refine go [5] 100 hX ?_
      refine ⟨fun c11 => ?_, fun c11 => ?_⟩
      · refine ⟨_, _, rfl, (by refine ⟨?_, ?_⟩ <;> omega), ?_⟩
        refine ⟨fun c22 => ?_, fun c22 => ?_⟩
        · refine ⟨_, _, rfl, (by refine ⟨?_, ?_⟩ <;> omega), ?_⟩
          refine ⟨fun c32 => ?_, fun c32 => ?_⟩
          · exfalso; omega
          · refine ⟨_, _, rfl, (by refine ⟨?_, ?_⟩ <;> omega), ?_⟩
            refine ⟨fun c46 => ?_, fun c46 => ?_⟩
            · exfalso; omega
            · exfalso; omega
        · exfalso; omega
      · refine ⟨fun c63 => ?_, fun c63 => ?_⟩
        · refine ⟨rfl, Or.inr rfl, ?_⟩
          first | exact bI_t hQ (by rw [← hi]; omega) | exact bI_f hQ (by rw [← hi]; omega) | (exfalso; omega)
        · refine ⟨rfl, Or.inl rfl, ?_⟩
          first | exact bI_t hQ (by rw [← hi]; omega) | exact bI_f hQ (by rw [← hi]; omega) | (exfalso; omega)
    | succ k ih =>
      intro i hi
      have e := nIt (n := i) (by omega)
      have e2 := nIn (i := i) (by omega)
      refine go [5] 100 hX ?_
      refine ⟨fun c11 => ?_, fun c11 => ?_⟩
      · refine ⟨_, _, rfl, (by refine ⟨?_, ?_⟩ <;> omega), ?_⟩
        refine ⟨fun c22 => ?_, fun c22 => ?_⟩
        · refine ⟨_, _, rfl, (by refine ⟨?_, ?_⟩ <;> omega), ?_⟩
          refine ⟨fun c32 => ?_, fun c32 => ?_⟩
          · have ih1 := ih (i + 1) (by omega)
            simp only [e2] at c11 c22 c32
            simp only [barN, ← nI_1] at ih1
            first
            | (rw [if_pos ⟨by omega, by omega, by omega⟩, ← nI_1] at ih1; exact ih1)
            | (rw [if_neg (by omega), Nat.add_zero] at ih1; exact ih1)
            | (rw [if_neg (by omega), ← nI_add] at ih1; exact ih1)
          · refine ⟨_, _, rfl, (by refine ⟨?_, ?_⟩ <;> omega), ?_⟩
            refine ⟨fun c46 => ?_, fun c46 => ?_⟩
            · have ih1 := ih (i + 1) (by omega)
              simp only [e2] at c11 c22 c32 c46
              simp only [barN, ← nI_1] at ih1
              first
              | (rw [if_pos ⟨by omega, by omega, by omega⟩, ← nI_1] at ih1; exact ih1)
              | (rw [if_neg (by omega), Nat.add_zero] at ih1; exact ih1)
              | (rw [if_neg (by omega), ← nI_add] at ih1; exact ih1)
            · have ih1 := ih (i + 1) (by omega)
              simp only [e2] at c11 c22 c32 c46
              simp only [barN, ← nI_1] at ih1
              first
              | (rw [if_pos ⟨by omega, by omega, by omega⟩, ← nI_1] at ih1; exact ih1)
              | (rw [if_neg (by omega), Nat.add_zero] at ih1; exact ih1)
              | (rw [if_neg (by omega), ← nI_add] at ih1; exact ih1)
        · have ih1 := ih (i + 1) (by omega)
          simp only [e2] at c11 c22
          simp only [barN, ← nI_1] at ih1
          first
          | (rw [if_pos ⟨by omega, by omega, by omega⟩, ← nI_1] at ih1; exact ih1)
          | (rw [if_neg (by omega), Nat.add_zero] at ih1; exact ih1)
          | (rw [if_neg (by omega), ← nI_add] at ih1; exact ih1)
      · refine ⟨fun c63 => ?_, fun c63 => ?_⟩
        · refine ⟨rfl, Or.inr rfl, ?_⟩
          first | exact bI_t hQ (by rw [← hi]; omega) | exact bI_f hQ (by rw [← hi]; omega) | (exfalso; omega)
        · refine ⟨rfl, Or.inl rfl, ?_⟩
          first | exact bI_t hQ (by rw [← hi]; omega) | exact bI_f hQ (by rw [← hi]; omega) | (exfalso; omega)
  refine go [5] 20 hX ?_
  exact loop _ 0 (Nat.zero_add _)
theorem m_isBarred {d : Nat} {σ : Mm} {Q : Qt} {s : Int32} (h0 : 0 ≤ (σ 88 71).toInt) (h1 : (σ 88 71).toInt ≤ 60) (hQ : Q (some (.int (bI ((σ 88 72).toInt < (barN (σ 136) (σ 137) (σ 138) s (σ 88 0) (σ 88 71).toInt.toNat : Nat))))) σ) : Call (d + 1) k_X12_isBarred [.ref 88, .int s] σ Q := by
  refine Call_go fun X hX => ?_
  have loop : ∀ k i : Nat, i + k = (σ 88 71).toInt.toNat → X 4 [.ref 88, .int s, .int (nI (barN (σ 136) (σ 137) (σ 138) s (σ 88 0) i)), .int (nI i)] [] σ := by
    intro k
    induction k with
    | zero =>
      intro i hi
      have e := nIt (n := i) (by omega)
      have e2 := nIn (i := i) (by omega)
      have eb := barN_le (σ 136) (σ 137) (σ 138) s (σ 88 0) i
      have e3 := nIt (n := barN (σ 136) (σ 137) (σ 138) s (σ 88 0) i) (by omega)
      rw [Nat.add_zero] at hi
      refine go [4] 100 hX ?_
      refine ⟨fun c9 => ?_, fun c9 => ?_⟩
      · refine ⟨_, _, rfl, (by refine ⟨?_, ?_⟩ <;> omega), ?_⟩
        refine ⟨fun c19 => ?_, fun c19 => ?_⟩
        · exfalso; omega
        · refine ⟨_, _, rfl, (by refine ⟨?_, ?_⟩ <;> omega), ?_⟩
          refine ⟨fun c29 => ?_, fun c29 => ?_⟩
          · refine ⟨_, _, rfl, (by refine ⟨?_, ?_⟩ <;> omega), ?_⟩
            refine ⟨fun c45 => ?_, fun c45 => ?_⟩
            · exfalso; omega
            · exfalso; omega
          · exfalso; omega
      · refine ⟨fun c66 => ?_, fun c66 => ?_⟩
        · refine ⟨rfl, Or.inr rfl, ?_⟩
          first | exact bI_t hQ (by rw [← hi]; omega) | exact bI_f hQ (by rw [← hi]; omega) | (exfalso; omega)
        · refine ⟨rfl, Or.inl rfl, ?_⟩
          first | exact bI_t hQ (by rw [← hi]; omega) | exact bI_f hQ (by rw [← hi]; omega) | (exfalso; omega)
    | succ k ih =>
      intro i hi
      have e := nIt (n := i) (by omega)
      have e2 := nIn (i := i) (by omega)
      refine go [4] 100 hX ?_
      refine ⟨fun c9 => ?_, fun c9 => ?_⟩
      · refine ⟨_, _, rfl, (by refine ⟨?_, ?_⟩ <;> omega), ?_⟩
        refine ⟨fun c19 => ?_, fun c19 => ?_⟩
        · have ih1 := ih (i + 1) (by omega)
          simp only [e2] at c9 c19
          simp only [barN, ← nI_1] at ih1
          first
          | (rw [if_pos ⟨by omega, by omega, by omega⟩, ← nI_1] at ih1; exact ih1)
          | (rw [if_neg (by omega), Nat.add_zero] at ih1; exact ih1)
          | (rw [if_neg (by omega), ← nI_add] at ih1; exact ih1)
        · refine ⟨_, _, rfl, (by refine ⟨?_, ?_⟩ <;> omega), ?_⟩
          refine ⟨fun c29 => ?_, fun c29 => ?_⟩
          · refine ⟨_, _, rfl, (by refine ⟨?_, ?_⟩ <;> omega), ?_⟩
            refine ⟨fun c45 => ?_, fun c45 => ?_⟩
            · have ih1 := ih (i + 1) (by omega)
              simp only [e2] at c9 c19 c29 c45
              simp only [barN, ← nI_1] at ih1
              first
              | (rw [if_pos ⟨by omega, by omega, by omega⟩, ← nI_1] at ih1; exact ih1)
              | (rw [if_neg (by omega), Nat.add_zero] at ih1; exact ih1)
              | (rw [if_neg (by omega), ← nI_add] at ih1; exact ih1)
            · have ih1 := ih (i + 1) (by omega)
              simp only [e2] at c9 c19 c29 c45
              simp only [barN, ← nI_1] at ih1
              first
              | (rw [if_pos ⟨by omega, by omega, by omega⟩, ← nI_1] at ih1; exact ih1)
              | (rw [if_neg (by omega), Nat.add_zero] at ih1; exact ih1)
              | (rw [if_neg (by omega), ← nI_add] at ih1; exact ih1)
          · have ih1 := ih (i + 1) (by omega)
            simp only [e2] at c9 c19 c29
            simp only [barN, ← nI_1] at ih1
            first
            | (rw [if_pos ⟨by omega, by omega, by omega⟩, ← nI_1] at ih1; exact ih1)
            | (rw [if_neg (by omega), Nat.add_zero] at ih1; exact ih1)
            | (rw [if_neg (by omega), ← nI_add] at ih1; exact ih1)
      · refine ⟨fun c66 => ?_, fun c66 => ?_⟩
        · refine ⟨rfl, Or.inr rfl, ?_⟩
          first | exact bI_t hQ (by rw [← hi]; omega) | exact bI_f hQ (by rw [← hi]; omega) | (exfalso; omega)
        · refine ⟨rfl, Or.inl rfl, ?_⟩
          first | exact bI_t hQ (by rw [← hi]; omega) | exact bI_f hQ (by rw [← hi]; omega) | (exfalso; omega)
  refine go [4] 20 hX ?_
  exact loop _ 0 (Nat.zero_add _)
theorem m_is {d : Nat} {σ : Mm} {Q : Qt} {x : Int32} (h1 : x.toInt = 0 → Q (some (.int 0)) σ) (h2 : ¬ x.toInt = 0 → Q (some (.int 1)) σ) : Call (d + 1) k_X12_is [.int x] σ Q := by
  refine Call_st 120 fun X hX => ?_
  refine ⟨fun c1 => ?_, fun c1 => ?_⟩
  · refine ⟨rfl, trivial, ?_⟩
    first | exact h1 (by assumption) | exact h2 (by assumption)
  · refine ⟨rfl, trivial, ?_⟩
    first | exact h1 (by assumption) | exact h2 (by assumption)
theorem op_barred {σ : Mm} {s : Int32} (hI : Inv σ) : Call 120 k_X11_barred [.ref 0, .int s] σ (fun r τ => Call 120 k_X12_barred [.ref 88, .int s] τ (fun r' τ' => (∃ x : Int32, r = some (.int x) ∧ r' = some (.int x)) ∧ Inv τ')) := by
  obtain ⟨⟨t0, t1, t2, t3⟩, ⟨t4, t5⟩, ⟨t6, t7⟩, ⟨t8, t9⟩, t10⟩ := id (hI.1)
  obtain ⟨⟨g0, g1, g2, g3, g4⟩, ⟨g5, g6⟩, ⟨g7, g8⟩⟩ := id (hI.2.2.2.2.2.2.2.1)
  have qshops : (σ 88 2).toInt = (σ 1 2).toInt := by rw [t2]
  have qguesses : (σ 88 71).toInt = (σ 78 0).toInt := by rw [g0]
  have qtries : (σ 88 72).toInt = (σ 78 1).toInt := by rw [g1]
  have qtoday : (σ 88 0).toInt = (σ 1 0).toInt := by rw [t0]
  refine Call_st 200 fun X hX => ?_
  refine ⟨rfl, rfl, ?_⟩
  refine s_hasShop ?_
  refine ⟨fun c8 => ?_, fun c8 => ?_⟩
  · replace c8 := bI_z c8
    refine ⟨rfl, trivial, ?_⟩
    refine Call_st 200 fun Y hY => ?_
    refine ⟨rfl, rfl, ?_⟩
    refine m_isShop (by omega) ?_
    refine ⟨fun m5 => ?_, fun m5 => ?_⟩
    · replace m5 := bI_z m5
      refine ⟨rfl, trivial, ?_⟩
      first
      | exact ⟨⟨_, rfl, rfl⟩, hI⟩
      | (exfalso; omega)
      | (exfalso
         simp only [g0, g1, g2, g3, g4, t0] at c8 m5
         first | exact bI_z (by assumption) (by assumption) | exact absurd (bI_nz (by assumption)) (by assumption))
    · replace m5 := bI_nz m5
      refine ⟨rfl, rfl, ?_⟩
      refine m_isBarred (by omega) (by omega) ?_
      refine ⟨rfl, ?_⟩
      refine m_is (fun hm13a => ?_) (fun hm13a => ?_)
      · refine ⟨rfl, trivial, ?_⟩
        first
        | exact ⟨⟨_, rfl, rfl⟩, hI⟩
        | (exfalso; omega)
        | (exfalso
           simp only [g0, g1, g2, g3, g4, t0] at c8 m5 hm13a
           first | exact bI_z (by assumption) (by assumption) | exact absurd (bI_nz (by assumption)) (by assumption))
      · refine ⟨rfl, trivial, ?_⟩
        first
        | exact ⟨⟨_, rfl, rfl⟩, hI⟩
        | (exfalso; omega)
        | (exfalso
           simp only [g0, g1, g2, g3, g4, t0] at c8 m5 hm13a
           first | exact bI_z (by assumption) (by assumption) | exact absurd (bI_nz (by assumption)) (by assumption))
  · replace c8 := bI_nz c8
    refine ⟨rfl, rfl, ?_⟩
    refine s_isBarred (by omega) (by omega) ?_
    refine ⟨fun c29 => ?_, fun c29 => ?_⟩
    · replace c29 := bI_z c29
      refine ⟨rfl, trivial, ?_⟩
      refine Call_st 200 fun Y hY => ?_
      refine ⟨rfl, rfl, ?_⟩
      refine m_isShop (by omega) ?_
      refine ⟨fun m5 => ?_, fun m5 => ?_⟩
      · replace m5 := bI_z m5
        refine ⟨rfl, trivial, ?_⟩
        first
        | exact ⟨⟨_, rfl, rfl⟩, hI⟩
        | (exfalso; omega)
        | (exfalso
           simp only [g0, g1, g2, g3, g4, t0] at c8 c29 m5
           first | exact bI_z (by assumption) (by assumption) | exact absurd (bI_nz (by assumption)) (by assumption))
      · replace m5 := bI_nz m5
        refine ⟨rfl, rfl, ?_⟩
        refine m_isBarred (by omega) (by omega) ?_
        refine ⟨rfl, ?_⟩
        refine m_is (fun hm13a => ?_) (fun hm13a => ?_)
        · refine ⟨rfl, trivial, ?_⟩
          first
          | exact ⟨⟨_, rfl, rfl⟩, hI⟩
          | (exfalso; omega)
          | (exfalso
             simp only [g0, g1, g2, g3, g4, t0] at c8 c29 m5 hm13a
             first | exact bI_z (by assumption) (by assumption) | exact absurd (bI_nz (by assumption)) (by assumption))
        · refine ⟨rfl, trivial, ?_⟩
          first
          | exact ⟨⟨_, rfl, rfl⟩, hI⟩
          | (exfalso; omega)
          | (exfalso
             simp only [g0, g1, g2, g3, g4, t0] at c8 c29 m5 hm13a
             first | exact bI_z (by assumption) (by assumption) | exact absurd (bI_nz (by assumption)) (by assumption))
    · replace c29 := bI_nz c29
      refine ⟨rfl, trivial, ?_⟩
      refine Call_st 200 fun Y hY => ?_
      refine ⟨rfl, rfl, ?_⟩
      refine m_isShop (by omega) ?_
      refine ⟨fun m5 => ?_, fun m5 => ?_⟩
      · replace m5 := bI_z m5
        refine ⟨rfl, trivial, ?_⟩
        first
        | exact ⟨⟨_, rfl, rfl⟩, hI⟩
        | (exfalso; omega)
        | (exfalso
           simp only [g0, g1, g2, g3, g4, t0] at c8 c29 m5
           first | exact bI_z (by assumption) (by assumption) | exact absurd (bI_nz (by assumption)) (by assumption))
      · replace m5 := bI_nz m5
        refine ⟨rfl, rfl, ?_⟩
        refine m_isBarred (by omega) (by omega) ?_
        refine ⟨rfl, ?_⟩
        refine m_is (fun hm13a => ?_) (fun hm13a => ?_)
        · refine ⟨rfl, trivial, ?_⟩
          first
          | exact ⟨⟨_, rfl, rfl⟩, hI⟩
          | (exfalso; omega)
          | (exfalso
             simp only [g0, g1, g2, g3, g4, t0] at c8 c29 m5 hm13a
             first | exact bI_z (by assumption) (by assumption) | exact absurd (bI_nz (by assumption)) (by assumption))
        · refine ⟨rfl, trivial, ?_⟩
          first
          | exact ⟨⟨_, rfl, rfl⟩, hI⟩
          | (exfalso; omega)
          | (exfalso
             simp only [g0, g1, g2, g3, g4, t0] at c8 c29 m5 hm13a
             first | exact bI_z (by assumption) (by assumption) | exact absurd (bI_nz (by assumption)) (by assumption))
