def countR (z : Int32) (σ : Mm) : Int32 := if z.toInt = 0 then σ 1 1 else if z.toInt = 1 then σ 1 2 else if z.toInt = 2 then σ 3 0 else if z.toInt = 3 then σ 10 0 else if z.toInt = 4 then σ 10 1 else if z.toInt = 5 then σ 45 0 else if z.toInt = 6 then σ 45 3 else if z.toInt = 7 then σ 71 0 else if z.toInt = 8 then σ 78 0 else if z.toInt = 9 then σ 1 0 else if z.toInt = 10 then σ 0 14 else if z.toInt = 11 then σ 0 5 else -1000000001
theorem cs_count {z : Int32} (σ : Mm) (Q : Qt) (hI : Inv σ) (hQ : ∀ τ, Ag LsP σ τ → Q (some (.int (countR z σ))) τ) : Call 120 k_X11_count [.ref 0, .int z] σ Q := by
  refine Call_st 60 fun X hX => ?_
  refine ⟨fun c1_0 => ?_, fun c1_0 => ?_⟩
  · refine ⟨rfl, trivial, ?_⟩
    unfold countR at hQ
    rw [if_pos c1_0] at hQ
    exact hQ _ Ag.rf
  refine ⟨fun c1_1 => ?_, fun c1_1 => ?_⟩
  · refine ⟨rfl, trivial, ?_⟩
    unfold countR at hQ
    rw [if_neg c1_0, if_pos c1_1] at hQ
    exact hQ _ Ag.rf
  refine ⟨fun c1_2 => ?_, fun c1_2 => ?_⟩
  · refine ⟨rfl, trivial, ?_⟩
    unfold countR at hQ
    rw [if_neg c1_0, if_neg c1_1, if_pos c1_2] at hQ
    exact hQ _ Ag.rf
  refine ⟨fun c1_3 => ?_, fun c1_3 => ?_⟩
  · refine ⟨rfl, trivial, ?_⟩
    unfold countR at hQ
    rw [if_neg c1_0, if_neg c1_1, if_neg c1_2, if_pos c1_3] at hQ
    exact hQ _ Ag.rf
  refine ⟨fun c1_4 => ?_, fun c1_4 => ?_⟩
  · refine ⟨rfl, trivial, ?_⟩
    unfold countR at hQ
    rw [if_neg c1_0, if_neg c1_1, if_neg c1_2, if_neg c1_3, if_pos c1_4] at hQ
    exact hQ _ Ag.rf
  refine ⟨fun c1_5 => ?_, fun c1_5 => ?_⟩
  · refine ⟨rfl, trivial, ?_⟩
    unfold countR at hQ
    rw [if_neg c1_0, if_neg c1_1, if_neg c1_2, if_neg c1_3, if_neg c1_4, if_pos c1_5] at hQ
    exact hQ _ Ag.rf
  refine ⟨fun c1_6 => ?_, fun c1_6 => ?_⟩
  · refine ⟨rfl, trivial, ?_⟩
    unfold countR at hQ
    rw [if_neg c1_0, if_neg c1_1, if_neg c1_2, if_neg c1_3, if_neg c1_4, if_neg c1_5, if_pos c1_6] at hQ
    exact hQ _ Ag.rf
  refine ⟨fun c1_7 => ?_, fun c1_7 => ?_⟩
  · refine ⟨rfl, trivial, ?_⟩
    unfold countR at hQ
    rw [if_neg c1_0, if_neg c1_1, if_neg c1_2, if_neg c1_3, if_neg c1_4, if_neg c1_5, if_neg c1_6, if_pos c1_7] at hQ
    exact hQ _ Ag.rf
  refine ⟨fun c1_8 => ?_, fun c1_8 => ?_⟩
  · refine ⟨rfl, trivial, ?_⟩
    unfold countR at hQ
    rw [if_neg c1_0, if_neg c1_1, if_neg c1_2, if_neg c1_3, if_neg c1_4, if_neg c1_5, if_neg c1_6, if_neg c1_7, if_pos c1_8] at hQ
    exact hQ _ Ag.rf
  refine ⟨fun c1_9 => ?_, fun c1_9 => ?_⟩
  · refine ⟨rfl, trivial, ?_⟩
    unfold countR at hQ
    rw [if_neg c1_0, if_neg c1_1, if_neg c1_2, if_neg c1_3, if_neg c1_4, if_neg c1_5, if_neg c1_6, if_neg c1_7, if_neg c1_8, if_pos c1_9] at hQ
    exact hQ _ Ag.rf
  refine ⟨fun c1_10 => ?_, fun c1_10 => ?_⟩
  · refine ⟨rfl, trivial, ?_⟩
    unfold countR at hQ
    rw [if_neg c1_0, if_neg c1_1, if_neg c1_2, if_neg c1_3, if_neg c1_4, if_neg c1_5, if_neg c1_6, if_neg c1_7, if_neg c1_8, if_neg c1_9, if_pos c1_10] at hQ
    exact hQ _ Ag.rf
  refine ⟨fun c1_11 => ?_, fun c1_11 => ?_⟩
  · refine ⟨rfl, trivial, ?_⟩
    unfold countR at hQ
    rw [if_neg c1_0, if_neg c1_1, if_neg c1_2, if_neg c1_3, if_neg c1_4, if_neg c1_5, if_neg c1_6, if_neg c1_7, if_neg c1_8, if_neg c1_9, if_neg c1_10, if_pos c1_11] at hQ
    exact hQ _ Ag.rf
  refine ⟨rfl, trivial, ?_⟩
  unfold countR at hQ
  rw [if_neg c1_0, if_neg c1_1, if_neg c1_2, if_neg c1_3, if_neg c1_4, if_neg c1_5, if_neg c1_6, if_neg c1_7, if_neg c1_8, if_neg c1_9, if_neg c1_10, if_neg c1_11] at hQ
  exact hQ _ Ag.rf
theorem ms_count {z : Int32} (σ : Mm) (Q : Qt) (hI : Inv σ) (hQ : ∀ τ, Inv τ → Q (some (.int (countR z σ))) τ) : Call 120 k_X12_count [.ref 88, .int z] σ Q := by
  refine Call_go fun X hX => ?_
  obtain ⟨⟨t0, t1, t2, t3⟩, ⟨t4, t5⟩, ⟨t6, t7⟩, ⟨t8, t9⟩, t10⟩ := id (hI.1)
  obtain ⟨⟨v0, v1, v2, v3, v4, v5, v6⟩, ⟨v7, v8⟩, v9⟩ := id (hI.2.1)
  obtain ⟨⟨l0, l1, l2, l3, l4, l5⟩, ⟨l6, l7⟩, l8, l9⟩ := id (hI.2.2.1)
  obtain ⟨a0, ⟨a1, a2⟩, a3⟩ := id (hI.2.2.2.2.1)
  obtain ⟨⟨b0, b1, b2, b3, b4, b5, b6⟩, ⟨b7, b8⟩, ⟨b9, b10⟩, b11, b12, b13⟩ := id (hI.2.2.2.2.2.1)
  obtain ⟨⟨x0, x1, x2, x3, x4⟩, ⟨x5, x6⟩, x7, x8⟩ := id (hI.2.2.2.2.2.2.1)
  obtain ⟨⟨g0, g1, g2, g3, g4⟩, ⟨g5, g6⟩, ⟨g7, g8⟩⟩ := id (hI.2.2.2.2.2.2.2.1)
  obtain ⟨w0, w1, ⟨w2, w3⟩⟩ := id (hI.2.2.2.2.2.2.2.2.2.1)
  have loop : (∀ τ, Inv τ → Q (some (.int (σ 10 1))) τ) → ∀ k i : Nat, i + k = (σ 10 0).toInt.toNat → X 88 [.ref 88, .int z, .int (nI (cntG (σ 100) i)), .int (nI i)] [] σ := by
    intro hK k
    induction k with
    | zero =>
      intro i hi
      rw [Nat.add_zero] at hi
      have e1 := nIt (n := i) (by omega)
      refine go [88] 100 hX ?_
      refine ⟨fun c93 => ?_, fun c93 => ?_⟩
      · exfalso; rw [l0] at c93; omega
      · refine ⟨rfl, trivial, ?_⟩
        rw [hi, ← l8]
        exact hK _ hI
    | succ k ih =>
      intro i hi
      have e1 := nIt (n := i) (by omega)
      have e2 := nIn (i := i) (by omega)
      refine go [88] 100 hX ?_
      refine ⟨fun c93 => ?_, fun c93 => ?_⟩
      · refine ⟨_, _, rfl, ⟨by omega, by omega⟩, ?_⟩
        refine ⟨fun c103 => ?_, fun c103 => ?_⟩
        · have ih1 := ih (i + 1) (by omega)
          rw [e2] at c103
          rw [cntG_s, if_pos c103, Nat.add_zero, ← Int32.add_zero (nI (cntG (σ 100) i)), ← nI_1] at ih1
          exact ih1
        · have ih1 := ih (i + 1) (by omega)
          rw [e2] at c103
          rw [cntG_s, if_neg c103, ← nI_1 (cntG _ _), ← nI_1] at ih1
          exact ih1
      · refine ⟨rfl, trivial, ?_⟩
        exfalso; rw [l0] at c93; omega
  refine go [88] 60 hX ?_
  refine ⟨fun c1_0 => ?_, fun c1_0 => ?_⟩
  · refine ⟨rfl, trivial, ?_⟩
    unfold countR at hQ
    rw [if_pos c1_0] at hQ
    refine Qe (hQ _ hI) (vI_ ?_) rfl
    exact t1
  refine ⟨fun c1_1 => ?_, fun c1_1 => ?_⟩
  · refine ⟨rfl, trivial, ?_⟩
    unfold countR at hQ
    rw [if_neg c1_0, if_pos c1_1] at hQ
    refine Qe (hQ _ hI) (vI_ ?_) rfl
    exact t2
  refine ⟨fun c1_2 => ?_, fun c1_2 => ?_⟩
  · refine ⟨rfl, trivial, ?_⟩
    unfold countR at hQ
    rw [if_neg c1_0, if_neg c1_1, if_pos c1_2] at hQ
    refine Qe (hQ _ hI) (vI_ ?_) rfl
    exact v0
  refine ⟨fun c1_3 => ?_, fun c1_3 => ?_⟩
  · refine ⟨rfl, trivial, ?_⟩
    unfold countR at hQ
    rw [if_neg c1_0, if_neg c1_1, if_neg c1_2, if_pos c1_3] at hQ
    refine Qe (hQ _ hI) (vI_ ?_) rfl
    exact l0
  refine ⟨fun c1_4 => ?_, fun c1_4 => ?_⟩
  · unfold countR at hQ
    rw [if_neg c1_0, if_neg c1_1, if_neg c1_2, if_neg c1_3, if_pos c1_4] at hQ
    exact loop hQ (σ 10 0).toInt.toNat 0 (Nat.zero_add _)
  refine ⟨fun c1_5 => ?_, fun c1_5 => ?_⟩
  · refine ⟨rfl, trivial, ?_⟩
    unfold countR at hQ
    rw [if_neg c1_0, if_neg c1_1, if_neg c1_2, if_neg c1_3, if_neg c1_4, if_pos c1_5] at hQ
    refine Qe (hQ _ hI) (vI_ ?_) rfl
    exact b0
  refine ⟨fun c1_6 => ?_, fun c1_6 => ?_⟩
  · refine ⟨rfl, trivial, ?_⟩
    unfold countR at hQ
    rw [if_neg c1_0, if_neg c1_1, if_neg c1_2, if_neg c1_3, if_neg c1_4, if_neg c1_5, if_pos c1_6] at hQ
    refine Qe (hQ _ hI) (vI_ ?_) rfl
    exact b1
  refine ⟨fun c1_7 => ?_, fun c1_7 => ?_⟩
  · refine ⟨rfl, trivial, ?_⟩
    unfold countR at hQ
    rw [if_neg c1_0, if_neg c1_1, if_neg c1_2, if_neg c1_3, if_neg c1_4, if_neg c1_5, if_neg c1_6, if_pos c1_7] at hQ
    refine Qe (hQ _ hI) (vI_ ?_) rfl
    exact x0
  refine ⟨fun c1_8 => ?_, fun c1_8 => ?_⟩
  · refine ⟨rfl, trivial, ?_⟩
    unfold countR at hQ
    rw [if_neg c1_0, if_neg c1_1, if_neg c1_2, if_neg c1_3, if_neg c1_4, if_neg c1_5, if_neg c1_6, if_neg c1_7, if_pos c1_8] at hQ
    refine Qe (hQ _ hI) (vI_ ?_) rfl
    exact g0
  refine ⟨fun c1_9 => ?_, fun c1_9 => ?_⟩
  · refine ⟨rfl, trivial, ?_⟩
    unfold countR at hQ
    rw [if_neg c1_0, if_neg c1_1, if_neg c1_2, if_neg c1_3, if_neg c1_4, if_neg c1_5, if_neg c1_6, if_neg c1_7, if_neg c1_8, if_pos c1_9] at hQ
    refine Qe (hQ _ hI) (vI_ ?_) rfl
    exact t0
  refine ⟨fun c1_10 => ?_, fun c1_10 => ?_⟩
  · refine ⟨rfl, trivial, ?_⟩
    unfold countR at hQ
    rw [if_neg c1_0, if_neg c1_1, if_neg c1_2, if_neg c1_3, if_neg c1_4, if_neg c1_5, if_neg c1_6, if_neg c1_7, if_neg c1_8, if_neg c1_9, if_pos c1_10] at hQ
    refine Qe (hQ _ hI) (vI_ ?_) rfl
    exact w0
  refine ⟨fun c1_11 => ?_, fun c1_11 => ?_⟩
  · refine ⟨rfl, trivial, ?_⟩
    unfold countR at hQ
    rw [if_neg c1_0, if_neg c1_1, if_neg c1_2, if_neg c1_3, if_neg c1_4, if_neg c1_5, if_neg c1_6, if_neg c1_7, if_neg c1_8, if_neg c1_9, if_neg c1_10, if_pos c1_11] at hQ
    refine Qe (hQ _ hI) (vI_ ?_) rfl
    exact a0
  refine ⟨rfl, trivial, ?_⟩
  unfold countR at hQ
  rw [if_neg c1_0, if_neg c1_1, if_neg c1_2, if_neg c1_3, if_neg c1_4, if_neg c1_5, if_neg c1_6, if_neg c1_7, if_neg c1_8, if_neg c1_9, if_neg c1_10, if_neg c1_11] at hQ
  exact hQ _ hI
theorem op_count {σ : Mm} {z : Int32} (hI : Inv σ) : Call 120 k_X11_count [.ref 0, .int z] σ (fun r τ => Call 120 k_X12_count [.ref 88, .int z] τ (fun r' τ' => (∃ x : Int32, r = some (.int x) ∧ r' = some (.int x)) ∧ Inv τ')) :=
  op_of (R := countR z) cs_count ms_count (fun σ τ hI hA => by unfold countR; rw [hA 1 rfl, hA 3 rfl, hA 10 rfl, hA 45 rfl, hA 71 rfl, hA 78 rfl, hA 0 rfl]) hI
