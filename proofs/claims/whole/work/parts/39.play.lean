theorem s_isKnown {d : Nat} {σ : Mm} {Q : Qt} {l y : Int32} (hl : ixs l 100) (hQ : Q (some (.int (bI ((σ 14 l.toInt.toNat).toInt ≤ y.toInt ∧ ((σ 15 l.toInt.toNat).toInt = -1000000005 ∨ y.toInt < (σ 15 l.toInt.toNat).toInt))))) σ) : Call (d + 1) k_X5_isKnown [.ref 10, .int l, .int y] σ Q := by
  refine Call_st 120 fun X hX => ?_
  refine ⟨_, _, rfl, hl, ?_⟩
  refine ⟨fun c7 => ?_, fun c7 => ?_⟩
  · refine ⟨rfl, Or.inl rfl, ?_⟩
    try simp only [Int32.reduceToInt] at c7
    first | exact bI_t hQ (by omega) | exact bI_f hQ (by omega)
  · refine ⟨_, _, rfl, hl, ?_⟩
    refine ⟨fun c18 => ?_, fun c18 => ?_⟩
    · refine ⟨rfl, Or.inr rfl, ?_⟩
      try simp only [Int32.reduceToInt] at c7 c18
      first | exact bI_t hQ (by omega) | exact bI_f hQ (by omega)
    · refine ⟨_, _, rfl, hl, ?_⟩
      refine ⟨fun c28 => ?_, fun c28 => ?_⟩
      · refine ⟨rfl, Or.inr rfl, ?_⟩
        try simp only [Int32.reduceToInt] at c7 c18 c28
        first | exact bI_t hQ (by omega) | exact bI_f hQ (by omega)
      · refine ⟨rfl, Or.inl rfl, ?_⟩
        try simp only [Int32.reduceToInt] at c7 c18 c28
        first | exact bI_t hQ (by omega) | exact bI_f hQ (by omega)
theorem Vw.w8 {τ P : Mm} {x y : Int32} (h : Vw τ P) (hx : x = y) : Vw (wr τ 34 4 x) (wr P 8 0 y) := by
  obtain ⟨h1, h2, h3, h4, h5, h6, h7, h8, h9⟩ := h
  exact ⟨hx, h2, h3, h4, h5, h6, h7, h8, h9⟩
theorem s_play {d : Nat} {σ : Mm} {Q : Qt} {x y : Int32} (hI : Inv σ) (hQ : ∀ τ P, Ag LsP σ τ → Vw τ P → Peq P (plA σ (σ 18) (okB σ x y) (σ 10 0).toInt.toNat) → Q none τ) : Call (d + 6) k_X8_play [.ref 34, .int x, .int y] σ Q := by
  refine Call_go fun X hX => ?_
  obtain ⟨⟨l0, l1, l2, l3, l4, l5⟩, ⟨l6, l7⟩, l8, l9⟩ := id (hI.2.2.1)
  obtain o0 := id (hI.2.2.2.1)
  have loop : ∀ (k i : Nat) (τ P : Mm) (v4 : Value), i + k = (σ 10 0).toInt.toNat → Ag LsP σ τ → Vw τ P → Peq P (plA σ (σ 18) (okB σ x y) i) → X 6 [.ref 34, .int x, .int y, .int (nI i), v4] [] τ := by
    intro k
    induction k with
    | zero =>
      intro i τ P v4 hi hA hV hP
      rw [Nat.add_zero] at hi
      rw [hi] at hP
      have e1 := nIt (n := i) (by omega)
      have f10 : τ 10 = σ 10 := hA 10 rfl
      refine go [6] 100 hX ?_
      refine ⟨fun c14 => ?_, fun c14 => ?_⟩
      · refine ⟨_, _, rfl, (by exfalso; rw [f10] at c14; omega), ?_⟩
        exfalso; rw [f10] at c14; omega
      · refine ⟨rfl, rfl, ?_⟩
        exact hQ τ P hA hV hP
    | succ k ih =>
      intro i τ P v4 hi hA hV hP
      have e1 := nIt (n := i) (by omega)
      have e2 := nIn (i := i) (by omega)
      have f10 : τ 10 = σ 10 := hA 10 rfl
      have f18 : τ 18 = σ 18 := hA 18 rfl
      have f13 : τ 13 = σ 13 := hA 13 rfl
      have f14 : τ 14 = σ 14 := hA 14 rfl
      have f15 : τ 15 = σ 15 := hA 15 rfl
      have hr := ordA_rng (ab := σ 13) (n := (σ 10 0).toInt.toNat) (by omega) i (by omega)
      rw [← o0] at hr
      have hln := lineF hI (l := (σ 18 i).toInt.toNat) (by omega)
      have eB : brF τ P (σ 18 i).toInt.toNat = brF σ P (σ 18 i).toInt.toNat := br_sta (StA_ag hA rfl) hln.2.1.1.2
      refine go [6] 100 hX ?_
      refine ⟨fun c14 => ?_, fun c14 => ?_⟩
      · refine ⟨_, _, rfl, ⟨by omega, by omega⟩, ?_⟩
        rw [f18, e2]
        refine ⟨_, _, rfl, ⟨by omega, by omega⟩, ?_⟩
        refine ⟨fun c39 => ?_, fun c39 => ?_⟩
        · first
          | (have hk : ¬ okB σ x y (σ 18 i).toInt.toNat = true := by
               unfold okB
               rw [decide_eq_true_iff]
               simp only [f13, f14, f15] at c14 c39
               unfold okP
               omega
             have ih1 := ih (i + 1) τ P (.int (σ 18 i)) (by omega) hA hV (by unfold plA; rw [if_neg hk]; exact hP)
             rw [← nI_1] at ih1
             exact ih1)
          | (have hk : okB σ x y (σ 18 i).toInt.toNat = true := by
               unfold okB
               rw [decide_eq_true_iff]
               simp only [f13, f14, f15] at c39 c52
               unfold okP
               omega
             rw [eB] at h58c c61
             have ih1 := ih (i + 1) h58a (brF σ P (σ 18 i).toInt.toNat).1 (.int (σ 18 i)) (by omega) (Ag.tr hA (Ag.wk h58b rfl)) h58c (by unfold plA; rw [if_pos hk]; exact stP_n hI (by omega) hP c61)
             rw [← nI_1] at ih1
             exact ih1)
          | (have hk : okB σ x y (σ 18 i).toInt.toNat = true := by
               unfold okB
               rw [decide_eq_true_iff]
               simp only [f13, f14, f15] at c39 c52
               unfold okP
               omega
             rw [eB] at h58c c61
             have e34 : h58a 34 4 = (brF σ P (σ 18 i).toInt.toNat).1 8 0 := h58c.1
             have ih1 := ih (i + 1) (wr h58a 34 4 (h58a 34 4 + 1)) (wr (brF σ P (σ 18 i).toInt.toNat).1 8 0 ((brF σ P (σ 18 i).toInt.toNat).1 8 0 + 1)) (.int (σ 18 i)) (by omega) (Ag.wr (Ag.tr hA (Ag.wk h58b rfl)) rfl) (Vw.w8 h58c (by rw [e34])) (by unfold plA; rw [if_pos hk]; exact stP_z hI (by omega) hP c61)
             rw [← nI_1] at ih1
             exact ih1)
        · refine ⟨rfl, rfl, ?_⟩
          refine s_isKnown ⟨by omega, by omega⟩ ?_
          refine ⟨fun c52 => ?_, fun c52 => ?_⟩
          · replace c52 := bI_z c52
            first
            | (have hk : ¬ okB σ x y (σ 18 i).toInt.toNat = true := by
                 unfold okB
                 rw [decide_eq_true_iff]
                 simp only [f13, f14, f15] at c14 c39 c52
                 unfold okP
                 omega
               have ih1 := ih (i + 1) τ P (.int (σ 18 i)) (by omega) hA hV (by unfold plA; rw [if_neg hk]; exact hP)
               rw [← nI_1] at ih1
               exact ih1)
            | (have hk : okB σ x y (σ 18 i).toInt.toNat = true := by
                 unfold okB
                 rw [decide_eq_true_iff]
                 simp only [f13, f14, f15] at c39 c52
                 unfold okP
                 omega
               rw [eB] at h58c c61
               have ih1 := ih (i + 1) h58a (brF σ P (σ 18 i).toInt.toNat).1 (.int (σ 18 i)) (by omega) (Ag.tr hA (Ag.wk h58b rfl)) h58c (by unfold plA; rw [if_pos hk]; exact stP_n hI (by omega) hP c61)
               rw [← nI_1] at ih1
               exact ih1)
            | (have hk : okB σ x y (σ 18 i).toInt.toNat = true := by
                 unfold okB
                 rw [decide_eq_true_iff]
                 simp only [f13, f14, f15] at c39 c52
                 unfold okP
                 omega
               rw [eB] at h58c c61
               have e34 : h58a 34 4 = (brF σ P (σ 18 i).toInt.toNat).1 8 0 := h58c.1
               have ih1 := ih (i + 1) (wr h58a 34 4 (h58a 34 4 + 1)) (wr (brF σ P (σ 18 i).toInt.toNat).1 8 0 ((brF σ P (σ 18 i).toInt.toNat).1 8 0 + 1)) (.int (σ 18 i)) (by omega) (Ag.wr (Ag.tr hA (Ag.wk h58b rfl)) rfl) (Vw.w8 h58c (by rw [e34])) (by unfold plA; rw [if_pos hk]; exact stP_z hI (by omega) hP c61)
               rw [← nI_1] at ih1
               exact ih1)
          · replace c52 := bI_nz c52
            refine ⟨rfl, rfl, ?_⟩
            refine s_brings (P := P) (Inv_P hI hA) hV ⟨by omega, by rw [f10]; omega⟩ (fun h58a h58b h58c => ?_)
            refine ⟨fun c61 => ?_, fun c61 => ?_⟩
            · first
              | (have hk : ¬ okB σ x y (σ 18 i).toInt.toNat = true := by
                   unfold okB
                   rw [decide_eq_true_iff]
                   simp only [f13, f14, f15] at c14 c39 c52 h58a h58b h58c c61
                   unfold okP
                   omega
                 have ih1 := ih (i + 1) τ P (.int (σ 18 i)) (by omega) hA hV (by unfold plA; rw [if_neg hk]; exact hP)
                 rw [← nI_1] at ih1
                 exact ih1)
              | (have hk : okB σ x y (σ 18 i).toInt.toNat = true := by
                   unfold okB
                   rw [decide_eq_true_iff]
                   simp only [f13, f14, f15] at c39 c52
                   unfold okP
                   omega
                 rw [eB] at h58c c61
                 have ih1 := ih (i + 1) h58a (brF σ P (σ 18 i).toInt.toNat).1 (.int (σ 18 i)) (by omega) (Ag.tr hA (Ag.wk h58b rfl)) h58c (by unfold plA; rw [if_pos hk]; exact stP_n hI (by omega) hP c61)
                 rw [← nI_1] at ih1
                 exact ih1)
              | (have hk : okB σ x y (σ 18 i).toInt.toNat = true := by
                   unfold okB
                   rw [decide_eq_true_iff]
                   simp only [f13, f14, f15] at c39 c52
                   unfold okP
                   omega
                 rw [eB] at h58c c61
                 have e34 : h58a 34 4 = (brF σ P (σ 18 i).toInt.toNat).1 8 0 := h58c.1
                 have ih1 := ih (i + 1) (wr h58a 34 4 (h58a 34 4 + 1)) (wr (brF σ P (σ 18 i).toInt.toNat).1 8 0 ((brF σ P (σ 18 i).toInt.toNat).1 8 0 + 1)) (.int (σ 18 i)) (by omega) (Ag.wr (Ag.tr hA (Ag.wk h58b rfl)) rfl) (Vw.w8 h58c (by rw [e34])) (by unfold plA; rw [if_pos hk]; exact stP_z hI (by omega) hP c61)
                 rw [← nI_1] at ih1
                 exact ih1)
            · first
              | (have hk : ¬ okB σ x y (σ 18 i).toInt.toNat = true := by
                   unfold okB
                   rw [decide_eq_true_iff]
                   simp only [f13, f14, f15] at c14 c39 c52 h58a h58b h58c c61
                   unfold okP
                   omega
                 have ih1 := ih (i + 1) τ P (.int (σ 18 i)) (by omega) hA hV (by unfold plA; rw [if_neg hk]; exact hP)
                 rw [← nI_1] at ih1
                 exact ih1)
              | (have hk : okB σ x y (σ 18 i).toInt.toNat = true := by
                   unfold okB
                   rw [decide_eq_true_iff]
                   simp only [f13, f14, f15] at c39 c52
                   unfold okP
                   omega
                 rw [eB] at h58c c61
                 have ih1 := ih (i + 1) h58a (brF σ P (σ 18 i).toInt.toNat).1 (.int (σ 18 i)) (by omega) (Ag.tr hA (Ag.wk h58b rfl)) h58c (by unfold plA; rw [if_pos hk]; exact stP_n hI (by omega) hP c61)
                 rw [← nI_1] at ih1
                 exact ih1)
              | (have hk : okB σ x y (σ 18 i).toInt.toNat = true := by
                   unfold okB
                   rw [decide_eq_true_iff]
                   simp only [f13, f14, f15] at c39 c52
                   unfold okP
                   omega
                 rw [eB] at h58c c61
                 have e34 : h58a 34 4 = (brF σ P (σ 18 i).toInt.toNat).1 8 0 := h58c.1
                 have ih1 := ih (i + 1) (wr h58a 34 4 (h58a 34 4 + 1)) (wr (brF σ P (σ 18 i).toInt.toNat).1 8 0 ((brF σ P (σ 18 i).toInt.toNat).1 8 0 + 1)) (.int (σ 18 i)) (by omega) (Ag.wr (Ag.tr hA (Ag.wk h58b rfl)) rfl) (Vw.w8 h58c (by rw [e34])) (by unfold plA; rw [if_pos hk]; exact stP_z hI (by omega) hP c61)
                 rw [← nI_1] at ih1
                 exact ih1)
      · refine ⟨rfl, rfl, ?_⟩
        exfalso; rw [f10] at c14; omega
  refine go [6] 20 hX ?_
  refine ⟨rfl, rfl, ?_⟩
  refine s_forget (fun τ hA hP => ?_)
  exact loop _ 0 τ (PV τ) .null (Nat.zero_add _) hA Vw_PV hP
