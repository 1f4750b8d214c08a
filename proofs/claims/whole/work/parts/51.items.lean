/-- what a sheet brings into the basket: how many came, how many there are, prices, sorts -/
def itF (so : Int32) (pl : Nat → Int32) (n0 : Int32) (p0 s0 : Nat → Int32) : Nat → Int32 × Int32 × (Nat → Int32) × (Nat → Int32)
  | 0 => (0, n0, p0, s0)
  | i + 1 => if 1 ≤ (pl i).toInt ∧ (pl i).toInt ≤ 9999 ∧ (itF so pl n0 p0 s0 i).2.1.toInt < 8 then ((itF so pl n0 p0 s0 i).1 + 1, (itF so pl n0 p0 s0 i).2.1 + 1, upd (itF so pl n0 p0 s0 i).2.2.1 (itF so pl n0 p0 s0 i).2.1.toInt.toNat (pl i), upd (itF so pl n0 p0 s0 i).2.2.2 (itF so pl n0 p0 s0 i).2.1.toInt.toNat so) else itF so pl n0 p0 s0 i
theorem itF_p {so : Int32} {pl : Nat → Int32} {n0 : Int32} {p0 s0 : Nat → Int32} {i : Nat} (h : 1 ≤ (pl i).toInt ∧ (pl i).toInt ≤ 9999 ∧ (itF so pl n0 p0 s0 i).2.1.toInt < 8) : itF so pl n0 p0 s0 (i + 1) = ((itF so pl n0 p0 s0 i).1 + 1, (itF so pl n0 p0 s0 i).2.1 + 1, upd (itF so pl n0 p0 s0 i).2.2.1 (itF so pl n0 p0 s0 i).2.1.toInt.toNat (pl i), upd (itF so pl n0 p0 s0 i).2.2.2 (itF so pl n0 p0 s0 i).2.1.toInt.toNat so) := if_pos h
theorem itF_n {so : Int32} {pl : Nat → Int32} {n0 : Int32} {p0 s0 : Nat → Int32} {i : Nat} (h : ¬ (1 ≤ (pl i).toInt ∧ (pl i).toInt ≤ 9999 ∧ (itF so pl n0 p0 s0 i).2.1.toInt < 8)) : itF so pl n0 p0 s0 (i + 1) = itF so pl n0 p0 s0 i := if_neg h
theorem itF_cong {so : Int32} {pl pl' : Nat → Int32} {n0 : Int32} {p0 s0 : Nat → Int32} : ∀ n : Nat, (∀ j, j < n → pl' j = pl j) → itF so pl' n0 p0 s0 n = itF so pl n0 p0 s0 n
  | 0, _ => rfl
  | n + 1, h => by
    have ih := itF_cong (so := so) (n0 := n0) (p0 := p0) (s0 := s0) n (fun j hj => h j (Nat.lt_succ_of_lt hj))
    have e := h n (Nat.lt_succ_self n)
    unfold itF
    rw [ih, e]
theorem itF_ok {so : Int32} {pl : Nat → Int32} {n0 : Int32} {p0 s0 : Nat → Int32} (hs : 0 ≤ so.toInt ∧ so.toInt ≤ 7) (h0 : 0 ≤ n0.toInt ∧ n0.toInt ≤ 8) (hr : ∀ i : Nat, (i : Int) < n0.toInt → (1 ≤ (p0 i).toInt ∧ (p0 i).toInt ≤ 9999) ∧ (0 ≤ (s0 i).toInt ∧ (s0 i).toInt ≤ 7)) : ∀ n : Nat, (0 ≤ (itF so pl n0 p0 s0 n).2.1.toInt ∧ (itF so pl n0 p0 s0 n).2.1.toInt ≤ 8) ∧ ∀ i : Nat, (i : Int) < (itF so pl n0 p0 s0 n).2.1.toInt → (1 ≤ ((itF so pl n0 p0 s0 n).2.2.1 i).toInt ∧ ((itF so pl n0 p0 s0 n).2.2.1 i).toInt ≤ 9999) ∧ (0 ≤ ((itF so pl n0 p0 s0 n).2.2.2 i).toInt ∧ ((itF so pl n0 p0 s0 n).2.2.2 i).toInt ≤ 7)
  | 0 => ⟨h0, hr⟩
  | n + 1 => by
    have ih := itF_ok (pl := pl) hs h0 hr n
    by_cases q : 1 ≤ (pl n).toInt ∧ (pl n).toInt ≤ 9999 ∧ (itF so pl n0 p0 s0 n).2.1.toInt < 8
    · rw [itF_p q]
      generalize itF so pl n0 p0 s0 n = z at *
      have e := add1 (x := z.2.1) (by omega)
      refine ⟨⟨?_, ?_⟩, fun i hi => ?_⟩
      · show 0 ≤ (z.2.1 + 1).toInt
        omega
      · show (z.2.1 + 1).toInt ≤ 8
        omega
      · have hi : (i : Int) < (z.2.1 + 1).toInt := hi
        show (1 ≤ (upd z.2.2.1 z.2.1.toInt.toNat (pl n) i).toInt ∧ (upd z.2.2.1 z.2.1.toInt.toNat (pl n) i).toInt ≤ 9999) ∧ (0 ≤ (upd z.2.2.2 z.2.1.toInt.toNat so i).toInt ∧ (upd z.2.2.2 z.2.1.toInt.toNat so i).toInt ≤ 7)
        unfold upd
        by_cases r : i = z.2.1.toInt.toNat
        · rw [if_pos r, if_pos r]; exact ⟨⟨q.1, q.2.1⟩, hs⟩
        · rw [if_neg r, if_neg r]; exact ih.2 i (by omega)
    · rw [itF_n q]
      exact ih
theorem Inv_ba {σ τ : Mm} (hI : Inv σ) (h : Ag [45, 46, 47, 88, 120, 121] σ τ) (hO45 : ∀ j, cu [0] j = false → τ 45 j = σ 45 j) (hO88 : ∀ j, cu [48] j = false → τ 88 j = σ 88 j) (nI_ba : I_ba τ) : Inv τ := ⟨(I_tr_fr (σ := σ) (h 2 rfl) (h 89 rfl) (congrFun (h 1 rfl) 0) (congrFun (h 1 rfl) 1) (congrFun (h 1 rfl) 2) (hO88 0 rfl) (hO88 1 rfl) (hO88 2 rfl) hI.1),
  (I_vo_fr (σ := σ) (h 4 rfl) (h 5 rfl) (h 6 rfl) (h 7 rfl) (h 8 rfl) (h 9 rfl) (h 90 rfl) (h 91 rfl) (h 92 rfl) (h 93 rfl) (h 94 rfl) (h 95 rfl) (congrFun (h 3 rfl) 0) (hO88 4 rfl) (congrFun (h 1 rfl) 1) hI.2.1),
  (I_li_fr (σ := σ) (h 9 rfl) (h 11 rfl) (h 12 rfl) (h 13 rfl) (h 14 rfl) (h 15 rfl) (h 16 rfl) (h 17 rfl) (h 96 rfl) (h 97 rfl) (h 98 rfl) (h 99 rfl) (h 100 rfl) (h 101 rfl) (h 102 rfl) (congrFun (h 10 rfl) 0) (congrFun (h 10 rfl) 1) (hO88 11 rfl) (congrFun (h 1 rfl) 0) (congrFun (h 1 rfl) 2) (congrFun (h 3 rfl) 0) hI.2.2.1),
  (I_or_fr (σ := σ) (h 13 rfl) (h 18 rfl) (congrFun (h 10 rfl) 0) hI.2.2.2.1),
  (I_ta_fr (σ := σ) (h 30 rfl) (h 118 rfl) (congrFun (h 0 rfl) 5) (hO88 36 rfl) hI.2.2.2.2.1),
  nI_ba,
  (I_ex_fr (σ := σ) (h 73 rfl) (h 74 rfl) (h 75 rfl) (h 76 rfl) (h 77 rfl) (h 131 rfl) (h 132 rfl) (h 133 rfl) (h 134 rfl) (congrFun (h 71 rfl) 0) (hO88 65 rfl) hI.2.2.2.2.2.2.1),
  (I_gu_fr (σ := σ) (h 79 rfl) (h 80 rfl) (h 81 rfl) (h 136 rfl) (h 137 rfl) (h 138 rfl) (congrFun (h 78 rfl) 0) (congrFun (h 78 rfl) 1) (hO88 71 rfl) (hO88 72 rfl) hI.2.2.2.2.2.2.2.1),
  (I_sh_fr (σ := σ) (h 83 rfl) (h 85 rfl) (h 86 rfl) (h 103 rfl) (h 104 rfl) hI.2.2.2.2.2.2.2.2.1),
  (I_wa_fr (σ := σ) (h 87 rfl) (h 130 rfl) (congrFun (h 0 rfl) 14) (hO88 64 rfl) hI.2.2.2.2.2.2.2.2.2.1),
  (I_la_fr (σ := σ) (h 20 rfl) (h 22 rfl) (h 23 rfl) (h 24 rfl) (h 26 rfl) (h 27 rfl) (h 28 rfl) (h 110 rfl) (h 111 rfl) (h 112 rfl) (h 113 rfl) hI.2.2.2.2.2.2.2.2.2.2.1),
  (I_he_fr (σ := σ) (h 119 rfl) hI.2.2.2.2.2.2.2.2.2.2.2)⟩
theorem shA {L : List Nat} {σ τ : Mm} {S : Nat} (h : Ag L σ τ) (hS : S ≤ 1) (h5 : cu L 85 = false) (h6 : cu L 86 = false) : τ (85 + S) = σ (85 + S) := by
  rcases (show S = 0 ∨ S = 1 by omega) with rfl | rfl
  · exact h 85 h5
  · exact h 86 h6
theorem cs_items {d : Nat} {σ : Mm} {Q : Qt} {so s : Int32} (hn : 0 ≤ (σ 45 0).toInt ∧ (σ 45 0).toInt ≤ 8) (hr : ∀ i : Nat, (i : Int) < (σ 45 0).toInt → (1 ≤ (σ 46 i).toInt ∧ (σ 46 i).toInt ≤ 9999) ∧ (0 ≤ (σ 47 i).toInt ∧ (σ 47 i).toInt ≤ 7)) (hz : ((0 ≤ so.toInt ∧ so.toInt ≤ 7) ∧ (0 ≤ s.toInt ∧ s.toInt ≤ 1)) → -1 ≤ (σ 83 s.toInt.toNat).toInt ∧ (σ 83 s.toInt.toNat).toInt ≤ 16) (h1 : ¬ ((0 ≤ so.toInt ∧ so.toInt ≤ 7) ∧ (0 ≤ s.toInt ∧ s.toInt ≤ 1)) → Q (some (.int (-1000000001))) σ) (h2 : ((0 ≤ so.toInt ∧ so.toInt ≤ 7) ∧ (0 ≤ s.toInt ∧ s.toInt ≤ 1)) → (σ 83 s.toInt.toNat).toInt < 0 → Q (some (.int (-1000000011))) σ) (h3 : ((0 ≤ so.toInt ∧ so.toInt ≤ 7) ∧ (0 ≤ s.toInt ∧ s.toInt ≤ 1)) → 0 ≤ (σ 83 s.toInt.toNat).toInt → ∀ τ : Mm, Ag [45, 46, 47] σ τ → (∀ j, j ≠ 0 → τ 45 j = σ 45 j) → τ 45 0 = (itF so (σ (85 + s.toInt.toNat)) (σ 45 0) (σ 46) (σ 47) (σ 83 s.toInt.toNat).toInt.toNat).2.1 → τ 46 = (itF so (σ (85 + s.toInt.toNat)) (σ 45 0) (σ 46) (σ 47) (σ 83 s.toInt.toNat).toInt.toNat).2.2.1 → τ 47 = (itF so (σ (85 + s.toInt.toNat)) (σ 45 0) (σ 46) (σ 47) (σ 83 s.toInt.toNat).toInt.toNat).2.2.2 → Q (some (.int (itF so (σ (85 + s.toInt.toNat)) (σ 45 0) (σ 46) (σ 47) (σ 83 s.toInt.toNat).toInt.toNat).1)) τ) : Call (d + 2) k_X11_items [.ref 0, .int so, .int s] σ Q := by
  refine Call_go fun X hX => ?_
  have loop : ((0 ≤ so.toInt ∧ so.toInt ≤ 7) ∧ (0 ≤ s.toInt ∧ s.toInt ≤ 1)) → 0 ≤ (σ 83 s.toInt.toNat).toInt → ∀ (k i : Nat) (τ : Mm) (v5 : Value), i + k = (σ 83 s.toInt.toNat).toInt.toNat → Ag [45, 46, 47] σ τ → (∀ j, j ≠ 0 → τ 45 j = σ 45 j) → τ 45 0 = (itF so (σ (85 + s.toInt.toNat)) (σ 45 0) (σ 46) (σ 47) i).2.1 → τ 46 = (itF so (σ (85 + s.toInt.toNat)) (σ 45 0) (σ 46) (σ 47) i).2.2.1 → τ 47 = (itF so (σ (85 + s.toInt.toNat)) (σ 45 0) (σ 46) (σ 47) i).2.2.2 → X 42 [.ref 0, .int so, .int s, .int (itF so (σ (85 + s.toInt.toNat)) (σ 45 0) (σ 46) (σ 47) i).1, .int (nI i), v5] [] τ := by
    intro hok hs0 k
    have hsz := hz hok
    induction k with
    | zero =>
      intro i τ v5 hi hA h0 hz hp hso
      rw [Nat.add_zero] at hi
      have f83 : τ 83 = σ 83 := hA 83 rfl
      have e83 : (τ 83 s.toInt.toNat).toInt = (σ 83 s.toInt.toNat).toInt := by rw [f83]
      have e1 := nIt (n := i) (by omega)
      have e2 := nIn (i := i) (by omega)
      subst hi
      refine go [42] 100 hX ?_
      refine ⟨_, _, rfl, ⟨by omega, by omega⟩, ?_⟩
      refine ⟨fun c53 => ?_, fun c53 => ?_⟩
      · exfalso; omega
      · refine ⟨rfl, trivial, ?_⟩
        exact h3 hok hs0 τ hA h0 hz hp hso
    | succ k ih =>
      intro i τ v5 hi hA h0 hz hp hso
      have f83 : τ 83 = σ 83 := hA 83 rfl
      have e83 : (τ 83 s.toInt.toNat).toInt = (σ 83 s.toInt.toNat).toInt := by rw [f83]
      have e1 := nIt (n := i) (by omega)
      have e2 := nIn (i := i) (by omega)
      have eP : τ (85 + s.toInt.toNat) (nI i).toInt.toNat = σ (85 + s.toInt.toNat) i := by rw [e2, shA hA (by omega) rfl rfl]
      have hn1 := (itF_ok (pl := σ (85 + s.toInt.toNat)) hok.1 hn hr i).1
      rw [← hz] at hn1
      refine go [42] 100 hX ?_
      refine ⟨_, _, rfl, ⟨by omega, by omega⟩, ?_⟩
      refine ⟨fun c53 => ?_, fun c53 => ?_⟩
      · refine ⟨_, _, rfl, ⟨by omega, by omega⟩, ?_⟩
        refine ⟨_, (rw85 (by omega)), ⟨by omega, by omega⟩, ?_⟩
        refine ⟨rfl, ?_⟩
        refine s_withinK (l := 1) (h := 9999) (by decide) (by decide) ?_
        refine ⟨fun c79 => ?_, fun c79 => ?_⟩
        · replace c79 := bI_z c79
          have q : ¬ (1 ≤ (σ (85 + s.toInt.toNat) i).toInt ∧ (σ (85 + s.toInt.toNat) i).toInt ≤ 9999 ∧ (itF so (σ (85 + s.toInt.toNat)) (σ 45 0) (σ 46) (σ 47) i).2.1.toInt < 8) := by
            rw [← hz]
            first | omega | (rw [eP] at c79; omega)
          have ih1 := ih (i + 1) τ (.int (τ (85 + s.toInt.toNat) (nI i).toInt.toNat)) (by omega) hA h0 (by rw [itF_n q]; exact hz) (by rw [itF_n q]; exact hp) (by rw [itF_n q]; exact hso)
          rw [itF_n q, ← nI_1] at ih1
          exact ih1
        · replace c79 := bI_nz c79
          refine ⟨rfl, rfl, ?_⟩
          refine s_put (by omega) (fun h89a => ?_) (fun h89a => ?_)
          · refine ⟨fun _ => ?_, fun z => absurd (by decide) z⟩
            have q : ¬ (1 ≤ (σ (85 + s.toInt.toNat) i).toInt ∧ (σ (85 + s.toInt.toNat) i).toInt ≤ 9999 ∧ (itF so (σ (85 + s.toInt.toNat)) (σ 45 0) (σ 46) (σ 47) i).2.1.toInt < 8) := by
              rw [← hz]
              first | omega | (rw [eP] at c79; omega)
            have ih1 := ih (i + 1) τ (.int (τ (85 + s.toInt.toNat) (nI i).toInt.toNat)) (by omega) hA h0 (by rw [itF_n q]; exact hz) (by rw [itF_n q]; exact hp) (by rw [itF_n q]; exact hso)
            rw [itF_n q, ← nI_1] at ih1
            exact ih1
          · refine ⟨fun z => absurd z (by decide), fun _ => ?_⟩
            rw [eP] at c79
            have q : 1 ≤ (σ (85 + s.toInt.toNat) i).toInt ∧ (σ (85 + s.toInt.toNat) i).toInt ≤ 9999 ∧ (itF so (σ (85 + s.toInt.toNat)) (σ 45 0) (σ 46) (σ 47) i).2.1.toInt < 8 := by
              rw [← hz]
              omega
            have ih1 := ih (i + 1) (wr (wr (wr τ 46 (τ 45 0).toInt.toNat (τ (85 + s.toInt.toNat) (nI i).toInt.toNat)) 47 (τ 45 0).toInt.toNat so) 45 0 (τ 45 0 + 1)) (.int (τ (85 + s.toInt.toNat) (nI i).toInt.toNat)) (by omega) (Ag.wr (Ag.wr (Ag.wr hA rfl) rfl) rfl) (fun j hj => (pk_un hj).trans (h0 j hj)) (by rw [itF_p q, ← hz]; rfl) (by rw [itF_p q, ← hz, ← hp, ← eP]; rfl) (by rw [itF_p q, ← hz, ← hso]; rfl)
            rw [itF_p q, ← nI_1] at ih1
            exact ih1
      · refine ⟨rfl, trivial, ?_⟩
        exfalso; (first | omega | (simp only [Int32.reduceToInt] at c53 ⊢; omega))
  refine go [42] 30 hX ?_
  refine ⟨rfl, ?_⟩
  refine s_withinK (l := 0) (h := 7) (by decide) (by decide) ?_
  refine ⟨fun c7 => ?_, fun c7 => ?_⟩
  · replace c7 := bI_z c7
    refine ⟨rfl, trivial, ?_⟩
    exact h1 (by (first | omega | (simp only [Int32.reduceToInt] at c7 ⊢; omega)))
  · replace c7 := bI_nz c7
    refine ⟨rfl, ?_⟩
    refine s_withinK (l := 0) (h := 1) (by decide) (by decide) ?_
    refine ⟨fun c16 => ?_, fun c16 => ?_⟩
    · replace c16 := bI_z c16
      refine ⟨rfl, trivial, ?_⟩
      exact h1 (by (first | omega | (simp only [Int32.reduceToInt] at c7 c16 ⊢; omega)))
    · replace c16 := bI_nz c16
      refine ⟨rfl, rfl, ?_⟩
      refine s_isMissing (by (first | omega | (simp only [Int32.reduceToInt] at c7 c16 ⊢; omega))) ?_
      refine ⟨fun c30 => ?_, fun c30 => ?_⟩
      · replace c30 := bI_z c30
        have hz0 := hz (by (first | omega | (simp only [Int32.reduceToInt] at c7 c16 c30 ⊢; omega)))
        exact loop (by (first | omega | (simp only [Int32.reduceToInt] at c7 c16 c30 ⊢; omega))) (by omega) _ 0 σ .null (Nat.zero_add _) Ag.rf (fun _ _ => rfl) rfl rfl rfl
      · replace c30 := bI_nz c30
        refine ⟨rfl, trivial, ?_⟩
        exact h2 (by (first | omega | (simp only [Int32.reduceToInt] at c7 c16 c30 ⊢; omega))) (by omega)
theorem m_item {d : Nat} {σ : Mm} {Q : Qt} {x y : Int32} (h0 : 0 ≤ (σ 88 48).toInt ∧ (σ 88 48).toInt < 8) (h1 : ¬ ((1 ≤ x.toInt ∧ x.toInt ≤ 9999) ∧ (0 ≤ y.toInt ∧ y.toInt ≤ 7)) → Q (some (.int (-1000000001))) σ) (h2 : (1 ≤ x.toInt ∧ x.toInt ≤ 9999) ∧ (0 ≤ y.toInt ∧ y.toInt ≤ 7) → Q (some (.int (σ 88 48 + 1))) (wr (wr (wr σ 120 (σ 88 48).toInt.toNat x) 121 (σ 88 48).toInt.toNat y) 88 48 (σ 88 48 + 1))) : Call (d + 2) k_X12_item [.ref 88, .int x, .int y] σ Q := by
  refine Call_st 120 fun X hX => ?_
  refine ⟨rfl, ?_⟩
  refine m_isInK (l := 1) (h := 9999) (by decide) (by decide) ?_
  refine ⟨fun c8 => ?_, fun c8 => ?_⟩
  · replace c8 := bI_z c8
    refine ⟨rfl, trivial, ?_⟩
    first | exact h1 (by (first | omega | (simp only [Int32.reduceToInt] at c8 ⊢; omega))) | (exfalso; (first | omega | (simp only [Int32.reduceToInt] at c8 ⊢; omega)))
  · replace c8 := bI_nz c8
    refine ⟨rfl, ?_⟩
    refine m_isInK (l := 0) (h := 7) (by decide) (by decide) ?_
    refine ⟨fun c18 => ?_, fun c18 => ?_⟩
    · replace c18 := bI_z c18
      refine ⟨rfl, trivial, ?_⟩
      first | exact h1 (by (first | omega | (simp only [Int32.reduceToInt] at c8 c18 ⊢; omega))) | (exfalso; (first | omega | (simp only [Int32.reduceToInt] at c8 c18 ⊢; omega)))
    · replace c18 := bI_nz c18
      refine ⟨fun c30 => ?_, fun c30 => ?_⟩
      · refine ⟨rfl, trivial, ?_⟩
        first | exact h1 (by (first | omega | (simp only [Int32.reduceToInt] at c8 c18 c30 ⊢; omega))) | (exfalso; (first | omega | (simp only [Int32.reduceToInt] at c8 c18 c30 ⊢; omega)))
      · refine ⟨_, rfl, h0, ?_⟩
        refine ⟨_, rfl, h0, ?_⟩
        refine ⟨rfl, trivial, ?_⟩
        exact h2 (by (first | omega | (simp only [Int32.reduceToInt] at c8 c18 c30 ⊢; omega)))
theorem posB : ¬ 0 < (-1000000001 : Int32).toInt := by decide
theorem ms_items {d : Nat} {σ : Mm} {Q : Qt} {so s : Int32} (hn : 0 ≤ (σ 88 48).toInt ∧ (σ 88 48).toInt ≤ 8) (hr : ∀ i : Nat, (i : Int) < (σ 88 48).toInt → (1 ≤ (σ 120 i).toInt ∧ (σ 120 i).toInt ≤ 9999) ∧ (0 ≤ (σ 121 i).toInt ∧ (σ 121 i).toInt ≤ 7)) (hz : ((0 ≤ so.toInt ∧ so.toInt ≤ 7) ∧ (0 ≤ s.toInt ∧ s.toInt ≤ 1)) → -1 ≤ (σ 103 s.toInt.toNat).toInt ∧ (σ 103 s.toInt.toNat).toInt ≤ 16) (h1 : ¬ ((0 ≤ so.toInt ∧ so.toInt ≤ 7) ∧ (0 ≤ s.toInt ∧ s.toInt ≤ 1)) → Q (some (.int (-1000000001))) σ) (h2 : ((0 ≤ so.toInt ∧ so.toInt ≤ 7) ∧ (0 ≤ s.toInt ∧ s.toInt ≤ 1)) → (σ 103 s.toInt.toNat).toInt < 0 → Q (some (.int (-1000000011))) σ) (h3 : ((0 ≤ so.toInt ∧ so.toInt ≤ 7) ∧ (0 ≤ s.toInt ∧ s.toInt ≤ 1)) → 0 ≤ (σ 103 s.toInt.toNat).toInt → ∀ τ : Mm, Ag [88, 120, 121] σ τ → (∀ j, j ≠ 48 → τ 88 j = σ 88 j) → τ 88 48 = (itF so (fun i => σ 104 (16 * s.toInt.toNat + i)) (σ 88 48) (σ 120) (σ 121) (σ 103 s.toInt.toNat).toInt.toNat).2.1 → τ 120 = (itF so (fun i => σ 104 (16 * s.toInt.toNat + i)) (σ 88 48) (σ 120) (σ 121) (σ 103 s.toInt.toNat).toInt.toNat).2.2.1 → τ 121 = (itF so (fun i => σ 104 (16 * s.toInt.toNat + i)) (σ 88 48) (σ 120) (σ 121) (σ 103 s.toInt.toNat).toInt.toNat).2.2.2 → Q (some (.int (itF so (fun i => σ 104 (16 * s.toInt.toNat + i)) (σ 88 48) (σ 120) (σ 121) (σ 103 s.toInt.toNat).toInt.toNat).1)) τ) : Call (d + 3) k_X12_items [.ref 88, .int so, .int s] σ Q := by
  refine Call_go fun X hX => ?_
  have loop : ((0 ≤ so.toInt ∧ so.toInt ≤ 7) ∧ (0 ≤ s.toInt ∧ s.toInt ≤ 1)) → 0 ≤ (σ 103 s.toInt.toNat).toInt → ∀ (k i : Nat) (τ : Mm), i + k = (σ 103 s.toInt.toNat).toInt.toNat → Ag [88, 120, 121] σ τ → (∀ j, j ≠ 48 → τ 88 j = σ 88 j) → τ 88 48 = (itF so (fun i => σ 104 (16 * s.toInt.toNat + i)) (σ 88 48) (σ 120) (σ 121) i).2.1 → τ 120 = (itF so (fun i => σ 104 (16 * s.toInt.toNat + i)) (σ 88 48) (σ 120) (σ 121) i).2.2.1 → τ 121 = (itF so (fun i => σ 104 (16 * s.toInt.toNat + i)) (σ 88 48) (σ 120) (σ 121) i).2.2.2 → X 38 [.ref 88, .int so, .int s, .int (itF so (fun i => σ 104 (16 * s.toInt.toNat + i)) (σ 88 48) (σ 120) (σ 121) i).1, .int (nI i)] [] τ := by
    intro hok hs0 k
    have hsz := hz hok
    induction k with
    | zero =>
      intro i τ hi hA h8 hz hp hso
      rw [Nat.add_zero] at hi
      have f103 : τ 103 = σ 103 := hA 103 rfl
      have e103 : (τ 103 s.toInt.toNat).toInt = (σ 103 s.toInt.toNat).toInt := by rw [f103]
      have e1 := nIt (n := i) (by omega)
      have e2 := nIn (i := i) (by omega)
      subst hi
      refine go [38] 100 hX ?_
      refine ⟨_, _, rfl, ⟨by omega, by omega⟩, ?_⟩
      refine ⟨fun c46 => ?_, fun c46 => ?_⟩
      · exfalso; omega
      · refine ⟨rfl, trivial, ?_⟩
        exact h3 hok hs0 τ hA h8 hz hp hso
    | succ k ih =>
      intro i τ hi hA h8 hz hp hso
      have f103 : τ 103 = σ 103 := hA 103 rfl
      have e103 : (τ 103 s.toInt.toNat).toInt = (σ 103 s.toInt.toNat).toInt := by rw [f103]
      have e1 := nIt (n := i) (by omega)
      have e2 := nIn (i := i) (by omega)
      have eP : τ 104 (16 * s + nI i).toInt.toNat = σ 104 (16 * s.toInt.toNat + i) := by rw [ix16 (by omega) (by omega), hA 104 rfl]; congr 1; omega
      have hn1 := (itF_ok (pl := fun i => σ 104 (16 * s.toInt.toNat + i)) hok.1 hn hr i).1
      rw [← hz] at hn1
      refine go [38] 100 hX ?_
      refine ⟨_, _, rfl, ⟨by omega, by omega⟩, ?_⟩
      refine ⟨fun c46 => ?_, fun c46 => ?_⟩
      · refine ⟨fun c56 => ?_, fun c56 => ?_⟩
        · simp only [Int32.reduceToInt] at c56
          refine ⟨_, _, rfl, (by unfold ixs; rw [ix16 (by omega) (by omega)]; constructor <;> omega), ?_⟩
          refine ⟨rfl, rfl, ?_⟩
          refine m_item ⟨by omega, by omega⟩ (fun h73a => ?_) (fun h73a => ?_)
          · refine ⟨fun z => absurd z (by decide), fun _ => ?_⟩
            have q : ¬ (1 ≤ (σ 104 (16 * s.toInt.toNat + i)).toInt ∧ (σ 104 (16 * s.toInt.toNat + i)).toInt ≤ 9999 ∧ (itF so (fun i => σ 104 (16 * s.toInt.toNat + i)) (σ 88 48) (σ 120) (σ 121) i).2.1.toInt < 8) := by
              rw [← hz]
              rw [eP] at h73a; omega
            have ih1 := ih (i + 1) τ (by omega) hA h8 (by rw [itF_n (pl := fun i => σ 104 (16 * s.toInt.toNat + i)) (i := i) q]; exact hz) (by rw [itF_n (pl := fun i => σ 104 (16 * s.toInt.toNat + i)) (i := i) q]; exact hp) (by rw [itF_n (pl := fun i => σ 104 (16 * s.toInt.toNat + i)) (i := i) q]; exact hso)
            rw [itF_n (pl := fun i => σ 104 (16 * s.toInt.toNat + i)) (i := i) q, ← nI_1, ← Int32.add_zero (itF so (fun i => σ 104 (16 * s.toInt.toNat + i)) (σ 88 48) (σ 120) (σ 121) i).1] at ih1
            exact ih1
          · refine ⟨fun c76 => ?_, fun c76 => ?_⟩
            · rw [eP] at h73a
              have q : 1 ≤ (σ 104 (16 * s.toInt.toNat + i)).toInt ∧ (σ 104 (16 * s.toInt.toNat + i)).toInt ≤ 9999 ∧ (itF so (fun i => σ 104 (16 * s.toInt.toNat + i)) (σ 88 48) (σ 120) (σ 121) i).2.1.toInt < 8 := by
                rw [← hz]
                omega
              have ih1 := ih (i + 1) (wr (wr (wr τ 120 (τ 88 48).toInt.toNat (τ 104 (16 * s + nI i).toInt.toNat)) 121 (τ 88 48).toInt.toNat so) 88 48 (τ 88 48 + 1)) (by omega) (Ag.wr (Ag.wr (Ag.wr hA rfl) rfl) rfl) (fun j hj => (pk_un hj).trans (h8 j hj)) (by rw [itF_p (pl := fun i => σ 104 (16 * s.toInt.toNat + i)) (i := i) q, ← hz]; rfl) (by rw [itF_p (pl := fun i => σ 104 (16 * s.toInt.toNat + i)) (i := i) q, ← hz, ← hp, eP]; rfl) (by rw [itF_p (pl := fun i => σ 104 (16 * s.toInt.toNat + i)) (i := i) q, ← hz, ← hso]; rfl)
              rw [itF_p (pl := fun i => σ 104 (16 * s.toInt.toNat + i)) (i := i) q, ← nI_1] at ih1
              exact ih1
            · exfalso; have e0 := add1 (x := τ 88 48) (by omega); omega
        · simp only [Int32.reduceToInt] at c56
          have q : ¬ (1 ≤ (σ 104 (16 * s.toInt.toNat + i)).toInt ∧ (σ 104 (16 * s.toInt.toNat + i)).toInt ≤ 9999 ∧ (itF so (fun i => σ 104 (16 * s.toInt.toNat + i)) (σ 88 48) (σ 120) (σ 121) i).2.1.toInt < 8) := by
            rw [← hz]
            omega
          have ih1 := ih (i + 1) τ (by omega) hA h8 (by rw [itF_n (pl := fun i => σ 104 (16 * s.toInt.toNat + i)) (i := i) q]; exact hz) (by rw [itF_n (pl := fun i => σ 104 (16 * s.toInt.toNat + i)) (i := i) q]; exact hp) (by rw [itF_n (pl := fun i => σ 104 (16 * s.toInt.toNat + i)) (i := i) q]; exact hso)
          rw [itF_n (pl := fun i => σ 104 (16 * s.toInt.toNat + i)) (i := i) q, ← nI_1, ← Int32.add_zero (itF so (fun i => σ 104 (16 * s.toInt.toNat + i)) (σ 88 48) (σ 120) (σ 121) i).1] at ih1
          exact ih1
      · refine ⟨rfl, trivial, ?_⟩
        exfalso; (first | omega | (simp only [Int32.reduceToInt] at c46 ⊢; omega))
  refine go [38] 30 hX ?_
  refine ⟨rfl, ?_⟩
  refine m_isInK (l := 0) (h := 7) (by decide) (by decide) ?_
  refine ⟨fun c7 => ?_, fun c7 => ?_⟩
  · replace c7 := bI_z c7
    refine ⟨rfl, trivial, ?_⟩
    exact h1 (by (first | omega | (simp only [Int32.reduceToInt] at c7 ⊢; omega)))
  · replace c7 := bI_nz c7
    refine ⟨rfl, ?_⟩
    refine m_isSheet ?_
    refine ⟨fun c14 => ?_, fun c14 => ?_⟩
    · replace c14 := bI_z c14
      refine ⟨rfl, trivial, ?_⟩
      exact h1 (by (first | omega | (simp only [Int32.reduceToInt] at c7 c14 ⊢; omega)))
    · replace c14 := bI_nz c14
      refine ⟨_, _, rfl, (by refine ⟨?_, ?_⟩ <;> (first | omega | (simp only [Int32.reduceToInt] at c7 c14 ⊢; omega))), ?_⟩
      refine ⟨fun c26 => ?_, fun c26 => ?_⟩
      · refine ⟨rfl, trivial, ?_⟩
        exact h2 (by (first | omega | (simp only [Int32.reduceToInt] at c7 c14 c26 ⊢; omega))) (by omega)
      · exact loop (by (first | omega | (simp only [Int32.reduceToInt] at c7 c14 c26 ⊢; omega))) (by omega) _ 0 σ (Nat.zero_add _) Ag.rf (fun _ _ => rfl) rfl rfl rfl
theorem c_items_ba {σ σ' : Mm} (z : Int32 × Int32 × (Nat → Int32) × (Nat → Int32)) (e46 : σ' 46 = z.2.2.1) (e47 : σ' 47 = z.2.2.2) (e48 : σ' 48 = σ 48) (e49 : σ' 49 = σ 49) (e50 : σ' 50 = σ 50) (e120 : σ' 120 = z.2.2.1) (e121 : σ' 121 = z.2.2.2) (e122 : σ' 122 = σ 122) (e123 : σ' 123 = σ 123) (e124 : σ' 124 = σ 124) (e52 : σ' 52 = σ 52) (e53 : σ' 53 = σ 53) (e54 : σ' 54 = σ 54) (e55 : σ' 55 = σ 55) (e56 : σ' 56 = σ 56) (e57 : σ' 57 = σ 57) (e125 : σ' 125 = σ 125) (p45_0 : σ' 45 0 = z.2.1) (p45_3 : σ' 45 3 = σ 45 3) (p88_48 : σ' 88 48 = z.2.1) (p88_51 : σ' 88 51 = σ 88 51) (h : I_ba σ) (hk : 0 ≤ z.2.1.toInt ∧ z.2.1.toInt ≤ 8) (hr : ∀ i : Nat, (i : Int) < z.2.1.toInt → (1 ≤ (z.2.2.1 i).toInt ∧ (z.2.2.1 i).toInt ≤ 9999) ∧ (0 ≤ (z.2.2.2 i).toInt ∧ (z.2.2.2 i).toInt ≤ 7)) : I_ba σ' := by
  unfold I_ba
  simp only [e46, e47, e48, e49, e50, e120, e121, e122, e123, e124, e52, e53, e54, e55, e56, e57, e125, p45_0, p45_3, p88_48, p88_51]
  obtain ⟨⟨b0, b1, b2, b3, b4, b5, b6⟩, _, b9, _, b12, b13⟩ := h
  exact ⟨⟨trivial, b1, trivial, trivial, b4, b5, b6⟩, hk, b9, hr, b12, b13⟩
theorem op_items {σ : Mm} {so s : Int32} (hI : Inv σ) : Call 120 k_X11_items [.ref 0, .int so, .int s] σ (fun r τ => Call 120 k_X12_items [.ref 88, .int so, .int s] τ (fun r' τ' => (∃ x : Int32, r = some (.int x) ∧ r' = some (.int x)) ∧ Inv τ')) := by
  have hsh := hI.2.2.2.2.2.2.2.2.1
  have hba := hI.2.2.2.2.2.1
  obtain ⟨⟨b0, b1, b2, b3, b4, b5, b6⟩, ⟨b7, b8⟩, ⟨b9, b10⟩, b11, b12, b13⟩ := id hba
  have e3 : ∀ {τ : Mm}, τ 103 = σ 103 → τ 103 = σ 83 := fun e => e.trans hsh.1
  have q0 := e3 (τ := σ) rfl
  have hz : ((0 ≤ so.toInt ∧ so.toInt ≤ 7) ∧ (0 ≤ s.toInt ∧ s.toInt ≤ 1)) → -1 ≤ (σ 83 s.toInt.toNat).toInt ∧ (σ 83 s.toInt.toNat).toInt ≤ 16 := fun q => sz_rng hsh (by omega)
  refine cs_items ⟨b7, b8⟩ b11 hz (fun c => ?_) (fun a b => ?_) (fun a b τ hA h0 kz kp ks => ?_)
  · exact ms_items (by rw [b0]; exact ⟨b7, b8⟩) (by rw [b0, b2, b3]; exact b11) (by rw [q0]; exact hz) (fun _ => ⟨⟨_, rfl, rfl⟩, hI⟩) (fun a _ => absurd a c) (fun a => absurd a c)
  · exact ms_items (by rw [b0]; exact ⟨b7, b8⟩) (by rw [b0, b2, b3]; exact b11) (by rw [q0]; exact hz) (fun c => absurd a c) (fun _ _ => ⟨⟨_, rfl, rfl⟩, hI⟩) (fun _ z => absurd b (by rw [q0] at z; omega))
  · have f103 : τ 103 = σ 83 := e3 (hA 103 rfl)
    have f48 : τ 88 48 = σ 45 0 := by rw [hA 88 rfl, b0]
    have f120 : τ 120 = σ 46 := (hA 120 rfl).trans b2
    have f121 : τ 121 = σ 47 := (hA 121 rfl).trans b3
    refine ms_items (by rw [f48]; exact ⟨b7, b8⟩) (by rw [f48, f120, f121]; exact b11) (by rw [f103]; exact hz) (fun c => absurd a c) (fun _ z => absurd b (by rw [f103] at z; omega)) (fun _ _ υ kA k0 lz lp ls => ?_)
    have hS : s.toInt.toNat ≤ 1 := by omega
    have hsz := hz a
    have ei := itF_cong (so := so) (pl := σ (85 + s.toInt.toNat)) (pl' := fun i => τ 104 (16 * s.toInt.toNat + i)) (n0 := σ 45 0) (p0 := σ 46) (s0 := σ 47) (σ 83 s.toInt.toNat).toInt.toNat (fun j hj => by
      show τ 104 (16 * s.toInt.toNat + j) = _
      rw [hA 104 rfl]
      exact sh_num hsh hS (by omega))
    rw [f48, f120, f121, f103, ei] at lz lp ls ⊢
    refine ⟨⟨_, rfl, rfl⟩, ?_⟩
    have hk := itF_ok (pl := σ (85 + s.toInt.toNat)) a.1 ⟨b7, b8⟩ b11 (σ 83 s.toInt.toNat).toInt.toNat
    generalize itF so (σ (85 + s.toInt.toNat)) (σ 45 0) (σ 46) (σ 47) (σ 83 s.toInt.toNat).toInt.toNat = z at *
    have hAg : Ag [45, 46, 47, 88, 120, 121] σ υ := Ag.tr (Ag.wk hA rfl) (Ag.wk kA rfl)
    have g45 : υ 45 = τ 45 := kA 45 rfl
    refine Inv_ba hI hAg (fun j hj => by rw [g45]; exact h0 j (fun e => by rw [e] at hj; cases hj)) (fun j hj => by rw [k0 j (fun e => by rw [e] at hj; cases hj), hA 88 rfl]) ?_
    refine c_items_ba (σ := σ) z ((kA 46 rfl).trans kp) ((kA 47 rfl).trans ks) (hAg 48 rfl) (hAg 49 rfl) (hAg 50 rfl) lp ls (hAg 122 rfl) (hAg 123 rfl) (hAg 124 rfl) (hAg 52 rfl) (hAg 53 rfl) (hAg 54 rfl) (hAg 55 rfl) (hAg 56 rfl) (hAg 57 rfl) (hAg 125 rfl) ((congrFun g45 0).trans kz) ((congrFun g45 3).trans (h0 3 (by decide))) lz ((k0 51 (by decide)).trans (congrFun (hA 88 rfl) 51)) hba hk.1 hk.2
