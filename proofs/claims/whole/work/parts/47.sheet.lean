theorem s_withinK {d : Nat} {σ : Mm} {Q : Qt} {x lo hi : Int32} {l h : Int} (e1 : lo.toInt = l) (e2 : hi.toInt = h) (hQ : Q (some (.int (bI (l ≤ x.toInt ∧ x.toInt ≤ h)))) σ) : Call (d + 1) k_X11_within [.int x, .int lo, .int hi] σ Q := s_within (bI_e hQ (by rw [e1, e2]))
theorem m_isInK {d : Nat} {σ : Mm} {Q : Qt} {x lo hi : Int32} {l h : Int} (e1 : lo.toInt = l) (e2 : hi.toInt = h) (hQ : Q (some (.int (bI (l ≤ x.toInt ∧ x.toInt ≤ h)))) σ) : Call (d + 1) k_X12_isIn [.int x, .int lo, .int hi] σ Q := m_isIn (bI_e hQ (by rw [e1, e2]))
theorem Inv_sh {σ τ : Mm} (hI : Inv σ) (h : Ag [83, 85, 86, 103, 104, 139] σ τ) (nI_sh : I_sh τ) : Inv τ := ⟨(I_tr_fr (σ := σ) (h 2 rfl) (h 89 rfl) (congrFun (h 1 rfl) 0) (congrFun (h 1 rfl) 1) (congrFun (h 1 rfl) 2) (congrFun (h 88 rfl) 0) (congrFun (h 88 rfl) 1) (congrFun (h 88 rfl) 2) hI.1),
  (I_vo_fr (σ := σ) (h 4 rfl) (h 5 rfl) (h 6 rfl) (h 7 rfl) (h 8 rfl) (h 9 rfl) (h 90 rfl) (h 91 rfl) (h 92 rfl) (h 93 rfl) (h 94 rfl) (h 95 rfl) (congrFun (h 3 rfl) 0) (congrFun (h 88 rfl) 4) (congrFun (h 1 rfl) 1) hI.2.1),
  (I_li_fr (σ := σ) (h 9 rfl) (h 11 rfl) (h 12 rfl) (h 13 rfl) (h 14 rfl) (h 15 rfl) (h 16 rfl) (h 17 rfl) (h 96 rfl) (h 97 rfl) (h 98 rfl) (h 99 rfl) (h 100 rfl) (h 101 rfl) (h 102 rfl) (congrFun (h 10 rfl) 0) (congrFun (h 10 rfl) 1) (congrFun (h 88 rfl) 11) (congrFun (h 1 rfl) 0) (congrFun (h 1 rfl) 2) (congrFun (h 3 rfl) 0) hI.2.2.1),
  (I_or_fr (σ := σ) (h 13 rfl) (h 18 rfl) (congrFun (h 10 rfl) 0) hI.2.2.2.1),
  (I_ta_fr (σ := σ) (h 30 rfl) (h 118 rfl) (congrFun (h 0 rfl) 5) (congrFun (h 88 rfl) 36) hI.2.2.2.2.1),
  (I_ba_fr (σ := σ) (h 46 rfl) (h 47 rfl) (h 48 rfl) (h 49 rfl) (h 50 rfl) (h 120 rfl) (h 121 rfl) (h 122 rfl) (h 123 rfl) (h 124 rfl) (h 52 rfl) (h 53 rfl) (h 54 rfl) (h 55 rfl) (h 56 rfl) (h 57 rfl) (h 125 rfl) (congrFun (h 45 rfl) 0) (congrFun (h 45 rfl) 3) (congrFun (h 88 rfl) 48) (congrFun (h 88 rfl) 51) hI.2.2.2.2.2.1),
  (I_ex_fr (σ := σ) (h 73 rfl) (h 74 rfl) (h 75 rfl) (h 76 rfl) (h 77 rfl) (h 131 rfl) (h 132 rfl) (h 133 rfl) (h 134 rfl) (congrFun (h 71 rfl) 0) (congrFun (h 88 rfl) 65) hI.2.2.2.2.2.2.1),
  (I_gu_fr (σ := σ) (h 79 rfl) (h 80 rfl) (h 81 rfl) (h 136 rfl) (h 137 rfl) (h 138 rfl) (congrFun (h 78 rfl) 0) (congrFun (h 78 rfl) 1) (congrFun (h 88 rfl) 71) (congrFun (h 88 rfl) 72) hI.2.2.2.2.2.2.2.1),
  nI_sh,
  (I_wa_fr (σ := σ) (h 87 rfl) (h 130 rfl) (congrFun (h 0 rfl) 14) (congrFun (h 88 rfl) 64) hI.2.2.2.2.2.2.2.2.2.1),
  (I_la_fr (σ := σ) (h 20 rfl) (h 22 rfl) (h 23 rfl) (h 24 rfl) (h 26 rfl) (h 27 rfl) (h 28 rfl) (h 110 rfl) (h 111 rfl) (h 112 rfl) (h 113 rfl) hI.2.2.2.2.2.2.2.2.2.2.1),
  (I_he_fr (σ := σ) (h 119 rfl) hI.2.2.2.2.2.2.2.2.2.2.2)⟩
theorem s_fillS {d : Nat} {σ : Mm} {Q : Qt} {a n : Nat} {x : Int32} (hs : shN 3 a = some n) (hn : n < 1000) (hQ : ∀ g, (∀ i, i < n → g i = x.toInt16.toInt32) → Q none (up σ a g)) : Call (d + 1) k_J7_fill_fb410 [.ref a, .int x] σ Q := by
  refine Call_go fun X hX => ?_
  have loop : ∀ (k i : Nat) (g : Nat → Int32), i + k = n → (∀ j, j < i → g j = x.toInt16.toInt32) → X 5 [.ref a, .int x, .int (nI i), .int (nI n)] [] (up σ a g) := by
    intro k
    induction k with
    | zero =>
      intro i g hi hg
      rw [Nat.add_zero] at hi
      subst hi
      refine go [5] 100 hX ?_
      refine ⟨fun c7 => absurd c7 (Int.lt_irrefl _), fun c7 => ?_⟩
      refine ⟨rfl, rfl, hQ g hg⟩
    | succ k ih =>
      intro i g hi hg
      have e1 := nIt (n := i) (by omega)
      have e2 := nIt (n := n) (by omega)
      have e3 := nIn (i := i) (by omega)
      refine go [5] 100 hX ?_
      refine ⟨fun c7 => ?_, fun c7 => absurd (by omega) c7⟩
      refine ⟨_, hs, ⟨by omega, by omega⟩, ?_⟩
      have ih1 := ih (i + 1) (upd g i x.toInt16.toInt32) (by omega) (fun j hj => by
        unfold upd
        split
        · rfl
        · exact hg j (by omega))
      have em : wr (up σ a g) a (nI i).toInt.toNat x.toInt16.toInt32 = up σ a (upd g i x.toInt16.toInt32) := by rw [wr, up_up, up_k, e3]
      rw [← em, ← nI_1] at ih1
      exact ih1
  refine go [5] 20 hX ?_
  refine ⟨_, rdN_row hs, ?_⟩
  have := loop n 0 (σ a) (Nat.zero_add _) (fun j hj => by omega)
  rw [up_id] at this
  exact this
theorem I_sh_mk {τ : Mm} (e : τ 103 = τ 83) (hr : ∀ S, S ≤ 1 → -1 ≤ (τ 83 S).toInt ∧ (τ 83 S).toInt ≤ 16) (hp : ∀ S, S ≤ 1 → ∀ i, i < 16 → τ 104 (16 * S + i) = τ (85 + S) i) : I_sh τ := by
  refine ⟨e, ⟨hr 0 (by decide), hr 1 (by decide)⟩, fun i hi => ⟨?_, hp 1 (by decide) i hi⟩⟩
  have := hp 0 (by decide) i hi
  rw [Nat.mul_zero, Nat.zero_add] at this
  exact this
theorem ag_sh {L : List Nat} {σ τ : Mm} {S : Nat} {g : Nat → Int32} (h : Ag L σ τ) (hS : S ≤ 1) (h5 : cu L 85 = true) (h6 : cu L 86 = true) : Ag L σ (up τ (85 + S) g) := by
  rcases (show S = 0 ∨ S = 1 by omega) with rfl | rfl
  · exact Ag.up h h5
  · exact Ag.up h h6
theorem s16_16 (x : Int32) : x.toInt16.toInt32.toInt16.toInt32 = x.toInt16.toInt32 := by rw [Int16.toInt16_toInt32]
theorem cs_sheet {d : Nat} {σ : Mm} {Q : Qt} {s n : Int32} (h1 : ¬ (0 ≤ s.toInt ∧ s.toInt ≤ 1 ∧ n.toInt ≤ 16) → Q (some (.int (-1000000001))) σ) (h2 : (0 ≤ s.toInt ∧ s.toInt ≤ 1) → n.toInt < 0 → Q (some (.int (-1000000014))) σ) (h3 : (0 ≤ s.toInt ∧ s.toInt ≤ 1) → (0 ≤ n.toInt ∧ n.toInt ≤ 16) → ∀ g, (∀ i, i < 16 → g i = 0) → Q (some (.int n)) (wr (up σ (85 + s.toInt.toNat) g) 83 s.toInt.toNat n)) : Call (d + 2) k_X11_sheet [.ref 0, .int s, .int n] σ Q := by
  refine Call_st 120 fun X hX => ?_
  refine ⟨rfl, ?_⟩
  refine s_withinK (l := 0) (h := 1) (by decide) (by decide) ?_
  refine ⟨fun c6 => ?_, fun c6 => ?_⟩
  · replace c6 := bI_z c6
    refine ⟨rfl, trivial, ?_⟩
    exact h1 (by (first | omega | (simp only [Int32.reduceToInt] at c6 ⊢; omega)))
  · replace c6 := bI_nz c6
    refine ⟨fun c12 => ?_, fun c12 => ?_⟩
    · refine ⟨rfl, trivial, ?_⟩
      exact h1 (by (first | omega | (simp only [Int32.reduceToInt] at c6 c12 ⊢; omega)))
    · refine ⟨fun c19 => ?_, fun c19 => ?_⟩
      · refine ⟨rfl, trivial, ?_⟩
        exact h2 (by (first | omega | (simp only [Int32.reduceToInt] at c6 c12 c19 ⊢; omega))) (by (first | omega | (simp only [Int32.reduceToInt] at c6 c12 c19 ⊢; omega)))
      · refine ⟨_, _, rfl, (by refine ⟨?_, ?_⟩ <;> (first | omega | (simp only [Int32.reduceToInt] at c6 c12 c19 ⊢; omega))), ?_⟩
        refine ⟨rfl, ?_⟩
        refine s_fillS (rw85 (by (first | omega | (simp only [Int32.reduceToInt] at c6 c12 c19 ⊢; omega)))) (by decide) (fun h36a h36b => ?_)
        refine ⟨_, rfl, (by refine ⟨?_, ?_⟩ <;> (first | omega | (simp only [Int32.reduceToInt] at c6 c12 c19 h36a h36b ⊢; omega))), ?_⟩
        refine ⟨rfl, trivial, ?_⟩
        exact h3 (by (first | omega | (simp only [Int32.reduceToInt] at c6 c12 c19 h36a h36b ⊢; omega))) (by (first | omega | (simp only [Int32.reduceToInt] at c6 c12 c19 h36a h36b ⊢; omega))) h36a (fun i hi => (h36b i hi).trans (by decide))
theorem up_id' {σ : Mm} {k : Nat} {g : Nat → Int32} (h : σ k = g) : up σ k g = σ := by rw [← h]; exact up_id
theorem ms_sheet {d : Nat} {σ : Mm} {Q : Qt} {s n : Int32} (h1 : ¬ (0 ≤ s.toInt ∧ s.toInt ≤ 1 ∧ n.toInt ≤ 16) → Q (some (.int (-1000000001))) σ) (h2 : (0 ≤ s.toInt ∧ s.toInt ≤ 1) → n.toInt < 0 → Q (some (.int (-1000000014))) σ) (h3 : (0 ≤ s.toInt ∧ s.toInt ≤ 1) → (0 ≤ n.toInt ∧ n.toInt ≤ 16) → ∀ g : Nat → Int32, (∀ i, i < 16 → g (16 * s.toInt.toNat + i) = 0) → (∀ j, j < 16 * s.toInt.toNat ∨ 16 * s.toInt.toNat + 16 ≤ j → g j = σ 104 j) → Q (some (.int n)) (up (wr σ 103 s.toInt.toNat n) 104 g)) : Call (d + 3) k_X12_sheet [.ref 88, .int s, .int n] σ Q := by
  refine Call_go fun X hX => ?_
  have loop : (0 ≤ s.toInt ∧ s.toInt ≤ 1) → (0 ≤ n.toInt ∧ n.toInt ≤ 16) → ∀ (k i : Nat) (g : Nat → Int32), i + k = 16 → (∀ j, j < i → g (16 * s.toInt.toNat + j) = 0) → (∀ j, j < 16 * s.toInt.toNat ∨ 16 * s.toInt.toNat + 16 ≤ j → g j = σ 104 j) → X 33 [.ref 88, .int s, .int n, .int (nI i)] [] (up (wr σ 103 s.toInt.toNat n) 104 g) := by
    intro hs hn k
    induction k with
    | zero =>
      intro i g hi hz ho
      rw [Nat.add_zero] at hi
      have e1 := nIt (n := i) (by omega)
      refine go [33] 100 hX ?_
      refine ⟨fun c36 => ?_, fun c36 => ?_⟩
      · exfalso; (first | omega | (simp only [Int32.reduceToInt] at c36 ⊢; omega))
      · refine ⟨rfl, trivial, ?_⟩
        exact h3 hs hn g (fun j hj => hz j (by omega)) ho
    | succ k ih =>
      intro i g hi hz ho
      have e1 := nIt (n := i) (by omega)
      have e2 := nIn (i := i) (by omega)
      refine go [33] 100 hX ?_
      refine ⟨fun c36 => ?_, fun c36 => ?_⟩
      · refine ⟨_, rfl, (by unfold ixs; rw [ix16 hs (by omega)]; constructor <;> omega), ?_⟩
        have ih1 := ih (i + 1) (upd g (16 * s.toInt.toNat + i) 0) (by omega) (fun j hj => by
          by_cases q : j = i
          · rw [q]; exact pk_us
          · rw [pk_un (by omega)]; exact hz j (by omega)) (fun j hj => by rw [pk_un (by omega)]; exact ho j hj)
        have em : wr (up (wr σ 103 s.toInt.toNat n) 104 g) 104 (16 * s + nI i).toInt.toNat 0 = up (wr σ 103 s.toInt.toNat n) 104 (upd g (16 * s.toInt.toNat + i) 0) := by
          rw [wr, up_up, up_k, ix16 hs (by omega)]
          congr 2
          omega
        rw [← em, ← nI_1] at ih1
        exact ih1
      · exfalso; (first | omega | (simp only [Int32.reduceToInt] at c36 ⊢; omega))
  refine go [33] 60 hX ?_
  refine ⟨rfl, ?_⟩
  refine m_isSheet ?_
  refine ⟨fun c4 => ?_, fun c4 => ?_⟩
  · replace c4 := bI_z c4
    refine ⟨rfl, trivial, ?_⟩
    exact h1 (by (first | omega | (simp only [Int32.reduceToInt] at c4 ⊢; omega)))
  · replace c4 := bI_nz c4
    refine ⟨fun c10 => ?_, fun c10 => ?_⟩
    · refine ⟨rfl, trivial, ?_⟩
      exact h1 (by (first | omega | (simp only [Int32.reduceToInt] at c4 c10 ⊢; omega)))
    · refine ⟨fun c17 => ?_, fun c17 => ?_⟩
      · refine ⟨rfl, trivial, ?_⟩
        exact h2 (by (first | omega | (simp only [Int32.reduceToInt] at c4 c10 c17 ⊢; omega))) (by (first | omega | (simp only [Int32.reduceToInt] at c4 c10 c17 ⊢; omega)))
      · refine ⟨_, rfl, (by refine ⟨?_, ?_⟩ <;> (first | omega | (simp only [Int32.reduceToInt] at c4 c10 c17 ⊢; omega))), ?_⟩
        have h0 := loop (by (first | omega | (simp only [Int32.reduceToInt] at c4 c10 c17 ⊢; omega))) (by (first | omega | (simp only [Int32.reduceToInt] at c4 c10 c17 ⊢; omega))) 16 0 (σ 104) rfl (fun j hj => by omega) (fun j hj => rfl)
        rw [up_id' (σ := wr σ 103 s.toInt.toNat n) (k := 104) (g := σ 104) rfl] at h0
        exact h0
theorem op_sheet {σ : Mm} {s n : Int32} (hI : Inv σ) : Call 120 k_X11_sheet [.ref 0, .int s, .int n] σ (fun r τ => Call 120 k_X12_sheet [.ref 88, .int s, .int n] τ (fun r' τ' => (∃ x : Int32, r = some (.int x) ∧ r' = some (.int x)) ∧ Inv τ')) := by
  refine cs_sheet (fun c => ?_) (fun a b => ?_) (fun a b g hg => ?_)
  · exact ms_sheet (fun _ => ⟨⟨_, rfl, rfl⟩, hI⟩) (fun a b => absurd ⟨a.1, a.2, by omega⟩ c) (fun a b _ _ _ => absurd ⟨a.1, a.2, b.2⟩ c)
  · exact ms_sheet (fun c => absurd ⟨a.1, a.2, by omega⟩ c) (fun _ _ => ⟨⟨_, rfl, rfl⟩, hI⟩) (fun _ b2 => absurd b2.1 (by omega))
  · refine ms_sheet (fun c => absurd ⟨a.1, a.2, b.2⟩ c) (fun _ b2 => absurd b.1 (by omega)) (fun _ _ h hh ho => ⟨⟨_, rfl, rfl⟩, ?_⟩)
    have hsh := hI.2.2.2.2.2.2.2.2.1
    have hS : s.toInt.toNat ≤ 1 := by omega
    generalize s.toInt.toNat = S at *
    refine Inv_sh hI (Ag.up (Ag.wr (Ag.wr (ag_sh Ag.rf hS rfl rfl) rfl) rfl) rfl) (I_sh_mk ?_ (fun T hT => ?_) (fun T hT i hi => ?_))
    · have e1 : up (wr (wr (up σ (85 + S) g) 83 S n) 103 S n) 104 h 103 = upd (σ 103) S n := by rw [up_c (by decide), wr_k, wr_c (by decide), up_c (by omega)]
      have e2 : up (wr (wr (up σ (85 + S) g) 83 S n) 103 S n) 104 h 83 = upd (σ 83) S n := by rw [up_c (by decide), wr_c (by decide), wr_k, up_c (by omega)]
      rw [e1, e2, hsh.1]
    · rw [up_c (by decide), wr_c (by decide), wr_k, up_c (by omega)]
      unfold upd
      split
      · omega
      · exact sz_rng hsh hT
    · rw [up_k, up_c (by omega), wr_c (by omega), wr_c (by omega)]
      by_cases q : T = S
      · rw [q, up_k, hh i hi, hg i hi]
      · rw [up_c (by omega), ho _ (by omega), wr_c (by decide), up_c (by omega)]
        exact sh_num hsh hT hi
theorem cs_mark {d : Nat} {σ : Mm} {Q : Qt} {s p v : Int32} (hz : (0 ≤ s.toInt ∧ s.toInt ≤ 1) → -1 ≤ (σ 83 s.toInt.toNat).toInt ∧ (σ 83 s.toInt.toNat).toInt ≤ 16) (h1 : ¬ (0 ≤ s.toInt ∧ s.toInt ≤ 1) → Q (some (.int (-1000000001))) σ) (h2 : (0 ≤ s.toInt ∧ s.toInt ≤ 1) → (σ 83 s.toInt.toNat).toInt < 0 → Q (some (.int (-1000000011))) σ) (h3 : (0 ≤ s.toInt ∧ s.toInt ≤ 1) → 0 ≤ (σ 83 s.toInt.toNat).toInt → ¬ (0 ≤ p.toInt ∧ p.toInt < (σ 83 s.toInt.toNat).toInt) → Q (some (.int (-1000000013))) σ) (h4 : (0 ≤ s.toInt ∧ s.toInt ≤ 1) → (0 ≤ p.toInt ∧ p.toInt < (σ 83 s.toInt.toNat).toInt) → Q (some (.int (σ (85 + s.toInt.toNat) p.toInt.toNat))) (wr σ (85 + s.toInt.toNat) p.toInt.toNat v.toInt16.toInt32)) : Call (d + 2) k_X11_mark [.ref 0, .int s, .int p, .int v] σ Q := by
  refine Call_st 120 fun X hX => ?_
  refine ⟨rfl, ?_⟩
  refine s_withinK (l := 0) (h := 1) (by decide) (by decide) ?_
  refine ⟨fun c6 => ?_, fun c6 => ?_⟩
  · replace c6 := bI_z c6
    refine ⟨rfl, trivial, ?_⟩
    exact h1 (by (first | omega | (simp only [Int32.reduceToInt] at c6 ⊢; omega)))
  · replace c6 := bI_nz c6
    refine ⟨rfl, rfl, ?_⟩
    refine s_isMissing (by (first | omega | (simp only [Int32.reduceToInt] at c6 ⊢; omega))) ?_
    refine ⟨fun c20 => ?_, fun c20 => ?_⟩
    · replace c20 := bI_z c20
      have hz0 := hz (by (first | omega | (simp only [Int32.reduceToInt] at c6 c20 ⊢; omega)))
      have es : (σ 83 s.toInt.toNat - 1).toInt = (σ 83 s.toInt.toNat).toInt - 1 := sub1 (by omega)
      refine ⟨_, _, rfl, (by refine ⟨?_, ?_⟩ <;> (first | omega | (simp only [Int32.reduceToInt] at c6 c20 ⊢; omega))), ?_⟩
      refine ⟨rfl, ?_⟩
      refine s_within ?_
      refine ⟨fun c43 => ?_, fun c43 => ?_⟩
      · replace c43 := bI_z c43
        refine ⟨rfl, trivial, ?_⟩
        exact h3 (by (first | omega | (simp only [Int32.reduceToInt] at c6 c20 c43 ⊢; omega))) (by (first | omega | (simp only [Int32.reduceToInt] at c6 c20 c43 ⊢; omega))) (by (first | omega | (simp only [Int32.reduceToInt] at c6 c20 c43 ⊢; omega)))
      · replace c43 := bI_nz c43
        simp only [Int32.reduceToInt] at c43
        refine ⟨_, _, rfl, (by refine ⟨?_, ?_⟩ <;> (first | omega | (simp only [Int32.reduceToInt] at c6 c20 c43 ⊢; omega))), ?_⟩
        refine ⟨_, (rw85 (by omega)), (by refine ⟨?_, ?_⟩ <;> (first | omega | (simp only [Int32.reduceToInt] at c6 c20 c43 ⊢; omega))), ?_⟩
        refine ⟨_, _, rfl, (by refine ⟨?_, ?_⟩ <;> (first | omega | (simp only [Int32.reduceToInt] at c6 c20 c43 ⊢; omega))), ?_⟩
        refine ⟨_, (rw85 (by omega)), (by refine ⟨?_, ?_⟩ <;> (first | omega | (simp only [Int32.reduceToInt] at c6 c20 c43 ⊢; omega))), ?_⟩
        refine ⟨rfl, trivial, ?_⟩
        refine Qe (h4 (by (first | omega | (simp only [Int32.reduceToInt] at c6 c20 c43 ⊢; omega))) (by (first | omega | (simp only [Int32.reduceToInt] at c6 c20 c43 ⊢; omega)))) rfl ?_
        rw [s16_16]
    · replace c20 := bI_nz c20
      refine ⟨rfl, trivial, ?_⟩
      have hz0 := hz (by (first | omega | (simp only [Int32.reduceToInt] at c6 c20 ⊢; omega)))
      exact h2 (by (first | omega | (simp only [Int32.reduceToInt] at c6 c20 ⊢; omega))) (by (first | omega | (simp only [Int32.reduceToInt] at c6 c20 ⊢; omega)))
theorem ms_mark {d : Nat} {σ : Mm} {Q : Qt} {s p v : Int32} (hz : (0 ≤ s.toInt ∧ s.toInt ≤ 1) → -1 ≤ (σ 103 s.toInt.toNat).toInt ∧ (σ 103 s.toInt.toNat).toInt ≤ 16) (h1 : ¬ (0 ≤ s.toInt ∧ s.toInt ≤ 1) → Q (some (.int (-1000000001))) σ) (h2 : (0 ≤ s.toInt ∧ s.toInt ≤ 1) → (σ 103 s.toInt.toNat).toInt < 0 → Q (some (.int (-1000000011))) σ) (h3 : (0 ≤ s.toInt ∧ s.toInt ≤ 1) → 0 ≤ (σ 103 s.toInt.toNat).toInt → ¬ (0 ≤ p.toInt ∧ p.toInt < (σ 103 s.toInt.toNat).toInt) → Q (some (.int (-1000000013))) σ) (h4 : (0 ≤ s.toInt ∧ s.toInt ≤ 1) → (0 ≤ p.toInt ∧ p.toInt < (σ 103 s.toInt.toNat).toInt) → Q (some (.int (σ 104 (16 * s.toInt.toNat + p.toInt.toNat)))) (wr σ 104 (16 * s.toInt.toNat + p.toInt.toNat) v.toInt16.toInt32)) : Call (d + 3) k_X12_mark [.ref 88, .int s, .int p, .int v] σ Q := by
  refine Call_st 120 fun X hX => ?_
  refine ⟨rfl, ?_⟩
  refine m_isSheet ?_
  refine ⟨fun c4 => ?_, fun c4 => ?_⟩
  · replace c4 := bI_z c4
    refine ⟨rfl, trivial, ?_⟩
    exact h1 (by (first | omega | (simp only [Int32.reduceToInt] at c4 ⊢; omega)))
  · replace c4 := bI_nz c4
    refine ⟨_, _, rfl, (by refine ⟨?_, ?_⟩ <;> (first | omega | (simp only [Int32.reduceToInt] at c4 ⊢; omega))), ?_⟩
    refine ⟨fun c16 => ?_, fun c16 => ?_⟩
    · refine ⟨rfl, trivial, ?_⟩
      exact h2 (by (first | omega | (simp only [Int32.reduceToInt] at c4 c16 ⊢; omega))) (by (first | omega | (simp only [Int32.reduceToInt] at c4 c16 ⊢; omega)))
    · have hz0 := hz (by (first | omega | (simp only [Int32.reduceToInt] at c4 c16 ⊢; omega)))
      have es : (σ 103 s.toInt.toNat - 1).toInt = (σ 103 s.toInt.toNat).toInt - 1 := sub1 (by omega)
      refine ⟨_, _, rfl, (by refine ⟨?_, ?_⟩ <;> (first | omega | (simp only [Int32.reduceToInt] at c4 c16 ⊢; omega))), ?_⟩
      refine ⟨rfl, ?_⟩
      refine m_isIn ?_
      refine ⟨fun c36 => ?_, fun c36 => ?_⟩
      · replace c36 := bI_z c36
        refine ⟨rfl, trivial, ?_⟩
        exact h3 (by (first | omega | (simp only [Int32.reduceToInt] at c4 c16 c36 ⊢; omega))) (by (first | omega | (simp only [Int32.reduceToInt] at c4 c16 c36 ⊢; omega))) (by (first | omega | (simp only [Int32.reduceToInt] at c4 c16 c36 ⊢; omega)))
      · replace c36 := bI_nz c36
        simp only [Int32.reduceToInt] at c36
        refine ⟨_, _, rfl, (by unfold ixs; rw [ix16 (by (first | omega | (simp only [Int32.reduceToInt] at c4 c16 c36 ⊢; omega))) (by (first | omega | (simp only [Int32.reduceToInt] at c4 c16 c36 ⊢; omega)))]; constructor <;> omega), ?_⟩
        refine ⟨_, rfl, (by unfold ixs; rw [ix16 (by (first | omega | (simp only [Int32.reduceToInt] at c4 c16 c36 ⊢; omega))) (by (first | omega | (simp only [Int32.reduceToInt] at c4 c16 c36 ⊢; omega)))]; constructor <;> omega), ?_⟩
        refine ⟨rfl, trivial, ?_⟩
        have e : (16 * s + p).toInt.toNat = 16 * s.toInt.toNat + p.toInt.toNat := by rw [ix16 (by (first | omega | (simp only [Int32.reduceToInt] at c4 c16 c36 ⊢; omega))) (by (first | omega | (simp only [Int32.reduceToInt] at c4 c16 c36 ⊢; omega)))]; omega
        have h5 := h4 (by (first | omega | (simp only [Int32.reduceToInt] at c4 c16 c36 ⊢; omega))) (by (first | omega | (simp only [Int32.reduceToInt] at c4 c16 c36 ⊢; omega)))
        rw [← e] at h5
        exact h5
theorem op_mark {σ : Mm} {s p v : Int32} (hI : Inv σ) : Call 120 k_X11_mark [.ref 0, .int s, .int p, .int v] σ (fun r τ => Call 120 k_X12_mark [.ref 88, .int s, .int p, .int v] τ (fun r' τ' => (∃ x : Int32, r = some (.int x) ∧ r' = some (.int x)) ∧ Inv τ')) := by
  have hsh := hI.2.2.2.2.2.2.2.2.1
  have hz : ∀ {τ : Mm}, τ 103 = σ 103 → (0 ≤ s.toInt ∧ s.toInt ≤ 1) → -1 ≤ (τ 103 s.toInt.toNat).toInt ∧ (τ 103 s.toInt.toNat).toInt ≤ 16 := fun e q => by
    rw [e, hsh.1]
    exact sz_rng hsh (by omega)
  have e3 : (σ 103 s.toInt.toNat).toInt = (σ 83 s.toInt.toNat).toInt := by rw [hsh.1]
  refine cs_mark (fun q => sz_rng hsh (by omega)) (fun c => ?_) (fun a b => ?_) (fun a b c => ?_) (fun a b => ?_)
  · exact ms_mark (hz rfl) (fun _ => ⟨⟨_, rfl, rfl⟩, hI⟩) (fun a _ => absurd a c) (fun a _ _ => absurd a c) (fun a _ => absurd a c)
  · exact ms_mark (hz rfl) (fun c => absurd a c) (fun _ _ => ⟨⟨_, rfl, rfl⟩, hI⟩) (fun _ c _ => absurd b (by omega)) (fun _ c => absurd b (by omega))
  · exact ms_mark (hz rfl) (fun c => absurd a c) (fun _ q => absurd b (by omega)) (fun _ _ _ => ⟨⟨_, rfl, rfl⟩, hI⟩) (fun _ q => absurd q (by omega))
  · have hS : s.toInt.toNat ≤ 1 := by omega
    have hP : p.toInt.toNat < 16 := by have := sz_rng hsh hS; omega
    have g3 : wr σ (85 + s.toInt.toNat) p.toInt.toNat v.toInt16.toInt32 103 = σ 103 := wr_c (by omega)
    have g3' : (wr σ (85 + s.toInt.toNat) p.toInt.toNat v.toInt16.toInt32 103 s.toInt.toNat).toInt = (σ 83 s.toInt.toNat).toInt := by rw [g3, e3]
    refine ms_mark (hz g3) (fun c => absurd a c) (fun _ q => absurd q (by omega)) (fun _ _ q => absurd q (by omega)) (fun _ _ => ?_)
    refine ⟨⟨_, rfl, vI_ ?_⟩, ?_⟩
    · rw [wr_c (by omega)]
      exact sh_num hsh hS hP
    · generalize s.toInt.toNat = S at *
      generalize p.toInt.toNat = P at *
      refine Inv_sh hI (Ag.wr (ag_sh Ag.rf hS rfl rfl) rfl) (I_sh_mk ?_ (fun T hT => ?_) (fun T hT i hi => ?_))
      · rw [wr_c (by decide), wr_c (by omega), wr_c (by decide), wr_c (by omega)]
        exact hsh.1
      · rw [wr_c (by decide), wr_c (by omega)]
        exact sz_rng hsh hT
      · rw [wr_k, wr_c (k := 104) (by omega), wr_c (j := 104) (by omega)]
        by_cases q : T = S
        · rw [q, wr_k]
          unfold upd
          by_cases r : i = P
          · rw [if_pos (by omega), if_pos r]
          · rw [if_neg (by omega), if_neg r]
            exact sh_num hsh hS hi
        · rw [wr_c (by omega), pk_un (by omega)]
          exact sh_num hsh hT hi
