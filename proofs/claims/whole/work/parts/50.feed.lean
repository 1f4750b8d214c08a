theorem bp_b (x : Int32) : x.toInt8.toInt32 &&& 255 = x &&& 255 := by
  apply Int32.toBitVec_inj.mp
  rw [Int32.toBitVec_and, Int32.toBitVec_and, Int8.toBitVec_toInt32, Int32.toBitVec_toInt8]
  apply BitVec.eq_of_getLsbD_eq
  intro i hi
  rw [BitVec.getLsbD_and, BitVec.getLsbD_and]
  have hm : ∀ i < 32, 8 ≤ i → (255 : Int32).toBitVec.getLsbD i = false := by decide
  rcases Nat.lt_or_ge i 8 with z | z
  · rw [BitVec.getLsbD_signExtend, BitVec.getLsbD_signExtend, if_pos z, if_pos hi]
    simp only [z, hi, decide_true, Bool.true_and]
  · rw [hm i hi z]; simp
theorem b8_rng (x : Int32) : -128 ≤ x.toInt8.toInt32.toInt ∧ x.toInt8.toInt32.toInt < 128 := by
  rw [Int8.toInt_toInt32]
  have h1 := Int8.le_toInt x.toInt8
  have h2 := Int8.toInt_lt x.toInt8
  omega
theorem b8_8 (x : Int32) : x.toInt8.toInt32.toInt8.toInt32 = x.toInt8.toInt32 := by rw [Int8.toInt8_toInt32]
def shK : Nat → Int32
  | 0 => 24
  | 1 => 16
  | 2 => 8
  | 3 => 0
  | _ => -8
theorem shK_s {k : Nat} (h : k < 4) : shK k + (-8) = shK (k + 1) := by
  rcases (show k = 0 ∨ k = 1 ∨ k = 2 ∨ k = 3 by omega) with rfl | rfl | rfl | rfl <;> decide
theorem shK_p {k : Nat} (h : k < 4) : 0 ≤ (shK k).toInt := by
  rcases (show k = 0 ∨ k = 1 ∨ k = 2 ∨ k = 3 by omega) with rfl | rfl | rfl | rfl <;> decide
theorem shm {k : Nat} (h : k < 12) : 24 - 8 * (nI k - nI k / 4 * 4) = shK (k % 4) := by
  rcases (show k = 0 ∨ k = 1 ∨ k = 2 ∨ k = 3 ∨ k = 4 ∨ k = 5 ∨ k = 6 ∨ k = 7 ∨ k = 8 ∨ k = 9 ∨ k = 10 ∨ k = 11 by omega) with rfl | rfl | rfl | rfl | rfl | rfl | rfl | rfl | rfl | rfl | rfl | rfl <;> decide
def vvF (a b c : Int32) (j : Nat) : Int32 := if j < 4 then a else if j < 8 then b else c
def rawF (a b c : Int32) (j : Nat) : Int32 := vvF a b c j >>> (shK (j % 4) &&& 31)
theorem addN {x : Int32} {n : Nat} (h0 : 0 ≤ x.toInt) (h : x.toInt + n ≤ 100000) : (x + nI n).toInt = x.toInt + n := by
  have e := nIt (n := n) (by omega)
  simp only [Int32.toInt_add, e, Int.bmod]
  omega
theorem s_putOn {d : Nat} {σ : Mm} {Q : Qt} {x : Int32} (h1 : 0 ≤ (σ 0 5).toInt) (h2 : (σ 0 5).toInt + 4 ≤ 96) (hQ : ∀ τ : Mm, Ag [0, 30] σ τ → (∀ j, j ≠ 5 → τ 0 j = σ 0 j) → τ 0 5 = σ 0 5 + nI 4 → (∀ j, j < 4 → τ 30 ((σ 0 5).toInt.toNat + j) = (x >>> (shK j &&& 31)).toInt8.toInt32) → (∀ j, j < (σ 0 5).toInt.toNat ∨ (σ 0 5).toInt.toNat + 4 ≤ j → τ 30 j = σ 30 j) → Q none τ) : Call (d + 1) k_X11_putOnTape [.ref 0, .int x] σ Q := by
  refine Call_go fun X hX => ?_
  have loop : ∀ (k i : Nat) (τ : Mm), i + k = 4 → Ag [0, 30] σ τ → (∀ j, j ≠ 5 → τ 0 j = σ 0 j) → τ 0 5 = σ 0 5 + nI i → (∀ j, j < i → τ 30 ((σ 0 5).toInt.toNat + j) = (x >>> (shK j &&& 31)).toInt8.toInt32) → (∀ j, j < (σ 0 5).toInt.toNat ∨ (σ 0 5).toInt.toNat + i ≤ j → τ 30 j = σ 30 j) → X 3 [.ref 0, .int x, .int (shK i)] [] τ := by
    intro k
    induction k with
    | zero =>
      intro i τ hi hA h0 hz hb ho
      rw [Nat.add_zero] at hi
      subst hi
      refine go [3] 100 hX ?_
      refine ⟨fun c4 => ?_, fun c4 => ?_⟩
      · refine ⟨rfl, rfl, ?_⟩
        exact hQ τ hA h0 hz hb ho
      · exfalso; exact c4 (by decide)
    | succ k ih =>
      intro i τ hi hA h0 hz hb ho
      have e0 : (τ 0 5).toInt = (σ 0 5).toInt + i := by rw [hz, addN h1 (by omega)]
      have eN : (τ 0 5).toInt.toNat = (σ 0 5).toInt.toNat + i := by omega
      have e4 := shK_p (k := i) (by omega)
      refine go [3] 100 hX ?_
      refine ⟨fun c4 => ?_, fun c4 => ?_⟩
      · refine ⟨rfl, rfl, ?_⟩
        exfalso; (first | omega | (simp only [Int32.reduceToInt] at c4 ⊢; omega))
      · refine ⟨fun c13 => ?_, fun c13 => ?_⟩
        · refine ⟨⟨by omega, by omega⟩, ?_⟩
          have es := shK_s (k := i) (by omega)
          refine (fun ih1 => ?_) (ih (i + 1) (wr (wr τ 30 (τ 0 5).toInt.toNat (x >>> (shK i &&& 31)).toInt8.toInt32.toInt8.toInt32) 0 5 (τ 0 5 + 1)) (by omega) (Ag.wr (Ag.wr hA rfl) rfl) (fun j hj => (pk_un hj).trans (h0 j hj)) ?_ (fun j hj => ?_) (fun j hj => ?_))
          · rw [← es] at ih1
            exact ih1
          · show τ 0 5 + 1 = _
            rw [hz, ← nI_1, Int32.add_assoc]
          · show upd (τ 30) (τ 0 5).toInt.toNat (x >>> (shK i &&& 31)).toInt8.toInt32.toInt8.toInt32 _ = _
            rw [eN, b8_8]
            by_cases q : j = i
            · rw [q]; exact pk_us
            · rw [pk_un (by omega)]; exact hb j (by omega)
          · show upd (τ 30) (τ 0 5).toInt.toNat (x >>> (shK i &&& 31)).toInt8.toInt32.toInt8.toInt32 _ = _
            rw [eN, pk_un (by omega)]
            exact ho j (by omega)
        · refine ⟨rfl, rfl, ?_⟩
          exfalso; (first | omega | (simp only [Int32.reduceToInt] at c4 c13 ⊢; omega))
  refine go [3] 20 hX ?_
  exact loop 4 0 σ rfl Ag.rf (fun _ _ => rfl) (Int32.add_zero _).symm (fun j hj => by omega) (fun j _ => rfl)
theorem cs_feed {d : Nat} {σ : Mm} {Q : Qt} {a b c : Int32} (h0 : 0 ≤ (σ 0 5).toInt) (h9 : (σ 0 5).toInt ≤ 96) (h1 : 96 < (σ 0 5).toInt + 12 → Q (some (.int (-1000000003))) σ) (h2 : (σ 0 5).toInt + 12 ≤ 96 → ∀ τ : Mm, Ag [0, 30] σ τ → (∀ j, j ≠ 5 → τ 0 j = σ 0 j) → τ 0 5 = σ 0 5 + nI 12 → (∀ j, j < 12 → τ 30 ((σ 0 5).toInt.toNat + j) = (rawF a b c j).toInt8.toInt32) → (∀ j, j < (σ 0 5).toInt.toNat ∨ (σ 0 5).toInt.toNat + 12 ≤ j → τ 30 j = σ 30 j) → Q (some (.int (τ 0 5))) τ) : Call (d + 2) k_X11_feed [.ref 0, .int a, .int b, .int c] σ Q := by
  have e12 : (σ 0 5 + 12).toInt = (σ 0 5).toInt + 12 := addN (n := 12) h0 (by omega)
  refine Call_st 120 fun X hX => ?_
  refine ⟨fun c9 => ?_, fun c9 => ?_⟩
  · refine ⟨rfl, trivial, ?_⟩
    exact h1 (by (first | omega | (simp only [Int32.reduceToInt] at c9 ⊢; omega)))
  · simp only [Int32.reduceToInt] at c9
    refine ⟨rfl, rfl, ?_⟩
    refine s_putOn (by omega) (by (first | omega | (simp only [Int32.reduceToInt] at c9 ⊢; omega))) (fun h17a h17b h17c h17d h17e h17f => ?_)
    refine ⟨rfl, rfl, ?_⟩
    refine s_putOn (by rw [h17d, addN h0 (by (first | omega | (simp only [Int32.reduceToInt] at c9 h17a h17b h17c h17d h17e h17f ⊢; omega)))]; omega) (by rw [h17d, addN h0 (by (first | omega | (simp only [Int32.reduceToInt] at c9 h17a h17b h17c h17d h17e h17f ⊢; omega)))]; (first | omega | (simp only [Int32.reduceToInt] at c9 h17a h17b h17c h17d h17e h17f ⊢; omega))) (fun h22a h22b h22c h22d h22e h22f => ?_)
    refine ⟨rfl, rfl, ?_⟩
    refine s_putOn (by have n0 : (h17a 0 5).toInt = (σ 0 5).toInt + 4 := (by rw [h17d]; exact addN h0 (by (first | omega | (simp only [Int32.reduceToInt] at c9 h17a h17b h17c h17d h17e h17f h22a h22b h22c h22d h22e h22f ⊢; omega)))); rw [h22d, addN (by omega) (by (first | omega | (simp only [Int32.reduceToInt] at c9 h17a h17b h17c h17d h17e h17f h22a h22b h22c h22d h22e h22f ⊢; omega)))]; omega) (by have n0 : (h17a 0 5).toInt = (σ 0 5).toInt + 4 := (by rw [h17d]; exact addN h0 (by (first | omega | (simp only [Int32.reduceToInt] at c9 h17a h17b h17c h17d h17e h17f h22a h22b h22c h22d h22e h22f ⊢; omega)))); rw [h22d, addN (by omega) (by (first | omega | (simp only [Int32.reduceToInt] at c9 h17a h17b h17c h17d h17e h17f h22a h22b h22c h22d h22e h22f ⊢; omega)))]; (first | omega | (simp only [Int32.reduceToInt] at c9 h17a h17b h17c h17d h17e h17f h22a h22b h22c h22d h22e h22f ⊢; omega))) (fun h27a h27b h27c h27d h27e h27f => ?_)
    refine ⟨rfl, trivial, ?_⟩
    have n0 : (h17a 0 5).toInt = (σ 0 5).toInt + 4 := by rw [h17d]; exact addN h0 (by omega)
    have n1 : (h22a 0 5).toInt = (σ 0 5).toInt + 8 := by rw [h22d, addN (by omega) (by omega)]; omega
    have hA := Ag.tr h17b (Ag.tr h22b h27b)
    refine h2 (by omega) h27a hA (fun j hj => (h27c j hj).trans ((h22c j hj).trans (h17c j hj))) ?_ (fun j hj => ?_) (fun j hj => ?_)
    · rw [h27d, h22d, h17d, Int32.add_assoc, Int32.add_assoc]
      rfl
    · unfold rawF vvF
      by_cases q : j < 4
      · rw [if_pos q, Nat.mod_eq_of_lt q, h27f _ (by omega), h22f _ (by omega)]
        exact h17e j q
      · rw [if_neg q]
        by_cases r : j < 8
        · rw [if_pos r, h27f _ (by omega), show j % 4 = j - 4 by omega]
          have := h22e (j - 4) (by omega)
          rw [show (h17a 0 5).toInt.toNat + (j - 4) = (σ 0 5).toInt.toNat + j by omega] at this
          exact this
        · rw [if_neg r, show j % 4 = j - 8 by omega]
          have := h27e (j - 8) (by omega)
          rw [show (h22a 0 5).toInt.toNat + (j - 8) = (σ 0 5).toInt.toNat + j by omega] at this
          exact this
    · rw [h27f _ (by omega), h22f _ (by omega)]
      exact h17f j (by omega)
theorem ms_feed {d : Nat} {σ : Mm} {Q : Qt} {a b c : Int32} (h0 : 0 ≤ (σ 88 36).toInt) (h9 : (σ 88 36).toInt ≤ 96) (h1 : 96 < (σ 88 36).toInt + 12 → Q (some (.int (-1000000003))) σ) (h2 : (σ 88 36).toInt + 12 ≤ 96 → ∀ τ : Mm, Ag [88, 118] σ τ → (∀ j, j ≠ 36 → τ 88 j = σ 88 j) → τ 88 36 = σ 88 36 + nI 12 → (∀ j, j < 12 → τ 118 ((σ 88 36).toInt.toNat + j) = rawF a b c j &&& 255) → (∀ j, j < (σ 88 36).toInt.toNat ∨ (σ 88 36).toInt.toNat + 12 ≤ j → τ 118 j = σ 118 j) → Q (some (.int (τ 88 36))) τ) : Call (d + 2) k_X12_feed [.ref 88, .int a, .int b, .int c] σ Q := by
  refine Call_go fun X hX => ?_
  have e12 : (σ 88 36 + 12).toInt = (σ 88 36).toInt + 12 := addN (n := 12) h0 (by omega)
  have loop : (σ 88 36).toInt + 12 ≤ 96 → ∀ (k i : Nat) (τ : Mm) (v5 : Value), i + k = 12 → Ag [88, 118] σ τ → (∀ j, j ≠ 36 → τ 88 j = σ 88 j) → τ 88 36 = σ 88 36 + nI i → (∀ j, j < i → τ 118 ((σ 88 36).toInt.toNat + j) = rawF a b c j &&& 255) → (∀ j, j < (σ 88 36).toInt.toNat ∨ (σ 88 36).toInt.toNat + i ≤ j → τ 118 j = σ 118 j) → X 18 [.ref 88, .int a, .int b, .int c, .int (nI i), v5] [] τ := by
    intro hok k
    induction k with
    | zero =>
      intro i τ v5 hi hA h8 hz hb ho
      rw [Nat.add_zero] at hi
      subst hi
      have e1 : (nI 12).toInt = 12 := by decide
      refine go [18] 100 hX ?_
      refine ⟨fun c22 => ?_, fun c22 => ?_⟩
      · exfalso; (first | omega | (simp only [Int32.reduceToInt] at c22 ⊢; omega))
      · refine ⟨rfl, trivial, ?_⟩
        exact h2 hok τ hA h8 hz hb ho
    | succ k ih =>
      intro i τ v5 hi hA h8 hz hb ho
      have e0 : (τ 88 36).toInt = (σ 88 36).toInt + i := by rw [hz, addN h0 (by omega)]
      have eN : (τ 88 36).toInt.toNat = (σ 88 36).toInt.toNat + i := by omega
      have e1 := nIt (n := i) (by omega)
      refine go [18] 100 hX ?_
      refine ⟨fun c22 => ?_, fun c22 => ?_⟩
      · refine ⟨fun c28 => ?_, fun c28 => ?_⟩
        · refine ⟨(by decide), ?_⟩
          refine ⟨_, rfl, ⟨by omega, by omega⟩, ?_⟩
          simp only [Int32.reduceToInt] at c22 c28
          have ev : vvF a b c i = a := if_pos (by omega)
          have esh := shm (k := i) (by omega)
          have er : a >>> ((24 - 8 * (nI i - nI i / 4 * 4)) &&& 31) &&& 255 = rawF a b c i &&& 255 := by rw [esh, rawF, ev]
          refine (fun ih1 => ?_) (ih (i + 1) (wr (wr τ 118 (τ 88 36).toInt.toNat (a >>> ((24 - 8 * (nI i - nI i / 4 * 4)) &&& 31) &&& 255)) 88 36 (τ 88 36 + 1)) (.int a) (by omega) (Ag.wr (Ag.wr hA rfl) rfl) (fun j hj => (pk_un hj).trans (h8 j hj)) ?_ (fun j hj => ?_) (fun j hj => ?_))
          · rw [← nI_1] at ih1
            exact ih1
          · show τ 88 36 + 1 = _
            rw [hz, ← nI_1, Int32.add_assoc]
          · show upd (τ 118) (τ 88 36).toInt.toNat _ _ = _
            rw [eN, er]
            by_cases q : j = i
            · rw [q]; exact pk_us
            · rw [pk_un (by omega)]; exact hb j (by omega)
          · show upd (τ 118) (τ 88 36).toInt.toNat _ _ = _
            rw [eN, pk_un (by omega)]
            exact ho j (by omega)
        · refine ⟨fun c39 => ?_, fun c39 => ?_⟩
          · refine ⟨(by decide), ?_⟩
            refine ⟨_, rfl, ⟨by omega, by omega⟩, ?_⟩
            simp only [Int32.reduceToInt] at c22 c28 c39
            have ev : vvF a b c i = b := (if_neg (by omega)).trans (if_pos (by omega))
            have esh := shm (k := i) (by omega)
            have er : b >>> ((24 - 8 * (nI i - nI i / 4 * 4)) &&& 31) &&& 255 = rawF a b c i &&& 255 := by rw [esh, rawF, ev]
            refine (fun ih1 => ?_) (ih (i + 1) (wr (wr τ 118 (τ 88 36).toInt.toNat (b >>> ((24 - 8 * (nI i - nI i / 4 * 4)) &&& 31) &&& 255)) 88 36 (τ 88 36 + 1)) (.int b) (by omega) (Ag.wr (Ag.wr hA rfl) rfl) (fun j hj => (pk_un hj).trans (h8 j hj)) ?_ (fun j hj => ?_) (fun j hj => ?_))
            · rw [← nI_1] at ih1
              exact ih1
            · show τ 88 36 + 1 = _
              rw [hz, ← nI_1, Int32.add_assoc]
            · show upd (τ 118) (τ 88 36).toInt.toNat _ _ = _
              rw [eN, er]
              by_cases q : j = i
              · rw [q]; exact pk_us
              · rw [pk_un (by omega)]; exact hb j (by omega)
            · show upd (τ 118) (τ 88 36).toInt.toNat _ _ = _
              rw [eN, pk_un (by omega)]
              exact ho j (by omega)
          · refine ⟨(by decide), ?_⟩
            refine ⟨_, rfl, ⟨by omega, by omega⟩, ?_⟩
            simp only [Int32.reduceToInt] at c22 c28 c39
            have ev : vvF a b c i = c := (if_neg (by omega)).trans (if_neg (by omega))
            have esh := shm (k := i) (by omega)
            have er : c >>> ((24 - 8 * (nI i - nI i / 4 * 4)) &&& 31) &&& 255 = rawF a b c i &&& 255 := by rw [esh, rawF, ev]
            refine (fun ih1 => ?_) (ih (i + 1) (wr (wr τ 118 (τ 88 36).toInt.toNat (c >>> ((24 - 8 * (nI i - nI i / 4 * 4)) &&& 31) &&& 255)) 88 36 (τ 88 36 + 1)) (.int c) (by omega) (Ag.wr (Ag.wr hA rfl) rfl) (fun j hj => (pk_un hj).trans (h8 j hj)) ?_ (fun j hj => ?_) (fun j hj => ?_))
            · rw [← nI_1] at ih1
              exact ih1
            · show τ 88 36 + 1 = _
              rw [hz, ← nI_1, Int32.add_assoc]
            · show upd (τ 118) (τ 88 36).toInt.toNat _ _ = _
              rw [eN, er]
              by_cases q : j = i
              · rw [q]; exact pk_us
              · rw [pk_un (by omega)]; exact hb j (by omega)
            · show upd (τ 118) (τ 88 36).toInt.toNat _ _ = _
              rw [eN, pk_un (by omega)]
              exact ho j (by omega)
      · refine ⟨rfl, trivial, ?_⟩
        exfalso; (first | omega | (simp only [Int32.reduceToInt] at c22 ⊢; omega))
  refine go [18] 30 hX ?_
  refine ⟨fun c9 => ?_, fun c9 => ?_⟩
  · refine ⟨rfl, trivial, ?_⟩
    exact h1 (by (first | omega | (simp only [Int32.reduceToInt] at c9 ⊢; omega)))
  · exact loop (by (first | omega | (simp only [Int32.reduceToInt] at c9 ⊢; omega))) 12 0 σ .null rfl Ag.rf (fun _ _ => rfl) (Int32.add_zero _).symm (fun j hj => by omega) (fun j _ => rfl)
theorem Inv_ta {σ τ : Mm} (hI : Inv σ) (h : Ag [0, 30, 88, 118] σ τ) (hO0 : ∀ j, cu [5] j = false → τ 0 j = σ 0 j) (hO88 : ∀ j, cu [36] j = false → τ 88 j = σ 88 j) (nI_ta : I_ta τ) : Inv τ := ⟨(I_tr_fr (σ := σ) (h 2 rfl) (h 89 rfl) (congrFun (h 1 rfl) 0) (congrFun (h 1 rfl) 1) (congrFun (h 1 rfl) 2) (hO88 0 rfl) (hO88 1 rfl) (hO88 2 rfl) hI.1),
  (I_vo_fr (σ := σ) (h 4 rfl) (h 5 rfl) (h 6 rfl) (h 7 rfl) (h 8 rfl) (h 9 rfl) (h 90 rfl) (h 91 rfl) (h 92 rfl) (h 93 rfl) (h 94 rfl) (h 95 rfl) (congrFun (h 3 rfl) 0) (hO88 4 rfl) (congrFun (h 1 rfl) 1) hI.2.1),
  (I_li_fr (σ := σ) (h 9 rfl) (h 11 rfl) (h 12 rfl) (h 13 rfl) (h 14 rfl) (h 15 rfl) (h 16 rfl) (h 17 rfl) (h 96 rfl) (h 97 rfl) (h 98 rfl) (h 99 rfl) (h 100 rfl) (h 101 rfl) (h 102 rfl) (congrFun (h 10 rfl) 0) (congrFun (h 10 rfl) 1) (hO88 11 rfl) (congrFun (h 1 rfl) 0) (congrFun (h 1 rfl) 2) (congrFun (h 3 rfl) 0) hI.2.2.1),
  (I_or_fr (σ := σ) (h 13 rfl) (h 18 rfl) (congrFun (h 10 rfl) 0) hI.2.2.2.1),
  nI_ta,
  (I_ba_fr (σ := σ) (h 46 rfl) (h 47 rfl) (h 48 rfl) (h 49 rfl) (h 50 rfl) (h 120 rfl) (h 121 rfl) (h 122 rfl) (h 123 rfl) (h 124 rfl) (h 52 rfl) (h 53 rfl) (h 54 rfl) (h 55 rfl) (h 56 rfl) (h 57 rfl) (h 125 rfl) (congrFun (h 45 rfl) 0) (congrFun (h 45 rfl) 3) (hO88 48 rfl) (hO88 51 rfl) hI.2.2.2.2.2.1),
  (I_ex_fr (σ := σ) (h 73 rfl) (h 74 rfl) (h 75 rfl) (h 76 rfl) (h 77 rfl) (h 131 rfl) (h 132 rfl) (h 133 rfl) (h 134 rfl) (congrFun (h 71 rfl) 0) (hO88 65 rfl) hI.2.2.2.2.2.2.1),
  (I_gu_fr (σ := σ) (h 79 rfl) (h 80 rfl) (h 81 rfl) (h 136 rfl) (h 137 rfl) (h 138 rfl) (congrFun (h 78 rfl) 0) (congrFun (h 78 rfl) 1) (hO88 71 rfl) (hO88 72 rfl) hI.2.2.2.2.2.2.2.1),
  (I_sh_fr (σ := σ) (h 83 rfl) (h 85 rfl) (h 86 rfl) (h 103 rfl) (h 104 rfl) hI.2.2.2.2.2.2.2.2.1),
  (I_wa_fr (σ := σ) (h 87 rfl) (h 130 rfl) (hO0 14 rfl) (hO88 64 rfl) hI.2.2.2.2.2.2.2.2.2.1),
  (I_la_fr (σ := σ) (h 20 rfl) (h 22 rfl) (h 23 rfl) (h 24 rfl) (h 26 rfl) (h 27 rfl) (h 28 rfl) (h 110 rfl) (h 111 rfl) (h 112 rfl) (h 113 rfl) hI.2.2.2.2.2.2.2.2.2.2.1),
  (I_he_fr (σ := σ) (h 119 rfl) hI.2.2.2.2.2.2.2.2.2.2.2)⟩
theorem op_feed {σ : Mm} {a b c : Int32} (hI : Inv σ) : Call 120 k_X11_feed [.ref 0, .int a, .int b, .int c] σ (fun r τ => Call 120 k_X12_feed [.ref 88, .int a, .int b, .int c] τ (fun r' τ' => (∃ x : Int32, r = some (.int x) ∧ r' = some (.int x)) ∧ Inv τ')) := by
  obtain ⟨a0, ⟨a1, a2⟩, a3⟩ := hI.2.2.2.2.1
  have q0 : (σ 88 36).toInt = (σ 0 5).toInt := by rw [a0]
  refine cs_feed a1 a2 (fun q => ?_) (fun q τ hA h0 hz hb ho => ?_)
  · exact ms_feed (by omega) (by omega) (fun _ => ⟨⟨_, rfl, rfl⟩, hI⟩) (fun z => absurd q (by omega))
  · have f88 : τ 88 = σ 88 := hA 88 rfl
    have f118 : τ 118 = σ 118 := hA 118 rfl
    have q1 : (τ 88 36).toInt = (σ 0 5).toInt := by rw [f88, a0]
    have q1' : τ 88 36 = σ 0 5 := by rw [f88, a0]
    refine ms_feed (by omega) (by omega) (fun z => absurd z (by omega)) (fun _ υ kA k0 kz kb ko => ⟨⟨_, rfl, vI_ ?_⟩, ?_⟩)
    · rw [kz, hz, q1']
    · have hAg : Ag [0, 30, 88, 118] σ υ := Ag.tr (Ag.wk hA rfl) (Ag.wk kA rfl)
      have g0 : υ 0 = τ 0 := kA 0 rfl
      have g30 : υ 30 = τ 30 := kA 30 rfl
      have e5 : υ 0 5 = σ 0 5 + nI 12 := by rw [g0, hz]
      refine Inv_ta hI hAg (fun j hj => by rw [g0]; exact h0 j (fun e => by rw [e] at hj; cases hj)) (fun j hj => by rw [k0 j (fun e => by rw [e] at hj; cases hj), f88]) ⟨?_, ⟨?_, ?_⟩, fun i hi => ?_⟩
      · rw [kz, e5, q1']
      · rw [e5, addN a1 (by omega)]; omega
      · rw [e5, addN a1 (by omega)]; omega
      · rw [g30]
        by_cases r : i < (σ 0 5).toInt.toNat ∨ (σ 0 5).toInt.toNat + 12 ≤ i
        · rw [ho i r, ko i (by omega), f118]
          exact a3 i hi
        · have h1 := hb (i - (σ 0 5).toInt.toNat) (by omega)
          have h2 := kb (i - (σ 0 5).toInt.toNat) (by omega)
          rw [show (σ 0 5).toInt.toNat + (i - (σ 0 5).toInt.toNat) = i by omega] at h1
          rw [show (τ 88 36).toInt.toNat + (i - (σ 0 5).toInt.toNat) = i by omega] at h2
          rw [h1, h2, bp_b]
          exact ⟨rfl, b8_rng _⟩
