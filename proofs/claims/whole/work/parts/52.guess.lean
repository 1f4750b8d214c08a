def tenK : Nat → Int32
  | 0 => 1
  | 1 => 10
  | 2 => 100
  | 3 => 1000
  | _ => 10000
theorem tenK_s {k : Nat} (h : k < 4) : tenK k * 10 = tenK (k + 1) := by
  rcases (show k = 0 ∨ k = 1 ∨ k = 2 ∨ k = 3 by omega) with rfl | rfl | rfl | rfl <;> decide
theorem tenK_p {k : Nat} (h : k < 4) : (tenK k).toInt < 10000 ∧ ¬ (tenK k).toInt = 0 := by
  rcases (show k = 0 ∨ k = 1 ∨ k = 2 ∨ k = 3 by omega) with rfl | rfl | rfl | rfl <;> decide
/-- how many of the first figures differ -/
def unN (a b : Int32) : Nat → Nat
  | 0 => 0
  | n + 1 => unN a b n + (if (a / tenK n - a / tenK n / 10 * 10).toInt = (b / tenK n - b / tenK n / 10 * 10).toInt then 0 else 1)
theorem unN_e {a b : Int32} {n : Nat} (h : (a / tenK n - a / tenK n / 10 * 10).toInt = (b / tenK n - b / tenK n / 10 * 10).toInt) : unN a b (n + 1) = unN a b n := by
  unfold unN
  rw [if_pos h]
  cases n <;> rfl
theorem unN_d {a b : Int32} {n : Nat} (h : ¬ (a / tenK n - a / tenK n / 10 * 10).toInt = (b / tenK n - b / tenK n / 10 * 10).toInt) : unN a b (n + 1) = unN a b n + 1 := by
  show unN a b n + (if _ then 0 else 1) = _
  rw [if_neg h]
theorem unN_le (a b : Int32) : ∀ n, unN a b n ≤ n
  | 0 => Nat.le_refl 0
  | n + 1 => by
    have := unN_le a b n
    show unN a b n + (if _ then 0 else 1) ≤ _
    split <;> omega
theorem s_unlike {d : Nat} {σ : Mm} {Q : Qt} {a b : Int32} (hQ : Q (some (.int (nI (unN a b 4)))) σ) : Call (d + 1) k_X8_unlikeFigures [.int a, .int b] σ Q := by
  refine Call_go fun X hX => ?_
  have loop : ∀ (k i : Nat), i + k = 4 → X 7 [.int a, .int b, .int (nI (unN a b i)), .int (tenK i), .int (nI i)] [] σ := by
    intro k
    induction k with
    | zero =>
      intro i hi
      rw [Nat.add_zero] at hi
      subst hi
      have e4 : (nI 4).toInt = 4 := by decide
      refine go [7] 100 hX ?_
      refine ⟨fun c10 => ?_, fun c10 => ?_⟩
      · exfalso; (first | omega | (simp only [Int32.reduceToInt] at c10 ⊢; omega))
      · refine ⟨rfl, trivial, ?_⟩
        exact hQ
    | succ k ih =>
      intro i hi
      have e1 := nIt (n := i) (by omega)
      have t4 := tenK_p (k := i) (by omega)
      refine go [7] 100 hX ?_
      refine ⟨fun c10 => ?_, fun c10 => ?_⟩
      · refine ⟨t4.2, ?_⟩
        refine ⟨(by decide), ?_⟩
        refine ⟨t4.2, ?_⟩
        refine ⟨(by decide), ?_⟩
        refine ⟨fun c25 => ?_, fun c25 => ?_⟩
        · have ih1 := ih (i + 1) (by omega)
          rw [unN_e c25, ← tenK_s (by omega), ← nI_1 i] at ih1
          exact ih1
        · have ih1 := ih (i + 1) (by omega)
          rw [unN_d c25, ← nI_1 (unN a b i), ← tenK_s (by omega), ← nI_1 i] at ih1
          exact ih1
      · refine ⟨rfl, trivial, ?_⟩
        exfalso; (first | omega | (simp only [Int32.reduceToInt] at c10 ⊢; omega))
  refine go [7] 20 hX ?_
  exact loop 4 0 rfl
theorem m_differ {d : Nat} {σ : Mm} {Q : Qt} {a b : Int32} (hQ : Q (some (.int (nI (unN a b 4)))) σ) : Call (d + 1) k_X12_differ [.int a, .int b] σ Q := by
  refine Call_go fun X hX => ?_
  have loop : ∀ (k i : Nat), i + k = 4 → X 4 [.int a, .int b, .int (nI (unN a b i)), .int (tenK i)] [] σ := by
    intro k
    induction k with
    | zero =>
      intro i hi
      rw [Nat.add_zero] at hi
      subst hi
      have e4 : (nI 4).toInt = 4 := by decide
      refine go [4] 100 hX ?_
      refine ⟨fun c8 => ?_, fun c8 => ?_⟩
      · exfalso; exact absurd c8 (by decide)
      · refine ⟨rfl, trivial, ?_⟩
        exact hQ
    | succ k ih =>
      intro i hi
      have e1 := nIt (n := i) (by omega)
      have t4 := tenK_p (k := i) (by omega)
      refine go [4] 100 hX ?_
      refine ⟨fun c8 => ?_, fun c8 => ?_⟩
      · refine ⟨t4.2, ?_⟩
        refine ⟨(by decide), ?_⟩
        refine ⟨t4.2, ?_⟩
        refine ⟨(by decide), ?_⟩
        refine ⟨fun c24 => ?_, fun c24 => ?_⟩
        · have ih1 := ih (i + 1) (by omega)
          rw [unN_e c24, ← Int32.add_zero (nI (unN a b i)), ← tenK_s (by omega)] at ih1
          exact ih1
        · have ih1 := ih (i + 1) (by omega)
          rw [unN_d c24, ← nI_1 (unN a b i), ← tenK_s (by omega)] at ih1
          exact ih1
      · refine ⟨rfl, trivial, ?_⟩
        exfalso; (first | omega | (simp only [Int32.reduceToInt] at c8 ⊢; omega))
  refine go [4] 20 hX ?_
  exact loop 4 0 rfl
/-- how far a code is from a voucher's -/
def dfF (c : Int32) (cd lv : Nat → Int32) (v : Nat) : Nat := if (lv v).toInt = 0 then 9 else unN c (cd v) 4
def lsF (c : Int32) (cd lv : Nat → Int32) : Nat → Nat
  | 0 => 9
  | n + 1 => if dfF c cd lv n < lsF c cd lv n then dfF c cd lv n else lsF c cd lv n
theorem lsF_s (c : Int32) (cd lv : Nat → Int32) (n : Nat) : lsF c cd lv (n + 1) = if dfF c cd lv n < lsF c cd lv n then dfF c cd lv n else lsF c cd lv n := rfl
theorem lsF_le (c : Int32) (cd lv : Nat → Int32) : ∀ n, lsF c cd lv n ≤ 9
  | 0 => Nat.le_refl 9
  | n + 1 => by
    have := lsF_le c cd lv n
    rw [lsF_s]
    split <;> omega
theorem lsF_z {c : Int32} {cd lv : Nat → Int32} {i : Nat} (h : lsF c cd lv i = 0) : ∀ k, lsF c cd lv (i + k) = 0
  | 0 => h
  | k + 1 => by
    have := lsF_z h k
    show lsF c cd lv (i + k + 1) = 0
    rw [lsF_s, this]
    split <;> omega
theorem lsF_cong {c : Int32} {cd cd' lv lv' : Nat → Int32} : ∀ n, (∀ i, i < n → cd' i = cd i ∧ lv' i = lv i) → lsF c cd' lv' n = lsF c cd lv n
  | 0, _ => rfl
  | n + 1, h => by
    rw [lsF_s, lsF_s, lsF_cong n (fun i hi => h i (Nat.lt_succ_of_lt hi))]
    have e : dfF c cd' lv' n = dfF c cd lv n := by
      unfold dfF
      rw [(h n (Nat.lt_succ_self n)).1, (h n (Nat.lt_succ_self n)).2]
    rw [e]
theorem s_findCode {d : Nat} {σ : Mm} {Q : Qt} {c : Int32} (hn : 0 ≤ (σ 3 0).toInt ∧ (σ 3 0).toInt ≤ 30) (h2 : lsF c (σ 7) (σ 35) (σ 3 0).toInt.toNat = 0 → Q (some (.int 2)) σ) (h1 : lsF c (σ 7) (σ 35) (σ 3 0).toInt.toNat = 1 → Q (some (.int 1)) σ) (h0 : ¬ lsF c (σ 7) (σ 35) (σ 3 0).toInt.toNat = 0 → ¬ lsF c (σ 7) (σ 35) (σ 3 0).toInt.toNat = 1 → Q (some (.int 0)) σ) : Call (d + 2) k_X8_findCode [.ref 34, .int c] σ Q := by
  refine Call_go fun X hX => ?_
  have loop : ∀ (k i : Nat) (v4 : Value), i + k = (σ 3 0).toInt.toNat → (¬ lsF c (σ 7) (σ 35) i = 0) → X 4 [.ref 34, .int c, .int (bI (lsF c (σ 7) (σ 35) i = 1)), .int (nI i), v4] [] σ := by
    intro k
    induction k with
    | zero =>
      intro i v4 hi hnz
      rw [Nat.add_zero] at hi
      have e1 := nIt (n := i) (by omega)
      refine go [4] 100 hX ?_
      refine ⟨fun c12 => ?_, fun c12 => ?_⟩
      · exfalso; (first | omega | (simp only [Int32.reduceToInt] at c12 ⊢; omega))
      · refine ⟨rfl, trivial, ?_⟩
        by_cases q : lsF c (σ 7) (σ 35) i = 1
        · rw [bI_p q]
          exact h1 (by rw [← hi]; exact q)
        · rw [bI_n q]
          exact h0 (by rw [← hi]; exact hnz) (by rw [← hi]; exact q)
    | succ k ih =>
      intro i v4 hi hnz
      have e1 := nIt (n := i) (by omega)
      have e2 := nIn (i := i) (by omega)
      refine go [4] 100 hX ?_
      refine ⟨fun c12 => ?_, fun c12 => ?_⟩
      · refine ⟨_, _, rfl, ⟨by omega, by omega⟩, ?_⟩
        refine ⟨fun c21 => ?_, fun c21 => ?_⟩
        · refine ⟨fun z => absurd z (by decide), fun _ => ?_⟩
          refine ⟨fun z => absurd z (by decide), fun _ => ?_⟩
          have hs := lsF_s c (σ 7) (σ 35) i
          have hle := lsF_le c (σ 7) (σ 35) i
          rw [e2] at c21
          have hd : dfF c (σ 7) (σ 35) i = 9 := if_pos c21
          rw [hd, if_neg (by omega)] at hs
          have ih1 := ih (i + 1) (.int 4) (by omega) (by rw [hs]; exact hnz)
          rw [hs, ← nI_1] at ih1
          exact ih1
        · refine ⟨_, _, rfl, ⟨by omega, by omega⟩, ?_⟩
          refine ⟨rfl, ?_⟩
          refine s_unlike ?_
          refine ⟨fun c45 => ?_, fun c45 => ?_⟩
          · refine ⟨rfl, trivial, ?_⟩
            rw [e2] at c21
            have hd : dfF c (σ 7) (σ 35) i = unN c (σ 7 i) 4 := if_neg c21
            have hs := lsF_s c (σ 7) (σ 35) i
            have hu := unN_le c (σ 7 i) 4
            rw [e2] at c45
            rw [nIt (by omega)] at c45
            refine h2 ?_
            have h0 : lsF c (σ 7) (σ 35) (i + 1) = 0 := by rw [hs, hd]; split <;> omega
            have := lsF_z h0 k
            rw [show i + 1 + k = (σ 3 0).toInt.toNat by omega] at this
            exact this
          · refine ⟨fun c53 => ?_, fun c53 => ?_⟩
            · have hs := lsF_s c (σ 7) (σ 35) i
              have hle := lsF_le c (σ 7) (σ 35) i
              rw [e2] at c21
              have hd : dfF c (σ 7) (σ 35) i = unN c (σ 7 i) 4 := if_neg c21
              have hu := unN_le c (σ 7 i) 4
              rw [e2] at c45 c53
              rw [nIt (by omega)] at c45 c53
              simp only [Int32.reduceToInt] at c53
              have h1 : lsF c (σ 7) (σ 35) (i + 1) = 1 := by rw [hs, hd]; split <;> omega
              have ih1 := ih (i + 1) (.int (nI (unN c (σ 7 (nI i).toInt.toNat) 4))) (by omega) (by omega)
              rw [bI_p h1, ← nI_1] at ih1
              exact ih1
            · have hs := lsF_s c (σ 7) (σ 35) i
              have hle := lsF_le c (σ 7) (σ 35) i
              rw [e2] at c21
              have hd : dfF c (σ 7) (σ 35) i = unN c (σ 7 i) 4 := if_neg c21
              have hu := unN_le c (σ 7 i) 4
              rw [e2] at c45 c53
              rw [nIt (by omega)] at c45 c53
              simp only [Int32.reduceToInt] at c53
              have h1 : lsF c (σ 7) (σ 35) (i + 1) = 1 ↔ lsF c (σ 7) (σ 35) i = 1 := by rw [hs, hd]; split <;> omega
              have h0 : ¬ lsF c (σ 7) (σ 35) (i + 1) = 0 := by rw [hs, hd]; split <;> omega
              have ih1 := ih (i + 1) (.int (nI (unN c (σ 7 (nI i).toInt.toNat) 4))) (by omega) h0
              have hb : bI (lsF c (σ 7) (σ 35) (i + 1) = 1) = bI (lsF c (σ 7) (σ 35) i = 1) := by
                by_cases z : lsF c (σ 7) (σ 35) i = 1
                · rw [bI_p z, bI_p (h1.mpr z)]
                · rw [bI_n z, bI_n (fun w => z (h1.mp w))]
              rw [hb, ← nI_1] at ih1
              exact ih1
      · refine ⟨rfl, trivial, ?_⟩
        exfalso; (first | omega | (simp only [Int32.reduceToInt] at c12 ⊢; omega))
  refine go [4] 20 hX ?_
  have h := loop (σ 3 0).toInt.toNat 0 .null (Nat.zero_add _) (by unfold lsF; omega)
  exact h
theorem s_gapp {d : Nat} {σ : Mm} {Q : Qt} {s t w : Int32} (h0 : 0 ≤ (σ 78 0).toInt ∧ (σ 78 0).toInt < 60) (hw : isb w) (hQ : Q none (wr (wr (wr (wr σ 79 (σ 78 0).toInt.toNat s) 80 (σ 78 0).toInt.toNat t) 81 (σ 78 0).toInt.toNat w) 78 0 (σ 78 0 + 1))) : Call (d + 1) k_X2_append [.ref 78, .int s, .int t, .int w] σ Q := by
  refine Call_st 120 fun X hX => ?_
  refine ⟨fun c6 => ?_, fun c6 => ?_⟩
  · refine ⟨_, rfl, h0, ?_⟩
    refine ⟨_, rfl, h0, ?_⟩
    refine ⟨h0, hw, ?_⟩
    refine ⟨rfl, rfl, ?_⟩
    first | exact hQ | (exfalso; (first | omega | (simp only [Int32.reduceToInt] at c6 ⊢; omega)))
  · refine ⟨rfl, rfl, ?_⟩
    first | exact hQ | (exfalso; (first | omega | (simp only [Int32.reduceToInt] at c6 ⊢; omega)))
