theorem insL_out {ab : Nat → Int32} {x : Int32} : ∀ (p : Nat) (g : Nat → Int32) (i : Nat), p < i → insL ab x g p i = g i
  | 0, g, i, h => pk_un (by omega)
  | p + 1, g, i, h => by
    unfold insL
    split
    · rw [insL_out p _ i (by omega)]; exact pk_un (by omega)
    · exact pk_un (by omega)
theorem insL_in {ab : Nat → Int32} {x : Int32} {P : Int32 → Prop} (hx : P x) : ∀ (p : Nat) (g : Nat → Int32), (∀ i, i < p → P (g i)) → ∀ i, i ≤ p → P (insL ab x g p i)
  | 0, g, h, i, hi => by
    have : i = 0 := by omega
    subst this
    unfold insL
    rw [pk_us]; exact hx
  | p + 1, g, h, i, hi => by
    unfold insL
    split
    · by_cases q : i = p + 1
      · rw [insL_out p _ i (by omega), q, pk_us]; exact h p (by omega)
      · exact insL_in hx p _ (fun j hj => by rw [pk_un (by omega)]; exact h j (by omega)) i (by omega)
    · by_cases q : i = p + 1
      · rw [q, pk_us]; exact hx
      · rw [pk_un q]; exact h i (by omega)
theorem insL_cong {ab ab' : Nat → Int32} {x : Int32} (hx : ab' x.toInt.toNat = ab x.toInt.toNat) : ∀ (p : Nat) (g : Nat → Int32), (∀ i, i < p → ab' (g i).toInt.toNat = ab (g i).toInt.toNat) → insL ab' x g p = insL ab x g p
  | 0, g, _ => rfl
  | p + 1, g, h => by
    unfold insL
    rw [hx, h p (by omega), insL_cong hx p _ (fun i hi => by rw [pk_un (by omega)]; exact h i (by omega))]
theorem ordA_in (ab : Nat → Int32) : ∀ (n i : Nat), i < n → ∃ j, j < n ∧ ordA ab n i = nI j
  | 0, i, h => by omega
  | n + 1, i, h => insL_in (P := fun z => ∃ j, j < n + 1 ∧ z = nI j) ⟨n, by omega, rfl⟩ n (ordA ab n) (fun k hk => by
    obtain ⟨j, h1, h2⟩ := ordA_in ab n k hk
    exact ⟨j, by omega, h2⟩) i (by omega)
theorem ordA_cong {ab ab' : Nat → Int32} : ∀ (n : Nat), n ≤ 1000 → (∀ i, i < n → ab' i = ab i) → ordA ab' n = ordA ab n
  | 0, _, _ => rfl
  | n + 1, hn, h => by
    unfold ordA
    rw [ordA_cong n (by omega) (fun i hi => h i (by omega))]
    refine insL_cong ?_ n _ (fun i hi => ?_)
    · rw [nIn (by omega)]; exact h n (by omega)
    · obtain ⟨j, h1, h2⟩ := ordA_in ab n i hi
      rw [h2, nIn (by omega)]; exact h j (by omega)
theorem ordA_rng {ab : Nat → Int32} {n : Nat} (hn : n ≤ 100) (i : Nat) (hi : i < n) : 0 ≤ (ordA ab n i).toInt ∧ (ordA ab n i).toInt < n := by
  obtain ⟨j, h1, h2⟩ := ordA_in ab n i hi
  rw [h2, nIt (by omega)]
  omega
theorem s_putInOrder {d : Nat} {σ : Mm} {Q : Qt} {x : Nat} (hx : x < 100) (hr : ∀ i : Nat, i < x → 0 ≤ (σ 18 i).toInt ∧ (σ 18 i).toInt < 100) (hQ : Q none (up σ 18 (insL (σ 13) (nI x) (σ 18) x))) : Call (d + 1) k_X5_putInOrder [.ref 10, .int (nI x)] σ Q := by
  refine Call_go fun X hX => ?_
  have e := nIt (n := x) (by omega)
  have loop : ∀ (p : Nat) (g : Nat → Int32), p ≤ x → (∀ i : Nat, i < p → 0 ≤ (g i).toInt ∧ (g i).toInt < (100 : Nat)) → Q none (up σ 18 (insL (σ 13) (nI x) g p)) → X 2 [.ref 10, .int (nI x), .int (nI p)] [] (up σ 18 g) := by
    intro p
    induction p with
    | zero =>
      intro g hp hg hQ
      have ep := nIt (n := 0) (by omega)
      refine go [2] 100 hX ?_
      refine ⟨fun c3 => ?_, fun c3 => ?_⟩
      · refine ⟨_, _, rfl, (by exfalso; omega), ?_⟩
        refine ⟨_, _, rfl, (by exfalso; omega), ?_⟩
        refine ⟨_, _, rfl, (by exfalso; omega), ?_⟩
        refine ⟨fun c25 => ?_, fun c25 => ?_⟩
        · refine ⟨_, _, rfl, (by exfalso; omega), ?_⟩
          refine ⟨_, rfl, (by exfalso; omega), ?_⟩
          exfalso; omega
        · refine ⟨_, rfl, ⟨by omega, by omega⟩, ?_⟩
          refine ⟨rfl, rfl, ?_⟩
          first
          | (exfalso; omega)
          | (refine Qe hQ rfl ?_
             show wr (up σ 18 g) 18 (nI 0).toInt.toNat (nI x) = up σ 18 (upd g 0 (nI x))
             rw [nIn (by omega), wr, up_up]
             rfl)
      · refine ⟨_, rfl, ⟨by omega, by omega⟩, ?_⟩
        refine ⟨rfl, rfl, ?_⟩
        first
        | (exfalso; omega)
        | (refine Qe hQ rfl ?_
           show wr (up σ 18 g) 18 (nI 0).toInt.toNat (nI x) = up σ 18 (upd g 0 (nI x))
           rw [nIn (by omega), wr, up_up]
           rfl)
    | succ p ih =>
      intro g hp hg hQ
      have ep := nIt (n := p + 1) (by omega)
      have ep2 := nIt (n := p) (by omega)
      have f13 : up σ 18 g 13 = σ 13 := rfl
      have f18 : up σ 18 g 18 = g := rfl
      refine go [2] 100 hX ?_
      refine ⟨fun c3 => ?_, fun c3 => ?_⟩
      · refine ⟨_, _, rfl, (by rw [nI_pred]; exact ⟨by omega, by omega⟩), ?_⟩
        refine ⟨_, _, rfl, (by rw [nI_pred, nIn (by omega)]; exact hg p (by omega)), ?_⟩
        refine ⟨_, _, rfl, ⟨by omega, by omega⟩, ?_⟩
        refine ⟨fun c25 => ?_, fun c25 => ?_⟩
        · refine ⟨_, _, rfl, (by rw [nI_pred]; exact ⟨by omega, by omega⟩), ?_⟩
          refine ⟨_, rfl, ⟨by omega, by omega⟩, ?_⟩
          have c25' := c25
          simp only [f13, f18, nI_pred, nIn (show p < 2147483648 by omega), nIn (show x < 2147483648 by omega)] at c25'
          have ih1 := ih (upd g (p + 1) (g p)) (by omega) (fun i hi => by rw [pk_un (by omega)]; exact hg i (by omega)) (by unfold insL at hQ; rw [nIn (by omega), if_pos c25'] at hQ; exact hQ)
          have em : wr (up σ 18 g) 18 (nI (p + 1)).toInt.toNat (up σ 18 g 18 (nI (p + 1) - 1).toInt.toNat) = up σ 18 (upd g (p + 1) (g p)) := by
            rw [nI_pred, nIn (by omega), nIn (by omega), wr, up_up]
            rfl
          rw [← em, ← pk_m1 p] at ih1
          exact ih1
        · refine ⟨_, rfl, ⟨by omega, by omega⟩, ?_⟩
          refine ⟨rfl, rfl, ?_⟩
          first
          | (exfalso; omega)
          | (refine Qe hQ rfl ?_
             simp only [f13, f18, nI_pred, nIn (show p < 2147483648 by omega), nIn (show x < 2147483648 by omega)] at c25
             unfold insL
             rw [nIn (show x < 2147483648 by omega), if_neg c25]
             show wr (up σ 18 g) 18 (nI (p + 1)).toInt.toNat (nI x) = up σ 18 (upd g (p + 1) (nI x))
             rw [nIn (by omega), wr, up_up]
             rfl)
      · refine ⟨_, rfl, ⟨by omega, by omega⟩, ?_⟩
        refine ⟨rfl, rfl, ?_⟩
        first
        | (exfalso; omega)
        | (refine Qe hQ rfl ?_
           simp only [f13, f18, nI_pred, nIn (show p < 2147483648 by omega), nIn (show x < 2147483648 by omega)] at c25
           unfold insL
           rw [nIn (show x < 2147483648 by omega), if_neg c25]
           show wr (up σ 18 g) 18 (nI (p + 1)).toInt.toNat (nI x) = up σ 18 (upd g (p + 1) (nI x))
           rw [nIn (by omega), wr, up_up]
           rfl)
  refine go [2] 20 hX ?_
  have := loop x (σ 18) (Nat.le_refl x) hr hQ
  rw [up_id] at this
  exact this
/-- one more line, in the class and in the reference -/
def LA (σ : Mm) (k v a t s p : Int32) : Mm := wr (up (wr (wr (wr (wr (wr (wr (wr σ 11 (σ 10 0).toInt.toNat k) 12 (σ 10 0).toInt.toNat v) 13 (σ 10 0).toInt.toNat a) 14 (σ 10 0).toInt.toNat t) 15 (σ 10 0).toInt.toNat (-1000000005)) 16 (σ 10 0).toInt.toNat s) 17 (σ 10 0).toInt.toNat p) 18 (insL (upd (σ 13) (σ 10 0).toInt.toNat a) (nI (σ 10 0).toInt.toNat) (σ 18) (σ 10 0).toInt.toNat)) 10 0 (σ 10 0 + 1)
def MA (σ : Mm) (k v a s w : Int32) : Mm := wr (wr (wr (wr (wr (wr (wr (wr σ 96 (σ 88 11).toInt.toNat k) 97 (σ 88 11).toInt.toNat v) 98 (σ 88 11).toInt.toNat a) 99 (σ 88 11).toInt.toNat (σ 88 0)) 100 (σ 88 11).toInt.toNat (-1)) 101 (σ 88 11).toInt.toNat s) 102 (σ 88 11).toInt.toNat w) 88 11 (σ 88 11 + 1)
theorem put_at {d : Nat} {σ : Mm} {Q : Qt} {y : Int32} {n : Nat} (hy : nI n = y) (hx : n < 100) (hr : ∀ i : Nat, i < n → 0 ≤ (σ 18 i).toInt ∧ (σ 18 i).toInt < 100) (hQ : Q none (up σ 18 (insL (σ 13) (nI n) (σ 18) n))) : Call (d + 1) k_X5_putInOrder [.ref 10, .int y] σ Q := by
  subst hy
  exact s_putInOrder hx hr hQ
theorem s_lapp {d : Nat} {σ : Mm} {Q : Qt} {k v a t s p : Int32} (h0 : 0 ≤ (σ 10 0).toInt) (h1 : (σ 10 0).toInt < 100) (hr : ∀ i : Nat, i < (σ 10 0).toInt.toNat → 0 ≤ (σ 18 i).toInt ∧ (σ 18 i).toInt < 100) (hQ : Q (some (.int (σ 10 0))) (LA σ k v a t s p)) : Call (d + 2) k_X5_append [.ref 10, .int k, .int v, .int a, .int t, .int s, .int p] σ Q := by
  refine Call_st 120 fun X hX => ?_
  refine ⟨rfl, rfl, ?_⟩
  refine s_lfull ?_
  refine ⟨fun c4 => ?_, fun c4 => ?_⟩
  · refine ⟨_, rfl, ⟨h0, h1⟩, ?_⟩
    refine ⟨_, rfl, ⟨h0, h1⟩, ?_⟩
    refine ⟨_, rfl, ⟨h0, h1⟩, ?_⟩
    refine ⟨_, rfl, ⟨h0, h1⟩, ?_⟩
    refine ⟨_, rfl, ⟨h0, h1⟩, ?_⟩
    refine ⟨_, rfl, ⟨h0, h1⟩, ?_⟩
    refine ⟨_, rfl, ⟨h0, h1⟩, ?_⟩
    refine ⟨rfl, rfl, ?_⟩
    have hn := nIx h0
    refine put_at (n := (σ 10 0).toInt.toNat) hn (by omega) hr ?_
    refine ⟨rfl, trivial, ?_⟩
    refine Qe hQ ?_ rfl
    exact vI_ (as1 _)
  · replace c4 := bI_nz c4
    exfalso; omega
theorem m_comes {d : Nat} {σ : Mm} {Q : Qt} {k v a s w : Int32} (h0 : 0 ≤ (σ 88 11).toInt) (h1 : (σ 88 11).toInt ≤ 100) (hF : (σ 88 11).toInt = 100 → Q (some (.int (-1000000003))) σ) (hS : (σ 88 11).toInt < 100 → Q (some (.int (σ 88 11))) (MA σ k v a s w)) : Call (d + 1) k_X12_comes [.ref 88, .int k, .int v, .int a, .int s, .int w] σ Q := by
  refine Call_st 120 fun X hX => ?_
  refine ⟨fun c6 => ?_, fun c6 => ?_⟩
  · refine ⟨rfl, trivial, ?_⟩
    first | exact hF (by (first | omega | (simp only [Int32.reduceToInt] at c6 ⊢; omega))) | (refine Qe (hS (by (first | omega | (simp only [Int32.reduceToInt] at c6 ⊢; omega)))) ?_ rfl; exact vI_ (as1 _))
  · refine ⟨_, rfl, ⟨h0, (by (first | omega | (simp only [Int32.reduceToInt] at c6 ⊢; omega)) : (σ 88 11).toInt < 100)⟩, ?_⟩
    refine ⟨_, rfl, ⟨h0, (by (first | omega | (simp only [Int32.reduceToInt] at c6 ⊢; omega)) : (σ 88 11).toInt < 100)⟩, ?_⟩
    refine ⟨_, rfl, ⟨h0, (by (first | omega | (simp only [Int32.reduceToInt] at c6 ⊢; omega)) : (σ 88 11).toInt < 100)⟩, ?_⟩
    refine ⟨_, rfl, ⟨h0, (by (first | omega | (simp only [Int32.reduceToInt] at c6 ⊢; omega)) : (σ 88 11).toInt < 100)⟩, ?_⟩
    refine ⟨_, rfl, ⟨h0, (by (first | omega | (simp only [Int32.reduceToInt] at c6 ⊢; omega)) : (σ 88 11).toInt < 100)⟩, ?_⟩
    refine ⟨_, rfl, ⟨h0, (by (first | omega | (simp only [Int32.reduceToInt] at c6 ⊢; omega)) : (σ 88 11).toInt < 100)⟩, ?_⟩
    refine ⟨_, rfl, ⟨h0, (by (first | omega | (simp only [Int32.reduceToInt] at c6 ⊢; omega)) : (σ 88 11).toInt < 100)⟩, ?_⟩
    refine ⟨rfl, trivial, ?_⟩
    first | exact hF (by (first | omega | (simp only [Int32.reduceToInt] at c6 ⊢; omega))) | (refine Qe (hS (by (first | omega | (simp only [Int32.reduceToInt] at c6 ⊢; omega)))) ?_ rfl; exact vI_ (as1 _))
theorem s_tellLine {d : Nat} {σ : Mm} {Q : Qt} {k v p s a : Int32} (h0 : 0 ≤ (σ 10 0).toInt) (hr : ∀ i : Nat, i < (σ 10 0).toInt.toNat → 0 ≤ (σ 18 i).toInt ∧ (σ 18 i).toInt < 100) (hB : ¬ ((0 ≤ v.toInt ∧ v.toInt < (σ 3 0).toInt) ∧ (0 ≤ a.toInt ∧ a.toInt ≤ (σ 1 0).toInt)) → Q (some (.int (-1000000001))) σ) (hF : ((0 ≤ v.toInt ∧ v.toInt < (σ 3 0).toInt) ∧ (0 ≤ a.toInt ∧ a.toInt ≤ (σ 1 0).toInt)) → 100 ≤ (σ 10 0).toInt → Q (some (.int (-1000000003))) σ) (hS : ((0 ≤ v.toInt ∧ v.toInt < (σ 3 0).toInt) ∧ (0 ≤ a.toInt ∧ a.toInt ≤ (σ 1 0).toInt)) → (σ 10 0).toInt < 100 → Q (some (.int (σ 10 0))) (LA σ k v a (σ 1 0) s p)) : Call (d + 3) k_X11_tellLine [.ref 0, .int k, .int v, .int p, .int s, .int a] σ Q := by
  refine Call_st 120 fun X hX => ?_
  refine ⟨rfl, rfl, ?_⟩
  refine s_vhas ?_
  refine ⟨fun c8 => ?_, fun c8 => ?_⟩
  · replace c8 := bI_z c8
    refine ⟨rfl, trivial, ?_⟩
    first | exact hB (by omega) | exact hF (by omega) (by omega) | exact hS (by omega) (by omega)
  · replace c8 := bI_nz c8
    refine ⟨rfl, rfl, ?_⟩
    refine s_hasBeen ?_
    refine ⟨fun c20 => ?_, fun c20 => ?_⟩
    · replace c20 := bI_z c20
      refine ⟨rfl, trivial, ?_⟩
      first | exact hB (by omega) | exact hF (by omega) (by omega) | exact hS (by omega) (by omega)
    · replace c20 := bI_nz c20
      refine ⟨rfl, rfl, ?_⟩
      refine s_lfull ?_
      refine ⟨fun c33 => ?_, fun c33 => ?_⟩
      · replace c33 := bI_z c33
        refine ⟨rfl, rfl, ?_⟩
        refine s_lapp (by omega) (by omega) hr ?_
        refine ⟨rfl, trivial, ?_⟩
        first | exact hB (by omega) | exact hF (by omega) (by omega) | exact hS (by omega) (by omega)
      · replace c33 := bI_nz c33
        refine ⟨rfl, trivial, ?_⟩
        first | exact hB (by omega) | exact hF (by omega) (by omega) | exact hS (by omega) (by omega)
theorem s_tellSum {d : Nat} {σ : Mm} {Q : Qt} {k v p s a : Int32} (h0 : 0 ≤ (σ 10 0).toInt) (hr : ∀ i : Nat, i < (σ 10 0).toInt.toNat → 0 ≤ (σ 18 i).toInt ∧ (σ 18 i).toInt < 100) (hB : ¬ ((1 ≤ s.toInt ∧ s.toInt ≤ 100000) ∧ (0 ≤ v.toInt ∧ v.toInt < (σ 3 0).toInt) ∧ (0 ≤ a.toInt ∧ a.toInt ≤ (σ 1 0).toInt)) → Q (some (.int (-1000000001))) σ) (hF : ((1 ≤ s.toInt ∧ s.toInt ≤ 100000) ∧ (0 ≤ v.toInt ∧ v.toInt < (σ 3 0).toInt) ∧ (0 ≤ a.toInt ∧ a.toInt ≤ (σ 1 0).toInt)) → 100 ≤ (σ 10 0).toInt → Q (some (.int (-1000000003))) σ) (hS : ((1 ≤ s.toInt ∧ s.toInt ≤ 100000) ∧ (0 ≤ v.toInt ∧ v.toInt < (σ 3 0).toInt) ∧ (0 ≤ a.toInt ∧ a.toInt ≤ (σ 1 0).toInt)) → (σ 10 0).toInt < 100 → Q (some (.int (σ 10 0))) (LA σ k v a (σ 1 0) s p)) : Call (d + 4) k_X11_tellSum [.ref 0, .int k, .int v, .int p, .int s, .int a] σ Q := by
  refine Call_st 120 fun X hX => ?_
  refine ⟨rfl, ?_⟩
  refine s_within ?_
  refine ⟨fun c8 => ?_, fun c8 => ?_⟩
  · replace c8 := bI_z c8
    refine ⟨rfl, trivial, ?_⟩
    first | exact hB (by (first | omega | (simp only [Int32.reduceToInt] at c8 ⊢; omega))) | exact hF (by (first | omega | (simp only [Int32.reduceToInt] at c8 ⊢; omega))) (by (first | omega | (simp only [Int32.reduceToInt] at c8 ⊢; omega))) | exact hS (by (first | omega | (simp only [Int32.reduceToInt] at c8 ⊢; omega))) (by (first | omega | (simp only [Int32.reduceToInt] at c8 ⊢; omega)))
  · replace c8 := bI_nz c8
    refine ⟨rfl, rfl, ?_⟩
    refine s_tellLine (by omega) hr (fun h22a => ?_) (fun h22a h22b => ?_) (fun h22a h22b => ?_)
    · refine ⟨rfl, trivial, ?_⟩
      first | exact hB (by (first | omega | (simp only [Int32.reduceToInt] at c8 h22a ⊢; omega))) | exact hF (by (first | omega | (simp only [Int32.reduceToInt] at c8 h22a ⊢; omega))) (by (first | omega | (simp only [Int32.reduceToInt] at c8 h22a ⊢; omega))) | exact hS (by (first | omega | (simp only [Int32.reduceToInt] at c8 h22a ⊢; omega))) (by (first | omega | (simp only [Int32.reduceToInt] at c8 h22a ⊢; omega)))
    · refine ⟨rfl, trivial, ?_⟩
      first | exact hB (by (first | omega | (simp only [Int32.reduceToInt] at c8 h22a h22b ⊢; omega))) | exact hF (by (first | omega | (simp only [Int32.reduceToInt] at c8 h22a h22b ⊢; omega))) (by (first | omega | (simp only [Int32.reduceToInt] at c8 h22a h22b ⊢; omega))) | exact hS (by (first | omega | (simp only [Int32.reduceToInt] at c8 h22a h22b ⊢; omega))) (by (first | omega | (simp only [Int32.reduceToInt] at c8 h22a h22b ⊢; omega)))
    · refine ⟨rfl, trivial, ?_⟩
      first | exact hB (by (first | omega | (simp only [Int32.reduceToInt] at c8 h22a h22b ⊢; omega))) | exact hF (by (first | omega | (simp only [Int32.reduceToInt] at c8 h22a h22b ⊢; omega))) (by (first | omega | (simp only [Int32.reduceToInt] at c8 h22a h22b ⊢; omega))) | exact hS (by (first | omega | (simp only [Int32.reduceToInt] at c8 h22a h22b ⊢; omega))) (by (first | omega | (simp only [Int32.reduceToInt] at c8 h22a h22b ⊢; omega)))
