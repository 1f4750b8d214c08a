theorem j_ixX {d : Nat} {σ : Mm} {Q : Qt} {x c : Int32} (e : x = c) (h : 97 ≤ c.toInt ∧ c.toInt ≤ 122) (hQ : Q (some (.int (nmIx c))) σ) : Call (d + 4) k_J0_indexOf_0f7a4 [.ref 2000, .int x] σ Q := by
  subst e
  exact j_ix h hQ
theorem em_n {j : Nat} (h : j < 65536) : ((nI j).toUInt32 % 65536).toInt32 = nI j := by
  apply Int32.toBitVec_inj.mp
  apply BitVec.eq_of_toNat_eq
  show ((nI j).toUInt32 % 65536).toBitVec.toNat = (nI j).toBitVec.toNat
  have e1 : (nI j).toBitVec.toNat = j := by
    show (BitVec.ofNat 32 j).toNat = j
    rw [BitVec.toNat_ofNat, Nat.mod_eq_of_lt (by omega)]
  have e2 : ((nI j).toUInt32 % 65536).toNat = (nI j).toUInt32.toNat % 65536 := UInt32.toNat_mod _ _
  have e3 : (nI j).toUInt32.toNat = j := e1
  have e4 : ((nI j).toUInt32 % 65536).toBitVec.toNat = ((nI j).toUInt32 % 65536).toNat := rfl
  rw [e4, e2, e3, e1, Nat.mod_eq_of_lt h]
theorem i2c_id {c : Int32} (h : 0 ≤ c.toInt ∧ c.toInt < 65536) : (c.toUInt32 % 65536).toInt32 = c := by
  have hx : ¬ c < 0 := fun z => by
    have := Int32.lt_iff_toInt_lt.mp z
    have z0 : (0 : Int32).toInt = 0 := rfl
    omega
  obtain ⟨j, hj, rfl⟩ := nI_of hx
  have e := nIt (n := j) (by omega)
  exact em_n (by omega)
set_option maxHeartbeats 4000000 in
theorem s_takeL {d : Nat} {τ : Mm} {Q : Qt} {s n : Nat} {g : Int32} (h3 : τ 31 3 = nI s) (h8 : τ 31 8 = nI (s + 1)) (h5 : τ 31 5 = nI n) (hs : s < n) (hn : n ≤ 96) (hl : ltP (τ 30 s)) (hQ : ∀ ρ : Mm, A31 [7, 8, 9, 10] τ ρ → ρ 31 8 = nI (rnB (ltB (τ 30)) (n - (s + 1)) (s + 1)) → ρ 31 10 = 1 → ρ 31 7 = (if g.toInt = 0 then wdC (τ 30) s (rnB (ltB (τ 30)) (n - (s + 1)) (s + 1)) else 257) → (g.toInt = 0 → nmP (τ 30) s (rnB (ltB (τ 30)) (n - (s + 1)) (s + 1)) → ρ 31 9 = -1 - nmIx (τ 30 s)) → Q none ρ) : Call (d + 6) k_X4_takeLetters [.ref 31, .int g] τ Q := by
  have en := nIt (n := n) (by omega)
  refine Call_go fun X hX => ?_
  have tail : ∀ ρ : Mm, A31 [8] τ ρ → ρ 31 8 = nI (rnB (ltB (τ 30)) (n - (s + 1)) (s + 1)) → X 35 [.ref 31, .int g, .null] [] ρ := by
    intro ρ hA hq
    have k3 : ρ 31 3 = nI s := (hA.2 3 rfl).trans h3
    have k30 : ρ 30 = τ 30 := hA.1 30 (by decide)
    have hEb := rn_b (g := ltB (τ 30)) (n - (s + 1)) (s + 1)
    have es1 := nIt (n := s) (by omega)
    have es2 := nIn (i := s) (by omega)
    have eE := nIt (n := (rnB (ltB (τ 30)) (n - (s + 1)) (s + 1))) (by omega)
    have eix : ((ρ 30 (ρ 31 3).toInt.toNat).toUInt32 % 65536).toInt32 = τ 30 s := by rw [k3, es2, k30]; exact i2c_id (by omega)
    have esub : (wr ρ 31 10 1 31 8 - wr ρ 31 10 1 31 3).toInt = ((rnB (ltB (τ 30)) (n - (s + 1)) (s + 1)) : Int) - s := by
      show (ρ 31 8 - ρ 31 3).toInt = _
      rw [k3, hq]
      simp only [Int32.toInt_sub, es1, eE, Int.bmod]
      omega
    refine go [] 100 hX ?_
    refine ⟨Or.inr rfl, ?_⟩
    refine ⟨_, _, rfl, (show ixs (ρ 31 3) 96 by rw [k3]; exact ⟨by omega, by omega⟩), ?_⟩
    refine ⟨rfl, rfl, ?_⟩
    refine j_ixX (c := τ 30 s) eix hl ?_
    refine ⟨fun c57 => ?_, fun c57 => ?_⟩
    · refine ⟨fun c80 => ?_, fun c80 => ?_⟩
      · refine ⟨fun c84 => ?_, fun c84 => ?_⟩
        · refine ⟨rfl, rfl, ?_⟩
          refine s_isWord1 (s := s) (e := (rnB (ltB (τ 30)) (n - (s + 1)) (s + 1))) k3 hq (by omega) (by omega) ?_
          refine ⟨fun c111 => ?_, fun c111 => ?_⟩
          · replace c111 := bI_z c111
            refine ⟨rfl, rfl, ?_⟩
            refine s_isWord2 (s := s) (e := (rnB (ltB (τ 30)) (n - (s + 1)) (s + 1))) k3 hq (by omega) (by omega) ?_
            refine ⟨fun c126 => ?_, fun c126 => ?_⟩
            · replace c126 := bI_z c126
              refine ⟨rfl, rfl, ?_⟩
              refine s_isWord3 (s := s) (e := (rnB (ltB (τ 30)) (n - (s + 1)) (s + 1))) k3 hq (by omega) (by omega) ?_
              refine ⟨fun c141 => ?_, fun c141 => ?_⟩
              · replace c141 := bI_z c141
                refine ⟨rfl, rfl, ?_⟩
                have c111 : ¬ wdP (τ 30) s (rnB (ltB (τ 30)) (n - (s + 1)) (s + 1)) 1 := by have z := c111; rw [show (wr ρ 31 10 1) 30 = τ 30 from k30] at z; exact z
                have c126 : ¬ wdP (τ 30) s (rnB (ltB (τ 30)) (n - (s + 1)) (s + 1)) 2 := by have z := c126; rw [show (wr ρ 31 10 1) 30 = τ 30 from k30] at z; exact z
                have c141 : ¬ wdP (τ 30) s (rnB (ltB (τ 30)) (n - (s + 1)) (s + 1)) 3 := by have z := c141; rw [show (wr ρ 31 10 1) 30 = τ 30 from k30] at z; exact z
                rw [esub] at c80
                simp only [Int32.reduceToInt] at c80
                have nnm : ¬ nmP (τ 30) s (rnB (ltB (τ 30)) (n - (s + 1)) (s + 1)) := fun z => by
                  have h1 := z.1
                  have h2 := z.2
                  omega
                refine hQ _ (a31_wr (a31_wr (a31_wk hA rfl) rfl) rfl) hq rfl ?_ (fun _ z => absurd z nnm)
                rw [if_pos c57]
                unfold wdC
                rw [if_neg nnm, if_neg c111, if_neg c126, if_neg c141]
                rfl
              · replace c141 := bI_nz c141
                refine ⟨rfl, rfl, ?_⟩
                have c111 : ¬ wdP (τ 30) s (rnB (ltB (τ 30)) (n - (s + 1)) (s + 1)) 1 := by have z := c111; rw [show (wr ρ 31 10 1) 30 = τ 30 from k30] at z; exact z
                have c126 : ¬ wdP (τ 30) s (rnB (ltB (τ 30)) (n - (s + 1)) (s + 1)) 2 := by have z := c126; rw [show (wr ρ 31 10 1) 30 = τ 30 from k30] at z; exact z
                have c141 : wdP (τ 30) s (rnB (ltB (τ 30)) (n - (s + 1)) (s + 1)) 3 := by have z := c141; rw [show (wr ρ 31 10 1) 30 = τ 30 from k30] at z; exact z
                rw [esub] at c80
                simp only [Int32.reduceToInt] at c80
                have nnm : ¬ nmP (τ 30) s (rnB (ltB (τ 30)) (n - (s + 1)) (s + 1)) := fun z => by
                  have h1 := z.1
                  have h2 := z.2
                  omega
                refine hQ _ (a31_wr (a31_wr (a31_wk hA rfl) rfl) rfl) hq rfl ?_ (fun _ z => absurd z nnm)
                rw [if_pos c57]
                unfold wdC
                rw [if_neg nnm, if_neg c111, if_neg c126, if_pos c141]
                rfl
            · replace c126 := bI_nz c126
              refine ⟨rfl, rfl, ?_⟩
              have c111 : ¬ wdP (τ 30) s (rnB (ltB (τ 30)) (n - (s + 1)) (s + 1)) 1 := by have z := c111; rw [show (wr ρ 31 10 1) 30 = τ 30 from k30] at z; exact z
              have c126 : wdP (τ 30) s (rnB (ltB (τ 30)) (n - (s + 1)) (s + 1)) 2 := by have z := c126; rw [show (wr ρ 31 10 1) 30 = τ 30 from k30] at z; exact z
              rw [esub] at c80
              simp only [Int32.reduceToInt] at c80
              have nnm : ¬ nmP (τ 30) s (rnB (ltB (τ 30)) (n - (s + 1)) (s + 1)) := fun z => by
                have h1 := z.1
                have h2 := z.2
                omega
              refine hQ _ (a31_wr (a31_wr (a31_wk hA rfl) rfl) rfl) hq rfl ?_ (fun _ z => absurd z nnm)
              rw [if_pos c57]
              unfold wdC
              rw [if_neg nnm, if_neg c111, if_pos c126]
              rfl
          · replace c111 := bI_nz c111
            refine ⟨rfl, rfl, ?_⟩
            have c111 : wdP (τ 30) s (rnB (ltB (τ 30)) (n - (s + 1)) (s + 1)) 1 := by have z := c111; rw [show (wr ρ 31 10 1) 30 = τ 30 from k30] at z; exact z
            rw [esub] at c80
            simp only [Int32.reduceToInt] at c80
            have nnm : ¬ nmP (τ 30) s (rnB (ltB (τ 30)) (n - (s + 1)) (s + 1)) := fun z => by
              have h1 := z.1
              have h2 := z.2
              omega
            refine hQ _ (a31_wr (a31_wr (a31_wk hA rfl) rfl) rfl) hq rfl ?_ (fun _ z => absurd z nnm)
            rw [if_pos c57]
            unfold wdC
            rw [if_neg nnm, if_pos c111]
            rfl
        · refine ⟨rfl, rfl, ?_⟩
          rw [esub] at c80
          simp only [Int32.reduceToInt] at c80
          have hnm : nmP (τ 30) s (rnB (ltB (τ 30)) (n - (s + 1)) (s + 1)) := ⟨by omega, by omega⟩
          refine hQ _ (a31_wr (a31_wr (a31_wr (a31_wk hA rfl) rfl) rfl) rfl) hq rfl ?_ (fun _ _ => rfl)
          rw [if_pos c57]
          unfold wdC
          rw [if_pos hnm]
          rfl
      · refine ⟨rfl, rfl, ?_⟩
        refine s_isWord1 (s := s) (e := (rnB (ltB (τ 30)) (n - (s + 1)) (s + 1))) k3 hq (by omega) (by omega) ?_
        refine ⟨fun c111 => ?_, fun c111 => ?_⟩
        · replace c111 := bI_z c111
          refine ⟨rfl, rfl, ?_⟩
          refine s_isWord2 (s := s) (e := (rnB (ltB (τ 30)) (n - (s + 1)) (s + 1))) k3 hq (by omega) (by omega) ?_
          refine ⟨fun c126 => ?_, fun c126 => ?_⟩
          · replace c126 := bI_z c126
            refine ⟨rfl, rfl, ?_⟩
            refine s_isWord3 (s := s) (e := (rnB (ltB (τ 30)) (n - (s + 1)) (s + 1))) k3 hq (by omega) (by omega) ?_
            refine ⟨fun c141 => ?_, fun c141 => ?_⟩
            · replace c141 := bI_z c141
              refine ⟨rfl, rfl, ?_⟩
              have c111 : ¬ wdP (τ 30) s (rnB (ltB (τ 30)) (n - (s + 1)) (s + 1)) 1 := by have z := c111; rw [show (wr ρ 31 10 1) 30 = τ 30 from k30] at z; exact z
              have c126 : ¬ wdP (τ 30) s (rnB (ltB (τ 30)) (n - (s + 1)) (s + 1)) 2 := by have z := c126; rw [show (wr ρ 31 10 1) 30 = τ 30 from k30] at z; exact z
              have c141 : ¬ wdP (τ 30) s (rnB (ltB (τ 30)) (n - (s + 1)) (s + 1)) 3 := by have z := c141; rw [show (wr ρ 31 10 1) 30 = τ 30 from k30] at z; exact z
              rw [esub] at c80
              simp only [Int32.reduceToInt] at c80
              have nnm : ¬ nmP (τ 30) s (rnB (ltB (τ 30)) (n - (s + 1)) (s + 1)) := fun z => by
                have h1 := z.1
                have h2 := z.2
                omega
              refine hQ _ (a31_wr (a31_wr (a31_wk hA rfl) rfl) rfl) hq rfl ?_ (fun _ z => absurd z nnm)
              rw [if_pos c57]
              unfold wdC
              rw [if_neg nnm, if_neg c111, if_neg c126, if_neg c141]
              rfl
            · replace c141 := bI_nz c141
              refine ⟨rfl, rfl, ?_⟩
              have c111 : ¬ wdP (τ 30) s (rnB (ltB (τ 30)) (n - (s + 1)) (s + 1)) 1 := by have z := c111; rw [show (wr ρ 31 10 1) 30 = τ 30 from k30] at z; exact z
              have c126 : ¬ wdP (τ 30) s (rnB (ltB (τ 30)) (n - (s + 1)) (s + 1)) 2 := by have z := c126; rw [show (wr ρ 31 10 1) 30 = τ 30 from k30] at z; exact z
              have c141 : wdP (τ 30) s (rnB (ltB (τ 30)) (n - (s + 1)) (s + 1)) 3 := by have z := c141; rw [show (wr ρ 31 10 1) 30 = τ 30 from k30] at z; exact z
              rw [esub] at c80
              simp only [Int32.reduceToInt] at c80
              have nnm : ¬ nmP (τ 30) s (rnB (ltB (τ 30)) (n - (s + 1)) (s + 1)) := fun z => by
                have h1 := z.1
                have h2 := z.2
                omega
              refine hQ _ (a31_wr (a31_wr (a31_wk hA rfl) rfl) rfl) hq rfl ?_ (fun _ z => absurd z nnm)
              rw [if_pos c57]
              unfold wdC
              rw [if_neg nnm, if_neg c111, if_neg c126, if_pos c141]
              rfl
          · replace c126 := bI_nz c126
            refine ⟨rfl, rfl, ?_⟩
            have c111 : ¬ wdP (τ 30) s (rnB (ltB (τ 30)) (n - (s + 1)) (s + 1)) 1 := by have z := c111; rw [show (wr ρ 31 10 1) 30 = τ 30 from k30] at z; exact z
            have c126 : wdP (τ 30) s (rnB (ltB (τ 30)) (n - (s + 1)) (s + 1)) 2 := by have z := c126; rw [show (wr ρ 31 10 1) 30 = τ 30 from k30] at z; exact z
            rw [esub] at c80
            simp only [Int32.reduceToInt] at c80
            have nnm : ¬ nmP (τ 30) s (rnB (ltB (τ 30)) (n - (s + 1)) (s + 1)) := fun z => by
              have h1 := z.1
              have h2 := z.2
              omega
            refine hQ _ (a31_wr (a31_wr (a31_wk hA rfl) rfl) rfl) hq rfl ?_ (fun _ z => absurd z nnm)
            rw [if_pos c57]
            unfold wdC
            rw [if_neg nnm, if_neg c111, if_pos c126]
            rfl
        · replace c111 := bI_nz c111
          refine ⟨rfl, rfl, ?_⟩
          have c111 : wdP (τ 30) s (rnB (ltB (τ 30)) (n - (s + 1)) (s + 1)) 1 := by have z := c111; rw [show (wr ρ 31 10 1) 30 = τ 30 from k30] at z; exact z
          rw [esub] at c80
          simp only [Int32.reduceToInt] at c80
          have nnm : ¬ nmP (τ 30) s (rnB (ltB (τ 30)) (n - (s + 1)) (s + 1)) := fun z => by
            have h1 := z.1
            have h2 := z.2
            omega
          refine hQ _ (a31_wr (a31_wr (a31_wk hA rfl) rfl) rfl) hq rfl ?_ (fun _ z => absurd z nnm)
          rw [if_pos c57]
          unfold wdC
          rw [if_neg nnm, if_pos c111]
          rfl
    · refine ⟨rfl, rfl, ?_⟩
      refine hQ _ (a31_wr (a31_wr (a31_wk hA rfl) rfl) rfl) hq rfl ?_ (fun z => absurd z c57)
      rw [if_neg c57]
      rfl
  have loop : ∀ (f q : Nat) (ρ : Mm), q + f = n → s < q → A31 [8] τ ρ → ρ 31 8 = nI q → rnB (ltB (τ 30)) f q = (rnB (ltB (τ 30)) (n - (s + 1)) (s + 1)) → X 0 [.ref 31, .int g, .null] [] ρ := by
    intro f
    induction f with
    | zero =>
      intro q ρ hi hsq hA hq hE
      have e1 := nIt (n := q) (by omega)
      refine go [0, 35] 40 hX ?_
      refine ⟨fun c8 => ?_, fun c8 => ?_⟩
      · exfalso; rw [hq, hA.2 5 rfl, h5, e1, en] at c8; omega
      · exact tail ρ hA (by rw [hq, ← hE]; rfl)
    | succ f ih =>
      intro q ρ hi hsq hA hq hE
      have e1 := nIt (n := q) (by omega)
      have e2 := nIn (i := q) (by omega)
      refine go [0, 35] 40 hX ?_
      refine ⟨fun c8 => ?_, fun c8 => ?_⟩
      · refine ⟨rfl, rfl, ?_⟩
        refine s_isLet (by rw [hq, e1]; omega) ?_
        refine ⟨fun c19 => ?_, fun c19 => ?_⟩
        · replace c19 := bI_z c19
          rw [hq, e2, hA.1 30 (by decide)] at c19
          exact tail ρ hA (by rw [hq, ← hE, rn_n (fun z => c19 (ltT.mp z))])
        · replace c19 := bI_nz c19
          rw [hq, e2, hA.1 30 (by decide)] at c19
          have ih1 := ih (q + 1) (wr ρ 31 8 (ρ 31 8 + 1)) (by omega) (by omega) (a31_wr hA rfl) (by show ρ 31 8 + 1 = _; rw [hq, nI_1]) (by rw [← hE, rn_y (ltT.mpr c19)])
          exact ih1
      · exfalso; rw [hq, hA.2 5 rfl, h5, e1, en] at c8; omega
  exact loop (n - (s + 1)) (s + 1) τ (by omega) (by omega) a31_rf h8 rfl
set_option maxHeartbeats 4000000 in
theorem s_takeD {d : Nat} {τ : Mm} {Q : Qt} {s n : Nat} {g : Int32} (h3 : τ 31 3 = nI s) (h8 : τ 31 8 = nI (s + 1)) (h5 : τ 31 5 = nI n) (hs : s < n) (hn : n ≤ 96) (hQ : ∀ ρ : Mm, A31 [7, 8, 9, 10] τ ρ → ρ 31 8 = nI (rnB (dgB (τ 30)) (n - (s + 1)) (s + 1)) → ρ 31 10 = 1 → ρ 31 7 = (if g.toInt = 0 ∧ ¬ 4 < (rnB (dgB (τ 30)) (n - (s + 1)) (s + 1)) - s then 258 else 257) → (g.toInt = 0 → ¬ 4 < (rnB (dgB (τ 30)) (n - (s + 1)) (s + 1)) - s → ρ 31 9 = nvF (τ 30) s ((rnB (dgB (τ 30)) (n - (s + 1)) (s + 1)) - s)) → Q none ρ) : Call (d + 2) k_X4_takeDigits [.ref 31, .int g] τ Q := by
  have en := nIt (n := n) (by omega)
  have hEb := rn_b (g := dgB (τ 30)) (n - (s + 1)) (s + 1)
  refine Call_go fun X hX => ?_
  have vloop : g.toInt = 0 → ¬ 4 < (rnB (dgB (τ 30)) (n - (s + 1)) (s + 1)) - s → ∀ (f k : Nat) (ρ : Mm), k + f = (rnB (dgB (τ 30)) (n - (s + 1)) (s + 1)) - s → A31 [7, 8, 9, 10] τ ρ → ρ 31 8 = nI (rnB (dgB (τ 30)) (n - (s + 1)) (s + 1)) → ρ 31 10 = 1 → ρ 31 7 = 258 → ρ 31 9 = nvF (τ 30) s k → X 82 [.ref 31, .int g, .int (nI (s + k))] [] ρ := by
    intro hg hle f
    induction f with
    | zero =>
      intro k ρ hi hA hq h10 h7 h9
      have e1 := nIt (n := s + k) (by omega)
      have eE := nIt (n := (rnB (dgB (τ 30)) (n - (s + 1)) (s + 1))) (by omega)
      refine go [82] 40 hX ?_
      refine ⟨fun c87 => ?_, fun c87 => ?_⟩
      · exfalso; rw [hq, e1, eE] at c87; omega
      · refine ⟨rfl, rfl, ?_⟩
        refine hQ ρ hA hq h10 ?_ (fun _ _ => ?_)
        · rw [if_pos ⟨hg, hle⟩]; exact h7
        · rw [h9, show (rnB (dgB (τ 30)) (n - (s + 1)) (s + 1)) - s = k by omega]
    | succ f ih =>
      intro k ρ hi hA hq h10 h7 h9
      have e1 := nIt (n := s + k) (by omega)
      have eE := nIt (n := (rnB (dgB (τ 30)) (n - (s + 1)) (s + 1))) (by omega)
      have e2 := nIn (i := s + k) (by omega)
      refine go [82] 40 hX ?_
      refine ⟨fun c87 => ?_, fun c87 => ?_⟩
      · refine ⟨_, _, rfl, ⟨by omega, by omega⟩, ?_⟩
        have ih1 := ih (k + 1) (wr ρ 31 9 (ρ 31 9 * 10 + ρ 30 (nI (s + k)).toInt.toNat - 48)) (by omega) (a31_wr hA rfl) hq h10 h7 (by show ρ 31 9 * 10 + ρ 30 (nI (s + k)).toInt.toNat - 48 = _; rw [e2, h9, hA.1 30 (by decide)]; rfl)
        rw [← Nat.add_assoc, ← nI_1 (s + k)] at ih1
        exact ih1
      · exfalso; rw [hq, e1, eE] at c87; omega
  have tail : ∀ ρ : Mm, A31 [8] τ ρ → ρ 31 8 = nI (rnB (dgB (τ 30)) (n - (s + 1)) (s + 1)) → X 35 [.ref 31, .int g, .null] [] ρ := by
    intro ρ hA hq
    have k3 : ρ 31 3 = nI s := (hA.2 3 rfl).trans h3
    have hEb := rn_b (g := dgB (τ 30)) (n - (s + 1)) (s + 1)
    have es1 := nIt (n := s) (by omega)
    have eE := nIt (n := (rnB (dgB (τ 30)) (n - (s + 1)) (s + 1))) (by omega)
    have esub : (wr ρ 31 10 1 31 8 - wr ρ 31 10 1 31 3).toInt = ((rnB (dgB (τ 30)) (n - (s + 1)) (s + 1)) : Int) - s := by
      show (ρ 31 8 - ρ 31 3).toInt = _
      rw [k3, hq]
      simp only [Int32.toInt_sub, es1, eE, Int.bmod]
      omega
    refine go [82] 100 hX ?_
    refine ⟨Or.inr rfl, ?_⟩
    refine ⟨fun c41 => ?_, fun c41 => ?_⟩
    · refine ⟨fun c54 => ?_, fun c54 => ?_⟩
      · refine ⟨rfl, rfl, ?_⟩
        rw [esub] at c54
        simp only [Int32.reduceToInt] at c54
        refine hQ _ (a31_wr (a31_wr (a31_wk hA rfl) rfl) rfl) hq rfl ?_ (fun _ z => absurd (by omega) z)
        rw [if_neg (fun z => z.2 (by omega))]
        rfl
      · rw [esub] at c54
        simp only [Int32.reduceToInt] at c54
        have h0 := vloop c41 (by omega) ((rnB (dgB (τ 30)) (n - (s + 1)) (s + 1)) - s) 0 (wr (wr (wr ρ 31 10 1) 31 7 258) 31 9 0) (by omega) (a31_wr (a31_wr (a31_wr (a31_wk hA rfl) rfl) rfl) rfl) hq rfl rfl rfl
        have k3' : wr (wr (wr ρ 31 10 1) 31 7 258) 31 9 0 31 3 = nI s := k3
        rw [Nat.add_zero, ← k3'] at h0
        exact h0
    · refine ⟨rfl, rfl, ?_⟩
      refine hQ _ (a31_wr (a31_wr (a31_wk hA rfl) rfl) rfl) hq rfl ?_ (fun z => absurd z c41)
      rw [if_neg (fun z => c41 z.1)]
      rfl
  have loop : ∀ (f q : Nat) (ρ : Mm), q + f = n → s < q → A31 [8] τ ρ → ρ 31 8 = nI q → rnB (dgB (τ 30)) f q = (rnB (dgB (τ 30)) (n - (s + 1)) (s + 1)) → X 0 [.ref 31, .int g, .null] [] ρ := by
    intro f
    induction f with
    | zero =>
      intro q ρ hi hsq hA hq hE
      have e1 := nIt (n := q) (by omega)
      refine go [0, 35] 40 hX ?_
      refine ⟨fun c8 => ?_, fun c8 => ?_⟩
      · exfalso; rw [hq, hA.2 5 rfl, h5, e1, en] at c8; omega
      · exact tail ρ hA (by rw [hq, ← hE]; rfl)
    | succ f ih =>
      intro q ρ hi hsq hA hq hE
      have e1 := nIt (n := q) (by omega)
      have e2 := nIn (i := q) (by omega)
      refine go [0, 35] 40 hX ?_
      refine ⟨fun c8 => ?_, fun c8 => ?_⟩
      · refine ⟨rfl, rfl, ?_⟩
        refine s_isDig (by rw [hq, e1]; omega) ?_
        refine ⟨fun c19 => ?_, fun c19 => ?_⟩
        · replace c19 := bI_z c19
          rw [hq, e2, hA.1 30 (by decide)] at c19
          exact tail ρ hA (by rw [hq, ← hE, rn_n (fun z => c19 (dgT.mp z))])
        · replace c19 := bI_nz c19
          rw [hq, e2, hA.1 30 (by decide)] at c19
          have ih1 := ih (q + 1) (wr ρ 31 8 (ρ 31 8 + 1)) (by omega) (by omega) (a31_wr hA rfl) (by show ρ 31 8 + 1 = _; rw [hq, nI_1]) (by rw [← hE, rn_y (dgT.mpr c19)])
          exact ih1
      · exfalso; rw [hq, hA.2 5 rfl, h5, e1, en] at c8; omega
  exact loop (n - (s + 1)) (s + 1) τ (by omega) (by omega) a31_rf h8 rfl
