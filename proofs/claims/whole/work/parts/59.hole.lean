theorem Call_ge {a b t : Nat} {as : List Value} {σ : Mm} {Q : Qt} (hab : a ≤ b) (h : Call a t as σ Q) : Call b t as σ Q := by
  have := Call_up h (b - a)
  rw [show a + (b - a) = b by omega] at this
  exact this
def hlF (sb : Nat → Option (List Nat)) : Nat → Nat → Option (Nat × List Nat)
  | _, 0 => none
  | n, j + 1 => match sb n with
    | some R => some (n, R)
    | none => hlF sb (n + 1) j
theorem hlF_s {sb : Nat → Option (List Nat)} {n j : Nat} {R : List Nat} (h : sb n = some R) : hlF sb n (j + 1) = some (n, R) := by
  unfold hlF
  rw [h]
theorem hlF_n {sb : Nat → Option (List Nat)} {n j : Nat} (h : sb n = none) : hlF sb n (j + 1) = hlF sb (n + 1) j := by
  rw [hlF, h]
theorem srI_len {F T P Q : Nat → Int32} {f : Int32} {k : Nat} {sub : List Nat → Option (List Nat)} {L : List Nat} (hs : ¬ k = 0 → ∀ M R, sub M = some R → R.length = M.length + k) : ∀ (n i : Nat) (R : List Nat), srI F T P Q f k sub L i n = some R → R.length = L.length + (k + 1)
  | 0, _, _, h => by cases h
  | n + 1, i, R, h => by
    by_cases a : fitP F T f k L i
    · by_cases b : k = 0
      · by_cases c : (prA Q (i :: L)).toInt < (prA P (i :: L)).toInt
        · rw [srI_h a b c] at h
          cases h
          rw [List.length_cons]
          omega
        · rw [srI_hn a b c] at h
          exact srI_len hs n _ R h
      · cases c : sub (i :: L) with
        | none =>
          rw [srI_sn a b c] at h
          exact srI_len hs n _ R h
        | some M =>
          rw [srI_s a b c] at h
          cases h
          rw [hs b _ _ c, List.length_cons]
          omega
    · rw [srI_n a] at h
      exact srI_len hs n _ R h
theorem srB_len {F T P Q : Nat → Int32} {f : Int32} {m : Nat} : ∀ (k : Nat) (L R : List Nat), srB F T P Q f m k L = some R → R.length = L.length + k
  | 0, _, _, h => by cases h
  | k + 1, L, R, h => srI_len (fun _ M R => srB_len k M R) m 0 R h
theorem s_seekHole {d : Nat} {σ : Mm} {Q : Qt} {f : Int32} (hm : 0 ≤ (σ 71 0).toInt ∧ (σ 71 0).toInt ≤ 16) (hr : ∀ i : Nat, i < (σ 71 0).toInt.toNat → (0 ≤ (σ 73 i).toInt ∧ (σ 73 i).toInt ≤ 5) ∧ (0 ≤ (σ 74 i).toInt ∧ (σ 74 i).toInt ≤ 5)) (h7 : σ 77 = fun _ => 0) (hN : hlF (fun n => srB (σ 73) (σ 74) (σ 75) (σ 76) f (σ 71 0).toInt.toNat n []) 2 5 = none → ∀ τ', Ag [72, 77] σ τ' → τ' 77 = σ 77 → Q (some (.int 0)) τ') (hS : ∀ n R, hlF (fun n => srB (σ 73) (σ 74) (σ 75) (σ 76) f (σ 71 0).toInt.toNat n []) 2 5 = some (n, R) → ∀ τ', Ag [72, 77] σ τ' → τ' 77 = σ 77 → (2 ≤ n ∧ n ≤ 6) → (∀ j, j < n → τ' 72 j = nI (atR R j)) → Q (some (.int (nI n))) τ') : Call (d + 10) k_X1_seekHole [.ref 71, .int f] σ Q := by
  refine Call_go fun X hX => ?_
  have hgo : ∀ (n : Nat) (τ : Mm) (Q' : Qt), (1 ≤ n ∧ n ≤ 6) → Ag [72, 77] σ τ → τ 77 = σ 77 → ((fun n => srB (σ 73) (σ 74) (σ 75) (σ 76) f (σ 71 0).toInt.toNat n []) n = none → ∀ τ', Ag [72, 77] σ τ' → τ' 77 = τ 77 → Q' (some (.int 0)) τ') → (∀ R, (fun n => srB (σ 73) (σ 74) (σ 75) (σ 76) f (σ 71 0).toInt.toNat n []) n = some R → ∀ τ', Ag [72, 77] σ τ' → τ' 77 = τ 77 → (∀ j, 0 ≤ j → j < n → τ' 72 j = nI (atR R j)) → Q' (some (.int 1)) τ') → Call (d + 9) k_X1_goesRound [.ref 71, .int f, .int f, .int 0, .int (nI n), .long 1, .long 1] τ Q' := by
    intro n τ Q' hn hA h77 h1 h2
    obtain ⟨k, rfl⟩ : ∃ k, n = k + 1 := ⟨n - 1, by omega⟩
    refine Call_ge (a := 0 + k + 1) (by omega) ?_
    exact goes_all (n := k + 1) (M := (σ 71 0).toInt.toNat) (by omega) (by omega) hr (by omega) k 0 τ Q' f 0 1 1 [] (by show 0 + k + 1 = k + 1; omega) hA (fun g hg => Or.inl ⟨by rw [h77, h7], fun j hj => (Nat.not_lt_zero j hj).elim⟩) (fun j hj => (Nat.not_lt_zero j hj).elim) rfl rfl rfl rfl h1 h2
  have loop : ∀ (j n : Nat) (τ : Mm), n + j = 7 → 2 ≤ n → Ag [72, 77] σ τ → τ 77 = σ 77 → (hlF (fun n => srB (σ 73) (σ 74) (σ 75) (σ 76) f (σ 71 0).toInt.toNat n []) n j = none → ∀ τ', Ag [72, 77] σ τ' → τ' 77 = σ 77 → Q (some (.int 0)) τ') → (∀ m R, hlF (fun n => srB (σ 73) (σ 74) (σ 75) (σ 76) f (σ 71 0).toInt.toNat n []) n j = some (m, R) → ∀ τ', Ag [72, 77] σ τ' → τ' 77 = σ 77 → (2 ≤ m ∧ m ≤ 6) → (∀ j, j < m → τ' 72 j = nI (atR R j)) → Q (some (.int (nI m))) τ') → X 2 [.ref 71, .int f, .int (nI n)] [] τ := by
    intro j
    induction j with
    | zero =>
      intro n τ hi hn2 hA h77 hN hS
      rw [Nat.add_zero] at hi
      refine go [2] 50 hX ?_
      refine ⟨fun c5 => ?_, fun c5 => ?_⟩
      · refine ⟨rfl, trivial, ?_⟩
        exact hN rfl τ hA h77
      · exfalso; rw [hi] at c5; exact c5 (by decide)
    | succ j ih =>
      intro n τ hi hn2 hA h77 hN hS
      have e1 := nIt (n := n) (by omega)
      refine go [2] 50 hX ?_
      refine ⟨fun c5 => ?_, fun c5 => ?_⟩
      · refine ⟨rfl, trivial, ?_⟩
        exfalso; simp only [Int32.reduceToInt] at c5; omega
      · refine ⟨rfl, rfl, ?_⟩
        refine hgo n τ _ (by omega) hA h77 (fun h15a h15b h15c h15d => ?_) (fun h15a h15b h15c h15d h15e h15f => ?_)
        · refine ⟨fun _ => ?_, fun z => absurd (by decide) z⟩
          have ih1 := ih (n + 1) h15b (by omega) (by omega) h15c (h15d.trans h77) (fun z => hN (by rw [hlF_n h15a]; exact z)) (fun m R z => hS m R (by rw [hlF_n h15a]; exact z))
          rw [← nI_1] at ih1
          exact ih1
        · refine ⟨fun z => absurd z (by decide), fun _ => ?_⟩
          refine ⟨rfl, trivial, ?_⟩
          exact hS n h15a (hlF_s h15b) h15c h15d (h15e.trans h77) (by omega) (fun j hj => h15f j (Nat.zero_le j) hj)
  refine go [2] 20 hX ?_
  exact loop 5 2 σ rfl (by decide) Ag.rf rfl hN hS
theorem cs_hole {d : Nat} {σ : Mm} {Q : Qt} {f i : Int32} (hm : 0 ≤ (σ 71 0).toInt ∧ (σ 71 0).toInt ≤ 16) (hr : ∀ i : Nat, i < (σ 71 0).toInt.toNat → (0 ≤ (σ 73 i).toInt ∧ (σ 73 i).toInt ≤ 5) ∧ (0 ≤ (σ 74 i).toInt ∧ (σ 74 i).toInt ≤ 5)) (h7 : σ 77 = fun _ => 0) (h1 : ¬ ((0 ≤ f.toInt ∧ f.toInt ≤ 5) ∧ 0 ≤ i.toInt) → Q (some (.int (-1000000001))) σ) (h2 : ((0 ≤ f.toInt ∧ f.toInt ≤ 5) ∧ 0 ≤ i.toInt) → hlF (fun n => srB (σ 73) (σ 74) (σ 75) (σ 76) f (σ 71 0).toInt.toNat n []) 2 5 = none → ∀ τ', Ag [72, 77] σ τ' → τ' 77 = σ 77 → Q (some (.int (-1000000002))) τ') (h3 : ((0 ≤ f.toInt ∧ f.toInt ≤ 5) ∧ 0 ≤ i.toInt) → ∀ n R, hlF (fun n => srB (σ 73) (σ 74) (σ 75) (σ 76) f (σ 71 0).toInt.toNat n []) 2 5 = some (n, R) → ∀ τ', Ag [72, 77] σ τ' → τ' 77 = σ 77 → Q (some (.int (if i.toInt < (n : Int) then nI (atR R i.toInt.toNat) else -1000000005))) τ') : Call (d + 11) k_X11_hole [.ref 0, .int f, .int i] σ Q := by
  refine Call_st 60 fun X hX => ?_
  refine ⟨rfl, ?_⟩
  refine s_isForm ?_
  refine ⟨fun c4 => ?_, fun c4 => ?_⟩
  · replace c4 := bI_z c4
    refine ⟨rfl, trivial, ?_⟩
    exact h1 (by omega)
  · replace c4 := bI_nz c4
    refine ⟨fun c8 => ?_, fun c8 => ?_⟩
    · refine ⟨rfl, trivial, ?_⟩
      exact h1 (by omega)
    · refine ⟨rfl, rfl, ?_⟩
      refine s_seekHole hm hr h7 (fun h19a h19b h19c h19d => ?_) (fun h19a h19b h19c h19d h19e h19f h19g h19h => ?_)
      · refine ⟨fun _ => ?_, fun z => absurd (by decide) z⟩
        refine ⟨rfl, trivial, ?_⟩
        exact h2 (by omega) h19a h19b h19c h19d
      · refine ⟨fun c24 => ?_, fun c24 => ?_⟩
        · refine ⟨rfl, trivial, ?_⟩
          exfalso; rw [nIt (by omega)] at c24; omega
        · refine ⟨fun c32 => ?_, fun c32 => ?_⟩
          · refine ⟨_, _, rfl, (by rw [nIt (by omega)] at c32; exact ⟨by omega, by omega⟩), ?_⟩
            refine ⟨rfl, trivial, ?_⟩
            rw [nIt (by omega)] at c32
            have h4 := h3 (by omega) h19a h19b h19c h19d h19e h19f
            rw [if_pos (by omega)] at h4
            refine Qe h4 (vI_ ?_) rfl
            exact h19h _ (by omega)
          · refine ⟨rfl, trivial, ?_⟩
            rw [nIt (by omega)] at c32
            have h4 := h3 (by omega) h19a h19b h19c h19d h19e h19f
            rw [if_neg (by omega)] at h4
            exact h4
theorem ms_hole {d : Nat} {σ : Mm} {Q : Qt} {f i : Int32} (hm : 0 ≤ (σ 88 65).toInt ∧ (σ 88 65).toInt ≤ 16) (h1 : ¬ ((0 ≤ f.toInt ∧ f.toInt ≤ 5) ∧ 0 ≤ i.toInt) → Q (some (.int (-1000000001))) σ) (h2 : ((0 ≤ f.toInt ∧ f.toInt ≤ 5) ∧ 0 ≤ i.toInt) → hlF (fun n => srB (σ 131) (σ 132) (σ 133) (σ 134) f (σ 88 65).toInt.toNat n []) 2 5 = none → ∀ τ', Ag [135] σ τ' → Q (some (.int (-1000000002))) τ') (h3 : ((0 ≤ f.toInt ∧ f.toInt ≤ 5) ∧ 0 ≤ i.toInt) → ∀ n R, hlF (fun n => srB (σ 131) (σ 132) (σ 133) (σ 134) f (σ 88 65).toInt.toNat n []) 2 5 = some (n, R) → ∀ τ', Ag [135] σ τ' → Q (some (.int (if i.toInt < (n : Int) then nI (atR R i.toInt.toNat) else -1000000005))) τ') : Call (d + 4) k_X12_hole [.ref 88, .int f, .int i] σ Q := by
  refine Call_go fun X hX => ?_
  have loop : ((0 ≤ f.toInt ∧ f.toInt ≤ 5) ∧ 0 ≤ i.toInt) → ∀ (j n : Nat) (τ : Mm), n + j = 7 → 2 ≤ n → Ag [135] σ τ → (hlF (fun n => srB (σ 131) (σ 132) (σ 133) (σ 134) f (σ 88 65).toInt.toNat n []) n j = none → ∀ τ', Ag [135] σ τ' → Q (some (.int (-1000000002))) τ') → (∀ n' R, hlF (fun n => srB (σ 131) (σ 132) (σ 133) (σ 134) f (σ 88 65).toInt.toNat n []) n j = some (n', R) → ∀ τ', Ag [135] σ τ' → Q (some (.int (if i.toInt < (n' : Int) then nI (atR R i.toInt.toNat) else -1000000005))) τ') → X 16 [.ref 88, .int f, .int i, .int (nI n)] [] τ := by
    intro hok j
    induction j with
    | zero =>
      intro n τ hi hn2 hA hN hS
      rw [Nat.add_zero] at hi
      refine go [16] 50 hX ?_
      refine ⟨fun c19 => ?_, fun c19 => ?_⟩
      · refine ⟨rfl, trivial, ?_⟩
        exact hN rfl τ hA
      · exfalso; rw [hi] at c19; exact c19 (by decide)
    | succ j ih =>
      intro n τ hi hn2 hA hN hS
      have e1 := nIt (n := n) (by omega)
      have f131 : τ 131 = σ 131 := hA 131 rfl
      have f132 : τ 132 = σ 132 := hA 132 rfl
      have f133 : τ 133 = σ 133 := hA 133 rfl
      have f134 : τ 134 = σ 134 := hA 134 rfl
      have f88 : τ 88 = σ 88 := hA 88 rfl
      have sbE : (fun n => srB (σ 131) (σ 132) (σ 133) (σ 134) f (σ 88 65).toInt.toNat n []) n = srB (τ 131) (τ 132) (τ 133) (τ 134) f (σ 88 65).toInt.toNat n [] := by rw [f131, f132, f133, f134]
      refine go [16] 50 hX ?_
      refine ⟨fun c19 => ?_, fun c19 => ?_⟩
      · refine ⟨rfl, trivial, ?_⟩
        exfalso; simp only [Int32.reduceToInt] at c19; omega
      · refine ⟨rfl, rfl, ?_⟩
        refine m_finds (n := n) (M := (σ 88 65).toInt.toNat) (by rw [f88]; omega) (by omega) (by omega) (by omega) (fun h25a h25b h25c h25d h25e => ?_) (fun h25a h25b h25c => ?_)
        · refine ⟨fun z => absurd z (by decide), fun _ => ?_⟩
          refine ⟨fun c33 => ?_, fun c33 => ?_⟩
          · refine ⟨_, _, rfl, ⟨by omega, by omega⟩, ?_⟩
            refine ⟨rfl, trivial, ?_⟩
            have hl := srB_len _ _ _ h25b
            have h4 := hS n h25a (hlF_s (sbE.trans h25b)) h25c (Ag.tr hA h25d)
            rw [if_pos (by omega)] at h4
            refine Qe h4 (vI_ ?_) rfl
            exact arrAt _ h25e _ (by rw [hl]; show _ < 0 + n; omega)
          · refine ⟨rfl, trivial, ?_⟩
            have hl := srB_len _ _ _ h25b
            have h4 := hS n h25a (hlF_s (sbE.trans h25b)) h25c (Ag.tr hA h25d)
            rw [if_neg (by omega)] at h4
            exact h4
        · refine ⟨fun _ => ?_, fun z => absurd (by decide) z⟩
          have ih1 := ih (n + 1) h25b (by omega) (by omega) (Ag.tr hA h25c) (fun z => hN (by rw [hlF_n (sbE.trans h25a)]; exact z)) (fun m R z => hS m R (by rw [hlF_n (sbE.trans h25a)]; exact z))
          rw [← nI_1] at ih1
          exact ih1
  refine go [16] 20 hX ?_
  refine ⟨rfl, ?_⟩
  refine m_isForm ?_
  refine ⟨fun c4 => ?_, fun c4 => ?_⟩
  · replace c4 := bI_z c4
    refine ⟨rfl, trivial, ?_⟩
    exact h1 (by omega)
  · replace c4 := bI_nz c4
    refine ⟨fun c8 => ?_, fun c8 => ?_⟩
    · refine ⟨rfl, trivial, ?_⟩
      exact h1 (by omega)
    · exact loop (by omega) 5 2 σ rfl (by decide) Ag.rf (h2 (by omega)) (h3 (by omega))
theorem Inv_ho {σ τ : Mm} (hI : Inv σ) (h : Ag [72, 77, 135] σ τ) (nI_ex : I_ex τ) : Inv τ := ⟨(I_tr_fr (σ := σ) (h 2 rfl) (h 89 rfl) (congrFun (h 1 rfl) 0) (congrFun (h 1 rfl) 1) (congrFun (h 1 rfl) 2) (congrFun (h 88 rfl) 0) (congrFun (h 88 rfl) 1) (congrFun (h 88 rfl) 2) hI.1),
  (I_vo_fr (σ := σ) (h 4 rfl) (h 5 rfl) (h 6 rfl) (h 7 rfl) (h 8 rfl) (h 9 rfl) (h 90 rfl) (h 91 rfl) (h 92 rfl) (h 93 rfl) (h 94 rfl) (h 95 rfl) (congrFun (h 3 rfl) 0) (congrFun (h 88 rfl) 4) (congrFun (h 1 rfl) 1) hI.2.1),
  (I_li_fr (σ := σ) (h 9 rfl) (h 11 rfl) (h 12 rfl) (h 13 rfl) (h 14 rfl) (h 15 rfl) (h 16 rfl) (h 17 rfl) (h 96 rfl) (h 97 rfl) (h 98 rfl) (h 99 rfl) (h 100 rfl) (h 101 rfl) (h 102 rfl) (congrFun (h 10 rfl) 0) (congrFun (h 10 rfl) 1) (congrFun (h 88 rfl) 11) (congrFun (h 1 rfl) 0) (congrFun (h 1 rfl) 2) (congrFun (h 3 rfl) 0) hI.2.2.1),
  (I_or_fr (σ := σ) (h 13 rfl) (h 18 rfl) (congrFun (h 10 rfl) 0) hI.2.2.2.1),
  (I_ta_fr (σ := σ) (h 30 rfl) (h 118 rfl) (congrFun (h 0 rfl) 5) (congrFun (h 88 rfl) 36) hI.2.2.2.2.1),
  (I_ba_fr (σ := σ) (h 46 rfl) (h 47 rfl) (h 48 rfl) (h 49 rfl) (h 50 rfl) (h 120 rfl) (h 121 rfl) (h 122 rfl) (h 123 rfl) (h 124 rfl) (h 52 rfl) (h 53 rfl) (h 54 rfl) (h 55 rfl) (h 56 rfl) (h 57 rfl) (h 125 rfl) (congrFun (h 45 rfl) 0) (congrFun (h 45 rfl) 3) (congrFun (h 88 rfl) 48) (congrFun (h 88 rfl) 51) hI.2.2.2.2.2.1),
  nI_ex,
  (I_gu_fr (σ := σ) (h 79 rfl) (h 80 rfl) (h 81 rfl) (h 136 rfl) (h 137 rfl) (h 138 rfl) (congrFun (h 78 rfl) 0) (congrFun (h 78 rfl) 1) (congrFun (h 88 rfl) 71) (congrFun (h 88 rfl) 72) hI.2.2.2.2.2.2.2.1),
  (I_sh_fr (σ := σ) (h 83 rfl) (h 85 rfl) (h 86 rfl) (h 103 rfl) (h 104 rfl) hI.2.2.2.2.2.2.2.2.1),
  (I_wa_fr (σ := σ) (h 87 rfl) (h 130 rfl) (congrFun (h 0 rfl) 14) (congrFun (h 88 rfl) 64) hI.2.2.2.2.2.2.2.2.2.1),
  (I_la_fr (σ := σ) (h 20 rfl) (h 22 rfl) (h 23 rfl) (h 24 rfl) (h 26 rfl) (h 27 rfl) (h 28 rfl) (h 110 rfl) (h 111 rfl) (h 112 rfl) (h 113 rfl) hI.2.2.2.2.2.2.2.2.2.2.1),
  (I_he_fr (σ := σ) (h 119 rfl) hI.2.2.2.2.2.2.2.2.2.2.2)⟩
theorem op_hole {σ : Mm} {f i : Int32} (hI : Inv σ) : Call 120 k_X11_hole [.ref 0, .int f, .int i] σ (fun r τ => Call 120 k_X12_hole [.ref 88, .int f, .int i] τ (fun r' τ' => (∃ x : Int32, r = some (.int x) ∧ r' = some (.int x)) ∧ Inv τ')) := by
  have hex := hI.2.2.2.2.2.2.1
  obtain ⟨⟨x0, x1, x2, x3, x4⟩, ⟨x5, x6⟩, x7, x8⟩ := id hex
  have hr : ∀ i : Nat, i < (σ 71 0).toInt.toNat → (0 ≤ (σ 73 i).toInt ∧ (σ 73 i).toInt ≤ 5) ∧ (0 ≤ (σ 74 i).toInt ∧ (σ 74 i).toInt ≤ 5) := fun i hi => ⟨(x8 i (by omega)).1, (x8 i (by omega)).2.1⟩
  have mb : ∀ {τ : Mm}, Ag [72, 77] σ τ → (fun n => srB (τ 131) (τ 132) (τ 133) (τ 134) f (τ 88 65).toInt.toNat n []) = (fun n => srB (σ 73) (σ 74) (σ 75) (σ 76) f (σ 71 0).toInt.toNat n []) := fun {τ} h => by
    rw [h 131 rfl, h 132 rfl, h 133 rfl, h 134 rfl, h 88 rfl, x0, x1, x2, x3, x4]
  have hmτ : ∀ {τ : Mm}, Ag [72, 77] σ τ → 0 ≤ (τ 88 65).toInt ∧ (τ 88 65).toInt ≤ 16 := fun {τ} h => by
    rw [h 88 rfl, x0]
    exact ⟨x5, x6⟩
  have fin : ∀ {τ υ : Mm}, Ag [72, 77] σ τ → τ 77 = σ 77 → Ag [135] τ υ → Inv υ := fun {τ υ} h1 h2 h3 => by
    have hAg : Ag [72, 77, 135] σ υ := Ag.tr (Ag.wk h1 rfl) (Ag.wk h3 rfl)
    have e77 : υ 77 = σ 77 := (h3 77 rfl).trans h2
    exact Inv_ho hI hAg (I_ex_fr (σ := σ) (hAg 73 rfl) (hAg 74 rfl) (hAg 75 rfl) (hAg 76 rfl) e77 (hAg 131 rfl) (hAg 132 rfl) (hAg 133 rfl) (hAg 134 rfl) (congrFun (hAg 71 rfl) 0) (congrFun (hAg 88 rfl) 65) hex)
  refine cs_hole ⟨x5, x6⟩ hr x7 (fun a => ?_) (fun a b τ hA h77 => ?_) (fun a n R b τ hA h77 => ?_)
  · exact ms_hole (hmτ Ag.rf) (fun _ => ⟨⟨_, rfl, rfl⟩, hI⟩) (fun z => absurd z a) (fun z => absurd z a)
  · refine ms_hole (hmτ hA) (fun z => absurd a z) (fun _ _ υ kA => ⟨⟨_, rfl, rfl⟩, fin hA h77 kA⟩) (fun _ n R z => ?_)
    rw [mb hA, b] at z
    cases z
  · refine ms_hole (hmτ hA) (fun z => absurd a z) (fun _ z => ?_) (fun _ n' R' z υ kA => ?_)
    · rw [mb hA, b] at z
      cases z
    · rw [mb hA, b] at z
      cases z
      exact ⟨⟨_, rfl, rfl⟩, fin hA h77 kA⟩
