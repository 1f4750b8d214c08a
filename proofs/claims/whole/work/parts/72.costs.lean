set_option maxHeartbeats 4000000 in
theorem ms_costs {d : Nat} {σ τ0 : Mm} {Q : Qt} {m : Nat} {x : Int32} (hba : I_ba σ) (hm : (σ 45 3).toInt = m) (hm6 : m ≤ 6) (hd : ∀ a, a < m → (σ (52 + a) a).toInt = 0) (hA0 : MmA σ τ0) (h1 : ¬ (0 ≤ x.toInt ∧ x.toInt ≤ 999999) → Q (some (.int (-1000000001))) τ0) (h2 : (0 ≤ x.toInt ∧ x.toInt ≤ 999999) → csF σ m x.toInt.toNat (ndF 10 x.toInt.toNat) [] = none → ∀ τ, MmA σ τ → Q (some (.int (-1000000001))) τ) (h3 : (0 ≤ x.toInt ∧ x.toInt ≤ 999999) → ∀ L, csF σ m x.toInt.toNat (ndF 10 x.toInt.toNat) [] = some L → ∀ τ, MmA σ τ → Q (some (.int (alS σ L))) τ) : Call (d + 4) k_X12_costs [.ref 88, .int x] τ0 Q := by
  refine Call_go fun X hX => ?_
  have loop3 : (0 ≤ x.toInt ∧ x.toInt ≤ 999999) → ∀ n : Nat, n = ndF 10 x.toInt.toNat → n ≤ 6 → ∀ (ρ : Mm) (y : Int32), (∀ c, c ≠ 127 → ρ c = τ0 c) → (∀ j, j < n → ρ 127 j = nI (x.toInt.toNat / 10 ^ (n - 1 - j) % 10) - 1) → ∀ (k i : Nat) (L : List Nat), i + k = n → L.length = i → arr (ρ 127) L → vlS σ m L → csF σ m x.toInt.toNat (n - i) L = csF σ m x.toInt.toNat n [] → X 71 [.ref 88, .int x, .int (nI n), .int y, .int (nI i)] [] ρ := by
    intro hok n hnd hn6 ρ y h1 hrow k
    induction k with
    | zero =>
      intro i L hi hlen hal hv hres
      rw [Nat.add_zero] at hi
      have e1 := nIt (n := i) (by omega)
      have en' := nIt (n := n) (by omega)
      refine go [71] 60 hX ?_
      refine ⟨fun c74 => ?_, fun c74 => ?_⟩
      · exfalso; omega
      · refine ⟨rfl, rfl, ?_⟩
        refine m_costsOf (σ := σ) (L := L) hba hm hm6 (mm_tr hA0 (fun c hc => h1 c (fun z => by rw [z] at hc; cases hc)) (fun j hj => by rw [h1 88 (by decide)])) hal (by omega) (vl_at hv) (by rw [hlen, hi]) (fun h118a h118b h118c h118d => ?_)
        refine ⟨rfl, trivial, ?_⟩
        have hMr : MmA σ ρ := mm_tr hA0 (fun c hc => h1 c (fun z => by rw [z] at hc; cases hc)) (fun j hj => by rw [h1 88 (by decide)])
        subst hi
        rw [Nat.sub_self] at hres
        exact h3 hok L (by rw [← hnd, ← hres]; rfl) h118a (mm_tr hMr (Ag.wk h118b rfl) (fun j hj => h118c j (fun z => by rw [z] at hj; cases hj)))
    | succ k ih =>
      intro i L hi hlen hal hv hres
      have e1 := nIt (n := i) (by omega)
      have en' := nIt (n := n) (by omega)
      have e2 := nIn (i := i) (by omega)
      have hMr : MmA σ ρ := mm_tr hA0 (fun c hc => h1 c (fun z => by rw [z] at hc; cases hc)) (fun j hj => by rw [h1 88 (by decide)])
      have hr0 : ρ 127 (nI i).toInt.toNat = nI (x.toInt.toNat / 10 ^ (n - 1 - i) % 10) - 1 := by rw [e2]; exact hrow i (by omega)
      have hdg : x.toInt.toNat / 10 ^ (n - 1 - i) % 10 < 10 := Nat.mod_lt _ (by decide)
      have edt : (nI (x.toInt.toNat / 10 ^ (n - 1 - i) % 10) - 1).toInt = ((x.toInt.toNat / 10 ^ (n - 1 - i) % 10 : Nat) : Int) - 1 := by rw [sub1 (by rw [nIt (by omega)]; omega), nIt (by omega)]
      have hsu : n - i = (n - 1 - i) + 1 := by omega
      rw [hsu] at hres
      have q51 : (ρ 88 51).toInt = m := by rw [hMr.2 51 rfl, hba.1.2.1, hm]
      have hlL : L.length = i := hlen
      generalize hq : x.toInt.toNat / 10 ^ (n - 1 - i) % 10 = qd at *
      refine go [71] 60 hX ?_
      refine ⟨fun c74 => ?_, fun c74 => ?_⟩
      · refine ⟨_, _, rfl, ⟨by omega, by omega⟩, ?_⟩
        refine ⟨rfl, rfl, ?_⟩
        refine m_isPromotion (by omega) ?_
        refine ⟨fun c88 => ?_, fun c88 => ?_⟩
        · replace c88 := bI_z c88
          refine ⟨rfl, trivial, ?_⟩
          rw [hr0, edt, q51] at c88
          exact h2 hok (by rw [← hnd, ← hres]; exact csF_n (fun z => by rw [hq] at z; omega)) ρ hMr
        · replace c88 := bI_nz c88
          rw [hr0, edt, q51] at c88
          have epn : nI qd - 1 = nI (qd - 1) := by
            obtain ⟨z, hz⟩ : ∃ z, qd = z + 1 := ⟨qd - 1, by omega⟩
            rw [hz, nI_pred]
            rfl
          refine ⟨_, _, rfl, ⟨by omega, by omega⟩, ?_⟩
          refine ⟨rfl, rfl, ?_⟩
          refine m_mayCome (σ := σ) (L := L) (q := qd - 1) hba hm hm6 hMr hal (by omega) (vl_at hv) (by omega) (hr0.trans epn) (by rw [hlL]) ?_
          refine ⟨fun c104 => ?_, fun c104 => ?_⟩
          · replace c104 := bI_z c104
            refine ⟨rfl, trivial, ?_⟩
            exact h2 hok (by rw [← hnd, ← hres]; exact csF_n (fun z => c104 (by rw [hq] at z; exact z.2.2))) ρ hMr
          · replace c104 := bI_nz c104
            have hcp := csF_p (σ := σ) (m := m) (D := x.toInt.toNat) (u := n - 1 - i) (L := L) (by rw [hq]; exact ⟨by omega, by omega, c104⟩)
            rw [hq] at hcp
            have ih1 := ih (i + 1) ((qd - 1) :: L) (by omega) (by rw [List.length_cons, hlL]) ⟨by rw [hlL, ← e2, hr0, epn], hal⟩ ⟨by omega, c104, hv⟩ (by rw [show n - (i + 1) = n - 1 - i by omega, ← hcp]; exact hres)
            rw [← nI_1] at ih1
            exact ih1
      · exfalso; omega
  have loop2 : (0 ≤ x.toInt ∧ x.toInt ≤ 999999) → ∀ n : Nat, n = ndF 10 x.toInt.toNat → n ≤ 6 → ∀ (k : Nat) (ρ : Mm) (y : Int32), k ≤ n → y = nI (x.toInt.toNat / 10 ^ (n - k)) → (∀ c, c ≠ 127 → ρ c = τ0 c) → (∀ j, k ≤ j → j < n → ρ 127 j = nI (x.toInt.toNat / 10 ^ (n - 1 - j) % 10) - 1) → X 39 [.ref 88, .int x, .int (nI n), .int y, .int (nI k - 1)] [] ρ := by
    intro hok n hn hn6 k
    induction k with
    | zero =>
      intro ρ y hk hy h1 h2
      refine go [39, 71] 60 hX ?_
      refine ⟨fun c41 => ?_, fun c41 => ?_⟩
      · exact loop3 hok n hn hn6 ρ y h1 (fun j hj => h2 j (Nat.zero_le j) hj) n 0 [] (Nat.zero_add _) rfl True.intro True.intro rfl
      · exfalso; exact c41 (by decide)
    | succ k ih =>
      intro ρ y hk hy h1 h2
      refine go [39, 71] 60 hX ?_
      refine ⟨fun c41 => ?_, fun c41 => ?_⟩
      · exfalso; rw [nI_pred, nIt (by omega)] at c41; omega
      · refine ⟨(by decide), ?_⟩
        refine ⟨_, rfl, (by rw [nI_pred]; exact ⟨by rw [nIt (by omega)]; omega, by rw [nIt (by omega)]; omega⟩), ?_⟩
        refine ⟨(by decide), ?_⟩
        have hpw : 0 < 10 ^ (n - (k + 1)) := Nat.pow_pos (show 0 < 10 by decide)
        have hdl : x.toInt.toNat / 10 ^ (n - (k + 1)) ≤ x.toInt.toNat := Nat.div_le_self _ _
        have ey1 : y - y / 10 * 10 = nI (x.toInt.toNat / 10 ^ (n - (k + 1)) % 10) := by rw [hy]; exact rem10 (by omega)
        have ey2 : y / 10 = nI (x.toInt.toNat / 10 ^ (n - k)) := by
          have e : (10 : Int32) = nI 10 := rfl
          rw [hy, e, divN (by omega) (by decide) (by decide), Nat.div_div_eq_div_mul, ← Nat.pow_succ, show (n - (k + 1)).succ = n - k by omega]
        refine (fun ih1 => ?_) (ih (wr ρ 127 (nI (k + 1) - 1).toInt.toNat (y - y / 10 * 10 - 1)) (y / 10) (by omega) ey2 (fun c hc => (wr_c hc).trans (h1 c hc)) (fun j z1 z2 => ?_))
        · rw [show nI k - 1 = nI (k + 1) - 1 + (-1) by rw [nI_pred, Int32.sub_eq_add_neg]] at ih1
          exact ih1
        · rw [wr_k, nI_pred, nIn (by omega)]
          by_cases q : j = k
          · rw [q, pk_us, ey1, show n - (k + 1) = n - 1 - k by omega]
          · rw [pk_un q]
            exact h2 j (by omega) z2
  have from19 : ∀ n : Nat, (0 ≤ x.toInt → n = ndF 10 x.toInt.toNat) → n ≤ 20 → X 19 [.ref 88, .int x, .int (nI n), .int 0, .null] [] τ0 := by
    intro n hn hn20
    have en := nIt (n := n) (by omega)
    refine go [39] 60 hX ?_
    refine ⟨fun c20 => ?_, fun c20 => ?_⟩
    · refine ⟨rfl, trivial, ?_⟩
      exact h1 (by omega)
    · refine ⟨fun c26 => ?_, fun c26 => ?_⟩
      · refine ⟨rfl, trivial, ?_⟩
        rw [en, hn (by omega)] at c26
        simp only [Int32.reduceToInt] at c26
        have h6 := nd_iff 10 x.toInt.toNat 6 (by omega)
        exact h1 (by omega)
      · rw [en] at c26
        simp only [Int32.reduceToInt] at c26
        have h0 := hn (by omega)
        have h6 := nd_iff 10 x.toInt.toNat 6 (by omega)
        have hok : (0 ≤ x.toInt ∧ x.toInt ≤ 999999) := by omega
        rw [h0]
        have h2' := loop2 hok n (by omega) (by omega) n τ0 x (Nat.le_refl n) (by rw [Nat.sub_self, Nat.pow_zero, Nat.div_one]; exact (nIx (by omega)).symm) (fun c _ => rfl) (fun j h1 h2 => by omega)
        rw [← h0]
        exact h2'
  have loop1 : ∀ (k c : Nat) (v : Int32), v.toInt.natAbs < 10 ^ k → c + k ≤ 20 → (∀ n', (0 ≤ v.toInt → n' = c + ndF k v.toInt.toNat) → n' ≤ 20 → X 19 [.ref 88, .int x, .int (nI n'), .int 0, .null] [] τ0) → X 4 [.ref 88, .int x, .int (nI c), .int v, .null] [] τ0 := by
    intro k
    induction k with
    | zero =>
      intro c v hv hc hK
      rw [Nat.pow_zero] at hv
      refine go [4, 19] 40 hX ?_
      refine ⟨fun c5 => ?_, fun c5 => ?_⟩
      · have ev : v = 0 := iX (by have : (0 : Int32).toInt = 0 := rfl; omega)
        subst ev
        exact hK c (fun _ => rfl) (by omega)
      · exfalso; omega
    | succ k ih =>
      intro c v hv hc hK
      refine go [4, 19] 40 hX ?_
      refine ⟨fun c5 => ?_, fun c5 => ?_⟩
      · have ev : v = 0 := iX (by have : (0 : Int32).toInt = 0 := rfl; omega)
        subst ev
        exact hK c (fun _ => (by unfold ndF; rw [if_pos (by decide)]; rfl)) (by omega)
      · refine ⟨(by decide), ?_⟩
        have hdv : (v / 10).toInt = v.toInt.tdiv 10 := Int32.toInt_div_of_ne_right _ _ (by decide)
        have hab : (v / 10).toInt.natAbs < 10 ^ k := by
          rw [hdv, Int.natAbs_tdiv]
          rw [Nat.pow_succ] at hv
          exact Nat.div_lt_of_lt_mul (by rw [Nat.mul_comm]; exact hv)
        refine (fun ih1 => ?_) (ih (c + 1) (v / 10) hab (by omega) (fun n' h1 h2 => hK n' (fun z => ?_) h2))
        · rw [← nI_1] at ih1
          exact ih1
        · have e0 : (v / 10).toInt = v.toInt / 10 := by rw [hdv, Int.tdiv_eq_ediv_of_nonneg z]
          have hnd : ndF (k + 1) v.toInt.toNat = ndF k (v.toInt.toNat / 10) + 1 := if_neg (by omega)
          rw [h1 (by omega), hnd, show (v / 10).toInt.toNat = v.toInt.toNat / 10 by omega]
          omega
  refine go [4] 20 hX ?_
  refine loop1 10 0 x ?_ (by decide) (fun n' h1 h2 => from19 n' (fun z => by rw [h1 z, Nat.zero_add]) h2)
  have a := Int32.le_toInt x
  have b := Int32.toInt_lt x
  show x.toInt.natAbs < 10000000000
  omega
theorem cs_costsB {d : Nat} {σ : Mm} {Q : Qt} {x : Int32} (hx : ¬ (0 ≤ x.toInt ∧ x.toInt ≤ 999999)) (h1 : Q (some (.int (-1000000001))) σ) : Call (d + 6) k_X11_costs [.ref 0, .int x] σ Q := by
  refine Call_go fun X hX => ?_
  refine go [14] 30 hX ?_
  refine ⟨rfl, ?_⟩
  refine s_withinK (l := 0) (h := 999999) (by decide) (by decide) ?_
  refine ⟨fun c8 => ?_, fun c8 => ?_⟩
  · replace c8 := bI_z c8
    refine ⟨rfl, trivial, ?_⟩
    exact h1
  · replace c8 := bI_nz c8
    exfalso; omega
theorem op_costs {σ : Mm} {x : Int32} (hI : Inv σ) : Call 120 k_X11_costs [.ref 0, .int x] σ (fun r τ => Call 120 k_X12_costs [.ref 88, .int x] τ (fun r' τ' => (∃ x : Int32, r = some (.int x) ∧ r' = some (.int x)) ∧ Inv τ')) := by
  have hba := hI.2.2.2.2.2.1
  obtain ⟨hm, hm6, hNN, hd⟩ := ba_m hba
  by_cases hok : (0 ≤ x.toInt ∧ x.toInt ≤ 999999)
  · have hx := nIx hok.1
    have h := cs_costs (d := 114) (σ := σ) (m := (σ 45 3).toInt.toNat) (D := x.toInt.toNat) (Q := fun r τ => Call 120 k_X12_costs [.ref 88, .int x] τ (fun r' τ' => (∃ x : Int32, r = some (.int x) ∧ r' = some (.int x)) ∧ Inv τ')) hm hm6 hNN hd (by omega)
    rw [hx] at h
    refine h (fun a τ hA => ?_) (fun L a τ hA => ?_)
    · refine ms_costs hba hm hm6 hd (mm_of hA) (fun z => absurd hok z) (fun _ _ υ k => ⟨⟨_, rfl, rfl⟩, inv_mm hI k⟩) (fun _ L z => ?_)
      rw [a] at z
      cases z
    · refine ms_costs hba hm hm6 hd (mm_of hA) (fun z => absurd hok z) (fun _ z => ?_) (fun _ L' z υ k => ?_)
      · rw [a] at z
        cases z
      · rw [a] at z
        cases z
        exact ⟨⟨_, rfl, rfl⟩, inv_mm hI k⟩
  · refine cs_costsB hok ?_
    exact ms_costs hba hm hm6 hd mm_rf (fun _ => ⟨⟨_, rfl, rfl⟩, hI⟩) (fun z => absurd z hok) (fun z => absurd z hok)
