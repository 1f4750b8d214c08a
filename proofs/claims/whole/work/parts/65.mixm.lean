theorem and1 (x : Int32) : (x &&& 1).toInt = 0 ∨ (x &&& 1).toInt = 1 := by
  obtain ⟨j, hj, e⟩ := pk_andE x (m := 1) 1 (by decide)
  rw [e, nIt (by omega)]
  omega
theorem mmx0 {x : Int32} : (x.toInt < 0 → mmx 0 x = 0) ∧ (¬ x.toInt < 0 → mmx 0 x = x) := by
  have z : (0 : Int32).toInt = 0 := rfl
  refine ⟨fun h => mmx_le (by omega), fun h => ?_⟩
  by_cases q : 0 < x.toInt
  · exact mmx_gt (by omega)
  · rw [mmx_le (by omega)]
    exact iX (by omega)
theorem allF_nn {c : Nat → Int32} {off : Int32} {n : Nat} : 0 ≤ (allF c off n).toInt := by
  unfold allF
  by_cases q : (sumF c off n).toInt < 0
  · rw [mmx0.1 q]; decide
  · rw [mmx0.2 q]; omega
theorem cap_eq {x a : Int32} (hx : 0 ≤ x.toInt) (ha : 0 ≤ a.toInt) : (a.toInt < x.toInt → mmx 0 (x - a) = x - a) ∧ (¬ a.toInt < x.toInt → mmx 0 (x - a) = 0) := by
  have e : (x - a).toInt = x.toInt - a.toInt := by
    have h1 := Int32.toInt_lt x
    have h2 := Int32.toInt_lt a
    simp only [Int32.toInt_sub, Int.bmod]
    omega
  have z : (0 : Int32).toInt = 0 := rfl
  refine ⟨fun h => mmx0.2 (by omega), fun h => ?_⟩
  by_cases q : (x - a).toInt < 0
  · exact mmx0.1 q
  · rw [mmx0.2 q]
    exact iX (by omega)
theorem m_all {d : Nat} {τ : Mm} {Q : Qt} (hN : 0 ≤ (τ 88 48).toInt ∧ (τ 88 48).toInt ≤ 8) (hQ : Q (some (.int (allF (τ 126) (τ 88 57) (τ 88 48).toInt.toNat))) τ) : Call (d + 1) k_X12_all [.ref 88] τ Q := by
  refine Call_go fun X hX => ?_
  have loop : ∀ (k i : Nat), i + k = (τ 88 48).toInt.toNat → X 8 [.ref 88, .int (sumF (τ 126) (τ 88 57) i), .int (nI i)] [] τ := by
    intro k
    induction k with
    | zero =>
      intro i hi
      rw [Nat.add_zero] at hi
      have e1 := nIt (n := i) (by omega)
      subst hi
      refine go [8] 100 hX ?_
      refine ⟨fun c13 => ?_, fun c13 => ?_⟩
      · exfalso; omega
      · refine ⟨fun c32 => ?_, fun c32 => ?_⟩
        · refine ⟨rfl, trivial, ?_⟩
          unfold allF at hQ
          rw [mmx0.1 c32] at hQ
          exact hQ
        · refine ⟨rfl, trivial, ?_⟩
          unfold allF at hQ
          rw [mmx0.2 c32] at hQ
          exact hQ
    | succ k ih =>
      intro i hi
      have e1 := nIt (n := i) (by omega)
      have e2 := nIn (i := i) (by omega)
      refine go [8] 100 hX ?_
      refine ⟨fun c13 => ?_, fun c13 => ?_⟩
      · refine ⟨_, _, rfl, ⟨by omega, by omega⟩, ?_⟩
        have ih1 := ih (i + 1) (by omega)
        have es : sumF (τ 126) (τ 88 57) (i + 1) = sumF (τ 126) (τ 88 57) i + τ 126 (nI i).toInt.toNat := by rw [e2]; rfl
        rw [es, ← nI_1] at ih1
        exact ih1
      · exfalso; omega
  refine go [8] 20 hX ?_
  exact loop _ 0 (Nat.zero_add _)
def opM : Option Nat → Int32
  | none => -1
  | some l => nI l
set_option maxHeartbeats 4000000 in
theorem m_work {d : Nat} {τ : Mm} {Q : Qt} {p : Int32} (hN : 0 ≤ (τ 88 48).toInt ∧ (τ 88 48).toInt ≤ 8) (hp : 0 ≤ p.toInt ∧ p.toInt < 6) (hpa : 0 ≤ (τ 123 p.toInt.toNat).toInt) (hpa2 : (τ 122 p.toInt.toNat).toInt = 2 → 1 ≤ (τ 123 p.toInt.toNat).toInt) (hQ : ∀ ρ : Mm, (∀ c, c ≠ 126 → c ≠ 88 → ρ c = τ c) → (∀ j, j ≠ 57 → ρ 88 j = τ 88 j) → ρ 88 57 = (wkC (τ 122) (τ 123) (τ 124) (τ 121) (τ 88 48).toInt.toNat p.toInt.toNat (τ 126, τ 88 57)).2 → (∀ i, i < (τ 88 48).toInt.toNat → ρ 126 i = (wkC (τ 122) (τ 123) (τ 124) (τ 121) (τ 88 48).toInt.toNat p.toInt.toNat (τ 126, τ 88 57)).1 i) → Q none ρ) : Call (d + 2) k_X12_work [.ref 88, .int p] τ Q := by
  refine Call_go fun X hX => ?_
  have hpm := pm_le (τ 124) (τ 121) p.toInt.toNat (τ 88 48).toInt.toNat
  have epm := nIt (n := pmF (τ 124) (τ 121) p.toInt.toNat (τ 88 48).toInt.toNat) (by omega)
  have ploop : (τ 122 p.toInt.toNat).toInt = 0 → ∀ (k i : Nat) (ρ : Mm) (y4 : Int32), i + k = (τ 88 48).toInt.toNat → Bt 126 τ ρ → (∀ j, j < i → ρ 126 j = ptF (τ 124) (τ 121) (τ 123) p.toInt.toNat (τ 126) j) → (∀ j, i ≤ j → ρ 126 j = τ 126 j) → X 115 [.ref 88, .int p, .int (opM (plF (τ 124) (τ 121) p.toInt.toNat (τ 126) (τ 88 48).toInt.toNat)), .int (nI (pmF (τ 124) (τ 121) p.toInt.toNat (τ 88 48).toInt.toNat)), .int y4, .int (nI i)] [] ρ := by
    intro c0 k
    induction k with
    | zero =>
      intro i ρ y4 hi hB hd ho
      rw [Nat.add_zero] at hi
      have f88 : ρ 88 = τ 88 := hB 88 (by decide)
      have q48 : (ρ 88 48).toInt = (τ 88 48).toInt := by rw [f88]
      have f121 : ρ 121 = τ 121 := hB 121 (by decide)
      have f123 : ρ 123 = τ 123 := hB 123 (by decide)
      have f124 : ρ 124 = τ 124 := hB 124 (by decide)
      have e1 := nIt (n := i) (by omega)
      refine go [115] 100 hX ?_
      refine ⟨fun c121 => ?_, fun c121 => ?_⟩
      · exfalso; omega
      · refine ⟨rfl, rfl, ?_⟩
        refine hQ ρ (fun c h1 h2 => hB c h1) (fun j hj => by rw [f88]) (by rw [f88, wk_0 c0]) (fun j hj => by rw [wk_0 c0]; exact hd j (by omega))
    | succ k ih =>
      intro i ρ y4 hi hB hd ho
      have f88 : ρ 88 = τ 88 := hB 88 (by decide)
      have q48 : (ρ 88 48).toInt = (τ 88 48).toInt := by rw [f88]
      have f121 : ρ 121 = τ 121 := hB 121 (by decide)
      have f123 : ρ 123 = τ 123 := hB 123 (by decide)
      have f124 : ρ 124 = τ 124 := hB 124 (by decide)
      have e1 := nIt (n := i) (by omega)
      have e2 := nIn (i := i) (by omega)
      refine go [115] 100 hX ?_
      refine ⟨fun c121 => ?_, fun c121 => ?_⟩
      · refine ⟨_, _, rfl, ⟨by omega, by omega⟩, ?_⟩
        refine ⟨_, _, rfl, ⟨by omega, by omega⟩, ?_⟩
        refine ⟨_, _, rfl, ⟨by omega, by omega⟩, ?_⟩
        refine ⟨fun c149 => ?_, fun c149 => ?_⟩
        · refine ⟨_, _, rfl, ⟨by omega, by omega⟩, ?_⟩
          refine ⟨_, _, rfl, ⟨by omega, by omega⟩, ?_⟩
          refine ⟨(by decide), ?_⟩
          refine ⟨_, rfl, ⟨by omega, by omega⟩, ?_⟩
          rw [f124, f121, e2] at c149
          refine (fun ih1 => ?_) (ih (i + 1) (wr ρ 126 (nI i).toInt.toNat (ρ 126 (nI i).toInt.toNat - ρ 126 (nI i).toInt.toNat * ρ 123 p.toInt.toNat / 100)) y4 (by omega) (bt_wr hB) (fun j hj => ?_) (fun j hj => ?_))
          · rw [← nI_1] at ih1
            exact ih1
          · rw [wr_k, e2]
            by_cases q : j = i
            · rw [q, pk_us, ho i (Nat.le_refl i), f123]; exact (if_pos c149).symm
            · rw [pk_un q]; exact hd j (by omega)
          · rw [wr_k, e2, pk_un (by omega)]
            exact ho j (by omega)
        · refine ⟨_, rfl, ⟨by omega, by omega⟩, ?_⟩
          rw [f124, f121, e2] at c149
          refine (fun ih1 => ?_) (ih (i + 1) (wr ρ 126 (nI i).toInt.toNat (ρ 126 (nI i).toInt.toNat - 0)) y4 (by omega) (bt_wr hB) (fun j hj => ?_) (fun j hj => ?_))
          · rw [← nI_1] at ih1
            exact ih1
          · rw [wr_k, e2]
            by_cases q : j = i
            · rw [q, pk_us, ho i (Nat.le_refl i), Int32.sub_zero]; exact (if_neg c149).symm
            · rw [pk_un q]; exact hd j (by omega)
          · rw [wr_k, e2, pk_un (by omega)]
            exact ho j (by omega)
      · exfalso; omega
  have tail : ∀ v4 : Value, X 74 [.ref 88, .int p, .int (opM (plF (τ 124) (τ 121) p.toInt.toNat (τ 126) (τ 88 48).toInt.toNat)), .int (nI (pmF (τ 124) (τ 121) p.toInt.toNat (τ 88 48).toInt.toNat)), v4, .null] [] τ := by
    intro v4
    refine go [115] 100 hX ?_
    refine ⟨rfl, rfl, ?_⟩
    refine m_all hN ?_
    refine ⟨_, _, rfl, ⟨by omega, by omega⟩, ?_⟩
    refine ⟨fun c86_0 => ?_, fun c86_0 => ?_⟩
    · exact ploop c86_0 (τ 88 48).toInt.toNat 0 τ _ (Nat.zero_add _) bt_rf (fun j hj => by omega) (fun j _ => rfl)
    refine ⟨fun c86_1 => ?_, fun c86_1 => ?_⟩
    · refine ⟨_, _, rfl, ⟨by omega, by omega⟩, ?_⟩
      refine ⟨fun c197 => ?_, fun c197 => ?_⟩
      · refine ⟨rfl, rfl, ?_⟩
        refine hQ _ (fun c h1 h2 => wr_c h2) (fun j hj => wr_i hj) ?_ (fun i hi => ?_)
        · rw [wk_1 c86_1]
          refine wr_v.trans ?_
          show _ = if _ then _ else _
          rw [if_pos c197]
          exact Int32.add_zero _
        · rw [wk_1 c86_1]
          rfl
      · refine ⟨_, _, rfl, ⟨by omega, by omega⟩, ?_⟩
        refine ⟨rfl, rfl, ?_⟩
        refine hQ _ (fun c h1 h2 => wr_c h2) (fun j hj => wr_i hj) ?_ (fun i hi => ?_)
        · rw [wk_1 c86_1]
          refine wr_v.trans ?_
          show _ = if _ then _ else _
          rw [if_neg c197]
        · rw [wk_1 c86_1]
          rfl
    refine ⟨fun c86_2 => ?_, fun c86_2 => ?_⟩
    · refine ⟨_, _, rfl, ⟨by omega, by omega⟩, ?_⟩
      refine ⟨fun c224 => ?_, fun c224 => ?_⟩
      · refine ⟨rfl, rfl, ?_⟩
        rw [epm] at c224
        refine hQ τ (fun c h1 h2 => rfl) (fun j hj => rfl) ?_ (fun i hi => ?_)
        · rw [wk_2n c86_2 (Or.inr c224)]
        · rw [wk_2n c86_2 (Or.inr c224)]
      · rw [epm] at c224
        obtain ⟨l, ho⟩ : ∃ l, plF (τ 124) (τ 121) p.toInt.toNat (τ 126) (τ 88 48).toInt.toNat = some l := by
          cases ho : plF (τ 124) (τ 121) p.toInt.toNat (τ 126) (τ 88 48).toInt.toNat with
          | none =>
            have := pl_some _ ho
            omega
          | some l => exact ⟨l, rfl⟩
        have hl := pl_lt _ _ ho
        have el := nIt (n := l) (by omega)
        rw [← epm] at c224
        refine ⟨_, rfl, (by rw [ho]; exact ⟨by show 0 ≤ (nI l).toInt; omega, by show (nI l).toInt < _; omega⟩), ?_⟩
        refine ⟨rfl, rfl, ?_⟩
        rw [epm] at c224
        refine hQ _ (fun c h1 h2 => wr_c h1) (fun j hj => rfl) ?_ (fun i hi => ?_)
        · rw [wk_2 c86_2 ho c224]
          rfl
        · rw [wk_2 c86_2 ho c224]
          show upd (τ 126) (opM (plF (τ 124) (τ 121) p.toInt.toNat (τ 126) (τ 88 48).toInt.toNat)).toInt.toNat 0 i = _
          rw [ho]
          show upd (τ 126) (nI l).toInt.toNat 0 i = _
          rw [nIn (by omega)]
    refine ⟨_, _, rfl, ⟨by omega, by omega⟩, ?_⟩
    refine ⟨fun c252 => ?_, fun c252 => ?_⟩
    · refine ⟨rfl, rfl, ?_⟩
      refine hQ _ (fun c h1 h2 => wr_c h2) (fun j hj => wr_i hj) ?_ (fun i hi => ?_)
      · rw [wk_3 c86_0 c86_1 c86_2]
        refine wr_v.trans ?_
        show _ = if _ then _ else _
        rw [if_pos (by omega)]
        exact Int32.add_zero _
      · rw [wk_3 c86_0 c86_1 c86_2]
        rfl
    · refine ⟨_, _, rfl, ⟨by omega, by omega⟩, ?_⟩
      refine ⟨fun c263 => ?_, fun c263 => ?_⟩
      · refine ⟨_, _, rfl, ⟨by omega, by omega⟩, ?_⟩
        refine ⟨rfl, rfl, ?_⟩
        refine hQ _ (fun c h1 h2 => wr_c h2) (fun j hj => wr_i hj) ?_ (fun i hi => ?_)
        · rw [wk_3 c86_0 c86_1 c86_2]
          refine wr_v.trans ?_
          show _ = if _ then _ else _
          rw [if_neg (by omega), (cap_eq allF_nn hpa).1 c263]
        · rw [wk_3 c86_0 c86_1 c86_2]
          rfl
      · refine ⟨rfl, rfl, ?_⟩
        refine hQ _ (fun c h1 h2 => wr_c h2) (fun j hj => wr_i hj) ?_ (fun i hi => ?_)
        · rw [wk_3 c86_0 c86_1 c86_2]
          refine wr_v.trans ?_
          show _ = if _ then _ else _
          rw [if_neg (by omega), (cap_eq allF_nn hpa).2 c263]
        · rw [wk_3 c86_0 c86_1 c86_2]
          rfl
  have loop : ∀ (k i : Nat), i + k = (τ 88 48).toInt.toNat → X 7 [.ref 88, .int p, .int (opM (plF (τ 124) (τ 121) p.toInt.toNat (τ 126) i)), .int (nI (pmF (τ 124) (τ 121) p.toInt.toNat i)), .int (nI i), .null] [] τ := by
    intro k
    induction k with
    | zero =>
      intro i hi
      rw [Nat.add_zero] at hi
      have e1 := nIt (n := i) (by omega)
      subst hi
      refine go [7, 74] 100 hX ?_
      refine ⟨fun c13 => ?_, fun c13 => ?_⟩
      · exfalso; omega
      · exact tail _
    | succ k ih =>
      intro i hi
      have e1 := nIt (n := i) (by omega)
      have e2 := nIn (i := i) (by omega)
      refine go [7, 74] 100 hX ?_
      refine ⟨fun c13 => ?_, fun c13 => ?_⟩
      · refine ⟨_, _, rfl, ⟨by omega, by omega⟩, ?_⟩
        refine ⟨_, _, rfl, ⟨by omega, by omega⟩, ?_⟩
        refine ⟨fun c32 => ?_, fun c32 => ?_⟩
        · rw [e2] at c32
          have ha := and1 (τ 124 p.toInt.toNat >>> (τ 121 i &&& 31))
          have ih1 := ih (i + 1) (by omega)
          have ns : ¬ srP (τ 124) (τ 121) p.toInt.toNat i := fun z => by have z : (τ 124 p.toInt.toNat >>> (τ 121 i &&& 31) &&& 1).toInt = 1 := z; omega
          rw [pl_n ns, pm_n ns, ← nI_1] at ih1
          exact ih1
        · refine ⟨fun c42 => ?_, fun c42 => ?_⟩
          · rw [e2] at c32
            have ha := and1 (τ 124 p.toInt.toNat >>> (τ 121 i &&& 31))
            have ih1 := ih (i + 1) (by omega)
            have ys : srP (τ 124) (τ 121) p.toInt.toNat i := by show (τ 124 p.toInt.toNat >>> (τ 121 i &&& 31) &&& 1).toInt = 1; omega
            cases ho : plF (τ 124) (τ 121) p.toInt.toNat (τ 126) i with
            | none =>
              rw [pl_0 ys ho, pm_p ys, ← nI_1 i, ← nI_1 (pmF (τ 124) (τ 121) p.toInt.toNat i)] at ih1
              exact ih1
            | some l =>
              rw [ho] at c42
              have hl := pl_lt _ _ ho
              have c42 : (nI l).toInt < 0 := c42
              rw [nIt (by omega)] at c42
              omega
          · have hop : ixs (opM (plF (τ 124) (τ 121) p.toInt.toNat (τ 126) i)) 8 := by
              cases ho : plF (τ 124) (τ 121) p.toInt.toNat (τ 126) i with
              | none => rw [ho] at c42; exact absurd (by decide) c42
              | some l =>
                have hl := pl_lt _ _ ho
                have := nIt (n := l) (by omega)
                exact ⟨by show 0 ≤ (nI l).toInt; omega, by show (nI l).toInt < _; omega⟩
            refine ⟨_, _, rfl, ⟨by omega, by omega⟩, ?_⟩
            refine ⟨_, _, rfl, hop, ?_⟩
            refine ⟨fun c58 => ?_, fun c58 => ?_⟩
            · rw [e2] at c32
              have ha := and1 (τ 124 p.toInt.toNat >>> (τ 121 i &&& 31))
              have ih1 := ih (i + 1) (by omega)
              have ys : srP (τ 124) (τ 121) p.toInt.toNat i := by show (τ 124 p.toInt.toNat >>> (τ 121 i &&& 31) &&& 1).toInt = 1; omega
              cases ho : plF (τ 124) (τ 121) p.toInt.toNat (τ 126) i with
              | none =>
                rw [ho] at c42
                exact absurd (by decide) c42
              | some l =>
                have hl := pl_lt _ _ ho
                have c58 : (τ 126 (nI i).toInt.toNat).toInt < (τ 126 (opM (plF (τ 124) (τ 121) p.toInt.toNat (τ 126) i)).toInt.toNat).toInt := c58
                rw [ho, e2] at c58
                have c58 : (τ 126 i).toInt < (τ 126 (nI l).toInt.toNat).toInt := c58
                rw [nIn (by omega)] at c58
                rw [pl_l ys ho c58, pm_p ys, ← nI_1 i, ← nI_1 (pmF (τ 124) (τ 121) p.toInt.toNat i)] at ih1
                exact ih1
            · rw [e2] at c32
              have ha := and1 (τ 124 p.toInt.toNat >>> (τ 121 i &&& 31))
              have ih1 := ih (i + 1) (by omega)
              have ys : srP (τ 124) (τ 121) p.toInt.toNat i := by show (τ 124 p.toInt.toNat >>> (τ 121 i &&& 31) &&& 1).toInt = 1; omega
              cases ho : plF (τ 124) (τ 121) p.toInt.toNat (τ 126) i with
              | none =>
                rw [ho] at c42
                exact absurd (by decide) c42
              | some l =>
                have hl := pl_lt _ _ ho
                have c58 : ¬ (τ 126 (nI i).toInt.toNat).toInt < (τ 126 (opM (plF (τ 124) (τ 121) p.toInt.toNat (τ 126) i)).toInt.toNat).toInt := c58
                rw [ho, e2] at c58
                have c58 : ¬ (τ 126 i).toInt < (τ 126 (nI l).toInt.toNat).toInt := c58
                rw [nIn (by omega)] at c58
                rw [pl_g ys ho c58, pm_p ys, ← nI_1 i, ← nI_1 (pmF (τ 124) (τ 121) p.toInt.toNat i)] at ih1
                exact ih1
      · exfalso; omega
  refine go [7] 20 hX ?_
  exact loop _ 0 (Nat.zero_add _)
