/-- the law's loop: from memories that agree it comes to true -/
theorem law_loop {L : Nat} {xs : Nat → Int32} {Q : Qt} {X : Kt} (hX : Clo (Call 120) (some (L, xs)) (some .boolean) e_law Q X) (hL : L ≤ 3584) (hQ : ∀ σ, Inv σ → Q (some (.int 1)) σ) : ∀ (j i : Nat) (σ : Mm), L ≤ i + j → i ≤ 3584 → Inv σ → X 18 [.ref 1000, .ref 0, .ref 88, .int (nI i)] [] σ := by
  intro j
  have eL : (nI L - 7).toInt = (L : Int) - 7 := by
    have a := nIt (n := L) (by omega)
    simp only [Int32.toInt_sub, a, Int32.reduceToInt, Int.bmod]
    omega
  have fin : ∀ (i : Nat) (σ : Mm), Inv σ → X 1589 [.ref 1000, .ref 0, .ref 88, .int (nI i)] [] σ := by
    intro i σ hI
    refine go [] 10 hX ?_
    exact ⟨by decide, Or.inr rfl, hQ σ hI⟩
  induction j with
  | zero =>
    intro i σ hj hi hI
    have ei := nIt (n := i) (by omega)
    refine go [18, 1589] 30 hX ?_
    refine ⟨_, rfl, ?_⟩
    refine ⟨fun c24 => ?_, fun c24 => ?_⟩
    · exact fin i σ hI
    · exact absurd (by rw [eL, ei]; omega) c24
  | succ j ih =>
    intro i σ hj hi hI
    have ei := nIt (n := i) (by omega)
    refine go [18, 1583, 1589] 150 hX ?_
    refine ⟨_, rfl, ?_⟩
    refine ⟨fun c24 => ?_, fun c24 => ?_⟩
    · exact fin i σ hI
    have hiL : i + 7 ≤ L := by rw [eL, ei] at c24; omega
    have nxt : ∀ τ, Inv τ → X 1583 [.ref 1000, .ref 0, .ref 88, .int (nI i)] [] τ := by
      intro τ hτ
      refine go [18] 10 hX ?_
      have q := ih (i + 7) τ (by omega) (by omega) hτ
      rw [← nI_add] at q
      exact q
    have hbd : ∀ k : Nat, k < 7 → nI i + nI k = nI (i + k) → ixs (nI i + nI k) L := by
      intro k hk e
      rw [e]
      have z := nIt (n := i + k) (by omega)
      exact ⟨by omega, by omega⟩
    refine ⟨_, _, rfl, ⟨by omega, by omega⟩, ?_⟩
    refine ⟨fun c33 => ?_, fun c33 => ?_⟩
    · refine ⟨rfl, rfl, ?_⟩
      refine Call_m 120 _ _ _ _ _ (fun r τ hc => ?_) (op_firm hI)
      cases r with
      | none =>
        refine ⟨rfl, rfl, ?_⟩
        refine Call_m 120 _ _ _ _ _ (fun r' τ' hd => ?_) hc
        obtain ⟨⟨x, q1, q2⟩, hI'⟩ := hd
        cases q1
      | some w =>
        refine ⟨rfl, rfl, ?_⟩
        refine Call_m 120 _ _ _ _ _ (fun r' τ' hd => ?_) hc
        obtain ⟨⟨x, q1, q2⟩, hI'⟩ := hd
        cases q1
        subst q2
        refine ⟨fun _ => ?_, fun z => absurd rfl z⟩
        exact nxt τ' hI'
    clear c33
    refine ⟨fun c33 => ?_, fun c33 => ?_⟩
    · refine ⟨_, _, rfl, (hbd 1 (by decide) (nI_add i 1)), ?_⟩
      refine ⟨rfl, rfl, ?_⟩
      refine Call_m 120 _ _ _ _ _ (fun r τ hc => ?_) (op_shop hI)
      cases r with
      | none =>
        refine ⟨_, _, rfl, (hbd 1 (by decide) (nI_add i 1)), ?_⟩
        refine ⟨rfl, rfl, ?_⟩
        refine Call_m 120 _ _ _ _ _ (fun r' τ' hd => ?_) hc
        obtain ⟨⟨x, q1, q2⟩, hI'⟩ := hd
        cases q1
      | some w =>
        refine ⟨_, _, rfl, (hbd 1 (by decide) (nI_add i 1)), ?_⟩
        refine ⟨rfl, rfl, ?_⟩
        refine Call_m 120 _ _ _ _ _ (fun r' τ' hd => ?_) hc
        obtain ⟨⟨x, q1, q2⟩, hI'⟩ := hd
        cases q1
        subst q2
        refine ⟨fun _ => ?_, fun z => absurd rfl z⟩
        exact nxt τ' hI'
    clear c33
    refine ⟨fun c33 => ?_, fun c33 => ?_⟩
    · refine ⟨_, _, rfl, (hbd 1 (by decide) (nI_add i 1)), ?_⟩
      refine ⟨rfl, rfl, ?_⟩
      refine Call_m 120 _ _ _ _ _ (fun r τ hc => ?_) (op_days hI)
      cases r with
      | none =>
        refine ⟨_, _, rfl, (hbd 1 (by decide) (nI_add i 1)), ?_⟩
        refine ⟨rfl, rfl, ?_⟩
        refine Call_m 120 _ _ _ _ _ (fun r' τ' hd => ?_) hc
        obtain ⟨⟨x, q1, q2⟩, hI'⟩ := hd
        cases q1
      | some w =>
        refine ⟨_, _, rfl, (hbd 1 (by decide) (nI_add i 1)), ?_⟩
        refine ⟨rfl, rfl, ?_⟩
        refine Call_m 120 _ _ _ _ _ (fun r' τ' hd => ?_) hc
        obtain ⟨⟨x, q1, q2⟩, hI'⟩ := hd
        cases q1
        subst q2
        refine ⟨fun _ => ?_, fun z => absurd rfl z⟩
        exact nxt τ' hI'
    clear c33
    refine ⟨fun c33 => ?_, fun c33 => ?_⟩
    · refine ⟨_, _, rfl, (hbd 1 (by decide) (nI_add i 1)), ?_⟩
      refine ⟨_, _, rfl, (hbd 2 (by decide) (nI_add i 2)), ?_⟩
      refine ⟨_, _, rfl, (hbd 3 (by decide) (nI_add i 3)), ?_⟩
      refine ⟨_, _, rfl, (hbd 4 (by decide) (nI_add i 4)), ?_⟩
      refine ⟨_, _, rfl, (hbd 5 (by decide) (nI_add i 5)), ?_⟩
      refine ⟨_, _, rfl, (hbd 6 (by decide) (nI_add i 6)), ?_⟩
      refine ⟨rfl, rfl, ?_⟩
      refine Call_m 120 _ _ _ _ _ (fun r τ hc => ?_) (op_begin hI)
      cases r with
      | none =>
        refine ⟨_, _, rfl, (hbd 1 (by decide) (nI_add i 1)), ?_⟩
        refine ⟨_, _, rfl, (hbd 2 (by decide) (nI_add i 2)), ?_⟩
        refine ⟨_, _, rfl, (hbd 3 (by decide) (nI_add i 3)), ?_⟩
        refine ⟨_, _, rfl, (hbd 4 (by decide) (nI_add i 4)), ?_⟩
        refine ⟨_, _, rfl, (hbd 5 (by decide) (nI_add i 5)), ?_⟩
        refine ⟨_, _, rfl, (hbd 6 (by decide) (nI_add i 6)), ?_⟩
        refine ⟨rfl, rfl, ?_⟩
        refine Call_m 120 _ _ _ _ _ (fun r' τ' hd => ?_) hc
        obtain ⟨⟨x, q1, q2⟩, hI'⟩ := hd
        cases q1
      | some w =>
        refine ⟨_, _, rfl, (hbd 1 (by decide) (nI_add i 1)), ?_⟩
        refine ⟨_, _, rfl, (hbd 2 (by decide) (nI_add i 2)), ?_⟩
        refine ⟨_, _, rfl, (hbd 3 (by decide) (nI_add i 3)), ?_⟩
        refine ⟨_, _, rfl, (hbd 4 (by decide) (nI_add i 4)), ?_⟩
        refine ⟨_, _, rfl, (hbd 5 (by decide) (nI_add i 5)), ?_⟩
        refine ⟨_, _, rfl, (hbd 6 (by decide) (nI_add i 6)), ?_⟩
        refine ⟨rfl, rfl, ?_⟩
        refine Call_m 120 _ _ _ _ _ (fun r' τ' hd => ?_) hc
        obtain ⟨⟨x, q1, q2⟩, hI'⟩ := hd
        cases q1
        subst q2
        refine ⟨fun _ => ?_, fun z => absurd rfl z⟩
        exact nxt τ' hI'
    clear c33
    refine ⟨fun c33 => ?_, fun c33 => ?_⟩
    · refine ⟨_, _, rfl, (hbd 1 (by decide) (nI_add i 1)), ?_⟩
      refine ⟨_, _, rfl, (hbd 2 (by decide) (nI_add i 2)), ?_⟩
      refine ⟨rfl, rfl, ?_⟩
      refine Call_m 120 _ _ _ _ _ (fun r τ hc => ?_) (op_isOf hI)
      cases r with
      | none =>
        refine ⟨_, _, rfl, (hbd 1 (by decide) (nI_add i 1)), ?_⟩
        refine ⟨_, _, rfl, (hbd 2 (by decide) (nI_add i 2)), ?_⟩
        refine ⟨rfl, rfl, ?_⟩
        refine Call_m 120 _ _ _ _ _ (fun r' τ' hd => ?_) hc
        obtain ⟨⟨x, q1, q2⟩, hI'⟩ := hd
        cases q1
      | some w =>
        refine ⟨_, _, rfl, (hbd 1 (by decide) (nI_add i 1)), ?_⟩
        refine ⟨_, _, rfl, (hbd 2 (by decide) (nI_add i 2)), ?_⟩
        refine ⟨rfl, rfl, ?_⟩
        refine Call_m 120 _ _ _ _ _ (fun r' τ' hd => ?_) hc
        obtain ⟨⟨x, q1, q2⟩, hI'⟩ := hd
        cases q1
        subst q2
        refine ⟨fun _ => ?_, fun z => absurd rfl z⟩
        exact nxt τ' hI'
    clear c33
    refine ⟨fun c33 => ?_, fun c33 => ?_⟩
    · refine ⟨_, _, rfl, (hbd 1 (by decide) (nI_add i 1)), ?_⟩
      refine ⟨_, _, rfl, (hbd 2 (by decide) (nI_add i 2)), ?_⟩
      refine ⟨_, _, rfl, (hbd 3 (by decide) (nI_add i 3)), ?_⟩
      refine ⟨_, _, rfl, (hbd 4 (by decide) (nI_add i 4)), ?_⟩
      refine ⟨rfl, rfl, ?_⟩
      refine Call_m 120 _ _ _ _ _ (fun r τ hc => ?_) (op_spend hI)
      cases r with
      | none =>
        refine ⟨_, _, rfl, (hbd 1 (by decide) (nI_add i 1)), ?_⟩
        refine ⟨_, _, rfl, (hbd 2 (by decide) (nI_add i 2)), ?_⟩
        refine ⟨_, _, rfl, (hbd 3 (by decide) (nI_add i 3)), ?_⟩
        refine ⟨_, _, rfl, (hbd 4 (by decide) (nI_add i 4)), ?_⟩
        refine ⟨rfl, rfl, ?_⟩
        refine Call_m 120 _ _ _ _ _ (fun r' τ' hd => ?_) hc
        obtain ⟨⟨x, q1, q2⟩, hI'⟩ := hd
        cases q1
      | some w =>
        refine ⟨_, _, rfl, (hbd 1 (by decide) (nI_add i 1)), ?_⟩
        refine ⟨_, _, rfl, (hbd 2 (by decide) (nI_add i 2)), ?_⟩
        refine ⟨_, _, rfl, (hbd 3 (by decide) (nI_add i 3)), ?_⟩
        refine ⟨_, _, rfl, (hbd 4 (by decide) (nI_add i 4)), ?_⟩
        refine ⟨rfl, rfl, ?_⟩
        refine Call_m 120 _ _ _ _ _ (fun r' τ' hd => ?_) hc
        obtain ⟨⟨x, q1, q2⟩, hI'⟩ := hd
        cases q1
        subst q2
        refine ⟨fun _ => ?_, fun z => absurd rfl z⟩
        exact nxt τ' hI'
    clear c33
    refine ⟨fun c33 => ?_, fun c33 => ?_⟩
    · refine ⟨_, _, rfl, (hbd 1 (by decide) (nI_add i 1)), ?_⟩
      refine ⟨_, _, rfl, (hbd 2 (by decide) (nI_add i 2)), ?_⟩
      refine ⟨_, _, rfl, (hbd 3 (by decide) (nI_add i 3)), ?_⟩
      refine ⟨rfl, rfl, ?_⟩
      refine Call_m 120 _ _ _ _ _ (fun r τ hc => ?_) (op_load hI)
      cases r with
      | none =>
        refine ⟨_, _, rfl, (hbd 1 (by decide) (nI_add i 1)), ?_⟩
        refine ⟨_, _, rfl, (hbd 2 (by decide) (nI_add i 2)), ?_⟩
        refine ⟨_, _, rfl, (hbd 3 (by decide) (nI_add i 3)), ?_⟩
        refine ⟨rfl, rfl, ?_⟩
        refine Call_m 120 _ _ _ _ _ (fun r' τ' hd => ?_) hc
        obtain ⟨⟨x, q1, q2⟩, hI'⟩ := hd
        cases q1
      | some w =>
        refine ⟨_, _, rfl, (hbd 1 (by decide) (nI_add i 1)), ?_⟩
        refine ⟨_, _, rfl, (hbd 2 (by decide) (nI_add i 2)), ?_⟩
        refine ⟨_, _, rfl, (hbd 3 (by decide) (nI_add i 3)), ?_⟩
        refine ⟨rfl, rfl, ?_⟩
        refine Call_m 120 _ _ _ _ _ (fun r' τ' hd => ?_) hc
        obtain ⟨⟨x, q1, q2⟩, hI'⟩ := hd
        cases q1
        subst q2
        refine ⟨fun _ => ?_, fun z => absurd rfl z⟩
        exact nxt τ' hI'
    clear c33
    refine ⟨fun c33 => ?_, fun c33 => ?_⟩
    · refine ⟨_, _, rfl, (hbd 1 (by decide) (nI_add i 1)), ?_⟩
      refine ⟨_, _, rfl, (hbd 2 (by decide) (nI_add i 2)), ?_⟩
      refine ⟨_, _, rfl, (hbd 3 (by decide) (nI_add i 3)), ?_⟩
      refine ⟨_, _, rfl, (hbd 4 (by decide) (nI_add i 4)), ?_⟩
      refine ⟨rfl, rfl, ?_⟩
      refine Call_m 120 _ _ _ _ _ (fun r τ hc => ?_) (op_split hI)
      cases r with
      | none =>
        refine ⟨_, _, rfl, (hbd 1 (by decide) (nI_add i 1)), ?_⟩
        refine ⟨_, _, rfl, (hbd 2 (by decide) (nI_add i 2)), ?_⟩
        refine ⟨_, _, rfl, (hbd 3 (by decide) (nI_add i 3)), ?_⟩
        refine ⟨_, _, rfl, (hbd 4 (by decide) (nI_add i 4)), ?_⟩
        refine ⟨rfl, rfl, ?_⟩
        refine Call_m 120 _ _ _ _ _ (fun r' τ' hd => ?_) hc
        obtain ⟨⟨x, q1, q2⟩, hI'⟩ := hd
        cases q1
      | some w =>
        refine ⟨_, _, rfl, (hbd 1 (by decide) (nI_add i 1)), ?_⟩
        refine ⟨_, _, rfl, (hbd 2 (by decide) (nI_add i 2)), ?_⟩
        refine ⟨_, _, rfl, (hbd 3 (by decide) (nI_add i 3)), ?_⟩
        refine ⟨_, _, rfl, (hbd 4 (by decide) (nI_add i 4)), ?_⟩
        refine ⟨rfl, rfl, ?_⟩
        refine Call_m 120 _ _ _ _ _ (fun r' τ' hd => ?_) hc
        obtain ⟨⟨x, q1, q2⟩, hI'⟩ := hd
        cases q1
        subst q2
        refine ⟨fun _ => ?_, fun z => absurd rfl z⟩
        exact nxt τ' hI'
    clear c33
    refine ⟨fun c33 => ?_, fun c33 => ?_⟩
    · refine ⟨_, _, rfl, (hbd 1 (by decide) (nI_add i 1)), ?_⟩
      refine ⟨_, _, rfl, (hbd 2 (by decide) (nI_add i 2)), ?_⟩
      refine ⟨_, _, rfl, (hbd 3 (by decide) (nI_add i 3)), ?_⟩
      refine ⟨_, _, rfl, (hbd 4 (by decide) (nI_add i 4)), ?_⟩
      refine ⟨rfl, rfl, ?_⟩
      refine Call_m 120 _ _ _ _ _ (fun r τ hc => ?_) (op_back hI)
      cases r with
      | none =>
        refine ⟨_, _, rfl, (hbd 1 (by decide) (nI_add i 1)), ?_⟩
        refine ⟨_, _, rfl, (hbd 2 (by decide) (nI_add i 2)), ?_⟩
        refine ⟨_, _, rfl, (hbd 3 (by decide) (nI_add i 3)), ?_⟩
        refine ⟨_, _, rfl, (hbd 4 (by decide) (nI_add i 4)), ?_⟩
        refine ⟨rfl, rfl, ?_⟩
        refine Call_m 120 _ _ _ _ _ (fun r' τ' hd => ?_) hc
        obtain ⟨⟨x, q1, q2⟩, hI'⟩ := hd
        cases q1
      | some w =>
        refine ⟨_, _, rfl, (hbd 1 (by decide) (nI_add i 1)), ?_⟩
        refine ⟨_, _, rfl, (hbd 2 (by decide) (nI_add i 2)), ?_⟩
        refine ⟨_, _, rfl, (hbd 3 (by decide) (nI_add i 3)), ?_⟩
        refine ⟨_, _, rfl, (hbd 4 (by decide) (nI_add i 4)), ?_⟩
        refine ⟨rfl, rfl, ?_⟩
        refine Call_m 120 _ _ _ _ _ (fun r' τ' hd => ?_) hc
        obtain ⟨⟨x, q1, q2⟩, hI'⟩ := hd
        cases q1
        subst q2
        refine ⟨fun _ => ?_, fun z => absurd rfl z⟩
        exact nxt τ' hI'
    clear c33
    refine ⟨fun c33 => ?_, fun c33 => ?_⟩
    · refine ⟨_, _, rfl, (hbd 1 (by decide) (nI_add i 1)), ?_⟩
      refine ⟨_, _, rfl, (hbd 2 (by decide) (nI_add i 2)), ?_⟩
      refine ⟨_, _, rfl, (hbd 3 (by decide) (nI_add i 3)), ?_⟩
      refine ⟨rfl, rfl, ?_⟩
      refine Call_m 120 _ _ _ _ _ (fun r τ hc => ?_) (op_lose hI)
      cases r with
      | none =>
        refine ⟨_, _, rfl, (hbd 1 (by decide) (nI_add i 1)), ?_⟩
        refine ⟨_, _, rfl, (hbd 2 (by decide) (nI_add i 2)), ?_⟩
        refine ⟨_, _, rfl, (hbd 3 (by decide) (nI_add i 3)), ?_⟩
        refine ⟨rfl, rfl, ?_⟩
        refine Call_m 120 _ _ _ _ _ (fun r' τ' hd => ?_) hc
        obtain ⟨⟨x, q1, q2⟩, hI'⟩ := hd
        cases q1
      | some w =>
        refine ⟨_, _, rfl, (hbd 1 (by decide) (nI_add i 1)), ?_⟩
        refine ⟨_, _, rfl, (hbd 2 (by decide) (nI_add i 2)), ?_⟩
        refine ⟨_, _, rfl, (hbd 3 (by decide) (nI_add i 3)), ?_⟩
        refine ⟨rfl, rfl, ?_⟩
        refine Call_m 120 _ _ _ _ _ (fun r' τ' hd => ?_) hc
        obtain ⟨⟨x, q1, q2⟩, hI'⟩ := hd
        cases q1
        subst q2
        refine ⟨fun _ => ?_, fun z => absurd rfl z⟩
        exact nxt τ' hI'
    clear c33
    refine ⟨fun c33 => ?_, fun c33 => ?_⟩
    · refine ⟨_, _, rfl, (hbd 1 (by decide) (nI_add i 1)), ?_⟩
      refine ⟨rfl, rfl, ?_⟩
      refine Call_m 120 _ _ _ _ _ (fun r τ hc => ?_) (op_withdraw hI)
      cases r with
      | none =>
        refine ⟨_, _, rfl, (hbd 1 (by decide) (nI_add i 1)), ?_⟩
        refine ⟨rfl, rfl, ?_⟩
        refine Call_m 120 _ _ _ _ _ (fun r' τ' hd => ?_) hc
        obtain ⟨⟨x, q1, q2⟩, hI'⟩ := hd
        cases q1
      | some w =>
        refine ⟨_, _, rfl, (hbd 1 (by decide) (nI_add i 1)), ?_⟩
        refine ⟨rfl, rfl, ?_⟩
        refine Call_m 120 _ _ _ _ _ (fun r' τ' hd => ?_) hc
        obtain ⟨⟨x, q1, q2⟩, hI'⟩ := hd
        cases q1
        subst q2
        refine ⟨fun _ => ?_, fun z => absurd rfl z⟩
        exact nxt τ' hI'
    clear c33
    refine ⟨fun c33 => ?_, fun c33 => ?_⟩
    · refine ⟨_, _, rfl, (hbd 1 (by decide) (nI_add i 1)), ?_⟩
      refine ⟨_, _, rfl, (hbd 2 (by decide) (nI_add i 2)), ?_⟩
      refine ⟨rfl, rfl, ?_⟩
      refine Call_m 120 _ _ _ _ _ (fun r τ hc => ?_) (op_line hI)
      cases r with
      | none =>
        refine ⟨_, _, rfl, (hbd 1 (by decide) (nI_add i 1)), ?_⟩
        refine ⟨_, _, rfl, (hbd 2 (by decide) (nI_add i 2)), ?_⟩
        refine ⟨rfl, rfl, ?_⟩
        refine Call_m 120 _ _ _ _ _ (fun r' τ' hd => ?_) hc
        obtain ⟨⟨x, q1, q2⟩, hI'⟩ := hd
        cases q1
      | some w =>
        refine ⟨_, _, rfl, (hbd 1 (by decide) (nI_add i 1)), ?_⟩
        refine ⟨_, _, rfl, (hbd 2 (by decide) (nI_add i 2)), ?_⟩
        refine ⟨rfl, rfl, ?_⟩
        refine Call_m 120 _ _ _ _ _ (fun r' τ' hd => ?_) hc
        obtain ⟨⟨x, q1, q2⟩, hI'⟩ := hd
        cases q1
        subst q2
        refine ⟨fun _ => ?_, fun z => absurd rfl z⟩
        exact nxt τ' hI'
    clear c33
    refine ⟨fun c33 => ?_, fun c33 => ?_⟩
    · refine ⟨_, _, rfl, (hbd 1 (by decide) (nI_add i 1)), ?_⟩
      refine ⟨_, _, rfl, (hbd 2 (by decide) (nI_add i 2)), ?_⟩
      refine ⟨_, _, rfl, (hbd 3 (by decide) (nI_add i 3)), ?_⟩
      refine ⟨_, _, rfl, (hbd 4 (by decide) (nI_add i 4)), ?_⟩
      refine ⟨rfl, rfl, ?_⟩
      refine Call_m 120 _ _ _ _ _ (fun r τ hc => ?_) (op_stands hI)
      cases r with
      | none =>
        refine ⟨_, _, rfl, (hbd 1 (by decide) (nI_add i 1)), ?_⟩
        refine ⟨_, _, rfl, (hbd 2 (by decide) (nI_add i 2)), ?_⟩
        refine ⟨_, _, rfl, (hbd 3 (by decide) (nI_add i 3)), ?_⟩
        refine ⟨_, _, rfl, (hbd 4 (by decide) (nI_add i 4)), ?_⟩
        refine ⟨rfl, rfl, ?_⟩
        refine Call_m 120 _ _ _ _ _ (fun r' τ' hd => ?_) hc
        obtain ⟨⟨x, q1, q2⟩, hI'⟩ := hd
        cases q1
      | some w =>
        refine ⟨_, _, rfl, (hbd 1 (by decide) (nI_add i 1)), ?_⟩
        refine ⟨_, _, rfl, (hbd 2 (by decide) (nI_add i 2)), ?_⟩
        refine ⟨_, _, rfl, (hbd 3 (by decide) (nI_add i 3)), ?_⟩
        refine ⟨_, _, rfl, (hbd 4 (by decide) (nI_add i 4)), ?_⟩
        refine ⟨rfl, rfl, ?_⟩
        refine Call_m 120 _ _ _ _ _ (fun r' τ' hd => ?_) hc
        obtain ⟨⟨x, q1, q2⟩, hI'⟩ := hd
        cases q1
        subst q2
        refine ⟨fun _ => ?_, fun z => absurd rfl z⟩
        exact nxt τ' hI'
    clear c33
    refine ⟨fun c33 => ?_, fun c33 => ?_⟩
    · refine ⟨_, _, rfl, (hbd 1 (by decide) (nI_add i 1)), ?_⟩
      refine ⟨_, _, rfl, (hbd 2 (by decide) (nI_add i 2)), ?_⟩
      refine ⟨rfl, rfl, ?_⟩
      refine Call_m 120 _ _ _ _ _ (fun r τ hc => ?_) (op_idle hI)
      cases r with
      | none =>
        refine ⟨_, _, rfl, (hbd 1 (by decide) (nI_add i 1)), ?_⟩
        refine ⟨_, _, rfl, (hbd 2 (by decide) (nI_add i 2)), ?_⟩
        refine ⟨rfl, rfl, ?_⟩
        refine Call_m 120 _ _ _ _ _ (fun r' τ' hd => ?_) hc
        obtain ⟨⟨x, q1, q2⟩, hI'⟩ := hd
        cases q1
      | some w =>
        refine ⟨_, _, rfl, (hbd 1 (by decide) (nI_add i 1)), ?_⟩
        refine ⟨_, _, rfl, (hbd 2 (by decide) (nI_add i 2)), ?_⟩
        refine ⟨rfl, rfl, ?_⟩
        refine Call_m 120 _ _ _ _ _ (fun r' τ' hd => ?_) hc
        obtain ⟨⟨x, q1, q2⟩, hI'⟩ := hd
        cases q1
        subst q2
        refine ⟨fun _ => ?_, fun z => absurd rfl z⟩
        exact nxt τ' hI'
    clear c33
    refine ⟨fun c33 => ?_, fun c33 => ?_⟩
    · refine ⟨_, _, rfl, (hbd 1 (by decide) (nI_add i 1)), ?_⟩
      refine ⟨_, _, rfl, (hbd 2 (by decide) (nI_add i 2)), ?_⟩
      refine ⟨_, _, rfl, (hbd 3 (by decide) (nI_add i 3)), ?_⟩
      refine ⟨_, _, rfl, (hbd 4 (by decide) (nI_add i 4)), ?_⟩
      refine ⟨rfl, rfl, ?_⟩
      refine Call_m 120 _ _ _ _ _ (fun r τ hc => ?_) (op_owes hI)
      cases r with
      | none =>
        refine ⟨_, _, rfl, (hbd 1 (by decide) (nI_add i 1)), ?_⟩
        refine ⟨_, _, rfl, (hbd 2 (by decide) (nI_add i 2)), ?_⟩
        refine ⟨_, _, rfl, (hbd 3 (by decide) (nI_add i 3)), ?_⟩
        refine ⟨_, _, rfl, (hbd 4 (by decide) (nI_add i 4)), ?_⟩
        refine ⟨rfl, rfl, ?_⟩
        refine Call_m 120 _ _ _ _ _ (fun r' τ' hd => ?_) hc
        obtain ⟨⟨x, q1, q2⟩, hI'⟩ := hd
        cases q1
      | some w =>
        refine ⟨_, _, rfl, (hbd 1 (by decide) (nI_add i 1)), ?_⟩
        refine ⟨_, _, rfl, (hbd 2 (by decide) (nI_add i 2)), ?_⟩
        refine ⟨_, _, rfl, (hbd 3 (by decide) (nI_add i 3)), ?_⟩
        refine ⟨_, _, rfl, (hbd 4 (by decide) (nI_add i 4)), ?_⟩
        refine ⟨rfl, rfl, ?_⟩
        refine Call_m 120 _ _ _ _ _ (fun r' τ' hd => ?_) hc
        obtain ⟨⟨x, q1, q2⟩, hI'⟩ := hd
        cases q1
        subst q2
        refine ⟨fun _ => ?_, fun z => absurd rfl z⟩
        exact nxt τ' hI'
    clear c33
    refine ⟨fun c33 => ?_, fun c33 => ?_⟩
    · refine ⟨_, _, rfl, (hbd 1 (by decide) (nI_add i 1)), ?_⟩
      refine ⟨_, _, rfl, (hbd 2 (by decide) (nI_add i 2)), ?_⟩
      refine ⟨_, _, rfl, (hbd 3 (by decide) (nI_add i 3)), ?_⟩
      refine ⟨rfl, rfl, ?_⟩
      refine Call_m 120 _ _ _ _ _ (fun r τ hc => ?_) (op_gain hI)
      cases r with
      | none =>
        refine ⟨_, _, rfl, (hbd 1 (by decide) (nI_add i 1)), ?_⟩
        refine ⟨_, _, rfl, (hbd 2 (by decide) (nI_add i 2)), ?_⟩
        refine ⟨_, _, rfl, (hbd 3 (by decide) (nI_add i 3)), ?_⟩
        refine ⟨rfl, rfl, ?_⟩
        refine Call_m 120 _ _ _ _ _ (fun r' τ' hd => ?_) hc
        obtain ⟨⟨x, q1, q2⟩, hI'⟩ := hd
        cases q1
      | some w =>
        refine ⟨_, _, rfl, (hbd 1 (by decide) (nI_add i 1)), ?_⟩
        refine ⟨_, _, rfl, (hbd 2 (by decide) (nI_add i 2)), ?_⟩
        refine ⟨_, _, rfl, (hbd 3 (by decide) (nI_add i 3)), ?_⟩
        refine ⟨rfl, rfl, ?_⟩
        refine Call_m 120 _ _ _ _ _ (fun r' τ' hd => ?_) hc
        obtain ⟨⟨x, q1, q2⟩, hI'⟩ := hd
        cases q1
        subst q2
        refine ⟨fun _ => ?_, fun z => absurd rfl z⟩
        exact nxt τ' hI'
    clear c33
    refine ⟨fun c33 => ?_, fun c33 => ?_⟩
    · refine ⟨_, _, rfl, (hbd 1 (by decide) (nI_add i 1)), ?_⟩
      refine ⟨_, _, rfl, (hbd 2 (by decide) (nI_add i 2)), ?_⟩
      refine ⟨rfl, rfl, ?_⟩
      refine Call_m 120 _ _ _ _ _ (fun r τ hc => ?_) (op_fall hI)
      cases r with
      | none =>
        refine ⟨_, _, rfl, (hbd 1 (by decide) (nI_add i 1)), ?_⟩
        refine ⟨_, _, rfl, (hbd 2 (by decide) (nI_add i 2)), ?_⟩
        refine ⟨rfl, rfl, ?_⟩
        refine Call_m 120 _ _ _ _ _ (fun r' τ' hd => ?_) hc
        obtain ⟨⟨x, q1, q2⟩, hI'⟩ := hd
        cases q1
      | some w =>
        refine ⟨_, _, rfl, (hbd 1 (by decide) (nI_add i 1)), ?_⟩
        refine ⟨_, _, rfl, (hbd 2 (by decide) (nI_add i 2)), ?_⟩
        refine ⟨rfl, rfl, ?_⟩
        refine Call_m 120 _ _ _ _ _ (fun r' τ' hd => ?_) hc
        obtain ⟨⟨x, q1, q2⟩, hI'⟩ := hd
        cases q1
        subst q2
        refine ⟨fun _ => ?_, fun z => absurd rfl z⟩
        exact nxt τ' hI'
    clear c33
    refine ⟨fun c33 => ?_, fun c33 => ?_⟩
    · refine ⟨_, _, rfl, (hbd 1 (by decide) (nI_add i 1)), ?_⟩
      refine ⟨_, _, rfl, (hbd 2 (by decide) (nI_add i 2)), ?_⟩
      refine ⟨_, _, rfl, (hbd 3 (by decide) (nI_add i 3)), ?_⟩
      refine ⟨rfl, rfl, ?_⟩
      refine Call_m 120 _ _ _ _ _ (fun r τ hc => ?_) (op_feed hI)
      cases r with
      | none =>
        refine ⟨_, _, rfl, (hbd 1 (by decide) (nI_add i 1)), ?_⟩
        refine ⟨_, _, rfl, (hbd 2 (by decide) (nI_add i 2)), ?_⟩
        refine ⟨_, _, rfl, (hbd 3 (by decide) (nI_add i 3)), ?_⟩
        refine ⟨rfl, rfl, ?_⟩
        refine Call_m 120 _ _ _ _ _ (fun r' τ' hd => ?_) hc
        obtain ⟨⟨x, q1, q2⟩, hI'⟩ := hd
        cases q1
      | some w =>
        refine ⟨_, _, rfl, (hbd 1 (by decide) (nI_add i 1)), ?_⟩
        refine ⟨_, _, rfl, (hbd 2 (by decide) (nI_add i 2)), ?_⟩
        refine ⟨_, _, rfl, (hbd 3 (by decide) (nI_add i 3)), ?_⟩
        refine ⟨rfl, rfl, ?_⟩
        refine Call_m 120 _ _ _ _ _ (fun r' τ' hd => ?_) hc
        obtain ⟨⟨x, q1, q2⟩, hI'⟩ := hd
        cases q1
        subst q2
        refine ⟨fun _ => ?_, fun z => absurd rfl z⟩
        exact nxt τ' hI'
    clear c33
    refine ⟨fun c33 => ?_, fun c33 => ?_⟩
    · refine ⟨_, _, rfl, (hbd 1 (by decide) (nI_add i 1)), ?_⟩
      refine ⟨rfl, rfl, ?_⟩
      refine Call_m 120 _ _ _ _ _ (fun r τ hc => ?_) (op_trim hI)
      cases r with
      | none =>
        refine ⟨_, _, rfl, (hbd 1 (by decide) (nI_add i 1)), ?_⟩
        refine ⟨rfl, rfl, ?_⟩
        refine Call_m 120 _ _ _ _ _ (fun r' τ' hd => ?_) hc
        obtain ⟨⟨x, q1, q2⟩, hI'⟩ := hd
        cases q1
      | some w =>
        refine ⟨_, _, rfl, (hbd 1 (by decide) (nI_add i 1)), ?_⟩
        refine ⟨rfl, rfl, ?_⟩
        refine Call_m 120 _ _ _ _ _ (fun r' τ' hd => ?_) hc
        obtain ⟨⟨x, q1, q2⟩, hI'⟩ := hd
        cases q1
        subst q2
        refine ⟨fun _ => ?_, fun z => absurd rfl z⟩
        exact nxt τ' hI'
    clear c33
    refine ⟨fun c33 => ?_, fun c33 => ?_⟩
    · refine ⟨_, _, rfl, (hbd 1 (by decide) (nI_add i 1)), ?_⟩
      refine ⟨rfl, rfl, ?_⟩
      refine Call_m 120 _ _ _ _ _ (fun r τ hc => ?_) (op_law hI)
      cases r with
      | none =>
        refine ⟨_, _, rfl, (hbd 1 (by decide) (nI_add i 1)), ?_⟩
        refine ⟨rfl, rfl, ?_⟩
        refine Call_m 120 _ _ _ _ _ (fun r' τ' hd => ?_) hc
        obtain ⟨⟨x, q1, q2⟩, hI'⟩ := hd
        cases q1
      | some w =>
        refine ⟨_, _, rfl, (hbd 1 (by decide) (nI_add i 1)), ?_⟩
        refine ⟨rfl, rfl, ?_⟩
        refine Call_m 120 _ _ _ _ _ (fun r' τ' hd => ?_) hc
        obtain ⟨⟨x, q1, q2⟩, hI'⟩ := hd
        cases q1
        subst q2
        refine ⟨fun _ => ?_, fun z => absurd rfl z⟩
        exact nxt τ' hI'
    clear c33
    refine ⟨fun c33 => ?_, fun c33 => ?_⟩
    · refine ⟨_, _, rfl, (hbd 1 (by decide) (nI_add i 1)), ?_⟩
      refine ⟨_, _, rfl, (hbd 2 (by decide) (nI_add i 2)), ?_⟩
      refine ⟨rfl, rfl, ?_⟩
      refine Call_m 120 _ _ _ _ _ (fun r τ hc => ?_) (op_item hI)
      cases r with
      | none =>
        refine ⟨_, _, rfl, (hbd 1 (by decide) (nI_add i 1)), ?_⟩
        refine ⟨_, _, rfl, (hbd 2 (by decide) (nI_add i 2)), ?_⟩
        refine ⟨rfl, rfl, ?_⟩
        refine Call_m 120 _ _ _ _ _ (fun r' τ' hd => ?_) hc
        obtain ⟨⟨x, q1, q2⟩, hI'⟩ := hd
        cases q1
      | some w =>
        refine ⟨_, _, rfl, (hbd 1 (by decide) (nI_add i 1)), ?_⟩
        refine ⟨_, _, rfl, (hbd 2 (by decide) (nI_add i 2)), ?_⟩
        refine ⟨rfl, rfl, ?_⟩
        refine Call_m 120 _ _ _ _ _ (fun r' τ' hd => ?_) hc
        obtain ⟨⟨x, q1, q2⟩, hI'⟩ := hd
        cases q1
        subst q2
        refine ⟨fun _ => ?_, fun z => absurd rfl z⟩
        exact nxt τ' hI'
    clear c33
    refine ⟨fun c33 => ?_, fun c33 => ?_⟩
    · refine ⟨_, _, rfl, (hbd 1 (by decide) (nI_add i 1)), ?_⟩
      refine ⟨_, _, rfl, (hbd 2 (by decide) (nI_add i 2)), ?_⟩
      refine ⟨rfl, rfl, ?_⟩
      refine Call_m 120 _ _ _ _ _ (fun r τ hc => ?_) (op_items hI)
      cases r with
      | none =>
        refine ⟨_, _, rfl, (hbd 1 (by decide) (nI_add i 1)), ?_⟩
        refine ⟨_, _, rfl, (hbd 2 (by decide) (nI_add i 2)), ?_⟩
        refine ⟨rfl, rfl, ?_⟩
        refine Call_m 120 _ _ _ _ _ (fun r' τ' hd => ?_) hc
        obtain ⟨⟨x, q1, q2⟩, hI'⟩ := hd
        cases q1
      | some w =>
        refine ⟨_, _, rfl, (hbd 1 (by decide) (nI_add i 1)), ?_⟩
        refine ⟨_, _, rfl, (hbd 2 (by decide) (nI_add i 2)), ?_⟩
        refine ⟨rfl, rfl, ?_⟩
        refine Call_m 120 _ _ _ _ _ (fun r' τ' hd => ?_) hc
        obtain ⟨⟨x, q1, q2⟩, hI'⟩ := hd
        cases q1
        subst q2
        refine ⟨fun _ => ?_, fun z => absurd rfl z⟩
        exact nxt τ' hI'
    clear c33
    refine ⟨fun c33 => ?_, fun c33 => ?_⟩
    · refine ⟨rfl, rfl, ?_⟩
      refine Call_m 120 _ _ _ _ _ (fun r τ hc => ?_) (op_empty hI)
      cases r with
      | none =>
        refine ⟨rfl, rfl, ?_⟩
        refine Call_m 120 _ _ _ _ _ (fun r' τ' hd => ?_) hc
        obtain ⟨⟨x, q1, q2⟩, hI'⟩ := hd
        cases q1
      | some w =>
        refine ⟨rfl, rfl, ?_⟩
        refine Call_m 120 _ _ _ _ _ (fun r' τ' hd => ?_) hc
        obtain ⟨⟨x, q1, q2⟩, hI'⟩ := hd
        cases q1
        subst q2
        refine ⟨fun _ => ?_, fun z => absurd rfl z⟩
        exact nxt τ' hI'
    clear c33
    refine ⟨fun c33 => ?_, fun c33 => ?_⟩
    · refine ⟨_, _, rfl, (hbd 1 (by decide) (nI_add i 1)), ?_⟩
      refine ⟨_, _, rfl, (hbd 2 (by decide) (nI_add i 2)), ?_⟩
      refine ⟨_, _, rfl, (hbd 3 (by decide) (nI_add i 3)), ?_⟩
      refine ⟨rfl, rfl, ?_⟩
      refine Call_m 120 _ _ _ _ _ (fun r τ hc => ?_) (op_promotion hI)
      cases r with
      | none =>
        refine ⟨_, _, rfl, (hbd 1 (by decide) (nI_add i 1)), ?_⟩
        refine ⟨_, _, rfl, (hbd 2 (by decide) (nI_add i 2)), ?_⟩
        refine ⟨_, _, rfl, (hbd 3 (by decide) (nI_add i 3)), ?_⟩
        refine ⟨rfl, rfl, ?_⟩
        refine Call_m 120 _ _ _ _ _ (fun r' τ' hd => ?_) hc
        obtain ⟨⟨x, q1, q2⟩, hI'⟩ := hd
        cases q1
      | some w =>
        refine ⟨_, _, rfl, (hbd 1 (by decide) (nI_add i 1)), ?_⟩
        refine ⟨_, _, rfl, (hbd 2 (by decide) (nI_add i 2)), ?_⟩
        refine ⟨_, _, rfl, (hbd 3 (by decide) (nI_add i 3)), ?_⟩
        refine ⟨rfl, rfl, ?_⟩
        refine Call_m 120 _ _ _ _ _ (fun r' τ' hd => ?_) hc
        obtain ⟨⟨x, q1, q2⟩, hI'⟩ := hd
        cases q1
        subst q2
        refine ⟨fun _ => ?_, fun z => absurd rfl z⟩
        exact nxt τ' hI'
    clear c33
    refine ⟨fun c33 => ?_, fun c33 => ?_⟩
    · refine ⟨_, _, rfl, (hbd 1 (by decide) (nI_add i 1)), ?_⟩
      refine ⟨_, _, rfl, (hbd 2 (by decide) (nI_add i 2)), ?_⟩
      refine ⟨_, _, rfl, (hbd 3 (by decide) (nI_add i 3)), ?_⟩
      refine ⟨rfl, rfl, ?_⟩
      refine Call_m 120 _ _ _ _ _ (fun r τ hc => ?_) (op_join hI)
      cases r with
      | none =>
        refine ⟨_, _, rfl, (hbd 1 (by decide) (nI_add i 1)), ?_⟩
        refine ⟨_, _, rfl, (hbd 2 (by decide) (nI_add i 2)), ?_⟩
        refine ⟨_, _, rfl, (hbd 3 (by decide) (nI_add i 3)), ?_⟩
        refine ⟨rfl, rfl, ?_⟩
        refine Call_m 120 _ _ _ _ _ (fun r' τ' hd => ?_) hc
        obtain ⟨⟨x, q1, q2⟩, hI'⟩ := hd
        cases q1
      | some w =>
        refine ⟨_, _, rfl, (hbd 1 (by decide) (nI_add i 1)), ?_⟩
        refine ⟨_, _, rfl, (hbd 2 (by decide) (nI_add i 2)), ?_⟩
        refine ⟨_, _, rfl, (hbd 3 (by decide) (nI_add i 3)), ?_⟩
        refine ⟨rfl, rfl, ?_⟩
        refine Call_m 120 _ _ _ _ _ (fun r' τ' hd => ?_) hc
        obtain ⟨⟨x, q1, q2⟩, hI'⟩ := hd
        cases q1
        subst q2
        refine ⟨fun _ => ?_, fun z => absurd rfl z⟩
        exact nxt τ' hI'
    clear c33
    refine ⟨fun c33 => ?_, fun c33 => ?_⟩
    · refine ⟨_, _, rfl, (hbd 1 (by decide) (nI_add i 1)), ?_⟩
      refine ⟨rfl, rfl, ?_⟩
      refine Call_m 120 _ _ _ _ _ (fun r τ hc => ?_) (op_mix hI)
      cases r with
      | none =>
        refine ⟨_, _, rfl, (hbd 1 (by decide) (nI_add i 1)), ?_⟩
        refine ⟨rfl, rfl, ?_⟩
        refine Call_m 120 _ _ _ _ _ (fun r' τ' hd => ?_) hc
        obtain ⟨⟨x, q1, q2⟩, hI'⟩ := hd
        cases q1
      | some w =>
        refine ⟨_, _, rfl, (hbd 1 (by decide) (nI_add i 1)), ?_⟩
        refine ⟨rfl, rfl, ?_⟩
        refine Call_m 120 _ _ _ _ _ (fun r' τ' hd => ?_) hc
        obtain ⟨⟨x, q1, q2⟩, hI'⟩ := hd
        cases q1
        subst q2
        refine ⟨fun _ => ?_, fun z => absurd rfl z⟩
        exact nxt τ' hI'
    clear c33
    refine ⟨fun c33 => ?_, fun c33 => ?_⟩
    · refine ⟨_, _, rfl, (hbd 1 (by decide) (nI_add i 1)), ?_⟩
      refine ⟨_, _, rfl, (hbd 2 (by decide) (nI_add i 2)), ?_⟩
      refine ⟨rfl, rfl, ?_⟩
      refine Call_m 120 _ _ _ _ _ (fun r τ hc => ?_) (op_mixed hI)
      cases r with
      | none =>
        refine ⟨_, _, rfl, (hbd 1 (by decide) (nI_add i 1)), ?_⟩
        refine ⟨_, _, rfl, (hbd 2 (by decide) (nI_add i 2)), ?_⟩
        refine ⟨rfl, rfl, ?_⟩
        refine Call_m 120 _ _ _ _ _ (fun r' τ' hd => ?_) hc
        obtain ⟨⟨x, q1, q2⟩, hI'⟩ := hd
        cases q1
      | some w =>
        refine ⟨_, _, rfl, (hbd 1 (by decide) (nI_add i 1)), ?_⟩
        refine ⟨_, _, rfl, (hbd 2 (by decide) (nI_add i 2)), ?_⟩
        refine ⟨rfl, rfl, ?_⟩
        refine Call_m 120 _ _ _ _ _ (fun r' τ' hd => ?_) hc
        obtain ⟨⟨x, q1, q2⟩, hI'⟩ := hd
        cases q1
        subst q2
        refine ⟨fun _ => ?_, fun z => absurd rfl z⟩
        exact nxt τ' hI'
    clear c33
    refine ⟨fun c33 => ?_, fun c33 => ?_⟩
    · refine ⟨_, _, rfl, (hbd 1 (by decide) (nI_add i 1)), ?_⟩
      refine ⟨rfl, rfl, ?_⟩
      refine Call_m 120 _ _ _ _ _ (fun r τ hc => ?_) (op_costs hI)
      cases r with
      | none =>
        refine ⟨_, _, rfl, (hbd 1 (by decide) (nI_add i 1)), ?_⟩
        refine ⟨rfl, rfl, ?_⟩
        refine Call_m 120 _ _ _ _ _ (fun r' τ' hd => ?_) hc
        obtain ⟨⟨x, q1, q2⟩, hI'⟩ := hd
        cases q1
      | some w =>
        refine ⟨_, _, rfl, (hbd 1 (by decide) (nI_add i 1)), ?_⟩
        refine ⟨rfl, rfl, ?_⟩
        refine Call_m 120 _ _ _ _ _ (fun r' τ' hd => ?_) hc
        obtain ⟨⟨x, q1, q2⟩, hI'⟩ := hd
        cases q1
        subst q2
        refine ⟨fun _ => ?_, fun z => absurd rfl z⟩
        exact nxt τ' hI'
    clear c33
    refine ⟨fun c33 => ?_, fun c33 => ?_⟩
    · refine ⟨_, _, rfl, (hbd 1 (by decide) (nI_add i 1)), ?_⟩
      refine ⟨rfl, rfl, ?_⟩
      refine Call_m 120 _ _ _ _ _ (fun r τ hc => ?_) (op_tell hI)
      cases r with
      | none =>
        refine ⟨_, _, rfl, (hbd 1 (by decide) (nI_add i 1)), ?_⟩
        refine ⟨rfl, rfl, ?_⟩
        refine Call_m 120 _ _ _ _ _ (fun r' τ' hd => ?_) hc
        obtain ⟨⟨x, q1, q2⟩, hI'⟩ := hd
        cases q1
      | some w =>
        refine ⟨_, _, rfl, (hbd 1 (by decide) (nI_add i 1)), ?_⟩
        refine ⟨rfl, rfl, ?_⟩
        refine Call_m 120 _ _ _ _ _ (fun r' τ' hd => ?_) hc
        obtain ⟨⟨x, q1, q2⟩, hI'⟩ := hd
        cases q1
        subst q2
        refine ⟨fun _ => ?_, fun z => absurd rfl z⟩
        exact nxt τ' hI'
    clear c33
    refine ⟨fun c33 => ?_, fun c33 => ?_⟩
    · refine ⟨rfl, rfl, ?_⟩
      refine Call_m 120 _ _ _ _ _ (fun r τ hc => ?_) (op_check hI)
      cases r with
      | none =>
        refine ⟨rfl, rfl, ?_⟩
        refine Call_m 120 _ _ _ _ _ (fun r' τ' hd => ?_) hc
        obtain ⟨⟨x, q1, q2⟩, hI'⟩ := hd
        cases q1
      | some w =>
        refine ⟨rfl, rfl, ?_⟩
        refine Call_m 120 _ _ _ _ _ (fun r' τ' hd => ?_) hc
        obtain ⟨⟨x, q1, q2⟩, hI'⟩ := hd
        cases q1
        subst q2
        refine ⟨fun _ => ?_, fun z => absurd rfl z⟩
        exact nxt τ' hI'
    clear c33
    refine ⟨fun c33 => ?_, fun c33 => ?_⟩
    · refine ⟨_, _, rfl, (hbd 1 (by decide) (nI_add i 1)), ?_⟩
      refine ⟨_, _, rfl, (hbd 2 (by decide) (nI_add i 2)), ?_⟩
      refine ⟨_, _, rfl, (hbd 3 (by decide) (nI_add i 3)), ?_⟩
      refine ⟨_, _, rfl, (hbd 4 (by decide) (nI_add i 4)), ?_⟩
      refine ⟨rfl, rfl, ?_⟩
      refine Call_m 120 _ _ _ _ _ (fun r τ hc => ?_) (op_exchange hI)
      cases r with
      | none =>
        refine ⟨_, _, rfl, (hbd 1 (by decide) (nI_add i 1)), ?_⟩
        refine ⟨_, _, rfl, (hbd 2 (by decide) (nI_add i 2)), ?_⟩
        refine ⟨_, _, rfl, (hbd 3 (by decide) (nI_add i 3)), ?_⟩
        refine ⟨_, _, rfl, (hbd 4 (by decide) (nI_add i 4)), ?_⟩
        refine ⟨rfl, rfl, ?_⟩
        refine Call_m 120 _ _ _ _ _ (fun r' τ' hd => ?_) hc
        obtain ⟨⟨x, q1, q2⟩, hI'⟩ := hd
        cases q1
      | some w =>
        refine ⟨_, _, rfl, (hbd 1 (by decide) (nI_add i 1)), ?_⟩
        refine ⟨_, _, rfl, (hbd 2 (by decide) (nI_add i 2)), ?_⟩
        refine ⟨_, _, rfl, (hbd 3 (by decide) (nI_add i 3)), ?_⟩
        refine ⟨_, _, rfl, (hbd 4 (by decide) (nI_add i 4)), ?_⟩
        refine ⟨rfl, rfl, ?_⟩
        refine Call_m 120 _ _ _ _ _ (fun r' τ' hd => ?_) hc
        obtain ⟨⟨x, q1, q2⟩, hI'⟩ := hd
        cases q1
        subst q2
        refine ⟨fun _ => ?_, fun z => absurd rfl z⟩
        exact nxt τ' hI'
    clear c33
    refine ⟨fun c33 => ?_, fun c33 => ?_⟩
    · refine ⟨_, _, rfl, (hbd 1 (by decide) (nI_add i 1)), ?_⟩
      refine ⟨_, _, rfl, (hbd 2 (by decide) (nI_add i 2)), ?_⟩
      refine ⟨rfl, rfl, ?_⟩
      refine Call_m 120 _ _ _ _ _ (fun r τ hc => ?_) (op_hole hI)
      cases r with
      | none =>
        refine ⟨_, _, rfl, (hbd 1 (by decide) (nI_add i 1)), ?_⟩
        refine ⟨_, _, rfl, (hbd 2 (by decide) (nI_add i 2)), ?_⟩
        refine ⟨rfl, rfl, ?_⟩
        refine Call_m 120 _ _ _ _ _ (fun r' τ' hd => ?_) hc
        obtain ⟨⟨x, q1, q2⟩, hI'⟩ := hd
        cases q1
      | some w =>
        refine ⟨_, _, rfl, (hbd 1 (by decide) (nI_add i 1)), ?_⟩
        refine ⟨_, _, rfl, (hbd 2 (by decide) (nI_add i 2)), ?_⟩
        refine ⟨rfl, rfl, ?_⟩
        refine Call_m 120 _ _ _ _ _ (fun r' τ' hd => ?_) hc
        obtain ⟨⟨x, q1, q2⟩, hI'⟩ := hd
        cases q1
        subst q2
        refine ⟨fun _ => ?_, fun z => absurd rfl z⟩
        exact nxt τ' hI'
    clear c33
    refine ⟨fun c33 => ?_, fun c33 => ?_⟩
    · refine ⟨_, _, rfl, (hbd 1 (by decide) (nI_add i 1)), ?_⟩
      refine ⟨_, _, rfl, (hbd 2 (by decide) (nI_add i 2)), ?_⟩
      refine ⟨rfl, rfl, ?_⟩
      refine Call_m 120 _ _ _ _ _ (fun r τ hc => ?_) (op_guess hI)
      cases r with
      | none =>
        refine ⟨_, _, rfl, (hbd 1 (by decide) (nI_add i 1)), ?_⟩
        refine ⟨_, _, rfl, (hbd 2 (by decide) (nI_add i 2)), ?_⟩
        refine ⟨rfl, rfl, ?_⟩
        refine Call_m 120 _ _ _ _ _ (fun r' τ' hd => ?_) hc
        obtain ⟨⟨x, q1, q2⟩, hI'⟩ := hd
        cases q1
      | some w =>
        refine ⟨_, _, rfl, (hbd 1 (by decide) (nI_add i 1)), ?_⟩
        refine ⟨_, _, rfl, (hbd 2 (by decide) (nI_add i 2)), ?_⟩
        refine ⟨rfl, rfl, ?_⟩
        refine Call_m 120 _ _ _ _ _ (fun r' τ' hd => ?_) hc
        obtain ⟨⟨x, q1, q2⟩, hI'⟩ := hd
        cases q1
        subst q2
        refine ⟨fun _ => ?_, fun z => absurd rfl z⟩
        exact nxt τ' hI'
    clear c33
    refine ⟨fun c33 => ?_, fun c33 => ?_⟩
    · refine ⟨_, _, rfl, (hbd 1 (by decide) (nI_add i 1)), ?_⟩
      refine ⟨rfl, rfl, ?_⟩
      refine Call_m 120 _ _ _ _ _ (fun r τ hc => ?_) (op_barred hI)
      cases r with
      | none =>
        refine ⟨_, _, rfl, (hbd 1 (by decide) (nI_add i 1)), ?_⟩
        refine ⟨rfl, rfl, ?_⟩
        refine Call_m 120 _ _ _ _ _ (fun r' τ' hd => ?_) hc
        obtain ⟨⟨x, q1, q2⟩, hI'⟩ := hd
        cases q1
      | some w =>
        refine ⟨_, _, rfl, (hbd 1 (by decide) (nI_add i 1)), ?_⟩
        refine ⟨rfl, rfl, ?_⟩
        refine Call_m 120 _ _ _ _ _ (fun r' τ' hd => ?_) hc
        obtain ⟨⟨x, q1, q2⟩, hI'⟩ := hd
        cases q1
        subst q2
        refine ⟨fun _ => ?_, fun z => absurd rfl z⟩
        exact nxt τ' hI'
    clear c33
    refine ⟨fun c33 => ?_, fun c33 => ?_⟩
    · refine ⟨_, _, rfl, (hbd 1 (by decide) (nI_add i 1)), ?_⟩
      refine ⟨rfl, rfl, ?_⟩
      refine Call_m 120 _ _ _ _ _ (fun r τ hc => ?_) (op_tries hI)
      cases r with
      | none =>
        refine ⟨_, _, rfl, (hbd 1 (by decide) (nI_add i 1)), ?_⟩
        refine ⟨rfl, rfl, ?_⟩
        refine Call_m 120 _ _ _ _ _ (fun r' τ' hd => ?_) hc
        obtain ⟨⟨x, q1, q2⟩, hI'⟩ := hd
        cases q1
      | some w =>
        refine ⟨_, _, rfl, (hbd 1 (by decide) (nI_add i 1)), ?_⟩
        refine ⟨rfl, rfl, ?_⟩
        refine Call_m 120 _ _ _ _ _ (fun r' τ' hd => ?_) hc
        obtain ⟨⟨x, q1, q2⟩, hI'⟩ := hd
        cases q1
        subst q2
        refine ⟨fun _ => ?_, fun z => absurd rfl z⟩
        exact nxt τ' hI'
    clear c33
    refine ⟨fun c33 => ?_, fun c33 => ?_⟩
    · refine ⟨_, _, rfl, (hbd 1 (by decide) (nI_add i 1)), ?_⟩
      refine ⟨_, _, rfl, (hbd 2 (by decide) (nI_add i 2)), ?_⟩
      refine ⟨rfl, rfl, ?_⟩
      refine Call_m 120 _ _ _ _ _ (fun r τ hc => ?_) (op_sheet hI)
      cases r with
      | none =>
        refine ⟨_, _, rfl, (hbd 1 (by decide) (nI_add i 1)), ?_⟩
        refine ⟨_, _, rfl, (hbd 2 (by decide) (nI_add i 2)), ?_⟩
        refine ⟨rfl, rfl, ?_⟩
        refine Call_m 120 _ _ _ _ _ (fun r' τ' hd => ?_) hc
        obtain ⟨⟨x, q1, q2⟩, hI'⟩ := hd
        cases q1
      | some w =>
        refine ⟨_, _, rfl, (hbd 1 (by decide) (nI_add i 1)), ?_⟩
        refine ⟨_, _, rfl, (hbd 2 (by decide) (nI_add i 2)), ?_⟩
        refine ⟨rfl, rfl, ?_⟩
        refine Call_m 120 _ _ _ _ _ (fun r' τ' hd => ?_) hc
        obtain ⟨⟨x, q1, q2⟩, hI'⟩ := hd
        cases q1
        subst q2
        refine ⟨fun _ => ?_, fun z => absurd rfl z⟩
        exact nxt τ' hI'
    clear c33
    refine ⟨fun c33 => ?_, fun c33 => ?_⟩
    · refine ⟨_, _, rfl, (hbd 1 (by decide) (nI_add i 1)), ?_⟩
      refine ⟨_, _, rfl, (hbd 2 (by decide) (nI_add i 2)), ?_⟩
      refine ⟨_, _, rfl, (hbd 3 (by decide) (nI_add i 3)), ?_⟩
      refine ⟨rfl, rfl, ?_⟩
      refine Call_m 120 _ _ _ _ _ (fun r τ hc => ?_) (op_mark hI)
      cases r with
      | none =>
        refine ⟨_, _, rfl, (hbd 1 (by decide) (nI_add i 1)), ?_⟩
        refine ⟨_, _, rfl, (hbd 2 (by decide) (nI_add i 2)), ?_⟩
        refine ⟨_, _, rfl, (hbd 3 (by decide) (nI_add i 3)), ?_⟩
        refine ⟨rfl, rfl, ?_⟩
        refine Call_m 120 _ _ _ _ _ (fun r' τ' hd => ?_) hc
        obtain ⟨⟨x, q1, q2⟩, hI'⟩ := hd
        cases q1
      | some w =>
        refine ⟨_, _, rfl, (hbd 1 (by decide) (nI_add i 1)), ?_⟩
        refine ⟨_, _, rfl, (hbd 2 (by decide) (nI_add i 2)), ?_⟩
        refine ⟨_, _, rfl, (hbd 3 (by decide) (nI_add i 3)), ?_⟩
        refine ⟨rfl, rfl, ?_⟩
        refine Call_m 120 _ _ _ _ _ (fun r' τ' hd => ?_) hc
        obtain ⟨⟨x, q1, q2⟩, hI'⟩ := hd
        cases q1
        subst q2
        refine ⟨fun _ => ?_, fun z => absurd rfl z⟩
        exact nxt τ' hI'
    clear c33
    refine ⟨fun c33 => ?_, fun c33 => ?_⟩
    · refine ⟨_, _, rfl, (hbd 1 (by decide) (nI_add i 1)), ?_⟩
      refine ⟨_, _, rfl, (hbd 2 (by decide) (nI_add i 2)), ?_⟩
      refine ⟨_, _, rfl, (hbd 3 (by decide) (nI_add i 3)), ?_⟩
      refine ⟨_, _, rfl, (hbd 4 (by decide) (nI_add i 4)), ?_⟩
      refine ⟨_, _, rfl, (hbd 5 (by decide) (nI_add i 5)), ?_⟩
      refine ⟨rfl, rfl, ?_⟩
      refine Call_m 120 _ _ _ _ _ (fun r τ hc => ?_) (op_copy hI)
      cases r with
      | none =>
        refine ⟨_, _, rfl, (hbd 1 (by decide) (nI_add i 1)), ?_⟩
        refine ⟨_, _, rfl, (hbd 2 (by decide) (nI_add i 2)), ?_⟩
        refine ⟨_, _, rfl, (hbd 3 (by decide) (nI_add i 3)), ?_⟩
        refine ⟨_, _, rfl, (hbd 4 (by decide) (nI_add i 4)), ?_⟩
        refine ⟨_, _, rfl, (hbd 5 (by decide) (nI_add i 5)), ?_⟩
        refine ⟨rfl, rfl, ?_⟩
        refine Call_m 120 _ _ _ _ _ (fun r' τ' hd => ?_) hc
        obtain ⟨⟨x, q1, q2⟩, hI'⟩ := hd
        cases q1
      | some w =>
        refine ⟨_, _, rfl, (hbd 1 (by decide) (nI_add i 1)), ?_⟩
        refine ⟨_, _, rfl, (hbd 2 (by decide) (nI_add i 2)), ?_⟩
        refine ⟨_, _, rfl, (hbd 3 (by decide) (nI_add i 3)), ?_⟩
        refine ⟨_, _, rfl, (hbd 4 (by decide) (nI_add i 4)), ?_⟩
        refine ⟨_, _, rfl, (hbd 5 (by decide) (nI_add i 5)), ?_⟩
        refine ⟨rfl, rfl, ?_⟩
        refine Call_m 120 _ _ _ _ _ (fun r' τ' hd => ?_) hc
        obtain ⟨⟨x, q1, q2⟩, hI'⟩ := hd
        cases q1
        subst q2
        refine ⟨fun _ => ?_, fun z => absurd rfl z⟩
        exact nxt τ' hI'
    clear c33
    refine ⟨fun c33 => ?_, fun c33 => ?_⟩
    · refine ⟨_, _, rfl, (hbd 1 (by decide) (nI_add i 1)), ?_⟩
      refine ⟨rfl, rfl, ?_⟩
      refine Call_m 120 _ _ _ _ _ (fun r τ hc => ?_) (op_count hI)
      cases r with
      | none =>
        refine ⟨_, _, rfl, (hbd 1 (by decide) (nI_add i 1)), ?_⟩
        refine ⟨rfl, rfl, ?_⟩
        refine Call_m 120 _ _ _ _ _ (fun r' τ' hd => ?_) hc
        obtain ⟨⟨x, q1, q2⟩, hI'⟩ := hd
        cases q1
      | some w =>
        refine ⟨_, _, rfl, (hbd 1 (by decide) (nI_add i 1)), ?_⟩
        refine ⟨rfl, rfl, ?_⟩
        refine Call_m 120 _ _ _ _ _ (fun r' τ' hd => ?_) hc
        obtain ⟨⟨x, q1, q2⟩, hI'⟩ := hd
        cases q1
        subst q2
        refine ⟨fun _ => ?_, fun z => absurd rfl z⟩
        exact nxt τ' hI'
    clear c33
    exact nxt σ hI
