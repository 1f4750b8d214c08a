theorem i64_p1 {x : Int32} (h : 0 ≤ x.toInt ∧ x.toInt ≤ 100000) : (x + 1).toInt64 = x.toInt64 + 1 := by
  apply Int64.toInt_inj.mp
  rw [l64, add1 (by omega), Int64.toInt_add, l64]
  have : (1 : Int64).toInt = 1 := rfl
  simp only [this, Int.bmod]
  omega
theorem alF_cong {σ τ F : Mm} {f d : Int32} : ∀ n, (∀ i, i < n → (clF τ F f d i ↔ clF σ F f d i)) → alF τ F f d n = alF σ F f d n
  | 0, _ => rfl
  | n + 1, h => by
    have ih := alF_cong n (fun i hi => h i (Nat.lt_succ_of_lt hi))
    have hn := h n (Nat.lt_succ_self n)
    unfold alF
    by_cases q : clF σ F f d n
    · rw [if_pos q, if_pos (hn.mpr q), ih]
    · rw [if_neg q, if_neg (fun z => q (hn.mp z)), ih]
theorem lfF_cong {σ τ F : Mm} {f d : Int32} {c a : Int64} : ∀ n, (∀ i, i < n → (clF τ F f d i ↔ clF σ F f d i)) → lfF τ F f d c a n = lfF σ F f d c a n
  | 0, _ => rfl
  | n + 1, h => by
    have ih := lfF_cong (c := c) (a := a) n (fun i hi => h i (Nat.lt_succ_of_lt hi))
    have hn := h n (Nat.lt_succ_self n)
    unfold lfF
    by_cases q : clF σ F f d n
    · rw [if_pos q, if_pos (hn.mpr q), ih]
    · rw [if_neg q, if_neg (fun z => q (hn.mp z)), ih]
theorem shF_cong {σ τ F : Mm} {f d : Int32} {c a l : Int64} : ∀ n, (∀ i, i < n → (clF τ F f d i ↔ clF σ F f d i)) → shF τ F f d c a l n = shF σ F f d c a l n
  | 0, _ => rfl
  | n + 1, h => by
    have ih := shF_cong (c := c) (a := a) (l := l) n (fun i hi => h i (Nat.lt_succ_of_lt hi))
    have hn := h n (Nat.lt_succ_self n)
    unfold shF
    by_cases q : clF σ F f d n
    · rw [if_pos q, if_pos (hn.mpr q), ih]
    · rw [if_neg q, if_neg (fun z => q (hn.mp z)), ih]
set_option maxHeartbeats 4000000 in
theorem m_shares {d : Nat} {σ τ P F : Mm} {Q : Qt} {v co y : Int32} {X : Kt} (hX : Clo (Call (d + 6)) none (mR k_X12_fall) (mE k_X12_fall) Q X) (hI : Inv σ) (hA : Ag LsG σ τ) (h8 : ∀ j, j ≠ 26 → τ 88 j = σ 88 j) (hV : VwM τ P) (hP : Peq P F) (hR : Rng F) (hy : y = σ 88 0) (hv : 0 ≤ v.toInt ∧ v.toInt < (σ 3 0).toInt) (hco : 0 ≤ co.toInt ∧ co.toInt ≤ 1000000) (hcl : clF σ F (σ 6 v.toInt.toNat) y v.toInt.toNat) (hQ : ∀ τ', Ag LsG σ τ' → (∀ j, j ≠ 26 → τ' 88 j = σ 88 j) → Q (some (.int (shF σ F (σ 6 v.toInt.toNat) y co.toInt64 (alF σ F (σ 6 v.toInt.toNat) y (σ 3 0).toInt.toNat) (lfF σ F (σ 6 v.toInt.toNat) y co.toInt64 (alF σ F (σ 6 v.toInt.toNat) y (σ 3 0).toInt.toNat) (σ 3 0).toInt.toNat) (v.toInt.toNat + 1)).1)) τ') : X 62 [.ref 88, .int v, .int co, .long 0, .null, .int 0, .null, .null, .null, .null] [] τ := by
  obtain ⟨⟨v0, v1, v2, v3, v4, v5, v6⟩, ⟨v7, v8⟩, v9⟩ := id (hI.2.1)
  have hal := al_rng (σ := σ) hR (f := (σ 6 v.toInt.toNat)) (d := y) (σ 3 0).toInt.toNat (by omega)
  have hc64 : 0 ≤ (co.toInt64).toInt ∧ (co.toInt64).toInt ≤ 1000000 := by rw [l64]; exact hco
  have loop3 : ∀ (k i : Nat) (τ : Mm) (its : Int64), i + k = v.toInt.toNat + 1 → Ag LsG σ τ → (∀ j, j ≠ 26 → τ 88 j = σ 88 j) → VwM τ P → (∀ n, i = n + 1 → clF σ F (σ 6 v.toInt.toNat) y n → its = (shF σ F (σ 6 v.toInt.toNat) y co.toInt64 (alF σ F (σ 6 v.toInt.toNat) y (σ 3 0).toInt.toNat) (lfF σ F (σ 6 v.toInt.toNat) y co.toInt64 (alF σ F (σ 6 v.toInt.toNat) y (σ 3 0).toInt.toNat) (σ 3 0).toInt.toNat) (n + 1)).1.toInt64) → X 168 [.ref 88, .int v, .int co, .long (alF σ F (σ 6 v.toInt.toNat) y (σ 3 0).toInt.toNat), .null, .long (shF σ F (σ 6 v.toInt.toNat) y co.toInt64 (alF σ F (σ 6 v.toInt.toNat) y (σ 3 0).toInt.toNat) (lfF σ F (σ 6 v.toInt.toNat) y co.toInt64 (alF σ F (σ 6 v.toInt.toNat) y (σ 3 0).toInt.toNat) (σ 3 0).toInt.toNat) i).2, .null, .long its, .null, .int (nI i)] [] τ := by
    intro k
    induction k with
    | zero =>
      intro i τ its hi hA h8 hV hits
      rw [Nat.add_zero] at hi
      have e1 := nIt (n := i) (by omega)
      have q4 : (τ 88 4).toInt = (σ 3 0).toInt := by rw [h8 4 (by decide), v0]
      have f92 : τ 92 v.toInt.toNat = σ 6 v.toInt.toNat := by rw [hA 92 rfl, v3]
      refine go [168] 100 hX ?_
      refine ⟨fun c171 => ?_, fun c171 => ?_⟩
      · refine ⟨rfl, trivial, ?_⟩
        have eV : i = v.toInt.toNat + 1 := by omega
        have hit := hits v.toInt.toNat eV hcl
        refine Qe (hQ τ hA h8) (vI_ ?_) rfl
        rw [hit]
        exact Int32.toInt32_toInt64 _
      · exfalso; omega
    | succ k ih =>
      intro i τ its hi hA h8 hV hits
      have e1 := nIt (n := i) (by omega)
      have q4 : (τ 88 4).toInt = (σ 3 0).toInt := by rw [h8 4 (by decide), v0]
      have f92 : τ 92 v.toInt.toNat = σ 6 v.toInt.toNat := by rw [hA 92 rfl, v3]
      have e2 := nIn (i := i) (by omega)
      have hw := hR i (by omega)
      refine go [168] 100 hX ?_
      refine ⟨fun c171 => ?_, fun c171 => ?_⟩
      · exfalso; omega
      · refine ⟨_, _, rfl, ⟨by omega, by omega⟩, ?_⟩
        refine ⟨rfl, rfl, ?_⟩
        refine m_claim (P := P) (F := F) (y := y) i hI hA h8 hV hP (by omega) hy (fun h183a h183b h183c h183d => ?_)
        refine ⟨fun c186 => ?_, fun c186 => ?_⟩
        · replace c186 := bI_z c186
          rw [f92] at c186
          have ih1 := ih (i + 1) h183a its (by omega) h183b h183c h183d (fun n hn hcl => absurd (by rw [show n = i by omega] at hcl; exact hcl) c186)
          rw [show (shF σ F (σ 6 v.toInt.toNat) y co.toInt64 (alF σ F (σ 6 v.toInt.toNat) y (σ 3 0).toInt.toNat) (lfF σ F (σ 6 v.toInt.toNat) y co.toInt64 (alF σ F (σ 6 v.toInt.toNat) y (σ 3 0).toInt.toNat) (σ 3 0).toInt.toNat) (i + 1)).2 = (shF σ F (σ 6 v.toInt.toNat) y co.toInt64 (alF σ F (σ 6 v.toInt.toNat) y (σ 3 0).toInt.toNat) (lfF σ F (σ 6 v.toInt.toNat) y co.toInt64 (alF σ F (σ 6 v.toInt.toNat) y (σ 3 0).toInt.toNat) (σ 3 0).toInt.toNat) i).2 from by unfold shF; rw [if_neg c186]; cases i <;> rfl, ← nI_1] at ih1
          exact ih1
        · replace c186 := bI_nz c186
          refine ⟨rfl, rfl, ?_⟩
          refine m_partL ⟨by omega, by omega⟩ ?_
          refine ⟨fun c207 => ?_, fun c207 => ?_⟩
          · refine ⟨_, _, rfl, ⟨by omega, by omega⟩, ?_⟩
            refine ⟨fun c221 => ?_, fun c221 => ?_⟩
            · rw [f92] at c186
              have u1 : h183a 107 (nI i).toInt.toNat = F 1 i := by rw [e2]; exact (VwM.v h183d hP (i := i) (by omega)).2.1
              have ect : ctM (h183a 107 (nI i).toInt.toNat) co.toInt64 (alF σ F (σ 6 v.toInt.toNat) y (σ 3 0).toInt.toNat) = (ctC (F 1 i) co.toInt64 (alF σ F (σ 6 v.toInt.toNat) y (σ 3 0).toInt.toNat)).toInt64 := by rw [u1]; exact ct_eq hw hc64 hal.1
              have hcr := ctC_rng (w := F 1 i) hw hc64 hal.1
              rw [lgc_lt, ect, l64, l64, u1] at c221
              have c207 := lgc_g0.mp c207
              have hs : (shF σ F (σ 6 v.toInt.toNat) y co.toInt64 (alF σ F (σ 6 v.toInt.toNat) y (σ 3 0).toInt.toNat) (lfF σ F (σ 6 v.toInt.toNat) y co.toInt64 (alF σ F (σ 6 v.toInt.toNat) y (σ 3 0).toInt.toNat) (σ 3 0).toInt.toNat) (i + 1)) = ((ctC (F 1 i) co.toInt64 (alF σ F (σ 6 v.toInt.toNat) y (σ 3 0).toInt.toNat)) + 1, (shF σ F (σ 6 v.toInt.toNat) y co.toInt64 (alF σ F (σ 6 v.toInt.toNat) y (σ 3 0).toInt.toNat) (lfF σ F (σ 6 v.toInt.toNat) y co.toInt64 (alF σ F (σ 6 v.toInt.toNat) y (σ 3 0).toInt.toNat) (σ 3 0).toInt.toNat) i).2 - 1) := by
                show (if _ then _ else _) = _
                rw [if_pos c186, if_pos ⟨c221, c207⟩]
              have ih1 := ih (i + 1) h183a ((ctC (F 1 i) co.toInt64 (alF σ F (σ 6 v.toInt.toNat) y (σ 3 0).toInt.toNat)).toInt64 + 1) (by omega) h183b h183c h183d (fun n hn _ => by rw [show n = i by omega, hs]; exact (i64_p1 (by omega)).symm)
              rw [hs, ← nI_1, ← ect] at ih1
              exact ih1
            · rw [f92] at c186
              have u1 : h183a 107 (nI i).toInt.toNat = F 1 i := by rw [e2]; exact (VwM.v h183d hP (i := i) (by omega)).2.1
              have ect : ctM (h183a 107 (nI i).toInt.toNat) co.toInt64 (alF σ F (σ 6 v.toInt.toNat) y (σ 3 0).toInt.toNat) = (ctC (F 1 i) co.toInt64 (alF σ F (σ 6 v.toInt.toNat) y (σ 3 0).toInt.toNat)).toInt64 := by rw [u1]; exact ct_eq hw hc64 hal.1
              have hcr := ctC_rng (w := F 1 i) hw hc64 hal.1
              rw [lgc_lt, ect, l64, l64, u1] at c221
              have hs : (shF σ F (σ 6 v.toInt.toNat) y co.toInt64 (alF σ F (σ 6 v.toInt.toNat) y (σ 3 0).toInt.toNat) (lfF σ F (σ 6 v.toInt.toNat) y co.toInt64 (alF σ F (σ 6 v.toInt.toNat) y (σ 3 0).toInt.toNat) (σ 3 0).toInt.toNat) (i + 1)) = ((ctC (F 1 i) co.toInt64 (alF σ F (σ 6 v.toInt.toNat) y (σ 3 0).toInt.toNat)), (shF σ F (σ 6 v.toInt.toNat) y co.toInt64 (alF σ F (σ 6 v.toInt.toNat) y (σ 3 0).toInt.toNat) (lfF σ F (σ 6 v.toInt.toNat) y co.toInt64 (alF σ F (σ 6 v.toInt.toNat) y (σ 3 0).toInt.toNat) (σ 3 0).toInt.toNat) i).2) := by
                show (if _ then _ else _) = _
                rw [if_pos c186, if_neg (fun z => c221 z.1)]
              have ih1 := ih (i + 1) h183a ((ctC (F 1 i) co.toInt64 (alF σ F (σ 6 v.toInt.toNat) y (σ 3 0).toInt.toNat)).toInt64) (by omega) h183b h183c h183d (fun n hn _ => by rw [show n = i by omega, hs])
              rw [hs, ← nI_1, ← ect] at ih1
              exact ih1
          · rw [f92] at c186
            have u1 : h183a 107 (nI i).toInt.toNat = F 1 i := by rw [e2]; exact (VwM.v h183d hP (i := i) (by omega)).2.1
            have ect : ctM (h183a 107 (nI i).toInt.toNat) co.toInt64 (alF σ F (σ 6 v.toInt.toNat) y (σ 3 0).toInt.toNat) = (ctC (F 1 i) co.toInt64 (alF σ F (σ 6 v.toInt.toNat) y (σ 3 0).toInt.toNat)).toInt64 := by rw [u1]; exact ct_eq hw hc64 hal.1
            have hcr := ctC_rng (w := F 1 i) hw hc64 hal.1
            have hs : (shF σ F (σ 6 v.toInt.toNat) y co.toInt64 (alF σ F (σ 6 v.toInt.toNat) y (σ 3 0).toInt.toNat) (lfF σ F (σ 6 v.toInt.toNat) y co.toInt64 (alF σ F (σ 6 v.toInt.toNat) y (σ 3 0).toInt.toNat) (σ 3 0).toInt.toNat) (i + 1)) = ((ctC (F 1 i) co.toInt64 (alF σ F (σ 6 v.toInt.toNat) y (σ 3 0).toInt.toNat)), (shF σ F (σ 6 v.toInt.toNat) y co.toInt64 (alF σ F (σ 6 v.toInt.toNat) y (σ 3 0).toInt.toNat) (lfF σ F (σ 6 v.toInt.toNat) y co.toInt64 (alF σ F (σ 6 v.toInt.toNat) y (σ 3 0).toInt.toNat) (σ 3 0).toInt.toNat) i).2) := by
              show (if _ then _ else _) = _
              rw [if_pos c186, if_neg (fun z => c207 (lgc_g0.mpr z.2))]
            have ih1 := ih (i + 1) h183a ((ctC (F 1 i) co.toInt64 (alF σ F (σ 6 v.toInt.toNat) y (σ 3 0).toInt.toNat)).toInt64) (by omega) h183b h183c h183d (fun n hn _ => by rw [show n = i by omega, hs])
            rw [hs, ← nI_1, ← ect] at ih1
            exact ih1
  have loop2 : ∀ (k i : Nat) (τ : Mm), i + k = (σ 3 0).toInt.toNat → Ag LsG σ τ → (∀ j, j ≠ 26 → τ 88 j = σ 88 j) → VwM τ P → X 114 [.ref 88, .int v, .int co, .long (alF σ F (σ 6 v.toInt.toNat) y (σ 3 0).toInt.toNat), .null, .long (lfF σ F (σ 6 v.toInt.toNat) y co.toInt64 (alF σ F (σ 6 v.toInt.toNat) y (σ 3 0).toInt.toNat) i), .null, .int (nI i), .null, .null] [] τ := by
    intro k
    induction k with
    | zero =>
      intro i τ hi hA h8 hV
      rw [Nat.add_zero] at hi
      have e1 := nIt (n := i) (by omega)
      have q4 : (τ 88 4).toInt = (σ 3 0).toInt := by rw [h8 4 (by decide), v0]
      have f92 : τ 92 v.toInt.toNat = σ 6 v.toInt.toNat := by rw [hA 92 rfl, v3]
      subst hi
      refine go [114, 168] 100 hX ?_
      refine ⟨fun c120 => ?_, fun c120 => ?_⟩
      · exfalso; omega
      · exact loop3 _ 0 τ 0 (Nat.zero_add _) hA h8 hV (fun n hn => by omega)
    | succ k ih =>
      intro i τ hi hA h8 hV
      have e1 := nIt (n := i) (by omega)
      have q4 : (τ 88 4).toInt = (σ 3 0).toInt := by rw [h8 4 (by decide), v0]
      have f92 : τ 92 v.toInt.toNat = σ 6 v.toInt.toNat := by rw [hA 92 rfl, v3]
      have e2 := nIn (i := i) (by omega)
      have hw := hR i (by omega)
      refine go [114, 168] 100 hX ?_
      refine ⟨fun c120 => ?_, fun c120 => ?_⟩
      · refine ⟨_, _, rfl, ⟨by omega, by omega⟩, ?_⟩
        refine ⟨rfl, rfl, ?_⟩
        refine m_claim (P := P) (F := F) (y := y) i hI hA h8 hV hP (by omega) hy (fun h134a h134b h134c h134d => ?_)
        refine ⟨fun c137 => ?_, fun c137 => ?_⟩
        · replace c137 := bI_z c137
          rw [f92] at c137
          have ih1 := ih (i + 1) h134a (by omega) h134b h134c h134d
          unfold lfF at ih1
          rw [if_neg c137, ← nI_1] at ih1
          exact ih1
        · replace c137 := bI_nz c137
          refine ⟨rfl, rfl, ?_⟩
          refine m_partL ⟨by omega, by omega⟩ ?_
          rw [f92] at c137
          have ih1 := ih (i + 1) h134a (by omega) h134b h134c h134d
          unfold lfF at ih1
          have u1 : h134a 107 (nI i).toInt.toNat = F 1 i := by rw [e2]; exact (VwM.v h134d hP (i := i) (by omega)).2.1
          have ect : ctM (h134a 107 (nI i).toInt.toNat) co.toInt64 (alF σ F (σ 6 v.toInt.toNat) y (σ 3 0).toInt.toNat) = (ctC (F 1 i) co.toInt64 (alF σ F (σ 6 v.toInt.toNat) y (σ 3 0).toInt.toNat)).toInt64 := by rw [u1]; exact ct_eq hw hc64 hal.1
          rw [if_pos c137, ← ect, ← nI_1] at ih1
          exact ih1
      · exfalso; omega
  have loop1 : ∀ (k i : Nat) (τ : Mm), i + k = (σ 3 0).toInt.toNat → Ag LsG σ τ → (∀ j, j ≠ 26 → τ 88 j = σ 88 j) → VwM τ P → X 62 [.ref 88, .int v, .int co, .long (alF σ F (σ 6 v.toInt.toNat) y i), .null, .int (nI i), .null, .null, .null, .null] [] τ := by
    intro k
    induction k with
    | zero =>
      intro i τ hi hA h8 hV
      rw [Nat.add_zero] at hi
      have e1 := nIt (n := i) (by omega)
      have q4 : (τ 88 4).toInt = (σ 3 0).toInt := by rw [h8 4 (by decide), v0]
      have f92 : τ 92 v.toInt.toNat = σ 6 v.toInt.toNat := by rw [hA 92 rfl, v3]
      subst hi
      refine go [62, 114] 100 hX ?_
      refine ⟨fun c68 => ?_, fun c68 => ?_⟩
      · exfalso; omega
      · exact loop2 _ 0 τ (Nat.zero_add _) hA h8 hV
    | succ k ih =>
      intro i τ hi hA h8 hV
      have e1 := nIt (n := i) (by omega)
      have q4 : (τ 88 4).toInt = (σ 3 0).toInt := by rw [h8 4 (by decide), v0]
      have f92 : τ 92 v.toInt.toNat = σ 6 v.toInt.toNat := by rw [hA 92 rfl, v3]
      have e2 := nIn (i := i) (by omega)
      have hw := hR i (by omega)
      refine go [62, 114] 100 hX ?_
      refine ⟨fun c68 => ?_, fun c68 => ?_⟩
      · refine ⟨_, _, rfl, ⟨by omega, by omega⟩, ?_⟩
        refine ⟨rfl, rfl, ?_⟩
        refine m_claim (P := P) (F := F) (y := y) i hI hA h8 hV hP (by omega) hy (fun h81a h81b h81c h81d => ?_)
        refine ⟨fun c84 => ?_, fun c84 => ?_⟩
        · replace c84 := bI_z c84
          rw [f92] at c84
          have ih1 := ih (i + 1) h81a (by omega) h81b h81c h81d
          unfold alF at ih1
          rw [if_neg c84, ← nI_1] at ih1
          exact ih1
        · replace c84 := bI_nz c84
          refine ⟨_, _, rfl, ⟨by omega, by omega⟩, ?_⟩
          rw [f92] at c84
          have ih1 := ih (i + 1) h81a (by omega) h81b h81c h81d
          unfold alF at ih1
          have u1 : h81a 107 (nI i).toInt.toNat = F 1 i := by rw [e2]; exact (VwM.v h81d hP (i := i) (by omega)).2.1
          rw [if_pos c84, ← u1, ← nI_1] at ih1
          exact ih1
      · exfalso; omega
  exact loop1 _ 0 τ (Nat.zero_add _) hA h8 hV
def fallR (v co : Int32) (σ : Mm) : Int32 := if ((0 ≤ v.toInt ∧ v.toInt < (σ 3 0).toInt) ∧ (0 ≤ co.toInt ∧ co.toInt ≤ 1000000)) then (if (((Fin_ σ (σ 1 0) (σ 1 0)) 0 v.toInt.toNat).toInt = 0 ∨ (lifeF σ ((Fin_ σ (σ 1 0) (σ 1 0)) 1) v.toInt.toNat).toInt < ((σ 1 0) - (Fin_ σ (σ 1 0) (σ 1 0)) 2 v.toInt.toNat).toInt) then -1000000002 else (shF σ (Fin_ σ (σ 1 0) (σ 1 0)) (σ 6 v.toInt.toNat) (σ 1 0) co.toInt64 (alF σ (Fin_ σ (σ 1 0) (σ 1 0)) (σ 6 v.toInt.toNat) (σ 1 0) (σ 3 0).toInt.toNat) (lfF σ (Fin_ σ (σ 1 0) (σ 1 0)) (σ 6 v.toInt.toNat) (σ 1 0) co.toInt64 (alF σ (Fin_ σ (σ 1 0) (σ 1 0)) (σ 6 v.toInt.toNat) (σ 1 0) (σ 3 0).toInt.toNat) (σ 3 0).toInt.toNat) (v.toInt.toNat + 1)).1) else -1000000001
set_option maxRecDepth 10000 in
theorem cs_fall {v co : Int32} (σ : Mm) (Q : Qt) (hI : Inv σ) (hQ : ∀ τ, Ag LsP σ τ → Q (some (.int (fallR v co σ))) τ) : Call 120 k_X11_fall [.ref 0, .int v, .int co] σ Q := by
  obtain ⟨⟨t0, t1, t2, t3⟩, ⟨t4, t5⟩, ⟨t6, t7⟩, ⟨t8, t9⟩, t10⟩ := id (hI.1)
  obtain ⟨⟨v0, v1, v2, v3, v4, v5, v6⟩, ⟨v7, v8⟩, v9⟩ := id (hI.2.1)
  refine Call_st 200 fun X hX => ?_
  refine ⟨rfl, rfl, ?_⟩
  refine s_vhas ?_
  refine ⟨fun c8 => ?_, fun c8 => ?_⟩
  · replace c8 := bI_z c8
    refine ⟨rfl, trivial, ?_⟩
    unfold fallR at hQ
    rw [if_neg (by (first | omega | (simp only [Int32.reduceToInt] at c8 ⊢; omega)))] at hQ
    exact hQ _ Ag.rf
  · replace c8 := bI_nz c8
    refine ⟨rfl, ?_⟩
    refine s_withinK (l := 0) (h := 1000000) (by decide) (by decide) ?_
    refine ⟨fun c18 => ?_, fun c18 => ?_⟩
    · replace c18 := bI_z c18
      refine ⟨rfl, trivial, ?_⟩
      unfold fallR at hQ
      rw [if_neg (by (first | omega | (simp only [Int32.reduceToInt] at c8 c18 ⊢; omega)))] at hQ
      exact hQ _ Ag.rf
    · replace c18 := bI_nz c18
      have hok : ((0 ≤ v.toInt ∧ v.toInt < (σ 3 0).toInt) ∧ (0 ≤ co.toInt ∧ co.toInt ≤ 1000000)) := by omega
      refine ⟨rfl, rfl, ?_⟩
      refine s_play hI (fun h42a h42b h42c h42d h42e => ?_)
      have hIT := Inv_P hI h42c
      have hL := hIT.2.2.2.2.2.2.2.2.2.2.1
      have hVT := hIT.2.1
      have hlv := (v9 v.toInt.toNat (by omega)).2.1
      have f5 : h42a 5 = σ 5 := h42c 5 rfl
      have hl : 0 ≤ (h42a 5 v.toInt.toNat).toInt ∧ (h42a 5 v.toInt.toNat).toInt ≤ 2 := by rw [f5]; exact hlv
      obtain ⟨u0, u1, u2⟩ : h42a 35 v.toInt.toNat = (Fin_ σ (σ 1 0) (σ 1 0)) 0 v.toInt.toNat ∧ h42a 36 v.toInt.toNat = (Fin_ σ (σ 1 0) (σ 1 0)) 1 v.toInt.toNat ∧ h42a 37 v.toInt.toNat = (Fin_ σ (σ 1 0) (σ 1 0)) 2 v.toInt.toNat := Vw.v h42d h42e (by omega)
      have eL : lifeF h42a (h42a 36) v.toInt.toNat = lifeF σ ((Fin_ σ (σ 1 0) (σ 1 0)) 1) v.toInt.toNat := life_ag h42c rfl hlv.2 u1
      refine ⟨_, _, rfl, ⟨by omega, by omega⟩, ?_⟩
      refine ⟨fun c54 => ?_, fun c54 => ?_⟩
      · (try rw [eL, u2, h42c 1 rfl] at c72)
        refine ⟨rfl, trivial, ?_⟩
        unfold fallR at hQ
        rw [if_pos hok] at hQ
        rw [if_pos (Or.inl (by rw [← u0]; exact c54))] at hQ
        exact hQ _ h42c
      · refine ⟨rfl, rfl, ?_⟩
        refine s_isEnded ⟨by omega, by omega⟩ hL hl (fun h69a h69b => ?_)
        refine ⟨fun c72 => ?_, fun c72 => ?_⟩
        · replace c72 := bI_z c72
          rw [eL, u2, h42c 1 rfl] at c72
          refine ⟨rfl, rfl, ?_⟩
          refine s_shareOf (F := (Fin_ σ (σ 1 0) (σ 1 0))) hI (Ag.tr h42c (Ag.wk h69b rfl)) (Vw.ag h42d h69b) h42e (by omega) (fun h91a h91b => ?_)
          refine ⟨rfl, trivial, ?_⟩
          unfold fallR at hQ
          rw [if_pos hok] at hQ
          rw [if_neg (fun z => z.elim (fun z => c54 (by rw [u0]; exact z)) c72)] at hQ
          rw [show h69a 1 0 = σ 1 0 by rw [h69b 1 rfl, h42c 1 rfl]]
          exact hQ _ h91b
        · replace c72 := bI_nz c72
          (try rw [eL, u2, h42c 1 rfl] at c72)
          refine ⟨rfl, trivial, ?_⟩
          unfold fallR at hQ
          rw [if_pos hok] at hQ
          rw [if_pos (Or.inr c72)] at hQ
          exact hQ _ (Ag.tr h42c (Ag.wk h69b rfl))
set_option maxRecDepth 10000 in
theorem ms_fall {v co : Int32} (σ : Mm) (Q : Qt) (hI : Inv σ) (hQ : ∀ τ, Inv τ → Q (some (.int (fallR v co σ))) τ) : Call 120 k_X12_fall [.ref 88, .int v, .int co] σ Q := by
  obtain ⟨⟨t0, t1, t2, t3⟩, ⟨t4, t5⟩, ⟨t6, t7⟩, ⟨t8, t9⟩, t10⟩ := id (hI.1)
  obtain ⟨⟨v0, v1, v2, v3, v4, v5, v6⟩, ⟨v7, v8⟩, v9⟩ := id (hI.2.1)
  have qvouchers : (σ 88 4).toInt = (σ 3 0).toInt := by rw [v0]
  have qtoday : (σ 88 0).toInt = (σ 1 0).toInt := by rw [t0]
  refine Call_go fun X hX => ?_
  refine go [62] 60 hX ?_
  refine ⟨rfl, rfl, ?_⟩
  refine m_isVoucher (by omega) ?_
  refine ⟨fun c5 => ?_, fun c5 => ?_⟩
  · replace c5 := bI_z c5
    refine ⟨rfl, trivial, ?_⟩
    unfold fallR at hQ
    rw [if_neg (by (first | omega | (simp only [Int32.reduceToInt] at c5 ⊢; omega)))] at hQ
    exact hQ _ hI
  · replace c5 := bI_nz c5
    refine ⟨rfl, ?_⟩
    refine m_isInK (l := 0) (h := 1000000) (by decide) (by decide) ?_
    refine ⟨fun c15 => ?_, fun c15 => ?_⟩
    · replace c15 := bI_z c15
      refine ⟨rfl, trivial, ?_⟩
      unfold fallR at hQ
      rw [if_neg (by (first | omega | (simp only [Int32.reduceToInt] at c5 c15 ⊢; omega)))] at hQ
      exact hQ _ hI
    · replace c15 := bI_nz c15
      have hok : ((0 ≤ v.toInt ∧ v.toInt < (σ 3 0).toInt) ∧ (0 ≤ co.toInt ∧ co.toInt ≤ 1000000)) := by omega
      refine ⟨rfl, rfl, ?_⟩
      refine m_goThrough hI (by omega) (fun h30a h30b h30c h30d h30e h30f => ?_)
      rw [t0] at h30f
      have hIT := Inv_G hI h30c h30d
      have hL := hIT.2.2.2.2.2.2.2.2.2.2.1
      have hVT := hIT.2.1
      have hlv := (v9 v.toInt.toNat (by omega)).2.1
      have f5 : h30a 5 = σ 5 := h30c 5 rfl
      have hl : 0 ≤ (h30a 5 v.toInt.toNat).toInt ∧ (h30a 5 v.toInt.toNat).toInt ≤ 2 := by rw [f5]; exact hlv
      obtain ⟨u0, u1, u2⟩ : h30a 106 v.toInt.toNat = (Fin_ σ (σ 1 0) (σ 1 0)) 0 v.toInt.toNat ∧ h30a 107 v.toInt.toNat = (Fin_ σ (σ 1 0) (σ 1 0)) 1 v.toInt.toNat ∧ h30a 108 v.toInt.toNat = (Fin_ σ (σ 1 0) (σ 1 0)) 2 v.toInt.toNat := VwM.v h30e h30f (by omega)
      have eL : lifeF h30a (h30a 107) v.toInt.toNat = lifeF σ ((Fin_ σ (σ 1 0) (σ 1 0)) 1) v.toInt.toNat := life_ag h30c rfl hlv.2 u1
      refine ⟨_, _, rfl, ⟨by omega, by omega⟩, ?_⟩
      refine ⟨fun c39 => ?_, fun c39 => ?_⟩
      · (try rw [eL, u2, h30d 0 (by decide), t0] at c51)
        refine ⟨rfl, trivial, ?_⟩
        unfold fallR at hQ
        rw [if_pos hok] at hQ
        rw [if_pos (Or.inl (by rw [← u0]; exact c39))] at hQ
        exact hQ _ hIT
      · refine ⟨rfl, rfl, ?_⟩
        refine m_isEnded ⟨by omega, by omega⟩ hL hVT hl (fun h48a => ?_)
        refine ⟨fun c51 => ?_, fun c51 => ?_⟩
        · replace c51 := bI_z c51
          rw [eL, u2, h30d 0 (by decide), t0] at c51
          unfold fallR at hQ
          rw [if_pos hok, if_neg (fun z => z.elim (fun z => c39 (by rw [u0]; exact z)) c51)] at hQ
          refine m_shares (F := (Fin_ σ (σ 1 0) (σ 1 0))) (y := σ 1 0) hX hI (Ag.up h30c rfl) (fun j hj => h30d j hj) (VwMU h30e) h30f (Fin_rng hI) t0.symm (by omega) (by omega) ⟨rfl, fun z => c39 (by rw [u0]; exact z), c51⟩ (fun τ' hA' h8' => hQ τ' (Inv_G hI hA' h8'))
        · replace c51 := bI_nz c51
          (try rw [eL, u2, h30d 0 (by decide), t0] at c51)
          refine ⟨rfl, trivial, ?_⟩
          unfold fallR at hQ
          rw [if_pos hok] at hQ
          rw [if_pos (Or.inr c51)] at hQ
          exact hQ _ (Inv_GU hI h30c h30d)
theorem op_fall {σ : Mm} {v co : Int32} (hI : Inv σ) : Call 120 k_X11_fall [.ref 0, .int v, .int co] σ (fun r τ => Call 120 k_X12_fall [.ref 88, .int v, .int co] τ (fun r' τ' => (∃ x : Int32, r = some (.int x) ∧ r' = some (.int x)) ∧ Inv τ')) :=
  op_of (R := fallR v co) cs_fall ms_fall (fun σ τ hI hA => by
    unfold fallR
    have h3 := (hI.2.1).2.1
    have hcl : ∀ (F : Mm) (f d : Int32) (i : Nat), i < (σ 3 0).toInt.toNat → (clF τ F f d i ↔ clF σ F f d i) := fun F f d i hi => by
      have hlv := ((hI.2.1).2.2 i (by omega)).2.1
      unfold clF
      rw [hA 6 rfl, life_ag hA rfl hlv.2 rfl]
    by_cases q : ((0 ≤ v.toInt ∧ v.toInt < (σ 3 0).toInt) ∧ (0 ≤ co.toInt ∧ co.toInt ≤ 1000000))
    · have hlv := ((hI.2.1).2.2 v.toInt.toNat (by omega)).2.1
      rw [hA 3 rfl, if_pos q, if_pos q, hA 1 rfl, Fin_eq hI hA, hA 6 rfl, life_ag hA rfl hlv.2 rfl, alF_cong _ (hcl _ _ _), lfF_cong _ (hcl _ _ _), shF_cong _ (fun i hi => hcl _ _ _ i (by omega))]
    · rw [hA 3 rfl, if_neg q, if_neg q]) hI
