theorem m_isEnded3 {d : Nat} {σ : Mm} {Q : Qt} {v y : Int32} {c : Prop} [Decidable c] (hv : 0 ≤ v.toInt ∧ v.toInt < 30) (hL : I_la σ) (hV : I_vo σ) (hl : 0 ≤ (σ 5 v.toInt.toNat).toInt ∧ (σ 5 v.toInt.toNat).toInt ≤ 2) (hc : (lifeF σ (σ 107) v.toInt.toNat).toInt < (y - σ 108 v.toInt.toNat).toInt ↔ c) (hQ : ∀ g, Q (some (.int (bI c))) (up σ 117 g)) : Call (d + 5) k_X12_isEnded [.ref 88, .int v, .int y] σ Q :=
  m_isEnded hv hL hV hl (fun g => bI_e (hQ g) hc.symm)
theorem m_val3 {d : Nat} {σ : Mm} {Q : Qt} {v a l x E : Int32} (p : Nat) (hL : I_la σ) (hl : 0 ≤ l.toInt ∧ l.toInt ≤ 2) (hp : p < 3) (hg : ¬ (σ 110 l.toInt.toNat).toInt = 0) (hv : 0 ≤ v.toInt ∧ v.toInt < 30) (hx : x = 3 * l + nI p) (hE : lvF σ l.toInt.toNat p (nmO (σ 90) (σ 107) (σ 94) (σ 95) v.toInt.toNat a) = E) (hQ : ∀ g, Q (some (.int E)) (up σ 117 g)) : Call (d + 3) k_X12_worked [.ref 88, .int x, .int v, .int a] σ Q :=
  m_val p hL hl hp hg hv hx (fun g => by rw [hE]; exact hQ g)
set_option maxHeartbeats 8000000 in
theorem ms_gain {f x y : Int32} (σ : Mm) (Q : Qt) (hI : Inv σ) (hQ : ∀ τ, Inv τ → Q (some (.int (gainR f x y σ))) τ) : Call 120 k_X12_gain [.ref 88, .int f, .int x, .int y] σ Q := by
  refine Call_go fun X hX => ?_
  obtain ⟨⟨t0, t1, t2, t3⟩, ⟨t4, t5⟩, ⟨t6, t7⟩, ⟨t8, t9⟩, t10⟩ := id (hI.1)
  obtain ⟨⟨v0, v1, v2, v3, v4, v5, v6⟩, ⟨v7, v8⟩, v9⟩ := id (hI.2.1)
  have qfirms : (σ 88 1).toInt = (σ 1 1).toInt := by rw [t1]
  have loop : ((0 ≤ f.toInt ∧ f.toInt < (σ 1 1).toInt) ∧ ((0 ≤ x.toInt ∧ x.toInt ≤ 900) ∧ (0 ≤ y.toInt ∧ y.toInt ≤ 900))) → ∀ (k i : Nat) (τ P : Mm) (v6 : Value), i + k = (σ 3 0).toInt.toNat → Ag LsG σ τ → (∀ j, j ≠ 26 → τ 88 j = σ 88 j) → VwM τ P → Peq P (Fin_ σ x y) → X 37 [.ref 88, .int f, .int x, .int y, .int (gnS σ (Fin_ σ x y) f x i), .int (nI i), v6] [] τ := by
    intro hok k
    induction k with
    | zero =>
      intro i τ P v6 hi hA h88 hV hP
      rw [Nat.add_zero] at hi
      rw [hi]
      have e1 := nIt (n := (σ 3 0).toInt.toNat) (by omega)
      have q88 : τ 88 4 = σ 3 0 := (h88 4 (by decide)).trans v0
      refine go [37] 100 hX ?_
      refine ⟨fun c43 => ?_, fun c43 => ?_⟩
      · exfalso; rw [q88] at c43; omega
      · refine ⟨rfl, trivial, ?_⟩
        unfold gainR at hQ
        rw [if_pos hok] at hQ
        exact hQ τ (Inv_G hI hA h88)
    | succ k ih =>
      intro i τ P v6 hi hA h88 hV hP
      have e1 := nIt (n := i) (by omega)
      have e2 := nIn (i := i) (by omega)
      have q88 : τ 88 4 = σ 3 0 := (h88 4 (by decide)).trans v0
      have e92 : τ 92 = σ 6 := (hA 92 rfl).trans v3
      have hIT := Inv_G hI hA h88
      have hL := hIT.2.2.2.2.2.2.2.2.2.2.1
      have hVT := hIT.2.1
      have hlv := (v9 i (by omega)).2.1
      have hl : 0 ≤ (τ 5 (nI i).toInt.toNat).toInt ∧ (τ 5 (nI i).toInt.toNat).toInt ≤ 2 := by rw [hA 5 rfl, e2]; exact hlv
      obtain ⟨u0, u1, u2⟩ : τ 106 i = Fin_ σ x y 0 i ∧ τ 107 i = Fin_ σ x y 1 i ∧ τ 108 i = Fin_ σ x y 2 i := VwM.v hV hP (by omega)
      have u1' : τ 107 (nI i).toInt.toNat = Fin_ σ x y 1 i := by rw [e2]; exact u1
      have hw0 := Fin_rng hI (x := x) (y := y) i (by omega)
      have hc0 : (lifeF τ (τ 107) (nI i).toInt.toNat).toInt < (x - τ 108 (nI i).toInt.toNat).toInt ↔ (lifeF σ ((Fin_ σ x y) 1) i).toInt < (x - (Fin_ σ x y) 2 i).toInt := by
        rw [e2, life_ag hA rfl hlv.2 u1, u2]
      have hc1 : ∀ g, ((lifeF (up τ 117 g) (up τ 117 g 107) (nI i).toInt.toNat).toInt < (x - up τ 117 g 108 (nI i).toInt.toNat).toInt ↔ (lifeF σ ((Fin_ σ x y) 1) i).toInt < (x - (Fin_ σ x y) 2 i).toInt) := fun g => by
        have e := life_up (σ := τ) (g := g) (w := τ 107) (v := (nI i).toInt.toNat) hl.2
        have e3 : (lifeF (up τ 117 g) (τ 107) (nI i).toInt.toNat).toInt < (x - τ 108 (nI i).toInt.toNat).toInt ↔ (lifeF σ ((Fin_ σ x y) 1) i).toInt < (x - (Fin_ σ x y) 2 i).toInt := by rw [e]; exact hc0
        exact e3
      have hE : lvF τ (τ 91 (nI i).toInt.toNat).toInt.toNat 2 (nmO (τ 90) (τ 107) (τ 94) (τ 95) (nI i).toInt.toNat (x - τ 108 (nI i).toInt.toNat)) = (lvF σ (σ 5 i).toInt.toNat 2 (nmO (σ 4) ((Fin_ σ x y) 1) (σ 8) (σ 9) i (x - (Fin_ σ x y) 2 i))) := by
        rw [hVT.1.2.1, hVT.1.2.2.1, hVT.1.2.2.2.2.2.1, hVT.1.2.2.2.2.2.2, hA 5 rfl, hA 4 rfl, hA 8 rfl, hA 9 rfl, e2]
        exact lvF_ag hA rfl (by omega) (nmO_w u1 (by rw [u2]))
      refine go [37] 150 hX ?_
      refine ⟨fun c43 => ?_, fun c43 => ?_⟩
      · refine ⟨_, _, rfl, ⟨by omega, by omega⟩, ?_⟩
        refine ⟨fun c54 => ?_, fun c54 => ?_⟩
        · refine ⟨_, _, rfl, ⟨by omega, by omega⟩, ?_⟩
          refine ⟨fun c64 => ?_, fun c64 => ?_⟩
          · have ih1 := ih (i + 1) τ P v6 (by omega) hA h88 hV hP
            unfold gnS at ih1
            rw [if_neg (fun q => q.2 (by rw [← u0]; rw [e2] at c64; exact c64))] at ih1
            rw [← nI_1] at ih1
            exact ih1
          · refine ⟨_, _, rfl, ⟨by omega, by omega⟩, ?_⟩
            refine ⟨fun c74 => ?_, fun c74 => ?_⟩
            · have ih1 := ih (i + 1) τ P v6 (by omega) hA h88 hV hP
              unfold gnS at ih1
              rw [if_pos ⟨by rw [e92, e2] at c54; exact c54, fun z => c64 (by rw [e2, u0]; exact z)⟩, gn_0 (by rw [← u1]; rw [e2] at c74; exact c74), Int32.add_zero] at ih1
              rw [← nI_1] at ih1
              exact ih1
            · refine ⟨_, _, rfl, ⟨by omega, by omega⟩, ?_⟩
              refine ⟨_, _, rfl, (show ixs (τ 91 (nI i).toInt.toNat) 3 by rw [hVT.1.2.2.1]; exact ⟨by omega, by omega⟩), ?_⟩
              refine ⟨fun c92 => ?_, fun c92 => ?_⟩
              · refine ⟨fun z => absurd z (by decide), fun _ => ?_⟩
                refine ⟨_, _, rfl, ⟨by omega, by omega⟩, ?_⟩
                refine ⟨fun c145 => ?_, fun c145 => ?_⟩
                · refine ⟨_, _, rfl, ⟨by omega, by omega⟩, ?_⟩
                  refine ⟨rfl, rfl, ?_⟩
                  refine m_isEnded3 (c := (lifeF σ ((Fin_ σ x y) 1) i).toInt < (x - (Fin_ σ x y) 2 i).toInt) ⟨by omega, by omega⟩ (by first | exact hL | exact I_la_fr (σ := τ) rfl rfl rfl rfl rfl rfl rfl rfl rfl rfl rfl hL) (by first | exact hVT | exact I_vo_fr (σ := τ) rfl rfl rfl rfl rfl rfl rfl rfl rfl rfl rfl rfl rfl rfl rfl hVT) (by first | exact hl | exact hl) (by first | exact hc0 | exact hc1 _) (fun h168a => ?_)
                  refine ⟨fun c171 => ?_, fun c171 => ?_⟩
                  · replace c171 := bI_z c171
                    exfalso
                    have c145 : (τ 107 (nI i).toInt.toNat).toInt < (0 : Int32).toInt := c145
                    simp only [Int32.reduceToInt] at c145
                    rw [e2, u1] at c145
                    omega
                  · replace c171 := bI_nz c171
                    refine ⟨_, _, rfl, ⟨by omega, by omega⟩, ?_⟩
                    exfalso
                    have c145 : (τ 107 (nI i).toInt.toNat).toInt < (0 : Int32).toInt := c145
                    simp only [Int32.reduceToInt] at c145
                    rw [e2, u1] at c145
                    omega
                · refine ⟨rfl, rfl, ?_⟩
                  refine m_isEnded3 (c := (lifeF σ ((Fin_ σ x y) 1) i).toInt < (x - (Fin_ σ x y) 2 i).toInt) ⟨by omega, by omega⟩ (by first | exact hL | exact I_la_fr (σ := τ) rfl rfl rfl rfl rfl rfl rfl rfl rfl rfl rfl hL) (by first | exact hVT | exact I_vo_fr (σ := τ) rfl rfl rfl rfl rfl rfl rfl rfl rfl rfl rfl rfl rfl rfl rfl hVT) (by first | exact hl | exact hl) (by first | exact hc0 | exact hc1 _) (fun h168a => ?_)
                  refine ⟨fun c171 => ?_, fun c171 => ?_⟩
                  · replace c171 := bI_z c171
                    have ih0 := fun z => ih (i + 1) (up τ 117 h168a) P z (by omega) (Ag.up hA rfl) (fun j hj => h88 j hj) (VwMU hV) hP
                    unfold gnS at ih0
                    rw [if_pos ⟨by rw [e92, e2] at c54; exact c54, fun z => c64 (by rw [e2, u0]; exact z)⟩, ← nI_1] at ih0
                    have c92 : (τ 110 (τ 91 (nI i).toInt.toNat).toInt.toNat).toInt = 0 := c92
                    rw [hL.1, hVT.1.2.2.1, hA 20 rfl, hA 5 rfl, e2] at c92
                    unfold gnF at ih0
                    rw [if_neg c171, if_pos c92] at ih0
                    exact ih0 (.int 0)
                  · replace c171 := bI_nz c171
                    refine ⟨_, _, rfl, ⟨by omega, by omega⟩, ?_⟩
                    have ih0 := fun z => ih (i + 1) (up τ 117 h168a) P z (by omega) (Ag.up hA rfl) (fun j hj => h88 j hj) (VwMU hV) hP
                    unfold gnS at ih0
                    rw [if_pos ⟨by rw [e92, e2] at c54; exact c54, fun z => c64 (by rw [e2, u0]; exact z)⟩, ← nI_1] at ih0
                    have c92 : (τ 110 (τ 91 (nI i).toInt.toNat).toInt.toNat).toInt = 0 := c92
                    rw [hL.1, hVT.1.2.2.1, hA 20 rfl, hA 5 rfl, e2] at c92
                    unfold gnF at ih0
                    rw [if_pos c171, ← u1'] at ih0
                    exact ih0 (.int 0)
              · refine ⟨_, _, rfl, ⟨by omega, by omega⟩, ?_⟩
                refine ⟨_, _, rfl, ⟨by omega, by omega⟩, ?_⟩
                refine ⟨rfl, rfl, ?_⟩
                refine m_val3 (l := τ 91 (nI i).toInt.toNat) (E := (lvF σ (σ 5 i).toInt.toNat 2 (nmO (σ 4) ((Fin_ σ x y) 1) (σ 8) (σ 9) i (x - (Fin_ σ x y) 2 i)))) 2 hL (show 0 ≤ (τ 91 (nI i).toInt.toNat).toInt ∧ (τ 91 (nI i).toInt.toNat).toInt ≤ 2 by rw [hVT.1.2.2.1]; exact hl) (by decide) c92 ⟨by omega, by omega⟩ rfl hE (fun h118a => ?_)
                refine ⟨fun c129 => ?_, fun c129 => ?_⟩
                · refine ⟨rfl, rfl, ?_⟩
                  refine m_isEnded3 (c := (lifeF σ ((Fin_ σ x y) 1) i).toInt < (x - (Fin_ σ x y) 2 i).toInt) ⟨by omega, by omega⟩ (by first | exact hL | exact I_la_fr (σ := τ) rfl rfl rfl rfl rfl rfl rfl rfl rfl rfl rfl hL) (by first | exact hVT | exact I_vo_fr (σ := τ) rfl rfl rfl rfl rfl rfl rfl rfl rfl rfl rfl rfl rfl rfl rfl hVT) (by first | exact hl | exact hl) (by first | exact hc0 | exact hc1 _) (fun h168a => ?_)
                  refine ⟨fun c171 => ?_, fun c171 => ?_⟩
                  · replace c171 := bI_z c171
                    have ih0 := fun z => ih (i + 1) (up (up τ 117 h118a) 117 h168a) P z (by omega) (Ag.up (Ag.up hA rfl) rfl) (fun j hj => h88 j hj) (VwMU (VwMU hV)) hP
                    unfold gnS at ih0
                    rw [if_pos ⟨by rw [e92, e2] at c54; exact c54, fun z => c64 (by rw [e2, u0]; exact z)⟩, ← nI_1] at ih0
                    have c92 : ¬ (τ 110 (τ 91 (nI i).toInt.toNat).toInt.toNat).toInt = 0 := c92
                    rw [hL.1, hVT.1.2.2.1, hA 20 rfl, hA 5 rfl, e2] at c92
                    unfold gnF at ih0
                    rw [if_neg c171, if_neg c92, (clampE hw0.1).1 c129] at ih0
                    exact ih0 (.int 0)
                  · replace c171 := bI_nz c171
                    refine ⟨_, _, rfl, ⟨by omega, by omega⟩, ?_⟩
                    have ih0 := fun z => ih (i + 1) (up (up τ 117 h118a) 117 h168a) P z (by omega) (Ag.up (Ag.up hA rfl) rfl) (fun j hj => h88 j hj) (VwMU (VwMU hV)) hP
                    unfold gnS at ih0
                    rw [if_pos ⟨by rw [e92, e2] at c54; exact c54, fun z => c64 (by rw [e2, u0]; exact z)⟩, ← nI_1] at ih0
                    have c92 : ¬ (τ 110 (τ 91 (nI i).toInt.toNat).toInt.toNat).toInt = 0 := c92
                    rw [hL.1, hVT.1.2.2.1, hA 20 rfl, hA 5 rfl, e2] at c92
                    unfold gnF at ih0
                    rw [if_pos c171, ← u1'] at ih0
                    exact ih0 (.int 0)
                · refine ⟨_, _, rfl, ⟨by omega, by omega⟩, ?_⟩
                  refine ⟨fun c145 => ?_, fun c145 => ?_⟩
                  · refine ⟨_, _, rfl, ⟨by omega, by omega⟩, ?_⟩
                    refine ⟨rfl, rfl, ?_⟩
                    refine m_isEnded3 (c := (lifeF σ ((Fin_ σ x y) 1) i).toInt < (x - (Fin_ σ x y) 2 i).toInt) ⟨by omega, by omega⟩ (by first | exact hL | exact I_la_fr (σ := τ) rfl rfl rfl rfl rfl rfl rfl rfl rfl rfl rfl hL) (by first | exact hVT | exact I_vo_fr (σ := τ) rfl rfl rfl rfl rfl rfl rfl rfl rfl rfl rfl rfl rfl rfl rfl hVT) (by first | exact hl | exact hl) (by first | exact hc0 | exact hc1 _) (fun h168a => ?_)
                    refine ⟨fun c171 => ?_, fun c171 => ?_⟩
                    · replace c171 := bI_z c171
                      have ih0 := fun z => ih (i + 1) (up (up τ 117 h118a) 117 h168a) P z (by omega) (Ag.up (Ag.up hA rfl) rfl) (fun j hj => h88 j hj) (VwMU (VwMU hV)) hP
                      unfold gnS at ih0
                      rw [if_pos ⟨by rw [e92, e2] at c54; exact c54, fun z => c64 (by rw [e2, u0]; exact z)⟩, ← nI_1] at ih0
                      have c92 : ¬ (τ 110 (τ 91 (nI i).toInt.toNat).toInt.toNat).toInt = 0 := c92
                      rw [hL.1, hVT.1.2.2.1, hA 20 rfl, hA 5 rfl, e2] at c92
                      unfold gnF at ih0
                      have c145 : (τ 107 (nI i).toInt.toNat).toInt < (lvF σ (σ 5 i).toInt.toNat 2 (nmO (σ 4) ((Fin_ σ x y) 1) (σ 8) (σ 9) i (x - (Fin_ σ x y) 2 i))).toInt := c145
                      rw [e2, u1] at c145
                      rw [if_neg c171, if_neg c92, (clampE hw0.1).2.1 c129 c145, ← u1'] at ih0
                      exact ih0 (.int (τ 107 (nI i).toInt.toNat))
                    · replace c171 := bI_nz c171
                      refine ⟨_, _, rfl, ⟨by omega, by omega⟩, ?_⟩
                      have ih0 := fun z => ih (i + 1) (up (up τ 117 h118a) 117 h168a) P z (by omega) (Ag.up (Ag.up hA rfl) rfl) (fun j hj => h88 j hj) (VwMU (VwMU hV)) hP
                      unfold gnS at ih0
                      rw [if_pos ⟨by rw [e92, e2] at c54; exact c54, fun z => c64 (by rw [e2, u0]; exact z)⟩, ← nI_1] at ih0
                      have c92 : ¬ (τ 110 (τ 91 (nI i).toInt.toNat).toInt.toNat).toInt = 0 := c92
                      rw [hL.1, hVT.1.2.2.1, hA 20 rfl, hA 5 rfl, e2] at c92
                      unfold gnF at ih0
                      rw [if_pos c171, ← u1'] at ih0
                      exact ih0 (.int (τ 107 (nI i).toInt.toNat))
                  · refine ⟨rfl, rfl, ?_⟩
                    refine m_isEnded3 (c := (lifeF σ ((Fin_ σ x y) 1) i).toInt < (x - (Fin_ σ x y) 2 i).toInt) ⟨by omega, by omega⟩ (by first | exact hL | exact I_la_fr (σ := τ) rfl rfl rfl rfl rfl rfl rfl rfl rfl rfl rfl hL) (by first | exact hVT | exact I_vo_fr (σ := τ) rfl rfl rfl rfl rfl rfl rfl rfl rfl rfl rfl rfl rfl rfl rfl hVT) (by first | exact hl | exact hl) (by first | exact hc0 | exact hc1 _) (fun h168a => ?_)
                    refine ⟨fun c171 => ?_, fun c171 => ?_⟩
                    · replace c171 := bI_z c171
                      have ih0 := fun z => ih (i + 1) (up (up τ 117 h118a) 117 h168a) P z (by omega) (Ag.up (Ag.up hA rfl) rfl) (fun j hj => h88 j hj) (VwMU (VwMU hV)) hP
                      unfold gnS at ih0
                      rw [if_pos ⟨by rw [e92, e2] at c54; exact c54, fun z => c64 (by rw [e2, u0]; exact z)⟩, ← nI_1] at ih0
                      have c92 : ¬ (τ 110 (τ 91 (nI i).toInt.toNat).toInt.toNat).toInt = 0 := c92
                      rw [hL.1, hVT.1.2.2.1, hA 20 rfl, hA 5 rfl, e2] at c92
                      unfold gnF at ih0
                      have c145 : ¬ (τ 107 (nI i).toInt.toNat).toInt < (lvF σ (σ 5 i).toInt.toNat 2 (nmO (σ 4) ((Fin_ σ x y) 1) (σ 8) (σ 9) i (x - (Fin_ σ x y) 2 i))).toInt := c145
                      rw [e2, u1] at c145
                      rw [if_neg c171, if_neg c92, (clampE hw0.1).2.2 c129 c145] at ih0
                      exact ih0 (.int (lvF σ (σ 5 i).toInt.toNat 2 (nmO (σ 4) ((Fin_ σ x y) 1) (σ 8) (σ 9) i (x - (Fin_ σ x y) 2 i))))
                    · replace c171 := bI_nz c171
                      refine ⟨_, _, rfl, ⟨by omega, by omega⟩, ?_⟩
                      have ih0 := fun z => ih (i + 1) (up (up τ 117 h118a) 117 h168a) P z (by omega) (Ag.up (Ag.up hA rfl) rfl) (fun j hj => h88 j hj) (VwMU (VwMU hV)) hP
                      unfold gnS at ih0
                      rw [if_pos ⟨by rw [e92, e2] at c54; exact c54, fun z => c64 (by rw [e2, u0]; exact z)⟩, ← nI_1] at ih0
                      have c92 : ¬ (τ 110 (τ 91 (nI i).toInt.toNat).toInt.toNat).toInt = 0 := c92
                      rw [hL.1, hVT.1.2.2.1, hA 20 rfl, hA 5 rfl, e2] at c92
                      unfold gnF at ih0
                      rw [if_pos c171, ← u1'] at ih0
                      exact ih0 (.int (lvF σ (σ 5 i).toInt.toNat 2 (nmO (σ 4) ((Fin_ σ x y) 1) (σ 8) (σ 9) i (x - (Fin_ σ x y) 2 i))))
        · have ih1 := ih (i + 1) τ P v6 (by omega) hA h88 hV hP
          unfold gnS at ih1
          rw [if_neg (fun q => c54 (by rw [e92, e2]; exact q.1))] at ih1
          rw [← nI_1] at ih1
          exact ih1
      · refine ⟨rfl, trivial, ?_⟩
        exfalso; rw [q88] at c43; omega
  refine go [37] 60 hX ?_
  refine ⟨rfl, rfl, ?_⟩
  refine m_isFirm (by omega) ?_
  refine ⟨fun c5 => ?_, fun c5 => ?_⟩
  · replace c5 := bI_z c5
    refine ⟨rfl, trivial, ?_⟩
    try simp only [Int32.reduceToInt] at c5
    unfold gainR at hQ
    rw [if_neg (by omega)] at hQ
    exact hQ _ hI
  · replace c5 := bI_nz c5
    refine ⟨rfl, ?_⟩
    refine m_isDay ?_
    refine ⟨fun c12 => ?_, fun c12 => ?_⟩
    · replace c12 := bI_z c12
      refine ⟨rfl, trivial, ?_⟩
      try simp only [Int32.reduceToInt] at c5 c12
      unfold gainR at hQ
      rw [if_neg (by omega)] at hQ
      exact hQ _ hI
    · replace c12 := bI_nz c12
      refine ⟨rfl, ?_⟩
      refine m_isDay ?_
      refine ⟨fun c19 => ?_, fun c19 => ?_⟩
      · replace c19 := bI_z c19
        refine ⟨rfl, trivial, ?_⟩
        try simp only [Int32.reduceToInt] at c5 c12 c19
        unfold gainR at hQ
        rw [if_neg (by omega)] at hQ
        exact hQ _ hI
      · replace c19 := bI_nz c19
        refine ⟨rfl, rfl, ?_⟩
        refine m_goThrough hI (by omega) (fun h28a h28b h28c h28d h28e h28f => ?_)
        have hok : (0 ≤ f.toInt ∧ f.toInt < (σ 1 1).toInt) ∧ ((0 ≤ x.toInt ∧ x.toInt ≤ 900) ∧ (0 ≤ y.toInt ∧ y.toInt ≤ 900)) := by omega
        exact loop hok (σ 3 0).toInt.toNat 0 h28a h28b .null (Nat.zero_add _) h28c h28d h28e h28f
theorem gnS_eq {σ τ F : Mm} (hI : Inv σ) (hA : Ag LsP σ τ) {f x : Int32} : ∀ n : Nat, (n : Int) ≤ (σ 3 0).toInt → gnS τ F f x n = gnS σ F f x n
  | 0, _ => rfl
  | n + 1, h => by
    have hlv := ((hI.2.1).2.2 n (by omega)).2.1
    unfold gnS
    rw [gnS_eq hI hA n (by omega), hA 6 rfl, gn_ag hA rfl hlv rfl rfl]
theorem op_gain {σ : Mm} {f x y : Int32} (hI : Inv σ) : Call 120 k_X11_gain [.ref 0, .int f, .int x, .int y] σ (fun r τ => Call 120 k_X12_gain [.ref 88, .int f, .int x, .int y] τ (fun r' τ' => (∃ x : Int32, r = some (.int x) ∧ r' = some (.int x)) ∧ Inv τ')) :=
  op_of (R := gainR f x y) cs_gain ms_gain (fun σ τ hI hA => by
    unfold gainR
    have h3 := (hI.2.1).2.1.1
    rw [Fin_eq hI hA, hA 3 rfl, hA 1 rfl, gnS_eq hI hA _ (by omega)]) hI
