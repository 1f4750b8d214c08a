theorem div2 {k : Nat} (h : k < 1000) : nI k / 2 = nI (k / 2) ∧ (nI k - nI k / 2 * 2).toInt = ((k % 2 : Nat) : Int) := by
  have e := nIt (n := k) (by omega)
  have e2 := nIt (n := k / 2) (by omega)
  have h1 : (nI k / 2).toInt = ((k / 2 : Nat) : Int) := by
    have hd : (nI k / 2).toInt = (nI k).toInt.tdiv (2 : Int32).toInt := Int32.toInt_div_of_ne_right _ _ (by decide)
    rw [hd, e]
    show Int.tdiv (k : Int) 2 = _
    rw [Int.tdiv_eq_ediv_of_nonneg (by omega)]
    omega
  have h2 : nI k / 2 = nI (k / 2) := iX (by rw [h1, e2])
  refine ⟨h2, ?_⟩
  rw [h2, Int32.toInt_sub, Int32.toInt_mul, e, e2]
  have : (2 : Int32).toInt = 2 := rfl
  simp only [this, Int.bmod]
  omega
theorem m_checkR {d : Nat} {γ ρ : Mm} {Q : Qt} {n : Nat} {bs : List Nat} {e : Int32} {X : Kt} (hX : Clo (Call (d + 4)) none (mR k_X12_check) (mE k_X12_check) Q X) (hn : n ≤ 20) (hb : bs.length ≤ 6) (hbm : ρ 88 60 = nI bs.length) (hrow : arr (ρ 127) bs) (hbh : ∀ j, j < bs.length → ρ 128 j = alS γ (pfx bs (j + 1))) (hQ : Q (some (.int (ckR (ρ 130) (rwF γ bs) n (2 * bs.length)))) ρ) : X 35 [.ref 88, .int (nI n), .int e, .int 0] [] ρ := by
  have en := nIt (n := n) (by omega)
  have q60 : (2 * ρ 88 60).toInt = ((2 * bs.length : Nat) : Int) := by rw [hbm, nI_mul2]; exact nIt (by omega)
  have loop : ∀ (j i : Nat), i + j = min n (2 * bs.length) → X 90 [.ref 88, .int (nI n), .int e, .int (nI (ckN (ρ 130) (rwF γ bs) i j))] [] ρ → X 35 [.ref 88, .int (nI n), .int e, .int (nI i)] [] ρ := by
    intro j
    induction j with
    | zero =>
      intro i hi hK
      have e1 := nIt (n := i) (by omega)
      refine go [35, 90] 60 hX ?_
      refine ⟨fun c37 => ?_, fun c37 => ?_⟩
      · refine ⟨fun c47 => ?_, fun c47 => ?_⟩
        · exfalso; omega
        · exact hK
      · exact hK
    | succ j ih =>
      intro i hi hK
      have e1 := nIt (n := i) (by omega)
      have e2 := nIn (i := i) (by omega)
      refine go [35, 90] 60 hX ?_
      refine ⟨fun c37 => ?_, fun c37 => ?_⟩
      · refine ⟨fun c47 => ?_, fun c47 => ?_⟩
        · refine ⟨_, _, rfl, ⟨by omega, by omega⟩, ?_⟩
          refine ⟨(by decide), ?_⟩
          refine ⟨fun c59 => ?_, fun c59 => ?_⟩
          · have hev : i % 2 = 0 := by rw [(div2 (k := i) (by omega)).2] at c59; omega
            have ei2 := nIt (n := i / 2) (by omega)
            have ew : ρ 127 (nI i / 2).toInt.toNat = rwF γ bs i := by
              rw [(div2 (k := i) (by omega)).1, nIn (by omega), arrAt bs hrow _ (by omega)]
              exact (if_pos hev).symm
            refine ⟨(by decide), ?_⟩
            refine ⟨_, _, rfl, (by rw [(div2 (k := i) (by omega)).1]; exact ⟨by omega, by omega⟩), ?_⟩
            skip
            refine ⟨fun c81 => ?_, fun c81 => ?_⟩
            · rw [ew, e2] at c81
              have ek : ckN (ρ 130) (rwF γ bs) i (j + 1) = ckN (ρ 130) (rwF γ bs) (i + 1) j := if_pos c81
              have ih1 := ih (i + 1) (by omega) (by rw [ek] at hK; exact hK)
              rw [← nI_1] at ih1
              exact ih1
            · rw [ew, e2] at c81
              have ek : ckN (ρ 130) (rwF γ bs) i (j + 1) = i := if_neg c81
              rw [ek] at hK
              exact hK
          · have hev : ¬ i % 2 = 0 := by rw [(div2 (k := i) (by omega)).2] at c59; omega
            have ei2 := nIt (n := i / 2) (by omega)
            have ew : ρ 128 (nI i / 2).toInt.toNat = rwF γ bs i := by
              rw [(div2 (k := i) (by omega)).1, nIn (by omega), hbh _ (by omega)]
              exact (if_neg hev).symm
            refine ⟨(by decide), ?_⟩
            refine ⟨_, _, rfl, (by rw [(div2 (k := i) (by omega)).1]; exact ⟨by omega, by omega⟩), ?_⟩
            skip
            refine ⟨fun c81 => ?_, fun c81 => ?_⟩
            · rw [ew, e2] at c81
              have ek : ckN (ρ 130) (rwF γ bs) i (j + 1) = ckN (ρ 130) (rwF γ bs) (i + 1) j := if_pos c81
              have ih1 := ih (i + 1) (by omega) (by rw [ek] at hK; exact hK)
              rw [← nI_1] at ih1
              exact ih1
            · rw [ew, e2] at c81
              have ek : ckN (ρ 130) (rwF γ bs) i (j + 1) = i := if_neg c81
              rw [ek] at hK
              exact hK
        · exfalso; omega
      · exfalso; omega
  refine loop (min n (2 * bs.length)) 0 (Nat.zero_add _) ?_
  have hb2 := ckN_b (ρ 130) (rwF γ bs) (min n (2 * bs.length)) 0
  have ekn := nIt (n := ckN (ρ 130) (rwF γ bs) 0 (min n (2 * bs.length))) (by omega)
  refine go [] 40 hX ?_
  refine ⟨fun c92 => ?_, fun c92 => ?_⟩
  · refine ⟨fun c102 => ?_, fun c102 => ?_⟩
    · refine ⟨rfl, trivial, ?_⟩
      rw [ekn, en] at c92
      rw [ekn, q60] at c102
      unfold ckR at hQ
      rw [if_pos ⟨by omega, by omega⟩] at hQ
      exact hQ
    · refine ⟨rfl, trivial, ?_⟩
      rw [ekn, en] at c92
      rw [ekn, q60] at c102
      unfold ckR at hQ
      rw [if_neg (by omega)] at hQ
      exact hQ
  · refine ⟨rfl, trivial, ?_⟩
    rw [ekn, en] at c92
    unfold ckR at hQ
    rw [if_neg (by omega)] at hQ
    exact hQ
theorem ms_check {d : Nat} {γ τ0 : Mm} {Q : Qt} {m : Nat} (hba : I_ba γ) (hm : (γ 45 3).toInt = m) (hm6 : m ≤ 6) (hd : ∀ a, a < m → (γ (52 + a) a).toInt = 0) (hA0 : MmA γ (wr τ0 88 64 0)) (h0 : 0 ≤ (τ0 88 64).toInt) (h20 : (τ0 88 64).toInt ≤ 20) (h2 : dfT γ m 5000 = none → ∀ τ, MmA γ τ → Q (some (.int (-1000000004))) τ) (h3 : ∀ st, dfT γ m 5000 = some st → ∀ τ, MmA γ τ → Q (some (.int (ckR (τ 130) (rwF γ st.2.2) (τ0 88 64).toInt.toNat (2 * st.2.2.length)))) τ) : Call (d + 5) k_X12_check [.ref 88] τ0 Q := by
  refine Call_go fun X hX => ?_
  refine go [35] 60 hX ?_
  refine ⟨rfl, rfl, ?_⟩
  refine m_mixesX (σ := γ) (m := m) hba hm hm6 hd hA0 (by decide) (fun h14a h14b h14c => ?_) (fun h14a h14b h14c h14d h14e h14f => ?_)
  · refine ⟨fun _ => ?_, fun z => absurd (by decide) z⟩
    refine ⟨rfl, trivial, ?_⟩
    exact h2 h14a h14b h14c
  · refine ⟨fun z => absurd z (by decide), fun _ => ?_⟩
    refine ⟨rfl, rfl, ?_⟩
    refine m_costsOf (σ := γ) (L := h14a.2.2) hba hm hm6 h14d h14f (by have := vl_len hd h14e.2.1; omega) (vl_at h14e.2.1) h14e.1.2.1 (fun h29a h29b h29c h29d => ?_)
    have hN3 : nI ((τ0 88 64).toInt.toNat) = τ0 88 64 := nIx h0
    have hbl := vl_len hd h14e.2.1
    have hA2 : MmA γ h29a := mm_tr h14d (Ag.wk h29b rfl) (fun j hj => h29c j (fun z => by rw [z] at hj; cases hj))
    have h4 := m_checkR (n := (τ0 88 64).toInt.toNat) (bs := h14a.2.2) (ρ := h29a) (γ := γ) (e := alS γ h14a.2.2) hX (by omega) (by omega) (by rw [h29c 60 (by decide)]; exact h14e.1.2.1) (by rw [h29b 127 rfl]; exact h14f) h29d (h3 h14a h14b h29a hA2)
    rw [hN3] at h4
    exact h4
theorem Inv_ck {σ τ : Mm} (hI : Inv σ) (h : Ag [0, 58, 59, 60, 61, 63, 64, 65, 66, 67, 68, 69, 70, 88, 126, 127, 128, 129] σ τ) (hO0 : ∀ j, cu [14] j = false → τ 0 j = σ 0 j) (hO88 : ∀ j, cu [57, 60, 61, 64] j = false → τ 88 j = σ 88 j) (nI_wa : I_wa τ) : Inv τ := ⟨(I_tr_fr (σ := σ) (h 2 rfl) (h 89 rfl) (congrFun (h 1 rfl) 0) (congrFun (h 1 rfl) 1) (congrFun (h 1 rfl) 2) (hO88 0 rfl) (hO88 1 rfl) (hO88 2 rfl) hI.1),
  (I_vo_fr (σ := σ) (h 4 rfl) (h 5 rfl) (h 6 rfl) (h 7 rfl) (h 8 rfl) (h 9 rfl) (h 90 rfl) (h 91 rfl) (h 92 rfl) (h 93 rfl) (h 94 rfl) (h 95 rfl) (congrFun (h 3 rfl) 0) (hO88 4 rfl) (congrFun (h 1 rfl) 1) hI.2.1),
  (I_li_fr (σ := σ) (h 9 rfl) (h 11 rfl) (h 12 rfl) (h 13 rfl) (h 14 rfl) (h 15 rfl) (h 16 rfl) (h 17 rfl) (h 96 rfl) (h 97 rfl) (h 98 rfl) (h 99 rfl) (h 100 rfl) (h 101 rfl) (h 102 rfl) (congrFun (h 10 rfl) 0) (congrFun (h 10 rfl) 1) (hO88 11 rfl) (congrFun (h 1 rfl) 0) (congrFun (h 1 rfl) 2) (congrFun (h 3 rfl) 0) hI.2.2.1),
  (I_or_fr (σ := σ) (h 13 rfl) (h 18 rfl) (congrFun (h 10 rfl) 0) hI.2.2.2.1),
  (I_ta_fr (σ := σ) (h 30 rfl) (h 118 rfl) (hO0 5 rfl) (hO88 36 rfl) hI.2.2.2.2.1),
  (I_ba_fr (σ := σ) (h 46 rfl) (h 47 rfl) (h 48 rfl) (h 49 rfl) (h 50 rfl) (h 120 rfl) (h 121 rfl) (h 122 rfl) (h 123 rfl) (h 124 rfl) (h 52 rfl) (h 53 rfl) (h 54 rfl) (h 55 rfl) (h 56 rfl) (h 57 rfl) (h 125 rfl) (congrFun (h 45 rfl) 0) (congrFun (h 45 rfl) 3) (hO88 48 rfl) (hO88 51 rfl) hI.2.2.2.2.2.1),
  (I_ex_fr (σ := σ) (h 73 rfl) (h 74 rfl) (h 75 rfl) (h 76 rfl) (h 77 rfl) (h 131 rfl) (h 132 rfl) (h 133 rfl) (h 134 rfl) (congrFun (h 71 rfl) 0) (hO88 65 rfl) hI.2.2.2.2.2.2.1),
  (I_gu_fr (σ := σ) (h 79 rfl) (h 80 rfl) (h 81 rfl) (h 136 rfl) (h 137 rfl) (h 138 rfl) (congrFun (h 78 rfl) 0) (congrFun (h 78 rfl) 1) (hO88 71 rfl) (hO88 72 rfl) hI.2.2.2.2.2.2.2.1),
  (I_sh_fr (σ := σ) (h 83 rfl) (h 85 rfl) (h 86 rfl) (h 103 rfl) (h 104 rfl) hI.2.2.2.2.2.2.2.2.1),
  nI_wa,
  (I_la_fr (σ := σ) (h 20 rfl) (h 22 rfl) (h 23 rfl) (h 24 rfl) (h 26 rfl) (h 27 rfl) (h 28 rfl) (h 110 rfl) (h 111 rfl) (h 112 rfl) (h 113 rfl) hI.2.2.2.2.2.2.2.2.2.2.1),
  (I_he_fr (σ := σ) (h 119 rfl) hI.2.2.2.2.2.2.2.2.2.2.2)⟩
theorem op_check {σ : Mm} (hI : Inv σ) : Call 120 k_X11_check [.ref 0] σ (fun r τ => Call 120 k_X12_check [.ref 88] τ (fun r' τ' => (∃ x : Int32, r = some (.int x) ∧ r' = some (.int x)) ∧ Inv τ')) := by
  have hba := hI.2.2.2.2.2.1
  obtain ⟨w0, w1, ⟨w2, w3⟩⟩ := id (hI.2.2.2.2.2.2.2.2.2.1)
  obtain ⟨hm, hm6, hNN, hd⟩ := ba_m hba
  generalize hβ : wr σ 0 14 0 = β
  have fin : ∀ {τ υ : Mm}, Ag MxL β τ → MmA (wr β 88 64 0) υ → Inv υ := fun {τ υ} h1 h2 => by
    have hAg : Ag [0, 58, 59, 60, 61, 63, 64, 65, 66, 67, 68, 69, 70, 88, 126, 127, 128, 129] σ υ := fun c hc => by
      have z0 : c ≠ 0 := fun z => by rw [z] at hc; cases hc
      have z8 : c ≠ 88 := fun z => by rw [z] at hc; cases hc
      rw [h2.1 c (cu_sub (L := MmL) (M := [0, 58, 59, 60, 61, 63, 64, 65, 66, 67, 68, 69, 70, 88, 126, 127, 128, 129]) rfl hc), wr_c z8, ← hβ, wr_c z0]
    have e0 : ∀ j, υ 0 j = wr σ 0 14 0 0 j := fun j => by rw [h2.1 0 rfl, wr_c (by decide), ← hβ]
    have e8 : ∀ j, cu [57, 60, 61] j = false → υ 88 j = wr σ 88 64 0 88 j := fun j hj => by
      rw [h2.2 j hj, wr_k, wr_k, ← hβ]
      rfl
    refine Inv_ck hI hAg (fun j hj => ?_) (fun j hj => ?_) ⟨?_, ?_, ?_, ?_⟩
    · rw [e0, wr_i (fun z => by rw [z] at hj; cases hj)]
    · rw [e8 j (cu_sub (L := [57, 60, 61]) (M := [57, 60, 61, 64]) rfl hj), wr_i (fun z => by rw [z] at hj; cases hj)]
    · rw [e0, e8 64 rfl, wr_v, wr_v]
    · rw [hAg 130 rfl, hAg 87 rfl]; exact w1
    · rw [e0, wr_v]; decide
    · rw [e0, wr_v]; decide
  have hbβ : I_ba β := by rw [← hβ]; exact I_ba_fr (σ := σ) rfl rfl rfl rfl rfl rfl rfl rfl rfl rfl rfl rfl rfl rfl rfl rfl rfl rfl rfl rfl rfl hba
  have hm' : (β 45 3).toInt = (σ 45 3).toInt.toNat := by rw [← hβ]; exact hm
  have hN' : 0 ≤ (β 45 0).toInt ∧ (β 45 0).toInt ≤ 8 := by rw [← hβ]; exact hNN
  have hd' : ∀ a, a < (σ 45 3).toInt.toNat → (β (52 + a) a).toInt = 0 := fun a ha => by rw [← hβ, wr_c (by omega)]; exact hd a ha
  have hγc : ∀ c, c ≠ 88 → wr β 88 64 0 c = β c := fun c hc => wr_c hc
  have hbγ : I_ba (wr β 88 64 0) := I_ba_fr (σ := β) rfl rfl rfl rfl rfl rfl rfl rfl rfl rfl rfl rfl rfl rfl rfl rfl rfl rfl rfl rfl rfl hbβ
  have hdγ : ∀ a, a < (σ 45 3).toInt.toNat → (wr β 88 64 0 (52 + a) a).toInt = 0 := fun a ha => by rw [wr_c (by omega)]; exact hd' a ha
  have mmg : ∀ {τ : Mm}, Ag MxL β τ → MmA (wr β 88 64 0) (wr τ 88 64 0) := fun {τ} h => ⟨fun c hc => by
    have z8 : c ≠ 88 := fun z => by rw [z] at hc; cases hc
    rw [wr_c z8, wr_c z8]
    exact h c (cu_sub (L := MxL) (M := MmL) rfl hc), fun j hj => by rw [wr_k, wr_k, h 88 rfl]⟩
  have q64 : ∀ {τ : Mm}, Ag MxL β τ → τ 88 64 = σ 0 14 := fun {τ} h => by
    rw [h 88 rfl, ← hβ]
    exact w0
  have hfin : ∀ {τ : Mm}, Ag MxL β τ → (∀ {Q : Qt}, (dfT β (σ 45 3).toInt.toNat 5000 = none → ∀ υ, MmA (wr β 88 64 0) υ → Q (some (.int (-1000000004))) υ) → (∀ st, dfT β (σ 45 3).toInt.toNat 5000 = some st → ∀ υ, MmA (wr β 88 64 0) υ → Q (some (.int (ckR (υ 130) (rwF (wr β 88 64 0) st.2.2) (σ 0 14).toInt.toNat (2 * st.2.2.length)))) υ) → Call 120 k_X12_check [.ref 88] τ Q) := fun {τ} h {Q} h1 h2 => by
    have e := q64 h
    have hc := dfT_cong (T := 5000) hγc hm6
    refine ms_check (γ := wr β 88 64 0) hbγ (by rw [wr_c (by decide)]; exact hm') hm6 hdγ (mmg h) (by rw [e]; exact w2) (by rw [e]; exact w3) (fun z => h1 (by rw [← hc]; exact z)) (fun st z υ k => ?_)
    rw [e]
    exact h2 st (by rw [← hc]; exact z) υ k
  have hcs := cs_check (d := 106) (σ := σ) (m := (σ 45 3).toInt.toNat) (Q := fun r τ => Call 120 k_X12_check [.ref 88] τ (fun r' τ' => (∃ x : Int32, r = some (.int x) ∧ r' = some (.int x)) ∧ Inv τ')) (by rw [hβ]; exact hm') hm6 (by rw [hβ]; exact hN') (by rw [hβ]; exact hd') w2 w3
  rw [hβ] at hcs
  refine hcs (fun a τ hA => ?_) (fun st a τ hA hr => ?_)
  · refine hfin hA (fun _ υ k => ⟨⟨_, rfl, rfl⟩, fin hA k⟩) (fun st z => ?_)
    rw [a] at z
    cases z
  · refine hfin hA (fun z => ?_) (fun st' z υ k => ?_)
    · rw [a] at z
      cases z
    · rw [a] at z
      cases z
      refine ⟨⟨_, rfl, vI_ ?_⟩, fin hA k⟩
      have ew : υ 130 = τ 87 := by rw [k.1 130 rfl, wr_c (by decide), hA 87 rfl, ← hβ]; exact w1
      unfold ckR
      have ec : ckN (υ 130) (rwF (wr β 88 64 0) st.2.2) 0 (min (σ 0 14).toInt.toNat (2 * st.2.2.length)) = ckN (τ 87) (τ 60) 0 (min (σ 0 14).toInt.toNat (2 * st.2.2.length)) := ckN_cong _ 0 (fun q h1 h2 => by
        rw [ew]
        refine ⟨rfl, ?_⟩
        unfold rwF
        have := hr (q / 2) (by omega)
        by_cases r : q % 2 = 0
        · rw [if_pos r, ← this.1]
          congr 1
          omega
        · rw [if_neg r, al_cong hγc, ← this.2]
          congr 1
          omega)
      rw [ec]
