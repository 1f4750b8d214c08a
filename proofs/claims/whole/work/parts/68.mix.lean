set_option maxHeartbeats 4000000 in
theorem m_mixes {d : Nat} {σ τ0 : Mm} {Q : Qt} {m T : Nat} (hba : I_ba σ) (hm : (σ 45 3).toInt = m) (hm6 : m ≤ 6) (hd : ∀ a, a < m → (σ (52 + a) a).toInt = 0) (hA0 : MmA σ τ0) (hT : T ≤ 5000) (h1 : dfT σ m T = none → ∀ τ, MmA σ τ → Q (some (.int 0)) τ) (h2 : ∀ st, dfT σ m T = some st → ∀ τ, MmA σ τ → StM σ m τ st → arr (τ 127) st.2.2 → Q (some (.int 1)) τ) : Call (d + 4) k_X12_mixes [.ref 88, .int (nI T)] τ0 Q := by
  refine Call_go fun X hX => ?_
  have hend : ∀ st, dfT σ m T = some st → ∀ (τ : Mm) (lf : Int32) (v4 v5 : Value), MmA σ τ → StM σ m τ st → X 25 [.ref 88, .int (nI T), .int lf, .int (nI 0 - 1), v4, v5] [] τ := by
    intro st hz τ lf v4 v5 hA hS
    have hbl := vl_len hd hS.2.1
    have loop : ∀ (k i : Nat) (ρ : Mm), i + k = st.2.2.length → (∀ c, c ≠ 127 → ρ c = τ c) → (∀ j, j < i → ρ 127 j = τ 129 j) → X 187 [.ref 88, .int (nI T), .int lf, .int (nI 0 - 1), .int (nI i), v5] [] ρ := by
      intro k
      induction k with
      | zero =>
        intro i ρ hi k1 k2
        rw [Nat.add_zero] at hi
        have e1 := nIt (n := i) (by omega)
        have q60 : (ρ 88 60).toInt = st.2.2.length := by rw [k1 88 (by decide), hS.1.2.1]; exact nIt (by omega)
        refine go [187] 100 hX ?_
        refine ⟨fun c193 => ?_, fun c193 => ?_⟩
        · exfalso; omega
        · refine ⟨rfl, Or.inr rfl, ?_⟩
          have hA' : MmA σ ρ := mm_tr hA (fun c hc => k1 c (fun z => by rw [z] at hc; cases hc)) (fun j hj => by rw [k1 88 (by decide)])
          refine h2 st hz ρ hA' ⟨⟨?_, ?_, ?_⟩, hS.2⟩ (arr_cong _ (fun j hj => k2 j (by omega)) hS.1.2.2)
          · rw [k1 88 (by decide)]; exact hS.1.1
          · rw [k1 88 (by decide)]; exact hS.1.2.1
          · rw [k1 129 (by decide)]; exact hS.1.2.2
      | succ k ih =>
        intro i ρ hi k1 k2
        have e1 := nIt (n := i) (by omega)
        have q60 : (ρ 88 60).toInt = st.2.2.length := by rw [k1 88 (by decide), hS.1.2.1]; exact nIt (by omega)
        have e2 := nIn (i := i) (by omega)
        refine go [187] 100 hX ?_
        refine ⟨fun c193 => ?_, fun c193 => ?_⟩
        · refine ⟨_, _, rfl, ⟨by omega, by omega⟩, ?_⟩
          refine ⟨_, rfl, ⟨by omega, by omega⟩, ?_⟩
          refine (fun ih1 => ?_) (ih (i + 1) (wr ρ 127 (nI i).toInt.toNat (ρ 129 (nI i).toInt.toNat)) (by omega) (fun c hc => (wr_c hc).trans (k1 c hc)) (fun j hj => ?_))
          · rw [← nI_1 i] at ih1
            exact ih1
          · rw [wr_k, e2, k1 129 (by decide)]
            by_cases r : j = i
            · rw [r]; exact pk_us
            · rw [pk_un r]; exact k2 j (by omega)
        · exfalso; omega
    refine go [187] 60 hX ?_
    refine ⟨fun c26 => ?_, fun c26 => ?_⟩
    · exact loop st.2.2.length 0 τ (Nat.zero_add _) (fun c _ => rfl) (fun j hj => by omega)
    · exfalso; exact c26 (by decide)
  refine go [25] 60 hX ?_
  refine ⟨rfl, rfl, ?_⟩
  refine m_costsOf (σ := σ) (L := []) hba hm hm6 (mm_88 hA0 (i := 60) (v := 0) rfl) True.intro (by decide) (fun j hj => (Nat.not_lt_zero j hj).elim) rfl (fun h12a h12b h12c h12d => ?_)
  refine ⟨_, rfl, ⟨by decide, by decide⟩, ?_⟩
  have hA2 : MmA σ h12a := mm_tr (mm_88 hA0 (i := 60) (v := 0) rfl) (Ag.wk h12b rfl) (fun j hj => h12c j (fun z => by rw [z] at hj; cases hj))
  refine rm_all hX hba hm hm6 hd (m - 1) [] (fun _ => by show 0 + (m - 1) + 1 = m; omega) (by decide) True.intro m 0 (wr (wr h12a 88 61 (alS σ [])) 127 0 (-1)) (T, alS σ [], []) .null .null (Nat.zero_add _) (mm_wr (mm_88 hA2 rfl) rfl) True.intro rfl ⟨⟨rfl, ?_, True.intro⟩, True.intro, hT⟩ h1 (fun st hz τ v4 v5 hA hL hS => hend st hz τ _ v4 v5 hA hS)
  show h12a 88 60 = _
  rw [h12c 60 (by decide)]
  rfl
theorem s_seekX {d : Nat} {σ : Mm} {Q : Qt} {m : Nat} {t : Int32} (hm : (σ 45 3).toInt = m) (hm6 : m ≤ 6) (hNN : 0 ≤ (σ 45 0).toInt ∧ (σ 45 0).toInt ≤ 8) (hd : ∀ a, a < m → (σ (52 + a) a).toInt = 0) (ht : 0 ≤ t.toInt ∧ t.toInt ≤ 5000) (h1 : dfT σ m t.toInt.toNat = none → ∀ τ, Ag MxL σ τ → Q (some (.int 0)) τ) (h2 : ∀ st, dfT σ m t.toInt.toNat = some st → ∀ τ, Ag MxL σ τ → StC σ m τ st → Q (some (.int 1)) τ) : Call (d + 12) k_X6_seek [.ref 58, .int t] σ Q := by
  have h := s_seek (d := d) (T := t.toInt.toNat) hm hm6 hNN hd (by omega) h1 h2
  rw [nIx ht.1] at h
  exact h
theorem m_mixesX {d : Nat} {σ τ0 : Mm} {Q : Qt} {m : Nat} {t : Int32} (hba : I_ba σ) (hm : (σ 45 3).toInt = m) (hm6 : m ≤ 6) (hd : ∀ a, a < m → (σ (52 + a) a).toInt = 0) (hA0 : MmA σ τ0) (ht : 0 ≤ t.toInt ∧ t.toInt ≤ 5000) (h1 : dfT σ m t.toInt.toNat = none → ∀ τ, MmA σ τ → Q (some (.int 0)) τ) (h2 : ∀ st, dfT σ m t.toInt.toNat = some st → ∀ τ, MmA σ τ → StM σ m τ st → arr (τ 127) st.2.2 → Q (some (.int 1)) τ) : Call (d + 4) k_X12_mixes [.ref 88, .int t] τ0 Q := by
  have h := m_mixes (d := d) (T := t.toInt.toNat) hba hm hm6 hd hA0 (by omega) h1 h2
  rw [nIx ht.1] at h
  exact h
theorem cs_mix {d : Nat} {σ : Mm} {Q : Qt} {m : Nat} {t : Int32} (hm : (σ 45 3).toInt = m) (hm6 : m ≤ 6) (hNN : 0 ≤ (σ 45 0).toInt ∧ (σ 45 0).toInt ≤ 8) (hd : ∀ a, a < m → (σ (52 + a) a).toInt = 0) (h1 : ¬ (1 ≤ t.toInt ∧ t.toInt ≤ 5000) → Q (some (.int (-1000000001))) σ) (h2 : (1 ≤ t.toInt ∧ t.toInt ≤ 5000) → dfT σ m t.toInt.toNat = none → ∀ τ, Ag MxL σ τ → Q (some (.int (-1000000004))) τ) (h3 : (1 ≤ t.toInt ∧ t.toInt ≤ 5000) → ∀ st, dfT σ m t.toInt.toNat = some st → ∀ τ, Ag MxL σ τ → StC σ m τ st → Q (some (.int st.2.1)) τ) : Call (d + 13) k_X11_mix [.ref 0, .int t] σ Q := by
  refine Call_st 60 fun X hX => ?_
  refine ⟨rfl, ?_⟩
  refine s_withinK (l := 1) (h := 5000) (by decide) (by decide) ?_
  refine ⟨fun c8 => ?_, fun c8 => ?_⟩
  · replace c8 := bI_z c8
    refine ⟨rfl, trivial, ?_⟩
    exact h1 (by omega)
  · replace c8 := bI_nz c8
    refine ⟨rfl, rfl, ?_⟩
    refine s_seekX (m := m) hm hm6 hNN hd ⟨by omega, by omega⟩ (fun h19a h19b h19c => ?_) (fun h19a h19b h19c h19d h19e => ?_)
    · refine ⟨fun _ => ?_, fun z => absurd (by decide) z⟩
      refine ⟨rfl, trivial, ?_⟩
      exact h2 c8 h19a h19b h19c
    · refine ⟨fun z => absurd z (by decide), fun _ => ?_⟩
      refine ⟨rfl, trivial, ?_⟩
      exact Qe (h3 c8 h19a h19b h19c h19d h19e) (vI_ h19e.1.2.1) rfl
theorem ms_mix {d : Nat} {σ τ0 : Mm} {Q : Qt} {m : Nat} {t : Int32} (hba : I_ba σ) (hm : (σ 45 3).toInt = m) (hm6 : m ≤ 6) (hd : ∀ a, a < m → (σ (52 + a) a).toInt = 0) (hA0 : MmA σ τ0) (h1 : ¬ (1 ≤ t.toInt ∧ t.toInt ≤ 5000) → Q (some (.int (-1000000001))) τ0) (h2 : (1 ≤ t.toInt ∧ t.toInt ≤ 5000) → dfT σ m t.toInt.toNat = none → ∀ τ, MmA σ τ → Q (some (.int (-1000000004))) τ) (h3 : (1 ≤ t.toInt ∧ t.toInt ≤ 5000) → ∀ st, dfT σ m t.toInt.toNat = some st → ∀ τ, MmA σ τ → StM σ m τ st → Q (some (.int st.2.1)) τ) : Call (d + 5) k_X12_mix [.ref 88, .int t] τ0 Q := by
  refine Call_st 60 fun X hX => ?_
  refine ⟨rfl, ?_⟩
  refine m_areTries ?_
  refine ⟨fun c4 => ?_, fun c4 => ?_⟩
  · replace c4 := bI_z c4
    refine ⟨rfl, trivial, ?_⟩
    exact h1 (by omega)
  · replace c4 := bI_nz c4
    refine ⟨rfl, rfl, ?_⟩
    refine m_mixesX (σ := σ) (m := m) hba hm hm6 hd hA0 ⟨by omega, by omega⟩ (fun h12a h12b h12c => ?_) (fun h12a h12b h12c h12d h12e h12f => ?_)
    · refine ⟨fun _ => ?_, fun z => absurd (by decide) z⟩
      refine ⟨rfl, trivial, ?_⟩
      exact h2 c4 h12a h12b h12c
    · refine ⟨fun z => absurd z (by decide), fun _ => ?_⟩
      refine ⟨rfl, trivial, ?_⟩
      exact Qe (h3 c4 h12a h12b h12c h12d h12e) (vI_ h12e.1.1) rfl
theorem cs_mixed {d : Nat} {σ : Mm} {Q : Qt} {m : Nat} {t i : Int32} (hm : (σ 45 3).toInt = m) (hm6 : m ≤ 6) (hNN : 0 ≤ (σ 45 0).toInt ∧ (σ 45 0).toInt ≤ 8) (hd : ∀ a, a < m → (σ (52 + a) a).toInt = 0) (h1 : ¬ ((1 ≤ t.toInt ∧ t.toInt ≤ 5000) ∧ 0 ≤ i.toInt) → Q (some (.int (-1000000001))) σ) (h2 : ((1 ≤ t.toInt ∧ t.toInt ≤ 5000) ∧ 0 ≤ i.toInt) → dfT σ m t.toInt.toNat = none → ∀ τ, Ag MxL σ τ → Q (some (.int (-1000000004))) τ) (h3 : ((1 ≤ t.toInt ∧ t.toInt ≤ 5000) ∧ 0 ≤ i.toInt) → ∀ st, dfT σ m t.toInt.toNat = some st → ∀ τ, Ag MxL σ τ → StC σ m τ st → Q (some (.int (if i.toInt < (st.2.2.length : Int) then nI (atR st.2.2 i.toInt.toNat) else -1000000005))) τ) : Call (d + 13) k_X11_mixed [.ref 0, .int t, .int i] σ Q := by
  refine Call_st 60 fun X hX => ?_
  refine ⟨fun c1 => ?_, fun c1 => ?_⟩
  · refine ⟨rfl, trivial, ?_⟩
    exact h1 (by omega)
  · refine ⟨rfl, ?_⟩
    refine s_withinK (l := 1) (h := 5000) (by decide) (by decide) ?_
    refine ⟨fun c12 => ?_, fun c12 => ?_⟩
    · replace c12 := bI_z c12
      refine ⟨rfl, trivial, ?_⟩
      exact h1 (by omega)
    · replace c12 := bI_nz c12
      refine ⟨rfl, rfl, ?_⟩
      refine s_seekX (m := m) hm hm6 hNN hd ⟨by omega, by omega⟩ (fun h23a h23b h23c => ?_) (fun h23a h23b h23c h23d h23e => ?_)
      · refine ⟨fun _ => ?_, fun z => absurd (by decide) z⟩
        refine ⟨rfl, trivial, ?_⟩
        exact h2 (by omega) h23a h23b h23c
      · refine ⟨fun z => absurd z (by decide), fun _ => ?_⟩
        refine ⟨fun c41 => ?_, fun c41 => ?_⟩
        · refine ⟨_, _, rfl, (by have hbl := vl_len hd h23e.2.1; have ebl := nIt (n := h23a.2.2.length) (by omega); rw [h23e.1.2.2.1, ebl] at c41; exact ⟨by omega, by omega⟩), ?_⟩
          refine ⟨rfl, trivial, ?_⟩
          have hbl := vl_len hd h23e.2.1
          have ebl := nIt (n := h23a.2.2.length) (by omega)
          rw [h23e.1.2.2.1, ebl] at c41
          have h4 := h3 (by omega) h23a h23b h23c h23d h23e
          rw [if_pos (by omega)] at h4
          refine Qe h4 (vI_ ?_) rfl
          exact arrAt _ h23e.1.2.2.2 _ (by omega)
        · refine ⟨rfl, trivial, ?_⟩
          have hbl := vl_len hd h23e.2.1
          have ebl := nIt (n := h23a.2.2.length) (by omega)
          rw [h23e.1.2.2.1, ebl] at c41
          have h4 := h3 (by omega) h23a h23b h23c h23d h23e
          rw [if_neg (by omega)] at h4
          exact h4
theorem ms_mixed {d : Nat} {σ τ0 : Mm} {Q : Qt} {m : Nat} {t i : Int32} (hba : I_ba σ) (hm : (σ 45 3).toInt = m) (hm6 : m ≤ 6) (hd : ∀ a, a < m → (σ (52 + a) a).toInt = 0) (hA0 : MmA σ τ0) (h1 : ¬ ((1 ≤ t.toInt ∧ t.toInt ≤ 5000) ∧ 0 ≤ i.toInt) → Q (some (.int (-1000000001))) τ0) (h2 : ((1 ≤ t.toInt ∧ t.toInt ≤ 5000) ∧ 0 ≤ i.toInt) → dfT σ m t.toInt.toNat = none → ∀ τ, MmA σ τ → Q (some (.int (-1000000004))) τ) (h3 : ((1 ≤ t.toInt ∧ t.toInt ≤ 5000) ∧ 0 ≤ i.toInt) → ∀ st, dfT σ m t.toInt.toNat = some st → ∀ τ, MmA σ τ → StM σ m τ st → Q (some (.int (if i.toInt < (st.2.2.length : Int) then nI (atR st.2.2 i.toInt.toNat) else -1000000005))) τ) : Call (d + 5) k_X12_mixed [.ref 88, .int t, .int i] τ0 Q := by
  refine Call_st 60 fun X hX => ?_
  refine ⟨rfl, ?_⟩
  refine m_areTries ?_
  refine ⟨fun c4 => ?_, fun c4 => ?_⟩
  · replace c4 := bI_z c4
    refine ⟨rfl, trivial, ?_⟩
    exact h1 (by omega)
  · replace c4 := bI_nz c4
    refine ⟨fun c8 => ?_, fun c8 => ?_⟩
    · refine ⟨rfl, trivial, ?_⟩
      exact h1 (by omega)
    · refine ⟨rfl, rfl, ?_⟩
      refine m_mixesX (σ := σ) (m := m) hba hm hm6 hd hA0 ⟨by omega, by omega⟩ (fun h16a h16b h16c => ?_) (fun h16a h16b h16c h16d h16e h16f => ?_)
      · refine ⟨fun _ => ?_, fun z => absurd (by decide) z⟩
        refine ⟨rfl, trivial, ?_⟩
        exact h2 (by omega) h16a h16b h16c
      · refine ⟨fun z => absurd z (by decide), fun _ => ?_⟩
        refine ⟨fun c33 => ?_, fun c33 => ?_⟩
        · refine ⟨_, _, rfl, (by have hbl := vl_len hd h16e.2.1; have ebl := nIt (n := h16a.2.2.length) (by omega); rw [h16e.1.2.1, ebl] at c33; exact ⟨by omega, by omega⟩), ?_⟩
          refine ⟨rfl, trivial, ?_⟩
          have hbl := vl_len hd h16e.2.1
          have ebl := nIt (n := h16a.2.2.length) (by omega)
          rw [h16e.1.2.1, ebl] at c33
          have h4 := h3 (by omega) h16a h16b h16c h16d h16e
          rw [if_pos (by omega)] at h4
          refine Qe h4 (vI_ ?_) rfl
          exact arrAt _ h16e.1.2.2 _ (by omega)
        · refine ⟨rfl, trivial, ?_⟩
          have hbl := vl_len hd h16e.2.1
          have ebl := nIt (n := h16a.2.2.length) (by omega)
          rw [h16e.1.2.1, ebl] at c33
          have h4 := h3 (by omega) h16a h16b h16c h16d h16e
          rw [if_neg (by omega)] at h4
          exact h4
theorem Inv_mx {σ τ : Mm} (hI : Inv σ) (h : Ag [58, 59, 60, 61, 63, 64, 65, 66, 67, 68, 69, 70, 88, 126, 127, 128, 129] σ τ) (hO88 : ∀ j, cu [57, 60, 61] j = false → τ 88 j = σ 88 j) : Inv τ := ⟨(I_tr_fr (σ := σ) (h 2 rfl) (h 89 rfl) (congrFun (h 1 rfl) 0) (congrFun (h 1 rfl) 1) (congrFun (h 1 rfl) 2) (hO88 0 rfl) (hO88 1 rfl) (hO88 2 rfl) hI.1),
  (I_vo_fr (σ := σ) (h 4 rfl) (h 5 rfl) (h 6 rfl) (h 7 rfl) (h 8 rfl) (h 9 rfl) (h 90 rfl) (h 91 rfl) (h 92 rfl) (h 93 rfl) (h 94 rfl) (h 95 rfl) (congrFun (h 3 rfl) 0) (hO88 4 rfl) (congrFun (h 1 rfl) 1) hI.2.1),
  (I_li_fr (σ := σ) (h 9 rfl) (h 11 rfl) (h 12 rfl) (h 13 rfl) (h 14 rfl) (h 15 rfl) (h 16 rfl) (h 17 rfl) (h 96 rfl) (h 97 rfl) (h 98 rfl) (h 99 rfl) (h 100 rfl) (h 101 rfl) (h 102 rfl) (congrFun (h 10 rfl) 0) (congrFun (h 10 rfl) 1) (hO88 11 rfl) (congrFun (h 1 rfl) 0) (congrFun (h 1 rfl) 2) (congrFun (h 3 rfl) 0) hI.2.2.1),
  (I_or_fr (σ := σ) (h 13 rfl) (h 18 rfl) (congrFun (h 10 rfl) 0) hI.2.2.2.1),
  (I_ta_fr (σ := σ) (h 30 rfl) (h 118 rfl) (congrFun (h 0 rfl) 5) (hO88 36 rfl) hI.2.2.2.2.1),
  (I_ba_fr (σ := σ) (h 46 rfl) (h 47 rfl) (h 48 rfl) (h 49 rfl) (h 50 rfl) (h 120 rfl) (h 121 rfl) (h 122 rfl) (h 123 rfl) (h 124 rfl) (h 52 rfl) (h 53 rfl) (h 54 rfl) (h 55 rfl) (h 56 rfl) (h 57 rfl) (h 125 rfl) (congrFun (h 45 rfl) 0) (congrFun (h 45 rfl) 3) (hO88 48 rfl) (hO88 51 rfl) hI.2.2.2.2.2.1),
  (I_ex_fr (σ := σ) (h 73 rfl) (h 74 rfl) (h 75 rfl) (h 76 rfl) (h 77 rfl) (h 131 rfl) (h 132 rfl) (h 133 rfl) (h 134 rfl) (congrFun (h 71 rfl) 0) (hO88 65 rfl) hI.2.2.2.2.2.2.1),
  (I_gu_fr (σ := σ) (h 79 rfl) (h 80 rfl) (h 81 rfl) (h 136 rfl) (h 137 rfl) (h 138 rfl) (congrFun (h 78 rfl) 0) (congrFun (h 78 rfl) 1) (hO88 71 rfl) (hO88 72 rfl) hI.2.2.2.2.2.2.2.1),
  (I_sh_fr (σ := σ) (h 83 rfl) (h 85 rfl) (h 86 rfl) (h 103 rfl) (h 104 rfl) hI.2.2.2.2.2.2.2.2.1),
  (I_wa_fr (σ := σ) (h 87 rfl) (h 130 rfl) (congrFun (h 0 rfl) 14) (hO88 64 rfl) hI.2.2.2.2.2.2.2.2.2.1),
  (I_la_fr (σ := σ) (h 20 rfl) (h 22 rfl) (h 23 rfl) (h 24 rfl) (h 26 rfl) (h 27 rfl) (h 28 rfl) (h 110 rfl) (h 111 rfl) (h 112 rfl) (h 113 rfl) hI.2.2.2.2.2.2.2.2.2.2.1),
  (I_he_fr (σ := σ) (h 119 rfl) hI.2.2.2.2.2.2.2.2.2.2.2)⟩
theorem inv_mm {σ τ : Mm} (hI : Inv σ) (h : MmA σ τ) : Inv τ := Inv_mx hI h.1 h.2
theorem mm_of {σ τ : Mm} (h : Ag MxL σ τ) : MmA σ τ := ⟨Ag.wk h rfl, fun j _ => congrFun (h 88 rfl) j⟩
theorem ba_m {σ : Mm} (h : I_ba σ) : (σ 45 3).toInt = (σ 45 3).toInt.toNat ∧ (σ 45 3).toInt.toNat ≤ 6 ∧ (0 ≤ (σ 45 0).toInt ∧ (σ 45 0).toInt ≤ 8) ∧ ∀ a, a < (σ 45 3).toInt.toNat → (σ (52 + a) a).toInt = 0 := by
  obtain ⟨_, b7, ⟨b9, b10⟩, _, _, b13⟩ := id h
  have hj := joinI_iff.mp b13
  exact ⟨by omega, by omega, b7, fun a ha => (hj a a (by omega) (by omega)).2.2.2⟩
theorem op_mix {σ : Mm} {t : Int32} (hI : Inv σ) : Call 120 k_X11_mix [.ref 0, .int t] σ (fun r τ => Call 120 k_X12_mix [.ref 88, .int t] τ (fun r' τ' => (∃ x : Int32, r = some (.int x) ∧ r' = some (.int x)) ∧ Inv τ')) := by
  have hba := hI.2.2.2.2.2.1
  obtain ⟨hm, hm6, hNN, hd⟩ := ba_m hba
  refine cs_mix hm hm6 hNN hd (fun a => ?_) (fun a b τ hA => ?_) (fun a st b τ hA hS => ?_)
  · exact ms_mix hba hm hm6 hd mm_rf (fun _ => ⟨⟨_, rfl, rfl⟩, hI⟩) (fun z => absurd z a) (fun z => absurd z a)
  · refine ms_mix hba hm hm6 hd (mm_of hA) (fun z => absurd a z) (fun _ _ υ kA => ⟨⟨_, rfl, rfl⟩, inv_mm hI kA⟩) (fun _ st z => ?_)
    rw [b] at z
    cases z
  · refine ms_mix hba hm hm6 hd (mm_of hA) (fun z => absurd a z) (fun _ z => ?_) (fun _ st' z υ kA kS => ?_)
    · rw [b] at z
      cases z
    · rw [b] at z
      cases z
      exact ⟨⟨_, rfl, rfl⟩, inv_mm hI kA⟩
theorem op_mixed {σ : Mm} {t i : Int32} (hI : Inv σ) : Call 120 k_X11_mixed [.ref 0, .int t, .int i] σ (fun r τ => Call 120 k_X12_mixed [.ref 88, .int t, .int i] τ (fun r' τ' => (∃ x : Int32, r = some (.int x) ∧ r' = some (.int x)) ∧ Inv τ')) := by
  have hba := hI.2.2.2.2.2.1
  obtain ⟨hm, hm6, hNN, hd⟩ := ba_m hba
  refine cs_mixed hm hm6 hNN hd (fun a => ?_) (fun a b τ hA => ?_) (fun a st b τ hA hS => ?_)
  · exact ms_mixed hba hm hm6 hd mm_rf (fun _ => ⟨⟨_, rfl, rfl⟩, hI⟩) (fun z => absurd z a) (fun z => absurd z a)
  · refine ms_mixed hba hm hm6 hd (mm_of hA) (fun z => absurd a z) (fun _ _ υ kA => ⟨⟨_, rfl, rfl⟩, inv_mm hI kA⟩) (fun _ st z => ?_)
    rw [b] at z
    cases z
  · refine ms_mixed hba hm hm6 hd (mm_of hA) (fun z => absurd a z) (fun _ z => ?_) (fun _ st' z υ kA kS => ?_)
    · rw [b] at z
      cases z
    · rw [b] at z
      cases z
      exact ⟨⟨_, rfl, rfl⟩, inv_mm hI kA⟩
