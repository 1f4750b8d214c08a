def MmL : List Nat := [58, 59, 60, 61, 63, 64, 65, 66, 67, 68, 69, 70, 88, 126, 127, 128, 129]
theorem cu_mono {L M : List Nat} (h : L.all (fun k => cu M k) = true) {k : Nat} (hk : cu L k = true) : cu M k = true := by
  cases q : cu M k with
  | true => rfl
  | false => rw [cu_sub h q] at hk; cases hk
/-- the reference's memory but for what a search writes -/
def MmA (σ τ : Mm) : Prop := Ag MmL σ τ ∧ ∀ j, cu [57, 60, 61] j = false → τ 88 j = σ 88 j
theorem mm_rf {σ : Mm} : MmA σ σ := ⟨Ag.rf, fun _ _ => rfl⟩
theorem mm_tr {σ τ ρ : Mm} (h : MmA σ τ) (h1 : Ag MmL τ ρ) (h2 : ∀ j, cu [57, 60, 61] j = false → ρ 88 j = τ 88 j) : MmA σ ρ := ⟨Ag.tr h.1 h1, fun j hj => (h2 j hj).trans (h.2 j hj)⟩
theorem mm_wr {σ τ : Mm} {c i : Nat} {v : Int32} (h : MmA σ τ) (hc : cu [126, 127, 128, 129] c = true) : MmA σ (wr τ c i v) := by
  have hne : ¬ (88 = c) := fun z => by rw [← z] at hc; cases hc
  exact ⟨Ag.wr h.1 (cu_mono (L := [126, 127, 128, 129]) rfl hc), fun j hj => by rw [wr_c hne]; exact h.2 j hj⟩
theorem mm_88 {σ τ : Mm} {i : Nat} {v : Int32} (h : MmA σ τ) (hi : cu [57, 60, 61] i = true) : MmA σ (wr τ 88 i v) := by
  refine ⟨Ag.wr h.1 rfl, fun j hj => ?_⟩
  rw [wr_i (fun z => by rw [z, hi] at hj; cases hj)]
  exact h.2 j hj
theorem ba_pa {σ : Mm} (h : I_ba σ) {m : Nat} (hm : (σ 45 3).toInt = m) {p : Nat} (hp : p < m) : 1 ≤ (σ 49 p).toInt := ((h.2.2.2.2.1 p (by omega)).2.1).1
set_option maxHeartbeats 4000000 in
theorem m_costsOf {d : Nat} {σ τ : Mm} {Q : Qt} {m : Nat} {x : Int32} {L : List Nat} (hba : I_ba σ) (hm : (σ 45 3).toInt = m) (hm6 : m ≤ 6) (hA : MmA σ τ) (hl : arr (τ 127) L) (hlen : L.length ≤ 6) (hat : ∀ j, j < L.length → atR L j < m) (ex : x = nI L.length) (hQ : ∀ ρ : Mm, Ag [88, 126, 128] τ ρ → (∀ j, j ≠ 57 → ρ 88 j = τ 88 j) → (∀ j, j < L.length → ρ 128 j = alS σ (pfx L (j + 1))) → Q (some (.int (alS σ L))) ρ) : Call (d + 3) k_X12_costsOf [.ref 88, .int x] τ Q := by
  subst ex
  have f88 : ∀ j, cu [57, 60, 61] j = false → τ 88 j = σ 88 j := hA.2
  obtain ⟨⟨b0, b1, b2, b3, b4, b5, b6⟩, ⟨b7, b8⟩, ⟨b9, b10⟩, b11, b12, b13⟩ := id hba
  have f48 : τ 88 48 = σ 45 0 := (f88 48 rfl).trans b0
  have f120 : τ 120 = σ 46 := (hA.1 120 rfl).trans b2
  have f121 : τ 121 = σ 47 := (hA.1 121 rfl).trans b3
  have f122 : τ 122 = σ 48 := (hA.1 122 rfl).trans b4
  have f123 : τ 123 = σ 49 := (hA.1 123 rfl).trans b5
  have f124 : τ 124 = σ 50 := (hA.1 124 rfl).trans b6
  have eL := nIt (n := L.length) (by omega)
  refine Call_go fun X hX => ?_
  have loop2 : ∀ (k i : Nat) (ρ : Mm), i + k = L.length → (∀ c, c ≠ 88 → c ≠ 126 → c ≠ 128 → ρ c = τ c) → (∀ j, j ≠ 57 → ρ 88 j = τ 88 j) → ((∀ t, t < (σ 45 0).toInt.toNat → ρ 126 t = (stS σ (pfx L i)).1 t) ∧ ρ 88 57 = (stS σ (pfx L i)).2) → (∀ j, j < i → ρ 128 j = alS σ (pfx L (j + 1))) → X 35 [.ref 88, .int (nI L.length), .int (nI i)] [] ρ := by
    intro k
    induction k with
    | zero =>
      intro i ρ hi k1 k2 k3 k4
      rw [Nat.add_zero] at hi
      have e1 := nIt (n := i) (by omega)
      have r48 : ρ 88 48 = σ 45 0 := (k2 48 (by decide)).trans f48
      have g121 : ρ 121 = σ 47 := (k1 121 (by decide) (by decide) (by decide)).trans f121
      have g122 : ρ 122 = σ 48 := (k1 122 (by decide) (by decide) (by decide)).trans f122
      have g123 : ρ 123 = σ 49 := (k1 123 (by decide) (by decide) (by decide)).trans f123
      have g124 : ρ 124 = σ 50 := (k1 124 (by decide) (by decide) (by decide)).trans f124
      have hNr : 0 ≤ (ρ 88 48).toInt ∧ (ρ 88 48).toInt ≤ 8 := by rw [r48]; exact ⟨b7, b8⟩
      refine go [35] 100 hX ?_
      refine ⟨fun c37 => ?_, fun c37 => ?_⟩
      · exfalso; omega
      · refine ⟨rfl, rfl, ?_⟩
        refine m_all hNr ?_
        refine ⟨rfl, trivial, ?_⟩
        subst hi
        rw [pfx_all] at k3
        have hal : allF (ρ 126) (ρ 88 57) (ρ 88 48).toInt.toNat = alS σ L := by rw [k3.2, r48]; exact all_cong k3.1
        rw [hal]
        refine hQ ρ (fun c hc => k1 c (fun z => by rw [z] at hc; cases hc) (fun z => by rw [z] at hc; cases hc) (fun z => by rw [z] at hc; cases hc)) k2 k4
    | succ k ih =>
      intro i ρ hi k1 k2 k3 k4
      have e1 := nIt (n := i) (by omega)
      have r48 : ρ 88 48 = σ 45 0 := (k2 48 (by decide)).trans f48
      have g121 : ρ 121 = σ 47 := (k1 121 (by decide) (by decide) (by decide)).trans f121
      have g122 : ρ 122 = σ 48 := (k1 122 (by decide) (by decide) (by decide)).trans f122
      have g123 : ρ 123 = σ 49 := (k1 123 (by decide) (by decide) (by decide)).trans f123
      have g124 : ρ 124 = σ 50 := (k1 124 (by decide) (by decide) (by decide)).trans f124
      have hNr : 0 ≤ (ρ 88 48).toInt ∧ (ρ 88 48).toInt ≤ 8 := by rw [r48]; exact ⟨b7, b8⟩
      have e2 := nIn (i := i) (by omega)
      have hbi := hat i (by omega)
      have eai := nIt (n := atR L i) (by omega)
      have ebn := nIn (i := atR L i) (by omega)
      have eb : ρ 127 (nI i).toInt.toNat = nI (atR L i) := by rw [e2, k1 127 (by decide) (by decide) (by decide)]; exact arrAt L hl i (by omega)
      have ha1 := ba_pa hba hm hbi
      refine go [35] 100 hX ?_
      refine ⟨fun c37 => ?_, fun c37 => ?_⟩
      · refine ⟨_, _, rfl, ⟨by omega, by omega⟩, ?_⟩
        refine ⟨rfl, rfl, ?_⟩
        refine m_work hNr (by rw [eb]; omega) (by rw [eb, ebn, g123]; omega) (fun _ => by rw [eb, ebn, g123]; omega) (fun h47a h47b h47c h47d h47e => ?_)
        have hps := pfx_s (L := L) (i := i) (by omega)
        rw [eb, ebn] at h47d h47e
        rw [r48, g121, g122, g123, g124] at h47d h47e
        have hw := wk_cong (kd := σ 48) (a := σ 49) (b := σ 50) (so := σ 47) (n := (σ 45 0).toInt.toNat) (p := atR L i) (s := stS σ (pfx L i)) (t := (ρ 126, ρ 88 57)) k3.1 k3.2
        have n2 : h47a 88 57 = (stS σ (pfx L (i + 1))).2 := by rw [hps]; exact h47d.trans hw.2
        have n1 : ∀ t, t < (σ 45 0).toInt.toNat → h47a 126 t = (stS σ (pfx L (i + 1))).1 t := fun t ht => by rw [hps]; exact (h47e t ht).trans (hw.1 t ht)
        have s48 : h47a 88 48 = σ 45 0 := (h47c 48 (by decide)).trans r48
        have hNs : 0 ≤ (h47a 88 48).toInt ∧ (h47a 88 48).toInt ≤ 8 := by rw [s48]; exact ⟨b7, b8⟩
        have hal : allF (h47a 126) (h47a 88 57) (h47a 88 48).toInt.toNat = alS σ (pfx L (i + 1)) := by rw [n2, s48]; exact all_cong n1
        refine ⟨rfl, rfl, ?_⟩
        refine m_all hNs ?_
        refine ⟨_, rfl, ⟨by omega, by omega⟩, ?_⟩
        refine (fun ih1 => ?_) (ih (i + 1) (wr h47a 128 (nI i).toInt.toNat (allF (h47a 126) (h47a 88 57) (h47a 88 48).toInt.toNat)) (by omega) (fun c z1 z2 z3 => (wr_c z3).trans ((h47b c z2 z1).trans (k1 c z1 z2 z3))) (fun j hj => (h47c j hj).trans (k2 j hj)) ⟨n1, n2⟩ (fun j hj => ?_))
        · rw [← nI_1] at ih1
          exact ih1
        · rw [wr_k, e2, hal, h47b 128 (by decide) (by decide)]
          by_cases q : j = i
          · rw [q]; exact pk_us
          · rw [pk_un q]; exact k4 j (by omega)
      · exfalso; omega
  have loop1 : ∀ (k i : Nat) (ρ : Mm), i + k = (σ 45 0).toInt.toNat → (∀ c, c ≠ 126 → ρ c = wr τ 88 57 0 c) → (∀ j, j < i → ρ 126 j = σ 46 j) → X 7 [.ref 88, .int (nI L.length), .int (nI i)] [] ρ := by
    intro k
    induction k with
    | zero =>
      intro i ρ hi h1 h2
      rw [Nat.add_zero] at hi
      have e1 := nIt (n := i) (by omega)
      have g88 : ρ 88 = wr τ 88 57 0 88 := h1 88 (by decide)
      have q48 : (ρ 88 48).toInt = (σ 45 0).toInt := by rw [g88, wr_i (by decide), f48]
      refine go [7, 35] 100 hX ?_
      refine ⟨fun c12 => ?_, fun c12 => ?_⟩
      · exfalso; omega
      · refine loop2 L.length 0 ρ (Nat.zero_add _) (fun c k1 k2 k3 => (h1 c k2).trans (wr_c k1)) (fun j hj => by rw [g88, wr_i hj]) ?_ (fun j hj => by omega)
        rw [pfx_0]
        exact ⟨fun t ht => h2 t (by omega), by rw [g88]; exact wr_v⟩
    | succ k ih =>
      intro i ρ hi h1 h2
      have e1 := nIt (n := i) (by omega)
      have g88 : ρ 88 = wr τ 88 57 0 88 := h1 88 (by decide)
      have q48 : (ρ 88 48).toInt = (σ 45 0).toInt := by rw [g88, wr_i (by decide), f48]
      have e2 := nIn (i := i) (by omega)
      refine go [7, 35] 100 hX ?_
      refine ⟨fun c12 => ?_, fun c12 => ?_⟩
      · refine ⟨_, _, rfl, ⟨by omega, by omega⟩, ?_⟩
        refine ⟨_, rfl, ⟨by omega, by omega⟩, ?_⟩
        refine (fun ih1 => ?_) (ih (i + 1) (wr ρ 126 (nI i).toInt.toNat (ρ 120 (nI i).toInt.toNat)) (by omega) (fun c hc => (wr_c hc).trans (h1 c hc)) (fun j hj => ?_))
        · rw [← nI_1] at ih1
          exact ih1
        · rw [wr_k, e2, h1 120 (by decide)]
          show upd _ _ (τ 120 i) j = _
          rw [f120]
          by_cases q : j = i
          · rw [q]; exact pk_us
          · rw [pk_un q]; exact h2 j (by omega)
      · exfalso; omega
  refine go [7] 20 hX ?_
  exact loop1 _ 0 _ (Nat.zero_add _) (fun c _ => rfl) (fun j hj => by omega)
theorem m_mayCome {d : Nat} {σ τ : Mm} {Q : Qt} {m q : Nat} {p x : Int32} {L : List Nat} (hba : I_ba σ) (hm : (σ 45 3).toInt = m) (hm6 : m ≤ 6) (hA : MmA σ τ) (hl : arr (τ 127) L) (hlen : L.length ≤ 6) (hat : ∀ j, j < L.length → atR L j < m) (hq : q < 6) (ep : p = nI q) (ex : x = nI L.length) (hQ : Q (some (.int (bI (mayS σ L q)))) τ) : Call (d + 1) k_X12_mayCome [.ref 88, .int p, .int x] τ Q := by
  subst ep
  subst ex
  have hj := joinI_iff.mp hba.2.2.2.2.2
  have eL := nIt (n := L.length) (by omega)
  have eq1 := nIt (n := q) (by omega)
  refine Call_go fun X hX => ?_
  have loop : ∀ (k i : Nat), i + k = L.length → X 5 [.ref 88, .int (nI q), .int (nI L.length), .int (bI (∀ j, j < i → ¬ (σ (52 + atR L j) q).toInt = 0)), .int (nI i)] [] τ := by
    intro k
    induction k with
    | zero =>
      intro i hi
      rw [Nat.add_zero] at hi
      have e1 := nIt (n := i) (by omega)
      refine go [5] 100 hX ?_
      refine ⟨fun c8 => ?_, fun c8 => ?_⟩
      · exfalso; omega
      · refine ⟨rfl, isb_bI, ?_⟩
        subst hi
        exact hQ
    | succ k ih =>
      intro i hi
      have e1 := nIt (n := i) (by omega)
      have e2 := nIn (i := i) (by omega)
      have hbi := hat i (by omega)
      have eai := nIt (n := atR L i) (by omega)
      have eb : τ 127 (nI i).toInt.toNat = nI (atR L i) := by rw [e2]; exact arrAt L hl i (by omega)
      have ej : τ 125 (6 * nI q + τ 127 (nI i).toInt.toNat).toInt.toNat = σ (52 + atR L i) q := by
        rw [eb, i6 (by omega) (by omega), nIn (by omega), nIn (by omega), hA.1 125 rfl]
        have h1 := hj q (atR L i) (by omega) (by omega)
        rw [h1.1, h1.2.1]
      refine go [5] 100 hX ?_
      refine ⟨fun c8 => ?_, fun c8 => ?_⟩
      · refine ⟨fun c12 => ?_, fun c12 => ?_⟩
        · replace c12 := bI_z c12
          have ih1 := ih (i + 1) (by omega)
          rw [bI_n (fun z => c12 (fun j hj => z j (by omega))), ← nI_1] at ih1
          exact ih1
        · replace c12 := bI_nz c12
          refine ⟨_, _, rfl, ⟨by omega, by omega⟩, ?_⟩
          refine ⟨_, _, rfl, (by rw [eb]; exact i6x (by omega) (by omega)), ?_⟩
          refine ⟨fun c32 => ?_, fun c32 => ?_⟩
          · have ih1 := ih (i + 1) (by omega)
            rw [ej] at c32
            rw [bI_n (fun z => z i (by omega) c32), ← nI_1] at ih1
            exact ih1
          · have ih1 := ih (i + 1) (by omega)
            rw [ej] at c32
            rw [bI_p (show (∀ j, j < i + 1 → ¬ (σ (52 + atR L j) q).toInt = 0) from fun j hj => by
              by_cases r : j = i
              · rw [r]; exact c32
              · exact c12 j (by omega)), ← nI_1] at ih1
            exact ih1
      · exfalso; omega
  refine go [5] 20 hX ?_
  have h0 := loop L.length 0 (Nat.zero_add _)
  rw [bI_p (show (∀ j, j < 0 → ¬ (σ (52 + atR L j) q).toInt = 0) from fun j hj => by omega)] at h0
  exact h0
