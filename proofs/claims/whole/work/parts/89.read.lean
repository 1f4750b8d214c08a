theorem fr_tr {σ ρ υ : Mm} (h : FrM σ ρ) (h2 : FrM ρ υ) : FrM σ υ := ⟨fun c c1 c2 c3 c4 => (h2.1 c c1 c2 c3 c4).trans (h.1 c c1 c2 c3 c4), fun j hj => (h2.2 j hj).trans (h.2 j hj)⟩
theorem fr_rf {σ : Mm} : FrM σ σ := ⟨fun _ _ _ _ _ => rfl, fun _ _ => rfl⟩
/-- the reference's reader ahead of a part -/
def PsM (b : Nat → Int32) (σ τ : Mm) (t : Tk) (w : Nat) : Prop := FrM σ τ ∧ TkM b τ t ∧ τ 88 42 = nI 0 ∧ τ 88 43 = nI 0 ∧ τ 88 44 = nI w ∧ τ 88 46 = 0
/-- behind it -/
def PdM (b : Nat → Int32) (n : Nat) (σ τ υ : Mm) (k : Nat) (st : Pst) : Prop := PsM b σ υ st.1 st.2.1 ∧ tkO b n st.1 ∧ υ 114 k = nI st.2.2.length ∧ arrM (υ 115) (υ 116) (100 * k) st.2.2 ∧ (∀ q, q < k → υ 114 q = τ 114 q) ∧ (∀ j, j < 100 * k → υ 115 j = τ 115 j ∧ υ 116 j = τ 116 j) ∧ st.2.2.length ≤ 96
/-- the reading is over -/
def FeM (σ τ : Mm) : Prop := (∀ c, c ≠ 88 → c ≠ 114 → c ≠ 115 → c ≠ 116 → τ c = σ c) ∧ (∀ j, cu [36, 37, 38, 39, 40, 41, 42, 43, 44, 45, 46] j = false → τ 88 j = σ 88 j) ∧ τ 88 36 = 0
theorem fe_36 {σ τ : Mm} (h : FrM σ τ) : FeM σ (wr τ 88 36 0) := ⟨fun c c1 c2 c3 c4 => (wr_c c1).trans (h.1 c c1 c2 c3 c4), fun j hj => by
  rw [wr_i (fun z => by rw [z] at hj; cases hj)]
  exact h.2 j (cu_sub (by decide) hj), rfl⟩
set_option maxHeartbeats 2000000 in
theorem lw_part {d : Nat} {Q : Qt} {X : Kt} (hX : Clo (Call (d + 80)) none (mR k_X12_law) (mE k_X12_law) Q X) {b : Nat → Int32} {n : Nat} {σ : Mm} {l : Int32} (hb : ∀ i, i < 96 → -128 ≤ (b i).toInt ∧ (b i).toInt < 128) (ht8 : ∀ i, i < 96 → σ 118 i = b i &&& 255) (hn6 : σ 88 36 = nI n) (hn : n ≤ 96) (h119 : ∀ i, i < 18 → σ 119 i = headB i) {k : Nat} (hk : k < 3) {τ : Mm} {t : Tk} {w : Nat} {v : Value} (hP : PsM b σ τ t w) (ht : tkO b n t) (hf : ¬ (paF b n k t w).1 = true → ∀ τ', WrM σ τ' (paF b n k t w).2.1.2.1 → X 36 [.ref 88, .int l, .int (nI (k + 1)), v] [] τ') (hy : (paF b n k t w).1 = true → ∀ υ, PdM b n σ τ υ k (paF b n k t w).2 → X 36 [.ref 88, .int l, .int (nI (k + 1)), v] [] υ) : X 36 [.ref 88, .int l, .int (nI k), v] [] τ := by
  obtain ⟨h1, h2, h3, h4, h5, h6⟩ := hP
  have ek := nIt (n := k) (by omega)
  have ekn := nIn (i := k) (by omega)
  have htb := tk_b hb hn ht
  refine go [36] 80 hX ?_
  refine ⟨fun c38 => ?_, fun c38 => ?_⟩
  · refine ⟨_, rfl, ⟨by omega, by omega⟩, ?_⟩
    have hFR : FrM σ (wr (wr τ 88 45 (nI k)) 114 (nI k).toInt.toNat 0) := ⟨fun c c1 c2 c3 c4 => by rw [wr_c c2, wr_c c1]; exact h1.1 c c1 c2 c3 c4, fun j hj => (wr_i (fun z => by rw [z] at hj; cases hj)).trans (h1.2 j hj)⟩
    have hR : MrM b k (wr (wr τ 88 45 (nI k)) 114 (nI k).toInt.toNat 0) (wr (wr τ 88 45 (nI k)) 114 (nI k).toInt.toNat 0) 0 0 (t, w, []) := ⟨fr_rf, h2, h3, h4, h5, rfl, h6, by show upd (τ 114) (nI k).toInt.toNat 0 k = nI 0; rw [ekn, pk_us]; rfl, True.intro, fun _ _ => rfl, fun _ _ => ⟨rfl, rfl⟩⟩
    have ht8' : ∀ i, i < 96 → (wr (wr τ 88 45 (nI k)) 114 (nI k).toInt.toNat 0) 118 i = b i &&& 255 := fun i hi => by rw [hFR.1 118 (by decide) (by decide) (by decide) (by decide)]; exact ht8 i hi
    have h119' : ∀ i, i < 18 → (wr (wr τ 88 45 (nI k)) 114 (nI k).toInt.toNat 0) 119 i = headB i := fun i hi => by rw [hFR.1 119 (by decide) (by decide) (by decide) (by decide)]; exact h119 i hi
    have hn6' : (wr (wr τ 88 45 (nI k)) 114 (nI k).toInt.toNat 0) 88 36 = nI n := (hFR.2 36 rfl).trans hn6
    have e46 : ((wr (wr τ 88 45 (nI k)) 114 (nI k).toInt.toNat 0) 88 46).toInt = 0 := by show (τ 88 46).toInt = 0; rw [h6]; rfl
    have hor : (tokC b t).toInt = 260 + k → ∀ (τ' : Mm) (Q' : Qt), MrM b k (wr (wr τ 88 45 (nI k)) 114 (nI k).toInt.toNat 0) τ' 0 0 (adS b n (t, w, [])) → ((prF b n 70 0 0 0 (adS b n (t, w, []))).1 = true → ∀ υ, MrM b k (wr (wr τ 88 45 (nI k)) 114 (nI k).toInt.toNat 0) υ 0 0 (prF b n 70 0 0 0 (adS b n (t, w, []))).2 → grd b n (adS b n (t, w, [])) (prF b n 70 0 0 0 (adS b n (t, w, []))).2 → Q' none υ) → (¬ (prF b n 70 0 0 0 (adS b n (t, w, []))).1 = true → ∀ υ, WrM (wr (wr τ 88 45 (nI k)) 114 (nI k).toInt.toNat 0) υ (prF b n 70 0 0 0 (adS b n (t, w, []))).2.1.2.1 → Q' none υ) → Call (d + 80) k_X12_or [.ref 88] τ' Q' := fun hk0 τ' Q' q1 q2 q3 => by
      have hk1 := tok_hd (k := k) ht.2.2.2.1 htb hk0
      have hnx := nx_ok (b := b) (n := n) ht
      exact Call_ge (a := d + Dm 0 0 + (5 - 0) + 7) (by show d + (6 * (8 - 0) + (8 - 0)) + (5 - 0) + 7 ≤ d + 80; omega) (lm_all hb ht8' hn6' hn hk 70 0 (by omega) 0 0 (by decide) (by omega) (by omega) d τ' Q' _ hnx.1 (Nat.zero_le _) q1 q2 q3)
    refine ⟨fun c58 => ?_, fun c58 => ?_⟩
    · refine ⟨rfl, rfl, ?_⟩
      refine m_isHdS hb ht8' hn6' hn h119' hk ht hR ?_
      refine ⟨fun c66 => ?_, fun c66 => ?_⟩
      · replace c66 := bI_z c66
        have hk0 := c66
        refine ⟨rfl, rfl, ?_⟩
        refine m_mustN rfl hR (fun h74a h74b => ?_)
        refine ⟨rfl, rfl, ?_⟩
        refine m_goW h74b ?_
        refine ⟨rfl, rfl, ?_⟩
        refine m_orW h74b ?_
        have eP : (paF b n k t w) = _ := pa_n hk0
        have ih := hf (by rw [eP]; exact Bool.false_ne_true) h74a (by rw [eP]; exact ⟨fr_tr hFR h74b.1, h74b.2⟩)
        rw [← nI_1] at ih
        exact ih
      · replace c66 := bI_nz c66
        have hk0 := c66
        refine ⟨rfl, rfl, ?_⟩
        refine m_mustY (by decide) hR (fun h74a h74b => ?_)
        refine ⟨rfl, rfl, ?_⟩
        refine m_goS hb ht8' hn6' hn ht h74b (fun h78a h78b => ?_)
        refine ⟨rfl, rfl, ?_⟩
        refine hor hk0 h78a _ h78b (fun h82a h82b h82c h82d => ?_) (fun h82a h82b h82c => ?_)
        · have gl := grd_len (c0 := 0) h82d (by show 0 + 0 ≤ _; omega)
          have ih := hy (by rw [pa_y hk0]; exact h82a) h82b (by
            rw [pa_y hk0]
            obtain ⟨m1, m2, m3, m4, m5, m6, m7, m8, m9, m10, m11⟩ := h82c
            refine ⟨⟨fr_tr hFR m1, m2, m3, m4, m5, m7⟩, h82d.1, m8, m9, fun q hq => ?_, m11, ?_⟩
            · rw [m10 q hq]
              show upd (τ 114) (nI k).toInt.toNat 0 q = _
              rw [ekn, pk_un (by omega)]
            · have q1 := h82d.1.1
              have q2 := h82d.1.2.1
              show (prF b n 70 0 0 0 (adS b n (t, w, []))).2.2.2.length ≤ 96
              omega)
          rw [← nI_1] at ih
          exact ih
        · have ih := hf (by rw [pa_y hk0]; exact h82a) h82b (by rw [pa_y hk0]; exact ⟨fr_tr hFR h82c.1, h82c.2⟩)
          rw [← nI_1] at ih
          exact ih
    · exfalso
      exact c58 e46
  · exfalso; rw [ek] at c38; simp only [Int32.reduceToInt] at c38; omega
theorem lw_wrong {d : Nat} {Q : Qt} {X : Kt} (hX : Clo (Call (d + 80)) none (mR k_X12_law) (mE k_X12_law) Q X) {σ : Mm} {l : Int32} {s : Nat} {v : Value} (hE : ∀ τ, WrM σ τ s → X 91 [.ref 88, .int l, .int (nI 3), v] [] τ) : ∀ (j k : Nat) (τ : Mm), k + j = 3 → WrM σ τ s → X 36 [.ref 88, .int l, .int (nI k), v] [] τ := by
  intro j
  induction j with
  | zero =>
    intro k τ hi hw
    have ek := nIt (n := k) (by omega)
    rw [Nat.add_zero] at hi
    refine go [36, 91] 30 hX ?_
    refine ⟨fun c38 => ?_, fun c38 => ?_⟩
    · exfalso; rw [ek] at c38; simp only [Int32.reduceToInt] at c38; omega
    · rw [hi]
      exact hE _ hw
  | succ j ih =>
    intro k τ hi hw
    have ek := nIt (n := k) (by omega)
    refine go [36, 91] 60 hX ?_
    refine ⟨fun c38 => ?_, fun c38 => ?_⟩
    · refine ⟨_, rfl, ⟨by omega, by omega⟩, ?_⟩
      have hW : WrM σ (wr (wr τ 88 45 (nI k)) 114 (nI k).toInt.toNat 0) s := ⟨⟨fun c c1 c2 c3 c4 => by rw [wr_c c2, wr_c c1]; exact hw.1.1 c c1 c2 c3 c4, fun j hj => (wr_i (fun z => by rw [z] at hj; cases hj)).trans (hw.1.2 j hj)⟩, hw.2⟩
      have e46 : ¬ ((wr (wr τ 88 45 (nI k)) 114 (nI k).toInt.toNat 0) 88 46).toInt = 0 := by rw [hW.2.2]; decide
      refine ⟨fun c58 => ?_, fun c58 => ?_⟩
      · exfalso
        exact absurd c58 e46
      · refine ⟨rfl, rfl, ?_⟩
        refine m_mustW hW (fun h74a h74b => ?_)
        refine ⟨rfl, rfl, ?_⟩
        refine m_goW h74b ?_
        refine ⟨rfl, rfl, ?_⟩
        refine m_orW h74b ?_
        have ih1 := ih (k + 1) h74a (by omega) h74b
        rw [← nI_1] at ih1
        exact ih1
    · exfalso; rw [ek] at c38; simp only [Int32.reduceToInt] at c38; omega
