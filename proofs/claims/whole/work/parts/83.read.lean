/-- a part of a law: its head and its value -/
def paF (b : Nat → Int32) (n k : Nat) (t : Tk) (w : Nat) : Bool × Pst := if (tokC b t).toInt = 260 + k then prF b n 70 0 0 0 (adS b n (t, w, [])) else (false, (t, w, []))
theorem tok_hd {b : Nat → Int32} {t : Tk} {k : Nat} (hk : t.1 < 5) (hb : t.1 = 3 → 0 ≤ (b t.2.1 &&& 255).toInt ∧ (b t.2.1 &&& 255).toInt < 256) (h : (tokC b t).toInt = 260 + k) : t.1 = 1 := by
  rcases tok_cases hk hb with ⟨a, e⟩ | ⟨a, e⟩ | ⟨a, e⟩ | ⟨a, e, f⟩ | ⟨a, e⟩
  · rw [e] at h; simp only [Int32.reduceToInt] at h; omega
  · rw [e] at h; simp only [Int32.reduceToInt] at h; omega
  · rw [e] at h; simp only [Int32.reduceToInt] at h; omega
  · omega
  · exact a
theorem tok_256 {b : Nat → Int32} {t : Tk} (hk : t.1 < 5) (hb : t.1 = 3 → 0 ≤ (b t.2.1 &&& 255).toInt ∧ (b t.2.1 &&& 255).toInt < 256) : (tokC b t).toInt = 256 ↔ t.1 = 0 := by
  rcases tok_cases hk hb with ⟨a, e⟩ | ⟨a, e⟩ | ⟨a, e⟩ | ⟨a, e, f⟩ | ⟨a, e⟩
  · rw [e]; exact ⟨fun _ => a, fun _ => rfl⟩
  · rw [e]; simp only [Int32.reduceToInt]; omega
  · rw [e]; simp only [Int32.reduceToInt]; omega
  · omega
  · rw [e]
    have := (wd_rng (b := b) (s := t.2.1) (e := t.2.2)).1
    omega
theorem pa_y {b : Nat → Int32} {n k : Nat} {t : Tk} {w : Nat} (h : (tokC b t).toInt = 260 + k) : paF b n k t w = prF b n 70 0 0 0 (adS b n (t, w, [])) := if_pos h
theorem pa_n {b : Nat → Int32} {n k : Nat} {t : Tk} {w : Nat} (h : ¬ (tokC b t).toInt = 260 + k) : paF b n k t w = (false, (t, w, [])) := if_neg h
/-- the class's reader ahead of a part -/
def PsC (b : Nat → Int32) (n : Nat) (σ τ : Mm) (c0 : Nat) (t : Tk) (w : Nat) : Prop := (∀ c, c ≠ 31 → c ≠ 32 → c ≠ 33 → τ c = σ c) ∧ tkO b n t ∧ c0 ≤ t.2.1 ∧ CrC b n (τ 32) c0 τ τ 0 0 (t, w, [])
/-- it has failed -/
def FrC (σ τ : Mm) (s : Nat) : Prop := (∀ c, c ≠ 31 → c ≠ 32 → c ≠ 33 → τ c = σ c) ∧ τ 31 3 = nI s
/-- a part was read -/
def PdC (b : Nat → Int32) (n : Nat) (σ τ υ : Mm) (c0 k : Nat) (st : Pst) : Prop := PsC b n σ υ (c0 + st.2.2.length) st.1 st.2.1 ∧ arrK (υ 32) c0 st.2.2 ∧ (∀ j, j < c0 → υ 32 j = τ 32 j) ∧ υ 33 k = nI c0 ∧ υ 33 (k + 1) = nI (c0 + st.2.2.length) ∧ ∀ j, j < k → υ 33 j = τ 33 j
/-- the class's reader behind a whole law -/
def LdC (r0 r1 r2 : Bool × Pst) (σ τ : Mm) : Prop := (∀ c, c ≠ 31 → c ≠ 32 → c ≠ 33 → τ c = σ c) ∧ τ 31 2 = nI r2.2.2.1 ∧ arrK (τ 32) 0 r0.2.2.2 ∧ arrK (τ 32) r0.2.2.2.length r1.2.2.2 ∧ arrK (τ 32) (r0.2.2.2.length + r1.2.2.2.length) r2.2.2.2 ∧ τ 33 0 = nI 0 ∧ τ 33 1 = nI r0.2.2.2.length ∧ τ 33 2 = nI (r0.2.2.2.length + r1.2.2.2.length) ∧ τ 33 3 = nI (r0.2.2.2.length + r1.2.2.2.length + r2.2.2.2.length)
/-- where a law is wrong -/
def lwB (r0 r1 r2 : Bool × Pst) : Nat := if r0.1 = true then (if r1.1 = true then r2.2.1.2.1 else r1.2.1.2.1) else r0.2.1.2.1
abbrev lwG (r0 r1 r2 : Bool × Pst) : Prop := r0.1 = true ∧ r1.1 = true ∧ r2.1 = true ∧ r2.2.1.1 = 0
theorem mm_96 {n : Nat} (h : n ≤ 96) : mmn (nI n) 96 = nI n := if_neg (by rw [Int32.lt_iff_toInt_lt, nIt (by omega)]; simp only [Int32.reduceToInt]; omega)
set_option maxHeartbeats 1000000 in
theorem s_read {d : Nat} {σ : Mm} {Q : Qt} {b : Nat → Int32} {n : Nat} (hb : ∀ i, i < 96 → -128 ≤ (b i).toInt ∧ (b i).toInt < 128) (h30 : σ 30 = b) (hn : n ≤ 96) {r0 r1 r2 : Bool × Pst} (e0 : paF b n 0 (lxF b n 0 False) 0 = r0) (e1 : paF b n 1 r0.2.1 r0.2.2.1 = r1) (e2 : paF b n 2 r1.2.1 r1.2.2.1 = r2) (hy : lwG r0 r1 r2 → ∀ τ, LdC r0 r1 r2 σ τ → Q (some (.int 1)) τ) (hf : ¬ lwG r0 r1 r2 → ∀ τ, FrC σ τ (lwB r0 r1 r2) → Q (some (.int 0)) τ) : Call (d + 97) k_X4_read [.ref 31, .int (nI n)] σ Q := by
  have hm := mm_96 hn
  refine Call_go fun X hX => ?_
  have part : ∀ (k : Nat), k < 3 → ∀ (τ : Mm) (c0 : Nat) (t : Tk) (w : Nat), PsC b n σ τ c0 t w → (¬ (paF b n k t w).1 = true → ∀ τ', FrC σ τ' (paF b n k t w).2.1.2.1 → Q (some (.int 0)) τ') → ((paF b n k t w).1 = true → ∀ υ, PdC b n σ τ υ c0 k (paF b n k t w).2 → X 49 [.ref 31, .int (nI n), .int (nI (k + 1))] [] υ) → X 49 [.ref 31, .int (nI n), .int (nI k)] [] τ := by
    intro k hk τ c0 t w hP hf hy
    obtain ⟨h1, ht, hcl, hc⟩ := hP
    have ek := nIt (n := k) (by omega)
    have ek1 := nIt (n := k + 1) (by omega)
    have h30 : τ 30 = b := (h1 30 (by decide) (by decide) (by decide)).trans h30
    have htb := tk_b hb hn ht
    have e260 : (260 + nI k).toInt = 260 + k := by
      simp only [Int32.toInt_add, ek, Int32.reduceToInt, Int.bmod]
      omega
    have hlv : (tokC b t).toInt = 260 + k → ∀ (ρ : Mm) (Q' : Qt), ρ 30 = b → CrC b n (τ 32) c0 ρ ρ 0 0 (adS b n (t, w, [])) → ((prF b n 70 0 0 0 (adS b n (t, w, []))).1 = true → ∀ υ, CrC b n (τ 32) c0 ρ υ 0 0 (prF b n 70 0 0 0 (adS b n (t, w, []))).2 → grd b n (adS b n (t, w, [])) (prF b n 70 0 0 0 (adS b n (t, w, []))).2 → Q' (some (.int 1)) υ) → (¬ (prF b n 70 0 0 0 (adS b n (t, w, []))).1 = true → ∀ υ, FlC ρ υ (prF b n 70 0 0 0 (adS b n (t, w, []))).2.1.2.1 → Q' (some (.int 0)) υ) → Call (d + 96) k_X4_readLevel [.ref 31, .int 0] ρ Q' := fun hk0 ρ Q' q1 q2 q3 q4 => by
      have hk1 := tok_hd (k := k) ht.2.2.2.1 htb hk0
      have hse := ht.2.2.1 (by omega)
      have hnx := nx_ok (b := b) (n := n) ht
      have hle : c0 + (adS b n (t, w, [])).2.2.length ≤ (adS b n (t, w, [])).1.2.1 := by show c0 + 0 ≤ (nxT b n t).2.1; omega
      exact Call_ge (a := d + Dc 0 0 + (6 - 0) + 9) (by show d + (8 * (8 - 0) + 2 * (8 - 0)) + (6 - 0) + 9 ≤ d + 96; omega) ((lc_all hb q1 hn 70).2 0 0 0 (by decide) (by omega) (by omega) (by omega) d ρ Q' 0 _ rfl hnx.1 hle q2 q3 q4)
    refine go [49] 80 hX ?_
    refine ⟨fun c51 => ?_, fun c51 => ?_⟩
    · refine ⟨fun c63 => ?_, fun c63 => ?_⟩
      · rw [hc.2.2.1.2.2.1, e260] at c63
        have hk0 : (tokC b t).toInt = 260 + k := c63
        have hk1 := tok_hd (k := k) ht.2.2.2.1 htb hk0
        have hse := ht.2.2.1 (by omega)
        have hnx := nx_ok (b := b) (n := n) ht
        have hle : c0 + (adS b n (t, w, [])).2.2.length ≤ (adS b n (t, w, [])).1.2.1 := by show c0 + 0 ≤ (nxT b n t).2.1; omega
        refine ⟨rfl, rfl, ?_⟩
        refine s_advS (st := (t, w, [])) h30 hn ht (by show t.1 ≠ 4; omega) hc (fun h69a h69b => ?_)
        refine ⟨_, rfl, ⟨by omega, by omega⟩, ?_⟩
        have hw0 : wr h69a 33 (nI k).toInt.toNat (h69a 31 6) 30 = b := (h69b.1 30 (by decide) (by decide)).trans h30
        have hcw : CrC b n (τ 32) c0 (wr h69a 33 (nI k).toInt.toNat (h69a 31 6)) (wr h69a 33 (nI k).toInt.toNat (h69a 31 6)) 0 0 (adS b n (t, w, [])) := ⟨fun _ _ _ => rfl, h69b.2.1, h69b.2.2.1, h69b.2.2.2.1, h69b.2.2.2.2.1, h69b.2.2.2.2.2.1, h69b.2.2.2.2.2.2.1, h69b.2.2.2.2.2.2.2.1, h69b.2.2.2.2.2.2.2.2⟩
        refine ⟨rfl, rfl, ?_⟩
        refine hlv hk0 _ _ hw0 hcw (fun h84a h84b h84c h84d => ?_) (fun h84a h84b h84c => ?_)
        · refine ⟨fun z => absurd z (by decide), fun _ => ?_⟩
          refine ⟨_, rfl, (by rw [nI_1]; exact ⟨by omega, by omega⟩), ?_⟩
          have eN : (nI k + 1).toInt.toNat = k + 1 := by rw [nI_1]; exact nIn (by omega)
          rw [eN]
          have hgt : grd b n (adS b n (t, w, [])) (prF b n 70 0 0 0 (adS b n (t, w, []))).2 := h84d
          have e6 : h84b 31 6 = nI (c0 + (prF b n 70 0 0 0 (adS b n (t, w, []))).2.2.2.length) := h84c.2.2.2.2.1
          have e33 : h84b 33 = upd (h69a 33) (nI k).toInt.toNat (h69a 31 6) := h84c.1 33 (by decide) (by decide)
          rw [nIn (i := k) (by omega)] at e33
          have e69 : h69a 33 = τ 33 := h69b.1 33 (by decide) (by decide)
          have ih := hy (by rw [pa_y hk0]; exact h84a) (wr h84b 33 (k + 1) (h84b 31 6)) (by
            rw [pa_y hk0]
            refine ⟨⟨fun c c1 c2 c3 => by rw [wr_c c3, h84c.1 c c1 c2, wr_c c3, h69b.1 c c1 c2]; exact h1 c c1 c2 c3, hgt.1, grd_len hgt hle, fun _ _ _ => rfl, h84c.2.1, h84c.2.2.1, h84c.2.2.2.1, e6, True.intro, fun _ _ => rfl, h84c.2.2.2.2.2.2.2.1, h84c.2.2.2.2.2.2.2.2⟩, h84c.2.2.2.2.2.1, h84c.2.2.2.2.2.2.1, ?_, ?_, fun j hj => ?_⟩
            · rw [wr_i (by omega), e33, pk_us]
              exact h69b.2.2.2.2.1
            · rw [wr_k, pk_us, e6]
            · rw [wr_i (by omega), e33, pk_un (by omega), e69])
          rw [← nI_1] at ih
          exact ih
        · refine ⟨fun _ => ?_, fun z => absurd (by decide) z⟩
          refine ⟨rfl, Or.inl rfl, ?_⟩
          exact hf (by rw [pa_y hk0]; exact h84a) _ (by rw [pa_y hk0]; exact ⟨fun c c1 c2 c3 => by rw [h84c.1 c c1 c2, wr_c c3, h69b.1 c c1 c2]; exact h1 c c1 c2 c3, h84c.2.1⟩)
      · refine ⟨rfl, Or.inl rfl, ?_⟩
        rw [hc.2.2.1.2.2.1, e260] at c63
        have eP : (paF b n k t w) = _ := pa_n c63
        exact hf (by rw [eP]; exact Bool.false_ne_true) _ (by rw [eP]; exact ⟨h1, hc.2.2.1.1⟩)
    · exfalso; rw [ek] at c51; simp only [Int32.reduceToInt] at c51; omega
  have fin : ∀ (τ : Mm) (c0 : Nat) (t : Tk) (w : Nat), PsC b n σ τ c0 t w → (¬ t.1 = 0 → Q (some (.int 0)) τ) → (t.1 = 0 → Q (some (.int 1)) τ) → X 49 [.ref 31, .int (nI n), .int 3] [] τ := by
    intro τ c0 t w hP hf hy
    obtain ⟨h1, ht, hcl, hc⟩ := hP
    refine go [] 40 hX ?_
    refine ⟨fun z => absurd z (by decide), fun _ => ?_⟩
    refine ⟨fun c117 => ?_, fun c117 => ?_⟩
    · refine ⟨rfl, Or.inr rfl, ?_⟩
      rw [hc.2.2.1.2.2.1] at c117
      simp only [Int32.reduceToInt] at c117
      exact hy ((tok_256 ht.2.2.2.1 (tk_b hb hn ht)).mp (by omega))
    · refine ⟨rfl, Or.inl rfl, ?_⟩
      rw [hc.2.2.1.2.2.1] at c117
      simp only [Int32.reduceToInt] at c117
      exact hf (fun z => c117 ((tok_256 ht.2.2.2.1 (tk_b hb hn ht)).mpr z))
  have all : ∀ (τ : Mm), PsC b n σ τ 0 (lxF b n 0 False) 0 → X 49 [.ref 31, .int (nI n), .int 0] [] τ := by
    intro τ hP
    have g0 := part 0 (by omega) τ 0 _ 0 hP
    rw [e0] at g0
    refine g0 (fun z τ' q => hf (fun y => z y.1) τ' ?_) (fun a0 τ0 p0 => ?_)
    · have e : lwB r0 r1 r2 = r0.2.1.2.1 := if_neg z
      rw [e]; exact q
    obtain ⟨p0a, p0b, p0c, p0d, p0e, p0f⟩ := p0
    rw [Nat.zero_add] at p0a p0e
    have g1 := part 1 (by omega) τ0 _ _ _ p0a
    rw [e1] at g1
    refine g1 (fun z τ' q => hf (fun y => z y.2.1) τ' ?_) (fun a1 τ1 p1 => ?_)
    · have e : lwB r0 r1 r2 = r1.2.1.2.1 := (if_pos a0).trans (if_neg z)
      rw [e]; exact q
    obtain ⟨p1a, p1b, p1c, p1d, p1e, p1f⟩ := p1
    have g2 := part 2 (by omega) τ1 _ _ _ p1a
    rw [e2] at g2
    have e : lwB r0 r1 r2 = r2.2.1.2.1 := (if_pos a0).trans (if_pos a1)
    refine g2 (fun z τ' q => hf (fun y => z y.2.2.1) τ' ?_) (fun a2 τ2 p2 => ?_)
    · rw [e]; exact q
    obtain ⟨p2a, p2b, p2c, p2d, p2e, p2f⟩ := p2
    refine fin τ2 _ _ _ p2a (fun z => hf (fun y => z y.2.2.2) _ (by rw [e]; exact ⟨p2a.1, p2a.2.2.2.2.2.1.1⟩)) (fun z => hy ⟨a0, a1, a2, z⟩ _ ⟨p2a.1, p2a.2.2.2.2.2.2.1, ?_, ?_, p2b, ?_, ?_, p2d, p2e⟩)
    · refine arrK_cong _ (fun i hi => ?_) p0b
      rw [p2c _ (by omega), p1c _ (by omega)]
    · exact arrK_cong _ (fun i hi => p2c _ (by omega)) p1b
    · rw [p2f 0 (by omega), p1f 0 (by omega)]
      exact p0d
    · rw [p2f 1 (by omega)]
      exact p1d
  refine go [49] 80 hX ?_
  refine ⟨_, rfl, ?_⟩
  refine ⟨rfl, ?_⟩
  refine ⟨Or.inl rfl, ?_⟩
  refine ⟨rfl, rfl, ?_⟩
  refine s_adv (n := n) (p := 0) (w := False) hm rfl (bI_n (fun z => z)).symm (Nat.zero_le n) hn (fun h44a h44b h44c => ?_)
  refine all _ ⟨fun c c1 c2 c3 => by rw [h44b.1 c c1, wr_c c1, wr_c c1, wr_c c1, wr_c c1, wr_c c1, wr_c c1, wr_c c1], (lx_ok (Nat.zero_le n)).1, Nat.zero_le _, fun _ _ _ => rfl, (h44b.2 5 rfl).trans hm, ?_, h44b.2 2 rfl, h44b.2 6 rfl, True.intro, fun _ _ => rfl, h44b.2 11 rfl, h44b.2 12 rfl⟩
  rw [← h30]
  exact h44c
