def Dm (B N : Nat) : Nat := 6 * (8 - B) + (8 - N)
def mK (lvl : Nat) : Nat := match lvl with
  | 0 => k_X12_or
  | 1 => k_X12_and
  | 2 => k_X12_test
  | 3 => k_X12_sum
  | 4 => k_X12_product
  | _ => k_X12_part_
def LmC (b : Nat → Int32) (n p : Nat) (σ : Mm) (f lvl : Nat) : Prop := ∀ (B N : Nat), Ms lvl B N ≤ f → B ≤ 8 → N ≤ 8 → ∀ (d : Nat) (τ : Mm) (Q : Qt) (st : Pst), tkO b n st.1 → st.2.2.length ≤ st.1.2.1 → MrM b p σ τ B N st → ((prF b n f lvl B N st).1 = true → ∀ τ', MrM b p σ τ' B N (prF b n f lvl B N st).2 → grd b n st (prF b n f lvl B N st).2 → Q none τ') → (¬ (prF b n f lvl B N st).1 = true → ∀ τ', WrM σ τ' (prF b n f lvl B N st).2.1.2.1 → Q none τ') → Call (d + Dm B N + (5 - lvl) + 7) (mK lvl) [.ref 88] τ Q
theorem bI_nzi {c : Prop} [Decidable c] : ¬ (bI c).toInt = 0 ↔ c := ⟨bI_nz, fun h => by rw [bI_p h]; decide⟩
theorem m_mustY {d : Nat} {b : Nat → Int32} {p : Nat} {σ τ : Mm} {Q : Qt} {B N : Nat} {st : Pst} {x : Int32} (hx : ¬ x.toInt = 0) (h : MrM b p σ τ B N st) (hQ : ∀ ρ, MrM b p σ ρ B N st → Q none ρ) : Call (d + 1) k_X12_must [.ref 88, .int x] τ Q := m_mustS (c := True) ⟨fun _ => True.intro, fun _ => hx⟩ h (fun _ => hQ) (fun z => absurd True.intro z)
theorem m_mustN {d : Nat} {b : Nat → Int32} {p : Nat} {σ τ : Mm} {Q : Qt} {B N : Nat} {st : Pst} {x : Int32} (hx : x.toInt = 0) (h : MrM b p σ τ B N st) (hQ : ∀ ρ, WrM σ ρ st.1.2.1 → Q none ρ) : Call (d + 1) k_X12_must [.ref 88, .int x] τ Q := m_mustS (c := False) ⟨fun z => z hx, fun z => z.elim⟩ h (fun z => z.elim) (fun _ => hQ)
theorem m_mustB {d : Nat} {b : Nat → Int32} {p : Nat} {σ τ : Mm} {Q : Qt} {B N : Nat} {st : Pst} {c : Prop} [Decidable c] (h : MrM b p σ τ B N st) (hy : c → ∀ ρ, MrM b p σ ρ B N st → Q none ρ) (hw : ¬ c → ∀ ρ, WrM σ ρ st.1.2.1 → True → Q none ρ) : Call (d + 1) k_X12_must [.ref 88, .int (bI c)] τ Q := m_mustS bI_nzi h hy (fun z ρ q => hw z ρ q True.intro)
theorem tok_k2 {b : Nat → Int32} {t : Tk} (h : t.1 = 2) : (tokC b t).toInt = 258 := by
  have e : tokC b t = 258 := (if_neg (by omega)).trans ((if_neg (by omega)).trans (if_pos h))
  rw [e]; rfl
theorem tok_k1 {b : Nat → Int32} {t : Tk} (h : t.1 = 1) : tokC b t = wdC b t.2.1 t.2.2 := (if_neg (by omega)).trans ((if_neg (by omega)).trans ((if_neg (by omega)).trans (if_neg (by omega))))
theorem tok_nm {b : Nat → Int32} {t : Tk} (h : t.1 = 1) (hm : nmP b t.2.1 t.2.2) : (tokC b t).toInt = 259 := by
  have e : wdC b t.2.1 t.2.2 = 259 := if_pos hm
  rw [tok_k1 h, e]; rfl
theorem tok_1n {b : Nat → Int32} {t : Tk} (h : t.1 = 1) (hm : ¬ nmP b t.2.1 t.2.2) : 257 ≤ (tokC b t).toInt ∧ ¬ (tokC b t).toInt = 258 ∧ ¬ (tokC b t).toInt = 259 := by
  rw [tok_k1 h]
  exact ⟨wd_rng.1, wd_rng.2.2.1, fun z => hm (wd_rng.2.2.2 z)⟩
theorem tok_n12 {b : Nat → Int32} {t : Tk} (hk : t.1 < 5) (hb : t.1 = 3 → 0 ≤ (b t.2.1 &&& 255).toInt ∧ (b t.2.1 &&& 255).toInt < 256) (h1 : ¬ t.1 = 1) (h2 : ¬ t.1 = 2) : (tokC b t).toInt ≤ 257 := by
  rcases tok_cases hk hb with ⟨a, e⟩ | ⟨a, e⟩ | ⟨a, e⟩ | ⟨a, e, f⟩ | ⟨a, e⟩
  · rw [e]; decide
  · rw [e]; decide
  · omega
  · omega
  · omega
theorem nm_5 {x : Int32} (h : -128 ≤ x.toInt ∧ x.toInt < 128) : 0 ≤ (nmIx x).toInt ↔ ((x &&& 255).toInt = 107 ∨ (x &&& 255).toInt = 119 ∨ (x &&& 255).toInt = 116 ∨ (x &&& 255).toInt = 97 ∨ (x &&& 255).toInt = 98) := by
  rw [u255 h]
  unfold nmIx
  split
  · have : ¬ x.toInt < 0 := by omega
    simp only [this, if_false, Int32.reduceToInt]; omega
  split
  · have : ¬ x.toInt < 0 := by omega
    simp only [this, if_false, Int32.reduceToInt]; omega
  split
  · have : ¬ x.toInt < 0 := by omega
    simp only [this, if_false, Int32.reduceToInt]; omega
  split
  · have : ¬ x.toInt < 0 := by omega
    simp only [this, if_false, Int32.reduceToInt]; omega
  split
  · have : ¬ x.toInt < 0 := by omega
    simp only [this, if_false, Int32.reduceToInt]; omega
  · simp only [Int32.reduceToInt]
    by_cases q : x.toInt < 0
    · rw [if_pos q]; omega
    · rw [if_neg q]; omega
set_option maxHeartbeats 4000000 in
theorem pa_step {f : Nat} {b : Nat → Int32} {n p : Nat} {σ : Mm} (hb : ∀ i, i < 96 → -128 ≤ (b i).toInt ∧ (b i).toInt < 128) (ht8 : ∀ i, i < 96 → σ 118 i = b i &&& 255) (hn6 : σ 88 36 = nI n) (hn : n ≤ 96) (hp : p < 3) (h5 : LmC b n p σ f 5) (h0 : LmC b n p σ f 0) : LmC b n p σ (f + 1) 5 := by
  intro B N hM hB hN d τ Q st ht hc h h1 h2
  have htb := tk_b hb hn ht
  have hs2 := ht.2.1
  have hs1 := ht.1
  have hk5 := ht.2.2.2.1
  have hl : st.2.2.length < 100 := by omega
  have hnx := nx_ok (b := b) (n := n) ht
  have n1 : Int32.toInt 1 = 1 := rfl
  have n2 : Int32.toInt 2 = 2 := rfl
  have n107 : Int32.toInt 107 = 107 := rfl
  have n119 : Int32.toInt 119 = 119 := rfl
  have n116 : Int32.toInt 116 = 116 := rfl
  have n97 : Int32.toInt 97 = 97 := rfl
  have n98 : Int32.toInt 98 = 98 := rfl
  have n33 : Int32.toInt 33 = 33 := rfl
  have n40 : Int32.toInt 40 = 40 := rfl
  have n8 : Int32.toInt 8 = 8 := rfl
  have e46 : (τ 88 46).toInt = 0 := by rw [h.2.2.2.2.2.2.1]; rfl
  have e38 : (τ 88 38).toInt = st.1.1 := by rw [h.2.1.2.2.1, nIt (by omega)]
  have esub : (τ 88 37 - τ 88 39).toInt = (st.1.2.2 : Int) - st.1.2.1 := by
    rw [h.2.1.1, h.2.1.2.1]
    have a := nIt (n := st.1.2.1) (by omega)
    have c := nIt (n := st.1.2.2) (by omega)
    simp only [Int32.toInt_sub, a, c, Int.bmod]
    omega
  have hni : st.1.1 = 1 → (nmP b st.1.2.1 st.1.2.2 ↔ ((τ 88 37 - τ 88 39).toInt = 1 ∧ ((τ 88 41).toInt = 107 ∨ (τ 88 41).toInt = 119 ∨ (τ 88 41).toInt = 116 ∨ (τ 88 41).toInt = 97 ∨ (τ 88 41).toInt = 98))) := fun hk1 => by
    have hse := ht.2.2.1 (by omega)
    have e41 := h.2.1.2.2.2.1 (Or.inl hk1)
    have nm := nm_5 (hb st.1.2.1 (by omega))
    rw [← e41] at nm
    rw [← nm]
    exact ⟨fun z => ⟨by have := z.1; omega, z.2⟩, fun z => ⟨by have := z.1; omega, z.2⟩⟩
  have hle0 : st.1.1 = 3 → (adS b n st).2.2.length ≤ (adS b n st).1.2.1 := fun z => by
    have hse := ht.2.2.1 (by omega)
    show st.2.2.length ≤ (nxT b n st.1).2.1
    omega
  have hlg : ∀ {s1 s2 : Pst}, s1.2.2.length ≤ s1.1.2.1 → grd b n s1 s2 → s2.2.2.length < 100 := fun {s1 s2} q1 q2 => by
    have a := grd_len (c0 := 0) q2 (by omega)
    have c := q2.1.1
    have e := q2.1.2.1
    omega
  have hr5 : N < 8 → st.1.1 = 3 → ∀ (τ' : Mm) (Q' : Qt), MrM b p σ τ' B (N + 1) (adS b n st) → ((prF b n f 5 B (N + 1) (adS b n st)).1 = true → ∀ υ, MrM b p σ υ B (N + 1) (prF b n f 5 B (N + 1) (adS b n st)).2 → grd b n (adS b n st) (prF b n f 5 B (N + 1) (adS b n st)).2 → Q' none υ) → (¬ (prF b n f 5 B (N + 1) (adS b n st)).1 = true → ∀ υ, WrM σ υ (prF b n f 5 B (N + 1) (adS b n st)).2.1.2.1 → Q' none υ) → Call (d + Dm B N + 6) k_X12_part_ [.ref 88] τ' Q' := fun q0 q1 τ' Q' q2 q3 q4 => Call_ge (a := d + Dm B (N + 1) + (5 - 5) + 7) (by unfold Dm; omega) (h5 B (N + 1) (by unfold Ms at *; omega) hB (by omega) d τ' Q' _ hnx.1 (hle0 q1) q2 q3 q4)
  have hr0 : B < 8 → st.1.1 = 3 → ∀ (τ' : Mm) (Q' : Qt), MrM b p σ τ' (B + 1) N (adS b n st) → ((prF b n f 0 (B + 1) N (adS b n st)).1 = true → ∀ υ, MrM b p σ υ (B + 1) N (prF b n f 0 (B + 1) N (adS b n st)).2 → grd b n (adS b n st) (prF b n f 0 (B + 1) N (adS b n st)).2 → Q' none υ) → (¬ (prF b n f 0 (B + 1) N (adS b n st)).1 = true → ∀ υ, WrM σ υ (prF b n f 0 (B + 1) N (adS b n st)).2.1.2.1 → Q' none υ) → Call (d + Dm B N + 6) k_X12_or [.ref 88] τ' Q' := fun q0 q1 τ' Q' q2 q3 q4 => Call_ge (a := d + Dm (B + 1) N + (5 - 0) + 7) (by unfold Dm; omega) (h0 (B + 1) N (by unfold Ms at *; omega) (by omega) hN d τ' Q' _ hnx.1 (hle0 q1) q2 q3 q4)
  show Call (d + Dm B N + 6 + 1) k_X12_part_ [.ref 88] τ Q
  have hdm : 16 - B - N ≤ Dm B N + 16 := by omega
  refine Call_st 200 fun X hX => ?_
  refine ⟨fun c4 => ?_, fun c4 => ?_⟩
  · refine ⟨fun c13 => ?_, fun c13 => ?_⟩
    · refine ⟨rfl, rfl, ?_⟩
      refine m_stepS (nvF b st.1.2.1 (st.1.2.2 - st.1.2.1), 1, nvF b st.1.2.1 (st.1.2.2 - st.1.2.1)) hp rfl (h.2.1.2.2.2.2 (by omega)) hl h (fun h22a h22b => ?_)
      refine ⟨rfl, rfl, ?_⟩
      refine m_nextS hb ht8 hn6 hn (st := (st.1, st.2.1 + 1, (nvF b st.1.2.1 (st.1.2.2 - st.1.2.1), 1, nvF b st.1.2.1 (st.1.2.2 - st.1.2.1)) :: st.2.2)) ht (mm_w h22b) (fun h36a h36b => ?_)
      refine ⟨rfl, rfl, ?_⟩
      have eP : (prF b n (f + 1) 5 B N st) = _ := (pr_5 (Nat.le_refl 5)).trans (le_1 (tok_k2 (by omega)))
      have hz : (prF b n (f + 1) 5 B N st).1 = true := by rw [eP]
      exact h1 hz _ (by rw [eP]; exact h36b) (pr_grd hb hn (f + 1) 5 B N st ht hz)
    · refine ⟨fun c47 => ?_, fun c47 => ?_⟩
      · refine ⟨fun c60 => ?_, fun c60 => ?_⟩
        · refine ⟨fun c69 => ?_, fun c69 => ?_⟩
          · have hk1 : st.1.1 = 1 := by omega
            have hnm : nmP b st.1.2.1 st.1.2.2 := (hni hk1).mpr (by omega)
            refine ⟨rfl, rfl, ?_⟩
            refine m_mustY (by decide) h (fun h116a h116b => ?_)
            refine ⟨rfl, rfl, ?_⟩
            refine m_stepS (-1 - nmIx (b st.1.2.1), 2, b st.1.2.1 &&& 255) hp rfl (h116b.2.1.2.2.2.1 (Or.inl hk1)) hl h116b (fun h125a h125b => ?_)
            refine ⟨rfl, rfl, ?_⟩
            refine m_goS hb ht8 hn6 hn (st := (st.1, st.2.1 + 1, (-1 - nmIx (b st.1.2.1), 2, b st.1.2.1 &&& 255) :: st.2.2)) ht (mm_w h125b) (fun h139a h139b => ?_)
            refine ⟨rfl, rfl, ?_⟩
            have eP : (prF b n (f + 1) 5 B N st) = _ := (pr_5 (Nat.le_refl 5)).trans (le_2 (tok_nm hk1 hnm))
            have hz : (prF b n (f + 1) 5 B N st).1 = true := by rw [eP]
            exact h1 hz _ (by rw [eP]; exact h139b) (pr_grd hb hn (f + 1) 5 B N st ht hz)
          · refine ⟨fun c78 => ?_, fun c78 => ?_⟩
            · have hk1 : st.1.1 = 1 := by omega
              have hnm : nmP b st.1.2.1 st.1.2.2 := (hni hk1).mpr (by omega)
              refine ⟨rfl, rfl, ?_⟩
              refine m_mustY (by decide) h (fun h116a h116b => ?_)
              refine ⟨rfl, rfl, ?_⟩
              refine m_stepS (-1 - nmIx (b st.1.2.1), 2, b st.1.2.1 &&& 255) hp rfl (h116b.2.1.2.2.2.1 (Or.inl hk1)) hl h116b (fun h125a h125b => ?_)
              refine ⟨rfl, rfl, ?_⟩
              refine m_goS hb ht8 hn6 hn (st := (st.1, st.2.1 + 1, (-1 - nmIx (b st.1.2.1), 2, b st.1.2.1 &&& 255) :: st.2.2)) ht (mm_w h125b) (fun h139a h139b => ?_)
              refine ⟨rfl, rfl, ?_⟩
              have eP : (prF b n (f + 1) 5 B N st) = _ := (pr_5 (Nat.le_refl 5)).trans (le_2 (tok_nm hk1 hnm))
              have hz : (prF b n (f + 1) 5 B N st).1 = true := by rw [eP]
              exact h1 hz _ (by rw [eP]; exact h139b) (pr_grd hb hn (f + 1) 5 B N st ht hz)
            · refine ⟨fun c87 => ?_, fun c87 => ?_⟩
              · have hk1 : st.1.1 = 1 := by omega
                have hnm : nmP b st.1.2.1 st.1.2.2 := (hni hk1).mpr (by omega)
                refine ⟨rfl, rfl, ?_⟩
                refine m_mustY (by decide) h (fun h116a h116b => ?_)
                refine ⟨rfl, rfl, ?_⟩
                refine m_stepS (-1 - nmIx (b st.1.2.1), 2, b st.1.2.1 &&& 255) hp rfl (h116b.2.1.2.2.2.1 (Or.inl hk1)) hl h116b (fun h125a h125b => ?_)
                refine ⟨rfl, rfl, ?_⟩
                refine m_goS hb ht8 hn6 hn (st := (st.1, st.2.1 + 1, (-1 - nmIx (b st.1.2.1), 2, b st.1.2.1 &&& 255) :: st.2.2)) ht (mm_w h125b) (fun h139a h139b => ?_)
                refine ⟨rfl, rfl, ?_⟩
                have eP : (prF b n (f + 1) 5 B N st) = _ := (pr_5 (Nat.le_refl 5)).trans (le_2 (tok_nm hk1 hnm))
                have hz : (prF b n (f + 1) 5 B N st).1 = true := by rw [eP]
                exact h1 hz _ (by rw [eP]; exact h139b) (pr_grd hb hn (f + 1) 5 B N st ht hz)
              · refine ⟨fun c96 => ?_, fun c96 => ?_⟩
                · have hk1 : st.1.1 = 1 := by omega
                  have hnm : nmP b st.1.2.1 st.1.2.2 := (hni hk1).mpr (by omega)
                  refine ⟨rfl, rfl, ?_⟩
                  refine m_mustY (by decide) h (fun h116a h116b => ?_)
                  refine ⟨rfl, rfl, ?_⟩
                  refine m_stepS (-1 - nmIx (b st.1.2.1), 2, b st.1.2.1 &&& 255) hp rfl (h116b.2.1.2.2.2.1 (Or.inl hk1)) hl h116b (fun h125a h125b => ?_)
                  refine ⟨rfl, rfl, ?_⟩
                  refine m_goS hb ht8 hn6 hn (st := (st.1, st.2.1 + 1, (-1 - nmIx (b st.1.2.1), 2, b st.1.2.1 &&& 255) :: st.2.2)) ht (mm_w h125b) (fun h139a h139b => ?_)
                  refine ⟨rfl, rfl, ?_⟩
                  have eP : (prF b n (f + 1) 5 B N st) = _ := (pr_5 (Nat.le_refl 5)).trans (le_2 (tok_nm hk1 hnm))
                  have hz : (prF b n (f + 1) 5 B N st).1 = true := by rw [eP]
                  exact h1 hz _ (by rw [eP]; exact h139b) (pr_grd hb hn (f + 1) 5 B N st ht hz)
                · refine ⟨fun c105 => ?_, fun c105 => ?_⟩
                  · have hk1 : st.1.1 = 1 := by omega
                    have hnm : nmP b st.1.2.1 st.1.2.2 := (hni hk1).mpr (by omega)
                    refine ⟨rfl, rfl, ?_⟩
                    refine m_mustY (by decide) h (fun h116a h116b => ?_)
                    refine ⟨rfl, rfl, ?_⟩
                    refine m_stepS (-1 - nmIx (b st.1.2.1), 2, b st.1.2.1 &&& 255) hp rfl (h116b.2.1.2.2.2.1 (Or.inl hk1)) hl h116b (fun h125a h125b => ?_)
                    refine ⟨rfl, rfl, ?_⟩
                    refine m_goS hb ht8 hn6 hn (st := (st.1, st.2.1 + 1, (-1 - nmIx (b st.1.2.1), 2, b st.1.2.1 &&& 255) :: st.2.2)) ht (mm_w h125b) (fun h139a h139b => ?_)
                    refine ⟨rfl, rfl, ?_⟩
                    have eP : (prF b n (f + 1) 5 B N st) = _ := (pr_5 (Nat.le_refl 5)).trans (le_2 (tok_nm hk1 hnm))
                    have hz : (prF b n (f + 1) 5 B N st).1 = true := by rw [eP]
                    exact h1 hz _ (by rw [eP]; exact h139b) (pr_grd hb hn (f + 1) 5 B N st ht hz)
                  · have hk1 : st.1.1 = 1 := by omega
                    have hnm : ¬ nmP b st.1.2.1 st.1.2.2 := fun z => by
                      have z := (hni hk1).mp z
                      omega
                    refine ⟨rfl, rfl, ?_⟩
                    refine m_mustN rfl h (fun h116a h116b => ?_)
                    refine ⟨rfl, rfl, ?_⟩
                    refine m_stepW h116b ?_
                    refine ⟨rfl, rfl, ?_⟩
                    refine m_goW (wm_wr h116b rfl (by decide) (by decide)) ?_
                    refine ⟨rfl, rfl, ?_⟩
                    have q := tok_1n (b := b) hk1 hnm
                    have eP : (prF b n (f + 1) 5 B N st) = _ := (pr_5 (Nat.le_refl 5)).trans (le_5 q.2.1 q.2.2 (by omega) (by omega))
                    exact h2 (by rw [eP]; exact Bool.false_ne_true) _ (by rw [eP]; exact (wm_wr h116b rfl (by decide) (by decide)))
        · have hk1 : st.1.1 = 1 := by omega
          have hnm : ¬ nmP b st.1.2.1 st.1.2.2 := fun z => by
            have z := (hni hk1).mp z
            omega
          refine ⟨rfl, rfl, ?_⟩
          refine m_mustN rfl h (fun h116a h116b => ?_)
          refine ⟨rfl, rfl, ?_⟩
          refine m_stepW h116b ?_
          refine ⟨rfl, rfl, ?_⟩
          refine m_goW (wm_wr h116b rfl (by decide) (by decide)) ?_
          refine ⟨rfl, rfl, ?_⟩
          have q := tok_1n (b := b) hk1 hnm
          have eP : (prF b n (f + 1) 5 B N st) = _ := (pr_5 (Nat.le_refl 5)).trans (le_5 q.2.1 q.2.2 (by omega) (by omega))
          exact h2 (by rw [eP]; exact Bool.false_ne_true) _ (by rw [eP]; exact (wm_wr h116b rfl (by decide) (by decide)))
      · refine ⟨rfl, rfl, ?_⟩
        refine m_isSgS hb hn ht (by decide) h ?_
        refine ⟨fun c151 => ?_, fun c151 => ?_⟩
        · replace c151 := bI_z c151
          refine ⟨rfl, rfl, ?_⟩
          refine m_isSgS hb hn ht (by decide) h ?_
          refine ⟨fun c217 => ?_, fun c217 => ?_⟩
          · replace c217 := bI_z c217
            refine ⟨rfl, rfl, ?_⟩
            refine m_mustN rfl h (fun h234a h234b => ?_)
            refine ⟨rfl, rfl, ?_⟩
            refine m_goW (wm_wr h234b rfl (by decide) (by decide)) ?_
            refine ⟨rfl, rfl, ?_⟩
            refine m_orW (wm_wr h234b rfl (by decide) (by decide)) ?_
            refine ⟨rfl, rfl, ?_⟩
            refine m_isSgW (wm_wr h234b rfl (by decide) (by decide)) ?_
            refine ⟨rfl, rfl, ?_⟩
            refine m_mustW (wm_wr h234b rfl (by decide) (by decide)) (fun h262a h262b => ?_)
            refine ⟨rfl, rfl, ?_⟩
            refine m_goW (wm_wr h262b rfl (by decide) (by decide)) ?_
            refine ⟨rfl, rfl, ?_⟩
            have q := tok_n12 ht.2.2.2.1 htb (by omega) (by omega)
            have eP : (prF b n (f + 1) 5 B N st) = _ := (pr_5 (Nat.le_refl 5)).trans (le_5 (by omega) (by omega) (by omega) (by omega))
            exact h2 (by rw [eP]; exact Bool.false_ne_true) _ (by rw [eP]; exact (wm_wr h262b rfl (by decide) (by decide)))
          · replace c217 := bI_nz c217
            refine ⟨fun c226 => ?_, fun c226 => ?_⟩
            · have hB8 : B < 8 := by rw [h.2.2.1, nIt (by omega)] at c226; simp only [Int32.reduceToInt] at c226; omega
              have hse : st.1.1 = 3 := (tok_sg (b := b) (t := st.1) (by rw [c217]; decide)).1
              refine ⟨rfl, rfl, ?_⟩
              refine m_mustY (by decide) h (fun h234a h234b => ?_)
              refine ⟨rfl, rfl, ?_⟩
              refine m_goS hb ht8 hn6 hn ht (mm_B (M := B + 1) h234b (by rw [h234b.2.2.1, nI_1])) (fun h248a h248b => ?_)
              refine ⟨rfl, rfl, ?_⟩
              refine hr0 hB8 hse h248a _ h248b (fun h252a h252b h252c h252d => ?_) (fun h252a h252b h252c => ?_)
              · refine ⟨rfl, rfl, ?_⟩
                refine m_isSgS hb hn h252d.1 (by decide) h252c ?_
                refine ⟨rfl, rfl, ?_⟩
                refine m_mustB h252c (fun h262a h262b h262c => ?_) (fun h262a h262b h262c h262d => ?_)
                · refine ⟨rfl, rfl, ?_⟩
                  refine m_goS hb ht8 hn6 hn h252d.1 (mm_B (M := B) h262c (by rw [h262c.2.2.1, nI_pred])) (fun h276a h276b => ?_)
                  refine ⟨rfl, rfl, ?_⟩
                  have eP : (prF b n (f + 1) 5 B N st) = _ := (pr_5 (Nat.le_refl 5)).trans (le_4 (by rw [c217]; rfl) hB8 ⟨h252a, by rw [h262a]; rfl⟩)
                  have hz : (prF b n (f + 1) 5 B N st).1 = true := by rw [eP]
                  exact h1 hz _ (by rw [eP]; exact h276b) (pr_grd hb hn (f + 1) 5 B N st ht hz)
                · refine ⟨rfl, rfl, ?_⟩
                  refine m_goW (wm_wr h262c rfl (by decide) (by decide)) ?_
                  refine ⟨rfl, rfl, ?_⟩
                  have eP : (prF b n (f + 1) 5 B N st) = _ := (pr_5 (Nat.le_refl 5)).trans (le_4n (by rw [c217]; rfl) hB8 (fun z => h262a (by rw [z.2]; rfl)))
                  exact h2 (by rw [eP]; exact Bool.false_ne_true) _ (by rw [eP]; exact (wm_wr h262c rfl (by decide) (by decide)))
              · refine ⟨rfl, rfl, ?_⟩
                refine m_isSgW h252c ?_
                refine ⟨rfl, rfl, ?_⟩
                refine m_mustW h252c (fun h262a h262b => ?_)
                refine ⟨rfl, rfl, ?_⟩
                refine m_goW (wm_wr h262b rfl (by decide) (by decide)) ?_
                refine ⟨rfl, rfl, ?_⟩
                have eP : (prF b n (f + 1) 5 B N st) = _ := (pr_5 (Nat.le_refl 5)).trans (le_4n (by rw [c217]; rfl) hB8 (fun z => h252a z.1))
                exact h2 (by rw [eP]; exact Bool.false_ne_true) _ (by rw [eP]; exact (wm_wr h262b rfl (by decide) (by decide)))
            · refine ⟨rfl, rfl, ?_⟩
              refine m_mustN rfl h (fun h234a h234b => ?_)
              refine ⟨rfl, rfl, ?_⟩
              refine m_goW (wm_wr h234b rfl (by decide) (by decide)) ?_
              refine ⟨rfl, rfl, ?_⟩
              refine m_orW (wm_wr h234b rfl (by decide) (by decide)) ?_
              refine ⟨rfl, rfl, ?_⟩
              refine m_isSgW (wm_wr h234b rfl (by decide) (by decide)) ?_
              refine ⟨rfl, rfl, ?_⟩
              refine m_mustW (wm_wr h234b rfl (by decide) (by decide)) (fun h262a h262b => ?_)
              refine ⟨rfl, rfl, ?_⟩
              refine m_goW (wm_wr h262b rfl (by decide) (by decide)) ?_
              refine ⟨rfl, rfl, ?_⟩
              have hB8 : ¬ B < 8 := by rw [h.2.2.1, nIt (by omega)] at c226; omega
              have eP : (prF b n (f + 1) 5 B N st) = _ := (pr_5 (Nat.le_refl 5)).trans (le_4x (by rw [c217]; rfl) hB8)
              exact h2 (by rw [eP]; exact Bool.false_ne_true) _ (by rw [eP]; exact (wm_wr h262b rfl (by decide) (by decide)))
        · replace c151 := bI_nz c151
          refine ⟨fun c161 => ?_, fun c161 => ?_⟩
          · have hN8 : N < 8 := by rw [h.2.2.2.1, nIt (by omega)] at c161; simp only [Int32.reduceToInt] at c161; omega
            have hse : st.1.1 = 3 := (tok_sg (b := b) (t := st.1) (by rw [c151]; decide)).1
            have hle := hle0 hse
            refine ⟨rfl, rfl, ?_⟩
            refine m_mustY (by decide) h (fun h169a h169b => ?_)
            refine ⟨rfl, rfl, ?_⟩
            refine m_goS hb ht8 hn6 hn ht (mm_N (M := N + 1) h169b (by rw [h169b.2.2.2.1, nI_1])) (fun h183a h183b => ?_)
            refine ⟨rfl, rfl, ?_⟩
            refine hr5 hN8 hse h183a _ h183b (fun h187a h187b h187c h187d => ?_) (fun h187a h187b h187c => ?_)
            · refine ⟨rfl, rfl, ?_⟩
              refine m_stepS (-15, 33, 0) hp rfl rfl (hlg hle h187d) (mm_N (M := N) h187c (by rw [h187c.2.2.2.1, nI_pred])) (fun h204a h204b => ?_)
              refine ⟨rfl, rfl, ?_⟩
              have eP : (prF b n (f + 1) 5 B N st) = _ := (pr_5 (Nat.le_refl 5)).trans (le_3 (by rw [c151]; rfl) hN8 h187a)
              have hz : (prF b n (f + 1) 5 B N st).1 = true := by rw [eP]
              exact h1 hz _ (by rw [eP]; exact h204b) (pr_grd hb hn (f + 1) 5 B N st ht hz)
            · refine ⟨rfl, rfl, ?_⟩
              refine m_stepW (wm_wr h187c rfl (by decide) (by decide)) ?_
              refine ⟨rfl, rfl, ?_⟩
              have eP : (prF b n (f + 1) 5 B N st) = _ := (pr_5 (Nat.le_refl 5)).trans (le_3n (by rw [c151]; rfl) hN8 h187a)
              exact h2 (by rw [eP]; exact Bool.false_ne_true) _ (by rw [eP]; exact (wm_wr h187c rfl (by decide) (by decide)))
          · have hN8 : ¬ N < 8 := by rw [h.2.2.2.1, nIt (by omega)] at c161; simp only [Int32.reduceToInt] at c161; omega
            refine ⟨rfl, rfl, ?_⟩
            refine m_mustN rfl h (fun h169a h169b => ?_)
            refine ⟨rfl, rfl, ?_⟩
            refine m_goW (wm_wr h169b rfl (by decide) (by decide)) ?_
            refine ⟨rfl, rfl, ?_⟩
            refine m_paW (wm_wr h169b rfl (by decide) (by decide)) ?_
            refine ⟨rfl, rfl, ?_⟩
            refine m_stepW (wm_wr (wm_wr h169b rfl (by decide) (by decide)) rfl (by decide) (by decide)) ?_
            refine ⟨rfl, rfl, ?_⟩
            have eP : (prF b n (f + 1) 5 B N st) = _ := (pr_5 (Nat.le_refl 5)).trans (le_3x (by rw [c151]; rfl) hN8)
            exact h2 (by rw [eP]; exact Bool.false_ne_true) _ (by rw [eP]; exact (wm_wr (wm_wr h169b rfl (by decide) (by decide)) rfl (by decide) (by decide)))
  · exfalso; omega
