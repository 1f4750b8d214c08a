def enS (σ : Mm) (l : Int32) : Mm := (wr (up (up σ (22 + l.toInt.toNat) (va_cpy (σ 32) (σ (22 + l.toInt.toNat)) 0 0 96)) (26 + l.toInt.toNat) (va_cpy ((up σ (22 + l.toInt.toNat) (va_cpy (σ 32) (σ (22 + l.toInt.toNat)) 0 0 96)) 33) ((up σ (22 + l.toInt.toNat) (va_cpy (σ 32) (σ (22 + l.toInt.toNat)) 0 0 96)) (26 + l.toInt.toNat)) 0 0 4)) 20 l.toInt.toNat 1)
theorem en_c {σ : Mm} {l : Int32} {c : Nat} (hl : 0 ≤ l.toInt ∧ l.toInt ≤ 2) (h1 : c ≠ 20) (h2 : c < 22 ∨ 24 < c) (h3 : c < 26 ∨ 28 < c) : enS σ l c = σ c := by
  unfold enS
  rw [wr_c h1, up_c (by omega), up_c (by omega)]
theorem s_enact {d : Nat} {σ : Mm} {Q : Qt} {l : Int32} (hl : 0 ≤ l.toInt ∧ l.toInt ≤ 2) (hQ : Q none (enS σ l)) : Call (d + 1) k_X3_enact [.ref 19, .int l, .ref 32, .ref 33] σ Q := by
  refine Call_st 120 fun X hX => ?_
  refine ⟨_, _, rfl, (by refine ⟨?_, ?_⟩ <;> (first | omega | (simp only [Int32.reduceToInt] at ⊢ ⊢; omega))), ?_⟩
  refine ⟨rfl, 0, 96, 96, ⟨rfl, rfl, rw22 (by omega)⟩, ⟨by decide, by decide, by decide, by decide, by decide⟩, ?_⟩
  refine ⟨_, _, rfl, (by refine ⟨?_, ?_⟩ <;> (first | omega | (simp only [Int32.reduceToInt] at ⊢ ⊢; omega))), ?_⟩
  refine ⟨rfl, 0, 4, 4, ⟨rfl, rfl, rw26 (by omega)⟩, ⟨by decide, by decide, by decide, by decide, by decide⟩, ?_⟩
  refine ⟨(by refine ⟨?_, ?_⟩ <;> (first | omega | (simp only [Int32.reduceToInt] at ⊢ ⊢; omega))), Or.inr rfl, ?_⟩
  refine ⟨rfl, rfl, ?_⟩
  exact hQ
theorem s_readE {d : Nat} {σ : Mm} {Q : Qt} {b : Nat → Int32} {n : Nat} {x : Int32} (ex : x = nI n) (hb : ∀ i, i < 96 → -128 ≤ (b i).toInt ∧ (b i).toInt < 128) (h30 : σ 30 = b) (hn : n ≤ 96) {r0 r1 r2 : Bool × Pst} (e0 : paF b n 0 (lxF b n 0 False) 0 = r0) (e1 : paF b n 1 r0.2.1 r0.2.2.1 = r1) (e2 : paF b n 2 r1.2.1 r1.2.2.1 = r2) (hy : lwG r0 r1 r2 → ∀ τ, LdC r0 r1 r2 σ τ → Q (some (.int 1)) τ) (hf : ¬ lwG r0 r1 r2 → ∀ τ, FrC σ τ (lwB r0 r1 r2) → Q (some (.int 0)) τ) : Call (d + 97) k_X4_read [.ref 31, .int x] σ Q := by
  subst ex
  exact s_read hb h30 hn e0 e1 e2 hy hf
set_option maxHeartbeats 1000000 in
theorem s_law {d : Nat} {σ : Mm} {Q : Qt} {l : Int32} {b : Nat → Int32} {n : Nat} (hb : ∀ i, i < 96 → -128 ≤ (b i).toInt ∧ (b i).toInt < 128) (h30 : σ 30 = b) (h5 : σ 0 5 = nI n) (hn : n ≤ 96) {r0 r1 r2 : Bool × Pst} (e0 : paF b n 0 (lxF b n 0 False) 0 = r0) (e1 : paF b n 1 r0.2.1 r0.2.2.1 = r1) (e2 : paF b n 2 r1.2.1 r1.2.2.1 = r2) (h1 : ¬ (0 ≤ l.toInt ∧ l.toInt ≤ 2) → Q (some (.int (-1000000001))) (wr σ 0 5 0)) (h2 : (0 ≤ l.toInt ∧ l.toInt ≤ 2) → ¬ lwG r0 r1 r2 → ∀ τ, FrC (wr σ 0 5 0) τ (lwB r0 r1 r2) → Q (some (.int (-100 - nI (lwB r0 r1 r2)))) τ) (h3 : (0 ≤ l.toInt ∧ l.toInt ≤ 2) → lwG r0 r1 r2 → ∀ τ, LdC r0 r1 r2 (wr σ 0 5 0) τ → Q (some (.int (nI r2.2.2.1))) (enS τ l)) : Call (d + 98) k_X11_law [.ref 0, .int l] σ Q := by
  refine Call_st 120 fun X hX => ?_
  refine ⟨rfl, ?_⟩
  refine s_withinK (l := 0) (h := 2) (by decide) (by decide) ?_
  refine ⟨fun c16 => ?_, fun c16 => ?_⟩
  · replace c16 := bI_z c16
    refine ⟨rfl, trivial, ?_⟩
    exact h1 (by (first | omega | (simp only [Int32.reduceToInt] at c16 ⊢; omega)))
  · replace c16 := bI_nz c16
    have hok : (0 ≤ l.toInt ∧ l.toInt ≤ 2) := by (first | omega | (simp only [Int32.reduceToInt] at c16 ⊢; omega))
    refine ⟨rfl, rfl, ?_⟩
    refine s_readE (by exact h5) hb (by exact h30) hn e0 e1 e2 (fun h27a h27b h27c => ?_) (fun h27a h27b h27c => ?_)
    · refine ⟨fun z => absurd z (by decide), fun _ => ?_⟩
      refine ⟨rfl, rfl, ?_⟩
      refine s_enact hok ?_
      refine ⟨rfl, trivial, ?_⟩
      refine Qe (h3 hok h27a _ h27c) (vI_ ?_) rfl
      rw [en_c hok (by decide) (by decide) (by decide)]
      exact h27c.2.1
    · refine ⟨fun _ => ?_, fun z => absurd (by decide) z⟩
      refine ⟨rfl, trivial, ?_⟩
      exact Qe (h2 hok h27a _ h27c) (vI_ (by rw [h27c.2])) rfl
