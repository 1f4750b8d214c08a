theorem wk_0 {kd a b so : Nat → Int32} {n p : Nat} {s : (Nat → Int32) × Int32} (h : (kd p).toInt = 0) : wkC kd a b so n p s = (ptF b so a p s.1, s.2) := if_pos h
theorem wk_1 {kd a b so : Nat → Int32} {n p : Nat} {s : (Nat → Int32) × Int32} (h : (kd p).toInt = 1) : wkC kd a b so n p s = (s.1, if (allF s.1 s.2 n).toInt < (b p).toInt then s.2 else s.2 + a p) := (if_neg (by omega)).trans (if_pos h)
theorem wk_2n {kd a b so : Nat → Int32} {n p : Nat} {s : (Nat → Int32) × Int32} (h : (kd p).toInt = 2) (h2 : plF b so p s.1 n = none ∨ (pmF b so p n : Int) < (a p).toInt) : wkC kd a b so n p s = s := by
  unfold wkC
  rw [if_neg (by omega), if_neg (by omega), if_pos h]
  rcases h2 with h2 | h2
  · rw [h2]
  · cases plF b so p s.1 n with
    | none => rfl
    | some l => dsimp only; rw [if_pos h2]
theorem wk_2 {kd a b so : Nat → Int32} {n p l : Nat} {s : (Nat → Int32) × Int32} (h : (kd p).toInt = 2) (h1 : plF b so p s.1 n = some l) (h2 : ¬ (pmF b so p n : Int) < (a p).toInt) : wkC kd a b so n p s = (upd s.1 l 0, s.2) := by
  unfold wkC
  rw [if_neg (by omega), if_neg (by omega), if_pos h, h1]
  dsimp only
  rw [if_neg h2]
theorem wk_3 {kd a b so : Nat → Int32} {n p : Nat} {s : (Nat → Int32) × Int32} (h0 : ¬ (kd p).toInt = 0) (h1 : ¬ (kd p).toInt = 1) (h2 : ¬ (kd p).toInt = 2) : wkC kd a b so n p s = (s.1, if (n : Int) < (b p).toInt then s.2 else s.2 + mmx 0 (allF s.1 s.2 n - a p)) := (if_neg h0).trans ((if_neg h1).trans (if_neg h2))
theorem s_work {d : Nat} {τ : Mm} {Q : Qt} {p x : Int32} (hN : 0 ≤ (τ 45 0).toInt ∧ (τ 45 0).toInt ≤ 8) (hp : 0 ≤ p.toInt ∧ p.toInt < 6) (hx : 0 ≤ x.toInt ∧ x.toInt ≤ 5) (hQ : ∀ ρ : Mm, (∀ c, c ≠ 61 → c ≠ 63 + (x.toInt.toNat + 1) → c ≠ 70 → ρ c = τ c) → ρ 61 = upd (τ 61) x.toInt.toNat p → (∀ j, j ≠ x.toInt.toNat + 1 → ρ 70 j = τ 70 j) → ρ 70 (x.toInt.toNat + 1) = (wkC (τ 48) (τ 49) (τ 50) (τ 47) (τ 45 0).toInt.toNat p.toInt.toNat (τ (63 + x.toInt.toNat), τ 70 x.toInt.toNat)).2 → (∀ i, i < (τ 45 0).toInt.toNat → ρ (63 + (x.toInt.toNat + 1)) i = (wkC (τ 48) (τ 49) (τ 50) (τ 47) (τ 45 0).toInt.toNat p.toInt.toNat (τ (63 + x.toInt.toNat), τ 70 x.toInt.toNat)).1 i) → Q none ρ) : Call (d + 4) k_X6_work [.ref 58, .int p, .int x] τ Q := by
  have ex := add1 (x := x) (by omega)
  have eX1 : (x + 1).toInt.toNat = x.toInt.toNat + 1 := by omega
  refine Call_st 100 fun X hX => ?_
  refine ⟨rfl, ?_⟩
  refine s_withinK (l := 0) (h := 5) (by decide) (by decide) ?_
  refine ⟨fun c6 => ?_, fun c6 => ?_⟩
  · replace c6 := bI_z c6
    refine ⟨rfl, rfl, ?_⟩
    exfalso; omega
  · replace c6 := bI_nz c6
    refine ⟨_, rfl, ⟨by omega, by omega⟩, ?_⟩
    generalize hτ1 : wr τ 61 x.toInt.toNat p = τ1
    have g1 : ∀ c, c ≠ 61 → τ1 c = τ c := fun c hc => by rw [← hτ1]; exact wr_c hc
    have g61 : τ1 61 = upd (τ 61) x.toInt.toNat p := by rw [← hτ1]; exact wr_k
    have q45 : (τ1 45 0).toInt = (τ 45 0).toInt := by rw [g1 45 (by decide)]
    refine ⟨_, _, rfl, ⟨by omega, by omega⟩, ?_⟩
    refine ⟨_, _, rfl, ⟨by omega, by omega⟩, ?_⟩
    refine ⟨rfl, 0, 8, 8, ⟨rfl, rw63 (by omega), rw63 (by omega)⟩, ⟨by decide, by decide, by omega, by simp only [Int32.reduceToInt]; omega, by simp only [Int32.reduceToInt]; omega⟩, ?_⟩
    generalize hτ2 : up τ1 (63 + (x + 1).toInt.toNat) (va_cpy (τ1 (63 + x.toInt.toNat)) (τ1 (63 + (x + 1).toInt.toNat)) (0 : Int32).toInt.toNat (0 : Int32).toInt.toNat (τ1 45 0).toInt.toNat) = τ2
    have g2 : ∀ c, c ≠ 63 + (x + 1).toInt.toNat → τ2 c = τ1 c := fun c hc => by rw [← hτ2]; exact up_c hc
    have g2r : ∀ i, i < (τ 45 0).toInt.toNat → τ2 (63 + (x + 1).toInt.toNat) i = τ (63 + x.toInt.toNat) i := fun i hi => by
      have z0 : (Int32.toInt 0).toNat = 0 := rfl
      rw [← hτ2, up_k, z0, pk_cpy_in (Nat.zero_le _) (by rw [q45]; omega), g1 _ (by omega)]
      congr 1
      omega
    refine ⟨_, _, rfl, ⟨by omega, by omega⟩, ?_⟩
    refine ⟨_, rfl, ⟨by omega, by omega⟩, ?_⟩
    generalize hτ3 : wr τ2 70 (x + 1).toInt.toNat (τ2 70 x.toInt.toNat) = τ3
    have g3 : ∀ c, c ≠ 61 → c ≠ 63 + (x + 1).toInt.toNat → c ≠ 70 → τ3 c = τ c := fun c h1 h2 h3 => by rw [← hτ3, wr_c h3, g2 c h2, g1 c h1]
    have g3r : ∀ i, i < (τ 45 0).toInt.toNat → τ3 (63 + (x + 1).toInt.toNat) i = τ (63 + x.toInt.toNat) i := fun i hi => by rw [← hτ3, wr_c (by omega)]; exact g2r i hi
    have g370 : ∀ j, j ≠ (x + 1).toInt.toNat → τ3 70 j = τ 70 j := fun j hj => by rw [← hτ3, wr_i hj, g2 70 (by omega), g1 70 (by decide)]
    have g37 : τ3 70 (x + 1).toInt.toNat = τ 70 x.toInt.toNat := by rw [← hτ3, wr_v, g2 70 (by omega), g1 70 (by decide)]
    have g361 : τ3 61 = upd (τ 61) x.toInt.toNat p := by rw [← hτ3, wr_c (by decide), g2 61 (by omega), g61]
    have f45 : τ3 45 = τ 45 := g3 45 (by decide) (by omega) (by decide)
    have hN3 : 0 ≤ (τ3 45 0).toInt ∧ (τ3 45 0).toInt ≤ 8 := by rw [f45]; exact hN
    have hK : ∀ ρ : Mm, (∀ c, c ≠ 63 + (x + 1).toInt.toNat → c ≠ 70 → ρ c = τ3 c) → (∀ j, j ≠ (x + 1).toInt.toNat → ρ 70 j = τ3 70 j) → ρ 70 (x + 1).toInt.toNat = (wkC (τ3 48) (τ3 49) (τ3 50) (τ3 47) (τ3 45 0).toInt.toNat p.toInt.toNat (τ3 (63 + (x + 1).toInt.toNat), τ3 70 (x + 1).toInt.toNat)).2 → (∀ i, i < (τ3 45 0).toInt.toNat → ρ (63 + (x + 1).toInt.toNat) i = (wkC (τ3 48) (τ3 49) (τ3 50) (τ3 47) (τ3 45 0).toInt.toNat p.toInt.toNat (τ3 (63 + (x + 1).toInt.toNat), τ3 70 (x + 1).toInt.toNat)).1 i) → Q none ρ := by
      intro ρ k1 k2 k3 k4
      have hw := wk_cong (kd := τ3 48) (a := τ3 49) (b := τ3 50) (so := τ3 47) (n := (τ3 45 0).toInt.toNat) (p := p.toInt.toNat) (s := (τ (63 + x.toInt.toNat), τ 70 x.toInt.toNat)) (t := (τ3 (63 + (x + 1).toInt.toNat), τ3 70 (x + 1).toInt.toNat)) (fun i hi => g3r i (by rw [f45] at hi; exact hi)) g37
      rw [hw.2] at k3
      have k4 : ∀ i, i < (τ3 45 0).toInt.toNat → ρ (63 + (x + 1).toInt.toNat) i = _ := fun i hi => (k4 i hi).trans (hw.1 i hi)
      rw [f45, g3 48 (by decide) (by omega) (by decide), g3 49 (by decide) (by omega) (by decide), g3 50 (by decide) (by omega) (by decide), g3 47 (by decide) (by omega) (by decide)] at k3 k4
      rw [eX1] at k2 k3 k4
      refine hQ ρ (fun c h1 h2 h3 => ?_) ?_ (fun j hj => ?_) k3 k4
      · rw [k1 c (by rw [eX1]; exact h2) h3]
        exact g3 c h1 (by rw [eX1]; exact h2) h3
      · rw [k1 61 (by omega) (by decide)]
        exact g361
      · rw [k2 j hj]
        exact g370 j (by rw [eX1]; exact hj)
    refine ⟨_, _, rfl, ⟨by omega, by omega⟩, ?_⟩
    refine ⟨fun c66_0 => ?_, fun c66_0 => ?_⟩
    · refine ⟨rfl, rfl, ?_⟩
      refine s_takePart hN3 hp ⟨by omega, by omega⟩ (fun h97a h97b h97c => ?_)
      refine ⟨rfl, rfl, ?_⟩
      refine hK h97a (fun c h1 h2 => h97b c h1) (fun j hj => by rw [h97b 70 (by omega)]) ?_ (fun i hi => ?_)
      · rw [h97b 70 (by omega), wk_0 c66_0]
      · rw [h97c i hi, wk_0 c66_0]
    refine ⟨fun c66_1 => ?_, fun c66_1 => ?_⟩
    · refine ⟨rfl, rfl, ?_⟩
      refine s_takeOff hN3 hp ⟨by omega, by omega⟩ (fun h108a => ?_) (fun h108a => ?_)
      · refine ⟨rfl, rfl, ?_⟩
        refine hK τ3 (fun c h1 h2 => rfl) (fun j hj => rfl) ?_ (fun i hi => ?_)
        · rw [wk_1 c66_1]; exact (if_pos h108a).symm
        · rw [wk_1 c66_1]
      · refine ⟨rfl, rfl, ?_⟩
        refine hK _ (fun c h1 h2 => wr_c h2) (fun j hj => wr_i hj) ?_ (fun i hi => ?_)
        · rw [wk_1 c66_1]; exact wr_v.trans (if_neg h108a).symm
        · rw [wk_1 c66_1, wr_c (by omega)]
    refine ⟨fun c66_2 => ?_, fun c66_2 => ?_⟩
    · refine ⟨rfl, rfl, ?_⟩
      refine s_takePair hN3 hp ⟨by omega, by omega⟩ (fun h119a => ?_) (fun h119a h119b h119c => ?_)
      · refine ⟨rfl, rfl, ?_⟩
        refine hK τ3 (fun c h1 h2 => rfl) (fun j hj => rfl) ?_ (fun i hi => ?_)
        · rw [wk_2n c66_2 h119a]
        · rw [wk_2n c66_2 h119a]
      · refine ⟨rfl, rfl, ?_⟩
        refine hK _ (fun c h1 h2 => wr_c h1) (fun j hj => by rw [wr_c (by omega)]) ?_ (fun i hi => ?_)
        · rw [wk_2 c66_2 h119b h119c, wr_c (by omega)]
        · rw [wk_2 c66_2 h119b h119c, wr_k]
    refine ⟨rfl, rfl, ?_⟩
    refine s_takeCap hN3 hp ⟨by omega, by omega⟩ (fun h130a => ?_) (fun h130a => ?_)
    · refine ⟨rfl, rfl, ?_⟩
      refine hK τ3 (fun c h1 h2 => rfl) (fun j hj => rfl) ?_ (fun i hi => ?_)
      · rw [wk_3 c66_0 c66_1 c66_2]; exact (if_pos (by omega)).symm
      · rw [wk_3 c66_0 c66_1 c66_2]
    · refine ⟨rfl, rfl, ?_⟩
      refine hK _ (fun c h1 h2 => wr_c h2) (fun j hj => wr_i hj) ?_ (fun i hi => ?_)
      · rw [wk_3 c66_0 c66_1 c66_2]; exact wr_v.trans (if_neg (by omega)).symm
      · rw [wk_3 c66_0 c66_1 c66_2, wr_c (by omega)]
