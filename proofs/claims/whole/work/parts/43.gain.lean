def Rng (P : Mm) : Prop := ∀ i, i < 30 → 0 ≤ (P 1 i).toInt ∧ (P 1 i).toInt ≤ 100000
theorem Rng.w1 {P : Mm} {i : Nat} {x : Int32} (h : Rng P) (hx : 0 ≤ x.toInt ∧ x.toInt ≤ 100000) : Rng (wr P 1 i x) := fun j hj => by
  show 0 ≤ (upd (P 1) i x j).toInt ∧ (upd (P 1) i x j).toInt ≤ 100000
  unfold upd
  split
  · exact hx
  · exact h j hj
theorem Rng.wo {P : Mm} {c i : Nat} {x : Int32} (h : Rng P) (hc : c ≠ 1) : Rng (wr P c i x) := fun j hj => by
  rw [wr_c (fun q => hc q.symm)]
  exact h j hj
theorem addR {a b : Int32} (ha : 0 ≤ a.toInt ∧ a.toInt ≤ 100000) (hb : 0 ≤ b.toInt ∧ b.toInt ≤ 100000) (h : (a + b).toInt ≤ 100000) : 0 ≤ (a + b).toInt ∧ (a + b).toInt ≤ 100000 := by
  refine ⟨?_, h⟩
  simp only [Int32.toInt_add, Int.bmod]
  omega
theorem subR {a b : Int32} (ha : 0 ≤ a.toInt ∧ a.toInt ≤ 100000) (hb : 0 ≤ b.toInt ∧ b.toInt ≤ 100000) (h : ¬ a.toInt < b.toInt) : 0 ≤ (a - b).toInt ∧ (a - b).toInt ≤ 100000 := by
  simp only [Int32.toInt_sub, Int.bmod]
  omega
theorem br_rng {σ P : Mm} (hI : Inv σ) {l : Nat} (hl : (l : Int) < (σ 10 0).toInt) (h : Rng P) : Rng (brF σ P l).1 := by
  obtain ⟨⟨k1, k2, k3, k4, k5⟩, ⟨w1, w2⟩, ws, wo, wl, wb⟩ := lineF hI hl
  have hs := ((hI.2.2.1).2.2.2 l hl).2.2.2.2.2.1
  have h9 := ((hI.2.1).2.2 (σ 12 l).toInt.toNat (by omega)).2.2.2.2.2
  unfold brF
  have hv : (σ 12 l).toInt.toNat < 30 := by omega
  generalize (σ 12 l).toInt.toNat = v at *
  have hw := h v hv
  by_cases q0 : (σ 11 l).toInt = 0
  · rw [bk_0 q0]
    exact Rng.wo (Rng.w1 (Rng.wo h (by decide)) h9) (by decide)
  by_cases d0 : (P 0 v).toInt = 0
  · rw [bk_d q0 d0]
    exact h
  by_cases q1 : ((σ 11 l).toInt = 1 ∨ (σ 11 l).toInt = 3) ∧ ((P 1 v).toInt < (σ 16 l).toInt ∨ (lifeF σ (P 1) v).toInt < (σ 13 l - P 2 v).toInt)
  · rw [bk_n q1.1 d0 q1.2]
    exact h
  by_cases qk : (σ 11 l).toInt = 1
  · have hn : ¬ ((P 1 v).toInt < (σ 16 l).toInt ∨ (lifeF σ (P 1) v).toInt < (σ 13 l - P 2 v).toInt) := fun z => q1 ⟨Or.inl qk, z⟩
    rw [bk_1 qk d0 hn]
    exact Rng.wo (Rng.w1 h (subR hw hs (fun z => hn (Or.inl z)))) (by omega)
  by_cases qk2 : (σ 11 l).toInt = 2
  · by_cases z : (σ 4 v).toInt = 1 ∧ (P 1 v + σ 16 l).toInt ≤ 100000
    · rw [bk_2 qk2 d0 z]
      exact Rng.wo (Rng.w1 h (addR hw hs z.2)) (by decide)
    · rw [bk_2n qk2 d0 z]
      exact h
  by_cases qk3 : (σ 11 l).toInt = 3
  · have hn : ¬ ((P 1 v).toInt < (σ 16 l).toInt ∨ (lifeF σ (P 1) v).toInt < (σ 13 l - P 2 v).toInt) := fun z => q1 ⟨Or.inr qk3, z⟩
    have ho := (wo qk3).1
    have ho2 := h (σ 17 l).toInt.toNat (by omega)
    by_cases z : takP σ P v (σ 17 l).toInt.toNat (σ 16 l)
    · rw [bk_3 qk3 d0 hn z]
      exact Rng.w1 (Rng.w1 h (subR hw hs (fun z => hn (Or.inl z)))) (addR ho2 hs z.2.2)
    · rw [bk_3n qk3 d0 hn z]
      exact h
  by_cases qk4 : (σ 11 l).toInt = 4
  · by_cases z : (P 1 v + σ 16 l).toInt ≤ 100000
    · rw [bk_4 qk4 d0 z]
      exact Rng.wo (Rng.w1 h (addR hw hs z)) (by omega)
    · rw [bk_4n qk4 d0 z]
      exact h
  have qk5 : (σ 11 l).toInt = 5 := by omega
  have z0 : 0 ≤ (0 : Int32).toInt ∧ (0 : Int32).toInt ≤ 100000 := by decide
  rcases wl qk5 with ho | ho
  · rw [bk_5n qk5 d0 (fun z => by omega)]
    exact Rng.w1 (Rng.wo h (by decide)) z0
  · have ho2 := h (σ 17 l).toInt.toNat (by omega)
    by_cases z : 0 ≤ (σ 17 l).toInt ∧ takP σ P v (σ 17 l).toInt.toNat (P 1 v)
    · rw [bk_5 qk5 d0 z]
      exact Rng.w1 (Rng.w1 (Rng.wo h (by decide)) (addR ho2 hw z.2.2.2)) z0
    · rw [bk_5n qk5 d0 z]
      exact Rng.w1 (Rng.wo h (by decide)) z0
theorem plA_rng2 {σ : Mm} (hI : Inv σ) {ok : Nat → Bool} : ∀ n : Nat, (n : Int) ≤ (σ 10 0).toInt → Rng (plA σ (σ 18) ok n)
  | 0, _ => fun i _ => by show 0 ≤ (0 : Int32).toInt ∧ (0 : Int32).toInt ≤ 100000; decide
  | n + 1, h => by
    have o0 : σ 18 = ordA (σ 13) (σ 10 0).toInt.toNat := hI.2.2.2.1
    have l7 := (hI.2.2.1).2.1.2
    have hr := ordA_rng (ab := σ 13) (n := (σ 10 0).toInt.toNat) (by omega) n (by omega)
    rw [← o0] at hr
    have ih := plA_rng2 hI (ok := ok) n (by omega)
    have h1 := br_rng hI (l := (σ 18 n).toInt.toNat) (by omega) ih
    unfold plA
    split
    · unfold stP
      split
      · exact Rng.wo h1 (by decide)
      · exact h1
    · exact ih
theorem Fin_rng {σ : Mm} (hI : Inv σ) {x y : Int32} : Rng (Fin_ σ x y) := by
  have l6 := (hI.2.2.1).2.1.1
  exact plA_rng2 hI _ (by omega)
/-- what a voucher counts as gain -/
def gnF (σ : Mm) (w fr : Nat → Int32) (v : Nat) (y : Int32) : Int32 := if (lifeF σ w v).toInt < (y - fr v).toInt then w v else if (σ 20 (σ 5 v).toInt.toNat).toInt = 0 then 0 else mmx 0 (mmn (w v) (lvF σ (σ 5 v).toInt.toNat 2 (nmO (σ 4) w (σ 8) (σ 9) v (y - fr v))))
def gnS (σ F : Mm) (f y : Int32) : Nat → Int32
  | 0 => 0
  | n + 1 => if (σ 6 n).toInt = f.toInt ∧ ¬ (F 0 n).toInt = 0 then gnS σ F f y n + gnF σ (F 1) (F 2) n y else gnS σ F f y n
theorem gn_ag {σ τ : Mm} {L : List Nat} (hA : Ag L σ τ) (h : ([4, 5, 8, 9, 20, 22, 23, 24, 26, 27, 28] : List Nat).all (fun k => !cu L k) = true) {v : Nat} {w w' fr fr' : Nat → Int32} {y : Int32} (hl : 0 ≤ (σ 5 v).toInt ∧ (σ 5 v).toInt ≤ 2) (hw : w' v = w v) (hf : fr' v = fr v) : gnF τ w' fr' v y = gnF σ w fr v y := by
  have q : ∀ k, ([4, 5, 8, 9, 20, 22, 23, 24, 26, 27, 28] : List Nat).contains k = true → τ k = σ k := fun k hk => hA k (by
    have := List.all_eq_true.mp h k (List.contains_iff_mem.mp hk)
    simpa using this)
  unfold gnF
  rw [life_ag hA h hl.2 hw, hw, hf, q 20 rfl, q 5 rfl, q 4 rfl, q 8 rfl, q 9 rfl, lvF_cong (q 22 rfl) (q 23 rfl) (q 24 rfl) (q 26 rfl) (q 27 rfl) (q 28 rfl) (by omega) (fun i _ => by rw [nmO_w hw rfl])]
theorem s_gainBy {d : Nat} {σ : Mm} {Q : Qt} {v y : Int32} (hv : 0 ≤ v.toInt ∧ v.toInt < 30) (hL : I_la σ) (hl : 0 ≤ (σ 5 v.toInt.toNat).toInt ∧ (σ 5 v.toInt.toNat).toInt ≤ 2) (hQ : ∀ τ, Ag [29, 44] σ τ → Q (some (.int (gnF σ (σ 36) (σ 37) v.toInt.toNat y))) τ) : Call (d + 5) k_X8_gainBy [.ref 34, .int v, .int y] σ Q := by
  refine Call_st 120 fun X hX => ?_
  refine ⟨rfl, rfl, ?_⟩
  refine s_isEnded2 hv hL hl (fun h3a h3b => ?_)
  refine ⟨fun c6 => ?_, fun c6 => ?_⟩
  · replace c6 := bI_z c6
    refine ⟨_, _, rfl, (by refine ⟨?_, ?_⟩ <;> omega), ?_⟩
    refine ⟨_, _, rfl, (show ixs (σ 5 v.toInt.toNat) 3 from ⟨by omega, by omega⟩), ?_⟩
    refine ⟨fun c35 => ?_, fun c35 => ?_⟩
    · refine ⟨rfl, trivial, ?_⟩
      unfold gnF at hQ
      have c35 : (σ 20 (σ 5 v.toInt.toNat).toInt.toNat).toInt = 0 := c35
      rw [if_neg c6, if_pos c35] at hQ
      exact hQ _ (Ag.up (Ag.up Ag.rf rfl) rfl)
    · refine ⟨_, _, rfl, (by refine ⟨?_, ?_⟩ <;> omega), ?_⟩
      refine ⟨rfl, rfl, ?_⟩
      refine s_namesOf hv (fun h56a h56b => ?_)
      refine ⟨rfl, rfl, ?_⟩
      refine s_val 2 (I_la_fr (σ := σ) rfl rfl rfl rfl rfl rfl rfl rfl rfl rfl rfl hL) hl (by decide) c35 (fun h59a => ?_)
      refine ⟨_, _, rfl, (by refine ⟨?_, ?_⟩ <;> omega), ?_⟩
      refine ⟨rfl, ?_⟩
      refine ⟨rfl, ?_⟩
      refine ⟨rfl, trivial, ?_⟩
      unfold gnF at hQ
      have c35 : ¬ (σ 20 (σ 5 v.toInt.toNat).toInt.toNat).toInt = 0 := c35
      rw [if_neg c6, if_neg c35] at hQ
      have e : lvF (up (up (up σ 44 h3b) 29 h3a) 44 h56a) (σ 5 v.toInt.toNat).toInt.toNat 2 h56a = lvF σ (σ 5 v.toInt.toNat).toInt.toNat 2 (nmO (σ 4) (σ 36) (σ 8) (σ 9) v.toInt.toNat (y - σ 37 v.toInt.toNat)) := lvF_cong (σ := σ) (τ := up (up (up σ 44 h3b) 29 h3a) 44 h56a) (l := (σ 5 v.toInt.toNat).toInt.toNat) (N := nmO (σ 4) (σ 36) (σ 8) (σ 9) v.toInt.toNat (y - σ 37 v.toInt.toNat)) rfl rfl rfl rfl rfl rfl (by omega) h56b
      rw [← e] at hQ
      exact hQ _ (Ag.up (Ag.up (Ag.up (Ag.up Ag.rf rfl) rfl) rfl) rfl)
  · replace c6 := bI_nz c6
    refine ⟨_, _, rfl, (by refine ⟨?_, ?_⟩ <;> omega), ?_⟩
    refine ⟨rfl, trivial, ?_⟩
    unfold gnF at hQ
    rw [if_pos c6] at hQ
    exact hQ _ (Ag.up (Ag.up Ag.rf rfl) rfl)
theorem s_gainOf {d : Nat} {σ τ P F : Mm} {Q : Qt} {f x : Int32} (hI : Inv σ) (hA : Ag LsP σ τ) (hV : Vw τ P) (hP : Peq P F) (hQ : ∀ τ', Ag LsP σ τ' → Q (some (.int (gnS σ F f x (σ 3 0).toInt.toNat))) τ') : Call (d + 6) k_X8_gainOf [.ref 34, .int f, .int x] τ Q := by
  refine Call_go fun X hX => ?_
  obtain ⟨⟨v0, v1, v2, v3, v4, v5, v6⟩, ⟨v7, v8⟩, v9⟩ := id (hI.2.1)
  have loop : ∀ (k i : Nat) (τ : Mm), i + k = (σ 3 0).toInt.toNat → Ag LsP σ τ → Vw τ P → X 5 [.ref 34, .int f, .int x, .int (gnS σ F f x i), .int (nI i)] [] τ := by
    intro k
    induction k with
    | zero =>
      intro i τ hi hA hV
      rw [Nat.add_zero] at hi
      rw [hi]
      have e1 := nIt (n := (σ 3 0).toInt.toNat) (by omega)
      have f3 : τ 3 = σ 3 := hA 3 rfl
      refine go [5] 100 hX ?_
      refine ⟨fun c14 => ?_, fun c14 => ?_⟩
      · exfalso; rw [f3] at c14; omega
      · refine ⟨rfl, trivial, ?_⟩
        exact hQ τ hA
    | succ k ih =>
      intro i τ hi hA hV
      have e1 := nIt (n := i) (by omega)
      have e2 := nIn (i := i) (by omega)
      have f3 : τ 3 = σ 3 := hA 3 rfl
      have f6 : τ 6 = σ 6 := hA 6 rfl
      have hIT := Inv_P hI hA
      have hL := hIT.2.2.2.2.2.2.2.2.2.2.1
      have hlv := (v9 i (by omega)).2.1
      have hl : 0 ≤ (τ 5 (nI i).toInt.toNat).toInt ∧ (τ 5 (nI i).toInt.toNat).toInt ≤ 2 := by rw [hA 5 rfl, e2]; exact hlv
      obtain ⟨u0, u1, u2⟩ := Vw.v hV hP (i := i) (by omega)
      have eG : gnF τ (τ 36) (τ 37) (nI i).toInt.toNat x = gnF σ (F 1) (F 2) i x := by rw [e2]; exact gn_ag hA rfl hlv u1 u2
      refine go [5] 100 hX ?_
      refine ⟨fun c14 => ?_, fun c14 => ?_⟩
      · refine ⟨_, _, rfl, ⟨by omega, by omega⟩, ?_⟩
        refine ⟨fun c28 => ?_, fun c28 => ?_⟩
        · refine ⟨_, _, rfl, ⟨by omega, by omega⟩, ?_⟩
          refine ⟨fun c38 => ?_, fun c38 => ?_⟩
          · have ih1 := ih (i + 1) τ (by omega) hA hV
            unfold gnS at ih1
            simp only [f6, e2] at c28
            first
            | rw [if_neg (fun q => c28 q.1)] at ih1
            | (simp only [u0, e2] at c38
               rw [if_neg (fun q => q.2 c38)] at ih1)
            rw [← nI_1] at ih1
            exact ih1
          · refine ⟨rfl, rfl, ?_⟩
            refine s_gainBy ⟨by omega, by omega⟩ hL hl (fun h46a h46b => ?_)
            have ih1 := ih (i + 1) h46a (by omega) (Ag.tr hA (Ag.wk h46b rfl)) (Vw.ag hV h46b)
            unfold gnS at ih1
            simp only [f6, u0, e2] at c28 c38
            rw [if_pos ⟨c28, c38⟩, ← eG, ← nI_1] at ih1
            exact ih1
        · have ih1 := ih (i + 1) τ (by omega) hA hV
          unfold gnS at ih1
          simp only [f6, e2] at c28
          first
          | rw [if_neg (fun q => c28 q.1)] at ih1
          | (simp only [u0, e2] at c38
             rw [if_neg (fun q => q.2 c38)] at ih1)
          rw [← nI_1] at ih1
          exact ih1
      · refine ⟨rfl, trivial, ?_⟩
        exfalso; rw [f3] at c14; omega
  refine go [5] 20 hX ?_
  exact loop _ 0 τ (Nat.zero_add _) hA hV
def gainR (f x y : Int32) (σ : Mm) : Int32 := if (0 ≤ f.toInt ∧ f.toInt < (σ 1 1).toInt) ∧ ((0 ≤ x.toInt ∧ x.toInt ≤ 900) ∧ (0 ≤ y.toInt ∧ y.toInt ≤ 900)) then gnS σ (Fin_ σ x y) f x (σ 3 0).toInt.toNat else -1000000001
set_option maxRecDepth 10000 in
theorem cs_gain {f x y : Int32} (σ : Mm) (Q : Qt) (hI : Inv σ) (hQ : ∀ τ, Ag LsP σ τ → Q (some (.int (gainR f x y σ))) τ) : Call 120 k_X11_gain [.ref 0, .int f, .int x, .int y] σ Q := by
  refine Call_st 200 fun X hX => ?_
  refine ⟨rfl, rfl, ?_⟩
  refine s_hasFirm ?_
  refine ⟨fun c8 => ?_, fun c8 => ?_⟩
  · replace c8 := bI_z c8
    refine ⟨rfl, trivial, ?_⟩
    try simp only [Int32.reduceToInt] at c8
    unfold gainR at hQ
    rw [if_neg (by omega)] at hQ
    exact hQ _ Ag.rf
  · replace c8 := bI_nz c8
    refine ⟨rfl, ?_⟩
    refine s_areDays ?_
    refine ⟨fun c16 => ?_, fun c16 => ?_⟩
    · replace c16 := bI_z c16
      refine ⟨rfl, trivial, ?_⟩
      try simp only [Int32.reduceToInt] at c8 c16
      unfold gainR at hQ
      rw [if_neg (by omega)] at hQ
      exact hQ _ Ag.rf
    · replace c16 := bI_nz c16
      refine ⟨rfl, rfl, ?_⟩
      refine s_play hI (fun h28a h28b h28c h28d h28e => ?_)
      refine ⟨rfl, rfl, ?_⟩
      refine s_gainOf (F := Fin_ σ x y) hI h28c h28d h28e (fun h37a h37b => ?_)
      refine ⟨rfl, trivial, ?_⟩
      try simp only [Int32.reduceToInt] at c8 c16 h28a h28b h28c h28d h28e h37a h37b
      unfold gainR at hQ
      rw [if_pos (by omega)] at hQ
      exact hQ _ h37b
theorem clampE {w e : Int32} (h : 0 ≤ w.toInt) : (e.toInt < 0 → mmx 0 (mmn w e) = 0) ∧ (¬ e.toInt < 0 → w.toInt < e.toInt → mmx 0 (mmn w e) = w) ∧ (¬ e.toInt < 0 → ¬ w.toInt < e.toInt → mmx 0 (mmn w e) = e) := by
  have z : (0 : Int32).toInt = 0 := rfl
  refine ⟨fun q => ?_, fun q r => ?_, fun q r => ?_⟩
  · have e1 : mmn w e = e := if_pos (Int32.lt_iff_toInt_lt.mpr (by omega))
    rw [e1, mmx_le (by omega)]
  · have e1 : mmn w e = w := if_neg (fun s => by have := Int32.lt_iff_toInt_lt.mp s; omega)
    rw [e1]
    by_cases s : 0 < w.toInt
    · rw [mmx_gt (by omega)]
    · rw [mmx_le (by omega)]
      exact iX (by omega)
  · by_cases s : e.toInt < w.toInt
    · have e1 : mmn w e = e := if_pos (Int32.lt_iff_toInt_lt.mpr s)
      rw [e1]
      by_cases s : 0 < e.toInt
      · rw [mmx_gt (by omega)]
      · rw [mmx_le (by omega)]
        exact iX (by omega)
    · have e1 : mmn w e = w := if_neg (fun s => by have := Int32.lt_iff_toInt_lt.mp s; omega)
      have e2 : w = e := iX (by omega)
      rw [e1, e2]
      by_cases s : 0 < e.toInt
      · rw [mmx_gt (by omega)]
      · rw [mmx_le (by omega)]
        exact iX (by omega)
theorem gn_0 {σ : Mm} {w fr : Nat → Int32} {v : Nat} {y : Int32} (h : (w v).toInt = 0) : gnF σ w fr v y = 0 := by
  have e : w v = 0 := iX h
  unfold gnF
  split
  · exact e
  · split
    · rfl
    · have z : (0 : Int32).toInt = 0 := rfl
      obtain ⟨c1, c2, c3⟩ := clampE (w := w v) (e := lvF σ (σ 5 v).toInt.toNat 2 (nmO (σ 4) w (σ 8) (σ 9) v (y - fr v))) (by omega)
      by_cases q : (lvF σ (σ 5 v).toInt.toNat 2 (nmO (σ 4) w (σ 8) (σ 9) v (y - fr v))).toInt < 0
      · exact c1 q
      · by_cases r : (w v).toInt < (lvF σ (σ 5 v).toInt.toNat 2 (nmO (σ 4) w (σ 8) (σ 9) v (y - fr v))).toInt
        · rw [c2 q r, e]
        · rw [c3 q r]
          exact iX (by omega)
