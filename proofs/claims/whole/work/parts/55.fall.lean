/-- a voucher of a firm that stands and hasn't ended -/
abbrev clF (σ F : Mm) (f d : Int32) (v : Nat) : Prop := (σ 6 v).toInt = f.toInt ∧ ¬ (F 0 v).toInt = 0 ∧ ¬ (lifeF σ (F 1) v).toInt < (d - F 2 v).toInt
def alF (σ F : Mm) (f d : Int32) : Nat → Int64
  | 0 => 0
  | n + 1 => if clF σ F f d n then alF σ F f d n + (F 1 n).toInt64 else alF σ F f d n + 0
def ctC (w : Int32) (c a : Int64) : Int32 := if a.toInt = 0 then 0 else (mml w.toInt64 (c * w.toInt64 / a)).toInt32
def ctN (w : Int32) (c a : Int64) : Int64 := if a.toInt = 0 then 0 else c * w.toInt64 / a
def ctM (w : Int32) (c a : Int64) : Int64 := if w.toInt < (ctN w c a).toInt then w.toInt64 else ctN w c a
def lfF (σ F : Mm) (f d : Int32) (c a : Int64) : Nat → Int64
  | 0 => c
  | n + 1 => if clF σ F f d n then lfF σ F f d c a n - (ctC (F 1 n) c a).toInt64 else lfF σ F f d c a n - 0
def shF (σ F : Mm) (f d : Int32) (c a l : Int64) : Nat → Int32 × Int64
  | 0 => (0, l)
  | n + 1 => if clF σ F f d n then (if (ctC (F 1 n) c a).toInt < (F 1 n).toInt ∧ 0 < (shF σ F f d c a l n).2.toInt then (ctC (F 1 n) c a + 1, (shF σ F f d c a l n).2 - 1) else (ctC (F 1 n) c a, (shF σ F f d c a l n).2)) else (0, (shF σ F f d c a l n).2)
theorem lgc_eq {x y : Int64} : (lg_cmp x y).toInt = 0 ↔ x.toInt = y.toInt := by
  have h := lg_cmp_eq x y
  rw [← Int64.toInt_inj] at h
  have z : (0 : Int32).toInt = 0 := rfl
  constructor
  · intro q
    exact h.mp (iX (by omega))
  · intro q
    rw [h.mpr q]
    rfl
theorem lgc_lt {x y : Int64} : (lg_cmp x y).toInt < 0 ↔ x.toInt < y.toInt := by
  have h := lg_cmp_lt x y
  rw [Int32.lt_iff_toInt_lt, Int64.lt_iff_toInt_lt] at h
  have z : (0 : Int32).toInt = 0 := rfl
  rw [z] at h
  exact h
theorem lgc_g0 {x : Int64} : 0 < (lg_cmp x 0).toInt ↔ 0 < x.toInt := by
  have h := lg_cmp_gt x 0
  rw [Int32.lt_iff_toInt_lt, Int64.lt_iff_toInt_lt] at h
  exact h
theorem ct_rng {w : Int32} {c a : Int64} (hw : 0 ≤ w.toInt ∧ w.toInt ≤ 100000) (hc : 0 ≤ c.toInt ∧ c.toInt ≤ 1000000) (ha : 0 ≤ a.toInt) : 0 ≤ (ctN w c a).toInt := by
  unfold ctN
  split
  · decide
  · have h0 : 0 ≤ c.toInt * w.toInt := Int.mul_nonneg hc.1 hw.1
    have h1 : c.toInt * w.toInt ≤ 1000000 * 100000 := Int.mul_le_mul hc.2 hw.2 hw.1 (by decide)
    have e1 : (c * w.toInt64).toInt = c.toInt * w.toInt := by
      rw [Int64.toInt_mul, l64]
      simp only [Int.bmod]
      omega
    have hne : c * w.toInt64 ≠ Int64.minValue := fun q => by
      rw [← Int64.toInt_inj, e1] at q
      have : Int64.minValue.toInt = -9223372036854775808 := by decide
      omega
    rw [Int64.toInt_div_of_ne_left _ _ hne, e1]
    exact Int.tdiv_nonneg h0 ha
theorem i64_32 {n : Int64} (h : 0 ≤ n.toInt ∧ n.toInt ≤ 100000) : n.toInt32.toInt64 = n := by
  apply Int64.toInt_inj.mp
  rw [l64, Int64.toInt_toInt32]
  simp only [Int.bmod]
  omega
theorem ct_eq {w : Int32} {c a : Int64} (hw : 0 ≤ w.toInt ∧ w.toInt ≤ 100000) (hc : 0 ≤ c.toInt ∧ c.toInt ≤ 1000000) (ha : 0 ≤ a.toInt) : ctM w c a = (ctC w c a).toInt64 := by
  have hn := ct_rng hw hc ha
  have hl := l64 w
  unfold ctM ctC
  by_cases q : a.toInt = 0
  · rw [if_pos q]
    have e : ctN w c a = 0 := if_pos q
    rw [e, if_neg (by show ¬ w.toInt < (0 : Int64).toInt; have : (0 : Int64).toInt = 0 := rfl; omega)]
    rfl
  · rw [if_neg q]
    have e : ctN w c a = c * w.toInt64 / a := if_neg q
    rw [← e]
    unfold mml
    by_cases r : w.toInt < (ctN w c a).toInt
    · rw [if_pos r, if_neg (fun z => by have := Int64.lt_iff_toInt_lt.mp z; omega), Int32.toInt32_toInt64]
    · rw [if_neg r]
      by_cases s : ctN w c a < w.toInt64
      · rw [if_pos s, i64_32 (by omega)]
      · rw [if_neg s, Int32.toInt32_toInt64]
        apply Int64.toInt_inj.mp
        have : ¬ (ctN w c a).toInt < w.toInt64.toInt := fun z => s (Int64.lt_iff_toInt_lt.mpr z)
        omega
theorem ctC_rng {w : Int32} {c a : Int64} (hw : 0 ≤ w.toInt ∧ w.toInt ≤ 100000) (hc : 0 ≤ c.toInt ∧ c.toInt ≤ 1000000) (ha : 0 ≤ a.toInt) : 0 ≤ (ctC w c a).toInt ∧ (ctC w c a).toInt ≤ w.toInt := by
  have h1 := ct_eq hw hc ha
  have h2 := ct_rng hw hc ha
  have h3 : (ctM w c a).toInt = (ctC w c a).toInt := by rw [h1, l64]
  rw [← h3]
  unfold ctM
  have := l64 w
  split <;> omega
theorem al_rng {σ F : Mm} (hR : Rng F) {f d : Int32} : ∀ n, n ≤ 30 → 0 ≤ (alF σ F f d n).toInt ∧ (alF σ F f d n).toInt ≤ 100000 * n
  | 0, _ => by
    show 0 ≤ (0 : Int64).toInt ∧ (0 : Int64).toInt ≤ _
    have : (0 : Int64).toInt = 0 := rfl
    omega
  | n + 1, h => by
    have ih := al_rng (σ := σ) hR (f := f) (d := d) n (by omega)
    have hw := hR n (by omega)
    have hl := l64 (F 1 n)
    unfold alF
    split
    · simp only [Int64.toInt_add, hl, Int.bmod]
      omega
    · rw [Int64.add_zero]
      omega
theorem s_cutShare {d : Nat} {σ : Mm} {Q : Qt} {v : Int32} {c a : Int64} (hv : 0 ≤ v.toInt ∧ v.toInt < 30) (hQ : Q (some (.int (ctC (σ 36 v.toInt.toNat) c a))) σ) : Call (d + 1) k_X8_cutShare [.ref 34, .int v, .long c, .long a] σ Q := by
  refine Call_st 60 fun X hX => ?_
  refine ⟨fun c4 => ?_, fun c4 => ?_⟩
  · refine ⟨rfl, trivial, ?_⟩
    have c4 : a.toInt = 0 := lgc_eq.mp c4
    unfold ctC at hQ
    rw [if_pos c4] at hQ
    exact hQ
  · refine ⟨_, _, rfl, ⟨by omega, by omega⟩, ?_⟩
    refine ⟨_, _, rfl, ⟨by omega, by omega⟩, ?_⟩
    refine ⟨(fun z => c4 (lgc_eq.mpr z)), ?_⟩
    refine ⟨rfl, ?_⟩
    refine ⟨rfl, trivial, ?_⟩
    have c4 : ¬ a.toInt = 0 := fun z => c4 (lgc_eq.mpr z)
    unfold ctC at hQ
    rw [if_neg c4] at hQ
    exact hQ
theorem m_partL {d : Nat} {σ : Mm} {Q : Qt} {v : Int32} {c a : Int64} (hv : 0 ≤ v.toInt ∧ v.toInt < 30) (hQ : Q (some (.long (ctM (σ 107 v.toInt.toNat) c a))) σ) : Call (d + 1) k_X12_part [.ref 88, .int v, .long c, .long a] σ Q := by
  refine Call_st 60 fun X hX => ?_
  refine ⟨fun c4 => ?_, fun c4 => ?_⟩
  · refine ⟨_, _, rfl, ⟨by omega, by omega⟩, ?_⟩
    refine ⟨fun c35 => ?_, fun c35 => ?_⟩
    · refine ⟨_, _, rfl, ⟨by omega, by omega⟩, ?_⟩
      refine ⟨rfl, rfl, ?_⟩
      have en : ctN (σ 107 v.toInt.toNat) c a = 0 := if_pos (lgc_eq.mp c4)
      unfold ctM at hQ
      rw [en] at hQ
      have c35 := lgc_gt c35
      rw [l64] at c35
      rw [if_pos c35] at hQ
      exact hQ
    · refine ⟨rfl, rfl, ?_⟩
      have en : ctN (σ 107 v.toInt.toNat) c a = 0 := if_pos (lgc_eq.mp c4)
      unfold ctM at hQ
      rw [en] at hQ
      have c35 := lgc_le c35
      rw [l64] at c35
      rw [if_neg (by omega)] at hQ
      exact hQ
  · refine ⟨_, _, rfl, ⟨by omega, by omega⟩, ?_⟩
    refine ⟨(fun z => c4 (lgc_eq.mpr z)), ?_⟩
    refine ⟨_, _, rfl, ⟨by omega, by omega⟩, ?_⟩
    refine ⟨fun c35 => ?_, fun c35 => ?_⟩
    · refine ⟨_, _, rfl, ⟨by omega, by omega⟩, ?_⟩
      refine ⟨rfl, rfl, ?_⟩
      have en : ctN (σ 107 v.toInt.toNat) c a = c * (σ 107 v.toInt.toNat).toInt64 / a := if_neg (fun z => c4 (lgc_eq.mpr z))
      unfold ctM at hQ
      rw [en] at hQ
      have c35 := lgc_gt c35
      rw [l64] at c35
      rw [if_pos c35] at hQ
      exact hQ
    · refine ⟨rfl, rfl, ?_⟩
      have en : ctN (σ 107 v.toInt.toNat) c a = c * (σ 107 v.toInt.toNat).toInt64 / a := if_neg (fun z => c4 (lgc_eq.mpr z))
      unfold ctM at hQ
      rw [en] at hQ
      have c35 := lgc_le c35
      rw [l64] at c35
      rw [if_neg (by omega)] at hQ
      exact hQ
theorem s_hasClaim {d : Nat} {σ : Mm} {Q : Qt} {v f y : Int32} {c : Prop} [Decidable c] (hv : 0 ≤ v.toInt ∧ v.toInt < 30) (hL : I_la σ) (hl : 0 ≤ (σ 5 v.toInt.toNat).toInt ∧ (σ 5 v.toInt.toNat).toInt ≤ 2) (hc : ((σ 6 v.toInt.toNat).toInt = f.toInt ∧ ¬ (σ 35 v.toInt.toNat).toInt = 0 ∧ ¬ (lifeF σ (σ 36) v.toInt.toNat).toInt < (y - σ 37 v.toInt.toNat).toInt) ↔ c) (hQ : ∀ τ, Ag [29, 44] σ τ → Q (some (.int (bI c))) τ) : Call (d + 5) k_X8_hasClaim [.ref 34, .int v, .int f, .int y] σ Q := by
  refine Call_st 60 fun X hX => ?_
  refine ⟨_, _, rfl, ⟨by omega, by omega⟩, ?_⟩
  refine ⟨fun c10 => ?_, fun c10 => ?_⟩
  · refine ⟨_, _, rfl, ⟨by omega, by omega⟩, ?_⟩
    refine ⟨fun c19 => ?_, fun c19 => ?_⟩
    · refine ⟨rfl, Or.inl rfl, ?_⟩
      exact bI_f (hQ _ Ag.rf) (fun z => (hc.mpr z).2.1 c19)
    · refine ⟨rfl, rfl, ?_⟩
      refine s_isEnded (by omega) hL hl (fun h25a h25b => ?_)
      refine ⟨fun c28 => ?_, fun c28 => ?_⟩
      · replace c28 := bI_z c28
        refine ⟨rfl, Or.inr rfl, ?_⟩
        exact bI_t (hQ _ h25b) (hc.mp ⟨c10, c19, c28⟩)
      · replace c28 := bI_nz c28
        refine ⟨rfl, Or.inl rfl, ?_⟩
        exact bI_f (hQ _ h25b) (fun z => (hc.mpr z).2.2 c28)
  · refine ⟨rfl, Or.inl rfl, ?_⟩
    exact bI_f (hQ _ Ag.rf) (fun z => c10 (hc.mpr z).1)
theorem m_isOne {d : Nat} {σ : Mm} {Q : Qt} {v f : Int32} {c : Prop} [Decidable c] (hv : 0 ≤ v.toInt ∧ v.toInt < 30) (hL : I_la σ) (hV : I_vo σ) (hl : 0 ≤ (σ 5 v.toInt.toNat).toInt ∧ (σ 5 v.toInt.toNat).toInt ≤ 2) (hc : ((σ 92 v.toInt.toNat).toInt = f.toInt ∧ ¬ (σ 106 v.toInt.toNat).toInt = 0 ∧ ¬ (lifeF σ (σ 107) v.toInt.toNat).toInt < (σ 88 0 - σ 108 v.toInt.toNat).toInt) ↔ c) (hQ : ∀ τ, Ag [117] σ τ → Q (some (.int (bI c))) τ) : Call (d + 6) k_X12_isOne [.ref 88, .int v, .int f] σ Q := by
  refine Call_st 60 fun X hX => ?_
  refine ⟨_, _, rfl, ⟨by omega, by omega⟩, ?_⟩
  refine ⟨fun c7 => ?_, fun c7 => ?_⟩
  · refine ⟨_, _, rfl, ⟨by omega, by omega⟩, ?_⟩
    refine ⟨fun c16 => ?_, fun c16 => ?_⟩
    · refine ⟨rfl, Or.inl rfl, ?_⟩
      exact bI_f (hQ _ Ag.rf) (fun z => (hc.mpr z).2.1 c16)
    · refine ⟨rfl, rfl, ?_⟩
      refine m_isEnded ⟨by omega, by omega⟩ hL hV hl (fun h25a => ?_)
      refine ⟨fun c28 => ?_, fun c28 => ?_⟩
      · replace c28 := bI_z c28
        refine ⟨rfl, Or.inr rfl, ?_⟩
        exact bI_t (hQ _ (Ag.up Ag.rf rfl)) (hc.mp ⟨c7, c16, c28⟩)
      · replace c28 := bI_nz c28
        refine ⟨rfl, Or.inl rfl, ?_⟩
        exact bI_f (hQ _ (Ag.up Ag.rf rfl)) (fun z => (hc.mpr z).2.2 c28)
  · refine ⟨rfl, Or.inl rfl, ?_⟩
    exact bI_f (hQ _ Ag.rf) (fun z => c7 (hc.mpr z).1)
theorem VwM_ag {τ τ' P : Mm} (h : VwM τ P) (hA : Ag [117] τ τ') : VwM τ' P := by
  obtain ⟨h1, h2, h3, h4, h5⟩ := h
  refine ⟨by rw [hA 88 rfl]; exact h1, by rw [hA 106 rfl]; exact h2, by rw [hA 107 rfl]; exact h3, by rw [hA 108 rfl]; exact h4, fun a b ha hb => by rw [hA 109 rfl]; exact h5 a b ha hb⟩
theorem s_claim {d : Nat} {σ τ P F : Mm} {Q : Qt} {f y : Int32} (i : Nat) (hI : Inv σ) (hA : Ag LsP σ τ) (hV : Vw τ P) (hP : Peq P F) (hi : (i : Int) < (σ 3 0).toInt) (hQ : ∀ τ', Ag LsP σ τ' → Vw τ' P → Q (some (.int (bI (clF σ F f y i)))) τ') : Call (d + 5) k_X8_hasClaim [.ref 34, .int (nI i), .int f, .int y] τ Q := by
  obtain ⟨⟨v0, v1, v2, v3, v4, v5, v6⟩, ⟨v7, v8⟩, v9⟩ := id (hI.2.1)
  have e1 := nIt (n := i) (by omega)
  have e2 := nIn (i := i) (by omega)
  have hlv := (v9 i hi).2.1
  obtain ⟨u0, u1, u2⟩ := Vw.v hV hP (i := i) (by omega)
  refine s_hasClaim (c := clF σ F f y i) (by omega) ((Inv_P hI hA).2.2.2.2.2.2.2.2.2.2.1) (by rw [hA 5 rfl, e2]; exact hlv) ?_ (fun τ' h' => hQ τ' (Ag.tr hA (Ag.wk h' rfl)) (Vw.ag hV h'))
  rw [e2, hA 6 rfl, u0, u2, life_ag hA rfl hlv.2 u1]
theorem m_claim {d : Nat} {σ τ P F : Mm} {Q : Qt} {f y : Int32} (i : Nat) (hI : Inv σ) (hA : Ag LsG σ τ) (h8 : ∀ j, j ≠ 26 → τ 88 j = σ 88 j) (hV : VwM τ P) (hP : Peq P F) (hi : (i : Int) < (σ 3 0).toInt) (hy : y = σ 88 0) (hQ : ∀ τ', Ag LsG σ τ' → (∀ j, j ≠ 26 → τ' 88 j = σ 88 j) → VwM τ' P → Q (some (.int (bI (clF σ F f y i)))) τ') : Call (d + 6) k_X12_isOne [.ref 88, .int (nI i), .int f] τ Q := by
  obtain ⟨⟨v0, v1, v2, v3, v4, v5, v6⟩, ⟨v7, v8⟩, v9⟩ := id (hI.2.1)
  have e1 := nIt (n := i) (by omega)
  have e2 := nIn (i := i) (by omega)
  have hlv := (v9 i hi).2.1
  have hIT := Inv_G hI hA h8
  obtain ⟨u0, u1, u2⟩ := VwM.v hV hP (i := i) (by omega)
  refine m_isOne (c := clF σ F f y i) (by omega) (hIT.2.2.2.2.2.2.2.2.2.2.1) (hIT.2.1) (by rw [hA 5 rfl, e2]; exact hlv) ?_ (fun τ' h' => hQ τ' (Ag.tr hA (Ag.wk h' rfl)) (fun j hj => by rw [h' 88 rfl]; exact h8 j hj) (VwM_ag hV h'))
  rw [e2, hA 92 rfl, v3, u0, u2, life_ag hA rfl hlv.2 u1, h8 0 (by decide), hy]
set_option maxHeartbeats 4000000 in
theorem s_shareOf {d : Nat} {σ τ P F : Mm} {Q : Qt} {v co y : Int32} (hI : Inv σ) (hA : Ag LsP σ τ) (hV : Vw τ P) (hP : Peq P F) (hv : 0 ≤ v.toInt ∧ v.toInt < (σ 3 0).toInt) (hQ : ∀ τ', Ag LsP σ τ' → Q (some (.int (shF σ F (σ 6 v.toInt.toNat) y co.toInt64 (alF σ F (σ 6 v.toInt.toNat) y (σ 3 0).toInt.toNat) (lfF σ F (σ 6 v.toInt.toNat) y co.toInt64 (alF σ F (σ 6 v.toInt.toNat) y (σ 3 0).toInt.toNat) (σ 3 0).toInt.toNat) (v.toInt.toNat + 1)).1)) τ') : Call (d + 6) k_X8_shareOf [.ref 34, .int v, .int co, .int y] τ Q := by
  refine Call_go fun X hX => ?_
  obtain ⟨⟨v0, v1, v2, v3, v4, v5, v6⟩, ⟨v7, v8⟩, v9⟩ := id (hI.2.1)
  have loop3 : ∀ (k i : Nat) (τ : Mm), i + k = v.toInt.toNat + 1 → Ag LsP σ τ → Vw τ P → X 127 [.ref 34, .int v, .int co, .int y, .int (σ 6 v.toInt.toNat), .long (alF σ F (σ 6 v.toInt.toNat) y (σ 3 0).toInt.toNat), .null, .long (shF σ F (σ 6 v.toInt.toNat) y co.toInt64 (alF σ F (σ 6 v.toInt.toNat) y (σ 3 0).toInt.toNat) (lfF σ F (σ 6 v.toInt.toNat) y co.toInt64 (alF σ F (σ 6 v.toInt.toNat) y (σ 3 0).toInt.toNat) (σ 3 0).toInt.toNat) i).2, .null, .int (shF σ F (σ 6 v.toInt.toNat) y co.toInt64 (alF σ F (σ 6 v.toInt.toNat) y (σ 3 0).toInt.toNat) (lfF σ F (σ 6 v.toInt.toNat) y co.toInt64 (alF σ F (σ 6 v.toInt.toNat) y (σ 3 0).toInt.toNat) (σ 3 0).toInt.toNat) i).1, .int (nI i)] [] τ := by
    intro k
    induction k with
    | zero =>
      intro i τ hi hA hV
      rw [Nat.add_zero] at hi
      have e1 := nIt (n := i) (by omega)
      have f3 : τ 3 = σ 3 := hA 3 rfl
      have q3 : (τ 3 0).toInt = (σ 3 0).toInt := by rw [f3]
      refine go [127] 100 hX ?_
      refine ⟨fun c130 => ?_, fun c130 => ?_⟩
      · refine ⟨rfl, trivial, ?_⟩
        have eV : v.toInt.toNat + 1 = i := by omega
        rw [eV] at hQ
        exact hQ τ hA
      · exfalso; omega
    | succ k ih =>
      intro i τ hi hA hV
      have e1 := nIt (n := i) (by omega)
      have e2 := nIn (i := i) (by omega)
      have f3 : τ 3 = σ 3 := hA 3 rfl
      have q3 : (τ 3 0).toInt = (σ 3 0).toInt := by rw [f3]
      refine go [127] 100 hX ?_
      refine ⟨fun c130 => ?_, fun c130 => ?_⟩
      · exfalso; omega
      · refine ⟨rfl, rfl, ?_⟩
        refine s_claim (P := P) (F := F) i hI hA hV hP (by omega) (fun h139a h139b h139c => ?_)
        refine ⟨fun c142 => ?_, fun c142 => ?_⟩
        · replace c142 := bI_z c142
          refine ⟨rfl, rfl, ?_⟩
          refine s_claim (P := P) (F := F) i hI h139b h139c hP (by omega) (fun h167a h167b h167c => ?_)
          refine ⟨fun c170 => ?_, fun c170 => ?_⟩
          · replace c170 := bI_z c170
            have ih1 := ih (i + 1) h167a (by omega) h167b h167c
            unfold shF at ih1
            rw [if_neg c142, ← nI_1] at ih1
            exact ih1
          · replace c170 := bI_nz c170
            refine ⟨_, _, rfl, ⟨by omega, by omega⟩, ?_⟩
            refine ⟨fun c182 => ?_, fun c182 => ?_⟩
            · refine ⟨fun c189 => ?_, fun c189 => ?_⟩
              · exact absurd c170 c142
              · exact absurd c170 c142
            · exact absurd c170 c142
        · replace c142 := bI_nz c142
          refine ⟨rfl, rfl, ?_⟩
          refine s_cutShare ⟨by omega, by omega⟩ ?_
          refine ⟨rfl, rfl, ?_⟩
          refine s_claim (P := P) (F := F) i hI h139b h139c hP (by omega) (fun h167a h167b h167c => ?_)
          refine ⟨fun c170 => ?_, fun c170 => ?_⟩
          · replace c170 := bI_z c170
            exact absurd c142 c170
          · replace c170 := bI_nz c170
            refine ⟨_, _, rfl, ⟨by omega, by omega⟩, ?_⟩
            refine ⟨fun c182 => ?_, fun c182 => ?_⟩
            · refine ⟨fun c189 => ?_, fun c189 => ?_⟩
              · have ih1 := ih (i + 1) h167a (by omega) h167b h167c
                unfold shF at ih1
                have u1 : h139a 36 (nI i).toInt.toNat = F 1 i := by rw [e2]; exact (Vw.v h139c hP (i := i) (by omega)).2.1
                have u2 : h167a 36 (nI i).toInt.toNat = F 1 i := by rw [e2]; exact (Vw.v h167c hP (i := i) (by omega)).2.1
                rw [u1, u2] at c182
                have c189 := lgc_g0.mp c189
                rw [if_pos c142, if_pos ⟨c182, c189⟩, ← u1, ← nI_1] at ih1
                exact ih1
              · have ih1 := ih (i + 1) h167a (by omega) h167b h167c
                unfold shF at ih1
                have u1 : h139a 36 (nI i).toInt.toNat = F 1 i := by rw [e2]; exact (Vw.v h139c hP (i := i) (by omega)).2.1
                have u2 : h167a 36 (nI i).toInt.toNat = F 1 i := by rw [e2]; exact (Vw.v h167c hP (i := i) (by omega)).2.1
                rw [u1, u2] at c182
                rw [if_pos c142, if_neg (fun z => c189 (lgc_g0.mpr z.2)), ← u1, ← nI_1] at ih1
                exact ih1
            · have ih1 := ih (i + 1) h167a (by omega) h167b h167c
              unfold shF at ih1
              have u1 : h139a 36 (nI i).toInt.toNat = F 1 i := by rw [e2]; exact (Vw.v h139c hP (i := i) (by omega)).2.1
              have u2 : h167a 36 (nI i).toInt.toNat = F 1 i := by rw [e2]; exact (Vw.v h167c hP (i := i) (by omega)).2.1
              rw [u1, u2] at c182
              rw [if_pos c142, if_neg (fun z => c182 z.1), ← u1, ← nI_1] at ih1
              exact ih1
  have loop2 : ∀ (k i : Nat) (τ : Mm), i + k = (σ 3 0).toInt.toNat → Ag LsP σ τ → Vw τ P → X 71 [.ref 34, .int v, .int co, .int y, .int (σ 6 v.toInt.toNat), .long (alF σ F (σ 6 v.toInt.toNat) y (σ 3 0).toInt.toNat), .null, .long (lfF σ F (σ 6 v.toInt.toNat) y co.toInt64 (alF σ F (σ 6 v.toInt.toNat) y (σ 3 0).toInt.toNat) i), .null, .int (nI i), .null] [] τ := by
    intro k
    induction k with
    | zero =>
      intro i τ hi hA hV
      rw [Nat.add_zero] at hi
      have e1 := nIt (n := i) (by omega)
      have f3 : τ 3 = σ 3 := hA 3 rfl
      have q3 : (τ 3 0).toInt = (σ 3 0).toInt := by rw [f3]
      subst hi
      refine go [71, 127] 100 hX ?_
      refine ⟨fun c80 => ?_, fun c80 => ?_⟩
      · exfalso; omega
      · exact loop3 _ 0 τ (Nat.zero_add _) hA hV
    | succ k ih =>
      intro i τ hi hA hV
      have e1 := nIt (n := i) (by omega)
      have e2 := nIn (i := i) (by omega)
      have f3 : τ 3 = σ 3 := hA 3 rfl
      have q3 : (τ 3 0).toInt = (σ 3 0).toInt := by rw [f3]
      refine go [71, 127] 100 hX ?_
      refine ⟨fun c80 => ?_, fun c80 => ?_⟩
      · refine ⟨rfl, rfl, ?_⟩
        refine s_claim (P := P) (F := F) i hI hA hV hP (by omega) (fun h91a h91b h91c => ?_)
        refine ⟨fun c94 => ?_, fun c94 => ?_⟩
        · replace c94 := bI_z c94
          have ih1 := ih (i + 1) h91a (by omega) h91b h91c
          unfold lfF at ih1
          rw [if_neg c94, ← nI_1] at ih1
          exact ih1
        · replace c94 := bI_nz c94
          refine ⟨rfl, rfl, ?_⟩
          refine s_cutShare ⟨by omega, by omega⟩ ?_
          have ih1 := ih (i + 1) h91a (by omega) h91b h91c
          unfold lfF at ih1
          have u1 : h91a 36 (nI i).toInt.toNat = F 1 i := by rw [e2]; exact (Vw.v h91c hP (i := i) (by omega)).2.1
          rw [if_pos c94, ← u1, ← nI_1] at ih1
          exact ih1
      · exfalso; omega
  have loop1 : ∀ (k i : Nat) (τ : Mm), i + k = (σ 3 0).toInt.toNat → Ag LsP σ τ → Vw τ P → X 17 [.ref 34, .int v, .int co, .int y, .int (σ 6 v.toInt.toNat), .long (alF σ F (σ 6 v.toInt.toNat) y i), .null, .int (nI i), .null, .null, .null] [] τ := by
    intro k
    induction k with
    | zero =>
      intro i τ hi hA hV
      rw [Nat.add_zero] at hi
      have e1 := nIt (n := i) (by omega)
      have f3 : τ 3 = σ 3 := hA 3 rfl
      have q3 : (τ 3 0).toInt = (σ 3 0).toInt := by rw [f3]
      subst hi
      refine go [17, 71] 100 hX ?_
      refine ⟨fun c26 => ?_, fun c26 => ?_⟩
      · exfalso; omega
      · exact loop2 _ 0 τ (Nat.zero_add _) hA hV
    | succ k ih =>
      intro i τ hi hA hV
      have e1 := nIt (n := i) (by omega)
      have e2 := nIn (i := i) (by omega)
      have f3 : τ 3 = σ 3 := hA 3 rfl
      have q3 : (τ 3 0).toInt = (σ 3 0).toInt := by rw [f3]
      refine go [17, 71] 100 hX ?_
      refine ⟨fun c26 => ?_, fun c26 => ?_⟩
      · refine ⟨rfl, rfl, ?_⟩
        refine s_claim (P := P) (F := F) i hI hA hV hP (by omega) (fun h37a h37b h37c => ?_)
        refine ⟨fun c40 => ?_, fun c40 => ?_⟩
        · replace c40 := bI_z c40
          have ih1 := ih (i + 1) h37a (by omega) h37b h37c
          unfold alF at ih1
          rw [if_neg c40, ← nI_1] at ih1
          exact ih1
        · replace c40 := bI_nz c40
          skip
          refine ⟨_, _, rfl, ⟨by omega, by omega⟩, ?_⟩
          have ih1 := ih (i + 1) h37a (by omega) h37b h37c
          unfold alF at ih1
          have u1 : h37a 36 (nI i).toInt.toNat = F 1 i := by rw [e2]; exact (Vw.v h37c hP (i := i) (by omega)).2.1
          rw [if_pos c40, ← u1, ← nI_1] at ih1
          exact ih1
      · exfalso; omega
  refine go [17] 40 hX ?_
  refine ⟨_, _, rfl, ⟨by omega, by omega⟩, ?_⟩
  have h0 := loop1 _ 0 τ (Nat.zero_add _) hA hV
  rw [← hA 6 rfl] at h0
  exact h0
