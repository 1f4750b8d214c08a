/-- how all stands for a day, as it was known on a day -/
def Fin_ (σ : Mm) (x y : Int32) : Mm := plA σ (σ 18) (okB σ x y) (σ 10 0).toInt.toNat
theorem plA_eq {σ τ : Mm} (hI : Inv σ) (hA : Ag LsP σ τ) {x y : Int32} : ∀ n : Nat, (n : Int) ≤ (σ 10 0).toInt → plA τ (σ 18) (okB σ x y) n = plA σ (σ 18) (okB σ x y) n
  | 0, _ => rfl
  | n + 1, h => by
    have o0 : σ 18 = ordA (σ 13) (σ 10 0).toInt.toNat := hI.2.2.2.1
    have l7 := (hI.2.2.1).2.1.2
    have hr := ordA_rng (ab := σ 13) (n := (σ 10 0).toInt.toNat) (by omega) n (by omega)
    rw [← o0] at hr
    have hln := lineF hI (l := (σ 18 n).toInt.toNat) (by omega)
    unfold plA stP
    rw [plA_eq hI hA n (by omega), br_sta (StA_ag hA rfl) hln.2.1.1.2]
theorem Fin_eq {σ τ : Mm} (hI : Inv σ) (hA : Ag LsP σ τ) (x y : Int32) : Fin_ τ x y = Fin_ σ x y := by
  have l6 := (hI.2.2.1).2.1.1
  have e : okB τ x y = okB σ x y := by
    funext l
    unfold okB okP
    rw [hA 13 rfl, hA 14 rfl, hA 15 rfl]
  unfold Fin_
  rw [hA 18 rfl, hA 10 rfl, e]
  exact plA_eq hI hA _ (by omega)
theorem op_of {kc km : Nat} {as bs : List Value} {R : Mm → Int32} (hc : ∀ (σ : Mm) (Q : Qt), Inv σ → (∀ τ, Ag LsP σ τ → Q (some (.int (R σ))) τ) → Call 120 kc as σ Q) (hm : ∀ (σ : Mm) (Q : Qt), Inv σ → (∀ τ, Inv τ → Q (some (.int (R σ))) τ) → Call 120 km bs σ Q) (hR : ∀ σ τ, Inv σ → Ag LsP σ τ → R τ = R σ) {σ : Mm} (hI : Inv σ) : Call 120 kc as σ (fun r τ => Call 120 km bs τ (fun r' τ' => (∃ x : Int32, r = some (.int x) ∧ r' = some (.int x)) ∧ Inv τ')) :=
  hc σ _ hI (fun τ hA => hm τ _ (Inv_P hI hA) (fun τ' h' => ⟨⟨R σ, rfl, by rw [hR σ τ hI hA]⟩, h'⟩))
theorem Vw.s {τ P F : Mm} (h : Vw τ P) (e : Peq P F) {a b : Nat} (ha : a < 5) (hb : b < 5) : τ (39 + a) b = F (3 + a) b := by
  rw [h.rd ha]
  exact e.2.2 a b ha hb
theorem Vw.i {τ P F : Mm} (h : Vw τ P) (e : Peq P F) : τ 34 4 = F 8 0 := h.1.trans e.1
theorem Vw.v {τ P F : Mm} (h : Vw τ P) (e : Peq P F) {i : Nat} (hi : i < 30) : τ 35 i = F 0 i ∧ τ 36 i = F 1 i ∧ τ 37 i = F 2 i := by
  rw [h.2.1, h.2.2.1, h.2.2.2.1]
  exact e.2.1 i hi
theorem VwM.s {τ P F : Mm} (h : VwM τ P) (e : Peq P F) {a b : Nat} (ha : a < 5) (hb : b < 5) : τ 109 (5 * b + a) = F (3 + a) b := (h.2.2.2.2 a b ha hb).trans (e.2.2 a b ha hb)
theorem VwM.i {τ P F : Mm} (h : VwM τ P) (e : Peq P F) : τ 88 26 = F 8 0 := h.1.trans e.1
theorem VwM.v {τ P F : Mm} (h : VwM τ P) (e : Peq P F) {i : Nat} (hi : i < 30) : τ 106 i = F 0 i ∧ τ 107 i = F 1 i ∧ τ 108 i = F 2 i := by
  rw [h.2.1, h.2.2.1, h.2.2.2.1]
  exact e.2.1 i hi
def idleR (x y : Int32) (σ : Mm) : Int32 := if ((0 ≤ x.toInt ∧ x.toInt ≤ 900) ∧ (0 ≤ y.toInt ∧ y.toInt ≤ 900)) then Fin_ σ x y 8 0 else -1000000001
set_option maxRecDepth 10000 in
theorem cs_idle {x y : Int32} (σ : Mm) (Q : Qt) (hI : Inv σ) (hQ : ∀ τ, Ag LsP σ τ → Q (some (.int (idleR x y σ))) τ) : Call 120 k_X11_idle [.ref 0, .int x, .int y] σ Q := by
  refine Call_st 200 fun X hX => ?_
  refine ⟨rfl, ?_⟩
  refine s_areDays ?_
  refine ⟨fun c5 => ?_, fun c5 => ?_⟩
  · replace c5 := bI_z c5
    refine ⟨rfl, trivial, ?_⟩
    try simp only [Int32.reduceToInt] at c5
    unfold idleR at hQ
    rw [if_neg (by omega)] at hQ
    exact hQ _ Ag.rf
  · replace c5 := bI_nz c5
    refine ⟨rfl, rfl, ?_⟩
    refine s_play hI (fun h17a h17b h17c h17d h17e => ?_)
    refine ⟨rfl, trivial, ?_⟩
    try simp only [Int32.reduceToInt] at c5 h17a h17b h17c h17d h17e
    unfold idleR at hQ
    rw [if_pos (by omega)] at hQ
    refine Qe (hQ _ h17c) (vI_ ?_) rfl
    exact Vw.i h17d h17e
set_option maxRecDepth 10000 in
theorem ms_idle {x y : Int32} (σ : Mm) (Q : Qt) (hI : Inv σ) (hQ : ∀ τ, Inv τ → Q (some (.int (idleR x y σ))) τ) : Call 120 k_X12_idle [.ref 88, .int x, .int y] σ Q := by
  refine Call_st 200 fun X hX => ?_
  refine ⟨rfl, ?_⟩
  refine m_isDay ?_
  refine ⟨fun c4 => ?_, fun c4 => ?_⟩
  · replace c4 := bI_z c4
    refine ⟨rfl, trivial, ?_⟩
    try simp only [Int32.reduceToInt] at c4
    unfold idleR at hQ
    rw [if_neg (by omega)] at hQ
    exact hQ _ hI
  · replace c4 := bI_nz c4
    refine ⟨rfl, ?_⟩
    refine m_isDay ?_
    refine ⟨fun c11 => ?_, fun c11 => ?_⟩
    · replace c11 := bI_z c11
      refine ⟨rfl, trivial, ?_⟩
      try simp only [Int32.reduceToInt] at c4 c11
      unfold idleR at hQ
      rw [if_neg (by omega)] at hQ
      exact hQ _ hI
    · replace c11 := bI_nz c11
      refine ⟨rfl, rfl, ?_⟩
      refine m_goThrough hI (by omega) (fun h20a h20b h20c h20d h20e h20f => ?_)
      refine ⟨rfl, trivial, ?_⟩
      try simp only [Int32.reduceToInt] at c4 c11 h20a h20b h20c h20d h20e h20f
      unfold idleR at hQ
      rw [if_pos (by omega)] at hQ
      refine Qe (hQ _ (Inv_G hI h20c h20d)) (vI_ ?_) rfl
      exact VwM.i h20e h20f
theorem op_idle {σ : Mm} {x y : Int32} (hI : Inv σ) : Call 120 k_X11_idle [.ref 0, .int x, .int y] σ (fun r τ => Call 120 k_X12_idle [.ref 88, .int x, .int y] τ (fun r' τ' => (∃ x : Int32, r = some (.int x) ∧ r' = some (.int x)) ∧ Inv τ')) :=
  op_of (R := idleR x y) cs_idle ms_idle (fun σ τ hI hA => by unfold idleR; rw [Fin_eq hI hA]) hI
def owesR (a b x y : Int32) (σ : Mm) : Int32 := if ((0 ≤ a.toInt ∧ a.toInt < (σ 1 1).toInt) ∧ (0 ≤ b.toInt ∧ b.toInt < (σ 1 1).toInt)) ∧ ((0 ≤ x.toInt ∧ x.toInt ≤ 900) ∧ (0 ≤ y.toInt ∧ y.toInt ≤ 900)) then Fin_ σ x y (3 + b.toInt.toNat) a.toInt.toNat - Fin_ σ x y (3 + a.toInt.toNat) b.toInt.toNat else -1000000001
theorem i5 {a b : Int32} (ha : 0 ≤ a.toInt ∧ a.toInt < 5) (hb : 0 ≤ b.toInt ∧ b.toInt < 5) : (5 * a + b).toInt.toNat = 5 * a.toInt.toNat + b.toInt.toNat := by
  rw [ix5 ha hb]
  omega
theorem i5x {a b : Int32} (ha : 0 ≤ a.toInt ∧ a.toInt < 5) (hb : 0 ≤ b.toInt ∧ b.toInt < 5) : ixs (5 * a + b) 25 := by
  unfold ixs
  rw [ix5 ha hb]
  omega
set_option maxRecDepth 10000 in
theorem cs_owes {a b x y : Int32} (σ : Mm) (Q : Qt) (hI : Inv σ) (hQ : ∀ τ, Ag LsP σ τ → Q (some (.int (owesR a b x y σ))) τ) : Call 120 k_X11_owes [.ref 0, .int a, .int b, .int x, .int y] σ Q := by
  obtain ⟨⟨t0, t1, t2, t3⟩, ⟨t4, t5⟩, ⟨t6, t7⟩, ⟨t8, t9⟩, t10⟩ := id (hI.1)
  refine Call_st 200 fun X hX => ?_
  refine ⟨rfl, rfl, ?_⟩
  refine s_hasFirm ?_
  refine ⟨fun c8 => ?_, fun c8 => ?_⟩
  · replace c8 := bI_z c8
    refine ⟨rfl, trivial, ?_⟩
    try simp only [Int32.reduceToInt] at c8
    unfold owesR at hQ
    rw [if_neg (by omega)] at hQ
    exact hQ _ Ag.rf
  · replace c8 := bI_nz c8
    refine ⟨rfl, rfl, ?_⟩
    refine s_hasFirm ?_
    refine ⟨fun c19 => ?_, fun c19 => ?_⟩
    · replace c19 := bI_z c19
      refine ⟨rfl, trivial, ?_⟩
      try simp only [Int32.reduceToInt] at c8 c19
      unfold owesR at hQ
      rw [if_neg (by omega)] at hQ
      exact hQ _ Ag.rf
    · replace c19 := bI_nz c19
      refine ⟨rfl, ?_⟩
      refine s_areDays ?_
      refine ⟨fun c28 => ?_, fun c28 => ?_⟩
      · replace c28 := bI_z c28
        refine ⟨rfl, trivial, ?_⟩
        try simp only [Int32.reduceToInt] at c8 c19 c28
        unfold owesR at hQ
        rw [if_neg (by omega)] at hQ
        exact hQ _ Ag.rf
      · replace c28 := bI_nz c28
        refine ⟨rfl, rfl, ?_⟩
        refine s_play hI (fun h41a h41b h41c h41d h41e => ?_)
        refine ⟨_, _, rfl, (by refine ⟨?_, ?_⟩ <;> omega), ?_⟩
        refine ⟨_, _, rdI_row (rw39 (by omega)), (by refine ⟨?_, ?_⟩ <;> omega), ?_⟩
        refine ⟨_, _, rfl, (by refine ⟨?_, ?_⟩ <;> omega), ?_⟩
        refine ⟨_, _, rdI_row (rw39 (by omega)), (by refine ⟨?_, ?_⟩ <;> omega), ?_⟩
        refine ⟨rfl, trivial, ?_⟩
        try simp only [Int32.reduceToInt] at c8 c19 c28 h41a h41b h41c h41d h41e
        unfold owesR at hQ
        rw [if_pos (by omega)] at hQ
        refine Qe (hQ _ h41c) (vI_ ?_) rfl
        rw [Vw.s h41d h41e (by omega) (by omega), Vw.s h41d h41e (by omega) (by omega)]
        rfl
set_option maxRecDepth 10000 in
theorem ms_owes {a b x y : Int32} (σ : Mm) (Q : Qt) (hI : Inv σ) (hQ : ∀ τ, Inv τ → Q (some (.int (owesR a b x y σ))) τ) : Call 120 k_X12_owes [.ref 88, .int a, .int b, .int x, .int y] σ Q := by
  obtain ⟨⟨t0, t1, t2, t3⟩, ⟨t4, t5⟩, ⟨t6, t7⟩, ⟨t8, t9⟩, t10⟩ := id (hI.1)
  have qfirms : (σ 88 1).toInt = (σ 1 1).toInt := by rw [t1]
  refine Call_st 200 fun X hX => ?_
  refine ⟨rfl, rfl, ?_⟩
  refine m_isFirm (by omega) ?_
  refine ⟨fun c5 => ?_, fun c5 => ?_⟩
  · replace c5 := bI_z c5
    refine ⟨rfl, trivial, ?_⟩
    try simp only [Int32.reduceToInt] at c5
    unfold owesR at hQ
    rw [if_neg (by omega)] at hQ
    exact hQ _ hI
  · replace c5 := bI_nz c5
    refine ⟨rfl, rfl, ?_⟩
    refine m_isFirm (by omega) ?_
    refine ⟨fun c13 => ?_, fun c13 => ?_⟩
    · replace c13 := bI_z c13
      refine ⟨rfl, trivial, ?_⟩
      try simp only [Int32.reduceToInt] at c5 c13
      unfold owesR at hQ
      rw [if_neg (by omega)] at hQ
      exact hQ _ hI
    · replace c13 := bI_nz c13
      refine ⟨rfl, ?_⟩
      refine m_isDay ?_
      refine ⟨fun c20 => ?_, fun c20 => ?_⟩
      · replace c20 := bI_z c20
        refine ⟨rfl, trivial, ?_⟩
        try simp only [Int32.reduceToInt] at c5 c13 c20
        unfold owesR at hQ
        rw [if_neg (by omega)] at hQ
        exact hQ _ hI
      · replace c20 := bI_nz c20
        refine ⟨rfl, ?_⟩
        refine m_isDay ?_
        refine ⟨fun c28 => ?_, fun c28 => ?_⟩
        · replace c28 := bI_z c28
          refine ⟨rfl, trivial, ?_⟩
          try simp only [Int32.reduceToInt] at c5 c13 c20 c28
          unfold owesR at hQ
          rw [if_neg (by omega)] at hQ
          exact hQ _ hI
        · replace c28 := bI_nz c28
          refine ⟨rfl, rfl, ?_⟩
          refine m_goThrough hI (by omega) (fun h38a h38b h38c h38d h38e h38f => ?_)
          refine ⟨_, _, rfl, (i5x (by omega) (by omega)), ?_⟩
          refine ⟨_, _, rfl, (i5x (by omega) (by omega)), ?_⟩
          refine ⟨rfl, trivial, ?_⟩
          try simp only [Int32.reduceToInt] at c5 c13 c20 c28 h38a h38b h38c h38d h38e h38f
          unfold owesR at hQ
          rw [if_pos (by omega)] at hQ
          refine Qe (hQ _ (Inv_G hI h38c h38d)) (vI_ ?_) rfl
          rw [i5 (a := a) (b := b) (by omega) (by omega), i5 (a := b) (b := a) (by omega) (by omega), VwM.s h38e h38f (by omega) (by omega), VwM.s h38e h38f (by omega) (by omega)]
          rfl
theorem op_owes {σ : Mm} {a b x y : Int32} (hI : Inv σ) : Call 120 k_X11_owes [.ref 0, .int a, .int b, .int x, .int y] σ (fun r τ => Call 120 k_X12_owes [.ref 88, .int a, .int b, .int x, .int y] τ (fun r' τ' => (∃ x : Int32, r = some (.int x) ∧ r' = some (.int x)) ∧ Inv τ')) :=
  op_of (R := owesR a b x y) cs_owes ms_owes (fun σ τ hI hA => by unfold owesR; rw [Fin_eq hI hA, hA 1 rfl]) hI
