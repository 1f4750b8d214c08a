theorem ag_eq1 {c : Nat} {σ τ : Mm} (h : Ag [c] σ τ) : τ = up σ c (τ c) := by
  funext j
  unfold up
  by_cases q : j = c
  · rw [if_pos q, q]
  · rw [if_neg q]
    refine h j ?_
    unfold cu cu
    rw [Bool.or_false]
    cases h1 : Nat.beq j c with
    | true => exact absurd (Nat.eq_of_beq_eq_true h1) q
    | false => rfl
theorem m_life2 {d : Nat} {σ : Mm} {Q : Qt} {v : Int32} (hv : 0 ≤ v.toInt ∧ v.toInt < 30) (hL : I_la σ) (hV : I_vo σ) (hl : 0 ≤ (σ 5 v.toInt.toNat).toInt ∧ (σ 5 v.toInt.toNat).toInt ≤ 2) (hQ : ∀ g, Q (some (.int (lifeF σ (σ 107) v.toInt.toNat))) (up σ 117 g)) : Call (d + 4) k_X12_lifeOf [.ref 88, .int v] σ Q :=
  m_lifeOf hv hL hV hl (fun τ hτ => by rw [ag_eq1 hτ]; exact hQ _)
/-- the reference's cells hold a standing -/
def VwM (τ P : Mm) : Prop := τ 88 26 = P 8 0 ∧ τ 106 = P 0 ∧ τ 107 = P 1 ∧ τ 108 = P 2 ∧ ∀ a b : Nat, a < 5 → b < 5 → τ 109 (5 * b + a) = P (3 + a) b
def LsM : List Nat := [106, 107, 108, 109, 117]
theorem VwMU {σ P : Mm} (h : VwM σ P) {g : Nat → Int32} : VwM (up σ 117 g) P := h
theorem agM {σ : Mm} {g : Nat → Int32} : Ag LsM σ (up σ 117 g) := Ag.up Ag.rf rfl
theorem VwM.w0 {τ P : Mm} {i : Nat} {x : Int32} (h : VwM τ P) : VwM (wr τ 106 i x) (wr P 0 i x) := by
  obtain ⟨h1, h2, h3, h4, h5⟩ := h
  refine ⟨h1, congrArg (fun f => upd f i x) h2, h3, h4, fun a b ha hb => ?_⟩
  rw [wr_c (show (3 + a : Nat) ≠ 0 by omega)]
  exact h5 a b ha hb
theorem VwM.w1 {τ P : Mm} {i : Nat} {x : Int32} (h : VwM τ P) : VwM (wr τ 107 i x) (wr P 1 i x) := by
  obtain ⟨h1, h2, h3, h4, h5⟩ := h
  refine ⟨h1, h2, congrArg (fun f => upd f i x) h3, h4, fun a b ha hb => ?_⟩
  rw [wr_c (show (3 + a : Nat) ≠ 1 by omega)]
  exact h5 a b ha hb
theorem VwM.w2 {τ P : Mm} {i : Nat} {x : Int32} (h : VwM τ P) : VwM (wr τ 108 i x) (wr P 2 i x) := by
  obtain ⟨h1, h2, h3, h4, h5⟩ := h
  refine ⟨h1, h2, h3, congrArg (fun f => upd f i x) h4, fun a b ha hb => ?_⟩
  rw [wr_c (show (3 + a : Nat) ≠ 2 by omega)]
  exact h5 a b ha hb
theorem VwM.ws {τ P : Mm} {i a b : Nat} {x y : Int32} (h : VwM τ P) (ha : a < 5) (hb : b < 5) (hi : i = 5 * b + a) (hx : x = P (3 + a) b + y) : VwM (wr τ 109 i x) (wr P (3 + a) b (P (3 + a) b + y)) := by
  obtain ⟨h1, h2, h3, h4, h5⟩ := h
  subst hi
  subst hx
  have n8 : (8 : Nat) ≠ 3 + a := by omega
  have n0 : (0 : Nat) ≠ 3 + a := by omega
  have n1 : (1 : Nat) ≠ 3 + a := by omega
  have n2 : (2 : Nat) ≠ 3 + a := by omega
  refine ⟨by rw [wr_c n8]; exact h1, by rw [wr_c n0]; exact h2, by rw [wr_c n1]; exact h3, by rw [wr_c n2]; exact h4, fun a' b' ha' hb' => ?_⟩
  by_cases q : a' = a
  · subst q
    by_cases q2 : b' = b
    · subst q2
      rw [wr_v, wr_v]
    · rw [wr_i (by omega), wr_i q2]
      exact h5 _ _ ha' hb'
  · rw [wr_i (by omega), wr_c (by omega)]
    exact h5 _ _ ha' hb'
theorem wr_same {σ : Mm} {k i : Nat} {x : Int32} (h : x = σ k i) : wr σ k i x = σ := by
  funext j
  unfold wr up
  by_cases q : j = k
  · rw [if_pos q, q]
    funext n
    unfold upd
    by_cases q2 : n = i
    · rw [if_pos q2, q2, h]
    · rw [if_neg q2]
  · rw [if_neg q]
theorem wr_comm {σ : Mm} {k i j : Nat} {x y : Int32} (h : i ≠ j) : wr (wr σ k i x) k j y = wr (wr σ k j y) k i x := by
  simp only [wr, up_up]
  congr 1
  funext n
  simp only [up_k, upd]
  by_cases q : n = i
  · rw [if_neg (by omega), if_pos q, if_pos q]
  · rw [if_neg q, if_neg q]
theorem ix5 {x y : Int32} (hx : 0 ≤ x.toInt ∧ x.toInt < 5) (hy : 0 ≤ y.toInt ∧ y.toInt < 5) : (5 * x + y).toInt = 5 * x.toInt + y.toInt := by
  simp only [Int32.toInt_add, Int32.toInt_mul, Int32.reduceToInt, Int.bmod]
  omega
theorem m_isEnded {d : Nat} {σ : Mm} {Q : Qt} {v y : Int32} (hv : 0 ≤ v.toInt ∧ v.toInt < 30) (hL : I_la σ) (hV : I_vo σ) (hl : 0 ≤ (σ 5 v.toInt.toNat).toInt ∧ (σ 5 v.toInt.toNat).toInt ≤ 2) (hQ : ∀ g, Q (some (.int (bI ((lifeF σ (σ 107) v.toInt.toNat).toInt < (y - σ 108 v.toInt.toNat).toInt)))) (up σ 117 g)) : Call (d + 5) k_X12_isEnded [.ref 88, .int v, .int y] σ Q := by
  refine Call_st 120 fun X hX => ?_
  refine ⟨_, _, rfl, (by refine ⟨?_, ?_⟩ <;> omega), ?_⟩
  refine ⟨rfl, rfl, ?_⟩
  refine m_life2 (by omega) hL hV hl (fun h10a => ?_)
  refine ⟨fun c13 => ?_, fun c13 => ?_⟩
  · refine ⟨rfl, Or.inr rfl, ?_⟩
    first | exact bI_t (hQ _) (by assumption) | exact bI_f (hQ _) (by assumption)
  · refine ⟨rfl, Or.inl rfl, ?_⟩
    first | exact bI_t (hQ _) (by assumption) | exact bI_f (hQ _) (by assumption)
theorem m_gets {d : Nat} {σ : Mm} {Q : Qt} {v s : Int32} (hv : ixs v 30) (hF : ¬ (¬ (σ 106 v.toInt.toNat).toInt = 0 ∧ (σ 107 v.toInt.toNat + s).toInt ≤ 100000) → Q (some (.int 0)) σ) (hS : (¬ (σ 106 v.toInt.toNat).toInt = 0 ∧ (σ 107 v.toInt.toNat + s).toInt ≤ 100000) → Q (some (.int 1)) (wr σ 107 v.toInt.toNat (σ 107 v.toInt.toNat + s))) : Call (d + 1) k_X12_gets [.ref 88, .int v, .int s] σ Q := by
  refine Call_st 120 fun X hX => ?_
  refine ⟨_, _, rfl, hv, ?_⟩
  refine ⟨fun c6 => ?_, fun c6 => ?_⟩
  · refine ⟨rfl, Or.inl rfl, ?_⟩
    try simp only [Int32.reduceToInt] at c6
    first | exact hF (by omega) | exact hS (by omega)
  · refine ⟨_, _, rfl, hv, ?_⟩
    refine ⟨fun c19 => ?_, fun c19 => ?_⟩
    · refine ⟨rfl, Or.inl rfl, ?_⟩
      try simp only [Int32.reduceToInt] at c6 c19
      first | exact hF (by omega) | exact hS (by omega)
    · refine ⟨_, _, rfl, hv, ?_⟩
      refine ⟨_, rfl, hv, ?_⟩
      refine ⟨rfl, Or.inr rfl, ?_⟩
      try simp only [Int32.reduceToInt] at c6 c19
      first | exact hF (by omega) | exact hS (by omega)
set_option maxRecDepth 10000 in
theorem m_brings {d : Nat} {σ : Mm} {Q : Qt} {l : Int32} {P : Mm} (hI : Inv σ) (hP : VwM σ P) (hl : 0 ≤ l.toInt ∧ l.toInt < (σ 10 0).toInt) (hQ : ∀ τ, Ag LsM σ τ → VwM τ (brF σ P l.toInt.toNat).1 → Q (some (.int (brF σ P l.toInt.toNat).2)) τ) : Call (d + 6) k_X12_brings [.ref 88, .int l] σ Q := by
  have hL := hI.2.2.2.2.2.2.2.2.2.2.1
  have hVo := hI.2.1
  obtain ⟨⟨k1, k2, k3, k4, k5⟩, ⟨w1, w2⟩, ws, wo, wl, wb⟩ := lineF hI (l := l.toInt.toNat) (by omega)
  obtain ⟨⟨t0, t1, t2, t3⟩, ⟨t4, t5⟩, ⟨t6, t7⟩, ⟨t8, t9⟩, t10⟩ := id (hI.1)
  obtain ⟨⟨v0, v1, v2, v3, v4, v5, v6⟩, ⟨v7, v8⟩, v9⟩ := id (hI.2.1)
  obtain ⟨⟨l0, l1, l2, l3, l4, l5⟩, ⟨l6, l7⟩, l8, l9⟩ := id (hI.2.2.1)
  obtain ⟨p1, p2, p3, p4, p5⟩ := id hP
  have u96 : ∀ g, up σ 117 g 96 = σ 96 := fun _ => rfl
  have u92 : ∀ g, up σ 117 g 92 = σ 92 := fun _ => rfl
  have u107 : ∀ g, up σ 117 g 107 = σ 107 := fun _ => rfl
  have e96 : (σ 96 l.toInt.toNat).toInt = (σ 11 l.toInt.toNat).toInt := by rw [l1]
  have hv30 : ixs (σ 12 l.toInt.toNat) 30 := ⟨k2.1, by omega⟩
  have hw1 : ((σ 11 l.toInt.toNat).toInt = 1 ∨ (σ 11 l.toInt.toNat).toInt = 4) → ixs (σ 102 l.toInt.toNat) 10 := fun q => by rw [(ws q).2.2]; have := (ws q).1; exact ⟨by omega, by omega⟩
  have hw3 : (σ 11 l.toInt.toNat).toInt = 3 → ixs (σ 102 l.toInt.toNat) 30 := fun q => by rw [(wo q).2.2]; have := (wo q).1; exact ⟨by omega, by omega⟩
  have hw5 : (σ 11 l.toInt.toNat).toInt = 5 → ¬ (σ 102 l.toInt.toNat).toInt < 0 → ixs (σ 102 l.toInt.toNat) 30 := fun q q2 => by
    rcases wl q with z | z
    · omega
    · rw [z.2.2]; exact ⟨by omega, by omega⟩
  have hx0 : ((σ 11 l.toInt.toNat).toInt = 1 ∨ (σ 11 l.toInt.toNat).toInt = 4) → (5 * σ 92 (σ 12 l.toInt.toNat).toInt.toNat + σ 89 (σ 102 l.toInt.toNat).toInt.toNat).toInt = 5 * (σ 6 (σ 12 l.toInt.toNat).toInt.toNat).toInt + (σ 2 (σ 17 l.toInt.toNat).toInt.toNat).toInt := fun q => by
    rw [(ws q).2.2, v3, t3, ix5 w2 (ws q).2.1]
  have hx25 : ((σ 11 l.toInt.toNat).toInt = 1 ∨ (σ 11 l.toInt.toNat).toInt = 4) → ixs (5 * σ 92 (σ 12 l.toInt.toNat).toInt.toNat + σ 89 (σ 102 l.toInt.toNat).toInt.toNat) 25 := fun q => by
    have h1 := hx0 q
    have h2 := (ws q).2.1
    exact ⟨by omega, by omega⟩
  have hx5 : ((σ 11 l.toInt.toNat).toInt = 1 ∨ (σ 11 l.toInt.toNat).toInt = 4) → (5 * σ 92 (σ 12 l.toInt.toNat).toInt.toNat + σ 89 (σ 102 l.toInt.toNat).toInt.toNat).toInt.toNat = 5 * (σ 6 (σ 12 l.toInt.toNat).toInt.toNat).toInt.toNat + (σ 2 (σ 17 l.toInt.toNat).toInt.toNat).toInt.toNat := fun q => by
    have h1 := hx0 q
    have h2 := (ws q).2.1
    omega
  refine Call_st 200 fun X hX => ?_
  refine ⟨_, _, rfl, (by refine ⟨?_, ?_⟩ <;> omega), ?_⟩
  refine ⟨_, _, rfl, (by refine ⟨?_, ?_⟩ <;> omega), ?_⟩
  refine ⟨_, _, rfl, (by refine ⟨?_, ?_⟩ <;> omega), ?_⟩
  refine ⟨_, _, rfl, (by refine ⟨?_, ?_⟩ <;> omega), ?_⟩
  rw [l2, l3, l5]
  refine ⟨_, _, rfl, (by refine ⟨?_, ?_⟩ <;> omega), ?_⟩
  refine ⟨fun c36 => ?_, fun c36 => ?_⟩
  · refine ⟨hv30, Or.inr rfl, ?_⟩
    refine ⟨_, rfl, hv30, ?_⟩
    refine ⟨_, rfl, hv30, ?_⟩
    refine ⟨rfl, Or.inr rfl, ?_⟩
    first
    | (exfalso; (try simp only [Int32.reduceToInt, l1, u96, u107, u92] at c36); omega)
    | (unfold brF at hQ
       try simp only [Int32.reduceToInt, l1, u96, u107, u92] at c36
       rw [bk_0 (by omega)] at hQ
       rw [← wb (by omega)] at hQ
       exact hQ _ (Ag.wr (Ag.wr (Ag.wr Ag.rf rfl) rfl) rfl) (VwM.w2 (VwM.w1 (VwM.w0 hP))))
  · refine ⟨_, _, rfl, hv30, ?_⟩
    refine ⟨fun c69 => ?_, fun c69 => ?_⟩
    · refine ⟨rfl, Or.inl rfl, ?_⟩
      first
      | (exfalso; (try simp only [Int32.reduceToInt, l1, u96, u107, u92] at c36 c69); omega)
      | (unfold brF at hQ
         try simp only [Int32.reduceToInt, l1, u96, u107, u92] at c36 c69
         rw [bk_d (by omega) (by rw [← p2]; omega)] at hQ
         exact hQ _ Ag.rf hP)
    · refine ⟨_, _, rfl, (by refine ⟨?_, ?_⟩ <;> omega), ?_⟩
      refine ⟨fun c81 => ?_, fun c81 => ?_⟩
      · refine ⟨rfl, rfl, ?_⟩
        refine m_isEnded ⟨k2.1, by omega⟩ hL hVo w1 (fun h98a => ?_)
        refine ⟨fun c101 => ?_, fun c101 => ?_⟩
        · replace c101 := bI_z c101
          refine ⟨_, _, rfl, hv30, ?_⟩
          refine ⟨fun c111 => ?_, fun c111 => ?_⟩
          · refine ⟨rfl, Or.inl rfl, ?_⟩
            first
            | (exfalso; (try simp only [Int32.reduceToInt, l1, u96, u107, u92] at c36 c69 c81 h98a c101 c111); omega)
            | (unfold brF at hQ
               try simp only [Int32.reduceToInt, l1, u96, u107, u92] at c36 c69 c81 h98a c101 c111
               rw [bk_n (by omega) (by rw [← p2]; omega) (by rw [← p3, ← p4]; omega)] at hQ
               exact hQ _ agM (VwMU hP))
          · refine ⟨_, _, rfl, (by refine ⟨?_, ?_⟩ <;> omega), ?_⟩
            refine ⟨fun c125_0 => ?_, fun c125_0 => ?_⟩
            · try simp only [Int32.reduceToInt, l1, u96, u107, u92] at c36 c69 c81 h98a c101 c111 c125_0
              refine ⟨_, _, rfl, hv30, ?_⟩
              refine ⟨_, rfl, hv30, ?_⟩
              refine ⟨_, _, rfl, hv30, ?_⟩
              refine ⟨_, _, rfl, (hw1 (by omega)), ?_⟩
              refine ⟨_, _, rfl, (hx25 (by omega)), ?_⟩
              refine ⟨_, rfl, (hx25 (by omega)), ?_⟩
              refine ⟨rfl, Or.inr rfl, ?_⟩
              first
              | (exfalso; (try simp only [Int32.reduceToInt, l1, u96, u107, u92] at c36 c69 c81 h98a c101 c111 c125_0); omega)
              | (unfold brF at hQ
                 try simp only [Int32.reduceToInt, l1, u96, u107, u92] at c36 c69 c81 h98a c101 c111 c125_0
                 rw [bk_1 (by assumption) (by rw [← p2]; omega) (by rw [← p3, ← p4]; omega)] at hQ
                 have hF0 := (ws (by omega)).2.1
                 have hix := hx5 (by omega)
                 rw [← p3] at hQ
                 refine hQ _ (Ag.wr (Ag.wr agM rfl) rfl) (VwM.ws (VwM.w1 (VwMU hP)) (by omega) (by omega) hix ?_)
                 show σ 109 (5 * σ 92 (σ 12 l.toInt.toNat).toInt.toNat + σ 89 (σ 102 l.toInt.toNat).toInt.toNat).toInt.toNat + (σ 16 l.toInt.toNat) = _
                 rw [hix, p5 _ _ (by omega) (by omega), wr_c (show (3 + (σ 2 (σ 17 l.toInt.toNat).toInt.toNat).toInt.toNat : Nat) ≠ 1 by omega)])
            refine ⟨fun c125_1 => ?_, fun c125_1 => ?_⟩
            · try simp only [Int32.reduceToInt, l1, u96, u107, u92] at c36 c69 c81 h98a c101 c111 c125_0 c125_1
              refine ⟨_, _, rfl, hv30, ?_⟩
              refine ⟨fun c201 => ?_, fun c201 => ?_⟩
              · refine ⟨rfl, rfl, ?_⟩
                refine m_gets hv30 (fun (h207a : ¬ (¬ (σ 106 (σ 12 l.toInt.toNat).toInt.toNat).toInt = 0 ∧ (σ 107 (σ 12 l.toInt.toNat).toInt.toNat + (σ 16 l.toInt.toNat)).toInt ≤ 100000)) => ?_) (fun (h207a : ¬ (σ 106 (σ 12 l.toInt.toNat).toInt.toNat).toInt = 0 ∧ (σ 107 (σ 12 l.toInt.toNat).toInt.toNat + (σ 16 l.toInt.toNat)).toInt ≤ 100000) => ?_)
                · refine ⟨fun _ => ?_, fun z => absurd (by decide) z⟩
                  refine ⟨fun _ => ?_, fun z => absurd (by decide) z⟩
                  refine ⟨_, _, rfl, hv30, ?_⟩
                  refine ⟨_, rfl, hv30, ?_⟩
                  refine ⟨rfl, Or.inl rfl, ?_⟩
                  first
                  | (exfalso; (try simp only [Int32.reduceToInt, l1, u96, u107, u92] at c36 c69 c81 h98a c101 c111 c125_0 c125_1 c201 h207a); omega)
                  | (unfold brF at hQ
                     try simp only [Int32.reduceToInt, l1, u96, u107, u92] at c36 c69 c81 h98a c101 c111 c125_0 c125_1 c201 h207a
                     rw [bk_2n (by assumption) (by rw [← p2]; omega) (by rw [← p3]; rw [v1] at c201; intro q; first | exact h207a ⟨by assumption, q.2⟩ | exact c201 q.1)] at hQ
                     rw [wr_same rfl]
                     exact hQ _ Ag.rf hP)
                · refine ⟨fun z => absurd z (by decide), fun _ => ?_⟩
                  refine ⟨fun z => absurd z (by decide), fun _ => ?_⟩
                  refine ⟨_, rfl, hv30, ?_⟩
                  refine ⟨rfl, Or.inr rfl, ?_⟩
                  first
                  | (exfalso; (try simp only [Int32.reduceToInt, l1, u96, u107, u92] at c36 c69 c81 h98a c101 c111 c125_0 c125_1 c201 h207a); omega)
                  | (unfold brF at hQ
                     try simp only [Int32.reduceToInt, l1, u96, u107, u92] at c36 c69 c81 h98a c101 c111 c125_0 c125_1 c201 h207a
                     rw [bk_2 (by assumption) (by rw [← p2]; omega) (by rw [← p3]; rw [v1] at c201; exact ⟨by assumption, h207a.2⟩)] at hQ
                     rw [← p3] at hQ
                     exact hQ _ (Ag.wr (Ag.wr Ag.rf rfl) rfl) (VwM.w2 (VwM.w1 hP)))
              · refine ⟨fun _ => ?_, fun z => absurd (by decide) z⟩
                refine ⟨_, _, rfl, hv30, ?_⟩
                refine ⟨_, rfl, hv30, ?_⟩
                refine ⟨rfl, Or.inl rfl, ?_⟩
                first
                | (exfalso; (try simp only [Int32.reduceToInt, l1, u96, u107, u92] at c36 c69 c81 h98a c101 c111 c125_0 c125_1 c201); omega)
                | (unfold brF at hQ
                   try simp only [Int32.reduceToInt, l1, u96, u107, u92] at c36 c69 c81 h98a c101 c111 c125_0 c125_1 c201
                   rw [bk_2n (by assumption) (by rw [← p2]; omega) (by rw [← p3]; rw [v1] at c201; intro q; first | exact h207a ⟨by assumption, q.2⟩ | exact c201 q.1)] at hQ
                   rw [wr_same rfl]
                   exact hQ _ Ag.rf hP)
            refine ⟨fun c125_2 => ?_, fun c125_2 => ?_⟩
            · try simp only [Int32.reduceToInt, l1, u96, u107, u92] at c36 c69 c81 h98a c101 c111 c125_0 c125_1 c125_2
              refine ⟨_, _, rfl, (hw3 (by omega)), ?_⟩
              refine ⟨_, _, rfl, hv30, ?_⟩
              refine ⟨fun c258 => ?_, fun c258 => ?_⟩
              · refine ⟨rfl, rfl, ?_⟩
                refine m_gets (hw3 (by omega)) (fun (h265a : ¬ (¬ (σ 106 (σ 102 l.toInt.toNat).toInt.toNat).toInt = 0 ∧ (σ 107 (σ 102 l.toInt.toNat).toInt.toNat + (σ 16 l.toInt.toNat)).toInt ≤ 100000)) => ?_) (fun (h265a : ¬ (σ 106 (σ 102 l.toInt.toNat).toInt.toNat).toInt = 0 ∧ (σ 107 (σ 102 l.toInt.toNat).toInt.toNat + (σ 16 l.toInt.toNat)).toInt ≤ 100000) => ?_)
                · refine ⟨fun _ => ?_, fun z => absurd (by decide) z⟩
                  refine ⟨_, _, rfl, hv30, ?_⟩
                  refine ⟨fun _ => ?_, fun z => absurd (by decide) z⟩
                  refine ⟨_, rfl, hv30, ?_⟩
                  refine ⟨rfl, Or.inl rfl, ?_⟩
                  first
                  | (exfalso; (try simp only [Int32.reduceToInt, l1, u96, u107, u92] at c36 c69 c81 h98a c101 c111 c125_0 c125_1 c125_2 c258 h265a); omega)
                  | (unfold brF at hQ
                     try simp only [Int32.reduceToInt, l1, u96, u107, u92] at c36 c69 c81 h98a c101 c111 c125_0 c125_1 c125_2 c258 h265a
                     rw [bk_3n (by assumption) (by rw [← p2]; omega) (by rw [← p3, ← p4]; omega) (fun q => by first | (rw [(wo (by omega)).2.2, p2, p3] at h265a; exact h265a ⟨q.1, q.2.2⟩) | (rw [v3, (wo (by omega)).2.2] at c258; exact c258 q.2.1))] at hQ
                     rw [wr_same (Int32.sub_zero _)]
                     exact hQ _ agM (VwMU hP))
                · refine ⟨fun z => absurd z (by decide), fun _ => ?_⟩
                  refine ⟨_, _, rfl, hv30, ?_⟩
                  refine ⟨fun z => absurd z (by decide), fun _ => ?_⟩
                  refine ⟨_, rfl, hv30, ?_⟩
                  refine ⟨rfl, Or.inr rfl, ?_⟩
                  first
                  | (exfalso; (try simp only [Int32.reduceToInt, l1, u96, u107, u92] at c36 c69 c81 h98a c101 c111 c125_0 c125_1 c125_2 c258 h265a); omega)
                  | (unfold brF at hQ
                     try simp only [Int32.reduceToInt, l1, u96, u107, u92] at c36 c69 c81 h98a c101 c111 c125_0 c125_1 c125_2 c258 h265a
                     rw [bk_3 (by assumption) (by rw [← p2]; omega) (by rw [← p3, ← p4]; omega) (by rw [v3] at c258; rw [(wo (by omega)).2.2, p2, p3] at h265a; rw [(wo (by omega)).2.2] at c258; exact ⟨h265a.1, c258, h265a.2⟩)] at hQ
                     have hne := (wo (by omega)).2.1
                     have hwo := (wo (by omega)).1
                     rw [← p3, wr_comm (show (σ 12 l.toInt.toNat).toInt.toNat ≠ (σ 17 l.toInt.toNat).toInt.toNat by omega), ← (wo (by omega)).2.2] at hQ
                     have e2 : upd (σ 107) (σ 102 l.toInt.toNat).toInt.toNat (σ 107 (σ 102 l.toInt.toNat).toInt.toNat + (σ 16 l.toInt.toNat)) (σ 12 l.toInt.toNat).toInt.toNat = σ 107 (σ 12 l.toInt.toNat).toInt.toNat := pk_un (by rw [(wo (by omega)).2.2]; omega)
                     rw [← e2] at hQ
                     exact hQ _ (Ag.wr (Ag.wr agM rfl) rfl) (VwM.w1 (VwM.w1 (VwMU hP))))
              · refine ⟨_, _, rfl, hv30, ?_⟩
                refine ⟨fun _ => ?_, fun z => absurd (by decide) z⟩
                refine ⟨_, rfl, hv30, ?_⟩
                refine ⟨rfl, Or.inl rfl, ?_⟩
                first
                | (exfalso; (try simp only [Int32.reduceToInt, l1, u96, u107, u92] at c36 c69 c81 h98a c101 c111 c125_0 c125_1 c125_2 c258); omega)
                | (unfold brF at hQ
                   try simp only [Int32.reduceToInt, l1, u96, u107, u92] at c36 c69 c81 h98a c101 c111 c125_0 c125_1 c125_2 c258
                   rw [bk_3n (by assumption) (by rw [← p2]; omega) (by rw [← p3, ← p4]; omega) (fun q => by first | (rw [(wo (by omega)).2.2, p2, p3] at h265a; exact h265a ⟨q.1, q.2.2⟩) | (rw [v3, (wo (by omega)).2.2] at c258; exact c258 q.2.1))] at hQ
                   rw [wr_same (Int32.sub_zero _)]
                   exact hQ _ agM (VwMU hP))
            refine ⟨fun c125_3 => ?_, fun c125_3 => ?_⟩
            · try simp only [Int32.reduceToInt, l1, u96, u107, u92] at c36 c69 c81 h98a c101 c111 c125_0 c125_1 c125_2 c125_3
              refine ⟨rfl, rfl, ?_⟩
              refine m_gets hv30 (fun (h303a : ¬ (¬ (σ 106 (σ 12 l.toInt.toNat).toInt.toNat).toInt = 0 ∧ (σ 107 (σ 12 l.toInt.toNat).toInt.toNat + (σ 16 l.toInt.toNat)).toInt ≤ 100000)) => ?_) (fun (h303a : ¬ (σ 106 (σ 12 l.toInt.toNat).toInt.toNat).toInt = 0 ∧ (σ 107 (σ 12 l.toInt.toNat).toInt.toNat + (σ 16 l.toInt.toNat)).toInt ≤ 100000) => ?_)
              · refine ⟨_, _, rfl, hv30, ?_⟩
                refine ⟨_, _, rfl, (hw1 (by omega)), ?_⟩
                refine ⟨_, _, rfl, (hx25 (by omega)), ?_⟩
                refine ⟨fun _ => ?_, fun z => absurd (by decide) z⟩
                refine ⟨_, rfl, (hx25 (by omega)), ?_⟩
                refine ⟨rfl, Or.inl rfl, ?_⟩
                first
                | (exfalso; (try simp only [Int32.reduceToInt, l1, u96, u107, u92] at c36 c69 c81 h98a c101 c111 c125_0 c125_1 c125_2 c125_3 h303a); omega)
                | (unfold brF at hQ
                   try simp only [Int32.reduceToInt, l1, u96, u107, u92] at c36 c69 c81 h98a c101 c111 c125_0 c125_1 c125_2 c125_3 h303a
                   rw [bk_4n (by assumption) (by rw [← p2]; omega) (by rw [← p3]; intro q; exact h303a ⟨by assumption, q⟩)] at hQ
                   rw [wr_same (Int32.sub_zero _)]
                   exact hQ _ Ag.rf hP)
              · refine ⟨_, _, rfl, hv30, ?_⟩
                refine ⟨_, _, rfl, (hw1 (by omega)), ?_⟩
                refine ⟨_, _, rfl, (hx25 (by omega)), ?_⟩
                refine ⟨fun z => absurd z (by decide), fun _ => ?_⟩
                refine ⟨_, rfl, (hx25 (by omega)), ?_⟩
                refine ⟨rfl, Or.inr rfl, ?_⟩
                first
                | (exfalso; (try simp only [Int32.reduceToInt, l1, u96, u107, u92] at c36 c69 c81 h98a c101 c111 c125_0 c125_1 c125_2 c125_3 h303a); omega)
                | (unfold brF at hQ
                   try simp only [Int32.reduceToInt, l1, u96, u107, u92] at c36 c69 c81 h98a c101 c111 c125_0 c125_1 c125_2 c125_3 h303a
                   rw [bk_4 (by assumption) (by rw [← p2]; omega) (by rw [← p3]; exact h303a.2)] at hQ
                   have hF0 := (ws (by omega)).2.1
                   have hix := hx5 (by omega)
                   rw [← p3] at hQ
                   refine hQ _ (Ag.wr (Ag.wr Ag.rf rfl) rfl) (VwM.ws (VwM.w1 hP) (by omega) (by omega) hix ?_)
                   show σ 109 (5 * σ 92 (σ 12 l.toInt.toNat).toInt.toNat + σ 89 (σ 102 l.toInt.toNat).toInt.toNat).toInt.toNat - (σ 16 l.toInt.toNat) = _
                   rw [hix, p5 _ _ (by omega) (by omega), Int32.sub_eq_add_neg, wr_c (show (3 + (σ 2 (σ 17 l.toInt.toNat).toInt.toNat).toInt.toNat : Nat) ≠ 1 by omega)])
            try simp only [Int32.reduceToInt, l1, u96, u107, u92] at c36 c69 c81 h98a c101 c111 c125_0 c125_1 c125_2 c125_3
            refine ⟨hv30, Or.inl rfl, ?_⟩
            refine ⟨fun c354 => ?_, fun c354 => ?_⟩
            · refine ⟨_, rfl, hv30, ?_⟩
              refine ⟨rfl, Or.inr rfl, ?_⟩
              first
              | (exfalso; (try simp only [Int32.reduceToInt, l1, u96, u107, u92] at c36 c69 c81 h98a c101 c111 c125_0 c125_1 c125_2 c125_3 c354); omega)
              | (unfold brF at hQ
                 try simp only [Int32.reduceToInt, l1, u96, u107, u92] at c36 c69 c81 h98a c101 c111 c125_0 c125_1 c125_2 c125_3 c354
                 have z5 := wl (by omega)
                 have e0 : (σ 17 l.toInt.toNat).toInt ≠ (σ 12 l.toInt.toNat).toInt → 0 ≤ (σ 17 l.toInt.toNat).toInt → wr σ 106 (σ 12 l.toInt.toNat).toInt.toNat 0 106 (σ 17 l.toInt.toNat).toInt.toNat = σ 106 (σ 17 l.toInt.toNat).toInt.toNat := fun q q2 => pk_un (f := σ 106) (by omega)
                 first
                 | (rw [bk_5n (by omega) (by rw [← p2]; omega) (fun q => by
                      rcases z5 with z | z
                      · omega
                      · first
                        | (rw [z.2.2] at c354; omega)
                        | (rw [z.2.2, e0 z.2.1 z.1.1, p2, p3] at h382a; exact h382a ⟨q.2.1, q.2.2.2⟩)
                        | (have c370 : ¬ (σ 92 (σ 102 l.toInt.toNat).toInt.toNat).toInt = (σ 92 (σ 12 l.toInt.toNat).toInt.toNat).toInt := c370; rw [v3, z.2.2] at c370; exact c370 q.2.2.1))] at hQ
                    exact hQ _ (Ag.wr (Ag.wr Ag.rf rfl) rfl) (VwM.w1 (VwM.w0 hP)))
                 | (have z : (0 ≤ (σ 17 l.toInt.toNat).toInt ∧ (σ 17 l.toInt.toNat).toInt < (σ 3 0).toInt) ∧ (σ 17 l.toInt.toNat).toInt ≠ (σ 12 l.toInt.toNat).toInt ∧ σ 102 l.toInt.toNat = σ 17 l.toInt.toNat := by
                      rcases z5 with z | z
                      · exfalso; omega
                      · exact z
                    rw [bk_5 (by omega) (by rw [← p2]; omega) (by
                      refine ⟨z.1.1, ?_⟩
                      have c370 : (σ 92 (σ 102 l.toInt.toNat).toInt.toNat).toInt = (σ 92 (σ 12 l.toInt.toNat).toInt.toNat).toInt := c370
                      rw [v3, z.2.2] at c370
                      rw [z.2.2, e0 z.2.1 z.1.1, p2, p3] at h382a
                      exact ⟨h382a.1, c370, h382a.2⟩)] at hQ
                    rw [← p3, ← z.2.2] at hQ
                    exact hQ _ (Ag.wr (Ag.wr (Ag.wr Ag.rf rfl) rfl) rfl) (VwM.w1 (VwM.w1 (VwM.w0 hP)))))
            · refine ⟨_, _, rfl, (hw5 (by omega) (by omega)), ?_⟩
              refine ⟨_, _, rfl, hv30, ?_⟩
              refine ⟨fun c370 => ?_, fun c370 => ?_⟩
              · refine ⟨_, _, rfl, hv30, ?_⟩
                refine ⟨rfl, rfl, ?_⟩
                refine m_gets (hw5 (by omega) (by omega)) (fun (h382a : ¬ (¬ ((wr σ 106 (σ 12 l.toInt.toNat).toInt.toNat 0) 106 (σ 102 l.toInt.toNat).toInt.toNat).toInt = 0 ∧ (σ 107 (σ 102 l.toInt.toNat).toInt.toNat + σ 107 (σ 12 l.toInt.toNat).toInt.toNat).toInt ≤ 100000)) => ?_) (fun (h382a : ¬ ((wr σ 106 (σ 12 l.toInt.toNat).toInt.toNat 0) 106 (σ 102 l.toInt.toNat).toInt.toNat).toInt = 0 ∧ (σ 107 (σ 102 l.toInt.toNat).toInt.toNat + σ 107 (σ 12 l.toInt.toNat).toInt.toNat).toInt ≤ 100000) => ?_)
                · refine ⟨fun _ => ?_, fun z => absurd (by decide) z⟩
                  refine ⟨_, rfl, hv30, ?_⟩
                  refine ⟨rfl, Or.inr rfl, ?_⟩
                  first
                  | (exfalso; (try simp only [Int32.reduceToInt, l1, u96, u107, u92] at c36 c69 c81 h98a c101 c111 c125_0 c125_1 c125_2 c125_3 c354 c370 h382a); omega)
                  | (unfold brF at hQ
                     try simp only [Int32.reduceToInt, l1, u96, u107, u92] at c36 c69 c81 h98a c101 c111 c125_0 c125_1 c125_2 c125_3 c354 c370 h382a
                     have z5 := wl (by omega)
                     have e0 : (σ 17 l.toInt.toNat).toInt ≠ (σ 12 l.toInt.toNat).toInt → 0 ≤ (σ 17 l.toInt.toNat).toInt → wr σ 106 (σ 12 l.toInt.toNat).toInt.toNat 0 106 (σ 17 l.toInt.toNat).toInt.toNat = σ 106 (σ 17 l.toInt.toNat).toInt.toNat := fun q q2 => pk_un (f := σ 106) (by omega)
                     first
                     | (rw [bk_5n (by omega) (by rw [← p2]; omega) (fun q => by
                          rcases z5 with z | z
                          · omega
                          · first
                            | (rw [z.2.2] at c354; omega)
                            | (rw [z.2.2, e0 z.2.1 z.1.1, p2, p3] at h382a; exact h382a ⟨q.2.1, q.2.2.2⟩)
                            | (have c370 : ¬ (σ 92 (σ 102 l.toInt.toNat).toInt.toNat).toInt = (σ 92 (σ 12 l.toInt.toNat).toInt.toNat).toInt := c370; rw [v3, z.2.2] at c370; exact c370 q.2.2.1))] at hQ
                        exact hQ _ (Ag.wr (Ag.wr Ag.rf rfl) rfl) (VwM.w1 (VwM.w0 hP)))
                     | (have z : (0 ≤ (σ 17 l.toInt.toNat).toInt ∧ (σ 17 l.toInt.toNat).toInt < (σ 3 0).toInt) ∧ (σ 17 l.toInt.toNat).toInt ≠ (σ 12 l.toInt.toNat).toInt ∧ σ 102 l.toInt.toNat = σ 17 l.toInt.toNat := by
                          rcases z5 with z | z
                          · exfalso; omega
                          · exact z
                        rw [bk_5 (by omega) (by rw [← p2]; omega) (by
                          refine ⟨z.1.1, ?_⟩
                          have c370 : (σ 92 (σ 102 l.toInt.toNat).toInt.toNat).toInt = (σ 92 (σ 12 l.toInt.toNat).toInt.toNat).toInt := c370
                          rw [v3, z.2.2] at c370
                          rw [z.2.2, e0 z.2.1 z.1.1, p2, p3] at h382a
                          exact ⟨h382a.1, c370, h382a.2⟩)] at hQ
                        rw [← p3, ← z.2.2] at hQ
                        exact hQ _ (Ag.wr (Ag.wr (Ag.wr Ag.rf rfl) rfl) rfl) (VwM.w1 (VwM.w1 (VwM.w0 hP)))))
                · refine ⟨fun z => absurd z (by decide), fun _ => ?_⟩
                  refine ⟨_, rfl, hv30, ?_⟩
                  refine ⟨rfl, Or.inr rfl, ?_⟩
                  first
                  | (exfalso; (try simp only [Int32.reduceToInt, l1, u96, u107, u92] at c36 c69 c81 h98a c101 c111 c125_0 c125_1 c125_2 c125_3 c354 c370 h382a); omega)
                  | (unfold brF at hQ
                     try simp only [Int32.reduceToInt, l1, u96, u107, u92] at c36 c69 c81 h98a c101 c111 c125_0 c125_1 c125_2 c125_3 c354 c370 h382a
                     have z5 := wl (by omega)
                     have e0 : (σ 17 l.toInt.toNat).toInt ≠ (σ 12 l.toInt.toNat).toInt → 0 ≤ (σ 17 l.toInt.toNat).toInt → wr σ 106 (σ 12 l.toInt.toNat).toInt.toNat 0 106 (σ 17 l.toInt.toNat).toInt.toNat = σ 106 (σ 17 l.toInt.toNat).toInt.toNat := fun q q2 => pk_un (f := σ 106) (by omega)
                     first
                     | (rw [bk_5n (by omega) (by rw [← p2]; omega) (fun q => by
                          rcases z5 with z | z
                          · omega
                          · first
                            | (rw [z.2.2] at c354; omega)
                            | (rw [z.2.2, e0 z.2.1 z.1.1, p2, p3] at h382a; exact h382a ⟨q.2.1, q.2.2.2⟩)
                            | (have c370 : ¬ (σ 92 (σ 102 l.toInt.toNat).toInt.toNat).toInt = (σ 92 (σ 12 l.toInt.toNat).toInt.toNat).toInt := c370; rw [v3, z.2.2] at c370; exact c370 q.2.2.1))] at hQ
                        exact hQ _ (Ag.wr (Ag.wr Ag.rf rfl) rfl) (VwM.w1 (VwM.w0 hP)))
                     | (have z : (0 ≤ (σ 17 l.toInt.toNat).toInt ∧ (σ 17 l.toInt.toNat).toInt < (σ 3 0).toInt) ∧ (σ 17 l.toInt.toNat).toInt ≠ (σ 12 l.toInt.toNat).toInt ∧ σ 102 l.toInt.toNat = σ 17 l.toInt.toNat := by
                          rcases z5 with z | z
                          · exfalso; omega
                          · exact z
                        rw [bk_5 (by omega) (by rw [← p2]; omega) (by
                          refine ⟨z.1.1, ?_⟩
                          have c370 : (σ 92 (σ 102 l.toInt.toNat).toInt.toNat).toInt = (σ 92 (σ 12 l.toInt.toNat).toInt.toNat).toInt := c370
                          rw [v3, z.2.2] at c370
                          rw [z.2.2, e0 z.2.1 z.1.1, p2, p3] at h382a
                          exact ⟨h382a.1, c370, h382a.2⟩)] at hQ
                        rw [← p3, ← z.2.2] at hQ
                        exact hQ _ (Ag.wr (Ag.wr (Ag.wr Ag.rf rfl) rfl) rfl) (VwM.w1 (VwM.w1 (VwM.w0 hP)))))
              · refine ⟨_, rfl, hv30, ?_⟩
                refine ⟨rfl, Or.inr rfl, ?_⟩
                first
                | (exfalso; (try simp only [Int32.reduceToInt, l1, u96, u107, u92] at c36 c69 c81 h98a c101 c111 c125_0 c125_1 c125_2 c125_3 c354 c370); omega)
                | (unfold brF at hQ
                   try simp only [Int32.reduceToInt, l1, u96, u107, u92] at c36 c69 c81 h98a c101 c111 c125_0 c125_1 c125_2 c125_3 c354 c370
                   have z5 := wl (by omega)
                   have e0 : (σ 17 l.toInt.toNat).toInt ≠ (σ 12 l.toInt.toNat).toInt → 0 ≤ (σ 17 l.toInt.toNat).toInt → wr σ 106 (σ 12 l.toInt.toNat).toInt.toNat 0 106 (σ 17 l.toInt.toNat).toInt.toNat = σ 106 (σ 17 l.toInt.toNat).toInt.toNat := fun q q2 => pk_un (f := σ 106) (by omega)
                   first
                   | (rw [bk_5n (by omega) (by rw [← p2]; omega) (fun q => by
                        rcases z5 with z | z
                        · omega
                        · first
                          | (rw [z.2.2] at c354; omega)
                          | (rw [z.2.2, e0 z.2.1 z.1.1, p2, p3] at h382a; exact h382a ⟨q.2.1, q.2.2.2⟩)
                          | (have c370 : ¬ (σ 92 (σ 102 l.toInt.toNat).toInt.toNat).toInt = (σ 92 (σ 12 l.toInt.toNat).toInt.toNat).toInt := c370; rw [v3, z.2.2] at c370; exact c370 q.2.2.1))] at hQ
                      exact hQ _ (Ag.wr (Ag.wr Ag.rf rfl) rfl) (VwM.w1 (VwM.w0 hP)))
                   | (have z : (0 ≤ (σ 17 l.toInt.toNat).toInt ∧ (σ 17 l.toInt.toNat).toInt < (σ 3 0).toInt) ∧ (σ 17 l.toInt.toNat).toInt ≠ (σ 12 l.toInt.toNat).toInt ∧ σ 102 l.toInt.toNat = σ 17 l.toInt.toNat := by
                        rcases z5 with z | z
                        · exfalso; omega
                        · exact z
                      rw [bk_5 (by omega) (by rw [← p2]; omega) (by
                        refine ⟨z.1.1, ?_⟩
                        have c370 : (σ 92 (σ 102 l.toInt.toNat).toInt.toNat).toInt = (σ 92 (σ 12 l.toInt.toNat).toInt.toNat).toInt := c370
                        rw [v3, z.2.2] at c370
                        rw [z.2.2, e0 z.2.1 z.1.1, p2, p3] at h382a
                        exact ⟨h382a.1, c370, h382a.2⟩)] at hQ
                      rw [← p3, ← z.2.2] at hQ
                      exact hQ _ (Ag.wr (Ag.wr (Ag.wr Ag.rf rfl) rfl) rfl) (VwM.w1 (VwM.w1 (VwM.w0 hP)))))
        · replace c101 := bI_nz c101
          refine ⟨rfl, Or.inl rfl, ?_⟩
          first
          | (exfalso; (try simp only [Int32.reduceToInt, l1, u96, u107, u92] at c36 c69 c81 h98a c101); omega)
          | (unfold brF at hQ
             try simp only [Int32.reduceToInt, l1, u96, u107, u92] at c36 c69 c81 h98a c101
             rw [bk_n (by omega) (by rw [← p2]; omega) (by rw [← p3, ← p4]; omega)] at hQ
             exact hQ _ agM (VwMU hP))
      · refine ⟨_, _, rfl, (by refine ⟨?_, ?_⟩ <;> omega), ?_⟩
        refine ⟨fun c91 => ?_, fun c91 => ?_⟩
        · refine ⟨rfl, rfl, ?_⟩
          refine m_isEnded ⟨k2.1, by omega⟩ hL hVo w1 (fun h98a => ?_)
          refine ⟨fun c101 => ?_, fun c101 => ?_⟩
          · replace c101 := bI_z c101
            refine ⟨_, _, rfl, hv30, ?_⟩
            refine ⟨fun c111 => ?_, fun c111 => ?_⟩
            · refine ⟨rfl, Or.inl rfl, ?_⟩
              first
              | (exfalso; (try simp only [Int32.reduceToInt, l1, u96, u107, u92] at c36 c69 c81 c91 h98a c101 c111); omega)
              | (unfold brF at hQ
                 try simp only [Int32.reduceToInt, l1, u96, u107, u92] at c36 c69 c81 c91 h98a c101 c111
                 rw [bk_n (by omega) (by rw [← p2]; omega) (by rw [← p3, ← p4]; omega)] at hQ
                 exact hQ _ agM (VwMU hP))
            · refine ⟨_, _, rfl, (by refine ⟨?_, ?_⟩ <;> omega), ?_⟩
              refine ⟨fun c125_0 => ?_, fun c125_0 => ?_⟩
              · try simp only [Int32.reduceToInt, l1, u96, u107, u92] at c36 c69 c81 c91 h98a c101 c111 c125_0
                refine ⟨_, _, rfl, hv30, ?_⟩
                refine ⟨_, rfl, hv30, ?_⟩
                refine ⟨_, _, rfl, hv30, ?_⟩
                refine ⟨_, _, rfl, (hw1 (by omega)), ?_⟩
                refine ⟨_, _, rfl, (hx25 (by omega)), ?_⟩
                refine ⟨_, rfl, (hx25 (by omega)), ?_⟩
                refine ⟨rfl, Or.inr rfl, ?_⟩
                first
                | (exfalso; (try simp only [Int32.reduceToInt, l1, u96, u107, u92] at c36 c69 c81 c91 h98a c101 c111 c125_0); omega)
                | (unfold brF at hQ
                   try simp only [Int32.reduceToInt, l1, u96, u107, u92] at c36 c69 c81 c91 h98a c101 c111 c125_0
                   rw [bk_1 (by assumption) (by rw [← p2]; omega) (by rw [← p3, ← p4]; omega)] at hQ
                   have hF0 := (ws (by omega)).2.1
                   have hix := hx5 (by omega)
                   rw [← p3] at hQ
                   refine hQ _ (Ag.wr (Ag.wr agM rfl) rfl) (VwM.ws (VwM.w1 (VwMU hP)) (by omega) (by omega) hix ?_)
                   show σ 109 (5 * σ 92 (σ 12 l.toInt.toNat).toInt.toNat + σ 89 (σ 102 l.toInt.toNat).toInt.toNat).toInt.toNat + (σ 16 l.toInt.toNat) = _
                   rw [hix, p5 _ _ (by omega) (by omega), wr_c (show (3 + (σ 2 (σ 17 l.toInt.toNat).toInt.toNat).toInt.toNat : Nat) ≠ 1 by omega)])
              refine ⟨fun c125_1 => ?_, fun c125_1 => ?_⟩
              · try simp only [Int32.reduceToInt, l1, u96, u107, u92] at c36 c69 c81 c91 h98a c101 c111 c125_0 c125_1
                refine ⟨_, _, rfl, hv30, ?_⟩
                refine ⟨fun c201 => ?_, fun c201 => ?_⟩
                · refine ⟨rfl, rfl, ?_⟩
                  refine m_gets hv30 (fun (h207a : ¬ (¬ (σ 106 (σ 12 l.toInt.toNat).toInt.toNat).toInt = 0 ∧ (σ 107 (σ 12 l.toInt.toNat).toInt.toNat + (σ 16 l.toInt.toNat)).toInt ≤ 100000)) => ?_) (fun (h207a : ¬ (σ 106 (σ 12 l.toInt.toNat).toInt.toNat).toInt = 0 ∧ (σ 107 (σ 12 l.toInt.toNat).toInt.toNat + (σ 16 l.toInt.toNat)).toInt ≤ 100000) => ?_)
                  · refine ⟨fun _ => ?_, fun z => absurd (by decide) z⟩
                    refine ⟨fun _ => ?_, fun z => absurd (by decide) z⟩
                    refine ⟨_, _, rfl, hv30, ?_⟩
                    refine ⟨_, rfl, hv30, ?_⟩
                    refine ⟨rfl, Or.inl rfl, ?_⟩
                    first
                    | (exfalso; (try simp only [Int32.reduceToInt, l1, u96, u107, u92] at c36 c69 c81 c91 h98a c101 c111 c125_0 c125_1 c201 h207a); omega)
                    | (unfold brF at hQ
                       try simp only [Int32.reduceToInt, l1, u96, u107, u92] at c36 c69 c81 c91 h98a c101 c111 c125_0 c125_1 c201 h207a
                       rw [bk_2n (by assumption) (by rw [← p2]; omega) (by rw [← p3]; rw [v1] at c201; intro q; first | exact h207a ⟨by assumption, q.2⟩ | exact c201 q.1)] at hQ
                       rw [wr_same rfl]
                       exact hQ _ Ag.rf hP)
                  · refine ⟨fun z => absurd z (by decide), fun _ => ?_⟩
                    refine ⟨fun z => absurd z (by decide), fun _ => ?_⟩
                    refine ⟨_, rfl, hv30, ?_⟩
                    refine ⟨rfl, Or.inr rfl, ?_⟩
                    first
                    | (exfalso; (try simp only [Int32.reduceToInt, l1, u96, u107, u92] at c36 c69 c81 c91 h98a c101 c111 c125_0 c125_1 c201 h207a); omega)
                    | (unfold brF at hQ
                       try simp only [Int32.reduceToInt, l1, u96, u107, u92] at c36 c69 c81 c91 h98a c101 c111 c125_0 c125_1 c201 h207a
                       rw [bk_2 (by assumption) (by rw [← p2]; omega) (by rw [← p3]; rw [v1] at c201; exact ⟨by assumption, h207a.2⟩)] at hQ
                       rw [← p3] at hQ
                       exact hQ _ (Ag.wr (Ag.wr Ag.rf rfl) rfl) (VwM.w2 (VwM.w1 hP)))
                · refine ⟨fun _ => ?_, fun z => absurd (by decide) z⟩
                  refine ⟨_, _, rfl, hv30, ?_⟩
                  refine ⟨_, rfl, hv30, ?_⟩
                  refine ⟨rfl, Or.inl rfl, ?_⟩
                  first
                  | (exfalso; (try simp only [Int32.reduceToInt, l1, u96, u107, u92] at c36 c69 c81 c91 h98a c101 c111 c125_0 c125_1 c201); omega)
                  | (unfold brF at hQ
                     try simp only [Int32.reduceToInt, l1, u96, u107, u92] at c36 c69 c81 c91 h98a c101 c111 c125_0 c125_1 c201
                     rw [bk_2n (by assumption) (by rw [← p2]; omega) (by rw [← p3]; rw [v1] at c201; intro q; first | exact h207a ⟨by assumption, q.2⟩ | exact c201 q.1)] at hQ
                     rw [wr_same rfl]
                     exact hQ _ Ag.rf hP)
              refine ⟨fun c125_2 => ?_, fun c125_2 => ?_⟩
              · try simp only [Int32.reduceToInt, l1, u96, u107, u92] at c36 c69 c81 c91 h98a c101 c111 c125_0 c125_1 c125_2
                refine ⟨_, _, rfl, (hw3 (by omega)), ?_⟩
                refine ⟨_, _, rfl, hv30, ?_⟩
                refine ⟨fun c258 => ?_, fun c258 => ?_⟩
                · refine ⟨rfl, rfl, ?_⟩
                  refine m_gets (hw3 (by omega)) (fun (h265a : ¬ (¬ (σ 106 (σ 102 l.toInt.toNat).toInt.toNat).toInt = 0 ∧ (σ 107 (σ 102 l.toInt.toNat).toInt.toNat + (σ 16 l.toInt.toNat)).toInt ≤ 100000)) => ?_) (fun (h265a : ¬ (σ 106 (σ 102 l.toInt.toNat).toInt.toNat).toInt = 0 ∧ (σ 107 (σ 102 l.toInt.toNat).toInt.toNat + (σ 16 l.toInt.toNat)).toInt ≤ 100000) => ?_)
                  · refine ⟨fun _ => ?_, fun z => absurd (by decide) z⟩
                    refine ⟨_, _, rfl, hv30, ?_⟩
                    refine ⟨fun _ => ?_, fun z => absurd (by decide) z⟩
                    refine ⟨_, rfl, hv30, ?_⟩
                    refine ⟨rfl, Or.inl rfl, ?_⟩
                    first
                    | (exfalso; (try simp only [Int32.reduceToInt, l1, u96, u107, u92] at c36 c69 c81 c91 h98a c101 c111 c125_0 c125_1 c125_2 c258 h265a); omega)
                    | (unfold brF at hQ
                       try simp only [Int32.reduceToInt, l1, u96, u107, u92] at c36 c69 c81 c91 h98a c101 c111 c125_0 c125_1 c125_2 c258 h265a
                       rw [bk_3n (by assumption) (by rw [← p2]; omega) (by rw [← p3, ← p4]; omega) (fun q => by first | (rw [(wo (by omega)).2.2, p2, p3] at h265a; exact h265a ⟨q.1, q.2.2⟩) | (rw [v3, (wo (by omega)).2.2] at c258; exact c258 q.2.1))] at hQ
                       rw [wr_same (Int32.sub_zero _)]
                       exact hQ _ agM (VwMU hP))
                  · refine ⟨fun z => absurd z (by decide), fun _ => ?_⟩
                    refine ⟨_, _, rfl, hv30, ?_⟩
                    refine ⟨fun z => absurd z (by decide), fun _ => ?_⟩
                    refine ⟨_, rfl, hv30, ?_⟩
                    refine ⟨rfl, Or.inr rfl, ?_⟩
                    first
                    | (exfalso; (try simp only [Int32.reduceToInt, l1, u96, u107, u92] at c36 c69 c81 c91 h98a c101 c111 c125_0 c125_1 c125_2 c258 h265a); omega)
                    | (unfold brF at hQ
                       try simp only [Int32.reduceToInt, l1, u96, u107, u92] at c36 c69 c81 c91 h98a c101 c111 c125_0 c125_1 c125_2 c258 h265a
                       rw [bk_3 (by assumption) (by rw [← p2]; omega) (by rw [← p3, ← p4]; omega) (by rw [v3] at c258; rw [(wo (by omega)).2.2, p2, p3] at h265a; rw [(wo (by omega)).2.2] at c258; exact ⟨h265a.1, c258, h265a.2⟩)] at hQ
                       have hne := (wo (by omega)).2.1
                       have hwo := (wo (by omega)).1
                       rw [← p3, wr_comm (show (σ 12 l.toInt.toNat).toInt.toNat ≠ (σ 17 l.toInt.toNat).toInt.toNat by omega), ← (wo (by omega)).2.2] at hQ
                       have e2 : upd (σ 107) (σ 102 l.toInt.toNat).toInt.toNat (σ 107 (σ 102 l.toInt.toNat).toInt.toNat + (σ 16 l.toInt.toNat)) (σ 12 l.toInt.toNat).toInt.toNat = σ 107 (σ 12 l.toInt.toNat).toInt.toNat := pk_un (by rw [(wo (by omega)).2.2]; omega)
                       rw [← e2] at hQ
                       exact hQ _ (Ag.wr (Ag.wr agM rfl) rfl) (VwM.w1 (VwM.w1 (VwMU hP))))
                · refine ⟨_, _, rfl, hv30, ?_⟩
                  refine ⟨fun _ => ?_, fun z => absurd (by decide) z⟩
                  refine ⟨_, rfl, hv30, ?_⟩
                  refine ⟨rfl, Or.inl rfl, ?_⟩
                  first
                  | (exfalso; (try simp only [Int32.reduceToInt, l1, u96, u107, u92] at c36 c69 c81 c91 h98a c101 c111 c125_0 c125_1 c125_2 c258); omega)
                  | (unfold brF at hQ
                     try simp only [Int32.reduceToInt, l1, u96, u107, u92] at c36 c69 c81 c91 h98a c101 c111 c125_0 c125_1 c125_2 c258
                     rw [bk_3n (by assumption) (by rw [← p2]; omega) (by rw [← p3, ← p4]; omega) (fun q => by first | (rw [(wo (by omega)).2.2, p2, p3] at h265a; exact h265a ⟨q.1, q.2.2⟩) | (rw [v3, (wo (by omega)).2.2] at c258; exact c258 q.2.1))] at hQ
                     rw [wr_same (Int32.sub_zero _)]
                     exact hQ _ agM (VwMU hP))
              refine ⟨fun c125_3 => ?_, fun c125_3 => ?_⟩
              · try simp only [Int32.reduceToInt, l1, u96, u107, u92] at c36 c69 c81 c91 h98a c101 c111 c125_0 c125_1 c125_2 c125_3
                refine ⟨rfl, rfl, ?_⟩
                refine m_gets hv30 (fun (h303a : ¬ (¬ (σ 106 (σ 12 l.toInt.toNat).toInt.toNat).toInt = 0 ∧ (σ 107 (σ 12 l.toInt.toNat).toInt.toNat + (σ 16 l.toInt.toNat)).toInt ≤ 100000)) => ?_) (fun (h303a : ¬ (σ 106 (σ 12 l.toInt.toNat).toInt.toNat).toInt = 0 ∧ (σ 107 (σ 12 l.toInt.toNat).toInt.toNat + (σ 16 l.toInt.toNat)).toInt ≤ 100000) => ?_)
                · refine ⟨_, _, rfl, hv30, ?_⟩
                  refine ⟨_, _, rfl, (hw1 (by omega)), ?_⟩
                  refine ⟨_, _, rfl, (hx25 (by omega)), ?_⟩
                  refine ⟨fun _ => ?_, fun z => absurd (by decide) z⟩
                  refine ⟨_, rfl, (hx25 (by omega)), ?_⟩
                  refine ⟨rfl, Or.inl rfl, ?_⟩
                  first
                  | (exfalso; (try simp only [Int32.reduceToInt, l1, u96, u107, u92] at c36 c69 c81 c91 h98a c101 c111 c125_0 c125_1 c125_2 c125_3 h303a); omega)
                  | (unfold brF at hQ
                     try simp only [Int32.reduceToInt, l1, u96, u107, u92] at c36 c69 c81 c91 h98a c101 c111 c125_0 c125_1 c125_2 c125_3 h303a
                     rw [bk_4n (by assumption) (by rw [← p2]; omega) (by rw [← p3]; intro q; exact h303a ⟨by assumption, q⟩)] at hQ
                     rw [wr_same (Int32.sub_zero _)]
                     exact hQ _ Ag.rf hP)
                · refine ⟨_, _, rfl, hv30, ?_⟩
                  refine ⟨_, _, rfl, (hw1 (by omega)), ?_⟩
                  refine ⟨_, _, rfl, (hx25 (by omega)), ?_⟩
                  refine ⟨fun z => absurd z (by decide), fun _ => ?_⟩
                  refine ⟨_, rfl, (hx25 (by omega)), ?_⟩
                  refine ⟨rfl, Or.inr rfl, ?_⟩
                  first
                  | (exfalso; (try simp only [Int32.reduceToInt, l1, u96, u107, u92] at c36 c69 c81 c91 h98a c101 c111 c125_0 c125_1 c125_2 c125_3 h303a); omega)
                  | (unfold brF at hQ
                     try simp only [Int32.reduceToInt, l1, u96, u107, u92] at c36 c69 c81 c91 h98a c101 c111 c125_0 c125_1 c125_2 c125_3 h303a
                     rw [bk_4 (by assumption) (by rw [← p2]; omega) (by rw [← p3]; exact h303a.2)] at hQ
                     have hF0 := (ws (by omega)).2.1
                     have hix := hx5 (by omega)
                     rw [← p3] at hQ
                     refine hQ _ (Ag.wr (Ag.wr Ag.rf rfl) rfl) (VwM.ws (VwM.w1 hP) (by omega) (by omega) hix ?_)
                     show σ 109 (5 * σ 92 (σ 12 l.toInt.toNat).toInt.toNat + σ 89 (σ 102 l.toInt.toNat).toInt.toNat).toInt.toNat - (σ 16 l.toInt.toNat) = _
                     rw [hix, p5 _ _ (by omega) (by omega), Int32.sub_eq_add_neg, wr_c (show (3 + (σ 2 (σ 17 l.toInt.toNat).toInt.toNat).toInt.toNat : Nat) ≠ 1 by omega)])
              try simp only [Int32.reduceToInt, l1, u96, u107, u92] at c36 c69 c81 c91 h98a c101 c111 c125_0 c125_1 c125_2 c125_3
              refine ⟨hv30, Or.inl rfl, ?_⟩
              refine ⟨fun c354 => ?_, fun c354 => ?_⟩
              · refine ⟨_, rfl, hv30, ?_⟩
                refine ⟨rfl, Or.inr rfl, ?_⟩
                first
                | (exfalso; (try simp only [Int32.reduceToInt, l1, u96, u107, u92] at c36 c69 c81 c91 h98a c101 c111 c125_0 c125_1 c125_2 c125_3 c354); omega)
                | (unfold brF at hQ
                   try simp only [Int32.reduceToInt, l1, u96, u107, u92] at c36 c69 c81 c91 h98a c101 c111 c125_0 c125_1 c125_2 c125_3 c354
                   have z5 := wl (by omega)
                   have e0 : (σ 17 l.toInt.toNat).toInt ≠ (σ 12 l.toInt.toNat).toInt → 0 ≤ (σ 17 l.toInt.toNat).toInt → wr σ 106 (σ 12 l.toInt.toNat).toInt.toNat 0 106 (σ 17 l.toInt.toNat).toInt.toNat = σ 106 (σ 17 l.toInt.toNat).toInt.toNat := fun q q2 => pk_un (f := σ 106) (by omega)
                   first
                   | (rw [bk_5n (by omega) (by rw [← p2]; omega) (fun q => by
                        rcases z5 with z | z
                        · omega
                        · first
                          | (rw [z.2.2] at c354; omega)
                          | (rw [z.2.2, e0 z.2.1 z.1.1, p2, p3] at h382a; exact h382a ⟨q.2.1, q.2.2.2⟩)
                          | (have c370 : ¬ (σ 92 (σ 102 l.toInt.toNat).toInt.toNat).toInt = (σ 92 (σ 12 l.toInt.toNat).toInt.toNat).toInt := c370; rw [v3, z.2.2] at c370; exact c370 q.2.2.1))] at hQ
                      exact hQ _ (Ag.wr (Ag.wr Ag.rf rfl) rfl) (VwM.w1 (VwM.w0 hP)))
                   | (have z : (0 ≤ (σ 17 l.toInt.toNat).toInt ∧ (σ 17 l.toInt.toNat).toInt < (σ 3 0).toInt) ∧ (σ 17 l.toInt.toNat).toInt ≠ (σ 12 l.toInt.toNat).toInt ∧ σ 102 l.toInt.toNat = σ 17 l.toInt.toNat := by
                        rcases z5 with z | z
                        · exfalso; omega
                        · exact z
                      rw [bk_5 (by omega) (by rw [← p2]; omega) (by
                        refine ⟨z.1.1, ?_⟩
                        have c370 : (σ 92 (σ 102 l.toInt.toNat).toInt.toNat).toInt = (σ 92 (σ 12 l.toInt.toNat).toInt.toNat).toInt := c370
                        rw [v3, z.2.2] at c370
                        rw [z.2.2, e0 z.2.1 z.1.1, p2, p3] at h382a
                        exact ⟨h382a.1, c370, h382a.2⟩)] at hQ
                      rw [← p3, ← z.2.2] at hQ
                      exact hQ _ (Ag.wr (Ag.wr (Ag.wr Ag.rf rfl) rfl) rfl) (VwM.w1 (VwM.w1 (VwM.w0 hP)))))
              · refine ⟨_, _, rfl, (hw5 (by omega) (by omega)), ?_⟩
                refine ⟨_, _, rfl, hv30, ?_⟩
                refine ⟨fun c370 => ?_, fun c370 => ?_⟩
                · refine ⟨_, _, rfl, hv30, ?_⟩
                  refine ⟨rfl, rfl, ?_⟩
                  refine m_gets (hw5 (by omega) (by omega)) (fun (h382a : ¬ (¬ ((wr σ 106 (σ 12 l.toInt.toNat).toInt.toNat 0) 106 (σ 102 l.toInt.toNat).toInt.toNat).toInt = 0 ∧ (σ 107 (σ 102 l.toInt.toNat).toInt.toNat + σ 107 (σ 12 l.toInt.toNat).toInt.toNat).toInt ≤ 100000)) => ?_) (fun (h382a : ¬ ((wr σ 106 (σ 12 l.toInt.toNat).toInt.toNat 0) 106 (σ 102 l.toInt.toNat).toInt.toNat).toInt = 0 ∧ (σ 107 (σ 102 l.toInt.toNat).toInt.toNat + σ 107 (σ 12 l.toInt.toNat).toInt.toNat).toInt ≤ 100000) => ?_)
                  · refine ⟨fun _ => ?_, fun z => absurd (by decide) z⟩
                    refine ⟨_, rfl, hv30, ?_⟩
                    refine ⟨rfl, Or.inr rfl, ?_⟩
                    first
                    | (exfalso; (try simp only [Int32.reduceToInt, l1, u96, u107, u92] at c36 c69 c81 c91 h98a c101 c111 c125_0 c125_1 c125_2 c125_3 c354 c370 h382a); omega)
                    | (unfold brF at hQ
                       try simp only [Int32.reduceToInt, l1, u96, u107, u92] at c36 c69 c81 c91 h98a c101 c111 c125_0 c125_1 c125_2 c125_3 c354 c370 h382a
                       have z5 := wl (by omega)
                       have e0 : (σ 17 l.toInt.toNat).toInt ≠ (σ 12 l.toInt.toNat).toInt → 0 ≤ (σ 17 l.toInt.toNat).toInt → wr σ 106 (σ 12 l.toInt.toNat).toInt.toNat 0 106 (σ 17 l.toInt.toNat).toInt.toNat = σ 106 (σ 17 l.toInt.toNat).toInt.toNat := fun q q2 => pk_un (f := σ 106) (by omega)
                       first
                       | (rw [bk_5n (by omega) (by rw [← p2]; omega) (fun q => by
                            rcases z5 with z | z
                            · omega
                            · first
                              | (rw [z.2.2] at c354; omega)
                              | (rw [z.2.2, e0 z.2.1 z.1.1, p2, p3] at h382a; exact h382a ⟨q.2.1, q.2.2.2⟩)
                              | (have c370 : ¬ (σ 92 (σ 102 l.toInt.toNat).toInt.toNat).toInt = (σ 92 (σ 12 l.toInt.toNat).toInt.toNat).toInt := c370; rw [v3, z.2.2] at c370; exact c370 q.2.2.1))] at hQ
                          exact hQ _ (Ag.wr (Ag.wr Ag.rf rfl) rfl) (VwM.w1 (VwM.w0 hP)))
                       | (have z : (0 ≤ (σ 17 l.toInt.toNat).toInt ∧ (σ 17 l.toInt.toNat).toInt < (σ 3 0).toInt) ∧ (σ 17 l.toInt.toNat).toInt ≠ (σ 12 l.toInt.toNat).toInt ∧ σ 102 l.toInt.toNat = σ 17 l.toInt.toNat := by
                            rcases z5 with z | z
                            · exfalso; omega
                            · exact z
                          rw [bk_5 (by omega) (by rw [← p2]; omega) (by
                            refine ⟨z.1.1, ?_⟩
                            have c370 : (σ 92 (σ 102 l.toInt.toNat).toInt.toNat).toInt = (σ 92 (σ 12 l.toInt.toNat).toInt.toNat).toInt := c370
                            rw [v3, z.2.2] at c370
                            rw [z.2.2, e0 z.2.1 z.1.1, p2, p3] at h382a
                            exact ⟨h382a.1, c370, h382a.2⟩)] at hQ
                          rw [← p3, ← z.2.2] at hQ
                          exact hQ _ (Ag.wr (Ag.wr (Ag.wr Ag.rf rfl) rfl) rfl) (VwM.w1 (VwM.w1 (VwM.w0 hP)))))
                  · refine ⟨fun z => absurd z (by decide), fun _ => ?_⟩
                    refine ⟨_, rfl, hv30, ?_⟩
                    refine ⟨rfl, Or.inr rfl, ?_⟩
                    first
                    | (exfalso; (try simp only [Int32.reduceToInt, l1, u96, u107, u92] at c36 c69 c81 c91 h98a c101 c111 c125_0 c125_1 c125_2 c125_3 c354 c370 h382a); omega)
                    | (unfold brF at hQ
                       try simp only [Int32.reduceToInt, l1, u96, u107, u92] at c36 c69 c81 c91 h98a c101 c111 c125_0 c125_1 c125_2 c125_3 c354 c370 h382a
                       have z5 := wl (by omega)
                       have e0 : (σ 17 l.toInt.toNat).toInt ≠ (σ 12 l.toInt.toNat).toInt → 0 ≤ (σ 17 l.toInt.toNat).toInt → wr σ 106 (σ 12 l.toInt.toNat).toInt.toNat 0 106 (σ 17 l.toInt.toNat).toInt.toNat = σ 106 (σ 17 l.toInt.toNat).toInt.toNat := fun q q2 => pk_un (f := σ 106) (by omega)
                       first
                       | (rw [bk_5n (by omega) (by rw [← p2]; omega) (fun q => by
                            rcases z5 with z | z
                            · omega
                            · first
                              | (rw [z.2.2] at c354; omega)
                              | (rw [z.2.2, e0 z.2.1 z.1.1, p2, p3] at h382a; exact h382a ⟨q.2.1, q.2.2.2⟩)
                              | (have c370 : ¬ (σ 92 (σ 102 l.toInt.toNat).toInt.toNat).toInt = (σ 92 (σ 12 l.toInt.toNat).toInt.toNat).toInt := c370; rw [v3, z.2.2] at c370; exact c370 q.2.2.1))] at hQ
                          exact hQ _ (Ag.wr (Ag.wr Ag.rf rfl) rfl) (VwM.w1 (VwM.w0 hP)))
                       | (have z : (0 ≤ (σ 17 l.toInt.toNat).toInt ∧ (σ 17 l.toInt.toNat).toInt < (σ 3 0).toInt) ∧ (σ 17 l.toInt.toNat).toInt ≠ (σ 12 l.toInt.toNat).toInt ∧ σ 102 l.toInt.toNat = σ 17 l.toInt.toNat := by
                            rcases z5 with z | z
                            · exfalso; omega
                            · exact z
                          rw [bk_5 (by omega) (by rw [← p2]; omega) (by
                            refine ⟨z.1.1, ?_⟩
                            have c370 : (σ 92 (σ 102 l.toInt.toNat).toInt.toNat).toInt = (σ 92 (σ 12 l.toInt.toNat).toInt.toNat).toInt := c370
                            rw [v3, z.2.2] at c370
                            rw [z.2.2, e0 z.2.1 z.1.1, p2, p3] at h382a
                            exact ⟨h382a.1, c370, h382a.2⟩)] at hQ
                          rw [← p3, ← z.2.2] at hQ
                          exact hQ _ (Ag.wr (Ag.wr (Ag.wr Ag.rf rfl) rfl) rfl) (VwM.w1 (VwM.w1 (VwM.w0 hP)))))
                · refine ⟨_, rfl, hv30, ?_⟩
                  refine ⟨rfl, Or.inr rfl, ?_⟩
                  first
                  | (exfalso; (try simp only [Int32.reduceToInt, l1, u96, u107, u92] at c36 c69 c81 c91 h98a c101 c111 c125_0 c125_1 c125_2 c125_3 c354 c370); omega)
                  | (unfold brF at hQ
                     try simp only [Int32.reduceToInt, l1, u96, u107, u92] at c36 c69 c81 c91 h98a c101 c111 c125_0 c125_1 c125_2 c125_3 c354 c370
                     have z5 := wl (by omega)
                     have e0 : (σ 17 l.toInt.toNat).toInt ≠ (σ 12 l.toInt.toNat).toInt → 0 ≤ (σ 17 l.toInt.toNat).toInt → wr σ 106 (σ 12 l.toInt.toNat).toInt.toNat 0 106 (σ 17 l.toInt.toNat).toInt.toNat = σ 106 (σ 17 l.toInt.toNat).toInt.toNat := fun q q2 => pk_un (f := σ 106) (by omega)
                     first
                     | (rw [bk_5n (by omega) (by rw [← p2]; omega) (fun q => by
                          rcases z5 with z | z
                          · omega
                          · first
                            | (rw [z.2.2] at c354; omega)
                            | (rw [z.2.2, e0 z.2.1 z.1.1, p2, p3] at h382a; exact h382a ⟨q.2.1, q.2.2.2⟩)
                            | (have c370 : ¬ (σ 92 (σ 102 l.toInt.toNat).toInt.toNat).toInt = (σ 92 (σ 12 l.toInt.toNat).toInt.toNat).toInt := c370; rw [v3, z.2.2] at c370; exact c370 q.2.2.1))] at hQ
                        exact hQ _ (Ag.wr (Ag.wr Ag.rf rfl) rfl) (VwM.w1 (VwM.w0 hP)))
                     | (have z : (0 ≤ (σ 17 l.toInt.toNat).toInt ∧ (σ 17 l.toInt.toNat).toInt < (σ 3 0).toInt) ∧ (σ 17 l.toInt.toNat).toInt ≠ (σ 12 l.toInt.toNat).toInt ∧ σ 102 l.toInt.toNat = σ 17 l.toInt.toNat := by
                          rcases z5 with z | z
                          · exfalso; omega
                          · exact z
                        rw [bk_5 (by omega) (by rw [← p2]; omega) (by
                          refine ⟨z.1.1, ?_⟩
                          have c370 : (σ 92 (σ 102 l.toInt.toNat).toInt.toNat).toInt = (σ 92 (σ 12 l.toInt.toNat).toInt.toNat).toInt := c370
                          rw [v3, z.2.2] at c370
                          rw [z.2.2, e0 z.2.1 z.1.1, p2, p3] at h382a
                          exact ⟨h382a.1, c370, h382a.2⟩)] at hQ
                        rw [← p3, ← z.2.2] at hQ
                        exact hQ _ (Ag.wr (Ag.wr (Ag.wr Ag.rf rfl) rfl) rfl) (VwM.w1 (VwM.w1 (VwM.w0 hP)))))
          · replace c101 := bI_nz c101
            refine ⟨rfl, Or.inl rfl, ?_⟩
            first
            | (exfalso; (try simp only [Int32.reduceToInt, l1, u96, u107, u92] at c36 c69 c81 c91 h98a c101); omega)
            | (unfold brF at hQ
               try simp only [Int32.reduceToInt, l1, u96, u107, u92] at c36 c69 c81 c91 h98a c101
               rw [bk_n (by omega) (by rw [← p2]; omega) (by rw [← p3, ← p4]; omega)] at hQ
               exact hQ _ agM (VwMU hP))
        · refine ⟨_, _, rfl, (by refine ⟨?_, ?_⟩ <;> omega), ?_⟩
          refine ⟨fun c125_0 => ?_, fun c125_0 => ?_⟩
          · try simp only [Int32.reduceToInt, l1, u96, u107, u92] at c36 c69 c81 c91 c125_0
            refine ⟨_, _, rfl, hv30, ?_⟩
            refine ⟨_, rfl, hv30, ?_⟩
            refine ⟨_, _, rfl, hv30, ?_⟩
            refine ⟨_, _, rfl, (hw1 (by omega)), ?_⟩
            refine ⟨_, _, rfl, (hx25 (by omega)), ?_⟩
            refine ⟨_, rfl, (hx25 (by omega)), ?_⟩
            refine ⟨rfl, Or.inr rfl, ?_⟩
            first
            | (exfalso; (try simp only [Int32.reduceToInt, l1, u96, u107, u92] at c36 c69 c81 c91 c125_0); omega)
            | (unfold brF at hQ
               try simp only [Int32.reduceToInt, l1, u96, u107, u92] at c36 c69 c81 c91 c125_0
               rw [bk_1 (by assumption) (by rw [← p2]; omega) (by rw [← p3, ← p4]; omega)] at hQ
               have hF0 := (ws (by omega)).2.1
               have hix := hx5 (by omega)
               rw [← p3] at hQ
               refine hQ _ (Ag.wr (Ag.wr agM rfl) rfl) (VwM.ws (VwM.w1 (VwMU hP)) (by omega) (by omega) hix ?_)
               show σ 109 (5 * σ 92 (σ 12 l.toInt.toNat).toInt.toNat + σ 89 (σ 102 l.toInt.toNat).toInt.toNat).toInt.toNat + (σ 16 l.toInt.toNat) = _
               rw [hix, p5 _ _ (by omega) (by omega), wr_c (show (3 + (σ 2 (σ 17 l.toInt.toNat).toInt.toNat).toInt.toNat : Nat) ≠ 1 by omega)])
          refine ⟨fun c125_1 => ?_, fun c125_1 => ?_⟩
          · try simp only [Int32.reduceToInt, l1, u96, u107, u92] at c36 c69 c81 c91 c125_0 c125_1
            refine ⟨_, _, rfl, hv30, ?_⟩
            refine ⟨fun c201 => ?_, fun c201 => ?_⟩
            · refine ⟨rfl, rfl, ?_⟩
              refine m_gets hv30 (fun (h207a : ¬ (¬ (σ 106 (σ 12 l.toInt.toNat).toInt.toNat).toInt = 0 ∧ (σ 107 (σ 12 l.toInt.toNat).toInt.toNat + (σ 16 l.toInt.toNat)).toInt ≤ 100000)) => ?_) (fun (h207a : ¬ (σ 106 (σ 12 l.toInt.toNat).toInt.toNat).toInt = 0 ∧ (σ 107 (σ 12 l.toInt.toNat).toInt.toNat + (σ 16 l.toInt.toNat)).toInt ≤ 100000) => ?_)
              · refine ⟨fun _ => ?_, fun z => absurd (by decide) z⟩
                refine ⟨fun _ => ?_, fun z => absurd (by decide) z⟩
                refine ⟨_, _, rfl, hv30, ?_⟩
                refine ⟨_, rfl, hv30, ?_⟩
                refine ⟨rfl, Or.inl rfl, ?_⟩
                first
                | (exfalso; (try simp only [Int32.reduceToInt, l1, u96, u107, u92] at c36 c69 c81 c91 c125_0 c125_1 c201 h207a); omega)
                | (unfold brF at hQ
                   try simp only [Int32.reduceToInt, l1, u96, u107, u92] at c36 c69 c81 c91 c125_0 c125_1 c201 h207a
                   rw [bk_2n (by assumption) (by rw [← p2]; omega) (by rw [← p3]; rw [v1] at c201; intro q; first | exact h207a ⟨by assumption, q.2⟩ | exact c201 q.1)] at hQ
                   rw [wr_same rfl]
                   exact hQ _ Ag.rf hP)
              · refine ⟨fun z => absurd z (by decide), fun _ => ?_⟩
                refine ⟨fun z => absurd z (by decide), fun _ => ?_⟩
                refine ⟨_, rfl, hv30, ?_⟩
                refine ⟨rfl, Or.inr rfl, ?_⟩
                first
                | (exfalso; (try simp only [Int32.reduceToInt, l1, u96, u107, u92] at c36 c69 c81 c91 c125_0 c125_1 c201 h207a); omega)
                | (unfold brF at hQ
                   try simp only [Int32.reduceToInt, l1, u96, u107, u92] at c36 c69 c81 c91 c125_0 c125_1 c201 h207a
                   rw [bk_2 (by assumption) (by rw [← p2]; omega) (by rw [← p3]; rw [v1] at c201; exact ⟨by assumption, h207a.2⟩)] at hQ
                   rw [← p3] at hQ
                   exact hQ _ (Ag.wr (Ag.wr Ag.rf rfl) rfl) (VwM.w2 (VwM.w1 hP)))
            · refine ⟨fun _ => ?_, fun z => absurd (by decide) z⟩
              refine ⟨_, _, rfl, hv30, ?_⟩
              refine ⟨_, rfl, hv30, ?_⟩
              refine ⟨rfl, Or.inl rfl, ?_⟩
              first
              | (exfalso; (try simp only [Int32.reduceToInt, l1, u96, u107, u92] at c36 c69 c81 c91 c125_0 c125_1 c201); omega)
              | (unfold brF at hQ
                 try simp only [Int32.reduceToInt, l1, u96, u107, u92] at c36 c69 c81 c91 c125_0 c125_1 c201
                 rw [bk_2n (by assumption) (by rw [← p2]; omega) (by rw [← p3]; rw [v1] at c201; intro q; first | exact h207a ⟨by assumption, q.2⟩ | exact c201 q.1)] at hQ
                 rw [wr_same rfl]
                 exact hQ _ Ag.rf hP)
          refine ⟨fun c125_2 => ?_, fun c125_2 => ?_⟩
          · try simp only [Int32.reduceToInt, l1, u96, u107, u92] at c36 c69 c81 c91 c125_0 c125_1 c125_2
            refine ⟨_, _, rfl, (hw3 (by omega)), ?_⟩
            refine ⟨_, _, rfl, hv30, ?_⟩
            refine ⟨fun c258 => ?_, fun c258 => ?_⟩
            · refine ⟨rfl, rfl, ?_⟩
              refine m_gets (hw3 (by omega)) (fun (h265a : ¬ (¬ (σ 106 (σ 102 l.toInt.toNat).toInt.toNat).toInt = 0 ∧ (σ 107 (σ 102 l.toInt.toNat).toInt.toNat + (σ 16 l.toInt.toNat)).toInt ≤ 100000)) => ?_) (fun (h265a : ¬ (σ 106 (σ 102 l.toInt.toNat).toInt.toNat).toInt = 0 ∧ (σ 107 (σ 102 l.toInt.toNat).toInt.toNat + (σ 16 l.toInt.toNat)).toInt ≤ 100000) => ?_)
              · refine ⟨fun _ => ?_, fun z => absurd (by decide) z⟩
                refine ⟨_, _, rfl, hv30, ?_⟩
                refine ⟨fun _ => ?_, fun z => absurd (by decide) z⟩
                refine ⟨_, rfl, hv30, ?_⟩
                refine ⟨rfl, Or.inl rfl, ?_⟩
                first
                | (exfalso; (try simp only [Int32.reduceToInt, l1, u96, u107, u92] at c36 c69 c81 c91 c125_0 c125_1 c125_2 c258 h265a); omega)
                | (unfold brF at hQ
                   try simp only [Int32.reduceToInt, l1, u96, u107, u92] at c36 c69 c81 c91 c125_0 c125_1 c125_2 c258 h265a
                   rw [bk_3n (by assumption) (by rw [← p2]; omega) (by rw [← p3, ← p4]; omega) (fun q => by first | (rw [(wo (by omega)).2.2, p2, p3] at h265a; exact h265a ⟨q.1, q.2.2⟩) | (rw [v3, (wo (by omega)).2.2] at c258; exact c258 q.2.1))] at hQ
                   rw [wr_same (Int32.sub_zero _)]
                   exact hQ _ agM (VwMU hP))
              · refine ⟨fun z => absurd z (by decide), fun _ => ?_⟩
                refine ⟨_, _, rfl, hv30, ?_⟩
                refine ⟨fun z => absurd z (by decide), fun _ => ?_⟩
                refine ⟨_, rfl, hv30, ?_⟩
                refine ⟨rfl, Or.inr rfl, ?_⟩
                first
                | (exfalso; (try simp only [Int32.reduceToInt, l1, u96, u107, u92] at c36 c69 c81 c91 c125_0 c125_1 c125_2 c258 h265a); omega)
                | (unfold brF at hQ
                   try simp only [Int32.reduceToInt, l1, u96, u107, u92] at c36 c69 c81 c91 c125_0 c125_1 c125_2 c258 h265a
                   rw [bk_3 (by assumption) (by rw [← p2]; omega) (by rw [← p3, ← p4]; omega) (by rw [v3] at c258; rw [(wo (by omega)).2.2, p2, p3] at h265a; rw [(wo (by omega)).2.2] at c258; exact ⟨h265a.1, c258, h265a.2⟩)] at hQ
                   have hne := (wo (by omega)).2.1
                   have hwo := (wo (by omega)).1
                   rw [← p3, wr_comm (show (σ 12 l.toInt.toNat).toInt.toNat ≠ (σ 17 l.toInt.toNat).toInt.toNat by omega), ← (wo (by omega)).2.2] at hQ
                   have e2 : upd (σ 107) (σ 102 l.toInt.toNat).toInt.toNat (σ 107 (σ 102 l.toInt.toNat).toInt.toNat + (σ 16 l.toInt.toNat)) (σ 12 l.toInt.toNat).toInt.toNat = σ 107 (σ 12 l.toInt.toNat).toInt.toNat := pk_un (by rw [(wo (by omega)).2.2]; omega)
                   rw [← e2] at hQ
                   exact hQ _ (Ag.wr (Ag.wr agM rfl) rfl) (VwM.w1 (VwM.w1 (VwMU hP))))
            · refine ⟨_, _, rfl, hv30, ?_⟩
              refine ⟨fun _ => ?_, fun z => absurd (by decide) z⟩
              refine ⟨_, rfl, hv30, ?_⟩
              refine ⟨rfl, Or.inl rfl, ?_⟩
              first
              | (exfalso; (try simp only [Int32.reduceToInt, l1, u96, u107, u92] at c36 c69 c81 c91 c125_0 c125_1 c125_2 c258); omega)
              | (unfold brF at hQ
                 try simp only [Int32.reduceToInt, l1, u96, u107, u92] at c36 c69 c81 c91 c125_0 c125_1 c125_2 c258
                 rw [bk_3n (by assumption) (by rw [← p2]; omega) (by rw [← p3, ← p4]; omega) (fun q => by first | (rw [(wo (by omega)).2.2, p2, p3] at h265a; exact h265a ⟨q.1, q.2.2⟩) | (rw [v3, (wo (by omega)).2.2] at c258; exact c258 q.2.1))] at hQ
                 rw [wr_same (Int32.sub_zero _)]
                 exact hQ _ agM (VwMU hP))
          refine ⟨fun c125_3 => ?_, fun c125_3 => ?_⟩
          · try simp only [Int32.reduceToInt, l1, u96, u107, u92] at c36 c69 c81 c91 c125_0 c125_1 c125_2 c125_3
            refine ⟨rfl, rfl, ?_⟩
            refine m_gets hv30 (fun (h303a : ¬ (¬ (σ 106 (σ 12 l.toInt.toNat).toInt.toNat).toInt = 0 ∧ (σ 107 (σ 12 l.toInt.toNat).toInt.toNat + (σ 16 l.toInt.toNat)).toInt ≤ 100000)) => ?_) (fun (h303a : ¬ (σ 106 (σ 12 l.toInt.toNat).toInt.toNat).toInt = 0 ∧ (σ 107 (σ 12 l.toInt.toNat).toInt.toNat + (σ 16 l.toInt.toNat)).toInt ≤ 100000) => ?_)
            · refine ⟨_, _, rfl, hv30, ?_⟩
              refine ⟨_, _, rfl, (hw1 (by omega)), ?_⟩
              refine ⟨_, _, rfl, (hx25 (by omega)), ?_⟩
              refine ⟨fun _ => ?_, fun z => absurd (by decide) z⟩
              refine ⟨_, rfl, (hx25 (by omega)), ?_⟩
              refine ⟨rfl, Or.inl rfl, ?_⟩
              first
              | (exfalso; (try simp only [Int32.reduceToInt, l1, u96, u107, u92] at c36 c69 c81 c91 c125_0 c125_1 c125_2 c125_3 h303a); omega)
              | (unfold brF at hQ
                 try simp only [Int32.reduceToInt, l1, u96, u107, u92] at c36 c69 c81 c91 c125_0 c125_1 c125_2 c125_3 h303a
                 rw [bk_4n (by assumption) (by rw [← p2]; omega) (by rw [← p3]; intro q; exact h303a ⟨by assumption, q⟩)] at hQ
                 rw [wr_same (Int32.sub_zero _)]
                 exact hQ _ Ag.rf hP)
            · refine ⟨_, _, rfl, hv30, ?_⟩
              refine ⟨_, _, rfl, (hw1 (by omega)), ?_⟩
              refine ⟨_, _, rfl, (hx25 (by omega)), ?_⟩
              refine ⟨fun z => absurd z (by decide), fun _ => ?_⟩
              refine ⟨_, rfl, (hx25 (by omega)), ?_⟩
              refine ⟨rfl, Or.inr rfl, ?_⟩
              first
              | (exfalso; (try simp only [Int32.reduceToInt, l1, u96, u107, u92] at c36 c69 c81 c91 c125_0 c125_1 c125_2 c125_3 h303a); omega)
              | (unfold brF at hQ
                 try simp only [Int32.reduceToInt, l1, u96, u107, u92] at c36 c69 c81 c91 c125_0 c125_1 c125_2 c125_3 h303a
                 rw [bk_4 (by assumption) (by rw [← p2]; omega) (by rw [← p3]; exact h303a.2)] at hQ
                 have hF0 := (ws (by omega)).2.1
                 have hix := hx5 (by omega)
                 rw [← p3] at hQ
                 refine hQ _ (Ag.wr (Ag.wr Ag.rf rfl) rfl) (VwM.ws (VwM.w1 hP) (by omega) (by omega) hix ?_)
                 show σ 109 (5 * σ 92 (σ 12 l.toInt.toNat).toInt.toNat + σ 89 (σ 102 l.toInt.toNat).toInt.toNat).toInt.toNat - (σ 16 l.toInt.toNat) = _
                 rw [hix, p5 _ _ (by omega) (by omega), Int32.sub_eq_add_neg, wr_c (show (3 + (σ 2 (σ 17 l.toInt.toNat).toInt.toNat).toInt.toNat : Nat) ≠ 1 by omega)])
          try simp only [Int32.reduceToInt, l1, u96, u107, u92] at c36 c69 c81 c91 c125_0 c125_1 c125_2 c125_3
          refine ⟨hv30, Or.inl rfl, ?_⟩
          refine ⟨fun c354 => ?_, fun c354 => ?_⟩
          · refine ⟨_, rfl, hv30, ?_⟩
            refine ⟨rfl, Or.inr rfl, ?_⟩
            first
            | (exfalso; (try simp only [Int32.reduceToInt, l1, u96, u107, u92] at c36 c69 c81 c91 c125_0 c125_1 c125_2 c125_3 c354); omega)
            | (unfold brF at hQ
               try simp only [Int32.reduceToInt, l1, u96, u107, u92] at c36 c69 c81 c91 c125_0 c125_1 c125_2 c125_3 c354
               have z5 := wl (by omega)
               have e0 : (σ 17 l.toInt.toNat).toInt ≠ (σ 12 l.toInt.toNat).toInt → 0 ≤ (σ 17 l.toInt.toNat).toInt → wr σ 106 (σ 12 l.toInt.toNat).toInt.toNat 0 106 (σ 17 l.toInt.toNat).toInt.toNat = σ 106 (σ 17 l.toInt.toNat).toInt.toNat := fun q q2 => pk_un (f := σ 106) (by omega)
               first
               | (rw [bk_5n (by omega) (by rw [← p2]; omega) (fun q => by
                    rcases z5 with z | z
                    · omega
                    · first
                      | (rw [z.2.2] at c354; omega)
                      | (rw [z.2.2, e0 z.2.1 z.1.1, p2, p3] at h382a; exact h382a ⟨q.2.1, q.2.2.2⟩)
                      | (have c370 : ¬ (σ 92 (σ 102 l.toInt.toNat).toInt.toNat).toInt = (σ 92 (σ 12 l.toInt.toNat).toInt.toNat).toInt := c370; rw [v3, z.2.2] at c370; exact c370 q.2.2.1))] at hQ
                  exact hQ _ (Ag.wr (Ag.wr Ag.rf rfl) rfl) (VwM.w1 (VwM.w0 hP)))
               | (have z : (0 ≤ (σ 17 l.toInt.toNat).toInt ∧ (σ 17 l.toInt.toNat).toInt < (σ 3 0).toInt) ∧ (σ 17 l.toInt.toNat).toInt ≠ (σ 12 l.toInt.toNat).toInt ∧ σ 102 l.toInt.toNat = σ 17 l.toInt.toNat := by
                    rcases z5 with z | z
                    · exfalso; omega
                    · exact z
                  rw [bk_5 (by omega) (by rw [← p2]; omega) (by
                    refine ⟨z.1.1, ?_⟩
                    have c370 : (σ 92 (σ 102 l.toInt.toNat).toInt.toNat).toInt = (σ 92 (σ 12 l.toInt.toNat).toInt.toNat).toInt := c370
                    rw [v3, z.2.2] at c370
                    rw [z.2.2, e0 z.2.1 z.1.1, p2, p3] at h382a
                    exact ⟨h382a.1, c370, h382a.2⟩)] at hQ
                  rw [← p3, ← z.2.2] at hQ
                  exact hQ _ (Ag.wr (Ag.wr (Ag.wr Ag.rf rfl) rfl) rfl) (VwM.w1 (VwM.w1 (VwM.w0 hP)))))
          · refine ⟨_, _, rfl, (hw5 (by omega) (by omega)), ?_⟩
            refine ⟨_, _, rfl, hv30, ?_⟩
            refine ⟨fun c370 => ?_, fun c370 => ?_⟩
            · refine ⟨_, _, rfl, hv30, ?_⟩
              refine ⟨rfl, rfl, ?_⟩
              refine m_gets (hw5 (by omega) (by omega)) (fun (h382a : ¬ (¬ ((wr σ 106 (σ 12 l.toInt.toNat).toInt.toNat 0) 106 (σ 102 l.toInt.toNat).toInt.toNat).toInt = 0 ∧ (σ 107 (σ 102 l.toInt.toNat).toInt.toNat + σ 107 (σ 12 l.toInt.toNat).toInt.toNat).toInt ≤ 100000)) => ?_) (fun (h382a : ¬ ((wr σ 106 (σ 12 l.toInt.toNat).toInt.toNat 0) 106 (σ 102 l.toInt.toNat).toInt.toNat).toInt = 0 ∧ (σ 107 (σ 102 l.toInt.toNat).toInt.toNat + σ 107 (σ 12 l.toInt.toNat).toInt.toNat).toInt ≤ 100000) => ?_)
              · refine ⟨fun _ => ?_, fun z => absurd (by decide) z⟩
                refine ⟨_, rfl, hv30, ?_⟩
                refine ⟨rfl, Or.inr rfl, ?_⟩
                first
                | (exfalso; (try simp only [Int32.reduceToInt, l1, u96, u107, u92] at c36 c69 c81 c91 c125_0 c125_1 c125_2 c125_3 c354 c370 h382a); omega)
                | (unfold brF at hQ
                   try simp only [Int32.reduceToInt, l1, u96, u107, u92] at c36 c69 c81 c91 c125_0 c125_1 c125_2 c125_3 c354 c370 h382a
                   have z5 := wl (by omega)
                   have e0 : (σ 17 l.toInt.toNat).toInt ≠ (σ 12 l.toInt.toNat).toInt → 0 ≤ (σ 17 l.toInt.toNat).toInt → wr σ 106 (σ 12 l.toInt.toNat).toInt.toNat 0 106 (σ 17 l.toInt.toNat).toInt.toNat = σ 106 (σ 17 l.toInt.toNat).toInt.toNat := fun q q2 => pk_un (f := σ 106) (by omega)
                   first
                   | (rw [bk_5n (by omega) (by rw [← p2]; omega) (fun q => by
                        rcases z5 with z | z
                        · omega
                        · first
                          | (rw [z.2.2] at c354; omega)
                          | (rw [z.2.2, e0 z.2.1 z.1.1, p2, p3] at h382a; exact h382a ⟨q.2.1, q.2.2.2⟩)
                          | (have c370 : ¬ (σ 92 (σ 102 l.toInt.toNat).toInt.toNat).toInt = (σ 92 (σ 12 l.toInt.toNat).toInt.toNat).toInt := c370; rw [v3, z.2.2] at c370; exact c370 q.2.2.1))] at hQ
                      exact hQ _ (Ag.wr (Ag.wr Ag.rf rfl) rfl) (VwM.w1 (VwM.w0 hP)))
                   | (have z : (0 ≤ (σ 17 l.toInt.toNat).toInt ∧ (σ 17 l.toInt.toNat).toInt < (σ 3 0).toInt) ∧ (σ 17 l.toInt.toNat).toInt ≠ (σ 12 l.toInt.toNat).toInt ∧ σ 102 l.toInt.toNat = σ 17 l.toInt.toNat := by
                        rcases z5 with z | z
                        · exfalso; omega
                        · exact z
                      rw [bk_5 (by omega) (by rw [← p2]; omega) (by
                        refine ⟨z.1.1, ?_⟩
                        have c370 : (σ 92 (σ 102 l.toInt.toNat).toInt.toNat).toInt = (σ 92 (σ 12 l.toInt.toNat).toInt.toNat).toInt := c370
                        rw [v3, z.2.2] at c370
                        rw [z.2.2, e0 z.2.1 z.1.1, p2, p3] at h382a
                        exact ⟨h382a.1, c370, h382a.2⟩)] at hQ
                      rw [← p3, ← z.2.2] at hQ
                      exact hQ _ (Ag.wr (Ag.wr (Ag.wr Ag.rf rfl) rfl) rfl) (VwM.w1 (VwM.w1 (VwM.w0 hP)))))
              · refine ⟨fun z => absurd z (by decide), fun _ => ?_⟩
                refine ⟨_, rfl, hv30, ?_⟩
                refine ⟨rfl, Or.inr rfl, ?_⟩
                first
                | (exfalso; (try simp only [Int32.reduceToInt, l1, u96, u107, u92] at c36 c69 c81 c91 c125_0 c125_1 c125_2 c125_3 c354 c370 h382a); omega)
                | (unfold brF at hQ
                   try simp only [Int32.reduceToInt, l1, u96, u107, u92] at c36 c69 c81 c91 c125_0 c125_1 c125_2 c125_3 c354 c370 h382a
                   have z5 := wl (by omega)
                   have e0 : (σ 17 l.toInt.toNat).toInt ≠ (σ 12 l.toInt.toNat).toInt → 0 ≤ (σ 17 l.toInt.toNat).toInt → wr σ 106 (σ 12 l.toInt.toNat).toInt.toNat 0 106 (σ 17 l.toInt.toNat).toInt.toNat = σ 106 (σ 17 l.toInt.toNat).toInt.toNat := fun q q2 => pk_un (f := σ 106) (by omega)
                   first
                   | (rw [bk_5n (by omega) (by rw [← p2]; omega) (fun q => by
                        rcases z5 with z | z
                        · omega
                        · first
                          | (rw [z.2.2] at c354; omega)
                          | (rw [z.2.2, e0 z.2.1 z.1.1, p2, p3] at h382a; exact h382a ⟨q.2.1, q.2.2.2⟩)
                          | (have c370 : ¬ (σ 92 (σ 102 l.toInt.toNat).toInt.toNat).toInt = (σ 92 (σ 12 l.toInt.toNat).toInt.toNat).toInt := c370; rw [v3, z.2.2] at c370; exact c370 q.2.2.1))] at hQ
                      exact hQ _ (Ag.wr (Ag.wr Ag.rf rfl) rfl) (VwM.w1 (VwM.w0 hP)))
                   | (have z : (0 ≤ (σ 17 l.toInt.toNat).toInt ∧ (σ 17 l.toInt.toNat).toInt < (σ 3 0).toInt) ∧ (σ 17 l.toInt.toNat).toInt ≠ (σ 12 l.toInt.toNat).toInt ∧ σ 102 l.toInt.toNat = σ 17 l.toInt.toNat := by
                        rcases z5 with z | z
                        · exfalso; omega
                        · exact z
                      rw [bk_5 (by omega) (by rw [← p2]; omega) (by
                        refine ⟨z.1.1, ?_⟩
                        have c370 : (σ 92 (σ 102 l.toInt.toNat).toInt.toNat).toInt = (σ 92 (σ 12 l.toInt.toNat).toInt.toNat).toInt := c370
                        rw [v3, z.2.2] at c370
                        rw [z.2.2, e0 z.2.1 z.1.1, p2, p3] at h382a
                        exact ⟨h382a.1, c370, h382a.2⟩)] at hQ
                      rw [← p3, ← z.2.2] at hQ
                      exact hQ _ (Ag.wr (Ag.wr (Ag.wr Ag.rf rfl) rfl) rfl) (VwM.w1 (VwM.w1 (VwM.w0 hP)))))
            · refine ⟨_, rfl, hv30, ?_⟩
              refine ⟨rfl, Or.inr rfl, ?_⟩
              first
              | (exfalso; (try simp only [Int32.reduceToInt, l1, u96, u107, u92] at c36 c69 c81 c91 c125_0 c125_1 c125_2 c125_3 c354 c370); omega)
              | (unfold brF at hQ
                 try simp only [Int32.reduceToInt, l1, u96, u107, u92] at c36 c69 c81 c91 c125_0 c125_1 c125_2 c125_3 c354 c370
                 have z5 := wl (by omega)
                 have e0 : (σ 17 l.toInt.toNat).toInt ≠ (σ 12 l.toInt.toNat).toInt → 0 ≤ (σ 17 l.toInt.toNat).toInt → wr σ 106 (σ 12 l.toInt.toNat).toInt.toNat 0 106 (σ 17 l.toInt.toNat).toInt.toNat = σ 106 (σ 17 l.toInt.toNat).toInt.toNat := fun q q2 => pk_un (f := σ 106) (by omega)
                 first
                 | (rw [bk_5n (by omega) (by rw [← p2]; omega) (fun q => by
                      rcases z5 with z | z
                      · omega
                      · first
                        | (rw [z.2.2] at c354; omega)
                        | (rw [z.2.2, e0 z.2.1 z.1.1, p2, p3] at h382a; exact h382a ⟨q.2.1, q.2.2.2⟩)
                        | (have c370 : ¬ (σ 92 (σ 102 l.toInt.toNat).toInt.toNat).toInt = (σ 92 (σ 12 l.toInt.toNat).toInt.toNat).toInt := c370; rw [v3, z.2.2] at c370; exact c370 q.2.2.1))] at hQ
                    exact hQ _ (Ag.wr (Ag.wr Ag.rf rfl) rfl) (VwM.w1 (VwM.w0 hP)))
                 | (have z : (0 ≤ (σ 17 l.toInt.toNat).toInt ∧ (σ 17 l.toInt.toNat).toInt < (σ 3 0).toInt) ∧ (σ 17 l.toInt.toNat).toInt ≠ (σ 12 l.toInt.toNat).toInt ∧ σ 102 l.toInt.toNat = σ 17 l.toInt.toNat := by
                      rcases z5 with z | z
                      · exfalso; omega
                      · exact z
                    rw [bk_5 (by omega) (by rw [← p2]; omega) (by
                      refine ⟨z.1.1, ?_⟩
                      have c370 : (σ 92 (σ 102 l.toInt.toNat).toInt.toNat).toInt = (σ 92 (σ 12 l.toInt.toNat).toInt.toNat).toInt := c370
                      rw [v3, z.2.2] at c370
                      rw [z.2.2, e0 z.2.1 z.1.1, p2, p3] at h382a
                      exact ⟨h382a.1, c370, h382a.2⟩)] at hQ
                    rw [← p3, ← z.2.2] at hQ
                    exact hQ _ (Ag.wr (Ag.wr (Ag.wr Ag.rf rfl) rfl) rfl) (VwM.w1 (VwM.w1 (VwM.w0 hP)))))
