def InvQ (σ : Mm) : Prop := I_tr σ ∧ I_vo σ ∧ I_li σ ∧ I_or σ ∧ True ∧ True ∧ True ∧ True ∧ True ∧ True ∧ I_la σ ∧ True
theorem InvQ_G {σ τ : Mm} (hI : InvQ σ) (h : Ag LsG σ τ) (h88 : ∀ j, j ≠ 26 → τ 88 j = σ 88 j) : InvQ τ := ⟨(I_tr_fr (σ := σ) (h 2 rfl) (h 89 rfl) (congrFun (h 1 rfl) 0) (congrFun (h 1 rfl) 1) (congrFun (h 1 rfl) 2) (h88 0 (by decide)) (h88 1 (by decide)) (h88 2 (by decide)) hI.1),
  (I_vo_fr (σ := σ) (h 4 rfl) (h 5 rfl) (h 6 rfl) (h 7 rfl) (h 8 rfl) (h 9 rfl) (h 90 rfl) (h 91 rfl) (h 92 rfl) (h 93 rfl) (h 94 rfl) (h 95 rfl) (congrFun (h 3 rfl) 0) (h88 4 (by decide)) (congrFun (h 1 rfl) 1) hI.2.1),
  (I_li_fr (σ := σ) (h 9 rfl) (h 11 rfl) (h 12 rfl) (h 13 rfl) (h 14 rfl) (h 15 rfl) (h 16 rfl) (h 17 rfl) (h 96 rfl) (h 97 rfl) (h 98 rfl) (h 99 rfl) (h 100 rfl) (h 101 rfl) (h 102 rfl) (congrFun (h 10 rfl) 0) (congrFun (h 10 rfl) 1) (h88 11 (by decide)) (congrFun (h 1 rfl) 0) (congrFun (h 1 rfl) 2) (congrFun (h 3 rfl) 0) hI.2.2.1),
  (I_or_fr (σ := σ) (h 13 rfl) (h 18 rfl) (congrFun (h 10 rfl) 0) hI.2.2.2.1),
  trivial,
  trivial,
  trivial,
  trivial,
  trivial,
  trivial,
  (I_la_fr (σ := σ) (h 20 rfl) (h 22 rfl) (h 23 rfl) (h 24 rfl) (h 26 rfl) (h 27 rfl) (h 28 rfl) (h 110 rfl) (h 111 rfl) (h 112 rfl) (h 113 rfl) hI.2.2.2.2.2.2.2.2.2.2.1),
  trivial⟩
/-- from Inv, guesses of the class written -/
theorem InvQ_gu {σ τ : Mm} (hI : Inv σ) (h : Ag [29, 34, 35, 36, 37, 39, 40, 41, 42, 43, 44, 78, 79, 80, 81] σ τ) : InvQ τ := ⟨(I_tr_fr (σ := σ) (h 2 rfl) (h 89 rfl) (congrFun (h 1 rfl) 0) (congrFun (h 1 rfl) 1) (congrFun (h 1 rfl) 2) (congrFun (h 88 rfl) 0) (congrFun (h 88 rfl) 1) (congrFun (h 88 rfl) 2) hI.1),
  (I_vo_fr (σ := σ) (h 4 rfl) (h 5 rfl) (h 6 rfl) (h 7 rfl) (h 8 rfl) (h 9 rfl) (h 90 rfl) (h 91 rfl) (h 92 rfl) (h 93 rfl) (h 94 rfl) (h 95 rfl) (congrFun (h 3 rfl) 0) (congrFun (h 88 rfl) 4) (congrFun (h 1 rfl) 1) hI.2.1),
  (I_li_fr (σ := σ) (h 9 rfl) (h 11 rfl) (h 12 rfl) (h 13 rfl) (h 14 rfl) (h 15 rfl) (h 16 rfl) (h 17 rfl) (h 96 rfl) (h 97 rfl) (h 98 rfl) (h 99 rfl) (h 100 rfl) (h 101 rfl) (h 102 rfl) (congrFun (h 10 rfl) 0) (congrFun (h 10 rfl) 1) (congrFun (h 88 rfl) 11) (congrFun (h 1 rfl) 0) (congrFun (h 1 rfl) 2) (congrFun (h 3 rfl) 0) hI.2.2.1),
  (I_or_fr (σ := σ) (h 13 rfl) (h 18 rfl) (congrFun (h 10 rfl) 0) hI.2.2.2.1),
  trivial,
  trivial,
  trivial,
  trivial,
  trivial,
  trivial,
  (I_la_fr (σ := σ) (h 20 rfl) (h 22 rfl) (h 23 rfl) (h 24 rfl) (h 26 rfl) (h 27 rfl) (h 28 rfl) (h 110 rfl) (h 111 rfl) (h 112 rfl) (h 113 rfl) hI.2.2.2.2.2.2.2.2.2.2.1),
  trivial⟩
theorem lineFQ {σ : Mm} (hI : InvQ σ) {l : Nat} (hl : (l : Int) < (σ 10 0).toInt) : ((0 ≤ (σ 11 l).toInt ∧ (σ 11 l).toInt ≤ 5) ∧ (0 ≤ (σ 12 l).toInt ∧ (σ 12 l).toInt < (σ 3 0).toInt) ∧ (σ 3 0).toInt ≤ 30 ∧ (σ 10 0).toInt ≤ 100 ∧ (σ 1 2).toInt ≤ 10) ∧
  ((0 ≤ (σ 5 (σ 12 l).toInt.toNat).toInt ∧ (σ 5 (σ 12 l).toInt.toNat).toInt ≤ 2) ∧ (0 ≤ (σ 6 (σ 12 l).toInt.toNat).toInt ∧ (σ 6 (σ 12 l).toInt.toNat).toInt < 5)) ∧
  (((σ 11 l).toInt = 1 ∨ (σ 11 l).toInt = 4) → (0 ≤ (σ 17 l).toInt ∧ (σ 17 l).toInt < (σ 1 2).toInt) ∧ (0 ≤ (σ 2 (σ 17 l).toInt.toNat).toInt ∧ (σ 2 (σ 17 l).toInt.toNat).toInt < 5) ∧ σ 102 l = σ 17 l) ∧
  ((σ 11 l).toInt = 3 → (0 ≤ (σ 17 l).toInt ∧ (σ 17 l).toInt < (σ 3 0).toInt) ∧ (σ 17 l).toInt ≠ (σ 12 l).toInt ∧ σ 102 l = σ 17 l) ∧
  ((σ 11 l).toInt = 5 → ((σ 17 l).toInt < 0 ∧ (σ 102 l).toInt < 0) ∨ ((0 ≤ (σ 17 l).toInt ∧ (σ 17 l).toInt < (σ 3 0).toInt) ∧ (σ 17 l).toInt ≠ (σ 12 l).toInt ∧ σ 102 l = σ 17 l)) ∧ ((σ 11 l).toInt = 0 → σ 16 l = σ 9 (σ 12 l).toInt.toNat) := by
  obtain ⟨⟨t0, t1, t2, t3⟩, ⟨t4, t5⟩, ⟨t6, t7⟩, ⟨t8, t9⟩, t10⟩ := id (hI.1)
  obtain ⟨⟨v0, v1, v2, v3, v4, v5, v6⟩, ⟨v7, v8⟩, v9⟩ := id (hI.2.1)
  obtain ⟨⟨l0, l1, l2, l3, l4, l5⟩, ⟨l6, l7⟩, l8, l9⟩ := id (hI.2.2.1)
  obtain ⟨a1, a2, a3, a4, a5, a6, a7, a8⟩ := l9 l hl
  obtain ⟨u1, u2, u3, u4, u5, u6⟩ := v9 (σ 12 l).toInt.toNat (by omega)
  have e1 : (-1000000005 : Int32).toInt = -1000000005 := rfl
  have e2 : (-1 : Int32).toInt = -1 := rfl
  refine ⟨⟨a1, a2, v8, l7, t9⟩, ⟨u2, u3.1, by omega⟩, fun q => ?_, fun q => ?_, fun q => ?_, a8⟩
  · rcases a7 with ⟨q1, q2, q3⟩ | ⟨q1, q2, q3, q4⟩ | ⟨q1, q2, q3, q4, q5⟩
    · exfalso; omega
    · have := t10 (σ 17 l).toInt.toNat (by omega)
      exact ⟨⟨q3, q4⟩, ⟨this.1, by omega⟩, q2⟩
    · exfalso; omega
  · rcases a7 with ⟨q1, q2, q3⟩ | ⟨q1, q2, q3, q4⟩ | ⟨q1, q2, q3, q4, q5⟩
    · exfalso; omega
    · exfalso; omega
    · exact ⟨⟨q3, q4⟩, q5, q2⟩
  · rcases a7 with ⟨q1, q2, q3⟩ | ⟨q1, q2, q3, q4⟩ | ⟨q1, q2, q3, q4, q5⟩
    · refine Or.inl ⟨?_, ?_⟩
      · rw [q2]; decide
      · rw [q3]; decide
    · exfalso; omega
    · exact Or.inr ⟨⟨q3, q4⟩, q5, q2⟩
set_option maxRecDepth 10000 in
theorem m_bringsQ {d : Nat} {σ : Mm} {Q : Qt} {l : Int32} {P : Mm} (hI : InvQ σ) (hP : VwM σ P) (hl : 0 ≤ l.toInt ∧ l.toInt < (σ 10 0).toInt) (hQ : ∀ τ, Ag LsM σ τ → VwM τ (brF σ P l.toInt.toNat).1 → Q (some (.int (brF σ P l.toInt.toNat).2)) τ) : Call (d + 6) k_X12_brings [.ref 88, .int l] σ Q := by
  have hL := hI.2.2.2.2.2.2.2.2.2.2.1
  have hVo := hI.2.1
  obtain ⟨⟨k1, k2, k3, k4, k5⟩, ⟨w1, w2⟩, ws, wo, wl, wb⟩ := lineFQ hI (l := l.toInt.toNat) (by omega)
  obtain ⟨⟨t0, t1, t2, t3⟩, ⟨t4, t5⟩, ⟨t6, t7⟩, ⟨t8, t9⟩, t10⟩ := id (hI.1)
  obtain ⟨⟨v0, v1, v2, v3, v4, v5, v6⟩, ⟨v7, v8⟩, v9⟩ := id (hI.2.1)
  obtain ⟨⟨l0, l1, l2, l3, l4, l5⟩, ⟨l6, l7⟩, l8, l9⟩ := id (hI.2.2.1)
  obtain ⟨p1, p2, p3, p4, p5⟩ := id hP
  have u96 : ∀ g, up σ 117 g 96 = σ 96 := fun _ => rfl
  have u92 : ∀ g, up σ 117 g 92 = σ 92 := fun _ => rfl
  have u107 : ∀ g, up σ 117 g 107 = σ 107 := fun _ => rfl
  have e96 : (σ 96 l.toInt.toNat).toInt = (σ 11 l.toInt.toNat).toInt := by rw [l1]
  have hv30 : ixs (σ 12 l.toInt.toNat) 30 := ⟨k2.1, by omega⟩
  have hw1 : ((σ 11 l.toInt.toNat).toInt = 1 ∨ (σ 11 l.toInt.toNat).toInt = 4) → ixs (σ 102 l.toInt.toNat) 10 := fun q => by rw [(ws q).2.2]; have := (ws q).1; exact ⟨by omega, by omega⟩
  have hw3 : (σ 11 l.toInt.toNat).toInt = 3 → ixs (σ 102 l.toInt.toNat) 30 := fun q => by rw [(wo q).2.2]; have := (wo q).1; exact ⟨by omega, by omega⟩
  have hw5 : (σ 11 l.toInt.toNat).toInt = 5 → ¬ (σ 102 l.toInt.toNat).toInt < 0 → ixs (σ 102 l.toInt.toNat) 30 := fun q q2 => by
    rcases wl q with z | z
    · omega
    · rw [z.2.2]; exact ⟨by omega, by omega⟩
  have hx0 : ((σ 11 l.toInt.toNat).toInt = 1 ∨ (σ 11 l.toInt.toNat).toInt = 4) → (5 * σ 92 (σ 12 l.toInt.toNat).toInt.toNat + σ 89 (σ 102 l.toInt.toNat).toInt.toNat).toInt = 5 * (σ 6 (σ 12 l.toInt.toNat).toInt.toNat).toInt + (σ 2 (σ 17 l.toInt.toNat).toInt.toNat).toInt := fun q => by
    rw [(ws q).2.2, v3, t3, ix5 w2 (ws q).2.1]
  have hx25 : ((σ 11 l.toInt.toNat).toInt = 1 ∨ (σ 11 l.toInt.toNat).toInt = 4) → ixs (5 * σ 92 (σ 12 l.toInt.toNat).toInt.toNat + σ 89 (σ 102 l.toInt.toNat).toInt.toNat) 25 := fun q => by
    have h1 := hx0 q
    have h2 := (ws q).2.1
    exact ⟨by omega, by omega⟩
  have hx5 : ((σ 11 l.toInt.toNat).toInt = 1 ∨ (σ 11 l.toInt.toNat).toInt = 4) → (5 * σ 92 (σ 12 l.toInt.toNat).toInt.toNat + σ 89 (σ 102 l.toInt.toNat).toInt.toNat).toInt.toNat = 5 * (σ 6 (σ 12 l.toInt.toNat).toInt.toNat).toInt.toNat + (σ 2 (σ 17 l.toInt.toNat).toInt.toNat).toInt.toNat := fun q => by
    have h1 := hx0 q
    have h2 := (ws q).2.1
    omega
  refine Call_st 200 fun X hX => ?_
  refine ⟨_, _, rfl, (by refine ⟨?_, ?_⟩ <;> omega), ?_⟩
  refine ⟨_, _, rfl, (by refine ⟨?_, ?_⟩ <;> omega), ?_⟩
  refine ⟨_, _, rfl, (by refine ⟨?_, ?_⟩ <;> omega), ?_⟩
  refine ⟨_, _, rfl, (by refine ⟨?_, ?_⟩ <;> omega), ?_⟩
  rw [l2, l3, l5]
  refine ⟨_, _, rfl, (by refine ⟨?_, ?_⟩ <;> omega), ?_⟩
  refine ⟨fun c36 => ?_, fun c36 => ?_⟩
  · refine ⟨hv30, Or.inr rfl, ?_⟩
    refine ⟨_, rfl, hv30, ?_⟩
    refine ⟨_, rfl, hv30, ?_⟩
    refine ⟨rfl, Or.inr rfl, ?_⟩
    first
    | (exfalso; (try simp only [Int32.reduceToInt, l1, u96, u107, u92] at c36); omega)
    | (unfold brF at hQ
       try simp only [Int32.reduceToInt, l1, u96, u107, u92] at c36
       rw [bk_0 (by omega)] at hQ
       rw [← wb (by omega)] at hQ
       exact hQ _ (Ag.wr (Ag.wr (Ag.wr Ag.rf rfl) rfl) rfl) (VwM.w2 (VwM.w1 (VwM.w0 hP))))
  · refine ⟨_, _, rfl, hv30, ?_⟩
    refine ⟨fun c69 => ?_, fun c69 => ?_⟩
    · refine ⟨rfl, Or.inl rfl, ?_⟩
      first
      | (exfalso; (try simp only [Int32.reduceToInt, l1, u96, u107, u92] at c36 c69); omega)
      | (unfold brF at hQ
         try simp only [Int32.reduceToInt, l1, u96, u107, u92] at c36 c69
         rw [bk_d (by omega) (by rw [← p2]; omega)] at hQ
         exact hQ _ Ag.rf hP)
    · refine ⟨_, _, rfl, (by refine ⟨?_, ?_⟩ <;> omega), ?_⟩
      refine ⟨fun c81 => ?_, fun c81 => ?_⟩
      · refine ⟨rfl, rfl, ?_⟩
        refine m_isEnded ⟨k2.1, by omega⟩ hL hVo w1 (fun h98a => ?_)
        refine ⟨fun c101 => ?_, fun c101 => ?_⟩
        · replace c101 := bI_z c101
          refine ⟨_, _, rfl, hv30, ?_⟩
          refine ⟨fun c111 => ?_, fun c111 => ?_⟩
          · refine ⟨rfl, Or.inl rfl, ?_⟩
            first
            | (exfalso; (try simp only [Int32.reduceToInt, l1, u96, u107, u92] at c36 c69 c81 h98a c101 c111); omega)
            | (unfold brF at hQ
               try simp only [Int32.reduceToInt, l1, u96, u107, u92] at c36 c69 c81 h98a c101 c111
               rw [bk_n (by omega) (by rw [← p2]; omega) (by rw [← p3, ← p4]; omega)] at hQ
               exact hQ _ agM (VwMU hP))
          · refine ⟨_, _, rfl, (by refine ⟨?_, ?_⟩ <;> omega), ?_⟩
            refine ⟨fun c125_0 => ?_, fun c125_0 => ?_⟩
            · try simp only [Int32.reduceToInt, l1, u96, u107, u92] at c36 c69 c81 h98a c101 c111 c125_0
              refine ⟨_, _, rfl, hv30, ?_⟩
              refine ⟨_, rfl, hv30, ?_⟩
              refine ⟨_, _, rfl, hv30, ?_⟩
              refine ⟨_, _, rfl, (hw1 (by omega)), ?_⟩
              refine ⟨_, _, rfl, (hx25 (by omega)), ?_⟩
              refine ⟨_, rfl, (hx25 (by omega)), ?_⟩
              refine ⟨rfl, Or.inr rfl, ?_⟩
              first
              | (exfalso; (try simp only [Int32.reduceToInt, l1, u96, u107, u92] at c36 c69 c81 h98a c101 c111 c125_0); omega)
              | (unfold brF at hQ
                 try simp only [Int32.reduceToInt, l1, u96, u107, u92] at c36 c69 c81 h98a c101 c111 c125_0
                 rw [bk_1 (by assumption) (by rw [← p2]; omega) (by rw [← p3, ← p4]; omega)] at hQ
                 have hF0 := (ws (by omega)).2.1
                 have hix := hx5 (by omega)
                 rw [← p3] at hQ
                 refine hQ _ (Ag.wr (Ag.wr agM rfl) rfl) (VwM.ws (VwM.w1 (VwMU hP)) (by omega) (by omega) hix ?_)
                 show σ 109 (5 * σ 92 (σ 12 l.toInt.toNat).toInt.toNat + σ 89 (σ 102 l.toInt.toNat).toInt.toNat).toInt.toNat + (σ 16 l.toInt.toNat) = _
                 rw [hix, p5 _ _ (by omega) (by omega), wr_c (show (3 + (σ 2 (σ 17 l.toInt.toNat).toInt.toNat).toInt.toNat : Nat) ≠ 1 by omega)])
            refine ⟨fun c125_1 => ?_, fun c125_1 => ?_⟩
            · try simp only [Int32.reduceToInt, l1, u96, u107, u92] at c36 c69 c81 h98a c101 c111 c125_0 c125_1
              refine ⟨_, _, rfl, hv30, ?_⟩
              refine ⟨fun c201 => ?_, fun c201 => ?_⟩
              · refine ⟨rfl, rfl, ?_⟩
                refine m_gets hv30 (fun (h207a : ¬ (¬ (σ 106 (σ 12 l.toInt.toNat).toInt.toNat).toInt = 0 ∧ (σ 107 (σ 12 l.toInt.toNat).toInt.toNat + (σ 16 l.toInt.toNat)).toInt ≤ 100000)) => ?_) (fun (h207a : ¬ (σ 106 (σ 12 l.toInt.toNat).toInt.toNat).toInt = 0 ∧ (σ 107 (σ 12 l.toInt.toNat).toInt.toNat + (σ 16 l.toInt.toNat)).toInt ≤ 100000) => ?_)
                · refine ⟨fun _ => ?_, fun z => absurd (by decide) z⟩
                  refine ⟨fun _ => ?_, fun z => absurd (by decide) z⟩
                  refine ⟨_, _, rfl, hv30, ?_⟩
                  refine ⟨_, rfl, hv30, ?_⟩
                  refine ⟨rfl, Or.inl rfl, ?_⟩
                  first
                  | (exfalso; (try simp only [Int32.reduceToInt, l1, u96, u107, u92] at c36 c69 c81 h98a c101 c111 c125_0 c125_1 c201 h207a); omega)
                  | (unfold brF at hQ
                     try simp only [Int32.reduceToInt, l1, u96, u107, u92] at c36 c69 c81 h98a c101 c111 c125_0 c125_1 c201 h207a
                     rw [bk_2n (by assumption) (by rw [← p2]; omega) (by rw [← p3]; rw [v1] at c201; intro q; first | exact h207a ⟨by assumption, q.2⟩ | exact c201 q.1)] at hQ
                     rw [wr_same rfl]
                     exact hQ _ Ag.rf hP)
                · refine ⟨fun z => absurd z (by decide), fun _ => ?_⟩
                  refine ⟨fun z => absurd z (by decide), fun _ => ?_⟩
                  refine ⟨_, rfl, hv30, ?_⟩
                  refine ⟨rfl, Or.inr rfl, ?_⟩
                  first
                  | (exfalso; (try simp only [Int32.reduceToInt, l1, u96, u107, u92] at c36 c69 c81 h98a c101 c111 c125_0 c125_1 c201 h207a); omega)
                  | (unfold brF at hQ
                     try simp only [Int32.reduceToInt, l1, u96, u107, u92] at c36 c69 c81 h98a c101 c111 c125_0 c125_1 c201 h207a
                     rw [bk_2 (by assumption) (by rw [← p2]; omega) (by rw [← p3]; rw [v1] at c201; exact ⟨by assumption, h207a.2⟩)] at hQ
                     rw [← p3] at hQ
                     exact hQ _ (Ag.wr (Ag.wr Ag.rf rfl) rfl) (VwM.w2 (VwM.w1 hP)))
              · refine ⟨fun _ => ?_, fun z => absurd (by decide) z⟩
                refine ⟨_, _, rfl, hv30, ?_⟩
                refine ⟨_, rfl, hv30, ?_⟩
                refine ⟨rfl, Or.inl rfl, ?_⟩
                first
                | (exfalso; (try simp only [Int32.reduceToInt, l1, u96, u107, u92] at c36 c69 c81 h98a c101 c111 c125_0 c125_1 c201); omega)
                | (unfold brF at hQ
                   try simp only [Int32.reduceToInt, l1, u96, u107, u92] at c36 c69 c81 h98a c101 c111 c125_0 c125_1 c201
                   rw [bk_2n (by assumption) (by rw [← p2]; omega) (by rw [← p3]; rw [v1] at c201; intro q; first | exact h207a ⟨by assumption, q.2⟩ | exact c201 q.1)] at hQ
                   rw [wr_same rfl]
                   exact hQ _ Ag.rf hP)
            refine ⟨fun c125_2 => ?_, fun c125_2 => ?_⟩
            · try simp only [Int32.reduceToInt, l1, u96, u107, u92] at c36 c69 c81 h98a c101 c111 c125_0 c125_1 c125_2
              refine ⟨_, _, rfl, (hw3 (by omega)), ?_⟩
              refine ⟨_, _, rfl, hv30, ?_⟩
              refine ⟨fun c258 => ?_, fun c258 => ?_⟩
              · refine ⟨rfl, rfl, ?_⟩
                refine m_gets (hw3 (by omega)) (fun (h265a : ¬ (¬ (σ 106 (σ 102 l.toInt.toNat).toInt.toNat).toInt = 0 ∧ (σ 107 (σ 102 l.toInt.toNat).toInt.toNat + (σ 16 l.toInt.toNat)).toInt ≤ 100000)) => ?_) (fun (h265a : ¬ (σ 106 (σ 102 l.toInt.toNat).toInt.toNat).toInt = 0 ∧ (σ 107 (σ 102 l.toInt.toNat).toInt.toNat + (σ 16 l.toInt.toNat)).toInt ≤ 100000) => ?_)
                · refine ⟨fun _ => ?_, fun z => absurd (by decide) z⟩
                  refine ⟨_, _, rfl, hv30, ?_⟩
                  refine ⟨fun _ => ?_, fun z => absurd (by decide) z⟩
                  refine ⟨_, rfl, hv30, ?_⟩
                  refine ⟨rfl, Or.inl rfl, ?_⟩
                  first
                  | (exfalso; (try simp only [Int32.reduceToInt, l1, u96, u107, u92] at c36 c69 c81 h98a c101 c111 c125_0 c125_1 c125_2 c258 h265a); omega)
                  | (unfold brF at hQ
                     try simp only [Int32.reduceToInt, l1, u96, u107, u92] at c36 c69 c81 h98a c101 c111 c125_0 c125_1 c125_2 c258 h265a
                     rw [bk_3n (by assumption) (by rw [← p2]; omega) (by rw [← p3, ← p4]; omega) (fun q => by first | (rw [(wo (by omega)).2.2, p2, p3] at h265a; exact h265a ⟨q.1, q.2.2⟩) | (rw [v3, (wo (by omega)).2.2] at c258; exact c258 q.2.1))] at hQ
                     rw [wr_same (Int32.sub_zero _)]
                     exact hQ _ agM (VwMU hP))
                · refine ⟨fun z => absurd z (by decide), fun _ => ?_⟩
                  refine ⟨_, _, rfl, hv30, ?_⟩
                  refine ⟨fun z => absurd z (by decide), fun _ => ?_⟩
                  refine ⟨_, rfl, hv30, ?_⟩
                  refine ⟨rfl, Or.inr rfl, ?_⟩
                  first
                  | (exfalso; (try simp only [Int32.reduceToInt, l1, u96, u107, u92] at c36 c69 c81 h98a c101 c111 c125_0 c125_1 c125_2 c258 h265a); omega)
                  | (unfold brF at hQ
                     try simp only [Int32.reduceToInt, l1, u96, u107, u92] at c36 c69 c81 h98a c101 c111 c125_0 c125_1 c125_2 c258 h265a
                     rw [bk_3 (by assumption) (by rw [← p2]; omega) (by rw [← p3, ← p4]; omega) (by rw [v3] at c258; rw [(wo (by omega)).2.2, p2, p3] at h265a; rw [(wo (by omega)).2.2] at c258; exact ⟨h265a.1, c258, h265a.2⟩)] at hQ
                     have hne := (wo (by omega)).2.1
                     have hwo := (wo (by omega)).1
                     rw [← p3, wr_comm (show (σ 12 l.toInt.toNat).toInt.toNat ≠ (σ 17 l.toInt.toNat).toInt.toNat by omega), ← (wo (by omega)).2.2] at hQ
                     have e2 : upd (σ 107) (σ 102 l.toInt.toNat).toInt.toNat (σ 107 (σ 102 l.toInt.toNat).toInt.toNat + (σ 16 l.toInt.toNat)) (σ 12 l.toInt.toNat).toInt.toNat = σ 107 (σ 12 l.toInt.toNat).toInt.toNat := pk_un (by rw [(wo (by omega)).2.2]; omega)
                     rw [← e2] at hQ
                     exact hQ _ (Ag.wr (Ag.wr agM rfl) rfl) (VwM.w1 (VwM.w1 (VwMU hP))))
              · refine ⟨_, _, rfl, hv30, ?_⟩
                refine ⟨fun _ => ?_, fun z => absurd (by decide) z⟩
                refine ⟨_, rfl, hv30, ?_⟩
                refine ⟨rfl, Or.inl rfl, ?_⟩
                first
                | (exfalso; (try simp only [Int32.reduceToInt, l1, u96, u107, u92] at c36 c69 c81 h98a c101 c111 c125_0 c125_1 c125_2 c258); omega)
                | (unfold brF at hQ
                   try simp only [Int32.reduceToInt, l1, u96, u107, u92] at c36 c69 c81 h98a c101 c111 c125_0 c125_1 c125_2 c258
                   rw [bk_3n (by assumption) (by rw [← p2]; omega) (by rw [← p3, ← p4]; omega) (fun q => by first | (rw [(wo (by omega)).2.2, p2, p3] at h265a; exact h265a ⟨q.1, q.2.2⟩) | (rw [v3, (wo (by omega)).2.2] at c258; exact c258 q.2.1))] at hQ
                   rw [wr_same (Int32.sub_zero _)]
                   exact hQ _ agM (VwMU hP))
            refine ⟨fun c125_3 => ?_, fun c125_3 => ?_⟩
            · try simp only [Int32.reduceToInt, l1, u96, u107, u92] at c36 c69 c81 h98a c101 c111 c125_0 c125_1 c125_2 c125_3
              refine ⟨rfl, rfl, ?_⟩
              refine m_gets hv30 (fun (h303a : ¬ (¬ (σ 106 (σ 12 l.toInt.toNat).toInt.toNat).toInt = 0 ∧ (σ 107 (σ 12 l.toInt.toNat).toInt.toNat + (σ 16 l.toInt.toNat)).toInt ≤ 100000)) => ?_) (fun (h303a : ¬ (σ 106 (σ 12 l.toInt.toNat).toInt.toNat).toInt = 0 ∧ (σ 107 (σ 12 l.toInt.toNat).toInt.toNat + (σ 16 l.toInt.toNat)).toInt ≤ 100000) => ?_)
              · refine ⟨_, _, rfl, hv30, ?_⟩
                refine ⟨_, _, rfl, (hw1 (by omega)), ?_⟩
                refine ⟨_, _, rfl, (hx25 (by omega)), ?_⟩
                refine ⟨fun _ => ?_, fun z => absurd (by decide) z⟩
                refine ⟨_, rfl, (hx25 (by omega)), ?_⟩
                refine ⟨rfl, Or.inl rfl, ?_⟩
                first
                | (exfalso; (try simp only [Int32.reduceToInt, l1, u96, u107, u92] at c36 c69 c81 h98a c101 c111 c125_0 c125_1 c125_2 c125_3 h303a); omega)
                | (unfold brF at hQ
                   try simp only [Int32.reduceToInt, l1, u96, u107, u92] at c36 c69 c81 h98a c101 c111 c125_0 c125_1 c125_2 c125_3 h303a
                   rw [bk_4n (by assumption) (by rw [← p2]; omega) (by rw [← p3]; intro q; exact h303a ⟨by assumption, q⟩)] at hQ
                   rw [wr_same (Int32.sub_zero _)]
                   exact hQ _ Ag.rf hP)
              · refine ⟨_, _, rfl, hv30, ?_⟩
                refine ⟨_, _, rfl, (hw1 (by omega)), ?_⟩
                refine ⟨_, _, rfl, (hx25 (by omega)), ?_⟩
                refine ⟨fun z => absurd z (by decide), fun _ => ?_⟩
                refine ⟨_, rfl, (hx25 (by omega)), ?_⟩
                refine ⟨rfl, Or.inr rfl, ?_⟩
                first
                | (exfalso; (try simp only [Int32.reduceToInt, l1, u96, u107, u92] at c36 c69 c81 h98a c101 c111 c125_0 c125_1 c125_2 c125_3 h303a); omega)
                | (unfold brF at hQ
                   try simp only [Int32.reduceToInt, l1, u96, u107, u92] at c36 c69 c81 h98a c101 c111 c125_0 c125_1 c125_2 c125_3 h303a
                   rw [bk_4 (by assumption) (by rw [← p2]; omega) (by rw [← p3]; exact h303a.2)] at hQ
                   have hF0 := (ws (by omega)).2.1
                   have hix := hx5 (by omega)
                   rw [← p3] at hQ
                   refine hQ _ (Ag.wr (Ag.wr Ag.rf rfl) rfl) (VwM.ws (VwM.w1 hP) (by omega) (by omega) hix ?_)
                   show σ 109 (5 * σ 92 (σ 12 l.toInt.toNat).toInt.toNat + σ 89 (σ 102 l.toInt.toNat).toInt.toNat).toInt.toNat - (σ 16 l.toInt.toNat) = _
                   rw [hix, p5 _ _ (by omega) (by omega), Int32.sub_eq_add_neg, wr_c (show (3 + (σ 2 (σ 17 l.toInt.toNat).toInt.toNat).toInt.toNat : Nat) ≠ 1 by omega)])
            try simp only [Int32.reduceToInt, l1, u96, u107, u92] at c36 c69 c81 h98a c101 c111 c125_0 c125_1 c125_2 c125_3
            refine ⟨hv30, Or.inl rfl, ?_⟩
            refine ⟨fun c354 => ?_, fun c354 => ?_⟩
            · refine ⟨_, rfl, hv30, ?_⟩
              refine ⟨rfl, Or.inr rfl, ?_⟩
              first
              | (exfalso; (try simp only [Int32.reduceToInt, l1, u96, u107, u92] at c36 c69 c81 h98a c101 c111 c125_0 c125_1 c125_2 c125_3 c354); omega)
              | (unfold brF at hQ
                 try simp only [Int32.reduceToInt, l1, u96, u107, u92] at c36 c69 c81 h98a c101 c111 c125_0 c125_1 c125_2 c125_3 c354
                 have z5 := wl (by omega)
                 have e0 : (σ 17 l.toInt.toNat).toInt ≠ (σ 12 l.toInt.toNat).toInt → 0 ≤ (σ 17 l.toInt.toNat).toInt → wr σ 106 (σ 12 l.toInt.toNat).toInt.toNat 0 106 (σ 17 l.toInt.toNat).toInt.toNat = σ 106 (σ 17 l.toInt.toNat).toInt.toNat := fun q q2 => pk_un (f := σ 106) (by omega)
                 first
                 | (rw [bk_5n (by omega) (by rw [← p2]; omega) (fun q => by
                      rcases z5 with z | z
                      · omega
                      · first
                        | (rw [z.2.2] at c354; omega)
                        | (rw [z.2.2, e0 z.2.1 z.1.1, p2, p3] at h382a; exact h382a ⟨q.2.1, q.2.2.2⟩)
                        | (have c370 : ¬ (σ 92 (σ 102 l.toInt.toNat).toInt.toNat).toInt = (σ 92 (σ 12 l.toInt.toNat).toInt.toNat).toInt := c370; rw [v3, z.2.2] at c370; exact c370 q.2.2.1))] at hQ
                    exact hQ _ (Ag.wr (Ag.wr Ag.rf rfl) rfl) (VwM.w1 (VwM.w0 hP)))
                 | (have z : (0 ≤ (σ 17 l.toInt.toNat).toInt ∧ (σ 17 l.toInt.toNat).toInt < (σ 3 0).toInt) ∧ (σ 17 l.toInt.toNat).toInt ≠ (σ 12 l.toInt.toNat).toInt ∧ σ 102 l.toInt.toNat = σ 17 l.toInt.toNat := by
                      rcases z5 with z | z
                      · exfalso; omega
                      · exact z
                    rw [bk_5 (by omega) (by rw [← p2]; omega) (by
                      refine ⟨z.1.1, ?_⟩
                      have c370 : (σ 92 (σ 102 l.toInt.toNat).toInt.toNat).toInt = (σ 92 (σ 12 l.toInt.toNat).toInt.toNat).toInt := c370
                      rw [v3, z.2.2] at c370
                      rw [z.2.2, e0 z.2.1 z.1.1, p2, p3] at h382a
                      exact ⟨h382a.1, c370, h382a.2⟩)] at hQ
                    rw [← p3, ← z.2.2] at hQ
                    exact hQ _ (Ag.wr (Ag.wr (Ag.wr Ag.rf rfl) rfl) rfl) (VwM.w1 (VwM.w1 (VwM.w0 hP)))))
            · refine ⟨_, _, rfl, (hw5 (by omega) (by omega)), ?_⟩
              refine ⟨_, _, rfl, hv30, ?_⟩
              refine ⟨fun c370 => ?_, fun c370 => ?_⟩
              · refine ⟨_, _, rfl, hv30, ?_⟩
                refine ⟨rfl, rfl, ?_⟩
                refine m_gets (hw5 (by omega) (by omega)) (fun (h382a : ¬ (¬ ((wr σ 106 (σ 12 l.toInt.toNat).toInt.toNat 0) 106 (σ 102 l.toInt.toNat).toInt.toNat).toInt = 0 ∧ (σ 107 (σ 102 l.toInt.toNat).toInt.toNat + σ 107 (σ 12 l.toInt.toNat).toInt.toNat).toInt ≤ 100000)) => ?_) (fun (h382a : ¬ ((wr σ 106 (σ 12 l.toInt.toNat).toInt.toNat 0) 106 (σ 102 l.toInt.toNat).toInt.toNat).toInt = 0 ∧ (σ 107 (σ 102 l.toInt.toNat).toInt.toNat + σ 107 (σ 12 l.toInt.toNat).toInt.toNat).toInt ≤ 100000) => ?_)
                · refine ⟨fun _ => ?_, fun z => absurd (by decide) z⟩
                  refine ⟨_, rfl, hv30, ?_⟩
                  refine ⟨rfl, Or.inr rfl, ?_⟩
                  first
                  | (exfalso; (try simp only [Int32.reduceToInt, l1, u96, u107, u92] at c36 c69 c81 h98a c101 c111 c125_0 c125_1 c125_2 c125_3 c354 c370 h382a); omega)
                  | (unfold brF at hQ
                     try simp only [Int32.reduceToInt, l1, u96, u107, u92] at c36 c69 c81 h98a c101 c111 c125_0 c125_1 c125_2 c125_3 c354 c370 h382a
                     have z5 := wl (by omega)
                     have e0 : (σ 17 l.toInt.toNat).toInt ≠ (σ 12 l.toInt.toNat).toInt → 0 ≤ (σ 17 l.toInt.toNat).toInt → wr σ 106 (σ 12 l.toInt.toNat).toInt.toNat 0 106 (σ 17 l.toInt.toNat).toInt.toNat = σ 106 (σ 17 l.toInt.toNat).toInt.toNat := fun q q2 => pk_un (f := σ 106) (by omega)
                     first
                     | (rw [bk_5n (by omega) (by rw [← p2]; omega) (fun q => by
                          rcases z5 with z | z
                          · omega
                          · first
                            | (rw [z.2.2] at c354; omega)
                            | (rw [z.2.2, e0 z.2.1 z.1.1, p2, p3] at h382a; exact h382a ⟨q.2.1, q.2.2.2⟩)
                            | (have c370 : ¬ (σ 92 (σ 102 l.toInt.toNat).toInt.toNat).toInt = (σ 92 (σ 12 l.toInt.toNat).toInt.toNat).toInt := c370; rw [v3, z.2.2] at c370; exact c370 q.2.2.1))] at hQ
                        exact hQ _ (Ag.wr (Ag.wr Ag.rf rfl) rfl) (VwM.w1 (VwM.w0 hP)))
                     | (have z : (0 ≤ (σ 17 l.toInt.toNat).toInt ∧ (σ 17 l.toInt.toNat).toInt < (σ 3 0).toInt) ∧ (σ 17 l.toInt.toNat).toInt ≠ (σ 12 l.toInt.toNat).toInt ∧ σ 102 l.toInt.toNat = σ 17 l.toInt.toNat := by
                          rcases z5 with z | z
                          · exfalso; omega
                          · exact z
                        rw [bk_5 (by omega) (by rw [← p2]; omega) (by
                          refine ⟨z.1.1, ?_⟩
                          have c370 : (σ 92 (σ 102 l.toInt.toNat).toInt.toNat).toInt = (σ 92 (σ 12 l.toInt.toNat).toInt.toNat).toInt := c370
                          rw [v3, z.2.2] at c370
                          rw [z.2.2, e0 z.2.1 z.1.1, p2, p3] at h382a
                          exact ⟨h382a.1, c370, h382a.2⟩)] at hQ
                        rw [← p3, ← z.2.2] at hQ
                        exact hQ _ (Ag.wr (Ag.wr (Ag.wr Ag.rf rfl) rfl) rfl) (VwM.w1 (VwM.w1 (VwM.w0 hP)))))
                · refine ⟨fun z => absurd z (by decide), fun _ => ?_⟩
                  refine ⟨_, rfl, hv30, ?_⟩
                  refine ⟨rfl, Or.inr rfl, ?_⟩
                  first
                  | (exfalso; (try simp only [Int32.reduceToInt, l1, u96, u107, u92] at c36 c69 c81 h98a c101 c111 c125_0 c125_1 c125_2 c125_3 c354 c370 h382a); omega)
                  | (unfold brF at hQ
                     try simp only [Int32.reduceToInt, l1, u96, u107, u92] at c36 c69 c81 h98a c101 c111 c125_0 c125_1 c125_2 c125_3 c354 c370 h382a
                     have z5 := wl (by omega)
                     have e0 : (σ 17 l.toInt.toNat).toInt ≠ (σ 12 l.toInt.toNat).toInt → 0 ≤ (σ 17 l.toInt.toNat).toInt → wr σ 106 (σ 12 l.toInt.toNat).toInt.toNat 0 106 (σ 17 l.toInt.toNat).toInt.toNat = σ 106 (σ 17 l.toInt.toNat).toInt.toNat := fun q q2 => pk_un (f := σ 106) (by omega)
                     first
                     | (rw [bk_5n (by omega) (by rw [← p2]; omega) (fun q => by
                          rcases z5 with z | z
                          · omega
                          · first
                            | (rw [z.2.2] at c354; omega)
                            | (rw [z.2.2, e0 z.2.1 z.1.1, p2, p3] at h382a; exact h382a ⟨q.2.1, q.2.2.2⟩)
                            | (have c370 : ¬ (σ 92 (σ 102 l.toInt.toNat).toInt.toNat).toInt = (σ 92 (σ 12 l.toInt.toNat).toInt.toNat).toInt := c370; rw [v3, z.2.2] at c370; exact c370 q.2.2.1))] at hQ
                        exact hQ _ (Ag.wr (Ag.wr Ag.rf rfl) rfl) (VwM.w1 (VwM.w0 hP)))
                     | (have z : (0 ≤ (σ 17 l.toInt.toNat).toInt ∧ (σ 17 l.toInt.toNat).toInt < (σ 3 0).toInt) ∧ (σ 17 l.toInt.toNat).toInt ≠ (σ 12 l.toInt.toNat).toInt ∧ σ 102 l.toInt.toNat = σ 17 l.toInt.toNat := by
                          rcases z5 with z | z
                          · exfalso; omega
                          · exact z
                        rw [bk_5 (by omega) (by rw [← p2]; omega) (by
                          refine ⟨z.1.1, ?_⟩
                          have c370 : (σ 92 (σ 102 l.toInt.toNat).toInt.toNat).toInt = (σ 92 (σ 12 l.toInt.toNat).toInt.toNat).toInt := c370
                          rw [v3, z.2.2] at c370
                          rw [z.2.2, e0 z.2.1 z.1.1, p2, p3] at h382a
                          exact ⟨h382a.1, c370, h382a.2⟩)] at hQ
                        rw [← p3, ← z.2.2] at hQ
                        exact hQ _ (Ag.wr (Ag.wr (Ag.wr Ag.rf rfl) rfl) rfl) (VwM.w1 (VwM.w1 (VwM.w0 hP)))))
              · refine ⟨_, rfl, hv30, ?_⟩
                refine ⟨rfl, Or.inr rfl, ?_⟩
                first
                | (exfalso; (try simp only [Int32.reduceToInt, l1, u96, u107, u92] at c36 c69 c81 h98a c101 c111 c125_0 c125_1 c125_2 c125_3 c354 c370); omega)
                | (unfold brF at hQ
                   try simp only [Int32.reduceToInt, l1, u96, u107, u92] at c36 c69 c81 h98a c101 c111 c125_0 c125_1 c125_2 c125_3 c354 c370
                   have z5 := wl (by omega)
                   have e0 : (σ 17 l.toInt.toNat).toInt ≠ (σ 12 l.toInt.toNat).toInt → 0 ≤ (σ 17 l.toInt.toNat).toInt → wr σ 106 (σ 12 l.toInt.toNat).toInt.toNat 0 106 (σ 17 l.toInt.toNat).toInt.toNat = σ 106 (σ 17 l.toInt.toNat).toInt.toNat := fun q q2 => pk_un (f := σ 106) (by omega)
                   first
                   | (rw [bk_5n (by omega) (by rw [← p2]; omega) (fun q => by
                        rcases z5 with z | z
                        · omega
                        · first
                          | (rw [z.2.2] at c354; omega)
                          | (rw [z.2.2, e0 z.2.1 z.1.1, p2, p3] at h382a; exact h382a ⟨q.2.1, q.2.2.2⟩)
                          | (have c370 : ¬ (σ 92 (σ 102 l.toInt.toNat).toInt.toNat).toInt = (σ 92 (σ 12 l.toInt.toNat).toInt.toNat).toInt := c370; rw [v3, z.2.2] at c370; exact c370 q.2.2.1))] at hQ
                      exact hQ _ (Ag.wr (Ag.wr Ag.rf rfl) rfl) (VwM.w1 (VwM.w0 hP)))
                   | (have z : (0 ≤ (σ 17 l.toInt.toNat).toInt ∧ (σ 17 l.toInt.toNat).toInt < (σ 3 0).toInt) ∧ (σ 17 l.toInt.toNat).toInt ≠ (σ 12 l.toInt.toNat).toInt ∧ σ 102 l.toInt.toNat = σ 17 l.toInt.toNat := by
                        rcases z5 with z | z
                        · exfalso; omega
                        · exact z
                      rw [bk_5 (by omega) (by rw [← p2]; omega) (by
                        refine ⟨z.1.1, ?_⟩
                        have c370 : (σ 92 (σ 102 l.toInt.toNat).toInt.toNat).toInt = (σ 92 (σ 12 l.toInt.toNat).toInt.toNat).toInt := c370
                        rw [v3, z.2.2] at c370
                        rw [z.2.2, e0 z.2.1 z.1.1, p2, p3] at h382a
                        exact ⟨h382a.1, c370, h382a.2⟩)] at hQ
                      rw [← p3, ← z.2.2] at hQ
                      exact hQ _ (Ag.wr (Ag.wr (Ag.wr Ag.rf rfl) rfl) rfl) (VwM.w1 (VwM.w1 (VwM.w0 hP)))))
        · replace c101 := bI_nz c101
          refine ⟨rfl, Or.inl rfl, ?_⟩
          first
          | (exfalso; (try simp only [Int32.reduceToInt, l1, u96, u107, u92] at c36 c69 c81 h98a c101); omega)
          | (unfold brF at hQ
             try simp only [Int32.reduceToInt, l1, u96, u107, u92] at c36 c69 c81 h98a c101
             rw [bk_n (by omega) (by rw [← p2]; omega) (by rw [← p3, ← p4]; omega)] at hQ
             exact hQ _ agM (VwMU hP))
      · refine ⟨_, _, rfl, (by refine ⟨?_, ?_⟩ <;> omega), ?_⟩
        refine ⟨fun c91 => ?_, fun c91 => ?_⟩
        · refine ⟨rfl, rfl, ?_⟩
          refine m_isEnded ⟨k2.1, by omega⟩ hL hVo w1 (fun h98a => ?_)
          refine ⟨fun c101 => ?_, fun c101 => ?_⟩
          · replace c101 := bI_z c101
            refine ⟨_, _, rfl, hv30, ?_⟩
            refine ⟨fun c111 => ?_, fun c111 => ?_⟩
            · refine ⟨rfl, Or.inl rfl, ?_⟩
              first
              | (exfalso; (try simp only [Int32.reduceToInt, l1, u96, u107, u92] at c36 c69 c81 c91 h98a c101 c111); omega)
              | (unfold brF at hQ
                 try simp only [Int32.reduceToInt, l1, u96, u107, u92] at c36 c69 c81 c91 h98a c101 c111
                 rw [bk_n (by omega) (by rw [← p2]; omega) (by rw [← p3, ← p4]; omega)] at hQ
                 exact hQ _ agM (VwMU hP))
            · refine ⟨_, _, rfl, (by refine ⟨?_, ?_⟩ <;> omega), ?_⟩
              refine ⟨fun c125_0 => ?_, fun c125_0 => ?_⟩
              · try simp only [Int32.reduceToInt, l1, u96, u107, u92] at c36 c69 c81 c91 h98a c101 c111 c125_0
                refine ⟨_, _, rfl, hv30, ?_⟩
                refine ⟨_, rfl, hv30, ?_⟩
                refine ⟨_, _, rfl, hv30, ?_⟩
                refine ⟨_, _, rfl, (hw1 (by omega)), ?_⟩
                refine ⟨_, _, rfl, (hx25 (by omega)), ?_⟩
                refine ⟨_, rfl, (hx25 (by omega)), ?_⟩
                refine ⟨rfl, Or.inr rfl, ?_⟩
                first
                | (exfalso; (try simp only [Int32.reduceToInt, l1, u96, u107, u92] at c36 c69 c81 c91 h98a c101 c111 c125_0); omega)
                | (unfold brF at hQ
                   try simp only [Int32.reduceToInt, l1, u96, u107, u92] at c36 c69 c81 c91 h98a c101 c111 c125_0
                   rw [bk_1 (by assumption) (by rw [← p2]; omega) (by rw [← p3, ← p4]; omega)] at hQ
                   have hF0 := (ws (by omega)).2.1
                   have hix := hx5 (by omega)
                   rw [← p3] at hQ
                   refine hQ _ (Ag.wr (Ag.wr agM rfl) rfl) (VwM.ws (VwM.w1 (VwMU hP)) (by omega) (by omega) hix ?_)
                   show σ 109 (5 * σ 92 (σ 12 l.toInt.toNat).toInt.toNat + σ 89 (σ 102 l.toInt.toNat).toInt.toNat).toInt.toNat + (σ 16 l.toInt.toNat) = _
                   rw [hix, p5 _ _ (by omega) (by omega), wr_c (show (3 + (σ 2 (σ 17 l.toInt.toNat).toInt.toNat).toInt.toNat : Nat) ≠ 1 by omega)])
              refine ⟨fun c125_1 => ?_, fun c125_1 => ?_⟩
              · try simp only [Int32.reduceToInt, l1, u96, u107, u92] at c36 c69 c81 c91 h98a c101 c111 c125_0 c125_1
                refine ⟨_, _, rfl, hv30, ?_⟩
                refine ⟨fun c201 => ?_, fun c201 => ?_⟩
                · refine ⟨rfl, rfl, ?_⟩
                  refine m_gets hv30 (fun (h207a : ¬ (¬ (σ 106 (σ 12 l.toInt.toNat).toInt.toNat).toInt = 0 ∧ (σ 107 (σ 12 l.toInt.toNat).toInt.toNat + (σ 16 l.toInt.toNat)).toInt ≤ 100000)) => ?_) (fun (h207a : ¬ (σ 106 (σ 12 l.toInt.toNat).toInt.toNat).toInt = 0 ∧ (σ 107 (σ 12 l.toInt.toNat).toInt.toNat + (σ 16 l.toInt.toNat)).toInt ≤ 100000) => ?_)
                  · refine ⟨fun _ => ?_, fun z => absurd (by decide) z⟩
                    refine ⟨fun _ => ?_, fun z => absurd (by decide) z⟩
                    refine ⟨_, _, rfl, hv30, ?_⟩
                    refine ⟨_, rfl, hv30, ?_⟩
                    refine ⟨rfl, Or.inl rfl, ?_⟩
                    first
                    | (exfalso; (try simp only [Int32.reduceToInt, l1, u96, u107, u92] at c36 c69 c81 c91 h98a c101 c111 c125_0 c125_1 c201 h207a); omega)
                    | (unfold brF at hQ
                       try simp only [Int32.reduceToInt, l1, u96, u107, u92] at c36 c69 c81 c91 h98a c101 c111 c125_0 c125_1 c201 h207a
                       rw [bk_2n (by assumption) (by rw [← p2]; omega) (by rw [← p3]; rw [v1] at c201; intro q; first | exact h207a ⟨by assumption, q.2⟩ | exact c201 q.1)] at hQ
                       rw [wr_same rfl]
                       exact hQ _ Ag.rf hP)
                  · refine ⟨fun z => absurd z (by decide), fun _ => ?_⟩
                    refine ⟨fun z => absurd z (by decide), fun _ => ?_⟩
                    refine ⟨_, rfl, hv30, ?_⟩
                    refine ⟨rfl, Or.inr rfl, ?_⟩
                    first
                    | (exfalso; (try simp only [Int32.reduceToInt, l1, u96, u107, u92] at c36 c69 c81 c91 h98a c101 c111 c125_0 c125_1 c201 h207a); omega)
                    | (unfold brF at hQ
                       try simp only [Int32.reduceToInt, l1, u96, u107, u92] at c36 c69 c81 c91 h98a c101 c111 c125_0 c125_1 c201 h207a
                       rw [bk_2 (by assumption) (by rw [← p2]; omega) (by rw [← p3]; rw [v1] at c201; exact ⟨by assumption, h207a.2⟩)] at hQ
                       rw [← p3] at hQ
                       exact hQ _ (Ag.wr (Ag.wr Ag.rf rfl) rfl) (VwM.w2 (VwM.w1 hP)))
                · refine ⟨fun _ => ?_, fun z => absurd (by decide) z⟩
                  refine ⟨_, _, rfl, hv30, ?_⟩
                  refine ⟨_, rfl, hv30, ?_⟩
                  refine ⟨rfl, Or.inl rfl, ?_⟩
                  first
                  | (exfalso; (try simp only [Int32.reduceToInt, l1, u96, u107, u92] at c36 c69 c81 c91 h98a c101 c111 c125_0 c125_1 c201); omega)
                  | (unfold brF at hQ
                     try simp only [Int32.reduceToInt, l1, u96, u107, u92] at c36 c69 c81 c91 h98a c101 c111 c125_0 c125_1 c201
                     rw [bk_2n (by assumption) (by rw [← p2]; omega) (by rw [← p3]; rw [v1] at c201; intro q; first | exact h207a ⟨by assumption, q.2⟩ | exact c201 q.1)] at hQ
                     rw [wr_same rfl]
                     exact hQ _ Ag.rf hP)
              refine ⟨fun c125_2 => ?_, fun c125_2 => ?_⟩
              · try simp only [Int32.reduceToInt, l1, u96, u107, u92] at c36 c69 c81 c91 h98a c101 c111 c125_0 c125_1 c125_2
                refine ⟨_, _, rfl, (hw3 (by omega)), ?_⟩
                refine ⟨_, _, rfl, hv30, ?_⟩
                refine ⟨fun c258 => ?_, fun c258 => ?_⟩
                · refine ⟨rfl, rfl, ?_⟩
                  refine m_gets (hw3 (by omega)) (fun (h265a : ¬ (¬ (σ 106 (σ 102 l.toInt.toNat).toInt.toNat).toInt = 0 ∧ (σ 107 (σ 102 l.toInt.toNat).toInt.toNat + (σ 16 l.toInt.toNat)).toInt ≤ 100000)) => ?_) (fun (h265a : ¬ (σ 106 (σ 102 l.toInt.toNat).toInt.toNat).toInt = 0 ∧ (σ 107 (σ 102 l.toInt.toNat).toInt.toNat + (σ 16 l.toInt.toNat)).toInt ≤ 100000) => ?_)
                  · refine ⟨fun _ => ?_, fun z => absurd (by decide) z⟩
                    refine ⟨_, _, rfl, hv30, ?_⟩
                    refine ⟨fun _ => ?_, fun z => absurd (by decide) z⟩
                    refine ⟨_, rfl, hv30, ?_⟩
                    refine ⟨rfl, Or.inl rfl, ?_⟩
                    first
                    | (exfalso; (try simp only [Int32.reduceToInt, l1, u96, u107, u92] at c36 c69 c81 c91 h98a c101 c111 c125_0 c125_1 c125_2 c258 h265a); omega)
                    | (unfold brF at hQ
                       try simp only [Int32.reduceToInt, l1, u96, u107, u92] at c36 c69 c81 c91 h98a c101 c111 c125_0 c125_1 c125_2 c258 h265a
                       rw [bk_3n (by assumption) (by rw [← p2]; omega) (by rw [← p3, ← p4]; omega) (fun q => by first | (rw [(wo (by omega)).2.2, p2, p3] at h265a; exact h265a ⟨q.1, q.2.2⟩) | (rw [v3, (wo (by omega)).2.2] at c258; exact c258 q.2.1))] at hQ
                       rw [wr_same (Int32.sub_zero _)]
                       exact hQ _ agM (VwMU hP))
                  · refine ⟨fun z => absurd z (by decide), fun _ => ?_⟩
                    refine ⟨_, _, rfl, hv30, ?_⟩
                    refine ⟨fun z => absurd z (by decide), fun _ => ?_⟩
                    refine ⟨_, rfl, hv30, ?_⟩
                    refine ⟨rfl, Or.inr rfl, ?_⟩
                    first
                    | (exfalso; (try simp only [Int32.reduceToInt, l1, u96, u107, u92] at c36 c69 c81 c91 h98a c101 c111 c125_0 c125_1 c125_2 c258 h265a); omega)
                    | (unfold brF at hQ
                       try simp only [Int32.reduceToInt, l1, u96, u107, u92] at c36 c69 c81 c91 h98a c101 c111 c125_0 c125_1 c125_2 c258 h265a
                       rw [bk_3 (by assumption) (by rw [← p2]; omega) (by rw [← p3, ← p4]; omega) (by rw [v3] at c258; rw [(wo (by omega)).2.2, p2, p3] at h265a; rw [(wo (by omega)).2.2] at c258; exact ⟨h265a.1, c258, h265a.2⟩)] at hQ
                       have hne := (wo (by omega)).2.1
                       have hwo := (wo (by omega)).1
                       rw [← p3, wr_comm (show (σ 12 l.toInt.toNat).toInt.toNat ≠ (σ 17 l.toInt.toNat).toInt.toNat by omega), ← (wo (by omega)).2.2] at hQ
                       have e2 : upd (σ 107) (σ 102 l.toInt.toNat).toInt.toNat (σ 107 (σ 102 l.toInt.toNat).toInt.toNat + (σ 16 l.toInt.toNat)) (σ 12 l.toInt.toNat).toInt.toNat = σ 107 (σ 12 l.toInt.toNat).toInt.toNat := pk_un (by rw [(wo (by omega)).2.2]; omega)
                       rw [← e2] at hQ
                       exact hQ _ (Ag.wr (Ag.wr agM rfl) rfl) (VwM.w1 (VwM.w1 (VwMU hP))))
                · refine ⟨_, _, rfl, hv30, ?_⟩
                  refine ⟨fun _ => ?_, fun z => absurd (by decide) z⟩
                  refine ⟨_, rfl, hv30, ?_⟩
                  refine ⟨rfl, Or.inl rfl, ?_⟩
                  first
                  | (exfalso; (try simp only [Int32.reduceToInt, l1, u96, u107, u92] at c36 c69 c81 c91 h98a c101 c111 c125_0 c125_1 c125_2 c258); omega)
                  | (unfold brF at hQ
                     try simp only [Int32.reduceToInt, l1, u96, u107, u92] at c36 c69 c81 c91 h98a c101 c111 c125_0 c125_1 c125_2 c258
                     rw [bk_3n (by assumption) (by rw [← p2]; omega) (by rw [← p3, ← p4]; omega) (fun q => by first | (rw [(wo (by omega)).2.2, p2, p3] at h265a; exact h265a ⟨q.1, q.2.2⟩) | (rw [v3, (wo (by omega)).2.2] at c258; exact c258 q.2.1))] at hQ
                     rw [wr_same (Int32.sub_zero _)]
                     exact hQ _ agM (VwMU hP))
              refine ⟨fun c125_3 => ?_, fun c125_3 => ?_⟩
              · try simp only [Int32.reduceToInt, l1, u96, u107, u92] at c36 c69 c81 c91 h98a c101 c111 c125_0 c125_1 c125_2 c125_3
                refine ⟨rfl, rfl, ?_⟩
                refine m_gets hv30 (fun (h303a : ¬ (¬ (σ 106 (σ 12 l.toInt.toNat).toInt.toNat).toInt = 0 ∧ (σ 107 (σ 12 l.toInt.toNat).toInt.toNat + (σ 16 l.toInt.toNat)).toInt ≤ 100000)) => ?_) (fun (h303a : ¬ (σ 106 (σ 12 l.toInt.toNat).toInt.toNat).toInt = 0 ∧ (σ 107 (σ 12 l.toInt.toNat).toInt.toNat + (σ 16 l.toInt.toNat)).toInt ≤ 100000) => ?_)
                · refine ⟨_, _, rfl, hv30, ?_⟩
                  refine ⟨_, _, rfl, (hw1 (by omega)), ?_⟩
                  refine ⟨_, _, rfl, (hx25 (by omega)), ?_⟩
                  refine ⟨fun _ => ?_, fun z => absurd (by decide) z⟩
                  refine ⟨_, rfl, (hx25 (by omega)), ?_⟩
                  refine ⟨rfl, Or.inl rfl, ?_⟩
                  first
                  | (exfalso; (try simp only [Int32.reduceToInt, l1, u96, u107, u92] at c36 c69 c81 c91 h98a c101 c111 c125_0 c125_1 c125_2 c125_3 h303a); omega)
                  | (unfold brF at hQ
                     try simp only [Int32.reduceToInt, l1, u96, u107, u92] at c36 c69 c81 c91 h98a c101 c111 c125_0 c125_1 c125_2 c125_3 h303a
                     rw [bk_4n (by assumption) (by rw [← p2]; omega) (by rw [← p3]; intro q; exact h303a ⟨by assumption, q⟩)] at hQ
                     rw [wr_same (Int32.sub_zero _)]
                     exact hQ _ Ag.rf hP)
                · refine ⟨_, _, rfl, hv30, ?_⟩
                  refine ⟨_, _, rfl, (hw1 (by omega)), ?_⟩
                  refine ⟨_, _, rfl, (hx25 (by omega)), ?_⟩
                  refine ⟨fun z => absurd z (by decide), fun _ => ?_⟩
                  refine ⟨_, rfl, (hx25 (by omega)), ?_⟩
                  refine ⟨rfl, Or.inr rfl, ?_⟩
                  first
                  | (exfalso; (try simp only [Int32.reduceToInt, l1, u96, u107, u92] at c36 c69 c81 c91 h98a c101 c111 c125_0 c125_1 c125_2 c125_3 h303a); omega)
                  | (unfold brF at hQ
                     try simp only [Int32.reduceToInt, l1, u96, u107, u92] at c36 c69 c81 c91 h98a c101 c111 c125_0 c125_1 c125_2 c125_3 h303a
                     rw [bk_4 (by assumption) (by rw [← p2]; omega) (by rw [← p3]; exact h303a.2)] at hQ
                     have hF0 := (ws (by omega)).2.1
                     have hix := hx5 (by omega)
                     rw [← p3] at hQ
                     refine hQ _ (Ag.wr (Ag.wr Ag.rf rfl) rfl) (VwM.ws (VwM.w1 hP) (by omega) (by omega) hix ?_)
                     show σ 109 (5 * σ 92 (σ 12 l.toInt.toNat).toInt.toNat + σ 89 (σ 102 l.toInt.toNat).toInt.toNat).toInt.toNat - (σ 16 l.toInt.toNat) = _
                     rw [hix, p5 _ _ (by omega) (by omega), Int32.sub_eq_add_neg, wr_c (show (3 + (σ 2 (σ 17 l.toInt.toNat).toInt.toNat).toInt.toNat : Nat) ≠ 1 by omega)])
              try simp only [Int32.reduceToInt, l1, u96, u107, u92] at c36 c69 c81 c91 h98a c101 c111 c125_0 c125_1 c125_2 c125_3
              refine ⟨hv30, Or.inl rfl, ?_⟩
              refine ⟨fun c354 => ?_, fun c354 => ?_⟩
              · refine ⟨_, rfl, hv30, ?_⟩
                refine ⟨rfl, Or.inr rfl, ?_⟩
                first
                | (exfalso; (try simp only [Int32.reduceToInt, l1, u96, u107, u92] at c36 c69 c81 c91 h98a c101 c111 c125_0 c125_1 c125_2 c125_3 c354); omega)
                | (unfold brF at hQ
                   try simp only [Int32.reduceToInt, l1, u96, u107, u92] at c36 c69 c81 c91 h98a c101 c111 c125_0 c125_1 c125_2 c125_3 c354
                   have z5 := wl (by omega)
                   have e0 : (σ 17 l.toInt.toNat).toInt ≠ (σ 12 l.toInt.toNat).toInt → 0 ≤ (σ 17 l.toInt.toNat).toInt → wr σ 106 (σ 12 l.toInt.toNat).toInt.toNat 0 106 (σ 17 l.toInt.toNat).toInt.toNat = σ 106 (σ 17 l.toInt.toNat).toInt.toNat := fun q q2 => pk_un (f := σ 106) (by omega)
                   first
                   | (rw [bk_5n (by omega) (by rw [← p2]; omega) (fun q => by
                        rcases z5 with z | z
                        · omega
                        · first
                          | (rw [z.2.2] at c354; omega)
                          | (rw [z.2.2, e0 z.2.1 z.1.1, p2, p3] at h382a; exact h382a ⟨q.2.1, q.2.2.2⟩)
                          | (have c370 : ¬ (σ 92 (σ 102 l.toInt.toNat).toInt.toNat).toInt = (σ 92 (σ 12 l.toInt.toNat).toInt.toNat).toInt := c370; rw [v3, z.2.2] at c370; exact c370 q.2.2.1))] at hQ
                      exact hQ _ (Ag.wr (Ag.wr Ag.rf rfl) rfl) (VwM.w1 (VwM.w0 hP)))
                   | (have z : (0 ≤ (σ 17 l.toInt.toNat).toInt ∧ (σ 17 l.toInt.toNat).toInt < (σ 3 0).toInt) ∧ (σ 17 l.toInt.toNat).toInt ≠ (σ 12 l.toInt.toNat).toInt ∧ σ 102 l.toInt.toNat = σ 17 l.toInt.toNat := by
                        rcases z5 with z | z
                        · exfalso; omega
                        · exact z
                      rw [bk_5 (by omega) (by rw [← p2]; omega) (by
                        refine ⟨z.1.1, ?_⟩
                        have c370 : (σ 92 (σ 102 l.toInt.toNat).toInt.toNat).toInt = (σ 92 (σ 12 l.toInt.toNat).toInt.toNat).toInt := c370
                        rw [v3, z.2.2] at c370
                        rw [z.2.2, e0 z.2.1 z.1.1, p2, p3] at h382a
                        exact ⟨h382a.1, c370, h382a.2⟩)] at hQ
                      rw [← p3, ← z.2.2] at hQ
                      exact hQ _ (Ag.wr (Ag.wr (Ag.wr Ag.rf rfl) rfl) rfl) (VwM.w1 (VwM.w1 (VwM.w0 hP)))))
              · refine ⟨_, _, rfl, (hw5 (by omega) (by omega)), ?_⟩
                refine ⟨_, _, rfl, hv30, ?_⟩
                refine ⟨fun c370 => ?_, fun c370 => ?_⟩
                · refine ⟨_, _, rfl, hv30, ?_⟩
                  refine ⟨rfl, rfl, ?_⟩
                  refine m_gets (hw5 (by omega) (by omega)) (fun (h382a : ¬ (¬ ((wr σ 106 (σ 12 l.toInt.toNat).toInt.toNat 0) 106 (σ 102 l.toInt.toNat).toInt.toNat).toInt = 0 ∧ (σ 107 (σ 102 l.toInt.toNat).toInt.toNat + σ 107 (σ 12 l.toInt.toNat).toInt.toNat).toInt ≤ 100000)) => ?_) (fun (h382a : ¬ ((wr σ 106 (σ 12 l.toInt.toNat).toInt.toNat 0) 106 (σ 102 l.toInt.toNat).toInt.toNat).toInt = 0 ∧ (σ 107 (σ 102 l.toInt.toNat).toInt.toNat + σ 107 (σ 12 l.toInt.toNat).toInt.toNat).toInt ≤ 100000) => ?_)
                  · refine ⟨fun _ => ?_, fun z => absurd (by decide) z⟩
                    refine ⟨_, rfl, hv30, ?_⟩
                    refine ⟨rfl, Or.inr rfl, ?_⟩
                    first
                    | (exfalso; (try simp only [Int32.reduceToInt, l1, u96, u107, u92] at c36 c69 c81 c91 h98a c101 c111 c125_0 c125_1 c125_2 c125_3 c354 c370 h382a); omega)
                    | (unfold brF at hQ
                       try simp only [Int32.reduceToInt, l1, u96, u107, u92] at c36 c69 c81 c91 h98a c101 c111 c125_0 c125_1 c125_2 c125_3 c354 c370 h382a
                       have z5 := wl (by omega)
                       have e0 : (σ 17 l.toInt.toNat).toInt ≠ (σ 12 l.toInt.toNat).toInt → 0 ≤ (σ 17 l.toInt.toNat).toInt → wr σ 106 (σ 12 l.toInt.toNat).toInt.toNat 0 106 (σ 17 l.toInt.toNat).toInt.toNat = σ 106 (σ 17 l.toInt.toNat).toInt.toNat := fun q q2 => pk_un (f := σ 106) (by omega)
                       first
                       | (rw [bk_5n (by omega) (by rw [← p2]; omega) (fun q => by
                            rcases z5 with z | z
                            · omega
                            · first
                              | (rw [z.2.2] at c354; omega)
                              | (rw [z.2.2, e0 z.2.1 z.1.1, p2, p3] at h382a; exact h382a ⟨q.2.1, q.2.2.2⟩)
                              | (have c370 : ¬ (σ 92 (σ 102 l.toInt.toNat).toInt.toNat).toInt = (σ 92 (σ 12 l.toInt.toNat).toInt.toNat).toInt := c370; rw [v3, z.2.2] at c370; exact c370 q.2.2.1))] at hQ
                          exact hQ _ (Ag.wr (Ag.wr Ag.rf rfl) rfl) (VwM.w1 (VwM.w0 hP)))
                       | (have z : (0 ≤ (σ 17 l.toInt.toNat).toInt ∧ (σ 17 l.toInt.toNat).toInt < (σ 3 0).toInt) ∧ (σ 17 l.toInt.toNat).toInt ≠ (σ 12 l.toInt.toNat).toInt ∧ σ 102 l.toInt.toNat = σ 17 l.toInt.toNat := by
                            rcases z5 with z | z
                            · exfalso; omega
                            · exact z
                          rw [bk_5 (by omega) (by rw [← p2]; omega) (by
                            refine ⟨z.1.1, ?_⟩
                            have c370 : (σ 92 (σ 102 l.toInt.toNat).toInt.toNat).toInt = (σ 92 (σ 12 l.toInt.toNat).toInt.toNat).toInt := c370
                            rw [v3, z.2.2] at c370
                            rw [z.2.2, e0 z.2.1 z.1.1, p2, p3] at h382a
                            exact ⟨h382a.1, c370, h382a.2⟩)] at hQ
                          rw [← p3, ← z.2.2] at hQ
                          exact hQ _ (Ag.wr (Ag.wr (Ag.wr Ag.rf rfl) rfl) rfl) (VwM.w1 (VwM.w1 (VwM.w0 hP)))))
                  · refine ⟨fun z => absurd z (by decide), fun _ => ?_⟩
                    refine ⟨_, rfl, hv30, ?_⟩
                    refine ⟨rfl, Or.inr rfl, ?_⟩
                    first
                    | (exfalso; (try simp only [Int32.reduceToInt, l1, u96, u107, u92] at c36 c69 c81 c91 h98a c101 c111 c125_0 c125_1 c125_2 c125_3 c354 c370 h382a); omega)
                    | (unfold brF at hQ
                       try simp only [Int32.reduceToInt, l1, u96, u107, u92] at c36 c69 c81 c91 h98a c101 c111 c125_0 c125_1 c125_2 c125_3 c354 c370 h382a
                       have z5 := wl (by omega)
                       have e0 : (σ 17 l.toInt.toNat).toInt ≠ (σ 12 l.toInt.toNat).toInt → 0 ≤ (σ 17 l.toInt.toNat).toInt → wr σ 106 (σ 12 l.toInt.toNat).toInt.toNat 0 106 (σ 17 l.toInt.toNat).toInt.toNat = σ 106 (σ 17 l.toInt.toNat).toInt.toNat := fun q q2 => pk_un (f := σ 106) (by omega)
                       first
                       | (rw [bk_5n (by omega) (by rw [← p2]; omega) (fun q => by
                            rcases z5 with z | z
                            · omega
                            · first
                              | (rw [z.2.2] at c354; omega)
                              | (rw [z.2.2, e0 z.2.1 z.1.1, p2, p3] at h382a; exact h382a ⟨q.2.1, q.2.2.2⟩)
                              | (have c370 : ¬ (σ 92 (σ 102 l.toInt.toNat).toInt.toNat).toInt = (σ 92 (σ 12 l.toInt.toNat).toInt.toNat).toInt := c370; rw [v3, z.2.2] at c370; exact c370 q.2.2.1))] at hQ
                          exact hQ _ (Ag.wr (Ag.wr Ag.rf rfl) rfl) (VwM.w1 (VwM.w0 hP)))
                       | (have z : (0 ≤ (σ 17 l.toInt.toNat).toInt ∧ (σ 17 l.toInt.toNat).toInt < (σ 3 0).toInt) ∧ (σ 17 l.toInt.toNat).toInt ≠ (σ 12 l.toInt.toNat).toInt ∧ σ 102 l.toInt.toNat = σ 17 l.toInt.toNat := by
                            rcases z5 with z | z
                            · exfalso; omega
                            · exact z
                          rw [bk_5 (by omega) (by rw [← p2]; omega) (by
                            refine ⟨z.1.1, ?_⟩
                            have c370 : (σ 92 (σ 102 l.toInt.toNat).toInt.toNat).toInt = (σ 92 (σ 12 l.toInt.toNat).toInt.toNat).toInt := c370
                            rw [v3, z.2.2] at c370
                            rw [z.2.2, e0 z.2.1 z.1.1, p2, p3] at h382a
                            exact ⟨h382a.1, c370, h382a.2⟩)] at hQ
                          rw [← p3, ← z.2.2] at hQ
                          exact hQ _ (Ag.wr (Ag.wr (Ag.wr Ag.rf rfl) rfl) rfl) (VwM.w1 (VwM.w1 (VwM.w0 hP)))))
                · refine ⟨_, rfl, hv30, ?_⟩
                  refine ⟨rfl, Or.inr rfl, ?_⟩
                  first
                  | (exfalso; (try simp only [Int32.reduceToInt, l1, u96, u107, u92] at c36 c69 c81 c91 h98a c101 c111 c125_0 c125_1 c125_2 c125_3 c354 c370); omega)
                  | (unfold brF at hQ
                     try simp only [Int32.reduceToInt, l1, u96, u107, u92] at c36 c69 c81 c91 h98a c101 c111 c125_0 c125_1 c125_2 c125_3 c354 c370
                     have z5 := wl (by omega)
                     have e0 : (σ 17 l.toInt.toNat).toInt ≠ (σ 12 l.toInt.toNat).toInt → 0 ≤ (σ 17 l.toInt.toNat).toInt → wr σ 106 (σ 12 l.toInt.toNat).toInt.toNat 0 106 (σ 17 l.toInt.toNat).toInt.toNat = σ 106 (σ 17 l.toInt.toNat).toInt.toNat := fun q q2 => pk_un (f := σ 106) (by omega)
                     first
                     | (rw [bk_5n (by omega) (by rw [← p2]; omega) (fun q => by
                          rcases z5 with z | z
                          · omega
                          · first
                            | (rw [z.2.2] at c354; omega)
                            | (rw [z.2.2, e0 z.2.1 z.1.1, p2, p3] at h382a; exact h382a ⟨q.2.1, q.2.2.2⟩)
                            | (have c370 : ¬ (σ 92 (σ 102 l.toInt.toNat).toInt.toNat).toInt = (σ 92 (σ 12 l.toInt.toNat).toInt.toNat).toInt := c370; rw [v3, z.2.2] at c370; exact c370 q.2.2.1))] at hQ
                        exact hQ _ (Ag.wr (Ag.wr Ag.rf rfl) rfl) (VwM.w1 (VwM.w0 hP)))
                     | (have z : (0 ≤ (σ 17 l.toInt.toNat).toInt ∧ (σ 17 l.toInt.toNat).toInt < (σ 3 0).toInt) ∧ (σ 17 l.toInt.toNat).toInt ≠ (σ 12 l.toInt.toNat).toInt ∧ σ 102 l.toInt.toNat = σ 17 l.toInt.toNat := by
                          rcases z5 with z | z
                          · exfalso; omega
                          · exact z
                        rw [bk_5 (by omega) (by rw [← p2]; omega) (by
                          refine ⟨z.1.1, ?_⟩
                          have c370 : (σ 92 (σ 102 l.toInt.toNat).toInt.toNat).toInt = (σ 92 (σ 12 l.toInt.toNat).toInt.toNat).toInt := c370
                          rw [v3, z.2.2] at c370
                          rw [z.2.2, e0 z.2.1 z.1.1, p2, p3] at h382a
                          exact ⟨h382a.1, c370, h382a.2⟩)] at hQ
                        rw [← p3, ← z.2.2] at hQ
                        exact hQ _ (Ag.wr (Ag.wr (Ag.wr Ag.rf rfl) rfl) rfl) (VwM.w1 (VwM.w1 (VwM.w0 hP)))))
          · replace c101 := bI_nz c101
            refine ⟨rfl, Or.inl rfl, ?_⟩
            first
            | (exfalso; (try simp only [Int32.reduceToInt, l1, u96, u107, u92] at c36 c69 c81 c91 h98a c101); omega)
            | (unfold brF at hQ
               try simp only [Int32.reduceToInt, l1, u96, u107, u92] at c36 c69 c81 c91 h98a c101
               rw [bk_n (by omega) (by rw [← p2]; omega) (by rw [← p3, ← p4]; omega)] at hQ
               exact hQ _ agM (VwMU hP))
        · refine ⟨_, _, rfl, (by refine ⟨?_, ?_⟩ <;> omega), ?_⟩
          refine ⟨fun c125_0 => ?_, fun c125_0 => ?_⟩
          · try simp only [Int32.reduceToInt, l1, u96, u107, u92] at c36 c69 c81 c91 c125_0
            refine ⟨_, _, rfl, hv30, ?_⟩
            refine ⟨_, rfl, hv30, ?_⟩
            refine ⟨_, _, rfl, hv30, ?_⟩
            refine ⟨_, _, rfl, (hw1 (by omega)), ?_⟩
            refine ⟨_, _, rfl, (hx25 (by omega)), ?_⟩
            refine ⟨_, rfl, (hx25 (by omega)), ?_⟩
            refine ⟨rfl, Or.inr rfl, ?_⟩
            first
            | (exfalso; (try simp only [Int32.reduceToInt, l1, u96, u107, u92] at c36 c69 c81 c91 c125_0); omega)
            | (unfold brF at hQ
               try simp only [Int32.reduceToInt, l1, u96, u107, u92] at c36 c69 c81 c91 c125_0
               rw [bk_1 (by assumption) (by rw [← p2]; omega) (by rw [← p3, ← p4]; omega)] at hQ
               have hF0 := (ws (by omega)).2.1
               have hix := hx5 (by omega)
               rw [← p3] at hQ
               refine hQ _ (Ag.wr (Ag.wr agM rfl) rfl) (VwM.ws (VwM.w1 (VwMU hP)) (by omega) (by omega) hix ?_)
               show σ 109 (5 * σ 92 (σ 12 l.toInt.toNat).toInt.toNat + σ 89 (σ 102 l.toInt.toNat).toInt.toNat).toInt.toNat + (σ 16 l.toInt.toNat) = _
               rw [hix, p5 _ _ (by omega) (by omega), wr_c (show (3 + (σ 2 (σ 17 l.toInt.toNat).toInt.toNat).toInt.toNat : Nat) ≠ 1 by omega)])
          refine ⟨fun c125_1 => ?_, fun c125_1 => ?_⟩
          · try simp only [Int32.reduceToInt, l1, u96, u107, u92] at c36 c69 c81 c91 c125_0 c125_1
            refine ⟨_, _, rfl, hv30, ?_⟩
            refine ⟨fun c201 => ?_, fun c201 => ?_⟩
            · refine ⟨rfl, rfl, ?_⟩
              refine m_gets hv30 (fun (h207a : ¬ (¬ (σ 106 (σ 12 l.toInt.toNat).toInt.toNat).toInt = 0 ∧ (σ 107 (σ 12 l.toInt.toNat).toInt.toNat + (σ 16 l.toInt.toNat)).toInt ≤ 100000)) => ?_) (fun (h207a : ¬ (σ 106 (σ 12 l.toInt.toNat).toInt.toNat).toInt = 0 ∧ (σ 107 (σ 12 l.toInt.toNat).toInt.toNat + (σ 16 l.toInt.toNat)).toInt ≤ 100000) => ?_)
              · refine ⟨fun _ => ?_, fun z => absurd (by decide) z⟩
                refine ⟨fun _ => ?_, fun z => absurd (by decide) z⟩
                refine ⟨_, _, rfl, hv30, ?_⟩
                refine ⟨_, rfl, hv30, ?_⟩
                refine ⟨rfl, Or.inl rfl, ?_⟩
                first
                | (exfalso; (try simp only [Int32.reduceToInt, l1, u96, u107, u92] at c36 c69 c81 c91 c125_0 c125_1 c201 h207a); omega)
                | (unfold brF at hQ
                   try simp only [Int32.reduceToInt, l1, u96, u107, u92] at c36 c69 c81 c91 c125_0 c125_1 c201 h207a
                   rw [bk_2n (by assumption) (by rw [← p2]; omega) (by rw [← p3]; rw [v1] at c201; intro q; first | exact h207a ⟨by assumption, q.2⟩ | exact c201 q.1)] at hQ
                   rw [wr_same rfl]
                   exact hQ _ Ag.rf hP)
              · refine ⟨fun z => absurd z (by decide), fun _ => ?_⟩
                refine ⟨fun z => absurd z (by decide), fun _ => ?_⟩
                refine ⟨_, rfl, hv30, ?_⟩
                refine ⟨rfl, Or.inr rfl, ?_⟩
                first
                | (exfalso; (try simp only [Int32.reduceToInt, l1, u96, u107, u92] at c36 c69 c81 c91 c125_0 c125_1 c201 h207a); omega)
                | (unfold brF at hQ
                   try simp only [Int32.reduceToInt, l1, u96, u107, u92] at c36 c69 c81 c91 c125_0 c125_1 c201 h207a
                   rw [bk_2 (by assumption) (by rw [← p2]; omega) (by rw [← p3]; rw [v1] at c201; exact ⟨by assumption, h207a.2⟩)] at hQ
                   rw [← p3] at hQ
                   exact hQ _ (Ag.wr (Ag.wr Ag.rf rfl) rfl) (VwM.w2 (VwM.w1 hP)))
            · refine ⟨fun _ => ?_, fun z => absurd (by decide) z⟩
              refine ⟨_, _, rfl, hv30, ?_⟩
              refine ⟨_, rfl, hv30, ?_⟩
              refine ⟨rfl, Or.inl rfl, ?_⟩
              first
              | (exfalso; (try simp only [Int32.reduceToInt, l1, u96, u107, u92] at c36 c69 c81 c91 c125_0 c125_1 c201); omega)
              | (unfold brF at hQ
                 try simp only [Int32.reduceToInt, l1, u96, u107, u92] at c36 c69 c81 c91 c125_0 c125_1 c201
                 rw [bk_2n (by assumption) (by rw [← p2]; omega) (by rw [← p3]; rw [v1] at c201; intro q; first | exact h207a ⟨by assumption, q.2⟩ | exact c201 q.1)] at hQ
                 rw [wr_same rfl]
                 exact hQ _ Ag.rf hP)
          refine ⟨fun c125_2 => ?_, fun c125_2 => ?_⟩
          · try simp only [Int32.reduceToInt, l1, u96, u107, u92] at c36 c69 c81 c91 c125_0 c125_1 c125_2
            refine ⟨_, _, rfl, (hw3 (by omega)), ?_⟩
            refine ⟨_, _, rfl, hv30, ?_⟩
            refine ⟨fun c258 => ?_, fun c258 => ?_⟩
            · refine ⟨rfl, rfl, ?_⟩
              refine m_gets (hw3 (by omega)) (fun (h265a : ¬ (¬ (σ 106 (σ 102 l.toInt.toNat).toInt.toNat).toInt = 0 ∧ (σ 107 (σ 102 l.toInt.toNat).toInt.toNat + (σ 16 l.toInt.toNat)).toInt ≤ 100000)) => ?_) (fun (h265a : ¬ (σ 106 (σ 102 l.toInt.toNat).toInt.toNat).toInt = 0 ∧ (σ 107 (σ 102 l.toInt.toNat).toInt.toNat + (σ 16 l.toInt.toNat)).toInt ≤ 100000) => ?_)
              · refine ⟨fun _ => ?_, fun z => absurd (by decide) z⟩
                refine ⟨_, _, rfl, hv30, ?_⟩
                refine ⟨fun _ => ?_, fun z => absurd (by decide) z⟩
                refine ⟨_, rfl, hv30, ?_⟩
                refine ⟨rfl, Or.inl rfl, ?_⟩
                first
                | (exfalso; (try simp only [Int32.reduceToInt, l1, u96, u107, u92] at c36 c69 c81 c91 c125_0 c125_1 c125_2 c258 h265a); omega)
                | (unfold brF at hQ
                   try simp only [Int32.reduceToInt, l1, u96, u107, u92] at c36 c69 c81 c91 c125_0 c125_1 c125_2 c258 h265a
                   rw [bk_3n (by assumption) (by rw [← p2]; omega) (by rw [← p3, ← p4]; omega) (fun q => by first | (rw [(wo (by omega)).2.2, p2, p3] at h265a; exact h265a ⟨q.1, q.2.2⟩) | (rw [v3, (wo (by omega)).2.2] at c258; exact c258 q.2.1))] at hQ
                   rw [wr_same (Int32.sub_zero _)]
                   exact hQ _ agM (VwMU hP))
              · refine ⟨fun z => absurd z (by decide), fun _ => ?_⟩
                refine ⟨_, _, rfl, hv30, ?_⟩
                refine ⟨fun z => absurd z (by decide), fun _ => ?_⟩
                refine ⟨_, rfl, hv30, ?_⟩
                refine ⟨rfl, Or.inr rfl, ?_⟩
                first
                | (exfalso; (try simp only [Int32.reduceToInt, l1, u96, u107, u92] at c36 c69 c81 c91 c125_0 c125_1 c125_2 c258 h265a); omega)
                | (unfold brF at hQ
                   try simp only [Int32.reduceToInt, l1, u96, u107, u92] at c36 c69 c81 c91 c125_0 c125_1 c125_2 c258 h265a
                   rw [bk_3 (by assumption) (by rw [← p2]; omega) (by rw [← p3, ← p4]; omega) (by rw [v3] at c258; rw [(wo (by omega)).2.2, p2, p3] at h265a; rw [(wo (by omega)).2.2] at c258; exact ⟨h265a.1, c258, h265a.2⟩)] at hQ
                   have hne := (wo (by omega)).2.1
                   have hwo := (wo (by omega)).1
                   rw [← p3, wr_comm (show (σ 12 l.toInt.toNat).toInt.toNat ≠ (σ 17 l.toInt.toNat).toInt.toNat by omega), ← (wo (by omega)).2.2] at hQ
                   have e2 : upd (σ 107) (σ 102 l.toInt.toNat).toInt.toNat (σ 107 (σ 102 l.toInt.toNat).toInt.toNat + (σ 16 l.toInt.toNat)) (σ 12 l.toInt.toNat).toInt.toNat = σ 107 (σ 12 l.toInt.toNat).toInt.toNat := pk_un (by rw [(wo (by omega)).2.2]; omega)
                   rw [← e2] at hQ
                   exact hQ _ (Ag.wr (Ag.wr agM rfl) rfl) (VwM.w1 (VwM.w1 (VwMU hP))))
            · refine ⟨_, _, rfl, hv30, ?_⟩
              refine ⟨fun _ => ?_, fun z => absurd (by decide) z⟩
              refine ⟨_, rfl, hv30, ?_⟩
              refine ⟨rfl, Or.inl rfl, ?_⟩
              first
              | (exfalso; (try simp only [Int32.reduceToInt, l1, u96, u107, u92] at c36 c69 c81 c91 c125_0 c125_1 c125_2 c258); omega)
              | (unfold brF at hQ
                 try simp only [Int32.reduceToInt, l1, u96, u107, u92] at c36 c69 c81 c91 c125_0 c125_1 c125_2 c258
                 rw [bk_3n (by assumption) (by rw [← p2]; omega) (by rw [← p3, ← p4]; omega) (fun q => by first | (rw [(wo (by omega)).2.2, p2, p3] at h265a; exact h265a ⟨q.1, q.2.2⟩) | (rw [v3, (wo (by omega)).2.2] at c258; exact c258 q.2.1))] at hQ
                 rw [wr_same (Int32.sub_zero _)]
                 exact hQ _ agM (VwMU hP))
          refine ⟨fun c125_3 => ?_, fun c125_3 => ?_⟩
          · try simp only [Int32.reduceToInt, l1, u96, u107, u92] at c36 c69 c81 c91 c125_0 c125_1 c125_2 c125_3
            refine ⟨rfl, rfl, ?_⟩
            refine m_gets hv30 (fun (h303a : ¬ (¬ (σ 106 (σ 12 l.toInt.toNat).toInt.toNat).toInt = 0 ∧ (σ 107 (σ 12 l.toInt.toNat).toInt.toNat + (σ 16 l.toInt.toNat)).toInt ≤ 100000)) => ?_) (fun (h303a : ¬ (σ 106 (σ 12 l.toInt.toNat).toInt.toNat).toInt = 0 ∧ (σ 107 (σ 12 l.toInt.toNat).toInt.toNat + (σ 16 l.toInt.toNat)).toInt ≤ 100000) => ?_)
            · refine ⟨_, _, rfl, hv30, ?_⟩
              refine ⟨_, _, rfl, (hw1 (by omega)), ?_⟩
              refine ⟨_, _, rfl, (hx25 (by omega)), ?_⟩
              refine ⟨fun _ => ?_, fun z => absurd (by decide) z⟩
              refine ⟨_, rfl, (hx25 (by omega)), ?_⟩
              refine ⟨rfl, Or.inl rfl, ?_⟩
              first
              | (exfalso; (try simp only [Int32.reduceToInt, l1, u96, u107, u92] at c36 c69 c81 c91 c125_0 c125_1 c125_2 c125_3 h303a); omega)
              | (unfold brF at hQ
                 try simp only [Int32.reduceToInt, l1, u96, u107, u92] at c36 c69 c81 c91 c125_0 c125_1 c125_2 c125_3 h303a
                 rw [bk_4n (by assumption) (by rw [← p2]; omega) (by rw [← p3]; intro q; exact h303a ⟨by assumption, q⟩)] at hQ
                 rw [wr_same (Int32.sub_zero _)]
                 exact hQ _ Ag.rf hP)
            · refine ⟨_, _, rfl, hv30, ?_⟩
              refine ⟨_, _, rfl, (hw1 (by omega)), ?_⟩
              refine ⟨_, _, rfl, (hx25 (by omega)), ?_⟩
              refine ⟨fun z => absurd z (by decide), fun _ => ?_⟩
              refine ⟨_, rfl, (hx25 (by omega)), ?_⟩
              refine ⟨rfl, Or.inr rfl, ?_⟩
              first
              | (exfalso; (try simp only [Int32.reduceToInt, l1, u96, u107, u92] at c36 c69 c81 c91 c125_0 c125_1 c125_2 c125_3 h303a); omega)
              | (unfold brF at hQ
                 try simp only [Int32.reduceToInt, l1, u96, u107, u92] at c36 c69 c81 c91 c125_0 c125_1 c125_2 c125_3 h303a
                 rw [bk_4 (by assumption) (by rw [← p2]; omega) (by rw [← p3]; exact h303a.2)] at hQ
                 have hF0 := (ws (by omega)).2.1
                 have hix := hx5 (by omega)
                 rw [← p3] at hQ
                 refine hQ _ (Ag.wr (Ag.wr Ag.rf rfl) rfl) (VwM.ws (VwM.w1 hP) (by omega) (by omega) hix ?_)
                 show σ 109 (5 * σ 92 (σ 12 l.toInt.toNat).toInt.toNat + σ 89 (σ 102 l.toInt.toNat).toInt.toNat).toInt.toNat - (σ 16 l.toInt.toNat) = _
                 rw [hix, p5 _ _ (by omega) (by omega), Int32.sub_eq_add_neg, wr_c (show (3 + (σ 2 (σ 17 l.toInt.toNat).toInt.toNat).toInt.toNat : Nat) ≠ 1 by omega)])
          try simp only [Int32.reduceToInt, l1, u96, u107, u92] at c36 c69 c81 c91 c125_0 c125_1 c125_2 c125_3
          refine ⟨hv30, Or.inl rfl, ?_⟩
          refine ⟨fun c354 => ?_, fun c354 => ?_⟩
          · refine ⟨_, rfl, hv30, ?_⟩
            refine ⟨rfl, Or.inr rfl, ?_⟩
            first
            | (exfalso; (try simp only [Int32.reduceToInt, l1, u96, u107, u92] at c36 c69 c81 c91 c125_0 c125_1 c125_2 c125_3 c354); omega)
            | (unfold brF at hQ
               try simp only [Int32.reduceToInt, l1, u96, u107, u92] at c36 c69 c81 c91 c125_0 c125_1 c125_2 c125_3 c354
               have z5 := wl (by omega)
               have e0 : (σ 17 l.toInt.toNat).toInt ≠ (σ 12 l.toInt.toNat).toInt → 0 ≤ (σ 17 l.toInt.toNat).toInt → wr σ 106 (σ 12 l.toInt.toNat).toInt.toNat 0 106 (σ 17 l.toInt.toNat).toInt.toNat = σ 106 (σ 17 l.toInt.toNat).toInt.toNat := fun q q2 => pk_un (f := σ 106) (by omega)
               first
               | (rw [bk_5n (by omega) (by rw [← p2]; omega) (fun q => by
                    rcases z5 with z | z
                    · omega
                    · first
                      | (rw [z.2.2] at c354; omega)
                      | (rw [z.2.2, e0 z.2.1 z.1.1, p2, p3] at h382a; exact h382a ⟨q.2.1, q.2.2.2⟩)
                      | (have c370 : ¬ (σ 92 (σ 102 l.toInt.toNat).toInt.toNat).toInt = (σ 92 (σ 12 l.toInt.toNat).toInt.toNat).toInt := c370; rw [v3, z.2.2] at c370; exact c370 q.2.2.1))] at hQ
                  exact hQ _ (Ag.wr (Ag.wr Ag.rf rfl) rfl) (VwM.w1 (VwM.w0 hP)))
               | (have z : (0 ≤ (σ 17 l.toInt.toNat).toInt ∧ (σ 17 l.toInt.toNat).toInt < (σ 3 0).toInt) ∧ (σ 17 l.toInt.toNat).toInt ≠ (σ 12 l.toInt.toNat).toInt ∧ σ 102 l.toInt.toNat = σ 17 l.toInt.toNat := by
                    rcases z5 with z | z
                    · exfalso; omega
                    · exact z
                  rw [bk_5 (by omega) (by rw [← p2]; omega) (by
                    refine ⟨z.1.1, ?_⟩
                    have c370 : (σ 92 (σ 102 l.toInt.toNat).toInt.toNat).toInt = (σ 92 (σ 12 l.toInt.toNat).toInt.toNat).toInt := c370
                    rw [v3, z.2.2] at c370
                    rw [z.2.2, e0 z.2.1 z.1.1, p2, p3] at h382a
                    exact ⟨h382a.1, c370, h382a.2⟩)] at hQ
                  rw [← p3, ← z.2.2] at hQ
                  exact hQ _ (Ag.wr (Ag.wr (Ag.wr Ag.rf rfl) rfl) rfl) (VwM.w1 (VwM.w1 (VwM.w0 hP)))))
          · refine ⟨_, _, rfl, (hw5 (by omega) (by omega)), ?_⟩
            refine ⟨_, _, rfl, hv30, ?_⟩
            refine ⟨fun c370 => ?_, fun c370 => ?_⟩
            · refine ⟨_, _, rfl, hv30, ?_⟩
              refine ⟨rfl, rfl, ?_⟩
              refine m_gets (hw5 (by omega) (by omega)) (fun (h382a : ¬ (¬ ((wr σ 106 (σ 12 l.toInt.toNat).toInt.toNat 0) 106 (σ 102 l.toInt.toNat).toInt.toNat).toInt = 0 ∧ (σ 107 (σ 102 l.toInt.toNat).toInt.toNat + σ 107 (σ 12 l.toInt.toNat).toInt.toNat).toInt ≤ 100000)) => ?_) (fun (h382a : ¬ ((wr σ 106 (σ 12 l.toInt.toNat).toInt.toNat 0) 106 (σ 102 l.toInt.toNat).toInt.toNat).toInt = 0 ∧ (σ 107 (σ 102 l.toInt.toNat).toInt.toNat + σ 107 (σ 12 l.toInt.toNat).toInt.toNat).toInt ≤ 100000) => ?_)
              · refine ⟨fun _ => ?_, fun z => absurd (by decide) z⟩
                refine ⟨_, rfl, hv30, ?_⟩
                refine ⟨rfl, Or.inr rfl, ?_⟩
                first
                | (exfalso; (try simp only [Int32.reduceToInt, l1, u96, u107, u92] at c36 c69 c81 c91 c125_0 c125_1 c125_2 c125_3 c354 c370 h382a); omega)
                | (unfold brF at hQ
                   try simp only [Int32.reduceToInt, l1, u96, u107, u92] at c36 c69 c81 c91 c125_0 c125_1 c125_2 c125_3 c354 c370 h382a
                   have z5 := wl (by omega)
                   have e0 : (σ 17 l.toInt.toNat).toInt ≠ (σ 12 l.toInt.toNat).toInt → 0 ≤ (σ 17 l.toInt.toNat).toInt → wr σ 106 (σ 12 l.toInt.toNat).toInt.toNat 0 106 (σ 17 l.toInt.toNat).toInt.toNat = σ 106 (σ 17 l.toInt.toNat).toInt.toNat := fun q q2 => pk_un (f := σ 106) (by omega)
                   first
                   | (rw [bk_5n (by omega) (by rw [← p2]; omega) (fun q => by
                        rcases z5 with z | z
                        · omega
                        · first
                          | (rw [z.2.2] at c354; omega)
                          | (rw [z.2.2, e0 z.2.1 z.1.1, p2, p3] at h382a; exact h382a ⟨q.2.1, q.2.2.2⟩)
                          | (have c370 : ¬ (σ 92 (σ 102 l.toInt.toNat).toInt.toNat).toInt = (σ 92 (σ 12 l.toInt.toNat).toInt.toNat).toInt := c370; rw [v3, z.2.2] at c370; exact c370 q.2.2.1))] at hQ
                      exact hQ _ (Ag.wr (Ag.wr Ag.rf rfl) rfl) (VwM.w1 (VwM.w0 hP)))
                   | (have z : (0 ≤ (σ 17 l.toInt.toNat).toInt ∧ (σ 17 l.toInt.toNat).toInt < (σ 3 0).toInt) ∧ (σ 17 l.toInt.toNat).toInt ≠ (σ 12 l.toInt.toNat).toInt ∧ σ 102 l.toInt.toNat = σ 17 l.toInt.toNat := by
                        rcases z5 with z | z
                        · exfalso; omega
                        · exact z
                      rw [bk_5 (by omega) (by rw [← p2]; omega) (by
                        refine ⟨z.1.1, ?_⟩
                        have c370 : (σ 92 (σ 102 l.toInt.toNat).toInt.toNat).toInt = (σ 92 (σ 12 l.toInt.toNat).toInt.toNat).toInt := c370
                        rw [v3, z.2.2] at c370
                        rw [z.2.2, e0 z.2.1 z.1.1, p2, p3] at h382a
                        exact ⟨h382a.1, c370, h382a.2⟩)] at hQ
                      rw [← p3, ← z.2.2] at hQ
                      exact hQ _ (Ag.wr (Ag.wr (Ag.wr Ag.rf rfl) rfl) rfl) (VwM.w1 (VwM.w1 (VwM.w0 hP)))))
              · refine ⟨fun z => absurd z (by decide), fun _ => ?_⟩
                refine ⟨_, rfl, hv30, ?_⟩
                refine ⟨rfl, Or.inr rfl, ?_⟩
                first
                | (exfalso; (try simp only [Int32.reduceToInt, l1, u96, u107, u92] at c36 c69 c81 c91 c125_0 c125_1 c125_2 c125_3 c354 c370 h382a); omega)
                | (unfold brF at hQ
                   try simp only [Int32.reduceToInt, l1, u96, u107, u92] at c36 c69 c81 c91 c125_0 c125_1 c125_2 c125_3 c354 c370 h382a
                   have z5 := wl (by omega)
                   have e0 : (σ 17 l.toInt.toNat).toInt ≠ (σ 12 l.toInt.toNat).toInt → 0 ≤ (σ 17 l.toInt.toNat).toInt → wr σ 106 (σ 12 l.toInt.toNat).toInt.toNat 0 106 (σ 17 l.toInt.toNat).toInt.toNat = σ 106 (σ 17 l.toInt.toNat).toInt.toNat := fun q q2 => pk_un (f := σ 106) (by omega)
                   first
                   | (rw [bk_5n (by omega) (by rw [← p2]; omega) (fun q => by
                        rcases z5 with z | z
                        · omega
                        · first
                          | (rw [z.2.2] at c354; omega)
                          | (rw [z.2.2, e0 z.2.1 z.1.1, p2, p3] at h382a; exact h382a ⟨q.2.1, q.2.2.2⟩)
                          | (have c370 : ¬ (σ 92 (σ 102 l.toInt.toNat).toInt.toNat).toInt = (σ 92 (σ 12 l.toInt.toNat).toInt.toNat).toInt := c370; rw [v3, z.2.2] at c370; exact c370 q.2.2.1))] at hQ
                      exact hQ _ (Ag.wr (Ag.wr Ag.rf rfl) rfl) (VwM.w1 (VwM.w0 hP)))
                   | (have z : (0 ≤ (σ 17 l.toInt.toNat).toInt ∧ (σ 17 l.toInt.toNat).toInt < (σ 3 0).toInt) ∧ (σ 17 l.toInt.toNat).toInt ≠ (σ 12 l.toInt.toNat).toInt ∧ σ 102 l.toInt.toNat = σ 17 l.toInt.toNat := by
                        rcases z5 with z | z
                        · exfalso; omega
                        · exact z
                      rw [bk_5 (by omega) (by rw [← p2]; omega) (by
                        refine ⟨z.1.1, ?_⟩
                        have c370 : (σ 92 (σ 102 l.toInt.toNat).toInt.toNat).toInt = (σ 92 (σ 12 l.toInt.toNat).toInt.toNat).toInt := c370
                        rw [v3, z.2.2] at c370
                        rw [z.2.2, e0 z.2.1 z.1.1, p2, p3] at h382a
                        exact ⟨h382a.1, c370, h382a.2⟩)] at hQ
                      rw [← p3, ← z.2.2] at hQ
                      exact hQ _ (Ag.wr (Ag.wr (Ag.wr Ag.rf rfl) rfl) rfl) (VwM.w1 (VwM.w1 (VwM.w0 hP)))))
            · refine ⟨_, rfl, hv30, ?_⟩
              refine ⟨rfl, Or.inr rfl, ?_⟩
              first
              | (exfalso; (try simp only [Int32.reduceToInt, l1, u96, u107, u92] at c36 c69 c81 c91 c125_0 c125_1 c125_2 c125_3 c354 c370); omega)
              | (unfold brF at hQ
                 try simp only [Int32.reduceToInt, l1, u96, u107, u92] at c36 c69 c81 c91 c125_0 c125_1 c125_2 c125_3 c354 c370
                 have z5 := wl (by omega)
                 have e0 : (σ 17 l.toInt.toNat).toInt ≠ (σ 12 l.toInt.toNat).toInt → 0 ≤ (σ 17 l.toInt.toNat).toInt → wr σ 106 (σ 12 l.toInt.toNat).toInt.toNat 0 106 (σ 17 l.toInt.toNat).toInt.toNat = σ 106 (σ 17 l.toInt.toNat).toInt.toNat := fun q q2 => pk_un (f := σ 106) (by omega)
                 first
                 | (rw [bk_5n (by omega) (by rw [← p2]; omega) (fun q => by
                      rcases z5 with z | z
                      · omega
                      · first
                        | (rw [z.2.2] at c354; omega)
                        | (rw [z.2.2, e0 z.2.1 z.1.1, p2, p3] at h382a; exact h382a ⟨q.2.1, q.2.2.2⟩)
                        | (have c370 : ¬ (σ 92 (σ 102 l.toInt.toNat).toInt.toNat).toInt = (σ 92 (σ 12 l.toInt.toNat).toInt.toNat).toInt := c370; rw [v3, z.2.2] at c370; exact c370 q.2.2.1))] at hQ
                    exact hQ _ (Ag.wr (Ag.wr Ag.rf rfl) rfl) (VwM.w1 (VwM.w0 hP)))
                 | (have z : (0 ≤ (σ 17 l.toInt.toNat).toInt ∧ (σ 17 l.toInt.toNat).toInt < (σ 3 0).toInt) ∧ (σ 17 l.toInt.toNat).toInt ≠ (σ 12 l.toInt.toNat).toInt ∧ σ 102 l.toInt.toNat = σ 17 l.toInt.toNat := by
                      rcases z5 with z | z
                      · exfalso; omega
                      · exact z
                    rw [bk_5 (by omega) (by rw [← p2]; omega) (by
                      refine ⟨z.1.1, ?_⟩
                      have c370 : (σ 92 (σ 102 l.toInt.toNat).toInt.toNat).toInt = (σ 92 (σ 12 l.toInt.toNat).toInt.toNat).toInt := c370
                      rw [v3, z.2.2] at c370
                      rw [z.2.2, e0 z.2.1 z.1.1, p2, p3] at h382a
                      exact ⟨h382a.1, c370, h382a.2⟩)] at hQ
                    rw [← p3, ← z.2.2] at hQ
                    exact hQ _ (Ag.wr (Ag.wr (Ag.wr Ag.rf rfl) rfl) rfl) (VwM.w1 (VwM.w1 (VwM.w0 hP)))))
theorem br_peqQ {σ P P' : Mm} (hI : InvQ σ) {l : Nat} (hl : (l : Int) < (σ 10 0).toInt) (h : Peq P P') : Peq (brF σ P l).1 (brF σ P' l).1 ∧ (brF σ P l).2 = (brF σ P' l).2 := by
  obtain ⟨⟨k1, k2, k3, k4, k5⟩, ⟨w1, w2⟩, ws, wo, wl, wb⟩ := lineFQ hI hl
  unfold brF
  have hv : (σ 12 l).toInt.toNat < 30 := by omega
  generalize (σ 12 l).toInt.toNat = v at *
  obtain ⟨e0, e1, e2⟩ := h.2.1 v hv
  have el : lifeF σ (P 1) v = lifeF σ (P' 1) v := lifeF_w e1
  by_cases q0 : (σ 11 l).toInt = 0
  · rw [bk_0 q0, bk_0 q0]
    exact ⟨Peq.w2 (Peq.w1 (Peq.w0 h rfl) rfl) rfl, rfl⟩
  by_cases d0 : (P 0 v).toInt = 0
  · rw [bk_d q0 d0, bk_d q0 (by rw [← e0]; exact d0)]
    exact ⟨h, rfl⟩
  have d0' : ¬ (P' 0 v).toInt = 0 := by rw [← e0]; exact d0
  by_cases q1 : ((σ 11 l).toInt = 1 ∨ (σ 11 l).toInt = 3) ∧ ((P 1 v).toInt < (σ 16 l).toInt ∨ (lifeF σ (P 1) v).toInt < (σ 13 l - P 2 v).toInt)
  · rw [bk_n q1.1 d0 q1.2, bk_n q1.1 d0' (by rw [← e1, ← e2, ← el]; exact q1.2)]
    exact ⟨h, rfl⟩
  by_cases qk : (σ 11 l).toInt = 1
  · have hn : ¬ ((P 1 v).toInt < (σ 16 l).toInt ∨ (lifeF σ (P 1) v).toInt < (σ 13 l - P 2 v).toInt) := fun z => q1 ⟨Or.inl qk, z⟩
    rw [bk_1 qk d0 hn, bk_1 qk d0' (by rw [← e1, ← e2, ← el]; exact hn)]
    have hF := (ws (Or.inl qk)).2.1
    have h1 := Peq.w1 (i := v) (x := P 1 v - σ 16 l) h (congrArg (· - σ 16 l) e1)
    refine ⟨Peq.ws h1 (by omega) ?_, rfl⟩
    rw [h1.2.2 _ _ (by omega) (by omega)]
  by_cases qk2 : (σ 11 l).toInt = 2
  · by_cases z : (σ 4 v).toInt = 1 ∧ (P 1 v + σ 16 l).toInt ≤ 100000
    · rw [bk_2 qk2 d0 z, bk_2 qk2 d0' (by rw [← e1]; exact z)]
      exact ⟨Peq.w2 (Peq.w1 h (by rw [e1])) rfl, rfl⟩
    · rw [bk_2n qk2 d0 z, bk_2n qk2 d0' (by rw [← e1]; exact z)]
      exact ⟨h, rfl⟩
  by_cases qk3 : (σ 11 l).toInt = 3
  · have hn : ¬ ((P 1 v).toInt < (σ 16 l).toInt ∨ (lifeF σ (P 1) v).toInt < (σ 13 l - P 2 v).toInt) := fun z => q1 ⟨Or.inr qk3, z⟩
    have ho := (wo qk3).1
    obtain ⟨o0, o1, o2⟩ := h.2.1 (σ 17 l).toInt.toNat (by omega)
    by_cases z : takP σ P v (σ 17 l).toInt.toNat (σ 16 l)
    · rw [bk_3 qk3 d0 hn z, bk_3 qk3 d0' (by rw [← e1, ← e2, ← el]; exact hn) (by unfold takP; rw [← o0, ← o1]; exact z)]
      exact ⟨Peq.w1 (Peq.w1 h (by rw [e1])) (by rw [o1]), rfl⟩
    · rw [bk_3n qk3 d0 hn z, bk_3n qk3 d0' (by rw [← e1, ← e2, ← el]; exact hn) (by unfold takP; rw [← o0, ← o1]; exact z)]
      exact ⟨h, rfl⟩
  by_cases qk4 : (σ 11 l).toInt = 4
  · by_cases z : (P 1 v + σ 16 l).toInt ≤ 100000
    · rw [bk_4 qk4 d0 z, bk_4 qk4 d0' (by rw [← e1]; exact z)]
      have hF := (ws (Or.inr qk4)).2.1
      have h1 := Peq.w1 (i := v) (x := P 1 v + σ 16 l) h (congrArg (· + σ 16 l) e1)
      refine ⟨Peq.ws h1 (by omega) ?_, rfl⟩
      rw [h1.2.2 _ _ (by omega) (by omega)]
    · rw [bk_4n qk4 d0 z, bk_4n qk4 d0' (by rw [← e1]; exact z)]
      exact ⟨h, rfl⟩
  have qk5 : (σ 11 l).toInt = 5 := by omega
  rcases wl qk5 with ho | ho
  · rw [bk_5n qk5 d0 (fun z => by omega), bk_5n qk5 d0' (fun z => by omega)]
    exact ⟨Peq.w1 (Peq.w0 h rfl) rfl, rfl⟩
  · have ho := ho.1
    obtain ⟨o0, o1, o2⟩ := h.2.1 (σ 17 l).toInt.toNat (by omega)
    by_cases z : 0 ≤ (σ 17 l).toInt ∧ takP σ P v (σ 17 l).toInt.toNat (P 1 v)
    · rw [bk_5 qk5 d0 z, bk_5 qk5 d0' (by unfold takP; rw [← o0, ← o1, ← e1]; exact z)]
      exact ⟨Peq.w1 (Peq.w1 (Peq.w0 h rfl) (by rw [o1, e1])) rfl, rfl⟩
    · rw [bk_5n qk5 d0 z, bk_5n qk5 d0' (by unfold takP; rw [← o0, ← o1, ← e1]; exact z)]
      exact ⟨Peq.w1 (Peq.w0 h rfl) rfl, rfl⟩
theorem stP_zQ {σ P P' : Mm} (hI : InvQ σ) {l : Nat} (hl : (l : Int) < (σ 10 0).toInt) (h : Peq P P') (hz : (brF σ P l).2.toInt = 0) : Peq (wr (brF σ P l).1 8 0 ((brF σ P l).1 8 0 + 1)) (stP σ P' l) := by
  obtain ⟨h1, h2⟩ := br_peqQ hI hl h
  unfold stP
  rw [if_pos (by rw [← h2]; exact hz)]
  exact Peq.w8 h1 (by rw [h1.1])
theorem stP_nQ {σ P P' : Mm} (hI : InvQ σ) {l : Nat} (hl : (l : Int) < (σ 10 0).toInt) (h : Peq P P') (hz : ¬ (brF σ P l).2.toInt = 0) : Peq (brF σ P l).1 (stP σ P' l) := by
  obtain ⟨h1, h2⟩ := br_peqQ hI hl h
  unfold stP
  rw [if_neg (by rw [← h2]; exact hz)]
  exact h1
theorem m_goThroughQ {d : Nat} {σ : Mm} {Q : Qt} {x y : Int32} (hI : InvQ σ) (hy : 0 ≤ y.toInt) (hQ : ∀ τ P, Ag LsG σ τ → (∀ j, j ≠ 26 → τ 88 j = σ 88 j) → VwM τ P → Peq P (plA σ (σ 18) (okB σ x y) (σ 10 0).toInt.toNat) → Q none τ) : Call (d + 7) k_X12_goThrough [.ref 88, .int x, .int y] σ Q := by
  refine Call_go fun X hX => ?_
  obtain ⟨⟨l0, l1, l2, l3, l4, l5⟩, ⟨l6, l7⟩, l8, l9⟩ := id (hI.2.2.1)
  obtain o0 := id (hI.2.2.2.1)
  have loopD : ∀ (N : Nat) (g : Nat → Int32), (∀ i, i < N → 0 ≤ (g i).toInt ∧ (g i).toInt < ((σ 10 0).toInt.toNat : Nat)) → (∀ τ P, Ag LsG σ τ → (∀ j, j ≠ 26 → τ 88 j = σ 88 j) → VwM τ P → Peq P (plA σ g (fun _ => true) N) → Q none τ) → ∀ (r k : Nat) (τ P : Mm) (v5 : Value), k + r = N → Ag LsG σ τ → (∀ j, j ≠ 26 → τ 88 j = σ 88 j) → τ 105 = g → VwM τ P → Peq P (plA σ g (fun _ => true) k) → N ≤ 100 → X 196 [.ref 88, .int x, .int y, .int (nI N), .int (nI k), v5] [] τ := by
    intro N g hr hK r
    induction r with
    | zero =>
      intro k τ P v5 hk hA h88 h105 hV hP hN
      rw [Nat.add_zero] at hk
      subst hk
      refine go [196] 100 hX ?_
      refine ⟨fun c199 => ?_, fun c199 => ?_⟩
      · exfalso; omega
      · refine ⟨rfl, rfl, ?_⟩
        exact hK τ P hA h88 hV hP
    | succ r ih =>
      intro k τ P v5 hk hA h88 h105 hV hP hN
      have ih := fun k τ P v5 a b c e f h => ih k τ P v5 a b c e f h hN
      have e1 := nIt (n := k) (by omega)
      have e3 := nIt (n := N) (by omega)
      have e2 := nIn (i := k) (by omega)
      have f10 : τ 10 = σ 10 := hA 10 rfl
      have hrk := hr k (by omega)
      have hln := lineFQ hI (l := (g k).toInt.toNat) (by omega)
      have eB : brF τ P (g k).toInt.toNat = brF σ P (g k).toInt.toNat := br_sta (StA_ag hA rfl) hln.2.1.1.2
      refine go [196] 100 hX ?_
      refine ⟨fun c199 => ?_, fun c199 => ?_⟩
      · refine ⟨_, _, rfl, ⟨by omega, by omega⟩, ?_⟩
        rw [h105, e2]
        refine ⟨rfl, rfl, ?_⟩
        refine m_bringsQ (P := P) (InvQ_G hI hA h88) hV ⟨by omega, by rw [f10]; omega⟩ (fun h215a h215b h215c => ?_)
        refine ⟨fun c218 => ?_, fun c218 => ?_⟩
        · first
          | (rw [eB] at h215c c218
             have ih1 := ih (k + 1) (wr h215a 88 26 (τ 88 26 + 0)) (brF σ P (g k).toInt.toNat).1 v5 (by omega) (Ag.wr (Ag.tr hA (Ag.wk h215b rfl)) rfl) (fun j hj => (pk_un hj).trans ((congrFun (h215b 88 rfl) j).trans (h88 j hj))) ((h215b 105 rfl).trans h105) (by
               rw [wr_same (by rw [Int32.add_zero]; exact (congrFun (h215b 88 rfl) 26).symm)]
               exact h215c) (by unfold plA; rw [if_pos rfl]; exact stP_nQ hI (by omega) hP c218)
             rw [← nI_1] at ih1
             exact ih1)
          | (rw [eB] at h215c c218
             have e26 : h215a 88 26 = τ 88 26 := congrFun (h215b 88 rfl) 26
             have ih1 := ih (k + 1) (wr h215a 88 26 (τ 88 26 + 1)) (wr (brF σ P (g k).toInt.toNat).1 8 0 ((brF σ P (g k).toInt.toNat).1 8 0 + 1)) v5 (by omega) (Ag.wr (Ag.tr hA (Ag.wk h215b rfl)) rfl) (fun j hj => (pk_un hj).trans ((congrFun (h215b 88 rfl) j).trans (h88 j hj))) ((h215b 105 rfl).trans h105) (VwM.w8 h215c (by rw [← h215c.1, e26])) (by unfold plA; rw [if_pos rfl]; exact stP_zQ hI (by omega) hP c218)
             rw [← nI_1] at ih1
             exact ih1)
        · first
          | (rw [eB] at h215c c218
             have ih1 := ih (k + 1) (wr h215a 88 26 (τ 88 26 + 0)) (brF σ P (g k).toInt.toNat).1 v5 (by omega) (Ag.wr (Ag.tr hA (Ag.wk h215b rfl)) rfl) (fun j hj => (pk_un hj).trans ((congrFun (h215b 88 rfl) j).trans (h88 j hj))) ((h215b 105 rfl).trans h105) (by
               rw [wr_same (by rw [Int32.add_zero]; exact (congrFun (h215b 88 rfl) 26).symm)]
               exact h215c) (by unfold plA; rw [if_pos rfl]; exact stP_nQ hI (by omega) hP c218)
             rw [← nI_1] at ih1
             exact ih1)
          | (rw [eB] at h215c c218
             have e26 : h215a 88 26 = τ 88 26 := congrFun (h215b 88 rfl) 26
             have ih1 := ih (k + 1) (wr h215a 88 26 (τ 88 26 + 1)) (wr (brF σ P (g k).toInt.toNat).1 8 0 ((brF σ P (g k).toInt.toNat).1 8 0 + 1)) v5 (by omega) (Ag.wr (Ag.tr hA (Ag.wk h215b rfl)) rfl) (fun j hj => (pk_un hj).trans ((congrFun (h215b 88 rfl) j).trans (h88 j hj))) ((h215b 105 rfl).trans h105) (VwM.w8 h215c (by rw [← h215c.1, e26])) (by unfold plA; rw [if_pos rfl]; exact stP_zQ hI (by omega) hP c218)
             rw [← nI_1] at ih1
             exact ih1)
      · refine ⟨rfl, rfl, ?_⟩
        exfalso; omega
  have inner : ∀ (τ : Mm), Ag LsB σ τ → ∀ (l : Nat), l < 100 → ∀ (p : Nat) (g : Nat → Int32), p ≤ 100 → (∀ i : Nat, i < p → 0 ≤ (g i).toInt ∧ (g i).toInt < (100 : Nat)) → ∀ m : Nat, p ≤ m ∧ m < 100 → (∀ v5, X 61 [.ref 88, .int x, .int y, .int (nI (m + 1)), .int (nI (l + 1)), v5] [] (up τ 105 (insL (σ 13) (nI l) g p))) → X 119 [.ref 88, .int x, .int y, .int (nI m), .int (nI l), .int (nI p)] [] (up τ 105 g) := by
    intro τ hA l hl p
    induction p with
    | zero =>
      intro g hp hg m hm hK
      have ep := nIt (n := 0) (by omega)
      refine go [119, 61] 100 hX ?_
      refine ⟨fun c121 => ?_, fun c121 => ?_⟩
      · refine ⟨_, _, rfl, (by exfalso; omega), ?_⟩
        refine ⟨_, _, rfl, (by exfalso; omega), ?_⟩
        refine ⟨_, _, rfl, (by exfalso; omega), ?_⟩
        refine ⟨fun c145 => ?_, fun c145 => ?_⟩
        · refine ⟨_, _, rfl, (by exfalso; omega), ?_⟩
          refine ⟨_, rfl, (by exfalso; omega), ?_⟩
          exfalso; omega
        · refine ⟨_, rfl, ⟨by omega, by omega⟩, ?_⟩
          first
          | (exfalso; omega)
          | (unfold insL at hK
             have hk1 := hK (.int (nI (0)))
             have em : wr (up τ 105 g) 105 (nI (0)).toInt.toNat (nI l) = up τ 105 (upd g 0 (nI l)) := by
               rw [nIn (by omega), wr, up_up]
               rfl
             rw [← em, ← nI_1 m, ← nI_1 l] at hk1
             exact hk1)
      · refine ⟨_, rfl, ⟨by omega, by omega⟩, ?_⟩
        first
        | (exfalso; omega)
        | (unfold insL at hK
           have hk1 := hK (.int (nI (0)))
           have em : wr (up τ 105 g) 105 (nI (0)).toInt.toNat (nI l) = up τ 105 (upd g 0 (nI l)) := by
             rw [nIn (by omega), wr, up_up]
             rfl
           rw [← em, ← nI_1 m, ← nI_1 l] at hk1
           exact hk1)
    | succ p ih =>
      intro g hp hg m hm hK
      have ep := nIt (n := p + 1) (by omega)
      have ep2 := nIt (n := p) (by omega)
      have el := nIt (n := l) (by omega)
      have f98 : up τ 105 g 98 = σ 13 := (hA 98 rfl).trans l3
      have f105 : up τ 105 g 105 = g := rfl
      have ih := fun g a b c => ih g a b m (by omega) c
      refine go [119, 61] 100 hX ?_
      refine ⟨fun c121 => ?_, fun c121 => ?_⟩
      · refine ⟨_, _, rfl, (by rw [nI_pred]; exact ⟨by omega, by omega⟩), ?_⟩
        refine ⟨_, _, rfl, (by rw [nI_pred, nIn (by omega)]; exact hg p (by omega)), ?_⟩
        refine ⟨_, _, rfl, ⟨by omega, by omega⟩, ?_⟩
        refine ⟨fun c145 => ?_, fun c145 => ?_⟩
        · refine ⟨_, _, rfl, (by rw [nI_pred]; exact ⟨by omega, by omega⟩), ?_⟩
          refine ⟨_, rfl, ⟨by omega, by omega⟩, ?_⟩
          simp only [f98, f105, nI_pred, nIn (show p < 2147483648 by omega), nIn (show l < 2147483648 by omega)] at c145
          have ih1 := ih (upd g (p + 1) (g p)) (by omega) (fun i hi => by rw [pk_un (by omega)]; exact hg i (by omega)) (by unfold insL at hK; rw [nIn (by omega), if_pos c145] at hK; exact hK)
          have em : wr (up τ 105 g) 105 (nI (p + 1)).toInt.toNat (up τ 105 g 105 (nI (p + 1) - 1).toInt.toNat) = up τ 105 (upd g (p + 1) (g p)) := by
            rw [nI_pred, nIn (by omega), nIn (by omega), wr, up_up]
            rfl
          rw [← em, ← pk_m1 p] at ih1
          exact ih1
        · refine ⟨_, rfl, ⟨by omega, by omega⟩, ?_⟩
          first
          | (exfalso; omega)
          | (simp only [f98, f105, nI_pred, nIn (show p < 2147483648 by omega), nIn (show l < 2147483648 by omega)] at c145
             unfold insL at hK
             rw [nIn (show l < 2147483648 by omega), if_neg c145] at hK
             have hk1 := hK (.int (nI (p + 1)))
             have em : wr (up τ 105 g) 105 (nI (p + 1)).toInt.toNat (nI l) = up τ 105 (upd g (p + 1) (nI l)) := by
               rw [nIn (by omega), wr, up_up]
               rfl
             rw [← em, ← nI_1 m, ← nI_1 l] at hk1
             exact hk1)
      · refine ⟨_, rfl, ⟨by omega, by omega⟩, ?_⟩
        first
        | (exfalso; omega)
        | (simp only [f98, f105, nI_pred, nIn (show p < 2147483648 by omega), nIn (show l < 2147483648 by omega)] at c145
           unfold insL at hK
           rw [nIn (show l < 2147483648 by omega), if_neg c145] at hK
           have hk1 := hK (.int (nI (p + 1)))
           have em : wr (up τ 105 g) 105 (nI (p + 1)).toInt.toNat (nI l) = up τ 105 (upd g (p + 1) (nI l)) := by
             rw [nIn (by omega), wr, up_up]
             rfl
           rw [← em, ← nI_1 m, ← nI_1 l] at hk1
           exact hk1)
  have loopC : ∀ (τ : Mm), Ag LsB σ τ → (∀ j, j < 30 → τ 106 j = 0 ∧ τ 107 j = 0 ∧ τ 108 j = 0) → (∀ j, j < 25 → τ 109 j = 0) → ∀ (r l : Nat) (lst : List Nat) (g : Nat → Int32) (v5 : Value), l + r = (σ 10 0).toInt.toNat → lst = (ordR (σ 13) l).filter (okB σ x y) → arr g lst → X 61 [.ref 88, .int x, .int y, .int (nI lst.length), .int (nI l), v5] [] (up τ 105 g) := by
    intro τ hA hz hs r
    induction r with
    | zero =>
      intro l lst g v5 hi hlst hg
      rw [Nat.add_zero] at hi
      have hm : ∀ z, z ∈ lst → z < l := fun z hz => by rw [hlst] at hz; exact ordR_mem l z (List.mem_filter.mp hz).1
      have hlen : lst.length ≤ l := by rw [hlst]; have := List.length_filter_le (okB σ x y) (ordR (σ 13) l); rw [ordR_len] at this; exact this
      have f88 : up τ 105 g 88 = σ 88 := hA 88 rfl
      have f98 : up τ 105 g 98 = σ 98 := hA 98 rfl
      have f99 : up τ 105 g 99 = σ 99 := hA 99 rfl
      have f100 : up τ 105 g 100 = σ 100 := hA 100 rfl
      have f105 : up τ 105 g 105 = g := rfl
      have e1 := nIt (n := l) (by omega)
      have e2 := nIn (i := l) (by omega)
      have q88 : (up τ 105 g 88 11).toInt = (σ 10 0).toInt := by rw [f88, l0]
      refine go [61, 119, 196] 100 hX ?_
      refine ⟨fun c67 => ?_, fun c67 => ?_⟩
      · exfalso; omega
      · have h1 := loopD lst.length g (arr_rng (n := (σ 10 0).toInt.toNat) (by omega) lst (fun z hz => by have := hm z hz; omega) hg) (fun τ' P b1 b2 b3 b4 => hQ τ' P b1 b2 b3 (by
          rw [plA_arr lst (fun z hz => by have := hm z hz; omega) hg] at b4
          rw [List.filter_eq_self.mpr (fun _ _ => rfl), hlst, hi] at b4
          have h2 := plA_arr (σ := σ) (ok := okB σ x y) (ordR (σ 13) (σ 10 0).toInt.toNat) (fun z hz => by have := ordR_mem _ z hz; omega) (ordR_arr _ (by omega))
          rw [ordR_len, ← o0] at h2
          rw [h2]
          exact b4)) lst.length 0 (wr (up τ 105 g) 88 26 0) (PM (wr (up τ 105 g) 88 26 0)) v5 (Nat.zero_add _) (Ag.wr (Ag.up (Ag.wk hA rfl) rfl) rfl) (fun j hj => (pk_un hj).trans (congrFun (hA 88 rfl) j)) rfl VwM_PM ⟨rfl, fun j hj => hz j hj, fun a b ha hb => (PM_s ha hb).trans (hs _ (by omega))⟩ (by omega)
        exact h1
    | succ r ihC =>
      intro l lst g v5 hi hlst hg
      have hm : ∀ z, z ∈ lst → z < l := fun z hz => by rw [hlst] at hz; exact ordR_mem l z (List.mem_filter.mp hz).1
      have hlen : lst.length ≤ l := by rw [hlst]; have := List.length_filter_le (okB σ x y) (ordR (σ 13) l); rw [ordR_len] at this; exact this
      obtain ⟨a1, a2, a3, a4, a5, a6⟩ := l9 l (by omega)
      have hgo : ((σ 100 l).toInt = -1 ∧ (σ 15 l).toInt = -1000000005) ∨ ((σ 100 l).toInt = (σ 15 l).toInt ∧ 0 ≤ (σ 15 l).toInt) := by
        rcases a5 with ⟨z1, z2⟩ | ⟨z1, z2, z3⟩
        · rw [z1, z2]; exact Or.inl ⟨rfl, rfl⟩
        · rw [z1]; exact Or.inr ⟨rfl, z2⟩
      have f88 : up τ 105 g 88 = σ 88 := hA 88 rfl
      have f98 : up τ 105 g 98 = σ 98 := hA 98 rfl
      have f99 : up τ 105 g 99 = σ 99 := hA 99 rfl
      have f100 : up τ 105 g 100 = σ 100 := hA 100 rfl
      have f105 : up τ 105 g 105 = g := rfl
      have e1 := nIt (n := l) (by omega)
      have e2 := nIn (i := l) (by omega)
      have q88 : (up τ 105 g 88 11).toInt = (σ 10 0).toInt := by rw [f88, l0]
      refine go [61, 119, 196] 100 hX ?_
      refine ⟨fun c67 => ?_, fun c67 => ?_⟩
      · refine ⟨_, _, rfl, ⟨by omega, by omega⟩, ?_⟩
        refine ⟨fun c78 => ?_, fun c78 => ?_⟩
        · have hk : ¬ okB σ x y l = true := by
            unfold okB
            rw [decide_eq_true_iff]
            unfold okP
            simp only [f99, f100, f98, l4, l3, e2] at c67 c78
            omega
          have ih1 := ihC (l + 1) lst g v5 (by omega) (by show lst = List.filter _ (insR _ _ _); rw [filter_ins _ (ordR_srt l), if_neg hk]; exact hlst) hg
          rw [← nI_1] at ih1
          exact ih1
        · refine ⟨_, _, rfl, ⟨by omega, by omega⟩, ?_⟩
          refine ⟨fun c88 => ?_, fun c88 => ?_⟩
          · refine ⟨_, _, rfl, ⟨by omega, by omega⟩, ?_⟩
            refine ⟨fun c110 => ?_, fun c110 => ?_⟩
            · have hk : ¬ okB σ x y l = true := by
                unfold okB
                rw [decide_eq_true_iff]
                unfold okP
                simp only [f99, f100, f98, l4, l3, e2] at c67 c78 c88 c110
                omega
              have ih1 := ihC (l + 1) lst g v5 (by omega) (by show lst = List.filter _ (insR _ _ _); rw [filter_ins _ (ordR_srt l), if_neg hk]; exact hlst) hg
              rw [← nI_1] at ih1
              exact ih1
            · have hk : okB σ x y l = true := by
                unfold okB
                rw [decide_eq_true_iff]
                unfold okP
                simp only [f99, f100, f98, l4, l3, e2] at c67 c78 c88 c110
                omega
              refine inner τ hA l (by omega) lst.length g (by omega) (fun i hi => ?_) lst.length (by omega) (fun w5 => ?_)
              · have := arr_rng (n := l) (by omega) lst hm hg i hi
                omega
              · have ih1 := ihC (l + 1) (insR (σ 13) l lst) (insL (σ 13) (nI l) g lst.length) w5 (by omega) (by show _ = List.filter _ (insR _ _ _); rw [filter_ins _ (ordR_srt l), if_pos hk, ← hlst]) (arr_ins (by omega) lst g (fun z hz => by have := hm z hz; omega) hg)
                rw [insR_len] at ih1
                exact ih1
          · refine ⟨_, _, rfl, ⟨by omega, by omega⟩, ?_⟩
            refine ⟨fun c99 => ?_, fun c99 => ?_⟩
            · refine ⟨_, _, rfl, ⟨by omega, by omega⟩, ?_⟩
              refine ⟨fun c110 => ?_, fun c110 => ?_⟩
              · have hk : ¬ okB σ x y l = true := by
                  unfold okB
                  rw [decide_eq_true_iff]
                  unfold okP
                  simp only [f99, f100, f98, l4, l3, e2] at c67 c78 c88 c99 c110
                  omega
                have ih1 := ihC (l + 1) lst g v5 (by omega) (by show lst = List.filter _ (insR _ _ _); rw [filter_ins _ (ordR_srt l), if_neg hk]; exact hlst) hg
                rw [← nI_1] at ih1
                exact ih1
              · have hk : okB σ x y l = true := by
                  unfold okB
                  rw [decide_eq_true_iff]
                  unfold okP
                  simp only [f99, f100, f98, l4, l3, e2] at c67 c78 c88 c99 c110
                  omega
                refine inner τ hA l (by omega) lst.length g (by omega) (fun i hi => ?_) lst.length (by omega) (fun w5 => ?_)
                · have := arr_rng (n := l) (by omega) lst hm hg i hi
                  omega
                · have ih1 := ihC (l + 1) (insR (σ 13) l lst) (insL (σ 13) (nI l) g lst.length) w5 (by omega) (by show _ = List.filter _ (insR _ _ _); rw [filter_ins _ (ordR_srt l), if_pos hk, ← hlst]) (arr_ins (by omega) lst g (fun z hz => by have := hm z hz; omega) hg)
                  rw [insR_len] at ih1
                  exact ih1
            · have hk : ¬ okB σ x y l = true := by
                unfold okB
                rw [decide_eq_true_iff]
                unfold okP
                simp only [f99, f100, f98, l4, l3, e2] at c67 c78 c88 c99
                omega
              have ih1 := ihC (l + 1) lst g v5 (by omega) (by show lst = List.filter _ (insR _ _ _); rw [filter_ins _ (ordR_srt l), if_neg hk]; exact hlst) hg
              rw [← nI_1] at ih1
              exact ih1
      · exfalso; omega
  have loopB : ∀ (k i : Nat) (τ : Mm), i + k = 25 → Ag LsB σ τ → (∀ j, j < 30 → τ 106 j = 0 ∧ τ 107 j = 0 ∧ τ 108 j = 0) → (∀ j, j < i → τ 109 j = 0) → X 37 [.ref 88, .int x, .int y, .int (nI i), .null, .null] [] τ := by
    intro k
    induction k with
    | zero =>
      intro i τ hi hA hz hs
      have e1 := nIt (n := i) (by omega)
      refine go [37, 61] 100 hX ?_
      refine ⟨fun c40 => ?_, fun c40 => ?_⟩
      · refine ⟨_, rfl, (by exfalso; simp only [Int32.reduceToInt] at c40; omega), ?_⟩
        exfalso; simp only [Int32.reduceToInt] at c40; omega
      · have h1 := loopC τ hA hz (fun j hj => hs j (by omega)) (σ 10 0).toInt.toNat 0 [] (τ 105) .null (Nat.zero_add _) rfl True.intro
        rw [up_id] at h1
        exact h1
    | succ k ih =>
      intro i τ hi hA hz hs
      have e1 := nIt (n := i) (by omega)
      have e2 := nIn (i := i) (by omega)
      refine go [37, 61] 100 hX ?_
      refine ⟨fun c40 => ?_, fun c40 => ?_⟩
      · refine ⟨_, rfl, ⟨by omega, by omega⟩, ?_⟩
        have ih1 := ih (i + 1) (wr τ 109 (nI i).toInt.toNat 0) (by omega) (Ag.wr hA rfl) hz (fun j hj => by
          rw [e2]
          by_cases q : j = i
          · rw [q]; exact wr_v
          · exact (wr_i q).trans (hs j (by omega)))
        rw [← nI_1] at ih1
        exact ih1
      · exfalso; simp only [Int32.reduceToInt] at c40; omega
  have loop : ∀ (k i : Nat) (τ : Mm), i + k = 30 → Ag LsB σ τ → (∀ j, j < i → τ 106 j = 0 ∧ τ 107 j = 0 ∧ τ 108 j = 0) → X 2 [.ref 88, .int x, .int y, .int (nI i), .null, .null] [] τ := by
    intro k
    induction k with
    | zero =>
      intro i τ hi hA hz
      have e1 := nIt (n := i) (by omega)
      refine go [2, 37] 100 hX ?_
      refine ⟨fun c5 => ?_, fun c5 => ?_⟩
      · refine ⟨(by exfalso; simp only [Int32.reduceToInt] at c5; omega), Or.inl rfl, ?_⟩
        refine ⟨_, rfl, (by exfalso; simp only [Int32.reduceToInt] at c5; omega), ?_⟩
        refine ⟨_, rfl, (by exfalso; simp only [Int32.reduceToInt] at c5; omega), ?_⟩
        exfalso; simp only [Int32.reduceToInt] at c5; omega
      · exact loopB 25 0 τ rfl hA (fun j hj => hz j (by omega)) (fun j hj => by omega)
    | succ k ih =>
      intro i τ hi hA hz
      have e1 := nIt (n := i) (by omega)
      have e2 := nIn (i := i) (by omega)
      refine go [2, 37] 100 hX ?_
      refine ⟨fun c5 => ?_, fun c5 => ?_⟩
      · refine ⟨⟨by omega, by omega⟩, Or.inl rfl, ?_⟩
        refine ⟨_, rfl, ⟨by omega, by omega⟩, ?_⟩
        refine ⟨_, rfl, ⟨by omega, by omega⟩, ?_⟩
        have z : ∀ j, j < i + 1 → wr (wr (wr τ 106 (nI i).toInt.toNat 0) 107 (nI i).toInt.toNat 0) 108 (nI i).toInt.toNat 0 106 j = 0 ∧ wr (wr (wr τ 106 (nI i).toInt.toNat 0) 107 (nI i).toInt.toNat 0) 108 (nI i).toInt.toNat 0 107 j = 0 ∧ wr (wr (wr τ 106 (nI i).toInt.toNat 0) 107 (nI i).toInt.toNat 0) 108 (nI i).toInt.toNat 0 108 j = 0 := fun j hj => by
          rw [e2]
          by_cases q : j = i
          · subst q
            exact ⟨pk_us (f := τ 106), pk_us (f := τ 107), pk_us (f := τ 108)⟩
          · exact ⟨(pk_un (f := τ 106) q).trans (hz j (by omega)).1, (pk_un (f := τ 107) q).trans (hz j (by omega)).2.1, (pk_un (f := τ 108) q).trans (hz j (by omega)).2.2⟩
        have ih1 := ih (i + 1) (wr (wr (wr τ 106 (nI i).toInt.toNat 0) 107 (nI i).toInt.toNat 0) 108 (nI i).toInt.toNat 0) (by omega) (Ag.wr (Ag.wr (Ag.wr hA rfl) rfl) rfl) z
        rw [← nI_1] at ih1
        exact ih1
      · exfalso; simp only [Int32.reduceToInt] at c5; omega
  refine go [2] 20 hX ?_
  exact loop 30 0 σ rfl Ag.rf (fun j hj => by omega)
