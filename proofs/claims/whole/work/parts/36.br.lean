theorem VwU {σ P : Mm} (h : Vw σ P) {g k : Nat → Int32} : Vw (up (up σ 44 k) 29 g) P := h
theorem agU {σ : Mm} {g k : Nat → Int32} : Ag LsC σ (up (up σ 44 k) 29 g) := Ag.up (Ag.up Ag.rf rfl) rfl
theorem ag_eq {σ τ : Mm} (h : Ag [29, 44] σ τ) : τ = up (up σ 44 (τ 44)) 29 (τ 29) := by
  funext j
  unfold up
  by_cases q : j = 29
  · rw [if_pos q, q]
  · rw [if_neg q]
    by_cases q2 : j = 44
    · rw [if_pos q2, q2]
    · rw [if_neg q2]
      refine h j ?_
      unfold cu cu cu
      rw [Bool.or_false]
      cases h1 : Nat.beq j 29 with
      | true => exact absurd (Nat.eq_of_beq_eq_true h1) q
      | false => cases h2 : Nat.beq j 44 with
        | true => exact absurd (Nat.eq_of_beq_eq_true h2) q2
        | false => rfl
theorem s_isEnded2 {d : Nat} {σ : Mm} {Q : Qt} {v y : Int32} (hv : 0 ≤ v.toInt ∧ v.toInt < 30) (hL : I_la σ) (hl : 0 ≤ (σ 5 v.toInt.toNat).toInt ∧ (σ 5 v.toInt.toNat).toInt ≤ 2) (hQ : ∀ g h, Q (some (.int (bI ((lifeF σ (σ 36) v.toInt.toNat).toInt < (y - σ 37 v.toInt.toNat).toInt)))) (up (up σ 44 h) 29 g)) : Call (d + 4) k_X8_isEnded [.ref 34, .int v, .int y] σ Q :=
  s_isEnded hv hL hl (fun τ hτ => by rw [ag_eq hτ]; exact hQ _ _)
theorem br_sel {M P σ : Mm} {v o : Nat} {x y z : Int32} (h : Vw M P) (hF : (σ 2 o).toInt.toNat < 5) (hx : x = y) : Vw (wr (wr M 36 v x) (39 + (σ 2 o).toInt.toNat) (σ 6 v).toInt.toNat ((wr M 36 v x) (39 + (σ 2 o).toInt.toNat) (σ 6 v).toInt.toNat + z)) (selP σ (wr P 1 v y) v o z) := by
  subst hx
  have h1 := Vw.w1 (i := v) (x := x) h
  unfold selP
  rw [h1.rd hF]
  exact h1.ws hF
theorem bk_0 {σ P : Mm} {l v o : Nat} {k : Int} {s : Int32} (hk : k = 0) : brK σ P l v o k s = (wr (wr (wr P 0 v 1) 1 v (σ 9 v)) 2 v (σ 13 l), 1) := by
  unfold brK
  rw [if_pos hk]
theorem bk_d {σ P : Mm} {l v o : Nat} {k : Int} {s : Int32} (hk : k ≠ 0) (h0 : (P 0 v).toInt = 0) : brK σ P l v o k s = (P, 0) := by
  unfold brK
  rw [if_neg hk, if_pos h0]
theorem bk_n {σ P : Mm} {l v o : Nat} {k : Int} {s : Int32} (hk : k = 1 ∨ k = 3) (h0 : ¬ (P 0 v).toInt = 0) (h1 : (P 1 v).toInt < s.toInt ∨ (lifeF σ (P 1) v).toInt < (σ 13 l - P 2 v).toInt) : brK σ P l v o k s = (P, 0) := by
  unfold brK
  rw [if_neg (by omega), if_neg h0, if_pos ⟨hk, h1⟩]
theorem bk_1 {σ P : Mm} {l v o : Nat} {k : Int} {s : Int32} (hk : k = 1) (h0 : ¬ (P 0 v).toInt = 0) (h1 : ¬ ((P 1 v).toInt < s.toInt ∨ (lifeF σ (P 1) v).toInt < (σ 13 l - P 2 v).toInt)) : brK σ P l v o k s = (selP σ (wr P 1 v (P 1 v - s)) v o s, 1) := by
  unfold brK
  rw [if_neg (by omega), if_neg h0, if_neg (fun q => h1 q.2), if_pos hk]
theorem bk_2 {σ P : Mm} {l v o : Nat} {k : Int} {s : Int32} (hk : k = 2) (h0 : ¬ (P 0 v).toInt = 0) (h1 : (σ 4 v).toInt = 1 ∧ (P 1 v + s).toInt ≤ 100000) : brK σ P l v o k s = (wr (wr P 1 v (P 1 v + s)) 2 v (σ 13 l), 1) := by
  unfold brK
  rw [if_neg (by omega), if_neg h0, if_neg (by omega), if_neg (by omega), if_pos hk, if_pos h1]
theorem bk_2n {σ P : Mm} {l v o : Nat} {k : Int} {s : Int32} (hk : k = 2) (h0 : ¬ (P 0 v).toInt = 0) (h1 : ¬ ((σ 4 v).toInt = 1 ∧ (P 1 v + s).toInt ≤ 100000)) : brK σ P l v o k s = (P, 0) := by
  unfold brK
  rw [if_neg (by omega), if_neg h0, if_neg (by omega), if_neg (by omega), if_pos hk, if_neg h1]
theorem bk_3 {σ P : Mm} {l v o : Nat} {k : Int} {s : Int32} (hk : k = 3) (h0 : ¬ (P 0 v).toInt = 0) (h1 : ¬ ((P 1 v).toInt < s.toInt ∨ (lifeF σ (P 1) v).toInt < (σ 13 l - P 2 v).toInt)) (h2 : takP σ P v o s) : brK σ P l v o k s = (wr (wr P 1 v (P 1 v - s)) 1 o (P 1 o + s), 1) := by
  unfold brK
  rw [if_neg (by omega), if_neg h0, if_neg (fun q => h1 q.2), if_neg (by omega), if_neg (by omega), if_pos hk, if_pos h2]
theorem bk_3n {σ P : Mm} {l v o : Nat} {k : Int} {s : Int32} (hk : k = 3) (h0 : ¬ (P 0 v).toInt = 0) (h1 : ¬ ((P 1 v).toInt < s.toInt ∨ (lifeF σ (P 1) v).toInt < (σ 13 l - P 2 v).toInt)) (h2 : ¬ takP σ P v o s) : brK σ P l v o k s = (P, 0) := by
  unfold brK
  rw [if_neg (by omega), if_neg h0, if_neg (fun q => h1 q.2), if_neg (by omega), if_neg (by omega), if_pos hk, if_neg h2]
theorem bk_4 {σ P : Mm} {l v o : Nat} {k : Int} {s : Int32} (hk : k = 4) (h0 : ¬ (P 0 v).toInt = 0) (h1 : (P 1 v + s).toInt ≤ 100000) : brK σ P l v o k s = (selP σ (wr P 1 v (P 1 v + s)) v o (-s), 1) := by
  unfold brK
  rw [if_neg (by omega), if_neg h0, if_neg (by omega), if_neg (by omega), if_neg (by omega), if_neg (by omega), if_pos hk, if_pos h1]
theorem bk_4n {σ P : Mm} {l v o : Nat} {k : Int} {s : Int32} (hk : k = 4) (h0 : ¬ (P 0 v).toInt = 0) (h1 : ¬ (P 1 v + s).toInt ≤ 100000) : brK σ P l v o k s = (P, 0) := by
  unfold brK
  rw [if_neg (by omega), if_neg h0, if_neg (by omega), if_neg (by omega), if_neg (by omega), if_neg (by omega), if_pos hk, if_neg h1]
theorem bk_5 {σ P : Mm} {l v o : Nat} {k : Int} {s : Int32} (hk : k = 5) (h0 : ¬ (P 0 v).toInt = 0) (h1 : 0 ≤ (σ 17 l).toInt ∧ takP σ P v o (P 1 v)) : brK σ P l v o k s = (wr (wr (wr P 0 v 0) 1 o (P 1 o + P 1 v)) 1 v 0, 1) := by
  unfold brK
  rw [if_neg (by omega), if_neg h0, if_neg (by omega), if_neg (by omega), if_neg (by omega), if_neg (by omega), if_neg (by omega), if_pos h1]
theorem bk_5n {σ P : Mm} {l v o : Nat} {k : Int} {s : Int32} (hk : k = 5) (h0 : ¬ (P 0 v).toInt = 0) (h1 : ¬ (0 ≤ (σ 17 l).toInt ∧ takP σ P v o (P 1 v))) : brK σ P l v o k s = (wr (wr P 0 v 0) 1 v 0, 1) := by
  unfold brK
  rw [if_neg (by omega), if_neg h0, if_neg (by omega), if_neg (by omega), if_neg (by omega), if_neg (by omega), if_neg (by omega), if_neg h1]
theorem lineF {σ : Mm} (hI : Inv σ) {l : Nat} (hl : (l : Int) < (σ 10 0).toInt) : ((0 ≤ (σ 11 l).toInt ∧ (σ 11 l).toInt ≤ 5) ∧ (0 ≤ (σ 12 l).toInt ∧ (σ 12 l).toInt < (σ 3 0).toInt) ∧ (σ 3 0).toInt ≤ 30 ∧ (σ 10 0).toInt ≤ 100 ∧ (σ 1 2).toInt ≤ 10) ∧
  ((0 ≤ (σ 5 (σ 12 l).toInt.toNat).toInt ∧ (σ 5 (σ 12 l).toInt.toNat).toInt ≤ 2) ∧ (0 ≤ (σ 6 (σ 12 l).toInt.toNat).toInt ∧ (σ 6 (σ 12 l).toInt.toNat).toInt < 5)) ∧
  (((σ 11 l).toInt = 1 ∨ (σ 11 l).toInt = 4) → (0 ≤ (σ 17 l).toInt ∧ (σ 17 l).toInt < (σ 1 2).toInt) ∧ (0 ≤ (σ 2 (σ 17 l).toInt.toNat).toInt ∧ (σ 2 (σ 17 l).toInt.toNat).toInt < 5) ∧ σ 102 l = σ 17 l) ∧
  ((σ 11 l).toInt = 3 → (0 ≤ (σ 17 l).toInt ∧ (σ 17 l).toInt < (σ 3 0).toInt) ∧ (σ 17 l).toInt ≠ (σ 12 l).toInt ∧ σ 102 l = σ 17 l) ∧
  ((σ 11 l).toInt = 5 → ((σ 17 l).toInt < 0 ∧ (σ 102 l).toInt < 0) ∨ ((0 ≤ (σ 17 l).toInt ∧ (σ 17 l).toInt < (σ 3 0).toInt) ∧ (σ 17 l).toInt ≠ (σ 12 l).toInt ∧ σ 102 l = σ 17 l)) ∧ ((σ 11 l).toInt = 0 → σ 16 l = σ 9 (σ 12 l).toInt.toNat) := by
  obtain ⟨⟨t0, t1, t2, t3⟩, ⟨t4, t5⟩, ⟨t6, t7⟩, ⟨t8, t9⟩, t10⟩ := id (hI.1)
  obtain ⟨⟨v0, v1, v2, v3, v4, v5, v6⟩, ⟨v7, v8⟩, v9⟩ := id (hI.2.1)
  obtain ⟨⟨l0, l1, l2, l3, l4, l5⟩, ⟨l6, l7⟩, l8, l9⟩ := id (hI.2.2.1)
  obtain ⟨a1, a2, a3, a4, a5, a6, a7, a8⟩ := l9 l hl
  obtain ⟨u1, u2, u3, u4, u5, u6⟩ := v9 (σ 12 l).toInt.toNat (by omega)
  have e1 : (-1000000005 : Int32).toInt = -1000000005 := rfl
  have e2 : (-1 : Int32).toInt = -1 := rfl
  refine ⟨⟨a1, a2, v8, l7, t9⟩, ⟨u2, u3.1, by omega⟩, fun q => ?_, fun q => ?_, fun q => ?_, a8⟩
  · rcases a7 with ⟨q1, q2, q3⟩ | ⟨q1, q2, q3, q4⟩ | ⟨q1, q2, q3, q4, q5⟩
    · exfalso; omega
    · have := t10 (σ 17 l).toInt.toNat (by omega)
      exact ⟨⟨q3, q4⟩, ⟨this.1, by omega⟩, q2⟩
    · exfalso; omega
  · rcases a7 with ⟨q1, q2, q3⟩ | ⟨q1, q2, q3, q4⟩ | ⟨q1, q2, q3, q4, q5⟩
    · exfalso; omega
    · exfalso; omega
    · exact ⟨⟨q3, q4⟩, q5, q2⟩
  · rcases a7 with ⟨q1, q2, q3⟩ | ⟨q1, q2, q3, q4⟩ | ⟨q1, q2, q3, q4, q5⟩
    · refine Or.inl ⟨?_, ?_⟩
      · rw [q2]; decide
      · rw [q3]; decide
    · exfalso; omega
    · exact Or.inr ⟨⟨q3, q4⟩, q5, q2⟩
theorem s_brings {d : Nat} {σ : Mm} {Q : Qt} {l : Int32} {P : Mm} (hI : Inv σ) (hP : Vw σ P) (hl : 0 ≤ l.toInt ∧ l.toInt < (σ 10 0).toInt) (hQ : ∀ τ, Ag LsC σ τ → Vw τ (brF σ P l.toInt.toNat).1 → Q (some (.int (brF σ P l.toInt.toNat).2)) τ) : Call (d + 5) k_X8_brings [.ref 34, .int l] σ Q := by
  have hL := hI.2.2.2.2.2.2.2.2.2.2.1
  obtain ⟨⟨k1, k2, k3, k4, k5⟩, ⟨w1, w2⟩, ws, wo, wl, wb⟩ := lineF hI (l := l.toInt.toNat) (by omega)
  have ws3 : ((σ 11 l.toInt.toNat).toInt = 1 ∨ (σ 11 l.toInt.toNat).toInt = 4) → (σ 17 l.toInt.toNat).toInt < 10 := fun q => by have := (ws q).1; omega
  obtain ⟨p1, p2, p3, p4, p5⟩ := id hP
  refine Call_st 120 fun X hX => ?_
  refine ⟨_, _, rfl, (by refine ⟨?_, ?_⟩ <;> omega), ?_⟩
  refine ⟨_, _, rfl, (by refine ⟨?_, ?_⟩ <;> omega), ?_⟩
  refine ⟨fun c21 => ?_, fun c21 => ?_⟩
  · refine ⟨_, _, rfl, (by refine ⟨?_, ?_⟩ <;> omega), ?_⟩
    refine ⟨rfl, rfl, ?_⟩
    refine s_comes ⟨k2.1, by omega⟩ ?_
    refine ⟨rfl, Or.inr rfl, ?_⟩
    first
    | (exfalso; simp only [Int32.reduceToInt] at c21; omega)
    | (unfold brF at hQ
       try simp only [Int32.reduceToInt] at c21
       rw [bk_0 (by omega)] at hQ
       exact hQ _ (Ag.wr (Ag.wr (Ag.wr Ag.rf rfl) rfl) rfl) (Vw.w2 (Vw.w1 (Vw.w0 hP))))
  · refine ⟨_, _, rfl, (by refine ⟨?_, ?_⟩ <;> omega), ?_⟩
    refine ⟨fun c45 => ?_, fun c45 => ?_⟩
    · refine ⟨rfl, Or.inl rfl, ?_⟩
      first
      | (exfalso; simp only [Int32.reduceToInt] at c21 c45; omega)
      | (unfold brF at hQ
         try simp only [Int32.reduceToInt] at c21 c45
         rw [bk_d (by omega) (by rw [← p2]; omega)] at hQ
         exact hQ _ Ag.rf hP)
    · refine ⟨fun c52 => ?_, fun c52 => ?_⟩
      · refine ⟨fun z => absurd z (by decide), fun _ => ?_⟩
        refine ⟨_, _, rfl, (by refine ⟨?_, ?_⟩ <;> omega), ?_⟩
        refine ⟨_, _, rfl, (by refine ⟨?_, ?_⟩ <;> omega), ?_⟩
        refine ⟨fun c87 => ?_, fun c87 => ?_⟩
        · refine ⟨rfl, Or.inl rfl, ?_⟩
          first
          | (exfalso; simp only [Int32.reduceToInt] at c21 c45 c52 c87; omega)
          | (unfold brF at hQ
             try simp only [Int32.reduceToInt] at c21 c45 c52 c87
             rw [bk_n (by omega) (by rw [← p2]; omega) (by rw [← p3, ← p4]; omega)] at hQ
             first
             | exact hQ _ Ag.rf hP
             | exact hQ _ agU (VwU hP))
        · refine ⟨_, _, rfl, (by refine ⟨?_, ?_⟩ <;> omega), ?_⟩
          refine ⟨rfl, rfl, ?_⟩
          refine s_isEnded2 ⟨k2.1, by omega⟩ hL w1 (fun h101a h101b => ?_)
          refine ⟨fun c104 => ?_, fun c104 => ?_⟩
          · replace c104 := bI_z c104
            refine ⟨fun c110_0 => ?_, fun c110_0 => ?_⟩
            · refine ⟨rfl, rfl, ?_⟩
              refine s_isSpent ⟨hl.1, by omega⟩ ⟨k2.1, by omega⟩ (ws (by omega)).1 (ws3 (by omega)) (ws (by omega)).2.1 w2 ?_
              refine ⟨rfl, Or.inr rfl, ?_⟩
              first
              | (exfalso; simp only [Int32.reduceToInt] at c21 c45 c52 c87 h101a h101b c104 c110_0; omega)
              | (unfold brF at hQ
                 try simp only [Int32.reduceToInt] at c21 c45 c52 c87 h101a h101b c104 c110_0
                 rw [bk_1 (by assumption) (by rw [← p2]; omega) (by rw [← p3, ← p4]; omega)] at hQ
                 have hF0 := (ws (by omega)).2.1
                 have hF : (σ 2 (σ 17 l.toInt.toNat).toInt.toNat).toInt.toNat < 5 := by omega
                 first
                 | exact hQ _ (agW (Ag.wr Ag.rf rfl) hF) (br_sel (σ := σ) (o := (σ 17 l.toInt.toNat).toInt.toNat) hP hF (by rw [← p3]; rfl))
                 | exact hQ _ (agW (Ag.wr agU rfl) hF) (br_sel (σ := σ) (o := (σ 17 l.toInt.toNat).toInt.toNat) (VwU hP) hF (by rw [← p3]; rfl)))
            refine ⟨fun c110_1 => ?_, fun c110_1 => ?_⟩
            · refine ⟨rfl, rfl, ?_⟩
              refine s_isLoaded ⟨hl.1, by omega⟩ ⟨k2.1, by omega⟩ (fun (h150a : ¬ ((σ 4 (σ 12 l.toInt.toNat).toInt.toNat).toInt = 1 ∧ (σ 36 (σ 12 l.toInt.toNat).toInt.toNat + σ 16 l.toInt.toNat).toInt ≤ 100000)) => ?_) (fun (h150a : ((σ 4 (σ 12 l.toInt.toNat).toInt.toNat).toInt = 1 ∧ (σ 36 (σ 12 l.toInt.toNat).toInt.toNat + σ 16 l.toInt.toNat).toInt ≤ 100000)) => ?_)
              · refine ⟨rfl, Or.inl rfl, ?_⟩
                first
                | (exfalso; simp only [Int32.reduceToInt] at c21 c45 c52 c87 h101a h101b c104 c110_0 c110_1 h150a; omega)
                | (unfold brF at hQ
                   try simp only [Int32.reduceToInt] at c21 c45 c52 c87 h101a h101b c104 c110_0 c110_1 h150a
                   rw [bk_2n (by assumption) (by rw [← p2]; omega) (by rw [← p3]; assumption)] at hQ
                   exact hQ _ Ag.rf hP)
              · refine ⟨rfl, Or.inr rfl, ?_⟩
                first
                | (exfalso; simp only [Int32.reduceToInt] at c21 c45 c52 c87 h101a h101b c104 c110_0 c110_1 h150a; omega)
                | (unfold brF at hQ
                   try simp only [Int32.reduceToInt] at c21 c45 c52 c87 h101a h101b c104 c110_0 c110_1 h150a
                   rw [bk_2 (by assumption) (by rw [← p2]; omega) (by rw [← p3]; assumption)] at hQ
                   rw [← p3] at hQ
                   exact hQ _ (Ag.wr (Ag.wr Ag.rf rfl) rfl) (Vw.w2 (Vw.w1 hP)))
            refine ⟨fun c110_2 => ?_, fun c110_2 => ?_⟩
            · refine ⟨rfl, rfl, ?_⟩
              refine s_isSplit ⟨hl.1, by omega⟩ ⟨k2.1, by omega⟩ k3 (fun (h157a : ¬ ((0 ≤ (σ 17 l.toInt.toNat).toInt ∧ (σ 17 l.toInt.toNat).toInt < (σ 3 0).toInt) ∧ ¬ (σ 35 (σ 17 l.toInt.toNat).toInt.toNat).toInt = 0 ∧ (σ 6 (σ 17 l.toInt.toNat).toInt.toNat).toInt = (σ 6 (σ 12 l.toInt.toNat).toInt.toNat).toInt ∧ (σ 36 (σ 17 l.toInt.toNat).toInt.toNat + σ 16 l.toInt.toNat).toInt ≤ 100000)) => ?_) (fun (h157a : (0 ≤ (σ 17 l.toInt.toNat).toInt ∧ (σ 17 l.toInt.toNat).toInt < (σ 3 0).toInt) ∧ ¬ (σ 35 (σ 17 l.toInt.toNat).toInt.toNat).toInt = 0 ∧ (σ 6 (σ 17 l.toInt.toNat).toInt.toNat).toInt = (σ 6 (σ 12 l.toInt.toNat).toInt.toNat).toInt ∧ (σ 36 (σ 17 l.toInt.toNat).toInt.toNat + σ 16 l.toInt.toNat).toInt ≤ 100000) => ?_)
              · refine ⟨rfl, Or.inl rfl, ?_⟩
                first
                | (exfalso; simp only [Int32.reduceToInt] at c21 c45 c52 c87 h101a h101b c104 c110_0 c110_1 c110_2 h157a; omega)
                | (unfold brF at hQ
                   try simp only [Int32.reduceToInt] at c21 c45 c52 c87 h101a h101b c104 c110_0 c110_1 c110_2 h157a
                   rw [bk_3n (by assumption) (by rw [← p2]; omega) (by rw [← p3, ← p4]; omega) (fun q => h157a ⟨(wo (by omega)).1, by rw [p2, p3]; exact q⟩)] at hQ
                   first
                   | exact hQ _ Ag.rf hP
                   | exact hQ _ agU (VwU hP))
              · refine ⟨rfl, Or.inr rfl, ?_⟩
                first
                | (exfalso; simp only [Int32.reduceToInt] at c21 c45 c52 c87 h101a h101b c104 c110_0 c110_1 c110_2 h157a; omega)
                | (unfold brF at hQ
                   try simp only [Int32.reduceToInt] at c21 c45 c52 c87 h101a h101b c104 c110_0 c110_1 c110_2 h157a
                   rw [bk_3 (by assumption) (by rw [← p2]; omega) (by rw [← p3, ← p4]; omega) (by have := h157a.2; rw [p2, p3] at this; exact this)] at hQ
                   have eo : (upd (σ 36) (σ 12 l.toInt.toNat).toInt.toNat (σ 36 (σ 12 l.toInt.toNat).toInt.toNat - σ 16 l.toInt.toNat)) (σ 17 l.toInt.toNat).toInt.toNat = σ 36 (σ 17 l.toInt.toNat).toInt.toNat := pk_un (by have := (wo (by omega)).2.1; omega)
                   rw [← p3] at hQ
                   rw [← eo] at hQ
                   first
                   | exact hQ _ (Ag.wr (Ag.wr Ag.rf rfl) rfl) (Vw.w1 (Vw.w1 hP))
                   | exact hQ _ (Ag.wr (Ag.wr agU rfl) rfl) (Vw.w1 (Vw.w1 (VwU hP))))
            refine ⟨fun c110_3 => ?_, fun c110_3 => ?_⟩
            · refine ⟨rfl, rfl, ?_⟩
              refine s_isReturned ⟨hl.1, by omega⟩ ⟨k2.1, by omega⟩ (ws (by omega)).1 (ws3 (by omega)) (ws (by omega)).2.1 w2 (fun (h164a : ¬ (σ 36 (σ 12 l.toInt.toNat).toInt.toNat + σ 16 l.toInt.toNat).toInt ≤ 100000) => ?_) (fun (h164a : (σ 36 (σ 12 l.toInt.toNat).toInt.toNat + σ 16 l.toInt.toNat).toInt ≤ 100000) => ?_)
              · refine ⟨rfl, Or.inl rfl, ?_⟩
                first
                | (exfalso; simp only [Int32.reduceToInt] at c21 c45 c52 c87 h101a h101b c104 c110_0 c110_1 c110_2 c110_3 h164a; omega)
                | (unfold brF at hQ
                   try simp only [Int32.reduceToInt] at c21 c45 c52 c87 h101a h101b c104 c110_0 c110_1 c110_2 c110_3 h164a
                   rw [bk_4n (by assumption) (by rw [← p2]; omega) (by rw [← p3]; assumption)] at hQ
                   exact hQ _ Ag.rf hP)
              · refine ⟨rfl, Or.inr rfl, ?_⟩
                first
                | (exfalso; simp only [Int32.reduceToInt] at c21 c45 c52 c87 h101a h101b c104 c110_0 c110_1 c110_2 c110_3 h164a; omega)
                | (unfold brF at hQ
                   try simp only [Int32.reduceToInt] at c21 c45 c52 c87 h101a h101b c104 c110_0 c110_1 c110_2 c110_3 h164a
                   rw [bk_4 (by assumption) (by rw [← p2]; omega) (by rw [← p3]; assumption)] at hQ
                   have hF0 := (ws (by omega)).2.1
                   have hF : (σ 2 (σ 17 l.toInt.toNat).toInt.toNat).toInt.toNat < 5 := by omega
                   exact hQ _ (agW (Ag.wr Ag.rf rfl) hF) (br_sel (σ := σ) (o := (σ 17 l.toInt.toNat).toInt.toNat) hP hF (by rw [← p3])))
            refine ⟨_, _, rfl, (by refine ⟨?_, ?_⟩ <;> omega), ?_⟩
            refine ⟨rfl, rfl, ?_⟩
            refine s_isLost ⟨k2.1, by omega⟩ k3 (fun (h179a : ¬ ((0 ≤ (σ 17 l.toInt.toNat).toInt ∧ (σ 17 l.toInt.toNat).toInt < (σ 3 0).toInt) ∧ ¬ ((wr σ 35 (σ 12 l.toInt.toNat).toInt.toNat 0) 35 (σ 17 l.toInt.toNat).toInt.toNat).toInt = 0 ∧ (σ 6 (σ 17 l.toInt.toNat).toInt.toNat).toInt = (σ 6 (σ 12 l.toInt.toNat).toInt.toNat).toInt ∧ (σ 36 (σ 17 l.toInt.toNat).toInt.toNat + σ 36 (σ 12 l.toInt.toNat).toInt.toNat).toInt ≤ 100000)) => ?_) (fun (h179a : (0 ≤ (σ 17 l.toInt.toNat).toInt ∧ (σ 17 l.toInt.toNat).toInt < (σ 3 0).toInt) ∧ ¬ ((wr σ 35 (σ 12 l.toInt.toNat).toInt.toNat 0) 35 (σ 17 l.toInt.toNat).toInt.toNat).toInt = 0 ∧ (σ 6 (σ 17 l.toInt.toNat).toInt.toNat).toInt = (σ 6 (σ 12 l.toInt.toNat).toInt.toNat).toInt ∧ (σ 36 (σ 17 l.toInt.toNat).toInt.toNat + σ 36 (σ 12 l.toInt.toNat).toInt.toNat).toInt ≤ 100000) => ?_)
            · refine ⟨rfl, Or.inr rfl, ?_⟩
              first
              | (exfalso; simp only [Int32.reduceToInt] at c21 c45 c52 c87 h101a h101b c104 c110_0 c110_1 c110_2 c110_3 h179a; omega)
              | (unfold brF at hQ
                 have z5 := wl (by omega)
                 have e0 : (σ 17 l.toInt.toNat).toInt ≠ (σ 12 l.toInt.toNat).toInt → 0 ≤ (σ 17 l.toInt.toNat).toInt → wr σ 35 (σ 12 l.toInt.toNat).toInt.toNat 0 35 (σ 17 l.toInt.toNat).toInt.toNat = σ 35 (σ 17 l.toInt.toNat).toInt.toNat := fun q q2 => pk_un (f := σ 35) (by omega)
                 first
                 | (rw [bk_5n (by omega) (by rw [← p2]; omega) (fun q => h179a ⟨by omega, by rw [e0 (by omega) q.1, p2, p3]; exact q.2⟩)] at hQ
                    exact hQ _ (Ag.wr (Ag.wr Ag.rf rfl) rfl) (Vw.w1 (Vw.w0 hP)))
                 | (rw [bk_5 (by omega) (by rw [← p2]; omega) (by
                      refine ⟨h179a.1.1, ?_⟩
                      have := h179a.2
                      rw [e0 (by omega) h179a.1.1, p2, p3] at this
                      exact this)] at hQ
                    rw [← p3] at hQ
                    exact hQ _ (Ag.wr (Ag.wr (Ag.wr Ag.rf rfl) rfl) rfl) (Vw.w1 (Vw.w1 (Vw.w0 hP)))))
            · refine ⟨rfl, Or.inr rfl, ?_⟩
              first
              | (exfalso; simp only [Int32.reduceToInt] at c21 c45 c52 c87 h101a h101b c104 c110_0 c110_1 c110_2 c110_3 h179a; omega)
              | (unfold brF at hQ
                 have z5 := wl (by omega)
                 have e0 : (σ 17 l.toInt.toNat).toInt ≠ (σ 12 l.toInt.toNat).toInt → 0 ≤ (σ 17 l.toInt.toNat).toInt → wr σ 35 (σ 12 l.toInt.toNat).toInt.toNat 0 35 (σ 17 l.toInt.toNat).toInt.toNat = σ 35 (σ 17 l.toInt.toNat).toInt.toNat := fun q q2 => pk_un (f := σ 35) (by omega)
                 first
                 | (rw [bk_5n (by omega) (by rw [← p2]; omega) (fun q => h179a ⟨by omega, by rw [e0 (by omega) q.1, p2, p3]; exact q.2⟩)] at hQ
                    exact hQ _ (Ag.wr (Ag.wr Ag.rf rfl) rfl) (Vw.w1 (Vw.w0 hP)))
                 | (rw [bk_5 (by omega) (by rw [← p2]; omega) (by
                      refine ⟨h179a.1.1, ?_⟩
                      have := h179a.2
                      rw [e0 (by omega) h179a.1.1, p2, p3] at this
                      exact this)] at hQ
                    rw [← p3] at hQ
                    exact hQ _ (Ag.wr (Ag.wr (Ag.wr Ag.rf rfl) rfl) rfl) (Vw.w1 (Vw.w1 (Vw.w0 hP)))))
          · replace c104 := bI_nz c104
            refine ⟨rfl, Or.inl rfl, ?_⟩
            first
            | (exfalso; simp only [Int32.reduceToInt] at c21 c45 c52 c87 h101a h101b c104; omega)
            | (unfold brF at hQ
               try simp only [Int32.reduceToInt] at c21 c45 c52 c87 h101a h101b c104
               rw [bk_n (by omega) (by rw [← p2]; omega) (by rw [← p3, ← p4]; omega)] at hQ
               first
               | exact hQ _ Ag.rf hP
               | exact hQ _ agU (VwU hP))
      · refine ⟨fun c57 => ?_, fun c57 => ?_⟩
        · refine ⟨fun z => absurd z (by decide), fun _ => ?_⟩
          refine ⟨_, _, rfl, (by refine ⟨?_, ?_⟩ <;> omega), ?_⟩
          refine ⟨_, _, rfl, (by refine ⟨?_, ?_⟩ <;> omega), ?_⟩
          refine ⟨fun c87 => ?_, fun c87 => ?_⟩
          · refine ⟨rfl, Or.inl rfl, ?_⟩
            first
            | (exfalso; simp only [Int32.reduceToInt] at c21 c45 c52 c57 c87; omega)
            | (unfold brF at hQ
               try simp only [Int32.reduceToInt] at c21 c45 c52 c57 c87
               rw [bk_n (by omega) (by rw [← p2]; omega) (by rw [← p3, ← p4]; omega)] at hQ
               first
               | exact hQ _ Ag.rf hP
               | exact hQ _ agU (VwU hP))
          · refine ⟨_, _, rfl, (by refine ⟨?_, ?_⟩ <;> omega), ?_⟩
            refine ⟨rfl, rfl, ?_⟩
            refine s_isEnded2 ⟨k2.1, by omega⟩ hL w1 (fun h101a h101b => ?_)
            refine ⟨fun c104 => ?_, fun c104 => ?_⟩
            · replace c104 := bI_z c104
              refine ⟨fun c110_0 => ?_, fun c110_0 => ?_⟩
              · refine ⟨rfl, rfl, ?_⟩
                refine s_isSpent ⟨hl.1, by omega⟩ ⟨k2.1, by omega⟩ (ws (by omega)).1 (ws3 (by omega)) (ws (by omega)).2.1 w2 ?_
                refine ⟨rfl, Or.inr rfl, ?_⟩
                first
                | (exfalso; simp only [Int32.reduceToInt] at c21 c45 c52 c57 c87 h101a h101b c104 c110_0; omega)
                | (unfold brF at hQ
                   try simp only [Int32.reduceToInt] at c21 c45 c52 c57 c87 h101a h101b c104 c110_0
                   rw [bk_1 (by assumption) (by rw [← p2]; omega) (by rw [← p3, ← p4]; omega)] at hQ
                   have hF0 := (ws (by omega)).2.1
                   have hF : (σ 2 (σ 17 l.toInt.toNat).toInt.toNat).toInt.toNat < 5 := by omega
                   first
                   | exact hQ _ (agW (Ag.wr Ag.rf rfl) hF) (br_sel (σ := σ) (o := (σ 17 l.toInt.toNat).toInt.toNat) hP hF (by rw [← p3]; rfl))
                   | exact hQ _ (agW (Ag.wr agU rfl) hF) (br_sel (σ := σ) (o := (σ 17 l.toInt.toNat).toInt.toNat) (VwU hP) hF (by rw [← p3]; rfl)))
              refine ⟨fun c110_1 => ?_, fun c110_1 => ?_⟩
              · refine ⟨rfl, rfl, ?_⟩
                refine s_isLoaded ⟨hl.1, by omega⟩ ⟨k2.1, by omega⟩ (fun (h150a : ¬ ((σ 4 (σ 12 l.toInt.toNat).toInt.toNat).toInt = 1 ∧ (σ 36 (σ 12 l.toInt.toNat).toInt.toNat + σ 16 l.toInt.toNat).toInt ≤ 100000)) => ?_) (fun (h150a : ((σ 4 (σ 12 l.toInt.toNat).toInt.toNat).toInt = 1 ∧ (σ 36 (σ 12 l.toInt.toNat).toInt.toNat + σ 16 l.toInt.toNat).toInt ≤ 100000)) => ?_)
                · refine ⟨rfl, Or.inl rfl, ?_⟩
                  first
                  | (exfalso; simp only [Int32.reduceToInt] at c21 c45 c52 c57 c87 h101a h101b c104 c110_0 c110_1 h150a; omega)
                  | (unfold brF at hQ
                     try simp only [Int32.reduceToInt] at c21 c45 c52 c57 c87 h101a h101b c104 c110_0 c110_1 h150a
                     rw [bk_2n (by assumption) (by rw [← p2]; omega) (by rw [← p3]; assumption)] at hQ
                     exact hQ _ Ag.rf hP)
                · refine ⟨rfl, Or.inr rfl, ?_⟩
                  first
                  | (exfalso; simp only [Int32.reduceToInt] at c21 c45 c52 c57 c87 h101a h101b c104 c110_0 c110_1 h150a; omega)
                  | (unfold brF at hQ
                     try simp only [Int32.reduceToInt] at c21 c45 c52 c57 c87 h101a h101b c104 c110_0 c110_1 h150a
                     rw [bk_2 (by assumption) (by rw [← p2]; omega) (by rw [← p3]; assumption)] at hQ
                     rw [← p3] at hQ
                     exact hQ _ (Ag.wr (Ag.wr Ag.rf rfl) rfl) (Vw.w2 (Vw.w1 hP)))
              refine ⟨fun c110_2 => ?_, fun c110_2 => ?_⟩
              · refine ⟨rfl, rfl, ?_⟩
                refine s_isSplit ⟨hl.1, by omega⟩ ⟨k2.1, by omega⟩ k3 (fun (h157a : ¬ ((0 ≤ (σ 17 l.toInt.toNat).toInt ∧ (σ 17 l.toInt.toNat).toInt < (σ 3 0).toInt) ∧ ¬ (σ 35 (σ 17 l.toInt.toNat).toInt.toNat).toInt = 0 ∧ (σ 6 (σ 17 l.toInt.toNat).toInt.toNat).toInt = (σ 6 (σ 12 l.toInt.toNat).toInt.toNat).toInt ∧ (σ 36 (σ 17 l.toInt.toNat).toInt.toNat + σ 16 l.toInt.toNat).toInt ≤ 100000)) => ?_) (fun (h157a : (0 ≤ (σ 17 l.toInt.toNat).toInt ∧ (σ 17 l.toInt.toNat).toInt < (σ 3 0).toInt) ∧ ¬ (σ 35 (σ 17 l.toInt.toNat).toInt.toNat).toInt = 0 ∧ (σ 6 (σ 17 l.toInt.toNat).toInt.toNat).toInt = (σ 6 (σ 12 l.toInt.toNat).toInt.toNat).toInt ∧ (σ 36 (σ 17 l.toInt.toNat).toInt.toNat + σ 16 l.toInt.toNat).toInt ≤ 100000) => ?_)
                · refine ⟨rfl, Or.inl rfl, ?_⟩
                  first
                  | (exfalso; simp only [Int32.reduceToInt] at c21 c45 c52 c57 c87 h101a h101b c104 c110_0 c110_1 c110_2 h157a; omega)
                  | (unfold brF at hQ
                     try simp only [Int32.reduceToInt] at c21 c45 c52 c57 c87 h101a h101b c104 c110_0 c110_1 c110_2 h157a
                     rw [bk_3n (by assumption) (by rw [← p2]; omega) (by rw [← p3, ← p4]; omega) (fun q => h157a ⟨(wo (by omega)).1, by rw [p2, p3]; exact q⟩)] at hQ
                     first
                     | exact hQ _ Ag.rf hP
                     | exact hQ _ agU (VwU hP))
                · refine ⟨rfl, Or.inr rfl, ?_⟩
                  first
                  | (exfalso; simp only [Int32.reduceToInt] at c21 c45 c52 c57 c87 h101a h101b c104 c110_0 c110_1 c110_2 h157a; omega)
                  | (unfold brF at hQ
                     try simp only [Int32.reduceToInt] at c21 c45 c52 c57 c87 h101a h101b c104 c110_0 c110_1 c110_2 h157a
                     rw [bk_3 (by assumption) (by rw [← p2]; omega) (by rw [← p3, ← p4]; omega) (by have := h157a.2; rw [p2, p3] at this; exact this)] at hQ
                     have eo : (upd (σ 36) (σ 12 l.toInt.toNat).toInt.toNat (σ 36 (σ 12 l.toInt.toNat).toInt.toNat - σ 16 l.toInt.toNat)) (σ 17 l.toInt.toNat).toInt.toNat = σ 36 (σ 17 l.toInt.toNat).toInt.toNat := pk_un (by have := (wo (by omega)).2.1; omega)
                     rw [← p3] at hQ
                     rw [← eo] at hQ
                     first
                     | exact hQ _ (Ag.wr (Ag.wr Ag.rf rfl) rfl) (Vw.w1 (Vw.w1 hP))
                     | exact hQ _ (Ag.wr (Ag.wr agU rfl) rfl) (Vw.w1 (Vw.w1 (VwU hP))))
              refine ⟨fun c110_3 => ?_, fun c110_3 => ?_⟩
              · refine ⟨rfl, rfl, ?_⟩
                refine s_isReturned ⟨hl.1, by omega⟩ ⟨k2.1, by omega⟩ (ws (by omega)).1 (ws3 (by omega)) (ws (by omega)).2.1 w2 (fun (h164a : ¬ (σ 36 (σ 12 l.toInt.toNat).toInt.toNat + σ 16 l.toInt.toNat).toInt ≤ 100000) => ?_) (fun (h164a : (σ 36 (σ 12 l.toInt.toNat).toInt.toNat + σ 16 l.toInt.toNat).toInt ≤ 100000) => ?_)
                · refine ⟨rfl, Or.inl rfl, ?_⟩
                  first
                  | (exfalso; simp only [Int32.reduceToInt] at c21 c45 c52 c57 c87 h101a h101b c104 c110_0 c110_1 c110_2 c110_3 h164a; omega)
                  | (unfold brF at hQ
                     try simp only [Int32.reduceToInt] at c21 c45 c52 c57 c87 h101a h101b c104 c110_0 c110_1 c110_2 c110_3 h164a
                     rw [bk_4n (by assumption) (by rw [← p2]; omega) (by rw [← p3]; assumption)] at hQ
                     exact hQ _ Ag.rf hP)
                · refine ⟨rfl, Or.inr rfl, ?_⟩
                  first
                  | (exfalso; simp only [Int32.reduceToInt] at c21 c45 c52 c57 c87 h101a h101b c104 c110_0 c110_1 c110_2 c110_3 h164a; omega)
                  | (unfold brF at hQ
                     try simp only [Int32.reduceToInt] at c21 c45 c52 c57 c87 h101a h101b c104 c110_0 c110_1 c110_2 c110_3 h164a
                     rw [bk_4 (by assumption) (by rw [← p2]; omega) (by rw [← p3]; assumption)] at hQ
                     have hF0 := (ws (by omega)).2.1
                     have hF : (σ 2 (σ 17 l.toInt.toNat).toInt.toNat).toInt.toNat < 5 := by omega
                     exact hQ _ (agW (Ag.wr Ag.rf rfl) hF) (br_sel (σ := σ) (o := (σ 17 l.toInt.toNat).toInt.toNat) hP hF (by rw [← p3])))
              refine ⟨_, _, rfl, (by refine ⟨?_, ?_⟩ <;> omega), ?_⟩
              refine ⟨rfl, rfl, ?_⟩
              refine s_isLost ⟨k2.1, by omega⟩ k3 (fun (h179a : ¬ ((0 ≤ (σ 17 l.toInt.toNat).toInt ∧ (σ 17 l.toInt.toNat).toInt < (σ 3 0).toInt) ∧ ¬ ((wr σ 35 (σ 12 l.toInt.toNat).toInt.toNat 0) 35 (σ 17 l.toInt.toNat).toInt.toNat).toInt = 0 ∧ (σ 6 (σ 17 l.toInt.toNat).toInt.toNat).toInt = (σ 6 (σ 12 l.toInt.toNat).toInt.toNat).toInt ∧ (σ 36 (σ 17 l.toInt.toNat).toInt.toNat + σ 36 (σ 12 l.toInt.toNat).toInt.toNat).toInt ≤ 100000)) => ?_) (fun (h179a : (0 ≤ (σ 17 l.toInt.toNat).toInt ∧ (σ 17 l.toInt.toNat).toInt < (σ 3 0).toInt) ∧ ¬ ((wr σ 35 (σ 12 l.toInt.toNat).toInt.toNat 0) 35 (σ 17 l.toInt.toNat).toInt.toNat).toInt = 0 ∧ (σ 6 (σ 17 l.toInt.toNat).toInt.toNat).toInt = (σ 6 (σ 12 l.toInt.toNat).toInt.toNat).toInt ∧ (σ 36 (σ 17 l.toInt.toNat).toInt.toNat + σ 36 (σ 12 l.toInt.toNat).toInt.toNat).toInt ≤ 100000) => ?_)
              · refine ⟨rfl, Or.inr rfl, ?_⟩
                first
                | (exfalso; simp only [Int32.reduceToInt] at c21 c45 c52 c57 c87 h101a h101b c104 c110_0 c110_1 c110_2 c110_3 h179a; omega)
                | (unfold brF at hQ
                   have z5 := wl (by omega)
                   have e0 : (σ 17 l.toInt.toNat).toInt ≠ (σ 12 l.toInt.toNat).toInt → 0 ≤ (σ 17 l.toInt.toNat).toInt → wr σ 35 (σ 12 l.toInt.toNat).toInt.toNat 0 35 (σ 17 l.toInt.toNat).toInt.toNat = σ 35 (σ 17 l.toInt.toNat).toInt.toNat := fun q q2 => pk_un (f := σ 35) (by omega)
                   first
                   | (rw [bk_5n (by omega) (by rw [← p2]; omega) (fun q => h179a ⟨by omega, by rw [e0 (by omega) q.1, p2, p3]; exact q.2⟩)] at hQ
                      exact hQ _ (Ag.wr (Ag.wr Ag.rf rfl) rfl) (Vw.w1 (Vw.w0 hP)))
                   | (rw [bk_5 (by omega) (by rw [← p2]; omega) (by
                        refine ⟨h179a.1.1, ?_⟩
                        have := h179a.2
                        rw [e0 (by omega) h179a.1.1, p2, p3] at this
                        exact this)] at hQ
                      rw [← p3] at hQ
                      exact hQ _ (Ag.wr (Ag.wr (Ag.wr Ag.rf rfl) rfl) rfl) (Vw.w1 (Vw.w1 (Vw.w0 hP)))))
              · refine ⟨rfl, Or.inr rfl, ?_⟩
                first
                | (exfalso; simp only [Int32.reduceToInt] at c21 c45 c52 c57 c87 h101a h101b c104 c110_0 c110_1 c110_2 c110_3 h179a; omega)
                | (unfold brF at hQ
                   have z5 := wl (by omega)
                   have e0 : (σ 17 l.toInt.toNat).toInt ≠ (σ 12 l.toInt.toNat).toInt → 0 ≤ (σ 17 l.toInt.toNat).toInt → wr σ 35 (σ 12 l.toInt.toNat).toInt.toNat 0 35 (σ 17 l.toInt.toNat).toInt.toNat = σ 35 (σ 17 l.toInt.toNat).toInt.toNat := fun q q2 => pk_un (f := σ 35) (by omega)
                   first
                   | (rw [bk_5n (by omega) (by rw [← p2]; omega) (fun q => h179a ⟨by omega, by rw [e0 (by omega) q.1, p2, p3]; exact q.2⟩)] at hQ
                      exact hQ _ (Ag.wr (Ag.wr Ag.rf rfl) rfl) (Vw.w1 (Vw.w0 hP)))
                   | (rw [bk_5 (by omega) (by rw [← p2]; omega) (by
                        refine ⟨h179a.1.1, ?_⟩
                        have := h179a.2
                        rw [e0 (by omega) h179a.1.1, p2, p3] at this
                        exact this)] at hQ
                      rw [← p3] at hQ
                      exact hQ _ (Ag.wr (Ag.wr (Ag.wr Ag.rf rfl) rfl) rfl) (Vw.w1 (Vw.w1 (Vw.w0 hP)))))
            · replace c104 := bI_nz c104
              refine ⟨rfl, Or.inl rfl, ?_⟩
              first
              | (exfalso; simp only [Int32.reduceToInt] at c21 c45 c52 c57 c87 h101a h101b c104; omega)
              | (unfold brF at hQ
                 try simp only [Int32.reduceToInt] at c21 c45 c52 c57 c87 h101a h101b c104
                 rw [bk_n (by omega) (by rw [← p2]; omega) (by rw [← p3, ← p4]; omega)] at hQ
                 first
                 | exact hQ _ Ag.rf hP
                 | exact hQ _ agU (VwU hP))
        · refine ⟨fun _ => ?_, fun z => absurd (by decide) z⟩
          refine ⟨fun c110_0 => ?_, fun c110_0 => ?_⟩
          · refine ⟨rfl, rfl, ?_⟩
            refine s_isSpent ⟨hl.1, by omega⟩ ⟨k2.1, by omega⟩ (ws (by omega)).1 (ws3 (by omega)) (ws (by omega)).2.1 w2 ?_
            refine ⟨rfl, Or.inr rfl, ?_⟩
            first
            | (exfalso; simp only [Int32.reduceToInt] at c21 c45 c52 c57 c110_0; omega)
            | (unfold brF at hQ
               try simp only [Int32.reduceToInt] at c21 c45 c52 c57 c110_0
               rw [bk_1 (by assumption) (by rw [← p2]; omega) (by rw [← p3, ← p4]; omega)] at hQ
               have hF0 := (ws (by omega)).2.1
               have hF : (σ 2 (σ 17 l.toInt.toNat).toInt.toNat).toInt.toNat < 5 := by omega
               first
               | exact hQ _ (agW (Ag.wr Ag.rf rfl) hF) (br_sel (σ := σ) (o := (σ 17 l.toInt.toNat).toInt.toNat) hP hF (by rw [← p3]; rfl))
               | exact hQ _ (agW (Ag.wr agU rfl) hF) (br_sel (σ := σ) (o := (σ 17 l.toInt.toNat).toInt.toNat) (VwU hP) hF (by rw [← p3]; rfl)))
          refine ⟨fun c110_1 => ?_, fun c110_1 => ?_⟩
          · refine ⟨rfl, rfl, ?_⟩
            refine s_isLoaded ⟨hl.1, by omega⟩ ⟨k2.1, by omega⟩ (fun (h150a : ¬ ((σ 4 (σ 12 l.toInt.toNat).toInt.toNat).toInt = 1 ∧ (σ 36 (σ 12 l.toInt.toNat).toInt.toNat + σ 16 l.toInt.toNat).toInt ≤ 100000)) => ?_) (fun (h150a : ((σ 4 (σ 12 l.toInt.toNat).toInt.toNat).toInt = 1 ∧ (σ 36 (σ 12 l.toInt.toNat).toInt.toNat + σ 16 l.toInt.toNat).toInt ≤ 100000)) => ?_)
            · refine ⟨rfl, Or.inl rfl, ?_⟩
              first
              | (exfalso; simp only [Int32.reduceToInt] at c21 c45 c52 c57 c110_0 c110_1 h150a; omega)
              | (unfold brF at hQ
                 try simp only [Int32.reduceToInt] at c21 c45 c52 c57 c110_0 c110_1 h150a
                 rw [bk_2n (by assumption) (by rw [← p2]; omega) (by rw [← p3]; assumption)] at hQ
                 exact hQ _ Ag.rf hP)
            · refine ⟨rfl, Or.inr rfl, ?_⟩
              first
              | (exfalso; simp only [Int32.reduceToInt] at c21 c45 c52 c57 c110_0 c110_1 h150a; omega)
              | (unfold brF at hQ
                 try simp only [Int32.reduceToInt] at c21 c45 c52 c57 c110_0 c110_1 h150a
                 rw [bk_2 (by assumption) (by rw [← p2]; omega) (by rw [← p3]; assumption)] at hQ
                 rw [← p3] at hQ
                 exact hQ _ (Ag.wr (Ag.wr Ag.rf rfl) rfl) (Vw.w2 (Vw.w1 hP)))
          refine ⟨fun c110_2 => ?_, fun c110_2 => ?_⟩
          · refine ⟨rfl, rfl, ?_⟩
            refine s_isSplit ⟨hl.1, by omega⟩ ⟨k2.1, by omega⟩ k3 (fun (h157a : ¬ ((0 ≤ (σ 17 l.toInt.toNat).toInt ∧ (σ 17 l.toInt.toNat).toInt < (σ 3 0).toInt) ∧ ¬ (σ 35 (σ 17 l.toInt.toNat).toInt.toNat).toInt = 0 ∧ (σ 6 (σ 17 l.toInt.toNat).toInt.toNat).toInt = (σ 6 (σ 12 l.toInt.toNat).toInt.toNat).toInt ∧ (σ 36 (σ 17 l.toInt.toNat).toInt.toNat + σ 16 l.toInt.toNat).toInt ≤ 100000)) => ?_) (fun (h157a : (0 ≤ (σ 17 l.toInt.toNat).toInt ∧ (σ 17 l.toInt.toNat).toInt < (σ 3 0).toInt) ∧ ¬ (σ 35 (σ 17 l.toInt.toNat).toInt.toNat).toInt = 0 ∧ (σ 6 (σ 17 l.toInt.toNat).toInt.toNat).toInt = (σ 6 (σ 12 l.toInt.toNat).toInt.toNat).toInt ∧ (σ 36 (σ 17 l.toInt.toNat).toInt.toNat + σ 16 l.toInt.toNat).toInt ≤ 100000) => ?_)
            · refine ⟨rfl, Or.inl rfl, ?_⟩
              first
              | (exfalso; simp only [Int32.reduceToInt] at c21 c45 c52 c57 c110_0 c110_1 c110_2 h157a; omega)
              | (unfold brF at hQ
                 try simp only [Int32.reduceToInt] at c21 c45 c52 c57 c110_0 c110_1 c110_2 h157a
                 rw [bk_3n (by assumption) (by rw [← p2]; omega) (by rw [← p3, ← p4]; omega) (fun q => h157a ⟨(wo (by omega)).1, by rw [p2, p3]; exact q⟩)] at hQ
                 first
                 | exact hQ _ Ag.rf hP
                 | exact hQ _ agU (VwU hP))
            · refine ⟨rfl, Or.inr rfl, ?_⟩
              first
              | (exfalso; simp only [Int32.reduceToInt] at c21 c45 c52 c57 c110_0 c110_1 c110_2 h157a; omega)
              | (unfold brF at hQ
                 try simp only [Int32.reduceToInt] at c21 c45 c52 c57 c110_0 c110_1 c110_2 h157a
                 rw [bk_3 (by assumption) (by rw [← p2]; omega) (by rw [← p3, ← p4]; omega) (by have := h157a.2; rw [p2, p3] at this; exact this)] at hQ
                 have eo : (upd (σ 36) (σ 12 l.toInt.toNat).toInt.toNat (σ 36 (σ 12 l.toInt.toNat).toInt.toNat - σ 16 l.toInt.toNat)) (σ 17 l.toInt.toNat).toInt.toNat = σ 36 (σ 17 l.toInt.toNat).toInt.toNat := pk_un (by have := (wo (by omega)).2.1; omega)
                 rw [← p3] at hQ
                 rw [← eo] at hQ
                 first
                 | exact hQ _ (Ag.wr (Ag.wr Ag.rf rfl) rfl) (Vw.w1 (Vw.w1 hP))
                 | exact hQ _ (Ag.wr (Ag.wr agU rfl) rfl) (Vw.w1 (Vw.w1 (VwU hP))))
          refine ⟨fun c110_3 => ?_, fun c110_3 => ?_⟩
          · refine ⟨rfl, rfl, ?_⟩
            refine s_isReturned ⟨hl.1, by omega⟩ ⟨k2.1, by omega⟩ (ws (by omega)).1 (ws3 (by omega)) (ws (by omega)).2.1 w2 (fun (h164a : ¬ (σ 36 (σ 12 l.toInt.toNat).toInt.toNat + σ 16 l.toInt.toNat).toInt ≤ 100000) => ?_) (fun (h164a : (σ 36 (σ 12 l.toInt.toNat).toInt.toNat + σ 16 l.toInt.toNat).toInt ≤ 100000) => ?_)
            · refine ⟨rfl, Or.inl rfl, ?_⟩
              first
              | (exfalso; simp only [Int32.reduceToInt] at c21 c45 c52 c57 c110_0 c110_1 c110_2 c110_3 h164a; omega)
              | (unfold brF at hQ
                 try simp only [Int32.reduceToInt] at c21 c45 c52 c57 c110_0 c110_1 c110_2 c110_3 h164a
                 rw [bk_4n (by assumption) (by rw [← p2]; omega) (by rw [← p3]; assumption)] at hQ
                 exact hQ _ Ag.rf hP)
            · refine ⟨rfl, Or.inr rfl, ?_⟩
              first
              | (exfalso; simp only [Int32.reduceToInt] at c21 c45 c52 c57 c110_0 c110_1 c110_2 c110_3 h164a; omega)
              | (unfold brF at hQ
                 try simp only [Int32.reduceToInt] at c21 c45 c52 c57 c110_0 c110_1 c110_2 c110_3 h164a
                 rw [bk_4 (by assumption) (by rw [← p2]; omega) (by rw [← p3]; assumption)] at hQ
                 have hF0 := (ws (by omega)).2.1
                 have hF : (σ 2 (σ 17 l.toInt.toNat).toInt.toNat).toInt.toNat < 5 := by omega
                 exact hQ _ (agW (Ag.wr Ag.rf rfl) hF) (br_sel (σ := σ) (o := (σ 17 l.toInt.toNat).toInt.toNat) hP hF (by rw [← p3])))
          refine ⟨_, _, rfl, (by refine ⟨?_, ?_⟩ <;> omega), ?_⟩
          refine ⟨rfl, rfl, ?_⟩
          refine s_isLost ⟨k2.1, by omega⟩ k3 (fun (h179a : ¬ ((0 ≤ (σ 17 l.toInt.toNat).toInt ∧ (σ 17 l.toInt.toNat).toInt < (σ 3 0).toInt) ∧ ¬ ((wr σ 35 (σ 12 l.toInt.toNat).toInt.toNat 0) 35 (σ 17 l.toInt.toNat).toInt.toNat).toInt = 0 ∧ (σ 6 (σ 17 l.toInt.toNat).toInt.toNat).toInt = (σ 6 (σ 12 l.toInt.toNat).toInt.toNat).toInt ∧ (σ 36 (σ 17 l.toInt.toNat).toInt.toNat + σ 36 (σ 12 l.toInt.toNat).toInt.toNat).toInt ≤ 100000)) => ?_) (fun (h179a : (0 ≤ (σ 17 l.toInt.toNat).toInt ∧ (σ 17 l.toInt.toNat).toInt < (σ 3 0).toInt) ∧ ¬ ((wr σ 35 (σ 12 l.toInt.toNat).toInt.toNat 0) 35 (σ 17 l.toInt.toNat).toInt.toNat).toInt = 0 ∧ (σ 6 (σ 17 l.toInt.toNat).toInt.toNat).toInt = (σ 6 (σ 12 l.toInt.toNat).toInt.toNat).toInt ∧ (σ 36 (σ 17 l.toInt.toNat).toInt.toNat + σ 36 (σ 12 l.toInt.toNat).toInt.toNat).toInt ≤ 100000) => ?_)
          · refine ⟨rfl, Or.inr rfl, ?_⟩
            first
            | (exfalso; simp only [Int32.reduceToInt] at c21 c45 c52 c57 c110_0 c110_1 c110_2 c110_3 h179a; omega)
            | (unfold brF at hQ
               have z5 := wl (by omega)
               have e0 : (σ 17 l.toInt.toNat).toInt ≠ (σ 12 l.toInt.toNat).toInt → 0 ≤ (σ 17 l.toInt.toNat).toInt → wr σ 35 (σ 12 l.toInt.toNat).toInt.toNat 0 35 (σ 17 l.toInt.toNat).toInt.toNat = σ 35 (σ 17 l.toInt.toNat).toInt.toNat := fun q q2 => pk_un (f := σ 35) (by omega)
               first
               | (rw [bk_5n (by omega) (by rw [← p2]; omega) (fun q => h179a ⟨by omega, by rw [e0 (by omega) q.1, p2, p3]; exact q.2⟩)] at hQ
                  exact hQ _ (Ag.wr (Ag.wr Ag.rf rfl) rfl) (Vw.w1 (Vw.w0 hP)))
               | (rw [bk_5 (by omega) (by rw [← p2]; omega) (by
                    refine ⟨h179a.1.1, ?_⟩
                    have := h179a.2
                    rw [e0 (by omega) h179a.1.1, p2, p3] at this
                    exact this)] at hQ
                  rw [← p3] at hQ
                  exact hQ _ (Ag.wr (Ag.wr (Ag.wr Ag.rf rfl) rfl) rfl) (Vw.w1 (Vw.w1 (Vw.w0 hP)))))
          · refine ⟨rfl, Or.inr rfl, ?_⟩
            first
            | (exfalso; simp only [Int32.reduceToInt] at c21 c45 c52 c57 c110_0 c110_1 c110_2 c110_3 h179a; omega)
            | (unfold brF at hQ
               have z5 := wl (by omega)
               have e0 : (σ 17 l.toInt.toNat).toInt ≠ (σ 12 l.toInt.toNat).toInt → 0 ≤ (σ 17 l.toInt.toNat).toInt → wr σ 35 (σ 12 l.toInt.toNat).toInt.toNat 0 35 (σ 17 l.toInt.toNat).toInt.toNat = σ 35 (σ 17 l.toInt.toNat).toInt.toNat := fun q q2 => pk_un (f := σ 35) (by omega)
               first
               | (rw [bk_5n (by omega) (by rw [← p2]; omega) (fun q => h179a ⟨by omega, by rw [e0 (by omega) q.1, p2, p3]; exact q.2⟩)] at hQ
                  exact hQ _ (Ag.wr (Ag.wr Ag.rf rfl) rfl) (Vw.w1 (Vw.w0 hP)))
               | (rw [bk_5 (by omega) (by rw [← p2]; omega) (by
                    refine ⟨h179a.1.1, ?_⟩
                    have := h179a.2
                    rw [e0 (by omega) h179a.1.1, p2, p3] at this
                    exact this)] at hQ
                  rw [← p3] at hQ
                  exact hQ _ (Ag.wr (Ag.wr (Ag.wr Ag.rf rfl) rfl) rfl) (Vw.w1 (Vw.w1 (Vw.w0 hP)))))
