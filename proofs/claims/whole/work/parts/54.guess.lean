def LsU : List Nat := [29, 34, 35, 36, 37, 39, 40, 41, 42, 43, 44, 78, 79, 80, 81]
theorem plA_eqU {σ τ : Mm} (hI : Inv σ) (hA : Ag LsU σ τ) {x y : Int32} : ∀ n : Nat, (n : Int) ≤ (σ 10 0).toInt → plA τ (σ 18) (okB σ x y) n = plA σ (σ 18) (okB σ x y) n
  | 0, _ => rfl
  | n + 1, h => by
    have o0 : σ 18 = ordA (σ 13) (σ 10 0).toInt.toNat := hI.2.2.2.1
    have l7 := (hI.2.2.1).2.1.2
    have hr := ordA_rng (ab := σ 13) (n := (σ 10 0).toInt.toNat) (by omega) n (by omega)
    rw [← o0] at hr
    have hln := lineF hI (l := (σ 18 n).toInt.toNat) (by omega)
    unfold plA stP
    rw [plA_eqU hI hA n (by omega), br_sta (StA_ag hA rfl) hln.2.1.1.2]
theorem Fin_eqU {σ τ : Mm} (hI : Inv σ) (hA : Ag LsU σ τ) (x y : Int32) : Fin_ τ x y = Fin_ σ x y := by
  have l6 := (hI.2.2.1).2.1.1
  have e : okB τ x y = okB σ x y := by
    funext l
    unfold okB okP
    rw [hA 13 rfl, hA 14 rfl, hA 15 rfl]
  unfold Fin_
  rw [hA 18 rfl, hA 10 rfl, e]
  exact plA_eqU hI hA _ (by omega)
def gsR (L : Nat) (b : Prop) [Decidable b] : Int32 := if L = 0 then (if b then -1000000002 else 2) else if L = 1 then 1 else 0
theorem cs_guess {σ : Mm} {Q : Qt} {c s : Int32} (hI : Inv σ) (h1 : ¬ ((0 ≤ c.toInt ∧ c.toInt ≤ 9999) ∧ (0 ≤ s.toInt ∧ s.toInt < (σ 1 2).toInt)) → Q (some (.int (-1000000001))) σ) (h2 : ((0 ≤ c.toInt ∧ c.toInt ≤ 9999) ∧ (0 ≤ s.toInt ∧ s.toInt < (σ 1 2).toInt)) → 60 ≤ (σ 78 0).toInt → Q (some (.int (-1000000003))) σ) (h3 : ((0 ≤ c.toInt ∧ c.toInt ≤ 9999) ∧ (0 ≤ s.toInt ∧ s.toInt < (σ 1 2).toInt)) → (σ 78 0).toInt < 60 → ∀ T, Ag LsP σ T → Q (some (.int (gsR (lsF c (σ 7) (Fin_ σ (σ 1 0) (σ 1 0) 0) (σ 3 0).toInt.toNat) ((σ 78 1).toInt < (barN (σ 79) (σ 80) (σ 81) s (σ 1 0) (σ 78 0).toInt.toNat : Nat))))) (wr (wr (wr (wr T 79 (T 78 0).toInt.toNat s) 80 (T 78 0).toInt.toNat (T 1 0)) 81 (T 78 0).toInt.toNat (bI (1 < lsF c (σ 7) (Fin_ σ (σ 1 0) (σ 1 0) 0) (σ 3 0).toInt.toNat))) 78 0 (T 78 0 + 1))) : Call 120 k_X11_guess [.ref 0, .int c, .int s] σ Q := by
  obtain ⟨⟨t0, t1, t2, t3⟩, ⟨t4, t5⟩, ⟨t6, t7⟩, ⟨t8, t9⟩, t10⟩ := id (hI.1)
  obtain ⟨⟨v0, v1, v2, v3, v4, v5, v6⟩, ⟨v7, v8⟩, v9⟩ := id (hI.2.1)
  obtain ⟨⟨g0, g1, g2, g3, g4⟩, ⟨g5, g6⟩, ⟨g7, g8⟩⟩ := id (hI.2.2.2.2.2.2.2.1)
  refine Call_st 200 fun X hX => ?_
  refine ⟨rfl, ?_⟩
  refine s_withinK (l := 0) (h := 9999) (by decide) (by decide) ?_
  refine ⟨fun c8 => ?_, fun c8 => ?_⟩
  · replace c8 := bI_z c8
    refine ⟨rfl, trivial, ?_⟩
    exact h1 (by (first | omega | (simp only [Int32.reduceToInt] at c8 ⊢; omega)))
  · replace c8 := bI_nz c8
    refine ⟨rfl, rfl, ?_⟩
    refine s_hasShop ?_
    refine ⟨fun c19 => ?_, fun c19 => ?_⟩
    · replace c19 := bI_z c19
      refine ⟨rfl, trivial, ?_⟩
      exact h1 (by (first | omega | (simp only [Int32.reduceToInt] at c8 c19 ⊢; omega)))
    · replace c19 := bI_nz c19
      refine ⟨fun c34 => ?_, fun c34 => ?_⟩
      · refine ⟨rfl, rfl, ?_⟩
        refine s_play hI (fun h58a h58b h58c h58d h58e => ?_)
        have f78 : h58a 78 = σ 78 := h58c 78 rfl
        have q78 : (h58a 78 0).toInt = (σ 78 0).toInt := by rw [f78]
        have f3 : h58a 3 = σ 3 := h58c 3 rfl
        have q3 : (h58a 3 0).toInt = (σ 3 0).toInt := by rw [f3]
        have eL : lsF c (h58a 7) (h58a 35) (h58a 3 0).toInt.toNat = lsF c (σ 7) (Fin_ σ (σ 1 0) (σ 1 0) 0) (σ 3 0).toInt.toNat := by
          rw [f3, h58c 7 rfl]
          exact lsF_cong _ (fun i hi => ⟨rfl, (Vw.v h58d h58e (by omega)).1⟩)
        refine ⟨rfl, rfl, ?_⟩
        refine s_findCode ⟨by omega, by omega⟩ (fun h66a => ?_) (fun h66a => ?_) (fun h66a h66b => ?_)
        · rw [eL] at h66a
          (try rw [eL] at h66b)
          refine ⟨fun _ => ?_, fun z => absurd (by decide) z⟩
          refine ⟨rfl, rfl, ?_⟩
          refine s_isBarred (by omega) (by omega) ?_
          refine ⟨fun c90 => ?_, fun c90 => ?_⟩
          · replace c90 := bI_z c90
            refine ⟨fun z => absurd z (by decide), fun _ => ?_⟩
            refine ⟨rfl, rfl, ?_⟩
            refine s_gapp ⟨by omega, by (first | omega | (simp only [Int32.reduceToInt] at c8 c19 c34 h58a h58b h58c h58d h58e h66a c90 ⊢; omega))⟩ (Or.inl rfl) ?_
            refine ⟨fun _ => ?_, fun z => absurd (by decide) z⟩
            refine ⟨rfl, trivial, ?_⟩
            refine Qe (h3 (by omega) (by (first | omega | (simp only [Int32.reduceToInt] at c8 c19 c34 h58a h58b h58c h58d h58e h66a c90 ⊢; omega))) h58a h58c) (vI_ ?_) ?_
            · rw [h58c 1 rfl, h58c 79 rfl, h58c 80 rfl, h58c 81 rfl, f78] at c90
              unfold gsR
              rw [if_pos h66a, if_neg c90]
            · rw [bI_n (by omega)]
          · replace c90 := bI_nz c90
            refine ⟨fun z => absurd z (by decide), fun _ => ?_⟩
            refine ⟨rfl, rfl, ?_⟩
            refine s_gapp ⟨by omega, by (first | omega | (simp only [Int32.reduceToInt] at c8 c19 c34 h58a h58b h58c h58d h58e h66a c90 ⊢; omega))⟩ (Or.inl rfl) ?_
            refine ⟨fun z => absurd z (by decide), fun _ => ?_⟩
            refine ⟨rfl, trivial, ?_⟩
            refine Qe (h3 (by omega) (by (first | omega | (simp only [Int32.reduceToInt] at c8 c19 c34 h58a h58b h58c h58d h58e h66a c90 ⊢; omega))) h58a h58c) (vI_ ?_) ?_
            · rw [h58c 1 rfl, h58c 79 rfl, h58c 80 rfl, h58c 81 rfl, f78] at c90
              unfold gsR
              rw [if_pos h66a, if_pos c90]
            · rw [bI_n (by omega)]
        · rw [eL] at h66a
          (try rw [eL] at h66b)
          refine ⟨fun z => absurd z (by decide), fun _ => ?_⟩
          refine ⟨fun z => absurd z (by decide), fun _ => ?_⟩
          refine ⟨rfl, rfl, ?_⟩
          refine s_gapp ⟨by omega, by (first | omega | (simp only [Int32.reduceToInt] at c8 c19 c34 h58a h58b h58c h58d h58e h66a ⊢; omega))⟩ (Or.inl rfl) ?_
          refine ⟨fun _ => ?_, fun z => absurd (by decide) z⟩
          refine ⟨rfl, trivial, ?_⟩
          refine Qe (h3 (by omega) (by (first | omega | (simp only [Int32.reduceToInt] at c8 c19 c34 h58a h58b h58c h58d h58e h66a ⊢; omega))) h58a h58c) (vI_ ?_) ?_
          · unfold gsR
            rw [if_neg (by omega), if_pos h66a]
          · rw [bI_n (by omega)]
        · rw [eL] at h66a
          (try rw [eL] at h66b)
          refine ⟨fun z => absurd z (by decide), fun _ => ?_⟩
          refine ⟨fun _ => ?_, fun z => absurd (by decide) z⟩
          refine ⟨rfl, rfl, ?_⟩
          refine s_gapp ⟨by omega, by (first | omega | (simp only [Int32.reduceToInt] at c8 c19 c34 h58a h58b h58c h58d h58e h66a h66b ⊢; omega))⟩ (Or.inr rfl) ?_
          refine ⟨fun _ => ?_, fun z => absurd (by decide) z⟩
          refine ⟨rfl, trivial, ?_⟩
          refine Qe (h3 (by omega) (by (first | omega | (simp only [Int32.reduceToInt] at c8 c19 c34 h58a h58b h58c h58d h58e h66a h66b ⊢; omega))) h58a h58c) (vI_ ?_) ?_
          · unfold gsR
            rw [if_neg h66a, if_neg h66b]
          · rw [bI_p (by omega)]
      · refine ⟨rfl, trivial, ?_⟩
        exact h2 (by omega) (by (first | omega | (simp only [Int32.reduceToInt] at c8 c19 c34 ⊢; omega)))
set_option maxHeartbeats 4000000 in
theorem ms_guess {σ : Mm} {Q : Qt} {c s : Int32} (hI : InvQ σ) (hg : 0 ≤ (σ 88 71).toInt ∧ (σ 88 71).toInt ≤ 60) (h1 : ¬ ((0 ≤ c.toInt ∧ c.toInt ≤ 9999) ∧ (0 ≤ s.toInt ∧ s.toInt < (σ 88 2).toInt)) → Q (some (.int (-1000000001))) σ) (h2 : ((0 ≤ c.toInt ∧ c.toInt ≤ 9999) ∧ (0 ≤ s.toInt ∧ s.toInt < (σ 88 2).toInt)) → (σ 88 71).toInt = 60 → Q (some (.int (-1000000003))) σ) (h3 : ((0 ≤ c.toInt ∧ c.toInt ≤ 9999) ∧ (0 ≤ s.toInt ∧ s.toInt < (σ 88 2).toInt)) → (σ 88 71).toInt < 60 → ∀ T, Ag LsG σ T → (∀ j, j ≠ 26 → T 88 j = σ 88 j) → Q (some (.int (gsR (lsF c (σ 7) (Fin_ σ (σ 88 0) (σ 88 0) 0) (σ 3 0).toInt.toNat) ((σ 88 72).toInt < (barN (σ 136) (σ 137) (σ 138) s (σ 88 0) (σ 88 71).toInt.toNat : Nat))))) (wr (wr (wr (wr T 136 (T 88 71).toInt.toNat s) 137 (T 88 71).toInt.toNat (T 88 0)) 138 (T 88 71).toInt.toNat (bI (1 < lsF c (σ 7) (Fin_ σ (σ 88 0) (σ 88 0) 0) (σ 3 0).toInt.toNat))) 88 71 (T 88 71 + 1))) : Call 120 k_X12_guess [.ref 88, .int c, .int s] σ Q := by
  obtain ⟨⟨t0, t1, t2, t3⟩, ⟨t4, t5⟩, ⟨t6, t7⟩, ⟨t8, t9⟩, t10⟩ := id (hI.1)
  obtain ⟨⟨v0, v1, v2, v3, v4, v5, v6⟩, ⟨v7, v8⟩, v9⟩ := id (hI.2.1)
  have qshops : (σ 88 2).toInt = (σ 1 2).toInt := by rw [t2]
  have qvouchers : (σ 88 4).toInt = (σ 3 0).toInt := by rw [v0]
  have qtoday : (σ 88 0).toInt = (σ 1 0).toInt := by rw [t0]
  refine Call_go fun X hX => ?_
  have hend : ∀ (T : Mm) (w4 v5 : Value), ((0 ≤ c.toInt ∧ c.toInt ≤ 9999) ∧ (0 ≤ s.toInt ∧ s.toInt < (σ 88 2).toInt)) → (σ 88 71).toInt < 60 → Ag LsG σ T → (∀ j, j ≠ 26 → T 88 j = σ 88 j) → X 108 [.ref 88, .int c, .int s, .int (nI (lsF c (σ 7) (Fin_ σ (σ 88 0) (σ 88 0) 0) (σ 3 0).toInt.toNat)), w4, v5] [] T := by
    intro T w4 v5 hok hlt hA h8
    have hle := lsF_le c (σ 7) (Fin_ σ (σ 88 0) (σ 88 0) 0) (σ 3 0).toInt.toNat
    generalize hLe : lsF c (σ 7) (Fin_ σ (σ 88 0) (σ 88 0) 0) (σ 3 0).toInt.toNat = L at *
    have el := nIt (n := L) (by omega)
    have q71 : (T 88 71).toInt = (σ 88 71).toInt := by rw [h8 71 (by decide)]
    refine go [] 100 hX ?_
    refine ⟨rfl, rfl, ?_⟩
    refine m_isBarred (by omega) (by omega) ?_
    refine ⟨_, rfl, ⟨(by omega : 0 ≤ (T 88 71).toInt), (by omega : (T 88 71).toInt < 60)⟩, ?_⟩
    refine ⟨_, rfl, ⟨(by omega : 0 ≤ (T 88 71).toInt), (by omega : (T 88 71).toInt < 60)⟩, ?_⟩
    refine ⟨fun c148 => ?_, fun c148 => ?_⟩
    · refine ⟨⟨(by omega : 0 ≤ (T 88 71).toInt), (by omega : (T 88 71).toInt < 60)⟩, Or.inr rfl, ?_⟩
      refine ⟨fun c168 => ?_, fun c168 => ?_⟩
      · refine ⟨fun c173 => ?_, fun c173 => ?_⟩
        · replace c173 := bI_z c173
          refine ⟨rfl, trivial, ?_⟩
          exfalso
          rw [el] at c148 c168
          simp only [Int32.reduceToInt] at c148
          omega
        · replace c173 := bI_nz c173
          refine ⟨rfl, trivial, ?_⟩
          exfalso
          rw [el] at c148 c168
          simp only [Int32.reduceToInt] at c148
          omega
      · refine ⟨fun c187 => ?_, fun c187 => ?_⟩
        · refine ⟨rfl, trivial, ?_⟩
          exfalso
          rw [el] at c148 c187
          simp only [Int32.reduceToInt] at c148 c187
          omega
        · refine ⟨rfl, trivial, ?_⟩
          rw [el] at c187
          simp only [Int32.reduceToInt] at c187
          rw [el] at c148 c168
          simp only [Int32.reduceToInt] at c148
          refine Qe (h3 (by omega) (by omega) T hA h8) (vI_ ?_) ?_
          · unfold gsR
            rw [if_neg (by omega), if_neg (by omega)]
          · rw [bI_p (by omega)]
            rfl
    · refine ⟨⟨(by omega : 0 ≤ (T 88 71).toInt), (by omega : (T 88 71).toInt < 60)⟩, Or.inl rfl, ?_⟩
      refine ⟨fun c168 => ?_, fun c168 => ?_⟩
      · refine ⟨fun c173 => ?_, fun c173 => ?_⟩
        · replace c173 := bI_z c173
          refine ⟨rfl, trivial, ?_⟩
          rw [el] at c148 c168
          simp only [Int32.reduceToInt] at c148
          refine Qe (h3 (by omega) (by omega) T hA h8) (vI_ ?_) ?_
          · rw [hA 136 rfl, hA 137 rfl, hA 138 rfl, h8 0 (by decide), h8 71 (by decide), h8 72 (by decide)] at c173
            unfold gsR
            rw [if_pos (by omega), if_neg c173]
          · rw [bI_n (by omega)]
            rfl
        · replace c173 := bI_nz c173
          refine ⟨rfl, trivial, ?_⟩
          rw [el] at c148 c168
          simp only [Int32.reduceToInt] at c148
          refine Qe (h3 (by omega) (by omega) T hA h8) (vI_ ?_) ?_
          · rw [hA 136 rfl, hA 137 rfl, hA 138 rfl, h8 0 (by decide), h8 71 (by decide), h8 72 (by decide)] at c173
            unfold gsR
            rw [if_pos (by omega), if_pos c173]
          · rw [bI_n (by omega)]
            rfl
      · refine ⟨fun c187 => ?_, fun c187 => ?_⟩
        · refine ⟨rfl, trivial, ?_⟩
          rw [el] at c187
          simp only [Int32.reduceToInt] at c187
          rw [el] at c148 c168
          simp only [Int32.reduceToInt] at c148
          refine Qe (h3 (by omega) (by omega) T hA h8) (vI_ ?_) ?_
          · unfold gsR
            rw [if_neg (by omega), if_pos (by omega)]
          · rw [bI_n (by omega)]
            rfl
        · refine ⟨rfl, trivial, ?_⟩
          exfalso
          rw [el] at c148 c168 c187
          simp only [Int32.reduceToInt] at c148 c187
          omega
  have hloop : ∀ T : Mm, ((0 ≤ c.toInt ∧ c.toInt ≤ 9999) ∧ (0 ≤ s.toInt ∧ s.toInt < (σ 88 2).toInt)) → (σ 88 71).toInt < 60 → Ag LsG σ T → (∀ j, j ≠ 26 → T 88 j = σ 88 j) → T 93 = σ 7 → (∀ (w4 v5 : Value), X 108 [.ref 88, .int c, .int s, .int (nI (lsF c (σ 7) (T 106) (σ 3 0).toInt.toNat)), w4, v5] [] T) → X 52 [.ref 88, .int c, .int s, .int 9, .int 0, .null] [] T := by
    intro T hok hlt hA h8 f93 hK
    have q4 : (T 88 4).toInt = (σ 3 0).toInt := by rw [h8 4 (by decide), v0]
    have loop : ∀ (k i : Nat) (v5 : Value), i + k = (σ 3 0).toInt.toNat → X 52 [.ref 88, .int c, .int s, .int (nI (lsF c (σ 7) (T 106) i)), .int (nI i), v5] [] T := by
      intro k
      induction k with
      | zero =>
        intro i v5 hi 
        rw [Nat.add_zero] at hi
        have e1 := nIt (n := i) (by omega)
        subst hi
        refine go [52, 108] 100 hX ?_
        refine ⟨fun c58 => ?_, fun c58 => ?_⟩
        · exfalso; omega
        · exact hK _ _
      | succ k ih =>
        intro i v5 hi 
        have e1 := nIt (n := i) (by omega)
        have e2 := nIn (i := i) (by omega)
        refine go [52, 108] 100 hX ?_
        refine ⟨fun c58 => ?_, fun c58 => ?_⟩
        · refine ⟨_, _, rfl, ⟨by omega, by omega⟩, ?_⟩
          refine ⟨fun c68 => ?_, fun c68 => ?_⟩
          · refine ⟨fun c92 => ?_, fun c92 => ?_⟩
            · have hs := lsF_s c (σ 7) (T 106) i
              have hle := lsF_le c (σ 7) (T 106) i
              have el := nIt (n := lsF c (σ 7) (T 106) i) (by omega)
              rw [e2] at c68
              have hd : dfF c (σ 7) (T 106) i = 9 := if_pos c68
              rw [hd] at hs
              exfalso
              rw [el] at c92
              simp only [Int32.reduceToInt] at c92
              omega
            · have hs := lsF_s c (σ 7) (T 106) i
              have hle := lsF_le c (σ 7) (T 106) i
              have el := nIt (n := lsF c (σ 7) (T 106) i) (by omega)
              rw [e2] at c68
              have hd : dfF c (σ 7) (T 106) i = 9 := if_pos c68
              rw [hd] at hs
              rw [if_neg (by omega)] at hs
              have ih1 := ih (i + 1) (.int 9) (by omega)
              rw [hs, ← nI_1] at ih1
              exact ih1
          · refine ⟨_, _, rfl, ⟨by omega, by omega⟩, ?_⟩
            refine ⟨rfl, ?_⟩
            refine m_differ ?_
            refine ⟨fun c92 => ?_, fun c92 => ?_⟩
            · have hs := lsF_s c (σ 7) (T 106) i
              have hle := lsF_le c (σ 7) (T 106) i
              have el := nIt (n := lsF c (σ 7) (T 106) i) (by omega)
              rw [e2] at c68
              have hd : dfF c (σ 7) (T 106) i = unN c (σ 7 i) 4 := if_neg c68
              have hu := unN_le c (σ 7 i) 4
              have eu := nIt (n := unN c (σ 7 i) 4) (by omega)
              rw [hd] at hs
              have e93 : T 93 (nI i).toInt.toNat = σ 7 i := by rw [e2, f93]
              rw [e93, el, eu] at c92
              rw [if_pos (by omega)] at hs
              have ih1 := ih (i + 1) (.int (nI (unN c (T 93 (nI i).toInt.toNat) 4))) (by omega)
              rw [hs, ← nI_1, ← e93] at ih1
              exact ih1
            · have hs := lsF_s c (σ 7) (T 106) i
              have hle := lsF_le c (σ 7) (T 106) i
              have el := nIt (n := lsF c (σ 7) (T 106) i) (by omega)
              rw [e2] at c68
              have hd : dfF c (σ 7) (T 106) i = unN c (σ 7 i) 4 := if_neg c68
              have hu := unN_le c (σ 7 i) 4
              have eu := nIt (n := unN c (σ 7 i) 4) (by omega)
              rw [hd] at hs
              have e93 : T 93 (nI i).toInt.toNat = σ 7 i := by rw [e2, f93]
              rw [e93, el, eu] at c92
              rw [if_neg (by omega)] at hs
              have ih1 := ih (i + 1) (.int (nI (unN c (T 93 (nI i).toInt.toNat) 4))) (by omega)
              rw [hs, ← nI_1] at ih1
              exact ih1
        · exfalso; omega
    exact loop (σ 3 0).toInt.toNat 0 .null (Nat.zero_add _)
  refine go [52] 60 hX ?_
  refine ⟨rfl, ?_⟩
  refine m_isInK (l := 0) (h := 9999) (by decide) (by decide) ?_
  refine ⟨fun c8 => ?_, fun c8 => ?_⟩
  · replace c8 := bI_z c8
    refine ⟨rfl, trivial, ?_⟩
    exact h1 (by (first | omega | (simp only [Int32.reduceToInt] at c8 ⊢; omega)))
  · replace c8 := bI_nz c8
    refine ⟨rfl, rfl, ?_⟩
    refine m_isShop (by omega) ?_
    refine ⟨fun c16 => ?_, fun c16 => ?_⟩
    · replace c16 := bI_z c16
      refine ⟨rfl, trivial, ?_⟩
      exact h1 (by (first | omega | (simp only [Int32.reduceToInt] at c8 c16 ⊢; omega)))
    · replace c16 := bI_nz c16
      refine ⟨fun c28 => ?_, fun c28 => ?_⟩
      · refine ⟨rfl, trivial, ?_⟩
        exact h2 (by omega) (by (first | omega | (simp only [Int32.reduceToInt] at c8 c16 c28 ⊢; omega)))
      · simp only [Int32.reduceToInt] at c28
        refine ⟨rfl, rfl, ?_⟩
        refine m_goThroughQ hI (by omega) (fun h43a h43b h43c h43d h43e h43f => ?_)
        refine hloop h43a (by omega) (by omega) h43c h43d (h43c 93 rfl |>.trans v4) (fun w4 v5 => ?_)
        have eL : lsF c (σ 7) (h43a 106) (σ 3 0).toInt.toNat = lsF c (σ 7) (Fin_ σ (σ 88 0) (σ 88 0) 0) (σ 3 0).toInt.toNat := lsF_cong _ (fun i hi => ⟨rfl, (VwM.v h43e h43f (by omega)).1⟩)
        rw [eL]
        exact hend h43a w4 v5 (by omega) (by omega) h43c h43d
theorem Inv_gu {σ τ : Mm} (hI : Inv σ) (h : Ag [29, 34, 35, 36, 37, 39, 40, 41, 42, 43, 44, 78, 79, 80, 81, 88, 105, 106, 107, 108, 109, 117, 136, 137, 138] σ τ) (hO78 : ∀ j, cu [0] j = false → τ 78 j = σ 78 j) (hO88 : ∀ j, cu [26, 71] j = false → τ 88 j = σ 88 j) (nI_gu : I_gu τ) : Inv τ := ⟨(I_tr_fr (σ := σ) (h 2 rfl) (h 89 rfl) (congrFun (h 1 rfl) 0) (congrFun (h 1 rfl) 1) (congrFun (h 1 rfl) 2) (hO88 0 rfl) (hO88 1 rfl) (hO88 2 rfl) hI.1),
  (I_vo_fr (σ := σ) (h 4 rfl) (h 5 rfl) (h 6 rfl) (h 7 rfl) (h 8 rfl) (h 9 rfl) (h 90 rfl) (h 91 rfl) (h 92 rfl) (h 93 rfl) (h 94 rfl) (h 95 rfl) (congrFun (h 3 rfl) 0) (hO88 4 rfl) (congrFun (h 1 rfl) 1) hI.2.1),
  (I_li_fr (σ := σ) (h 9 rfl) (h 11 rfl) (h 12 rfl) (h 13 rfl) (h 14 rfl) (h 15 rfl) (h 16 rfl) (h 17 rfl) (h 96 rfl) (h 97 rfl) (h 98 rfl) (h 99 rfl) (h 100 rfl) (h 101 rfl) (h 102 rfl) (congrFun (h 10 rfl) 0) (congrFun (h 10 rfl) 1) (hO88 11 rfl) (congrFun (h 1 rfl) 0) (congrFun (h 1 rfl) 2) (congrFun (h 3 rfl) 0) hI.2.2.1),
  (I_or_fr (σ := σ) (h 13 rfl) (h 18 rfl) (congrFun (h 10 rfl) 0) hI.2.2.2.1),
  (I_ta_fr (σ := σ) (h 30 rfl) (h 118 rfl) (congrFun (h 0 rfl) 5) (hO88 36 rfl) hI.2.2.2.2.1),
  (I_ba_fr (σ := σ) (h 46 rfl) (h 47 rfl) (h 48 rfl) (h 49 rfl) (h 50 rfl) (h 120 rfl) (h 121 rfl) (h 122 rfl) (h 123 rfl) (h 124 rfl) (h 52 rfl) (h 53 rfl) (h 54 rfl) (h 55 rfl) (h 56 rfl) (h 57 rfl) (h 125 rfl) (congrFun (h 45 rfl) 0) (congrFun (h 45 rfl) 3) (hO88 48 rfl) (hO88 51 rfl) hI.2.2.2.2.2.1),
  (I_ex_fr (σ := σ) (h 73 rfl) (h 74 rfl) (h 75 rfl) (h 76 rfl) (h 77 rfl) (h 131 rfl) (h 132 rfl) (h 133 rfl) (h 134 rfl) (congrFun (h 71 rfl) 0) (hO88 65 rfl) hI.2.2.2.2.2.2.1),
  nI_gu,
  (I_sh_fr (σ := σ) (h 83 rfl) (h 85 rfl) (h 86 rfl) (h 103 rfl) (h 104 rfl) hI.2.2.2.2.2.2.2.2.1),
  (I_wa_fr (σ := σ) (h 87 rfl) (h 130 rfl) (congrFun (h 0 rfl) 14) (hO88 64 rfl) hI.2.2.2.2.2.2.2.2.2.1),
  (I_la_fr (σ := σ) (h 20 rfl) (h 22 rfl) (h 23 rfl) (h 24 rfl) (h 26 rfl) (h 27 rfl) (h 28 rfl) (h 110 rfl) (h 111 rfl) (h 112 rfl) (h 113 rfl) hI.2.2.2.2.2.2.2.2.2.2.1),
  (I_he_fr (σ := σ) (h 119 rfl) hI.2.2.2.2.2.2.2.2.2.2.2)⟩
theorem op_guess {σ : Mm} {c s : Int32} (hI : Inv σ) : Call 120 k_X11_guess [.ref 0, .int c, .int s] σ (fun r τ => Call 120 k_X12_guess [.ref 88, .int c, .int s] τ (fun r' τ' => (∃ x : Int32, r = some (.int x) ∧ r' = some (.int x)) ∧ Inv τ')) := by
  obtain ⟨⟨g0, g1, g2, g3, g4⟩, ⟨g5, g6⟩, ⟨g7, g8⟩⟩ := id (hI.2.2.2.2.2.2.2.1)
  obtain ⟨⟨t0, t1, t2, t3⟩, t4⟩ := id (hI.1)
  have q71 : (σ 88 71).toInt = (σ 78 0).toInt := by rw [g0]
  have q2 : (σ 88 2).toInt = (σ 1 2).toInt := by rw [t2]
  have hQ0 : InvQ σ := InvQ_gu hI Ag.rf
  refine cs_guess hI (fun a => ?_) (fun a b => ?_) (fun a b T hA => ?_)
  · exact ms_guess hQ0 (by omega) (fun _ => ⟨⟨_, rfl, rfl⟩, hI⟩) (fun z => absurd z (by omega)) (fun z => absurd z (by omega))
  · exact ms_guess hQ0 (by omega) (fun z => absurd z (by omega)) (fun _ _ => ⟨⟨_, rfl, rfl⟩, hI⟩) (fun _ z => absurd z (by omega))
  · generalize hL : lsF c (σ 7) (Fin_ σ (σ 1 0) (σ 1 0) 0) (σ 3 0).toInt.toNat = L
    generalize hw : bI (1 < L) = w
    generalize hN : (T 78 0).toInt.toNat = N
    have hU : Ag LsU σ (wr (wr (wr (wr T 79 N s) 80 N (T 1 0)) 81 N w) 78 0 (T 78 0 + 1)) := Ag.wr (Ag.wr (Ag.wr (Ag.wr (Ag.wk hA rfl) rfl) rfl) rfl) rfl
    generalize hτ : wr (wr (wr (wr T 79 N s) 80 N (T 1 0)) 81 N w) 78 0 (T 78 0 + 1) = τ at hU
    have f88 : τ 88 = σ 88 := hU 88 rfl
    have p71 : (τ 88 71).toInt = (σ 78 0).toInt := by rw [f88, g0]
    have p2 : (τ 88 2).toInt = (σ 1 2).toInt := by rw [f88, t2]
    have p0 : τ 88 0 = σ 1 0 := by rw [f88, t0]
    refine ms_guess (InvQ_gu hI hU) (by omega) (fun z => absurd z (by omega)) (fun _ z => absurd z (by omega)) (fun _ _ υ kA k8 => ?_)
    rw [p0, Fin_eqU hI hU, hU 7 rfl, hU 3 rfl, hL, hw, hU 136 rfl, hU 137 rfl, hU 138 rfl, f88, g0, g1, g2, g3, g4]
    refine ⟨⟨_, rfl, rfl⟩, ?_⟩
    have kk : υ 88 71 = σ 78 0 := by rw [k8 71 (by decide), f88, g0]
    have k0 : υ 88 0 = σ 1 0 := by rw [k8 0 (by decide), f88, t0]
    have eN : (υ 88 71).toInt.toNat = N := by rw [kk, ← hN, hA 78 rfl]
    have e1 := add1 (x := σ 78 0) (by omega)
    rw [eN, k0, kk]
    have hAg : Ag [29, 34, 35, 36, 37, 39, 40, 41, 42, 43, 44, 78, 79, 80, 81, 88, 105, 106, 107, 108, 109, 117, 136, 137, 138] σ (wr (wr (wr (wr υ 136 N s) 137 N (σ 1 0)) 138 N w) 88 71 (σ 78 0 + 1)) := Ag.wr (Ag.wr (Ag.wr (Ag.wr (Ag.tr (Ag.wk hU rfl) (Ag.wk kA rfl)) rfl) rfl) rfl) rfl
    have f78 : ∀ j, υ 78 j = wr T 78 0 (T 78 0 + 1) 78 j := fun j => by rw [kA 78 rfl, ← hτ]; rfl
    have u78 : υ 78 0 = σ 78 0 + 1 := by rw [f78, wr_v, hA 78 rfl]
    have u781 : υ 78 1 = σ 78 1 := by rw [f78, wr_i (by decide), hA 78 rfl]
    have u79 : υ 79 = upd (σ 79) N s := by rw [kA 79 rfl, ← hτ, ← hA 79 rfl]; rfl
    have u80 : υ 80 = upd (σ 80) N (σ 1 0) := by rw [kA 80 rfl, ← hτ, ← hA 80 rfl, ← hA 1 rfl]; rfl
    have u81 : υ 81 = upd (σ 81) N w := by rw [kA 81 rfl, ← hτ, ← hA 81 rfl]; rfl
    have u136 : υ 136 = σ 136 := by rw [kA 136 rfl, hU 136 rfl]
    have u137 : υ 137 = σ 137 := by rw [kA 137 rfl, hU 137 rfl]
    have u138 : υ 138 = σ 138 := by rw [kA 138 rfl, hU 138 rfl]
    refine Inv_gu hI hAg (fun j hj => ?_) (fun j hj => ?_) ⟨⟨?_, ?_, ?_, ?_, ?_⟩, ⟨?_, ?_⟩, ?_, ?_⟩
    · show υ 78 j = σ 78 j
      rw [f78, wr_i (fun e => by rw [e] at hj; cases hj), hA 78 rfl]
    · show upd (υ 88) 71 _ j = _
      rw [pk_un (fun e => by rw [e] at hj; cases hj), k8 j (fun e => by rw [e] at hj; cases hj), f88]
    · show upd (υ 88) 71 _ 71 = υ 78 0
      rw [u78]
      exact pk_us
    · show upd (υ 88) 71 (σ 78 0 + 1) 72 = υ 78 1
      rw [pk_un (by decide), u781, k8 72 (by decide), f88, g1]
    · show upd (υ 136) N s = υ 79
      rw [u136, u79, g2]
    · show upd (υ 137) N (σ 1 0) = υ 80
      rw [u137, u80, g3]
    · show upd (υ 138) N w = υ 81
      rw [u138, u81, g4]
    · show 0 ≤ (υ 78 0).toInt
      rw [u78]; omega
    · show (υ 78 0).toInt ≤ 60
      rw [u78]; omega
    · show 0 ≤ (υ 78 1).toInt
      rw [u781]; exact g7
    · show (υ 78 1).toInt ≤ 9
      rw [u781]; exact g8
