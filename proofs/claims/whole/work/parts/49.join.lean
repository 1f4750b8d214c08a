theorem s_hasProm {d : Nat} {σ : Mm} {Q : Qt} {x : Int32} (hQ : Q (some (.int (bI (0 ≤ x.toInt ∧ x.toInt < (σ 45 3).toInt)))) σ) : Call (d + 1) k_X0_hasPromotion [.ref 45, .int x] σ Q := by
  refine Call_st 120 fun X hX => ?_
  refine ⟨fun c1 => ?_, fun c1 => ?_⟩
  · refine ⟨rfl, Or.inl rfl, ?_⟩
    first | exact bI_t hQ (by omega) | exact bI_f hQ (by omega)
  · refine ⟨fun c9 => ?_, fun c9 => ?_⟩
    · refine ⟨rfl, Or.inr rfl, ?_⟩
      first | exact bI_t hQ (by omega) | exact bI_f hQ (by omega)
    · refine ⟨rfl, Or.inl rfl, ?_⟩
      first | exact bI_t hQ (by omega) | exact bI_f hQ (by omega)
theorem cs_join {d : Nat} {σ : Mm} {Q : Qt} {a b o : Int32} (h6 : (σ 45 3).toInt ≤ 6) (h1 : ¬ ((0 ≤ a.toInt ∧ a.toInt < (σ 45 3).toInt) ∧ (0 ≤ b.toInt ∧ b.toInt < (σ 45 3).toInt) ∧ a.toInt ≠ b.toInt ∧ (0 ≤ o.toInt ∧ o.toInt ≤ 1)) → Q (some (.int (-1000000001))) σ) (h2 : ((0 ≤ a.toInt ∧ a.toInt < (σ 45 3).toInt) ∧ (0 ≤ b.toInt ∧ b.toInt < (σ 45 3).toInt) ∧ a.toInt ≠ b.toInt ∧ (0 ≤ o.toInt ∧ o.toInt ≤ 1)) → Q (some (.int (σ (52 + a.toInt.toNat) b.toInt.toNat))) (wr (wr σ (52 + a.toInt.toNat) b.toInt.toNat o) (52 + b.toInt.toNat) a.toInt.toNat o)) : Call (d + 2) k_X11_join [.ref 0, .int a, .int b, .int o] σ Q := by
  refine Call_st 120 fun X hX => ?_
  refine ⟨rfl, rfl, ?_⟩
  refine s_hasProm ?_
  refine ⟨fun c8 => ?_, fun c8 => ?_⟩
  · replace c8 := bI_z c8
    refine ⟨rfl, trivial, ?_⟩
    exact h1 (by (first | omega | (simp only [Int32.reduceToInt] at c8 ⊢; omega)))
  · replace c8 := bI_nz c8
    refine ⟨rfl, rfl, ?_⟩
    refine s_hasProm ?_
    refine ⟨fun c19 => ?_, fun c19 => ?_⟩
    · replace c19 := bI_z c19
      refine ⟨rfl, trivial, ?_⟩
      exact h1 (by (first | omega | (simp only [Int32.reduceToInt] at c8 c19 ⊢; omega)))
    · replace c19 := bI_nz c19
      refine ⟨fun c24 => ?_, fun c24 => ?_⟩
      · refine ⟨rfl, trivial, ?_⟩
        exact h1 (by (first | omega | (simp only [Int32.reduceToInt] at c8 c19 c24 ⊢; omega)))
      · refine ⟨rfl, ?_⟩
        refine s_withinK (l := 0) (h := 1) (by decide) (by decide) ?_
        refine ⟨fun c33 => ?_, fun c33 => ?_⟩
        · replace c33 := bI_z c33
          refine ⟨rfl, trivial, ?_⟩
          exact h1 (by (first | omega | (simp only [Int32.reduceToInt] at c8 c19 c24 c33 ⊢; omega)))
        · replace c33 := bI_nz c33
          have hok : ((0 ≤ a.toInt ∧ a.toInt < (σ 45 3).toInt) ∧ (0 ≤ b.toInt ∧ b.toInt < (σ 45 3).toInt) ∧ a.toInt ≠ b.toInt ∧ (0 ≤ o.toInt ∧ o.toInt ≤ 1)) := by (first | omega | (simp only [Int32.reduceToInt] at c8 c19 c24 c33 ⊢; omega))
          refine ⟨_, _, rfl, (by refine ⟨?_, ?_⟩ <;> omega), ?_⟩
          refine ⟨_, _, rdI_row (rw52 (by omega)), (by refine ⟨?_, ?_⟩ <;> omega), ?_⟩
          refine ⟨_, _, rfl, (by refine ⟨?_, ?_⟩ <;> omega), ?_⟩
          refine ⟨_, (rw52 (by omega)), (by refine ⟨?_, ?_⟩ <;> omega), ?_⟩
          refine ⟨_, _, rfl, (by refine ⟨?_, ?_⟩ <;> omega), ?_⟩
          refine ⟨_, (rw52 (by omega)), (by refine ⟨?_, ?_⟩ <;> omega), ?_⟩
          refine ⟨rfl, trivial, ?_⟩
          exact h2 hok
theorem ix6 {a b : Int32} (ha : 0 ≤ a.toInt ∧ a.toInt < 6) (hb : 0 ≤ b.toInt ∧ b.toInt < 6) : (6 * a + b).toInt = 6 * a.toInt + b.toInt := by
  simp only [Int32.toInt_add, Int32.toInt_mul, Int32.reduceToInt, Int.bmod]
  omega
theorem i6 {a b : Int32} (ha : 0 ≤ a.toInt ∧ a.toInt < 6) (hb : 0 ≤ b.toInt ∧ b.toInt < 6) : (6 * a + b).toInt.toNat = 6 * a.toInt.toNat + b.toInt.toNat := by
  rw [ix6 ha hb]
  omega
theorem i6x {a b : Int32} (ha : 0 ≤ a.toInt ∧ a.toInt < 6) (hb : 0 ≤ b.toInt ∧ b.toInt < 6) : ixs (6 * a + b) 36 := by
  unfold ixs
  rw [ix6 ha hb]
  omega
theorem ms_join {d : Nat} {σ : Mm} {Q : Qt} {a b o : Int32} (h0 : 0 ≤ (σ 88 51).toInt) (h6 : (σ 88 51).toInt ≤ 6) (hb : ((0 ≤ a.toInt ∧ a.toInt < (σ 88 51).toInt) ∧ (0 ≤ b.toInt ∧ b.toInt < (σ 88 51).toInt) ∧ a.toInt ≠ b.toInt ∧ (0 ≤ o.toInt ∧ o.toInt ≤ 1)) → (σ 125 (6 * a.toInt.toNat + b.toInt.toNat)).toInt = 0 ∨ (σ 125 (6 * a.toInt.toNat + b.toInt.toNat)).toInt = 1) (h1 : ¬ ((0 ≤ a.toInt ∧ a.toInt < (σ 88 51).toInt) ∧ (0 ≤ b.toInt ∧ b.toInt < (σ 88 51).toInt) ∧ a.toInt ≠ b.toInt ∧ (0 ≤ o.toInt ∧ o.toInt ≤ 1)) → Q (some (.int (-1000000001))) σ) (h2 : ((0 ≤ a.toInt ∧ a.toInt < (σ 88 51).toInt) ∧ (0 ≤ b.toInt ∧ b.toInt < (σ 88 51).toInt) ∧ a.toInt ≠ b.toInt ∧ (0 ≤ o.toInt ∧ o.toInt ≤ 1)) → Q (some (.int (σ 125 (6 * a.toInt.toNat + b.toInt.toNat)))) (wr (wr σ 125 (6 * a.toInt.toNat + b.toInt.toNat) o) 125 (6 * b.toInt.toNat + a.toInt.toNat) o)) : Call (d + 3) k_X12_join [.ref 88, .int a, .int b, .int o] σ Q := by
  refine Call_st 120 fun X hX => ?_
  refine ⟨rfl, rfl, ?_⟩
  refine m_isPromotion (by omega) ?_
  refine ⟨fun c5 => ?_, fun c5 => ?_⟩
  · replace c5 := bI_z c5
    refine ⟨rfl, trivial, ?_⟩
    exact h1 (by (first | omega | (simp only [Int32.reduceToInt] at c5 ⊢; omega)))
  · replace c5 := bI_nz c5
    refine ⟨rfl, rfl, ?_⟩
    refine m_isPromotion (by omega) ?_
    refine ⟨fun c13 => ?_, fun c13 => ?_⟩
    · replace c13 := bI_z c13
      refine ⟨rfl, trivial, ?_⟩
      exact h1 (by (first | omega | (simp only [Int32.reduceToInt] at c5 c13 ⊢; omega)))
    · replace c13 := bI_nz c13
      refine ⟨fun c18 => ?_, fun c18 => ?_⟩
      · refine ⟨rfl, trivial, ?_⟩
        exact h1 (by (first | omega | (simp only [Int32.reduceToInt] at c5 c13 c18 ⊢; omega)))
      · refine ⟨rfl, ?_⟩
        refine m_isInK (l := 0) (h := 1) (by decide) (by decide) ?_
        refine ⟨fun c27 => ?_, fun c27 => ?_⟩
        · replace c27 := bI_z c27
          refine ⟨rfl, trivial, ?_⟩
          exact h1 (by (first | omega | (simp only [Int32.reduceToInt] at c5 c13 c18 c27 ⊢; omega)))
        · replace c27 := bI_nz c27
          have hok : ((0 ≤ a.toInt ∧ a.toInt < (σ 88 51).toInt) ∧ (0 ≤ b.toInt ∧ b.toInt < (σ 88 51).toInt) ∧ a.toInt ≠ b.toInt ∧ (0 ≤ o.toInt ∧ o.toInt ≤ 1)) := by (first | omega | (simp only [Int32.reduceToInt] at c5 c13 c18 c27 ⊢; omega))
          refine ⟨_, _, rfl, (i6x (by omega) (by omega)), ?_⟩
          refine ⟨fun c44 => ?_, fun c44 => ?_⟩
          · refine ⟨fun c66 => ?_, fun c66 => ?_⟩
            · refine ⟨(i6x (by omega) (by omega)), Or.inr rfl, ?_⟩
              refine ⟨fun c87 => ?_, fun c87 => ?_⟩
              · refine ⟨(i6x (by omega) (by omega)), Or.inr rfl, ?_⟩
                refine ⟨rfl, trivial, ?_⟩
                have eo : o = 1 := iX (by (first | omega | (simp only [Int32.reduceToInt] at c5 c13 c18 c27 c44 c66 c87 ⊢; omega)))
                have hb0 := hb hok
                have ei : (6 * a + b).toInt.toNat = 6 * a.toInt.toNat + b.toInt.toNat := i6 (by omega) (by omega)
                have ej : (6 * b + a).toInt.toNat = 6 * b.toInt.toNat + a.toInt.toNat := i6 (by omega) (by omega)
                rw [ei] at c44
                refine Qe (h2 hok) (vI_ (iX ?_)) ?_
                · first | (simp only [Int32.reduceToInt]; omega) | omega
                · rw [ei, ej, eo]
              · refine ⟨(i6x (by omega) (by omega)), Or.inl rfl, ?_⟩
                refine ⟨rfl, trivial, ?_⟩
                exfalso; (first | omega | (simp only [Int32.reduceToInt] at c5 c13 c18 c27 c44 c66 c87 ⊢; omega))
            · refine ⟨(i6x (by omega) (by omega)), Or.inl rfl, ?_⟩
              refine ⟨fun c87 => ?_, fun c87 => ?_⟩
              · refine ⟨(i6x (by omega) (by omega)), Or.inr rfl, ?_⟩
                refine ⟨rfl, trivial, ?_⟩
                exfalso; (first | omega | (simp only [Int32.reduceToInt] at c5 c13 c18 c27 c44 c66 c87 ⊢; omega))
              · refine ⟨(i6x (by omega) (by omega)), Or.inl rfl, ?_⟩
                refine ⟨rfl, trivial, ?_⟩
                have eo : o = 0 := iX (by (first | omega | (simp only [Int32.reduceToInt] at c5 c13 c18 c27 c44 c66 c87 ⊢; omega)))
                have hb0 := hb hok
                have ei : (6 * a + b).toInt.toNat = 6 * a.toInt.toNat + b.toInt.toNat := i6 (by omega) (by omega)
                have ej : (6 * b + a).toInt.toNat = 6 * b.toInt.toNat + a.toInt.toNat := i6 (by omega) (by omega)
                rw [ei] at c44
                refine Qe (h2 hok) (vI_ (iX ?_)) ?_
                · first | (simp only [Int32.reduceToInt]; omega) | omega
                · rw [ei, ej, eo]
          · refine ⟨fun c66 => ?_, fun c66 => ?_⟩
            · refine ⟨(i6x (by omega) (by omega)), Or.inr rfl, ?_⟩
              refine ⟨fun c87 => ?_, fun c87 => ?_⟩
              · refine ⟨(i6x (by omega) (by omega)), Or.inr rfl, ?_⟩
                refine ⟨rfl, trivial, ?_⟩
                have eo : o = 1 := iX (by (first | omega | (simp only [Int32.reduceToInt] at c5 c13 c18 c27 c44 c66 c87 ⊢; omega)))
                have hb0 := hb hok
                have ei : (6 * a + b).toInt.toNat = 6 * a.toInt.toNat + b.toInt.toNat := i6 (by omega) (by omega)
                have ej : (6 * b + a).toInt.toNat = 6 * b.toInt.toNat + a.toInt.toNat := i6 (by omega) (by omega)
                rw [ei] at c44
                refine Qe (h2 hok) (vI_ (iX ?_)) ?_
                · first | (simp only [Int32.reduceToInt]; omega) | omega
                · rw [ei, ej, eo]
              · refine ⟨(i6x (by omega) (by omega)), Or.inl rfl, ?_⟩
                refine ⟨rfl, trivial, ?_⟩
                exfalso; (first | omega | (simp only [Int32.reduceToInt] at c5 c13 c18 c27 c44 c66 c87 ⊢; omega))
            · refine ⟨(i6x (by omega) (by omega)), Or.inl rfl, ?_⟩
              refine ⟨fun c87 => ?_, fun c87 => ?_⟩
              · refine ⟨(i6x (by omega) (by omega)), Or.inr rfl, ?_⟩
                refine ⟨rfl, trivial, ?_⟩
                exfalso; (first | omega | (simp only [Int32.reduceToInt] at c5 c13 c18 c27 c44 c66 c87 ⊢; omega))
              · refine ⟨(i6x (by omega) (by omega)), Or.inl rfl, ?_⟩
                refine ⟨rfl, trivial, ?_⟩
                have eo : o = 0 := iX (by (first | omega | (simp only [Int32.reduceToInt] at c5 c13 c18 c27 c44 c66 c87 ⊢; omega)))
                have hb0 := hb hok
                have ei : (6 * a + b).toInt.toNat = 6 * a.toInt.toNat + b.toInt.toNat := i6 (by omega) (by omega)
                have ej : (6 * b + a).toInt.toNat = 6 * b.toInt.toNat + a.toInt.toNat := i6 (by omega) (by omega)
                rw [ei] at c44
                refine Qe (h2 hok) (vI_ (iX ?_)) ?_
                · first | (simp only [Int32.reduceToInt]; omega) | omega
                · rw [ei, ej, eo]
theorem joinR_at {σ : Mm} {a : Nat} (h : a < 6) : joinR (σ 52) (σ 53) (σ 54) (σ 55) (σ 56) (σ 57) a = σ (52 + a) := by
  rcases (show a = 0 ∨ a = 1 ∨ a = 2 ∨ a = 3 ∨ a = 4 ∨ a = 5 by omega) with rfl | rfl | rfl | rfl | rfl | rfl <;> rfl
theorem joinI_iff {σ : Mm} : joinI (σ 125) (σ 52) (σ 53) (σ 54) (σ 55) (σ 56) (σ 57) ↔ ∀ a b : Nat, a < 6 → b < 6 → σ 125 (6 * a + b) = σ (52 + a) b ∧ σ (52 + a) b = σ (52 + b) a ∧ ((σ (52 + a) b).toInt = 0 ∨ (σ (52 + a) b).toInt = 1) ∧ (σ (52 + a) a).toInt = 0 := by
  constructor
  · intro h a b ha hb
    have := h a b ha hb
    rw [joinR_at ha, joinR_at hb] at this
    exact this
  · intro h a b ha hb
    rw [joinR_at ha, joinR_at hb]
    exact h a b ha hb
theorem ag_jo {L : List Nat} {σ τ : Mm} {a : Nat} {i : Nat} {x : Int32} (h : Ag L σ τ) (ha : a < 6) (hL : ([52, 53, 54, 55, 56, 57] : List Nat).all (fun k => cu L k) = true) : Ag L σ (wr τ (52 + a) i x) := by
  have q := List.all_eq_true.mp hL
  rcases (show a = 0 ∨ a = 1 ∨ a = 2 ∨ a = 3 ∨ a = 4 ∨ a = 5 by omega) with rfl | rfl | rfl | rfl | rfl | rfl
  · exact Ag.wr h (q 52 (by decide))
  · exact Ag.wr h (q 53 (by decide))
  · exact Ag.wr h (q 54 (by decide))
  · exact Ag.wr h (q 55 (by decide))
  · exact Ag.wr h (q 56 (by decide))
  · exact Ag.wr h (q 57 (by decide))
theorem Inv_jo {σ τ : Mm} (hI : Inv σ) (h : Ag [52, 53, 54, 55, 56, 57, 125] σ τ) (nI_ba : I_ba τ) : Inv τ := ⟨(I_tr_fr (σ := σ) (h 2 rfl) (h 89 rfl) (congrFun (h 1 rfl) 0) (congrFun (h 1 rfl) 1) (congrFun (h 1 rfl) 2) (congrFun (h 88 rfl) 0) (congrFun (h 88 rfl) 1) (congrFun (h 88 rfl) 2) hI.1),
  (I_vo_fr (σ := σ) (h 4 rfl) (h 5 rfl) (h 6 rfl) (h 7 rfl) (h 8 rfl) (h 9 rfl) (h 90 rfl) (h 91 rfl) (h 92 rfl) (h 93 rfl) (h 94 rfl) (h 95 rfl) (congrFun (h 3 rfl) 0) (congrFun (h 88 rfl) 4) (congrFun (h 1 rfl) 1) hI.2.1),
  (I_li_fr (σ := σ) (h 9 rfl) (h 11 rfl) (h 12 rfl) (h 13 rfl) (h 14 rfl) (h 15 rfl) (h 16 rfl) (h 17 rfl) (h 96 rfl) (h 97 rfl) (h 98 rfl) (h 99 rfl) (h 100 rfl) (h 101 rfl) (h 102 rfl) (congrFun (h 10 rfl) 0) (congrFun (h 10 rfl) 1) (congrFun (h 88 rfl) 11) (congrFun (h 1 rfl) 0) (congrFun (h 1 rfl) 2) (congrFun (h 3 rfl) 0) hI.2.2.1),
  (I_or_fr (σ := σ) (h 13 rfl) (h 18 rfl) (congrFun (h 10 rfl) 0) hI.2.2.2.1),
  (I_ta_fr (σ := σ) (h 30 rfl) (h 118 rfl) (congrFun (h 0 rfl) 5) (congrFun (h 88 rfl) 36) hI.2.2.2.2.1),
  nI_ba,
  (I_ex_fr (σ := σ) (h 73 rfl) (h 74 rfl) (h 75 rfl) (h 76 rfl) (h 77 rfl) (h 131 rfl) (h 132 rfl) (h 133 rfl) (h 134 rfl) (congrFun (h 71 rfl) 0) (congrFun (h 88 rfl) 65) hI.2.2.2.2.2.2.1),
  (I_gu_fr (σ := σ) (h 79 rfl) (h 80 rfl) (h 81 rfl) (h 136 rfl) (h 137 rfl) (h 138 rfl) (congrFun (h 78 rfl) 0) (congrFun (h 78 rfl) 1) (congrFun (h 88 rfl) 71) (congrFun (h 88 rfl) 72) hI.2.2.2.2.2.2.2.1),
  (I_sh_fr (σ := σ) (h 83 rfl) (h 85 rfl) (h 86 rfl) (h 103 rfl) (h 104 rfl) hI.2.2.2.2.2.2.2.2.1),
  (I_wa_fr (σ := σ) (h 87 rfl) (h 130 rfl) (congrFun (h 0 rfl) 14) (congrFun (h 88 rfl) 64) hI.2.2.2.2.2.2.2.2.2.1),
  (I_la_fr (σ := σ) (h 20 rfl) (h 22 rfl) (h 23 rfl) (h 24 rfl) (h 26 rfl) (h 27 rfl) (h 28 rfl) (h 110 rfl) (h 111 rfl) (h 112 rfl) (h 113 rfl) hI.2.2.2.2.2.2.2.2.2.2.1),
  (I_he_fr (σ := σ) (h 119 rfl) hI.2.2.2.2.2.2.2.2.2.2.2)⟩
theorem c_join_ba {σ σ' : Mm} {r52 r53 r54 r55 r56 r57 r125 : Nat → Int32} (e46 : σ' 46 = σ 46) (e47 : σ' 47 = σ 47) (e48 : σ' 48 = σ 48) (e49 : σ' 49 = σ 49) (e50 : σ' 50 = σ 50) (e120 : σ' 120 = σ 120) (e121 : σ' 121 = σ 121) (e122 : σ' 122 = σ 122) (e123 : σ' 123 = σ 123) (e124 : σ' 124 = σ 124) (e52 : σ' 52 = r52) (e53 : σ' 53 = r53) (e54 : σ' 54 = r54) (e55 : σ' 55 = r55) (e56 : σ' 56 = r56) (e57 : σ' 57 = r57) (e125 : σ' 125 = r125) (p45_0 : σ' 45 0 = σ 45 0) (p45_3 : σ' 45 3 = σ 45 3) (p88_48 : σ' 88 48 = σ 88 48) (p88_51 : σ' 88 51 = σ 88 51) (h : I_ba σ) (hj : joinI r125 r52 r53 r54 r55 r56 r57) : I_ba σ' := by
  unfold I_ba
  simp only [e46, e47, e48, e49, e50, e120, e121, e122, e123, e124, e52, e53, e54, e55, e56, e57, e125, p45_0, p45_3, p88_48, p88_51]
  obtain ⟨a, b, c, d, e, _⟩ := h
  exact ⟨a, b, c, d, e, hj⟩
theorem ba_jo {σ τ : Mm} (h : I_ba σ) (hA : Ag [52, 53, 54, 55, 56, 57, 125] σ τ) (hj : joinI (τ 125) (τ 52) (τ 53) (τ 54) (τ 55) (τ 56) (τ 57)) : I_ba τ := (c_join_ba (σ := σ) (hA 46 rfl) (hA 47 rfl) (hA 48 rfl) (hA 49 rfl) (hA 50 rfl) (hA 120 rfl) (hA 121 rfl) (hA 122 rfl) (hA 123 rfl) (hA 124 rfl) rfl rfl rfl rfl rfl rfl rfl (congrFun (hA 45 rfl) 0) (congrFun (hA 45 rfl) 3) (congrFun (hA 88 rfl) 48) (congrFun (hA 88 rfl) 51) h hj)
theorem jo_rd {σ : Mm} {A B x y : Nat} {o : Int32} (hA : A < 6) (hB : B < 6) (hx : x < 6) (hne : A ≠ B) : wr (wr (wr (wr σ (52 + A) B o) (52 + B) A o) 125 (6 * A + B) o) 125 (6 * B + A) o (52 + x) y = if x = A ∧ y = B ∨ x = B ∧ y = A then o else σ (52 + x) y := by
  rw [wr_c (by omega), wr_c (by omega)]
  by_cases q : x = B
  · rw [q, wr_k, wr_c (by omega)]
    unfold upd
    by_cases r : y = A
    · rw [if_pos r, if_pos (Or.inr ⟨rfl, r⟩)]
    · rw [if_neg r, if_neg (by omega)]
  · rw [wr_c (by omega)]
    by_cases r : x = A
    · rw [r, wr_k]
      unfold upd
      by_cases s : y = B
      · rw [if_pos s, if_pos (Or.inl ⟨rfl, s⟩)]
      · rw [if_neg s, if_neg (by omega)]
    · rw [wr_c (by omega), if_neg (by omega)]
theorem jo_rm {σ : Mm} {A B x y : Nat} {o : Int32} (hA : A < 6) (hB : B < 6) (hx : x < 6) (hy : y < 6) (hne : A ≠ B) : wr (wr (wr (wr σ (52 + A) B o) (52 + B) A o) 125 (6 * A + B) o) 125 (6 * B + A) o 125 (6 * x + y) = if x = A ∧ y = B ∨ x = B ∧ y = A then o else σ 125 (6 * x + y) := by
  rw [wr_k, wr_k, wr_c (by omega), wr_c (by omega)]
  unfold upd
  by_cases q : x = B ∧ y = A
  · rw [if_pos (by omega), if_pos (Or.inr q)]
  · rw [if_neg (by omega)]
    by_cases r : x = A ∧ y = B
    · rw [if_pos (by omega), if_pos (Or.inl r)]
    · rw [if_neg (by omega), if_neg (by omega)]
theorem op_join {σ : Mm} {a b o : Int32} (hI : Inv σ) : Call 120 k_X11_join [.ref 0, .int a, .int b, .int o] σ (fun r τ => Call 120 k_X12_join [.ref 88, .int a, .int b, .int o] τ (fun r' τ' => (∃ x : Int32, r = some (.int x) ∧ r' = some (.int x)) ∧ Inv τ')) := by
  have hba := hI.2.2.2.2.2.1
  obtain ⟨⟨b0, b1, b2, b3, b4, b5, b6⟩, ⟨b7, b8⟩, ⟨b9, b10⟩, b11, b12, b13⟩ := id hba
  have hj := joinI_iff.mp b13
  have qp : (σ 88 51).toInt = (σ 45 3).toInt := by rw [b1]
  refine cs_join b10 (fun c => ?_) (fun c => ?_)
  · refine ms_join (by omega) (by omega) (fun q => absurd q (by omega)) (fun _ => ⟨⟨_, rfl, rfl⟩, hI⟩) (fun q => absurd q (by omega))
  · have hA : a.toInt.toNat < 6 := by omega
    have hB : b.toInt.toNat < 6 := by omega
    have hne : a.toInt.toNat ≠ b.toInt.toNat := by omega
    have ho : o.toInt = 0 ∨ o.toInt = 1 := by omega
    generalize hτ : wr (wr σ (52 + a.toInt.toNat) b.toInt.toNat o) (52 + b.toInt.toNat) a.toInt.toNat o = τ
    have f88 : τ 88 = σ 88 := by rw [← hτ, wr_c (by omega), wr_c (by omega)]
    have f125 : τ 125 = σ 125 := by rw [← hτ, wr_c (by omega), wr_c (by omega)]
    have qτ : (τ 88 51).toInt = (σ 45 3).toInt := by rw [f88, b1]
    refine ms_join (by omega) (by omega) (fun _ => ?_) (fun q => absurd (by omega) q) (fun _ => ⟨⟨_, rfl, vI_ ?_⟩, ?_⟩)
    · rw [f125, (hj _ _ hA hB).1]
      exact (hj _ _ hA hB).2.2.1
    · rw [f125]
      exact (hj _ _ hA hB).1
    · rw [← hτ]
      generalize a.toInt.toNat = A at *
      generalize b.toInt.toNat = B at *
      have hAg : Ag [52, 53, 54, 55, 56, 57, 125] σ (wr (wr (wr (wr σ (52 + A) B o) (52 + B) A o) 125 (6 * A + B) o) 125 (6 * B + A) o) := Ag.wr (Ag.wr (ag_jo (ag_jo Ag.rf hA rfl) hB rfl) rfl) rfl
      refine Inv_jo hI hAg (ba_jo hba hAg (joinI_iff.mpr fun x y hx hy => ?_))
      rw [jo_rd hA hB hx hne, jo_rd hA hB hy hne, jo_rd hA hB hx hne, jo_rm hA hB hx hy hne]
      obtain ⟨k1, k2, k3, k4⟩ := hj x y hx hy
      refine ⟨by rw [k1], ?_, ?_, ?_⟩
      · by_cases q : x = A ∧ y = B ∨ x = B ∧ y = A
        · rw [if_pos q, if_pos (by omega)]
        · rw [if_neg q, if_neg (by omega)]
          exact k2
      · split
        · exact ho
        · exact k3
      · rw [if_neg (by omega)]
        exact k4
