theorem c_days_tr {σ σ' : Mm} {n : Int32} (e2 : σ' 2 = σ 2) (e89 : σ' 89 = σ 89) (p1_0 : σ' 1 0 = σ 1 0 + n) (p1_1 : σ' 1 1 = σ 1 1) (p1_2 : σ' 1 2 = σ 1 2) (p88_0 : σ' 88 0 = σ 88 0 + n) (p88_1 : σ' 88 1 = σ 88 1) (p88_2 : σ' 88 2 = σ 88 2) (h : I_tr σ) (h1 : 1 ≤ n.toInt ∧ n.toInt ≤ 100) (h2 : (σ 1 0 + n).toInt ≤ 900) : I_tr σ' := by
  unfold I_tr
  simp only [e2, e89, p1_0, p1_1, p1_2, p88_0, p88_1, p88_2]
  obtain ⟨⟨t0, t1, t2, t3⟩, ⟨t4, t5⟩, t6⟩ := h
  refine ⟨⟨by rw [t0], t1, t2, t3⟩, ⟨?_, h2⟩, t6⟩
  simp only [Int32.toInt_add, Int.bmod] at *
  omega
theorem c_days_li {σ σ' : Mm} {n : Int32} (e9 : σ' 9 = σ 9) (e11 : σ' 11 = σ 11) (e12 : σ' 12 = σ 12) (e13 : σ' 13 = σ 13) (e14 : σ' 14 = σ 14) (e15 : σ' 15 = σ 15) (e16 : σ' 16 = σ 16) (e17 : σ' 17 = σ 17) (e96 : σ' 96 = σ 96) (e97 : σ' 97 = σ 97) (e98 : σ' 98 = σ 98) (e99 : σ' 99 = σ 99) (e100 : σ' 100 = σ 100) (e101 : σ' 101 = σ 101) (e102 : σ' 102 = σ 102) (p10_0 : σ' 10 0 = σ 10 0) (p10_1 : σ' 10 1 = σ 10 1) (p88_11 : σ' 88 11 = σ 88 11) (p1_0 : σ' 1 0 = σ 1 0 + n) (p1_2 : σ' 1 2 = σ 1 2) (p3_0 : σ' 3 0 = σ 3 0) (h : I_li σ) (h0 : (σ 1 0).toInt ≤ (σ 1 0 + n).toInt) : I_li σ' := by
  unfold I_li
  simp only [e9, e11, e12, e13, e14, e15, e16, e17, e96, e97, e98, e99, e100, e101, e102, p10_0, p10_1, p88_11, p1_0, p1_2, p3_0]
  obtain ⟨l0, l6, l8, l9⟩ := h
  refine ⟨l0, l6, l8, fun i hi => ?_⟩
  obtain ⟨a1, a2, a3, a4, a5, a6, a7, a8⟩ := l9 i hi
  refine ⟨a1, a2, ⟨a3.1, Int.le_trans a3.2 h0⟩, ⟨a4.1, Int.le_trans a4.2 h0⟩, ?_, a6, a7, a8⟩
  rcases a5 with h | ⟨h1, h2, h3⟩
  · exact Or.inl h
  · exact Or.inr ⟨h1, h2, Int.le_trans h3 h0⟩
theorem op_days {σ : Mm} {n : Int32} (hI : Inv σ) : Call 120 k_X11_days [.ref 0, .int n] σ (fun r τ => Call 120 k_X12_days [.ref 88, .int n] τ (fun r' τ' => (∃ x : Int32, r = some (.int x) ∧ r' = some (.int x)) ∧ Inv τ')) := by
  obtain ⟨⟨t0, t1, t2, t3⟩, ⟨t4, t5⟩, ⟨t6, t7⟩, ⟨t8, t9⟩, t10⟩ := id (hI.1)
  have qtoday : (σ 88 0).toInt = (σ 1 0).toInt := by rw [t0]
  refine Call_st 200 fun X hX => ?_
  refine ⟨rfl, ?_⟩
  refine s_within ?_
  refine ⟨fun c7 => ?_, fun c7 => ?_⟩
  · replace c7 := bI_z c7
    refine ⟨rfl, trivial, ?_⟩
    refine Call_st 200 fun Y hY => ?_
    refine ⟨rfl, ?_⟩
    refine m_isIn ?_
    refine ⟨fun m7 => ?_, fun m7 => ?_⟩
    · replace m7 := bI_z m7
      refine ⟨rfl, trivial, ?_⟩
      first | exact ⟨⟨_, rfl, rfl⟩, hI⟩ | (exfalso; (first | omega | (simp only [Int32.reduceToInt, Int32.toInt_add, Int32.toInt_sub, Int.bmod] at c7 m7 ⊢; omega)))
    · replace m7 := bI_nz m7
      refine ⟨fun m19 => ?_, fun m19 => ?_⟩
      · refine ⟨rfl, trivial, ?_⟩
        first | exact ⟨⟨_, rfl, rfl⟩, hI⟩ | (exfalso; (first | omega | (simp only [Int32.reduceToInt, Int32.toInt_add, Int32.toInt_sub, Int.bmod] at c7 m7 m19 ⊢; omega)))
      · refine ⟨rfl, trivial, ?_⟩
        first | exact ⟨⟨_, rfl, rfl⟩, hI⟩ | (exfalso; (first | omega | (simp only [Int32.reduceToInt, Int32.toInt_add, Int32.toInt_sub, Int.bmod] at c7 m7 m19 ⊢; omega)))
  · replace c7 := bI_nz c7
    refine ⟨fun c22 => ?_, fun c22 => ?_⟩
    · refine ⟨rfl, trivial, ?_⟩
      refine Call_st 200 fun Y hY => ?_
      refine ⟨rfl, ?_⟩
      refine m_isIn ?_
      refine ⟨fun m7 => ?_, fun m7 => ?_⟩
      · replace m7 := bI_z m7
        refine ⟨rfl, trivial, ?_⟩
        first | exact ⟨⟨_, rfl, rfl⟩, hI⟩ | (exfalso; (first | omega | (simp only [Int32.reduceToInt, Int32.toInt_add, Int32.toInt_sub, Int.bmod] at c7 c22 m7 ⊢; omega)))
      · replace m7 := bI_nz m7
        refine ⟨fun m19 => ?_, fun m19 => ?_⟩
        · refine ⟨rfl, trivial, ?_⟩
          first | exact ⟨⟨_, rfl, rfl⟩, hI⟩ | (exfalso; (first | omega | (simp only [Int32.reduceToInt, Int32.toInt_add, Int32.toInt_sub, Int.bmod] at c7 c22 m7 m19 ⊢; omega)))
        · refine ⟨rfl, trivial, ?_⟩
          first | exact ⟨⟨_, rfl, rfl⟩, hI⟩ | (exfalso; (first | omega | (simp only [Int32.reduceToInt, Int32.toInt_add, Int32.toInt_sub, Int.bmod] at c7 c22 m7 m19 ⊢; omega)))
    · refine ⟨rfl, trivial, ?_⟩
      refine nxt fun τ hτ => ?_
      have e88 : τ 88 = σ 88 := by rw [hτ]; rfl
      have qτtoday : (τ 88 0).toInt = (σ 1 0).toInt := by rw [e88, t0]
      refine Call_st 200 fun Y hY => ?_
      refine ⟨rfl, ?_⟩
      refine m_isIn ?_
      refine ⟨fun m7 => ?_, fun m7 => ?_⟩
      · replace m7 := bI_z m7
        refine ⟨rfl, trivial, ?_⟩
        first
        | (exfalso; (first | omega | (simp only [Int32.reduceToInt, Int32.toInt_add, Int32.toInt_sub, Int.bmod] at c7 c22 m7 ⊢; omega)); done)
        | (have z1 : 1 ≤ n.toInt ∧ n.toInt ≤ 100 := by (first | omega | (simp only [Int32.reduceToInt] at c7 c22 m7 ⊢; omega))
           have z2 : (σ 1 0 + n).toInt ≤ 900 := by (first | omega | (simp only [Int32.reduceToInt] at c7 c22 m7 ⊢; omega))
           have z3 : (σ 1 0).toInt ≤ (σ 1 0 + n).toInt := by simp only [Int32.toInt_add, Int.bmod]; omega
           subst hτ
           refine ⟨⟨σ 1 0 + n, rfl, vI_ (congrArg (· + n) t0)⟩, ⟨(c_days_tr (σ := σ) rfl rfl rfl rfl rfl rfl rfl rfl hI.1 z1 z2), (I_vo_fr (σ := σ) rfl rfl rfl rfl rfl rfl rfl rfl rfl rfl rfl rfl rfl rfl rfl hI.2.1), (c_days_li (σ := σ) rfl rfl rfl rfl rfl rfl rfl rfl rfl rfl rfl rfl rfl rfl rfl rfl rfl rfl rfl rfl rfl hI.2.2.1 z3), (I_or_fr (σ := σ) rfl rfl rfl hI.2.2.2.1), (I_ta_fr (σ := σ) rfl rfl rfl rfl hI.2.2.2.2.1), (I_ba_fr (σ := σ) rfl rfl rfl rfl rfl rfl rfl rfl rfl rfl rfl rfl rfl rfl rfl rfl rfl rfl rfl rfl rfl hI.2.2.2.2.2.1), (I_ex_fr (σ := σ) rfl rfl rfl rfl rfl rfl rfl rfl rfl rfl rfl hI.2.2.2.2.2.2.1), (I_gu_fr (σ := σ) rfl rfl rfl rfl rfl rfl rfl rfl rfl rfl hI.2.2.2.2.2.2.2.1), (I_sh_fr (σ := σ) rfl rfl rfl rfl rfl hI.2.2.2.2.2.2.2.2.1), (I_wa_fr (σ := σ) rfl rfl rfl rfl hI.2.2.2.2.2.2.2.2.2.1), (I_la_fr (σ := σ) rfl rfl rfl rfl rfl rfl rfl rfl rfl rfl rfl hI.2.2.2.2.2.2.2.2.2.2.1), (I_he_fr (σ := σ) rfl hI.2.2.2.2.2.2.2.2.2.2.2)⟩⟩)
      · replace m7 := bI_nz m7
        refine ⟨fun m19 => ?_, fun m19 => ?_⟩
        · refine ⟨rfl, trivial, ?_⟩
          first
          | (exfalso; (first | omega | (simp only [Int32.reduceToInt, Int32.toInt_add, Int32.toInt_sub, Int.bmod] at c7 c22 m7 m19 ⊢; omega)); done)
          | (have z1 : 1 ≤ n.toInt ∧ n.toInt ≤ 100 := by (first | omega | (simp only [Int32.reduceToInt] at c7 c22 m7 m19 ⊢; omega))
             have z2 : (σ 1 0 + n).toInt ≤ 900 := by (first | omega | (simp only [Int32.reduceToInt] at c7 c22 m7 m19 ⊢; omega))
             have z3 : (σ 1 0).toInt ≤ (σ 1 0 + n).toInt := by simp only [Int32.toInt_add, Int.bmod]; omega
             subst hτ
             refine ⟨⟨σ 1 0 + n, rfl, vI_ (congrArg (· + n) t0)⟩, ⟨(c_days_tr (σ := σ) rfl rfl rfl rfl rfl rfl rfl rfl hI.1 z1 z2), (I_vo_fr (σ := σ) rfl rfl rfl rfl rfl rfl rfl rfl rfl rfl rfl rfl rfl rfl rfl hI.2.1), (c_days_li (σ := σ) rfl rfl rfl rfl rfl rfl rfl rfl rfl rfl rfl rfl rfl rfl rfl rfl rfl rfl rfl rfl rfl hI.2.2.1 z3), (I_or_fr (σ := σ) rfl rfl rfl hI.2.2.2.1), (I_ta_fr (σ := σ) rfl rfl rfl rfl hI.2.2.2.2.1), (I_ba_fr (σ := σ) rfl rfl rfl rfl rfl rfl rfl rfl rfl rfl rfl rfl rfl rfl rfl rfl rfl rfl rfl rfl rfl hI.2.2.2.2.2.1), (I_ex_fr (σ := σ) rfl rfl rfl rfl rfl rfl rfl rfl rfl rfl rfl hI.2.2.2.2.2.2.1), (I_gu_fr (σ := σ) rfl rfl rfl rfl rfl rfl rfl rfl rfl rfl hI.2.2.2.2.2.2.2.1), (I_sh_fr (σ := σ) rfl rfl rfl rfl rfl hI.2.2.2.2.2.2.2.2.1), (I_wa_fr (σ := σ) rfl rfl rfl rfl hI.2.2.2.2.2.2.2.2.2.1), (I_la_fr (σ := σ) rfl rfl rfl rfl rfl rfl rfl rfl rfl rfl rfl hI.2.2.2.2.2.2.2.2.2.2.1), (I_he_fr (σ := σ) rfl hI.2.2.2.2.2.2.2.2.2.2.2)⟩⟩)
        · refine ⟨rfl, trivial, ?_⟩
          first
          | (exfalso; (first | omega | (simp only [Int32.reduceToInt, Int32.toInt_add, Int32.toInt_sub, Int.bmod] at c7 c22 m7 m19 ⊢; omega)); done)
          | (have z1 : 1 ≤ n.toInt ∧ n.toInt ≤ 100 := by (first | omega | (simp only [Int32.reduceToInt] at c7 c22 m7 m19 ⊢; omega))
             have z2 : (σ 1 0 + n).toInt ≤ 900 := by (first | omega | (simp only [Int32.reduceToInt] at c7 c22 m7 m19 ⊢; omega))
             have z3 : (σ 1 0).toInt ≤ (σ 1 0 + n).toInt := by simp only [Int32.toInt_add, Int.bmod]; omega
             subst hτ
             refine ⟨⟨σ 1 0 + n, rfl, vI_ (congrArg (· + n) t0)⟩, ⟨(c_days_tr (σ := σ) rfl rfl rfl rfl rfl rfl rfl rfl hI.1 z1 z2), (I_vo_fr (σ := σ) rfl rfl rfl rfl rfl rfl rfl rfl rfl rfl rfl rfl rfl rfl rfl hI.2.1), (c_days_li (σ := σ) rfl rfl rfl rfl rfl rfl rfl rfl rfl rfl rfl rfl rfl rfl rfl rfl rfl rfl rfl rfl rfl hI.2.2.1 z3), (I_or_fr (σ := σ) rfl rfl rfl hI.2.2.2.1), (I_ta_fr (σ := σ) rfl rfl rfl rfl hI.2.2.2.2.1), (I_ba_fr (σ := σ) rfl rfl rfl rfl rfl rfl rfl rfl rfl rfl rfl rfl rfl rfl rfl rfl rfl rfl rfl rfl rfl hI.2.2.2.2.2.1), (I_ex_fr (σ := σ) rfl rfl rfl rfl rfl rfl rfl rfl rfl rfl rfl hI.2.2.2.2.2.2.1), (I_gu_fr (σ := σ) rfl rfl rfl rfl rfl rfl rfl rfl rfl rfl hI.2.2.2.2.2.2.2.1), (I_sh_fr (σ := σ) rfl rfl rfl rfl rfl hI.2.2.2.2.2.2.2.2.1), (I_wa_fr (σ := σ) rfl rfl rfl rfl hI.2.2.2.2.2.2.2.2.2.1), (I_la_fr (σ := σ) rfl rfl rfl rfl rfl rfl rfl rfl rfl rfl rfl hI.2.2.2.2.2.2.2.2.2.2.1), (I_he_fr (σ := σ) rfl hI.2.2.2.2.2.2.2.2.2.2.2)⟩⟩)
theorem op_isOf {σ : Mm} {a b : Int32} (hI : Inv σ) : Call 120 k_X11_isOf [.ref 0, .int a, .int b] σ (fun r τ => Call 120 k_X12_isOf [.ref 88, .int a, .int b] τ (fun r' τ' => (∃ x : Int32, r = some (.int x) ∧ r' = some (.int x)) ∧ Inv τ')) := by
  obtain ⟨⟨v0, v1, v2, v3, v4, v5, v6⟩, ⟨v7, v8⟩, v9⟩ := id (hI.2.1)
  have qvouchers : (σ 88 4).toInt = (σ 3 0).toInt := by rw [v0]
  refine Call_st 200 fun X hX => ?_
  refine ⟨rfl, rfl, ?_⟩
  refine s_vhas ?_
  refine ⟨fun c8 => ?_, fun c8 => ?_⟩
  · replace c8 := bI_z c8
    refine ⟨rfl, trivial, ?_⟩
    refine Call_st 200 fun Y hY => ?_
    refine ⟨rfl, rfl, ?_⟩
    refine m_isVoucher (by omega) ?_
    refine ⟨fun m5 => ?_, fun m5 => ?_⟩
    · replace m5 := bI_z m5
      refine ⟨rfl, trivial, ?_⟩
      first | exact ⟨⟨_, rfl, rfl⟩, hI⟩ | (exfalso; (first | omega | (simp only [Int32.reduceToInt, v1] at c8 m5 ⊢; omega)))
    · replace m5 := bI_nz m5
      refine ⟨rfl, ?_⟩
      refine m_isIn ?_
      refine ⟨fun m14 => ?_, fun m14 => ?_⟩
      · replace m14 := bI_z m14
        refine ⟨rfl, trivial, ?_⟩
        first | exact ⟨⟨_, rfl, rfl⟩, hI⟩ | (exfalso; (first | omega | (simp only [Int32.reduceToInt, v1] at c8 m5 m14 ⊢; omega)))
      · replace m14 := bI_nz m14
        refine ⟨fun m21 => ?_, fun m21 => ?_⟩
        · refine ⟨rfl, trivial, ?_⟩
          first | exact ⟨⟨_, rfl, rfl⟩, hI⟩ | (exfalso; (first | omega | (simp only [Int32.reduceToInt, v1] at c8 m5 m14 m21 ⊢; omega)))
        · refine ⟨_, _, rfl, (by refine ⟨?_, ?_⟩ <;> (first | omega | (simp only [Int32.reduceToInt, v1] at c8 m5 m14 m21 ⊢; omega))), ?_⟩
          refine ⟨fun m31 => ?_, fun m31 => ?_⟩
          · refine ⟨rfl, trivial, ?_⟩
            first | exact ⟨⟨_, rfl, rfl⟩, hI⟩ | (exfalso; (first | omega | (simp only [Int32.reduceToInt, v1] at c8 m5 m14 m21 m31 ⊢; omega)))
          · refine ⟨fun m36 => ?_, fun m36 => ?_⟩
            · refine ⟨_, _, rfl, (by refine ⟨?_, ?_⟩ <;> (first | omega | (simp only [Int32.reduceToInt, v1] at c8 m5 m14 m21 m31 m36 ⊢; omega))), ?_⟩
              refine ⟨fun m46 => ?_, fun m46 => ?_⟩
              · refine ⟨rfl, trivial, ?_⟩
                first | exact ⟨⟨_, rfl, rfl⟩, hI⟩ | (exfalso; (first | omega | (simp only [Int32.reduceToInt, v1] at c8 m5 m14 m21 m31 m36 m46 ⊢; omega)))
              · refine ⟨rfl, trivial, ?_⟩
                first | exact ⟨⟨_, rfl, rfl⟩, hI⟩ | (exfalso; (first | omega | (simp only [Int32.reduceToInt, v1] at c8 m5 m14 m21 m31 m36 m46 ⊢; omega)))
            · refine ⟨rfl, trivial, ?_⟩
              first | exact ⟨⟨_, rfl, rfl⟩, hI⟩ | (exfalso; (first | omega | (simp only [Int32.reduceToInt, v1] at c8 m5 m14 m21 m31 m36 ⊢; omega)))
  · replace c8 := bI_nz c8
    refine ⟨rfl, ?_⟩
    refine s_within ?_
    refine ⟨fun c17 => ?_, fun c17 => ?_⟩
    · replace c17 := bI_z c17
      refine ⟨rfl, trivial, ?_⟩
      refine Call_st 200 fun Y hY => ?_
      refine ⟨rfl, rfl, ?_⟩
      refine m_isVoucher (by omega) ?_
      refine ⟨fun m5 => ?_, fun m5 => ?_⟩
      · replace m5 := bI_z m5
        refine ⟨rfl, trivial, ?_⟩
        first | exact ⟨⟨_, rfl, rfl⟩, hI⟩ | (exfalso; (first | omega | (simp only [Int32.reduceToInt, v1] at c8 c17 m5 ⊢; omega)))
      · replace m5 := bI_nz m5
        refine ⟨rfl, ?_⟩
        refine m_isIn ?_
        refine ⟨fun m14 => ?_, fun m14 => ?_⟩
        · replace m14 := bI_z m14
          refine ⟨rfl, trivial, ?_⟩
          first | exact ⟨⟨_, rfl, rfl⟩, hI⟩ | (exfalso; (first | omega | (simp only [Int32.reduceToInt, v1] at c8 c17 m5 m14 ⊢; omega)))
        · replace m14 := bI_nz m14
          refine ⟨fun m21 => ?_, fun m21 => ?_⟩
          · refine ⟨rfl, trivial, ?_⟩
            first | exact ⟨⟨_, rfl, rfl⟩, hI⟩ | (exfalso; (first | omega | (simp only [Int32.reduceToInt, v1] at c8 c17 m5 m14 m21 ⊢; omega)))
          · refine ⟨_, _, rfl, (by refine ⟨?_, ?_⟩ <;> (first | omega | (simp only [Int32.reduceToInt, v1] at c8 c17 m5 m14 m21 ⊢; omega))), ?_⟩
            refine ⟨fun m31 => ?_, fun m31 => ?_⟩
            · refine ⟨rfl, trivial, ?_⟩
              first | exact ⟨⟨_, rfl, rfl⟩, hI⟩ | (exfalso; (first | omega | (simp only [Int32.reduceToInt, v1] at c8 c17 m5 m14 m21 m31 ⊢; omega)))
            · refine ⟨fun m36 => ?_, fun m36 => ?_⟩
              · refine ⟨_, _, rfl, (by refine ⟨?_, ?_⟩ <;> (first | omega | (simp only [Int32.reduceToInt, v1] at c8 c17 m5 m14 m21 m31 m36 ⊢; omega))), ?_⟩
                refine ⟨fun m46 => ?_, fun m46 => ?_⟩
                · refine ⟨rfl, trivial, ?_⟩
                  first | exact ⟨⟨_, rfl, rfl⟩, hI⟩ | (exfalso; (first | omega | (simp only [Int32.reduceToInt, v1] at c8 c17 m5 m14 m21 m31 m36 m46 ⊢; omega)))
                · refine ⟨rfl, trivial, ?_⟩
                  first | exact ⟨⟨_, rfl, rfl⟩, hI⟩ | (exfalso; (first | omega | (simp only [Int32.reduceToInt, v1] at c8 c17 m5 m14 m21 m31 m36 m46 ⊢; omega)))
              · refine ⟨rfl, trivial, ?_⟩
                first | exact ⟨⟨_, rfl, rfl⟩, hI⟩ | (exfalso; (first | omega | (simp only [Int32.reduceToInt, v1] at c8 c17 m5 m14 m21 m31 m36 ⊢; omega)))
    · replace c17 := bI_nz c17
      refine ⟨_, _, rfl, (by refine ⟨?_, ?_⟩ <;> (first | omega | (simp only [Int32.reduceToInt, v1] at c8 c17 ⊢; omega))), ?_⟩
      refine ⟨fun c34 => ?_, fun c34 => ?_⟩
      · refine ⟨rfl, trivial, ?_⟩
        refine Call_st 200 fun Y hY => ?_
        refine ⟨rfl, rfl, ?_⟩
        refine m_isVoucher (by omega) ?_
        refine ⟨fun m5 => ?_, fun m5 => ?_⟩
        · replace m5 := bI_z m5
          refine ⟨rfl, trivial, ?_⟩
          first | exact ⟨⟨_, rfl, rfl⟩, hI⟩ | (exfalso; (first | omega | (simp only [Int32.reduceToInt, v1] at c8 c17 c34 m5 ⊢; omega)))
        · replace m5 := bI_nz m5
          refine ⟨rfl, ?_⟩
          refine m_isIn ?_
          refine ⟨fun m14 => ?_, fun m14 => ?_⟩
          · replace m14 := bI_z m14
            refine ⟨rfl, trivial, ?_⟩
            first | exact ⟨⟨_, rfl, rfl⟩, hI⟩ | (exfalso; (first | omega | (simp only [Int32.reduceToInt, v1] at c8 c17 c34 m5 m14 ⊢; omega)))
          · replace m14 := bI_nz m14
            refine ⟨fun m21 => ?_, fun m21 => ?_⟩
            · refine ⟨rfl, trivial, ?_⟩
              first | exact ⟨⟨_, rfl, rfl⟩, hI⟩ | (exfalso; (first | omega | (simp only [Int32.reduceToInt, v1] at c8 c17 c34 m5 m14 m21 ⊢; omega)))
            · refine ⟨_, _, rfl, (by refine ⟨?_, ?_⟩ <;> (first | omega | (simp only [Int32.reduceToInt, v1] at c8 c17 c34 m5 m14 m21 ⊢; omega))), ?_⟩
              refine ⟨fun m31 => ?_, fun m31 => ?_⟩
              · refine ⟨rfl, trivial, ?_⟩
                first | exact ⟨⟨_, rfl, rfl⟩, hI⟩ | (exfalso; (first | omega | (simp only [Int32.reduceToInt, v1] at c8 c17 c34 m5 m14 m21 m31 ⊢; omega)))
              · refine ⟨fun m36 => ?_, fun m36 => ?_⟩
                · refine ⟨_, _, rfl, (by refine ⟨?_, ?_⟩ <;> (first | omega | (simp only [Int32.reduceToInt, v1] at c8 c17 c34 m5 m14 m21 m31 m36 ⊢; omega))), ?_⟩
                  refine ⟨fun m46 => ?_, fun m46 => ?_⟩
                  · refine ⟨rfl, trivial, ?_⟩
                    first | exact ⟨⟨_, rfl, rfl⟩, hI⟩ | (exfalso; (first | omega | (simp only [Int32.reduceToInt, v1] at c8 c17 c34 m5 m14 m21 m31 m36 m46 ⊢; omega)))
                  · refine ⟨rfl, trivial, ?_⟩
                    first | exact ⟨⟨_, rfl, rfl⟩, hI⟩ | (exfalso; (first | omega | (simp only [Int32.reduceToInt, v1] at c8 c17 c34 m5 m14 m21 m31 m36 m46 ⊢; omega)))
                · refine ⟨rfl, trivial, ?_⟩
                  first | exact ⟨⟨_, rfl, rfl⟩, hI⟩ | (exfalso; (first | omega | (simp only [Int32.reduceToInt, v1] at c8 c17 c34 m5 m14 m21 m31 m36 ⊢; omega)))
      · refine ⟨fun c39 => ?_, fun c39 => ?_⟩
        · refine ⟨rfl, trivial, ?_⟩
          refine Call_st 200 fun Y hY => ?_
          refine ⟨rfl, rfl, ?_⟩
          refine m_isVoucher (by omega) ?_
          refine ⟨fun m5 => ?_, fun m5 => ?_⟩
          · replace m5 := bI_z m5
            refine ⟨rfl, trivial, ?_⟩
            first | exact ⟨⟨_, rfl, rfl⟩, hI⟩ | (exfalso; (first | omega | (simp only [Int32.reduceToInt, v1] at c8 c17 c34 c39 m5 ⊢; omega)))
          · replace m5 := bI_nz m5
            refine ⟨rfl, ?_⟩
            refine m_isIn ?_
            refine ⟨fun m14 => ?_, fun m14 => ?_⟩
            · replace m14 := bI_z m14
              refine ⟨rfl, trivial, ?_⟩
              first | exact ⟨⟨_, rfl, rfl⟩, hI⟩ | (exfalso; (first | omega | (simp only [Int32.reduceToInt, v1] at c8 c17 c34 c39 m5 m14 ⊢; omega)))
            · replace m14 := bI_nz m14
              refine ⟨fun m21 => ?_, fun m21 => ?_⟩
              · refine ⟨rfl, trivial, ?_⟩
                first | exact ⟨⟨_, rfl, rfl⟩, hI⟩ | (exfalso; (first | omega | (simp only [Int32.reduceToInt, v1] at c8 c17 c34 c39 m5 m14 m21 ⊢; omega)))
              · refine ⟨_, _, rfl, (by refine ⟨?_, ?_⟩ <;> (first | omega | (simp only [Int32.reduceToInt, v1] at c8 c17 c34 c39 m5 m14 m21 ⊢; omega))), ?_⟩
                refine ⟨fun m31 => ?_, fun m31 => ?_⟩
                · refine ⟨rfl, trivial, ?_⟩
                  first | exact ⟨⟨_, rfl, rfl⟩, hI⟩ | (exfalso; (first | omega | (simp only [Int32.reduceToInt, v1] at c8 c17 c34 c39 m5 m14 m21 m31 ⊢; omega)))
                · refine ⟨fun m36 => ?_, fun m36 => ?_⟩
                  · refine ⟨_, _, rfl, (by refine ⟨?_, ?_⟩ <;> (first | omega | (simp only [Int32.reduceToInt, v1] at c8 c17 c34 c39 m5 m14 m21 m31 m36 ⊢; omega))), ?_⟩
                    refine ⟨fun m46 => ?_, fun m46 => ?_⟩
                    · refine ⟨rfl, trivial, ?_⟩
                      first | exact ⟨⟨_, rfl, rfl⟩, hI⟩ | (exfalso; (first | omega | (simp only [Int32.reduceToInt, v1] at c8 c17 c34 c39 m5 m14 m21 m31 m36 m46 ⊢; omega)))
                    · refine ⟨rfl, trivial, ?_⟩
                      first | exact ⟨⟨_, rfl, rfl⟩, hI⟩ | (exfalso; (first | omega | (simp only [Int32.reduceToInt, v1] at c8 c17 c34 c39 m5 m14 m21 m31 m36 m46 ⊢; omega)))
                  · refine ⟨rfl, trivial, ?_⟩
                    first | exact ⟨⟨_, rfl, rfl⟩, hI⟩ | (exfalso; (first | omega | (simp only [Int32.reduceToInt, v1] at c8 c17 c34 c39 m5 m14 m21 m31 m36 ⊢; omega)))
        · refine ⟨fun c44 => ?_, fun c44 => ?_⟩
          · refine ⟨fun c49 => ?_, fun c49 => ?_⟩
            · refine ⟨rfl, trivial, ?_⟩
              refine Call_st 200 fun Y hY => ?_
              refine ⟨rfl, rfl, ?_⟩
              refine m_isVoucher (by omega) ?_
              refine ⟨fun m5 => ?_, fun m5 => ?_⟩
              · replace m5 := bI_z m5
                refine ⟨rfl, trivial, ?_⟩
                first | exact ⟨⟨_, rfl, rfl⟩, hI⟩ | (exfalso; (first | omega | (simp only [Int32.reduceToInt, v1] at c8 c17 c34 c39 c44 c49 m5 ⊢; omega)))
              · replace m5 := bI_nz m5
                refine ⟨rfl, ?_⟩
                refine m_isIn ?_
                refine ⟨fun m14 => ?_, fun m14 => ?_⟩
                · replace m14 := bI_z m14
                  refine ⟨rfl, trivial, ?_⟩
                  first | exact ⟨⟨_, rfl, rfl⟩, hI⟩ | (exfalso; (first | omega | (simp only [Int32.reduceToInt, v1] at c8 c17 c34 c39 c44 c49 m5 m14 ⊢; omega)))
                · replace m14 := bI_nz m14
                  refine ⟨fun m21 => ?_, fun m21 => ?_⟩
                  · refine ⟨rfl, trivial, ?_⟩
                    first | exact ⟨⟨_, rfl, rfl⟩, hI⟩ | (exfalso; (first | omega | (simp only [Int32.reduceToInt, v1] at c8 c17 c34 c39 c44 c49 m5 m14 m21 ⊢; omega)))
                  · refine ⟨_, _, rfl, (by refine ⟨?_, ?_⟩ <;> (first | omega | (simp only [Int32.reduceToInt, v1] at c8 c17 c34 c39 c44 c49 m5 m14 m21 ⊢; omega))), ?_⟩
                    refine ⟨fun m31 => ?_, fun m31 => ?_⟩
                    · refine ⟨rfl, trivial, ?_⟩
                      first | exact ⟨⟨_, rfl, rfl⟩, hI⟩ | (exfalso; (first | omega | (simp only [Int32.reduceToInt, v1] at c8 c17 c34 c39 c44 c49 m5 m14 m21 m31 ⊢; omega)))
                    · refine ⟨fun m36 => ?_, fun m36 => ?_⟩
                      · refine ⟨_, _, rfl, (by refine ⟨?_, ?_⟩ <;> (first | omega | (simp only [Int32.reduceToInt, v1] at c8 c17 c34 c39 c44 c49 m5 m14 m21 m31 m36 ⊢; omega))), ?_⟩
                        refine ⟨fun m46 => ?_, fun m46 => ?_⟩
                        · refine ⟨rfl, trivial, ?_⟩
                          first | exact ⟨⟨_, rfl, rfl⟩, hI⟩ | (exfalso; (first | omega | (simp only [Int32.reduceToInt, v1] at c8 c17 c34 c39 c44 c49 m5 m14 m21 m31 m36 m46 ⊢; omega)))
                        · refine ⟨rfl, trivial, ?_⟩
                          first | exact ⟨⟨_, rfl, rfl⟩, hI⟩ | (exfalso; (first | omega | (simp only [Int32.reduceToInt, v1] at c8 c17 c34 c39 c44 c49 m5 m14 m21 m31 m36 m46 ⊢; omega)))
                      · refine ⟨rfl, trivial, ?_⟩
                        first | exact ⟨⟨_, rfl, rfl⟩, hI⟩ | (exfalso; (first | omega | (simp only [Int32.reduceToInt, v1] at c8 c17 c34 c39 c44 c49 m5 m14 m21 m31 m36 ⊢; omega)))
            · refine ⟨rfl, trivial, ?_⟩
              refine Call_st 200 fun Y hY => ?_
              refine ⟨rfl, rfl, ?_⟩
              refine m_isVoucher (by omega) ?_
              refine ⟨fun m5 => ?_, fun m5 => ?_⟩
              · replace m5 := bI_z m5
                refine ⟨rfl, trivial, ?_⟩
                first | exact ⟨⟨_, rfl, rfl⟩, hI⟩ | (exfalso; (first | omega | (simp only [Int32.reduceToInt, v1] at c8 c17 c34 c39 c44 c49 m5 ⊢; omega)))
              · replace m5 := bI_nz m5
                refine ⟨rfl, ?_⟩
                refine m_isIn ?_
                refine ⟨fun m14 => ?_, fun m14 => ?_⟩
                · replace m14 := bI_z m14
                  refine ⟨rfl, trivial, ?_⟩
                  first | exact ⟨⟨_, rfl, rfl⟩, hI⟩ | (exfalso; (first | omega | (simp only [Int32.reduceToInt, v1] at c8 c17 c34 c39 c44 c49 m5 m14 ⊢; omega)))
                · replace m14 := bI_nz m14
                  refine ⟨fun m21 => ?_, fun m21 => ?_⟩
                  · refine ⟨rfl, trivial, ?_⟩
                    first | exact ⟨⟨_, rfl, rfl⟩, hI⟩ | (exfalso; (first | omega | (simp only [Int32.reduceToInt, v1] at c8 c17 c34 c39 c44 c49 m5 m14 m21 ⊢; omega)))
                  · refine ⟨_, _, rfl, (by refine ⟨?_, ?_⟩ <;> (first | omega | (simp only [Int32.reduceToInt, v1] at c8 c17 c34 c39 c44 c49 m5 m14 m21 ⊢; omega))), ?_⟩
                    refine ⟨fun m31 => ?_, fun m31 => ?_⟩
                    · refine ⟨rfl, trivial, ?_⟩
                      first | exact ⟨⟨_, rfl, rfl⟩, hI⟩ | (exfalso; (first | omega | (simp only [Int32.reduceToInt, v1] at c8 c17 c34 c39 c44 c49 m5 m14 m21 m31 ⊢; omega)))
                    · refine ⟨fun m36 => ?_, fun m36 => ?_⟩
                      · refine ⟨_, _, rfl, (by refine ⟨?_, ?_⟩ <;> (first | omega | (simp only [Int32.reduceToInt, v1] at c8 c17 c34 c39 c44 c49 m5 m14 m21 m31 m36 ⊢; omega))), ?_⟩
                        refine ⟨fun m46 => ?_, fun m46 => ?_⟩
                        · refine ⟨rfl, trivial, ?_⟩
                          first | exact ⟨⟨_, rfl, rfl⟩, hI⟩ | (exfalso; (first | omega | (simp only [Int32.reduceToInt, v1] at c8 c17 c34 c39 c44 c49 m5 m14 m21 m31 m36 m46 ⊢; omega)))
                        · refine ⟨rfl, trivial, ?_⟩
                          first | exact ⟨⟨_, rfl, rfl⟩, hI⟩ | (exfalso; (first | omega | (simp only [Int32.reduceToInt, v1] at c8 c17 c34 c39 c44 c49 m5 m14 m21 m31 m36 m46 ⊢; omega)))
                      · refine ⟨rfl, trivial, ?_⟩
                        first | exact ⟨⟨_, rfl, rfl⟩, hI⟩ | (exfalso; (first | omega | (simp only [Int32.reduceToInt, v1] at c8 c17 c34 c39 c44 c49 m5 m14 m21 m31 m36 ⊢; omega)))
          · refine ⟨rfl, trivial, ?_⟩
            refine Call_st 200 fun Y hY => ?_
            refine ⟨rfl, rfl, ?_⟩
            refine m_isVoucher (by omega) ?_
            refine ⟨fun m5 => ?_, fun m5 => ?_⟩
            · replace m5 := bI_z m5
              refine ⟨rfl, trivial, ?_⟩
              first | exact ⟨⟨_, rfl, rfl⟩, hI⟩ | (exfalso; (first | omega | (simp only [Int32.reduceToInt, v1] at c8 c17 c34 c39 c44 m5 ⊢; omega)))
            · replace m5 := bI_nz m5
              refine ⟨rfl, ?_⟩
              refine m_isIn ?_
              refine ⟨fun m14 => ?_, fun m14 => ?_⟩
              · replace m14 := bI_z m14
                refine ⟨rfl, trivial, ?_⟩
                first | exact ⟨⟨_, rfl, rfl⟩, hI⟩ | (exfalso; (first | omega | (simp only [Int32.reduceToInt, v1] at c8 c17 c34 c39 c44 m5 m14 ⊢; omega)))
              · replace m14 := bI_nz m14
                refine ⟨fun m21 => ?_, fun m21 => ?_⟩
                · refine ⟨rfl, trivial, ?_⟩
                  first | exact ⟨⟨_, rfl, rfl⟩, hI⟩ | (exfalso; (first | omega | (simp only [Int32.reduceToInt, v1] at c8 c17 c34 c39 c44 m5 m14 m21 ⊢; omega)))
                · refine ⟨_, _, rfl, (by refine ⟨?_, ?_⟩ <;> (first | omega | (simp only [Int32.reduceToInt, v1] at c8 c17 c34 c39 c44 m5 m14 m21 ⊢; omega))), ?_⟩
                  refine ⟨fun m31 => ?_, fun m31 => ?_⟩
                  · refine ⟨rfl, trivial, ?_⟩
                    first | exact ⟨⟨_, rfl, rfl⟩, hI⟩ | (exfalso; (first | omega | (simp only [Int32.reduceToInt, v1] at c8 c17 c34 c39 c44 m5 m14 m21 m31 ⊢; omega)))
                  · refine ⟨fun m36 => ?_, fun m36 => ?_⟩
                    · refine ⟨_, _, rfl, (by refine ⟨?_, ?_⟩ <;> (first | omega | (simp only [Int32.reduceToInt, v1] at c8 c17 c34 c39 c44 m5 m14 m21 m31 m36 ⊢; omega))), ?_⟩
                      refine ⟨fun m46 => ?_, fun m46 => ?_⟩
                      · refine ⟨rfl, trivial, ?_⟩
                        first | exact ⟨⟨_, rfl, rfl⟩, hI⟩ | (exfalso; (first | omega | (simp only [Int32.reduceToInt, v1] at c8 c17 c34 c39 c44 m5 m14 m21 m31 m36 m46 ⊢; omega)))
                      · refine ⟨rfl, trivial, ?_⟩
                        first | exact ⟨⟨_, rfl, rfl⟩, hI⟩ | (exfalso; (first | omega | (simp only [Int32.reduceToInt, v1] at c8 c17 c34 c39 c44 m5 m14 m21 m31 m36 m46 ⊢; omega)))
                    · refine ⟨rfl, trivial, ?_⟩
                      first | exact ⟨⟨_, rfl, rfl⟩, hI⟩ | (exfalso; (first | omega | (simp only [Int32.reduceToInt, v1] at c8 c17 c34 c39 c44 m5 m14 m21 m31 m36 ⊢; omega)))
theorem m_orNone {d : Nat} {σ : Mm} {Q : Qt} {x : Int32} (h1 : x.toInt < 0 → Q (some (.int (-1000000005))) σ) (h2 : ¬ x.toInt < 0 → Q (some (.int x)) σ) : Call (d + 1) k_X12_orNone [.int x] σ Q := by
  refine Call_st 120 fun X hX => ?_
  refine ⟨fun c1 => ?_, fun c1 => ?_⟩
  · refine ⟨rfl, trivial, ?_⟩
    first | exact h1 (by assumption) | exact h2 (by assumption)
  · refine ⟨rfl, trivial, ?_⟩
    first | exact h1 (by assumption) | exact h2 (by assumption)
