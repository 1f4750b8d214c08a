theorem nxt {σ1 : Mm} {P : Mm → Prop} (h : ∀ τ : Mm, τ = σ1 → P τ) : P σ1 := h _ rfl
theorem vI_ {x y : Int32} (h : x = y) : some (Value.int x) = some (Value.int y) := by rw [h]
theorem s_openShop {d : Nat} {σ : Mm} {Q : Qt} {f : Int32} (h0 : 0 ≤ (σ 1 2).toInt) (hF : 10 ≤ (σ 1 2).toInt → Q (some (.int (-1000000003))) σ) (hS : (σ 1 2).toInt < 10 → Q (some (.int (σ 1 2))) (wr (wr σ 2 (σ 1 2).toInt.toNat f) 1 2 (σ 1 2 + 1))) : Call (d + 1) k_X9_openShop [.ref 1, .int f] σ Q := by
  refine Call_st 120 fun X hX => ?_
  refine ⟨fun c6 => ?_, fun c6 => ?_⟩
  · refine ⟨_, rfl, ⟨h0, by (first | omega | (simp only [Int32.reduceToInt] at c6 ⊢; omega))⟩, ?_⟩
    refine ⟨rfl, trivial, ?_⟩
    first | exact hF (by (first | omega | (simp only [Int32.reduceToInt] at c6 ⊢; omega))) | (refine Qe (hS (by (first | omega | (simp only [Int32.reduceToInt] at c6 ⊢; omega)))) ?_ rfl; exact vI_ (as1 _))
  · refine ⟨rfl, trivial, ?_⟩
    first | exact hF (by (first | omega | (simp only [Int32.reduceToInt] at c6 ⊢; omega))) | (refine Qe (hS (by (first | omega | (simp only [Int32.reduceToInt] at c6 ⊢; omega)))) ?_ rfl; exact vI_ (as1 _))
theorem c_firm_tr {σ σ' : Mm} (e2 : σ' 2 = σ 2) (e89 : σ' 89 = σ 89) (p1_0 : σ' 1 0 = σ 1 0) (p1_1 : σ' 1 1 = σ 1 1 + 1) (p1_2 : σ' 1 2 = σ 1 2) (p88_0 : σ' 88 0 = σ 88 0) (p88_1 : σ' 88 1 = σ 88 1 + 1) (p88_2 : σ' 88 2 = σ 88 2) (h : I_tr σ) (h5 : (σ 1 1).toInt < 5) : I_tr σ' := by
  unfold I_tr
  simp only [e2, e89, p1_0, p1_1, p1_2, p88_0, p88_1, p88_2]
  obtain ⟨⟨t0, t1, t2, t3⟩, ⟨t4, t5⟩, ⟨t6, t7⟩, ⟨t8, t9⟩, t10⟩ := h
  have e := add1 (x := σ 1 1) (by omega)
  refine ⟨⟨t0, by rw [t1], t2, t3⟩, ⟨t4, t5⟩, ⟨by omega, by omega⟩, ⟨t8, t9⟩, fun i hi => ?_⟩
  have := t10 i hi
  omega
theorem c_firm_vo {σ σ' : Mm} (e4 : σ' 4 = σ 4) (e5 : σ' 5 = σ 5) (e6 : σ' 6 = σ 6) (e7 : σ' 7 = σ 7) (e8 : σ' 8 = σ 8) (e9 : σ' 9 = σ 9) (e90 : σ' 90 = σ 90) (e91 : σ' 91 = σ 91) (e92 : σ' 92 = σ 92) (e93 : σ' 93 = σ 93) (e94 : σ' 94 = σ 94) (e95 : σ' 95 = σ 95) (p3_0 : σ' 3 0 = σ 3 0) (p88_4 : σ' 88 4 = σ 88 4) (p1_1 : σ' 1 1 = σ 1 1 + 1) (h : I_vo σ) (h5 : (σ 1 1).toInt < 5) : I_vo σ' := by
  unfold I_vo
  simp only [e4, e5, e6, e7, e8, e9, e90, e91, e92, e93, e94, e95, p3_0, p88_4, p1_1]
  obtain ⟨v, w, v9⟩ := h
  have e := add1 (x := σ 1 1) (by omega)
  refine ⟨v, w, fun i hi => ?_⟩
  have := v9 i hi
  omega
theorem op_firm {σ : Mm} (hI : Inv σ) : Call 120 k_X11_firm [.ref 0] σ (fun r τ => Call 120 k_X12_firm [.ref 88] τ (fun r' τ' => (∃ x : Int32, r = some (.int x) ∧ r' = some (.int x)) ∧ Inv τ')) := by
  obtain ⟨⟨t0, t1, t2, t3⟩, ⟨t4, t5⟩, ⟨t6, t7⟩, ⟨t8, t9⟩, t10⟩ := id (hI.1)
  have qfirms : (σ 88 1).toInt = (σ 1 1).toInt := by rw [t1]
  refine Call_st 200 fun X hX => ?_
  refine ⟨fun c8 => ?_, fun c8 => ?_⟩
  · refine ⟨rfl, trivial, ?_⟩
    refine nxt fun τ hτ => ?_
    have e88 : τ 88 = σ 88 := by rw [hτ]; rfl
    have qτfirms : (τ 88 1).toInt = (σ 1 1).toInt := by rw [e88, t1]
    refine Call_st 200 fun Y hY => ?_
    refine ⟨fun m5 => ?_, fun m5 => ?_⟩
    · refine ⟨rfl, trivial, ?_⟩
      first
      | (exfalso; (first | omega | (simp only [Int32.reduceToInt] at c8 m5 ⊢; omega)); done)
      | (subst hτ
         refine ⟨⟨σ 1 1, vI_ (as1 _), vI_ ((as1 _).trans t1)⟩, ⟨(c_firm_tr (σ := σ) rfl rfl rfl rfl rfl rfl rfl rfl hI.1 (by (first | omega | (simp only [Int32.reduceToInt] at c8 m5 ⊢; omega)))), (c_firm_vo (σ := σ) rfl rfl rfl rfl rfl rfl rfl rfl rfl rfl rfl rfl rfl rfl rfl hI.2.1 (by (first | omega | (simp only [Int32.reduceToInt] at c8 m5 ⊢; omega)))), (I_li_fr (σ := σ) rfl rfl rfl rfl rfl rfl rfl rfl rfl rfl rfl rfl rfl rfl rfl rfl rfl rfl rfl rfl rfl hI.2.2.1), (I_or_fr (σ := σ) rfl rfl rfl hI.2.2.2.1), (I_ta_fr (σ := σ) rfl rfl rfl rfl hI.2.2.2.2.1), (I_ba_fr (σ := σ) rfl rfl rfl rfl rfl rfl rfl rfl rfl rfl rfl rfl rfl rfl rfl rfl rfl rfl rfl rfl rfl hI.2.2.2.2.2.1), (I_ex_fr (σ := σ) rfl rfl rfl rfl rfl rfl rfl rfl rfl rfl rfl hI.2.2.2.2.2.2.1), (I_gu_fr (σ := σ) rfl rfl rfl rfl rfl rfl rfl rfl rfl rfl hI.2.2.2.2.2.2.2.1), (I_sh_fr (σ := σ) rfl rfl rfl rfl rfl hI.2.2.2.2.2.2.2.2.1), (I_wa_fr (σ := σ) rfl rfl rfl rfl hI.2.2.2.2.2.2.2.2.2.1), (I_la_fr (σ := σ) rfl rfl rfl rfl rfl rfl rfl rfl rfl rfl rfl hI.2.2.2.2.2.2.2.2.2.2.1), (I_he_fr (σ := σ) rfl hI.2.2.2.2.2.2.2.2.2.2.2)⟩⟩)
    · refine ⟨rfl, trivial, ?_⟩
      first
      | (exfalso; (first | omega | (simp only [Int32.reduceToInt] at c8 m5 ⊢; omega)); done)
      | (subst hτ
         refine ⟨⟨σ 1 1, vI_ (as1 _), vI_ ((as1 _).trans t1)⟩, ⟨(c_firm_tr (σ := σ) rfl rfl rfl rfl rfl rfl rfl rfl hI.1 (by (first | omega | (simp only [Int32.reduceToInt] at c8 m5 ⊢; omega)))), (c_firm_vo (σ := σ) rfl rfl rfl rfl rfl rfl rfl rfl rfl rfl rfl rfl rfl rfl rfl hI.2.1 (by (first | omega | (simp only [Int32.reduceToInt] at c8 m5 ⊢; omega)))), (I_li_fr (σ := σ) rfl rfl rfl rfl rfl rfl rfl rfl rfl rfl rfl rfl rfl rfl rfl rfl rfl rfl rfl rfl rfl hI.2.2.1), (I_or_fr (σ := σ) rfl rfl rfl hI.2.2.2.1), (I_ta_fr (σ := σ) rfl rfl rfl rfl hI.2.2.2.2.1), (I_ba_fr (σ := σ) rfl rfl rfl rfl rfl rfl rfl rfl rfl rfl rfl rfl rfl rfl rfl rfl rfl rfl rfl rfl rfl hI.2.2.2.2.2.1), (I_ex_fr (σ := σ) rfl rfl rfl rfl rfl rfl rfl rfl rfl rfl rfl hI.2.2.2.2.2.2.1), (I_gu_fr (σ := σ) rfl rfl rfl rfl rfl rfl rfl rfl rfl rfl hI.2.2.2.2.2.2.2.1), (I_sh_fr (σ := σ) rfl rfl rfl rfl rfl hI.2.2.2.2.2.2.2.2.1), (I_wa_fr (σ := σ) rfl rfl rfl rfl hI.2.2.2.2.2.2.2.2.2.1), (I_la_fr (σ := σ) rfl rfl rfl rfl rfl rfl rfl rfl rfl rfl rfl hI.2.2.2.2.2.2.2.2.2.2.1), (I_he_fr (σ := σ) rfl hI.2.2.2.2.2.2.2.2.2.2.2)⟩⟩)
  · refine ⟨rfl, trivial, ?_⟩
    refine Call_st 200 fun Y hY => ?_
    refine ⟨fun m5 => ?_, fun m5 => ?_⟩
    · refine ⟨rfl, trivial, ?_⟩
      first | exact ⟨⟨_, rfl, rfl⟩, hI⟩ | (exfalso; (first | omega | (simp only [Int32.reduceToInt] at c8 m5 ⊢; omega)))
    · refine ⟨rfl, trivial, ?_⟩
      first | exact ⟨⟨_, rfl, rfl⟩, hI⟩ | (exfalso; (first | omega | (simp only [Int32.reduceToInt] at c8 m5 ⊢; omega)))
theorem c_shop_tr {σ σ' : Mm} {f : Int32} (e2 : σ' 2 = upd (σ 2) (σ 1 2).toInt.toNat f) (e89 : σ' 89 = upd (σ 89) (σ 88 2).toInt.toNat f) (p1_0 : σ' 1 0 = σ 1 0) (p1_1 : σ' 1 1 = σ 1 1) (p1_2 : σ' 1 2 = σ 1 2 + 1) (p88_0 : σ' 88 0 = σ 88 0) (p88_1 : σ' 88 1 = σ 88 1) (p88_2 : σ' 88 2 = σ 88 2 + 1) (h : I_tr σ) (h5 : (σ 1 2).toInt < 10) (hf : 0 ≤ f.toInt ∧ f.toInt < (σ 1 1).toInt) : I_tr σ' := by
  unfold I_tr
  simp only [e2, e89, p1_0, p1_1, p1_2, p88_0, p88_1, p88_2]
  obtain ⟨⟨t0, t1, t2, t3⟩, ⟨t4, t5⟩, ⟨t6, t7⟩, ⟨t8, t9⟩, t10⟩ := h
  have e := add1 (x := σ 1 2) (by omega)
  refine ⟨⟨t0, t1, by rw [t2], by rw [t2, t3]⟩, ⟨t4, t5⟩, ⟨t6, t7⟩, ⟨by omega, by omega⟩, fun i hi => ?_⟩
  unfold upd
  split
  · exact hf
  · exact t10 i (by omega)
theorem c_shop_li {σ σ' : Mm} (e9 : σ' 9 = σ 9) (e11 : σ' 11 = σ 11) (e12 : σ' 12 = σ 12) (e13 : σ' 13 = σ 13) (e14 : σ' 14 = σ 14) (e15 : σ' 15 = σ 15) (e16 : σ' 16 = σ 16) (e17 : σ' 17 = σ 17) (e96 : σ' 96 = σ 96) (e97 : σ' 97 = σ 97) (e98 : σ' 98 = σ 98) (e99 : σ' 99 = σ 99) (e100 : σ' 100 = σ 100) (e101 : σ' 101 = σ 101) (e102 : σ' 102 = σ 102) (p10_0 : σ' 10 0 = σ 10 0) (p10_1 : σ' 10 1 = σ 10 1) (p88_11 : σ' 88 11 = σ 88 11) (p1_0 : σ' 1 0 = σ 1 0) (p1_2 : σ' 1 2 = σ 1 2 + 1) (p3_0 : σ' 3 0 = σ 3 0) (h : I_li σ) (h5 : (σ 1 2).toInt < 10) : I_li σ' := by
  unfold I_li
  simp only [e9, e11, e12, e13, e14, e15, e16, e17, e96, e97, e98, e99, e100, e101, e102, p10_0, p10_1, p88_11, p1_0, p1_2, p3_0]
  obtain ⟨l0, l6, l8, l9⟩ := h
  have e : (σ 1 2).toInt < (σ 1 2 + 1).toInt := by rw [add1 (by omega)]; omega
  refine ⟨l0, l6, l8, fun i hi => ?_⟩
  obtain ⟨a1, a2, a3, a4, a5, a6, a7, a8⟩ := l9 i hi
  refine ⟨a1, a2, a3, a4, a5, a6, ?_, a8⟩
  rcases a7 with h | ⟨h1, h2, h3, h4⟩ | h
  · exact Or.inl h
  · exact Or.inr (Or.inl ⟨h1, h2, h3, Int.lt_trans h4 e⟩)
  · exact Or.inr (Or.inr h)
theorem op_shop {σ : Mm} {f : Int32} (hI : Inv σ) : Call 120 k_X11_shop [.ref 0, .int f] σ (fun r τ => Call 120 k_X12_shop [.ref 88, .int f] τ (fun r' τ' => (∃ x : Int32, r = some (.int x) ∧ r' = some (.int x)) ∧ Inv τ')) := by
  obtain ⟨⟨t0, t1, t2, t3⟩, ⟨t4, t5⟩, ⟨t6, t7⟩, ⟨t8, t9⟩, t10⟩ := id (hI.1)
  have qfirms : (σ 88 1).toInt = (σ 1 1).toInt := by rw [t1]
  have qshops : (σ 88 2).toInt = (σ 1 2).toInt := by rw [t2]
  refine Call_st 200 fun X hX => ?_
  refine ⟨rfl, rfl, ?_⟩
  refine s_hasFirm ?_
  refine ⟨fun c8 => ?_, fun c8 => ?_⟩
  · replace c8 := bI_z c8
    refine ⟨rfl, trivial, ?_⟩
    refine Call_st 200 fun Y hY => ?_
    refine ⟨rfl, rfl, ?_⟩
    refine m_isFirm (by omega) ?_
    refine ⟨fun m5 => ?_, fun m5 => ?_⟩
    · replace m5 := bI_z m5
      refine ⟨rfl, trivial, ?_⟩
      first | exact ⟨⟨_, rfl, rfl⟩, hI⟩ | (exfalso; (first | omega | (simp only [Int32.reduceToInt] at c8 m5 ⊢; omega)))
    · replace m5 := bI_nz m5
      refine ⟨fun m17 => ?_, fun m17 => ?_⟩
      · refine ⟨rfl, trivial, ?_⟩
        first | exact ⟨⟨_, rfl, rfl⟩, hI⟩ | (exfalso; (first | omega | (simp only [Int32.reduceToInt] at c8 m5 m17 ⊢; omega)))
      · refine ⟨_, rfl, (by refine ⟨?_, ?_⟩ <;> (first | omega | (simp only [Int32.reduceToInt] at c8 m5 m17 ⊢; omega))), ?_⟩
        refine ⟨rfl, trivial, ?_⟩
        first | exact ⟨⟨_, rfl, rfl⟩, hI⟩ | (exfalso; (first | omega | (simp only [Int32.reduceToInt] at c8 m5 m17 ⊢; omega)))
  · replace c8 := bI_nz c8
    refine ⟨rfl, rfl, ?_⟩
    refine s_openShop (by assumption) (fun h19a => ?_) (fun h19a => ?_)
    · refine ⟨rfl, trivial, ?_⟩
      refine Call_st 200 fun Y hY => ?_
      refine ⟨rfl, rfl, ?_⟩
      refine m_isFirm (by omega) ?_
      refine ⟨fun m5 => ?_, fun m5 => ?_⟩
      · replace m5 := bI_z m5
        refine ⟨rfl, trivial, ?_⟩
        first | exact ⟨⟨_, rfl, rfl⟩, hI⟩ | (exfalso; (first | omega | (simp only [Int32.reduceToInt] at c8 h19a m5 ⊢; omega)))
      · replace m5 := bI_nz m5
        refine ⟨fun m17 => ?_, fun m17 => ?_⟩
        · refine ⟨rfl, trivial, ?_⟩
          first | exact ⟨⟨_, rfl, rfl⟩, hI⟩ | (exfalso; (first | omega | (simp only [Int32.reduceToInt] at c8 h19a m5 m17 ⊢; omega)))
        · refine ⟨_, rfl, (by refine ⟨?_, ?_⟩ <;> (first | omega | (simp only [Int32.reduceToInt] at c8 h19a m5 m17 ⊢; omega))), ?_⟩
          refine ⟨rfl, trivial, ?_⟩
          first | exact ⟨⟨_, rfl, rfl⟩, hI⟩ | (exfalso; (first | omega | (simp only [Int32.reduceToInt] at c8 h19a m5 m17 ⊢; omega)))
    · refine ⟨rfl, trivial, ?_⟩
      refine nxt fun τ hτ => ?_
      have e88 : τ 88 = σ 88 := by rw [hτ]; rfl
      have qτfirms : (τ 88 1).toInt = (σ 1 1).toInt := by rw [e88, t1]
      have qτshops : (τ 88 2).toInt = (σ 1 2).toInt := by rw [e88, t2]
      refine Call_st 200 fun Y hY => ?_
      refine ⟨rfl, rfl, ?_⟩
      refine m_isFirm (by omega) ?_
      refine ⟨fun m5 => ?_, fun m5 => ?_⟩
      · replace m5 := bI_z m5
        refine ⟨rfl, trivial, ?_⟩
        first
        | (exfalso; (first | omega | (simp only [Int32.reduceToInt] at c8 h19a m5 ⊢; omega)); done)
        | (subst hτ
           refine ⟨⟨σ 1 2, rfl, vI_ ((as1 _).trans t2)⟩, ⟨(c_shop_tr (σ := σ) rfl rfl rfl rfl rfl rfl rfl rfl hI.1 (by (first | omega | (simp only [Int32.reduceToInt] at c8 h19a m5 ⊢; omega))) (by assumption)), (I_vo_fr (σ := σ) rfl rfl rfl rfl rfl rfl rfl rfl rfl rfl rfl rfl rfl rfl rfl hI.2.1), (c_shop_li (σ := σ) rfl rfl rfl rfl rfl rfl rfl rfl rfl rfl rfl rfl rfl rfl rfl rfl rfl rfl rfl rfl rfl hI.2.2.1 (by (first | omega | (simp only [Int32.reduceToInt] at c8 h19a m5 ⊢; omega)))), (I_or_fr (σ := σ) rfl rfl rfl hI.2.2.2.1), (I_ta_fr (σ := σ) rfl rfl rfl rfl hI.2.2.2.2.1), (I_ba_fr (σ := σ) rfl rfl rfl rfl rfl rfl rfl rfl rfl rfl rfl rfl rfl rfl rfl rfl rfl rfl rfl rfl rfl hI.2.2.2.2.2.1), (I_ex_fr (σ := σ) rfl rfl rfl rfl rfl rfl rfl rfl rfl rfl rfl hI.2.2.2.2.2.2.1), (I_gu_fr (σ := σ) rfl rfl rfl rfl rfl rfl rfl rfl rfl rfl hI.2.2.2.2.2.2.2.1), (I_sh_fr (σ := σ) rfl rfl rfl rfl rfl hI.2.2.2.2.2.2.2.2.1), (I_wa_fr (σ := σ) rfl rfl rfl rfl hI.2.2.2.2.2.2.2.2.2.1), (I_la_fr (σ := σ) rfl rfl rfl rfl rfl rfl rfl rfl rfl rfl rfl hI.2.2.2.2.2.2.2.2.2.2.1), (I_he_fr (σ := σ) rfl hI.2.2.2.2.2.2.2.2.2.2.2)⟩⟩)
      · replace m5 := bI_nz m5
        refine ⟨fun m17 => ?_, fun m17 => ?_⟩
        · refine ⟨rfl, trivial, ?_⟩
          first
          | (exfalso; (first | omega | (simp only [Int32.reduceToInt] at c8 h19a m5 m17 ⊢; omega)); done)
          | (subst hτ
             refine ⟨⟨σ 1 2, rfl, vI_ ((as1 _).trans t2)⟩, ⟨(c_shop_tr (σ := σ) rfl rfl rfl rfl rfl rfl rfl rfl hI.1 (by (first | omega | (simp only [Int32.reduceToInt] at c8 h19a m5 m17 ⊢; omega))) (by assumption)), (I_vo_fr (σ := σ) rfl rfl rfl rfl rfl rfl rfl rfl rfl rfl rfl rfl rfl rfl rfl hI.2.1), (c_shop_li (σ := σ) rfl rfl rfl rfl rfl rfl rfl rfl rfl rfl rfl rfl rfl rfl rfl rfl rfl rfl rfl rfl rfl hI.2.2.1 (by (first | omega | (simp only [Int32.reduceToInt] at c8 h19a m5 m17 ⊢; omega)))), (I_or_fr (σ := σ) rfl rfl rfl hI.2.2.2.1), (I_ta_fr (σ := σ) rfl rfl rfl rfl hI.2.2.2.2.1), (I_ba_fr (σ := σ) rfl rfl rfl rfl rfl rfl rfl rfl rfl rfl rfl rfl rfl rfl rfl rfl rfl rfl rfl rfl rfl hI.2.2.2.2.2.1), (I_ex_fr (σ := σ) rfl rfl rfl rfl rfl rfl rfl rfl rfl rfl rfl hI.2.2.2.2.2.2.1), (I_gu_fr (σ := σ) rfl rfl rfl rfl rfl rfl rfl rfl rfl rfl hI.2.2.2.2.2.2.2.1), (I_sh_fr (σ := σ) rfl rfl rfl rfl rfl hI.2.2.2.2.2.2.2.2.1), (I_wa_fr (σ := σ) rfl rfl rfl rfl hI.2.2.2.2.2.2.2.2.2.1), (I_la_fr (σ := σ) rfl rfl rfl rfl rfl rfl rfl rfl rfl rfl rfl hI.2.2.2.2.2.2.2.2.2.2.1), (I_he_fr (σ := σ) rfl hI.2.2.2.2.2.2.2.2.2.2.2)⟩⟩)
        · refine ⟨_, rfl, (by refine ⟨?_, ?_⟩ <;> (first | omega | (simp only [Int32.reduceToInt] at c8 h19a m5 m17 ⊢; omega))), ?_⟩
          refine ⟨rfl, trivial, ?_⟩
          first
          | (exfalso; (first | omega | (simp only [Int32.reduceToInt] at c8 h19a m5 m17 ⊢; omega)); done)
          | (subst hτ
             refine ⟨⟨σ 1 2, rfl, vI_ ((as1 _).trans t2)⟩, ⟨(c_shop_tr (σ := σ) rfl rfl rfl rfl rfl rfl rfl rfl hI.1 (by (first | omega | (simp only [Int32.reduceToInt] at c8 h19a m5 m17 ⊢; omega))) (by assumption)), (I_vo_fr (σ := σ) rfl rfl rfl rfl rfl rfl rfl rfl rfl rfl rfl rfl rfl rfl rfl hI.2.1), (c_shop_li (σ := σ) rfl rfl rfl rfl rfl rfl rfl rfl rfl rfl rfl rfl rfl rfl rfl rfl rfl rfl rfl rfl rfl hI.2.2.1 (by (first | omega | (simp only [Int32.reduceToInt] at c8 h19a m5 m17 ⊢; omega)))), (I_or_fr (σ := σ) rfl rfl rfl hI.2.2.2.1), (I_ta_fr (σ := σ) rfl rfl rfl rfl hI.2.2.2.2.1), (I_ba_fr (σ := σ) rfl rfl rfl rfl rfl rfl rfl rfl rfl rfl rfl rfl rfl rfl rfl rfl rfl rfl rfl rfl rfl hI.2.2.2.2.2.1), (I_ex_fr (σ := σ) rfl rfl rfl rfl rfl rfl rfl rfl rfl rfl rfl hI.2.2.2.2.2.2.1), (I_gu_fr (σ := σ) rfl rfl rfl rfl rfl rfl rfl rfl rfl rfl hI.2.2.2.2.2.2.2.1), (I_sh_fr (σ := σ) rfl rfl rfl rfl rfl hI.2.2.2.2.2.2.2.2.1), (I_wa_fr (σ := σ) rfl rfl rfl rfl hI.2.2.2.2.2.2.2.2.2.1), (I_la_fr (σ := σ) rfl rfl rfl rfl rfl rfl rfl rfl rfl rfl rfl hI.2.2.2.2.2.2.2.2.2.2.1), (I_he_fr (σ := σ) rfl hI.2.2.2.2.2.2.2.2.2.2.2)⟩⟩)
