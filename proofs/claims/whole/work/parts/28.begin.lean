theorem div10 {x : Int32} (h : 0 ≤ x.toInt) : (x / 10).toInt = x.toInt / 10 ∧ (x - x / 10 * 10).toInt = x.toInt % 10 := by
  have hx := Int32.toInt_lt x
  obtain ⟨j, hj, rfl⟩ := nI_of (x := x) (by rw [ilt0]; omega)
  have e : (10 : Int32) = nI 10 := rfl
  rw [e, pk_rem hj (by omega) (by omega), pk_div hj (by omega) (by omega), nIt (by omega), nIt (by omega), nIt (by omega)]
  omega
theorem s_kl {d : Nat} {σ : Mm} {Q : Qt} {k : Int32} (hQ : Q (some (.int (bI ((0 ≤ k.toInt ∧ k.toInt ≤ 39) ∧ k.toInt % 10 ≤ 2)))) σ) : Call (d + 1) k_X11_isKindAndLand [.int k] σ Q := by
  have e := div10 (x := k)
  refine Call_st 120 fun X hX => ?_
  refine ⟨fun c1 => ?_, fun c1 => ?_⟩
  · refine ⟨rfl, Or.inl rfl, ?_⟩
    first | exact bI_t hQ (by (first | omega | (simp only [Int32.reduceToInt] at c1 ⊢; omega))) | exact bI_f hQ (by (first | omega | (simp only [Int32.reduceToInt] at c1 ⊢; omega)))
  · refine ⟨(by decide), ?_⟩
    refine ⟨fun c9 => ?_, fun c9 => ?_⟩
    · refine ⟨rfl, Or.inl rfl, ?_⟩
      first | exact bI_t hQ (by (first | omega | (simp only [Int32.reduceToInt] at c1 c9 ⊢; omega))) | exact bI_f hQ (by (first | omega | (simp only [Int32.reduceToInt] at c1 c9 ⊢; omega)))
    · refine ⟨(by decide), ?_⟩
      refine ⟨fun c17 => ?_, fun c17 => ?_⟩
      · refine ⟨rfl, Or.inr rfl, ?_⟩
        first | exact bI_t hQ (by (first | omega | (simp only [Int32.reduceToInt] at c1 c9 c17 ⊢; omega))) | exact bI_f hQ (by (first | omega | (simp only [Int32.reduceToInt] at c1 c9 c17 ⊢; omega)))
      · refine ⟨rfl, Or.inl rfl, ?_⟩
        first | exact bI_t hQ (by (first | omega | (simp only [Int32.reduceToInt] at c1 c9 c17 ⊢; omega))) | exact bI_f hQ (by (first | omega | (simp only [Int32.reduceToInt] at c1 c9 c17 ⊢; omega)))
def VA (σ : Mm) (k f c t w : Int32) : Mm := wr (wr (wr (wr (wr (wr (wr σ 4 (σ 3 0).toInt.toNat (k / 10)) 5 (σ 3 0).toInt.toNat (k - k / 10 * 10)) 6 (σ 3 0).toInt.toNat f) 7 (σ 3 0).toInt.toNat c) 8 (σ 3 0).toInt.toNat t) 9 (σ 3 0).toInt.toNat w) 3 0 (σ 3 0 + 1)
def VB (σ : Mm) (k f c t w : Int32) : Mm := wr (wr (wr (wr (wr (wr (wr σ 90 (σ 88 4).toInt.toNat (k / 10)) 91 (σ 88 4).toInt.toNat (k - k / 10 * 10)) 92 (σ 88 4).toInt.toNat f) 93 (σ 88 4).toInt.toNat c) 94 (σ 88 4).toInt.toNat t) 95 (σ 88 4).toInt.toNat w) 88 4 (σ 88 4 + 1)
theorem s_vapp {d : Nat} {σ : Mm} {Q : Qt} {k f c t w : Int32} (h0 : 0 ≤ (σ 3 0).toInt) (h1 : (σ 3 0).toInt < 30) (hS : Q (some (.int (σ 3 0))) (VA σ k f c t w)) : Call (d + 2) k_X10_append [.ref 3, .int k, .int f, .int c, .int t, .int w] σ Q := by
  refine Call_st 120 fun X hX => ?_
  refine ⟨rfl, rfl, ?_⟩
  refine s_vfull ?_
  refine ⟨fun c4 => ?_, fun c4 => ?_⟩
  · replace c4 := bI_z c4
    refine ⟨(by decide), ?_⟩
    refine ⟨_, rfl, ⟨h0, h1⟩, ?_⟩
    refine ⟨(by decide), ?_⟩
    refine ⟨_, rfl, ⟨h0, h1⟩, ?_⟩
    refine ⟨_, rfl, ⟨h0, h1⟩, ?_⟩
    refine ⟨_, rfl, ⟨h0, h1⟩, ?_⟩
    refine ⟨_, rfl, ⟨h0, h1⟩, ?_⟩
    refine ⟨_, rfl, ⟨h0, h1⟩, ?_⟩
    refine ⟨rfl, trivial, ?_⟩
    first | (exfalso; omega) | (refine Qe hS ?_ rfl; exact vI_ (as1 _))
  · replace c4 := bI_nz c4
    refine ⟨rfl, trivial, ?_⟩
    first | (exfalso; omega) | (refine Qe hS ?_ rfl; exact vI_ (as1 _))
theorem c_beg_vo {σ σ' : Mm} {x1 x2 f c t w : Int32} (e4 : σ' 4 = upd (σ 4) (σ 3 0).toInt.toNat x1) (e5 : σ' 5 = upd (σ 5) (σ 3 0).toInt.toNat x2) (e6 : σ' 6 = upd (σ 6) (σ 3 0).toInt.toNat f) (e7 : σ' 7 = upd (σ 7) (σ 3 0).toInt.toNat c) (e8 : σ' 8 = upd (σ 8) (σ 3 0).toInt.toNat t) (e9 : σ' 9 = upd (σ 9) (σ 3 0).toInt.toNat w) (e90 : σ' 90 = upd (σ 90) (σ 88 4).toInt.toNat x1) (e91 : σ' 91 = upd (σ 91) (σ 88 4).toInt.toNat x2) (e92 : σ' 92 = upd (σ 92) (σ 88 4).toInt.toNat f) (e93 : σ' 93 = upd (σ 93) (σ 88 4).toInt.toNat c) (e94 : σ' 94 = upd (σ 94) (σ 88 4).toInt.toNat t) (e95 : σ' 95 = upd (σ 95) (σ 88 4).toInt.toNat w) (p3_0 : σ' 3 0 = σ 3 0 + 1) (p88_4 : σ' 88 4 = σ 88 4 + 1) (p1_1 : σ' 1 1 = σ 1 1) (h : I_vo σ) (h5 : (σ 3 0).toInt < 30) (hv : (0 ≤ x1.toInt ∧ x1.toInt ≤ 3) ∧ (0 ≤ x2.toInt ∧ x2.toInt ≤ 2) ∧ (0 ≤ f.toInt ∧ f.toInt < (σ 1 1).toInt) ∧ (0 ≤ c.toInt ∧ c.toInt ≤ 9999) ∧ (1 ≤ t.toInt ∧ t.toInt ≤ 900) ∧ (0 ≤ w.toInt ∧ w.toInt ≤ 100000)) : I_vo σ' := by
  unfold I_vo
  simp only [e4, e5, e6, e7, e8, e9, e90, e91, e92, e93, e94, e95, p3_0, p88_4, p1_1]
  obtain ⟨⟨v0, v1, v2, v3, v4, v5, v6⟩, ⟨v7, v8⟩, v9⟩ := h
  have e := add1 (x := σ 3 0) (by omega)
  rw [v0, v1, v2, v3, v4, v5, v6]
  refine ⟨⟨rfl, rfl, rfl, rfl, rfl, rfl, rfl⟩, ⟨by omega, by omega⟩, fun i hi => ?_⟩
  by_cases q : i = (σ 3 0).toInt.toNat
  · subst q
    simp only [pk_us]
    exact hv
  · simp only [pk_un q]
    exact v9 i (by omega)
theorem c_beg_li {σ σ' : Mm} {w : Int32} (e9 : σ' 9 = upd (σ 9) (σ 3 0).toInt.toNat w) (e11 : σ' 11 = σ 11) (e12 : σ' 12 = σ 12) (e13 : σ' 13 = σ 13) (e14 : σ' 14 = σ 14) (e15 : σ' 15 = σ 15) (e16 : σ' 16 = σ 16) (e17 : σ' 17 = σ 17) (e96 : σ' 96 = σ 96) (e97 : σ' 97 = σ 97) (e98 : σ' 98 = σ 98) (e99 : σ' 99 = σ 99) (e100 : σ' 100 = σ 100) (e101 : σ' 101 = σ 101) (e102 : σ' 102 = σ 102) (p10_0 : σ' 10 0 = σ 10 0) (p10_1 : σ' 10 1 = σ 10 1) (p88_11 : σ' 88 11 = σ 88 11) (p1_0 : σ' 1 0 = σ 1 0) (p1_2 : σ' 1 2 = σ 1 2) (p3_0 : σ' 3 0 = σ 3 0 + 1) (h : I_li σ) (h0 : 0 ≤ (σ 3 0).toInt) (h5 : (σ 3 0).toInt < 30) : I_li σ' := by
  unfold I_li
  simp only [e9, e11, e12, e13, e14, e15, e16, e17, e96, e97, e98, e99, e100, e101, e102, p10_0, p10_1, p88_11, p1_0, p1_2, p3_0]
  obtain ⟨l0, l6, l8, l9⟩ := h
  have e := add1 (x := σ 3 0) (by omega)
  refine ⟨l0, l6, l8, fun i hi => ?_⟩
  obtain ⟨a1, a2, a3, a4, a5, a6, a7, a8⟩ := l9 i hi
  refine ⟨a1, ⟨a2.1, by omega⟩, a3, a4, a5, a6, ?_, fun z => ?_⟩
  · rcases a7 with h | h | ⟨h1, h2, h3, h4, h5⟩
    · exact Or.inl h
    · exact Or.inr (Or.inl h)
    · exact Or.inr (Or.inr ⟨h1, h2, h3, by omega, h5⟩)
  · rw [pk_un (by omega)]
    exact a8 z
set_option maxRecDepth 100000 in
theorem op_begin {σ : Mm} {k f c t w a : Int32} (hI : Inv σ) : Call 120 k_X11_begin [.ref 0, .int k, .int f, .int c, .int t, .int w, .int a] σ (fun r τ => Call 120 k_X12_begin [.ref 88, .int k, .int f, .int c, .int t, .int w, .int a] τ (fun r' τ' => (∃ x : Int32, r = some (.int x) ∧ r' = some (.int x)) ∧ Inv τ')) := by
  obtain ⟨⟨t0, t1, t2, t3⟩, ⟨t4, t5⟩, ⟨t6, t7⟩, ⟨t8, t9⟩, t10⟩ := id (hI.1)
  obtain ⟨⟨v0, v1, v2, v3, v4, v5, v6⟩, ⟨v7, v8⟩, v9⟩ := id (hI.2.1)
  obtain ⟨⟨l0, l1, l2, l3, l4, l5⟩, ⟨l6, l7⟩, l8, l9⟩ := id (hI.2.2.1)
  obtain o0 := id (hI.2.2.2.1)
  have qtoday : (σ 88 0).toInt = (σ 1 0).toInt := by rw [t0]
  have qfirms : (σ 88 1).toInt = (σ 1 1).toInt := by rw [t1]
  have qvouchers : (σ 88 4).toInt = (σ 3 0).toInt := by rw [v0]
  have qlines : (σ 88 11).toInt = (σ 10 0).toInt := by rw [l0]
  have hr : ∀ i : Nat, i < (σ 10 0).toInt.toNat → 0 ≤ (σ 18 i).toInt ∧ (σ 18 i).toInt < 100 := fun i hi => by
    rw [o0]
    have := ordA_rng (ab := σ 13) (n := (σ 10 0).toInt.toNat) (by omega) i hi
    omega
  have e10 := div10 (x := k)
  refine Call_st 200 fun X hX => ?_
  refine ⟨rfl, ?_⟩
  refine s_kl ?_
  refine ⟨fun c4 => ?_, fun c4 => ?_⟩
  · replace c4 := bI_z c4
    refine ⟨rfl, trivial, ?_⟩
    refine Call_st 200 fun Y hY => ?_
    refine ⟨rfl, ?_⟩
    refine m_isIn ?_
    refine ⟨fun m7 => ?_, fun m7 => ?_⟩
    · replace m7 := bI_z m7
      refine ⟨rfl, trivial, ?_⟩
      first | exact ⟨⟨_, rfl, rfl⟩, hI⟩ | (exfalso; (first | omega | (simp only [Int32.reduceToInt] at c4 m7 ⊢; omega)))
    · replace m7 := bI_nz m7
      refine ⟨(by decide), ?_⟩
      refine ⟨fun m15 => ?_, fun m15 => ?_⟩
      · refine ⟨rfl, trivial, ?_⟩
        first | exact ⟨⟨_, rfl, rfl⟩, hI⟩ | (exfalso; (first | omega | (simp only [Int32.reduceToInt] at c4 m7 m15 ⊢; omega)))
      · refine ⟨rfl, rfl, ?_⟩
        refine m_isFirm (by omega) ?_
        refine ⟨fun m23 => ?_, fun m23 => ?_⟩
        · replace m23 := bI_z m23
          refine ⟨rfl, trivial, ?_⟩
          first | exact ⟨⟨_, rfl, rfl⟩, hI⟩ | (exfalso; (first | omega | (simp only [Int32.reduceToInt] at c4 m7 m15 m23 ⊢; omega)))
        · replace m23 := bI_nz m23
          refine ⟨rfl, ?_⟩
          refine m_isIn ?_
          refine ⟨fun m34 => ?_, fun m34 => ?_⟩
          · replace m34 := bI_z m34
            refine ⟨rfl, trivial, ?_⟩
            first | exact ⟨⟨_, rfl, rfl⟩, hI⟩ | (exfalso; (first | omega | (simp only [Int32.reduceToInt] at c4 m7 m15 m23 m34 ⊢; omega)))
          · replace m34 := bI_nz m34
            refine ⟨rfl, ?_⟩
            refine m_isIn ?_
            refine ⟨fun m46 => ?_, fun m46 => ?_⟩
            · replace m46 := bI_z m46
              refine ⟨rfl, trivial, ?_⟩
              first | exact ⟨⟨_, rfl, rfl⟩, hI⟩ | (exfalso; (first | omega | (simp only [Int32.reduceToInt] at c4 m7 m15 m23 m34 m46 ⊢; omega)))
            · replace m46 := bI_nz m46
              refine ⟨rfl, ?_⟩
              refine m_isIn ?_
              refine ⟨fun m57 => ?_, fun m57 => ?_⟩
              · replace m57 := bI_z m57
                refine ⟨rfl, trivial, ?_⟩
                first | exact ⟨⟨_, rfl, rfl⟩, hI⟩ | (exfalso; (first | omega | (simp only [Int32.reduceToInt] at c4 m7 m15 m23 m34 m46 m57 ⊢; omega)))
              · replace m57 := bI_nz m57
                refine ⟨rfl, rfl, ?_⟩
                refine m_isPast ?_
                refine ⟨fun m66 => ?_, fun m66 => ?_⟩
                · replace m66 := bI_z m66
                  refine ⟨rfl, trivial, ?_⟩
                  first | exact ⟨⟨_, rfl, rfl⟩, hI⟩ | (exfalso; (first | omega | (simp only [Int32.reduceToInt] at c4 m7 m15 m23 m34 m46 m57 m66 ⊢; omega)))
                · replace m66 := bI_nz m66
                  refine ⟨fun m78 => ?_, fun m78 => ?_⟩
                  · refine ⟨rfl, trivial, ?_⟩
                    first | exact ⟨⟨_, rfl, rfl⟩, hI⟩ | (exfalso; (first | omega | (simp only [Int32.reduceToInt] at c4 m7 m15 m23 m34 m46 m57 m66 m78 ⊢; omega)))
                  · refine ⟨fun m87 => ?_, fun m87 => ?_⟩
                    · refine ⟨rfl, trivial, ?_⟩
                      first | exact ⟨⟨_, rfl, rfl⟩, hI⟩ | (exfalso; (first | omega | (simp only [Int32.reduceToInt] at c4 m7 m15 m23 m34 m46 m57 m66 m78 m87 ⊢; omega)))
                    · refine ⟨(by decide), ?_⟩
                      refine ⟨_, rfl, ⟨(by (first | omega | (simp only [Int32.reduceToInt] at c4 m7 m15 m23 m34 m46 m57 m66 m78 m87 ⊢; omega)) : 0 ≤ (σ 88 4).toInt), (by (first | omega | (simp only [Int32.reduceToInt] at c4 m7 m15 m23 m34 m46 m57 m66 m78 m87 ⊢; omega)) : (σ 88 4).toInt < 30)⟩, ?_⟩
                      refine ⟨(by decide), ?_⟩
                      refine ⟨_, rfl, ⟨(by (first | omega | (simp only [Int32.reduceToInt] at c4 m7 m15 m23 m34 m46 m57 m66 m78 m87 ⊢; omega)) : 0 ≤ (σ 88 4).toInt), (by (first | omega | (simp only [Int32.reduceToInt] at c4 m7 m15 m23 m34 m46 m57 m66 m78 m87 ⊢; omega)) : (σ 88 4).toInt < 30)⟩, ?_⟩
                      refine ⟨_, rfl, ⟨(by (first | omega | (simp only [Int32.reduceToInt] at c4 m7 m15 m23 m34 m46 m57 m66 m78 m87 ⊢; omega)) : 0 ≤ (σ 88 4).toInt), (by (first | omega | (simp only [Int32.reduceToInt] at c4 m7 m15 m23 m34 m46 m57 m66 m78 m87 ⊢; omega)) : (σ 88 4).toInt < 30)⟩, ?_⟩
                      refine ⟨_, rfl, ⟨(by (first | omega | (simp only [Int32.reduceToInt] at c4 m7 m15 m23 m34 m46 m57 m66 m78 m87 ⊢; omega)) : 0 ≤ (σ 88 4).toInt), (by (first | omega | (simp only [Int32.reduceToInt] at c4 m7 m15 m23 m34 m46 m57 m66 m78 m87 ⊢; omega)) : (σ 88 4).toInt < 30)⟩, ?_⟩
                      refine ⟨_, rfl, ⟨(by (first | omega | (simp only [Int32.reduceToInt] at c4 m7 m15 m23 m34 m46 m57 m66 m78 m87 ⊢; omega)) : 0 ≤ (σ 88 4).toInt), (by (first | omega | (simp only [Int32.reduceToInt] at c4 m7 m15 m23 m34 m46 m57 m66 m78 m87 ⊢; omega)) : (σ 88 4).toInt < 30)⟩, ?_⟩
                      refine ⟨_, rfl, ⟨(by (first | omega | (simp only [Int32.reduceToInt] at c4 m7 m15 m23 m34 m46 m57 m66 m78 m87 ⊢; omega)) : 0 ≤ (σ 88 4).toInt), (by (first | omega | (simp only [Int32.reduceToInt] at c4 m7 m15 m23 m34 m46 m57 m66 m78 m87 ⊢; omega)) : (σ 88 4).toInt < 30)⟩, ?_⟩
                      refine ⟨rfl, rfl, ?_⟩
                      refine m_comes (by (first | omega | (simp only [Int32.reduceToInt] at c4 m7 m15 m23 m34 m46 m57 m66 m78 m87 ⊢; omega)) : 0 ≤ (σ 88 11).toInt) (by (first | omega | (simp only [Int32.reduceToInt] at c4 m7 m15 m23 m34 m46 m57 m66 m78 m87 ⊢; omega)) : (σ 88 11).toInt ≤ 100) (fun (hm174a : (σ 88 11).toInt = 100) => ?_) (fun (hm174a : (σ 88 11).toInt < 100) => ?_)
                      · refine ⟨rfl, trivial, ?_⟩
                        first | exact ⟨⟨_, rfl, rfl⟩, hI⟩ | (exfalso; (first | omega | (simp only [Int32.reduceToInt] at c4 m7 m15 m23 m34 m46 m57 m66 m78 m87 hm174a ⊢; omega)))
                      · refine ⟨rfl, trivial, ?_⟩
                        first | exact ⟨⟨_, rfl, rfl⟩, hI⟩ | (exfalso; (first | omega | (simp only [Int32.reduceToInt] at c4 m7 m15 m23 m34 m46 m57 m66 m78 m87 hm174a ⊢; omega)))
  · replace c4 := bI_nz c4
    refine ⟨rfl, rfl, ?_⟩
    refine s_hasFirm ?_
    refine ⟨fun c15 => ?_, fun c15 => ?_⟩
    · replace c15 := bI_z c15
      refine ⟨rfl, trivial, ?_⟩
      refine Call_st 200 fun Y hY => ?_
      refine ⟨rfl, ?_⟩
      refine m_isIn ?_
      refine ⟨fun m7 => ?_, fun m7 => ?_⟩
      · replace m7 := bI_z m7
        refine ⟨rfl, trivial, ?_⟩
        first | exact ⟨⟨_, rfl, rfl⟩, hI⟩ | (exfalso; (first | omega | (simp only [Int32.reduceToInt] at c4 c15 m7 ⊢; omega)))
      · replace m7 := bI_nz m7
        refine ⟨(by decide), ?_⟩
        refine ⟨fun m15 => ?_, fun m15 => ?_⟩
        · refine ⟨rfl, trivial, ?_⟩
          first | exact ⟨⟨_, rfl, rfl⟩, hI⟩ | (exfalso; (first | omega | (simp only [Int32.reduceToInt] at c4 c15 m7 m15 ⊢; omega)))
        · refine ⟨rfl, rfl, ?_⟩
          refine m_isFirm (by omega) ?_
          refine ⟨fun m23 => ?_, fun m23 => ?_⟩
          · replace m23 := bI_z m23
            refine ⟨rfl, trivial, ?_⟩
            first | exact ⟨⟨_, rfl, rfl⟩, hI⟩ | (exfalso; (first | omega | (simp only [Int32.reduceToInt] at c4 c15 m7 m15 m23 ⊢; omega)))
          · replace m23 := bI_nz m23
            refine ⟨rfl, ?_⟩
            refine m_isIn ?_
            refine ⟨fun m34 => ?_, fun m34 => ?_⟩
            · replace m34 := bI_z m34
              refine ⟨rfl, trivial, ?_⟩
              first | exact ⟨⟨_, rfl, rfl⟩, hI⟩ | (exfalso; (first | omega | (simp only [Int32.reduceToInt] at c4 c15 m7 m15 m23 m34 ⊢; omega)))
            · replace m34 := bI_nz m34
              refine ⟨rfl, ?_⟩
              refine m_isIn ?_
              refine ⟨fun m46 => ?_, fun m46 => ?_⟩
              · replace m46 := bI_z m46
                refine ⟨rfl, trivial, ?_⟩
                first | exact ⟨⟨_, rfl, rfl⟩, hI⟩ | (exfalso; (first | omega | (simp only [Int32.reduceToInt] at c4 c15 m7 m15 m23 m34 m46 ⊢; omega)))
              · replace m46 := bI_nz m46
                refine ⟨rfl, ?_⟩
                refine m_isIn ?_
                refine ⟨fun m57 => ?_, fun m57 => ?_⟩
                · replace m57 := bI_z m57
                  refine ⟨rfl, trivial, ?_⟩
                  first | exact ⟨⟨_, rfl, rfl⟩, hI⟩ | (exfalso; (first | omega | (simp only [Int32.reduceToInt] at c4 c15 m7 m15 m23 m34 m46 m57 ⊢; omega)))
                · replace m57 := bI_nz m57
                  refine ⟨rfl, rfl, ?_⟩
                  refine m_isPast ?_
                  refine ⟨fun m66 => ?_, fun m66 => ?_⟩
                  · replace m66 := bI_z m66
                    refine ⟨rfl, trivial, ?_⟩
                    first | exact ⟨⟨_, rfl, rfl⟩, hI⟩ | (exfalso; (first | omega | (simp only [Int32.reduceToInt] at c4 c15 m7 m15 m23 m34 m46 m57 m66 ⊢; omega)))
                  · replace m66 := bI_nz m66
                    refine ⟨fun m78 => ?_, fun m78 => ?_⟩
                    · refine ⟨rfl, trivial, ?_⟩
                      first | exact ⟨⟨_, rfl, rfl⟩, hI⟩ | (exfalso; (first | omega | (simp only [Int32.reduceToInt] at c4 c15 m7 m15 m23 m34 m46 m57 m66 m78 ⊢; omega)))
                    · refine ⟨fun m87 => ?_, fun m87 => ?_⟩
                      · refine ⟨rfl, trivial, ?_⟩
                        first | exact ⟨⟨_, rfl, rfl⟩, hI⟩ | (exfalso; (first | omega | (simp only [Int32.reduceToInt] at c4 c15 m7 m15 m23 m34 m46 m57 m66 m78 m87 ⊢; omega)))
                      · refine ⟨(by decide), ?_⟩
                        refine ⟨_, rfl, ⟨(by (first | omega | (simp only [Int32.reduceToInt] at c4 c15 m7 m15 m23 m34 m46 m57 m66 m78 m87 ⊢; omega)) : 0 ≤ (σ 88 4).toInt), (by (first | omega | (simp only [Int32.reduceToInt] at c4 c15 m7 m15 m23 m34 m46 m57 m66 m78 m87 ⊢; omega)) : (σ 88 4).toInt < 30)⟩, ?_⟩
                        refine ⟨(by decide), ?_⟩
                        refine ⟨_, rfl, ⟨(by (first | omega | (simp only [Int32.reduceToInt] at c4 c15 m7 m15 m23 m34 m46 m57 m66 m78 m87 ⊢; omega)) : 0 ≤ (σ 88 4).toInt), (by (first | omega | (simp only [Int32.reduceToInt] at c4 c15 m7 m15 m23 m34 m46 m57 m66 m78 m87 ⊢; omega)) : (σ 88 4).toInt < 30)⟩, ?_⟩
                        refine ⟨_, rfl, ⟨(by (first | omega | (simp only [Int32.reduceToInt] at c4 c15 m7 m15 m23 m34 m46 m57 m66 m78 m87 ⊢; omega)) : 0 ≤ (σ 88 4).toInt), (by (first | omega | (simp only [Int32.reduceToInt] at c4 c15 m7 m15 m23 m34 m46 m57 m66 m78 m87 ⊢; omega)) : (σ 88 4).toInt < 30)⟩, ?_⟩
                        refine ⟨_, rfl, ⟨(by (first | omega | (simp only [Int32.reduceToInt] at c4 c15 m7 m15 m23 m34 m46 m57 m66 m78 m87 ⊢; omega)) : 0 ≤ (σ 88 4).toInt), (by (first | omega | (simp only [Int32.reduceToInt] at c4 c15 m7 m15 m23 m34 m46 m57 m66 m78 m87 ⊢; omega)) : (σ 88 4).toInt < 30)⟩, ?_⟩
                        refine ⟨_, rfl, ⟨(by (first | omega | (simp only [Int32.reduceToInt] at c4 c15 m7 m15 m23 m34 m46 m57 m66 m78 m87 ⊢; omega)) : 0 ≤ (σ 88 4).toInt), (by (first | omega | (simp only [Int32.reduceToInt] at c4 c15 m7 m15 m23 m34 m46 m57 m66 m78 m87 ⊢; omega)) : (σ 88 4).toInt < 30)⟩, ?_⟩
                        refine ⟨_, rfl, ⟨(by (first | omega | (simp only [Int32.reduceToInt] at c4 c15 m7 m15 m23 m34 m46 m57 m66 m78 m87 ⊢; omega)) : 0 ≤ (σ 88 4).toInt), (by (first | omega | (simp only [Int32.reduceToInt] at c4 c15 m7 m15 m23 m34 m46 m57 m66 m78 m87 ⊢; omega)) : (σ 88 4).toInt < 30)⟩, ?_⟩
                        refine ⟨rfl, rfl, ?_⟩
                        refine m_comes (by (first | omega | (simp only [Int32.reduceToInt] at c4 c15 m7 m15 m23 m34 m46 m57 m66 m78 m87 ⊢; omega)) : 0 ≤ (σ 88 11).toInt) (by (first | omega | (simp only [Int32.reduceToInt] at c4 c15 m7 m15 m23 m34 m46 m57 m66 m78 m87 ⊢; omega)) : (σ 88 11).toInt ≤ 100) (fun (hm174a : (σ 88 11).toInt = 100) => ?_) (fun (hm174a : (σ 88 11).toInt < 100) => ?_)
                        · refine ⟨rfl, trivial, ?_⟩
                          first | exact ⟨⟨_, rfl, rfl⟩, hI⟩ | (exfalso; (first | omega | (simp only [Int32.reduceToInt] at c4 c15 m7 m15 m23 m34 m46 m57 m66 m78 m87 hm174a ⊢; omega)))
                        · refine ⟨rfl, trivial, ?_⟩
                          first | exact ⟨⟨_, rfl, rfl⟩, hI⟩ | (exfalso; (first | omega | (simp only [Int32.reduceToInt] at c4 c15 m7 m15 m23 m34 m46 m57 m66 m78 m87 hm174a ⊢; omega)))
    · replace c15 := bI_nz c15
      refine ⟨rfl, ?_⟩
      refine s_within ?_
      refine ⟨fun c26 => ?_, fun c26 => ?_⟩
      · replace c26 := bI_z c26
        refine ⟨rfl, trivial, ?_⟩
        refine Call_st 200 fun Y hY => ?_
        refine ⟨rfl, ?_⟩
        refine m_isIn ?_
        refine ⟨fun m7 => ?_, fun m7 => ?_⟩
        · replace m7 := bI_z m7
          refine ⟨rfl, trivial, ?_⟩
          first | exact ⟨⟨_, rfl, rfl⟩, hI⟩ | (exfalso; (first | omega | (simp only [Int32.reduceToInt] at c4 c15 c26 m7 ⊢; omega)))
        · replace m7 := bI_nz m7
          refine ⟨(by decide), ?_⟩
          refine ⟨fun m15 => ?_, fun m15 => ?_⟩
          · refine ⟨rfl, trivial, ?_⟩
            first | exact ⟨⟨_, rfl, rfl⟩, hI⟩ | (exfalso; (first | omega | (simp only [Int32.reduceToInt] at c4 c15 c26 m7 m15 ⊢; omega)))
          · refine ⟨rfl, rfl, ?_⟩
            refine m_isFirm (by omega) ?_
            refine ⟨fun m23 => ?_, fun m23 => ?_⟩
            · replace m23 := bI_z m23
              refine ⟨rfl, trivial, ?_⟩
              first | exact ⟨⟨_, rfl, rfl⟩, hI⟩ | (exfalso; (first | omega | (simp only [Int32.reduceToInt] at c4 c15 c26 m7 m15 m23 ⊢; omega)))
            · replace m23 := bI_nz m23
              refine ⟨rfl, ?_⟩
              refine m_isIn ?_
              refine ⟨fun m34 => ?_, fun m34 => ?_⟩
              · replace m34 := bI_z m34
                refine ⟨rfl, trivial, ?_⟩
                first | exact ⟨⟨_, rfl, rfl⟩, hI⟩ | (exfalso; (first | omega | (simp only [Int32.reduceToInt] at c4 c15 c26 m7 m15 m23 m34 ⊢; omega)))
              · replace m34 := bI_nz m34
                refine ⟨rfl, ?_⟩
                refine m_isIn ?_
                refine ⟨fun m46 => ?_, fun m46 => ?_⟩
                · replace m46 := bI_z m46
                  refine ⟨rfl, trivial, ?_⟩
                  first | exact ⟨⟨_, rfl, rfl⟩, hI⟩ | (exfalso; (first | omega | (simp only [Int32.reduceToInt] at c4 c15 c26 m7 m15 m23 m34 m46 ⊢; omega)))
                · replace m46 := bI_nz m46
                  refine ⟨rfl, ?_⟩
                  refine m_isIn ?_
                  refine ⟨fun m57 => ?_, fun m57 => ?_⟩
                  · replace m57 := bI_z m57
                    refine ⟨rfl, trivial, ?_⟩
                    first | exact ⟨⟨_, rfl, rfl⟩, hI⟩ | (exfalso; (first | omega | (simp only [Int32.reduceToInt] at c4 c15 c26 m7 m15 m23 m34 m46 m57 ⊢; omega)))
                  · replace m57 := bI_nz m57
                    refine ⟨rfl, rfl, ?_⟩
                    refine m_isPast ?_
                    refine ⟨fun m66 => ?_, fun m66 => ?_⟩
                    · replace m66 := bI_z m66
                      refine ⟨rfl, trivial, ?_⟩
                      first | exact ⟨⟨_, rfl, rfl⟩, hI⟩ | (exfalso; (first | omega | (simp only [Int32.reduceToInt] at c4 c15 c26 m7 m15 m23 m34 m46 m57 m66 ⊢; omega)))
                    · replace m66 := bI_nz m66
                      refine ⟨fun m78 => ?_, fun m78 => ?_⟩
                      · refine ⟨rfl, trivial, ?_⟩
                        first | exact ⟨⟨_, rfl, rfl⟩, hI⟩ | (exfalso; (first | omega | (simp only [Int32.reduceToInt] at c4 c15 c26 m7 m15 m23 m34 m46 m57 m66 m78 ⊢; omega)))
                      · refine ⟨fun m87 => ?_, fun m87 => ?_⟩
                        · refine ⟨rfl, trivial, ?_⟩
                          first | exact ⟨⟨_, rfl, rfl⟩, hI⟩ | (exfalso; (first | omega | (simp only [Int32.reduceToInt] at c4 c15 c26 m7 m15 m23 m34 m46 m57 m66 m78 m87 ⊢; omega)))
                        · refine ⟨(by decide), ?_⟩
                          refine ⟨_, rfl, ⟨(by (first | omega | (simp only [Int32.reduceToInt] at c4 c15 c26 m7 m15 m23 m34 m46 m57 m66 m78 m87 ⊢; omega)) : 0 ≤ (σ 88 4).toInt), (by (first | omega | (simp only [Int32.reduceToInt] at c4 c15 c26 m7 m15 m23 m34 m46 m57 m66 m78 m87 ⊢; omega)) : (σ 88 4).toInt < 30)⟩, ?_⟩
                          refine ⟨(by decide), ?_⟩
                          refine ⟨_, rfl, ⟨(by (first | omega | (simp only [Int32.reduceToInt] at c4 c15 c26 m7 m15 m23 m34 m46 m57 m66 m78 m87 ⊢; omega)) : 0 ≤ (σ 88 4).toInt), (by (first | omega | (simp only [Int32.reduceToInt] at c4 c15 c26 m7 m15 m23 m34 m46 m57 m66 m78 m87 ⊢; omega)) : (σ 88 4).toInt < 30)⟩, ?_⟩
                          refine ⟨_, rfl, ⟨(by (first | omega | (simp only [Int32.reduceToInt] at c4 c15 c26 m7 m15 m23 m34 m46 m57 m66 m78 m87 ⊢; omega)) : 0 ≤ (σ 88 4).toInt), (by (first | omega | (simp only [Int32.reduceToInt] at c4 c15 c26 m7 m15 m23 m34 m46 m57 m66 m78 m87 ⊢; omega)) : (σ 88 4).toInt < 30)⟩, ?_⟩
                          refine ⟨_, rfl, ⟨(by (first | omega | (simp only [Int32.reduceToInt] at c4 c15 c26 m7 m15 m23 m34 m46 m57 m66 m78 m87 ⊢; omega)) : 0 ≤ (σ 88 4).toInt), (by (first | omega | (simp only [Int32.reduceToInt] at c4 c15 c26 m7 m15 m23 m34 m46 m57 m66 m78 m87 ⊢; omega)) : (σ 88 4).toInt < 30)⟩, ?_⟩
                          refine ⟨_, rfl, ⟨(by (first | omega | (simp only [Int32.reduceToInt] at c4 c15 c26 m7 m15 m23 m34 m46 m57 m66 m78 m87 ⊢; omega)) : 0 ≤ (σ 88 4).toInt), (by (first | omega | (simp only [Int32.reduceToInt] at c4 c15 c26 m7 m15 m23 m34 m46 m57 m66 m78 m87 ⊢; omega)) : (σ 88 4).toInt < 30)⟩, ?_⟩
                          refine ⟨_, rfl, ⟨(by (first | omega | (simp only [Int32.reduceToInt] at c4 c15 c26 m7 m15 m23 m34 m46 m57 m66 m78 m87 ⊢; omega)) : 0 ≤ (σ 88 4).toInt), (by (first | omega | (simp only [Int32.reduceToInt] at c4 c15 c26 m7 m15 m23 m34 m46 m57 m66 m78 m87 ⊢; omega)) : (σ 88 4).toInt < 30)⟩, ?_⟩
                          refine ⟨rfl, rfl, ?_⟩
                          refine m_comes (by (first | omega | (simp only [Int32.reduceToInt] at c4 c15 c26 m7 m15 m23 m34 m46 m57 m66 m78 m87 ⊢; omega)) : 0 ≤ (σ 88 11).toInt) (by (first | omega | (simp only [Int32.reduceToInt] at c4 c15 c26 m7 m15 m23 m34 m46 m57 m66 m78 m87 ⊢; omega)) : (σ 88 11).toInt ≤ 100) (fun (hm174a : (σ 88 11).toInt = 100) => ?_) (fun (hm174a : (σ 88 11).toInt < 100) => ?_)
                          · refine ⟨rfl, trivial, ?_⟩
                            first | exact ⟨⟨_, rfl, rfl⟩, hI⟩ | (exfalso; (first | omega | (simp only [Int32.reduceToInt] at c4 c15 c26 m7 m15 m23 m34 m46 m57 m66 m78 m87 hm174a ⊢; omega)))
                          · refine ⟨rfl, trivial, ?_⟩
                            first | exact ⟨⟨_, rfl, rfl⟩, hI⟩ | (exfalso; (first | omega | (simp only [Int32.reduceToInt] at c4 c15 c26 m7 m15 m23 m34 m46 m57 m66 m78 m87 hm174a ⊢; omega)))
      · replace c26 := bI_nz c26
        refine ⟨rfl, ?_⟩
        refine s_within ?_
        refine ⟨fun c38 => ?_, fun c38 => ?_⟩
        · replace c38 := bI_z c38
          refine ⟨rfl, trivial, ?_⟩
          refine Call_st 200 fun Y hY => ?_
          refine ⟨rfl, ?_⟩
          refine m_isIn ?_
          refine ⟨fun m7 => ?_, fun m7 => ?_⟩
          · replace m7 := bI_z m7
            refine ⟨rfl, trivial, ?_⟩
            first | exact ⟨⟨_, rfl, rfl⟩, hI⟩ | (exfalso; (first | omega | (simp only [Int32.reduceToInt] at c4 c15 c26 c38 m7 ⊢; omega)))
          · replace m7 := bI_nz m7
            refine ⟨(by decide), ?_⟩
            refine ⟨fun m15 => ?_, fun m15 => ?_⟩
            · refine ⟨rfl, trivial, ?_⟩
              first | exact ⟨⟨_, rfl, rfl⟩, hI⟩ | (exfalso; (first | omega | (simp only [Int32.reduceToInt] at c4 c15 c26 c38 m7 m15 ⊢; omega)))
            · refine ⟨rfl, rfl, ?_⟩
              refine m_isFirm (by omega) ?_
              refine ⟨fun m23 => ?_, fun m23 => ?_⟩
              · replace m23 := bI_z m23
                refine ⟨rfl, trivial, ?_⟩
                first | exact ⟨⟨_, rfl, rfl⟩, hI⟩ | (exfalso; (first | omega | (simp only [Int32.reduceToInt] at c4 c15 c26 c38 m7 m15 m23 ⊢; omega)))
              · replace m23 := bI_nz m23
                refine ⟨rfl, ?_⟩
                refine m_isIn ?_
                refine ⟨fun m34 => ?_, fun m34 => ?_⟩
                · replace m34 := bI_z m34
                  refine ⟨rfl, trivial, ?_⟩
                  first | exact ⟨⟨_, rfl, rfl⟩, hI⟩ | (exfalso; (first | omega | (simp only [Int32.reduceToInt] at c4 c15 c26 c38 m7 m15 m23 m34 ⊢; omega)))
                · replace m34 := bI_nz m34
                  refine ⟨rfl, ?_⟩
                  refine m_isIn ?_
                  refine ⟨fun m46 => ?_, fun m46 => ?_⟩
                  · replace m46 := bI_z m46
                    refine ⟨rfl, trivial, ?_⟩
                    first | exact ⟨⟨_, rfl, rfl⟩, hI⟩ | (exfalso; (first | omega | (simp only [Int32.reduceToInt] at c4 c15 c26 c38 m7 m15 m23 m34 m46 ⊢; omega)))
                  · replace m46 := bI_nz m46
                    refine ⟨rfl, ?_⟩
                    refine m_isIn ?_
                    refine ⟨fun m57 => ?_, fun m57 => ?_⟩
                    · replace m57 := bI_z m57
                      refine ⟨rfl, trivial, ?_⟩
                      first | exact ⟨⟨_, rfl, rfl⟩, hI⟩ | (exfalso; (first | omega | (simp only [Int32.reduceToInt] at c4 c15 c26 c38 m7 m15 m23 m34 m46 m57 ⊢; omega)))
                    · replace m57 := bI_nz m57
                      refine ⟨rfl, rfl, ?_⟩
                      refine m_isPast ?_
                      refine ⟨fun m66 => ?_, fun m66 => ?_⟩
                      · replace m66 := bI_z m66
                        refine ⟨rfl, trivial, ?_⟩
                        first | exact ⟨⟨_, rfl, rfl⟩, hI⟩ | (exfalso; (first | omega | (simp only [Int32.reduceToInt] at c4 c15 c26 c38 m7 m15 m23 m34 m46 m57 m66 ⊢; omega)))
                      · replace m66 := bI_nz m66
                        refine ⟨fun m78 => ?_, fun m78 => ?_⟩
                        · refine ⟨rfl, trivial, ?_⟩
                          first | exact ⟨⟨_, rfl, rfl⟩, hI⟩ | (exfalso; (first | omega | (simp only [Int32.reduceToInt] at c4 c15 c26 c38 m7 m15 m23 m34 m46 m57 m66 m78 ⊢; omega)))
                        · refine ⟨fun m87 => ?_, fun m87 => ?_⟩
                          · refine ⟨rfl, trivial, ?_⟩
                            first | exact ⟨⟨_, rfl, rfl⟩, hI⟩ | (exfalso; (first | omega | (simp only [Int32.reduceToInt] at c4 c15 c26 c38 m7 m15 m23 m34 m46 m57 m66 m78 m87 ⊢; omega)))
                          · refine ⟨(by decide), ?_⟩
                            refine ⟨_, rfl, ⟨(by (first | omega | (simp only [Int32.reduceToInt] at c4 c15 c26 c38 m7 m15 m23 m34 m46 m57 m66 m78 m87 ⊢; omega)) : 0 ≤ (σ 88 4).toInt), (by (first | omega | (simp only [Int32.reduceToInt] at c4 c15 c26 c38 m7 m15 m23 m34 m46 m57 m66 m78 m87 ⊢; omega)) : (σ 88 4).toInt < 30)⟩, ?_⟩
                            refine ⟨(by decide), ?_⟩
                            refine ⟨_, rfl, ⟨(by (first | omega | (simp only [Int32.reduceToInt] at c4 c15 c26 c38 m7 m15 m23 m34 m46 m57 m66 m78 m87 ⊢; omega)) : 0 ≤ (σ 88 4).toInt), (by (first | omega | (simp only [Int32.reduceToInt] at c4 c15 c26 c38 m7 m15 m23 m34 m46 m57 m66 m78 m87 ⊢; omega)) : (σ 88 4).toInt < 30)⟩, ?_⟩
                            refine ⟨_, rfl, ⟨(by (first | omega | (simp only [Int32.reduceToInt] at c4 c15 c26 c38 m7 m15 m23 m34 m46 m57 m66 m78 m87 ⊢; omega)) : 0 ≤ (σ 88 4).toInt), (by (first | omega | (simp only [Int32.reduceToInt] at c4 c15 c26 c38 m7 m15 m23 m34 m46 m57 m66 m78 m87 ⊢; omega)) : (σ 88 4).toInt < 30)⟩, ?_⟩
                            refine ⟨_, rfl, ⟨(by (first | omega | (simp only [Int32.reduceToInt] at c4 c15 c26 c38 m7 m15 m23 m34 m46 m57 m66 m78 m87 ⊢; omega)) : 0 ≤ (σ 88 4).toInt), (by (first | omega | (simp only [Int32.reduceToInt] at c4 c15 c26 c38 m7 m15 m23 m34 m46 m57 m66 m78 m87 ⊢; omega)) : (σ 88 4).toInt < 30)⟩, ?_⟩
                            refine ⟨_, rfl, ⟨(by (first | omega | (simp only [Int32.reduceToInt] at c4 c15 c26 c38 m7 m15 m23 m34 m46 m57 m66 m78 m87 ⊢; omega)) : 0 ≤ (σ 88 4).toInt), (by (first | omega | (simp only [Int32.reduceToInt] at c4 c15 c26 c38 m7 m15 m23 m34 m46 m57 m66 m78 m87 ⊢; omega)) : (σ 88 4).toInt < 30)⟩, ?_⟩
                            refine ⟨_, rfl, ⟨(by (first | omega | (simp only [Int32.reduceToInt] at c4 c15 c26 c38 m7 m15 m23 m34 m46 m57 m66 m78 m87 ⊢; omega)) : 0 ≤ (σ 88 4).toInt), (by (first | omega | (simp only [Int32.reduceToInt] at c4 c15 c26 c38 m7 m15 m23 m34 m46 m57 m66 m78 m87 ⊢; omega)) : (σ 88 4).toInt < 30)⟩, ?_⟩
                            refine ⟨rfl, rfl, ?_⟩
                            refine m_comes (by (first | omega | (simp only [Int32.reduceToInt] at c4 c15 c26 c38 m7 m15 m23 m34 m46 m57 m66 m78 m87 ⊢; omega)) : 0 ≤ (σ 88 11).toInt) (by (first | omega | (simp only [Int32.reduceToInt] at c4 c15 c26 c38 m7 m15 m23 m34 m46 m57 m66 m78 m87 ⊢; omega)) : (σ 88 11).toInt ≤ 100) (fun (hm174a : (σ 88 11).toInt = 100) => ?_) (fun (hm174a : (σ 88 11).toInt < 100) => ?_)
                            · refine ⟨rfl, trivial, ?_⟩
                              first | exact ⟨⟨_, rfl, rfl⟩, hI⟩ | (exfalso; (first | omega | (simp only [Int32.reduceToInt] at c4 c15 c26 c38 m7 m15 m23 m34 m46 m57 m66 m78 m87 hm174a ⊢; omega)))
                            · refine ⟨rfl, trivial, ?_⟩
                              first | exact ⟨⟨_, rfl, rfl⟩, hI⟩ | (exfalso; (first | omega | (simp only [Int32.reduceToInt] at c4 c15 c26 c38 m7 m15 m23 m34 m46 m57 m66 m78 m87 hm174a ⊢; omega)))
        · replace c38 := bI_nz c38
          refine ⟨rfl, ?_⟩
          refine s_within ?_
          refine ⟨fun c49 => ?_, fun c49 => ?_⟩
          · replace c49 := bI_z c49
            refine ⟨rfl, trivial, ?_⟩
            refine Call_st 200 fun Y hY => ?_
            refine ⟨rfl, ?_⟩
            refine m_isIn ?_
            refine ⟨fun m7 => ?_, fun m7 => ?_⟩
            · replace m7 := bI_z m7
              refine ⟨rfl, trivial, ?_⟩
              first | exact ⟨⟨_, rfl, rfl⟩, hI⟩ | (exfalso; (first | omega | (simp only [Int32.reduceToInt] at c4 c15 c26 c38 c49 m7 ⊢; omega)))
            · replace m7 := bI_nz m7
              refine ⟨(by decide), ?_⟩
              refine ⟨fun m15 => ?_, fun m15 => ?_⟩
              · refine ⟨rfl, trivial, ?_⟩
                first | exact ⟨⟨_, rfl, rfl⟩, hI⟩ | (exfalso; (first | omega | (simp only [Int32.reduceToInt] at c4 c15 c26 c38 c49 m7 m15 ⊢; omega)))
              · refine ⟨rfl, rfl, ?_⟩
                refine m_isFirm (by omega) ?_
                refine ⟨fun m23 => ?_, fun m23 => ?_⟩
                · replace m23 := bI_z m23
                  refine ⟨rfl, trivial, ?_⟩
                  first | exact ⟨⟨_, rfl, rfl⟩, hI⟩ | (exfalso; (first | omega | (simp only [Int32.reduceToInt] at c4 c15 c26 c38 c49 m7 m15 m23 ⊢; omega)))
                · replace m23 := bI_nz m23
                  refine ⟨rfl, ?_⟩
                  refine m_isIn ?_
                  refine ⟨fun m34 => ?_, fun m34 => ?_⟩
                  · replace m34 := bI_z m34
                    refine ⟨rfl, trivial, ?_⟩
                    first | exact ⟨⟨_, rfl, rfl⟩, hI⟩ | (exfalso; (first | omega | (simp only [Int32.reduceToInt] at c4 c15 c26 c38 c49 m7 m15 m23 m34 ⊢; omega)))
                  · replace m34 := bI_nz m34
                    refine ⟨rfl, ?_⟩
                    refine m_isIn ?_
                    refine ⟨fun m46 => ?_, fun m46 => ?_⟩
                    · replace m46 := bI_z m46
                      refine ⟨rfl, trivial, ?_⟩
                      first | exact ⟨⟨_, rfl, rfl⟩, hI⟩ | (exfalso; (first | omega | (simp only [Int32.reduceToInt] at c4 c15 c26 c38 c49 m7 m15 m23 m34 m46 ⊢; omega)))
                    · replace m46 := bI_nz m46
                      refine ⟨rfl, ?_⟩
                      refine m_isIn ?_
                      refine ⟨fun m57 => ?_, fun m57 => ?_⟩
                      · replace m57 := bI_z m57
                        refine ⟨rfl, trivial, ?_⟩
                        first | exact ⟨⟨_, rfl, rfl⟩, hI⟩ | (exfalso; (first | omega | (simp only [Int32.reduceToInt] at c4 c15 c26 c38 c49 m7 m15 m23 m34 m46 m57 ⊢; omega)))
                      · replace m57 := bI_nz m57
                        refine ⟨rfl, rfl, ?_⟩
                        refine m_isPast ?_
                        refine ⟨fun m66 => ?_, fun m66 => ?_⟩
                        · replace m66 := bI_z m66
                          refine ⟨rfl, trivial, ?_⟩
                          first | exact ⟨⟨_, rfl, rfl⟩, hI⟩ | (exfalso; (first | omega | (simp only [Int32.reduceToInt] at c4 c15 c26 c38 c49 m7 m15 m23 m34 m46 m57 m66 ⊢; omega)))
                        · replace m66 := bI_nz m66
                          refine ⟨fun m78 => ?_, fun m78 => ?_⟩
                          · refine ⟨rfl, trivial, ?_⟩
                            first | exact ⟨⟨_, rfl, rfl⟩, hI⟩ | (exfalso; (first | omega | (simp only [Int32.reduceToInt] at c4 c15 c26 c38 c49 m7 m15 m23 m34 m46 m57 m66 m78 ⊢; omega)))
                          · refine ⟨fun m87 => ?_, fun m87 => ?_⟩
                            · refine ⟨rfl, trivial, ?_⟩
                              first | exact ⟨⟨_, rfl, rfl⟩, hI⟩ | (exfalso; (first | omega | (simp only [Int32.reduceToInt] at c4 c15 c26 c38 c49 m7 m15 m23 m34 m46 m57 m66 m78 m87 ⊢; omega)))
                            · refine ⟨(by decide), ?_⟩
                              refine ⟨_, rfl, ⟨(by (first | omega | (simp only [Int32.reduceToInt] at c4 c15 c26 c38 c49 m7 m15 m23 m34 m46 m57 m66 m78 m87 ⊢; omega)) : 0 ≤ (σ 88 4).toInt), (by (first | omega | (simp only [Int32.reduceToInt] at c4 c15 c26 c38 c49 m7 m15 m23 m34 m46 m57 m66 m78 m87 ⊢; omega)) : (σ 88 4).toInt < 30)⟩, ?_⟩
                              refine ⟨(by decide), ?_⟩
                              refine ⟨_, rfl, ⟨(by (first | omega | (simp only [Int32.reduceToInt] at c4 c15 c26 c38 c49 m7 m15 m23 m34 m46 m57 m66 m78 m87 ⊢; omega)) : 0 ≤ (σ 88 4).toInt), (by (first | omega | (simp only [Int32.reduceToInt] at c4 c15 c26 c38 c49 m7 m15 m23 m34 m46 m57 m66 m78 m87 ⊢; omega)) : (σ 88 4).toInt < 30)⟩, ?_⟩
                              refine ⟨_, rfl, ⟨(by (first | omega | (simp only [Int32.reduceToInt] at c4 c15 c26 c38 c49 m7 m15 m23 m34 m46 m57 m66 m78 m87 ⊢; omega)) : 0 ≤ (σ 88 4).toInt), (by (first | omega | (simp only [Int32.reduceToInt] at c4 c15 c26 c38 c49 m7 m15 m23 m34 m46 m57 m66 m78 m87 ⊢; omega)) : (σ 88 4).toInt < 30)⟩, ?_⟩
                              refine ⟨_, rfl, ⟨(by (first | omega | (simp only [Int32.reduceToInt] at c4 c15 c26 c38 c49 m7 m15 m23 m34 m46 m57 m66 m78 m87 ⊢; omega)) : 0 ≤ (σ 88 4).toInt), (by (first | omega | (simp only [Int32.reduceToInt] at c4 c15 c26 c38 c49 m7 m15 m23 m34 m46 m57 m66 m78 m87 ⊢; omega)) : (σ 88 4).toInt < 30)⟩, ?_⟩
                              refine ⟨_, rfl, ⟨(by (first | omega | (simp only [Int32.reduceToInt] at c4 c15 c26 c38 c49 m7 m15 m23 m34 m46 m57 m66 m78 m87 ⊢; omega)) : 0 ≤ (σ 88 4).toInt), (by (first | omega | (simp only [Int32.reduceToInt] at c4 c15 c26 c38 c49 m7 m15 m23 m34 m46 m57 m66 m78 m87 ⊢; omega)) : (σ 88 4).toInt < 30)⟩, ?_⟩
                              refine ⟨_, rfl, ⟨(by (first | omega | (simp only [Int32.reduceToInt] at c4 c15 c26 c38 c49 m7 m15 m23 m34 m46 m57 m66 m78 m87 ⊢; omega)) : 0 ≤ (σ 88 4).toInt), (by (first | omega | (simp only [Int32.reduceToInt] at c4 c15 c26 c38 c49 m7 m15 m23 m34 m46 m57 m66 m78 m87 ⊢; omega)) : (σ 88 4).toInt < 30)⟩, ?_⟩
                              refine ⟨rfl, rfl, ?_⟩
                              refine m_comes (by (first | omega | (simp only [Int32.reduceToInt] at c4 c15 c26 c38 c49 m7 m15 m23 m34 m46 m57 m66 m78 m87 ⊢; omega)) : 0 ≤ (σ 88 11).toInt) (by (first | omega | (simp only [Int32.reduceToInt] at c4 c15 c26 c38 c49 m7 m15 m23 m34 m46 m57 m66 m78 m87 ⊢; omega)) : (σ 88 11).toInt ≤ 100) (fun (hm174a : (σ 88 11).toInt = 100) => ?_) (fun (hm174a : (σ 88 11).toInt < 100) => ?_)
                              · refine ⟨rfl, trivial, ?_⟩
                                first | exact ⟨⟨_, rfl, rfl⟩, hI⟩ | (exfalso; (first | omega | (simp only [Int32.reduceToInt] at c4 c15 c26 c38 c49 m7 m15 m23 m34 m46 m57 m66 m78 m87 hm174a ⊢; omega)))
                              · refine ⟨rfl, trivial, ?_⟩
                                first | exact ⟨⟨_, rfl, rfl⟩, hI⟩ | (exfalso; (first | omega | (simp only [Int32.reduceToInt] at c4 c15 c26 c38 c49 m7 m15 m23 m34 m46 m57 m66 m78 m87 hm174a ⊢; omega)))
          · replace c49 := bI_nz c49
            refine ⟨rfl, rfl, ?_⟩
            refine s_hasBeen ?_
            refine ⟨fun c61 => ?_, fun c61 => ?_⟩
            · replace c61 := bI_z c61
              refine ⟨rfl, trivial, ?_⟩
              refine Call_st 200 fun Y hY => ?_
              refine ⟨rfl, ?_⟩
              refine m_isIn ?_
              refine ⟨fun m7 => ?_, fun m7 => ?_⟩
              · replace m7 := bI_z m7
                refine ⟨rfl, trivial, ?_⟩
                first | exact ⟨⟨_, rfl, rfl⟩, hI⟩ | (exfalso; (first | omega | (simp only [Int32.reduceToInt] at c4 c15 c26 c38 c49 c61 m7 ⊢; omega)))
              · replace m7 := bI_nz m7
                refine ⟨(by decide), ?_⟩
                refine ⟨fun m15 => ?_, fun m15 => ?_⟩
                · refine ⟨rfl, trivial, ?_⟩
                  first | exact ⟨⟨_, rfl, rfl⟩, hI⟩ | (exfalso; (first | omega | (simp only [Int32.reduceToInt] at c4 c15 c26 c38 c49 c61 m7 m15 ⊢; omega)))
                · refine ⟨rfl, rfl, ?_⟩
                  refine m_isFirm (by omega) ?_
                  refine ⟨fun m23 => ?_, fun m23 => ?_⟩
                  · replace m23 := bI_z m23
                    refine ⟨rfl, trivial, ?_⟩
                    first | exact ⟨⟨_, rfl, rfl⟩, hI⟩ | (exfalso; (first | omega | (simp only [Int32.reduceToInt] at c4 c15 c26 c38 c49 c61 m7 m15 m23 ⊢; omega)))
                  · replace m23 := bI_nz m23
                    refine ⟨rfl, ?_⟩
                    refine m_isIn ?_
                    refine ⟨fun m34 => ?_, fun m34 => ?_⟩
                    · replace m34 := bI_z m34
                      refine ⟨rfl, trivial, ?_⟩
                      first | exact ⟨⟨_, rfl, rfl⟩, hI⟩ | (exfalso; (first | omega | (simp only [Int32.reduceToInt] at c4 c15 c26 c38 c49 c61 m7 m15 m23 m34 ⊢; omega)))
                    · replace m34 := bI_nz m34
                      refine ⟨rfl, ?_⟩
                      refine m_isIn ?_
                      refine ⟨fun m46 => ?_, fun m46 => ?_⟩
                      · replace m46 := bI_z m46
                        refine ⟨rfl, trivial, ?_⟩
                        first | exact ⟨⟨_, rfl, rfl⟩, hI⟩ | (exfalso; (first | omega | (simp only [Int32.reduceToInt] at c4 c15 c26 c38 c49 c61 m7 m15 m23 m34 m46 ⊢; omega)))
                      · replace m46 := bI_nz m46
                        refine ⟨rfl, ?_⟩
                        refine m_isIn ?_
                        refine ⟨fun m57 => ?_, fun m57 => ?_⟩
                        · replace m57 := bI_z m57
                          refine ⟨rfl, trivial, ?_⟩
                          first | exact ⟨⟨_, rfl, rfl⟩, hI⟩ | (exfalso; (first | omega | (simp only [Int32.reduceToInt] at c4 c15 c26 c38 c49 c61 m7 m15 m23 m34 m46 m57 ⊢; omega)))
                        · replace m57 := bI_nz m57
                          refine ⟨rfl, rfl, ?_⟩
                          refine m_isPast ?_
                          refine ⟨fun m66 => ?_, fun m66 => ?_⟩
                          · replace m66 := bI_z m66
                            refine ⟨rfl, trivial, ?_⟩
                            first | exact ⟨⟨_, rfl, rfl⟩, hI⟩ | (exfalso; (first | omega | (simp only [Int32.reduceToInt] at c4 c15 c26 c38 c49 c61 m7 m15 m23 m34 m46 m57 m66 ⊢; omega)))
                          · replace m66 := bI_nz m66
                            refine ⟨fun m78 => ?_, fun m78 => ?_⟩
                            · refine ⟨rfl, trivial, ?_⟩
                              first | exact ⟨⟨_, rfl, rfl⟩, hI⟩ | (exfalso; (first | omega | (simp only [Int32.reduceToInt] at c4 c15 c26 c38 c49 c61 m7 m15 m23 m34 m46 m57 m66 m78 ⊢; omega)))
                            · refine ⟨fun m87 => ?_, fun m87 => ?_⟩
                              · refine ⟨rfl, trivial, ?_⟩
                                first | exact ⟨⟨_, rfl, rfl⟩, hI⟩ | (exfalso; (first | omega | (simp only [Int32.reduceToInt] at c4 c15 c26 c38 c49 c61 m7 m15 m23 m34 m46 m57 m66 m78 m87 ⊢; omega)))
                              · refine ⟨(by decide), ?_⟩
                                refine ⟨_, rfl, ⟨(by (first | omega | (simp only [Int32.reduceToInt] at c4 c15 c26 c38 c49 c61 m7 m15 m23 m34 m46 m57 m66 m78 m87 ⊢; omega)) : 0 ≤ (σ 88 4).toInt), (by (first | omega | (simp only [Int32.reduceToInt] at c4 c15 c26 c38 c49 c61 m7 m15 m23 m34 m46 m57 m66 m78 m87 ⊢; omega)) : (σ 88 4).toInt < 30)⟩, ?_⟩
                                refine ⟨(by decide), ?_⟩
                                refine ⟨_, rfl, ⟨(by (first | omega | (simp only [Int32.reduceToInt] at c4 c15 c26 c38 c49 c61 m7 m15 m23 m34 m46 m57 m66 m78 m87 ⊢; omega)) : 0 ≤ (σ 88 4).toInt), (by (first | omega | (simp only [Int32.reduceToInt] at c4 c15 c26 c38 c49 c61 m7 m15 m23 m34 m46 m57 m66 m78 m87 ⊢; omega)) : (σ 88 4).toInt < 30)⟩, ?_⟩
                                refine ⟨_, rfl, ⟨(by (first | omega | (simp only [Int32.reduceToInt] at c4 c15 c26 c38 c49 c61 m7 m15 m23 m34 m46 m57 m66 m78 m87 ⊢; omega)) : 0 ≤ (σ 88 4).toInt), (by (first | omega | (simp only [Int32.reduceToInt] at c4 c15 c26 c38 c49 c61 m7 m15 m23 m34 m46 m57 m66 m78 m87 ⊢; omega)) : (σ 88 4).toInt < 30)⟩, ?_⟩
                                refine ⟨_, rfl, ⟨(by (first | omega | (simp only [Int32.reduceToInt] at c4 c15 c26 c38 c49 c61 m7 m15 m23 m34 m46 m57 m66 m78 m87 ⊢; omega)) : 0 ≤ (σ 88 4).toInt), (by (first | omega | (simp only [Int32.reduceToInt] at c4 c15 c26 c38 c49 c61 m7 m15 m23 m34 m46 m57 m66 m78 m87 ⊢; omega)) : (σ 88 4).toInt < 30)⟩, ?_⟩
                                refine ⟨_, rfl, ⟨(by (first | omega | (simp only [Int32.reduceToInt] at c4 c15 c26 c38 c49 c61 m7 m15 m23 m34 m46 m57 m66 m78 m87 ⊢; omega)) : 0 ≤ (σ 88 4).toInt), (by (first | omega | (simp only [Int32.reduceToInt] at c4 c15 c26 c38 c49 c61 m7 m15 m23 m34 m46 m57 m66 m78 m87 ⊢; omega)) : (σ 88 4).toInt < 30)⟩, ?_⟩
                                refine ⟨_, rfl, ⟨(by (first | omega | (simp only [Int32.reduceToInt] at c4 c15 c26 c38 c49 c61 m7 m15 m23 m34 m46 m57 m66 m78 m87 ⊢; omega)) : 0 ≤ (σ 88 4).toInt), (by (first | omega | (simp only [Int32.reduceToInt] at c4 c15 c26 c38 c49 c61 m7 m15 m23 m34 m46 m57 m66 m78 m87 ⊢; omega)) : (σ 88 4).toInt < 30)⟩, ?_⟩
                                refine ⟨rfl, rfl, ?_⟩
                                refine m_comes (by (first | omega | (simp only [Int32.reduceToInt] at c4 c15 c26 c38 c49 c61 m7 m15 m23 m34 m46 m57 m66 m78 m87 ⊢; omega)) : 0 ≤ (σ 88 11).toInt) (by (first | omega | (simp only [Int32.reduceToInt] at c4 c15 c26 c38 c49 c61 m7 m15 m23 m34 m46 m57 m66 m78 m87 ⊢; omega)) : (σ 88 11).toInt ≤ 100) (fun (hm174a : (σ 88 11).toInt = 100) => ?_) (fun (hm174a : (σ 88 11).toInt < 100) => ?_)
                                · refine ⟨rfl, trivial, ?_⟩
                                  first | exact ⟨⟨_, rfl, rfl⟩, hI⟩ | (exfalso; (first | omega | (simp only [Int32.reduceToInt] at c4 c15 c26 c38 c49 c61 m7 m15 m23 m34 m46 m57 m66 m78 m87 hm174a ⊢; omega)))
                                · refine ⟨rfl, trivial, ?_⟩
                                  first | exact ⟨⟨_, rfl, rfl⟩, hI⟩ | (exfalso; (first | omega | (simp only [Int32.reduceToInt] at c4 c15 c26 c38 c49 c61 m7 m15 m23 m34 m46 m57 m66 m78 m87 hm174a ⊢; omega)))
            · replace c61 := bI_nz c61
              refine ⟨rfl, rfl, ?_⟩
              refine s_vfull ?_
              refine ⟨fun c74 => ?_, fun c74 => ?_⟩
              · replace c74 := bI_z c74
                refine ⟨rfl, rfl, ?_⟩
                refine s_lfull ?_
                refine ⟨fun c84 => ?_, fun c84 => ?_⟩
                · replace c84 := bI_z c84
                  refine ⟨rfl, rfl, ?_⟩
                  refine s_vapp v7 (by (first | omega | (simp only [Int32.reduceToInt] at c4 c15 c26 c38 c49 c61 c74 c84 ⊢; omega)) : (σ 3 0).toInt < 30) ?_
                  refine ⟨rfl, rfl, ?_⟩
                  refine s_lapp l6 (by (first | omega | (simp only [Int32.reduceToInt] at c4 c15 c26 c38 c49 c61 c74 c84 ⊢; omega)) : (σ 10 0).toInt < 100) hr ?_
                  refine ⟨rfl, trivial, ?_⟩
                  refine nxt fun τ hτ => ?_
                  have e88 : τ 88 = σ 88 := by rw [hτ]; rfl
                  have qτtoday : (τ 88 0).toInt = (σ 1 0).toInt := by rw [e88, t0]
                  have qτfirms : (τ 88 1).toInt = (σ 1 1).toInt := by rw [e88, t1]
                  have qτvouchers : (τ 88 4).toInt = (σ 3 0).toInt := by rw [e88, v0]
                  have qτlines : (τ 88 11).toInt = (σ 10 0).toInt := by rw [e88, l0]
                  refine Call_st 200 fun Y hY => ?_
                  refine ⟨rfl, ?_⟩
                  refine m_isIn ?_
                  refine ⟨fun m7 => ?_, fun m7 => ?_⟩
                  · replace m7 := bI_z m7
                    refine ⟨rfl, trivial, ?_⟩
                    first
                    | (exfalso; (first | omega | (simp only [Int32.reduceToInt] at c4 c15 c26 c38 c49 c61 c74 c84 m7 ⊢; omega)); done)
                    | (have z5 : (σ 10 0).toInt < 100 := by (first | omega | (simp only [Int32.reduceToInt] at c4 c15 c26 c38 c49 c61 c74 c84 m7 ⊢; omega))
                       have z6 : (σ 3 0).toInt < 30 := by (first | omega | (simp only [Int32.reduceToInt] at c4 c15 c26 c38 c49 c61 c74 c84 m7 ⊢; omega))
                       have zk := div10 (x := k) (by (first | omega | (simp only [Int32.reduceToInt] at c4 c15 c26 c38 c49 c61 c74 c84 m7 ⊢; omega)))
                       have zv : (0 ≤ (k / 10).toInt ∧ (k / 10).toInt ≤ 3) ∧ (0 ≤ (k - k / 10 * 10).toInt ∧ (k - k / 10 * 10).toInt ≤ 2) ∧ (0 ≤ f.toInt ∧ f.toInt < (σ 1 1).toInt) ∧ (0 ≤ c.toInt ∧ c.toInt ≤ 9999) ∧ (1 ≤ t.toInt ∧ t.toInt ≤ 900) ∧ (0 ≤ w.toInt ∧ w.toInt ≤ 100000) := by (first | omega | (simp only [Int32.reduceToInt] at c4 c15 c26 c38 c49 c61 c74 c84 m7 ⊢; omega))
                       have za : 0 ≤ a.toInt ∧ a.toInt ≤ (σ 1 0).toInt := by (first | omega | (simp only [Int32.reduceToInt] at c4 c15 c26 c38 c49 c61 c74 c84 m7 ⊢; omega))
                       have eb := add1 (x := σ 3 0) (by omega)
                       have C2 : τ 2 = σ 2 := by rw [hτ]; rfl
                       have C89 : τ 89 = σ 89 := by rw [hτ]; rfl
                       have C4 : τ 4 = upd (σ 4) (σ 3 0).toInt.toNat (k / 10) := by rw [hτ]; rfl
                       have C5 : τ 5 = upd (σ 5) (σ 3 0).toInt.toNat (k - k / 10 * 10) := by rw [hτ]; rfl
                       have C6 : τ 6 = upd (σ 6) (σ 3 0).toInt.toNat f := by rw [hτ]; rfl
                       have C7 : τ 7 = upd (σ 7) (σ 3 0).toInt.toNat c := by rw [hτ]; rfl
                       have C8 : τ 8 = upd (σ 8) (σ 3 0).toInt.toNat t := by rw [hτ]; rfl
                       have C9 : τ 9 = upd (σ 9) (σ 3 0).toInt.toNat w := by rw [hτ]; rfl
                       have C90 : τ 90 = σ 90 := by rw [hτ]; rfl
                       have C91 : τ 91 = σ 91 := by rw [hτ]; rfl
                       have C92 : τ 92 = σ 92 := by rw [hτ]; rfl
                       have C93 : τ 93 = σ 93 := by rw [hτ]; rfl
                       have C94 : τ 94 = σ 94 := by rw [hτ]; rfl
                       have C95 : τ 95 = σ 95 := by rw [hτ]; rfl
                       have C11 : τ 11 = upd (σ 11) (σ 10 0).toInt.toNat 0 := by rw [hτ]; rfl
                       have C12 : τ 12 = upd (σ 12) (σ 10 0).toInt.toNat (σ 3 0) := by rw [hτ]; rfl
                       have C13 : τ 13 = upd (σ 13) (σ 10 0).toInt.toNat a := by rw [hτ]; rfl
                       have C14 : τ 14 = upd (σ 14) (σ 10 0).toInt.toNat (σ 1 0) := by rw [hτ]; rfl
                       have C15 : τ 15 = upd (σ 15) (σ 10 0).toInt.toNat (-1000000005) := by rw [hτ]; rfl
                       have C16 : τ 16 = upd (σ 16) (σ 10 0).toInt.toNat w := by rw [hτ]; rfl
                       have C17 : τ 17 = upd (σ 17) (σ 10 0).toInt.toNat (-1000000005) := by rw [hτ]; rfl
                       have C96 : τ 96 = σ 96 := by rw [hτ]; rfl
                       have C97 : τ 97 = σ 97 := by rw [hτ]; rfl
                       have C98 : τ 98 = σ 98 := by rw [hτ]; rfl
                       have C99 : τ 99 = σ 99 := by rw [hτ]; rfl
                       have C100 : τ 100 = σ 100 := by rw [hτ]; rfl
                       have C101 : τ 101 = σ 101 := by rw [hτ]; rfl
                       have C102 : τ 102 = σ 102 := by rw [hτ]; rfl
                       have C18 : τ 18 = insL (upd (σ 13) (σ 10 0).toInt.toNat a) (nI (σ 10 0).toInt.toNat) (σ 18) (σ 10 0).toInt.toNat := by rw [hτ]; rfl
                       have C30 : τ 30 = σ 30 := by rw [hτ]; rfl
                       have C118 : τ 118 = σ 118 := by rw [hτ]; rfl
                       have C46 : τ 46 = σ 46 := by rw [hτ]; rfl
                       have C47 : τ 47 = σ 47 := by rw [hτ]; rfl
                       have C48 : τ 48 = σ 48 := by rw [hτ]; rfl
                       have C49 : τ 49 = σ 49 := by rw [hτ]; rfl
                       have C50 : τ 50 = σ 50 := by rw [hτ]; rfl
                       have C120 : τ 120 = σ 120 := by rw [hτ]; rfl
                       have C121 : τ 121 = σ 121 := by rw [hτ]; rfl
                       have C122 : τ 122 = σ 122 := by rw [hτ]; rfl
                       have C123 : τ 123 = σ 123 := by rw [hτ]; rfl
                       have C124 : τ 124 = σ 124 := by rw [hτ]; rfl
                       have C52 : τ 52 = σ 52 := by rw [hτ]; rfl
                       have C53 : τ 53 = σ 53 := by rw [hτ]; rfl
                       have C54 : τ 54 = σ 54 := by rw [hτ]; rfl
                       have C55 : τ 55 = σ 55 := by rw [hτ]; rfl
                       have C56 : τ 56 = σ 56 := by rw [hτ]; rfl
                       have C57 : τ 57 = σ 57 := by rw [hτ]; rfl
                       have C125 : τ 125 = σ 125 := by rw [hτ]; rfl
                       have C73 : τ 73 = σ 73 := by rw [hτ]; rfl
                       have C74 : τ 74 = σ 74 := by rw [hτ]; rfl
                       have C75 : τ 75 = σ 75 := by rw [hτ]; rfl
                       have C76 : τ 76 = σ 76 := by rw [hτ]; rfl
                       have C77 : τ 77 = σ 77 := by rw [hτ]; rfl
                       have C131 : τ 131 = σ 131 := by rw [hτ]; rfl
                       have C132 : τ 132 = σ 132 := by rw [hτ]; rfl
                       have C133 : τ 133 = σ 133 := by rw [hτ]; rfl
                       have C134 : τ 134 = σ 134 := by rw [hτ]; rfl
                       have C79 : τ 79 = σ 79 := by rw [hτ]; rfl
                       have C80 : τ 80 = σ 80 := by rw [hτ]; rfl
                       have C81 : τ 81 = σ 81 := by rw [hτ]; rfl
                       have C136 : τ 136 = σ 136 := by rw [hτ]; rfl
                       have C137 : τ 137 = σ 137 := by rw [hτ]; rfl
                       have C138 : τ 138 = σ 138 := by rw [hτ]; rfl
                       have C83 : τ 83 = σ 83 := by rw [hτ]; rfl
                       have C85 : τ 85 = σ 85 := by rw [hτ]; rfl
                       have C86 : τ 86 = σ 86 := by rw [hτ]; rfl
                       have C103 : τ 103 = σ 103 := by rw [hτ]; rfl
                       have C104 : τ 104 = σ 104 := by rw [hτ]; rfl
                       have C87 : τ 87 = σ 87 := by rw [hτ]; rfl
                       have C130 : τ 130 = σ 130 := by rw [hτ]; rfl
                       have C20 : τ 20 = σ 20 := by rw [hτ]; rfl
                       have C22 : τ 22 = σ 22 := by rw [hτ]; rfl
                       have C23 : τ 23 = σ 23 := by rw [hτ]; rfl
                       have C24 : τ 24 = σ 24 := by rw [hτ]; rfl
                       have C26 : τ 26 = σ 26 := by rw [hτ]; rfl
                       have C27 : τ 27 = σ 27 := by rw [hτ]; rfl
                       have C28 : τ 28 = σ 28 := by rw [hτ]; rfl
                       have C110 : τ 110 = σ 110 := by rw [hτ]; rfl
                       have C111 : τ 111 = σ 111 := by rw [hτ]; rfl
                       have C112 : τ 112 = σ 112 := by rw [hτ]; rfl
                       have C113 : τ 113 = σ 113 := by rw [hτ]; rfl
                       have C119 : τ 119 = σ 119 := by rw [hτ]; rfl
                       have P1_0 : τ 1 0 = σ 1 0 := by rw [hτ]; rfl
                       have P1_1 : τ 1 1 = σ 1 1 := by rw [hτ]; rfl
                       have P1_2 : τ 1 2 = σ 1 2 := by rw [hτ]; rfl
                       have P88_0 : τ 88 0 = σ 88 0 := by rw [hτ]; rfl
                       have P88_1 : τ 88 1 = σ 88 1 := by rw [hτ]; rfl
                       have P88_2 : τ 88 2 = σ 88 2 := by rw [hτ]; rfl
                       have P3_0 : τ 3 0 = σ 3 0 + 1 := by rw [hτ]; rfl
                       have P88_4 : τ 88 4 = σ 88 4 := by rw [hτ]; rfl
                       have P10_0 : τ 10 0 = σ 10 0 + 1 := by rw [hτ]; rfl
                       have P10_1 : τ 10 1 = σ 10 1 := by rw [hτ]; rfl
                       have P88_11 : τ 88 11 = σ 88 11 := by rw [hτ]; rfl
                       have P0_5 : τ 0 5 = σ 0 5 := by rw [hτ]; rfl
                       have P88_36 : τ 88 36 = σ 88 36 := by rw [hτ]; rfl
                       have P45_0 : τ 45 0 = σ 45 0 := by rw [hτ]; rfl
                       have P45_3 : τ 45 3 = σ 45 3 := by rw [hτ]; rfl
                       have P88_48 : τ 88 48 = σ 88 48 := by rw [hτ]; rfl
                       have P88_51 : τ 88 51 = σ 88 51 := by rw [hτ]; rfl
                       have P71_0 : τ 71 0 = σ 71 0 := by rw [hτ]; rfl
                       have P88_65 : τ 88 65 = σ 88 65 := by rw [hτ]; rfl
                       have P78_0 : τ 78 0 = σ 78 0 := by rw [hτ]; rfl
                       have P78_1 : τ 78 1 = σ 78 1 := by rw [hτ]; rfl
                       have P88_71 : τ 88 71 = σ 88 71 := by rw [hτ]; rfl
                       have P88_72 : τ 88 72 = σ 88 72 := by rw [hτ]; rfl
                       have P0_14 : τ 0 14 = σ 0 14 := by rw [hτ]; rfl
                       have P88_64 : τ 88 64 = σ 88 64 := by rw [hτ]; rfl
                       exact ⟨⟨σ 10 0, rfl, vI_ (P88_11.trans l0)⟩, ⟨(I_tr_fr (σ := σ) C2 C89 P1_0 P1_1 P1_2 P88_0 P88_1 P88_2 hI.1), (c_beg_vo (σ := σ) C4 C5 C6 C7 C8 C9 (show upd (τ 90) (τ 88 4).toInt.toNat (k / 10) = upd (σ 90) (σ 88 4).toInt.toNat (k / 10) by rw [C90, P88_4]) (show upd (τ 91) (τ 88 4).toInt.toNat (k - k / 10 * 10) = upd (σ 91) (σ 88 4).toInt.toNat (k - k / 10 * 10) by rw [C91, P88_4]) (show upd (τ 92) (τ 88 4).toInt.toNat f = upd (σ 92) (σ 88 4).toInt.toNat f by rw [C92, P88_4]) (show upd (τ 93) (τ 88 4).toInt.toNat c = upd (σ 93) (σ 88 4).toInt.toNat c by rw [C93, P88_4]) (show upd (τ 94) (τ 88 4).toInt.toNat t = upd (σ 94) (σ 88 4).toInt.toNat t by rw [C94, P88_4]) (show upd (τ 95) (τ 88 4).toInt.toNat w = upd (σ 95) (σ 88 4).toInt.toNat w by rw [C95, P88_4]) P3_0 (show τ 88 4 + 1 = σ 88 4 + 1 by rw [P88_4]) P1_1 hI.2.1 z6 zv), (c_line_li (σ := VA σ k f c t w) C9 C11 C12 C13 C14 C15 C16 C17 (show upd (τ 96) (τ 88 11).toInt.toNat 0 = upd (σ 96) (σ 88 11).toInt.toNat 0 by rw [C96, P88_11]) (show upd (τ 97) (τ 88 11).toInt.toNat (τ 88 4) = upd (σ 97) (σ 88 11).toInt.toNat (σ 88 4) by rw [C97, P88_11, P88_4]) (show upd (τ 98) (τ 88 11).toInt.toNat a = upd (σ 98) (σ 88 11).toInt.toNat a by rw [C98, P88_11]) (show upd (τ 99) (τ 88 11).toInt.toNat (τ 88 0) = upd (σ 99) (σ 88 11).toInt.toNat (σ 88 0) by rw [C99, P88_11, P88_0]) (show upd (τ 100) (τ 88 11).toInt.toNat (-1) = upd (σ 100) (σ 88 11).toInt.toNat (-1) by rw [C100, P88_11]) (show upd (τ 101) (τ 88 11).toInt.toNat w = upd (σ 101) (σ 88 11).toInt.toNat w by rw [C101, P88_11]) (show upd (τ 102) (τ 88 11).toInt.toNat (-1) = upd (σ 102) (σ 88 11).toInt.toNat (-1) by rw [C102, P88_11]) P10_0 P10_1 (show τ 88 11 + 1 = σ 88 11 + 1 by rw [P88_11]) P1_0 P1_2 P3_0 ((c_beg_li (σ := σ) rfl rfl rfl rfl rfl rfl rfl rfl rfl rfl rfl rfl rfl rfl rfl rfl rfl rfl rfl rfl rfl hI.2.2.1 v7 z6) : I_li (VA σ k f c t w)) z5 t0 v0 ⟨⟨by decide, by decide⟩, ⟨v7, (by show (σ 3 0).toInt < (σ 3 0 + 1).toInt; omega)⟩, za, ⟨t4, Int.le_refl _⟩, zv.2.2.2.2.2, Or.inl ⟨Or.inl rfl, rfl, rfl⟩, fun _ => (pk_us (f := σ 9) (k := (σ 3 0).toInt.toNat)).symm⟩), (c_line_or (σ := σ) C13 C18 P10_0 hI.2.2.2.1 l6 z5), (I_ta_fr (σ := σ) C30 C118 P0_5 P88_36 hI.2.2.2.2.1), (I_ba_fr (σ := σ) C46 C47 C48 C49 C50 C120 C121 C122 C123 C124 C52 C53 C54 C55 C56 C57 C125 P45_0 P45_3 P88_48 P88_51 hI.2.2.2.2.2.1), (I_ex_fr (σ := σ) C73 C74 C75 C76 C77 C131 C132 C133 C134 P71_0 P88_65 hI.2.2.2.2.2.2.1), (I_gu_fr (σ := σ) C79 C80 C81 C136 C137 C138 P78_0 P78_1 P88_71 P88_72 hI.2.2.2.2.2.2.2.1), (I_sh_fr (σ := σ) C83 C85 C86 C103 C104 hI.2.2.2.2.2.2.2.2.1), (I_wa_fr (σ := σ) C87 C130 P0_14 P88_64 hI.2.2.2.2.2.2.2.2.2.1), (I_la_fr (σ := σ) C20 C22 C23 C24 C26 C27 C28 C110 C111 C112 C113 hI.2.2.2.2.2.2.2.2.2.2.1), (I_he_fr (σ := σ) C119 hI.2.2.2.2.2.2.2.2.2.2.2)⟩⟩)
                  · replace m7 := bI_nz m7
                    refine ⟨(by decide), ?_⟩
                    refine ⟨fun m15 => ?_, fun m15 => ?_⟩
                    · refine ⟨rfl, trivial, ?_⟩
                      first
                      | (exfalso; (first | omega | (simp only [Int32.reduceToInt] at c4 c15 c26 c38 c49 c61 c74 c84 m7 m15 ⊢; omega)); done)
                      | (have z5 : (σ 10 0).toInt < 100 := by (first | omega | (simp only [Int32.reduceToInt] at c4 c15 c26 c38 c49 c61 c74 c84 m7 m15 ⊢; omega))
                         have z6 : (σ 3 0).toInt < 30 := by (first | omega | (simp only [Int32.reduceToInt] at c4 c15 c26 c38 c49 c61 c74 c84 m7 m15 ⊢; omega))
                         have zk := div10 (x := k) (by (first | omega | (simp only [Int32.reduceToInt] at c4 c15 c26 c38 c49 c61 c74 c84 m7 m15 ⊢; omega)))
                         have zv : (0 ≤ (k / 10).toInt ∧ (k / 10).toInt ≤ 3) ∧ (0 ≤ (k - k / 10 * 10).toInt ∧ (k - k / 10 * 10).toInt ≤ 2) ∧ (0 ≤ f.toInt ∧ f.toInt < (σ 1 1).toInt) ∧ (0 ≤ c.toInt ∧ c.toInt ≤ 9999) ∧ (1 ≤ t.toInt ∧ t.toInt ≤ 900) ∧ (0 ≤ w.toInt ∧ w.toInt ≤ 100000) := by (first | omega | (simp only [Int32.reduceToInt] at c4 c15 c26 c38 c49 c61 c74 c84 m7 m15 ⊢; omega))
                         have za : 0 ≤ a.toInt ∧ a.toInt ≤ (σ 1 0).toInt := by (first | omega | (simp only [Int32.reduceToInt] at c4 c15 c26 c38 c49 c61 c74 c84 m7 m15 ⊢; omega))
                         have eb := add1 (x := σ 3 0) (by omega)
                         have C2 : τ 2 = σ 2 := by rw [hτ]; rfl
                         have C89 : τ 89 = σ 89 := by rw [hτ]; rfl
                         have C4 : τ 4 = upd (σ 4) (σ 3 0).toInt.toNat (k / 10) := by rw [hτ]; rfl
                         have C5 : τ 5 = upd (σ 5) (σ 3 0).toInt.toNat (k - k / 10 * 10) := by rw [hτ]; rfl
                         have C6 : τ 6 = upd (σ 6) (σ 3 0).toInt.toNat f := by rw [hτ]; rfl
                         have C7 : τ 7 = upd (σ 7) (σ 3 0).toInt.toNat c := by rw [hτ]; rfl
                         have C8 : τ 8 = upd (σ 8) (σ 3 0).toInt.toNat t := by rw [hτ]; rfl
                         have C9 : τ 9 = upd (σ 9) (σ 3 0).toInt.toNat w := by rw [hτ]; rfl
                         have C90 : τ 90 = σ 90 := by rw [hτ]; rfl
                         have C91 : τ 91 = σ 91 := by rw [hτ]; rfl
                         have C92 : τ 92 = σ 92 := by rw [hτ]; rfl
                         have C93 : τ 93 = σ 93 := by rw [hτ]; rfl
                         have C94 : τ 94 = σ 94 := by rw [hτ]; rfl
                         have C95 : τ 95 = σ 95 := by rw [hτ]; rfl
                         have C11 : τ 11 = upd (σ 11) (σ 10 0).toInt.toNat 0 := by rw [hτ]; rfl
                         have C12 : τ 12 = upd (σ 12) (σ 10 0).toInt.toNat (σ 3 0) := by rw [hτ]; rfl
                         have C13 : τ 13 = upd (σ 13) (σ 10 0).toInt.toNat a := by rw [hτ]; rfl
                         have C14 : τ 14 = upd (σ 14) (σ 10 0).toInt.toNat (σ 1 0) := by rw [hτ]; rfl
                         have C15 : τ 15 = upd (σ 15) (σ 10 0).toInt.toNat (-1000000005) := by rw [hτ]; rfl
                         have C16 : τ 16 = upd (σ 16) (σ 10 0).toInt.toNat w := by rw [hτ]; rfl
                         have C17 : τ 17 = upd (σ 17) (σ 10 0).toInt.toNat (-1000000005) := by rw [hτ]; rfl
                         have C96 : τ 96 = σ 96 := by rw [hτ]; rfl
                         have C97 : τ 97 = σ 97 := by rw [hτ]; rfl
                         have C98 : τ 98 = σ 98 := by rw [hτ]; rfl
                         have C99 : τ 99 = σ 99 := by rw [hτ]; rfl
                         have C100 : τ 100 = σ 100 := by rw [hτ]; rfl
                         have C101 : τ 101 = σ 101 := by rw [hτ]; rfl
                         have C102 : τ 102 = σ 102 := by rw [hτ]; rfl
                         have C18 : τ 18 = insL (upd (σ 13) (σ 10 0).toInt.toNat a) (nI (σ 10 0).toInt.toNat) (σ 18) (σ 10 0).toInt.toNat := by rw [hτ]; rfl
                         have C30 : τ 30 = σ 30 := by rw [hτ]; rfl
                         have C118 : τ 118 = σ 118 := by rw [hτ]; rfl
                         have C46 : τ 46 = σ 46 := by rw [hτ]; rfl
                         have C47 : τ 47 = σ 47 := by rw [hτ]; rfl
                         have C48 : τ 48 = σ 48 := by rw [hτ]; rfl
                         have C49 : τ 49 = σ 49 := by rw [hτ]; rfl
                         have C50 : τ 50 = σ 50 := by rw [hτ]; rfl
                         have C120 : τ 120 = σ 120 := by rw [hτ]; rfl
                         have C121 : τ 121 = σ 121 := by rw [hτ]; rfl
                         have C122 : τ 122 = σ 122 := by rw [hτ]; rfl
                         have C123 : τ 123 = σ 123 := by rw [hτ]; rfl
                         have C124 : τ 124 = σ 124 := by rw [hτ]; rfl
                         have C52 : τ 52 = σ 52 := by rw [hτ]; rfl
                         have C53 : τ 53 = σ 53 := by rw [hτ]; rfl
                         have C54 : τ 54 = σ 54 := by rw [hτ]; rfl
                         have C55 : τ 55 = σ 55 := by rw [hτ]; rfl
                         have C56 : τ 56 = σ 56 := by rw [hτ]; rfl
                         have C57 : τ 57 = σ 57 := by rw [hτ]; rfl
                         have C125 : τ 125 = σ 125 := by rw [hτ]; rfl
                         have C73 : τ 73 = σ 73 := by rw [hτ]; rfl
                         have C74 : τ 74 = σ 74 := by rw [hτ]; rfl
                         have C75 : τ 75 = σ 75 := by rw [hτ]; rfl
                         have C76 : τ 76 = σ 76 := by rw [hτ]; rfl
                         have C77 : τ 77 = σ 77 := by rw [hτ]; rfl
                         have C131 : τ 131 = σ 131 := by rw [hτ]; rfl
                         have C132 : τ 132 = σ 132 := by rw [hτ]; rfl
                         have C133 : τ 133 = σ 133 := by rw [hτ]; rfl
                         have C134 : τ 134 = σ 134 := by rw [hτ]; rfl
                         have C79 : τ 79 = σ 79 := by rw [hτ]; rfl
                         have C80 : τ 80 = σ 80 := by rw [hτ]; rfl
                         have C81 : τ 81 = σ 81 := by rw [hτ]; rfl
                         have C136 : τ 136 = σ 136 := by rw [hτ]; rfl
                         have C137 : τ 137 = σ 137 := by rw [hτ]; rfl
                         have C138 : τ 138 = σ 138 := by rw [hτ]; rfl
                         have C83 : τ 83 = σ 83 := by rw [hτ]; rfl
                         have C85 : τ 85 = σ 85 := by rw [hτ]; rfl
                         have C86 : τ 86 = σ 86 := by rw [hτ]; rfl
                         have C103 : τ 103 = σ 103 := by rw [hτ]; rfl
                         have C104 : τ 104 = σ 104 := by rw [hτ]; rfl
                         have C87 : τ 87 = σ 87 := by rw [hτ]; rfl
                         have C130 : τ 130 = σ 130 := by rw [hτ]; rfl
                         have C20 : τ 20 = σ 20 := by rw [hτ]; rfl
                         have C22 : τ 22 = σ 22 := by rw [hτ]; rfl
                         have C23 : τ 23 = σ 23 := by rw [hτ]; rfl
                         have C24 : τ 24 = σ 24 := by rw [hτ]; rfl
                         have C26 : τ 26 = σ 26 := by rw [hτ]; rfl
                         have C27 : τ 27 = σ 27 := by rw [hτ]; rfl
                         have C28 : τ 28 = σ 28 := by rw [hτ]; rfl
                         have C110 : τ 110 = σ 110 := by rw [hτ]; rfl
                         have C111 : τ 111 = σ 111 := by rw [hτ]; rfl
                         have C112 : τ 112 = σ 112 := by rw [hτ]; rfl
                         have C113 : τ 113 = σ 113 := by rw [hτ]; rfl
                         have C119 : τ 119 = σ 119 := by rw [hτ]; rfl
                         have P1_0 : τ 1 0 = σ 1 0 := by rw [hτ]; rfl
                         have P1_1 : τ 1 1 = σ 1 1 := by rw [hτ]; rfl
                         have P1_2 : τ 1 2 = σ 1 2 := by rw [hτ]; rfl
                         have P88_0 : τ 88 0 = σ 88 0 := by rw [hτ]; rfl
                         have P88_1 : τ 88 1 = σ 88 1 := by rw [hτ]; rfl
                         have P88_2 : τ 88 2 = σ 88 2 := by rw [hτ]; rfl
                         have P3_0 : τ 3 0 = σ 3 0 + 1 := by rw [hτ]; rfl
                         have P88_4 : τ 88 4 = σ 88 4 := by rw [hτ]; rfl
                         have P10_0 : τ 10 0 = σ 10 0 + 1 := by rw [hτ]; rfl
                         have P10_1 : τ 10 1 = σ 10 1 := by rw [hτ]; rfl
                         have P88_11 : τ 88 11 = σ 88 11 := by rw [hτ]; rfl
                         have P0_5 : τ 0 5 = σ 0 5 := by rw [hτ]; rfl
                         have P88_36 : τ 88 36 = σ 88 36 := by rw [hτ]; rfl
                         have P45_0 : τ 45 0 = σ 45 0 := by rw [hτ]; rfl
                         have P45_3 : τ 45 3 = σ 45 3 := by rw [hτ]; rfl
                         have P88_48 : τ 88 48 = σ 88 48 := by rw [hτ]; rfl
                         have P88_51 : τ 88 51 = σ 88 51 := by rw [hτ]; rfl
                         have P71_0 : τ 71 0 = σ 71 0 := by rw [hτ]; rfl
                         have P88_65 : τ 88 65 = σ 88 65 := by rw [hτ]; rfl
                         have P78_0 : τ 78 0 = σ 78 0 := by rw [hτ]; rfl
                         have P78_1 : τ 78 1 = σ 78 1 := by rw [hτ]; rfl
                         have P88_71 : τ 88 71 = σ 88 71 := by rw [hτ]; rfl
                         have P88_72 : τ 88 72 = σ 88 72 := by rw [hτ]; rfl
                         have P0_14 : τ 0 14 = σ 0 14 := by rw [hτ]; rfl
                         have P88_64 : τ 88 64 = σ 88 64 := by rw [hτ]; rfl
                         exact ⟨⟨σ 10 0, rfl, vI_ (P88_11.trans l0)⟩, ⟨(I_tr_fr (σ := σ) C2 C89 P1_0 P1_1 P1_2 P88_0 P88_1 P88_2 hI.1), (c_beg_vo (σ := σ) C4 C5 C6 C7 C8 C9 (show upd (τ 90) (τ 88 4).toInt.toNat (k / 10) = upd (σ 90) (σ 88 4).toInt.toNat (k / 10) by rw [C90, P88_4]) (show upd (τ 91) (τ 88 4).toInt.toNat (k - k / 10 * 10) = upd (σ 91) (σ 88 4).toInt.toNat (k - k / 10 * 10) by rw [C91, P88_4]) (show upd (τ 92) (τ 88 4).toInt.toNat f = upd (σ 92) (σ 88 4).toInt.toNat f by rw [C92, P88_4]) (show upd (τ 93) (τ 88 4).toInt.toNat c = upd (σ 93) (σ 88 4).toInt.toNat c by rw [C93, P88_4]) (show upd (τ 94) (τ 88 4).toInt.toNat t = upd (σ 94) (σ 88 4).toInt.toNat t by rw [C94, P88_4]) (show upd (τ 95) (τ 88 4).toInt.toNat w = upd (σ 95) (σ 88 4).toInt.toNat w by rw [C95, P88_4]) P3_0 (show τ 88 4 + 1 = σ 88 4 + 1 by rw [P88_4]) P1_1 hI.2.1 z6 zv), (c_line_li (σ := VA σ k f c t w) C9 C11 C12 C13 C14 C15 C16 C17 (show upd (τ 96) (τ 88 11).toInt.toNat 0 = upd (σ 96) (σ 88 11).toInt.toNat 0 by rw [C96, P88_11]) (show upd (τ 97) (τ 88 11).toInt.toNat (τ 88 4) = upd (σ 97) (σ 88 11).toInt.toNat (σ 88 4) by rw [C97, P88_11, P88_4]) (show upd (τ 98) (τ 88 11).toInt.toNat a = upd (σ 98) (σ 88 11).toInt.toNat a by rw [C98, P88_11]) (show upd (τ 99) (τ 88 11).toInt.toNat (τ 88 0) = upd (σ 99) (σ 88 11).toInt.toNat (σ 88 0) by rw [C99, P88_11, P88_0]) (show upd (τ 100) (τ 88 11).toInt.toNat (-1) = upd (σ 100) (σ 88 11).toInt.toNat (-1) by rw [C100, P88_11]) (show upd (τ 101) (τ 88 11).toInt.toNat w = upd (σ 101) (σ 88 11).toInt.toNat w by rw [C101, P88_11]) (show upd (τ 102) (τ 88 11).toInt.toNat (-1) = upd (σ 102) (σ 88 11).toInt.toNat (-1) by rw [C102, P88_11]) P10_0 P10_1 (show τ 88 11 + 1 = σ 88 11 + 1 by rw [P88_11]) P1_0 P1_2 P3_0 ((c_beg_li (σ := σ) rfl rfl rfl rfl rfl rfl rfl rfl rfl rfl rfl rfl rfl rfl rfl rfl rfl rfl rfl rfl rfl hI.2.2.1 v7 z6) : I_li (VA σ k f c t w)) z5 t0 v0 ⟨⟨by decide, by decide⟩, ⟨v7, (by show (σ 3 0).toInt < (σ 3 0 + 1).toInt; omega)⟩, za, ⟨t4, Int.le_refl _⟩, zv.2.2.2.2.2, Or.inl ⟨Or.inl rfl, rfl, rfl⟩, fun _ => (pk_us (f := σ 9) (k := (σ 3 0).toInt.toNat)).symm⟩), (c_line_or (σ := σ) C13 C18 P10_0 hI.2.2.2.1 l6 z5), (I_ta_fr (σ := σ) C30 C118 P0_5 P88_36 hI.2.2.2.2.1), (I_ba_fr (σ := σ) C46 C47 C48 C49 C50 C120 C121 C122 C123 C124 C52 C53 C54 C55 C56 C57 C125 P45_0 P45_3 P88_48 P88_51 hI.2.2.2.2.2.1), (I_ex_fr (σ := σ) C73 C74 C75 C76 C77 C131 C132 C133 C134 P71_0 P88_65 hI.2.2.2.2.2.2.1), (I_gu_fr (σ := σ) C79 C80 C81 C136 C137 C138 P78_0 P78_1 P88_71 P88_72 hI.2.2.2.2.2.2.2.1), (I_sh_fr (σ := σ) C83 C85 C86 C103 C104 hI.2.2.2.2.2.2.2.2.1), (I_wa_fr (σ := σ) C87 C130 P0_14 P88_64 hI.2.2.2.2.2.2.2.2.2.1), (I_la_fr (σ := σ) C20 C22 C23 C24 C26 C27 C28 C110 C111 C112 C113 hI.2.2.2.2.2.2.2.2.2.2.1), (I_he_fr (σ := σ) C119 hI.2.2.2.2.2.2.2.2.2.2.2)⟩⟩)
                    · refine ⟨rfl, rfl, ?_⟩
                      refine m_isFirm (by omega) ?_
                      refine ⟨fun m23 => ?_, fun m23 => ?_⟩
                      · replace m23 := bI_z m23
                        refine ⟨rfl, trivial, ?_⟩
                        first
                        | (exfalso; (first | omega | (simp only [Int32.reduceToInt] at c4 c15 c26 c38 c49 c61 c74 c84 m7 m15 m23 ⊢; omega)); done)
                        | (have z5 : (σ 10 0).toInt < 100 := by (first | omega | (simp only [Int32.reduceToInt] at c4 c15 c26 c38 c49 c61 c74 c84 m7 m15 m23 ⊢; omega))
                           have z6 : (σ 3 0).toInt < 30 := by (first | omega | (simp only [Int32.reduceToInt] at c4 c15 c26 c38 c49 c61 c74 c84 m7 m15 m23 ⊢; omega))
                           have zk := div10 (x := k) (by (first | omega | (simp only [Int32.reduceToInt] at c4 c15 c26 c38 c49 c61 c74 c84 m7 m15 m23 ⊢; omega)))
                           have zv : (0 ≤ (k / 10).toInt ∧ (k / 10).toInt ≤ 3) ∧ (0 ≤ (k - k / 10 * 10).toInt ∧ (k - k / 10 * 10).toInt ≤ 2) ∧ (0 ≤ f.toInt ∧ f.toInt < (σ 1 1).toInt) ∧ (0 ≤ c.toInt ∧ c.toInt ≤ 9999) ∧ (1 ≤ t.toInt ∧ t.toInt ≤ 900) ∧ (0 ≤ w.toInt ∧ w.toInt ≤ 100000) := by (first | omega | (simp only [Int32.reduceToInt] at c4 c15 c26 c38 c49 c61 c74 c84 m7 m15 m23 ⊢; omega))
                           have za : 0 ≤ a.toInt ∧ a.toInt ≤ (σ 1 0).toInt := by (first | omega | (simp only [Int32.reduceToInt] at c4 c15 c26 c38 c49 c61 c74 c84 m7 m15 m23 ⊢; omega))
                           have eb := add1 (x := σ 3 0) (by omega)
                           have C2 : τ 2 = σ 2 := by rw [hτ]; rfl
                           have C89 : τ 89 = σ 89 := by rw [hτ]; rfl
                           have C4 : τ 4 = upd (σ 4) (σ 3 0).toInt.toNat (k / 10) := by rw [hτ]; rfl
                           have C5 : τ 5 = upd (σ 5) (σ 3 0).toInt.toNat (k - k / 10 * 10) := by rw [hτ]; rfl
                           have C6 : τ 6 = upd (σ 6) (σ 3 0).toInt.toNat f := by rw [hτ]; rfl
                           have C7 : τ 7 = upd (σ 7) (σ 3 0).toInt.toNat c := by rw [hτ]; rfl
                           have C8 : τ 8 = upd (σ 8) (σ 3 0).toInt.toNat t := by rw [hτ]; rfl
                           have C9 : τ 9 = upd (σ 9) (σ 3 0).toInt.toNat w := by rw [hτ]; rfl
                           have C90 : τ 90 = σ 90 := by rw [hτ]; rfl
                           have C91 : τ 91 = σ 91 := by rw [hτ]; rfl
                           have C92 : τ 92 = σ 92 := by rw [hτ]; rfl
                           have C93 : τ 93 = σ 93 := by rw [hτ]; rfl
                           have C94 : τ 94 = σ 94 := by rw [hτ]; rfl
                           have C95 : τ 95 = σ 95 := by rw [hτ]; rfl
                           have C11 : τ 11 = upd (σ 11) (σ 10 0).toInt.toNat 0 := by rw [hτ]; rfl
                           have C12 : τ 12 = upd (σ 12) (σ 10 0).toInt.toNat (σ 3 0) := by rw [hτ]; rfl
                           have C13 : τ 13 = upd (σ 13) (σ 10 0).toInt.toNat a := by rw [hτ]; rfl
                           have C14 : τ 14 = upd (σ 14) (σ 10 0).toInt.toNat (σ 1 0) := by rw [hτ]; rfl
                           have C15 : τ 15 = upd (σ 15) (σ 10 0).toInt.toNat (-1000000005) := by rw [hτ]; rfl
                           have C16 : τ 16 = upd (σ 16) (σ 10 0).toInt.toNat w := by rw [hτ]; rfl
                           have C17 : τ 17 = upd (σ 17) (σ 10 0).toInt.toNat (-1000000005) := by rw [hτ]; rfl
                           have C96 : τ 96 = σ 96 := by rw [hτ]; rfl
                           have C97 : τ 97 = σ 97 := by rw [hτ]; rfl
                           have C98 : τ 98 = σ 98 := by rw [hτ]; rfl
                           have C99 : τ 99 = σ 99 := by rw [hτ]; rfl
                           have C100 : τ 100 = σ 100 := by rw [hτ]; rfl
                           have C101 : τ 101 = σ 101 := by rw [hτ]; rfl
                           have C102 : τ 102 = σ 102 := by rw [hτ]; rfl
                           have C18 : τ 18 = insL (upd (σ 13) (σ 10 0).toInt.toNat a) (nI (σ 10 0).toInt.toNat) (σ 18) (σ 10 0).toInt.toNat := by rw [hτ]; rfl
                           have C30 : τ 30 = σ 30 := by rw [hτ]; rfl
                           have C118 : τ 118 = σ 118 := by rw [hτ]; rfl
                           have C46 : τ 46 = σ 46 := by rw [hτ]; rfl
                           have C47 : τ 47 = σ 47 := by rw [hτ]; rfl
                           have C48 : τ 48 = σ 48 := by rw [hτ]; rfl
                           have C49 : τ 49 = σ 49 := by rw [hτ]; rfl
                           have C50 : τ 50 = σ 50 := by rw [hτ]; rfl
                           have C120 : τ 120 = σ 120 := by rw [hτ]; rfl
                           have C121 : τ 121 = σ 121 := by rw [hτ]; rfl
                           have C122 : τ 122 = σ 122 := by rw [hτ]; rfl
                           have C123 : τ 123 = σ 123 := by rw [hτ]; rfl
                           have C124 : τ 124 = σ 124 := by rw [hτ]; rfl
                           have C52 : τ 52 = σ 52 := by rw [hτ]; rfl
                           have C53 : τ 53 = σ 53 := by rw [hτ]; rfl
                           have C54 : τ 54 = σ 54 := by rw [hτ]; rfl
                           have C55 : τ 55 = σ 55 := by rw [hτ]; rfl
                           have C56 : τ 56 = σ 56 := by rw [hτ]; rfl
                           have C57 : τ 57 = σ 57 := by rw [hτ]; rfl
                           have C125 : τ 125 = σ 125 := by rw [hτ]; rfl
                           have C73 : τ 73 = σ 73 := by rw [hτ]; rfl
                           have C74 : τ 74 = σ 74 := by rw [hτ]; rfl
                           have C75 : τ 75 = σ 75 := by rw [hτ]; rfl
                           have C76 : τ 76 = σ 76 := by rw [hτ]; rfl
                           have C77 : τ 77 = σ 77 := by rw [hτ]; rfl
                           have C131 : τ 131 = σ 131 := by rw [hτ]; rfl
                           have C132 : τ 132 = σ 132 := by rw [hτ]; rfl
                           have C133 : τ 133 = σ 133 := by rw [hτ]; rfl
                           have C134 : τ 134 = σ 134 := by rw [hτ]; rfl
                           have C79 : τ 79 = σ 79 := by rw [hτ]; rfl
                           have C80 : τ 80 = σ 80 := by rw [hτ]; rfl
                           have C81 : τ 81 = σ 81 := by rw [hτ]; rfl
                           have C136 : τ 136 = σ 136 := by rw [hτ]; rfl
                           have C137 : τ 137 = σ 137 := by rw [hτ]; rfl
                           have C138 : τ 138 = σ 138 := by rw [hτ]; rfl
                           have C83 : τ 83 = σ 83 := by rw [hτ]; rfl
                           have C85 : τ 85 = σ 85 := by rw [hτ]; rfl
                           have C86 : τ 86 = σ 86 := by rw [hτ]; rfl
                           have C103 : τ 103 = σ 103 := by rw [hτ]; rfl
                           have C104 : τ 104 = σ 104 := by rw [hτ]; rfl
                           have C87 : τ 87 = σ 87 := by rw [hτ]; rfl
                           have C130 : τ 130 = σ 130 := by rw [hτ]; rfl
                           have C20 : τ 20 = σ 20 := by rw [hτ]; rfl
                           have C22 : τ 22 = σ 22 := by rw [hτ]; rfl
                           have C23 : τ 23 = σ 23 := by rw [hτ]; rfl
                           have C24 : τ 24 = σ 24 := by rw [hτ]; rfl
                           have C26 : τ 26 = σ 26 := by rw [hτ]; rfl
                           have C27 : τ 27 = σ 27 := by rw [hτ]; rfl
                           have C28 : τ 28 = σ 28 := by rw [hτ]; rfl
                           have C110 : τ 110 = σ 110 := by rw [hτ]; rfl
                           have C111 : τ 111 = σ 111 := by rw [hτ]; rfl
                           have C112 : τ 112 = σ 112 := by rw [hτ]; rfl
                           have C113 : τ 113 = σ 113 := by rw [hτ]; rfl
                           have C119 : τ 119 = σ 119 := by rw [hτ]; rfl
                           have P1_0 : τ 1 0 = σ 1 0 := by rw [hτ]; rfl
                           have P1_1 : τ 1 1 = σ 1 1 := by rw [hτ]; rfl
                           have P1_2 : τ 1 2 = σ 1 2 := by rw [hτ]; rfl
                           have P88_0 : τ 88 0 = σ 88 0 := by rw [hτ]; rfl
                           have P88_1 : τ 88 1 = σ 88 1 := by rw [hτ]; rfl
                           have P88_2 : τ 88 2 = σ 88 2 := by rw [hτ]; rfl
                           have P3_0 : τ 3 0 = σ 3 0 + 1 := by rw [hτ]; rfl
                           have P88_4 : τ 88 4 = σ 88 4 := by rw [hτ]; rfl
                           have P10_0 : τ 10 0 = σ 10 0 + 1 := by rw [hτ]; rfl
                           have P10_1 : τ 10 1 = σ 10 1 := by rw [hτ]; rfl
                           have P88_11 : τ 88 11 = σ 88 11 := by rw [hτ]; rfl
                           have P0_5 : τ 0 5 = σ 0 5 := by rw [hτ]; rfl
                           have P88_36 : τ 88 36 = σ 88 36 := by rw [hτ]; rfl
                           have P45_0 : τ 45 0 = σ 45 0 := by rw [hτ]; rfl
                           have P45_3 : τ 45 3 = σ 45 3 := by rw [hτ]; rfl
                           have P88_48 : τ 88 48 = σ 88 48 := by rw [hτ]; rfl
                           have P88_51 : τ 88 51 = σ 88 51 := by rw [hτ]; rfl
                           have P71_0 : τ 71 0 = σ 71 0 := by rw [hτ]; rfl
                           have P88_65 : τ 88 65 = σ 88 65 := by rw [hτ]; rfl
                           have P78_0 : τ 78 0 = σ 78 0 := by rw [hτ]; rfl
                           have P78_1 : τ 78 1 = σ 78 1 := by rw [hτ]; rfl
                           have P88_71 : τ 88 71 = σ 88 71 := by rw [hτ]; rfl
                           have P88_72 : τ 88 72 = σ 88 72 := by rw [hτ]; rfl
                           have P0_14 : τ 0 14 = σ 0 14 := by rw [hτ]; rfl
                           have P88_64 : τ 88 64 = σ 88 64 := by rw [hτ]; rfl
                           exact ⟨⟨σ 10 0, rfl, vI_ (P88_11.trans l0)⟩, ⟨(I_tr_fr (σ := σ) C2 C89 P1_0 P1_1 P1_2 P88_0 P88_1 P88_2 hI.1), (c_beg_vo (σ := σ) C4 C5 C6 C7 C8 C9 (show upd (τ 90) (τ 88 4).toInt.toNat (k / 10) = upd (σ 90) (σ 88 4).toInt.toNat (k / 10) by rw [C90, P88_4]) (show upd (τ 91) (τ 88 4).toInt.toNat (k - k / 10 * 10) = upd (σ 91) (σ 88 4).toInt.toNat (k - k / 10 * 10) by rw [C91, P88_4]) (show upd (τ 92) (τ 88 4).toInt.toNat f = upd (σ 92) (σ 88 4).toInt.toNat f by rw [C92, P88_4]) (show upd (τ 93) (τ 88 4).toInt.toNat c = upd (σ 93) (σ 88 4).toInt.toNat c by rw [C93, P88_4]) (show upd (τ 94) (τ 88 4).toInt.toNat t = upd (σ 94) (σ 88 4).toInt.toNat t by rw [C94, P88_4]) (show upd (τ 95) (τ 88 4).toInt.toNat w = upd (σ 95) (σ 88 4).toInt.toNat w by rw [C95, P88_4]) P3_0 (show τ 88 4 + 1 = σ 88 4 + 1 by rw [P88_4]) P1_1 hI.2.1 z6 zv), (c_line_li (σ := VA σ k f c t w) C9 C11 C12 C13 C14 C15 C16 C17 (show upd (τ 96) (τ 88 11).toInt.toNat 0 = upd (σ 96) (σ 88 11).toInt.toNat 0 by rw [C96, P88_11]) (show upd (τ 97) (τ 88 11).toInt.toNat (τ 88 4) = upd (σ 97) (σ 88 11).toInt.toNat (σ 88 4) by rw [C97, P88_11, P88_4]) (show upd (τ 98) (τ 88 11).toInt.toNat a = upd (σ 98) (σ 88 11).toInt.toNat a by rw [C98, P88_11]) (show upd (τ 99) (τ 88 11).toInt.toNat (τ 88 0) = upd (σ 99) (σ 88 11).toInt.toNat (σ 88 0) by rw [C99, P88_11, P88_0]) (show upd (τ 100) (τ 88 11).toInt.toNat (-1) = upd (σ 100) (σ 88 11).toInt.toNat (-1) by rw [C100, P88_11]) (show upd (τ 101) (τ 88 11).toInt.toNat w = upd (σ 101) (σ 88 11).toInt.toNat w by rw [C101, P88_11]) (show upd (τ 102) (τ 88 11).toInt.toNat (-1) = upd (σ 102) (σ 88 11).toInt.toNat (-1) by rw [C102, P88_11]) P10_0 P10_1 (show τ 88 11 + 1 = σ 88 11 + 1 by rw [P88_11]) P1_0 P1_2 P3_0 ((c_beg_li (σ := σ) rfl rfl rfl rfl rfl rfl rfl rfl rfl rfl rfl rfl rfl rfl rfl rfl rfl rfl rfl rfl rfl hI.2.2.1 v7 z6) : I_li (VA σ k f c t w)) z5 t0 v0 ⟨⟨by decide, by decide⟩, ⟨v7, (by show (σ 3 0).toInt < (σ 3 0 + 1).toInt; omega)⟩, za, ⟨t4, Int.le_refl _⟩, zv.2.2.2.2.2, Or.inl ⟨Or.inl rfl, rfl, rfl⟩, fun _ => (pk_us (f := σ 9) (k := (σ 3 0).toInt.toNat)).symm⟩), (c_line_or (σ := σ) C13 C18 P10_0 hI.2.2.2.1 l6 z5), (I_ta_fr (σ := σ) C30 C118 P0_5 P88_36 hI.2.2.2.2.1), (I_ba_fr (σ := σ) C46 C47 C48 C49 C50 C120 C121 C122 C123 C124 C52 C53 C54 C55 C56 C57 C125 P45_0 P45_3 P88_48 P88_51 hI.2.2.2.2.2.1), (I_ex_fr (σ := σ) C73 C74 C75 C76 C77 C131 C132 C133 C134 P71_0 P88_65 hI.2.2.2.2.2.2.1), (I_gu_fr (σ := σ) C79 C80 C81 C136 C137 C138 P78_0 P78_1 P88_71 P88_72 hI.2.2.2.2.2.2.2.1), (I_sh_fr (σ := σ) C83 C85 C86 C103 C104 hI.2.2.2.2.2.2.2.2.1), (I_wa_fr (σ := σ) C87 C130 P0_14 P88_64 hI.2.2.2.2.2.2.2.2.2.1), (I_la_fr (σ := σ) C20 C22 C23 C24 C26 C27 C28 C110 C111 C112 C113 hI.2.2.2.2.2.2.2.2.2.2.1), (I_he_fr (σ := σ) C119 hI.2.2.2.2.2.2.2.2.2.2.2)⟩⟩)
                      · replace m23 := bI_nz m23
                        refine ⟨rfl, ?_⟩
                        refine m_isIn ?_
                        refine ⟨fun m34 => ?_, fun m34 => ?_⟩
                        · replace m34 := bI_z m34
                          refine ⟨rfl, trivial, ?_⟩
                          first
                          | (exfalso; (first | omega | (simp only [Int32.reduceToInt] at c4 c15 c26 c38 c49 c61 c74 c84 m7 m15 m23 m34 ⊢; omega)); done)
                          | (have z5 : (σ 10 0).toInt < 100 := by (first | omega | (simp only [Int32.reduceToInt] at c4 c15 c26 c38 c49 c61 c74 c84 m7 m15 m23 m34 ⊢; omega))
                             have z6 : (σ 3 0).toInt < 30 := by (first | omega | (simp only [Int32.reduceToInt] at c4 c15 c26 c38 c49 c61 c74 c84 m7 m15 m23 m34 ⊢; omega))
                             have zk := div10 (x := k) (by (first | omega | (simp only [Int32.reduceToInt] at c4 c15 c26 c38 c49 c61 c74 c84 m7 m15 m23 m34 ⊢; omega)))
                             have zv : (0 ≤ (k / 10).toInt ∧ (k / 10).toInt ≤ 3) ∧ (0 ≤ (k - k / 10 * 10).toInt ∧ (k - k / 10 * 10).toInt ≤ 2) ∧ (0 ≤ f.toInt ∧ f.toInt < (σ 1 1).toInt) ∧ (0 ≤ c.toInt ∧ c.toInt ≤ 9999) ∧ (1 ≤ t.toInt ∧ t.toInt ≤ 900) ∧ (0 ≤ w.toInt ∧ w.toInt ≤ 100000) := by (first | omega | (simp only [Int32.reduceToInt] at c4 c15 c26 c38 c49 c61 c74 c84 m7 m15 m23 m34 ⊢; omega))
                             have za : 0 ≤ a.toInt ∧ a.toInt ≤ (σ 1 0).toInt := by (first | omega | (simp only [Int32.reduceToInt] at c4 c15 c26 c38 c49 c61 c74 c84 m7 m15 m23 m34 ⊢; omega))
                             have eb := add1 (x := σ 3 0) (by omega)
                             have C2 : τ 2 = σ 2 := by rw [hτ]; rfl
                             have C89 : τ 89 = σ 89 := by rw [hτ]; rfl
                             have C4 : τ 4 = upd (σ 4) (σ 3 0).toInt.toNat (k / 10) := by rw [hτ]; rfl
                             have C5 : τ 5 = upd (σ 5) (σ 3 0).toInt.toNat (k - k / 10 * 10) := by rw [hτ]; rfl
                             have C6 : τ 6 = upd (σ 6) (σ 3 0).toInt.toNat f := by rw [hτ]; rfl
                             have C7 : τ 7 = upd (σ 7) (σ 3 0).toInt.toNat c := by rw [hτ]; rfl
                             have C8 : τ 8 = upd (σ 8) (σ 3 0).toInt.toNat t := by rw [hτ]; rfl
                             have C9 : τ 9 = upd (σ 9) (σ 3 0).toInt.toNat w := by rw [hτ]; rfl
                             have C90 : τ 90 = σ 90 := by rw [hτ]; rfl
                             have C91 : τ 91 = σ 91 := by rw [hτ]; rfl
                             have C92 : τ 92 = σ 92 := by rw [hτ]; rfl
                             have C93 : τ 93 = σ 93 := by rw [hτ]; rfl
                             have C94 : τ 94 = σ 94 := by rw [hτ]; rfl
                             have C95 : τ 95 = σ 95 := by rw [hτ]; rfl
                             have C11 : τ 11 = upd (σ 11) (σ 10 0).toInt.toNat 0 := by rw [hτ]; rfl
                             have C12 : τ 12 = upd (σ 12) (σ 10 0).toInt.toNat (σ 3 0) := by rw [hτ]; rfl
                             have C13 : τ 13 = upd (σ 13) (σ 10 0).toInt.toNat a := by rw [hτ]; rfl
                             have C14 : τ 14 = upd (σ 14) (σ 10 0).toInt.toNat (σ 1 0) := by rw [hτ]; rfl
                             have C15 : τ 15 = upd (σ 15) (σ 10 0).toInt.toNat (-1000000005) := by rw [hτ]; rfl
                             have C16 : τ 16 = upd (σ 16) (σ 10 0).toInt.toNat w := by rw [hτ]; rfl
                             have C17 : τ 17 = upd (σ 17) (σ 10 0).toInt.toNat (-1000000005) := by rw [hτ]; rfl
                             have C96 : τ 96 = σ 96 := by rw [hτ]; rfl
                             have C97 : τ 97 = σ 97 := by rw [hτ]; rfl
                             have C98 : τ 98 = σ 98 := by rw [hτ]; rfl
                             have C99 : τ 99 = σ 99 := by rw [hτ]; rfl
                             have C100 : τ 100 = σ 100 := by rw [hτ]; rfl
                             have C101 : τ 101 = σ 101 := by rw [hτ]; rfl
                             have C102 : τ 102 = σ 102 := by rw [hτ]; rfl
                             have C18 : τ 18 = insL (upd (σ 13) (σ 10 0).toInt.toNat a) (nI (σ 10 0).toInt.toNat) (σ 18) (σ 10 0).toInt.toNat := by rw [hτ]; rfl
                             have C30 : τ 30 = σ 30 := by rw [hτ]; rfl
                             have C118 : τ 118 = σ 118 := by rw [hτ]; rfl
                             have C46 : τ 46 = σ 46 := by rw [hτ]; rfl
                             have C47 : τ 47 = σ 47 := by rw [hτ]; rfl
                             have C48 : τ 48 = σ 48 := by rw [hτ]; rfl
                             have C49 : τ 49 = σ 49 := by rw [hτ]; rfl
                             have C50 : τ 50 = σ 50 := by rw [hτ]; rfl
                             have C120 : τ 120 = σ 120 := by rw [hτ]; rfl
                             have C121 : τ 121 = σ 121 := by rw [hτ]; rfl
                             have C122 : τ 122 = σ 122 := by rw [hτ]; rfl
                             have C123 : τ 123 = σ 123 := by rw [hτ]; rfl
                             have C124 : τ 124 = σ 124 := by rw [hτ]; rfl
                             have C52 : τ 52 = σ 52 := by rw [hτ]; rfl
                             have C53 : τ 53 = σ 53 := by rw [hτ]; rfl
                             have C54 : τ 54 = σ 54 := by rw [hτ]; rfl
                             have C55 : τ 55 = σ 55 := by rw [hτ]; rfl
                             have C56 : τ 56 = σ 56 := by rw [hτ]; rfl
                             have C57 : τ 57 = σ 57 := by rw [hτ]; rfl
                             have C125 : τ 125 = σ 125 := by rw [hτ]; rfl
                             have C73 : τ 73 = σ 73 := by rw [hτ]; rfl
                             have C74 : τ 74 = σ 74 := by rw [hτ]; rfl
                             have C75 : τ 75 = σ 75 := by rw [hτ]; rfl
                             have C76 : τ 76 = σ 76 := by rw [hτ]; rfl
                             have C77 : τ 77 = σ 77 := by rw [hτ]; rfl
                             have C131 : τ 131 = σ 131 := by rw [hτ]; rfl
                             have C132 : τ 132 = σ 132 := by rw [hτ]; rfl
                             have C133 : τ 133 = σ 133 := by rw [hτ]; rfl
                             have C134 : τ 134 = σ 134 := by rw [hτ]; rfl
                             have C79 : τ 79 = σ 79 := by rw [hτ]; rfl
                             have C80 : τ 80 = σ 80 := by rw [hτ]; rfl
                             have C81 : τ 81 = σ 81 := by rw [hτ]; rfl
                             have C136 : τ 136 = σ 136 := by rw [hτ]; rfl
                             have C137 : τ 137 = σ 137 := by rw [hτ]; rfl
                             have C138 : τ 138 = σ 138 := by rw [hτ]; rfl
                             have C83 : τ 83 = σ 83 := by rw [hτ]; rfl
                             have C85 : τ 85 = σ 85 := by rw [hτ]; rfl
                             have C86 : τ 86 = σ 86 := by rw [hτ]; rfl
                             have C103 : τ 103 = σ 103 := by rw [hτ]; rfl
                             have C104 : τ 104 = σ 104 := by rw [hτ]; rfl
                             have C87 : τ 87 = σ 87 := by rw [hτ]; rfl
                             have C130 : τ 130 = σ 130 := by rw [hτ]; rfl
                             have C20 : τ 20 = σ 20 := by rw [hτ]; rfl
                             have C22 : τ 22 = σ 22 := by rw [hτ]; rfl
                             have C23 : τ 23 = σ 23 := by rw [hτ]; rfl
                             have C24 : τ 24 = σ 24 := by rw [hτ]; rfl
                             have C26 : τ 26 = σ 26 := by rw [hτ]; rfl
                             have C27 : τ 27 = σ 27 := by rw [hτ]; rfl
                             have C28 : τ 28 = σ 28 := by rw [hτ]; rfl
                             have C110 : τ 110 = σ 110 := by rw [hτ]; rfl
                             have C111 : τ 111 = σ 111 := by rw [hτ]; rfl
                             have C112 : τ 112 = σ 112 := by rw [hτ]; rfl
                             have C113 : τ 113 = σ 113 := by rw [hτ]; rfl
                             have C119 : τ 119 = σ 119 := by rw [hτ]; rfl
                             have P1_0 : τ 1 0 = σ 1 0 := by rw [hτ]; rfl
                             have P1_1 : τ 1 1 = σ 1 1 := by rw [hτ]; rfl
                             have P1_2 : τ 1 2 = σ 1 2 := by rw [hτ]; rfl
                             have P88_0 : τ 88 0 = σ 88 0 := by rw [hτ]; rfl
                             have P88_1 : τ 88 1 = σ 88 1 := by rw [hτ]; rfl
                             have P88_2 : τ 88 2 = σ 88 2 := by rw [hτ]; rfl
                             have P3_0 : τ 3 0 = σ 3 0 + 1 := by rw [hτ]; rfl
                             have P88_4 : τ 88 4 = σ 88 4 := by rw [hτ]; rfl
                             have P10_0 : τ 10 0 = σ 10 0 + 1 := by rw [hτ]; rfl
                             have P10_1 : τ 10 1 = σ 10 1 := by rw [hτ]; rfl
                             have P88_11 : τ 88 11 = σ 88 11 := by rw [hτ]; rfl
                             have P0_5 : τ 0 5 = σ 0 5 := by rw [hτ]; rfl
                             have P88_36 : τ 88 36 = σ 88 36 := by rw [hτ]; rfl
                             have P45_0 : τ 45 0 = σ 45 0 := by rw [hτ]; rfl
                             have P45_3 : τ 45 3 = σ 45 3 := by rw [hτ]; rfl
                             have P88_48 : τ 88 48 = σ 88 48 := by rw [hτ]; rfl
                             have P88_51 : τ 88 51 = σ 88 51 := by rw [hτ]; rfl
                             have P71_0 : τ 71 0 = σ 71 0 := by rw [hτ]; rfl
                             have P88_65 : τ 88 65 = σ 88 65 := by rw [hτ]; rfl
                             have P78_0 : τ 78 0 = σ 78 0 := by rw [hτ]; rfl
                             have P78_1 : τ 78 1 = σ 78 1 := by rw [hτ]; rfl
                             have P88_71 : τ 88 71 = σ 88 71 := by rw [hτ]; rfl
                             have P88_72 : τ 88 72 = σ 88 72 := by rw [hτ]; rfl
                             have P0_14 : τ 0 14 = σ 0 14 := by rw [hτ]; rfl
                             have P88_64 : τ 88 64 = σ 88 64 := by rw [hτ]; rfl
                             exact ⟨⟨σ 10 0, rfl, vI_ (P88_11.trans l0)⟩, ⟨(I_tr_fr (σ := σ) C2 C89 P1_0 P1_1 P1_2 P88_0 P88_1 P88_2 hI.1), (c_beg_vo (σ := σ) C4 C5 C6 C7 C8 C9 (show upd (τ 90) (τ 88 4).toInt.toNat (k / 10) = upd (σ 90) (σ 88 4).toInt.toNat (k / 10) by rw [C90, P88_4]) (show upd (τ 91) (τ 88 4).toInt.toNat (k - k / 10 * 10) = upd (σ 91) (σ 88 4).toInt.toNat (k - k / 10 * 10) by rw [C91, P88_4]) (show upd (τ 92) (τ 88 4).toInt.toNat f = upd (σ 92) (σ 88 4).toInt.toNat f by rw [C92, P88_4]) (show upd (τ 93) (τ 88 4).toInt.toNat c = upd (σ 93) (σ 88 4).toInt.toNat c by rw [C93, P88_4]) (show upd (τ 94) (τ 88 4).toInt.toNat t = upd (σ 94) (σ 88 4).toInt.toNat t by rw [C94, P88_4]) (show upd (τ 95) (τ 88 4).toInt.toNat w = upd (σ 95) (σ 88 4).toInt.toNat w by rw [C95, P88_4]) P3_0 (show τ 88 4 + 1 = σ 88 4 + 1 by rw [P88_4]) P1_1 hI.2.1 z6 zv), (c_line_li (σ := VA σ k f c t w) C9 C11 C12 C13 C14 C15 C16 C17 (show upd (τ 96) (τ 88 11).toInt.toNat 0 = upd (σ 96) (σ 88 11).toInt.toNat 0 by rw [C96, P88_11]) (show upd (τ 97) (τ 88 11).toInt.toNat (τ 88 4) = upd (σ 97) (σ 88 11).toInt.toNat (σ 88 4) by rw [C97, P88_11, P88_4]) (show upd (τ 98) (τ 88 11).toInt.toNat a = upd (σ 98) (σ 88 11).toInt.toNat a by rw [C98, P88_11]) (show upd (τ 99) (τ 88 11).toInt.toNat (τ 88 0) = upd (σ 99) (σ 88 11).toInt.toNat (σ 88 0) by rw [C99, P88_11, P88_0]) (show upd (τ 100) (τ 88 11).toInt.toNat (-1) = upd (σ 100) (σ 88 11).toInt.toNat (-1) by rw [C100, P88_11]) (show upd (τ 101) (τ 88 11).toInt.toNat w = upd (σ 101) (σ 88 11).toInt.toNat w by rw [C101, P88_11]) (show upd (τ 102) (τ 88 11).toInt.toNat (-1) = upd (σ 102) (σ 88 11).toInt.toNat (-1) by rw [C102, P88_11]) P10_0 P10_1 (show τ 88 11 + 1 = σ 88 11 + 1 by rw [P88_11]) P1_0 P1_2 P3_0 ((c_beg_li (σ := σ) rfl rfl rfl rfl rfl rfl rfl rfl rfl rfl rfl rfl rfl rfl rfl rfl rfl rfl rfl rfl rfl hI.2.2.1 v7 z6) : I_li (VA σ k f c t w)) z5 t0 v0 ⟨⟨by decide, by decide⟩, ⟨v7, (by show (σ 3 0).toInt < (σ 3 0 + 1).toInt; omega)⟩, za, ⟨t4, Int.le_refl _⟩, zv.2.2.2.2.2, Or.inl ⟨Or.inl rfl, rfl, rfl⟩, fun _ => (pk_us (f := σ 9) (k := (σ 3 0).toInt.toNat)).symm⟩), (c_line_or (σ := σ) C13 C18 P10_0 hI.2.2.2.1 l6 z5), (I_ta_fr (σ := σ) C30 C118 P0_5 P88_36 hI.2.2.2.2.1), (I_ba_fr (σ := σ) C46 C47 C48 C49 C50 C120 C121 C122 C123 C124 C52 C53 C54 C55 C56 C57 C125 P45_0 P45_3 P88_48 P88_51 hI.2.2.2.2.2.1), (I_ex_fr (σ := σ) C73 C74 C75 C76 C77 C131 C132 C133 C134 P71_0 P88_65 hI.2.2.2.2.2.2.1), (I_gu_fr (σ := σ) C79 C80 C81 C136 C137 C138 P78_0 P78_1 P88_71 P88_72 hI.2.2.2.2.2.2.2.1), (I_sh_fr (σ := σ) C83 C85 C86 C103 C104 hI.2.2.2.2.2.2.2.2.1), (I_wa_fr (σ := σ) C87 C130 P0_14 P88_64 hI.2.2.2.2.2.2.2.2.2.1), (I_la_fr (σ := σ) C20 C22 C23 C24 C26 C27 C28 C110 C111 C112 C113 hI.2.2.2.2.2.2.2.2.2.2.1), (I_he_fr (σ := σ) C119 hI.2.2.2.2.2.2.2.2.2.2.2)⟩⟩)
                        · replace m34 := bI_nz m34
                          refine ⟨rfl, ?_⟩
                          refine m_isIn ?_
                          refine ⟨fun m46 => ?_, fun m46 => ?_⟩
                          · replace m46 := bI_z m46
                            refine ⟨rfl, trivial, ?_⟩
                            first
                            | (exfalso; (first | omega | (simp only [Int32.reduceToInt] at c4 c15 c26 c38 c49 c61 c74 c84 m7 m15 m23 m34 m46 ⊢; omega)); done)
                            | (have z5 : (σ 10 0).toInt < 100 := by (first | omega | (simp only [Int32.reduceToInt] at c4 c15 c26 c38 c49 c61 c74 c84 m7 m15 m23 m34 m46 ⊢; omega))
                               have z6 : (σ 3 0).toInt < 30 := by (first | omega | (simp only [Int32.reduceToInt] at c4 c15 c26 c38 c49 c61 c74 c84 m7 m15 m23 m34 m46 ⊢; omega))
                               have zk := div10 (x := k) (by (first | omega | (simp only [Int32.reduceToInt] at c4 c15 c26 c38 c49 c61 c74 c84 m7 m15 m23 m34 m46 ⊢; omega)))
                               have zv : (0 ≤ (k / 10).toInt ∧ (k / 10).toInt ≤ 3) ∧ (0 ≤ (k - k / 10 * 10).toInt ∧ (k - k / 10 * 10).toInt ≤ 2) ∧ (0 ≤ f.toInt ∧ f.toInt < (σ 1 1).toInt) ∧ (0 ≤ c.toInt ∧ c.toInt ≤ 9999) ∧ (1 ≤ t.toInt ∧ t.toInt ≤ 900) ∧ (0 ≤ w.toInt ∧ w.toInt ≤ 100000) := by (first | omega | (simp only [Int32.reduceToInt] at c4 c15 c26 c38 c49 c61 c74 c84 m7 m15 m23 m34 m46 ⊢; omega))
                               have za : 0 ≤ a.toInt ∧ a.toInt ≤ (σ 1 0).toInt := by (first | omega | (simp only [Int32.reduceToInt] at c4 c15 c26 c38 c49 c61 c74 c84 m7 m15 m23 m34 m46 ⊢; omega))
                               have eb := add1 (x := σ 3 0) (by omega)
                               have C2 : τ 2 = σ 2 := by rw [hτ]; rfl
                               have C89 : τ 89 = σ 89 := by rw [hτ]; rfl
                               have C4 : τ 4 = upd (σ 4) (σ 3 0).toInt.toNat (k / 10) := by rw [hτ]; rfl
                               have C5 : τ 5 = upd (σ 5) (σ 3 0).toInt.toNat (k - k / 10 * 10) := by rw [hτ]; rfl
                               have C6 : τ 6 = upd (σ 6) (σ 3 0).toInt.toNat f := by rw [hτ]; rfl
                               have C7 : τ 7 = upd (σ 7) (σ 3 0).toInt.toNat c := by rw [hτ]; rfl
                               have C8 : τ 8 = upd (σ 8) (σ 3 0).toInt.toNat t := by rw [hτ]; rfl
                               have C9 : τ 9 = upd (σ 9) (σ 3 0).toInt.toNat w := by rw [hτ]; rfl
                               have C90 : τ 90 = σ 90 := by rw [hτ]; rfl
                               have C91 : τ 91 = σ 91 := by rw [hτ]; rfl
                               have C92 : τ 92 = σ 92 := by rw [hτ]; rfl
                               have C93 : τ 93 = σ 93 := by rw [hτ]; rfl
                               have C94 : τ 94 = σ 94 := by rw [hτ]; rfl
                               have C95 : τ 95 = σ 95 := by rw [hτ]; rfl
                               have C11 : τ 11 = upd (σ 11) (σ 10 0).toInt.toNat 0 := by rw [hτ]; rfl
                               have C12 : τ 12 = upd (σ 12) (σ 10 0).toInt.toNat (σ 3 0) := by rw [hτ]; rfl
                               have C13 : τ 13 = upd (σ 13) (σ 10 0).toInt.toNat a := by rw [hτ]; rfl
                               have C14 : τ 14 = upd (σ 14) (σ 10 0).toInt.toNat (σ 1 0) := by rw [hτ]; rfl
                               have C15 : τ 15 = upd (σ 15) (σ 10 0).toInt.toNat (-1000000005) := by rw [hτ]; rfl
                               have C16 : τ 16 = upd (σ 16) (σ 10 0).toInt.toNat w := by rw [hτ]; rfl
                               have C17 : τ 17 = upd (σ 17) (σ 10 0).toInt.toNat (-1000000005) := by rw [hτ]; rfl
                               have C96 : τ 96 = σ 96 := by rw [hτ]; rfl
                               have C97 : τ 97 = σ 97 := by rw [hτ]; rfl
                               have C98 : τ 98 = σ 98 := by rw [hτ]; rfl
                               have C99 : τ 99 = σ 99 := by rw [hτ]; rfl
                               have C100 : τ 100 = σ 100 := by rw [hτ]; rfl
                               have C101 : τ 101 = σ 101 := by rw [hτ]; rfl
                               have C102 : τ 102 = σ 102 := by rw [hτ]; rfl
                               have C18 : τ 18 = insL (upd (σ 13) (σ 10 0).toInt.toNat a) (nI (σ 10 0).toInt.toNat) (σ 18) (σ 10 0).toInt.toNat := by rw [hτ]; rfl
                               have C30 : τ 30 = σ 30 := by rw [hτ]; rfl
                               have C118 : τ 118 = σ 118 := by rw [hτ]; rfl
                               have C46 : τ 46 = σ 46 := by rw [hτ]; rfl
                               have C47 : τ 47 = σ 47 := by rw [hτ]; rfl
                               have C48 : τ 48 = σ 48 := by rw [hτ]; rfl
                               have C49 : τ 49 = σ 49 := by rw [hτ]; rfl
                               have C50 : τ 50 = σ 50 := by rw [hτ]; rfl
                               have C120 : τ 120 = σ 120 := by rw [hτ]; rfl
                               have C121 : τ 121 = σ 121 := by rw [hτ]; rfl
                               have C122 : τ 122 = σ 122 := by rw [hτ]; rfl
                               have C123 : τ 123 = σ 123 := by rw [hτ]; rfl
                               have C124 : τ 124 = σ 124 := by rw [hτ]; rfl
                               have C52 : τ 52 = σ 52 := by rw [hτ]; rfl
                               have C53 : τ 53 = σ 53 := by rw [hτ]; rfl
                               have C54 : τ 54 = σ 54 := by rw [hτ]; rfl
                               have C55 : τ 55 = σ 55 := by rw [hτ]; rfl
                               have C56 : τ 56 = σ 56 := by rw [hτ]; rfl
                               have C57 : τ 57 = σ 57 := by rw [hτ]; rfl
                               have C125 : τ 125 = σ 125 := by rw [hτ]; rfl
                               have C73 : τ 73 = σ 73 := by rw [hτ]; rfl
                               have C74 : τ 74 = σ 74 := by rw [hτ]; rfl
                               have C75 : τ 75 = σ 75 := by rw [hτ]; rfl
                               have C76 : τ 76 = σ 76 := by rw [hτ]; rfl
                               have C77 : τ 77 = σ 77 := by rw [hτ]; rfl
                               have C131 : τ 131 = σ 131 := by rw [hτ]; rfl
                               have C132 : τ 132 = σ 132 := by rw [hτ]; rfl
                               have C133 : τ 133 = σ 133 := by rw [hτ]; rfl
                               have C134 : τ 134 = σ 134 := by rw [hτ]; rfl
                               have C79 : τ 79 = σ 79 := by rw [hτ]; rfl
                               have C80 : τ 80 = σ 80 := by rw [hτ]; rfl
                               have C81 : τ 81 = σ 81 := by rw [hτ]; rfl
                               have C136 : τ 136 = σ 136 := by rw [hτ]; rfl
                               have C137 : τ 137 = σ 137 := by rw [hτ]; rfl
                               have C138 : τ 138 = σ 138 := by rw [hτ]; rfl
                               have C83 : τ 83 = σ 83 := by rw [hτ]; rfl
                               have C85 : τ 85 = σ 85 := by rw [hτ]; rfl
                               have C86 : τ 86 = σ 86 := by rw [hτ]; rfl
                               have C103 : τ 103 = σ 103 := by rw [hτ]; rfl
                               have C104 : τ 104 = σ 104 := by rw [hτ]; rfl
                               have C87 : τ 87 = σ 87 := by rw [hτ]; rfl
                               have C130 : τ 130 = σ 130 := by rw [hτ]; rfl
                               have C20 : τ 20 = σ 20 := by rw [hτ]; rfl
                               have C22 : τ 22 = σ 22 := by rw [hτ]; rfl
                               have C23 : τ 23 = σ 23 := by rw [hτ]; rfl
                               have C24 : τ 24 = σ 24 := by rw [hτ]; rfl
                               have C26 : τ 26 = σ 26 := by rw [hτ]; rfl
                               have C27 : τ 27 = σ 27 := by rw [hτ]; rfl
                               have C28 : τ 28 = σ 28 := by rw [hτ]; rfl
                               have C110 : τ 110 = σ 110 := by rw [hτ]; rfl
                               have C111 : τ 111 = σ 111 := by rw [hτ]; rfl
                               have C112 : τ 112 = σ 112 := by rw [hτ]; rfl
                               have C113 : τ 113 = σ 113 := by rw [hτ]; rfl
                               have C119 : τ 119 = σ 119 := by rw [hτ]; rfl
                               have P1_0 : τ 1 0 = σ 1 0 := by rw [hτ]; rfl
                               have P1_1 : τ 1 1 = σ 1 1 := by rw [hτ]; rfl
                               have P1_2 : τ 1 2 = σ 1 2 := by rw [hτ]; rfl
                               have P88_0 : τ 88 0 = σ 88 0 := by rw [hτ]; rfl
                               have P88_1 : τ 88 1 = σ 88 1 := by rw [hτ]; rfl
                               have P88_2 : τ 88 2 = σ 88 2 := by rw [hτ]; rfl
                               have P3_0 : τ 3 0 = σ 3 0 + 1 := by rw [hτ]; rfl
                               have P88_4 : τ 88 4 = σ 88 4 := by rw [hτ]; rfl
                               have P10_0 : τ 10 0 = σ 10 0 + 1 := by rw [hτ]; rfl
                               have P10_1 : τ 10 1 = σ 10 1 := by rw [hτ]; rfl
                               have P88_11 : τ 88 11 = σ 88 11 := by rw [hτ]; rfl
                               have P0_5 : τ 0 5 = σ 0 5 := by rw [hτ]; rfl
                               have P88_36 : τ 88 36 = σ 88 36 := by rw [hτ]; rfl
                               have P45_0 : τ 45 0 = σ 45 0 := by rw [hτ]; rfl
                               have P45_3 : τ 45 3 = σ 45 3 := by rw [hτ]; rfl
                               have P88_48 : τ 88 48 = σ 88 48 := by rw [hτ]; rfl
                               have P88_51 : τ 88 51 = σ 88 51 := by rw [hτ]; rfl
                               have P71_0 : τ 71 0 = σ 71 0 := by rw [hτ]; rfl
                               have P88_65 : τ 88 65 = σ 88 65 := by rw [hτ]; rfl
                               have P78_0 : τ 78 0 = σ 78 0 := by rw [hτ]; rfl
                               have P78_1 : τ 78 1 = σ 78 1 := by rw [hτ]; rfl
                               have P88_71 : τ 88 71 = σ 88 71 := by rw [hτ]; rfl
                               have P88_72 : τ 88 72 = σ 88 72 := by rw [hτ]; rfl
                               have P0_14 : τ 0 14 = σ 0 14 := by rw [hτ]; rfl
                               have P88_64 : τ 88 64 = σ 88 64 := by rw [hτ]; rfl
                               exact ⟨⟨σ 10 0, rfl, vI_ (P88_11.trans l0)⟩, ⟨(I_tr_fr (σ := σ) C2 C89 P1_0 P1_1 P1_2 P88_0 P88_1 P88_2 hI.1), (c_beg_vo (σ := σ) C4 C5 C6 C7 C8 C9 (show upd (τ 90) (τ 88 4).toInt.toNat (k / 10) = upd (σ 90) (σ 88 4).toInt.toNat (k / 10) by rw [C90, P88_4]) (show upd (τ 91) (τ 88 4).toInt.toNat (k - k / 10 * 10) = upd (σ 91) (σ 88 4).toInt.toNat (k - k / 10 * 10) by rw [C91, P88_4]) (show upd (τ 92) (τ 88 4).toInt.toNat f = upd (σ 92) (σ 88 4).toInt.toNat f by rw [C92, P88_4]) (show upd (τ 93) (τ 88 4).toInt.toNat c = upd (σ 93) (σ 88 4).toInt.toNat c by rw [C93, P88_4]) (show upd (τ 94) (τ 88 4).toInt.toNat t = upd (σ 94) (σ 88 4).toInt.toNat t by rw [C94, P88_4]) (show upd (τ 95) (τ 88 4).toInt.toNat w = upd (σ 95) (σ 88 4).toInt.toNat w by rw [C95, P88_4]) P3_0 (show τ 88 4 + 1 = σ 88 4 + 1 by rw [P88_4]) P1_1 hI.2.1 z6 zv), (c_line_li (σ := VA σ k f c t w) C9 C11 C12 C13 C14 C15 C16 C17 (show upd (τ 96) (τ 88 11).toInt.toNat 0 = upd (σ 96) (σ 88 11).toInt.toNat 0 by rw [C96, P88_11]) (show upd (τ 97) (τ 88 11).toInt.toNat (τ 88 4) = upd (σ 97) (σ 88 11).toInt.toNat (σ 88 4) by rw [C97, P88_11, P88_4]) (show upd (τ 98) (τ 88 11).toInt.toNat a = upd (σ 98) (σ 88 11).toInt.toNat a by rw [C98, P88_11]) (show upd (τ 99) (τ 88 11).toInt.toNat (τ 88 0) = upd (σ 99) (σ 88 11).toInt.toNat (σ 88 0) by rw [C99, P88_11, P88_0]) (show upd (τ 100) (τ 88 11).toInt.toNat (-1) = upd (σ 100) (σ 88 11).toInt.toNat (-1) by rw [C100, P88_11]) (show upd (τ 101) (τ 88 11).toInt.toNat w = upd (σ 101) (σ 88 11).toInt.toNat w by rw [C101, P88_11]) (show upd (τ 102) (τ 88 11).toInt.toNat (-1) = upd (σ 102) (σ 88 11).toInt.toNat (-1) by rw [C102, P88_11]) P10_0 P10_1 (show τ 88 11 + 1 = σ 88 11 + 1 by rw [P88_11]) P1_0 P1_2 P3_0 ((c_beg_li (σ := σ) rfl rfl rfl rfl rfl rfl rfl rfl rfl rfl rfl rfl rfl rfl rfl rfl rfl rfl rfl rfl rfl hI.2.2.1 v7 z6) : I_li (VA σ k f c t w)) z5 t0 v0 ⟨⟨by decide, by decide⟩, ⟨v7, (by show (σ 3 0).toInt < (σ 3 0 + 1).toInt; omega)⟩, za, ⟨t4, Int.le_refl _⟩, zv.2.2.2.2.2, Or.inl ⟨Or.inl rfl, rfl, rfl⟩, fun _ => (pk_us (f := σ 9) (k := (σ 3 0).toInt.toNat)).symm⟩), (c_line_or (σ := σ) C13 C18 P10_0 hI.2.2.2.1 l6 z5), (I_ta_fr (σ := σ) C30 C118 P0_5 P88_36 hI.2.2.2.2.1), (I_ba_fr (σ := σ) C46 C47 C48 C49 C50 C120 C121 C122 C123 C124 C52 C53 C54 C55 C56 C57 C125 P45_0 P45_3 P88_48 P88_51 hI.2.2.2.2.2.1), (I_ex_fr (σ := σ) C73 C74 C75 C76 C77 C131 C132 C133 C134 P71_0 P88_65 hI.2.2.2.2.2.2.1), (I_gu_fr (σ := σ) C79 C80 C81 C136 C137 C138 P78_0 P78_1 P88_71 P88_72 hI.2.2.2.2.2.2.2.1), (I_sh_fr (σ := σ) C83 C85 C86 C103 C104 hI.2.2.2.2.2.2.2.2.1), (I_wa_fr (σ := σ) C87 C130 P0_14 P88_64 hI.2.2.2.2.2.2.2.2.2.1), (I_la_fr (σ := σ) C20 C22 C23 C24 C26 C27 C28 C110 C111 C112 C113 hI.2.2.2.2.2.2.2.2.2.2.1), (I_he_fr (σ := σ) C119 hI.2.2.2.2.2.2.2.2.2.2.2)⟩⟩)
                          · replace m46 := bI_nz m46
                            refine ⟨rfl, ?_⟩
                            refine m_isIn ?_
                            refine ⟨fun m57 => ?_, fun m57 => ?_⟩
                            · replace m57 := bI_z m57
                              refine ⟨rfl, trivial, ?_⟩
                              first
                              | (exfalso; (first | omega | (simp only [Int32.reduceToInt] at c4 c15 c26 c38 c49 c61 c74 c84 m7 m15 m23 m34 m46 m57 ⊢; omega)); done)
                              | (have z5 : (σ 10 0).toInt < 100 := by (first | omega | (simp only [Int32.reduceToInt] at c4 c15 c26 c38 c49 c61 c74 c84 m7 m15 m23 m34 m46 m57 ⊢; omega))
                                 have z6 : (σ 3 0).toInt < 30 := by (first | omega | (simp only [Int32.reduceToInt] at c4 c15 c26 c38 c49 c61 c74 c84 m7 m15 m23 m34 m46 m57 ⊢; omega))
                                 have zk := div10 (x := k) (by (first | omega | (simp only [Int32.reduceToInt] at c4 c15 c26 c38 c49 c61 c74 c84 m7 m15 m23 m34 m46 m57 ⊢; omega)))
                                 have zv : (0 ≤ (k / 10).toInt ∧ (k / 10).toInt ≤ 3) ∧ (0 ≤ (k - k / 10 * 10).toInt ∧ (k - k / 10 * 10).toInt ≤ 2) ∧ (0 ≤ f.toInt ∧ f.toInt < (σ 1 1).toInt) ∧ (0 ≤ c.toInt ∧ c.toInt ≤ 9999) ∧ (1 ≤ t.toInt ∧ t.toInt ≤ 900) ∧ (0 ≤ w.toInt ∧ w.toInt ≤ 100000) := by (first | omega | (simp only [Int32.reduceToInt] at c4 c15 c26 c38 c49 c61 c74 c84 m7 m15 m23 m34 m46 m57 ⊢; omega))
                                 have za : 0 ≤ a.toInt ∧ a.toInt ≤ (σ 1 0).toInt := by (first | omega | (simp only [Int32.reduceToInt] at c4 c15 c26 c38 c49 c61 c74 c84 m7 m15 m23 m34 m46 m57 ⊢; omega))
                                 have eb := add1 (x := σ 3 0) (by omega)
                                 have C2 : τ 2 = σ 2 := by rw [hτ]; rfl
                                 have C89 : τ 89 = σ 89 := by rw [hτ]; rfl
                                 have C4 : τ 4 = upd (σ 4) (σ 3 0).toInt.toNat (k / 10) := by rw [hτ]; rfl
                                 have C5 : τ 5 = upd (σ 5) (σ 3 0).toInt.toNat (k - k / 10 * 10) := by rw [hτ]; rfl
                                 have C6 : τ 6 = upd (σ 6) (σ 3 0).toInt.toNat f := by rw [hτ]; rfl
                                 have C7 : τ 7 = upd (σ 7) (σ 3 0).toInt.toNat c := by rw [hτ]; rfl
                                 have C8 : τ 8 = upd (σ 8) (σ 3 0).toInt.toNat t := by rw [hτ]; rfl
                                 have C9 : τ 9 = upd (σ 9) (σ 3 0).toInt.toNat w := by rw [hτ]; rfl
                                 have C90 : τ 90 = σ 90 := by rw [hτ]; rfl
                                 have C91 : τ 91 = σ 91 := by rw [hτ]; rfl
                                 have C92 : τ 92 = σ 92 := by rw [hτ]; rfl
                                 have C93 : τ 93 = σ 93 := by rw [hτ]; rfl
                                 have C94 : τ 94 = σ 94 := by rw [hτ]; rfl
                                 have C95 : τ 95 = σ 95 := by rw [hτ]; rfl
                                 have C11 : τ 11 = upd (σ 11) (σ 10 0).toInt.toNat 0 := by rw [hτ]; rfl
                                 have C12 : τ 12 = upd (σ 12) (σ 10 0).toInt.toNat (σ 3 0) := by rw [hτ]; rfl
                                 have C13 : τ 13 = upd (σ 13) (σ 10 0).toInt.toNat a := by rw [hτ]; rfl
                                 have C14 : τ 14 = upd (σ 14) (σ 10 0).toInt.toNat (σ 1 0) := by rw [hτ]; rfl
                                 have C15 : τ 15 = upd (σ 15) (σ 10 0).toInt.toNat (-1000000005) := by rw [hτ]; rfl
                                 have C16 : τ 16 = upd (σ 16) (σ 10 0).toInt.toNat w := by rw [hτ]; rfl
                                 have C17 : τ 17 = upd (σ 17) (σ 10 0).toInt.toNat (-1000000005) := by rw [hτ]; rfl
                                 have C96 : τ 96 = σ 96 := by rw [hτ]; rfl
                                 have C97 : τ 97 = σ 97 := by rw [hτ]; rfl
                                 have C98 : τ 98 = σ 98 := by rw [hτ]; rfl
                                 have C99 : τ 99 = σ 99 := by rw [hτ]; rfl
                                 have C100 : τ 100 = σ 100 := by rw [hτ]; rfl
                                 have C101 : τ 101 = σ 101 := by rw [hτ]; rfl
                                 have C102 : τ 102 = σ 102 := by rw [hτ]; rfl
                                 have C18 : τ 18 = insL (upd (σ 13) (σ 10 0).toInt.toNat a) (nI (σ 10 0).toInt.toNat) (σ 18) (σ 10 0).toInt.toNat := by rw [hτ]; rfl
                                 have C30 : τ 30 = σ 30 := by rw [hτ]; rfl
                                 have C118 : τ 118 = σ 118 := by rw [hτ]; rfl
                                 have C46 : τ 46 = σ 46 := by rw [hτ]; rfl
                                 have C47 : τ 47 = σ 47 := by rw [hτ]; rfl
                                 have C48 : τ 48 = σ 48 := by rw [hτ]; rfl
                                 have C49 : τ 49 = σ 49 := by rw [hτ]; rfl
                                 have C50 : τ 50 = σ 50 := by rw [hτ]; rfl
                                 have C120 : τ 120 = σ 120 := by rw [hτ]; rfl
                                 have C121 : τ 121 = σ 121 := by rw [hτ]; rfl
                                 have C122 : τ 122 = σ 122 := by rw [hτ]; rfl
                                 have C123 : τ 123 = σ 123 := by rw [hτ]; rfl
                                 have C124 : τ 124 = σ 124 := by rw [hτ]; rfl
                                 have C52 : τ 52 = σ 52 := by rw [hτ]; rfl
                                 have C53 : τ 53 = σ 53 := by rw [hτ]; rfl
                                 have C54 : τ 54 = σ 54 := by rw [hτ]; rfl
                                 have C55 : τ 55 = σ 55 := by rw [hτ]; rfl
                                 have C56 : τ 56 = σ 56 := by rw [hτ]; rfl
                                 have C57 : τ 57 = σ 57 := by rw [hτ]; rfl
                                 have C125 : τ 125 = σ 125 := by rw [hτ]; rfl
                                 have C73 : τ 73 = σ 73 := by rw [hτ]; rfl
                                 have C74 : τ 74 = σ 74 := by rw [hτ]; rfl
                                 have C75 : τ 75 = σ 75 := by rw [hτ]; rfl
                                 have C76 : τ 76 = σ 76 := by rw [hτ]; rfl
                                 have C77 : τ 77 = σ 77 := by rw [hτ]; rfl
                                 have C131 : τ 131 = σ 131 := by rw [hτ]; rfl
                                 have C132 : τ 132 = σ 132 := by rw [hτ]; rfl
                                 have C133 : τ 133 = σ 133 := by rw [hτ]; rfl
                                 have C134 : τ 134 = σ 134 := by rw [hτ]; rfl
                                 have C79 : τ 79 = σ 79 := by rw [hτ]; rfl
                                 have C80 : τ 80 = σ 80 := by rw [hτ]; rfl
                                 have C81 : τ 81 = σ 81 := by rw [hτ]; rfl
                                 have C136 : τ 136 = σ 136 := by rw [hτ]; rfl
                                 have C137 : τ 137 = σ 137 := by rw [hτ]; rfl
                                 have C138 : τ 138 = σ 138 := by rw [hτ]; rfl
                                 have C83 : τ 83 = σ 83 := by rw [hτ]; rfl
                                 have C85 : τ 85 = σ 85 := by rw [hτ]; rfl
                                 have C86 : τ 86 = σ 86 := by rw [hτ]; rfl
                                 have C103 : τ 103 = σ 103 := by rw [hτ]; rfl
                                 have C104 : τ 104 = σ 104 := by rw [hτ]; rfl
                                 have C87 : τ 87 = σ 87 := by rw [hτ]; rfl
                                 have C130 : τ 130 = σ 130 := by rw [hτ]; rfl
                                 have C20 : τ 20 = σ 20 := by rw [hτ]; rfl
                                 have C22 : τ 22 = σ 22 := by rw [hτ]; rfl
                                 have C23 : τ 23 = σ 23 := by rw [hτ]; rfl
                                 have C24 : τ 24 = σ 24 := by rw [hτ]; rfl
                                 have C26 : τ 26 = σ 26 := by rw [hτ]; rfl
                                 have C27 : τ 27 = σ 27 := by rw [hτ]; rfl
                                 have C28 : τ 28 = σ 28 := by rw [hτ]; rfl
                                 have C110 : τ 110 = σ 110 := by rw [hτ]; rfl
                                 have C111 : τ 111 = σ 111 := by rw [hτ]; rfl
                                 have C112 : τ 112 = σ 112 := by rw [hτ]; rfl
                                 have C113 : τ 113 = σ 113 := by rw [hτ]; rfl
                                 have C119 : τ 119 = σ 119 := by rw [hτ]; rfl
                                 have P1_0 : τ 1 0 = σ 1 0 := by rw [hτ]; rfl
                                 have P1_1 : τ 1 1 = σ 1 1 := by rw [hτ]; rfl
                                 have P1_2 : τ 1 2 = σ 1 2 := by rw [hτ]; rfl
                                 have P88_0 : τ 88 0 = σ 88 0 := by rw [hτ]; rfl
                                 have P88_1 : τ 88 1 = σ 88 1 := by rw [hτ]; rfl
                                 have P88_2 : τ 88 2 = σ 88 2 := by rw [hτ]; rfl
                                 have P3_0 : τ 3 0 = σ 3 0 + 1 := by rw [hτ]; rfl
                                 have P88_4 : τ 88 4 = σ 88 4 := by rw [hτ]; rfl
                                 have P10_0 : τ 10 0 = σ 10 0 + 1 := by rw [hτ]; rfl
                                 have P10_1 : τ 10 1 = σ 10 1 := by rw [hτ]; rfl
                                 have P88_11 : τ 88 11 = σ 88 11 := by rw [hτ]; rfl
                                 have P0_5 : τ 0 5 = σ 0 5 := by rw [hτ]; rfl
                                 have P88_36 : τ 88 36 = σ 88 36 := by rw [hτ]; rfl
                                 have P45_0 : τ 45 0 = σ 45 0 := by rw [hτ]; rfl
                                 have P45_3 : τ 45 3 = σ 45 3 := by rw [hτ]; rfl
                                 have P88_48 : τ 88 48 = σ 88 48 := by rw [hτ]; rfl
                                 have P88_51 : τ 88 51 = σ 88 51 := by rw [hτ]; rfl
                                 have P71_0 : τ 71 0 = σ 71 0 := by rw [hτ]; rfl
                                 have P88_65 : τ 88 65 = σ 88 65 := by rw [hτ]; rfl
                                 have P78_0 : τ 78 0 = σ 78 0 := by rw [hτ]; rfl
                                 have P78_1 : τ 78 1 = σ 78 1 := by rw [hτ]; rfl
                                 have P88_71 : τ 88 71 = σ 88 71 := by rw [hτ]; rfl
                                 have P88_72 : τ 88 72 = σ 88 72 := by rw [hτ]; rfl
                                 have P0_14 : τ 0 14 = σ 0 14 := by rw [hτ]; rfl
                                 have P88_64 : τ 88 64 = σ 88 64 := by rw [hτ]; rfl
                                 exact ⟨⟨σ 10 0, rfl, vI_ (P88_11.trans l0)⟩, ⟨(I_tr_fr (σ := σ) C2 C89 P1_0 P1_1 P1_2 P88_0 P88_1 P88_2 hI.1), (c_beg_vo (σ := σ) C4 C5 C6 C7 C8 C9 (show upd (τ 90) (τ 88 4).toInt.toNat (k / 10) = upd (σ 90) (σ 88 4).toInt.toNat (k / 10) by rw [C90, P88_4]) (show upd (τ 91) (τ 88 4).toInt.toNat (k - k / 10 * 10) = upd (σ 91) (σ 88 4).toInt.toNat (k - k / 10 * 10) by rw [C91, P88_4]) (show upd (τ 92) (τ 88 4).toInt.toNat f = upd (σ 92) (σ 88 4).toInt.toNat f by rw [C92, P88_4]) (show upd (τ 93) (τ 88 4).toInt.toNat c = upd (σ 93) (σ 88 4).toInt.toNat c by rw [C93, P88_4]) (show upd (τ 94) (τ 88 4).toInt.toNat t = upd (σ 94) (σ 88 4).toInt.toNat t by rw [C94, P88_4]) (show upd (τ 95) (τ 88 4).toInt.toNat w = upd (σ 95) (σ 88 4).toInt.toNat w by rw [C95, P88_4]) P3_0 (show τ 88 4 + 1 = σ 88 4 + 1 by rw [P88_4]) P1_1 hI.2.1 z6 zv), (c_line_li (σ := VA σ k f c t w) C9 C11 C12 C13 C14 C15 C16 C17 (show upd (τ 96) (τ 88 11).toInt.toNat 0 = upd (σ 96) (σ 88 11).toInt.toNat 0 by rw [C96, P88_11]) (show upd (τ 97) (τ 88 11).toInt.toNat (τ 88 4) = upd (σ 97) (σ 88 11).toInt.toNat (σ 88 4) by rw [C97, P88_11, P88_4]) (show upd (τ 98) (τ 88 11).toInt.toNat a = upd (σ 98) (σ 88 11).toInt.toNat a by rw [C98, P88_11]) (show upd (τ 99) (τ 88 11).toInt.toNat (τ 88 0) = upd (σ 99) (σ 88 11).toInt.toNat (σ 88 0) by rw [C99, P88_11, P88_0]) (show upd (τ 100) (τ 88 11).toInt.toNat (-1) = upd (σ 100) (σ 88 11).toInt.toNat (-1) by rw [C100, P88_11]) (show upd (τ 101) (τ 88 11).toInt.toNat w = upd (σ 101) (σ 88 11).toInt.toNat w by rw [C101, P88_11]) (show upd (τ 102) (τ 88 11).toInt.toNat (-1) = upd (σ 102) (σ 88 11).toInt.toNat (-1) by rw [C102, P88_11]) P10_0 P10_1 (show τ 88 11 + 1 = σ 88 11 + 1 by rw [P88_11]) P1_0 P1_2 P3_0 ((c_beg_li (σ := σ) rfl rfl rfl rfl rfl rfl rfl rfl rfl rfl rfl rfl rfl rfl rfl rfl rfl rfl rfl rfl rfl hI.2.2.1 v7 z6) : I_li (VA σ k f c t w)) z5 t0 v0 ⟨⟨by decide, by decide⟩, ⟨v7, (by show (σ 3 0).toInt < (σ 3 0 + 1).toInt; omega)⟩, za, ⟨t4, Int.le_refl _⟩, zv.2.2.2.2.2, Or.inl ⟨Or.inl rfl, rfl, rfl⟩, fun _ => (pk_us (f := σ 9) (k := (σ 3 0).toInt.toNat)).symm⟩), (c_line_or (σ := σ) C13 C18 P10_0 hI.2.2.2.1 l6 z5), (I_ta_fr (σ := σ) C30 C118 P0_5 P88_36 hI.2.2.2.2.1), (I_ba_fr (σ := σ) C46 C47 C48 C49 C50 C120 C121 C122 C123 C124 C52 C53 C54 C55 C56 C57 C125 P45_0 P45_3 P88_48 P88_51 hI.2.2.2.2.2.1), (I_ex_fr (σ := σ) C73 C74 C75 C76 C77 C131 C132 C133 C134 P71_0 P88_65 hI.2.2.2.2.2.2.1), (I_gu_fr (σ := σ) C79 C80 C81 C136 C137 C138 P78_0 P78_1 P88_71 P88_72 hI.2.2.2.2.2.2.2.1), (I_sh_fr (σ := σ) C83 C85 C86 C103 C104 hI.2.2.2.2.2.2.2.2.1), (I_wa_fr (σ := σ) C87 C130 P0_14 P88_64 hI.2.2.2.2.2.2.2.2.2.1), (I_la_fr (σ := σ) C20 C22 C23 C24 C26 C27 C28 C110 C111 C112 C113 hI.2.2.2.2.2.2.2.2.2.2.1), (I_he_fr (σ := σ) C119 hI.2.2.2.2.2.2.2.2.2.2.2)⟩⟩)
                            · replace m57 := bI_nz m57
                              refine ⟨rfl, rfl, ?_⟩
                              refine m_isPast ?_
                              refine ⟨fun m66 => ?_, fun m66 => ?_⟩
                              · replace m66 := bI_z m66
                                refine ⟨rfl, trivial, ?_⟩
                                first
                                | (exfalso; (first | omega | (simp only [Int32.reduceToInt] at c4 c15 c26 c38 c49 c61 c74 c84 m7 m15 m23 m34 m46 m57 m66 ⊢; omega)); done)
                                | (have z5 : (σ 10 0).toInt < 100 := by (first | omega | (simp only [Int32.reduceToInt] at c4 c15 c26 c38 c49 c61 c74 c84 m7 m15 m23 m34 m46 m57 m66 ⊢; omega))
                                   have z6 : (σ 3 0).toInt < 30 := by (first | omega | (simp only [Int32.reduceToInt] at c4 c15 c26 c38 c49 c61 c74 c84 m7 m15 m23 m34 m46 m57 m66 ⊢; omega))
                                   have zk := div10 (x := k) (by (first | omega | (simp only [Int32.reduceToInt] at c4 c15 c26 c38 c49 c61 c74 c84 m7 m15 m23 m34 m46 m57 m66 ⊢; omega)))
                                   have zv : (0 ≤ (k / 10).toInt ∧ (k / 10).toInt ≤ 3) ∧ (0 ≤ (k - k / 10 * 10).toInt ∧ (k - k / 10 * 10).toInt ≤ 2) ∧ (0 ≤ f.toInt ∧ f.toInt < (σ 1 1).toInt) ∧ (0 ≤ c.toInt ∧ c.toInt ≤ 9999) ∧ (1 ≤ t.toInt ∧ t.toInt ≤ 900) ∧ (0 ≤ w.toInt ∧ w.toInt ≤ 100000) := by (first | omega | (simp only [Int32.reduceToInt] at c4 c15 c26 c38 c49 c61 c74 c84 m7 m15 m23 m34 m46 m57 m66 ⊢; omega))
                                   have za : 0 ≤ a.toInt ∧ a.toInt ≤ (σ 1 0).toInt := by (first | omega | (simp only [Int32.reduceToInt] at c4 c15 c26 c38 c49 c61 c74 c84 m7 m15 m23 m34 m46 m57 m66 ⊢; omega))
                                   have eb := add1 (x := σ 3 0) (by omega)
                                   have C2 : τ 2 = σ 2 := by rw [hτ]; rfl
                                   have C89 : τ 89 = σ 89 := by rw [hτ]; rfl
                                   have C4 : τ 4 = upd (σ 4) (σ 3 0).toInt.toNat (k / 10) := by rw [hτ]; rfl
                                   have C5 : τ 5 = upd (σ 5) (σ 3 0).toInt.toNat (k - k / 10 * 10) := by rw [hτ]; rfl
                                   have C6 : τ 6 = upd (σ 6) (σ 3 0).toInt.toNat f := by rw [hτ]; rfl
                                   have C7 : τ 7 = upd (σ 7) (σ 3 0).toInt.toNat c := by rw [hτ]; rfl
                                   have C8 : τ 8 = upd (σ 8) (σ 3 0).toInt.toNat t := by rw [hτ]; rfl
                                   have C9 : τ 9 = upd (σ 9) (σ 3 0).toInt.toNat w := by rw [hτ]; rfl
                                   have C90 : τ 90 = σ 90 := by rw [hτ]; rfl
                                   have C91 : τ 91 = σ 91 := by rw [hτ]; rfl
                                   have C92 : τ 92 = σ 92 := by rw [hτ]; rfl
                                   have C93 : τ 93 = σ 93 := by rw [hτ]; rfl
                                   have C94 : τ 94 = σ 94 := by rw [hτ]; rfl
                                   have C95 : τ 95 = σ 95 := by rw [hτ]; rfl
                                   have C11 : τ 11 = upd (σ 11) (σ 10 0).toInt.toNat 0 := by rw [hτ]; rfl
                                   have C12 : τ 12 = upd (σ 12) (σ 10 0).toInt.toNat (σ 3 0) := by rw [hτ]; rfl
                                   have C13 : τ 13 = upd (σ 13) (σ 10 0).toInt.toNat a := by rw [hτ]; rfl
                                   have C14 : τ 14 = upd (σ 14) (σ 10 0).toInt.toNat (σ 1 0) := by rw [hτ]; rfl
                                   have C15 : τ 15 = upd (σ 15) (σ 10 0).toInt.toNat (-1000000005) := by rw [hτ]; rfl
                                   have C16 : τ 16 = upd (σ 16) (σ 10 0).toInt.toNat w := by rw [hτ]; rfl
                                   have C17 : τ 17 = upd (σ 17) (σ 10 0).toInt.toNat (-1000000005) := by rw [hτ]; rfl
                                   have C96 : τ 96 = σ 96 := by rw [hτ]; rfl
                                   have C97 : τ 97 = σ 97 := by rw [hτ]; rfl
                                   have C98 : τ 98 = σ 98 := by rw [hτ]; rfl
                                   have C99 : τ 99 = σ 99 := by rw [hτ]; rfl
                                   have C100 : τ 100 = σ 100 := by rw [hτ]; rfl
                                   have C101 : τ 101 = σ 101 := by rw [hτ]; rfl
                                   have C102 : τ 102 = σ 102 := by rw [hτ]; rfl
                                   have C18 : τ 18 = insL (upd (σ 13) (σ 10 0).toInt.toNat a) (nI (σ 10 0).toInt.toNat) (σ 18) (σ 10 0).toInt.toNat := by rw [hτ]; rfl
                                   have C30 : τ 30 = σ 30 := by rw [hτ]; rfl
                                   have C118 : τ 118 = σ 118 := by rw [hτ]; rfl
                                   have C46 : τ 46 = σ 46 := by rw [hτ]; rfl
                                   have C47 : τ 47 = σ 47 := by rw [hτ]; rfl
                                   have C48 : τ 48 = σ 48 := by rw [hτ]; rfl
                                   have C49 : τ 49 = σ 49 := by rw [hτ]; rfl
                                   have C50 : τ 50 = σ 50 := by rw [hτ]; rfl
                                   have C120 : τ 120 = σ 120 := by rw [hτ]; rfl
                                   have C121 : τ 121 = σ 121 := by rw [hτ]; rfl
                                   have C122 : τ 122 = σ 122 := by rw [hτ]; rfl
                                   have C123 : τ 123 = σ 123 := by rw [hτ]; rfl
                                   have C124 : τ 124 = σ 124 := by rw [hτ]; rfl
                                   have C52 : τ 52 = σ 52 := by rw [hτ]; rfl
                                   have C53 : τ 53 = σ 53 := by rw [hτ]; rfl
                                   have C54 : τ 54 = σ 54 := by rw [hτ]; rfl
                                   have C55 : τ 55 = σ 55 := by rw [hτ]; rfl
                                   have C56 : τ 56 = σ 56 := by rw [hτ]; rfl
                                   have C57 : τ 57 = σ 57 := by rw [hτ]; rfl
                                   have C125 : τ 125 = σ 125 := by rw [hτ]; rfl
                                   have C73 : τ 73 = σ 73 := by rw [hτ]; rfl
                                   have C74 : τ 74 = σ 74 := by rw [hτ]; rfl
                                   have C75 : τ 75 = σ 75 := by rw [hτ]; rfl
                                   have C76 : τ 76 = σ 76 := by rw [hτ]; rfl
                                   have C77 : τ 77 = σ 77 := by rw [hτ]; rfl
                                   have C131 : τ 131 = σ 131 := by rw [hτ]; rfl
                                   have C132 : τ 132 = σ 132 := by rw [hτ]; rfl
                                   have C133 : τ 133 = σ 133 := by rw [hτ]; rfl
                                   have C134 : τ 134 = σ 134 := by rw [hτ]; rfl
                                   have C79 : τ 79 = σ 79 := by rw [hτ]; rfl
                                   have C80 : τ 80 = σ 80 := by rw [hτ]; rfl
                                   have C81 : τ 81 = σ 81 := by rw [hτ]; rfl
                                   have C136 : τ 136 = σ 136 := by rw [hτ]; rfl
                                   have C137 : τ 137 = σ 137 := by rw [hτ]; rfl
                                   have C138 : τ 138 = σ 138 := by rw [hτ]; rfl
                                   have C83 : τ 83 = σ 83 := by rw [hτ]; rfl
                                   have C85 : τ 85 = σ 85 := by rw [hτ]; rfl
                                   have C86 : τ 86 = σ 86 := by rw [hτ]; rfl
                                   have C103 : τ 103 = σ 103 := by rw [hτ]; rfl
                                   have C104 : τ 104 = σ 104 := by rw [hτ]; rfl
                                   have C87 : τ 87 = σ 87 := by rw [hτ]; rfl
                                   have C130 : τ 130 = σ 130 := by rw [hτ]; rfl
                                   have C20 : τ 20 = σ 20 := by rw [hτ]; rfl
                                   have C22 : τ 22 = σ 22 := by rw [hτ]; rfl
                                   have C23 : τ 23 = σ 23 := by rw [hτ]; rfl
                                   have C24 : τ 24 = σ 24 := by rw [hτ]; rfl
                                   have C26 : τ 26 = σ 26 := by rw [hτ]; rfl
                                   have C27 : τ 27 = σ 27 := by rw [hτ]; rfl
                                   have C28 : τ 28 = σ 28 := by rw [hτ]; rfl
                                   have C110 : τ 110 = σ 110 := by rw [hτ]; rfl
                                   have C111 : τ 111 = σ 111 := by rw [hτ]; rfl
                                   have C112 : τ 112 = σ 112 := by rw [hτ]; rfl
                                   have C113 : τ 113 = σ 113 := by rw [hτ]; rfl
                                   have C119 : τ 119 = σ 119 := by rw [hτ]; rfl
                                   have P1_0 : τ 1 0 = σ 1 0 := by rw [hτ]; rfl
                                   have P1_1 : τ 1 1 = σ 1 1 := by rw [hτ]; rfl
                                   have P1_2 : τ 1 2 = σ 1 2 := by rw [hτ]; rfl
                                   have P88_0 : τ 88 0 = σ 88 0 := by rw [hτ]; rfl
                                   have P88_1 : τ 88 1 = σ 88 1 := by rw [hτ]; rfl
                                   have P88_2 : τ 88 2 = σ 88 2 := by rw [hτ]; rfl
                                   have P3_0 : τ 3 0 = σ 3 0 + 1 := by rw [hτ]; rfl
                                   have P88_4 : τ 88 4 = σ 88 4 := by rw [hτ]; rfl
                                   have P10_0 : τ 10 0 = σ 10 0 + 1 := by rw [hτ]; rfl
                                   have P10_1 : τ 10 1 = σ 10 1 := by rw [hτ]; rfl
                                   have P88_11 : τ 88 11 = σ 88 11 := by rw [hτ]; rfl
                                   have P0_5 : τ 0 5 = σ 0 5 := by rw [hτ]; rfl
                                   have P88_36 : τ 88 36 = σ 88 36 := by rw [hτ]; rfl
                                   have P45_0 : τ 45 0 = σ 45 0 := by rw [hτ]; rfl
                                   have P45_3 : τ 45 3 = σ 45 3 := by rw [hτ]; rfl
                                   have P88_48 : τ 88 48 = σ 88 48 := by rw [hτ]; rfl
                                   have P88_51 : τ 88 51 = σ 88 51 := by rw [hτ]; rfl
                                   have P71_0 : τ 71 0 = σ 71 0 := by rw [hτ]; rfl
                                   have P88_65 : τ 88 65 = σ 88 65 := by rw [hτ]; rfl
                                   have P78_0 : τ 78 0 = σ 78 0 := by rw [hτ]; rfl
                                   have P78_1 : τ 78 1 = σ 78 1 := by rw [hτ]; rfl
                                   have P88_71 : τ 88 71 = σ 88 71 := by rw [hτ]; rfl
                                   have P88_72 : τ 88 72 = σ 88 72 := by rw [hτ]; rfl
                                   have P0_14 : τ 0 14 = σ 0 14 := by rw [hτ]; rfl
                                   have P88_64 : τ 88 64 = σ 88 64 := by rw [hτ]; rfl
                                   exact ⟨⟨σ 10 0, rfl, vI_ (P88_11.trans l0)⟩, ⟨(I_tr_fr (σ := σ) C2 C89 P1_0 P1_1 P1_2 P88_0 P88_1 P88_2 hI.1), (c_beg_vo (σ := σ) C4 C5 C6 C7 C8 C9 (show upd (τ 90) (τ 88 4).toInt.toNat (k / 10) = upd (σ 90) (σ 88 4).toInt.toNat (k / 10) by rw [C90, P88_4]) (show upd (τ 91) (τ 88 4).toInt.toNat (k - k / 10 * 10) = upd (σ 91) (σ 88 4).toInt.toNat (k - k / 10 * 10) by rw [C91, P88_4]) (show upd (τ 92) (τ 88 4).toInt.toNat f = upd (σ 92) (σ 88 4).toInt.toNat f by rw [C92, P88_4]) (show upd (τ 93) (τ 88 4).toInt.toNat c = upd (σ 93) (σ 88 4).toInt.toNat c by rw [C93, P88_4]) (show upd (τ 94) (τ 88 4).toInt.toNat t = upd (σ 94) (σ 88 4).toInt.toNat t by rw [C94, P88_4]) (show upd (τ 95) (τ 88 4).toInt.toNat w = upd (σ 95) (σ 88 4).toInt.toNat w by rw [C95, P88_4]) P3_0 (show τ 88 4 + 1 = σ 88 4 + 1 by rw [P88_4]) P1_1 hI.2.1 z6 zv), (c_line_li (σ := VA σ k f c t w) C9 C11 C12 C13 C14 C15 C16 C17 (show upd (τ 96) (τ 88 11).toInt.toNat 0 = upd (σ 96) (σ 88 11).toInt.toNat 0 by rw [C96, P88_11]) (show upd (τ 97) (τ 88 11).toInt.toNat (τ 88 4) = upd (σ 97) (σ 88 11).toInt.toNat (σ 88 4) by rw [C97, P88_11, P88_4]) (show upd (τ 98) (τ 88 11).toInt.toNat a = upd (σ 98) (σ 88 11).toInt.toNat a by rw [C98, P88_11]) (show upd (τ 99) (τ 88 11).toInt.toNat (τ 88 0) = upd (σ 99) (σ 88 11).toInt.toNat (σ 88 0) by rw [C99, P88_11, P88_0]) (show upd (τ 100) (τ 88 11).toInt.toNat (-1) = upd (σ 100) (σ 88 11).toInt.toNat (-1) by rw [C100, P88_11]) (show upd (τ 101) (τ 88 11).toInt.toNat w = upd (σ 101) (σ 88 11).toInt.toNat w by rw [C101, P88_11]) (show upd (τ 102) (τ 88 11).toInt.toNat (-1) = upd (σ 102) (σ 88 11).toInt.toNat (-1) by rw [C102, P88_11]) P10_0 P10_1 (show τ 88 11 + 1 = σ 88 11 + 1 by rw [P88_11]) P1_0 P1_2 P3_0 ((c_beg_li (σ := σ) rfl rfl rfl rfl rfl rfl rfl rfl rfl rfl rfl rfl rfl rfl rfl rfl rfl rfl rfl rfl rfl hI.2.2.1 v7 z6) : I_li (VA σ k f c t w)) z5 t0 v0 ⟨⟨by decide, by decide⟩, ⟨v7, (by show (σ 3 0).toInt < (σ 3 0 + 1).toInt; omega)⟩, za, ⟨t4, Int.le_refl _⟩, zv.2.2.2.2.2, Or.inl ⟨Or.inl rfl, rfl, rfl⟩, fun _ => (pk_us (f := σ 9) (k := (σ 3 0).toInt.toNat)).symm⟩), (c_line_or (σ := σ) C13 C18 P10_0 hI.2.2.2.1 l6 z5), (I_ta_fr (σ := σ) C30 C118 P0_5 P88_36 hI.2.2.2.2.1), (I_ba_fr (σ := σ) C46 C47 C48 C49 C50 C120 C121 C122 C123 C124 C52 C53 C54 C55 C56 C57 C125 P45_0 P45_3 P88_48 P88_51 hI.2.2.2.2.2.1), (I_ex_fr (σ := σ) C73 C74 C75 C76 C77 C131 C132 C133 C134 P71_0 P88_65 hI.2.2.2.2.2.2.1), (I_gu_fr (σ := σ) C79 C80 C81 C136 C137 C138 P78_0 P78_1 P88_71 P88_72 hI.2.2.2.2.2.2.2.1), (I_sh_fr (σ := σ) C83 C85 C86 C103 C104 hI.2.2.2.2.2.2.2.2.1), (I_wa_fr (σ := σ) C87 C130 P0_14 P88_64 hI.2.2.2.2.2.2.2.2.2.1), (I_la_fr (σ := σ) C20 C22 C23 C24 C26 C27 C28 C110 C111 C112 C113 hI.2.2.2.2.2.2.2.2.2.2.1), (I_he_fr (σ := σ) C119 hI.2.2.2.2.2.2.2.2.2.2.2)⟩⟩)
                              · replace m66 := bI_nz m66
                                refine ⟨fun m78 => ?_, fun m78 => ?_⟩
                                · refine ⟨rfl, trivial, ?_⟩
                                  first
                                  | (exfalso; (first | omega | (simp only [Int32.reduceToInt] at c4 c15 c26 c38 c49 c61 c74 c84 m7 m15 m23 m34 m46 m57 m66 m78 ⊢; omega)); done)
                                  | (have z5 : (σ 10 0).toInt < 100 := by (first | omega | (simp only [Int32.reduceToInt] at c4 c15 c26 c38 c49 c61 c74 c84 m7 m15 m23 m34 m46 m57 m66 m78 ⊢; omega))
                                     have z6 : (σ 3 0).toInt < 30 := by (first | omega | (simp only [Int32.reduceToInt] at c4 c15 c26 c38 c49 c61 c74 c84 m7 m15 m23 m34 m46 m57 m66 m78 ⊢; omega))
                                     have zk := div10 (x := k) (by (first | omega | (simp only [Int32.reduceToInt] at c4 c15 c26 c38 c49 c61 c74 c84 m7 m15 m23 m34 m46 m57 m66 m78 ⊢; omega)))
                                     have zv : (0 ≤ (k / 10).toInt ∧ (k / 10).toInt ≤ 3) ∧ (0 ≤ (k - k / 10 * 10).toInt ∧ (k - k / 10 * 10).toInt ≤ 2) ∧ (0 ≤ f.toInt ∧ f.toInt < (σ 1 1).toInt) ∧ (0 ≤ c.toInt ∧ c.toInt ≤ 9999) ∧ (1 ≤ t.toInt ∧ t.toInt ≤ 900) ∧ (0 ≤ w.toInt ∧ w.toInt ≤ 100000) := by (first | omega | (simp only [Int32.reduceToInt] at c4 c15 c26 c38 c49 c61 c74 c84 m7 m15 m23 m34 m46 m57 m66 m78 ⊢; omega))
                                     have za : 0 ≤ a.toInt ∧ a.toInt ≤ (σ 1 0).toInt := by (first | omega | (simp only [Int32.reduceToInt] at c4 c15 c26 c38 c49 c61 c74 c84 m7 m15 m23 m34 m46 m57 m66 m78 ⊢; omega))
                                     have eb := add1 (x := σ 3 0) (by omega)
                                     have C2 : τ 2 = σ 2 := by rw [hτ]; rfl
                                     have C89 : τ 89 = σ 89 := by rw [hτ]; rfl
                                     have C4 : τ 4 = upd (σ 4) (σ 3 0).toInt.toNat (k / 10) := by rw [hτ]; rfl
                                     have C5 : τ 5 = upd (σ 5) (σ 3 0).toInt.toNat (k - k / 10 * 10) := by rw [hτ]; rfl
                                     have C6 : τ 6 = upd (σ 6) (σ 3 0).toInt.toNat f := by rw [hτ]; rfl
                                     have C7 : τ 7 = upd (σ 7) (σ 3 0).toInt.toNat c := by rw [hτ]; rfl
                                     have C8 : τ 8 = upd (σ 8) (σ 3 0).toInt.toNat t := by rw [hτ]; rfl
                                     have C9 : τ 9 = upd (σ 9) (σ 3 0).toInt.toNat w := by rw [hτ]; rfl
                                     have C90 : τ 90 = σ 90 := by rw [hτ]; rfl
                                     have C91 : τ 91 = σ 91 := by rw [hτ]; rfl
                                     have C92 : τ 92 = σ 92 := by rw [hτ]; rfl
                                     have C93 : τ 93 = σ 93 := by rw [hτ]; rfl
                                     have C94 : τ 94 = σ 94 := by rw [hτ]; rfl
                                     have C95 : τ 95 = σ 95 := by rw [hτ]; rfl
                                     have C11 : τ 11 = upd (σ 11) (σ 10 0).toInt.toNat 0 := by rw [hτ]; rfl
                                     have C12 : τ 12 = upd (σ 12) (σ 10 0).toInt.toNat (σ 3 0) := by rw [hτ]; rfl
                                     have C13 : τ 13 = upd (σ 13) (σ 10 0).toInt.toNat a := by rw [hτ]; rfl
                                     have C14 : τ 14 = upd (σ 14) (σ 10 0).toInt.toNat (σ 1 0) := by rw [hτ]; rfl
                                     have C15 : τ 15 = upd (σ 15) (σ 10 0).toInt.toNat (-1000000005) := by rw [hτ]; rfl
                                     have C16 : τ 16 = upd (σ 16) (σ 10 0).toInt.toNat w := by rw [hτ]; rfl
                                     have C17 : τ 17 = upd (σ 17) (σ 10 0).toInt.toNat (-1000000005) := by rw [hτ]; rfl
                                     have C96 : τ 96 = σ 96 := by rw [hτ]; rfl
                                     have C97 : τ 97 = σ 97 := by rw [hτ]; rfl
                                     have C98 : τ 98 = σ 98 := by rw [hτ]; rfl
                                     have C99 : τ 99 = σ 99 := by rw [hτ]; rfl
                                     have C100 : τ 100 = σ 100 := by rw [hτ]; rfl
                                     have C101 : τ 101 = σ 101 := by rw [hτ]; rfl
                                     have C102 : τ 102 = σ 102 := by rw [hτ]; rfl
                                     have C18 : τ 18 = insL (upd (σ 13) (σ 10 0).toInt.toNat a) (nI (σ 10 0).toInt.toNat) (σ 18) (σ 10 0).toInt.toNat := by rw [hτ]; rfl
                                     have C30 : τ 30 = σ 30 := by rw [hτ]; rfl
                                     have C118 : τ 118 = σ 118 := by rw [hτ]; rfl
                                     have C46 : τ 46 = σ 46 := by rw [hτ]; rfl
                                     have C47 : τ 47 = σ 47 := by rw [hτ]; rfl
                                     have C48 : τ 48 = σ 48 := by rw [hτ]; rfl
                                     have C49 : τ 49 = σ 49 := by rw [hτ]; rfl
                                     have C50 : τ 50 = σ 50 := by rw [hτ]; rfl
                                     have C120 : τ 120 = σ 120 := by rw [hτ]; rfl
                                     have C121 : τ 121 = σ 121 := by rw [hτ]; rfl
                                     have C122 : τ 122 = σ 122 := by rw [hτ]; rfl
                                     have C123 : τ 123 = σ 123 := by rw [hτ]; rfl
                                     have C124 : τ 124 = σ 124 := by rw [hτ]; rfl
                                     have C52 : τ 52 = σ 52 := by rw [hτ]; rfl
                                     have C53 : τ 53 = σ 53 := by rw [hτ]; rfl
                                     have C54 : τ 54 = σ 54 := by rw [hτ]; rfl
                                     have C55 : τ 55 = σ 55 := by rw [hτ]; rfl
                                     have C56 : τ 56 = σ 56 := by rw [hτ]; rfl
                                     have C57 : τ 57 = σ 57 := by rw [hτ]; rfl
                                     have C125 : τ 125 = σ 125 := by rw [hτ]; rfl
                                     have C73 : τ 73 = σ 73 := by rw [hτ]; rfl
                                     have C74 : τ 74 = σ 74 := by rw [hτ]; rfl
                                     have C75 : τ 75 = σ 75 := by rw [hτ]; rfl
                                     have C76 : τ 76 = σ 76 := by rw [hτ]; rfl
                                     have C77 : τ 77 = σ 77 := by rw [hτ]; rfl
                                     have C131 : τ 131 = σ 131 := by rw [hτ]; rfl
                                     have C132 : τ 132 = σ 132 := by rw [hτ]; rfl
                                     have C133 : τ 133 = σ 133 := by rw [hτ]; rfl
                                     have C134 : τ 134 = σ 134 := by rw [hτ]; rfl
                                     have C79 : τ 79 = σ 79 := by rw [hτ]; rfl
                                     have C80 : τ 80 = σ 80 := by rw [hτ]; rfl
                                     have C81 : τ 81 = σ 81 := by rw [hτ]; rfl
                                     have C136 : τ 136 = σ 136 := by rw [hτ]; rfl
                                     have C137 : τ 137 = σ 137 := by rw [hτ]; rfl
                                     have C138 : τ 138 = σ 138 := by rw [hτ]; rfl
                                     have C83 : τ 83 = σ 83 := by rw [hτ]; rfl
                                     have C85 : τ 85 = σ 85 := by rw [hτ]; rfl
                                     have C86 : τ 86 = σ 86 := by rw [hτ]; rfl
                                     have C103 : τ 103 = σ 103 := by rw [hτ]; rfl
                                     have C104 : τ 104 = σ 104 := by rw [hτ]; rfl
                                     have C87 : τ 87 = σ 87 := by rw [hτ]; rfl
                                     have C130 : τ 130 = σ 130 := by rw [hτ]; rfl
                                     have C20 : τ 20 = σ 20 := by rw [hτ]; rfl
                                     have C22 : τ 22 = σ 22 := by rw [hτ]; rfl
                                     have C23 : τ 23 = σ 23 := by rw [hτ]; rfl
                                     have C24 : τ 24 = σ 24 := by rw [hτ]; rfl
                                     have C26 : τ 26 = σ 26 := by rw [hτ]; rfl
                                     have C27 : τ 27 = σ 27 := by rw [hτ]; rfl
                                     have C28 : τ 28 = σ 28 := by rw [hτ]; rfl
                                     have C110 : τ 110 = σ 110 := by rw [hτ]; rfl
                                     have C111 : τ 111 = σ 111 := by rw [hτ]; rfl
                                     have C112 : τ 112 = σ 112 := by rw [hτ]; rfl
                                     have C113 : τ 113 = σ 113 := by rw [hτ]; rfl
                                     have C119 : τ 119 = σ 119 := by rw [hτ]; rfl
                                     have P1_0 : τ 1 0 = σ 1 0 := by rw [hτ]; rfl
                                     have P1_1 : τ 1 1 = σ 1 1 := by rw [hτ]; rfl
                                     have P1_2 : τ 1 2 = σ 1 2 := by rw [hτ]; rfl
                                     have P88_0 : τ 88 0 = σ 88 0 := by rw [hτ]; rfl
                                     have P88_1 : τ 88 1 = σ 88 1 := by rw [hτ]; rfl
                                     have P88_2 : τ 88 2 = σ 88 2 := by rw [hτ]; rfl
                                     have P3_0 : τ 3 0 = σ 3 0 + 1 := by rw [hτ]; rfl
                                     have P88_4 : τ 88 4 = σ 88 4 := by rw [hτ]; rfl
                                     have P10_0 : τ 10 0 = σ 10 0 + 1 := by rw [hτ]; rfl
                                     have P10_1 : τ 10 1 = σ 10 1 := by rw [hτ]; rfl
                                     have P88_11 : τ 88 11 = σ 88 11 := by rw [hτ]; rfl
                                     have P0_5 : τ 0 5 = σ 0 5 := by rw [hτ]; rfl
                                     have P88_36 : τ 88 36 = σ 88 36 := by rw [hτ]; rfl
                                     have P45_0 : τ 45 0 = σ 45 0 := by rw [hτ]; rfl
                                     have P45_3 : τ 45 3 = σ 45 3 := by rw [hτ]; rfl
                                     have P88_48 : τ 88 48 = σ 88 48 := by rw [hτ]; rfl
                                     have P88_51 : τ 88 51 = σ 88 51 := by rw [hτ]; rfl
                                     have P71_0 : τ 71 0 = σ 71 0 := by rw [hτ]; rfl
                                     have P88_65 : τ 88 65 = σ 88 65 := by rw [hτ]; rfl
                                     have P78_0 : τ 78 0 = σ 78 0 := by rw [hτ]; rfl
                                     have P78_1 : τ 78 1 = σ 78 1 := by rw [hτ]; rfl
                                     have P88_71 : τ 88 71 = σ 88 71 := by rw [hτ]; rfl
                                     have P88_72 : τ 88 72 = σ 88 72 := by rw [hτ]; rfl
                                     have P0_14 : τ 0 14 = σ 0 14 := by rw [hτ]; rfl
                                     have P88_64 : τ 88 64 = σ 88 64 := by rw [hτ]; rfl
                                     exact ⟨⟨σ 10 0, rfl, vI_ (P88_11.trans l0)⟩, ⟨(I_tr_fr (σ := σ) C2 C89 P1_0 P1_1 P1_2 P88_0 P88_1 P88_2 hI.1), (c_beg_vo (σ := σ) C4 C5 C6 C7 C8 C9 (show upd (τ 90) (τ 88 4).toInt.toNat (k / 10) = upd (σ 90) (σ 88 4).toInt.toNat (k / 10) by rw [C90, P88_4]) (show upd (τ 91) (τ 88 4).toInt.toNat (k - k / 10 * 10) = upd (σ 91) (σ 88 4).toInt.toNat (k - k / 10 * 10) by rw [C91, P88_4]) (show upd (τ 92) (τ 88 4).toInt.toNat f = upd (σ 92) (σ 88 4).toInt.toNat f by rw [C92, P88_4]) (show upd (τ 93) (τ 88 4).toInt.toNat c = upd (σ 93) (σ 88 4).toInt.toNat c by rw [C93, P88_4]) (show upd (τ 94) (τ 88 4).toInt.toNat t = upd (σ 94) (σ 88 4).toInt.toNat t by rw [C94, P88_4]) (show upd (τ 95) (τ 88 4).toInt.toNat w = upd (σ 95) (σ 88 4).toInt.toNat w by rw [C95, P88_4]) P3_0 (show τ 88 4 + 1 = σ 88 4 + 1 by rw [P88_4]) P1_1 hI.2.1 z6 zv), (c_line_li (σ := VA σ k f c t w) C9 C11 C12 C13 C14 C15 C16 C17 (show upd (τ 96) (τ 88 11).toInt.toNat 0 = upd (σ 96) (σ 88 11).toInt.toNat 0 by rw [C96, P88_11]) (show upd (τ 97) (τ 88 11).toInt.toNat (τ 88 4) = upd (σ 97) (σ 88 11).toInt.toNat (σ 88 4) by rw [C97, P88_11, P88_4]) (show upd (τ 98) (τ 88 11).toInt.toNat a = upd (σ 98) (σ 88 11).toInt.toNat a by rw [C98, P88_11]) (show upd (τ 99) (τ 88 11).toInt.toNat (τ 88 0) = upd (σ 99) (σ 88 11).toInt.toNat (σ 88 0) by rw [C99, P88_11, P88_0]) (show upd (τ 100) (τ 88 11).toInt.toNat (-1) = upd (σ 100) (σ 88 11).toInt.toNat (-1) by rw [C100, P88_11]) (show upd (τ 101) (τ 88 11).toInt.toNat w = upd (σ 101) (σ 88 11).toInt.toNat w by rw [C101, P88_11]) (show upd (τ 102) (τ 88 11).toInt.toNat (-1) = upd (σ 102) (σ 88 11).toInt.toNat (-1) by rw [C102, P88_11]) P10_0 P10_1 (show τ 88 11 + 1 = σ 88 11 + 1 by rw [P88_11]) P1_0 P1_2 P3_0 ((c_beg_li (σ := σ) rfl rfl rfl rfl rfl rfl rfl rfl rfl rfl rfl rfl rfl rfl rfl rfl rfl rfl rfl rfl rfl hI.2.2.1 v7 z6) : I_li (VA σ k f c t w)) z5 t0 v0 ⟨⟨by decide, by decide⟩, ⟨v7, (by show (σ 3 0).toInt < (σ 3 0 + 1).toInt; omega)⟩, za, ⟨t4, Int.le_refl _⟩, zv.2.2.2.2.2, Or.inl ⟨Or.inl rfl, rfl, rfl⟩, fun _ => (pk_us (f := σ 9) (k := (σ 3 0).toInt.toNat)).symm⟩), (c_line_or (σ := σ) C13 C18 P10_0 hI.2.2.2.1 l6 z5), (I_ta_fr (σ := σ) C30 C118 P0_5 P88_36 hI.2.2.2.2.1), (I_ba_fr (σ := σ) C46 C47 C48 C49 C50 C120 C121 C122 C123 C124 C52 C53 C54 C55 C56 C57 C125 P45_0 P45_3 P88_48 P88_51 hI.2.2.2.2.2.1), (I_ex_fr (σ := σ) C73 C74 C75 C76 C77 C131 C132 C133 C134 P71_0 P88_65 hI.2.2.2.2.2.2.1), (I_gu_fr (σ := σ) C79 C80 C81 C136 C137 C138 P78_0 P78_1 P88_71 P88_72 hI.2.2.2.2.2.2.2.1), (I_sh_fr (σ := σ) C83 C85 C86 C103 C104 hI.2.2.2.2.2.2.2.2.1), (I_wa_fr (σ := σ) C87 C130 P0_14 P88_64 hI.2.2.2.2.2.2.2.2.2.1), (I_la_fr (σ := σ) C20 C22 C23 C24 C26 C27 C28 C110 C111 C112 C113 hI.2.2.2.2.2.2.2.2.2.2.1), (I_he_fr (σ := σ) C119 hI.2.2.2.2.2.2.2.2.2.2.2)⟩⟩)
                                · refine ⟨fun m87 => ?_, fun m87 => ?_⟩
                                  · refine ⟨rfl, trivial, ?_⟩
                                    first
                                    | (exfalso; (first | omega | (simp only [Int32.reduceToInt] at c4 c15 c26 c38 c49 c61 c74 c84 m7 m15 m23 m34 m46 m57 m66 m78 m87 ⊢; omega)); done)
                                    | (have z5 : (σ 10 0).toInt < 100 := by (first | omega | (simp only [Int32.reduceToInt] at c4 c15 c26 c38 c49 c61 c74 c84 m7 m15 m23 m34 m46 m57 m66 m78 m87 ⊢; omega))
                                       have z6 : (σ 3 0).toInt < 30 := by (first | omega | (simp only [Int32.reduceToInt] at c4 c15 c26 c38 c49 c61 c74 c84 m7 m15 m23 m34 m46 m57 m66 m78 m87 ⊢; omega))
                                       have zk := div10 (x := k) (by (first | omega | (simp only [Int32.reduceToInt] at c4 c15 c26 c38 c49 c61 c74 c84 m7 m15 m23 m34 m46 m57 m66 m78 m87 ⊢; omega)))
                                       have zv : (0 ≤ (k / 10).toInt ∧ (k / 10).toInt ≤ 3) ∧ (0 ≤ (k - k / 10 * 10).toInt ∧ (k - k / 10 * 10).toInt ≤ 2) ∧ (0 ≤ f.toInt ∧ f.toInt < (σ 1 1).toInt) ∧ (0 ≤ c.toInt ∧ c.toInt ≤ 9999) ∧ (1 ≤ t.toInt ∧ t.toInt ≤ 900) ∧ (0 ≤ w.toInt ∧ w.toInt ≤ 100000) := by (first | omega | (simp only [Int32.reduceToInt] at c4 c15 c26 c38 c49 c61 c74 c84 m7 m15 m23 m34 m46 m57 m66 m78 m87 ⊢; omega))
                                       have za : 0 ≤ a.toInt ∧ a.toInt ≤ (σ 1 0).toInt := by (first | omega | (simp only [Int32.reduceToInt] at c4 c15 c26 c38 c49 c61 c74 c84 m7 m15 m23 m34 m46 m57 m66 m78 m87 ⊢; omega))
                                       have eb := add1 (x := σ 3 0) (by omega)
                                       have C2 : τ 2 = σ 2 := by rw [hτ]; rfl
                                       have C89 : τ 89 = σ 89 := by rw [hτ]; rfl
                                       have C4 : τ 4 = upd (σ 4) (σ 3 0).toInt.toNat (k / 10) := by rw [hτ]; rfl
                                       have C5 : τ 5 = upd (σ 5) (σ 3 0).toInt.toNat (k - k / 10 * 10) := by rw [hτ]; rfl
                                       have C6 : τ 6 = upd (σ 6) (σ 3 0).toInt.toNat f := by rw [hτ]; rfl
                                       have C7 : τ 7 = upd (σ 7) (σ 3 0).toInt.toNat c := by rw [hτ]; rfl
                                       have C8 : τ 8 = upd (σ 8) (σ 3 0).toInt.toNat t := by rw [hτ]; rfl
                                       have C9 : τ 9 = upd (σ 9) (σ 3 0).toInt.toNat w := by rw [hτ]; rfl
                                       have C90 : τ 90 = σ 90 := by rw [hτ]; rfl
                                       have C91 : τ 91 = σ 91 := by rw [hτ]; rfl
                                       have C92 : τ 92 = σ 92 := by rw [hτ]; rfl
                                       have C93 : τ 93 = σ 93 := by rw [hτ]; rfl
                                       have C94 : τ 94 = σ 94 := by rw [hτ]; rfl
                                       have C95 : τ 95 = σ 95 := by rw [hτ]; rfl
                                       have C11 : τ 11 = upd (σ 11) (σ 10 0).toInt.toNat 0 := by rw [hτ]; rfl
                                       have C12 : τ 12 = upd (σ 12) (σ 10 0).toInt.toNat (σ 3 0) := by rw [hτ]; rfl
                                       have C13 : τ 13 = upd (σ 13) (σ 10 0).toInt.toNat a := by rw [hτ]; rfl
                                       have C14 : τ 14 = upd (σ 14) (σ 10 0).toInt.toNat (σ 1 0) := by rw [hτ]; rfl
                                       have C15 : τ 15 = upd (σ 15) (σ 10 0).toInt.toNat (-1000000005) := by rw [hτ]; rfl
                                       have C16 : τ 16 = upd (σ 16) (σ 10 0).toInt.toNat w := by rw [hτ]; rfl
                                       have C17 : τ 17 = upd (σ 17) (σ 10 0).toInt.toNat (-1000000005) := by rw [hτ]; rfl
                                       have C96 : τ 96 = σ 96 := by rw [hτ]; rfl
                                       have C97 : τ 97 = σ 97 := by rw [hτ]; rfl
                                       have C98 : τ 98 = σ 98 := by rw [hτ]; rfl
                                       have C99 : τ 99 = σ 99 := by rw [hτ]; rfl
                                       have C100 : τ 100 = σ 100 := by rw [hτ]; rfl
                                       have C101 : τ 101 = σ 101 := by rw [hτ]; rfl
                                       have C102 : τ 102 = σ 102 := by rw [hτ]; rfl
                                       have C18 : τ 18 = insL (upd (σ 13) (σ 10 0).toInt.toNat a) (nI (σ 10 0).toInt.toNat) (σ 18) (σ 10 0).toInt.toNat := by rw [hτ]; rfl
                                       have C30 : τ 30 = σ 30 := by rw [hτ]; rfl
                                       have C118 : τ 118 = σ 118 := by rw [hτ]; rfl
                                       have C46 : τ 46 = σ 46 := by rw [hτ]; rfl
                                       have C47 : τ 47 = σ 47 := by rw [hτ]; rfl
                                       have C48 : τ 48 = σ 48 := by rw [hτ]; rfl
                                       have C49 : τ 49 = σ 49 := by rw [hτ]; rfl
                                       have C50 : τ 50 = σ 50 := by rw [hτ]; rfl
                                       have C120 : τ 120 = σ 120 := by rw [hτ]; rfl
                                       have C121 : τ 121 = σ 121 := by rw [hτ]; rfl
                                       have C122 : τ 122 = σ 122 := by rw [hτ]; rfl
                                       have C123 : τ 123 = σ 123 := by rw [hτ]; rfl
                                       have C124 : τ 124 = σ 124 := by rw [hτ]; rfl
                                       have C52 : τ 52 = σ 52 := by rw [hτ]; rfl
                                       have C53 : τ 53 = σ 53 := by rw [hτ]; rfl
                                       have C54 : τ 54 = σ 54 := by rw [hτ]; rfl
                                       have C55 : τ 55 = σ 55 := by rw [hτ]; rfl
                                       have C56 : τ 56 = σ 56 := by rw [hτ]; rfl
                                       have C57 : τ 57 = σ 57 := by rw [hτ]; rfl
                                       have C125 : τ 125 = σ 125 := by rw [hτ]; rfl
                                       have C73 : τ 73 = σ 73 := by rw [hτ]; rfl
                                       have C74 : τ 74 = σ 74 := by rw [hτ]; rfl
                                       have C75 : τ 75 = σ 75 := by rw [hτ]; rfl
                                       have C76 : τ 76 = σ 76 := by rw [hτ]; rfl
                                       have C77 : τ 77 = σ 77 := by rw [hτ]; rfl
                                       have C131 : τ 131 = σ 131 := by rw [hτ]; rfl
                                       have C132 : τ 132 = σ 132 := by rw [hτ]; rfl
                                       have C133 : τ 133 = σ 133 := by rw [hτ]; rfl
                                       have C134 : τ 134 = σ 134 := by rw [hτ]; rfl
                                       have C79 : τ 79 = σ 79 := by rw [hτ]; rfl
                                       have C80 : τ 80 = σ 80 := by rw [hτ]; rfl
                                       have C81 : τ 81 = σ 81 := by rw [hτ]; rfl
                                       have C136 : τ 136 = σ 136 := by rw [hτ]; rfl
                                       have C137 : τ 137 = σ 137 := by rw [hτ]; rfl
                                       have C138 : τ 138 = σ 138 := by rw [hτ]; rfl
                                       have C83 : τ 83 = σ 83 := by rw [hτ]; rfl
                                       have C85 : τ 85 = σ 85 := by rw [hτ]; rfl
                                       have C86 : τ 86 = σ 86 := by rw [hτ]; rfl
                                       have C103 : τ 103 = σ 103 := by rw [hτ]; rfl
                                       have C104 : τ 104 = σ 104 := by rw [hτ]; rfl
                                       have C87 : τ 87 = σ 87 := by rw [hτ]; rfl
                                       have C130 : τ 130 = σ 130 := by rw [hτ]; rfl
                                       have C20 : τ 20 = σ 20 := by rw [hτ]; rfl
                                       have C22 : τ 22 = σ 22 := by rw [hτ]; rfl
                                       have C23 : τ 23 = σ 23 := by rw [hτ]; rfl
                                       have C24 : τ 24 = σ 24 := by rw [hτ]; rfl
                                       have C26 : τ 26 = σ 26 := by rw [hτ]; rfl
                                       have C27 : τ 27 = σ 27 := by rw [hτ]; rfl
                                       have C28 : τ 28 = σ 28 := by rw [hτ]; rfl
                                       have C110 : τ 110 = σ 110 := by rw [hτ]; rfl
                                       have C111 : τ 111 = σ 111 := by rw [hτ]; rfl
                                       have C112 : τ 112 = σ 112 := by rw [hτ]; rfl
                                       have C113 : τ 113 = σ 113 := by rw [hτ]; rfl
                                       have C119 : τ 119 = σ 119 := by rw [hτ]; rfl
                                       have P1_0 : τ 1 0 = σ 1 0 := by rw [hτ]; rfl
                                       have P1_1 : τ 1 1 = σ 1 1 := by rw [hτ]; rfl
                                       have P1_2 : τ 1 2 = σ 1 2 := by rw [hτ]; rfl
                                       have P88_0 : τ 88 0 = σ 88 0 := by rw [hτ]; rfl
                                       have P88_1 : τ 88 1 = σ 88 1 := by rw [hτ]; rfl
                                       have P88_2 : τ 88 2 = σ 88 2 := by rw [hτ]; rfl
                                       have P3_0 : τ 3 0 = σ 3 0 + 1 := by rw [hτ]; rfl
                                       have P88_4 : τ 88 4 = σ 88 4 := by rw [hτ]; rfl
                                       have P10_0 : τ 10 0 = σ 10 0 + 1 := by rw [hτ]; rfl
                                       have P10_1 : τ 10 1 = σ 10 1 := by rw [hτ]; rfl
                                       have P88_11 : τ 88 11 = σ 88 11 := by rw [hτ]; rfl
                                       have P0_5 : τ 0 5 = σ 0 5 := by rw [hτ]; rfl
                                       have P88_36 : τ 88 36 = σ 88 36 := by rw [hτ]; rfl
                                       have P45_0 : τ 45 0 = σ 45 0 := by rw [hτ]; rfl
                                       have P45_3 : τ 45 3 = σ 45 3 := by rw [hτ]; rfl
                                       have P88_48 : τ 88 48 = σ 88 48 := by rw [hτ]; rfl
                                       have P88_51 : τ 88 51 = σ 88 51 := by rw [hτ]; rfl
                                       have P71_0 : τ 71 0 = σ 71 0 := by rw [hτ]; rfl
                                       have P88_65 : τ 88 65 = σ 88 65 := by rw [hτ]; rfl
                                       have P78_0 : τ 78 0 = σ 78 0 := by rw [hτ]; rfl
                                       have P78_1 : τ 78 1 = σ 78 1 := by rw [hτ]; rfl
                                       have P88_71 : τ 88 71 = σ 88 71 := by rw [hτ]; rfl
                                       have P88_72 : τ 88 72 = σ 88 72 := by rw [hτ]; rfl
                                       have P0_14 : τ 0 14 = σ 0 14 := by rw [hτ]; rfl
                                       have P88_64 : τ 88 64 = σ 88 64 := by rw [hτ]; rfl
                                       exact ⟨⟨σ 10 0, rfl, vI_ (P88_11.trans l0)⟩, ⟨(I_tr_fr (σ := σ) C2 C89 P1_0 P1_1 P1_2 P88_0 P88_1 P88_2 hI.1), (c_beg_vo (σ := σ) C4 C5 C6 C7 C8 C9 (show upd (τ 90) (τ 88 4).toInt.toNat (k / 10) = upd (σ 90) (σ 88 4).toInt.toNat (k / 10) by rw [C90, P88_4]) (show upd (τ 91) (τ 88 4).toInt.toNat (k - k / 10 * 10) = upd (σ 91) (σ 88 4).toInt.toNat (k - k / 10 * 10) by rw [C91, P88_4]) (show upd (τ 92) (τ 88 4).toInt.toNat f = upd (σ 92) (σ 88 4).toInt.toNat f by rw [C92, P88_4]) (show upd (τ 93) (τ 88 4).toInt.toNat c = upd (σ 93) (σ 88 4).toInt.toNat c by rw [C93, P88_4]) (show upd (τ 94) (τ 88 4).toInt.toNat t = upd (σ 94) (σ 88 4).toInt.toNat t by rw [C94, P88_4]) (show upd (τ 95) (τ 88 4).toInt.toNat w = upd (σ 95) (σ 88 4).toInt.toNat w by rw [C95, P88_4]) P3_0 (show τ 88 4 + 1 = σ 88 4 + 1 by rw [P88_4]) P1_1 hI.2.1 z6 zv), (c_line_li (σ := VA σ k f c t w) C9 C11 C12 C13 C14 C15 C16 C17 (show upd (τ 96) (τ 88 11).toInt.toNat 0 = upd (σ 96) (σ 88 11).toInt.toNat 0 by rw [C96, P88_11]) (show upd (τ 97) (τ 88 11).toInt.toNat (τ 88 4) = upd (σ 97) (σ 88 11).toInt.toNat (σ 88 4) by rw [C97, P88_11, P88_4]) (show upd (τ 98) (τ 88 11).toInt.toNat a = upd (σ 98) (σ 88 11).toInt.toNat a by rw [C98, P88_11]) (show upd (τ 99) (τ 88 11).toInt.toNat (τ 88 0) = upd (σ 99) (σ 88 11).toInt.toNat (σ 88 0) by rw [C99, P88_11, P88_0]) (show upd (τ 100) (τ 88 11).toInt.toNat (-1) = upd (σ 100) (σ 88 11).toInt.toNat (-1) by rw [C100, P88_11]) (show upd (τ 101) (τ 88 11).toInt.toNat w = upd (σ 101) (σ 88 11).toInt.toNat w by rw [C101, P88_11]) (show upd (τ 102) (τ 88 11).toInt.toNat (-1) = upd (σ 102) (σ 88 11).toInt.toNat (-1) by rw [C102, P88_11]) P10_0 P10_1 (show τ 88 11 + 1 = σ 88 11 + 1 by rw [P88_11]) P1_0 P1_2 P3_0 ((c_beg_li (σ := σ) rfl rfl rfl rfl rfl rfl rfl rfl rfl rfl rfl rfl rfl rfl rfl rfl rfl rfl rfl rfl rfl hI.2.2.1 v7 z6) : I_li (VA σ k f c t w)) z5 t0 v0 ⟨⟨by decide, by decide⟩, ⟨v7, (by show (σ 3 0).toInt < (σ 3 0 + 1).toInt; omega)⟩, za, ⟨t4, Int.le_refl _⟩, zv.2.2.2.2.2, Or.inl ⟨Or.inl rfl, rfl, rfl⟩, fun _ => (pk_us (f := σ 9) (k := (σ 3 0).toInt.toNat)).symm⟩), (c_line_or (σ := σ) C13 C18 P10_0 hI.2.2.2.1 l6 z5), (I_ta_fr (σ := σ) C30 C118 P0_5 P88_36 hI.2.2.2.2.1), (I_ba_fr (σ := σ) C46 C47 C48 C49 C50 C120 C121 C122 C123 C124 C52 C53 C54 C55 C56 C57 C125 P45_0 P45_3 P88_48 P88_51 hI.2.2.2.2.2.1), (I_ex_fr (σ := σ) C73 C74 C75 C76 C77 C131 C132 C133 C134 P71_0 P88_65 hI.2.2.2.2.2.2.1), (I_gu_fr (σ := σ) C79 C80 C81 C136 C137 C138 P78_0 P78_1 P88_71 P88_72 hI.2.2.2.2.2.2.2.1), (I_sh_fr (σ := σ) C83 C85 C86 C103 C104 hI.2.2.2.2.2.2.2.2.1), (I_wa_fr (σ := σ) C87 C130 P0_14 P88_64 hI.2.2.2.2.2.2.2.2.2.1), (I_la_fr (σ := σ) C20 C22 C23 C24 C26 C27 C28 C110 C111 C112 C113 hI.2.2.2.2.2.2.2.2.2.2.1), (I_he_fr (σ := σ) C119 hI.2.2.2.2.2.2.2.2.2.2.2)⟩⟩)
                                  · refine ⟨(by decide), ?_⟩
                                    refine ⟨_, rfl, ⟨(by (first | omega | (simp only [Int32.reduceToInt] at c4 c15 c26 c38 c49 c61 c74 c84 m7 m15 m23 m34 m46 m57 m66 m78 m87 ⊢; omega)) : 0 ≤ (τ 88 4).toInt), (by (first | omega | (simp only [Int32.reduceToInt] at c4 c15 c26 c38 c49 c61 c74 c84 m7 m15 m23 m34 m46 m57 m66 m78 m87 ⊢; omega)) : (τ 88 4).toInt < 30)⟩, ?_⟩
                                    refine ⟨(by decide), ?_⟩
                                    refine ⟨_, rfl, ⟨(by (first | omega | (simp only [Int32.reduceToInt] at c4 c15 c26 c38 c49 c61 c74 c84 m7 m15 m23 m34 m46 m57 m66 m78 m87 ⊢; omega)) : 0 ≤ (τ 88 4).toInt), (by (first | omega | (simp only [Int32.reduceToInt] at c4 c15 c26 c38 c49 c61 c74 c84 m7 m15 m23 m34 m46 m57 m66 m78 m87 ⊢; omega)) : (τ 88 4).toInt < 30)⟩, ?_⟩
                                    refine ⟨_, rfl, ⟨(by (first | omega | (simp only [Int32.reduceToInt] at c4 c15 c26 c38 c49 c61 c74 c84 m7 m15 m23 m34 m46 m57 m66 m78 m87 ⊢; omega)) : 0 ≤ (τ 88 4).toInt), (by (first | omega | (simp only [Int32.reduceToInt] at c4 c15 c26 c38 c49 c61 c74 c84 m7 m15 m23 m34 m46 m57 m66 m78 m87 ⊢; omega)) : (τ 88 4).toInt < 30)⟩, ?_⟩
                                    refine ⟨_, rfl, ⟨(by (first | omega | (simp only [Int32.reduceToInt] at c4 c15 c26 c38 c49 c61 c74 c84 m7 m15 m23 m34 m46 m57 m66 m78 m87 ⊢; omega)) : 0 ≤ (τ 88 4).toInt), (by (first | omega | (simp only [Int32.reduceToInt] at c4 c15 c26 c38 c49 c61 c74 c84 m7 m15 m23 m34 m46 m57 m66 m78 m87 ⊢; omega)) : (τ 88 4).toInt < 30)⟩, ?_⟩
                                    refine ⟨_, rfl, ⟨(by (first | omega | (simp only [Int32.reduceToInt] at c4 c15 c26 c38 c49 c61 c74 c84 m7 m15 m23 m34 m46 m57 m66 m78 m87 ⊢; omega)) : 0 ≤ (τ 88 4).toInt), (by (first | omega | (simp only [Int32.reduceToInt] at c4 c15 c26 c38 c49 c61 c74 c84 m7 m15 m23 m34 m46 m57 m66 m78 m87 ⊢; omega)) : (τ 88 4).toInt < 30)⟩, ?_⟩
                                    refine ⟨_, rfl, ⟨(by (first | omega | (simp only [Int32.reduceToInt] at c4 c15 c26 c38 c49 c61 c74 c84 m7 m15 m23 m34 m46 m57 m66 m78 m87 ⊢; omega)) : 0 ≤ (τ 88 4).toInt), (by (first | omega | (simp only [Int32.reduceToInt] at c4 c15 c26 c38 c49 c61 c74 c84 m7 m15 m23 m34 m46 m57 m66 m78 m87 ⊢; omega)) : (τ 88 4).toInt < 30)⟩, ?_⟩
                                    refine ⟨rfl, rfl, ?_⟩
                                    refine m_comes (by (first | omega | (simp only [Int32.reduceToInt] at c4 c15 c26 c38 c49 c61 c74 c84 m7 m15 m23 m34 m46 m57 m66 m78 m87 ⊢; omega)) : 0 ≤ (τ 88 11).toInt) (by (first | omega | (simp only [Int32.reduceToInt] at c4 c15 c26 c38 c49 c61 c74 c84 m7 m15 m23 m34 m46 m57 m66 m78 m87 ⊢; omega)) : (τ 88 11).toInt ≤ 100) (fun (hm174a : (τ 88 11).toInt = 100) => ?_) (fun (hm174a : (τ 88 11).toInt < 100) => ?_)
                                    · refine ⟨rfl, trivial, ?_⟩
                                      first
                                      | (exfalso; (first | omega | (simp only [Int32.reduceToInt] at c4 c15 c26 c38 c49 c61 c74 c84 m7 m15 m23 m34 m46 m57 m66 m78 m87 hm174a ⊢; omega)); done)
                                      | (have z5 : (σ 10 0).toInt < 100 := by (first | omega | (simp only [Int32.reduceToInt] at c4 c15 c26 c38 c49 c61 c74 c84 m7 m15 m23 m34 m46 m57 m66 m78 m87 hm174a ⊢; omega))
                                         have z6 : (σ 3 0).toInt < 30 := by (first | omega | (simp only [Int32.reduceToInt] at c4 c15 c26 c38 c49 c61 c74 c84 m7 m15 m23 m34 m46 m57 m66 m78 m87 hm174a ⊢; omega))
                                         have zk := div10 (x := k) (by (first | omega | (simp only [Int32.reduceToInt] at c4 c15 c26 c38 c49 c61 c74 c84 m7 m15 m23 m34 m46 m57 m66 m78 m87 hm174a ⊢; omega)))
                                         have zv : (0 ≤ (k / 10).toInt ∧ (k / 10).toInt ≤ 3) ∧ (0 ≤ (k - k / 10 * 10).toInt ∧ (k - k / 10 * 10).toInt ≤ 2) ∧ (0 ≤ f.toInt ∧ f.toInt < (σ 1 1).toInt) ∧ (0 ≤ c.toInt ∧ c.toInt ≤ 9999) ∧ (1 ≤ t.toInt ∧ t.toInt ≤ 900) ∧ (0 ≤ w.toInt ∧ w.toInt ≤ 100000) := by (first | omega | (simp only [Int32.reduceToInt] at c4 c15 c26 c38 c49 c61 c74 c84 m7 m15 m23 m34 m46 m57 m66 m78 m87 hm174a ⊢; omega))
                                         have za : 0 ≤ a.toInt ∧ a.toInt ≤ (σ 1 0).toInt := by (first | omega | (simp only [Int32.reduceToInt] at c4 c15 c26 c38 c49 c61 c74 c84 m7 m15 m23 m34 m46 m57 m66 m78 m87 hm174a ⊢; omega))
                                         have eb := add1 (x := σ 3 0) (by omega)
                                         have C2 : τ 2 = σ 2 := by rw [hτ]; rfl
                                         have C89 : τ 89 = σ 89 := by rw [hτ]; rfl
                                         have C4 : τ 4 = upd (σ 4) (σ 3 0).toInt.toNat (k / 10) := by rw [hτ]; rfl
                                         have C5 : τ 5 = upd (σ 5) (σ 3 0).toInt.toNat (k - k / 10 * 10) := by rw [hτ]; rfl
                                         have C6 : τ 6 = upd (σ 6) (σ 3 0).toInt.toNat f := by rw [hτ]; rfl
                                         have C7 : τ 7 = upd (σ 7) (σ 3 0).toInt.toNat c := by rw [hτ]; rfl
                                         have C8 : τ 8 = upd (σ 8) (σ 3 0).toInt.toNat t := by rw [hτ]; rfl
                                         have C9 : τ 9 = upd (σ 9) (σ 3 0).toInt.toNat w := by rw [hτ]; rfl
                                         have C90 : τ 90 = σ 90 := by rw [hτ]; rfl
                                         have C91 : τ 91 = σ 91 := by rw [hτ]; rfl
                                         have C92 : τ 92 = σ 92 := by rw [hτ]; rfl
                                         have C93 : τ 93 = σ 93 := by rw [hτ]; rfl
                                         have C94 : τ 94 = σ 94 := by rw [hτ]; rfl
                                         have C95 : τ 95 = σ 95 := by rw [hτ]; rfl
                                         have C11 : τ 11 = upd (σ 11) (σ 10 0).toInt.toNat 0 := by rw [hτ]; rfl
                                         have C12 : τ 12 = upd (σ 12) (σ 10 0).toInt.toNat (σ 3 0) := by rw [hτ]; rfl
                                         have C13 : τ 13 = upd (σ 13) (σ 10 0).toInt.toNat a := by rw [hτ]; rfl
                                         have C14 : τ 14 = upd (σ 14) (σ 10 0).toInt.toNat (σ 1 0) := by rw [hτ]; rfl
                                         have C15 : τ 15 = upd (σ 15) (σ 10 0).toInt.toNat (-1000000005) := by rw [hτ]; rfl
                                         have C16 : τ 16 = upd (σ 16) (σ 10 0).toInt.toNat w := by rw [hτ]; rfl
                                         have C17 : τ 17 = upd (σ 17) (σ 10 0).toInt.toNat (-1000000005) := by rw [hτ]; rfl
                                         have C96 : τ 96 = σ 96 := by rw [hτ]; rfl
                                         have C97 : τ 97 = σ 97 := by rw [hτ]; rfl
                                         have C98 : τ 98 = σ 98 := by rw [hτ]; rfl
                                         have C99 : τ 99 = σ 99 := by rw [hτ]; rfl
                                         have C100 : τ 100 = σ 100 := by rw [hτ]; rfl
                                         have C101 : τ 101 = σ 101 := by rw [hτ]; rfl
                                         have C102 : τ 102 = σ 102 := by rw [hτ]; rfl
                                         have C18 : τ 18 = insL (upd (σ 13) (σ 10 0).toInt.toNat a) (nI (σ 10 0).toInt.toNat) (σ 18) (σ 10 0).toInt.toNat := by rw [hτ]; rfl
                                         have C30 : τ 30 = σ 30 := by rw [hτ]; rfl
                                         have C118 : τ 118 = σ 118 := by rw [hτ]; rfl
                                         have C46 : τ 46 = σ 46 := by rw [hτ]; rfl
                                         have C47 : τ 47 = σ 47 := by rw [hτ]; rfl
                                         have C48 : τ 48 = σ 48 := by rw [hτ]; rfl
                                         have C49 : τ 49 = σ 49 := by rw [hτ]; rfl
                                         have C50 : τ 50 = σ 50 := by rw [hτ]; rfl
                                         have C120 : τ 120 = σ 120 := by rw [hτ]; rfl
                                         have C121 : τ 121 = σ 121 := by rw [hτ]; rfl
                                         have C122 : τ 122 = σ 122 := by rw [hτ]; rfl
                                         have C123 : τ 123 = σ 123 := by rw [hτ]; rfl
                                         have C124 : τ 124 = σ 124 := by rw [hτ]; rfl
                                         have C52 : τ 52 = σ 52 := by rw [hτ]; rfl
                                         have C53 : τ 53 = σ 53 := by rw [hτ]; rfl
                                         have C54 : τ 54 = σ 54 := by rw [hτ]; rfl
                                         have C55 : τ 55 = σ 55 := by rw [hτ]; rfl
                                         have C56 : τ 56 = σ 56 := by rw [hτ]; rfl
                                         have C57 : τ 57 = σ 57 := by rw [hτ]; rfl
                                         have C125 : τ 125 = σ 125 := by rw [hτ]; rfl
                                         have C73 : τ 73 = σ 73 := by rw [hτ]; rfl
                                         have C74 : τ 74 = σ 74 := by rw [hτ]; rfl
                                         have C75 : τ 75 = σ 75 := by rw [hτ]; rfl
                                         have C76 : τ 76 = σ 76 := by rw [hτ]; rfl
                                         have C77 : τ 77 = σ 77 := by rw [hτ]; rfl
                                         have C131 : τ 131 = σ 131 := by rw [hτ]; rfl
                                         have C132 : τ 132 = σ 132 := by rw [hτ]; rfl
                                         have C133 : τ 133 = σ 133 := by rw [hτ]; rfl
                                         have C134 : τ 134 = σ 134 := by rw [hτ]; rfl
                                         have C79 : τ 79 = σ 79 := by rw [hτ]; rfl
                                         have C80 : τ 80 = σ 80 := by rw [hτ]; rfl
                                         have C81 : τ 81 = σ 81 := by rw [hτ]; rfl
                                         have C136 : τ 136 = σ 136 := by rw [hτ]; rfl
                                         have C137 : τ 137 = σ 137 := by rw [hτ]; rfl
                                         have C138 : τ 138 = σ 138 := by rw [hτ]; rfl
                                         have C83 : τ 83 = σ 83 := by rw [hτ]; rfl
                                         have C85 : τ 85 = σ 85 := by rw [hτ]; rfl
                                         have C86 : τ 86 = σ 86 := by rw [hτ]; rfl
                                         have C103 : τ 103 = σ 103 := by rw [hτ]; rfl
                                         have C104 : τ 104 = σ 104 := by rw [hτ]; rfl
                                         have C87 : τ 87 = σ 87 := by rw [hτ]; rfl
                                         have C130 : τ 130 = σ 130 := by rw [hτ]; rfl
                                         have C20 : τ 20 = σ 20 := by rw [hτ]; rfl
                                         have C22 : τ 22 = σ 22 := by rw [hτ]; rfl
                                         have C23 : τ 23 = σ 23 := by rw [hτ]; rfl
                                         have C24 : τ 24 = σ 24 := by rw [hτ]; rfl
                                         have C26 : τ 26 = σ 26 := by rw [hτ]; rfl
                                         have C27 : τ 27 = σ 27 := by rw [hτ]; rfl
                                         have C28 : τ 28 = σ 28 := by rw [hτ]; rfl
                                         have C110 : τ 110 = σ 110 := by rw [hτ]; rfl
                                         have C111 : τ 111 = σ 111 := by rw [hτ]; rfl
                                         have C112 : τ 112 = σ 112 := by rw [hτ]; rfl
                                         have C113 : τ 113 = σ 113 := by rw [hτ]; rfl
                                         have C119 : τ 119 = σ 119 := by rw [hτ]; rfl
                                         have P1_0 : τ 1 0 = σ 1 0 := by rw [hτ]; rfl
                                         have P1_1 : τ 1 1 = σ 1 1 := by rw [hτ]; rfl
                                         have P1_2 : τ 1 2 = σ 1 2 := by rw [hτ]; rfl
                                         have P88_0 : τ 88 0 = σ 88 0 := by rw [hτ]; rfl
                                         have P88_1 : τ 88 1 = σ 88 1 := by rw [hτ]; rfl
                                         have P88_2 : τ 88 2 = σ 88 2 := by rw [hτ]; rfl
                                         have P3_0 : τ 3 0 = σ 3 0 + 1 := by rw [hτ]; rfl
                                         have P88_4 : τ 88 4 = σ 88 4 := by rw [hτ]; rfl
                                         have P10_0 : τ 10 0 = σ 10 0 + 1 := by rw [hτ]; rfl
                                         have P10_1 : τ 10 1 = σ 10 1 := by rw [hτ]; rfl
                                         have P88_11 : τ 88 11 = σ 88 11 := by rw [hτ]; rfl
                                         have P0_5 : τ 0 5 = σ 0 5 := by rw [hτ]; rfl
                                         have P88_36 : τ 88 36 = σ 88 36 := by rw [hτ]; rfl
                                         have P45_0 : τ 45 0 = σ 45 0 := by rw [hτ]; rfl
                                         have P45_3 : τ 45 3 = σ 45 3 := by rw [hτ]; rfl
                                         have P88_48 : τ 88 48 = σ 88 48 := by rw [hτ]; rfl
                                         have P88_51 : τ 88 51 = σ 88 51 := by rw [hτ]; rfl
                                         have P71_0 : τ 71 0 = σ 71 0 := by rw [hτ]; rfl
                                         have P88_65 : τ 88 65 = σ 88 65 := by rw [hτ]; rfl
                                         have P78_0 : τ 78 0 = σ 78 0 := by rw [hτ]; rfl
                                         have P78_1 : τ 78 1 = σ 78 1 := by rw [hτ]; rfl
                                         have P88_71 : τ 88 71 = σ 88 71 := by rw [hτ]; rfl
                                         have P88_72 : τ 88 72 = σ 88 72 := by rw [hτ]; rfl
                                         have P0_14 : τ 0 14 = σ 0 14 := by rw [hτ]; rfl
                                         have P88_64 : τ 88 64 = σ 88 64 := by rw [hτ]; rfl
                                         exact ⟨⟨σ 10 0, rfl, vI_ (P88_11.trans l0)⟩, ⟨(I_tr_fr (σ := σ) C2 C89 P1_0 P1_1 P1_2 P88_0 P88_1 P88_2 hI.1), (c_beg_vo (σ := σ) C4 C5 C6 C7 C8 C9 (show upd (τ 90) (τ 88 4).toInt.toNat (k / 10) = upd (σ 90) (σ 88 4).toInt.toNat (k / 10) by rw [C90, P88_4]) (show upd (τ 91) (τ 88 4).toInt.toNat (k - k / 10 * 10) = upd (σ 91) (σ 88 4).toInt.toNat (k - k / 10 * 10) by rw [C91, P88_4]) (show upd (τ 92) (τ 88 4).toInt.toNat f = upd (σ 92) (σ 88 4).toInt.toNat f by rw [C92, P88_4]) (show upd (τ 93) (τ 88 4).toInt.toNat c = upd (σ 93) (σ 88 4).toInt.toNat c by rw [C93, P88_4]) (show upd (τ 94) (τ 88 4).toInt.toNat t = upd (σ 94) (σ 88 4).toInt.toNat t by rw [C94, P88_4]) (show upd (τ 95) (τ 88 4).toInt.toNat w = upd (σ 95) (σ 88 4).toInt.toNat w by rw [C95, P88_4]) P3_0 (show τ 88 4 + 1 = σ 88 4 + 1 by rw [P88_4]) P1_1 hI.2.1 z6 zv), (c_line_li (σ := VA σ k f c t w) C9 C11 C12 C13 C14 C15 C16 C17 (show upd (τ 96) (τ 88 11).toInt.toNat 0 = upd (σ 96) (σ 88 11).toInt.toNat 0 by rw [C96, P88_11]) (show upd (τ 97) (τ 88 11).toInt.toNat (τ 88 4) = upd (σ 97) (σ 88 11).toInt.toNat (σ 88 4) by rw [C97, P88_11, P88_4]) (show upd (τ 98) (τ 88 11).toInt.toNat a = upd (σ 98) (σ 88 11).toInt.toNat a by rw [C98, P88_11]) (show upd (τ 99) (τ 88 11).toInt.toNat (τ 88 0) = upd (σ 99) (σ 88 11).toInt.toNat (σ 88 0) by rw [C99, P88_11, P88_0]) (show upd (τ 100) (τ 88 11).toInt.toNat (-1) = upd (σ 100) (σ 88 11).toInt.toNat (-1) by rw [C100, P88_11]) (show upd (τ 101) (τ 88 11).toInt.toNat w = upd (σ 101) (σ 88 11).toInt.toNat w by rw [C101, P88_11]) (show upd (τ 102) (τ 88 11).toInt.toNat (-1) = upd (σ 102) (σ 88 11).toInt.toNat (-1) by rw [C102, P88_11]) P10_0 P10_1 (show τ 88 11 + 1 = σ 88 11 + 1 by rw [P88_11]) P1_0 P1_2 P3_0 ((c_beg_li (σ := σ) rfl rfl rfl rfl rfl rfl rfl rfl rfl rfl rfl rfl rfl rfl rfl rfl rfl rfl rfl rfl rfl hI.2.2.1 v7 z6) : I_li (VA σ k f c t w)) z5 t0 v0 ⟨⟨by decide, by decide⟩, ⟨v7, (by show (σ 3 0).toInt < (σ 3 0 + 1).toInt; omega)⟩, za, ⟨t4, Int.le_refl _⟩, zv.2.2.2.2.2, Or.inl ⟨Or.inl rfl, rfl, rfl⟩, fun _ => (pk_us (f := σ 9) (k := (σ 3 0).toInt.toNat)).symm⟩), (c_line_or (σ := σ) C13 C18 P10_0 hI.2.2.2.1 l6 z5), (I_ta_fr (σ := σ) C30 C118 P0_5 P88_36 hI.2.2.2.2.1), (I_ba_fr (σ := σ) C46 C47 C48 C49 C50 C120 C121 C122 C123 C124 C52 C53 C54 C55 C56 C57 C125 P45_0 P45_3 P88_48 P88_51 hI.2.2.2.2.2.1), (I_ex_fr (σ := σ) C73 C74 C75 C76 C77 C131 C132 C133 C134 P71_0 P88_65 hI.2.2.2.2.2.2.1), (I_gu_fr (σ := σ) C79 C80 C81 C136 C137 C138 P78_0 P78_1 P88_71 P88_72 hI.2.2.2.2.2.2.2.1), (I_sh_fr (σ := σ) C83 C85 C86 C103 C104 hI.2.2.2.2.2.2.2.2.1), (I_wa_fr (σ := σ) C87 C130 P0_14 P88_64 hI.2.2.2.2.2.2.2.2.2.1), (I_la_fr (σ := σ) C20 C22 C23 C24 C26 C27 C28 C110 C111 C112 C113 hI.2.2.2.2.2.2.2.2.2.2.1), (I_he_fr (σ := σ) C119 hI.2.2.2.2.2.2.2.2.2.2.2)⟩⟩)
                                    · refine ⟨rfl, trivial, ?_⟩
                                      first
                                      | (exfalso; (first | omega | (simp only [Int32.reduceToInt] at c4 c15 c26 c38 c49 c61 c74 c84 m7 m15 m23 m34 m46 m57 m66 m78 m87 hm174a ⊢; omega)); done)
                                      | (have z5 : (σ 10 0).toInt < 100 := by (first | omega | (simp only [Int32.reduceToInt] at c4 c15 c26 c38 c49 c61 c74 c84 m7 m15 m23 m34 m46 m57 m66 m78 m87 hm174a ⊢; omega))
                                         have z6 : (σ 3 0).toInt < 30 := by (first | omega | (simp only [Int32.reduceToInt] at c4 c15 c26 c38 c49 c61 c74 c84 m7 m15 m23 m34 m46 m57 m66 m78 m87 hm174a ⊢; omega))
                                         have zk := div10 (x := k) (by (first | omega | (simp only [Int32.reduceToInt] at c4 c15 c26 c38 c49 c61 c74 c84 m7 m15 m23 m34 m46 m57 m66 m78 m87 hm174a ⊢; omega)))
                                         have zv : (0 ≤ (k / 10).toInt ∧ (k / 10).toInt ≤ 3) ∧ (0 ≤ (k - k / 10 * 10).toInt ∧ (k - k / 10 * 10).toInt ≤ 2) ∧ (0 ≤ f.toInt ∧ f.toInt < (σ 1 1).toInt) ∧ (0 ≤ c.toInt ∧ c.toInt ≤ 9999) ∧ (1 ≤ t.toInt ∧ t.toInt ≤ 900) ∧ (0 ≤ w.toInt ∧ w.toInt ≤ 100000) := by (first | omega | (simp only [Int32.reduceToInt] at c4 c15 c26 c38 c49 c61 c74 c84 m7 m15 m23 m34 m46 m57 m66 m78 m87 hm174a ⊢; omega))
                                         have za : 0 ≤ a.toInt ∧ a.toInt ≤ (σ 1 0).toInt := by (first | omega | (simp only [Int32.reduceToInt] at c4 c15 c26 c38 c49 c61 c74 c84 m7 m15 m23 m34 m46 m57 m66 m78 m87 hm174a ⊢; omega))
                                         have eb := add1 (x := σ 3 0) (by omega)
                                         have C2 : τ 2 = σ 2 := by rw [hτ]; rfl
                                         have C89 : τ 89 = σ 89 := by rw [hτ]; rfl
                                         have C4 : τ 4 = upd (σ 4) (σ 3 0).toInt.toNat (k / 10) := by rw [hτ]; rfl
                                         have C5 : τ 5 = upd (σ 5) (σ 3 0).toInt.toNat (k - k / 10 * 10) := by rw [hτ]; rfl
                                         have C6 : τ 6 = upd (σ 6) (σ 3 0).toInt.toNat f := by rw [hτ]; rfl
                                         have C7 : τ 7 = upd (σ 7) (σ 3 0).toInt.toNat c := by rw [hτ]; rfl
                                         have C8 : τ 8 = upd (σ 8) (σ 3 0).toInt.toNat t := by rw [hτ]; rfl
                                         have C9 : τ 9 = upd (σ 9) (σ 3 0).toInt.toNat w := by rw [hτ]; rfl
                                         have C90 : τ 90 = σ 90 := by rw [hτ]; rfl
                                         have C91 : τ 91 = σ 91 := by rw [hτ]; rfl
                                         have C92 : τ 92 = σ 92 := by rw [hτ]; rfl
                                         have C93 : τ 93 = σ 93 := by rw [hτ]; rfl
                                         have C94 : τ 94 = σ 94 := by rw [hτ]; rfl
                                         have C95 : τ 95 = σ 95 := by rw [hτ]; rfl
                                         have C11 : τ 11 = upd (σ 11) (σ 10 0).toInt.toNat 0 := by rw [hτ]; rfl
                                         have C12 : τ 12 = upd (σ 12) (σ 10 0).toInt.toNat (σ 3 0) := by rw [hτ]; rfl
                                         have C13 : τ 13 = upd (σ 13) (σ 10 0).toInt.toNat a := by rw [hτ]; rfl
                                         have C14 : τ 14 = upd (σ 14) (σ 10 0).toInt.toNat (σ 1 0) := by rw [hτ]; rfl
                                         have C15 : τ 15 = upd (σ 15) (σ 10 0).toInt.toNat (-1000000005) := by rw [hτ]; rfl
                                         have C16 : τ 16 = upd (σ 16) (σ 10 0).toInt.toNat w := by rw [hτ]; rfl
                                         have C17 : τ 17 = upd (σ 17) (σ 10 0).toInt.toNat (-1000000005) := by rw [hτ]; rfl
                                         have C96 : τ 96 = σ 96 := by rw [hτ]; rfl
                                         have C97 : τ 97 = σ 97 := by rw [hτ]; rfl
                                         have C98 : τ 98 = σ 98 := by rw [hτ]; rfl
                                         have C99 : τ 99 = σ 99 := by rw [hτ]; rfl
                                         have C100 : τ 100 = σ 100 := by rw [hτ]; rfl
                                         have C101 : τ 101 = σ 101 := by rw [hτ]; rfl
                                         have C102 : τ 102 = σ 102 := by rw [hτ]; rfl
                                         have C18 : τ 18 = insL (upd (σ 13) (σ 10 0).toInt.toNat a) (nI (σ 10 0).toInt.toNat) (σ 18) (σ 10 0).toInt.toNat := by rw [hτ]; rfl
                                         have C30 : τ 30 = σ 30 := by rw [hτ]; rfl
                                         have C118 : τ 118 = σ 118 := by rw [hτ]; rfl
                                         have C46 : τ 46 = σ 46 := by rw [hτ]; rfl
                                         have C47 : τ 47 = σ 47 := by rw [hτ]; rfl
                                         have C48 : τ 48 = σ 48 := by rw [hτ]; rfl
                                         have C49 : τ 49 = σ 49 := by rw [hτ]; rfl
                                         have C50 : τ 50 = σ 50 := by rw [hτ]; rfl
                                         have C120 : τ 120 = σ 120 := by rw [hτ]; rfl
                                         have C121 : τ 121 = σ 121 := by rw [hτ]; rfl
                                         have C122 : τ 122 = σ 122 := by rw [hτ]; rfl
                                         have C123 : τ 123 = σ 123 := by rw [hτ]; rfl
                                         have C124 : τ 124 = σ 124 := by rw [hτ]; rfl
                                         have C52 : τ 52 = σ 52 := by rw [hτ]; rfl
                                         have C53 : τ 53 = σ 53 := by rw [hτ]; rfl
                                         have C54 : τ 54 = σ 54 := by rw [hτ]; rfl
                                         have C55 : τ 55 = σ 55 := by rw [hτ]; rfl
                                         have C56 : τ 56 = σ 56 := by rw [hτ]; rfl
                                         have C57 : τ 57 = σ 57 := by rw [hτ]; rfl
                                         have C125 : τ 125 = σ 125 := by rw [hτ]; rfl
                                         have C73 : τ 73 = σ 73 := by rw [hτ]; rfl
                                         have C74 : τ 74 = σ 74 := by rw [hτ]; rfl
                                         have C75 : τ 75 = σ 75 := by rw [hτ]; rfl
                                         have C76 : τ 76 = σ 76 := by rw [hτ]; rfl
                                         have C77 : τ 77 = σ 77 := by rw [hτ]; rfl
                                         have C131 : τ 131 = σ 131 := by rw [hτ]; rfl
                                         have C132 : τ 132 = σ 132 := by rw [hτ]; rfl
                                         have C133 : τ 133 = σ 133 := by rw [hτ]; rfl
                                         have C134 : τ 134 = σ 134 := by rw [hτ]; rfl
                                         have C79 : τ 79 = σ 79 := by rw [hτ]; rfl
                                         have C80 : τ 80 = σ 80 := by rw [hτ]; rfl
                                         have C81 : τ 81 = σ 81 := by rw [hτ]; rfl
                                         have C136 : τ 136 = σ 136 := by rw [hτ]; rfl
                                         have C137 : τ 137 = σ 137 := by rw [hτ]; rfl
                                         have C138 : τ 138 = σ 138 := by rw [hτ]; rfl
                                         have C83 : τ 83 = σ 83 := by rw [hτ]; rfl
                                         have C85 : τ 85 = σ 85 := by rw [hτ]; rfl
                                         have C86 : τ 86 = σ 86 := by rw [hτ]; rfl
                                         have C103 : τ 103 = σ 103 := by rw [hτ]; rfl
                                         have C104 : τ 104 = σ 104 := by rw [hτ]; rfl
                                         have C87 : τ 87 = σ 87 := by rw [hτ]; rfl
                                         have C130 : τ 130 = σ 130 := by rw [hτ]; rfl
                                         have C20 : τ 20 = σ 20 := by rw [hτ]; rfl
                                         have C22 : τ 22 = σ 22 := by rw [hτ]; rfl
                                         have C23 : τ 23 = σ 23 := by rw [hτ]; rfl
                                         have C24 : τ 24 = σ 24 := by rw [hτ]; rfl
                                         have C26 : τ 26 = σ 26 := by rw [hτ]; rfl
                                         have C27 : τ 27 = σ 27 := by rw [hτ]; rfl
                                         have C28 : τ 28 = σ 28 := by rw [hτ]; rfl
                                         have C110 : τ 110 = σ 110 := by rw [hτ]; rfl
                                         have C111 : τ 111 = σ 111 := by rw [hτ]; rfl
                                         have C112 : τ 112 = σ 112 := by rw [hτ]; rfl
                                         have C113 : τ 113 = σ 113 := by rw [hτ]; rfl
                                         have C119 : τ 119 = σ 119 := by rw [hτ]; rfl
                                         have P1_0 : τ 1 0 = σ 1 0 := by rw [hτ]; rfl
                                         have P1_1 : τ 1 1 = σ 1 1 := by rw [hτ]; rfl
                                         have P1_2 : τ 1 2 = σ 1 2 := by rw [hτ]; rfl
                                         have P88_0 : τ 88 0 = σ 88 0 := by rw [hτ]; rfl
                                         have P88_1 : τ 88 1 = σ 88 1 := by rw [hτ]; rfl
                                         have P88_2 : τ 88 2 = σ 88 2 := by rw [hτ]; rfl
                                         have P3_0 : τ 3 0 = σ 3 0 + 1 := by rw [hτ]; rfl
                                         have P88_4 : τ 88 4 = σ 88 4 := by rw [hτ]; rfl
                                         have P10_0 : τ 10 0 = σ 10 0 + 1 := by rw [hτ]; rfl
                                         have P10_1 : τ 10 1 = σ 10 1 := by rw [hτ]; rfl
                                         have P88_11 : τ 88 11 = σ 88 11 := by rw [hτ]; rfl
                                         have P0_5 : τ 0 5 = σ 0 5 := by rw [hτ]; rfl
                                         have P88_36 : τ 88 36 = σ 88 36 := by rw [hτ]; rfl
                                         have P45_0 : τ 45 0 = σ 45 0 := by rw [hτ]; rfl
                                         have P45_3 : τ 45 3 = σ 45 3 := by rw [hτ]; rfl
                                         have P88_48 : τ 88 48 = σ 88 48 := by rw [hτ]; rfl
                                         have P88_51 : τ 88 51 = σ 88 51 := by rw [hτ]; rfl
                                         have P71_0 : τ 71 0 = σ 71 0 := by rw [hτ]; rfl
                                         have P88_65 : τ 88 65 = σ 88 65 := by rw [hτ]; rfl
                                         have P78_0 : τ 78 0 = σ 78 0 := by rw [hτ]; rfl
                                         have P78_1 : τ 78 1 = σ 78 1 := by rw [hτ]; rfl
                                         have P88_71 : τ 88 71 = σ 88 71 := by rw [hτ]; rfl
                                         have P88_72 : τ 88 72 = σ 88 72 := by rw [hτ]; rfl
                                         have P0_14 : τ 0 14 = σ 0 14 := by rw [hτ]; rfl
                                         have P88_64 : τ 88 64 = σ 88 64 := by rw [hτ]; rfl
                                         exact ⟨⟨σ 10 0, rfl, vI_ (P88_11.trans l0)⟩, ⟨(I_tr_fr (σ := σ) C2 C89 P1_0 P1_1 P1_2 P88_0 P88_1 P88_2 hI.1), (c_beg_vo (σ := σ) C4 C5 C6 C7 C8 C9 (show upd (τ 90) (τ 88 4).toInt.toNat (k / 10) = upd (σ 90) (σ 88 4).toInt.toNat (k / 10) by rw [C90, P88_4]) (show upd (τ 91) (τ 88 4).toInt.toNat (k - k / 10 * 10) = upd (σ 91) (σ 88 4).toInt.toNat (k - k / 10 * 10) by rw [C91, P88_4]) (show upd (τ 92) (τ 88 4).toInt.toNat f = upd (σ 92) (σ 88 4).toInt.toNat f by rw [C92, P88_4]) (show upd (τ 93) (τ 88 4).toInt.toNat c = upd (σ 93) (σ 88 4).toInt.toNat c by rw [C93, P88_4]) (show upd (τ 94) (τ 88 4).toInt.toNat t = upd (σ 94) (σ 88 4).toInt.toNat t by rw [C94, P88_4]) (show upd (τ 95) (τ 88 4).toInt.toNat w = upd (σ 95) (σ 88 4).toInt.toNat w by rw [C95, P88_4]) P3_0 (show τ 88 4 + 1 = σ 88 4 + 1 by rw [P88_4]) P1_1 hI.2.1 z6 zv), (c_line_li (σ := VA σ k f c t w) C9 C11 C12 C13 C14 C15 C16 C17 (show upd (τ 96) (τ 88 11).toInt.toNat 0 = upd (σ 96) (σ 88 11).toInt.toNat 0 by rw [C96, P88_11]) (show upd (τ 97) (τ 88 11).toInt.toNat (τ 88 4) = upd (σ 97) (σ 88 11).toInt.toNat (σ 88 4) by rw [C97, P88_11, P88_4]) (show upd (τ 98) (τ 88 11).toInt.toNat a = upd (σ 98) (σ 88 11).toInt.toNat a by rw [C98, P88_11]) (show upd (τ 99) (τ 88 11).toInt.toNat (τ 88 0) = upd (σ 99) (σ 88 11).toInt.toNat (σ 88 0) by rw [C99, P88_11, P88_0]) (show upd (τ 100) (τ 88 11).toInt.toNat (-1) = upd (σ 100) (σ 88 11).toInt.toNat (-1) by rw [C100, P88_11]) (show upd (τ 101) (τ 88 11).toInt.toNat w = upd (σ 101) (σ 88 11).toInt.toNat w by rw [C101, P88_11]) (show upd (τ 102) (τ 88 11).toInt.toNat (-1) = upd (σ 102) (σ 88 11).toInt.toNat (-1) by rw [C102, P88_11]) P10_0 P10_1 (show τ 88 11 + 1 = σ 88 11 + 1 by rw [P88_11]) P1_0 P1_2 P3_0 ((c_beg_li (σ := σ) rfl rfl rfl rfl rfl rfl rfl rfl rfl rfl rfl rfl rfl rfl rfl rfl rfl rfl rfl rfl rfl hI.2.2.1 v7 z6) : I_li (VA σ k f c t w)) z5 t0 v0 ⟨⟨by decide, by decide⟩, ⟨v7, (by show (σ 3 0).toInt < (σ 3 0 + 1).toInt; omega)⟩, za, ⟨t4, Int.le_refl _⟩, zv.2.2.2.2.2, Or.inl ⟨Or.inl rfl, rfl, rfl⟩, fun _ => (pk_us (f := σ 9) (k := (σ 3 0).toInt.toNat)).symm⟩), (c_line_or (σ := σ) C13 C18 P10_0 hI.2.2.2.1 l6 z5), (I_ta_fr (σ := σ) C30 C118 P0_5 P88_36 hI.2.2.2.2.1), (I_ba_fr (σ := σ) C46 C47 C48 C49 C50 C120 C121 C122 C123 C124 C52 C53 C54 C55 C56 C57 C125 P45_0 P45_3 P88_48 P88_51 hI.2.2.2.2.2.1), (I_ex_fr (σ := σ) C73 C74 C75 C76 C77 C131 C132 C133 C134 P71_0 P88_65 hI.2.2.2.2.2.2.1), (I_gu_fr (σ := σ) C79 C80 C81 C136 C137 C138 P78_0 P78_1 P88_71 P88_72 hI.2.2.2.2.2.2.2.1), (I_sh_fr (σ := σ) C83 C85 C86 C103 C104 hI.2.2.2.2.2.2.2.2.1), (I_wa_fr (σ := σ) C87 C130 P0_14 P88_64 hI.2.2.2.2.2.2.2.2.2.1), (I_la_fr (σ := σ) C20 C22 C23 C24 C26 C27 C28 C110 C111 C112 C113 hI.2.2.2.2.2.2.2.2.2.2.1), (I_he_fr (σ := σ) C119 hI.2.2.2.2.2.2.2.2.2.2.2)⟩⟩)
                · replace c84 := bI_nz c84
                  refine ⟨rfl, trivial, ?_⟩
                  refine Call_st 200 fun Y hY => ?_
                  refine ⟨rfl, ?_⟩
                  refine m_isIn ?_
                  refine ⟨fun m7 => ?_, fun m7 => ?_⟩
                  · replace m7 := bI_z m7
                    refine ⟨rfl, trivial, ?_⟩
                    first | exact ⟨⟨_, rfl, rfl⟩, hI⟩ | (exfalso; (first | omega | (simp only [Int32.reduceToInt] at c4 c15 c26 c38 c49 c61 c74 c84 m7 ⊢; omega)))
                  · replace m7 := bI_nz m7
                    refine ⟨(by decide), ?_⟩
                    refine ⟨fun m15 => ?_, fun m15 => ?_⟩
                    · refine ⟨rfl, trivial, ?_⟩
                      first | exact ⟨⟨_, rfl, rfl⟩, hI⟩ | (exfalso; (first | omega | (simp only [Int32.reduceToInt] at c4 c15 c26 c38 c49 c61 c74 c84 m7 m15 ⊢; omega)))
                    · refine ⟨rfl, rfl, ?_⟩
                      refine m_isFirm (by omega) ?_
                      refine ⟨fun m23 => ?_, fun m23 => ?_⟩
                      · replace m23 := bI_z m23
                        refine ⟨rfl, trivial, ?_⟩
                        first | exact ⟨⟨_, rfl, rfl⟩, hI⟩ | (exfalso; (first | omega | (simp only [Int32.reduceToInt] at c4 c15 c26 c38 c49 c61 c74 c84 m7 m15 m23 ⊢; omega)))
                      · replace m23 := bI_nz m23
                        refine ⟨rfl, ?_⟩
                        refine m_isIn ?_
                        refine ⟨fun m34 => ?_, fun m34 => ?_⟩
                        · replace m34 := bI_z m34
                          refine ⟨rfl, trivial, ?_⟩
                          first | exact ⟨⟨_, rfl, rfl⟩, hI⟩ | (exfalso; (first | omega | (simp only [Int32.reduceToInt] at c4 c15 c26 c38 c49 c61 c74 c84 m7 m15 m23 m34 ⊢; omega)))
                        · replace m34 := bI_nz m34
                          refine ⟨rfl, ?_⟩
                          refine m_isIn ?_
                          refine ⟨fun m46 => ?_, fun m46 => ?_⟩
                          · replace m46 := bI_z m46
                            refine ⟨rfl, trivial, ?_⟩
                            first | exact ⟨⟨_, rfl, rfl⟩, hI⟩ | (exfalso; (first | omega | (simp only [Int32.reduceToInt] at c4 c15 c26 c38 c49 c61 c74 c84 m7 m15 m23 m34 m46 ⊢; omega)))
                          · replace m46 := bI_nz m46
                            refine ⟨rfl, ?_⟩
                            refine m_isIn ?_
                            refine ⟨fun m57 => ?_, fun m57 => ?_⟩
                            · replace m57 := bI_z m57
                              refine ⟨rfl, trivial, ?_⟩
                              first | exact ⟨⟨_, rfl, rfl⟩, hI⟩ | (exfalso; (first | omega | (simp only [Int32.reduceToInt] at c4 c15 c26 c38 c49 c61 c74 c84 m7 m15 m23 m34 m46 m57 ⊢; omega)))
                            · replace m57 := bI_nz m57
                              refine ⟨rfl, rfl, ?_⟩
                              refine m_isPast ?_
                              refine ⟨fun m66 => ?_, fun m66 => ?_⟩
                              · replace m66 := bI_z m66
                                refine ⟨rfl, trivial, ?_⟩
                                first | exact ⟨⟨_, rfl, rfl⟩, hI⟩ | (exfalso; (first | omega | (simp only [Int32.reduceToInt] at c4 c15 c26 c38 c49 c61 c74 c84 m7 m15 m23 m34 m46 m57 m66 ⊢; omega)))
                              · replace m66 := bI_nz m66
                                refine ⟨fun m78 => ?_, fun m78 => ?_⟩
                                · refine ⟨rfl, trivial, ?_⟩
                                  first | exact ⟨⟨_, rfl, rfl⟩, hI⟩ | (exfalso; (first | omega | (simp only [Int32.reduceToInt] at c4 c15 c26 c38 c49 c61 c74 c84 m7 m15 m23 m34 m46 m57 m66 m78 ⊢; omega)))
                                · refine ⟨fun m87 => ?_, fun m87 => ?_⟩
                                  · refine ⟨rfl, trivial, ?_⟩
                                    first | exact ⟨⟨_, rfl, rfl⟩, hI⟩ | (exfalso; (first | omega | (simp only [Int32.reduceToInt] at c4 c15 c26 c38 c49 c61 c74 c84 m7 m15 m23 m34 m46 m57 m66 m78 m87 ⊢; omega)))
                                  · refine ⟨(by decide), ?_⟩
                                    refine ⟨_, rfl, ⟨(by (first | omega | (simp only [Int32.reduceToInt] at c4 c15 c26 c38 c49 c61 c74 c84 m7 m15 m23 m34 m46 m57 m66 m78 m87 ⊢; omega)) : 0 ≤ (σ 88 4).toInt), (by (first | omega | (simp only [Int32.reduceToInt] at c4 c15 c26 c38 c49 c61 c74 c84 m7 m15 m23 m34 m46 m57 m66 m78 m87 ⊢; omega)) : (σ 88 4).toInt < 30)⟩, ?_⟩
                                    refine ⟨(by decide), ?_⟩
                                    refine ⟨_, rfl, ⟨(by (first | omega | (simp only [Int32.reduceToInt] at c4 c15 c26 c38 c49 c61 c74 c84 m7 m15 m23 m34 m46 m57 m66 m78 m87 ⊢; omega)) : 0 ≤ (σ 88 4).toInt), (by (first | omega | (simp only [Int32.reduceToInt] at c4 c15 c26 c38 c49 c61 c74 c84 m7 m15 m23 m34 m46 m57 m66 m78 m87 ⊢; omega)) : (σ 88 4).toInt < 30)⟩, ?_⟩
                                    refine ⟨_, rfl, ⟨(by (first | omega | (simp only [Int32.reduceToInt] at c4 c15 c26 c38 c49 c61 c74 c84 m7 m15 m23 m34 m46 m57 m66 m78 m87 ⊢; omega)) : 0 ≤ (σ 88 4).toInt), (by (first | omega | (simp only [Int32.reduceToInt] at c4 c15 c26 c38 c49 c61 c74 c84 m7 m15 m23 m34 m46 m57 m66 m78 m87 ⊢; omega)) : (σ 88 4).toInt < 30)⟩, ?_⟩
                                    refine ⟨_, rfl, ⟨(by (first | omega | (simp only [Int32.reduceToInt] at c4 c15 c26 c38 c49 c61 c74 c84 m7 m15 m23 m34 m46 m57 m66 m78 m87 ⊢; omega)) : 0 ≤ (σ 88 4).toInt), (by (first | omega | (simp only [Int32.reduceToInt] at c4 c15 c26 c38 c49 c61 c74 c84 m7 m15 m23 m34 m46 m57 m66 m78 m87 ⊢; omega)) : (σ 88 4).toInt < 30)⟩, ?_⟩
                                    refine ⟨_, rfl, ⟨(by (first | omega | (simp only [Int32.reduceToInt] at c4 c15 c26 c38 c49 c61 c74 c84 m7 m15 m23 m34 m46 m57 m66 m78 m87 ⊢; omega)) : 0 ≤ (σ 88 4).toInt), (by (first | omega | (simp only [Int32.reduceToInt] at c4 c15 c26 c38 c49 c61 c74 c84 m7 m15 m23 m34 m46 m57 m66 m78 m87 ⊢; omega)) : (σ 88 4).toInt < 30)⟩, ?_⟩
                                    refine ⟨_, rfl, ⟨(by (first | omega | (simp only [Int32.reduceToInt] at c4 c15 c26 c38 c49 c61 c74 c84 m7 m15 m23 m34 m46 m57 m66 m78 m87 ⊢; omega)) : 0 ≤ (σ 88 4).toInt), (by (first | omega | (simp only [Int32.reduceToInt] at c4 c15 c26 c38 c49 c61 c74 c84 m7 m15 m23 m34 m46 m57 m66 m78 m87 ⊢; omega)) : (σ 88 4).toInt < 30)⟩, ?_⟩
                                    refine ⟨rfl, rfl, ?_⟩
                                    refine m_comes (by (first | omega | (simp only [Int32.reduceToInt] at c4 c15 c26 c38 c49 c61 c74 c84 m7 m15 m23 m34 m46 m57 m66 m78 m87 ⊢; omega)) : 0 ≤ (σ 88 11).toInt) (by (first | omega | (simp only [Int32.reduceToInt] at c4 c15 c26 c38 c49 c61 c74 c84 m7 m15 m23 m34 m46 m57 m66 m78 m87 ⊢; omega)) : (σ 88 11).toInt ≤ 100) (fun (hm174a : (σ 88 11).toInt = 100) => ?_) (fun (hm174a : (σ 88 11).toInt < 100) => ?_)
                                    · refine ⟨rfl, trivial, ?_⟩
                                      first | exact ⟨⟨_, rfl, rfl⟩, hI⟩ | (exfalso; (first | omega | (simp only [Int32.reduceToInt] at c4 c15 c26 c38 c49 c61 c74 c84 m7 m15 m23 m34 m46 m57 m66 m78 m87 hm174a ⊢; omega)))
                                    · refine ⟨rfl, trivial, ?_⟩
                                      first | exact ⟨⟨_, rfl, rfl⟩, hI⟩ | (exfalso; (first | omega | (simp only [Int32.reduceToInt] at c4 c15 c26 c38 c49 c61 c74 c84 m7 m15 m23 m34 m46 m57 m66 m78 m87 hm174a ⊢; omega)))
              · replace c74 := bI_nz c74
                refine ⟨rfl, trivial, ?_⟩
                refine Call_st 200 fun Y hY => ?_
                refine ⟨rfl, ?_⟩
                refine m_isIn ?_
                refine ⟨fun m7 => ?_, fun m7 => ?_⟩
                · replace m7 := bI_z m7
                  refine ⟨rfl, trivial, ?_⟩
                  first | exact ⟨⟨_, rfl, rfl⟩, hI⟩ | (exfalso; (first | omega | (simp only [Int32.reduceToInt] at c4 c15 c26 c38 c49 c61 c74 m7 ⊢; omega)))
                · replace m7 := bI_nz m7
                  refine ⟨(by decide), ?_⟩
                  refine ⟨fun m15 => ?_, fun m15 => ?_⟩
                  · refine ⟨rfl, trivial, ?_⟩
                    first | exact ⟨⟨_, rfl, rfl⟩, hI⟩ | (exfalso; (first | omega | (simp only [Int32.reduceToInt] at c4 c15 c26 c38 c49 c61 c74 m7 m15 ⊢; omega)))
                  · refine ⟨rfl, rfl, ?_⟩
                    refine m_isFirm (by omega) ?_
                    refine ⟨fun m23 => ?_, fun m23 => ?_⟩
                    · replace m23 := bI_z m23
                      refine ⟨rfl, trivial, ?_⟩
                      first | exact ⟨⟨_, rfl, rfl⟩, hI⟩ | (exfalso; (first | omega | (simp only [Int32.reduceToInt] at c4 c15 c26 c38 c49 c61 c74 m7 m15 m23 ⊢; omega)))
                    · replace m23 := bI_nz m23
                      refine ⟨rfl, ?_⟩
                      refine m_isIn ?_
                      refine ⟨fun m34 => ?_, fun m34 => ?_⟩
                      · replace m34 := bI_z m34
                        refine ⟨rfl, trivial, ?_⟩
                        first | exact ⟨⟨_, rfl, rfl⟩, hI⟩ | (exfalso; (first | omega | (simp only [Int32.reduceToInt] at c4 c15 c26 c38 c49 c61 c74 m7 m15 m23 m34 ⊢; omega)))
                      · replace m34 := bI_nz m34
                        refine ⟨rfl, ?_⟩
                        refine m_isIn ?_
                        refine ⟨fun m46 => ?_, fun m46 => ?_⟩
                        · replace m46 := bI_z m46
                          refine ⟨rfl, trivial, ?_⟩
                          first | exact ⟨⟨_, rfl, rfl⟩, hI⟩ | (exfalso; (first | omega | (simp only [Int32.reduceToInt] at c4 c15 c26 c38 c49 c61 c74 m7 m15 m23 m34 m46 ⊢; omega)))
                        · replace m46 := bI_nz m46
                          refine ⟨rfl, ?_⟩
                          refine m_isIn ?_
                          refine ⟨fun m57 => ?_, fun m57 => ?_⟩
                          · replace m57 := bI_z m57
                            refine ⟨rfl, trivial, ?_⟩
                            first | exact ⟨⟨_, rfl, rfl⟩, hI⟩ | (exfalso; (first | omega | (simp only [Int32.reduceToInt] at c4 c15 c26 c38 c49 c61 c74 m7 m15 m23 m34 m46 m57 ⊢; omega)))
                          · replace m57 := bI_nz m57
                            refine ⟨rfl, rfl, ?_⟩
                            refine m_isPast ?_
                            refine ⟨fun m66 => ?_, fun m66 => ?_⟩
                            · replace m66 := bI_z m66
                              refine ⟨rfl, trivial, ?_⟩
                              first | exact ⟨⟨_, rfl, rfl⟩, hI⟩ | (exfalso; (first | omega | (simp only [Int32.reduceToInt] at c4 c15 c26 c38 c49 c61 c74 m7 m15 m23 m34 m46 m57 m66 ⊢; omega)))
                            · replace m66 := bI_nz m66
                              refine ⟨fun m78 => ?_, fun m78 => ?_⟩
                              · refine ⟨rfl, trivial, ?_⟩
                                first | exact ⟨⟨_, rfl, rfl⟩, hI⟩ | (exfalso; (first | omega | (simp only [Int32.reduceToInt] at c4 c15 c26 c38 c49 c61 c74 m7 m15 m23 m34 m46 m57 m66 m78 ⊢; omega)))
                              · refine ⟨fun m87 => ?_, fun m87 => ?_⟩
                                · refine ⟨rfl, trivial, ?_⟩
                                  first | exact ⟨⟨_, rfl, rfl⟩, hI⟩ | (exfalso; (first | omega | (simp only [Int32.reduceToInt] at c4 c15 c26 c38 c49 c61 c74 m7 m15 m23 m34 m46 m57 m66 m78 m87 ⊢; omega)))
                                · refine ⟨(by decide), ?_⟩
                                  refine ⟨_, rfl, ⟨(by (first | omega | (simp only [Int32.reduceToInt] at c4 c15 c26 c38 c49 c61 c74 m7 m15 m23 m34 m46 m57 m66 m78 m87 ⊢; omega)) : 0 ≤ (σ 88 4).toInt), (by (first | omega | (simp only [Int32.reduceToInt] at c4 c15 c26 c38 c49 c61 c74 m7 m15 m23 m34 m46 m57 m66 m78 m87 ⊢; omega)) : (σ 88 4).toInt < 30)⟩, ?_⟩
                                  refine ⟨(by decide), ?_⟩
                                  refine ⟨_, rfl, ⟨(by (first | omega | (simp only [Int32.reduceToInt] at c4 c15 c26 c38 c49 c61 c74 m7 m15 m23 m34 m46 m57 m66 m78 m87 ⊢; omega)) : 0 ≤ (σ 88 4).toInt), (by (first | omega | (simp only [Int32.reduceToInt] at c4 c15 c26 c38 c49 c61 c74 m7 m15 m23 m34 m46 m57 m66 m78 m87 ⊢; omega)) : (σ 88 4).toInt < 30)⟩, ?_⟩
                                  refine ⟨_, rfl, ⟨(by (first | omega | (simp only [Int32.reduceToInt] at c4 c15 c26 c38 c49 c61 c74 m7 m15 m23 m34 m46 m57 m66 m78 m87 ⊢; omega)) : 0 ≤ (σ 88 4).toInt), (by (first | omega | (simp only [Int32.reduceToInt] at c4 c15 c26 c38 c49 c61 c74 m7 m15 m23 m34 m46 m57 m66 m78 m87 ⊢; omega)) : (σ 88 4).toInt < 30)⟩, ?_⟩
                                  refine ⟨_, rfl, ⟨(by (first | omega | (simp only [Int32.reduceToInt] at c4 c15 c26 c38 c49 c61 c74 m7 m15 m23 m34 m46 m57 m66 m78 m87 ⊢; omega)) : 0 ≤ (σ 88 4).toInt), (by (first | omega | (simp only [Int32.reduceToInt] at c4 c15 c26 c38 c49 c61 c74 m7 m15 m23 m34 m46 m57 m66 m78 m87 ⊢; omega)) : (σ 88 4).toInt < 30)⟩, ?_⟩
                                  refine ⟨_, rfl, ⟨(by (first | omega | (simp only [Int32.reduceToInt] at c4 c15 c26 c38 c49 c61 c74 m7 m15 m23 m34 m46 m57 m66 m78 m87 ⊢; omega)) : 0 ≤ (σ 88 4).toInt), (by (first | omega | (simp only [Int32.reduceToInt] at c4 c15 c26 c38 c49 c61 c74 m7 m15 m23 m34 m46 m57 m66 m78 m87 ⊢; omega)) : (σ 88 4).toInt < 30)⟩, ?_⟩
                                  refine ⟨_, rfl, ⟨(by (first | omega | (simp only [Int32.reduceToInt] at c4 c15 c26 c38 c49 c61 c74 m7 m15 m23 m34 m46 m57 m66 m78 m87 ⊢; omega)) : 0 ≤ (σ 88 4).toInt), (by (first | omega | (simp only [Int32.reduceToInt] at c4 c15 c26 c38 c49 c61 c74 m7 m15 m23 m34 m46 m57 m66 m78 m87 ⊢; omega)) : (σ 88 4).toInt < 30)⟩, ?_⟩
                                  refine ⟨rfl, rfl, ?_⟩
                                  refine m_comes (by (first | omega | (simp only [Int32.reduceToInt] at c4 c15 c26 c38 c49 c61 c74 m7 m15 m23 m34 m46 m57 m66 m78 m87 ⊢; omega)) : 0 ≤ (σ 88 11).toInt) (by (first | omega | (simp only [Int32.reduceToInt] at c4 c15 c26 c38 c49 c61 c74 m7 m15 m23 m34 m46 m57 m66 m78 m87 ⊢; omega)) : (σ 88 11).toInt ≤ 100) (fun (hm174a : (σ 88 11).toInt = 100) => ?_) (fun (hm174a : (σ 88 11).toInt < 100) => ?_)
                                  · refine ⟨rfl, trivial, ?_⟩
                                    first | exact ⟨⟨_, rfl, rfl⟩, hI⟩ | (exfalso; (first | omega | (simp only [Int32.reduceToInt] at c4 c15 c26 c38 c49 c61 c74 m7 m15 m23 m34 m46 m57 m66 m78 m87 hm174a ⊢; omega)))
                                  · refine ⟨rfl, trivial, ?_⟩
                                    first | exact ⟨⟨_, rfl, rfl⟩, hI⟩ | (exfalso; (first | omega | (simp only [Int32.reduceToInt] at c4 c15 c26 c38 c49 c61 c74 m7 m15 m23 m34 m46 m57 m66 m78 m87 hm174a ⊢; omega)))
