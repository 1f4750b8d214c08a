theorem cntG_cong {f g : Nat → Int32} : ∀ n, (∀ i, i < n → f i = g i) → cntG f n = cntG g n
  | 0, _ => rfl
  | n + 1, h => by
    unfold cntG
    rw [cntG_cong n (fun i hi => h i (by omega)), h n (by omega)]
theorem cntG_s (f : Nat → Int32) (n : Nat) : cntG f (n + 1) = cntG f n + (if (f n).toInt < 0 then 0 else 1) := rfl
theorem add1N {x : Int32} (h0 : 0 ≤ x.toInt) (h1 : x.toInt < 1000) : (x + 1).toInt.toNat = x.toInt.toNat + 1 := by
  rw [add1 (by omega)]; omega
theorem c_line_li {σ σ' : Mm} {k v v' a t t' s p w : Int32} (e9 : σ' 9 = σ 9) (e11 : σ' 11 = upd (σ 11) (σ 10 0).toInt.toNat k) (e12 : σ' 12 = upd (σ 12) (σ 10 0).toInt.toNat v) (e13 : σ' 13 = upd (σ 13) (σ 10 0).toInt.toNat a) (e14 : σ' 14 = upd (σ 14) (σ 10 0).toInt.toNat t) (e15 : σ' 15 = upd (σ 15) (σ 10 0).toInt.toNat (-1000000005)) (e16 : σ' 16 = upd (σ 16) (σ 10 0).toInt.toNat s) (e17 : σ' 17 = upd (σ 17) (σ 10 0).toInt.toNat p) (e96 : σ' 96 = upd (σ 96) (σ 88 11).toInt.toNat k) (e97 : σ' 97 = upd (σ 97) (σ 88 11).toInt.toNat v') (e98 : σ' 98 = upd (σ 98) (σ 88 11).toInt.toNat a) (e99 : σ' 99 = upd (σ 99) (σ 88 11).toInt.toNat t') (e100 : σ' 100 = upd (σ 100) (σ 88 11).toInt.toNat (-1)) (e101 : σ' 101 = upd (σ 101) (σ 88 11).toInt.toNat s) (e102 : σ' 102 = upd (σ 102) (σ 88 11).toInt.toNat w) (p10_0 : σ' 10 0 = σ 10 0 + 1) (p10_1 : σ' 10 1 = σ 10 1) (p88_11 : σ' 88 11 = σ 88 11 + 1) (p1_0 : σ' 1 0 = σ 1 0) (p1_2 : σ' 1 2 = σ 1 2) (p3_0 : σ' 3 0 = σ 3 0) (h : I_li σ) (h5 : (σ 10 0).toInt < 100) (ht : t' = t) (hvv : v' = v) (hl : (0 ≤ k.toInt ∧ k.toInt ≤ 5) ∧ (0 ≤ v.toInt ∧ v.toInt < (σ 3 0).toInt) ∧ (0 ≤ a.toInt ∧ a.toInt ≤ (σ 1 0).toInt) ∧ (0 ≤ t.toInt ∧ t.toInt ≤ (σ 1 0).toInt) ∧ (0 ≤ s.toInt ∧ s.toInt ≤ 100000) ∧
  (((k.toInt = 0 ∨ k.toInt = 2 ∨ k.toInt = 5) ∧ p = -1000000005 ∧ w = -1) ∨ ((k.toInt = 1 ∨ k.toInt = 4) ∧ w = p ∧ 0 ≤ p.toInt ∧ p.toInt < (σ 1 2).toInt) ∨ ((k.toInt = 3 ∨ k.toInt = 5) ∧ w = p ∧ 0 ≤ p.toInt ∧ p.toInt < (σ 3 0).toInt ∧ p.toInt ≠ v.toInt)) ∧
  (k.toInt = 0 → s = σ 9 v.toInt.toNat)) : I_li σ' := by
  unfold I_li
  simp only [e9, e11, e12, e13, e14, e15, e16, e17, e96, e97, e98, e99, e100, e101, e102, p10_0, p10_1, p88_11, p1_0, p1_2, p3_0]
  obtain ⟨⟨l0, l1, l2, l3, l4, l5⟩, ⟨l6, l7⟩, l8, l9⟩ := h
  obtain ⟨a1, a2, a3, a4, a6, a7, a8⟩ := hl
  have e := add1 (x := σ 10 0) (by omega)
  have eN := add1N (x := σ 10 0) l6 (by omega)
  subst ht
  subst hvv
  rw [l0, l1, l2, l3, l4, l5, eN]
  refine ⟨⟨rfl, rfl, rfl, rfl, rfl, rfl⟩, ⟨by omega, by omega⟩, ?_, fun i hi => ?_⟩
  · rw [l8, cntG_s, pk_us, if_pos (by decide), Nat.add_zero, cntG_cong (f := upd (σ 100) (σ 10 0).toInt.toNat (-1)) (g := σ 100) _ (fun i hi => pk_un (by omega))]
  · by_cases q : i = (σ 10 0).toInt.toNat
    · subst q
      simp only [pk_us]
      exact ⟨a1, a2, a3, a4, Or.inl ⟨trivial, trivial⟩, a6, a7, a8⟩
    · simp only [pk_un q]
      exact l9 i (by omega)
theorem c_line_or {σ σ' : Mm} {a : Int32} (e13 : σ' 13 = upd (σ 13) (σ 10 0).toInt.toNat a) (e18 : σ' 18 = insL (upd (σ 13) (σ 10 0).toInt.toNat a) (nI (σ 10 0).toInt.toNat) (σ 18) (σ 10 0).toInt.toNat) (p10_0 : σ' 10 0 = σ 10 0 + 1) (h : I_or σ) (h0 : 0 ≤ (σ 10 0).toInt) (h5 : (σ 10 0).toInt < 100) : I_or σ' := by
  unfold I_or
  simp only [e13, e18, p10_0]
  have h : σ 18 = ordA (σ 13) (σ 10 0).toInt.toNat := h
  rw [add1N (x := σ 10 0) h0 (by omega)]
  show _ = insL _ _ (ordA _ _) _
  rw [ordA_cong (ab := σ 13) _ (by omega) (fun i hi => pk_un (by omega)), ← h]
theorem op_spend {σ : Mm} {v p s a : Int32} (hI : Inv σ) : Call 120 k_X11_spend [.ref 0, .int v, .int p, .int s, .int a] σ (fun r τ => Call 120 k_X12_spend [.ref 88, .int v, .int p, .int s, .int a] τ (fun r' τ' => (∃ x : Int32, r = some (.int x) ∧ r' = some (.int x)) ∧ Inv τ')) := by
  obtain ⟨⟨t0, t1, t2, t3⟩, ⟨t4, t5⟩, ⟨t6, t7⟩, ⟨t8, t9⟩, t10⟩ := id (hI.1)
  obtain ⟨⟨v0, v1, v2, v3, v4, v5, v6⟩, ⟨v7, v8⟩, v9⟩ := id (hI.2.1)
  obtain ⟨⟨l0, l1, l2, l3, l4, l5⟩, ⟨l6, l7⟩, l8, l9⟩ := id (hI.2.2.1)
  obtain o0 := id (hI.2.2.2.1)
  have qtoday : (σ 88 0).toInt = (σ 1 0).toInt := by rw [t0]
  have qshops : (σ 88 2).toInt = (σ 1 2).toInt := by rw [t2]
  have qvouchers : (σ 88 4).toInt = (σ 3 0).toInt := by rw [v0]
  have qlines : (σ 88 11).toInt = (σ 10 0).toInt := by rw [l0]
  have hr : ∀ i : Nat, i < (σ 10 0).toInt.toNat → 0 ≤ (σ 18 i).toInt ∧ (σ 18 i).toInt < 100 := fun i hi => by
    rw [o0]
    have := ordA_rng (ab := σ 13) (n := (σ 10 0).toInt.toNat) (by omega) i hi
    omega
  refine Call_st 200 fun X hX => ?_
  refine ⟨rfl, rfl, ?_⟩
  refine s_hasShop ?_
  refine ⟨fun c8 => ?_, fun c8 => ?_⟩
  · replace c8 := bI_z c8
    refine ⟨rfl, trivial, ?_⟩
    refine Call_st 200 fun Y hY => ?_
    refine ⟨rfl, rfl, ?_⟩
    refine m_isVoucher (by omega) ?_
    refine ⟨fun m5 => ?_, fun m5 => ?_⟩
    · replace m5 := bI_z m5
      refine ⟨rfl, trivial, ?_⟩
      first | exact ⟨⟨_, rfl, rfl⟩, hI⟩ | (exfalso; (first | omega | (simp only [Int32.reduceToInt] at c8 m5 ⊢; omega)))
    · replace m5 := bI_nz m5
      refine ⟨rfl, rfl, ?_⟩
      refine m_isShop (by omega) ?_
      refine ⟨fun m13 => ?_, fun m13 => ?_⟩
      · replace m13 := bI_z m13
        refine ⟨rfl, trivial, ?_⟩
        first | exact ⟨⟨_, rfl, rfl⟩, hI⟩ | (exfalso; (first | omega | (simp only [Int32.reduceToInt] at c8 m5 m13 ⊢; omega)))
      · replace m13 := bI_nz m13
        refine ⟨rfl, ?_⟩
        refine m_isSum ?_
        refine ⟨fun m20 => ?_, fun m20 => ?_⟩
        · replace m20 := bI_z m20
          refine ⟨rfl, trivial, ?_⟩
          first | exact ⟨⟨_, rfl, rfl⟩, hI⟩ | (exfalso; (first | omega | (simp only [Int32.reduceToInt] at c8 m5 m13 m20 ⊢; omega)))
        · replace m20 := bI_nz m20
          refine ⟨rfl, rfl, ?_⟩
          refine m_isPast ?_
          refine ⟨fun m29 => ?_, fun m29 => ?_⟩
          · replace m29 := bI_z m29
            refine ⟨rfl, trivial, ?_⟩
            first | exact ⟨⟨_, rfl, rfl⟩, hI⟩ | (exfalso; (first | omega | (simp only [Int32.reduceToInt] at c8 m5 m13 m20 m29 ⊢; omega)))
          · replace m29 := bI_nz m29
            refine ⟨rfl, rfl, ?_⟩
            refine m_comes (by omega) (by omega) (fun hm39a => ?_) (fun hm39a => ?_)
            · refine ⟨rfl, trivial, ?_⟩
              first | exact ⟨⟨_, rfl, rfl⟩, hI⟩ | (exfalso; (first | omega | (simp only [Int32.reduceToInt] at c8 m5 m13 m20 m29 hm39a ⊢; omega)))
            · refine ⟨rfl, trivial, ?_⟩
              first | exact ⟨⟨_, rfl, rfl⟩, hI⟩ | (exfalso; (first | omega | (simp only [Int32.reduceToInt] at c8 m5 m13 m20 m29 hm39a ⊢; omega)))
  · replace c8 := bI_nz c8
    refine ⟨rfl, rfl, ?_⟩
    refine s_tellSum (by omega) hr (fun h21a => ?_) (fun h21a h21b => ?_) (fun h21a h21b => ?_)
    · refine ⟨rfl, trivial, ?_⟩
      refine Call_st 200 fun Y hY => ?_
      refine ⟨rfl, rfl, ?_⟩
      refine m_isVoucher (by omega) ?_
      refine ⟨fun m5 => ?_, fun m5 => ?_⟩
      · replace m5 := bI_z m5
        refine ⟨rfl, trivial, ?_⟩
        first | exact ⟨⟨_, rfl, rfl⟩, hI⟩ | (exfalso; (first | omega | (simp only [Int32.reduceToInt] at c8 h21a m5 ⊢; omega)))
      · replace m5 := bI_nz m5
        refine ⟨rfl, rfl, ?_⟩
        refine m_isShop (by omega) ?_
        refine ⟨fun m13 => ?_, fun m13 => ?_⟩
        · replace m13 := bI_z m13
          refine ⟨rfl, trivial, ?_⟩
          first | exact ⟨⟨_, rfl, rfl⟩, hI⟩ | (exfalso; (first | omega | (simp only [Int32.reduceToInt] at c8 h21a m5 m13 ⊢; omega)))
        · replace m13 := bI_nz m13
          refine ⟨rfl, ?_⟩
          refine m_isSum ?_
          refine ⟨fun m20 => ?_, fun m20 => ?_⟩
          · replace m20 := bI_z m20
            refine ⟨rfl, trivial, ?_⟩
            first | exact ⟨⟨_, rfl, rfl⟩, hI⟩ | (exfalso; (first | omega | (simp only [Int32.reduceToInt] at c8 h21a m5 m13 m20 ⊢; omega)))
          · replace m20 := bI_nz m20
            refine ⟨rfl, rfl, ?_⟩
            refine m_isPast ?_
            refine ⟨fun m29 => ?_, fun m29 => ?_⟩
            · replace m29 := bI_z m29
              refine ⟨rfl, trivial, ?_⟩
              first | exact ⟨⟨_, rfl, rfl⟩, hI⟩ | (exfalso; (first | omega | (simp only [Int32.reduceToInt] at c8 h21a m5 m13 m20 m29 ⊢; omega)))
            · replace m29 := bI_nz m29
              refine ⟨rfl, rfl, ?_⟩
              refine m_comes (by omega) (by omega) (fun hm39a => ?_) (fun hm39a => ?_)
              · refine ⟨rfl, trivial, ?_⟩
                first | exact ⟨⟨_, rfl, rfl⟩, hI⟩ | (exfalso; (first | omega | (simp only [Int32.reduceToInt] at c8 h21a m5 m13 m20 m29 hm39a ⊢; omega)))
              · refine ⟨rfl, trivial, ?_⟩
                first | exact ⟨⟨_, rfl, rfl⟩, hI⟩ | (exfalso; (first | omega | (simp only [Int32.reduceToInt] at c8 h21a m5 m13 m20 m29 hm39a ⊢; omega)))
    · refine ⟨rfl, trivial, ?_⟩
      refine Call_st 200 fun Y hY => ?_
      refine ⟨rfl, rfl, ?_⟩
      refine m_isVoucher (by omega) ?_
      refine ⟨fun m5 => ?_, fun m5 => ?_⟩
      · replace m5 := bI_z m5
        refine ⟨rfl, trivial, ?_⟩
        first | exact ⟨⟨_, rfl, rfl⟩, hI⟩ | (exfalso; (first | omega | (simp only [Int32.reduceToInt] at c8 h21a h21b m5 ⊢; omega)))
      · replace m5 := bI_nz m5
        refine ⟨rfl, rfl, ?_⟩
        refine m_isShop (by omega) ?_
        refine ⟨fun m13 => ?_, fun m13 => ?_⟩
        · replace m13 := bI_z m13
          refine ⟨rfl, trivial, ?_⟩
          first | exact ⟨⟨_, rfl, rfl⟩, hI⟩ | (exfalso; (first | omega | (simp only [Int32.reduceToInt] at c8 h21a h21b m5 m13 ⊢; omega)))
        · replace m13 := bI_nz m13
          refine ⟨rfl, ?_⟩
          refine m_isSum ?_
          refine ⟨fun m20 => ?_, fun m20 => ?_⟩
          · replace m20 := bI_z m20
            refine ⟨rfl, trivial, ?_⟩
            first | exact ⟨⟨_, rfl, rfl⟩, hI⟩ | (exfalso; (first | omega | (simp only [Int32.reduceToInt] at c8 h21a h21b m5 m13 m20 ⊢; omega)))
          · replace m20 := bI_nz m20
            refine ⟨rfl, rfl, ?_⟩
            refine m_isPast ?_
            refine ⟨fun m29 => ?_, fun m29 => ?_⟩
            · replace m29 := bI_z m29
              refine ⟨rfl, trivial, ?_⟩
              first | exact ⟨⟨_, rfl, rfl⟩, hI⟩ | (exfalso; (first | omega | (simp only [Int32.reduceToInt] at c8 h21a h21b m5 m13 m20 m29 ⊢; omega)))
            · replace m29 := bI_nz m29
              refine ⟨rfl, rfl, ?_⟩
              refine m_comes (by omega) (by omega) (fun hm39a => ?_) (fun hm39a => ?_)
              · refine ⟨rfl, trivial, ?_⟩
                first | exact ⟨⟨_, rfl, rfl⟩, hI⟩ | (exfalso; (first | omega | (simp only [Int32.reduceToInt] at c8 h21a h21b m5 m13 m20 m29 hm39a ⊢; omega)))
              · refine ⟨rfl, trivial, ?_⟩
                first | exact ⟨⟨_, rfl, rfl⟩, hI⟩ | (exfalso; (first | omega | (simp only [Int32.reduceToInt] at c8 h21a h21b m5 m13 m20 m29 hm39a ⊢; omega)))
    · refine ⟨rfl, trivial, ?_⟩
      refine nxt fun τ hτ => ?_
      have e88 : τ 88 = σ 88 := by rw [hτ]; rfl
      have qτtoday : (τ 88 0).toInt = (σ 1 0).toInt := by rw [e88, t0]
      have qτshops : (τ 88 2).toInt = (σ 1 2).toInt := by rw [e88, t2]
      have qτvouchers : (τ 88 4).toInt = (σ 3 0).toInt := by rw [e88, v0]
      have qτlines : (τ 88 11).toInt = (σ 10 0).toInt := by rw [e88, l0]
      refine Call_st 200 fun Y hY => ?_
      refine ⟨rfl, rfl, ?_⟩
      refine m_isVoucher (by omega) ?_
      refine ⟨fun m5 => ?_, fun m5 => ?_⟩
      · replace m5 := bI_z m5
        refine ⟨rfl, trivial, ?_⟩
        first
        | (exfalso; (first | omega | (simp only [Int32.reduceToInt] at c8 h21a h21b m5 ⊢; omega)); done)
        | (have z5 : (σ 10 0).toInt < 100 := by (first | omega | (simp only [Int32.reduceToInt] at c8 h21a h21b m5 ⊢; omega))
           have zl : (0 ≤ (1 : Int32).toInt ∧ (1 : Int32).toInt ≤ 5) ∧ (0 ≤ v.toInt ∧ v.toInt < (σ 3 0).toInt) ∧ (0 ≤ a.toInt ∧ a.toInt ≤ (σ 1 0).toInt) ∧ (0 ≤ (s : Int32).toInt ∧ (s : Int32).toInt ≤ 100000) := ⟨⟨by decide, by decide⟩, by (first | omega | (simp only [Int32.reduceToInt] at c8 h21a h21b m5 ⊢; omega)), by (first | omega | (simp only [Int32.reduceToInt] at c8 h21a h21b m5 ⊢; omega)), by (first | omega | (simp only [Int32.reduceToInt] at c8 h21a h21b m5 ⊢; omega))⟩
           have zp : 0 ≤ p.toInt ∧ p.toInt < (σ 1 2).toInt := by (first | omega | (simp only [Int32.reduceToInt] at c8 h21a h21b m5 ⊢; omega))
           subst hτ
           exact ⟨⟨σ 10 0, rfl, vI_ l0⟩, ⟨(I_tr_fr (σ := σ) rfl rfl rfl rfl rfl rfl rfl rfl hI.1), (I_vo_fr (σ := σ) rfl rfl rfl rfl rfl rfl rfl rfl rfl rfl rfl rfl rfl rfl rfl hI.2.1), (c_line_li (σ := σ) rfl rfl rfl rfl rfl rfl rfl rfl rfl rfl rfl rfl rfl rfl rfl rfl rfl rfl rfl rfl rfl hI.2.2.1 z5 t0 rfl ⟨zl.1, zl.2.1, zl.2.2.1, ⟨t4, Int.le_refl _⟩, zl.2.2.2, Or.inr (Or.inl ⟨Or.inl rfl, rfl, zp.1, zp.2⟩), fun z => absurd z (by decide)⟩), (c_line_or (σ := σ) rfl rfl rfl hI.2.2.2.1 l6 z5), (I_ta_fr (σ := σ) rfl rfl rfl rfl hI.2.2.2.2.1), (I_ba_fr (σ := σ) rfl rfl rfl rfl rfl rfl rfl rfl rfl rfl rfl rfl rfl rfl rfl rfl rfl rfl rfl rfl rfl hI.2.2.2.2.2.1), (I_ex_fr (σ := σ) rfl rfl rfl rfl rfl rfl rfl rfl rfl rfl rfl hI.2.2.2.2.2.2.1), (I_gu_fr (σ := σ) rfl rfl rfl rfl rfl rfl rfl rfl rfl rfl hI.2.2.2.2.2.2.2.1), (I_sh_fr (σ := σ) rfl rfl rfl rfl rfl hI.2.2.2.2.2.2.2.2.1), (I_wa_fr (σ := σ) rfl rfl rfl rfl hI.2.2.2.2.2.2.2.2.2.1), (I_la_fr (σ := σ) rfl rfl rfl rfl rfl rfl rfl rfl rfl rfl rfl hI.2.2.2.2.2.2.2.2.2.2.1), (I_he_fr (σ := σ) rfl hI.2.2.2.2.2.2.2.2.2.2.2)⟩⟩)
      · replace m5 := bI_nz m5
        refine ⟨rfl, rfl, ?_⟩
        refine m_isShop (by omega) ?_
        refine ⟨fun m13 => ?_, fun m13 => ?_⟩
        · replace m13 := bI_z m13
          refine ⟨rfl, trivial, ?_⟩
          first
          | (exfalso; (first | omega | (simp only [Int32.reduceToInt] at c8 h21a h21b m5 m13 ⊢; omega)); done)
          | (have z5 : (σ 10 0).toInt < 100 := by (first | omega | (simp only [Int32.reduceToInt] at c8 h21a h21b m5 m13 ⊢; omega))
             have zl : (0 ≤ (1 : Int32).toInt ∧ (1 : Int32).toInt ≤ 5) ∧ (0 ≤ v.toInt ∧ v.toInt < (σ 3 0).toInt) ∧ (0 ≤ a.toInt ∧ a.toInt ≤ (σ 1 0).toInt) ∧ (0 ≤ (s : Int32).toInt ∧ (s : Int32).toInt ≤ 100000) := ⟨⟨by decide, by decide⟩, by (first | omega | (simp only [Int32.reduceToInt] at c8 h21a h21b m5 m13 ⊢; omega)), by (first | omega | (simp only [Int32.reduceToInt] at c8 h21a h21b m5 m13 ⊢; omega)), by (first | omega | (simp only [Int32.reduceToInt] at c8 h21a h21b m5 m13 ⊢; omega))⟩
             have zp : 0 ≤ p.toInt ∧ p.toInt < (σ 1 2).toInt := by (first | omega | (simp only [Int32.reduceToInt] at c8 h21a h21b m5 m13 ⊢; omega))
             subst hτ
             exact ⟨⟨σ 10 0, rfl, vI_ l0⟩, ⟨(I_tr_fr (σ := σ) rfl rfl rfl rfl rfl rfl rfl rfl hI.1), (I_vo_fr (σ := σ) rfl rfl rfl rfl rfl rfl rfl rfl rfl rfl rfl rfl rfl rfl rfl hI.2.1), (c_line_li (σ := σ) rfl rfl rfl rfl rfl rfl rfl rfl rfl rfl rfl rfl rfl rfl rfl rfl rfl rfl rfl rfl rfl hI.2.2.1 z5 t0 rfl ⟨zl.1, zl.2.1, zl.2.2.1, ⟨t4, Int.le_refl _⟩, zl.2.2.2, Or.inr (Or.inl ⟨Or.inl rfl, rfl, zp.1, zp.2⟩), fun z => absurd z (by decide)⟩), (c_line_or (σ := σ) rfl rfl rfl hI.2.2.2.1 l6 z5), (I_ta_fr (σ := σ) rfl rfl rfl rfl hI.2.2.2.2.1), (I_ba_fr (σ := σ) rfl rfl rfl rfl rfl rfl rfl rfl rfl rfl rfl rfl rfl rfl rfl rfl rfl rfl rfl rfl rfl hI.2.2.2.2.2.1), (I_ex_fr (σ := σ) rfl rfl rfl rfl rfl rfl rfl rfl rfl rfl rfl hI.2.2.2.2.2.2.1), (I_gu_fr (σ := σ) rfl rfl rfl rfl rfl rfl rfl rfl rfl rfl hI.2.2.2.2.2.2.2.1), (I_sh_fr (σ := σ) rfl rfl rfl rfl rfl hI.2.2.2.2.2.2.2.2.1), (I_wa_fr (σ := σ) rfl rfl rfl rfl hI.2.2.2.2.2.2.2.2.2.1), (I_la_fr (σ := σ) rfl rfl rfl rfl rfl rfl rfl rfl rfl rfl rfl hI.2.2.2.2.2.2.2.2.2.2.1), (I_he_fr (σ := σ) rfl hI.2.2.2.2.2.2.2.2.2.2.2)⟩⟩)
        · replace m13 := bI_nz m13
          refine ⟨rfl, ?_⟩
          refine m_isSum ?_
          refine ⟨fun m20 => ?_, fun m20 => ?_⟩
          · replace m20 := bI_z m20
            refine ⟨rfl, trivial, ?_⟩
            first
            | (exfalso; (first | omega | (simp only [Int32.reduceToInt] at c8 h21a h21b m5 m13 m20 ⊢; omega)); done)
            | (have z5 : (σ 10 0).toInt < 100 := by (first | omega | (simp only [Int32.reduceToInt] at c8 h21a h21b m5 m13 m20 ⊢; omega))
               have zl : (0 ≤ (1 : Int32).toInt ∧ (1 : Int32).toInt ≤ 5) ∧ (0 ≤ v.toInt ∧ v.toInt < (σ 3 0).toInt) ∧ (0 ≤ a.toInt ∧ a.toInt ≤ (σ 1 0).toInt) ∧ (0 ≤ (s : Int32).toInt ∧ (s : Int32).toInt ≤ 100000) := ⟨⟨by decide, by decide⟩, by (first | omega | (simp only [Int32.reduceToInt] at c8 h21a h21b m5 m13 m20 ⊢; omega)), by (first | omega | (simp only [Int32.reduceToInt] at c8 h21a h21b m5 m13 m20 ⊢; omega)), by (first | omega | (simp only [Int32.reduceToInt] at c8 h21a h21b m5 m13 m20 ⊢; omega))⟩
               have zp : 0 ≤ p.toInt ∧ p.toInt < (σ 1 2).toInt := by (first | omega | (simp only [Int32.reduceToInt] at c8 h21a h21b m5 m13 m20 ⊢; omega))
               subst hτ
               exact ⟨⟨σ 10 0, rfl, vI_ l0⟩, ⟨(I_tr_fr (σ := σ) rfl rfl rfl rfl rfl rfl rfl rfl hI.1), (I_vo_fr (σ := σ) rfl rfl rfl rfl rfl rfl rfl rfl rfl rfl rfl rfl rfl rfl rfl hI.2.1), (c_line_li (σ := σ) rfl rfl rfl rfl rfl rfl rfl rfl rfl rfl rfl rfl rfl rfl rfl rfl rfl rfl rfl rfl rfl hI.2.2.1 z5 t0 rfl ⟨zl.1, zl.2.1, zl.2.2.1, ⟨t4, Int.le_refl _⟩, zl.2.2.2, Or.inr (Or.inl ⟨Or.inl rfl, rfl, zp.1, zp.2⟩), fun z => absurd z (by decide)⟩), (c_line_or (σ := σ) rfl rfl rfl hI.2.2.2.1 l6 z5), (I_ta_fr (σ := σ) rfl rfl rfl rfl hI.2.2.2.2.1), (I_ba_fr (σ := σ) rfl rfl rfl rfl rfl rfl rfl rfl rfl rfl rfl rfl rfl rfl rfl rfl rfl rfl rfl rfl rfl hI.2.2.2.2.2.1), (I_ex_fr (σ := σ) rfl rfl rfl rfl rfl rfl rfl rfl rfl rfl rfl hI.2.2.2.2.2.2.1), (I_gu_fr (σ := σ) rfl rfl rfl rfl rfl rfl rfl rfl rfl rfl hI.2.2.2.2.2.2.2.1), (I_sh_fr (σ := σ) rfl rfl rfl rfl rfl hI.2.2.2.2.2.2.2.2.1), (I_wa_fr (σ := σ) rfl rfl rfl rfl hI.2.2.2.2.2.2.2.2.2.1), (I_la_fr (σ := σ) rfl rfl rfl rfl rfl rfl rfl rfl rfl rfl rfl hI.2.2.2.2.2.2.2.2.2.2.1), (I_he_fr (σ := σ) rfl hI.2.2.2.2.2.2.2.2.2.2.2)⟩⟩)
          · replace m20 := bI_nz m20
            refine ⟨rfl, rfl, ?_⟩
            refine m_isPast ?_
            refine ⟨fun m29 => ?_, fun m29 => ?_⟩
            · replace m29 := bI_z m29
              refine ⟨rfl, trivial, ?_⟩
              first
              | (exfalso; (first | omega | (simp only [Int32.reduceToInt] at c8 h21a h21b m5 m13 m20 m29 ⊢; omega)); done)
              | (have z5 : (σ 10 0).toInt < 100 := by (first | omega | (simp only [Int32.reduceToInt] at c8 h21a h21b m5 m13 m20 m29 ⊢; omega))
                 have zl : (0 ≤ (1 : Int32).toInt ∧ (1 : Int32).toInt ≤ 5) ∧ (0 ≤ v.toInt ∧ v.toInt < (σ 3 0).toInt) ∧ (0 ≤ a.toInt ∧ a.toInt ≤ (σ 1 0).toInt) ∧ (0 ≤ (s : Int32).toInt ∧ (s : Int32).toInt ≤ 100000) := ⟨⟨by decide, by decide⟩, by (first | omega | (simp only [Int32.reduceToInt] at c8 h21a h21b m5 m13 m20 m29 ⊢; omega)), by (first | omega | (simp only [Int32.reduceToInt] at c8 h21a h21b m5 m13 m20 m29 ⊢; omega)), by (first | omega | (simp only [Int32.reduceToInt] at c8 h21a h21b m5 m13 m20 m29 ⊢; omega))⟩
                 have zp : 0 ≤ p.toInt ∧ p.toInt < (σ 1 2).toInt := by (first | omega | (simp only [Int32.reduceToInt] at c8 h21a h21b m5 m13 m20 m29 ⊢; omega))
                 subst hτ
                 exact ⟨⟨σ 10 0, rfl, vI_ l0⟩, ⟨(I_tr_fr (σ := σ) rfl rfl rfl rfl rfl rfl rfl rfl hI.1), (I_vo_fr (σ := σ) rfl rfl rfl rfl rfl rfl rfl rfl rfl rfl rfl rfl rfl rfl rfl hI.2.1), (c_line_li (σ := σ) rfl rfl rfl rfl rfl rfl rfl rfl rfl rfl rfl rfl rfl rfl rfl rfl rfl rfl rfl rfl rfl hI.2.2.1 z5 t0 rfl ⟨zl.1, zl.2.1, zl.2.2.1, ⟨t4, Int.le_refl _⟩, zl.2.2.2, Or.inr (Or.inl ⟨Or.inl rfl, rfl, zp.1, zp.2⟩), fun z => absurd z (by decide)⟩), (c_line_or (σ := σ) rfl rfl rfl hI.2.2.2.1 l6 z5), (I_ta_fr (σ := σ) rfl rfl rfl rfl hI.2.2.2.2.1), (I_ba_fr (σ := σ) rfl rfl rfl rfl rfl rfl rfl rfl rfl rfl rfl rfl rfl rfl rfl rfl rfl rfl rfl rfl rfl hI.2.2.2.2.2.1), (I_ex_fr (σ := σ) rfl rfl rfl rfl rfl rfl rfl rfl rfl rfl rfl hI.2.2.2.2.2.2.1), (I_gu_fr (σ := σ) rfl rfl rfl rfl rfl rfl rfl rfl rfl rfl hI.2.2.2.2.2.2.2.1), (I_sh_fr (σ := σ) rfl rfl rfl rfl rfl hI.2.2.2.2.2.2.2.2.1), (I_wa_fr (σ := σ) rfl rfl rfl rfl hI.2.2.2.2.2.2.2.2.2.1), (I_la_fr (σ := σ) rfl rfl rfl rfl rfl rfl rfl rfl rfl rfl rfl hI.2.2.2.2.2.2.2.2.2.2.1), (I_he_fr (σ := σ) rfl hI.2.2.2.2.2.2.2.2.2.2.2)⟩⟩)
            · replace m29 := bI_nz m29
              refine ⟨rfl, rfl, ?_⟩
              refine m_comes (by omega) (by omega) (fun hm39a => ?_) (fun hm39a => ?_)
              · refine ⟨rfl, trivial, ?_⟩
                first
                | (exfalso; (first | omega | (simp only [Int32.reduceToInt] at c8 h21a h21b m5 m13 m20 m29 hm39a ⊢; omega)); done)
                | (have z5 : (σ 10 0).toInt < 100 := by (first | omega | (simp only [Int32.reduceToInt] at c8 h21a h21b m5 m13 m20 m29 hm39a ⊢; omega))
                   have zl : (0 ≤ (1 : Int32).toInt ∧ (1 : Int32).toInt ≤ 5) ∧ (0 ≤ v.toInt ∧ v.toInt < (σ 3 0).toInt) ∧ (0 ≤ a.toInt ∧ a.toInt ≤ (σ 1 0).toInt) ∧ (0 ≤ (s : Int32).toInt ∧ (s : Int32).toInt ≤ 100000) := ⟨⟨by decide, by decide⟩, by (first | omega | (simp only [Int32.reduceToInt] at c8 h21a h21b m5 m13 m20 m29 hm39a ⊢; omega)), by (first | omega | (simp only [Int32.reduceToInt] at c8 h21a h21b m5 m13 m20 m29 hm39a ⊢; omega)), by (first | omega | (simp only [Int32.reduceToInt] at c8 h21a h21b m5 m13 m20 m29 hm39a ⊢; omega))⟩
                   have zp : 0 ≤ p.toInt ∧ p.toInt < (σ 1 2).toInt := by (first | omega | (simp only [Int32.reduceToInt] at c8 h21a h21b m5 m13 m20 m29 hm39a ⊢; omega))
                   subst hτ
                   exact ⟨⟨σ 10 0, rfl, vI_ l0⟩, ⟨(I_tr_fr (σ := σ) rfl rfl rfl rfl rfl rfl rfl rfl hI.1), (I_vo_fr (σ := σ) rfl rfl rfl rfl rfl rfl rfl rfl rfl rfl rfl rfl rfl rfl rfl hI.2.1), (c_line_li (σ := σ) rfl rfl rfl rfl rfl rfl rfl rfl rfl rfl rfl rfl rfl rfl rfl rfl rfl rfl rfl rfl rfl hI.2.2.1 z5 t0 rfl ⟨zl.1, zl.2.1, zl.2.2.1, ⟨t4, Int.le_refl _⟩, zl.2.2.2, Or.inr (Or.inl ⟨Or.inl rfl, rfl, zp.1, zp.2⟩), fun z => absurd z (by decide)⟩), (c_line_or (σ := σ) rfl rfl rfl hI.2.2.2.1 l6 z5), (I_ta_fr (σ := σ) rfl rfl rfl rfl hI.2.2.2.2.1), (I_ba_fr (σ := σ) rfl rfl rfl rfl rfl rfl rfl rfl rfl rfl rfl rfl rfl rfl rfl rfl rfl rfl rfl rfl rfl hI.2.2.2.2.2.1), (I_ex_fr (σ := σ) rfl rfl rfl rfl rfl rfl rfl rfl rfl rfl rfl hI.2.2.2.2.2.2.1), (I_gu_fr (σ := σ) rfl rfl rfl rfl rfl rfl rfl rfl rfl rfl hI.2.2.2.2.2.2.2.1), (I_sh_fr (σ := σ) rfl rfl rfl rfl rfl hI.2.2.2.2.2.2.2.2.1), (I_wa_fr (σ := σ) rfl rfl rfl rfl hI.2.2.2.2.2.2.2.2.2.1), (I_la_fr (σ := σ) rfl rfl rfl rfl rfl rfl rfl rfl rfl rfl rfl hI.2.2.2.2.2.2.2.2.2.2.1), (I_he_fr (σ := σ) rfl hI.2.2.2.2.2.2.2.2.2.2.2)⟩⟩)
              · refine ⟨rfl, trivial, ?_⟩
                first
                | (exfalso; (first | omega | (simp only [Int32.reduceToInt] at c8 h21a h21b m5 m13 m20 m29 hm39a ⊢; omega)); done)
                | (have z5 : (σ 10 0).toInt < 100 := by (first | omega | (simp only [Int32.reduceToInt] at c8 h21a h21b m5 m13 m20 m29 hm39a ⊢; omega))
                   have zl : (0 ≤ (1 : Int32).toInt ∧ (1 : Int32).toInt ≤ 5) ∧ (0 ≤ v.toInt ∧ v.toInt < (σ 3 0).toInt) ∧ (0 ≤ a.toInt ∧ a.toInt ≤ (σ 1 0).toInt) ∧ (0 ≤ (s : Int32).toInt ∧ (s : Int32).toInt ≤ 100000) := ⟨⟨by decide, by decide⟩, by (first | omega | (simp only [Int32.reduceToInt] at c8 h21a h21b m5 m13 m20 m29 hm39a ⊢; omega)), by (first | omega | (simp only [Int32.reduceToInt] at c8 h21a h21b m5 m13 m20 m29 hm39a ⊢; omega)), by (first | omega | (simp only [Int32.reduceToInt] at c8 h21a h21b m5 m13 m20 m29 hm39a ⊢; omega))⟩
                   have zp : 0 ≤ p.toInt ∧ p.toInt < (σ 1 2).toInt := by (first | omega | (simp only [Int32.reduceToInt] at c8 h21a h21b m5 m13 m20 m29 hm39a ⊢; omega))
                   subst hτ
                   exact ⟨⟨σ 10 0, rfl, vI_ l0⟩, ⟨(I_tr_fr (σ := σ) rfl rfl rfl rfl rfl rfl rfl rfl hI.1), (I_vo_fr (σ := σ) rfl rfl rfl rfl rfl rfl rfl rfl rfl rfl rfl rfl rfl rfl rfl hI.2.1), (c_line_li (σ := σ) rfl rfl rfl rfl rfl rfl rfl rfl rfl rfl rfl rfl rfl rfl rfl rfl rfl rfl rfl rfl rfl hI.2.2.1 z5 t0 rfl ⟨zl.1, zl.2.1, zl.2.2.1, ⟨t4, Int.le_refl _⟩, zl.2.2.2, Or.inr (Or.inl ⟨Or.inl rfl, rfl, zp.1, zp.2⟩), fun z => absurd z (by decide)⟩), (c_line_or (σ := σ) rfl rfl rfl hI.2.2.2.1 l6 z5), (I_ta_fr (σ := σ) rfl rfl rfl rfl hI.2.2.2.2.1), (I_ba_fr (σ := σ) rfl rfl rfl rfl rfl rfl rfl rfl rfl rfl rfl rfl rfl rfl rfl rfl rfl rfl rfl rfl rfl hI.2.2.2.2.2.1), (I_ex_fr (σ := σ) rfl rfl rfl rfl rfl rfl rfl rfl rfl rfl rfl hI.2.2.2.2.2.2.1), (I_gu_fr (σ := σ) rfl rfl rfl rfl rfl rfl rfl rfl rfl rfl hI.2.2.2.2.2.2.2.1), (I_sh_fr (σ := σ) rfl rfl rfl rfl rfl hI.2.2.2.2.2.2.2.2.1), (I_wa_fr (σ := σ) rfl rfl rfl rfl hI.2.2.2.2.2.2.2.2.2.1), (I_la_fr (σ := σ) rfl rfl rfl rfl rfl rfl rfl rfl rfl rfl rfl hI.2.2.2.2.2.2.2.2.2.2.1), (I_he_fr (σ := σ) rfl hI.2.2.2.2.2.2.2.2.2.2.2)⟩⟩)
theorem op_back {σ : Mm} {v p s a : Int32} (hI : Inv σ) : Call 120 k_X11_back [.ref 0, .int v, .int p, .int s, .int a] σ (fun r τ => Call 120 k_X12_back [.ref 88, .int v, .int p, .int s, .int a] τ (fun r' τ' => (∃ x : Int32, r = some (.int x) ∧ r' = some (.int x)) ∧ Inv τ')) := by
  obtain ⟨⟨t0, t1, t2, t3⟩, ⟨t4, t5⟩, ⟨t6, t7⟩, ⟨t8, t9⟩, t10⟩ := id (hI.1)
  obtain ⟨⟨v0, v1, v2, v3, v4, v5, v6⟩, ⟨v7, v8⟩, v9⟩ := id (hI.2.1)
  obtain ⟨⟨l0, l1, l2, l3, l4, l5⟩, ⟨l6, l7⟩, l8, l9⟩ := id (hI.2.2.1)
  obtain o0 := id (hI.2.2.2.1)
  have qtoday : (σ 88 0).toInt = (σ 1 0).toInt := by rw [t0]
  have qshops : (σ 88 2).toInt = (σ 1 2).toInt := by rw [t2]
  have qvouchers : (σ 88 4).toInt = (σ 3 0).toInt := by rw [v0]
  have qlines : (σ 88 11).toInt = (σ 10 0).toInt := by rw [l0]
  have hr : ∀ i : Nat, i < (σ 10 0).toInt.toNat → 0 ≤ (σ 18 i).toInt ∧ (σ 18 i).toInt < 100 := fun i hi => by
    rw [o0]
    have := ordA_rng (ab := σ 13) (n := (σ 10 0).toInt.toNat) (by omega) i hi
    omega
  refine Call_st 200 fun X hX => ?_
  refine ⟨rfl, rfl, ?_⟩
  refine s_hasShop ?_
  refine ⟨fun c8 => ?_, fun c8 => ?_⟩
  · replace c8 := bI_z c8
    refine ⟨rfl, trivial, ?_⟩
    refine Call_st 200 fun Y hY => ?_
    refine ⟨rfl, rfl, ?_⟩
    refine m_isVoucher (by omega) ?_
    refine ⟨fun m5 => ?_, fun m5 => ?_⟩
    · replace m5 := bI_z m5
      refine ⟨rfl, trivial, ?_⟩
      first | exact ⟨⟨_, rfl, rfl⟩, hI⟩ | (exfalso; (first | omega | (simp only [Int32.reduceToInt] at c8 m5 ⊢; omega)))
    · replace m5 := bI_nz m5
      refine ⟨rfl, rfl, ?_⟩
      refine m_isShop (by omega) ?_
      refine ⟨fun m13 => ?_, fun m13 => ?_⟩
      · replace m13 := bI_z m13
        refine ⟨rfl, trivial, ?_⟩
        first | exact ⟨⟨_, rfl, rfl⟩, hI⟩ | (exfalso; (first | omega | (simp only [Int32.reduceToInt] at c8 m5 m13 ⊢; omega)))
      · replace m13 := bI_nz m13
        refine ⟨rfl, ?_⟩
        refine m_isSum ?_
        refine ⟨fun m20 => ?_, fun m20 => ?_⟩
        · replace m20 := bI_z m20
          refine ⟨rfl, trivial, ?_⟩
          first | exact ⟨⟨_, rfl, rfl⟩, hI⟩ | (exfalso; (first | omega | (simp only [Int32.reduceToInt] at c8 m5 m13 m20 ⊢; omega)))
        · replace m20 := bI_nz m20
          refine ⟨rfl, rfl, ?_⟩
          refine m_isPast ?_
          refine ⟨fun m29 => ?_, fun m29 => ?_⟩
          · replace m29 := bI_z m29
            refine ⟨rfl, trivial, ?_⟩
            first | exact ⟨⟨_, rfl, rfl⟩, hI⟩ | (exfalso; (first | omega | (simp only [Int32.reduceToInt] at c8 m5 m13 m20 m29 ⊢; omega)))
          · replace m29 := bI_nz m29
            refine ⟨rfl, rfl, ?_⟩
            refine m_comes (by omega) (by omega) (fun hm39a => ?_) (fun hm39a => ?_)
            · refine ⟨rfl, trivial, ?_⟩
              first | exact ⟨⟨_, rfl, rfl⟩, hI⟩ | (exfalso; (first | omega | (simp only [Int32.reduceToInt] at c8 m5 m13 m20 m29 hm39a ⊢; omega)))
            · refine ⟨rfl, trivial, ?_⟩
              first | exact ⟨⟨_, rfl, rfl⟩, hI⟩ | (exfalso; (first | omega | (simp only [Int32.reduceToInt] at c8 m5 m13 m20 m29 hm39a ⊢; omega)))
  · replace c8 := bI_nz c8
    refine ⟨rfl, rfl, ?_⟩
    refine s_tellSum (by omega) hr (fun h21a => ?_) (fun h21a h21b => ?_) (fun h21a h21b => ?_)
    · refine ⟨rfl, trivial, ?_⟩
      refine Call_st 200 fun Y hY => ?_
      refine ⟨rfl, rfl, ?_⟩
      refine m_isVoucher (by omega) ?_
      refine ⟨fun m5 => ?_, fun m5 => ?_⟩
      · replace m5 := bI_z m5
        refine ⟨rfl, trivial, ?_⟩
        first | exact ⟨⟨_, rfl, rfl⟩, hI⟩ | (exfalso; (first | omega | (simp only [Int32.reduceToInt] at c8 h21a m5 ⊢; omega)))
      · replace m5 := bI_nz m5
        refine ⟨rfl, rfl, ?_⟩
        refine m_isShop (by omega) ?_
        refine ⟨fun m13 => ?_, fun m13 => ?_⟩
        · replace m13 := bI_z m13
          refine ⟨rfl, trivial, ?_⟩
          first | exact ⟨⟨_, rfl, rfl⟩, hI⟩ | (exfalso; (first | omega | (simp only [Int32.reduceToInt] at c8 h21a m5 m13 ⊢; omega)))
        · replace m13 := bI_nz m13
          refine ⟨rfl, ?_⟩
          refine m_isSum ?_
          refine ⟨fun m20 => ?_, fun m20 => ?_⟩
          · replace m20 := bI_z m20
            refine ⟨rfl, trivial, ?_⟩
            first | exact ⟨⟨_, rfl, rfl⟩, hI⟩ | (exfalso; (first | omega | (simp only [Int32.reduceToInt] at c8 h21a m5 m13 m20 ⊢; omega)))
          · replace m20 := bI_nz m20
            refine ⟨rfl, rfl, ?_⟩
            refine m_isPast ?_
            refine ⟨fun m29 => ?_, fun m29 => ?_⟩
            · replace m29 := bI_z m29
              refine ⟨rfl, trivial, ?_⟩
              first | exact ⟨⟨_, rfl, rfl⟩, hI⟩ | (exfalso; (first | omega | (simp only [Int32.reduceToInt] at c8 h21a m5 m13 m20 m29 ⊢; omega)))
            · replace m29 := bI_nz m29
              refine ⟨rfl, rfl, ?_⟩
              refine m_comes (by omega) (by omega) (fun hm39a => ?_) (fun hm39a => ?_)
              · refine ⟨rfl, trivial, ?_⟩
                first | exact ⟨⟨_, rfl, rfl⟩, hI⟩ | (exfalso; (first | omega | (simp only [Int32.reduceToInt] at c8 h21a m5 m13 m20 m29 hm39a ⊢; omega)))
              · refine ⟨rfl, trivial, ?_⟩
                first | exact ⟨⟨_, rfl, rfl⟩, hI⟩ | (exfalso; (first | omega | (simp only [Int32.reduceToInt] at c8 h21a m5 m13 m20 m29 hm39a ⊢; omega)))
    · refine ⟨rfl, trivial, ?_⟩
      refine Call_st 200 fun Y hY => ?_
      refine ⟨rfl, rfl, ?_⟩
      refine m_isVoucher (by omega) ?_
      refine ⟨fun m5 => ?_, fun m5 => ?_⟩
      · replace m5 := bI_z m5
        refine ⟨rfl, trivial, ?_⟩
        first | exact ⟨⟨_, rfl, rfl⟩, hI⟩ | (exfalso; (first | omega | (simp only [Int32.reduceToInt] at c8 h21a h21b m5 ⊢; omega)))
      · replace m5 := bI_nz m5
        refine ⟨rfl, rfl, ?_⟩
        refine m_isShop (by omega) ?_
        refine ⟨fun m13 => ?_, fun m13 => ?_⟩
        · replace m13 := bI_z m13
          refine ⟨rfl, trivial, ?_⟩
          first | exact ⟨⟨_, rfl, rfl⟩, hI⟩ | (exfalso; (first | omega | (simp only [Int32.reduceToInt] at c8 h21a h21b m5 m13 ⊢; omega)))
        · replace m13 := bI_nz m13
          refine ⟨rfl, ?_⟩
          refine m_isSum ?_
          refine ⟨fun m20 => ?_, fun m20 => ?_⟩
          · replace m20 := bI_z m20
            refine ⟨rfl, trivial, ?_⟩
            first | exact ⟨⟨_, rfl, rfl⟩, hI⟩ | (exfalso; (first | omega | (simp only [Int32.reduceToInt] at c8 h21a h21b m5 m13 m20 ⊢; omega)))
          · replace m20 := bI_nz m20
            refine ⟨rfl, rfl, ?_⟩
            refine m_isPast ?_
            refine ⟨fun m29 => ?_, fun m29 => ?_⟩
            · replace m29 := bI_z m29
              refine ⟨rfl, trivial, ?_⟩
              first | exact ⟨⟨_, rfl, rfl⟩, hI⟩ | (exfalso; (first | omega | (simp only [Int32.reduceToInt] at c8 h21a h21b m5 m13 m20 m29 ⊢; omega)))
            · replace m29 := bI_nz m29
              refine ⟨rfl, rfl, ?_⟩
              refine m_comes (by omega) (by omega) (fun hm39a => ?_) (fun hm39a => ?_)
              · refine ⟨rfl, trivial, ?_⟩
                first | exact ⟨⟨_, rfl, rfl⟩, hI⟩ | (exfalso; (first | omega | (simp only [Int32.reduceToInt] at c8 h21a h21b m5 m13 m20 m29 hm39a ⊢; omega)))
              · refine ⟨rfl, trivial, ?_⟩
                first | exact ⟨⟨_, rfl, rfl⟩, hI⟩ | (exfalso; (first | omega | (simp only [Int32.reduceToInt] at c8 h21a h21b m5 m13 m20 m29 hm39a ⊢; omega)))
    · refine ⟨rfl, trivial, ?_⟩
      refine nxt fun τ hτ => ?_
      have e88 : τ 88 = σ 88 := by rw [hτ]; rfl
      have qτtoday : (τ 88 0).toInt = (σ 1 0).toInt := by rw [e88, t0]
      have qτshops : (τ 88 2).toInt = (σ 1 2).toInt := by rw [e88, t2]
      have qτvouchers : (τ 88 4).toInt = (σ 3 0).toInt := by rw [e88, v0]
      have qτlines : (τ 88 11).toInt = (σ 10 0).toInt := by rw [e88, l0]
      refine Call_st 200 fun Y hY => ?_
      refine ⟨rfl, rfl, ?_⟩
      refine m_isVoucher (by omega) ?_
      refine ⟨fun m5 => ?_, fun m5 => ?_⟩
      · replace m5 := bI_z m5
        refine ⟨rfl, trivial, ?_⟩
        first
        | (exfalso; (first | omega | (simp only [Int32.reduceToInt] at c8 h21a h21b m5 ⊢; omega)); done)
        | (have z5 : (σ 10 0).toInt < 100 := by (first | omega | (simp only [Int32.reduceToInt] at c8 h21a h21b m5 ⊢; omega))
           have zl : (0 ≤ (4 : Int32).toInt ∧ (4 : Int32).toInt ≤ 5) ∧ (0 ≤ v.toInt ∧ v.toInt < (σ 3 0).toInt) ∧ (0 ≤ a.toInt ∧ a.toInt ≤ (σ 1 0).toInt) ∧ (0 ≤ (s : Int32).toInt ∧ (s : Int32).toInt ≤ 100000) := ⟨⟨by decide, by decide⟩, by (first | omega | (simp only [Int32.reduceToInt] at c8 h21a h21b m5 ⊢; omega)), by (first | omega | (simp only [Int32.reduceToInt] at c8 h21a h21b m5 ⊢; omega)), by (first | omega | (simp only [Int32.reduceToInt] at c8 h21a h21b m5 ⊢; omega))⟩
           have zp : 0 ≤ p.toInt ∧ p.toInt < (σ 1 2).toInt := by (first | omega | (simp only [Int32.reduceToInt] at c8 h21a h21b m5 ⊢; omega))
           subst hτ
           exact ⟨⟨σ 10 0, rfl, vI_ l0⟩, ⟨(I_tr_fr (σ := σ) rfl rfl rfl rfl rfl rfl rfl rfl hI.1), (I_vo_fr (σ := σ) rfl rfl rfl rfl rfl rfl rfl rfl rfl rfl rfl rfl rfl rfl rfl hI.2.1), (c_line_li (σ := σ) rfl rfl rfl rfl rfl rfl rfl rfl rfl rfl rfl rfl rfl rfl rfl rfl rfl rfl rfl rfl rfl hI.2.2.1 z5 t0 rfl ⟨zl.1, zl.2.1, zl.2.2.1, ⟨t4, Int.le_refl _⟩, zl.2.2.2, Or.inr (Or.inl ⟨Or.inr rfl, rfl, zp.1, zp.2⟩), fun z => absurd z (by decide)⟩), (c_line_or (σ := σ) rfl rfl rfl hI.2.2.2.1 l6 z5), (I_ta_fr (σ := σ) rfl rfl rfl rfl hI.2.2.2.2.1), (I_ba_fr (σ := σ) rfl rfl rfl rfl rfl rfl rfl rfl rfl rfl rfl rfl rfl rfl rfl rfl rfl rfl rfl rfl rfl hI.2.2.2.2.2.1), (I_ex_fr (σ := σ) rfl rfl rfl rfl rfl rfl rfl rfl rfl rfl rfl hI.2.2.2.2.2.2.1), (I_gu_fr (σ := σ) rfl rfl rfl rfl rfl rfl rfl rfl rfl rfl hI.2.2.2.2.2.2.2.1), (I_sh_fr (σ := σ) rfl rfl rfl rfl rfl hI.2.2.2.2.2.2.2.2.1), (I_wa_fr (σ := σ) rfl rfl rfl rfl hI.2.2.2.2.2.2.2.2.2.1), (I_la_fr (σ := σ) rfl rfl rfl rfl rfl rfl rfl rfl rfl rfl rfl hI.2.2.2.2.2.2.2.2.2.2.1), (I_he_fr (σ := σ) rfl hI.2.2.2.2.2.2.2.2.2.2.2)⟩⟩)
      · replace m5 := bI_nz m5
        refine ⟨rfl, rfl, ?_⟩
        refine m_isShop (by omega) ?_
        refine ⟨fun m13 => ?_, fun m13 => ?_⟩
        · replace m13 := bI_z m13
          refine ⟨rfl, trivial, ?_⟩
          first
          | (exfalso; (first | omega | (simp only [Int32.reduceToInt] at c8 h21a h21b m5 m13 ⊢; omega)); done)
          | (have z5 : (σ 10 0).toInt < 100 := by (first | omega | (simp only [Int32.reduceToInt] at c8 h21a h21b m5 m13 ⊢; omega))
             have zl : (0 ≤ (4 : Int32).toInt ∧ (4 : Int32).toInt ≤ 5) ∧ (0 ≤ v.toInt ∧ v.toInt < (σ 3 0).toInt) ∧ (0 ≤ a.toInt ∧ a.toInt ≤ (σ 1 0).toInt) ∧ (0 ≤ (s : Int32).toInt ∧ (s : Int32).toInt ≤ 100000) := ⟨⟨by decide, by decide⟩, by (first | omega | (simp only [Int32.reduceToInt] at c8 h21a h21b m5 m13 ⊢; omega)), by (first | omega | (simp only [Int32.reduceToInt] at c8 h21a h21b m5 m13 ⊢; omega)), by (first | omega | (simp only [Int32.reduceToInt] at c8 h21a h21b m5 m13 ⊢; omega))⟩
             have zp : 0 ≤ p.toInt ∧ p.toInt < (σ 1 2).toInt := by (first | omega | (simp only [Int32.reduceToInt] at c8 h21a h21b m5 m13 ⊢; omega))
             subst hτ
             exact ⟨⟨σ 10 0, rfl, vI_ l0⟩, ⟨(I_tr_fr (σ := σ) rfl rfl rfl rfl rfl rfl rfl rfl hI.1), (I_vo_fr (σ := σ) rfl rfl rfl rfl rfl rfl rfl rfl rfl rfl rfl rfl rfl rfl rfl hI.2.1), (c_line_li (σ := σ) rfl rfl rfl rfl rfl rfl rfl rfl rfl rfl rfl rfl rfl rfl rfl rfl rfl rfl rfl rfl rfl hI.2.2.1 z5 t0 rfl ⟨zl.1, zl.2.1, zl.2.2.1, ⟨t4, Int.le_refl _⟩, zl.2.2.2, Or.inr (Or.inl ⟨Or.inr rfl, rfl, zp.1, zp.2⟩), fun z => absurd z (by decide)⟩), (c_line_or (σ := σ) rfl rfl rfl hI.2.2.2.1 l6 z5), (I_ta_fr (σ := σ) rfl rfl rfl rfl hI.2.2.2.2.1), (I_ba_fr (σ := σ) rfl rfl rfl rfl rfl rfl rfl rfl rfl rfl rfl rfl rfl rfl rfl rfl rfl rfl rfl rfl rfl hI.2.2.2.2.2.1), (I_ex_fr (σ := σ) rfl rfl rfl rfl rfl rfl rfl rfl rfl rfl rfl hI.2.2.2.2.2.2.1), (I_gu_fr (σ := σ) rfl rfl rfl rfl rfl rfl rfl rfl rfl rfl hI.2.2.2.2.2.2.2.1), (I_sh_fr (σ := σ) rfl rfl rfl rfl rfl hI.2.2.2.2.2.2.2.2.1), (I_wa_fr (σ := σ) rfl rfl rfl rfl hI.2.2.2.2.2.2.2.2.2.1), (I_la_fr (σ := σ) rfl rfl rfl rfl rfl rfl rfl rfl rfl rfl rfl hI.2.2.2.2.2.2.2.2.2.2.1), (I_he_fr (σ := σ) rfl hI.2.2.2.2.2.2.2.2.2.2.2)⟩⟩)
        · replace m13 := bI_nz m13
          refine ⟨rfl, ?_⟩
          refine m_isSum ?_
          refine ⟨fun m20 => ?_, fun m20 => ?_⟩
          · replace m20 := bI_z m20
            refine ⟨rfl, trivial, ?_⟩
            first
            | (exfalso; (first | omega | (simp only [Int32.reduceToInt] at c8 h21a h21b m5 m13 m20 ⊢; omega)); done)
            | (have z5 : (σ 10 0).toInt < 100 := by (first | omega | (simp only [Int32.reduceToInt] at c8 h21a h21b m5 m13 m20 ⊢; omega))
               have zl : (0 ≤ (4 : Int32).toInt ∧ (4 : Int32).toInt ≤ 5) ∧ (0 ≤ v.toInt ∧ v.toInt < (σ 3 0).toInt) ∧ (0 ≤ a.toInt ∧ a.toInt ≤ (σ 1 0).toInt) ∧ (0 ≤ (s : Int32).toInt ∧ (s : Int32).toInt ≤ 100000) := ⟨⟨by decide, by decide⟩, by (first | omega | (simp only [Int32.reduceToInt] at c8 h21a h21b m5 m13 m20 ⊢; omega)), by (first | omega | (simp only [Int32.reduceToInt] at c8 h21a h21b m5 m13 m20 ⊢; omega)), by (first | omega | (simp only [Int32.reduceToInt] at c8 h21a h21b m5 m13 m20 ⊢; omega))⟩
               have zp : 0 ≤ p.toInt ∧ p.toInt < (σ 1 2).toInt := by (first | omega | (simp only [Int32.reduceToInt] at c8 h21a h21b m5 m13 m20 ⊢; omega))
               subst hτ
               exact ⟨⟨σ 10 0, rfl, vI_ l0⟩, ⟨(I_tr_fr (σ := σ) rfl rfl rfl rfl rfl rfl rfl rfl hI.1), (I_vo_fr (σ := σ) rfl rfl rfl rfl rfl rfl rfl rfl rfl rfl rfl rfl rfl rfl rfl hI.2.1), (c_line_li (σ := σ) rfl rfl rfl rfl rfl rfl rfl rfl rfl rfl rfl rfl rfl rfl rfl rfl rfl rfl rfl rfl rfl hI.2.2.1 z5 t0 rfl ⟨zl.1, zl.2.1, zl.2.2.1, ⟨t4, Int.le_refl _⟩, zl.2.2.2, Or.inr (Or.inl ⟨Or.inr rfl, rfl, zp.1, zp.2⟩), fun z => absurd z (by decide)⟩), (c_line_or (σ := σ) rfl rfl rfl hI.2.2.2.1 l6 z5), (I_ta_fr (σ := σ) rfl rfl rfl rfl hI.2.2.2.2.1), (I_ba_fr (σ := σ) rfl rfl rfl rfl rfl rfl rfl rfl rfl rfl rfl rfl rfl rfl rfl rfl rfl rfl rfl rfl rfl hI.2.2.2.2.2.1), (I_ex_fr (σ := σ) rfl rfl rfl rfl rfl rfl rfl rfl rfl rfl rfl hI.2.2.2.2.2.2.1), (I_gu_fr (σ := σ) rfl rfl rfl rfl rfl rfl rfl rfl rfl rfl hI.2.2.2.2.2.2.2.1), (I_sh_fr (σ := σ) rfl rfl rfl rfl rfl hI.2.2.2.2.2.2.2.2.1), (I_wa_fr (σ := σ) rfl rfl rfl rfl hI.2.2.2.2.2.2.2.2.2.1), (I_la_fr (σ := σ) rfl rfl rfl rfl rfl rfl rfl rfl rfl rfl rfl hI.2.2.2.2.2.2.2.2.2.2.1), (I_he_fr (σ := σ) rfl hI.2.2.2.2.2.2.2.2.2.2.2)⟩⟩)
          · replace m20 := bI_nz m20
            refine ⟨rfl, rfl, ?_⟩
            refine m_isPast ?_
            refine ⟨fun m29 => ?_, fun m29 => ?_⟩
            · replace m29 := bI_z m29
              refine ⟨rfl, trivial, ?_⟩
              first
              | (exfalso; (first | omega | (simp only [Int32.reduceToInt] at c8 h21a h21b m5 m13 m20 m29 ⊢; omega)); done)
              | (have z5 : (σ 10 0).toInt < 100 := by (first | omega | (simp only [Int32.reduceToInt] at c8 h21a h21b m5 m13 m20 m29 ⊢; omega))
                 have zl : (0 ≤ (4 : Int32).toInt ∧ (4 : Int32).toInt ≤ 5) ∧ (0 ≤ v.toInt ∧ v.toInt < (σ 3 0).toInt) ∧ (0 ≤ a.toInt ∧ a.toInt ≤ (σ 1 0).toInt) ∧ (0 ≤ (s : Int32).toInt ∧ (s : Int32).toInt ≤ 100000) := ⟨⟨by decide, by decide⟩, by (first | omega | (simp only [Int32.reduceToInt] at c8 h21a h21b m5 m13 m20 m29 ⊢; omega)), by (first | omega | (simp only [Int32.reduceToInt] at c8 h21a h21b m5 m13 m20 m29 ⊢; omega)), by (first | omega | (simp only [Int32.reduceToInt] at c8 h21a h21b m5 m13 m20 m29 ⊢; omega))⟩
                 have zp : 0 ≤ p.toInt ∧ p.toInt < (σ 1 2).toInt := by (first | omega | (simp only [Int32.reduceToInt] at c8 h21a h21b m5 m13 m20 m29 ⊢; omega))
                 subst hτ
                 exact ⟨⟨σ 10 0, rfl, vI_ l0⟩, ⟨(I_tr_fr (σ := σ) rfl rfl rfl rfl rfl rfl rfl rfl hI.1), (I_vo_fr (σ := σ) rfl rfl rfl rfl rfl rfl rfl rfl rfl rfl rfl rfl rfl rfl rfl hI.2.1), (c_line_li (σ := σ) rfl rfl rfl rfl rfl rfl rfl rfl rfl rfl rfl rfl rfl rfl rfl rfl rfl rfl rfl rfl rfl hI.2.2.1 z5 t0 rfl ⟨zl.1, zl.2.1, zl.2.2.1, ⟨t4, Int.le_refl _⟩, zl.2.2.2, Or.inr (Or.inl ⟨Or.inr rfl, rfl, zp.1, zp.2⟩), fun z => absurd z (by decide)⟩), (c_line_or (σ := σ) rfl rfl rfl hI.2.2.2.1 l6 z5), (I_ta_fr (σ := σ) rfl rfl rfl rfl hI.2.2.2.2.1), (I_ba_fr (σ := σ) rfl rfl rfl rfl rfl rfl rfl rfl rfl rfl rfl rfl rfl rfl rfl rfl rfl rfl rfl rfl rfl hI.2.2.2.2.2.1), (I_ex_fr (σ := σ) rfl rfl rfl rfl rfl rfl rfl rfl rfl rfl rfl hI.2.2.2.2.2.2.1), (I_gu_fr (σ := σ) rfl rfl rfl rfl rfl rfl rfl rfl rfl rfl hI.2.2.2.2.2.2.2.1), (I_sh_fr (σ := σ) rfl rfl rfl rfl rfl hI.2.2.2.2.2.2.2.2.1), (I_wa_fr (σ := σ) rfl rfl rfl rfl hI.2.2.2.2.2.2.2.2.2.1), (I_la_fr (σ := σ) rfl rfl rfl rfl rfl rfl rfl rfl rfl rfl rfl hI.2.2.2.2.2.2.2.2.2.2.1), (I_he_fr (σ := σ) rfl hI.2.2.2.2.2.2.2.2.2.2.2)⟩⟩)
            · replace m29 := bI_nz m29
              refine ⟨rfl, rfl, ?_⟩
              refine m_comes (by omega) (by omega) (fun hm39a => ?_) (fun hm39a => ?_)
              · refine ⟨rfl, trivial, ?_⟩
                first
                | (exfalso; (first | omega | (simp only [Int32.reduceToInt] at c8 h21a h21b m5 m13 m20 m29 hm39a ⊢; omega)); done)
                | (have z5 : (σ 10 0).toInt < 100 := by (first | omega | (simp only [Int32.reduceToInt] at c8 h21a h21b m5 m13 m20 m29 hm39a ⊢; omega))
                   have zl : (0 ≤ (4 : Int32).toInt ∧ (4 : Int32).toInt ≤ 5) ∧ (0 ≤ v.toInt ∧ v.toInt < (σ 3 0).toInt) ∧ (0 ≤ a.toInt ∧ a.toInt ≤ (σ 1 0).toInt) ∧ (0 ≤ (s : Int32).toInt ∧ (s : Int32).toInt ≤ 100000) := ⟨⟨by decide, by decide⟩, by (first | omega | (simp only [Int32.reduceToInt] at c8 h21a h21b m5 m13 m20 m29 hm39a ⊢; omega)), by (first | omega | (simp only [Int32.reduceToInt] at c8 h21a h21b m5 m13 m20 m29 hm39a ⊢; omega)), by (first | omega | (simp only [Int32.reduceToInt] at c8 h21a h21b m5 m13 m20 m29 hm39a ⊢; omega))⟩
                   have zp : 0 ≤ p.toInt ∧ p.toInt < (σ 1 2).toInt := by (first | omega | (simp only [Int32.reduceToInt] at c8 h21a h21b m5 m13 m20 m29 hm39a ⊢; omega))
                   subst hτ
                   exact ⟨⟨σ 10 0, rfl, vI_ l0⟩, ⟨(I_tr_fr (σ := σ) rfl rfl rfl rfl rfl rfl rfl rfl hI.1), (I_vo_fr (σ := σ) rfl rfl rfl rfl rfl rfl rfl rfl rfl rfl rfl rfl rfl rfl rfl hI.2.1), (c_line_li (σ := σ) rfl rfl rfl rfl rfl rfl rfl rfl rfl rfl rfl rfl rfl rfl rfl rfl rfl rfl rfl rfl rfl hI.2.2.1 z5 t0 rfl ⟨zl.1, zl.2.1, zl.2.2.1, ⟨t4, Int.le_refl _⟩, zl.2.2.2, Or.inr (Or.inl ⟨Or.inr rfl, rfl, zp.1, zp.2⟩), fun z => absurd z (by decide)⟩), (c_line_or (σ := σ) rfl rfl rfl hI.2.2.2.1 l6 z5), (I_ta_fr (σ := σ) rfl rfl rfl rfl hI.2.2.2.2.1), (I_ba_fr (σ := σ) rfl rfl rfl rfl rfl rfl rfl rfl rfl rfl rfl rfl rfl rfl rfl rfl rfl rfl rfl rfl rfl hI.2.2.2.2.2.1), (I_ex_fr (σ := σ) rfl rfl rfl rfl rfl rfl rfl rfl rfl rfl rfl hI.2.2.2.2.2.2.1), (I_gu_fr (σ := σ) rfl rfl rfl rfl rfl rfl rfl rfl rfl rfl hI.2.2.2.2.2.2.2.1), (I_sh_fr (σ := σ) rfl rfl rfl rfl rfl hI.2.2.2.2.2.2.2.2.1), (I_wa_fr (σ := σ) rfl rfl rfl rfl hI.2.2.2.2.2.2.2.2.2.1), (I_la_fr (σ := σ) rfl rfl rfl rfl rfl rfl rfl rfl rfl rfl rfl hI.2.2.2.2.2.2.2.2.2.2.1), (I_he_fr (σ := σ) rfl hI.2.2.2.2.2.2.2.2.2.2.2)⟩⟩)
              · refine ⟨rfl, trivial, ?_⟩
                first
                | (exfalso; (first | omega | (simp only [Int32.reduceToInt] at c8 h21a h21b m5 m13 m20 m29 hm39a ⊢; omega)); done)
                | (have z5 : (σ 10 0).toInt < 100 := by (first | omega | (simp only [Int32.reduceToInt] at c8 h21a h21b m5 m13 m20 m29 hm39a ⊢; omega))
                   have zl : (0 ≤ (4 : Int32).toInt ∧ (4 : Int32).toInt ≤ 5) ∧ (0 ≤ v.toInt ∧ v.toInt < (σ 3 0).toInt) ∧ (0 ≤ a.toInt ∧ a.toInt ≤ (σ 1 0).toInt) ∧ (0 ≤ (s : Int32).toInt ∧ (s : Int32).toInt ≤ 100000) := ⟨⟨by decide, by decide⟩, by (first | omega | (simp only [Int32.reduceToInt] at c8 h21a h21b m5 m13 m20 m29 hm39a ⊢; omega)), by (first | omega | (simp only [Int32.reduceToInt] at c8 h21a h21b m5 m13 m20 m29 hm39a ⊢; omega)), by (first | omega | (simp only [Int32.reduceToInt] at c8 h21a h21b m5 m13 m20 m29 hm39a ⊢; omega))⟩
                   have zp : 0 ≤ p.toInt ∧ p.toInt < (σ 1 2).toInt := by (first | omega | (simp only [Int32.reduceToInt] at c8 h21a h21b m5 m13 m20 m29 hm39a ⊢; omega))
                   subst hτ
                   exact ⟨⟨σ 10 0, rfl, vI_ l0⟩, ⟨(I_tr_fr (σ := σ) rfl rfl rfl rfl rfl rfl rfl rfl hI.1), (I_vo_fr (σ := σ) rfl rfl rfl rfl rfl rfl rfl rfl rfl rfl rfl rfl rfl rfl rfl hI.2.1), (c_line_li (σ := σ) rfl rfl rfl rfl rfl rfl rfl rfl rfl rfl rfl rfl rfl rfl rfl rfl rfl rfl rfl rfl rfl hI.2.2.1 z5 t0 rfl ⟨zl.1, zl.2.1, zl.2.2.1, ⟨t4, Int.le_refl _⟩, zl.2.2.2, Or.inr (Or.inl ⟨Or.inr rfl, rfl, zp.1, zp.2⟩), fun z => absurd z (by decide)⟩), (c_line_or (σ := σ) rfl rfl rfl hI.2.2.2.1 l6 z5), (I_ta_fr (σ := σ) rfl rfl rfl rfl hI.2.2.2.2.1), (I_ba_fr (σ := σ) rfl rfl rfl rfl rfl rfl rfl rfl rfl rfl rfl rfl rfl rfl rfl rfl rfl rfl rfl rfl rfl hI.2.2.2.2.2.1), (I_ex_fr (σ := σ) rfl rfl rfl rfl rfl rfl rfl rfl rfl rfl rfl hI.2.2.2.2.2.2.1), (I_gu_fr (σ := σ) rfl rfl rfl rfl rfl rfl rfl rfl rfl rfl hI.2.2.2.2.2.2.2.1), (I_sh_fr (σ := σ) rfl rfl rfl rfl rfl hI.2.2.2.2.2.2.2.2.1), (I_wa_fr (σ := σ) rfl rfl rfl rfl hI.2.2.2.2.2.2.2.2.2.1), (I_la_fr (σ := σ) rfl rfl rfl rfl rfl rfl rfl rfl rfl rfl rfl hI.2.2.2.2.2.2.2.2.2.2.1), (I_he_fr (σ := σ) rfl hI.2.2.2.2.2.2.2.2.2.2.2)⟩⟩)
theorem op_load {σ : Mm} {v s a : Int32} (hI : Inv σ) : Call 120 k_X11_load [.ref 0, .int v, .int s, .int a] σ (fun r τ => Call 120 k_X12_load [.ref 88, .int v, .int s, .int a] τ (fun r' τ' => (∃ x : Int32, r = some (.int x) ∧ r' = some (.int x)) ∧ Inv τ')) := by
  obtain ⟨⟨t0, t1, t2, t3⟩, ⟨t4, t5⟩, ⟨t6, t7⟩, ⟨t8, t9⟩, t10⟩ := id (hI.1)
  obtain ⟨⟨v0, v1, v2, v3, v4, v5, v6⟩, ⟨v7, v8⟩, v9⟩ := id (hI.2.1)
  obtain ⟨⟨l0, l1, l2, l3, l4, l5⟩, ⟨l6, l7⟩, l8, l9⟩ := id (hI.2.2.1)
  obtain o0 := id (hI.2.2.2.1)
  have qtoday : (σ 88 0).toInt = (σ 1 0).toInt := by rw [t0]
  have qshops : (σ 88 2).toInt = (σ 1 2).toInt := by rw [t2]
  have qvouchers : (σ 88 4).toInt = (σ 3 0).toInt := by rw [v0]
  have qlines : (σ 88 11).toInt = (σ 10 0).toInt := by rw [l0]
  have hr : ∀ i : Nat, i < (σ 10 0).toInt.toNat → 0 ≤ (σ 18 i).toInt ∧ (σ 18 i).toInt < 100 := fun i hi => by
    rw [o0]
    have := ordA_rng (ab := σ 13) (n := (σ 10 0).toInt.toNat) (by omega) i hi
    omega
  refine Call_st 200 fun X hX => ?_
  refine ⟨rfl, rfl, ?_⟩
  refine s_tellSum (by omega) hr (fun h7a => ?_) (fun h7a h7b => ?_) (fun h7a h7b => ?_)
  · refine ⟨rfl, trivial, ?_⟩
    refine Call_st 200 fun Y hY => ?_
    refine ⟨rfl, rfl, ?_⟩
    refine m_isVoucher (by omega) ?_
    refine ⟨fun m5 => ?_, fun m5 => ?_⟩
    · replace m5 := bI_z m5
      refine ⟨rfl, trivial, ?_⟩
      first | exact ⟨⟨_, rfl, rfl⟩, hI⟩ | (exfalso; (first | omega | (simp only [Int32.reduceToInt] at h7a m5 ⊢; omega)))
    · replace m5 := bI_nz m5
      refine ⟨rfl, ?_⟩
      refine m_isSum ?_
      refine ⟨fun m12 => ?_, fun m12 => ?_⟩
      · replace m12 := bI_z m12
        refine ⟨rfl, trivial, ?_⟩
        first | exact ⟨⟨_, rfl, rfl⟩, hI⟩ | (exfalso; (first | omega | (simp only [Int32.reduceToInt] at h7a m5 m12 ⊢; omega)))
      · replace m12 := bI_nz m12
        refine ⟨rfl, rfl, ?_⟩
        refine m_isPast ?_
        refine ⟨fun m20 => ?_, fun m20 => ?_⟩
        · replace m20 := bI_z m20
          refine ⟨rfl, trivial, ?_⟩
          first | exact ⟨⟨_, rfl, rfl⟩, hI⟩ | (exfalso; (first | omega | (simp only [Int32.reduceToInt] at h7a m5 m12 m20 ⊢; omega)))
        · replace m20 := bI_nz m20
          refine ⟨rfl, rfl, ?_⟩
          refine m_comes (by omega) (by omega) (fun hm29a => ?_) (fun hm29a => ?_)
          · refine ⟨rfl, trivial, ?_⟩
            first | exact ⟨⟨_, rfl, rfl⟩, hI⟩ | (exfalso; (first | omega | (simp only [Int32.reduceToInt] at h7a m5 m12 m20 hm29a ⊢; omega)))
          · refine ⟨rfl, trivial, ?_⟩
            first | exact ⟨⟨_, rfl, rfl⟩, hI⟩ | (exfalso; (first | omega | (simp only [Int32.reduceToInt] at h7a m5 m12 m20 hm29a ⊢; omega)))
  · refine ⟨rfl, trivial, ?_⟩
    refine Call_st 200 fun Y hY => ?_
    refine ⟨rfl, rfl, ?_⟩
    refine m_isVoucher (by omega) ?_
    refine ⟨fun m5 => ?_, fun m5 => ?_⟩
    · replace m5 := bI_z m5
      refine ⟨rfl, trivial, ?_⟩
      first | exact ⟨⟨_, rfl, rfl⟩, hI⟩ | (exfalso; (first | omega | (simp only [Int32.reduceToInt] at h7a h7b m5 ⊢; omega)))
    · replace m5 := bI_nz m5
      refine ⟨rfl, ?_⟩
      refine m_isSum ?_
      refine ⟨fun m12 => ?_, fun m12 => ?_⟩
      · replace m12 := bI_z m12
        refine ⟨rfl, trivial, ?_⟩
        first | exact ⟨⟨_, rfl, rfl⟩, hI⟩ | (exfalso; (first | omega | (simp only [Int32.reduceToInt] at h7a h7b m5 m12 ⊢; omega)))
      · replace m12 := bI_nz m12
        refine ⟨rfl, rfl, ?_⟩
        refine m_isPast ?_
        refine ⟨fun m20 => ?_, fun m20 => ?_⟩
        · replace m20 := bI_z m20
          refine ⟨rfl, trivial, ?_⟩
          first | exact ⟨⟨_, rfl, rfl⟩, hI⟩ | (exfalso; (first | omega | (simp only [Int32.reduceToInt] at h7a h7b m5 m12 m20 ⊢; omega)))
        · replace m20 := bI_nz m20
          refine ⟨rfl, rfl, ?_⟩
          refine m_comes (by omega) (by omega) (fun hm29a => ?_) (fun hm29a => ?_)
          · refine ⟨rfl, trivial, ?_⟩
            first | exact ⟨⟨_, rfl, rfl⟩, hI⟩ | (exfalso; (first | omega | (simp only [Int32.reduceToInt] at h7a h7b m5 m12 m20 hm29a ⊢; omega)))
          · refine ⟨rfl, trivial, ?_⟩
            first | exact ⟨⟨_, rfl, rfl⟩, hI⟩ | (exfalso; (first | omega | (simp only [Int32.reduceToInt] at h7a h7b m5 m12 m20 hm29a ⊢; omega)))
  · refine ⟨rfl, trivial, ?_⟩
    refine nxt fun τ hτ => ?_
    have e88 : τ 88 = σ 88 := by rw [hτ]; rfl
    have qτtoday : (τ 88 0).toInt = (σ 1 0).toInt := by rw [e88, t0]
    have qτshops : (τ 88 2).toInt = (σ 1 2).toInt := by rw [e88, t2]
    have qτvouchers : (τ 88 4).toInt = (σ 3 0).toInt := by rw [e88, v0]
    have qτlines : (τ 88 11).toInt = (σ 10 0).toInt := by rw [e88, l0]
    refine Call_st 200 fun Y hY => ?_
    refine ⟨rfl, rfl, ?_⟩
    refine m_isVoucher (by omega) ?_
    refine ⟨fun m5 => ?_, fun m5 => ?_⟩
    · replace m5 := bI_z m5
      refine ⟨rfl, trivial, ?_⟩
      first
      | (exfalso; (first | omega | (simp only [Int32.reduceToInt] at h7a h7b m5 ⊢; omega)); done)
      | (have z5 : (σ 10 0).toInt < 100 := by (first | omega | (simp only [Int32.reduceToInt] at h7a h7b m5 ⊢; omega))
         have zl : (0 ≤ (2 : Int32).toInt ∧ (2 : Int32).toInt ≤ 5) ∧ (0 ≤ v.toInt ∧ v.toInt < (σ 3 0).toInt) ∧ (0 ≤ a.toInt ∧ a.toInt ≤ (σ 1 0).toInt) ∧ (0 ≤ (s : Int32).toInt ∧ (s : Int32).toInt ≤ 100000) := ⟨⟨by decide, by decide⟩, by (first | omega | (simp only [Int32.reduceToInt] at h7a h7b m5 ⊢; omega)), by (first | omega | (simp only [Int32.reduceToInt] at h7a h7b m5 ⊢; omega)), by (first | omega | (simp only [Int32.reduceToInt] at h7a h7b m5 ⊢; omega))⟩
         subst hτ
         exact ⟨⟨σ 10 0, rfl, vI_ l0⟩, ⟨(I_tr_fr (σ := σ) rfl rfl rfl rfl rfl rfl rfl rfl hI.1), (I_vo_fr (σ := σ) rfl rfl rfl rfl rfl rfl rfl rfl rfl rfl rfl rfl rfl rfl rfl hI.2.1), (c_line_li (σ := σ) rfl rfl rfl rfl rfl rfl rfl rfl rfl rfl rfl rfl rfl rfl rfl rfl rfl rfl rfl rfl rfl hI.2.2.1 z5 t0 rfl ⟨zl.1, zl.2.1, zl.2.2.1, ⟨t4, Int.le_refl _⟩, zl.2.2.2, Or.inl ⟨Or.inr (Or.inl rfl), rfl, rfl⟩, fun z => absurd z (by decide)⟩), (c_line_or (σ := σ) rfl rfl rfl hI.2.2.2.1 l6 z5), (I_ta_fr (σ := σ) rfl rfl rfl rfl hI.2.2.2.2.1), (I_ba_fr (σ := σ) rfl rfl rfl rfl rfl rfl rfl rfl rfl rfl rfl rfl rfl rfl rfl rfl rfl rfl rfl rfl rfl hI.2.2.2.2.2.1), (I_ex_fr (σ := σ) rfl rfl rfl rfl rfl rfl rfl rfl rfl rfl rfl hI.2.2.2.2.2.2.1), (I_gu_fr (σ := σ) rfl rfl rfl rfl rfl rfl rfl rfl rfl rfl hI.2.2.2.2.2.2.2.1), (I_sh_fr (σ := σ) rfl rfl rfl rfl rfl hI.2.2.2.2.2.2.2.2.1), (I_wa_fr (σ := σ) rfl rfl rfl rfl hI.2.2.2.2.2.2.2.2.2.1), (I_la_fr (σ := σ) rfl rfl rfl rfl rfl rfl rfl rfl rfl rfl rfl hI.2.2.2.2.2.2.2.2.2.2.1), (I_he_fr (σ := σ) rfl hI.2.2.2.2.2.2.2.2.2.2.2)⟩⟩)
    · replace m5 := bI_nz m5
      refine ⟨rfl, ?_⟩
      refine m_isSum ?_
      refine ⟨fun m12 => ?_, fun m12 => ?_⟩
      · replace m12 := bI_z m12
        refine ⟨rfl, trivial, ?_⟩
        first
        | (exfalso; (first | omega | (simp only [Int32.reduceToInt] at h7a h7b m5 m12 ⊢; omega)); done)
        | (have z5 : (σ 10 0).toInt < 100 := by (first | omega | (simp only [Int32.reduceToInt] at h7a h7b m5 m12 ⊢; omega))
           have zl : (0 ≤ (2 : Int32).toInt ∧ (2 : Int32).toInt ≤ 5) ∧ (0 ≤ v.toInt ∧ v.toInt < (σ 3 0).toInt) ∧ (0 ≤ a.toInt ∧ a.toInt ≤ (σ 1 0).toInt) ∧ (0 ≤ (s : Int32).toInt ∧ (s : Int32).toInt ≤ 100000) := ⟨⟨by decide, by decide⟩, by (first | omega | (simp only [Int32.reduceToInt] at h7a h7b m5 m12 ⊢; omega)), by (first | omega | (simp only [Int32.reduceToInt] at h7a h7b m5 m12 ⊢; omega)), by (first | omega | (simp only [Int32.reduceToInt] at h7a h7b m5 m12 ⊢; omega))⟩
           subst hτ
           exact ⟨⟨σ 10 0, rfl, vI_ l0⟩, ⟨(I_tr_fr (σ := σ) rfl rfl rfl rfl rfl rfl rfl rfl hI.1), (I_vo_fr (σ := σ) rfl rfl rfl rfl rfl rfl rfl rfl rfl rfl rfl rfl rfl rfl rfl hI.2.1), (c_line_li (σ := σ) rfl rfl rfl rfl rfl rfl rfl rfl rfl rfl rfl rfl rfl rfl rfl rfl rfl rfl rfl rfl rfl hI.2.2.1 z5 t0 rfl ⟨zl.1, zl.2.1, zl.2.2.1, ⟨t4, Int.le_refl _⟩, zl.2.2.2, Or.inl ⟨Or.inr (Or.inl rfl), rfl, rfl⟩, fun z => absurd z (by decide)⟩), (c_line_or (σ := σ) rfl rfl rfl hI.2.2.2.1 l6 z5), (I_ta_fr (σ := σ) rfl rfl rfl rfl hI.2.2.2.2.1), (I_ba_fr (σ := σ) rfl rfl rfl rfl rfl rfl rfl rfl rfl rfl rfl rfl rfl rfl rfl rfl rfl rfl rfl rfl rfl hI.2.2.2.2.2.1), (I_ex_fr (σ := σ) rfl rfl rfl rfl rfl rfl rfl rfl rfl rfl rfl hI.2.2.2.2.2.2.1), (I_gu_fr (σ := σ) rfl rfl rfl rfl rfl rfl rfl rfl rfl rfl hI.2.2.2.2.2.2.2.1), (I_sh_fr (σ := σ) rfl rfl rfl rfl rfl hI.2.2.2.2.2.2.2.2.1), (I_wa_fr (σ := σ) rfl rfl rfl rfl hI.2.2.2.2.2.2.2.2.2.1), (I_la_fr (σ := σ) rfl rfl rfl rfl rfl rfl rfl rfl rfl rfl rfl hI.2.2.2.2.2.2.2.2.2.2.1), (I_he_fr (σ := σ) rfl hI.2.2.2.2.2.2.2.2.2.2.2)⟩⟩)
      · replace m12 := bI_nz m12
        refine ⟨rfl, rfl, ?_⟩
        refine m_isPast ?_
        refine ⟨fun m20 => ?_, fun m20 => ?_⟩
        · replace m20 := bI_z m20
          refine ⟨rfl, trivial, ?_⟩
          first
          | (exfalso; (first | omega | (simp only [Int32.reduceToInt] at h7a h7b m5 m12 m20 ⊢; omega)); done)
          | (have z5 : (σ 10 0).toInt < 100 := by (first | omega | (simp only [Int32.reduceToInt] at h7a h7b m5 m12 m20 ⊢; omega))
             have zl : (0 ≤ (2 : Int32).toInt ∧ (2 : Int32).toInt ≤ 5) ∧ (0 ≤ v.toInt ∧ v.toInt < (σ 3 0).toInt) ∧ (0 ≤ a.toInt ∧ a.toInt ≤ (σ 1 0).toInt) ∧ (0 ≤ (s : Int32).toInt ∧ (s : Int32).toInt ≤ 100000) := ⟨⟨by decide, by decide⟩, by (first | omega | (simp only [Int32.reduceToInt] at h7a h7b m5 m12 m20 ⊢; omega)), by (first | omega | (simp only [Int32.reduceToInt] at h7a h7b m5 m12 m20 ⊢; omega)), by (first | omega | (simp only [Int32.reduceToInt] at h7a h7b m5 m12 m20 ⊢; omega))⟩
             subst hτ
             exact ⟨⟨σ 10 0, rfl, vI_ l0⟩, ⟨(I_tr_fr (σ := σ) rfl rfl rfl rfl rfl rfl rfl rfl hI.1), (I_vo_fr (σ := σ) rfl rfl rfl rfl rfl rfl rfl rfl rfl rfl rfl rfl rfl rfl rfl hI.2.1), (c_line_li (σ := σ) rfl rfl rfl rfl rfl rfl rfl rfl rfl rfl rfl rfl rfl rfl rfl rfl rfl rfl rfl rfl rfl hI.2.2.1 z5 t0 rfl ⟨zl.1, zl.2.1, zl.2.2.1, ⟨t4, Int.le_refl _⟩, zl.2.2.2, Or.inl ⟨Or.inr (Or.inl rfl), rfl, rfl⟩, fun z => absurd z (by decide)⟩), (c_line_or (σ := σ) rfl rfl rfl hI.2.2.2.1 l6 z5), (I_ta_fr (σ := σ) rfl rfl rfl rfl hI.2.2.2.2.1), (I_ba_fr (σ := σ) rfl rfl rfl rfl rfl rfl rfl rfl rfl rfl rfl rfl rfl rfl rfl rfl rfl rfl rfl rfl rfl hI.2.2.2.2.2.1), (I_ex_fr (σ := σ) rfl rfl rfl rfl rfl rfl rfl rfl rfl rfl rfl hI.2.2.2.2.2.2.1), (I_gu_fr (σ := σ) rfl rfl rfl rfl rfl rfl rfl rfl rfl rfl hI.2.2.2.2.2.2.2.1), (I_sh_fr (σ := σ) rfl rfl rfl rfl rfl hI.2.2.2.2.2.2.2.2.1), (I_wa_fr (σ := σ) rfl rfl rfl rfl hI.2.2.2.2.2.2.2.2.2.1), (I_la_fr (σ := σ) rfl rfl rfl rfl rfl rfl rfl rfl rfl rfl rfl hI.2.2.2.2.2.2.2.2.2.2.1), (I_he_fr (σ := σ) rfl hI.2.2.2.2.2.2.2.2.2.2.2)⟩⟩)
        · replace m20 := bI_nz m20
          refine ⟨rfl, rfl, ?_⟩
          refine m_comes (by omega) (by omega) (fun hm29a => ?_) (fun hm29a => ?_)
          · refine ⟨rfl, trivial, ?_⟩
            first
            | (exfalso; (first | omega | (simp only [Int32.reduceToInt] at h7a h7b m5 m12 m20 hm29a ⊢; omega)); done)
            | (have z5 : (σ 10 0).toInt < 100 := by (first | omega | (simp only [Int32.reduceToInt] at h7a h7b m5 m12 m20 hm29a ⊢; omega))
               have zl : (0 ≤ (2 : Int32).toInt ∧ (2 : Int32).toInt ≤ 5) ∧ (0 ≤ v.toInt ∧ v.toInt < (σ 3 0).toInt) ∧ (0 ≤ a.toInt ∧ a.toInt ≤ (σ 1 0).toInt) ∧ (0 ≤ (s : Int32).toInt ∧ (s : Int32).toInt ≤ 100000) := ⟨⟨by decide, by decide⟩, by (first | omega | (simp only [Int32.reduceToInt] at h7a h7b m5 m12 m20 hm29a ⊢; omega)), by (first | omega | (simp only [Int32.reduceToInt] at h7a h7b m5 m12 m20 hm29a ⊢; omega)), by (first | omega | (simp only [Int32.reduceToInt] at h7a h7b m5 m12 m20 hm29a ⊢; omega))⟩
               subst hτ
               exact ⟨⟨σ 10 0, rfl, vI_ l0⟩, ⟨(I_tr_fr (σ := σ) rfl rfl rfl rfl rfl rfl rfl rfl hI.1), (I_vo_fr (σ := σ) rfl rfl rfl rfl rfl rfl rfl rfl rfl rfl rfl rfl rfl rfl rfl hI.2.1), (c_line_li (σ := σ) rfl rfl rfl rfl rfl rfl rfl rfl rfl rfl rfl rfl rfl rfl rfl rfl rfl rfl rfl rfl rfl hI.2.2.1 z5 t0 rfl ⟨zl.1, zl.2.1, zl.2.2.1, ⟨t4, Int.le_refl _⟩, zl.2.2.2, Or.inl ⟨Or.inr (Or.inl rfl), rfl, rfl⟩, fun z => absurd z (by decide)⟩), (c_line_or (σ := σ) rfl rfl rfl hI.2.2.2.1 l6 z5), (I_ta_fr (σ := σ) rfl rfl rfl rfl hI.2.2.2.2.1), (I_ba_fr (σ := σ) rfl rfl rfl rfl rfl rfl rfl rfl rfl rfl rfl rfl rfl rfl rfl rfl rfl rfl rfl rfl rfl hI.2.2.2.2.2.1), (I_ex_fr (σ := σ) rfl rfl rfl rfl rfl rfl rfl rfl rfl rfl rfl hI.2.2.2.2.2.2.1), (I_gu_fr (σ := σ) rfl rfl rfl rfl rfl rfl rfl rfl rfl rfl hI.2.2.2.2.2.2.2.1), (I_sh_fr (σ := σ) rfl rfl rfl rfl rfl hI.2.2.2.2.2.2.2.2.1), (I_wa_fr (σ := σ) rfl rfl rfl rfl hI.2.2.2.2.2.2.2.2.2.1), (I_la_fr (σ := σ) rfl rfl rfl rfl rfl rfl rfl rfl rfl rfl rfl hI.2.2.2.2.2.2.2.2.2.2.1), (I_he_fr (σ := σ) rfl hI.2.2.2.2.2.2.2.2.2.2.2)⟩⟩)
          · refine ⟨rfl, trivial, ?_⟩
            first
            | (exfalso; (first | omega | (simp only [Int32.reduceToInt] at h7a h7b m5 m12 m20 hm29a ⊢; omega)); done)
            | (have z5 : (σ 10 0).toInt < 100 := by (first | omega | (simp only [Int32.reduceToInt] at h7a h7b m5 m12 m20 hm29a ⊢; omega))
               have zl : (0 ≤ (2 : Int32).toInt ∧ (2 : Int32).toInt ≤ 5) ∧ (0 ≤ v.toInt ∧ v.toInt < (σ 3 0).toInt) ∧ (0 ≤ a.toInt ∧ a.toInt ≤ (σ 1 0).toInt) ∧ (0 ≤ (s : Int32).toInt ∧ (s : Int32).toInt ≤ 100000) := ⟨⟨by decide, by decide⟩, by (first | omega | (simp only [Int32.reduceToInt] at h7a h7b m5 m12 m20 hm29a ⊢; omega)), by (first | omega | (simp only [Int32.reduceToInt] at h7a h7b m5 m12 m20 hm29a ⊢; omega)), by (first | omega | (simp only [Int32.reduceToInt] at h7a h7b m5 m12 m20 hm29a ⊢; omega))⟩
               subst hτ
               exact ⟨⟨σ 10 0, rfl, vI_ l0⟩, ⟨(I_tr_fr (σ := σ) rfl rfl rfl rfl rfl rfl rfl rfl hI.1), (I_vo_fr (σ := σ) rfl rfl rfl rfl rfl rfl rfl rfl rfl rfl rfl rfl rfl rfl rfl hI.2.1), (c_line_li (σ := σ) rfl rfl rfl rfl rfl rfl rfl rfl rfl rfl rfl rfl rfl rfl rfl rfl rfl rfl rfl rfl rfl hI.2.2.1 z5 t0 rfl ⟨zl.1, zl.2.1, zl.2.2.1, ⟨t4, Int.le_refl _⟩, zl.2.2.2, Or.inl ⟨Or.inr (Or.inl rfl), rfl, rfl⟩, fun z => absurd z (by decide)⟩), (c_line_or (σ := σ) rfl rfl rfl hI.2.2.2.1 l6 z5), (I_ta_fr (σ := σ) rfl rfl rfl rfl hI.2.2.2.2.1), (I_ba_fr (σ := σ) rfl rfl rfl rfl rfl rfl rfl rfl rfl rfl rfl rfl rfl rfl rfl rfl rfl rfl rfl rfl rfl hI.2.2.2.2.2.1), (I_ex_fr (σ := σ) rfl rfl rfl rfl rfl rfl rfl rfl rfl rfl rfl hI.2.2.2.2.2.2.1), (I_gu_fr (σ := σ) rfl rfl rfl rfl rfl rfl rfl rfl rfl rfl hI.2.2.2.2.2.2.2.1), (I_sh_fr (σ := σ) rfl rfl rfl rfl rfl hI.2.2.2.2.2.2.2.2.1), (I_wa_fr (σ := σ) rfl rfl rfl rfl hI.2.2.2.2.2.2.2.2.2.1), (I_la_fr (σ := σ) rfl rfl rfl rfl rfl rfl rfl rfl rfl rfl rfl hI.2.2.2.2.2.2.2.2.2.2.1), (I_he_fr (σ := σ) rfl hI.2.2.2.2.2.2.2.2.2.2.2)⟩⟩)
theorem op_split {σ : Mm} {v p s a : Int32} (hI : Inv σ) : Call 120 k_X11_split [.ref 0, .int v, .int p, .int s, .int a] σ (fun r τ => Call 120 k_X12_split [.ref 88, .int v, .int p, .int s, .int a] τ (fun r' τ' => (∃ x : Int32, r = some (.int x) ∧ r' = some (.int x)) ∧ Inv τ')) := by
  obtain ⟨⟨t0, t1, t2, t3⟩, ⟨t4, t5⟩, ⟨t6, t7⟩, ⟨t8, t9⟩, t10⟩ := id (hI.1)
  obtain ⟨⟨v0, v1, v2, v3, v4, v5, v6⟩, ⟨v7, v8⟩, v9⟩ := id (hI.2.1)
  obtain ⟨⟨l0, l1, l2, l3, l4, l5⟩, ⟨l6, l7⟩, l8, l9⟩ := id (hI.2.2.1)
  obtain o0 := id (hI.2.2.2.1)
  have qtoday : (σ 88 0).toInt = (σ 1 0).toInt := by rw [t0]
  have qshops : (σ 88 2).toInt = (σ 1 2).toInt := by rw [t2]
  have qvouchers : (σ 88 4).toInt = (σ 3 0).toInt := by rw [v0]
  have qlines : (σ 88 11).toInt = (σ 10 0).toInt := by rw [l0]
  have hr : ∀ i : Nat, i < (σ 10 0).toInt.toNat → 0 ≤ (σ 18 i).toInt ∧ (σ 18 i).toInt < 100 := fun i hi => by
    rw [o0]
    have := ordA_rng (ab := σ 13) (n := (σ 10 0).toInt.toNat) (by omega) i hi
    omega
  refine Call_st 200 fun X hX => ?_
  refine ⟨rfl, rfl, ?_⟩
  refine s_vhas ?_
  refine ⟨fun c8 => ?_, fun c8 => ?_⟩
  · replace c8 := bI_z c8
    refine ⟨rfl, trivial, ?_⟩
    refine Call_st 200 fun Y hY => ?_
    refine ⟨rfl, rfl, ?_⟩
    refine m_isVoucher (by omega) ?_
    refine ⟨fun m5 => ?_, fun m5 => ?_⟩
    · replace m5 := bI_z m5
      refine ⟨fun _ => ?_, fun z => absurd (by decide) z⟩
      refine ⟨rfl, trivial, ?_⟩
      first | exact ⟨⟨_, rfl, rfl⟩, hI⟩ | (exfalso; (first | omega | (simp only [Int32.reduceToInt] at c8 m5 ⊢; omega)))
    · replace m5 := bI_nz m5
      refine ⟨rfl, rfl, ?_⟩
      refine m_isVoucher (by omega) ?_
      refine ⟨fun m13 => ?_, fun m13 => ?_⟩
      · replace m13 := bI_z m13
        refine ⟨fun _ => ?_, fun z => absurd (by decide) z⟩
        refine ⟨rfl, trivial, ?_⟩
        first | exact ⟨⟨_, rfl, rfl⟩, hI⟩ | (exfalso; (first | omega | (simp only [Int32.reduceToInt] at c8 m5 m13 ⊢; omega)))
      · replace m13 := bI_nz m13
        refine ⟨fun m18 => ?_, fun m18 => ?_⟩
        · refine ⟨fun _ => ?_, fun z => absurd (by decide) z⟩
          refine ⟨rfl, trivial, ?_⟩
          first | exact ⟨⟨_, rfl, rfl⟩, hI⟩ | (exfalso; (first | omega | (simp only [Int32.reduceToInt] at c8 m5 m13 m18 ⊢; omega)))
        · refine ⟨rfl, ?_⟩
          refine m_isSum ?_
          refine ⟨fun m25 => ?_, fun m25 => ?_⟩
          · replace m25 := bI_z m25
            refine ⟨fun _ => ?_, fun z => absurd (by decide) z⟩
            refine ⟨rfl, trivial, ?_⟩
            first | exact ⟨⟨_, rfl, rfl⟩, hI⟩ | (exfalso; (first | omega | (simp only [Int32.reduceToInt] at c8 m5 m13 m18 m25 ⊢; omega)))
          · replace m25 := bI_nz m25
            refine ⟨rfl, rfl, ?_⟩
            refine m_isPast ?_
            refine ⟨fun m34 => ?_, fun m34 => ?_⟩
            · replace m34 := bI_z m34
              refine ⟨fun _ => ?_, fun z => absurd (by decide) z⟩
              refine ⟨rfl, trivial, ?_⟩
              first | exact ⟨⟨_, rfl, rfl⟩, hI⟩ | (exfalso; (first | omega | (simp only [Int32.reduceToInt] at c8 m5 m13 m18 m25 m34 ⊢; omega)))
            · replace m34 := bI_nz m34
              refine ⟨fun z => absurd z (by decide), fun _ => ?_⟩
              refine ⟨rfl, rfl, ?_⟩
              refine m_comes (by omega) (by omega) (fun hm56a => ?_) (fun hm56a => ?_)
              · refine ⟨rfl, trivial, ?_⟩
                first | exact ⟨⟨_, rfl, rfl⟩, hI⟩ | (exfalso; (first | omega | (simp only [Int32.reduceToInt] at c8 m5 m13 m18 m25 m34 hm56a ⊢; omega)))
              · refine ⟨rfl, trivial, ?_⟩
                first | exact ⟨⟨_, rfl, rfl⟩, hI⟩ | (exfalso; (first | omega | (simp only [Int32.reduceToInt] at c8 m5 m13 m18 m25 m34 hm56a ⊢; omega)))
  · replace c8 := bI_nz c8
    refine ⟨fun c13 => ?_, fun c13 => ?_⟩
    · refine ⟨rfl, trivial, ?_⟩
      refine Call_st 200 fun Y hY => ?_
      refine ⟨rfl, rfl, ?_⟩
      refine m_isVoucher (by omega) ?_
      refine ⟨fun m5 => ?_, fun m5 => ?_⟩
      · replace m5 := bI_z m5
        refine ⟨fun _ => ?_, fun z => absurd (by decide) z⟩
        refine ⟨rfl, trivial, ?_⟩
        first | exact ⟨⟨_, rfl, rfl⟩, hI⟩ | (exfalso; (first | omega | (simp only [Int32.reduceToInt] at c8 c13 m5 ⊢; omega)))
      · replace m5 := bI_nz m5
        refine ⟨rfl, rfl, ?_⟩
        refine m_isVoucher (by omega) ?_
        refine ⟨fun m13 => ?_, fun m13 => ?_⟩
        · replace m13 := bI_z m13
          refine ⟨fun _ => ?_, fun z => absurd (by decide) z⟩
          refine ⟨rfl, trivial, ?_⟩
          first | exact ⟨⟨_, rfl, rfl⟩, hI⟩ | (exfalso; (first | omega | (simp only [Int32.reduceToInt] at c8 c13 m5 m13 ⊢; omega)))
        · replace m13 := bI_nz m13
          refine ⟨fun m18 => ?_, fun m18 => ?_⟩
          · refine ⟨fun _ => ?_, fun z => absurd (by decide) z⟩
            refine ⟨rfl, trivial, ?_⟩
            first | exact ⟨⟨_, rfl, rfl⟩, hI⟩ | (exfalso; (first | omega | (simp only [Int32.reduceToInt] at c8 c13 m5 m13 m18 ⊢; omega)))
          · refine ⟨rfl, ?_⟩
            refine m_isSum ?_
            refine ⟨fun m25 => ?_, fun m25 => ?_⟩
            · replace m25 := bI_z m25
              refine ⟨fun _ => ?_, fun z => absurd (by decide) z⟩
              refine ⟨rfl, trivial, ?_⟩
              first | exact ⟨⟨_, rfl, rfl⟩, hI⟩ | (exfalso; (first | omega | (simp only [Int32.reduceToInt] at c8 c13 m5 m13 m18 m25 ⊢; omega)))
            · replace m25 := bI_nz m25
              refine ⟨rfl, rfl, ?_⟩
              refine m_isPast ?_
              refine ⟨fun m34 => ?_, fun m34 => ?_⟩
              · replace m34 := bI_z m34
                refine ⟨fun _ => ?_, fun z => absurd (by decide) z⟩
                refine ⟨rfl, trivial, ?_⟩
                first | exact ⟨⟨_, rfl, rfl⟩, hI⟩ | (exfalso; (first | omega | (simp only [Int32.reduceToInt] at c8 c13 m5 m13 m18 m25 m34 ⊢; omega)))
              · replace m34 := bI_nz m34
                refine ⟨fun z => absurd z (by decide), fun _ => ?_⟩
                refine ⟨rfl, rfl, ?_⟩
                refine m_comes (by omega) (by omega) (fun hm56a => ?_) (fun hm56a => ?_)
                · refine ⟨rfl, trivial, ?_⟩
                  first | exact ⟨⟨_, rfl, rfl⟩, hI⟩ | (exfalso; (first | omega | (simp only [Int32.reduceToInt] at c8 c13 m5 m13 m18 m25 m34 hm56a ⊢; omega)))
                · refine ⟨rfl, trivial, ?_⟩
                  first | exact ⟨⟨_, rfl, rfl⟩, hI⟩ | (exfalso; (first | omega | (simp only [Int32.reduceToInt] at c8 c13 m5 m13 m18 m25 m34 hm56a ⊢; omega)))
    · refine ⟨rfl, rfl, ?_⟩
      refine s_tellSum (by omega) hr (fun h26a => ?_) (fun h26a h26b => ?_) (fun h26a h26b => ?_)
      · refine ⟨rfl, trivial, ?_⟩
        refine Call_st 200 fun Y hY => ?_
        refine ⟨rfl, rfl, ?_⟩
        refine m_isVoucher (by omega) ?_
        refine ⟨fun m5 => ?_, fun m5 => ?_⟩
        · replace m5 := bI_z m5
          refine ⟨fun _ => ?_, fun z => absurd (by decide) z⟩
          refine ⟨rfl, trivial, ?_⟩
          first | exact ⟨⟨_, rfl, rfl⟩, hI⟩ | (exfalso; (first | omega | (simp only [Int32.reduceToInt] at c8 c13 h26a m5 ⊢; omega)))
        · replace m5 := bI_nz m5
          refine ⟨rfl, rfl, ?_⟩
          refine m_isVoucher (by omega) ?_
          refine ⟨fun m13 => ?_, fun m13 => ?_⟩
          · replace m13 := bI_z m13
            refine ⟨fun _ => ?_, fun z => absurd (by decide) z⟩
            refine ⟨rfl, trivial, ?_⟩
            first | exact ⟨⟨_, rfl, rfl⟩, hI⟩ | (exfalso; (first | omega | (simp only [Int32.reduceToInt] at c8 c13 h26a m5 m13 ⊢; omega)))
          · replace m13 := bI_nz m13
            refine ⟨fun m18 => ?_, fun m18 => ?_⟩
            · refine ⟨fun _ => ?_, fun z => absurd (by decide) z⟩
              refine ⟨rfl, trivial, ?_⟩
              first | exact ⟨⟨_, rfl, rfl⟩, hI⟩ | (exfalso; (first | omega | (simp only [Int32.reduceToInt] at c8 c13 h26a m5 m13 m18 ⊢; omega)))
            · refine ⟨rfl, ?_⟩
              refine m_isSum ?_
              refine ⟨fun m25 => ?_, fun m25 => ?_⟩
              · replace m25 := bI_z m25
                refine ⟨fun _ => ?_, fun z => absurd (by decide) z⟩
                refine ⟨rfl, trivial, ?_⟩
                first | exact ⟨⟨_, rfl, rfl⟩, hI⟩ | (exfalso; (first | omega | (simp only [Int32.reduceToInt] at c8 c13 h26a m5 m13 m18 m25 ⊢; omega)))
              · replace m25 := bI_nz m25
                refine ⟨rfl, rfl, ?_⟩
                refine m_isPast ?_
                refine ⟨fun m34 => ?_, fun m34 => ?_⟩
                · replace m34 := bI_z m34
                  refine ⟨fun _ => ?_, fun z => absurd (by decide) z⟩
                  refine ⟨rfl, trivial, ?_⟩
                  first | exact ⟨⟨_, rfl, rfl⟩, hI⟩ | (exfalso; (first | omega | (simp only [Int32.reduceToInt] at c8 c13 h26a m5 m13 m18 m25 m34 ⊢; omega)))
                · replace m34 := bI_nz m34
                  refine ⟨fun z => absurd z (by decide), fun _ => ?_⟩
                  refine ⟨rfl, rfl, ?_⟩
                  refine m_comes (by omega) (by omega) (fun hm56a => ?_) (fun hm56a => ?_)
                  · refine ⟨rfl, trivial, ?_⟩
                    first | exact ⟨⟨_, rfl, rfl⟩, hI⟩ | (exfalso; (first | omega | (simp only [Int32.reduceToInt] at c8 c13 h26a m5 m13 m18 m25 m34 hm56a ⊢; omega)))
                  · refine ⟨rfl, trivial, ?_⟩
                    first | exact ⟨⟨_, rfl, rfl⟩, hI⟩ | (exfalso; (first | omega | (simp only [Int32.reduceToInt] at c8 c13 h26a m5 m13 m18 m25 m34 hm56a ⊢; omega)))
      · refine ⟨rfl, trivial, ?_⟩
        refine Call_st 200 fun Y hY => ?_
        refine ⟨rfl, rfl, ?_⟩
        refine m_isVoucher (by omega) ?_
        refine ⟨fun m5 => ?_, fun m5 => ?_⟩
        · replace m5 := bI_z m5
          refine ⟨fun _ => ?_, fun z => absurd (by decide) z⟩
          refine ⟨rfl, trivial, ?_⟩
          first | exact ⟨⟨_, rfl, rfl⟩, hI⟩ | (exfalso; (first | omega | (simp only [Int32.reduceToInt] at c8 c13 h26a h26b m5 ⊢; omega)))
        · replace m5 := bI_nz m5
          refine ⟨rfl, rfl, ?_⟩
          refine m_isVoucher (by omega) ?_
          refine ⟨fun m13 => ?_, fun m13 => ?_⟩
          · replace m13 := bI_z m13
            refine ⟨fun _ => ?_, fun z => absurd (by decide) z⟩
            refine ⟨rfl, trivial, ?_⟩
            first | exact ⟨⟨_, rfl, rfl⟩, hI⟩ | (exfalso; (first | omega | (simp only [Int32.reduceToInt] at c8 c13 h26a h26b m5 m13 ⊢; omega)))
          · replace m13 := bI_nz m13
            refine ⟨fun m18 => ?_, fun m18 => ?_⟩
            · refine ⟨fun _ => ?_, fun z => absurd (by decide) z⟩
              refine ⟨rfl, trivial, ?_⟩
              first | exact ⟨⟨_, rfl, rfl⟩, hI⟩ | (exfalso; (first | omega | (simp only [Int32.reduceToInt] at c8 c13 h26a h26b m5 m13 m18 ⊢; omega)))
            · refine ⟨rfl, ?_⟩
              refine m_isSum ?_
              refine ⟨fun m25 => ?_, fun m25 => ?_⟩
              · replace m25 := bI_z m25
                refine ⟨fun _ => ?_, fun z => absurd (by decide) z⟩
                refine ⟨rfl, trivial, ?_⟩
                first | exact ⟨⟨_, rfl, rfl⟩, hI⟩ | (exfalso; (first | omega | (simp only [Int32.reduceToInt] at c8 c13 h26a h26b m5 m13 m18 m25 ⊢; omega)))
              · replace m25 := bI_nz m25
                refine ⟨rfl, rfl, ?_⟩
                refine m_isPast ?_
                refine ⟨fun m34 => ?_, fun m34 => ?_⟩
                · replace m34 := bI_z m34
                  refine ⟨fun _ => ?_, fun z => absurd (by decide) z⟩
                  refine ⟨rfl, trivial, ?_⟩
                  first | exact ⟨⟨_, rfl, rfl⟩, hI⟩ | (exfalso; (first | omega | (simp only [Int32.reduceToInt] at c8 c13 h26a h26b m5 m13 m18 m25 m34 ⊢; omega)))
                · replace m34 := bI_nz m34
                  refine ⟨fun z => absurd z (by decide), fun _ => ?_⟩
                  refine ⟨rfl, rfl, ?_⟩
                  refine m_comes (by omega) (by omega) (fun hm56a => ?_) (fun hm56a => ?_)
                  · refine ⟨rfl, trivial, ?_⟩
                    first | exact ⟨⟨_, rfl, rfl⟩, hI⟩ | (exfalso; (first | omega | (simp only [Int32.reduceToInt] at c8 c13 h26a h26b m5 m13 m18 m25 m34 hm56a ⊢; omega)))
                  · refine ⟨rfl, trivial, ?_⟩
                    first | exact ⟨⟨_, rfl, rfl⟩, hI⟩ | (exfalso; (first | omega | (simp only [Int32.reduceToInt] at c8 c13 h26a h26b m5 m13 m18 m25 m34 hm56a ⊢; omega)))
      · refine ⟨rfl, trivial, ?_⟩
        refine nxt fun τ hτ => ?_
        have e88 : τ 88 = σ 88 := by rw [hτ]; rfl
        have qτtoday : (τ 88 0).toInt = (σ 1 0).toInt := by rw [e88, t0]
        have qτshops : (τ 88 2).toInt = (σ 1 2).toInt := by rw [e88, t2]
        have qτvouchers : (τ 88 4).toInt = (σ 3 0).toInt := by rw [e88, v0]
        have qτlines : (τ 88 11).toInt = (σ 10 0).toInt := by rw [e88, l0]
        refine Call_st 200 fun Y hY => ?_
        refine ⟨rfl, rfl, ?_⟩
        refine m_isVoucher (by omega) ?_
        refine ⟨fun m5 => ?_, fun m5 => ?_⟩
        · replace m5 := bI_z m5
          refine ⟨fun _ => ?_, fun z => absurd (by decide) z⟩
          refine ⟨rfl, trivial, ?_⟩
          first
          | (exfalso; (first | omega | (simp only [Int32.reduceToInt] at c8 c13 h26a h26b m5 ⊢; omega)); done)
          | (have z5 : (σ 10 0).toInt < 100 := by (first | omega | (simp only [Int32.reduceToInt] at c8 c13 h26a h26b m5 ⊢; omega))
             have zl : (0 ≤ (3 : Int32).toInt ∧ (3 : Int32).toInt ≤ 5) ∧ (0 ≤ v.toInt ∧ v.toInt < (σ 3 0).toInt) ∧ (0 ≤ a.toInt ∧ a.toInt ≤ (σ 1 0).toInt) ∧ (0 ≤ (s : Int32).toInt ∧ (s : Int32).toInt ≤ 100000) := ⟨⟨by decide, by decide⟩, by (first | omega | (simp only [Int32.reduceToInt] at c8 c13 h26a h26b m5 ⊢; omega)), by (first | omega | (simp only [Int32.reduceToInt] at c8 c13 h26a h26b m5 ⊢; omega)), by (first | omega | (simp only [Int32.reduceToInt] at c8 c13 h26a h26b m5 ⊢; omega))⟩
             have zp : 0 ≤ p.toInt ∧ p.toInt < (σ 3 0).toInt ∧ p.toInt ≠ v.toInt := by (first | omega | (simp only [Int32.reduceToInt] at c8 c13 h26a h26b m5 ⊢; omega))
             subst hτ
             exact ⟨⟨σ 10 0, rfl, vI_ l0⟩, ⟨(I_tr_fr (σ := σ) rfl rfl rfl rfl rfl rfl rfl rfl hI.1), (I_vo_fr (σ := σ) rfl rfl rfl rfl rfl rfl rfl rfl rfl rfl rfl rfl rfl rfl rfl hI.2.1), (c_line_li (σ := σ) rfl rfl rfl rfl rfl rfl rfl rfl rfl rfl rfl rfl rfl rfl rfl rfl rfl rfl rfl rfl rfl hI.2.2.1 z5 t0 rfl ⟨zl.1, zl.2.1, zl.2.2.1, ⟨t4, Int.le_refl _⟩, zl.2.2.2, Or.inr (Or.inr ⟨Or.inl rfl, rfl, zp.1, zp.2.1, zp.2.2⟩), fun z => absurd z (by decide)⟩), (c_line_or (σ := σ) rfl rfl rfl hI.2.2.2.1 l6 z5), (I_ta_fr (σ := σ) rfl rfl rfl rfl hI.2.2.2.2.1), (I_ba_fr (σ := σ) rfl rfl rfl rfl rfl rfl rfl rfl rfl rfl rfl rfl rfl rfl rfl rfl rfl rfl rfl rfl rfl hI.2.2.2.2.2.1), (I_ex_fr (σ := σ) rfl rfl rfl rfl rfl rfl rfl rfl rfl rfl rfl hI.2.2.2.2.2.2.1), (I_gu_fr (σ := σ) rfl rfl rfl rfl rfl rfl rfl rfl rfl rfl hI.2.2.2.2.2.2.2.1), (I_sh_fr (σ := σ) rfl rfl rfl rfl rfl hI.2.2.2.2.2.2.2.2.1), (I_wa_fr (σ := σ) rfl rfl rfl rfl hI.2.2.2.2.2.2.2.2.2.1), (I_la_fr (σ := σ) rfl rfl rfl rfl rfl rfl rfl rfl rfl rfl rfl hI.2.2.2.2.2.2.2.2.2.2.1), (I_he_fr (σ := σ) rfl hI.2.2.2.2.2.2.2.2.2.2.2)⟩⟩)
        · replace m5 := bI_nz m5
          refine ⟨rfl, rfl, ?_⟩
          refine m_isVoucher (by omega) ?_
          refine ⟨fun m13 => ?_, fun m13 => ?_⟩
          · replace m13 := bI_z m13
            refine ⟨fun _ => ?_, fun z => absurd (by decide) z⟩
            refine ⟨rfl, trivial, ?_⟩
            first
            | (exfalso; (first | omega | (simp only [Int32.reduceToInt] at c8 c13 h26a h26b m5 m13 ⊢; omega)); done)
            | (have z5 : (σ 10 0).toInt < 100 := by (first | omega | (simp only [Int32.reduceToInt] at c8 c13 h26a h26b m5 m13 ⊢; omega))
               have zl : (0 ≤ (3 : Int32).toInt ∧ (3 : Int32).toInt ≤ 5) ∧ (0 ≤ v.toInt ∧ v.toInt < (σ 3 0).toInt) ∧ (0 ≤ a.toInt ∧ a.toInt ≤ (σ 1 0).toInt) ∧ (0 ≤ (s : Int32).toInt ∧ (s : Int32).toInt ≤ 100000) := ⟨⟨by decide, by decide⟩, by (first | omega | (simp only [Int32.reduceToInt] at c8 c13 h26a h26b m5 m13 ⊢; omega)), by (first | omega | (simp only [Int32.reduceToInt] at c8 c13 h26a h26b m5 m13 ⊢; omega)), by (first | omega | (simp only [Int32.reduceToInt] at c8 c13 h26a h26b m5 m13 ⊢; omega))⟩
               have zp : 0 ≤ p.toInt ∧ p.toInt < (σ 3 0).toInt ∧ p.toInt ≠ v.toInt := by (first | omega | (simp only [Int32.reduceToInt] at c8 c13 h26a h26b m5 m13 ⊢; omega))
               subst hτ
               exact ⟨⟨σ 10 0, rfl, vI_ l0⟩, ⟨(I_tr_fr (σ := σ) rfl rfl rfl rfl rfl rfl rfl rfl hI.1), (I_vo_fr (σ := σ) rfl rfl rfl rfl rfl rfl rfl rfl rfl rfl rfl rfl rfl rfl rfl hI.2.1), (c_line_li (σ := σ) rfl rfl rfl rfl rfl rfl rfl rfl rfl rfl rfl rfl rfl rfl rfl rfl rfl rfl rfl rfl rfl hI.2.2.1 z5 t0 rfl ⟨zl.1, zl.2.1, zl.2.2.1, ⟨t4, Int.le_refl _⟩, zl.2.2.2, Or.inr (Or.inr ⟨Or.inl rfl, rfl, zp.1, zp.2.1, zp.2.2⟩), fun z => absurd z (by decide)⟩), (c_line_or (σ := σ) rfl rfl rfl hI.2.2.2.1 l6 z5), (I_ta_fr (σ := σ) rfl rfl rfl rfl hI.2.2.2.2.1), (I_ba_fr (σ := σ) rfl rfl rfl rfl rfl rfl rfl rfl rfl rfl rfl rfl rfl rfl rfl rfl rfl rfl rfl rfl rfl hI.2.2.2.2.2.1), (I_ex_fr (σ := σ) rfl rfl rfl rfl rfl rfl rfl rfl rfl rfl rfl hI.2.2.2.2.2.2.1), (I_gu_fr (σ := σ) rfl rfl rfl rfl rfl rfl rfl rfl rfl rfl hI.2.2.2.2.2.2.2.1), (I_sh_fr (σ := σ) rfl rfl rfl rfl rfl hI.2.2.2.2.2.2.2.2.1), (I_wa_fr (σ := σ) rfl rfl rfl rfl hI.2.2.2.2.2.2.2.2.2.1), (I_la_fr (σ := σ) rfl rfl rfl rfl rfl rfl rfl rfl rfl rfl rfl hI.2.2.2.2.2.2.2.2.2.2.1), (I_he_fr (σ := σ) rfl hI.2.2.2.2.2.2.2.2.2.2.2)⟩⟩)
          · replace m13 := bI_nz m13
            refine ⟨fun m18 => ?_, fun m18 => ?_⟩
            · refine ⟨fun _ => ?_, fun z => absurd (by decide) z⟩
              refine ⟨rfl, trivial, ?_⟩
              first
              | (exfalso; (first | omega | (simp only [Int32.reduceToInt] at c8 c13 h26a h26b m5 m13 m18 ⊢; omega)); done)
              | (have z5 : (σ 10 0).toInt < 100 := by (first | omega | (simp only [Int32.reduceToInt] at c8 c13 h26a h26b m5 m13 m18 ⊢; omega))
                 have zl : (0 ≤ (3 : Int32).toInt ∧ (3 : Int32).toInt ≤ 5) ∧ (0 ≤ v.toInt ∧ v.toInt < (σ 3 0).toInt) ∧ (0 ≤ a.toInt ∧ a.toInt ≤ (σ 1 0).toInt) ∧ (0 ≤ (s : Int32).toInt ∧ (s : Int32).toInt ≤ 100000) := ⟨⟨by decide, by decide⟩, by (first | omega | (simp only [Int32.reduceToInt] at c8 c13 h26a h26b m5 m13 m18 ⊢; omega)), by (first | omega | (simp only [Int32.reduceToInt] at c8 c13 h26a h26b m5 m13 m18 ⊢; omega)), by (first | omega | (simp only [Int32.reduceToInt] at c8 c13 h26a h26b m5 m13 m18 ⊢; omega))⟩
                 have zp : 0 ≤ p.toInt ∧ p.toInt < (σ 3 0).toInt ∧ p.toInt ≠ v.toInt := by (first | omega | (simp only [Int32.reduceToInt] at c8 c13 h26a h26b m5 m13 m18 ⊢; omega))
                 subst hτ
                 exact ⟨⟨σ 10 0, rfl, vI_ l0⟩, ⟨(I_tr_fr (σ := σ) rfl rfl rfl rfl rfl rfl rfl rfl hI.1), (I_vo_fr (σ := σ) rfl rfl rfl rfl rfl rfl rfl rfl rfl rfl rfl rfl rfl rfl rfl hI.2.1), (c_line_li (σ := σ) rfl rfl rfl rfl rfl rfl rfl rfl rfl rfl rfl rfl rfl rfl rfl rfl rfl rfl rfl rfl rfl hI.2.2.1 z5 t0 rfl ⟨zl.1, zl.2.1, zl.2.2.1, ⟨t4, Int.le_refl _⟩, zl.2.2.2, Or.inr (Or.inr ⟨Or.inl rfl, rfl, zp.1, zp.2.1, zp.2.2⟩), fun z => absurd z (by decide)⟩), (c_line_or (σ := σ) rfl rfl rfl hI.2.2.2.1 l6 z5), (I_ta_fr (σ := σ) rfl rfl rfl rfl hI.2.2.2.2.1), (I_ba_fr (σ := σ) rfl rfl rfl rfl rfl rfl rfl rfl rfl rfl rfl rfl rfl rfl rfl rfl rfl rfl rfl rfl rfl hI.2.2.2.2.2.1), (I_ex_fr (σ := σ) rfl rfl rfl rfl rfl rfl rfl rfl rfl rfl rfl hI.2.2.2.2.2.2.1), (I_gu_fr (σ := σ) rfl rfl rfl rfl rfl rfl rfl rfl rfl rfl hI.2.2.2.2.2.2.2.1), (I_sh_fr (σ := σ) rfl rfl rfl rfl rfl hI.2.2.2.2.2.2.2.2.1), (I_wa_fr (σ := σ) rfl rfl rfl rfl hI.2.2.2.2.2.2.2.2.2.1), (I_la_fr (σ := σ) rfl rfl rfl rfl rfl rfl rfl rfl rfl rfl rfl hI.2.2.2.2.2.2.2.2.2.2.1), (I_he_fr (σ := σ) rfl hI.2.2.2.2.2.2.2.2.2.2.2)⟩⟩)
            · refine ⟨rfl, ?_⟩
              refine m_isSum ?_
              refine ⟨fun m25 => ?_, fun m25 => ?_⟩
              · replace m25 := bI_z m25
                refine ⟨fun _ => ?_, fun z => absurd (by decide) z⟩
                refine ⟨rfl, trivial, ?_⟩
                first
                | (exfalso; (first | omega | (simp only [Int32.reduceToInt] at c8 c13 h26a h26b m5 m13 m18 m25 ⊢; omega)); done)
                | (have z5 : (σ 10 0).toInt < 100 := by (first | omega | (simp only [Int32.reduceToInt] at c8 c13 h26a h26b m5 m13 m18 m25 ⊢; omega))
                   have zl : (0 ≤ (3 : Int32).toInt ∧ (3 : Int32).toInt ≤ 5) ∧ (0 ≤ v.toInt ∧ v.toInt < (σ 3 0).toInt) ∧ (0 ≤ a.toInt ∧ a.toInt ≤ (σ 1 0).toInt) ∧ (0 ≤ (s : Int32).toInt ∧ (s : Int32).toInt ≤ 100000) := ⟨⟨by decide, by decide⟩, by (first | omega | (simp only [Int32.reduceToInt] at c8 c13 h26a h26b m5 m13 m18 m25 ⊢; omega)), by (first | omega | (simp only [Int32.reduceToInt] at c8 c13 h26a h26b m5 m13 m18 m25 ⊢; omega)), by (first | omega | (simp only [Int32.reduceToInt] at c8 c13 h26a h26b m5 m13 m18 m25 ⊢; omega))⟩
                   have zp : 0 ≤ p.toInt ∧ p.toInt < (σ 3 0).toInt ∧ p.toInt ≠ v.toInt := by (first | omega | (simp only [Int32.reduceToInt] at c8 c13 h26a h26b m5 m13 m18 m25 ⊢; omega))
                   subst hτ
                   exact ⟨⟨σ 10 0, rfl, vI_ l0⟩, ⟨(I_tr_fr (σ := σ) rfl rfl rfl rfl rfl rfl rfl rfl hI.1), (I_vo_fr (σ := σ) rfl rfl rfl rfl rfl rfl rfl rfl rfl rfl rfl rfl rfl rfl rfl hI.2.1), (c_line_li (σ := σ) rfl rfl rfl rfl rfl rfl rfl rfl rfl rfl rfl rfl rfl rfl rfl rfl rfl rfl rfl rfl rfl hI.2.2.1 z5 t0 rfl ⟨zl.1, zl.2.1, zl.2.2.1, ⟨t4, Int.le_refl _⟩, zl.2.2.2, Or.inr (Or.inr ⟨Or.inl rfl, rfl, zp.1, zp.2.1, zp.2.2⟩), fun z => absurd z (by decide)⟩), (c_line_or (σ := σ) rfl rfl rfl hI.2.2.2.1 l6 z5), (I_ta_fr (σ := σ) rfl rfl rfl rfl hI.2.2.2.2.1), (I_ba_fr (σ := σ) rfl rfl rfl rfl rfl rfl rfl rfl rfl rfl rfl rfl rfl rfl rfl rfl rfl rfl rfl rfl rfl hI.2.2.2.2.2.1), (I_ex_fr (σ := σ) rfl rfl rfl rfl rfl rfl rfl rfl rfl rfl rfl hI.2.2.2.2.2.2.1), (I_gu_fr (σ := σ) rfl rfl rfl rfl rfl rfl rfl rfl rfl rfl hI.2.2.2.2.2.2.2.1), (I_sh_fr (σ := σ) rfl rfl rfl rfl rfl hI.2.2.2.2.2.2.2.2.1), (I_wa_fr (σ := σ) rfl rfl rfl rfl hI.2.2.2.2.2.2.2.2.2.1), (I_la_fr (σ := σ) rfl rfl rfl rfl rfl rfl rfl rfl rfl rfl rfl hI.2.2.2.2.2.2.2.2.2.2.1), (I_he_fr (σ := σ) rfl hI.2.2.2.2.2.2.2.2.2.2.2)⟩⟩)
              · replace m25 := bI_nz m25
                refine ⟨rfl, rfl, ?_⟩
                refine m_isPast ?_
                refine ⟨fun m34 => ?_, fun m34 => ?_⟩
                · replace m34 := bI_z m34
                  refine ⟨fun _ => ?_, fun z => absurd (by decide) z⟩
                  refine ⟨rfl, trivial, ?_⟩
                  first
                  | (exfalso; (first | omega | (simp only [Int32.reduceToInt] at c8 c13 h26a h26b m5 m13 m18 m25 m34 ⊢; omega)); done)
                  | (have z5 : (σ 10 0).toInt < 100 := by (first | omega | (simp only [Int32.reduceToInt] at c8 c13 h26a h26b m5 m13 m18 m25 m34 ⊢; omega))
                     have zl : (0 ≤ (3 : Int32).toInt ∧ (3 : Int32).toInt ≤ 5) ∧ (0 ≤ v.toInt ∧ v.toInt < (σ 3 0).toInt) ∧ (0 ≤ a.toInt ∧ a.toInt ≤ (σ 1 0).toInt) ∧ (0 ≤ (s : Int32).toInt ∧ (s : Int32).toInt ≤ 100000) := ⟨⟨by decide, by decide⟩, by (first | omega | (simp only [Int32.reduceToInt] at c8 c13 h26a h26b m5 m13 m18 m25 m34 ⊢; omega)), by (first | omega | (simp only [Int32.reduceToInt] at c8 c13 h26a h26b m5 m13 m18 m25 m34 ⊢; omega)), by (first | omega | (simp only [Int32.reduceToInt] at c8 c13 h26a h26b m5 m13 m18 m25 m34 ⊢; omega))⟩
                     have zp : 0 ≤ p.toInt ∧ p.toInt < (σ 3 0).toInt ∧ p.toInt ≠ v.toInt := by (first | omega | (simp only [Int32.reduceToInt] at c8 c13 h26a h26b m5 m13 m18 m25 m34 ⊢; omega))
                     subst hτ
                     exact ⟨⟨σ 10 0, rfl, vI_ l0⟩, ⟨(I_tr_fr (σ := σ) rfl rfl rfl rfl rfl rfl rfl rfl hI.1), (I_vo_fr (σ := σ) rfl rfl rfl rfl rfl rfl rfl rfl rfl rfl rfl rfl rfl rfl rfl hI.2.1), (c_line_li (σ := σ) rfl rfl rfl rfl rfl rfl rfl rfl rfl rfl rfl rfl rfl rfl rfl rfl rfl rfl rfl rfl rfl hI.2.2.1 z5 t0 rfl ⟨zl.1, zl.2.1, zl.2.2.1, ⟨t4, Int.le_refl _⟩, zl.2.2.2, Or.inr (Or.inr ⟨Or.inl rfl, rfl, zp.1, zp.2.1, zp.2.2⟩), fun z => absurd z (by decide)⟩), (c_line_or (σ := σ) rfl rfl rfl hI.2.2.2.1 l6 z5), (I_ta_fr (σ := σ) rfl rfl rfl rfl hI.2.2.2.2.1), (I_ba_fr (σ := σ) rfl rfl rfl rfl rfl rfl rfl rfl rfl rfl rfl rfl rfl rfl rfl rfl rfl rfl rfl rfl rfl hI.2.2.2.2.2.1), (I_ex_fr (σ := σ) rfl rfl rfl rfl rfl rfl rfl rfl rfl rfl rfl hI.2.2.2.2.2.2.1), (I_gu_fr (σ := σ) rfl rfl rfl rfl rfl rfl rfl rfl rfl rfl hI.2.2.2.2.2.2.2.1), (I_sh_fr (σ := σ) rfl rfl rfl rfl rfl hI.2.2.2.2.2.2.2.2.1), (I_wa_fr (σ := σ) rfl rfl rfl rfl hI.2.2.2.2.2.2.2.2.2.1), (I_la_fr (σ := σ) rfl rfl rfl rfl rfl rfl rfl rfl rfl rfl rfl hI.2.2.2.2.2.2.2.2.2.2.1), (I_he_fr (σ := σ) rfl hI.2.2.2.2.2.2.2.2.2.2.2)⟩⟩)
                · replace m34 := bI_nz m34
                  refine ⟨fun z => absurd z (by decide), fun _ => ?_⟩
                  refine ⟨rfl, rfl, ?_⟩
                  refine m_comes (by omega) (by omega) (fun hm56a => ?_) (fun hm56a => ?_)
                  · refine ⟨rfl, trivial, ?_⟩
                    first
                    | (exfalso; (first | omega | (simp only [Int32.reduceToInt] at c8 c13 h26a h26b m5 m13 m18 m25 m34 hm56a ⊢; omega)); done)
                    | (have z5 : (σ 10 0).toInt < 100 := by (first | omega | (simp only [Int32.reduceToInt] at c8 c13 h26a h26b m5 m13 m18 m25 m34 hm56a ⊢; omega))
                       have zl : (0 ≤ (3 : Int32).toInt ∧ (3 : Int32).toInt ≤ 5) ∧ (0 ≤ v.toInt ∧ v.toInt < (σ 3 0).toInt) ∧ (0 ≤ a.toInt ∧ a.toInt ≤ (σ 1 0).toInt) ∧ (0 ≤ (s : Int32).toInt ∧ (s : Int32).toInt ≤ 100000) := ⟨⟨by decide, by decide⟩, by (first | omega | (simp only [Int32.reduceToInt] at c8 c13 h26a h26b m5 m13 m18 m25 m34 hm56a ⊢; omega)), by (first | omega | (simp only [Int32.reduceToInt] at c8 c13 h26a h26b m5 m13 m18 m25 m34 hm56a ⊢; omega)), by (first | omega | (simp only [Int32.reduceToInt] at c8 c13 h26a h26b m5 m13 m18 m25 m34 hm56a ⊢; omega))⟩
                       have zp : 0 ≤ p.toInt ∧ p.toInt < (σ 3 0).toInt ∧ p.toInt ≠ v.toInt := by (first | omega | (simp only [Int32.reduceToInt] at c8 c13 h26a h26b m5 m13 m18 m25 m34 hm56a ⊢; omega))
                       subst hτ
                       exact ⟨⟨σ 10 0, rfl, vI_ l0⟩, ⟨(I_tr_fr (σ := σ) rfl rfl rfl rfl rfl rfl rfl rfl hI.1), (I_vo_fr (σ := σ) rfl rfl rfl rfl rfl rfl rfl rfl rfl rfl rfl rfl rfl rfl rfl hI.2.1), (c_line_li (σ := σ) rfl rfl rfl rfl rfl rfl rfl rfl rfl rfl rfl rfl rfl rfl rfl rfl rfl rfl rfl rfl rfl hI.2.2.1 z5 t0 rfl ⟨zl.1, zl.2.1, zl.2.2.1, ⟨t4, Int.le_refl _⟩, zl.2.2.2, Or.inr (Or.inr ⟨Or.inl rfl, rfl, zp.1, zp.2.1, zp.2.2⟩), fun z => absurd z (by decide)⟩), (c_line_or (σ := σ) rfl rfl rfl hI.2.2.2.1 l6 z5), (I_ta_fr (σ := σ) rfl rfl rfl rfl hI.2.2.2.2.1), (I_ba_fr (σ := σ) rfl rfl rfl rfl rfl rfl rfl rfl rfl rfl rfl rfl rfl rfl rfl rfl rfl rfl rfl rfl rfl hI.2.2.2.2.2.1), (I_ex_fr (σ := σ) rfl rfl rfl rfl rfl rfl rfl rfl rfl rfl rfl hI.2.2.2.2.2.2.1), (I_gu_fr (σ := σ) rfl rfl rfl rfl rfl rfl rfl rfl rfl rfl hI.2.2.2.2.2.2.2.1), (I_sh_fr (σ := σ) rfl rfl rfl rfl rfl hI.2.2.2.2.2.2.2.2.1), (I_wa_fr (σ := σ) rfl rfl rfl rfl hI.2.2.2.2.2.2.2.2.2.1), (I_la_fr (σ := σ) rfl rfl rfl rfl rfl rfl rfl rfl rfl rfl rfl hI.2.2.2.2.2.2.2.2.2.2.1), (I_he_fr (σ := σ) rfl hI.2.2.2.2.2.2.2.2.2.2.2)⟩⟩)
                  · refine ⟨rfl, trivial, ?_⟩
                    first
                    | (exfalso; (first | omega | (simp only [Int32.reduceToInt] at c8 c13 h26a h26b m5 m13 m18 m25 m34 hm56a ⊢; omega)); done)
                    | (have z5 : (σ 10 0).toInt < 100 := by (first | omega | (simp only [Int32.reduceToInt] at c8 c13 h26a h26b m5 m13 m18 m25 m34 hm56a ⊢; omega))
                       have zl : (0 ≤ (3 : Int32).toInt ∧ (3 : Int32).toInt ≤ 5) ∧ (0 ≤ v.toInt ∧ v.toInt < (σ 3 0).toInt) ∧ (0 ≤ a.toInt ∧ a.toInt ≤ (σ 1 0).toInt) ∧ (0 ≤ (s : Int32).toInt ∧ (s : Int32).toInt ≤ 100000) := ⟨⟨by decide, by decide⟩, by (first | omega | (simp only [Int32.reduceToInt] at c8 c13 h26a h26b m5 m13 m18 m25 m34 hm56a ⊢; omega)), by (first | omega | (simp only [Int32.reduceToInt] at c8 c13 h26a h26b m5 m13 m18 m25 m34 hm56a ⊢; omega)), by (first | omega | (simp only [Int32.reduceToInt] at c8 c13 h26a h26b m5 m13 m18 m25 m34 hm56a ⊢; omega))⟩
                       have zp : 0 ≤ p.toInt ∧ p.toInt < (σ 3 0).toInt ∧ p.toInt ≠ v.toInt := by (first | omega | (simp only [Int32.reduceToInt] at c8 c13 h26a h26b m5 m13 m18 m25 m34 hm56a ⊢; omega))
                       subst hτ
                       exact ⟨⟨σ 10 0, rfl, vI_ l0⟩, ⟨(I_tr_fr (σ := σ) rfl rfl rfl rfl rfl rfl rfl rfl hI.1), (I_vo_fr (σ := σ) rfl rfl rfl rfl rfl rfl rfl rfl rfl rfl rfl rfl rfl rfl rfl hI.2.1), (c_line_li (σ := σ) rfl rfl rfl rfl rfl rfl rfl rfl rfl rfl rfl rfl rfl rfl rfl rfl rfl rfl rfl rfl rfl hI.2.2.1 z5 t0 rfl ⟨zl.1, zl.2.1, zl.2.2.1, ⟨t4, Int.le_refl _⟩, zl.2.2.2, Or.inr (Or.inr ⟨Or.inl rfl, rfl, zp.1, zp.2.1, zp.2.2⟩), fun z => absurd z (by decide)⟩), (c_line_or (σ := σ) rfl rfl rfl hI.2.2.2.1 l6 z5), (I_ta_fr (σ := σ) rfl rfl rfl rfl hI.2.2.2.2.1), (I_ba_fr (σ := σ) rfl rfl rfl rfl rfl rfl rfl rfl rfl rfl rfl rfl rfl rfl rfl rfl rfl rfl rfl rfl rfl hI.2.2.2.2.2.1), (I_ex_fr (σ := σ) rfl rfl rfl rfl rfl rfl rfl rfl rfl rfl rfl hI.2.2.2.2.2.2.1), (I_gu_fr (σ := σ) rfl rfl rfl rfl rfl rfl rfl rfl rfl rfl hI.2.2.2.2.2.2.2.1), (I_sh_fr (σ := σ) rfl rfl rfl rfl rfl hI.2.2.2.2.2.2.2.2.1), (I_wa_fr (σ := σ) rfl rfl rfl rfl hI.2.2.2.2.2.2.2.2.2.1), (I_la_fr (σ := σ) rfl rfl rfl rfl rfl rfl rfl rfl rfl rfl rfl hI.2.2.2.2.2.2.2.2.2.2.1), (I_he_fr (σ := σ) rfl hI.2.2.2.2.2.2.2.2.2.2.2)⟩⟩)
theorem op_lose {σ : Mm} {v p a : Int32} (hI : Inv σ) : Call 120 k_X11_lose [.ref 0, .int v, .int p, .int a] σ (fun r τ => Call 120 k_X12_lose [.ref 88, .int v, .int p, .int a] τ (fun r' τ' => (∃ x : Int32, r = some (.int x) ∧ r' = some (.int x)) ∧ Inv τ')) := by
  obtain ⟨⟨t0, t1, t2, t3⟩, ⟨t4, t5⟩, ⟨t6, t7⟩, ⟨t8, t9⟩, t10⟩ := id (hI.1)
  obtain ⟨⟨v0, v1, v2, v3, v4, v5, v6⟩, ⟨v7, v8⟩, v9⟩ := id (hI.2.1)
  obtain ⟨⟨l0, l1, l2, l3, l4, l5⟩, ⟨l6, l7⟩, l8, l9⟩ := id (hI.2.2.1)
  obtain o0 := id (hI.2.2.2.1)
  have qtoday : (σ 88 0).toInt = (σ 1 0).toInt := by rw [t0]
  have qshops : (σ 88 2).toInt = (σ 1 2).toInt := by rw [t2]
  have qvouchers : (σ 88 4).toInt = (σ 3 0).toInt := by rw [v0]
  have qlines : (σ 88 11).toInt = (σ 10 0).toInt := by rw [l0]
  have hr : ∀ i : Nat, i < (σ 10 0).toInt.toNat → 0 ≤ (σ 18 i).toInt ∧ (σ 18 i).toInt < 100 := fun i hi => by
    rw [o0]
    have := ordA_rng (ab := σ 13) (n := (σ 10 0).toInt.toNat) (by omega) i hi
    omega
  refine Call_st 200 fun X hX => ?_
  refine ⟨fun c3 => ?_, fun c3 => ?_⟩
  · refine ⟨fun c19 => ?_, fun c19 => ?_⟩
    · refine ⟨rfl, trivial, ?_⟩
      refine Call_st 200 fun Y hY => ?_
      refine ⟨rfl, rfl, ?_⟩
      refine m_isVoucher (by omega) ?_
      refine ⟨fun m5 => ?_, fun m5 => ?_⟩
      · replace m5 := bI_z m5
        refine ⟨fun _ => ?_, fun z => absurd (by decide) z⟩
        refine ⟨rfl, trivial, ?_⟩
        first | exact ⟨⟨_, rfl, rfl⟩, hI⟩ | (exfalso; (first | omega | (simp only [Int32.reduceToInt] at c3 c19 m5 ⊢; omega)))
      · replace m5 := bI_nz m5
        refine ⟨fun m11 => ?_, fun m11 => ?_⟩
        · refine ⟨fun m24 => ?_, fun m24 => ?_⟩
          · refine ⟨fun _ => ?_, fun z => absurd (by decide) z⟩
            refine ⟨rfl, trivial, ?_⟩
            first | exact ⟨⟨_, rfl, rfl⟩, hI⟩ | (exfalso; (first | omega | (simp only [Int32.reduceToInt] at c3 c19 m5 m11 m24 ⊢; omega)))
          · refine ⟨rfl, rfl, ?_⟩
            refine m_isPast ?_
            refine ⟨fun m32 => ?_, fun m32 => ?_⟩
            · replace m32 := bI_z m32
              refine ⟨fun _ => ?_, fun z => absurd (by decide) z⟩
              refine ⟨rfl, trivial, ?_⟩
              first | exact ⟨⟨_, rfl, rfl⟩, hI⟩ | (exfalso; (first | omega | (simp only [Int32.reduceToInt] at c3 c19 m5 m11 m24 m32 ⊢; omega)))
            · replace m32 := bI_nz m32
              refine ⟨fun z => absurd z (by decide), fun _ => ?_⟩
              refine ⟨fun m55 => ?_, fun m55 => ?_⟩
              · refine ⟨rfl, rfl, ?_⟩
                refine m_comes (by omega) (by omega) (fun hm63a => ?_) (fun hm63a => ?_)
                · refine ⟨rfl, trivial, ?_⟩
                  first | exact ⟨⟨_, rfl, rfl⟩, hI⟩ | (exfalso; (first | omega | (simp only [Int32.reduceToInt] at c3 c19 m5 m11 m24 m32 m55 hm63a ⊢; omega)))
                · refine ⟨rfl, trivial, ?_⟩
                  first | exact ⟨⟨_, rfl, rfl⟩, hI⟩ | (exfalso; (first | omega | (simp only [Int32.reduceToInt] at c3 c19 m5 m11 m24 m32 m55 hm63a ⊢; omega)))
              · refine ⟨rfl, rfl, ?_⟩
                refine m_comes (by omega) (by omega) (fun hm63a => ?_) (fun hm63a => ?_)
                · refine ⟨rfl, trivial, ?_⟩
                  first | exact ⟨⟨_, rfl, rfl⟩, hI⟩ | (exfalso; (first | omega | (simp only [Int32.reduceToInt] at c3 c19 m5 m11 m24 m32 m55 hm63a ⊢; omega)))
                · refine ⟨rfl, trivial, ?_⟩
                  first | exact ⟨⟨_, rfl, rfl⟩, hI⟩ | (exfalso; (first | omega | (simp only [Int32.reduceToInt] at c3 c19 m5 m11 m24 m32 m55 hm63a ⊢; omega)))
        · refine ⟨rfl, rfl, ?_⟩
          refine m_isVoucher (by omega) ?_
          refine ⟨fun m19 => ?_, fun m19 => ?_⟩
          · replace m19 := bI_z m19
            refine ⟨fun _ => ?_, fun z => absurd (by decide) z⟩
            refine ⟨rfl, trivial, ?_⟩
            first | exact ⟨⟨_, rfl, rfl⟩, hI⟩ | (exfalso; (first | omega | (simp only [Int32.reduceToInt] at c3 c19 m5 m11 m19 ⊢; omega)))
          · replace m19 := bI_nz m19
            refine ⟨fun m24 => ?_, fun m24 => ?_⟩
            · refine ⟨fun _ => ?_, fun z => absurd (by decide) z⟩
              refine ⟨rfl, trivial, ?_⟩
              first | exact ⟨⟨_, rfl, rfl⟩, hI⟩ | (exfalso; (first | omega | (simp only [Int32.reduceToInt] at c3 c19 m5 m11 m19 m24 ⊢; omega)))
            · refine ⟨rfl, rfl, ?_⟩
              refine m_isPast ?_
              refine ⟨fun m32 => ?_, fun m32 => ?_⟩
              · replace m32 := bI_z m32
                refine ⟨fun _ => ?_, fun z => absurd (by decide) z⟩
                refine ⟨rfl, trivial, ?_⟩
                first | exact ⟨⟨_, rfl, rfl⟩, hI⟩ | (exfalso; (first | omega | (simp only [Int32.reduceToInt] at c3 c19 m5 m11 m19 m24 m32 ⊢; omega)))
              · replace m32 := bI_nz m32
                refine ⟨fun z => absurd z (by decide), fun _ => ?_⟩
                refine ⟨fun m55 => ?_, fun m55 => ?_⟩
                · refine ⟨rfl, rfl, ?_⟩
                  refine m_comes (by omega) (by omega) (fun hm63a => ?_) (fun hm63a => ?_)
                  · refine ⟨rfl, trivial, ?_⟩
                    first | exact ⟨⟨_, rfl, rfl⟩, hI⟩ | (exfalso; (first | omega | (simp only [Int32.reduceToInt] at c3 c19 m5 m11 m19 m24 m32 m55 hm63a ⊢; omega)))
                  · refine ⟨rfl, trivial, ?_⟩
                    first | exact ⟨⟨_, rfl, rfl⟩, hI⟩ | (exfalso; (first | omega | (simp only [Int32.reduceToInt] at c3 c19 m5 m11 m19 m24 m32 m55 hm63a ⊢; omega)))
                · refine ⟨rfl, rfl, ?_⟩
                  refine m_comes (by omega) (by omega) (fun hm63a => ?_) (fun hm63a => ?_)
                  · refine ⟨rfl, trivial, ?_⟩
                    first | exact ⟨⟨_, rfl, rfl⟩, hI⟩ | (exfalso; (first | omega | (simp only [Int32.reduceToInt] at c3 c19 m5 m11 m19 m24 m32 m55 hm63a ⊢; omega)))
                  · refine ⟨rfl, trivial, ?_⟩
                    first | exact ⟨⟨_, rfl, rfl⟩, hI⟩ | (exfalso; (first | omega | (simp only [Int32.reduceToInt] at c3 c19 m5 m11 m19 m24 m32 m55 hm63a ⊢; omega)))
    · refine ⟨rfl, rfl, ?_⟩
      refine s_tellLine (by omega) hr (fun h31a => ?_) (fun h31a h31b => ?_) (fun h31a h31b => ?_)
      · refine ⟨rfl, trivial, ?_⟩
        refine Call_st 200 fun Y hY => ?_
        refine ⟨rfl, rfl, ?_⟩
        refine m_isVoucher (by omega) ?_
        refine ⟨fun m5 => ?_, fun m5 => ?_⟩
        · replace m5 := bI_z m5
          refine ⟨fun _ => ?_, fun z => absurd (by decide) z⟩
          refine ⟨rfl, trivial, ?_⟩
          first | exact ⟨⟨_, rfl, rfl⟩, hI⟩ | (exfalso; (first | omega | (simp only [Int32.reduceToInt] at c3 c19 h31a m5 ⊢; omega)))
        · replace m5 := bI_nz m5
          refine ⟨fun m11 => ?_, fun m11 => ?_⟩
          · refine ⟨fun m24 => ?_, fun m24 => ?_⟩
            · refine ⟨fun _ => ?_, fun z => absurd (by decide) z⟩
              refine ⟨rfl, trivial, ?_⟩
              first | exact ⟨⟨_, rfl, rfl⟩, hI⟩ | (exfalso; (first | omega | (simp only [Int32.reduceToInt] at c3 c19 h31a m5 m11 m24 ⊢; omega)))
            · refine ⟨rfl, rfl, ?_⟩
              refine m_isPast ?_
              refine ⟨fun m32 => ?_, fun m32 => ?_⟩
              · replace m32 := bI_z m32
                refine ⟨fun _ => ?_, fun z => absurd (by decide) z⟩
                refine ⟨rfl, trivial, ?_⟩
                first | exact ⟨⟨_, rfl, rfl⟩, hI⟩ | (exfalso; (first | omega | (simp only [Int32.reduceToInt] at c3 c19 h31a m5 m11 m24 m32 ⊢; omega)))
              · replace m32 := bI_nz m32
                refine ⟨fun z => absurd z (by decide), fun _ => ?_⟩
                refine ⟨fun m55 => ?_, fun m55 => ?_⟩
                · refine ⟨rfl, rfl, ?_⟩
                  refine m_comes (by omega) (by omega) (fun hm63a => ?_) (fun hm63a => ?_)
                  · refine ⟨rfl, trivial, ?_⟩
                    first | exact ⟨⟨_, rfl, rfl⟩, hI⟩ | (exfalso; (first | omega | (simp only [Int32.reduceToInt] at c3 c19 h31a m5 m11 m24 m32 m55 hm63a ⊢; omega)))
                  · refine ⟨rfl, trivial, ?_⟩
                    first | exact ⟨⟨_, rfl, rfl⟩, hI⟩ | (exfalso; (first | omega | (simp only [Int32.reduceToInt] at c3 c19 h31a m5 m11 m24 m32 m55 hm63a ⊢; omega)))
                · refine ⟨rfl, rfl, ?_⟩
                  refine m_comes (by omega) (by omega) (fun hm63a => ?_) (fun hm63a => ?_)
                  · refine ⟨rfl, trivial, ?_⟩
                    first | exact ⟨⟨_, rfl, rfl⟩, hI⟩ | (exfalso; (first | omega | (simp only [Int32.reduceToInt] at c3 c19 h31a m5 m11 m24 m32 m55 hm63a ⊢; omega)))
                  · refine ⟨rfl, trivial, ?_⟩
                    first | exact ⟨⟨_, rfl, rfl⟩, hI⟩ | (exfalso; (first | omega | (simp only [Int32.reduceToInt] at c3 c19 h31a m5 m11 m24 m32 m55 hm63a ⊢; omega)))
          · refine ⟨rfl, rfl, ?_⟩
            refine m_isVoucher (by omega) ?_
            refine ⟨fun m19 => ?_, fun m19 => ?_⟩
            · replace m19 := bI_z m19
              refine ⟨fun _ => ?_, fun z => absurd (by decide) z⟩
              refine ⟨rfl, trivial, ?_⟩
              first | exact ⟨⟨_, rfl, rfl⟩, hI⟩ | (exfalso; (first | omega | (simp only [Int32.reduceToInt] at c3 c19 h31a m5 m11 m19 ⊢; omega)))
            · replace m19 := bI_nz m19
              refine ⟨fun m24 => ?_, fun m24 => ?_⟩
              · refine ⟨fun _ => ?_, fun z => absurd (by decide) z⟩
                refine ⟨rfl, trivial, ?_⟩
                first | exact ⟨⟨_, rfl, rfl⟩, hI⟩ | (exfalso; (first | omega | (simp only [Int32.reduceToInt] at c3 c19 h31a m5 m11 m19 m24 ⊢; omega)))
              · refine ⟨rfl, rfl, ?_⟩
                refine m_isPast ?_
                refine ⟨fun m32 => ?_, fun m32 => ?_⟩
                · replace m32 := bI_z m32
                  refine ⟨fun _ => ?_, fun z => absurd (by decide) z⟩
                  refine ⟨rfl, trivial, ?_⟩
                  first | exact ⟨⟨_, rfl, rfl⟩, hI⟩ | (exfalso; (first | omega | (simp only [Int32.reduceToInt] at c3 c19 h31a m5 m11 m19 m24 m32 ⊢; omega)))
                · replace m32 := bI_nz m32
                  refine ⟨fun z => absurd z (by decide), fun _ => ?_⟩
                  refine ⟨fun m55 => ?_, fun m55 => ?_⟩
                  · refine ⟨rfl, rfl, ?_⟩
                    refine m_comes (by omega) (by omega) (fun hm63a => ?_) (fun hm63a => ?_)
                    · refine ⟨rfl, trivial, ?_⟩
                      first | exact ⟨⟨_, rfl, rfl⟩, hI⟩ | (exfalso; (first | omega | (simp only [Int32.reduceToInt] at c3 c19 h31a m5 m11 m19 m24 m32 m55 hm63a ⊢; omega)))
                    · refine ⟨rfl, trivial, ?_⟩
                      first | exact ⟨⟨_, rfl, rfl⟩, hI⟩ | (exfalso; (first | omega | (simp only [Int32.reduceToInt] at c3 c19 h31a m5 m11 m19 m24 m32 m55 hm63a ⊢; omega)))
                  · refine ⟨rfl, rfl, ?_⟩
                    refine m_comes (by omega) (by omega) (fun hm63a => ?_) (fun hm63a => ?_)
                    · refine ⟨rfl, trivial, ?_⟩
                      first | exact ⟨⟨_, rfl, rfl⟩, hI⟩ | (exfalso; (first | omega | (simp only [Int32.reduceToInt] at c3 c19 h31a m5 m11 m19 m24 m32 m55 hm63a ⊢; omega)))
                    · refine ⟨rfl, trivial, ?_⟩
                      first | exact ⟨⟨_, rfl, rfl⟩, hI⟩ | (exfalso; (first | omega | (simp only [Int32.reduceToInt] at c3 c19 h31a m5 m11 m19 m24 m32 m55 hm63a ⊢; omega)))
      · refine ⟨rfl, trivial, ?_⟩
        refine Call_st 200 fun Y hY => ?_
        refine ⟨rfl, rfl, ?_⟩
        refine m_isVoucher (by omega) ?_
        refine ⟨fun m5 => ?_, fun m5 => ?_⟩
        · replace m5 := bI_z m5
          refine ⟨fun _ => ?_, fun z => absurd (by decide) z⟩
          refine ⟨rfl, trivial, ?_⟩
          first | exact ⟨⟨_, rfl, rfl⟩, hI⟩ | (exfalso; (first | omega | (simp only [Int32.reduceToInt] at c3 c19 h31a h31b m5 ⊢; omega)))
        · replace m5 := bI_nz m5
          refine ⟨fun m11 => ?_, fun m11 => ?_⟩
          · refine ⟨fun m24 => ?_, fun m24 => ?_⟩
            · refine ⟨fun _ => ?_, fun z => absurd (by decide) z⟩
              refine ⟨rfl, trivial, ?_⟩
              first | exact ⟨⟨_, rfl, rfl⟩, hI⟩ | (exfalso; (first | omega | (simp only [Int32.reduceToInt] at c3 c19 h31a h31b m5 m11 m24 ⊢; omega)))
            · refine ⟨rfl, rfl, ?_⟩
              refine m_isPast ?_
              refine ⟨fun m32 => ?_, fun m32 => ?_⟩
              · replace m32 := bI_z m32
                refine ⟨fun _ => ?_, fun z => absurd (by decide) z⟩
                refine ⟨rfl, trivial, ?_⟩
                first | exact ⟨⟨_, rfl, rfl⟩, hI⟩ | (exfalso; (first | omega | (simp only [Int32.reduceToInt] at c3 c19 h31a h31b m5 m11 m24 m32 ⊢; omega)))
              · replace m32 := bI_nz m32
                refine ⟨fun z => absurd z (by decide), fun _ => ?_⟩
                refine ⟨fun m55 => ?_, fun m55 => ?_⟩
                · refine ⟨rfl, rfl, ?_⟩
                  refine m_comes (by omega) (by omega) (fun hm63a => ?_) (fun hm63a => ?_)
                  · refine ⟨rfl, trivial, ?_⟩
                    first | exact ⟨⟨_, rfl, rfl⟩, hI⟩ | (exfalso; (first | omega | (simp only [Int32.reduceToInt] at c3 c19 h31a h31b m5 m11 m24 m32 m55 hm63a ⊢; omega)))
                  · refine ⟨rfl, trivial, ?_⟩
                    first | exact ⟨⟨_, rfl, rfl⟩, hI⟩ | (exfalso; (first | omega | (simp only [Int32.reduceToInt] at c3 c19 h31a h31b m5 m11 m24 m32 m55 hm63a ⊢; omega)))
                · refine ⟨rfl, rfl, ?_⟩
                  refine m_comes (by omega) (by omega) (fun hm63a => ?_) (fun hm63a => ?_)
                  · refine ⟨rfl, trivial, ?_⟩
                    first | exact ⟨⟨_, rfl, rfl⟩, hI⟩ | (exfalso; (first | omega | (simp only [Int32.reduceToInt] at c3 c19 h31a h31b m5 m11 m24 m32 m55 hm63a ⊢; omega)))
                  · refine ⟨rfl, trivial, ?_⟩
                    first | exact ⟨⟨_, rfl, rfl⟩, hI⟩ | (exfalso; (first | omega | (simp only [Int32.reduceToInt] at c3 c19 h31a h31b m5 m11 m24 m32 m55 hm63a ⊢; omega)))
          · refine ⟨rfl, rfl, ?_⟩
            refine m_isVoucher (by omega) ?_
            refine ⟨fun m19 => ?_, fun m19 => ?_⟩
            · replace m19 := bI_z m19
              refine ⟨fun _ => ?_, fun z => absurd (by decide) z⟩
              refine ⟨rfl, trivial, ?_⟩
              first | exact ⟨⟨_, rfl, rfl⟩, hI⟩ | (exfalso; (first | omega | (simp only [Int32.reduceToInt] at c3 c19 h31a h31b m5 m11 m19 ⊢; omega)))
            · replace m19 := bI_nz m19
              refine ⟨fun m24 => ?_, fun m24 => ?_⟩
              · refine ⟨fun _ => ?_, fun z => absurd (by decide) z⟩
                refine ⟨rfl, trivial, ?_⟩
                first | exact ⟨⟨_, rfl, rfl⟩, hI⟩ | (exfalso; (first | omega | (simp only [Int32.reduceToInt] at c3 c19 h31a h31b m5 m11 m19 m24 ⊢; omega)))
              · refine ⟨rfl, rfl, ?_⟩
                refine m_isPast ?_
                refine ⟨fun m32 => ?_, fun m32 => ?_⟩
                · replace m32 := bI_z m32
                  refine ⟨fun _ => ?_, fun z => absurd (by decide) z⟩
                  refine ⟨rfl, trivial, ?_⟩
                  first | exact ⟨⟨_, rfl, rfl⟩, hI⟩ | (exfalso; (first | omega | (simp only [Int32.reduceToInt] at c3 c19 h31a h31b m5 m11 m19 m24 m32 ⊢; omega)))
                · replace m32 := bI_nz m32
                  refine ⟨fun z => absurd z (by decide), fun _ => ?_⟩
                  refine ⟨fun m55 => ?_, fun m55 => ?_⟩
                  · refine ⟨rfl, rfl, ?_⟩
                    refine m_comes (by omega) (by omega) (fun hm63a => ?_) (fun hm63a => ?_)
                    · refine ⟨rfl, trivial, ?_⟩
                      first | exact ⟨⟨_, rfl, rfl⟩, hI⟩ | (exfalso; (first | omega | (simp only [Int32.reduceToInt] at c3 c19 h31a h31b m5 m11 m19 m24 m32 m55 hm63a ⊢; omega)))
                    · refine ⟨rfl, trivial, ?_⟩
                      first | exact ⟨⟨_, rfl, rfl⟩, hI⟩ | (exfalso; (first | omega | (simp only [Int32.reduceToInt] at c3 c19 h31a h31b m5 m11 m19 m24 m32 m55 hm63a ⊢; omega)))
                  · refine ⟨rfl, rfl, ?_⟩
                    refine m_comes (by omega) (by omega) (fun hm63a => ?_) (fun hm63a => ?_)
                    · refine ⟨rfl, trivial, ?_⟩
                      first | exact ⟨⟨_, rfl, rfl⟩, hI⟩ | (exfalso; (first | omega | (simp only [Int32.reduceToInt] at c3 c19 h31a h31b m5 m11 m19 m24 m32 m55 hm63a ⊢; omega)))
                    · refine ⟨rfl, trivial, ?_⟩
                      first | exact ⟨⟨_, rfl, rfl⟩, hI⟩ | (exfalso; (first | omega | (simp only [Int32.reduceToInt] at c3 c19 h31a h31b m5 m11 m19 m24 m32 m55 hm63a ⊢; omega)))
      · refine ⟨rfl, trivial, ?_⟩
        refine nxt fun τ hτ => ?_
        have e88 : τ 88 = σ 88 := by rw [hτ]; rfl
        have qτtoday : (τ 88 0).toInt = (σ 1 0).toInt := by rw [e88, t0]
        have qτshops : (τ 88 2).toInt = (σ 1 2).toInt := by rw [e88, t2]
        have qτvouchers : (τ 88 4).toInt = (σ 3 0).toInt := by rw [e88, v0]
        have qτlines : (τ 88 11).toInt = (σ 10 0).toInt := by rw [e88, l0]
        refine Call_st 200 fun Y hY => ?_
        refine ⟨rfl, rfl, ?_⟩
        refine m_isVoucher (by omega) ?_
        refine ⟨fun m5 => ?_, fun m5 => ?_⟩
        · replace m5 := bI_z m5
          refine ⟨fun _ => ?_, fun z => absurd (by decide) z⟩
          refine ⟨rfl, trivial, ?_⟩
          first
          | (exfalso; (first | omega | (simp only [Int32.reduceToInt] at c3 c19 h31a h31b m5 ⊢; omega)); done)
          | (have z5 : (σ 10 0).toInt < 100 := by (first | omega | (simp only [Int32.reduceToInt] at c3 c19 h31a h31b m5 ⊢; omega))
             have zl : (0 ≤ (5 : Int32).toInt ∧ (5 : Int32).toInt ≤ 5) ∧ (0 ≤ v.toInt ∧ v.toInt < (σ 3 0).toInt) ∧ (0 ≤ a.toInt ∧ a.toInt ≤ (σ 1 0).toInt) ∧ (0 ≤ (0 : Int32).toInt ∧ (0 : Int32).toInt ≤ 100000) := ⟨⟨by decide, by decide⟩, by (first | omega | (simp only [Int32.reduceToInt] at c3 c19 h31a h31b m5 ⊢; omega)), by (first | omega | (simp only [Int32.reduceToInt] at c3 c19 h31a h31b m5 ⊢; omega)), ⟨by decide, by decide⟩⟩
             have zp : (p = -1000000005 ∧ p.toInt = -1000000005) ∨ (p.toInt ≠ -1000000005 ∧ 0 ≤ p.toInt ∧ p.toInt < (σ 3 0).toInt ∧ p.toInt ≠ v.toInt) := by
               by_cases zz : p.toInt = -1000000005
               · exact Or.inl ⟨iX zz, zz⟩
               · exact Or.inr (by (first | omega | (simp only [Int32.reduceToInt] at c3 c19 h31a h31b m5 ⊢; omega)))
             subst hτ
             exact ⟨⟨σ 10 0, rfl, vI_ l0⟩, ⟨(I_tr_fr (σ := σ) rfl rfl rfl rfl rfl rfl rfl rfl hI.1), (I_vo_fr (σ := σ) rfl rfl rfl rfl rfl rfl rfl rfl rfl rfl rfl rfl rfl rfl rfl hI.2.1), (c_line_li (σ := σ) rfl rfl rfl rfl rfl rfl rfl rfl rfl rfl rfl rfl rfl rfl rfl rfl rfl rfl rfl rfl rfl hI.2.2.1 z5 t0 rfl ⟨zl.1, zl.2.1, zl.2.2.1, ⟨t4, Int.le_refl _⟩, zl.2.2.2, (by first | exact Or.inl ⟨Or.inr (Or.inr rfl), (by rcases zp with q | q; exact q.1; exfalso; (first | omega | (simp only [Int32.reduceToInt] at m11 m55 c3; omega) | (simp only [Int32.reduceToInt] at m11 m55; omega) | (simp only [Int32.reduceToInt] at m11; omega) | (simp only [Int32.reduceToInt] at c3; omega))), rfl⟩ | exact Or.inr (Or.inr ⟨Or.inr rfl, rfl, (by omega), (by omega), (by omega)⟩)), fun z => absurd z (by decide)⟩), (c_line_or (σ := σ) rfl rfl rfl hI.2.2.2.1 l6 z5), (I_ta_fr (σ := σ) rfl rfl rfl rfl hI.2.2.2.2.1), (I_ba_fr (σ := σ) rfl rfl rfl rfl rfl rfl rfl rfl rfl rfl rfl rfl rfl rfl rfl rfl rfl rfl rfl rfl rfl hI.2.2.2.2.2.1), (I_ex_fr (σ := σ) rfl rfl rfl rfl rfl rfl rfl rfl rfl rfl rfl hI.2.2.2.2.2.2.1), (I_gu_fr (σ := σ) rfl rfl rfl rfl rfl rfl rfl rfl rfl rfl hI.2.2.2.2.2.2.2.1), (I_sh_fr (σ := σ) rfl rfl rfl rfl rfl hI.2.2.2.2.2.2.2.2.1), (I_wa_fr (σ := σ) rfl rfl rfl rfl hI.2.2.2.2.2.2.2.2.2.1), (I_la_fr (σ := σ) rfl rfl rfl rfl rfl rfl rfl rfl rfl rfl rfl hI.2.2.2.2.2.2.2.2.2.2.1), (I_he_fr (σ := σ) rfl hI.2.2.2.2.2.2.2.2.2.2.2)⟩⟩)
        · replace m5 := bI_nz m5
          refine ⟨fun m11 => ?_, fun m11 => ?_⟩
          · refine ⟨fun m24 => ?_, fun m24 => ?_⟩
            · refine ⟨fun _ => ?_, fun z => absurd (by decide) z⟩
              refine ⟨rfl, trivial, ?_⟩
              first
              | (exfalso; (first | omega | (simp only [Int32.reduceToInt] at c3 c19 h31a h31b m5 m11 m24 ⊢; omega)); done)
              | (have z5 : (σ 10 0).toInt < 100 := by (first | omega | (simp only [Int32.reduceToInt] at c3 c19 h31a h31b m5 m11 m24 ⊢; omega))
                 have zl : (0 ≤ (5 : Int32).toInt ∧ (5 : Int32).toInt ≤ 5) ∧ (0 ≤ v.toInt ∧ v.toInt < (σ 3 0).toInt) ∧ (0 ≤ a.toInt ∧ a.toInt ≤ (σ 1 0).toInt) ∧ (0 ≤ (0 : Int32).toInt ∧ (0 : Int32).toInt ≤ 100000) := ⟨⟨by decide, by decide⟩, by (first | omega | (simp only [Int32.reduceToInt] at c3 c19 h31a h31b m5 m11 m24 ⊢; omega)), by (first | omega | (simp only [Int32.reduceToInt] at c3 c19 h31a h31b m5 m11 m24 ⊢; omega)), ⟨by decide, by decide⟩⟩
                 have zp : (p = -1000000005 ∧ p.toInt = -1000000005) ∨ (p.toInt ≠ -1000000005 ∧ 0 ≤ p.toInt ∧ p.toInt < (σ 3 0).toInt ∧ p.toInt ≠ v.toInt) := by
                   by_cases zz : p.toInt = -1000000005
                   · exact Or.inl ⟨iX zz, zz⟩
                   · exact Or.inr (by (first | omega | (simp only [Int32.reduceToInt] at c3 c19 h31a h31b m5 m11 m24 ⊢; omega)))
                 subst hτ
                 exact ⟨⟨σ 10 0, rfl, vI_ l0⟩, ⟨(I_tr_fr (σ := σ) rfl rfl rfl rfl rfl rfl rfl rfl hI.1), (I_vo_fr (σ := σ) rfl rfl rfl rfl rfl rfl rfl rfl rfl rfl rfl rfl rfl rfl rfl hI.2.1), (c_line_li (σ := σ) rfl rfl rfl rfl rfl rfl rfl rfl rfl rfl rfl rfl rfl rfl rfl rfl rfl rfl rfl rfl rfl hI.2.2.1 z5 t0 rfl ⟨zl.1, zl.2.1, zl.2.2.1, ⟨t4, Int.le_refl _⟩, zl.2.2.2, (by first | exact Or.inl ⟨Or.inr (Or.inr rfl), (by rcases zp with q | q; exact q.1; exfalso; (first | omega | (simp only [Int32.reduceToInt] at m11 m55 c3; omega) | (simp only [Int32.reduceToInt] at m11 m55; omega) | (simp only [Int32.reduceToInt] at m11; omega) | (simp only [Int32.reduceToInt] at c3; omega))), rfl⟩ | exact Or.inr (Or.inr ⟨Or.inr rfl, rfl, (by omega), (by omega), (by omega)⟩)), fun z => absurd z (by decide)⟩), (c_line_or (σ := σ) rfl rfl rfl hI.2.2.2.1 l6 z5), (I_ta_fr (σ := σ) rfl rfl rfl rfl hI.2.2.2.2.1), (I_ba_fr (σ := σ) rfl rfl rfl rfl rfl rfl rfl rfl rfl rfl rfl rfl rfl rfl rfl rfl rfl rfl rfl rfl rfl hI.2.2.2.2.2.1), (I_ex_fr (σ := σ) rfl rfl rfl rfl rfl rfl rfl rfl rfl rfl rfl hI.2.2.2.2.2.2.1), (I_gu_fr (σ := σ) rfl rfl rfl rfl rfl rfl rfl rfl rfl rfl hI.2.2.2.2.2.2.2.1), (I_sh_fr (σ := σ) rfl rfl rfl rfl rfl hI.2.2.2.2.2.2.2.2.1), (I_wa_fr (σ := σ) rfl rfl rfl rfl hI.2.2.2.2.2.2.2.2.2.1), (I_la_fr (σ := σ) rfl rfl rfl rfl rfl rfl rfl rfl rfl rfl rfl hI.2.2.2.2.2.2.2.2.2.2.1), (I_he_fr (σ := σ) rfl hI.2.2.2.2.2.2.2.2.2.2.2)⟩⟩)
            · refine ⟨rfl, rfl, ?_⟩
              refine m_isPast ?_
              refine ⟨fun m32 => ?_, fun m32 => ?_⟩
              · replace m32 := bI_z m32
                refine ⟨fun _ => ?_, fun z => absurd (by decide) z⟩
                refine ⟨rfl, trivial, ?_⟩
                first
                | (exfalso; (first | omega | (simp only [Int32.reduceToInt] at c3 c19 h31a h31b m5 m11 m24 m32 ⊢; omega)); done)
                | (have z5 : (σ 10 0).toInt < 100 := by (first | omega | (simp only [Int32.reduceToInt] at c3 c19 h31a h31b m5 m11 m24 m32 ⊢; omega))
                   have zl : (0 ≤ (5 : Int32).toInt ∧ (5 : Int32).toInt ≤ 5) ∧ (0 ≤ v.toInt ∧ v.toInt < (σ 3 0).toInt) ∧ (0 ≤ a.toInt ∧ a.toInt ≤ (σ 1 0).toInt) ∧ (0 ≤ (0 : Int32).toInt ∧ (0 : Int32).toInt ≤ 100000) := ⟨⟨by decide, by decide⟩, by (first | omega | (simp only [Int32.reduceToInt] at c3 c19 h31a h31b m5 m11 m24 m32 ⊢; omega)), by (first | omega | (simp only [Int32.reduceToInt] at c3 c19 h31a h31b m5 m11 m24 m32 ⊢; omega)), ⟨by decide, by decide⟩⟩
                   have zp : (p = -1000000005 ∧ p.toInt = -1000000005) ∨ (p.toInt ≠ -1000000005 ∧ 0 ≤ p.toInt ∧ p.toInt < (σ 3 0).toInt ∧ p.toInt ≠ v.toInt) := by
                     by_cases zz : p.toInt = -1000000005
                     · exact Or.inl ⟨iX zz, zz⟩
                     · exact Or.inr (by (first | omega | (simp only [Int32.reduceToInt] at c3 c19 h31a h31b m5 m11 m24 m32 ⊢; omega)))
                   subst hτ
                   exact ⟨⟨σ 10 0, rfl, vI_ l0⟩, ⟨(I_tr_fr (σ := σ) rfl rfl rfl rfl rfl rfl rfl rfl hI.1), (I_vo_fr (σ := σ) rfl rfl rfl rfl rfl rfl rfl rfl rfl rfl rfl rfl rfl rfl rfl hI.2.1), (c_line_li (σ := σ) rfl rfl rfl rfl rfl rfl rfl rfl rfl rfl rfl rfl rfl rfl rfl rfl rfl rfl rfl rfl rfl hI.2.2.1 z5 t0 rfl ⟨zl.1, zl.2.1, zl.2.2.1, ⟨t4, Int.le_refl _⟩, zl.2.2.2, (by first | exact Or.inl ⟨Or.inr (Or.inr rfl), (by rcases zp with q | q; exact q.1; exfalso; (first | omega | (simp only [Int32.reduceToInt] at m11 m55 c3; omega) | (simp only [Int32.reduceToInt] at m11 m55; omega) | (simp only [Int32.reduceToInt] at m11; omega) | (simp only [Int32.reduceToInt] at c3; omega))), rfl⟩ | exact Or.inr (Or.inr ⟨Or.inr rfl, rfl, (by omega), (by omega), (by omega)⟩)), fun z => absurd z (by decide)⟩), (c_line_or (σ := σ) rfl rfl rfl hI.2.2.2.1 l6 z5), (I_ta_fr (σ := σ) rfl rfl rfl rfl hI.2.2.2.2.1), (I_ba_fr (σ := σ) rfl rfl rfl rfl rfl rfl rfl rfl rfl rfl rfl rfl rfl rfl rfl rfl rfl rfl rfl rfl rfl hI.2.2.2.2.2.1), (I_ex_fr (σ := σ) rfl rfl rfl rfl rfl rfl rfl rfl rfl rfl rfl hI.2.2.2.2.2.2.1), (I_gu_fr (σ := σ) rfl rfl rfl rfl rfl rfl rfl rfl rfl rfl hI.2.2.2.2.2.2.2.1), (I_sh_fr (σ := σ) rfl rfl rfl rfl rfl hI.2.2.2.2.2.2.2.2.1), (I_wa_fr (σ := σ) rfl rfl rfl rfl hI.2.2.2.2.2.2.2.2.2.1), (I_la_fr (σ := σ) rfl rfl rfl rfl rfl rfl rfl rfl rfl rfl rfl hI.2.2.2.2.2.2.2.2.2.2.1), (I_he_fr (σ := σ) rfl hI.2.2.2.2.2.2.2.2.2.2.2)⟩⟩)
              · replace m32 := bI_nz m32
                refine ⟨fun z => absurd z (by decide), fun _ => ?_⟩
                refine ⟨fun m55 => ?_, fun m55 => ?_⟩
                · refine ⟨rfl, rfl, ?_⟩
                  refine m_comes (by omega) (by omega) (fun hm63a => ?_) (fun hm63a => ?_)
                  · refine ⟨rfl, trivial, ?_⟩
                    first
                    | (exfalso; (first | omega | (simp only [Int32.reduceToInt] at c3 c19 h31a h31b m5 m11 m24 m32 m55 hm63a ⊢; omega)); done)
                    | (have z5 : (σ 10 0).toInt < 100 := by (first | omega | (simp only [Int32.reduceToInt] at c3 c19 h31a h31b m5 m11 m24 m32 m55 hm63a ⊢; omega))
                       have zl : (0 ≤ (5 : Int32).toInt ∧ (5 : Int32).toInt ≤ 5) ∧ (0 ≤ v.toInt ∧ v.toInt < (σ 3 0).toInt) ∧ (0 ≤ a.toInt ∧ a.toInt ≤ (σ 1 0).toInt) ∧ (0 ≤ (0 : Int32).toInt ∧ (0 : Int32).toInt ≤ 100000) := ⟨⟨by decide, by decide⟩, by (first | omega | (simp only [Int32.reduceToInt] at c3 c19 h31a h31b m5 m11 m24 m32 m55 hm63a ⊢; omega)), by (first | omega | (simp only [Int32.reduceToInt] at c3 c19 h31a h31b m5 m11 m24 m32 m55 hm63a ⊢; omega)), ⟨by decide, by decide⟩⟩
                       have zp : (p = -1000000005 ∧ p.toInt = -1000000005) ∨ (p.toInt ≠ -1000000005 ∧ 0 ≤ p.toInt ∧ p.toInt < (σ 3 0).toInt ∧ p.toInt ≠ v.toInt) := by
                         by_cases zz : p.toInt = -1000000005
                         · exact Or.inl ⟨iX zz, zz⟩
                         · exact Or.inr (by (first | omega | (simp only [Int32.reduceToInt] at c3 c19 h31a h31b m5 m11 m24 m32 m55 hm63a ⊢; omega)))
                       subst hτ
                       exact ⟨⟨σ 10 0, rfl, vI_ l0⟩, ⟨(I_tr_fr (σ := σ) rfl rfl rfl rfl rfl rfl rfl rfl hI.1), (I_vo_fr (σ := σ) rfl rfl rfl rfl rfl rfl rfl rfl rfl rfl rfl rfl rfl rfl rfl hI.2.1), (c_line_li (σ := σ) rfl rfl rfl rfl rfl rfl rfl rfl rfl rfl rfl rfl rfl rfl rfl rfl rfl rfl rfl rfl rfl hI.2.2.1 z5 t0 rfl ⟨zl.1, zl.2.1, zl.2.2.1, ⟨t4, Int.le_refl _⟩, zl.2.2.2, (by first | exact Or.inl ⟨Or.inr (Or.inr rfl), (by rcases zp with q | q; exact q.1; exfalso; (first | omega | (simp only [Int32.reduceToInt] at m11 m55 c3; omega) | (simp only [Int32.reduceToInt] at m11 m55; omega) | (simp only [Int32.reduceToInt] at m11; omega) | (simp only [Int32.reduceToInt] at c3; omega))), rfl⟩ | exact Or.inr (Or.inr ⟨Or.inr rfl, rfl, (by omega), (by omega), (by omega)⟩)), fun z => absurd z (by decide)⟩), (c_line_or (σ := σ) rfl rfl rfl hI.2.2.2.1 l6 z5), (I_ta_fr (σ := σ) rfl rfl rfl rfl hI.2.2.2.2.1), (I_ba_fr (σ := σ) rfl rfl rfl rfl rfl rfl rfl rfl rfl rfl rfl rfl rfl rfl rfl rfl rfl rfl rfl rfl rfl hI.2.2.2.2.2.1), (I_ex_fr (σ := σ) rfl rfl rfl rfl rfl rfl rfl rfl rfl rfl rfl hI.2.2.2.2.2.2.1), (I_gu_fr (σ := σ) rfl rfl rfl rfl rfl rfl rfl rfl rfl rfl hI.2.2.2.2.2.2.2.1), (I_sh_fr (σ := σ) rfl rfl rfl rfl rfl hI.2.2.2.2.2.2.2.2.1), (I_wa_fr (σ := σ) rfl rfl rfl rfl hI.2.2.2.2.2.2.2.2.2.1), (I_la_fr (σ := σ) rfl rfl rfl rfl rfl rfl rfl rfl rfl rfl rfl hI.2.2.2.2.2.2.2.2.2.2.1), (I_he_fr (σ := σ) rfl hI.2.2.2.2.2.2.2.2.2.2.2)⟩⟩)
                  · refine ⟨rfl, trivial, ?_⟩
                    first
                    | (exfalso; (first | omega | (simp only [Int32.reduceToInt] at c3 c19 h31a h31b m5 m11 m24 m32 m55 hm63a ⊢; omega)); done)
                    | (have z5 : (σ 10 0).toInt < 100 := by (first | omega | (simp only [Int32.reduceToInt] at c3 c19 h31a h31b m5 m11 m24 m32 m55 hm63a ⊢; omega))
                       have zl : (0 ≤ (5 : Int32).toInt ∧ (5 : Int32).toInt ≤ 5) ∧ (0 ≤ v.toInt ∧ v.toInt < (σ 3 0).toInt) ∧ (0 ≤ a.toInt ∧ a.toInt ≤ (σ 1 0).toInt) ∧ (0 ≤ (0 : Int32).toInt ∧ (0 : Int32).toInt ≤ 100000) := ⟨⟨by decide, by decide⟩, by (first | omega | (simp only [Int32.reduceToInt] at c3 c19 h31a h31b m5 m11 m24 m32 m55 hm63a ⊢; omega)), by (first | omega | (simp only [Int32.reduceToInt] at c3 c19 h31a h31b m5 m11 m24 m32 m55 hm63a ⊢; omega)), ⟨by decide, by decide⟩⟩
                       have zp : (p = -1000000005 ∧ p.toInt = -1000000005) ∨ (p.toInt ≠ -1000000005 ∧ 0 ≤ p.toInt ∧ p.toInt < (σ 3 0).toInt ∧ p.toInt ≠ v.toInt) := by
                         by_cases zz : p.toInt = -1000000005
                         · exact Or.inl ⟨iX zz, zz⟩
                         · exact Or.inr (by (first | omega | (simp only [Int32.reduceToInt] at c3 c19 h31a h31b m5 m11 m24 m32 m55 hm63a ⊢; omega)))
                       subst hτ
                       exact ⟨⟨σ 10 0, rfl, vI_ l0⟩, ⟨(I_tr_fr (σ := σ) rfl rfl rfl rfl rfl rfl rfl rfl hI.1), (I_vo_fr (σ := σ) rfl rfl rfl rfl rfl rfl rfl rfl rfl rfl rfl rfl rfl rfl rfl hI.2.1), (c_line_li (σ := σ) rfl rfl rfl rfl rfl rfl rfl rfl rfl rfl rfl rfl rfl rfl rfl rfl rfl rfl rfl rfl rfl hI.2.2.1 z5 t0 rfl ⟨zl.1, zl.2.1, zl.2.2.1, ⟨t4, Int.le_refl _⟩, zl.2.2.2, (by first | exact Or.inl ⟨Or.inr (Or.inr rfl), (by rcases zp with q | q; exact q.1; exfalso; (first | omega | (simp only [Int32.reduceToInt] at m11 m55 c3; omega) | (simp only [Int32.reduceToInt] at m11 m55; omega) | (simp only [Int32.reduceToInt] at m11; omega) | (simp only [Int32.reduceToInt] at c3; omega))), rfl⟩ | exact Or.inr (Or.inr ⟨Or.inr rfl, rfl, (by omega), (by omega), (by omega)⟩)), fun z => absurd z (by decide)⟩), (c_line_or (σ := σ) rfl rfl rfl hI.2.2.2.1 l6 z5), (I_ta_fr (σ := σ) rfl rfl rfl rfl hI.2.2.2.2.1), (I_ba_fr (σ := σ) rfl rfl rfl rfl rfl rfl rfl rfl rfl rfl rfl rfl rfl rfl rfl rfl rfl rfl rfl rfl rfl hI.2.2.2.2.2.1), (I_ex_fr (σ := σ) rfl rfl rfl rfl rfl rfl rfl rfl rfl rfl rfl hI.2.2.2.2.2.2.1), (I_gu_fr (σ := σ) rfl rfl rfl rfl rfl rfl rfl rfl rfl rfl hI.2.2.2.2.2.2.2.1), (I_sh_fr (σ := σ) rfl rfl rfl rfl rfl hI.2.2.2.2.2.2.2.2.1), (I_wa_fr (σ := σ) rfl rfl rfl rfl hI.2.2.2.2.2.2.2.2.2.1), (I_la_fr (σ := σ) rfl rfl rfl rfl rfl rfl rfl rfl rfl rfl rfl hI.2.2.2.2.2.2.2.2.2.2.1), (I_he_fr (σ := σ) rfl hI.2.2.2.2.2.2.2.2.2.2.2)⟩⟩)
                · refine ⟨rfl, rfl, ?_⟩
                  refine m_comes (by omega) (by omega) (fun hm63a => ?_) (fun hm63a => ?_)
                  · refine ⟨rfl, trivial, ?_⟩
                    first
                    | (exfalso; (first | omega | (simp only [Int32.reduceToInt] at c3 c19 h31a h31b m5 m11 m24 m32 m55 hm63a ⊢; omega)); done)
                    | (have z5 : (σ 10 0).toInt < 100 := by (first | omega | (simp only [Int32.reduceToInt] at c3 c19 h31a h31b m5 m11 m24 m32 m55 hm63a ⊢; omega))
                       have zl : (0 ≤ (5 : Int32).toInt ∧ (5 : Int32).toInt ≤ 5) ∧ (0 ≤ v.toInt ∧ v.toInt < (σ 3 0).toInt) ∧ (0 ≤ a.toInt ∧ a.toInt ≤ (σ 1 0).toInt) ∧ (0 ≤ (0 : Int32).toInt ∧ (0 : Int32).toInt ≤ 100000) := ⟨⟨by decide, by decide⟩, by (first | omega | (simp only [Int32.reduceToInt] at c3 c19 h31a h31b m5 m11 m24 m32 m55 hm63a ⊢; omega)), by (first | omega | (simp only [Int32.reduceToInt] at c3 c19 h31a h31b m5 m11 m24 m32 m55 hm63a ⊢; omega)), ⟨by decide, by decide⟩⟩
                       have zp : (p = -1000000005 ∧ p.toInt = -1000000005) ∨ (p.toInt ≠ -1000000005 ∧ 0 ≤ p.toInt ∧ p.toInt < (σ 3 0).toInt ∧ p.toInt ≠ v.toInt) := by
                         by_cases zz : p.toInt = -1000000005
                         · exact Or.inl ⟨iX zz, zz⟩
                         · exact Or.inr (by (first | omega | (simp only [Int32.reduceToInt] at c3 c19 h31a h31b m5 m11 m24 m32 m55 hm63a ⊢; omega)))
                       subst hτ
                       exact ⟨⟨σ 10 0, rfl, vI_ l0⟩, ⟨(I_tr_fr (σ := σ) rfl rfl rfl rfl rfl rfl rfl rfl hI.1), (I_vo_fr (σ := σ) rfl rfl rfl rfl rfl rfl rfl rfl rfl rfl rfl rfl rfl rfl rfl hI.2.1), (c_line_li (σ := σ) rfl rfl rfl rfl rfl rfl rfl rfl rfl rfl rfl rfl rfl rfl rfl rfl rfl rfl rfl rfl rfl hI.2.2.1 z5 t0 rfl ⟨zl.1, zl.2.1, zl.2.2.1, ⟨t4, Int.le_refl _⟩, zl.2.2.2, (by first | exact Or.inl ⟨Or.inr (Or.inr rfl), (by rcases zp with q | q; exact q.1; exfalso; (first | omega | (simp only [Int32.reduceToInt] at m11 m55 c3; omega) | (simp only [Int32.reduceToInt] at m11 m55; omega) | (simp only [Int32.reduceToInt] at m11; omega) | (simp only [Int32.reduceToInt] at c3; omega))), rfl⟩ | exact Or.inr (Or.inr ⟨Or.inr rfl, rfl, (by omega), (by omega), (by omega)⟩)), fun z => absurd z (by decide)⟩), (c_line_or (σ := σ) rfl rfl rfl hI.2.2.2.1 l6 z5), (I_ta_fr (σ := σ) rfl rfl rfl rfl hI.2.2.2.2.1), (I_ba_fr (σ := σ) rfl rfl rfl rfl rfl rfl rfl rfl rfl rfl rfl rfl rfl rfl rfl rfl rfl rfl rfl rfl rfl hI.2.2.2.2.2.1), (I_ex_fr (σ := σ) rfl rfl rfl rfl rfl rfl rfl rfl rfl rfl rfl hI.2.2.2.2.2.2.1), (I_gu_fr (σ := σ) rfl rfl rfl rfl rfl rfl rfl rfl rfl rfl hI.2.2.2.2.2.2.2.1), (I_sh_fr (σ := σ) rfl rfl rfl rfl rfl hI.2.2.2.2.2.2.2.2.1), (I_wa_fr (σ := σ) rfl rfl rfl rfl hI.2.2.2.2.2.2.2.2.2.1), (I_la_fr (σ := σ) rfl rfl rfl rfl rfl rfl rfl rfl rfl rfl rfl hI.2.2.2.2.2.2.2.2.2.2.1), (I_he_fr (σ := σ) rfl hI.2.2.2.2.2.2.2.2.2.2.2)⟩⟩)
                  · refine ⟨rfl, trivial, ?_⟩
                    first
                    | (exfalso; (first | omega | (simp only [Int32.reduceToInt] at c3 c19 h31a h31b m5 m11 m24 m32 m55 hm63a ⊢; omega)); done)
                    | (have z5 : (σ 10 0).toInt < 100 := by (first | omega | (simp only [Int32.reduceToInt] at c3 c19 h31a h31b m5 m11 m24 m32 m55 hm63a ⊢; omega))
                       have zl : (0 ≤ (5 : Int32).toInt ∧ (5 : Int32).toInt ≤ 5) ∧ (0 ≤ v.toInt ∧ v.toInt < (σ 3 0).toInt) ∧ (0 ≤ a.toInt ∧ a.toInt ≤ (σ 1 0).toInt) ∧ (0 ≤ (0 : Int32).toInt ∧ (0 : Int32).toInt ≤ 100000) := ⟨⟨by decide, by decide⟩, by (first | omega | (simp only [Int32.reduceToInt] at c3 c19 h31a h31b m5 m11 m24 m32 m55 hm63a ⊢; omega)), by (first | omega | (simp only [Int32.reduceToInt] at c3 c19 h31a h31b m5 m11 m24 m32 m55 hm63a ⊢; omega)), ⟨by decide, by decide⟩⟩
                       have zp : (p = -1000000005 ∧ p.toInt = -1000000005) ∨ (p.toInt ≠ -1000000005 ∧ 0 ≤ p.toInt ∧ p.toInt < (σ 3 0).toInt ∧ p.toInt ≠ v.toInt) := by
                         by_cases zz : p.toInt = -1000000005
                         · exact Or.inl ⟨iX zz, zz⟩
                         · exact Or.inr (by (first | omega | (simp only [Int32.reduceToInt] at c3 c19 h31a h31b m5 m11 m24 m32 m55 hm63a ⊢; omega)))
                       subst hτ
                       exact ⟨⟨σ 10 0, rfl, vI_ l0⟩, ⟨(I_tr_fr (σ := σ) rfl rfl rfl rfl rfl rfl rfl rfl hI.1), (I_vo_fr (σ := σ) rfl rfl rfl rfl rfl rfl rfl rfl rfl rfl rfl rfl rfl rfl rfl hI.2.1), (c_line_li (σ := σ) rfl rfl rfl rfl rfl rfl rfl rfl rfl rfl rfl rfl rfl rfl rfl rfl rfl rfl rfl rfl rfl hI.2.2.1 z5 t0 rfl ⟨zl.1, zl.2.1, zl.2.2.1, ⟨t4, Int.le_refl _⟩, zl.2.2.2, (by first | exact Or.inl ⟨Or.inr (Or.inr rfl), (by rcases zp with q | q; exact q.1; exfalso; (first | omega | (simp only [Int32.reduceToInt] at m11 m55 c3; omega) | (simp only [Int32.reduceToInt] at m11 m55; omega) | (simp only [Int32.reduceToInt] at m11; omega) | (simp only [Int32.reduceToInt] at c3; omega))), rfl⟩ | exact Or.inr (Or.inr ⟨Or.inr rfl, rfl, (by omega), (by omega), (by omega)⟩)), fun z => absurd z (by decide)⟩), (c_line_or (σ := σ) rfl rfl rfl hI.2.2.2.1 l6 z5), (I_ta_fr (σ := σ) rfl rfl rfl rfl hI.2.2.2.2.1), (I_ba_fr (σ := σ) rfl rfl rfl rfl rfl rfl rfl rfl rfl rfl rfl rfl rfl rfl rfl rfl rfl rfl rfl rfl rfl hI.2.2.2.2.2.1), (I_ex_fr (σ := σ) rfl rfl rfl rfl rfl rfl rfl rfl rfl rfl rfl hI.2.2.2.2.2.2.1), (I_gu_fr (σ := σ) rfl rfl rfl rfl rfl rfl rfl rfl rfl rfl hI.2.2.2.2.2.2.2.1), (I_sh_fr (σ := σ) rfl rfl rfl rfl rfl hI.2.2.2.2.2.2.2.2.1), (I_wa_fr (σ := σ) rfl rfl rfl rfl hI.2.2.2.2.2.2.2.2.2.1), (I_la_fr (σ := σ) rfl rfl rfl rfl rfl rfl rfl rfl rfl rfl rfl hI.2.2.2.2.2.2.2.2.2.2.1), (I_he_fr (σ := σ) rfl hI.2.2.2.2.2.2.2.2.2.2.2)⟩⟩)
          · refine ⟨rfl, rfl, ?_⟩
            refine m_isVoucher (by omega) ?_
            refine ⟨fun m19 => ?_, fun m19 => ?_⟩
            · replace m19 := bI_z m19
              refine ⟨fun _ => ?_, fun z => absurd (by decide) z⟩
              refine ⟨rfl, trivial, ?_⟩
              first
              | (exfalso; (first | omega | (simp only [Int32.reduceToInt] at c3 c19 h31a h31b m5 m11 m19 ⊢; omega)); done)
              | (have z5 : (σ 10 0).toInt < 100 := by (first | omega | (simp only [Int32.reduceToInt] at c3 c19 h31a h31b m5 m11 m19 ⊢; omega))
                 have zl : (0 ≤ (5 : Int32).toInt ∧ (5 : Int32).toInt ≤ 5) ∧ (0 ≤ v.toInt ∧ v.toInt < (σ 3 0).toInt) ∧ (0 ≤ a.toInt ∧ a.toInt ≤ (σ 1 0).toInt) ∧ (0 ≤ (0 : Int32).toInt ∧ (0 : Int32).toInt ≤ 100000) := ⟨⟨by decide, by decide⟩, by (first | omega | (simp only [Int32.reduceToInt] at c3 c19 h31a h31b m5 m11 m19 ⊢; omega)), by (first | omega | (simp only [Int32.reduceToInt] at c3 c19 h31a h31b m5 m11 m19 ⊢; omega)), ⟨by decide, by decide⟩⟩
                 have zp : (p = -1000000005 ∧ p.toInt = -1000000005) ∨ (p.toInt ≠ -1000000005 ∧ 0 ≤ p.toInt ∧ p.toInt < (σ 3 0).toInt ∧ p.toInt ≠ v.toInt) := by
                   by_cases zz : p.toInt = -1000000005
                   · exact Or.inl ⟨iX zz, zz⟩
                   · exact Or.inr (by (first | omega | (simp only [Int32.reduceToInt] at c3 c19 h31a h31b m5 m11 m19 ⊢; omega)))
                 subst hτ
                 exact ⟨⟨σ 10 0, rfl, vI_ l0⟩, ⟨(I_tr_fr (σ := σ) rfl rfl rfl rfl rfl rfl rfl rfl hI.1), (I_vo_fr (σ := σ) rfl rfl rfl rfl rfl rfl rfl rfl rfl rfl rfl rfl rfl rfl rfl hI.2.1), (c_line_li (σ := σ) rfl rfl rfl rfl rfl rfl rfl rfl rfl rfl rfl rfl rfl rfl rfl rfl rfl rfl rfl rfl rfl hI.2.2.1 z5 t0 rfl ⟨zl.1, zl.2.1, zl.2.2.1, ⟨t4, Int.le_refl _⟩, zl.2.2.2, (by first | exact Or.inl ⟨Or.inr (Or.inr rfl), (by rcases zp with q | q; exact q.1; exfalso; (first | omega | (simp only [Int32.reduceToInt] at m11 m55 c3; omega) | (simp only [Int32.reduceToInt] at m11 m55; omega) | (simp only [Int32.reduceToInt] at m11; omega) | (simp only [Int32.reduceToInt] at c3; omega))), rfl⟩ | exact Or.inr (Or.inr ⟨Or.inr rfl, rfl, (by omega), (by omega), (by omega)⟩)), fun z => absurd z (by decide)⟩), (c_line_or (σ := σ) rfl rfl rfl hI.2.2.2.1 l6 z5), (I_ta_fr (σ := σ) rfl rfl rfl rfl hI.2.2.2.2.1), (I_ba_fr (σ := σ) rfl rfl rfl rfl rfl rfl rfl rfl rfl rfl rfl rfl rfl rfl rfl rfl rfl rfl rfl rfl rfl hI.2.2.2.2.2.1), (I_ex_fr (σ := σ) rfl rfl rfl rfl rfl rfl rfl rfl rfl rfl rfl hI.2.2.2.2.2.2.1), (I_gu_fr (σ := σ) rfl rfl rfl rfl rfl rfl rfl rfl rfl rfl hI.2.2.2.2.2.2.2.1), (I_sh_fr (σ := σ) rfl rfl rfl rfl rfl hI.2.2.2.2.2.2.2.2.1), (I_wa_fr (σ := σ) rfl rfl rfl rfl hI.2.2.2.2.2.2.2.2.2.1), (I_la_fr (σ := σ) rfl rfl rfl rfl rfl rfl rfl rfl rfl rfl rfl hI.2.2.2.2.2.2.2.2.2.2.1), (I_he_fr (σ := σ) rfl hI.2.2.2.2.2.2.2.2.2.2.2)⟩⟩)
            · replace m19 := bI_nz m19
              refine ⟨fun m24 => ?_, fun m24 => ?_⟩
              · refine ⟨fun _ => ?_, fun z => absurd (by decide) z⟩
                refine ⟨rfl, trivial, ?_⟩
                first
                | (exfalso; (first | omega | (simp only [Int32.reduceToInt] at c3 c19 h31a h31b m5 m11 m19 m24 ⊢; omega)); done)
                | (have z5 : (σ 10 0).toInt < 100 := by (first | omega | (simp only [Int32.reduceToInt] at c3 c19 h31a h31b m5 m11 m19 m24 ⊢; omega))
                   have zl : (0 ≤ (5 : Int32).toInt ∧ (5 : Int32).toInt ≤ 5) ∧ (0 ≤ v.toInt ∧ v.toInt < (σ 3 0).toInt) ∧ (0 ≤ a.toInt ∧ a.toInt ≤ (σ 1 0).toInt) ∧ (0 ≤ (0 : Int32).toInt ∧ (0 : Int32).toInt ≤ 100000) := ⟨⟨by decide, by decide⟩, by (first | omega | (simp only [Int32.reduceToInt] at c3 c19 h31a h31b m5 m11 m19 m24 ⊢; omega)), by (first | omega | (simp only [Int32.reduceToInt] at c3 c19 h31a h31b m5 m11 m19 m24 ⊢; omega)), ⟨by decide, by decide⟩⟩
                   have zp : (p = -1000000005 ∧ p.toInt = -1000000005) ∨ (p.toInt ≠ -1000000005 ∧ 0 ≤ p.toInt ∧ p.toInt < (σ 3 0).toInt ∧ p.toInt ≠ v.toInt) := by
                     by_cases zz : p.toInt = -1000000005
                     · exact Or.inl ⟨iX zz, zz⟩
                     · exact Or.inr (by (first | omega | (simp only [Int32.reduceToInt] at c3 c19 h31a h31b m5 m11 m19 m24 ⊢; omega)))
                   subst hτ
                   exact ⟨⟨σ 10 0, rfl, vI_ l0⟩, ⟨(I_tr_fr (σ := σ) rfl rfl rfl rfl rfl rfl rfl rfl hI.1), (I_vo_fr (σ := σ) rfl rfl rfl rfl rfl rfl rfl rfl rfl rfl rfl rfl rfl rfl rfl hI.2.1), (c_line_li (σ := σ) rfl rfl rfl rfl rfl rfl rfl rfl rfl rfl rfl rfl rfl rfl rfl rfl rfl rfl rfl rfl rfl hI.2.2.1 z5 t0 rfl ⟨zl.1, zl.2.1, zl.2.2.1, ⟨t4, Int.le_refl _⟩, zl.2.2.2, (by first | exact Or.inl ⟨Or.inr (Or.inr rfl), (by rcases zp with q | q; exact q.1; exfalso; (first | omega | (simp only [Int32.reduceToInt] at m11 m55 c3; omega) | (simp only [Int32.reduceToInt] at m11 m55; omega) | (simp only [Int32.reduceToInt] at m11; omega) | (simp only [Int32.reduceToInt] at c3; omega))), rfl⟩ | exact Or.inr (Or.inr ⟨Or.inr rfl, rfl, (by omega), (by omega), (by omega)⟩)), fun z => absurd z (by decide)⟩), (c_line_or (σ := σ) rfl rfl rfl hI.2.2.2.1 l6 z5), (I_ta_fr (σ := σ) rfl rfl rfl rfl hI.2.2.2.2.1), (I_ba_fr (σ := σ) rfl rfl rfl rfl rfl rfl rfl rfl rfl rfl rfl rfl rfl rfl rfl rfl rfl rfl rfl rfl rfl hI.2.2.2.2.2.1), (I_ex_fr (σ := σ) rfl rfl rfl rfl rfl rfl rfl rfl rfl rfl rfl hI.2.2.2.2.2.2.1), (I_gu_fr (σ := σ) rfl rfl rfl rfl rfl rfl rfl rfl rfl rfl hI.2.2.2.2.2.2.2.1), (I_sh_fr (σ := σ) rfl rfl rfl rfl rfl hI.2.2.2.2.2.2.2.2.1), (I_wa_fr (σ := σ) rfl rfl rfl rfl hI.2.2.2.2.2.2.2.2.2.1), (I_la_fr (σ := σ) rfl rfl rfl rfl rfl rfl rfl rfl rfl rfl rfl hI.2.2.2.2.2.2.2.2.2.2.1), (I_he_fr (σ := σ) rfl hI.2.2.2.2.2.2.2.2.2.2.2)⟩⟩)
              · refine ⟨rfl, rfl, ?_⟩
                refine m_isPast ?_
                refine ⟨fun m32 => ?_, fun m32 => ?_⟩
                · replace m32 := bI_z m32
                  refine ⟨fun _ => ?_, fun z => absurd (by decide) z⟩
                  refine ⟨rfl, trivial, ?_⟩
                  first
                  | (exfalso; (first | omega | (simp only [Int32.reduceToInt] at c3 c19 h31a h31b m5 m11 m19 m24 m32 ⊢; omega)); done)
                  | (have z5 : (σ 10 0).toInt < 100 := by (first | omega | (simp only [Int32.reduceToInt] at c3 c19 h31a h31b m5 m11 m19 m24 m32 ⊢; omega))
                     have zl : (0 ≤ (5 : Int32).toInt ∧ (5 : Int32).toInt ≤ 5) ∧ (0 ≤ v.toInt ∧ v.toInt < (σ 3 0).toInt) ∧ (0 ≤ a.toInt ∧ a.toInt ≤ (σ 1 0).toInt) ∧ (0 ≤ (0 : Int32).toInt ∧ (0 : Int32).toInt ≤ 100000) := ⟨⟨by decide, by decide⟩, by (first | omega | (simp only [Int32.reduceToInt] at c3 c19 h31a h31b m5 m11 m19 m24 m32 ⊢; omega)), by (first | omega | (simp only [Int32.reduceToInt] at c3 c19 h31a h31b m5 m11 m19 m24 m32 ⊢; omega)), ⟨by decide, by decide⟩⟩
                     have zp : (p = -1000000005 ∧ p.toInt = -1000000005) ∨ (p.toInt ≠ -1000000005 ∧ 0 ≤ p.toInt ∧ p.toInt < (σ 3 0).toInt ∧ p.toInt ≠ v.toInt) := by
                       by_cases zz : p.toInt = -1000000005
                       · exact Or.inl ⟨iX zz, zz⟩
                       · exact Or.inr (by (first | omega | (simp only [Int32.reduceToInt] at c3 c19 h31a h31b m5 m11 m19 m24 m32 ⊢; omega)))
                     subst hτ
                     exact ⟨⟨σ 10 0, rfl, vI_ l0⟩, ⟨(I_tr_fr (σ := σ) rfl rfl rfl rfl rfl rfl rfl rfl hI.1), (I_vo_fr (σ := σ) rfl rfl rfl rfl rfl rfl rfl rfl rfl rfl rfl rfl rfl rfl rfl hI.2.1), (c_line_li (σ := σ) rfl rfl rfl rfl rfl rfl rfl rfl rfl rfl rfl rfl rfl rfl rfl rfl rfl rfl rfl rfl rfl hI.2.2.1 z5 t0 rfl ⟨zl.1, zl.2.1, zl.2.2.1, ⟨t4, Int.le_refl _⟩, zl.2.2.2, (by first | exact Or.inl ⟨Or.inr (Or.inr rfl), (by rcases zp with q | q; exact q.1; exfalso; (first | omega | (simp only [Int32.reduceToInt] at m11 m55 c3; omega) | (simp only [Int32.reduceToInt] at m11 m55; omega) | (simp only [Int32.reduceToInt] at m11; omega) | (simp only [Int32.reduceToInt] at c3; omega))), rfl⟩ | exact Or.inr (Or.inr ⟨Or.inr rfl, rfl, (by omega), (by omega), (by omega)⟩)), fun z => absurd z (by decide)⟩), (c_line_or (σ := σ) rfl rfl rfl hI.2.2.2.1 l6 z5), (I_ta_fr (σ := σ) rfl rfl rfl rfl hI.2.2.2.2.1), (I_ba_fr (σ := σ) rfl rfl rfl rfl rfl rfl rfl rfl rfl rfl rfl rfl rfl rfl rfl rfl rfl rfl rfl rfl rfl hI.2.2.2.2.2.1), (I_ex_fr (σ := σ) rfl rfl rfl rfl rfl rfl rfl rfl rfl rfl rfl hI.2.2.2.2.2.2.1), (I_gu_fr (σ := σ) rfl rfl rfl rfl rfl rfl rfl rfl rfl rfl hI.2.2.2.2.2.2.2.1), (I_sh_fr (σ := σ) rfl rfl rfl rfl rfl hI.2.2.2.2.2.2.2.2.1), (I_wa_fr (σ := σ) rfl rfl rfl rfl hI.2.2.2.2.2.2.2.2.2.1), (I_la_fr (σ := σ) rfl rfl rfl rfl rfl rfl rfl rfl rfl rfl rfl hI.2.2.2.2.2.2.2.2.2.2.1), (I_he_fr (σ := σ) rfl hI.2.2.2.2.2.2.2.2.2.2.2)⟩⟩)
                · replace m32 := bI_nz m32
                  refine ⟨fun z => absurd z (by decide), fun _ => ?_⟩
                  refine ⟨fun m55 => ?_, fun m55 => ?_⟩
                  · refine ⟨rfl, rfl, ?_⟩
                    refine m_comes (by omega) (by omega) (fun hm63a => ?_) (fun hm63a => ?_)
                    · refine ⟨rfl, trivial, ?_⟩
                      first
                      | (exfalso; (first | omega | (simp only [Int32.reduceToInt] at c3 c19 h31a h31b m5 m11 m19 m24 m32 m55 hm63a ⊢; omega)); done)
                      | (have z5 : (σ 10 0).toInt < 100 := by (first | omega | (simp only [Int32.reduceToInt] at c3 c19 h31a h31b m5 m11 m19 m24 m32 m55 hm63a ⊢; omega))
                         have zl : (0 ≤ (5 : Int32).toInt ∧ (5 : Int32).toInt ≤ 5) ∧ (0 ≤ v.toInt ∧ v.toInt < (σ 3 0).toInt) ∧ (0 ≤ a.toInt ∧ a.toInt ≤ (σ 1 0).toInt) ∧ (0 ≤ (0 : Int32).toInt ∧ (0 : Int32).toInt ≤ 100000) := ⟨⟨by decide, by decide⟩, by (first | omega | (simp only [Int32.reduceToInt] at c3 c19 h31a h31b m5 m11 m19 m24 m32 m55 hm63a ⊢; omega)), by (first | omega | (simp only [Int32.reduceToInt] at c3 c19 h31a h31b m5 m11 m19 m24 m32 m55 hm63a ⊢; omega)), ⟨by decide, by decide⟩⟩
                         have zp : (p = -1000000005 ∧ p.toInt = -1000000005) ∨ (p.toInt ≠ -1000000005 ∧ 0 ≤ p.toInt ∧ p.toInt < (σ 3 0).toInt ∧ p.toInt ≠ v.toInt) := by
                           by_cases zz : p.toInt = -1000000005
                           · exact Or.inl ⟨iX zz, zz⟩
                           · exact Or.inr (by (first | omega | (simp only [Int32.reduceToInt] at c3 c19 h31a h31b m5 m11 m19 m24 m32 m55 hm63a ⊢; omega)))
                         subst hτ
                         exact ⟨⟨σ 10 0, rfl, vI_ l0⟩, ⟨(I_tr_fr (σ := σ) rfl rfl rfl rfl rfl rfl rfl rfl hI.1), (I_vo_fr (σ := σ) rfl rfl rfl rfl rfl rfl rfl rfl rfl rfl rfl rfl rfl rfl rfl hI.2.1), (c_line_li (σ := σ) rfl rfl rfl rfl rfl rfl rfl rfl rfl rfl rfl rfl rfl rfl rfl rfl rfl rfl rfl rfl rfl hI.2.2.1 z5 t0 rfl ⟨zl.1, zl.2.1, zl.2.2.1, ⟨t4, Int.le_refl _⟩, zl.2.2.2, (by first | exact Or.inl ⟨Or.inr (Or.inr rfl), (by rcases zp with q | q; exact q.1; exfalso; (first | omega | (simp only [Int32.reduceToInt] at m11 m55 c3; omega) | (simp only [Int32.reduceToInt] at m11 m55; omega) | (simp only [Int32.reduceToInt] at m11; omega) | (simp only [Int32.reduceToInt] at c3; omega))), rfl⟩ | exact Or.inr (Or.inr ⟨Or.inr rfl, rfl, (by omega), (by omega), (by omega)⟩)), fun z => absurd z (by decide)⟩), (c_line_or (σ := σ) rfl rfl rfl hI.2.2.2.1 l6 z5), (I_ta_fr (σ := σ) rfl rfl rfl rfl hI.2.2.2.2.1), (I_ba_fr (σ := σ) rfl rfl rfl rfl rfl rfl rfl rfl rfl rfl rfl rfl rfl rfl rfl rfl rfl rfl rfl rfl rfl hI.2.2.2.2.2.1), (I_ex_fr (σ := σ) rfl rfl rfl rfl rfl rfl rfl rfl rfl rfl rfl hI.2.2.2.2.2.2.1), (I_gu_fr (σ := σ) rfl rfl rfl rfl rfl rfl rfl rfl rfl rfl hI.2.2.2.2.2.2.2.1), (I_sh_fr (σ := σ) rfl rfl rfl rfl rfl hI.2.2.2.2.2.2.2.2.1), (I_wa_fr (σ := σ) rfl rfl rfl rfl hI.2.2.2.2.2.2.2.2.2.1), (I_la_fr (σ := σ) rfl rfl rfl rfl rfl rfl rfl rfl rfl rfl rfl hI.2.2.2.2.2.2.2.2.2.2.1), (I_he_fr (σ := σ) rfl hI.2.2.2.2.2.2.2.2.2.2.2)⟩⟩)
                    · refine ⟨rfl, trivial, ?_⟩
                      first
                      | (exfalso; (first | omega | (simp only [Int32.reduceToInt] at c3 c19 h31a h31b m5 m11 m19 m24 m32 m55 hm63a ⊢; omega)); done)
                      | (have z5 : (σ 10 0).toInt < 100 := by (first | omega | (simp only [Int32.reduceToInt] at c3 c19 h31a h31b m5 m11 m19 m24 m32 m55 hm63a ⊢; omega))
                         have zl : (0 ≤ (5 : Int32).toInt ∧ (5 : Int32).toInt ≤ 5) ∧ (0 ≤ v.toInt ∧ v.toInt < (σ 3 0).toInt) ∧ (0 ≤ a.toInt ∧ a.toInt ≤ (σ 1 0).toInt) ∧ (0 ≤ (0 : Int32).toInt ∧ (0 : Int32).toInt ≤ 100000) := ⟨⟨by decide, by decide⟩, by (first | omega | (simp only [Int32.reduceToInt] at c3 c19 h31a h31b m5 m11 m19 m24 m32 m55 hm63a ⊢; omega)), by (first | omega | (simp only [Int32.reduceToInt] at c3 c19 h31a h31b m5 m11 m19 m24 m32 m55 hm63a ⊢; omega)), ⟨by decide, by decide⟩⟩
                         have zp : (p = -1000000005 ∧ p.toInt = -1000000005) ∨ (p.toInt ≠ -1000000005 ∧ 0 ≤ p.toInt ∧ p.toInt < (σ 3 0).toInt ∧ p.toInt ≠ v.toInt) := by
                           by_cases zz : p.toInt = -1000000005
                           · exact Or.inl ⟨iX zz, zz⟩
                           · exact Or.inr (by (first | omega | (simp only [Int32.reduceToInt] at c3 c19 h31a h31b m5 m11 m19 m24 m32 m55 hm63a ⊢; omega)))
                         subst hτ
                         exact ⟨⟨σ 10 0, rfl, vI_ l0⟩, ⟨(I_tr_fr (σ := σ) rfl rfl rfl rfl rfl rfl rfl rfl hI.1), (I_vo_fr (σ := σ) rfl rfl rfl rfl rfl rfl rfl rfl rfl rfl rfl rfl rfl rfl rfl hI.2.1), (c_line_li (σ := σ) rfl rfl rfl rfl rfl rfl rfl rfl rfl rfl rfl rfl rfl rfl rfl rfl rfl rfl rfl rfl rfl hI.2.2.1 z5 t0 rfl ⟨zl.1, zl.2.1, zl.2.2.1, ⟨t4, Int.le_refl _⟩, zl.2.2.2, (by first | exact Or.inl ⟨Or.inr (Or.inr rfl), (by rcases zp with q | q; exact q.1; exfalso; (first | omega | (simp only [Int32.reduceToInt] at m11 m55 c3; omega) | (simp only [Int32.reduceToInt] at m11 m55; omega) | (simp only [Int32.reduceToInt] at m11; omega) | (simp only [Int32.reduceToInt] at c3; omega))), rfl⟩ | exact Or.inr (Or.inr ⟨Or.inr rfl, rfl, (by omega), (by omega), (by omega)⟩)), fun z => absurd z (by decide)⟩), (c_line_or (σ := σ) rfl rfl rfl hI.2.2.2.1 l6 z5), (I_ta_fr (σ := σ) rfl rfl rfl rfl hI.2.2.2.2.1), (I_ba_fr (σ := σ) rfl rfl rfl rfl rfl rfl rfl rfl rfl rfl rfl rfl rfl rfl rfl rfl rfl rfl rfl rfl rfl hI.2.2.2.2.2.1), (I_ex_fr (σ := σ) rfl rfl rfl rfl rfl rfl rfl rfl rfl rfl rfl hI.2.2.2.2.2.2.1), (I_gu_fr (σ := σ) rfl rfl rfl rfl rfl rfl rfl rfl rfl rfl hI.2.2.2.2.2.2.2.1), (I_sh_fr (σ := σ) rfl rfl rfl rfl rfl hI.2.2.2.2.2.2.2.2.1), (I_wa_fr (σ := σ) rfl rfl rfl rfl hI.2.2.2.2.2.2.2.2.2.1), (I_la_fr (σ := σ) rfl rfl rfl rfl rfl rfl rfl rfl rfl rfl rfl hI.2.2.2.2.2.2.2.2.2.2.1), (I_he_fr (σ := σ) rfl hI.2.2.2.2.2.2.2.2.2.2.2)⟩⟩)
                  · refine ⟨rfl, rfl, ?_⟩
                    refine m_comes (by omega) (by omega) (fun hm63a => ?_) (fun hm63a => ?_)
                    · refine ⟨rfl, trivial, ?_⟩
                      first
                      | (exfalso; (first | omega | (simp only [Int32.reduceToInt] at c3 c19 h31a h31b m5 m11 m19 m24 m32 m55 hm63a ⊢; omega)); done)
                      | (have z5 : (σ 10 0).toInt < 100 := by (first | omega | (simp only [Int32.reduceToInt] at c3 c19 h31a h31b m5 m11 m19 m24 m32 m55 hm63a ⊢; omega))
                         have zl : (0 ≤ (5 : Int32).toInt ∧ (5 : Int32).toInt ≤ 5) ∧ (0 ≤ v.toInt ∧ v.toInt < (σ 3 0).toInt) ∧ (0 ≤ a.toInt ∧ a.toInt ≤ (σ 1 0).toInt) ∧ (0 ≤ (0 : Int32).toInt ∧ (0 : Int32).toInt ≤ 100000) := ⟨⟨by decide, by decide⟩, by (first | omega | (simp only [Int32.reduceToInt] at c3 c19 h31a h31b m5 m11 m19 m24 m32 m55 hm63a ⊢; omega)), by (first | omega | (simp only [Int32.reduceToInt] at c3 c19 h31a h31b m5 m11 m19 m24 m32 m55 hm63a ⊢; omega)), ⟨by decide, by decide⟩⟩
                         have zp : (p = -1000000005 ∧ p.toInt = -1000000005) ∨ (p.toInt ≠ -1000000005 ∧ 0 ≤ p.toInt ∧ p.toInt < (σ 3 0).toInt ∧ p.toInt ≠ v.toInt) := by
                           by_cases zz : p.toInt = -1000000005
                           · exact Or.inl ⟨iX zz, zz⟩
                           · exact Or.inr (by (first | omega | (simp only [Int32.reduceToInt] at c3 c19 h31a h31b m5 m11 m19 m24 m32 m55 hm63a ⊢; omega)))
                         subst hτ
                         exact ⟨⟨σ 10 0, rfl, vI_ l0⟩, ⟨(I_tr_fr (σ := σ) rfl rfl rfl rfl rfl rfl rfl rfl hI.1), (I_vo_fr (σ := σ) rfl rfl rfl rfl rfl rfl rfl rfl rfl rfl rfl rfl rfl rfl rfl hI.2.1), (c_line_li (σ := σ) rfl rfl rfl rfl rfl rfl rfl rfl rfl rfl rfl rfl rfl rfl rfl rfl rfl rfl rfl rfl rfl hI.2.2.1 z5 t0 rfl ⟨zl.1, zl.2.1, zl.2.2.1, ⟨t4, Int.le_refl _⟩, zl.2.2.2, (by first | exact Or.inl ⟨Or.inr (Or.inr rfl), (by rcases zp with q | q; exact q.1; exfalso; (first | omega | (simp only [Int32.reduceToInt] at m11 m55 c3; omega) | (simp only [Int32.reduceToInt] at m11 m55; omega) | (simp only [Int32.reduceToInt] at m11; omega) | (simp only [Int32.reduceToInt] at c3; omega))), rfl⟩ | exact Or.inr (Or.inr ⟨Or.inr rfl, rfl, (by omega), (by omega), (by omega)⟩)), fun z => absurd z (by decide)⟩), (c_line_or (σ := σ) rfl rfl rfl hI.2.2.2.1 l6 z5), (I_ta_fr (σ := σ) rfl rfl rfl rfl hI.2.2.2.2.1), (I_ba_fr (σ := σ) rfl rfl rfl rfl rfl rfl rfl rfl rfl rfl rfl rfl rfl rfl rfl rfl rfl rfl rfl rfl rfl hI.2.2.2.2.2.1), (I_ex_fr (σ := σ) rfl rfl rfl rfl rfl rfl rfl rfl rfl rfl rfl hI.2.2.2.2.2.2.1), (I_gu_fr (σ := σ) rfl rfl rfl rfl rfl rfl rfl rfl rfl rfl hI.2.2.2.2.2.2.2.1), (I_sh_fr (σ := σ) rfl rfl rfl rfl rfl hI.2.2.2.2.2.2.2.2.1), (I_wa_fr (σ := σ) rfl rfl rfl rfl hI.2.2.2.2.2.2.2.2.2.1), (I_la_fr (σ := σ) rfl rfl rfl rfl rfl rfl rfl rfl rfl rfl rfl hI.2.2.2.2.2.2.2.2.2.2.1), (I_he_fr (σ := σ) rfl hI.2.2.2.2.2.2.2.2.2.2.2)⟩⟩)
                    · refine ⟨rfl, trivial, ?_⟩
                      first
                      | (exfalso; (first | omega | (simp only [Int32.reduceToInt] at c3 c19 h31a h31b m5 m11 m19 m24 m32 m55 hm63a ⊢; omega)); done)
                      | (have z5 : (σ 10 0).toInt < 100 := by (first | omega | (simp only [Int32.reduceToInt] at c3 c19 h31a h31b m5 m11 m19 m24 m32 m55 hm63a ⊢; omega))
                         have zl : (0 ≤ (5 : Int32).toInt ∧ (5 : Int32).toInt ≤ 5) ∧ (0 ≤ v.toInt ∧ v.toInt < (σ 3 0).toInt) ∧ (0 ≤ a.toInt ∧ a.toInt ≤ (σ 1 0).toInt) ∧ (0 ≤ (0 : Int32).toInt ∧ (0 : Int32).toInt ≤ 100000) := ⟨⟨by decide, by decide⟩, by (first | omega | (simp only [Int32.reduceToInt] at c3 c19 h31a h31b m5 m11 m19 m24 m32 m55 hm63a ⊢; omega)), by (first | omega | (simp only [Int32.reduceToInt] at c3 c19 h31a h31b m5 m11 m19 m24 m32 m55 hm63a ⊢; omega)), ⟨by decide, by decide⟩⟩
                         have zp : (p = -1000000005 ∧ p.toInt = -1000000005) ∨ (p.toInt ≠ -1000000005 ∧ 0 ≤ p.toInt ∧ p.toInt < (σ 3 0).toInt ∧ p.toInt ≠ v.toInt) := by
                           by_cases zz : p.toInt = -1000000005
                           · exact Or.inl ⟨iX zz, zz⟩
                           · exact Or.inr (by (first | omega | (simp only [Int32.reduceToInt] at c3 c19 h31a h31b m5 m11 m19 m24 m32 m55 hm63a ⊢; omega)))
                         subst hτ
                         exact ⟨⟨σ 10 0, rfl, vI_ l0⟩, ⟨(I_tr_fr (σ := σ) rfl rfl rfl rfl rfl rfl rfl rfl hI.1), (I_vo_fr (σ := σ) rfl rfl rfl rfl rfl rfl rfl rfl rfl rfl rfl rfl rfl rfl rfl hI.2.1), (c_line_li (σ := σ) rfl rfl rfl rfl rfl rfl rfl rfl rfl rfl rfl rfl rfl rfl rfl rfl rfl rfl rfl rfl rfl hI.2.2.1 z5 t0 rfl ⟨zl.1, zl.2.1, zl.2.2.1, ⟨t4, Int.le_refl _⟩, zl.2.2.2, (by first | exact Or.inl ⟨Or.inr (Or.inr rfl), (by rcases zp with q | q; exact q.1; exfalso; (first | omega | (simp only [Int32.reduceToInt] at m11 m55 c3; omega) | (simp only [Int32.reduceToInt] at m11 m55; omega) | (simp only [Int32.reduceToInt] at m11; omega) | (simp only [Int32.reduceToInt] at c3; omega))), rfl⟩ | exact Or.inr (Or.inr ⟨Or.inr rfl, rfl, (by omega), (by omega), (by omega)⟩)), fun z => absurd z (by decide)⟩), (c_line_or (σ := σ) rfl rfl rfl hI.2.2.2.1 l6 z5), (I_ta_fr (σ := σ) rfl rfl rfl rfl hI.2.2.2.2.1), (I_ba_fr (σ := σ) rfl rfl rfl rfl rfl rfl rfl rfl rfl rfl rfl rfl rfl rfl rfl rfl rfl rfl rfl rfl rfl hI.2.2.2.2.2.1), (I_ex_fr (σ := σ) rfl rfl rfl rfl rfl rfl rfl rfl rfl rfl rfl hI.2.2.2.2.2.2.1), (I_gu_fr (σ := σ) rfl rfl rfl rfl rfl rfl rfl rfl rfl rfl hI.2.2.2.2.2.2.2.1), (I_sh_fr (σ := σ) rfl rfl rfl rfl rfl hI.2.2.2.2.2.2.2.2.1), (I_wa_fr (σ := σ) rfl rfl rfl rfl hI.2.2.2.2.2.2.2.2.2.1), (I_la_fr (σ := σ) rfl rfl rfl rfl rfl rfl rfl rfl rfl rfl rfl hI.2.2.2.2.2.2.2.2.2.2.1), (I_he_fr (σ := σ) rfl hI.2.2.2.2.2.2.2.2.2.2.2)⟩⟩)
  · refine ⟨rfl, rfl, ?_⟩
    refine s_vhas ?_
    refine ⟨fun c14 => ?_, fun c14 => ?_⟩
    · replace c14 := bI_z c14
      refine ⟨rfl, trivial, ?_⟩
      refine Call_st 200 fun Y hY => ?_
      refine ⟨rfl, rfl, ?_⟩
      refine m_isVoucher (by omega) ?_
      refine ⟨fun m5 => ?_, fun m5 => ?_⟩
      · replace m5 := bI_z m5
        refine ⟨fun _ => ?_, fun z => absurd (by decide) z⟩
        refine ⟨rfl, trivial, ?_⟩
        first | exact ⟨⟨_, rfl, rfl⟩, hI⟩ | (exfalso; (first | omega | (simp only [Int32.reduceToInt] at c3 c14 m5 ⊢; omega)))
      · replace m5 := bI_nz m5
        refine ⟨fun m11 => ?_, fun m11 => ?_⟩
        · refine ⟨fun m24 => ?_, fun m24 => ?_⟩
          · refine ⟨fun _ => ?_, fun z => absurd (by decide) z⟩
            refine ⟨rfl, trivial, ?_⟩
            first | exact ⟨⟨_, rfl, rfl⟩, hI⟩ | (exfalso; (first | omega | (simp only [Int32.reduceToInt] at c3 c14 m5 m11 m24 ⊢; omega)))
          · refine ⟨rfl, rfl, ?_⟩
            refine m_isPast ?_
            refine ⟨fun m32 => ?_, fun m32 => ?_⟩
            · replace m32 := bI_z m32
              refine ⟨fun _ => ?_, fun z => absurd (by decide) z⟩
              refine ⟨rfl, trivial, ?_⟩
              first | exact ⟨⟨_, rfl, rfl⟩, hI⟩ | (exfalso; (first | omega | (simp only [Int32.reduceToInt] at c3 c14 m5 m11 m24 m32 ⊢; omega)))
            · replace m32 := bI_nz m32
              refine ⟨fun z => absurd z (by decide), fun _ => ?_⟩
              refine ⟨fun m55 => ?_, fun m55 => ?_⟩
              · refine ⟨rfl, rfl, ?_⟩
                refine m_comes (by omega) (by omega) (fun hm63a => ?_) (fun hm63a => ?_)
                · refine ⟨rfl, trivial, ?_⟩
                  first | exact ⟨⟨_, rfl, rfl⟩, hI⟩ | (exfalso; (first | omega | (simp only [Int32.reduceToInt] at c3 c14 m5 m11 m24 m32 m55 hm63a ⊢; omega)))
                · refine ⟨rfl, trivial, ?_⟩
                  first | exact ⟨⟨_, rfl, rfl⟩, hI⟩ | (exfalso; (first | omega | (simp only [Int32.reduceToInt] at c3 c14 m5 m11 m24 m32 m55 hm63a ⊢; omega)))
              · refine ⟨rfl, rfl, ?_⟩
                refine m_comes (by omega) (by omega) (fun hm63a => ?_) (fun hm63a => ?_)
                · refine ⟨rfl, trivial, ?_⟩
                  first | exact ⟨⟨_, rfl, rfl⟩, hI⟩ | (exfalso; (first | omega | (simp only [Int32.reduceToInt] at c3 c14 m5 m11 m24 m32 m55 hm63a ⊢; omega)))
                · refine ⟨rfl, trivial, ?_⟩
                  first | exact ⟨⟨_, rfl, rfl⟩, hI⟩ | (exfalso; (first | omega | (simp only [Int32.reduceToInt] at c3 c14 m5 m11 m24 m32 m55 hm63a ⊢; omega)))
        · refine ⟨rfl, rfl, ?_⟩
          refine m_isVoucher (by omega) ?_
          refine ⟨fun m19 => ?_, fun m19 => ?_⟩
          · replace m19 := bI_z m19
            refine ⟨fun _ => ?_, fun z => absurd (by decide) z⟩
            refine ⟨rfl, trivial, ?_⟩
            first | exact ⟨⟨_, rfl, rfl⟩, hI⟩ | (exfalso; (first | omega | (simp only [Int32.reduceToInt] at c3 c14 m5 m11 m19 ⊢; omega)))
          · replace m19 := bI_nz m19
            refine ⟨fun m24 => ?_, fun m24 => ?_⟩
            · refine ⟨fun _ => ?_, fun z => absurd (by decide) z⟩
              refine ⟨rfl, trivial, ?_⟩
              first | exact ⟨⟨_, rfl, rfl⟩, hI⟩ | (exfalso; (first | omega | (simp only [Int32.reduceToInt] at c3 c14 m5 m11 m19 m24 ⊢; omega)))
            · refine ⟨rfl, rfl, ?_⟩
              refine m_isPast ?_
              refine ⟨fun m32 => ?_, fun m32 => ?_⟩
              · replace m32 := bI_z m32
                refine ⟨fun _ => ?_, fun z => absurd (by decide) z⟩
                refine ⟨rfl, trivial, ?_⟩
                first | exact ⟨⟨_, rfl, rfl⟩, hI⟩ | (exfalso; (first | omega | (simp only [Int32.reduceToInt] at c3 c14 m5 m11 m19 m24 m32 ⊢; omega)))
              · replace m32 := bI_nz m32
                refine ⟨fun z => absurd z (by decide), fun _ => ?_⟩
                refine ⟨fun m55 => ?_, fun m55 => ?_⟩
                · refine ⟨rfl, rfl, ?_⟩
                  refine m_comes (by omega) (by omega) (fun hm63a => ?_) (fun hm63a => ?_)
                  · refine ⟨rfl, trivial, ?_⟩
                    first | exact ⟨⟨_, rfl, rfl⟩, hI⟩ | (exfalso; (first | omega | (simp only [Int32.reduceToInt] at c3 c14 m5 m11 m19 m24 m32 m55 hm63a ⊢; omega)))
                  · refine ⟨rfl, trivial, ?_⟩
                    first | exact ⟨⟨_, rfl, rfl⟩, hI⟩ | (exfalso; (first | omega | (simp only [Int32.reduceToInt] at c3 c14 m5 m11 m19 m24 m32 m55 hm63a ⊢; omega)))
                · refine ⟨rfl, rfl, ?_⟩
                  refine m_comes (by omega) (by omega) (fun hm63a => ?_) (fun hm63a => ?_)
                  · refine ⟨rfl, trivial, ?_⟩
                    first | exact ⟨⟨_, rfl, rfl⟩, hI⟩ | (exfalso; (first | omega | (simp only [Int32.reduceToInt] at c3 c14 m5 m11 m19 m24 m32 m55 hm63a ⊢; omega)))
                  · refine ⟨rfl, trivial, ?_⟩
                    first | exact ⟨⟨_, rfl, rfl⟩, hI⟩ | (exfalso; (first | omega | (simp only [Int32.reduceToInt] at c3 c14 m5 m11 m19 m24 m32 m55 hm63a ⊢; omega)))
    · replace c14 := bI_nz c14
      refine ⟨fun c19 => ?_, fun c19 => ?_⟩
      · refine ⟨rfl, trivial, ?_⟩
        refine Call_st 200 fun Y hY => ?_
        refine ⟨rfl, rfl, ?_⟩
        refine m_isVoucher (by omega) ?_
        refine ⟨fun m5 => ?_, fun m5 => ?_⟩
        · replace m5 := bI_z m5
          refine ⟨fun _ => ?_, fun z => absurd (by decide) z⟩
          refine ⟨rfl, trivial, ?_⟩
          first | exact ⟨⟨_, rfl, rfl⟩, hI⟩ | (exfalso; (first | omega | (simp only [Int32.reduceToInt] at c3 c14 c19 m5 ⊢; omega)))
        · replace m5 := bI_nz m5
          refine ⟨fun m11 => ?_, fun m11 => ?_⟩
          · refine ⟨fun m24 => ?_, fun m24 => ?_⟩
            · refine ⟨fun _ => ?_, fun z => absurd (by decide) z⟩
              refine ⟨rfl, trivial, ?_⟩
              first | exact ⟨⟨_, rfl, rfl⟩, hI⟩ | (exfalso; (first | omega | (simp only [Int32.reduceToInt] at c3 c14 c19 m5 m11 m24 ⊢; omega)))
            · refine ⟨rfl, rfl, ?_⟩
              refine m_isPast ?_
              refine ⟨fun m32 => ?_, fun m32 => ?_⟩
              · replace m32 := bI_z m32
                refine ⟨fun _ => ?_, fun z => absurd (by decide) z⟩
                refine ⟨rfl, trivial, ?_⟩
                first | exact ⟨⟨_, rfl, rfl⟩, hI⟩ | (exfalso; (first | omega | (simp only [Int32.reduceToInt] at c3 c14 c19 m5 m11 m24 m32 ⊢; omega)))
              · replace m32 := bI_nz m32
                refine ⟨fun z => absurd z (by decide), fun _ => ?_⟩
                refine ⟨fun m55 => ?_, fun m55 => ?_⟩
                · refine ⟨rfl, rfl, ?_⟩
                  refine m_comes (by omega) (by omega) (fun hm63a => ?_) (fun hm63a => ?_)
                  · refine ⟨rfl, trivial, ?_⟩
                    first | exact ⟨⟨_, rfl, rfl⟩, hI⟩ | (exfalso; (first | omega | (simp only [Int32.reduceToInt] at c3 c14 c19 m5 m11 m24 m32 m55 hm63a ⊢; omega)))
                  · refine ⟨rfl, trivial, ?_⟩
                    first | exact ⟨⟨_, rfl, rfl⟩, hI⟩ | (exfalso; (first | omega | (simp only [Int32.reduceToInt] at c3 c14 c19 m5 m11 m24 m32 m55 hm63a ⊢; omega)))
                · refine ⟨rfl, rfl, ?_⟩
                  refine m_comes (by omega) (by omega) (fun hm63a => ?_) (fun hm63a => ?_)
                  · refine ⟨rfl, trivial, ?_⟩
                    first | exact ⟨⟨_, rfl, rfl⟩, hI⟩ | (exfalso; (first | omega | (simp only [Int32.reduceToInt] at c3 c14 c19 m5 m11 m24 m32 m55 hm63a ⊢; omega)))
                  · refine ⟨rfl, trivial, ?_⟩
                    first | exact ⟨⟨_, rfl, rfl⟩, hI⟩ | (exfalso; (first | omega | (simp only [Int32.reduceToInt] at c3 c14 c19 m5 m11 m24 m32 m55 hm63a ⊢; omega)))
          · refine ⟨rfl, rfl, ?_⟩
            refine m_isVoucher (by omega) ?_
            refine ⟨fun m19 => ?_, fun m19 => ?_⟩
            · replace m19 := bI_z m19
              refine ⟨fun _ => ?_, fun z => absurd (by decide) z⟩
              refine ⟨rfl, trivial, ?_⟩
              first | exact ⟨⟨_, rfl, rfl⟩, hI⟩ | (exfalso; (first | omega | (simp only [Int32.reduceToInt] at c3 c14 c19 m5 m11 m19 ⊢; omega)))
            · replace m19 := bI_nz m19
              refine ⟨fun m24 => ?_, fun m24 => ?_⟩
              · refine ⟨fun _ => ?_, fun z => absurd (by decide) z⟩
                refine ⟨rfl, trivial, ?_⟩
                first | exact ⟨⟨_, rfl, rfl⟩, hI⟩ | (exfalso; (first | omega | (simp only [Int32.reduceToInt] at c3 c14 c19 m5 m11 m19 m24 ⊢; omega)))
              · refine ⟨rfl, rfl, ?_⟩
                refine m_isPast ?_
                refine ⟨fun m32 => ?_, fun m32 => ?_⟩
                · replace m32 := bI_z m32
                  refine ⟨fun _ => ?_, fun z => absurd (by decide) z⟩
                  refine ⟨rfl, trivial, ?_⟩
                  first | exact ⟨⟨_, rfl, rfl⟩, hI⟩ | (exfalso; (first | omega | (simp only [Int32.reduceToInt] at c3 c14 c19 m5 m11 m19 m24 m32 ⊢; omega)))
                · replace m32 := bI_nz m32
                  refine ⟨fun z => absurd z (by decide), fun _ => ?_⟩
                  refine ⟨fun m55 => ?_, fun m55 => ?_⟩
                  · refine ⟨rfl, rfl, ?_⟩
                    refine m_comes (by omega) (by omega) (fun hm63a => ?_) (fun hm63a => ?_)
                    · refine ⟨rfl, trivial, ?_⟩
                      first | exact ⟨⟨_, rfl, rfl⟩, hI⟩ | (exfalso; (first | omega | (simp only [Int32.reduceToInt] at c3 c14 c19 m5 m11 m19 m24 m32 m55 hm63a ⊢; omega)))
                    · refine ⟨rfl, trivial, ?_⟩
                      first | exact ⟨⟨_, rfl, rfl⟩, hI⟩ | (exfalso; (first | omega | (simp only [Int32.reduceToInt] at c3 c14 c19 m5 m11 m19 m24 m32 m55 hm63a ⊢; omega)))
                  · refine ⟨rfl, rfl, ?_⟩
                    refine m_comes (by omega) (by omega) (fun hm63a => ?_) (fun hm63a => ?_)
                    · refine ⟨rfl, trivial, ?_⟩
                      first | exact ⟨⟨_, rfl, rfl⟩, hI⟩ | (exfalso; (first | omega | (simp only [Int32.reduceToInt] at c3 c14 c19 m5 m11 m19 m24 m32 m55 hm63a ⊢; omega)))
                    · refine ⟨rfl, trivial, ?_⟩
                      first | exact ⟨⟨_, rfl, rfl⟩, hI⟩ | (exfalso; (first | omega | (simp only [Int32.reduceToInt] at c3 c14 c19 m5 m11 m19 m24 m32 m55 hm63a ⊢; omega)))
      · refine ⟨rfl, rfl, ?_⟩
        refine s_tellLine (by omega) hr (fun h31a => ?_) (fun h31a h31b => ?_) (fun h31a h31b => ?_)
        · refine ⟨rfl, trivial, ?_⟩
          refine Call_st 200 fun Y hY => ?_
          refine ⟨rfl, rfl, ?_⟩
          refine m_isVoucher (by omega) ?_
          refine ⟨fun m5 => ?_, fun m5 => ?_⟩
          · replace m5 := bI_z m5
            refine ⟨fun _ => ?_, fun z => absurd (by decide) z⟩
            refine ⟨rfl, trivial, ?_⟩
            first | exact ⟨⟨_, rfl, rfl⟩, hI⟩ | (exfalso; (first | omega | (simp only [Int32.reduceToInt] at c3 c14 c19 h31a m5 ⊢; omega)))
          · replace m5 := bI_nz m5
            refine ⟨fun m11 => ?_, fun m11 => ?_⟩
            · refine ⟨fun m24 => ?_, fun m24 => ?_⟩
              · refine ⟨fun _ => ?_, fun z => absurd (by decide) z⟩
                refine ⟨rfl, trivial, ?_⟩
                first | exact ⟨⟨_, rfl, rfl⟩, hI⟩ | (exfalso; (first | omega | (simp only [Int32.reduceToInt] at c3 c14 c19 h31a m5 m11 m24 ⊢; omega)))
              · refine ⟨rfl, rfl, ?_⟩
                refine m_isPast ?_
                refine ⟨fun m32 => ?_, fun m32 => ?_⟩
                · replace m32 := bI_z m32
                  refine ⟨fun _ => ?_, fun z => absurd (by decide) z⟩
                  refine ⟨rfl, trivial, ?_⟩
                  first | exact ⟨⟨_, rfl, rfl⟩, hI⟩ | (exfalso; (first | omega | (simp only [Int32.reduceToInt] at c3 c14 c19 h31a m5 m11 m24 m32 ⊢; omega)))
                · replace m32 := bI_nz m32
                  refine ⟨fun z => absurd z (by decide), fun _ => ?_⟩
                  refine ⟨fun m55 => ?_, fun m55 => ?_⟩
                  · refine ⟨rfl, rfl, ?_⟩
                    refine m_comes (by omega) (by omega) (fun hm63a => ?_) (fun hm63a => ?_)
                    · refine ⟨rfl, trivial, ?_⟩
                      first | exact ⟨⟨_, rfl, rfl⟩, hI⟩ | (exfalso; (first | omega | (simp only [Int32.reduceToInt] at c3 c14 c19 h31a m5 m11 m24 m32 m55 hm63a ⊢; omega)))
                    · refine ⟨rfl, trivial, ?_⟩
                      first | exact ⟨⟨_, rfl, rfl⟩, hI⟩ | (exfalso; (first | omega | (simp only [Int32.reduceToInt] at c3 c14 c19 h31a m5 m11 m24 m32 m55 hm63a ⊢; omega)))
                  · refine ⟨rfl, rfl, ?_⟩
                    refine m_comes (by omega) (by omega) (fun hm63a => ?_) (fun hm63a => ?_)
                    · refine ⟨rfl, trivial, ?_⟩
                      first | exact ⟨⟨_, rfl, rfl⟩, hI⟩ | (exfalso; (first | omega | (simp only [Int32.reduceToInt] at c3 c14 c19 h31a m5 m11 m24 m32 m55 hm63a ⊢; omega)))
                    · refine ⟨rfl, trivial, ?_⟩
                      first | exact ⟨⟨_, rfl, rfl⟩, hI⟩ | (exfalso; (first | omega | (simp only [Int32.reduceToInt] at c3 c14 c19 h31a m5 m11 m24 m32 m55 hm63a ⊢; omega)))
            · refine ⟨rfl, rfl, ?_⟩
              refine m_isVoucher (by omega) ?_
              refine ⟨fun m19 => ?_, fun m19 => ?_⟩
              · replace m19 := bI_z m19
                refine ⟨fun _ => ?_, fun z => absurd (by decide) z⟩
                refine ⟨rfl, trivial, ?_⟩
                first | exact ⟨⟨_, rfl, rfl⟩, hI⟩ | (exfalso; (first | omega | (simp only [Int32.reduceToInt] at c3 c14 c19 h31a m5 m11 m19 ⊢; omega)))
              · replace m19 := bI_nz m19
                refine ⟨fun m24 => ?_, fun m24 => ?_⟩
                · refine ⟨fun _ => ?_, fun z => absurd (by decide) z⟩
                  refine ⟨rfl, trivial, ?_⟩
                  first | exact ⟨⟨_, rfl, rfl⟩, hI⟩ | (exfalso; (first | omega | (simp only [Int32.reduceToInt] at c3 c14 c19 h31a m5 m11 m19 m24 ⊢; omega)))
                · refine ⟨rfl, rfl, ?_⟩
                  refine m_isPast ?_
                  refine ⟨fun m32 => ?_, fun m32 => ?_⟩
                  · replace m32 := bI_z m32
                    refine ⟨fun _ => ?_, fun z => absurd (by decide) z⟩
                    refine ⟨rfl, trivial, ?_⟩
                    first | exact ⟨⟨_, rfl, rfl⟩, hI⟩ | (exfalso; (first | omega | (simp only [Int32.reduceToInt] at c3 c14 c19 h31a m5 m11 m19 m24 m32 ⊢; omega)))
                  · replace m32 := bI_nz m32
                    refine ⟨fun z => absurd z (by decide), fun _ => ?_⟩
                    refine ⟨fun m55 => ?_, fun m55 => ?_⟩
                    · refine ⟨rfl, rfl, ?_⟩
                      refine m_comes (by omega) (by omega) (fun hm63a => ?_) (fun hm63a => ?_)
                      · refine ⟨rfl, trivial, ?_⟩
                        first | exact ⟨⟨_, rfl, rfl⟩, hI⟩ | (exfalso; (first | omega | (simp only [Int32.reduceToInt] at c3 c14 c19 h31a m5 m11 m19 m24 m32 m55 hm63a ⊢; omega)))
                      · refine ⟨rfl, trivial, ?_⟩
                        first | exact ⟨⟨_, rfl, rfl⟩, hI⟩ | (exfalso; (first | omega | (simp only [Int32.reduceToInt] at c3 c14 c19 h31a m5 m11 m19 m24 m32 m55 hm63a ⊢; omega)))
                    · refine ⟨rfl, rfl, ?_⟩
                      refine m_comes (by omega) (by omega) (fun hm63a => ?_) (fun hm63a => ?_)
                      · refine ⟨rfl, trivial, ?_⟩
                        first | exact ⟨⟨_, rfl, rfl⟩, hI⟩ | (exfalso; (first | omega | (simp only [Int32.reduceToInt] at c3 c14 c19 h31a m5 m11 m19 m24 m32 m55 hm63a ⊢; omega)))
                      · refine ⟨rfl, trivial, ?_⟩
                        first | exact ⟨⟨_, rfl, rfl⟩, hI⟩ | (exfalso; (first | omega | (simp only [Int32.reduceToInt] at c3 c14 c19 h31a m5 m11 m19 m24 m32 m55 hm63a ⊢; omega)))
        · refine ⟨rfl, trivial, ?_⟩
          refine Call_st 200 fun Y hY => ?_
          refine ⟨rfl, rfl, ?_⟩
          refine m_isVoucher (by omega) ?_
          refine ⟨fun m5 => ?_, fun m5 => ?_⟩
          · replace m5 := bI_z m5
            refine ⟨fun _ => ?_, fun z => absurd (by decide) z⟩
            refine ⟨rfl, trivial, ?_⟩
            first | exact ⟨⟨_, rfl, rfl⟩, hI⟩ | (exfalso; (first | omega | (simp only [Int32.reduceToInt] at c3 c14 c19 h31a h31b m5 ⊢; omega)))
          · replace m5 := bI_nz m5
            refine ⟨fun m11 => ?_, fun m11 => ?_⟩
            · refine ⟨fun m24 => ?_, fun m24 => ?_⟩
              · refine ⟨fun _ => ?_, fun z => absurd (by decide) z⟩
                refine ⟨rfl, trivial, ?_⟩
                first | exact ⟨⟨_, rfl, rfl⟩, hI⟩ | (exfalso; (first | omega | (simp only [Int32.reduceToInt] at c3 c14 c19 h31a h31b m5 m11 m24 ⊢; omega)))
              · refine ⟨rfl, rfl, ?_⟩
                refine m_isPast ?_
                refine ⟨fun m32 => ?_, fun m32 => ?_⟩
                · replace m32 := bI_z m32
                  refine ⟨fun _ => ?_, fun z => absurd (by decide) z⟩
                  refine ⟨rfl, trivial, ?_⟩
                  first | exact ⟨⟨_, rfl, rfl⟩, hI⟩ | (exfalso; (first | omega | (simp only [Int32.reduceToInt] at c3 c14 c19 h31a h31b m5 m11 m24 m32 ⊢; omega)))
                · replace m32 := bI_nz m32
                  refine ⟨fun z => absurd z (by decide), fun _ => ?_⟩
                  refine ⟨fun m55 => ?_, fun m55 => ?_⟩
                  · refine ⟨rfl, rfl, ?_⟩
                    refine m_comes (by omega) (by omega) (fun hm63a => ?_) (fun hm63a => ?_)
                    · refine ⟨rfl, trivial, ?_⟩
                      first | exact ⟨⟨_, rfl, rfl⟩, hI⟩ | (exfalso; (first | omega | (simp only [Int32.reduceToInt] at c3 c14 c19 h31a h31b m5 m11 m24 m32 m55 hm63a ⊢; omega)))
                    · refine ⟨rfl, trivial, ?_⟩
                      first | exact ⟨⟨_, rfl, rfl⟩, hI⟩ | (exfalso; (first | omega | (simp only [Int32.reduceToInt] at c3 c14 c19 h31a h31b m5 m11 m24 m32 m55 hm63a ⊢; omega)))
                  · refine ⟨rfl, rfl, ?_⟩
                    refine m_comes (by omega) (by omega) (fun hm63a => ?_) (fun hm63a => ?_)
                    · refine ⟨rfl, trivial, ?_⟩
                      first | exact ⟨⟨_, rfl, rfl⟩, hI⟩ | (exfalso; (first | omega | (simp only [Int32.reduceToInt] at c3 c14 c19 h31a h31b m5 m11 m24 m32 m55 hm63a ⊢; omega)))
                    · refine ⟨rfl, trivial, ?_⟩
                      first | exact ⟨⟨_, rfl, rfl⟩, hI⟩ | (exfalso; (first | omega | (simp only [Int32.reduceToInt] at c3 c14 c19 h31a h31b m5 m11 m24 m32 m55 hm63a ⊢; omega)))
            · refine ⟨rfl, rfl, ?_⟩
              refine m_isVoucher (by omega) ?_
              refine ⟨fun m19 => ?_, fun m19 => ?_⟩
              · replace m19 := bI_z m19
                refine ⟨fun _ => ?_, fun z => absurd (by decide) z⟩
                refine ⟨rfl, trivial, ?_⟩
                first | exact ⟨⟨_, rfl, rfl⟩, hI⟩ | (exfalso; (first | omega | (simp only [Int32.reduceToInt] at c3 c14 c19 h31a h31b m5 m11 m19 ⊢; omega)))
              · replace m19 := bI_nz m19
                refine ⟨fun m24 => ?_, fun m24 => ?_⟩
                · refine ⟨fun _ => ?_, fun z => absurd (by decide) z⟩
                  refine ⟨rfl, trivial, ?_⟩
                  first | exact ⟨⟨_, rfl, rfl⟩, hI⟩ | (exfalso; (first | omega | (simp only [Int32.reduceToInt] at c3 c14 c19 h31a h31b m5 m11 m19 m24 ⊢; omega)))
                · refine ⟨rfl, rfl, ?_⟩
                  refine m_isPast ?_
                  refine ⟨fun m32 => ?_, fun m32 => ?_⟩
                  · replace m32 := bI_z m32
                    refine ⟨fun _ => ?_, fun z => absurd (by decide) z⟩
                    refine ⟨rfl, trivial, ?_⟩
                    first | exact ⟨⟨_, rfl, rfl⟩, hI⟩ | (exfalso; (first | omega | (simp only [Int32.reduceToInt] at c3 c14 c19 h31a h31b m5 m11 m19 m24 m32 ⊢; omega)))
                  · replace m32 := bI_nz m32
                    refine ⟨fun z => absurd z (by decide), fun _ => ?_⟩
                    refine ⟨fun m55 => ?_, fun m55 => ?_⟩
                    · refine ⟨rfl, rfl, ?_⟩
                      refine m_comes (by omega) (by omega) (fun hm63a => ?_) (fun hm63a => ?_)
                      · refine ⟨rfl, trivial, ?_⟩
                        first | exact ⟨⟨_, rfl, rfl⟩, hI⟩ | (exfalso; (first | omega | (simp only [Int32.reduceToInt] at c3 c14 c19 h31a h31b m5 m11 m19 m24 m32 m55 hm63a ⊢; omega)))
                      · refine ⟨rfl, trivial, ?_⟩
                        first | exact ⟨⟨_, rfl, rfl⟩, hI⟩ | (exfalso; (first | omega | (simp only [Int32.reduceToInt] at c3 c14 c19 h31a h31b m5 m11 m19 m24 m32 m55 hm63a ⊢; omega)))
                    · refine ⟨rfl, rfl, ?_⟩
                      refine m_comes (by omega) (by omega) (fun hm63a => ?_) (fun hm63a => ?_)
                      · refine ⟨rfl, trivial, ?_⟩
                        first | exact ⟨⟨_, rfl, rfl⟩, hI⟩ | (exfalso; (first | omega | (simp only [Int32.reduceToInt] at c3 c14 c19 h31a h31b m5 m11 m19 m24 m32 m55 hm63a ⊢; omega)))
                      · refine ⟨rfl, trivial, ?_⟩
                        first | exact ⟨⟨_, rfl, rfl⟩, hI⟩ | (exfalso; (first | omega | (simp only [Int32.reduceToInt] at c3 c14 c19 h31a h31b m5 m11 m19 m24 m32 m55 hm63a ⊢; omega)))
        · refine ⟨rfl, trivial, ?_⟩
          refine nxt fun τ hτ => ?_
          have e88 : τ 88 = σ 88 := by rw [hτ]; rfl
          have qτtoday : (τ 88 0).toInt = (σ 1 0).toInt := by rw [e88, t0]
          have qτshops : (τ 88 2).toInt = (σ 1 2).toInt := by rw [e88, t2]
          have qτvouchers : (τ 88 4).toInt = (σ 3 0).toInt := by rw [e88, v0]
          have qτlines : (τ 88 11).toInt = (σ 10 0).toInt := by rw [e88, l0]
          refine Call_st 200 fun Y hY => ?_
          refine ⟨rfl, rfl, ?_⟩
          refine m_isVoucher (by omega) ?_
          refine ⟨fun m5 => ?_, fun m5 => ?_⟩
          · replace m5 := bI_z m5
            refine ⟨fun _ => ?_, fun z => absurd (by decide) z⟩
            refine ⟨rfl, trivial, ?_⟩
            first
            | (exfalso; (first | omega | (simp only [Int32.reduceToInt] at c3 c14 c19 h31a h31b m5 ⊢; omega)); done)
            | (have z5 : (σ 10 0).toInt < 100 := by (first | omega | (simp only [Int32.reduceToInt] at c3 c14 c19 h31a h31b m5 ⊢; omega))
               have zl : (0 ≤ (5 : Int32).toInt ∧ (5 : Int32).toInt ≤ 5) ∧ (0 ≤ v.toInt ∧ v.toInt < (σ 3 0).toInt) ∧ (0 ≤ a.toInt ∧ a.toInt ≤ (σ 1 0).toInt) ∧ (0 ≤ (0 : Int32).toInt ∧ (0 : Int32).toInt ≤ 100000) := ⟨⟨by decide, by decide⟩, by (first | omega | (simp only [Int32.reduceToInt] at c3 c14 c19 h31a h31b m5 ⊢; omega)), by (first | omega | (simp only [Int32.reduceToInt] at c3 c14 c19 h31a h31b m5 ⊢; omega)), ⟨by decide, by decide⟩⟩
               have zp : (p = -1000000005 ∧ p.toInt = -1000000005) ∨ (p.toInt ≠ -1000000005 ∧ 0 ≤ p.toInt ∧ p.toInt < (σ 3 0).toInt ∧ p.toInt ≠ v.toInt) := by
                 by_cases zz : p.toInt = -1000000005
                 · exact Or.inl ⟨iX zz, zz⟩
                 · exact Or.inr (by (first | omega | (simp only [Int32.reduceToInt] at c3 c14 c19 h31a h31b m5 ⊢; omega)))
               subst hτ
               exact ⟨⟨σ 10 0, rfl, vI_ l0⟩, ⟨(I_tr_fr (σ := σ) rfl rfl rfl rfl rfl rfl rfl rfl hI.1), (I_vo_fr (σ := σ) rfl rfl rfl rfl rfl rfl rfl rfl rfl rfl rfl rfl rfl rfl rfl hI.2.1), (c_line_li (σ := σ) rfl rfl rfl rfl rfl rfl rfl rfl rfl rfl rfl rfl rfl rfl rfl rfl rfl rfl rfl rfl rfl hI.2.2.1 z5 t0 rfl ⟨zl.1, zl.2.1, zl.2.2.1, ⟨t4, Int.le_refl _⟩, zl.2.2.2, (by first | exact Or.inl ⟨Or.inr (Or.inr rfl), (by rcases zp with q | q; exact q.1; exfalso; (first | omega | (simp only [Int32.reduceToInt] at m11 m55 c3; omega) | (simp only [Int32.reduceToInt] at m11 m55; omega) | (simp only [Int32.reduceToInt] at m11; omega) | (simp only [Int32.reduceToInt] at c3; omega))), rfl⟩ | exact Or.inr (Or.inr ⟨Or.inr rfl, rfl, (by omega), (by omega), (by omega)⟩)), fun z => absurd z (by decide)⟩), (c_line_or (σ := σ) rfl rfl rfl hI.2.2.2.1 l6 z5), (I_ta_fr (σ := σ) rfl rfl rfl rfl hI.2.2.2.2.1), (I_ba_fr (σ := σ) rfl rfl rfl rfl rfl rfl rfl rfl rfl rfl rfl rfl rfl rfl rfl rfl rfl rfl rfl rfl rfl hI.2.2.2.2.2.1), (I_ex_fr (σ := σ) rfl rfl rfl rfl rfl rfl rfl rfl rfl rfl rfl hI.2.2.2.2.2.2.1), (I_gu_fr (σ := σ) rfl rfl rfl rfl rfl rfl rfl rfl rfl rfl hI.2.2.2.2.2.2.2.1), (I_sh_fr (σ := σ) rfl rfl rfl rfl rfl hI.2.2.2.2.2.2.2.2.1), (I_wa_fr (σ := σ) rfl rfl rfl rfl hI.2.2.2.2.2.2.2.2.2.1), (I_la_fr (σ := σ) rfl rfl rfl rfl rfl rfl rfl rfl rfl rfl rfl hI.2.2.2.2.2.2.2.2.2.2.1), (I_he_fr (σ := σ) rfl hI.2.2.2.2.2.2.2.2.2.2.2)⟩⟩)
          · replace m5 := bI_nz m5
            refine ⟨fun m11 => ?_, fun m11 => ?_⟩
            · refine ⟨fun m24 => ?_, fun m24 => ?_⟩
              · refine ⟨fun _ => ?_, fun z => absurd (by decide) z⟩
                refine ⟨rfl, trivial, ?_⟩
                first
                | (exfalso; (first | omega | (simp only [Int32.reduceToInt] at c3 c14 c19 h31a h31b m5 m11 m24 ⊢; omega)); done)
                | (have z5 : (σ 10 0).toInt < 100 := by (first | omega | (simp only [Int32.reduceToInt] at c3 c14 c19 h31a h31b m5 m11 m24 ⊢; omega))
                   have zl : (0 ≤ (5 : Int32).toInt ∧ (5 : Int32).toInt ≤ 5) ∧ (0 ≤ v.toInt ∧ v.toInt < (σ 3 0).toInt) ∧ (0 ≤ a.toInt ∧ a.toInt ≤ (σ 1 0).toInt) ∧ (0 ≤ (0 : Int32).toInt ∧ (0 : Int32).toInt ≤ 100000) := ⟨⟨by decide, by decide⟩, by (first | omega | (simp only [Int32.reduceToInt] at c3 c14 c19 h31a h31b m5 m11 m24 ⊢; omega)), by (first | omega | (simp only [Int32.reduceToInt] at c3 c14 c19 h31a h31b m5 m11 m24 ⊢; omega)), ⟨by decide, by decide⟩⟩
                   have zp : (p = -1000000005 ∧ p.toInt = -1000000005) ∨ (p.toInt ≠ -1000000005 ∧ 0 ≤ p.toInt ∧ p.toInt < (σ 3 0).toInt ∧ p.toInt ≠ v.toInt) := by
                     by_cases zz : p.toInt = -1000000005
                     · exact Or.inl ⟨iX zz, zz⟩
                     · exact Or.inr (by (first | omega | (simp only [Int32.reduceToInt] at c3 c14 c19 h31a h31b m5 m11 m24 ⊢; omega)))
                   subst hτ
                   exact ⟨⟨σ 10 0, rfl, vI_ l0⟩, ⟨(I_tr_fr (σ := σ) rfl rfl rfl rfl rfl rfl rfl rfl hI.1), (I_vo_fr (σ := σ) rfl rfl rfl rfl rfl rfl rfl rfl rfl rfl rfl rfl rfl rfl rfl hI.2.1), (c_line_li (σ := σ) rfl rfl rfl rfl rfl rfl rfl rfl rfl rfl rfl rfl rfl rfl rfl rfl rfl rfl rfl rfl rfl hI.2.2.1 z5 t0 rfl ⟨zl.1, zl.2.1, zl.2.2.1, ⟨t4, Int.le_refl _⟩, zl.2.2.2, (by first | exact Or.inl ⟨Or.inr (Or.inr rfl), (by rcases zp with q | q; exact q.1; exfalso; (first | omega | (simp only [Int32.reduceToInt] at m11 m55 c3; omega) | (simp only [Int32.reduceToInt] at m11 m55; omega) | (simp only [Int32.reduceToInt] at m11; omega) | (simp only [Int32.reduceToInt] at c3; omega))), rfl⟩ | exact Or.inr (Or.inr ⟨Or.inr rfl, rfl, (by omega), (by omega), (by omega)⟩)), fun z => absurd z (by decide)⟩), (c_line_or (σ := σ) rfl rfl rfl hI.2.2.2.1 l6 z5), (I_ta_fr (σ := σ) rfl rfl rfl rfl hI.2.2.2.2.1), (I_ba_fr (σ := σ) rfl rfl rfl rfl rfl rfl rfl rfl rfl rfl rfl rfl rfl rfl rfl rfl rfl rfl rfl rfl rfl hI.2.2.2.2.2.1), (I_ex_fr (σ := σ) rfl rfl rfl rfl rfl rfl rfl rfl rfl rfl rfl hI.2.2.2.2.2.2.1), (I_gu_fr (σ := σ) rfl rfl rfl rfl rfl rfl rfl rfl rfl rfl hI.2.2.2.2.2.2.2.1), (I_sh_fr (σ := σ) rfl rfl rfl rfl rfl hI.2.2.2.2.2.2.2.2.1), (I_wa_fr (σ := σ) rfl rfl rfl rfl hI.2.2.2.2.2.2.2.2.2.1), (I_la_fr (σ := σ) rfl rfl rfl rfl rfl rfl rfl rfl rfl rfl rfl hI.2.2.2.2.2.2.2.2.2.2.1), (I_he_fr (σ := σ) rfl hI.2.2.2.2.2.2.2.2.2.2.2)⟩⟩)
              · refine ⟨rfl, rfl, ?_⟩
                refine m_isPast ?_
                refine ⟨fun m32 => ?_, fun m32 => ?_⟩
                · replace m32 := bI_z m32
                  refine ⟨fun _ => ?_, fun z => absurd (by decide) z⟩
                  refine ⟨rfl, trivial, ?_⟩
                  first
                  | (exfalso; (first | omega | (simp only [Int32.reduceToInt] at c3 c14 c19 h31a h31b m5 m11 m24 m32 ⊢; omega)); done)
                  | (have z5 : (σ 10 0).toInt < 100 := by (first | omega | (simp only [Int32.reduceToInt] at c3 c14 c19 h31a h31b m5 m11 m24 m32 ⊢; omega))
                     have zl : (0 ≤ (5 : Int32).toInt ∧ (5 : Int32).toInt ≤ 5) ∧ (0 ≤ v.toInt ∧ v.toInt < (σ 3 0).toInt) ∧ (0 ≤ a.toInt ∧ a.toInt ≤ (σ 1 0).toInt) ∧ (0 ≤ (0 : Int32).toInt ∧ (0 : Int32).toInt ≤ 100000) := ⟨⟨by decide, by decide⟩, by (first | omega | (simp only [Int32.reduceToInt] at c3 c14 c19 h31a h31b m5 m11 m24 m32 ⊢; omega)), by (first | omega | (simp only [Int32.reduceToInt] at c3 c14 c19 h31a h31b m5 m11 m24 m32 ⊢; omega)), ⟨by decide, by decide⟩⟩
                     have zp : (p = -1000000005 ∧ p.toInt = -1000000005) ∨ (p.toInt ≠ -1000000005 ∧ 0 ≤ p.toInt ∧ p.toInt < (σ 3 0).toInt ∧ p.toInt ≠ v.toInt) := by
                       by_cases zz : p.toInt = -1000000005
                       · exact Or.inl ⟨iX zz, zz⟩
                       · exact Or.inr (by (first | omega | (simp only [Int32.reduceToInt] at c3 c14 c19 h31a h31b m5 m11 m24 m32 ⊢; omega)))
                     subst hτ
                     exact ⟨⟨σ 10 0, rfl, vI_ l0⟩, ⟨(I_tr_fr (σ := σ) rfl rfl rfl rfl rfl rfl rfl rfl hI.1), (I_vo_fr (σ := σ) rfl rfl rfl rfl rfl rfl rfl rfl rfl rfl rfl rfl rfl rfl rfl hI.2.1), (c_line_li (σ := σ) rfl rfl rfl rfl rfl rfl rfl rfl rfl rfl rfl rfl rfl rfl rfl rfl rfl rfl rfl rfl rfl hI.2.2.1 z5 t0 rfl ⟨zl.1, zl.2.1, zl.2.2.1, ⟨t4, Int.le_refl _⟩, zl.2.2.2, (by first | exact Or.inl ⟨Or.inr (Or.inr rfl), (by rcases zp with q | q; exact q.1; exfalso; (first | omega | (simp only [Int32.reduceToInt] at m11 m55 c3; omega) | (simp only [Int32.reduceToInt] at m11 m55; omega) | (simp only [Int32.reduceToInt] at m11; omega) | (simp only [Int32.reduceToInt] at c3; omega))), rfl⟩ | exact Or.inr (Or.inr ⟨Or.inr rfl, rfl, (by omega), (by omega), (by omega)⟩)), fun z => absurd z (by decide)⟩), (c_line_or (σ := σ) rfl rfl rfl hI.2.2.2.1 l6 z5), (I_ta_fr (σ := σ) rfl rfl rfl rfl hI.2.2.2.2.1), (I_ba_fr (σ := σ) rfl rfl rfl rfl rfl rfl rfl rfl rfl rfl rfl rfl rfl rfl rfl rfl rfl rfl rfl rfl rfl hI.2.2.2.2.2.1), (I_ex_fr (σ := σ) rfl rfl rfl rfl rfl rfl rfl rfl rfl rfl rfl hI.2.2.2.2.2.2.1), (I_gu_fr (σ := σ) rfl rfl rfl rfl rfl rfl rfl rfl rfl rfl hI.2.2.2.2.2.2.2.1), (I_sh_fr (σ := σ) rfl rfl rfl rfl rfl hI.2.2.2.2.2.2.2.2.1), (I_wa_fr (σ := σ) rfl rfl rfl rfl hI.2.2.2.2.2.2.2.2.2.1), (I_la_fr (σ := σ) rfl rfl rfl rfl rfl rfl rfl rfl rfl rfl rfl hI.2.2.2.2.2.2.2.2.2.2.1), (I_he_fr (σ := σ) rfl hI.2.2.2.2.2.2.2.2.2.2.2)⟩⟩)
                · replace m32 := bI_nz m32
                  refine ⟨fun z => absurd z (by decide), fun _ => ?_⟩
                  refine ⟨fun m55 => ?_, fun m55 => ?_⟩
                  · refine ⟨rfl, rfl, ?_⟩
                    refine m_comes (by omega) (by omega) (fun hm63a => ?_) (fun hm63a => ?_)
                    · refine ⟨rfl, trivial, ?_⟩
                      first
                      | (exfalso; (first | omega | (simp only [Int32.reduceToInt] at c3 c14 c19 h31a h31b m5 m11 m24 m32 m55 hm63a ⊢; omega)); done)
                      | (have z5 : (σ 10 0).toInt < 100 := by (first | omega | (simp only [Int32.reduceToInt] at c3 c14 c19 h31a h31b m5 m11 m24 m32 m55 hm63a ⊢; omega))
                         have zl : (0 ≤ (5 : Int32).toInt ∧ (5 : Int32).toInt ≤ 5) ∧ (0 ≤ v.toInt ∧ v.toInt < (σ 3 0).toInt) ∧ (0 ≤ a.toInt ∧ a.toInt ≤ (σ 1 0).toInt) ∧ (0 ≤ (0 : Int32).toInt ∧ (0 : Int32).toInt ≤ 100000) := ⟨⟨by decide, by decide⟩, by (first | omega | (simp only [Int32.reduceToInt] at c3 c14 c19 h31a h31b m5 m11 m24 m32 m55 hm63a ⊢; omega)), by (first | omega | (simp only [Int32.reduceToInt] at c3 c14 c19 h31a h31b m5 m11 m24 m32 m55 hm63a ⊢; omega)), ⟨by decide, by decide⟩⟩
                         have zp : (p = -1000000005 ∧ p.toInt = -1000000005) ∨ (p.toInt ≠ -1000000005 ∧ 0 ≤ p.toInt ∧ p.toInt < (σ 3 0).toInt ∧ p.toInt ≠ v.toInt) := by
                           by_cases zz : p.toInt = -1000000005
                           · exact Or.inl ⟨iX zz, zz⟩
                           · exact Or.inr (by (first | omega | (simp only [Int32.reduceToInt] at c3 c14 c19 h31a h31b m5 m11 m24 m32 m55 hm63a ⊢; omega)))
                         subst hτ
                         exact ⟨⟨σ 10 0, rfl, vI_ l0⟩, ⟨(I_tr_fr (σ := σ) rfl rfl rfl rfl rfl rfl rfl rfl hI.1), (I_vo_fr (σ := σ) rfl rfl rfl rfl rfl rfl rfl rfl rfl rfl rfl rfl rfl rfl rfl hI.2.1), (c_line_li (σ := σ) rfl rfl rfl rfl rfl rfl rfl rfl rfl rfl rfl rfl rfl rfl rfl rfl rfl rfl rfl rfl rfl hI.2.2.1 z5 t0 rfl ⟨zl.1, zl.2.1, zl.2.2.1, ⟨t4, Int.le_refl _⟩, zl.2.2.2, (by first | exact Or.inl ⟨Or.inr (Or.inr rfl), (by rcases zp with q | q; exact q.1; exfalso; (first | omega | (simp only [Int32.reduceToInt] at m11 m55 c3; omega) | (simp only [Int32.reduceToInt] at m11 m55; omega) | (simp only [Int32.reduceToInt] at m11; omega) | (simp only [Int32.reduceToInt] at c3; omega))), rfl⟩ | exact Or.inr (Or.inr ⟨Or.inr rfl, rfl, (by omega), (by omega), (by omega)⟩)), fun z => absurd z (by decide)⟩), (c_line_or (σ := σ) rfl rfl rfl hI.2.2.2.1 l6 z5), (I_ta_fr (σ := σ) rfl rfl rfl rfl hI.2.2.2.2.1), (I_ba_fr (σ := σ) rfl rfl rfl rfl rfl rfl rfl rfl rfl rfl rfl rfl rfl rfl rfl rfl rfl rfl rfl rfl rfl hI.2.2.2.2.2.1), (I_ex_fr (σ := σ) rfl rfl rfl rfl rfl rfl rfl rfl rfl rfl rfl hI.2.2.2.2.2.2.1), (I_gu_fr (σ := σ) rfl rfl rfl rfl rfl rfl rfl rfl rfl rfl hI.2.2.2.2.2.2.2.1), (I_sh_fr (σ := σ) rfl rfl rfl rfl rfl hI.2.2.2.2.2.2.2.2.1), (I_wa_fr (σ := σ) rfl rfl rfl rfl hI.2.2.2.2.2.2.2.2.2.1), (I_la_fr (σ := σ) rfl rfl rfl rfl rfl rfl rfl rfl rfl rfl rfl hI.2.2.2.2.2.2.2.2.2.2.1), (I_he_fr (σ := σ) rfl hI.2.2.2.2.2.2.2.2.2.2.2)⟩⟩)
                    · refine ⟨rfl, trivial, ?_⟩
                      first
                      | (exfalso; (first | omega | (simp only [Int32.reduceToInt] at c3 c14 c19 h31a h31b m5 m11 m24 m32 m55 hm63a ⊢; omega)); done)
                      | (have z5 : (σ 10 0).toInt < 100 := by (first | omega | (simp only [Int32.reduceToInt] at c3 c14 c19 h31a h31b m5 m11 m24 m32 m55 hm63a ⊢; omega))
                         have zl : (0 ≤ (5 : Int32).toInt ∧ (5 : Int32).toInt ≤ 5) ∧ (0 ≤ v.toInt ∧ v.toInt < (σ 3 0).toInt) ∧ (0 ≤ a.toInt ∧ a.toInt ≤ (σ 1 0).toInt) ∧ (0 ≤ (0 : Int32).toInt ∧ (0 : Int32).toInt ≤ 100000) := ⟨⟨by decide, by decide⟩, by (first | omega | (simp only [Int32.reduceToInt] at c3 c14 c19 h31a h31b m5 m11 m24 m32 m55 hm63a ⊢; omega)), by (first | omega | (simp only [Int32.reduceToInt] at c3 c14 c19 h31a h31b m5 m11 m24 m32 m55 hm63a ⊢; omega)), ⟨by decide, by decide⟩⟩
                         have zp : (p = -1000000005 ∧ p.toInt = -1000000005) ∨ (p.toInt ≠ -1000000005 ∧ 0 ≤ p.toInt ∧ p.toInt < (σ 3 0).toInt ∧ p.toInt ≠ v.toInt) := by
                           by_cases zz : p.toInt = -1000000005
                           · exact Or.inl ⟨iX zz, zz⟩
                           · exact Or.inr (by (first | omega | (simp only [Int32.reduceToInt] at c3 c14 c19 h31a h31b m5 m11 m24 m32 m55 hm63a ⊢; omega)))
                         subst hτ
                         exact ⟨⟨σ 10 0, rfl, vI_ l0⟩, ⟨(I_tr_fr (σ := σ) rfl rfl rfl rfl rfl rfl rfl rfl hI.1), (I_vo_fr (σ := σ) rfl rfl rfl rfl rfl rfl rfl rfl rfl rfl rfl rfl rfl rfl rfl hI.2.1), (c_line_li (σ := σ) rfl rfl rfl rfl rfl rfl rfl rfl rfl rfl rfl rfl rfl rfl rfl rfl rfl rfl rfl rfl rfl hI.2.2.1 z5 t0 rfl ⟨zl.1, zl.2.1, zl.2.2.1, ⟨t4, Int.le_refl _⟩, zl.2.2.2, (by first | exact Or.inl ⟨Or.inr (Or.inr rfl), (by rcases zp with q | q; exact q.1; exfalso; (first | omega | (simp only [Int32.reduceToInt] at m11 m55 c3; omega) | (simp only [Int32.reduceToInt] at m11 m55; omega) | (simp only [Int32.reduceToInt] at m11; omega) | (simp only [Int32.reduceToInt] at c3; omega))), rfl⟩ | exact Or.inr (Or.inr ⟨Or.inr rfl, rfl, (by omega), (by omega), (by omega)⟩)), fun z => absurd z (by decide)⟩), (c_line_or (σ := σ) rfl rfl rfl hI.2.2.2.1 l6 z5), (I_ta_fr (σ := σ) rfl rfl rfl rfl hI.2.2.2.2.1), (I_ba_fr (σ := σ) rfl rfl rfl rfl rfl rfl rfl rfl rfl rfl rfl rfl rfl rfl rfl rfl rfl rfl rfl rfl rfl hI.2.2.2.2.2.1), (I_ex_fr (σ := σ) rfl rfl rfl rfl rfl rfl rfl rfl rfl rfl rfl hI.2.2.2.2.2.2.1), (I_gu_fr (σ := σ) rfl rfl rfl rfl rfl rfl rfl rfl rfl rfl hI.2.2.2.2.2.2.2.1), (I_sh_fr (σ := σ) rfl rfl rfl rfl rfl hI.2.2.2.2.2.2.2.2.1), (I_wa_fr (σ := σ) rfl rfl rfl rfl hI.2.2.2.2.2.2.2.2.2.1), (I_la_fr (σ := σ) rfl rfl rfl rfl rfl rfl rfl rfl rfl rfl rfl hI.2.2.2.2.2.2.2.2.2.2.1), (I_he_fr (σ := σ) rfl hI.2.2.2.2.2.2.2.2.2.2.2)⟩⟩)
                  · refine ⟨rfl, rfl, ?_⟩
                    refine m_comes (by omega) (by omega) (fun hm63a => ?_) (fun hm63a => ?_)
                    · refine ⟨rfl, trivial, ?_⟩
                      first
                      | (exfalso; (first | omega | (simp only [Int32.reduceToInt] at c3 c14 c19 h31a h31b m5 m11 m24 m32 m55 hm63a ⊢; omega)); done)
                      | (have z5 : (σ 10 0).toInt < 100 := by (first | omega | (simp only [Int32.reduceToInt] at c3 c14 c19 h31a h31b m5 m11 m24 m32 m55 hm63a ⊢; omega))
                         have zl : (0 ≤ (5 : Int32).toInt ∧ (5 : Int32).toInt ≤ 5) ∧ (0 ≤ v.toInt ∧ v.toInt < (σ 3 0).toInt) ∧ (0 ≤ a.toInt ∧ a.toInt ≤ (σ 1 0).toInt) ∧ (0 ≤ (0 : Int32).toInt ∧ (0 : Int32).toInt ≤ 100000) := ⟨⟨by decide, by decide⟩, by (first | omega | (simp only [Int32.reduceToInt] at c3 c14 c19 h31a h31b m5 m11 m24 m32 m55 hm63a ⊢; omega)), by (first | omega | (simp only [Int32.reduceToInt] at c3 c14 c19 h31a h31b m5 m11 m24 m32 m55 hm63a ⊢; omega)), ⟨by decide, by decide⟩⟩
                         have zp : (p = -1000000005 ∧ p.toInt = -1000000005) ∨ (p.toInt ≠ -1000000005 ∧ 0 ≤ p.toInt ∧ p.toInt < (σ 3 0).toInt ∧ p.toInt ≠ v.toInt) := by
                           by_cases zz : p.toInt = -1000000005
                           · exact Or.inl ⟨iX zz, zz⟩
                           · exact Or.inr (by (first | omega | (simp only [Int32.reduceToInt] at c3 c14 c19 h31a h31b m5 m11 m24 m32 m55 hm63a ⊢; omega)))
                         subst hτ
                         exact ⟨⟨σ 10 0, rfl, vI_ l0⟩, ⟨(I_tr_fr (σ := σ) rfl rfl rfl rfl rfl rfl rfl rfl hI.1), (I_vo_fr (σ := σ) rfl rfl rfl rfl rfl rfl rfl rfl rfl rfl rfl rfl rfl rfl rfl hI.2.1), (c_line_li (σ := σ) rfl rfl rfl rfl rfl rfl rfl rfl rfl rfl rfl rfl rfl rfl rfl rfl rfl rfl rfl rfl rfl hI.2.2.1 z5 t0 rfl ⟨zl.1, zl.2.1, zl.2.2.1, ⟨t4, Int.le_refl _⟩, zl.2.2.2, (by first | exact Or.inl ⟨Or.inr (Or.inr rfl), (by rcases zp with q | q; exact q.1; exfalso; (first | omega | (simp only [Int32.reduceToInt] at m11 m55 c3; omega) | (simp only [Int32.reduceToInt] at m11 m55; omega) | (simp only [Int32.reduceToInt] at m11; omega) | (simp only [Int32.reduceToInt] at c3; omega))), rfl⟩ | exact Or.inr (Or.inr ⟨Or.inr rfl, rfl, (by omega), (by omega), (by omega)⟩)), fun z => absurd z (by decide)⟩), (c_line_or (σ := σ) rfl rfl rfl hI.2.2.2.1 l6 z5), (I_ta_fr (σ := σ) rfl rfl rfl rfl hI.2.2.2.2.1), (I_ba_fr (σ := σ) rfl rfl rfl rfl rfl rfl rfl rfl rfl rfl rfl rfl rfl rfl rfl rfl rfl rfl rfl rfl rfl hI.2.2.2.2.2.1), (I_ex_fr (σ := σ) rfl rfl rfl rfl rfl rfl rfl rfl rfl rfl rfl hI.2.2.2.2.2.2.1), (I_gu_fr (σ := σ) rfl rfl rfl rfl rfl rfl rfl rfl rfl rfl hI.2.2.2.2.2.2.2.1), (I_sh_fr (σ := σ) rfl rfl rfl rfl rfl hI.2.2.2.2.2.2.2.2.1), (I_wa_fr (σ := σ) rfl rfl rfl rfl hI.2.2.2.2.2.2.2.2.2.1), (I_la_fr (σ := σ) rfl rfl rfl rfl rfl rfl rfl rfl rfl rfl rfl hI.2.2.2.2.2.2.2.2.2.2.1), (I_he_fr (σ := σ) rfl hI.2.2.2.2.2.2.2.2.2.2.2)⟩⟩)
                    · refine ⟨rfl, trivial, ?_⟩
                      first
                      | (exfalso; (first | omega | (simp only [Int32.reduceToInt] at c3 c14 c19 h31a h31b m5 m11 m24 m32 m55 hm63a ⊢; omega)); done)
                      | (have z5 : (σ 10 0).toInt < 100 := by (first | omega | (simp only [Int32.reduceToInt] at c3 c14 c19 h31a h31b m5 m11 m24 m32 m55 hm63a ⊢; omega))
                         have zl : (0 ≤ (5 : Int32).toInt ∧ (5 : Int32).toInt ≤ 5) ∧ (0 ≤ v.toInt ∧ v.toInt < (σ 3 0).toInt) ∧ (0 ≤ a.toInt ∧ a.toInt ≤ (σ 1 0).toInt) ∧ (0 ≤ (0 : Int32).toInt ∧ (0 : Int32).toInt ≤ 100000) := ⟨⟨by decide, by decide⟩, by (first | omega | (simp only [Int32.reduceToInt] at c3 c14 c19 h31a h31b m5 m11 m24 m32 m55 hm63a ⊢; omega)), by (first | omega | (simp only [Int32.reduceToInt] at c3 c14 c19 h31a h31b m5 m11 m24 m32 m55 hm63a ⊢; omega)), ⟨by decide, by decide⟩⟩
                         have zp : (p = -1000000005 ∧ p.toInt = -1000000005) ∨ (p.toInt ≠ -1000000005 ∧ 0 ≤ p.toInt ∧ p.toInt < (σ 3 0).toInt ∧ p.toInt ≠ v.toInt) := by
                           by_cases zz : p.toInt = -1000000005
                           · exact Or.inl ⟨iX zz, zz⟩
                           · exact Or.inr (by (first | omega | (simp only [Int32.reduceToInt] at c3 c14 c19 h31a h31b m5 m11 m24 m32 m55 hm63a ⊢; omega)))
                         subst hτ
                         exact ⟨⟨σ 10 0, rfl, vI_ l0⟩, ⟨(I_tr_fr (σ := σ) rfl rfl rfl rfl rfl rfl rfl rfl hI.1), (I_vo_fr (σ := σ) rfl rfl rfl rfl rfl rfl rfl rfl rfl rfl rfl rfl rfl rfl rfl hI.2.1), (c_line_li (σ := σ) rfl rfl rfl rfl rfl rfl rfl rfl rfl rfl rfl rfl rfl rfl rfl rfl rfl rfl rfl rfl rfl hI.2.2.1 z5 t0 rfl ⟨zl.1, zl.2.1, zl.2.2.1, ⟨t4, Int.le_refl _⟩, zl.2.2.2, (by first | exact Or.inl ⟨Or.inr (Or.inr rfl), (by rcases zp with q | q; exact q.1; exfalso; (first | omega | (simp only [Int32.reduceToInt] at m11 m55 c3; omega) | (simp only [Int32.reduceToInt] at m11 m55; omega) | (simp only [Int32.reduceToInt] at m11; omega) | (simp only [Int32.reduceToInt] at c3; omega))), rfl⟩ | exact Or.inr (Or.inr ⟨Or.inr rfl, rfl, (by omega), (by omega), (by omega)⟩)), fun z => absurd z (by decide)⟩), (c_line_or (σ := σ) rfl rfl rfl hI.2.2.2.1 l6 z5), (I_ta_fr (σ := σ) rfl rfl rfl rfl hI.2.2.2.2.1), (I_ba_fr (σ := σ) rfl rfl rfl rfl rfl rfl rfl rfl rfl rfl rfl rfl rfl rfl rfl rfl rfl rfl rfl rfl rfl hI.2.2.2.2.2.1), (I_ex_fr (σ := σ) rfl rfl rfl rfl rfl rfl rfl rfl rfl rfl rfl hI.2.2.2.2.2.2.1), (I_gu_fr (σ := σ) rfl rfl rfl rfl rfl rfl rfl rfl rfl rfl hI.2.2.2.2.2.2.2.1), (I_sh_fr (σ := σ) rfl rfl rfl rfl rfl hI.2.2.2.2.2.2.2.2.1), (I_wa_fr (σ := σ) rfl rfl rfl rfl hI.2.2.2.2.2.2.2.2.2.1), (I_la_fr (σ := σ) rfl rfl rfl rfl rfl rfl rfl rfl rfl rfl rfl hI.2.2.2.2.2.2.2.2.2.2.1), (I_he_fr (σ := σ) rfl hI.2.2.2.2.2.2.2.2.2.2.2)⟩⟩)
            · refine ⟨rfl, rfl, ?_⟩
              refine m_isVoucher (by omega) ?_
              refine ⟨fun m19 => ?_, fun m19 => ?_⟩
              · replace m19 := bI_z m19
                refine ⟨fun _ => ?_, fun z => absurd (by decide) z⟩
                refine ⟨rfl, trivial, ?_⟩
                first
                | (exfalso; (first | omega | (simp only [Int32.reduceToInt] at c3 c14 c19 h31a h31b m5 m11 m19 ⊢; omega)); done)
                | (have z5 : (σ 10 0).toInt < 100 := by (first | omega | (simp only [Int32.reduceToInt] at c3 c14 c19 h31a h31b m5 m11 m19 ⊢; omega))
                   have zl : (0 ≤ (5 : Int32).toInt ∧ (5 : Int32).toInt ≤ 5) ∧ (0 ≤ v.toInt ∧ v.toInt < (σ 3 0).toInt) ∧ (0 ≤ a.toInt ∧ a.toInt ≤ (σ 1 0).toInt) ∧ (0 ≤ (0 : Int32).toInt ∧ (0 : Int32).toInt ≤ 100000) := ⟨⟨by decide, by decide⟩, by (first | omega | (simp only [Int32.reduceToInt] at c3 c14 c19 h31a h31b m5 m11 m19 ⊢; omega)), by (first | omega | (simp only [Int32.reduceToInt] at c3 c14 c19 h31a h31b m5 m11 m19 ⊢; omega)), ⟨by decide, by decide⟩⟩
                   have zp : (p = -1000000005 ∧ p.toInt = -1000000005) ∨ (p.toInt ≠ -1000000005 ∧ 0 ≤ p.toInt ∧ p.toInt < (σ 3 0).toInt ∧ p.toInt ≠ v.toInt) := by
                     by_cases zz : p.toInt = -1000000005
                     · exact Or.inl ⟨iX zz, zz⟩
                     · exact Or.inr (by (first | omega | (simp only [Int32.reduceToInt] at c3 c14 c19 h31a h31b m5 m11 m19 ⊢; omega)))
                   subst hτ
                   exact ⟨⟨σ 10 0, rfl, vI_ l0⟩, ⟨(I_tr_fr (σ := σ) rfl rfl rfl rfl rfl rfl rfl rfl hI.1), (I_vo_fr (σ := σ) rfl rfl rfl rfl rfl rfl rfl rfl rfl rfl rfl rfl rfl rfl rfl hI.2.1), (c_line_li (σ := σ) rfl rfl rfl rfl rfl rfl rfl rfl rfl rfl rfl rfl rfl rfl rfl rfl rfl rfl rfl rfl rfl hI.2.2.1 z5 t0 rfl ⟨zl.1, zl.2.1, zl.2.2.1, ⟨t4, Int.le_refl _⟩, zl.2.2.2, (by first | exact Or.inl ⟨Or.inr (Or.inr rfl), (by rcases zp with q | q; exact q.1; exfalso; (first | omega | (simp only [Int32.reduceToInt] at m11 m55 c3; omega) | (simp only [Int32.reduceToInt] at m11 m55; omega) | (simp only [Int32.reduceToInt] at m11; omega) | (simp only [Int32.reduceToInt] at c3; omega))), rfl⟩ | exact Or.inr (Or.inr ⟨Or.inr rfl, rfl, (by omega), (by omega), (by omega)⟩)), fun z => absurd z (by decide)⟩), (c_line_or (σ := σ) rfl rfl rfl hI.2.2.2.1 l6 z5), (I_ta_fr (σ := σ) rfl rfl rfl rfl hI.2.2.2.2.1), (I_ba_fr (σ := σ) rfl rfl rfl rfl rfl rfl rfl rfl rfl rfl rfl rfl rfl rfl rfl rfl rfl rfl rfl rfl rfl hI.2.2.2.2.2.1), (I_ex_fr (σ := σ) rfl rfl rfl rfl rfl rfl rfl rfl rfl rfl rfl hI.2.2.2.2.2.2.1), (I_gu_fr (σ := σ) rfl rfl rfl rfl rfl rfl rfl rfl rfl rfl hI.2.2.2.2.2.2.2.1), (I_sh_fr (σ := σ) rfl rfl rfl rfl rfl hI.2.2.2.2.2.2.2.2.1), (I_wa_fr (σ := σ) rfl rfl rfl rfl hI.2.2.2.2.2.2.2.2.2.1), (I_la_fr (σ := σ) rfl rfl rfl rfl rfl rfl rfl rfl rfl rfl rfl hI.2.2.2.2.2.2.2.2.2.2.1), (I_he_fr (σ := σ) rfl hI.2.2.2.2.2.2.2.2.2.2.2)⟩⟩)
              · replace m19 := bI_nz m19
                refine ⟨fun m24 => ?_, fun m24 => ?_⟩
                · refine ⟨fun _ => ?_, fun z => absurd (by decide) z⟩
                  refine ⟨rfl, trivial, ?_⟩
                  first
                  | (exfalso; (first | omega | (simp only [Int32.reduceToInt] at c3 c14 c19 h31a h31b m5 m11 m19 m24 ⊢; omega)); done)
                  | (have z5 : (σ 10 0).toInt < 100 := by (first | omega | (simp only [Int32.reduceToInt] at c3 c14 c19 h31a h31b m5 m11 m19 m24 ⊢; omega))
                     have zl : (0 ≤ (5 : Int32).toInt ∧ (5 : Int32).toInt ≤ 5) ∧ (0 ≤ v.toInt ∧ v.toInt < (σ 3 0).toInt) ∧ (0 ≤ a.toInt ∧ a.toInt ≤ (σ 1 0).toInt) ∧ (0 ≤ (0 : Int32).toInt ∧ (0 : Int32).toInt ≤ 100000) := ⟨⟨by decide, by decide⟩, by (first | omega | (simp only [Int32.reduceToInt] at c3 c14 c19 h31a h31b m5 m11 m19 m24 ⊢; omega)), by (first | omega | (simp only [Int32.reduceToInt] at c3 c14 c19 h31a h31b m5 m11 m19 m24 ⊢; omega)), ⟨by decide, by decide⟩⟩
                     have zp : (p = -1000000005 ∧ p.toInt = -1000000005) ∨ (p.toInt ≠ -1000000005 ∧ 0 ≤ p.toInt ∧ p.toInt < (σ 3 0).toInt ∧ p.toInt ≠ v.toInt) := by
                       by_cases zz : p.toInt = -1000000005
                       · exact Or.inl ⟨iX zz, zz⟩
                       · exact Or.inr (by (first | omega | (simp only [Int32.reduceToInt] at c3 c14 c19 h31a h31b m5 m11 m19 m24 ⊢; omega)))
                     subst hτ
                     exact ⟨⟨σ 10 0, rfl, vI_ l0⟩, ⟨(I_tr_fr (σ := σ) rfl rfl rfl rfl rfl rfl rfl rfl hI.1), (I_vo_fr (σ := σ) rfl rfl rfl rfl rfl rfl rfl rfl rfl rfl rfl rfl rfl rfl rfl hI.2.1), (c_line_li (σ := σ) rfl rfl rfl rfl rfl rfl rfl rfl rfl rfl rfl rfl rfl rfl rfl rfl rfl rfl rfl rfl rfl hI.2.2.1 z5 t0 rfl ⟨zl.1, zl.2.1, zl.2.2.1, ⟨t4, Int.le_refl _⟩, zl.2.2.2, (by first | exact Or.inl ⟨Or.inr (Or.inr rfl), (by rcases zp with q | q; exact q.1; exfalso; (first | omega | (simp only [Int32.reduceToInt] at m11 m55 c3; omega) | (simp only [Int32.reduceToInt] at m11 m55; omega) | (simp only [Int32.reduceToInt] at m11; omega) | (simp only [Int32.reduceToInt] at c3; omega))), rfl⟩ | exact Or.inr (Or.inr ⟨Or.inr rfl, rfl, (by omega), (by omega), (by omega)⟩)), fun z => absurd z (by decide)⟩), (c_line_or (σ := σ) rfl rfl rfl hI.2.2.2.1 l6 z5), (I_ta_fr (σ := σ) rfl rfl rfl rfl hI.2.2.2.2.1), (I_ba_fr (σ := σ) rfl rfl rfl rfl rfl rfl rfl rfl rfl rfl rfl rfl rfl rfl rfl rfl rfl rfl rfl rfl rfl hI.2.2.2.2.2.1), (I_ex_fr (σ := σ) rfl rfl rfl rfl rfl rfl rfl rfl rfl rfl rfl hI.2.2.2.2.2.2.1), (I_gu_fr (σ := σ) rfl rfl rfl rfl rfl rfl rfl rfl rfl rfl hI.2.2.2.2.2.2.2.1), (I_sh_fr (σ := σ) rfl rfl rfl rfl rfl hI.2.2.2.2.2.2.2.2.1), (I_wa_fr (σ := σ) rfl rfl rfl rfl hI.2.2.2.2.2.2.2.2.2.1), (I_la_fr (σ := σ) rfl rfl rfl rfl rfl rfl rfl rfl rfl rfl rfl hI.2.2.2.2.2.2.2.2.2.2.1), (I_he_fr (σ := σ) rfl hI.2.2.2.2.2.2.2.2.2.2.2)⟩⟩)
                · refine ⟨rfl, rfl, ?_⟩
                  refine m_isPast ?_
                  refine ⟨fun m32 => ?_, fun m32 => ?_⟩
                  · replace m32 := bI_z m32
                    refine ⟨fun _ => ?_, fun z => absurd (by decide) z⟩
                    refine ⟨rfl, trivial, ?_⟩
                    first
                    | (exfalso; (first | omega | (simp only [Int32.reduceToInt] at c3 c14 c19 h31a h31b m5 m11 m19 m24 m32 ⊢; omega)); done)
                    | (have z5 : (σ 10 0).toInt < 100 := by (first | omega | (simp only [Int32.reduceToInt] at c3 c14 c19 h31a h31b m5 m11 m19 m24 m32 ⊢; omega))
                       have zl : (0 ≤ (5 : Int32).toInt ∧ (5 : Int32).toInt ≤ 5) ∧ (0 ≤ v.toInt ∧ v.toInt < (σ 3 0).toInt) ∧ (0 ≤ a.toInt ∧ a.toInt ≤ (σ 1 0).toInt) ∧ (0 ≤ (0 : Int32).toInt ∧ (0 : Int32).toInt ≤ 100000) := ⟨⟨by decide, by decide⟩, by (first | omega | (simp only [Int32.reduceToInt] at c3 c14 c19 h31a h31b m5 m11 m19 m24 m32 ⊢; omega)), by (first | omega | (simp only [Int32.reduceToInt] at c3 c14 c19 h31a h31b m5 m11 m19 m24 m32 ⊢; omega)), ⟨by decide, by decide⟩⟩
                       have zp : (p = -1000000005 ∧ p.toInt = -1000000005) ∨ (p.toInt ≠ -1000000005 ∧ 0 ≤ p.toInt ∧ p.toInt < (σ 3 0).toInt ∧ p.toInt ≠ v.toInt) := by
                         by_cases zz : p.toInt = -1000000005
                         · exact Or.inl ⟨iX zz, zz⟩
                         · exact Or.inr (by (first | omega | (simp only [Int32.reduceToInt] at c3 c14 c19 h31a h31b m5 m11 m19 m24 m32 ⊢; omega)))
                       subst hτ
                       exact ⟨⟨σ 10 0, rfl, vI_ l0⟩, ⟨(I_tr_fr (σ := σ) rfl rfl rfl rfl rfl rfl rfl rfl hI.1), (I_vo_fr (σ := σ) rfl rfl rfl rfl rfl rfl rfl rfl rfl rfl rfl rfl rfl rfl rfl hI.2.1), (c_line_li (σ := σ) rfl rfl rfl rfl rfl rfl rfl rfl rfl rfl rfl rfl rfl rfl rfl rfl rfl rfl rfl rfl rfl hI.2.2.1 z5 t0 rfl ⟨zl.1, zl.2.1, zl.2.2.1, ⟨t4, Int.le_refl _⟩, zl.2.2.2, (by first | exact Or.inl ⟨Or.inr (Or.inr rfl), (by rcases zp with q | q; exact q.1; exfalso; (first | omega | (simp only [Int32.reduceToInt] at m11 m55 c3; omega) | (simp only [Int32.reduceToInt] at m11 m55; omega) | (simp only [Int32.reduceToInt] at m11; omega) | (simp only [Int32.reduceToInt] at c3; omega))), rfl⟩ | exact Or.inr (Or.inr ⟨Or.inr rfl, rfl, (by omega), (by omega), (by omega)⟩)), fun z => absurd z (by decide)⟩), (c_line_or (σ := σ) rfl rfl rfl hI.2.2.2.1 l6 z5), (I_ta_fr (σ := σ) rfl rfl rfl rfl hI.2.2.2.2.1), (I_ba_fr (σ := σ) rfl rfl rfl rfl rfl rfl rfl rfl rfl rfl rfl rfl rfl rfl rfl rfl rfl rfl rfl rfl rfl hI.2.2.2.2.2.1), (I_ex_fr (σ := σ) rfl rfl rfl rfl rfl rfl rfl rfl rfl rfl rfl hI.2.2.2.2.2.2.1), (I_gu_fr (σ := σ) rfl rfl rfl rfl rfl rfl rfl rfl rfl rfl hI.2.2.2.2.2.2.2.1), (I_sh_fr (σ := σ) rfl rfl rfl rfl rfl hI.2.2.2.2.2.2.2.2.1), (I_wa_fr (σ := σ) rfl rfl rfl rfl hI.2.2.2.2.2.2.2.2.2.1), (I_la_fr (σ := σ) rfl rfl rfl rfl rfl rfl rfl rfl rfl rfl rfl hI.2.2.2.2.2.2.2.2.2.2.1), (I_he_fr (σ := σ) rfl hI.2.2.2.2.2.2.2.2.2.2.2)⟩⟩)
                  · replace m32 := bI_nz m32
                    refine ⟨fun z => absurd z (by decide), fun _ => ?_⟩
                    refine ⟨fun m55 => ?_, fun m55 => ?_⟩
                    · refine ⟨rfl, rfl, ?_⟩
                      refine m_comes (by omega) (by omega) (fun hm63a => ?_) (fun hm63a => ?_)
                      · refine ⟨rfl, trivial, ?_⟩
                        first
                        | (exfalso; (first | omega | (simp only [Int32.reduceToInt] at c3 c14 c19 h31a h31b m5 m11 m19 m24 m32 m55 hm63a ⊢; omega)); done)
                        | (have z5 : (σ 10 0).toInt < 100 := by (first | omega | (simp only [Int32.reduceToInt] at c3 c14 c19 h31a h31b m5 m11 m19 m24 m32 m55 hm63a ⊢; omega))
                           have zl : (0 ≤ (5 : Int32).toInt ∧ (5 : Int32).toInt ≤ 5) ∧ (0 ≤ v.toInt ∧ v.toInt < (σ 3 0).toInt) ∧ (0 ≤ a.toInt ∧ a.toInt ≤ (σ 1 0).toInt) ∧ (0 ≤ (0 : Int32).toInt ∧ (0 : Int32).toInt ≤ 100000) := ⟨⟨by decide, by decide⟩, by (first | omega | (simp only [Int32.reduceToInt] at c3 c14 c19 h31a h31b m5 m11 m19 m24 m32 m55 hm63a ⊢; omega)), by (first | omega | (simp only [Int32.reduceToInt] at c3 c14 c19 h31a h31b m5 m11 m19 m24 m32 m55 hm63a ⊢; omega)), ⟨by decide, by decide⟩⟩
                           have zp : (p = -1000000005 ∧ p.toInt = -1000000005) ∨ (p.toInt ≠ -1000000005 ∧ 0 ≤ p.toInt ∧ p.toInt < (σ 3 0).toInt ∧ p.toInt ≠ v.toInt) := by
                             by_cases zz : p.toInt = -1000000005
                             · exact Or.inl ⟨iX zz, zz⟩
                             · exact Or.inr (by (first | omega | (simp only [Int32.reduceToInt] at c3 c14 c19 h31a h31b m5 m11 m19 m24 m32 m55 hm63a ⊢; omega)))
                           subst hτ
                           exact ⟨⟨σ 10 0, rfl, vI_ l0⟩, ⟨(I_tr_fr (σ := σ) rfl rfl rfl rfl rfl rfl rfl rfl hI.1), (I_vo_fr (σ := σ) rfl rfl rfl rfl rfl rfl rfl rfl rfl rfl rfl rfl rfl rfl rfl hI.2.1), (c_line_li (σ := σ) rfl rfl rfl rfl rfl rfl rfl rfl rfl rfl rfl rfl rfl rfl rfl rfl rfl rfl rfl rfl rfl hI.2.2.1 z5 t0 rfl ⟨zl.1, zl.2.1, zl.2.2.1, ⟨t4, Int.le_refl _⟩, zl.2.2.2, (by first | exact Or.inl ⟨Or.inr (Or.inr rfl), (by rcases zp with q | q; exact q.1; exfalso; (first | omega | (simp only [Int32.reduceToInt] at m11 m55 c3; omega) | (simp only [Int32.reduceToInt] at m11 m55; omega) | (simp only [Int32.reduceToInt] at m11; omega) | (simp only [Int32.reduceToInt] at c3; omega))), rfl⟩ | exact Or.inr (Or.inr ⟨Or.inr rfl, rfl, (by omega), (by omega), (by omega)⟩)), fun z => absurd z (by decide)⟩), (c_line_or (σ := σ) rfl rfl rfl hI.2.2.2.1 l6 z5), (I_ta_fr (σ := σ) rfl rfl rfl rfl hI.2.2.2.2.1), (I_ba_fr (σ := σ) rfl rfl rfl rfl rfl rfl rfl rfl rfl rfl rfl rfl rfl rfl rfl rfl rfl rfl rfl rfl rfl hI.2.2.2.2.2.1), (I_ex_fr (σ := σ) rfl rfl rfl rfl rfl rfl rfl rfl rfl rfl rfl hI.2.2.2.2.2.2.1), (I_gu_fr (σ := σ) rfl rfl rfl rfl rfl rfl rfl rfl rfl rfl hI.2.2.2.2.2.2.2.1), (I_sh_fr (σ := σ) rfl rfl rfl rfl rfl hI.2.2.2.2.2.2.2.2.1), (I_wa_fr (σ := σ) rfl rfl rfl rfl hI.2.2.2.2.2.2.2.2.2.1), (I_la_fr (σ := σ) rfl rfl rfl rfl rfl rfl rfl rfl rfl rfl rfl hI.2.2.2.2.2.2.2.2.2.2.1), (I_he_fr (σ := σ) rfl hI.2.2.2.2.2.2.2.2.2.2.2)⟩⟩)
                      · refine ⟨rfl, trivial, ?_⟩
                        first
                        | (exfalso; (first | omega | (simp only [Int32.reduceToInt] at c3 c14 c19 h31a h31b m5 m11 m19 m24 m32 m55 hm63a ⊢; omega)); done)
                        | (have z5 : (σ 10 0).toInt < 100 := by (first | omega | (simp only [Int32.reduceToInt] at c3 c14 c19 h31a h31b m5 m11 m19 m24 m32 m55 hm63a ⊢; omega))
                           have zl : (0 ≤ (5 : Int32).toInt ∧ (5 : Int32).toInt ≤ 5) ∧ (0 ≤ v.toInt ∧ v.toInt < (σ 3 0).toInt) ∧ (0 ≤ a.toInt ∧ a.toInt ≤ (σ 1 0).toInt) ∧ (0 ≤ (0 : Int32).toInt ∧ (0 : Int32).toInt ≤ 100000) := ⟨⟨by decide, by decide⟩, by (first | omega | (simp only [Int32.reduceToInt] at c3 c14 c19 h31a h31b m5 m11 m19 m24 m32 m55 hm63a ⊢; omega)), by (first | omega | (simp only [Int32.reduceToInt] at c3 c14 c19 h31a h31b m5 m11 m19 m24 m32 m55 hm63a ⊢; omega)), ⟨by decide, by decide⟩⟩
                           have zp : (p = -1000000005 ∧ p.toInt = -1000000005) ∨ (p.toInt ≠ -1000000005 ∧ 0 ≤ p.toInt ∧ p.toInt < (σ 3 0).toInt ∧ p.toInt ≠ v.toInt) := by
                             by_cases zz : p.toInt = -1000000005
                             · exact Or.inl ⟨iX zz, zz⟩
                             · exact Or.inr (by (first | omega | (simp only [Int32.reduceToInt] at c3 c14 c19 h31a h31b m5 m11 m19 m24 m32 m55 hm63a ⊢; omega)))
                           subst hτ
                           exact ⟨⟨σ 10 0, rfl, vI_ l0⟩, ⟨(I_tr_fr (σ := σ) rfl rfl rfl rfl rfl rfl rfl rfl hI.1), (I_vo_fr (σ := σ) rfl rfl rfl rfl rfl rfl rfl rfl rfl rfl rfl rfl rfl rfl rfl hI.2.1), (c_line_li (σ := σ) rfl rfl rfl rfl rfl rfl rfl rfl rfl rfl rfl rfl rfl rfl rfl rfl rfl rfl rfl rfl rfl hI.2.2.1 z5 t0 rfl ⟨zl.1, zl.2.1, zl.2.2.1, ⟨t4, Int.le_refl _⟩, zl.2.2.2, (by first | exact Or.inl ⟨Or.inr (Or.inr rfl), (by rcases zp with q | q; exact q.1; exfalso; (first | omega | (simp only [Int32.reduceToInt] at m11 m55 c3; omega) | (simp only [Int32.reduceToInt] at m11 m55; omega) | (simp only [Int32.reduceToInt] at m11; omega) | (simp only [Int32.reduceToInt] at c3; omega))), rfl⟩ | exact Or.inr (Or.inr ⟨Or.inr rfl, rfl, (by omega), (by omega), (by omega)⟩)), fun z => absurd z (by decide)⟩), (c_line_or (σ := σ) rfl rfl rfl hI.2.2.2.1 l6 z5), (I_ta_fr (σ := σ) rfl rfl rfl rfl hI.2.2.2.2.1), (I_ba_fr (σ := σ) rfl rfl rfl rfl rfl rfl rfl rfl rfl rfl rfl rfl rfl rfl rfl rfl rfl rfl rfl rfl rfl hI.2.2.2.2.2.1), (I_ex_fr (σ := σ) rfl rfl rfl rfl rfl rfl rfl rfl rfl rfl rfl hI.2.2.2.2.2.2.1), (I_gu_fr (σ := σ) rfl rfl rfl rfl rfl rfl rfl rfl rfl rfl hI.2.2.2.2.2.2.2.1), (I_sh_fr (σ := σ) rfl rfl rfl rfl rfl hI.2.2.2.2.2.2.2.2.1), (I_wa_fr (σ := σ) rfl rfl rfl rfl hI.2.2.2.2.2.2.2.2.2.1), (I_la_fr (σ := σ) rfl rfl rfl rfl rfl rfl rfl rfl rfl rfl rfl hI.2.2.2.2.2.2.2.2.2.2.1), (I_he_fr (σ := σ) rfl hI.2.2.2.2.2.2.2.2.2.2.2)⟩⟩)
                    · refine ⟨rfl, rfl, ?_⟩
                      refine m_comes (by omega) (by omega) (fun hm63a => ?_) (fun hm63a => ?_)
                      · refine ⟨rfl, trivial, ?_⟩
                        first
                        | (exfalso; (first | omega | (simp only [Int32.reduceToInt] at c3 c14 c19 h31a h31b m5 m11 m19 m24 m32 m55 hm63a ⊢; omega)); done)
                        | (have z5 : (σ 10 0).toInt < 100 := by (first | omega | (simp only [Int32.reduceToInt] at c3 c14 c19 h31a h31b m5 m11 m19 m24 m32 m55 hm63a ⊢; omega))
                           have zl : (0 ≤ (5 : Int32).toInt ∧ (5 : Int32).toInt ≤ 5) ∧ (0 ≤ v.toInt ∧ v.toInt < (σ 3 0).toInt) ∧ (0 ≤ a.toInt ∧ a.toInt ≤ (σ 1 0).toInt) ∧ (0 ≤ (0 : Int32).toInt ∧ (0 : Int32).toInt ≤ 100000) := ⟨⟨by decide, by decide⟩, by (first | omega | (simp only [Int32.reduceToInt] at c3 c14 c19 h31a h31b m5 m11 m19 m24 m32 m55 hm63a ⊢; omega)), by (first | omega | (simp only [Int32.reduceToInt] at c3 c14 c19 h31a h31b m5 m11 m19 m24 m32 m55 hm63a ⊢; omega)), ⟨by decide, by decide⟩⟩
                           have zp : (p = -1000000005 ∧ p.toInt = -1000000005) ∨ (p.toInt ≠ -1000000005 ∧ 0 ≤ p.toInt ∧ p.toInt < (σ 3 0).toInt ∧ p.toInt ≠ v.toInt) := by
                             by_cases zz : p.toInt = -1000000005
                             · exact Or.inl ⟨iX zz, zz⟩
                             · exact Or.inr (by (first | omega | (simp only [Int32.reduceToInt] at c3 c14 c19 h31a h31b m5 m11 m19 m24 m32 m55 hm63a ⊢; omega)))
                           subst hτ
                           exact ⟨⟨σ 10 0, rfl, vI_ l0⟩, ⟨(I_tr_fr (σ := σ) rfl rfl rfl rfl rfl rfl rfl rfl hI.1), (I_vo_fr (σ := σ) rfl rfl rfl rfl rfl rfl rfl rfl rfl rfl rfl rfl rfl rfl rfl hI.2.1), (c_line_li (σ := σ) rfl rfl rfl rfl rfl rfl rfl rfl rfl rfl rfl rfl rfl rfl rfl rfl rfl rfl rfl rfl rfl hI.2.2.1 z5 t0 rfl ⟨zl.1, zl.2.1, zl.2.2.1, ⟨t4, Int.le_refl _⟩, zl.2.2.2, (by first | exact Or.inl ⟨Or.inr (Or.inr rfl), (by rcases zp with q | q; exact q.1; exfalso; (first | omega | (simp only [Int32.reduceToInt] at m11 m55 c3; omega) | (simp only [Int32.reduceToInt] at m11 m55; omega) | (simp only [Int32.reduceToInt] at m11; omega) | (simp only [Int32.reduceToInt] at c3; omega))), rfl⟩ | exact Or.inr (Or.inr ⟨Or.inr rfl, rfl, (by omega), (by omega), (by omega)⟩)), fun z => absurd z (by decide)⟩), (c_line_or (σ := σ) rfl rfl rfl hI.2.2.2.1 l6 z5), (I_ta_fr (σ := σ) rfl rfl rfl rfl hI.2.2.2.2.1), (I_ba_fr (σ := σ) rfl rfl rfl rfl rfl rfl rfl rfl rfl rfl rfl rfl rfl rfl rfl rfl rfl rfl rfl rfl rfl hI.2.2.2.2.2.1), (I_ex_fr (σ := σ) rfl rfl rfl rfl rfl rfl rfl rfl rfl rfl rfl hI.2.2.2.2.2.2.1), (I_gu_fr (σ := σ) rfl rfl rfl rfl rfl rfl rfl rfl rfl rfl hI.2.2.2.2.2.2.2.1), (I_sh_fr (σ := σ) rfl rfl rfl rfl rfl hI.2.2.2.2.2.2.2.2.1), (I_wa_fr (σ := σ) rfl rfl rfl rfl hI.2.2.2.2.2.2.2.2.2.1), (I_la_fr (σ := σ) rfl rfl rfl rfl rfl rfl rfl rfl rfl rfl rfl hI.2.2.2.2.2.2.2.2.2.2.1), (I_he_fr (σ := σ) rfl hI.2.2.2.2.2.2.2.2.2.2.2)⟩⟩)
                      · refine ⟨rfl, trivial, ?_⟩
                        first
                        | (exfalso; (first | omega | (simp only [Int32.reduceToInt] at c3 c14 c19 h31a h31b m5 m11 m19 m24 m32 m55 hm63a ⊢; omega)); done)
                        | (have z5 : (σ 10 0).toInt < 100 := by (first | omega | (simp only [Int32.reduceToInt] at c3 c14 c19 h31a h31b m5 m11 m19 m24 m32 m55 hm63a ⊢; omega))
                           have zl : (0 ≤ (5 : Int32).toInt ∧ (5 : Int32).toInt ≤ 5) ∧ (0 ≤ v.toInt ∧ v.toInt < (σ 3 0).toInt) ∧ (0 ≤ a.toInt ∧ a.toInt ≤ (σ 1 0).toInt) ∧ (0 ≤ (0 : Int32).toInt ∧ (0 : Int32).toInt ≤ 100000) := ⟨⟨by decide, by decide⟩, by (first | omega | (simp only [Int32.reduceToInt] at c3 c14 c19 h31a h31b m5 m11 m19 m24 m32 m55 hm63a ⊢; omega)), by (first | omega | (simp only [Int32.reduceToInt] at c3 c14 c19 h31a h31b m5 m11 m19 m24 m32 m55 hm63a ⊢; omega)), ⟨by decide, by decide⟩⟩
                           have zp : (p = -1000000005 ∧ p.toInt = -1000000005) ∨ (p.toInt ≠ -1000000005 ∧ 0 ≤ p.toInt ∧ p.toInt < (σ 3 0).toInt ∧ p.toInt ≠ v.toInt) := by
                             by_cases zz : p.toInt = -1000000005
                             · exact Or.inl ⟨iX zz, zz⟩
                             · exact Or.inr (by (first | omega | (simp only [Int32.reduceToInt] at c3 c14 c19 h31a h31b m5 m11 m19 m24 m32 m55 hm63a ⊢; omega)))
                           subst hτ
                           exact ⟨⟨σ 10 0, rfl, vI_ l0⟩, ⟨(I_tr_fr (σ := σ) rfl rfl rfl rfl rfl rfl rfl rfl hI.1), (I_vo_fr (σ := σ) rfl rfl rfl rfl rfl rfl rfl rfl rfl rfl rfl rfl rfl rfl rfl hI.2.1), (c_line_li (σ := σ) rfl rfl rfl rfl rfl rfl rfl rfl rfl rfl rfl rfl rfl rfl rfl rfl rfl rfl rfl rfl rfl hI.2.2.1 z5 t0 rfl ⟨zl.1, zl.2.1, zl.2.2.1, ⟨t4, Int.le_refl _⟩, zl.2.2.2, (by first | exact Or.inl ⟨Or.inr (Or.inr rfl), (by rcases zp with q | q; exact q.1; exfalso; (first | omega | (simp only [Int32.reduceToInt] at m11 m55 c3; omega) | (simp only [Int32.reduceToInt] at m11 m55; omega) | (simp only [Int32.reduceToInt] at m11; omega) | (simp only [Int32.reduceToInt] at c3; omega))), rfl⟩ | exact Or.inr (Or.inr ⟨Or.inr rfl, rfl, (by omega), (by omega), (by omega)⟩)), fun z => absurd z (by decide)⟩), (c_line_or (σ := σ) rfl rfl rfl hI.2.2.2.1 l6 z5), (I_ta_fr (σ := σ) rfl rfl rfl rfl hI.2.2.2.2.1), (I_ba_fr (σ := σ) rfl rfl rfl rfl rfl rfl rfl rfl rfl rfl rfl rfl rfl rfl rfl rfl rfl rfl rfl rfl rfl hI.2.2.2.2.2.1), (I_ex_fr (σ := σ) rfl rfl rfl rfl rfl rfl rfl rfl rfl rfl rfl hI.2.2.2.2.2.2.1), (I_gu_fr (σ := σ) rfl rfl rfl rfl rfl rfl rfl rfl rfl rfl hI.2.2.2.2.2.2.2.1), (I_sh_fr (σ := σ) rfl rfl rfl rfl rfl hI.2.2.2.2.2.2.2.2.1), (I_wa_fr (σ := σ) rfl rfl rfl rfl hI.2.2.2.2.2.2.2.2.2.1), (I_la_fr (σ := σ) rfl rfl rfl rfl rfl rfl rfl rfl rfl rfl rfl hI.2.2.2.2.2.2.2.2.2.2.1), (I_he_fr (σ := σ) rfl hI.2.2.2.2.2.2.2.2.2.2.2)⟩⟩)
theorem cntG_upd {f : Nat → Int32} {j : Nat} {x : Int32} (hj : (f j).toInt < 0) (hx : 0 ≤ x.toInt) : ∀ n, j < n → cntG (upd f j x) n = cntG f n + 1
  | 0, h => by omega
  | n + 1, h => by
    rw [cntG_s, cntG_s]
    by_cases q : j = n
    · subst q
      rw [pk_us, if_neg (by omega), if_pos hj, cntG_cong (f := upd f j x) (g := f) j (fun i hi => pk_un (by omega))]
    · rw [pk_un (by omega), cntG_upd hj hx n (by omega)]
      omega
theorem c_wd_li {σ σ' : Mm} {l : Int32} (e9 : σ' 9 = σ 9) (e11 : σ' 11 = σ 11) (e12 : σ' 12 = σ 12) (e13 : σ' 13 = σ 13) (e14 : σ' 14 = σ 14) (e15 : σ' 15 = upd (σ 15) l.toInt.toNat (σ 1 0)) (e16 : σ' 16 = σ 16) (e17 : σ' 17 = σ 17) (e96 : σ' 96 = σ 96) (e97 : σ' 97 = σ 97) (e98 : σ' 98 = σ 98) (e99 : σ' 99 = σ 99) (e100 : σ' 100 = upd (σ 100) l.toInt.toNat (σ 88 0)) (e101 : σ' 101 = σ 101) (e102 : σ' 102 = σ 102) (p10_0 : σ' 10 0 = σ 10 0) (p10_1 : σ' 10 1 = σ 10 1 + 1) (p88_11 : σ' 88 11 = σ 88 11) (p1_0 : σ' 1 0 = σ 1 0) (p1_2 : σ' 1 2 = σ 1 2) (p3_0 : σ' 3 0 = σ 3 0) (h : I_li σ) (ht : σ 88 0 = σ 1 0) (h4 : 0 ≤ (σ 1 0).toInt) (h5 : 0 ≤ l.toInt) (h6 : l.toInt < (σ 10 0).toInt) (h7 : (σ 100 l.toInt.toNat).toInt < 0) : I_li σ' := by
  unfold I_li
  simp only [e9, e11, e12, e13, e14, e15, e16, e17, e96, e97, e98, e99, e100, e101, e102, p10_0, p10_1, p88_11, p1_0, p1_2, p3_0]
  obtain ⟨l0, ⟨l6, l7⟩, l8, l9⟩ := h
  rw [ht]
  refine ⟨l0, ⟨l6, l7⟩, ?_, fun i hi => ?_⟩
  · rw [cntG_upd h7 h4 _ (by omega), l8, nI_1]
  · by_cases q : i = l.toInt.toNat
    · subst q
      simp only [pk_us]
      obtain ⟨a1, a2, a3, a4, a5, a6⟩ := l9 _ hi
      exact ⟨a1, a2, a3, a4, Or.inr ⟨trivial, h4, Int.le_refl _⟩, a6⟩
    · simp only [pk_un q]
      exact l9 i hi
theorem op_withdraw {σ : Mm} {l : Int32} (hI : Inv σ) : Call 120 k_X11_withdraw [.ref 0, .int l] σ (fun r τ => Call 120 k_X12_withdraw [.ref 88, .int l] τ (fun r' τ' => (∃ x : Int32, r = some (.int x) ∧ r' = some (.int x)) ∧ Inv τ')) := by
  obtain ⟨⟨t0, t1, t2, t3⟩, ⟨t4, t5⟩, ⟨t6, t7⟩, ⟨t8, t9⟩, t10⟩ := id (hI.1)
  obtain ⟨⟨l0, l1, l2, l3, l4, l5⟩, ⟨l6, l7⟩, l8, l9⟩ := id (hI.2.2.1)
  have qtoday : (σ 88 0).toInt = (σ 1 0).toInt := by rw [t0]
  have qlines : (σ 88 11).toInt = (σ 10 0).toInt := by rw [l0]
  have zl : 0 ≤ l.toInt → l.toInt < (σ 10 0).toInt → ((σ 15 l.toInt.toNat).toInt = -1000000005 ∧ (σ 100 l.toInt.toNat).toInt = -1) ∨ ((σ 100 l.toInt.toNat).toInt = (σ 15 l.toInt.toNat).toInt ∧ 0 ≤ (σ 15 l.toInt.toNat).toInt) := fun q1 q2 => by
    rcases (l9 l.toInt.toNat (by omega)).2.2.2.2.1 with ⟨q3, q4⟩ | ⟨q3, q4, q5⟩
    · exact Or.inl ⟨by rw [q3]; rfl, by rw [q4]; rfl⟩
    · exact Or.inr ⟨by rw [q3], q4⟩
  refine Call_st 200 fun X hX => ?_
  refine ⟨rfl, rfl, ?_⟩
  refine s_lhas ?_
  refine ⟨fun c8 => ?_, fun c8 => ?_⟩
  · replace c8 := bI_z c8
    refine ⟨rfl, trivial, ?_⟩
    refine Call_st 200 fun Y hY => ?_
    refine ⟨rfl, rfl, ?_⟩
    refine m_isLine (by omega) ?_
    refine ⟨fun m5 => ?_, fun m5 => ?_⟩
    · replace m5 := bI_z m5
      refine ⟨rfl, trivial, ?_⟩
      first | exact ⟨⟨_, rfl, rfl⟩, hI⟩ | (exfalso; (first | omega | (simp only [Int32.reduceToInt] at c8 m5 ⊢; omega)))
    · replace m5 := bI_nz m5
      refine ⟨_, _, rfl, (by refine ⟨?_, ?_⟩ <;> (first | omega | (simp only [Int32.reduceToInt] at c8 m5 ⊢; omega))), ?_⟩
      refine ⟨fun m17 => ?_, fun m17 => ?_⟩
      · refine ⟨_, rfl, (by refine ⟨?_, ?_⟩ <;> (first | omega | (simp only [Int32.reduceToInt] at c8 m5 m17 ⊢; omega))), ?_⟩
        refine ⟨rfl, trivial, ?_⟩
        first | exact ⟨⟨_, rfl, rfl⟩, hI⟩ | (exfalso; (first | omega | (simp only [Int32.reduceToInt] at c8 m5 m17 ⊢; omega)))
      · refine ⟨rfl, trivial, ?_⟩
        first | exact ⟨⟨_, rfl, rfl⟩, hI⟩ | (exfalso; (first | omega | (simp only [Int32.reduceToInt] at c8 m5 m17 ⊢; omega)))
  · replace c8 := bI_nz c8
    refine ⟨_, _, rfl, (by refine ⟨?_, ?_⟩ <;> (first | omega | (simp only [Int32.reduceToInt] at c8 ⊢; omega))), ?_⟩
    refine ⟨fun c25 => ?_, fun c25 => ?_⟩
    · refine ⟨_, rfl, (by refine ⟨?_, ?_⟩ <;> (first | omega | (simp only [Int32.reduceToInt] at c8 c25 ⊢; omega))), ?_⟩
      refine ⟨rfl, trivial, ?_⟩
      refine nxt fun τ hτ => ?_
      have e88 : τ 88 = σ 88 := by rw [hτ]; rfl
      have e100 : τ 100 = σ 100 := by rw [hτ]; rfl
      have qτtoday : (τ 88 0).toInt = (σ 1 0).toInt := by rw [e88, t0]
      have qτlines : (τ 88 11).toInt = (σ 10 0).toInt := by rw [e88, l0]
      have q100 : (τ 100 l.toInt.toNat).toInt = (σ 100 l.toInt.toNat).toInt := by rw [e100]
      refine Call_st 200 fun Y hY => ?_
      refine ⟨rfl, rfl, ?_⟩
      refine m_isLine (by omega) ?_
      refine ⟨fun m5 => ?_, fun m5 => ?_⟩
      · replace m5 := bI_z m5
        refine ⟨rfl, trivial, ?_⟩
        first
        | (exfalso; (first | omega | (simp only [Int32.reduceToInt] at c8 c25 m5 ⊢; omega)); done)
        | (have z1 : 0 ≤ l.toInt ∧ l.toInt < (σ 10 0).toInt := by (first | omega | (simp only [Int32.reduceToInt] at c8 c25 m5 ⊢; omega))
           have z2 : (σ 100 l.toInt.toNat).toInt < 0 := by (first | omega | (simp only [Int32.reduceToInt] at c8 c25 m5 ⊢; omega))
           subst hτ
           exact ⟨⟨1, rfl, rfl⟩, ⟨(I_tr_fr (σ := σ) rfl rfl rfl rfl rfl rfl rfl rfl hI.1), (I_vo_fr (σ := σ) rfl rfl rfl rfl rfl rfl rfl rfl rfl rfl rfl rfl rfl rfl rfl hI.2.1), (c_wd_li (σ := σ) rfl rfl rfl rfl rfl rfl rfl rfl rfl rfl rfl rfl rfl rfl rfl rfl rfl rfl rfl rfl rfl hI.2.2.1 t0 t4 z1.1 z1.2 z2), (I_or_fr (σ := σ) rfl rfl rfl hI.2.2.2.1), (I_ta_fr (σ := σ) rfl rfl rfl rfl hI.2.2.2.2.1), (I_ba_fr (σ := σ) rfl rfl rfl rfl rfl rfl rfl rfl rfl rfl rfl rfl rfl rfl rfl rfl rfl rfl rfl rfl rfl hI.2.2.2.2.2.1), (I_ex_fr (σ := σ) rfl rfl rfl rfl rfl rfl rfl rfl rfl rfl rfl hI.2.2.2.2.2.2.1), (I_gu_fr (σ := σ) rfl rfl rfl rfl rfl rfl rfl rfl rfl rfl hI.2.2.2.2.2.2.2.1), (I_sh_fr (σ := σ) rfl rfl rfl rfl rfl hI.2.2.2.2.2.2.2.2.1), (I_wa_fr (σ := σ) rfl rfl rfl rfl hI.2.2.2.2.2.2.2.2.2.1), (I_la_fr (σ := σ) rfl rfl rfl rfl rfl rfl rfl rfl rfl rfl rfl hI.2.2.2.2.2.2.2.2.2.2.1), (I_he_fr (σ := σ) rfl hI.2.2.2.2.2.2.2.2.2.2.2)⟩⟩)
      · replace m5 := bI_nz m5
        refine ⟨_, _, rfl, (by refine ⟨?_, ?_⟩ <;> (first | omega | (simp only [Int32.reduceToInt] at c8 c25 m5 ⊢; omega))), ?_⟩
        refine ⟨fun m17 => ?_, fun m17 => ?_⟩
        · refine ⟨_, rfl, (by refine ⟨?_, ?_⟩ <;> (first | omega | (simp only [Int32.reduceToInt] at c8 c25 m5 m17 ⊢; omega))), ?_⟩
          refine ⟨rfl, trivial, ?_⟩
          first
          | (exfalso; (first | omega | (simp only [Int32.reduceToInt] at c8 c25 m5 m17 ⊢; omega)); done)
          | (have z1 : 0 ≤ l.toInt ∧ l.toInt < (σ 10 0).toInt := by (first | omega | (simp only [Int32.reduceToInt] at c8 c25 m5 m17 ⊢; omega))
             have z2 : (σ 100 l.toInt.toNat).toInt < 0 := by (first | omega | (simp only [Int32.reduceToInt] at c8 c25 m5 m17 ⊢; omega))
             subst hτ
             exact ⟨⟨1, rfl, rfl⟩, ⟨(I_tr_fr (σ := σ) rfl rfl rfl rfl rfl rfl rfl rfl hI.1), (I_vo_fr (σ := σ) rfl rfl rfl rfl rfl rfl rfl rfl rfl rfl rfl rfl rfl rfl rfl hI.2.1), (c_wd_li (σ := σ) rfl rfl rfl rfl rfl rfl rfl rfl rfl rfl rfl rfl rfl rfl rfl rfl rfl rfl rfl rfl rfl hI.2.2.1 t0 t4 z1.1 z1.2 z2), (I_or_fr (σ := σ) rfl rfl rfl hI.2.2.2.1), (I_ta_fr (σ := σ) rfl rfl rfl rfl hI.2.2.2.2.1), (I_ba_fr (σ := σ) rfl rfl rfl rfl rfl rfl rfl rfl rfl rfl rfl rfl rfl rfl rfl rfl rfl rfl rfl rfl rfl hI.2.2.2.2.2.1), (I_ex_fr (σ := σ) rfl rfl rfl rfl rfl rfl rfl rfl rfl rfl rfl hI.2.2.2.2.2.2.1), (I_gu_fr (σ := σ) rfl rfl rfl rfl rfl rfl rfl rfl rfl rfl hI.2.2.2.2.2.2.2.1), (I_sh_fr (σ := σ) rfl rfl rfl rfl rfl hI.2.2.2.2.2.2.2.2.1), (I_wa_fr (σ := σ) rfl rfl rfl rfl hI.2.2.2.2.2.2.2.2.2.1), (I_la_fr (σ := σ) rfl rfl rfl rfl rfl rfl rfl rfl rfl rfl rfl hI.2.2.2.2.2.2.2.2.2.2.1), (I_he_fr (σ := σ) rfl hI.2.2.2.2.2.2.2.2.2.2.2)⟩⟩)
        · refine ⟨rfl, trivial, ?_⟩
          first
          | (exfalso; (first | omega | (simp only [Int32.reduceToInt] at c8 c25 m5 m17 ⊢; omega)); done)
          | (have z1 : 0 ≤ l.toInt ∧ l.toInt < (σ 10 0).toInt := by (first | omega | (simp only [Int32.reduceToInt] at c8 c25 m5 m17 ⊢; omega))
             have z2 : (σ 100 l.toInt.toNat).toInt < 0 := by (first | omega | (simp only [Int32.reduceToInt] at c8 c25 m5 m17 ⊢; omega))
             subst hτ
             exact ⟨⟨1, rfl, rfl⟩, ⟨(I_tr_fr (σ := σ) rfl rfl rfl rfl rfl rfl rfl rfl hI.1), (I_vo_fr (σ := σ) rfl rfl rfl rfl rfl rfl rfl rfl rfl rfl rfl rfl rfl rfl rfl hI.2.1), (c_wd_li (σ := σ) rfl rfl rfl rfl rfl rfl rfl rfl rfl rfl rfl rfl rfl rfl rfl rfl rfl rfl rfl rfl rfl hI.2.2.1 t0 t4 z1.1 z1.2 z2), (I_or_fr (σ := σ) rfl rfl rfl hI.2.2.2.1), (I_ta_fr (σ := σ) rfl rfl rfl rfl hI.2.2.2.2.1), (I_ba_fr (σ := σ) rfl rfl rfl rfl rfl rfl rfl rfl rfl rfl rfl rfl rfl rfl rfl rfl rfl rfl rfl rfl rfl hI.2.2.2.2.2.1), (I_ex_fr (σ := σ) rfl rfl rfl rfl rfl rfl rfl rfl rfl rfl rfl hI.2.2.2.2.2.2.1), (I_gu_fr (σ := σ) rfl rfl rfl rfl rfl rfl rfl rfl rfl rfl hI.2.2.2.2.2.2.2.1), (I_sh_fr (σ := σ) rfl rfl rfl rfl rfl hI.2.2.2.2.2.2.2.2.1), (I_wa_fr (σ := σ) rfl rfl rfl rfl hI.2.2.2.2.2.2.2.2.2.1), (I_la_fr (σ := σ) rfl rfl rfl rfl rfl rfl rfl rfl rfl rfl rfl hI.2.2.2.2.2.2.2.2.2.2.1), (I_he_fr (σ := σ) rfl hI.2.2.2.2.2.2.2.2.2.2.2)⟩⟩)
    · refine ⟨rfl, trivial, ?_⟩
      refine Call_st 200 fun Y hY => ?_
      refine ⟨rfl, rfl, ?_⟩
      refine m_isLine (by omega) ?_
      refine ⟨fun m5 => ?_, fun m5 => ?_⟩
      · replace m5 := bI_z m5
        refine ⟨rfl, trivial, ?_⟩
        first | exact ⟨⟨_, rfl, rfl⟩, hI⟩ | (exfalso; (first | omega | (simp only [Int32.reduceToInt] at c8 c25 m5 ⊢; omega)))
      · replace m5 := bI_nz m5
        refine ⟨_, _, rfl, (by refine ⟨?_, ?_⟩ <;> (first | omega | (simp only [Int32.reduceToInt] at c8 c25 m5 ⊢; omega))), ?_⟩
        refine ⟨fun m17 => ?_, fun m17 => ?_⟩
        · refine ⟨_, rfl, (by refine ⟨?_, ?_⟩ <;> (first | omega | (simp only [Int32.reduceToInt] at c8 c25 m5 m17 ⊢; omega))), ?_⟩
          refine ⟨rfl, trivial, ?_⟩
          first | exact ⟨⟨_, rfl, rfl⟩, hI⟩ | (exfalso; (first | omega | (simp only [Int32.reduceToInt] at c8 c25 m5 m17 ⊢; omega)))
        · refine ⟨rfl, trivial, ?_⟩
          first | exact ⟨⟨_, rfl, rfl⟩, hI⟩ | (exfalso; (first | omega | (simp only [Int32.reduceToInt] at c8 c25 m5 m17 ⊢; omega)))
