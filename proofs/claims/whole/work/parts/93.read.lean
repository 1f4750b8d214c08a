theorem cu_ne {L : List Nat} {c k : Nat} (h : cu L c = false) (hk : cu L k = true) : c ≠ k := fun z => by rw [z, hk] at h; cases h
theorem arrM_sh {h v h' v' : Nat → Int32} {c0 c1 : Nat} : ∀ L : List Sp3, (∀ i, i < L.length → h' (c1 + i) = h (c0 + i) ∧ v' (c1 + i) = v (c0 + i)) → arrM h v c0 L → arrM h' v' c1 L
  | [], _, _ => True.intro
  | _ :: L, h, ha => ⟨⟨(h L.length (Nat.lt_succ_self _)).1.trans ha.1.1, (h L.length (Nat.lt_succ_self _)).2.trans ha.1.2⟩, arrM_sh L (fun i hi => h i (Nat.lt_succ_of_lt hi)) ha.2⟩
theorem en_20 {τ : Mm} {l : Int32} (hl : (0 ≤ l.toInt ∧ l.toInt ≤ 2)) : enS τ l 20 = upd (τ 20) l.toInt.toNat 1 := by
  unfold enS
  rw [wr_k, up_c (by omega), up_c (by omega)]
theorem en_cy {τ : Mm} {l : Int32} {i : Nat} (hl : (0 ≤ l.toInt ∧ l.toInt ≤ 2)) (hi : i < 96) : enS τ l (22 + l.toInt.toNat) i = τ 32 i := by
  unfold enS
  rw [wr_c (by omega), up_c (by omega), up_k, pk_cpy_in (Nat.zero_le _) (by omega)]
  congr 1
  omega
theorem en_cn {τ : Mm} {l : Int32} {a : Nat} (hl : (0 ≤ l.toInt ∧ l.toInt ≤ 2)) (ha : a < 3) (h : a ≠ l.toInt.toNat) : enS τ l (22 + a) = τ (22 + a) := by
  unfold enS
  rw [wr_c (by omega), up_c (by omega), up_c (by omega)]
theorem en_sy {τ : Mm} {l : Int32} {i : Nat} (hl : (0 ≤ l.toInt ∧ l.toInt ≤ 2)) (hi : i < 4) : enS τ l (26 + l.toInt.toNat) i = τ 33 i := by
  unfold enS
  rw [wr_c (by omega), up_k, pk_cpy_in (Nat.zero_le _) (by omega), up_c (by omega)]
  congr 1
  omega
theorem en_sn {τ : Mm} {l : Int32} {a : Nat} (hl : (0 ≤ l.toInt ∧ l.toInt ≤ 2)) (ha : a < 3) (h : a ≠ l.toInt.toNat) : enS τ l (26 + a) = τ (26 + a) := by
  unfold enS
  rw [wr_c (by omega), up_c (by omega), up_c (by omega)]
theorem Inv_l0 {σ τ : Mm} (hI : Inv σ) (h : Ag [0, 31, 32, 33, 88, 114, 115, 116] σ τ) (hO0 : ∀ j, cu [5] j = false → τ 0 j = σ 0 j) (hO88 : ∀ j, cu [36, 37, 38, 39, 40, 41, 42, 43, 44, 45, 46] j = false → τ 88 j = σ 88 j) (nI_ta : I_ta τ) : Inv τ := ⟨(I_tr_fr (σ := σ) (h 2 rfl) (h 89 rfl) (congrFun (h 1 rfl) 0) (congrFun (h 1 rfl) 1) (congrFun (h 1 rfl) 2) (hO88 0 rfl) (hO88 1 rfl) (hO88 2 rfl) hI.1),
  (I_vo_fr (σ := σ) (h 4 rfl) (h 5 rfl) (h 6 rfl) (h 7 rfl) (h 8 rfl) (h 9 rfl) (h 90 rfl) (h 91 rfl) (h 92 rfl) (h 93 rfl) (h 94 rfl) (h 95 rfl) (congrFun (h 3 rfl) 0) (hO88 4 rfl) (congrFun (h 1 rfl) 1) hI.2.1),
  (I_li_fr (σ := σ) (h 9 rfl) (h 11 rfl) (h 12 rfl) (h 13 rfl) (h 14 rfl) (h 15 rfl) (h 16 rfl) (h 17 rfl) (h 96 rfl) (h 97 rfl) (h 98 rfl) (h 99 rfl) (h 100 rfl) (h 101 rfl) (h 102 rfl) (congrFun (h 10 rfl) 0) (congrFun (h 10 rfl) 1) (hO88 11 rfl) (congrFun (h 1 rfl) 0) (congrFun (h 1 rfl) 2) (congrFun (h 3 rfl) 0) hI.2.2.1),
  (I_or_fr (σ := σ) (h 13 rfl) (h 18 rfl) (congrFun (h 10 rfl) 0) hI.2.2.2.1),
  nI_ta,
  (I_ba_fr (σ := σ) (h 46 rfl) (h 47 rfl) (h 48 rfl) (h 49 rfl) (h 50 rfl) (h 120 rfl) (h 121 rfl) (h 122 rfl) (h 123 rfl) (h 124 rfl) (h 52 rfl) (h 53 rfl) (h 54 rfl) (h 55 rfl) (h 56 rfl) (h 57 rfl) (h 125 rfl) (congrFun (h 45 rfl) 0) (congrFun (h 45 rfl) 3) (hO88 48 rfl) (hO88 51 rfl) hI.2.2.2.2.2.1),
  (I_ex_fr (σ := σ) (h 73 rfl) (h 74 rfl) (h 75 rfl) (h 76 rfl) (h 77 rfl) (h 131 rfl) (h 132 rfl) (h 133 rfl) (h 134 rfl) (congrFun (h 71 rfl) 0) (hO88 65 rfl) hI.2.2.2.2.2.2.1),
  (I_gu_fr (σ := σ) (h 79 rfl) (h 80 rfl) (h 81 rfl) (h 136 rfl) (h 137 rfl) (h 138 rfl) (congrFun (h 78 rfl) 0) (congrFun (h 78 rfl) 1) (hO88 71 rfl) (hO88 72 rfl) hI.2.2.2.2.2.2.2.1),
  (I_sh_fr (σ := σ) (h 83 rfl) (h 85 rfl) (h 86 rfl) (h 103 rfl) (h 104 rfl) hI.2.2.2.2.2.2.2.2.1),
  (I_wa_fr (σ := σ) (h 87 rfl) (h 130 rfl) (hO0 14 rfl) (hO88 64 rfl) hI.2.2.2.2.2.2.2.2.2.1),
  (I_la_fr (σ := σ) (h 20 rfl) (h 22 rfl) (h 23 rfl) (h 24 rfl) (h 26 rfl) (h 27 rfl) (h 28 rfl) (h 110 rfl) (h 111 rfl) (h 112 rfl) (h 113 rfl) hI.2.2.2.2.2.2.2.2.2.2.1),
  (I_he_fr (σ := σ) (h 119 rfl) hI.2.2.2.2.2.2.2.2.2.2.2)⟩
theorem Inv_l1 {σ τ : Mm} (hI : Inv σ) (h : Ag [0, 20, 22, 23, 24, 26, 27, 28, 31, 32, 33, 88, 110, 111, 112, 113, 114, 115, 116] σ τ) (hO0 : ∀ j, cu [5] j = false → τ 0 j = σ 0 j) (hO88 : ∀ j, cu [36, 37, 38, 39, 40, 41, 42, 43, 44, 45, 46] j = false → τ 88 j = σ 88 j) (nI_ta : I_ta τ) (nI_la : I_la τ) : Inv τ := ⟨(I_tr_fr (σ := σ) (h 2 rfl) (h 89 rfl) (congrFun (h 1 rfl) 0) (congrFun (h 1 rfl) 1) (congrFun (h 1 rfl) 2) (hO88 0 rfl) (hO88 1 rfl) (hO88 2 rfl) hI.1),
  (I_vo_fr (σ := σ) (h 4 rfl) (h 5 rfl) (h 6 rfl) (h 7 rfl) (h 8 rfl) (h 9 rfl) (h 90 rfl) (h 91 rfl) (h 92 rfl) (h 93 rfl) (h 94 rfl) (h 95 rfl) (congrFun (h 3 rfl) 0) (hO88 4 rfl) (congrFun (h 1 rfl) 1) hI.2.1),
  (I_li_fr (σ := σ) (h 9 rfl) (h 11 rfl) (h 12 rfl) (h 13 rfl) (h 14 rfl) (h 15 rfl) (h 16 rfl) (h 17 rfl) (h 96 rfl) (h 97 rfl) (h 98 rfl) (h 99 rfl) (h 100 rfl) (h 101 rfl) (h 102 rfl) (congrFun (h 10 rfl) 0) (congrFun (h 10 rfl) 1) (hO88 11 rfl) (congrFun (h 1 rfl) 0) (congrFun (h 1 rfl) 2) (congrFun (h 3 rfl) 0) hI.2.2.1),
  (I_or_fr (σ := σ) (h 13 rfl) (h 18 rfl) (congrFun (h 10 rfl) 0) hI.2.2.2.1),
  nI_ta,
  (I_ba_fr (σ := σ) (h 46 rfl) (h 47 rfl) (h 48 rfl) (h 49 rfl) (h 50 rfl) (h 120 rfl) (h 121 rfl) (h 122 rfl) (h 123 rfl) (h 124 rfl) (h 52 rfl) (h 53 rfl) (h 54 rfl) (h 55 rfl) (h 56 rfl) (h 57 rfl) (h 125 rfl) (congrFun (h 45 rfl) 0) (congrFun (h 45 rfl) 3) (hO88 48 rfl) (hO88 51 rfl) hI.2.2.2.2.2.1),
  (I_ex_fr (σ := σ) (h 73 rfl) (h 74 rfl) (h 75 rfl) (h 76 rfl) (h 77 rfl) (h 131 rfl) (h 132 rfl) (h 133 rfl) (h 134 rfl) (congrFun (h 71 rfl) 0) (hO88 65 rfl) hI.2.2.2.2.2.2.1),
  (I_gu_fr (σ := σ) (h 79 rfl) (h 80 rfl) (h 81 rfl) (h 136 rfl) (h 137 rfl) (h 138 rfl) (congrFun (h 78 rfl) 0) (congrFun (h 78 rfl) 1) (hO88 71 rfl) (hO88 72 rfl) hI.2.2.2.2.2.2.2.1),
  (I_sh_fr (σ := σ) (h 83 rfl) (h 85 rfl) (h 86 rfl) (h 103 rfl) (h 104 rfl) hI.2.2.2.2.2.2.2.2.1),
  (I_wa_fr (σ := σ) (h 87 rfl) (h 130 rfl) (hO0 14 rfl) (hO88 64 rfl) hI.2.2.2.2.2.2.2.2.2.1),
  nI_la,
  (I_he_fr (σ := σ) (h 119 rfl) hI.2.2.2.2.2.2.2.2.2.2.2)⟩
theorem ta_0 {σ τ : Mm} (h : I_ta σ) (h30 : τ 30 = σ 30) (h118 : τ 118 = σ 118) (h5 : τ 0 5 = 0) (h36 : τ 88 36 = 0) : I_ta τ := by
  unfold I_ta at *
  rw [h30, h118, h5, h36]
  exact ⟨rfl, by decide, h.2.2⟩
theorem lw_i0 {σ τ τ' : Mm} (hI : Inv σ) (hτ : ∀ c, c ≠ 31 → c ≠ 32 → c ≠ 33 → τ c = wr σ 0 5 0 c) (hF : FeM τ τ') : Inv τ' := by
  have e : ∀ c, cu [0, 31, 32, 33, 88, 114, 115, 116] c = false → τ' c = σ c := fun c hc => by
    rw [hF.1 c (cu_ne hc rfl) (cu_ne hc rfl) (cu_ne hc rfl) (cu_ne hc rfl), hτ c (cu_ne hc rfl) (cu_ne hc rfl) (cu_ne hc rfl), wr_c (cu_ne hc rfl)]
  have e0 : τ' 0 = wr σ 0 5 0 0 := by rw [hF.1 0 (by decide) (by decide) (by decide) (by decide), hτ 0 (by decide) (by decide) (by decide)]
  refine Inv_l0 hI e (fun j hj => by rw [e0, wr_i (cu_ne hj rfl)]) (fun j hj => by rw [hF.2.1 j hj, hτ 88 (by decide) (by decide) (by decide), wr_c (by decide)]) (ta_0 hI.2.2.2.2.1 (e 30 rfl) (e 118 rfl) (by rw [e0]; rfl) hF.2.2)
set_option maxHeartbeats 2000000 in
theorem lw_i1 {σ τ β τ' : Mm} {l : Int32} {b : Nat → Int32} {n : Nat} {r0 r1 r2 : Bool × Pst} (hI : Inv σ) (hb : ∀ i, i < 96 → -128 ≤ (b i).toInt ∧ (b i).toInt < 128) (hn : n ≤ 96) (hl : (0 ≤ l.toInt ∧ l.toInt ≤ 2)) (e0 : paF b n 0 (lxF b n 0 False) 0 = r0) (e1 : paF b n 1 r0.2.1 r0.2.2.1 = r1) (e2 : paF b n 2 r1.2.1 r1.2.2.1 = r2) (hg : lwG r0 r1 r2) (hL : LdC r0 r1 r2 (wr σ 0 5 0) τ) (hF : FeM (enS τ l) β) (hM : LdM r0 r1 r2 β) (hC : CpO β τ' (Ln3 r0.2.2.2.length r1.2.2.2.length r2.2.2.2.length) l.toInt.toNat 3) : Inv τ' := by
  have g0 := pa_grd hb hn e0 (lx_ok (Nat.zero_le n)).1 hg.1
  have g1 := pa_grd hb hn e1 g0.1 hg.2.1
  have g2 := pa_grd hb hn e2 g1.1 hg.2.2.1
  have k1 := g0.2.1
  have k2 := g1.2.1
  have k3 := g2.2.1
  have k4 := g2.1.1
  have k5 := g2.1.2.1
  have eβ : ∀ c, c ≠ 88 → c ≠ 114 → c ≠ 115 → c ≠ 116 → β c = enS τ l c := hF.1
  have eσ : ∀ c, c ≠ 0 → c ≠ 31 → c ≠ 32 → c ≠ 33 → τ c = σ c := fun c z0 z1 z2 z3 => by rw [hL.1 c z1 z2 z3, wr_c z0]
  have e : ∀ c, cu [0, 20, 22, 23, 24, 26, 27, 28, 31, 32, 33, 88, 110, 111, 112, 113, 114, 115, 116] c = false → τ' c = σ c := fun c hc => by
    have q : ∀ k, cu [0, 20, 22, 23, 24, 26, 27, 28, 31, 32, 33, 88, 110, 111, 112, 113, 114, 115, 116] k = true → c ≠ k := fun k hk => cu_ne hc hk
    have q22 := q 22 rfl
    have q23 := q 23 rfl
    have q24 := q 24 rfl
    have q26 := q 26 rfl
    have q27 := q 27 rfl
    have q28 := q 28 rfl
    rw [hC.1 c (q _ rfl) (q _ rfl) (q _ rfl) (q _ rfl), eβ c (q _ rfl) (q _ rfl) (q _ rfl) (q _ rfl), en_c hl (q _ rfl) (by omega) (by omega), eσ c (q _ rfl) (q _ rfl) (q _ rfl) (q _ rfl)]
  have e00 : τ' 0 = wr σ 0 5 0 0 := by rw [hC.1 0 (by decide) (by decide) (by decide) (by decide), eβ 0 (by decide) (by decide) (by decide) (by decide), en_c hl (by decide) (by decide) (by decide), hL.1 0 (by decide) (by decide) (by decide)]
  have e88 : τ' 88 = β 88 := hC.1 88 (by decide) (by decide) (by decide) (by decide)
  have c20 : τ' 20 = upd (σ 20) l.toInt.toNat 1 := by rw [hC.1 20 (by decide) (by decide) (by decide) (by decide), eβ 20 (by decide) (by decide) (by decide) (by decide), en_20 hl, eσ 20 (by decide) (by decide) (by decide) (by decide)]
  have hla : I_la σ := hI.2.2.2.2.2.2.2.2.2.2.1
  have old : ∀ a, a < 3 → lawI (σ 20) (σ (22 + a)) (σ (26 + a)) (σ 111) (σ 112) (σ 113) a := fun a ha => by
    rcases (show a = 0 ∨ a = 1 ∨ a = 2 by omega) with r | r | r <;> subst r
    · exact hla.2.1
    · exact hla.2.2.1
    · exact hla.2.2.2
  have b1 : ∀ c, 110 ≤ c → c ≤ 113 → β c = σ c := fun c z1 z2 => by rw [eβ c (by omega) (by omega) (by omega) (by omega), en_c hl (by omega) (by omega) (by omega), eσ c (by omega) (by omega) (by omega) (by omega)]
  have cc : ∀ a, a < 3 → τ' (22 + a) = enS τ l (22 + a) ∧ τ' (26 + a) = enS τ l (26 + a) := fun a ha => ⟨by rw [hC.1 _ (by omega) (by omega) (by omega) (by omega), eβ _ (by omega) (by omega) (by omega) (by omega)], by rw [hC.1 _ (by omega) (by omega) (by omega) (by omega), eβ _ (by omega) (by omega) (by omega) (by omega)]⟩
  obtain ⟨f1, f2, f3, f4, f5, f6, f7, f8, f9⟩ := hL
  have new : ∀ a, a < 3 → lawI (τ' 20) (τ' (22 + a)) (τ' (26 + a)) (τ' 111) (τ' 112) (τ' 113) a := fun a ha => by
    by_cases r : a = l.toInt.toNat
    · have cs : ∀ i, i < 4 → τ' (26 + a) i = τ 33 i := fun i hi => by rw [(cc a ha).2, r]; exact en_sy hl hi
      have ck : ∀ i, i < 96 → τ' (22 + a) i = τ 32 i := fun i hi => by rw [(cc a ha).1, r]; exact en_cy hl hi
      rw [← r] at hC c20
      refine ⟨Or.inr (by rw [c20, pk_us]; rfl), fun _ k hk => ?_⟩
      rcases (show k = 0 ∨ k = 1 ∨ k = 2 by omega) with s | s | s <;> subst s
      · exact law_k (S := 0) (L := r0.2.2.2) ((cs 0 (by omega)).trans f6) ((cs 1 (by omega)).trans (by rw [f7, Nat.zero_add])) (by omega) ((hC.2.2.1 0 (by omega)).trans (hM.2 0 (by omega)).2) (arrK_cong _ (fun i hi => ck _ (by omega)) f3) (arrM_sh _ (fun i hi => hC.2.2.2.1 0 (by omega) i hi) hM.1.1) g0.2.2.1 g0.2.2.2
      · exact law_k (S := r0.2.2.2.length) (L := r1.2.2.2) ((cs 1 (by omega)).trans f7) ((cs 2 (by omega)).trans f8) (by omega) ((hC.2.2.1 1 (by omega)).trans (hM.2 1 (by omega)).2) (arrK_cong _ (fun i hi => ck _ (by omega)) f4) (arrM_sh _ (fun i hi => hC.2.2.2.1 1 (by omega) i hi) hM.1.2.1) g1.2.2.1 g1.2.2.2
      · exact law_k (S := r0.2.2.2.length + r1.2.2.2.length) (L := r2.2.2.2) ((cs 2 (by omega)).trans f8) ((cs 3 (by omega)).trans f9) (by omega) ((hC.2.2.1 2 (by omega)).trans (hM.2 2 (by omega)).2) (arrK_cong _ (fun i hi => ck _ (by omega)) f5) (arrM_sh _ (fun i hi => hC.2.2.2.1 2 (by omega) i hi) hM.1.2.2) g2.2.2.1 g2.2.2.2
    · refine lawI_fr (by rw [c20, pk_un r]) (by rw [(cc a ha).1, en_cn hl ha r, eσ _ (by omega) (by omega) (by omega) (by omega)]) (by rw [(cc a ha).2, en_sn hl ha r, eσ _ (by omega) (by omega) (by omega) (by omega)]) (fun k hk => by rw [hC.2.2.2.2.1 _ (by omega), b1 111 (by omega) (by omega)]) (fun q z1 z2 => by rw [(hC.2.2.2.2.2 q (by omega)).1, (hC.2.2.2.2.2 q (by omega)).2, b1 112 (by omega) (by omega), b1 113 (by omega) (by omega)]; exact ⟨rfl, rfl⟩) (old a ha)
  refine Inv_l1 hI e (fun j hj => by rw [e00, wr_i (cu_ne hj rfl)]) (fun j hj => by rw [e88, hF.2.1 j hj, en_c hl (by decide) (by decide) (by decide), eσ 88 (by decide) (by decide) (by decide) (by decide)]) (ta_0 hI.2.2.2.2.1 (e 30 rfl) (e 118 rfl) (by rw [e00]; rfl) (by rw [e88]; exact hF.2.2)) ⟨?_, new 0 (by omega), new 1 (by omega), new 2 (by omega)⟩
  rw [hC.2.1, c20, b1 110 (by omega) (by omega), hla.1]
