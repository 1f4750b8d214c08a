def bI (c : Prop) [Decidable c] : Int32 := if c then 1 else 0
theorem bI_p {c : Prop} [Decidable c] (h : c) : bI c = 1 := if_pos h
theorem bI_n {c : Prop} [Decidable c] (h : ¬ c) : bI c = 0 := if_neg h
theorem bI_z {c : Prop} [Decidable c] (h : (bI c).toInt = 0) : ¬ c := fun q => by rw [bI_p q] at h; exact absurd h (by decide)
theorem bI_nz {c : Prop} [Decidable c] (h : ¬ (bI c).toInt = 0) : c := Decidable.byContradiction fun q => h (by rw [bI_n q]; rfl)
theorem isb_bI {c : Prop} [Decidable c] : isb (bI c) := by
  by_cases h : c
  · rw [bI_p h]; exact Or.inr rfl
  · rw [bI_n h]; exact Or.inl rfl
theorem bI_t {c : Prop} [Decidable c] {Q : Qt} {σ : Mm} (h : Q (some (.int (bI c))) σ) (q : c) : Q (some (.int 1)) σ := by rw [bI_p q] at h; exact h
theorem bI_f {c : Prop} [Decidable c] {Q : Qt} {σ : Mm} (h : Q (some (.int (bI c))) σ) (q : ¬ c) : Q (some (.int 0)) σ := by rw [bI_n q] at h; exact h
theorem bI_e {c c' : Prop} [Decidable c] [Decidable c'] {Q : Qt} {σ : Mm} (h : Q (some (.int (bI c))) σ) (q : c ↔ c') : Q (some (.int (bI c'))) σ := by
  by_cases z : c
  · rw [bI_p z] at h; rw [bI_p (q.mp z)]; exact h
  · rw [bI_n z] at h; rw [bI_n (fun w => z (q.mpr w))]; exact h
theorem Qe {Q : Qt} {r r' : Option Value} {σ σ' : Mm} (h : Q r σ) (h1 : r' = r) (h2 : σ' = σ) : Q r' σ' := by rw [h1, h2]; exact h
theorem iE {x y : Int32} (h : x.toInt = y.toInt) : some (Value.int x) = some (Value.int y) := by rw [Int32.toInt_inj.mp h]
theorem iX {x y : Int32} (h : x.toInt = y.toInt) : x = y := Int32.toInt_inj.mp h
theorem wr_c {σ : Mm} {k i : Nat} {v : Int32} {j : Nat} (h : j ≠ k) : wr σ k i v j = σ j := if_neg h
theorem wr_k {σ : Mm} {k i : Nat} {v : Int32} : wr σ k i v k = upd (σ k) i v := if_pos rfl
theorem wr_v {σ : Mm} {k i : Nat} {v : Int32} : wr σ k i v k i = v := by rw [wr_k]; exact pk_us
theorem wr_i {σ : Mm} {k i j : Nat} {v : Int32} (h : j ≠ i) : wr σ k i v k j = σ k j := by rw [wr_k]; exact pk_un h
theorem up_c {σ : Mm} {k : Nat} {g : Nat → Int32} {j : Nat} (h : j ≠ k) : up σ k g j = σ j := if_neg h
theorem up_k {σ : Mm} {k : Nat} {g : Nat → Int32} : up σ k g k = g := if_pos rfl
theorem up_up {σ : Mm} {k : Nat} {g h : Nat → Int32} : up (up σ k g) k h = up σ k h := by
  funext j
  unfold up
  split <;> rfl
theorem up_id {σ : Mm} {k : Nat} : up σ k (σ k) = σ := by
  funext j
  unfold up
  split
  · rename_i h; rw [h]
  · rfl
theorem rdI_row {scr : Sc} {σ : Mm} {a n : Nat} (h : shN 0 a = some n) : rdI scr σ a = some (n, σ a) := by
  obtain ⟨b, hs⟩ := shN_of h
  simp [rdI, hs]
theorem add1 {x : Int32} (h1 : x.toInt < 2147483647) : (x + 1).toInt = x.toInt + 1 := by
  have := Int32.le_toInt x
  simp only [Int32.toInt_add, Int32.reduceToInt, Int.bmod]
  omega
theorem sub1 {x : Int32} (h1 : -2147483648 < x.toInt) : (x - 1).toInt = x.toInt - 1 := by
  have := Int32.toInt_lt x
  simp only [Int32.toInt_sub, Int32.reduceToInt, Int.bmod]
  omega
theorem as1 (x : Int32) : x + 1 - 1 = x := Int32.add_sub_cancel x 1
theorem toN {x : Int32} (h : 0 ≤ x.toInt) : (x.toInt.toNat : Int) = x.toInt := by omega
theorem nIt {n : Nat} (h : n < 2147483648) : (nI n).toInt = n := nI_toInt h
theorem nIx {x : Int32} (h : 0 ≤ x.toInt) : nI x.toInt.toNat = x := by
  apply iX
  have := Int32.toInt_lt x
  rw [nIt (by omega)]
  omega
theorem rw22 {j : Nat} (h : j < 3) : shN 0 (22 + j) = some 96 := by
  rcases (show j = 0 ∨ j = 1 ∨ j = 2 by omega) with rfl | rfl | rfl <;> rfl
theorem rw26 {j : Nat} (h : j < 3) : shN 0 (26 + j) = some 4 := by
  rcases (show j = 0 ∨ j = 1 ∨ j = 2 by omega) with rfl | rfl | rfl <;> rfl
theorem rw39 {j : Nat} (h : j < 5) : shN 0 (39 + j) = some 5 := by
  rcases (show j = 0 ∨ j = 1 ∨ j = 2 ∨ j = 3 ∨ j = 4 by omega) with rfl | rfl | rfl | rfl | rfl <;> rfl
theorem rw52 {j : Nat} (h : j < 6) : shN 0 (52 + j) = some 6 := by
  rcases (show j = 0 ∨ j = 1 ∨ j = 2 ∨ j = 3 ∨ j = 4 ∨ j = 5 by omega) with rfl | rfl | rfl | rfl | rfl | rfl <;> rfl
theorem rw63 {j : Nat} (h : j < 7) : shN 0 (63 + j) = some 8 := by
  rcases (show j = 0 ∨ j = 1 ∨ j = 2 ∨ j = 3 ∨ j = 4 ∨ j = 5 ∨ j = 6 by omega) with rfl | rfl | rfl | rfl | rfl | rfl | rfl <;> rfl
theorem rw85 {j : Nat} (h : j < 2) : shN 3 (85 + j) = some 16 := by
  rcases (show j = 0 ∨ j = 1 by omega) with rfl | rfl <;> rfl
theorem s_within {d : Nat} {σ : Mm} {Q : Qt} {x lo hi : Int32} (hQ : Q (some (.int (bI (lo.toInt ≤ x.toInt ∧ x.toInt ≤ hi.toInt)))) σ) : Call (d + 1) k_X11_within [.int x, .int lo, .int hi] σ Q := by
  refine Call_st 120 fun X hX => ?_
  refine ⟨fun c2 => ?_, fun c2 => ?_⟩
  · refine ⟨rfl, Or.inl rfl, ?_⟩
    first | exact bI_t hQ (by omega) | exact bI_f hQ (by omega)
  · refine ⟨fun c7 => ?_, fun c7 => ?_⟩
    · refine ⟨rfl, Or.inl rfl, ?_⟩
      first | exact bI_t hQ (by omega) | exact bI_f hQ (by omega)
    · refine ⟨rfl, Or.inr rfl, ?_⟩
      first | exact bI_t hQ (by omega) | exact bI_f hQ (by omega)
theorem m_isIn {d : Nat} {σ : Mm} {Q : Qt} {x lo hi : Int32} (hQ : Q (some (.int (bI (lo.toInt ≤ x.toInt ∧ x.toInt ≤ hi.toInt)))) σ) : Call (d + 1) k_X12_isIn [.int x, .int lo, .int hi] σ Q := by
  refine Call_st 120 fun X hX => ?_
  refine ⟨fun c2 => ?_, fun c2 => ?_⟩
  · refine ⟨rfl, Or.inl rfl, ?_⟩
    first | exact bI_t hQ (by omega) | exact bI_f hQ (by omega)
  · refine ⟨fun c7 => ?_, fun c7 => ?_⟩
    · refine ⟨rfl, Or.inl rfl, ?_⟩
      first | exact bI_t hQ (by omega) | exact bI_f hQ (by omega)
    · refine ⟨rfl, Or.inr rfl, ?_⟩
      first | exact bI_t hQ (by omega) | exact bI_f hQ (by omega)
theorem s_hasFirm {d : Nat} {σ : Mm} {Q : Qt} {x : Int32} (hQ : Q (some (.int (bI (0 ≤ x.toInt ∧ x.toInt < (σ 1 1).toInt)))) σ) : Call (d + 1) k_X9_hasFirm [.ref 1, .int x] σ Q := by
  refine Call_st 120 fun X hX => ?_
  refine ⟨fun c1 => ?_, fun c1 => ?_⟩
  · refine ⟨rfl, Or.inl rfl, ?_⟩
    first | exact bI_t hQ (by omega) | exact bI_f hQ (by omega)
  · refine ⟨fun c9 => ?_, fun c9 => ?_⟩
    · refine ⟨rfl, Or.inr rfl, ?_⟩
      first | exact bI_t hQ (by omega) | exact bI_f hQ (by omega)
    · refine ⟨rfl, Or.inl rfl, ?_⟩
      first | exact bI_t hQ (by omega) | exact bI_f hQ (by omega)
theorem s_hasShop {d : Nat} {σ : Mm} {Q : Qt} {x : Int32} (hQ : Q (some (.int (bI (0 ≤ x.toInt ∧ x.toInt < (σ 1 2).toInt)))) σ) : Call (d + 1) k_X9_hasShop [.ref 1, .int x] σ Q := by
  refine Call_st 120 fun X hX => ?_
  refine ⟨fun c1 => ?_, fun c1 => ?_⟩
  · refine ⟨rfl, Or.inl rfl, ?_⟩
    first | exact bI_t hQ (by omega) | exact bI_f hQ (by omega)
  · refine ⟨fun c9 => ?_, fun c9 => ?_⟩
    · refine ⟨rfl, Or.inr rfl, ?_⟩
      first | exact bI_t hQ (by omega) | exact bI_f hQ (by omega)
    · refine ⟨rfl, Or.inl rfl, ?_⟩
      first | exact bI_t hQ (by omega) | exact bI_f hQ (by omega)
theorem s_hasBeen {d : Nat} {σ : Mm} {Q : Qt} {x : Int32} (hQ : Q (some (.int (bI (0 ≤ x.toInt ∧ x.toInt ≤ (σ 1 0).toInt)))) σ) : Call (d + 1) k_X9_hasBeen [.ref 1, .int x] σ Q := by
  refine Call_st 120 fun X hX => ?_
  refine ⟨fun c1 => ?_, fun c1 => ?_⟩
  · refine ⟨rfl, Or.inl rfl, ?_⟩
    first | exact bI_t hQ (by omega) | exact bI_f hQ (by omega)
  · refine ⟨fun c9 => ?_, fun c9 => ?_⟩
    · refine ⟨rfl, Or.inl rfl, ?_⟩
      first | exact bI_t hQ (by omega) | exact bI_f hQ (by omega)
    · refine ⟨rfl, Or.inr rfl, ?_⟩
      first | exact bI_t hQ (by omega) | exact bI_f hQ (by omega)
theorem s_vhas {d : Nat} {σ : Mm} {Q : Qt} {x : Int32} (hQ : Q (some (.int (bI (0 ≤ x.toInt ∧ x.toInt < (σ 3 0).toInt)))) σ) : Call (d + 1) k_X10_has [.ref 3, .int x] σ Q := by
  refine Call_st 120 fun X hX => ?_
  refine ⟨fun c1 => ?_, fun c1 => ?_⟩
  · refine ⟨rfl, Or.inl rfl, ?_⟩
    first | exact bI_t hQ (by omega) | exact bI_f hQ (by omega)
  · refine ⟨fun c9 => ?_, fun c9 => ?_⟩
    · refine ⟨rfl, Or.inr rfl, ?_⟩
      first | exact bI_t hQ (by omega) | exact bI_f hQ (by omega)
    · refine ⟨rfl, Or.inl rfl, ?_⟩
      first | exact bI_t hQ (by omega) | exact bI_f hQ (by omega)
theorem s_lhas {d : Nat} {σ : Mm} {Q : Qt} {x : Int32} (hQ : Q (some (.int (bI (0 ≤ x.toInt ∧ x.toInt < (σ 10 0).toInt)))) σ) : Call (d + 1) k_X5_has [.ref 10, .int x] σ Q := by
  refine Call_st 120 fun X hX => ?_
  refine ⟨fun c1 => ?_, fun c1 => ?_⟩
  · refine ⟨rfl, Or.inl rfl, ?_⟩
    first | exact bI_t hQ (by omega) | exact bI_f hQ (by omega)
  · refine ⟨fun c9 => ?_, fun c9 => ?_⟩
    · refine ⟨rfl, Or.inr rfl, ?_⟩
      first | exact bI_t hQ (by omega) | exact bI_f hQ (by omega)
    · refine ⟨rfl, Or.inl rfl, ?_⟩
      first | exact bI_t hQ (by omega) | exact bI_f hQ (by omega)
theorem s_vfull {d : Nat} {σ : Mm} {Q : Qt}  (hQ : Q (some (.int (bI (30 ≤ (σ 3 0).toInt)))) σ) : Call (d + 1) k_X10_isFull [.ref 3] σ Q := by
  refine Call_st 120 fun X hX => ?_
  refine ⟨fun c6 => ?_, fun c6 => ?_⟩
  · refine ⟨rfl, Or.inl rfl, ?_⟩
    simp only [Int32.reduceToInt] at *
    first | exact bI_t hQ (by omega) | exact bI_f hQ (by omega)
  · refine ⟨rfl, Or.inr rfl, ?_⟩
    simp only [Int32.reduceToInt] at *
    first | exact bI_t hQ (by omega) | exact bI_f hQ (by omega)
theorem s_lfull {d : Nat} {σ : Mm} {Q : Qt}  (hQ : Q (some (.int (bI (100 ≤ (σ 10 0).toInt)))) σ) : Call (d + 1) k_X5_isFull [.ref 10] σ Q := by
  refine Call_st 120 fun X hX => ?_
  refine ⟨fun c6 => ?_, fun c6 => ?_⟩
  · refine ⟨rfl, Or.inl rfl, ?_⟩
    simp only [Int32.reduceToInt] at *
    first | exact bI_t hQ (by omega) | exact bI_f hQ (by omega)
  · refine ⟨rfl, Or.inr rfl, ?_⟩
    simp only [Int32.reduceToInt] at *
    first | exact bI_t hQ (by omega) | exact bI_f hQ (by omega)
theorem m_isFirm {d : Nat} {σ : Mm} {Q : Qt} {x : Int32} (h : 0 ≤ (σ 88 1).toInt) (hQ : Q (some (.int (bI (0 ≤ x.toInt ∧ x.toInt < (σ 88 1).toInt)))) σ) : Call (d + 2) k_X12_isFirm [.ref 88, .int x] σ Q := by
  have e := sub1 (x := σ 88 1) (by omega)
  refine Call_st 120 fun X hX => ?_
  refine ⟨rfl, ?_⟩
  refine m_isIn ?_
  refine ⟨rfl, isb_bI, ?_⟩
  exact bI_e hQ (by simp only [Int32.reduceToInt] <;> omega)
theorem m_isShop {d : Nat} {σ : Mm} {Q : Qt} {x : Int32} (h : 0 ≤ (σ 88 2).toInt) (hQ : Q (some (.int (bI (0 ≤ x.toInt ∧ x.toInt < (σ 88 2).toInt)))) σ) : Call (d + 2) k_X12_isShop [.ref 88, .int x] σ Q := by
  have e := sub1 (x := σ 88 2) (by omega)
  refine Call_st 120 fun X hX => ?_
  refine ⟨rfl, ?_⟩
  refine m_isIn ?_
  refine ⟨rfl, isb_bI, ?_⟩
  exact bI_e hQ (by simp only [Int32.reduceToInt] <;> omega)
theorem m_isVoucher {d : Nat} {σ : Mm} {Q : Qt} {x : Int32} (h : 0 ≤ (σ 88 4).toInt) (hQ : Q (some (.int (bI (0 ≤ x.toInt ∧ x.toInt < (σ 88 4).toInt)))) σ) : Call (d + 2) k_X12_isVoucher [.ref 88, .int x] σ Q := by
  have e := sub1 (x := σ 88 4) (by omega)
  refine Call_st 120 fun X hX => ?_
  refine ⟨rfl, ?_⟩
  refine m_isIn ?_
  refine ⟨rfl, isb_bI, ?_⟩
  exact bI_e hQ (by simp only [Int32.reduceToInt] <;> omega)
theorem m_isLine {d : Nat} {σ : Mm} {Q : Qt} {x : Int32} (h : 0 ≤ (σ 88 11).toInt) (hQ : Q (some (.int (bI (0 ≤ x.toInt ∧ x.toInt < (σ 88 11).toInt)))) σ) : Call (d + 2) k_X12_isLine [.ref 88, .int x] σ Q := by
  have e := sub1 (x := σ 88 11) (by omega)
  refine Call_st 120 fun X hX => ?_
  refine ⟨rfl, ?_⟩
  refine m_isIn ?_
  refine ⟨rfl, isb_bI, ?_⟩
  exact bI_e hQ (by simp only [Int32.reduceToInt] <;> omega)
theorem m_isPromotion {d : Nat} {σ : Mm} {Q : Qt} {x : Int32} (h : 0 ≤ (σ 88 51).toInt) (hQ : Q (some (.int (bI (0 ≤ x.toInt ∧ x.toInt < (σ 88 51).toInt)))) σ) : Call (d + 2) k_X12_isPromotion [.ref 88, .int x] σ Q := by
  have e := sub1 (x := σ 88 51) (by omega)
  refine Call_st 120 fun X hX => ?_
  refine ⟨rfl, ?_⟩
  refine m_isIn ?_
  refine ⟨rfl, isb_bI, ?_⟩
  exact bI_e hQ (by simp only [Int32.reduceToInt] <;> omega)
theorem m_isDay {d : Nat} {σ : Mm} {Q : Qt} {x : Int32} (hQ : Q (some (.int (bI (0 ≤ x.toInt ∧ x.toInt ≤ 900)))) σ) : Call (d + 2) k_X12_isDay [.int x] σ Q := by
  refine Call_st 120 fun X hX => ?_
  refine ⟨rfl, ?_⟩
  refine m_isIn ?_
  refine ⟨rfl, isb_bI, ?_⟩
  exact bI_e hQ (by simp only [Int32.reduceToInt] <;> omega)
theorem m_isPast {d : Nat} {σ : Mm} {Q : Qt} {x : Int32} (hQ : Q (some (.int (bI (0 ≤ x.toInt ∧ x.toInt ≤ (σ 88 0).toInt)))) σ) : Call (d + 2) k_X12_isPast [.ref 88, .int x] σ Q := by
  refine Call_st 120 fun X hX => ?_
  refine ⟨rfl, ?_⟩
  refine m_isIn ?_
  refine ⟨rfl, isb_bI, ?_⟩
  exact bI_e hQ (by simp only [Int32.reduceToInt] <;> omega)
theorem m_isSum {d : Nat} {σ : Mm} {Q : Qt} {x : Int32} (hQ : Q (some (.int (bI (1 ≤ x.toInt ∧ x.toInt ≤ 100000)))) σ) : Call (d + 2) k_X12_isSum [.int x] σ Q := by
  refine Call_st 120 fun X hX => ?_
  refine ⟨rfl, ?_⟩
  refine m_isIn ?_
  refine ⟨rfl, isb_bI, ?_⟩
  exact bI_e hQ (by simp only [Int32.reduceToInt] <;> omega)
theorem m_isSheet {d : Nat} {σ : Mm} {Q : Qt} {x : Int32} (hQ : Q (some (.int (bI (0 ≤ x.toInt ∧ x.toInt ≤ 1)))) σ) : Call (d + 2) k_X12_isSheet [.int x] σ Q := by
  refine Call_st 120 fun X hX => ?_
  refine ⟨rfl, ?_⟩
  refine m_isIn ?_
  refine ⟨rfl, isb_bI, ?_⟩
  exact bI_e hQ (by simp only [Int32.reduceToInt] <;> omega)
theorem m_isForm {d : Nat} {σ : Mm} {Q : Qt} {x : Int32} (hQ : Q (some (.int (bI (0 ≤ x.toInt ∧ x.toInt ≤ 5)))) σ) : Call (d + 2) k_X12_isForm [.int x] σ Q := by
  refine Call_st 120 fun X hX => ?_
  refine ⟨rfl, ?_⟩
  refine m_isIn ?_
  refine ⟨rfl, isb_bI, ?_⟩
  exact bI_e hQ (by simp only [Int32.reduceToInt] <;> omega)
theorem m_areTries {d : Nat} {σ : Mm} {Q : Qt} {x : Int32} (hQ : Q (some (.int (bI (1 ≤ x.toInt ∧ x.toInt ≤ 5000)))) σ) : Call (d + 2) k_X12_areTries [.int x] σ Q := by
  refine Call_st 120 fun X hX => ?_
  refine ⟨rfl, ?_⟩
  refine m_isIn ?_
  refine ⟨rfl, isb_bI, ?_⟩
  exact bI_e hQ (by simp only [Int32.reduceToInt] <;> omega)
theorem s_isForm {d : Nat} {σ : Mm} {Q : Qt} {x : Int32} (hQ : Q (some (.int (bI (0 ≤ x.toInt ∧ x.toInt ≤ 5)))) σ) : Call (d + 2) k_X11_isForm [.int x] σ Q := by
  refine Call_st 120 fun X hX => ?_
  refine ⟨rfl, ?_⟩
  refine s_within ?_
  refine ⟨rfl, isb_bI, ?_⟩
  exact bI_e hQ (by simp only [Int32.reduceToInt] <;> omega)
theorem s_areDays {d : Nat} {σ : Mm} {Q : Qt} {x y : Int32} (hQ : Q (some (.int (bI ((0 ≤ x.toInt ∧ x.toInt ≤ 900) ∧ (0 ≤ y.toInt ∧ y.toInt ≤ 900))))) σ) : Call (d + 2) k_X11_areDays [.int x, .int y] σ Q := by
  refine Call_st 120 fun X hX => ?_
  refine ⟨rfl, ?_⟩
  refine s_within ?_
  refine ⟨fun c8 => ?_, fun c8 => ?_⟩
  · replace c8 := bI_z c8
    refine ⟨rfl, Or.inl rfl, ?_⟩
    simp only [Int32.reduceToInt] at *
    first | exact bI_t hQ (by omega) | exact bI_f hQ (by omega)
  · replace c8 := bI_nz c8
    refine ⟨rfl, ?_⟩
    refine s_within ?_
    refine ⟨fun c19 => ?_, fun c19 => ?_⟩
    · replace c19 := bI_z c19
      refine ⟨rfl, Or.inl rfl, ?_⟩
      simp only [Int32.reduceToInt] at *
      first | exact bI_t hQ (by omega) | exact bI_f hQ (by omega)
    · replace c19 := bI_nz c19
      refine ⟨rfl, Or.inr rfl, ?_⟩
      simp only [Int32.reduceToInt] at *
      first | exact bI_t hQ (by omega) | exact bI_f hQ (by omega)
