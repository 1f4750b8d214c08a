theorem j_coder0 {d : Nat} {σ : Mm} {Q : Qt} (hQ : Q (some (.int 0)) σ) : Call (d + 1) k_J0_coder_7d493 [.ref 2000] σ Q := by
  refine Call_st 20 fun X hX => ?_
  refine ⟨fun z => absurd z (by decide), fun _ => ?_⟩
  refine ⟨rfl, ⟨by decide, by decide⟩, ?_⟩
  exact hQ
theorem j_lat0 {d : Nat} {σ : Mm} {Q : Qt} (hQ : Q (some (.int 1)) σ) : Call (d + 1) k_J0_isLatin1_aae02 [.ref 2000] σ Q := by
  refine Call_st 20 fun X hX => ?_
  refine ⟨fun z => absurd z (by decide), fun _ => ?_⟩
  refine ⟨fun _ => ?_, fun z => absurd (by decide) z⟩
  refine ⟨rfl, Or.inr rfl, ?_⟩
  exact hQ
theorem j_len0 {d : Nat} {σ : Mm} {Q : Qt} (hQ : Q (some (.int 5)) σ) : Call (d + 2) k_J0_length_8abf5 [.ref 2000] σ Q := by
  refine Call_st 20 fun X hX => ?_
  refine ⟨_, rfl, ?_⟩
  refine ⟨rfl, rfl, ?_⟩
  refine j_coder0 ?_
  refine ⟨rfl, trivial, ?_⟩
  exact Qe hQ (vI_ (by decide)) rfl
theorem j_coder1 {d : Nat} {σ : Mm} {Q : Qt} (hQ : Q (some (.int 0)) σ) : Call (d + 1) k_J0_coder_7d493 [.ref 2001] σ Q := by
  refine Call_st 20 fun X hX => ?_
  refine ⟨fun z => absurd z (by decide), fun _ => ?_⟩
  refine ⟨rfl, ⟨by decide, by decide⟩, ?_⟩
  exact hQ
theorem j_lat1 {d : Nat} {σ : Mm} {Q : Qt} (hQ : Q (some (.int 1)) σ) : Call (d + 1) k_J0_isLatin1_aae02 [.ref 2001] σ Q := by
  refine Call_st 20 fun X hX => ?_
  refine ⟨fun z => absurd z (by decide), fun _ => ?_⟩
  refine ⟨fun _ => ?_, fun z => absurd (by decide) z⟩
  refine ⟨rfl, Or.inr rfl, ?_⟩
  exact hQ
theorem j_len1 {d : Nat} {σ : Mm} {Q : Qt} (hQ : Q (some (.int 3)) σ) : Call (d + 2) k_J0_length_8abf5 [.ref 2001] σ Q := by
  refine Call_st 20 fun X hX => ?_
  refine ⟨_, rfl, ?_⟩
  refine ⟨rfl, rfl, ?_⟩
  refine j_coder1 ?_
  refine ⟨rfl, trivial, ?_⟩
  exact Qe hQ (vI_ (by decide)) rfl
theorem j_coder2 {d : Nat} {σ : Mm} {Q : Qt} (hQ : Q (some (.int 0)) σ) : Call (d + 1) k_J0_coder_7d493 [.ref 2002] σ Q := by
  refine Call_st 20 fun X hX => ?_
  refine ⟨fun z => absurd z (by decide), fun _ => ?_⟩
  refine ⟨rfl, ⟨by decide, by decide⟩, ?_⟩
  exact hQ
theorem j_lat2 {d : Nat} {σ : Mm} {Q : Qt} (hQ : Q (some (.int 1)) σ) : Call (d + 1) k_J0_isLatin1_aae02 [.ref 2002] σ Q := by
  refine Call_st 20 fun X hX => ?_
  refine ⟨fun z => absurd z (by decide), fun _ => ?_⟩
  refine ⟨fun _ => ?_, fun z => absurd (by decide) z⟩
  refine ⟨rfl, Or.inr rfl, ?_⟩
  exact hQ
theorem j_len2 {d : Nat} {σ : Mm} {Q : Qt} (hQ : Q (some (.int 6)) σ) : Call (d + 2) k_J0_length_8abf5 [.ref 2002] σ Q := by
  refine Call_st 20 fun X hX => ?_
  refine ⟨_, rfl, ?_⟩
  refine ⟨rfl, rfl, ?_⟩
  refine j_coder2 ?_
  refine ⟨rfl, trivial, ?_⟩
  exact Qe hQ (vI_ (by decide)) rfl
theorem j_coder3 {d : Nat} {σ : Mm} {Q : Qt} (hQ : Q (some (.int 0)) σ) : Call (d + 1) k_J0_coder_7d493 [.ref 2003] σ Q := by
  refine Call_st 20 fun X hX => ?_
  refine ⟨fun z => absurd z (by decide), fun _ => ?_⟩
  refine ⟨rfl, ⟨by decide, by decide⟩, ?_⟩
  exact hQ
theorem j_lat3 {d : Nat} {σ : Mm} {Q : Qt} (hQ : Q (some (.int 1)) σ) : Call (d + 1) k_J0_isLatin1_aae02 [.ref 2003] σ Q := by
  refine Call_st 20 fun X hX => ?_
  refine ⟨fun z => absurd z (by decide), fun _ => ?_⟩
  refine ⟨fun _ => ?_, fun z => absurd (by decide) z⟩
  refine ⟨rfl, Or.inr rfl, ?_⟩
  exact hQ
theorem j_len3 {d : Nat} {σ : Mm} {Q : Qt} (hQ : Q (some (.int 4)) σ) : Call (d + 2) k_J0_length_8abf5 [.ref 2003] σ Q := by
  refine Call_st 20 fun X hX => ?_
  refine ⟨_, rfl, ?_⟩
  refine ⟨rfl, rfl, ?_⟩
  refine j_coder3 ?_
  refine ⟨rfl, trivial, ?_⟩
  exact Qe hQ (vI_ (by decide)) rfl
theorem j_chk3 {d : Nat} {σ : Mm} {Q : Qt} {i n : Int32} {v : Value} (h : 0 ≤ i.toInt ∧ i.toInt < n.toInt) (hQ : Q (some (.int i)) σ) : Call (d + 1) k_J3_checkIndex_8e157 [.int i, .int n, v] σ Q := by
  refine Call_st 20 fun X hX => ?_
  refine ⟨fun c1 => ?_, fun c1 => ?_⟩
  · exfalso; omega
  · refine ⟨fun c6 => ?_, fun c6 => ?_⟩
    · refine ⟨rfl, trivial, ?_⟩
      exact hQ
    · exfalso; omega
theorem j_chk0 {d : Nat} {σ : Mm} {Q : Qt} {i n : Int32} (h : 0 ≤ i.toInt ∧ i.toInt < n.toInt) (hQ : Q none σ) : Call (d + 2) k_J0_checkIndex_df160 [.int i, .int n] σ Q := by
  refine Call_st 20 fun X hX => ?_
  refine ⟨rfl, ?_⟩
  refine j_chk3 h ?_
  refine ⟨rfl, rfl, ?_⟩
  exact hQ
theorem j_ca1_0 {d : Nat} {σ : Mm} {Q : Qt} {j : Int32} (h : 0 ≤ j.toInt ∧ j.toInt < 5) (hc : 0 ≤ (((sByt 0 j.toInt.toNat &&& 255).toUInt32 % 65536).toInt32).toInt ∧ (((sByt 0 j.toInt.toNat &&& 255).toUInt32 % 65536).toInt32).toInt < 65536) (hQ : Q (some (.int (((sByt 0 j.toInt.toNat &&& 255).toUInt32 % 65536).toInt32))) σ) : Call (d + 3) k_J1_charAt_3b067 [.ref 2100, .int j] σ Q := by
  refine Call_st 30 fun X hX => ?_
  refine ⟨_, rfl, ?_⟩
  refine ⟨rfl, ?_⟩
  refine j_chk0 ⟨h.1, h.2⟩ ?_
  refine ⟨_, _, rfl, ⟨h.1, h.2⟩, ?_⟩
  refine ⟨rfl, hc, ?_⟩
  exact hQ
theorem j_ca0_0 {d : Nat} {σ : Mm} {Q : Qt} {j : Int32} (h : 0 ≤ j.toInt ∧ j.toInt < 5) (hc : 0 ≤ (((sByt 0 j.toInt.toNat &&& 255).toUInt32 % 65536).toInt32).toInt ∧ (((sByt 0 j.toInt.toNat &&& 255).toUInt32 % 65536).toInt32).toInt < 65536) (hQ : Q (some (.int (((sByt 0 j.toInt.toNat &&& 255).toUInt32 % 65536).toInt32))) σ) : Call (d + 4) k_J0_charAt_5068e [.ref 2000, .int j] σ Q := by
  refine Call_st 30 fun X hX => ?_
  refine ⟨rfl, rfl, ?_⟩
  refine j_lat0 ?_
  refine ⟨fun z => absurd z (by decide), fun _ => ?_⟩
  refine ⟨rfl, ?_⟩
  refine j_ca1_0 h hc ?_
  refine ⟨rfl, hc, ?_⟩
  exact hQ
theorem sb_0 {k : Nat} (h : k < 5) : ((sByt 0 k &&& 255).toUInt32 % 65536).toInt32 = sByt 0 k ∧ 0 ≤ (sByt 0 k).toInt ∧ (sByt 0 k).toInt < 65536 := by
  rcases (show k = 0 ∨ k = 1 ∨ k = 2 ∨ k = 3 ∨ k = 4 by omega) with rfl | rfl | rfl | rfl | rfl <;> decide
theorem j_char0 {d : Nat} {σ : Mm} {Q : Qt} {j : Int32} (h : 0 ≤ j.toInt ∧ j.toInt < 5) (hQ : Q (some (.int (sByt 0 j.toInt.toNat))) σ) : Call (d + 4) k_J0_charAt_5068e [.ref 2000, .int j] σ Q := by
  obtain ⟨e1, e2⟩ := sb_0 (k := j.toInt.toNat) (by omega)
  exact j_ca0_0 h (by rw [e1]; exact e2) (by rw [e1]; exact hQ)
theorem j_ca1_1 {d : Nat} {σ : Mm} {Q : Qt} {j : Int32} (h : 0 ≤ j.toInt ∧ j.toInt < 3) (hc : 0 ≤ (((sByt 1 j.toInt.toNat &&& 255).toUInt32 % 65536).toInt32).toInt ∧ (((sByt 1 j.toInt.toNat &&& 255).toUInt32 % 65536).toInt32).toInt < 65536) (hQ : Q (some (.int (((sByt 1 j.toInt.toNat &&& 255).toUInt32 % 65536).toInt32))) σ) : Call (d + 3) k_J1_charAt_3b067 [.ref 2101, .int j] σ Q := by
  refine Call_st 30 fun X hX => ?_
  refine ⟨_, rfl, ?_⟩
  refine ⟨rfl, ?_⟩
  refine j_chk0 ⟨h.1, h.2⟩ ?_
  refine ⟨_, _, rfl, ⟨h.1, h.2⟩, ?_⟩
  refine ⟨rfl, hc, ?_⟩
  exact hQ
theorem j_ca0_1 {d : Nat} {σ : Mm} {Q : Qt} {j : Int32} (h : 0 ≤ j.toInt ∧ j.toInt < 3) (hc : 0 ≤ (((sByt 1 j.toInt.toNat &&& 255).toUInt32 % 65536).toInt32).toInt ∧ (((sByt 1 j.toInt.toNat &&& 255).toUInt32 % 65536).toInt32).toInt < 65536) (hQ : Q (some (.int (((sByt 1 j.toInt.toNat &&& 255).toUInt32 % 65536).toInt32))) σ) : Call (d + 4) k_J0_charAt_5068e [.ref 2001, .int j] σ Q := by
  refine Call_st 30 fun X hX => ?_
  refine ⟨rfl, rfl, ?_⟩
  refine j_lat1 ?_
  refine ⟨fun z => absurd z (by decide), fun _ => ?_⟩
  refine ⟨rfl, ?_⟩
  refine j_ca1_1 h hc ?_
  refine ⟨rfl, hc, ?_⟩
  exact hQ
theorem sb_1 {k : Nat} (h : k < 3) : ((sByt 1 k &&& 255).toUInt32 % 65536).toInt32 = sByt 1 k ∧ 0 ≤ (sByt 1 k).toInt ∧ (sByt 1 k).toInt < 65536 := by
  rcases (show k = 0 ∨ k = 1 ∨ k = 2 by omega) with rfl | rfl | rfl <;> decide
theorem j_char1 {d : Nat} {σ : Mm} {Q : Qt} {j : Int32} (h : 0 ≤ j.toInt ∧ j.toInt < 3) (hQ : Q (some (.int (sByt 1 j.toInt.toNat))) σ) : Call (d + 4) k_J0_charAt_5068e [.ref 2001, .int j] σ Q := by
  obtain ⟨e1, e2⟩ := sb_1 (k := j.toInt.toNat) (by omega)
  exact j_ca0_1 h (by rw [e1]; exact e2) (by rw [e1]; exact hQ)
theorem j_ca1_2 {d : Nat} {σ : Mm} {Q : Qt} {j : Int32} (h : 0 ≤ j.toInt ∧ j.toInt < 6) (hc : 0 ≤ (((sByt 2 j.toInt.toNat &&& 255).toUInt32 % 65536).toInt32).toInt ∧ (((sByt 2 j.toInt.toNat &&& 255).toUInt32 % 65536).toInt32).toInt < 65536) (hQ : Q (some (.int (((sByt 2 j.toInt.toNat &&& 255).toUInt32 % 65536).toInt32))) σ) : Call (d + 3) k_J1_charAt_3b067 [.ref 2102, .int j] σ Q := by
  refine Call_st 30 fun X hX => ?_
  refine ⟨_, rfl, ?_⟩
  refine ⟨rfl, ?_⟩
  refine j_chk0 ⟨h.1, h.2⟩ ?_
  refine ⟨_, _, rfl, ⟨h.1, h.2⟩, ?_⟩
  refine ⟨rfl, hc, ?_⟩
  exact hQ
theorem j_ca0_2 {d : Nat} {σ : Mm} {Q : Qt} {j : Int32} (h : 0 ≤ j.toInt ∧ j.toInt < 6) (hc : 0 ≤ (((sByt 2 j.toInt.toNat &&& 255).toUInt32 % 65536).toInt32).toInt ∧ (((sByt 2 j.toInt.toNat &&& 255).toUInt32 % 65536).toInt32).toInt < 65536) (hQ : Q (some (.int (((sByt 2 j.toInt.toNat &&& 255).toUInt32 % 65536).toInt32))) σ) : Call (d + 4) k_J0_charAt_5068e [.ref 2002, .int j] σ Q := by
  refine Call_st 30 fun X hX => ?_
  refine ⟨rfl, rfl, ?_⟩
  refine j_lat2 ?_
  refine ⟨fun z => absurd z (by decide), fun _ => ?_⟩
  refine ⟨rfl, ?_⟩
  refine j_ca1_2 h hc ?_
  refine ⟨rfl, hc, ?_⟩
  exact hQ
theorem sb_2 {k : Nat} (h : k < 6) : ((sByt 2 k &&& 255).toUInt32 % 65536).toInt32 = sByt 2 k ∧ 0 ≤ (sByt 2 k).toInt ∧ (sByt 2 k).toInt < 65536 := by
  rcases (show k = 0 ∨ k = 1 ∨ k = 2 ∨ k = 3 ∨ k = 4 ∨ k = 5 by omega) with rfl | rfl | rfl | rfl | rfl | rfl <;> decide
theorem j_char2 {d : Nat} {σ : Mm} {Q : Qt} {j : Int32} (h : 0 ≤ j.toInt ∧ j.toInt < 6) (hQ : Q (some (.int (sByt 2 j.toInt.toNat))) σ) : Call (d + 4) k_J0_charAt_5068e [.ref 2002, .int j] σ Q := by
  obtain ⟨e1, e2⟩ := sb_2 (k := j.toInt.toNat) (by omega)
  exact j_ca0_2 h (by rw [e1]; exact e2) (by rw [e1]; exact hQ)
theorem j_ca1_3 {d : Nat} {σ : Mm} {Q : Qt} {j : Int32} (h : 0 ≤ j.toInt ∧ j.toInt < 4) (hc : 0 ≤ (((sByt 3 j.toInt.toNat &&& 255).toUInt32 % 65536).toInt32).toInt ∧ (((sByt 3 j.toInt.toNat &&& 255).toUInt32 % 65536).toInt32).toInt < 65536) (hQ : Q (some (.int (((sByt 3 j.toInt.toNat &&& 255).toUInt32 % 65536).toInt32))) σ) : Call (d + 3) k_J1_charAt_3b067 [.ref 2103, .int j] σ Q := by
  refine Call_st 30 fun X hX => ?_
  refine ⟨_, rfl, ?_⟩
  refine ⟨rfl, ?_⟩
  refine j_chk0 ⟨h.1, h.2⟩ ?_
  refine ⟨_, _, rfl, ⟨h.1, h.2⟩, ?_⟩
  refine ⟨rfl, hc, ?_⟩
  exact hQ
theorem j_ca0_3 {d : Nat} {σ : Mm} {Q : Qt} {j : Int32} (h : 0 ≤ j.toInt ∧ j.toInt < 4) (hc : 0 ≤ (((sByt 3 j.toInt.toNat &&& 255).toUInt32 % 65536).toInt32).toInt ∧ (((sByt 3 j.toInt.toNat &&& 255).toUInt32 % 65536).toInt32).toInt < 65536) (hQ : Q (some (.int (((sByt 3 j.toInt.toNat &&& 255).toUInt32 % 65536).toInt32))) σ) : Call (d + 4) k_J0_charAt_5068e [.ref 2003, .int j] σ Q := by
  refine Call_st 30 fun X hX => ?_
  refine ⟨rfl, rfl, ?_⟩
  refine j_lat3 ?_
  refine ⟨fun z => absurd z (by decide), fun _ => ?_⟩
  refine ⟨rfl, ?_⟩
  refine j_ca1_3 h hc ?_
  refine ⟨rfl, hc, ?_⟩
  exact hQ
theorem sb_3 {k : Nat} (h : k < 4) : ((sByt 3 k &&& 255).toUInt32 % 65536).toInt32 = sByt 3 k ∧ 0 ≤ (sByt 3 k).toInt ∧ (sByt 3 k).toInt < 65536 := by
  rcases (show k = 0 ∨ k = 1 ∨ k = 2 ∨ k = 3 by omega) with rfl | rfl | rfl | rfl <;> decide
theorem j_char3 {d : Nat} {σ : Mm} {Q : Qt} {j : Int32} (h : 0 ≤ j.toInt ∧ j.toInt < 4) (hQ : Q (some (.int (sByt 3 j.toInt.toNat))) σ) : Call (d + 4) k_J0_charAt_5068e [.ref 2003, .int j] σ Q := by
  obtain ⟨e1, e2⟩ := sb_3 (k := j.toInt.toNat) (by omega)
  exact j_ca0_3 h (by rw [e1]; exact e2) (by rw [e1]; exact hQ)
def nmIx (c : Int32) : Int32 := if c.toInt = 107 then 0 else if c.toInt = 119 then 1 else if c.toInt = 116 then 2 else if c.toInt = 97 then 3 else if c.toInt = 98 then 4 else -1
theorem j_can {d : Nat} {σ : Mm} {Q : Qt} {c : Int32} (h : 0 ≤ c.toInt ∧ c.toInt ≤ 255) (hQ : Q (some (.int 1)) σ) : Call (d + 1) k_J1_canEncode_9a6ad [.int c] σ Q := by
  refine Call_st 20 fun X hX => ?_
  refine ⟨fun c1 => ?_, fun c1 => ?_⟩
  · refine ⟨rfl, Or.inl rfl, ?_⟩
    exfalso; (first | omega | (simp only [Int32.reduceToInt] at c1 ⊢; omega))
  · refine ⟨fun c8 => ?_, fun c8 => ?_⟩
    · refine ⟨rfl, Or.inl rfl, ?_⟩
      exfalso; (first | omega | (simp only [Int32.reduceToInt] at c1 c8 ⊢; omega))
    · refine ⟨rfl, Or.inr rfl, ?_⟩
      exact hQ
theorem b8_id {c : Int32} (h : 97 ≤ c.toInt ∧ c.toInt ≤ 122) : c.toInt8.toInt32 = c := by
  apply iX
  rw [Int8.toInt_toInt32, Int32.toInt_toInt8]
  simp only [Int.bmod]
  omega
theorem j_ixc {d : Nat} {σ : Mm} {Q : Qt} {c a n : Int32} (ha : a = 0) (hn : n = 5) (h : 97 ≤ c.toInt ∧ c.toInt ≤ 122) (hQ : Q (some (.int (nmIx c))) σ) : Call (d + 1) k_J1_indexOfChar_4cfef [.ref 2100, .int c, .int a, .int n] σ Q := by
  subst ha
  subst hn
  have hb : c.toInt8.toInt32.toInt = c.toInt := by rw [b8_id h]
  refine Call_st 80 fun X hX => ?_
  refine ⟨fun _ => ?_, fun z => absurd (by decide) z⟩
  refine ⟨_, _, rfl, ⟨by decide, by decide⟩, ?_⟩
  refine ⟨fun d0 => ?_, fun d0 => ?_⟩
  · refine ⟨rfl, trivial, ?_⟩
    unfold nmIx at hQ
    rw [if_pos (by have z : (107 : Int) = c.toInt8.toInt32.toInt := d0; rw [hb] at z; omega)] at hQ
    exact hQ
  · refine ⟨fun _ => ?_, fun z => absurd (by decide) z⟩
    refine ⟨_, _, rfl, ⟨by decide, by decide⟩, ?_⟩
    refine ⟨fun d1 => ?_, fun d1 => ?_⟩
    · refine ⟨rfl, trivial, ?_⟩
      unfold nmIx at hQ
      rw [if_neg (by have z : ¬ (107 : Int) = c.toInt8.toInt32.toInt := d0; rw [hb] at z; omega), if_pos (by have z : (119 : Int) = c.toInt8.toInt32.toInt := d1; rw [hb] at z; omega)] at hQ
      exact hQ
    · refine ⟨fun _ => ?_, fun z => absurd (by decide) z⟩
      refine ⟨_, _, rfl, ⟨by decide, by decide⟩, ?_⟩
      refine ⟨fun d2 => ?_, fun d2 => ?_⟩
      · refine ⟨rfl, trivial, ?_⟩
        unfold nmIx at hQ
        rw [if_neg (by have z : ¬ (107 : Int) = c.toInt8.toInt32.toInt := d0; rw [hb] at z; omega), if_neg (by have z : ¬ (119 : Int) = c.toInt8.toInt32.toInt := d1; rw [hb] at z; omega), if_pos (by have z : (116 : Int) = c.toInt8.toInt32.toInt := d2; rw [hb] at z; omega)] at hQ
        exact hQ
      · refine ⟨fun _ => ?_, fun z => absurd (by decide) z⟩
        refine ⟨_, _, rfl, ⟨by decide, by decide⟩, ?_⟩
        refine ⟨fun d3 => ?_, fun d3 => ?_⟩
        · refine ⟨rfl, trivial, ?_⟩
          unfold nmIx at hQ
          rw [if_neg (by have z : ¬ (107 : Int) = c.toInt8.toInt32.toInt := d0; rw [hb] at z; omega), if_neg (by have z : ¬ (119 : Int) = c.toInt8.toInt32.toInt := d1; rw [hb] at z; omega), if_neg (by have z : ¬ (116 : Int) = c.toInt8.toInt32.toInt := d2; rw [hb] at z; omega), if_pos (by have z : (97 : Int) = c.toInt8.toInt32.toInt := d3; rw [hb] at z; omega)] at hQ
          exact hQ
        · refine ⟨fun _ => ?_, fun z => absurd (by decide) z⟩
          refine ⟨_, _, rfl, ⟨by decide, by decide⟩, ?_⟩
          refine ⟨fun d4 => ?_, fun d4 => ?_⟩
          · refine ⟨rfl, trivial, ?_⟩
            unfold nmIx at hQ
            rw [if_neg (by have z : ¬ (107 : Int) = c.toInt8.toInt32.toInt := d0; rw [hb] at z; omega), if_neg (by have z : ¬ (119 : Int) = c.toInt8.toInt32.toInt := d1; rw [hb] at z; omega), if_neg (by have z : ¬ (116 : Int) = c.toInt8.toInt32.toInt := d2; rw [hb] at z; omega), if_neg (by have z : ¬ (97 : Int) = c.toInt8.toInt32.toInt := d3; rw [hb] at z; omega), if_pos (by have z : (98 : Int) = c.toInt8.toInt32.toInt := d4; rw [hb] at z; omega)] at hQ
            exact hQ
          · refine ⟨fun z => absurd z (by decide), fun _ => ?_⟩
            refine ⟨rfl, trivial, ?_⟩
            unfold nmIx at hQ
            rw [if_neg (by have z : ¬ (107 : Int) = c.toInt8.toInt32.toInt := d0; rw [hb] at z; omega), if_neg (by have z : ¬ (119 : Int) = c.toInt8.toInt32.toInt := d1; rw [hb] at z; omega), if_neg (by have z : ¬ (116 : Int) = c.toInt8.toInt32.toInt := d2; rw [hb] at z; omega), if_neg (by have z : ¬ (97 : Int) = c.toInt8.toInt32.toInt := d3; rw [hb] at z; omega), if_neg (by have z : ¬ (98 : Int) = c.toInt8.toInt32.toInt := d4; rw [hb] at z; omega)] at hQ
            exact hQ
theorem j_ix1 {d : Nat} {σ : Mm} {Q : Qt} {c : Int32} (h : 97 ≤ c.toInt ∧ c.toInt ≤ 122) (hQ : Q (some (.int (nmIx c))) σ) : Call (d + 2) k_J1_indexOf_4cfef [.ref 2100, .int c, .int 0, .int 5] σ Q := by
  refine Call_st 60 fun X hX => ?_
  refine ⟨rfl, ?_⟩
  refine j_can (by omega) ?_
  refine ⟨fun z => absurd z (by decide), fun _ => ?_⟩
  refine ⟨rfl, ?_⟩
  refine ⟨_, rfl, ?_⟩
  refine ⟨rfl, ?_⟩
  refine ⟨fun c24 => ?_, fun c24 => ?_⟩
  · refine ⟨rfl, ?_⟩
    refine j_ixc (by decide) (by decide) h ?_
    refine ⟨rfl, trivial, ?_⟩
    exact hQ
  · exact absurd c24 (by decide)
theorem j_ix2 {d : Nat} {σ : Mm} {Q : Qt} {c : Int32} (h : 97 ≤ c.toInt ∧ c.toInt ≤ 122) (hQ : Q (some (.int (nmIx c))) σ) : Call (d + 3) k_J0_indexOf_7cf53 [.ref 2000, .int c, .int 0] σ Q := by
  refine Call_st 60 fun X hX => ?_
  refine ⟨rfl, rfl, ?_⟩
  refine j_lat0 ?_
  refine ⟨fun z => absurd z (by decide), fun _ => ?_⟩
  refine ⟨rfl, rfl, ?_⟩
  refine j_len0 ?_
  refine ⟨rfl, ?_⟩
  refine j_ix1 h ?_
  refine ⟨rfl, trivial, ?_⟩
  exact hQ
theorem j_ix {d : Nat} {σ : Mm} {Q : Qt} {c : Int32} (h : 97 ≤ c.toInt ∧ c.toInt ≤ 122) (hQ : Q (some (.int (nmIx c))) σ) : Call (d + 4) k_J0_indexOf_0f7a4 [.ref 2000, .int c] σ Q := by
  refine Call_st 60 fun X hX => ?_
  refine ⟨rfl, rfl, ?_⟩
  refine j_ix2 h ?_
  refine ⟨rfl, trivial, ?_⟩
  exact hQ
