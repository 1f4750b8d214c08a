theorem s_isMissing {d : Nat} {σ : Mm} {Q : Qt} {s : Int32} (hs : 0 ≤ s.toInt ∧ s.toInt ≤ 1) (hQ : Q (some (.int (bI ((σ 83 s.toInt.toNat).toInt = -1)))) σ) : Call (d + 1) k_X7_isMissing [.ref 82, .int s] σ Q := by
  refine Call_st 120 fun X hX => ?_
  refine ⟨_, _, rfl, (by refine ⟨?_, ?_⟩ <;> omega), ?_⟩
  refine ⟨fun c7 => ?_, fun c7 => ?_⟩
  · refine ⟨rfl, Or.inr rfl, ?_⟩
    try simp only [Int32.reduceToInt] at c7
    first | exact bI_t hQ (by omega) | exact bI_f hQ (by omega)
  · refine ⟨rfl, Or.inl rfl, ?_⟩
    try simp only [Int32.reduceToInt] at c7
    first | exact bI_t hQ (by omega) | exact bI_f hQ (by omega)
theorem ix16 {a b : Int32} (ha : 0 ≤ a.toInt ∧ a.toInt ≤ 1) (hb : 0 ≤ b.toInt ∧ b.toInt < 16) : (16 * a + b).toInt = 16 * a.toInt + b.toInt := by
  simp only [Int32.toInt_add, Int32.toInt_mul, Int32.reduceToInt, Int.bmod]
  omega
theorem sz_rng {σ : Mm} (h : I_sh σ) {s : Nat} (hs : s ≤ 1) : -1 ≤ (σ 83 s).toInt ∧ (σ 83 s).toInt ≤ 16 := by
  obtain ⟨s0, ⟨s1, s3⟩, s5⟩ := h
  rcases (show s = 0 ∨ s = 1 by omega) with rfl | rfl
  · exact s1
  · exact s3
/-- the reference's numbers are the class's places -/
theorem sh_num {σ : Mm} (h : I_sh σ) {s i : Nat} (hs : s ≤ 1) (hi : i < 16) : σ 104 (16 * s + i) = σ (85 + s) i := by
  obtain ⟨s0, s1, s5⟩ := h
  rcases (show s = 0 ∨ s = 1 by omega) with rfl | rfl
  · rw [Nat.mul_zero, Nat.zero_add]
    exact (s5 i hi).1
  · exact (s5 i hi).2
