/-- a sign of two sides: the class's number, the reference's byte -/
def opI (c h : Int32) : Prop := (c = -6 ∧ h = 124) ∨ (c = -7 ∧ h = 38) ∨ (c = -8 ∧ h = 60) ∨ (c = -9 ∧ h = 61) ∨ (c = -10 ∧ h = 62) ∨ (c = -11 ∧ h = 43) ∨ (c = -12 ∧ h = 45) ∨ (c = -13 ∧ h = 42) ∨ (c = -14 ∧ h = 47)
theorem opI_c {c h : Int32} (q : opI c h) : (c.toInt = -6 ∧ h.toInt = 124) ∨ (c.toInt = -7 ∧ h.toInt = 38) ∨ (c.toInt = -8 ∧ h.toInt = 60) ∨ (c.toInt = -9 ∧ h.toInt = 61) ∨ (c.toInt = -10 ∧ h.toInt = 62) ∨ (c.toInt = -11 ∧ h.toInt = 43) ∨ (c.toInt = -12 ∧ h.toInt = 45) ∨ (c.toInt = -13 ∧ h.toInt = 42) ∨ (c.toInt = -14 ∧ h.toInt = 47) := by
  rcases q with ⟨rfl, rfl⟩ | ⟨rfl, rfl⟩ | ⟨rfl, rfl⟩ | ⟨rfl, rfl⟩ | ⟨rfl, rfl⟩ | ⟨rfl, rfl⟩ | ⟨rfl, rfl⟩ | ⟨rfl, rfl⟩ | ⟨rfl, rfl⟩ <;> decide
theorem m_is0 {d : Nat} {σ : Mm} {Q : Qt} (h : Q (some (.int 0)) σ) : Call (d + 1) k_X12_is [.int 0] σ Q := m_is (fun _ => h) (fun z => absurd (by decide) z)
theorem m_is1 {d : Nat} {σ : Mm} {Q : Qt} (h : Q (some (.int 1)) σ) : Call (d + 1) k_X12_is [.int 1] σ Q := m_is (fun z => absurd z (by decide)) (fun _ => h)
theorem m_joined {d : Nat} {σ : Mm} {Q : Qt} {c h x y : Int32} (ho : opI c h) (hQ : Q (some (.int (wkd c x y))) σ) : Call (d + 2) k_X12_joined [.int h, .int x, .int y] σ Q := by
  have ho := opI_c ho
  refine Call_st 100 fun X hX => ?_
  refine ⟨fun c1_0 => ?_, fun c1_0 => ?_⟩
  · refine ⟨fun c183 => ?_, fun c183 => ?_⟩
    · refine ⟨rfl, ?_⟩
      refine m_is0 ?_
      refine ⟨rfl, trivial, ?_⟩
      refine Qe hQ ?_ rfl
      refine vI_ ?_
      dsimp only at c1_0 c183
      have hc : c.toInt = -7 := by omega
      unfold wkd
      simp (config := {decide := true}) only [*, if_true, if_false] <;> first | rfl | (rw [bI_p (by omega)]; done) | (rw [bI_n (by omega)]; done)
    · refine ⟨fun c187 => ?_, fun c187 => ?_⟩
      · refine ⟨rfl, ?_⟩
        refine m_is0 ?_
        refine ⟨rfl, trivial, ?_⟩
        refine Qe hQ ?_ rfl
        refine vI_ ?_
        dsimp only at c1_0 c183 c187
        have hc : c.toInt = -7 := by omega
        unfold wkd
        simp (config := {decide := true}) only [*, if_true, if_false] <;> first | rfl | (rw [bI_p (by omega)]; done) | (rw [bI_n (by omega)]; done)
      · refine ⟨rfl, ?_⟩
        refine m_is1 ?_
        refine ⟨rfl, trivial, ?_⟩
        refine Qe hQ ?_ rfl
        refine vI_ ?_
        dsimp only at c1_0 c183 c187
        have hc : c.toInt = -7 := by omega
        unfold wkd
        simp (config := {decide := true}) only [*, if_true, if_false] <;> first | rfl | (rw [bI_p (by omega)]; done) | (rw [bI_n (by omega)]; done)
  refine ⟨fun c1_1 => ?_, fun c1_1 => ?_⟩
  · refine ⟨rfl, trivial, ?_⟩
    refine Qe hQ ?_ rfl
    refine vI_ ?_
    dsimp only at c1_0 c1_1
    have hc : c.toInt = -13 := by omega
    unfold wkd
    simp (config := {decide := true}) only [*, if_true, if_false] <;> first | rfl | (rw [bI_p (by omega)]; done) | (rw [bI_n (by omega)]; done)
  refine ⟨fun c1_2 => ?_, fun c1_2 => ?_⟩
  · refine ⟨rfl, trivial, ?_⟩
    refine Qe hQ ?_ rfl
    refine vI_ ?_
    dsimp only at c1_0 c1_1 c1_2
    have hc : c.toInt = -11 := by omega
    unfold wkd
    simp (config := {decide := true}) only [*, if_true, if_false] <;> first | rfl | (rw [bI_p (by omega)]; done) | (rw [bI_n (by omega)]; done)
  refine ⟨fun c1_3 => ?_, fun c1_3 => ?_⟩
  · refine ⟨rfl, trivial, ?_⟩
    refine Qe hQ ?_ rfl
    refine vI_ ?_
    dsimp only at c1_0 c1_1 c1_2 c1_3
    have hc : c.toInt = -12 := by omega
    unfold wkd
    simp (config := {decide := true}) only [*, if_true, if_false] <;> first | rfl | (rw [bI_p (by omega)]; done) | (rw [bI_n (by omega)]; done)
  refine ⟨fun c1_4 => ?_, fun c1_4 => ?_⟩
  · refine ⟨fun c129 => ?_, fun c129 => ?_⟩
    · refine ⟨rfl, trivial, ?_⟩
      refine Qe hQ ?_ rfl
      refine vI_ ?_
      dsimp only at c1_0 c1_1 c1_2 c1_3 c1_4 c129
      have hc : c.toInt = -14 := by omega
      unfold wkd
      simp (config := {decide := true}) only [*, if_true, if_false] <;> first | rfl | (rw [bI_p (by omega)]; done) | (rw [bI_n (by omega)]; done)
    · refine ⟨(by assumption), ?_⟩
      refine ⟨rfl, trivial, ?_⟩
      refine Qe hQ ?_ rfl
      refine vI_ ?_
      dsimp only at c1_0 c1_1 c1_2 c1_3 c1_4 c129
      have hc : c.toInt = -14 := by omega
      unfold wkd
      simp (config := {decide := true}) only [*, if_true, if_false] <;> first | rfl | (rw [bI_p (by omega)]; done) | (rw [bI_n (by omega)]; done)
  refine ⟨fun c1_5 => ?_, fun c1_5 => ?_⟩
  · refine ⟨fun c142 => ?_, fun c142 => ?_⟩
    · refine ⟨rfl, ?_⟩
      refine m_is1 ?_
      refine ⟨rfl, trivial, ?_⟩
      refine Qe hQ ?_ rfl
      refine vI_ ?_
      dsimp only at c1_0 c1_1 c1_2 c1_3 c1_4 c1_5 c142
      have hc : c.toInt = -8 := by omega
      unfold wkd
      simp (config := {decide := true}) only [*, if_true, if_false] <;> first | rfl | (rw [bI_p (by omega)]; done) | (rw [bI_n (by omega)]; done)
    · refine ⟨rfl, ?_⟩
      refine m_is0 ?_
      refine ⟨rfl, trivial, ?_⟩
      refine Qe hQ ?_ rfl
      refine vI_ ?_
      dsimp only at c1_0 c1_1 c1_2 c1_3 c1_4 c1_5 c142
      have hc : c.toInt = -8 := by omega
      unfold wkd
      simp (config := {decide := true}) only [*, if_true, if_false] <;> first | rfl | (rw [bI_p (by omega)]; done) | (rw [bI_n (by omega)]; done)
  refine ⟨fun c1_6 => ?_, fun c1_6 => ?_⟩
  · refine ⟨fun c156 => ?_, fun c156 => ?_⟩
    · refine ⟨rfl, ?_⟩
      refine m_is1 ?_
      refine ⟨rfl, trivial, ?_⟩
      refine Qe hQ ?_ rfl
      refine vI_ ?_
      dsimp only at c1_0 c1_1 c1_2 c1_3 c1_4 c1_5 c1_6 c156
      have hc : c.toInt = -9 := by omega
      unfold wkd
      simp (config := {decide := true}) only [*, if_true, if_false] <;> first | rfl | (rw [bI_p (by omega)]; done) | (rw [bI_n (by omega)]; done)
    · refine ⟨rfl, ?_⟩
      refine m_is0 ?_
      refine ⟨rfl, trivial, ?_⟩
      refine Qe hQ ?_ rfl
      refine vI_ ?_
      dsimp only at c1_0 c1_1 c1_2 c1_3 c1_4 c1_5 c1_6 c156
      have hc : c.toInt = -9 := by omega
      unfold wkd
      simp (config := {decide := true}) only [*, if_true, if_false] <;> first | rfl | (rw [bI_p (by omega)]; done) | (rw [bI_n (by omega)]; done)
  refine ⟨fun c1_7 => ?_, fun c1_7 => ?_⟩
  · refine ⟨fun c170 => ?_, fun c170 => ?_⟩
    · refine ⟨rfl, ?_⟩
      refine m_is1 ?_
      refine ⟨rfl, trivial, ?_⟩
      refine Qe hQ ?_ rfl
      refine vI_ ?_
      dsimp only at c1_0 c1_1 c1_2 c1_3 c1_4 c1_5 c1_6 c1_7 c170
      have hc : c.toInt = -10 := by omega
      unfold wkd
      simp (config := {decide := true}) only [*, if_true, if_false] <;> first | rfl | (rw [bI_p (by omega)]; done) | (rw [bI_n (by omega)]; done)
    · refine ⟨rfl, ?_⟩
      refine m_is0 ?_
      refine ⟨rfl, trivial, ?_⟩
      refine Qe hQ ?_ rfl
      refine vI_ ?_
      dsimp only at c1_0 c1_1 c1_2 c1_3 c1_4 c1_5 c1_6 c1_7 c170
      have hc : c.toInt = -10 := by omega
      unfold wkd
      simp (config := {decide := true}) only [*, if_true, if_false] <;> first | rfl | (rw [bI_p (by omega)]; done) | (rw [bI_n (by omega)]; done)
  refine ⟨fun c200 => ?_, fun c200 => ?_⟩
  · refine ⟨fun c204 => ?_, fun c204 => ?_⟩
    · refine ⟨rfl, ?_⟩
      refine m_is0 ?_
      refine ⟨rfl, trivial, ?_⟩
      refine Qe hQ ?_ rfl
      refine vI_ ?_
      dsimp only at c1_0 c1_1 c1_2 c1_3 c1_4 c1_5 c1_6 c1_7 c200 c204
      have hc : c.toInt = -6 := by omega
      unfold wkd
      simp (config := {decide := true}) only [*, if_true, if_false] <;> first | rfl | (rw [bI_p (by omega)]; done) | (rw [bI_n (by omega)]; done)
    · refine ⟨rfl, ?_⟩
      refine m_is1 ?_
      refine ⟨rfl, trivial, ?_⟩
      refine Qe hQ ?_ rfl
      refine vI_ ?_
      dsimp only at c1_0 c1_1 c1_2 c1_3 c1_4 c1_5 c1_6 c1_7 c200 c204
      have hc : c.toInt = -6 := by omega
      unfold wkd
      simp (config := {decide := true}) only [*, if_true, if_false] <;> first | rfl | (rw [bI_p (by omega)]; done) | (rw [bI_n (by omega)]; done)
  · refine ⟨rfl, ?_⟩
    refine m_is1 ?_
    refine ⟨rfl, trivial, ?_⟩
    refine Qe hQ ?_ rfl
    refine vI_ ?_
    dsimp only at c1_0 c1_1 c1_2 c1_3 c1_4 c1_5 c1_6 c1_7 c200
    have hc : c.toInt = -6 := by omega
    unfold wkd
    simp (config := {decide := true}) only [*, if_true, if_false] <;> first | rfl | (rw [bI_p (by omega)]; done) | (rw [bI_n (by omega)]; done)
/-- what a name stands for -/
def nmO (k w t b : Nat → Int32) (v : Nat) (a : Int32) : Nat → Int32 := fun i => if i = 0 then k v else if i = 1 then w v else if i = 2 then t v else if i = 3 then a else b v
theorem m_named {d : Nat} {σ : Mm} {Q : Qt} {k : Nat} {c v a : Int32} (hv : 0 ≤ v.toInt ∧ v.toInt < 30) (hk : 1 ≤ k ∧ k ≤ 5) (hc : (k = 1 ∧ c.toInt = 107) ∨ (k = 2 ∧ c.toInt = 119) ∨ (k = 3 ∧ c.toInt = 116) ∨ (k = 4 ∧ c.toInt = 97) ∨ (k = 5 ∧ c.toInt = 98)) (hQ : Q (some (.int (nmO (σ 90) (σ 107) (σ 94) (σ 95) v.toInt.toNat a (k - 1)))) σ) : Call (d + 1) k_X12_named [.ref 88, .int c, .int v, .int a] σ Q := by
  refine Call_st 120 fun X hX => ?_
  refine ⟨fun c3 => ?_, fun c3 => ?_⟩
  · refine ⟨_, _, rfl, ⟨by omega, by omega⟩, ?_⟩
    refine ⟨rfl, trivial, ?_⟩
    simp only [Int32.reduceToInt] at c3
    refine Qe hQ ?_ rfl
    refine vI_ ?_
    rcases hc with ⟨rfl, hc⟩ | ⟨rfl, hc⟩ | ⟨rfl, hc⟩ | ⟨rfl, hc⟩ | ⟨rfl, hc⟩
    all_goals first | rfl | (exfalso; omega)
  · refine ⟨fun c18 => ?_, fun c18 => ?_⟩
    · refine ⟨_, _, rfl, ⟨by omega, by omega⟩, ?_⟩
      refine ⟨rfl, trivial, ?_⟩
      simp only [Int32.reduceToInt] at c3 c18
      refine Qe hQ ?_ rfl
      refine vI_ ?_
      rcases hc with ⟨rfl, hc⟩ | ⟨rfl, hc⟩ | ⟨rfl, hc⟩ | ⟨rfl, hc⟩ | ⟨rfl, hc⟩
      all_goals first | rfl | (exfalso; omega)
    · refine ⟨fun c33 => ?_, fun c33 => ?_⟩
      · refine ⟨_, _, rfl, ⟨by omega, by omega⟩, ?_⟩
        refine ⟨rfl, trivial, ?_⟩
        simp only [Int32.reduceToInt] at c3 c18 c33
        refine Qe hQ ?_ rfl
        refine vI_ ?_
        rcases hc with ⟨rfl, hc⟩ | ⟨rfl, hc⟩ | ⟨rfl, hc⟩ | ⟨rfl, hc⟩ | ⟨rfl, hc⟩
        all_goals first | rfl | (exfalso; omega)
      · refine ⟨fun c48 => ?_, fun c48 => ?_⟩
        · refine ⟨rfl, trivial, ?_⟩
          simp only [Int32.reduceToInt] at c3 c18 c33 c48
          refine Qe hQ ?_ rfl
          refine vI_ ?_
          rcases hc with ⟨rfl, hc⟩ | ⟨rfl, hc⟩ | ⟨rfl, hc⟩ | ⟨rfl, hc⟩ | ⟨rfl, hc⟩
          all_goals first | rfl | (exfalso; omega)
        · refine ⟨_, _, rfl, ⟨by omega, by omega⟩, ?_⟩
          refine ⟨rfl, trivial, ?_⟩
          simp only [Int32.reduceToInt] at c3 c18 c33 c48
          refine Qe hQ ?_ rfl
          refine vI_ ?_
          rcases hc with ⟨rfl, hc⟩ | ⟨rfl, hc⟩ | ⟨rfl, hc⟩ | ⟨rfl, hc⟩ | ⟨rfl, hc⟩
          all_goals first | rfl | (exfalso; omega)
