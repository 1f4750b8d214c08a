theorem gone_n {a b : Int32} {P : Prop} (h : (a = -1000000005 ∧ b = -1) ∨ (b = a ∧ 0 ≤ a.toInt ∧ P)) (q : b.toInt < 0) : (-1000000005 : Int32) = a := by
  rcases h with h | ⟨h1, h2, h3⟩
  · exact h.1.symm
  · rw [h1] at q; omega
theorem gone_p {a b : Int32} {P : Prop} (h : (a = -1000000005 ∧ b = -1) ∨ (b = a ∧ 0 ≤ a.toInt ∧ P)) (q : ¬ b.toInt < 0) : b = a := by
  rcases h with h | ⟨h1, h2, h3⟩
  · rw [h.2] at q; exact absurd (by decide) q
  · exact h1
theorem part_n {a b : Int32} {P P2 P3 A B : Prop} (h : (P ∧ a = -1000000005 ∧ b = -1) ∨ (P2 ∧ b = a ∧ 0 ≤ a.toInt ∧ A) ∨ (P3 ∧ b = a ∧ 0 ≤ a.toInt ∧ B)) (q : b.toInt < 0) : (-1000000005 : Int32) = a := by
  rcases h with h | ⟨h0, h1, h2, h3⟩ | ⟨h0, h1, h2, h3⟩
  · exact h.2.1.symm
  · rw [h1] at q; omega
  · rw [h1] at q; omega
theorem part_p {a b : Int32} {P P2 P3 A B : Prop} (h : (P ∧ a = -1000000005 ∧ b = -1) ∨ (P2 ∧ b = a ∧ 0 ≤ a.toInt ∧ A) ∨ (P3 ∧ b = a ∧ 0 ≤ a.toInt ∧ B)) (q : ¬ b.toInt < 0) : b = a := by
  rcases h with h | ⟨h0, h1, h2, h3⟩ | ⟨h0, h1, h2, h3⟩
  · rw [h.2.2] at q; exact absurd (by decide) q
  · exact h1
  · exact h1
theorem op_line {σ : Mm} {a b : Int32} (hI : Inv σ) : Call 120 k_X11_line [.ref 0, .int a, .int b] σ (fun r τ => Call 120 k_X12_line [.ref 88, .int a, .int b] τ (fun r' τ' => (∃ x : Int32, r = some (.int x) ∧ r' = some (.int x)) ∧ Inv τ')) := by
  obtain ⟨⟨l0, l1, l2, l3, l4, l5⟩, ⟨l6, l7⟩, l8, l9⟩ := id (hI.2.2.1)
  have qlines : (σ 88 11).toInt = (σ 10 0).toInt := by rw [l0]
  refine Call_st 200 fun X hX => ?_
  refine ⟨rfl, rfl, ?_⟩
  refine s_lhas ?_
  refine ⟨fun c8 => ?_, fun c8 => ?_⟩
  · replace c8 := bI_z c8
    refine ⟨rfl, trivial, ?_⟩
    refine Call_st 200 fun Y hY => ?_
    refine ⟨rfl, rfl, ?_⟩
    refine m_isLine (by omega) ?_
    refine ⟨fun m5 => ?_, fun m5 => ?_⟩
    · replace m5 := bI_z m5
      refine ⟨rfl, trivial, ?_⟩
      first
      | exact ⟨⟨_, rfl, rfl⟩, hI⟩
      | exact ⟨⟨_, rfl, vI_ (congrFun l1 _)⟩, hI⟩
      | exact ⟨⟨_, rfl, vI_ (congrFun l2 _)⟩, hI⟩
      | exact ⟨⟨_, rfl, vI_ (congrFun l3 _)⟩, hI⟩
      | exact ⟨⟨_, rfl, vI_ (congrFun l4 _)⟩, hI⟩
      | exact ⟨⟨_, rfl, vI_ (congrFun l5 _)⟩, hI⟩
      | exact ⟨⟨_, rfl, vI_ (gone_n (l9 a.toInt.toNat (by omega)).2.2.2.2.1 (by assumption))⟩, hI⟩
      | exact ⟨⟨_, rfl, vI_ (gone_p (l9 a.toInt.toNat (by omega)).2.2.2.2.1 (by assumption))⟩, hI⟩
      | exact ⟨⟨_, rfl, vI_ (part_n (l9 a.toInt.toNat (by omega)).2.2.2.2.2.2.1 (by assumption))⟩, hI⟩
      | exact ⟨⟨_, rfl, vI_ (part_p (l9 a.toInt.toNat (by omega)).2.2.2.2.2.2.1 (by assumption))⟩, hI⟩
      | (exfalso; (first | omega | (simp only [Int32.reduceToInt] at c8 m5 ⊢; omega)))
    · replace m5 := bI_nz m5
      refine ⟨fun m12_0 => ?_, fun m12_0 => ?_⟩
      · refine ⟨_, _, rfl, (by refine ⟨?_, ?_⟩ <;> (first | omega | (simp only [Int32.reduceToInt] at c8 m5 m12_0 ⊢; omega))), ?_⟩
        refine ⟨rfl, trivial, ?_⟩
        first
        | exact ⟨⟨_, rfl, rfl⟩, hI⟩
        | exact ⟨⟨_, rfl, vI_ (congrFun l1 _)⟩, hI⟩
        | exact ⟨⟨_, rfl, vI_ (congrFun l2 _)⟩, hI⟩
        | exact ⟨⟨_, rfl, vI_ (congrFun l3 _)⟩, hI⟩
        | exact ⟨⟨_, rfl, vI_ (congrFun l4 _)⟩, hI⟩
        | exact ⟨⟨_, rfl, vI_ (congrFun l5 _)⟩, hI⟩
        | exact ⟨⟨_, rfl, vI_ (gone_n (l9 a.toInt.toNat (by omega)).2.2.2.2.1 (by assumption))⟩, hI⟩
        | exact ⟨⟨_, rfl, vI_ (gone_p (l9 a.toInt.toNat (by omega)).2.2.2.2.1 (by assumption))⟩, hI⟩
        | exact ⟨⟨_, rfl, vI_ (part_n (l9 a.toInt.toNat (by omega)).2.2.2.2.2.2.1 (by assumption))⟩, hI⟩
        | exact ⟨⟨_, rfl, vI_ (part_p (l9 a.toInt.toNat (by omega)).2.2.2.2.2.2.1 (by assumption))⟩, hI⟩
        | (exfalso; (first | omega | (simp only [Int32.reduceToInt] at c8 m5 m12_0 ⊢; omega)))
      refine ⟨fun m12_1 => ?_, fun m12_1 => ?_⟩
      · refine ⟨_, _, rfl, (by refine ⟨?_, ?_⟩ <;> (first | omega | (simp only [Int32.reduceToInt] at c8 m5 m12_0 m12_1 ⊢; omega))), ?_⟩
        refine ⟨rfl, trivial, ?_⟩
        first
        | exact ⟨⟨_, rfl, rfl⟩, hI⟩
        | exact ⟨⟨_, rfl, vI_ (congrFun l1 _)⟩, hI⟩
        | exact ⟨⟨_, rfl, vI_ (congrFun l2 _)⟩, hI⟩
        | exact ⟨⟨_, rfl, vI_ (congrFun l3 _)⟩, hI⟩
        | exact ⟨⟨_, rfl, vI_ (congrFun l4 _)⟩, hI⟩
        | exact ⟨⟨_, rfl, vI_ (congrFun l5 _)⟩, hI⟩
        | exact ⟨⟨_, rfl, vI_ (gone_n (l9 a.toInt.toNat (by omega)).2.2.2.2.1 (by assumption))⟩, hI⟩
        | exact ⟨⟨_, rfl, vI_ (gone_p (l9 a.toInt.toNat (by omega)).2.2.2.2.1 (by assumption))⟩, hI⟩
        | exact ⟨⟨_, rfl, vI_ (part_n (l9 a.toInt.toNat (by omega)).2.2.2.2.2.2.1 (by assumption))⟩, hI⟩
        | exact ⟨⟨_, rfl, vI_ (part_p (l9 a.toInt.toNat (by omega)).2.2.2.2.2.2.1 (by assumption))⟩, hI⟩
        | (exfalso; (first | omega | (simp only [Int32.reduceToInt] at c8 m5 m12_0 m12_1 ⊢; omega)))
      refine ⟨fun m12_2 => ?_, fun m12_2 => ?_⟩
      · refine ⟨_, _, rfl, (by refine ⟨?_, ?_⟩ <;> (first | omega | (simp only [Int32.reduceToInt] at c8 m5 m12_0 m12_1 m12_2 ⊢; omega))), ?_⟩
        refine ⟨rfl, trivial, ?_⟩
        first
        | exact ⟨⟨_, rfl, rfl⟩, hI⟩
        | exact ⟨⟨_, rfl, vI_ (congrFun l1 _)⟩, hI⟩
        | exact ⟨⟨_, rfl, vI_ (congrFun l2 _)⟩, hI⟩
        | exact ⟨⟨_, rfl, vI_ (congrFun l3 _)⟩, hI⟩
        | exact ⟨⟨_, rfl, vI_ (congrFun l4 _)⟩, hI⟩
        | exact ⟨⟨_, rfl, vI_ (congrFun l5 _)⟩, hI⟩
        | exact ⟨⟨_, rfl, vI_ (gone_n (l9 a.toInt.toNat (by omega)).2.2.2.2.1 (by assumption))⟩, hI⟩
        | exact ⟨⟨_, rfl, vI_ (gone_p (l9 a.toInt.toNat (by omega)).2.2.2.2.1 (by assumption))⟩, hI⟩
        | exact ⟨⟨_, rfl, vI_ (part_n (l9 a.toInt.toNat (by omega)).2.2.2.2.2.2.1 (by assumption))⟩, hI⟩
        | exact ⟨⟨_, rfl, vI_ (part_p (l9 a.toInt.toNat (by omega)).2.2.2.2.2.2.1 (by assumption))⟩, hI⟩
        | (exfalso; (first | omega | (simp only [Int32.reduceToInt] at c8 m5 m12_0 m12_1 m12_2 ⊢; omega)))
      refine ⟨fun m12_3 => ?_, fun m12_3 => ?_⟩
      · refine ⟨_, _, rfl, (by refine ⟨?_, ?_⟩ <;> (first | omega | (simp only [Int32.reduceToInt] at c8 m5 m12_0 m12_1 m12_2 m12_3 ⊢; omega))), ?_⟩
        refine ⟨rfl, trivial, ?_⟩
        first
        | exact ⟨⟨_, rfl, rfl⟩, hI⟩
        | exact ⟨⟨_, rfl, vI_ (congrFun l1 _)⟩, hI⟩
        | exact ⟨⟨_, rfl, vI_ (congrFun l2 _)⟩, hI⟩
        | exact ⟨⟨_, rfl, vI_ (congrFun l3 _)⟩, hI⟩
        | exact ⟨⟨_, rfl, vI_ (congrFun l4 _)⟩, hI⟩
        | exact ⟨⟨_, rfl, vI_ (congrFun l5 _)⟩, hI⟩
        | exact ⟨⟨_, rfl, vI_ (gone_n (l9 a.toInt.toNat (by omega)).2.2.2.2.1 (by assumption))⟩, hI⟩
        | exact ⟨⟨_, rfl, vI_ (gone_p (l9 a.toInt.toNat (by omega)).2.2.2.2.1 (by assumption))⟩, hI⟩
        | exact ⟨⟨_, rfl, vI_ (part_n (l9 a.toInt.toNat (by omega)).2.2.2.2.2.2.1 (by assumption))⟩, hI⟩
        | exact ⟨⟨_, rfl, vI_ (part_p (l9 a.toInt.toNat (by omega)).2.2.2.2.2.2.1 (by assumption))⟩, hI⟩
        | (exfalso; (first | omega | (simp only [Int32.reduceToInt] at c8 m5 m12_0 m12_1 m12_2 m12_3 ⊢; omega)))
      refine ⟨fun m12_4 => ?_, fun m12_4 => ?_⟩
      · refine ⟨_, _, rfl, (by refine ⟨?_, ?_⟩ <;> (first | omega | (simp only [Int32.reduceToInt] at c8 m5 m12_0 m12_1 m12_2 m12_3 m12_4 ⊢; omega))), ?_⟩
        refine ⟨rfl, ?_⟩
        refine m_orNone (fun hm90a => ?_) (fun hm90a => ?_)
        · refine ⟨rfl, trivial, ?_⟩
          first
          | exact ⟨⟨_, rfl, rfl⟩, hI⟩
          | exact ⟨⟨_, rfl, vI_ (congrFun l1 _)⟩, hI⟩
          | exact ⟨⟨_, rfl, vI_ (congrFun l2 _)⟩, hI⟩
          | exact ⟨⟨_, rfl, vI_ (congrFun l3 _)⟩, hI⟩
          | exact ⟨⟨_, rfl, vI_ (congrFun l4 _)⟩, hI⟩
          | exact ⟨⟨_, rfl, vI_ (congrFun l5 _)⟩, hI⟩
          | exact ⟨⟨_, rfl, vI_ (gone_n (l9 a.toInt.toNat (by omega)).2.2.2.2.1 (by assumption))⟩, hI⟩
          | exact ⟨⟨_, rfl, vI_ (gone_p (l9 a.toInt.toNat (by omega)).2.2.2.2.1 (by assumption))⟩, hI⟩
          | exact ⟨⟨_, rfl, vI_ (part_n (l9 a.toInt.toNat (by omega)).2.2.2.2.2.2.1 (by assumption))⟩, hI⟩
          | exact ⟨⟨_, rfl, vI_ (part_p (l9 a.toInt.toNat (by omega)).2.2.2.2.2.2.1 (by assumption))⟩, hI⟩
          | (exfalso; (first | omega | (simp only [Int32.reduceToInt] at c8 m5 m12_0 m12_1 m12_2 m12_3 m12_4 hm90a ⊢; omega)))
        · refine ⟨rfl, trivial, ?_⟩
          first
          | exact ⟨⟨_, rfl, rfl⟩, hI⟩
          | exact ⟨⟨_, rfl, vI_ (congrFun l1 _)⟩, hI⟩
          | exact ⟨⟨_, rfl, vI_ (congrFun l2 _)⟩, hI⟩
          | exact ⟨⟨_, rfl, vI_ (congrFun l3 _)⟩, hI⟩
          | exact ⟨⟨_, rfl, vI_ (congrFun l4 _)⟩, hI⟩
          | exact ⟨⟨_, rfl, vI_ (congrFun l5 _)⟩, hI⟩
          | exact ⟨⟨_, rfl, vI_ (gone_n (l9 a.toInt.toNat (by omega)).2.2.2.2.1 (by assumption))⟩, hI⟩
          | exact ⟨⟨_, rfl, vI_ (gone_p (l9 a.toInt.toNat (by omega)).2.2.2.2.1 (by assumption))⟩, hI⟩
          | exact ⟨⟨_, rfl, vI_ (part_n (l9 a.toInt.toNat (by omega)).2.2.2.2.2.2.1 (by assumption))⟩, hI⟩
          | exact ⟨⟨_, rfl, vI_ (part_p (l9 a.toInt.toNat (by omega)).2.2.2.2.2.2.1 (by assumption))⟩, hI⟩
          | (exfalso; (first | omega | (simp only [Int32.reduceToInt] at c8 m5 m12_0 m12_1 m12_2 m12_3 m12_4 hm90a ⊢; omega)))
      refine ⟨fun m12_5 => ?_, fun m12_5 => ?_⟩
      · refine ⟨_, _, rfl, (by refine ⟨?_, ?_⟩ <;> (first | omega | (simp only [Int32.reduceToInt] at c8 m5 m12_0 m12_1 m12_2 m12_3 m12_4 m12_5 ⊢; omega))), ?_⟩
        refine ⟨rfl, trivial, ?_⟩
        first
        | exact ⟨⟨_, rfl, rfl⟩, hI⟩
        | exact ⟨⟨_, rfl, vI_ (congrFun l1 _)⟩, hI⟩
        | exact ⟨⟨_, rfl, vI_ (congrFun l2 _)⟩, hI⟩
        | exact ⟨⟨_, rfl, vI_ (congrFun l3 _)⟩, hI⟩
        | exact ⟨⟨_, rfl, vI_ (congrFun l4 _)⟩, hI⟩
        | exact ⟨⟨_, rfl, vI_ (congrFun l5 _)⟩, hI⟩
        | exact ⟨⟨_, rfl, vI_ (gone_n (l9 a.toInt.toNat (by omega)).2.2.2.2.1 (by assumption))⟩, hI⟩
        | exact ⟨⟨_, rfl, vI_ (gone_p (l9 a.toInt.toNat (by omega)).2.2.2.2.1 (by assumption))⟩, hI⟩
        | exact ⟨⟨_, rfl, vI_ (part_n (l9 a.toInt.toNat (by omega)).2.2.2.2.2.2.1 (by assumption))⟩, hI⟩
        | exact ⟨⟨_, rfl, vI_ (part_p (l9 a.toInt.toNat (by omega)).2.2.2.2.2.2.1 (by assumption))⟩, hI⟩
        | (exfalso; (first | omega | (simp only [Int32.reduceToInt] at c8 m5 m12_0 m12_1 m12_2 m12_3 m12_4 m12_5 ⊢; omega)))
      refine ⟨fun m12_6 => ?_, fun m12_6 => ?_⟩
      · refine ⟨_, _, rfl, (by refine ⟨?_, ?_⟩ <;> (first | omega | (simp only [Int32.reduceToInt] at c8 m5 m12_0 m12_1 m12_2 m12_3 m12_4 m12_5 m12_6 ⊢; omega))), ?_⟩
        refine ⟨rfl, ?_⟩
        refine m_orNone (fun hm107a => ?_) (fun hm107a => ?_)
        · refine ⟨rfl, trivial, ?_⟩
          first
          | exact ⟨⟨_, rfl, rfl⟩, hI⟩
          | exact ⟨⟨_, rfl, vI_ (congrFun l1 _)⟩, hI⟩
          | exact ⟨⟨_, rfl, vI_ (congrFun l2 _)⟩, hI⟩
          | exact ⟨⟨_, rfl, vI_ (congrFun l3 _)⟩, hI⟩
          | exact ⟨⟨_, rfl, vI_ (congrFun l4 _)⟩, hI⟩
          | exact ⟨⟨_, rfl, vI_ (congrFun l5 _)⟩, hI⟩
          | exact ⟨⟨_, rfl, vI_ (gone_n (l9 a.toInt.toNat (by omega)).2.2.2.2.1 (by assumption))⟩, hI⟩
          | exact ⟨⟨_, rfl, vI_ (gone_p (l9 a.toInt.toNat (by omega)).2.2.2.2.1 (by assumption))⟩, hI⟩
          | exact ⟨⟨_, rfl, vI_ (part_n (l9 a.toInt.toNat (by omega)).2.2.2.2.2.2.1 (by assumption))⟩, hI⟩
          | exact ⟨⟨_, rfl, vI_ (part_p (l9 a.toInt.toNat (by omega)).2.2.2.2.2.2.1 (by assumption))⟩, hI⟩
          | (exfalso; (first | omega | (simp only [Int32.reduceToInt] at c8 m5 m12_0 m12_1 m12_2 m12_3 m12_4 m12_5 m12_6 hm107a ⊢; omega)))
        · refine ⟨rfl, trivial, ?_⟩
          first
          | exact ⟨⟨_, rfl, rfl⟩, hI⟩
          | exact ⟨⟨_, rfl, vI_ (congrFun l1 _)⟩, hI⟩
          | exact ⟨⟨_, rfl, vI_ (congrFun l2 _)⟩, hI⟩
          | exact ⟨⟨_, rfl, vI_ (congrFun l3 _)⟩, hI⟩
          | exact ⟨⟨_, rfl, vI_ (congrFun l4 _)⟩, hI⟩
          | exact ⟨⟨_, rfl, vI_ (congrFun l5 _)⟩, hI⟩
          | exact ⟨⟨_, rfl, vI_ (gone_n (l9 a.toInt.toNat (by omega)).2.2.2.2.1 (by assumption))⟩, hI⟩
          | exact ⟨⟨_, rfl, vI_ (gone_p (l9 a.toInt.toNat (by omega)).2.2.2.2.1 (by assumption))⟩, hI⟩
          | exact ⟨⟨_, rfl, vI_ (part_n (l9 a.toInt.toNat (by omega)).2.2.2.2.2.2.1 (by assumption))⟩, hI⟩
          | exact ⟨⟨_, rfl, vI_ (part_p (l9 a.toInt.toNat (by omega)).2.2.2.2.2.2.1 (by assumption))⟩, hI⟩
          | (exfalso; (first | omega | (simp only [Int32.reduceToInt] at c8 m5 m12_0 m12_1 m12_2 m12_3 m12_4 m12_5 m12_6 hm107a ⊢; omega)))
      refine ⟨rfl, trivial, ?_⟩
      first
      | exact ⟨⟨_, rfl, rfl⟩, hI⟩
      | exact ⟨⟨_, rfl, vI_ (congrFun l1 _)⟩, hI⟩
      | exact ⟨⟨_, rfl, vI_ (congrFun l2 _)⟩, hI⟩
      | exact ⟨⟨_, rfl, vI_ (congrFun l3 _)⟩, hI⟩
      | exact ⟨⟨_, rfl, vI_ (congrFun l4 _)⟩, hI⟩
      | exact ⟨⟨_, rfl, vI_ (congrFun l5 _)⟩, hI⟩
      | exact ⟨⟨_, rfl, vI_ (gone_n (l9 a.toInt.toNat (by omega)).2.2.2.2.1 (by assumption))⟩, hI⟩
      | exact ⟨⟨_, rfl, vI_ (gone_p (l9 a.toInt.toNat (by omega)).2.2.2.2.1 (by assumption))⟩, hI⟩
      | exact ⟨⟨_, rfl, vI_ (part_n (l9 a.toInt.toNat (by omega)).2.2.2.2.2.2.1 (by assumption))⟩, hI⟩
      | exact ⟨⟨_, rfl, vI_ (part_p (l9 a.toInt.toNat (by omega)).2.2.2.2.2.2.1 (by assumption))⟩, hI⟩
      | (exfalso; (first | omega | (simp only [Int32.reduceToInt] at c8 m5 m12_0 m12_1 m12_2 m12_3 m12_4 m12_5 m12_6 ⊢; omega)))
  · replace c8 := bI_nz c8
    refine ⟨fun c15_0 => ?_, fun c15_0 => ?_⟩
    · refine ⟨_, _, rfl, (by refine ⟨?_, ?_⟩ <;> (first | omega | (simp only [Int32.reduceToInt] at c8 c15_0 ⊢; omega))), ?_⟩
      refine ⟨rfl, trivial, ?_⟩
      refine Call_st 200 fun Y hY => ?_
      refine ⟨rfl, rfl, ?_⟩
      refine m_isLine (by omega) ?_
      refine ⟨fun m5 => ?_, fun m5 => ?_⟩
      · replace m5 := bI_z m5
        refine ⟨rfl, trivial, ?_⟩
        first
        | exact ⟨⟨_, rfl, rfl⟩, hI⟩
        | exact ⟨⟨_, rfl, vI_ (congrFun l1 _)⟩, hI⟩
        | exact ⟨⟨_, rfl, vI_ (congrFun l2 _)⟩, hI⟩
        | exact ⟨⟨_, rfl, vI_ (congrFun l3 _)⟩, hI⟩
        | exact ⟨⟨_, rfl, vI_ (congrFun l4 _)⟩, hI⟩
        | exact ⟨⟨_, rfl, vI_ (congrFun l5 _)⟩, hI⟩
        | exact ⟨⟨_, rfl, vI_ (gone_n (l9 a.toInt.toNat (by omega)).2.2.2.2.1 (by assumption))⟩, hI⟩
        | exact ⟨⟨_, rfl, vI_ (gone_p (l9 a.toInt.toNat (by omega)).2.2.2.2.1 (by assumption))⟩, hI⟩
        | exact ⟨⟨_, rfl, vI_ (part_n (l9 a.toInt.toNat (by omega)).2.2.2.2.2.2.1 (by assumption))⟩, hI⟩
        | exact ⟨⟨_, rfl, vI_ (part_p (l9 a.toInt.toNat (by omega)).2.2.2.2.2.2.1 (by assumption))⟩, hI⟩
        | (exfalso; (first | omega | (simp only [Int32.reduceToInt] at c8 c15_0 m5 ⊢; omega)))
      · replace m5 := bI_nz m5
        refine ⟨fun m12_0 => ?_, fun m12_0 => ?_⟩
        · refine ⟨_, _, rfl, (by refine ⟨?_, ?_⟩ <;> (first | omega | (simp only [Int32.reduceToInt] at c8 c15_0 m5 m12_0 ⊢; omega))), ?_⟩
          refine ⟨rfl, trivial, ?_⟩
          first
          | exact ⟨⟨_, rfl, rfl⟩, hI⟩
          | exact ⟨⟨_, rfl, vI_ (congrFun l1 _)⟩, hI⟩
          | exact ⟨⟨_, rfl, vI_ (congrFun l2 _)⟩, hI⟩
          | exact ⟨⟨_, rfl, vI_ (congrFun l3 _)⟩, hI⟩
          | exact ⟨⟨_, rfl, vI_ (congrFun l4 _)⟩, hI⟩
          | exact ⟨⟨_, rfl, vI_ (congrFun l5 _)⟩, hI⟩
          | exact ⟨⟨_, rfl, vI_ (gone_n (l9 a.toInt.toNat (by omega)).2.2.2.2.1 (by assumption))⟩, hI⟩
          | exact ⟨⟨_, rfl, vI_ (gone_p (l9 a.toInt.toNat (by omega)).2.2.2.2.1 (by assumption))⟩, hI⟩
          | exact ⟨⟨_, rfl, vI_ (part_n (l9 a.toInt.toNat (by omega)).2.2.2.2.2.2.1 (by assumption))⟩, hI⟩
          | exact ⟨⟨_, rfl, vI_ (part_p (l9 a.toInt.toNat (by omega)).2.2.2.2.2.2.1 (by assumption))⟩, hI⟩
          | (exfalso; (first | omega | (simp only [Int32.reduceToInt] at c8 c15_0 m5 m12_0 ⊢; omega)))
        refine ⟨fun m12_1 => ?_, fun m12_1 => ?_⟩
        · refine ⟨_, _, rfl, (by refine ⟨?_, ?_⟩ <;> (first | omega | (simp only [Int32.reduceToInt] at c8 c15_0 m5 m12_0 m12_1 ⊢; omega))), ?_⟩
          refine ⟨rfl, trivial, ?_⟩
          first
          | exact ⟨⟨_, rfl, rfl⟩, hI⟩
          | exact ⟨⟨_, rfl, vI_ (congrFun l1 _)⟩, hI⟩
          | exact ⟨⟨_, rfl, vI_ (congrFun l2 _)⟩, hI⟩
          | exact ⟨⟨_, rfl, vI_ (congrFun l3 _)⟩, hI⟩
          | exact ⟨⟨_, rfl, vI_ (congrFun l4 _)⟩, hI⟩
          | exact ⟨⟨_, rfl, vI_ (congrFun l5 _)⟩, hI⟩
          | exact ⟨⟨_, rfl, vI_ (gone_n (l9 a.toInt.toNat (by omega)).2.2.2.2.1 (by assumption))⟩, hI⟩
          | exact ⟨⟨_, rfl, vI_ (gone_p (l9 a.toInt.toNat (by omega)).2.2.2.2.1 (by assumption))⟩, hI⟩
          | exact ⟨⟨_, rfl, vI_ (part_n (l9 a.toInt.toNat (by omega)).2.2.2.2.2.2.1 (by assumption))⟩, hI⟩
          | exact ⟨⟨_, rfl, vI_ (part_p (l9 a.toInt.toNat (by omega)).2.2.2.2.2.2.1 (by assumption))⟩, hI⟩
          | (exfalso; (first | omega | (simp only [Int32.reduceToInt] at c8 c15_0 m5 m12_0 m12_1 ⊢; omega)))
        refine ⟨fun m12_2 => ?_, fun m12_2 => ?_⟩
        · refine ⟨_, _, rfl, (by refine ⟨?_, ?_⟩ <;> (first | omega | (simp only [Int32.reduceToInt] at c8 c15_0 m5 m12_0 m12_1 m12_2 ⊢; omega))), ?_⟩
          refine ⟨rfl, trivial, ?_⟩
          first
          | exact ⟨⟨_, rfl, rfl⟩, hI⟩
          | exact ⟨⟨_, rfl, vI_ (congrFun l1 _)⟩, hI⟩
          | exact ⟨⟨_, rfl, vI_ (congrFun l2 _)⟩, hI⟩
          | exact ⟨⟨_, rfl, vI_ (congrFun l3 _)⟩, hI⟩
          | exact ⟨⟨_, rfl, vI_ (congrFun l4 _)⟩, hI⟩
          | exact ⟨⟨_, rfl, vI_ (congrFun l5 _)⟩, hI⟩
          | exact ⟨⟨_, rfl, vI_ (gone_n (l9 a.toInt.toNat (by omega)).2.2.2.2.1 (by assumption))⟩, hI⟩
          | exact ⟨⟨_, rfl, vI_ (gone_p (l9 a.toInt.toNat (by omega)).2.2.2.2.1 (by assumption))⟩, hI⟩
          | exact ⟨⟨_, rfl, vI_ (part_n (l9 a.toInt.toNat (by omega)).2.2.2.2.2.2.1 (by assumption))⟩, hI⟩
          | exact ⟨⟨_, rfl, vI_ (part_p (l9 a.toInt.toNat (by omega)).2.2.2.2.2.2.1 (by assumption))⟩, hI⟩
          | (exfalso; (first | omega | (simp only [Int32.reduceToInt] at c8 c15_0 m5 m12_0 m12_1 m12_2 ⊢; omega)))
        refine ⟨fun m12_3 => ?_, fun m12_3 => ?_⟩
        · refine ⟨_, _, rfl, (by refine ⟨?_, ?_⟩ <;> (first | omega | (simp only [Int32.reduceToInt] at c8 c15_0 m5 m12_0 m12_1 m12_2 m12_3 ⊢; omega))), ?_⟩
          refine ⟨rfl, trivial, ?_⟩
          first
          | exact ⟨⟨_, rfl, rfl⟩, hI⟩
          | exact ⟨⟨_, rfl, vI_ (congrFun l1 _)⟩, hI⟩
          | exact ⟨⟨_, rfl, vI_ (congrFun l2 _)⟩, hI⟩
          | exact ⟨⟨_, rfl, vI_ (congrFun l3 _)⟩, hI⟩
          | exact ⟨⟨_, rfl, vI_ (congrFun l4 _)⟩, hI⟩
          | exact ⟨⟨_, rfl, vI_ (congrFun l5 _)⟩, hI⟩
          | exact ⟨⟨_, rfl, vI_ (gone_n (l9 a.toInt.toNat (by omega)).2.2.2.2.1 (by assumption))⟩, hI⟩
          | exact ⟨⟨_, rfl, vI_ (gone_p (l9 a.toInt.toNat (by omega)).2.2.2.2.1 (by assumption))⟩, hI⟩
          | exact ⟨⟨_, rfl, vI_ (part_n (l9 a.toInt.toNat (by omega)).2.2.2.2.2.2.1 (by assumption))⟩, hI⟩
          | exact ⟨⟨_, rfl, vI_ (part_p (l9 a.toInt.toNat (by omega)).2.2.2.2.2.2.1 (by assumption))⟩, hI⟩
          | (exfalso; (first | omega | (simp only [Int32.reduceToInt] at c8 c15_0 m5 m12_0 m12_1 m12_2 m12_3 ⊢; omega)))
        refine ⟨fun m12_4 => ?_, fun m12_4 => ?_⟩
        · refine ⟨_, _, rfl, (by refine ⟨?_, ?_⟩ <;> (first | omega | (simp only [Int32.reduceToInt] at c8 c15_0 m5 m12_0 m12_1 m12_2 m12_3 m12_4 ⊢; omega))), ?_⟩
          refine ⟨rfl, ?_⟩
          refine m_orNone (fun hm90a => ?_) (fun hm90a => ?_)
          · refine ⟨rfl, trivial, ?_⟩
            first
            | exact ⟨⟨_, rfl, rfl⟩, hI⟩
            | exact ⟨⟨_, rfl, vI_ (congrFun l1 _)⟩, hI⟩
            | exact ⟨⟨_, rfl, vI_ (congrFun l2 _)⟩, hI⟩
            | exact ⟨⟨_, rfl, vI_ (congrFun l3 _)⟩, hI⟩
            | exact ⟨⟨_, rfl, vI_ (congrFun l4 _)⟩, hI⟩
            | exact ⟨⟨_, rfl, vI_ (congrFun l5 _)⟩, hI⟩
            | exact ⟨⟨_, rfl, vI_ (gone_n (l9 a.toInt.toNat (by omega)).2.2.2.2.1 (by assumption))⟩, hI⟩
            | exact ⟨⟨_, rfl, vI_ (gone_p (l9 a.toInt.toNat (by omega)).2.2.2.2.1 (by assumption))⟩, hI⟩
            | exact ⟨⟨_, rfl, vI_ (part_n (l9 a.toInt.toNat (by omega)).2.2.2.2.2.2.1 (by assumption))⟩, hI⟩
            | exact ⟨⟨_, rfl, vI_ (part_p (l9 a.toInt.toNat (by omega)).2.2.2.2.2.2.1 (by assumption))⟩, hI⟩
            | (exfalso; (first | omega | (simp only [Int32.reduceToInt] at c8 c15_0 m5 m12_0 m12_1 m12_2 m12_3 m12_4 hm90a ⊢; omega)))
          · refine ⟨rfl, trivial, ?_⟩
            first
            | exact ⟨⟨_, rfl, rfl⟩, hI⟩
            | exact ⟨⟨_, rfl, vI_ (congrFun l1 _)⟩, hI⟩
            | exact ⟨⟨_, rfl, vI_ (congrFun l2 _)⟩, hI⟩
            | exact ⟨⟨_, rfl, vI_ (congrFun l3 _)⟩, hI⟩
            | exact ⟨⟨_, rfl, vI_ (congrFun l4 _)⟩, hI⟩
            | exact ⟨⟨_, rfl, vI_ (congrFun l5 _)⟩, hI⟩
            | exact ⟨⟨_, rfl, vI_ (gone_n (l9 a.toInt.toNat (by omega)).2.2.2.2.1 (by assumption))⟩, hI⟩
            | exact ⟨⟨_, rfl, vI_ (gone_p (l9 a.toInt.toNat (by omega)).2.2.2.2.1 (by assumption))⟩, hI⟩
            | exact ⟨⟨_, rfl, vI_ (part_n (l9 a.toInt.toNat (by omega)).2.2.2.2.2.2.1 (by assumption))⟩, hI⟩
            | exact ⟨⟨_, rfl, vI_ (part_p (l9 a.toInt.toNat (by omega)).2.2.2.2.2.2.1 (by assumption))⟩, hI⟩
            | (exfalso; (first | omega | (simp only [Int32.reduceToInt] at c8 c15_0 m5 m12_0 m12_1 m12_2 m12_3 m12_4 hm90a ⊢; omega)))
        refine ⟨fun m12_5 => ?_, fun m12_5 => ?_⟩
        · refine ⟨_, _, rfl, (by refine ⟨?_, ?_⟩ <;> (first | omega | (simp only [Int32.reduceToInt] at c8 c15_0 m5 m12_0 m12_1 m12_2 m12_3 m12_4 m12_5 ⊢; omega))), ?_⟩
          refine ⟨rfl, trivial, ?_⟩
          first
          | exact ⟨⟨_, rfl, rfl⟩, hI⟩
          | exact ⟨⟨_, rfl, vI_ (congrFun l1 _)⟩, hI⟩
          | exact ⟨⟨_, rfl, vI_ (congrFun l2 _)⟩, hI⟩
          | exact ⟨⟨_, rfl, vI_ (congrFun l3 _)⟩, hI⟩
          | exact ⟨⟨_, rfl, vI_ (congrFun l4 _)⟩, hI⟩
          | exact ⟨⟨_, rfl, vI_ (congrFun l5 _)⟩, hI⟩
          | exact ⟨⟨_, rfl, vI_ (gone_n (l9 a.toInt.toNat (by omega)).2.2.2.2.1 (by assumption))⟩, hI⟩
          | exact ⟨⟨_, rfl, vI_ (gone_p (l9 a.toInt.toNat (by omega)).2.2.2.2.1 (by assumption))⟩, hI⟩
          | exact ⟨⟨_, rfl, vI_ (part_n (l9 a.toInt.toNat (by omega)).2.2.2.2.2.2.1 (by assumption))⟩, hI⟩
          | exact ⟨⟨_, rfl, vI_ (part_p (l9 a.toInt.toNat (by omega)).2.2.2.2.2.2.1 (by assumption))⟩, hI⟩
          | (exfalso; (first | omega | (simp only [Int32.reduceToInt] at c8 c15_0 m5 m12_0 m12_1 m12_2 m12_3 m12_4 m12_5 ⊢; omega)))
        refine ⟨fun m12_6 => ?_, fun m12_6 => ?_⟩
        · refine ⟨_, _, rfl, (by refine ⟨?_, ?_⟩ <;> (first | omega | (simp only [Int32.reduceToInt] at c8 c15_0 m5 m12_0 m12_1 m12_2 m12_3 m12_4 m12_5 m12_6 ⊢; omega))), ?_⟩
          refine ⟨rfl, ?_⟩
          refine m_orNone (fun hm107a => ?_) (fun hm107a => ?_)
          · refine ⟨rfl, trivial, ?_⟩
            first
            | exact ⟨⟨_, rfl, rfl⟩, hI⟩
            | exact ⟨⟨_, rfl, vI_ (congrFun l1 _)⟩, hI⟩
            | exact ⟨⟨_, rfl, vI_ (congrFun l2 _)⟩, hI⟩
            | exact ⟨⟨_, rfl, vI_ (congrFun l3 _)⟩, hI⟩
            | exact ⟨⟨_, rfl, vI_ (congrFun l4 _)⟩, hI⟩
            | exact ⟨⟨_, rfl, vI_ (congrFun l5 _)⟩, hI⟩
            | exact ⟨⟨_, rfl, vI_ (gone_n (l9 a.toInt.toNat (by omega)).2.2.2.2.1 (by assumption))⟩, hI⟩
            | exact ⟨⟨_, rfl, vI_ (gone_p (l9 a.toInt.toNat (by omega)).2.2.2.2.1 (by assumption))⟩, hI⟩
            | exact ⟨⟨_, rfl, vI_ (part_n (l9 a.toInt.toNat (by omega)).2.2.2.2.2.2.1 (by assumption))⟩, hI⟩
            | exact ⟨⟨_, rfl, vI_ (part_p (l9 a.toInt.toNat (by omega)).2.2.2.2.2.2.1 (by assumption))⟩, hI⟩
            | (exfalso; (first | omega | (simp only [Int32.reduceToInt] at c8 c15_0 m5 m12_0 m12_1 m12_2 m12_3 m12_4 m12_5 m12_6 hm107a ⊢; omega)))
          · refine ⟨rfl, trivial, ?_⟩
            first
            | exact ⟨⟨_, rfl, rfl⟩, hI⟩
            | exact ⟨⟨_, rfl, vI_ (congrFun l1 _)⟩, hI⟩
            | exact ⟨⟨_, rfl, vI_ (congrFun l2 _)⟩, hI⟩
            | exact ⟨⟨_, rfl, vI_ (congrFun l3 _)⟩, hI⟩
            | exact ⟨⟨_, rfl, vI_ (congrFun l4 _)⟩, hI⟩
            | exact ⟨⟨_, rfl, vI_ (congrFun l5 _)⟩, hI⟩
            | exact ⟨⟨_, rfl, vI_ (gone_n (l9 a.toInt.toNat (by omega)).2.2.2.2.1 (by assumption))⟩, hI⟩
            | exact ⟨⟨_, rfl, vI_ (gone_p (l9 a.toInt.toNat (by omega)).2.2.2.2.1 (by assumption))⟩, hI⟩
            | exact ⟨⟨_, rfl, vI_ (part_n (l9 a.toInt.toNat (by omega)).2.2.2.2.2.2.1 (by assumption))⟩, hI⟩
            | exact ⟨⟨_, rfl, vI_ (part_p (l9 a.toInt.toNat (by omega)).2.2.2.2.2.2.1 (by assumption))⟩, hI⟩
            | (exfalso; (first | omega | (simp only [Int32.reduceToInt] at c8 c15_0 m5 m12_0 m12_1 m12_2 m12_3 m12_4 m12_5 m12_6 hm107a ⊢; omega)))
        refine ⟨rfl, trivial, ?_⟩
        first
        | exact ⟨⟨_, rfl, rfl⟩, hI⟩
        | exact ⟨⟨_, rfl, vI_ (congrFun l1 _)⟩, hI⟩
        | exact ⟨⟨_, rfl, vI_ (congrFun l2 _)⟩, hI⟩
        | exact ⟨⟨_, rfl, vI_ (congrFun l3 _)⟩, hI⟩
        | exact ⟨⟨_, rfl, vI_ (congrFun l4 _)⟩, hI⟩
        | exact ⟨⟨_, rfl, vI_ (congrFun l5 _)⟩, hI⟩
        | exact ⟨⟨_, rfl, vI_ (gone_n (l9 a.toInt.toNat (by omega)).2.2.2.2.1 (by assumption))⟩, hI⟩
        | exact ⟨⟨_, rfl, vI_ (gone_p (l9 a.toInt.toNat (by omega)).2.2.2.2.1 (by assumption))⟩, hI⟩
        | exact ⟨⟨_, rfl, vI_ (part_n (l9 a.toInt.toNat (by omega)).2.2.2.2.2.2.1 (by assumption))⟩, hI⟩
        | exact ⟨⟨_, rfl, vI_ (part_p (l9 a.toInt.toNat (by omega)).2.2.2.2.2.2.1 (by assumption))⟩, hI⟩
        | (exfalso; (first | omega | (simp only [Int32.reduceToInt] at c8 c15_0 m5 m12_0 m12_1 m12_2 m12_3 m12_4 m12_5 m12_6 ⊢; omega)))
    refine ⟨fun c15_1 => ?_, fun c15_1 => ?_⟩
    · refine ⟨_, _, rfl, (by refine ⟨?_, ?_⟩ <;> (first | omega | (simp only [Int32.reduceToInt] at c8 c15_0 c15_1 ⊢; omega))), ?_⟩
      refine ⟨rfl, trivial, ?_⟩
      refine Call_st 200 fun Y hY => ?_
      refine ⟨rfl, rfl, ?_⟩
      refine m_isLine (by omega) ?_
      refine ⟨fun m5 => ?_, fun m5 => ?_⟩
      · replace m5 := bI_z m5
        refine ⟨rfl, trivial, ?_⟩
        first
        | exact ⟨⟨_, rfl, rfl⟩, hI⟩
        | exact ⟨⟨_, rfl, vI_ (congrFun l1 _)⟩, hI⟩
        | exact ⟨⟨_, rfl, vI_ (congrFun l2 _)⟩, hI⟩
        | exact ⟨⟨_, rfl, vI_ (congrFun l3 _)⟩, hI⟩
        | exact ⟨⟨_, rfl, vI_ (congrFun l4 _)⟩, hI⟩
        | exact ⟨⟨_, rfl, vI_ (congrFun l5 _)⟩, hI⟩
        | exact ⟨⟨_, rfl, vI_ (gone_n (l9 a.toInt.toNat (by omega)).2.2.2.2.1 (by assumption))⟩, hI⟩
        | exact ⟨⟨_, rfl, vI_ (gone_p (l9 a.toInt.toNat (by omega)).2.2.2.2.1 (by assumption))⟩, hI⟩
        | exact ⟨⟨_, rfl, vI_ (part_n (l9 a.toInt.toNat (by omega)).2.2.2.2.2.2.1 (by assumption))⟩, hI⟩
        | exact ⟨⟨_, rfl, vI_ (part_p (l9 a.toInt.toNat (by omega)).2.2.2.2.2.2.1 (by assumption))⟩, hI⟩
        | (exfalso; (first | omega | (simp only [Int32.reduceToInt] at c8 c15_0 c15_1 m5 ⊢; omega)))
      · replace m5 := bI_nz m5
        refine ⟨fun m12_0 => ?_, fun m12_0 => ?_⟩
        · refine ⟨_, _, rfl, (by refine ⟨?_, ?_⟩ <;> (first | omega | (simp only [Int32.reduceToInt] at c8 c15_0 c15_1 m5 m12_0 ⊢; omega))), ?_⟩
          refine ⟨rfl, trivial, ?_⟩
          first
          | exact ⟨⟨_, rfl, rfl⟩, hI⟩
          | exact ⟨⟨_, rfl, vI_ (congrFun l1 _)⟩, hI⟩
          | exact ⟨⟨_, rfl, vI_ (congrFun l2 _)⟩, hI⟩
          | exact ⟨⟨_, rfl, vI_ (congrFun l3 _)⟩, hI⟩
          | exact ⟨⟨_, rfl, vI_ (congrFun l4 _)⟩, hI⟩
          | exact ⟨⟨_, rfl, vI_ (congrFun l5 _)⟩, hI⟩
          | exact ⟨⟨_, rfl, vI_ (gone_n (l9 a.toInt.toNat (by omega)).2.2.2.2.1 (by assumption))⟩, hI⟩
          | exact ⟨⟨_, rfl, vI_ (gone_p (l9 a.toInt.toNat (by omega)).2.2.2.2.1 (by assumption))⟩, hI⟩
          | exact ⟨⟨_, rfl, vI_ (part_n (l9 a.toInt.toNat (by omega)).2.2.2.2.2.2.1 (by assumption))⟩, hI⟩
          | exact ⟨⟨_, rfl, vI_ (part_p (l9 a.toInt.toNat (by omega)).2.2.2.2.2.2.1 (by assumption))⟩, hI⟩
          | (exfalso; (first | omega | (simp only [Int32.reduceToInt] at c8 c15_0 c15_1 m5 m12_0 ⊢; omega)))
        refine ⟨fun m12_1 => ?_, fun m12_1 => ?_⟩
        · refine ⟨_, _, rfl, (by refine ⟨?_, ?_⟩ <;> (first | omega | (simp only [Int32.reduceToInt] at c8 c15_0 c15_1 m5 m12_0 m12_1 ⊢; omega))), ?_⟩
          refine ⟨rfl, trivial, ?_⟩
          first
          | exact ⟨⟨_, rfl, rfl⟩, hI⟩
          | exact ⟨⟨_, rfl, vI_ (congrFun l1 _)⟩, hI⟩
          | exact ⟨⟨_, rfl, vI_ (congrFun l2 _)⟩, hI⟩
          | exact ⟨⟨_, rfl, vI_ (congrFun l3 _)⟩, hI⟩
          | exact ⟨⟨_, rfl, vI_ (congrFun l4 _)⟩, hI⟩
          | exact ⟨⟨_, rfl, vI_ (congrFun l5 _)⟩, hI⟩
          | exact ⟨⟨_, rfl, vI_ (gone_n (l9 a.toInt.toNat (by omega)).2.2.2.2.1 (by assumption))⟩, hI⟩
          | exact ⟨⟨_, rfl, vI_ (gone_p (l9 a.toInt.toNat (by omega)).2.2.2.2.1 (by assumption))⟩, hI⟩
          | exact ⟨⟨_, rfl, vI_ (part_n (l9 a.toInt.toNat (by omega)).2.2.2.2.2.2.1 (by assumption))⟩, hI⟩
          | exact ⟨⟨_, rfl, vI_ (part_p (l9 a.toInt.toNat (by omega)).2.2.2.2.2.2.1 (by assumption))⟩, hI⟩
          | (exfalso; (first | omega | (simp only [Int32.reduceToInt] at c8 c15_0 c15_1 m5 m12_0 m12_1 ⊢; omega)))
        refine ⟨fun m12_2 => ?_, fun m12_2 => ?_⟩
        · refine ⟨_, _, rfl, (by refine ⟨?_, ?_⟩ <;> (first | omega | (simp only [Int32.reduceToInt] at c8 c15_0 c15_1 m5 m12_0 m12_1 m12_2 ⊢; omega))), ?_⟩
          refine ⟨rfl, trivial, ?_⟩
          first
          | exact ⟨⟨_, rfl, rfl⟩, hI⟩
          | exact ⟨⟨_, rfl, vI_ (congrFun l1 _)⟩, hI⟩
          | exact ⟨⟨_, rfl, vI_ (congrFun l2 _)⟩, hI⟩
          | exact ⟨⟨_, rfl, vI_ (congrFun l3 _)⟩, hI⟩
          | exact ⟨⟨_, rfl, vI_ (congrFun l4 _)⟩, hI⟩
          | exact ⟨⟨_, rfl, vI_ (congrFun l5 _)⟩, hI⟩
          | exact ⟨⟨_, rfl, vI_ (gone_n (l9 a.toInt.toNat (by omega)).2.2.2.2.1 (by assumption))⟩, hI⟩
          | exact ⟨⟨_, rfl, vI_ (gone_p (l9 a.toInt.toNat (by omega)).2.2.2.2.1 (by assumption))⟩, hI⟩
          | exact ⟨⟨_, rfl, vI_ (part_n (l9 a.toInt.toNat (by omega)).2.2.2.2.2.2.1 (by assumption))⟩, hI⟩
          | exact ⟨⟨_, rfl, vI_ (part_p (l9 a.toInt.toNat (by omega)).2.2.2.2.2.2.1 (by assumption))⟩, hI⟩
          | (exfalso; (first | omega | (simp only [Int32.reduceToInt] at c8 c15_0 c15_1 m5 m12_0 m12_1 m12_2 ⊢; omega)))
        refine ⟨fun m12_3 => ?_, fun m12_3 => ?_⟩
        · refine ⟨_, _, rfl, (by refine ⟨?_, ?_⟩ <;> (first | omega | (simp only [Int32.reduceToInt] at c8 c15_0 c15_1 m5 m12_0 m12_1 m12_2 m12_3 ⊢; omega))), ?_⟩
          refine ⟨rfl, trivial, ?_⟩
          first
          | exact ⟨⟨_, rfl, rfl⟩, hI⟩
          | exact ⟨⟨_, rfl, vI_ (congrFun l1 _)⟩, hI⟩
          | exact ⟨⟨_, rfl, vI_ (congrFun l2 _)⟩, hI⟩
          | exact ⟨⟨_, rfl, vI_ (congrFun l3 _)⟩, hI⟩
          | exact ⟨⟨_, rfl, vI_ (congrFun l4 _)⟩, hI⟩
          | exact ⟨⟨_, rfl, vI_ (congrFun l5 _)⟩, hI⟩
          | exact ⟨⟨_, rfl, vI_ (gone_n (l9 a.toInt.toNat (by omega)).2.2.2.2.1 (by assumption))⟩, hI⟩
          | exact ⟨⟨_, rfl, vI_ (gone_p (l9 a.toInt.toNat (by omega)).2.2.2.2.1 (by assumption))⟩, hI⟩
          | exact ⟨⟨_, rfl, vI_ (part_n (l9 a.toInt.toNat (by omega)).2.2.2.2.2.2.1 (by assumption))⟩, hI⟩
          | exact ⟨⟨_, rfl, vI_ (part_p (l9 a.toInt.toNat (by omega)).2.2.2.2.2.2.1 (by assumption))⟩, hI⟩
          | (exfalso; (first | omega | (simp only [Int32.reduceToInt] at c8 c15_0 c15_1 m5 m12_0 m12_1 m12_2 m12_3 ⊢; omega)))
        refine ⟨fun m12_4 => ?_, fun m12_4 => ?_⟩
        · refine ⟨_, _, rfl, (by refine ⟨?_, ?_⟩ <;> (first | omega | (simp only [Int32.reduceToInt] at c8 c15_0 c15_1 m5 m12_0 m12_1 m12_2 m12_3 m12_4 ⊢; omega))), ?_⟩
          refine ⟨rfl, ?_⟩
          refine m_orNone (fun hm90a => ?_) (fun hm90a => ?_)
          · refine ⟨rfl, trivial, ?_⟩
            first
            | exact ⟨⟨_, rfl, rfl⟩, hI⟩
            | exact ⟨⟨_, rfl, vI_ (congrFun l1 _)⟩, hI⟩
            | exact ⟨⟨_, rfl, vI_ (congrFun l2 _)⟩, hI⟩
            | exact ⟨⟨_, rfl, vI_ (congrFun l3 _)⟩, hI⟩
            | exact ⟨⟨_, rfl, vI_ (congrFun l4 _)⟩, hI⟩
            | exact ⟨⟨_, rfl, vI_ (congrFun l5 _)⟩, hI⟩
            | exact ⟨⟨_, rfl, vI_ (gone_n (l9 a.toInt.toNat (by omega)).2.2.2.2.1 (by assumption))⟩, hI⟩
            | exact ⟨⟨_, rfl, vI_ (gone_p (l9 a.toInt.toNat (by omega)).2.2.2.2.1 (by assumption))⟩, hI⟩
            | exact ⟨⟨_, rfl, vI_ (part_n (l9 a.toInt.toNat (by omega)).2.2.2.2.2.2.1 (by assumption))⟩, hI⟩
            | exact ⟨⟨_, rfl, vI_ (part_p (l9 a.toInt.toNat (by omega)).2.2.2.2.2.2.1 (by assumption))⟩, hI⟩
            | (exfalso; (first | omega | (simp only [Int32.reduceToInt] at c8 c15_0 c15_1 m5 m12_0 m12_1 m12_2 m12_3 m12_4 hm90a ⊢; omega)))
          · refine ⟨rfl, trivial, ?_⟩
            first
            | exact ⟨⟨_, rfl, rfl⟩, hI⟩
            | exact ⟨⟨_, rfl, vI_ (congrFun l1 _)⟩, hI⟩
            | exact ⟨⟨_, rfl, vI_ (congrFun l2 _)⟩, hI⟩
            | exact ⟨⟨_, rfl, vI_ (congrFun l3 _)⟩, hI⟩
            | exact ⟨⟨_, rfl, vI_ (congrFun l4 _)⟩, hI⟩
            | exact ⟨⟨_, rfl, vI_ (congrFun l5 _)⟩, hI⟩
            | exact ⟨⟨_, rfl, vI_ (gone_n (l9 a.toInt.toNat (by omega)).2.2.2.2.1 (by assumption))⟩, hI⟩
            | exact ⟨⟨_, rfl, vI_ (gone_p (l9 a.toInt.toNat (by omega)).2.2.2.2.1 (by assumption))⟩, hI⟩
            | exact ⟨⟨_, rfl, vI_ (part_n (l9 a.toInt.toNat (by omega)).2.2.2.2.2.2.1 (by assumption))⟩, hI⟩
            | exact ⟨⟨_, rfl, vI_ (part_p (l9 a.toInt.toNat (by omega)).2.2.2.2.2.2.1 (by assumption))⟩, hI⟩
            | (exfalso; (first | omega | (simp only [Int32.reduceToInt] at c8 c15_0 c15_1 m5 m12_0 m12_1 m12_2 m12_3 m12_4 hm90a ⊢; omega)))
        refine ⟨fun m12_5 => ?_, fun m12_5 => ?_⟩
        · refine ⟨_, _, rfl, (by refine ⟨?_, ?_⟩ <;> (first | omega | (simp only [Int32.reduceToInt] at c8 c15_0 c15_1 m5 m12_0 m12_1 m12_2 m12_3 m12_4 m12_5 ⊢; omega))), ?_⟩
          refine ⟨rfl, trivial, ?_⟩
          first
          | exact ⟨⟨_, rfl, rfl⟩, hI⟩
          | exact ⟨⟨_, rfl, vI_ (congrFun l1 _)⟩, hI⟩
          | exact ⟨⟨_, rfl, vI_ (congrFun l2 _)⟩, hI⟩
          | exact ⟨⟨_, rfl, vI_ (congrFun l3 _)⟩, hI⟩
          | exact ⟨⟨_, rfl, vI_ (congrFun l4 _)⟩, hI⟩
          | exact ⟨⟨_, rfl, vI_ (congrFun l5 _)⟩, hI⟩
          | exact ⟨⟨_, rfl, vI_ (gone_n (l9 a.toInt.toNat (by omega)).2.2.2.2.1 (by assumption))⟩, hI⟩
          | exact ⟨⟨_, rfl, vI_ (gone_p (l9 a.toInt.toNat (by omega)).2.2.2.2.1 (by assumption))⟩, hI⟩
          | exact ⟨⟨_, rfl, vI_ (part_n (l9 a.toInt.toNat (by omega)).2.2.2.2.2.2.1 (by assumption))⟩, hI⟩
          | exact ⟨⟨_, rfl, vI_ (part_p (l9 a.toInt.toNat (by omega)).2.2.2.2.2.2.1 (by assumption))⟩, hI⟩
          | (exfalso; (first | omega | (simp only [Int32.reduceToInt] at c8 c15_0 c15_1 m5 m12_0 m12_1 m12_2 m12_3 m12_4 m12_5 ⊢; omega)))
        refine ⟨fun m12_6 => ?_, fun m12_6 => ?_⟩
        · refine ⟨_, _, rfl, (by refine ⟨?_, ?_⟩ <;> (first | omega | (simp only [Int32.reduceToInt] at c8 c15_0 c15_1 m5 m12_0 m12_1 m12_2 m12_3 m12_4 m12_5 m12_6 ⊢; omega))), ?_⟩
          refine ⟨rfl, ?_⟩
          refine m_orNone (fun hm107a => ?_) (fun hm107a => ?_)
          · refine ⟨rfl, trivial, ?_⟩
            first
            | exact ⟨⟨_, rfl, rfl⟩, hI⟩
            | exact ⟨⟨_, rfl, vI_ (congrFun l1 _)⟩, hI⟩
            | exact ⟨⟨_, rfl, vI_ (congrFun l2 _)⟩, hI⟩
            | exact ⟨⟨_, rfl, vI_ (congrFun l3 _)⟩, hI⟩
            | exact ⟨⟨_, rfl, vI_ (congrFun l4 _)⟩, hI⟩
            | exact ⟨⟨_, rfl, vI_ (congrFun l5 _)⟩, hI⟩
            | exact ⟨⟨_, rfl, vI_ (gone_n (l9 a.toInt.toNat (by omega)).2.2.2.2.1 (by assumption))⟩, hI⟩
            | exact ⟨⟨_, rfl, vI_ (gone_p (l9 a.toInt.toNat (by omega)).2.2.2.2.1 (by assumption))⟩, hI⟩
            | exact ⟨⟨_, rfl, vI_ (part_n (l9 a.toInt.toNat (by omega)).2.2.2.2.2.2.1 (by assumption))⟩, hI⟩
            | exact ⟨⟨_, rfl, vI_ (part_p (l9 a.toInt.toNat (by omega)).2.2.2.2.2.2.1 (by assumption))⟩, hI⟩
            | (exfalso; (first | omega | (simp only [Int32.reduceToInt] at c8 c15_0 c15_1 m5 m12_0 m12_1 m12_2 m12_3 m12_4 m12_5 m12_6 hm107a ⊢; omega)))
          · refine ⟨rfl, trivial, ?_⟩
            first
            | exact ⟨⟨_, rfl, rfl⟩, hI⟩
            | exact ⟨⟨_, rfl, vI_ (congrFun l1 _)⟩, hI⟩
            | exact ⟨⟨_, rfl, vI_ (congrFun l2 _)⟩, hI⟩
            | exact ⟨⟨_, rfl, vI_ (congrFun l3 _)⟩, hI⟩
            | exact ⟨⟨_, rfl, vI_ (congrFun l4 _)⟩, hI⟩
            | exact ⟨⟨_, rfl, vI_ (congrFun l5 _)⟩, hI⟩
            | exact ⟨⟨_, rfl, vI_ (gone_n (l9 a.toInt.toNat (by omega)).2.2.2.2.1 (by assumption))⟩, hI⟩
            | exact ⟨⟨_, rfl, vI_ (gone_p (l9 a.toInt.toNat (by omega)).2.2.2.2.1 (by assumption))⟩, hI⟩
            | exact ⟨⟨_, rfl, vI_ (part_n (l9 a.toInt.toNat (by omega)).2.2.2.2.2.2.1 (by assumption))⟩, hI⟩
            | exact ⟨⟨_, rfl, vI_ (part_p (l9 a.toInt.toNat (by omega)).2.2.2.2.2.2.1 (by assumption))⟩, hI⟩
            | (exfalso; (first | omega | (simp only [Int32.reduceToInt] at c8 c15_0 c15_1 m5 m12_0 m12_1 m12_2 m12_3 m12_4 m12_5 m12_6 hm107a ⊢; omega)))
        refine ⟨rfl, trivial, ?_⟩
        first
        | exact ⟨⟨_, rfl, rfl⟩, hI⟩
        | exact ⟨⟨_, rfl, vI_ (congrFun l1 _)⟩, hI⟩
        | exact ⟨⟨_, rfl, vI_ (congrFun l2 _)⟩, hI⟩
        | exact ⟨⟨_, rfl, vI_ (congrFun l3 _)⟩, hI⟩
        | exact ⟨⟨_, rfl, vI_ (congrFun l4 _)⟩, hI⟩
        | exact ⟨⟨_, rfl, vI_ (congrFun l5 _)⟩, hI⟩
        | exact ⟨⟨_, rfl, vI_ (gone_n (l9 a.toInt.toNat (by omega)).2.2.2.2.1 (by assumption))⟩, hI⟩
        | exact ⟨⟨_, rfl, vI_ (gone_p (l9 a.toInt.toNat (by omega)).2.2.2.2.1 (by assumption))⟩, hI⟩
        | exact ⟨⟨_, rfl, vI_ (part_n (l9 a.toInt.toNat (by omega)).2.2.2.2.2.2.1 (by assumption))⟩, hI⟩
        | exact ⟨⟨_, rfl, vI_ (part_p (l9 a.toInt.toNat (by omega)).2.2.2.2.2.2.1 (by assumption))⟩, hI⟩
        | (exfalso; (first | omega | (simp only [Int32.reduceToInt] at c8 c15_0 c15_1 m5 m12_0 m12_1 m12_2 m12_3 m12_4 m12_5 m12_6 ⊢; omega)))
    refine ⟨fun c15_2 => ?_, fun c15_2 => ?_⟩
    · refine ⟨_, _, rfl, (by refine ⟨?_, ?_⟩ <;> (first | omega | (simp only [Int32.reduceToInt] at c8 c15_0 c15_1 c15_2 ⊢; omega))), ?_⟩
      refine ⟨rfl, trivial, ?_⟩
      refine Call_st 200 fun Y hY => ?_
      refine ⟨rfl, rfl, ?_⟩
      refine m_isLine (by omega) ?_
      refine ⟨fun m5 => ?_, fun m5 => ?_⟩
      · replace m5 := bI_z m5
        refine ⟨rfl, trivial, ?_⟩
        first
        | exact ⟨⟨_, rfl, rfl⟩, hI⟩
        | exact ⟨⟨_, rfl, vI_ (congrFun l1 _)⟩, hI⟩
        | exact ⟨⟨_, rfl, vI_ (congrFun l2 _)⟩, hI⟩
        | exact ⟨⟨_, rfl, vI_ (congrFun l3 _)⟩, hI⟩
        | exact ⟨⟨_, rfl, vI_ (congrFun l4 _)⟩, hI⟩
        | exact ⟨⟨_, rfl, vI_ (congrFun l5 _)⟩, hI⟩
        | exact ⟨⟨_, rfl, vI_ (gone_n (l9 a.toInt.toNat (by omega)).2.2.2.2.1 (by assumption))⟩, hI⟩
        | exact ⟨⟨_, rfl, vI_ (gone_p (l9 a.toInt.toNat (by omega)).2.2.2.2.1 (by assumption))⟩, hI⟩
        | exact ⟨⟨_, rfl, vI_ (part_n (l9 a.toInt.toNat (by omega)).2.2.2.2.2.2.1 (by assumption))⟩, hI⟩
        | exact ⟨⟨_, rfl, vI_ (part_p (l9 a.toInt.toNat (by omega)).2.2.2.2.2.2.1 (by assumption))⟩, hI⟩
        | (exfalso; (first | omega | (simp only [Int32.reduceToInt] at c8 c15_0 c15_1 c15_2 m5 ⊢; omega)))
      · replace m5 := bI_nz m5
        refine ⟨fun m12_0 => ?_, fun m12_0 => ?_⟩
        · refine ⟨_, _, rfl, (by refine ⟨?_, ?_⟩ <;> (first | omega | (simp only [Int32.reduceToInt] at c8 c15_0 c15_1 c15_2 m5 m12_0 ⊢; omega))), ?_⟩
          refine ⟨rfl, trivial, ?_⟩
          first
          | exact ⟨⟨_, rfl, rfl⟩, hI⟩
          | exact ⟨⟨_, rfl, vI_ (congrFun l1 _)⟩, hI⟩
          | exact ⟨⟨_, rfl, vI_ (congrFun l2 _)⟩, hI⟩
          | exact ⟨⟨_, rfl, vI_ (congrFun l3 _)⟩, hI⟩
          | exact ⟨⟨_, rfl, vI_ (congrFun l4 _)⟩, hI⟩
          | exact ⟨⟨_, rfl, vI_ (congrFun l5 _)⟩, hI⟩
          | exact ⟨⟨_, rfl, vI_ (gone_n (l9 a.toInt.toNat (by omega)).2.2.2.2.1 (by assumption))⟩, hI⟩
          | exact ⟨⟨_, rfl, vI_ (gone_p (l9 a.toInt.toNat (by omega)).2.2.2.2.1 (by assumption))⟩, hI⟩
          | exact ⟨⟨_, rfl, vI_ (part_n (l9 a.toInt.toNat (by omega)).2.2.2.2.2.2.1 (by assumption))⟩, hI⟩
          | exact ⟨⟨_, rfl, vI_ (part_p (l9 a.toInt.toNat (by omega)).2.2.2.2.2.2.1 (by assumption))⟩, hI⟩
          | (exfalso; (first | omega | (simp only [Int32.reduceToInt] at c8 c15_0 c15_1 c15_2 m5 m12_0 ⊢; omega)))
        refine ⟨fun m12_1 => ?_, fun m12_1 => ?_⟩
        · refine ⟨_, _, rfl, (by refine ⟨?_, ?_⟩ <;> (first | omega | (simp only [Int32.reduceToInt] at c8 c15_0 c15_1 c15_2 m5 m12_0 m12_1 ⊢; omega))), ?_⟩
          refine ⟨rfl, trivial, ?_⟩
          first
          | exact ⟨⟨_, rfl, rfl⟩, hI⟩
          | exact ⟨⟨_, rfl, vI_ (congrFun l1 _)⟩, hI⟩
          | exact ⟨⟨_, rfl, vI_ (congrFun l2 _)⟩, hI⟩
          | exact ⟨⟨_, rfl, vI_ (congrFun l3 _)⟩, hI⟩
          | exact ⟨⟨_, rfl, vI_ (congrFun l4 _)⟩, hI⟩
          | exact ⟨⟨_, rfl, vI_ (congrFun l5 _)⟩, hI⟩
          | exact ⟨⟨_, rfl, vI_ (gone_n (l9 a.toInt.toNat (by omega)).2.2.2.2.1 (by assumption))⟩, hI⟩
          | exact ⟨⟨_, rfl, vI_ (gone_p (l9 a.toInt.toNat (by omega)).2.2.2.2.1 (by assumption))⟩, hI⟩
          | exact ⟨⟨_, rfl, vI_ (part_n (l9 a.toInt.toNat (by omega)).2.2.2.2.2.2.1 (by assumption))⟩, hI⟩
          | exact ⟨⟨_, rfl, vI_ (part_p (l9 a.toInt.toNat (by omega)).2.2.2.2.2.2.1 (by assumption))⟩, hI⟩
          | (exfalso; (first | omega | (simp only [Int32.reduceToInt] at c8 c15_0 c15_1 c15_2 m5 m12_0 m12_1 ⊢; omega)))
        refine ⟨fun m12_2 => ?_, fun m12_2 => ?_⟩
        · refine ⟨_, _, rfl, (by refine ⟨?_, ?_⟩ <;> (first | omega | (simp only [Int32.reduceToInt] at c8 c15_0 c15_1 c15_2 m5 m12_0 m12_1 m12_2 ⊢; omega))), ?_⟩
          refine ⟨rfl, trivial, ?_⟩
          first
          | exact ⟨⟨_, rfl, rfl⟩, hI⟩
          | exact ⟨⟨_, rfl, vI_ (congrFun l1 _)⟩, hI⟩
          | exact ⟨⟨_, rfl, vI_ (congrFun l2 _)⟩, hI⟩
          | exact ⟨⟨_, rfl, vI_ (congrFun l3 _)⟩, hI⟩
          | exact ⟨⟨_, rfl, vI_ (congrFun l4 _)⟩, hI⟩
          | exact ⟨⟨_, rfl, vI_ (congrFun l5 _)⟩, hI⟩
          | exact ⟨⟨_, rfl, vI_ (gone_n (l9 a.toInt.toNat (by omega)).2.2.2.2.1 (by assumption))⟩, hI⟩
          | exact ⟨⟨_, rfl, vI_ (gone_p (l9 a.toInt.toNat (by omega)).2.2.2.2.1 (by assumption))⟩, hI⟩
          | exact ⟨⟨_, rfl, vI_ (part_n (l9 a.toInt.toNat (by omega)).2.2.2.2.2.2.1 (by assumption))⟩, hI⟩
          | exact ⟨⟨_, rfl, vI_ (part_p (l9 a.toInt.toNat (by omega)).2.2.2.2.2.2.1 (by assumption))⟩, hI⟩
          | (exfalso; (first | omega | (simp only [Int32.reduceToInt] at c8 c15_0 c15_1 c15_2 m5 m12_0 m12_1 m12_2 ⊢; omega)))
        refine ⟨fun m12_3 => ?_, fun m12_3 => ?_⟩
        · refine ⟨_, _, rfl, (by refine ⟨?_, ?_⟩ <;> (first | omega | (simp only [Int32.reduceToInt] at c8 c15_0 c15_1 c15_2 m5 m12_0 m12_1 m12_2 m12_3 ⊢; omega))), ?_⟩
          refine ⟨rfl, trivial, ?_⟩
          first
          | exact ⟨⟨_, rfl, rfl⟩, hI⟩
          | exact ⟨⟨_, rfl, vI_ (congrFun l1 _)⟩, hI⟩
          | exact ⟨⟨_, rfl, vI_ (congrFun l2 _)⟩, hI⟩
          | exact ⟨⟨_, rfl, vI_ (congrFun l3 _)⟩, hI⟩
          | exact ⟨⟨_, rfl, vI_ (congrFun l4 _)⟩, hI⟩
          | exact ⟨⟨_, rfl, vI_ (congrFun l5 _)⟩, hI⟩
          | exact ⟨⟨_, rfl, vI_ (gone_n (l9 a.toInt.toNat (by omega)).2.2.2.2.1 (by assumption))⟩, hI⟩
          | exact ⟨⟨_, rfl, vI_ (gone_p (l9 a.toInt.toNat (by omega)).2.2.2.2.1 (by assumption))⟩, hI⟩
          | exact ⟨⟨_, rfl, vI_ (part_n (l9 a.toInt.toNat (by omega)).2.2.2.2.2.2.1 (by assumption))⟩, hI⟩
          | exact ⟨⟨_, rfl, vI_ (part_p (l9 a.toInt.toNat (by omega)).2.2.2.2.2.2.1 (by assumption))⟩, hI⟩
          | (exfalso; (first | omega | (simp only [Int32.reduceToInt] at c8 c15_0 c15_1 c15_2 m5 m12_0 m12_1 m12_2 m12_3 ⊢; omega)))
        refine ⟨fun m12_4 => ?_, fun m12_4 => ?_⟩
        · refine ⟨_, _, rfl, (by refine ⟨?_, ?_⟩ <;> (first | omega | (simp only [Int32.reduceToInt] at c8 c15_0 c15_1 c15_2 m5 m12_0 m12_1 m12_2 m12_3 m12_4 ⊢; omega))), ?_⟩
          refine ⟨rfl, ?_⟩
          refine m_orNone (fun hm90a => ?_) (fun hm90a => ?_)
          · refine ⟨rfl, trivial, ?_⟩
            first
            | exact ⟨⟨_, rfl, rfl⟩, hI⟩
            | exact ⟨⟨_, rfl, vI_ (congrFun l1 _)⟩, hI⟩
            | exact ⟨⟨_, rfl, vI_ (congrFun l2 _)⟩, hI⟩
            | exact ⟨⟨_, rfl, vI_ (congrFun l3 _)⟩, hI⟩
            | exact ⟨⟨_, rfl, vI_ (congrFun l4 _)⟩, hI⟩
            | exact ⟨⟨_, rfl, vI_ (congrFun l5 _)⟩, hI⟩
            | exact ⟨⟨_, rfl, vI_ (gone_n (l9 a.toInt.toNat (by omega)).2.2.2.2.1 (by assumption))⟩, hI⟩
            | exact ⟨⟨_, rfl, vI_ (gone_p (l9 a.toInt.toNat (by omega)).2.2.2.2.1 (by assumption))⟩, hI⟩
            | exact ⟨⟨_, rfl, vI_ (part_n (l9 a.toInt.toNat (by omega)).2.2.2.2.2.2.1 (by assumption))⟩, hI⟩
            | exact ⟨⟨_, rfl, vI_ (part_p (l9 a.toInt.toNat (by omega)).2.2.2.2.2.2.1 (by assumption))⟩, hI⟩
            | (exfalso; (first | omega | (simp only [Int32.reduceToInt] at c8 c15_0 c15_1 c15_2 m5 m12_0 m12_1 m12_2 m12_3 m12_4 hm90a ⊢; omega)))
          · refine ⟨rfl, trivial, ?_⟩
            first
            | exact ⟨⟨_, rfl, rfl⟩, hI⟩
            | exact ⟨⟨_, rfl, vI_ (congrFun l1 _)⟩, hI⟩
            | exact ⟨⟨_, rfl, vI_ (congrFun l2 _)⟩, hI⟩
            | exact ⟨⟨_, rfl, vI_ (congrFun l3 _)⟩, hI⟩
            | exact ⟨⟨_, rfl, vI_ (congrFun l4 _)⟩, hI⟩
            | exact ⟨⟨_, rfl, vI_ (congrFun l5 _)⟩, hI⟩
            | exact ⟨⟨_, rfl, vI_ (gone_n (l9 a.toInt.toNat (by omega)).2.2.2.2.1 (by assumption))⟩, hI⟩
            | exact ⟨⟨_, rfl, vI_ (gone_p (l9 a.toInt.toNat (by omega)).2.2.2.2.1 (by assumption))⟩, hI⟩
            | exact ⟨⟨_, rfl, vI_ (part_n (l9 a.toInt.toNat (by omega)).2.2.2.2.2.2.1 (by assumption))⟩, hI⟩
            | exact ⟨⟨_, rfl, vI_ (part_p (l9 a.toInt.toNat (by omega)).2.2.2.2.2.2.1 (by assumption))⟩, hI⟩
            | (exfalso; (first | omega | (simp only [Int32.reduceToInt] at c8 c15_0 c15_1 c15_2 m5 m12_0 m12_1 m12_2 m12_3 m12_4 hm90a ⊢; omega)))
        refine ⟨fun m12_5 => ?_, fun m12_5 => ?_⟩
        · refine ⟨_, _, rfl, (by refine ⟨?_, ?_⟩ <;> (first | omega | (simp only [Int32.reduceToInt] at c8 c15_0 c15_1 c15_2 m5 m12_0 m12_1 m12_2 m12_3 m12_4 m12_5 ⊢; omega))), ?_⟩
          refine ⟨rfl, trivial, ?_⟩
          first
          | exact ⟨⟨_, rfl, rfl⟩, hI⟩
          | exact ⟨⟨_, rfl, vI_ (congrFun l1 _)⟩, hI⟩
          | exact ⟨⟨_, rfl, vI_ (congrFun l2 _)⟩, hI⟩
          | exact ⟨⟨_, rfl, vI_ (congrFun l3 _)⟩, hI⟩
          | exact ⟨⟨_, rfl, vI_ (congrFun l4 _)⟩, hI⟩
          | exact ⟨⟨_, rfl, vI_ (congrFun l5 _)⟩, hI⟩
          | exact ⟨⟨_, rfl, vI_ (gone_n (l9 a.toInt.toNat (by omega)).2.2.2.2.1 (by assumption))⟩, hI⟩
          | exact ⟨⟨_, rfl, vI_ (gone_p (l9 a.toInt.toNat (by omega)).2.2.2.2.1 (by assumption))⟩, hI⟩
          | exact ⟨⟨_, rfl, vI_ (part_n (l9 a.toInt.toNat (by omega)).2.2.2.2.2.2.1 (by assumption))⟩, hI⟩
          | exact ⟨⟨_, rfl, vI_ (part_p (l9 a.toInt.toNat (by omega)).2.2.2.2.2.2.1 (by assumption))⟩, hI⟩
          | (exfalso; (first | omega | (simp only [Int32.reduceToInt] at c8 c15_0 c15_1 c15_2 m5 m12_0 m12_1 m12_2 m12_3 m12_4 m12_5 ⊢; omega)))
        refine ⟨fun m12_6 => ?_, fun m12_6 => ?_⟩
        · refine ⟨_, _, rfl, (by refine ⟨?_, ?_⟩ <;> (first | omega | (simp only [Int32.reduceToInt] at c8 c15_0 c15_1 c15_2 m5 m12_0 m12_1 m12_2 m12_3 m12_4 m12_5 m12_6 ⊢; omega))), ?_⟩
          refine ⟨rfl, ?_⟩
          refine m_orNone (fun hm107a => ?_) (fun hm107a => ?_)
          · refine ⟨rfl, trivial, ?_⟩
            first
            | exact ⟨⟨_, rfl, rfl⟩, hI⟩
            | exact ⟨⟨_, rfl, vI_ (congrFun l1 _)⟩, hI⟩
            | exact ⟨⟨_, rfl, vI_ (congrFun l2 _)⟩, hI⟩
            | exact ⟨⟨_, rfl, vI_ (congrFun l3 _)⟩, hI⟩
            | exact ⟨⟨_, rfl, vI_ (congrFun l4 _)⟩, hI⟩
            | exact ⟨⟨_, rfl, vI_ (congrFun l5 _)⟩, hI⟩
            | exact ⟨⟨_, rfl, vI_ (gone_n (l9 a.toInt.toNat (by omega)).2.2.2.2.1 (by assumption))⟩, hI⟩
            | exact ⟨⟨_, rfl, vI_ (gone_p (l9 a.toInt.toNat (by omega)).2.2.2.2.1 (by assumption))⟩, hI⟩
            | exact ⟨⟨_, rfl, vI_ (part_n (l9 a.toInt.toNat (by omega)).2.2.2.2.2.2.1 (by assumption))⟩, hI⟩
            | exact ⟨⟨_, rfl, vI_ (part_p (l9 a.toInt.toNat (by omega)).2.2.2.2.2.2.1 (by assumption))⟩, hI⟩
            | (exfalso; (first | omega | (simp only [Int32.reduceToInt] at c8 c15_0 c15_1 c15_2 m5 m12_0 m12_1 m12_2 m12_3 m12_4 m12_5 m12_6 hm107a ⊢; omega)))
          · refine ⟨rfl, trivial, ?_⟩
            first
            | exact ⟨⟨_, rfl, rfl⟩, hI⟩
            | exact ⟨⟨_, rfl, vI_ (congrFun l1 _)⟩, hI⟩
            | exact ⟨⟨_, rfl, vI_ (congrFun l2 _)⟩, hI⟩
            | exact ⟨⟨_, rfl, vI_ (congrFun l3 _)⟩, hI⟩
            | exact ⟨⟨_, rfl, vI_ (congrFun l4 _)⟩, hI⟩
            | exact ⟨⟨_, rfl, vI_ (congrFun l5 _)⟩, hI⟩
            | exact ⟨⟨_, rfl, vI_ (gone_n (l9 a.toInt.toNat (by omega)).2.2.2.2.1 (by assumption))⟩, hI⟩
            | exact ⟨⟨_, rfl, vI_ (gone_p (l9 a.toInt.toNat (by omega)).2.2.2.2.1 (by assumption))⟩, hI⟩
            | exact ⟨⟨_, rfl, vI_ (part_n (l9 a.toInt.toNat (by omega)).2.2.2.2.2.2.1 (by assumption))⟩, hI⟩
            | exact ⟨⟨_, rfl, vI_ (part_p (l9 a.toInt.toNat (by omega)).2.2.2.2.2.2.1 (by assumption))⟩, hI⟩
            | (exfalso; (first | omega | (simp only [Int32.reduceToInt] at c8 c15_0 c15_1 c15_2 m5 m12_0 m12_1 m12_2 m12_3 m12_4 m12_5 m12_6 hm107a ⊢; omega)))
        refine ⟨rfl, trivial, ?_⟩
        first
        | exact ⟨⟨_, rfl, rfl⟩, hI⟩
        | exact ⟨⟨_, rfl, vI_ (congrFun l1 _)⟩, hI⟩
        | exact ⟨⟨_, rfl, vI_ (congrFun l2 _)⟩, hI⟩
        | exact ⟨⟨_, rfl, vI_ (congrFun l3 _)⟩, hI⟩
        | exact ⟨⟨_, rfl, vI_ (congrFun l4 _)⟩, hI⟩
        | exact ⟨⟨_, rfl, vI_ (congrFun l5 _)⟩, hI⟩
        | exact ⟨⟨_, rfl, vI_ (gone_n (l9 a.toInt.toNat (by omega)).2.2.2.2.1 (by assumption))⟩, hI⟩
        | exact ⟨⟨_, rfl, vI_ (gone_p (l9 a.toInt.toNat (by omega)).2.2.2.2.1 (by assumption))⟩, hI⟩
        | exact ⟨⟨_, rfl, vI_ (part_n (l9 a.toInt.toNat (by omega)).2.2.2.2.2.2.1 (by assumption))⟩, hI⟩
        | exact ⟨⟨_, rfl, vI_ (part_p (l9 a.toInt.toNat (by omega)).2.2.2.2.2.2.1 (by assumption))⟩, hI⟩
        | (exfalso; (first | omega | (simp only [Int32.reduceToInt] at c8 c15_0 c15_1 c15_2 m5 m12_0 m12_1 m12_2 m12_3 m12_4 m12_5 m12_6 ⊢; omega)))
    refine ⟨fun c15_3 => ?_, fun c15_3 => ?_⟩
    · refine ⟨_, _, rfl, (by refine ⟨?_, ?_⟩ <;> (first | omega | (simp only [Int32.reduceToInt] at c8 c15_0 c15_1 c15_2 c15_3 ⊢; omega))), ?_⟩
      refine ⟨rfl, trivial, ?_⟩
      refine Call_st 200 fun Y hY => ?_
      refine ⟨rfl, rfl, ?_⟩
      refine m_isLine (by omega) ?_
      refine ⟨fun m5 => ?_, fun m5 => ?_⟩
      · replace m5 := bI_z m5
        refine ⟨rfl, trivial, ?_⟩
        first
        | exact ⟨⟨_, rfl, rfl⟩, hI⟩
        | exact ⟨⟨_, rfl, vI_ (congrFun l1 _)⟩, hI⟩
        | exact ⟨⟨_, rfl, vI_ (congrFun l2 _)⟩, hI⟩
        | exact ⟨⟨_, rfl, vI_ (congrFun l3 _)⟩, hI⟩
        | exact ⟨⟨_, rfl, vI_ (congrFun l4 _)⟩, hI⟩
        | exact ⟨⟨_, rfl, vI_ (congrFun l5 _)⟩, hI⟩
        | exact ⟨⟨_, rfl, vI_ (gone_n (l9 a.toInt.toNat (by omega)).2.2.2.2.1 (by assumption))⟩, hI⟩
        | exact ⟨⟨_, rfl, vI_ (gone_p (l9 a.toInt.toNat (by omega)).2.2.2.2.1 (by assumption))⟩, hI⟩
        | exact ⟨⟨_, rfl, vI_ (part_n (l9 a.toInt.toNat (by omega)).2.2.2.2.2.2.1 (by assumption))⟩, hI⟩
        | exact ⟨⟨_, rfl, vI_ (part_p (l9 a.toInt.toNat (by omega)).2.2.2.2.2.2.1 (by assumption))⟩, hI⟩
        | (exfalso; (first | omega | (simp only [Int32.reduceToInt] at c8 c15_0 c15_1 c15_2 c15_3 m5 ⊢; omega)))
      · replace m5 := bI_nz m5
        refine ⟨fun m12_0 => ?_, fun m12_0 => ?_⟩
        · refine ⟨_, _, rfl, (by refine ⟨?_, ?_⟩ <;> (first | omega | (simp only [Int32.reduceToInt] at c8 c15_0 c15_1 c15_2 c15_3 m5 m12_0 ⊢; omega))), ?_⟩
          refine ⟨rfl, trivial, ?_⟩
          first
          | exact ⟨⟨_, rfl, rfl⟩, hI⟩
          | exact ⟨⟨_, rfl, vI_ (congrFun l1 _)⟩, hI⟩
          | exact ⟨⟨_, rfl, vI_ (congrFun l2 _)⟩, hI⟩
          | exact ⟨⟨_, rfl, vI_ (congrFun l3 _)⟩, hI⟩
          | exact ⟨⟨_, rfl, vI_ (congrFun l4 _)⟩, hI⟩
          | exact ⟨⟨_, rfl, vI_ (congrFun l5 _)⟩, hI⟩
          | exact ⟨⟨_, rfl, vI_ (gone_n (l9 a.toInt.toNat (by omega)).2.2.2.2.1 (by assumption))⟩, hI⟩
          | exact ⟨⟨_, rfl, vI_ (gone_p (l9 a.toInt.toNat (by omega)).2.2.2.2.1 (by assumption))⟩, hI⟩
          | exact ⟨⟨_, rfl, vI_ (part_n (l9 a.toInt.toNat (by omega)).2.2.2.2.2.2.1 (by assumption))⟩, hI⟩
          | exact ⟨⟨_, rfl, vI_ (part_p (l9 a.toInt.toNat (by omega)).2.2.2.2.2.2.1 (by assumption))⟩, hI⟩
          | (exfalso; (first | omega | (simp only [Int32.reduceToInt] at c8 c15_0 c15_1 c15_2 c15_3 m5 m12_0 ⊢; omega)))
        refine ⟨fun m12_1 => ?_, fun m12_1 => ?_⟩
        · refine ⟨_, _, rfl, (by refine ⟨?_, ?_⟩ <;> (first | omega | (simp only [Int32.reduceToInt] at c8 c15_0 c15_1 c15_2 c15_3 m5 m12_0 m12_1 ⊢; omega))), ?_⟩
          refine ⟨rfl, trivial, ?_⟩
          first
          | exact ⟨⟨_, rfl, rfl⟩, hI⟩
          | exact ⟨⟨_, rfl, vI_ (congrFun l1 _)⟩, hI⟩
          | exact ⟨⟨_, rfl, vI_ (congrFun l2 _)⟩, hI⟩
          | exact ⟨⟨_, rfl, vI_ (congrFun l3 _)⟩, hI⟩
          | exact ⟨⟨_, rfl, vI_ (congrFun l4 _)⟩, hI⟩
          | exact ⟨⟨_, rfl, vI_ (congrFun l5 _)⟩, hI⟩
          | exact ⟨⟨_, rfl, vI_ (gone_n (l9 a.toInt.toNat (by omega)).2.2.2.2.1 (by assumption))⟩, hI⟩
          | exact ⟨⟨_, rfl, vI_ (gone_p (l9 a.toInt.toNat (by omega)).2.2.2.2.1 (by assumption))⟩, hI⟩
          | exact ⟨⟨_, rfl, vI_ (part_n (l9 a.toInt.toNat (by omega)).2.2.2.2.2.2.1 (by assumption))⟩, hI⟩
          | exact ⟨⟨_, rfl, vI_ (part_p (l9 a.toInt.toNat (by omega)).2.2.2.2.2.2.1 (by assumption))⟩, hI⟩
          | (exfalso; (first | omega | (simp only [Int32.reduceToInt] at c8 c15_0 c15_1 c15_2 c15_3 m5 m12_0 m12_1 ⊢; omega)))
        refine ⟨fun m12_2 => ?_, fun m12_2 => ?_⟩
        · refine ⟨_, _, rfl, (by refine ⟨?_, ?_⟩ <;> (first | omega | (simp only [Int32.reduceToInt] at c8 c15_0 c15_1 c15_2 c15_3 m5 m12_0 m12_1 m12_2 ⊢; omega))), ?_⟩
          refine ⟨rfl, trivial, ?_⟩
          first
          | exact ⟨⟨_, rfl, rfl⟩, hI⟩
          | exact ⟨⟨_, rfl, vI_ (congrFun l1 _)⟩, hI⟩
          | exact ⟨⟨_, rfl, vI_ (congrFun l2 _)⟩, hI⟩
          | exact ⟨⟨_, rfl, vI_ (congrFun l3 _)⟩, hI⟩
          | exact ⟨⟨_, rfl, vI_ (congrFun l4 _)⟩, hI⟩
          | exact ⟨⟨_, rfl, vI_ (congrFun l5 _)⟩, hI⟩
          | exact ⟨⟨_, rfl, vI_ (gone_n (l9 a.toInt.toNat (by omega)).2.2.2.2.1 (by assumption))⟩, hI⟩
          | exact ⟨⟨_, rfl, vI_ (gone_p (l9 a.toInt.toNat (by omega)).2.2.2.2.1 (by assumption))⟩, hI⟩
          | exact ⟨⟨_, rfl, vI_ (part_n (l9 a.toInt.toNat (by omega)).2.2.2.2.2.2.1 (by assumption))⟩, hI⟩
          | exact ⟨⟨_, rfl, vI_ (part_p (l9 a.toInt.toNat (by omega)).2.2.2.2.2.2.1 (by assumption))⟩, hI⟩
          | (exfalso; (first | omega | (simp only [Int32.reduceToInt] at c8 c15_0 c15_1 c15_2 c15_3 m5 m12_0 m12_1 m12_2 ⊢; omega)))
        refine ⟨fun m12_3 => ?_, fun m12_3 => ?_⟩
        · refine ⟨_, _, rfl, (by refine ⟨?_, ?_⟩ <;> (first | omega | (simp only [Int32.reduceToInt] at c8 c15_0 c15_1 c15_2 c15_3 m5 m12_0 m12_1 m12_2 m12_3 ⊢; omega))), ?_⟩
          refine ⟨rfl, trivial, ?_⟩
          first
          | exact ⟨⟨_, rfl, rfl⟩, hI⟩
          | exact ⟨⟨_, rfl, vI_ (congrFun l1 _)⟩, hI⟩
          | exact ⟨⟨_, rfl, vI_ (congrFun l2 _)⟩, hI⟩
          | exact ⟨⟨_, rfl, vI_ (congrFun l3 _)⟩, hI⟩
          | exact ⟨⟨_, rfl, vI_ (congrFun l4 _)⟩, hI⟩
          | exact ⟨⟨_, rfl, vI_ (congrFun l5 _)⟩, hI⟩
          | exact ⟨⟨_, rfl, vI_ (gone_n (l9 a.toInt.toNat (by omega)).2.2.2.2.1 (by assumption))⟩, hI⟩
          | exact ⟨⟨_, rfl, vI_ (gone_p (l9 a.toInt.toNat (by omega)).2.2.2.2.1 (by assumption))⟩, hI⟩
          | exact ⟨⟨_, rfl, vI_ (part_n (l9 a.toInt.toNat (by omega)).2.2.2.2.2.2.1 (by assumption))⟩, hI⟩
          | exact ⟨⟨_, rfl, vI_ (part_p (l9 a.toInt.toNat (by omega)).2.2.2.2.2.2.1 (by assumption))⟩, hI⟩
          | (exfalso; (first | omega | (simp only [Int32.reduceToInt] at c8 c15_0 c15_1 c15_2 c15_3 m5 m12_0 m12_1 m12_2 m12_3 ⊢; omega)))
        refine ⟨fun m12_4 => ?_, fun m12_4 => ?_⟩
        · refine ⟨_, _, rfl, (by refine ⟨?_, ?_⟩ <;> (first | omega | (simp only [Int32.reduceToInt] at c8 c15_0 c15_1 c15_2 c15_3 m5 m12_0 m12_1 m12_2 m12_3 m12_4 ⊢; omega))), ?_⟩
          refine ⟨rfl, ?_⟩
          refine m_orNone (fun hm90a => ?_) (fun hm90a => ?_)
          · refine ⟨rfl, trivial, ?_⟩
            first
            | exact ⟨⟨_, rfl, rfl⟩, hI⟩
            | exact ⟨⟨_, rfl, vI_ (congrFun l1 _)⟩, hI⟩
            | exact ⟨⟨_, rfl, vI_ (congrFun l2 _)⟩, hI⟩
            | exact ⟨⟨_, rfl, vI_ (congrFun l3 _)⟩, hI⟩
            | exact ⟨⟨_, rfl, vI_ (congrFun l4 _)⟩, hI⟩
            | exact ⟨⟨_, rfl, vI_ (congrFun l5 _)⟩, hI⟩
            | exact ⟨⟨_, rfl, vI_ (gone_n (l9 a.toInt.toNat (by omega)).2.2.2.2.1 (by assumption))⟩, hI⟩
            | exact ⟨⟨_, rfl, vI_ (gone_p (l9 a.toInt.toNat (by omega)).2.2.2.2.1 (by assumption))⟩, hI⟩
            | exact ⟨⟨_, rfl, vI_ (part_n (l9 a.toInt.toNat (by omega)).2.2.2.2.2.2.1 (by assumption))⟩, hI⟩
            | exact ⟨⟨_, rfl, vI_ (part_p (l9 a.toInt.toNat (by omega)).2.2.2.2.2.2.1 (by assumption))⟩, hI⟩
            | (exfalso; (first | omega | (simp only [Int32.reduceToInt] at c8 c15_0 c15_1 c15_2 c15_3 m5 m12_0 m12_1 m12_2 m12_3 m12_4 hm90a ⊢; omega)))
          · refine ⟨rfl, trivial, ?_⟩
            first
            | exact ⟨⟨_, rfl, rfl⟩, hI⟩
            | exact ⟨⟨_, rfl, vI_ (congrFun l1 _)⟩, hI⟩
            | exact ⟨⟨_, rfl, vI_ (congrFun l2 _)⟩, hI⟩
            | exact ⟨⟨_, rfl, vI_ (congrFun l3 _)⟩, hI⟩
            | exact ⟨⟨_, rfl, vI_ (congrFun l4 _)⟩, hI⟩
            | exact ⟨⟨_, rfl, vI_ (congrFun l5 _)⟩, hI⟩
            | exact ⟨⟨_, rfl, vI_ (gone_n (l9 a.toInt.toNat (by omega)).2.2.2.2.1 (by assumption))⟩, hI⟩
            | exact ⟨⟨_, rfl, vI_ (gone_p (l9 a.toInt.toNat (by omega)).2.2.2.2.1 (by assumption))⟩, hI⟩
            | exact ⟨⟨_, rfl, vI_ (part_n (l9 a.toInt.toNat (by omega)).2.2.2.2.2.2.1 (by assumption))⟩, hI⟩
            | exact ⟨⟨_, rfl, vI_ (part_p (l9 a.toInt.toNat (by omega)).2.2.2.2.2.2.1 (by assumption))⟩, hI⟩
            | (exfalso; (first | omega | (simp only [Int32.reduceToInt] at c8 c15_0 c15_1 c15_2 c15_3 m5 m12_0 m12_1 m12_2 m12_3 m12_4 hm90a ⊢; omega)))
        refine ⟨fun m12_5 => ?_, fun m12_5 => ?_⟩
        · refine ⟨_, _, rfl, (by refine ⟨?_, ?_⟩ <;> (first | omega | (simp only [Int32.reduceToInt] at c8 c15_0 c15_1 c15_2 c15_3 m5 m12_0 m12_1 m12_2 m12_3 m12_4 m12_5 ⊢; omega))), ?_⟩
          refine ⟨rfl, trivial, ?_⟩
          first
          | exact ⟨⟨_, rfl, rfl⟩, hI⟩
          | exact ⟨⟨_, rfl, vI_ (congrFun l1 _)⟩, hI⟩
          | exact ⟨⟨_, rfl, vI_ (congrFun l2 _)⟩, hI⟩
          | exact ⟨⟨_, rfl, vI_ (congrFun l3 _)⟩, hI⟩
          | exact ⟨⟨_, rfl, vI_ (congrFun l4 _)⟩, hI⟩
          | exact ⟨⟨_, rfl, vI_ (congrFun l5 _)⟩, hI⟩
          | exact ⟨⟨_, rfl, vI_ (gone_n (l9 a.toInt.toNat (by omega)).2.2.2.2.1 (by assumption))⟩, hI⟩
          | exact ⟨⟨_, rfl, vI_ (gone_p (l9 a.toInt.toNat (by omega)).2.2.2.2.1 (by assumption))⟩, hI⟩
          | exact ⟨⟨_, rfl, vI_ (part_n (l9 a.toInt.toNat (by omega)).2.2.2.2.2.2.1 (by assumption))⟩, hI⟩
          | exact ⟨⟨_, rfl, vI_ (part_p (l9 a.toInt.toNat (by omega)).2.2.2.2.2.2.1 (by assumption))⟩, hI⟩
          | (exfalso; (first | omega | (simp only [Int32.reduceToInt] at c8 c15_0 c15_1 c15_2 c15_3 m5 m12_0 m12_1 m12_2 m12_3 m12_4 m12_5 ⊢; omega)))
        refine ⟨fun m12_6 => ?_, fun m12_6 => ?_⟩
        · refine ⟨_, _, rfl, (by refine ⟨?_, ?_⟩ <;> (first | omega | (simp only [Int32.reduceToInt] at c8 c15_0 c15_1 c15_2 c15_3 m5 m12_0 m12_1 m12_2 m12_3 m12_4 m12_5 m12_6 ⊢; omega))), ?_⟩
          refine ⟨rfl, ?_⟩
          refine m_orNone (fun hm107a => ?_) (fun hm107a => ?_)
          · refine ⟨rfl, trivial, ?_⟩
            first
            | exact ⟨⟨_, rfl, rfl⟩, hI⟩
            | exact ⟨⟨_, rfl, vI_ (congrFun l1 _)⟩, hI⟩
            | exact ⟨⟨_, rfl, vI_ (congrFun l2 _)⟩, hI⟩
            | exact ⟨⟨_, rfl, vI_ (congrFun l3 _)⟩, hI⟩
            | exact ⟨⟨_, rfl, vI_ (congrFun l4 _)⟩, hI⟩
            | exact ⟨⟨_, rfl, vI_ (congrFun l5 _)⟩, hI⟩
            | exact ⟨⟨_, rfl, vI_ (gone_n (l9 a.toInt.toNat (by omega)).2.2.2.2.1 (by assumption))⟩, hI⟩
            | exact ⟨⟨_, rfl, vI_ (gone_p (l9 a.toInt.toNat (by omega)).2.2.2.2.1 (by assumption))⟩, hI⟩
            | exact ⟨⟨_, rfl, vI_ (part_n (l9 a.toInt.toNat (by omega)).2.2.2.2.2.2.1 (by assumption))⟩, hI⟩
            | exact ⟨⟨_, rfl, vI_ (part_p (l9 a.toInt.toNat (by omega)).2.2.2.2.2.2.1 (by assumption))⟩, hI⟩
            | (exfalso; (first | omega | (simp only [Int32.reduceToInt] at c8 c15_0 c15_1 c15_2 c15_3 m5 m12_0 m12_1 m12_2 m12_3 m12_4 m12_5 m12_6 hm107a ⊢; omega)))
          · refine ⟨rfl, trivial, ?_⟩
            first
            | exact ⟨⟨_, rfl, rfl⟩, hI⟩
            | exact ⟨⟨_, rfl, vI_ (congrFun l1 _)⟩, hI⟩
            | exact ⟨⟨_, rfl, vI_ (congrFun l2 _)⟩, hI⟩
            | exact ⟨⟨_, rfl, vI_ (congrFun l3 _)⟩, hI⟩
            | exact ⟨⟨_, rfl, vI_ (congrFun l4 _)⟩, hI⟩
            | exact ⟨⟨_, rfl, vI_ (congrFun l5 _)⟩, hI⟩
            | exact ⟨⟨_, rfl, vI_ (gone_n (l9 a.toInt.toNat (by omega)).2.2.2.2.1 (by assumption))⟩, hI⟩
            | exact ⟨⟨_, rfl, vI_ (gone_p (l9 a.toInt.toNat (by omega)).2.2.2.2.1 (by assumption))⟩, hI⟩
            | exact ⟨⟨_, rfl, vI_ (part_n (l9 a.toInt.toNat (by omega)).2.2.2.2.2.2.1 (by assumption))⟩, hI⟩
            | exact ⟨⟨_, rfl, vI_ (part_p (l9 a.toInt.toNat (by omega)).2.2.2.2.2.2.1 (by assumption))⟩, hI⟩
            | (exfalso; (first | omega | (simp only [Int32.reduceToInt] at c8 c15_0 c15_1 c15_2 c15_3 m5 m12_0 m12_1 m12_2 m12_3 m12_4 m12_5 m12_6 hm107a ⊢; omega)))
        refine ⟨rfl, trivial, ?_⟩
        first
        | exact ⟨⟨_, rfl, rfl⟩, hI⟩
        | exact ⟨⟨_, rfl, vI_ (congrFun l1 _)⟩, hI⟩
        | exact ⟨⟨_, rfl, vI_ (congrFun l2 _)⟩, hI⟩
        | exact ⟨⟨_, rfl, vI_ (congrFun l3 _)⟩, hI⟩
        | exact ⟨⟨_, rfl, vI_ (congrFun l4 _)⟩, hI⟩
        | exact ⟨⟨_, rfl, vI_ (congrFun l5 _)⟩, hI⟩
        | exact ⟨⟨_, rfl, vI_ (gone_n (l9 a.toInt.toNat (by omega)).2.2.2.2.1 (by assumption))⟩, hI⟩
        | exact ⟨⟨_, rfl, vI_ (gone_p (l9 a.toInt.toNat (by omega)).2.2.2.2.1 (by assumption))⟩, hI⟩
        | exact ⟨⟨_, rfl, vI_ (part_n (l9 a.toInt.toNat (by omega)).2.2.2.2.2.2.1 (by assumption))⟩, hI⟩
        | exact ⟨⟨_, rfl, vI_ (part_p (l9 a.toInt.toNat (by omega)).2.2.2.2.2.2.1 (by assumption))⟩, hI⟩
        | (exfalso; (first | omega | (simp only [Int32.reduceToInt] at c8 c15_0 c15_1 c15_2 c15_3 m5 m12_0 m12_1 m12_2 m12_3 m12_4 m12_5 m12_6 ⊢; omega)))
    refine ⟨fun c15_4 => ?_, fun c15_4 => ?_⟩
    · refine ⟨_, _, rfl, (by refine ⟨?_, ?_⟩ <;> (first | omega | (simp only [Int32.reduceToInt] at c8 c15_0 c15_1 c15_2 c15_3 c15_4 ⊢; omega))), ?_⟩
      refine ⟨rfl, trivial, ?_⟩
      refine Call_st 200 fun Y hY => ?_
      refine ⟨rfl, rfl, ?_⟩
      refine m_isLine (by omega) ?_
      refine ⟨fun m5 => ?_, fun m5 => ?_⟩
      · replace m5 := bI_z m5
        refine ⟨rfl, trivial, ?_⟩
        first
        | exact ⟨⟨_, rfl, rfl⟩, hI⟩
        | exact ⟨⟨_, rfl, vI_ (congrFun l1 _)⟩, hI⟩
        | exact ⟨⟨_, rfl, vI_ (congrFun l2 _)⟩, hI⟩
        | exact ⟨⟨_, rfl, vI_ (congrFun l3 _)⟩, hI⟩
        | exact ⟨⟨_, rfl, vI_ (congrFun l4 _)⟩, hI⟩
        | exact ⟨⟨_, rfl, vI_ (congrFun l5 _)⟩, hI⟩
        | exact ⟨⟨_, rfl, vI_ (gone_n (l9 a.toInt.toNat (by omega)).2.2.2.2.1 (by assumption))⟩, hI⟩
        | exact ⟨⟨_, rfl, vI_ (gone_p (l9 a.toInt.toNat (by omega)).2.2.2.2.1 (by assumption))⟩, hI⟩
        | exact ⟨⟨_, rfl, vI_ (part_n (l9 a.toInt.toNat (by omega)).2.2.2.2.2.2.1 (by assumption))⟩, hI⟩
        | exact ⟨⟨_, rfl, vI_ (part_p (l9 a.toInt.toNat (by omega)).2.2.2.2.2.2.1 (by assumption))⟩, hI⟩
        | (exfalso; (first | omega | (simp only [Int32.reduceToInt] at c8 c15_0 c15_1 c15_2 c15_3 c15_4 m5 ⊢; omega)))
      · replace m5 := bI_nz m5
        refine ⟨fun m12_0 => ?_, fun m12_0 => ?_⟩
        · refine ⟨_, _, rfl, (by refine ⟨?_, ?_⟩ <;> (first | omega | (simp only [Int32.reduceToInt] at c8 c15_0 c15_1 c15_2 c15_3 c15_4 m5 m12_0 ⊢; omega))), ?_⟩
          refine ⟨rfl, trivial, ?_⟩
          first
          | exact ⟨⟨_, rfl, rfl⟩, hI⟩
          | exact ⟨⟨_, rfl, vI_ (congrFun l1 _)⟩, hI⟩
          | exact ⟨⟨_, rfl, vI_ (congrFun l2 _)⟩, hI⟩
          | exact ⟨⟨_, rfl, vI_ (congrFun l3 _)⟩, hI⟩
          | exact ⟨⟨_, rfl, vI_ (congrFun l4 _)⟩, hI⟩
          | exact ⟨⟨_, rfl, vI_ (congrFun l5 _)⟩, hI⟩
          | exact ⟨⟨_, rfl, vI_ (gone_n (l9 a.toInt.toNat (by omega)).2.2.2.2.1 (by assumption))⟩, hI⟩
          | exact ⟨⟨_, rfl, vI_ (gone_p (l9 a.toInt.toNat (by omega)).2.2.2.2.1 (by assumption))⟩, hI⟩
          | exact ⟨⟨_, rfl, vI_ (part_n (l9 a.toInt.toNat (by omega)).2.2.2.2.2.2.1 (by assumption))⟩, hI⟩
          | exact ⟨⟨_, rfl, vI_ (part_p (l9 a.toInt.toNat (by omega)).2.2.2.2.2.2.1 (by assumption))⟩, hI⟩
          | (exfalso; (first | omega | (simp only [Int32.reduceToInt] at c8 c15_0 c15_1 c15_2 c15_3 c15_4 m5 m12_0 ⊢; omega)))
        refine ⟨fun m12_1 => ?_, fun m12_1 => ?_⟩
        · refine ⟨_, _, rfl, (by refine ⟨?_, ?_⟩ <;> (first | omega | (simp only [Int32.reduceToInt] at c8 c15_0 c15_1 c15_2 c15_3 c15_4 m5 m12_0 m12_1 ⊢; omega))), ?_⟩
          refine ⟨rfl, trivial, ?_⟩
          first
          | exact ⟨⟨_, rfl, rfl⟩, hI⟩
          | exact ⟨⟨_, rfl, vI_ (congrFun l1 _)⟩, hI⟩
          | exact ⟨⟨_, rfl, vI_ (congrFun l2 _)⟩, hI⟩
          | exact ⟨⟨_, rfl, vI_ (congrFun l3 _)⟩, hI⟩
          | exact ⟨⟨_, rfl, vI_ (congrFun l4 _)⟩, hI⟩
          | exact ⟨⟨_, rfl, vI_ (congrFun l5 _)⟩, hI⟩
          | exact ⟨⟨_, rfl, vI_ (gone_n (l9 a.toInt.toNat (by omega)).2.2.2.2.1 (by assumption))⟩, hI⟩
          | exact ⟨⟨_, rfl, vI_ (gone_p (l9 a.toInt.toNat (by omega)).2.2.2.2.1 (by assumption))⟩, hI⟩
          | exact ⟨⟨_, rfl, vI_ (part_n (l9 a.toInt.toNat (by omega)).2.2.2.2.2.2.1 (by assumption))⟩, hI⟩
          | exact ⟨⟨_, rfl, vI_ (part_p (l9 a.toInt.toNat (by omega)).2.2.2.2.2.2.1 (by assumption))⟩, hI⟩
          | (exfalso; (first | omega | (simp only [Int32.reduceToInt] at c8 c15_0 c15_1 c15_2 c15_3 c15_4 m5 m12_0 m12_1 ⊢; omega)))
        refine ⟨fun m12_2 => ?_, fun m12_2 => ?_⟩
        · refine ⟨_, _, rfl, (by refine ⟨?_, ?_⟩ <;> (first | omega | (simp only [Int32.reduceToInt] at c8 c15_0 c15_1 c15_2 c15_3 c15_4 m5 m12_0 m12_1 m12_2 ⊢; omega))), ?_⟩
          refine ⟨rfl, trivial, ?_⟩
          first
          | exact ⟨⟨_, rfl, rfl⟩, hI⟩
          | exact ⟨⟨_, rfl, vI_ (congrFun l1 _)⟩, hI⟩
          | exact ⟨⟨_, rfl, vI_ (congrFun l2 _)⟩, hI⟩
          | exact ⟨⟨_, rfl, vI_ (congrFun l3 _)⟩, hI⟩
          | exact ⟨⟨_, rfl, vI_ (congrFun l4 _)⟩, hI⟩
          | exact ⟨⟨_, rfl, vI_ (congrFun l5 _)⟩, hI⟩
          | exact ⟨⟨_, rfl, vI_ (gone_n (l9 a.toInt.toNat (by omega)).2.2.2.2.1 (by assumption))⟩, hI⟩
          | exact ⟨⟨_, rfl, vI_ (gone_p (l9 a.toInt.toNat (by omega)).2.2.2.2.1 (by assumption))⟩, hI⟩
          | exact ⟨⟨_, rfl, vI_ (part_n (l9 a.toInt.toNat (by omega)).2.2.2.2.2.2.1 (by assumption))⟩, hI⟩
          | exact ⟨⟨_, rfl, vI_ (part_p (l9 a.toInt.toNat (by omega)).2.2.2.2.2.2.1 (by assumption))⟩, hI⟩
          | (exfalso; (first | omega | (simp only [Int32.reduceToInt] at c8 c15_0 c15_1 c15_2 c15_3 c15_4 m5 m12_0 m12_1 m12_2 ⊢; omega)))
        refine ⟨fun m12_3 => ?_, fun m12_3 => ?_⟩
        · refine ⟨_, _, rfl, (by refine ⟨?_, ?_⟩ <;> (first | omega | (simp only [Int32.reduceToInt] at c8 c15_0 c15_1 c15_2 c15_3 c15_4 m5 m12_0 m12_1 m12_2 m12_3 ⊢; omega))), ?_⟩
          refine ⟨rfl, trivial, ?_⟩
          first
          | exact ⟨⟨_, rfl, rfl⟩, hI⟩
          | exact ⟨⟨_, rfl, vI_ (congrFun l1 _)⟩, hI⟩
          | exact ⟨⟨_, rfl, vI_ (congrFun l2 _)⟩, hI⟩
          | exact ⟨⟨_, rfl, vI_ (congrFun l3 _)⟩, hI⟩
          | exact ⟨⟨_, rfl, vI_ (congrFun l4 _)⟩, hI⟩
          | exact ⟨⟨_, rfl, vI_ (congrFun l5 _)⟩, hI⟩
          | exact ⟨⟨_, rfl, vI_ (gone_n (l9 a.toInt.toNat (by omega)).2.2.2.2.1 (by assumption))⟩, hI⟩
          | exact ⟨⟨_, rfl, vI_ (gone_p (l9 a.toInt.toNat (by omega)).2.2.2.2.1 (by assumption))⟩, hI⟩
          | exact ⟨⟨_, rfl, vI_ (part_n (l9 a.toInt.toNat (by omega)).2.2.2.2.2.2.1 (by assumption))⟩, hI⟩
          | exact ⟨⟨_, rfl, vI_ (part_p (l9 a.toInt.toNat (by omega)).2.2.2.2.2.2.1 (by assumption))⟩, hI⟩
          | (exfalso; (first | omega | (simp only [Int32.reduceToInt] at c8 c15_0 c15_1 c15_2 c15_3 c15_4 m5 m12_0 m12_1 m12_2 m12_3 ⊢; omega)))
        refine ⟨fun m12_4 => ?_, fun m12_4 => ?_⟩
        · refine ⟨_, _, rfl, (by refine ⟨?_, ?_⟩ <;> (first | omega | (simp only [Int32.reduceToInt] at c8 c15_0 c15_1 c15_2 c15_3 c15_4 m5 m12_0 m12_1 m12_2 m12_3 m12_4 ⊢; omega))), ?_⟩
          refine ⟨rfl, ?_⟩
          refine m_orNone (fun hm90a => ?_) (fun hm90a => ?_)
          · refine ⟨rfl, trivial, ?_⟩
            first
            | exact ⟨⟨_, rfl, rfl⟩, hI⟩
            | exact ⟨⟨_, rfl, vI_ (congrFun l1 _)⟩, hI⟩
            | exact ⟨⟨_, rfl, vI_ (congrFun l2 _)⟩, hI⟩
            | exact ⟨⟨_, rfl, vI_ (congrFun l3 _)⟩, hI⟩
            | exact ⟨⟨_, rfl, vI_ (congrFun l4 _)⟩, hI⟩
            | exact ⟨⟨_, rfl, vI_ (congrFun l5 _)⟩, hI⟩
            | exact ⟨⟨_, rfl, vI_ (gone_n (l9 a.toInt.toNat (by omega)).2.2.2.2.1 (by assumption))⟩, hI⟩
            | exact ⟨⟨_, rfl, vI_ (gone_p (l9 a.toInt.toNat (by omega)).2.2.2.2.1 (by assumption))⟩, hI⟩
            | exact ⟨⟨_, rfl, vI_ (part_n (l9 a.toInt.toNat (by omega)).2.2.2.2.2.2.1 (by assumption))⟩, hI⟩
            | exact ⟨⟨_, rfl, vI_ (part_p (l9 a.toInt.toNat (by omega)).2.2.2.2.2.2.1 (by assumption))⟩, hI⟩
            | (exfalso; (first | omega | (simp only [Int32.reduceToInt] at c8 c15_0 c15_1 c15_2 c15_3 c15_4 m5 m12_0 m12_1 m12_2 m12_3 m12_4 hm90a ⊢; omega)))
          · refine ⟨rfl, trivial, ?_⟩
            first
            | exact ⟨⟨_, rfl, rfl⟩, hI⟩
            | exact ⟨⟨_, rfl, vI_ (congrFun l1 _)⟩, hI⟩
            | exact ⟨⟨_, rfl, vI_ (congrFun l2 _)⟩, hI⟩
            | exact ⟨⟨_, rfl, vI_ (congrFun l3 _)⟩, hI⟩
            | exact ⟨⟨_, rfl, vI_ (congrFun l4 _)⟩, hI⟩
            | exact ⟨⟨_, rfl, vI_ (congrFun l5 _)⟩, hI⟩
            | exact ⟨⟨_, rfl, vI_ (gone_n (l9 a.toInt.toNat (by omega)).2.2.2.2.1 (by assumption))⟩, hI⟩
            | exact ⟨⟨_, rfl, vI_ (gone_p (l9 a.toInt.toNat (by omega)).2.2.2.2.1 (by assumption))⟩, hI⟩
            | exact ⟨⟨_, rfl, vI_ (part_n (l9 a.toInt.toNat (by omega)).2.2.2.2.2.2.1 (by assumption))⟩, hI⟩
            | exact ⟨⟨_, rfl, vI_ (part_p (l9 a.toInt.toNat (by omega)).2.2.2.2.2.2.1 (by assumption))⟩, hI⟩
            | (exfalso; (first | omega | (simp only [Int32.reduceToInt] at c8 c15_0 c15_1 c15_2 c15_3 c15_4 m5 m12_0 m12_1 m12_2 m12_3 m12_4 hm90a ⊢; omega)))
        refine ⟨fun m12_5 => ?_, fun m12_5 => ?_⟩
        · refine ⟨_, _, rfl, (by refine ⟨?_, ?_⟩ <;> (first | omega | (simp only [Int32.reduceToInt] at c8 c15_0 c15_1 c15_2 c15_3 c15_4 m5 m12_0 m12_1 m12_2 m12_3 m12_4 m12_5 ⊢; omega))), ?_⟩
          refine ⟨rfl, trivial, ?_⟩
          first
          | exact ⟨⟨_, rfl, rfl⟩, hI⟩
          | exact ⟨⟨_, rfl, vI_ (congrFun l1 _)⟩, hI⟩
          | exact ⟨⟨_, rfl, vI_ (congrFun l2 _)⟩, hI⟩
          | exact ⟨⟨_, rfl, vI_ (congrFun l3 _)⟩, hI⟩
          | exact ⟨⟨_, rfl, vI_ (congrFun l4 _)⟩, hI⟩
          | exact ⟨⟨_, rfl, vI_ (congrFun l5 _)⟩, hI⟩
          | exact ⟨⟨_, rfl, vI_ (gone_n (l9 a.toInt.toNat (by omega)).2.2.2.2.1 (by assumption))⟩, hI⟩
          | exact ⟨⟨_, rfl, vI_ (gone_p (l9 a.toInt.toNat (by omega)).2.2.2.2.1 (by assumption))⟩, hI⟩
          | exact ⟨⟨_, rfl, vI_ (part_n (l9 a.toInt.toNat (by omega)).2.2.2.2.2.2.1 (by assumption))⟩, hI⟩
          | exact ⟨⟨_, rfl, vI_ (part_p (l9 a.toInt.toNat (by omega)).2.2.2.2.2.2.1 (by assumption))⟩, hI⟩
          | (exfalso; (first | omega | (simp only [Int32.reduceToInt] at c8 c15_0 c15_1 c15_2 c15_3 c15_4 m5 m12_0 m12_1 m12_2 m12_3 m12_4 m12_5 ⊢; omega)))
        refine ⟨fun m12_6 => ?_, fun m12_6 => ?_⟩
        · refine ⟨_, _, rfl, (by refine ⟨?_, ?_⟩ <;> (first | omega | (simp only [Int32.reduceToInt] at c8 c15_0 c15_1 c15_2 c15_3 c15_4 m5 m12_0 m12_1 m12_2 m12_3 m12_4 m12_5 m12_6 ⊢; omega))), ?_⟩
          refine ⟨rfl, ?_⟩
          refine m_orNone (fun hm107a => ?_) (fun hm107a => ?_)
          · refine ⟨rfl, trivial, ?_⟩
            first
            | exact ⟨⟨_, rfl, rfl⟩, hI⟩
            | exact ⟨⟨_, rfl, vI_ (congrFun l1 _)⟩, hI⟩
            | exact ⟨⟨_, rfl, vI_ (congrFun l2 _)⟩, hI⟩
            | exact ⟨⟨_, rfl, vI_ (congrFun l3 _)⟩, hI⟩
            | exact ⟨⟨_, rfl, vI_ (congrFun l4 _)⟩, hI⟩
            | exact ⟨⟨_, rfl, vI_ (congrFun l5 _)⟩, hI⟩
            | exact ⟨⟨_, rfl, vI_ (gone_n (l9 a.toInt.toNat (by omega)).2.2.2.2.1 (by assumption))⟩, hI⟩
            | exact ⟨⟨_, rfl, vI_ (gone_p (l9 a.toInt.toNat (by omega)).2.2.2.2.1 (by assumption))⟩, hI⟩
            | exact ⟨⟨_, rfl, vI_ (part_n (l9 a.toInt.toNat (by omega)).2.2.2.2.2.2.1 (by assumption))⟩, hI⟩
            | exact ⟨⟨_, rfl, vI_ (part_p (l9 a.toInt.toNat (by omega)).2.2.2.2.2.2.1 (by assumption))⟩, hI⟩
            | (exfalso; (first | omega | (simp only [Int32.reduceToInt] at c8 c15_0 c15_1 c15_2 c15_3 c15_4 m5 m12_0 m12_1 m12_2 m12_3 m12_4 m12_5 m12_6 hm107a ⊢; omega)))
          · refine ⟨rfl, trivial, ?_⟩
            first
            | exact ⟨⟨_, rfl, rfl⟩, hI⟩
            | exact ⟨⟨_, rfl, vI_ (congrFun l1 _)⟩, hI⟩
            | exact ⟨⟨_, rfl, vI_ (congrFun l2 _)⟩, hI⟩
            | exact ⟨⟨_, rfl, vI_ (congrFun l3 _)⟩, hI⟩
            | exact ⟨⟨_, rfl, vI_ (congrFun l4 _)⟩, hI⟩
            | exact ⟨⟨_, rfl, vI_ (congrFun l5 _)⟩, hI⟩
            | exact ⟨⟨_, rfl, vI_ (gone_n (l9 a.toInt.toNat (by omega)).2.2.2.2.1 (by assumption))⟩, hI⟩
            | exact ⟨⟨_, rfl, vI_ (gone_p (l9 a.toInt.toNat (by omega)).2.2.2.2.1 (by assumption))⟩, hI⟩
            | exact ⟨⟨_, rfl, vI_ (part_n (l9 a.toInt.toNat (by omega)).2.2.2.2.2.2.1 (by assumption))⟩, hI⟩
            | exact ⟨⟨_, rfl, vI_ (part_p (l9 a.toInt.toNat (by omega)).2.2.2.2.2.2.1 (by assumption))⟩, hI⟩
            | (exfalso; (first | omega | (simp only [Int32.reduceToInt] at c8 c15_0 c15_1 c15_2 c15_3 c15_4 m5 m12_0 m12_1 m12_2 m12_3 m12_4 m12_5 m12_6 hm107a ⊢; omega)))
        refine ⟨rfl, trivial, ?_⟩
        first
        | exact ⟨⟨_, rfl, rfl⟩, hI⟩
        | exact ⟨⟨_, rfl, vI_ (congrFun l1 _)⟩, hI⟩
        | exact ⟨⟨_, rfl, vI_ (congrFun l2 _)⟩, hI⟩
        | exact ⟨⟨_, rfl, vI_ (congrFun l3 _)⟩, hI⟩
        | exact ⟨⟨_, rfl, vI_ (congrFun l4 _)⟩, hI⟩
        | exact ⟨⟨_, rfl, vI_ (congrFun l5 _)⟩, hI⟩
        | exact ⟨⟨_, rfl, vI_ (gone_n (l9 a.toInt.toNat (by omega)).2.2.2.2.1 (by assumption))⟩, hI⟩
        | exact ⟨⟨_, rfl, vI_ (gone_p (l9 a.toInt.toNat (by omega)).2.2.2.2.1 (by assumption))⟩, hI⟩
        | exact ⟨⟨_, rfl, vI_ (part_n (l9 a.toInt.toNat (by omega)).2.2.2.2.2.2.1 (by assumption))⟩, hI⟩
        | exact ⟨⟨_, rfl, vI_ (part_p (l9 a.toInt.toNat (by omega)).2.2.2.2.2.2.1 (by assumption))⟩, hI⟩
        | (exfalso; (first | omega | (simp only [Int32.reduceToInt] at c8 c15_0 c15_1 c15_2 c15_3 c15_4 m5 m12_0 m12_1 m12_2 m12_3 m12_4 m12_5 m12_6 ⊢; omega)))
    refine ⟨fun c15_5 => ?_, fun c15_5 => ?_⟩
    · refine ⟨_, _, rfl, (by refine ⟨?_, ?_⟩ <;> (first | omega | (simp only [Int32.reduceToInt] at c8 c15_0 c15_1 c15_2 c15_3 c15_4 c15_5 ⊢; omega))), ?_⟩
      refine ⟨rfl, trivial, ?_⟩
      refine Call_st 200 fun Y hY => ?_
      refine ⟨rfl, rfl, ?_⟩
      refine m_isLine (by omega) ?_
      refine ⟨fun m5 => ?_, fun m5 => ?_⟩
      · replace m5 := bI_z m5
        refine ⟨rfl, trivial, ?_⟩
        first
        | exact ⟨⟨_, rfl, rfl⟩, hI⟩
        | exact ⟨⟨_, rfl, vI_ (congrFun l1 _)⟩, hI⟩
        | exact ⟨⟨_, rfl, vI_ (congrFun l2 _)⟩, hI⟩
        | exact ⟨⟨_, rfl, vI_ (congrFun l3 _)⟩, hI⟩
        | exact ⟨⟨_, rfl, vI_ (congrFun l4 _)⟩, hI⟩
        | exact ⟨⟨_, rfl, vI_ (congrFun l5 _)⟩, hI⟩
        | exact ⟨⟨_, rfl, vI_ (gone_n (l9 a.toInt.toNat (by omega)).2.2.2.2.1 (by assumption))⟩, hI⟩
        | exact ⟨⟨_, rfl, vI_ (gone_p (l9 a.toInt.toNat (by omega)).2.2.2.2.1 (by assumption))⟩, hI⟩
        | exact ⟨⟨_, rfl, vI_ (part_n (l9 a.toInt.toNat (by omega)).2.2.2.2.2.2.1 (by assumption))⟩, hI⟩
        | exact ⟨⟨_, rfl, vI_ (part_p (l9 a.toInt.toNat (by omega)).2.2.2.2.2.2.1 (by assumption))⟩, hI⟩
        | (exfalso; (first | omega | (simp only [Int32.reduceToInt] at c8 c15_0 c15_1 c15_2 c15_3 c15_4 c15_5 m5 ⊢; omega)))
      · replace m5 := bI_nz m5
        refine ⟨fun m12_0 => ?_, fun m12_0 => ?_⟩
        · refine ⟨_, _, rfl, (by refine ⟨?_, ?_⟩ <;> (first | omega | (simp only [Int32.reduceToInt] at c8 c15_0 c15_1 c15_2 c15_3 c15_4 c15_5 m5 m12_0 ⊢; omega))), ?_⟩
          refine ⟨rfl, trivial, ?_⟩
          first
          | exact ⟨⟨_, rfl, rfl⟩, hI⟩
          | exact ⟨⟨_, rfl, vI_ (congrFun l1 _)⟩, hI⟩
          | exact ⟨⟨_, rfl, vI_ (congrFun l2 _)⟩, hI⟩
          | exact ⟨⟨_, rfl, vI_ (congrFun l3 _)⟩, hI⟩
          | exact ⟨⟨_, rfl, vI_ (congrFun l4 _)⟩, hI⟩
          | exact ⟨⟨_, rfl, vI_ (congrFun l5 _)⟩, hI⟩
          | exact ⟨⟨_, rfl, vI_ (gone_n (l9 a.toInt.toNat (by omega)).2.2.2.2.1 (by assumption))⟩, hI⟩
          | exact ⟨⟨_, rfl, vI_ (gone_p (l9 a.toInt.toNat (by omega)).2.2.2.2.1 (by assumption))⟩, hI⟩
          | exact ⟨⟨_, rfl, vI_ (part_n (l9 a.toInt.toNat (by omega)).2.2.2.2.2.2.1 (by assumption))⟩, hI⟩
          | exact ⟨⟨_, rfl, vI_ (part_p (l9 a.toInt.toNat (by omega)).2.2.2.2.2.2.1 (by assumption))⟩, hI⟩
          | (exfalso; (first | omega | (simp only [Int32.reduceToInt] at c8 c15_0 c15_1 c15_2 c15_3 c15_4 c15_5 m5 m12_0 ⊢; omega)))
        refine ⟨fun m12_1 => ?_, fun m12_1 => ?_⟩
        · refine ⟨_, _, rfl, (by refine ⟨?_, ?_⟩ <;> (first | omega | (simp only [Int32.reduceToInt] at c8 c15_0 c15_1 c15_2 c15_3 c15_4 c15_5 m5 m12_0 m12_1 ⊢; omega))), ?_⟩
          refine ⟨rfl, trivial, ?_⟩
          first
          | exact ⟨⟨_, rfl, rfl⟩, hI⟩
          | exact ⟨⟨_, rfl, vI_ (congrFun l1 _)⟩, hI⟩
          | exact ⟨⟨_, rfl, vI_ (congrFun l2 _)⟩, hI⟩
          | exact ⟨⟨_, rfl, vI_ (congrFun l3 _)⟩, hI⟩
          | exact ⟨⟨_, rfl, vI_ (congrFun l4 _)⟩, hI⟩
          | exact ⟨⟨_, rfl, vI_ (congrFun l5 _)⟩, hI⟩
          | exact ⟨⟨_, rfl, vI_ (gone_n (l9 a.toInt.toNat (by omega)).2.2.2.2.1 (by assumption))⟩, hI⟩
          | exact ⟨⟨_, rfl, vI_ (gone_p (l9 a.toInt.toNat (by omega)).2.2.2.2.1 (by assumption))⟩, hI⟩
          | exact ⟨⟨_, rfl, vI_ (part_n (l9 a.toInt.toNat (by omega)).2.2.2.2.2.2.1 (by assumption))⟩, hI⟩
          | exact ⟨⟨_, rfl, vI_ (part_p (l9 a.toInt.toNat (by omega)).2.2.2.2.2.2.1 (by assumption))⟩, hI⟩
          | (exfalso; (first | omega | (simp only [Int32.reduceToInt] at c8 c15_0 c15_1 c15_2 c15_3 c15_4 c15_5 m5 m12_0 m12_1 ⊢; omega)))
        refine ⟨fun m12_2 => ?_, fun m12_2 => ?_⟩
        · refine ⟨_, _, rfl, (by refine ⟨?_, ?_⟩ <;> (first | omega | (simp only [Int32.reduceToInt] at c8 c15_0 c15_1 c15_2 c15_3 c15_4 c15_5 m5 m12_0 m12_1 m12_2 ⊢; omega))), ?_⟩
          refine ⟨rfl, trivial, ?_⟩
          first
          | exact ⟨⟨_, rfl, rfl⟩, hI⟩
          | exact ⟨⟨_, rfl, vI_ (congrFun l1 _)⟩, hI⟩
          | exact ⟨⟨_, rfl, vI_ (congrFun l2 _)⟩, hI⟩
          | exact ⟨⟨_, rfl, vI_ (congrFun l3 _)⟩, hI⟩
          | exact ⟨⟨_, rfl, vI_ (congrFun l4 _)⟩, hI⟩
          | exact ⟨⟨_, rfl, vI_ (congrFun l5 _)⟩, hI⟩
          | exact ⟨⟨_, rfl, vI_ (gone_n (l9 a.toInt.toNat (by omega)).2.2.2.2.1 (by assumption))⟩, hI⟩
          | exact ⟨⟨_, rfl, vI_ (gone_p (l9 a.toInt.toNat (by omega)).2.2.2.2.1 (by assumption))⟩, hI⟩
          | exact ⟨⟨_, rfl, vI_ (part_n (l9 a.toInt.toNat (by omega)).2.2.2.2.2.2.1 (by assumption))⟩, hI⟩
          | exact ⟨⟨_, rfl, vI_ (part_p (l9 a.toInt.toNat (by omega)).2.2.2.2.2.2.1 (by assumption))⟩, hI⟩
          | (exfalso; (first | omega | (simp only [Int32.reduceToInt] at c8 c15_0 c15_1 c15_2 c15_3 c15_4 c15_5 m5 m12_0 m12_1 m12_2 ⊢; omega)))
        refine ⟨fun m12_3 => ?_, fun m12_3 => ?_⟩
        · refine ⟨_, _, rfl, (by refine ⟨?_, ?_⟩ <;> (first | omega | (simp only [Int32.reduceToInt] at c8 c15_0 c15_1 c15_2 c15_3 c15_4 c15_5 m5 m12_0 m12_1 m12_2 m12_3 ⊢; omega))), ?_⟩
          refine ⟨rfl, trivial, ?_⟩
          first
          | exact ⟨⟨_, rfl, rfl⟩, hI⟩
          | exact ⟨⟨_, rfl, vI_ (congrFun l1 _)⟩, hI⟩
          | exact ⟨⟨_, rfl, vI_ (congrFun l2 _)⟩, hI⟩
          | exact ⟨⟨_, rfl, vI_ (congrFun l3 _)⟩, hI⟩
          | exact ⟨⟨_, rfl, vI_ (congrFun l4 _)⟩, hI⟩
          | exact ⟨⟨_, rfl, vI_ (congrFun l5 _)⟩, hI⟩
          | exact ⟨⟨_, rfl, vI_ (gone_n (l9 a.toInt.toNat (by omega)).2.2.2.2.1 (by assumption))⟩, hI⟩
          | exact ⟨⟨_, rfl, vI_ (gone_p (l9 a.toInt.toNat (by omega)).2.2.2.2.1 (by assumption))⟩, hI⟩
          | exact ⟨⟨_, rfl, vI_ (part_n (l9 a.toInt.toNat (by omega)).2.2.2.2.2.2.1 (by assumption))⟩, hI⟩
          | exact ⟨⟨_, rfl, vI_ (part_p (l9 a.toInt.toNat (by omega)).2.2.2.2.2.2.1 (by assumption))⟩, hI⟩
          | (exfalso; (first | omega | (simp only [Int32.reduceToInt] at c8 c15_0 c15_1 c15_2 c15_3 c15_4 c15_5 m5 m12_0 m12_1 m12_2 m12_3 ⊢; omega)))
        refine ⟨fun m12_4 => ?_, fun m12_4 => ?_⟩
        · refine ⟨_, _, rfl, (by refine ⟨?_, ?_⟩ <;> (first | omega | (simp only [Int32.reduceToInt] at c8 c15_0 c15_1 c15_2 c15_3 c15_4 c15_5 m5 m12_0 m12_1 m12_2 m12_3 m12_4 ⊢; omega))), ?_⟩
          refine ⟨rfl, ?_⟩
          refine m_orNone (fun hm90a => ?_) (fun hm90a => ?_)
          · refine ⟨rfl, trivial, ?_⟩
            first
            | exact ⟨⟨_, rfl, rfl⟩, hI⟩
            | exact ⟨⟨_, rfl, vI_ (congrFun l1 _)⟩, hI⟩
            | exact ⟨⟨_, rfl, vI_ (congrFun l2 _)⟩, hI⟩
            | exact ⟨⟨_, rfl, vI_ (congrFun l3 _)⟩, hI⟩
            | exact ⟨⟨_, rfl, vI_ (congrFun l4 _)⟩, hI⟩
            | exact ⟨⟨_, rfl, vI_ (congrFun l5 _)⟩, hI⟩
            | exact ⟨⟨_, rfl, vI_ (gone_n (l9 a.toInt.toNat (by omega)).2.2.2.2.1 (by assumption))⟩, hI⟩
            | exact ⟨⟨_, rfl, vI_ (gone_p (l9 a.toInt.toNat (by omega)).2.2.2.2.1 (by assumption))⟩, hI⟩
            | exact ⟨⟨_, rfl, vI_ (part_n (l9 a.toInt.toNat (by omega)).2.2.2.2.2.2.1 (by assumption))⟩, hI⟩
            | exact ⟨⟨_, rfl, vI_ (part_p (l9 a.toInt.toNat (by omega)).2.2.2.2.2.2.1 (by assumption))⟩, hI⟩
            | (exfalso; (first | omega | (simp only [Int32.reduceToInt] at c8 c15_0 c15_1 c15_2 c15_3 c15_4 c15_5 m5 m12_0 m12_1 m12_2 m12_3 m12_4 hm90a ⊢; omega)))
          · refine ⟨rfl, trivial, ?_⟩
            first
            | exact ⟨⟨_, rfl, rfl⟩, hI⟩
            | exact ⟨⟨_, rfl, vI_ (congrFun l1 _)⟩, hI⟩
            | exact ⟨⟨_, rfl, vI_ (congrFun l2 _)⟩, hI⟩
            | exact ⟨⟨_, rfl, vI_ (congrFun l3 _)⟩, hI⟩
            | exact ⟨⟨_, rfl, vI_ (congrFun l4 _)⟩, hI⟩
            | exact ⟨⟨_, rfl, vI_ (congrFun l5 _)⟩, hI⟩
            | exact ⟨⟨_, rfl, vI_ (gone_n (l9 a.toInt.toNat (by omega)).2.2.2.2.1 (by assumption))⟩, hI⟩
            | exact ⟨⟨_, rfl, vI_ (gone_p (l9 a.toInt.toNat (by omega)).2.2.2.2.1 (by assumption))⟩, hI⟩
            | exact ⟨⟨_, rfl, vI_ (part_n (l9 a.toInt.toNat (by omega)).2.2.2.2.2.2.1 (by assumption))⟩, hI⟩
            | exact ⟨⟨_, rfl, vI_ (part_p (l9 a.toInt.toNat (by omega)).2.2.2.2.2.2.1 (by assumption))⟩, hI⟩
            | (exfalso; (first | omega | (simp only [Int32.reduceToInt] at c8 c15_0 c15_1 c15_2 c15_3 c15_4 c15_5 m5 m12_0 m12_1 m12_2 m12_3 m12_4 hm90a ⊢; omega)))
        refine ⟨fun m12_5 => ?_, fun m12_5 => ?_⟩
        · refine ⟨_, _, rfl, (by refine ⟨?_, ?_⟩ <;> (first | omega | (simp only [Int32.reduceToInt] at c8 c15_0 c15_1 c15_2 c15_3 c15_4 c15_5 m5 m12_0 m12_1 m12_2 m12_3 m12_4 m12_5 ⊢; omega))), ?_⟩
          refine ⟨rfl, trivial, ?_⟩
          first
          | exact ⟨⟨_, rfl, rfl⟩, hI⟩
          | exact ⟨⟨_, rfl, vI_ (congrFun l1 _)⟩, hI⟩
          | exact ⟨⟨_, rfl, vI_ (congrFun l2 _)⟩, hI⟩
          | exact ⟨⟨_, rfl, vI_ (congrFun l3 _)⟩, hI⟩
          | exact ⟨⟨_, rfl, vI_ (congrFun l4 _)⟩, hI⟩
          | exact ⟨⟨_, rfl, vI_ (congrFun l5 _)⟩, hI⟩
          | exact ⟨⟨_, rfl, vI_ (gone_n (l9 a.toInt.toNat (by omega)).2.2.2.2.1 (by assumption))⟩, hI⟩
          | exact ⟨⟨_, rfl, vI_ (gone_p (l9 a.toInt.toNat (by omega)).2.2.2.2.1 (by assumption))⟩, hI⟩
          | exact ⟨⟨_, rfl, vI_ (part_n (l9 a.toInt.toNat (by omega)).2.2.2.2.2.2.1 (by assumption))⟩, hI⟩
          | exact ⟨⟨_, rfl, vI_ (part_p (l9 a.toInt.toNat (by omega)).2.2.2.2.2.2.1 (by assumption))⟩, hI⟩
          | (exfalso; (first | omega | (simp only [Int32.reduceToInt] at c8 c15_0 c15_1 c15_2 c15_3 c15_4 c15_5 m5 m12_0 m12_1 m12_2 m12_3 m12_4 m12_5 ⊢; omega)))
        refine ⟨fun m12_6 => ?_, fun m12_6 => ?_⟩
        · refine ⟨_, _, rfl, (by refine ⟨?_, ?_⟩ <;> (first | omega | (simp only [Int32.reduceToInt] at c8 c15_0 c15_1 c15_2 c15_3 c15_4 c15_5 m5 m12_0 m12_1 m12_2 m12_3 m12_4 m12_5 m12_6 ⊢; omega))), ?_⟩
          refine ⟨rfl, ?_⟩
          refine m_orNone (fun hm107a => ?_) (fun hm107a => ?_)
          · refine ⟨rfl, trivial, ?_⟩
            first
            | exact ⟨⟨_, rfl, rfl⟩, hI⟩
            | exact ⟨⟨_, rfl, vI_ (congrFun l1 _)⟩, hI⟩
            | exact ⟨⟨_, rfl, vI_ (congrFun l2 _)⟩, hI⟩
            | exact ⟨⟨_, rfl, vI_ (congrFun l3 _)⟩, hI⟩
            | exact ⟨⟨_, rfl, vI_ (congrFun l4 _)⟩, hI⟩
            | exact ⟨⟨_, rfl, vI_ (congrFun l5 _)⟩, hI⟩
            | exact ⟨⟨_, rfl, vI_ (gone_n (l9 a.toInt.toNat (by omega)).2.2.2.2.1 (by assumption))⟩, hI⟩
            | exact ⟨⟨_, rfl, vI_ (gone_p (l9 a.toInt.toNat (by omega)).2.2.2.2.1 (by assumption))⟩, hI⟩
            | exact ⟨⟨_, rfl, vI_ (part_n (l9 a.toInt.toNat (by omega)).2.2.2.2.2.2.1 (by assumption))⟩, hI⟩
            | exact ⟨⟨_, rfl, vI_ (part_p (l9 a.toInt.toNat (by omega)).2.2.2.2.2.2.1 (by assumption))⟩, hI⟩
            | (exfalso; (first | omega | (simp only [Int32.reduceToInt] at c8 c15_0 c15_1 c15_2 c15_3 c15_4 c15_5 m5 m12_0 m12_1 m12_2 m12_3 m12_4 m12_5 m12_6 hm107a ⊢; omega)))
          · refine ⟨rfl, trivial, ?_⟩
            first
            | exact ⟨⟨_, rfl, rfl⟩, hI⟩
            | exact ⟨⟨_, rfl, vI_ (congrFun l1 _)⟩, hI⟩
            | exact ⟨⟨_, rfl, vI_ (congrFun l2 _)⟩, hI⟩
            | exact ⟨⟨_, rfl, vI_ (congrFun l3 _)⟩, hI⟩
            | exact ⟨⟨_, rfl, vI_ (congrFun l4 _)⟩, hI⟩
            | exact ⟨⟨_, rfl, vI_ (congrFun l5 _)⟩, hI⟩
            | exact ⟨⟨_, rfl, vI_ (gone_n (l9 a.toInt.toNat (by omega)).2.2.2.2.1 (by assumption))⟩, hI⟩
            | exact ⟨⟨_, rfl, vI_ (gone_p (l9 a.toInt.toNat (by omega)).2.2.2.2.1 (by assumption))⟩, hI⟩
            | exact ⟨⟨_, rfl, vI_ (part_n (l9 a.toInt.toNat (by omega)).2.2.2.2.2.2.1 (by assumption))⟩, hI⟩
            | exact ⟨⟨_, rfl, vI_ (part_p (l9 a.toInt.toNat (by omega)).2.2.2.2.2.2.1 (by assumption))⟩, hI⟩
            | (exfalso; (first | omega | (simp only [Int32.reduceToInt] at c8 c15_0 c15_1 c15_2 c15_3 c15_4 c15_5 m5 m12_0 m12_1 m12_2 m12_3 m12_4 m12_5 m12_6 hm107a ⊢; omega)))
        refine ⟨rfl, trivial, ?_⟩
        first
        | exact ⟨⟨_, rfl, rfl⟩, hI⟩
        | exact ⟨⟨_, rfl, vI_ (congrFun l1 _)⟩, hI⟩
        | exact ⟨⟨_, rfl, vI_ (congrFun l2 _)⟩, hI⟩
        | exact ⟨⟨_, rfl, vI_ (congrFun l3 _)⟩, hI⟩
        | exact ⟨⟨_, rfl, vI_ (congrFun l4 _)⟩, hI⟩
        | exact ⟨⟨_, rfl, vI_ (congrFun l5 _)⟩, hI⟩
        | exact ⟨⟨_, rfl, vI_ (gone_n (l9 a.toInt.toNat (by omega)).2.2.2.2.1 (by assumption))⟩, hI⟩
        | exact ⟨⟨_, rfl, vI_ (gone_p (l9 a.toInt.toNat (by omega)).2.2.2.2.1 (by assumption))⟩, hI⟩
        | exact ⟨⟨_, rfl, vI_ (part_n (l9 a.toInt.toNat (by omega)).2.2.2.2.2.2.1 (by assumption))⟩, hI⟩
        | exact ⟨⟨_, rfl, vI_ (part_p (l9 a.toInt.toNat (by omega)).2.2.2.2.2.2.1 (by assumption))⟩, hI⟩
        | (exfalso; (first | omega | (simp only [Int32.reduceToInt] at c8 c15_0 c15_1 c15_2 c15_3 c15_4 c15_5 m5 m12_0 m12_1 m12_2 m12_3 m12_4 m12_5 m12_6 ⊢; omega)))
    refine ⟨fun c15_6 => ?_, fun c15_6 => ?_⟩
    · refine ⟨_, _, rfl, (by refine ⟨?_, ?_⟩ <;> (first | omega | (simp only [Int32.reduceToInt] at c8 c15_0 c15_1 c15_2 c15_3 c15_4 c15_5 c15_6 ⊢; omega))), ?_⟩
      refine ⟨rfl, trivial, ?_⟩
      refine Call_st 200 fun Y hY => ?_
      refine ⟨rfl, rfl, ?_⟩
      refine m_isLine (by omega) ?_
      refine ⟨fun m5 => ?_, fun m5 => ?_⟩
      · replace m5 := bI_z m5
        refine ⟨rfl, trivial, ?_⟩
        first
        | exact ⟨⟨_, rfl, rfl⟩, hI⟩
        | exact ⟨⟨_, rfl, vI_ (congrFun l1 _)⟩, hI⟩
        | exact ⟨⟨_, rfl, vI_ (congrFun l2 _)⟩, hI⟩
        | exact ⟨⟨_, rfl, vI_ (congrFun l3 _)⟩, hI⟩
        | exact ⟨⟨_, rfl, vI_ (congrFun l4 _)⟩, hI⟩
        | exact ⟨⟨_, rfl, vI_ (congrFun l5 _)⟩, hI⟩
        | exact ⟨⟨_, rfl, vI_ (gone_n (l9 a.toInt.toNat (by omega)).2.2.2.2.1 (by assumption))⟩, hI⟩
        | exact ⟨⟨_, rfl, vI_ (gone_p (l9 a.toInt.toNat (by omega)).2.2.2.2.1 (by assumption))⟩, hI⟩
        | exact ⟨⟨_, rfl, vI_ (part_n (l9 a.toInt.toNat (by omega)).2.2.2.2.2.2.1 (by assumption))⟩, hI⟩
        | exact ⟨⟨_, rfl, vI_ (part_p (l9 a.toInt.toNat (by omega)).2.2.2.2.2.2.1 (by assumption))⟩, hI⟩
        | (exfalso; (first | omega | (simp only [Int32.reduceToInt] at c8 c15_0 c15_1 c15_2 c15_3 c15_4 c15_5 c15_6 m5 ⊢; omega)))
      · replace m5 := bI_nz m5
        refine ⟨fun m12_0 => ?_, fun m12_0 => ?_⟩
        · refine ⟨_, _, rfl, (by refine ⟨?_, ?_⟩ <;> (first | omega | (simp only [Int32.reduceToInt] at c8 c15_0 c15_1 c15_2 c15_3 c15_4 c15_5 c15_6 m5 m12_0 ⊢; omega))), ?_⟩
          refine ⟨rfl, trivial, ?_⟩
          first
          | exact ⟨⟨_, rfl, rfl⟩, hI⟩
          | exact ⟨⟨_, rfl, vI_ (congrFun l1 _)⟩, hI⟩
          | exact ⟨⟨_, rfl, vI_ (congrFun l2 _)⟩, hI⟩
          | exact ⟨⟨_, rfl, vI_ (congrFun l3 _)⟩, hI⟩
          | exact ⟨⟨_, rfl, vI_ (congrFun l4 _)⟩, hI⟩
          | exact ⟨⟨_, rfl, vI_ (congrFun l5 _)⟩, hI⟩
          | exact ⟨⟨_, rfl, vI_ (gone_n (l9 a.toInt.toNat (by omega)).2.2.2.2.1 (by assumption))⟩, hI⟩
          | exact ⟨⟨_, rfl, vI_ (gone_p (l9 a.toInt.toNat (by omega)).2.2.2.2.1 (by assumption))⟩, hI⟩
          | exact ⟨⟨_, rfl, vI_ (part_n (l9 a.toInt.toNat (by omega)).2.2.2.2.2.2.1 (by assumption))⟩, hI⟩
          | exact ⟨⟨_, rfl, vI_ (part_p (l9 a.toInt.toNat (by omega)).2.2.2.2.2.2.1 (by assumption))⟩, hI⟩
          | (exfalso; (first | omega | (simp only [Int32.reduceToInt] at c8 c15_0 c15_1 c15_2 c15_3 c15_4 c15_5 c15_6 m5 m12_0 ⊢; omega)))
        refine ⟨fun m12_1 => ?_, fun m12_1 => ?_⟩
        · refine ⟨_, _, rfl, (by refine ⟨?_, ?_⟩ <;> (first | omega | (simp only [Int32.reduceToInt] at c8 c15_0 c15_1 c15_2 c15_3 c15_4 c15_5 c15_6 m5 m12_0 m12_1 ⊢; omega))), ?_⟩
          refine ⟨rfl, trivial, ?_⟩
          first
          | exact ⟨⟨_, rfl, rfl⟩, hI⟩
          | exact ⟨⟨_, rfl, vI_ (congrFun l1 _)⟩, hI⟩
          | exact ⟨⟨_, rfl, vI_ (congrFun l2 _)⟩, hI⟩
          | exact ⟨⟨_, rfl, vI_ (congrFun l3 _)⟩, hI⟩
          | exact ⟨⟨_, rfl, vI_ (congrFun l4 _)⟩, hI⟩
          | exact ⟨⟨_, rfl, vI_ (congrFun l5 _)⟩, hI⟩
          | exact ⟨⟨_, rfl, vI_ (gone_n (l9 a.toInt.toNat (by omega)).2.2.2.2.1 (by assumption))⟩, hI⟩
          | exact ⟨⟨_, rfl, vI_ (gone_p (l9 a.toInt.toNat (by omega)).2.2.2.2.1 (by assumption))⟩, hI⟩
          | exact ⟨⟨_, rfl, vI_ (part_n (l9 a.toInt.toNat (by omega)).2.2.2.2.2.2.1 (by assumption))⟩, hI⟩
          | exact ⟨⟨_, rfl, vI_ (part_p (l9 a.toInt.toNat (by omega)).2.2.2.2.2.2.1 (by assumption))⟩, hI⟩
          | (exfalso; (first | omega | (simp only [Int32.reduceToInt] at c8 c15_0 c15_1 c15_2 c15_3 c15_4 c15_5 c15_6 m5 m12_0 m12_1 ⊢; omega)))
        refine ⟨fun m12_2 => ?_, fun m12_2 => ?_⟩
        · refine ⟨_, _, rfl, (by refine ⟨?_, ?_⟩ <;> (first | omega | (simp only [Int32.reduceToInt] at c8 c15_0 c15_1 c15_2 c15_3 c15_4 c15_5 c15_6 m5 m12_0 m12_1 m12_2 ⊢; omega))), ?_⟩
          refine ⟨rfl, trivial, ?_⟩
          first
          | exact ⟨⟨_, rfl, rfl⟩, hI⟩
          | exact ⟨⟨_, rfl, vI_ (congrFun l1 _)⟩, hI⟩
          | exact ⟨⟨_, rfl, vI_ (congrFun l2 _)⟩, hI⟩
          | exact ⟨⟨_, rfl, vI_ (congrFun l3 _)⟩, hI⟩
          | exact ⟨⟨_, rfl, vI_ (congrFun l4 _)⟩, hI⟩
          | exact ⟨⟨_, rfl, vI_ (congrFun l5 _)⟩, hI⟩
          | exact ⟨⟨_, rfl, vI_ (gone_n (l9 a.toInt.toNat (by omega)).2.2.2.2.1 (by assumption))⟩, hI⟩
          | exact ⟨⟨_, rfl, vI_ (gone_p (l9 a.toInt.toNat (by omega)).2.2.2.2.1 (by assumption))⟩, hI⟩
          | exact ⟨⟨_, rfl, vI_ (part_n (l9 a.toInt.toNat (by omega)).2.2.2.2.2.2.1 (by assumption))⟩, hI⟩
          | exact ⟨⟨_, rfl, vI_ (part_p (l9 a.toInt.toNat (by omega)).2.2.2.2.2.2.1 (by assumption))⟩, hI⟩
          | (exfalso; (first | omega | (simp only [Int32.reduceToInt] at c8 c15_0 c15_1 c15_2 c15_3 c15_4 c15_5 c15_6 m5 m12_0 m12_1 m12_2 ⊢; omega)))
        refine ⟨fun m12_3 => ?_, fun m12_3 => ?_⟩
        · refine ⟨_, _, rfl, (by refine ⟨?_, ?_⟩ <;> (first | omega | (simp only [Int32.reduceToInt] at c8 c15_0 c15_1 c15_2 c15_3 c15_4 c15_5 c15_6 m5 m12_0 m12_1 m12_2 m12_3 ⊢; omega))), ?_⟩
          refine ⟨rfl, trivial, ?_⟩
          first
          | exact ⟨⟨_, rfl, rfl⟩, hI⟩
          | exact ⟨⟨_, rfl, vI_ (congrFun l1 _)⟩, hI⟩
          | exact ⟨⟨_, rfl, vI_ (congrFun l2 _)⟩, hI⟩
          | exact ⟨⟨_, rfl, vI_ (congrFun l3 _)⟩, hI⟩
          | exact ⟨⟨_, rfl, vI_ (congrFun l4 _)⟩, hI⟩
          | exact ⟨⟨_, rfl, vI_ (congrFun l5 _)⟩, hI⟩
          | exact ⟨⟨_, rfl, vI_ (gone_n (l9 a.toInt.toNat (by omega)).2.2.2.2.1 (by assumption))⟩, hI⟩
          | exact ⟨⟨_, rfl, vI_ (gone_p (l9 a.toInt.toNat (by omega)).2.2.2.2.1 (by assumption))⟩, hI⟩
          | exact ⟨⟨_, rfl, vI_ (part_n (l9 a.toInt.toNat (by omega)).2.2.2.2.2.2.1 (by assumption))⟩, hI⟩
          | exact ⟨⟨_, rfl, vI_ (part_p (l9 a.toInt.toNat (by omega)).2.2.2.2.2.2.1 (by assumption))⟩, hI⟩
          | (exfalso; (first | omega | (simp only [Int32.reduceToInt] at c8 c15_0 c15_1 c15_2 c15_3 c15_4 c15_5 c15_6 m5 m12_0 m12_1 m12_2 m12_3 ⊢; omega)))
        refine ⟨fun m12_4 => ?_, fun m12_4 => ?_⟩
        · refine ⟨_, _, rfl, (by refine ⟨?_, ?_⟩ <;> (first | omega | (simp only [Int32.reduceToInt] at c8 c15_0 c15_1 c15_2 c15_3 c15_4 c15_5 c15_6 m5 m12_0 m12_1 m12_2 m12_3 m12_4 ⊢; omega))), ?_⟩
          refine ⟨rfl, ?_⟩
          refine m_orNone (fun hm90a => ?_) (fun hm90a => ?_)
          · refine ⟨rfl, trivial, ?_⟩
            first
            | exact ⟨⟨_, rfl, rfl⟩, hI⟩
            | exact ⟨⟨_, rfl, vI_ (congrFun l1 _)⟩, hI⟩
            | exact ⟨⟨_, rfl, vI_ (congrFun l2 _)⟩, hI⟩
            | exact ⟨⟨_, rfl, vI_ (congrFun l3 _)⟩, hI⟩
            | exact ⟨⟨_, rfl, vI_ (congrFun l4 _)⟩, hI⟩
            | exact ⟨⟨_, rfl, vI_ (congrFun l5 _)⟩, hI⟩
            | exact ⟨⟨_, rfl, vI_ (gone_n (l9 a.toInt.toNat (by omega)).2.2.2.2.1 (by assumption))⟩, hI⟩
            | exact ⟨⟨_, rfl, vI_ (gone_p (l9 a.toInt.toNat (by omega)).2.2.2.2.1 (by assumption))⟩, hI⟩
            | exact ⟨⟨_, rfl, vI_ (part_n (l9 a.toInt.toNat (by omega)).2.2.2.2.2.2.1 (by assumption))⟩, hI⟩
            | exact ⟨⟨_, rfl, vI_ (part_p (l9 a.toInt.toNat (by omega)).2.2.2.2.2.2.1 (by assumption))⟩, hI⟩
            | (exfalso; (first | omega | (simp only [Int32.reduceToInt] at c8 c15_0 c15_1 c15_2 c15_3 c15_4 c15_5 c15_6 m5 m12_0 m12_1 m12_2 m12_3 m12_4 hm90a ⊢; omega)))
          · refine ⟨rfl, trivial, ?_⟩
            first
            | exact ⟨⟨_, rfl, rfl⟩, hI⟩
            | exact ⟨⟨_, rfl, vI_ (congrFun l1 _)⟩, hI⟩
            | exact ⟨⟨_, rfl, vI_ (congrFun l2 _)⟩, hI⟩
            | exact ⟨⟨_, rfl, vI_ (congrFun l3 _)⟩, hI⟩
            | exact ⟨⟨_, rfl, vI_ (congrFun l4 _)⟩, hI⟩
            | exact ⟨⟨_, rfl, vI_ (congrFun l5 _)⟩, hI⟩
            | exact ⟨⟨_, rfl, vI_ (gone_n (l9 a.toInt.toNat (by omega)).2.2.2.2.1 (by assumption))⟩, hI⟩
            | exact ⟨⟨_, rfl, vI_ (gone_p (l9 a.toInt.toNat (by omega)).2.2.2.2.1 (by assumption))⟩, hI⟩
            | exact ⟨⟨_, rfl, vI_ (part_n (l9 a.toInt.toNat (by omega)).2.2.2.2.2.2.1 (by assumption))⟩, hI⟩
            | exact ⟨⟨_, rfl, vI_ (part_p (l9 a.toInt.toNat (by omega)).2.2.2.2.2.2.1 (by assumption))⟩, hI⟩
            | (exfalso; (first | omega | (simp only [Int32.reduceToInt] at c8 c15_0 c15_1 c15_2 c15_3 c15_4 c15_5 c15_6 m5 m12_0 m12_1 m12_2 m12_3 m12_4 hm90a ⊢; omega)))
        refine ⟨fun m12_5 => ?_, fun m12_5 => ?_⟩
        · refine ⟨_, _, rfl, (by refine ⟨?_, ?_⟩ <;> (first | omega | (simp only [Int32.reduceToInt] at c8 c15_0 c15_1 c15_2 c15_3 c15_4 c15_5 c15_6 m5 m12_0 m12_1 m12_2 m12_3 m12_4 m12_5 ⊢; omega))), ?_⟩
          refine ⟨rfl, trivial, ?_⟩
          first
          | exact ⟨⟨_, rfl, rfl⟩, hI⟩
          | exact ⟨⟨_, rfl, vI_ (congrFun l1 _)⟩, hI⟩
          | exact ⟨⟨_, rfl, vI_ (congrFun l2 _)⟩, hI⟩
          | exact ⟨⟨_, rfl, vI_ (congrFun l3 _)⟩, hI⟩
          | exact ⟨⟨_, rfl, vI_ (congrFun l4 _)⟩, hI⟩
          | exact ⟨⟨_, rfl, vI_ (congrFun l5 _)⟩, hI⟩
          | exact ⟨⟨_, rfl, vI_ (gone_n (l9 a.toInt.toNat (by omega)).2.2.2.2.1 (by assumption))⟩, hI⟩
          | exact ⟨⟨_, rfl, vI_ (gone_p (l9 a.toInt.toNat (by omega)).2.2.2.2.1 (by assumption))⟩, hI⟩
          | exact ⟨⟨_, rfl, vI_ (part_n (l9 a.toInt.toNat (by omega)).2.2.2.2.2.2.1 (by assumption))⟩, hI⟩
          | exact ⟨⟨_, rfl, vI_ (part_p (l9 a.toInt.toNat (by omega)).2.2.2.2.2.2.1 (by assumption))⟩, hI⟩
          | (exfalso; (first | omega | (simp only [Int32.reduceToInt] at c8 c15_0 c15_1 c15_2 c15_3 c15_4 c15_5 c15_6 m5 m12_0 m12_1 m12_2 m12_3 m12_4 m12_5 ⊢; omega)))
        refine ⟨fun m12_6 => ?_, fun m12_6 => ?_⟩
        · refine ⟨_, _, rfl, (by refine ⟨?_, ?_⟩ <;> (first | omega | (simp only [Int32.reduceToInt] at c8 c15_0 c15_1 c15_2 c15_3 c15_4 c15_5 c15_6 m5 m12_0 m12_1 m12_2 m12_3 m12_4 m12_5 m12_6 ⊢; omega))), ?_⟩
          refine ⟨rfl, ?_⟩
          refine m_orNone (fun hm107a => ?_) (fun hm107a => ?_)
          · refine ⟨rfl, trivial, ?_⟩
            first
            | exact ⟨⟨_, rfl, rfl⟩, hI⟩
            | exact ⟨⟨_, rfl, vI_ (congrFun l1 _)⟩, hI⟩
            | exact ⟨⟨_, rfl, vI_ (congrFun l2 _)⟩, hI⟩
            | exact ⟨⟨_, rfl, vI_ (congrFun l3 _)⟩, hI⟩
            | exact ⟨⟨_, rfl, vI_ (congrFun l4 _)⟩, hI⟩
            | exact ⟨⟨_, rfl, vI_ (congrFun l5 _)⟩, hI⟩
            | exact ⟨⟨_, rfl, vI_ (gone_n (l9 a.toInt.toNat (by omega)).2.2.2.2.1 (by assumption))⟩, hI⟩
            | exact ⟨⟨_, rfl, vI_ (gone_p (l9 a.toInt.toNat (by omega)).2.2.2.2.1 (by assumption))⟩, hI⟩
            | exact ⟨⟨_, rfl, vI_ (part_n (l9 a.toInt.toNat (by omega)).2.2.2.2.2.2.1 (by assumption))⟩, hI⟩
            | exact ⟨⟨_, rfl, vI_ (part_p (l9 a.toInt.toNat (by omega)).2.2.2.2.2.2.1 (by assumption))⟩, hI⟩
            | (exfalso; (first | omega | (simp only [Int32.reduceToInt] at c8 c15_0 c15_1 c15_2 c15_3 c15_4 c15_5 c15_6 m5 m12_0 m12_1 m12_2 m12_3 m12_4 m12_5 m12_6 hm107a ⊢; omega)))
          · refine ⟨rfl, trivial, ?_⟩
            first
            | exact ⟨⟨_, rfl, rfl⟩, hI⟩
            | exact ⟨⟨_, rfl, vI_ (congrFun l1 _)⟩, hI⟩
            | exact ⟨⟨_, rfl, vI_ (congrFun l2 _)⟩, hI⟩
            | exact ⟨⟨_, rfl, vI_ (congrFun l3 _)⟩, hI⟩
            | exact ⟨⟨_, rfl, vI_ (congrFun l4 _)⟩, hI⟩
            | exact ⟨⟨_, rfl, vI_ (congrFun l5 _)⟩, hI⟩
            | exact ⟨⟨_, rfl, vI_ (gone_n (l9 a.toInt.toNat (by omega)).2.2.2.2.1 (by assumption))⟩, hI⟩
            | exact ⟨⟨_, rfl, vI_ (gone_p (l9 a.toInt.toNat (by omega)).2.2.2.2.1 (by assumption))⟩, hI⟩
            | exact ⟨⟨_, rfl, vI_ (part_n (l9 a.toInt.toNat (by omega)).2.2.2.2.2.2.1 (by assumption))⟩, hI⟩
            | exact ⟨⟨_, rfl, vI_ (part_p (l9 a.toInt.toNat (by omega)).2.2.2.2.2.2.1 (by assumption))⟩, hI⟩
            | (exfalso; (first | omega | (simp only [Int32.reduceToInt] at c8 c15_0 c15_1 c15_2 c15_3 c15_4 c15_5 c15_6 m5 m12_0 m12_1 m12_2 m12_3 m12_4 m12_5 m12_6 hm107a ⊢; omega)))
        refine ⟨rfl, trivial, ?_⟩
        first
        | exact ⟨⟨_, rfl, rfl⟩, hI⟩
        | exact ⟨⟨_, rfl, vI_ (congrFun l1 _)⟩, hI⟩
        | exact ⟨⟨_, rfl, vI_ (congrFun l2 _)⟩, hI⟩
        | exact ⟨⟨_, rfl, vI_ (congrFun l3 _)⟩, hI⟩
        | exact ⟨⟨_, rfl, vI_ (congrFun l4 _)⟩, hI⟩
        | exact ⟨⟨_, rfl, vI_ (congrFun l5 _)⟩, hI⟩
        | exact ⟨⟨_, rfl, vI_ (gone_n (l9 a.toInt.toNat (by omega)).2.2.2.2.1 (by assumption))⟩, hI⟩
        | exact ⟨⟨_, rfl, vI_ (gone_p (l9 a.toInt.toNat (by omega)).2.2.2.2.1 (by assumption))⟩, hI⟩
        | exact ⟨⟨_, rfl, vI_ (part_n (l9 a.toInt.toNat (by omega)).2.2.2.2.2.2.1 (by assumption))⟩, hI⟩
        | exact ⟨⟨_, rfl, vI_ (part_p (l9 a.toInt.toNat (by omega)).2.2.2.2.2.2.1 (by assumption))⟩, hI⟩
        | (exfalso; (first | omega | (simp only [Int32.reduceToInt] at c8 c15_0 c15_1 c15_2 c15_3 c15_4 c15_5 c15_6 m5 m12_0 m12_1 m12_2 m12_3 m12_4 m12_5 m12_6 ⊢; omega)))
    refine ⟨rfl, trivial, ?_⟩
    refine Call_st 200 fun Y hY => ?_
    refine ⟨rfl, rfl, ?_⟩
    refine m_isLine (by omega) ?_
    refine ⟨fun m5 => ?_, fun m5 => ?_⟩
    · replace m5 := bI_z m5
      refine ⟨rfl, trivial, ?_⟩
      first
      | exact ⟨⟨_, rfl, rfl⟩, hI⟩
      | exact ⟨⟨_, rfl, vI_ (congrFun l1 _)⟩, hI⟩
      | exact ⟨⟨_, rfl, vI_ (congrFun l2 _)⟩, hI⟩
      | exact ⟨⟨_, rfl, vI_ (congrFun l3 _)⟩, hI⟩
      | exact ⟨⟨_, rfl, vI_ (congrFun l4 _)⟩, hI⟩
      | exact ⟨⟨_, rfl, vI_ (congrFun l5 _)⟩, hI⟩
      | exact ⟨⟨_, rfl, vI_ (gone_n (l9 a.toInt.toNat (by omega)).2.2.2.2.1 (by assumption))⟩, hI⟩
      | exact ⟨⟨_, rfl, vI_ (gone_p (l9 a.toInt.toNat (by omega)).2.2.2.2.1 (by assumption))⟩, hI⟩
      | exact ⟨⟨_, rfl, vI_ (part_n (l9 a.toInt.toNat (by omega)).2.2.2.2.2.2.1 (by assumption))⟩, hI⟩
      | exact ⟨⟨_, rfl, vI_ (part_p (l9 a.toInt.toNat (by omega)).2.2.2.2.2.2.1 (by assumption))⟩, hI⟩
      | (exfalso; (first | omega | (simp only [Int32.reduceToInt] at c8 c15_0 c15_1 c15_2 c15_3 c15_4 c15_5 c15_6 m5 ⊢; omega)))
    · replace m5 := bI_nz m5
      refine ⟨fun m12_0 => ?_, fun m12_0 => ?_⟩
      · refine ⟨_, _, rfl, (by refine ⟨?_, ?_⟩ <;> (first | omega | (simp only [Int32.reduceToInt] at c8 c15_0 c15_1 c15_2 c15_3 c15_4 c15_5 c15_6 m5 m12_0 ⊢; omega))), ?_⟩
        refine ⟨rfl, trivial, ?_⟩
        first
        | exact ⟨⟨_, rfl, rfl⟩, hI⟩
        | exact ⟨⟨_, rfl, vI_ (congrFun l1 _)⟩, hI⟩
        | exact ⟨⟨_, rfl, vI_ (congrFun l2 _)⟩, hI⟩
        | exact ⟨⟨_, rfl, vI_ (congrFun l3 _)⟩, hI⟩
        | exact ⟨⟨_, rfl, vI_ (congrFun l4 _)⟩, hI⟩
        | exact ⟨⟨_, rfl, vI_ (congrFun l5 _)⟩, hI⟩
        | exact ⟨⟨_, rfl, vI_ (gone_n (l9 a.toInt.toNat (by omega)).2.2.2.2.1 (by assumption))⟩, hI⟩
        | exact ⟨⟨_, rfl, vI_ (gone_p (l9 a.toInt.toNat (by omega)).2.2.2.2.1 (by assumption))⟩, hI⟩
        | exact ⟨⟨_, rfl, vI_ (part_n (l9 a.toInt.toNat (by omega)).2.2.2.2.2.2.1 (by assumption))⟩, hI⟩
        | exact ⟨⟨_, rfl, vI_ (part_p (l9 a.toInt.toNat (by omega)).2.2.2.2.2.2.1 (by assumption))⟩, hI⟩
        | (exfalso; (first | omega | (simp only [Int32.reduceToInt] at c8 c15_0 c15_1 c15_2 c15_3 c15_4 c15_5 c15_6 m5 m12_0 ⊢; omega)))
      refine ⟨fun m12_1 => ?_, fun m12_1 => ?_⟩
      · refine ⟨_, _, rfl, (by refine ⟨?_, ?_⟩ <;> (first | omega | (simp only [Int32.reduceToInt] at c8 c15_0 c15_1 c15_2 c15_3 c15_4 c15_5 c15_6 m5 m12_0 m12_1 ⊢; omega))), ?_⟩
        refine ⟨rfl, trivial, ?_⟩
        first
        | exact ⟨⟨_, rfl, rfl⟩, hI⟩
        | exact ⟨⟨_, rfl, vI_ (congrFun l1 _)⟩, hI⟩
        | exact ⟨⟨_, rfl, vI_ (congrFun l2 _)⟩, hI⟩
        | exact ⟨⟨_, rfl, vI_ (congrFun l3 _)⟩, hI⟩
        | exact ⟨⟨_, rfl, vI_ (congrFun l4 _)⟩, hI⟩
        | exact ⟨⟨_, rfl, vI_ (congrFun l5 _)⟩, hI⟩
        | exact ⟨⟨_, rfl, vI_ (gone_n (l9 a.toInt.toNat (by omega)).2.2.2.2.1 (by assumption))⟩, hI⟩
        | exact ⟨⟨_, rfl, vI_ (gone_p (l9 a.toInt.toNat (by omega)).2.2.2.2.1 (by assumption))⟩, hI⟩
        | exact ⟨⟨_, rfl, vI_ (part_n (l9 a.toInt.toNat (by omega)).2.2.2.2.2.2.1 (by assumption))⟩, hI⟩
        | exact ⟨⟨_, rfl, vI_ (part_p (l9 a.toInt.toNat (by omega)).2.2.2.2.2.2.1 (by assumption))⟩, hI⟩
        | (exfalso; (first | omega | (simp only [Int32.reduceToInt] at c8 c15_0 c15_1 c15_2 c15_3 c15_4 c15_5 c15_6 m5 m12_0 m12_1 ⊢; omega)))
      refine ⟨fun m12_2 => ?_, fun m12_2 => ?_⟩
      · refine ⟨_, _, rfl, (by refine ⟨?_, ?_⟩ <;> (first | omega | (simp only [Int32.reduceToInt] at c8 c15_0 c15_1 c15_2 c15_3 c15_4 c15_5 c15_6 m5 m12_0 m12_1 m12_2 ⊢; omega))), ?_⟩
        refine ⟨rfl, trivial, ?_⟩
        first
        | exact ⟨⟨_, rfl, rfl⟩, hI⟩
        | exact ⟨⟨_, rfl, vI_ (congrFun l1 _)⟩, hI⟩
        | exact ⟨⟨_, rfl, vI_ (congrFun l2 _)⟩, hI⟩
        | exact ⟨⟨_, rfl, vI_ (congrFun l3 _)⟩, hI⟩
        | exact ⟨⟨_, rfl, vI_ (congrFun l4 _)⟩, hI⟩
        | exact ⟨⟨_, rfl, vI_ (congrFun l5 _)⟩, hI⟩
        | exact ⟨⟨_, rfl, vI_ (gone_n (l9 a.toInt.toNat (by omega)).2.2.2.2.1 (by assumption))⟩, hI⟩
        | exact ⟨⟨_, rfl, vI_ (gone_p (l9 a.toInt.toNat (by omega)).2.2.2.2.1 (by assumption))⟩, hI⟩
        | exact ⟨⟨_, rfl, vI_ (part_n (l9 a.toInt.toNat (by omega)).2.2.2.2.2.2.1 (by assumption))⟩, hI⟩
        | exact ⟨⟨_, rfl, vI_ (part_p (l9 a.toInt.toNat (by omega)).2.2.2.2.2.2.1 (by assumption))⟩, hI⟩
        | (exfalso; (first | omega | (simp only [Int32.reduceToInt] at c8 c15_0 c15_1 c15_2 c15_3 c15_4 c15_5 c15_6 m5 m12_0 m12_1 m12_2 ⊢; omega)))
      refine ⟨fun m12_3 => ?_, fun m12_3 => ?_⟩
      · refine ⟨_, _, rfl, (by refine ⟨?_, ?_⟩ <;> (first | omega | (simp only [Int32.reduceToInt] at c8 c15_0 c15_1 c15_2 c15_3 c15_4 c15_5 c15_6 m5 m12_0 m12_1 m12_2 m12_3 ⊢; omega))), ?_⟩
        refine ⟨rfl, trivial, ?_⟩
        first
        | exact ⟨⟨_, rfl, rfl⟩, hI⟩
        | exact ⟨⟨_, rfl, vI_ (congrFun l1 _)⟩, hI⟩
        | exact ⟨⟨_, rfl, vI_ (congrFun l2 _)⟩, hI⟩
        | exact ⟨⟨_, rfl, vI_ (congrFun l3 _)⟩, hI⟩
        | exact ⟨⟨_, rfl, vI_ (congrFun l4 _)⟩, hI⟩
        | exact ⟨⟨_, rfl, vI_ (congrFun l5 _)⟩, hI⟩
        | exact ⟨⟨_, rfl, vI_ (gone_n (l9 a.toInt.toNat (by omega)).2.2.2.2.1 (by assumption))⟩, hI⟩
        | exact ⟨⟨_, rfl, vI_ (gone_p (l9 a.toInt.toNat (by omega)).2.2.2.2.1 (by assumption))⟩, hI⟩
        | exact ⟨⟨_, rfl, vI_ (part_n (l9 a.toInt.toNat (by omega)).2.2.2.2.2.2.1 (by assumption))⟩, hI⟩
        | exact ⟨⟨_, rfl, vI_ (part_p (l9 a.toInt.toNat (by omega)).2.2.2.2.2.2.1 (by assumption))⟩, hI⟩
        | (exfalso; (first | omega | (simp only [Int32.reduceToInt] at c8 c15_0 c15_1 c15_2 c15_3 c15_4 c15_5 c15_6 m5 m12_0 m12_1 m12_2 m12_3 ⊢; omega)))
      refine ⟨fun m12_4 => ?_, fun m12_4 => ?_⟩
      · refine ⟨_, _, rfl, (by refine ⟨?_, ?_⟩ <;> (first | omega | (simp only [Int32.reduceToInt] at c8 c15_0 c15_1 c15_2 c15_3 c15_4 c15_5 c15_6 m5 m12_0 m12_1 m12_2 m12_3 m12_4 ⊢; omega))), ?_⟩
        refine ⟨rfl, ?_⟩
        refine m_orNone (fun hm90a => ?_) (fun hm90a => ?_)
        · refine ⟨rfl, trivial, ?_⟩
          first
          | exact ⟨⟨_, rfl, rfl⟩, hI⟩
          | exact ⟨⟨_, rfl, vI_ (congrFun l1 _)⟩, hI⟩
          | exact ⟨⟨_, rfl, vI_ (congrFun l2 _)⟩, hI⟩
          | exact ⟨⟨_, rfl, vI_ (congrFun l3 _)⟩, hI⟩
          | exact ⟨⟨_, rfl, vI_ (congrFun l4 _)⟩, hI⟩
          | exact ⟨⟨_, rfl, vI_ (congrFun l5 _)⟩, hI⟩
          | exact ⟨⟨_, rfl, vI_ (gone_n (l9 a.toInt.toNat (by omega)).2.2.2.2.1 (by assumption))⟩, hI⟩
          | exact ⟨⟨_, rfl, vI_ (gone_p (l9 a.toInt.toNat (by omega)).2.2.2.2.1 (by assumption))⟩, hI⟩
          | exact ⟨⟨_, rfl, vI_ (part_n (l9 a.toInt.toNat (by omega)).2.2.2.2.2.2.1 (by assumption))⟩, hI⟩
          | exact ⟨⟨_, rfl, vI_ (part_p (l9 a.toInt.toNat (by omega)).2.2.2.2.2.2.1 (by assumption))⟩, hI⟩
          | (exfalso; (first | omega | (simp only [Int32.reduceToInt] at c8 c15_0 c15_1 c15_2 c15_3 c15_4 c15_5 c15_6 m5 m12_0 m12_1 m12_2 m12_3 m12_4 hm90a ⊢; omega)))
        · refine ⟨rfl, trivial, ?_⟩
          first
          | exact ⟨⟨_, rfl, rfl⟩, hI⟩
          | exact ⟨⟨_, rfl, vI_ (congrFun l1 _)⟩, hI⟩
          | exact ⟨⟨_, rfl, vI_ (congrFun l2 _)⟩, hI⟩
          | exact ⟨⟨_, rfl, vI_ (congrFun l3 _)⟩, hI⟩
          | exact ⟨⟨_, rfl, vI_ (congrFun l4 _)⟩, hI⟩
          | exact ⟨⟨_, rfl, vI_ (congrFun l5 _)⟩, hI⟩
          | exact ⟨⟨_, rfl, vI_ (gone_n (l9 a.toInt.toNat (by omega)).2.2.2.2.1 (by assumption))⟩, hI⟩
          | exact ⟨⟨_, rfl, vI_ (gone_p (l9 a.toInt.toNat (by omega)).2.2.2.2.1 (by assumption))⟩, hI⟩
          | exact ⟨⟨_, rfl, vI_ (part_n (l9 a.toInt.toNat (by omega)).2.2.2.2.2.2.1 (by assumption))⟩, hI⟩
          | exact ⟨⟨_, rfl, vI_ (part_p (l9 a.toInt.toNat (by omega)).2.2.2.2.2.2.1 (by assumption))⟩, hI⟩
          | (exfalso; (first | omega | (simp only [Int32.reduceToInt] at c8 c15_0 c15_1 c15_2 c15_3 c15_4 c15_5 c15_6 m5 m12_0 m12_1 m12_2 m12_3 m12_4 hm90a ⊢; omega)))
      refine ⟨fun m12_5 => ?_, fun m12_5 => ?_⟩
      · refine ⟨_, _, rfl, (by refine ⟨?_, ?_⟩ <;> (first | omega | (simp only [Int32.reduceToInt] at c8 c15_0 c15_1 c15_2 c15_3 c15_4 c15_5 c15_6 m5 m12_0 m12_1 m12_2 m12_3 m12_4 m12_5 ⊢; omega))), ?_⟩
        refine ⟨rfl, trivial, ?_⟩
        first
        | exact ⟨⟨_, rfl, rfl⟩, hI⟩
        | exact ⟨⟨_, rfl, vI_ (congrFun l1 _)⟩, hI⟩
        | exact ⟨⟨_, rfl, vI_ (congrFun l2 _)⟩, hI⟩
        | exact ⟨⟨_, rfl, vI_ (congrFun l3 _)⟩, hI⟩
        | exact ⟨⟨_, rfl, vI_ (congrFun l4 _)⟩, hI⟩
        | exact ⟨⟨_, rfl, vI_ (congrFun l5 _)⟩, hI⟩
        | exact ⟨⟨_, rfl, vI_ (gone_n (l9 a.toInt.toNat (by omega)).2.2.2.2.1 (by assumption))⟩, hI⟩
        | exact ⟨⟨_, rfl, vI_ (gone_p (l9 a.toInt.toNat (by omega)).2.2.2.2.1 (by assumption))⟩, hI⟩
        | exact ⟨⟨_, rfl, vI_ (part_n (l9 a.toInt.toNat (by omega)).2.2.2.2.2.2.1 (by assumption))⟩, hI⟩
        | exact ⟨⟨_, rfl, vI_ (part_p (l9 a.toInt.toNat (by omega)).2.2.2.2.2.2.1 (by assumption))⟩, hI⟩
        | (exfalso; (first | omega | (simp only [Int32.reduceToInt] at c8 c15_0 c15_1 c15_2 c15_3 c15_4 c15_5 c15_6 m5 m12_0 m12_1 m12_2 m12_3 m12_4 m12_5 ⊢; omega)))
      refine ⟨fun m12_6 => ?_, fun m12_6 => ?_⟩
      · refine ⟨_, _, rfl, (by refine ⟨?_, ?_⟩ <;> (first | omega | (simp only [Int32.reduceToInt] at c8 c15_0 c15_1 c15_2 c15_3 c15_4 c15_5 c15_6 m5 m12_0 m12_1 m12_2 m12_3 m12_4 m12_5 m12_6 ⊢; omega))), ?_⟩
        refine ⟨rfl, ?_⟩
        refine m_orNone (fun hm107a => ?_) (fun hm107a => ?_)
        · refine ⟨rfl, trivial, ?_⟩
          first
          | exact ⟨⟨_, rfl, rfl⟩, hI⟩
          | exact ⟨⟨_, rfl, vI_ (congrFun l1 _)⟩, hI⟩
          | exact ⟨⟨_, rfl, vI_ (congrFun l2 _)⟩, hI⟩
          | exact ⟨⟨_, rfl, vI_ (congrFun l3 _)⟩, hI⟩
          | exact ⟨⟨_, rfl, vI_ (congrFun l4 _)⟩, hI⟩
          | exact ⟨⟨_, rfl, vI_ (congrFun l5 _)⟩, hI⟩
          | exact ⟨⟨_, rfl, vI_ (gone_n (l9 a.toInt.toNat (by omega)).2.2.2.2.1 (by assumption))⟩, hI⟩
          | exact ⟨⟨_, rfl, vI_ (gone_p (l9 a.toInt.toNat (by omega)).2.2.2.2.1 (by assumption))⟩, hI⟩
          | exact ⟨⟨_, rfl, vI_ (part_n (l9 a.toInt.toNat (by omega)).2.2.2.2.2.2.1 (by assumption))⟩, hI⟩
          | exact ⟨⟨_, rfl, vI_ (part_p (l9 a.toInt.toNat (by omega)).2.2.2.2.2.2.1 (by assumption))⟩, hI⟩
          | (exfalso; (first | omega | (simp only [Int32.reduceToInt] at c8 c15_0 c15_1 c15_2 c15_3 c15_4 c15_5 c15_6 m5 m12_0 m12_1 m12_2 m12_3 m12_4 m12_5 m12_6 hm107a ⊢; omega)))
        · refine ⟨rfl, trivial, ?_⟩
          first
          | exact ⟨⟨_, rfl, rfl⟩, hI⟩
          | exact ⟨⟨_, rfl, vI_ (congrFun l1 _)⟩, hI⟩
          | exact ⟨⟨_, rfl, vI_ (congrFun l2 _)⟩, hI⟩
          | exact ⟨⟨_, rfl, vI_ (congrFun l3 _)⟩, hI⟩
          | exact ⟨⟨_, rfl, vI_ (congrFun l4 _)⟩, hI⟩
          | exact ⟨⟨_, rfl, vI_ (congrFun l5 _)⟩, hI⟩
          | exact ⟨⟨_, rfl, vI_ (gone_n (l9 a.toInt.toNat (by omega)).2.2.2.2.1 (by assumption))⟩, hI⟩
          | exact ⟨⟨_, rfl, vI_ (gone_p (l9 a.toInt.toNat (by omega)).2.2.2.2.1 (by assumption))⟩, hI⟩
          | exact ⟨⟨_, rfl, vI_ (part_n (l9 a.toInt.toNat (by omega)).2.2.2.2.2.2.1 (by assumption))⟩, hI⟩
          | exact ⟨⟨_, rfl, vI_ (part_p (l9 a.toInt.toNat (by omega)).2.2.2.2.2.2.1 (by assumption))⟩, hI⟩
          | (exfalso; (first | omega | (simp only [Int32.reduceToInt] at c8 c15_0 c15_1 c15_2 c15_3 c15_4 c15_5 c15_6 m5 m12_0 m12_1 m12_2 m12_3 m12_4 m12_5 m12_6 hm107a ⊢; omega)))
      refine ⟨rfl, trivial, ?_⟩
      first
      | exact ⟨⟨_, rfl, rfl⟩, hI⟩
      | exact ⟨⟨_, rfl, vI_ (congrFun l1 _)⟩, hI⟩
      | exact ⟨⟨_, rfl, vI_ (congrFun l2 _)⟩, hI⟩
      | exact ⟨⟨_, rfl, vI_ (congrFun l3 _)⟩, hI⟩
      | exact ⟨⟨_, rfl, vI_ (congrFun l4 _)⟩, hI⟩
      | exact ⟨⟨_, rfl, vI_ (congrFun l5 _)⟩, hI⟩
      | exact ⟨⟨_, rfl, vI_ (gone_n (l9 a.toInt.toNat (by omega)).2.2.2.2.1 (by assumption))⟩, hI⟩
      | exact ⟨⟨_, rfl, vI_ (gone_p (l9 a.toInt.toNat (by omega)).2.2.2.2.1 (by assumption))⟩, hI⟩
      | exact ⟨⟨_, rfl, vI_ (part_n (l9 a.toInt.toNat (by omega)).2.2.2.2.2.2.1 (by assumption))⟩, hI⟩
      | exact ⟨⟨_, rfl, vI_ (part_p (l9 a.toInt.toNat (by omega)).2.2.2.2.2.2.1 (by assumption))⟩, hI⟩
      | (exfalso; (first | omega | (simp only [Int32.reduceToInt] at c8 c15_0 c15_1 c15_2 c15_3 c15_4 c15_5 c15_6 m5 m12_0 m12_1 m12_2 m12_3 m12_4 m12_5 m12_6 ⊢; omega)))
theorem c_trim_ta {σ σ' : Mm} {n : Int32} (e30 : σ' 30 = σ 30) (e118 : σ' 118 = σ 118) (p0_5 : σ' 0 5 = n) (p88_36 : σ' 88 36 = n) (h : I_ta σ) (h1 : 0 ≤ n.toInt ∧ n.toInt ≤ (σ 0 5).toInt) : I_ta σ' := by
  unfold I_ta
  simp only [e30, e118, p0_5, p88_36]
  obtain ⟨a0, ⟨a1, a2⟩, a3⟩ := h
  exact ⟨trivial, ⟨h1.1, by omega⟩, a3⟩
theorem op_trim {σ : Mm} {n : Int32} (hI : Inv σ) : Call 120 k_X11_trim [.ref 0, .int n] σ (fun r τ => Call 120 k_X12_trim [.ref 88, .int n] τ (fun r' τ' => (∃ x : Int32, r = some (.int x) ∧ r' = some (.int x)) ∧ Inv τ')) := by
  obtain ⟨a0, ⟨a1, a2⟩, a3⟩ := id (hI.2.2.2.2.1)
  have qtaped : (σ 88 36).toInt = (σ 0 5).toInt := by rw [a0]
  refine Call_st 200 fun X hX => ?_
  refine ⟨rfl, ?_⟩
  refine s_within ?_
  refine ⟨fun c9 => ?_, fun c9 => ?_⟩
  · replace c9 := bI_z c9
    refine ⟨rfl, trivial, ?_⟩
    refine Call_st 200 fun Y hY => ?_
    refine ⟨rfl, ?_⟩
    refine m_isIn ?_
    refine ⟨fun m9 => ?_, fun m9 => ?_⟩
    · replace m9 := bI_z m9
      refine ⟨rfl, trivial, ?_⟩
      first | exact ⟨⟨_, rfl, rfl⟩, hI⟩ | (exfalso; (first | omega | (simp only [Int32.reduceToInt] at c9 m9 ⊢; omega)))
    · replace m9 := bI_nz m9
      refine ⟨rfl, trivial, ?_⟩
      first | exact ⟨⟨_, rfl, rfl⟩, hI⟩ | (exfalso; (first | omega | (simp only [Int32.reduceToInt] at c9 m9 ⊢; omega)))
  · replace c9 := bI_nz c9
    refine ⟨rfl, trivial, ?_⟩
    refine nxt fun τ hτ => ?_
    have e88 : τ 88 = σ 88 := by rw [hτ]; rfl
    have qτtaped : (τ 88 36).toInt = (σ 0 5).toInt := by rw [e88, a0]
    refine Call_st 200 fun Y hY => ?_
    refine ⟨rfl, ?_⟩
    refine m_isIn ?_
    refine ⟨fun m9 => ?_, fun m9 => ?_⟩
    · replace m9 := bI_z m9
      refine ⟨rfl, trivial, ?_⟩
      first
      | (exfalso; (first | omega | (simp only [Int32.reduceToInt] at c9 m9 ⊢; omega)); done)
      | (have z1 : 0 ≤ n.toInt ∧ n.toInt ≤ (σ 0 5).toInt := by (first | omega | (simp only [Int32.reduceToInt] at c9 m9 ⊢; omega))
         subst hτ
         exact ⟨⟨n, rfl, rfl⟩, ⟨(I_tr_fr (σ := σ) rfl rfl rfl rfl rfl rfl rfl rfl hI.1), (I_vo_fr (σ := σ) rfl rfl rfl rfl rfl rfl rfl rfl rfl rfl rfl rfl rfl rfl rfl hI.2.1), (I_li_fr (σ := σ) rfl rfl rfl rfl rfl rfl rfl rfl rfl rfl rfl rfl rfl rfl rfl rfl rfl rfl rfl rfl rfl hI.2.2.1), (I_or_fr (σ := σ) rfl rfl rfl hI.2.2.2.1), (c_trim_ta (σ := σ) rfl rfl rfl rfl hI.2.2.2.2.1 z1), (I_ba_fr (σ := σ) rfl rfl rfl rfl rfl rfl rfl rfl rfl rfl rfl rfl rfl rfl rfl rfl rfl rfl rfl rfl rfl hI.2.2.2.2.2.1), (I_ex_fr (σ := σ) rfl rfl rfl rfl rfl rfl rfl rfl rfl rfl rfl hI.2.2.2.2.2.2.1), (I_gu_fr (σ := σ) rfl rfl rfl rfl rfl rfl rfl rfl rfl rfl hI.2.2.2.2.2.2.2.1), (I_sh_fr (σ := σ) rfl rfl rfl rfl rfl hI.2.2.2.2.2.2.2.2.1), (I_wa_fr (σ := σ) rfl rfl rfl rfl hI.2.2.2.2.2.2.2.2.2.1), (I_la_fr (σ := σ) rfl rfl rfl rfl rfl rfl rfl rfl rfl rfl rfl hI.2.2.2.2.2.2.2.2.2.2.1), (I_he_fr (σ := σ) rfl hI.2.2.2.2.2.2.2.2.2.2.2)⟩⟩)
    · replace m9 := bI_nz m9
      refine ⟨rfl, trivial, ?_⟩
      first
      | (exfalso; (first | omega | (simp only [Int32.reduceToInt] at c9 m9 ⊢; omega)); done)
      | (have z1 : 0 ≤ n.toInt ∧ n.toInt ≤ (σ 0 5).toInt := by (first | omega | (simp only [Int32.reduceToInt] at c9 m9 ⊢; omega))
         subst hτ
         exact ⟨⟨n, rfl, rfl⟩, ⟨(I_tr_fr (σ := σ) rfl rfl rfl rfl rfl rfl rfl rfl hI.1), (I_vo_fr (σ := σ) rfl rfl rfl rfl rfl rfl rfl rfl rfl rfl rfl rfl rfl rfl rfl hI.2.1), (I_li_fr (σ := σ) rfl rfl rfl rfl rfl rfl rfl rfl rfl rfl rfl rfl rfl rfl rfl rfl rfl rfl rfl rfl rfl hI.2.2.1), (I_or_fr (σ := σ) rfl rfl rfl hI.2.2.2.1), (c_trim_ta (σ := σ) rfl rfl rfl rfl hI.2.2.2.2.1 z1), (I_ba_fr (σ := σ) rfl rfl rfl rfl rfl rfl rfl rfl rfl rfl rfl rfl rfl rfl rfl rfl rfl rfl rfl rfl rfl hI.2.2.2.2.2.1), (I_ex_fr (σ := σ) rfl rfl rfl rfl rfl rfl rfl rfl rfl rfl rfl hI.2.2.2.2.2.2.1), (I_gu_fr (σ := σ) rfl rfl rfl rfl rfl rfl rfl rfl rfl rfl hI.2.2.2.2.2.2.2.1), (I_sh_fr (σ := σ) rfl rfl rfl rfl rfl hI.2.2.2.2.2.2.2.2.1), (I_wa_fr (σ := σ) rfl rfl rfl rfl hI.2.2.2.2.2.2.2.2.2.1), (I_la_fr (σ := σ) rfl rfl rfl rfl rfl rfl rfl rfl rfl rfl rfl hI.2.2.2.2.2.2.2.2.2.2.1), (I_he_fr (σ := σ) rfl hI.2.2.2.2.2.2.2.2.2.2.2)⟩⟩)
theorem c_empty_ba {σ σ' : Mm} (e46 : σ' 46 = σ 46) (e47 : σ' 47 = σ 47) (e48 : σ' 48 = σ 48) (e49 : σ' 49 = σ 49) (e50 : σ' 50 = σ 50) (e120 : σ' 120 = σ 120) (e121 : σ' 121 = σ 121) (e122 : σ' 122 = σ 122) (e123 : σ' 123 = σ 123) (e124 : σ' 124 = σ 124) (e52 : σ' 52 = σ 52) (e53 : σ' 53 = σ 53) (e54 : σ' 54 = σ 54) (e55 : σ' 55 = σ 55) (e56 : σ' 56 = σ 56) (e57 : σ' 57 = σ 57) (e125 : σ' 125 = σ 125) (p45_0 : σ' 45 0 = 0) (p45_3 : σ' 45 3 = σ 45 3) (p88_48 : σ' 88 48 = 0) (p88_51 : σ' 88 51 = σ 88 51) (h : I_ba σ) : I_ba σ' := by
  unfold I_ba
  simp only [e46, e47, e48, e49, e50, e120, e121, e122, e123, e124, e52, e53, e54, e55, e56, e57, e125, p45_0, p45_3, p88_48, p88_51]
  obtain ⟨⟨b0, b1⟩, ⟨b7, b8⟩, ⟨b9, b10⟩, b11, b12⟩ := h
  refine ⟨⟨trivial, b1⟩, ⟨by decide, by decide⟩, ⟨b9, b10⟩, fun i hi => ?_, b12⟩
  exact absurd hi (by show ¬ (i : Int) < 0; omega)
theorem op_empty {σ : Mm} (hI : Inv σ) : Call 120 k_X11_empty [.ref 0] σ (fun r τ => Call 120 k_X12_empty [.ref 88] τ (fun r' τ' => (∃ x : Int32, r = some (.int x) ∧ r' = some (.int x)) ∧ Inv τ')) := by
  obtain ⟨⟨b0, b1, b2, b3, b4, b5, b6⟩, ⟨b7, b8⟩, ⟨b9, b10⟩, b11, b12, b13⟩ := id (hI.2.2.2.2.2.1)
  have qitems : (σ 88 48).toInt = (σ 45 0).toInt := by rw [b0]
  refine Call_st 200 fun X hX => ?_
  refine ⟨rfl, trivial, ?_⟩
  refine nxt fun τ hτ => ?_
  have e88 : τ 88 = σ 88 := by rw [hτ]; rfl
  have qτitems : (τ 88 48).toInt = (σ 45 0).toInt := by rw [e88, b0]
  refine Call_st 200 fun Y hY => ?_
  refine ⟨rfl, trivial, ?_⟩
  first
  | (exfalso; (first | omega | (simp only [Int32.reduceToInt] at ⊢ ⊢; omega)); done)
  | (subst hτ
     exact ⟨⟨σ 45 0, rfl, vI_ b0⟩, ⟨(I_tr_fr (σ := σ) rfl rfl rfl rfl rfl rfl rfl rfl hI.1), (I_vo_fr (σ := σ) rfl rfl rfl rfl rfl rfl rfl rfl rfl rfl rfl rfl rfl rfl rfl hI.2.1), (I_li_fr (σ := σ) rfl rfl rfl rfl rfl rfl rfl rfl rfl rfl rfl rfl rfl rfl rfl rfl rfl rfl rfl rfl rfl hI.2.2.1), (I_or_fr (σ := σ) rfl rfl rfl hI.2.2.2.1), (I_ta_fr (σ := σ) rfl rfl rfl rfl hI.2.2.2.2.1), (c_empty_ba (σ := σ) rfl rfl rfl rfl rfl rfl rfl rfl rfl rfl rfl rfl rfl rfl rfl rfl rfl rfl rfl rfl rfl hI.2.2.2.2.2.1), (I_ex_fr (σ := σ) rfl rfl rfl rfl rfl rfl rfl rfl rfl rfl rfl hI.2.2.2.2.2.2.1), (I_gu_fr (σ := σ) rfl rfl rfl rfl rfl rfl rfl rfl rfl rfl hI.2.2.2.2.2.2.2.1), (I_sh_fr (σ := σ) rfl rfl rfl rfl rfl hI.2.2.2.2.2.2.2.2.1), (I_wa_fr (σ := σ) rfl rfl rfl rfl hI.2.2.2.2.2.2.2.2.2.1), (I_la_fr (σ := σ) rfl rfl rfl rfl rfl rfl rfl rfl rfl rfl rfl hI.2.2.2.2.2.2.2.2.2.2.1), (I_he_fr (σ := σ) rfl hI.2.2.2.2.2.2.2.2.2.2.2)⟩⟩)
theorem c_tell_wa {σ σ' : Mm} {v : Int32} (e87 : σ' 87 = upd (σ 87) (σ 0 14).toInt.toNat v) (e130 : σ' 130 = upd (σ 130) (σ 88 64).toInt.toNat v) (p0_14 : σ' 0 14 = σ 0 14 + 1) (p88_64 : σ' 88 64 = σ 88 64 + 1) (h : I_wa σ) (h1 : (σ 0 14).toInt < 20) : I_wa σ' := by
  unfold I_wa
  simp only [e87, e130, p0_14, p88_64]
  obtain ⟨w0, w1, ⟨w2, w3⟩⟩ := h
  have e := add1 (x := σ 0 14) (by omega)
  exact ⟨by rw [w0], by rw [w0, w1], by omega, by omega⟩
theorem op_tell {σ : Mm} {v : Int32} (hI : Inv σ) : Call 120 k_X11_tell [.ref 0, .int v] σ (fun r τ => Call 120 k_X12_tell [.ref 88, .int v] τ (fun r' τ' => (∃ x : Int32, r = some (.int x) ∧ r' = some (.int x)) ∧ Inv τ')) := by
  obtain ⟨w0, w1, ⟨w2, w3⟩⟩ := id (hI.2.2.2.2.2.2.2.2.2.1)
  have qwaiting : (σ 88 64).toInt = (σ 0 14).toInt := by rw [w0]
  refine Call_st 200 fun X hX => ?_
  refine ⟨fun c6 => ?_, fun c6 => ?_⟩
  · refine ⟨_, rfl, (by refine ⟨?_, ?_⟩ <;> (first | omega | (simp only [Int32.reduceToInt] at c6 ⊢; omega))), ?_⟩
    refine ⟨rfl, trivial, ?_⟩
    refine nxt fun τ hτ => ?_
    have e88 : τ 88 = σ 88 := by rw [hτ]; rfl
    have qτwaiting : (τ 88 64).toInt = (σ 0 14).toInt := by rw [e88, w0]
    refine Call_st 200 fun Y hY => ?_
    refine ⟨fun m6 => ?_, fun m6 => ?_⟩
    · refine ⟨rfl, trivial, ?_⟩
      first
      | (exfalso; (first | omega | (simp only [Int32.reduceToInt] at c6 m6 ⊢; omega)); done)
      | (have z1 : (σ 0 14).toInt < 20 := by (first | omega | (simp only [Int32.reduceToInt] at c6 m6 ⊢; omega))
         subst hτ
         exact ⟨⟨σ 0 14 + 1, rfl, vI_ (congrArg (· + 1) w0)⟩, ⟨(I_tr_fr (σ := σ) rfl rfl rfl rfl rfl rfl rfl rfl hI.1), (I_vo_fr (σ := σ) rfl rfl rfl rfl rfl rfl rfl rfl rfl rfl rfl rfl rfl rfl rfl hI.2.1), (I_li_fr (σ := σ) rfl rfl rfl rfl rfl rfl rfl rfl rfl rfl rfl rfl rfl rfl rfl rfl rfl rfl rfl rfl rfl hI.2.2.1), (I_or_fr (σ := σ) rfl rfl rfl hI.2.2.2.1), (I_ta_fr (σ := σ) rfl rfl rfl rfl hI.2.2.2.2.1), (I_ba_fr (σ := σ) rfl rfl rfl rfl rfl rfl rfl rfl rfl rfl rfl rfl rfl rfl rfl rfl rfl rfl rfl rfl rfl hI.2.2.2.2.2.1), (I_ex_fr (σ := σ) rfl rfl rfl rfl rfl rfl rfl rfl rfl rfl rfl hI.2.2.2.2.2.2.1), (I_gu_fr (σ := σ) rfl rfl rfl rfl rfl rfl rfl rfl rfl rfl hI.2.2.2.2.2.2.2.1), (I_sh_fr (σ := σ) rfl rfl rfl rfl rfl hI.2.2.2.2.2.2.2.2.1), (c_tell_wa (σ := σ) rfl rfl rfl rfl hI.2.2.2.2.2.2.2.2.2.1 z1), (I_la_fr (σ := σ) rfl rfl rfl rfl rfl rfl rfl rfl rfl rfl rfl hI.2.2.2.2.2.2.2.2.2.2.1), (I_he_fr (σ := σ) rfl hI.2.2.2.2.2.2.2.2.2.2.2)⟩⟩)
    · refine ⟨_, rfl, (by refine ⟨?_, ?_⟩ <;> (first | omega | (simp only [Int32.reduceToInt] at c6 m6 ⊢; omega))), ?_⟩
      refine ⟨rfl, trivial, ?_⟩
      first
      | (exfalso; (first | omega | (simp only [Int32.reduceToInt] at c6 m6 ⊢; omega)); done)
      | (have z1 : (σ 0 14).toInt < 20 := by (first | omega | (simp only [Int32.reduceToInt] at c6 m6 ⊢; omega))
         subst hτ
         exact ⟨⟨σ 0 14 + 1, rfl, vI_ (congrArg (· + 1) w0)⟩, ⟨(I_tr_fr (σ := σ) rfl rfl rfl rfl rfl rfl rfl rfl hI.1), (I_vo_fr (σ := σ) rfl rfl rfl rfl rfl rfl rfl rfl rfl rfl rfl rfl rfl rfl rfl hI.2.1), (I_li_fr (σ := σ) rfl rfl rfl rfl rfl rfl rfl rfl rfl rfl rfl rfl rfl rfl rfl rfl rfl rfl rfl rfl rfl hI.2.2.1), (I_or_fr (σ := σ) rfl rfl rfl hI.2.2.2.1), (I_ta_fr (σ := σ) rfl rfl rfl rfl hI.2.2.2.2.1), (I_ba_fr (σ := σ) rfl rfl rfl rfl rfl rfl rfl rfl rfl rfl rfl rfl rfl rfl rfl rfl rfl rfl rfl rfl rfl hI.2.2.2.2.2.1), (I_ex_fr (σ := σ) rfl rfl rfl rfl rfl rfl rfl rfl rfl rfl rfl hI.2.2.2.2.2.2.1), (I_gu_fr (σ := σ) rfl rfl rfl rfl rfl rfl rfl rfl rfl rfl hI.2.2.2.2.2.2.2.1), (I_sh_fr (σ := σ) rfl rfl rfl rfl rfl hI.2.2.2.2.2.2.2.2.1), (c_tell_wa (σ := σ) rfl rfl rfl rfl hI.2.2.2.2.2.2.2.2.2.1 z1), (I_la_fr (σ := σ) rfl rfl rfl rfl rfl rfl rfl rfl rfl rfl rfl hI.2.2.2.2.2.2.2.2.2.2.1), (I_he_fr (σ := σ) rfl hI.2.2.2.2.2.2.2.2.2.2.2)⟩⟩)
  · refine ⟨rfl, trivial, ?_⟩
    refine Call_st 200 fun Y hY => ?_
    refine ⟨fun m6 => ?_, fun m6 => ?_⟩
    · refine ⟨rfl, trivial, ?_⟩
      first | exact ⟨⟨_, rfl, rfl⟩, hI⟩ | (exfalso; (first | omega | (simp only [Int32.reduceToInt] at c6 m6 ⊢; omega)))
    · refine ⟨_, rfl, (by refine ⟨?_, ?_⟩ <;> (first | omega | (simp only [Int32.reduceToInt] at c6 m6 ⊢; omega))), ?_⟩
      refine ⟨rfl, trivial, ?_⟩
      first | exact ⟨⟨_, rfl, rfl⟩, hI⟩ | (exfalso; (first | omega | (simp only [Int32.reduceToInt] at c6 m6 ⊢; omega)))
theorem c_tries_gu {σ σ' : Mm} {v : Int32} (e79 : σ' 79 = σ 79) (e80 : σ' 80 = σ 80) (e81 : σ' 81 = σ 81) (e136 : σ' 136 = σ 136) (e137 : σ' 137 = σ 137) (e138 : σ' 138 = σ 138) (p78_0 : σ' 78 0 = σ 78 0) (p78_1 : σ' 78 1 = v) (p88_71 : σ' 88 71 = σ 88 71) (p88_72 : σ' 88 72 = v) (h : I_gu σ) (h1 : 0 ≤ v.toInt ∧ v.toInt ≤ 9) : I_gu σ' := by
  unfold I_gu
  simp only [e79, e80, e81, e136, e137, e138, p78_0, p78_1, p88_71, p88_72]
  obtain ⟨⟨g0, g1, g2⟩, g5, g6⟩ := h
  exact ⟨⟨g0, trivial, g2⟩, g5, h1⟩
theorem op_tries {σ : Mm} {v : Int32} (hI : Inv σ) : Call 120 k_X11_tries [.ref 0, .int v] σ (fun r τ => Call 120 k_X12_tries [.ref 88, .int v] τ (fun r' τ' => (∃ x : Int32, r = some (.int x) ∧ r' = some (.int x)) ∧ Inv τ')) := by
  obtain ⟨⟨g0, g1, g2, g3, g4⟩, ⟨g5, g6⟩, ⟨g7, g8⟩⟩ := id (hI.2.2.2.2.2.2.2.1)
  have qtries : (σ 88 72).toInt = (σ 78 1).toInt := by rw [g1]
  refine Call_st 200 fun X hX => ?_
  refine ⟨rfl, ?_⟩
  refine s_within ?_
  refine ⟨fun c7 => ?_, fun c7 => ?_⟩
  · replace c7 := bI_z c7
    refine ⟨rfl, trivial, ?_⟩
    refine Call_st 200 fun Y hY => ?_
    refine ⟨rfl, ?_⟩
    refine m_isIn ?_
    refine ⟨fun m7 => ?_, fun m7 => ?_⟩
    · replace m7 := bI_z m7
      refine ⟨rfl, trivial, ?_⟩
      first | exact ⟨⟨_, rfl, rfl⟩, hI⟩ | (exfalso; (first | omega | (simp only [Int32.reduceToInt] at c7 m7 ⊢; omega)))
    · replace m7 := bI_nz m7
      refine ⟨rfl, trivial, ?_⟩
      first | exact ⟨⟨_, rfl, rfl⟩, hI⟩ | (exfalso; (first | omega | (simp only [Int32.reduceToInt] at c7 m7 ⊢; omega)))
  · replace c7 := bI_nz c7
    refine ⟨rfl, trivial, ?_⟩
    refine nxt fun τ hτ => ?_
    have e88 : τ 88 = σ 88 := by rw [hτ]; rfl
    have qτtries : (τ 88 72).toInt = (σ 78 1).toInt := by rw [e88, g1]
    refine Call_st 200 fun Y hY => ?_
    refine ⟨rfl, ?_⟩
    refine m_isIn ?_
    refine ⟨fun m7 => ?_, fun m7 => ?_⟩
    · replace m7 := bI_z m7
      refine ⟨rfl, trivial, ?_⟩
      first
      | (exfalso; (first | omega | (simp only [Int32.reduceToInt] at c7 m7 ⊢; omega)); done)
      | (have z1 : 0 ≤ v.toInt ∧ v.toInt ≤ 9 := by (first | omega | (simp only [Int32.reduceToInt] at c7 m7 ⊢; omega))
         subst hτ
         exact ⟨⟨σ 78 1, rfl, vI_ g1⟩, ⟨(I_tr_fr (σ := σ) rfl rfl rfl rfl rfl rfl rfl rfl hI.1), (I_vo_fr (σ := σ) rfl rfl rfl rfl rfl rfl rfl rfl rfl rfl rfl rfl rfl rfl rfl hI.2.1), (I_li_fr (σ := σ) rfl rfl rfl rfl rfl rfl rfl rfl rfl rfl rfl rfl rfl rfl rfl rfl rfl rfl rfl rfl rfl hI.2.2.1), (I_or_fr (σ := σ) rfl rfl rfl hI.2.2.2.1), (I_ta_fr (σ := σ) rfl rfl rfl rfl hI.2.2.2.2.1), (I_ba_fr (σ := σ) rfl rfl rfl rfl rfl rfl rfl rfl rfl rfl rfl rfl rfl rfl rfl rfl rfl rfl rfl rfl rfl hI.2.2.2.2.2.1), (I_ex_fr (σ := σ) rfl rfl rfl rfl rfl rfl rfl rfl rfl rfl rfl hI.2.2.2.2.2.2.1), (c_tries_gu (σ := σ) rfl rfl rfl rfl rfl rfl rfl rfl rfl rfl hI.2.2.2.2.2.2.2.1 z1), (I_sh_fr (σ := σ) rfl rfl rfl rfl rfl hI.2.2.2.2.2.2.2.2.1), (I_wa_fr (σ := σ) rfl rfl rfl rfl hI.2.2.2.2.2.2.2.2.2.1), (I_la_fr (σ := σ) rfl rfl rfl rfl rfl rfl rfl rfl rfl rfl rfl hI.2.2.2.2.2.2.2.2.2.2.1), (I_he_fr (σ := σ) rfl hI.2.2.2.2.2.2.2.2.2.2.2)⟩⟩)
    · replace m7 := bI_nz m7
      refine ⟨rfl, trivial, ?_⟩
      first
      | (exfalso; (first | omega | (simp only [Int32.reduceToInt] at c7 m7 ⊢; omega)); done)
      | (have z1 : 0 ≤ v.toInt ∧ v.toInt ≤ 9 := by (first | omega | (simp only [Int32.reduceToInt] at c7 m7 ⊢; omega))
         subst hτ
         exact ⟨⟨σ 78 1, rfl, vI_ g1⟩, ⟨(I_tr_fr (σ := σ) rfl rfl rfl rfl rfl rfl rfl rfl hI.1), (I_vo_fr (σ := σ) rfl rfl rfl rfl rfl rfl rfl rfl rfl rfl rfl rfl rfl rfl rfl hI.2.1), (I_li_fr (σ := σ) rfl rfl rfl rfl rfl rfl rfl rfl rfl rfl rfl rfl rfl rfl rfl rfl rfl rfl rfl rfl rfl hI.2.2.1), (I_or_fr (σ := σ) rfl rfl rfl hI.2.2.2.1), (I_ta_fr (σ := σ) rfl rfl rfl rfl hI.2.2.2.2.1), (I_ba_fr (σ := σ) rfl rfl rfl rfl rfl rfl rfl rfl rfl rfl rfl rfl rfl rfl rfl rfl rfl rfl rfl rfl rfl hI.2.2.2.2.2.1), (I_ex_fr (σ := σ) rfl rfl rfl rfl rfl rfl rfl rfl rfl rfl rfl hI.2.2.2.2.2.2.1), (c_tries_gu (σ := σ) rfl rfl rfl rfl rfl rfl rfl rfl rfl rfl hI.2.2.2.2.2.2.2.1 z1), (I_sh_fr (σ := σ) rfl rfl rfl rfl rfl hI.2.2.2.2.2.2.2.2.1), (I_wa_fr (σ := σ) rfl rfl rfl rfl hI.2.2.2.2.2.2.2.2.2.1), (I_la_fr (σ := σ) rfl rfl rfl rfl rfl rfl rfl rfl rfl rfl rfl hI.2.2.2.2.2.2.2.2.2.2.1), (I_he_fr (σ := σ) rfl hI.2.2.2.2.2.2.2.2.2.2.2)⟩⟩)
theorem s_put {d : Nat} {σ : Mm} {Q : Qt} {x y : Int32} (h0 : 0 ≤ (σ 45 0).toInt) (hF : 8 ≤ (σ 45 0).toInt → Q (some (.int 0)) σ) (hS : (σ 45 0).toInt < 8 → Q (some (.int 1)) (wr (wr (wr σ 46 (σ 45 0).toInt.toNat x) 47 (σ 45 0).toInt.toNat y) 45 0 (σ 45 0 + 1))) : Call (d + 1) k_X0_put [.ref 45, .int x, .int y] σ Q := by
  refine Call_st 120 fun X hX => ?_
  refine ⟨fun c6 => ?_, fun c6 => ?_⟩
  · refine ⟨_, rfl, ⟨h0, (by (first | omega | (simp only [Int32.reduceToInt] at c6 ⊢; omega)) : (σ 45 0).toInt < 8)⟩, ?_⟩
    refine ⟨_, rfl, ⟨h0, (by (first | omega | (simp only [Int32.reduceToInt] at c6 ⊢; omega)) : (σ 45 0).toInt < 8)⟩, ?_⟩
    refine ⟨rfl, Or.inr rfl, ?_⟩
    first | exact hF (by (first | omega | (simp only [Int32.reduceToInt] at c6 ⊢; omega))) | exact hS (by (first | omega | (simp only [Int32.reduceToInt] at c6 ⊢; omega)))
  · refine ⟨rfl, Or.inl rfl, ?_⟩
    first | exact hF (by (first | omega | (simp only [Int32.reduceToInt] at c6 ⊢; omega))) | exact hS (by (first | omega | (simp only [Int32.reduceToInt] at c6 ⊢; omega)))
theorem c_item_ba {σ σ' : Mm} {x y : Int32} (e46 : σ' 46 = upd (σ 46) (σ 45 0).toInt.toNat x) (e47 : σ' 47 = upd (σ 47) (σ 45 0).toInt.toNat y) (e48 : σ' 48 = σ 48) (e49 : σ' 49 = σ 49) (e50 : σ' 50 = σ 50) (e120 : σ' 120 = upd (σ 120) (σ 88 48).toInt.toNat x) (e121 : σ' 121 = upd (σ 121) (σ 88 48).toInt.toNat y) (e122 : σ' 122 = σ 122) (e123 : σ' 123 = σ 123) (e124 : σ' 124 = σ 124) (e52 : σ' 52 = σ 52) (e53 : σ' 53 = σ 53) (e54 : σ' 54 = σ 54) (e55 : σ' 55 = σ 55) (e56 : σ' 56 = σ 56) (e57 : σ' 57 = σ 57) (e125 : σ' 125 = σ 125) (p45_0 : σ' 45 0 = σ 45 0 + 1) (p45_3 : σ' 45 3 = σ 45 3) (p88_48 : σ' 88 48 = σ 88 48 + 1) (p88_51 : σ' 88 51 = σ 88 51) (h : I_ba σ) (h8 : (σ 45 0).toInt < 8) (hx : 1 ≤ x.toInt ∧ x.toInt ≤ 9999) (hy : 0 ≤ y.toInt ∧ y.toInt ≤ 7) : I_ba σ' := by
  unfold I_ba
  simp only [e46, e47, e48, e49, e50, e120, e121, e122, e123, e124, e52, e53, e54, e55, e56, e57, e125, p45_0, p45_3, p88_48, p88_51]
  obtain ⟨⟨b0, b1, b2, b3, b4⟩, ⟨b7, b8⟩, ⟨b9, b10⟩, b11, b12⟩ := h
  have e := add1 (x := σ 45 0) (by omega)
  refine ⟨⟨by rw [b0], b1, by rw [b0, b2], by rw [b0, b3], b4⟩, ⟨by omega, by omega⟩, ⟨b9, b10⟩, fun i hi => ?_, b12⟩
  unfold upd
  by_cases q : i = (σ 45 0).toInt.toNat
  · rw [if_pos q, if_pos q]; exact ⟨hx, hy⟩
  · rw [if_neg q, if_neg q]; exact b11 i (by omega)
theorem op_item {σ : Mm} {x y : Int32} (hI : Inv σ) : Call 120 k_X11_item [.ref 0, .int x, .int y] σ (fun r τ => Call 120 k_X12_item [.ref 88, .int x, .int y] τ (fun r' τ' => (∃ x : Int32, r = some (.int x) ∧ r' = some (.int x)) ∧ Inv τ')) := by
  obtain ⟨⟨b0, b1, b2, b3, b4, b5, b6⟩, ⟨b7, b8⟩, ⟨b9, b10⟩, b11, b12, b13⟩ := id (hI.2.2.2.2.2.1)
  have qitems : (σ 88 48).toInt = (σ 45 0).toInt := by rw [b0]
  refine Call_st 200 fun X hX => ?_
  refine ⟨rfl, ?_⟩
  refine s_within ?_
  refine ⟨fun c8 => ?_, fun c8 => ?_⟩
  · replace c8 := bI_z c8
    refine ⟨rfl, trivial, ?_⟩
    refine Call_st 200 fun Y hY => ?_
    refine ⟨rfl, ?_⟩
    refine m_isIn ?_
    refine ⟨fun m8 => ?_, fun m8 => ?_⟩
    · replace m8 := bI_z m8
      refine ⟨rfl, trivial, ?_⟩
      first | exact ⟨⟨_, rfl, rfl⟩, hI⟩ | (exfalso; (first | omega | (simp only [Int32.reduceToInt] at c8 m8 ⊢; omega)))
    · replace m8 := bI_nz m8
      refine ⟨rfl, ?_⟩
      refine m_isIn ?_
      refine ⟨fun m18 => ?_, fun m18 => ?_⟩
      · replace m18 := bI_z m18
        refine ⟨rfl, trivial, ?_⟩
        first | exact ⟨⟨_, rfl, rfl⟩, hI⟩ | (exfalso; (first | omega | (simp only [Int32.reduceToInt] at c8 m8 m18 ⊢; omega)))
      · replace m18 := bI_nz m18
        refine ⟨fun m30 => ?_, fun m30 => ?_⟩
        · refine ⟨rfl, trivial, ?_⟩
          first | exact ⟨⟨_, rfl, rfl⟩, hI⟩ | (exfalso; (first | omega | (simp only [Int32.reduceToInt] at c8 m8 m18 m30 ⊢; omega)))
        · refine ⟨_, rfl, ⟨(by (first | omega | (simp only [Int32.reduceToInt] at c8 m8 m18 m30 ⊢; omega)) : 0 ≤ (σ 88 48).toInt), (by (first | omega | (simp only [Int32.reduceToInt] at c8 m8 m18 m30 ⊢; omega)) : (σ 88 48).toInt < 8)⟩, ?_⟩
          refine ⟨_, rfl, ⟨(by (first | omega | (simp only [Int32.reduceToInt] at c8 m8 m18 m30 ⊢; omega)) : 0 ≤ (σ 88 48).toInt), (by (first | omega | (simp only [Int32.reduceToInt] at c8 m8 m18 m30 ⊢; omega)) : (σ 88 48).toInt < 8)⟩, ?_⟩
          refine ⟨rfl, trivial, ?_⟩
          first | exact ⟨⟨_, rfl, rfl⟩, hI⟩ | (exfalso; (first | omega | (simp only [Int32.reduceToInt] at c8 m8 m18 m30 ⊢; omega)))
  · replace c8 := bI_nz c8
    refine ⟨rfl, ?_⟩
    refine s_within ?_
    refine ⟨fun c18 => ?_, fun c18 => ?_⟩
    · replace c18 := bI_z c18
      refine ⟨rfl, trivial, ?_⟩
      refine Call_st 200 fun Y hY => ?_
      refine ⟨rfl, ?_⟩
      refine m_isIn ?_
      refine ⟨fun m8 => ?_, fun m8 => ?_⟩
      · replace m8 := bI_z m8
        refine ⟨rfl, trivial, ?_⟩
        first | exact ⟨⟨_, rfl, rfl⟩, hI⟩ | (exfalso; (first | omega | (simp only [Int32.reduceToInt] at c8 c18 m8 ⊢; omega)))
      · replace m8 := bI_nz m8
        refine ⟨rfl, ?_⟩
        refine m_isIn ?_
        refine ⟨fun m18 => ?_, fun m18 => ?_⟩
        · replace m18 := bI_z m18
          refine ⟨rfl, trivial, ?_⟩
          first | exact ⟨⟨_, rfl, rfl⟩, hI⟩ | (exfalso; (first | omega | (simp only [Int32.reduceToInt] at c8 c18 m8 m18 ⊢; omega)))
        · replace m18 := bI_nz m18
          refine ⟨fun m30 => ?_, fun m30 => ?_⟩
          · refine ⟨rfl, trivial, ?_⟩
            first | exact ⟨⟨_, rfl, rfl⟩, hI⟩ | (exfalso; (first | omega | (simp only [Int32.reduceToInt] at c8 c18 m8 m18 m30 ⊢; omega)))
          · refine ⟨_, rfl, ⟨(by (first | omega | (simp only [Int32.reduceToInt] at c8 c18 m8 m18 m30 ⊢; omega)) : 0 ≤ (σ 88 48).toInt), (by (first | omega | (simp only [Int32.reduceToInt] at c8 c18 m8 m18 m30 ⊢; omega)) : (σ 88 48).toInt < 8)⟩, ?_⟩
            refine ⟨_, rfl, ⟨(by (first | omega | (simp only [Int32.reduceToInt] at c8 c18 m8 m18 m30 ⊢; omega)) : 0 ≤ (σ 88 48).toInt), (by (first | omega | (simp only [Int32.reduceToInt] at c8 c18 m8 m18 m30 ⊢; omega)) : (σ 88 48).toInt < 8)⟩, ?_⟩
            refine ⟨rfl, trivial, ?_⟩
            first | exact ⟨⟨_, rfl, rfl⟩, hI⟩ | (exfalso; (first | omega | (simp only [Int32.reduceToInt] at c8 c18 m8 m18 m30 ⊢; omega)))
    · replace c18 := bI_nz c18
      refine ⟨rfl, rfl, ?_⟩
      refine s_put (by omega) (fun h30a => ?_) (fun h30a => ?_)
      · refine ⟨fun _ => ?_, fun z => absurd (by decide) z⟩
        refine ⟨rfl, trivial, ?_⟩
        refine Call_st 200 fun Y hY => ?_
        refine ⟨rfl, ?_⟩
        refine m_isIn ?_
        refine ⟨fun m8 => ?_, fun m8 => ?_⟩
        · replace m8 := bI_z m8
          refine ⟨rfl, trivial, ?_⟩
          first | exact ⟨⟨_, rfl, rfl⟩, hI⟩ | (exfalso; (first | omega | (simp only [Int32.reduceToInt] at c8 c18 h30a m8 ⊢; omega)))
        · replace m8 := bI_nz m8
          refine ⟨rfl, ?_⟩
          refine m_isIn ?_
          refine ⟨fun m18 => ?_, fun m18 => ?_⟩
          · replace m18 := bI_z m18
            refine ⟨rfl, trivial, ?_⟩
            first | exact ⟨⟨_, rfl, rfl⟩, hI⟩ | (exfalso; (first | omega | (simp only [Int32.reduceToInt] at c8 c18 h30a m8 m18 ⊢; omega)))
          · replace m18 := bI_nz m18
            refine ⟨fun m30 => ?_, fun m30 => ?_⟩
            · refine ⟨rfl, trivial, ?_⟩
              first | exact ⟨⟨_, rfl, rfl⟩, hI⟩ | (exfalso; (first | omega | (simp only [Int32.reduceToInt] at c8 c18 h30a m8 m18 m30 ⊢; omega)))
            · refine ⟨_, rfl, ⟨(by (first | omega | (simp only [Int32.reduceToInt] at c8 c18 h30a m8 m18 m30 ⊢; omega)) : 0 ≤ (σ 88 48).toInt), (by (first | omega | (simp only [Int32.reduceToInt] at c8 c18 h30a m8 m18 m30 ⊢; omega)) : (σ 88 48).toInt < 8)⟩, ?_⟩
              refine ⟨_, rfl, ⟨(by (first | omega | (simp only [Int32.reduceToInt] at c8 c18 h30a m8 m18 m30 ⊢; omega)) : 0 ≤ (σ 88 48).toInt), (by (first | omega | (simp only [Int32.reduceToInt] at c8 c18 h30a m8 m18 m30 ⊢; omega)) : (σ 88 48).toInt < 8)⟩, ?_⟩
              refine ⟨rfl, trivial, ?_⟩
              first | exact ⟨⟨_, rfl, rfl⟩, hI⟩ | (exfalso; (first | omega | (simp only [Int32.reduceToInt] at c8 c18 h30a m8 m18 m30 ⊢; omega)))
      · refine ⟨fun z => absurd z (by decide), fun _ => ?_⟩
        refine ⟨rfl, trivial, ?_⟩
        refine nxt fun τ hτ => ?_
        have e88 : τ 88 = σ 88 := by rw [hτ]; rfl
        have qτitems : (τ 88 48).toInt = (σ 45 0).toInt := by rw [e88, b0]
        refine Call_st 200 fun Y hY => ?_
        refine ⟨rfl, ?_⟩
        refine m_isIn ?_
        refine ⟨fun m8 => ?_, fun m8 => ?_⟩
        · replace m8 := bI_z m8
          refine ⟨rfl, trivial, ?_⟩
          first
          | (exfalso; (first | omega | (simp only [Int32.reduceToInt] at c8 c18 h30a m8 ⊢; omega)); done)
          | (have z1 : (σ 45 0).toInt < 8 := by (first | omega | (simp only [Int32.reduceToInt] at c8 c18 h30a m8 ⊢; omega))
             have z2 : 1 ≤ x.toInt ∧ x.toInt ≤ 9999 := by (first | omega | (simp only [Int32.reduceToInt] at c8 c18 h30a m8 ⊢; omega))
             have z3 : 0 ≤ y.toInt ∧ y.toInt ≤ 7 := by (first | omega | (simp only [Int32.reduceToInt] at c8 c18 h30a m8 ⊢; omega))
             subst hτ
             exact ⟨⟨σ 45 0 + 1, rfl, vI_ (congrArg (· + 1) b0)⟩, ⟨(I_tr_fr (σ := σ) rfl rfl rfl rfl rfl rfl rfl rfl hI.1), (I_vo_fr (σ := σ) rfl rfl rfl rfl rfl rfl rfl rfl rfl rfl rfl rfl rfl rfl rfl hI.2.1), (I_li_fr (σ := σ) rfl rfl rfl rfl rfl rfl rfl rfl rfl rfl rfl rfl rfl rfl rfl rfl rfl rfl rfl rfl rfl hI.2.2.1), (I_or_fr (σ := σ) rfl rfl rfl hI.2.2.2.1), (I_ta_fr (σ := σ) rfl rfl rfl rfl hI.2.2.2.2.1), (c_item_ba (σ := σ) rfl rfl rfl rfl rfl rfl rfl rfl rfl rfl rfl rfl rfl rfl rfl rfl rfl rfl rfl rfl rfl hI.2.2.2.2.2.1 z1 z2 z3), (I_ex_fr (σ := σ) rfl rfl rfl rfl rfl rfl rfl rfl rfl rfl rfl hI.2.2.2.2.2.2.1), (I_gu_fr (σ := σ) rfl rfl rfl rfl rfl rfl rfl rfl rfl rfl hI.2.2.2.2.2.2.2.1), (I_sh_fr (σ := σ) rfl rfl rfl rfl rfl hI.2.2.2.2.2.2.2.2.1), (I_wa_fr (σ := σ) rfl rfl rfl rfl hI.2.2.2.2.2.2.2.2.2.1), (I_la_fr (σ := σ) rfl rfl rfl rfl rfl rfl rfl rfl rfl rfl rfl hI.2.2.2.2.2.2.2.2.2.2.1), (I_he_fr (σ := σ) rfl hI.2.2.2.2.2.2.2.2.2.2.2)⟩⟩)
        · replace m8 := bI_nz m8
          refine ⟨rfl, ?_⟩
          refine m_isIn ?_
          refine ⟨fun m18 => ?_, fun m18 => ?_⟩
          · replace m18 := bI_z m18
            refine ⟨rfl, trivial, ?_⟩
            first
            | (exfalso; (first | omega | (simp only [Int32.reduceToInt] at c8 c18 h30a m8 m18 ⊢; omega)); done)
            | (have z1 : (σ 45 0).toInt < 8 := by (first | omega | (simp only [Int32.reduceToInt] at c8 c18 h30a m8 m18 ⊢; omega))
               have z2 : 1 ≤ x.toInt ∧ x.toInt ≤ 9999 := by (first | omega | (simp only [Int32.reduceToInt] at c8 c18 h30a m8 m18 ⊢; omega))
               have z3 : 0 ≤ y.toInt ∧ y.toInt ≤ 7 := by (first | omega | (simp only [Int32.reduceToInt] at c8 c18 h30a m8 m18 ⊢; omega))
               subst hτ
               exact ⟨⟨σ 45 0 + 1, rfl, vI_ (congrArg (· + 1) b0)⟩, ⟨(I_tr_fr (σ := σ) rfl rfl rfl rfl rfl rfl rfl rfl hI.1), (I_vo_fr (σ := σ) rfl rfl rfl rfl rfl rfl rfl rfl rfl rfl rfl rfl rfl rfl rfl hI.2.1), (I_li_fr (σ := σ) rfl rfl rfl rfl rfl rfl rfl rfl rfl rfl rfl rfl rfl rfl rfl rfl rfl rfl rfl rfl rfl hI.2.2.1), (I_or_fr (σ := σ) rfl rfl rfl hI.2.2.2.1), (I_ta_fr (σ := σ) rfl rfl rfl rfl hI.2.2.2.2.1), (c_item_ba (σ := σ) rfl rfl rfl rfl rfl rfl rfl rfl rfl rfl rfl rfl rfl rfl rfl rfl rfl rfl rfl rfl rfl hI.2.2.2.2.2.1 z1 z2 z3), (I_ex_fr (σ := σ) rfl rfl rfl rfl rfl rfl rfl rfl rfl rfl rfl hI.2.2.2.2.2.2.1), (I_gu_fr (σ := σ) rfl rfl rfl rfl rfl rfl rfl rfl rfl rfl hI.2.2.2.2.2.2.2.1), (I_sh_fr (σ := σ) rfl rfl rfl rfl rfl hI.2.2.2.2.2.2.2.2.1), (I_wa_fr (σ := σ) rfl rfl rfl rfl hI.2.2.2.2.2.2.2.2.2.1), (I_la_fr (σ := σ) rfl rfl rfl rfl rfl rfl rfl rfl rfl rfl rfl hI.2.2.2.2.2.2.2.2.2.2.1), (I_he_fr (σ := σ) rfl hI.2.2.2.2.2.2.2.2.2.2.2)⟩⟩)
          · replace m18 := bI_nz m18
            refine ⟨fun m30 => ?_, fun m30 => ?_⟩
            · refine ⟨rfl, trivial, ?_⟩
              first
              | (exfalso; (first | omega | (simp only [Int32.reduceToInt] at c8 c18 h30a m8 m18 m30 ⊢; omega)); done)
              | (have z1 : (σ 45 0).toInt < 8 := by (first | omega | (simp only [Int32.reduceToInt] at c8 c18 h30a m8 m18 m30 ⊢; omega))
                 have z2 : 1 ≤ x.toInt ∧ x.toInt ≤ 9999 := by (first | omega | (simp only [Int32.reduceToInt] at c8 c18 h30a m8 m18 m30 ⊢; omega))
                 have z3 : 0 ≤ y.toInt ∧ y.toInt ≤ 7 := by (first | omega | (simp only [Int32.reduceToInt] at c8 c18 h30a m8 m18 m30 ⊢; omega))
                 subst hτ
                 exact ⟨⟨σ 45 0 + 1, rfl, vI_ (congrArg (· + 1) b0)⟩, ⟨(I_tr_fr (σ := σ) rfl rfl rfl rfl rfl rfl rfl rfl hI.1), (I_vo_fr (σ := σ) rfl rfl rfl rfl rfl rfl rfl rfl rfl rfl rfl rfl rfl rfl rfl hI.2.1), (I_li_fr (σ := σ) rfl rfl rfl rfl rfl rfl rfl rfl rfl rfl rfl rfl rfl rfl rfl rfl rfl rfl rfl rfl rfl hI.2.2.1), (I_or_fr (σ := σ) rfl rfl rfl hI.2.2.2.1), (I_ta_fr (σ := σ) rfl rfl rfl rfl hI.2.2.2.2.1), (c_item_ba (σ := σ) rfl rfl rfl rfl rfl rfl rfl rfl rfl rfl rfl rfl rfl rfl rfl rfl rfl rfl rfl rfl rfl hI.2.2.2.2.2.1 z1 z2 z3), (I_ex_fr (σ := σ) rfl rfl rfl rfl rfl rfl rfl rfl rfl rfl rfl hI.2.2.2.2.2.2.1), (I_gu_fr (σ := σ) rfl rfl rfl rfl rfl rfl rfl rfl rfl rfl hI.2.2.2.2.2.2.2.1), (I_sh_fr (σ := σ) rfl rfl rfl rfl rfl hI.2.2.2.2.2.2.2.2.1), (I_wa_fr (σ := σ) rfl rfl rfl rfl hI.2.2.2.2.2.2.2.2.2.1), (I_la_fr (σ := σ) rfl rfl rfl rfl rfl rfl rfl rfl rfl rfl rfl hI.2.2.2.2.2.2.2.2.2.2.1), (I_he_fr (σ := σ) rfl hI.2.2.2.2.2.2.2.2.2.2.2)⟩⟩)
            · refine ⟨_, rfl, ⟨(by (first | omega | (simp only [Int32.reduceToInt] at c8 c18 h30a m8 m18 m30 ⊢; omega)) : 0 ≤ (τ 88 48).toInt), (by (first | omega | (simp only [Int32.reduceToInt] at c8 c18 h30a m8 m18 m30 ⊢; omega)) : (τ 88 48).toInt < 8)⟩, ?_⟩
              refine ⟨_, rfl, ⟨(by (first | omega | (simp only [Int32.reduceToInt] at c8 c18 h30a m8 m18 m30 ⊢; omega)) : 0 ≤ (τ 88 48).toInt), (by (first | omega | (simp only [Int32.reduceToInt] at c8 c18 h30a m8 m18 m30 ⊢; omega)) : (τ 88 48).toInt < 8)⟩, ?_⟩
              refine ⟨rfl, trivial, ?_⟩
              first
              | (exfalso; (first | omega | (simp only [Int32.reduceToInt] at c8 c18 h30a m8 m18 m30 ⊢; omega)); done)
              | (have z1 : (σ 45 0).toInt < 8 := by (first | omega | (simp only [Int32.reduceToInt] at c8 c18 h30a m8 m18 m30 ⊢; omega))
                 have z2 : 1 ≤ x.toInt ∧ x.toInt ≤ 9999 := by (first | omega | (simp only [Int32.reduceToInt] at c8 c18 h30a m8 m18 m30 ⊢; omega))
                 have z3 : 0 ≤ y.toInt ∧ y.toInt ≤ 7 := by (first | omega | (simp only [Int32.reduceToInt] at c8 c18 h30a m8 m18 m30 ⊢; omega))
                 subst hτ
                 exact ⟨⟨σ 45 0 + 1, rfl, vI_ (congrArg (· + 1) b0)⟩, ⟨(I_tr_fr (σ := σ) rfl rfl rfl rfl rfl rfl rfl rfl hI.1), (I_vo_fr (σ := σ) rfl rfl rfl rfl rfl rfl rfl rfl rfl rfl rfl rfl rfl rfl rfl hI.2.1), (I_li_fr (σ := σ) rfl rfl rfl rfl rfl rfl rfl rfl rfl rfl rfl rfl rfl rfl rfl rfl rfl rfl rfl rfl rfl hI.2.2.1), (I_or_fr (σ := σ) rfl rfl rfl hI.2.2.2.1), (I_ta_fr (σ := σ) rfl rfl rfl rfl hI.2.2.2.2.1), (c_item_ba (σ := σ) rfl rfl rfl rfl rfl rfl rfl rfl rfl rfl rfl rfl rfl rfl rfl rfl rfl rfl rfl rfl rfl hI.2.2.2.2.2.1 z1 z2 z3), (I_ex_fr (σ := σ) rfl rfl rfl rfl rfl rfl rfl rfl rfl rfl rfl hI.2.2.2.2.2.2.1), (I_gu_fr (σ := σ) rfl rfl rfl rfl rfl rfl rfl rfl rfl rfl hI.2.2.2.2.2.2.2.1), (I_sh_fr (σ := σ) rfl rfl rfl rfl rfl hI.2.2.2.2.2.2.2.2.1), (I_wa_fr (σ := σ) rfl rfl rfl rfl hI.2.2.2.2.2.2.2.2.2.1), (I_la_fr (σ := σ) rfl rfl rfl rfl rfl rfl rfl rfl rfl rfl rfl hI.2.2.2.2.2.2.2.2.2.2.1), (I_he_fr (σ := σ) rfl hI.2.2.2.2.2.2.2.2.2.2.2)⟩⟩)
theorem s_isProm {d : Nat} {σ : Mm} {Q : Qt} {k a b : Int32} (hQ : Q (some (.int (bI ((k.toInt = 0 ∧ (1 ≤ a.toInt ∧ a.toInt ≤ 90) ∧ (0 ≤ b.toInt ∧ b.toInt ≤ 255)) ∨ (k.toInt = 1 ∧ (1 ≤ a.toInt ∧ a.toInt ≤ 9999) ∧ (0 ≤ b.toInt ∧ b.toInt ≤ 99999)) ∨ (k.toInt = 2 ∧ (2 ≤ a.toInt ∧ a.toInt ≤ 8) ∧ (0 ≤ b.toInt ∧ b.toInt ≤ 255)) ∨ (k.toInt = 3 ∧ (1 ≤ a.toInt ∧ a.toInt ≤ 99999) ∧ (1 ≤ b.toInt ∧ b.toInt ≤ 8)))))) σ) : Call (d + 2) k_X11_isPromotion [.int k, .int a, .int b] σ Q := by
  refine Call_st 120 fun X hX => ?_
  refine ⟨fun c1_0 => ?_, fun c1_0 => ?_⟩
  · refine ⟨rfl, ?_⟩
    refine s_within ?_
    refine ⟨fun c39 => ?_, fun c39 => ?_⟩
    · replace c39 := bI_z c39
      refine ⟨rfl, Or.inl rfl, ?_⟩
      first | exact bI_t hQ (by (first | omega | (simp only [Int32.reduceToInt] at c1_0 c39 ⊢; omega))) | exact bI_f hQ (by (first | omega | (simp only [Int32.reduceToInt] at c1_0 c39 ⊢; omega)))
    · replace c39 := bI_nz c39
      refine ⟨rfl, ?_⟩
      refine s_within ?_
      refine ⟨fun c50 => ?_, fun c50 => ?_⟩
      · replace c50 := bI_z c50
        refine ⟨rfl, Or.inl rfl, ?_⟩
        first | exact bI_t hQ (by (first | omega | (simp only [Int32.reduceToInt] at c1_0 c39 c50 ⊢; omega))) | exact bI_f hQ (by (first | omega | (simp only [Int32.reduceToInt] at c1_0 c39 c50 ⊢; omega)))
      · replace c50 := bI_nz c50
        refine ⟨rfl, Or.inr rfl, ?_⟩
        first | exact bI_t hQ (by (first | omega | (simp only [Int32.reduceToInt] at c1_0 c39 c50 ⊢; omega))) | exact bI_f hQ (by (first | omega | (simp only [Int32.reduceToInt] at c1_0 c39 c50 ⊢; omega)))
  refine ⟨fun c1_1 => ?_, fun c1_1 => ?_⟩
  · refine ⟨rfl, ?_⟩
    refine s_within ?_
    refine ⟨fun c67 => ?_, fun c67 => ?_⟩
    · replace c67 := bI_z c67
      refine ⟨rfl, Or.inl rfl, ?_⟩
      first | exact bI_t hQ (by (first | omega | (simp only [Int32.reduceToInt] at c1_0 c1_1 c67 ⊢; omega))) | exact bI_f hQ (by (first | omega | (simp only [Int32.reduceToInt] at c1_0 c1_1 c67 ⊢; omega)))
    · replace c67 := bI_nz c67
      refine ⟨rfl, ?_⟩
      refine s_within ?_
      refine ⟨fun c78 => ?_, fun c78 => ?_⟩
      · replace c78 := bI_z c78
        refine ⟨rfl, Or.inl rfl, ?_⟩
        first | exact bI_t hQ (by (first | omega | (simp only [Int32.reduceToInt] at c1_0 c1_1 c67 c78 ⊢; omega))) | exact bI_f hQ (by (first | omega | (simp only [Int32.reduceToInt] at c1_0 c1_1 c67 c78 ⊢; omega)))
      · replace c78 := bI_nz c78
        refine ⟨rfl, Or.inr rfl, ?_⟩
        first | exact bI_t hQ (by (first | omega | (simp only [Int32.reduceToInt] at c1_0 c1_1 c67 c78 ⊢; omega))) | exact bI_f hQ (by (first | omega | (simp only [Int32.reduceToInt] at c1_0 c1_1 c67 c78 ⊢; omega)))
  refine ⟨fun c1_2 => ?_, fun c1_2 => ?_⟩
  · refine ⟨rfl, ?_⟩
    refine s_within ?_
    refine ⟨fun c94 => ?_, fun c94 => ?_⟩
    · replace c94 := bI_z c94
      refine ⟨rfl, Or.inl rfl, ?_⟩
      first | exact bI_t hQ (by (first | omega | (simp only [Int32.reduceToInt] at c1_0 c1_1 c1_2 c94 ⊢; omega))) | exact bI_f hQ (by (first | omega | (simp only [Int32.reduceToInt] at c1_0 c1_1 c1_2 c94 ⊢; omega)))
    · replace c94 := bI_nz c94
      refine ⟨rfl, ?_⟩
      refine s_within ?_
      refine ⟨fun c105 => ?_, fun c105 => ?_⟩
      · replace c105 := bI_z c105
        refine ⟨rfl, Or.inl rfl, ?_⟩
        first | exact bI_t hQ (by (first | omega | (simp only [Int32.reduceToInt] at c1_0 c1_1 c1_2 c94 c105 ⊢; omega))) | exact bI_f hQ (by (first | omega | (simp only [Int32.reduceToInt] at c1_0 c1_1 c1_2 c94 c105 ⊢; omega)))
      · replace c105 := bI_nz c105
        refine ⟨rfl, Or.inr rfl, ?_⟩
        first | exact bI_t hQ (by (first | omega | (simp only [Int32.reduceToInt] at c1_0 c1_1 c1_2 c94 c105 ⊢; omega))) | exact bI_f hQ (by (first | omega | (simp only [Int32.reduceToInt] at c1_0 c1_1 c1_2 c94 c105 ⊢; omega)))
  refine ⟨fun c1_3 => ?_, fun c1_3 => ?_⟩
  · refine ⟨rfl, ?_⟩
    refine s_within ?_
    refine ⟨fun c122 => ?_, fun c122 => ?_⟩
    · replace c122 := bI_z c122
      refine ⟨rfl, Or.inl rfl, ?_⟩
      first | exact bI_t hQ (by (first | omega | (simp only [Int32.reduceToInt] at c1_0 c1_1 c1_2 c1_3 c122 ⊢; omega))) | exact bI_f hQ (by (first | omega | (simp only [Int32.reduceToInt] at c1_0 c1_1 c1_2 c1_3 c122 ⊢; omega)))
    · replace c122 := bI_nz c122
      refine ⟨rfl, ?_⟩
      refine s_within ?_
      refine ⟨fun c132 => ?_, fun c132 => ?_⟩
      · replace c132 := bI_z c132
        refine ⟨rfl, Or.inl rfl, ?_⟩
        first | exact bI_t hQ (by (first | omega | (simp only [Int32.reduceToInt] at c1_0 c1_1 c1_2 c1_3 c122 c132 ⊢; omega))) | exact bI_f hQ (by (first | omega | (simp only [Int32.reduceToInt] at c1_0 c1_1 c1_2 c1_3 c122 c132 ⊢; omega)))
      · replace c132 := bI_nz c132
        refine ⟨rfl, Or.inr rfl, ?_⟩
        first | exact bI_t hQ (by (first | omega | (simp only [Int32.reduceToInt] at c1_0 c1_1 c1_2 c1_3 c122 c132 ⊢; omega))) | exact bI_f hQ (by (first | omega | (simp only [Int32.reduceToInt] at c1_0 c1_1 c1_2 c1_3 c122 c132 ⊢; omega)))
  refine ⟨rfl, Or.inl rfl, ?_⟩
  first | exact bI_t hQ (by (first | omega | (simp only [Int32.reduceToInt] at c1_0 c1_1 c1_2 c1_3 ⊢; omega))) | exact bI_f hQ (by (first | omega | (simp only [Int32.reduceToInt] at c1_0 c1_1 c1_2 c1_3 ⊢; omega)))
theorem s_offer {d : Nat} {σ : Mm} {Q : Qt} {k a b : Int32} (h0 : 0 ≤ (σ 45 3).toInt) (h6 : (σ 45 3).toInt < 6) (hS : Q (some (.int (σ 45 3))) (wr (wr (wr (wr σ 48 (σ 45 3).toInt.toNat k) 49 (σ 45 3).toInt.toNat a) 50 (σ 45 3).toInt.toNat b) 45 3 (σ 45 3 + 1))) : Call (d + 1) k_X0_offer [.ref 45, .int k, .int a, .int b] σ Q := by
  refine Call_st 120 fun X hX => ?_
  refine ⟨fun c6 => ?_, fun c6 => ?_⟩
  · refine ⟨_, rfl, ⟨h0, h6⟩, ?_⟩
    refine ⟨_, rfl, ⟨h0, h6⟩, ?_⟩
    refine ⟨_, rfl, ⟨h0, h6⟩, ?_⟩
    refine ⟨rfl, trivial, ?_⟩
    first | (exfalso; (first | omega | (simp only [Int32.reduceToInt] at c6 ⊢; omega)); done) | (refine Qe hS ?_ rfl; exact vI_ (as1 _))
  · refine ⟨rfl, trivial, ?_⟩
    first | (exfalso; (first | omega | (simp only [Int32.reduceToInt] at c6 ⊢; omega)); done) | (refine Qe hS ?_ rfl; exact vI_ (as1 _))
theorem c_prom_ba {σ σ' : Mm} {k a b : Int32} (e46 : σ' 46 = σ 46) (e47 : σ' 47 = σ 47) (e48 : σ' 48 = upd (σ 48) (σ 45 3).toInt.toNat k) (e49 : σ' 49 = upd (σ 49) (σ 45 3).toInt.toNat a) (e50 : σ' 50 = upd (σ 50) (σ 45 3).toInt.toNat b) (e120 : σ' 120 = σ 120) (e121 : σ' 121 = σ 121) (e122 : σ' 122 = upd (σ 122) (σ 88 51).toInt.toNat k) (e123 : σ' 123 = upd (σ 123) (σ 88 51).toInt.toNat a) (e124 : σ' 124 = upd (σ 124) (σ 88 51).toInt.toNat b) (e52 : σ' 52 = σ 52) (e53 : σ' 53 = σ 53) (e54 : σ' 54 = σ 54) (e55 : σ' 55 = σ 55) (e56 : σ' 56 = σ 56) (e57 : σ' 57 = σ 57) (e125 : σ' 125 = σ 125) (p45_0 : σ' 45 0 = σ 45 0) (p45_3 : σ' 45 3 = σ 45 3 + 1) (p88_48 : σ' 88 48 = σ 88 48) (p88_51 : σ' 88 51 = σ 88 51 + 1) (h : I_ba σ) (h6 : (σ 45 3).toInt < 6) (hp : (k.toInt = 0 ∧ (1 ≤ a.toInt ∧ a.toInt ≤ 90) ∧ (0 ≤ b.toInt ∧ b.toInt ≤ 255)) ∨ (k.toInt = 1 ∧ (1 ≤ a.toInt ∧ a.toInt ≤ 9999) ∧ (0 ≤ b.toInt ∧ b.toInt ≤ 99999)) ∨ (k.toInt = 2 ∧ (2 ≤ a.toInt ∧ a.toInt ≤ 8) ∧ (0 ≤ b.toInt ∧ b.toInt ≤ 255)) ∨ (k.toInt = 3 ∧ (1 ≤ a.toInt ∧ a.toInt ≤ 99999) ∧ (1 ≤ b.toInt ∧ b.toInt ≤ 8))) : I_ba σ' := by
  unfold I_ba
  simp only [e46, e47, e48, e49, e50, e120, e121, e122, e123, e124, e52, e53, e54, e55, e56, e57, e125, p45_0, p45_3, p88_48, p88_51]
  obtain ⟨⟨b0, b1, b2, b3, b4, b5, b6⟩, ⟨b7, b8⟩, ⟨b9, b10⟩, b11, b12, b13⟩ := h
  have e := add1 (x := σ 45 3) (by omega)
  refine ⟨⟨b0, by rw [b1], b2, b3, by rw [b1, b4], by rw [b1, b5], by rw [b1, b6]⟩, ⟨b7, b8⟩, ⟨by omega, by omega⟩, b11, fun i hi => ?_, b13⟩
  unfold upd
  by_cases q : i = (σ 45 3).toInt.toNat
  · rw [if_pos q, if_pos q, if_pos q]; omega
  · rw [if_neg q, if_neg q, if_neg q]; exact b12 i (by omega)
theorem op_promotion {σ : Mm} {k a b : Int32} (hI : Inv σ) : Call 120 k_X11_promotion [.ref 0, .int k, .int a, .int b] σ (fun r τ => Call 120 k_X12_promotion [.ref 88, .int k, .int a, .int b] τ (fun r' τ' => (∃ x : Int32, r = some (.int x) ∧ r' = some (.int x)) ∧ Inv τ')) := by
  obtain ⟨⟨b0, b1, b2, b3, b4, b5, b6⟩, ⟨b7, b8⟩, ⟨b9, b10⟩, b11, b12, b13⟩ := id (hI.2.2.2.2.2.1)
  have qpromotions : (σ 88 51).toInt = (σ 45 3).toInt := by rw [b1]
  refine Call_st 200 fun X hX => ?_
  refine ⟨rfl, ?_⟩
  refine s_isProm ?_
  refine ⟨fun c6 => ?_, fun c6 => ?_⟩
  · replace c6 := bI_z c6
    refine ⟨rfl, trivial, ?_⟩
    refine Call_st 200 fun Y hY => ?_
    refine ⟨fun m1 => ?_, fun m1 => ?_⟩
    · refine ⟨rfl, ?_⟩
      refine m_isIn ?_
      refine ⟨fun m11 => ?_, fun m11 => ?_⟩
      · replace m11 := bI_z m11
        refine ⟨fun _ => ?_, fun z => absurd (by decide) z⟩
        refine ⟨rfl, trivial, ?_⟩
        first | exact ⟨⟨_, rfl, rfl⟩, hI⟩ | (exfalso; (first | omega | (simp only [Int32.reduceToInt] at c6 m1 m11 ⊢; omega)))
      · replace m11 := bI_nz m11
        refine ⟨rfl, ?_⟩
        refine m_isIn ?_
        refine ⟨fun m22 => ?_, fun m22 => ?_⟩
        · replace m22 := bI_z m22
          refine ⟨fun _ => ?_, fun z => absurd (by decide) z⟩
          refine ⟨rfl, trivial, ?_⟩
          first | exact ⟨⟨_, rfl, rfl⟩, hI⟩ | (exfalso; (first | omega | (simp only [Int32.reduceToInt] at c6 m1 m11 m22 ⊢; omega)))
        · replace m22 := bI_nz m22
          refine ⟨fun z => absurd z (by decide), fun _ => ?_⟩
          refine ⟨fun m149 => ?_, fun m149 => ?_⟩
          · refine ⟨rfl, trivial, ?_⟩
            first | exact ⟨⟨_, rfl, rfl⟩, hI⟩ | (exfalso; (first | omega | (simp only [Int32.reduceToInt] at c6 m1 m11 m22 m149 ⊢; omega)))
          · refine ⟨_, rfl, ⟨(by (first | omega | (simp only [Int32.reduceToInt] at c6 m1 m11 m22 m149 ⊢; omega)) : 0 ≤ (σ 88 51).toInt), (by (first | omega | (simp only [Int32.reduceToInt] at c6 m1 m11 m22 m149 ⊢; omega)) : (σ 88 51).toInt < 6)⟩, ?_⟩
            refine ⟨_, rfl, ⟨(by (first | omega | (simp only [Int32.reduceToInt] at c6 m1 m11 m22 m149 ⊢; omega)) : 0 ≤ (σ 88 51).toInt), (by (first | omega | (simp only [Int32.reduceToInt] at c6 m1 m11 m22 m149 ⊢; omega)) : (σ 88 51).toInt < 6)⟩, ?_⟩
            refine ⟨_, rfl, ⟨(by (first | omega | (simp only [Int32.reduceToInt] at c6 m1 m11 m22 m149 ⊢; omega)) : 0 ≤ (σ 88 51).toInt), (by (first | omega | (simp only [Int32.reduceToInt] at c6 m1 m11 m22 m149 ⊢; omega)) : (σ 88 51).toInt < 6)⟩, ?_⟩
            refine ⟨rfl, trivial, ?_⟩
            first | exact ⟨⟨_, rfl, rfl⟩, hI⟩ | (exfalso; (first | omega | (simp only [Int32.reduceToInt] at c6 m1 m11 m22 m149 ⊢; omega)))
    · refine ⟨fun m35 => ?_, fun m35 => ?_⟩
      · refine ⟨rfl, ?_⟩
        refine m_isIn ?_
        refine ⟨fun m46 => ?_, fun m46 => ?_⟩
        · replace m46 := bI_z m46
          refine ⟨fun _ => ?_, fun z => absurd (by decide) z⟩
          refine ⟨rfl, trivial, ?_⟩
          first | exact ⟨⟨_, rfl, rfl⟩, hI⟩ | (exfalso; (first | omega | (simp only [Int32.reduceToInt] at c6 m1 m35 m46 ⊢; omega)))
        · replace m46 := bI_nz m46
          refine ⟨rfl, ?_⟩
          refine m_isIn ?_
          refine ⟨fun m57 => ?_, fun m57 => ?_⟩
          · replace m57 := bI_z m57
            refine ⟨fun _ => ?_, fun z => absurd (by decide) z⟩
            refine ⟨rfl, trivial, ?_⟩
            first | exact ⟨⟨_, rfl, rfl⟩, hI⟩ | (exfalso; (first | omega | (simp only [Int32.reduceToInt] at c6 m1 m35 m46 m57 ⊢; omega)))
          · replace m57 := bI_nz m57
            refine ⟨fun z => absurd z (by decide), fun _ => ?_⟩
            refine ⟨fun m149 => ?_, fun m149 => ?_⟩
            · refine ⟨rfl, trivial, ?_⟩
              first | exact ⟨⟨_, rfl, rfl⟩, hI⟩ | (exfalso; (first | omega | (simp only [Int32.reduceToInt] at c6 m1 m35 m46 m57 m149 ⊢; omega)))
            · refine ⟨_, rfl, ⟨(by (first | omega | (simp only [Int32.reduceToInt] at c6 m1 m35 m46 m57 m149 ⊢; omega)) : 0 ≤ (σ 88 51).toInt), (by (first | omega | (simp only [Int32.reduceToInt] at c6 m1 m35 m46 m57 m149 ⊢; omega)) : (σ 88 51).toInt < 6)⟩, ?_⟩
              refine ⟨_, rfl, ⟨(by (first | omega | (simp only [Int32.reduceToInt] at c6 m1 m35 m46 m57 m149 ⊢; omega)) : 0 ≤ (σ 88 51).toInt), (by (first | omega | (simp only [Int32.reduceToInt] at c6 m1 m35 m46 m57 m149 ⊢; omega)) : (σ 88 51).toInt < 6)⟩, ?_⟩
              refine ⟨_, rfl, ⟨(by (first | omega | (simp only [Int32.reduceToInt] at c6 m1 m35 m46 m57 m149 ⊢; omega)) : 0 ≤ (σ 88 51).toInt), (by (first | omega | (simp only [Int32.reduceToInt] at c6 m1 m35 m46 m57 m149 ⊢; omega)) : (σ 88 51).toInt < 6)⟩, ?_⟩
              refine ⟨rfl, trivial, ?_⟩
              first | exact ⟨⟨_, rfl, rfl⟩, hI⟩ | (exfalso; (first | omega | (simp only [Int32.reduceToInt] at c6 m1 m35 m46 m57 m149 ⊢; omega)))
      · refine ⟨fun m70 => ?_, fun m70 => ?_⟩
        · refine ⟨rfl, ?_⟩
          refine m_isIn ?_
          refine ⟨fun m80 => ?_, fun m80 => ?_⟩
          · replace m80 := bI_z m80
            refine ⟨fun _ => ?_, fun z => absurd (by decide) z⟩
            refine ⟨rfl, trivial, ?_⟩
            first | exact ⟨⟨_, rfl, rfl⟩, hI⟩ | (exfalso; (first | omega | (simp only [Int32.reduceToInt] at c6 m1 m35 m70 m80 ⊢; omega)))
          · replace m80 := bI_nz m80
            refine ⟨rfl, ?_⟩
            refine m_isIn ?_
            refine ⟨fun m91 => ?_, fun m91 => ?_⟩
            · replace m91 := bI_z m91
              refine ⟨fun _ => ?_, fun z => absurd (by decide) z⟩
              refine ⟨rfl, trivial, ?_⟩
              first | exact ⟨⟨_, rfl, rfl⟩, hI⟩ | (exfalso; (first | omega | (simp only [Int32.reduceToInt] at c6 m1 m35 m70 m80 m91 ⊢; omega)))
            · replace m91 := bI_nz m91
              refine ⟨fun z => absurd z (by decide), fun _ => ?_⟩
              refine ⟨fun m149 => ?_, fun m149 => ?_⟩
              · refine ⟨rfl, trivial, ?_⟩
                first | exact ⟨⟨_, rfl, rfl⟩, hI⟩ | (exfalso; (first | omega | (simp only [Int32.reduceToInt] at c6 m1 m35 m70 m80 m91 m149 ⊢; omega)))
              · refine ⟨_, rfl, ⟨(by (first | omega | (simp only [Int32.reduceToInt] at c6 m1 m35 m70 m80 m91 m149 ⊢; omega)) : 0 ≤ (σ 88 51).toInt), (by (first | omega | (simp only [Int32.reduceToInt] at c6 m1 m35 m70 m80 m91 m149 ⊢; omega)) : (σ 88 51).toInt < 6)⟩, ?_⟩
                refine ⟨_, rfl, ⟨(by (first | omega | (simp only [Int32.reduceToInt] at c6 m1 m35 m70 m80 m91 m149 ⊢; omega)) : 0 ≤ (σ 88 51).toInt), (by (first | omega | (simp only [Int32.reduceToInt] at c6 m1 m35 m70 m80 m91 m149 ⊢; omega)) : (σ 88 51).toInt < 6)⟩, ?_⟩
                refine ⟨_, rfl, ⟨(by (first | omega | (simp only [Int32.reduceToInt] at c6 m1 m35 m70 m80 m91 m149 ⊢; omega)) : 0 ≤ (σ 88 51).toInt), (by (first | omega | (simp only [Int32.reduceToInt] at c6 m1 m35 m70 m80 m91 m149 ⊢; omega)) : (σ 88 51).toInt < 6)⟩, ?_⟩
                refine ⟨rfl, trivial, ?_⟩
                first | exact ⟨⟨_, rfl, rfl⟩, hI⟩ | (exfalso; (first | omega | (simp only [Int32.reduceToInt] at c6 m1 m35 m70 m80 m91 m149 ⊢; omega)))
        · refine ⟨fun m104 => ?_, fun m104 => ?_⟩
          · refine ⟨rfl, ?_⟩
            refine m_isIn ?_
            refine ⟨fun m115 => ?_, fun m115 => ?_⟩
            · replace m115 := bI_z m115
              refine ⟨fun _ => ?_, fun z => absurd (by decide) z⟩
              refine ⟨rfl, trivial, ?_⟩
              first | exact ⟨⟨_, rfl, rfl⟩, hI⟩ | (exfalso; (first | omega | (simp only [Int32.reduceToInt] at c6 m1 m35 m70 m104 m115 ⊢; omega)))
            · replace m115 := bI_nz m115
              refine ⟨rfl, ?_⟩
              refine m_isIn ?_
              refine ⟨fun m125 => ?_, fun m125 => ?_⟩
              · replace m125 := bI_z m125
                refine ⟨fun _ => ?_, fun z => absurd (by decide) z⟩
                refine ⟨rfl, trivial, ?_⟩
                first | exact ⟨⟨_, rfl, rfl⟩, hI⟩ | (exfalso; (first | omega | (simp only [Int32.reduceToInt] at c6 m1 m35 m70 m104 m115 m125 ⊢; omega)))
              · replace m125 := bI_nz m125
                refine ⟨fun z => absurd z (by decide), fun _ => ?_⟩
                refine ⟨fun m149 => ?_, fun m149 => ?_⟩
                · refine ⟨rfl, trivial, ?_⟩
                  first | exact ⟨⟨_, rfl, rfl⟩, hI⟩ | (exfalso; (first | omega | (simp only [Int32.reduceToInt] at c6 m1 m35 m70 m104 m115 m125 m149 ⊢; omega)))
                · refine ⟨_, rfl, ⟨(by (first | omega | (simp only [Int32.reduceToInt] at c6 m1 m35 m70 m104 m115 m125 m149 ⊢; omega)) : 0 ≤ (σ 88 51).toInt), (by (first | omega | (simp only [Int32.reduceToInt] at c6 m1 m35 m70 m104 m115 m125 m149 ⊢; omega)) : (σ 88 51).toInt < 6)⟩, ?_⟩
                  refine ⟨_, rfl, ⟨(by (first | omega | (simp only [Int32.reduceToInt] at c6 m1 m35 m70 m104 m115 m125 m149 ⊢; omega)) : 0 ≤ (σ 88 51).toInt), (by (first | omega | (simp only [Int32.reduceToInt] at c6 m1 m35 m70 m104 m115 m125 m149 ⊢; omega)) : (σ 88 51).toInt < 6)⟩, ?_⟩
                  refine ⟨_, rfl, ⟨(by (first | omega | (simp only [Int32.reduceToInt] at c6 m1 m35 m70 m104 m115 m125 m149 ⊢; omega)) : 0 ≤ (σ 88 51).toInt), (by (first | omega | (simp only [Int32.reduceToInt] at c6 m1 m35 m70 m104 m115 m125 m149 ⊢; omega)) : (σ 88 51).toInt < 6)⟩, ?_⟩
                  refine ⟨rfl, trivial, ?_⟩
                  first | exact ⟨⟨_, rfl, rfl⟩, hI⟩ | (exfalso; (first | omega | (simp only [Int32.reduceToInt] at c6 m1 m35 m70 m104 m115 m125 m149 ⊢; omega)))
          · refine ⟨fun _ => ?_, fun z => absurd (by decide) z⟩
            refine ⟨rfl, trivial, ?_⟩
            first | exact ⟨⟨_, rfl, rfl⟩, hI⟩ | (exfalso; (first | omega | (simp only [Int32.reduceToInt] at c6 m1 m35 m70 m104 ⊢; omega)))
  · replace c6 := bI_nz c6
    refine ⟨fun c21 => ?_, fun c21 => ?_⟩
    · refine ⟨rfl, rfl, ?_⟩
      refine s_offer (by omega) (by (first | omega | (simp only [Int32.reduceToInt] at c6 c21 ⊢; omega))) ?_
      refine ⟨rfl, trivial, ?_⟩
      refine nxt fun τ hτ => ?_
      have e88 : τ 88 = σ 88 := by rw [hτ]; rfl
      have qτpromotions : (τ 88 51).toInt = (σ 45 3).toInt := by rw [e88, b1]
      refine Call_st 200 fun Y hY => ?_
      refine ⟨fun m1 => ?_, fun m1 => ?_⟩
      · refine ⟨rfl, ?_⟩
        refine m_isIn ?_
        refine ⟨fun m11 => ?_, fun m11 => ?_⟩
        · replace m11 := bI_z m11
          refine ⟨fun _ => ?_, fun z => absurd (by decide) z⟩
          refine ⟨rfl, trivial, ?_⟩
          first
          | (exfalso; (first | omega | (simp only [Int32.reduceToInt] at c6 c21 m1 m11 ⊢; omega)); done)
          | (have z1 : (σ 45 3).toInt < 6 := by (first | omega | (simp only [Int32.reduceToInt] at c6 c21 m1 m11 ⊢; omega))
             subst hτ
             exact ⟨⟨σ 45 3, rfl, vI_ ((as1 _).trans b1)⟩, ⟨(I_tr_fr (σ := σ) rfl rfl rfl rfl rfl rfl rfl rfl hI.1), (I_vo_fr (σ := σ) rfl rfl rfl rfl rfl rfl rfl rfl rfl rfl rfl rfl rfl rfl rfl hI.2.1), (I_li_fr (σ := σ) rfl rfl rfl rfl rfl rfl rfl rfl rfl rfl rfl rfl rfl rfl rfl rfl rfl rfl rfl rfl rfl hI.2.2.1), (I_or_fr (σ := σ) rfl rfl rfl hI.2.2.2.1), (I_ta_fr (σ := σ) rfl rfl rfl rfl hI.2.2.2.2.1), (c_prom_ba (σ := σ) rfl rfl rfl rfl rfl rfl rfl rfl rfl rfl rfl rfl rfl rfl rfl rfl rfl rfl rfl rfl rfl hI.2.2.2.2.2.1 z1 (by assumption)), (I_ex_fr (σ := σ) rfl rfl rfl rfl rfl rfl rfl rfl rfl rfl rfl hI.2.2.2.2.2.2.1), (I_gu_fr (σ := σ) rfl rfl rfl rfl rfl rfl rfl rfl rfl rfl hI.2.2.2.2.2.2.2.1), (I_sh_fr (σ := σ) rfl rfl rfl rfl rfl hI.2.2.2.2.2.2.2.2.1), (I_wa_fr (σ := σ) rfl rfl rfl rfl hI.2.2.2.2.2.2.2.2.2.1), (I_la_fr (σ := σ) rfl rfl rfl rfl rfl rfl rfl rfl rfl rfl rfl hI.2.2.2.2.2.2.2.2.2.2.1), (I_he_fr (σ := σ) rfl hI.2.2.2.2.2.2.2.2.2.2.2)⟩⟩)
        · replace m11 := bI_nz m11
          refine ⟨rfl, ?_⟩
          refine m_isIn ?_
          refine ⟨fun m22 => ?_, fun m22 => ?_⟩
          · replace m22 := bI_z m22
            refine ⟨fun _ => ?_, fun z => absurd (by decide) z⟩
            refine ⟨rfl, trivial, ?_⟩
            first
            | (exfalso; (first | omega | (simp only [Int32.reduceToInt] at c6 c21 m1 m11 m22 ⊢; omega)); done)
            | (have z1 : (σ 45 3).toInt < 6 := by (first | omega | (simp only [Int32.reduceToInt] at c6 c21 m1 m11 m22 ⊢; omega))
               subst hτ
               exact ⟨⟨σ 45 3, rfl, vI_ ((as1 _).trans b1)⟩, ⟨(I_tr_fr (σ := σ) rfl rfl rfl rfl rfl rfl rfl rfl hI.1), (I_vo_fr (σ := σ) rfl rfl rfl rfl rfl rfl rfl rfl rfl rfl rfl rfl rfl rfl rfl hI.2.1), (I_li_fr (σ := σ) rfl rfl rfl rfl rfl rfl rfl rfl rfl rfl rfl rfl rfl rfl rfl rfl rfl rfl rfl rfl rfl hI.2.2.1), (I_or_fr (σ := σ) rfl rfl rfl hI.2.2.2.1), (I_ta_fr (σ := σ) rfl rfl rfl rfl hI.2.2.2.2.1), (c_prom_ba (σ := σ) rfl rfl rfl rfl rfl rfl rfl rfl rfl rfl rfl rfl rfl rfl rfl rfl rfl rfl rfl rfl rfl hI.2.2.2.2.2.1 z1 (by assumption)), (I_ex_fr (σ := σ) rfl rfl rfl rfl rfl rfl rfl rfl rfl rfl rfl hI.2.2.2.2.2.2.1), (I_gu_fr (σ := σ) rfl rfl rfl rfl rfl rfl rfl rfl rfl rfl hI.2.2.2.2.2.2.2.1), (I_sh_fr (σ := σ) rfl rfl rfl rfl rfl hI.2.2.2.2.2.2.2.2.1), (I_wa_fr (σ := σ) rfl rfl rfl rfl hI.2.2.2.2.2.2.2.2.2.1), (I_la_fr (σ := σ) rfl rfl rfl rfl rfl rfl rfl rfl rfl rfl rfl hI.2.2.2.2.2.2.2.2.2.2.1), (I_he_fr (σ := σ) rfl hI.2.2.2.2.2.2.2.2.2.2.2)⟩⟩)
          · replace m22 := bI_nz m22
            refine ⟨fun z => absurd z (by decide), fun _ => ?_⟩
            refine ⟨fun m149 => ?_, fun m149 => ?_⟩
            · refine ⟨rfl, trivial, ?_⟩
              first
              | (exfalso; (first | omega | (simp only [Int32.reduceToInt] at c6 c21 m1 m11 m22 m149 ⊢; omega)); done)
              | (have z1 : (σ 45 3).toInt < 6 := by (first | omega | (simp only [Int32.reduceToInt] at c6 c21 m1 m11 m22 m149 ⊢; omega))
                 subst hτ
                 exact ⟨⟨σ 45 3, rfl, vI_ ((as1 _).trans b1)⟩, ⟨(I_tr_fr (σ := σ) rfl rfl rfl rfl rfl rfl rfl rfl hI.1), (I_vo_fr (σ := σ) rfl rfl rfl rfl rfl rfl rfl rfl rfl rfl rfl rfl rfl rfl rfl hI.2.1), (I_li_fr (σ := σ) rfl rfl rfl rfl rfl rfl rfl rfl rfl rfl rfl rfl rfl rfl rfl rfl rfl rfl rfl rfl rfl hI.2.2.1), (I_or_fr (σ := σ) rfl rfl rfl hI.2.2.2.1), (I_ta_fr (σ := σ) rfl rfl rfl rfl hI.2.2.2.2.1), (c_prom_ba (σ := σ) rfl rfl rfl rfl rfl rfl rfl rfl rfl rfl rfl rfl rfl rfl rfl rfl rfl rfl rfl rfl rfl hI.2.2.2.2.2.1 z1 (by assumption)), (I_ex_fr (σ := σ) rfl rfl rfl rfl rfl rfl rfl rfl rfl rfl rfl hI.2.2.2.2.2.2.1), (I_gu_fr (σ := σ) rfl rfl rfl rfl rfl rfl rfl rfl rfl rfl hI.2.2.2.2.2.2.2.1), (I_sh_fr (σ := σ) rfl rfl rfl rfl rfl hI.2.2.2.2.2.2.2.2.1), (I_wa_fr (σ := σ) rfl rfl rfl rfl hI.2.2.2.2.2.2.2.2.2.1), (I_la_fr (σ := σ) rfl rfl rfl rfl rfl rfl rfl rfl rfl rfl rfl hI.2.2.2.2.2.2.2.2.2.2.1), (I_he_fr (σ := σ) rfl hI.2.2.2.2.2.2.2.2.2.2.2)⟩⟩)
            · refine ⟨_, rfl, ⟨(by (first | omega | (simp only [Int32.reduceToInt] at c6 c21 m1 m11 m22 m149 ⊢; omega)) : 0 ≤ (τ 88 51).toInt), (by (first | omega | (simp only [Int32.reduceToInt] at c6 c21 m1 m11 m22 m149 ⊢; omega)) : (τ 88 51).toInt < 6)⟩, ?_⟩
              refine ⟨_, rfl, ⟨(by (first | omega | (simp only [Int32.reduceToInt] at c6 c21 m1 m11 m22 m149 ⊢; omega)) : 0 ≤ (τ 88 51).toInt), (by (first | omega | (simp only [Int32.reduceToInt] at c6 c21 m1 m11 m22 m149 ⊢; omega)) : (τ 88 51).toInt < 6)⟩, ?_⟩
              refine ⟨_, rfl, ⟨(by (first | omega | (simp only [Int32.reduceToInt] at c6 c21 m1 m11 m22 m149 ⊢; omega)) : 0 ≤ (τ 88 51).toInt), (by (first | omega | (simp only [Int32.reduceToInt] at c6 c21 m1 m11 m22 m149 ⊢; omega)) : (τ 88 51).toInt < 6)⟩, ?_⟩
              refine ⟨rfl, trivial, ?_⟩
              first
              | (exfalso; (first | omega | (simp only [Int32.reduceToInt] at c6 c21 m1 m11 m22 m149 ⊢; omega)); done)
              | (have z1 : (σ 45 3).toInt < 6 := by (first | omega | (simp only [Int32.reduceToInt] at c6 c21 m1 m11 m22 m149 ⊢; omega))
                 subst hτ
                 exact ⟨⟨σ 45 3, rfl, vI_ ((as1 _).trans b1)⟩, ⟨(I_tr_fr (σ := σ) rfl rfl rfl rfl rfl rfl rfl rfl hI.1), (I_vo_fr (σ := σ) rfl rfl rfl rfl rfl rfl rfl rfl rfl rfl rfl rfl rfl rfl rfl hI.2.1), (I_li_fr (σ := σ) rfl rfl rfl rfl rfl rfl rfl rfl rfl rfl rfl rfl rfl rfl rfl rfl rfl rfl rfl rfl rfl hI.2.2.1), (I_or_fr (σ := σ) rfl rfl rfl hI.2.2.2.1), (I_ta_fr (σ := σ) rfl rfl rfl rfl hI.2.2.2.2.1), (c_prom_ba (σ := σ) rfl rfl rfl rfl rfl rfl rfl rfl rfl rfl rfl rfl rfl rfl rfl rfl rfl rfl rfl rfl rfl hI.2.2.2.2.2.1 z1 (by assumption)), (I_ex_fr (σ := σ) rfl rfl rfl rfl rfl rfl rfl rfl rfl rfl rfl hI.2.2.2.2.2.2.1), (I_gu_fr (σ := σ) rfl rfl rfl rfl rfl rfl rfl rfl rfl rfl hI.2.2.2.2.2.2.2.1), (I_sh_fr (σ := σ) rfl rfl rfl rfl rfl hI.2.2.2.2.2.2.2.2.1), (I_wa_fr (σ := σ) rfl rfl rfl rfl hI.2.2.2.2.2.2.2.2.2.1), (I_la_fr (σ := σ) rfl rfl rfl rfl rfl rfl rfl rfl rfl rfl rfl hI.2.2.2.2.2.2.2.2.2.2.1), (I_he_fr (σ := σ) rfl hI.2.2.2.2.2.2.2.2.2.2.2)⟩⟩)
      · refine ⟨fun m35 => ?_, fun m35 => ?_⟩
        · refine ⟨rfl, ?_⟩
          refine m_isIn ?_
          refine ⟨fun m46 => ?_, fun m46 => ?_⟩
          · replace m46 := bI_z m46
            refine ⟨fun _ => ?_, fun z => absurd (by decide) z⟩
            refine ⟨rfl, trivial, ?_⟩
            first
            | (exfalso; (first | omega | (simp only [Int32.reduceToInt] at c6 c21 m1 m35 m46 ⊢; omega)); done)
            | (have z1 : (σ 45 3).toInt < 6 := by (first | omega | (simp only [Int32.reduceToInt] at c6 c21 m1 m35 m46 ⊢; omega))
               subst hτ
               exact ⟨⟨σ 45 3, rfl, vI_ ((as1 _).trans b1)⟩, ⟨(I_tr_fr (σ := σ) rfl rfl rfl rfl rfl rfl rfl rfl hI.1), (I_vo_fr (σ := σ) rfl rfl rfl rfl rfl rfl rfl rfl rfl rfl rfl rfl rfl rfl rfl hI.2.1), (I_li_fr (σ := σ) rfl rfl rfl rfl rfl rfl rfl rfl rfl rfl rfl rfl rfl rfl rfl rfl rfl rfl rfl rfl rfl hI.2.2.1), (I_or_fr (σ := σ) rfl rfl rfl hI.2.2.2.1), (I_ta_fr (σ := σ) rfl rfl rfl rfl hI.2.2.2.2.1), (c_prom_ba (σ := σ) rfl rfl rfl rfl rfl rfl rfl rfl rfl rfl rfl rfl rfl rfl rfl rfl rfl rfl rfl rfl rfl hI.2.2.2.2.2.1 z1 (by assumption)), (I_ex_fr (σ := σ) rfl rfl rfl rfl rfl rfl rfl rfl rfl rfl rfl hI.2.2.2.2.2.2.1), (I_gu_fr (σ := σ) rfl rfl rfl rfl rfl rfl rfl rfl rfl rfl hI.2.2.2.2.2.2.2.1), (I_sh_fr (σ := σ) rfl rfl rfl rfl rfl hI.2.2.2.2.2.2.2.2.1), (I_wa_fr (σ := σ) rfl rfl rfl rfl hI.2.2.2.2.2.2.2.2.2.1), (I_la_fr (σ := σ) rfl rfl rfl rfl rfl rfl rfl rfl rfl rfl rfl hI.2.2.2.2.2.2.2.2.2.2.1), (I_he_fr (σ := σ) rfl hI.2.2.2.2.2.2.2.2.2.2.2)⟩⟩)
          · replace m46 := bI_nz m46
            refine ⟨rfl, ?_⟩
            refine m_isIn ?_
            refine ⟨fun m57 => ?_, fun m57 => ?_⟩
            · replace m57 := bI_z m57
              refine ⟨fun _ => ?_, fun z => absurd (by decide) z⟩
              refine ⟨rfl, trivial, ?_⟩
              first
              | (exfalso; (first | omega | (simp only [Int32.reduceToInt] at c6 c21 m1 m35 m46 m57 ⊢; omega)); done)
              | (have z1 : (σ 45 3).toInt < 6 := by (first | omega | (simp only [Int32.reduceToInt] at c6 c21 m1 m35 m46 m57 ⊢; omega))
                 subst hτ
                 exact ⟨⟨σ 45 3, rfl, vI_ ((as1 _).trans b1)⟩, ⟨(I_tr_fr (σ := σ) rfl rfl rfl rfl rfl rfl rfl rfl hI.1), (I_vo_fr (σ := σ) rfl rfl rfl rfl rfl rfl rfl rfl rfl rfl rfl rfl rfl rfl rfl hI.2.1), (I_li_fr (σ := σ) rfl rfl rfl rfl rfl rfl rfl rfl rfl rfl rfl rfl rfl rfl rfl rfl rfl rfl rfl rfl rfl hI.2.2.1), (I_or_fr (σ := σ) rfl rfl rfl hI.2.2.2.1), (I_ta_fr (σ := σ) rfl rfl rfl rfl hI.2.2.2.2.1), (c_prom_ba (σ := σ) rfl rfl rfl rfl rfl rfl rfl rfl rfl rfl rfl rfl rfl rfl rfl rfl rfl rfl rfl rfl rfl hI.2.2.2.2.2.1 z1 (by assumption)), (I_ex_fr (σ := σ) rfl rfl rfl rfl rfl rfl rfl rfl rfl rfl rfl hI.2.2.2.2.2.2.1), (I_gu_fr (σ := σ) rfl rfl rfl rfl rfl rfl rfl rfl rfl rfl hI.2.2.2.2.2.2.2.1), (I_sh_fr (σ := σ) rfl rfl rfl rfl rfl hI.2.2.2.2.2.2.2.2.1), (I_wa_fr (σ := σ) rfl rfl rfl rfl hI.2.2.2.2.2.2.2.2.2.1), (I_la_fr (σ := σ) rfl rfl rfl rfl rfl rfl rfl rfl rfl rfl rfl hI.2.2.2.2.2.2.2.2.2.2.1), (I_he_fr (σ := σ) rfl hI.2.2.2.2.2.2.2.2.2.2.2)⟩⟩)
            · replace m57 := bI_nz m57
              refine ⟨fun z => absurd z (by decide), fun _ => ?_⟩
              refine ⟨fun m149 => ?_, fun m149 => ?_⟩
              · refine ⟨rfl, trivial, ?_⟩
                first
                | (exfalso; (first | omega | (simp only [Int32.reduceToInt] at c6 c21 m1 m35 m46 m57 m149 ⊢; omega)); done)
                | (have z1 : (σ 45 3).toInt < 6 := by (first | omega | (simp only [Int32.reduceToInt] at c6 c21 m1 m35 m46 m57 m149 ⊢; omega))
                   subst hτ
                   exact ⟨⟨σ 45 3, rfl, vI_ ((as1 _).trans b1)⟩, ⟨(I_tr_fr (σ := σ) rfl rfl rfl rfl rfl rfl rfl rfl hI.1), (I_vo_fr (σ := σ) rfl rfl rfl rfl rfl rfl rfl rfl rfl rfl rfl rfl rfl rfl rfl hI.2.1), (I_li_fr (σ := σ) rfl rfl rfl rfl rfl rfl rfl rfl rfl rfl rfl rfl rfl rfl rfl rfl rfl rfl rfl rfl rfl hI.2.2.1), (I_or_fr (σ := σ) rfl rfl rfl hI.2.2.2.1), (I_ta_fr (σ := σ) rfl rfl rfl rfl hI.2.2.2.2.1), (c_prom_ba (σ := σ) rfl rfl rfl rfl rfl rfl rfl rfl rfl rfl rfl rfl rfl rfl rfl rfl rfl rfl rfl rfl rfl hI.2.2.2.2.2.1 z1 (by assumption)), (I_ex_fr (σ := σ) rfl rfl rfl rfl rfl rfl rfl rfl rfl rfl rfl hI.2.2.2.2.2.2.1), (I_gu_fr (σ := σ) rfl rfl rfl rfl rfl rfl rfl rfl rfl rfl hI.2.2.2.2.2.2.2.1), (I_sh_fr (σ := σ) rfl rfl rfl rfl rfl hI.2.2.2.2.2.2.2.2.1), (I_wa_fr (σ := σ) rfl rfl rfl rfl hI.2.2.2.2.2.2.2.2.2.1), (I_la_fr (σ := σ) rfl rfl rfl rfl rfl rfl rfl rfl rfl rfl rfl hI.2.2.2.2.2.2.2.2.2.2.1), (I_he_fr (σ := σ) rfl hI.2.2.2.2.2.2.2.2.2.2.2)⟩⟩)
              · refine ⟨_, rfl, ⟨(by (first | omega | (simp only [Int32.reduceToInt] at c6 c21 m1 m35 m46 m57 m149 ⊢; omega)) : 0 ≤ (τ 88 51).toInt), (by (first | omega | (simp only [Int32.reduceToInt] at c6 c21 m1 m35 m46 m57 m149 ⊢; omega)) : (τ 88 51).toInt < 6)⟩, ?_⟩
                refine ⟨_, rfl, ⟨(by (first | omega | (simp only [Int32.reduceToInt] at c6 c21 m1 m35 m46 m57 m149 ⊢; omega)) : 0 ≤ (τ 88 51).toInt), (by (first | omega | (simp only [Int32.reduceToInt] at c6 c21 m1 m35 m46 m57 m149 ⊢; omega)) : (τ 88 51).toInt < 6)⟩, ?_⟩
                refine ⟨_, rfl, ⟨(by (first | omega | (simp only [Int32.reduceToInt] at c6 c21 m1 m35 m46 m57 m149 ⊢; omega)) : 0 ≤ (τ 88 51).toInt), (by (first | omega | (simp only [Int32.reduceToInt] at c6 c21 m1 m35 m46 m57 m149 ⊢; omega)) : (τ 88 51).toInt < 6)⟩, ?_⟩
                refine ⟨rfl, trivial, ?_⟩
                first
                | (exfalso; (first | omega | (simp only [Int32.reduceToInt] at c6 c21 m1 m35 m46 m57 m149 ⊢; omega)); done)
                | (have z1 : (σ 45 3).toInt < 6 := by (first | omega | (simp only [Int32.reduceToInt] at c6 c21 m1 m35 m46 m57 m149 ⊢; omega))
                   subst hτ
                   exact ⟨⟨σ 45 3, rfl, vI_ ((as1 _).trans b1)⟩, ⟨(I_tr_fr (σ := σ) rfl rfl rfl rfl rfl rfl rfl rfl hI.1), (I_vo_fr (σ := σ) rfl rfl rfl rfl rfl rfl rfl rfl rfl rfl rfl rfl rfl rfl rfl hI.2.1), (I_li_fr (σ := σ) rfl rfl rfl rfl rfl rfl rfl rfl rfl rfl rfl rfl rfl rfl rfl rfl rfl rfl rfl rfl rfl hI.2.2.1), (I_or_fr (σ := σ) rfl rfl rfl hI.2.2.2.1), (I_ta_fr (σ := σ) rfl rfl rfl rfl hI.2.2.2.2.1), (c_prom_ba (σ := σ) rfl rfl rfl rfl rfl rfl rfl rfl rfl rfl rfl rfl rfl rfl rfl rfl rfl rfl rfl rfl rfl hI.2.2.2.2.2.1 z1 (by assumption)), (I_ex_fr (σ := σ) rfl rfl rfl rfl rfl rfl rfl rfl rfl rfl rfl hI.2.2.2.2.2.2.1), (I_gu_fr (σ := σ) rfl rfl rfl rfl rfl rfl rfl rfl rfl rfl hI.2.2.2.2.2.2.2.1), (I_sh_fr (σ := σ) rfl rfl rfl rfl rfl hI.2.2.2.2.2.2.2.2.1), (I_wa_fr (σ := σ) rfl rfl rfl rfl hI.2.2.2.2.2.2.2.2.2.1), (I_la_fr (σ := σ) rfl rfl rfl rfl rfl rfl rfl rfl rfl rfl rfl hI.2.2.2.2.2.2.2.2.2.2.1), (I_he_fr (σ := σ) rfl hI.2.2.2.2.2.2.2.2.2.2.2)⟩⟩)
        · refine ⟨fun m70 => ?_, fun m70 => ?_⟩
          · refine ⟨rfl, ?_⟩
            refine m_isIn ?_
            refine ⟨fun m80 => ?_, fun m80 => ?_⟩
            · replace m80 := bI_z m80
              refine ⟨fun _ => ?_, fun z => absurd (by decide) z⟩
              refine ⟨rfl, trivial, ?_⟩
              first
              | (exfalso; (first | omega | (simp only [Int32.reduceToInt] at c6 c21 m1 m35 m70 m80 ⊢; omega)); done)
              | (have z1 : (σ 45 3).toInt < 6 := by (first | omega | (simp only [Int32.reduceToInt] at c6 c21 m1 m35 m70 m80 ⊢; omega))
                 subst hτ
                 exact ⟨⟨σ 45 3, rfl, vI_ ((as1 _).trans b1)⟩, ⟨(I_tr_fr (σ := σ) rfl rfl rfl rfl rfl rfl rfl rfl hI.1), (I_vo_fr (σ := σ) rfl rfl rfl rfl rfl rfl rfl rfl rfl rfl rfl rfl rfl rfl rfl hI.2.1), (I_li_fr (σ := σ) rfl rfl rfl rfl rfl rfl rfl rfl rfl rfl rfl rfl rfl rfl rfl rfl rfl rfl rfl rfl rfl hI.2.2.1), (I_or_fr (σ := σ) rfl rfl rfl hI.2.2.2.1), (I_ta_fr (σ := σ) rfl rfl rfl rfl hI.2.2.2.2.1), (c_prom_ba (σ := σ) rfl rfl rfl rfl rfl rfl rfl rfl rfl rfl rfl rfl rfl rfl rfl rfl rfl rfl rfl rfl rfl hI.2.2.2.2.2.1 z1 (by assumption)), (I_ex_fr (σ := σ) rfl rfl rfl rfl rfl rfl rfl rfl rfl rfl rfl hI.2.2.2.2.2.2.1), (I_gu_fr (σ := σ) rfl rfl rfl rfl rfl rfl rfl rfl rfl rfl hI.2.2.2.2.2.2.2.1), (I_sh_fr (σ := σ) rfl rfl rfl rfl rfl hI.2.2.2.2.2.2.2.2.1), (I_wa_fr (σ := σ) rfl rfl rfl rfl hI.2.2.2.2.2.2.2.2.2.1), (I_la_fr (σ := σ) rfl rfl rfl rfl rfl rfl rfl rfl rfl rfl rfl hI.2.2.2.2.2.2.2.2.2.2.1), (I_he_fr (σ := σ) rfl hI.2.2.2.2.2.2.2.2.2.2.2)⟩⟩)
            · replace m80 := bI_nz m80
              refine ⟨rfl, ?_⟩
              refine m_isIn ?_
              refine ⟨fun m91 => ?_, fun m91 => ?_⟩
              · replace m91 := bI_z m91
                refine ⟨fun _ => ?_, fun z => absurd (by decide) z⟩
                refine ⟨rfl, trivial, ?_⟩
                first
                | (exfalso; (first | omega | (simp only [Int32.reduceToInt] at c6 c21 m1 m35 m70 m80 m91 ⊢; omega)); done)
                | (have z1 : (σ 45 3).toInt < 6 := by (first | omega | (simp only [Int32.reduceToInt] at c6 c21 m1 m35 m70 m80 m91 ⊢; omega))
                   subst hτ
                   exact ⟨⟨σ 45 3, rfl, vI_ ((as1 _).trans b1)⟩, ⟨(I_tr_fr (σ := σ) rfl rfl rfl rfl rfl rfl rfl rfl hI.1), (I_vo_fr (σ := σ) rfl rfl rfl rfl rfl rfl rfl rfl rfl rfl rfl rfl rfl rfl rfl hI.2.1), (I_li_fr (σ := σ) rfl rfl rfl rfl rfl rfl rfl rfl rfl rfl rfl rfl rfl rfl rfl rfl rfl rfl rfl rfl rfl hI.2.2.1), (I_or_fr (σ := σ) rfl rfl rfl hI.2.2.2.1), (I_ta_fr (σ := σ) rfl rfl rfl rfl hI.2.2.2.2.1), (c_prom_ba (σ := σ) rfl rfl rfl rfl rfl rfl rfl rfl rfl rfl rfl rfl rfl rfl rfl rfl rfl rfl rfl rfl rfl hI.2.2.2.2.2.1 z1 (by assumption)), (I_ex_fr (σ := σ) rfl rfl rfl rfl rfl rfl rfl rfl rfl rfl rfl hI.2.2.2.2.2.2.1), (I_gu_fr (σ := σ) rfl rfl rfl rfl rfl rfl rfl rfl rfl rfl hI.2.2.2.2.2.2.2.1), (I_sh_fr (σ := σ) rfl rfl rfl rfl rfl hI.2.2.2.2.2.2.2.2.1), (I_wa_fr (σ := σ) rfl rfl rfl rfl hI.2.2.2.2.2.2.2.2.2.1), (I_la_fr (σ := σ) rfl rfl rfl rfl rfl rfl rfl rfl rfl rfl rfl hI.2.2.2.2.2.2.2.2.2.2.1), (I_he_fr (σ := σ) rfl hI.2.2.2.2.2.2.2.2.2.2.2)⟩⟩)
              · replace m91 := bI_nz m91
                refine ⟨fun z => absurd z (by decide), fun _ => ?_⟩
                refine ⟨fun m149 => ?_, fun m149 => ?_⟩
                · refine ⟨rfl, trivial, ?_⟩
                  first
                  | (exfalso; (first | omega | (simp only [Int32.reduceToInt] at c6 c21 m1 m35 m70 m80 m91 m149 ⊢; omega)); done)
                  | (have z1 : (σ 45 3).toInt < 6 := by (first | omega | (simp only [Int32.reduceToInt] at c6 c21 m1 m35 m70 m80 m91 m149 ⊢; omega))
                     subst hτ
                     exact ⟨⟨σ 45 3, rfl, vI_ ((as1 _).trans b1)⟩, ⟨(I_tr_fr (σ := σ) rfl rfl rfl rfl rfl rfl rfl rfl hI.1), (I_vo_fr (σ := σ) rfl rfl rfl rfl rfl rfl rfl rfl rfl rfl rfl rfl rfl rfl rfl hI.2.1), (I_li_fr (σ := σ) rfl rfl rfl rfl rfl rfl rfl rfl rfl rfl rfl rfl rfl rfl rfl rfl rfl rfl rfl rfl rfl hI.2.2.1), (I_or_fr (σ := σ) rfl rfl rfl hI.2.2.2.1), (I_ta_fr (σ := σ) rfl rfl rfl rfl hI.2.2.2.2.1), (c_prom_ba (σ := σ) rfl rfl rfl rfl rfl rfl rfl rfl rfl rfl rfl rfl rfl rfl rfl rfl rfl rfl rfl rfl rfl hI.2.2.2.2.2.1 z1 (by assumption)), (I_ex_fr (σ := σ) rfl rfl rfl rfl rfl rfl rfl rfl rfl rfl rfl hI.2.2.2.2.2.2.1), (I_gu_fr (σ := σ) rfl rfl rfl rfl rfl rfl rfl rfl rfl rfl hI.2.2.2.2.2.2.2.1), (I_sh_fr (σ := σ) rfl rfl rfl rfl rfl hI.2.2.2.2.2.2.2.2.1), (I_wa_fr (σ := σ) rfl rfl rfl rfl hI.2.2.2.2.2.2.2.2.2.1), (I_la_fr (σ := σ) rfl rfl rfl rfl rfl rfl rfl rfl rfl rfl rfl hI.2.2.2.2.2.2.2.2.2.2.1), (I_he_fr (σ := σ) rfl hI.2.2.2.2.2.2.2.2.2.2.2)⟩⟩)
                · refine ⟨_, rfl, ⟨(by (first | omega | (simp only [Int32.reduceToInt] at c6 c21 m1 m35 m70 m80 m91 m149 ⊢; omega)) : 0 ≤ (τ 88 51).toInt), (by (first | omega | (simp only [Int32.reduceToInt] at c6 c21 m1 m35 m70 m80 m91 m149 ⊢; omega)) : (τ 88 51).toInt < 6)⟩, ?_⟩
                  refine ⟨_, rfl, ⟨(by (first | omega | (simp only [Int32.reduceToInt] at c6 c21 m1 m35 m70 m80 m91 m149 ⊢; omega)) : 0 ≤ (τ 88 51).toInt), (by (first | omega | (simp only [Int32.reduceToInt] at c6 c21 m1 m35 m70 m80 m91 m149 ⊢; omega)) : (τ 88 51).toInt < 6)⟩, ?_⟩
                  refine ⟨_, rfl, ⟨(by (first | omega | (simp only [Int32.reduceToInt] at c6 c21 m1 m35 m70 m80 m91 m149 ⊢; omega)) : 0 ≤ (τ 88 51).toInt), (by (first | omega | (simp only [Int32.reduceToInt] at c6 c21 m1 m35 m70 m80 m91 m149 ⊢; omega)) : (τ 88 51).toInt < 6)⟩, ?_⟩
                  refine ⟨rfl, trivial, ?_⟩
                  first
                  | (exfalso; (first | omega | (simp only [Int32.reduceToInt] at c6 c21 m1 m35 m70 m80 m91 m149 ⊢; omega)); done)
                  | (have z1 : (σ 45 3).toInt < 6 := by (first | omega | (simp only [Int32.reduceToInt] at c6 c21 m1 m35 m70 m80 m91 m149 ⊢; omega))
                     subst hτ
                     exact ⟨⟨σ 45 3, rfl, vI_ ((as1 _).trans b1)⟩, ⟨(I_tr_fr (σ := σ) rfl rfl rfl rfl rfl rfl rfl rfl hI.1), (I_vo_fr (σ := σ) rfl rfl rfl rfl rfl rfl rfl rfl rfl rfl rfl rfl rfl rfl rfl hI.2.1), (I_li_fr (σ := σ) rfl rfl rfl rfl rfl rfl rfl rfl rfl rfl rfl rfl rfl rfl rfl rfl rfl rfl rfl rfl rfl hI.2.2.1), (I_or_fr (σ := σ) rfl rfl rfl hI.2.2.2.1), (I_ta_fr (σ := σ) rfl rfl rfl rfl hI.2.2.2.2.1), (c_prom_ba (σ := σ) rfl rfl rfl rfl rfl rfl rfl rfl rfl rfl rfl rfl rfl rfl rfl rfl rfl rfl rfl rfl rfl hI.2.2.2.2.2.1 z1 (by assumption)), (I_ex_fr (σ := σ) rfl rfl rfl rfl rfl rfl rfl rfl rfl rfl rfl hI.2.2.2.2.2.2.1), (I_gu_fr (σ := σ) rfl rfl rfl rfl rfl rfl rfl rfl rfl rfl hI.2.2.2.2.2.2.2.1), (I_sh_fr (σ := σ) rfl rfl rfl rfl rfl hI.2.2.2.2.2.2.2.2.1), (I_wa_fr (σ := σ) rfl rfl rfl rfl hI.2.2.2.2.2.2.2.2.2.1), (I_la_fr (σ := σ) rfl rfl rfl rfl rfl rfl rfl rfl rfl rfl rfl hI.2.2.2.2.2.2.2.2.2.2.1), (I_he_fr (σ := σ) rfl hI.2.2.2.2.2.2.2.2.2.2.2)⟩⟩)
          · refine ⟨fun m104 => ?_, fun m104 => ?_⟩
            · refine ⟨rfl, ?_⟩
              refine m_isIn ?_
              refine ⟨fun m115 => ?_, fun m115 => ?_⟩
              · replace m115 := bI_z m115
                refine ⟨fun _ => ?_, fun z => absurd (by decide) z⟩
                refine ⟨rfl, trivial, ?_⟩
                first
                | (exfalso; (first | omega | (simp only [Int32.reduceToInt] at c6 c21 m1 m35 m70 m104 m115 ⊢; omega)); done)
                | (have z1 : (σ 45 3).toInt < 6 := by (first | omega | (simp only [Int32.reduceToInt] at c6 c21 m1 m35 m70 m104 m115 ⊢; omega))
                   subst hτ
                   exact ⟨⟨σ 45 3, rfl, vI_ ((as1 _).trans b1)⟩, ⟨(I_tr_fr (σ := σ) rfl rfl rfl rfl rfl rfl rfl rfl hI.1), (I_vo_fr (σ := σ) rfl rfl rfl rfl rfl rfl rfl rfl rfl rfl rfl rfl rfl rfl rfl hI.2.1), (I_li_fr (σ := σ) rfl rfl rfl rfl rfl rfl rfl rfl rfl rfl rfl rfl rfl rfl rfl rfl rfl rfl rfl rfl rfl hI.2.2.1), (I_or_fr (σ := σ) rfl rfl rfl hI.2.2.2.1), (I_ta_fr (σ := σ) rfl rfl rfl rfl hI.2.2.2.2.1), (c_prom_ba (σ := σ) rfl rfl rfl rfl rfl rfl rfl rfl rfl rfl rfl rfl rfl rfl rfl rfl rfl rfl rfl rfl rfl hI.2.2.2.2.2.1 z1 (by assumption)), (I_ex_fr (σ := σ) rfl rfl rfl rfl rfl rfl rfl rfl rfl rfl rfl hI.2.2.2.2.2.2.1), (I_gu_fr (σ := σ) rfl rfl rfl rfl rfl rfl rfl rfl rfl rfl hI.2.2.2.2.2.2.2.1), (I_sh_fr (σ := σ) rfl rfl rfl rfl rfl hI.2.2.2.2.2.2.2.2.1), (I_wa_fr (σ := σ) rfl rfl rfl rfl hI.2.2.2.2.2.2.2.2.2.1), (I_la_fr (σ := σ) rfl rfl rfl rfl rfl rfl rfl rfl rfl rfl rfl hI.2.2.2.2.2.2.2.2.2.2.1), (I_he_fr (σ := σ) rfl hI.2.2.2.2.2.2.2.2.2.2.2)⟩⟩)
              · replace m115 := bI_nz m115
                refine ⟨rfl, ?_⟩
                refine m_isIn ?_
                refine ⟨fun m125 => ?_, fun m125 => ?_⟩
                · replace m125 := bI_z m125
                  refine ⟨fun _ => ?_, fun z => absurd (by decide) z⟩
                  refine ⟨rfl, trivial, ?_⟩
                  first
                  | (exfalso; (first | omega | (simp only [Int32.reduceToInt] at c6 c21 m1 m35 m70 m104 m115 m125 ⊢; omega)); done)
                  | (have z1 : (σ 45 3).toInt < 6 := by (first | omega | (simp only [Int32.reduceToInt] at c6 c21 m1 m35 m70 m104 m115 m125 ⊢; omega))
                     subst hτ
                     exact ⟨⟨σ 45 3, rfl, vI_ ((as1 _).trans b1)⟩, ⟨(I_tr_fr (σ := σ) rfl rfl rfl rfl rfl rfl rfl rfl hI.1), (I_vo_fr (σ := σ) rfl rfl rfl rfl rfl rfl rfl rfl rfl rfl rfl rfl rfl rfl rfl hI.2.1), (I_li_fr (σ := σ) rfl rfl rfl rfl rfl rfl rfl rfl rfl rfl rfl rfl rfl rfl rfl rfl rfl rfl rfl rfl rfl hI.2.2.1), (I_or_fr (σ := σ) rfl rfl rfl hI.2.2.2.1), (I_ta_fr (σ := σ) rfl rfl rfl rfl hI.2.2.2.2.1), (c_prom_ba (σ := σ) rfl rfl rfl rfl rfl rfl rfl rfl rfl rfl rfl rfl rfl rfl rfl rfl rfl rfl rfl rfl rfl hI.2.2.2.2.2.1 z1 (by assumption)), (I_ex_fr (σ := σ) rfl rfl rfl rfl rfl rfl rfl rfl rfl rfl rfl hI.2.2.2.2.2.2.1), (I_gu_fr (σ := σ) rfl rfl rfl rfl rfl rfl rfl rfl rfl rfl hI.2.2.2.2.2.2.2.1), (I_sh_fr (σ := σ) rfl rfl rfl rfl rfl hI.2.2.2.2.2.2.2.2.1), (I_wa_fr (σ := σ) rfl rfl rfl rfl hI.2.2.2.2.2.2.2.2.2.1), (I_la_fr (σ := σ) rfl rfl rfl rfl rfl rfl rfl rfl rfl rfl rfl hI.2.2.2.2.2.2.2.2.2.2.1), (I_he_fr (σ := σ) rfl hI.2.2.2.2.2.2.2.2.2.2.2)⟩⟩)
                · replace m125 := bI_nz m125
                  refine ⟨fun z => absurd z (by decide), fun _ => ?_⟩
                  refine ⟨fun m149 => ?_, fun m149 => ?_⟩
                  · refine ⟨rfl, trivial, ?_⟩
                    first
                    | (exfalso; (first | omega | (simp only [Int32.reduceToInt] at c6 c21 m1 m35 m70 m104 m115 m125 m149 ⊢; omega)); done)
                    | (have z1 : (σ 45 3).toInt < 6 := by (first | omega | (simp only [Int32.reduceToInt] at c6 c21 m1 m35 m70 m104 m115 m125 m149 ⊢; omega))
                       subst hτ
                       exact ⟨⟨σ 45 3, rfl, vI_ ((as1 _).trans b1)⟩, ⟨(I_tr_fr (σ := σ) rfl rfl rfl rfl rfl rfl rfl rfl hI.1), (I_vo_fr (σ := σ) rfl rfl rfl rfl rfl rfl rfl rfl rfl rfl rfl rfl rfl rfl rfl hI.2.1), (I_li_fr (σ := σ) rfl rfl rfl rfl rfl rfl rfl rfl rfl rfl rfl rfl rfl rfl rfl rfl rfl rfl rfl rfl rfl hI.2.2.1), (I_or_fr (σ := σ) rfl rfl rfl hI.2.2.2.1), (I_ta_fr (σ := σ) rfl rfl rfl rfl hI.2.2.2.2.1), (c_prom_ba (σ := σ) rfl rfl rfl rfl rfl rfl rfl rfl rfl rfl rfl rfl rfl rfl rfl rfl rfl rfl rfl rfl rfl hI.2.2.2.2.2.1 z1 (by assumption)), (I_ex_fr (σ := σ) rfl rfl rfl rfl rfl rfl rfl rfl rfl rfl rfl hI.2.2.2.2.2.2.1), (I_gu_fr (σ := σ) rfl rfl rfl rfl rfl rfl rfl rfl rfl rfl hI.2.2.2.2.2.2.2.1), (I_sh_fr (σ := σ) rfl rfl rfl rfl rfl hI.2.2.2.2.2.2.2.2.1), (I_wa_fr (σ := σ) rfl rfl rfl rfl hI.2.2.2.2.2.2.2.2.2.1), (I_la_fr (σ := σ) rfl rfl rfl rfl rfl rfl rfl rfl rfl rfl rfl hI.2.2.2.2.2.2.2.2.2.2.1), (I_he_fr (σ := σ) rfl hI.2.2.2.2.2.2.2.2.2.2.2)⟩⟩)
                  · refine ⟨_, rfl, ⟨(by (first | omega | (simp only [Int32.reduceToInt] at c6 c21 m1 m35 m70 m104 m115 m125 m149 ⊢; omega)) : 0 ≤ (τ 88 51).toInt), (by (first | omega | (simp only [Int32.reduceToInt] at c6 c21 m1 m35 m70 m104 m115 m125 m149 ⊢; omega)) : (τ 88 51).toInt < 6)⟩, ?_⟩
                    refine ⟨_, rfl, ⟨(by (first | omega | (simp only [Int32.reduceToInt] at c6 c21 m1 m35 m70 m104 m115 m125 m149 ⊢; omega)) : 0 ≤ (τ 88 51).toInt), (by (first | omega | (simp only [Int32.reduceToInt] at c6 c21 m1 m35 m70 m104 m115 m125 m149 ⊢; omega)) : (τ 88 51).toInt < 6)⟩, ?_⟩
                    refine ⟨_, rfl, ⟨(by (first | omega | (simp only [Int32.reduceToInt] at c6 c21 m1 m35 m70 m104 m115 m125 m149 ⊢; omega)) : 0 ≤ (τ 88 51).toInt), (by (first | omega | (simp only [Int32.reduceToInt] at c6 c21 m1 m35 m70 m104 m115 m125 m149 ⊢; omega)) : (τ 88 51).toInt < 6)⟩, ?_⟩
                    refine ⟨rfl, trivial, ?_⟩
                    first
                    | (exfalso; (first | omega | (simp only [Int32.reduceToInt] at c6 c21 m1 m35 m70 m104 m115 m125 m149 ⊢; omega)); done)
                    | (have z1 : (σ 45 3).toInt < 6 := by (first | omega | (simp only [Int32.reduceToInt] at c6 c21 m1 m35 m70 m104 m115 m125 m149 ⊢; omega))
                       subst hτ
                       exact ⟨⟨σ 45 3, rfl, vI_ ((as1 _).trans b1)⟩, ⟨(I_tr_fr (σ := σ) rfl rfl rfl rfl rfl rfl rfl rfl hI.1), (I_vo_fr (σ := σ) rfl rfl rfl rfl rfl rfl rfl rfl rfl rfl rfl rfl rfl rfl rfl hI.2.1), (I_li_fr (σ := σ) rfl rfl rfl rfl rfl rfl rfl rfl rfl rfl rfl rfl rfl rfl rfl rfl rfl rfl rfl rfl rfl hI.2.2.1), (I_or_fr (σ := σ) rfl rfl rfl hI.2.2.2.1), (I_ta_fr (σ := σ) rfl rfl rfl rfl hI.2.2.2.2.1), (c_prom_ba (σ := σ) rfl rfl rfl rfl rfl rfl rfl rfl rfl rfl rfl rfl rfl rfl rfl rfl rfl rfl rfl rfl rfl hI.2.2.2.2.2.1 z1 (by assumption)), (I_ex_fr (σ := σ) rfl rfl rfl rfl rfl rfl rfl rfl rfl rfl rfl hI.2.2.2.2.2.2.1), (I_gu_fr (σ := σ) rfl rfl rfl rfl rfl rfl rfl rfl rfl rfl hI.2.2.2.2.2.2.2.1), (I_sh_fr (σ := σ) rfl rfl rfl rfl rfl hI.2.2.2.2.2.2.2.2.1), (I_wa_fr (σ := σ) rfl rfl rfl rfl hI.2.2.2.2.2.2.2.2.2.1), (I_la_fr (σ := σ) rfl rfl rfl rfl rfl rfl rfl rfl rfl rfl rfl hI.2.2.2.2.2.2.2.2.2.2.1), (I_he_fr (σ := σ) rfl hI.2.2.2.2.2.2.2.2.2.2.2)⟩⟩)
            · refine ⟨fun _ => ?_, fun z => absurd (by decide) z⟩
              refine ⟨rfl, trivial, ?_⟩
              first
              | (exfalso; (first | omega | (simp only [Int32.reduceToInt] at c6 c21 m1 m35 m70 m104 ⊢; omega)); done)
              | (have z1 : (σ 45 3).toInt < 6 := by (first | omega | (simp only [Int32.reduceToInt] at c6 c21 m1 m35 m70 m104 ⊢; omega))
                 subst hτ
                 exact ⟨⟨σ 45 3, rfl, vI_ ((as1 _).trans b1)⟩, ⟨(I_tr_fr (σ := σ) rfl rfl rfl rfl rfl rfl rfl rfl hI.1), (I_vo_fr (σ := σ) rfl rfl rfl rfl rfl rfl rfl rfl rfl rfl rfl rfl rfl rfl rfl hI.2.1), (I_li_fr (σ := σ) rfl rfl rfl rfl rfl rfl rfl rfl rfl rfl rfl rfl rfl rfl rfl rfl rfl rfl rfl rfl rfl hI.2.2.1), (I_or_fr (σ := σ) rfl rfl rfl hI.2.2.2.1), (I_ta_fr (σ := σ) rfl rfl rfl rfl hI.2.2.2.2.1), (c_prom_ba (σ := σ) rfl rfl rfl rfl rfl rfl rfl rfl rfl rfl rfl rfl rfl rfl rfl rfl rfl rfl rfl rfl rfl hI.2.2.2.2.2.1 z1 (by assumption)), (I_ex_fr (σ := σ) rfl rfl rfl rfl rfl rfl rfl rfl rfl rfl rfl hI.2.2.2.2.2.2.1), (I_gu_fr (σ := σ) rfl rfl rfl rfl rfl rfl rfl rfl rfl rfl hI.2.2.2.2.2.2.2.1), (I_sh_fr (σ := σ) rfl rfl rfl rfl rfl hI.2.2.2.2.2.2.2.2.1), (I_wa_fr (σ := σ) rfl rfl rfl rfl hI.2.2.2.2.2.2.2.2.2.1), (I_la_fr (σ := σ) rfl rfl rfl rfl rfl rfl rfl rfl rfl rfl rfl hI.2.2.2.2.2.2.2.2.2.2.1), (I_he_fr (σ := σ) rfl hI.2.2.2.2.2.2.2.2.2.2.2)⟩⟩)
    · refine ⟨rfl, trivial, ?_⟩
      refine Call_st 200 fun Y hY => ?_
      refine ⟨fun m1 => ?_, fun m1 => ?_⟩
      · refine ⟨rfl, ?_⟩
        refine m_isIn ?_
        refine ⟨fun m11 => ?_, fun m11 => ?_⟩
        · replace m11 := bI_z m11
          refine ⟨fun _ => ?_, fun z => absurd (by decide) z⟩
          refine ⟨rfl, trivial, ?_⟩
          first | exact ⟨⟨_, rfl, rfl⟩, hI⟩ | (exfalso; (first | omega | (simp only [Int32.reduceToInt] at c6 c21 m1 m11 ⊢; omega)))
        · replace m11 := bI_nz m11
          refine ⟨rfl, ?_⟩
          refine m_isIn ?_
          refine ⟨fun m22 => ?_, fun m22 => ?_⟩
          · replace m22 := bI_z m22
            refine ⟨fun _ => ?_, fun z => absurd (by decide) z⟩
            refine ⟨rfl, trivial, ?_⟩
            first | exact ⟨⟨_, rfl, rfl⟩, hI⟩ | (exfalso; (first | omega | (simp only [Int32.reduceToInt] at c6 c21 m1 m11 m22 ⊢; omega)))
          · replace m22 := bI_nz m22
            refine ⟨fun z => absurd z (by decide), fun _ => ?_⟩
            refine ⟨fun m149 => ?_, fun m149 => ?_⟩
            · refine ⟨rfl, trivial, ?_⟩
              first | exact ⟨⟨_, rfl, rfl⟩, hI⟩ | (exfalso; (first | omega | (simp only [Int32.reduceToInt] at c6 c21 m1 m11 m22 m149 ⊢; omega)))
            · refine ⟨_, rfl, ⟨(by (first | omega | (simp only [Int32.reduceToInt] at c6 c21 m1 m11 m22 m149 ⊢; omega)) : 0 ≤ (σ 88 51).toInt), (by (first | omega | (simp only [Int32.reduceToInt] at c6 c21 m1 m11 m22 m149 ⊢; omega)) : (σ 88 51).toInt < 6)⟩, ?_⟩
              refine ⟨_, rfl, ⟨(by (first | omega | (simp only [Int32.reduceToInt] at c6 c21 m1 m11 m22 m149 ⊢; omega)) : 0 ≤ (σ 88 51).toInt), (by (first | omega | (simp only [Int32.reduceToInt] at c6 c21 m1 m11 m22 m149 ⊢; omega)) : (σ 88 51).toInt < 6)⟩, ?_⟩
              refine ⟨_, rfl, ⟨(by (first | omega | (simp only [Int32.reduceToInt] at c6 c21 m1 m11 m22 m149 ⊢; omega)) : 0 ≤ (σ 88 51).toInt), (by (first | omega | (simp only [Int32.reduceToInt] at c6 c21 m1 m11 m22 m149 ⊢; omega)) : (σ 88 51).toInt < 6)⟩, ?_⟩
              refine ⟨rfl, trivial, ?_⟩
              first | exact ⟨⟨_, rfl, rfl⟩, hI⟩ | (exfalso; (first | omega | (simp only [Int32.reduceToInt] at c6 c21 m1 m11 m22 m149 ⊢; omega)))
      · refine ⟨fun m35 => ?_, fun m35 => ?_⟩
        · refine ⟨rfl, ?_⟩
          refine m_isIn ?_
          refine ⟨fun m46 => ?_, fun m46 => ?_⟩
          · replace m46 := bI_z m46
            refine ⟨fun _ => ?_, fun z => absurd (by decide) z⟩
            refine ⟨rfl, trivial, ?_⟩
            first | exact ⟨⟨_, rfl, rfl⟩, hI⟩ | (exfalso; (first | omega | (simp only [Int32.reduceToInt] at c6 c21 m1 m35 m46 ⊢; omega)))
          · replace m46 := bI_nz m46
            refine ⟨rfl, ?_⟩
            refine m_isIn ?_
            refine ⟨fun m57 => ?_, fun m57 => ?_⟩
            · replace m57 := bI_z m57
              refine ⟨fun _ => ?_, fun z => absurd (by decide) z⟩
              refine ⟨rfl, trivial, ?_⟩
              first | exact ⟨⟨_, rfl, rfl⟩, hI⟩ | (exfalso; (first | omega | (simp only [Int32.reduceToInt] at c6 c21 m1 m35 m46 m57 ⊢; omega)))
            · replace m57 := bI_nz m57
              refine ⟨fun z => absurd z (by decide), fun _ => ?_⟩
              refine ⟨fun m149 => ?_, fun m149 => ?_⟩
              · refine ⟨rfl, trivial, ?_⟩
                first | exact ⟨⟨_, rfl, rfl⟩, hI⟩ | (exfalso; (first | omega | (simp only [Int32.reduceToInt] at c6 c21 m1 m35 m46 m57 m149 ⊢; omega)))
              · refine ⟨_, rfl, ⟨(by (first | omega | (simp only [Int32.reduceToInt] at c6 c21 m1 m35 m46 m57 m149 ⊢; omega)) : 0 ≤ (σ 88 51).toInt), (by (first | omega | (simp only [Int32.reduceToInt] at c6 c21 m1 m35 m46 m57 m149 ⊢; omega)) : (σ 88 51).toInt < 6)⟩, ?_⟩
                refine ⟨_, rfl, ⟨(by (first | omega | (simp only [Int32.reduceToInt] at c6 c21 m1 m35 m46 m57 m149 ⊢; omega)) : 0 ≤ (σ 88 51).toInt), (by (first | omega | (simp only [Int32.reduceToInt] at c6 c21 m1 m35 m46 m57 m149 ⊢; omega)) : (σ 88 51).toInt < 6)⟩, ?_⟩
                refine ⟨_, rfl, ⟨(by (first | omega | (simp only [Int32.reduceToInt] at c6 c21 m1 m35 m46 m57 m149 ⊢; omega)) : 0 ≤ (σ 88 51).toInt), (by (first | omega | (simp only [Int32.reduceToInt] at c6 c21 m1 m35 m46 m57 m149 ⊢; omega)) : (σ 88 51).toInt < 6)⟩, ?_⟩
                refine ⟨rfl, trivial, ?_⟩
                first | exact ⟨⟨_, rfl, rfl⟩, hI⟩ | (exfalso; (first | omega | (simp only [Int32.reduceToInt] at c6 c21 m1 m35 m46 m57 m149 ⊢; omega)))
        · refine ⟨fun m70 => ?_, fun m70 => ?_⟩
          · refine ⟨rfl, ?_⟩
            refine m_isIn ?_
            refine ⟨fun m80 => ?_, fun m80 => ?_⟩
            · replace m80 := bI_z m80
              refine ⟨fun _ => ?_, fun z => absurd (by decide) z⟩
              refine ⟨rfl, trivial, ?_⟩
              first | exact ⟨⟨_, rfl, rfl⟩, hI⟩ | (exfalso; (first | omega | (simp only [Int32.reduceToInt] at c6 c21 m1 m35 m70 m80 ⊢; omega)))
            · replace m80 := bI_nz m80
              refine ⟨rfl, ?_⟩
              refine m_isIn ?_
              refine ⟨fun m91 => ?_, fun m91 => ?_⟩
              · replace m91 := bI_z m91
                refine ⟨fun _ => ?_, fun z => absurd (by decide) z⟩
                refine ⟨rfl, trivial, ?_⟩
                first | exact ⟨⟨_, rfl, rfl⟩, hI⟩ | (exfalso; (first | omega | (simp only [Int32.reduceToInt] at c6 c21 m1 m35 m70 m80 m91 ⊢; omega)))
              · replace m91 := bI_nz m91
                refine ⟨fun z => absurd z (by decide), fun _ => ?_⟩
                refine ⟨fun m149 => ?_, fun m149 => ?_⟩
                · refine ⟨rfl, trivial, ?_⟩
                  first | exact ⟨⟨_, rfl, rfl⟩, hI⟩ | (exfalso; (first | omega | (simp only [Int32.reduceToInt] at c6 c21 m1 m35 m70 m80 m91 m149 ⊢; omega)))
                · refine ⟨_, rfl, ⟨(by (first | omega | (simp only [Int32.reduceToInt] at c6 c21 m1 m35 m70 m80 m91 m149 ⊢; omega)) : 0 ≤ (σ 88 51).toInt), (by (first | omega | (simp only [Int32.reduceToInt] at c6 c21 m1 m35 m70 m80 m91 m149 ⊢; omega)) : (σ 88 51).toInt < 6)⟩, ?_⟩
                  refine ⟨_, rfl, ⟨(by (first | omega | (simp only [Int32.reduceToInt] at c6 c21 m1 m35 m70 m80 m91 m149 ⊢; omega)) : 0 ≤ (σ 88 51).toInt), (by (first | omega | (simp only [Int32.reduceToInt] at c6 c21 m1 m35 m70 m80 m91 m149 ⊢; omega)) : (σ 88 51).toInt < 6)⟩, ?_⟩
                  refine ⟨_, rfl, ⟨(by (first | omega | (simp only [Int32.reduceToInt] at c6 c21 m1 m35 m70 m80 m91 m149 ⊢; omega)) : 0 ≤ (σ 88 51).toInt), (by (first | omega | (simp only [Int32.reduceToInt] at c6 c21 m1 m35 m70 m80 m91 m149 ⊢; omega)) : (σ 88 51).toInt < 6)⟩, ?_⟩
                  refine ⟨rfl, trivial, ?_⟩
                  first | exact ⟨⟨_, rfl, rfl⟩, hI⟩ | (exfalso; (first | omega | (simp only [Int32.reduceToInt] at c6 c21 m1 m35 m70 m80 m91 m149 ⊢; omega)))
          · refine ⟨fun m104 => ?_, fun m104 => ?_⟩
            · refine ⟨rfl, ?_⟩
              refine m_isIn ?_
              refine ⟨fun m115 => ?_, fun m115 => ?_⟩
              · replace m115 := bI_z m115
                refine ⟨fun _ => ?_, fun z => absurd (by decide) z⟩
                refine ⟨rfl, trivial, ?_⟩
                first | exact ⟨⟨_, rfl, rfl⟩, hI⟩ | (exfalso; (first | omega | (simp only [Int32.reduceToInt] at c6 c21 m1 m35 m70 m104 m115 ⊢; omega)))
              · replace m115 := bI_nz m115
                refine ⟨rfl, ?_⟩
                refine m_isIn ?_
                refine ⟨fun m125 => ?_, fun m125 => ?_⟩
                · replace m125 := bI_z m125
                  refine ⟨fun _ => ?_, fun z => absurd (by decide) z⟩
                  refine ⟨rfl, trivial, ?_⟩
                  first | exact ⟨⟨_, rfl, rfl⟩, hI⟩ | (exfalso; (first | omega | (simp only [Int32.reduceToInt] at c6 c21 m1 m35 m70 m104 m115 m125 ⊢; omega)))
                · replace m125 := bI_nz m125
                  refine ⟨fun z => absurd z (by decide), fun _ => ?_⟩
                  refine ⟨fun m149 => ?_, fun m149 => ?_⟩
                  · refine ⟨rfl, trivial, ?_⟩
                    first | exact ⟨⟨_, rfl, rfl⟩, hI⟩ | (exfalso; (first | omega | (simp only [Int32.reduceToInt] at c6 c21 m1 m35 m70 m104 m115 m125 m149 ⊢; omega)))
                  · refine ⟨_, rfl, ⟨(by (first | omega | (simp only [Int32.reduceToInt] at c6 c21 m1 m35 m70 m104 m115 m125 m149 ⊢; omega)) : 0 ≤ (σ 88 51).toInt), (by (first | omega | (simp only [Int32.reduceToInt] at c6 c21 m1 m35 m70 m104 m115 m125 m149 ⊢; omega)) : (σ 88 51).toInt < 6)⟩, ?_⟩
                    refine ⟨_, rfl, ⟨(by (first | omega | (simp only [Int32.reduceToInt] at c6 c21 m1 m35 m70 m104 m115 m125 m149 ⊢; omega)) : 0 ≤ (σ 88 51).toInt), (by (first | omega | (simp only [Int32.reduceToInt] at c6 c21 m1 m35 m70 m104 m115 m125 m149 ⊢; omega)) : (σ 88 51).toInt < 6)⟩, ?_⟩
                    refine ⟨_, rfl, ⟨(by (first | omega | (simp only [Int32.reduceToInt] at c6 c21 m1 m35 m70 m104 m115 m125 m149 ⊢; omega)) : 0 ≤ (σ 88 51).toInt), (by (first | omega | (simp only [Int32.reduceToInt] at c6 c21 m1 m35 m70 m104 m115 m125 m149 ⊢; omega)) : (σ 88 51).toInt < 6)⟩, ?_⟩
                    refine ⟨rfl, trivial, ?_⟩
                    first | exact ⟨⟨_, rfl, rfl⟩, hI⟩ | (exfalso; (first | omega | (simp only [Int32.reduceToInt] at c6 c21 m1 m35 m70 m104 m115 m125 m149 ⊢; omega)))
            · refine ⟨fun _ => ?_, fun z => absurd (by decide) z⟩
              refine ⟨rfl, trivial, ?_⟩
              first | exact ⟨⟨_, rfl, rfl⟩, hI⟩ | (exfalso; (first | omega | (simp only [Int32.reduceToInt] at c6 c21 m1 m35 m70 m104 ⊢; omega)))
theorem s_exapp {d : Nat} {σ : Mm} {Q : Qt} {f t p q : Int32} (h0 : 0 ≤ (σ 71 0).toInt) (h6 : (σ 71 0).toInt < 16) (hS : Q (some (.int (σ 71 0))) (wr (wr (wr (wr (wr σ 73 (σ 71 0).toInt.toNat f) 74 (σ 71 0).toInt.toNat t) 75 (σ 71 0).toInt.toNat p) 76 (σ 71 0).toInt.toNat q) 71 0 (σ 71 0 + 1))) : Call (d + 1) k_X1_append [.ref 71, .int f, .int t, .int p, .int q] σ Q := by
  refine Call_st 120 fun X hX => ?_
  refine ⟨fun c6 => ?_, fun c6 => ?_⟩
  · refine ⟨_, rfl, ⟨h0, h6⟩, ?_⟩
    refine ⟨_, rfl, ⟨h0, h6⟩, ?_⟩
    refine ⟨_, rfl, ⟨h0, h6⟩, ?_⟩
    refine ⟨_, rfl, ⟨h0, h6⟩, ?_⟩
    refine ⟨rfl, trivial, ?_⟩
    first | (exfalso; (first | omega | (simp only [Int32.reduceToInt] at c6 ⊢; omega)); done) | (refine Qe hS ?_ rfl; exact vI_ (as1 _))
  · refine ⟨rfl, trivial, ?_⟩
    first | (exfalso; (first | omega | (simp only [Int32.reduceToInt] at c6 ⊢; omega)); done) | (refine Qe hS ?_ rfl; exact vI_ (as1 _))
theorem c_exch_ex {σ σ' : Mm} {f t p q : Int32} (e73 : σ' 73 = upd (σ 73) (σ 71 0).toInt.toNat f) (e74 : σ' 74 = upd (σ 74) (σ 71 0).toInt.toNat t) (e75 : σ' 75 = upd (σ 75) (σ 71 0).toInt.toNat p) (e76 : σ' 76 = upd (σ 76) (σ 71 0).toInt.toNat q) (e77 : σ' 77 = σ 77) (e131 : σ' 131 = upd (σ 131) (σ 88 65).toInt.toNat f) (e132 : σ' 132 = upd (σ 132) (σ 88 65).toInt.toNat t) (e133 : σ' 133 = upd (σ 133) (σ 88 65).toInt.toNat p) (e134 : σ' 134 = upd (σ 134) (σ 88 65).toInt.toNat q) (p71_0 : σ' 71 0 = σ 71 0 + 1) (p88_65 : σ' 88 65 = σ 88 65 + 1) (h : I_ex σ) (h6 : (σ 71 0).toInt < 16) (hp : (0 ≤ f.toInt ∧ f.toInt ≤ 5) ∧ (0 ≤ t.toInt ∧ t.toInt ≤ 5) ∧ (1 ≤ p.toInt ∧ p.toInt ≤ 999) ∧ (1 ≤ q.toInt ∧ q.toInt ≤ 999)) : I_ex σ' := by
  unfold I_ex
  simp only [e73, e74, e75, e76, e77, e131, e132, e133, e134, p71_0, p88_65]
  obtain ⟨⟨x0, x1, x2, x3, x4⟩, ⟨x5, x6⟩, x7, x8⟩ := h
  have e := add1 (x := σ 71 0) (by omega)
  refine ⟨⟨by rw [x0], by rw [x0, x1], by rw [x0, x2], by rw [x0, x3], by rw [x0, x4]⟩, ⟨by omega, by omega⟩, x7, fun i hi => ?_⟩
  unfold upd
  by_cases q : i = (σ 71 0).toInt.toNat
  · rw [if_pos q, if_pos q, if_pos q, if_pos q]; exact hp
  · rw [if_neg q, if_neg q, if_neg q, if_neg q]; exact x8 i (by omega)
theorem op_exchange {σ : Mm} {f t p q : Int32} (hI : Inv σ) : Call 120 k_X11_exchange [.ref 0, .int f, .int t, .int p, .int q] σ (fun r τ => Call 120 k_X12_exchange [.ref 88, .int f, .int t, .int p, .int q] τ (fun r' τ' => (∃ x : Int32, r = some (.int x) ∧ r' = some (.int x)) ∧ Inv τ')) := by
  obtain ⟨⟨x0, x1, x2, x3, x4⟩, ⟨x5, x6⟩, x7, x8⟩ := id (hI.2.2.2.2.2.2.1)
  have qexchanges : (σ 88 65).toInt = (σ 71 0).toInt := by rw [x0]
  refine Call_st 200 fun X hX => ?_
  refine ⟨rfl, ?_⟩
  refine s_isForm ?_
  refine ⟨fun c4 => ?_, fun c4 => ?_⟩
  · replace c4 := bI_z c4
    refine ⟨rfl, trivial, ?_⟩
    refine Call_st 200 fun Y hY => ?_
    refine ⟨rfl, ?_⟩
    refine m_isForm ?_
    refine ⟨fun m4 => ?_, fun m4 => ?_⟩
    · replace m4 := bI_z m4
      refine ⟨rfl, trivial, ?_⟩
      first | exact ⟨⟨_, rfl, rfl⟩, hI⟩ | (exfalso; (first | omega | (simp only [Int32.reduceToInt] at c4 m4 ⊢; omega)))
    · replace m4 := bI_nz m4
      refine ⟨rfl, ?_⟩
      refine m_isForm ?_
      refine ⟨fun m11 => ?_, fun m11 => ?_⟩
      · replace m11 := bI_z m11
        refine ⟨rfl, trivial, ?_⟩
        first | exact ⟨⟨_, rfl, rfl⟩, hI⟩ | (exfalso; (first | omega | (simp only [Int32.reduceToInt] at c4 m4 m11 ⊢; omega)))
      · replace m11 := bI_nz m11
        refine ⟨fun m16 => ?_, fun m16 => ?_⟩
        · refine ⟨rfl, trivial, ?_⟩
          first | exact ⟨⟨_, rfl, rfl⟩, hI⟩ | (exfalso; (first | omega | (simp only [Int32.reduceToInt] at c4 m4 m11 m16 ⊢; omega)))
        · refine ⟨rfl, ?_⟩
          refine m_isIn ?_
          refine ⟨fun m27 => ?_, fun m27 => ?_⟩
          · replace m27 := bI_z m27
            refine ⟨rfl, trivial, ?_⟩
            first | exact ⟨⟨_, rfl, rfl⟩, hI⟩ | (exfalso; (first | omega | (simp only [Int32.reduceToInt] at c4 m4 m11 m16 m27 ⊢; omega)))
          · replace m27 := bI_nz m27
            refine ⟨rfl, ?_⟩
            refine m_isIn ?_
            refine ⟨fun m39 => ?_, fun m39 => ?_⟩
            · replace m39 := bI_z m39
              refine ⟨rfl, trivial, ?_⟩
              first | exact ⟨⟨_, rfl, rfl⟩, hI⟩ | (exfalso; (first | omega | (simp only [Int32.reduceToInt] at c4 m4 m11 m16 m27 m39 ⊢; omega)))
            · replace m39 := bI_nz m39
              refine ⟨fun m51 => ?_, fun m51 => ?_⟩
              · refine ⟨rfl, trivial, ?_⟩
                first | exact ⟨⟨_, rfl, rfl⟩, hI⟩ | (exfalso; (first | omega | (simp only [Int32.reduceToInt] at c4 m4 m11 m16 m27 m39 m51 ⊢; omega)))
              · refine ⟨_, rfl, ⟨(by (first | omega | (simp only [Int32.reduceToInt] at c4 m4 m11 m16 m27 m39 m51 ⊢; omega)) : 0 ≤ (σ 88 65).toInt), (by (first | omega | (simp only [Int32.reduceToInt] at c4 m4 m11 m16 m27 m39 m51 ⊢; omega)) : (σ 88 65).toInt < 16)⟩, ?_⟩
                refine ⟨_, rfl, ⟨(by (first | omega | (simp only [Int32.reduceToInt] at c4 m4 m11 m16 m27 m39 m51 ⊢; omega)) : 0 ≤ (σ 88 65).toInt), (by (first | omega | (simp only [Int32.reduceToInt] at c4 m4 m11 m16 m27 m39 m51 ⊢; omega)) : (σ 88 65).toInt < 16)⟩, ?_⟩
                refine ⟨_, rfl, ⟨(by (first | omega | (simp only [Int32.reduceToInt] at c4 m4 m11 m16 m27 m39 m51 ⊢; omega)) : 0 ≤ (σ 88 65).toInt), (by (first | omega | (simp only [Int32.reduceToInt] at c4 m4 m11 m16 m27 m39 m51 ⊢; omega)) : (σ 88 65).toInt < 16)⟩, ?_⟩
                refine ⟨_, rfl, ⟨(by (first | omega | (simp only [Int32.reduceToInt] at c4 m4 m11 m16 m27 m39 m51 ⊢; omega)) : 0 ≤ (σ 88 65).toInt), (by (first | omega | (simp only [Int32.reduceToInt] at c4 m4 m11 m16 m27 m39 m51 ⊢; omega)) : (σ 88 65).toInt < 16)⟩, ?_⟩
                refine ⟨rfl, trivial, ?_⟩
                first | exact ⟨⟨_, rfl, rfl⟩, hI⟩ | (exfalso; (first | omega | (simp only [Int32.reduceToInt] at c4 m4 m11 m16 m27 m39 m51 ⊢; omega)))
  · replace c4 := bI_nz c4
    refine ⟨rfl, ?_⟩
    refine s_isForm ?_
    refine ⟨fun c11 => ?_, fun c11 => ?_⟩
    · replace c11 := bI_z c11
      refine ⟨rfl, trivial, ?_⟩
      refine Call_st 200 fun Y hY => ?_
      refine ⟨rfl, ?_⟩
      refine m_isForm ?_
      refine ⟨fun m4 => ?_, fun m4 => ?_⟩
      · replace m4 := bI_z m4
        refine ⟨rfl, trivial, ?_⟩
        first | exact ⟨⟨_, rfl, rfl⟩, hI⟩ | (exfalso; (first | omega | (simp only [Int32.reduceToInt] at c4 c11 m4 ⊢; omega)))
      · replace m4 := bI_nz m4
        refine ⟨rfl, ?_⟩
        refine m_isForm ?_
        refine ⟨fun m11 => ?_, fun m11 => ?_⟩
        · replace m11 := bI_z m11
          refine ⟨rfl, trivial, ?_⟩
          first | exact ⟨⟨_, rfl, rfl⟩, hI⟩ | (exfalso; (first | omega | (simp only [Int32.reduceToInt] at c4 c11 m4 m11 ⊢; omega)))
        · replace m11 := bI_nz m11
          refine ⟨fun m16 => ?_, fun m16 => ?_⟩
          · refine ⟨rfl, trivial, ?_⟩
            first | exact ⟨⟨_, rfl, rfl⟩, hI⟩ | (exfalso; (first | omega | (simp only [Int32.reduceToInt] at c4 c11 m4 m11 m16 ⊢; omega)))
          · refine ⟨rfl, ?_⟩
            refine m_isIn ?_
            refine ⟨fun m27 => ?_, fun m27 => ?_⟩
            · replace m27 := bI_z m27
              refine ⟨rfl, trivial, ?_⟩
              first | exact ⟨⟨_, rfl, rfl⟩, hI⟩ | (exfalso; (first | omega | (simp only [Int32.reduceToInt] at c4 c11 m4 m11 m16 m27 ⊢; omega)))
            · replace m27 := bI_nz m27
              refine ⟨rfl, ?_⟩
              refine m_isIn ?_
              refine ⟨fun m39 => ?_, fun m39 => ?_⟩
              · replace m39 := bI_z m39
                refine ⟨rfl, trivial, ?_⟩
                first | exact ⟨⟨_, rfl, rfl⟩, hI⟩ | (exfalso; (first | omega | (simp only [Int32.reduceToInt] at c4 c11 m4 m11 m16 m27 m39 ⊢; omega)))
              · replace m39 := bI_nz m39
                refine ⟨fun m51 => ?_, fun m51 => ?_⟩
                · refine ⟨rfl, trivial, ?_⟩
                  first | exact ⟨⟨_, rfl, rfl⟩, hI⟩ | (exfalso; (first | omega | (simp only [Int32.reduceToInt] at c4 c11 m4 m11 m16 m27 m39 m51 ⊢; omega)))
                · refine ⟨_, rfl, ⟨(by (first | omega | (simp only [Int32.reduceToInt] at c4 c11 m4 m11 m16 m27 m39 m51 ⊢; omega)) : 0 ≤ (σ 88 65).toInt), (by (first | omega | (simp only [Int32.reduceToInt] at c4 c11 m4 m11 m16 m27 m39 m51 ⊢; omega)) : (σ 88 65).toInt < 16)⟩, ?_⟩
                  refine ⟨_, rfl, ⟨(by (first | omega | (simp only [Int32.reduceToInt] at c4 c11 m4 m11 m16 m27 m39 m51 ⊢; omega)) : 0 ≤ (σ 88 65).toInt), (by (first | omega | (simp only [Int32.reduceToInt] at c4 c11 m4 m11 m16 m27 m39 m51 ⊢; omega)) : (σ 88 65).toInt < 16)⟩, ?_⟩
                  refine ⟨_, rfl, ⟨(by (first | omega | (simp only [Int32.reduceToInt] at c4 c11 m4 m11 m16 m27 m39 m51 ⊢; omega)) : 0 ≤ (σ 88 65).toInt), (by (first | omega | (simp only [Int32.reduceToInt] at c4 c11 m4 m11 m16 m27 m39 m51 ⊢; omega)) : (σ 88 65).toInt < 16)⟩, ?_⟩
                  refine ⟨_, rfl, ⟨(by (first | omega | (simp only [Int32.reduceToInt] at c4 c11 m4 m11 m16 m27 m39 m51 ⊢; omega)) : 0 ≤ (σ 88 65).toInt), (by (first | omega | (simp only [Int32.reduceToInt] at c4 c11 m4 m11 m16 m27 m39 m51 ⊢; omega)) : (σ 88 65).toInt < 16)⟩, ?_⟩
                  refine ⟨rfl, trivial, ?_⟩
                  first | exact ⟨⟨_, rfl, rfl⟩, hI⟩ | (exfalso; (first | omega | (simp only [Int32.reduceToInt] at c4 c11 m4 m11 m16 m27 m39 m51 ⊢; omega)))
    · replace c11 := bI_nz c11
      refine ⟨fun c16 => ?_, fun c16 => ?_⟩
      · refine ⟨rfl, trivial, ?_⟩
        refine Call_st 200 fun Y hY => ?_
        refine ⟨rfl, ?_⟩
        refine m_isForm ?_
        refine ⟨fun m4 => ?_, fun m4 => ?_⟩
        · replace m4 := bI_z m4
          refine ⟨rfl, trivial, ?_⟩
          first | exact ⟨⟨_, rfl, rfl⟩, hI⟩ | (exfalso; (first | omega | (simp only [Int32.reduceToInt] at c4 c11 c16 m4 ⊢; omega)))
        · replace m4 := bI_nz m4
          refine ⟨rfl, ?_⟩
          refine m_isForm ?_
          refine ⟨fun m11 => ?_, fun m11 => ?_⟩
          · replace m11 := bI_z m11
            refine ⟨rfl, trivial, ?_⟩
            first | exact ⟨⟨_, rfl, rfl⟩, hI⟩ | (exfalso; (first | omega | (simp only [Int32.reduceToInt] at c4 c11 c16 m4 m11 ⊢; omega)))
          · replace m11 := bI_nz m11
            refine ⟨fun m16 => ?_, fun m16 => ?_⟩
            · refine ⟨rfl, trivial, ?_⟩
              first | exact ⟨⟨_, rfl, rfl⟩, hI⟩ | (exfalso; (first | omega | (simp only [Int32.reduceToInt] at c4 c11 c16 m4 m11 m16 ⊢; omega)))
            · refine ⟨rfl, ?_⟩
              refine m_isIn ?_
              refine ⟨fun m27 => ?_, fun m27 => ?_⟩
              · replace m27 := bI_z m27
                refine ⟨rfl, trivial, ?_⟩
                first | exact ⟨⟨_, rfl, rfl⟩, hI⟩ | (exfalso; (first | omega | (simp only [Int32.reduceToInt] at c4 c11 c16 m4 m11 m16 m27 ⊢; omega)))
              · replace m27 := bI_nz m27
                refine ⟨rfl, ?_⟩
                refine m_isIn ?_
                refine ⟨fun m39 => ?_, fun m39 => ?_⟩
                · replace m39 := bI_z m39
                  refine ⟨rfl, trivial, ?_⟩
                  first | exact ⟨⟨_, rfl, rfl⟩, hI⟩ | (exfalso; (first | omega | (simp only [Int32.reduceToInt] at c4 c11 c16 m4 m11 m16 m27 m39 ⊢; omega)))
                · replace m39 := bI_nz m39
                  refine ⟨fun m51 => ?_, fun m51 => ?_⟩
                  · refine ⟨rfl, trivial, ?_⟩
                    first | exact ⟨⟨_, rfl, rfl⟩, hI⟩ | (exfalso; (first | omega | (simp only [Int32.reduceToInt] at c4 c11 c16 m4 m11 m16 m27 m39 m51 ⊢; omega)))
                  · refine ⟨_, rfl, ⟨(by (first | omega | (simp only [Int32.reduceToInt] at c4 c11 c16 m4 m11 m16 m27 m39 m51 ⊢; omega)) : 0 ≤ (σ 88 65).toInt), (by (first | omega | (simp only [Int32.reduceToInt] at c4 c11 c16 m4 m11 m16 m27 m39 m51 ⊢; omega)) : (σ 88 65).toInt < 16)⟩, ?_⟩
                    refine ⟨_, rfl, ⟨(by (first | omega | (simp only [Int32.reduceToInt] at c4 c11 c16 m4 m11 m16 m27 m39 m51 ⊢; omega)) : 0 ≤ (σ 88 65).toInt), (by (first | omega | (simp only [Int32.reduceToInt] at c4 c11 c16 m4 m11 m16 m27 m39 m51 ⊢; omega)) : (σ 88 65).toInt < 16)⟩, ?_⟩
                    refine ⟨_, rfl, ⟨(by (first | omega | (simp only [Int32.reduceToInt] at c4 c11 c16 m4 m11 m16 m27 m39 m51 ⊢; omega)) : 0 ≤ (σ 88 65).toInt), (by (first | omega | (simp only [Int32.reduceToInt] at c4 c11 c16 m4 m11 m16 m27 m39 m51 ⊢; omega)) : (σ 88 65).toInt < 16)⟩, ?_⟩
                    refine ⟨_, rfl, ⟨(by (first | omega | (simp only [Int32.reduceToInt] at c4 c11 c16 m4 m11 m16 m27 m39 m51 ⊢; omega)) : 0 ≤ (σ 88 65).toInt), (by (first | omega | (simp only [Int32.reduceToInt] at c4 c11 c16 m4 m11 m16 m27 m39 m51 ⊢; omega)) : (σ 88 65).toInt < 16)⟩, ?_⟩
                    refine ⟨rfl, trivial, ?_⟩
                    first | exact ⟨⟨_, rfl, rfl⟩, hI⟩ | (exfalso; (first | omega | (simp only [Int32.reduceToInt] at c4 c11 c16 m4 m11 m16 m27 m39 m51 ⊢; omega)))
      · refine ⟨rfl, ?_⟩
        refine s_within ?_
        refine ⟨fun c27 => ?_, fun c27 => ?_⟩
        · replace c27 := bI_z c27
          refine ⟨rfl, trivial, ?_⟩
          refine Call_st 200 fun Y hY => ?_
          refine ⟨rfl, ?_⟩
          refine m_isForm ?_
          refine ⟨fun m4 => ?_, fun m4 => ?_⟩
          · replace m4 := bI_z m4
            refine ⟨rfl, trivial, ?_⟩
            first | exact ⟨⟨_, rfl, rfl⟩, hI⟩ | (exfalso; (first | omega | (simp only [Int32.reduceToInt] at c4 c11 c16 c27 m4 ⊢; omega)))
          · replace m4 := bI_nz m4
            refine ⟨rfl, ?_⟩
            refine m_isForm ?_
            refine ⟨fun m11 => ?_, fun m11 => ?_⟩
            · replace m11 := bI_z m11
              refine ⟨rfl, trivial, ?_⟩
              first | exact ⟨⟨_, rfl, rfl⟩, hI⟩ | (exfalso; (first | omega | (simp only [Int32.reduceToInt] at c4 c11 c16 c27 m4 m11 ⊢; omega)))
            · replace m11 := bI_nz m11
              refine ⟨fun m16 => ?_, fun m16 => ?_⟩
              · refine ⟨rfl, trivial, ?_⟩
                first | exact ⟨⟨_, rfl, rfl⟩, hI⟩ | (exfalso; (first | omega | (simp only [Int32.reduceToInt] at c4 c11 c16 c27 m4 m11 m16 ⊢; omega)))
              · refine ⟨rfl, ?_⟩
                refine m_isIn ?_
                refine ⟨fun m27 => ?_, fun m27 => ?_⟩
                · replace m27 := bI_z m27
                  refine ⟨rfl, trivial, ?_⟩
                  first | exact ⟨⟨_, rfl, rfl⟩, hI⟩ | (exfalso; (first | omega | (simp only [Int32.reduceToInt] at c4 c11 c16 c27 m4 m11 m16 m27 ⊢; omega)))
                · replace m27 := bI_nz m27
                  refine ⟨rfl, ?_⟩
                  refine m_isIn ?_
                  refine ⟨fun m39 => ?_, fun m39 => ?_⟩
                  · replace m39 := bI_z m39
                    refine ⟨rfl, trivial, ?_⟩
                    first | exact ⟨⟨_, rfl, rfl⟩, hI⟩ | (exfalso; (first | omega | (simp only [Int32.reduceToInt] at c4 c11 c16 c27 m4 m11 m16 m27 m39 ⊢; omega)))
                  · replace m39 := bI_nz m39
                    refine ⟨fun m51 => ?_, fun m51 => ?_⟩
                    · refine ⟨rfl, trivial, ?_⟩
                      first | exact ⟨⟨_, rfl, rfl⟩, hI⟩ | (exfalso; (first | omega | (simp only [Int32.reduceToInt] at c4 c11 c16 c27 m4 m11 m16 m27 m39 m51 ⊢; omega)))
                    · refine ⟨_, rfl, ⟨(by (first | omega | (simp only [Int32.reduceToInt] at c4 c11 c16 c27 m4 m11 m16 m27 m39 m51 ⊢; omega)) : 0 ≤ (σ 88 65).toInt), (by (first | omega | (simp only [Int32.reduceToInt] at c4 c11 c16 c27 m4 m11 m16 m27 m39 m51 ⊢; omega)) : (σ 88 65).toInt < 16)⟩, ?_⟩
                      refine ⟨_, rfl, ⟨(by (first | omega | (simp only [Int32.reduceToInt] at c4 c11 c16 c27 m4 m11 m16 m27 m39 m51 ⊢; omega)) : 0 ≤ (σ 88 65).toInt), (by (first | omega | (simp only [Int32.reduceToInt] at c4 c11 c16 c27 m4 m11 m16 m27 m39 m51 ⊢; omega)) : (σ 88 65).toInt < 16)⟩, ?_⟩
                      refine ⟨_, rfl, ⟨(by (first | omega | (simp only [Int32.reduceToInt] at c4 c11 c16 c27 m4 m11 m16 m27 m39 m51 ⊢; omega)) : 0 ≤ (σ 88 65).toInt), (by (first | omega | (simp only [Int32.reduceToInt] at c4 c11 c16 c27 m4 m11 m16 m27 m39 m51 ⊢; omega)) : (σ 88 65).toInt < 16)⟩, ?_⟩
                      refine ⟨_, rfl, ⟨(by (first | omega | (simp only [Int32.reduceToInt] at c4 c11 c16 c27 m4 m11 m16 m27 m39 m51 ⊢; omega)) : 0 ≤ (σ 88 65).toInt), (by (first | omega | (simp only [Int32.reduceToInt] at c4 c11 c16 c27 m4 m11 m16 m27 m39 m51 ⊢; omega)) : (σ 88 65).toInt < 16)⟩, ?_⟩
                      refine ⟨rfl, trivial, ?_⟩
                      first | exact ⟨⟨_, rfl, rfl⟩, hI⟩ | (exfalso; (first | omega | (simp only [Int32.reduceToInt] at c4 c11 c16 c27 m4 m11 m16 m27 m39 m51 ⊢; omega)))
        · replace c27 := bI_nz c27
          refine ⟨rfl, ?_⟩
          refine s_within ?_
          refine ⟨fun c39 => ?_, fun c39 => ?_⟩
          · replace c39 := bI_z c39
            refine ⟨rfl, trivial, ?_⟩
            refine Call_st 200 fun Y hY => ?_
            refine ⟨rfl, ?_⟩
            refine m_isForm ?_
            refine ⟨fun m4 => ?_, fun m4 => ?_⟩
            · replace m4 := bI_z m4
              refine ⟨rfl, trivial, ?_⟩
              first | exact ⟨⟨_, rfl, rfl⟩, hI⟩ | (exfalso; (first | omega | (simp only [Int32.reduceToInt] at c4 c11 c16 c27 c39 m4 ⊢; omega)))
            · replace m4 := bI_nz m4
              refine ⟨rfl, ?_⟩
              refine m_isForm ?_
              refine ⟨fun m11 => ?_, fun m11 => ?_⟩
              · replace m11 := bI_z m11
                refine ⟨rfl, trivial, ?_⟩
                first | exact ⟨⟨_, rfl, rfl⟩, hI⟩ | (exfalso; (first | omega | (simp only [Int32.reduceToInt] at c4 c11 c16 c27 c39 m4 m11 ⊢; omega)))
              · replace m11 := bI_nz m11
                refine ⟨fun m16 => ?_, fun m16 => ?_⟩
                · refine ⟨rfl, trivial, ?_⟩
                  first | exact ⟨⟨_, rfl, rfl⟩, hI⟩ | (exfalso; (first | omega | (simp only [Int32.reduceToInt] at c4 c11 c16 c27 c39 m4 m11 m16 ⊢; omega)))
                · refine ⟨rfl, ?_⟩
                  refine m_isIn ?_
                  refine ⟨fun m27 => ?_, fun m27 => ?_⟩
                  · replace m27 := bI_z m27
                    refine ⟨rfl, trivial, ?_⟩
                    first | exact ⟨⟨_, rfl, rfl⟩, hI⟩ | (exfalso; (first | omega | (simp only [Int32.reduceToInt] at c4 c11 c16 c27 c39 m4 m11 m16 m27 ⊢; omega)))
                  · replace m27 := bI_nz m27
                    refine ⟨rfl, ?_⟩
                    refine m_isIn ?_
                    refine ⟨fun m39 => ?_, fun m39 => ?_⟩
                    · replace m39 := bI_z m39
                      refine ⟨rfl, trivial, ?_⟩
                      first | exact ⟨⟨_, rfl, rfl⟩, hI⟩ | (exfalso; (first | omega | (simp only [Int32.reduceToInt] at c4 c11 c16 c27 c39 m4 m11 m16 m27 m39 ⊢; omega)))
                    · replace m39 := bI_nz m39
                      refine ⟨fun m51 => ?_, fun m51 => ?_⟩
                      · refine ⟨rfl, trivial, ?_⟩
                        first | exact ⟨⟨_, rfl, rfl⟩, hI⟩ | (exfalso; (first | omega | (simp only [Int32.reduceToInt] at c4 c11 c16 c27 c39 m4 m11 m16 m27 m39 m51 ⊢; omega)))
                      · refine ⟨_, rfl, ⟨(by (first | omega | (simp only [Int32.reduceToInt] at c4 c11 c16 c27 c39 m4 m11 m16 m27 m39 m51 ⊢; omega)) : 0 ≤ (σ 88 65).toInt), (by (first | omega | (simp only [Int32.reduceToInt] at c4 c11 c16 c27 c39 m4 m11 m16 m27 m39 m51 ⊢; omega)) : (σ 88 65).toInt < 16)⟩, ?_⟩
                        refine ⟨_, rfl, ⟨(by (first | omega | (simp only [Int32.reduceToInt] at c4 c11 c16 c27 c39 m4 m11 m16 m27 m39 m51 ⊢; omega)) : 0 ≤ (σ 88 65).toInt), (by (first | omega | (simp only [Int32.reduceToInt] at c4 c11 c16 c27 c39 m4 m11 m16 m27 m39 m51 ⊢; omega)) : (σ 88 65).toInt < 16)⟩, ?_⟩
                        refine ⟨_, rfl, ⟨(by (first | omega | (simp only [Int32.reduceToInt] at c4 c11 c16 c27 c39 m4 m11 m16 m27 m39 m51 ⊢; omega)) : 0 ≤ (σ 88 65).toInt), (by (first | omega | (simp only [Int32.reduceToInt] at c4 c11 c16 c27 c39 m4 m11 m16 m27 m39 m51 ⊢; omega)) : (σ 88 65).toInt < 16)⟩, ?_⟩
                        refine ⟨_, rfl, ⟨(by (first | omega | (simp only [Int32.reduceToInt] at c4 c11 c16 c27 c39 m4 m11 m16 m27 m39 m51 ⊢; omega)) : 0 ≤ (σ 88 65).toInt), (by (first | omega | (simp only [Int32.reduceToInt] at c4 c11 c16 c27 c39 m4 m11 m16 m27 m39 m51 ⊢; omega)) : (σ 88 65).toInt < 16)⟩, ?_⟩
                        refine ⟨rfl, trivial, ?_⟩
                        first | exact ⟨⟨_, rfl, rfl⟩, hI⟩ | (exfalso; (first | omega | (simp only [Int32.reduceToInt] at c4 c11 c16 c27 c39 m4 m11 m16 m27 m39 m51 ⊢; omega)))
          · replace c39 := bI_nz c39
            refine ⟨fun c54 => ?_, fun c54 => ?_⟩
            · refine ⟨rfl, rfl, ?_⟩
              refine s_exapp (by omega) (by (first | omega | (simp only [Int32.reduceToInt] at c4 c11 c16 c27 c39 c54 ⊢; omega))) ?_
              refine ⟨rfl, trivial, ?_⟩
              refine nxt fun τ hτ => ?_
              have e88 : τ 88 = σ 88 := by rw [hτ]; rfl
              have qτexchanges : (τ 88 65).toInt = (σ 71 0).toInt := by rw [e88, x0]
              refine Call_st 200 fun Y hY => ?_
              refine ⟨rfl, ?_⟩
              refine m_isForm ?_
              refine ⟨fun m4 => ?_, fun m4 => ?_⟩
              · replace m4 := bI_z m4
                refine ⟨rfl, trivial, ?_⟩
                first
                | (exfalso; (first | omega | (simp only [Int32.reduceToInt] at c4 c11 c16 c27 c39 c54 m4 ⊢; omega)); done)
                | (have z1 : (σ 71 0).toInt < 16 := by (first | omega | (simp only [Int32.reduceToInt] at c4 c11 c16 c27 c39 c54 m4 ⊢; omega))
                   have z2 : (0 ≤ f.toInt ∧ f.toInt ≤ 5) ∧ (0 ≤ t.toInt ∧ t.toInt ≤ 5) ∧ (1 ≤ p.toInt ∧ p.toInt ≤ 999) ∧ (1 ≤ q.toInt ∧ q.toInt ≤ 999) := by (first | omega | (simp only [Int32.reduceToInt] at c4 c11 c16 c27 c39 c54 m4 ⊢; omega))
                   subst hτ
                   exact ⟨⟨σ 71 0, rfl, vI_ ((as1 _).trans x0)⟩, ⟨(I_tr_fr (σ := σ) rfl rfl rfl rfl rfl rfl rfl rfl hI.1), (I_vo_fr (σ := σ) rfl rfl rfl rfl rfl rfl rfl rfl rfl rfl rfl rfl rfl rfl rfl hI.2.1), (I_li_fr (σ := σ) rfl rfl rfl rfl rfl rfl rfl rfl rfl rfl rfl rfl rfl rfl rfl rfl rfl rfl rfl rfl rfl hI.2.2.1), (I_or_fr (σ := σ) rfl rfl rfl hI.2.2.2.1), (I_ta_fr (σ := σ) rfl rfl rfl rfl hI.2.2.2.2.1), (I_ba_fr (σ := σ) rfl rfl rfl rfl rfl rfl rfl rfl rfl rfl rfl rfl rfl rfl rfl rfl rfl rfl rfl rfl rfl hI.2.2.2.2.2.1), (c_exch_ex (σ := σ) rfl rfl rfl rfl rfl rfl rfl rfl rfl rfl rfl hI.2.2.2.2.2.2.1 z1 z2), (I_gu_fr (σ := σ) rfl rfl rfl rfl rfl rfl rfl rfl rfl rfl hI.2.2.2.2.2.2.2.1), (I_sh_fr (σ := σ) rfl rfl rfl rfl rfl hI.2.2.2.2.2.2.2.2.1), (I_wa_fr (σ := σ) rfl rfl rfl rfl hI.2.2.2.2.2.2.2.2.2.1), (I_la_fr (σ := σ) rfl rfl rfl rfl rfl rfl rfl rfl rfl rfl rfl hI.2.2.2.2.2.2.2.2.2.2.1), (I_he_fr (σ := σ) rfl hI.2.2.2.2.2.2.2.2.2.2.2)⟩⟩)
              · replace m4 := bI_nz m4
                refine ⟨rfl, ?_⟩
                refine m_isForm ?_
                refine ⟨fun m11 => ?_, fun m11 => ?_⟩
                · replace m11 := bI_z m11
                  refine ⟨rfl, trivial, ?_⟩
                  first
                  | (exfalso; (first | omega | (simp only [Int32.reduceToInt] at c4 c11 c16 c27 c39 c54 m4 m11 ⊢; omega)); done)
                  | (have z1 : (σ 71 0).toInt < 16 := by (first | omega | (simp only [Int32.reduceToInt] at c4 c11 c16 c27 c39 c54 m4 m11 ⊢; omega))
                     have z2 : (0 ≤ f.toInt ∧ f.toInt ≤ 5) ∧ (0 ≤ t.toInt ∧ t.toInt ≤ 5) ∧ (1 ≤ p.toInt ∧ p.toInt ≤ 999) ∧ (1 ≤ q.toInt ∧ q.toInt ≤ 999) := by (first | omega | (simp only [Int32.reduceToInt] at c4 c11 c16 c27 c39 c54 m4 m11 ⊢; omega))
                     subst hτ
                     exact ⟨⟨σ 71 0, rfl, vI_ ((as1 _).trans x0)⟩, ⟨(I_tr_fr (σ := σ) rfl rfl rfl rfl rfl rfl rfl rfl hI.1), (I_vo_fr (σ := σ) rfl rfl rfl rfl rfl rfl rfl rfl rfl rfl rfl rfl rfl rfl rfl hI.2.1), (I_li_fr (σ := σ) rfl rfl rfl rfl rfl rfl rfl rfl rfl rfl rfl rfl rfl rfl rfl rfl rfl rfl rfl rfl rfl hI.2.2.1), (I_or_fr (σ := σ) rfl rfl rfl hI.2.2.2.1), (I_ta_fr (σ := σ) rfl rfl rfl rfl hI.2.2.2.2.1), (I_ba_fr (σ := σ) rfl rfl rfl rfl rfl rfl rfl rfl rfl rfl rfl rfl rfl rfl rfl rfl rfl rfl rfl rfl rfl hI.2.2.2.2.2.1), (c_exch_ex (σ := σ) rfl rfl rfl rfl rfl rfl rfl rfl rfl rfl rfl hI.2.2.2.2.2.2.1 z1 z2), (I_gu_fr (σ := σ) rfl rfl rfl rfl rfl rfl rfl rfl rfl rfl hI.2.2.2.2.2.2.2.1), (I_sh_fr (σ := σ) rfl rfl rfl rfl rfl hI.2.2.2.2.2.2.2.2.1), (I_wa_fr (σ := σ) rfl rfl rfl rfl hI.2.2.2.2.2.2.2.2.2.1), (I_la_fr (σ := σ) rfl rfl rfl rfl rfl rfl rfl rfl rfl rfl rfl hI.2.2.2.2.2.2.2.2.2.2.1), (I_he_fr (σ := σ) rfl hI.2.2.2.2.2.2.2.2.2.2.2)⟩⟩)
                · replace m11 := bI_nz m11
                  refine ⟨fun m16 => ?_, fun m16 => ?_⟩
                  · refine ⟨rfl, trivial, ?_⟩
                    first
                    | (exfalso; (first | omega | (simp only [Int32.reduceToInt] at c4 c11 c16 c27 c39 c54 m4 m11 m16 ⊢; omega)); done)
                    | (have z1 : (σ 71 0).toInt < 16 := by (first | omega | (simp only [Int32.reduceToInt] at c4 c11 c16 c27 c39 c54 m4 m11 m16 ⊢; omega))
                       have z2 : (0 ≤ f.toInt ∧ f.toInt ≤ 5) ∧ (0 ≤ t.toInt ∧ t.toInt ≤ 5) ∧ (1 ≤ p.toInt ∧ p.toInt ≤ 999) ∧ (1 ≤ q.toInt ∧ q.toInt ≤ 999) := by (first | omega | (simp only [Int32.reduceToInt] at c4 c11 c16 c27 c39 c54 m4 m11 m16 ⊢; omega))
                       subst hτ
                       exact ⟨⟨σ 71 0, rfl, vI_ ((as1 _).trans x0)⟩, ⟨(I_tr_fr (σ := σ) rfl rfl rfl rfl rfl rfl rfl rfl hI.1), (I_vo_fr (σ := σ) rfl rfl rfl rfl rfl rfl rfl rfl rfl rfl rfl rfl rfl rfl rfl hI.2.1), (I_li_fr (σ := σ) rfl rfl rfl rfl rfl rfl rfl rfl rfl rfl rfl rfl rfl rfl rfl rfl rfl rfl rfl rfl rfl hI.2.2.1), (I_or_fr (σ := σ) rfl rfl rfl hI.2.2.2.1), (I_ta_fr (σ := σ) rfl rfl rfl rfl hI.2.2.2.2.1), (I_ba_fr (σ := σ) rfl rfl rfl rfl rfl rfl rfl rfl rfl rfl rfl rfl rfl rfl rfl rfl rfl rfl rfl rfl rfl hI.2.2.2.2.2.1), (c_exch_ex (σ := σ) rfl rfl rfl rfl rfl rfl rfl rfl rfl rfl rfl hI.2.2.2.2.2.2.1 z1 z2), (I_gu_fr (σ := σ) rfl rfl rfl rfl rfl rfl rfl rfl rfl rfl hI.2.2.2.2.2.2.2.1), (I_sh_fr (σ := σ) rfl rfl rfl rfl rfl hI.2.2.2.2.2.2.2.2.1), (I_wa_fr (σ := σ) rfl rfl rfl rfl hI.2.2.2.2.2.2.2.2.2.1), (I_la_fr (σ := σ) rfl rfl rfl rfl rfl rfl rfl rfl rfl rfl rfl hI.2.2.2.2.2.2.2.2.2.2.1), (I_he_fr (σ := σ) rfl hI.2.2.2.2.2.2.2.2.2.2.2)⟩⟩)
                  · refine ⟨rfl, ?_⟩
                    refine m_isIn ?_
                    refine ⟨fun m27 => ?_, fun m27 => ?_⟩
                    · replace m27 := bI_z m27
                      refine ⟨rfl, trivial, ?_⟩
                      first
                      | (exfalso; (first | omega | (simp only [Int32.reduceToInt] at c4 c11 c16 c27 c39 c54 m4 m11 m16 m27 ⊢; omega)); done)
                      | (have z1 : (σ 71 0).toInt < 16 := by (first | omega | (simp only [Int32.reduceToInt] at c4 c11 c16 c27 c39 c54 m4 m11 m16 m27 ⊢; omega))
                         have z2 : (0 ≤ f.toInt ∧ f.toInt ≤ 5) ∧ (0 ≤ t.toInt ∧ t.toInt ≤ 5) ∧ (1 ≤ p.toInt ∧ p.toInt ≤ 999) ∧ (1 ≤ q.toInt ∧ q.toInt ≤ 999) := by (first | omega | (simp only [Int32.reduceToInt] at c4 c11 c16 c27 c39 c54 m4 m11 m16 m27 ⊢; omega))
                         subst hτ
                         exact ⟨⟨σ 71 0, rfl, vI_ ((as1 _).trans x0)⟩, ⟨(I_tr_fr (σ := σ) rfl rfl rfl rfl rfl rfl rfl rfl hI.1), (I_vo_fr (σ := σ) rfl rfl rfl rfl rfl rfl rfl rfl rfl rfl rfl rfl rfl rfl rfl hI.2.1), (I_li_fr (σ := σ) rfl rfl rfl rfl rfl rfl rfl rfl rfl rfl rfl rfl rfl rfl rfl rfl rfl rfl rfl rfl rfl hI.2.2.1), (I_or_fr (σ := σ) rfl rfl rfl hI.2.2.2.1), (I_ta_fr (σ := σ) rfl rfl rfl rfl hI.2.2.2.2.1), (I_ba_fr (σ := σ) rfl rfl rfl rfl rfl rfl rfl rfl rfl rfl rfl rfl rfl rfl rfl rfl rfl rfl rfl rfl rfl hI.2.2.2.2.2.1), (c_exch_ex (σ := σ) rfl rfl rfl rfl rfl rfl rfl rfl rfl rfl rfl hI.2.2.2.2.2.2.1 z1 z2), (I_gu_fr (σ := σ) rfl rfl rfl rfl rfl rfl rfl rfl rfl rfl hI.2.2.2.2.2.2.2.1), (I_sh_fr (σ := σ) rfl rfl rfl rfl rfl hI.2.2.2.2.2.2.2.2.1), (I_wa_fr (σ := σ) rfl rfl rfl rfl hI.2.2.2.2.2.2.2.2.2.1), (I_la_fr (σ := σ) rfl rfl rfl rfl rfl rfl rfl rfl rfl rfl rfl hI.2.2.2.2.2.2.2.2.2.2.1), (I_he_fr (σ := σ) rfl hI.2.2.2.2.2.2.2.2.2.2.2)⟩⟩)
                    · replace m27 := bI_nz m27
                      refine ⟨rfl, ?_⟩
                      refine m_isIn ?_
                      refine ⟨fun m39 => ?_, fun m39 => ?_⟩
                      · replace m39 := bI_z m39
                        refine ⟨rfl, trivial, ?_⟩
                        first
                        | (exfalso; (first | omega | (simp only [Int32.reduceToInt] at c4 c11 c16 c27 c39 c54 m4 m11 m16 m27 m39 ⊢; omega)); done)
                        | (have z1 : (σ 71 0).toInt < 16 := by (first | omega | (simp only [Int32.reduceToInt] at c4 c11 c16 c27 c39 c54 m4 m11 m16 m27 m39 ⊢; omega))
                           have z2 : (0 ≤ f.toInt ∧ f.toInt ≤ 5) ∧ (0 ≤ t.toInt ∧ t.toInt ≤ 5) ∧ (1 ≤ p.toInt ∧ p.toInt ≤ 999) ∧ (1 ≤ q.toInt ∧ q.toInt ≤ 999) := by (first | omega | (simp only [Int32.reduceToInt] at c4 c11 c16 c27 c39 c54 m4 m11 m16 m27 m39 ⊢; omega))
                           subst hτ
                           exact ⟨⟨σ 71 0, rfl, vI_ ((as1 _).trans x0)⟩, ⟨(I_tr_fr (σ := σ) rfl rfl rfl rfl rfl rfl rfl rfl hI.1), (I_vo_fr (σ := σ) rfl rfl rfl rfl rfl rfl rfl rfl rfl rfl rfl rfl rfl rfl rfl hI.2.1), (I_li_fr (σ := σ) rfl rfl rfl rfl rfl rfl rfl rfl rfl rfl rfl rfl rfl rfl rfl rfl rfl rfl rfl rfl rfl hI.2.2.1), (I_or_fr (σ := σ) rfl rfl rfl hI.2.2.2.1), (I_ta_fr (σ := σ) rfl rfl rfl rfl hI.2.2.2.2.1), (I_ba_fr (σ := σ) rfl rfl rfl rfl rfl rfl rfl rfl rfl rfl rfl rfl rfl rfl rfl rfl rfl rfl rfl rfl rfl hI.2.2.2.2.2.1), (c_exch_ex (σ := σ) rfl rfl rfl rfl rfl rfl rfl rfl rfl rfl rfl hI.2.2.2.2.2.2.1 z1 z2), (I_gu_fr (σ := σ) rfl rfl rfl rfl rfl rfl rfl rfl rfl rfl hI.2.2.2.2.2.2.2.1), (I_sh_fr (σ := σ) rfl rfl rfl rfl rfl hI.2.2.2.2.2.2.2.2.1), (I_wa_fr (σ := σ) rfl rfl rfl rfl hI.2.2.2.2.2.2.2.2.2.1), (I_la_fr (σ := σ) rfl rfl rfl rfl rfl rfl rfl rfl rfl rfl rfl hI.2.2.2.2.2.2.2.2.2.2.1), (I_he_fr (σ := σ) rfl hI.2.2.2.2.2.2.2.2.2.2.2)⟩⟩)
                      · replace m39 := bI_nz m39
                        refine ⟨fun m51 => ?_, fun m51 => ?_⟩
                        · refine ⟨rfl, trivial, ?_⟩
                          first
                          | (exfalso; (first | omega | (simp only [Int32.reduceToInt] at c4 c11 c16 c27 c39 c54 m4 m11 m16 m27 m39 m51 ⊢; omega)); done)
                          | (have z1 : (σ 71 0).toInt < 16 := by (first | omega | (simp only [Int32.reduceToInt] at c4 c11 c16 c27 c39 c54 m4 m11 m16 m27 m39 m51 ⊢; omega))
                             have z2 : (0 ≤ f.toInt ∧ f.toInt ≤ 5) ∧ (0 ≤ t.toInt ∧ t.toInt ≤ 5) ∧ (1 ≤ p.toInt ∧ p.toInt ≤ 999) ∧ (1 ≤ q.toInt ∧ q.toInt ≤ 999) := by (first | omega | (simp only [Int32.reduceToInt] at c4 c11 c16 c27 c39 c54 m4 m11 m16 m27 m39 m51 ⊢; omega))
                             subst hτ
                             exact ⟨⟨σ 71 0, rfl, vI_ ((as1 _).trans x0)⟩, ⟨(I_tr_fr (σ := σ) rfl rfl rfl rfl rfl rfl rfl rfl hI.1), (I_vo_fr (σ := σ) rfl rfl rfl rfl rfl rfl rfl rfl rfl rfl rfl rfl rfl rfl rfl hI.2.1), (I_li_fr (σ := σ) rfl rfl rfl rfl rfl rfl rfl rfl rfl rfl rfl rfl rfl rfl rfl rfl rfl rfl rfl rfl rfl hI.2.2.1), (I_or_fr (σ := σ) rfl rfl rfl hI.2.2.2.1), (I_ta_fr (σ := σ) rfl rfl rfl rfl hI.2.2.2.2.1), (I_ba_fr (σ := σ) rfl rfl rfl rfl rfl rfl rfl rfl rfl rfl rfl rfl rfl rfl rfl rfl rfl rfl rfl rfl rfl hI.2.2.2.2.2.1), (c_exch_ex (σ := σ) rfl rfl rfl rfl rfl rfl rfl rfl rfl rfl rfl hI.2.2.2.2.2.2.1 z1 z2), (I_gu_fr (σ := σ) rfl rfl rfl rfl rfl rfl rfl rfl rfl rfl hI.2.2.2.2.2.2.2.1), (I_sh_fr (σ := σ) rfl rfl rfl rfl rfl hI.2.2.2.2.2.2.2.2.1), (I_wa_fr (σ := σ) rfl rfl rfl rfl hI.2.2.2.2.2.2.2.2.2.1), (I_la_fr (σ := σ) rfl rfl rfl rfl rfl rfl rfl rfl rfl rfl rfl hI.2.2.2.2.2.2.2.2.2.2.1), (I_he_fr (σ := σ) rfl hI.2.2.2.2.2.2.2.2.2.2.2)⟩⟩)
                        · refine ⟨_, rfl, ⟨(by (first | omega | (simp only [Int32.reduceToInt] at c4 c11 c16 c27 c39 c54 m4 m11 m16 m27 m39 m51 ⊢; omega)) : 0 ≤ (τ 88 65).toInt), (by (first | omega | (simp only [Int32.reduceToInt] at c4 c11 c16 c27 c39 c54 m4 m11 m16 m27 m39 m51 ⊢; omega)) : (τ 88 65).toInt < 16)⟩, ?_⟩
                          refine ⟨_, rfl, ⟨(by (first | omega | (simp only [Int32.reduceToInt] at c4 c11 c16 c27 c39 c54 m4 m11 m16 m27 m39 m51 ⊢; omega)) : 0 ≤ (τ 88 65).toInt), (by (first | omega | (simp only [Int32.reduceToInt] at c4 c11 c16 c27 c39 c54 m4 m11 m16 m27 m39 m51 ⊢; omega)) : (τ 88 65).toInt < 16)⟩, ?_⟩
                          refine ⟨_, rfl, ⟨(by (first | omega | (simp only [Int32.reduceToInt] at c4 c11 c16 c27 c39 c54 m4 m11 m16 m27 m39 m51 ⊢; omega)) : 0 ≤ (τ 88 65).toInt), (by (first | omega | (simp only [Int32.reduceToInt] at c4 c11 c16 c27 c39 c54 m4 m11 m16 m27 m39 m51 ⊢; omega)) : (τ 88 65).toInt < 16)⟩, ?_⟩
                          refine ⟨_, rfl, ⟨(by (first | omega | (simp only [Int32.reduceToInt] at c4 c11 c16 c27 c39 c54 m4 m11 m16 m27 m39 m51 ⊢; omega)) : 0 ≤ (τ 88 65).toInt), (by (first | omega | (simp only [Int32.reduceToInt] at c4 c11 c16 c27 c39 c54 m4 m11 m16 m27 m39 m51 ⊢; omega)) : (τ 88 65).toInt < 16)⟩, ?_⟩
                          refine ⟨rfl, trivial, ?_⟩
                          first
                          | (exfalso; (first | omega | (simp only [Int32.reduceToInt] at c4 c11 c16 c27 c39 c54 m4 m11 m16 m27 m39 m51 ⊢; omega)); done)
                          | (have z1 : (σ 71 0).toInt < 16 := by (first | omega | (simp only [Int32.reduceToInt] at c4 c11 c16 c27 c39 c54 m4 m11 m16 m27 m39 m51 ⊢; omega))
                             have z2 : (0 ≤ f.toInt ∧ f.toInt ≤ 5) ∧ (0 ≤ t.toInt ∧ t.toInt ≤ 5) ∧ (1 ≤ p.toInt ∧ p.toInt ≤ 999) ∧ (1 ≤ q.toInt ∧ q.toInt ≤ 999) := by (first | omega | (simp only [Int32.reduceToInt] at c4 c11 c16 c27 c39 c54 m4 m11 m16 m27 m39 m51 ⊢; omega))
                             subst hτ
                             exact ⟨⟨σ 71 0, rfl, vI_ ((as1 _).trans x0)⟩, ⟨(I_tr_fr (σ := σ) rfl rfl rfl rfl rfl rfl rfl rfl hI.1), (I_vo_fr (σ := σ) rfl rfl rfl rfl rfl rfl rfl rfl rfl rfl rfl rfl rfl rfl rfl hI.2.1), (I_li_fr (σ := σ) rfl rfl rfl rfl rfl rfl rfl rfl rfl rfl rfl rfl rfl rfl rfl rfl rfl rfl rfl rfl rfl hI.2.2.1), (I_or_fr (σ := σ) rfl rfl rfl hI.2.2.2.1), (I_ta_fr (σ := σ) rfl rfl rfl rfl hI.2.2.2.2.1), (I_ba_fr (σ := σ) rfl rfl rfl rfl rfl rfl rfl rfl rfl rfl rfl rfl rfl rfl rfl rfl rfl rfl rfl rfl rfl hI.2.2.2.2.2.1), (c_exch_ex (σ := σ) rfl rfl rfl rfl rfl rfl rfl rfl rfl rfl rfl hI.2.2.2.2.2.2.1 z1 z2), (I_gu_fr (σ := σ) rfl rfl rfl rfl rfl rfl rfl rfl rfl rfl hI.2.2.2.2.2.2.2.1), (I_sh_fr (σ := σ) rfl rfl rfl rfl rfl hI.2.2.2.2.2.2.2.2.1), (I_wa_fr (σ := σ) rfl rfl rfl rfl hI.2.2.2.2.2.2.2.2.2.1), (I_la_fr (σ := σ) rfl rfl rfl rfl rfl rfl rfl rfl rfl rfl rfl hI.2.2.2.2.2.2.2.2.2.2.1), (I_he_fr (σ := σ) rfl hI.2.2.2.2.2.2.2.2.2.2.2)⟩⟩)
            · refine ⟨rfl, trivial, ?_⟩
              refine Call_st 200 fun Y hY => ?_
              refine ⟨rfl, ?_⟩
              refine m_isForm ?_
              refine ⟨fun m4 => ?_, fun m4 => ?_⟩
              · replace m4 := bI_z m4
                refine ⟨rfl, trivial, ?_⟩
                first | exact ⟨⟨_, rfl, rfl⟩, hI⟩ | (exfalso; (first | omega | (simp only [Int32.reduceToInt] at c4 c11 c16 c27 c39 c54 m4 ⊢; omega)))
              · replace m4 := bI_nz m4
                refine ⟨rfl, ?_⟩
                refine m_isForm ?_
                refine ⟨fun m11 => ?_, fun m11 => ?_⟩
                · replace m11 := bI_z m11
                  refine ⟨rfl, trivial, ?_⟩
                  first | exact ⟨⟨_, rfl, rfl⟩, hI⟩ | (exfalso; (first | omega | (simp only [Int32.reduceToInt] at c4 c11 c16 c27 c39 c54 m4 m11 ⊢; omega)))
                · replace m11 := bI_nz m11
                  refine ⟨fun m16 => ?_, fun m16 => ?_⟩
                  · refine ⟨rfl, trivial, ?_⟩
                    first | exact ⟨⟨_, rfl, rfl⟩, hI⟩ | (exfalso; (first | omega | (simp only [Int32.reduceToInt] at c4 c11 c16 c27 c39 c54 m4 m11 m16 ⊢; omega)))
                  · refine ⟨rfl, ?_⟩
                    refine m_isIn ?_
                    refine ⟨fun m27 => ?_, fun m27 => ?_⟩
                    · replace m27 := bI_z m27
                      refine ⟨rfl, trivial, ?_⟩
                      first | exact ⟨⟨_, rfl, rfl⟩, hI⟩ | (exfalso; (first | omega | (simp only [Int32.reduceToInt] at c4 c11 c16 c27 c39 c54 m4 m11 m16 m27 ⊢; omega)))
                    · replace m27 := bI_nz m27
                      refine ⟨rfl, ?_⟩
                      refine m_isIn ?_
                      refine ⟨fun m39 => ?_, fun m39 => ?_⟩
                      · replace m39 := bI_z m39
                        refine ⟨rfl, trivial, ?_⟩
                        first | exact ⟨⟨_, rfl, rfl⟩, hI⟩ | (exfalso; (first | omega | (simp only [Int32.reduceToInt] at c4 c11 c16 c27 c39 c54 m4 m11 m16 m27 m39 ⊢; omega)))
                      · replace m39 := bI_nz m39
                        refine ⟨fun m51 => ?_, fun m51 => ?_⟩
                        · refine ⟨rfl, trivial, ?_⟩
                          first | exact ⟨⟨_, rfl, rfl⟩, hI⟩ | (exfalso; (first | omega | (simp only [Int32.reduceToInt] at c4 c11 c16 c27 c39 c54 m4 m11 m16 m27 m39 m51 ⊢; omega)))
                        · refine ⟨_, rfl, ⟨(by (first | omega | (simp only [Int32.reduceToInt] at c4 c11 c16 c27 c39 c54 m4 m11 m16 m27 m39 m51 ⊢; omega)) : 0 ≤ (σ 88 65).toInt), (by (first | omega | (simp only [Int32.reduceToInt] at c4 c11 c16 c27 c39 c54 m4 m11 m16 m27 m39 m51 ⊢; omega)) : (σ 88 65).toInt < 16)⟩, ?_⟩
                          refine ⟨_, rfl, ⟨(by (first | omega | (simp only [Int32.reduceToInt] at c4 c11 c16 c27 c39 c54 m4 m11 m16 m27 m39 m51 ⊢; omega)) : 0 ≤ (σ 88 65).toInt), (by (first | omega | (simp only [Int32.reduceToInt] at c4 c11 c16 c27 c39 c54 m4 m11 m16 m27 m39 m51 ⊢; omega)) : (σ 88 65).toInt < 16)⟩, ?_⟩
                          refine ⟨_, rfl, ⟨(by (first | omega | (simp only [Int32.reduceToInt] at c4 c11 c16 c27 c39 c54 m4 m11 m16 m27 m39 m51 ⊢; omega)) : 0 ≤ (σ 88 65).toInt), (by (first | omega | (simp only [Int32.reduceToInt] at c4 c11 c16 c27 c39 c54 m4 m11 m16 m27 m39 m51 ⊢; omega)) : (σ 88 65).toInt < 16)⟩, ?_⟩
                          refine ⟨_, rfl, ⟨(by (first | omega | (simp only [Int32.reduceToInt] at c4 c11 c16 c27 c39 c54 m4 m11 m16 m27 m39 m51 ⊢; omega)) : 0 ≤ (σ 88 65).toInt), (by (first | omega | (simp only [Int32.reduceToInt] at c4 c11 c16 c27 c39 c54 m4 m11 m16 m27 m39 m51 ⊢; omega)) : (σ 88 65).toInt < 16)⟩, ?_⟩
                          refine ⟨rfl, trivial, ?_⟩
                          first | exact ⟨⟨_, rfl, rfl⟩, hI⟩ | (exfalso; (first | omega | (simp only [Int32.reduceToInt] at c4 c11 c16 c27 c39 c54 m4 m11 m16 m27 m39 m51 ⊢; omega)))
