abbrev takP (σ P : Mm) (v o : Nat) (x : Int32) : Prop := ¬ (P 0 o).toInt = 0 ∧ (σ 6 o).toInt = (σ 6 v).toInt ∧ (P 1 o + x).toInt ≤ 100000
def selP (σ P : Mm) (v o : Nat) (x : Int32) : Mm := wr P (3 + (σ 2 o).toInt.toNat) (σ 6 v).toInt.toNat (P (3 + (σ 2 o).toInt.toNat) (σ 6 v).toInt.toNat + x)
/-- what a line does to the vouchers' standing: 0 live, 1 worth, 2 from, 3 .. 7 sold by a firm's shops -/
def brK (σ P : Mm) (l v o : Nat) (k : Int) (s : Int32) : Mm × Int32 := if k = 0 then (wr (wr (wr P 0 v 1) 1 v (σ 9 v)) 2 v (σ 13 l), 1)
  else if (P 0 v).toInt = 0 then (P, 0)
  else if (k = 1 ∨ k = 3) ∧ ((P 1 v).toInt < s.toInt ∨ (lifeF σ (P 1) v).toInt < (σ 13 l - P 2 v).toInt) then (P, 0)
  else if k = 1 then (selP σ (wr P 1 v (P 1 v - s)) v o s, 1)
  else if k = 2 then (if (σ 4 v).toInt = 1 ∧ (P 1 v + s).toInt ≤ 100000 then (wr (wr P 1 v (P 1 v + s)) 2 v (σ 13 l), 1) else (P, 0))
  else if k = 3 then (if takP σ P v o s then (wr (wr P 1 v (P 1 v - s)) 1 o (P 1 o + s), 1) else (P, 0))
  else if k = 4 then (if (P 1 v + s).toInt ≤ 100000 then (selP σ (wr P 1 v (P 1 v + s)) v o (-s), 1) else (P, 0))
  else (if 0 ≤ (σ 17 l).toInt ∧ takP σ P v o (P 1 v) then (wr (wr (wr P 0 v 0) 1 o (P 1 o + P 1 v)) 1 v 0, 1) else (wr (wr P 0 v 0) 1 v 0, 1))
def brF (σ P : Mm) (l : Nat) : Mm × Int32 := brK σ P l (σ 12 l).toInt.toNat (σ 17 l).toInt.toNat (σ 11 l).toInt (σ 16 l)
/-- the class's cells hold a standing -/
def Vw (τ P : Mm) : Prop := τ 34 4 = P 8 0 ∧ τ 35 = P 0 ∧ τ 36 = P 1 ∧ τ 37 = P 2 ∧ τ 39 = P 3 ∧ τ 40 = P 4 ∧ τ 41 = P 5 ∧ τ 42 = P 6 ∧ τ 43 = P 7
theorem Vw.ag {τ τ' P : Mm} (h : Vw τ P) (hA : Ag [29, 44] τ τ') : Vw τ' P := by
  obtain ⟨h1, h2, h3, h4, h5, h6, h7, h8, h9⟩ := h
  exact ⟨by rw [hA 34 rfl]; exact h1, (hA 35 rfl).trans h2, (hA 36 rfl).trans h3, (hA 37 rfl).trans h4, (hA 39 rfl).trans h5, (hA 40 rfl).trans h6, (hA 41 rfl).trans h7, (hA 42 rfl).trans h8, (hA 43 rfl).trans h9⟩
theorem Vw.w0 {τ P : Mm} {i : Nat} {x : Int32} (h : Vw τ P) : Vw (wr τ 35 i x) (wr P 0 i x) := by
  obtain ⟨h1, h2, h3, h4, h5, h6, h7, h8, h9⟩ := h
  exact ⟨h1, congrArg (fun f => upd f i x) h2, h3, h4, h5, h6, h7, h8, h9⟩
theorem Vw.w1 {τ P : Mm} {i : Nat} {x : Int32} (h : Vw τ P) : Vw (wr τ 36 i x) (wr P 1 i x) := by
  obtain ⟨h1, h2, h3, h4, h5, h6, h7, h8, h9⟩ := h
  exact ⟨h1, h2, congrArg (fun f => upd f i x) h3, h4, h5, h6, h7, h8, h9⟩
theorem Vw.w2 {τ P : Mm} {i : Nat} {x : Int32} (h : Vw τ P) : Vw (wr τ 37 i x) (wr P 2 i x) := by
  obtain ⟨h1, h2, h3, h4, h5, h6, h7, h8, h9⟩ := h
  exact ⟨h1, h2, h3, congrArg (fun f => upd f i x) h4, h5, h6, h7, h8, h9⟩
theorem Vw.rd {τ P : Mm} {F : Nat} (h : Vw τ P) (hF : F < 5) : τ (39 + F) = P (3 + F) := by
  obtain ⟨h1, h2, h3, h4, h5, h6, h7, h8, h9⟩ := h
  rcases (show F = 0 ∨ F = 1 ∨ F = 2 ∨ F = 3 ∨ F = 4 by omega) with rfl | rfl | rfl | rfl | rfl
  · exact h5
  · exact h6
  · exact h7
  · exact h8
  · exact h9
theorem Vw.ws {τ P : Mm} {F i : Nat} {x : Int32} (h : Vw τ P) (hF : F < 5) : Vw (wr τ (39 + F) i x) (wr P (3 + F) i x) := by
  obtain ⟨h1, h2, h3, h4, h5, h6, h7, h8, h9⟩ := h
  rcases (show F = 0 ∨ F = 1 ∨ F = 2 ∨ F = 3 ∨ F = 4 by omega) with rfl | rfl | rfl | rfl | rfl
  · exact ⟨h1, h2, h3, h4, congrArg (fun f => upd f i x) h5, h6, h7, h8, h9⟩
  · exact ⟨h1, h2, h3, h4, h5, congrArg (fun f => upd f i x) h6, h7, h8, h9⟩
  · exact ⟨h1, h2, h3, h4, h5, h6, congrArg (fun f => upd f i x) h7, h8, h9⟩
  · exact ⟨h1, h2, h3, h4, h5, h6, h7, congrArg (fun f => upd f i x) h8, h9⟩
  · exact ⟨h1, h2, h3, h4, h5, h6, h7, h8, congrArg (fun f => upd f i x) h9⟩
def LsC : List Nat := [29, 35, 36, 37, 39, 40, 41, 42, 43, 44]
theorem agW {σ τ : Mm} {F i : Nat} {x : Int32} (h : Ag LsC σ τ) (hF : F < 5) : Ag LsC σ (wr τ (39 + F) i x) := by
  rcases (show F = 0 ∨ F = 1 ∨ F = 2 ∨ F = 3 ∨ F = 4 by omega) with rfl | rfl | rfl | rfl | rfl <;> exact Ag.wr h rfl
theorem agL {σ τ : Mm} (h : Ag [29, 44] σ τ) : Ag LsC σ τ := Ag.wk h rfl
theorem s_hasRoom {d : Nat} {σ : Mm} {Q : Qt} {v s : Int32} (hv : 0 ≤ v.toInt ∧ v.toInt < 30) (hQ : Q (some (.int (bI ((σ 36 v.toInt.toNat + s).toInt ≤ 100000)))) σ) : Call (d + 1) k_X8_hasRoom [.ref 34, .int v, .int s] σ Q := by
  refine Call_st 120 fun X hX => ?_
  refine ⟨_, _, rfl, (by refine ⟨?_, ?_⟩ <;> omega), ?_⟩
  refine ⟨fun c10 => ?_, fun c10 => ?_⟩
  · refine ⟨rfl, Or.inl rfl, ?_⟩
    simp only [Int32.reduceToInt] at c10
    first | exact bI_t hQ (by omega) | exact bI_f hQ (by omega)
  · refine ⟨rfl, Or.inr rfl, ?_⟩
    simp only [Int32.reduceToInt] at c10
    first | exact bI_t hQ (by omega) | exact bI_f hQ (by omega)
theorem s_takesFrom {d : Nat} {σ : Mm} {Q : Qt} {v o s : Int32} (hv : 0 ≤ v.toInt ∧ v.toInt < 30) (h3 : (σ 3 0).toInt ≤ 30) (hQ : Q (some (.int (bI ((0 ≤ o.toInt ∧ o.toInt < (σ 3 0).toInt) ∧ ¬ (σ 35 o.toInt.toNat).toInt = 0 ∧ (σ 6 o.toInt.toNat).toInt = (σ 6 v.toInt.toNat).toInt ∧ (σ 36 o.toInt.toNat + s).toInt ≤ 100000)))) σ) : Call (d + 2) k_X8_takesFrom [.ref 34, .int v, .int o, .int s] σ Q := by
  refine Call_st 120 fun X hX => ?_
  refine ⟨rfl, rfl, ?_⟩
  refine s_vhas ?_
  refine ⟨fun c8 => ?_, fun c8 => ?_⟩
  · replace c8 := bI_z c8
    refine ⟨rfl, Or.inl rfl, ?_⟩
    first | exact bI_t hQ (by omega) | exact bI_f hQ (by omega)
  · replace c8 := bI_nz c8
    refine ⟨_, _, rfl, (by refine ⟨?_, ?_⟩ <;> omega), ?_⟩
    refine ⟨fun c17 => ?_, fun c17 => ?_⟩
    · refine ⟨rfl, Or.inl rfl, ?_⟩
      first | exact bI_t hQ (by omega) | exact bI_f hQ (by omega)
    · refine ⟨_, _, rfl, (by refine ⟨?_, ?_⟩ <;> omega), ?_⟩
      refine ⟨_, _, rfl, (by refine ⟨?_, ?_⟩ <;> omega), ?_⟩
      refine ⟨fun c38 => ?_, fun c38 => ?_⟩
      · refine ⟨rfl, rfl, ?_⟩
        refine s_hasRoom (by omega) ?_
        refine ⟨fun c47 => ?_, fun c47 => ?_⟩
        · replace c47 := bI_z c47
          refine ⟨rfl, Or.inl rfl, ?_⟩
          first | exact bI_t hQ (by omega) | exact bI_f hQ (by omega)
        · replace c47 := bI_nz c47
          refine ⟨rfl, Or.inr rfl, ?_⟩
          first | exact bI_t hQ (by omega) | exact bI_f hQ (by omega)
      · refine ⟨rfl, Or.inl rfl, ?_⟩
        first | exact bI_t hQ (by omega) | exact bI_f hQ (by omega)
theorem s_sell {d : Nat} {σ : Mm} {Q : Qt} {p v s : Int32} (hp : 0 ≤ p.toInt ∧ p.toInt < (σ 1 2).toInt) (hp2 : p.toInt < 10) (hF : 0 ≤ (σ 2 p.toInt.toNat).toInt ∧ (σ 2 p.toInt.toNat).toInt < 5) (hv : 0 ≤ v.toInt ∧ v.toInt < 30) (hG : 0 ≤ (σ 6 v.toInt.toNat).toInt ∧ (σ 6 v.toInt.toNat).toInt < 5) (hQ : Q none (wr σ (39 + (σ 2 p.toInt.toNat).toInt.toNat) (σ 6 v.toInt.toNat).toInt.toNat (σ (39 + (σ 2 p.toInt.toNat).toInt.toNat) (σ 6 v.toInt.toNat).toInt.toNat + s))) : Call (d + 2) k_X8_sell [.ref 34, .int p, .int v, .int s] σ Q := by
  refine Call_st 120 fun X hX => ?_
  refine ⟨rfl, rfl, ?_⟩
  refine s_hasShop ?_
  refine ⟨fun c8 => ?_, fun c8 => ?_⟩
  · replace c8 := bI_z c8
    refine ⟨rfl, rfl, ?_⟩
    first | exact hQ | (exfalso; omega)
  · replace c8 := bI_nz c8
    refine ⟨_, _, rfl, (by refine ⟨?_, ?_⟩ <;> omega), ?_⟩
    refine ⟨_, _, rfl, (by refine ⟨?_, ?_⟩ <;> omega), ?_⟩
    refine ⟨_, _, rfl, (by refine ⟨?_, ?_⟩ <;> omega), ?_⟩
    refine ⟨_, _, rdI_row (rw39 (by omega)), (by refine ⟨?_, ?_⟩ <;> omega), ?_⟩
    refine ⟨_, (rw39 (by omega)), (by refine ⟨?_, ?_⟩ <;> omega), ?_⟩
    refine ⟨rfl, rfl, ?_⟩
    first | exact hQ | (exfalso; omega)
theorem s_comes {d : Nat} {σ : Mm} {Q : Qt} {v y : Int32} (hv : 0 ≤ v.toInt ∧ v.toInt < 30) (hQ : Q (some (.int 1)) (wr (wr (wr σ 35 v.toInt.toNat 1) 36 v.toInt.toNat (σ 9 v.toInt.toNat)) 37 v.toInt.toNat y)) : Call (d + 1) k_X8_comes [.ref 34, .int v, .int y] σ Q := by
  refine Call_st 120 fun X hX => ?_
  refine ⟨(by refine ⟨?_, ?_⟩ <;> omega), Or.inr rfl, ?_⟩
  refine ⟨_, _, rfl, (by refine ⟨?_, ?_⟩ <;> omega), ?_⟩
  refine ⟨_, rfl, (by refine ⟨?_, ?_⟩ <;> omega), ?_⟩
  refine ⟨_, rfl, (by refine ⟨?_, ?_⟩ <;> omega), ?_⟩
  refine ⟨rfl, Or.inr rfl, ?_⟩
  exact hQ
theorem s_isSpent {d : Nat} {σ : Mm} {Q : Qt} {l v : Int32} (hl : 0 ≤ l.toInt ∧ l.toInt < 100) (hv : 0 ≤ v.toInt ∧ v.toInt < 30) (hp : 0 ≤ (σ 17 l.toInt.toNat).toInt ∧ (σ 17 l.toInt.toNat).toInt < (σ 1 2).toInt) (hp2 : (σ 17 l.toInt.toNat).toInt < 10) (hF : 0 ≤ (σ 2 (σ 17 l.toInt.toNat).toInt.toNat).toInt ∧ (σ 2 (σ 17 l.toInt.toNat).toInt.toNat).toInt < 5) (hG : 0 ≤ (σ 6 v.toInt.toNat).toInt ∧ (σ 6 v.toInt.toNat).toInt < 5) (hQ : Q (some (.int 1)) (wr (wr σ 36 v.toInt.toNat (σ 36 v.toInt.toNat - σ 16 l.toInt.toNat)) (39 + (σ 2 (σ 17 l.toInt.toNat).toInt.toNat).toInt.toNat) (σ 6 v.toInt.toNat).toInt.toNat ((wr σ 36 v.toInt.toNat (σ 36 v.toInt.toNat - σ 16 l.toInt.toNat)) (39 + (σ 2 (σ 17 l.toInt.toNat).toInt.toNat).toInt.toNat) (σ 6 v.toInt.toNat).toInt.toNat + σ 16 l.toInt.toNat))) : Call (d + 3) k_X8_isSpent [.ref 34, .int l, .int v] σ Q := by
  refine Call_st 120 fun X hX => ?_
  refine ⟨_, _, rfl, (by refine ⟨?_, ?_⟩ <;> omega), ?_⟩
  refine ⟨_, _, rfl, (by refine ⟨?_, ?_⟩ <;> omega), ?_⟩
  refine ⟨_, rfl, (by refine ⟨?_, ?_⟩ <;> omega), ?_⟩
  refine ⟨_, _, rfl, (by refine ⟨?_, ?_⟩ <;> omega), ?_⟩
  refine ⟨_, _, rfl, (by refine ⟨?_, ?_⟩ <;> omega), ?_⟩
  refine ⟨rfl, rfl, ?_⟩
  refine s_sell hp hp2 hF hv hG ?_
  refine ⟨rfl, Or.inr rfl, ?_⟩
  exact hQ
theorem s_isLoaded {d : Nat} {σ : Mm} {Q : Qt} {l v : Int32} (hl : 0 ≤ l.toInt ∧ l.toInt < 100) (hv : 0 ≤ v.toInt ∧ v.toInt < 30) (hF : ¬ ((σ 4 v.toInt.toNat).toInt = 1 ∧ (σ 36 v.toInt.toNat + σ 16 l.toInt.toNat).toInt ≤ 100000) → Q (some (.int 0)) σ) (hS : (σ 4 v.toInt.toNat).toInt = 1 ∧ (σ 36 v.toInt.toNat + σ 16 l.toInt.toNat).toInt ≤ 100000 → Q (some (.int 1)) (wr (wr σ 36 v.toInt.toNat (σ 36 v.toInt.toNat + σ 16 l.toInt.toNat)) 37 v.toInt.toNat (σ 13 l.toInt.toNat))) : Call (d + 2) k_X8_isLoaded [.ref 34, .int l, .int v] σ Q := by
  refine Call_st 120 fun X hX => ?_
  refine ⟨_, _, rfl, (by refine ⟨?_, ?_⟩ <;> omega), ?_⟩
  refine ⟨fun c10 => ?_, fun c10 => ?_⟩
  · refine ⟨_, _, rfl, (by refine ⟨?_, ?_⟩ <;> omega), ?_⟩
    refine ⟨rfl, rfl, ?_⟩
    refine s_hasRoom (by omega) ?_
    refine ⟨fun c27 => ?_, fun c27 => ?_⟩
    · replace c27 := bI_z c27
      refine ⟨rfl, Or.inl rfl, ?_⟩
      simp only [Int32.reduceToInt] at c10
      first | exact hF (by omega) | exact hS (by omega)
    · replace c27 := bI_nz c27
      refine ⟨_, _, rfl, (by refine ⟨?_, ?_⟩ <;> omega), ?_⟩
      refine ⟨_, _, rfl, (by refine ⟨?_, ?_⟩ <;> omega), ?_⟩
      refine ⟨_, rfl, (by refine ⟨?_, ?_⟩ <;> omega), ?_⟩
      refine ⟨_, _, rfl, (by refine ⟨?_, ?_⟩ <;> omega), ?_⟩
      refine ⟨_, rfl, (by refine ⟨?_, ?_⟩ <;> omega), ?_⟩
      refine ⟨rfl, Or.inr rfl, ?_⟩
      simp only [Int32.reduceToInt] at c10
      first | exact hF (by omega) | exact hS (by omega)
  · refine ⟨rfl, Or.inl rfl, ?_⟩
    simp only [Int32.reduceToInt] at c10
    first | exact hF (by omega) | exact hS (by omega)
theorem s_isSplit {d : Nat} {σ : Mm} {Q : Qt} {l v : Int32} (hl : 0 ≤ l.toInt ∧ l.toInt < 100) (hv : 0 ≤ v.toInt ∧ v.toInt < 30) (h3 : (σ 3 0).toInt ≤ 30) (hF : ¬ ((0 ≤ (σ 17 l.toInt.toNat).toInt ∧ (σ 17 l.toInt.toNat).toInt < (σ 3 0).toInt) ∧ ¬ (σ 35 (σ 17 l.toInt.toNat).toInt.toNat).toInt = 0 ∧ (σ 6 (σ 17 l.toInt.toNat).toInt.toNat).toInt = (σ 6 v.toInt.toNat).toInt ∧ (σ 36 (σ 17 l.toInt.toNat).toInt.toNat + σ 16 l.toInt.toNat).toInt ≤ 100000) → Q (some (.int 0)) σ) (hS : ((0 ≤ (σ 17 l.toInt.toNat).toInt ∧ (σ 17 l.toInt.toNat).toInt < (σ 3 0).toInt) ∧ ¬ (σ 35 (σ 17 l.toInt.toNat).toInt.toNat).toInt = 0 ∧ (σ 6 (σ 17 l.toInt.toNat).toInt.toNat).toInt = (σ 6 v.toInt.toNat).toInt ∧ (σ 36 (σ 17 l.toInt.toNat).toInt.toNat + σ 16 l.toInt.toNat).toInt ≤ 100000) → Q (some (.int 1)) (wr (wr σ 36 v.toInt.toNat (σ 36 v.toInt.toNat - σ 16 l.toInt.toNat)) 36 (σ 17 l.toInt.toNat).toInt.toNat ((wr σ 36 v.toInt.toNat (σ 36 v.toInt.toNat - σ 16 l.toInt.toNat)) 36 (σ 17 l.toInt.toNat).toInt.toNat + σ 16 l.toInt.toNat))) : Call (d + 3) k_X8_isSplit [.ref 34, .int l, .int v] σ Q := by
  refine Call_st 120 fun X hX => ?_
  refine ⟨_, _, rfl, (by refine ⟨?_, ?_⟩ <;> omega), ?_⟩
  refine ⟨_, _, rfl, (by refine ⟨?_, ?_⟩ <;> omega), ?_⟩
  refine ⟨rfl, rfl, ?_⟩
  refine s_takesFrom hv h3 ?_
  refine ⟨fun c25 => ?_, fun c25 => ?_⟩
  · replace c25 := bI_z c25
    refine ⟨rfl, Or.inl rfl, ?_⟩
    first | exact hF (by assumption) | exact hS (by assumption)
  · replace c25 := bI_nz c25
    refine ⟨_, _, rfl, (by refine ⟨?_, ?_⟩ <;> omega), ?_⟩
    refine ⟨_, _, rfl, (by refine ⟨?_, ?_⟩ <;> omega), ?_⟩
    refine ⟨_, rfl, (by refine ⟨?_, ?_⟩ <;> omega), ?_⟩
    refine ⟨_, _, rfl, (by refine ⟨?_, ?_⟩ <;> omega), ?_⟩
    refine ⟨_, _, rfl, (by refine ⟨?_, ?_⟩ <;> omega), ?_⟩
    refine ⟨_, rfl, (by refine ⟨?_, ?_⟩ <;> omega), ?_⟩
    refine ⟨rfl, Or.inr rfl, ?_⟩
    first | exact hF (by assumption) | exact hS (by assumption)
theorem s_isReturned {d : Nat} {σ : Mm} {Q : Qt} {l v : Int32} (hl : 0 ≤ l.toInt ∧ l.toInt < 100) (hv : 0 ≤ v.toInt ∧ v.toInt < 30) (hp : 0 ≤ (σ 17 l.toInt.toNat).toInt ∧ (σ 17 l.toInt.toNat).toInt < (σ 1 2).toInt) (hp2 : (σ 17 l.toInt.toNat).toInt < 10) (hF : 0 ≤ (σ 2 (σ 17 l.toInt.toNat).toInt.toNat).toInt ∧ (σ 2 (σ 17 l.toInt.toNat).toInt.toNat).toInt < 5) (hG : 0 ≤ (σ 6 v.toInt.toNat).toInt ∧ (σ 6 v.toInt.toNat).toInt < 5) (hN : ¬ (σ 36 v.toInt.toNat + σ 16 l.toInt.toNat).toInt ≤ 100000 → Q (some (.int 0)) σ) (hS : (σ 36 v.toInt.toNat + σ 16 l.toInt.toNat).toInt ≤ 100000 → Q (some (.int 1)) (wr (wr σ 36 v.toInt.toNat (σ 36 v.toInt.toNat + σ 16 l.toInt.toNat)) (39 + (σ 2 (σ 17 l.toInt.toNat).toInt.toNat).toInt.toNat) (σ 6 v.toInt.toNat).toInt.toNat ((wr σ 36 v.toInt.toNat (σ 36 v.toInt.toNat + σ 16 l.toInt.toNat)) (39 + (σ 2 (σ 17 l.toInt.toNat).toInt.toNat).toInt.toNat) (σ 6 v.toInt.toNat).toInt.toNat + -σ 16 l.toInt.toNat))) : Call (d + 3) k_X8_isReturned [.ref 34, .int l, .int v] σ Q := by
  refine Call_st 120 fun X hX => ?_
  refine ⟨_, _, rfl, (by refine ⟨?_, ?_⟩ <;> omega), ?_⟩
  refine ⟨rfl, rfl, ?_⟩
  refine s_hasRoom (by omega) ?_
  refine ⟨fun c14 => ?_, fun c14 => ?_⟩
  · replace c14 := bI_z c14
    refine ⟨rfl, Or.inl rfl, ?_⟩
    first | exact hN (by assumption) | exact hS (by assumption)
  · replace c14 := bI_nz c14
    refine ⟨_, _, rfl, (by refine ⟨?_, ?_⟩ <;> omega), ?_⟩
    refine ⟨_, _, rfl, (by refine ⟨?_, ?_⟩ <;> omega), ?_⟩
    refine ⟨_, rfl, (by refine ⟨?_, ?_⟩ <;> omega), ?_⟩
    refine ⟨_, _, rfl, (by refine ⟨?_, ?_⟩ <;> omega), ?_⟩
    refine ⟨_, _, rfl, (by refine ⟨?_, ?_⟩ <;> omega), ?_⟩
    refine ⟨rfl, rfl, ?_⟩
    refine s_sell hp hp2 hF hv hG ?_
    refine ⟨rfl, Or.inr rfl, ?_⟩
    first | exact hN (by assumption) | exact hS (by assumption)
theorem s_isLost {d : Nat} {σ : Mm} {Q : Qt} {v o : Int32} (hv : 0 ≤ v.toInt ∧ v.toInt < 30) (h3 : (σ 3 0).toInt ≤ 30) (hF : ¬ ((0 ≤ o.toInt ∧ o.toInt < (σ 3 0).toInt) ∧ ¬ ((wr σ 35 v.toInt.toNat 0) 35 o.toInt.toNat).toInt = 0 ∧ (σ 6 o.toInt.toNat).toInt = (σ 6 v.toInt.toNat).toInt ∧ (σ 36 o.toInt.toNat + σ 36 v.toInt.toNat).toInt ≤ 100000) → Q (some (.int 1)) (wr (wr σ 35 v.toInt.toNat 0) 36 v.toInt.toNat 0)) (hS : ((0 ≤ o.toInt ∧ o.toInt < (σ 3 0).toInt) ∧ ¬ ((wr σ 35 v.toInt.toNat 0) 35 o.toInt.toNat).toInt = 0 ∧ (σ 6 o.toInt.toNat).toInt = (σ 6 v.toInt.toNat).toInt ∧ (σ 36 o.toInt.toNat + σ 36 v.toInt.toNat).toInt ≤ 100000) → Q (some (.int 1)) (wr (wr (wr σ 35 v.toInt.toNat 0) 36 o.toInt.toNat (σ 36 o.toInt.toNat + σ 36 v.toInt.toNat)) 36 v.toInt.toNat 0)) : Call (d + 3) k_X8_isLost [.ref 34, .int v, .int o] σ Q := by
  refine Call_st 120 fun X hX => ?_
  refine ⟨(by refine ⟨?_, ?_⟩ <;> omega), Or.inl rfl, ?_⟩
  refine ⟨_, _, rfl, (by refine ⟨?_, ?_⟩ <;> omega), ?_⟩
  refine ⟨rfl, rfl, ?_⟩
  refine s_takesFrom hv h3 ?_
  refine ⟨fun c19 => ?_, fun c19 => ?_⟩
  · replace c19 := bI_z c19
    refine ⟨_, rfl, (by refine ⟨?_, ?_⟩ <;> omega), ?_⟩
    refine ⟨rfl, Or.inr rfl, ?_⟩
    first | exact hF (by assumption) | exact hS (by assumption)
  · replace c19 := bI_nz c19
    refine ⟨_, _, rfl, (have c19 : (0 ≤ o.toInt ∧ o.toInt < (σ 3 0).toInt) ∧ ¬ ((wr σ 35 v.toInt.toNat 0) 35 o.toInt.toNat).toInt = 0 ∧ (σ 6 o.toInt.toNat).toInt = (σ 6 v.toInt.toNat).toInt ∧ (σ 36 o.toInt.toNat + σ 36 v.toInt.toNat).toInt ≤ 100000 := c19; ⟨by omega, by omega⟩), ?_⟩
    refine ⟨_, _, rfl, (by refine ⟨?_, ?_⟩ <;> omega), ?_⟩
    refine ⟨_, rfl, (have c19 : (0 ≤ o.toInt ∧ o.toInt < (σ 3 0).toInt) ∧ ¬ ((wr σ 35 v.toInt.toNat 0) 35 o.toInt.toNat).toInt = 0 ∧ (σ 6 o.toInt.toNat).toInt = (σ 6 v.toInt.toNat).toInt ∧ (σ 36 o.toInt.toNat + σ 36 v.toInt.toNat).toInt ≤ 100000 := c19; ⟨by omega, by omega⟩), ?_⟩
    refine ⟨_, rfl, (by refine ⟨?_, ?_⟩ <;> omega), ?_⟩
    refine ⟨rfl, Or.inr rfl, ?_⟩
    first | exact hF (by assumption) | exact hS (by assumption)
