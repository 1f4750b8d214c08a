def arrK (g : Nat → Int32) (c0 : Nat) : List Sp3 → Prop
  | [] => True
  | x :: l => g (c0 + l.length) = x.1 ∧ arrK g c0 l
theorem arrK_cong {g g' : Nat → Int32} {c0 : Nat} : ∀ l : List Sp3, (∀ i, i < l.length → g' (c0 + i) = g (c0 + i)) → arrK g c0 l → arrK g' c0 l
  | [], _, _ => True.intro
  | _ :: l, h, ha => ⟨(h l.length (Nat.lt_succ_self _)).trans ha.1, arrK_cong l (fun i hi => h i (Nat.lt_succ_of_lt hi)) ha.2⟩
/-- the class's reader stands where the reading stands -/
def CrC (b : Nat → Int32) (n : Nat) (g0 : Nat → Int32) (c0 : Nat) (σ τ : Mm) (B N : Nat) (st : Pst) : Prop := (∀ c, c ≠ 31 → c ≠ 32 → τ c = σ c) ∧ τ 31 5 = nI n ∧ TkC b τ st.1 ∧ τ 31 2 = nI st.2.1 ∧ τ 31 6 = nI (c0 + st.2.2.length) ∧ arrK (τ 32) c0 st.2.2 ∧ (∀ j, j < c0 → τ 32 j = g0 j) ∧ τ 31 11 = nI B ∧ τ 31 12 = nI N
/-- it has failed at a place -/
def FlC (σ τ : Mm) (s : Nat) : Prop := (∀ c, c ≠ 31 → c ≠ 32 → τ c = σ c) ∧ τ 31 3 = nI s ∧ 0 ≤ (τ 31 6).toInt ∧ (τ 31 6).toInt ≤ 96
theorem crc_fl {b : Nat → Int32} {n : Nat} {g0 : Nat → Int32} {c0 : Nat} {σ : Mm} {τ : Mm} {B N : Nat} {st : Pst} (h : CrC b n g0 c0 σ τ B N st) (hc : c0 + st.2.2.length ≤ 96) : FlC σ τ st.1.2.1 := by
  have e := nIt (n := c0 + st.2.2.length) (by omega)
  exact ⟨h.1, h.2.2.1.1, by rw [h.2.2.2.2.1, e]; omega, by rw [h.2.2.2.2.1, e]; omega⟩
theorem s_advS {d : Nat} {b : Nat → Int32} {n : Nat} {g0 : Nat → Int32} {c0 : Nat} {σ : Mm} {τ : Mm} {Q : Qt} {B N : Nat} {st : Pst} (hs : σ 30 = b) (hn : n ≤ 96) (ht : tkO b n st.1) (hk : st.1.1 ≠ 4) (h : CrC b n g0 c0 σ τ B N st) (hQ : ∀ ρ : Mm, CrC b n g0 c0 σ ρ B N (adS b n st) → Q none ρ) : Call (d + 7) k_X4_advance [.ref 31] τ Q := by
  obtain ⟨h1, h2, ⟨t1, t2, t3, t4, t5, t6⟩, h4, h5, h6, h7, h8, h9⟩ := h
  have e30 : τ 30 = b := (h1 30 (by decide) (by decide)).trans hs
  refine s_adv (n := n) (p := st.1.2.2) (w := (st.1.1 = 1 ∨ st.1.1 = 2)) h2 t2 (t4 hk) ht.2.1 hn (fun ρ k1 k2 => hQ ρ ?_)
  rw [e30] at k2
  refine ⟨fun c c1 c2 => (k1.1 c c1).trans (h1 c c1 c2), (k1.2 5 rfl).trans h2, k2, (k1.2 2 rfl).trans h4, (k1.2 6 rfl).trans h5, ?_, ?_, (k1.2 11 rfl).trans h8, (k1.2 12 rfl).trans h9⟩
  · rw [k1.1 32 (by decide)]; exact h6
  · rw [k1.1 32 (by decide)]; exact h7
theorem s_emit {d : Nat} {τ : Mm} {Q : Qt} {x : Int32} (h0 : 0 ≤ (τ 31 6).toInt) (h1 : 96 ≤ (τ 31 6).toInt → Q none τ) (h2 : (τ 31 6).toInt < 96 → Q none (wr (wr τ 32 (τ 31 6).toInt.toNat x) 31 6 (τ 31 6 + 1))) : Call (d + 1) k_X4_emit [.ref 31, .int x] τ Q := by
  refine Call_st 30 fun X hX => ?_
  refine ⟨fun c6 => ?_, fun c6 => ?_⟩
  · refine ⟨_, rfl, ⟨by omega, by (first | omega | (simp only [Int32.reduceToInt] at c6 ⊢; omega))⟩, ?_⟩
    refine ⟨rfl, rfl, ?_⟩
    exact h2 (by (first | omega | (simp only [Int32.reduceToInt] at c6 ⊢; omega)))
  · refine ⟨rfl, rfl, ?_⟩
    exact h1 (by (first | omega | (simp only [Int32.reduceToInt] at c6 ⊢; omega)))
theorem tkc_wr {b : Nat → Int32} {τ ρ : Mm} {t : Tk} (h : TkC b τ t) (h3 : ρ 31 3 = τ 31 3) (h8 : ρ 31 8 = τ 31 8) (h7 : ρ 31 7 = τ 31 7) (h10 : ρ 31 10 = τ 31 10) (h9 : ρ 31 9 = τ 31 9) : TkC b ρ t := by
  obtain ⟨t1, t2, t3, t4, t5, t6⟩ := h
  exact ⟨h3.trans t1, h8.trans t2, h7.trans t3, fun z => h10.trans (t4 z), fun z => h9.trans (t5 z), fun z y => h9.trans (t6 z y)⟩
theorem s_emitS {d : Nat} {b : Nat → Int32} {n : Nat} {g0 : Nat → Int32} {c0 : Nat} {σ : Mm} {τ : Mm} {Q : Qt} {B N : Nat} {st : Pst} {x : Int32} {y : Sp3} (hx : x = y.1) (hc : c0 + st.2.2.length < 96) (h : CrC b n g0 c0 σ τ B N st) (hQ : ∀ ρ : Mm, CrC b n g0 c0 σ ρ B N (puS y st) → Q none ρ) : Call (d + 1) k_X4_emit [.ref 31, .int x] τ Q := by
  obtain ⟨h1, h2, h3, h4, h5, h6, h7, h8, h9⟩ := h
  have e1 := nIt (n := c0 + st.2.2.length) (by omega)
  have e2 := nIn (i := c0 + st.2.2.length) (by omega)
  refine s_emit (by rw [h5, e1]; omega) (fun z => by rw [h5, e1] at z; omega) (fun _ => hQ _ ?_)
  refine ⟨fun c c1 c2 => by rw [wr_c c1, wr_c c2]; exact h1 c c1 c2, h2, tkc_wr h3 rfl rfl rfl rfl rfl, h4, ?_, ?_, fun j hj => ?_, h8, h9⟩
  · show τ 31 6 + 1 = nI (c0 + (st.2.2.length + 1))
    rw [h5, nI_1]
    rfl
  · show arrK (upd (τ 32) (τ 31 6).toInt.toNat x) c0 (y :: st.2.2)
    rw [h5, e2]
    exact ⟨pk_us.trans hx, arrK_cong _ (fun i hi => pk_un (by omega)) h6⟩
  · show upd (τ 32) (τ 31 6).toInt.toNat x j = _
    rw [h5, e2, pk_un (by omega)]
    exact h7 j hj
theorem s_emitF {d : Nat} {σ τ : Mm} {Q : Qt} {s : Nat} {x : Int32} (h : FlC σ τ s) (hQ : ∀ ρ : Mm, FlC σ ρ s → (∀ j, j ≠ 6 → ρ 31 j = τ 31 j) → Q none ρ) : Call (d + 1) k_X4_emit [.ref 31, .int x] τ Q := by
  obtain ⟨h1, h2, h3, h4⟩ := h
  refine s_emit h3 (fun _ => hQ τ ⟨h1, h2, h3, h4⟩ (fun _ _ => rfl)) (fun z => hQ _ ⟨fun c c1 c2 => by rw [wr_c c1, wr_c c2]; exact h1 c c1 c2, h2, ?_, ?_⟩ (fun j hj => pk_un hj))
  · show 0 ≤ (τ 31 6 + 1).toInt
    rw [add1 (by omega)]
    omega
  · show (τ 31 6 + 1).toInt ≤ 96
    rw [add1 (by omega)]
    omega
theorem s_lvOf {d : Nat} {σ : Mm} {Q : Qt} {t : Int32} (hQ : Q (some (.int (nI (lvO t)))) σ) : Call (d + 1) k_X4_levelOf [.int t] σ Q := by
  refine Call_st 120 fun X hX => ?_
  refine ⟨fun c1_0 => ?_, fun c1_0 => ?_⟩
  · refine ⟨rfl, trivial, ?_⟩
    refine Qe hQ (vI_ ?_) rfl
    dsimp only at c1_0
    unfold lvO
    simp (config := {decide := true}) only [*, if_true, if_false]
  refine ⟨fun c1_1 => ?_, fun c1_1 => ?_⟩
  · refine ⟨rfl, trivial, ?_⟩
    refine Qe hQ (vI_ ?_) rfl
    dsimp only at c1_0 c1_1
    unfold lvO
    simp (config := {decide := true}) only [*, if_true, if_false]
  refine ⟨fun c1_2 => ?_, fun c1_2 => ?_⟩
  · refine ⟨rfl, trivial, ?_⟩
    refine Qe hQ (vI_ ?_) rfl
    dsimp only at c1_0 c1_1 c1_2
    unfold lvO
    simp (config := {decide := true}) only [*, if_true, if_false]
  refine ⟨fun c1_3 => ?_, fun c1_3 => ?_⟩
  · refine ⟨rfl, trivial, ?_⟩
    refine Qe hQ (vI_ ?_) rfl
    dsimp only at c1_0 c1_1 c1_2 c1_3
    unfold lvO
    simp (config := {decide := true}) only [*, if_true, if_false]
  refine ⟨fun c1_4 => ?_, fun c1_4 => ?_⟩
  · refine ⟨rfl, trivial, ?_⟩
    refine Qe hQ (vI_ ?_) rfl
    dsimp only at c1_0 c1_1 c1_2 c1_3 c1_4
    unfold lvO
    simp (config := {decide := true}) only [*, if_true, if_false]
  refine ⟨fun c1_5 => ?_, fun c1_5 => ?_⟩
  · refine ⟨rfl, trivial, ?_⟩
    refine Qe hQ (vI_ ?_) rfl
    dsimp only at c1_0 c1_1 c1_2 c1_3 c1_4 c1_5
    unfold lvO
    simp (config := {decide := true}) only [*, if_true, if_false]
  refine ⟨fun c1_6 => ?_, fun c1_6 => ?_⟩
  · refine ⟨rfl, trivial, ?_⟩
    refine Qe hQ (vI_ ?_) rfl
    dsimp only at c1_0 c1_1 c1_2 c1_3 c1_4 c1_5 c1_6
    unfold lvO
    simp (config := {decide := true}) only [*, if_true, if_false]
  refine ⟨fun c1_7 => ?_, fun c1_7 => ?_⟩
  · refine ⟨rfl, trivial, ?_⟩
    refine Qe hQ (vI_ ?_) rfl
    dsimp only at c1_0 c1_1 c1_2 c1_3 c1_4 c1_5 c1_6 c1_7
    unfold lvO
    simp (config := {decide := true}) only [*, if_true, if_false]
  refine ⟨fun c1_8 => ?_, fun c1_8 => ?_⟩
  · refine ⟨rfl, trivial, ?_⟩
    refine Qe hQ (vI_ ?_) rfl
    dsimp only at c1_0 c1_1 c1_2 c1_3 c1_4 c1_5 c1_6 c1_7 c1_8
    unfold lvO
    simp (config := {decide := true}) only [*, if_true, if_false]
  refine ⟨rfl, trivial, ?_⟩
  refine Qe hQ (vI_ ?_) rfl
  dsimp only at c1_0 c1_1 c1_2 c1_3 c1_4 c1_5 c1_6 c1_7 c1_8
  unfold lvO
  simp (config := {decide := true}) only [*, if_true, if_false]
theorem s_wkOf {d : Nat} {σ : Mm} {Q : Qt} {t : Int32} (hQ : Q (some (.int (wkO t))) σ) : Call (d + 1) k_X4_workOf [.int t] σ Q := by
  refine Call_st 120 fun X hX => ?_
  refine ⟨fun c1_0 => ?_, fun c1_0 => ?_⟩
  · refine ⟨rfl, trivial, ?_⟩
    refine Qe hQ (vI_ ?_) rfl
    dsimp only at c1_0
    unfold wkO
    simp (config := {decide := true}) only [*, if_true, if_false]
  refine ⟨fun c1_1 => ?_, fun c1_1 => ?_⟩
  · refine ⟨rfl, trivial, ?_⟩
    refine Qe hQ (vI_ ?_) rfl
    dsimp only at c1_0 c1_1
    unfold wkO
    simp (config := {decide := true}) only [*, if_true, if_false]
  refine ⟨fun c1_2 => ?_, fun c1_2 => ?_⟩
  · refine ⟨rfl, trivial, ?_⟩
    refine Qe hQ (vI_ ?_) rfl
    dsimp only at c1_0 c1_1 c1_2
    unfold wkO
    simp (config := {decide := true}) only [*, if_true, if_false]
  refine ⟨fun c1_3 => ?_, fun c1_3 => ?_⟩
  · refine ⟨rfl, trivial, ?_⟩
    refine Qe hQ (vI_ ?_) rfl
    dsimp only at c1_0 c1_1 c1_2 c1_3
    unfold wkO
    simp (config := {decide := true}) only [*, if_true, if_false]
  refine ⟨fun c1_4 => ?_, fun c1_4 => ?_⟩
  · refine ⟨rfl, trivial, ?_⟩
    refine Qe hQ (vI_ ?_) rfl
    dsimp only at c1_0 c1_1 c1_2 c1_3 c1_4
    unfold wkO
    simp (config := {decide := true}) only [*, if_true, if_false]
  refine ⟨fun c1_5 => ?_, fun c1_5 => ?_⟩
  · refine ⟨rfl, trivial, ?_⟩
    refine Qe hQ (vI_ ?_) rfl
    dsimp only at c1_0 c1_1 c1_2 c1_3 c1_4 c1_5
    unfold wkO
    simp (config := {decide := true}) only [*, if_true, if_false]
  refine ⟨fun c1_6 => ?_, fun c1_6 => ?_⟩
  · refine ⟨rfl, trivial, ?_⟩
    refine Qe hQ (vI_ ?_) rfl
    dsimp only at c1_0 c1_1 c1_2 c1_3 c1_4 c1_5 c1_6
    unfold wkO
    simp (config := {decide := true}) only [*, if_true, if_false]
  refine ⟨fun c1_7 => ?_, fun c1_7 => ?_⟩
  · refine ⟨rfl, trivial, ?_⟩
    refine Qe hQ (vI_ ?_) rfl
    dsimp only at c1_0 c1_1 c1_2 c1_3 c1_4 c1_5 c1_6 c1_7
    unfold wkO
    simp (config := {decide := true}) only [*, if_true, if_false]
  refine ⟨rfl, trivial, ?_⟩
  refine Qe hQ (vI_ ?_) rfl
  dsimp only at c1_0 c1_1 c1_2 c1_3 c1_4 c1_5 c1_6 c1_7
  unfold wkO
  simp (config := {decide := true}) only [*, if_true, if_false]
