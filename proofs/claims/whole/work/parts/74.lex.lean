abbrev ltP (x : Int32) : Prop := 97 ≤ x.toInt ∧ x.toInt ≤ 122
abbrev dgP (x : Int32) : Prop := 48 ≤ x.toInt ∧ x.toInt ≤ 57
/-- the first place from p on where g doesn't hold, of at most f -/
def rnB (g : Nat → Bool) : Nat → Nat → Nat
  | 0, p => p
  | f + 1, p => if g p = true then rnB g f (p + 1) else p
theorem rn_y {g : Nat → Bool} {f p : Nat} (h : g p = true) : rnB g (f + 1) p = rnB g f (p + 1) := if_pos h
theorem rn_n {g : Nat → Bool} {f p : Nat} (h : ¬ g p = true) : rnB g (f + 1) p = p := if_neg h
theorem rn_b {g : Nat → Bool} : ∀ f p, p ≤ rnB g f p ∧ rnB g f p ≤ p + f
  | 0, p => ⟨Nat.le_refl p, Nat.le_refl p⟩
  | f + 1, p => by
    have := rn_b (g := g) f (p + 1)
    unfold rnB
    split <;> omega
def blB (b : Nat → Int32) (p : Nat) : Bool := decide ((b p).toInt = 32)
def ltB (b : Nat → Int32) (p : Nat) : Bool := decide (ltP (b p))
def dgB (b : Nat → Int32) (p : Nat) : Bool := decide (dgP (b p))
theorem blT {b : Nat → Int32} {p : Nat} : blB b p = true ↔ (b p).toInt = 32 := by unfold blB; exact decide_eq_true_iff
theorem ltT {b : Nat → Int32} {p : Nat} : ltB b p = true ↔ ltP (b p) := by unfold ltB; exact decide_eq_true_iff
theorem dgT {b : Nat → Int32} {p : Nat} : dgB b p = true ↔ dgP (b p) := by unfold dgB; exact decide_eq_true_iff
/-- a token: 0 end, 1 letters, 2 figures, 3 a sign, 4 wrong; where it begins and ends -/
abbrev Tk : Type := Nat × Nat × Nat
def lxF (b : Nat → Int32) (n p : Nat) (w : Prop) [Decidable w] : Tk :=
  if n ≤ rnB (blB b) (n - p) p then (0, rnB (blB b) (n - p) p, n) else
  if ltP (b (rnB (blB b) (n - p) p)) then (if w ∧ rnB (blB b) (n - p) p = p then 4 else 1, rnB (blB b) (n - p) p, rnB (ltB b) (n - (rnB (blB b) (n - p) p + 1)) (rnB (blB b) (n - p) p + 1)) else
  if dgP (b (rnB (blB b) (n - p) p)) then (if (w ∧ rnB (blB b) (n - p) p = p) ∨ 4 < rnB (dgB b) (n - (rnB (blB b) (n - p) p + 1)) (rnB (blB b) (n - p) p + 1) - rnB (blB b) (n - p) p then 4 else 2, rnB (blB b) (n - p) p, rnB (dgB b) (n - (rnB (blB b) (n - p) p + 1)) (rnB (blB b) (n - p) p + 1)) else
  (3, rnB (blB b) (n - p) p, rnB (blB b) (n - p) p + 1)
def nxT (b : Nat → Int32) (n : Nat) (t : Tk) : Tk := lxF b n t.2.2 (t.1 = 1 ∨ t.1 = 2)
def nvF (b : Nat → Int32) (s : Nat) : Nat → Int32
  | 0 => 0
  | k + 1 => nvF b s k * 10 + b (s + k) - 48
abbrev wdP (b : Nat → Int32) (s e i : Nat) : Prop := e = s + sLen i ∧ ∀ j, j < sLen i → (b (s + j)).toInt = (sByt i j).toInt
abbrev nmP (b : Nat → Int32) (s e : Nat) : Prop := e = s + 1 ∧ 0 ≤ (nmIx (b s)).toInt
def wdC (b : Nat → Int32) (s e : Nat) : Int32 := if nmP b s e then 259 else if wdP b s e 1 then 260 else if wdP b s e 2 then 261 else if wdP b s e 3 then 262 else 257
def tokC (b : Nat → Int32) (t : Tk) : Int32 := if t.1 = 0 then 256 else if t.1 = 4 then 257 else if t.1 = 2 then 258 else if t.1 = 3 then b t.2.1 &&& 255 else wdC b t.2.1 t.2.2
/-- of cell 31 only some places differ -/
def A31 (J : List Nat) (τ ρ : Mm) : Prop := (∀ c, c ≠ 31 → ρ c = τ c) ∧ ∀ j, cu J j = false → ρ 31 j = τ 31 j
theorem a31_rf {J : List Nat} {τ : Mm} : A31 J τ τ := ⟨fun _ _ => rfl, fun _ _ => rfl⟩
theorem a31_wr {J : List Nat} {τ ρ : Mm} {i : Nat} {v : Int32} (h : A31 J τ ρ) (hi : cu J i = true) : A31 J τ (wr ρ 31 i v) := ⟨fun c hc => (wr_c hc).trans (h.1 c hc), fun j hj => by
  rw [wr_i (fun z => by rw [z, hi] at hj; cases hj)]
  exact h.2 j hj⟩
theorem a31_wk {J K : List Nat} {τ ρ : Mm} (h : A31 J τ ρ) (hs : J.all (fun k => cu K k) = true) : A31 K τ ρ := ⟨h.1, fun j hj => h.2 j (cu_sub hs hj)⟩
theorem a31_tr {J : List Nat} {τ ρ υ : Mm} (h : A31 J τ ρ) (h2 : A31 J ρ υ) : A31 J τ υ := ⟨fun c hc => (h2.1 c hc).trans (h.1 c hc), fun j hj => (h2.2 j hj).trans (h.2 j hj)⟩
theorem s_isLet {d : Nat} {σ : Mm} {Q : Qt} {i : Int32} (hi : 0 ≤ i.toInt ∧ i.toInt < 96) (hQ : Q (some (.int (bI (ltP (σ 30 i.toInt.toNat))))) σ) : Call (d + 1) k_X4_isLetter [.ref 31, .int i] σ Q := by
  refine Call_st 120 fun X hX => ?_
  refine ⟨_, _, rfl, ⟨by omega, by omega⟩, ?_⟩
  refine ⟨fun c8 => ?_, fun c8 => ?_⟩
  · refine ⟨rfl, Or.inl rfl, ?_⟩
    try simp only [Int32.reduceToInt] at c8
    first | exact bI_t hQ (by omega) | exact bI_f hQ (by omega)
  · refine ⟨_, _, rfl, ⟨by omega, by omega⟩, ?_⟩
    refine ⟨fun c19 => ?_, fun c19 => ?_⟩
    · refine ⟨rfl, Or.inl rfl, ?_⟩
      try simp only [Int32.reduceToInt] at c8 c19
      first | exact bI_t hQ (by omega) | exact bI_f hQ (by omega)
    · refine ⟨rfl, Or.inr rfl, ?_⟩
      try simp only [Int32.reduceToInt] at c8 c19
      first | exact bI_t hQ (by omega) | exact bI_f hQ (by omega)
theorem s_isDig {d : Nat} {σ : Mm} {Q : Qt} {i : Int32} (hi : 0 ≤ i.toInt ∧ i.toInt < 96) (hQ : Q (some (.int (bI (dgP (σ 30 i.toInt.toNat))))) σ) : Call (d + 1) k_X4_isDigit [.ref 31, .int i] σ Q := by
  refine Call_st 120 fun X hX => ?_
  refine ⟨_, _, rfl, ⟨by omega, by omega⟩, ?_⟩
  refine ⟨fun c8 => ?_, fun c8 => ?_⟩
  · refine ⟨rfl, Or.inl rfl, ?_⟩
    try simp only [Int32.reduceToInt] at c8
    first | exact bI_t hQ (by omega) | exact bI_f hQ (by omega)
  · refine ⟨_, _, rfl, ⟨by omega, by omega⟩, ?_⟩
    refine ⟨fun c19 => ?_, fun c19 => ?_⟩
    · refine ⟨rfl, Or.inl rfl, ?_⟩
      try simp only [Int32.reduceToInt] at c8 c19
      first | exact bI_t hQ (by omega) | exact bI_f hQ (by omega)
    · refine ⟨rfl, Or.inr rfl, ?_⟩
      try simp only [Int32.reduceToInt] at c8 c19
      first | exact bI_t hQ (by omega) | exact bI_f hQ (by omega)
theorem s_isWord1 {d : Nat} {σ : Mm} {Q : Qt} {s e : Nat} (h3 : σ 31 3 = nI s) (h8 : σ 31 8 = nI e) (hse : s ≤ e) (he : e ≤ 96) (hQ : Q (some (.int (bI (wdP (σ 30) s e 1)))) σ) : Call (d + 5) k_X4_isWord [.ref 31, .ref 2001] σ Q := by
  refine Call_go fun X hX => ?_
  have esub : (σ 31 8 - σ 31 3).toInt = (e : Int) - s := by
    rw [h3, h8]
    have a := nIt (n := s) (by omega)
    have b := nIt (n := e) (by omega)
    simp only [Int32.toInt_sub, a, b, Int.bmod]
    omega
  have loop : ∀ (kk q : Nat), q + kk = 3 → X 24 [.ref 31, .ref 2001, .int (bI (e = s + 3 ∧ ∀ j, j < q → (σ 30 (s + j)).toInt = (sByt 1 j).toInt)), .int (nI q)] [] σ := by
    intro kk
    induction kk with
    | zero =>
      intro q hi
      rw [Nat.add_zero] at hi
      have e1 := nIt (n := q) (by omega)
      refine go [24] 100 hX ?_
      refine ⟨fun c25 => ?_, fun c25 => ?_⟩
      · replace c25 := bI_z c25
        refine ⟨rfl, isb_bI, ?_⟩
        rw [hi]
        exact hQ
      · replace c25 := bI_nz c25
        refine ⟨rfl, rfl, ?_⟩
        refine j_len1 ?_
        refine ⟨fun c33 => ?_, fun c33 => ?_⟩
        · exfalso; (first | omega | (simp only [Int32.reduceToInt] at c25 c33 ⊢; omega))
        · refine ⟨rfl, isb_bI, ?_⟩
          rw [hi]
          exact hQ
    | succ kk ih =>
      intro q hi
      have e1 := nIt (n := q) (by omega)
      have e2 := nIn (i := q) (by omega)
      refine go [24] 100 hX ?_
      refine ⟨fun c25 => ?_, fun c25 => ?_⟩
      · replace c25 := bI_z c25
        refine ⟨rfl, isb_bI, ?_⟩
        refine Qe (bI_f hQ (fun z => c25 ⟨z.1, fun j hj => z.2 j (by show j < 3; omega)⟩)) (vI_ ?_) rfl
        exact bI_n c25
      · replace c25 := bI_nz c25
        refine ⟨rfl, rfl, ?_⟩
        refine j_len1 ?_
        refine ⟨fun c33 => ?_, fun c33 => ?_⟩
        · refine ⟨rfl, rfl, ?_⟩
          refine j_char1 ⟨by omega, by omega⟩ ?_
          refine ⟨_, _, rfl, (by have z := c25.1; rw [h3, nI_add]; have y := nIt (n := s + q) (by omega); exact ⟨by omega, by omega⟩), ?_⟩
          refine ⟨fun c52 => ?_, fun c52 => ?_⟩
          · have ih1 := ih (q + 1) (by omega)
            have ex : (σ 31 3 + nI q).toInt.toNat = s + q := by rw [h3, nI_add]; exact nIn (by have := c25.1; omega)
            rw [e2, ex] at c52
            rw [bI_p (show (e = s + 3 ∧ ∀ j, j < q + 1 → (σ 30 (s + j)).toInt = (sByt 1 j).toInt) from ⟨c25.1, fun j hj => by
              by_cases r : j = q
              · rw [r]; exact c52.symm
              · exact c25.2 j (by omega)⟩), ← nI_1] at ih1
            exact ih1
          · have ih1 := ih (q + 1) (by omega)
            have ex : (σ 31 3 + nI q).toInt.toNat = s + q := by rw [h3, nI_add]; exact nIn (by have := c25.1; omega)
            rw [e2, ex] at c52
            rw [bI_n (fun z => c52 (z.2 q (by omega)).symm), ← nI_1] at ih1
            exact ih1
        · refine ⟨rfl, isb_bI, ?_⟩
          exfalso; (first | omega | (simp only [Int32.reduceToInt] at c25 c33 ⊢; omega))
  refine go [24] 40 hX ?_
  refine ⟨rfl, rfl, ?_⟩
  refine j_len1 ?_
  refine ⟨fun c13 => ?_, fun c13 => ?_⟩
  · have h0 := loop 3 0 (by omega)
    rw [esub] at c13
    simp only [Int32.reduceToInt] at c13
    rw [bI_p (show (e = s + 3 ∧ ∀ j, j < 0 → (σ 30 (s + j)).toInt = (sByt 1 j).toInt) from ⟨by omega, fun j hj => by omega⟩)] at h0
    exact h0
  · have h0 := loop 3 0 (by omega)
    rw [esub] at c13
    simp only [Int32.reduceToInt] at c13
    rw [bI_n (fun z => c13 (by have := z.1; omega))] at h0
    exact h0
theorem s_isWord2 {d : Nat} {σ : Mm} {Q : Qt} {s e : Nat} (h3 : σ 31 3 = nI s) (h8 : σ 31 8 = nI e) (hse : s ≤ e) (he : e ≤ 96) (hQ : Q (some (.int (bI (wdP (σ 30) s e 2)))) σ) : Call (d + 5) k_X4_isWord [.ref 31, .ref 2002] σ Q := by
  refine Call_go fun X hX => ?_
  have esub : (σ 31 8 - σ 31 3).toInt = (e : Int) - s := by
    rw [h3, h8]
    have a := nIt (n := s) (by omega)
    have b := nIt (n := e) (by omega)
    simp only [Int32.toInt_sub, a, b, Int.bmod]
    omega
  have loop : ∀ (kk q : Nat), q + kk = 6 → X 24 [.ref 31, .ref 2002, .int (bI (e = s + 6 ∧ ∀ j, j < q → (σ 30 (s + j)).toInt = (sByt 2 j).toInt)), .int (nI q)] [] σ := by
    intro kk
    induction kk with
    | zero =>
      intro q hi
      rw [Nat.add_zero] at hi
      have e1 := nIt (n := q) (by omega)
      refine go [24] 100 hX ?_
      refine ⟨fun c25 => ?_, fun c25 => ?_⟩
      · replace c25 := bI_z c25
        refine ⟨rfl, isb_bI, ?_⟩
        rw [hi]
        exact hQ
      · replace c25 := bI_nz c25
        refine ⟨rfl, rfl, ?_⟩
        refine j_len2 ?_
        refine ⟨fun c33 => ?_, fun c33 => ?_⟩
        · exfalso; (first | omega | (simp only [Int32.reduceToInt] at c25 c33 ⊢; omega))
        · refine ⟨rfl, isb_bI, ?_⟩
          rw [hi]
          exact hQ
    | succ kk ih =>
      intro q hi
      have e1 := nIt (n := q) (by omega)
      have e2 := nIn (i := q) (by omega)
      refine go [24] 100 hX ?_
      refine ⟨fun c25 => ?_, fun c25 => ?_⟩
      · replace c25 := bI_z c25
        refine ⟨rfl, isb_bI, ?_⟩
        refine Qe (bI_f hQ (fun z => c25 ⟨z.1, fun j hj => z.2 j (by show j < 6; omega)⟩)) (vI_ ?_) rfl
        exact bI_n c25
      · replace c25 := bI_nz c25
        refine ⟨rfl, rfl, ?_⟩
        refine j_len2 ?_
        refine ⟨fun c33 => ?_, fun c33 => ?_⟩
        · refine ⟨rfl, rfl, ?_⟩
          refine j_char2 ⟨by omega, by omega⟩ ?_
          refine ⟨_, _, rfl, (by have z := c25.1; rw [h3, nI_add]; have y := nIt (n := s + q) (by omega); exact ⟨by omega, by omega⟩), ?_⟩
          refine ⟨fun c52 => ?_, fun c52 => ?_⟩
          · have ih1 := ih (q + 1) (by omega)
            have ex : (σ 31 3 + nI q).toInt.toNat = s + q := by rw [h3, nI_add]; exact nIn (by have := c25.1; omega)
            rw [e2, ex] at c52
            rw [bI_p (show (e = s + 6 ∧ ∀ j, j < q + 1 → (σ 30 (s + j)).toInt = (sByt 2 j).toInt) from ⟨c25.1, fun j hj => by
              by_cases r : j = q
              · rw [r]; exact c52.symm
              · exact c25.2 j (by omega)⟩), ← nI_1] at ih1
            exact ih1
          · have ih1 := ih (q + 1) (by omega)
            have ex : (σ 31 3 + nI q).toInt.toNat = s + q := by rw [h3, nI_add]; exact nIn (by have := c25.1; omega)
            rw [e2, ex] at c52
            rw [bI_n (fun z => c52 (z.2 q (by omega)).symm), ← nI_1] at ih1
            exact ih1
        · refine ⟨rfl, isb_bI, ?_⟩
          exfalso; (first | omega | (simp only [Int32.reduceToInt] at c25 c33 ⊢; omega))
  refine go [24] 40 hX ?_
  refine ⟨rfl, rfl, ?_⟩
  refine j_len2 ?_
  refine ⟨fun c13 => ?_, fun c13 => ?_⟩
  · have h0 := loop 6 0 (by omega)
    rw [esub] at c13
    simp only [Int32.reduceToInt] at c13
    rw [bI_p (show (e = s + 6 ∧ ∀ j, j < 0 → (σ 30 (s + j)).toInt = (sByt 2 j).toInt) from ⟨by omega, fun j hj => by omega⟩)] at h0
    exact h0
  · have h0 := loop 6 0 (by omega)
    rw [esub] at c13
    simp only [Int32.reduceToInt] at c13
    rw [bI_n (fun z => c13 (by have := z.1; omega))] at h0
    exact h0
theorem s_isWord3 {d : Nat} {σ : Mm} {Q : Qt} {s e : Nat} (h3 : σ 31 3 = nI s) (h8 : σ 31 8 = nI e) (hse : s ≤ e) (he : e ≤ 96) (hQ : Q (some (.int (bI (wdP (σ 30) s e 3)))) σ) : Call (d + 5) k_X4_isWord [.ref 31, .ref 2003] σ Q := by
  refine Call_go fun X hX => ?_
  have esub : (σ 31 8 - σ 31 3).toInt = (e : Int) - s := by
    rw [h3, h8]
    have a := nIt (n := s) (by omega)
    have b := nIt (n := e) (by omega)
    simp only [Int32.toInt_sub, a, b, Int.bmod]
    omega
  have loop : ∀ (kk q : Nat), q + kk = 4 → X 24 [.ref 31, .ref 2003, .int (bI (e = s + 4 ∧ ∀ j, j < q → (σ 30 (s + j)).toInt = (sByt 3 j).toInt)), .int (nI q)] [] σ := by
    intro kk
    induction kk with
    | zero =>
      intro q hi
      rw [Nat.add_zero] at hi
      have e1 := nIt (n := q) (by omega)
      refine go [24] 100 hX ?_
      refine ⟨fun c25 => ?_, fun c25 => ?_⟩
      · replace c25 := bI_z c25
        refine ⟨rfl, isb_bI, ?_⟩
        rw [hi]
        exact hQ
      · replace c25 := bI_nz c25
        refine ⟨rfl, rfl, ?_⟩
        refine j_len3 ?_
        refine ⟨fun c33 => ?_, fun c33 => ?_⟩
        · exfalso; (first | omega | (simp only [Int32.reduceToInt] at c25 c33 ⊢; omega))
        · refine ⟨rfl, isb_bI, ?_⟩
          rw [hi]
          exact hQ
    | succ kk ih =>
      intro q hi
      have e1 := nIt (n := q) (by omega)
      have e2 := nIn (i := q) (by omega)
      refine go [24] 100 hX ?_
      refine ⟨fun c25 => ?_, fun c25 => ?_⟩
      · replace c25 := bI_z c25
        refine ⟨rfl, isb_bI, ?_⟩
        refine Qe (bI_f hQ (fun z => c25 ⟨z.1, fun j hj => z.2 j (by show j < 4; omega)⟩)) (vI_ ?_) rfl
        exact bI_n c25
      · replace c25 := bI_nz c25
        refine ⟨rfl, rfl, ?_⟩
        refine j_len3 ?_
        refine ⟨fun c33 => ?_, fun c33 => ?_⟩
        · refine ⟨rfl, rfl, ?_⟩
          refine j_char3 ⟨by omega, by omega⟩ ?_
          refine ⟨_, _, rfl, (by have z := c25.1; rw [h3, nI_add]; have y := nIt (n := s + q) (by omega); exact ⟨by omega, by omega⟩), ?_⟩
          refine ⟨fun c52 => ?_, fun c52 => ?_⟩
          · have ih1 := ih (q + 1) (by omega)
            have ex : (σ 31 3 + nI q).toInt.toNat = s + q := by rw [h3, nI_add]; exact nIn (by have := c25.1; omega)
            rw [e2, ex] at c52
            rw [bI_p (show (e = s + 4 ∧ ∀ j, j < q + 1 → (σ 30 (s + j)).toInt = (sByt 3 j).toInt) from ⟨c25.1, fun j hj => by
              by_cases r : j = q
              · rw [r]; exact c52.symm
              · exact c25.2 j (by omega)⟩), ← nI_1] at ih1
            exact ih1
          · have ih1 := ih (q + 1) (by omega)
            have ex : (σ 31 3 + nI q).toInt.toNat = s + q := by rw [h3, nI_add]; exact nIn (by have := c25.1; omega)
            rw [e2, ex] at c52
            rw [bI_n (fun z => c52 (z.2 q (by omega)).symm), ← nI_1] at ih1
            exact ih1
        · refine ⟨rfl, isb_bI, ?_⟩
          exfalso; (first | omega | (simp only [Int32.reduceToInt] at c25 c33 ⊢; omega))
  refine go [24] 40 hX ?_
  refine ⟨rfl, rfl, ?_⟩
  refine j_len3 ?_
  refine ⟨fun c13 => ?_, fun c13 => ?_⟩
  · have h0 := loop 4 0 (by omega)
    rw [esub] at c13
    simp only [Int32.reduceToInt] at c13
    rw [bI_p (show (e = s + 4 ∧ ∀ j, j < 0 → (σ 30 (s + j)).toInt = (sByt 3 j).toInt) from ⟨by omega, fun j hj => by omega⟩)] at h0
    exact h0
  · have h0 := loop 4 0 (by omega)
    rw [esub] at c13
    simp only [Int32.reduceToInt] at c13
    rw [bI_n (fun z => c13 (by have := z.1; omega))] at h0
    exact h0
