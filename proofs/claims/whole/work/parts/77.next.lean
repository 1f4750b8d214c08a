theorem u255 {x : Int32} (h : -128 ≤ x.toInt ∧ x.toInt < 128) : (x &&& 255).toInt = if x.toInt < 0 then x.toInt + 256 else x.toInt := by
  have e := pk_and x (m := 255) 8 (by decide)
  rw [e, nIt (by omega)]
  have h1 : x.toInt = if 2 * x.toBitVec.toNat < 2 ^ 32 then (x.toBitVec.toNat : Int) else (x.toBitVec.toNat : Int) - (2 ^ 32 : Nat) := BitVec.toInt_eq_toNat_cond x.toBitVec
  have h2 := x.toBitVec.isLt
  split at h1 <;> split <;> omega
theorem uLt {x : Int32} (h : -128 ≤ x.toInt ∧ x.toInt < 128) : ltP (x &&& 255) ↔ ltP x := by
  unfold ltP
  rw [u255 h]
  split <;> omega
theorem uDg {x : Int32} (h : -128 ≤ x.toInt ∧ x.toInt < 128) : dgP (x &&& 255) ↔ dgP x := by
  unfold dgP
  rw [u255 h]
  split <;> omega
theorem uEq {x : Int32} (h : 0 ≤ x.toInt ∧ x.toInt < 128) : x &&& 255 = x := iX (by rw [u255 (by omega), if_neg (by omega)])
theorem uNn {x : Int32} (h : -128 ≤ x.toInt ∧ x.toInt < 128) : 0 ≤ (x &&& 255).toInt ∧ (x &&& 255).toInt < 256 := by
  rw [u255 h]
  split <;> omega
def A88 (J : List Nat) (τ ρ : Mm) : Prop := (∀ c, c ≠ 88 → ρ c = τ c) ∧ ∀ j, cu J j = false → ρ 88 j = τ 88 j
theorem a88_rf {J : List Nat} {τ : Mm} : A88 J τ τ := ⟨fun _ _ => rfl, fun _ _ => rfl⟩
theorem a88_wr {J : List Nat} {τ ρ : Mm} {i : Nat} {v : Int32} (h : A88 J τ ρ) (hi : cu J i = true) : A88 J τ (wr ρ 88 i v) := ⟨fun c hc => (wr_c hc).trans (h.1 c hc), fun j hj => by
  rw [wr_i (fun z => by rw [z, hi] at hj; cases hj)]
  exact h.2 j hj⟩
theorem a88_wk {J K : List Nat} {τ ρ : Mm} (h : A88 J τ ρ) (hs : J.all (fun k => cu K k) = true) : A88 K τ ρ := ⟨h.1, fun j hj => h.2 j (cu_sub hs hj)⟩
theorem a88_tr {J : List Nat} {τ ρ υ : Mm} (h : A88 J τ ρ) (h2 : A88 J ρ υ) : A88 J τ υ := ⟨fun c hc => (h2.1 c hc).trans (h.1 c hc), fun j hj => (h2.2 j hj).trans (h.2 j hj)⟩
/-- the byte at a place, as the reference has it -/
def byF (b : Nat → Int32) (n q : Nat) : Int32 := if q < n then b q &&& 255 else -1
theorem m_byteAt {d : Nat} {τ : Mm} {Q : Qt} {b : Nat → Int32} {n q : Nat} {x : Int32} (ht : ∀ i, i < 96 → τ 118 i = b i &&& 255) (hn : τ 88 36 = nI n) (hn96 : n ≤ 96) (hq : q ≤ 200) (ex : x = nI q) (hQ : Q (some (.int (byF b n q))) τ) : Call (d + 1) k_X12_byteAt [.ref 88, .int x] τ Q := by
  subst ex
  have e1 := nIt (n := q) (by omega)
  have e2 := nIn (i := q) (by omega)
  have en := nIt (n := n) (by omega)
  refine Call_st 30 fun X hX => ?_
  refine ⟨fun c5 => ?_, fun c5 => ?_⟩
  · refine ⟨_, _, rfl, (by rw [hn, e1, en] at c5; exact ⟨by omega, by omega⟩), ?_⟩
    refine ⟨rfl, trivial, ?_⟩
    rw [hn, e1, en] at c5
    unfold byF at hQ
    rw [if_pos (by omega), ← ht q (by omega)] at hQ
    refine Qe hQ (vI_ ?_) rfl
    rw [e2]
  · refine ⟨rfl, trivial, ?_⟩
    rw [hn, e1, en] at c5
    unfold byF at hQ
    rw [if_neg (by omega)] at hQ
    exact hQ
theorem m_isLet {d : Nat} {σ : Mm} {Q : Qt} {x : Int32} (hQ : Q (some (.int (bI (ltP x)))) σ) : Call (d + 1) k_X12_isLetter [.int x] σ Q := by
  refine Call_st 120 fun X hX => ?_
  refine ⟨fun c3 => ?_, fun c3 => ?_⟩
  · refine ⟨rfl, Or.inl rfl, ?_⟩
    try simp only [Int32.reduceToInt] at c3
    first | exact bI_t hQ (by omega) | exact bI_f hQ (by omega)
  · refine ⟨fun c9 => ?_, fun c9 => ?_⟩
    · refine ⟨rfl, Or.inl rfl, ?_⟩
      try simp only [Int32.reduceToInt] at c3 c9
      first | exact bI_t hQ (by omega) | exact bI_f hQ (by omega)
    · refine ⟨rfl, Or.inr rfl, ?_⟩
      try simp only [Int32.reduceToInt] at c3 c9
      first | exact bI_t hQ (by omega) | exact bI_f hQ (by omega)
theorem m_isDig {d : Nat} {σ : Mm} {Q : Qt} {x : Int32} (hQ : Q (some (.int (bI (dgP x)))) σ) : Call (d + 1) k_X12_isDigit [.int x] σ Q := by
  refine Call_st 120 fun X hX => ?_
  refine ⟨fun c3 => ?_, fun c3 => ?_⟩
  · refine ⟨rfl, Or.inl rfl, ?_⟩
    try simp only [Int32.reduceToInt] at c3
    first | exact bI_t hQ (by omega) | exact bI_f hQ (by omega)
  · refine ⟨fun c9 => ?_, fun c9 => ?_⟩
    · refine ⟨rfl, Or.inl rfl, ?_⟩
      try simp only [Int32.reduceToInt] at c3 c9
      first | exact bI_t hQ (by omega) | exact bI_f hQ (by omega)
    · refine ⟨rfl, Or.inr rfl, ?_⟩
      try simp only [Int32.reduceToInt] at c3 c9
      first | exact bI_t hQ (by omega) | exact bI_f hQ (by omega)
def TkM (b : Nat → Int32) (ρ : Mm) (t : Tk) : Prop := ρ 88 39 = nI t.2.1 ∧ ρ 88 37 = nI t.2.2 ∧ ρ 88 38 = nI t.1 ∧ (t.1 = 1 ∨ t.1 = 3 → ρ 88 41 = b t.2.1 &&& 255) ∧ (t.1 = 2 → ρ 88 40 = nvF b t.2.1 (t.2.2 - t.2.1))
theorem by_lt {b : Nat → Int32} {n q : Nat} (hb : ∀ i, i < 96 → -128 ≤ (b i).toInt ∧ (b i).toInt < 128) (hn : n ≤ 96) : ltP (byF b n q) ↔ q < n ∧ ltP (b q) := by
  unfold byF
  by_cases z : q < n
  · rw [if_pos z, uLt (hb q (by omega))]
    exact ⟨fun y => ⟨z, y⟩, fun y => y.2⟩
  · rw [if_neg z]
    exact ⟨fun y => absurd y (by decide), fun y => absurd y.1 z⟩
theorem by_dg {b : Nat → Int32} {n q : Nat} (hb : ∀ i, i < 96 → -128 ≤ (b i).toInt ∧ (b i).toInt < 128) (hn : n ≤ 96) : dgP (byF b n q) ↔ q < n ∧ dgP (b q) := by
  unfold byF
  by_cases z : q < n
  · rw [if_pos z, uDg (hb q (by omega))]
    exact ⟨fun y => ⟨z, y⟩, fun y => y.2⟩
  · rw [if_neg z]
    exact ⟨fun y => absurd y (by decide), fun y => absurd y.1 z⟩
theorem by_bl {b : Nat → Int32} {n q : Nat} (hb : ∀ i, i < 96 → -128 ≤ (b i).toInt ∧ (b i).toInt < 128) (hn : n ≤ 96) : (byF b n q).toInt = 32 ↔ q < n ∧ (b q).toInt = 32 := by
  unfold byF
  by_cases z : q < n
  · rw [if_pos z, u255 (hb q (by omega))]
    have := hb q (by omega)
    split <;> omega
  · rw [if_neg z]
    exact ⟨fun y => absurd y (by decide), fun y => absurd y.1 z⟩
theorem by_ng {b : Nat → Int32} {n q : Nat} (hb : ∀ i, i < 96 → -128 ≤ (b i).toInt ∧ (b i).toInt < 128) (hn : n ≤ 96) : (byF b n q).toInt < 0 ↔ n ≤ q := by
  unfold byF
  by_cases z : q < n
  · rw [if_pos z]
    have := uNn (hb q (by omega))
    omega
  · rw [if_neg z]
    exact ⟨fun _ => by omega, fun _ => by decide⟩
theorem rn_step {g : Nat → Bool} {n s : Nat} (hs : s < n) (h : g s = true) : rnB g (n - (s + 1)) (s + 1) = rnB g (n - s) s := by
  rw [show n - s = (n - (s + 1)) + 1 by omega]
  exact (rn_y h).symm
set_option maxHeartbeats 16000000 in
theorem m_next {d : Nat} {τ : Mm} {Q : Qt} {b : Nat → Int32} {n p kk : Nat} (hb : ∀ i, i < 96 → -128 ≤ (b i).toInt ∧ (b i).toInt < 128) (ht : ∀ i, i < 96 → τ 118 i = b i &&& 255) (hn : τ 88 36 = nI n) (hn96 : n ≤ 96) (hp : p ≤ n) (h37 : τ 88 37 = nI p) (h38 : τ 88 38 = nI kk) (hkk : kk < 5) (hQ : ∀ ρ : Mm, A88 [37, 38, 39, 40, 41] τ ρ → TkM b ρ (lxF b n p (kk = 1 ∨ kk = 2)) → Q none ρ) : Call (d + 2) k_X12_next [.ref 88] τ Q := by
  refine Call_go fun X hX => ?_
  have main : ∀ (w : Prop) [Decidable w], (∀ ρ : Mm, A88 [37, 38, 39, 40, 41] τ ρ → TkM b ρ (lxF b n p w) → Q none ρ) → X 27 [.ref 88, .int (bI w), .int (nI p), .null, .null] [] τ := by
    intro w _ hQ
    have fend : ∀ (k s e : Nat) (ρ : Mm) (y : Int32), (k = 1 ∨ k = 2 ∨ k = 3) → s ≤ e → e ≤ n → A88 [37, 38, 39, 40, 41] τ ρ → ρ 88 38 = nI k → ρ 88 39 = nI s → ρ 88 37 = nI e → (∀ υ : Mm, A88 [37, 38, 39, 40, 41] τ υ → υ 88 39 = nI s → υ 88 37 = nI e → υ 88 38 = nI (if (k = 2 ∧ 4 < e - s) ∨ (k ≠ 3 ∧ w ∧ s = p) then 4 else k) → υ 88 41 = ρ 88 41 → υ 88 40 = ρ 88 40 → Q none υ) → X 242 [.ref 88, .int (bI w), .int (nI p), .int y, .null] [] ρ := by
      intro k s e ρ y hk hse hen hA h38 h39 h37 hQ
      have ek := nIt (n := k) (by omega)
      have es := nIt (n := s) (by omega)
      have ee := nIt (n := e) (by omega)
      have ep := nIt (n := p) (by omega)
      have esub : (ρ 88 37 - ρ 88 39).toInt = (e : Int) - s := by
        rw [h37, h39]
        simp only [Int32.toInt_sub, es, ee, Int.bmod]
        omega
      refine go [] 100 hX ?_
      refine ⟨fun c247 => ?_, fun c247 => ?_⟩
      · refine ⟨fun c260 => ?_, fun c260 => ?_⟩
        · refine ⟨fun z => absurd z (by decide), fun _ => ?_⟩
          refine ⟨rfl, rfl, ?_⟩
          rw [h38, ek] at c247
          simp only [Int32.reduceToInt] at c247
          rw [esub] at c260
          simp only [Int32.reduceToInt] at c260
          refine hQ _ (a88_wr hA rfl) h39 h37 ?_ rfl rfl
          rw [if_pos (Or.inl ⟨by omega, by omega⟩)]
          rfl
        · refine ⟨fun _ => ?_, fun z => absurd (by decide) z⟩
          refine ⟨fun c276 => ?_, fun c276 => ?_⟩
          · replace c276 := bI_z c276
            refine ⟨rfl, rfl, ?_⟩
            rw [h38, ek] at c247
            simp only [Int32.reduceToInt] at c247
            rw [esub] at c260
            simp only [Int32.reduceToInt] at c260
            refine hQ ρ hA h39 h37 ?_ rfl rfl
            rw [if_neg (fun z => z.elim (fun z => by omega) (fun z => c276 z.2.1))]
            exact h38
          · replace c276 := bI_nz c276
            refine ⟨fun c284 => ?_, fun c284 => ?_⟩
            · refine ⟨fun c292 => ?_, fun c292 => ?_⟩
              · refine ⟨rfl, rfl, ?_⟩
                rw [h38, ek] at c247
                simp only [Int32.reduceToInt] at c247
                rw [esub] at c260
                simp only [Int32.reduceToInt] at c260
                rw [h39, es, ep] at c284
                rw [h38, ek] at c292
                simp only [Int32.reduceToInt] at c292
                refine hQ ρ hA h39 h37 ?_ rfl rfl
                rw [if_neg (fun z => z.elim (fun z => by omega) (fun z => by have := z.1; omega))]
                exact h38
              · refine ⟨rfl, rfl, ?_⟩
                rw [h38, ek] at c247
                simp only [Int32.reduceToInt] at c247
                rw [esub] at c260
                simp only [Int32.reduceToInt] at c260
                rw [h39, es, ep] at c284
                rw [h38, ek] at c292
                simp only [Int32.reduceToInt] at c292
                refine hQ _ (a88_wr hA rfl) h39 h37 ?_ rfl rfl
                rw [if_pos (Or.inr ⟨by omega, c276, by omega⟩)]
                rfl
            · refine ⟨rfl, rfl, ?_⟩
              rw [h38, ek] at c247
              simp only [Int32.reduceToInt] at c247
              rw [esub] at c260
              simp only [Int32.reduceToInt] at c260
              rw [h39, es, ep] at c284
              refine hQ ρ hA h39 h37 ?_ rfl rfl
              rw [if_neg (fun z => z.elim (fun z => by omega) (fun z => by have := z.2.2; omega))]
              exact h38
      · refine ⟨fun _ => ?_, fun z => absurd (by decide) z⟩
        refine ⟨fun c276 => ?_, fun c276 => ?_⟩
        · replace c276 := bI_z c276
          refine ⟨rfl, rfl, ?_⟩
          rw [h38, ek] at c247
          simp only [Int32.reduceToInt] at c247
          refine hQ ρ hA h39 h37 ?_ rfl rfl
          rw [if_neg (fun z => z.elim (fun z => by omega) (fun z => c276 z.2.1))]
          exact h38
        · replace c276 := bI_nz c276
          refine ⟨fun c284 => ?_, fun c284 => ?_⟩
          · refine ⟨fun c292 => ?_, fun c292 => ?_⟩
            · refine ⟨rfl, rfl, ?_⟩
              rw [h38, ek] at c247
              simp only [Int32.reduceToInt] at c247
              rw [h39, es, ep] at c284
              rw [h38, ek] at c292
              simp only [Int32.reduceToInt] at c292
              refine hQ ρ hA h39 h37 ?_ rfl rfl
              rw [if_neg (fun z => z.elim (fun z => by omega) (fun z => by have := z.1; omega))]
              exact h38
            · refine ⟨rfl, rfl, ?_⟩
              rw [h38, ek] at c247
              simp only [Int32.reduceToInt] at c247
              rw [h39, es, ep] at c284
              rw [h38, ek] at c292
              simp only [Int32.reduceToInt] at c292
              refine hQ _ (a88_wr hA rfl) h39 h37 ?_ rfl rfl
              rw [if_pos (Or.inr ⟨by omega, c276, by omega⟩)]
              rfl
          · refine ⟨rfl, rfl, ?_⟩
            rw [h38, ek] at c247
            simp only [Int32.reduceToInt] at c247
            rw [h39, es, ep] at c284
            refine hQ ρ hA h39 h37 ?_ rfl rfl
            rw [if_neg (fun z => z.elim (fun z => by omega) (fun z => by have := z.2.2; omega))]
            exact h38
    have lrun : ∀ (s : Nat) (y : Int32), s < n → (∀ ρ : Mm, A88 [37, 38, 39, 40, 41] τ ρ → ρ 88 38 = nI 1 → ρ 88 39 = nI s → ρ 88 37 = nI (rnB (ltB b) (n - s) s) → ρ 88 41 = b s &&& 255 → X 242 [.ref 88, .int (bI w), .int (nI p), .int y, .null] [] ρ) → ∀ (f q : Nat) (ρ : Mm), q + f = n → s ≤ q → A88 [37, 38, 39, 40, 41] τ ρ → ρ 88 38 = nI 1 → ρ 88 39 = nI s → ρ 88 37 = nI q → ρ 88 41 = b s &&& 255 → rnB (ltB b) f q = rnB (ltB b) (n - s) s → X 117 [.ref 88, .int (bI w), .int (nI p), .int y, .null] [] ρ := by
      intro s y hsn hK f
      induction f with
      | zero =>
        intro q ρ hi hsq hA h38 h39 hq h41 hE
        have e1 := nIt (n := q) (by omega)
        have es := nIt (n := s) (by omega)
        have esub : (ρ 88 37 - ρ 88 39).toInt = (q : Int) - s := by
          rw [hq, h39]
          simp only [Int32.toInt_sub, es, e1, Int.bmod]
          omega
        have q38 : (ρ 88 38).toInt = 1 := by rw [h38]; decide
        have ht' : ∀ i, i < 96 → ρ 118 i = b i &&& 255 := fun i hi => by rw [hA.1 118 (by decide)]; exact ht i hi
        have hn' : ρ 88 36 = nI n := (hA.2 36 rfl).trans hn
        have en := nIt (n := n) (by omega)
        refine go [117, 242] 60 hX ?_
        refine ⟨fun c122 => ?_, fun c122 => ?_⟩
        · refine ⟨rfl, rfl, ?_⟩
          refine m_byteAt (b := b) (n := n) (q := q) ht' hn' hn96 (by omega) hq ?_
          refine ⟨rfl, ?_⟩
          refine m_isLet ?_
          refine ⟨fun c136 => ?_, fun c136 => ?_⟩
          · replace c136 := bI_z c136
            exact hK ρ hA h38 h39 (by rw [hq, ← hE]; rfl) h41
          · replace c136 := bI_nz c136
            exfalso; have z := (by_lt hb hn96).mp c136; omega
        · exfalso; rw [q38] at c122; first | exact absurd c122 (by decide) | exact c122 (by decide)
      | succ f ih =>
        intro q ρ hi hsq hA h38 h39 hq h41 hE
        have e1 := nIt (n := q) (by omega)
        have es := nIt (n := s) (by omega)
        have esub : (ρ 88 37 - ρ 88 39).toInt = (q : Int) - s := by
          rw [hq, h39]
          simp only [Int32.toInt_sub, es, e1, Int.bmod]
          omega
        have q38 : (ρ 88 38).toInt = 1 := by rw [h38]; decide
        have ht' : ∀ i, i < 96 → ρ 118 i = b i &&& 255 := fun i hi => by rw [hA.1 118 (by decide)]; exact ht i hi
        have hn' : ρ 88 36 = nI n := (hA.2 36 rfl).trans hn
        have en := nIt (n := n) (by omega)
        refine go [117, 242] 80 hX ?_
        refine ⟨fun c122 => ?_, fun c122 => ?_⟩
        · refine ⟨rfl, rfl, ?_⟩
          refine m_byteAt (b := b) (n := n) (q := q) ht' hn' hn96 (by omega) hq ?_
          refine ⟨rfl, ?_⟩
          refine m_isLet ?_
          refine ⟨fun c136 => ?_, fun c136 => ?_⟩
          · replace c136 := bI_z c136
            exact hK ρ hA h38 h39 (by rw [hq, ← hE, rn_n (fun z => c136 ((by_lt hb hn96).mpr ⟨by omega, ltT.mp z⟩))]) h41
          · replace c136 := bI_nz c136
            refine ⟨fun c184 => ?_, fun c184 => ?_⟩
            · exfalso; rw [q38] at c184; first | exact absurd c184 (by decide) | exact c184 (by decide)
            · have c136 := (by_lt hb hn96).mp c136
              have ih1 := ih (q + 1) (wr (wr ρ 88 40 (ρ 88 40)) 88 37 (ρ 88 37 + 1)) (by omega) (by omega) (a88_wr (a88_wr hA rfl) rfl) h38 h39 (by show ρ 88 37 + 1 = _; rw [hq, nI_1]) h41 (by rw [← hE, rn_y (ltT.mpr c136.2)])
              exact ih1
        · exfalso; rw [q38] at c122; first | exact absurd c122 (by decide) | exact c122 (by decide)
    have drun : ∀ (s : Nat) (y : Int32), s < n → (∀ ρ : Mm, A88 [37, 38, 39, 40, 41] τ ρ → ρ 88 38 = nI 2 → ρ 88 39 = nI s → ρ 88 37 = nI (rnB (dgB b) (n - s) s) → ρ 88 41 = b s &&& 255 → (rnB (dgB b) (n - s) s - s ≤ 4 → ρ 88 40 = nvF b s (rnB (dgB b) (n - s) s - s)) → X 242 [.ref 88, .int (bI w), .int (nI p), .int y, .null] [] ρ) → ∀ (f q : Nat) (ρ : Mm), q + f = n → s ≤ q → A88 [37, 38, 39, 40, 41] τ ρ → ρ 88 38 = nI 2 → ρ 88 39 = nI s → ρ 88 37 = nI q → ρ 88 41 = b s &&& 255 → (q - s ≤ 4 → ρ 88 40 = nvF b s (q - s)) → rnB (dgB b) f q = rnB (dgB b) (n - s) s → X 117 [.ref 88, .int (bI w), .int (nI p), .int y, .null] [] ρ := by
      intro s y hsn hK f
      induction f with
      | zero =>
        intro q ρ hi hsq hA h38 h39 hq h41 h40 hE
        have e1 := nIt (n := q) (by omega)
        have es := nIt (n := s) (by omega)
        have esub : (ρ 88 37 - ρ 88 39).toInt = (q : Int) - s := by
          rw [hq, h39]
          simp only [Int32.toInt_sub, es, e1, Int.bmod]
          omega
        have q38 : (ρ 88 38).toInt = 2 := by rw [h38]; decide
        have ht' : ∀ i, i < 96 → ρ 118 i = b i &&& 255 := fun i hi => by rw [hA.1 118 (by decide)]; exact ht i hi
        have hn' : ρ 88 36 = nI n := (hA.2 36 rfl).trans hn
        have en := nIt (n := n) (by omega)
        refine go [117, 242] 60 hX ?_
        refine ⟨fun c122 => ?_, fun c122 => ?_⟩
        · exfalso; rw [q38] at c122; first | exact absurd c122 (by decide) | exact c122 (by decide)
        · refine ⟨fun c147 => ?_, fun c147 => ?_⟩
          · refine ⟨rfl, rfl, ?_⟩
            refine m_byteAt (b := b) (n := n) (q := q) ht' hn' hn96 (by omega) hq ?_
            refine ⟨rfl, ?_⟩
            refine m_isDig ?_
            refine ⟨fun c161 => ?_, fun c161 => ?_⟩
            · replace c161 := bI_z c161
              exact hK ρ hA h38 h39 (by rw [hq, ← hE]; rfl) h41 (fun z => by rw [← hE] at z ⊢; exact h40 z)
            · replace c161 := bI_nz c161
              exfalso; have z := (by_dg hb hn96).mp c161; omega
          · exfalso; rw [q38] at c147; first | exact absurd c147 (by decide) | exact c147 (by decide)
      | succ f ih =>
        intro q ρ hi hsq hA h38 h39 hq h41 h40 hE
        have e1 := nIt (n := q) (by omega)
        have es := nIt (n := s) (by omega)
        have esub : (ρ 88 37 - ρ 88 39).toInt = (q : Int) - s := by
          rw [hq, h39]
          simp only [Int32.toInt_sub, es, e1, Int.bmod]
          omega
        have q38 : (ρ 88 38).toInt = 2 := by rw [h38]; decide
        have ht' : ∀ i, i < 96 → ρ 118 i = b i &&& 255 := fun i hi => by rw [hA.1 118 (by decide)]; exact ht i hi
        have hn' : ρ 88 36 = nI n := (hA.2 36 rfl).trans hn
        have en := nIt (n := n) (by omega)
        refine go [117, 242] 80 hX ?_
        refine ⟨fun c122 => ?_, fun c122 => ?_⟩
        · exfalso; rw [q38] at c122; first | exact absurd c122 (by decide) | exact c122 (by decide)
        · refine ⟨fun c147 => ?_, fun c147 => ?_⟩
          · refine ⟨rfl, rfl, ?_⟩
            refine m_byteAt (b := b) (n := n) (q := q) ht' hn' hn96 (by omega) hq ?_
            refine ⟨rfl, ?_⟩
            refine m_isDig ?_
            refine ⟨fun c161 => ?_, fun c161 => ?_⟩
            · replace c161 := bI_z c161
              exact hK ρ hA h38 h39 (by rw [hq, ← hE, rn_n (fun z => c161 ((by_dg hb hn96).mpr ⟨by omega, dgT.mp z⟩))]) h41 (fun z => by rw [← hE, rn_n (fun z => c161 ((by_dg hb hn96).mpr ⟨by omega, dgT.mp z⟩))] at z ⊢; exact h40 z)
            · replace c161 := bI_nz c161
              refine ⟨fun c184 => ?_, fun c184 => ?_⟩
              · refine ⟨fun c197 => ?_, fun c197 => ?_⟩
                · refine ⟨rfl, rfl, ?_⟩
                  refine m_byteAt (b := b) (n := n) (q := q) ht' hn' hn96 (by omega) hq ?_
                  have c161 := (by_dg hb hn96).mp c161
                  rw [esub] at c197
                  simp only [Int32.reduceToInt] at c197
                  have hu : byF b n q = b q := by
                    show (if q < n then b q &&& 255 else -1) = _
                    rw [if_pos c161.1]
                    exact uEq (by have := c161.2; omega)
                  have ih1 := ih (q + 1) (wr (wr ρ 88 40 (10 * ρ 88 40 + byF b n q - 48)) 88 37 (ρ 88 37 + 1)) (by omega) (by omega) (a88_wr (a88_wr hA rfl) rfl) h38 h39 (by show ρ 88 37 + 1 = _; rw [hq, nI_1]) h41 (fun _ => by
                    show 10 * ρ 88 40 + byF b n q - 48 = _
                    rw [hu, h40 (by omega), Int32.mul_comm, show q + 1 - s = (q - s) + 1 by omega]
                    show _ = nvF b s (q - s) * 10 + b (s + (q - s)) - 48
                    rw [show s + (q - s) = q by omega]) (by rw [← hE, rn_y (dgT.mpr c161.2)])
                  exact ih1
                · have c161 := (by_dg hb hn96).mp c161
                  rw [esub] at c197
                  simp only [Int32.reduceToInt] at c197
                  have ih1 := ih (q + 1) (wr (wr ρ 88 40 (ρ 88 40)) 88 37 (ρ 88 37 + 1)) (by omega) (by omega) (a88_wr (a88_wr hA rfl) rfl) h38 h39 (by show ρ 88 37 + 1 = _; rw [hq, nI_1]) h41 (fun z => by omega) (by rw [← hE, rn_y (dgT.mpr c161.2)])
                  exact ih1
              · exfalso; rw [q38] at c184; first | exact absurd c184 (by decide) | exact c184 (by decide)
          · exfalso; rw [q38] at c147; first | exact absurd c147 (by decide) | exact c147 (by decide)
    have srun : ∀ (s : Nat) (y : Int32) (ρ : Mm), s < 200 → A88 [37, 38, 39, 40, 41] τ ρ → ρ 88 38 = nI 3 → ρ 88 39 = nI s → ρ 88 37 = nI s → (∀ υ : Mm, A88 [37, 38, 39, 40, 41] τ υ → υ 88 38 = nI 3 → υ 88 39 = nI s → υ 88 37 = nI (s + 1) → υ 88 41 = ρ 88 41 → X 242 [.ref 88, .int (bI w), .int (nI p), .int y, .null] [] υ) → X 117 [.ref 88, .int (bI w), .int (nI p), .int y, .null] [] ρ := by
      intro s y ρ hs hA h38 h39 h37 hK
      refine go [117, 242] 60 hX ?_
      refine ⟨fun c122 => ?_, fun c122 => ?_⟩
      · exfalso; exact absurd c122 (by rw [h38]; decide)
      · refine ⟨fun c147 => ?_, fun c147 => ?_⟩
        · exfalso; exact absurd c147 (by rw [h38]; decide)
        · refine ⟨fun c175 => ?_, fun c175 => ?_⟩
          · refine ⟨fun c184 => ?_, fun c184 => ?_⟩
            · exfalso; exact absurd c184 (by rw [h38]; decide)
            · refine go [242] 60 hX ?_
              refine ⟨fun c122 => ?_, fun c122 => ?_⟩
              · exfalso; exact absurd c122 (by show ¬ (ρ 88 38).toInt = _; rw [h38]; decide)
              · refine ⟨fun c147 => ?_, fun c147 => ?_⟩
                · exfalso; exact absurd c147 (by show ¬ (ρ 88 38).toInt = _; rw [h38]; decide)
                · refine ⟨fun c175 => ?_, fun c175 => ?_⟩
                  · exfalso; have z : (ρ 88 37 + 1).toInt = (ρ 88 39).toInt := c175; rw [h37, h39, nI_1, nIt (by omega), nIt (by omega)] at z; omega
                  · exact hK (wr (wr ρ 88 40 (ρ 88 40)) 88 37 (ρ 88 37 + 1)) (a88_wr (a88_wr hA rfl) rfl) h38 h39 (by show ρ 88 37 + 1 = _; rw [h37, nI_1]) rfl
          · exfalso; exact c175 (by rw [h37, h39])
    have tail : ∀ ρ : Mm, A88 [37] τ ρ → ρ 88 37 = nI (rnB (blB b) (n - p) p) → X 53 [.ref 88, .int (bI w), .int (nI p), .null, .null] [] ρ := by
      intro ρ hA0 hq
      have hSb := rn_b (g := blB b) (n - p) p
      have es1 := nIt (n := (rnB (blB b) (n - p) p)) (by omega)
      have hA := a88_wk (K := [37, 38, 39, 40, 41]) hA0 rfl
      have ht' : ∀ i, i < 96 → ρ 118 i = b i &&& 255 := fun i hi => by rw [hA.1 118 (by decide)]; exact ht i hi
      have hn' : ρ 88 36 = nI n := (hA.2 36 rfl).trans hn
      have en := nIt (n := n) (by omega)
      refine go [117] 100 hX ?_
      refine ⟨rfl, rfl, ?_⟩
      refine m_byteAt (b := b) (n := n) (q := (rnB (blB b) (n - p) p)) ht' hn' hn96 (by omega) hq ?_
      refine ⟨fun c71 => ?_, fun c71 => ?_⟩
      · refine ⟨rfl, rfl, ?_⟩
        have hge := (by_ng hb hn96).mp c71
        refine hQ _ (a88_wr (a88_wr hA rfl) rfl) ?_
        rw [lx_0 hge]
        refine ⟨hq, ?_, rfl, fun z => by omega, (fun z => by simp at z)⟩
        show ρ 88 37 = nI n
        rw [hq]
        congr 1
        omega
      · refine ⟨rfl, ?_⟩
        refine m_isLet ?_
        refine ⟨fun c85 => ?_, fun c85 => ?_⟩
        · replace c85 := bI_z c85
          refine ⟨rfl, ?_⟩
          refine m_isDig ?_
          refine ⟨fun c96 => ?_, fun c96 => ?_⟩
          · replace c96 := bI_z c96
            have hlt : (rnB (blB b) (n - p) p) < n := Nat.not_le.mp (fun z => c71 ((by_ng hb hn96).mpr z))
            have hu : byF b n (rnB (blB b) (n - p) p) = b (rnB (blB b) (n - p) p) &&& 255 := if_pos hlt
            have hbs := hb (rnB (blB b) (n - p) p) (by omega)
            have nl : ¬ ltP (b (rnB (blB b) (n - p) p)) := fun z => c85 ((by_lt hb hn96).mpr ⟨hlt, z⟩)
            have nd : ¬ dgP (b (rnB (blB b) (n - p) p)) := fun z => c96 ((by_dg hb hn96).mpr ⟨hlt, z⟩)
            refine srun (rnB (blB b) (n - p) p) (byF b n (rnB (blB b) (n - p) p)) (wr (wr (wr (wr ρ 88 39 (ρ 88 37)) 88 38 3) 88 41 (byF b n (rnB (blB b) (n - p) p))) 88 40 0) (by omega) (a88_wr (a88_wr (a88_wr (a88_wr hA rfl) rfl) rfl) rfl) rfl hq hq (fun υ k1 k2 k3 k4 k5 => ?_)
            refine fend 3 (rnB (blB b) (n - p) p) ((rnB (blB b) (n - p) p) + 1) υ _ (Or.inr (Or.inr rfl)) (by omega) (by omega) k1 k2 k3 k4 (fun ω j1 j2 j3 j4 j5 j6 => hQ ω j1 ?_)
            rw [lx_s (by omega) nl nd]
            refine ⟨j2, j3, ?_, fun _ => (j5.trans k5).trans hu, (fun z => by simp at z)⟩
            rw [j4, if_neg (fun z => z.elim (fun z => by omega) (fun z => z.1 rfl))]
          · replace c96 := bI_nz c96
            have hlt : (rnB (blB b) (n - p) p) < n := Nat.not_le.mp (fun z => c71 ((by_ng hb hn96).mpr z))
            have hu : byF b n (rnB (blB b) (n - p) p) = b (rnB (blB b) (n - p) p) &&& 255 := if_pos hlt
            have hbs := hb (rnB (blB b) (n - p) p) (by omega)
            have nl : ¬ ltP (b (rnB (blB b) (n - p) p)) := fun z => c85 ((by_lt hb hn96).mpr ⟨hlt, z⟩)
            have hdd := ((by_dg hb hn96).mp c96).2
            refine drun (rnB (blB b) (n - p) p) (byF b n (rnB (blB b) (n - p) p)) hlt (fun υ k1 k2 k3 k4 k5 k6 => ?_) (n - (rnB (blB b) (n - p) p)) (rnB (blB b) (n - p) p) (wr (wr (wr (wr ρ 88 39 (ρ 88 37)) 88 38 2) 88 41 (byF b n (rnB (blB b) (n - p) p))) 88 40 0) (by omega) (Nat.le_refl _) (a88_wr (a88_wr (a88_wr (a88_wr hA rfl) rfl) rfl) rfl) rfl hq hq hu (fun _ => by rw [Nat.sub_self]; rfl) rfl
            have hEb := rn_b (g := dgB b) (n - (rnB (blB b) (n - p) p)) (rnB (blB b) (n - p) p)
            refine fend 2 (rnB (blB b) (n - p) p) (rnB (dgB b) (n - (rnB (blB b) (n - p) p)) (rnB (blB b) (n - p) p)) υ _ (Or.inr (Or.inl rfl)) (by omega) (by omega) k1 k2 k3 k4 (fun ω j1 j2 j3 j4 j5 j6 => hQ ω j1 ?_)
            rw [lx_d (by omega) nl hdd, rn_step hlt (dgT.mpr hdd)]
            refine ⟨j2, j3, ?_, fun z => ?_, fun z => ?_⟩
            · rw [j4]
              by_cases y : (w ∧ (rnB (blB b) (n - p) p) = p) ∨ 4 < rnB (dgB b) (n - (rnB (blB b) (n - p) p)) (rnB (blB b) (n - p) p) - (rnB (blB b) (n - p) p)
              · rw [if_pos y, if_pos (y.elim (fun z => Or.inr ⟨by decide, z⟩) (fun z => Or.inl ⟨rfl, z⟩))]
              · rw [if_neg y, if_neg (fun z => y (z.elim (fun z => Or.inr z.2) (fun z => Or.inl z.2)))]
            · exfalso
              dsimp only at z
              split at z <;> omega
            · dsimp only at z
              split at z
              · omega
              · rename_i y
                rw [j6]
                exact k6 (by omega)
        · replace c85 := bI_nz c85
          have hlt : (rnB (blB b) (n - p) p) < n := Nat.not_le.mp (fun z => c71 ((by_ng hb hn96).mpr z))
          have hu : byF b n (rnB (blB b) (n - p) p) = b (rnB (blB b) (n - p) p) &&& 255 := if_pos hlt
          have hbs := hb (rnB (blB b) (n - p) p) (by omega)
          have hl := ((by_lt hb hn96).mp c85).2
          refine lrun (rnB (blB b) (n - p) p) (byF b n (rnB (blB b) (n - p) p)) hlt (fun υ k1 k2 k3 k4 k5 => ?_) (n - (rnB (blB b) (n - p) p)) (rnB (blB b) (n - p) p) (wr (wr (wr (wr ρ 88 39 (ρ 88 37)) 88 38 1) 88 41 (byF b n (rnB (blB b) (n - p) p))) 88 40 0) (by omega) (Nat.le_refl _) (a88_wr (a88_wr (a88_wr (a88_wr hA rfl) rfl) rfl) rfl) rfl hq hq hu rfl
          have hEb := rn_b (g := ltB b) (n - (rnB (blB b) (n - p) p)) (rnB (blB b) (n - p) p)
          refine fend 1 (rnB (blB b) (n - p) p) (rnB (ltB b) (n - (rnB (blB b) (n - p) p)) (rnB (blB b) (n - p) p)) υ _ (Or.inl rfl) (by omega) (by omega) k1 k2 k3 k4 (fun ω j1 j2 j3 j4 j5 j6 => hQ ω j1 ?_)
          rw [lx_l (by omega) hl, rn_step hlt (ltT.mpr hl)]
          refine ⟨j2, j3, ?_, fun _ => j5.trans k5, fun z => ?_⟩
          · rw [j4]
            by_cases y : w ∧ (rnB (blB b) (n - p) p) = p
            · rw [if_pos y, if_pos (Or.inr ⟨by decide, y⟩)]
            · rw [if_neg y, if_neg (fun z => z.elim (fun z => by omega) (fun z => y z.2))]
          · exfalso
            dsimp only at z
            split at z <;> omega
    have loop : ∀ (f q : Nat) (ρ : Mm), q + f = n → p ≤ q → A88 [37] τ ρ → ρ 88 37 = nI q → rnB (blB b) f q = (rnB (blB b) (n - p) p) → X 27 [.ref 88, .int (bI w), .int (nI p), .null, .null] [] ρ := by
      intro f
      induction f with
      | zero =>
        intro q ρ hi hsq hA hq hE
        have ht' : ∀ i, i < 96 → ρ 118 i = b i &&& 255 := fun i hi => by rw [hA.1 118 (by decide)]; exact ht i hi
        have hn' : ρ 88 36 = nI n := (hA.2 36 rfl).trans hn
        have en := nIt (n := n) (by omega)
        refine go [27, 53] 40 hX ?_
        refine ⟨rfl, rfl, ?_⟩
        refine m_byteAt (b := b) (n := n) (q := q) ht' hn' hn96 (by omega) hq ?_
        refine ⟨fun c37 => ?_, fun c37 => ?_⟩
        · have c37 := (by_bl hb hn96).mp c37
          exfalso; omega
        · exact tail ρ hA (by rw [hq, ← hE]; rfl)
      | succ f ih =>
        intro q ρ hi hsq hA hq hE
        have ht' : ∀ i, i < 96 → ρ 118 i = b i &&& 255 := fun i hi => by rw [hA.1 118 (by decide)]; exact ht i hi
        have hn' : ρ 88 36 = nI n := (hA.2 36 rfl).trans hn
        have en := nIt (n := n) (by omega)
        refine go [27, 53] 40 hX ?_
        refine ⟨rfl, rfl, ?_⟩
        refine m_byteAt (b := b) (n := n) (q := q) ht' hn' hn96 (by omega) hq ?_
        refine ⟨fun c37 => ?_, fun c37 => ?_⟩
        · have c37 := (by_bl hb hn96).mp c37
          have ih1 := ih (q + 1) (wr ρ 88 37 (ρ 88 37 + 1)) (by omega) (by omega) (a88_wr hA rfl) (by show ρ 88 37 + 1 = _; rw [hq, nI_1]) (by rw [← hE, rn_y (blT.mpr c37.2)])
          exact ih1
        · exact tail ρ hA (by rw [hq, ← hE, rn_n (fun z => c37 ((by_bl hb hn96).mpr ⟨by omega, blT.mp z⟩))])
    exact loop (n - p) p τ (by omega) (Nat.le_refl p) a88_rf h37 rfl
  have h0 := main (kk = 1 ∨ kk = 2) hQ
  have ekk := nIt (n := kk) (by omega)
  rw [← h37] at h0
  refine go [27] 30 hX ?_
  refine ⟨fun c5 => ?_, fun c5 => ?_⟩
  · rw [h38, ekk] at c5
    simp only [Int32.reduceToInt] at c5
    rw [bI_p (by omega)] at h0
    exact h0
  · refine ⟨fun c13 => ?_, fun c13 => ?_⟩
    · rw [h38, ekk] at c5
      simp only [Int32.reduceToInt] at c5
      rw [h38, ekk] at c13
      simp only [Int32.reduceToInt] at c13
      rw [bI_p (by omega)] at h0
      exact h0
    · rw [h38, ekk] at c5
      simp only [Int32.reduceToInt] at c5
      rw [h38, ekk] at c13
      simp only [Int32.reduceToInt] at c13
      rw [bI_n (by omega)] at h0
      exact h0
