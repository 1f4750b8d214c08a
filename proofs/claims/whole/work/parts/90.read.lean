theorem m_must1 {d : Nat} {τ : Mm} {Q : Qt} {x : Int32} (h : τ 88 46 = 0) (hx : ¬ x.toInt = 0) (hQ : Q none (wr τ 88 46 0)) : Call (d + 1) k_X12_must [.ref 88, .int x] τ Q := m_must (fun _ _ => hQ) (fun z => by
  rcases z with z | z
  · rw [h] at z; exact absurd rfl z
  · exact absurd z hx)
theorem m_must0 {d : Nat} {τ : Mm} {Q : Qt} {x : Int32} (hx : x.toInt = 0) (hQ : Q none (wr τ 88 46 1)) : Call (d + 1) k_X12_must [.ref 88, .int x] τ Q := m_must (fun _ z => absurd hx z) (fun _ => hQ)
theorem lw_tailW {d : Nat} {Q : Qt} {X : Kt} (hX : Clo (Call (d + 80)) none (mR k_X12_law) (mE k_X12_law) Q X) {σ τ : Mm} {l x2 : Int32} {s : Nat} {v : Value} (hw : WrM σ τ s) (h1 : ¬ (0 ≤ l.toInt ∧ l.toInt ≤ 2) → ∀ τ', FeM σ τ' → Q (some (.int (-1000000001))) τ') (h2 : (0 ≤ l.toInt ∧ l.toInt ≤ 2) → ∀ τ', FeM σ τ' → Q (some (.int (-100 - nI s))) τ') : X 91 [.ref 88, .int l, .int x2, v] [] τ := by
  have e46 : ¬ (τ 88 46).toInt = 0 := by rw [hw.2.2]; decide
  refine go [] 60 hX ?_
  refine ⟨fun c96 => ?_, fun c96 => ?_⟩
  · exact absurd c96 e46
  · refine ⟨rfl, rfl, ?_⟩
    refine m_mustW hw (fun h111a h111b => ?_)
    refine ⟨rfl, ?_⟩
    refine m_isInK (l := 0) (h := 2) (by decide) (by decide) ?_
    refine ⟨fun c125 => ?_, fun c125 => ?_⟩
    · replace c125 := bI_z c125
      refine ⟨rfl, trivial, ?_⟩
      exact h1 c125 _ (fe_36 h111b.1)
    · replace c125 := bI_nz c125
      refine ⟨fun c135 => ?_, fun c135 => ?_⟩
      · exact absurd c135 (by show ¬ (h111a 88 46).toInt = 0; rw [h111b.2.2]; decide)
      · refine ⟨rfl, trivial, ?_⟩
        exact Qe (h2 c125 _ (fe_36 h111b.1)) (vI_ (by show -100 - h111a 88 39 = _; rw [h111b.2.1])) rfl
theorem lw_tailG {d : Nat} {Q : Qt} {X : Kt} (hX : Clo (Call (d + 80)) none (mR k_X12_law) (mE k_X12_law) Q X) {b : Nat → Int32} {σ τ : Mm} {l x2 : Int32} {t : Tk} {w : Nat} {v : Value} (h : PsM b σ τ t w) (hk5 : t.1 < 5) (h1 : ¬ (0 ≤ l.toInt ∧ l.toInt ≤ 2) → ∀ τ', FeM σ τ' → Q (some (.int (-1000000001))) τ') (h2 : (0 ≤ l.toInt ∧ l.toInt ≤ 2) → ¬ t.1 = 0 → ∀ τ', FeM σ τ' → Q (some (.int (-100 - nI t.2.1))) τ') (h3 : (0 ≤ l.toInt ∧ l.toInt ≤ 2) → t.1 = 0 → ∀ τ', FeM σ τ' → τ' 88 44 = nI w → (τ' 114 = τ 114 ∧ τ' 115 = τ 115 ∧ τ' 116 = τ 116) → X 146 [.ref 88, .int l, .int x2, v] [] τ') : X 91 [.ref 88, .int l, .int x2, v] [] τ := by
  have e46 : (τ 88 46).toInt = 0 := by rw [h.2.2.2.2.2]; rfl
  have e38 : (τ 88 38).toInt = t.1 := by rw [h.2.1.2.2.1, nIt (by omega)]
  refine go [146] 60 hX ?_
  refine ⟨fun c96 => ?_, fun c96 => ?_⟩
  · refine ⟨fun c103 => ?_, fun c103 => ?_⟩
    · refine ⟨rfl, rfl, ?_⟩
      refine m_must1 h.2.2.2.2.2 (by decide) ?_
      refine ⟨rfl, ?_⟩
      refine m_isInK (l := 0) (h := 2) (by decide) (by decide) ?_
      refine ⟨fun c125 => ?_, fun c125 => ?_⟩
      · replace c125 := bI_z c125
        refine ⟨rfl, trivial, ?_⟩
        exact h1 c125 _ (fe_36 (fm_wr h.1 (j := 46) (v := 0) rfl))
      · replace c125 := bI_nz c125
        refine ⟨fun c135 => ?_, fun c135 => ?_⟩
        · exact h3 c125 (by omega) _ (fe_36 (fm_wr h.1 (j := 46) (v := 0) rfl)) h.2.2.2.2.1 ⟨rfl, rfl, rfl⟩
        · exact absurd (show (0 : Int32).toInt = 0 from rfl) c135
    · refine ⟨rfl, rfl, ?_⟩
      refine m_must0 rfl ?_
      refine ⟨rfl, ?_⟩
      refine m_isInK (l := 0) (h := 2) (by decide) (by decide) ?_
      refine ⟨fun c125 => ?_, fun c125 => ?_⟩
      · replace c125 := bI_z c125
        refine ⟨rfl, trivial, ?_⟩
        exact h1 c125 _ (fe_36 (fm_wr h.1 (j := 46) (v := 1) rfl))
      · replace c125 := bI_nz c125
        refine ⟨fun c135 => ?_, fun c135 => ?_⟩
        · exact absurd c135 (by show ¬ (1 : Int32).toInt = 0; decide)
        · refine ⟨rfl, trivial, ?_⟩
          exact Qe (h2 c125 (by omega) _ (fe_36 (fm_wr h.1 (j := 46) (v := 1) rfl))) (vI_ (by show -100 - τ 88 39 = _; rw [h.2.1.1])) rfl
  · exact absurd e46 c96
/-- parts of a law laid down -/
def CpO (β τ : Mm) (Ln : Nat → Nat) (m k : Nat) : Prop := (∀ c, c ≠ 110 → c ≠ 111 → c ≠ 112 → c ≠ 113 → τ c = β c) ∧ τ 110 = upd (β 110) m 1 ∧ (∀ q, q < k → τ 111 (3 * m + q) = β 114 q) ∧ (∀ q, q < k → ∀ i, i < Ln q → τ 112 (100 * (3 * m + q) + i) = β 115 (100 * q + i) ∧ τ 113 (100 * (3 * m + q) + i) = β 116 (100 * q + i)) ∧ (∀ q, (q < 3 * m ∨ 3 * m + 3 ≤ q) → τ 111 q = β 111 q) ∧ ∀ q, (q < 300 * m ∨ 300 * m + 300 ≤ q) → τ 112 q = β 112 q ∧ τ 113 q = β 113 q
theorem m3 {m : Nat} (h : m < 3) : (3 : Int32) * nI m = nI (3 * m) := by
  have : ∀ q : Fin 3, (3 : Int32) * nI q.1 = nI (3 * q.1) := by decide
  exact this ⟨m, h⟩
theorem m100 {m : Nat} (h : m < 9) : (100 : Int32) * nI m = nI (100 * m) := by
  have : ∀ q : Fin 9, (100 : Int32) * nI q.1 = nI (100 * q.1) := by decide
  exact this ⟨m, h⟩
set_option maxHeartbeats 1000000 in
theorem lw_in {d : Nat} {Q : Qt} {X : Kt} (hX : Clo (Call (d + 80)) none (mR k_X12_law) (mE k_X12_law) Q X) {β : Mm} {Ln : Nat → Nat} {m k : Nat} (hm : m < 3) (hk : k < 3) (hLn : ∀ q, q < 3 → Ln q ≤ 96 ∧ β 114 q = nI (Ln q)) (hend : ∀ (τ : Mm) (v : Value), CpO β τ Ln m (k + 1) → X 155 [.ref 88, .int (nI m), .int (nI (k + 1)), v] [] τ) : ∀ (j i : Nat) (τ : Mm), i + j = Ln k → CpO β τ Ln m k → τ 111 (3 * m + k) = β 114 k → (∀ q, q < i → τ 112 (100 * (3 * m + k) + q) = β 115 (100 * k + q) ∧ τ 113 (100 * (3 * m + k) + q) = β 116 (100 * k + q)) → X 178 [.ref 88, .int (nI m), .int (nI k), .int (nI i)] [] τ := by
  have hLk := (hLn k hk).1
  intro j
  induction j with
  | zero =>
    intro i τ hi hO h111 hcp
    have ei := nIt (n := i) (by omega)
    have ek := nIt (n := k) (by omega)
    have ekn := nIn (i := k) (by omega)
    have ix1 : 100 * (3 * nI m + nI k) + nI i = nI (100 * (3 * m + k) + i) := by rw [m3 hm, nI_add, m100 (by omega), nI_add]
    have ix2 : 100 * nI k + nI i = nI (100 * k + i) := by rw [m100 (by omega), nI_add]
    have t1 := nIt (n := (100 * (3 * m + k) + i)) (by omega)
    have t2 := nIt (n := (100 * k + i)) (by omega)
    have u1 := nIn (i := (100 * (3 * m + k) + i)) (by omega)
    have u2 := nIn (i := (100 * k + i)) (by omega)
    have e114 : τ 114 (nI k).toInt.toNat = nI (Ln k) := by rw [ekn, hO.1 114 (by decide) (by decide) (by decide) (by decide)]; exact (hLn k hk).2
    have eL := nIt (n := Ln k) (by omega)
    refine go [155, 178] 40 hX ?_
    refine ⟨_, _, rfl, ⟨by omega, by omega⟩, ?_⟩
    refine ⟨fun c185 => ?_, fun c185 => ?_⟩
    · exfalso; rw [e114, eL, ei] at c185; omega
    · have hO' : CpO β τ Ln m (k + 1) := ⟨hO.1, hO.2.1, fun q hq => by
        by_cases r : q = k
        · rw [r]; exact h111
        · exact hO.2.2.1 q (by omega), fun q hq j hj => by
        by_cases r : q = k
        · subst r; exact hcp j (by omega)
        · exact hO.2.2.2.1 q (by omega) j hj, hO.2.2.2.2.1, hO.2.2.2.2.2⟩
      have ih1 := hend τ (.int (nI i)) hO'
      rw [← nI_1] at ih1
      exact ih1
  | succ j ih =>
    intro i τ hi hO h111 hcp
    have ei := nIt (n := i) (by omega)
    have ek := nIt (n := k) (by omega)
    have ekn := nIn (i := k) (by omega)
    have ix1 : 100 * (3 * nI m + nI k) + nI i = nI (100 * (3 * m + k) + i) := by rw [m3 hm, nI_add, m100 (by omega), nI_add]
    have ix2 : 100 * nI k + nI i = nI (100 * k + i) := by rw [m100 (by omega), nI_add]
    have t1 := nIt (n := (100 * (3 * m + k) + i)) (by omega)
    have t2 := nIt (n := (100 * k + i)) (by omega)
    have u1 := nIn (i := (100 * (3 * m + k) + i)) (by omega)
    have u2 := nIn (i := (100 * k + i)) (by omega)
    have e114 : τ 114 (nI k).toInt.toNat = nI (Ln k) := by rw [ekn, hO.1 114 (by decide) (by decide) (by decide) (by decide)]; exact (hLn k hk).2
    have eL := nIt (n := Ln k) (by omega)
    refine go [155, 178] 80 hX ?_
    refine ⟨_, _, rfl, ⟨by omega, by omega⟩, ?_⟩
    refine ⟨fun c185 => ?_, fun c185 => ?_⟩
    · refine ⟨_, _, rfl, (by first | (rw [ix1]; exact ⟨by omega, by omega⟩) | (rw [ix2]; exact ⟨by omega, by omega⟩)), ?_⟩
      refine ⟨_, rfl, (by first | (rw [ix1]; exact ⟨by omega, by omega⟩) | (rw [ix2]; exact ⟨by omega, by omega⟩)), ?_⟩
      refine ⟨_, _, rfl, (by first | (rw [ix1]; exact ⟨by omega, by omega⟩) | (rw [ix2]; exact ⟨by omega, by omega⟩)), ?_⟩
      refine ⟨_, rfl, (by first | (rw [ix1]; exact ⟨by omega, by omega⟩) | (rw [ix2]; exact ⟨by omega, by omega⟩)), ?_⟩
      have hO' : CpO β (wr (wr τ 112 (100 * (3 * m + k) + i) (τ 115 (100 * k + i))) 113 (100 * (3 * m + k) + i) (τ 116 (100 * k + i))) Ln m k := ⟨fun c c1 c2 c3 c4 => by rw [wr_c c4, wr_c c3]; exact hO.1 c c1 c2 c3 c4, hO.2.1, hO.2.2.1, fun q hq j hj => by
        have a := hO.2.2.2.1 q hq j hj
        have z := (hLn q (by omega)).1
        exact ⟨(pk_un (by omega)).trans a.1, (pk_un (by omega)).trans a.2⟩, hO.2.2.2.2.1, fun q hq => by
        have a := hO.2.2.2.2.2 q hq
        exact ⟨(pk_un (by omega)).trans a.1, (pk_un (by omega)).trans a.2⟩⟩
      have ih1 := ih (i + 1) (wr (wr τ 112 (100 * (3 * m + k) + i) (τ 115 (100 * k + i))) 113 (100 * (3 * m + k) + i) (τ 116 (100 * k + i))) (by omega) hO' h111 (fun j hj => by
        by_cases r : j = i
        · subst r
          refine ⟨?_, ?_⟩
          · show upd (τ 112) (100 * (3 * m + k) + j) (τ 115 (100 * k + j)) (100 * (3 * m + k) + j) = _
            rw [pk_us, hO.1 115 (by decide) (by decide) (by decide) (by decide)]
          · show upd (τ 113) (100 * (3 * m + k) + j) (τ 116 (100 * k + j)) (100 * (3 * m + k) + j) = _
            rw [pk_us, hO.1 116 (by decide) (by decide) (by decide) (by decide)]
        · have a := hcp j (by omega)
          exact ⟨(pk_un (by omega)).trans a.1, (pk_un (by omega)).trans a.2⟩)
      rw [← nI_1] at ih1
      rw [ix1, ix2, u1, u2]
      exact ih1
    · exfalso; rw [e114, eL, ei] at c185; omega
theorem lw_out {d : Nat} {Q : Qt} {X : Kt} (hX : Clo (Call (d + 80)) none (mR k_X12_law) (mE k_X12_law) Q X) {β : Mm} {Ln : Nat → Nat} {m : Nat} (hm : m < 3) (hLn : ∀ q, q < 3 → Ln q ≤ 96 ∧ β 114 q = nI (Ln q)) (hQ : ∀ τ, CpO β τ Ln m 3 → Q (some (.int (β 88 44))) τ) : ∀ (j k : Nat) (τ : Mm) (v : Value), k + j = 3 → CpO β τ Ln m k → X 155 [.ref 88, .int (nI m), .int (nI k), v] [] τ := by
  intro j
  induction j with
  | zero =>
    intro k τ v hi hO
    rw [Nat.add_zero] at hi
    have ek := nIt (n := k) (by omega)
    have ekn := nIn (i := k) (by omega)
    refine go [155, 178] 40 hX ?_
    refine ⟨fun c157 => ?_, fun c157 => ?_⟩
    · exfalso; rw [ek] at c157; simp only [Int32.reduceToInt] at c157; omega
    · refine ⟨rfl, trivial, ?_⟩
      subst hi
      have q := hQ τ hO
      rw [← hO.1 88 (by decide) (by decide) (by decide) (by decide)] at q
      exact q
  | succ j ih =>
    intro k τ v hi hO
    have ek := nIt (n := k) (by omega)
    have ekn := nIn (i := k) (by omega)
    have ix : 3 * nI m + nI k = nI (3 * m + k) := by rw [m3 hm, nI_add]
    have tix := nIt (n := 3 * m + k) (by omega)
    have uix := nIn (i := 3 * m + k) (by omega)
    refine go [155, 178] 60 hX ?_
    refine ⟨fun c157 => ?_, fun c157 => ?_⟩
    · refine ⟨_, _, rfl, ⟨by omega, by omega⟩, ?_⟩
      refine ⟨_, rfl, (by rw [ix]; exact ⟨by omega, by omega⟩), ?_⟩
      have hO' : CpO β (wr τ 111 (3 * m + k) (β 114 k)) Ln m k := ⟨fun c c1 c2 c3 c4 => by rw [wr_c c2]; exact hO.1 c c1 c2 c3 c4, hO.2.1, fun q hq => (pk_un (by omega)).trans (hO.2.2.1 q hq), hO.2.2.2.1, fun q hq => (pk_un (by omega)).trans (hO.2.2.2.2.1 q hq), hO.2.2.2.2.2⟩
      have q := lw_in hX hm (by omega) hLn (fun υ v' hυ => ih (k + 1) υ v' (by omega) hυ) (Ln k) 0 _ (by omega) hO' pk_us (fun q hq => absurd hq (Nat.not_lt_zero q))
      rw [ix, uix, ekn, hO.1 114 (by decide) (by decide) (by decide) (by decide)]
      exact q
    · refine ⟨rfl, trivial, ?_⟩
      exfalso; rw [ek] at c157; simp only [Int32.reduceToInt] at c157; omega
theorem lw_copy {d : Nat} {Q : Qt} {X : Kt} (hX : Clo (Call (d + 80)) none (mR k_X12_law) (mE k_X12_law) Q X) {β : Mm} {Ln : Nat → Nat} {m : Nat} {x2 : Int32} {v : Value} (hm : m < 3) (hLn : ∀ q, q < 3 → Ln q ≤ 96 ∧ β 114 q = nI (Ln q)) (hQ : ∀ τ, CpO β τ Ln m 3 → Q (some (.int (β 88 44))) τ) : X 146 [.ref 88, .int (nI m), .int x2, v] [] β := by
  have tm := nIt (n := m) (by omega)
  have umm := nIn (i := m) (by omega)
  refine go [155] 40 hX ?_
  refine ⟨⟨by omega, by omega⟩, Or.inr rfl, ?_⟩
  rw [umm]
  exact lw_out hX hm hLn hQ 3 0 _ _ rfl ⟨fun c c1 c2 c3 c4 => wr_c c1, rfl, fun q hq => absurd hq (Nat.not_lt_zero q), fun q hq => absurd hq (Nat.not_lt_zero q), fun _ _ => rfl, fun _ _ => ⟨rfl, rfl⟩⟩
