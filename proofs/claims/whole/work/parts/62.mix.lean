/-- a promotion may come behind a row -/
abbrev mayS (σ : Mm) (L : List Nat) (q : Nat) : Prop := ∀ j, j < L.length → ¬ (σ (52 + atR L j) q).toInt = 0
def stS (σ : Mm) : List Nat → (Nat → Int32) × Int32
  | [] => (σ 46, 0)
  | p :: l => wkC (σ 48) (σ 49) (σ 50) (σ 47) (σ 45 0).toInt.toNat p (stS σ l)
def alS (σ : Mm) (L : List Nat) : Int32 := allF (stS σ L).1 (stS σ L).2 (σ 45 0).toInt.toNat
abbrev Sst : Type := Nat × Int32 × List Nat
def kpS (σ : Mm) (M : List Nat) (st : Sst) : Sst := if (alS σ M).toInt < st.2.1.toInt ∨ (alS σ M).toInt = st.2.1.toInt ∧ M.length < st.2.2.length then (st.1 - 1, alS σ M, M) else (st.1 - 1, st.2.1, st.2.2)
def dfI (σ : Mm) (sub : List Nat → Sst → Option Sst) (L : List Nat) : Nat → Nat → Sst → Option Sst
  | _, 0, st => some st
  | i, j + 1, st => if mayS σ L i then (if st.1 = 0 then none else (match sub (i :: L) (kpS σ (i :: L) st) with
    | none => none
    | some st' => dfI σ sub L (i + 1) j st')) else dfI σ sub L (i + 1) j st
def dfB (σ : Mm) (m : Nat) : Nat → List Nat → Sst → Option Sst
  | 0 => fun _ st => some st
  | k + 1 => fun L st => dfI σ (dfB σ m k) L 0 m st
theorem dfI_n {σ : Mm} {sub : List Nat → Sst → Option Sst} {L : List Nat} {i j : Nat} {st : Sst} (h : ¬ mayS σ L i) : dfI σ sub L i (j + 1) st = dfI σ sub L (i + 1) j st := if_neg h
theorem dfI_0 {σ : Mm} {sub : List Nat → Sst → Option Sst} {L : List Nat} {i j : Nat} {st : Sst} (h : mayS σ L i) (h0 : st.1 = 0) : dfI σ sub L i (j + 1) st = none := by
  rw [dfI, if_pos h, if_pos h0]
theorem dfI_x {σ : Mm} {sub : List Nat → Sst → Option Sst} {L : List Nat} {i j : Nat} {st : Sst} (h : mayS σ L i) (h0 : ¬ st.1 = 0) (hs : sub (i :: L) (kpS σ (i :: L) st) = none) : dfI σ sub L i (j + 1) st = none := by
  rw [dfI, if_pos h, if_neg h0, hs]
theorem dfI_s {σ : Mm} {sub : List Nat → Sst → Option Sst} {L : List Nat} {i j : Nat} {st st' : Sst} (h : mayS σ L i) (h0 : ¬ st.1 = 0) (hs : sub (i :: L) (kpS σ (i :: L) st) = some st') : dfI σ sub L i (j + 1) st = dfI σ sub L (i + 1) j st' := by
  rw [dfI, if_pos h, if_neg h0, hs]
def vlS (σ : Mm) (m : Nat) : List Nat → Prop
  | [] => True
  | p :: l => p < m ∧ mayS σ l p ∧ vlS σ m l
theorem mem_atR : ∀ (L : List Nat) (x : Nat), x ∈ L → ∃ j, j < L.length ∧ atR L j = x
  | [], x, h => (List.not_mem_nil h).elim
  | y :: l, x, h => by
    rcases List.mem_cons.mp h with h | h
    · exact ⟨l.length, by rw [List.length_cons]; omega, by rw [atR_top, h]⟩
    · obtain ⟨j, h1, h2⟩ := mem_atR l x h
      exact ⟨j, by rw [List.length_cons]; omega, by rw [atR_low h1, h2]⟩
theorem vl_nd {σ : Mm} {m : Nat} (hd : ∀ a, a < m → (σ (52 + a) a).toInt = 0) : ∀ L, vlS σ m L → L.Nodup ∧ ∀ x, x ∈ L → x < m
  | [], _ => ⟨List.nodup_nil, fun x h => (List.not_mem_nil h).elim⟩
  | p :: l, h => by
    obtain ⟨h1, h2, h3⟩ := h
    obtain ⟨k1, k2⟩ := vl_nd hd l h3
    refine ⟨List.nodup_cons.mpr ⟨fun hm => ?_, k1⟩, fun x hx => ?_⟩
    · obtain ⟨j, j1, j2⟩ := mem_atR l p hm
      have := h2 j j1
      rw [j2] at this
      exact this (hd p h1)
    · rcases List.mem_cons.mp hx with hx | hx
      · omega
      · exact k2 x hx
theorem pig : ∀ (n : Nat) (l : List Nat), l.Nodup → (∀ x, x ∈ l → x < n) → l.length ≤ n
  | 0, [], _, _ => Nat.le_refl 0
  | 0, y :: l, _, h => by
    have := h y (List.mem_cons.mpr (Or.inl rfl))
    omega
  | n + 1, l, hn, h => by
    have h1 := pig n (l.erase n) (hn.erase n) (fun x hx => by
      have a := (hn.mem_erase_iff.mp hx)
      have b := h x a.2
      have c : x ≠ n := a.1
      omega)
    have h2 := List.length_erase (a := n) (l := l)
    split at h2 <;> omega
theorem vl_len {σ : Mm} {m : Nat} (hd : ∀ a, a < m → (σ (52 + a) a).toInt = 0) {L : List Nat} (h : vlS σ m L) : L.length ≤ m := by
  obtain ⟨h1, h2⟩ := vl_nd hd L h
  exact pig m L h1 h2
theorem vl_at {σ : Mm} {m : Nat} : ∀ {L : List Nat}, vlS σ m L → ∀ j, j < L.length → atR L j < m
  | [], _, j, hj => (Nat.not_lt_zero j hj).elim
  | p :: l, h, j, hj => by
    rw [List.length_cons] at hj
    by_cases q : j = l.length
    · rw [q, atR_top]; exact h.1
    · rw [atR_low (by omega)]; exact vl_at h.2.2 j (by omega)
theorem df_full {σ : Mm} {m : Nat} (hd : ∀ a, a < m → (σ (52 + a) a).toInt = 0) {L : List Nat} (h : vlS σ m L) (hl : L.length = m) {sub : List Nat → Sst → Option Sst} {st : Sst} : ∀ (j i : Nat), i + j = m → dfI σ sub L i j st = some st
  | 0, i, _ => rfl
  | j + 1, i, hi => by
    have nm : ¬ mayS σ L i := fun q => by
      have := vl_len hd (L := i :: L) ⟨by omega, q, h⟩
      rw [List.length_cons] at this
      omega
    rw [dfI_n nm]
    exact df_full hd h hl j (i + 1) (by omega)
theorem df_sub {σ : Mm} {m : Nat} (hd : ∀ a, a < m → (σ (52 + a) a).toInt = 0) {L : List Nat} (h : vlS σ m L) {k : Nat} (hl : L.length + k = m) {st : Sst} : dfB σ m k L st = dfI σ (dfB σ m (k - 1)) L 0 m st := by
  cases k with
  | zero => exact (df_full hd h hl m 0 (Nat.zero_add _)).symm
  | succ k => rfl
theorem s_start {d : Nat} {τ : Mm} {Q : Qt} (hN : 0 ≤ (τ 45 0).toInt ∧ (τ 45 0).toInt ≤ 8) (hQ : Q none (wr (up τ 63 (va_cpy (τ 46) (τ 63) 0 0 (τ 45 0).toInt.toNat)) 70 0 0)) : Call (d + 1) k_X6_start [.ref 58] τ Q := by
  refine Call_st 40 fun X hX => ?_
  refine ⟨_, _, rfl, ⟨by decide, by decide⟩, ?_⟩
  refine ⟨rfl, 0, 8, 8, ⟨rfl, rfl, rfl⟩, ⟨by decide, by decide, by omega, by simp only [Int32.reduceToInt]; omega, by simp only [Int32.reduceToInt]; omega⟩, ?_⟩
  refine ⟨_, rfl, ⟨by decide, by decide⟩, ?_⟩
  refine ⟨rfl, rfl, ?_⟩
  exact hQ
theorem s_mayCome {d : Nat} {τ : Mm} {Q : Qt} {q : Nat} {L : List Nat} (hL : L.length ≤ 6) (ha : arr (τ 61) L) (hat : ∀ j, j < L.length → atR L j < 6) (hq : q < 6) (hdg : (τ (52 + q) q).toInt = 0) (hQ : Q (some (.int (bI (L.length < 6 ∧ mayS τ L q)))) τ) : Call (d + 1) k_X6_mayCome [.ref 58, .int (nI q), .int (nI L.length)] τ Q := by
  refine Call_go fun X hX => ?_
  have eL := nIt (n := L.length) (by omega)
  have eq1 := nIt (n := q) (by omega)
  have loop : L.length < 6 → ∀ (k i : Nat), i + k = L.length → (∀ j, j < i → ¬ (τ (52 + atR L j) q).toInt = 0) → X 10 [.ref 58, .int (nI q), .int (nI L.length), .int (nI i)] [] τ := by
    intro h6 k
    induction k with
    | zero =>
      intro i hi hm
      rw [Nat.add_zero] at hi
      have e1 := nIt (n := i) (by omega)
      refine go [10] 100 hX ?_
      refine ⟨fun c12 => ?_, fun c12 => ?_⟩
      · exfalso; omega
      · refine ⟨rfl, Or.inr rfl, ?_⟩
        exact bI_t hQ ⟨h6, fun j hj => hm j (by omega)⟩
    | succ k ih =>
      intro i hi hm
      have e1 := nIt (n := i) (by omega)
      have e2 := nIn (i := i) (by omega)
      have hai := hat i (by omega)
      have eai := nIt (n := atR L i) (by omega)
      have er : τ 61 (nI i).toInt.toNat = nI (atR L i) := by rw [e2]; exact arrAt L ha i (by omega)
      refine go [10] 100 hX ?_
      refine ⟨fun c12 => ?_, fun c12 => ?_⟩
      · refine ⟨_, _, rfl, ⟨by omega, by omega⟩, ?_⟩
        refine ⟨fun c22 => ?_, fun c22 => ?_⟩
        · refine ⟨rfl, Or.inl rfl, ?_⟩
          refine bI_f hQ (fun z => z.2 i (by omega) ?_)
          rw [er, nIt (by omega), nIt (by omega)] at c22
          rw [show atR L i = q by omega]
          exact hdg
        · refine ⟨_, _, rfl, ⟨by omega, by omega⟩, ?_⟩
          refine ⟨_, _, rfl, (by rw [er]; exact ⟨by omega, by omega⟩), ?_⟩
          refine ⟨_, _, rdI_row (rw52 (by rw [er, nIn (i := atR L i) (by omega)]; omega)), ⟨by omega, by omega⟩, ?_⟩
          refine ⟨fun c41 => ?_, fun c41 => ?_⟩
          · refine ⟨rfl, Or.inl rfl, ?_⟩
            refine bI_f hQ (fun z => z.2 i (by omega) ?_)
            rw [er, nIn (i := atR L i) (by omega), nIn (i := q) (by omega)] at c41
            exact c41
          · rw [er, nIn (i := atR L i) (by omega), nIn (i := q) (by omega)] at c41
            have ih1 := ih (i + 1) (by omega) (fun j hj => by
              by_cases r : j = i
              · rw [r]; exact c41
              · exact hm j (by omega))
            rw [← nI_1] at ih1
            exact ih1
      · exfalso; omega
  refine go [10] 20 hX ?_
  refine ⟨fun c3 => ?_, fun c3 => ?_⟩
  · exact loop (by (first | omega | (simp only [Int32.reduceToInt] at c3 ⊢; omega))) _ 0 (Nat.zero_add _) (fun j hj => by omega)
  · refine ⟨rfl, Or.inl rfl, ?_⟩
    exact bI_f hQ (fun z => by (first | omega | (simp only [Int32.reduceToInt] at c3 ⊢; omega)))
theorem s_keep {d : Nat} {τ : Mm} {Q : Qt} {x : Int32} (hN : 0 ≤ (τ 45 0).toInt ∧ (τ 45 0).toInt ≤ 8) (hx : 0 ≤ x.toInt ∧ x.toInt ≤ 6) (h1 : ((allF (τ (63 + x.toInt.toNat)) (τ 70 x.toInt.toNat) (τ 45 0).toInt.toNat).toInt < (τ 58 0).toInt ∨ (allF (τ (63 + x.toInt.toNat)) (τ 70 x.toInt.toNat) (τ 45 0).toInt.toNat).toInt = (τ 58 0).toInt ∧ x.toInt < (τ 58 1).toInt) → Q none (up (wr (wr τ 58 0 (allF (τ (63 + x.toInt.toNat)) (τ 70 x.toInt.toNat) (τ 45 0).toInt.toNat)) 58 1 x) 59 (va_cpy (τ 61) (τ 59) 0 0 x.toInt.toNat))) (h2 : ¬ ((allF (τ (63 + x.toInt.toNat)) (τ 70 x.toInt.toNat) (τ 45 0).toInt.toNat).toInt < (τ 58 0).toInt ∨ (allF (τ (63 + x.toInt.toNat)) (τ 70 x.toInt.toNat) (τ 45 0).toInt.toNat).toInt = (τ 58 0).toInt ∧ x.toInt < (τ 58 1).toInt) → Q none τ) : Call (d + 3) k_X6_keepIfBetter [.ref 58, .int x] τ Q := by
  refine Call_st 60 fun X hX => ?_
  refine ⟨rfl, rfl, ?_⟩
  refine s_all hN hx ?_
  refine ⟨fun c11 => ?_, fun c11 => ?_⟩
  · refine ⟨rfl, 0, 6, 6, ⟨rfl, rfl, rfl⟩, ⟨by decide, by decide, by omega, by simp only [Int32.reduceToInt]; omega, by simp only [Int32.reduceToInt]; omega⟩, ?_⟩
    refine ⟨rfl, rfl, ?_⟩
    exact h1 (Or.inl c11)
  · refine ⟨fun c19 => ?_, fun c19 => ?_⟩
    · refine ⟨fun c27 => ?_, fun c27 => ?_⟩
      · refine ⟨rfl, 0, 6, 6, ⟨rfl, rfl, rfl⟩, ⟨by decide, by decide, by omega, by simp only [Int32.reduceToInt]; omega, by simp only [Int32.reduceToInt]; omega⟩, ?_⟩
        refine ⟨rfl, rfl, ?_⟩
        exact h1 (Or.inr ⟨c19, c27⟩)
      · refine ⟨rfl, rfl, ?_⟩
        exact h2 (fun z => z.elim c11 (fun z => c27 z.2))
    · refine ⟨rfl, rfl, ?_⟩
      exact h2 (fun z => z.elim c11 (fun z => c19 z.1))
