theorem st_cong {σ τ : Mm} (h : ∀ c, c ≠ 88 → τ c = σ c) : ∀ L, stS τ L = stS σ L
  | [] => by unfold stS; rw [h 46 (by decide)]
  | p :: l => by
    unfold stS
    rw [st_cong h l, h 48 (by decide), h 49 (by decide), h 50 (by decide), h 47 (by decide), h 45 (by decide)]
theorem al_cong {σ τ : Mm} (h : ∀ c, c ≠ 88 → τ c = σ c) (L : List Nat) : alS τ L = alS σ L := by
  unfold alS
  rw [st_cong h L, h 45 (by decide)]
theorem may_cong {σ τ : Mm} (h : ∀ c, c ≠ 88 → τ c = σ c) {L : List Nat} (hL : ∀ j, j < L.length → atR L j < 6) (q : Nat) : mayS τ L q ↔ mayS σ L q := by
  constructor
  · intro z j hj
    have := hL j hj
    rw [← h _ (by omega)]
    exact z j hj
  · intro z j hj
    have := hL j hj
    rw [h _ (by omega)]
    exact z j hj
theorem at_cons6 {L : List Nat} {i : Nat} (hL : ∀ j, j < L.length → atR L j < 6) (hi : i < 6) : ∀ j, j < (i :: L).length → atR (i :: L) j < 6 := by
  intro j hj
  rw [List.length_cons] at hj
  by_cases q : j = L.length
  · rw [q, atR_top]; exact hi
  · rw [atR_low (by omega)]; exact hL j (by omega)
theorem dfI_cong {σ τ : Mm} (h : ∀ c, c ≠ 88 → τ c = σ c) {s s' : List Nat → Sst → Option Sst} (hs : ∀ M st, (∀ j, j < M.length → atR M j < 6) → s' M st = s M st) {L : List Nat} (hL : ∀ j, j < L.length → atR L j < 6) : ∀ (j i : Nat) (st : Sst), i + j ≤ 6 → dfI τ s' L i j st = dfI σ s L i j st
  | 0, _, _, _ => rfl
  | j + 1, i, st, hi => by
    have hm := may_cong h hL i
    have hk : kpS τ (i :: L) st = kpS σ (i :: L) st := by
      unfold kpS
      rw [al_cong h]
    by_cases a : mayS σ L i
    · have a' := hm.mpr a
      by_cases b : st.1 = 0
      · rw [dfI_0 a b, dfI_0 a' b]
      · have e := hs (i :: L) (kpS σ (i :: L) st) (at_cons6 hL (by omega))
        cases c : s (i :: L) (kpS σ (i :: L) st) with
        | none => rw [dfI_x a b c, dfI_x a' b (by rw [hk, e, c])]
        | some st' =>
          rw [dfI_s a b c, dfI_s a' b (by rw [hk, e]; exact c)]
          exact dfI_cong h hs hL j (i + 1) st' (by omega)
    · rw [dfI_n a, dfI_n (fun z => a (hm.mp z))]
      exact dfI_cong h hs hL j (i + 1) st (by omega)
theorem dfB_cong {σ τ : Mm} (h : ∀ c, c ≠ 88 → τ c = σ c) {m : Nat} (hm : m ≤ 6) : ∀ (k : Nat) (M : List Nat) (st : Sst), (∀ j, j < M.length → atR M j < 6) → dfB τ m k M st = dfB σ m k M st
  | 0, _, _, _ => rfl
  | k + 1, M, st, hM => dfI_cong h (fun N st hN => dfB_cong h hm k N st hN) hM m 0 st (by omega)
theorem dfT_cong {σ τ : Mm} (h : ∀ c, c ≠ 88 → τ c = σ c) {m T : Nat} (hm : m ≤ 6) : dfT τ m T = dfT σ m T := by
  unfold dfT
  rw [al_cong h]
  exact dfI_cong (L := []) h (fun N st hN => dfB_cong h hm _ N st hN) (fun j hj => (Nat.not_lt_zero j hj).elim) m 0 _ (by omega)
/-- the rows of a mix, and how many of what was told are right -/
def rwF (σ : Mm) (bs : List Nat) (j : Nat) : Int32 := if j % 2 = 0 then nI (atR bs (j / 2)) else alS σ (pfx bs (j / 2 + 1))
def ckN (w r : Nat → Int32) : Nat → Nat → Nat
  | i, 0 => i
  | i, j + 1 => if (w i).toInt = (r i).toInt then ckN w r (i + 1) j else i
theorem ckN_b (w r : Nat → Int32) : ∀ j i, i ≤ ckN w r i j ∧ ckN w r i j ≤ i + j
  | 0, i => ⟨Nat.le_refl i, Nat.le_refl _⟩
  | j + 1, i => by
    have := ckN_b w r j (i + 1)
    unfold ckN
    split <;> omega
theorem ckN_cong {w w' r r' : Nat → Int32} : ∀ j i, (∀ k, i ≤ k → k < i + j → w' k = w k ∧ r' k = r k) → ckN w' r' i j = ckN w r i j
  | 0, i, _ => rfl
  | j + 1, i, h => by
    have h0 := h i (Nat.le_refl i) (by omega)
    unfold ckN
    rw [h0.1, h0.2, ckN_cong j (i + 1) (fun k h1 h2 => h k (by omega) (by omega))]
def ckR (w r : Nat → Int32) (n d : Nat) : Int32 := if ckN w r 0 (min n d) = n ∧ ckN w r 0 (min n d) = d then 0 else 1 + nI (ckN w r 0 (min n d))
theorem s_checkR {d : Nat} {τ : Mm} {Q : Qt} {n dd : Nat} {X : Kt} (hX : Clo (Call (d + 13)) none (mR k_X11_check) (mE k_X11_check) Q X) (hn : n ≤ 20) (hdd : dd ≤ 12) (hQ : Q (some (.int (ckR (τ 87) (τ 60) n dd))) τ) : X 40 [.ref 0, .int (nI n), .int (nI dd), .int 0, .int 0] [] τ := by
  have en := nIt (n := n) (by omega)
  have ed := nIt (n := dd) (by omega)
  have loop : ∀ (j i : Nat), i + j = min n dd → (∀ v : Value, X 87 [.ref 0, .int (nI n), .int (nI dd), .int (nI (ckN (τ 87) (τ 60) i j)), v] [] τ) → X 40 [.ref 0, .int (nI n), .int (nI dd), .int (nI i), .int (nI i)] [] τ := by
    intro j
    induction j with
    | zero =>
      intro i hi hK
      have e1 := nIt (n := i) (by omega)
      refine go [40, 87] 60 hX ?_
      refine ⟨fun c43 => ?_, fun c43 => ?_⟩
      · refine ⟨fun c49 => ?_, fun c49 => ?_⟩
        · refine ⟨fun c55 => ?_, fun c55 => ?_⟩
          · exfalso; omega
          · exact hK _
        · exact hK _
      · exact hK _
    | succ j ih =>
      intro i hi hK
      have e1 := nIt (n := i) (by omega)
      have e2 := nIn (i := i) (by omega)
      have e3 : (nI i + 1).toInt = (i : Int) + 1 := by rw [nI_1, nIt (by omega)]; omega
      refine go [40, 87] 60 hX ?_
      refine ⟨fun c43 => ?_, fun c43 => ?_⟩
      · refine ⟨fun c49 => ?_, fun c49 => ?_⟩
        · refine ⟨fun c55 => ?_, fun c55 => ?_⟩
          · refine ⟨_, _, rfl, ⟨by omega, by omega⟩, ?_⟩
            refine ⟨_, _, rfl, ⟨by omega, by omega⟩, ?_⟩
            refine ⟨fun c75 => ?_, fun c75 => ?_⟩
            · rw [e2] at c75
              have ek : ckN (τ 87) (τ 60) i (j + 1) = ckN (τ 87) (τ 60) (i + 1) j := if_pos c75
              have ih1 := ih (i + 1) (by omega) (by rw [ek] at hK; exact hK)
              rw [← nI_1] at ih1
              exact ih1
            · rw [e2] at c75
              have ek : ckN (τ 87) (τ 60) i (j + 1) = i := if_neg c75
              rw [ek] at hK
              refine go [87] 40 hX ?_
              refine ⟨fun c43 => ?_, fun c43 => ?_⟩
              · refine ⟨fun c49 => ?_, fun c49 => ?_⟩
                · refine ⟨fun c55 => ?_, fun c55 => ?_⟩
                  · exfalso; omega
                  · exact hK _
                · exact hK _
              · exact hK _
          · exfalso; omega
        · exfalso; omega
      · exfalso; omega
  refine loop (min n dd) 0 (Nat.zero_add _) (fun v => ?_)
  have hb := ckN_b (τ 87) (τ 60) (min n dd) 0
  have ekn := nIt (n := ckN (τ 87) (τ 60) 0 (min n dd)) (by omega)
  refine go [] 40 hX ?_
  refine ⟨fun c89 => ?_, fun c89 => ?_⟩
  · refine ⟨fun c94 => ?_, fun c94 => ?_⟩
    · refine ⟨rfl, trivial, ?_⟩
      rw [ekn, en] at c89
      rw [ekn, ed] at c94
      unfold ckR at hQ
      rw [if_pos ⟨by omega, by omega⟩] at hQ
      exact hQ
    · refine ⟨rfl, trivial, ?_⟩
      rw [ekn, en] at c89
      rw [ekn, ed] at c94
      unfold ckR at hQ
      rw [if_neg (by omega)] at hQ
      exact hQ
  · refine ⟨rfl, trivial, ?_⟩
    rw [ekn, en] at c89
    unfold ckR at hQ
    rw [if_neg (by omega)] at hQ
    exact hQ
theorem cs_check {d : Nat} {σ : Mm} {Q : Qt} {m : Nat} (hm : ((wr σ 0 14 0) 45 3).toInt = m) (hm6 : m ≤ 6) (hNN : 0 ≤ ((wr σ 0 14 0) 45 0).toInt ∧ ((wr σ 0 14 0) 45 0).toInt ≤ 8) (hd : ∀ a, a < m → ((wr σ 0 14 0) (52 + a) a).toInt = 0) (h0 : 0 ≤ (σ 0 14).toInt) (h20 : (σ 0 14).toInt ≤ 20) (h2 : dfT (wr σ 0 14 0) m 5000 = none → ∀ τ, Ag MxL (wr σ 0 14 0) τ → Q (some (.int (-1000000004))) τ) (h3 : ∀ st, dfT (wr σ 0 14 0) m 5000 = some st → ∀ τ, Ag MxL (wr σ 0 14 0) τ → (∀ j, j < st.2.2.length → τ 60 (2 * j) = nI (atR st.2.2 j) ∧ τ 60 (2 * j + 1) = alS (wr σ 0 14 0) (pfx st.2.2 (j + 1))) → Q (some (.int (ckR (τ 87) (τ 60) (σ 0 14).toInt.toNat (2 * st.2.2.length)))) τ) : Call (d + 14) k_X11_check [.ref 0] σ Q := by
  refine Call_go fun X hX => ?_
  refine go [40] 60 hX ?_
  refine ⟨rfl, rfl, ?_⟩
  refine s_seekX (σ := wr σ 0 14 0) (m := m) hm hm6 hNN hd (by decide) (fun h17a h17b h17c => ?_) (fun h17a h17b h17c h17d h17e => ?_)
  · refine ⟨fun _ => ?_, fun z => absurd (by decide) z⟩
    refine ⟨rfl, trivial, ?_⟩
    exact h2 h17a h17b h17c
  · refine ⟨fun z => absurd z (by decide), fun _ => ?_⟩
    refine ⟨rfl, rfl, ?_⟩
    refine s_writeRows (σ := wr σ 0 14 0) (bs := h17a.2.2) hm hm6 hNN hd h17d h17e.2.1 h17e.1.2.2.1 h17e.1.2.2.2 (fun h31a h31b h31c h31d h31e => ?_)
    have hN3 : nI ((σ 0 14).toInt.toNat) = σ 0 14 := nIx h0
    have hbl := vl_len hd h17e.2.1
    have h4 := s_checkR (n := (σ 0 14).toInt.toNat) (dd := 2 * h17a.2.2.length) (τ := h31a) hX (by omega) (by omega) (h3 h17a h17b h31a h31b h31e)
    rw [hN3] at h4
    exact h4
