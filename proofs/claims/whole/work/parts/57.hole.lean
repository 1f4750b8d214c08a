def atR : List Nat → Nat → Nat
  | [], _ => 0
  | x :: l, j => if j = l.length then x else atR l j
def fmA (T : Nat → Int32) (f : Int32) : List Nat → Int32
  | [] => f
  | x :: _ => T x
def prA (P : Nat → Int32) : List Nat → Int64
  | [] => 1
  | x :: l => prA P l * (P x).toInt64
/-- an exchange can stand behind a row, k more come behind it -/
abbrev fitP (F T : Nat → Int32) (f : Int32) (k : Nat) (L : List Nat) (i : Nat) : Prop := (F i).toInt = (fmA T f L).toInt ∧ (k = 0 ↔ (T i).toInt = f.toInt) ∧ ∀ j, j < L.length → ¬ (T (atR L j)).toInt = (T i).toInt
def srI (F T P Q : Nat → Int32) (f : Int32) (k : Nat) (sub : List Nat → Option (List Nat)) (L : List Nat) : Nat → Nat → Option (List Nat)
  | _, 0 => none
  | i, j + 1 => if fitP F T f k L i then (if k = 0 then (if (prA Q (i :: L)).toInt < (prA P (i :: L)).toInt then some (i :: L) else srI F T P Q f k sub L (i + 1) j) else (match sub (i :: L) with
    | some R => some R
    | none => srI F T P Q f k sub L (i + 1) j)) else srI F T P Q f k sub L (i + 1) j
def srB (F T P Q : Nat → Int32) (f : Int32) (m : Nat) : Nat → List Nat → Option (List Nat)
  | 0 => fun _ => none
  | k + 1 => fun L => srI F T P Q f k (srB F T P Q f m k) L 0 m
theorem srI_n {F T P Q : Nat → Int32} {f : Int32} {k : Nat} {sub : List Nat → Option (List Nat)} {L : List Nat} {i j : Nat} (h : ¬ fitP F T f k L i) : srI F T P Q f k sub L i (j + 1) = srI F T P Q f k sub L (i + 1) j := if_neg h
theorem srI_h {F T P Q : Nat → Int32} {f : Int32} {k : Nat} {sub : List Nat → Option (List Nat)} {L : List Nat} {i j : Nat} (h : fitP F T f k L i) (hk : k = 0) (hh : (prA Q (i :: L)).toInt < (prA P (i :: L)).toInt) : srI F T P Q f k sub L i (j + 1) = some (i :: L) := by
  unfold srI
  rw [if_pos h, if_pos hk, if_pos hh]
theorem srI_hn {F T P Q : Nat → Int32} {f : Int32} {k : Nat} {sub : List Nat → Option (List Nat)} {L : List Nat} {i j : Nat} (h : fitP F T f k L i) (hk : k = 0) (hh : ¬ (prA Q (i :: L)).toInt < (prA P (i :: L)).toInt) : srI F T P Q f k sub L i (j + 1) = srI F T P Q f k sub L (i + 1) j := by
  rw [srI, if_pos h, if_pos hk, if_neg hh]
theorem srI_s {F T P Q : Nat → Int32} {f : Int32} {k : Nat} {sub : List Nat → Option (List Nat)} {L R : List Nat} {i j : Nat} (h : fitP F T f k L i) (hk : ¬ k = 0) (hh : sub (i :: L) = some R) : srI F T P Q f k sub L i (j + 1) = some R := by
  rw [srI, if_pos h, if_neg hk, hh]
theorem srI_sn {F T P Q : Nat → Int32} {f : Int32} {k : Nat} {sub : List Nat → Option (List Nat)} {L : List Nat} {i j : Nat} (h : fitP F T f k L i) (hk : ¬ k = 0) (hh : sub (i :: L) = none) : srI F T P Q f k sub L i (j + 1) = srI F T P Q f k sub L (i + 1) j := by
  rw [srI, if_pos h, if_neg hk, hh]
theorem atR_top {x : Nat} {l : List Nat} : atR (x :: l) l.length = x := if_pos rfl
theorem atR_low {x j : Nat} {l : List Nat} (h : j < l.length) : atR (x :: l) j = atR l j := if_neg (by omega)
theorem srI_pre {F T P Q : Nat → Int32} {f : Int32} {k : Nat} {sub : List Nat → Option (List Nat)} {L : List Nat} (hs : ∀ M R, sub M = some R → ∀ j, j < M.length → atR R j = atR M j) : ∀ (n i : Nat) (R : List Nat), srI F T P Q f k sub L i n = some R → ∀ j, j < L.length → atR R j = atR L j
  | 0, _, _, h => by cases h
  | n + 1, i, R, h => by
    intro j hj
    have hl : (i :: L).length = L.length + 1 := rfl
    by_cases a : fitP F T f k L i
    · by_cases b : k = 0
      · by_cases c : (prA Q (i :: L)).toInt < (prA P (i :: L)).toInt
        · rw [srI_h a b c] at h
          cases h
          exact atR_low hj
        · rw [srI_hn a b c] at h
          exact srI_pre hs n _ R h j hj
      · cases c : sub (i :: L) with
        | none =>
          rw [srI_sn a b c] at h
          exact srI_pre hs n _ R h j hj
        | some M =>
          rw [srI_s a b c] at h
          cases h
          rw [hs _ _ c j (by omega)]
          exact atR_low hj
    · rw [srI_n a] at h
      exact srI_pre hs n _ R h j hj
theorem srB_pre {F T P Q : Nat → Int32} {f : Int32} {m : Nat} : ∀ (k : Nat) (L R : List Nat), srB F T P Q f m k L = some R → ∀ j, j < L.length → atR R j = atR L j
  | 0, _, _, h => by cases h
  | k + 1, L, R, h => srI_pre (fun M R => srB_pre k M R) m 0 R h
/-- what the class's goesRound does with k more to come -/
def GoS (σ : Mm) (n M : Nat) (f : Int32) (k : Nat) : Prop := ∀ (d : Nat) (τ : Mm) (Q : Qt) (a dn : Int32) (t b : Int64) (L : List Nat), L.length + k + 1 = n → Ag [72, 77] σ τ → (∀ g : Nat, g < 6 → (τ 77 g = 0 ∧ ∀ j, j < L.length → ¬ (σ 74 (atR L j)).toInt = g) ∨ (τ 77 g = 1 ∧ ∃ j, j < L.length ∧ (σ 74 (atR L j)).toInt = g)) → (∀ j, j < L.length → ¬ (σ 74 (atR L j)).toInt = f.toInt) → a = fmA (σ 74) f L → dn = nI L.length → t = prA (σ 75) L → b = prA (σ 76) L →
  (srB (σ 73) (σ 74) (σ 75) (σ 76) f M (k + 1) L = none → ∀ τ', Ag [72, 77] σ τ' → τ' 77 = τ 77 → Q (some (.int 0)) τ') → (∀ R, srB (σ 73) (σ 74) (σ 75) (σ 76) f M (k + 1) L = some R → ∀ τ', Ag [72, 77] σ τ' → τ' 77 = τ 77 → (∀ j, L.length ≤ j → j < n → τ' 72 j = nI (atR R j)) → Q (some (.int 1)) τ') → Call (d + k + 1) k_X1_goesRound [.ref 71, .int f, .int a, .int dn, .int (nI n), .long t, .long b] τ Q
theorem upd2 {f : Nat → Int32} {i : Nat} (h : f i = 0) : upd (upd f i 1) i 0 = f := by
  funext j
  unfold upd
  by_cases q : j = i
  · rw [if_pos q, q, h]
  · rw [if_neg q, if_neg q]
theorem pas_cons {σ τ τ1 : Mm} {i : Nat} {x : Int32} {L : List Nat} (h771 : τ1 77 = τ 77) (hx : 0 ≤ (σ 74 i).toInt) (hgn : τ 77 (σ 74 i).toInt.toNat = 0 ∧ ∀ j, j < L.length → ¬ (σ 74 (atR L j)).toInt = (σ 74 i).toInt) (hp : (∀ g : Nat, g < 6 → (τ 77 g = 0 ∧ ∀ j, j < L.length → ¬ (σ 74 (atR L j)).toInt = g) ∨ (τ 77 g = 1 ∧ ∃ j, j < L.length ∧ (σ 74 (atR L j)).toInt = g))) (hx2 : x = σ 74 i) : ∀ g : Nat, g < 6 → (wr τ1 77 x.toInt.toNat 1 77 g = 0 ∧ ∀ j, j < (i :: L).length → ¬ (σ 74 (atR (i :: L) j)).toInt = g) ∨ (wr τ1 77 x.toInt.toNat 1 77 g = 1 ∧ ∃ j, j < (i :: L).length ∧ (σ 74 (atR (i :: L) j)).toInt = g) := by
  intro g hg
  rw [wr_k, hx2, h771, List.length_cons]
  by_cases q : g = (σ 74 i).toInt.toNat
  · refine Or.inr ⟨by rw [q]; exact pk_us, L.length, by omega, ?_⟩
    rw [atR_top]
    omega
  · rw [pk_un q]
    rcases hp g hg with ⟨g1, g2⟩ | ⟨g1, j, g2, g3⟩
    · refine Or.inl ⟨g1, fun j hj => ?_⟩
      by_cases r : j = L.length
      · rw [r, atR_top]; omega
      · rw [atR_low (by omega)]; exact g2 j (by omega)
    · exact Or.inr ⟨g1, j, by omega, by rw [atR_low g2]; exact g3⟩
set_option maxHeartbeats 4000000 in
theorem go_step {σ : Mm} {n M : Nat} {f : Int32} (hM : (σ 71 0).toInt = M) (hM2 : M ≤ 16) (hr : ∀ i : Nat, i < M → (0 ≤ (σ 73 i).toInt ∧ (σ 73 i).toInt ≤ 5) ∧ (0 ≤ (σ 74 i).toInt ∧ (σ 74 i).toInt ≤ 5)) (hn : n ≤ 6) {k : Nat} (ih0 : ∀ k', k = k' + 1 → GoS σ n M f k') : GoS σ n M f k := by
  intro d τ Q a dn t b L hL hA hp hf0 ha hd ht hb hN hS
  subst ha
  subst hd
  subst ht
  subst hb
  have eL1 := nIt (n := L.length) (by omega)
  have eL2 := nIn (i := L.length) (by omega)
  have en := nIt (n := n) (by omega)
  refine Call_go fun X hX => ?_
  have fin : ∀ (τ' : Mm) (i' : Int32) (v : Value), Q (some (.int 1)) τ' → X 21 [.ref 71, .int f, .int (fmA (σ 74) f L), .int (nI L.length), .int (nI n), .long (prA (σ 75) L), .null, .long (prA (σ 76) L), .null, .int (bI (k = 0)), .int 1, .int i', v] [] τ' := by
    intro τ' i' v hq
    refine go [] 20 hX ?_
    refine ⟨fun c27 => ?_, fun c27 => ?_⟩
    · refine ⟨fun z => absurd z (by decide), fun _ => ?_⟩
      refine ⟨rfl, Or.inr rfl, ?_⟩
      exact hq
    · refine ⟨rfl, Or.inr rfl, ?_⟩
      exact hq
  have loop : ∀ (j i : Nat) (τ1 : Mm) (v : Value), i + j = M → Ag [72, 77] σ τ1 → τ1 77 = τ 77 → (srI (σ 73) (σ 74) (σ 75) (σ 76) f k (srB (σ 73) (σ 74) (σ 75) (σ 76) f M k) L i j = none → ∀ τ', Ag [72, 77] σ τ' → τ' 77 = τ 77 → Q (some (.int 0)) τ') → (∀ R, srI (σ 73) (σ 74) (σ 75) (σ 76) f k (srB (σ 73) (σ 74) (σ 75) (σ 76) f M k) L i j = some R → ∀ τ', Ag [72, 77] σ τ' → τ' 77 = τ 77 → (∀ j, L.length ≤ j → j < n → τ' 72 j = nI (atR R j)) → Q (some (.int 1)) τ') → X 21 [.ref 71, .int f, .int (fmA (σ 74) f L), .int (nI L.length), .int (nI n), .long (prA (σ 75) L), .null, .long (prA (σ 76) L), .null, .int (bI (k = 0)), .int 0, .int (nI i), v] [] τ1 := by
    intro j
    induction j with
    | zero =>
      intro i τ1 v hi hA1 h771 hN hS
      have e1 := nIt (n := i) (by omega)
      have q71 : (τ1 71 0).toInt = M := by rw [hA1 71 rfl, hM]
      refine go [21] 100 hX ?_
      refine ⟨fun c27 => ?_, fun c27 => ?_⟩
      · refine ⟨fun _ => ?_, fun z => absurd (by decide) z⟩
        exfalso; omega
      · refine ⟨rfl, Or.inl rfl, ?_⟩
        exact hN rfl τ1 hA1 h771
    | succ j ih =>
      intro i τ1 v hi hA1 h771 hN hS
      have e1 := nIt (n := i) (by omega)
      have e2 := nIn (i := i) (by omega)
      have q71 : (τ1 71 0).toInt = M := by rw [hA1 71 rfl, hM]
      have f73 : τ1 73 (nI i).toInt.toNat = σ 73 i := by rw [e2, hA1 73 rfl]
      have f74 : τ1 74 (nI i).toInt.toNat = σ 74 i := by rw [e2, hA1 74 rfl]
      have f75 : τ1 75 (nI i).toInt.toNat = σ 75 i := by rw [e2, hA1 75 rfl]
      have f76 : τ1 76 (nI i).toInt.toNat = σ 76 i := by rw [e2, hA1 76 rfl]
      have hri := hr i (by omega)
      refine go [21] 200 hX ?_
      refine ⟨fun c27 => ?_, fun c27 => ?_⟩
      · refine ⟨fun _ => ?_, fun z => absurd (by decide) z⟩
        refine ⟨fun c38 => ?_, fun c38 => ?_⟩
        · refine ⟨_, _, rfl, ⟨by omega, by omega⟩, ?_⟩
          refine ⟨_, _, rfl, ⟨by omega, by omega⟩, ?_⟩
          refine ⟨fun c58 => ?_, fun c58 => ?_⟩
          · refine ⟨fun c63 => ?_, fun c63 => ?_⟩
            · replace c63 := bI_z c63
              refine ⟨_, _, rfl, ⟨by omega, by omega⟩, ?_⟩
              refine ⟨fun c116 => ?_, fun c116 => ?_⟩
              · refine ⟨fun c122 => ?_, fun c122 => ?_⟩
                · refine ⟨fun _ => ?_, fun z => absurd (by decide) z⟩
                  rw [f74] at c122
                  have nf : ¬ fitP (σ 73) (σ 74) f k L i := fun z => c63 (z.2.1.mpr c122)
                  have ih1 := ih (i + 1) τ1 (.int (τ1 74 (nI i).toInt.toNat)) (by omega) hA1 h771 (fun z => hN (by rw [srI_n nf]; exact z)) (fun R z => hS R (by rw [srI_n nf]; exact z))
                  rw [← nI_1] at ih1
                  exact ih1
                · refine ⟨_, _, rfl, (by rw [f74]; exact ⟨by omega, by omega⟩), ?_⟩
                  refine ⟨fun c132 => ?_, fun c132 => ?_⟩
                  · have hg := hp (σ 74 i).toInt.toNat (by omega)
                    have c58' := c58
                    rw [f73] at c58'
                    have c122' := c122
                    rw [f74] at c122'
                    have c132' := c132
                    rw [f74, h771] at c132'
                    have hgn : τ 77 (σ 74 i).toInt.toNat = 0 ∧ ∀ j, j < L.length → ¬ (σ 74 (atR L j)).toInt = (σ 74 i).toInt := by
                      rcases hg with ⟨g1, g2⟩ | ⟨g1, _⟩
                      · exact ⟨g1, fun j hj z => g2 j hj (by omega)⟩
                      · rw [g1] at c132'; exact absurd c132' (by decide)
                    have fi : fitP (σ 73) (σ 74) f k L i := ⟨c58', ⟨fun z => absurd z c63, fun z => absurd z c122'⟩, hgn.2⟩
                    have hz : τ1 77 (τ1 74 (nI i).toInt.toNat).toInt.toNat = 0 := by rw [h771, f74]; exact hgn.1
                    refine ⟨(by rw [f74]; exact ⟨by omega, by omega⟩), Or.inr rfl, ?_⟩
                    refine ⟨_, _, rfl, ⟨by omega, by omega⟩, ?_⟩
                    refine ⟨_, _, rfl, ⟨by omega, by omega⟩, ?_⟩
                    refine ⟨rfl, rfl, ?_⟩
                    obtain ⟨k', rfl⟩ : ∃ k', k = k' + 1 := ⟨k - 1, by omega⟩
                    refine ih0 k' rfl _ _ _ _ _ _ _ (i :: L) (by rw [List.length_cons]; omega) (Ag.wr hA1 rfl) (pas_cons h771 (by omega) hgn hp f74) (fun j hj => ?_) f74 (nI_1 _) (congrArg (fun z => prA (σ 75) L * Int32.toInt64 z) f75) (congrArg (fun z => prA (σ 76) L * Int32.toInt64 z) f76) (fun hR0 τ2 hA2 h772 => ?_) (fun R0 hR0 τ2 hA2 h772 hrd => ?_)
                    · rw [List.length_cons] at hj
                      by_cases q : j = L.length
                      · rw [q, atR_top]; exact c122'
                      · rw [atR_low (by omega)]; exact hf0 j (by omega)
                    · refine ⟨(by rw [f74]; exact ⟨by omega, by omega⟩), Or.inl rfl, ?_⟩
                      refine ⟨fun _ => ?_, fun z => absurd (by decide) z⟩
                      have ih1 := ih (i + 1) (wr τ2 77 (τ1 74 (nI i).toInt.toNat).toInt.toNat 0) (.int (τ1 74 (nI i).toInt.toNat)) (by omega) (Ag.wr hA2 rfl) (by
                        show upd (τ2 77) (τ1 74 (nI i).toInt.toNat).toInt.toNat 0 = _
                        rw [h772]
                        show upd (upd (τ1 77) (τ1 74 (nI i).toInt.toNat).toInt.toNat 1) (τ1 74 (nI i).toInt.toNat).toInt.toNat 0 = _
                        rw [← h771]
                        exact upd2 hz) (fun z => hN (by rw [srI_sn fi c63 hR0]; exact z)) (fun R z => hS R (by rw [srI_sn fi c63 hR0]; exact z))
                      rw [← nI_1] at ih1
                      exact ih1
                    · refine ⟨(by rw [f74]; exact ⟨by omega, by omega⟩), Or.inl rfl, ?_⟩
                      refine ⟨fun z => absurd z (by decide), fun _ => ?_⟩
                      refine ⟨_, rfl, ⟨by omega, by omega⟩, ?_⟩
                      refine fin _ _ _ (hS R0 (srI_s fi c63 hR0) _ (Ag.wr (Ag.wr hA2 rfl) rfl) ?_ (fun j h1 h2 => ?_))
                      · show upd (τ2 77) (τ1 74 (nI i).toInt.toNat).toInt.toNat 0 = _
                        rw [h772]
                        show upd (upd (τ1 77) (τ1 74 (nI i).toInt.toNat).toInt.toNat 1) (τ1 74 (nI i).toInt.toNat).toInt.toNat 0 = _
                        rw [← h771]
                        exact upd2 hz
                      · show upd (τ2 72) (nI L.length).toInt.toNat (nI i) j = _
                        rw [eL2]
                        by_cases q : j = L.length
                        · rw [q, pk_us, srB_pre _ _ _ hR0 L.length (by rw [List.length_cons]; omega), atR_top]
                        · rw [pk_un q]
                          exact hrd j (by rw [List.length_cons]; omega) h2
                  · refine ⟨fun _ => ?_, fun z => absurd (by decide) z⟩
                    have hg := hp (σ 74 i).toInt.toNat (by omega)
                    rw [f74, h771] at c132
                    have nf : ¬ fitP (σ 73) (σ 74) f k L i := fun z => by
                      rcases hg with ⟨g1, _⟩ | ⟨_, j, g2, g3⟩
                      · rw [g1] at c132; exact c132 rfl
                      · exact z.2.2 j g2 (by omega)
                    have ih1 := ih (i + 1) τ1 (.int (τ1 74 (nI i).toInt.toNat)) (by omega) hA1 h771 (fun z => hN (by rw [srI_n nf]; exact z)) (fun R z => hS R (by rw [srI_n nf]; exact z))
                    rw [← nI_1] at ih1
                    exact ih1
              · refine ⟨fun _ => ?_, fun z => absurd (by decide) z⟩
                exact absurd c58 c116
            · replace c63 := bI_nz c63
              refine ⟨fun c69 => ?_, fun c69 => ?_⟩
              · refine ⟨_, _, rfl, ⟨by omega, by omega⟩, ?_⟩
                refine ⟨_, _, rfl, ⟨by omega, by omega⟩, ?_⟩
                refine ⟨fun c95 => ?_, fun c95 => ?_⟩
                · refine ⟨fun z => absurd z (by decide), fun _ => ?_⟩
                  refine ⟨_, rfl, ⟨by omega, by omega⟩, ?_⟩
                  rw [f73] at c58
                  rw [f74] at c69
                  have c95 := lgc_gt c95
                  rw [f75, f76] at c95
                  have fi : fitP (σ 73) (σ 74) f k L i := ⟨c58, ⟨fun _ => c69, fun _ => c63⟩, fun j hj z => hf0 j hj (by rw [z, c69])⟩
                  refine fin _ _ _ (hS (i :: L) (srI_h fi c63 c95) _ (Ag.wr hA1 rfl) h771 (fun j h1 h2 => ?_))
                  have ej : j = L.length := by omega
                  rw [ej, atR_top]
                  show upd (τ1 72) (nI L.length).toInt.toNat (nI i) L.length = _
                  rw [eL2]
                  exact pk_us
                · refine ⟨fun _ => ?_, fun z => absurd (by decide) z⟩
                  rw [f73] at c58
                  rw [f74] at c69
                  have c95 := lgc_le c95
                  rw [f75, f76] at c95
                  have fi : fitP (σ 73) (σ 74) f k L i := ⟨c58, ⟨fun _ => c69, fun _ => c63⟩, fun j hj z => hf0 j hj (by rw [z, c69])⟩
                  have ih1 := ih (i + 1) τ1 (.int (τ1 74 (nI i).toInt.toNat)) (by omega) hA1 h771 (fun z => hN (by rw [srI_hn fi c63 (show ¬ (prA (σ 76) (i :: L)).toInt < (prA (σ 75) (i :: L)).toInt from Int.not_lt.mpr c95)]; exact z)) (fun R z => hS R (by rw [srI_hn fi c63 (show ¬ (prA (σ 76) (i :: L)).toInt < (prA (σ 75) (i :: L)).toInt from Int.not_lt.mpr c95)]; exact z))
                  rw [← nI_1] at ih1
                  exact ih1
              · refine ⟨fun _ => ?_, fun z => absurd (by decide) z⟩
                rw [f74] at c69
                have nf : ¬ fitP (σ 73) (σ 74) f k L i := fun z => c69 (z.2.1.mp c63)
                have ih1 := ih (i + 1) τ1 (.int (τ1 74 (nI i).toInt.toNat)) (by omega) hA1 h771 (fun z => hN (by rw [srI_n nf]; exact z)) (fun R z => hS R (by rw [srI_n nf]; exact z))
                rw [← nI_1] at ih1
                exact ih1
          · refine ⟨_, _, rfl, ⟨by omega, by omega⟩, ?_⟩
            refine ⟨fun c116 => ?_, fun c116 => ?_⟩
            · exact absurd c116 c58
            · refine ⟨fun _ => ?_, fun z => absurd (by decide) z⟩
              rw [f73] at c58
              have nf : ¬ fitP (σ 73) (σ 74) f k L i := fun z => c58 z.1
              have ih1 := ih (i + 1) τ1 (.int (τ1 74 (nI i).toInt.toNat)) (by omega) hA1 h771 (fun z => hN (by rw [srI_n nf]; exact z)) (fun R z => hS R (by rw [srI_n nf]; exact z))
              rw [← nI_1] at ih1
              exact ih1
        · refine ⟨rfl, Or.inl rfl, ?_⟩
          exfalso; omega
      · refine ⟨rfl, Or.inl rfl, ?_⟩
        exfalso; omega
  refine go [21] 30 hX ?_
  refine ⟨fun c5 => ?_, fun c5 => ?_⟩
  · have hk : k = 0 := by rw [nI_1, nIt (by omega)] at c5; omega
    have h0 := loop M 0 τ .null (Nat.zero_add _) hA rfl hN hS
    rw [bI_p hk] at h0
    exact h0
  · have hk : ¬ k = 0 := by rw [nI_1, nIt (by omega)] at c5; omega
    have h0 := loop M 0 τ .null (Nat.zero_add _) hA rfl hN hS
    rw [bI_n hk] at h0
    exact h0
theorem goes_all {σ : Mm} {n M : Nat} {f : Int32} (hM : (σ 71 0).toInt = M) (hM2 : M ≤ 16) (hr : ∀ i : Nat, i < M → (0 ≤ (σ 73 i).toInt ∧ (σ 73 i).toInt ≤ 5) ∧ (0 ≤ (σ 74 i).toInt ∧ (σ 74 i).toInt ≤ 5)) (hn : n ≤ 6) : ∀ k, GoS σ n M f k
  | 0 => go_step hM hM2 hr hn (fun k' h => by omega)
  | k + 1 => go_step hM hM2 hr hn (fun k' h => by
    have e : k = k' := by omega
    rw [← e]
    exact goes_all hM hM2 hr hn k)
