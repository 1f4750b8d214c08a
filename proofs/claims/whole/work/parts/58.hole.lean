theorem arrAt {g : Nat → Int32} : ∀ (L : List Nat), arr g L → ∀ j, j < L.length → g j = nI (atR L j)
  | [], _, j, h => (Nat.not_lt_zero j h).elim
  | x :: l, ha, j, h => by
    by_cases q : j = l.length
    · rw [q, atR_top]; exact ha.1
    · have h : j < l.length + 1 := h
      rw [atR_low (by omega)]
      exact arrAt l ha.2 j (by omega)
def prN (P : Nat → Int32) (g : Nat → Nat) : Nat → Int64
  | 0 => 1
  | n + 1 => prN P g n * (P (g n)).toInt64
theorem prN_cong {P : Nat → Int32} {g g' : Nat → Nat} : ∀ n, (∀ j, j < n → g' j = g j) → prN P g' n = prN P g n
  | 0, _ => rfl
  | n + 1, h => by
    unfold prN
    rw [prN_cong n (fun j hj => h j (Nat.lt_succ_of_lt hj)), h n (Nat.lt_succ_self n)]
theorem prA_N {P : Nat → Int32} : ∀ L : List Nat, prA P L = prN P (atR L) L.length
  | [] => rfl
  | x :: l => by
    show prA P l * (P x).toInt64 = prN P (atR (x :: l)) l.length * (P (atR (x :: l) l.length)).toInt64
    rw [atR_top, prA_N l, prN_cong l.length (fun j hj => atR_low hj)]
theorem fmA_at {T : Nat → Int32} {f : Int32} : ∀ {L : List Nat}, ¬ L.length = 0 → fmA T f L = T (atR L (L.length - 1))
  | [], h => absurd rfl h
  | x :: l, _ => by
    show T x = T (atR (x :: l) (l.length + 1 - 1))
    rw [Nat.add_sub_cancel, atR_top]
theorem fmA_0 {T : Nat → Int32} {f : Int32} : ∀ {L : List Nat}, L.length = 0 → fmA T f L = f
  | [], _ => rfl
  | _ :: _, h => absurd h (by rw [List.length_cons]; omega)
set_option maxHeartbeats 4000000 in
theorem m_fits {d : Nat} {τ : Mm} {Q : Qt} {f : Int32} {n k i : Nat} {L : List Nat} (hn : L.length + k + 1 = n) (hn6 : n ≤ 6) (hL : arr (τ 135) L) (hx : τ 135 L.length = nI i) (hi16 : i < 16) (hLm : ∀ j, j < L.length → atR L j < 16) (hQ : Q (some (.int (bI (fitP (τ 131) (τ 132) f k L i)))) τ) : Call (d + 1) k_X12_fits [.ref 88, .int f, .int (nI L.length), .int (nI n)] τ Q := by
  refine Call_go fun X hX => ?_
  have eL1 := nIt (n := L.length) (by omega)
  have eL2 := nIn (i := L.length) (by omega)
  have ei1 := nIt (n := i) (by omega)
  have ei2 := nIn (i := i) (by omega)
  have en := nIt (n := n) (by omega)
  have en1 : (nI n - 1).toInt = (n : Int) - 1 := by rw [sub1 (by omega), en]
  have ef : τ 131 (τ 135 (nI L.length).toInt.toNat).toInt.toNat = τ 131 i := by rw [eL2, hx, ei2]
  have et : τ 132 (τ 135 (nI L.length).toInt.toNat).toInt.toNat = τ 132 i := by rw [eL2, hx, ei2]
  have loop : ∀ (kk q : Nat), q + kk = L.length → X 92 [.ref 88, .int f, .int (nI L.length), .int (nI n), .int (τ 135 (nI L.length).toInt.toNat), .int (bI (((τ 131 i).toInt = (fmA (τ 132) f L).toInt ∧ (k = 0 ↔ (τ 132 i).toInt = f.toInt)) ∧ (∀ j, j < q → ¬ (τ 132 (atR L j)).toInt = (τ 132 i).toInt))), .int (nI q)] [] τ := by
    intro kk
    induction kk with
    | zero =>
      intro q hi
      rw [Nat.add_zero] at hi
      subst hi
      refine go [92] 100 hX ?_
      refine ⟨fun c95 => ?_, fun c95 => ?_⟩
      · exfalso; omega
      · refine ⟨rfl, isb_bI, ?_⟩
        exact bI_e hQ ⟨fun z => ⟨⟨z.1, z.2.1⟩, z.2.2⟩, fun z => ⟨z.1.1, z.1.2, z.2⟩⟩
    | succ kk ih =>
      intro q hi
      have e1 := nIt (n := q) (by omega)
      have e2 := nIn (i := q) (by omega)
      have hq16 := hLm q (by omega)
      have eqi := nIt (n := atR L q) (by omega)
      have eq0 : τ 135 (nI q).toInt.toNat = nI (atR L q) := by rw [e2]; exact arrAt L hL q (by omega)
      have eq1 : τ 132 (τ 135 (nI q).toInt.toNat).toInt.toNat = τ 132 (atR L q) := by rw [eq0, nIn (by omega)]
      refine go [92] 100 hX ?_
      refine ⟨fun c95 => ?_, fun c95 => ?_⟩
      · refine ⟨fun c100 => ?_, fun c100 => ?_⟩
        · replace c100 := bI_z c100
          have ih1 := ih (q + 1) (by omega)
          rw [bI_n (fun z => c100 ⟨z.1, fun j hj => z.2 j (by omega)⟩), ← nI_1] at ih1
          exact ih1
        · replace c100 := bI_nz c100
          refine ⟨_, _, rfl, ⟨by omega, by omega⟩, ?_⟩
          refine ⟨_, _, rfl, (by rw [eq0]; exact ⟨by omega, by omega⟩), ?_⟩
          refine ⟨_, _, rfl, (by rw [eL2, hx]; exact ⟨by omega, by omega⟩), ?_⟩
          refine ⟨fun c122 => ?_, fun c122 => ?_⟩
          · have ih1 := ih (q + 1) (by omega)
            rw [eq1, et] at c122
            rw [bI_n (fun z => z.2 q (by omega) c122), ← nI_1] at ih1
            exact ih1
          · have ih1 := ih (q + 1) (by omega)
            rw [eq1, et] at c122
            rw [bI_p (show ((τ 131 i).toInt = (fmA (τ 132) f L).toInt ∧ (k = 0 ↔ (τ 132 i).toInt = f.toInt)) ∧ (∀ j, j < q + 1 → ¬ (τ 132 (atR L j)).toInt = (τ 132 i).toInt) from ⟨c100.1, fun j hj => by
              by_cases r : j = q
              · rw [r]; exact c122
              · exact c100.2 j (by omega)⟩), ← nI_1] at ih1
            exact ih1
      · refine ⟨rfl, isb_bI, ?_⟩
        exfalso; omega
  refine go [92] 100 hX ?_
  refine ⟨_, _, rfl, ⟨by omega, by omega⟩, ?_⟩
  refine ⟨_, _, rfl, (by rw [eL2, hx]; exact ⟨by omega, by omega⟩), ?_⟩
  refine ⟨fun c16 => ?_, fun c16 => ?_⟩
  · refine ⟨fun c36 => ?_, fun c36 => ?_⟩
    · refine ⟨fun z => absurd z (by decide), fun _ => ?_⟩
      refine ⟨fun c55 => ?_, fun c55 => ?_⟩
      · refine ⟨_, _, rfl, (by rw [eL2, hx]; exact ⟨by omega, by omega⟩), ?_⟩
        refine ⟨fun c71 => ?_, fun c71 => ?_⟩
        · refine ⟨fun _ => ?_, fun z => absurd (by decide) z⟩
          rw [ef, ← fmA_0 (T := τ 132) (f := f) (by omega : L.length = 0)] at c36
          rw [et] at c71
          rw [en1] at c55
          have h0 := loop L.length 0 (Nat.zero_add _)
          rw [bI_p (show ((τ 131 i).toInt = (fmA (τ 132) f L).toInt ∧ (k = 0 ↔ (τ 132 i).toInt = f.toInt)) ∧ (∀ j, j < 0 → ¬ (τ 132 (atR L j)).toInt = (τ 132 i).toInt) from ⟨⟨c36, ⟨fun _ => c71, fun _ => by omega⟩⟩, fun j hj => by omega⟩)] at h0
          exact h0
        · refine ⟨fun z => absurd z (by decide), fun _ => ?_⟩
          rw [ef, ← fmA_0 (T := τ 132) (f := f) (by omega : L.length = 0)] at c36
          rw [et] at c71
          rw [en1] at c55
          have h0 := loop L.length 0 (Nat.zero_add _)
          rw [bI_n (show ¬ (((τ 131 i).toInt = (fmA (τ 132) f L).toInt ∧ (k = 0 ↔ (τ 132 i).toInt = f.toInt)) ∧ (∀ j, j < 0 → ¬ (τ 132 (atR L j)).toInt = (τ 132 i).toInt)) from fun z => c71 (z.1.2.mp (by omega)))] at h0
          exact h0
      · refine ⟨_, _, rfl, (by rw [eL2, hx]; exact ⟨by omega, by omega⟩), ?_⟩
        refine ⟨fun c71 => ?_, fun c71 => ?_⟩
        · refine ⟨fun z => absurd z (by decide), fun _ => ?_⟩
          rw [ef, ← fmA_0 (T := τ 132) (f := f) (by omega : L.length = 0)] at c36
          rw [et] at c71
          rw [en1] at c55
          have h0 := loop L.length 0 (Nat.zero_add _)
          rw [bI_n (show ¬ (((τ 131 i).toInt = (fmA (τ 132) f L).toInt ∧ (k = 0 ↔ (τ 132 i).toInt = f.toInt)) ∧ (∀ j, j < 0 → ¬ (τ 132 (atR L j)).toInt = (τ 132 i).toInt)) from fun z => absurd (z.1.2.mpr c71) (by omega))] at h0
          exact h0
        · refine ⟨fun _ => ?_, fun z => absurd (by decide) z⟩
          rw [ef, ← fmA_0 (T := τ 132) (f := f) (by omega : L.length = 0)] at c36
          rw [et] at c71
          rw [en1] at c55
          have h0 := loop L.length 0 (Nat.zero_add _)
          rw [bI_p (show ((τ 131 i).toInt = (fmA (τ 132) f L).toInt ∧ (k = 0 ↔ (τ 132 i).toInt = f.toInt)) ∧ (∀ j, j < 0 → ¬ (τ 132 (atR L j)).toInt = (τ 132 i).toInt) from ⟨⟨c36, ⟨fun z => absurd z (by omega), fun z => absurd z c71⟩⟩, fun j hj => by omega⟩)] at h0
          exact h0
    · refine ⟨fun _ => ?_, fun z => absurd (by decide) z⟩
      rw [ef, ← fmA_0 (T := τ 132) (f := f) (by omega : L.length = 0)] at c36
      have h0 := loop L.length 0 (Nat.zero_add _)
      rw [bI_n (show ¬ (((τ 131 i).toInt = (fmA (τ 132) f L).toInt ∧ (k = 0 ↔ (τ 132 i).toInt = f.toInt)) ∧ (∀ j, j < 0 → ¬ (τ 132 (atR L j)).toInt = (τ 132 i).toInt)) from fun z => c36 z.1.1)] at h0
      exact h0
  · obtain ⟨em1, em2⟩ : (nI L.length - 1).toInt = ((L.length - 1 : Nat) : Int) ∧ (nI L.length - 1).toInt.toNat = L.length - 1 := by
      have := sub1 (x := nI L.length) (by omega)
      omega
    have eprv : τ 135 (nI L.length - 1).toInt.toNat = nI (atR L (L.length - 1)) := by rw [em2]; exact arrAt L hL _ (by omega)
    have hpr := hLm (L.length - 1) (by omega)
    have epi := nIt (n := atR L (L.length - 1)) (by omega)
    have eprev : τ 132 (τ 135 (nI L.length - 1).toInt.toNat).toInt.toNat = fmA (τ 132) f L := by rw [eprv, nIn (by omega)]; exact (fmA_at (by omega)).symm
    refine ⟨_, _, rfl, ⟨by omega, by omega⟩, ?_⟩
    refine ⟨_, _, rfl, (by rw [eprv]; exact ⟨by omega, by omega⟩), ?_⟩
    refine ⟨fun c36 => ?_, fun c36 => ?_⟩
    · refine ⟨fun z => absurd z (by decide), fun _ => ?_⟩
      refine ⟨fun c55 => ?_, fun c55 => ?_⟩
      · refine ⟨_, _, rfl, (by rw [eL2, hx]; exact ⟨by omega, by omega⟩), ?_⟩
        refine ⟨fun c71 => ?_, fun c71 => ?_⟩
        · refine ⟨fun _ => ?_, fun z => absurd (by decide) z⟩
          rw [ef, eprev] at c36
          rw [et] at c71
          rw [en1] at c55
          have h0 := loop L.length 0 (Nat.zero_add _)
          rw [bI_p (show ((τ 131 i).toInt = (fmA (τ 132) f L).toInt ∧ (k = 0 ↔ (τ 132 i).toInt = f.toInt)) ∧ (∀ j, j < 0 → ¬ (τ 132 (atR L j)).toInt = (τ 132 i).toInt) from ⟨⟨c36, ⟨fun _ => c71, fun _ => by omega⟩⟩, fun j hj => by omega⟩)] at h0
          exact h0
        · refine ⟨fun z => absurd z (by decide), fun _ => ?_⟩
          rw [ef, eprev] at c36
          rw [et] at c71
          rw [en1] at c55
          have h0 := loop L.length 0 (Nat.zero_add _)
          rw [bI_n (show ¬ (((τ 131 i).toInt = (fmA (τ 132) f L).toInt ∧ (k = 0 ↔ (τ 132 i).toInt = f.toInt)) ∧ (∀ j, j < 0 → ¬ (τ 132 (atR L j)).toInt = (τ 132 i).toInt)) from fun z => c71 (z.1.2.mp (by omega)))] at h0
          exact h0
      · refine ⟨_, _, rfl, (by rw [eL2, hx]; exact ⟨by omega, by omega⟩), ?_⟩
        refine ⟨fun c71 => ?_, fun c71 => ?_⟩
        · refine ⟨fun z => absurd z (by decide), fun _ => ?_⟩
          rw [ef, eprev] at c36
          rw [et] at c71
          rw [en1] at c55
          have h0 := loop L.length 0 (Nat.zero_add _)
          rw [bI_n (show ¬ (((τ 131 i).toInt = (fmA (τ 132) f L).toInt ∧ (k = 0 ↔ (τ 132 i).toInt = f.toInt)) ∧ (∀ j, j < 0 → ¬ (τ 132 (atR L j)).toInt = (τ 132 i).toInt)) from fun z => absurd (z.1.2.mpr c71) (by omega))] at h0
          exact h0
        · refine ⟨fun _ => ?_, fun z => absurd (by decide) z⟩
          rw [ef, eprev] at c36
          rw [et] at c71
          rw [en1] at c55
          have h0 := loop L.length 0 (Nat.zero_add _)
          rw [bI_p (show ((τ 131 i).toInt = (fmA (τ 132) f L).toInt ∧ (k = 0 ↔ (τ 132 i).toInt = f.toInt)) ∧ (∀ j, j < 0 → ¬ (τ 132 (atR L j)).toInt = (τ 132 i).toInt) from ⟨⟨c36, ⟨fun z => absurd z (by omega), fun z => absurd z c71⟩⟩, fun j hj => by omega⟩)] at h0
          exact h0
    · refine ⟨fun _ => ?_, fun z => absurd (by decide) z⟩
      rw [ef, eprev] at c36
      have h0 := loop L.length 0 (Nat.zero_add _)
      rw [bI_n (show ¬ (((τ 131 i).toInt = (fmA (τ 132) f L).toInt ∧ (k = 0 ↔ (τ 132 i).toInt = f.toInt)) ∧ (∀ j, j < 0 → ¬ (τ 132 (atR L j)).toInt = (τ 132 i).toInt)) from fun z => c36 z.1.1)] at h0
      exact h0
theorem m_isHole {d : Nat} {τ : Mm} {Q : Qt} {R : List Nat} (hn6 : R.length ≤ 6) (hR : arr (τ 135) R) (hRm : ∀ j, j < R.length → atR R j < 16) (hQ : Q (some (.int (bI ((prA (τ 134) R).toInt < (prA (τ 133) R).toInt)))) τ) : Call (d + 1) k_X12_isHole [.ref 88, .int (nI R.length)] τ Q := by
  refine Call_go fun X hX => ?_
  have eR := nIt (n := R.length) (by omega)
  have loop : ∀ (kk q : Nat), q + kk = R.length → X 8 [.ref 88, .int (nI R.length), .long (prN (τ 133) (atR R) q), .null, .long (prN (τ 134) (atR R) q), .null, .int (nI q)] [] τ := by
    intro kk
    induction kk with
    | zero =>
      intro q hi
      rw [Nat.add_zero] at hi
      subst hi
      refine go [8] 100 hX ?_
      refine ⟨fun c11 => ?_, fun c11 => ?_⟩
      · exfalso; omega
      · refine ⟨fun c58 => ?_, fun c58 => ?_⟩
        · refine ⟨rfl, Or.inr rfl, ?_⟩
          rw [← prA_N, ← prA_N] at c58
          exact bI_t hQ (lgc_gt c58)
        · refine ⟨rfl, Or.inl rfl, ?_⟩
          rw [← prA_N, ← prA_N] at c58
          exact bI_f hQ (Int.not_lt.mpr (lgc_le c58))
    | succ kk ih =>
      intro q hi
      have e1 := nIt (n := q) (by omega)
      have e2 := nIn (i := q) (by omega)
      have hq16 := hRm q (by omega)
      have eqi := nIt (n := atR R q) (by omega)
      have eq0 : τ 135 (nI q).toInt.toNat = nI (atR R q) := by rw [e2]; exact arrAt R hR q (by omega)
      have ep : τ 133 (τ 135 (nI q).toInt.toNat).toInt.toNat = τ 133 (atR R q) := by rw [eq0, nIn (by omega)]
      have eq' : τ 134 (τ 135 (nI q).toInt.toNat).toInt.toNat = τ 134 (atR R q) := by rw [eq0, nIn (by omega)]
      refine go [8] 100 hX ?_
      refine ⟨fun c11 => ?_, fun c11 => ?_⟩
      · refine ⟨_, _, rfl, ⟨by omega, by omega⟩, ?_⟩
        refine ⟨_, _, rfl, (by rw [eq0]; exact ⟨by omega, by omega⟩), ?_⟩
        refine ⟨_, _, rfl, ⟨by omega, by omega⟩, ?_⟩
        refine ⟨_, _, rfl, (by rw [eq0]; exact ⟨by omega, by omega⟩), ?_⟩
        have ih1 := ih (q + 1) (by omega)
        unfold prN at ih1
        rw [← ep, ← eq', ← nI_1] at ih1
        exact ih1
      · exfalso; omega
  refine go [8] 20 hX ?_
  exact loop R.length 0 (Nat.zero_add _)
theorem m_isHoleN {d : Nat} {τ : Mm} {Q : Qt} {R : List Nat} {n : Nat} (hRn : R.length = n) (hn6 : R.length ≤ 6) (hR : arr (τ 135) R) (hRm : ∀ j, j < R.length → atR R j < 16) (hQ : Q (some (.int (bI ((prA (τ 134) R).toInt < (prA (τ 133) R).toInt)))) τ) : Call (d + 1) k_X12_isHole [.ref 88, .int (nI n)] τ Q := by
  subst hRn
  exact m_isHole hn6 hR hRm hQ
def RfS (σ : Mm) (n M : Nat) (f : Int32) (X : Kt) (Q : Qt) (k : Nat) : Prop := ∀ L : List Nat, L.length + k + 1 = n → (∀ j, j < L.length → atR L j < M) → ∀ (j i : Nat) (τ : Mm), i + j = M → Ag [135] σ τ → arr (τ 135) L → τ 135 L.length = nI i - 1 → (∀ R, srI (σ 131) (σ 132) (σ 133) (σ 134) f k (srB (σ 131) (σ 132) (σ 133) (σ 134) f M k) L i j = some R → ∀ τ', Ag [135] σ τ' → arr (τ' 135) R → Q (some (.int 1)) τ') → (srI (σ 131) (σ 132) (σ 133) (σ 134) f k (srB (σ 131) (σ 132) (σ 133) (σ 134) f M k) L i j = none → ∀ τ', Ag [135] σ τ' → arr (τ' 135) L → X 9 [.ref 88, .int f, .int (nI n), .int (nI L.length - 1)] [] τ') → X 9 [.ref 88, .int f, .int (nI n), .int (nI L.length)] [] τ
set_option maxHeartbeats 4000000 in
theorem rf_step {d : Nat} {σ : Mm} {n M : Nat} {f : Int32} {X : Kt} {Q : Qt} (hX : Clo (Call (d + 1)) none (mR k_X12_findsHole) (mE k_X12_findsHole) Q X) (hM : (σ 88 65).toInt = M) (hM2 : M ≤ 16) (hn6 : n ≤ 6) {k : Nat} (ih0 : ∀ k', k = k' + 1 → RfS σ n M f X Q k') : RfS σ n M f X Q k := by
  intro L hn hLm j
  have eL1 := nIt (n := L.length) (by omega)
  have eL2 := nIn (i := L.length) (by omega)
  have en := nIt (n := n) (by omega)
  have en1 : (nI n - 1).toInt = (n : Int) - 1 := by rw [sub1 (by omega), en]
  induction j with
  | zero =>
    intro i τ hi hA hL ht hS hN
    refine go [9] 100 hX ?_
    refine ⟨fun c10 => ?_, fun c10 => ?_⟩
    · exfalso; omega
    · refine ⟨_, _, rfl, ⟨by omega, by omega⟩, ?_⟩
      refine ⟨_, rfl, ⟨by omega, by omega⟩, ?_⟩
      generalize hτ1 : wr τ 135 (nI L.length).toInt.toNat (τ 135 (nI L.length).toInt.toNat + 1) = τ1
      have e135 : τ1 135 = upd (τ 135) L.length (nI i) := by
        rw [← hτ1, wr_k, eL2, ht, Int32.sub_add_cancel]
      have hA1 : Ag [135] σ τ1 := by rw [← hτ1]; exact Ag.wr hA rfl
      have hx1 : τ1 135 L.length = nI i := by rw [e135]; exact pk_us
      have hx2 : τ1 135 (nI L.length).toInt.toNat = nI i := by rw [eL2]; exact hx1
      have hL1 : arr (τ1 135) L := by rw [e135]; exact arr_cong L (fun j hj => pk_un (by omega)) hL
      have q65 : (τ1 88 65).toInt = M := by rw [hA1 88 rfl, hM]
      have e1 := nIt (n := i) (by omega)
      refine ⟨_, _, rfl, ⟨by omega, by omega⟩, ?_⟩
      refine ⟨fun c33 => ?_, fun c33 => ?_⟩
      · exfalso; rw [hx2] at c33; omega
      · have h0 := hN rfl τ1 hA1 hL1
        rw [Int32.sub_eq_add_neg] at h0
        exact h0
  | succ j ih =>
    intro i τ hi hA hL ht hS hN
    refine go [9] 100 hX ?_
    refine ⟨fun c10 => ?_, fun c10 => ?_⟩
    · refine ⟨rfl, Or.inl rfl, ?_⟩
      exfalso; omega
    · refine ⟨_, _, rfl, ⟨by omega, by omega⟩, ?_⟩
      refine ⟨_, rfl, ⟨by omega, by omega⟩, ?_⟩
      generalize hτ1 : wr τ 135 (nI L.length).toInt.toNat (τ 135 (nI L.length).toInt.toNat + 1) = τ1
      have e135 : τ1 135 = upd (τ 135) L.length (nI i) := by
        rw [← hτ1, wr_k, eL2, ht, Int32.sub_add_cancel]
      have hA1 : Ag [135] σ τ1 := by rw [← hτ1]; exact Ag.wr hA rfl
      have hx1 : τ1 135 L.length = nI i := by rw [e135]; exact pk_us
      have hx2 : τ1 135 (nI L.length).toInt.toNat = nI i := by rw [eL2]; exact hx1
      have hL1 : arr (τ1 135) L := by rw [e135]; exact arr_cong L (fun j hj => pk_un (by omega)) hL
      have q65 : (τ1 88 65).toInt = M := by rw [hA1 88 rfl, hM]
      have e1 := nIt (n := i) (by omega)
      refine ⟨_, _, rfl, ⟨by omega, by omega⟩, ?_⟩
      refine ⟨fun c33 => ?_, fun c33 => ?_⟩
      · have f131 : τ1 131 = σ 131 := hA1 131 rfl
        have f132 : τ1 132 = σ 132 := hA1 132 rfl
        have f133 : τ1 133 = σ 133 := hA1 133 rfl
        have f134 : τ1 134 = σ 134 := hA1 134 rfl
        rw [hx2] at c33
        refine ⟨rfl, rfl, ?_⟩
        refine m_fits (k := k) (i := i) hn hn6 hL1 hx1 (by omega) (fun q hq => by have := hLm q hq; omega) ?_
        refine ⟨fun c49 => ?_, fun c49 => ?_⟩
        · replace c49 := bI_z c49
          rw [f131, f132] at c49
          have ih1 := ih (i + 1) τ1 (by omega) hA1 hL1 (by rw [hx1, nI_pred]) (fun R z => hS R (by rw [srI_n c49]; exact z)) (fun z => hN (by rw [srI_n c49]; exact z))
          exact ih1
        · replace c49 := bI_nz c49
          refine ⟨fun c59 => ?_, fun c59 => ?_⟩
          · refine ⟨rfl, rfl, ?_⟩
            refine m_isHoleN (R := i :: L) (by rw [List.length_cons]; rw [en1] at c59; omega) (by rw [List.length_cons]; omega) ⟨hx1, hL1⟩ (fun q hq => ?_) ?_
            · rw [List.length_cons] at hq
              by_cases r : q = L.length
              · rw [r, atR_top]; omega
              · rw [atR_low (by omega)]; have := hLm q (by omega); omega
            refine ⟨fun c67 => ?_, fun c67 => ?_⟩
            · replace c67 := bI_z c67
              have hk : k = 0 := by rw [en1] at c59; omega
              rw [f131, f132] at c49
              rw [f133, f134] at c67
              have ih1 := ih (i + 1) τ1 (by omega) hA1 hL1 (by rw [hx1, nI_pred]) (fun R z => hS R (by rw [srI_hn c49 hk c67]; exact z)) (fun z => hN (by rw [srI_hn c49 hk c67]; exact z))
              exact ih1
            · replace c67 := bI_nz c67
              refine ⟨rfl, Or.inr rfl, ?_⟩
              have hk : k = 0 := by rw [en1] at c59; omega
              rw [f131, f132] at c49
              rw [f133, f134] at c67
              exact hS (i :: L) (srI_h c49 hk c67) τ1 hA1 ⟨hx1, hL1⟩
          · refine ⟨_, rfl, (by rw [nI_1]; exact ⟨by rw [nIt (by omega)]; omega, by rw [nIt (by omega)]; have hk : ¬ k = 0 := (by rw [en1] at c59; omega); omega⟩), ?_⟩
            have hk : ¬ k = 0 := by rw [en1] at c59; omega
            rw [f131, f132] at c49
            obtain ⟨k', rfl⟩ : ∃ k', k = k' + 1 := ⟨k - 1, by omega⟩
            have e9 : (nI L.length + 1).toInt.toNat = L.length + 1 := by rw [nI_1]; exact nIn (by omega)
            refine (fun h0 => ?_) (ih0 k' rfl (i :: L) (by rw [List.length_cons]; omega) (fun q hq => by
              rw [List.length_cons] at hq
              by_cases r : q = L.length
              · rw [r, atR_top]; omega
              · rw [atR_low (by omega)]; exact hLm q (by omega)) M 0 (wr τ1 135 (nI L.length + 1).toInt.toNat (-1)) (Nat.zero_add _) (Ag.wr hA1 rfl) ?_ ?_ (fun R z => hS R (srI_s c49 hk z)) (fun z τ' hA' hL' => ?_))
            · rw [List.length_cons, ← nI_1] at h0
              exact h0
            · rw [wr_k, e9]
              exact ⟨(pk_un (by omega)).trans hx1, arr_cong L (fun q hq => pk_un (by omega)) hL1⟩
            · rw [wr_k, e9, List.length_cons]
              exact pk_us
            · rw [List.length_cons, nI_pred]
              exact ih (i + 1) τ' (by omega) hA' hL'.2 (by rw [nI_pred]; exact hL'.1) (fun R z' => hS R (by rw [srI_sn c49 hk z]; exact z')) (fun z' => hN (by rw [srI_sn c49 hk z]; exact z'))
      · rw [hx2] at c33
        exfalso; omega
theorem rf_all {d : Nat} {σ : Mm} {n M : Nat} {f : Int32} {X : Kt} {Q : Qt} (hX : Clo (Call (d + 1)) none (mR k_X12_findsHole) (mE k_X12_findsHole) Q X) (hM : (σ 88 65).toInt = M) (hM2 : M ≤ 16) (hn6 : n ≤ 6) : ∀ k, RfS σ n M f X Q k
  | 0 => rf_step hX hM hM2 hn6 (fun k' h => by omega)
  | k + 1 => rf_step hX hM hM2 hn6 (fun k' h => by
    have e : k = k' := by omega
    rw [← e]
    exact rf_all hX hM hM2 hn6 k)
theorem m_finds {d : Nat} {σ : Mm} {Q : Qt} {n M : Nat} {f : Int32} (hM : (σ 88 65).toInt = M) (hM2 : M ≤ 16) (hn6 : n ≤ 6) (hn0 : 0 < n) (hS : ∀ R, srB (σ 131) (σ 132) (σ 133) (σ 134) f M n [] = some R → ∀ τ', Ag [135] σ τ' → arr (τ' 135) R → Q (some (.int 1)) τ') (hN : srB (σ 131) (σ 132) (σ 133) (σ 134) f M n [] = none → ∀ τ', Ag [135] σ τ' → Q (some (.int 0)) τ') : Call (d + 2) k_X12_findsHole [.ref 88, .int f, .int (nI n)] σ Q := by
  refine Call_go fun X hX => ?_
  obtain ⟨k, rfl⟩ : ∃ k, n = k + 1 := ⟨n - 1, by omega⟩
  refine go [9] 20 hX ?_
  refine ⟨_, rfl, ⟨by decide, by decide⟩, ?_⟩
  refine rf_all (n := k + 1) hX hM hM2 hn6 k [] (by show 0 + k + 1 = k + 1; omega) (fun j hj => (Nat.not_lt_zero j hj).elim) M 0 (wr σ 135 0 (-1)) (Nat.zero_add _) (Ag.wr Ag.rf rfl) True.intro rfl hS (fun z τ' hA' _ => ?_)
  refine go [] 20 hX ?_
  refine ⟨fun c10 => ?_, fun c10 => ?_⟩
  · refine ⟨rfl, Or.inl rfl, ?_⟩
    exact hN z τ' hA'
  · exfalso; exact c10 (by decide)
