theorem le_1 {b : Nat → Int32} {n B N : Nat} {P5 P0 : Pst → Bool × Pst} {st : Pst} (a : (tokC b st.1).toInt = 258) : leF b n P5 P0 B N st = (true, adS b n (st.1, st.2.1 + 1, (nvF b st.1.2.1 (st.1.2.2 - st.1.2.1), 1, nvF b st.1.2.1 (st.1.2.2 - st.1.2.1)) :: st.2.2)) := if_pos a
theorem le_2 {b : Nat → Int32} {n B N : Nat} {P5 P0 : Pst → Bool × Pst} {st : Pst} (a : (tokC b st.1).toInt = 259) : leF b n P5 P0 B N st = (true, adS b n (st.1, st.2.1 + 1, (-1 - nmIx (b st.1.2.1), 2, b st.1.2.1 &&& 255) :: st.2.2)) := (if_neg (by omega)).trans (if_pos a)
theorem le_3 {b : Nat → Int32} {n B N : Nat} {P5 P0 : Pst → Bool × Pst} {st : Pst} (a : (tokC b st.1).toInt = 33) (hN : N < 8) (h : (P5 (adS b n st)).1 = true) : leF b n P5 P0 B N st = (true, puS (-15, 33, 0) (P5 (adS b n st)).2) := (if_neg (by omega)).trans ((if_neg (by omega)).trans ((if_pos a).trans ((if_pos hN).trans (if_pos h))))
theorem le_3n {b : Nat → Int32} {n B N : Nat} {P5 P0 : Pst → Bool × Pst} {st : Pst} (a : (tokC b st.1).toInt = 33) (hN : N < 8) (h : ¬ (P5 (adS b n st)).1 = true) : leF b n P5 P0 B N st = (false, (P5 (adS b n st)).2) := (if_neg (by omega)).trans ((if_neg (by omega)).trans ((if_pos a).trans ((if_pos hN).trans (if_neg h))))
theorem le_3x {b : Nat → Int32} {n B N : Nat} {P5 P0 : Pst → Bool × Pst} {st : Pst} (a : (tokC b st.1).toInt = 33) (hN : ¬ N < 8) : leF b n P5 P0 B N st = (false, st) := (if_neg (by omega)).trans ((if_neg (by omega)).trans ((if_pos a).trans (if_neg hN)))
theorem le_4 {b : Nat → Int32} {n B N : Nat} {P5 P0 : Pst → Bool × Pst} {st : Pst} (a : (tokC b st.1).toInt = 40) (hN : B < 8) (h : (P0 (adS b n st)).1 = true ∧ (tokC b (P0 (adS b n st)).2.1).toInt = 41) : leF b n P5 P0 B N st = (true, adS b n (P0 (adS b n st)).2) := (if_neg (by omega)).trans ((if_neg (by omega)).trans ((if_neg (by omega)).trans ((if_pos a).trans ((if_pos hN).trans (if_pos h)))))
theorem le_4n {b : Nat → Int32} {n B N : Nat} {P5 P0 : Pst → Bool × Pst} {st : Pst} (a : (tokC b st.1).toInt = 40) (hN : B < 8) (h : ¬ ((P0 (adS b n st)).1 = true ∧ (tokC b (P0 (adS b n st)).2.1).toInt = 41)) : leF b n P5 P0 B N st = (false, (P0 (adS b n st)).2) := (if_neg (by omega)).trans ((if_neg (by omega)).trans ((if_neg (by omega)).trans ((if_pos a).trans ((if_pos hN).trans (if_neg h)))))
theorem le_4x {b : Nat → Int32} {n B N : Nat} {P5 P0 : Pst → Bool × Pst} {st : Pst} (a : (tokC b st.1).toInt = 40) (hN : ¬ B < 8) : leF b n P5 P0 B N st = (false, st) := (if_neg (by omega)).trans ((if_neg (by omega)).trans ((if_neg (by omega)).trans ((if_pos a).trans (if_neg hN))))
theorem le_5 {b : Nat → Int32} {n B N : Nat} {P5 P0 : Pst → Bool × Pst} {st : Pst} (h1 : ¬ (tokC b st.1).toInt = 258) (h2 : ¬ (tokC b st.1).toInt = 259) (h3 : ¬ (tokC b st.1).toInt = 33) (h4 : ¬ (tokC b st.1).toInt = 40) : leF b n P5 P0 B N st = (false, st) := (if_neg h1).trans ((if_neg h2).trans ((if_neg h3).trans (if_neg h4)))
set_option maxHeartbeats 4000000 in
theorem le_step {f : Nat} {b : Nat → Int32} {n : Nat} {g0 : Nat → Int32} {c0 : Nat} {σ : Mm} (hb : ∀ i, i < 96 → -128 ≤ (b i).toInt ∧ (b i).toInt < 128) (hs : σ 30 = b) (hn : n ≤ 96) (hLe : LeC b n g0 c0 σ f) (hLv : LvC b n g0 c0 σ f) : LeC b n g0 c0 σ (f + 1) := by
  intro B N hM hB hN d τ Q st ht hc h h1 h2
  have htb := tk_b hb hn ht
  have hs1 := ht.1
  have hs2 := ht.2.1
  refine Call_st 100 fun X hX => ?_
  refine ⟨fun c4_0 => ?_, fun c4_0 => ?_⟩
  · refine ⟨fun c78 => ?_, fun c78 => ?_⟩
    · have q4 : (tokC b st.1).toInt = (τ 31 7).toInt := by rw [h.2.2.1.2.2.1]
      have hk3 := (tok_sg (b := b) (t := st.1) (by omega)).1
      have hN8 : N < 8 := by rw [h.2.2.2.2.2.2.2.2, nIt (by omega)] at c78; simp only [Int32.reduceToInt] at c78; omega
      refine ⟨rfl, rfl, ?_⟩
      refine rd_not (d := d) (f := f) hLe hs hn hB hN8 (by unfold Ms at *; omega) ht hk3 hc h (fun h82a h82b h82c => ?_) (fun h82a h82b h82c => ?_)
      · refine ⟨fun z => absurd z (by decide), fun _ => ?_⟩
        refine ⟨rfl, Or.inr rfl, ?_⟩
        have q4 : (tokC b st.1).toInt = (τ 31 7).toInt := by rw [h.2.2.1.2.2.1]
        have eP : (prF b n (f + 1) 5 B N st) = _ := (pr_5 (Nat.le_refl 5)).trans (le_3 (by omega) hN8 h82a)
        have hz : (prF b n (f + 1) 5 B N st).1 = true := by rw [eP]
        exact h1 hz _ (by rw [eP]; exact h82c) (pr_grd hb hn (f + 1) 5 B N st ht hz)
      · refine ⟨fun _ => ?_, fun z => absurd (by decide) z⟩
        refine ⟨rfl, Or.inl rfl, ?_⟩
        have q4 : (tokC b st.1).toInt = (τ 31 7).toInt := by rw [h.2.2.1.2.2.1]
        have eP : (prF b n (f + 1) 5 B N st) = _ := (pr_5 (Nat.le_refl 5)).trans (le_3n (by omega) hN8 h82a)
        exact h2 (by rw [eP]; exact Bool.false_ne_true) _ (by rw [eP]; exact h82c)
    · refine ⟨rfl, Or.inl rfl, ?_⟩
      have q4 : (tokC b st.1).toInt = (τ 31 7).toInt := by rw [h.2.2.1.2.2.1]
      have eP : (prF b n (f + 1) 5 B N st) = _ := (pr_5 (Nat.le_refl 5)).trans (le_3x (by omega) (by rw [h.2.2.2.2.2.2.2.2, nIt (by omega)] at c78; simp only [Int32.reduceToInt] at c78; omega))
      exact h2 (by rw [eP]; exact Bool.false_ne_true) _ (by rw [eP]; exact (crc_fl (st := st) h (by omega)))
  refine ⟨fun c4_1 => ?_, fun c4_1 => ?_⟩
  · refine ⟨fun c100 => ?_, fun c100 => ?_⟩
    · have q4 : (tokC b st.1).toInt = (τ 31 7).toInt := by rw [h.2.2.1.2.2.1]
      have hk3 := (tok_sg (b := b) (t := st.1) (by omega)).1
      have hB8 : B < 8 := by rw [h.2.2.2.2.2.2.2.1, nIt (by omega)] at c100; simp only [Int32.reduceToInt] at c100; omega
      refine ⟨rfl, rfl, ?_⟩
      refine rd_bra (d := d) (f := f) hLv hs hn hB8 hN (by unfold Ms at *; omega) ht hk3 hc h (fun h104a h104b h104c => ?_) (fun h104a h104b h104c => ?_)
      · refine ⟨fun z => absurd z (by decide), fun _ => ?_⟩
        refine ⟨rfl, Or.inr rfl, ?_⟩
        have q4 : (tokC b st.1).toInt = (τ 31 7).toInt := by rw [h.2.2.1.2.2.1]
        have eP : (prF b n (f + 1) 5 B N st) = _ := (pr_5 (Nat.le_refl 5)).trans (le_4 (by omega) hB8 h104a)
        have hz : (prF b n (f + 1) 5 B N st).1 = true := by rw [eP]
        exact h1 hz _ (by rw [eP]; exact h104c) (pr_grd hb hn (f + 1) 5 B N st ht hz)
      · refine ⟨fun _ => ?_, fun z => absurd (by decide) z⟩
        refine ⟨rfl, Or.inl rfl, ?_⟩
        have q4 : (tokC b st.1).toInt = (τ 31 7).toInt := by rw [h.2.2.1.2.2.1]
        have eP : (prF b n (f + 1) 5 B N st) = _ := (pr_5 (Nat.le_refl 5)).trans (le_4n (by omega) hB8 h104a)
        exact h2 (by rw [eP]; exact Bool.false_ne_true) _ (by rw [eP]; exact h104c)
    · refine ⟨rfl, Or.inl rfl, ?_⟩
      have q4 : (tokC b st.1).toInt = (τ 31 7).toInt := by rw [h.2.2.1.2.2.1]
      have eP : (prF b n (f + 1) 5 B N st) = _ := (pr_5 (Nat.le_refl 5)).trans (le_4x (by omega) (by rw [h.2.2.2.2.2.2.2.1, nIt (by omega)] at c100; simp only [Int32.reduceToInt] at c100; omega))
      exact h2 (by rw [eP]; exact Bool.false_ne_true) _ (by rw [eP]; exact (crc_fl (st := st) h (by omega)))
  refine ⟨fun c4_2 => ?_, fun c4_2 => ?_⟩
  · have q4 : (tokC b st.1).toInt = (τ 31 7).toInt := by rw [h.2.2.1.2.2.1]
    have hk2 := tok_258 ht.2.2.2.1 htb (by omega)
    have hse := ht.2.2.1 (by omega)
    have hsn := ht.2.1
    refine ⟨rfl, rfl, ?_⟩
    refine s_emitS (y := (nvF b st.1.2.1 (st.1.2.2 - st.1.2.1), 1, nvF b st.1.2.1 (st.1.2.2 - st.1.2.1))) (st := (st.1, st.2.1 + 1, st.2.2)) (h.2.2.1.2.2.2.2.1 hk2) (by show c0 + st.2.2.length < 96; omega) (crc_w h) (fun h63a h63b => ?_)
    refine ⟨rfl, rfl, ?_⟩
    refine s_advS (st := puS _ (st.1, st.2.1 + 1, st.2.2)) hs hn ht (by show st.1.1 ≠ 4; omega) h63b (fun h67a h67b => ?_)
    refine ⟨rfl, Or.inr rfl, ?_⟩
    have q4 : (tokC b st.1).toInt = (τ 31 7).toInt := by rw [h.2.2.1.2.2.1]
    have eP : (prF b n (f + 1) 5 B N st) = _ := (pr_5 (Nat.le_refl 5)).trans (le_1 (by omega))
    have hz : (prF b n (f + 1) 5 B N st).1 = true := by rw [eP]
    exact h1 hz _ (by rw [eP]; exact h67b) (pr_grd hb hn (f + 1) 5 B N st ht hz)
  refine ⟨fun c4_3 => ?_, fun c4_3 => ?_⟩
  · have q4 : (tokC b st.1).toInt = (τ 31 7).toInt := by rw [h.2.2.1.2.2.1]
    have hk1 := tok_259 ht.2.2.2.1 htb (by omega)
    have hse := ht.2.2.1 (by omega)
    have hsn := ht.2.1
    refine ⟨rfl, rfl, ?_⟩
    refine s_emitS (y := (-1 - nmIx (b st.1.2.1), 2, b st.1.2.1 &&& 255)) (st := (st.1, st.2.1 + 1, st.2.2)) (h.2.2.1.2.2.2.2.2 hk1.1 hk1.2) (by show c0 + st.2.2.length < 96; omega) (crc_w h) (fun h63a h63b => ?_)
    refine ⟨rfl, rfl, ?_⟩
    refine s_advS (st := puS _ (st.1, st.2.1 + 1, st.2.2)) hs hn ht (by show st.1.1 ≠ 4; omega) h63b (fun h67a h67b => ?_)
    refine ⟨rfl, Or.inr rfl, ?_⟩
    have q4 : (tokC b st.1).toInt = (τ 31 7).toInt := by rw [h.2.2.1.2.2.1]
    have eP : (prF b n (f + 1) 5 B N st) = _ := (pr_5 (Nat.le_refl 5)).trans (le_2 (by omega))
    have hz : (prF b n (f + 1) 5 B N st).1 = true := by rw [eP]
    exact h1 hz _ (by rw [eP]; exact h67b) (pr_grd hb hn (f + 1) 5 B N st ht hz)
  refine ⟨rfl, Or.inl rfl, ?_⟩
  have q4 : (tokC b st.1).toInt = (τ 31 7).toInt := by rw [h.2.2.1.2.2.1]
  have eP : (prF b n (f + 1) 5 B N st) = _ := (pr_5 (Nat.le_refl 5)).trans (le_5 (by omega) (by omega) (by omega) (by omega))
  exact h2 (by rw [eP]; exact Bool.false_ne_true) _ (by rw [eP]; exact (crc_fl (st := st) h (by omega)))
theorem lvO_le {t : Int32} : lvO t ≤ 5 := by
  unfold lvO
  repeat' split
  all_goals omega
set_option maxHeartbeats 8000000 in
theorem lv_step {f : Nat} {b : Nat → Int32} {n : Nat} {g0 : Nat → Int32} {c0 : Nat} {σ : Mm} (hb : ∀ i, i < 96 → -128 ≤ (b i).toInt ∧ (b i).toInt < 128) (hs : σ 30 = b) (hn : n ≤ 96) (hLv : LvC b n g0 c0 σ f) (hLe : LeC b n g0 c0 σ (f + 1)) : LvC b n g0 c0 σ (f + 1) := by
  intro lvl B N hM hl hB hN d τ Q x st ex ht hc h h1 h2
  subst ex
  have hlv0 : lvl < 5 → ∀ (st : Pst) (τ' : Mm) (Q' : Qt), tkO b n st.1 → c0 + st.2.2.length ≤ st.1.2.1 → CrC b n g0 c0 σ τ' B N st → (((prF b n f (lvl + 1) B N) st).1 = true → ∀ υ, CrC b n g0 c0 σ υ B N ((prF b n f (lvl + 1) B N) st).2 → grd b n st ((prF b n f (lvl + 1) B N) st).2 → Q' (some (.int 1)) υ) → (¬ ((prF b n f (lvl + 1) B N) st).1 = true → ∀ υ, FlC σ υ ((prF b n f (lvl + 1) B N) st).2.1.2.1 → Q' (some (.int 0)) υ) → Call (d + Dc B N + (6 - lvl) + 8) k_X4_readLevel [.ref 31, .int (nI lvl + 1)] τ' Q' := fun hl5 st τ' Q' q0 q1 q2 q3 q4 => Call_ge (a := d + Dc B N + (6 - (lvl + 1)) + 9) (by omega) (hLv (lvl + 1) B N (by unfold Ms at *; omega) (by omega) hB hN d τ' Q' _ st (nI_1 lvl) q0 q1 q2 q3 q4)
  have hlf : lvl = 5 → ∀ (Q' : Qt), ((prF b n (f + 1) 5 B N st).1 = true → ∀ υ, CrC b n g0 c0 σ υ B N (prF b n (f + 1) 5 B N st).2 → grd b n st (prF b n (f + 1) 5 B N st).2 → Q' (some (.int 1)) υ) → (¬ (prF b n (f + 1) 5 B N st).1 = true → ∀ υ, FlC σ υ (prF b n (f + 1) 5 B N st).2.1.2.1 → Q' (some (.int 0)) υ) → Call (d + Dc B N + (6 - lvl) + 8) k_X4_readLeaf [.ref 31] τ Q' := fun e Q' q1 q2 => by
    subst e
    exact Call_ge (a := d + Dc B N + 9) (by omega) (hLe B N hM hB hN d τ Q' st ht hc h q1 q2)
  have el := nIt (n := lvl) (by omega)
  refine Call_go fun X hX => ?_
  have fin0 : ∀ (τ' : Mm) (m i : Int32) (v : Value), Q (some (.int 0)) τ' → X 33 [.ref 31, .int (nI lvl), .int 0, .int m, .int i, v] [] τ' := by
    intro τ' m i v hq
    refine go [] 30 hX ?_
    refine ⟨fun c36 => ?_, fun c36 => ?_⟩
    · refine ⟨fun _ => ?_, fun z => absurd (by decide) z⟩
      refine ⟨rfl, Or.inl rfl, ?_⟩
      exact hq
    · refine ⟨rfl, Or.inl rfl, ?_⟩
      exact hq
  have loop0 : lvl < 5 → ∀ (m : Nat), m ≤ 96 → ∀ (j i : Nat) (τ : Mm) (st : Pst) (v : Value), i + j = m → tkO b n st.1 → c0 + st.2.2.length ≤ st.1.2.1 → CrC b n g0 c0 σ τ B N st → ((lpF b n lvl (prF b n f (lvl + 1) B N) j st).1 = true → ∀ τ', CrC b n g0 c0 σ τ' B N (lpF b n lvl (prF b n f (lvl + 1) B N) j st).2 → Q (some (.int 1)) τ') → (¬ (lpF b n lvl (prF b n f (lvl + 1) B N) j st).1 = true → ∀ τ', FlC σ τ' (lpF b n lvl (prF b n f (lvl + 1) B N) j st).2.1.2.1 → Q (some (.int 0)) τ') → X 33 [.ref 31, .int (nI lvl), .int 1, .int (nI m), .int (nI i), v] [] τ := by
    intro hl5 m hm j
    have hlv := hlv0 hl5
    have em := nIt (n := m) (by omega)
    induction j with
    | zero =>
      intro i τ st v hi ht hc h h1 h2
      have ei := nIt (n := i) (by omega)
      refine go [33] 40 hX ?_
      refine ⟨fun c36 => ?_, fun c36 => ?_⟩
      · exfalso; rw [ei, em] at c36; omega
      · refine ⟨rfl, Or.inr rfl, ?_⟩
        exact h1 rfl τ h
    | succ j ih =>
      intro i τ st v hi ht hc h h1 h2
      have ei := nIt (n := i) (by omega)
      refine go [33] 80 hX ?_
      refine ⟨fun c36 => ?_, fun c36 => ?_⟩
      · refine ⟨fun z => absurd z (by decide), fun _ => ?_⟩
        refine ⟨rfl, ?_⟩
        refine s_lvOf ?_
        refine ⟨fun c51 => ?_, fun c51 => ?_⟩
        · rw [h.2.2.1.2.2.1, nIt (by have := lvO_le (t := tokC b st.1); omega), nIt (by omega)] at c51
          have hlo : lvO (tokC b st.1) = lvl := by omega
          have hk3 := (tok_sg (b := b) (t := st.1) (lvO_lt (by omega))).1
          have hse := ht.2.2.1 (by omega)
          have hnx := nx_ok (b := b) (n := n) ht
          have hle : c0 + (adS b n st).2.2.length ≤ (adS b n st).1.2.1 := by show c0 + st.2.2.length ≤ (nxT b n st.1).2.1; omega
          have hstrict : grd b n (adS b n st) ((prF b n f (lvl + 1) B N) (adS b n st)).2 → c0 + ((prF b n f (lvl + 1) B N) (adS b n st)).2.2.2.length < ((prF b n f (lvl + 1) B N) (adS b n st)).2.1.2.1 := fun hg => by
            obtain ⟨q1, q2, nw, q3, q4, _⟩ := hg
            have q4 : nw.length + (nxT b n st.1).2.1 ≤ ((prF b n f (lvl + 1) B N) (adS b n st)).2.1.2.1 := q4
            rw [q3, List.length_append]
            show c0 + (nw.length + st.2.2.length) < _
            omega
          refine ⟨rfl, ?_⟩
          refine s_wkOf ?_
          refine ⟨rfl, rfl, ?_⟩
          refine s_advS (st := st) hs hn ht (by omega) h (fun h64a h64b => ?_)
          refine ⟨rfl, rfl, ?_⟩
          refine hlv (adS b n st) h64a _ hnx.1 hle h64b (fun h71a h71b h71c h71d => ?_) (fun h71a h71b h71c => ?_)
          · have hlt : c0 + ((prF b n f (lvl + 1) B N) (adS b n st)).2.2.2.length < 96 := by
              obtain ⟨q1, q2, nw, q3, q4, _⟩ := h71d
              have q4 : nw.length + (nxT b n st.1).2.1 ≤ ((prF b n f (lvl + 1) B N) (adS b n st)).2.1.2.1 := q4
              have q5 := q1.1
              have q6 := q1.2.1
              rw [q3, List.length_append]
              show c0 + (nw.length + st.2.2.length) < 96
              omega
            refine ⟨rfl, rfl, ?_⟩
            refine s_emitS (y := opS b st.1) (congrArg wkO h.2.2.1.2.2.1) hlt h71c (fun h78a h78b => ?_)
            have e1 : (lpF b n lvl (prF b n f (lvl + 1) B N) (j + 1) st) = (lpF b n lvl (prF b n f (lvl + 1) B N) j (puS (opS b st.1) ((prF b n f (lvl + 1) B N) (adS b n st)).2)) := (if_pos hlo).trans (if_pos h71a)
            rw [e1] at h1 h2
            have gl := grd_len h71d hle
            have ih1 := ih (i + 1) h78a (puS (opS b st.1) ((prF b n f (lvl + 1) B N) (adS b n st)).2) (.int (wkO (τ 31 7))) (by omega) h71d.1 (by show c0 + (((prF b n f (lvl + 1) B N) (adS b n st)).2.2.2.length + 1) ≤ ((prF b n f (lvl + 1) B N) (adS b n st)).2.1.2.1; have q := hstrict h71d; omega) h78b h1 h2
            rw [← nI_1] at ih1
            exact ih1
          · refine ⟨rfl, rfl, ?_⟩
            refine s_emitF h71c (fun h78a h78b h78c => ?_)
            have e1 : (lpF b n lvl (prF b n f (lvl + 1) B N) (j + 1) st) = (false, ((prF b n f (lvl + 1) B N) (adS b n st)).2) := (if_pos hlo).trans (if_neg h71a)
            exact fin0 _ _ _ _ (h2 (by rw [e1]; exact Bool.false_ne_true) _ (by rw [e1]; exact h78b))
        · refine ⟨rfl, Or.inr rfl, ?_⟩
          rw [h.2.2.1.2.2.1, nIt (by have := lvO_le (t := tokC b st.1); omega), nIt (by omega)] at c51
          have e1 : (lpF b n lvl (prF b n f (lvl + 1) B N) (j + 1) st) = (true, st) := if_neg (by omega)
          rw [e1] at h1
          exact h1 rfl τ h
      · refine ⟨rfl, Or.inr rfl, ?_⟩
        exfalso; rw [ei, em] at c36; omega
  refine go [33] 60 hX ?_
  refine ⟨fun c2 => ?_, fun c2 => ?_⟩
  · have hl5 : lvl < 5 := by simp only [Int32.reduceToInt] at c2; rw [nIt (by omega)] at c2; omega
    have hlv := hlv0 hl5
    refine ⟨rfl, rfl, ?_⟩
    refine hlv st τ _ ht hc h (fun h14a h14b h14c h14d => ?_) (fun h14a h14b h14c => ?_)
    · refine ⟨fun c20 => ?_, fun c20 => ?_⟩
      · have eP : (prF b n (f + 1) lvl B N st) = _ := pr_y (by omega) h14a
        have gl := grd_len h14d hc
        have hl2 : lvl = 2 := by rw [nIt (by omega)] at c20; simp only [Int32.reduceToInt] at c20; omega
        rw [if_pos hl2] at eP
        rw [eP] at h1 h2
        exact loop0 hl5 1 (by decide) 1 0 h14b ((prF b n f (lvl + 1) B N) st).2 .null (Nat.zero_add _) h14d.1 gl h14c (fun z τ' q => h1 z τ' q (by
          have hz : (prF b n (f + 1) lvl B N st).1 = true := by rw [eP]; exact z
          have hg := pr_grd hb hn (f + 1) lvl B N st ht hz
          rw [eP] at hg
          exact hg)) h2
      · have eP : (prF b n (f + 1) lvl B N st) = _ := pr_y (by omega) h14a
        have gl := grd_len h14d hc
        have hl2 : ¬ lvl = 2 := by rw [nIt (by omega)] at c20; simp only [Int32.reduceToInt] at c20; omega
        rw [if_neg hl2] at eP
        rw [eP] at h1 h2
        exact loop0 hl5 96 (by decide) 96 0 h14b ((prF b n f (lvl + 1) B N) st).2 .null (Nat.zero_add _) h14d.1 gl h14c (fun z τ' q => h1 z τ' q (by
          have hz : (prF b n (f + 1) lvl B N st).1 = true := by rw [eP]; exact z
          have hg := pr_grd hb hn (f + 1) lvl B N st ht hz
          rw [eP] at hg
          exact hg)) h2
    · refine ⟨fun c20 => ?_, fun c20 => ?_⟩
      · have eP : (prF b n (f + 1) lvl B N st) = _ := pr_n (by omega) h14a
        exact fin0 _ _ _ _ (h2 (by rw [eP]; exact Bool.false_ne_true) _ (by rw [eP]; exact h14c))
      · have eP : (prF b n (f + 1) lvl B N st) = _ := pr_n (by omega) h14a
        exact fin0 _ _ _ _ (h2 (by rw [eP]; exact Bool.false_ne_true) _ (by rw [eP]; exact h14c))
  · refine ⟨rfl, rfl, ?_⟩
    refine hlf (by simp only [Int32.reduceToInt] at c2; rw [nIt (by omega)] at c2; omega) _ (fun h6a h6b h6c h6d => ?_) (fun h6a h6b h6c => ?_)
    · refine ⟨rfl, Or.inr rfl, ?_⟩
      have h5 : lvl = 5 := by simp only [Int32.reduceToInt] at c2; rw [nIt (by omega)] at c2; omega
      subst h5
      exact h1 h6a _ h6c h6d
    · refine ⟨rfl, Or.inl rfl, ?_⟩
      have h5 : lvl = 5 := by simp only [Int32.reduceToInt] at c2; rw [nIt (by omega)] at c2; omega
      subst h5
      exact h2 h6a _ h6c
theorem lc_all {b : Nat → Int32} {n : Nat} {g0 : Nat → Int32} {c0 : Nat} {σ : Mm} (hb : ∀ i, i < 96 → -128 ≤ (b i).toInt ∧ (b i).toInt < 128) (hs : σ 30 = b) (hn : n ≤ 96) : ∀ f, LeC b n g0 c0 σ f ∧ LvC b n g0 c0 σ f
  | 0 => ⟨fun B N hM => by unfold Ms at hM; omega, fun l B N hM => by unfold Ms at hM; omega⟩
  | f + 1 => by
    have ih := lc_all (b := b) (n := n) (g0 := g0) (c0 := c0) (σ := σ) hb hs hn f
    have h1 := le_step hb hs hn ih.1 ih.2
    exact ⟨h1, lv_step hb hs hn ih.2 h1⟩
