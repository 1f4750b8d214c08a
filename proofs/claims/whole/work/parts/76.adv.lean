def TkC (b : Nat → Int32) (ρ : Mm) (t : Tk) : Prop := ρ 31 3 = nI t.2.1 ∧ ρ 31 8 = nI t.2.2 ∧ ρ 31 7 = tokC b t ∧ (t.1 ≠ 4 → ρ 31 10 = bI (t.1 = 1 ∨ t.1 = 2)) ∧ (t.1 = 2 → ρ 31 9 = nvF b t.2.1 (t.2.2 - t.2.1)) ∧ (t.1 = 1 → nmP b t.2.1 t.2.2 → ρ 31 9 = -1 - nmIx (b t.2.1))
theorem lx_0 {b : Nat → Int32} {n p : Nat} {w : Prop} [Decidable w] (h : n ≤ rnB (blB b) (n - p) p) : lxF b n p w = (0, rnB (blB b) (n - p) p, n) := if_pos h
theorem lx_l {b : Nat → Int32} {n p : Nat} {w : Prop} [Decidable w] (h : ¬ n ≤ rnB (blB b) (n - p) p) (hl : ltP (b (rnB (blB b) (n - p) p))) : lxF b n p w = (if w ∧ rnB (blB b) (n - p) p = p then 4 else 1, rnB (blB b) (n - p) p, rnB (ltB b) (n - (rnB (blB b) (n - p) p + 1)) (rnB (blB b) (n - p) p + 1)) := (if_neg h).trans (if_pos hl)
theorem lx_d {b : Nat → Int32} {n p : Nat} {w : Prop} [Decidable w] (h : ¬ n ≤ rnB (blB b) (n - p) p) (hl : ¬ ltP (b (rnB (blB b) (n - p) p))) (hd : dgP (b (rnB (blB b) (n - p) p))) : lxF b n p w = (if (w ∧ rnB (blB b) (n - p) p = p) ∨ 4 < rnB (dgB b) (n - (rnB (blB b) (n - p) p + 1)) (rnB (blB b) (n - p) p + 1) - rnB (blB b) (n - p) p then 4 else 2, rnB (blB b) (n - p) p, rnB (dgB b) (n - (rnB (blB b) (n - p) p + 1)) (rnB (blB b) (n - p) p + 1)) := (if_neg h).trans ((if_neg hl).trans (if_pos hd))
theorem lx_s {b : Nat → Int32} {n p : Nat} {w : Prop} [Decidable w] (h : ¬ n ≤ rnB (blB b) (n - p) p) (hl : ¬ ltP (b (rnB (blB b) (n - p) p))) (hd : ¬ dgP (b (rnB (blB b) (n - p) p))) : lxF b n p w = (3, rnB (blB b) (n - p) p, rnB (blB b) (n - p) p + 1) := (if_neg h).trans ((if_neg hl).trans (if_neg hd))
theorem mmn_le {x y : Int32} (h : x.toInt ≤ y.toInt) : mmn x y = x := if_neg (fun z => by have := Int32.lt_iff_toInt_lt.mp z; omega)
theorem mmn_gt {x y : Int32} (h : y.toInt < x.toInt) : mmn x y = y := if_pos (Int32.lt_iff_toInt_lt.mpr h)
set_option maxHeartbeats 8000000 in
theorem s_adv {d : Nat} {τ : Mm} {Q : Qt} {n p : Nat} {w : Prop} [Decidable w] (h5 : τ 31 5 = nI n) (h8 : τ 31 8 = nI p) (hw : τ 31 10 = bI w) (hp : p ≤ n) (hn : n ≤ 96) (hQ : ∀ ρ : Mm, A31 [3, 7, 8, 9, 10] τ ρ → TkC (τ 30) ρ (lxF (τ 30) n p w) → Q none ρ) : Call (d + 7) k_X4_advance [.ref 31] τ Q := by
  have en := nIt (n := n) (by omega)
  refine Call_go fun X hX => ?_
  have tail : ∀ ρ : Mm, A31 [3] τ ρ → ρ 31 3 = nI (rnB (blB (τ 30)) (n - p) p) → X 48 [.ref 31, .int (nI p), .null] [] ρ := by
    intro ρ hA hq
    have hSb := rn_b (g := blB (τ 30)) (n - p) p
    have k5 : ρ 31 5 = nI n := (hA.2 5 rfl).trans h5
    have k10 : ρ 31 10 = bI w := (hA.2 10 rfl).trans hw
    have k30 : ρ 30 = τ 30 := hA.1 30 (by decide)
    have es1 := nIt (n := (rnB (blB (τ 30)) (n - p) p)) (by omega)
    have es2 := nIn (i := (rnB (blB (τ 30)) (n - p) p)) (by omega)
    have ep := nIt (n := p) (by omega)
    have es3 : (ρ 31 3 + 1).toInt = (((rnB (blB (τ 30)) (n - p) p) + 1 : Nat) : Int) := by rw [hq, nI_1]; exact nIt (by omega)
    have hM : A31 [3, 7, 8, 9, 10] τ (wr (wr ρ 31 8 (mmn (ρ 31 5) (ρ 31 3 + 1))) 31 10 0) := a31_wr (a31_wr (a31_wk hA rfl) rfl) rfl
    have hstop : (rnB (blB (τ 30)) (n - p) p) < n → mmn (ρ 31 5) (ρ 31 3 + 1) = nI ((rnB (blB (τ 30)) (n - p) p) + 1) := fun z => by
      rw [k5, hq, nI_1]
      by_cases y : (rnB (blB (τ 30)) (n - p) p) + 1 = n
      · rw [show nI n = nI ((rnB (blB (τ 30)) (n - p) p) + 1) from congrArg nI y.symm]; exact mmn_le (Int.le_refl _)
      · exact mmn_gt (by rw [nIt (by omega), nIt (by omega)]; omega)
    refine go [] 150 hX ?_
    refine ⟨fun c52 => ?_, fun c52 => ?_⟩
    · skip
      refine ⟨rfl, ?_⟩
      refine ⟨Or.inl rfl, ?_⟩
      refine ⟨fun c99 => ?_, fun c99 => ?_⟩
      · refine ⟨rfl, rfl, ?_⟩
        refine s_isLet (show 0 ≤ (ρ 31 3).toInt ∧ (ρ 31 3).toInt < 96 by have z : (ρ 31 3).toInt < (ρ 31 5).toInt := c99; rw [k5, hq, es1, en] at z; rw [hq, es1]; omega) ?_
        refine ⟨fun c120 => ?_, fun c120 => ?_⟩
        · replace c120 := bI_z c120
          refine ⟨rfl, rfl, ?_⟩
          refine s_isDig (show 0 ≤ (ρ 31 3).toInt ∧ (ρ 31 3).toInt < 96 by have z : (ρ 31 3).toInt < (ρ 31 5).toInt := c99; rw [k5, hq, es1, en] at z; rw [hq, es1]; omega) ?_
          refine ⟨fun c139 => ?_, fun c139 => ?_⟩
          · replace c139 := bI_z c139
            refine ⟨_, _, rfl, (show ixs (ρ 31 3) 96 from (show 0 ≤ (ρ 31 3).toInt ∧ (ρ 31 3).toInt < 96 by have z : (ρ 31 3).toInt < (ρ 31 5).toInt := c99; rw [k5, hq, es1, en] at z; rw [hq, es1]; omega)), ?_⟩
            refine ⟨rfl, rfl, ?_⟩
            rw [k10] at c52
            have hgl : ¬ (w ∧ (rnB (blB (τ 30)) (n - p) p) = p) := fun z => bI_z c52 z.1
            have c99 : (ρ 31 3).toInt < (ρ 31 5).toInt := c99
            rw [k5, hq, es1, en] at c99
            have hlt : (rnB (blB (τ 30)) (n - p) p) < n := by omega
            have nl : ¬ ltP (τ 30 (rnB (blB (τ 30)) (n - p) p)) := by have z : ¬ ltP (ρ 30 (ρ 31 3).toInt.toNat) := c120; rw [hq, es2, k30] at z; exact z
            have nd : ¬ dgP (τ 30 (rnB (blB (τ 30)) (n - p) p)) := by have z : ¬ dgP (ρ 30 (ρ 31 3).toInt.toNat) := c139; rw [hq, es2, k30] at z; exact z
            have hx := lx_s (b := τ 30) (n := n) (p := p) (w := w) (by omega) nl nd
            refine hQ _ (a31_wr hM rfl) ?_
            rw [hx]
            refine ⟨hq, hstop hlt, ?_, fun _ => rfl, (fun z => by simp at z), (fun z => by simp at z)⟩
            show ρ 30 (ρ 31 3).toInt.toNat &&& 255 = τ 30 (rnB (blB (τ 30)) (n - p) p) &&& 255
            rw [hq, es2, k30]
          · replace c139 := bI_nz c139
            refine ⟨rfl, rfl, ?_⟩
            refine s_takeD (s := (rnB (blB (τ 30)) (n - p) p)) (n := n) hq (hstop (by have z : (ρ 31 3).toInt < (ρ 31 5).toInt := c99; rw [k5, hq, es1, en] at z; omega)) k5 (by have z : (ρ 31 3).toInt < (ρ 31 5).toInt := c99; rw [k5, hq, es1, en] at z; omega) hn (fun h144a h144b h144c h144d h144e h144f => ?_)
            refine ⟨rfl, rfl, ?_⟩
            rw [k10] at c52
            have hgl : ¬ (w ∧ (rnB (blB (τ 30)) (n - p) p) = p) := fun z => bI_z c52 z.1
            have c99 : (ρ 31 3).toInt < (ρ 31 5).toInt := c99
            rw [k5, hq, es1, en] at c99
            have hlt : (rnB (blB (τ 30)) (n - p) p) < n := by omega
            have nl : ¬ ltP (τ 30 (rnB (blB (τ 30)) (n - p) p)) := by have z : ¬ ltP (ρ 30 (ρ 31 3).toInt.toNat) := c120; rw [hq, es2, k30] at z; exact z
            have hdd : dgP (τ 30 (rnB (blB (τ 30)) (n - p) p)) := by have z : dgP (ρ 30 (ρ 31 3).toInt.toNat) := c139; rw [hq, es2, k30] at z; exact z
            have hx := lx_d (b := τ 30) (n := n) (p := p) (w := w) (by omega) nl hdd
            refine hQ h144a (a31_tr hM (a31_wk h144b rfl)) ?_
            rw [hx]
            rw [show (wr (wr ρ 31 8 (mmn (ρ 31 5) (ρ 31 3 + 1))) 31 10 0) 30 = τ 30 from k30] at h144c h144e h144f
            have j3 : h144a 31 3 = nI (rnB (blB (τ 30)) (n - p) p) := (h144b.2 3 rfl).trans hq
            by_cases y : 4 < rnB (dgB (τ 30)) (n - ((rnB (blB (τ 30)) (n - p) p) + 1)) ((rnB (blB (τ 30)) (n - p) p) + 1) - (rnB (blB (τ 30)) (n - p) p)
            · rw [if_pos (Or.inr y)]
              refine ⟨j3, h144c, ?_, fun z => absurd rfl z, (fun z => by simp at z), (fun z => by simp at z)⟩
              rw [h144e, if_neg (fun z => z.2 y)]
              rfl
            · rw [if_neg (fun z => z.elim hgl y)]
              refine ⟨j3, h144c, ?_, fun _ => h144d, fun _ => h144f rfl y, (fun z => by simp at z)⟩
              rw [h144e, if_pos ⟨rfl, y⟩]
              rfl
        · replace c120 := bI_nz c120
          refine ⟨rfl, rfl, ?_⟩
          refine s_takeL (s := (rnB (blB (τ 30)) (n - p) p)) (n := n) hq (hstop (by have z : (ρ 31 3).toInt < (ρ 31 5).toInt := c99; rw [k5, hq, es1, en] at z; omega)) k5 (by have z : (ρ 31 3).toInt < (ρ 31 5).toInt := c99; rw [k5, hq, es1, en] at z; omega) hn (by have z : ltP (ρ 30 (ρ 31 3).toInt.toNat) := c120; rw [hq, es2] at z; exact z) (fun h125a h125b h125c h125d h125e h125f => ?_)
          refine ⟨rfl, rfl, ?_⟩
          rw [k10] at c52
          have hgl : ¬ (w ∧ (rnB (blB (τ 30)) (n - p) p) = p) := fun z => bI_z c52 z.1
          have c99 : (ρ 31 3).toInt < (ρ 31 5).toInt := c99
          rw [k5, hq, es1, en] at c99
          have hlt : (rnB (blB (τ 30)) (n - p) p) < n := by omega
          have hl : ltP (τ 30 (rnB (blB (τ 30)) (n - p) p)) := by have z : ltP (ρ 30 (ρ 31 3).toInt.toNat) := c120; rw [hq, es2, k30] at z; exact z
          have hx := lx_l (b := τ 30) (n := n) (p := p) (w := w) (by omega) hl
          refine hQ h125a (a31_tr hM (a31_wk h125b rfl)) ?_
          rw [hx]
          rw [show (wr (wr ρ 31 8 (mmn (ρ 31 5) (ρ 31 3 + 1))) 31 10 0) 30 = τ 30 from k30] at h125c h125e h125f
          have j3 : h125a 31 3 = nI (rnB (blB (τ 30)) (n - p) p) := (h125b.2 3 rfl).trans hq
          rw [if_neg hgl]
          refine ⟨j3, h125c, ?_, fun _ => h125d, (fun z => by simp at z), fun _ z => h125f rfl z⟩
          rw [h125e]
          rfl
      · refine ⟨rfl, rfl, ?_⟩
        rw [k10] at c52
        have hgl : ¬ (w ∧ (rnB (blB (τ 30)) (n - p) p) = p) := fun z => bI_z c52 z.1
        have c99 : ¬ (ρ 31 3).toInt < (ρ 31 5).toInt := c99
        rw [k5, hq, es1, en] at c99
        have hx := lx_0 (b := τ 30) (n := n) (p := p) (w := w) (by omega)
        refine hQ _ (a31_wr hM rfl) ?_
        rw [hx]
        refine ⟨hq, ?_, rfl, fun _ => rfl, (fun z => by simp at z), (fun z => by simp at z)⟩
        show mmn (ρ 31 5) (ρ 31 3 + 1) = nI n
        rw [k5]
        exact mmn_le (by rw [en, es3]; omega)
    · refine ⟨fun c60 => ?_, fun c60 => ?_⟩
      · skip
        refine ⟨rfl, ?_⟩
        refine ⟨Or.inl rfl, ?_⟩
        refine ⟨fun c99 => ?_, fun c99 => ?_⟩
        · refine ⟨rfl, rfl, ?_⟩
          refine s_isLet (show 0 ≤ (ρ 31 3).toInt ∧ (ρ 31 3).toInt < 96 by have z : (ρ 31 3).toInt < (ρ 31 5).toInt := c99; rw [k5, hq, es1, en] at z; rw [hq, es1]; omega) ?_
          refine ⟨fun c120 => ?_, fun c120 => ?_⟩
          · replace c120 := bI_z c120
            refine ⟨rfl, rfl, ?_⟩
            refine s_isDig (show 0 ≤ (ρ 31 3).toInt ∧ (ρ 31 3).toInt < 96 by have z : (ρ 31 3).toInt < (ρ 31 5).toInt := c99; rw [k5, hq, es1, en] at z; rw [hq, es1]; omega) ?_
            refine ⟨fun c139 => ?_, fun c139 => ?_⟩
            · replace c139 := bI_z c139
              refine ⟨_, _, rfl, (show ixs (ρ 31 3) 96 from (show 0 ≤ (ρ 31 3).toInt ∧ (ρ 31 3).toInt < 96 by have z : (ρ 31 3).toInt < (ρ 31 5).toInt := c99; rw [k5, hq, es1, en] at z; rw [hq, es1]; omega)), ?_⟩
              refine ⟨rfl, rfl, ?_⟩
              rw [k10] at c52
              have hw1 := bI_nz c52
              rw [hq, es1, ep] at c60
              have hgl : w ∧ (rnB (blB (τ 30)) (n - p) p) = p := ⟨hw1, by omega⟩
              have c99 : (ρ 31 3).toInt < (ρ 31 5).toInt := c99
              rw [k5, hq, es1, en] at c99
              have hlt : (rnB (blB (τ 30)) (n - p) p) < n := by omega
              have nl : ¬ ltP (τ 30 (rnB (blB (τ 30)) (n - p) p)) := by have z : ¬ ltP (ρ 30 (ρ 31 3).toInt.toNat) := c120; rw [hq, es2, k30] at z; exact z
              have nd : ¬ dgP (τ 30 (rnB (blB (τ 30)) (n - p) p)) := by have z : ¬ dgP (ρ 30 (ρ 31 3).toInt.toNat) := c139; rw [hq, es2, k30] at z; exact z
              have hx := lx_s (b := τ 30) (n := n) (p := p) (w := w) (by omega) nl nd
              refine hQ _ (a31_wr hM rfl) ?_
              rw [hx]
              refine ⟨hq, hstop hlt, ?_, fun _ => rfl, (fun z => by simp at z), (fun z => by simp at z)⟩
              show ρ 30 (ρ 31 3).toInt.toNat &&& 255 = τ 30 (rnB (blB (τ 30)) (n - p) p) &&& 255
              rw [hq, es2, k30]
            · replace c139 := bI_nz c139
              refine ⟨rfl, rfl, ?_⟩
              refine s_takeD (s := (rnB (blB (τ 30)) (n - p) p)) (n := n) hq (hstop (by have z : (ρ 31 3).toInt < (ρ 31 5).toInt := c99; rw [k5, hq, es1, en] at z; omega)) k5 (by have z : (ρ 31 3).toInt < (ρ 31 5).toInt := c99; rw [k5, hq, es1, en] at z; omega) hn (fun h144a h144b h144c h144d h144e h144f => ?_)
              refine ⟨rfl, rfl, ?_⟩
              rw [k10] at c52
              have hw1 := bI_nz c52
              rw [hq, es1, ep] at c60
              have hgl : w ∧ (rnB (blB (τ 30)) (n - p) p) = p := ⟨hw1, by omega⟩
              have c99 : (ρ 31 3).toInt < (ρ 31 5).toInt := c99
              rw [k5, hq, es1, en] at c99
              have hlt : (rnB (blB (τ 30)) (n - p) p) < n := by omega
              have nl : ¬ ltP (τ 30 (rnB (blB (τ 30)) (n - p) p)) := by have z : ¬ ltP (ρ 30 (ρ 31 3).toInt.toNat) := c120; rw [hq, es2, k30] at z; exact z
              have hdd : dgP (τ 30 (rnB (blB (τ 30)) (n - p) p)) := by have z : dgP (ρ 30 (ρ 31 3).toInt.toNat) := c139; rw [hq, es2, k30] at z; exact z
              have hx := lx_d (b := τ 30) (n := n) (p := p) (w := w) (by omega) nl hdd
              refine hQ h144a (a31_tr hM (a31_wk h144b rfl)) ?_
              rw [hx]
              rw [show (wr (wr ρ 31 8 (mmn (ρ 31 5) (ρ 31 3 + 1))) 31 10 0) 30 = τ 30 from k30] at h144c h144e h144f
              have j3 : h144a 31 3 = nI (rnB (blB (τ 30)) (n - p) p) := (h144b.2 3 rfl).trans hq
              rw [if_pos (Or.inl hgl)]
              refine ⟨j3, h144c, ?_, fun z => absurd rfl z, (fun z => by simp at z), (fun z => by simp at z)⟩
              rw [h144e, if_neg (fun z => absurd z.1 (by decide))]
              rfl
          · replace c120 := bI_nz c120
            refine ⟨rfl, rfl, ?_⟩
            refine s_takeL (s := (rnB (blB (τ 30)) (n - p) p)) (n := n) hq (hstop (by have z : (ρ 31 3).toInt < (ρ 31 5).toInt := c99; rw [k5, hq, es1, en] at z; omega)) k5 (by have z : (ρ 31 3).toInt < (ρ 31 5).toInt := c99; rw [k5, hq, es1, en] at z; omega) hn (by have z : ltP (ρ 30 (ρ 31 3).toInt.toNat) := c120; rw [hq, es2] at z; exact z) (fun h125a h125b h125c h125d h125e h125f => ?_)
            refine ⟨rfl, rfl, ?_⟩
            rw [k10] at c52
            have hw1 := bI_nz c52
            rw [hq, es1, ep] at c60
            have hgl : w ∧ (rnB (blB (τ 30)) (n - p) p) = p := ⟨hw1, by omega⟩
            have c99 : (ρ 31 3).toInt < (ρ 31 5).toInt := c99
            rw [k5, hq, es1, en] at c99
            have hlt : (rnB (blB (τ 30)) (n - p) p) < n := by omega
            have hl : ltP (τ 30 (rnB (blB (τ 30)) (n - p) p)) := by have z : ltP (ρ 30 (ρ 31 3).toInt.toNat) := c120; rw [hq, es2, k30] at z; exact z
            have hx := lx_l (b := τ 30) (n := n) (p := p) (w := w) (by omega) hl
            refine hQ h125a (a31_tr hM (a31_wk h125b rfl)) ?_
            rw [hx]
            rw [show (wr (wr ρ 31 8 (mmn (ρ 31 5) (ρ 31 3 + 1))) 31 10 0) 30 = τ 30 from k30] at h125c h125e h125f
            have j3 : h125a 31 3 = nI (rnB (blB (τ 30)) (n - p) p) := (h125b.2 3 rfl).trans hq
            rw [if_pos hgl]
            refine ⟨j3, h125c, ?_, fun z => absurd rfl z, (fun z => by simp at z), (fun z => by simp at z)⟩
            rw [h125e]
            rfl
        · refine ⟨rfl, rfl, ?_⟩
          rw [k10] at c52
          have hw1 := bI_nz c52
          rw [hq, es1, ep] at c60
          have hgl : w ∧ (rnB (blB (τ 30)) (n - p) p) = p := ⟨hw1, by omega⟩
          have c99 : ¬ (ρ 31 3).toInt < (ρ 31 5).toInt := c99
          rw [k5, hq, es1, en] at c99
          have hx := lx_0 (b := τ 30) (n := n) (p := p) (w := w) (by omega)
          refine hQ _ (a31_wr hM rfl) ?_
          rw [hx]
          refine ⟨hq, ?_, rfl, fun _ => rfl, (fun z => by simp at z), (fun z => by simp at z)⟩
          show mmn (ρ 31 5) (ρ 31 3 + 1) = nI n
          rw [k5]
          exact mmn_le (by rw [en, es3]; omega)
      · skip
        refine ⟨rfl, ?_⟩
        refine ⟨Or.inl rfl, ?_⟩
        refine ⟨fun c99 => ?_, fun c99 => ?_⟩
        · refine ⟨rfl, rfl, ?_⟩
          refine s_isLet (show 0 ≤ (ρ 31 3).toInt ∧ (ρ 31 3).toInt < 96 by have z : (ρ 31 3).toInt < (ρ 31 5).toInt := c99; rw [k5, hq, es1, en] at z; rw [hq, es1]; omega) ?_
          refine ⟨fun c120 => ?_, fun c120 => ?_⟩
          · replace c120 := bI_z c120
            refine ⟨rfl, rfl, ?_⟩
            refine s_isDig (show 0 ≤ (ρ 31 3).toInt ∧ (ρ 31 3).toInt < 96 by have z : (ρ 31 3).toInt < (ρ 31 5).toInt := c99; rw [k5, hq, es1, en] at z; rw [hq, es1]; omega) ?_
            refine ⟨fun c139 => ?_, fun c139 => ?_⟩
            · replace c139 := bI_z c139
              refine ⟨_, _, rfl, (show ixs (ρ 31 3) 96 from (show 0 ≤ (ρ 31 3).toInt ∧ (ρ 31 3).toInt < 96 by have z : (ρ 31 3).toInt < (ρ 31 5).toInt := c99; rw [k5, hq, es1, en] at z; rw [hq, es1]; omega)), ?_⟩
              refine ⟨rfl, rfl, ?_⟩
              rw [k10] at c52
              have hw1 := bI_nz c52
              rw [hq, es1, ep] at c60
              have hgl : ¬ (w ∧ (rnB (blB (τ 30)) (n - p) p) = p) := fun z => by have := z.2; omega
              have c99 : (ρ 31 3).toInt < (ρ 31 5).toInt := c99
              rw [k5, hq, es1, en] at c99
              have hlt : (rnB (blB (τ 30)) (n - p) p) < n := by omega
              have nl : ¬ ltP (τ 30 (rnB (blB (τ 30)) (n - p) p)) := by have z : ¬ ltP (ρ 30 (ρ 31 3).toInt.toNat) := c120; rw [hq, es2, k30] at z; exact z
              have nd : ¬ dgP (τ 30 (rnB (blB (τ 30)) (n - p) p)) := by have z : ¬ dgP (ρ 30 (ρ 31 3).toInt.toNat) := c139; rw [hq, es2, k30] at z; exact z
              have hx := lx_s (b := τ 30) (n := n) (p := p) (w := w) (by omega) nl nd
              refine hQ _ (a31_wr hM rfl) ?_
              rw [hx]
              refine ⟨hq, hstop hlt, ?_, fun _ => rfl, (fun z => by simp at z), (fun z => by simp at z)⟩
              show ρ 30 (ρ 31 3).toInt.toNat &&& 255 = τ 30 (rnB (blB (τ 30)) (n - p) p) &&& 255
              rw [hq, es2, k30]
            · replace c139 := bI_nz c139
              refine ⟨rfl, rfl, ?_⟩
              refine s_takeD (s := (rnB (blB (τ 30)) (n - p) p)) (n := n) hq (hstop (by have z : (ρ 31 3).toInt < (ρ 31 5).toInt := c99; rw [k5, hq, es1, en] at z; omega)) k5 (by have z : (ρ 31 3).toInt < (ρ 31 5).toInt := c99; rw [k5, hq, es1, en] at z; omega) hn (fun h144a h144b h144c h144d h144e h144f => ?_)
              refine ⟨rfl, rfl, ?_⟩
              rw [k10] at c52
              have hw1 := bI_nz c52
              rw [hq, es1, ep] at c60
              have hgl : ¬ (w ∧ (rnB (blB (τ 30)) (n - p) p) = p) := fun z => by have := z.2; omega
              have c99 : (ρ 31 3).toInt < (ρ 31 5).toInt := c99
              rw [k5, hq, es1, en] at c99
              have hlt : (rnB (blB (τ 30)) (n - p) p) < n := by omega
              have nl : ¬ ltP (τ 30 (rnB (blB (τ 30)) (n - p) p)) := by have z : ¬ ltP (ρ 30 (ρ 31 3).toInt.toNat) := c120; rw [hq, es2, k30] at z; exact z
              have hdd : dgP (τ 30 (rnB (blB (τ 30)) (n - p) p)) := by have z : dgP (ρ 30 (ρ 31 3).toInt.toNat) := c139; rw [hq, es2, k30] at z; exact z
              have hx := lx_d (b := τ 30) (n := n) (p := p) (w := w) (by omega) nl hdd
              refine hQ h144a (a31_tr hM (a31_wk h144b rfl)) ?_
              rw [hx]
              rw [show (wr (wr ρ 31 8 (mmn (ρ 31 5) (ρ 31 3 + 1))) 31 10 0) 30 = τ 30 from k30] at h144c h144e h144f
              have j3 : h144a 31 3 = nI (rnB (blB (τ 30)) (n - p) p) := (h144b.2 3 rfl).trans hq
              by_cases y : 4 < rnB (dgB (τ 30)) (n - ((rnB (blB (τ 30)) (n - p) p) + 1)) ((rnB (blB (τ 30)) (n - p) p) + 1) - (rnB (blB (τ 30)) (n - p) p)
              · rw [if_pos (Or.inr y)]
                refine ⟨j3, h144c, ?_, fun z => absurd rfl z, (fun z => by simp at z), (fun z => by simp at z)⟩
                rw [h144e, if_neg (fun z => z.2 y)]
                rfl
              · rw [if_neg (fun z => z.elim hgl y)]
                refine ⟨j3, h144c, ?_, fun _ => h144d, fun _ => h144f rfl y, (fun z => by simp at z)⟩
                rw [h144e, if_pos ⟨rfl, y⟩]
                rfl
          · replace c120 := bI_nz c120
            refine ⟨rfl, rfl, ?_⟩
            refine s_takeL (s := (rnB (blB (τ 30)) (n - p) p)) (n := n) hq (hstop (by have z : (ρ 31 3).toInt < (ρ 31 5).toInt := c99; rw [k5, hq, es1, en] at z; omega)) k5 (by have z : (ρ 31 3).toInt < (ρ 31 5).toInt := c99; rw [k5, hq, es1, en] at z; omega) hn (by have z : ltP (ρ 30 (ρ 31 3).toInt.toNat) := c120; rw [hq, es2] at z; exact z) (fun h125a h125b h125c h125d h125e h125f => ?_)
            refine ⟨rfl, rfl, ?_⟩
            rw [k10] at c52
            have hw1 := bI_nz c52
            rw [hq, es1, ep] at c60
            have hgl : ¬ (w ∧ (rnB (blB (τ 30)) (n - p) p) = p) := fun z => by have := z.2; omega
            have c99 : (ρ 31 3).toInt < (ρ 31 5).toInt := c99
            rw [k5, hq, es1, en] at c99
            have hlt : (rnB (blB (τ 30)) (n - p) p) < n := by omega
            have hl : ltP (τ 30 (rnB (blB (τ 30)) (n - p) p)) := by have z : ltP (ρ 30 (ρ 31 3).toInt.toNat) := c120; rw [hq, es2, k30] at z; exact z
            have hx := lx_l (b := τ 30) (n := n) (p := p) (w := w) (by omega) hl
            refine hQ h125a (a31_tr hM (a31_wk h125b rfl)) ?_
            rw [hx]
            rw [show (wr (wr ρ 31 8 (mmn (ρ 31 5) (ρ 31 3 + 1))) 31 10 0) 30 = τ 30 from k30] at h125c h125e h125f
            have j3 : h125a 31 3 = nI (rnB (blB (τ 30)) (n - p) p) := (h125b.2 3 rfl).trans hq
            rw [if_neg hgl]
            refine ⟨j3, h125c, ?_, fun _ => h125d, (fun z => by simp at z), fun _ z => h125f rfl z⟩
            rw [h125e]
            rfl
        · refine ⟨rfl, rfl, ?_⟩
          rw [k10] at c52
          have hw1 := bI_nz c52
          rw [hq, es1, ep] at c60
          have hgl : ¬ (w ∧ (rnB (blB (τ 30)) (n - p) p) = p) := fun z => by have := z.2; omega
          have c99 : ¬ (ρ 31 3).toInt < (ρ 31 5).toInt := c99
          rw [k5, hq, es1, en] at c99
          have hx := lx_0 (b := τ 30) (n := n) (p := p) (w := w) (by omega)
          refine hQ _ (a31_wr hM rfl) ?_
          rw [hx]
          refine ⟨hq, ?_, rfl, fun _ => rfl, (fun z => by simp at z), (fun z => by simp at z)⟩
          show mmn (ρ 31 5) (ρ 31 3 + 1) = nI n
          rw [k5]
          exact mmn_le (by rw [en, es3]; omega)
  have loop : ∀ (f q : Nat) (ρ : Mm), q + f = n → p ≤ q → A31 [3] τ ρ → ρ 31 3 = nI q → rnB (blB (τ 30)) f q = (rnB (blB (τ 30)) (n - p) p) → X 10 [.ref 31, .int (nI p), .null] [] ρ := by
    intro f
    induction f with
    | zero =>
      intro q ρ hi hsq hA hq hE
      have e1 := nIt (n := q) (by omega)
      refine go [10, 48] 40 hX ?_
      refine ⟨fun c18 => ?_, fun c18 => ?_⟩
      · exfalso; rw [hq, hA.2 5 rfl, h5, e1, en] at c18; omega
      · exact tail ρ hA (by rw [hq, ← hE]; rfl)
    | succ f ih =>
      intro q ρ hi hsq hA hq hE
      have e1 := nIt (n := q) (by omega)
      have e2 := nIn (i := q) (by omega)
      refine go [10, 48] 40 hX ?_
      refine ⟨fun c18 => ?_, fun c18 => ?_⟩
      · refine ⟨_, _, rfl, (by rw [hq]; exact ⟨by omega, by omega⟩), ?_⟩
        refine ⟨fun c32 => ?_, fun c32 => ?_⟩
        · rw [hq, e2, hA.1 30 (by decide)] at c32
          have ih1 := ih (q + 1) (wr ρ 31 3 (ρ 31 3 + 1)) (by omega) (by omega) (a31_wr hA rfl) (by show ρ 31 3 + 1 = _; rw [hq, nI_1]) (by rw [← hE, rn_y (blT.mpr c32)])
          exact ih1
        · rw [hq, e2, hA.1 30 (by decide)] at c32
          exact tail ρ hA (by rw [hq, ← hE, rn_n (fun z => c32 (blT.mp z))])
      · exfalso; rw [hq, hA.2 5 rfl, h5, e1, en] at c18; omega
  refine go [10] 20 hX ?_
  have h0 := loop (n - p) p (wr τ 31 3 (nI p)) (by omega) (Nat.le_refl p) (a31_wr a31_rf rfl) rfl rfl
  rw [← h8] at h0
  exact h0
