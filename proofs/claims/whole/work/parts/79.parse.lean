theorem tok_sg {b : Nat → Int32} {t : Tk} (h : (tokC b t).toInt < 256) : t.1 = 3 ∧ tokC b t = b t.2.1 &&& 255 := by
  unfold tokC at *
  by_cases a : t.1 = 0
  · rw [if_pos a] at h; exact absurd h (by decide)
  · rw [if_neg a] at h ⊢
    by_cases c : t.1 = 4
    · rw [if_pos c] at h; exact absurd h (by decide)
    · rw [if_neg c] at h ⊢
      by_cases d : t.1 = 2
      · rw [if_pos d] at h; exact absurd h (by decide)
      · rw [if_neg d] at h ⊢
        by_cases e : t.1 = 3
        · rw [if_pos e]; exact ⟨e, rfl⟩
        · rw [if_neg e] at h
          exfalso
          unfold wdC at h
          split at h
          · exact absurd h (by decide)
          · split at h
            · exact absurd h (by decide)
            · split at h
              · exact absurd h (by decide)
              · split at h <;> exact absurd h (by decide)
theorem lvO_lt {t : Int32} (h : lvO t < 5) : t.toInt < 256 := by
  unfold lvO at h
  repeat' split at h
  all_goals omega
theorem wd_rng {b : Nat → Int32} {s e : Nat} : 257 ≤ (wdC b s e).toInt ∧ (wdC b s e).toInt ≤ 262 ∧ ¬ (wdC b s e).toInt = 258 ∧ ((wdC b s e).toInt = 259 → nmP b s e) := by
  unfold wdC
  by_cases a : nmP b s e
  · rw [if_pos a]; exact ⟨by decide, by decide, by decide, fun _ => a⟩
  · rw [if_neg a]
    split
    · exact ⟨by decide, by decide, by decide, fun z => absurd z (by decide)⟩
    · split
      · exact ⟨by decide, by decide, by decide, fun z => absurd z (by decide)⟩
      · split <;> exact ⟨by decide, by decide, by decide, fun z => absurd z (by decide)⟩
theorem tok_cases {b : Nat → Int32} {t : Tk} (hk : t.1 < 5) (hb : t.1 = 3 → 0 ≤ (b t.2.1 &&& 255).toInt ∧ (b t.2.1 &&& 255).toInt < 256) : (t.1 = 0 ∧ tokC b t = 256) ∨ (t.1 = 4 ∧ tokC b t = 257) ∨ (t.1 = 2 ∧ tokC b t = 258) ∨ (t.1 = 3 ∧ tokC b t = b t.2.1 &&& 255 ∧ (tokC b t).toInt < 256) ∨ (t.1 = 1 ∧ tokC b t = wdC b t.2.1 t.2.2) := by
  unfold tokC
  by_cases a : t.1 = 0
  · rw [if_pos a]; exact Or.inl ⟨a, rfl⟩
  · rw [if_neg a]
    by_cases c : t.1 = 4
    · rw [if_pos c]; exact Or.inr (Or.inl ⟨c, rfl⟩)
    · rw [if_neg c]
      by_cases d : t.1 = 2
      · rw [if_pos d]; exact Or.inr (Or.inr (Or.inl ⟨d, rfl⟩))
      · rw [if_neg d]
        by_cases e : t.1 = 3
        · rw [if_pos e]; exact Or.inr (Or.inr (Or.inr (Or.inl ⟨e, rfl, (hb e).2⟩)))
        · rw [if_neg e]; exact Or.inr (Or.inr (Or.inr (Or.inr ⟨by omega, rfl⟩)))
theorem tok_258 {b : Nat → Int32} {t : Tk} (hk : t.1 < 5) (hb : t.1 = 3 → 0 ≤ (b t.2.1 &&& 255).toInt ∧ (b t.2.1 &&& 255).toInt < 256) (h : (tokC b t).toInt = 258) : t.1 = 2 := by
  rcases tok_cases hk hb with ⟨a, e⟩ | ⟨a, e⟩ | ⟨a, e⟩ | ⟨a, e, f⟩ | ⟨a, e⟩
  · rw [e] at h; exact absurd h (by decide)
  · rw [e] at h; exact absurd h (by decide)
  · exact a
  · omega
  · rw [e] at h; exact absurd h wd_rng.2.2.1
theorem tok_259 {b : Nat → Int32} {t : Tk} (hk : t.1 < 5) (hb : t.1 = 3 → 0 ≤ (b t.2.1 &&& 255).toInt ∧ (b t.2.1 &&& 255).toInt < 256) (h : (tokC b t).toInt = 259) : t.1 = 1 ∧ nmP b t.2.1 t.2.2 := by
  rcases tok_cases hk hb with ⟨a, e⟩ | ⟨a, e⟩ | ⟨a, e⟩ | ⟨a, e, f⟩ | ⟨a, e⟩
  · rw [e] at h; exact absurd h (by decide)
  · rw [e] at h; exact absurd h (by decide)
  · rw [e] at h; exact absurd h (by decide)
  · omega
  · rw [e] at h; exact ⟨a, wd_rng.2.2.2 h⟩
/-- bytes of a token's place -/
theorem tk_b {b : Nat → Int32} {n : Nat} {t : Tk} (hb : ∀ i, i < 96 → -128 ≤ (b i).toInt ∧ (b i).toInt < 128) (hn : n ≤ 96) (h : tkO b n t) : t.1 = 3 → 0 ≤ (b t.2.1 &&& 255).toInt ∧ (b t.2.1 &&& 255).toInt < 256 := fun z => by
  have := h.2.2.1 (by omega)
  have := h.2.1
  exact uNn (hb _ (by omega))
theorem lp_grd {b : Nat → Int32} {n lvl : Nat} {sub : Pst → Bool × Pst} (hl : lvl < 5) (hs : ∀ s1, tkO b n s1.1 → (sub s1).1 = true → grd b n s1 (sub s1).2) {base : Pst} : ∀ (j : Nat) (st : Pst), grd b n base st → (lpF b n lvl sub j st).1 = true → grd b n base (lpF b n lvl sub j st).2
  | 0, st, h, _ => h
  | j + 1, st, h, hr => by
    by_cases a : lvO (tokC b st.1) = lvl
    · have e1 : lpF b n lvl sub (j + 1) st = if (sub (adS b n st)).1 = true then lpF b n lvl sub j (puS (opS b st.1) (sub (adS b n st)).2) else (false, (sub (adS b n st)).2) := if_pos a
      by_cases c : (sub (adS b n st)).1 = true
      · have e2 : lpF b n lvl sub (j + 1) st = lpF b n lvl sub j (puS (opS b st.1) (sub (adS b n st)).2) := by rw [e1, if_pos c]
        rw [e2] at hr ⊢
        obtain ⟨g1, g2, nw, g3, g4, g5, g6⟩ := h
        have hk3 := (tok_sg (b := b) (t := st.1) (lvO_lt (by omega))).1
        have hnx := nx_ok (b := b) (n := n) g1
        have hse := g1.2.2.1 (by omega)
        obtain ⟨k1, k2, nv, k3, k4, k5, k6⟩ := hs (adS b n st) hnx.1 c
        have k2 : (nxT b n st.1).2.1 < (sub (adS b n st)).2.1.2.1 := k2
        have k4 : nv.length + (nxT b n st.1).2.1 ≤ (sub (adS b n st)).2.1.2.1 := k4
        have ho := op_ok (t := tokC b st.1) (by omega)
        refine lp_grd hl hs j _ ⟨k1, ?_, opS b st.1 :: (nv ++ nw), ?_, ?_, ?_, fun d => ?_⟩ hr
        · show base.1.2.1 < (sub (adS b n st)).2.1.2.1
          omega
        · show opS b st.1 :: (sub (adS b n st)).2.2.2 = _
          rw [k3]
          show opS b st.1 :: (nv ++ st.2.2) = _
          rw [g3, List.cons_append, List.append_assoc]
        · show (nv ++ nw).length + 1 + base.1.2.1 ≤ (sub (adS b n st)).2.1.2.1
          rw [List.length_append]
          omega
        · intro x hx
          rcases List.mem_cons.mp hx with hx | hx
          · rw [hx]; exact ho.1
          · rcases List.mem_append.mp hx with hx | hx
            · exact k5 x hx
            · exact g5 x hx
        · rw [dp_cons (k := d + 2) (by rw [dp_app nv nw d (d + 1) (g6 d)]; exact k6 (d + 1))]
          exact ho.2 (d + 2) (by omega)
      · rw [e1, if_neg c] at hr
        cases hr
    · have e1 : lpF b n lvl sub (j + 1) st = (true, st) := if_neg a
      rw [e1]
      exact h
theorem le_grd {b : Nat → Int32} {n B N : Nat} {P5 P0 : Pst → Bool × Pst} (hb : ∀ i, i < 96 → -128 ≤ (b i).toInt ∧ (b i).toInt < 128) (hn : n ≤ 96) (h5 : ∀ s1, tkO b n s1.1 → (P5 s1).1 = true → grd b n s1 (P5 s1).2) (h0 : ∀ s1, tkO b n s1.1 → (P0 s1).1 = true → grd b n s1 (P0 s1).2) {st : Pst} (ht : tkO b n st.1) (hr : (leF b n P5 P0 B N st).1 = true) : grd b n st (leF b n P5 P0 B N st).2 := by
  have htb := tk_b hb hn ht
  have hnx := nx_ok (b := b) (n := n) ht
  unfold leF at *
  by_cases a : (tokC b st.1).toInt = 258
  · rw [if_pos a]
    have hk := tok_258 ht.2.2.2.1 htb a
    have hse := ht.2.2.1 (by omega)
    have hd := ht.2.2.2.2.2 hk
    have hv := nv_rng (b := b) (s := st.1.2.1) (st.1.2.2 - st.1.2.1) hd.1 (fun i h1 h2 => hd.2 i h1 (by omega))
    have hp : (10 : Int) ^ (st.1.2.2 - st.1.2.1) ≤ 10000 := by
      rcases (show st.1.2.2 - st.1.2.1 = 0 ∨ st.1.2.2 - st.1.2.1 = 1 ∨ st.1.2.2 - st.1.2.1 = 2 ∨ st.1.2.2 - st.1.2.1 = 3 ∨ st.1.2.2 - st.1.2.1 = 4 by omega) with z | z | z | z | z <;> (rw [z]; decide)
    refine ⟨hnx.1, by show st.1.2.1 < (nxT b n st.1).2.1; omega, [_], rfl, ?_, ?_, fun d => ?_⟩
    · show 1 + st.1.2.1 ≤ (nxT b n st.1).2.1
      omega
    · intro x hx
      rw [List.mem_singleton.mp hx]
      exact Or.inl ⟨hv.1, by show (nvF b st.1.2.1 (st.1.2.2 - st.1.2.1)).toInt ≤ 9999; omega, rfl, rfl⟩
    · rw [dp_cons (k := d) rfl]
      exact if_pos (by show -5 ≤ (nvF b st.1.2.1 (st.1.2.2 - st.1.2.1)).toInt; omega)
  · rw [if_neg a] at hr ⊢
    by_cases c : (tokC b st.1).toInt = 259
    · rw [if_pos c]
      obtain ⟨hk, hm⟩ := tok_259 ht.2.2.2.1 htb c
      have hse := ht.2.2.1 (by omega)
      have ho := nm_ok hm.2
      refine ⟨hnx.1, by show st.1.2.1 < (nxT b n st.1).2.1; omega, [_], rfl, ?_, ?_, fun d => ?_⟩
      · show 1 + st.1.2.1 ≤ (nxT b n st.1).2.1
        omega
      · intro x hx
        rw [List.mem_singleton.mp hx]
        exact ho.1
      · rw [dp_cons (k := d) rfl]
        exact if_pos ho.2
    · rw [if_neg c] at hr ⊢
      by_cases e : (tokC b st.1).toInt = 33
      · rw [if_pos e] at hr ⊢
        have hk := (tok_sg (b := b) (t := st.1) (by omega)).1
        have hse := ht.2.2.1 (by omega)
        by_cases f : N < 8
        · rw [if_pos f] at hr ⊢
          by_cases g : (P5 (adS b n st)).1 = true
          · rw [if_pos g]
            obtain ⟨k1, k2, nv, k3, k4, k5, k6⟩ := h5 (adS b n st) hnx.1 g
            have k2 : (nxT b n st.1).2.1 < (P5 (adS b n st)).2.1.2.1 := k2
            have k4 : nv.length + (nxT b n st.1).2.1 ≤ (P5 (adS b n st)).2.1.2.1 := k4
            refine ⟨k1, by show st.1.2.1 < (P5 (adS b n st)).2.1.2.1; omega, (-15, 33, 0) :: nv, ?_, ?_, ?_, fun d => ?_⟩
            · show (-15, 33, 0) :: (P5 (adS b n st)).2.2.2 = _
              rw [k3]
              rfl
            · show nv.length + 1 + st.1.2.1 ≤ (P5 (adS b n st)).2.1.2.1
              omega
            · intro x hx
              rcases List.mem_cons.mp hx with hx | hx
              · rw [hx]; unfold okS stepI; decide
              · exact k5 x hx
            · rw [dp_cons (k6 d)]
              show (if -5 ≤ (-15 : Int32).toInt then _ else _) = _
              rw [if_neg (by decide), if_pos (by decide), if_pos (by omega)]
          · rw [if_neg g] at hr; cases hr
        · rw [if_neg f] at hr; cases hr
      · rw [if_neg e] at hr ⊢
        by_cases e : (tokC b st.1).toInt = 40
        · rw [if_pos e] at hr ⊢
          have hk := (tok_sg (b := b) (t := st.1) (by omega)).1
          have hse := ht.2.2.1 (by omega)
          by_cases f : B < 8
          · rw [if_pos f] at hr ⊢
            by_cases g : (P0 (adS b n st)).1 = true ∧ (tokC b (P0 (adS b n st)).2.1).toInt = 41
            · rw [if_pos g]
              obtain ⟨k1, k2, nv, k3, k4, k5, k6⟩ := h0 (adS b n st) hnx.1 g.1
              have k2 : (nxT b n st.1).2.1 < (P0 (adS b n st)).2.1.2.1 := k2
              have k4 : nv.length + (nxT b n st.1).2.1 ≤ (P0 (adS b n st)).2.1.2.1 := k4
              have hnx2 := nx_ok (b := b) (n := n) k1
              have hle := k1.1
              refine ⟨hnx2.1, by show st.1.2.1 < (nxT b n (P0 (adS b n st)).2.1).2.1; omega, nv, k3, ?_, k5, k6⟩
              show nv.length + st.1.2.1 ≤ (nxT b n (P0 (adS b n st)).2.1).2.1
              omega
            · rw [if_neg g] at hr; cases hr
          · rw [if_neg f] at hr; cases hr
        · rw [if_neg e] at hr; cases hr
theorem pr_5 {b : Nat → Int32} {n f lvl B N : Nat} {st : Pst} (h : 5 ≤ lvl) : prF b n (f + 1) lvl B N st = leF b n (prF b n f 5 B (N + 1)) (prF b n f 0 (B + 1) N) B N st := if_pos h
theorem pr_y {b : Nat → Int32} {n f lvl B N : Nat} {st : Pst} (h : ¬ 5 ≤ lvl) (h2 : (prF b n f (lvl + 1) B N st).1 = true) : prF b n (f + 1) lvl B N st = lpF b n lvl (prF b n f (lvl + 1) B N) (if lvl = 2 then 1 else 96) (prF b n f (lvl + 1) B N st).2 := (if_neg h).trans (if_pos h2)
theorem pr_n {b : Nat → Int32} {n f lvl B N : Nat} {st : Pst} (h : ¬ 5 ≤ lvl) (h2 : ¬ (prF b n f (lvl + 1) B N st).1 = true) : prF b n (f + 1) lvl B N st = (false, (prF b n f (lvl + 1) B N st).2) := (if_neg h).trans (if_neg h2)
theorem pr_grd {b : Nat → Int32} {n : Nat} (hb : ∀ i, i < 96 → -128 ≤ (b i).toInt ∧ (b i).toInt < 128) (hn : n ≤ 96) : ∀ (f lvl B N : Nat) (st : Pst), tkO b n st.1 → (prF b n f lvl B N st).1 = true → grd b n st (prF b n f lvl B N st).2
  | 0, _, _, _, _, _, h => by cases h
  | f + 1, lvl, B, N, st, ht, h => by
    by_cases a : 5 ≤ lvl
    · rw [pr_5 a] at h ⊢
      exact le_grd hb hn (fun s1 h1 h2 => pr_grd hb hn f 5 B (N + 1) s1 h1 h2) (fun s1 h1 h2 => pr_grd hb hn f 0 (B + 1) N s1 h1 h2) ht h
    · by_cases c : (prF b n f (lvl + 1) B N st).1 = true
      · rw [pr_y a c] at h ⊢
        exact lp_grd (by omega) (fun s1 h1 h2 => pr_grd hb hn f (lvl + 1) B N s1 h1 h2) _ _ (pr_grd hb hn f (lvl + 1) B N st ht c) h
      · rw [pr_n a c] at h
        cases h
