theorem tp1 (c : Nat) : nI (c + 1) - 1 = nI c - 1 + 1 := by rw [nI_pred, Int32.sub_add_cancel]
theorem tp0 : (-1 : Int32) = nI 0 - 1 := by decide
theorem tpt {c : Nat} (h : c < 1000) : (nI c - 1).toInt = (c : Int) - 1 := by
  rw [sub1 (by rw [nIt (by omega)]; omega), nIt (by omega)]
theorem tpn {c : Nat} (h : c < 1000) : (nI c - 1 + 1).toInt.toNat = c := by
  rw [Int32.sub_add_cancel, nIn (by omega)]
theorem m1m {x : Int32} (h1 : -5 ≤ x.toInt) (h2 : x.toInt < 0) : (-1 - x).toInt = -1 - x.toInt := by
  simp only [Int32.toInt_sub, Int32.reduceToInt, Int.bmod]
  omega
theorem s_value {d : Nat} {σ : Mm} {Q : Qt} {l : Int32} (p : Nat) (hl : 0 ≤ l.toInt ∧ l.toInt ≤ 2) (hp : p < 3) (S n : Nat) (hS : (σ (26 + l.toInt.toNat) p).toInt = S) (hE : (σ (26 + l.toInt.toNat) (p + 1)).toInt = S + n) (hn : S + n ≤ 96) (hd : depth (σ (22 + l.toInt.toNat)) S n 0 = some 1) (hQ : ∀ g, Q (some (.int (lawV (σ (22 + l.toInt.toNat)) (σ 44) S n))) (up σ 29 g)) : Call (d + 2) k_X3_value [.ref 19, .int l, .int (nI p), .ref 44] σ Q := by
  refine Call_go fun X hX => ?_
  have loop : ∀ (k m cnt : Nat) (f g : Nat → Int32) (v6 : Value), m + k = n → sv (σ (22 + l.toInt.toNat)) (σ 44) S m = (cnt, f) → (∀ j, j < cnt → g j = f j) → X 13 [.ref 19, .int l, .int (nI p), .ref 44, .int (nI cnt - 1), .int (nI (S + m)), v6] [] (up σ 29 g) := by
    intro k
    induction k with
    | zero =>
      intro m cnt f g v6 hm hs hA
      rw [Nat.add_zero] at hm
      subst hm
      obtain ⟨d4, d5⟩ := depth_sv (nm := σ 44) hd
      rw [hs] at d4
      have d4 : cnt = 1 := d4
      have r26 : up σ 29 g (26 + l.toInt.toNat) = σ (26 + l.toInt.toNat) := up_c (by omega)
      have r22 : up σ 29 g (22 + l.toInt.toNat) = σ (22 + l.toInt.toNat) := up_c (by omega)
      have f29 : up σ 29 g 29 = g := rfl
      have f44 : up σ 29 g 44 = σ 44 := rfl
      have e2i := nIn (i := S + m) (by omega)
      have e3 := nIt (n := S + m) (by omega)
      have eE : (σ (26 + l.toInt.toNat) (nI p + 1).toInt.toNat).toInt = S + m := by rw [nI_1, nIn (by omega)]; exact hE
      have e4 := tpt (c := cnt) (by omega)
      refine go [13] 100 hX ?_
      refine ⟨_, _, rfl, ⟨by omega, by omega⟩, ?_⟩
      refine ⟨_, _, rdI_row (rw26 (by omega)), (by rw [nI_1]; have := nIt (n := p + 1) (by omega); exact ⟨by omega, by omega⟩), ?_⟩
      refine ⟨fun c25 => ?_, fun c25 => ?_⟩
      · exfalso; simp only [r26, r22, e2i, eE, Int32.reduceToInt] at c25; omega
      · refine ⟨_, _, rfl, ⟨by decide, by decide⟩, ?_⟩
        refine ⟨rfl, trivial, ?_⟩
        have h1 := hQ g
        unfold lawV at h1
        rw [hs] at h1
        have h1 : Q (some (.int (f 0))) (up σ 29 g) := h1
        rw [← hA 0 (by omega)] at h1
        exact h1
    | succ k ih =>
      intro m cnt f g v6 hm hs hA
      obtain ⟨j0, d1, d2, d3⟩ := depth_pre (m := m) hd (by omega)
      obtain ⟨d4, d5⟩ := depth_sv (nm := σ 44) d1
      rw [hs] at d4
      have d4 : cnt = j0 := d4
      subst d4
      have r26 : up σ 29 g (26 + l.toInt.toNat) = σ (26 + l.toInt.toNat) := up_c (by omega)
      have r22 : up σ 29 g (22 + l.toInt.toNat) = σ (22 + l.toInt.toNat) := up_c (by omega)
      have f29 : up σ 29 g 29 = g := rfl
      have f44 : up σ 29 g 44 = σ 44 := rfl
      have e2i := nIn (i := S + m) (by omega)
      have e3 := nIt (n := S + m) (by omega)
      have eE : (σ (26 + l.toInt.toNat) (nI p + 1).toInt.toNat).toInt = S + n := by rw [nI_1, nIn (by omega)]; exact hE
      by_cases hstep : -5 ≤ ((σ (22 + l.toInt.toNat)) (S + m)).toInt
      · have e4 := tpt (c := cnt) (by omega)
        refine go [13] 100 hX ?_
        refine ⟨_, _, rfl, ⟨by omega, by omega⟩, ?_⟩
        refine ⟨_, _, rdI_row (rw26 (by omega)), (by rw [nI_1]; have := nIt (n := p + 1) (by omega); exact ⟨by omega, by omega⟩), ?_⟩
        refine ⟨fun c25 => ?_, fun c25 => ?_⟩
        · refine ⟨_, _, rfl, ⟨by omega, by omega⟩, ?_⟩
          refine ⟨_, _, rdI_row (rw22 (by omega)), ⟨by omega, by omega⟩, ?_⟩
          refine ⟨fun c43 => ?_, fun c43 => ?_⟩
          · exfalso; simp only [r26, r22, e2i, eE, Int32.reduceToInt] at c25 c43; omega
          · refine ⟨fun c50 => ?_, fun c50 => ?_⟩
            · refine ⟨fun c64 => ?_, fun c64 => ?_⟩
              · refine ⟨_, _, rfl, (by rw [r22, e2i, ixs, m1m (by omega) (by simp only [r22, e2i] at c25 c43 c50 c64; omega)]; simp only [r22, e2i] at c25 c43 c50 c64; omega), ?_⟩
                refine ⟨_, rfl, (by rw [ixs, Int32.sub_add_cancel, nIt (by omega)]; omega), ?_⟩
                first
                | (exfalso; simp only [r26, r22, e2i, eE, Int32.reduceToInt] at c25 c43 c50 c64; omega)
                | (have ih1 := ih (m + 1) (cnt + 1) (upd f cnt (if ((σ (22 + l.toInt.toNat)) (S + m)).toInt < 0 then σ 44 (-1 - ((σ (22 + l.toInt.toNat)) (S + m))).toInt.toNat else ((σ (22 + l.toInt.toNat)) (S + m)))) (upd g cnt (if ((σ (22 + l.toInt.toNat)) (S + m)).toInt < 0 then σ 44 (-1 - ((σ (22 + l.toInt.toNat)) (S + m))).toInt.toNat else ((σ (22 + l.toInt.toNat)) (S + m)))) (.int ((σ (22 + l.toInt.toNat)) (S + m))) (by omega) (by show svS _ _ _ = _; rw [hs]; unfold svS; rw [if_pos hstep]) (fun j hj => by
                     by_cases q : j = cnt
                     · rw [q, pk_us, pk_us]
                     · rw [pk_un q, pk_un q]; exact hA j (by omega))
                   have eM : ∀ w, wr (up σ 29 g) 29 (nI cnt - 1 + 1).toInt.toNat w = up σ 29 (upd g cnt w) := fun w => by
                     rw [wr, up_up, tpn (by omega)]; rfl
                   rw [eM, r22, e2i]
                   rw [tp1, show S + (m + 1) = S + m + 1 from rfl, ← nI_1] at ih1
                   simp only [r22, e2i] at c64
                   first
                   | (rw [if_pos c64] at ih1; exact ih1)
                   | (rw [if_neg c64] at ih1; exact ih1))
              · refine ⟨_, rfl, (by rw [ixs, Int32.sub_add_cancel, nIt (by omega)]; omega), ?_⟩
                first
                | (exfalso; simp only [r26, r22, e2i, eE, Int32.reduceToInt] at c25 c43 c50 c64; omega)
                | (have ih1 := ih (m + 1) (cnt + 1) (upd f cnt (if ((σ (22 + l.toInt.toNat)) (S + m)).toInt < 0 then σ 44 (-1 - ((σ (22 + l.toInt.toNat)) (S + m))).toInt.toNat else ((σ (22 + l.toInt.toNat)) (S + m)))) (upd g cnt (if ((σ (22 + l.toInt.toNat)) (S + m)).toInt < 0 then σ 44 (-1 - ((σ (22 + l.toInt.toNat)) (S + m))).toInt.toNat else ((σ (22 + l.toInt.toNat)) (S + m)))) (.int ((σ (22 + l.toInt.toNat)) (S + m))) (by omega) (by show svS _ _ _ = _; rw [hs]; unfold svS; rw [if_pos hstep]) (fun j hj => by
                     by_cases q : j = cnt
                     · rw [q, pk_us, pk_us]
                     · rw [pk_un q, pk_un q]; exact hA j (by omega))
                   have eM : ∀ w, wr (up σ 29 g) 29 (nI cnt - 1 + 1).toInt.toNat w = up σ 29 (upd g cnt w) := fun w => by
                     rw [wr, up_up, tpn (by omega)]; rfl
                   rw [eM, r22, e2i]
                   rw [tp1, show S + (m + 1) = S + m + 1 from rfl, ← nI_1] at ih1
                   simp only [r22, e2i] at c64
                   first
                   | (rw [if_pos c64] at ih1; exact ih1)
                   | (rw [if_neg c64] at ih1; exact ih1))
            · exfalso; simp only [r26, r22, e2i, eE, Int32.reduceToInt] at c25 c43 c50; omega
        · exfalso; simp only [r26, r22, e2i, eE, Int32.reduceToInt] at c25; omega
      by_cases hstep2 : ((σ (22 + l.toInt.toNat)) (S + m)).toInt = -15
      · obtain ⟨c, rfl⟩ : ∃ c, cnt = c + 1 := ⟨cnt - 1, by have := d2 (by omega) hstep2; omega⟩
        have hstep := hstep2
        have e4 := tpt (c := c + 1) (by omega)
        refine go [13] 100 hX ?_
        refine ⟨_, _, rfl, ⟨by omega, by omega⟩, ?_⟩
        refine ⟨_, _, rdI_row (rw26 (by omega)), (by rw [nI_1]; have := nIt (n := p + 1) (by omega); exact ⟨by omega, by omega⟩), ?_⟩
        refine ⟨fun c25 => ?_, fun c25 => ?_⟩
        · refine ⟨_, _, rfl, ⟨by omega, by omega⟩, ?_⟩
          refine ⟨_, _, rdI_row (rw22 (by omega)), ⟨by omega, by omega⟩, ?_⟩
          refine ⟨fun c43 => ?_, fun c43 => ?_⟩
          · refine ⟨fun c86 => ?_, fun c86 => ?_⟩
            · refine ⟨fun c91 => ?_, fun c91 => ?_⟩
              · exfalso; simp only [r26, r22, e2i, eE, Int32.reduceToInt] at c25 c43 c86 c91; omega
              · refine ⟨_, _, rfl, ⟨by omega, by omega⟩, ?_⟩
                refine ⟨fun c107 => ?_, fun c107 => ?_⟩
                · refine ⟨_, rfl, ⟨by omega, by omega⟩, ?_⟩
                  first
                  | (exfalso; simp only [r26, r22, e2i, eE, Int32.reduceToInt] at c25 c43 c86 c91 c107; omega)
                  | (have ih1 := ih (m + 1) (c + 1) (upd f c (bI ((f c).toInt = 0))) (upd g c (bI ((f c).toInt = 0))) (.int ((σ (22 + l.toInt.toNat)) (S + m))) (by omega) (by show svS _ _ _ = _; rw [hs]; unfold svS; rw [if_neg (by omega), if_pos hstep]; rfl) (fun j hj => by
                       by_cases q : j = c
                       · rw [q, pk_us, pk_us]
                       · rw [pk_un q, pk_un q]; exact hA j (by omega))
                     have eM : ∀ w, wr (up σ 29 g) 29 (nI (c + 1) - 1).toInt.toNat w = up σ 29 (upd g c w) := fun w => by
                       rw [wr, up_up, nI_pred, nIn (by omega)]; rfl
                     rw [eM, r22, e2i]
                     rw [show S + (m + 1) = S + m + 1 from rfl, ← nI_1 (S + m)] at ih1
                     simp only [f29, nI_pred, nIn (show c < 2147483648 by omega), hA c (by omega)] at c107
                     first
                     | (rw [bI_p c107] at ih1; exact ih1)
                     | (rw [bI_n c107] at ih1; exact ih1))
                · refine ⟨_, rfl, ⟨by omega, by omega⟩, ?_⟩
                  first
                  | (exfalso; simp only [r26, r22, e2i, eE, Int32.reduceToInt] at c25 c43 c86 c91 c107; omega)
                  | (have ih1 := ih (m + 1) (c + 1) (upd f c (bI ((f c).toInt = 0))) (upd g c (bI ((f c).toInt = 0))) (.int ((σ (22 + l.toInt.toNat)) (S + m))) (by omega) (by show svS _ _ _ = _; rw [hs]; unfold svS; rw [if_neg (by omega), if_pos hstep]; rfl) (fun j hj => by
                       by_cases q : j = c
                       · rw [q, pk_us, pk_us]
                       · rw [pk_un q, pk_un q]; exact hA j (by omega))
                     have eM : ∀ w, wr (up σ 29 g) 29 (nI (c + 1) - 1).toInt.toNat w = up σ 29 (upd g c w) := fun w => by
                       rw [wr, up_up, nI_pred, nIn (by omega)]; rfl
                     rw [eM, r22, e2i]
                     rw [show S + (m + 1) = S + m + 1 from rfl, ← nI_1 (S + m)] at ih1
                     simp only [f29, nI_pred, nIn (show c < 2147483648 by omega), hA c (by omega)] at c107
                     first
                     | (rw [bI_p c107] at ih1; exact ih1)
                     | (rw [bI_n c107] at ih1; exact ih1))
            · exfalso; simp only [r26, r22, e2i, eE, Int32.reduceToInt] at c25 c43 c86; omega
          · refine ⟨fun c50 => ?_, fun c50 => ?_⟩
            · exfalso; simp only [r26, r22, e2i, eE, Int32.reduceToInt] at c25 c43 c50; omega
            · refine ⟨fun c86 => ?_, fun c86 => ?_⟩
              · refine ⟨fun c91 => ?_, fun c91 => ?_⟩
                · exfalso; simp only [r26, r22, e2i, eE, Int32.reduceToInt] at c25 c43 c50 c86 c91; omega
                · refine ⟨_, _, rfl, ⟨by omega, by omega⟩, ?_⟩
                  refine ⟨fun c107 => ?_, fun c107 => ?_⟩
                  · refine ⟨_, rfl, ⟨by omega, by omega⟩, ?_⟩
                    first
                    | (exfalso; simp only [r26, r22, e2i, eE, Int32.reduceToInt] at c25 c43 c50 c86 c91 c107; omega)
                    | (have ih1 := ih (m + 1) (c + 1) (upd f c (bI ((f c).toInt = 0))) (upd g c (bI ((f c).toInt = 0))) (.int ((σ (22 + l.toInt.toNat)) (S + m))) (by omega) (by show svS _ _ _ = _; rw [hs]; unfold svS; rw [if_neg (by omega), if_pos hstep]; rfl) (fun j hj => by
                         by_cases q : j = c
                         · rw [q, pk_us, pk_us]
                         · rw [pk_un q, pk_un q]; exact hA j (by omega))
                       have eM : ∀ w, wr (up σ 29 g) 29 (nI (c + 1) - 1).toInt.toNat w = up σ 29 (upd g c w) := fun w => by
                         rw [wr, up_up, nI_pred, nIn (by omega)]; rfl
                       rw [eM, r22, e2i]
                       rw [show S + (m + 1) = S + m + 1 from rfl, ← nI_1 (S + m)] at ih1
                       simp only [f29, nI_pred, nIn (show c < 2147483648 by omega), hA c (by omega)] at c107
                       first
                       | (rw [bI_p c107] at ih1; exact ih1)
                       | (rw [bI_n c107] at ih1; exact ih1))
                  · refine ⟨_, rfl, ⟨by omega, by omega⟩, ?_⟩
                    first
                    | (exfalso; simp only [r26, r22, e2i, eE, Int32.reduceToInt] at c25 c43 c50 c86 c91 c107; omega)
                    | (have ih1 := ih (m + 1) (c + 1) (upd f c (bI ((f c).toInt = 0))) (upd g c (bI ((f c).toInt = 0))) (.int ((σ (22 + l.toInt.toNat)) (S + m))) (by omega) (by show svS _ _ _ = _; rw [hs]; unfold svS; rw [if_neg (by omega), if_pos hstep]; rfl) (fun j hj => by
                         by_cases q : j = c
                         · rw [q, pk_us, pk_us]
                         · rw [pk_un q, pk_un q]; exact hA j (by omega))
                       have eM : ∀ w, wr (up σ 29 g) 29 (nI (c + 1) - 1).toInt.toNat w = up σ 29 (upd g c w) := fun w => by
                         rw [wr, up_up, nI_pred, nIn (by omega)]; rfl
                       rw [eM, r22, e2i]
                       rw [show S + (m + 1) = S + m + 1 from rfl, ← nI_1 (S + m)] at ih1
                       simp only [f29, nI_pred, nIn (show c < 2147483648 by omega), hA c (by omega)] at c107
                       first
                       | (rw [bI_p c107] at ih1; exact ih1)
                       | (rw [bI_n c107] at ih1; exact ih1))
              · exfalso; simp only [r26, r22, e2i, eE, Int32.reduceToInt] at c25 c43 c50 c86; omega
        · exfalso; simp only [r26, r22, e2i, eE, Int32.reduceToInt] at c25; omega
      · obtain ⟨c, rfl⟩ : ∃ c, cnt = c + 2 := ⟨cnt - 2, by have := d3 (by omega) hstep2; omega⟩
        have e4 := tpt (c := c + 2) (by omega)
        have eB : nI (c + 2) - 1 + -1 = nI c := by rw [nI_pred, pk_m1]
        have e5 := nIt (n := c) (by omega)
        have e6 := nIt (n := c + 1) (by omega)
        refine go [13] 100 hX ?_
        refine ⟨_, _, rfl, ⟨by omega, by omega⟩, ?_⟩
        refine ⟨_, _, rdI_row (rw26 (by omega)), (by rw [nI_1]; have := nIt (n := p + 1) (by omega); exact ⟨by omega, by omega⟩), ?_⟩
        refine ⟨fun c25 => ?_, fun c25 => ?_⟩
        · refine ⟨_, _, rfl, ⟨by omega, by omega⟩, ?_⟩
          refine ⟨_, _, rdI_row (rw22 (by omega)), ⟨by omega, by omega⟩, ?_⟩
          refine ⟨fun c43 => ?_, fun c43 => ?_⟩
          · refine ⟨fun c86 => ?_, fun c86 => ?_⟩
            · refine ⟨fun c91 => ?_, fun c91 => ?_⟩
              · refine ⟨fun c122 => ?_, fun c122 => ?_⟩
                · first
                  | (exfalso; simp only [r26, r22, e2i, eE, Int32.reduceToInt] at c25 c43 c86 c91 c122; omega)
                  | (have ih1 := ih (m + 1) (c + 1) (upd f c (wkd ((σ (22 + l.toInt.toNat)) (S + m)) (f c) (f (c + 1)))) (upd g c (wkd ((σ (22 + l.toInt.toNat)) (S + m)) (f c) (f (c + 1)))) (.int ((σ (22 + l.toInt.toNat)) (S + m))) (by omega) (by show svS _ _ _ = _; rw [hs]; unfold svS; rw [if_neg (by omega), if_neg (by omega)]; rfl) (fun j hj => by
                       by_cases q : j = c
                       · rw [q, pk_us, pk_us]
                       · rw [pk_un q, pk_un q]; exact hA j (by omega))
                     have eM : ∀ w, wr (up σ 29 g) 29 (nI (c + 2) - 1 + -1).toInt.toNat w = up σ 29 (upd g c w) := fun w => by
                       rw [wr, up_up, eB, nIn (by omega)]; rfl
                     rw [eM, r22, e2i, f29, eB, nI_1, nIn (show c < 2147483648 by omega), nIn (show c + 1 < 2147483648 by omega), hA c (by omega), hA (c + 1) (by omega)]
                     rw [show S + (m + 1) = S + m + 1 from rfl, ← nI_1 (S + m), nI_pred] at ih1
                     exact ih1)
                · refine ⟨_, _, rfl, (by rw [eB]; exact ⟨by omega, by omega⟩), ?_⟩
                  refine ⟨_, _, rfl, (by rw [eB, nI_1]; exact ⟨by omega, by omega⟩), ?_⟩
                  refine ⟨rfl, ?_⟩
                  refine s_wkd ?_
                  refine ⟨_, rfl, (by rw [eB]; exact ⟨by omega, by omega⟩), ?_⟩
                  first
                  | (exfalso; simp only [r26, r22, e2i, eE, Int32.reduceToInt] at c25 c43 c86 c91 c122; omega)
                  | (have ih1 := ih (m + 1) (c + 1) (upd f c (wkd ((σ (22 + l.toInt.toNat)) (S + m)) (f c) (f (c + 1)))) (upd g c (wkd ((σ (22 + l.toInt.toNat)) (S + m)) (f c) (f (c + 1)))) (.int ((σ (22 + l.toInt.toNat)) (S + m))) (by omega) (by show svS _ _ _ = _; rw [hs]; unfold svS; rw [if_neg (by omega), if_neg (by omega)]; rfl) (fun j hj => by
                       by_cases q : j = c
                       · rw [q, pk_us, pk_us]
                       · rw [pk_un q, pk_un q]; exact hA j (by omega))
                     have eM : ∀ w, wr (up σ 29 g) 29 (nI (c + 2) - 1 + -1).toInt.toNat w = up σ 29 (upd g c w) := fun w => by
                       rw [wr, up_up, eB, nIn (by omega)]; rfl
                     rw [eM, r22, e2i, f29, eB, nI_1, nIn (show c < 2147483648 by omega), nIn (show c + 1 < 2147483648 by omega), hA c (by omega), hA (c + 1) (by omega)]
                     rw [show S + (m + 1) = S + m + 1 from rfl, ← nI_1 (S + m), nI_pred] at ih1
                     exact ih1)
              · exfalso; simp only [r26, r22, e2i, eE, Int32.reduceToInt] at c25 c43 c86 c91; omega
            · refine ⟨fun c122 => ?_, fun c122 => ?_⟩
              · first
                | (exfalso; simp only [r26, r22, e2i, eE, Int32.reduceToInt] at c25 c43 c86 c122; omega)
                | (have ih1 := ih (m + 1) (c + 1) (upd f c (wkd ((σ (22 + l.toInt.toNat)) (S + m)) (f c) (f (c + 1)))) (upd g c (wkd ((σ (22 + l.toInt.toNat)) (S + m)) (f c) (f (c + 1)))) (.int ((σ (22 + l.toInt.toNat)) (S + m))) (by omega) (by show svS _ _ _ = _; rw [hs]; unfold svS; rw [if_neg (by omega), if_neg (by omega)]; rfl) (fun j hj => by
                     by_cases q : j = c
                     · rw [q, pk_us, pk_us]
                     · rw [pk_un q, pk_un q]; exact hA j (by omega))
                   have eM : ∀ w, wr (up σ 29 g) 29 (nI (c + 2) - 1 + -1).toInt.toNat w = up σ 29 (upd g c w) := fun w => by
                     rw [wr, up_up, eB, nIn (by omega)]; rfl
                   rw [eM, r22, e2i, f29, eB, nI_1, nIn (show c < 2147483648 by omega), nIn (show c + 1 < 2147483648 by omega), hA c (by omega), hA (c + 1) (by omega)]
                   rw [show S + (m + 1) = S + m + 1 from rfl, ← nI_1 (S + m), nI_pred] at ih1
                   exact ih1)
              · refine ⟨_, _, rfl, (by rw [eB]; exact ⟨by omega, by omega⟩), ?_⟩
                refine ⟨_, _, rfl, (by rw [eB, nI_1]; exact ⟨by omega, by omega⟩), ?_⟩
                refine ⟨rfl, ?_⟩
                refine s_wkd ?_
                refine ⟨_, rfl, (by rw [eB]; exact ⟨by omega, by omega⟩), ?_⟩
                first
                | (exfalso; simp only [r26, r22, e2i, eE, Int32.reduceToInt] at c25 c43 c86 c122; omega)
                | (have ih1 := ih (m + 1) (c + 1) (upd f c (wkd ((σ (22 + l.toInt.toNat)) (S + m)) (f c) (f (c + 1)))) (upd g c (wkd ((σ (22 + l.toInt.toNat)) (S + m)) (f c) (f (c + 1)))) (.int ((σ (22 + l.toInt.toNat)) (S + m))) (by omega) (by show svS _ _ _ = _; rw [hs]; unfold svS; rw [if_neg (by omega), if_neg (by omega)]; rfl) (fun j hj => by
                     by_cases q : j = c
                     · rw [q, pk_us, pk_us]
                     · rw [pk_un q, pk_un q]; exact hA j (by omega))
                   have eM : ∀ w, wr (up σ 29 g) 29 (nI (c + 2) - 1 + -1).toInt.toNat w = up σ 29 (upd g c w) := fun w => by
                     rw [wr, up_up, eB, nIn (by omega)]; rfl
                   rw [eM, r22, e2i, f29, eB, nI_1, nIn (show c < 2147483648 by omega), nIn (show c + 1 < 2147483648 by omega), hA c (by omega), hA (c + 1) (by omega)]
                   rw [show S + (m + 1) = S + m + 1 from rfl, ← nI_1 (S + m), nI_pred] at ih1
                   exact ih1)
          · refine ⟨fun c50 => ?_, fun c50 => ?_⟩
            · exfalso; simp only [r26, r22, e2i, eE, Int32.reduceToInt] at c25 c43 c50; omega
            · refine ⟨fun c86 => ?_, fun c86 => ?_⟩
              · refine ⟨fun c91 => ?_, fun c91 => ?_⟩
                · refine ⟨fun c122 => ?_, fun c122 => ?_⟩
                  · first
                    | (exfalso; simp only [r26, r22, e2i, eE, Int32.reduceToInt] at c25 c43 c50 c86 c91 c122; omega)
                    | (have ih1 := ih (m + 1) (c + 1) (upd f c (wkd ((σ (22 + l.toInt.toNat)) (S + m)) (f c) (f (c + 1)))) (upd g c (wkd ((σ (22 + l.toInt.toNat)) (S + m)) (f c) (f (c + 1)))) (.int ((σ (22 + l.toInt.toNat)) (S + m))) (by omega) (by show svS _ _ _ = _; rw [hs]; unfold svS; rw [if_neg (by omega), if_neg (by omega)]; rfl) (fun j hj => by
                         by_cases q : j = c
                         · rw [q, pk_us, pk_us]
                         · rw [pk_un q, pk_un q]; exact hA j (by omega))
                       have eM : ∀ w, wr (up σ 29 g) 29 (nI (c + 2) - 1 + -1).toInt.toNat w = up σ 29 (upd g c w) := fun w => by
                         rw [wr, up_up, eB, nIn (by omega)]; rfl
                       rw [eM, r22, e2i, f29, eB, nI_1, nIn (show c < 2147483648 by omega), nIn (show c + 1 < 2147483648 by omega), hA c (by omega), hA (c + 1) (by omega)]
                       rw [show S + (m + 1) = S + m + 1 from rfl, ← nI_1 (S + m), nI_pred] at ih1
                       exact ih1)
                  · refine ⟨_, _, rfl, (by rw [eB]; exact ⟨by omega, by omega⟩), ?_⟩
                    refine ⟨_, _, rfl, (by rw [eB, nI_1]; exact ⟨by omega, by omega⟩), ?_⟩
                    refine ⟨rfl, ?_⟩
                    refine s_wkd ?_
                    refine ⟨_, rfl, (by rw [eB]; exact ⟨by omega, by omega⟩), ?_⟩
                    first
                    | (exfalso; simp only [r26, r22, e2i, eE, Int32.reduceToInt] at c25 c43 c50 c86 c91 c122; omega)
                    | (have ih1 := ih (m + 1) (c + 1) (upd f c (wkd ((σ (22 + l.toInt.toNat)) (S + m)) (f c) (f (c + 1)))) (upd g c (wkd ((σ (22 + l.toInt.toNat)) (S + m)) (f c) (f (c + 1)))) (.int ((σ (22 + l.toInt.toNat)) (S + m))) (by omega) (by show svS _ _ _ = _; rw [hs]; unfold svS; rw [if_neg (by omega), if_neg (by omega)]; rfl) (fun j hj => by
                         by_cases q : j = c
                         · rw [q, pk_us, pk_us]
                         · rw [pk_un q, pk_un q]; exact hA j (by omega))
                       have eM : ∀ w, wr (up σ 29 g) 29 (nI (c + 2) - 1 + -1).toInt.toNat w = up σ 29 (upd g c w) := fun w => by
                         rw [wr, up_up, eB, nIn (by omega)]; rfl
                       rw [eM, r22, e2i, f29, eB, nI_1, nIn (show c < 2147483648 by omega), nIn (show c + 1 < 2147483648 by omega), hA c (by omega), hA (c + 1) (by omega)]
                       rw [show S + (m + 1) = S + m + 1 from rfl, ← nI_1 (S + m), nI_pred] at ih1
                       exact ih1)
                · exfalso; simp only [r26, r22, e2i, eE, Int32.reduceToInt] at c25 c43 c50 c86 c91; omega
              · refine ⟨fun c122 => ?_, fun c122 => ?_⟩
                · first
                  | (exfalso; simp only [r26, r22, e2i, eE, Int32.reduceToInt] at c25 c43 c50 c86 c122; omega)
                  | (have ih1 := ih (m + 1) (c + 1) (upd f c (wkd ((σ (22 + l.toInt.toNat)) (S + m)) (f c) (f (c + 1)))) (upd g c (wkd ((σ (22 + l.toInt.toNat)) (S + m)) (f c) (f (c + 1)))) (.int ((σ (22 + l.toInt.toNat)) (S + m))) (by omega) (by show svS _ _ _ = _; rw [hs]; unfold svS; rw [if_neg (by omega), if_neg (by omega)]; rfl) (fun j hj => by
                       by_cases q : j = c
                       · rw [q, pk_us, pk_us]
                       · rw [pk_un q, pk_un q]; exact hA j (by omega))
                     have eM : ∀ w, wr (up σ 29 g) 29 (nI (c + 2) - 1 + -1).toInt.toNat w = up σ 29 (upd g c w) := fun w => by
                       rw [wr, up_up, eB, nIn (by omega)]; rfl
                     rw [eM, r22, e2i, f29, eB, nI_1, nIn (show c < 2147483648 by omega), nIn (show c + 1 < 2147483648 by omega), hA c (by omega), hA (c + 1) (by omega)]
                     rw [show S + (m + 1) = S + m + 1 from rfl, ← nI_1 (S + m), nI_pred] at ih1
                     exact ih1)
                · refine ⟨_, _, rfl, (by rw [eB]; exact ⟨by omega, by omega⟩), ?_⟩
                  refine ⟨_, _, rfl, (by rw [eB, nI_1]; exact ⟨by omega, by omega⟩), ?_⟩
                  refine ⟨rfl, ?_⟩
                  refine s_wkd ?_
                  refine ⟨_, rfl, (by rw [eB]; exact ⟨by omega, by omega⟩), ?_⟩
                  first
                  | (exfalso; simp only [r26, r22, e2i, eE, Int32.reduceToInt] at c25 c43 c50 c86 c122; omega)
                  | (have ih1 := ih (m + 1) (c + 1) (upd f c (wkd ((σ (22 + l.toInt.toNat)) (S + m)) (f c) (f (c + 1)))) (upd g c (wkd ((σ (22 + l.toInt.toNat)) (S + m)) (f c) (f (c + 1)))) (.int ((σ (22 + l.toInt.toNat)) (S + m))) (by omega) (by show svS _ _ _ = _; rw [hs]; unfold svS; rw [if_neg (by omega), if_neg (by omega)]; rfl) (fun j hj => by
                       by_cases q : j = c
                       · rw [q, pk_us, pk_us]
                       · rw [pk_un q, pk_un q]; exact hA j (by omega))
                     have eM : ∀ w, wr (up σ 29 g) 29 (nI (c + 2) - 1 + -1).toInt.toNat w = up σ 29 (upd g c w) := fun w => by
                       rw [wr, up_up, eB, nIn (by omega)]; rfl
                     rw [eM, r22, e2i, f29, eB, nI_1, nIn (show c < 2147483648 by omega), nIn (show c + 1 < 2147483648 by omega), hA c (by omega), hA (c + 1) (by omega)]
                     rw [show S + (m + 1) = S + m + 1 from rfl, ← nI_1 (S + m), nI_pred] at ih1
                     exact ih1)
        · exfalso; simp only [r26, r22, e2i, eE, Int32.reduceToInt] at c25; omega
  have e0 := nIt (n := p) (by omega)
  have e1 := nIn (i := p) (by omega)
  refine go [13] 40 hX ?_
  refine ⟨_, _, rfl, ⟨by omega, by omega⟩, ?_⟩
  refine ⟨_, _, rdI_row (rw26 (by omega)), ⟨by omega, by omega⟩, ?_⟩
  have := loop n 0 0 (fun _ => 0) (σ 29) .null (by omega) rfl (fun j hj => by omega)
  rw [up_id, ← tp0, Nat.add_zero] at this
  have eS : σ (26 + l.toInt.toNat) (nI p).toInt.toNat = nI S := by
    rw [e1]
    apply iX
    rw [hS, nIt (by omega)]
  rw [eS]
  exact this
