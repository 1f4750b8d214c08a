def nmI (k : Nat) (v : Int32) : Prop := (k = 1 ∧ v.toInt = 107) ∨ (k = 2 ∧ v.toInt = 119) ∨ (k = 3 ∧ v.toInt = 116) ∨ (k = 4 ∧ v.toInt = 97) ∨ (k = 5 ∧ v.toInt = 98)
theorem stepI_c {c h v : Int32} (q : stepI c h v) : (0 ≤ c.toInt ∧ h.toInt = 1 ∧ v = c) ∨ (∃ k : Nat, (1 ≤ k ∧ k ≤ 5) ∧ c.toInt = -k ∧ h.toInt = 2 ∧ nmI k v) ∨ (c.toInt = -15 ∧ h.toInt = 33) ∨ (opI c h ∧ (c.toInt < -5 ∧ c.toInt ≠ -15) ∧ (h.toInt ≠ 1 ∧ h.toInt ≠ 2 ∧ h.toInt ≠ 33)) := by
  unfold stepI at q
  rcases q with ⟨a, b, rfl, e⟩ | ⟨rfl, rfl, rfl⟩ | ⟨rfl, rfl, rfl⟩ | ⟨rfl, rfl, rfl⟩ | ⟨rfl, rfl, rfl⟩ | ⟨rfl, rfl, rfl⟩ | ⟨rfl, rfl⟩ | ⟨rfl, rfl⟩ | ⟨rfl, rfl⟩ | ⟨rfl, rfl⟩ | ⟨rfl, rfl⟩ | ⟨rfl, rfl⟩ | ⟨rfl, rfl⟩ | ⟨rfl, rfl⟩ | ⟨rfl, rfl⟩ | ⟨rfl, rfl⟩
  · exact Or.inl ⟨a, rfl, e⟩
  · exact Or.inr (Or.inl ⟨1, by decide, by decide, by decide, by unfold nmI; decide⟩)
  · exact Or.inr (Or.inl ⟨2, by decide, by decide, by decide, by unfold nmI; decide⟩)
  · exact Or.inr (Or.inl ⟨3, by decide, by decide, by decide, by unfold nmI; decide⟩)
  · exact Or.inr (Or.inl ⟨4, by decide, by decide, by decide, by unfold nmI; decide⟩)
  · exact Or.inr (Or.inl ⟨5, by decide, by decide, by decide, by unfold nmI; decide⟩)
  all_goals first | exact Or.inr (Or.inr (Or.inl ⟨by decide, by decide⟩)) | exact Or.inr (Or.inr (Or.inr ⟨by unfold opI; decide, by decide, by decide⟩))
theorem n100 {r : Nat} (h : r < 9) : 100 * nI r = nI (100 * r) := by
  rcases (show r = 0 ∨ r = 1 ∨ r = 2 ∨ r = 3 ∨ r = 4 ∨ r = 5 ∨ r = 6 ∨ r = 7 ∨ r = 8 by omega) with rfl | rfl | rfl | rfl | rfl | rfl | rfl | rfl | rfl <;> decide
theorem m_worked {d : Nat} {σ : Mm} {Q : Qt} {v a : Int32} (r : Nat) (hr : r < 9) (hv : 0 ≤ v.toInt ∧ v.toInt < 30) (C N : Nat → Int32) (S n : Nat) (hn : σ 111 r = nI n) (hn2 : n ≤ 96) (hst : ∀ i, i < n → stepI (C (S + i)) (σ 112 (100 * r + i)) (σ 113 (100 * r + i))) (hd : depth C S n 0 = some 1) (hN : N = nmO (σ 90) (σ 107) (σ 94) (σ 95) v.toInt.toNat a) (hQ : ∀ g, Q (some (.int (lawV C N S n))) (up σ 117 g)) : Call (d + 3) k_X12_worked [.ref 88, .int (nI r), .int v, .int a] σ Q := by
  refine Call_go fun X hX => ?_
  have loop : ∀ (k m cnt : Nat) (f g : Nat → Int32), m + k = n → sv C N S m = (cnt, f) → (∀ j, j < cnt → g j = f j) → X 9 [.ref 88, .int (nI r), .int v, .int a, .int (nI cnt), .int (nI (100 * r + m))] [] (up σ 117 g) := by
    intro k
    induction k with
    | zero =>
      intro m cnt f g hm hs hA
      rw [Nat.add_zero] at hm
      subst hm
      obtain ⟨d4, d5⟩ := depth_sv (nm := N) hd
      rw [hs] at d4
      have d4 : cnt = 1 := d4
      have f111 : up σ 117 g 111 = σ 111 := rfl
      have f112 : up σ 117 g 112 = σ 112 := rfl
      have f113 : up σ 117 g 113 = σ 113 := rfl
      have f117 : up σ 117 g 117 = g := rfl
      have eR := nIn (i := r) (by omega)
      have eR1 := nIt (n := r) (by omega)
      have e5n := nIn (i := 100 * r + m) (by omega)
      have e5 := nIt (n := 100 * r + m) (by omega)
      have eL : (100 * nI r + σ 111 r).toInt = 100 * r + m := by
        rw [hn, n100 hr, nI_add, nIt (by omega)]
        omega
      refine go [9] 100 hX ?_
      refine ⟨_, _, rfl, ⟨by omega, by omega⟩, ?_⟩
      refine ⟨fun c22 => ?_, fun c22 => ?_⟩
      · exfalso; simp only [f111, f112, f113, f117, eR, e5n, Int32.reduceToInt] at c22; omega
      · refine ⟨_, _, rfl, ⟨by decide, by decide⟩, ?_⟩
        refine ⟨rfl, trivial, ?_⟩
        have h1 := hQ g
        unfold lawV at h1
        rw [hs] at h1
        have h1 : Q (some (.int (f 0))) (up σ 117 g) := h1
        rw [← hA 0 (by omega)] at h1
        exact h1
    | succ k ih =>
      intro m cnt f g hm hs hA
      obtain ⟨j0, d1, d2, d3⟩ := depth_pre (m := m) hd (by omega)
      obtain ⟨d4, d5⟩ := depth_sv (nm := N) d1
      rw [hs] at d4
      have d4 : cnt = j0 := d4
      subst d4
      have f111 : up σ 117 g 111 = σ 111 := rfl
      have f112 : up σ 117 g 112 = σ 112 := rfl
      have f113 : up σ 117 g 113 = σ 113 := rfl
      have f117 : up σ 117 g 117 = g := rfl
      have eR := nIn (i := r) (by omega)
      have eR1 := nIt (n := r) (by omega)
      have e5n := nIn (i := 100 * r + m) (by omega)
      have e5 := nIt (n := 100 * r + m) (by omega)
      have eL : (100 * nI r + σ 111 r).toInt = 100 * r + n := by
        rw [hn, n100 hr, nI_add, nIt (by omega)]
        omega
      rcases stepI_c (hst m (by omega)) with ⟨s1, s2, hv0⟩ | ⟨k1, hk1, s1, s2, hk3⟩ | ⟨s1, s2⟩ | ⟨ho, s1, s2⟩
      · have e4 := nIt (n := cnt) (by omega)
        refine go [9] 100 hX ?_
        refine ⟨_, _, rfl, ⟨by omega, by omega⟩, ?_⟩
        refine ⟨fun c22 => ?_, fun c22 => ?_⟩
        · refine ⟨_, _, rfl, ⟨by omega, by omega⟩, ?_⟩
          refine ⟨fun c33 => ?_, fun c33 => ?_⟩
          · refine ⟨_, _, rfl, ⟨by omega, by omega⟩, ?_⟩
            refine ⟨fun c61 => ?_, fun c61 => ?_⟩
            · refine ⟨_, _, rfl, ⟨by omega, by omega⟩, ?_⟩
              refine ⟨_, rfl, ⟨by omega, by omega⟩, ?_⟩
              first
              | (exfalso; simp only [f111, f112, f113, f117, eR, e5n, Int32.reduceToInt] at c22 c33 c61; omega)
              | (have ih1 := ih (m + 1) (cnt + 1) (upd f cnt (if (C (S + m)).toInt < 0 then N (-1 - (C (S + m))).toInt.toNat else (C (S + m)))) (upd g cnt (if (C (S + m)).toInt < 0 then N (-1 - (C (S + m))).toInt.toNat else (C (S + m)))) (by omega) (by show svS _ _ _ = _; rw [hs]; unfold svS; rw [if_pos (by omega)]) (fun j hj => by
                   by_cases q : j = cnt
                   · rw [q, pk_us, pk_us]
                   · rw [pk_un q, pk_un q]; exact hA j (by omega))
                 have eM : ∀ w, wr (up σ 117 g) 117 (nI cnt).toInt.toNat w = up σ 117 (upd g cnt w) := fun w => by
                   rw [wr, up_up, nIn (by omega)]; rfl
                 rw [eM]
                 rw [show 100 * r + (m + 1) = 100 * r + m + 1 from rfl, ← nI_1 (100 * r + m), ← nI_1 cnt] at ih1
                 rw [if_neg (by omega)] at ih1
                 rw [f113, e5n, hv0]
                 exact ih1)
            · exfalso; simp only [f111, f112, f113, f117, eR, e5n, Int32.reduceToInt] at c22 c33 c61; omega
          · refine ⟨_, _, rfl, ⟨by omega, by omega⟩, ?_⟩
            refine ⟨fun c44 => ?_, fun c44 => ?_⟩
            · refine ⟨_, _, rfl, ⟨by omega, by omega⟩, ?_⟩
              refine ⟨fun c61 => ?_, fun c61 => ?_⟩
              · refine ⟨_, _, rfl, ⟨by omega, by omega⟩, ?_⟩
                refine ⟨_, rfl, ⟨by omega, by omega⟩, ?_⟩
                first
                | (exfalso; simp only [f111, f112, f113, f117, eR, e5n, Int32.reduceToInt] at c22 c33 c44 c61; omega)
                | (have ih1 := ih (m + 1) (cnt + 1) (upd f cnt (if (C (S + m)).toInt < 0 then N (-1 - (C (S + m))).toInt.toNat else (C (S + m)))) (upd g cnt (if (C (S + m)).toInt < 0 then N (-1 - (C (S + m))).toInt.toNat else (C (S + m)))) (by omega) (by show svS _ _ _ = _; rw [hs]; unfold svS; rw [if_pos (by omega)]) (fun j hj => by
                     by_cases q : j = cnt
                     · rw [q, pk_us, pk_us]
                     · rw [pk_un q, pk_un q]; exact hA j (by omega))
                   have eM : ∀ w, wr (up σ 117 g) 117 (nI cnt).toInt.toNat w = up σ 117 (upd g cnt w) := fun w => by
                     rw [wr, up_up, nIn (by omega)]; rfl
                   rw [eM]
                   rw [show 100 * r + (m + 1) = 100 * r + m + 1 from rfl, ← nI_1 (100 * r + m), ← nI_1 cnt] at ih1
                   rw [if_neg (by omega)] at ih1
                   rw [f113, e5n, hv0]
                   exact ih1)
              · exfalso; simp only [f111, f112, f113, f117, eR, e5n, Int32.reduceToInt] at c22 c33 c44 c61; omega
            · exfalso; simp only [f111, f112, f113, f117, eR, e5n, Int32.reduceToInt] at c22 c33 c44; omega
        · exfalso; simp only [f111, f112, f113, f117, eR, e5n, Int32.reduceToInt] at c22; omega
      · have e4 := nIt (n := cnt) (by omega)
        refine go [9] 100 hX ?_
        refine ⟨_, _, rfl, ⟨by omega, by omega⟩, ?_⟩
        refine ⟨fun c22 => ?_, fun c22 => ?_⟩
        · refine ⟨_, _, rfl, ⟨by omega, by omega⟩, ?_⟩
          refine ⟨fun c33 => ?_, fun c33 => ?_⟩
          · refine ⟨_, _, rfl, ⟨by omega, by omega⟩, ?_⟩
            refine ⟨fun c61 => ?_, fun c61 => ?_⟩
            · exfalso; simp only [f111, f112, f113, f117, eR, e5n, Int32.reduceToInt] at c22 c33 c61; omega
            · refine ⟨_, _, rfl, ⟨by omega, by omega⟩, ?_⟩
              refine ⟨rfl, rfl, ?_⟩
              refine m_named (k := k1) hv hk1 (by simp only [f113, e5n]; exact hk3) ?_
              refine ⟨_, rfl, ⟨by omega, by omega⟩, ?_⟩
              first
              | (exfalso; simp only [f111, f112, f113, f117, eR, e5n, Int32.reduceToInt] at c22 c33 c61; omega)
              | (have ih1 := ih (m + 1) (cnt + 1) (upd f cnt (if (C (S + m)).toInt < 0 then N (-1 - (C (S + m))).toInt.toNat else (C (S + m)))) (upd g cnt (if (C (S + m)).toInt < 0 then N (-1 - (C (S + m))).toInt.toNat else (C (S + m)))) (by omega) (by show svS _ _ _ = _; rw [hs]; unfold svS; rw [if_pos (by omega)]) (fun j hj => by
                   by_cases q : j = cnt
                   · rw [q, pk_us, pk_us]
                   · rw [pk_un q, pk_un q]; exact hA j (by omega))
                 have eM : ∀ w, wr (up σ 117 g) 117 (nI cnt).toInt.toNat w = up σ 117 (upd g cnt w) := fun w => by
                   rw [wr, up_up, nIn (by omega)]; rfl
                 rw [eM]
                 rw [show 100 * r + (m + 1) = 100 * r + m + 1 from rfl, ← nI_1 (100 * r + m), ← nI_1 cnt] at ih1
                 rw [if_pos (by omega), show (-1 - (C (S + m))).toInt.toNat = k1 - 1 by rw [m1m (by omega) (by omega)]; omega, hN] at ih1
                 exact ih1)
          · refine ⟨_, _, rfl, ⟨by omega, by omega⟩, ?_⟩
            refine ⟨fun c44 => ?_, fun c44 => ?_⟩
            · refine ⟨_, _, rfl, ⟨by omega, by omega⟩, ?_⟩
              refine ⟨fun c61 => ?_, fun c61 => ?_⟩
              · exfalso; simp only [f111, f112, f113, f117, eR, e5n, Int32.reduceToInt] at c22 c33 c44 c61; omega
              · refine ⟨_, _, rfl, ⟨by omega, by omega⟩, ?_⟩
                refine ⟨rfl, rfl, ?_⟩
                refine m_named (k := k1) hv hk1 (by simp only [f113, e5n]; exact hk3) ?_
                refine ⟨_, rfl, ⟨by omega, by omega⟩, ?_⟩
                first
                | (exfalso; simp only [f111, f112, f113, f117, eR, e5n, Int32.reduceToInt] at c22 c33 c44 c61; omega)
                | (have ih1 := ih (m + 1) (cnt + 1) (upd f cnt (if (C (S + m)).toInt < 0 then N (-1 - (C (S + m))).toInt.toNat else (C (S + m)))) (upd g cnt (if (C (S + m)).toInt < 0 then N (-1 - (C (S + m))).toInt.toNat else (C (S + m)))) (by omega) (by show svS _ _ _ = _; rw [hs]; unfold svS; rw [if_pos (by omega)]) (fun j hj => by
                     by_cases q : j = cnt
                     · rw [q, pk_us, pk_us]
                     · rw [pk_un q, pk_un q]; exact hA j (by omega))
                   have eM : ∀ w, wr (up σ 117 g) 117 (nI cnt).toInt.toNat w = up σ 117 (upd g cnt w) := fun w => by
                     rw [wr, up_up, nIn (by omega)]; rfl
                   rw [eM]
                   rw [show 100 * r + (m + 1) = 100 * r + m + 1 from rfl, ← nI_1 (100 * r + m), ← nI_1 cnt] at ih1
                   rw [if_pos (by omega), show (-1 - (C (S + m))).toInt.toNat = k1 - 1 by rw [m1m (by omega) (by omega)]; omega, hN] at ih1
                   exact ih1)
            · exfalso; simp only [f111, f112, f113, f117, eR, e5n, Int32.reduceToInt] at c22 c33 c44; omega
        · exfalso; simp only [f111, f112, f113, f117, eR, e5n, Int32.reduceToInt] at c22; omega
      · obtain ⟨c, rfl⟩ : ∃ c, cnt = c + 1 := ⟨cnt - 1, by have := d2 (by omega) (by omega); omega⟩
        have e6 := nIt (n := c) (by omega)
        refine go [9] 100 hX ?_
        refine ⟨_, _, rfl, ⟨by omega, by omega⟩, ?_⟩
        refine ⟨fun c22 => ?_, fun c22 => ?_⟩
        · refine ⟨_, _, rfl, ⟨by omega, by omega⟩, ?_⟩
          refine ⟨fun c33 => ?_, fun c33 => ?_⟩
          · exfalso; simp only [f111, f112, f113, f117, eR, e5n, Int32.reduceToInt] at c22 c33; omega
          · refine ⟨_, _, rfl, ⟨by omega, by omega⟩, ?_⟩
            refine ⟨fun c44 => ?_, fun c44 => ?_⟩
            · exfalso; simp only [f111, f112, f113, f117, eR, e5n, Int32.reduceToInt] at c22 c33 c44; omega
            · refine ⟨_, _, rfl, ⟨by omega, by omega⟩, ?_⟩
              refine ⟨fun c103 => ?_, fun c103 => ?_⟩
              · refine ⟨_, _, rfl, (by rw [nI_pred]; exact ⟨by omega, by omega⟩), ?_⟩
                refine ⟨fun c123 => ?_, fun c123 => ?_⟩
                · refine ⟨rfl, ?_⟩
                  refine m_is1 ?_
                  refine ⟨_, rfl, (by rw [nI_pred]; exact ⟨by omega, by omega⟩), ?_⟩
                  first
                  | (exfalso; simp only [f111, f112, f113, f117, eR, e5n, Int32.reduceToInt] at c22 c33 c44 c103 c123; omega)
                  | (have ih1 := ih (m + 1) (c + 1) (upd f c (bI ((f c).toInt = 0))) (upd g c (bI ((f c).toInt = 0))) (by omega) (by show svS _ _ _ = _; rw [hs]; unfold svS; rw [if_neg (by omega), if_pos (by omega)]; rfl) (fun j hj => by
                       by_cases q : j = c
                       · rw [q, pk_us, pk_us]
                       · rw [pk_un q, pk_un q]; exact hA j (by omega))
                     have eM : ∀ w, wr (up σ 117 g) 117 (nI (c + 1) - 1).toInt.toNat w = up σ 117 (upd g c w) := fun w => by
                       rw [wr, up_up, nI_pred, nIn (by omega)]; rfl
                     rw [eM]
                     rw [show 100 * r + (m + 1) = 100 * r + m + 1 from rfl, ← nI_1 (100 * r + m)] at ih1
                     simp only [f117, nI_pred, nIn (show c < 2147483648 by omega), hA c (by omega)] at c123
                     first
                     | (rw [bI_p c123] at ih1; exact ih1)
                     | (rw [bI_n c123] at ih1; exact ih1))
                · refine ⟨rfl, ?_⟩
                  refine m_is0 ?_
                  refine ⟨_, rfl, (by rw [nI_pred]; exact ⟨by omega, by omega⟩), ?_⟩
                  first
                  | (exfalso; simp only [f111, f112, f113, f117, eR, e5n, Int32.reduceToInt] at c22 c33 c44 c103 c123; omega)
                  | (have ih1 := ih (m + 1) (c + 1) (upd f c (bI ((f c).toInt = 0))) (upd g c (bI ((f c).toInt = 0))) (by omega) (by show svS _ _ _ = _; rw [hs]; unfold svS; rw [if_neg (by omega), if_pos (by omega)]; rfl) (fun j hj => by
                       by_cases q : j = c
                       · rw [q, pk_us, pk_us]
                       · rw [pk_un q, pk_un q]; exact hA j (by omega))
                     have eM : ∀ w, wr (up σ 117 g) 117 (nI (c + 1) - 1).toInt.toNat w = up σ 117 (upd g c w) := fun w => by
                       rw [wr, up_up, nI_pred, nIn (by omega)]; rfl
                     rw [eM]
                     rw [show 100 * r + (m + 1) = 100 * r + m + 1 from rfl, ← nI_1 (100 * r + m)] at ih1
                     simp only [f117, nI_pred, nIn (show c < 2147483648 by omega), hA c (by omega)] at c123
                     first
                     | (rw [bI_p c123] at ih1; exact ih1)
                     | (rw [bI_n c123] at ih1; exact ih1))
              · exfalso; simp only [f111, f112, f113, f117, eR, e5n, Int32.reduceToInt] at c22 c33 c44 c103; omega
        · exfalso; simp only [f111, f112, f113, f117, eR, e5n, Int32.reduceToInt] at c22; omega
      · obtain ⟨c, rfl⟩ : ∃ c, cnt = c + 2 := ⟨cnt - 2, by have := d3 (by omega) (by omega); omega⟩
        have e6 := nIt (n := c) (by omega)
        have e7 := nIt (n := c + 1) (by omega)
        refine go [9] 100 hX ?_
        refine ⟨_, _, rfl, ⟨by omega, by omega⟩, ?_⟩
        refine ⟨fun c22 => ?_, fun c22 => ?_⟩
        · refine ⟨_, _, rfl, ⟨by omega, by omega⟩, ?_⟩
          refine ⟨fun c33 => ?_, fun c33 => ?_⟩
          · exfalso; simp only [f111, f112, f113, f117, eR, e5n, Int32.reduceToInt] at c22 c33; omega
          · refine ⟨_, _, rfl, ⟨by omega, by omega⟩, ?_⟩
            refine ⟨fun c44 => ?_, fun c44 => ?_⟩
            · exfalso; simp only [f111, f112, f113, f117, eR, e5n, Int32.reduceToInt] at c22 c33 c44; omega
            · refine ⟨_, _, rfl, ⟨by omega, by omega⟩, ?_⟩
              refine ⟨fun c103 => ?_, fun c103 => ?_⟩
              · exfalso; simp only [f111, f112, f113, f117, eR, e5n, Int32.reduceToInt] at c22 c33 c44 c103; omega
              · refine ⟨_, _, rfl, ⟨by omega, by omega⟩, ?_⟩
                refine ⟨_, _, rfl, (by rw [pk_m1, nI_pred]; exact ⟨by omega, by omega⟩), ?_⟩
                refine ⟨_, _, rfl, (by rw [pk_m1]; exact ⟨by omega, by omega⟩), ?_⟩
                refine ⟨rfl, ?_⟩
                refine m_joined (c := C (S + m)) (by simp only [f112, e5n]; exact ho) ?_
                refine ⟨_, rfl, (by rw [pk_m1, nI_pred]; exact ⟨by omega, by omega⟩), ?_⟩
                first
                | (exfalso; simp only [f111, f112, f113, f117, eR, e5n, Int32.reduceToInt] at c22 c33 c44 c103; omega)
                | (have ih1 := ih (m + 1) (c + 1) (upd f c (wkd (C (S + m)) (f c) (f (c + 1)))) (upd g c (wkd (C (S + m)) (f c) (f (c + 1)))) (by omega) (by show svS _ _ _ = _; rw [hs]; unfold svS; rw [if_neg (by omega), if_neg (by omega)]; rfl) (fun j hj => by
                     by_cases q : j = c
                     · rw [q, pk_us, pk_us]
                     · rw [pk_un q, pk_un q]; exact hA j (by omega))
                   have eM : ∀ w, wr (up σ 117 g) 117 (nI (c + 2) + -1 - 1).toInt.toNat w = up σ 117 (upd g c w) := fun w => by
                     rw [wr, up_up, pk_m1, nI_pred, nIn (by omega)]; rfl
                   rw [eM, f117, pk_m1, nI_pred, nIn (show c < 2147483648 by omega), nIn (show c + 1 < 2147483648 by omega), hA c (by omega), hA (c + 1) (by omega)]
                   rw [show 100 * r + (m + 1) = 100 * r + m + 1 from rfl, ← nI_1 (100 * r + m)] at ih1
                   exact ih1)
        · exfalso; simp only [f111, f112, f113, f117, eR, e5n, Int32.reduceToInt] at c22; omega
  refine go [9] 40 hX ?_
  have := loop n 0 0 (fun _ => 0) (σ 117) (by omega) rfl (fun j hj => by omega)
  rw [up_id, Nat.add_zero, ← n100 hr] at this
  exact this
