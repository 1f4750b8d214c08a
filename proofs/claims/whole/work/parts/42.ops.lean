theorem s_givesChange {d : Nat} {σ : Mm} {Q : Qt} {v y : Int32} (hv : 0 ≤ v.toInt ∧ v.toInt < 30) (hL : I_la σ) (hl : 0 ≤ (σ 5 v.toInt.toNat).toInt ∧ (σ 5 v.toInt.toNat).toInt ≤ 2) (hQ : ∀ τ, Ag [29, 44] σ τ → Q (some (.int (bI (¬ (σ 35 v.toInt.toNat).toInt = 0 ∧ 0 < (σ 36 v.toInt.toNat).toInt ∧ ¬ (lifeF σ (σ 36) v.toInt.toNat).toInt < (y - σ 37 v.toInt.toNat).toInt ∧ ¬ (σ 20 (σ 5 v.toInt.toNat).toInt.toNat).toInt = 0 ∧ ¬ (lvF σ (σ 5 v.toInt.toNat).toInt.toNat 1 (nmO (σ 4) (σ 36) (σ 8) (σ 9) v.toInt.toNat (y - σ 37 v.toInt.toNat))).toInt = 0)))) τ) : Call (d + 5) k_X8_givesChange [.ref 34, .int v, .int y] σ Q := by
  refine Call_st 120 fun X hX => ?_
  refine ⟨_, _, rfl, (by refine ⟨?_, ?_⟩ <;> omega), ?_⟩
  refine ⟨_, _, rfl, (by refine ⟨?_, ?_⟩ <;> omega), ?_⟩
  refine ⟨fun c16 => ?_, fun c16 => ?_⟩
  · refine ⟨rfl, Or.inl rfl, ?_⟩
    first
    | exact bI_f (hQ _ Ag.rf) (by omega)
    | exact bI_f (hQ _ (Ag.up (Ag.up Ag.rf rfl) rfl)) (by omega)
    | exact bI_f (hQ _ (Ag.up (Ag.up Ag.rf rfl) rfl)) (fun q => q.2.2.2.1 c46)
    | (have e : lvF (up (up (up σ 44 h31b) 29 h31a) 44 h65a) (σ 5 v.toInt.toNat).toInt.toNat 1 h65a = lvF σ (σ 5 v.toInt.toNat).toInt.toNat 1 (nmO (σ 4) (σ 36) (σ 8) (σ 9) v.toInt.toNat (y - σ 37 v.toInt.toNat)) := lvF_cong (σ := σ) (τ := up (up (up σ 44 h31b) 29 h31a) 44 h65a) (l := (σ 5 v.toInt.toNat).toInt.toNat) (N := nmO (σ 4) (σ 36) (σ 8) (σ 9) v.toInt.toNat (y - σ 37 v.toInt.toNat)) rfl rfl rfl rfl rfl rfl (by omega) h65b
       first
       | exact bI_t (hQ _ (Ag.up (Ag.up (Ag.up (Ag.up Ag.rf rfl) rfl) rfl) rfl)) ⟨by assumption, by assumption, by assumption, c46, fun z => c71 (by rw [← e] at z; exact z)⟩
       | exact bI_f (hQ _ (Ag.up (Ag.up (Ag.up (Ag.up Ag.rf rfl) rfl) rfl) rfl)) (fun q => q.2.2.2.2 (by rw [← e]; exact c71)))
  · refine ⟨_, _, rfl, (by refine ⟨?_, ?_⟩ <;> omega), ?_⟩
    refine ⟨fun c25 => ?_, fun c25 => ?_⟩
    · refine ⟨rfl, rfl, ?_⟩
      refine s_isEnded2 hv hL hl (fun h31a h31b => ?_)
      refine ⟨fun c34 => ?_, fun c34 => ?_⟩
      · replace c34 := bI_z c34
        refine ⟨_, _, rfl, (show ixs (σ 5 v.toInt.toNat) 3 from ⟨by omega, by omega⟩), ?_⟩
        refine ⟨fun c46 => ?_, fun c46 => ?_⟩
        · refine ⟨rfl, Or.inl rfl, ?_⟩
          first
          | exact bI_f (hQ _ Ag.rf) (by omega)
          | exact bI_f (hQ _ (Ag.up (Ag.up Ag.rf rfl) rfl)) (by omega)
          | exact bI_f (hQ _ (Ag.up (Ag.up Ag.rf rfl) rfl)) (fun q => q.2.2.2.1 c46)
          | (have e : lvF (up (up (up σ 44 h31b) 29 h31a) 44 h65a) (σ 5 v.toInt.toNat).toInt.toNat 1 h65a = lvF σ (σ 5 v.toInt.toNat).toInt.toNat 1 (nmO (σ 4) (σ 36) (σ 8) (σ 9) v.toInt.toNat (y - σ 37 v.toInt.toNat)) := lvF_cong (σ := σ) (τ := up (up (up σ 44 h31b) 29 h31a) 44 h65a) (l := (σ 5 v.toInt.toNat).toInt.toNat) (N := nmO (σ 4) (σ 36) (σ 8) (σ 9) v.toInt.toNat (y - σ 37 v.toInt.toNat)) rfl rfl rfl rfl rfl rfl (by omega) h65b
             first
             | exact bI_t (hQ _ (Ag.up (Ag.up (Ag.up (Ag.up Ag.rf rfl) rfl) rfl) rfl)) ⟨by assumption, by assumption, by assumption, c46, fun z => c71 (by rw [← e] at z; exact z)⟩
             | exact bI_f (hQ _ (Ag.up (Ag.up (Ag.up (Ag.up Ag.rf rfl) rfl) rfl) rfl)) (fun q => q.2.2.2.2 (by rw [← e]; exact c71)))
        · refine ⟨_, _, rfl, (by refine ⟨?_, ?_⟩ <;> omega), ?_⟩
          refine ⟨rfl, rfl, ?_⟩
          refine s_namesOf hv (fun h65a h65b => ?_)
          refine ⟨rfl, rfl, ?_⟩
          refine s_val 1 (I_la_fr (σ := σ) rfl rfl rfl rfl rfl rfl rfl rfl rfl rfl rfl hL) hl (by decide) c46 (fun h68a => ?_)
          refine ⟨fun c71 => ?_, fun c71 => ?_⟩
          · refine ⟨rfl, Or.inl rfl, ?_⟩
            first
            | exact bI_f (hQ _ Ag.rf) (by omega)
            | exact bI_f (hQ _ (Ag.up (Ag.up Ag.rf rfl) rfl)) (by omega)
            | exact bI_f (hQ _ (Ag.up (Ag.up Ag.rf rfl) rfl)) (fun q => q.2.2.2.1 c46)
            | (have e : lvF (up (up (up σ 44 h31b) 29 h31a) 44 h65a) (σ 5 v.toInt.toNat).toInt.toNat 1 h65a = lvF σ (σ 5 v.toInt.toNat).toInt.toNat 1 (nmO (σ 4) (σ 36) (σ 8) (σ 9) v.toInt.toNat (y - σ 37 v.toInt.toNat)) := lvF_cong (σ := σ) (τ := up (up (up σ 44 h31b) 29 h31a) 44 h65a) (l := (σ 5 v.toInt.toNat).toInt.toNat) (N := nmO (σ 4) (σ 36) (σ 8) (σ 9) v.toInt.toNat (y - σ 37 v.toInt.toNat)) rfl rfl rfl rfl rfl rfl (by omega) h65b
               first
               | exact bI_t (hQ _ (Ag.up (Ag.up (Ag.up (Ag.up Ag.rf rfl) rfl) rfl) rfl)) ⟨by assumption, by assumption, by assumption, c46, fun z => c71 (by rw [← e] at z; exact z)⟩
               | exact bI_f (hQ _ (Ag.up (Ag.up (Ag.up (Ag.up Ag.rf rfl) rfl) rfl) rfl)) (fun q => q.2.2.2.2 (by rw [← e]; exact c71)))
          · refine ⟨rfl, Or.inr rfl, ?_⟩
            first
            | exact bI_f (hQ _ Ag.rf) (by omega)
            | exact bI_f (hQ _ (Ag.up (Ag.up Ag.rf rfl) rfl)) (by omega)
            | exact bI_f (hQ _ (Ag.up (Ag.up Ag.rf rfl) rfl)) (fun q => q.2.2.2.1 c46)
            | (have e : lvF (up (up (up σ 44 h31b) 29 h31a) 44 h65a) (σ 5 v.toInt.toNat).toInt.toNat 1 h65a = lvF σ (σ 5 v.toInt.toNat).toInt.toNat 1 (nmO (σ 4) (σ 36) (σ 8) (σ 9) v.toInt.toNat (y - σ 37 v.toInt.toNat)) := lvF_cong (σ := σ) (τ := up (up (up σ 44 h31b) 29 h31a) 44 h65a) (l := (σ 5 v.toInt.toNat).toInt.toNat) (N := nmO (σ 4) (σ 36) (σ 8) (σ 9) v.toInt.toNat (y - σ 37 v.toInt.toNat)) rfl rfl rfl rfl rfl rfl (by omega) h65b
               first
               | exact bI_t (hQ _ (Ag.up (Ag.up (Ag.up (Ag.up Ag.rf rfl) rfl) rfl) rfl)) ⟨by assumption, by assumption, by assumption, c46, fun z => c71 (by rw [← e] at z; exact z)⟩
               | exact bI_f (hQ _ (Ag.up (Ag.up (Ag.up (Ag.up Ag.rf rfl) rfl) rfl) rfl)) (fun q => q.2.2.2.2 (by rw [← e]; exact c71)))
      · replace c34 := bI_nz c34
        refine ⟨rfl, Or.inl rfl, ?_⟩
        first
        | exact bI_f (hQ _ Ag.rf) (by omega)
        | exact bI_f (hQ _ (Ag.up (Ag.up Ag.rf rfl) rfl)) (by omega)
        | exact bI_f (hQ _ (Ag.up (Ag.up Ag.rf rfl) rfl)) (fun q => q.2.2.2.1 c46)
        | (have e : lvF (up (up (up σ 44 h31b) 29 h31a) 44 h65a) (σ 5 v.toInt.toNat).toInt.toNat 1 h65a = lvF σ (σ 5 v.toInt.toNat).toInt.toNat 1 (nmO (σ 4) (σ 36) (σ 8) (σ 9) v.toInt.toNat (y - σ 37 v.toInt.toNat)) := lvF_cong (σ := σ) (τ := up (up (up σ 44 h31b) 29 h31a) 44 h65a) (l := (σ 5 v.toInt.toNat).toInt.toNat) (N := nmO (σ 4) (σ 36) (σ 8) (σ 9) v.toInt.toNat (y - σ 37 v.toInt.toNat)) rfl rfl rfl rfl rfl rfl (by omega) h65b
           first
           | exact bI_t (hQ _ (Ag.up (Ag.up (Ag.up (Ag.up Ag.rf rfl) rfl) rfl) rfl)) ⟨by assumption, by assumption, by assumption, c46, fun z => c71 (by rw [← e] at z; exact z)⟩
           | exact bI_f (hQ _ (Ag.up (Ag.up (Ag.up (Ag.up Ag.rf rfl) rfl) rfl) rfl)) (fun q => q.2.2.2.2 (by rw [← e]; exact c71)))
    · refine ⟨rfl, Or.inl rfl, ?_⟩
      first
      | exact bI_f (hQ _ Ag.rf) (by omega)
      | exact bI_f (hQ _ (Ag.up (Ag.up Ag.rf rfl) rfl)) (by omega)
      | exact bI_f (hQ _ (Ag.up (Ag.up Ag.rf rfl) rfl)) (fun q => q.2.2.2.1 c46)
      | (have e : lvF (up (up (up σ 44 h31b) 29 h31a) 44 h65a) (σ 5 v.toInt.toNat).toInt.toNat 1 h65a = lvF σ (σ 5 v.toInt.toNat).toInt.toNat 1 (nmO (σ 4) (σ 36) (σ 8) (σ 9) v.toInt.toNat (y - σ 37 v.toInt.toNat)) := lvF_cong (σ := σ) (τ := up (up (up σ 44 h31b) 29 h31a) 44 h65a) (l := (σ 5 v.toInt.toNat).toInt.toNat) (N := nmO (σ 4) (σ 36) (σ 8) (σ 9) v.toInt.toNat (y - σ 37 v.toInt.toNat)) rfl rfl rfl rfl rfl rfl (by omega) h65b
         first
         | exact bI_t (hQ _ (Ag.up (Ag.up (Ag.up (Ag.up Ag.rf rfl) rfl) rfl) rfl)) ⟨by assumption, by assumption, by assumption, c46, fun z => c71 (by rw [← e] at z; exact z)⟩
         | exact bI_f (hQ _ (Ag.up (Ag.up (Ag.up (Ag.up Ag.rf rfl) rfl) rfl) rfl)) (fun q => q.2.2.2.2 (by rw [← e]; exact c71)))
def standsR (v x y w : Int32) (σ : Mm) : Int32 := if (0 ≤ v.toInt ∧ v.toInt < (σ 3 0).toInt) ∧ ((0 ≤ x.toInt ∧ x.toInt ≤ 900) ∧ (0 ≤ y.toInt ∧ y.toInt ≤ 900)) ∧ (0 ≤ w.toInt ∧ w.toInt ≤ 4) then (if ((Fin_ σ x y) 0 v.toInt.toNat).toInt = 0 then -1000000002 else if w.toInt = 0 then (Fin_ σ x y) 1 v.toInt.toNat else if w.toInt = 1 then bI ((lifeF σ ((Fin_ σ x y) 1) v.toInt.toNat).toInt < (x - (Fin_ σ x y) 2 v.toInt.toNat).toInt) else if w.toInt = 2 then lifeF σ ((Fin_ σ x y) 1) v.toInt.toNat else if w.toInt = 3 then (Fin_ σ x y) 2 v.toInt.toNat else bI (0 < ((Fin_ σ x y) 1 v.toInt.toNat).toInt ∧ ¬ (lifeF σ ((Fin_ σ x y) 1) v.toInt.toNat).toInt < (x - (Fin_ σ x y) 2 v.toInt.toNat).toInt ∧ ¬ (σ 20 (σ 5 v.toInt.toNat).toInt.toNat).toInt = 0 ∧ ¬ (lvF σ (σ 5 v.toInt.toNat).toInt.toNat 1 (nmO (σ 4) ((Fin_ σ x y) 1) (σ 8) (σ 9) v.toInt.toNat (x - (Fin_ σ x y) 2 v.toInt.toNat))).toInt = 0)) else -1000000001
theorem nmO_w {k w w' t b : Nat → Int32} {v : Nat} {a a' : Int32} (h : w v = w' v) (ha : a = a') : nmO k w t b v a = nmO k w' t b v a' := by
  funext i
  unfold nmO
  rw [h, ha]
theorem lvF_ag {σ τ : Mm} {L : List Nat} (hA : Ag L σ τ) (h : ([22, 23, 24, 26, 27, 28] : List Nat).all (fun k => !cu L k) = true) {l p : Nat} {N N' : Nat → Int32} (hl : l < 3) (hN : N' = N) : lvF τ l p N' = lvF σ l p N := by
  have q : ∀ k, ([22, 23, 24, 26, 27, 28] : List Nat).contains k = true → τ k = σ k := fun k hk => hA k (by
    have := List.all_eq_true.mp h k (List.contains_iff_mem.mp hk)
    simpa using this)
  exact lvF_cong (q 22 rfl) (q 23 rfl) (q 24 rfl) (q 26 rfl) (q 27 rfl) (q 28 rfl) hl (fun i _ => by rw [hN])
theorem life_ag {σ τ : Mm} {L : List Nat} (hA : Ag L σ τ) (h : ([4, 5, 8, 9, 20, 22, 23, 24, 26, 27, 28] : List Nat).all (fun k => !cu L k) = true) {v : Nat} {w w' : Nat → Int32} (hl : (σ 5 v).toInt ≤ 2) (hw : w' v = w v) : lifeF τ w' v = lifeF σ w v := by
  have q : ∀ k, ([4, 5, 8, 9, 20, 22, 23, 24, 26, 27, 28] : List Nat).contains k = true → τ k = σ k := fun k hk => hA k (by
    have := List.all_eq_true.mp h k (List.contains_iff_mem.mp hk)
    simpa using this)
  exact (lifeF_cong (q 4 rfl) (q 5 rfl) (q 8 rfl) (q 9 rfl) (q 20 rfl) (q 22 rfl) (q 23 rfl) (q 24 rfl) (q 26 rfl) (q 27 rfl) (q 28 rfl) hl).trans (lifeF_w hw)
theorem life_up {σ : Mm} {g w : Nat → Int32} {v : Nat} (hl : (σ 5 v).toInt ≤ 2) : lifeF (up σ 117 g) w v = lifeF σ w v := lifeF_cong (σ := σ) (τ := up σ 117 g) rfl rfl rfl rfl rfl rfl rfl rfl rfl rfl rfl hl
theorem Inv_GU {σ τ : Mm} {g : Nat → Int32} (hI : Inv σ) (hA : Ag LsG σ τ) (h88 : ∀ j, j ≠ 26 → τ 88 j = σ 88 j) : Inv (up τ 117 g) := Inv_G hI (Ag.up hA rfl) (fun j hj => h88 j hj)
theorem Inv_GW {σ τ : Mm} {g g2 : Nat → Int32} (hI : Inv σ) (hA : Ag LsG σ τ) (h88 : ∀ j, j ≠ 26 → τ 88 j = σ 88 j) : Inv (up (up τ 117 g) 117 g2) := Inv_G hI (Ag.up (Ag.up hA rfl) rfl) (fun j hj => h88 j hj)
set_option maxRecDepth 10000 in
theorem cs_stands {v x y w : Int32} (σ : Mm) (Q : Qt) (hI : Inv σ) (hQ : ∀ τ, Ag LsP σ τ → Q (some (.int (standsR v x y w σ))) τ) : Call 120 k_X11_stands [.ref 0, .int v, .int x, .int y, .int w] σ Q := by
  obtain ⟨⟨v0, v1, v2, v3, v4, v5, v6⟩, ⟨v7, v8⟩, v9⟩ := id (hI.2.1)
  refine Call_st 200 fun X hX => ?_
  refine ⟨rfl, rfl, ?_⟩
  refine s_vhas ?_
  refine ⟨fun c8 => ?_, fun c8 => ?_⟩
  · replace c8 := bI_z c8
    refine ⟨rfl, trivial, ?_⟩
    try simp only [Int32.reduceToInt] at c8
    unfold standsR at hQ
    rw [if_neg (by omega)] at hQ
    exact hQ _ Ag.rf
  · replace c8 := bI_nz c8
    refine ⟨rfl, ?_⟩
    refine s_areDays ?_
    refine ⟨fun c16 => ?_, fun c16 => ?_⟩
    · replace c16 := bI_z c16
      refine ⟨rfl, trivial, ?_⟩
      try simp only [Int32.reduceToInt] at c8 c16
      unfold standsR at hQ
      rw [if_neg (by omega)] at hQ
      exact hQ _ Ag.rf
    · replace c16 := bI_nz c16
      refine ⟨rfl, ?_⟩
      refine s_within ?_
      refine ⟨fun c26 => ?_, fun c26 => ?_⟩
      · replace c26 := bI_z c26
        refine ⟨rfl, trivial, ?_⟩
        try simp only [Int32.reduceToInt] at c8 c16 c26
        unfold standsR at hQ
        rw [if_neg (by omega)] at hQ
        exact hQ _ Ag.rf
      · replace c26 := bI_nz c26
        refine ⟨rfl, rfl, ?_⟩
        refine s_play hI (fun h38a h38b h38c h38d h38e => ?_)
        have hIT := Inv_P hI h38c
        have hL := hIT.2.2.2.2.2.2.2.2.2.2.1
        have hVT := hIT.2.1
        have hlv := (v9 v.toInt.toNat (by omega)).2.1
        have f5 : h38a 5 = σ 5 := h38c 5 rfl
        have hl : 0 ≤ (h38a 5 v.toInt.toNat).toInt ∧ (h38a 5 v.toInt.toNat).toInt ≤ 2 := by rw [f5]; exact hlv
        obtain ⟨u0, u1, u2⟩ : h38a 35 v.toInt.toNat = Fin_ σ x y 0 v.toInt.toNat ∧ h38a 36 v.toInt.toNat = Fin_ σ x y 1 v.toInt.toNat ∧ h38a 37 v.toInt.toNat = Fin_ σ x y 2 v.toInt.toNat := Vw.v h38d h38e (by omega)
        have eL : lifeF h38a (h38a 36) v.toInt.toNat = lifeF σ (Fin_ σ x y 1) v.toInt.toNat := life_ag h38c rfl hlv.2 u1
        refine ⟨_, _, rfl, (by refine ⟨?_, ?_⟩ <;> omega), ?_⟩
        refine ⟨fun c50 => ?_, fun c50 => ?_⟩
        · refine ⟨rfl, trivial, ?_⟩
          try simp only [Int32.reduceToInt] at c8 c16 c26 h38a h38b h38c h38d h38e c50
          unfold standsR at hQ
          rw [if_pos (by omega)] at hQ
          rw [if_pos (by rw [← u0]; omega)] at hQ
          exact hQ _ h38c
        · refine ⟨fun c58_0 => ?_, fun c58_0 => ?_⟩
          · refine ⟨_, _, rfl, (by refine ⟨?_, ?_⟩ <;> omega), ?_⟩
            refine ⟨rfl, trivial, ?_⟩
            try simp only [Int32.reduceToInt] at c8 c16 c26 h38a h38b h38c h38d h38e c50 c58_0
            unfold standsR at hQ
            rw [if_pos (by omega)] at hQ
            rw [if_neg (by rw [← u0]; omega)] at hQ
            rw [if_pos c58_0] at hQ
            refine Qe (hQ _ h38c) (vI_ ?_) rfl
            exact u1
          refine ⟨fun c58_1 => ?_, fun c58_1 => ?_⟩
          · refine ⟨rfl, rfl, ?_⟩
            refine s_isEnded2 ⟨by omega, by omega⟩ hL hl (fun h104a h104b => ?_)
            refine ⟨fun c107 => ?_, fun c107 => ?_⟩
            · replace c107 := bI_z c107
              refine ⟨rfl, trivial, ?_⟩
              try simp only [Int32.reduceToInt] at c8 c16 c26 h38a h38b h38c h38d h38e c50 c58_0 c58_1 h104a h104b c107
              unfold standsR at hQ
              rw [if_pos (by omega)] at hQ
              rw [if_neg (by rw [← u0]; omega)] at hQ
              rw [if_neg c58_0] at hQ
              rw [if_pos c58_1] at hQ
              rw [eL, u2] at c107
              first | exact bI_t (hQ _ (Ag.up (Ag.up h38c rfl) rfl)) c107 | exact bI_f (hQ _ (Ag.up (Ag.up h38c rfl) rfl)) c107
            · replace c107 := bI_nz c107
              refine ⟨rfl, trivial, ?_⟩
              try simp only [Int32.reduceToInt] at c8 c16 c26 h38a h38b h38c h38d h38e c50 c58_0 c58_1 h104a h104b c107
              unfold standsR at hQ
              rw [if_pos (by omega)] at hQ
              rw [if_neg (by rw [← u0]; omega)] at hQ
              rw [if_neg c58_0] at hQ
              rw [if_pos c58_1] at hQ
              rw [eL, u2] at c107
              first | exact bI_t (hQ _ (Ag.up (Ag.up h38c rfl) rfl)) c107 | exact bI_f (hQ _ (Ag.up (Ag.up h38c rfl) rfl)) c107
          refine ⟨fun c58_2 => ?_, fun c58_2 => ?_⟩
          · refine ⟨rfl, rfl, ?_⟩
            refine s_life ⟨by omega, by omega⟩ hL hl (fun h121a h121b => ?_)
            refine ⟨rfl, trivial, ?_⟩
            try simp only [Int32.reduceToInt] at c8 c16 c26 h38a h38b h38c h38d h38e c50 c58_0 c58_1 c58_2 h121a h121b
            unfold standsR at hQ
            rw [if_pos (by omega)] at hQ
            rw [if_neg (by rw [← u0]; omega)] at hQ
            rw [if_neg c58_0] at hQ
            rw [if_neg c58_1] at hQ
            rw [if_pos c58_2] at hQ
            refine Qe (hQ _ (Ag.tr h38c (Ag.wk h121b rfl))) (vI_ ?_) rfl
            exact eL
          refine ⟨fun c58_3 => ?_, fun c58_3 => ?_⟩
          · refine ⟨_, _, rfl, (by refine ⟨?_, ?_⟩ <;> omega), ?_⟩
            refine ⟨rfl, trivial, ?_⟩
            try simp only [Int32.reduceToInt] at c8 c16 c26 h38a h38b h38c h38d h38e c50 c58_0 c58_1 c58_2 c58_3
            unfold standsR at hQ
            rw [if_pos (by omega)] at hQ
            rw [if_neg (by rw [← u0]; omega)] at hQ
            rw [if_neg c58_0] at hQ
            rw [if_neg c58_1] at hQ
            rw [if_neg c58_2] at hQ
            rw [if_pos c58_3] at hQ
            refine Qe (hQ _ h38c) (vI_ ?_) rfl
            exact u2
          refine ⟨rfl, rfl, ?_⟩
          refine s_givesChange ⟨by omega, by omega⟩ hL hl (fun h141a h141b => ?_)
          refine ⟨fun c144 => ?_, fun c144 => ?_⟩
          · replace c144 := bI_z c144
            refine ⟨rfl, trivial, ?_⟩
            try simp only [Int32.reduceToInt] at c8 c16 c26 h38a h38b h38c h38d h38e c50 c58_0 c58_1 c58_2 c58_3 h141a h141b c144
            unfold standsR at hQ
            rw [if_pos (by omega)] at hQ
            rw [if_neg (by rw [← u0]; omega)] at hQ
            rw [if_neg c58_0] at hQ
            rw [if_neg c58_1] at hQ
            rw [if_neg c58_2] at hQ
            rw [if_neg c58_3] at hQ
            have eV : lvF h38a (h38a 5 v.toInt.toNat).toInt.toNat 1 (nmO (h38a 4) (h38a 36) (h38a 8) (h38a 9) v.toInt.toNat (x - h38a 37 v.toInt.toNat)) = lvF σ (σ 5 v.toInt.toNat).toInt.toNat 1 (nmO (σ 4) ((Fin_ σ x y) 1) (σ 8) (σ 9) v.toInt.toNat (x - (Fin_ σ x y) 2 v.toInt.toNat)) := by
              rw [f5, h38c 4 rfl, h38c 8 rfl, h38c 9 rfl]
              exact lvF_ag h38c rfl (by omega) (nmO_w u1 (by rw [u2]))
            rw [eV, eL, u0, u1, u2, f5, h38c 20 rfl] at c144
            have hag := Ag.tr h38c (Ag.wk (M := LsP) h141b rfl)
            first
            | exact bI_t (hQ _ hag) c144.2
            | exact bI_f (hQ _ hag) (fun q => c144 ⟨by rw [← u0]; assumption, q⟩)
          · replace c144 := bI_nz c144
            refine ⟨rfl, trivial, ?_⟩
            try simp only [Int32.reduceToInt] at c8 c16 c26 h38a h38b h38c h38d h38e c50 c58_0 c58_1 c58_2 c58_3 h141a h141b c144
            unfold standsR at hQ
            rw [if_pos (by omega)] at hQ
            rw [if_neg (by rw [← u0]; omega)] at hQ
            rw [if_neg c58_0] at hQ
            rw [if_neg c58_1] at hQ
            rw [if_neg c58_2] at hQ
            rw [if_neg c58_3] at hQ
            have eV : lvF h38a (h38a 5 v.toInt.toNat).toInt.toNat 1 (nmO (h38a 4) (h38a 36) (h38a 8) (h38a 9) v.toInt.toNat (x - h38a 37 v.toInt.toNat)) = lvF σ (σ 5 v.toInt.toNat).toInt.toNat 1 (nmO (σ 4) ((Fin_ σ x y) 1) (σ 8) (σ 9) v.toInt.toNat (x - (Fin_ σ x y) 2 v.toInt.toNat)) := by
              rw [f5, h38c 4 rfl, h38c 8 rfl, h38c 9 rfl]
              exact lvF_ag h38c rfl (by omega) (nmO_w u1 (by rw [u2]))
            rw [eV, eL, u0, u1, u2, f5, h38c 20 rfl] at c144
            have hag := Ag.tr h38c (Ag.wk (M := LsP) h141b rfl)
            first
            | exact bI_t (hQ _ hag) c144.2
            | exact bI_f (hQ _ hag) (fun q => c144 ⟨by rw [← u0]; assumption, q⟩)
set_option maxHeartbeats 8000000 in
set_option maxRecDepth 10000 in
theorem ms_stands {v x y w : Int32} (σ : Mm) (Q : Qt) (hI : Inv σ) (hQ : ∀ τ, Inv τ → Q (some (.int (standsR v x y w σ))) τ) : Call 120 k_X12_stands [.ref 88, .int v, .int x, .int y, .int w] σ Q := by
  obtain ⟨⟨v0, v1, v2, v3, v4, v5, v6⟩, ⟨v7, v8⟩, v9⟩ := id (hI.2.1)
  have qvouchers : (σ 88 4).toInt = (σ 3 0).toInt := by rw [v0]
  refine Call_st 200 fun X hX => ?_
  refine ⟨rfl, rfl, ?_⟩
  refine m_isVoucher (by omega) ?_
  refine ⟨fun c5 => ?_, fun c5 => ?_⟩
  · replace c5 := bI_z c5
    refine ⟨rfl, trivial, ?_⟩
    try simp only [Int32.reduceToInt] at c5
    unfold standsR at hQ
    rw [if_neg (by omega)] at hQ
    exact hQ _ hI
  · replace c5 := bI_nz c5
    refine ⟨rfl, ?_⟩
    refine m_isDay ?_
    refine ⟨fun c12 => ?_, fun c12 => ?_⟩
    · replace c12 := bI_z c12
      refine ⟨rfl, trivial, ?_⟩
      try simp only [Int32.reduceToInt] at c5 c12
      unfold standsR at hQ
      rw [if_neg (by omega)] at hQ
      exact hQ _ hI
    · replace c12 := bI_nz c12
      refine ⟨rfl, ?_⟩
      refine m_isDay ?_
      refine ⟨fun c19 => ?_, fun c19 => ?_⟩
      · replace c19 := bI_z c19
        refine ⟨rfl, trivial, ?_⟩
        try simp only [Int32.reduceToInt] at c5 c12 c19
        unfold standsR at hQ
        rw [if_neg (by omega)] at hQ
        exact hQ _ hI
      · replace c19 := bI_nz c19
        refine ⟨rfl, ?_⟩
        refine m_isIn ?_
        refine ⟨fun c29 => ?_, fun c29 => ?_⟩
        · replace c29 := bI_z c29
          refine ⟨rfl, trivial, ?_⟩
          try simp only [Int32.reduceToInt] at c5 c12 c19 c29
          unfold standsR at hQ
          rw [if_neg (by omega)] at hQ
          exact hQ _ hI
        · replace c29 := bI_nz c29
          refine ⟨rfl, rfl, ?_⟩
          refine m_goThrough hI (by omega) (fun h38a h38b h38c h38d h38e h38f => ?_)
          have hIT := Inv_G hI h38c h38d
          have hL := hIT.2.2.2.2.2.2.2.2.2.2.1
          have hVT := hIT.2.1
          have hlv := (v9 v.toInt.toNat (by omega)).2.1
          have f5 : h38a 5 = σ 5 := h38c 5 rfl
          have hl : 0 ≤ (h38a 5 v.toInt.toNat).toInt ∧ (h38a 5 v.toInt.toNat).toInt ≤ 2 := by rw [f5]; exact hlv
          obtain ⟨u0, u1, u2⟩ : h38a 106 v.toInt.toNat = Fin_ σ x y 0 v.toInt.toNat ∧ h38a 107 v.toInt.toNat = Fin_ σ x y 1 v.toInt.toNat ∧ h38a 108 v.toInt.toNat = Fin_ σ x y 2 v.toInt.toNat := VwM.v h38e h38f (by omega)
          have eL : lifeF h38a (h38a 107) v.toInt.toNat = lifeF σ (Fin_ σ x y 1) v.toInt.toNat := life_ag h38c rfl hlv.2 u1
          refine ⟨_, _, rfl, (by refine ⟨?_, ?_⟩ <;> omega), ?_⟩
          refine ⟨fun c47 => ?_, fun c47 => ?_⟩
          · refine ⟨rfl, trivial, ?_⟩
            try simp only [Int32.reduceToInt] at c5 c12 c19 c29 h38a h38b h38c h38d h38e h38f c47
            unfold standsR at hQ
            rw [if_pos (by omega)] at hQ
            rw [if_pos (by rw [← u0]; omega)] at hQ
            exact hQ _ hIT
          · refine ⟨rfl, rfl, ?_⟩
            refine m_isEnded ⟨by omega, by omega⟩ hL hVT hl (fun h56a => ?_)
            refine ⟨_, _, rfl, (by refine ⟨?_, ?_⟩ <;> omega), ?_⟩
            refine ⟨fun c71_0 => ?_, fun c71_0 => ?_⟩
            · refine ⟨_, _, rfl, (by refine ⟨?_, ?_⟩ <;> omega), ?_⟩
              refine ⟨rfl, trivial, ?_⟩
              try simp only [Int32.reduceToInt] at c5 c12 c19 c29 h38a h38b h38c h38d h38e h38f c47 h56a c71_0
              unfold standsR at hQ
              rw [if_pos (by omega)] at hQ
              rw [if_neg (by rw [← u0]; omega)] at hQ
              rw [if_pos c71_0] at hQ
              refine Qe (hQ _ (Inv_GU hI h38c h38d)) (vI_ ?_) rfl
              exact u1
            refine ⟨fun c71_1 => ?_, fun c71_1 => ?_⟩
            · refine ⟨fun c109 => ?_, fun c109 => ?_⟩
              · replace c109 := bI_z c109
                refine ⟨rfl, trivial, ?_⟩
                try simp only [Int32.reduceToInt] at c5 c12 c19 c29 h38a h38b h38c h38d h38e h38f c47 h56a c71_0 c71_1 c109
                unfold standsR at hQ
                rw [if_pos (by omega)] at hQ
                rw [if_neg (by rw [← u0]; omega)] at hQ
                rw [if_neg c71_0] at hQ
                rw [if_pos c71_1] at hQ
                rw [eL, u2] at c109
                first | exact bI_t (hQ _ (Inv_GU hI h38c h38d)) c109 | exact bI_f (hQ _ (Inv_GU hI h38c h38d)) c109
              · replace c109 := bI_nz c109
                refine ⟨rfl, trivial, ?_⟩
                try simp only [Int32.reduceToInt] at c5 c12 c19 c29 h38a h38b h38c h38d h38e h38f c47 h56a c71_0 c71_1 c109
                unfold standsR at hQ
                rw [if_pos (by omega)] at hQ
                rw [if_neg (by rw [← u0]; omega)] at hQ
                rw [if_neg c71_0] at hQ
                rw [if_pos c71_1] at hQ
                rw [eL, u2] at c109
                first | exact bI_t (hQ _ (Inv_GU hI h38c h38d)) c109 | exact bI_f (hQ _ (Inv_GU hI h38c h38d)) c109
            refine ⟨fun c71_2 => ?_, fun c71_2 => ?_⟩
            · refine ⟨rfl, rfl, ?_⟩
              refine m_life2 ⟨by omega, by omega⟩ (I_la_fr (σ := h38a) rfl rfl rfl rfl rfl rfl rfl rfl rfl rfl rfl hL) (I_vo_fr (σ := h38a) rfl rfl rfl rfl rfl rfl rfl rfl rfl rfl rfl rfl rfl rfl rfl hVT) hl (fun h120a => ?_)
              refine ⟨rfl, trivial, ?_⟩
              try simp only [Int32.reduceToInt] at c5 c12 c19 c29 h38a h38b h38c h38d h38e h38f c47 h56a c71_0 c71_1 c71_2 h120a
              unfold standsR at hQ
              rw [if_pos (by omega)] at hQ
              rw [if_neg (by rw [← u0]; omega)] at hQ
              rw [if_neg c71_0] at hQ
              rw [if_neg c71_1] at hQ
              rw [if_pos c71_2] at hQ
              refine Qe (hQ _ (Inv_GW hI h38c h38d)) (vI_ ?_) rfl
              exact (life_up (w := h38a 107) hl.2).trans eL
            refine ⟨fun c71_3 => ?_, fun c71_3 => ?_⟩
            · refine ⟨_, _, rfl, (by refine ⟨?_, ?_⟩ <;> omega), ?_⟩
              refine ⟨rfl, trivial, ?_⟩
              try simp only [Int32.reduceToInt] at c5 c12 c19 c29 h38a h38b h38c h38d h38e h38f c47 h56a c71_0 c71_1 c71_2 c71_3
              unfold standsR at hQ
              rw [if_pos (by omega)] at hQ
              rw [if_neg (by rw [← u0]; omega)] at hQ
              rw [if_neg c71_0] at hQ
              rw [if_neg c71_1] at hQ
              rw [if_neg c71_2] at hQ
              rw [if_pos c71_3] at hQ
              refine Qe (hQ _ (Inv_GU hI h38c h38d)) (vI_ ?_) rfl
              exact u2
            refine ⟨fun c133 => ?_, fun c133 => ?_⟩
            · replace c133 := bI_z c133
              refine ⟨_, _, rfl, (by refine ⟨?_, ?_⟩ <;> omega), ?_⟩
              refine ⟨fun c142 => ?_, fun c142 => ?_⟩
              · refine ⟨_, _, rfl, (show ixs (h38a 91 v.toInt.toNat) 3 by rw [hVT.1.2.2.1]; exact ⟨by omega, by omega⟩), ?_⟩
                refine ⟨fun c152 => ?_, fun c152 => ?_⟩
                · refine ⟨rfl, trivial, ?_⟩
                  try simp only [Int32.reduceToInt] at c5 c12 c19 c29 h38a h38b h38c h38d h38e h38f c47 h56a c71_0 c71_1 c71_2 c71_3 c133 c142 c152
                  unfold standsR at hQ
                  rw [if_pos (by omega)] at hQ
                  rw [if_neg (by rw [← u0]; omega)] at hQ
                  rw [if_neg c71_0] at hQ
                  rw [if_neg c71_1] at hQ
                  rw [if_neg c71_2] at hQ
                  rw [if_neg c71_3] at hQ
                  rw [eL, u2] at c133
                  first
                  | exact bI_f (hQ _ (Inv_GU hI h38c h38d)) (fun q => q.2.1 c133)
                  | (have c142 : (h38a 107 v.toInt.toNat).toInt ≤ 0 := by first | exact Int.not_lt.mp c142 | omega
                     rw [u1] at c142
                     exact bI_f (hQ _ (Inv_GU hI h38c h38d)) (fun q => absurd q.1 (by omega)))
                  | (have c142 : 0 < (h38a 107 v.toInt.toNat).toInt := c142
                     rw [u1] at c142
                     have c152 : (h38a 110 (h38a 91 v.toInt.toNat).toInt.toNat).toInt = 0 := c152
                     rw [hVT.1.2.2.1, hL.1, f5, h38c 20 rfl] at c152
                     exact bI_f (hQ _ (Inv_GU hI h38c h38d)) (fun q => q.2.2.1 c152))
                  | (have c142 : 0 < (h38a 107 v.toInt.toNat).toInt := c142
                     rw [u1] at c142
                     have c152 : ¬ (h38a 110 (h38a 91 v.toInt.toNat).toInt.toNat).toInt = 0 := c152
                     rw [hVT.1.2.2.1, hL.1, f5, h38c 20 rfl] at c152
                     have eV : lvF (up h38a 117 h56a) (h38a 91 v.toInt.toNat).toInt.toNat 1 (nmO (h38a 90) (h38a 107) (h38a 94) (h38a 95) v.toInt.toNat (x - h38a 108 v.toInt.toNat)) = lvF σ (σ 5 v.toInt.toNat).toInt.toNat 1 (nmO (σ 4) ((Fin_ σ x y) 1) (σ 8) (σ 9) v.toInt.toNat (x - (Fin_ σ x y) 2 v.toInt.toNat)) := by
                       rw [hVT.1.2.1, hVT.1.2.2.1, hVT.1.2.2.2.2.2.1, hVT.1.2.2.2.2.2.2, f5, h38c 4 rfl, h38c 8 rfl, h38c 9 rfl]
                       exact lvF_ag (Ag.up h38c rfl) rfl (by omega) (nmO_w u1 (by rw [u2]))
                     have IN2 := Inv_GW (g := h56a) (g2 := h171a) hI h38c h38d
                     first
                     | exact bI_t (hQ _ IN2) ⟨c142, c133, c152, fun z => c174 (by rw [← eV] at z; exact z)⟩
                     | exact bI_f (hQ _ IN2) (fun q => q.2.2.2 (by rw [← eV]; exact c174)))
                · refine ⟨_, _, rfl, (by refine ⟨?_, ?_⟩ <;> omega), ?_⟩
                  refine ⟨rfl, rfl, ?_⟩
                  refine m_val (l := h38a 91 v.toInt.toNat) 1 (I_la_fr (σ := h38a) rfl rfl rfl rfl rfl rfl rfl rfl rfl rfl rfl hL) (show 0 ≤ (h38a 91 v.toInt.toNat).toInt ∧ (h38a 91 v.toInt.toNat).toInt ≤ 2 by rw [hVT.1.2.2.1]; exact hl) (by decide) c152 ⟨by omega, by omega⟩ rfl (fun h171a => ?_)
                  refine ⟨fun c174 => ?_, fun c174 => ?_⟩
                  · refine ⟨rfl, trivial, ?_⟩
                    try simp only [Int32.reduceToInt] at c5 c12 c19 c29 h38a h38b h38c h38d h38e h38f c47 h56a c71_0 c71_1 c71_2 c71_3 c133 c142 c152 h171a c174
                    unfold standsR at hQ
                    rw [if_pos (by omega)] at hQ
                    rw [if_neg (by rw [← u0]; omega)] at hQ
                    rw [if_neg c71_0] at hQ
                    rw [if_neg c71_1] at hQ
                    rw [if_neg c71_2] at hQ
                    rw [if_neg c71_3] at hQ
                    rw [eL, u2] at c133
                    first
                    | exact bI_f (hQ _ (Inv_GU hI h38c h38d)) (fun q => q.2.1 c133)
                    | (have c142 : (h38a 107 v.toInt.toNat).toInt ≤ 0 := by first | exact Int.not_lt.mp c142 | omega
                       rw [u1] at c142
                       exact bI_f (hQ _ (Inv_GU hI h38c h38d)) (fun q => absurd q.1 (by omega)))
                    | (have c142 : 0 < (h38a 107 v.toInt.toNat).toInt := c142
                       rw [u1] at c142
                       have c152 : (h38a 110 (h38a 91 v.toInt.toNat).toInt.toNat).toInt = 0 := c152
                       rw [hVT.1.2.2.1, hL.1, f5, h38c 20 rfl] at c152
                       exact bI_f (hQ _ (Inv_GU hI h38c h38d)) (fun q => q.2.2.1 c152))
                    | (have c142 : 0 < (h38a 107 v.toInt.toNat).toInt := c142
                       rw [u1] at c142
                       have c152 : ¬ (h38a 110 (h38a 91 v.toInt.toNat).toInt.toNat).toInt = 0 := c152
                       rw [hVT.1.2.2.1, hL.1, f5, h38c 20 rfl] at c152
                       have eV : lvF (up h38a 117 h56a) (h38a 91 v.toInt.toNat).toInt.toNat 1 (nmO (h38a 90) (h38a 107) (h38a 94) (h38a 95) v.toInt.toNat (x - h38a 108 v.toInt.toNat)) = lvF σ (σ 5 v.toInt.toNat).toInt.toNat 1 (nmO (σ 4) ((Fin_ σ x y) 1) (σ 8) (σ 9) v.toInt.toNat (x - (Fin_ σ x y) 2 v.toInt.toNat)) := by
                         rw [hVT.1.2.1, hVT.1.2.2.1, hVT.1.2.2.2.2.2.1, hVT.1.2.2.2.2.2.2, f5, h38c 4 rfl, h38c 8 rfl, h38c 9 rfl]
                         exact lvF_ag (Ag.up h38c rfl) rfl (by omega) (nmO_w u1 (by rw [u2]))
                       have IN2 := Inv_GW (g := h56a) (g2 := h171a) hI h38c h38d
                       first
                       | exact bI_t (hQ _ IN2) ⟨c142, c133, c152, fun z => c174 (by rw [← eV] at z; exact z)⟩
                       | exact bI_f (hQ _ IN2) (fun q => q.2.2.2 (by rw [← eV]; exact c174)))
                  · refine ⟨rfl, trivial, ?_⟩
                    try simp only [Int32.reduceToInt] at c5 c12 c19 c29 h38a h38b h38c h38d h38e h38f c47 h56a c71_0 c71_1 c71_2 c71_3 c133 c142 c152 h171a c174
                    unfold standsR at hQ
                    rw [if_pos (by omega)] at hQ
                    rw [if_neg (by rw [← u0]; omega)] at hQ
                    rw [if_neg c71_0] at hQ
                    rw [if_neg c71_1] at hQ
                    rw [if_neg c71_2] at hQ
                    rw [if_neg c71_3] at hQ
                    rw [eL, u2] at c133
                    first
                    | exact bI_f (hQ _ (Inv_GU hI h38c h38d)) (fun q => q.2.1 c133)
                    | (have c142 : (h38a 107 v.toInt.toNat).toInt ≤ 0 := by first | exact Int.not_lt.mp c142 | omega
                       rw [u1] at c142
                       exact bI_f (hQ _ (Inv_GU hI h38c h38d)) (fun q => absurd q.1 (by omega)))
                    | (have c142 : 0 < (h38a 107 v.toInt.toNat).toInt := c142
                       rw [u1] at c142
                       have c152 : (h38a 110 (h38a 91 v.toInt.toNat).toInt.toNat).toInt = 0 := c152
                       rw [hVT.1.2.2.1, hL.1, f5, h38c 20 rfl] at c152
                       exact bI_f (hQ _ (Inv_GU hI h38c h38d)) (fun q => q.2.2.1 c152))
                    | (have c142 : 0 < (h38a 107 v.toInt.toNat).toInt := c142
                       rw [u1] at c142
                       have c152 : ¬ (h38a 110 (h38a 91 v.toInt.toNat).toInt.toNat).toInt = 0 := c152
                       rw [hVT.1.2.2.1, hL.1, f5, h38c 20 rfl] at c152
                       have eV : lvF (up h38a 117 h56a) (h38a 91 v.toInt.toNat).toInt.toNat 1 (nmO (h38a 90) (h38a 107) (h38a 94) (h38a 95) v.toInt.toNat (x - h38a 108 v.toInt.toNat)) = lvF σ (σ 5 v.toInt.toNat).toInt.toNat 1 (nmO (σ 4) ((Fin_ σ x y) 1) (σ 8) (σ 9) v.toInt.toNat (x - (Fin_ σ x y) 2 v.toInt.toNat)) := by
                         rw [hVT.1.2.1, hVT.1.2.2.1, hVT.1.2.2.2.2.2.1, hVT.1.2.2.2.2.2.2, f5, h38c 4 rfl, h38c 8 rfl, h38c 9 rfl]
                         exact lvF_ag (Ag.up h38c rfl) rfl (by omega) (nmO_w u1 (by rw [u2]))
                       have IN2 := Inv_GW (g := h56a) (g2 := h171a) hI h38c h38d
                       first
                       | exact bI_t (hQ _ IN2) ⟨c142, c133, c152, fun z => c174 (by rw [← eV] at z; exact z)⟩
                       | exact bI_f (hQ _ IN2) (fun q => q.2.2.2 (by rw [← eV]; exact c174)))
              · refine ⟨rfl, trivial, ?_⟩
                try simp only [Int32.reduceToInt] at c5 c12 c19 c29 h38a h38b h38c h38d h38e h38f c47 h56a c71_0 c71_1 c71_2 c71_3 c133 c142
                unfold standsR at hQ
                rw [if_pos (by omega)] at hQ
                rw [if_neg (by rw [← u0]; omega)] at hQ
                rw [if_neg c71_0] at hQ
                rw [if_neg c71_1] at hQ
                rw [if_neg c71_2] at hQ
                rw [if_neg c71_3] at hQ
                rw [eL, u2] at c133
                first
                | exact bI_f (hQ _ (Inv_GU hI h38c h38d)) (fun q => q.2.1 c133)
                | (have c142 : (h38a 107 v.toInt.toNat).toInt ≤ 0 := by first | exact Int.not_lt.mp c142 | omega
                   rw [u1] at c142
                   exact bI_f (hQ _ (Inv_GU hI h38c h38d)) (fun q => absurd q.1 (by omega)))
                | (have c142 : 0 < (h38a 107 v.toInt.toNat).toInt := c142
                   rw [u1] at c142
                   have c152 : (h38a 110 (h38a 91 v.toInt.toNat).toInt.toNat).toInt = 0 := c152
                   rw [hVT.1.2.2.1, hL.1, f5, h38c 20 rfl] at c152
                   exact bI_f (hQ _ (Inv_GU hI h38c h38d)) (fun q => q.2.2.1 c152))
                | (have c142 : 0 < (h38a 107 v.toInt.toNat).toInt := c142
                   rw [u1] at c142
                   have c152 : ¬ (h38a 110 (h38a 91 v.toInt.toNat).toInt.toNat).toInt = 0 := c152
                   rw [hVT.1.2.2.1, hL.1, f5, h38c 20 rfl] at c152
                   have eV : lvF (up h38a 117 h56a) (h38a 91 v.toInt.toNat).toInt.toNat 1 (nmO (h38a 90) (h38a 107) (h38a 94) (h38a 95) v.toInt.toNat (x - h38a 108 v.toInt.toNat)) = lvF σ (σ 5 v.toInt.toNat).toInt.toNat 1 (nmO (σ 4) ((Fin_ σ x y) 1) (σ 8) (σ 9) v.toInt.toNat (x - (Fin_ σ x y) 2 v.toInt.toNat)) := by
                     rw [hVT.1.2.1, hVT.1.2.2.1, hVT.1.2.2.2.2.2.1, hVT.1.2.2.2.2.2.2, f5, h38c 4 rfl, h38c 8 rfl, h38c 9 rfl]
                     exact lvF_ag (Ag.up h38c rfl) rfl (by omega) (nmO_w u1 (by rw [u2]))
                   have IN2 := Inv_GW (g := h56a) (g2 := h171a) hI h38c h38d
                   first
                   | exact bI_t (hQ _ IN2) ⟨c142, c133, c152, fun z => c174 (by rw [← eV] at z; exact z)⟩
                   | exact bI_f (hQ _ IN2) (fun q => q.2.2.2 (by rw [← eV]; exact c174)))
            · replace c133 := bI_nz c133
              refine ⟨rfl, trivial, ?_⟩
              try simp only [Int32.reduceToInt] at c5 c12 c19 c29 h38a h38b h38c h38d h38e h38f c47 h56a c71_0 c71_1 c71_2 c71_3 c133
              unfold standsR at hQ
              rw [if_pos (by omega)] at hQ
              rw [if_neg (by rw [← u0]; omega)] at hQ
              rw [if_neg c71_0] at hQ
              rw [if_neg c71_1] at hQ
              rw [if_neg c71_2] at hQ
              rw [if_neg c71_3] at hQ
              rw [eL, u2] at c133
              first
              | exact bI_f (hQ _ (Inv_GU hI h38c h38d)) (fun q => q.2.1 c133)
              | (have c142 : (h38a 107 v.toInt.toNat).toInt ≤ 0 := by first | exact Int.not_lt.mp c142 | omega
                 rw [u1] at c142
                 exact bI_f (hQ _ (Inv_GU hI h38c h38d)) (fun q => absurd q.1 (by omega)))
              | (have c142 : 0 < (h38a 107 v.toInt.toNat).toInt := c142
                 rw [u1] at c142
                 have c152 : (h38a 110 (h38a 91 v.toInt.toNat).toInt.toNat).toInt = 0 := c152
                 rw [hVT.1.2.2.1, hL.1, f5, h38c 20 rfl] at c152
                 exact bI_f (hQ _ (Inv_GU hI h38c h38d)) (fun q => q.2.2.1 c152))
              | (have c142 : 0 < (h38a 107 v.toInt.toNat).toInt := c142
                 rw [u1] at c142
                 have c152 : ¬ (h38a 110 (h38a 91 v.toInt.toNat).toInt.toNat).toInt = 0 := c152
                 rw [hVT.1.2.2.1, hL.1, f5, h38c 20 rfl] at c152
                 have eV : lvF (up h38a 117 h56a) (h38a 91 v.toInt.toNat).toInt.toNat 1 (nmO (h38a 90) (h38a 107) (h38a 94) (h38a 95) v.toInt.toNat (x - h38a 108 v.toInt.toNat)) = lvF σ (σ 5 v.toInt.toNat).toInt.toNat 1 (nmO (σ 4) ((Fin_ σ x y) 1) (σ 8) (σ 9) v.toInt.toNat (x - (Fin_ σ x y) 2 v.toInt.toNat)) := by
                   rw [hVT.1.2.1, hVT.1.2.2.1, hVT.1.2.2.2.2.2.1, hVT.1.2.2.2.2.2.2, f5, h38c 4 rfl, h38c 8 rfl, h38c 9 rfl]
                   exact lvF_ag (Ag.up h38c rfl) rfl (by omega) (nmO_w u1 (by rw [u2]))
                 have IN2 := Inv_GW (g := h56a) (g2 := h171a) hI h38c h38d
                 first
                 | exact bI_t (hQ _ IN2) ⟨c142, c133, c152, fun z => c174 (by rw [← eV] at z; exact z)⟩
                 | exact bI_f (hQ _ IN2) (fun q => q.2.2.2 (by rw [← eV]; exact c174)))
theorem op_stands {σ : Mm} {v x y w : Int32} (hI : Inv σ) : Call 120 k_X11_stands [.ref 0, .int v, .int x, .int y, .int w] σ (fun r τ => Call 120 k_X12_stands [.ref 88, .int v, .int x, .int y, .int w] τ (fun r' τ' => (∃ x : Int32, r = some (.int x) ∧ r' = some (.int x)) ∧ Inv τ')) :=
  op_of (R := standsR v x y w) cs_stands ms_stands (fun σ τ hI hA => by
    unfold standsR
    rw [Fin_eq hI hA, hA 3 rfl]
    by_cases q : (0 ≤ v.toInt ∧ v.toInt < (σ 3 0).toInt) ∧ ((0 ≤ x.toInt ∧ x.toInt ≤ 900) ∧ (0 ≤ y.toInt ∧ y.toInt ≤ 900)) ∧ (0 ≤ w.toInt ∧ w.toInt ≤ 4)
    · have hlv := ((hI.2.1).2.2 v.toInt.toNat (by omega)).2.1
      rw [if_pos q, if_pos q, hA 5 rfl, hA 4 rfl, hA 8 rfl, hA 9 rfl, hA 20 rfl, life_ag hA rfl hlv.2 rfl, lvF_ag hA rfl (by omega) rfl]
    · rw [if_neg q, if_neg q]) hI
