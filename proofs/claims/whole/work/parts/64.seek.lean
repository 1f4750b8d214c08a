def dfT (σ : Mm) (m T : Nat) : Option Sst := dfI σ (dfB σ m (m - 1)) [] 0 m (T, alS σ [], [])
theorem cs_nil {σ τ : Mm} (h1 : ∀ i, i < (σ 45 0).toInt.toNat → τ 63 i = σ 46 i) (h2 : τ 70 0 = 0) : CsC σ τ [] := ⟨h1, h2⟩
theorem start_cs {σ τ : Mm} (hA : Ag MxL σ τ) : CsC σ (wr (up τ 63 (va_cpy (τ 46) (τ 63) 0 0 (τ 45 0).toInt.toNat)) 70 0 0) [] := by
  have f45 : τ 45 = σ 45 := hA 45 rfl
  have f46 : τ 46 = σ 46 := hA 46 rfl
  refine ⟨fun i hi => ?_, wr_v⟩
  show va_cpy _ _ 0 0 _ i = _
  rw [f45, f46, pk_cpy_in (Nat.zero_le _) (by omega)]
  congr 1
  omega
theorem s_seek {d : Nat} {σ : Mm} {Q : Qt} {m T : Nat} (hm : (σ 45 3).toInt = m) (hm6 : m ≤ 6) (hNN : 0 ≤ (σ 45 0).toInt ∧ (σ 45 0).toInt ≤ 8) (hd : ∀ a, a < m → (σ (52 + a) a).toInt = 0) (hT : T ≤ 5000) (h1 : dfT σ m T = none → ∀ τ, Ag MxL σ τ → Q (some (.int 0)) τ) (h2 : ∀ st, dfT σ m T = some st → ∀ τ, Ag MxL σ τ → StC σ m τ st → Q (some (.int 1)) τ) : Call (d + 12) k_X6_seek [.ref 58, .int (nI T)] σ Q := by
  refine Call_st 60 fun X hX => ?_
  refine ⟨rfl, rfl, ?_⟩
  refine s_start hNN ?_
  refine ⟨rfl, rfl, ?_⟩
  refine s_all hNN (by decide) ?_
  have hC0 := start_cs (σ := σ) (τ := σ) Ag.rf
  have hnn := hNN
  have e0 : alS σ [] = allF ((wr (up σ 63 (va_cpy (σ 46) (σ 63) 0 0 (σ 45 0).toInt.toNat)) 70 0 0) 63) ((wr (up σ 63 (va_cpy (σ 46) (σ 63) 0 0 (σ 45 0).toInt.toNat)) 70 0 0) 70 0) ((wr (up σ 63 (va_cpy (σ 46) (σ 63) 0 0 (σ 45 0).toInt.toNat)) 70 0 0) 45 0).toInt.toNat := by
    show allF (σ 46) 0 (σ 45 0).toInt.toNat = allF _ _ (σ 45 0).toInt.toNat
    have e2 : (wr (up σ 63 (va_cpy (σ 46) (σ 63) 0 0 (σ 45 0).toInt.toNat)) 70 0 0) 70 0 = 0 := wr_v
    rw [e2]
    exact (all_cong (fun i hi => hC0.1 i hi)).symm
  have hsk : ∀ Q' : Qt, (dfT σ m T = none → ∀ τ', Ag MxL σ τ' → Q' (some (.int 0)) τ') → (∀ st', dfT σ m T = some st' → ∀ τ', Ag MxL σ τ' → CsC σ τ' [] → StC σ m τ' st' → Q' (some (.int 1)) τ') → Call (d + 11) k_X6_seekBehind [.ref 58, .int 0] (wr (wr (wr (wr (up σ 63 (va_cpy (σ 46) (σ 63) 0 0 (σ 45 0).toInt.toNat)) 70 0 0) 58 0 (allF ((wr (up σ 63 (va_cpy (σ 46) (σ 63) 0 0 (σ 45 0).toInt.toNat)) 70 0 0) 63) ((wr (up σ 63 (va_cpy (σ 46) (σ 63) 0 0 (σ 45 0).toInt.toNat)) 70 0 0) 70 0) ((wr (up σ 63 (va_cpy (σ 46) (σ 63) 0 0 (σ 45 0).toInt.toNat)) 70 0 0) 45 0).toInt.toNat)) 58 1 0) 58 8 (nI T)) Q' := fun Q' h1 h2 => by
    refine Call_ge (a := 0 + m + 5) (by omega) ?_
    refine se_all hm hm6 hnn hd m 0 _ Q' 0 [] (T, alS σ [], []) (by show 0 + m = m; omega) rfl True.intro (Ag.wr (Ag.wr (Ag.wr (Ag.wr (Ag.up Ag.rf rfl) rfl) rfl) rfl) rfl) ?_ ⟨⟨rfl, ?_, rfl, True.intro⟩, True.intro, hT⟩ h1 h2
    · exact cs_cong (τ := (wr (up σ 63 (va_cpy (σ 46) (σ 63) 0 0 (σ 45 0).toInt.toNat)) 70 0 0)) (fun e he => by rw [wr_c (by omega), wr_c (by omega), wr_c (by omega)]) (fun e he => rfl) (fun e he => rfl) hC0
    · show _ = alS σ []
      rw [e0]
      rfl
  refine ⟨rfl, rfl, ?_⟩
  refine hsk _ (fun h25a h25b h25c => ?_) (fun h25a h25b h25c h25d h25e h25f => ?_)
  · refine ⟨rfl, Or.inl rfl, ?_⟩
    exact h1 h25a h25b h25c
  · refine ⟨rfl, Or.inr rfl, ?_⟩
    exact h2 h25a h25b h25c h25d h25f
/-- the first i of a row -/
def pfx (L : List Nat) (i : Nat) : List Nat := L.drop (L.length - i)
theorem pfx_0 (L : List Nat) : pfx L 0 = [] := by
  unfold pfx
  rw [Nat.sub_zero]
  exact List.drop_length
theorem pfx_all (L : List Nat) : pfx L L.length = L := by
  unfold pfx
  rw [Nat.sub_self]
  rfl
theorem pfx_cons {x : Nat} {l : List Nat} {i : Nat} (h : i ≤ l.length) : pfx (x :: l) i = pfx l i := by
  unfold pfx
  rw [List.length_cons, show l.length + 1 - i = (l.length - i) + 1 by omega]
  rfl
theorem pfx_s : ∀ {L : List Nat} {i : Nat}, i < L.length → pfx L (i + 1) = atR L i :: pfx L i
  | [], i, h => (Nat.not_lt_zero i h).elim
  | x :: l, i, h => by
    rw [List.length_cons] at h
    by_cases q : i = l.length
    · rw [q, atR_top, pfx_cons (Nat.le_refl _), pfx_all]
      exact pfx_all (x :: l)
    · rw [pfx_cons (by omega), pfx_cons (by omega), atR_low (by omega)]
      exact pfx_s (by omega)
theorem pfx_len {L : List Nat} {i : Nat} (h : i ≤ L.length) : (pfx L i).length = i := by
  unfold pfx
  rw [List.length_drop]
  omega
theorem nI_mul2 (i : Nat) : 2 * nI i = nI (2 * i) := by
  rw [Nat.two_mul, ← nI_add]
  exact Int32.two_mul
theorem s_writeRows {d : Nat} {σ τ : Mm} {Q : Qt} {m : Nat} {bs : List Nat} (hm : (σ 45 3).toInt = m) (hm6 : m ≤ 6) (hNN : 0 ≤ (σ 45 0).toInt ∧ (σ 45 0).toInt ≤ 8) (hd : ∀ a, a < m → (σ (52 + a) a).toInt = 0) (hA0 : Ag MxL σ τ) (hv : vlS σ m bs) (hb1 : τ 58 1 = nI bs.length) (hb2 : arr (τ 59) bs) (hQ : ∀ ρ : Mm, Ag MxL σ ρ → ρ 58 = τ 58 → ρ 59 = τ 59 → (∀ j, j < bs.length → ρ 60 (2 * j) = nI (atR bs j) ∧ ρ 60 (2 * j + 1) = alS σ (pfx bs (j + 1))) → Q (some (.int (nI (2 * bs.length)))) ρ) : Call (d + 5) k_X6_writeRows [.ref 58] τ Q := by
  have hlen := vl_len hd hv
  refine Call_go fun X hX => ?_
  have loop : ∀ (k i : Nat) (ρ : Mm), i + k = bs.length → Ag MxL σ ρ → CsC σ ρ (pfx bs i) → ρ 58 = τ 58 → ρ 59 = τ 59 → (∀ j, j < i → ρ 60 (2 * j) = nI (atR bs j) ∧ ρ 60 (2 * j + 1) = alS σ (pfx bs (j + 1))) → X 6 [.ref 58, .int (nI i)] [] ρ := by
    intro k
    induction k with
    | zero =>
      intro i ρ hi hA hC h58 h59 hr
      rw [Nat.add_zero] at hi
      have e1 := nIt (n := i) (by omega)
      have q58 : (ρ 58 1).toInt = bs.length := by rw [h58, hb1, nIt (by omega)]
      refine go [6] 100 hX ?_
      refine ⟨fun c11 => ?_, fun c11 => ?_⟩
      · exfalso; omega
      · refine ⟨rfl, trivial, ?_⟩
        subst hi
        refine Qe (hQ ρ hA h58 h59 hr) (vI_ ?_) rfl
        rw [h58, hb1, ← nI_mul2]
    | succ k ih =>
      intro i ρ hi hA hC h58 h59 hr
      have e1 := nIt (n := i) (by omega)
      have q58 : (ρ 58 1).toInt = bs.length := by rw [h58, hb1, nIt (by omega)]
      have e2 := nIn (i := i) (by omega)
      have hpl := pfx_len (L := bs) (i := i) (by omega)
      have hbi := vl_at hv i (by omega)
      have eb : ρ 59 (nI i).toInt.toNat = nI (atR bs i) := by rw [e2, h59]; exact arrAt bs hb2 i (by omega)
      have ei1 : (nI i + 1).toInt = (i : Int) + 1 := by rw [nI_1, nIt (by omega)]; omega
      have ei2 : (nI i + 1).toInt.toNat = i + 1 := by omega
      have e2i : 2 * nI i = nI (2 * i) := by rw [← nI_mul2]
      have e2j : (2 * nI i).toInt.toNat = 2 * i := by rw [e2i]; exact nIn (by omega)
      have e2k : (2 * nI i + 1).toInt.toNat = 2 * i + 1 := by rw [e2i, nI_1]; exact nIn (by omega)
      have e2l := nIt (n := 2 * i) (by omega)
      have e2m := nIt (n := 2 * i + 1) (by omega)
      refine go [6] 100 hX ?_
      refine ⟨fun c11 => ?_, fun c11 => ?_⟩
      · refine ⟨_, _, rfl, ⟨by omega, by omega⟩, ?_⟩
        refine ⟨rfl, rfl, ?_⟩
        refine s_workS (q := atR bs i) (L := pfx bs i) hNN hA hC (by omega) (by omega) eb (by rw [hpl]) (fun h22a h22b h22c h22d h22e h22f => ?_)
        have fA : ∀ c, h22a c = h22a c := fun _ => rfl
        have eb2 : h22a 59 (nI i).toInt.toNat = nI (atR bs i) := by rw [h22e]; exact eb
        refine ⟨_, _, rfl, ⟨by omega, by omega⟩, ?_⟩
        refine ⟨_, rfl, (by rw [e2i]; exact ⟨by omega, by omega⟩), ?_⟩
        refine ⟨rfl, rfl, ?_⟩
        refine s_all (by have f45 : h22a 45 = σ 45 := h22b 45 rfl; exact (f45 ▸ hNN : 0 ≤ (h22a 45 0).toInt ∧ (h22a 45 0).toInt ≤ 8)) (by omega) ?_
        refine ⟨_, rfl, (by rw [e2i, nI_1]; exact ⟨by omega, by omega⟩), ?_⟩
        have hps := pfx_s (L := bs) (i := i) (by omega)
        have hct := cs_top h22c
        rw [List.length_cons, hpl] at hct
        have hal : allF (h22a (63 + (nI i + 1).toInt.toNat)) (h22a 70 (nI i + 1).toInt.toNat) (h22a 45 0).toInt.toNat = alS σ (pfx bs (i + 1)) := by
          rw [ei2, hps, h22b 45 rfl, hct.2]
          exact all_cong hct.1
        refine (fun ih1 => ?_) (ih (i + 1) (wr (wr h22a 60 (2 * nI i).toInt.toNat (h22a 59 (nI i).toInt.toNat)) 60 (2 * nI i + 1).toInt.toNat (allF (h22a (63 + (nI i + 1).toInt.toNat)) (h22a 70 (nI i + 1).toInt.toNat) (h22a 45 0).toInt.toNat)) (by omega) (Ag.wr (Ag.wr h22b rfl) rfl) ?_ (h22d.trans h58) (h22e.trans h59) (fun j hj => ?_))
        · rw [← nI_1] at ih1
          have hW : wr h22a 60 (2 * nI i).toInt.toNat (h22a 59 (nI i).toInt.toNat) (63 + (nI i + 1).toInt.toNat) = h22a (63 + (nI i + 1).toInt.toNat) := wr_c (by omega)
          rw [hW]
          exact ih1
        · rw [hps]
          refine cs_cong (τ := h22a) (fun e he => ?_) (fun e he => rfl) (fun e he => rfl) h22c
          rw [List.length_cons, hpl] at he
          rw [wr_c (by omega), wr_c (by omega)]
        · rw [wr_k, wr_k, e2j, e2k, eb2, hal]
          unfold upd
          by_cases q : j = i
          · rw [q, if_neg (by omega), if_pos rfl, if_pos rfl]
            exact ⟨rfl, rfl⟩
          · rw [if_neg (by omega), if_neg (by omega), if_neg (by omega), if_neg (by omega), h22f]
            exact hr j (by omega)
      · exfalso; omega
  refine go [6] 20 hX ?_
  refine ⟨rfl, rfl, ?_⟩
  refine s_start (by rw [hA0 45 rfl]; exact hNN) ?_
  refine loop bs.length 0 _ (Nat.zero_add _) (Ag.wr (Ag.up hA0 rfl) rfl) ?_ rfl rfl (fun j hj => by omega)
  rw [pfx_0]
  exact start_cs hA0
