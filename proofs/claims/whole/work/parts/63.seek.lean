def MxL : List Nat := [58, 59, 60, 61, 63, 64, 65, 66, 67, 68, 69, 70]
def CsC (σ τ : Mm) : List Nat → Prop
  | [] => (∀ i, i < (σ 45 0).toInt.toNat → τ 63 i = σ 46 i) ∧ τ 70 0 = 0
  | p :: l => (∀ i, i < (σ 45 0).toInt.toNat → τ (63 + (l.length + 1)) i = (stS σ (p :: l)).1 i) ∧ τ 70 (l.length + 1) = (stS σ (p :: l)).2 ∧ τ 61 l.length = nI p ∧ CsC σ τ l
theorem cs_arr {σ τ : Mm} : ∀ {L : List Nat}, CsC σ τ L → arr (τ 61) L
  | [], _ => True.intro
  | _ :: _, h => ⟨h.2.2.1, cs_arr h.2.2.2⟩
theorem cs_top {σ τ : Mm} : ∀ {L : List Nat}, CsC σ τ L → (∀ i, i < (σ 45 0).toInt.toNat → τ (63 + L.length) i = (stS σ L).1 i) ∧ τ 70 L.length = (stS σ L).2
  | [], h => h
  | _ :: _, h => ⟨h.1, h.2.1⟩
theorem cs_cong {σ τ τ' : Mm} : ∀ {L : List Nat}, (∀ e, e ≤ L.length → τ' (63 + e) = τ (63 + e)) → (∀ e, e ≤ L.length → τ' 70 e = τ 70 e) → (∀ e, e < L.length → τ' 61 e = τ 61 e) → CsC σ τ L → CsC σ τ' L
  | [], h1, h2, _, h => ⟨fun i hi => by rw [show τ' 63 = τ 63 from h1 0 (Nat.le_refl 0)]; exact h.1 i hi, (h2 0 (Nat.le_refl 0)).trans h.2⟩
  | p :: l, h1, h2, h3, h => by
    refine ⟨fun i hi => ?_, ?_, ?_, cs_cong (fun e he => h1 e (by rw [List.length_cons]; omega)) (fun e he => h2 e (by rw [List.length_cons]; omega)) (fun e he => h3 e (by rw [List.length_cons]; omega)) h.2.2.2⟩
    · rw [h1 (l.length + 1) (Nat.le_refl _)]; exact h.1 i hi
    · rw [h2 (l.length + 1) (Nat.le_refl _)]; exact h.2.1
    · rw [h3 _ (by rw [List.length_cons]; omega)]; exact h.2.2.1
theorem ag_jr {L : List Nat} {σ τ : Mm} {a : Nat} (h : Ag L σ τ) (ha : a < 6) (hL : ([52, 53, 54, 55, 56, 57] : List Nat).all (fun k => !cu L k) = true) : τ (52 + a) = σ (52 + a) := by
  have q : ∀ k, ([52, 53, 54, 55, 56, 57] : List Nat).contains k = true → τ k = σ k := fun k hk => h k (by
    have := List.all_eq_true.mp hL k (List.contains_iff_mem.mp hk)
    simpa using this)
  rcases (show a = 0 ∨ a = 1 ∨ a = 2 ∨ a = 3 ∨ a = 4 ∨ a = 5 by omega) with rfl | rfl | rfl | rfl | rfl | rfl
  · exact q 52 rfl
  · exact q 53 rfl
  · exact q 54 rfl
  · exact q 55 rfl
  · exact q 56 rfl
  · exact q 57 rfl
theorem may_ag {K : List Nat} {σ τ : Mm} {L : List Nat} {q : Nat} (h : Ag K σ τ) (hL : ([52, 53, 54, 55, 56, 57] : List Nat).all (fun k => !cu K k) = true) (hat : ∀ j, j < L.length → atR L j < 6) : mayS τ L q ↔ mayS σ L q := by
  constructor
  · intro z j hj
    rw [← ag_jr h (hat j hj) hL]
    exact z j hj
  · intro z j hj
    rw [ag_jr h (hat j hj) hL]
    exact z j hj
/-- what a call of work does for a row -/
theorem s_workS {d : Nat} {σ τ : Mm} {Q : Qt} {p x : Int32} {q : Nat} {L : List Nat} (hN : 0 ≤ (σ 45 0).toInt ∧ (σ 45 0).toInt ≤ 8) (hA : Ag MxL σ τ) (hC : CsC σ τ L) (hL : L.length ≤ 5) (hq : q < 6) (ep : p = nI q) (ex : x = nI L.length) (hQ : ∀ ρ : Mm, Ag MxL σ ρ → CsC σ ρ (q :: L) → ρ 58 = τ 58 → ρ 59 = τ 59 → ρ 60 = τ 60 → Q none ρ) : Call (d + 4) k_X6_work [.ref 58, .int p, .int x] τ Q := by
  have f45 : τ 45 = σ 45 := hA 45 rfl
  have e1 := nIt (n := q) (by omega)
  have e2 := nIt (n := L.length) (by omega)
  have e3 := nIn (i := q) (by omega)
  have e4 := nIn (i := L.length) (by omega)
  subst ep
  subst ex
  refine s_work (by rw [f45]; exact hN) (by omega) (by omega) (fun ρ k1 k2 k3 k4 k5 => ?_)
  rw [e4, e3, f45, hA 48 rfl, hA 49 rfl, hA 50 rfl, hA 47 rfl] at *
  obtain ⟨t1, t2⟩ := cs_top hC
  have hw := wk_cong (kd := σ 48) (a := σ 49) (b := σ 50) (so := σ 47) (n := (σ 45 0).toInt.toNat) (p := q) (s := stS σ L) (t := (τ (63 + L.length), τ 70 L.length)) t1 t2
  have hA2 : Ag MxL σ ρ := fun c hc => by
    by_cases r : c = 63 + (L.length + 1)
    · exfalso
      rw [r] at hc
      rcases (show L.length = 0 ∨ L.length = 1 ∨ L.length = 2 ∨ L.length = 3 ∨ L.length = 4 ∨ L.length = 5 by omega) with z | z | z | z | z | z <;> (rw [z] at hc; exact absurd hc (by decide))
    · rw [k1 c (fun z => by rw [z] at hc; exact absurd hc (by decide)) r (fun z => by rw [z] at hc; exact absurd hc (by decide))]
      exact hA c hc
  refine hQ ρ hA2 ⟨fun i hi => (k5 i hi).trans (hw.1 i hi), k4.trans hw.2, by rw [k2]; exact pk_us, ?_⟩ (k1 58 (by decide) (by omega) (by decide)) (k1 59 (by decide) (by omega) (by decide)) (k1 60 (by decide) (by omega) (by decide))
  refine cs_cong (fun e he => k1 _ (by omega) (by omega) (by omega)) (fun e he => k3 e (by omega)) (fun e he => ?_) hC
  rw [k2]
  exact pk_un (by omega)
def StC (σ : Mm) (m : Nat) (τ : Mm) (st : Sst) : Prop := (τ 58 8 = nI st.1 ∧ τ 58 0 = st.2.1 ∧ τ 58 1 = nI st.2.2.length ∧ arr (τ 59) st.2.2) ∧ vlS σ m st.2.2 ∧ st.1 ≤ 5000
theorem s_keepS {d : Nat} {σ τ : Mm} {Q : Qt} {x : Int32} {m : Nat} {M : List Nat} {st : Sst} (hN : 0 ≤ (σ 45 0).toInt ∧ (σ 45 0).toInt ≤ 8) (hd : ∀ a, a < m → (σ (52 + a) a).toInt = 0) (hm : m ≤ 6) (hA : Ag MxL σ τ) (hC : CsC σ τ M) (hv : vlS σ m M) (ex : x = nI M.length) (hS : StC σ m τ (st.1 - 1, st.2.1, st.2.2)) (hQ : ∀ ρ : Mm, Ag MxL σ ρ → CsC σ ρ M → StC σ m ρ (kpS σ M st) → Q none ρ) : Call (d + 3) k_X6_keepIfBetter [.ref 58, .int x] τ Q := by
  have f45 : τ 45 = σ 45 := hA 45 rfl
  have hM := vl_len hd hv
  have e2 := nIt (n := M.length) (by omega)
  have e4 := nIn (i := M.length) (by omega)
  subst ex
  obtain ⟨⟨s1, s2, s3, s4⟩, s5, s6⟩ := hS
  have s2 : τ 58 0 = st.2.1 := s2
  have s3 : τ 58 1 = nI st.2.2.length := s3
  have hB := vl_len hd s5
  have hB : st.2.2.length ≤ m := hB
  obtain ⟨t1, t2⟩ := cs_top hC
  have eA : allF (τ (63 + M.length)) (τ 70 M.length) (σ 45 0).toInt.toNat = alS σ M := by rw [t2]; exact all_cong t1
  have eB := nIt (n := st.2.2.length) (by omega)
  refine s_keep (by rw [f45]; exact hN) (by omega) (fun z => ?_) (fun z => ?_)
  · rw [e4, f45, eA, s2, s3, e2, eB] at z
    rw [e4, f45, eA]
    have ek : kpS σ M st = (st.1 - 1, alS σ M, M) := if_pos (by omega)
    refine hQ _ (Ag.up (Ag.wr (Ag.wr hA rfl) rfl) rfl) ?_ ?_
    · refine cs_cong (τ := τ) (fun e he => ?_) (fun e he => rfl) (fun e he => rfl) hC
      rw [up_c (by omega), wr_c (by omega), wr_c (by omega)]
    · rw [ek]
      refine ⟨⟨s1, rfl, rfl, ?_⟩, hv, s6⟩
      exact arr_cong M (fun i hi => by show va_cpy _ _ 0 0 _ i = _; rw [pk_cpy_in (Nat.zero_le _) (by omega)]; congr 1; omega) (cs_arr hC)
  · rw [e4, f45, eA, s2, s3, e2, eB] at z
    have ek : kpS σ M st = (st.1 - 1, st.2.1, st.2.2) := if_neg (by omega)
    refine hQ τ hA hC ?_
    rw [ek]
    exact ⟨⟨s1, s2, s3, s4⟩, s5, s6⟩
def SeS (σ : Mm) (m k : Nat) : Prop := ∀ (d : Nat) (τ : Mm) (Q : Qt) (x : Int32) (L : List Nat) (st : Sst), L.length + k = m → x = nI L.length → vlS σ m L → Ag MxL σ τ → CsC σ τ L → StC σ m τ st → (dfI σ (dfB σ m (k - 1)) L 0 m st = none → ∀ τ', Ag MxL σ τ' → Q (some (.int 0)) τ') → (∀ st', dfI σ (dfB σ m (k - 1)) L 0 m st = some st' → ∀ τ', Ag MxL σ τ' → CsC σ τ' L → StC σ m τ' st' → Q (some (.int 1)) τ') → Call (d + k + 5) k_X6_seekBehind [.ref 58, .int x] τ Q
set_option maxHeartbeats 4000000 in
theorem se_step {σ : Mm} {m : Nat} (hm : (σ 45 3).toInt = m) (hm6 : m ≤ 6) (hNN : 0 ≤ (σ 45 0).toInt ∧ (σ 45 0).toInt ≤ 8) (hd : ∀ a, a < m → (σ (52 + a) a).toInt = 0) {k : Nat} (ih0 : ∀ k', k = k' + 1 → SeS σ m k') : SeS σ m k := by
  intro d τ Q x L st hL hx hv hA hC hS hN' hS'
  subst hx
  have eL := nIt (n := L.length) (by omega)
  refine Call_go fun X hX => ?_
  have loop : ∀ (j i : Nat) (τ1 : Mm) (st : Sst), i + j = m → Ag MxL σ τ1 → CsC σ τ1 L → StC σ m τ1 st → (dfI σ (dfB σ m (k - 1)) L i j st = none → ∀ τ', Ag MxL σ τ' → Q (some (.int 0)) τ') → (∀ st', dfI σ (dfB σ m (k - 1)) L i j st = some st' → ∀ τ', Ag MxL σ τ' → CsC σ τ' L → StC σ m τ' st' → Q (some (.int 1)) τ') → X 2 [.ref 58, .int (nI L.length), .int (nI i)] [] τ1 := by
    intro j
    induction j with
    | zero =>
      intro i τ1 st hi hA1 hC1 hS1 hN' hS'
      have e1 := nIt (n := i) (by omega)
      have q45 : (τ1 45 3).toInt = m := by rw [hA1 45 rfl, hm]
      refine go [2] 60 hX ?_
      refine ⟨fun c10 => ?_, fun c10 => ?_⟩
      · exfalso; omega
      · refine ⟨rfl, Or.inr rfl, ?_⟩
        exact hS' st rfl τ1 hA1 hC1 hS1
    | succ j ih =>
      intro i τ1 st hi hA1 hC1 hS1 hN' hS'
      have e1 := nIt (n := i) (by omega)
      have q45 : (τ1 45 3).toInt = m := by rw [hA1 45 rfl, hm]
      have h5000 : st.1 ≤ 5000 := hS1.2.2
      refine go [2] 100 hX ?_
      refine ⟨fun c10 => ?_, fun c10 => ?_⟩
      · refine ⟨rfl, rfl, ?_⟩
        refine s_mayCome (L := L) (by omega) (cs_arr hC1) (fun j hj => by have := vl_at hv j hj; omega) (by omega) (by rw [ag_jr hA1 (by omega) rfl]; exact hd i (by omega)) ?_
        refine ⟨fun c19 => ?_, fun c19 => ?_⟩
        · replace c19 := bI_z c19
          have nm : ¬ mayS σ L i := fun z => c19 ⟨by
            have := vl_len hd (L := i :: L) ⟨by omega, z, hv⟩
            rw [List.length_cons] at this
            omega, (may_ag hA1 rfl (fun j hj => by have := vl_at hv j hj; omega)).mpr z⟩
          have ih1 := ih (i + 1) τ1 st (by omega) hA1 hC1 hS1 (fun z => hN' (by rw [dfI_n nm]; exact z)) (fun st' z => hS' st' (by rw [dfI_n nm]; exact z))
          rw [← nI_1] at ih1
          exact ih1
        · replace c19 := bI_nz c19
          have hmay : mayS σ L i := (may_ag hA1 rfl (fun j hj => by have := vl_at hv j hj; omega)).mp c19.2
          have hvi : vlS σ m (i :: L) := ⟨by omega, hmay, hv⟩
          have hli := vl_len hd hvi
          rw [List.length_cons] at hli
          refine ⟨fun c26 => ?_, fun c26 => ?_⟩
          · refine ⟨rfl, Or.inl rfl, ?_⟩
            rw [hS1.1.1, nIt (by omega)] at c26
            exact hN' (dfI_0 hmay (by omega)) τ1 hA1
          · have hl0 : ¬ st.1 = 0 := fun z => by rw [hS1.1.1, z] at c26; exact c26 (by decide)
            have hA2 : Ag MxL σ (wr τ1 58 8 (τ1 58 8 - 1)) := Ag.wr hA1 rfl
            have hC2 : CsC σ (wr τ1 58 8 (τ1 58 8 - 1)) L := cs_cong (τ := τ1) (fun e he => wr_c (by omega)) (fun e he => rfl) (fun e he => rfl) hC1
            have hS2 : StC σ m (wr τ1 58 8 (τ1 58 8 - 1)) (st.1 - 1, st.2.1, st.2.2) := by
              obtain ⟨⟨s1, s2, s3, s4⟩, s5, s6⟩ := hS1
              refine ⟨⟨?_, s2, s3, s4⟩, s5, ?_⟩
              · show τ1 58 8 - 1 = nI (st.1 - 1)
                rw [s1]
                obtain ⟨t, ht⟩ : ∃ t, st.1 = t + 1 := ⟨st.1 - 1, by omega⟩
                rw [ht, nI_pred, Nat.add_sub_cancel]
              · show st.1 - 1 ≤ 5000
                omega
            refine ⟨rfl, rfl, ?_⟩
            refine s_workS (q := i) (L := L) hNN hA2 hC2 (by omega) (by omega) rfl rfl (fun h44a h44b h44c h44d h44e h44f => ?_)
            have hS3 : StC σ m h44a (st.1 - 1, st.2.1, st.2.2) := by
              obtain ⟨⟨s1, s2, s3, s4⟩, s5, s6⟩ := hS2
              exact ⟨⟨by rw [h44d]; exact s1, by rw [h44d]; exact s2, by rw [h44d]; exact s3, by rw [h44e]; exact s4⟩, s5, s6⟩
            refine ⟨rfl, rfl, ?_⟩
            refine s_keepS (M := i :: L) (st := st) hNN hd hm6 h44b h44c hvi (nI_1 _) hS3 (fun h51a h51b h51c h51d => ?_)
            refine ⟨rfl, rfl, ?_⟩
            obtain ⟨k', rfl⟩ : ∃ k', k = k' + 1 := ⟨k - 1, by omega⟩
            refine ih0 k' rfl _ _ _ _ (i :: L) _ (by rw [List.length_cons]; omega) (nI_1 _) hvi h51b h51c h51d (fun hz5 τ5 hA5 => ?_) (fun st5 hz5 τ5 hA5 hC5 hS5 => ?_)
            all_goals rw [← df_sub hd hvi (by rw [List.length_cons]; omega)] at hz5
            · refine ⟨fun _ => ?_, fun z => absurd (by decide) z⟩
              refine ⟨rfl, Or.inl rfl, ?_⟩
              exact hN' (dfI_x hmay hl0 hz5) τ5 hA5
            · refine ⟨fun z => absurd z (by decide), fun _ => ?_⟩
              have ih1 := ih (i + 1) τ5 st5 (by omega) hA5 hC5.2.2.2 hS5 (fun z => hN' ((dfI_s (sub := dfB σ m k') hmay hl0 hz5).trans z)) (fun st' z => hS' st' ((dfI_s (sub := dfB σ m k') hmay hl0 hz5).trans z))
              rw [← nI_1] at ih1
              exact ih1
      · exfalso; omega
  refine go [2] 20 hX ?_
  exact loop m 0 τ st (Nat.zero_add _) hA hC hS hN' hS'
theorem se_all {σ : Mm} {m : Nat} (hm : (σ 45 3).toInt = m) (hm6 : m ≤ 6) (hNN : 0 ≤ (σ 45 0).toInt ∧ (σ 45 0).toInt ≤ 8) (hd : ∀ a, a < m → (σ (52 + a) a).toInt = 0) : ∀ k, SeS σ m k
  | 0 => se_step hm hm6 hNN hd (fun k' h => by omega)
  | k + 1 => se_step hm hm6 hNN hd (fun k' h => by
    have e : k = k' := by omega
    rw [← e]
    exact se_all hm hm6 hNN hd k)
