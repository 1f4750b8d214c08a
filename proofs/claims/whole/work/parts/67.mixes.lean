def StM (σ : Mm) (m : Nat) (τ : Mm) (st : Sst) : Prop := (τ 88 61 = st.2.1 ∧ τ 88 60 = nI st.2.2.length ∧ arr (τ 129) st.2.2) ∧ vlS σ m st.2.2 ∧ st.1 ≤ 5000
def RmS (σ : Mm) (m : Nat) (X : Kt) (Q : Qt) (t : Int32) (k : Nat) : Prop := ∀ L : List Nat, (0 < m → L.length + k + 1 = m) → L.length ≤ 5 → vlS σ m L → ∀ (j i : Nat) (τ : Mm) (st : Sst) (v4 v5 : Value), i + j = m → MmA σ τ → arr (τ 127) L → τ 127 L.length = nI i - 1 → StM σ m τ st → (dfI σ (dfB σ m k) L i j st = none → ∀ τ', MmA σ τ' → Q (some (.int 0)) τ') → (∀ st', dfI σ (dfB σ m k) L i j st = some st' → ∀ (τ' : Mm) (v4' v5' : Value), MmA σ τ' → arr (τ' 127) L → StM σ m τ' st' → X 25 [.ref 88, .int t, .int (nI st'.1), .int (nI L.length - 1), v4', v5'] [] τ') → X 25 [.ref 88, .int t, .int (nI st.1), .int (nI L.length), v4, v5] [] τ
set_option maxHeartbeats 8000000 in
theorem rm_step {d : Nat} {σ : Mm} {m : Nat} {t : Int32} {X : Kt} {Q : Qt} (hX : Clo (Call (d + 3)) none (mR k_X12_mixes) (mE k_X12_mixes) Q X) (hba : I_ba σ) (hm : (σ 45 3).toInt = m) (hm6 : m ≤ 6) (hd : ∀ a, a < m → (σ (52 + a) a).toInt = 0) {k : Nat} (ih0 : ∀ k', k = k' + 1 → RmS σ m X Q t k') : RmS σ m X Q t k := by
  intro L hLk0 hL5 hv j
  have b1 : σ 88 51 = σ 45 3 := hba.1.2.1
  have eL1 := nIt (n := L.length) (by omega)
  have eL2 := nIn (i := L.length) (by omega)
  have cloop : ∀ (M : List Nat), M.length = L.length + 1 → ∀ {st : Sst} (cc : Int32) {ρ0 : Mm}, (∀ (ρ : Mm) (w5 : Value), (∀ c, c ≠ 129 → ρ c = ρ0 c) → arr (ρ 127) M → arr (ρ 129) M → X 160 [.ref 88, .int t, .int (nI st.1 + (-1)), .int (nI L.length + 1), .int cc, w5] [] ρ) → ∀ (kk q : Nat) (ρ : Mm), q + kk = M.length → (∀ c, c ≠ 129 → ρ c = ρ0 c) → arr (ρ 127) M → (∀ j, j < q → ρ 129 j = ρ 127 j) → X 134 [.ref 88, .int t, .int (nI st.1 + (-1)), .int (nI L.length + 1), .int cc, .int (nI q)] [] ρ := by
    intro M hM st cc ρ0 hK kk
    have en9 : (nI L.length + 1).toInt = (L.length : Int) + 1 := by rw [nI_1, nIt (by omega)]; omega
    induction kk with
    | zero =>
      intro q ρ hi k1 k2 k3
      have e1 := nIt (n := q) (by omega)
      refine go [134, 160] 60 hX ?_
      refine ⟨fun c137 => ?_, fun c137 => ?_⟩
      · exfalso; omega
      · exact hK ρ (.int (nI q)) k1 k2 (arr_cong M (fun j hj => k3 j (by omega)) k2)
    | succ kk ih =>
      intro q ρ hi k1 k2 k3
      have e1 := nIt (n := q) (by omega)
      have e2 := nIn (i := q) (by omega)
      refine go [134, 160] 60 hX ?_
      refine ⟨fun c137 => ?_, fun c137 => ?_⟩
      · refine ⟨_, _, rfl, ⟨by omega, by omega⟩, ?_⟩
        refine ⟨_, rfl, ⟨by omega, by omega⟩, ?_⟩
        refine (fun ih1 => ?_) (ih (q + 1) (wr ρ 129 (nI q).toInt.toNat (ρ 127 (nI q).toInt.toNat)) (by omega) (fun c hc => (wr_c hc).trans (k1 c hc)) k2 (fun j hj => ?_))
        · rw [← nI_1 q] at ih1
          exact ih1
        · rw [wr_k, e2]
          show upd _ _ _ j = ρ 127 j
          by_cases r : j = q
          · rw [r]; exact pk_us
          · rw [pk_un r]; exact k3 j (by omega)
      · exfalso; omega
  have after : ∀ {j : Nat} {st : Sst} (i : Nat), i < m → vlS σ m (i :: L) → mayS σ L i → ¬ st.1 = 0 → ∀ (ρ : Mm) (cc : Int32) (w5 : Value), MmA σ ρ → arr (ρ 127) (i :: L) → StM σ m ρ (kpS σ (i :: L) st) → (dfI σ (dfB σ m k) L i (j + 1) st = none → ∀ τ', MmA σ τ' → Q (some (.int 0)) τ') → (∀ st', dfI σ (dfB σ m k) L i (j + 1) st = some st' → ∀ (τ' : Mm) (v4' v5' : Value), MmA σ τ' → arr (τ' 127) L → StM σ m τ' st' → X 25 [.ref 88, .int t, .int (nI st'.1), .int (nI L.length - 1), v4', v5'] [] τ') → (∀ (i : Nat) (τ : Mm) (st : Sst) (v4 v5 : Value), i + j = m → MmA σ τ → arr (τ 127) L → τ 127 L.length = nI i - 1 → StM σ m τ st → (dfI σ (dfB σ m k) L i j st = none → ∀ τ', MmA σ τ' → Q (some (.int 0)) τ') → (∀ st', dfI σ (dfB σ m k) L i j st = some st' → ∀ (τ' : Mm) (v4' v5' : Value), MmA σ τ' → arr (τ' 127) L → StM σ m τ' st' → X 25 [.ref 88, .int t, .int (nI st'.1), .int (nI L.length - 1), v4', v5'] [] τ') → X 25 [.ref 88, .int t, .int (nI st.1), .int (nI L.length), v4, v5] [] τ) → i + (j + 1) = m → X 160 [.ref 88, .int t, .int (nI (st.1 - 1)), .int (nI L.length + 1), .int cc, w5] [] ρ := by
    intro j st i hi1 hvi hmay hl0 ρ cc w5 kA kL kS hN hK ih hij
    have hli := vl_len hd hvi
    rw [List.length_cons] at hli
    have hLk := hLk0 (by omega)
    have q51 : (ρ 88 51).toInt = m := by rw [kA.2 51 rfl, b1, hm]
    have en9 : (nI L.length + 1).toInt = (L.length : Int) + 1 := by rw [nI_1, nIt (by omega)]; omega
    have e9 : (nI L.length + 1).toInt.toNat = L.length + 1 := by omega
    have ekp : nI (kpS σ (i :: L) st).1 = nI (st.1 - 1) := by unfold kpS; split <;> rfl
    refine go [25] 60 hX ?_
    refine ⟨fun c165 => ?_, fun c165 => ?_⟩
    · have hk : k = 0 := by rw [q51, en9] at c165; omega
      have es : dfB σ m k (i :: L) (kpS σ (i :: L) st) = some (kpS σ (i :: L) st) := by rw [hk]; rfl
      have ih1 := ih (i + 1) ρ (kpS σ (i :: L) st) (.int cc) w5 (by omega) kA kL.2 (by rw [nI_pred]; exact kL.1) kS (fun z => hN ((dfI_s hmay hl0 es).trans z)) (fun st' z => hK st' ((dfI_s hmay hl0 es).trans z))
      rw [ekp, show nI L.length = nI L.length + 1 + (-1) by rw [← Int32.sub_eq_add_neg, nI_1, nI_pred]] at ih1
      exact ih1
    · refine ⟨_, rfl, (by unfold ixs; rw [en9]; rw [q51, en9] at c165; exact ⟨by omega, by omega⟩), ?_⟩
      have hk : ¬ k = 0 := by rw [q51, en9] at c165; omega
      obtain ⟨k', rfl⟩ : ∃ k', k = k' + 1 := ⟨k - 1, by omega⟩
      refine (fun h0 => ?_) (ih0 k' rfl (i :: L) (fun _ => by rw [List.length_cons]; omega) (by rw [List.length_cons]; omega) hvi m 0 (wr ρ 127 (nI L.length + 1).toInt.toNat (-1)) (kpS σ (i :: L) st) (.int cc) w5 (Nat.zero_add _) (mm_wr kA rfl) ?_ ?_ kS (fun z => hN (dfI_x hmay hl0 z)) (fun st' z τ' v4' v5' kA' kL' kS' => ?_))
      · rw [List.length_cons, ← nI_1, ekp] at h0
        exact h0
      · rw [wr_k, e9]
        exact ⟨(pk_un (by omega)).trans kL.1, arr_cong L (fun q hq => pk_un (by omega)) kL.2⟩
      · rw [wr_k, e9, List.length_cons]
        exact pk_us
      · rw [List.length_cons, nI_pred]
        exact ih (i + 1) τ' st' v4' v5' (by omega) kA' kL'.2 (by rw [nI_pred]; exact kL'.1) kS' (fun z' => hN ((dfI_s hmay hl0 z).trans z')) (fun st'' z' => hK st'' ((dfI_s hmay hl0 z).trans z'))
  induction j with
  | zero =>
    intro i τ st v4 v5 hi hA hL ht hS hN hK
    refine go [25] 100 hX ?_
    refine ⟨fun c26 => ?_, fun c26 => ?_⟩
    · exfalso; omega
    · refine ⟨_, _, rfl, ⟨by omega, by omega⟩, ?_⟩
      refine ⟨_, rfl, ⟨by omega, by omega⟩, ?_⟩
      generalize hτ1 : wr τ 127 (nI L.length).toInt.toNat (τ 127 (nI L.length).toInt.toNat + 1) = τ1
      have e127 : τ1 127 = upd (τ 127) L.length (nI i) := by
        rw [← hτ1, wr_k, eL2, ht, Int32.sub_add_cancel]
      have hA1 : MmA σ τ1 := by rw [← hτ1]; exact mm_wr hA rfl
      have hx1 : τ1 127 L.length = nI i := by rw [e127]; exact pk_us
      have hx2 : τ1 127 (nI L.length).toInt.toNat = nI i := by rw [eL2]; exact hx1
      have hL1 : arr (τ1 127) L := by rw [e127]; exact arr_cong L (fun j hj => pk_un (by omega)) hL
      have q51 : (τ1 88 51).toInt = m := by rw [hA1.2 51 rfl, b1, hm]
      have hS1 : StM σ m τ1 st := by rw [← hτ1]; exact hS
      have e1 := nIt (n := i) (by omega)
      refine ⟨_, _, rfl, ⟨by omega, by omega⟩, ?_⟩
      refine ⟨fun c49 => ?_, fun c49 => ?_⟩
      · exfalso; rw [hx2] at c49; omega
      · have h0 := hK st rfl τ1 v4 v5 hA1 hL1 hS1
        rw [Int32.sub_eq_add_neg] at h0
        exact h0
  | succ j ih =>
    intro i τ st v4 v5 hi hA hL ht hS hN hK
    have h5000 : st.1 ≤ 5000 := hS.2.2
    have eleft := nIt (n := st.1) (by omega)
    have hLk := hLk0 (by omega)
    refine go [25, 134, 160] 200 hX ?_
    refine ⟨fun c26 => ?_, fun c26 => ?_⟩
    · exfalso; omega
    · refine ⟨_, _, rfl, ⟨by omega, by omega⟩, ?_⟩
      refine ⟨_, rfl, ⟨by omega, by omega⟩, ?_⟩
      generalize hτ1 : wr τ 127 (nI L.length).toInt.toNat (τ 127 (nI L.length).toInt.toNat + 1) = τ1
      have e127 : τ1 127 = upd (τ 127) L.length (nI i) := by
        rw [← hτ1, wr_k, eL2, ht, Int32.sub_add_cancel]
      have hA1 : MmA σ τ1 := by rw [← hτ1]; exact mm_wr hA rfl
      have hx1 : τ1 127 L.length = nI i := by rw [e127]; exact pk_us
      have hx2 : τ1 127 (nI L.length).toInt.toNat = nI i := by rw [eL2]; exact hx1
      have hL1 : arr (τ1 127) L := by rw [e127]; exact arr_cong L (fun j hj => pk_un (by omega)) hL
      have q51 : (τ1 88 51).toInt = m := by rw [hA1.2 51 rfl, b1, hm]
      have hS1 : StM σ m τ1 st := by rw [← hτ1]; exact hS
      have e1 := nIt (n := i) (by omega)
      refine ⟨_, _, rfl, ⟨by omega, by omega⟩, ?_⟩
      refine ⟨fun c49 => ?_, fun c49 => ?_⟩
      · have hi1 : i < m := by rw [hx2] at c49; omega
        refine ⟨_, _, rfl, ⟨by omega, by omega⟩, ?_⟩
        refine ⟨rfl, rfl, ?_⟩
        refine m_mayCome (σ := σ) (L := L) (q := i) hba hm hm6 hA1 hL1 (by omega) (vl_at hv) (by omega) hx2 rfl ?_
        refine ⟨fun c69 => ?_, fun c69 => ?_⟩
        · replace c69 := bI_z c69
          have ih1 := ih (i + 1) τ1 st v4 v5 (by omega) hA1 hL1 (by rw [hx1, nI_pred]) hS1 (fun z => hN ((dfI_n c69).trans z)) (fun st' z => hK st' ((dfI_n c69).trans z))
          exact ih1
        · replace c69 := bI_nz c69
          have hvi : vlS σ m (i :: L) := ⟨by omega, c69, hv⟩
          have hli := vl_len hd hvi
          rw [List.length_cons] at hli
          refine ⟨fun c76 => ?_, fun c76 => ?_⟩
          · refine ⟨rfl, Or.inl rfl, ?_⟩
            rw [eleft] at c76
            exact hN (dfI_0 c69 (by omega)) τ1 hA1
          · rw [eleft] at c76
            have hl0 : ¬ st.1 = 0 := by omega
            obtain ⟨t0, ht0⟩ : ∃ t0, st.1 = t0 + 1 := ⟨st.1 - 1, by omega⟩
            refine ⟨rfl, rfl, ?_⟩
            refine m_costsOf (σ := σ) (L := i :: L) hba hm hm6 hA1 ⟨hx1, hL1⟩ (by rw [List.length_cons]; omega) (vl_at hvi) (by rw [List.length_cons, nI_1]) (fun h89a h89b h89c h89d => ?_)
            have hS9 : StM σ m h89a st := by
              obtain ⟨⟨s1, s2, s3⟩, s4, s5⟩ := hS1
              exact ⟨⟨by rw [h89c 61 (by decide)]; exact s1, by rw [h89c 60 (by decide)]; exact s2, by rw [h89b 129 rfl]; exact s3⟩, s4, s5⟩
            have hA9 : MmA σ h89a := mm_tr hA1 (Ag.wk h89b rfl) (fun j hj => h89c j (fun z => by rw [z] at hj; cases hj))
            have hL9 : arr (h89a 127) (i :: L) := by rw [h89b 127 rfl]; exact ⟨hx1, hL1⟩
            have hbl := vl_len hd hS1.2.1
            have ebl := nIt (n := st.2.2.length) (by omega)
            have en9 : (nI L.length + 1).toInt = ((i :: L).length : Int) := by rw [nI_1, List.length_cons]; exact nIt (by omega)
            refine ⟨fun c100 => ?_, fun c100 => ?_⟩
            · rw [hS9.1.1] at c100
              have ek : kpS σ (i :: L) st = (st.1 - 1, alS σ (i :: L), i :: L) := if_pos (Or.inl c100)
              have hel : nI (st.1 - 1) = nI st.1 + (-1) := by rw [ht0, Nat.add_sub_cancel, ← Int32.sub_eq_add_neg, nI_pred]
              refine cloop (i :: L) (by rw [List.length_cons]) _ (fun ρ w5 k1 k2 k3 => ?_) (i :: L).length 0 (wr (wr h89a 88 61 (alS σ (i :: L))) 88 60 (nI L.length + 1)) (Nat.zero_add _) (fun c hc => rfl) hL9 (fun j hj => by omega)
              refine (fun h0 => ?_) (after i hi1 hvi c69 hl0 ρ (alS σ (i :: L)) w5 ?_ k2 ?_ hN hK ih hi)
              · rw [hel] at h0
                exact h0
              · exact mm_tr (mm_88 (mm_88 hA9 (i := 61) (v := alS σ (i :: L)) rfl) (i := 60) (v := nI L.length + 1) rfl) (fun c hc => k1 c (fun z => by rw [z] at hc; cases hc)) (fun j hj => by rw [k1 88 (by decide)])
              · rw [ek]
                exact ⟨⟨by rw [k1 88 (by decide)]; rfl, by rw [k1 88 (by decide)]; show nI L.length + 1 = _; rw [nI_1]; rfl, k3⟩, hvi, by have := hS9.2.2; show st.1 - 1 ≤ 5000; omega⟩
            · refine ⟨fun c109 => ?_, fun c109 => ?_⟩
              · refine ⟨fun c117 => ?_, fun c117 => ?_⟩
                · rw [hS9.1.1] at c100 c109
                  rw [hS9.1.2.1, en9, ebl] at c117
                  have ek : kpS σ (i :: L) st = (st.1 - 1, alS σ (i :: L), i :: L) := if_pos (Or.inr ⟨c109, by omega⟩)
                  have hel : nI (st.1 - 1) = nI st.1 + (-1) := by rw [ht0, Nat.add_sub_cancel, ← Int32.sub_eq_add_neg, nI_pred]
                  refine cloop (i :: L) (by rw [List.length_cons]) _ (fun ρ w5 k1 k2 k3 => ?_) (i :: L).length 0 (wr (wr h89a 88 61 (alS σ (i :: L))) 88 60 (nI L.length + 1)) (Nat.zero_add _) (fun c hc => rfl) hL9 (fun j hj => by omega)
                  refine (fun h0 => ?_) (after i hi1 hvi c69 hl0 ρ (alS σ (i :: L)) w5 ?_ k2 ?_ hN hK ih hi)
                  · rw [hel] at h0
                    exact h0
                  · exact mm_tr (mm_88 (mm_88 hA9 (i := 61) (v := alS σ (i :: L)) rfl) (i := 60) (v := nI L.length + 1) rfl) (fun c hc => k1 c (fun z => by rw [z] at hc; cases hc)) (fun j hj => by rw [k1 88 (by decide)])
                  · rw [ek]
                    exact ⟨⟨by rw [k1 88 (by decide)]; rfl, by rw [k1 88 (by decide)]; show nI L.length + 1 = _; rw [nI_1]; rfl, k3⟩, hvi, by have := hS9.2.2; show st.1 - 1 ≤ 5000; omega⟩
                · rw [hS9.1.1] at c100 c109
                  rw [hS9.1.2.1, en9, ebl] at c117
                  have ek : kpS σ (i :: L) st = (st.1 - 1, st.2.1, st.2.2) := if_neg (fun z => z.elim c100 (fun z => c117 (by have := z.2; omega)))
                  have h0 := after i hi1 hvi c69 hl0 h89a (alS σ (i :: L)) v5 hA9 hL9 (by rw [ek]; exact ⟨hS9.1, hS9.2.1, by have := hS9.2.2; show st.1 - 1 ≤ 5000; omega⟩) hN hK ih hi
                  rw [show nI (st.1 - 1) = nI st.1 + (-1) by rw [ht0, Nat.add_sub_cancel, ← Int32.sub_eq_add_neg, nI_pred]] at h0
                  exact h0
              · rw [hS9.1.1] at c100 c109
                have ek : kpS σ (i :: L) st = (st.1 - 1, st.2.1, st.2.2) := if_neg (fun z => z.elim c100 (fun z => c109 z.1))
                have h0 := after i hi1 hvi c69 hl0 h89a (alS σ (i :: L)) v5 hA9 hL9 (by rw [ek]; exact ⟨hS9.1, hS9.2.1, by have := hS9.2.2; show st.1 - 1 ≤ 5000; omega⟩) hN hK ih hi
                rw [show nI (st.1 - 1) = nI st.1 + (-1) by rw [ht0, Nat.add_sub_cancel, ← Int32.sub_eq_add_neg, nI_pred]] at h0
                exact h0
      · exfalso; rw [hx2] at c49; omega
theorem rm_all {d : Nat} {σ : Mm} {m : Nat} {t : Int32} {X : Kt} {Q : Qt} (hX : Clo (Call (d + 3)) none (mR k_X12_mixes) (mE k_X12_mixes) Q X) (hba : I_ba σ) (hm : (σ 45 3).toInt = m) (hm6 : m ≤ 6) (hd : ∀ a, a < m → (σ (52 + a) a).toInt = 0) : ∀ k, RmS σ m X Q t k
  | 0 => rm_step hX hba hm hm6 hd (fun k' h => by omega)
  | k + 1 => rm_step hX hba hm hm6 hd (fun k' h => by
    have e : k = k' := by omega
    rw [← e]
    exact rm_all hX hba hm hm6 hd k)
