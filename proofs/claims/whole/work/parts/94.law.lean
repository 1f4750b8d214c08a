set_option maxHeartbeats 1000000 in
theorem op_law {σ : Mm} {l : Int32} (hI : Inv σ) : Call 120 k_X11_law [.ref 0, .int l] σ (fun r τ => Call 120 k_X12_law [.ref 88, .int l] τ (fun r' τ' => (∃ x : Int32, r = some (.int x) ∧ r' = some (.int x)) ∧ Inv τ')) := by
  have hta : I_ta σ := hI.2.2.2.2.1
  have hhe : I_he σ := hI.2.2.2.2.2.2.2.2.2.2.2
  have h36 := hta.1
  have hr := hta.2.1
  have h5 : σ 0 5 = nI (σ 0 5).toInt.toNat := iX (by rw [nIt (by omega)]; omega)
  have hn : (σ 0 5).toInt.toNat ≤ 96 := by omega
  have hb : ∀ i, i < 96 → -128 ≤ (σ 30 i).toInt ∧ (σ 30 i).toInt < 128 := fun i hi => (hta.2.2 i hi).2
  have ht8 : ∀ τ : Mm, τ 118 = σ 118 → ∀ i, i < 96 → τ 118 i = σ 30 i &&& 255 := fun τ z i hi => by rw [z]; exact (hta.2.2 i hi).1
  have h9 : ∀ τ : Mm, τ 119 = σ 119 → ∀ i, i < 18 → τ 119 i = headB i := fun τ z i hi => by rw [z]; exact hhe i hi
  have h6 : ∀ τ : Mm, τ 88 = σ 88 → τ 88 36 = nI (σ 0 5).toInt.toNat := fun τ z => by rw [z, h36]; exact h5
  generalize (σ 0 5).toInt.toNat = n at *
  obtain ⟨r0, e0⟩ : ∃ r, paF (σ 30) n 0 (lxF (σ 30) n 0 False) 0 = r := ⟨_, rfl⟩
  obtain ⟨r1, e1⟩ : ∃ r, paF (σ 30) n 1 r0.2.1 r0.2.2.1 = r := ⟨_, rfl⟩
  obtain ⟨r2, e2⟩ : ∃ r, paF (σ 30) n 2 r1.2.1 r1.2.2.1 = r := ⟨_, rfl⟩
  refine s_law (d := 22) hb rfl h5 hn e0 e1 e2 (fun c => ?_) (fun c z τ hF => ?_) (fun c z τ hL => ?_)
  · exact m_law (d := 39) hb (ht8 _ rfl) (h6 _ rfl) hn (h9 _ rfl) e0 e1 e2 (fun _ τ' q => ⟨⟨_, rfl, rfl⟩, lw_i0 hI (fun _ _ _ _ => rfl) q⟩) (fun y => absurd y c) (fun y => absurd y c)
  · have f : ∀ k, k ≠ 0 → k ≠ 31 → k ≠ 32 → k ≠ 33 → τ k = σ k := fun k k0 k1 k2 k3 => (hF.1 k k1 k2 k3).trans (wr_c k0)
    exact m_law (d := 39) hb (ht8 _ (f 118 (by decide) (by decide) (by decide) (by decide))) (h6 _ (f 88 (by decide) (by decide) (by decide) (by decide))) hn (h9 _ (f 119 (by decide) (by decide) (by decide) (by decide))) e0 e1 e2 (fun y => absurd c y) (fun _ _ τ' q => ⟨⟨_, rfl, rfl⟩, lw_i0 hI hF.1 q⟩) (fun _ y => absurd y z)
  · have f : ∀ k, k ≠ 0 → k ≠ 31 → k ≠ 32 → k ≠ 33 → τ k = σ k := fun k k0 k1 k2 k3 => (hL.1 k k1 k2 k3).trans (wr_c k0)
    have g : ∀ k, 80 < k → enS τ l k = σ k := fun k hk => (en_c c (by omega) (by omega) (by omega)).trans (f k (by omega) (by omega) (by omega) (by omega))
    exact m_law (d := 39) hb (ht8 _ (g 118 (by decide))) (h6 _ (g 88 (by decide))) hn (h9 _ (g 119 (by decide))) e0 e1 e2 (fun y => absurd c y) (fun _ y => absurd z y) (fun _ _ β τ' q1 q2 q3 => ⟨⟨_, rfl, rfl⟩, lw_i1 hI hb hn c e0 e1 e2 z hL q1 q2 q3⟩)
