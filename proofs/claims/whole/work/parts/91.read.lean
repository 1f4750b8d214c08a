theorem lx_w {b : Nat → Int32} {n p : Nat} {w w' : Prop} [Decidable w] [Decidable w'] (h : w ↔ w') : lxF b n p w = lxF b n p w' := by
  unfold lxF
  simp only [h]
def Ln3 (x y z q : Nat) : Nat := if q = 0 then x else if q = 1 then y else z
/-- the reference's reader behind a whole law -/
def LdM (r0 r1 r2 : Bool × Pst) (β : Mm) : Prop := (arrM (β 115) (β 116) 0 r0.2.2.2 ∧ arrM (β 115) (β 116) 100 r1.2.2.2 ∧ arrM (β 115) (β 116) 200 r2.2.2.2) ∧ ∀ q, q < 3 → Ln3 r0.2.2.2.length r1.2.2.2.length r2.2.2.2.length q ≤ 96 ∧ β 114 q = nI (Ln3 r0.2.2.2.length r1.2.2.2.length r2.2.2.2.length q)
set_option maxHeartbeats 2000000 in
theorem m_law {d : Nat} {σ : Mm} {Q : Qt} {l : Int32} {b : Nat → Int32} {n : Nat} (hb : ∀ i, i < 96 → -128 ≤ (b i).toInt ∧ (b i).toInt < 128) (ht8 : ∀ i, i < 96 → σ 118 i = b i &&& 255) (hn6 : σ 88 36 = nI n) (hn : n ≤ 96) (h119 : ∀ i, i < 18 → σ 119 i = headB i) {r0 r1 r2 : Bool × Pst} (e0 : paF b n 0 (lxF b n 0 False) 0 = r0) (e1 : paF b n 1 r0.2.1 r0.2.2.1 = r1) (e2 : paF b n 2 r1.2.1 r1.2.2.1 = r2) (h1 : ¬ (0 ≤ l.toInt ∧ l.toInt ≤ 2) → ∀ τ, FeM σ τ → Q (some (.int (-1000000001))) τ) (h2 : (0 ≤ l.toInt ∧ l.toInt ≤ 2) → ¬ lwG r0 r1 r2 → ∀ τ, FeM σ τ → Q (some (.int (-100 - nI (lwB r0 r1 r2)))) τ) (h3 : (0 ≤ l.toInt ∧ l.toInt ≤ 2) → lwG r0 r1 r2 → ∀ β τ, FeM σ β → LdM r0 r1 r2 β → CpO β τ (Ln3 r0.2.2.2.length r1.2.2.2.length r2.2.2.2.length) l.toInt.toNat 3 → Q (some (.int (nI r2.2.2.1))) τ) : Call (d + 81) k_X12_law [.ref 88, .int l] σ Q := by
  refine Call_go fun X hX => ?_
  have bad : ∀ (s : Nat), ¬ lwG r0 r1 r2 → lwB r0 r1 r2 = s → ∀ (k j : Nat) (τ : Mm) (v : Value), k + j = 3 → WrM σ τ s → X 36 [.ref 88, .int l, .int (nI k), v] [] τ := fun s hg es k j τ v hkj hw => lw_wrong hX (fun υ hυ => lw_tailW hX hυ h1 (fun ok υ' q => by have z := h2 ok hg υ' q; rw [es] at z; exact z)) j k τ hkj hw
  have all : ∀ (τ : Mm) (v : Value), PsM b σ τ (lxF b n 0 False) 0 → X 36 [.ref 88, .int l, .int (nI 0), v] [] τ := by
    intro τ v hP
    have g0 := lw_part (l := l) (k := 0) (v := v) hX hb ht8 hn6 hn h119 (by omega) hP (lx_ok (Nat.zero_le n)).1
    rw [e0] at g0
    refine g0 (fun z τ' q => bad _ (fun y => z y.1) (if_neg z) 1 2 _ _ rfl q) (fun a0 τ0 p0 => ?_)
    obtain ⟨p0a, p0b, p0c, p0d, p0e, p0f, p0g⟩ := p0
    have g1 := lw_part (l := l) (k := 1) (v := v) hX hb ht8 hn6 hn h119 (by omega) p0a p0b
    rw [e1] at g1
    refine g1 (fun z τ' q => bad _ (fun y => z y.2.1) ((if_pos a0).trans (if_neg z)) 2 1 _ _ rfl q) (fun a1 τ1 p1 => ?_)
    obtain ⟨p1a, p1b, p1c, p1d, p1e, p1f, p1g⟩ := p1
    have g2 := lw_part (l := l) (k := 2) (v := v) hX hb ht8 hn6 hn h119 (by omega) p1a p1b
    rw [e2] at g2
    have e : lwB r0 r1 r2 = r2.2.1.2.1 := (if_pos a0).trans (if_pos a1)
    refine g2 (fun z τ' q => bad _ (fun y => z y.2.2.1) e 3 0 _ _ rfl q) (fun a2 τ2 p2 => ?_)
    obtain ⟨p2a, p2b, p2c, p2d, p2e, p2f, p2g⟩ := p2
    refine go [91] 20 hX ?_
    refine ⟨fun z => absurd z (by decide), fun _ => ?_⟩
    refine lw_tailG hX p2a p2b.2.2.2.1 h1 (fun ok z υ q => by have y := h2 ok (fun y => z y.2.2.2) υ q; rw [e] at y; exact y) (fun ok z β hβ hw hc => ?_)
    have el : l = nI l.toInt.toNat := iX (by rw [nIt (by omega)]; omega)
    have hL : LdM r0 r1 r2 β := by
      rw [LdM, hc.1, hc.2.1, hc.2.2]
      refine ⟨⟨?_, ?_, p2d⟩, fun q hq => ?_⟩
      · refine arrM_cong _ (fun i hi => ?_) p0d
        rw [(p2f _ (by omega)).1, (p2f _ (by omega)).2]
        exact p1f _ (by omega)
      · exact arrM_cong _ (fun i hi => p2f _ (by omega)) p1d
      · rcases (show q = 0 ∨ q = 1 ∨ q = 2 by omega) with r | r | r <;> subst r
        · exact ⟨p0g, by rw [p2e 0 (by omega), p1e 0 (by omega)]; exact p0c⟩
        · exact ⟨p1g, by rw [p2e 1 (by omega)]; exact p1c⟩
        · exact ⟨p2g, p2c⟩
    have q := lw_copy (β := β) (m := l.toInt.toNat) (x2 := nI 3) (v := v) hX (by omega) hL.2 (fun υ hυ => by
      rw [hw]
      exact h3 ok ⟨a0, a1, a2, z⟩ β υ hβ hL hυ)
    rw [← el] at q
    exact q
  refine go [36] 60 hX ?_
  refine ⟨Or.inl rfl, ?_⟩
  refine ⟨rfl, rfl, ?_⟩
  refine m_next (b := b) (n := n) (p := 0) (kk := 3) hb ht8 hn6 hn (Nat.zero_le n) rfl rfl (by decide) (fun h31a h31b h31c => ?_)
  rw [lx_w (show ((3 : Nat) = 1 ∨ (3 : Nat) = 2) ↔ False by decide)] at h31c
  have hF : FrM σ h31a := fr_tr (fm_wr (j := 46) (v := 0) (fm_wr (j := 44) (v := 0) (fm_wr (j := 43) (v := 0) (fm_wr (j := 42) (v := 0) (fm_wr (j := 38) (v := 3) (fm_wr (j := 37) (v := 0) fr_rf rfl) rfl) rfl) rfl) rfl) rfl) ⟨fun c c1 _ _ _ => h31b.1 c c1, fun j hj => h31b.2 j (cu_sub (by decide) hj)⟩
  have hP : PsM b σ h31a (lxF b n 0 False) 0 := ⟨hF, h31c, h31b.2 42 rfl, h31b.2 43 rfl, h31b.2 44 rfl, h31b.2 46 rfl⟩
  exact all _ _ hP
