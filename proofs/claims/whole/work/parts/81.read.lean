def Ms (lvl B N : Nat) : Nat := 7 * (8 - B) + (8 - N) + (5 - lvl) + 1
def Dc (B N : Nat) : Nat := 8 * (8 - B) + 2 * (8 - N)
def LeC (b : Nat → Int32) (n : Nat) (g0 : Nat → Int32) (c0 : Nat) (σ : Mm) (f : Nat) : Prop := ∀ (B N : Nat), Ms 5 B N ≤ f → B ≤ 8 → N ≤ 8 → ∀ (d : Nat) (τ : Mm) (Q : Qt) (st : Pst), tkO b n st.1 → c0 + st.2.2.length ≤ st.1.2.1 → CrC b n g0 c0 σ τ B N st → ((prF b n f 5 B N st).1 = true → ∀ τ', CrC b n g0 c0 σ τ' B N (prF b n f 5 B N st).2 → grd b n st (prF b n f 5 B N st).2 → Q (some (.int 1)) τ') → (¬ (prF b n f 5 B N st).1 = true → ∀ τ', FlC σ τ' (prF b n f 5 B N st).2.1.2.1 → Q (some (.int 0)) τ') → Call (d + Dc B N + 9) k_X4_readLeaf [.ref 31] τ Q
def LvC (b : Nat → Int32) (n : Nat) (g0 : Nat → Int32) (c0 : Nat) (σ : Mm) (f : Nat) : Prop := ∀ (lvl B N : Nat), Ms lvl B N ≤ f → lvl ≤ 5 → B ≤ 8 → N ≤ 8 → ∀ (d : Nat) (τ : Mm) (Q : Qt) (x : Int32) (st : Pst), x = nI lvl → tkO b n st.1 → c0 + st.2.2.length ≤ st.1.2.1 → CrC b n g0 c0 σ τ B N st → ((prF b n f lvl B N st).1 = true → ∀ τ', CrC b n g0 c0 σ τ' B N (prF b n f lvl B N st).2 → grd b n st (prF b n f lvl B N st).2 → Q (some (.int 1)) τ') → (¬ (prF b n f lvl B N st).1 = true → ∀ τ', FlC σ τ' (prF b n f lvl B N st).2.1.2.1 → Q (some (.int 0)) τ') → Call (d + Dc B N + (6 - lvl) + 9) k_X4_readLevel [.ref 31, .int x] τ Q
theorem grd_len {b : Nat → Int32} {n c0 : Nat} {s1 s2 : Pst} (h : grd b n s1 s2) (hc : c0 + s1.2.2.length ≤ s1.1.2.1) : c0 + s2.2.2.length ≤ s2.1.2.1 := by
  obtain ⟨h1, h2, nw, h3, h4, _⟩ := h
  rw [h3, List.length_append]
  omega
theorem crc_N {b : Nat → Int32} {n : Nat} {g0 : Nat → Int32} {c0 : Nat} {σ : Mm} {τ : Mm} {B N M : Nat} {st : Pst} {v : Int32} (h : CrC b n g0 c0 σ τ B N st) (hv : v = nI M) : CrC b n g0 c0 σ (wr τ 31 12 v) B M st := by
  obtain ⟨h1, h2, h3, h4, h5, h6, h7, h8, h9⟩ := h
  exact ⟨fun c c1 c2 => by rw [wr_c c1]; exact h1 c c1 c2, h2, tkc_wr h3 rfl rfl rfl rfl rfl, h4, h5, h6, h7, h8, hv⟩
theorem crc_B {b : Nat → Int32} {n : Nat} {g0 : Nat → Int32} {c0 : Nat} {σ : Mm} {τ : Mm} {B N M : Nat} {st : Pst} {v : Int32} (h : CrC b n g0 c0 σ τ B N st) (hv : v = nI M) : CrC b n g0 c0 σ (wr τ 31 11 v) M N st := by
  obtain ⟨h1, h2, h3, h4, h5, h6, h7, h8, h9⟩ := h
  exact ⟨fun c c1 c2 => by rw [wr_c c1]; exact h1 c c1 c2, h2, tkc_wr h3 rfl rfl rfl rfl rfl, h4, h5, h6, h7, hv, h9⟩
theorem crc_w {b : Nat → Int32} {n : Nat} {g0 : Nat → Int32} {c0 : Nat} {σ : Mm} {τ : Mm} {B N : Nat} {st : Pst} (h : CrC b n g0 c0 σ τ B N st) : CrC b n g0 c0 σ (wr τ 31 2 (τ 31 2 + 1)) B N (st.1, st.2.1 + 1, st.2.2) := by
  obtain ⟨h1, h2, h3, h4, h5, h6, h7, h8, h9⟩ := h
  exact ⟨fun c c1 c2 => by rw [wr_c c1]; exact h1 c c1 c2, h2, tkc_wr h3 rfl rfl rfl rfl rfl, by show τ 31 2 + 1 = _; rw [h4, nI_1], h5, h6, h7, h8, h9⟩
theorem fl_wr {σ τ : Mm} {s j : Nat} {v : Int32} (h : FlC σ τ s) (h3 : j ≠ 3) (h6 : j ≠ 6) : FlC σ (wr τ 31 j v) s := by
  obtain ⟨h1, h2, h4, h5⟩ := h
  have e6 : wr τ 31 j v 31 6 = τ 31 6 := wr_i (fun z => h6 z.symm)
  exact ⟨fun c c1 c2 => by rw [wr_c c1]; exact h1 c c1 c2, by rw [wr_i (fun z => h3 z.symm)]; exact h2, by rw [e6]; exact h4, by rw [e6]; exact h5⟩
theorem rd_not {d f : Nat} {b : Nat → Int32} {n : Nat} {g0 : Nat → Int32} {c0 : Nat} {σ : Mm} {τ : Mm} {Q : Qt} {B N : Nat} {st : Pst} (hL : LeC b n g0 c0 σ f) (hs : σ 30 = b) (hn : n ≤ 96) (hB : B ≤ 8) (hN : N < 8) (hM0 : Ms 5 B (N + 1) ≤ f) (ht : tkO b n st.1) (hk : st.1.1 = 3) (hc : c0 + st.2.2.length ≤ st.1.2.1) (h : CrC b n g0 c0 σ τ B N st) (h1 : (prF b n f 5 B (N + 1) (adS b n st)).1 = true → ∀ τ', CrC b n g0 c0 σ τ' B N (puS (-15, 33, 0) (prF b n f 5 B (N + 1) (adS b n st)).2) → Q (some (.int 1)) τ') (h2 : ¬ (prF b n f 5 B (N + 1) (adS b n st)).1 = true → ∀ τ', FlC σ τ' (prF b n f 5 B (N + 1) (adS b n st)).2.1.2.1 → Q (some (.int 0)) τ') : Call (d + Dc B N + 8) k_X4_readNot [.ref 31] τ Q := by
  have hnx := nx_ok (b := b) (n := n) ht
  have hse := ht.2.2.1 (by omega)
  have hle : c0 + (adS b n st).2.2.length ≤ (adS b n st).1.2.1 := by show c0 + st.2.2.length ≤ (nxT b n st.1).2.1; omega
  have hlf : ∀ (τ' : Mm) (Q' : Qt), CrC b n g0 c0 σ τ' B (N + 1) (adS b n st) → ((prF b n f 5 B (N + 1) (adS b n st)).1 = true → ∀ υ, CrC b n g0 c0 σ υ B (N + 1) (prF b n f 5 B (N + 1) (adS b n st)).2 → grd b n (adS b n st) (prF b n f 5 B (N + 1) (adS b n st)).2 → Q' (some (.int 1)) υ) → (¬ (prF b n f 5 B (N + 1) (adS b n st)).1 = true → ∀ υ, FlC σ υ (prF b n f 5 B (N + 1) (adS b n st)).2.1.2.1 → Q' (some (.int 0)) υ) → Call (d + Dc B N + 7) k_X4_readLeaf [.ref 31] τ' Q' := fun τ' Q' q1 q2 q3 => Call_ge (a := d + Dc B (N + 1) + 9) (by unfold Dc; omega) (hL B (N + 1) hM0 hB (by omega) d τ' Q' _ hnx.1 hle q1 q2 q3)
  refine Call_st 60 fun X hX => ?_
  have hM := crc_N (M := N + 1) (v := τ 31 12 + 1) h (by rw [h.2.2.2.2.2.2.2.2, nI_1])
  refine ⟨rfl, rfl, ?_⟩
  refine s_advS (st := st) hs hn ht (by omega) hM (fun h11a h11b => ?_)
  refine ⟨rfl, rfl, ?_⟩
  refine hlf h11a _ h11b (fun h15a h15b h15c h15d => ?_) (fun h15a h15b h15c => ?_)
  · have hlt : c0 + (prF b n f 5 B (N + 1) (adS b n st)).2.2.2.length < 96 := by
      obtain ⟨q1, q2, nw, q3, q4, _⟩ := h15d
      have q4 : nw.length + (nxT b n st.1).2.1 ≤ (prF b n f 5 B (N + 1) (adS b n st)).2.1.2.1 := q4
      have q5 := q1.1
      have q6 := q1.2.1
      rw [q3, List.length_append]
      show c0 + (nw.length + st.2.2.length) < 96
      omega
    refine ⟨rfl, rfl, ?_⟩
    refine s_emitS (y := (-15, 33, 0)) rfl hlt h15c (fun h22a h22b => ?_)
    refine ⟨rfl, Or.inr rfl, ?_⟩
    exact h1 h15a _ (crc_N h22b (by show h22a 31 12 - 1 = nI N; rw [h22b.2.2.2.2.2.2.2.2, nI_pred]))
  · refine ⟨rfl, rfl, ?_⟩
    refine s_emitF h15c (fun h22a h22b h22c => ?_)
    refine ⟨rfl, Or.inl rfl, ?_⟩
    exact h2 h15a _ (fl_wr h22b (by decide) (by decide))
theorem rd_bra {d f : Nat} {b : Nat → Int32} {n : Nat} {g0 : Nat → Int32} {c0 : Nat} {σ : Mm} {τ : Mm} {Q : Qt} {B N : Nat} {st : Pst} (hL : LvC b n g0 c0 σ f) (hs : σ 30 = b) (hn : n ≤ 96) (hB : B < 8) (hN : N ≤ 8) (hM0 : Ms 0 (B + 1) N ≤ f) (ht : tkO b n st.1) (hk : st.1.1 = 3) (hc : c0 + st.2.2.length ≤ st.1.2.1) (h : CrC b n g0 c0 σ τ B N st) (h1 : ((prF b n f 0 (B + 1) N (adS b n st)).1 = true ∧ (tokC b (prF b n f 0 (B + 1) N (adS b n st)).2.1).toInt = 41) → ∀ τ', CrC b n g0 c0 σ τ' B N (adS b n (prF b n f 0 (B + 1) N (adS b n st)).2) → Q (some (.int 1)) τ') (h2 : ¬ ((prF b n f 0 (B + 1) N (adS b n st)).1 = true ∧ (tokC b (prF b n f 0 (B + 1) N (adS b n st)).2.1).toInt = 41) → ∀ τ', FlC σ τ' (prF b n f 0 (B + 1) N (adS b n st)).2.1.2.1 → Q (some (.int 0)) τ') : Call (d + Dc B N + 8) k_X4_readBracket [.ref 31] τ Q := by
  have hnx := nx_ok (b := b) (n := n) ht
  have hse := ht.2.2.1 (by omega)
  have hle : c0 + (adS b n st).2.2.length ≤ (adS b n st).1.2.1 := by show c0 + st.2.2.length ≤ (nxT b n st.1).2.1; omega
  have hlv : ∀ (τ' : Mm) (Q' : Qt), CrC b n g0 c0 σ τ' (B + 1) N (adS b n st) → ((prF b n f 0 (B + 1) N (adS b n st)).1 = true → ∀ υ, CrC b n g0 c0 σ υ (B + 1) N (prF b n f 0 (B + 1) N (adS b n st)).2 → grd b n (adS b n st) (prF b n f 0 (B + 1) N (adS b n st)).2 → Q' (some (.int 1)) υ) → (¬ (prF b n f 0 (B + 1) N (adS b n st)).1 = true → ∀ υ, FlC σ υ (prF b n f 0 (B + 1) N (adS b n st)).2.1.2.1 → Q' (some (.int 0)) υ) → Call (d + Dc B N + 7) k_X4_readLevel [.ref 31, .int 0] τ' Q' := fun τ' Q' q1 q2 q3 => Call_ge (a := d + Dc (B + 1) N + (6 - 0) + 9) (by unfold Dc; omega) (hL 0 (B + 1) N hM0 (by decide) (by omega) hN d τ' Q' 0 _ rfl hnx.1 hle q1 q2 q3)
  refine Call_st 60 fun X hX => ?_
  have hM := crc_B (M := B + 1) (v := τ 31 11 + 1) h (by rw [h.2.2.2.2.2.2.2.1, nI_1])
  refine ⟨rfl, rfl, ?_⟩
  refine s_advS (st := st) hs hn ht (by omega) hM (fun h11a h11b => ?_)
  refine ⟨rfl, rfl, ?_⟩
  refine hlv h11a _ h11b (fun h16a h16b h16c h16d => ?_) (fun h16a h16b h16c => ?_)
  · refine ⟨fun z => absurd z (by decide), fun _ => ?_⟩
    refine ⟨fun c28 => ?_, fun c28 => ?_⟩
    · have hz : (tokC b (prF b n f 0 (B + 1) N (adS b n st)).2.1).toInt = 41 := by rw [← h16c.2.2.1.2.2.1]; exact c28
      have hk41 := (tok_sg (b := b) (t := (prF b n f 0 (B + 1) N (adS b n st)).2.1) (by omega)).1
      refine ⟨rfl, rfl, ?_⟩
      refine s_advS (st := (prF b n f 0 (B + 1) N (adS b n st)).2) hs hn h16d.1 (by rw [hk41]; decide) (crc_B (M := B) (v := h16b 31 11 - 1) h16c (by rw [h16c.2.2.2.2.2.2.2.1, nI_pred])) (fun h44a h44b => ?_)
      refine ⟨rfl, Or.inr rfl, ?_⟩
      exact h1 ⟨h16a, hz⟩ _ h44b
    · refine ⟨rfl, Or.inl rfl, ?_⟩
      refine h2 (fun z => c28 ?_) _ (crc_fl h16c ?_)
      · rw [h16c.2.2.1.2.2.1]; exact z.2
      · have := grd_len h16d hle
        have q6 := h16d.1.2.1
        have q5 := h16d.1.1
        omega
  · refine ⟨fun _ => ?_, fun z => absurd (by decide) z⟩
    refine ⟨rfl, Or.inl rfl, ?_⟩
    exact h2 (fun z => h16a z.1) _ h16c
