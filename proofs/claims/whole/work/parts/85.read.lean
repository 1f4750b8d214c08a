def arrM (h v : Nat → Int32) (c0 : Nat) : List Sp3 → Prop
  | [] => True
  | x :: l => (h (c0 + l.length) = x.2.1 ∧ v (c0 + l.length) = x.2.2) ∧ arrM h v c0 l
theorem arrM_cong {h v h' v' : Nat → Int32} {c0 : Nat} : ∀ l : List Sp3, (∀ i, i < l.length → h' (c0 + i) = h (c0 + i) ∧ v' (c0 + i) = v (c0 + i)) → arrM h v c0 l → arrM h' v' c0 l
  | [], _, _ => True.intro
  | _ :: l, h, ha => ⟨⟨(h l.length (Nat.lt_succ_self _)).1.trans ha.1.1, (h l.length (Nat.lt_succ_self _)).2.trans ha.1.2⟩, arrM_cong l (fun i hi => h i (Nat.lt_succ_of_lt hi)) ha.2⟩
/-- what the reference's reader leaves -/
def FrM (σ τ : Mm) : Prop := (∀ c, c ≠ 88 → c ≠ 114 → c ≠ 115 → c ≠ 116 → τ c = σ c) ∧ ∀ j, cu [37, 38, 39, 40, 41, 42, 43, 44, 45, 46] j = false → τ 88 j = σ 88 j
/-- the reference's reader stands where the reading stands -/
def MrM (b : Nat → Int32) (p : Nat) (σ τ : Mm) (B N : Nat) (st : Pst) : Prop := FrM σ τ ∧ TkM b τ st.1 ∧ τ 88 42 = nI B ∧ τ 88 43 = nI N ∧ τ 88 44 = nI st.2.1 ∧ τ 88 45 = nI p ∧ τ 88 46 = 0 ∧ τ 114 p = nI st.2.2.length ∧ arrM (τ 115) (τ 116) (100 * p) st.2.2 ∧ (∀ q, q < p → τ 114 q = σ 114 q) ∧ ∀ j, j < 100 * p → τ 115 j = σ 115 j ∧ τ 116 j = σ 116 j
/-- it has found the text wrong -/
def WrM (σ τ : Mm) (s : Nat) : Prop := FrM σ τ ∧ τ 88 39 = nI s ∧ τ 88 46 = 1
theorem fm_wr {σ τ : Mm} {j : Nat} {v : Int32} (h : FrM σ τ) (hj : cu [37, 38, 39, 40, 41, 42, 43, 44, 45, 46] j = true) : FrM σ (wr τ 88 j v) := ⟨fun c c1 c2 c3 c4 => (wr_c c1).trans (h.1 c c1 c2 c3 c4), fun i hi => by
  rw [wr_i (fun z => by rw [z, hj] at hi; cases hi)]
  exact h.2 i hi⟩
theorem wm_wr {σ τ : Mm} {s j : Nat} {v : Int32} (h : WrM σ τ s) (hj : cu [37, 38, 39, 40, 41, 42, 43, 44, 45, 46] j = true) (h39 : j ≠ 39) (h46 : j ≠ 46) : WrM σ (wr τ 88 j v) s := ⟨fm_wr h.1 hj, (wr_i (fun z => h39 z.symm)).trans h.2.1, (wr_i (fun z => h46 z.symm)).trans h.2.2⟩
theorem wm_46 {σ τ : Mm} {s : Nat} (h : WrM σ τ s) : WrM σ (wr τ 88 46 1) s := ⟨fm_wr h.1 rfl, h.2.1, rfl⟩
theorem mm_wm {b : Nat → Int32} {p : Nat} {σ : Mm} {τ : Mm} {B N : Nat} {st : Pst} (h : MrM b p σ τ B N st) : WrM σ (wr τ 88 46 1) st.1.2.1 := ⟨fm_wr h.1 rfl, h.2.1.1, rfl⟩
theorem mm_46 {b : Nat → Int32} {p : Nat} {σ : Mm} {τ : Mm} {B N : Nat} {st : Pst} (h : MrM b p σ τ B N st) : MrM b p σ (wr τ 88 46 0) B N st := by
  obtain ⟨h1, h2, h3, h4, h5, h6, h7, h8⟩ := h
  exact ⟨fm_wr h1 rfl, h2, h3, h4, h5, h6, rfl, h8⟩
theorem mm_B {b : Nat → Int32} {p : Nat} {σ : Mm} {τ : Mm} {B N M : Nat} {st : Pst} {v : Int32} (h : MrM b p σ τ B N st) (hv : v = nI M) : MrM b p σ (wr τ 88 42 v) M N st := by
  obtain ⟨h1, h2, h3, h4, h5, h6, h7, h8⟩ := h
  exact ⟨fm_wr h1 rfl, h2, hv, h4, h5, h6, h7, h8⟩
theorem mm_N {b : Nat → Int32} {p : Nat} {σ : Mm} {τ : Mm} {B N M : Nat} {st : Pst} {v : Int32} (h : MrM b p σ τ B N st) (hv : v = nI M) : MrM b p σ (wr τ 88 43 v) B M st := by
  obtain ⟨h1, h2, h3, h4, h5, h6, h7, h8⟩ := h
  exact ⟨fm_wr h1 rfl, h2, h3, hv, h5, h6, h7, h8⟩
theorem mm_w {b : Nat → Int32} {p : Nat} {σ : Mm} {τ : Mm} {B N : Nat} {st : Pst} (h : MrM b p σ τ B N st) : MrM b p σ (wr τ 88 44 (τ 88 44 + 1)) B N (st.1, st.2.1 + 1, st.2.2) := by
  obtain ⟨h1, h2, h3, h4, h5, h6, h7, h8⟩ := h
  exact ⟨fm_wr h1 rfl, h2, h3, h4, by show τ 88 44 + 1 = _; rw [h5, nI_1], h6, h7, h8⟩
theorem m_must {d : Nat} {σ : Mm} {Q : Qt} {x : Int32} (hy : (σ 88 46).toInt = 0 → ¬ x.toInt = 0 → Q none (wr σ 88 46 0)) (hw : (¬ (σ 88 46).toInt = 0 ∨ x.toInt = 0) → Q none (wr σ 88 46 1)) : Call (d + 1) k_X12_must [.ref 88, .int x] σ Q := by
  refine Call_st 120 fun X hX => ?_
  refine ⟨fun c5 => ?_, fun c5 => ?_⟩
  · refine ⟨fun c9 => ?_, fun c9 => ?_⟩
    · refine ⟨Or.inr rfl, ?_⟩
      refine ⟨rfl, rfl, ?_⟩
      first | exact hy (by omega) (by omega) | exact hw (by omega)
    · refine ⟨Or.inl rfl, ?_⟩
      refine ⟨rfl, rfl, ?_⟩
      first | exact hy (by omega) (by omega) | exact hw (by omega)
  · refine ⟨Or.inr rfl, ?_⟩
    refine ⟨rfl, rfl, ?_⟩
    first | exact hy (by omega) (by omega) | exact hw (by omega)
theorem m_mustS {d : Nat} {b : Nat → Int32} {p : Nat} {σ : Mm} {τ : Mm} {Q : Qt} {B N : Nat} {st : Pst} {x : Int32} {c : Prop} (hx : ¬ x.toInt = 0 ↔ c) (h : MrM b p σ τ B N st) (hy : c → ∀ ρ, MrM b p σ ρ B N st → Q none ρ) (hw : ¬ c → ∀ ρ, WrM σ ρ st.1.2.1 → Q none ρ) : Call (d + 1) k_X12_must [.ref 88, .int x] τ Q := by
  have e := h.2.2.2.2.2.2.1
  exact m_must (fun _ q => hy (hx.mp q) _ (mm_46 h)) (fun q => hw (fun z => by
    rcases q with q | q
    · rw [e] at q; exact q rfl
    · exact hx.mpr z q) _ (mm_wm h))
theorem m_mustW {d : Nat} {σ τ : Mm} {Q : Qt} {s : Nat} {x : Int32} (h : WrM σ τ s) (hQ : ∀ ρ, WrM σ ρ s → Q none ρ) : Call (d + 1) k_X12_must [.ref 88, .int x] τ Q := m_must (fun q => absurd q (by rw [h.2.2]; decide)) (fun _ => hQ _ (wm_46 h))
theorem m_isSg {d : Nat} {σ : Mm} {Q : Qt} {c : Int32} (hQ : Q (some (.int (bI ((σ 88 46).toInt = 0 ∧ (σ 88 38).toInt = 3 ∧ (σ 88 41).toInt = c.toInt)))) σ) : Call (d + 1) k_X12_isSign [.ref 88, .int c] σ Q := by
  refine Call_st 120 fun X hX => ?_
  refine ⟨fun c4 => ?_, fun c4 => ?_⟩
  · refine ⟨fun c12 => ?_, fun c12 => ?_⟩
    · refine ⟨fun c20 => ?_, fun c20 => ?_⟩
      · refine ⟨rfl, Or.inr rfl, ?_⟩
        try simp only [Int32.reduceToInt] at c4 c12 c20
        first | exact bI_t hQ (by omega) | exact bI_f hQ (by omega)
      · refine ⟨rfl, Or.inl rfl, ?_⟩
        try simp only [Int32.reduceToInt] at c4 c12 c20
        first | exact bI_t hQ (by omega) | exact bI_f hQ (by omega)
    · refine ⟨rfl, Or.inl rfl, ?_⟩
      try simp only [Int32.reduceToInt] at c4 c12
      first | exact bI_t hQ (by omega) | exact bI_f hQ (by omega)
  · refine ⟨rfl, Or.inl rfl, ?_⟩
    try simp only [Int32.reduceToInt] at c4
    first | exact bI_t hQ (by omega) | exact bI_f hQ (by omega)
theorem m_isSgS {d : Nat} {b : Nat → Int32} {n p : Nat} {σ : Mm} {τ : Mm} {Q : Qt} {B N : Nat} {st : Pst} {c : Int32} (hb : ∀ i, i < 96 → -128 ≤ (b i).toInt ∧ (b i).toInt < 128) (hn : n ≤ 96) (ht : tkO b n st.1) (hc : c.toInt < 256) (h : MrM b p σ τ B N st) (hQ : Q (some (.int (bI ((tokC b st.1).toInt = c.toInt)))) τ) : Call (d + 1) k_X12_isSign [.ref 88, .int c] τ Q := by
  have htb := tk_b hb hn ht
  have h38 : (τ 88 38).toInt = st.1.1 := by rw [h.2.1.2.2.1, nIt (by have := ht.2.2.2.1; omega)]
  refine m_isSg (bI_e hQ ⟨fun z => ?_, fun z => ?_⟩)
  · have k := tok_sg (b := b) (t := st.1) (by omega)
    refine ⟨by rw [h.2.2.2.2.2.2.1]; rfl, by rw [h38, k.1]; rfl, ?_⟩
    rw [h.2.1.2.2.2.1 (Or.inr k.1), ← k.2]
    exact z
  · have k : st.1.1 = 3 := by have := z.2.1; omega
    have e := h.2.1.2.2.2.1 (Or.inr k)
    rcases tok_cases ht.2.2.2.1 htb with ⟨a, _⟩ | ⟨a, _⟩ | ⟨a, _⟩ | ⟨a, f, _⟩ | ⟨a, _⟩
    · omega
    · omega
    · omega
    · rw [f, ← e]; exact z.2.2
    · omega
theorem m_isSgW {d : Nat} {σ τ : Mm} {Q : Qt} {s : Nat} {c : Int32} (h : WrM σ τ s) (hQ : Q (some (.int 0)) τ) : Call (d + 1) k_X12_isSign [.ref 88, .int c] τ Q := m_isSg (by
  rw [bI_n (fun z => absurd z.1 (by rw [h.2.2]; decide))]
  exact hQ)
theorem m_step0 {d : Nat} {σ : Mm} {Q : Qt} {x y : Int32} (hbd : (σ 88 46).toInt = 0 → ixs (100 * σ 88 45 + σ 114 (σ 88 45).toInt.toNat) 300 ∧ ixs (σ 88 45) 3) (hw : ¬ (σ 88 46).toInt = 0 → Q none σ) (hy : (σ 88 46).toInt = 0 → Q none (wr (wr (wr σ 115 (100 * σ 88 45 + σ 114 (σ 88 45).toInt.toNat).toInt.toNat x) 116 (100 * σ 88 45 + σ 114 (σ 88 45).toInt.toNat).toInt.toNat y) 114 (σ 88 45).toInt.toNat (σ 114 (σ 88 45).toInt.toNat + 1))) : Call (d + 1) k_X12_step [.ref 88, .int x, .int y] σ Q := by
  refine Call_st 80 fun X hX => ?_
  refine ⟨fun c4 => ?_, fun c4 => ?_⟩
  · refine ⟨_, _, rfl, (hbd (by omega)).2, ?_⟩
    refine ⟨_, rfl, (hbd (by omega)).1, ?_⟩
    refine ⟨_, _, rfl, (hbd (by omega)).2, ?_⟩
    refine ⟨_, rfl, (hbd (by omega)).1, ?_⟩
    refine ⟨_, _, rfl, (hbd (by omega)).2, ?_⟩
    refine ⟨_, rfl, (hbd (by omega)).2, ?_⟩
    refine ⟨rfl, rfl, ?_⟩
    exact hy (by omega)
  · refine ⟨rfl, rfl, ?_⟩
    exact hw (by omega)
theorem m_stepS {d : Nat} {b : Nat → Int32} {p : Nat} {σ : Mm} {τ : Mm} {Q : Qt} {B N : Nat} {st : Pst} {x y : Int32} (u : Sp3) (hp : p < 3) (hx : x = u.2.1) (hy : y = u.2.2) (hl : st.2.2.length < 100) (h : MrM b p σ τ B N st) (hQ : ∀ ρ, MrM b p σ ρ B N (puS u st) → Q none ρ) : Call (d + 1) k_X12_step [.ref 88, .int x, .int y] τ Q := by
  obtain ⟨h1, h2, h3, h4, h5, h6, h7, h8, h9, h10, h11⟩ := h
  have e1 := nIt (n := p) (by omega)
  have e2 := nIn (i := p) (by omega)
  have e3 : 100 * τ 88 45 + τ 114 (τ 88 45).toInt.toNat = nI (100 * p + st.2.2.length) := by
    rw [h6, e2, h8]
    have a := nIt (n := st.2.2.length) (by omega)
    have c := nIt (n := 100 * p + st.2.2.length) (by omega)
    refine Int32.toInt_inj.mp ?_
    rw [c]
    simp only [Int32.toInt_add, Int32.toInt_mul, Int32.reduceToInt, e1, a, Int.bmod]
    omega
  have e4 := nIt (n := 100 * p + st.2.2.length) (by omega)
  have e5 := nIn (i := 100 * p + st.2.2.length) (by omega)
  refine m_step0 (fun _ => ?_) (fun q => absurd (show (τ 88 46).toInt = 0 by rw [h7]; rfl) q) (fun _ => hQ _ ?_)
  · rw [e3, h6]
    exact ⟨⟨by omega, by omega⟩, ⟨by omega, by omega⟩⟩
  · rw [e3, h6, e2, e5]
    refine ⟨⟨fun c c1 c2 c3 c4 => by rw [wr_c c2, wr_c c4, wr_c c3]; exact h1.1 c c1 c2 c3 c4, h1.2⟩, h2, h3, h4, h5, h6, h7, ?_, ⟨⟨?_, ?_⟩, ?_⟩, fun q hq => ?_, fun j hj => ⟨?_, ?_⟩⟩
    · show upd (τ 114) p (τ 114 p + 1) p = nI (st.2.2.length + 1)
      rw [pk_us, h8, nI_1]
    · show upd (τ 115) (100 * p + st.2.2.length) x (100 * p + st.2.2.length) = _
      rw [pk_us]; exact hx
    · show upd (τ 116) (100 * p + st.2.2.length) y (100 * p + st.2.2.length) = _
      rw [pk_us]; exact hy
    · exact arrM_cong _ (fun i hi => ⟨pk_un (by omega), pk_un (by omega)⟩) h9
    · show upd (τ 114) p (τ 114 p + 1) q = _
      rw [pk_un (by omega)]; exact h10 q hq
    · show upd (τ 115) (100 * p + st.2.2.length) x j = _
      rw [pk_un (by omega)]; exact (h11 j hj).1
    · show upd (τ 116) (100 * p + st.2.2.length) y j = _
      rw [pk_un (by omega)]; exact (h11 j hj).2
theorem m_stepW {d : Nat} {σ τ : Mm} {Q : Qt} {s : Nat} {x y : Int32} (h : WrM σ τ s) (hQ : Q none τ) : Call (d + 1) k_X12_step [.ref 88, .int x, .int y] τ Q := by
  have e : ¬ (τ 88 46).toInt = 0 := by rw [h.2.2]; decide
  exact m_step0 (fun q => absurd q e) (fun _ => hQ) (fun q => absurd q e)
theorem m_nextS {d : Nat} {b : Nat → Int32} {n p : Nat} {σ : Mm} {τ : Mm} {Q : Qt} {B N : Nat} {st : Pst} (hb : ∀ i, i < 96 → -128 ≤ (b i).toInt ∧ (b i).toInt < 128) (ht8 : ∀ i, i < 96 → σ 118 i = b i &&& 255) (hn6 : σ 88 36 = nI n) (hn : n ≤ 96) (ht : tkO b n st.1) (h : MrM b p σ τ B N st) (hQ : ∀ ρ, MrM b p σ ρ B N (adS b n st) → Q none ρ) : Call (d + 2) k_X12_next [.ref 88] τ Q := by
  obtain ⟨h1, h2, h3, h4, h5, h6, h7, h8, h9⟩ := h
  refine m_next (b := b) (n := n) (p := st.1.2.2) (kk := st.1.1) hb (fun i hi => by rw [h1.1 118 (by decide) (by decide) (by decide) (by decide)]; exact ht8 i hi) ((h1.2 36 rfl).trans hn6) hn ht.2.1 h2.2.1 h2.2.2.1 ht.2.2.2.1 (fun ρ k1 k2 => hQ ρ ?_)
  refine ⟨⟨fun c c1 c2 c3 c4 => (k1.1 c c1).trans (h1.1 c c1 c2 c3 c4), fun j hj => (k1.2 j (cu_sub (by decide) hj)).trans (h1.2 j hj)⟩, k2, (k1.2 42 rfl).trans h3, (k1.2 43 rfl).trans h4, (k1.2 44 rfl).trans h5, (k1.2 45 rfl).trans h6, (k1.2 46 rfl).trans h7, ?_⟩
  rw [k1.1 114 (by decide), k1.1 115 (by decide), k1.1 116 (by decide)]
  exact ⟨h8, h9⟩
theorem m_goS {d : Nat} {b : Nat → Int32} {n p : Nat} {σ : Mm} {τ : Mm} {Q : Qt} {B N : Nat} {st : Pst} (hb : ∀ i, i < 96 → -128 ≤ (b i).toInt ∧ (b i).toInt < 128) (ht8 : ∀ i, i < 96 → σ 118 i = b i &&& 255) (hn6 : σ 88 36 = nI n) (hn : n ≤ 96) (ht : tkO b n st.1) (h : MrM b p σ τ B N st) (hQ : ∀ ρ, MrM b p σ ρ B N (adS b n st) → Q none ρ) : Call (d + 3) k_X12_goOn [.ref 88] τ Q := by
  have e46 : (τ 88 46).toInt = 0 := by rw [h.2.2.2.2.2.2.1]; rfl
  refine Call_st 20 fun X hX => ?_
  refine ⟨fun c4 => ?_, fun c4 => ?_⟩
  · refine ⟨rfl, rfl, ?_⟩
    refine m_nextS hb ht8 hn6 hn ht h (fun h8a h8b => ?_)
    refine ⟨rfl, rfl, ?_⟩
    exact hQ _ h8b
  · refine ⟨rfl, rfl, ?_⟩
    exfalso; omega
theorem m_goW {d : Nat} {σ τ : Mm} {Q : Qt} {s : Nat} (h : WrM σ τ s) (hQ : Q none τ) : Call (d + 1) k_X12_goOn [.ref 88] τ Q := by
  have e46 : (τ 88 46).toInt = 1 := by rw [h.2.2]; rfl
  refine Call_st 60 fun X hX => ?_
  refine ⟨fun c4 => ?_, fun c4 => ?_⟩
  · exfalso; omega
  · refine ⟨rfl, rfl, ?_⟩
    exact hQ
theorem m_paW {d : Nat} {σ τ : Mm} {Q : Qt} {s : Nat} (h : WrM σ τ s) (hQ : Q none τ) : Call (d + 1) k_X12_part_ [.ref 88] τ Q := by
  have e46 : (τ 88 46).toInt = 1 := by rw [h.2.2]; rfl
  refine Call_st 60 fun X hX => ?_
  refine ⟨fun c4 => ?_, fun c4 => ?_⟩
  · exfalso; omega
  · refine ⟨rfl, rfl, ?_⟩
    exact hQ
theorem m_prW {d : Nat} {σ τ : Mm} {Q : Qt} {s : Nat} (h : WrM σ τ s) (hQ : Q none τ) : Call (d + 2) k_X12_product [.ref 88] τ Q := by
  have e46 : (τ 88 46).toInt = 1 := by rw [h.2.2]; rfl
  refine Call_st 60 fun X hX => ?_
  refine ⟨rfl, rfl, ?_⟩
  refine m_paW h ?_
  refine ⟨rfl, rfl, ?_⟩
  refine m_isSgW h ?_
  refine ⟨fun _ => ?_, fun z => absurd (by decide) z⟩
  refine ⟨rfl, rfl, ?_⟩
  refine m_isSgW h ?_
  refine ⟨fun _ => ?_, fun z => absurd (by decide) z⟩
  refine ⟨rfl, rfl, ?_⟩
  exact hQ
theorem m_suW {d : Nat} {σ τ : Mm} {Q : Qt} {s : Nat} (h : WrM σ τ s) (hQ : Q none τ) : Call (d + 3) k_X12_sum [.ref 88] τ Q := by
  have e46 : (τ 88 46).toInt = 1 := by rw [h.2.2]; rfl
  refine Call_st 60 fun X hX => ?_
  refine ⟨rfl, rfl, ?_⟩
  refine m_prW h ?_
  refine ⟨rfl, rfl, ?_⟩
  refine m_isSgW h ?_
  refine ⟨fun _ => ?_, fun z => absurd (by decide) z⟩
  refine ⟨rfl, rfl, ?_⟩
  refine m_isSgW h ?_
  refine ⟨fun _ => ?_, fun z => absurd (by decide) z⟩
  refine ⟨rfl, rfl, ?_⟩
  exact hQ
theorem m_teW {d : Nat} {σ τ : Mm} {Q : Qt} {s : Nat} (h : WrM σ τ s) (hQ : Q none τ) : Call (d + 4) k_X12_test [.ref 88] τ Q := by
  have e46 : (τ 88 46).toInt = 1 := by rw [h.2.2]; rfl
  refine Call_st 60 fun X hX => ?_
  refine ⟨rfl, rfl, ?_⟩
  refine m_suW h ?_
  refine ⟨rfl, rfl, ?_⟩
  refine m_isSgW h ?_
  refine ⟨fun _ => ?_, fun z => absurd (by decide) z⟩
  refine ⟨rfl, rfl, ?_⟩
  refine m_isSgW h ?_
  refine ⟨fun _ => ?_, fun z => absurd (by decide) z⟩
  refine ⟨rfl, rfl, ?_⟩
  refine m_isSgW h ?_
  refine ⟨fun _ => ?_, fun z => absurd (by decide) z⟩
  refine ⟨rfl, rfl, ?_⟩
  exact hQ
theorem m_anW {d : Nat} {σ τ : Mm} {Q : Qt} {s : Nat} (h : WrM σ τ s) (hQ : Q none τ) : Call (d + 5) k_X12_and [.ref 88] τ Q := by
  have e46 : (τ 88 46).toInt = 1 := by rw [h.2.2]; rfl
  refine Call_st 60 fun X hX => ?_
  refine ⟨rfl, rfl, ?_⟩
  refine m_teW h ?_
  refine ⟨rfl, rfl, ?_⟩
  refine m_isSgW h ?_
  refine ⟨fun _ => ?_, fun z => absurd (by decide) z⟩
  refine ⟨rfl, rfl, ?_⟩
  exact hQ
theorem m_orW {d : Nat} {σ τ : Mm} {Q : Qt} {s : Nat} (h : WrM σ τ s) (hQ : Q none τ) : Call (d + 6) k_X12_or [.ref 88] τ Q := by
  have e46 : (τ 88 46).toInt = 1 := by rw [h.2.2]; rfl
  refine Call_st 60 fun X hX => ?_
  refine ⟨rfl, rfl, ?_⟩
  refine m_anW h ?_
  refine ⟨rfl, rfl, ?_⟩
  refine m_isSgW h ?_
  refine ⟨fun _ => ?_, fun z => absurd (by decide) z⟩
  refine ⟨rfl, rfl, ?_⟩
  exact hQ
