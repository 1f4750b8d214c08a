theorem u_ch {x : Int32} {c : Int} (h : -128 ≤ x.toInt ∧ x.toInt < 128) (hc : 0 ≤ c ∧ c < 128) : (x &&& 255).toInt = c ↔ x.toInt = c := by
  rw [u255 h]
  by_cases q : x.toInt < 0
  · rw [if_pos q]; omega
  · rw [if_neg q]
theorem hd_r {i : Nat} (q : i < 18) : 0 ≤ (headB i).toInt ∧ (headB i).toInt < 128 := by
  have : ∀ j : Fin 18, 0 ≤ (headB j.1).toInt ∧ (headB j.1).toInt < 128 := by decide
  exact this ⟨i, q⟩
set_option maxHeartbeats 1000000 in
theorem m_isHd {d : Nat} {τ : Mm} {Q : Qt} {b : Nat → Int32} {n K len s e kd : Nat} (hb : ∀ i, i < 96 → -128 ≤ (b i).toInt ∧ (b i).toInt < 128) (ht8 : ∀ i, i < 96 → τ 118 i = b i &&& 255) (hn6 : τ 88 36 = nI n) (hn : n ≤ 96) (h119 : ∀ i, i < 18 → τ 119 i = headB i) (hK : K < 3) (hlen : len ≤ 6) (hnz : ∀ i, i < len → ¬ (headB (6 * K + i)).toInt = 0) (hz : len < 6 → (headB (6 * K + len)).toInt = 0) (h39 : τ 88 39 = nI s) (h37 : τ 88 37 = nI e) (h38 : τ 88 38 = nI kd) (hkd : kd < 5) (hse : s ≤ e) (hen : e ≤ n) (hQ : Q (some (.int (bI (kd = 1 ∧ e = s + len ∧ ∀ j, j < len → (b (s + j)).toInt = (headB (6 * K + j)).toInt)))) τ) : Call (d + 2) k_X12_isHead [.ref 88, .int (nI K)] τ Q := by
  have eK := nIt (n := K) (by omega)
  have elen := nIt (n := len) (by omega)
  have e6 : (6 : Int32) * nI K = nI (6 * K) := by rcases (show K = 0 ∨ K = 1 ∨ K = 2 by omega) with q | q | q <;> subst q <;> decide
  have e38 : (τ 88 38).toInt = kd := by rw [h38, nIt (by omega)]
  have esub : (τ 88 37 - τ 88 39).toInt = (e : Int) - s := by
    rw [h37, h39]
    have a := nIt (n := s) (by omega)
    have c := nIt (n := e) (by omega)
    simp only [Int32.toInt_sub, a, c, Int.bmod]
    omega
  refine Call_go fun X hX => ?_
  have loopB : ∀ (k i : Nat), i + k = len → X 58 [.ref 88, .int (nI K), .int (nI len), .int (bI (kd = 1 ∧ e = s + len ∧ ∀ j, j < i → (b (s + j)).toInt = (headB (6 * K + j)).toInt)), .int (nI i)] [] τ := by
    intro k
    induction k with
    | zero =>
      intro i  hi 
      rw [Nat.add_zero] at hi
      have ei := nIt (n := i) (by omega)
      refine go [58] 100 hX ?_
      refine ⟨fun c61 => ?_, fun c61 => ?_⟩
      · exfalso; rw [ei, elen] at c61; omega
      · refine ⟨rfl, isb_bI, ?_⟩
        rw [hi]
        exact hQ
    | succ k ih =>
      intro i  hi 
      have ei := nIt (n := i) (by omega)
      have eiw : (6 * nI K + nI i).toInt = 6 * K + i := by
        rw [e6, nI_add, nIt (by omega)]
        omega
      have eiy : (6 * nI K + nI i).toInt.toNat = 6 * K + i := by omega
      have eix := eiy
      refine go [58] 100 hX ?_
      refine ⟨fun c61 => ?_, fun c61 => ?_⟩
      · refine ⟨fun c65 => ?_, fun c65 => ?_⟩
        · replace c65 := bI_z c65
          refine ⟨rfl, isb_bI, ?_⟩
          refine Qe (bI_f hQ (fun z => c65 ⟨z.1, z.2.1, fun j hj => z.2.2 j (by omega)⟩)) (vI_ ?_) rfl
          exact bI_n c65
        · replace c65 := bI_nz c65
          refine ⟨rfl, rfl, ?_⟩
          refine m_byteAt (b := b) (n := n) (q := s + i) ht8 hn6 hn (by omega) (by rw [h39, nI_add]) ?_
          refine ⟨_, _, rfl, ⟨by omega, by omega⟩, ?_⟩
          refine ⟨fun c91 => ?_, fun c91 => ?_⟩
          · have ih1 := ih (i + 1) (by omega)
            rw [eix, h119 _ (by omega)] at c91
            rw [show byF b n (s + i) = b (s + i) &&& 255 from if_pos (by have := c65.2.1; omega)] at c91
            have hu := u_ch (hb (s + i) (by have := c65.2.1; omega)) (hd_r (i := 6 * K + i) (by omega))
            rw [bI_p (show (kd = 1 ∧ e = s + len ∧ ∀ j, j < i + 1 → (b (s + j)).toInt = (headB (6 * K + j)).toInt) from ⟨c65.1, c65.2.1, fun j hj => by
              by_cases r : j = i
              · rw [r]; exact hu.mp c91
              · exact c65.2.2 j (by omega)⟩), ← nI_1] at ih1
            exact ih1
          · have ih1 := ih (i + 1) (by omega)
            rw [eix, h119 _ (by omega)] at c91
            rw [show byF b n (s + i) = b (s + i) &&& 255 from if_pos (by have := c65.2.1; omega)] at c91
            have hu := u_ch (hb (s + i) (by have := c65.2.1; omega)) (hd_r (i := 6 * K + i) (by omega))
            rw [bI_n (fun z => c91 (hu.mpr (z.2.2 i (by omega)))), ← nI_1] at ih1
            exact ih1
      · refine ⟨rfl, isb_bI, ?_⟩
        exfalso; rw [ei, elen] at c61; omega
  have mid : ∀ (v3 v4 : Value), X 28 [.ref 88, .int (nI K), .int (nI len), v3, v4] [] τ := by
    intro v3 v4
    refine go [58] 40 hX ?_
    refine ⟨fun c33 => ?_, fun c33 => ?_⟩
    · refine ⟨fun c46 => ?_, fun c46 => ?_⟩
      · rw [e38] at c33
        simp only [Int32.reduceToInt] at c33
        rw [esub, elen] at c46
        have h0 := loopB len 0 (by omega)
        rw [bI_p (show (kd = 1 ∧ e = s + len ∧ ∀ j, j < 0 → (b (s + j)).toInt = (headB (6 * K + j)).toInt) from ⟨by omega, by omega, fun j hj => by omega⟩)] at h0
        exact h0
      · rw [e38] at c33
        simp only [Int32.reduceToInt] at c33
        rw [esub, elen] at c46
        have h0 := loopB len 0 (by omega)
        rw [bI_n (fun z => c46 (by have := z.2.1; omega))] at h0
        exact h0
    · rw [e38] at c33
      simp only [Int32.reduceToInt] at c33
      have h0 := loopB len 0 (by omega)
      rw [bI_n (fun z => c33 (by have := z.1; omega))] at h0
      exact h0
  have loopA : ∀ (k i : Nat) (v3 : Value) (v4 : Value), i + k = len → X 2 [.ref 88, .int (nI K), .int (nI i), v3, v4] [] τ := by
    intro k
    induction k with
    | zero =>
      intro i v3 v4 hi 
      rw [Nat.add_zero] at hi
      have ei := nIt (n := i) (by omega)
      have eix : (6 * nI K + nI i).toInt = 6 * K + i := by
        rw [e6, nI_add, nIt (by omega)]
        omega
      have ein : (6 * nI K + nI i).toInt.toNat = 6 * K + i := by omega
      refine go [2, 28] 100 hX ?_
      refine ⟨fun c5 => ?_, fun c5 => ?_⟩
      · refine ⟨_, _, rfl, ⟨by omega, by rw [ei] at c5; simp only [Int32.reduceToInt] at c5; omega⟩, ?_⟩
        refine ⟨fun c19 => ?_, fun c19 => ?_⟩
        · rw [hi]
          exact mid _ _
        · exfalso
          rw [ei] at c5
          simp only [Int32.reduceToInt] at c5
          rw [ein, h119 _ (by omega)] at c19
          subst hi
          exact c19 (hz (by omega))
      · rw [hi]
        exact mid _ _
    | succ k ih =>
      intro i v3 v4 hi 
      have ei := nIt (n := i) (by omega)
      have eix : (6 * nI K + nI i).toInt = 6 * K + i := by
        rw [e6, nI_add, nIt (by omega)]
        omega
      have ein : (6 * nI K + nI i).toInt.toNat = 6 * K + i := by omega
      refine go [2, 28] 100 hX ?_
      refine ⟨fun c5 => ?_, fun c5 => ?_⟩
      · refine ⟨_, _, rfl, ⟨by omega, by omega⟩, ?_⟩
        refine ⟨fun c19 => ?_, fun c19 => ?_⟩
        · exfalso
          rw [ein, h119 _ (by omega)] at c19
          exact hnz i (by omega) c19
        · have ih1 := ih (i + 1) v3 v4 (by omega)
          rw [← nI_1] at ih1
          exact ih1
      · exfalso; rw [ei] at c5; simp only [Int32.reduceToInt] at c5; omega
  refine go [2] 40 hX ?_
  exact loopA len 0 _ _ (by omega)
theorem tok_wd {b : Nat → Int32} {t : Tk} {K : Nat} (hK : K < 3) (hk : t.1 < 5) (hb : t.1 = 3 → 0 ≤ (b t.2.1 &&& 255).toInt ∧ (b t.2.1 &&& 255).toInt < 256) : (tokC b t).toInt = 260 + K ↔ (t.1 = 1 ∧ wdP b t.2.1 t.2.2 (K + 1)) := by
  have l1 : sLen 1 = 3 := rfl
  have l2 : sLen 2 = 6 := rfl
  have l3 : sLen 3 = 4 := rfl
  have n0 : Int32.toInt 259 = 259 := rfl
  have n1 : Int32.toInt 260 = 260 := rfl
  have n2 : Int32.toInt 261 = 261 := rfl
  have n3 : Int32.toInt 262 = 262 := rfl
  have n4 : Int32.toInt 257 = 257 := rfl
  constructor
  · intro h
    have k1 := tok_hd hk hb h
    refine ⟨k1, ?_⟩
    rw [tok_k1 k1] at h
    unfold wdC at h
    split at h
    · omega
    · split at h
      · have : K = 0 := by omega
        subst this; assumption
      · split at h
        · have : K = 1 := by omega
          subst this; assumption
        · split at h
          · have : K = 2 := by omega
            subst this; assumption
          · omega
  · rintro ⟨k1, hw⟩
    rw [tok_k1 k1]
    unfold wdC
    rcases (show K = 0 ∨ K = 1 ∨ K = 2 by omega) with q | q | q <;> subst q
    · have hw1 : t.2.2 = t.2.1 + 3 := hw.1
      rw [if_neg (fun z => by have := z.1; omega), if_pos hw]; rfl
    · have hw1 : t.2.2 = t.2.1 + 6 := hw.1
      rw [if_neg (fun z => by have := z.1; omega), if_neg (fun z => by have := z.1; omega), if_pos hw]; rfl
    · have hw1 : t.2.2 = t.2.1 + 4 := hw.1
      rw [if_neg (fun z => by have := z.1; omega), if_neg (fun z => by have := z.1; omega), if_neg (fun z => by have := z.1; omega), if_pos hw]; rfl
theorem hd_s {K j : Nat} (hK : K < 3) (hj : j < sLen (K + 1)) : (headB (6 * K + j)).toInt = (sByt (K + 1) j).toInt ∧ ¬ (headB (6 * K + j)).toInt = 0 := by
  have : ∀ k : Fin 3, ∀ j : Fin 6, j.1 < sLen (k.1 + 1) → (headB (6 * k.1 + j.1)).toInt = (sByt (k.1 + 1) j.1).toInt ∧ ¬ (headB (6 * k.1 + j.1)).toInt = 0 := by decide
  have l : sLen (K + 1) ≤ 6 := by
    rcases (show K = 0 ∨ K = 1 ∨ K = 2 by omega) with q | q | q <;> subst q <;> decide
  exact this ⟨K, hK⟩ ⟨j, by omega⟩ hj
theorem m_isHdS {d : Nat} {b : Nat → Int32} {n p : Nat} {σ τ : Mm} {Q : Qt} {B N K : Nat} {st : Pst} (hb : ∀ i, i < 96 → -128 ≤ (b i).toInt ∧ (b i).toInt < 128) (ht8 : ∀ i, i < 96 → σ 118 i = b i &&& 255) (hn6 : σ 88 36 = nI n) (hn : n ≤ 96) (h119 : ∀ i, i < 18 → σ 119 i = headB i) (hK : K < 3) (ht : tkO b n st.1) (h : MrM b p σ τ B N st) (hQ : Q (some (.int (bI ((tokC b st.1).toInt = 260 + K)))) τ) : Call (d + 2) k_X12_isHead [.ref 88, .int (nI K)] τ Q := by
  have l : sLen (K + 1) ≤ 6 ∧ (sLen (K + 1) < 6 → (headB (6 * K + sLen (K + 1))).toInt = 0) := by
    rcases (show K = 0 ∨ K = 1 ∨ K = 2 by omega) with q | q | q <;> subst q <;> decide
  have f := h.1.1
  refine m_isHd (len := sLen (K + 1)) hb (fun i hi => by rw [f 118 (by decide) (by decide) (by decide) (by decide)]; exact ht8 i hi) ((h.1.2 36 rfl).trans hn6) hn (fun i hi => by rw [f 119 (by decide) (by decide) (by decide) (by decide)]; exact h119 i hi) hK l.1 (fun i hi => (hd_s hK hi).2) l.2 h.2.1.1 h.2.1.2.1 h.2.1.2.2.1 ht.2.2.2.1 ht.1 ht.2.1 (bI_e hQ ((tok_wd hK ht.2.2.2.1 (tk_b hb hn ht)).trans ⟨fun z => ⟨z.1, z.2.1, fun j hj => by rw [z.2.2 j hj, (hd_s hK hj).1]⟩, fun z => ⟨z.1, z.2.1, fun j hj => by rw [z.2.2 j hj, (hd_s hK hj).1]⟩⟩))
