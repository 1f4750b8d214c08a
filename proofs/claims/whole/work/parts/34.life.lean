theorem sv_cong {c : Nat → Int32} {N N' : Nat → Int32} (h : ∀ i, i < 5 → N' i = N i) (s : Nat) : ∀ n, sv c N' s n = sv c N s n
  | 0 => rfl
  | n + 1 => by
    show svS _ _ _ = svS _ _ _
    rw [sv_cong h s n]
    unfold svS
    by_cases q : -5 ≤ (c (s + n)).toInt
    · rw [if_pos q, if_pos q]
      by_cases q2 : (c (s + n)).toInt < 0
      · rw [if_pos q2, if_pos q2, h _ (by rw [m1m q q2]; omega)]
      · rw [if_neg q2, if_neg q2]
    · rw [if_neg q, if_neg q]
/-- what a part of a land's law gives -/
def lvF (σ : Mm) (l p : Nat) (N : Nat → Int32) : Int32 := lawV (σ (22 + l)) N (σ (26 + l) p).toInt.toNat ((σ (26 + l) (p + 1)).toInt - (σ (26 + l) p).toInt).toNat
theorem lvF_cong {σ τ : Mm} (e22 : τ 22 = σ 22) (e23 : τ 23 = σ 23) (e24 : τ 24 = σ 24) (e26 : τ 26 = σ 26) (e27 : τ 27 = σ 27) (e28 : τ 28 = σ 28) {l p : Nat} {N N' : Nat → Int32} (hl : l < 3) (hN : ∀ i, i < 5 → N' i = N i) : lvF τ l p N' = lvF σ l p N := by
  have e1 : τ (22 + l) = σ (22 + l) := by
    rcases (show l = 0 ∨ l = 1 ∨ l = 2 by omega) with rfl | rfl | rfl
    · exact e22
    · exact e23
    · exact e24
  have e2 : τ (26 + l) = σ (26 + l) := by
    rcases (show l = 0 ∨ l = 1 ∨ l = 2 by omega) with rfl | rfl | rfl
    · exact e26
    · exact e27
    · exact e28
  unfold lvF lawV
  rw [e1, e2, sv_cong hN]
theorem law_at {σ : Mm} (h : I_la σ) {l : Nat} (hl : l < 3) : lawI (σ 20) (σ (22 + l)) (σ (26 + l)) (σ 111) (σ 112) (σ 113) l := by
  rcases (show l = 0 ∨ l = 1 ∨ l = 2 by omega) with rfl | rfl | rfl
  · exact h.2.1
  · exact h.2.2.1
  · exact h.2.2.2
theorem given1 {σ : Mm} (h : I_la σ) {l : Nat} (hl : l < 3) (hg : ¬ (σ 20 l).toInt = 0) : (σ 20 l).toInt = 1 := by
  have := (law_at h hl).1
  omega
theorem s_val {d : Nat} {σ : Mm} {Q : Qt} {l : Int32} (p : Nat) (hL : I_la σ) (hl : 0 ≤ l.toInt ∧ l.toInt ≤ 2) (hp : p < 3) (hg : ¬ (σ 20 l.toInt.toNat).toInt = 0) (hQ : ∀ g, Q (some (.int (lvF σ l.toInt.toNat p (σ 44)))) (up σ 29 g)) : Call (d + 2) k_X3_value [.ref 19, .int l, .int (nI p), .ref 44] σ Q := by
  obtain ⟨⟨a1, a2, a3⟩, a4, a5, a6⟩ := (law_at hL (l := l.toInt.toNat) (by omega)).2 (given1 hL (by omega) hg) p hp
  refine s_value p hl hp (σ (26 + l.toInt.toNat) p).toInt.toNat ((σ (26 + l.toInt.toNat) (p + 1)).toInt - (σ (26 + l.toInt.toNat) p).toInt).toNat (by omega) (by omega) (by omega) ?_ hQ
  rw [a4] at a6
  exact a6
theorem n3p {y : Int32} (h : 0 ≤ y.toInt ∧ y.toInt ≤ 2) (p : Nat) : 3 * y + nI p = nI (3 * y.toInt.toNat + p) := by
  have e := nIx h.1
  rw [← nI_add]
  congr 1
  rcases (show y.toInt.toNat = 0 ∨ y.toInt.toNat = 1 ∨ y.toInt.toNat = 2 by omega) with q | q | q <;> (rw [← e, q]; decide)
theorem m_val {d : Nat} {σ : Mm} {Q : Qt} {v a l x : Int32} (p : Nat) (hL : I_la σ) (hl : 0 ≤ l.toInt ∧ l.toInt ≤ 2) (hp : p < 3) (hg : ¬ (σ 110 l.toInt.toNat).toInt = 0) (hv : 0 ≤ v.toInt ∧ v.toInt < 30) (hx : x = 3 * l + nI p) (hQ : ∀ g, Q (some (.int (lvF σ l.toInt.toNat p (nmO (σ 90) (σ 107) (σ 94) (σ 95) v.toInt.toNat a)))) (up σ 117 g)) : Call (d + 3) k_X12_worked [.ref 88, .int x, .int v, .int a] σ Q := by
  rw [hL.1] at hg
  obtain ⟨⟨a1, a2, a3⟩, a4, a5, a6⟩ := (law_at hL (l := l.toInt.toNat) (by omega)).2 (given1 hL (by omega) hg) p hp
  rw [hx, n3p hl]
  refine m_worked (3 * l.toInt.toNat + p) (by omega) hv (σ (22 + l.toInt.toNat)) _ (σ (26 + l.toInt.toNat) p).toInt.toNat ((σ (26 + l.toInt.toNat) (p + 1)).toInt - (σ (26 + l.toInt.toNat) p).toInt).toNat ?_ (by omega) (fun i hi => a5 i (by omega)) ?_ rfl hQ
  · apply iX
    rw [a4, nIt (by omega)]
    omega
  · rw [a4] at a6
    exact a6
theorem s_namesOf {d : Nat} {σ : Mm} {Q : Qt} {v a : Int32} (hv : 0 ≤ v.toInt ∧ v.toInt < 30) (hQ : ∀ h, (∀ i, i < 5 → h i = nmO (σ 4) (σ 36) (σ 8) (σ 9) v.toInt.toNat a i) → Q (some (.ref 44)) (up σ 44 h)) : Call (d + 1) k_X8_namesOf [.ref 34, .int v, .int a] σ Q := by
  refine Call_st 120 fun X hX => ?_
  refine ⟨_, _, rfl, (by refine ⟨?_, ?_⟩ <;> omega), ?_⟩
  refine ⟨_, rfl, ⟨by decide, by decide⟩, ?_⟩
  refine ⟨_, _, rfl, (by refine ⟨?_, ?_⟩ <;> omega), ?_⟩
  refine ⟨_, rfl, ⟨by decide, by decide⟩, ?_⟩
  refine ⟨_, _, rfl, (by refine ⟨?_, ?_⟩ <;> omega), ?_⟩
  refine ⟨_, rfl, ⟨by decide, by decide⟩, ?_⟩
  refine ⟨_, rfl, ⟨by decide, by decide⟩, ?_⟩
  refine ⟨_, _, rfl, (by refine ⟨?_, ?_⟩ <;> omega), ?_⟩
  refine ⟨_, rfl, ⟨by decide, by decide⟩, ?_⟩
  refine ⟨rfl, rfl, ?_⟩
  refine Qe (hQ (upd (upd (upd (upd (upd (σ 44) 0 (σ 4 v.toInt.toNat)) 1 (σ 36 v.toInt.toNat)) 2 (σ 8 v.toInt.toNat)) 3 a) 4 (σ 9 v.toInt.toNat)) (fun i hi => ?_)) rfl ?_
  · rcases (show i = 0 ∨ i = 1 ∨ i = 2 ∨ i = 3 ∨ i = 4 by omega) with rfl | rfl | rfl | rfl | rfl <;> rfl
  · simp only [wr, up_up]
    rfl
def lifeF (σ : Mm) (w : Nat → Int32) (v : Nat) : Int32 := if (σ 4 v).toInt = 3 ∨ (σ 20 (σ 5 v).toInt.toNat).toInt = 0 then σ 8 v else mmx (σ 8 v) (lvF σ (σ 5 v).toInt.toNat 0 (nmO (σ 4) w (σ 8) (σ 9) v 0))
theorem lifeF_cong {σ τ : Mm} (e4 : τ 4 = σ 4) (e5 : τ 5 = σ 5) (e8 : τ 8 = σ 8) (e9 : τ 9 = σ 9) (e20 : τ 20 = σ 20) (e22 : τ 22 = σ 22) (e23 : τ 23 = σ 23) (e24 : τ 24 = σ 24) (e26 : τ 26 = σ 26) (e27 : τ 27 = σ 27) (e28 : τ 28 = σ 28) {w : Nat → Int32} {v : Nat} (hl : (σ 5 v).toInt ≤ 2) : lifeF τ w v = lifeF σ w v := by
  unfold lifeF
  rw [e4, e5, e8, e9, e20, lvF_cong e22 e23 e24 e26 e27 e28 (by omega) (fun _ _ => rfl)]
theorem mmx_gt {x y : Int32} (h : x.toInt < y.toInt) : mmx x y = y := if_pos (Int32.lt_iff_toInt_lt.mpr h)
theorem mmx_le {x y : Int32} (h : ¬ x.toInt < y.toInt) : mmx x y = x := if_neg (fun q => h (Int32.lt_iff_toInt_lt.mp q))
theorem s_life {d : Nat} {σ : Mm} {Q : Qt} {v : Int32} (hv : 0 ≤ v.toInt ∧ v.toInt < 30) (hL : I_la σ) (hl : 0 ≤ (σ 5 v.toInt.toNat).toInt ∧ (σ 5 v.toInt.toNat).toInt ≤ 2) (hQ : ∀ τ, Ag [29, 44] σ τ → Q (some (.int (lifeF σ (σ 36) v.toInt.toNat))) τ) : Call (d + 3) k_X8_life [.ref 34, .int v] σ Q := by
  refine Call_st 120 fun X hX => ?_
  refine ⟨_, _, rfl, (by refine ⟨?_, ?_⟩ <;> omega), ?_⟩
  refine ⟨_, _, rfl, (by refine ⟨?_, ?_⟩ <;> omega), ?_⟩
  refine ⟨_, _, rfl, (by refine ⟨?_, ?_⟩ <;> omega), ?_⟩
  refine ⟨fun c30 => ?_, fun c30 => ?_⟩
  · refine ⟨rfl, trivial, ?_⟩
    refine Qe (hQ σ Ag.rf) ?_ rfl
    refine vI_ ?_
    unfold lifeF
    simp only [Int32.reduceToInt] at c30
    rw [if_pos (by omega)]
  · refine ⟨_, _, rfl, (by refine ⟨?_, ?_⟩ <;> omega), ?_⟩
    refine ⟨fun c42 => ?_, fun c42 => ?_⟩
    · refine ⟨rfl, trivial, ?_⟩
      refine Qe (hQ σ Ag.rf) ?_ rfl
      refine vI_ ?_
      unfold lifeF
      simp only [Int32.reduceToInt] at c30 c42
      rw [if_pos (by omega)]
    · refine ⟨rfl, rfl, ?_⟩
      refine s_namesOf (by omega) (fun h57a h57b => ?_)
      refine ⟨rfl, rfl, ?_⟩
      refine s_val 0 (I_la_fr (σ := σ) rfl rfl rfl rfl rfl rfl rfl rfl rfl rfl rfl hL) hl (by decide) c42 (fun h60a => ?_)
      refine ⟨rfl, ?_⟩
      refine ⟨rfl, trivial, ?_⟩
      refine Qe (hQ _ (Ag.up (Ag.up Ag.rf rfl) rfl)) ?_ rfl
      refine vI_ ?_
      unfold lifeF
      simp only [Int32.reduceToInt] at c30
      rw [if_neg (by omega)]
      exact congrArg (mmx _) (lvF_cong (σ := σ) (τ := up σ 44 h57a) rfl rfl rfl rfl rfl rfl (by omega) h57b)
theorem s_isEnded {d : Nat} {σ : Mm} {Q : Qt} {v y : Int32} (hv : 0 ≤ v.toInt ∧ v.toInt < 30) (hL : I_la σ) (hl : 0 ≤ (σ 5 v.toInt.toNat).toInt ∧ (σ 5 v.toInt.toNat).toInt ≤ 2) (hQ : ∀ τ, Ag [29, 44] σ τ → Q (some (.int (bI ((lifeF σ (σ 36) v.toInt.toNat).toInt < (y - σ 37 v.toInt.toNat).toInt)))) τ) : Call (d + 4) k_X8_isEnded [.ref 34, .int v, .int y] σ Q := by
  refine Call_st 120 fun X hX => ?_
  refine ⟨_, _, rfl, (by refine ⟨?_, ?_⟩ <;> omega), ?_⟩
  refine ⟨rfl, rfl, ?_⟩
  refine s_life (by omega) hL hl (fun h10a h10b => ?_)
  refine ⟨fun c13 => ?_, fun c13 => ?_⟩
  · refine ⟨rfl, Or.inr rfl, ?_⟩
    first | exact bI_t (hQ _ h10b) (by assumption) | exact bI_f (hQ _ h10b) (by assumption)
  · refine ⟨rfl, Or.inl rfl, ?_⟩
    first | exact bI_t (hQ _ h10b) (by assumption) | exact bI_f (hQ _ h10b) (by assumption)
theorem m_lifeOf {d : Nat} {σ : Mm} {Q : Qt} {v : Int32} (hv : 0 ≤ v.toInt ∧ v.toInt < 30) (hL : I_la σ) (hV : I_vo σ) (hl : 0 ≤ (σ 5 v.toInt.toNat).toInt ∧ (σ 5 v.toInt.toNat).toInt ≤ 2) (hQ : ∀ τ, Ag [117] σ τ → Q (some (.int (lifeF σ (σ 107) v.toInt.toNat))) τ) : Call (d + 4) k_X12_lifeOf [.ref 88, .int v] σ Q := by
  obtain ⟨⟨v0, v1, v2, v3, v4, v5, v6⟩, _, _⟩ := id hV
  have hg0 := hL.1
  refine Call_st 120 fun X hX => ?_
  refine ⟨_, _, rfl, (by refine ⟨?_, ?_⟩ <;> omega), ?_⟩
  refine ⟨_, _, rfl, (by refine ⟨?_, ?_⟩ <;> omega), ?_⟩
  refine ⟨fun c14 => ?_, fun c14 => ?_⟩
  · refine ⟨_, _, rfl, (by refine ⟨?_, ?_⟩ <;> omega), ?_⟩
    refine ⟨rfl, trivial, ?_⟩
    refine Qe (hQ σ Ag.rf) ?_ rfl
    refine vI_ ?_
    unfold lifeF
    simp only [Int32.reduceToInt, v1, v2, v5, hL.1] at c14 ⊢
    rw [if_pos (by omega)]
  · refine ⟨_, _, rfl, (by rw [v2]; exact ⟨by omega, by omega⟩), ?_⟩
    refine ⟨fun c23 => ?_, fun c23 => ?_⟩
    · refine ⟨_, _, rfl, (by refine ⟨?_, ?_⟩ <;> omega), ?_⟩
      refine ⟨rfl, trivial, ?_⟩
      refine Qe (hQ σ Ag.rf) ?_ rfl
      refine vI_ ?_
      unfold lifeF
      simp only [Int32.reduceToInt, v1, v2, v5, hL.1] at c14 c23 ⊢
      rw [if_pos (by omega)]
    · refine ⟨rfl, rfl, ?_⟩
      refine m_val 0 hL (by rw [v2]; exact hl) (by decide) c23 hv (Int32.add_zero _).symm (fun h39a => ?_)
      refine ⟨_, _, rfl, (by refine ⟨?_, ?_⟩ <;> omega), ?_⟩
      refine ⟨fun c50 => ?_, fun c50 => ?_⟩
      · refine ⟨rfl, trivial, ?_⟩
        refine Qe (hQ _ (Ag.up Ag.rf rfl)) (vI_ ?_) rfl
        have e : lifeF σ (σ 107) v.toInt.toNat = mmx (σ 94 v.toInt.toNat) (lvF σ (σ 91 v.toInt.toNat).toInt.toNat 0 (nmO (σ 90) (σ 107) (σ 94) (σ 95) v.toInt.toNat 0)) := by
          unfold lifeF
          simp only [Int32.reduceToInt, v1, v2, hg0] at c14 c23
          rw [v1, v2, v5, v6, if_neg (by omega)]
        rw [e]
        first
        | exact (mmx_gt c50).symm
        | exact (mmx_le c50).symm
      · refine ⟨_, _, rfl, (by refine ⟨?_, ?_⟩ <;> omega), ?_⟩
        refine ⟨rfl, trivial, ?_⟩
        refine Qe (hQ _ (Ag.up Ag.rf rfl)) (vI_ ?_) rfl
        have e : lifeF σ (σ 107) v.toInt.toNat = mmx (σ 94 v.toInt.toNat) (lvF σ (σ 91 v.toInt.toNat).toInt.toNat 0 (nmO (σ 90) (σ 107) (σ 94) (σ 95) v.toInt.toNat 0)) := by
          unfold lifeF
          simp only [Int32.reduceToInt, v1, v2, hg0] at c14 c23
          rw [v1, v2, v5, v6, if_neg (by omega)]
        rw [e]
        first
        | exact (mmx_gt c50).symm
        | exact (mmx_le c50).symm
