/-- how many figures a number has -/
def ndF : Nat → Nat → Nat
  | 0, _ => 0
  | k + 1, D => if D = 0 then 0 else ndF k (D / 10) + 1
theorem nd_iff : ∀ (k D r : Nat), r < k → (r < ndF k D ↔ 10 ^ r ≤ D)
  | 0, _, _, h => by omega
  | k + 1, D, r, h => by
    unfold ndF
    by_cases q : D = 0
    · rw [if_pos q, q]
      have := Nat.pow_pos (n := r) (show 0 < 10 by decide)
      omega
    · rw [if_neg q]
      cases r with
      | zero => rw [Nat.pow_zero]; omega
      | succ r =>
        have ih := nd_iff k (D / 10) r (by omega)
        have e := Nat.le_div_iff_mul_le (show 0 < 10 by decide) (x := 10 ^ r) (y := D)
        rw [Nat.pow_succ]
        omega
theorem nd_le : ∀ (k D : Nat), ndF k D ≤ k
  | 0, _ => Nat.le_refl 0
  | k + 1, D => by
    have := nd_le k (D / 10)
    unfold ndF
    split <;> omega
/-- a row told by figures: the promotions, the last one first -/
def csF (σ : Mm) (m D : Nat) : Nat → List Nat → Option (List Nat)
  | 0, L => some L
  | u + 1, L => if 1 ≤ D / 10 ^ u % 10 ∧ D / 10 ^ u % 10 ≤ m ∧ mayS σ L (D / 10 ^ u % 10 - 1) then csF σ m D u ((D / 10 ^ u % 10 - 1) :: L) else none
theorem csF_p {σ : Mm} {m D u : Nat} {L : List Nat} (h : 1 ≤ D / 10 ^ u % 10 ∧ D / 10 ^ u % 10 ≤ m ∧ mayS σ L (D / 10 ^ u % 10 - 1)) : csF σ m D (u + 1) L = csF σ m D u ((D / 10 ^ u % 10 - 1) :: L) := if_pos h
theorem csF_n {σ : Mm} {m D u : Nat} {L : List Nat} (h : ¬ (1 ≤ D / 10 ^ u % 10 ∧ D / 10 ^ u % 10 ≤ m ∧ mayS σ L (D / 10 ^ u % 10 - 1))) : csF σ m D (u + 1) L = none := if_neg h
def unF : Nat → Nat
  | 0 => 0
  | r + 1 => 10 ^ r
theorem un_d {r : Nat} (h : r < 7) : unF r / 10 = unF (r - 1) := by
  rcases (show r = 0 ∨ r = 1 ∨ r = 2 ∨ r = 3 ∨ r = 4 ∨ r = 5 ∨ r = 6 by omega) with rfl | rfl | rfl | rfl | rfl | rfl | rfl <;> rfl
theorem un_b {r : Nat} (h : r < 7) : unF r ≤ 100000 := by
  rcases (show r = 0 ∨ r = 1 ∨ r = 2 ∨ r = 3 ∨ r = 4 ∨ r = 5 ∨ r = 6 by omega) with rfl | rfl | rfl | rfl | rfl | rfl | rfl <;> decide
theorem divN {a b : Nat} (ha : a < 2 ^ 31) (hb : 0 < b) (hb2 : b < 2 ^ 31) : nI a / nI b = nI (a / b) := pk_div ha hb hb2
theorem rem10 {k : Nat} (h : k < 2 ^ 31) : nI k - nI k / 10 * 10 = nI (k % 10) := by
  have e : (10 : Int32) = nI 10 := rfl
  rw [e]
  exact pk_rem h (by omega) (by omega)
theorem s_mayComeX {d : Nat} {τ : Mm} {Q : Qt} {q : Nat} {L : List Nat} {p x : Int32} (hL : L.length ≤ 6) (ha : arr (τ 61) L) (hat : ∀ j, j < L.length → atR L j < 6) (hq : q < 6) (hdg : (τ (52 + q) q).toInt = 0) (ep : p = nI q) (ex : x = nI L.length) (hQ : Q (some (.int (bI (L.length < 6 ∧ mayS τ L q)))) τ) : Call (d + 1) k_X6_mayCome [.ref 58, .int p, .int x] τ Q := by
  subst ep
  subst ex
  exact s_mayCome hL ha hat hq hdg hQ
set_option maxHeartbeats 4000000 in
theorem cs_costs {d : Nat} {σ : Mm} {Q : Qt} {m D : Nat} (hm : (σ 45 3).toInt = m) (hm6 : m ≤ 6) (hNN : 0 ≤ (σ 45 0).toInt ∧ (σ 45 0).toInt ≤ 8) (hd : ∀ a, a < m → (σ (52 + a) a).toInt = 0) (hD : D ≤ 999999) (hQ1 : csF σ m D (ndF 10 D) [] = none → ∀ τ, Ag MxL σ τ → Q (some (.int (-1000000001))) τ) (hQ2 : ∀ L, csF σ m D (ndF 10 D) [] = some L → ∀ τ, Ag MxL σ τ → Q (some (.int (alS σ L))) τ) : Call (d + 6) k_X11_costs [.ref 0, .int (nI D)] σ Q := by
  have eD := nIt (n := D) (by omega)
  refine Call_go fun X hX => ?_
  have loop : ∀ (r : Nat) (ρ : Mm) (L : List Nat), r ≤ 6 → ∀ (v4 : Value), csF σ m D (if r ≤ ndF 10 D then r else ndF 10 D) L = csF σ m D (ndF 10 D) [] → L.length + r ≤ 6 → Ag MxL σ ρ → CsC σ ρ L → vlS σ m L → X 26 [.ref 0, .int (nI D), .int (nI L.length), .int (nI (unF r)), v4] [] ρ := by
    intro r
    induction r with
    | zero =>
      intro ρ L hr v4 hres hL6 hA hC hv
      refine go [26] 60 hX ?_
      refine ⟨fun c27 => ?_, fun c27 => ?_⟩
      · exfalso; exact absurd c27 (by decide)
      · refine ⟨rfl, rfl, ?_⟩
        refine s_all (by rw [hA 45 rfl]; exact hNN) (by rw [nIt (by omega)]; omega) ?_
        refine ⟨rfl, trivial, ?_⟩
        rw [if_pos (Nat.zero_le _)] at hres
        have hct := cs_top hC
        have hal : allF (ρ (63 + (nI L.length).toInt.toNat)) (ρ 70 (nI L.length).toInt.toNat) (ρ 45 0).toInt.toNat = alS σ L := by
          rw [nIn (by omega), hA 45 rfl, hct.2]
          exact all_cong hct.1
        rw [hal]
        exact hQ2 L (by rw [← hres]; rfl) ρ hA
    | succ r ih =>
      intro ρ L hr v4 hres hL6 hA hC hv
      have hub := un_b (r := r + 1) (by omega)
      have eU := nIt (n := unF (r + 1)) (by omega)
      have eU10 : nI (unF (r + 1)) / 10 = nI (unF r) := by
        have e : (10 : Int32) = nI 10 := rfl
        rw [e, divN (by omega) (by decide) (by decide)]
        exact congrArg nI (un_d (r := r + 1) (by omega))
      refine go [26] 100 hX ?_
      refine ⟨fun c27 => ?_, fun c27 => ?_⟩
      · refine ⟨fun c32 => ?_, fun c32 => ?_⟩
        · refine ⟨(by decide), ?_⟩
          have hgt : ndF 10 D ≤ r := by
            have hn := nd_iff 10 D r (by omega)
            have h9 : unF (r + 1) = 10 ^ r := rfl
            rw [eD, eU] at c32
            omega
          have hres2 : csF σ m D (if r ≤ ndF 10 D then r else ndF 10 D) L = csF σ m D (ndF 10 D) [] := by
            rw [if_neg (by omega)] at hres
            by_cases z : r ≤ ndF 10 D
            · rw [if_pos z, show r = ndF 10 D by omega]; exact hres
            · rw [if_neg z]; exact hres
          have ih1 := ih ρ L (by omega) v4 hres2 (by omega) hA hC hv
          rw [← eU10] at ih1
          exact ih1
        · have hle : r + 1 ≤ ndF 10 D := by
            have hn := nd_iff 10 D r (by omega)
            have h9 : unF (r + 1) = 10 ^ r := rfl
            rw [eD, eU] at c32
            omega
          rw [if_pos hle] at hres
          have hpw : 0 < 10 ^ r := Nat.pow_pos (n := r) (show 0 < 10 by decide)
          have hpw2 : 10 ^ r ≤ 100000 := un_b (r := r + 1) (by omega)
          have hdl : D / 10 ^ r ≤ D := Nat.div_le_self _ _
          have edg : nI D / nI (unF (r + 1)) - nI D / nI (unF (r + 1)) / 10 * 10 - 1 = nI (D / 10 ^ r % 10) - 1 := by
            have e1 : nI D / nI (unF (r + 1)) = nI (D / 10 ^ r) := divN (a := D) (b := unF (r + 1)) (by omega) hpw (by omega)
            rw [e1, rem10 (by omega)]
          have hdg : D / 10 ^ r % 10 < 10 := Nat.mod_lt _ (by decide)
          have edt : (nI (D / 10 ^ r % 10) - 1).toInt = ((D / 10 ^ r % 10 : Nat) : Int) - 1 := by rw [sub1 (by rw [nIt (by omega)]; omega), nIt (by omega)]
          generalize hq : D / 10 ^ r % 10 = qd at *
          refine ⟨(by rw [eU]; have := Nat.pow_pos (n := r) (show 0 < 10 by decide); show ¬ ((unF (r + 1) : Nat) : Int) = 0; have h9 : unF (r + 1) = 10 ^ r := rfl; omega), ?_⟩
          refine ⟨(by decide), ?_⟩
          refine ⟨rfl, rfl, ?_⟩
          refine s_hasProm ?_
          refine ⟨fun c54 => ?_, fun c54 => ?_⟩
          · replace c54 := bI_z c54
            refine ⟨rfl, trivial, ?_⟩
            rw [edg, edt, hA 45 rfl, hm] at c54
            exact hQ1 (by rw [← hres]; exact csF_n (fun z => by rw [hq] at z; omega)) ρ hA
          · replace c54 := bI_nz c54
            rw [edg, edt, hA 45 rfl, hm] at c54
            have epn : nI qd - 1 = nI (qd - 1) := by
              obtain ⟨y, hy⟩ : ∃ y, qd = y + 1 := ⟨qd - 1, by omega⟩
              rw [hy, nI_pred]
              rfl
            refine ⟨rfl, rfl, ?_⟩
            refine s_mayComeX (L := L) (q := qd - 1) (by omega) (cs_arr hC) (fun j hj => by have := vl_at hv j hj; omega) (by omega) (by rw [ag_jr hA (by omega) rfl]; exact hd _ (by omega)) (edg.trans epn) rfl ?_
            refine ⟨fun c67 => ?_, fun c67 => ?_⟩
            · replace c67 := bI_z c67
              refine ⟨rfl, trivial, ?_⟩
              have nm : ¬ mayS σ L (qd - 1) := fun z => c67 ⟨by omega, (may_ag hA rfl (fun j hj => by have := vl_at hv j hj; omega)).mpr z⟩
              exact hQ1 (by rw [← hres]; exact csF_n (fun z => nm (by rw [hq] at z; exact z.2.2))) ρ hA
            · replace c67 := bI_nz c67
              have hmay : mayS σ L (qd - 1) := (may_ag hA rfl (fun j hj => by have := vl_at hv j hj; omega)).mp c67.2
              have hvi : vlS σ m ((qd - 1) :: L) := ⟨by omega, hmay, hv⟩
              refine ⟨rfl, rfl, ?_⟩
              refine s_workS (q := qd - 1) (L := L) hNN hA hC (by omega) (by omega) (edg.trans epn) rfl (fun h80a h80b h80c h80d h80e h80f => ?_)
              refine ⟨(by decide), ?_⟩
              have hcp : csF σ m D (r + 1) L = csF σ m D r ((qd - 1) :: L) := by
                have := csF_p (σ := σ) (m := m) (D := D) (u := r) (L := L) (by rw [hq]; exact ⟨by omega, by omega, hmay⟩)
                rw [hq] at this
                exact this
              have ih1 := ih h80a ((qd - 1) :: L) (by omega) (.int (nI D / nI (unF (r + 1)) - nI D / nI (unF (r + 1)) / 10 * 10 - 1)) (by rw [if_pos (by omega), ← hcp]; exact hres) (by rw [List.length_cons]; omega) h80b h80c hvi
              rw [← eU10, List.length_cons, ← nI_1] at ih1
              exact ih1
      · exfalso; rw [eU] at c27; have := Nat.pow_pos (n := r) (show 0 < 10 by decide); have h9 : unF (r + 1) = 10 ^ r := rfl; omega
  refine go [26] 40 hX ?_
  refine ⟨rfl, ?_⟩
  refine s_withinK (l := 0) (h := 999999) (by decide) (by decide) ?_
  refine ⟨fun c8 => ?_, fun c8 => ?_⟩
  · exact absurd (bI_z c8) (fun z => z (by omega))
  · refine ⟨rfl, rfl, ?_⟩
    refine s_start hNN ?_
    have hn6 : ndF 10 D ≤ 6 := by
      have h1 := nd_iff 10 D 6 (by omega)
      omega
    refine loop 6 _ [] (Nat.le_refl 6) .null ?_ (by decide) (Ag.wr (Ag.up Ag.rf rfl) rfl) (start_cs (σ := σ) (τ := σ) Ag.rf) True.intro
    by_cases z : 6 ≤ ndF 10 D
    · rw [if_pos z, show ndF 10 D = 6 by omega]
    · rw [if_neg z]
