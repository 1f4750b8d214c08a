def insR (ab : Nat → Int32) (x : Nat) : List Nat → List Nat
  | [] => [x]
  | y :: l => if (ab x).toInt < (ab y).toInt then y :: insR ab x l else x :: y :: l
def ordR (ab : Nat → Int32) : Nat → List Nat
  | 0 => []
  | n + 1 => insR ab n (ordR ab n)
/-- an array's first ones are a list from its end -/
def arr (g : Nat → Int32) : List Nat → Prop
  | [] => True
  | y :: l => g l.length = nI y ∧ arr g l
def srt (ab : Nat → Int32) : List Nat → Prop
  | [] => True
  | y :: l => (∀ z, z ∈ l → (ab z).toInt ≤ (ab y).toInt) ∧ srt ab l
theorem arr_cong {g g' : Nat → Int32} : ∀ l : List Nat, (∀ i, i < l.length → g' i = g i) → arr g l → arr g' l
  | [], _, _ => True.intro
  | _ :: l, h, ha => ⟨(h l.length (Nat.lt_succ_self _)).trans ha.1, arr_cong l (fun i hi => h i (Nat.lt_succ_of_lt hi)) ha.2⟩
theorem insR_len {ab : Nat → Int32} {x : Nat} : ∀ l, (insR ab x l).length = l.length + 1
  | [] => rfl
  | y :: l => by
    unfold insR
    split
    · show (insR ab x l).length + 1 = _
      rw [insR_len l]
      rfl
    · rfl
theorem insR_mem {ab : Nat → Int32} {x z : Nat} : ∀ l, z ∈ insR ab x l → z = x ∨ z ∈ l
  | [], h => Or.inl (List.mem_singleton.mp h)
  | y :: l, h => by
    unfold insR at h
    split at h
    · rcases List.mem_cons.mp h with h | h
      · exact Or.inr (List.mem_cons.mpr (Or.inl h))
      · rcases insR_mem l h with h | h
        · exact Or.inl h
        · exact Or.inr (List.mem_cons.mpr (Or.inr h))
    · exact List.mem_cons.mp h
theorem insR_srt {ab : Nat → Int32} {x : Nat} : ∀ l, srt ab l → srt ab (insR ab x l)
  | [], _ => ⟨fun z hz => (List.not_mem_nil hz).elim, True.intro⟩
  | y :: l, h => by
    unfold insR
    split
    · rename_i q
      refine ⟨fun z hz => ?_, insR_srt l h.2⟩
      rcases insR_mem l hz with rfl | hz
      · omega
      · exact h.1 z hz
    · rename_i q
      refine ⟨fun z hz => ?_, h⟩
      rcases List.mem_cons.mp hz with rfl | hz
      · omega
      · have := h.1 z hz
        omega
theorem insR_top {ab : Nat → Int32} {x : Nat} : ∀ l : List Nat, (∀ z, z ∈ l → (ab z).toInt ≤ (ab x).toInt) → insR ab x l = x :: l
  | [], _ => rfl
  | y :: l, h => by
    unfold insR
    rw [if_neg (by have := h y (List.mem_cons.mpr (Or.inl rfl)); omega)]
theorem filter_ins {ab : Nat → Int32} {p : Nat → Bool} {x : Nat} : ∀ l, srt ab l → (insR ab x l).filter p = if p x = true then insR ab x (l.filter p) else l.filter p
  | [], _ => by
    unfold insR
    by_cases q : p x = true
    · rw [if_pos q, List.filter_cons, if_pos q]; rfl
    · rw [if_neg q, List.filter_cons, if_neg q]
  | y :: l, h => by
    have ih := filter_ins (p := p) (x := x) l h.2
    by_cases c : (ab x).toInt < (ab y).toInt
    · have e : insR ab x (y :: l) = y :: insR ab x l := by rw [insR, if_pos c]
      rw [e, List.filter_cons, ih, List.filter_cons]
      by_cases q : p x = true
      · rw [if_pos q, if_pos q]
        by_cases r : p y = true
        · rw [if_pos r, if_pos r, insR, if_pos c]
        · rw [if_neg r, if_neg r]
      · rw [if_neg q, if_neg q]
    · have e : insR ab x (y :: l) = x :: y :: l := by rw [insR, if_neg c]
      rw [e, List.filter_cons]
      by_cases q : p x = true
      · rw [if_pos q, if_pos q, insR_top]
        intro z hz
        have hz := (List.mem_filter.mp hz).1
        rcases List.mem_cons.mp hz with rfl | hz
        · omega
        · have := h.1 z hz
          omega
      · rw [if_neg q, if_neg q]
theorem arr_ins {ab : Nat → Int32} {x : Nat} (hx : x < 100) : ∀ (l : List Nat) (g : Nat → Int32), (∀ y, y ∈ l → y < 100) → arr g l → arr (insL ab (nI x) g l.length) (insR ab x l)
  | [], g, _, _ => ⟨pk_us, True.intro⟩
  | y :: l, g, h, ha => by
    have hy := h y (List.mem_cons.mpr (Or.inl rfl))
    have hl : ∀ z, z ∈ l → z < 100 := fun z hz => h z (List.mem_cons.mpr (Or.inr hz))
    show arr (insL ab (nI x) g (l.length + 1)) _
    unfold insL insR
    rw [ha.1, nIn (by omega), nIn (by omega)]
    by_cases c : (ab x).toInt < (ab y).toInt
    · rw [if_pos c, if_pos c]
      refine ⟨?_, arr_ins hx l _ hl (arr_cong l (fun i hi => pk_un (by omega)) ha.2)⟩
      rw [insR_len, insL_out _ _ _ (by omega), pk_us]
    · rw [if_neg c, if_neg c]
      refine ⟨pk_us, ?_⟩
      exact arr_cong (y :: l) (fun i hi => pk_un (by have hi : i < l.length + 1 := hi; omega)) ha
theorem ordR_mem {ab : Nat → Int32} : ∀ n y, y ∈ ordR ab n → y < n
  | 0, y, h => (List.not_mem_nil h).elim
  | n + 1, y, h => by
    rcases insR_mem _ h with h | h
    · omega
    · have := ordR_mem n y h
      omega
theorem ordR_len {ab : Nat → Int32} : ∀ n, (ordR ab n).length = n
  | 0 => rfl
  | n + 1 => by
    show (insR ab n (ordR ab n)).length = _
    rw [insR_len, ordR_len n]
theorem ordR_srt {ab : Nat → Int32} : ∀ n, srt ab (ordR ab n)
  | 0 => True.intro
  | n + 1 => insR_srt _ (ordR_srt n)
theorem ordR_arr {ab : Nat → Int32} : ∀ n, n ≤ 100 → arr (ordA ab n) (ordR ab n)
  | 0, _ => True.intro
  | n + 1, h => by
    have := arr_ins (ab := ab) (x := n) (by omega) (ordR ab n) (ordA ab n) (fun y hy => by have := ordR_mem n y hy; omega) (ordR_arr n (by omega))
    rw [ordR_len] at this
    exact this
def plR (σ : Mm) : List Nat → Mm
  | [] => Zm
  | y :: l => stP σ (plR σ l) y
theorem plA_arr {σ : Mm} {g : Nat → Int32} {ok : Nat → Bool} : ∀ l : List Nat, (∀ y, y ∈ l → y < 100) → arr g l → plA σ g ok l.length = plR σ (l.filter ok)
  | [], _, _ => rfl
  | y :: l, h, ha => by
    have hy := h y (List.mem_cons.mpr (Or.inl rfl))
    have ih := plA_arr (σ := σ) (ok := ok) l (fun z hz => h z (List.mem_cons.mpr (Or.inr hz))) ha.2
    show plA σ g ok (l.length + 1) = _
    unfold plA
    rw [ha.1, nIn (by omega), ih, List.filter_cons]
    by_cases q : ok y = true
    · rw [if_pos q, if_pos q]; rfl
    · rw [if_neg q, if_neg q]
theorem arr_rng {g : Nat → Int32} {n : Nat} (hn : n ≤ 100) : ∀ l : List Nat, (∀ y, y ∈ l → y < n) → arr g l → ∀ i, i < l.length → 0 ≤ (g i).toInt ∧ (g i).toInt < n
  | [], _, _, i, hi => (Nat.not_lt_zero i hi).elim
  | y :: l, h, ha, i, hi => by
    have hy := h y (List.mem_cons.mpr (Or.inl rfl))
    by_cases q : i = l.length
    · rw [q, ha.1, nIt (by omega)]
      omega
    · exact arr_rng hn l (fun z hz => h z (List.mem_cons.mpr (Or.inr hz))) ha.2 i (by have hi : i < l.length + 1 := hi; omega)
def LsB : List Nat := [105, 106, 107, 108, 109, 117]
def PM (τ : Mm) : Mm := fun k => if k = 0 then τ 106 else if k = 1 then τ 107 else if k = 2 then τ 108 else if k = 8 then (fun _ => τ 88 26) else (fun b => τ 109 (5 * b + (k - 3)))
theorem PM_s {τ : Mm} {a b : Nat} (h : a < 5) (hb : b < 5) : PM τ (3 + a) b = τ 109 (5 * b + a) := by
  unfold PM
  rw [if_neg (by omega), if_neg (by omega), if_neg (by omega), if_neg (by omega)]
  congr 1
  omega
theorem VwM_PM {τ : Mm} : VwM τ (PM τ) := ⟨rfl, rfl, rfl, rfl, fun _ _ ha hb => (PM_s ha hb).symm⟩
theorem VwM.w8 {τ P : Mm} {x y : Int32} (h : VwM τ P) (hx : x = y) : VwM (wr τ 88 26 x) (wr P 8 0 y) := by
  obtain ⟨h1, h2, h3, h4, h5⟩ := h
  refine ⟨hx, h2, h3, h4, fun a b ha hb => ?_⟩
  rw [wr_c (show (3 + a : Nat) ≠ 8 by omega)]
  exact h5 a b ha hb
theorem m_goThrough {d : Nat} {σ : Mm} {Q : Qt} {x y : Int32} (hI : Inv σ) (hy : 0 ≤ y.toInt) (hQ : ∀ τ P, Ag LsG σ τ → (∀ j, j ≠ 26 → τ 88 j = σ 88 j) → VwM τ P → Peq P (plA σ (σ 18) (okB σ x y) (σ 10 0).toInt.toNat) → Q none τ) : Call (d + 7) k_X12_goThrough [.ref 88, .int x, .int y] σ Q := by
  refine Call_go fun X hX => ?_
  obtain ⟨⟨l0, l1, l2, l3, l4, l5⟩, ⟨l6, l7⟩, l8, l9⟩ := id (hI.2.2.1)
  obtain o0 := id (hI.2.2.2.1)
  have loopD : ∀ (N : Nat) (g : Nat → Int32), (∀ i, i < N → 0 ≤ (g i).toInt ∧ (g i).toInt < ((σ 10 0).toInt.toNat : Nat)) → (∀ τ P, Ag LsG σ τ → (∀ j, j ≠ 26 → τ 88 j = σ 88 j) → VwM τ P → Peq P (plA σ g (fun _ => true) N) → Q none τ) → ∀ (r k : Nat) (τ P : Mm) (v5 : Value), k + r = N → Ag LsG σ τ → (∀ j, j ≠ 26 → τ 88 j = σ 88 j) → τ 105 = g → VwM τ P → Peq P (plA σ g (fun _ => true) k) → N ≤ 100 → X 196 [.ref 88, .int x, .int y, .int (nI N), .int (nI k), v5] [] τ := by
    intro N g hr hK r
    induction r with
    | zero =>
      intro k τ P v5 hk hA h88 h105 hV hP hN
      rw [Nat.add_zero] at hk
      subst hk
      refine go [196] 100 hX ?_
      refine ⟨fun c199 => ?_, fun c199 => ?_⟩
      · exfalso; omega
      · refine ⟨rfl, rfl, ?_⟩
        exact hK τ P hA h88 hV hP
    | succ r ih =>
      intro k τ P v5 hk hA h88 h105 hV hP hN
      have ih := fun k τ P v5 a b c e f h => ih k τ P v5 a b c e f h hN
      have e1 := nIt (n := k) (by omega)
      have e3 := nIt (n := N) (by omega)
      have e2 := nIn (i := k) (by omega)
      have f10 : τ 10 = σ 10 := hA 10 rfl
      have hrk := hr k (by omega)
      have hln := lineF hI (l := (g k).toInt.toNat) (by omega)
      have eB : brF τ P (g k).toInt.toNat = brF σ P (g k).toInt.toNat := br_sta (StA_ag hA rfl) hln.2.1.1.2
      refine go [196] 100 hX ?_
      refine ⟨fun c199 => ?_, fun c199 => ?_⟩
      · refine ⟨_, _, rfl, ⟨by omega, by omega⟩, ?_⟩
        rw [h105, e2]
        refine ⟨rfl, rfl, ?_⟩
        refine m_brings (P := P) (Inv_G hI hA h88) hV ⟨by omega, by rw [f10]; omega⟩ (fun h215a h215b h215c => ?_)
        refine ⟨fun c218 => ?_, fun c218 => ?_⟩
        · first
          | (rw [eB] at h215c c218
             have ih1 := ih (k + 1) (wr h215a 88 26 (τ 88 26 + 0)) (brF σ P (g k).toInt.toNat).1 v5 (by omega) (Ag.wr (Ag.tr hA (Ag.wk h215b rfl)) rfl) (fun j hj => (pk_un hj).trans ((congrFun (h215b 88 rfl) j).trans (h88 j hj))) ((h215b 105 rfl).trans h105) (by
               rw [wr_same (by rw [Int32.add_zero]; exact (congrFun (h215b 88 rfl) 26).symm)]
               exact h215c) (by unfold plA; rw [if_pos rfl]; exact stP_n hI (by omega) hP c218)
             rw [← nI_1] at ih1
             exact ih1)
          | (rw [eB] at h215c c218
             have e26 : h215a 88 26 = τ 88 26 := congrFun (h215b 88 rfl) 26
             have ih1 := ih (k + 1) (wr h215a 88 26 (τ 88 26 + 1)) (wr (brF σ P (g k).toInt.toNat).1 8 0 ((brF σ P (g k).toInt.toNat).1 8 0 + 1)) v5 (by omega) (Ag.wr (Ag.tr hA (Ag.wk h215b rfl)) rfl) (fun j hj => (pk_un hj).trans ((congrFun (h215b 88 rfl) j).trans (h88 j hj))) ((h215b 105 rfl).trans h105) (VwM.w8 h215c (by rw [← h215c.1, e26])) (by unfold plA; rw [if_pos rfl]; exact stP_z hI (by omega) hP c218)
             rw [← nI_1] at ih1
             exact ih1)
        · first
          | (rw [eB] at h215c c218
             have ih1 := ih (k + 1) (wr h215a 88 26 (τ 88 26 + 0)) (brF σ P (g k).toInt.toNat).1 v5 (by omega) (Ag.wr (Ag.tr hA (Ag.wk h215b rfl)) rfl) (fun j hj => (pk_un hj).trans ((congrFun (h215b 88 rfl) j).trans (h88 j hj))) ((h215b 105 rfl).trans h105) (by
               rw [wr_same (by rw [Int32.add_zero]; exact (congrFun (h215b 88 rfl) 26).symm)]
               exact h215c) (by unfold plA; rw [if_pos rfl]; exact stP_n hI (by omega) hP c218)
             rw [← nI_1] at ih1
             exact ih1)
          | (rw [eB] at h215c c218
             have e26 : h215a 88 26 = τ 88 26 := congrFun (h215b 88 rfl) 26
             have ih1 := ih (k + 1) (wr h215a 88 26 (τ 88 26 + 1)) (wr (brF σ P (g k).toInt.toNat).1 8 0 ((brF σ P (g k).toInt.toNat).1 8 0 + 1)) v5 (by omega) (Ag.wr (Ag.tr hA (Ag.wk h215b rfl)) rfl) (fun j hj => (pk_un hj).trans ((congrFun (h215b 88 rfl) j).trans (h88 j hj))) ((h215b 105 rfl).trans h105) (VwM.w8 h215c (by rw [← h215c.1, e26])) (by unfold plA; rw [if_pos rfl]; exact stP_z hI (by omega) hP c218)
             rw [← nI_1] at ih1
             exact ih1)
      · refine ⟨rfl, rfl, ?_⟩
        exfalso; omega
  have inner : ∀ (τ : Mm), Ag LsB σ τ → ∀ (l : Nat), l < 100 → ∀ (p : Nat) (g : Nat → Int32), p ≤ 100 → (∀ i : Nat, i < p → 0 ≤ (g i).toInt ∧ (g i).toInt < (100 : Nat)) → ∀ m : Nat, p ≤ m ∧ m < 100 → (∀ v5, X 61 [.ref 88, .int x, .int y, .int (nI (m + 1)), .int (nI (l + 1)), v5] [] (up τ 105 (insL (σ 13) (nI l) g p))) → X 119 [.ref 88, .int x, .int y, .int (nI m), .int (nI l), .int (nI p)] [] (up τ 105 g) := by
    intro τ hA l hl p
    induction p with
    | zero =>
      intro g hp hg m hm hK
      have ep := nIt (n := 0) (by omega)
      refine go [119, 61] 100 hX ?_
      refine ⟨fun c121 => ?_, fun c121 => ?_⟩
      · refine ⟨_, _, rfl, (by exfalso; omega), ?_⟩
        refine ⟨_, _, rfl, (by exfalso; omega), ?_⟩
        refine ⟨_, _, rfl, (by exfalso; omega), ?_⟩
        refine ⟨fun c145 => ?_, fun c145 => ?_⟩
        · refine ⟨_, _, rfl, (by exfalso; omega), ?_⟩
          refine ⟨_, rfl, (by exfalso; omega), ?_⟩
          exfalso; omega
        · refine ⟨_, rfl, ⟨by omega, by omega⟩, ?_⟩
          first
          | (exfalso; omega)
          | (unfold insL at hK
             have hk1 := hK (.int (nI (0)))
             have em : wr (up τ 105 g) 105 (nI (0)).toInt.toNat (nI l) = up τ 105 (upd g 0 (nI l)) := by
               rw [nIn (by omega), wr, up_up]
               rfl
             rw [← em, ← nI_1 m, ← nI_1 l] at hk1
             exact hk1)
      · refine ⟨_, rfl, ⟨by omega, by omega⟩, ?_⟩
        first
        | (exfalso; omega)
        | (unfold insL at hK
           have hk1 := hK (.int (nI (0)))
           have em : wr (up τ 105 g) 105 (nI (0)).toInt.toNat (nI l) = up τ 105 (upd g 0 (nI l)) := by
             rw [nIn (by omega), wr, up_up]
             rfl
           rw [← em, ← nI_1 m, ← nI_1 l] at hk1
           exact hk1)
    | succ p ih =>
      intro g hp hg m hm hK
      have ep := nIt (n := p + 1) (by omega)
      have ep2 := nIt (n := p) (by omega)
      have el := nIt (n := l) (by omega)
      have f98 : up τ 105 g 98 = σ 13 := (hA 98 rfl).trans l3
      have f105 : up τ 105 g 105 = g := rfl
      have ih := fun g a b c => ih g a b m (by omega) c
      refine go [119, 61] 100 hX ?_
      refine ⟨fun c121 => ?_, fun c121 => ?_⟩
      · refine ⟨_, _, rfl, (by rw [nI_pred]; exact ⟨by omega, by omega⟩), ?_⟩
        refine ⟨_, _, rfl, (by rw [nI_pred, nIn (by omega)]; exact hg p (by omega)), ?_⟩
        refine ⟨_, _, rfl, ⟨by omega, by omega⟩, ?_⟩
        refine ⟨fun c145 => ?_, fun c145 => ?_⟩
        · refine ⟨_, _, rfl, (by rw [nI_pred]; exact ⟨by omega, by omega⟩), ?_⟩
          refine ⟨_, rfl, ⟨by omega, by omega⟩, ?_⟩
          simp only [f98, f105, nI_pred, nIn (show p < 2147483648 by omega), nIn (show l < 2147483648 by omega)] at c145
          have ih1 := ih (upd g (p + 1) (g p)) (by omega) (fun i hi => by rw [pk_un (by omega)]; exact hg i (by omega)) (by unfold insL at hK; rw [nIn (by omega), if_pos c145] at hK; exact hK)
          have em : wr (up τ 105 g) 105 (nI (p + 1)).toInt.toNat (up τ 105 g 105 (nI (p + 1) - 1).toInt.toNat) = up τ 105 (upd g (p + 1) (g p)) := by
            rw [nI_pred, nIn (by omega), nIn (by omega), wr, up_up]
            rfl
          rw [← em, ← pk_m1 p] at ih1
          exact ih1
        · refine ⟨_, rfl, ⟨by omega, by omega⟩, ?_⟩
          first
          | (exfalso; omega)
          | (simp only [f98, f105, nI_pred, nIn (show p < 2147483648 by omega), nIn (show l < 2147483648 by omega)] at c145
             unfold insL at hK
             rw [nIn (show l < 2147483648 by omega), if_neg c145] at hK
             have hk1 := hK (.int (nI (p + 1)))
             have em : wr (up τ 105 g) 105 (nI (p + 1)).toInt.toNat (nI l) = up τ 105 (upd g (p + 1) (nI l)) := by
               rw [nIn (by omega), wr, up_up]
               rfl
             rw [← em, ← nI_1 m, ← nI_1 l] at hk1
             exact hk1)
      · refine ⟨_, rfl, ⟨by omega, by omega⟩, ?_⟩
        first
        | (exfalso; omega)
        | (simp only [f98, f105, nI_pred, nIn (show p < 2147483648 by omega), nIn (show l < 2147483648 by omega)] at c145
           unfold insL at hK
           rw [nIn (show l < 2147483648 by omega), if_neg c145] at hK
           have hk1 := hK (.int (nI (p + 1)))
           have em : wr (up τ 105 g) 105 (nI (p + 1)).toInt.toNat (nI l) = up τ 105 (upd g (p + 1) (nI l)) := by
             rw [nIn (by omega), wr, up_up]
             rfl
           rw [← em, ← nI_1 m, ← nI_1 l] at hk1
           exact hk1)
  have loopC : ∀ (τ : Mm), Ag LsB σ τ → (∀ j, j < 30 → τ 106 j = 0 ∧ τ 107 j = 0 ∧ τ 108 j = 0) → (∀ j, j < 25 → τ 109 j = 0) → ∀ (r l : Nat) (lst : List Nat) (g : Nat → Int32) (v5 : Value), l + r = (σ 10 0).toInt.toNat → lst = (ordR (σ 13) l).filter (okB σ x y) → arr g lst → X 61 [.ref 88, .int x, .int y, .int (nI lst.length), .int (nI l), v5] [] (up τ 105 g) := by
    intro τ hA hz hs r
    induction r with
    | zero =>
      intro l lst g v5 hi hlst hg
      rw [Nat.add_zero] at hi
      have hm : ∀ z, z ∈ lst → z < l := fun z hz => by rw [hlst] at hz; exact ordR_mem l z (List.mem_filter.mp hz).1
      have hlen : lst.length ≤ l := by rw [hlst]; have := List.length_filter_le (okB σ x y) (ordR (σ 13) l); rw [ordR_len] at this; exact this
      have f88 : up τ 105 g 88 = σ 88 := hA 88 rfl
      have f98 : up τ 105 g 98 = σ 98 := hA 98 rfl
      have f99 : up τ 105 g 99 = σ 99 := hA 99 rfl
      have f100 : up τ 105 g 100 = σ 100 := hA 100 rfl
      have f105 : up τ 105 g 105 = g := rfl
      have e1 := nIt (n := l) (by omega)
      have e2 := nIn (i := l) (by omega)
      have q88 : (up τ 105 g 88 11).toInt = (σ 10 0).toInt := by rw [f88, l0]
      refine go [61, 119, 196] 100 hX ?_
      refine ⟨fun c67 => ?_, fun c67 => ?_⟩
      · exfalso; omega
      · have h1 := loopD lst.length g (arr_rng (n := (σ 10 0).toInt.toNat) (by omega) lst (fun z hz => by have := hm z hz; omega) hg) (fun τ' P b1 b2 b3 b4 => hQ τ' P b1 b2 b3 (by
          rw [plA_arr lst (fun z hz => by have := hm z hz; omega) hg] at b4
          rw [List.filter_eq_self.mpr (fun _ _ => rfl), hlst, hi] at b4
          have h2 := plA_arr (σ := σ) (ok := okB σ x y) (ordR (σ 13) (σ 10 0).toInt.toNat) (fun z hz => by have := ordR_mem _ z hz; omega) (ordR_arr _ (by omega))
          rw [ordR_len, ← o0] at h2
          rw [h2]
          exact b4)) lst.length 0 (wr (up τ 105 g) 88 26 0) (PM (wr (up τ 105 g) 88 26 0)) v5 (Nat.zero_add _) (Ag.wr (Ag.up (Ag.wk hA rfl) rfl) rfl) (fun j hj => (pk_un hj).trans (congrFun (hA 88 rfl) j)) rfl VwM_PM ⟨rfl, fun j hj => hz j hj, fun a b ha hb => (PM_s ha hb).trans (hs _ (by omega))⟩ (by omega)
        exact h1
    | succ r ihC =>
      intro l lst g v5 hi hlst hg
      have hm : ∀ z, z ∈ lst → z < l := fun z hz => by rw [hlst] at hz; exact ordR_mem l z (List.mem_filter.mp hz).1
      have hlen : lst.length ≤ l := by rw [hlst]; have := List.length_filter_le (okB σ x y) (ordR (σ 13) l); rw [ordR_len] at this; exact this
      obtain ⟨a1, a2, a3, a4, a5, a6⟩ := l9 l (by omega)
      have hgo : ((σ 100 l).toInt = -1 ∧ (σ 15 l).toInt = -1000000005) ∨ ((σ 100 l).toInt = (σ 15 l).toInt ∧ 0 ≤ (σ 15 l).toInt) := by
        rcases a5 with ⟨z1, z2⟩ | ⟨z1, z2, z3⟩
        · rw [z1, z2]; exact Or.inl ⟨rfl, rfl⟩
        · rw [z1]; exact Or.inr ⟨rfl, z2⟩
      have f88 : up τ 105 g 88 = σ 88 := hA 88 rfl
      have f98 : up τ 105 g 98 = σ 98 := hA 98 rfl
      have f99 : up τ 105 g 99 = σ 99 := hA 99 rfl
      have f100 : up τ 105 g 100 = σ 100 := hA 100 rfl
      have f105 : up τ 105 g 105 = g := rfl
      have e1 := nIt (n := l) (by omega)
      have e2 := nIn (i := l) (by omega)
      have q88 : (up τ 105 g 88 11).toInt = (σ 10 0).toInt := by rw [f88, l0]
      refine go [61, 119, 196] 100 hX ?_
      refine ⟨fun c67 => ?_, fun c67 => ?_⟩
      · refine ⟨_, _, rfl, ⟨by omega, by omega⟩, ?_⟩
        refine ⟨fun c78 => ?_, fun c78 => ?_⟩
        · have hk : ¬ okB σ x y l = true := by
            unfold okB
            rw [decide_eq_true_iff]
            unfold okP
            simp only [f99, f100, f98, l4, l3, e2] at c67 c78
            omega
          have ih1 := ihC (l + 1) lst g v5 (by omega) (by show lst = List.filter _ (insR _ _ _); rw [filter_ins _ (ordR_srt l), if_neg hk]; exact hlst) hg
          rw [← nI_1] at ih1
          exact ih1
        · refine ⟨_, _, rfl, ⟨by omega, by omega⟩, ?_⟩
          refine ⟨fun c88 => ?_, fun c88 => ?_⟩
          · refine ⟨_, _, rfl, ⟨by omega, by omega⟩, ?_⟩
            refine ⟨fun c110 => ?_, fun c110 => ?_⟩
            · have hk : ¬ okB σ x y l = true := by
                unfold okB
                rw [decide_eq_true_iff]
                unfold okP
                simp only [f99, f100, f98, l4, l3, e2] at c67 c78 c88 c110
                omega
              have ih1 := ihC (l + 1) lst g v5 (by omega) (by show lst = List.filter _ (insR _ _ _); rw [filter_ins _ (ordR_srt l), if_neg hk]; exact hlst) hg
              rw [← nI_1] at ih1
              exact ih1
            · have hk : okB σ x y l = true := by
                unfold okB
                rw [decide_eq_true_iff]
                unfold okP
                simp only [f99, f100, f98, l4, l3, e2] at c67 c78 c88 c110
                omega
              refine inner τ hA l (by omega) lst.length g (by omega) (fun i hi => ?_) lst.length (by omega) (fun w5 => ?_)
              · have := arr_rng (n := l) (by omega) lst hm hg i hi
                omega
              · have ih1 := ihC (l + 1) (insR (σ 13) l lst) (insL (σ 13) (nI l) g lst.length) w5 (by omega) (by show _ = List.filter _ (insR _ _ _); rw [filter_ins _ (ordR_srt l), if_pos hk, ← hlst]) (arr_ins (by omega) lst g (fun z hz => by have := hm z hz; omega) hg)
                rw [insR_len] at ih1
                exact ih1
          · refine ⟨_, _, rfl, ⟨by omega, by omega⟩, ?_⟩
            refine ⟨fun c99 => ?_, fun c99 => ?_⟩
            · refine ⟨_, _, rfl, ⟨by omega, by omega⟩, ?_⟩
              refine ⟨fun c110 => ?_, fun c110 => ?_⟩
              · have hk : ¬ okB σ x y l = true := by
                  unfold okB
                  rw [decide_eq_true_iff]
                  unfold okP
                  simp only [f99, f100, f98, l4, l3, e2] at c67 c78 c88 c99 c110
                  omega
                have ih1 := ihC (l + 1) lst g v5 (by omega) (by show lst = List.filter _ (insR _ _ _); rw [filter_ins _ (ordR_srt l), if_neg hk]; exact hlst) hg
                rw [← nI_1] at ih1
                exact ih1
              · have hk : okB σ x y l = true := by
                  unfold okB
                  rw [decide_eq_true_iff]
                  unfold okP
                  simp only [f99, f100, f98, l4, l3, e2] at c67 c78 c88 c99 c110
                  omega
                refine inner τ hA l (by omega) lst.length g (by omega) (fun i hi => ?_) lst.length (by omega) (fun w5 => ?_)
                · have := arr_rng (n := l) (by omega) lst hm hg i hi
                  omega
                · have ih1 := ihC (l + 1) (insR (σ 13) l lst) (insL (σ 13) (nI l) g lst.length) w5 (by omega) (by show _ = List.filter _ (insR _ _ _); rw [filter_ins _ (ordR_srt l), if_pos hk, ← hlst]) (arr_ins (by omega) lst g (fun z hz => by have := hm z hz; omega) hg)
                  rw [insR_len] at ih1
                  exact ih1
            · have hk : ¬ okB σ x y l = true := by
                unfold okB
                rw [decide_eq_true_iff]
                unfold okP
                simp only [f99, f100, f98, l4, l3, e2] at c67 c78 c88 c99
                omega
              have ih1 := ihC (l + 1) lst g v5 (by omega) (by show lst = List.filter _ (insR _ _ _); rw [filter_ins _ (ordR_srt l), if_neg hk]; exact hlst) hg
              rw [← nI_1] at ih1
              exact ih1
      · exfalso; omega
  have loopB : ∀ (k i : Nat) (τ : Mm), i + k = 25 → Ag LsB σ τ → (∀ j, j < 30 → τ 106 j = 0 ∧ τ 107 j = 0 ∧ τ 108 j = 0) → (∀ j, j < i → τ 109 j = 0) → X 37 [.ref 88, .int x, .int y, .int (nI i), .null, .null] [] τ := by
    intro k
    induction k with
    | zero =>
      intro i τ hi hA hz hs
      have e1 := nIt (n := i) (by omega)
      refine go [37, 61] 100 hX ?_
      refine ⟨fun c40 => ?_, fun c40 => ?_⟩
      · refine ⟨_, rfl, (by exfalso; simp only [Int32.reduceToInt] at c40; omega), ?_⟩
        exfalso; simp only [Int32.reduceToInt] at c40; omega
      · have h1 := loopC τ hA hz (fun j hj => hs j (by omega)) (σ 10 0).toInt.toNat 0 [] (τ 105) .null (Nat.zero_add _) rfl True.intro
        rw [up_id] at h1
        exact h1
    | succ k ih =>
      intro i τ hi hA hz hs
      have e1 := nIt (n := i) (by omega)
      have e2 := nIn (i := i) (by omega)
      refine go [37, 61] 100 hX ?_
      refine ⟨fun c40 => ?_, fun c40 => ?_⟩
      · refine ⟨_, rfl, ⟨by omega, by omega⟩, ?_⟩
        have ih1 := ih (i + 1) (wr τ 109 (nI i).toInt.toNat 0) (by omega) (Ag.wr hA rfl) hz (fun j hj => by
          rw [e2]
          by_cases q : j = i
          · rw [q]; exact wr_v
          · exact (wr_i q).trans (hs j (by omega)))
        rw [← nI_1] at ih1
        exact ih1
      · exfalso; simp only [Int32.reduceToInt] at c40; omega
  have loop : ∀ (k i : Nat) (τ : Mm), i + k = 30 → Ag LsB σ τ → (∀ j, j < i → τ 106 j = 0 ∧ τ 107 j = 0 ∧ τ 108 j = 0) → X 2 [.ref 88, .int x, .int y, .int (nI i), .null, .null] [] τ := by
    intro k
    induction k with
    | zero =>
      intro i τ hi hA hz
      have e1 := nIt (n := i) (by omega)
      refine go [2, 37] 100 hX ?_
      refine ⟨fun c5 => ?_, fun c5 => ?_⟩
      · refine ⟨(by exfalso; simp only [Int32.reduceToInt] at c5; omega), Or.inl rfl, ?_⟩
        refine ⟨_, rfl, (by exfalso; simp only [Int32.reduceToInt] at c5; omega), ?_⟩
        refine ⟨_, rfl, (by exfalso; simp only [Int32.reduceToInt] at c5; omega), ?_⟩
        exfalso; simp only [Int32.reduceToInt] at c5; omega
      · exact loopB 25 0 τ rfl hA (fun j hj => hz j (by omega)) (fun j hj => by omega)
    | succ k ih =>
      intro i τ hi hA hz
      have e1 := nIt (n := i) (by omega)
      have e2 := nIn (i := i) (by omega)
      refine go [2, 37] 100 hX ?_
      refine ⟨fun c5 => ?_, fun c5 => ?_⟩
      · refine ⟨⟨by omega, by omega⟩, Or.inl rfl, ?_⟩
        refine ⟨_, rfl, ⟨by omega, by omega⟩, ?_⟩
        refine ⟨_, rfl, ⟨by omega, by omega⟩, ?_⟩
        have z : ∀ j, j < i + 1 → wr (wr (wr τ 106 (nI i).toInt.toNat 0) 107 (nI i).toInt.toNat 0) 108 (nI i).toInt.toNat 0 106 j = 0 ∧ wr (wr (wr τ 106 (nI i).toInt.toNat 0) 107 (nI i).toInt.toNat 0) 108 (nI i).toInt.toNat 0 107 j = 0 ∧ wr (wr (wr τ 106 (nI i).toInt.toNat 0) 107 (nI i).toInt.toNat 0) 108 (nI i).toInt.toNat 0 108 j = 0 := fun j hj => by
          rw [e2]
          by_cases q : j = i
          · subst q
            exact ⟨pk_us (f := τ 106), pk_us (f := τ 107), pk_us (f := τ 108)⟩
          · exact ⟨(pk_un (f := τ 106) q).trans (hz j (by omega)).1, (pk_un (f := τ 107) q).trans (hz j (by omega)).2.1, (pk_un (f := τ 108) q).trans (hz j (by omega)).2.2⟩
        have ih1 := ih (i + 1) (wr (wr (wr τ 106 (nI i).toInt.toNat 0) 107 (nI i).toInt.toNat 0) 108 (nI i).toInt.toNat 0) (by omega) (Ag.wr (Ag.wr (Ag.wr hA rfl) rfl) rfl) z
        rw [← nI_1] at ih1
        exact ih1
      · exfalso; simp only [Int32.reduceToInt] at c5; omega
  refine go [2] 20 hX ?_
  exact loop 30 0 σ rfl Ag.rf (fun j hj => by omega)
