theorem lv_i0 {t : Int32} : lvO t = 0 ↔ t.toInt = 124 := by
  unfold lvO
  repeat' split
  all_goals omega
theorem lv_i1 {t : Int32} : lvO t = 1 ↔ t.toInt = 38 := by
  unfold lvO
  repeat' split
  all_goals omega
theorem lv_i2 {t : Int32} : lvO t = 2 ↔ t.toInt = 60 ∨ t.toInt = 61 ∨ t.toInt = 62 := by
  unfold lvO
  repeat' split
  all_goals omega
theorem lv_i3 {t : Int32} : lvO t = 3 ↔ t.toInt = 43 ∨ t.toInt = 45 := by
  unfold lvO
  repeat' split
  all_goals omega
theorem lv_i4 {t : Int32} : lvO t = 4 ↔ t.toInt = 42 ∨ t.toInt = 47 := by
  unfold lvO
  repeat' split
  all_goals omega
set_option maxHeartbeats 2000000 in
theorem lv_L0 {f : Nat} {b : Nat → Int32} {n p : Nat} {σ : Mm} (hb : ∀ i, i < 96 → -128 ≤ (b i).toInt ∧ (b i).toInt < 128) (ht8 : ∀ i, i < 96 → σ 118 i = b i &&& 255) (hn6 : σ 88 36 = nI n) (hn : n ≤ 96) (hp : p < 3) (hs : LmC b n p σ f 1) : LmC b n p σ (f + 1) 0 := by
  intro B N hM hB hN d τ Q st ht hc h h1 h2
  have n124 : Int32.toInt 124 = 124 := rfl
  have hsb : ∀ (st : Pst) (τ' : Mm) (Q' : Qt), tkO b n st.1 → st.2.2.length ≤ st.1.2.1 → MrM b p σ τ' B N st → (((prF b n f 1 B N) st).1 = true → ∀ υ, MrM b p σ υ B N ((prF b n f 1 B N) st).2 → grd b n st ((prF b n f 1 B N) st).2 → Q' none υ) → (¬ ((prF b n f 1 B N) st).1 = true → ∀ υ, WrM σ υ ((prF b n f 1 B N) st).2.1.2.1 → Q' none υ) → Call (d + Dm B N + 11) k_X12_and [.ref 88] τ' Q' := fun st τ' Q' q1 q2 q3 q4 q5 => hs B N (by unfold Ms at *; omega) hB hN d τ' Q' st q1 q2 q3 q4 q5
  show Call (d + Dm B N + 11 + 1) k_X12_or [.ref 88] τ Q
  refine Call_go fun X hX => ?_
  have finW : ∀ (τ : Mm) (s : Nat), WrM σ τ s → Q none τ → X 4 [.ref 88] [] τ := by
    intro τ s hw hq
    refine go [] 30 hX ?_
    refine ⟨rfl, rfl, ?_⟩
    refine m_isSgW hw ?_
    refine ⟨fun _ => ?_, fun z => absurd (by decide) z⟩
    refine ⟨rfl, rfl, ?_⟩
    exact hq
  have loop : ∀ (j : Nat) (τ : Mm) (st : Pst), 96 ≤ j + st.1.2.1 → tkO b n st.1 → st.2.2.length ≤ st.1.2.1 → MrM b p σ τ B N st → ((lpF b n 0 (prF b n f 1 B N) j st).1 = true → ∀ τ', MrM b p σ τ' B N (lpF b n 0 (prF b n f 1 B N) j st).2 → Q none τ') → (¬ (lpF b n 0 (prF b n f 1 B N) j st).1 = true → ∀ τ', WrM σ τ' (lpF b n 0 (prF b n f 1 B N) j st).2.1.2.1 → Q none τ') → X 4 [.ref 88] [] τ := by
    intro j
    induction j with
    | zero =>
      intro τ st hj ht hc h h1 h2
      refine go [] 60 hX ?_
      refine ⟨rfl, rfl, ?_⟩
      refine m_isSgS hb hn ht (by decide) h ?_
      refine ⟨fun c10 => ?_, fun c10 => ?_⟩
      · replace c10 := bI_z c10
        refine ⟨rfl, rfl, ?_⟩
        exact h1 rfl τ h
      · replace c10 := bI_nz c10
        have k := tok_sg (b := b) (t := st.1) (by omega)
        have a := ht.2.2.1 (by omega)
        have c := ht.2.1
        exfalso
        omega
    | succ j ih =>
      intro τ st hj ht hc h h1 h2
      refine go [4] 80 hX ?_
      refine ⟨rfl, rfl, ?_⟩
      refine m_isSgS hb hn ht (by decide) h ?_
      refine ⟨fun c10 => ?_, fun c10 => ?_⟩
      · replace c10 := bI_z c10
        refine ⟨rfl, rfl, ?_⟩
        have e1 : (lpF b n 0 (prF b n f 1 B N) (j + 1) st) = (true, st) := if_neg (fun z => by have z := lv_i0.mp z; omega)
        rw [e1] at h1
        exact h1 rfl τ h
      · replace c10 := bI_nz c10
        have hlo : lvO (tokC b st.1) = 0 := lv_i0.mpr (by omega)
        have hk3 := tok_sg (b := b) (t := st.1) (by omega)
        have hse := ht.2.2.1 (by omega)
        have hnx := nx_ok (b := b) (n := n) ht
        have hle : (adS b n st).2.2.length ≤ (adS b n st).1.2.1 := by show st.2.2.length ≤ (nxT b n st.1).2.1; omega
        have hop : (124 : Int32) = tokC b st.1 := iX (by omega)
        have hst : grd b n (adS b n st) ((prF b n f 1 B N) (adS b n st)).2 → ((prF b n f 1 B N) (adS b n st)).2.2.2.length < ((prF b n f 1 B N) (adS b n st)).2.1.2.1 ∧ st.1.2.1 < ((prF b n f 1 B N) (adS b n st)).2.1.2.1 ∧ ((prF b n f 1 B N) (adS b n st)).2.2.2.length < 100 := fun hg => by
          obtain ⟨q1, q2, nw, q3, q4, _⟩ := hg
          have q4 : nw.length + (nxT b n st.1).2.1 ≤ ((prF b n f 1 B N) (adS b n st)).2.1.2.1 := q4
          have q2 : (nxT b n st.1).2.1 < ((prF b n f 1 B N) (adS b n st)).2.1.2.1 := q2
          have q5 := q1.1
          have q6 := q1.2.1
          rw [q3, List.length_append]
          show nw.length + st.2.2.length < _ ∧ _ ∧ nw.length + st.2.2.length < _
          omega
        refine ⟨rfl, rfl, ?_⟩
        refine m_goS hb ht8 hn6 hn ht h (fun h14a h14b => ?_)
        refine ⟨rfl, rfl, ?_⟩
        refine hsb (adS b n st) h14a _ hnx.1 hle h14b (fun h18a h18b h18c h18d => ?_) (fun h18a h18b h18c => ?_)
        · refine ⟨rfl, rfl, ?_⟩
          refine m_stepS (opS b st.1) hp hop rfl (hst h18d).2.2 h18c (fun h25a h25b => ?_)
          have e1 : (lpF b n 0 (prF b n f 1 B N) (j + 1) st) = (lpF b n 0 (prF b n f 1 B N) j (puS (opS b st.1) ((prF b n f 1 B N) (adS b n st)).2)) := (if_pos hlo).trans (if_pos h18a)
          rw [e1] at h1 h2
          have g := hst h18d
          exact ih _ (puS (opS b st.1) ((prF b n f 1 B N) (adS b n st)).2) (by show 96 ≤ j + ((prF b n f 1 B N) (adS b n st)).2.1.2.1; omega) h18d.1 (by show ((prF b n f 1 B N) (adS b n st)).2.2.2.length + 1 ≤ ((prF b n f 1 B N) (adS b n st)).2.1.2.1; omega) h25b h1 h2
        · refine ⟨rfl, rfl, ?_⟩
          refine m_stepW h18c ?_
          have e1 : (lpF b n 0 (prF b n f 1 B N) (j + 1) st) = (false, ((prF b n f 1 B N) (adS b n st)).2) := (if_pos hlo).trans (if_neg h18a)
          rw [e1] at h2
          exact finW _ _ h18c (h2 Bool.false_ne_true _ h18c)
  refine go [4] 60 hX ?_
  refine ⟨rfl, rfl, ?_⟩
  refine hsb st τ _ ht hc h (fun h1a h1b h1c h1d => ?_) (fun h1a h1b h1c => ?_)
  · have eP : (prF b n (f + 1) 0 B N st) = _ := pr_y (by omega) h1a
    rw [if_neg (by decide)] at eP
    rw [eP] at h1 h2
    have gl := grd_len (c0 := 0) h1d (by omega)
    exact loop 96 _ _ (by omega) h1d.1 (by omega) h1c (fun z τ' q => h1 z τ' q (by
      have hz : (prF b n (f + 1) 0 B N st).1 = true := by rw [eP]; exact z
      have hg := pr_grd hb hn (f + 1) 0 B N st ht hz
      rw [eP] at hg
      exact hg)) h2
  · have eP : (prF b n (f + 1) 0 B N st) = _ := pr_n (by omega) h1a
    exact finW _ _ h1c (h2 (by rw [eP]; exact Bool.false_ne_true) _ (by rw [eP]; exact h1c))
set_option maxHeartbeats 2000000 in
theorem lv_L1 {f : Nat} {b : Nat → Int32} {n p : Nat} {σ : Mm} (hb : ∀ i, i < 96 → -128 ≤ (b i).toInt ∧ (b i).toInt < 128) (ht8 : ∀ i, i < 96 → σ 118 i = b i &&& 255) (hn6 : σ 88 36 = nI n) (hn : n ≤ 96) (hp : p < 3) (hs : LmC b n p σ f 2) : LmC b n p σ (f + 1) 1 := by
  intro B N hM hB hN d τ Q st ht hc h h1 h2
  have n38 : Int32.toInt 38 = 38 := rfl
  have hsb : ∀ (st : Pst) (τ' : Mm) (Q' : Qt), tkO b n st.1 → st.2.2.length ≤ st.1.2.1 → MrM b p σ τ' B N st → (((prF b n f 2 B N) st).1 = true → ∀ υ, MrM b p σ υ B N ((prF b n f 2 B N) st).2 → grd b n st ((prF b n f 2 B N) st).2 → Q' none υ) → (¬ ((prF b n f 2 B N) st).1 = true → ∀ υ, WrM σ υ ((prF b n f 2 B N) st).2.1.2.1 → Q' none υ) → Call (d + Dm B N + 10) k_X12_test [.ref 88] τ' Q' := fun st τ' Q' q1 q2 q3 q4 q5 => hs B N (by unfold Ms at *; omega) hB hN d τ' Q' st q1 q2 q3 q4 q5
  show Call (d + Dm B N + 10 + 1) k_X12_and [.ref 88] τ Q
  refine Call_go fun X hX => ?_
  have finW : ∀ (τ : Mm) (s : Nat), WrM σ τ s → Q none τ → X 4 [.ref 88] [] τ := by
    intro τ s hw hq
    refine go [] 30 hX ?_
    refine ⟨rfl, rfl, ?_⟩
    refine m_isSgW hw ?_
    refine ⟨fun _ => ?_, fun z => absurd (by decide) z⟩
    refine ⟨rfl, rfl, ?_⟩
    exact hq
  have loop : ∀ (j : Nat) (τ : Mm) (st : Pst), 96 ≤ j + st.1.2.1 → tkO b n st.1 → st.2.2.length ≤ st.1.2.1 → MrM b p σ τ B N st → ((lpF b n 1 (prF b n f 2 B N) j st).1 = true → ∀ τ', MrM b p σ τ' B N (lpF b n 1 (prF b n f 2 B N) j st).2 → Q none τ') → (¬ (lpF b n 1 (prF b n f 2 B N) j st).1 = true → ∀ τ', WrM σ τ' (lpF b n 1 (prF b n f 2 B N) j st).2.1.2.1 → Q none τ') → X 4 [.ref 88] [] τ := by
    intro j
    induction j with
    | zero =>
      intro τ st hj ht hc h h1 h2
      refine go [] 60 hX ?_
      refine ⟨rfl, rfl, ?_⟩
      refine m_isSgS hb hn ht (by decide) h ?_
      refine ⟨fun c10 => ?_, fun c10 => ?_⟩
      · replace c10 := bI_z c10
        refine ⟨rfl, rfl, ?_⟩
        exact h1 rfl τ h
      · replace c10 := bI_nz c10
        have k := tok_sg (b := b) (t := st.1) (by omega)
        have a := ht.2.2.1 (by omega)
        have c := ht.2.1
        exfalso
        omega
    | succ j ih =>
      intro τ st hj ht hc h h1 h2
      refine go [4] 80 hX ?_
      refine ⟨rfl, rfl, ?_⟩
      refine m_isSgS hb hn ht (by decide) h ?_
      refine ⟨fun c10 => ?_, fun c10 => ?_⟩
      · replace c10 := bI_z c10
        refine ⟨rfl, rfl, ?_⟩
        have e1 : (lpF b n 1 (prF b n f 2 B N) (j + 1) st) = (true, st) := if_neg (fun z => by have z := lv_i1.mp z; omega)
        rw [e1] at h1
        exact h1 rfl τ h
      · replace c10 := bI_nz c10
        have hlo : lvO (tokC b st.1) = 1 := lv_i1.mpr (by omega)
        have hk3 := tok_sg (b := b) (t := st.1) (by omega)
        have hse := ht.2.2.1 (by omega)
        have hnx := nx_ok (b := b) (n := n) ht
        have hle : (adS b n st).2.2.length ≤ (adS b n st).1.2.1 := by show st.2.2.length ≤ (nxT b n st.1).2.1; omega
        have hop : (38 : Int32) = tokC b st.1 := iX (by omega)
        have hst : grd b n (adS b n st) ((prF b n f 2 B N) (adS b n st)).2 → ((prF b n f 2 B N) (adS b n st)).2.2.2.length < ((prF b n f 2 B N) (adS b n st)).2.1.2.1 ∧ st.1.2.1 < ((prF b n f 2 B N) (adS b n st)).2.1.2.1 ∧ ((prF b n f 2 B N) (adS b n st)).2.2.2.length < 100 := fun hg => by
          obtain ⟨q1, q2, nw, q3, q4, _⟩ := hg
          have q4 : nw.length + (nxT b n st.1).2.1 ≤ ((prF b n f 2 B N) (adS b n st)).2.1.2.1 := q4
          have q2 : (nxT b n st.1).2.1 < ((prF b n f 2 B N) (adS b n st)).2.1.2.1 := q2
          have q5 := q1.1
          have q6 := q1.2.1
          rw [q3, List.length_append]
          show nw.length + st.2.2.length < _ ∧ _ ∧ nw.length + st.2.2.length < _
          omega
        refine ⟨rfl, rfl, ?_⟩
        refine m_goS hb ht8 hn6 hn ht h (fun h14a h14b => ?_)
        refine ⟨rfl, rfl, ?_⟩
        refine hsb (adS b n st) h14a _ hnx.1 hle h14b (fun h18a h18b h18c h18d => ?_) (fun h18a h18b h18c => ?_)
        · refine ⟨rfl, rfl, ?_⟩
          refine m_stepS (opS b st.1) hp hop rfl (hst h18d).2.2 h18c (fun h25a h25b => ?_)
          have e1 : (lpF b n 1 (prF b n f 2 B N) (j + 1) st) = (lpF b n 1 (prF b n f 2 B N) j (puS (opS b st.1) ((prF b n f 2 B N) (adS b n st)).2)) := (if_pos hlo).trans (if_pos h18a)
          rw [e1] at h1 h2
          have g := hst h18d
          exact ih _ (puS (opS b st.1) ((prF b n f 2 B N) (adS b n st)).2) (by show 96 ≤ j + ((prF b n f 2 B N) (adS b n st)).2.1.2.1; omega) h18d.1 (by show ((prF b n f 2 B N) (adS b n st)).2.2.2.length + 1 ≤ ((prF b n f 2 B N) (adS b n st)).2.1.2.1; omega) h25b h1 h2
        · refine ⟨rfl, rfl, ?_⟩
          refine m_stepW h18c ?_
          have e1 : (lpF b n 1 (prF b n f 2 B N) (j + 1) st) = (false, ((prF b n f 2 B N) (adS b n st)).2) := (if_pos hlo).trans (if_neg h18a)
          rw [e1] at h2
          exact finW _ _ h18c (h2 Bool.false_ne_true _ h18c)
  refine go [4] 60 hX ?_
  refine ⟨rfl, rfl, ?_⟩
  refine hsb st τ _ ht hc h (fun h1a h1b h1c h1d => ?_) (fun h1a h1b h1c => ?_)
  · have eP : (prF b n (f + 1) 1 B N st) = _ := pr_y (by omega) h1a
    rw [if_neg (by decide)] at eP
    rw [eP] at h1 h2
    have gl := grd_len (c0 := 0) h1d (by omega)
    exact loop 96 _ _ (by omega) h1d.1 (by omega) h1c (fun z τ' q => h1 z τ' q (by
      have hz : (prF b n (f + 1) 1 B N st).1 = true := by rw [eP]; exact z
      have hg := pr_grd hb hn (f + 1) 1 B N st ht hz
      rw [eP] at hg
      exact hg)) h2
  · have eP : (prF b n (f + 1) 1 B N st) = _ := pr_n (by omega) h1a
    exact finW _ _ h1c (h2 (by rw [eP]; exact Bool.false_ne_true) _ (by rw [eP]; exact h1c))
set_option maxHeartbeats 2000000 in
theorem lv_L2 {f : Nat} {b : Nat → Int32} {n p : Nat} {σ : Mm} (hb : ∀ i, i < 96 → -128 ≤ (b i).toInt ∧ (b i).toInt < 128) (ht8 : ∀ i, i < 96 → σ 118 i = b i &&& 255) (hn6 : σ 88 36 = nI n) (hn : n ≤ 96) (hp : p < 3) (hs : LmC b n p σ f 3) : LmC b n p σ (f + 1) 2 := by
  intro B N hM hB hN d τ Q st ht hc h h1 h2
  have n60 : Int32.toInt 60 = 60 := rfl
  have n61 : Int32.toInt 61 = 61 := rfl
  have n62 : Int32.toInt 62 = 62 := rfl
  have hsb : ∀ (st : Pst) (τ' : Mm) (Q' : Qt), tkO b n st.1 → st.2.2.length ≤ st.1.2.1 → MrM b p σ τ' B N st → (((prF b n f 3 B N) st).1 = true → ∀ υ, MrM b p σ υ B N ((prF b n f 3 B N) st).2 → grd b n st ((prF b n f 3 B N) st).2 → Q' none υ) → (¬ ((prF b n f 3 B N) st).1 = true → ∀ υ, WrM σ υ ((prF b n f 3 B N) st).2.1.2.1 → Q' none υ) → Call (d + Dm B N + 9) k_X12_sum [.ref 88] τ' Q' := fun st τ' Q' q1 q2 q3 q4 q5 => hs B N (by unfold Ms at *; omega) hB hN d τ' Q' st q1 q2 q3 q4 q5
  show Call (d + Dm B N + 9 + 1) k_X12_test [.ref 88] τ Q
  refine Call_st 100 fun X hX => ?_
  refine ⟨rfl, rfl, ?_⟩
  refine hsb st τ _ ht hc h (fun h1a h1b h1c h1d => ?_) (fun h1a h1b h1c => ?_)
  · refine ⟨rfl, rfl, ?_⟩
    refine m_isSgS hb hn h1d.1 (by decide) h1c ?_
    refine ⟨fun c10 => ?_, fun c10 => ?_⟩
    · replace c10 := bI_z c10
      refine ⟨rfl, rfl, ?_⟩
      refine m_isSgS hb hn h1d.1 (by decide) h1c ?_
      refine ⟨fun c19 => ?_, fun c19 => ?_⟩
      · replace c19 := bI_z c19
        refine ⟨rfl, rfl, ?_⟩
        refine m_isSgS hb hn h1d.1 (by decide) h1c ?_
        refine ⟨fun c28 => ?_, fun c28 => ?_⟩
        · replace c28 := bI_z c28
          refine ⟨rfl, rfl, ?_⟩
          have eP : (prF b n (f + 1) 2 B N st) = (lpF b n 2 (prF b n f 3 B N) 1 ((prF b n f 3 B N) st).2) := (pr_y (by omega) h1a).trans rfl
          have e1 : (lpF b n 2 (prF b n f 3 B N) 1 ((prF b n f 3 B N) st).2) = (true, ((prF b n f 3 B N) st).2) := if_neg (fun z => by have z := lv_i2.mp z; omega)
          rw [e1] at eP
          have hz : (prF b n (f + 1) 2 B N st).1 = true := by rw [eP]
          exact h1 hz _ (by rw [eP]; exact h1c) (pr_grd hb hn (f + 1) 2 B N st ht hz)
        · replace c28 := bI_nz c28
          have gl := grd_len (c0 := 0) h1d (by omega)
          have hlo : lvO (tokC b ((prF b n f 3 B N) st).2.1) = 2 := lv_i2.mpr (by omega)
          have hk3 := tok_sg (b := b) (t := ((prF b n f 3 B N) st).2.1) (by omega)
          have hse := h1d.1.2.2.1 (by omega)
          have hnx := nx_ok (b := b) (n := n) h1d.1
          have hle : (adS b n ((prF b n f 3 B N) st).2).2.2.length ≤ (adS b n ((prF b n f 3 B N) st).2).1.2.1 := by show ((prF b n f 3 B N) st).2.2.2.length ≤ (nxT b n ((prF b n f 3 B N) st).2.1).2.1; omega
          have hop : h1b 88 41 = tokC b ((prF b n f 3 B N) st).2.1 := by rw [hk3.2]; exact h1c.2.1.2.2.2.1 (Or.inr hk3.1)
          have hst : grd b n (adS b n ((prF b n f 3 B N) st).2) ((prF b n f 3 B N) (adS b n ((prF b n f 3 B N) st).2)).2 → ((prF b n f 3 B N) (adS b n ((prF b n f 3 B N) st).2)).2.2.2.length < ((prF b n f 3 B N) (adS b n ((prF b n f 3 B N) st).2)).2.1.2.1 ∧ ((prF b n f 3 B N) st).2.1.2.1 < ((prF b n f 3 B N) (adS b n ((prF b n f 3 B N) st).2)).2.1.2.1 ∧ ((prF b n f 3 B N) (adS b n ((prF b n f 3 B N) st).2)).2.2.2.length < 100 := fun hg => by
            obtain ⟨q1, q2, nw, q3, q4, _⟩ := hg
            have q4 : nw.length + (nxT b n ((prF b n f 3 B N) st).2.1).2.1 ≤ ((prF b n f 3 B N) (adS b n ((prF b n f 3 B N) st).2)).2.1.2.1 := q4
            have q2 : (nxT b n ((prF b n f 3 B N) st).2.1).2.1 < ((prF b n f 3 B N) (adS b n ((prF b n f 3 B N) st).2)).2.1.2.1 := q2
            have q5 := q1.1
            have q6 := q1.2.1
            rw [q3, List.length_append]
            show nw.length + ((prF b n f 3 B N) st).2.2.2.length < _ ∧ _ ∧ nw.length + ((prF b n f 3 B N) st).2.2.2.length < _
            omega
          refine ⟨rfl, rfl, ?_⟩
          refine m_goS hb ht8 hn6 hn h1d.1 h1c (fun h37a h37b => ?_)
          refine ⟨rfl, rfl, ?_⟩
          refine hsb (adS b n ((prF b n f 3 B N) st).2) h37a _ hnx.1 hle h37b (fun h41a h41b h41c h41d => ?_) (fun h41a h41b h41c => ?_)
          · refine ⟨rfl, rfl, ?_⟩
            refine m_stepS (opS b ((prF b n f 3 B N) st).2.1) hp hop rfl (hst h41d).2.2 h41c (fun h47a h47b => ?_)
            refine ⟨rfl, rfl, ?_⟩
            have eP : (prF b n (f + 1) 2 B N st) = (lpF b n 2 (prF b n f 3 B N) 1 ((prF b n f 3 B N) st).2) := (pr_y (by omega) h1a).trans rfl
            have e1 : (lpF b n 2 (prF b n f 3 B N) 1 ((prF b n f 3 B N) st).2) = (true, puS (opS b ((prF b n f 3 B N) st).2.1) ((prF b n f 3 B N) (adS b n ((prF b n f 3 B N) st).2)).2) := (if_pos hlo).trans (if_pos h41a)
            rw [e1] at eP
            have hz : (prF b n (f + 1) 2 B N st).1 = true := by rw [eP]
            exact h1 hz _ (by rw [eP]; exact h47b) (pr_grd hb hn (f + 1) 2 B N st ht hz)
          · refine ⟨rfl, rfl, ?_⟩
            refine m_stepW h41c ?_
            refine ⟨rfl, rfl, ?_⟩
            have eP : (prF b n (f + 1) 2 B N st) = (lpF b n 2 (prF b n f 3 B N) 1 ((prF b n f 3 B N) st).2) := (pr_y (by omega) h1a).trans rfl
            have e1 : (lpF b n 2 (prF b n f 3 B N) 1 ((prF b n f 3 B N) st).2) = (false, ((prF b n f 3 B N) (adS b n ((prF b n f 3 B N) st).2)).2) := (if_pos hlo).trans (if_neg h41a)
            rw [e1] at eP
            exact h2 (by rw [eP]; exact Bool.false_ne_true) _ (by rw [eP]; exact h41c)
      · replace c19 := bI_nz c19
        have gl := grd_len (c0 := 0) h1d (by omega)
        have hlo : lvO (tokC b ((prF b n f 3 B N) st).2.1) = 2 := lv_i2.mpr (by omega)
        have hk3 := tok_sg (b := b) (t := ((prF b n f 3 B N) st).2.1) (by omega)
        have hse := h1d.1.2.2.1 (by omega)
        have hnx := nx_ok (b := b) (n := n) h1d.1
        have hle : (adS b n ((prF b n f 3 B N) st).2).2.2.length ≤ (adS b n ((prF b n f 3 B N) st).2).1.2.1 := by show ((prF b n f 3 B N) st).2.2.2.length ≤ (nxT b n ((prF b n f 3 B N) st).2.1).2.1; omega
        have hop : h1b 88 41 = tokC b ((prF b n f 3 B N) st).2.1 := by rw [hk3.2]; exact h1c.2.1.2.2.2.1 (Or.inr hk3.1)
        have hst : grd b n (adS b n ((prF b n f 3 B N) st).2) ((prF b n f 3 B N) (adS b n ((prF b n f 3 B N) st).2)).2 → ((prF b n f 3 B N) (adS b n ((prF b n f 3 B N) st).2)).2.2.2.length < ((prF b n f 3 B N) (adS b n ((prF b n f 3 B N) st).2)).2.1.2.1 ∧ ((prF b n f 3 B N) st).2.1.2.1 < ((prF b n f 3 B N) (adS b n ((prF b n f 3 B N) st).2)).2.1.2.1 ∧ ((prF b n f 3 B N) (adS b n ((prF b n f 3 B N) st).2)).2.2.2.length < 100 := fun hg => by
          obtain ⟨q1, q2, nw, q3, q4, _⟩ := hg
          have q4 : nw.length + (nxT b n ((prF b n f 3 B N) st).2.1).2.1 ≤ ((prF b n f 3 B N) (adS b n ((prF b n f 3 B N) st).2)).2.1.2.1 := q4
          have q2 : (nxT b n ((prF b n f 3 B N) st).2.1).2.1 < ((prF b n f 3 B N) (adS b n ((prF b n f 3 B N) st).2)).2.1.2.1 := q2
          have q5 := q1.1
          have q6 := q1.2.1
          rw [q3, List.length_append]
          show nw.length + ((prF b n f 3 B N) st).2.2.2.length < _ ∧ _ ∧ nw.length + ((prF b n f 3 B N) st).2.2.2.length < _
          omega
        refine ⟨rfl, rfl, ?_⟩
        refine m_goS hb ht8 hn6 hn h1d.1 h1c (fun h37a h37b => ?_)
        refine ⟨rfl, rfl, ?_⟩
        refine hsb (adS b n ((prF b n f 3 B N) st).2) h37a _ hnx.1 hle h37b (fun h41a h41b h41c h41d => ?_) (fun h41a h41b h41c => ?_)
        · refine ⟨rfl, rfl, ?_⟩
          refine m_stepS (opS b ((prF b n f 3 B N) st).2.1) hp hop rfl (hst h41d).2.2 h41c (fun h47a h47b => ?_)
          refine ⟨rfl, rfl, ?_⟩
          have eP : (prF b n (f + 1) 2 B N st) = (lpF b n 2 (prF b n f 3 B N) 1 ((prF b n f 3 B N) st).2) := (pr_y (by omega) h1a).trans rfl
          have e1 : (lpF b n 2 (prF b n f 3 B N) 1 ((prF b n f 3 B N) st).2) = (true, puS (opS b ((prF b n f 3 B N) st).2.1) ((prF b n f 3 B N) (adS b n ((prF b n f 3 B N) st).2)).2) := (if_pos hlo).trans (if_pos h41a)
          rw [e1] at eP
          have hz : (prF b n (f + 1) 2 B N st).1 = true := by rw [eP]
          exact h1 hz _ (by rw [eP]; exact h47b) (pr_grd hb hn (f + 1) 2 B N st ht hz)
        · refine ⟨rfl, rfl, ?_⟩
          refine m_stepW h41c ?_
          refine ⟨rfl, rfl, ?_⟩
          have eP : (prF b n (f + 1) 2 B N st) = (lpF b n 2 (prF b n f 3 B N) 1 ((prF b n f 3 B N) st).2) := (pr_y (by omega) h1a).trans rfl
          have e1 : (lpF b n 2 (prF b n f 3 B N) 1 ((prF b n f 3 B N) st).2) = (false, ((prF b n f 3 B N) (adS b n ((prF b n f 3 B N) st).2)).2) := (if_pos hlo).trans (if_neg h41a)
          rw [e1] at eP
          exact h2 (by rw [eP]; exact Bool.false_ne_true) _ (by rw [eP]; exact h41c)
    · replace c10 := bI_nz c10
      have gl := grd_len (c0 := 0) h1d (by omega)
      have hlo : lvO (tokC b ((prF b n f 3 B N) st).2.1) = 2 := lv_i2.mpr (by omega)
      have hk3 := tok_sg (b := b) (t := ((prF b n f 3 B N) st).2.1) (by omega)
      have hse := h1d.1.2.2.1 (by omega)
      have hnx := nx_ok (b := b) (n := n) h1d.1
      have hle : (adS b n ((prF b n f 3 B N) st).2).2.2.length ≤ (adS b n ((prF b n f 3 B N) st).2).1.2.1 := by show ((prF b n f 3 B N) st).2.2.2.length ≤ (nxT b n ((prF b n f 3 B N) st).2.1).2.1; omega
      have hop : h1b 88 41 = tokC b ((prF b n f 3 B N) st).2.1 := by rw [hk3.2]; exact h1c.2.1.2.2.2.1 (Or.inr hk3.1)
      have hst : grd b n (adS b n ((prF b n f 3 B N) st).2) ((prF b n f 3 B N) (adS b n ((prF b n f 3 B N) st).2)).2 → ((prF b n f 3 B N) (adS b n ((prF b n f 3 B N) st).2)).2.2.2.length < ((prF b n f 3 B N) (adS b n ((prF b n f 3 B N) st).2)).2.1.2.1 ∧ ((prF b n f 3 B N) st).2.1.2.1 < ((prF b n f 3 B N) (adS b n ((prF b n f 3 B N) st).2)).2.1.2.1 ∧ ((prF b n f 3 B N) (adS b n ((prF b n f 3 B N) st).2)).2.2.2.length < 100 := fun hg => by
        obtain ⟨q1, q2, nw, q3, q4, _⟩ := hg
        have q4 : nw.length + (nxT b n ((prF b n f 3 B N) st).2.1).2.1 ≤ ((prF b n f 3 B N) (adS b n ((prF b n f 3 B N) st).2)).2.1.2.1 := q4
        have q2 : (nxT b n ((prF b n f 3 B N) st).2.1).2.1 < ((prF b n f 3 B N) (adS b n ((prF b n f 3 B N) st).2)).2.1.2.1 := q2
        have q5 := q1.1
        have q6 := q1.2.1
        rw [q3, List.length_append]
        show nw.length + ((prF b n f 3 B N) st).2.2.2.length < _ ∧ _ ∧ nw.length + ((prF b n f 3 B N) st).2.2.2.length < _
        omega
      refine ⟨rfl, rfl, ?_⟩
      refine m_goS hb ht8 hn6 hn h1d.1 h1c (fun h37a h37b => ?_)
      refine ⟨rfl, rfl, ?_⟩
      refine hsb (adS b n ((prF b n f 3 B N) st).2) h37a _ hnx.1 hle h37b (fun h41a h41b h41c h41d => ?_) (fun h41a h41b h41c => ?_)
      · refine ⟨rfl, rfl, ?_⟩
        refine m_stepS (opS b ((prF b n f 3 B N) st).2.1) hp hop rfl (hst h41d).2.2 h41c (fun h47a h47b => ?_)
        refine ⟨rfl, rfl, ?_⟩
        have eP : (prF b n (f + 1) 2 B N st) = (lpF b n 2 (prF b n f 3 B N) 1 ((prF b n f 3 B N) st).2) := (pr_y (by omega) h1a).trans rfl
        have e1 : (lpF b n 2 (prF b n f 3 B N) 1 ((prF b n f 3 B N) st).2) = (true, puS (opS b ((prF b n f 3 B N) st).2.1) ((prF b n f 3 B N) (adS b n ((prF b n f 3 B N) st).2)).2) := (if_pos hlo).trans (if_pos h41a)
        rw [e1] at eP
        have hz : (prF b n (f + 1) 2 B N st).1 = true := by rw [eP]
        exact h1 hz _ (by rw [eP]; exact h47b) (pr_grd hb hn (f + 1) 2 B N st ht hz)
      · refine ⟨rfl, rfl, ?_⟩
        refine m_stepW h41c ?_
        refine ⟨rfl, rfl, ?_⟩
        have eP : (prF b n (f + 1) 2 B N st) = (lpF b n 2 (prF b n f 3 B N) 1 ((prF b n f 3 B N) st).2) := (pr_y (by omega) h1a).trans rfl
        have e1 : (lpF b n 2 (prF b n f 3 B N) 1 ((prF b n f 3 B N) st).2) = (false, ((prF b n f 3 B N) (adS b n ((prF b n f 3 B N) st).2)).2) := (if_pos hlo).trans (if_neg h41a)
        rw [e1] at eP
        exact h2 (by rw [eP]; exact Bool.false_ne_true) _ (by rw [eP]; exact h41c)
  · refine ⟨rfl, rfl, ?_⟩
    refine m_isSgW h1c ?_
    refine ⟨fun _ => ?_, fun z => absurd (by decide) z⟩
    refine ⟨rfl, rfl, ?_⟩
    refine m_isSgW h1c ?_
    refine ⟨fun _ => ?_, fun z => absurd (by decide) z⟩
    refine ⟨rfl, rfl, ?_⟩
    refine m_isSgW h1c ?_
    refine ⟨fun _ => ?_, fun z => absurd (by decide) z⟩
    refine ⟨rfl, rfl, ?_⟩
    have eP : (prF b n (f + 1) 2 B N st) = _ := pr_n (by omega) h1a
    exact h2 (by rw [eP]; exact Bool.false_ne_true) _ (by rw [eP]; exact h1c)
set_option maxHeartbeats 2000000 in
theorem lv_L3 {f : Nat} {b : Nat → Int32} {n p : Nat} {σ : Mm} (hb : ∀ i, i < 96 → -128 ≤ (b i).toInt ∧ (b i).toInt < 128) (ht8 : ∀ i, i < 96 → σ 118 i = b i &&& 255) (hn6 : σ 88 36 = nI n) (hn : n ≤ 96) (hp : p < 3) (hs : LmC b n p σ f 4) : LmC b n p σ (f + 1) 3 := by
  intro B N hM hB hN d τ Q st ht hc h h1 h2
  have n43 : Int32.toInt 43 = 43 := rfl
  have n45 : Int32.toInt 45 = 45 := rfl
  have hsb : ∀ (st : Pst) (τ' : Mm) (Q' : Qt), tkO b n st.1 → st.2.2.length ≤ st.1.2.1 → MrM b p σ τ' B N st → (((prF b n f 4 B N) st).1 = true → ∀ υ, MrM b p σ υ B N ((prF b n f 4 B N) st).2 → grd b n st ((prF b n f 4 B N) st).2 → Q' none υ) → (¬ ((prF b n f 4 B N) st).1 = true → ∀ υ, WrM σ υ ((prF b n f 4 B N) st).2.1.2.1 → Q' none υ) → Call (d + Dm B N + 8) k_X12_product [.ref 88] τ' Q' := fun st τ' Q' q1 q2 q3 q4 q5 => hs B N (by unfold Ms at *; omega) hB hN d τ' Q' st q1 q2 q3 q4 q5
  show Call (d + Dm B N + 8 + 1) k_X12_sum [.ref 88] τ Q
  refine Call_go fun X hX => ?_
  have finW : ∀ (τ : Mm) (s : Nat) (v : Value), WrM σ τ s → Q none τ → X 4 [.ref 88, v] [] τ := by
    intro τ s v hw hq
    refine go [] 30 hX ?_
    refine ⟨rfl, rfl, ?_⟩
    refine m_isSgW hw ?_
    refine ⟨fun _ => ?_, fun z => absurd (by decide) z⟩
    refine ⟨rfl, rfl, ?_⟩
    refine m_isSgW hw ?_
    refine ⟨fun _ => ?_, fun z => absurd (by decide) z⟩
    refine ⟨rfl, rfl, ?_⟩
    exact hq
  have loop : ∀ (j : Nat) (τ : Mm) (st : Pst) (v : Value), 96 ≤ j + st.1.2.1 → tkO b n st.1 → st.2.2.length ≤ st.1.2.1 → MrM b p σ τ B N st → ((lpF b n 3 (prF b n f 4 B N) j st).1 = true → ∀ τ', MrM b p σ τ' B N (lpF b n 3 (prF b n f 4 B N) j st).2 → Q none τ') → (¬ (lpF b n 3 (prF b n f 4 B N) j st).1 = true → ∀ τ', WrM σ τ' (lpF b n 3 (prF b n f 4 B N) j st).2.1.2.1 → Q none τ') → X 4 [.ref 88, v] [] τ := by
    intro j
    induction j with
    | zero =>
      intro τ st v hj ht hc h h1 h2
      refine go [] 60 hX ?_
      refine ⟨rfl, rfl, ?_⟩
      refine m_isSgS hb hn ht (by decide) h ?_
      refine ⟨fun c10 => ?_, fun c10 => ?_⟩
      · replace c10 := bI_z c10
        refine ⟨rfl, rfl, ?_⟩
        refine m_isSgS hb hn ht (by decide) h ?_
        refine ⟨fun c19 => ?_, fun c19 => ?_⟩
        · replace c19 := bI_z c19
          refine ⟨rfl, rfl, ?_⟩
          exact h1 rfl τ h
        · replace c19 := bI_nz c19
          have k := tok_sg (b := b) (t := st.1) (by omega)
          have a := ht.2.2.1 (by omega)
          have c := ht.2.1
          exfalso
          omega
      · replace c10 := bI_nz c10
        have k := tok_sg (b := b) (t := st.1) (by omega)
        have a := ht.2.2.1 (by omega)
        have c := ht.2.1
        exfalso
        omega
    | succ j ih =>
      intro τ st v hj ht hc h h1 h2
      refine go [4] 80 hX ?_
      refine ⟨rfl, rfl, ?_⟩
      refine m_isSgS hb hn ht (by decide) h ?_
      refine ⟨fun c10 => ?_, fun c10 => ?_⟩
      · replace c10 := bI_z c10
        refine ⟨rfl, rfl, ?_⟩
        refine m_isSgS hb hn ht (by decide) h ?_
        refine ⟨fun c19 => ?_, fun c19 => ?_⟩
        · replace c19 := bI_z c19
          refine ⟨rfl, rfl, ?_⟩
          have e1 : (lpF b n 3 (prF b n f 4 B N) (j + 1) st) = (true, st) := if_neg (fun z => by have z := lv_i3.mp z; omega)
          rw [e1] at h1
          exact h1 rfl τ h
        · replace c19 := bI_nz c19
          have hlo : lvO (tokC b st.1) = 3 := lv_i3.mpr (by omega)
          have hk3 := tok_sg (b := b) (t := st.1) (by omega)
          have hse := ht.2.2.1 (by omega)
          have hnx := nx_ok (b := b) (n := n) ht
          have hle : (adS b n st).2.2.length ≤ (adS b n st).1.2.1 := by show st.2.2.length ≤ (nxT b n st.1).2.1; omega
          have hop : τ 88 41 = tokC b st.1 := by rw [hk3.2]; exact h.2.1.2.2.2.1 (Or.inr hk3.1)
          have hst : grd b n (adS b n st) ((prF b n f 4 B N) (adS b n st)).2 → ((prF b n f 4 B N) (adS b n st)).2.2.2.length < ((prF b n f 4 B N) (adS b n st)).2.1.2.1 ∧ st.1.2.1 < ((prF b n f 4 B N) (adS b n st)).2.1.2.1 ∧ ((prF b n f 4 B N) (adS b n st)).2.2.2.length < 100 := fun hg => by
            obtain ⟨q1, q2, nw, q3, q4, _⟩ := hg
            have q4 : nw.length + (nxT b n st.1).2.1 ≤ ((prF b n f 4 B N) (adS b n st)).2.1.2.1 := q4
            have q2 : (nxT b n st.1).2.1 < ((prF b n f 4 B N) (adS b n st)).2.1.2.1 := q2
            have q5 := q1.1
            have q6 := q1.2.1
            rw [q3, List.length_append]
            show nw.length + st.2.2.length < _ ∧ _ ∧ nw.length + st.2.2.length < _
            omega
          refine ⟨rfl, rfl, ?_⟩
          refine m_goS hb ht8 hn6 hn ht h (fun h28a h28b => ?_)
          refine ⟨rfl, rfl, ?_⟩
          refine hsb (adS b n st) h28a _ hnx.1 hle h28b (fun h32a h32b h32c h32d => ?_) (fun h32a h32b h32c => ?_)
          · refine ⟨rfl, rfl, ?_⟩
            refine m_stepS (opS b st.1) hp hop rfl (hst h32d).2.2 h32c (fun h38a h38b => ?_)
            have e1 : (lpF b n 3 (prF b n f 4 B N) (j + 1) st) = (lpF b n 3 (prF b n f 4 B N) j (puS (opS b st.1) ((prF b n f 4 B N) (adS b n st)).2)) := (if_pos hlo).trans (if_pos h32a)
            rw [e1] at h1 h2
            have g := hst h32d
            exact ih _ (puS (opS b st.1) ((prF b n f 4 B N) (adS b n st)).2) _ (by show 96 ≤ j + ((prF b n f 4 B N) (adS b n st)).2.1.2.1; omega) h32d.1 (by show ((prF b n f 4 B N) (adS b n st)).2.2.2.length + 1 ≤ ((prF b n f 4 B N) (adS b n st)).2.1.2.1; omega) h38b h1 h2
          · refine ⟨rfl, rfl, ?_⟩
            refine m_stepW h32c ?_
            have e1 : (lpF b n 3 (prF b n f 4 B N) (j + 1) st) = (false, ((prF b n f 4 B N) (adS b n st)).2) := (if_pos hlo).trans (if_neg h32a)
            rw [e1] at h2
            exact finW _ _ _ h32c (h2 Bool.false_ne_true _ h32c)
      · replace c10 := bI_nz c10
        have hlo : lvO (tokC b st.1) = 3 := lv_i3.mpr (by omega)
        have hk3 := tok_sg (b := b) (t := st.1) (by omega)
        have hse := ht.2.2.1 (by omega)
        have hnx := nx_ok (b := b) (n := n) ht
        have hle : (adS b n st).2.2.length ≤ (adS b n st).1.2.1 := by show st.2.2.length ≤ (nxT b n st.1).2.1; omega
        have hop : τ 88 41 = tokC b st.1 := by rw [hk3.2]; exact h.2.1.2.2.2.1 (Or.inr hk3.1)
        have hst : grd b n (adS b n st) ((prF b n f 4 B N) (adS b n st)).2 → ((prF b n f 4 B N) (adS b n st)).2.2.2.length < ((prF b n f 4 B N) (adS b n st)).2.1.2.1 ∧ st.1.2.1 < ((prF b n f 4 B N) (adS b n st)).2.1.2.1 ∧ ((prF b n f 4 B N) (adS b n st)).2.2.2.length < 100 := fun hg => by
          obtain ⟨q1, q2, nw, q3, q4, _⟩ := hg
          have q4 : nw.length + (nxT b n st.1).2.1 ≤ ((prF b n f 4 B N) (adS b n st)).2.1.2.1 := q4
          have q2 : (nxT b n st.1).2.1 < ((prF b n f 4 B N) (adS b n st)).2.1.2.1 := q2
          have q5 := q1.1
          have q6 := q1.2.1
          rw [q3, List.length_append]
          show nw.length + st.2.2.length < _ ∧ _ ∧ nw.length + st.2.2.length < _
          omega
        refine ⟨rfl, rfl, ?_⟩
        refine m_goS hb ht8 hn6 hn ht h (fun h28a h28b => ?_)
        refine ⟨rfl, rfl, ?_⟩
        refine hsb (adS b n st) h28a _ hnx.1 hle h28b (fun h32a h32b h32c h32d => ?_) (fun h32a h32b h32c => ?_)
        · refine ⟨rfl, rfl, ?_⟩
          refine m_stepS (opS b st.1) hp hop rfl (hst h32d).2.2 h32c (fun h38a h38b => ?_)
          have e1 : (lpF b n 3 (prF b n f 4 B N) (j + 1) st) = (lpF b n 3 (prF b n f 4 B N) j (puS (opS b st.1) ((prF b n f 4 B N) (adS b n st)).2)) := (if_pos hlo).trans (if_pos h32a)
          rw [e1] at h1 h2
          have g := hst h32d
          exact ih _ (puS (opS b st.1) ((prF b n f 4 B N) (adS b n st)).2) _ (by show 96 ≤ j + ((prF b n f 4 B N) (adS b n st)).2.1.2.1; omega) h32d.1 (by show ((prF b n f 4 B N) (adS b n st)).2.2.2.length + 1 ≤ ((prF b n f 4 B N) (adS b n st)).2.1.2.1; omega) h38b h1 h2
        · refine ⟨rfl, rfl, ?_⟩
          refine m_stepW h32c ?_
          have e1 : (lpF b n 3 (prF b n f 4 B N) (j + 1) st) = (false, ((prF b n f 4 B N) (adS b n st)).2) := (if_pos hlo).trans (if_neg h32a)
          rw [e1] at h2
          exact finW _ _ _ h32c (h2 Bool.false_ne_true _ h32c)
  refine go [4] 60 hX ?_
  refine ⟨rfl, rfl, ?_⟩
  refine hsb st τ _ ht hc h (fun h1a h1b h1c h1d => ?_) (fun h1a h1b h1c => ?_)
  · have eP : (prF b n (f + 1) 3 B N st) = _ := pr_y (by omega) h1a
    rw [if_neg (by decide)] at eP
    rw [eP] at h1 h2
    have gl := grd_len (c0 := 0) h1d (by omega)
    exact loop 96 _ _ _ (by omega) h1d.1 (by omega) h1c (fun z τ' q => h1 z τ' q (by
      have hz : (prF b n (f + 1) 3 B N st).1 = true := by rw [eP]; exact z
      have hg := pr_grd hb hn (f + 1) 3 B N st ht hz
      rw [eP] at hg
      exact hg)) h2
  · have eP : (prF b n (f + 1) 3 B N st) = _ := pr_n (by omega) h1a
    exact finW _ _ _ h1c (h2 (by rw [eP]; exact Bool.false_ne_true) _ (by rw [eP]; exact h1c))
set_option maxHeartbeats 2000000 in
theorem lv_L4 {f : Nat} {b : Nat → Int32} {n p : Nat} {σ : Mm} (hb : ∀ i, i < 96 → -128 ≤ (b i).toInt ∧ (b i).toInt < 128) (ht8 : ∀ i, i < 96 → σ 118 i = b i &&& 255) (hn6 : σ 88 36 = nI n) (hn : n ≤ 96) (hp : p < 3) (hs : LmC b n p σ f 5) : LmC b n p σ (f + 1) 4 := by
  intro B N hM hB hN d τ Q st ht hc h h1 h2
  have n42 : Int32.toInt 42 = 42 := rfl
  have n47 : Int32.toInt 47 = 47 := rfl
  have hsb : ∀ (st : Pst) (τ' : Mm) (Q' : Qt), tkO b n st.1 → st.2.2.length ≤ st.1.2.1 → MrM b p σ τ' B N st → (((prF b n f 5 B N) st).1 = true → ∀ υ, MrM b p σ υ B N ((prF b n f 5 B N) st).2 → grd b n st ((prF b n f 5 B N) st).2 → Q' none υ) → (¬ ((prF b n f 5 B N) st).1 = true → ∀ υ, WrM σ υ ((prF b n f 5 B N) st).2.1.2.1 → Q' none υ) → Call (d + Dm B N + 7) k_X12_part_ [.ref 88] τ' Q' := fun st τ' Q' q1 q2 q3 q4 q5 => hs B N (by unfold Ms at *; omega) hB hN d τ' Q' st q1 q2 q3 q4 q5
  show Call (d + Dm B N + 7 + 1) k_X12_product [.ref 88] τ Q
  refine Call_go fun X hX => ?_
  have finW : ∀ (τ : Mm) (s : Nat) (v : Value), WrM σ τ s → Q none τ → X 4 [.ref 88, v] [] τ := by
    intro τ s v hw hq
    refine go [] 30 hX ?_
    refine ⟨rfl, rfl, ?_⟩
    refine m_isSgW hw ?_
    refine ⟨fun _ => ?_, fun z => absurd (by decide) z⟩
    refine ⟨rfl, rfl, ?_⟩
    refine m_isSgW hw ?_
    refine ⟨fun _ => ?_, fun z => absurd (by decide) z⟩
    refine ⟨rfl, rfl, ?_⟩
    exact hq
  have loop : ∀ (j : Nat) (τ : Mm) (st : Pst) (v : Value), 96 ≤ j + st.1.2.1 → tkO b n st.1 → st.2.2.length ≤ st.1.2.1 → MrM b p σ τ B N st → ((lpF b n 4 (prF b n f 5 B N) j st).1 = true → ∀ τ', MrM b p σ τ' B N (lpF b n 4 (prF b n f 5 B N) j st).2 → Q none τ') → (¬ (lpF b n 4 (prF b n f 5 B N) j st).1 = true → ∀ τ', WrM σ τ' (lpF b n 4 (prF b n f 5 B N) j st).2.1.2.1 → Q none τ') → X 4 [.ref 88, v] [] τ := by
    intro j
    induction j with
    | zero =>
      intro τ st v hj ht hc h h1 h2
      refine go [] 60 hX ?_
      refine ⟨rfl, rfl, ?_⟩
      refine m_isSgS hb hn ht (by decide) h ?_
      refine ⟨fun c10 => ?_, fun c10 => ?_⟩
      · replace c10 := bI_z c10
        refine ⟨rfl, rfl, ?_⟩
        refine m_isSgS hb hn ht (by decide) h ?_
        refine ⟨fun c19 => ?_, fun c19 => ?_⟩
        · replace c19 := bI_z c19
          refine ⟨rfl, rfl, ?_⟩
          exact h1 rfl τ h
        · replace c19 := bI_nz c19
          have k := tok_sg (b := b) (t := st.1) (by omega)
          have a := ht.2.2.1 (by omega)
          have c := ht.2.1
          exfalso
          omega
      · replace c10 := bI_nz c10
        have k := tok_sg (b := b) (t := st.1) (by omega)
        have a := ht.2.2.1 (by omega)
        have c := ht.2.1
        exfalso
        omega
    | succ j ih =>
      intro τ st v hj ht hc h h1 h2
      refine go [4] 80 hX ?_
      refine ⟨rfl, rfl, ?_⟩
      refine m_isSgS hb hn ht (by decide) h ?_
      refine ⟨fun c10 => ?_, fun c10 => ?_⟩
      · replace c10 := bI_z c10
        refine ⟨rfl, rfl, ?_⟩
        refine m_isSgS hb hn ht (by decide) h ?_
        refine ⟨fun c19 => ?_, fun c19 => ?_⟩
        · replace c19 := bI_z c19
          refine ⟨rfl, rfl, ?_⟩
          have e1 : (lpF b n 4 (prF b n f 5 B N) (j + 1) st) = (true, st) := if_neg (fun z => by have z := lv_i4.mp z; omega)
          rw [e1] at h1
          exact h1 rfl τ h
        · replace c19 := bI_nz c19
          have hlo : lvO (tokC b st.1) = 4 := lv_i4.mpr (by omega)
          have hk3 := tok_sg (b := b) (t := st.1) (by omega)
          have hse := ht.2.2.1 (by omega)
          have hnx := nx_ok (b := b) (n := n) ht
          have hle : (adS b n st).2.2.length ≤ (adS b n st).1.2.1 := by show st.2.2.length ≤ (nxT b n st.1).2.1; omega
          have hop : τ 88 41 = tokC b st.1 := by rw [hk3.2]; exact h.2.1.2.2.2.1 (Or.inr hk3.1)
          have hst : grd b n (adS b n st) ((prF b n f 5 B N) (adS b n st)).2 → ((prF b n f 5 B N) (adS b n st)).2.2.2.length < ((prF b n f 5 B N) (adS b n st)).2.1.2.1 ∧ st.1.2.1 < ((prF b n f 5 B N) (adS b n st)).2.1.2.1 ∧ ((prF b n f 5 B N) (adS b n st)).2.2.2.length < 100 := fun hg => by
            obtain ⟨q1, q2, nw, q3, q4, _⟩ := hg
            have q4 : nw.length + (nxT b n st.1).2.1 ≤ ((prF b n f 5 B N) (adS b n st)).2.1.2.1 := q4
            have q2 : (nxT b n st.1).2.1 < ((prF b n f 5 B N) (adS b n st)).2.1.2.1 := q2
            have q5 := q1.1
            have q6 := q1.2.1
            rw [q3, List.length_append]
            show nw.length + st.2.2.length < _ ∧ _ ∧ nw.length + st.2.2.length < _
            omega
          refine ⟨rfl, rfl, ?_⟩
          refine m_goS hb ht8 hn6 hn ht h (fun h28a h28b => ?_)
          refine ⟨rfl, rfl, ?_⟩
          refine hsb (adS b n st) h28a _ hnx.1 hle h28b (fun h32a h32b h32c h32d => ?_) (fun h32a h32b h32c => ?_)
          · refine ⟨rfl, rfl, ?_⟩
            refine m_stepS (opS b st.1) hp hop rfl (hst h32d).2.2 h32c (fun h38a h38b => ?_)
            have e1 : (lpF b n 4 (prF b n f 5 B N) (j + 1) st) = (lpF b n 4 (prF b n f 5 B N) j (puS (opS b st.1) ((prF b n f 5 B N) (adS b n st)).2)) := (if_pos hlo).trans (if_pos h32a)
            rw [e1] at h1 h2
            have g := hst h32d
            exact ih _ (puS (opS b st.1) ((prF b n f 5 B N) (adS b n st)).2) _ (by show 96 ≤ j + ((prF b n f 5 B N) (adS b n st)).2.1.2.1; omega) h32d.1 (by show ((prF b n f 5 B N) (adS b n st)).2.2.2.length + 1 ≤ ((prF b n f 5 B N) (adS b n st)).2.1.2.1; omega) h38b h1 h2
          · refine ⟨rfl, rfl, ?_⟩
            refine m_stepW h32c ?_
            have e1 : (lpF b n 4 (prF b n f 5 B N) (j + 1) st) = (false, ((prF b n f 5 B N) (adS b n st)).2) := (if_pos hlo).trans (if_neg h32a)
            rw [e1] at h2
            exact finW _ _ _ h32c (h2 Bool.false_ne_true _ h32c)
      · replace c10 := bI_nz c10
        have hlo : lvO (tokC b st.1) = 4 := lv_i4.mpr (by omega)
        have hk3 := tok_sg (b := b) (t := st.1) (by omega)
        have hse := ht.2.2.1 (by omega)
        have hnx := nx_ok (b := b) (n := n) ht
        have hle : (adS b n st).2.2.length ≤ (adS b n st).1.2.1 := by show st.2.2.length ≤ (nxT b n st.1).2.1; omega
        have hop : τ 88 41 = tokC b st.1 := by rw [hk3.2]; exact h.2.1.2.2.2.1 (Or.inr hk3.1)
        have hst : grd b n (adS b n st) ((prF b n f 5 B N) (adS b n st)).2 → ((prF b n f 5 B N) (adS b n st)).2.2.2.length < ((prF b n f 5 B N) (adS b n st)).2.1.2.1 ∧ st.1.2.1 < ((prF b n f 5 B N) (adS b n st)).2.1.2.1 ∧ ((prF b n f 5 B N) (adS b n st)).2.2.2.length < 100 := fun hg => by
          obtain ⟨q1, q2, nw, q3, q4, _⟩ := hg
          have q4 : nw.length + (nxT b n st.1).2.1 ≤ ((prF b n f 5 B N) (adS b n st)).2.1.2.1 := q4
          have q2 : (nxT b n st.1).2.1 < ((prF b n f 5 B N) (adS b n st)).2.1.2.1 := q2
          have q5 := q1.1
          have q6 := q1.2.1
          rw [q3, List.length_append]
          show nw.length + st.2.2.length < _ ∧ _ ∧ nw.length + st.2.2.length < _
          omega
        refine ⟨rfl, rfl, ?_⟩
        refine m_goS hb ht8 hn6 hn ht h (fun h28a h28b => ?_)
        refine ⟨rfl, rfl, ?_⟩
        refine hsb (adS b n st) h28a _ hnx.1 hle h28b (fun h32a h32b h32c h32d => ?_) (fun h32a h32b h32c => ?_)
        · refine ⟨rfl, rfl, ?_⟩
          refine m_stepS (opS b st.1) hp hop rfl (hst h32d).2.2 h32c (fun h38a h38b => ?_)
          have e1 : (lpF b n 4 (prF b n f 5 B N) (j + 1) st) = (lpF b n 4 (prF b n f 5 B N) j (puS (opS b st.1) ((prF b n f 5 B N) (adS b n st)).2)) := (if_pos hlo).trans (if_pos h32a)
          rw [e1] at h1 h2
          have g := hst h32d
          exact ih _ (puS (opS b st.1) ((prF b n f 5 B N) (adS b n st)).2) _ (by show 96 ≤ j + ((prF b n f 5 B N) (adS b n st)).2.1.2.1; omega) h32d.1 (by show ((prF b n f 5 B N) (adS b n st)).2.2.2.length + 1 ≤ ((prF b n f 5 B N) (adS b n st)).2.1.2.1; omega) h38b h1 h2
        · refine ⟨rfl, rfl, ?_⟩
          refine m_stepW h32c ?_
          have e1 : (lpF b n 4 (prF b n f 5 B N) (j + 1) st) = (false, ((prF b n f 5 B N) (adS b n st)).2) := (if_pos hlo).trans (if_neg h32a)
          rw [e1] at h2
          exact finW _ _ _ h32c (h2 Bool.false_ne_true _ h32c)
  refine go [4] 60 hX ?_
  refine ⟨rfl, rfl, ?_⟩
  refine hsb st τ _ ht hc h (fun h1a h1b h1c h1d => ?_) (fun h1a h1b h1c => ?_)
  · have eP : (prF b n (f + 1) 4 B N st) = _ := pr_y (by omega) h1a
    rw [if_neg (by decide)] at eP
    rw [eP] at h1 h2
    have gl := grd_len (c0 := 0) h1d (by omega)
    exact loop 96 _ _ _ (by omega) h1d.1 (by omega) h1c (fun z τ' q => h1 z τ' q (by
      have hz : (prF b n (f + 1) 4 B N st).1 = true := by rw [eP]; exact z
      have hg := pr_grd hb hn (f + 1) 4 B N st ht hz
      rw [eP] at hg
      exact hg)) h2
  · have eP : (prF b n (f + 1) 4 B N st) = _ := pr_n (by omega) h1a
    exact finW _ _ _ h1c (h2 (by rw [eP]; exact Bool.false_ne_true) _ (by rw [eP]; exact h1c))
theorem lm_all {b : Nat → Int32} {n p : Nat} {σ : Mm} (hb : ∀ i, i < 96 → -128 ≤ (b i).toInt ∧ (b i).toInt < 128) (ht8 : ∀ i, i < 96 → σ 118 i = b i &&& 255) (hn6 : σ 88 36 = nI n) (hn : n ≤ 96) (hp : p < 3) : ∀ f lvl, lvl ≤ 5 → LmC b n p σ f lvl
  | 0, _, _ => fun B N hM => by unfold Ms at hM; omega
  | f + 1, 0, _ => lv_L0 hb ht8 hn6 hn hp (lm_all hb ht8 hn6 hn hp f 1 (by omega))
  | f + 1, 1, _ => lv_L1 hb ht8 hn6 hn hp (lm_all hb ht8 hn6 hn hp f 2 (by omega))
  | f + 1, 2, _ => lv_L2 hb ht8 hn6 hn hp (lm_all hb ht8 hn6 hn hp f 3 (by omega))
  | f + 1, 3, _ => lv_L3 hb ht8 hn6 hn hp (lm_all hb ht8 hn6 hn hp f 4 (by omega))
  | f + 1, 4, _ => lv_L4 hb ht8 hn6 hn hp (lm_all hb ht8 hn6 hn hp f 5 (by omega))
  | f + 1, 5, _ => pa_step hb ht8 hn6 hn hp (lm_all hb ht8 hn6 hn hp f 5 (by omega)) (lm_all hb ht8 hn6 hn hp f 0 (by omega))
  | _ + 1, _ + 6, h => absurd h (by omega)
