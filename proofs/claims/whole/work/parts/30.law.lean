/-- memories that agree but for some cells -/
def Ag (L : List Nat) (σ τ : Mm) : Prop := ∀ k, cu L k = false → τ k = σ k
theorem Ag.rf {L : List Nat} {σ : Mm} : Ag L σ σ := fun _ _ => rfl
theorem Ag.tr {L : List Nat} {σ τ υ : Mm} (h : Ag L σ τ) (h2 : Ag L τ υ) : Ag L σ υ := fun k hk => (h2 k hk).trans (h k hk)
theorem cu_sub {L M : List Nat} (h : L.all (fun k => cu M k) = true) {k : Nat} (hk : cu M k = false) : cu L k = false := by
  induction L with
  | nil => rfl
  | cons a L ih =>
    obtain ⟨h1, h2⟩ := and2 h
    unfold cu
    rw [ih h2, Bool.or_false]
    cases hb : Nat.beq k a with
    | false => rfl
    | true =>
      have := Nat.eq_of_beq_eq_true hb
      subst this
      have h1 : cu M k = true := h1
      rw [h1] at hk
      cases hk
theorem Ag.wk {L M : List Nat} {σ τ : Mm} (h : Ag L σ τ) (hs : L.all (fun k => cu M k) = true) : Ag M σ τ := fun k hk => h k (cu_sub hs hk)
theorem Ag.up {L : List Nat} {σ τ : Mm} {k : Nat} {g : Nat → Int32} (h : Ag L σ τ) (hk : cu L k = true) : Ag L σ (up τ k g) := fun j hj => by
  rw [up_c (fun e => by rw [e, hk] at hj; cases hj)]
  exact h j hj
theorem Ag.wr {L : List Nat} {σ τ : Mm} {k i : Nat} {v : Int32} (h : Ag L σ τ) (hk : cu L k = true) : Ag L σ (wr τ k i v) := Ag.up h hk
/-- what a sign of a law gives (the class's numbers) -/
def wkd (c x y : Int32) : Int32 := if c.toInt = -6 then bI (¬ x.toInt = 0 ∨ ¬ y.toInt = 0) else if c.toInt = -7 then bI (¬ x.toInt = 0 ∧ ¬ y.toInt = 0) else if c.toInt = -8 then bI (x.toInt < y.toInt) else if c.toInt = -9 then bI (x.toInt = y.toInt) else if c.toInt = -10 then bI (y.toInt < x.toInt) else
  if c.toInt = -11 then x + y else if c.toInt = -12 then x - y else if c.toInt = -13 then x * y else if c.toInt = -14 then (if y.toInt = 0 then 0 else x / y) else 0
def svS (c : Int32) (nm : Nat → Int32) (q : Nat × (Nat → Int32)) : Nat × (Nat → Int32) := if -5 ≤ c.toInt then (q.1 + 1, upd q.2 q.1 (if c.toInt < 0 then nm (-1 - c).toInt.toNat else c)) else if c.toInt = -15 then (q.1, upd q.2 (q.1 - 1) (bI ((q.2 (q.1 - 1)).toInt = 0))) else (q.1 - 1, upd q.2 (q.1 - 2) (wkd c (q.2 (q.1 - 2)) (q.2 (q.1 - 1))))
def sv (c : Nat → Int32) (nm : Nat → Int32) (s : Nat) : Nat → Nat × (Nat → Int32)
  | 0 => (0, fun _ => 0)
  | n + 1 => svS (c (s + n)) nm (sv c nm s n)
/-- what a row of steps gives -/
def lawV (c : Nat → Int32) (nm : Nat → Int32) (s n : Nat) : Int32 := (sv c nm s n).2 0
theorem depth_sv {c : Nat → Int32} {nm : Nat → Int32} {s : Nat} : ∀ {n k : Nat}, depth c s n 0 = some k → (sv c nm s n).1 = k ∧ k ≤ n
  | 0, k, h => by cases h; exact ⟨rfl, Nat.le_refl 0⟩
  | n + 1, k, h => by
    unfold depth at h
    cases hd : depth c s n 0 with
    | none => rw [hd] at h; cases h
    | some j =>
      rw [hd] at h
      obtain ⟨h1, h2⟩ := depth_sv (nm := nm) hd
      dsimp only at h
      show (svS (c (s + n)) nm (sv c nm s n)).1 = k ∧ _
      unfold svS
      by_cases q : -5 ≤ (c (s + n)).toInt
      · rw [if_pos q] at h ⊢
        cases h
        exact ⟨by rw [← h1], by omega⟩
      · rw [if_neg q] at h ⊢
        by_cases q2 : (c (s + n)).toInt = -15
        · rw [if_pos q2] at h ⊢
          split at h
          · cases h; exact ⟨h1, by omega⟩
          · cases h
        · rw [if_neg q2] at h ⊢
          split at h
          · cases h; exact ⟨by dsimp only; rw [h1], by omega⟩
          · cases h
/-- in a row that doesn't fall short, a step that takes finds what it takes -/
theorem depth_pre {c : Nat → Int32} {s : Nat} : ∀ {n k m : Nat}, depth c s n 0 = some k → m < n → ∃ j, depth c s m 0 = some j ∧ ((c (s + m)).toInt < -5 → (c (s + m)).toInt = -15 → 1 ≤ j) ∧ ((c (s + m)).toInt < -5 → ¬ (c (s + m)).toInt = -15 → 2 ≤ j)
  | 0, k, m, h, hm => by omega
  | n + 1, k, m, h, hm => by
    unfold depth at h
    cases hd : depth c s n 0 with
    | none => rw [hd] at h; cases h
    | some j =>
      rw [hd] at h
      by_cases q : m = n
      · subst q
        refine ⟨j, hd, fun a b => ?_, fun a b => ?_⟩
        · dsimp only at h
          rw [if_neg (by omega), if_pos b] at h
          split at h
          · assumption
          · cases h
        · dsimp only at h
          rw [if_neg (by omega), if_neg b] at h
          split at h
          · assumption
          · cases h
      · exact depth_pre hd (by omega)
theorem s_wkd {d : Nat} {σ : Mm} {Q : Qt} {c x y : Int32} (hQ : Q (some (.int (wkd c x y))) σ) : Call (d + 1) k_X3_worked [.int c, .int x, .int y] σ Q := by
  refine Call_st 120 fun X hX => ?_
  refine ⟨fun c1_0 => ?_, fun c1_0 => ?_⟩
  · refine ⟨fun c126 => ?_, fun c126 => ?_⟩
    · refine ⟨rfl, trivial, ?_⟩
      refine Qe hQ ?_ rfl
      refine vI_ ?_
      dsimp only at c1_0 c126
      unfold wkd
      simp (config := {decide := true}) only [*, if_true, if_false] <;> first | rfl | (rw [bI_p (by omega)]; done) | (rw [bI_n (by omega)]; done) | (rw [if_pos (by omega)]; done) | (rw [if_neg (by omega)]; done)
    · refine ⟨(by assumption), ?_⟩
      refine ⟨rfl, trivial, ?_⟩
      refine Qe hQ ?_ rfl
      refine vI_ ?_
      dsimp only at c1_0 c126
      unfold wkd
      simp (config := {decide := true}) only [*, if_true, if_false] <;> first | rfl | (rw [bI_p (by omega)]; done) | (rw [bI_n (by omega)]; done) | (rw [if_pos (by omega)]; done) | (rw [if_neg (by omega)]; done)
  refine ⟨fun c1_1 => ?_, fun c1_1 => ?_⟩
  · refine ⟨rfl, trivial, ?_⟩
    refine Qe hQ ?_ rfl
    refine vI_ ?_
    dsimp only at c1_0 c1_1
    unfold wkd
    simp (config := {decide := true}) only [*, if_true, if_false] <;> first | rfl | (rw [bI_p (by omega)]; done) | (rw [bI_n (by omega)]; done) | (rw [if_pos (by omega)]; done) | (rw [if_neg (by omega)]; done)
  refine ⟨fun c1_2 => ?_, fun c1_2 => ?_⟩
  · refine ⟨rfl, trivial, ?_⟩
    refine Qe hQ ?_ rfl
    refine vI_ ?_
    dsimp only at c1_0 c1_1 c1_2
    unfold wkd
    simp (config := {decide := true}) only [*, if_true, if_false] <;> first | rfl | (rw [bI_p (by omega)]; done) | (rw [bI_n (by omega)]; done) | (rw [if_pos (by omega)]; done) | (rw [if_neg (by omega)]; done)
  refine ⟨fun c1_3 => ?_, fun c1_3 => ?_⟩
  · refine ⟨rfl, trivial, ?_⟩
    refine Qe hQ ?_ rfl
    refine vI_ ?_
    dsimp only at c1_0 c1_1 c1_2 c1_3
    unfold wkd
    simp (config := {decide := true}) only [*, if_true, if_false] <;> first | rfl | (rw [bI_p (by omega)]; done) | (rw [bI_n (by omega)]; done) | (rw [if_pos (by omega)]; done) | (rw [if_neg (by omega)]; done)
  refine ⟨fun c1_4 => ?_, fun c1_4 => ?_⟩
  · refine ⟨fun c104 => ?_, fun c104 => ?_⟩
    · refine ⟨rfl, trivial, ?_⟩
      refine Qe hQ ?_ rfl
      refine vI_ ?_
      dsimp only at c1_0 c1_1 c1_2 c1_3 c1_4 c104
      unfold wkd
      simp (config := {decide := true}) only [*, if_true, if_false] <;> first | rfl | (rw [bI_p (by omega)]; done) | (rw [bI_n (by omega)]; done) | (rw [if_pos (by omega)]; done) | (rw [if_neg (by omega)]; done)
    · refine ⟨rfl, trivial, ?_⟩
      refine Qe hQ ?_ rfl
      refine vI_ ?_
      dsimp only at c1_0 c1_1 c1_2 c1_3 c1_4 c104
      unfold wkd
      simp (config := {decide := true}) only [*, if_true, if_false] <;> first | rfl | (rw [bI_p (by omega)]; done) | (rw [bI_n (by omega)]; done) | (rw [if_pos (by omega)]; done) | (rw [if_neg (by omega)]; done)
  refine ⟨fun c1_5 => ?_, fun c1_5 => ?_⟩
  · refine ⟨fun c93 => ?_, fun c93 => ?_⟩
    · refine ⟨rfl, trivial, ?_⟩
      refine Qe hQ ?_ rfl
      refine vI_ ?_
      dsimp only at c1_0 c1_1 c1_2 c1_3 c1_4 c1_5 c93
      unfold wkd
      simp (config := {decide := true}) only [*, if_true, if_false] <;> first | rfl | (rw [bI_p (by omega)]; done) | (rw [bI_n (by omega)]; done) | (rw [if_pos (by omega)]; done) | (rw [if_neg (by omega)]; done)
    · refine ⟨rfl, trivial, ?_⟩
      refine Qe hQ ?_ rfl
      refine vI_ ?_
      dsimp only at c1_0 c1_1 c1_2 c1_3 c1_4 c1_5 c93
      unfold wkd
      simp (config := {decide := true}) only [*, if_true, if_false] <;> first | rfl | (rw [bI_p (by omega)]; done) | (rw [bI_n (by omega)]; done) | (rw [if_pos (by omega)]; done) | (rw [if_neg (by omega)]; done)
  refine ⟨fun c1_6 => ?_, fun c1_6 => ?_⟩
  · refine ⟨fun c82 => ?_, fun c82 => ?_⟩
    · refine ⟨rfl, trivial, ?_⟩
      refine Qe hQ ?_ rfl
      refine vI_ ?_
      dsimp only at c1_0 c1_1 c1_2 c1_3 c1_4 c1_5 c1_6 c82
      unfold wkd
      simp (config := {decide := true}) only [*, if_true, if_false] <;> first | rfl | (rw [bI_p (by omega)]; done) | (rw [bI_n (by omega)]; done) | (rw [if_pos (by omega)]; done) | (rw [if_neg (by omega)]; done)
    · refine ⟨rfl, trivial, ?_⟩
      refine Qe hQ ?_ rfl
      refine vI_ ?_
      dsimp only at c1_0 c1_1 c1_2 c1_3 c1_4 c1_5 c1_6 c82
      unfold wkd
      simp (config := {decide := true}) only [*, if_true, if_false] <;> first | rfl | (rw [bI_p (by omega)]; done) | (rw [bI_n (by omega)]; done) | (rw [if_pos (by omega)]; done) | (rw [if_neg (by omega)]; done)
  refine ⟨fun c1_7 => ?_, fun c1_7 => ?_⟩
  · refine ⟨fun c67 => ?_, fun c67 => ?_⟩
    · refine ⟨rfl, trivial, ?_⟩
      refine Qe hQ ?_ rfl
      refine vI_ ?_
      dsimp only at c1_0 c1_1 c1_2 c1_3 c1_4 c1_5 c1_6 c1_7 c67
      unfold wkd
      simp (config := {decide := true}) only [*, if_true, if_false] <;> first | rfl | (rw [bI_p (by omega)]; done) | (rw [bI_n (by omega)]; done) | (rw [if_pos (by omega)]; done) | (rw [if_neg (by omega)]; done)
    · refine ⟨fun c71 => ?_, fun c71 => ?_⟩
      · refine ⟨rfl, trivial, ?_⟩
        refine Qe hQ ?_ rfl
        refine vI_ ?_
        dsimp only at c1_0 c1_1 c1_2 c1_3 c1_4 c1_5 c1_6 c1_7 c67 c71
        unfold wkd
        simp (config := {decide := true}) only [*, if_true, if_false] <;> first | rfl | (rw [bI_p (by omega)]; done) | (rw [bI_n (by omega)]; done) | (rw [if_pos (by omega)]; done) | (rw [if_neg (by omega)]; done)
      · refine ⟨rfl, trivial, ?_⟩
        refine Qe hQ ?_ rfl
        refine vI_ ?_
        dsimp only at c1_0 c1_1 c1_2 c1_3 c1_4 c1_5 c1_6 c1_7 c67 c71
        unfold wkd
        simp (config := {decide := true}) only [*, if_true, if_false] <;> first | rfl | (rw [bI_p (by omega)]; done) | (rw [bI_n (by omega)]; done) | (rw [if_pos (by omega)]; done) | (rw [if_neg (by omega)]; done)
  refine ⟨fun c1_8 => ?_, fun c1_8 => ?_⟩
  · refine ⟨fun c53 => ?_, fun c53 => ?_⟩
    · refine ⟨fun c57 => ?_, fun c57 => ?_⟩
      · refine ⟨rfl, trivial, ?_⟩
        refine Qe hQ ?_ rfl
        refine vI_ ?_
        dsimp only at c1_0 c1_1 c1_2 c1_3 c1_4 c1_5 c1_6 c1_7 c1_8 c53 c57
        unfold wkd
        simp (config := {decide := true}) only [*, if_true, if_false] <;> first | rfl | (rw [bI_p (by omega)]; done) | (rw [bI_n (by omega)]; done) | (rw [if_pos (by omega)]; done) | (rw [if_neg (by omega)]; done)
      · refine ⟨rfl, trivial, ?_⟩
        refine Qe hQ ?_ rfl
        refine vI_ ?_
        dsimp only at c1_0 c1_1 c1_2 c1_3 c1_4 c1_5 c1_6 c1_7 c1_8 c53 c57
        unfold wkd
        simp (config := {decide := true}) only [*, if_true, if_false] <;> first | rfl | (rw [bI_p (by omega)]; done) | (rw [bI_n (by omega)]; done) | (rw [if_pos (by omega)]; done) | (rw [if_neg (by omega)]; done)
    · refine ⟨rfl, trivial, ?_⟩
      refine Qe hQ ?_ rfl
      refine vI_ ?_
      dsimp only at c1_0 c1_1 c1_2 c1_3 c1_4 c1_5 c1_6 c1_7 c1_8 c53
      unfold wkd
      simp (config := {decide := true}) only [*, if_true, if_false] <;> first | rfl | (rw [bI_p (by omega)]; done) | (rw [bI_n (by omega)]; done) | (rw [if_pos (by omega)]; done) | (rw [if_neg (by omega)]; done)
  refine ⟨rfl, trivial, ?_⟩
  refine Qe hQ ?_ rfl
  refine vI_ ?_
  dsimp only at c1_0 c1_1 c1_2 c1_3 c1_4 c1_5 c1_6 c1_7 c1_8
  unfold wkd
  simp (config := {decide := true}) only [*, if_true, if_false] <;> first | rfl | (rw [bI_p (by omega)]; done) | (rw [bI_n (by omega)]; done) | (rw [if_pos (by omega)]; done) | (rw [if_neg (by omega)]; done)
