/-! THE LAW'S OWN CODE IS ITS TABLE'S -/
def e_lx (pc : Nat) : Option Ae := bif (Nat.beq pc 7 || Nat.beq pc 15) then none else e_law pc
def okPc (pc : Nat) : Bool := match e_lx pc with
  | some (i, nx, v, t, u) => okE 13 code 4 pc i nx v t u
  | none => true
def okR (a n : Nat) : Bool := (List.range n).all fun i => okPc (a + i)
theorem okR_at {a n pc : Nat} (h : okR a n = true) (h1 : a ≤ pc) (h2 : pc < a + n) : okPc pc = true := by
  have := List.all_eq_true.mp h (pc - a) (List.mem_range.mpr (by omega))
  rw [show a + (pc - a) = pc by omega] at this
  exact this
set_option maxRecDepth 100000 in
theorem lok_0 : okR 0 80 = true := by decide +kernel
set_option maxRecDepth 100000 in
theorem lok_80 : okR 80 80 = true := by decide +kernel
set_option maxRecDepth 100000 in
theorem lok_160 : okR 160 80 = true := by decide +kernel
set_option maxRecDepth 100000 in
theorem lok_240 : okR 240 80 = true := by decide +kernel
set_option maxRecDepth 100000 in
theorem lok_320 : okR 320 80 = true := by decide +kernel
set_option maxRecDepth 100000 in
theorem lok_400 : okR 400 80 = true := by decide +kernel
set_option maxRecDepth 100000 in
theorem lok_480 : okR 480 80 = true := by decide +kernel
set_option maxRecDepth 100000 in
theorem lok_560 : okR 560 80 = true := by decide +kernel
set_option maxRecDepth 100000 in
theorem lok_640 : okR 640 80 = true := by decide +kernel
set_option maxRecDepth 100000 in
theorem lok_720 : okR 720 80 = true := by decide +kernel
set_option maxRecDepth 100000 in
theorem lok_800 : okR 800 80 = true := by decide +kernel
set_option maxRecDepth 100000 in
theorem lok_880 : okR 880 80 = true := by decide +kernel
set_option maxRecDepth 100000 in
theorem lok_960 : okR 960 80 = true := by decide +kernel
set_option maxRecDepth 100000 in
theorem lok_1040 : okR 1040 80 = true := by decide +kernel
set_option maxRecDepth 100000 in
theorem lok_1120 : okR 1120 80 = true := by decide +kernel
set_option maxRecDepth 100000 in
theorem lok_1200 : okR 1200 80 = true := by decide +kernel
set_option maxRecDepth 100000 in
theorem lok_1280 : okR 1280 80 = true := by decide +kernel
set_option maxRecDepth 100000 in
theorem lok_1360 : okR 1360 80 = true := by decide +kernel
set_option maxRecDepth 100000 in
theorem lok_1440 : okR 1440 80 = true := by decide +kernel
set_option maxRecDepth 100000 in
theorem lok_1520 : okR 1520 71 = true := by decide +kernel
theorem law_ok : okC 13 code 4 e_lx 1591 = true := List.all_eq_true.mpr fun pc hpc => by
  have hlt := List.mem_range.mp hpc
  show okPc pc = true
  rcases Nat.lt_or_ge pc 80 with q | q80
  · exact okR_at lok_0 (by omega) (by omega)
  rcases Nat.lt_or_ge pc 160 with q | q160
  · exact okR_at lok_80 (by omega) (by omega)
  rcases Nat.lt_or_ge pc 240 with q | q240
  · exact okR_at lok_160 (by omega) (by omega)
  rcases Nat.lt_or_ge pc 320 with q | q320
  · exact okR_at lok_240 (by omega) (by omega)
  rcases Nat.lt_or_ge pc 400 with q | q400
  · exact okR_at lok_320 (by omega) (by omega)
  rcases Nat.lt_or_ge pc 480 with q | q480
  · exact okR_at lok_400 (by omega) (by omega)
  rcases Nat.lt_or_ge pc 560 with q | q560
  · exact okR_at lok_480 (by omega) (by omega)
  rcases Nat.lt_or_ge pc 640 with q | q640
  · exact okR_at lok_560 (by omega) (by omega)
  rcases Nat.lt_or_ge pc 720 with q | q720
  · exact okR_at lok_640 (by omega) (by omega)
  rcases Nat.lt_or_ge pc 800 with q | q800
  · exact okR_at lok_720 (by omega) (by omega)
  rcases Nat.lt_or_ge pc 880 with q | q880
  · exact okR_at lok_800 (by omega) (by omega)
  rcases Nat.lt_or_ge pc 960 with q | q960
  · exact okR_at lok_880 (by omega) (by omega)
  rcases Nat.lt_or_ge pc 1040 with q | q1040
  · exact okR_at lok_960 (by omega) (by omega)
  rcases Nat.lt_or_ge pc 1120 with q | q1120
  · exact okR_at lok_1040 (by omega) (by omega)
  rcases Nat.lt_or_ge pc 1200 with q | q1200
  · exact okR_at lok_1120 (by omega) (by omega)
  rcases Nat.lt_or_ge pc 1280 with q | q1280
  · exact okR_at lok_1200 (by omega) (by omega)
  rcases Nat.lt_or_ge pc 1360 with q | q1360
  · exact okR_at lok_1280 (by omega) (by omega)
  rcases Nat.lt_or_ge pc 1440 with q | q1440
  · exact okR_at lok_1360 (by omega) (by omega)
  rcases Nat.lt_or_ge pc 1520 with q | q1520
  · exact okR_at lok_1440 (by omega) (by omega)
  exact okR_at lok_1520 (by omega) (by omega)
theorem law_z : ∀ (pc : Nat) (e : Ae), e_lx pc = some e → pc < 1591 := by
  intro pc e h
  unfold e_lx at h
  cases h7 : (Nat.beq pc 7 || Nat.beq pc 15) with
  | true => rw [h7] at h; cases h
  | false =>
    rw [h7] at h
    exact bz (Z := 1591) (x := _) (show (e_law pc = some e) from h)
/-- the two stores of references are no steps of the machine -/
theorem law_clo {call : Ct} {scr : Sc} {rt : Option FieldType} {Q : Qt} {X : Kt} (h : Clo call scr rt e_lx Q X) : Clo call scr rt e_law Q X := by
  intro pc ls st σ hs
  cases h7 : (Nat.beq pc 7 || Nat.beq pc 15) with
  | true =>
    rcases Bool.or_eq_true_iff.mp h7 with q | q
    · have e := Nat.eq_of_beq_eq_true q
      subst e
      exact (show False from hs).elim
    · have e := Nat.eq_of_beq_eq_true q
      subst e
      exact (show False from hs).elim
  | false =>
    refine h pc ls st σ ?_
    have e : e_lx pc = e_law pc := by
      unfold e_lx
      rw [h7]
      rfl
    unfold st1 at hs ⊢
    rw [e]
    exact hs
theorem dL_0 : decode code 0 = .ok (.new 7, 3) := by decide +kernel
theorem dL_3 : decode code 3 = .ok (.dup, 1) := by decide +kernel
theorem dL_4 : decode code 4 = .ok (.invokespecial 9, 3) := by decide +kernel
theorem dL_7 : decode code 7 = .ok (.astore_n 1, 1) := by decide +kernel
theorem dL_8 : decode code 8 = .ok (.new 10, 3) := by decide +kernel
theorem dL_11 : decode code 11 = .ok (.dup, 1) := by decide +kernel
theorem dL_12 : decode code 12 = .ok (.invokespecial 12, 3) := by decide +kernel
theorem dL_15 : decode code 15 = .ok (.astore_n 2, 1) := by decide +kernel
theorem dL_16 : decode code 16 = .ok (.iconst 0, 1) := by decide +kernel
theorem dL_17 : decode code 17 = .ok (.istore_n 3, 1) := by decide +kernel
