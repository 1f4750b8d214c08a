abbrev Sp3 : Type := Int32 × Int32 × Int32
abbrev Pst : Type := Tk × Nat × List Sp3
def adS (b : Nat → Int32) (n : Nat) (st : Pst) : Pst := (nxT b n st.1, st.2.1, st.2.2)
def puS (x : Sp3) (st : Pst) : Pst := (st.1, st.2.1, x :: st.2.2)
def lvO (t : Int32) : Nat := if t.toInt = 124 then 0 else if t.toInt = 38 then 1 else if t.toInt = 60 ∨ t.toInt = 61 ∨ t.toInt = 62 then 2 else if t.toInt = 43 ∨ t.toInt = 45 then 3 else if t.toInt = 42 ∨ t.toInt = 47 then 4 else 5
def wkO (t : Int32) : Int32 := if t.toInt = 124 then -6 else if t.toInt = 38 then -7 else if t.toInt = 60 then -8 else if t.toInt = 61 then -9 else if t.toInt = 62 then -10 else if t.toInt = 43 then -11 else if t.toInt = 45 then -12 else if t.toInt = 42 then -13 else -14
def opS (b : Nat → Int32) (t : Tk) : Sp3 := (wkO (tokC b t), tokC b t, 0)
def lpF (b : Nat → Int32) (n lvl : Nat) (sub : Pst → Bool × Pst) : Nat → Pst → Bool × Pst
  | 0, st => (true, st)
  | j + 1, st => if lvO (tokC b st.1) = lvl then (if (sub (adS b n st)).1 = true then lpF b n lvl sub j (puS (opS b st.1) (sub (adS b n st)).2) else (false, (sub (adS b n st)).2)) else (true, st)
def leF (b : Nat → Int32) (n : Nat) (P5 P0 : Pst → Bool × Pst) (B N : Nat) (st : Pst) : Bool × Pst :=
  if (tokC b st.1).toInt = 258 then (true, adS b n (st.1, st.2.1 + 1, (nvF b st.1.2.1 (st.1.2.2 - st.1.2.1), 1, nvF b st.1.2.1 (st.1.2.2 - st.1.2.1)) :: st.2.2)) else
  if (tokC b st.1).toInt = 259 then (true, adS b n (st.1, st.2.1 + 1, (-1 - nmIx (b st.1.2.1), 2, b st.1.2.1 &&& 255) :: st.2.2)) else
  if (tokC b st.1).toInt = 33 then (if N < 8 then (if (P5 (adS b n st)).1 = true then (true, puS (-15, 33, 0) (P5 (adS b n st)).2) else (false, (P5 (adS b n st)).2)) else (false, st)) else
  if (tokC b st.1).toInt = 40 then (if B < 8 then (if (P0 (adS b n st)).1 = true ∧ (tokC b (P0 (adS b n st)).2.1).toInt = 41 then (true, adS b n (P0 (adS b n st)).2) else (false, (P0 (adS b n st)).2)) else (false, st)) else
  (false, st)
def prF (b : Nat → Int32) (n : Nat) : Nat → Nat → Nat → Nat → Pst → Bool × Pst
  | 0, _, _, _, st => (false, st)
  | f + 1, lvl, B, N, st => if 5 ≤ lvl then leF b n (prF b n f 5 B (N + 1)) (prF b n f 0 (B + 1) N) B N st else (if (prF b n f (lvl + 1) B N st).1 = true then lpF b n lvl (prF b n f (lvl + 1) B N) (if lvl = 2 then 1 else 96) (prF b n f (lvl + 1) B N st).2 else (false, (prF b n f (lvl + 1) B N st).2))
/-- a token as a text gives it -/
def tkO (b : Nat → Int32) (n : Nat) (t : Tk) : Prop := t.2.1 ≤ t.2.2 ∧ t.2.2 ≤ n ∧ (t.1 ≠ 0 → t.2.1 < t.2.2) ∧ t.1 < 5 ∧ (t.1 = 0 → t.2.1 = n) ∧ (t.1 = 2 → t.2.2 - t.2.1 ≤ 4 ∧ ∀ i, t.2.1 ≤ i → i < t.2.2 → dgP (b i))
theorem rn_all {g : Nat → Bool} : ∀ f p i, p ≤ i → i < rnB g f p → g i = true
  | 0, p, i, h1, h2 => by unfold rnB at h2; omega
  | f + 1, p, i, h1, h2 => by
    unfold rnB at h2
    split at h2
    · rename_i z
      by_cases q : i = p
      · rw [q]; exact z
      · exact rn_all f (p + 1) i (by omega) h2
    · omega
theorem lx_ok {b : Nat → Int32} {n p : Nat} {w : Prop} [Decidable w] (hp : p ≤ n) : tkO b n (lxF b n p w) ∧ p ≤ (lxF b n p w).2.1 := by
  have h1 := rn_b (g := blB b) (n - p) p
  by_cases a : n ≤ rnB (blB b) (n - p) p
  · rw [lx_0 a]
    exact ⟨⟨by show rnB (blB b) (n - p) p ≤ n; omega, Nat.le_refl n, fun z => absurd rfl z, by show 0 < 5; decide, fun _ => by show rnB (blB b) (n - p) p = n; omega, (fun z => by simp at z)⟩, h1.1⟩
  · by_cases l : ltP (b (rnB (blB b) (n - p) p))
    · have h2 := rn_b (g := ltB b) (n - (rnB (blB b) (n - p) p + 1)) (rnB (blB b) (n - p) p + 1)
      rw [lx_l a l]
      generalize rnB (blB b) (n - p) p = s at *
      generalize rnB (ltB b) (n - (s + 1)) (s + 1) = e at *
      unfold tkO
      dsimp only
      split <;> exact ⟨⟨by omega, by omega, fun _ => by omega, by decide, fun z => by omega, fun z => by omega⟩, h1.1⟩
    · by_cases g : dgP (b (rnB (blB b) (n - p) p))
      · have h2 := rn_b (g := dgB b) (n - (rnB (blB b) (n - p) p + 1)) (rnB (blB b) (n - p) p + 1)
        have h3 := rn_all (g := dgB b) (n - (rnB (blB b) (n - p) p + 1)) (rnB (blB b) (n - p) p + 1)
        rw [lx_d a l g]
        generalize rnB (blB b) (n - p) p = s at *
        generalize rnB (dgB b) (n - (s + 1)) (s + 1) = e at *
        unfold tkO
        dsimp only
        split
        · exact ⟨⟨by omega, by omega, fun _ => by omega, by decide, fun z => by omega, fun z => by omega⟩, h1.1⟩
        · rename_i z
          exact ⟨⟨by omega, by omega, fun _ => by omega, by decide, fun z => by omega, fun _ => ⟨by omega, fun i i1 i2 => by
            by_cases y : i = s
            · rw [y]; exact g
            · exact dgT.mp (h3 i (by omega) i2)⟩⟩, h1.1⟩
      · rw [lx_s a l g]
        generalize rnB (blB b) (n - p) p = s at *
        exact ⟨⟨by show s ≤ s + 1; omega, by show s + 1 ≤ n; omega, fun _ => by show s < s + 1; omega, by show 3 < 5; decide, (fun z => by simp at z), (fun z => by simp at z)⟩, h1.1⟩
theorem nx_ok {b : Nat → Int32} {n : Nat} {t : Tk} (h : tkO b n t) : tkO b n (nxT b n t) ∧ t.2.2 ≤ (nxT b n t).2.1 := lx_ok h.2.1
theorem tok_k0 {b : Nat → Int32} {t : Tk} (h : t.1 = 0) : tokC b t = 256 := if_pos h
theorem tok_end {b : Nat → Int32} {t : Tk} (hb : 0 ≤ (b t.2.1 &&& 255).toInt ∧ (b t.2.1 &&& 255).toInt < 256) (hk : t.1 < 5) (h : (tokC b t).toInt < 256) : t.1 = 3 ∧ tokC b t = b t.2.1 &&& 255 := by
  unfold tokC at *
  by_cases a : t.1 = 0
  · rw [if_pos a] at h; exact absurd h (by decide)
  · rw [if_neg a] at h ⊢
    by_cases c : t.1 = 4
    · rw [if_pos c] at h; exact absurd h (by decide)
    · rw [if_neg c] at h ⊢
      by_cases d : t.1 = 2
      · rw [if_pos d] at h; exact absurd h (by decide)
      · rw [if_neg d] at h ⊢
        by_cases e : t.1 = 3
        · rw [if_pos e]; exact ⟨e, rfl⟩
        · rw [if_neg e] at h
          exfalso
          unfold wdC at h
          split at h
          · exact absurd h (by decide)
          · split at h
            · exact absurd h (by decide)
            · split at h
              · exact absurd h (by decide)
              · split at h <;> exact absurd h (by decide)
abbrev okS (x : Sp3) : Prop := stepI x.1 x.2.1 x.2.2
def dpS (x : Sp3) (k : Nat) : Option Nat := if -5 ≤ x.1.toInt then some (k + 1) else (if x.1.toInt = -15 then (if 1 ≤ k then some k else none) else (if 2 ≤ k then some (k - 1) else none))
def dpL : List Sp3 → Nat → Option Nat
  | [], d => some d
  | x :: l, d => match dpL l d with
    | none => none
    | some k => dpS x k
theorem dp_app : ∀ (a c : List Sp3) (d k : Nat), dpL c d = some k → dpL (a ++ c) d = dpL a k
  | [], c, d, k, h => h
  | x :: a, c, d, k, h => by
    show (match dpL (a ++ c) d with | none => none | some k => dpS x k) = (match dpL a k with | none => none | some k => dpS x k)
    rw [dp_app a c d k h]
theorem dp_cons {x : Sp3} {l : List Sp3} {d k : Nat} (h : dpL l d = some k) : dpL (x :: l) d = dpS x k := by
  show (match dpL l d with | none => none | some k => dpS x k) = _
  rw [h]
/-- a whole value was read: from one state of the reading to another -/
def grd (b : Nat → Int32) (n : Nat) (st st' : Pst) : Prop := tkO b n st'.1 ∧ st.1.2.1 < st'.1.2.1 ∧ ∃ nw : List Sp3, st'.2.2 = nw ++ st.2.2 ∧ nw.length + st.1.2.1 ≤ st'.1.2.1 ∧ (∀ x, x ∈ nw → okS x) ∧ ∀ d, dpL nw d = some (d + 1)
theorem nv_rng {b : Nat → Int32} {s : Nat} : ∀ k, k ≤ 4 → (∀ i, s ≤ i → i < s + k → dgP (b i)) → 0 ≤ (nvF b s k).toInt ∧ (nvF b s k).toInt < 10 ^ k
  | 0, _, _ => by show 0 ≤ (0 : Int32).toInt ∧ (0 : Int32).toInt < _; decide
  | k + 1, h, hd => by
    have ih := nv_rng (b := b) (s := s) k (by omega) (fun i h1 h2 => hd i h1 (by omega))
    have hk := hd (s + k) (by omega) (by omega)
    have hp : (10 : Int) ^ k ≤ 1000 := by
      rcases (show k = 0 ∨ k = 1 ∨ k = 2 ∨ k = 3 by omega) with rfl | rfl | rfl | rfl <;> decide
    have e : (nvF b s k * 10 + b (s + k) - 48).toInt = (nvF b s k).toInt * 10 + (b (s + k)).toInt - 48 := by
      simp only [Int32.toInt_sub, Int32.toInt_add, Int32.toInt_mul, Int32.reduceToInt, Int.bmod]
      omega
    show 0 ≤ (nvF b s k * 10 + b (s + k) - 48).toInt ∧ _
    have e2 : (nvF b s (k + 1)).toInt = (nvF b s k * 10 + b (s + k) - 48).toInt := rfl
    rw [e2, e, Int.pow_succ]
    omega
theorem nm_ok {x : Int32} (h : 0 ≤ (nmIx x).toInt) : stepI (-1 - nmIx x) 2 (x &&& 255) ∧ -5 ≤ (-1 - nmIx x).toInt := by
  unfold nmIx at *
  by_cases a : x.toInt = 107
  · have e : x = 107 := iX a
    subst e
    unfold stepI
    decide
  · rw [if_neg a] at h ⊢
    by_cases c : x.toInt = 119
    · have e : x = 119 := iX c
      subst e
      unfold stepI
      decide
    · rw [if_neg c] at h ⊢
      by_cases d : x.toInt = 116
      · have e : x = 116 := iX d
        subst e
        unfold stepI
        decide
      · rw [if_neg d] at h ⊢
        by_cases f : x.toInt = 97
        · have e : x = 97 := iX f
          subst e
          unfold stepI
          decide
        · rw [if_neg f] at h ⊢
          by_cases g : x.toInt = 98
          · have e : x = 98 := iX g
            subst e
            unfold stepI
            decide
          · rw [if_neg g] at h
            exact absurd h (by decide)
theorem op_ok {t : Int32} (h : lvO t < 5) : stepI (wkO t) t 0 ∧ ∀ k, 2 ≤ k → dpS (wkO t, t, 0) k = some (k - 1) := by
  have fin : ∀ c : Int32, wkO t = c → stepI c t 0 → ¬ -5 ≤ c.toInt → ¬ c.toInt = -15 → stepI (wkO t) t 0 ∧ ∀ k, 2 ≤ k → dpS (wkO t, t, 0) k = some (k - 1) := fun c e h1 h2 h3 => by
    rw [e]
    refine ⟨h1, fun k hk => ?_⟩
    unfold dpS
    rw [if_neg h2, if_neg h3, if_pos hk]
  have cases9 : t.toInt = 124 ∨ t.toInt = 38 ∨ t.toInt = 60 ∨ t.toInt = 61 ∨ t.toInt = 62 ∨ t.toInt = 43 ∨ t.toInt = 45 ∨ t.toInt = 42 ∨ t.toInt = 47 := by
    unfold lvO at h
    repeat' split at h
    all_goals omega
  rcases cases9 with z | z | z | z | z | z | z | z | z
  · have e : t = 124 := iX z
    subst e
    exact fin (-6) (by decide) (by unfold stepI; decide) (by decide) (by decide)
  · have e : t = 38 := iX z
    subst e
    exact fin (-7) (by decide) (by unfold stepI; decide) (by decide) (by decide)
  · have e : t = 60 := iX z
    subst e
    exact fin (-8) (by decide) (by unfold stepI; decide) (by decide) (by decide)
  · have e : t = 61 := iX z
    subst e
    exact fin (-9) (by decide) (by unfold stepI; decide) (by decide) (by decide)
  · have e : t = 62 := iX z
    subst e
    exact fin (-10) (by decide) (by unfold stepI; decide) (by decide) (by decide)
  · have e : t = 43 := iX z
    subst e
    exact fin (-11) (by decide) (by unfold stepI; decide) (by decide) (by decide)
  · have e : t = 45 := iX z
    subst e
    exact fin (-12) (by decide) (by unfold stepI; decide) (by decide) (by decide)
  · have e : t = 42 := iX z
    subst e
    exact fin (-13) (by decide) (by unfold stepI; decide) (by decide) (by decide)
  · have e : t = 47 := iX z
    subst e
    exact fin (-14) (by decide) (by unfold stepI; decide) (by decide) (by decide)
