def Zm : Mm := fun _ _ => 0
/-- standings that are alike where it counts -/
def Peq (P P' : Mm) : Prop := P 8 0 = P' 8 0 ∧ (∀ i, i < 30 → P 0 i = P' 0 i ∧ P 1 i = P' 1 i ∧ P 2 i = P' 2 i) ∧ ∀ a b : Nat, a < 5 → b < 5 → P (3 + a) b = P' (3 + a) b
theorem updE {f f' : Nat → Int32} {i j : Nat} {x y : Int32} (h : f j = f' j) (hx : x = y) : upd f i x j = upd f' i y j := by
  unfold upd
  by_cases q : j = i
  · rw [if_pos q, if_pos q, hx]
  · rw [if_neg q, if_neg q, h]
theorem Peq.w0 {P P' : Mm} {i : Nat} {x y : Int32} (h : Peq P P') (hx : x = y) : Peq (wr P 0 i x) (wr P' 0 i y) := by
  obtain ⟨h1, h2, h3⟩ := h
  refine ⟨h1, fun j hj => ⟨updE (h2 j hj).1 hx, (h2 j hj).2.1, (h2 j hj).2.2⟩, fun a b ha hb => ?_⟩
  rw [wr_c (by omega), wr_c (by omega)]
  exact h3 a b ha hb
theorem Peq.w1 {P P' : Mm} {i : Nat} {x y : Int32} (h : Peq P P') (hx : x = y) : Peq (wr P 1 i x) (wr P' 1 i y) := by
  obtain ⟨h1, h2, h3⟩ := h
  refine ⟨h1, fun j hj => ⟨(h2 j hj).1, updE (h2 j hj).2.1 hx, (h2 j hj).2.2⟩, fun a b ha hb => ?_⟩
  rw [wr_c (by omega), wr_c (by omega)]
  exact h3 a b ha hb
theorem Peq.w2 {P P' : Mm} {i : Nat} {x y : Int32} (h : Peq P P') (hx : x = y) : Peq (wr P 2 i x) (wr P' 2 i y) := by
  obtain ⟨h1, h2, h3⟩ := h
  refine ⟨h1, fun j hj => ⟨(h2 j hj).1, (h2 j hj).2.1, updE (h2 j hj).2.2 hx⟩, fun a b ha hb => ?_⟩
  rw [wr_c (by omega), wr_c (by omega)]
  exact h3 a b ha hb
theorem Peq.w8 {P P' : Mm} {x y : Int32} (h : Peq P P') (hx : x = y) : Peq (wr P 8 0 x) (wr P' 8 0 y) := by
  obtain ⟨h1, h2, h3⟩ := h
  refine ⟨(updE (f := P 8) (f' := P' 8) (i := 0) h1 hx), h2, fun a b ha hb => ?_⟩
  rw [wr_c (by omega), wr_c (by omega)]
  exact h3 a b ha hb
theorem Peq.ws {P P' : Mm} {c i : Nat} {x y : Int32} (h : Peq P P') (hc : c < 5) (hx : x = y) : Peq (wr P (3 + c) i x) (wr P' (3 + c) i y) := by
  obtain ⟨h1, h2, h3⟩ := h
  have n8 : (8 : Nat) ≠ 3 + c := by omega
  have n0 : (0 : Nat) ≠ 3 + c := by omega
  have n1 : (1 : Nat) ≠ 3 + c := by omega
  have n2 : (2 : Nat) ≠ 3 + c := by omega
  refine ⟨by rw [wr_c n8, wr_c n8]; exact h1, fun j hj => by rw [wr_c n0, wr_c n0, wr_c n1, wr_c n1, wr_c n2, wr_c n2]; exact h2 j hj, fun a b ha hb => ?_⟩
  by_cases q : a = c
  · subst q
    rw [wr_k, wr_k]
    exact updE (h3 a b ha hb) hx
  · rw [wr_c (by omega), wr_c (by omega)]
    exact h3 a b ha hb
theorem lifeF_w {σ : Mm} {w w' : Nat → Int32} {v : Nat} (h : w v = w' v) : lifeF σ w v = lifeF σ w' v := by
  have e : nmO (σ 4) w (σ 8) (σ 9) v 0 = nmO (σ 4) w' (σ 8) (σ 9) v 0 := by
    funext i
    unfold nmO
    rw [h]
  unfold lifeF
  rw [e]
theorem br_peq {σ P P' : Mm} (hI : Inv σ) {l : Nat} (hl : (l : Int) < (σ 10 0).toInt) (h : Peq P P') : Peq (brF σ P l).1 (brF σ P' l).1 ∧ (brF σ P l).2 = (brF σ P' l).2 := by
  obtain ⟨⟨k1, k2, k3, k4, k5⟩, ⟨w1, w2⟩, ws, wo, wl, wb⟩ := lineF hI hl
  unfold brF
  have hv : (σ 12 l).toInt.toNat < 30 := by omega
  generalize (σ 12 l).toInt.toNat = v at *
  obtain ⟨e0, e1, e2⟩ := h.2.1 v hv
  have el : lifeF σ (P 1) v = lifeF σ (P' 1) v := lifeF_w e1
  by_cases q0 : (σ 11 l).toInt = 0
  · rw [bk_0 q0, bk_0 q0]
    exact ⟨Peq.w2 (Peq.w1 (Peq.w0 h rfl) rfl) rfl, rfl⟩
  by_cases d0 : (P 0 v).toInt = 0
  · rw [bk_d q0 d0, bk_d q0 (by rw [← e0]; exact d0)]
    exact ⟨h, rfl⟩
  have d0' : ¬ (P' 0 v).toInt = 0 := by rw [← e0]; exact d0
  by_cases q1 : ((σ 11 l).toInt = 1 ∨ (σ 11 l).toInt = 3) ∧ ((P 1 v).toInt < (σ 16 l).toInt ∨ (lifeF σ (P 1) v).toInt < (σ 13 l - P 2 v).toInt)
  · rw [bk_n q1.1 d0 q1.2, bk_n q1.1 d0' (by rw [← e1, ← e2, ← el]; exact q1.2)]
    exact ⟨h, rfl⟩
  by_cases qk : (σ 11 l).toInt = 1
  · have hn : ¬ ((P 1 v).toInt < (σ 16 l).toInt ∨ (lifeF σ (P 1) v).toInt < (σ 13 l - P 2 v).toInt) := fun z => q1 ⟨Or.inl qk, z⟩
    rw [bk_1 qk d0 hn, bk_1 qk d0' (by rw [← e1, ← e2, ← el]; exact hn)]
    have hF := (ws (Or.inl qk)).2.1
    have h1 := Peq.w1 (i := v) (x := P 1 v - σ 16 l) h (congrArg (· - σ 16 l) e1)
    refine ⟨Peq.ws h1 (by omega) ?_, rfl⟩
    rw [h1.2.2 _ _ (by omega) (by omega)]
  by_cases qk2 : (σ 11 l).toInt = 2
  · by_cases z : (σ 4 v).toInt = 1 ∧ (P 1 v + σ 16 l).toInt ≤ 100000
    · rw [bk_2 qk2 d0 z, bk_2 qk2 d0' (by rw [← e1]; exact z)]
      exact ⟨Peq.w2 (Peq.w1 h (by rw [e1])) rfl, rfl⟩
    · rw [bk_2n qk2 d0 z, bk_2n qk2 d0' (by rw [← e1]; exact z)]
      exact ⟨h, rfl⟩
  by_cases qk3 : (σ 11 l).toInt = 3
  · have hn : ¬ ((P 1 v).toInt < (σ 16 l).toInt ∨ (lifeF σ (P 1) v).toInt < (σ 13 l - P 2 v).toInt) := fun z => q1 ⟨Or.inr qk3, z⟩
    have ho := (wo qk3).1
    obtain ⟨o0, o1, o2⟩ := h.2.1 (σ 17 l).toInt.toNat (by omega)
    by_cases z : takP σ P v (σ 17 l).toInt.toNat (σ 16 l)
    · rw [bk_3 qk3 d0 hn z, bk_3 qk3 d0' (by rw [← e1, ← e2, ← el]; exact hn) (by unfold takP; rw [← o0, ← o1]; exact z)]
      exact ⟨Peq.w1 (Peq.w1 h (by rw [e1])) (by rw [o1]), rfl⟩
    · rw [bk_3n qk3 d0 hn z, bk_3n qk3 d0' (by rw [← e1, ← e2, ← el]; exact hn) (by unfold takP; rw [← o0, ← o1]; exact z)]
      exact ⟨h, rfl⟩
  by_cases qk4 : (σ 11 l).toInt = 4
  · by_cases z : (P 1 v + σ 16 l).toInt ≤ 100000
    · rw [bk_4 qk4 d0 z, bk_4 qk4 d0' (by rw [← e1]; exact z)]
      have hF := (ws (Or.inr qk4)).2.1
      have h1 := Peq.w1 (i := v) (x := P 1 v + σ 16 l) h (congrArg (· + σ 16 l) e1)
      refine ⟨Peq.ws h1 (by omega) ?_, rfl⟩
      rw [h1.2.2 _ _ (by omega) (by omega)]
    · rw [bk_4n qk4 d0 z, bk_4n qk4 d0' (by rw [← e1]; exact z)]
      exact ⟨h, rfl⟩
  have qk5 : (σ 11 l).toInt = 5 := by omega
  rcases wl qk5 with ho | ho
  · rw [bk_5n qk5 d0 (fun z => by omega), bk_5n qk5 d0' (fun z => by omega)]
    exact ⟨Peq.w1 (Peq.w0 h rfl) rfl, rfl⟩
  · have ho := ho.1
    obtain ⟨o0, o1, o2⟩ := h.2.1 (σ 17 l).toInt.toNat (by omega)
    by_cases z : 0 ≤ (σ 17 l).toInt ∧ takP σ P v (σ 17 l).toInt.toNat (P 1 v)
    · rw [bk_5 qk5 d0 z, bk_5 qk5 d0' (by unfold takP; rw [← o0, ← o1, ← e1]; exact z)]
      exact ⟨Peq.w1 (Peq.w1 (Peq.w0 h rfl) (by rw [o1, e1])) rfl, rfl⟩
    · rw [bk_5n qk5 d0 z, bk_5n qk5 d0' (by unfold takP; rw [← o0, ← o1, ← e1]; exact z)]
      exact ⟨Peq.w1 (Peq.w0 h rfl) rfl, rfl⟩
def stP (σ P : Mm) (l : Nat) : Mm := if (brF σ P l).2.toInt = 0 then wr (brF σ P l).1 8 0 ((brF σ P l).1 8 0 + 1) else (brF σ P l).1
theorem stP_z {σ P P' : Mm} (hI : Inv σ) {l : Nat} (hl : (l : Int) < (σ 10 0).toInt) (h : Peq P P') (hz : (brF σ P l).2.toInt = 0) : Peq (wr (brF σ P l).1 8 0 ((brF σ P l).1 8 0 + 1)) (stP σ P' l) := by
  obtain ⟨h1, h2⟩ := br_peq hI hl h
  unfold stP
  rw [if_pos (by rw [← h2]; exact hz)]
  exact Peq.w8 h1 (by rw [h1.1])
theorem stP_n {σ P P' : Mm} (hI : Inv σ) {l : Nat} (hl : (l : Int) < (σ 10 0).toInt) (h : Peq P P') (hz : ¬ (brF σ P l).2.toInt = 0) : Peq (brF σ P l).1 (stP σ P' l) := by
  obtain ⟨h1, h2⟩ := br_peq hI hl h
  unfold stP
  rw [if_neg (by rw [← h2]; exact hz)]
  exact h1
/-- lines of an array, one behind the other -/
def plA (σ : Mm) (g : Nat → Int32) (ok : Nat → Bool) : Nat → Mm
  | 0 => Zm
  | i + 1 => if ok (g i).toInt.toNat = true then stP σ (plA σ g ok i) (g i).toInt.toNat else plA σ g ok i
abbrev okP (σ : Mm) (day known : Int32) (l : Nat) : Prop := (σ 13 l).toInt ≤ day.toInt ∧ (σ 14 l).toInt ≤ known.toInt ∧ ((σ 15 l).toInt = -1000000005 ∨ known.toInt < (σ 15 l).toInt)
def okB (σ : Mm) (day known : Int32) (l : Nat) : Bool := decide (okP σ day known l)
/-- the cells that a play reads are the same -/
def StA (σ τ : Mm) : Prop := τ 2 = σ 2 ∧ τ 4 = σ 4 ∧ τ 5 = σ 5 ∧ τ 6 = σ 6 ∧ τ 8 = σ 8 ∧ τ 9 = σ 9 ∧ τ 11 = σ 11 ∧ τ 12 = σ 12 ∧ τ 13 = σ 13 ∧ τ 16 = σ 16 ∧ τ 17 = σ 17 ∧ τ 20 = σ 20 ∧ τ 22 = σ 22 ∧ τ 23 = σ 23 ∧ τ 24 = σ 24 ∧ τ 26 = σ 26 ∧ τ 27 = σ 27 ∧ τ 28 = σ 28
theorem StA_ag {L : List Nat} {σ τ : Mm} (h : Ag L σ τ) (hL : ([2, 4, 5, 6, 8, 9, 11, 12, 13, 16, 17, 20, 22, 23, 24, 26, 27, 28] : List Nat).all (fun k => !cu L k) = true) : StA σ τ := by
  have q : ∀ k, ([2, 4, 5, 6, 8, 9, 11, 12, 13, 16, 17, 20, 22, 23, 24, 26, 27, 28] : List Nat).contains k = true → τ k = σ k := fun k hk => h k (by
    have := List.all_eq_true.mp hL k (List.contains_iff_mem.mp hk)
    simpa using this)
  exact ⟨q 2 rfl, q 4 rfl, q 5 rfl, q 6 rfl, q 8 rfl, q 9 rfl, q 11 rfl, q 12 rfl, q 13 rfl, q 16 rfl, q 17 rfl, q 20 rfl, q 22 rfl, q 23 rfl, q 24 rfl, q 26 rfl, q 27 rfl, q 28 rfl⟩
theorem br_sta {σ τ P : Mm} {l : Nat} (h : StA σ τ) (hl : (σ 5 (σ 12 l).toInt.toNat).toInt ≤ 2) : brF τ P l = brF σ P l := by
  obtain ⟨e2, e4, e5, e6, e8, e9, e11, e12, e13, e16, e17, e20, e22, e23, e24, e26, e27, e28⟩ := h
  have el : lifeF τ (P 1) (σ 12 l).toInt.toNat = lifeF σ (P 1) (σ 12 l).toInt.toNat := lifeF_cong e4 e5 e8 e9 e20 e22 e23 e24 e26 e27 e28 hl
  unfold brF brK selP takP
  rw [e12, e17, e11, e16, el, e9, e13, e2, e6, e4]
def LsP : List Nat := [29, 34, 35, 36, 37, 39, 40, 41, 42, 43, 44]
theorem Inv_P {σ τ : Mm} (hI : Inv σ) (h : Ag LsP σ τ) : Inv τ := ⟨(I_tr_fr (σ := σ) (h 2 rfl) (h 89 rfl) (congrFun (h 1 rfl) 0) (congrFun (h 1 rfl) 1) (congrFun (h 1 rfl) 2) (congrFun (h 88 rfl) 0) (congrFun (h 88 rfl) 1) (congrFun (h 88 rfl) 2) hI.1),
  (I_vo_fr (σ := σ) (h 4 rfl) (h 5 rfl) (h 6 rfl) (h 7 rfl) (h 8 rfl) (h 9 rfl) (h 90 rfl) (h 91 rfl) (h 92 rfl) (h 93 rfl) (h 94 rfl) (h 95 rfl) (congrFun (h 3 rfl) 0) (congrFun (h 88 rfl) 4) (congrFun (h 1 rfl) 1) hI.2.1),
  (I_li_fr (σ := σ) (h 9 rfl) (h 11 rfl) (h 12 rfl) (h 13 rfl) (h 14 rfl) (h 15 rfl) (h 16 rfl) (h 17 rfl) (h 96 rfl) (h 97 rfl) (h 98 rfl) (h 99 rfl) (h 100 rfl) (h 101 rfl) (h 102 rfl) (congrFun (h 10 rfl) 0) (congrFun (h 10 rfl) 1) (congrFun (h 88 rfl) 11) (congrFun (h 1 rfl) 0) (congrFun (h 1 rfl) 2) (congrFun (h 3 rfl) 0) hI.2.2.1),
  (I_or_fr (σ := σ) (h 13 rfl) (h 18 rfl) (congrFun (h 10 rfl) 0) hI.2.2.2.1),
  (I_ta_fr (σ := σ) (h 30 rfl) (h 118 rfl) (congrFun (h 0 rfl) 5) (congrFun (h 88 rfl) 36) hI.2.2.2.2.1),
  (I_ba_fr (σ := σ) (h 46 rfl) (h 47 rfl) (h 48 rfl) (h 49 rfl) (h 50 rfl) (h 120 rfl) (h 121 rfl) (h 122 rfl) (h 123 rfl) (h 124 rfl) (h 52 rfl) (h 53 rfl) (h 54 rfl) (h 55 rfl) (h 56 rfl) (h 57 rfl) (h 125 rfl) (congrFun (h 45 rfl) 0) (congrFun (h 45 rfl) 3) (congrFun (h 88 rfl) 48) (congrFun (h 88 rfl) 51) hI.2.2.2.2.2.1),
  (I_ex_fr (σ := σ) (h 73 rfl) (h 74 rfl) (h 75 rfl) (h 76 rfl) (h 77 rfl) (h 131 rfl) (h 132 rfl) (h 133 rfl) (h 134 rfl) (congrFun (h 71 rfl) 0) (congrFun (h 88 rfl) 65) hI.2.2.2.2.2.2.1),
  (I_gu_fr (σ := σ) (h 79 rfl) (h 80 rfl) (h 81 rfl) (h 136 rfl) (h 137 rfl) (h 138 rfl) (congrFun (h 78 rfl) 0) (congrFun (h 78 rfl) 1) (congrFun (h 88 rfl) 71) (congrFun (h 88 rfl) 72) hI.2.2.2.2.2.2.2.1),
  (I_sh_fr (σ := σ) (h 83 rfl) (h 85 rfl) (h 86 rfl) (h 103 rfl) (h 104 rfl) hI.2.2.2.2.2.2.2.2.1),
  (I_wa_fr (σ := σ) (h 87 rfl) (h 130 rfl) (congrFun (h 0 rfl) 14) (congrFun (h 88 rfl) 64) hI.2.2.2.2.2.2.2.2.2.1),
  (I_la_fr (σ := σ) (h 20 rfl) (h 22 rfl) (h 23 rfl) (h 24 rfl) (h 26 rfl) (h 27 rfl) (h 28 rfl) (h 110 rfl) (h 111 rfl) (h 112 rfl) (h 113 rfl) hI.2.2.2.2.2.2.2.2.2.2.1),
  (I_he_fr (σ := σ) (h 119 rfl) hI.2.2.2.2.2.2.2.2.2.2.2)⟩
def LsG : List Nat := [88, 105, 106, 107, 108, 109, 117]
theorem Inv_G {σ τ : Mm} (hI : Inv σ) (h : Ag LsG σ τ) (h88 : ∀ j, j ≠ 26 → τ 88 j = σ 88 j) : Inv τ := ⟨(I_tr_fr (σ := σ) (h 2 rfl) (h 89 rfl) (congrFun (h 1 rfl) 0) (congrFun (h 1 rfl) 1) (congrFun (h 1 rfl) 2) (h88 0 (by decide)) (h88 1 (by decide)) (h88 2 (by decide)) hI.1),
  (I_vo_fr (σ := σ) (h 4 rfl) (h 5 rfl) (h 6 rfl) (h 7 rfl) (h 8 rfl) (h 9 rfl) (h 90 rfl) (h 91 rfl) (h 92 rfl) (h 93 rfl) (h 94 rfl) (h 95 rfl) (congrFun (h 3 rfl) 0) (h88 4 (by decide)) (congrFun (h 1 rfl) 1) hI.2.1),
  (I_li_fr (σ := σ) (h 9 rfl) (h 11 rfl) (h 12 rfl) (h 13 rfl) (h 14 rfl) (h 15 rfl) (h 16 rfl) (h 17 rfl) (h 96 rfl) (h 97 rfl) (h 98 rfl) (h 99 rfl) (h 100 rfl) (h 101 rfl) (h 102 rfl) (congrFun (h 10 rfl) 0) (congrFun (h 10 rfl) 1) (h88 11 (by decide)) (congrFun (h 1 rfl) 0) (congrFun (h 1 rfl) 2) (congrFun (h 3 rfl) 0) hI.2.2.1),
  (I_or_fr (σ := σ) (h 13 rfl) (h 18 rfl) (congrFun (h 10 rfl) 0) hI.2.2.2.1),
  (I_ta_fr (σ := σ) (h 30 rfl) (h 118 rfl) (congrFun (h 0 rfl) 5) (h88 36 (by decide)) hI.2.2.2.2.1),
  (I_ba_fr (σ := σ) (h 46 rfl) (h 47 rfl) (h 48 rfl) (h 49 rfl) (h 50 rfl) (h 120 rfl) (h 121 rfl) (h 122 rfl) (h 123 rfl) (h 124 rfl) (h 52 rfl) (h 53 rfl) (h 54 rfl) (h 55 rfl) (h 56 rfl) (h 57 rfl) (h 125 rfl) (congrFun (h 45 rfl) 0) (congrFun (h 45 rfl) 3) (h88 48 (by decide)) (h88 51 (by decide)) hI.2.2.2.2.2.1),
  (I_ex_fr (σ := σ) (h 73 rfl) (h 74 rfl) (h 75 rfl) (h 76 rfl) (h 77 rfl) (h 131 rfl) (h 132 rfl) (h 133 rfl) (h 134 rfl) (congrFun (h 71 rfl) 0) (h88 65 (by decide)) hI.2.2.2.2.2.2.1),
  (I_gu_fr (σ := σ) (h 79 rfl) (h 80 rfl) (h 81 rfl) (h 136 rfl) (h 137 rfl) (h 138 rfl) (congrFun (h 78 rfl) 0) (congrFun (h 78 rfl) 1) (h88 71 (by decide)) (h88 72 (by decide)) hI.2.2.2.2.2.2.2.1),
  (I_sh_fr (σ := σ) (h 83 rfl) (h 85 rfl) (h 86 rfl) (h 103 rfl) (h 104 rfl) hI.2.2.2.2.2.2.2.2.1),
  (I_wa_fr (σ := σ) (h 87 rfl) (h 130 rfl) (congrFun (h 0 rfl) 14) (h88 64 (by decide)) hI.2.2.2.2.2.2.2.2.2.1),
  (I_la_fr (σ := σ) (h 20 rfl) (h 22 rfl) (h 23 rfl) (h 24 rfl) (h 26 rfl) (h 27 rfl) (h 28 rfl) (h 110 rfl) (h 111 rfl) (h 112 rfl) (h 113 rfl) hI.2.2.2.2.2.2.2.2.2.2.1),
  (I_he_fr (σ := σ) (h 119 rfl) hI.2.2.2.2.2.2.2.2.2.2.2)⟩
theorem rdN_row {scr : Sc} {a n t : Nat} (h : shN t a = some n) : rdN scr a = some n := by
  obtain ⟨b, hs⟩ := shN_of h
  simp [rdN, hs]
theorem s_fill {d : Nat} {σ : Mm} {Q : Qt} {a n : Nat} {x : Int32} (hs : shN 0 a = some n) (hn : n < 1000) (hQ : ∀ g, (∀ i, i < n → g i = x) → Q none (up σ a g)) : Call (d + 1) k_J7_fill_53178 [.ref a, .int x] σ Q := by
  refine Call_go fun X hX => ?_
  have loop : ∀ (k i : Nat) (g : Nat → Int32), i + k = n → (∀ j, j < i → g j = x) → X 5 [.ref a, .int x, .int (nI i), .int (nI n)] [] (up σ a g) := by
    intro k
    induction k with
    | zero =>
      intro i g hi hg
      rw [Nat.add_zero] at hi
      subst hi
      refine go [5] 100 hX ?_
      refine ⟨fun c7 => absurd c7 (Int.lt_irrefl _), fun c7 => ?_⟩
      refine ⟨rfl, rfl, hQ g hg⟩
    | succ k ih =>
      intro i g hi hg
      have e1 := nIt (n := i) (by omega)
      have e2 := nIt (n := n) (by omega)
      have e3 := nIn (i := i) (by omega)
      refine go [5] 100 hX ?_
      refine ⟨fun c7 => ?_, fun c7 => absurd (by omega) c7⟩
      refine ⟨_, hs, ⟨by omega, by omega⟩, ?_⟩
      have ih1 := ih (i + 1) (upd g i x) (by omega) (fun j hj => by
        unfold upd
        split
        · rfl
        · exact hg j (by omega))
      have em : wr (up σ a g) a (nI i).toInt.toNat x = up σ a (upd g i x) := by rw [wr, up_up, up_k, e3]
      rw [← em, ← nI_1] at ih1
      exact ih1
  refine go [5] 20 hX ?_
  refine ⟨_, rdN_row hs, ?_⟩
  have := loop n 0 (σ a) (Nat.zero_add _) (fun j hj => by omega)
  rw [up_id] at this
  exact this
/-- the standing that the class's cells hold -/
def PV (τ : Mm) : Mm := fun k => if k = 0 then τ 35 else if k = 1 then τ 36 else if k = 2 then τ 37 else if k = 8 then (fun _ => τ 34 4) else τ (36 + k)
theorem PV_s {τ : Mm} {a : Nat} (h : a < 5) : PV τ (3 + a) = τ (39 + a) := by
  unfold PV
  rw [if_neg (by omega), if_neg (by omega), if_neg (by omega), if_neg (by omega)]
  congr 1
  omega
theorem Vw_PV {τ : Mm} : Vw τ (PV τ) := ⟨rfl, rfl, rfl, rfl, rfl, rfl, rfl, rfl, rfl⟩
theorem agR {σ τ : Mm} {F : Nat} {g : Nat → Int32} (h : Ag LsP σ τ) (hF : (nI F).toInt.toNat < 5) : Ag LsP σ (up τ (39 + (nI F).toInt.toNat) g) := by
  generalize (nI F).toInt.toNat = F at *
  rcases (show F = 0 ∨ F = 1 ∨ F = 2 ∨ F = 3 ∨ F = 4 by omega) with rfl | rfl | rfl | rfl | rfl <;> exact Ag.up h rfl
theorem s_forget {d : Nat} {σ : Mm} {Q : Qt} (hQ : ∀ τ, Ag LsP σ τ → Peq (PV τ) Zm → Q none τ) : Call (d + 2) k_X8_forget [.ref 34] σ Q := by
  refine Call_go fun X hX => ?_
  have loop2 : ∀ (k i : Nat) (τ : Mm), i + k = 5 → Ag LsP σ τ → τ 34 4 = 0 → (∀ j, j < 30 → τ 35 j = 0 ∧ τ 36 j = 0 ∧ τ 37 j = 0) → (∀ a b, a < i → b < 5 → τ (39 + a) b = 0) → X 42 [.ref 34, .int (nI i)] [] τ := by
    intro k
    induction k with
    | zero =>
      intro i τ hi hA h4 hz hs
      have e1 := nIt (n := i) (by omega)
      have e2 := nIn (i := i) (by omega)
      refine go [42] 100 hX ?_
      refine ⟨fun c44 => ?_, fun c44 => ?_⟩
      · refine ⟨_, _, rfl, (by exfalso; simp only [Int32.reduceToInt] at c44; omega), ?_⟩
        exfalso; simp only [Int32.reduceToInt] at c44; omega
      · refine ⟨rfl, rfl, ?_⟩
        refine hQ τ hA ⟨h4, fun j hj => hz j hj, fun a b ha hb => ?_⟩
        rw [PV_s ha]
        exact hs a b (by omega) hb
    | succ k ih =>
      intro i τ hi hA h4 hz hs
      have e1 := nIt (n := i) (by omega)
      have e2 := nIn (i := i) (by omega)
      refine go [42] 100 hX ?_
      refine ⟨fun c44 => ?_, fun c44 => ?_⟩
      · refine ⟨_, _, rfl, ⟨by omega, by omega⟩, ?_⟩
        refine ⟨rfl, ?_⟩
        refine s_fill (rw39 (by omega)) (by decide) (fun h54a h54b => ?_)
        have ih1 := ih (i + 1) (up τ (39 + (nI i).toInt.toNat) h54a) (by omega) (agR hA (by omega)) (by rw [e2]; rw [up_c (by omega)]; exact h4) (fun j hj => by rw [e2, up_c (by omega), up_c (by omega), up_c (by omega)]; exact hz j hj) (fun a b ha hb => by
          rw [e2]
          by_cases q : a = i
          · rw [q, up_k]; exact h54b b hb
          · rw [up_c (by omega)]; exact hs a b (by omega) hb)
        rw [← nI_1] at ih1
        exact ih1
      · refine ⟨rfl, rfl, ?_⟩
        exfalso; simp only [Int32.reduceToInt] at c44; omega
  have loop : ∀ (k i : Nat) (τ : Mm), i + k = 30 → Ag LsP σ τ → τ 34 4 = 0 → (∀ j, j < i → τ 35 j = 0 ∧ τ 36 j = 0 ∧ τ 37 j = 0) → X 7 [.ref 34, .int (nI i)] [] τ := by
    intro k
    induction k with
    | zero =>
      intro i τ hi hA h4 hz
      have e1 := nIt (n := i) (by omega)
      refine go [7, 42] 100 hX ?_
      refine ⟨fun c10 => ?_, fun c10 => ?_⟩
      · refine ⟨(by exfalso; simp only [Int32.reduceToInt] at c10; omega), Or.inl rfl, ?_⟩
        refine ⟨_, rfl, (by exfalso; simp only [Int32.reduceToInt] at c10; omega), ?_⟩
        refine ⟨_, rfl, (by exfalso; simp only [Int32.reduceToInt] at c10; omega), ?_⟩
        exfalso; simp only [Int32.reduceToInt] at c10; omega
      · exact loop2 5 0 τ rfl hA h4 (fun j hj => hz j (by omega)) (fun a b ha hb => by omega)
    | succ k ih =>
      intro i τ hi hA h4 hz
      have e1 := nIt (n := i) (by omega)
      have e2 := nIn (i := i) (by omega)
      refine go [7, 42] 100 hX ?_
      refine ⟨fun c10 => ?_, fun c10 => ?_⟩
      · refine ⟨⟨by omega, by omega⟩, Or.inl rfl, ?_⟩
        refine ⟨_, rfl, ⟨by omega, by omega⟩, ?_⟩
        refine ⟨_, rfl, ⟨by omega, by omega⟩, ?_⟩
        have z : ∀ j, j < i + 1 → wr (wr (wr τ 35 (nI i).toInt.toNat 0) 36 (nI i).toInt.toNat 0) 37 (nI i).toInt.toNat 0 35 j = 0 ∧ wr (wr (wr τ 35 (nI i).toInt.toNat 0) 36 (nI i).toInt.toNat 0) 37 (nI i).toInt.toNat 0 36 j = 0 ∧ wr (wr (wr τ 35 (nI i).toInt.toNat 0) 36 (nI i).toInt.toNat 0) 37 (nI i).toInt.toNat 0 37 j = 0 := fun j hj => by
          rw [e2]
          by_cases q : j = i
          · subst q
            exact ⟨pk_us (f := τ 35), pk_us (f := τ 36), pk_us (f := τ 37)⟩
          · exact ⟨(pk_un (f := τ 35) q).trans (hz j (by omega)).1, (pk_un (f := τ 36) q).trans (hz j (by omega)).2.1, (pk_un (f := τ 37) q).trans (hz j (by omega)).2.2⟩
        have ih1 := ih (i + 1) (wr (wr (wr τ 35 (nI i).toInt.toNat 0) 36 (nI i).toInt.toNat 0) 37 (nI i).toInt.toNat 0) (by omega) (Ag.wr (Ag.wr (Ag.wr hA rfl) rfl) rfl) h4 z
        rw [← nI_1] at ih1
        exact ih1
      · exfalso; simp only [Int32.reduceToInt] at c10; omega
  refine go [7] 20 hX ?_
  exact loop 30 0 (wr σ 34 4 0) rfl (Ag.wr Ag.rf rfl) rfl (fun j hj => by omega)
