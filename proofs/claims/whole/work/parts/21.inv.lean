/-- how many of the first n are no longer -/
def cntG (f : Nat → Int32) : Nat → Nat
  | 0 => 0
  | n + 1 => cntG f n + (if (f n).toInt < 0 then 0 else 1)
/-- x is put into a row g of p, behind all that aren't about later days -/
def insL (ab : Nat → Int32) (x : Int32) : (Nat → Int32) → Nat → (Nat → Int32)
  | g, 0 => upd g 0 x
  | g, p + 1 => if (ab x.toInt.toNat).toInt < (ab (g p).toInt.toNat).toInt then insL ab x (upd g (p + 1) (g p)) p else upd g (p + 1) x
/-- the lines in order -/
def ordA (ab : Nat → Int32) : Nat → (Nat → Int32)
  | 0 => fun _ => 0
  | n + 1 => insL ab (nI n) (ordA ab n) n
/-- joining: the reference's row of 36, the class's six rows -/
def joinR (r0 r1 r2 r3 r4 r5 : Nat → Int32) (a : Nat) : Nat → Int32 := bif Nat.ble 3 a then (bif Nat.ble 5 a then r5 else (bif Nat.ble 4 a then r4 else r3)) else (bif Nat.ble 2 a then r2 else (bif Nat.ble 1 a then r1 else r0))
def joinI (j r0 r1 r2 r3 r4 r5 : Nat → Int32) : Prop := ∀ a b : Nat, a < 6 → b < 6 → j (6 * a + b) = joinR r0 r1 r2 r3 r4 r5 a b ∧ joinR r0 r1 r2 r3 r4 r5 a b = joinR r0 r1 r2 r3 r4 r5 b a ∧ ((joinR r0 r1 r2 r3 r4 r5 a b).toInt = 0 ∨ (joinR r0 r1 r2 r3 r4 r5 a b).toInt = 1) ∧ (joinR r0 r1 r2 r3 r4 r5 a a).toInt = 0
/-- a step of a law: the class's code, the reference's how and value -/
def stepI (c h v : Int32) : Prop := (0 ≤ c.toInt ∧ c.toInt ≤ 9999 ∧ h = 1 ∧ v = c) ∨ (c = -1 ∧ h = 2 ∧ v = 107) ∨ (c = -2 ∧ h = 2 ∧ v = 119) ∨ (c = -3 ∧ h = 2 ∧ v = 116) ∨ (c = -4 ∧ h = 2 ∧ v = 97) ∨ (c = -5 ∧ h = 2 ∧ v = 98) ∨
  (c = -6 ∧ h = 124) ∨ (c = -7 ∧ h = 38) ∨ (c = -8 ∧ h = 60) ∨ (c = -9 ∧ h = 61) ∨ (c = -10 ∧ h = 62) ∨ (c = -11 ∧ h = 43) ∨ (c = -12 ∧ h = 45) ∨ (c = -13 ∧ h = 42) ∨ (c = -14 ∧ h = 47) ∨ (c = -15 ∧ h = 33)
/-- how many values a row of steps leaves, from so many on; none: it falls short -/
def depth (c : Nat → Int32) (s : Nat) : Nat → Nat → Option Nat
  | 0, d => some d
  | n + 1, d => match depth c s n d with
    | none => none
    | some k => if -5 ≤ (c (s + n)).toInt then some (k + 1) else (if (c (s + n)).toInt = -15 then (if 1 ≤ k then some k else none) else (if 2 ≤ k then some (k - 1) else none))
def lawI (given code starts many how val : Nat → Int32) (l : Nat) : Prop := ((given l).toInt = 0 ∨ (given l).toInt = 1) ∧ ((given l).toInt = 1 → ∀ k : Nat, k < 3 → (0 ≤ (starts k).toInt ∧ (starts k).toInt ≤ (starts (k + 1)).toInt ∧ (starts (k + 1)).toInt ≤ 96) ∧ (many (3 * l + k)).toInt = (starts (k + 1)).toInt - (starts k).toInt ∧
  (∀ i : Nat, (i : Int) < (many (3 * l + k)).toInt → stepI (code ((starts k).toInt.toNat + i)) (how (100 * (3 * l + k) + i)) (val (100 * (3 * l + k) + i))) ∧ depth code (starts k).toInt.toNat (many (3 * l + k)).toInt.toNat 0 = some 1)
/-- the heads of a law's parts -/
def headB (i : Nat) : Int32 := ([101, 110, 100, 0, 0, 0, 99, 104, 97, 110, 103, 101, 103, 97, 105, 110, 0, 0] : List Int32).getD i 0
def I_tr (σ : Mm) : Prop := (σ 88 0 = σ 1 0 ∧ σ 88 1 = σ 1 1 ∧ σ 88 2 = σ 1 2 ∧ σ 89 = σ 2) ∧ (0 ≤ (σ 1 0).toInt ∧ (σ 1 0).toInt ≤ 900) ∧ (0 ≤ (σ 1 1).toInt ∧ (σ 1 1).toInt ≤ 5) ∧ (0 ≤ (σ 1 2).toInt ∧ (σ 1 2).toInt ≤ 10) ∧ ∀ i : Nat, (i : Int) < (σ 1 2).toInt → 0 ≤ (σ 2 i).toInt ∧ (σ 2 i).toInt < (σ 1 1).toInt
theorem I_tr_fr {σ σ' : Mm} (e2 : σ' 2 = σ 2) (e89 : σ' 89 = σ 89) (p1_0 : σ' 1 0 = σ 1 0) (p1_1 : σ' 1 1 = σ 1 1) (p1_2 : σ' 1 2 = σ 1 2) (p88_0 : σ' 88 0 = σ 88 0) (p88_1 : σ' 88 1 = σ 88 1) (p88_2 : σ' 88 2 = σ 88 2) (h : I_tr σ) : I_tr σ' := by
  unfold I_tr at *
  simp only [e2, e89, p1_0, p1_1, p1_2, p88_0, p88_1, p88_2]
  exact h
def I_vo (σ : Mm) : Prop := (σ 88 4 = σ 3 0 ∧ σ 90 = σ 4 ∧ σ 91 = σ 5 ∧ σ 92 = σ 6 ∧ σ 93 = σ 7 ∧ σ 94 = σ 8 ∧ σ 95 = σ 9) ∧ (0 ≤ (σ 3 0).toInt ∧ (σ 3 0).toInt ≤ 30) ∧ ∀ i : Nat, (i : Int) < (σ 3 0).toInt → (0 ≤ (σ 4 i).toInt ∧ (σ 4 i).toInt ≤ 3) ∧ (0 ≤ (σ 5 i).toInt ∧ (σ 5 i).toInt ≤ 2) ∧ (0 ≤ (σ 6 i).toInt ∧ (σ 6 i).toInt < (σ 1 1).toInt) ∧ (0 ≤ (σ 7 i).toInt ∧ (σ 7 i).toInt ≤ 9999) ∧ (1 ≤ (σ 8 i).toInt ∧ (σ 8 i).toInt ≤ 900) ∧ (0 ≤ (σ 9 i).toInt ∧ (σ 9 i).toInt ≤ 100000)
theorem I_vo_fr {σ σ' : Mm} (e4 : σ' 4 = σ 4) (e5 : σ' 5 = σ 5) (e6 : σ' 6 = σ 6) (e7 : σ' 7 = σ 7) (e8 : σ' 8 = σ 8) (e9 : σ' 9 = σ 9) (e90 : σ' 90 = σ 90) (e91 : σ' 91 = σ 91) (e92 : σ' 92 = σ 92) (e93 : σ' 93 = σ 93) (e94 : σ' 94 = σ 94) (e95 : σ' 95 = σ 95) (p3_0 : σ' 3 0 = σ 3 0) (p88_4 : σ' 88 4 = σ 88 4) (p1_1 : σ' 1 1 = σ 1 1) (h : I_vo σ) : I_vo σ' := by
  unfold I_vo at *
  simp only [e4, e5, e6, e7, e8, e9, e90, e91, e92, e93, e94, e95, p3_0, p88_4, p1_1]
  exact h
def I_li (σ : Mm) : Prop := (σ 88 11 = σ 10 0 ∧ σ 96 = σ 11 ∧ σ 97 = σ 12 ∧ σ 98 = σ 13 ∧ σ 99 = σ 14 ∧ σ 101 = σ 16) ∧ (0 ≤ (σ 10 0).toInt ∧ (σ 10 0).toInt ≤ 100) ∧ σ 10 1 = nI (cntG (σ 100) (σ 10 0).toInt.toNat) ∧ ∀ i : Nat, (i : Int) < (σ 10 0).toInt → (0 ≤ (σ 11 i).toInt ∧ (σ 11 i).toInt ≤ 5) ∧ (0 ≤ (σ 12 i).toInt ∧ (σ 12 i).toInt < (σ 3 0).toInt) ∧ (0 ≤ (σ 13 i).toInt ∧ (σ 13 i).toInt ≤ (σ 1 0).toInt) ∧ (0 ≤ (σ 14 i).toInt ∧ (σ 14 i).toInt ≤ (σ 1 0).toInt) ∧
  ((σ 15 i = (-1000000005) ∧ σ 100 i = -1) ∨ (σ 100 i = σ 15 i ∧ 0 ≤ (σ 15 i).toInt ∧ (σ 15 i).toInt ≤ (σ 1 0).toInt)) ∧ (0 ≤ (σ 16 i).toInt ∧ (σ 16 i).toInt ≤ 100000) ∧
  ((((σ 11 i).toInt = 0 ∨ (σ 11 i).toInt = 2 ∨ (σ 11 i).toInt = 5) ∧ σ 17 i = (-1000000005) ∧ σ 102 i = -1) ∨
   (((σ 11 i).toInt = 1 ∨ (σ 11 i).toInt = 4) ∧ σ 102 i = σ 17 i ∧ 0 ≤ (σ 17 i).toInt ∧ (σ 17 i).toInt < (σ 1 2).toInt) ∨
   (((σ 11 i).toInt = 3 ∨ (σ 11 i).toInt = 5) ∧ σ 102 i = σ 17 i ∧ 0 ≤ (σ 17 i).toInt ∧ (σ 17 i).toInt < (σ 3 0).toInt ∧ (σ 17 i).toInt ≠ (σ 12 i).toInt)) ∧
  ((σ 11 i).toInt = 0 → σ 16 i = σ 9 (σ 12 i).toInt.toNat)
theorem I_li_fr {σ σ' : Mm} (e9 : σ' 9 = σ 9) (e11 : σ' 11 = σ 11) (e12 : σ' 12 = σ 12) (e13 : σ' 13 = σ 13) (e14 : σ' 14 = σ 14) (e15 : σ' 15 = σ 15) (e16 : σ' 16 = σ 16) (e17 : σ' 17 = σ 17) (e96 : σ' 96 = σ 96) (e97 : σ' 97 = σ 97) (e98 : σ' 98 = σ 98) (e99 : σ' 99 = σ 99) (e100 : σ' 100 = σ 100) (e101 : σ' 101 = σ 101) (e102 : σ' 102 = σ 102) (p10_0 : σ' 10 0 = σ 10 0) (p10_1 : σ' 10 1 = σ 10 1) (p88_11 : σ' 88 11 = σ 88 11) (p1_0 : σ' 1 0 = σ 1 0) (p1_2 : σ' 1 2 = σ 1 2) (p3_0 : σ' 3 0 = σ 3 0) (h : I_li σ) : I_li σ' := by
  unfold I_li at *
  simp only [e9, e11, e12, e13, e14, e15, e16, e17, e96, e97, e98, e99, e100, e101, e102, p10_0, p10_1, p88_11, p1_0, p1_2, p3_0]
  exact h
def I_or (σ : Mm) : Prop := σ 18 = ordA (σ 13) (σ 10 0).toInt.toNat
theorem I_or_fr {σ σ' : Mm} (e13 : σ' 13 = σ 13) (e18 : σ' 18 = σ 18) (p10_0 : σ' 10 0 = σ 10 0) (h : I_or σ) : I_or σ' := by
  unfold I_or at *
  simp only [e13, e18, p10_0]
  exact h
def I_ta (σ : Mm) : Prop := σ 88 36 = σ 0 5 ∧ (0 ≤ (σ 0 5).toInt ∧ (σ 0 5).toInt ≤ 96) ∧ ∀ i : Nat, i < 96 → σ 118 i = σ 30 i &&& 255 ∧ (-128 ≤ (σ 30 i).toInt ∧ (σ 30 i).toInt < 128)
theorem I_ta_fr {σ σ' : Mm} (e30 : σ' 30 = σ 30) (e118 : σ' 118 = σ 118) (p0_5 : σ' 0 5 = σ 0 5) (p88_36 : σ' 88 36 = σ 88 36) (h : I_ta σ) : I_ta σ' := by
  unfold I_ta at *
  simp only [e30, e118, p0_5, p88_36]
  exact h
def I_ba (σ : Mm) : Prop := (σ 88 48 = σ 45 0 ∧ σ 88 51 = σ 45 3 ∧ σ 120 = σ 46 ∧ σ 121 = σ 47 ∧ σ 122 = σ 48 ∧ σ 123 = σ 49 ∧ σ 124 = σ 50) ∧ (0 ≤ (σ 45 0).toInt ∧ (σ 45 0).toInt ≤ 8) ∧ (0 ≤ (σ 45 3).toInt ∧ (σ 45 3).toInt ≤ 6) ∧ (∀ i : Nat, (i : Int) < (σ 45 0).toInt → (1 ≤ (σ 46 i).toInt ∧ (σ 46 i).toInt ≤ 9999) ∧ (0 ≤ (σ 47 i).toInt ∧ (σ 47 i).toInt ≤ 7)) ∧ (∀ i : Nat, (i : Int) < (σ 45 3).toInt → (0 ≤ (σ 48 i).toInt ∧ (σ 48 i).toInt ≤ 3) ∧ (1 ≤ (σ 49 i).toInt ∧ (σ 49 i).toInt ≤ 99999) ∧ (0 ≤ (σ 50 i).toInt ∧ (σ 50 i).toInt ≤ 99999)) ∧ joinI (σ 125) (σ 52) (σ 53) (σ 54) (σ 55) (σ 56) (σ 57)
theorem I_ba_fr {σ σ' : Mm} (e46 : σ' 46 = σ 46) (e47 : σ' 47 = σ 47) (e48 : σ' 48 = σ 48) (e49 : σ' 49 = σ 49) (e50 : σ' 50 = σ 50) (e120 : σ' 120 = σ 120) (e121 : σ' 121 = σ 121) (e122 : σ' 122 = σ 122) (e123 : σ' 123 = σ 123) (e124 : σ' 124 = σ 124) (e52 : σ' 52 = σ 52) (e53 : σ' 53 = σ 53) (e54 : σ' 54 = σ 54) (e55 : σ' 55 = σ 55) (e56 : σ' 56 = σ 56) (e57 : σ' 57 = σ 57) (e125 : σ' 125 = σ 125) (p45_0 : σ' 45 0 = σ 45 0) (p45_3 : σ' 45 3 = σ 45 3) (p88_48 : σ' 88 48 = σ 88 48) (p88_51 : σ' 88 51 = σ 88 51) (h : I_ba σ) : I_ba σ' := by
  unfold I_ba at *
  simp only [e46, e47, e48, e49, e50, e120, e121, e122, e123, e124, e52, e53, e54, e55, e56, e57, e125, p45_0, p45_3, p88_48, p88_51]
  exact h
def I_ex (σ : Mm) : Prop := (σ 88 65 = σ 71 0 ∧ σ 131 = σ 73 ∧ σ 132 = σ 74 ∧ σ 133 = σ 75 ∧ σ 134 = σ 76) ∧ (0 ≤ (σ 71 0).toInt ∧ (σ 71 0).toInt ≤ 16) ∧ σ 77 = (fun _ => 0) ∧ ∀ i : Nat, (i : Int) < (σ 71 0).toInt → (0 ≤ (σ 73 i).toInt ∧ (σ 73 i).toInt ≤ 5) ∧ (0 ≤ (σ 74 i).toInt ∧ (σ 74 i).toInt ≤ 5) ∧ (1 ≤ (σ 75 i).toInt ∧ (σ 75 i).toInt ≤ 999) ∧ (1 ≤ (σ 76 i).toInt ∧ (σ 76 i).toInt ≤ 999)
theorem I_ex_fr {σ σ' : Mm} (e73 : σ' 73 = σ 73) (e74 : σ' 74 = σ 74) (e75 : σ' 75 = σ 75) (e76 : σ' 76 = σ 76) (e77 : σ' 77 = σ 77) (e131 : σ' 131 = σ 131) (e132 : σ' 132 = σ 132) (e133 : σ' 133 = σ 133) (e134 : σ' 134 = σ 134) (p71_0 : σ' 71 0 = σ 71 0) (p88_65 : σ' 88 65 = σ 88 65) (h : I_ex σ) : I_ex σ' := by
  unfold I_ex at *
  simp only [e73, e74, e75, e76, e77, e131, e132, e133, e134, p71_0, p88_65]
  exact h
def I_gu (σ : Mm) : Prop := (σ 88 71 = σ 78 0 ∧ σ 88 72 = σ 78 1 ∧ σ 136 = σ 79 ∧ σ 137 = σ 80 ∧ σ 138 = σ 81) ∧ (0 ≤ (σ 78 0).toInt ∧ (σ 78 0).toInt ≤ 60) ∧ (0 ≤ (σ 78 1).toInt ∧ (σ 78 1).toInt ≤ 9)
theorem I_gu_fr {σ σ' : Mm} (e79 : σ' 79 = σ 79) (e80 : σ' 80 = σ 80) (e81 : σ' 81 = σ 81) (e136 : σ' 136 = σ 136) (e137 : σ' 137 = σ 137) (e138 : σ' 138 = σ 138) (p78_0 : σ' 78 0 = σ 78 0) (p78_1 : σ' 78 1 = σ 78 1) (p88_71 : σ' 88 71 = σ 88 71) (p88_72 : σ' 88 72 = σ 88 72) (h : I_gu σ) : I_gu σ' := by
  unfold I_gu at *
  simp only [e79, e80, e81, e136, e137, e138, p78_0, p78_1, p88_71, p88_72]
  exact h
def I_sh (σ : Mm) : Prop := σ 103 = σ 83 ∧ ((-1 ≤ (σ 83 0).toInt ∧ (σ 83 0).toInt ≤ 16) ∧ (-1 ≤ (σ 83 1).toInt ∧ (σ 83 1).toInt ≤ 16)) ∧ ∀ i : Nat, i < 16 → σ 104 i = σ 85 i ∧ σ 104 (16 + i) = σ 86 i
theorem I_sh_fr {σ σ' : Mm} (e83 : σ' 83 = σ 83) (e85 : σ' 85 = σ 85) (e86 : σ' 86 = σ 86) (e103 : σ' 103 = σ 103) (e104 : σ' 104 = σ 104)  (h : I_sh σ) : I_sh σ' := by
  unfold I_sh at *
  simp only [e83, e85, e86, e103, e104]
  exact h
def I_wa (σ : Mm) : Prop := σ 88 64 = σ 0 14 ∧ σ 130 = σ 87 ∧ (0 ≤ (σ 0 14).toInt ∧ (σ 0 14).toInt ≤ 20)
theorem I_wa_fr {σ σ' : Mm} (e87 : σ' 87 = σ 87) (e130 : σ' 130 = σ 130) (p0_14 : σ' 0 14 = σ 0 14) (p88_64 : σ' 88 64 = σ 88 64) (h : I_wa σ) : I_wa σ' := by
  unfold I_wa at *
  simp only [e87, e130, p0_14, p88_64]
  exact h
def I_la (σ : Mm) : Prop := σ 110 = σ 20 ∧ lawI (σ 20) (σ 22) (σ 26) (σ 111) (σ 112) (σ 113) 0 ∧ lawI (σ 20) (σ 23) (σ 27) (σ 111) (σ 112) (σ 113) 1 ∧ lawI (σ 20) (σ 24) (σ 28) (σ 111) (σ 112) (σ 113) 2
theorem I_la_fr {σ σ' : Mm} (e20 : σ' 20 = σ 20) (e22 : σ' 22 = σ 22) (e23 : σ' 23 = σ 23) (e24 : σ' 24 = σ 24) (e26 : σ' 26 = σ 26) (e27 : σ' 27 = σ 27) (e28 : σ' 28 = σ 28) (e110 : σ' 110 = σ 110) (e111 : σ' 111 = σ 111) (e112 : σ' 112 = σ 112) (e113 : σ' 113 = σ 113)  (h : I_la σ) : I_la σ' := by
  unfold I_la at *
  simp only [e20, e22, e23, e24, e26, e27, e28, e110, e111, e112, e113]
  exact h
def I_he (σ : Mm) : Prop := ∀ i : Nat, i < 18 → σ 119 i = headB i
theorem I_he_fr {σ σ' : Mm} (e119 : σ' 119 = σ 119)  (h : I_he σ) : I_he σ' := by
  unfold I_he at *
  simp only [e119]
  exact h
def Inv (σ : Mm) : Prop := I_tr σ ∧ I_vo σ ∧ I_li σ ∧ I_or σ ∧ I_ta σ ∧ I_ba σ ∧ I_ex σ ∧ I_gu σ ∧ I_sh σ ∧ I_wa σ ∧ I_la σ ∧ I_he σ
