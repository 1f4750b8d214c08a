/-! THE START: classes, texts and statics as the tables and the premises have them -/
set_option maxRecDepth 100000 in
theorem wa_3 : Cond.arrayClass (tyF 3) ∈ tg := isA_of (i := 491) (by decide +kernel) rfl
set_option maxRecDepth 100000 in
set_option maxHeartbeats 4000000 in
theorem st_cls {args : Array Value} {s : State} (hts : ∀ w ∈ tg, w.before args s = true) : ∃ D : va_G, ∀ (k : Nat) (q : vw_C), cl[k]? = some q → u_Kn s q.1 q.2.1 q.2.2 (D.1 k) (D.2 k) := by
  have hi : ∀ (k : Nat) (q : vw_C), cl[k]? = some q → Cond.instantiable q.1 q.2.2 ∈ tg := by
    intro k q h
    match k, h with
    | 0, h => cases h; exact wt_RX0
    | 1, h => cases h; exact wt_RX1
    | 2, h => cases h; exact wt_RX2
    | 3, h => cases h; exact wt_RX3
    | 4, h => cases h; exact wt_RX4
    | 5, h => cases h; exact wt_RX5
    | 6, h => cases h; exact wt_RX6
    | 7, h => cases h; exact wt_RX7
    | 8, h => cases h; exact wt_RX8
    | 9, h => cases h; exact wt_RX9
    | 10, h => cases h; exact wt_RX10
    | 11, h => cases h; exact wt_RX11
    | 12, h => cases h; exact wt_RX12
    | k + 13, h => exact absurd h (by simp [cl])
  have h0 : ∀ k : Nat, ∃ z : ClassId × (Nat → Nat), ∀ q : vw_C, cl[k]? = some q → u_Kn s q.1 q.2.1 q.2.2 z.1 z.2 := by
    intro k
    cases hq : cl[k]? with
    | none => exact ⟨(0, fun _ => 0), fun q h => by cases h⟩
    | some q =>
      obtain ⟨cC, iS, h⟩ := u_known (C := q.1) (T := q.2.1) (N := q.2.2) hts (clsP_of hq).1 (hts _ (hi k q hq))
      exact ⟨(cC, iS), fun q' h' => by cases h'; exact h⟩
  obtain ⟨f, hf⟩ := Classical.axiomOfChoice h0
  exact ⟨(fun k => (f k).1, fun k => (f k).2), fun k q h => hf k q h⟩
set_option maxRecDepth 100000 in
set_option maxHeartbeats 4000000 in
theorem st_K {args : Array Value} {s : State} (hts : ∀ w ∈ lw_tbl, w.before args s = true) : ∃ (D : va_G) (tc : Nat → ClassId), Kk D tc s := by
  have htg : ∀ w ∈ tg, w.before args s = true := fun w hw => hts w (List.mem_filter.mp hw).1
  obtain ⟨D, hD⟩ := st_cls htg
  obtain ⟨c0, k0, d0, n0, a0, b0⟩ := Cond.arrayClass_spec (htg _ wa_0)
  obtain ⟨c1, k1, d1, n1, a1, b1⟩ := Cond.arrayClass_spec (htg _ wa_1)
  obtain ⟨c2, k2, d2, n2, a2, b2⟩ := Cond.arrayClass_spec (htg _ wa_2)
  obtain ⟨c3, k3, d3, n3, a3, b3⟩ := Cond.arrayClass_spec (htg _ wa_3)
  obtain ⟨d4, c4, k4, m4, -, a4, b4, n4⟩ := arrayOverA_spec (hts (.arrayOver (.array .int)) (List.mem_of_getElem? (i := 226) (by decide +kernel)))
  obtain ⟨d5, c5, k5, m5, -, a5, b5, n5⟩ := arrayOverA_spec (hts (.arrayOver (.array .short)) (List.mem_of_getElem? (i := 478) (by decide +kernel)))
  have e4 : d4 = c0 := Option.some.inj (m4.symm.trans ((show (FieldType.array .int).toString = "[" ++ (tyF 0).toString by decide +kernel) ▸ n0))
  have e5 : d5 = c3 := Option.some.inj (m5.symm.trans ((show (FieldType.array .short).toString = "[" ++ (tyF 3).toString by decide +kernel) ▸ n3))
  subst e4
  subst e5
  refine ⟨D, fun t => match t with | 0 => d4 | 1 => c1 | 2 => c2 | 3 => d5 | 4 => c4 | _ => c5, ⟨hD, fun k q hq => ?_⟩, ⟨k4, a4, b4⟩, ⟨k5, a5, b5⟩⟩
  match k, hq with
  | 0, hq => cases hq; exact ⟨fun n z => ⟨fun k h => (by cases h), k0, a0, d0, b0⟩, n0⟩
  | 1, hq => cases hq; exact ⟨fun n z => ⟨fun k h => (by cases h), k1, a1, d1, b1⟩, n1⟩
  | 2, hq => cases hq; exact ⟨fun n z => ⟨fun k h => (by cases h), k2, a2, d2, b2⟩, n2⟩
  | 3, hq => cases hq; exact ⟨fun n z => ⟨fun k h => (by cases h), k3, a3, d3, b3⟩, n3⟩
  | 4, hq => cases hq; exact ⟨fun n z => ⟨fun k h => (by cases h), k4, a4, _, b4⟩, n4⟩
  | 5, hq => cases hq; exact ⟨fun n z => ⟨fun k h => (by cases h), k5, a5, _, b5⟩, n5⟩
  | k + 6, hq => exact absurd hq (by simp [tysl])
set_option maxRecDepth 100000 in
set_option maxHeartbeats 4000000 in
theorem st_str {args : Array Value} {s : State} {A : Nat → Prop} (hts : ∀ w ∈ lw_tbl, w.before args s = true) (hgv : (Jvm.Cond.and given_1 narrow_1).before args s = true) (hA : ∀ a : Nat, a < s.heap.size → ¬ A a) : ∃ (aK aV : Nat → Nat) (V : Value), V.category = 1 ∧ vk_S 4 sLens sByts aK aV A s s.heap ∧ va_Z "java/lang/String" "COMPACT_STRINGS" "Z" (.int 1) A s s.heap ∧
    va_Z "jdk/internal/util/Preconditions" "SIOOBE_FORMATTER" "Ljava/util/function/BiFunction;" V A s s.heap ∧ (∀ i, i < 4 → vk_R "VoucherHall$LawReader" (sTx i).1 (sTx i).2 (aK i) s) ∧ va_Nw (.methodLinkNest "VoucherHall$Mixer" 57 yX11_within "VoucherHall") s := by
  have hs := flat_of_before _ hgv
  have hex : ∀ i : Nat, i < 4 → (Cond.exactly (.string "VoucherHall$LawReader" (sTx i).1) "java/lang/String").before args s = true := (fun i hi => by
    rcases (show i = 0 ∨ i = 1 ∨ i = 2 ∨ i = 3 by omega) with rfl | rfl | rfl | rfl <;> exact hs _ (by decide +kernel))
  have hco : ∀ i : Nat, i < 4 → (Cond.eq (.field (.string "VoucherHall$LawReader" (sTx i).1) "java/lang/String" "coder" "B") (.int 0)).before args s = true := (fun i hi => by
    rcases (show i = 0 ∨ i = 1 ∨ i = 2 ∨ i = 3 by omega) with rfl | rfl | rfl | rfl <;> exact hs _ (by decide +kernel))
  have har : ∀ i : Nat, i < 4 → (Cond.arrayOf (.field (.string "VoucherHall$LawReader" (sTx i).1) "java/lang/String" "value" "[B") .byte).before args s = true := (fun i hi => by
    rcases (show i = 0 ∨ i = 1 ∨ i = 2 ∨ i = 3 by omega) with rfl | rfl | rfl | rfl <;> exact hs _ (by decide +kernel))
  have hle : ∀ i : Nat, i < 4 → (Cond.eq (.length (.field (.string "VoucherHall$LawReader" (sTx i).1) "java/lang/String" "value" "[B")) (.int (Int32.ofNat (sLens.getD i 0)))).before args s = true := (fun i hi => by
    rcases (show i = 0 ∨ i = 1 ∨ i = 2 ∨ i = 3 by omega) with rfl | rfl | rfl | rfl <;> exact hs _ (by decide +kernel))
  have hel : ∀ i : Nat, i < 4 → ∀ j : Nat, j < sLens.getD i 0 → (Cond.eq (.elem (.field (.string "VoucherHall$LawReader" (sTx i).1) "java/lang/String" "value" "[B") (.int (Int32.ofNat j))) (.int ((sByts.getD i []).getD j 0))).before args s = true := by
    intro i hi j hj
    rcases (show i = 0 ∨ i = 1 ∨ i = 2 ∨ i = 3 by omega) with rfl | rfl | rfl | rfl
    · have hj : j < 5 := hj
      rcases (show j = 0 ∨ j = 1 ∨ j = 2 ∨ j = 3 ∨ j = 4 by omega) with rfl | rfl | rfl | rfl | rfl <;> exact hs _ (by decide +kernel)
    · have hj : j < 3 := hj
      rcases (show j = 0 ∨ j = 1 ∨ j = 2 by omega) with rfl | rfl | rfl <;> exact hs _ (by decide +kernel)
    · have hj : j < 6 := hj
      rcases (show j = 0 ∨ j = 1 ∨ j = 2 ∨ j = 3 ∨ j = 4 ∨ j = 5 by omega) with rfl | rfl | rfl | rfl | rfl | rfl <;> exact hs _ (by decide +kernel)
    · have hj : j < 4 := hj
      rcases (show j = 0 ∨ j = 1 ∨ j = 2 ∨ j = 3 by omega) with rfl | rfl | rfl | rfl <;> exact hs _ (by decide +kernel)
  have hne : ∀ i j : Nat, i < 4 → j < 4 → i ≠ j → (Cond.not (Cond.eq (.string "VoucherHall$LawReader" (sTx i).1) (.string "VoucherHall$LawReader" (sTx j).1))).before args s = true ∨ (Cond.not (Cond.eq (.string "VoucherHall$LawReader" (sTx j).1) (.string "VoucherHall$LawReader" (sTx i).1))).before args s = true := by
    intro i j hi hj hij
    rcases (show i = 0 ∨ i = 1 ∨ i = 2 ∨ i = 3 by omega) with rfl | rfl | rfl | rfl <;> rcases (show j = 0 ∨ j = 1 ∨ j = 2 ∨ j = 3 by omega) with rfl | rfl | rfl | rfl <;> first | exact absurd rfl hij | exact Or.inl (hs _ (by decide +kernel)) | exact Or.inr (hs _ (by decide +kernel))
  obtain ⟨aK, aV, h1, h2⟩ := vk_Sof (args := args) (s := s) (N := 4) (tm := fun i => .string "VoucherHall$LawReader" (sTx i).1) (len := sLens) (byt := sByts) (A := A) (fun i hi => by rcases (show i = 0 ∨ i = 1 ∨ i = 2 ∨ i = 3 by omega) with rfl | rfl | rfl | rfl <;> decide) hex hco har hle hel hne hA
  have h3 : ∀ i, i < 4 → vk_R "VoucherHall$LawReader" (sTx i).1 (sTx i).2 (aK i) s := by
    intro i hi
    refine vk_R.of (A := args) ?_ (h2 i hi)
    rcases (show i = 0 ∨ i = 1 ∨ i = 2 ∨ i = 3 by omega) with rfl | rfl | rfl | rfl
    · exact hts _ (List.mem_of_getElem? (i := 822) (by decide +kernel))
    · exact hts _ (List.mem_of_getElem? (i := 905) (by decide +kernel))
    · exact hts _ (List.mem_of_getElem? (i := 931) (by decide +kernel))
    · exact hts _ (List.mem_of_getElem? (i := 932) (by decide +kernel))
  have h4 : va_Z "java/lang/String" "COMPACT_STRINGS" "Z" (.int 1) A s s.heap := va_Zof (hts _ (List.mem_of_getElem? (i := 836) (by decide +kernel))) (hts _ (List.mem_of_getElem? (i := 91) (by decide +kernel))) (va_eqi (hs _ (by decide +kernel))) hA
  have h5 : va_Nw (.methodLinkNest "VoucherHall$Mixer" 57 yX11_within "VoucherHall") s := va_Nw.of rfl (hts _ (List.mem_of_getElem? (i := 1033) (by decide +kernel)))
  rcases va_Zqof (A := A) (hts (.laysStatic "jdk/internal/util/Preconditions" "SIOOBE_FORMATTER" "Ljava/util/function/BiFunction;") (List.mem_of_getElem? (i := 875) (by decide +kernel))) (hts _ (List.mem_of_getElem? (i := 94) (by decide +kernel))) (hs _ (by decide +kernel)) hA with h6 | ⟨t, h6⟩
  · exact ⟨aK, aV, .null, rfl, h1, h4, h6, h3, h5⟩
  · exact ⟨aK, aV, .ref t, rfl, h1, h4, h6, h3, h5⟩
theorem adF_K {l : List Nat} {b i : Nat} {aK aV : Nat → Nat} (h : i < 100) : adF l b aK aV (2000 + i) = aK i := by
  unfold adF
  rw [show Nat.ble 140 (2000 + i) = true from Nat.ble_eq_true_of_le (by omega), show Nat.beq (2000 + i) 1000 = false from Bool.eq_false_iff.mpr (fun h => by have := Nat.eq_of_beq_eq_true h; omega), show Nat.ble 2100 (2000 + i) = false from Bool.eq_false_iff.mpr (fun z => by have := Nat.le_of_ble_eq_true z; omega), show 2000 + i - 2000 = i by omega]
  rfl
theorem adF_V {l : List Nat} {b i : Nat} {aK aV : Nat → Nat} : adF l b aK aV (2100 + i) = aV i := by
  unfold adF
  rw [show Nat.ble 140 (2100 + i) = true from Nat.ble_eq_true_of_le (by omega), show Nat.beq (2100 + i) 1000 = false from Bool.eq_false_iff.mpr (fun h => by have := Nat.eq_of_beq_eq_true h; omega), show Nat.ble 2100 (2100 + i) = true from Nat.ble_eq_true_of_le (by omega), show 2100 + i - 2100 = i by omega]
  rfl
theorem st_Zs {l : List Nat} {b : Nat} {aK aV : Nat → Nat} {V : Value} {A : Nat → Prop} {s : State} (h1 : vk_S 4 sLens sByts aK aV A s s.heap) (h2 : va_Z "java/lang/String" "COMPACT_STRINGS" "Z" (.int 1) A s s.heap) (h3 : va_Z "jdk/internal/util/Preconditions" "SIOOBE_FORMATTER" "Ljava/util/function/BiFunction;" V A s s.heap) (h4 : ∀ i, i < 4 → vk_R "VoucherHall$LawReader" (sTx i).1 (sTx i).2 (aK i) s) (h5 : va_Nw (.methodLinkNest "VoucherHall$Mixer" 57 yX11_within "VoucherHall") s) : Zs (adF l b aK aV) V A s s.heap := by
  refine ⟨⟨fun i hi => ?_, fun i j hi hj e => ?_⟩, h2, h3, fun i hi => ?_, h5⟩
  · have e1 := adF_K (l := l) (b := b) (aK := aK) (aV := aV) (show i < 100 by omega)
    have e2 := adF_V (l := l) (b := b) (aK := aK) (aV := aV) (i := i)
    dsimp only
    rw [e1, e2]
    exact h1.1 i hi
  · dsimp only at e
    rw [adF_K (by omega), adF_K (by omega)] at e
    exact h1.2 i j hi hj e
  · rw [adF_K (by omega)]
    exact h4 i hi
