section
variable {p : Program} {l : Launch} {e : Env} {R : Room} {s : State} {m : MethodId} {args : Array Value} {below : List Frame} {meth : Method} {c : Code} {cells slots : Nat} {QF : State → Prop}
variable {D : va_G} {ad : Nat → Nat} {tc : Nat → ClassId} {V : Value} {A : Nat → Prop} {cc : ByteArray} {nL oc : Nat} {rm : Room} {pc : Nat} {ls st : List Value} {σ : Mm}
theorem tab_of {pc t : Nat} {d lo hi : Int} {offs : Array Int} {l : List (Int × Nat)} (h : tabok pc d lo hi offs t l = true) (x : Int) : (x < lo ∨ hi < x → swF x t l = t ∧ (pc : Int) + d = (t : Int)) ∧ (¬ x < lo → ¬ hi < x → ∃ o, offs[(x - lo).toNat]? = some o ∧ (pc : Int) + o = (swF x t l : Int)) := by
  unfold tabok at h
  obtain ⟨h, h4⟩ := and2 h
  obtain ⟨h, h3⟩ := and2 h
  obtain ⟨h1, h2⟩ := and2 h
  have h1 := of_decide_eq_true h1
  have h3 := of_decide_eq_true h3
  refine ⟨fun hx => ⟨swF_out fun q hq => ?_, h1⟩, fun g1 g2 => ?_⟩
  · have := List.all_eq_true.mp h2 q hq
    obtain ⟨a, b⟩ := and2 this
    have a := of_decide_eq_true a
    have b := of_decide_eq_true b
    omega
  · have hk : (x - lo).toNat < offs.toList.length := by omega
    have := List.all_eq_true.mp h4 _ (List.mem_range.mpr hk)
    rw [List.getElem?_eq_getElem hk] at this
    have this := of_decide_eq_true this
    refine ⟨offs.toList[(x - lo).toNat], ?_, ?_⟩
    · rw [← Array.getElem?_toList, List.getElem?_eq_getElem hk]
    · rw [this]
      congr 2
      omega
set_option maxHeartbeats 4000000 in
theorem stp_ok {call : Ct} {scr : Sc} {rt : Option FieldType} {Q : Qt} {i : Instr} {nx : Nat} {v : Int32} {t u : Nat} (C : Cx p R s m args c cells slots D ad tc V A cc nL oc rm) (hC : CallOK l D ad tc V call rm) (hX : ScrOK s ad A scr) (hR : RetOK p l e R s m args below meth c cells slots QF D ad tc V A cc rt Q)
    (hok : okE oc cc nL pc i nx v t u = true) (h : stp call scr rt Q (XX p l e R s m args below meth c cells slots QF D ad tc V A nL) ls st σ i nx v t u) : XX p l e R s m args below meth c cells slots QF D ad tc V A nL pc ls st σ := by
  have C' := C
  obtain ⟨⟨hx, hb, hml, hown, hts⟩, hoc, hKs, hZ, hV, hAd, hrm, hR1, hcl, hsl⟩ := C
  intro H locs lsA hl hW hS
  cases i
  case iconst n =>
    obtain ⟨hok, hv⟩ := and2 hok
    obtain ⟨hd, rfl⟩ := dcd_of hok
    exact lv_iconst hx hb hd (of_decide_eq_true hv) (h H locs lsA hl hW hS)
  case bipush n =>
    obtain ⟨hok, hv⟩ := and2 hok
    obtain ⟨hd, rfl⟩ := dcd_of hok
    exact lv_bipush hx hb hd (of_decide_eq_true hv) (h H locs lsA hl hW hS)
  case sipush n =>
    obtain ⟨hok, hv⟩ := and2 hok
    obtain ⟨hd, rfl⟩ := dcd_of hok
    exact lv_sipush hx hb hd (of_decide_eq_true hv) (h H locs lsA hl hW hS)
  case ldc k =>
    obtain ⟨hok, hv⟩ := and2 hok
    obtain ⟨hd, rfl⟩ := dcd_of hok
    have h : bif Nat.beq t 0 then XX p l e R s m args below meth c cells slots QF D ad tc V A nL (pc + 2) ls (.int v :: st) σ else XX p l e R s m args below meth c cells slots QF D ad tc V A nL (pc + 2) ls (.ref t :: st) σ := h
    cases hb0 : Nat.beq t 0 with
    | true =>
      rw [hb0, cond_true] at h hv
      obtain ⟨pl, hpl⟩ := zipA_at (List.all_eq_true.mp lkC_all oc hoc) _ (of_decide_eq_true hv)
      exact lv_ldc hx hb hown (hts _ (isA_of hpl rfl)) hd (h H locs lsA hl hW hS)
    | false =>
      rw [hb0, cond_false] at h hv
      obtain ⟨h4, hv⟩ := and2 hv
      have h4 := Nat.eq_of_beq_eq_true h4
      subst h4
      have hv := of_decide_eq_true hv
      have fin : ∀ i, i < 4 → k = (sTx i).1 → t = 2000 + i → W p l e R s m args below meth c H locs cells slots QF (F0 m pc lsA (st.map (cv ad V))) := by
        intro i hi e1 e2
        subst e2
        rw [e1] at hd
        exact va_ldcS hx hb hown (hZ.2.2.2.1 i hi) hd (h H locs lsA hl hW hS)
      simp only [strq, List.mem_cons, Prod.mk.injEq, List.not_mem_nil, or_false] at hv
      rcases hv with ⟨a1, a2⟩ | ⟨a1, a2⟩ | ⟨a1, a2⟩ | ⟨a1, a2⟩
      · exact fin 0 (by omega) a1 a2
      · exact fin 1 (by omega) a1 a2
      · exact fin 2 (by omega) a1 a2
      · exact fin 3 (by omega) a1 a2
  case ldc_w k =>
    obtain ⟨hok, hv⟩ := and2 hok
    obtain ⟨hd, rfl⟩ := dcd_of hok
    obtain ⟨pl, hpl⟩ := zipA_at (List.all_eq_true.mp lkC_all oc hoc) _ (of_decide_eq_true hv)
    exact lv_ldcw hx hb hown (hts _ (isA_of hpl rfl)) hd (h H locs lsA hl hW hS)
  case lconst n =>
    obtain ⟨hok, hv⟩ := and2 hok
    obtain ⟨hd, rfl⟩ := dcd_of hok
    have hv := Nat.eq_of_beq_eq_true hv
    have h : bif Nat.beq t 0 then XX p l e R s m args below meth c cells slots QF D ad tc V A nL (pc + 1) ls (.long 0 :: st) σ else XX p l e R s m args below meth c cells slots QF D ad tc V A nL (pc + 1) ls (.long 1 :: st) σ := h
    cases hb0 : Nat.beq t 0 with
    | true =>
      rw [hb0, cond_true] at h
      have h0 := Nat.eq_of_beq_eq_true hb0
      exact lv_lconst (v := 0) hx hb hd (by rw [hv, h0]; rfl) (h H locs lsA hl hW hS)
    | false =>
      rw [hb0, cond_false] at h
      have h1 : t = 1 := by
        have := n.isLt
        rcases (show t = 0 ∨ t = 1 by omega) with rfl | rfl
        · cases hb0
        · rfl
      exact lv_lconst (v := 1) hx hb hd (by rw [hv, h1]; rfl) (h H locs lsA hl hW hS)
  case iload_n k =>
    obtain ⟨hok, hv⟩ := and2 hok
    obtain ⟨hd, rfl⟩ := dcd_of hok
    obtain ⟨x, hg, h1⟩ := vI_of h
    exact lv_iload_n hx hb hd (Nat.eq_of_beq_eq_true hv) (hl.2.2 _ (lpl_of (ad := ad) (V := V) hg (fun z => by cases z))) (h1 H locs lsA hl hW hS)
  case iload k =>
    obtain ⟨hok, hv⟩ := and2 hok
    obtain ⟨hd, rfl⟩ := dcd_of hok
    obtain ⟨x, hg, h1⟩ := vI_of h
    have hv := Nat.eq_of_beq_eq_true hv
    subst hv
    exact lv_iload hx hb hd (hl.2.2 _ (lpl_of (ad := ad) (V := V) hg (fun z => by cases z))) (h1 H locs lsA hl hW hS)
  case lload_n k =>
    obtain ⟨hok, hv⟩ := and2 hok
    obtain ⟨hd, rfl⟩ := dcd_of hok
    obtain ⟨x, hg, h1⟩ := vL_of h
    exact lv_lload_n hx hb hd (Nat.eq_of_beq_eq_true hv) (hl.2.2 _ (lpl_of (ad := ad) (V := V) hg (fun z => by cases z))) (h1 H locs lsA hl hW hS)
  case lload k =>
    obtain ⟨hok, hv⟩ := and2 hok
    obtain ⟨hd, rfl⟩ := dcd_of hok
    obtain ⟨x, hg, h1⟩ := vL_of h
    have hv := Nat.eq_of_beq_eq_true hv
    subst hv
    exact lv_lload hx hb hd (hl.2.2 _ (lpl_of (ad := ad) (V := V) hg (fun z => by cases z))) (h1 H locs lsA hl hW hS)
  case aload_n k =>
    obtain ⟨hok, hv⟩ := and2 hok
    obtain ⟨hd, rfl⟩ := dcd_of hok
    obtain ⟨x, hg, h1⟩ := vR_of h
    exact lv_aload_n hx hb hd (Nat.eq_of_beq_eq_true hv) (hl.2.2 _ (lpl_of (ad := ad) (V := V) hg (fun z => by cases z))) (h1 H locs lsA hl hW hS)
  case aload k =>
    obtain ⟨hok, hv⟩ := and2 hok
    obtain ⟨hd, rfl⟩ := dcd_of hok
    obtain ⟨x, hg, h1⟩ := vR_of h
    have hv := Nat.eq_of_beq_eq_true hv
    subst hv
    exact lv_aload hx hb hd (hl.2.2 _ (lpl_of (ad := ad) (V := V) hg (fun z => by cases z))) (h1 H locs lsA hl hW hS)
  case istore_n k =>
    obtain ⟨hok, hn⟩ := and2 hok
    obtain ⟨hok, hv⟩ := and2 hok
    obtain ⟨hd, rfl⟩ := dcd_of hok
    obtain ⟨x, s1, rfl, h1⟩ := pI_of h
    have hn := Nat.le_of_ble_eq_true hn
    exact lv_istore_n hx hb hd (Nat.eq_of_beq_eq_true hv) hl hn rfl (fun ls' hl' => h1 H locs ls' (lv_less hl' (lpl_set hV)) hW hS)
  case istore k =>
    obtain ⟨hok, hn⟩ := and2 hok
    obtain ⟨hok, hv⟩ := and2 hok
    obtain ⟨hd, rfl⟩ := dcd_of hok
    obtain ⟨x, s1, rfl, h1⟩ := pI_of h
    have hn := Nat.le_of_ble_eq_true hn
    have hv := Nat.eq_of_beq_eq_true hv
    subst hv
    exact lv_istore hx hb hd hl hn rfl (fun ls' hl' => h1 H locs ls' (lv_less hl' (lpl_set hV)) hW hS)
  case lstore_n k =>
    obtain ⟨hok, hn⟩ := and2 hok
    obtain ⟨hok, hv⟩ := and2 hok
    obtain ⟨hd, rfl⟩ := dcd_of hok
    obtain ⟨x, s1, rfl, h1⟩ := pL_of h
    have hn := Nat.le_of_ble_eq_true hn
    exact lv_lstore_n hx hb hd (Nat.eq_of_beq_eq_true hv) hl hn rfl (fun ls' hl' => h1 H locs ls' (lv_less hl' (lpl_set2 hV)) hW hS)
  case lstore k =>
    obtain ⟨hok, hn⟩ := and2 hok
    obtain ⟨hok, hv⟩ := and2 hok
    obtain ⟨hd, rfl⟩ := dcd_of hok
    obtain ⟨x, s1, rfl, h1⟩ := pL_of h
    have hn := Nat.le_of_ble_eq_true hn
    have hv := Nat.eq_of_beq_eq_true hv
    subst hv
    exact lv_lstore hx hb hd hl hn rfl (fun ls' hl' => h1 H locs ls' (lv_less hl' (lpl_set2 hV)) hW hS)
  case iinc k n =>
    obtain ⟨hok, hn⟩ := and2 hok
    obtain ⟨hok, hv2⟩ := and2 hok
    obtain ⟨hok, hv⟩ := and2 hok
    obtain ⟨hd, rfl⟩ := dcd_of hok
    obtain ⟨x, hg, h1⟩ := vI_of h
    have hn := Nat.le_of_ble_eq_true hn
    have hv := Nat.eq_of_beq_eq_true hv
    subst hv
    obtain ⟨j, hj⟩ := List.getElem?_of_mem (lpl_of (ad := ad) (V := V) hg (fun z => by cases z))
    have hv2 := of_decide_eq_true hv2
    exact lv_iinc (v := x + v) hx hb hd hl hj (by rw [hv2]) hn rfl (fun ls' hl' => h1 H locs ls' (lv_less hl' (lpl_set hV)) hW hS)
  case dup =>
    obtain ⟨hd, rfl⟩ := dcd_of hok
    match st, h with
    | .int x :: s1, h => exact lv_dup hx hb hd rfl (h H locs lsA hl hW hS)
    | .ref x :: s1, h => exact lv_dup hx hb hd rfl (h H locs lsA hl hW hS)
  case dup2 =>
    obtain ⟨hd, rfl⟩ := dcd_of hok
    obtain ⟨x, s1, rfl, h1⟩ := pI_of h
    obtain ⟨a, s2, rfl, h2⟩ := pR_of h1
    exact lv_dup2_11 hx hb hd rfl rfl (h2 H locs lsA hl hW hS)
  case pop =>
    obtain ⟨hd, rfl⟩ := dcd_of hok
    obtain ⟨x, s1, rfl, h1⟩ := pI_of h
    exact lv_pop hx hb hd rfl (h1 H locs lsA hl hW hS)
  case iadd =>
    obtain ⟨hd, rfl⟩ := dcd_of hok
    obtain ⟨y, s1, rfl, h1⟩ := pI_of h
    obtain ⟨x, s2, rfl, h2⟩ := pI_of h1
    exact lv_iadd hx hb hd (h2 H locs lsA hl hW hS)
  case isub =>
    obtain ⟨hd, rfl⟩ := dcd_of hok
    obtain ⟨y, s1, rfl, h1⟩ := pI_of h
    obtain ⟨x, s2, rfl, h2⟩ := pI_of h1
    exact lv_isub hx hb hd (h2 H locs lsA hl hW hS)
  case imul =>
    obtain ⟨hd, rfl⟩ := dcd_of hok
    obtain ⟨y, s1, rfl, h1⟩ := pI_of h
    obtain ⟨x, s2, rfl, h2⟩ := pI_of h1
    exact lv_imul hx hb hd (h2 H locs lsA hl hW hS)
  case iand =>
    obtain ⟨hd, rfl⟩ := dcd_of hok
    obtain ⟨y, s1, rfl, h1⟩ := pI_of h
    obtain ⟨x, s2, rfl, h2⟩ := pI_of h1
    exact lv_iand hx hb hd (h2 H locs lsA hl hW hS)
  case ishr =>
    obtain ⟨hd, rfl⟩ := dcd_of hok
    obtain ⟨y, s1, rfl, h1⟩ := pI_of h
    obtain ⟨x, s2, rfl, h2⟩ := pI_of h1
    exact lv_ishr hx hb hd (h2 H locs lsA hl hW hS)
  case iushr =>
    obtain ⟨hd, rfl⟩ := dcd_of hok
    obtain ⟨y, s1, rfl, h1⟩ := pI_of h
    obtain ⟨x, s2, rfl, h2⟩ := pI_of h1
    exact lv_iushr hx hb hd rfl (h2 H locs lsA hl hW hS)
  case idiv =>
    obtain ⟨hd, rfl⟩ := dcd_of hok
    obtain ⟨y, s1, rfl, h1⟩ := pI_of h
    obtain ⟨x, s2, rfl, h2⟩ := pI_of h1
    exact lv_idiv hx hb hd (fun z => h2.1 ((i0 y).mp z)) (h2.2 H locs lsA hl hW hS)
  case irem =>
    obtain ⟨hd, rfl⟩ := dcd_of hok
    obtain ⟨y, s1, rfl, h1⟩ := pI_of h
    obtain ⟨x, s2, rfl, h2⟩ := pI_of h1
    exact lv_irem hx hb hd (fun z => h2.1 ((i0 y).mp z)) (h2.2 H locs lsA hl hW hS)
  case ineg =>
    obtain ⟨hd, rfl⟩ := dcd_of hok
    obtain ⟨x, s1, rfl, h1⟩ := pI_of h
    exact lv_ineg hx hb hd (h1 H locs lsA hl hW hS)
  case ladd =>
    obtain ⟨hd, rfl⟩ := dcd_of hok
    obtain ⟨y, s1, rfl, h1⟩ := pL_of h
    obtain ⟨x, s2, rfl, h2⟩ := pL_of h1
    exact lv_ladd hx hb hd (h2 H locs lsA hl hW hS)
  case lsub =>
    obtain ⟨hd, rfl⟩ := dcd_of hok
    obtain ⟨y, s1, rfl, h1⟩ := pL_of h
    obtain ⟨x, s2, rfl, h2⟩ := pL_of h1
    exact lv_lsub hx hb hd (h2 H locs lsA hl hW hS)
  case lmul =>
    obtain ⟨hd, rfl⟩ := dcd_of hok
    obtain ⟨y, s1, rfl, h1⟩ := pL_of h
    obtain ⟨x, s2, rfl, h2⟩ := pL_of h1
    exact lv_lmul hx hb hd (h2 H locs lsA hl hW hS)
  case ldiv =>
    obtain ⟨hd, rfl⟩ := dcd_of hok
    obtain ⟨y, s1, rfl, h1⟩ := pL_of h
    obtain ⟨x, s2, rfl, h2⟩ := pL_of h1
    exact lv_ldiv hx hb hd (fun z => h2.1 ((l0 y).mp z)) (h2.2 H locs lsA hl hW hS)
  case lcmp =>
    obtain ⟨hd, rfl⟩ := dcd_of hok
    obtain ⟨y, s1, rfl, h1⟩ := pL_of h
    obtain ⟨x, s2, rfl, h2⟩ := pL_of h1
    exact W.lcmp hx hb hd (h2 H locs lsA hl hW hS)
  case i2l =>
    obtain ⟨hd, rfl⟩ := dcd_of hok
    obtain ⟨x, s1, rfl, h1⟩ := pI_of h
    exact lv_i2l hx hb hd rfl (h1 H locs lsA hl hW hS)
  case l2i =>
    obtain ⟨hd, rfl⟩ := dcd_of hok
    obtain ⟨x, s1, rfl, h1⟩ := pL_of h
    exact lv_l2i hx hb hd rfl (h1 H locs lsA hl hW hS)
  case i2b =>
    obtain ⟨hd, rfl⟩ := dcd_of hok
    obtain ⟨x, s1, rfl, h1⟩ := pI_of h
    exact lv_i2b hx hb hd rfl (h1 H locs lsA hl hW hS)
  case i2s =>
    obtain ⟨hd, rfl⟩ := dcd_of hok
    obtain ⟨x, s1, rfl, h1⟩ := pI_of h
    exact lv_i2s hx hb hd rfl (h1 H locs lsA hl hW hS)
  case i2c =>
    obtain ⟨hd, rfl⟩ := dcd_of hok
    obtain ⟨x, s1, rfl, h1⟩ := pI_of h
    exact lv_i2c hx hb hd rfl (h1 H locs lsA hl hW hS)
  case goto o =>
    obtain ⟨hok, hv⟩ := and2 hok
    obtain ⟨hd, rfl⟩ := dcd_of hok
    exact lv_goto hx hb hd (of_decide_eq_true hv) (h H locs lsA hl hW hS)
  case ifCond cn2 o =>
    obtain ⟨hok, hv⟩ := and2 hok
    obtain ⟨hd, rfl⟩ := dcd_of hok
    have hv := of_decide_eq_true hv
    obtain ⟨x, s1, rfl, h1⟩ := pI_of h
    cases cn2
    case eq => exact lv_if_eq hx hb hd hv (fun z => h1.1 ((i0 x).mp z) H locs lsA hl hW hS) (fun z => h1.2 (fun y => z ((i0 x).mpr y)) H locs lsA hl hW hS)
    case ne => exact lv_if_ne hx hb hd hv (fun z => h1.2 (fun y => z ((i0 x).mpr y)) H locs lsA hl hW hS) (fun z => h1.1 ((i0 x).mp z) H locs lsA hl hW hS)
    case lt => exact lv_if_lt hx hb hd hv (fun z => h1.1 ((ilt0 x).mp z) H locs lsA hl hW hS) (fun z => h1.2 (fun y => z ((ilt0 x).mpr y)) H locs lsA hl hW hS)
    case ge => exact lv_if_ge hx hb hd hv (fun z => h1.2 ((ige0 x).mp z) H locs lsA hl hW hS) (fun z => h1.1 (Decidable.byContradiction fun y => z ((ige0 x).mpr y)) H locs lsA hl hW hS)
    case gt => exact lv_if_gt hx hb hd hv (fun z => h1.1 ((igt0 x).mp z) H locs lsA hl hW hS) (fun z => h1.2 (fun y => z ((igt0 x).mpr y)) H locs lsA hl hW hS)
    case le => exact lv_if_le hx hb hd hv (fun z => h1.2 ((ile0 x).mp z) H locs lsA hl hW hS) (fun z => h1.1 (Decidable.byContradiction fun y => z ((ile0 x).mpr y)) H locs lsA hl hW hS)
  case if_icmp cn2 o =>
    obtain ⟨hok, hv⟩ := and2 hok
    obtain ⟨hd, rfl⟩ := dcd_of hok
    have hv := of_decide_eq_true hv
    obtain ⟨y, s1, rfl, h0⟩ := pI_of h
    obtain ⟨x, s2, rfl, h1⟩ := pI_of h0
    cases cn2
    case eq => exact lv_icmp_eq hx hb hd hv (fun z => h1.1 ((ieq x y).mp z) H locs lsA hl hW hS) (fun z => h1.2 (fun w => z ((ieq x y).mpr w)) H locs lsA hl hW hS)
    case ne => exact lv_icmp_ne hx hb hd hv (fun z => h1.2 (fun w => z ((ieq x y).mpr w)) H locs lsA hl hW hS) (fun z => h1.1 ((ieq x y).mp z) H locs lsA hl hW hS)
    case lt => exact lv_icmp_lt hx hb hd hv (fun z => h1.1 ((ilt x y).mp z) H locs lsA hl hW hS) (fun z => h1.2 (fun w => z ((ilt x y).mpr w)) H locs lsA hl hW hS)
    case ge => exact lv_icmp_ge hx hb hd hv (fun z => h1.2 ((ile y x).mp z) H locs lsA hl hW hS) (fun z => h1.1 (Decidable.byContradiction fun w => z ((ile y x).mpr w)) H locs lsA hl hW hS)
    case gt => exact lv_icmp_gt hx hb hd hv (fun z => h1.1 ((ilt y x).mp z) H locs lsA hl hW hS) (fun z => h1.2 (fun w => z ((ilt y x).mpr w)) H locs lsA hl hW hS)
    case le => exact lv_icmp_le hx hb hd hv (fun z => h1.2 ((ile x y).mp z) H locs lsA hl hW hS) (fun z => h1.1 (Decidable.byContradiction fun w => z ((ile x y).mpr w)) H locs lsA hl hW hS)
  case tableswitch d lo hi offs =>
    obtain ⟨hd, htab⟩ := and2 hok
    have hd := of_decide_eq_true hd
    obtain ⟨x, s1, rfl, h1⟩ := pI_of h
    have h2 := sws_of h1
    obtain ⟨g1, g2⟩ := tab_of htab x.toInt
    by_cases q : x.toInt < lo ∨ hi < x.toInt
    · rw [(g1 q).1] at h2
      exact lv_tableOut hx hb hd q (g1 q).2 (h2 H locs lsA hl hW hS)
    · obtain ⟨o, o1, o2⟩ := g2 (fun z => q (Or.inl z)) (fun z => q (Or.inr z))
      exact lv_tableIn hx hb hd (fun z => q (Or.inl z)) (fun z => q (Or.inr z)) o1 o2 (h2 H locs lsA hl hW hS)
  case lookupswitch d ps =>
    obtain ⟨hd, htab⟩ := and2 hok
    have hd := of_decide_eq_true hd
    obtain ⟨x, s1, rfl, h1⟩ := pI_of h
    have h2 := sws_of h1
    unfold lokok at htab
    obtain ⟨htab, q3⟩ := and2 htab
    obtain ⟨q1, q2⟩ := and2 htab
    exact lv_lookup hx hb hd q2 rfl (look_of (of_decide_eq_true q1) (of_decide_eq_true q3)) (h2 H locs lsA hl hW hS)
  case getfield k =>
    obtain ⟨hok, hu⟩ := and2 hok
    obtain ⟨hok, hm⟩ := and2 hok
    obtain ⟨hd, rfl⟩ := dcd_of hok
    obtain ⟨a, s1, rfl, h1⟩ := pR_of h
    exact st_getf C' hW hS hd (of_decide_eq_true hm) (Nat.le_of_ble_eq_true hu) (fun w hw => hw H locs lsA hl hW hS) h1
  case putfield k =>
    obtain ⟨hok, hu⟩ := and2 hok
    obtain ⟨hok, hm⟩ := and2 hok
    obtain ⟨hd, rfl⟩ := dcd_of hok
    obtain ⟨x, s1, rfl, h1⟩ := pI_of h
    obtain ⟨a, s2, rfl, h2⟩ := pR_of h1
    exact st_putf C' hW hS hd (of_decide_eq_true hm) (Nat.le_of_ble_eq_true hu) (fun σ' H' locs' z1 z2 z3 => z1 H' locs' lsA hl z2 z3) h2
  case getstatic k =>
    obtain ⟨hok, hk⟩ := and2 hok
    obtain ⟨hok, h20⟩ := and2 hok
    obtain ⟨hd, rfl⟩ := dcd_of hok
    have h20 := Nat.eq_of_beq_eq_true h20
    subst h20
    obtain ⟨lg0, lg1⟩ := and2 lkG_all
    have hh : bif Nat.beq t 0 then XX p l e R s m args below meth c cells slots QF D ad tc V A nL (pc + 3) ls (.int 1 :: st) σ else XX p l e R s m args below meth c cells slots QF D ad tc V A nL (pc + 3) ls (.retAddr 0 :: st) σ := h
    cases hb0 : Nat.beq t 0 with
    | true =>
      rw [hb0, cond_true] at hh hk
      have hk := Nat.eq_of_beq_eq_true hk
      subst hk
      exact va_gets hx hb hZ.2.1 hS hown (hts _ (isA_of lg0 rfl)) (fun _ z => z) hd (hh H locs lsA hl hW hS)
    | false =>
      rw [hb0, cond_false] at hh hk
      have hk := Nat.eq_of_beq_eq_true hk
      subst hk
      exact va_gets hx hb hZ.2.2.1 hS hown (hts _ (isA_of lg1 rfl)) (fun _ z => z) hd (hh H locs lsA hl hW hS)
  case iaload =>
    obtain ⟨hd, rfl⟩ := dcd_of hok
    obtain ⟨x, s1, rfl, h1⟩ := pI_of h
    obtain ⟨a, s2, rfl, h2⟩ := pR_of h1
    exact st_iald C' hX hW hS hd (fun w hw => hw H locs lsA hl hW hS) h2
  case baload =>
    obtain ⟨hd, rfl⟩ := dcd_of hok
    obtain ⟨x, s1, rfl, h1⟩ := pI_of h
    obtain ⟨a, s2, rfl, h2⟩ := pR_of h1
    exact st_bald C' hW hS hd (fun w hw => hw H locs lsA hl hW hS) h2
  case saload =>
    obtain ⟨hd, rfl⟩ := dcd_of hok
    obtain ⟨x, s1, rfl, h1⟩ := pI_of h
    obtain ⟨a, s2, rfl, h2⟩ := pR_of h1
    exact st_sald C' hW hd (fun w hw => hw H locs lsA hl hW hS) h2
  case aaload =>
    obtain ⟨hd, rfl⟩ := dcd_of hok
    obtain ⟨x, s1, rfl, h1⟩ := pI_of h
    obtain ⟨a, s2, rfl, h2⟩ := pR_of h1
    exact st_aald C' hW hd (fun w hw => hw H locs lsA hl hW hS) h2
  case iastore =>
    obtain ⟨hd, rfl⟩ := dcd_of hok
    obtain ⟨w, s1, rfl, h1⟩ := pI_of h
    obtain ⟨x, s2, rfl, h2⟩ := pI_of h1
    obtain ⟨a, s3, rfl, h3⟩ := pR_of h2
    exact st_iast C' hW hS hd (fun σ' H' locs' z1 z2 z3 => z1 H' locs' lsA hl z2 z3) h3
  case bastore =>
    obtain ⟨hd, rfl⟩ := dcd_of hok
    obtain ⟨w, s1, rfl, h1⟩ := pI_of h
    obtain ⟨x, s2, rfl, h2⟩ := pI_of h1
    obtain ⟨a, s3, rfl, h3⟩ := pR_of h2
    exact st_bast C' hW hS hd (fun σ' H' locs' z1 z2 z3 => z1 H' locs' lsA hl z2 z3) h3
  case sastore =>
    obtain ⟨hd, rfl⟩ := dcd_of hok
    obtain ⟨w, s1, rfl, h1⟩ := pI_of h
    obtain ⟨x, s2, rfl, h2⟩ := pI_of h1
    obtain ⟨a, s3, rfl, h3⟩ := pR_of h2
    exact st_sast C' hW hS hd (fun σ' H' locs' z1 z2 z3 => z1 H' locs' lsA hl z2 z3) h3
  case arraylength =>
    obtain ⟨hd, rfl⟩ := dcd_of hok
    obtain ⟨a, s1, rfl, h1⟩ := pR_of h
    exact st_alen C' hX hW hS hd (fun w hw => hw H locs lsA hl hW hS) h1
  case invokevirtual k =>
    obtain ⟨hok, ht⟩ := and2 hok
    obtain ⟨hok, hu⟩ := and2 hok
    obtain ⟨hok, hs⟩ := and2 hok
    obtain ⟨hok, hm⟩ := and2 hok
    obtain ⟨hd, rfl⟩ := dcd_of hok
    exact st_virt C' hC hl.1 hW hS hd (of_decide_eq_true hm) (by simpa using hs) (Nat.eq_of_beq_eq_true hu) (Nat.le_of_ble_eq_true ht) (fun r st' σ' H' locs' z1 z2 z3 => z1 H' locs' lsA hl z2 z3) h.1 h.2
  case invokestatic k =>
    obtain ⟨hok, hm⟩ := and2 hok
    obtain ⟨hd, rfl⟩ := dcd_of hok
    have h : bif Nat.ble 903 t then spc (fun st σ' => XX p l e R s m args below meth c cells slots QF D ad tc V A nL (pc + 3) ls st σ') t st σ else inv call (fun r st σ' => XX p l e R s m args below meth c cells slots QF D ad tc V A nL (pc + 3) ls (rpush r st) σ') t u st σ := h
    cases hb0 : Nat.ble 903 t with
    | true =>
      rw [hb0, cond_true] at h hm
      exact st_spc C' hl.1 hW hS hd hm (fun st' σ' H' locs' z1 z2 z3 => z1 H' locs' lsA hl z2 z3) h
    | false =>
      rw [hb0, cond_false] at h hm
      obtain ⟨hm, ht⟩ := and2 hm
      obtain ⟨hm, hu⟩ := and2 hm
      obtain ⟨hm, hs⟩ := and2 hm
      refine st_stat C' hC hl.1 hW hS hd ?_ hs (Nat.eq_of_beq_eq_true hu) (Nat.le_of_ble_eq_true ht) (fun r st' σ' H' locs' z1 z2 z3 => z1 H' locs' lsA hl z2 z3) h
      rcases Bool.or_eq_true_iff.mp hm with q | q
      · exact Or.inl (of_decide_eq_true q)
      · obtain ⟨q, q3⟩ := and2 q
        obtain ⟨q1, q2⟩ := and2 q
        exact Or.inr ⟨Nat.eq_of_beq_eq_true q1, Nat.eq_of_beq_eq_true q2, Nat.eq_of_beq_eq_true q3⟩
  case ireturn =>
    obtain ⟨hd, rfl⟩ := dcd_of hok
    obtain ⟨x, s1, rfl, h1, h2, h3⟩ := pI_of h
    subst h1
    exact (hR pc H locs lsA σ hW hS).1 x hd h2 h3
  case lreturn =>
    obtain ⟨hd, rfl⟩ := dcd_of hok
    obtain ⟨x, s1, rfl, h1, h2, h3⟩ := pL_of h
    subst h1
    exact (hR pc H locs lsA σ hW hS).2.1 x hd h2 h3
  case areturn =>
    obtain ⟨hd, rfl⟩ := dcd_of hok
    obtain ⟨x, s1, rfl, h1, h2, h3⟩ := pR_of h
    subst h1
    exact (hR pc H locs lsA σ hW hS).2.2.1 x hd h2 h3
  case return_ =>
    obtain ⟨hd, rfl⟩ := dcd_of hok
    obtain ⟨h1, h2, h3⟩ := h
    subst h1
    exact (hR pc H locs lsA σ hW hS).2.2.2 hd h2 h3
  all_goals exact (show False from h).elim
end
