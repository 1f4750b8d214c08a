set_option maxRecDepth 100000 in
theorem ini_ok : zipA ocs inip (fun k p => isA p (.initialized (cn k))) = true := by decide +kernel
theorem lkM_at {t : Nat} (h : t < NM) : lkM t = true := by
  by_cases q : t < 113
  · exact List.all_eq_true.mp lkM_1 t (List.mem_range.mpr q)
  · have := List.all_eq_true.mp lkM_2 (t - 113) (List.mem_range.mpr (by have : t < 225 := h; omega))
    rw [show 113 + (t - 113) = t by omega] at this
    exact this
theorem good_wsm {t : Nat} (h : t < NM) : GoodIn tg (wsm t) := by
  intro w hw
  rcases List.mem_cons.mp hw with rfl | hw
  · exact ⟨cin_all t h, good_of_word rfl⟩
  · exact ⟨hw, good_of_word (List.mem_filter.mp hw).2⟩
theorem m_facts {t : Nat} (h : t < NM) : (bif mS t then Cond.static (mN t) else .instanceMethod (mN t)) ∈ tg ∧ (mS t = false → Cond.selects (cn (mO t)) (mN t) (mN t) ∈ tg) ∧ (mN t).cls = cn (mO t) ∧ mO t ∈ ocs ∧ (parseMethodDescriptor (mN t).desc).map (fun d => d.parameters.length) = some (bif mS t then mA t else mA t - 1) ∧ (mS t = false → 1 ≤ mA t) ∧ plainName (mN t).cls = true ∧ mL t ≤ 30 := by
  have hk := lkM_at h
  unfold lkM at hk
  obtain ⟨hk, h8⟩ := and2 hk
  obtain ⟨hk, h7⟩ := and2 hk
  obtain ⟨hk, h6⟩ := and2 hk
  obtain ⟨hk, h5⟩ := and2 hk
  obtain ⟨hk, h4⟩ := and2 hk
  obtain ⟨hk, h3⟩ := and2 hk
  obtain ⟨h1, h2⟩ := and2 hk
  refine ⟨isA_of h1 ?_, fun z => ?_, of_decide_eq_true h3, of_decide_eq_true h4, of_decide_eq_true h5, fun z => ?_, h7, Nat.le_of_ble_eq_true h8⟩
  · cases mS t <;> rfl
  · rw [z, Bool.false_or] at h2
    exact isA_of h2 rfl
  · rw [z, Bool.false_or] at h6
    exact Nat.le_of_ble_eq_true h6
theorem ini_in {k : Nat} (h : k ∈ ocs) : Cond.initialized (cn k) ∈ tg := by
  obtain ⟨b, hb⟩ := zipA_at ini_ok k h
  exact isA_of hb rfl
theorem cls_plain {k : Nat} (h : k ∈ ocs) : cn k ≠ "java/lang/invoke/MethodHandle" ∧ cn k ≠ "java/lang/invoke/VarHandle" := by
  have := List.all_eq_true.mp lkI_all k h
  obtain ⟨h1, h2⟩ := and2 this
  exact ⟨of_decide_eq_true (and2 h1).2, of_decide_eq_true h2⟩
theorem blind_m {D : va_G} {ad : Nat → Nat} {tc : Nat → ClassId} {V : Value} {as : List Value} {σ : Mm} : FrameBlind (Pcm D ad tc V as σ) := by
  intro a U g mk h
  obtain ⟨h1, h2, h3, h4⟩ := h
  exact ⟨h1, h2, va_K.moved (u := U) (U := U.calling g mk a) (Vm.Alike.refl U.vm) h3, Zs.same (U := U.calling g mk a) h4 rfl⟩
section
variable {p : Program} {l : Launch} {e : Env} {R : Room} {s : State} {m : MethodId} {args : Array Value} {below : List Frame} {meth : Method} {c : Code} {cells slots : Nat} {QF : State → Prop}
variable {D : va_G} {ad : Nat → Nat} {tc : Nat → ClassId} {V : Value} {A : Nat → Prop} {cc : ByteArray} {nL oc : Nat} {rm : Room} {pc : Nat} {ls st : List Value} {σ : Mm}
variable {H : Heap} {locs : List Loc} {lsA : Array Slot} {rest : List Value}
theorem pre_m {U : State} {as : List Value} (C : Cx p R s m args c cells slots D ad tc V A cc nL oc rm) (hW : Wd D ad tc A σ H) (hS : va_S A s.heap H locs) (hU : U.heap = H) (hw : s.WarmedH U.vm) : Pcm D ad tc V as σ (as.map (cv ad V)).toArray U := by
  obtain ⟨-, hoc, hKs, hZ, hV, hAd, -⟩ := C
  refine ⟨rfl, ?_, va_K.moved hw.alike hKs, ?_⟩
  · rw [hU]
    refine ⟨hW.1, ⟨hW.2.1.1, fun k q hk => ?_⟩, hW.2.2⟩
    have h4 : k < 140 := by
      have := (List.getElem?_eq_some_iff.mp hk).1
      simpa [wl] using this
    rw [wl_at h4] at hk
    cases hk
    exact ⟨k, h4, rfl⟩
  · rw [hU]
    exact Zs.at hZ hS hAd hw
theorem va_callg {Q : Qt} {a : Array Value} {st0 : List Value} (hAd : ∀ q, Ad ad q → A q) (hD : va_D A (wl ad tc σ)) (hr : va_Run p l e R s m args below meth c H locs cells slots 0 0 (F0 m pc lsA st0) rest (Qcm D ad tc V Q a) (Ad ad)) (hS : va_S A s.heap H locs)
    (kk : ∀ (r : Option Value) (σ' : Mm) (H1 : Heap) (locs1 : List Loc), Q r σ' → Wd D ad tc A σ' H1 → va_S A s.heap H1 locs1 → W p l e R s m args below meth c H1 locs1 cells slots QF (F0 m (pc + 3) lsA ((r.map (cv ad V)).toList ++ rest))) : W p l e R s m args below meth c H locs cells slots QF (F0 m pc lsA st0) := by
  intro T hT X
  obtain ⟨v, st₀, t, T', L, h0, X', hL, e1, e2, hQ, st⟩ := hr T hT X
  obtain ⟨⟨r, σ', hv, hq, hp, hf⟩, hz, hk⟩ := hQ
  cases hv
  rw [h0] at hz hk
  obtain ⟨t2, a1, b1⟩ := kk r σ' T'.heap (locs ++ L) hq ⟨by rw [e1]; exact hp, wl_D hD, hf⟩
    ⟨Nat.le_trans hS.1 (by rw [e1]; exact hz), fun q h1 h2 => by rw [e1, hk q (Nat.lt_of_lt_of_le h1 hS.1) (fun z => h2 (hAd q z))]; exact hS.2.1 q h1 h2, fun q hq => by
      rcases List.mem_append.mp hq with h | h
      · exact hS.2.2 q h
      · exact hAd _ (hL q h)⟩ T' rfl X'
  exact ⟨t2, st t2 a1, b1⟩
theorem rpush_cv (r : Option Value) (st : List Value) : (rpush r st).map (cv ad V) = (r.map (cv ad V)).toList ++ st.map (cv ad V) := by
  cases r <;> rfl
theorem inc_of {t u : Nat} {st : List Value} (h : inc t u st = true) : slw (st.take u).reverse ≤ mL t ∧ (st.take u).length = u ∧ (st.drop u).length ≤ 4 := by
  unfold inc at h
  obtain ⟨h1, h2⟩ := and2 h
  obtain ⟨h3, h4⟩ := and2 h1
  rw [slw_rev]
  exact ⟨Nat.le_of_ble_eq_true h3, Nat.eq_of_beq_eq_true h4, Nat.le_of_ble_eq_true h2⟩
theorem rcv_ok {a t : Nat} (C : Cx p R s m args c cells slots D ad tc V A cc nL oc rm) (hW : Wd D ad tc A σ H) (hS : va_S A s.heap H locs) {as : List Value} (h : rcv (.ref a :: as) t = true) : ∃ cell : Cell, H[ad a]? = some cell ∧ cell.vm.isStatics = false ∧ s.vm.findClass (cn (mO t)) = some cell.cls := by
  obtain ⟨-, hoc, hKs, hZ, hV, hAd, -⟩ := C
  unfold rcv at h
  dsimp only at h
  split at h
  · rename_i ci fs hs
    obtain ⟨ha, hsh⟩ := shq_some hs
    have hci := Nat.eq_of_beq_eq_true h
    have hok := List.all_eq_true.mp shok_all a (List.mem_range.mpr ha)
    simp only [shok, hsh] at hok
    cases hq : cl[ci]? with
    | none => rw [hq] at hok; cases hok
    | some q =>
      have he : (wl ad tc σ)[a]? = some (ad a, .inr (ci, fv ad (σ a) 0 fs)) := by rw [wl_at ha, cont_obj hsh]
      have := va_recv hKs hW.1 hq he
      rw [(clsP_of hq).2.2.2, hci] at this
      exact this
  · cases h
  · rename_i hs
    obtain ⟨h1, h2⟩ := and2 h
    obtain ⟨h3, h4⟩ := and2 h1
    have h5 := Nat.le_of_ble_eq_true h3
    have h6 := Nat.le_of_ble_eq_true h4
    obtain ⟨i, hi, rfl⟩ : ∃ i, i < 4 ∧ a = 2000 + i := ⟨a - 2000, by omega, by omega⟩
    have := vk_recv hZ.1 hi hS
    rw [← Nat.eq_of_beq_eq_true h2]
    exact this
theorem st_virt {call : Ct} {K : Option Value → List Value → Mm → Prop} {t u k : Nat} (C : Cx p R s m args c cells slots D ad tc V A cc nL oc rm) (hC : CallOK l D ad tc V call rm) (hls : lsA.size = nL) (hW : Wd D ad tc A σ H) (hS : va_S A s.heap H locs) (hd : decode cc pc = .ok (.invokevirtual k, 3)) (hm : (k, t) ∈ mT oc) (hst : mS t = false) (hu : u = mA t) (ht : t < NM)
    (hK : ∀ r st' σ' H' locs', K r st' σ' → Wd D ad tc A σ' H' → va_S A s.heap H' locs' → W p l e R s m args below meth c H' locs' cells slots QF (F0 m (pc + 3) lsA ((rpush r st').map (cv ad V)))) (hr : rcv (st.take u).reverse t = true) (h : inv call K t u st σ) : W p l e R s m args below meth c H locs cells slots QF (F0 m pc lsA (st.map (cv ad V))) := by
  obtain ⟨hi, hc⟩ := h
  obtain ⟨h1, h2, h3⟩ := inc_of hi
  obtain ⟨g1, g2, g3, g4, g5, g6, g7, g8⟩ := m_facts ht
  have C' := C
  obtain ⟨⟨hx, hb, hml, hown, hts⟩, hoc, hKs, hZ, hV, hAd, ⟨r1, r2, r3, r4⟩, hR1, hcl, hsl⟩ := C
  obtain ⟨pl, hpl⟩ := zipA_at (List.all_eq_true.mp lkT_all oc hoc) _ hm
  have hlk := hts _ (isA_of hpl rfl)
  rw [hst, cond_false] at g1 g5
  have hsplit : st = (st.take u).reverse.reverse ++ st.drop u := by rw [List.reverse_reverse, List.take_append_drop]
  have hlen : (st.take u).reverse.length = u := by rw [List.length_reverse, h2]
  generalize (st.take u).reverse = as at h1 hc hr hsplit hlen
  generalize st.drop u = sd at h3 hc hsplit
  subst hsplit
  cases as with
  | nil => cases hr
  | cons v as' =>
    cases v with
    | ref a =>
      have hn : (as'.map (cv ad V)).length = mA t - 1 := by
        rw [List.length_map]
        have : as'.length + 1 = mA t := by rw [← hu]; exact hlen
        omega
      have hcat := cat_le (sd.map (cv ad V))
      rw [List.length_map] at hcat
      refine va_callg (a := (Value.ref (ad a) :: as'.map (cv ad V)).toArray) hAd hW.2.1 (va_runV (As := as'.map (cv ad V)) (rest := sd.map (cv ad V)) (b := ad a) (C := cn (mO t)) ⟨hx, hb, hml, hown, hts⟩ (hC t _ σ _ ht h1 hc) ⟨callB_of (mA t - 1) hts (good_wsm ht) rfl r1 r2 (by rw [g3]; exact hts _ (ini_in g4)) hlk ⟨by rw [g3]; exact (cls_plain g4).1, by rw [g3]; exact (cls_plain g4).2, g5⟩ ⟨r3, by omega⟩, hts _ g1, hts _ (g2 hst)⟩ ⟨blind_m, rcv_ok C' hW hS hr, fun U hU hw => pre_m C' hW hS hU hw⟩ rfl hn hls ?_ (lv_room (by omega)) hd ⟨by omega, by omega⟩) hS ?_
      · show ((Value.ref a :: as').reverse ++ sd).map (cv ad V) = _
        simp [List.map_append, List.map_reverse, cv]
      · intro r σ' H1 locs1 q1 q2 q3
        have := hK r sd σ' H1 locs1 q1 q2 q3
        rw [rpush_cv] at this
        exact this
    | _ => cases hr
theorem st_stat {call : Ct} {K : Option Value → List Value → Mm → Prop} {t u k : Nat} (C : Cx p R s m args c cells slots D ad tc V A cc nL oc rm) (hC : CallOK l D ad tc V call rm) (hls : lsA.size = nL) (hW : Wd D ad tc A σ H) (hS : va_S A s.heap H locs) (hd : decode cc pc = .ok (.invokestatic k, 3)) (hm : (k, t) ∈ mT oc ∨ (oc = 6 ∧ k = 57 ∧ t = k_X11_within)) (hst : mS t = true) (hu : u = mA t) (ht : t < NM)
    (hK : ∀ r st' σ' H' locs', K r st' σ' → Wd D ad tc A σ' H' → va_S A s.heap H' locs' → W p l e R s m args below meth c H' locs' cells slots QF (F0 m (pc + 3) lsA ((rpush r st').map (cv ad V)))) (h : inv call K t u st σ) : W p l e R s m args below meth c H locs cells slots QF (F0 m pc lsA (st.map (cv ad V))) := by
  obtain ⟨hi, hc⟩ := h
  obtain ⟨h1, h2, h3⟩ := inc_of hi
  obtain ⟨g1, g2, g3, g4, g5, g6, g7, g8⟩ := m_facts ht
  have C' := C
  obtain ⟨⟨hx, hb, hml, hown, hts⟩, hoc, hKs, hZ, hV, hAd, ⟨r1, r2, r3, r4⟩, hR1, hcl, hsl⟩ := C
  rw [hst, cond_true] at g1 g5
  have hsplit : st = (st.take u).reverse.reverse ++ st.drop u := by rw [List.reverse_reverse, List.take_append_drop]
  have hlen : (st.take u).reverse.length = u := by rw [List.length_reverse, h2]
  generalize (st.take u).reverse = as at h1 hc hsplit hlen
  generalize st.drop u = sd at h3 hc hsplit
  subst hsplit
  have hn : (as.map (cv ad V)).length = mA t := by rw [List.length_map, hlen, hu]
  have hcat := cat_le (sd.map (cv ad V))
  rw [List.length_map] at hcat
  have hstk : (as.reverse ++ sd).map (cv ad V) = (as.map (cv ad V)).reverse ++ sd.map (cv ad V) := by simp [List.map_append, List.map_reverse]
  have hplain : (mN t).cls ≠ "java/lang/invoke/MethodHandle" ∧ (mN t).cls ≠ "java/lang/invoke/VarHandle" ∧ (parseMethodDescriptor (mN t).desc).map (fun d => d.parameters.length) = some (mA t) := ⟨by rw [g3]; exact (cls_plain g4).1, by rw [g3]; exact (cls_plain g4).2, g5⟩
  have fin : ∀ r σ' H1 locs1, K r sd σ' → Wd D ad tc A σ' H1 → va_S A s.heap H1 locs1 → W p l e R s m args below meth c H1 locs1 cells slots QF (F0 m (pc + 3) lsA ((r.map (cv ad V)).toList ++ sd.map (cv ad V))) := by
    intro r σ' H1 locs1 q1 q2 q3
    have := hK r sd σ' H1 locs1 q1 q2 q3
    rw [rpush_cv] at this
    exact this
  rcases hm with hm | ⟨e1, e2, e3⟩
  · obtain ⟨pl, hpl⟩ := zipA_at (List.all_eq_true.mp lkT_all oc hoc) _ hm
    have hlk := hts _ (isA_of hpl rfl)
    exact va_callg (a := (as.map (cv ad V)).toArray) hAd hW.2.1 (va_runS (As := as.map (cv ad V)) (rest := sd.map (cv ad V)) ⟨hx, hb, hml, hown, hts⟩ (hC t _ σ _ ht h1 hc) ⟨callB_of (mA t) hts (good_wsm ht) rfl r1 r2 (by rw [g3]; exact hts _ (ini_in g4)) hlk hplain ⟨r3, by omega⟩, hts _ g1⟩ ⟨blind_m, fun U hU hw => pre_m C' hW hS hU hw⟩ rfl hn hls hstk (lv_room (by omega)) hd ⟨by omega, by omega⟩) hS fin
  · subst e1
    subst e2
    subst e3
    exact va_callg (a := (as.map (cv ad V)).toArray) hAd hW.2.1 (va_runSN (host := "VoucherHall") (As := as.map (cv ad V)) (rest := sd.map (cv ad V)) ⟨hx, hb, hml, hown, hts⟩ (hC k_X11_within _ σ _ ht h1 hc) ⟨va_cnB (mA k_X11_within) hts (good_wsm ht) rfl r1 r2 hZ.2.2.2.2 (by rw [g3]; exact hts _ (ini_in g4)) hplain ⟨r3, by omega⟩, hts _ g1, trivial⟩ ⟨blind_m, fun U hU hw => pre_m C' hW hS hU hw⟩ rfl hn hls hstk (lv_room (by omega)) hd ⟨by omega, by omega⟩) hS fin
theorem st_spc {K : List Value → Mm → Prop} {t k : Nat} (C : Cx p R s m args c cells slots D ad tc V A cc nL oc rm) (hls : lsA.size = nL) (hW : Wd D ad tc A σ H) (hS : va_S A s.heap H locs) (hd : decode cc pc = .ok (.invokestatic k, 3)) (hm : (bif Nat.beq t 903 then decide ((oc, k) ∈ acT) else decide ((oc, k, t) ∈ maT)) = true)
    (hK : ∀ st' σ' H' locs', K st' σ' → Wd D ad tc A σ' H' → va_S A s.heap H' locs' → W p l e R s m args below meth c H' locs' cells slots QF (F0 m (pc + 3) lsA (st'.map (cv ad V)))) (h : spc K t st σ) : W p l e R s m args below meth c H locs cells slots QF (F0 m pc lsA (st.map (cv ad V))) := by
  unfold spc at h
  cases hb3 : Nat.beq t 903 with
  | true =>
    rw [hb3, cond_true] at h hm
    obtain ⟨n, s1, rfl, k1⟩ := pI_of h
    obtain ⟨dp, s2, rfl, k2⟩ := pI_of k1
    obtain ⟨b, s3, rfl, k3⟩ := pR_of k2
    obtain ⟨sp, s4, rfl, k4⟩ := pI_of k3
    obtain ⟨a, s5, rfl, k5⟩ := pR_of k4
    obtain ⟨h1, h2⟩ := k5
    exact st_cpy (rest := s5.map (cv ad V)) C hls hW hS hd (of_decide_eq_true hm) (by rw [List.length_map]; exact Nat.le_of_ble_eq_true h1) (fun σ' H' locs' z1 z2 z3 => hK s5 σ' H' locs' z1 z2 z3) h2
  | false =>
    rw [hb3, cond_false] at h hm
    obtain ⟨⟨hx, hb, hml, hown, hts⟩, hoc, hKs, hZ, hV, hAd, ⟨r1, r2, r3, r4⟩, hR1, hcl, hsl⟩ := C
    have hm := of_decide_eq_true hm
    obtain ⟨pl, hpl⟩ := zipA_at lkY_all _ hm
    obtain ⟨w0, wz⟩ := and2 lkW_all
    obtain ⟨w1, wz⟩ := and2 wz
    obtain ⟨w2, wz⟩ := and2 wz
    obtain ⟨w3, wz⟩ := and2 wz
    obtain ⟨w4, wz⟩ := and2 wz
    obtain ⟨w5, w6⟩ := and2 wz
    cases hb4 : Nat.beq t 904 with
    | true =>
      rw [hb4, cond_true] at h
      dsimp only at hpl
      rw [hb4, cond_true] at hpl
      obtain ⟨y, s1, rfl, k1⟩ := pI_of h
      obtain ⟨x, s2, rfl, k2⟩ := pI_of k1
      obtain ⟨h1, h2⟩ := k2
      have hl4 := Nat.le_of_ble_eq_true h1
      have hcat := cat_le (s2.map (cv ad V))
      rw [List.length_map] at hcat
      exact va_mmax hx hb (by rw [hml, hls]) hown (hts _ (isA_of hpl rfl)) (hts _ (isA_of w0 rfl)) (hts _ (isA_of w6 rfl)) (hts _ (isA_of w3 rfl)) hR1.1 (by omega) hcl hsl hd (hK _ _ _ _ h2 hW hS)
    | false =>
      rw [hb4, cond_false] at h
      dsimp only at hpl
      rw [hb4, cond_false] at hpl
      cases hb5 : Nat.beq t 905 with
      | true =>
        rw [hb5, cond_true] at h hpl
        obtain ⟨y, s1, rfl, k1⟩ := pI_of h
        obtain ⟨x, s2, rfl, k2⟩ := pI_of k1
        obtain ⟨h1, h2⟩ := k2
        have hl4 := Nat.le_of_ble_eq_true h1
        have hcat := cat_le (s2.map (cv ad V))
        rw [List.length_map] at hcat
        exact va_mmin hx hb (by rw [hml, hls]) hown (hts _ (isA_of hpl rfl)) (hts _ (isA_of w1 rfl)) (hts _ (isA_of w6 rfl)) (hts _ (isA_of w4 rfl)) hR1.1 (by omega) hcl hsl hd (hK _ _ _ _ h2 hW hS)
      | false =>
        rw [hb5, cond_false] at h hpl
        cases hb6 : Nat.beq t 906 with
        | true =>
          rw [hb6, cond_true] at h
          obtain ⟨y, s1, rfl, k1⟩ := pL_of h
          obtain ⟨x, s2, rfl, k2⟩ := pL_of k1
          obtain ⟨h1, h2⟩ := k2
          have hl4 := Nat.le_of_ble_eq_true h1
          have hcat := cat_le (s2.map (cv ad V))
          rw [List.length_map] at hcat
          exact va_mmin_long hx hb (by rw [hml, hls]) hown (hts _ (isA_of hpl rfl)) (hts _ (isA_of w2 rfl)) (hts _ (isA_of w6 rfl)) (hts _ (isA_of w5 rfl)) hR1.1 (by omega) hcl hsl hd (hK _ _ _ _ h2 hW hS)
        | false =>
          rw [hb6] at h
          exact h.elim
end
