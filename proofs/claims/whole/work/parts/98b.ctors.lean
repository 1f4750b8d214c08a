/-! THE CONSTRUCTORS OF THE CLASS'S PARTS -/
set_option maxHeartbeats 4000000 in
set_option maxRecDepth 100000 in
/-- Arrays.fill over an array of two -/
theorem c_fill2 {l : Launch} {D : va_G} {tc : Nat → ClassId} (r : Nat) (f : Nat → Int32) (x : Int32) : Met l yJ7_fill_53178 (.code yJ7_fill_53178 cJ7_fill_53178 4 none :: tg) { frames := 0, cells := 0, slots := 0, locals := 0 } (va_Pc [.ref r, .int x] (fun U => va_P D cl [(r, .inl (tc 0, 2, .inl f))] U.heap ∧ va_K D cl (tysl tc) U))
    (va_Qv (fun w : va_W => w = [(r, .inl (tc 0, 2, .inl (upd (upd f (0 : Int32).toNatClampNeg x) (1 : Int32).toNatClampNeg x)))]) (fun w t => va_P D cl w t.heap) (fun q => q = r)) 0 0 (fun q => q = r) := by
  refine Met.ofW (cc := cJ7_fill_53178) (maxL := 4) (ret := none) (by decide) rfl ?_
  intro p e s m args below meth c s₁ B hml hv
  obtain ⟨rfl, hP, hK⟩ := hv
  have hx := B.exec
  have hb := B.bytes
  have hD : va_D (fun q => q = r) [(r, (.inl (tc 0, 2, .inl f) : va_E))] := by
    refine ⟨fun i j y z hy hz _ => ?_, fun k y hy => ?_⟩
    · cases i with
      | zero => cases j with
        | zero => rfl
        | succ j => cases hz
      | succ i => cases hy
    · cases k with
      | zero => cases hy; rfl
      | succ k => cases hy
  have hS : va_S (fun q => q = r) s.heap s.heap [] := va_S.rf
  have hl := lv_entry ([.ref r, .int x]) (n := 4) (Nat.le_of_ble_eq_true rfl)
  rw [lg_entry_eq]
  generalize (lg_sl ([.ref r, .int x]) ++ List.replicate (4 - (lg_sl ([.ref r, .int x])).length) Slot.unset).toArray = ls at hl ⊢
  have hl : lv_has ls 4 [(0, .ref r), (1, .int x)] := hl
  refine lv_iconst (v := 0) hx hb dJ7_fill_53178_0 (by decide) ?_
  refine lv_istore_n (lv' := [(2, .int 0), (0, .ref r), (1, .int x)]) hx hb dJ7_fill_53178_1 rfl hl (by decide) rfl (fun ls hl => ?_)
  refine lv_aload_n hx hb dJ7_fill_53178_2 rfl (lv_at hl 1 rfl) ?_
  refine va_alen hx hb hK hP 0 0 rfl rfl (v := 2) rfl dJ7_fill_53178_3 ?_
  refine lv_istore_n (lv' := [(3, .int 2), (2, .int 0), (0, .ref r), (1, .int x)]) hx hb dJ7_fill_53178_4 rfl hl (by decide) rfl (fun ls hl => ?_)
  refine lv_iload_n hx hb dJ7_fill_53178_5 rfl (lv_at hl 1 rfl) ?_
  refine lv_iload_n hx hb dJ7_fill_53178_6 rfl (lv_at hl 0 rfl) ?_
  refine lv_icmp_ge (tgt := 20) hx hb dJ7_fill_53178_7 (by decide) (fun h => absurd h (by decide)) (fun _ => ?_)
  refine lv_aload_n hx hb dJ7_fill_53178_10 rfl (lv_at hl 2 rfl) ?_
  refine lv_iload_n hx hb dJ7_fill_53178_11 rfl (lv_at hl 1 rfl) ?_
  refine lv_iload_n hx hb dJ7_fill_53178_12 rfl (lv_at hl 3 rfl) ?_
  refine va_iast hx hb hK hP hD hS 0 0 rfl rfl (vp_in_iff.mpr (by decide)) dJ7_fill_53178_13 (fun H locs hP hD hS => ?_)
  refine lv_iinc (v := 1) (lv' := [(2, .int 1), (3, .int 2), (0, .ref r), (1, .int x)]) hx hb dJ7_fill_53178_14 hl (k := 1) rfl (by decide) (by decide) rfl (fun ls hl => ?_)
  refine lv_goto (tgt := 5) hx hb dJ7_fill_53178_17 (by decide) ?_
  refine lv_iload_n hx hb dJ7_fill_53178_5 rfl (lv_at hl 0 rfl) ?_
  refine lv_iload_n hx hb dJ7_fill_53178_6 rfl (lv_at hl 1 rfl) ?_
  refine lv_icmp_ge (tgt := 20) hx hb dJ7_fill_53178_7 (by decide) (fun h => absurd h (by decide)) (fun _ => ?_)
  refine lv_aload_n hx hb dJ7_fill_53178_10 rfl (lv_at hl 2 rfl) ?_
  refine lv_iload_n hx hb dJ7_fill_53178_11 rfl (lv_at hl 0 rfl) ?_
  refine lv_iload_n hx hb dJ7_fill_53178_12 rfl (lv_at hl 3 rfl) ?_
  refine va_iast hx hb hK hP hD hS 0 0 rfl rfl (vp_in_iff.mpr (by decide)) dJ7_fill_53178_13 (fun H locs hP hD hS => ?_)
  refine lv_iinc (v := 2) (lv' := [(2, .int 2), (3, .int 2), (0, .ref r), (1, .int x)]) hx hb dJ7_fill_53178_14 hl (k := 0) rfl (by decide) (by decide) rfl (fun ls hl => ?_)
  refine lv_goto (tgt := 5) hx hb dJ7_fill_53178_17 (by decide) ?_
  refine lv_iload_n hx hb dJ7_fill_53178_5 rfl (lv_at hl 0 rfl) ?_
  refine lv_iload_n hx hb dJ7_fill_53178_6 rfl (lv_at hl 1 rfl) ?_
  refine lv_icmp_ge (tgt := 20) hx hb dJ7_fill_53178_7 (by decide) (fun _ => ?_) (fun h => absurd (by decide) h)
  exact W.vret hx hb B.returns (fun t ht hW => ⟨⟨_, rfl, rfl, by show va_P D cl _ t.heap; rw [ht]; exact hP⟩, hS.F ht⟩) hS.2.2 dJ7_fill_53178_20 B.notSynchronized
set_option maxHeartbeats 4000000 in
/-- the call of it -/
theorem kx_fill {p : Program} {l : Launch} {e : Env} {R : Room} {s : State} {m : MethodId} {args : Array Value} {below : List Frame} {meth : Method} {c : Code} {H : Heap} {locs : List Loc} {cells slots : Nat} {Q : State → Prop} {D : va_G} {tc : Nat → ClassId} {A : Nat → Prop} {cc : ByteArray} {nL oc pc : Nat} {ls : Array Slot} {rest : List Value} {ws : va_W} (j : Nat) {r index : Nat} {f : Nat → Int32} {x : Int32}
    (C : Kx p s m args c D tc A cc nL oc) (hls : ls.size = nL) (hw : Kw D A s ws H locs) (he : ws[j]? = some (r, .inl (tc 0, 2, .inl f))) (hcd : Cond.code yJ7_fill_53178 cJ7_fill_53178 4 none ∈ tg) (hini : Cond.initialized RJ7 ∈ tg) (hlk : Cond.methodLink (cn oc) index yJ7_fill_53178 ∈ tg) (hst : Cond.static yJ7_fill_53178 ∈ tg) (hR : 0 + 1 ≤ R.frames ∧ 8 + (4 + 11) + 0 ≤ R.locals) (hrest : (rest.map fun v => v.category).sum ≤ 8) (hf : cells + 0 ≤ R.cells ∧ slots + 0 ≤ R.slots) (hdg : decode cc pc = .ok (.invokestatic index, 3))
    (kk : ∀ (H1 : Heap) (locs1 : List Loc), Kw D A s (ws.set j (r, .inl (tc 0, 2, .inl (upd (upd f (0 : Int32).toNatClampNeg x) (1 : Int32).toNatClampNeg x)))) H1 locs1 → W p l e R s m args below meth c H1 locs1 cells slots Q (F0 m (pc + 3) ls rest)) : W p l e R s m args below meth c H locs cells slots Q (F0 m pc ls (.int x :: .ref r :: rest)) := by
  obtain ⟨hfix, ⟨hK, -⟩, hA⟩ := C
  obtain ⟨hP, hD, hS⟩ := hw
  have hts := hfix.2.2.2.2
  have hPc : va_P D cl [(r, .inl (tc 0, 2, .inl f))] H := by
    intro k y hy
    cases k with
    | zero => cases hy; exact hP _ _ he
    | succ k => cases hy
  have hr : A r := hD.2 j _ he
  refine va_callv (va_runS (As := [.ref r, .int x]) (rest := rest) hfix (c_fill2 (l := l) (D := D) (tc := tc) r f x) ⟨callB_of 2 hts (good_cd hcd) rfl rfl rfl (hts _ hini) (hts _ hlk) ⟨by decide, by decide, by decide +kernel⟩ hR, hts _ hst⟩ ⟨fun v U g mk q => by obtain ⟨q0, qP, qK⟩ := q; exact ⟨q0, qP, va_K.moved (u := U) (U := U.calling g mk v) (Vm.Alike.refl U.vm) qK⟩, fun U hU hW => ⟨rfl, by rw [hU]; exact hPc, va_K.moved hW.alike hK⟩⟩ rfl rfl hls rfl (lv_room hrest) hdg hf) hS (fun q _ h => by rw [h]; exact hr) (fun q h => by rw [h]; exact hr) (fun w1 t H1 locs1 ht hvm hpost hB hz1 hk1 hS1 => ?_)
  subst hpost
  rw [ht] at hB
  refine kk H1 locs1 ⟨fun k y hy => ?_, hD.set he, hS1⟩
  rw [List.getElem?_set] at hy
  split at hy
  · rename_i e1
    subst e1
    split at hy
    · cases hy
      exact hB 0 _ rfl
    · cases hy
  · rename_i e1
    have hlt := (hP k y hy).lt
    exact (hP k y hy).kept (hk1 y.1 hlt (fun z => e1 (hD.1 j k _ y he hy z.symm)))
set_option maxHeartbeats 4000000 in
set_option maxRecDepth 100000 in
theorem ci_X9 {l : Launch} {D : va_G} {tc : Nat → ClassId} : Ci l D tc yX9_init cX9_init 1 9 [.int 0, .int 0, .int 0, .null] [] { frames := 1, cells := 1, slots := 10, locals := 30 } (fun a w => ∃ q22 : Nat, w = [(a, .inr (9, [.int 0, .int 0, .int 0, .ref q22])), (q22, .inl (tc 0, 10, .inl (fun _ => 0)))]) := by
  refine ct_of (by decide) rfl rfl (Nat.le_of_ble_eq_true rfl) ?_
  intro p e s m args below meth c QF A a ls C hin hl hw kret
  have hx := C.1.1
  have hb := C.1.2.1
  have hl : lv_has ls 1 [(0, .ref a)] := hl
  have hfl : ([.int 0, .int 0, .int 0, .null] : List Value).length = 4 := rfl
  refine lv_aload_n hx hb dX9_init_0 rfl (lv_at hl 0 rfl) ?_
  refine kx_obj C hl.1 wm_9_3 wi_objectInit wc_objectInit ⟨by decide, by decide⟩ dX9_init_1 ?_
  refine lv_aload_n hx hb dX9_init_4 rfl (lv_at hl 0 rfl) ?_
  refine lv_iconst (v := 0) hx hb dX9_init_5 (by decide) ?_
  refine kx_put (q := (RX9, TX9, 4)) 0 C hin hfl hw rfl wf_9_9 (show 0 < 4 by decide) rfl rfl (tyX9_ok 0 (by decide)) rfl rfl dX9_init_6 (fun H locs hfl hw => ?_)
  refine lv_aload_n hx hb dX9_init_9 rfl (lv_at hl 0 rfl) ?_
  refine lv_iconst (v := 0) hx hb dX9_init_10 (by decide) ?_
  refine kx_put (q := (RX9, TX9, 4)) 1 C hin hfl hw rfl wf_9_15 (show 1 < 4 by decide) rfl rfl (tyX9_ok 1 (by decide)) rfl rfl dX9_init_11 (fun H locs hfl hw => ?_)
  refine lv_aload_n hx hb dX9_init_14 rfl (lv_at hl 0 rfl) ?_
  refine lv_iconst (v := 0) hx hb dX9_init_15 (by decide) ?_
  refine kx_put (q := (RX9, TX9, 4)) 2 C hin hfl hw rfl wf_9_18 (show 2 < 4 by decide) rfl rfl (tyX9_ok 2 (by decide)) rfl rfl dX9_init_16 (fun H locs hfl hw => ?_)
  refine lv_aload_n hx hb dX9_init_19 rfl (lv_at hl 0 rfl) ?_
  refine lv_bipush (v := 10) hx hb dX9_init_20 (by decide) ?_
  refine kx_arr 0 10 C hw wa_0 rfl (by decide) (by decide) (by decide) (by decide) (Nat.le_of_ble_eq_true rfl) (Nat.le_of_ble_eq_true rfl) dX9_init_22 (fun q22 H hw => ?_)
  refine kx_put (q := (RX9, TX9, 4)) 3 C hin hfl hw rfl wf_9_21 (show 3 < 4 by decide) rfl rfl (tyX9_ok 3 (by decide)) rfl rfl dX9_init_24 (fun H locs hfl hw => ?_)
  refine W.widen (k := 1) (n := 10) (Nat.le_of_ble_eq_true rfl) (Nat.le_of_ble_eq_true rfl) ?_
  exact kret 27 _ _ _ _ dX9_init_27 ⟨q22, rfl⟩ hw
set_option maxHeartbeats 4000000 in
set_option maxRecDepth 100000 in
theorem ci_X10 {l : Launch} {D : va_G} {tc : Nat → ClassId} : Ci l D tc yX10_init cX10_init 1 10 [.int 0, .null, .null, .null, .null, .null, .null] [] { frames := 1, cells := 6, slots := 180, locals := 30 } (fun a w => ∃ q12 q20 q28 q36 q44 q52 : Nat, w = [(a, .inr (10, [.int 0, .ref q12, .ref q20, .ref q28, .ref q36, .ref q44, .ref q52])), (q12, .inl (tc 0, 30, .inl (fun _ => 0))), (q20, .inl (tc 0, 30, .inl (fun _ => 0))), (q28, .inl (tc 0, 30, .inl (fun _ => 0))), (q36, .inl (tc 0, 30, .inl (fun _ => 0))), (q44, .inl (tc 0, 30, .inl (fun _ => 0))), (q52, .inl (tc 0, 30, .inl (fun _ => 0)))]) := by
  refine ct_of (by decide) rfl rfl (Nat.le_of_ble_eq_true rfl) ?_
  intro p e s m args below meth c QF A a ls C hin hl hw kret
  have hx := C.1.1
  have hb := C.1.2.1
  have hl : lv_has ls 1 [(0, .ref a)] := hl
  have hfl : ([.int 0, .null, .null, .null, .null, .null, .null] : List Value).length = 7 := rfl
  refine lv_aload_n hx hb dX10_init_0 rfl (lv_at hl 0 rfl) ?_
  refine kx_obj C hl.1 wm_10_3 wi_objectInit wc_objectInit ⟨by decide, by decide⟩ dX10_init_1 ?_
  refine lv_aload_n hx hb dX10_init_4 rfl (lv_at hl 0 rfl) ?_
  refine lv_iconst (v := 0) hx hb dX10_init_5 (by decide) ?_
  refine kx_put (q := (RX10, TX10, 7)) 0 C hin hfl hw rfl wf_10_9 (show 0 < 7 by decide) rfl rfl (tyX10_ok 0 (by decide)) rfl rfl dX10_init_6 (fun H locs hfl hw => ?_)
  refine lv_aload_n hx hb dX10_init_9 rfl (lv_at hl 0 rfl) ?_
  refine lv_bipush (v := 30) hx hb dX10_init_10 (by decide) ?_
  refine kx_arr 0 30 C hw wa_0 rfl (by decide) (by decide) (by decide) (by decide) (Nat.le_of_ble_eq_true rfl) (Nat.le_of_ble_eq_true rfl) dX10_init_12 (fun q12 H hw => ?_)
  refine kx_put (q := (RX10, TX10, 7)) 1 C hin hfl hw rfl wf_10_15 (show 1 < 7 by decide) rfl rfl (tyX10_ok 1 (by decide)) rfl rfl dX10_init_14 (fun H locs hfl hw => ?_)
  refine lv_aload_n hx hb dX10_init_17 rfl (lv_at hl 0 rfl) ?_
  refine lv_bipush (v := 30) hx hb dX10_init_18 (by decide) ?_
  refine kx_arr 0 30 C hw wa_0 rfl (by decide) (by decide) (by decide) (by decide) (Nat.le_of_ble_eq_true rfl) (Nat.le_of_ble_eq_true rfl) dX10_init_20 (fun q20 H hw => ?_)
  refine kx_put (q := (RX10, TX10, 7)) 2 C hin hfl hw rfl wf_10_19 (show 2 < 7 by decide) rfl rfl (tyX10_ok 2 (by decide)) rfl rfl dX10_init_22 (fun H locs hfl hw => ?_)
  refine lv_aload_n hx hb dX10_init_25 rfl (lv_at hl 0 rfl) ?_
  refine lv_bipush (v := 30) hx hb dX10_init_26 (by decide) ?_
  refine kx_arr 0 30 C hw wa_0 rfl (by decide) (by decide) (by decide) (by decide) (Nat.le_of_ble_eq_true rfl) (Nat.le_of_ble_eq_true rfl) dX10_init_28 (fun q28 H hw => ?_)
  refine kx_put (q := (RX10, TX10, 7)) 3 C hin hfl hw rfl wf_10_22 (show 3 < 7 by decide) rfl rfl (tyX10_ok 3 (by decide)) rfl rfl dX10_init_30 (fun H locs hfl hw => ?_)
  refine lv_aload_n hx hb dX10_init_33 rfl (lv_at hl 0 rfl) ?_
  refine lv_bipush (v := 30) hx hb dX10_init_34 (by decide) ?_
  refine kx_arr 0 30 C hw wa_0 rfl (by decide) (by decide) (by decide) (by decide) (Nat.le_of_ble_eq_true rfl) (Nat.le_of_ble_eq_true rfl) dX10_init_36 (fun q36 H hw => ?_)
  refine kx_put (q := (RX10, TX10, 7)) 4 C hin hfl hw rfl wf_10_25 (show 4 < 7 by decide) rfl rfl (tyX10_ok 4 (by decide)) rfl rfl dX10_init_38 (fun H locs hfl hw => ?_)
  refine lv_aload_n hx hb dX10_init_41 rfl (lv_at hl 0 rfl) ?_
  refine lv_bipush (v := 30) hx hb dX10_init_42 (by decide) ?_
  refine kx_arr 0 30 C hw wa_0 rfl (by decide) (by decide) (by decide) (by decide) (Nat.le_of_ble_eq_true rfl) (Nat.le_of_ble_eq_true rfl) dX10_init_44 (fun q44 H hw => ?_)
  refine kx_put (q := (RX10, TX10, 7)) 5 C hin hfl hw rfl wf_10_28 (show 5 < 7 by decide) rfl rfl (tyX10_ok 5 (by decide)) rfl rfl dX10_init_46 (fun H locs hfl hw => ?_)
  refine lv_aload_n hx hb dX10_init_49 rfl (lv_at hl 0 rfl) ?_
  refine lv_bipush (v := 30) hx hb dX10_init_50 (by decide) ?_
  refine kx_arr 0 30 C hw wa_0 rfl (by decide) (by decide) (by decide) (by decide) (Nat.le_of_ble_eq_true rfl) (Nat.le_of_ble_eq_true rfl) dX10_init_52 (fun q52 H hw => ?_)
  refine kx_put (q := (RX10, TX10, 7)) 6 C hin hfl hw rfl wf_10_31 (show 6 < 7 by decide) rfl rfl (tyX10_ok 6 (by decide)) rfl rfl dX10_init_54 (fun H locs hfl hw => ?_)
  refine W.widen (k := 6) (n := 180) (Nat.le_of_ble_eq_true rfl) (Nat.le_of_ble_eq_true rfl) ?_
  exact kret 57 _ _ _ _ dX10_init_57 ⟨q12, q20, q28, q36, q44, q52, rfl⟩ hw
set_option maxHeartbeats 4000000 in
set_option maxRecDepth 100000 in
theorem ci_X5 {l : Launch} {D : va_G} {tc : Nat → ClassId} : Ci l D tc yX5_init cX5_init 1 5 [.int 0, .int 0, .null, .null, .null, .null, .null, .null, .null, .null] [] { frames := 1, cells := 8, slots := 800, locals := 30 } (fun a w => ∃ q17 q25 q33 q41 q49 q57 q65 q73 : Nat, w = [(a, .inr (5, [.int 0, .int 0, .ref q17, .ref q25, .ref q33, .ref q41, .ref q49, .ref q57, .ref q65, .ref q73])), (q17, .inl (tc 0, 100, .inl (fun _ => 0))), (q25, .inl (tc 0, 100, .inl (fun _ => 0))), (q33, .inl (tc 0, 100, .inl (fun _ => 0))), (q41, .inl (tc 0, 100, .inl (fun _ => 0))), (q49, .inl (tc 0, 100, .inl (fun _ => 0))), (q57, .inl (tc 0, 100, .inl (fun _ => 0))), (q65, .inl (tc 0, 100, .inl (fun _ => 0))), (q73, .inl (tc 0, 100, .inl (fun _ => 0)))]) := by
  refine ct_of (by decide) rfl rfl (Nat.le_of_ble_eq_true rfl) ?_
  intro p e s m args below meth c QF A a ls C hin hl hw kret
  have hx := C.1.1
  have hb := C.1.2.1
  have hl : lv_has ls 1 [(0, .ref a)] := hl
  have hfl : ([.int 0, .int 0, .null, .null, .null, .null, .null, .null, .null, .null] : List Value).length = 10 := rfl
  refine lv_aload_n hx hb dX5_init_0 rfl (lv_at hl 0 rfl) ?_
  refine kx_obj C hl.1 wm_5_3 wi_objectInit wc_objectInit ⟨by decide, by decide⟩ dX5_init_1 ?_
  refine lv_aload_n hx hb dX5_init_4 rfl (lv_at hl 0 rfl) ?_
  refine lv_iconst (v := 0) hx hb dX5_init_5 (by decide) ?_
  refine kx_put (q := (RX5, TX5, 10)) 0 C hin hfl hw rfl wf_5_9 (show 0 < 10 by decide) rfl rfl (tyX5_ok 0 (by decide)) rfl rfl dX5_init_6 (fun H locs hfl hw => ?_)
  refine lv_aload_n hx hb dX5_init_9 rfl (lv_at hl 0 rfl) ?_
  refine lv_iconst (v := 0) hx hb dX5_init_10 (by decide) ?_
  refine kx_put (q := (RX5, TX5, 10)) 1 C hin hfl hw rfl wf_5_15 (show 1 < 10 by decide) rfl rfl (tyX5_ok 1 (by decide)) rfl rfl dX5_init_11 (fun H locs hfl hw => ?_)
  refine lv_aload_n hx hb dX5_init_14 rfl (lv_at hl 0 rfl) ?_
  refine lv_bipush (v := 100) hx hb dX5_init_15 (by decide) ?_
  refine kx_arr 0 100 C hw wa_0 rfl (by decide) (by decide) (by decide) (by decide) (Nat.le_of_ble_eq_true rfl) (Nat.le_of_ble_eq_true rfl) dX5_init_17 (fun q17 H hw => ?_)
  refine kx_put (q := (RX5, TX5, 10)) 2 C hin hfl hw rfl wf_5_18 (show 2 < 10 by decide) rfl rfl (tyX5_ok 2 (by decide)) rfl rfl dX5_init_19 (fun H locs hfl hw => ?_)
  refine lv_aload_n hx hb dX5_init_22 rfl (lv_at hl 0 rfl) ?_
  refine lv_bipush (v := 100) hx hb dX5_init_23 (by decide) ?_
  refine kx_arr 0 100 C hw wa_0 rfl (by decide) (by decide) (by decide) (by decide) (Nat.le_of_ble_eq_true rfl) (Nat.le_of_ble_eq_true rfl) dX5_init_25 (fun q25 H hw => ?_)
  refine kx_put (q := (RX5, TX5, 10)) 3 C hin hfl hw rfl wf_5_22 (show 3 < 10 by decide) rfl rfl (tyX5_ok 3 (by decide)) rfl rfl dX5_init_27 (fun H locs hfl hw => ?_)
  refine lv_aload_n hx hb dX5_init_30 rfl (lv_at hl 0 rfl) ?_
  refine lv_bipush (v := 100) hx hb dX5_init_31 (by decide) ?_
  refine kx_arr 0 100 C hw wa_0 rfl (by decide) (by decide) (by decide) (by decide) (Nat.le_of_ble_eq_true rfl) (Nat.le_of_ble_eq_true rfl) dX5_init_33 (fun q33 H hw => ?_)
  refine kx_put (q := (RX5, TX5, 10)) 4 C hin hfl hw rfl wf_5_25 (show 4 < 10 by decide) rfl rfl (tyX5_ok 4 (by decide)) rfl rfl dX5_init_35 (fun H locs hfl hw => ?_)
  refine lv_aload_n hx hb dX5_init_38 rfl (lv_at hl 0 rfl) ?_
  refine lv_bipush (v := 100) hx hb dX5_init_39 (by decide) ?_
  refine kx_arr 0 100 C hw wa_0 rfl (by decide) (by decide) (by decide) (by decide) (Nat.le_of_ble_eq_true rfl) (Nat.le_of_ble_eq_true rfl) dX5_init_41 (fun q41 H hw => ?_)
  refine kx_put (q := (RX5, TX5, 10)) 5 C hin hfl hw rfl wf_5_28 (show 5 < 10 by decide) rfl rfl (tyX5_ok 5 (by decide)) rfl rfl dX5_init_43 (fun H locs hfl hw => ?_)
  refine lv_aload_n hx hb dX5_init_46 rfl (lv_at hl 0 rfl) ?_
  refine lv_bipush (v := 100) hx hb dX5_init_47 (by decide) ?_
  refine kx_arr 0 100 C hw wa_0 rfl (by decide) (by decide) (by decide) (by decide) (Nat.le_of_ble_eq_true rfl) (Nat.le_of_ble_eq_true rfl) dX5_init_49 (fun q49 H hw => ?_)
  refine kx_put (q := (RX5, TX5, 10)) 6 C hin hfl hw rfl wf_5_31 (show 6 < 10 by decide) rfl rfl (tyX5_ok 6 (by decide)) rfl rfl dX5_init_51 (fun H locs hfl hw => ?_)
  refine lv_aload_n hx hb dX5_init_54 rfl (lv_at hl 0 rfl) ?_
  refine lv_bipush (v := 100) hx hb dX5_init_55 (by decide) ?_
  refine kx_arr 0 100 C hw wa_0 rfl (by decide) (by decide) (by decide) (by decide) (Nat.le_of_ble_eq_true rfl) (Nat.le_of_ble_eq_true rfl) dX5_init_57 (fun q57 H hw => ?_)
  refine kx_put (q := (RX5, TX5, 10)) 7 C hin hfl hw rfl wf_5_34 (show 7 < 10 by decide) rfl rfl (tyX5_ok 7 (by decide)) rfl rfl dX5_init_59 (fun H locs hfl hw => ?_)
  refine lv_aload_n hx hb dX5_init_62 rfl (lv_at hl 0 rfl) ?_
  refine lv_bipush (v := 100) hx hb dX5_init_63 (by decide) ?_
  refine kx_arr 0 100 C hw wa_0 rfl (by decide) (by decide) (by decide) (by decide) (Nat.le_of_ble_eq_true rfl) (Nat.le_of_ble_eq_true rfl) dX5_init_65 (fun q65 H hw => ?_)
  refine kx_put (q := (RX5, TX5, 10)) 8 C hin hfl hw rfl wf_5_37 (show 8 < 10 by decide) rfl rfl (tyX5_ok 8 (by decide)) rfl rfl dX5_init_67 (fun H locs hfl hw => ?_)
  refine lv_aload_n hx hb dX5_init_70 rfl (lv_at hl 0 rfl) ?_
  refine lv_bipush (v := 100) hx hb dX5_init_71 (by decide) ?_
  refine kx_arr 0 100 C hw wa_0 rfl (by decide) (by decide) (by decide) (by decide) (Nat.le_of_ble_eq_true rfl) (Nat.le_of_ble_eq_true rfl) dX5_init_73 (fun q73 H hw => ?_)
  refine kx_put (q := (RX5, TX5, 10)) 9 C hin hfl hw rfl wf_5_40 (show 9 < 10 by decide) rfl rfl (tyX5_ok 9 (by decide)) rfl rfl dX5_init_75 (fun H locs hfl hw => ?_)
  refine W.widen (k := 8) (n := 800) (Nat.le_of_ble_eq_true rfl) (Nat.le_of_ble_eq_true rfl) ?_
  exact kret 78 _ _ _ _ dX5_init_78 ⟨q17, q25, q33, q41, q49, q57, q65, q73, rfl⟩ hw
set_option maxHeartbeats 4000000 in
set_option maxRecDepth 100000 in
theorem ci_X3 {l : Launch} {D : va_G} {tc : Nat → ClassId} : Ci l D tc yX3_init cX3_init 1 3 [.null, .null, .null, .null] [] { frames := 1, cells := 10, slots := 406, locals := 30 } (fun a w => ∃ q6 q15 q25 q35 : Nat, w = [(a, .inr (3, [.ref q6, .ref q15, .ref q25, .ref q35])), (q6, .inl (tc 1, 3, .inl (fun _ => 0))), (q15, .inl (tc 4, 3, .inr (.inr (.inr (.inr fun j => some (q15 + 1 + j)))))), (q15 + 1 + 0, .inl (tc 0, 96, .inl (fun _ => 0))), (q15 + 1 + 1, .inl (tc 0, 96, .inl (fun _ => 0))), (q15 + 1 + 2, .inl (tc 0, 96, .inl (fun _ => 0))), (q25, .inl (tc 4, 3, .inr (.inr (.inr (.inr fun j => some (q25 + 1 + j)))))), (q25 + 1 + 0, .inl (tc 0, 4, .inl (fun _ => 0))), (q25 + 1 + 1, .inl (tc 0, 4, .inl (fun _ => 0))), (q25 + 1 + 2, .inl (tc 0, 4, .inl (fun _ => 0))), (q35, .inl (tc 0, 97, .inl (fun _ => 0)))]) := by
  refine ct_of (by decide) rfl rfl (Nat.le_of_ble_eq_true rfl) ?_
  intro p e s m args below meth c QF A a ls C hin hl hw kret
  have hx := C.1.1
  have hb := C.1.2.1
  have hl : lv_has ls 1 [(0, .ref a)] := hl
  have hfl : ([.null, .null, .null, .null] : List Value).length = 4 := rfl
  refine lv_aload_n hx hb dX3_init_0 rfl (lv_at hl 0 rfl) ?_
  refine kx_obj C hl.1 wm_3_3 wi_objectInit wc_objectInit ⟨by decide, by decide⟩ dX3_init_1 ?_
  refine lv_aload_n hx hb dX3_init_4 rfl (lv_at hl 0 rfl) ?_
  refine lv_iconst (v := 3) hx hb dX3_init_5 (by decide) ?_
  refine kx_arr 1 3 C hw wa_1 rfl (by decide) (by decide) (by decide) (by decide) (Nat.le_of_ble_eq_true rfl) (Nat.le_of_ble_eq_true rfl) dX3_init_6 (fun q6 H hw => ?_)
  refine kx_put (q := (RX3, TX3, 4)) 0 C hin hfl hw rfl wf_3_9 (show 0 < 4 by decide) rfl rfl (tyX3_ok 0 (by decide)) rfl rfl dX3_init_8 (fun H locs hfl hw => ?_)
  refine lv_aload_n hx hb dX3_init_11 rfl (lv_at hl 0 rfl) ?_
  refine lv_iconst (v := 3) hx hb dX3_init_12 (by decide) ?_
  refine lv_bipush (v := 96) hx hb dX3_init_13 (by decide) ?_
  refine kx_multi (ty := .int) 0 4 3 96 (C0 := "[[I") C hw C.2.1.2.1 wl_3_15 (by decide +kernel) rfl rfl (by decide) (by decide) (by decide) (by decide) (by decide) (by decide) (by decide) (by decide) (Nat.le_of_ble_eq_true rfl) (Nat.le_of_ble_eq_true rfl) dX3_init_15 (fun q15 H locs hw => ?_)
  refine kx_put (q := (RX3, TX3, 4)) 1 C hin hfl hw rfl wf_3_17 (show 1 < 4 by decide) rfl rfl (tyX3_ok 1 (by decide)) rfl rfl dX3_init_19 (fun H locs hfl hw => ?_)
  refine lv_aload_n hx hb dX3_init_22 rfl (lv_at hl 0 rfl) ?_
  refine lv_iconst (v := 3) hx hb dX3_init_23 (by decide) ?_
  refine lv_iconst (v := 4) hx hb dX3_init_24 (by decide) ?_
  refine kx_multi (ty := .int) 0 4 3 4 (C0 := "[[I") C hw C.2.1.2.1 wl_3_15 (by decide +kernel) rfl rfl (by decide) (by decide) (by decide) (by decide) (by decide) (by decide) (by decide) (by decide) (Nat.le_of_ble_eq_true rfl) (Nat.le_of_ble_eq_true rfl) dX3_init_25 (fun q25 H locs hw => ?_)
  refine kx_put (q := (RX3, TX3, 4)) 2 C hin hfl hw rfl wf_3_20 (show 2 < 4 by decide) rfl rfl (tyX3_ok 2 (by decide)) rfl rfl dX3_init_29 (fun H locs hfl hw => ?_)
  refine lv_aload_n hx hb dX3_init_32 rfl (lv_at hl 0 rfl) ?_
  refine lv_bipush (v := 97) hx hb dX3_init_33 (by decide) ?_
  refine kx_arr 0 97 C hw wa_0 rfl (by decide) (by decide) (by decide) (by decide) (Nat.le_of_ble_eq_true rfl) (Nat.le_of_ble_eq_true rfl) dX3_init_35 (fun q35 H hw => ?_)
  refine kx_put (q := (RX3, TX3, 4)) 3 C hin hfl hw rfl wf_3_23 (show 3 < 4 by decide) rfl rfl (tyX3_ok 3 (by decide)) rfl rfl dX3_init_37 (fun H locs hfl hw => ?_)
  refine W.widen (k := 10) (n := 406) (Nat.le_of_ble_eq_true rfl) (Nat.le_of_ble_eq_true rfl) ?_
  exact kret 40 _ _ _ _ dX3_init_40 ⟨q6, q15, q25, q35, rfl⟩ hw
set_option maxHeartbeats 4000000 in
set_option maxRecDepth 100000 in
theorem ci_X4 (a1 : Nat) {l : Launch} {D : va_G} {tc : Nat → ClassId} : Ci l D tc yX4_init cX4_init 2 4 [.null, .null, .int 0, .int 0, .null, .int 0, .int 0, .int 0, .int 0, .int 0, .int 0, .int 0, .int 0] [.ref a1] { frames := 1, cells := 2, slots := 100, locals := 30 } (fun a w => ∃ q7 q14 : Nat, w = [(a, .inr (4, [.ref q7, .ref q14, .int 0, .int 0, .ref a1, .int 0, .int 0, .int 256, .int 0, .int 0, .int 0, .int 0, .int 0])), (q7, .inl (tc 0, 96, .inl (fun _ => 0))), (q14, .inl (tc 0, 4, .inl (fun _ => 0)))]) := by
  refine ct_of (by decide) rfl rfl (Nat.le_of_ble_eq_true rfl) ?_
  intro p e s m args below meth c QF A a ls C hin hl hw kret
  have hx := C.1.1
  have hb := C.1.2.1
  have hl : lv_has ls 2 [(0, .ref a), (1, .ref a1)] := hl
  have hfl : ([.null, .null, .int 0, .int 0, .null, .int 0, .int 0, .int 0, .int 0, .int 0, .int 0, .int 0, .int 0] : List Value).length = 13 := rfl
  refine lv_aload_n hx hb dX4_init_0 rfl (lv_at hl 0 rfl) ?_
  refine kx_obj C hl.1 wm_4_3 wi_objectInit wc_objectInit ⟨by decide, by decide⟩ dX4_init_1 ?_
  refine lv_aload_n hx hb dX4_init_4 rfl (lv_at hl 0 rfl) ?_
  refine lv_bipush (v := 96) hx hb dX4_init_5 (by decide) ?_
  refine kx_arr 0 96 C hw wa_0 rfl (by decide) (by decide) (by decide) (by decide) (Nat.le_of_ble_eq_true rfl) (Nat.le_of_ble_eq_true rfl) dX4_init_7 (fun q7 H hw => ?_)
  refine kx_put (q := (RX4, TX4, 13)) 0 C hin hfl hw rfl wf_4_9 (show 0 < 13 by decide) rfl rfl (tyX4_ok 0 (by decide)) rfl rfl dX4_init_9 (fun H locs hfl hw => ?_)
  refine lv_aload_n hx hb dX4_init_12 rfl (lv_at hl 0 rfl) ?_
  refine lv_iconst (v := 4) hx hb dX4_init_13 (by decide) ?_
  refine kx_arr 0 4 C hw wa_0 rfl (by decide) (by decide) (by decide) (by decide) (Nat.le_of_ble_eq_true rfl) (Nat.le_of_ble_eq_true rfl) dX4_init_14 (fun q14 H hw => ?_)
  refine kx_put (q := (RX4, TX4, 13)) 1 C hin hfl hw rfl wf_4_15 (show 1 < 13 by decide) rfl rfl (tyX4_ok 1 (by decide)) rfl rfl dX4_init_16 (fun H locs hfl hw => ?_)
  refine lv_aload_n hx hb dX4_init_19 rfl (lv_at hl 0 rfl) ?_
  refine lv_iconst (v := 0) hx hb dX4_init_20 (by decide) ?_
  refine kx_put (q := (RX4, TX4, 13)) 2 C hin hfl hw rfl wf_4_18 (show 2 < 13 by decide) rfl rfl (tyX4_ok 2 (by decide)) rfl rfl dX4_init_21 (fun H locs hfl hw => ?_)
  refine lv_aload_n hx hb dX4_init_24 rfl (lv_at hl 0 rfl) ?_
  refine lv_iconst (v := 0) hx hb dX4_init_25 (by decide) ?_
  refine kx_put (q := (RX4, TX4, 13)) 3 C hin hfl hw rfl wf_4_22 (show 3 < 13 by decide) rfl rfl (tyX4_ok 3 (by decide)) rfl rfl dX4_init_26 (fun H locs hfl hw => ?_)
  refine lv_aload_n hx hb dX4_init_29 rfl (lv_at hl 0 rfl) ?_
  refine lv_iconst (v := 0) hx hb dX4_init_30 (by decide) ?_
  refine kx_put (q := (RX4, TX4, 13)) 5 C hin hfl hw rfl wf_4_25 (show 5 < 13 by decide) rfl rfl (tyX4_ok 5 (by decide)) rfl rfl dX4_init_31 (fun H locs hfl hw => ?_)
  refine lv_aload_n hx hb dX4_init_34 rfl (lv_at hl 0 rfl) ?_
  refine lv_iconst (v := 0) hx hb dX4_init_35 (by decide) ?_
  refine kx_put (q := (RX4, TX4, 13)) 6 C hin hfl hw rfl wf_4_28 (show 6 < 13 by decide) rfl rfl (tyX4_ok 6 (by decide)) rfl rfl dX4_init_36 (fun H locs hfl hw => ?_)
  refine lv_aload_n hx hb dX4_init_39 rfl (lv_at hl 0 rfl) ?_
  refine lv_sipush (v := 256) hx hb dX4_init_40 (by decide) ?_
  refine kx_put (q := (RX4, TX4, 13)) 7 C hin hfl hw rfl wf_4_31 (show 7 < 13 by decide) rfl rfl (tyX4_ok 7 (by decide)) rfl rfl dX4_init_43 (fun H locs hfl hw => ?_)
  refine lv_aload_n hx hb dX4_init_46 rfl (lv_at hl 0 rfl) ?_
  refine lv_iconst (v := 0) hx hb dX4_init_47 (by decide) ?_
  refine kx_put (q := (RX4, TX4, 13)) 8 C hin hfl hw rfl wf_4_34 (show 8 < 13 by decide) rfl rfl (tyX4_ok 8 (by decide)) rfl rfl dX4_init_48 (fun H locs hfl hw => ?_)
  refine lv_aload_n hx hb dX4_init_51 rfl (lv_at hl 0 rfl) ?_
  refine lv_iconst (v := 0) hx hb dX4_init_52 (by decide) ?_
  refine kx_put (q := (RX4, TX4, 13)) 9 C hin hfl hw rfl wf_4_37 (show 9 < 13 by decide) rfl rfl (tyX4_ok 9 (by decide)) rfl rfl dX4_init_53 (fun H locs hfl hw => ?_)
  refine lv_aload_n hx hb dX4_init_56 rfl (lv_at hl 0 rfl) ?_
  refine lv_iconst (v := 0) hx hb dX4_init_57 (by decide) ?_
  refine kx_put (q := (RX4, TX4, 13)) 10 C hin hfl hw rfl wf_4_40 (show 10 < 13 by decide) rfl rfl (tyX4_ok 10 (by decide)) rfl rfl dX4_init_58 (fun H locs hfl hw => ?_)
  refine lv_aload_n hx hb dX4_init_61 rfl (lv_at hl 0 rfl) ?_
  refine lv_iconst (v := 0) hx hb dX4_init_62 (by decide) ?_
  refine kx_put (q := (RX4, TX4, 13)) 11 C hin hfl hw rfl wf_4_44 (show 11 < 13 by decide) rfl rfl (tyX4_ok 11 (by decide)) rfl rfl dX4_init_63 (fun H locs hfl hw => ?_)
  refine lv_aload_n hx hb dX4_init_66 rfl (lv_at hl 0 rfl) ?_
  refine lv_iconst (v := 0) hx hb dX4_init_67 (by decide) ?_
  refine kx_put (q := (RX4, TX4, 13)) 12 C hin hfl hw rfl wf_4_47 (show 12 < 13 by decide) rfl rfl (tyX4_ok 12 (by decide)) rfl rfl dX4_init_68 (fun H locs hfl hw => ?_)
  refine lv_aload_n hx hb dX4_init_71 rfl (lv_at hl 0 rfl) ?_
  refine lv_aload_n hx hb dX4_init_72 rfl (lv_at hl 1 rfl) ?_
  refine kx_put (q := (RX4, TX4, 13)) 4 C hin hfl hw rfl wf_4_50 (show 4 < 13 by decide) rfl rfl (tyX4_ok 4 (by decide)) rfl rfl dX4_init_73 (fun H locs hfl hw => ?_)
  refine W.widen (k := 2) (n := 100) (Nat.le_of_ble_eq_true rfl) (Nat.le_of_ble_eq_true rfl) ?_
  exact kret 76 _ _ _ _ dX4_init_76 ⟨q7, q14, rfl⟩ hw
set_option maxHeartbeats 4000000 in
set_option maxRecDepth 100000 in
theorem ci_X8 (a1 : Nat) (a2 : Nat) (a3 : Nat) (a4 : Nat) {l : Launch} {D : va_G} {tc : Nat → ClassId} : Ci l D tc yX8_init cX8_init 5 8 [.null, .null, .null, .null, .int 0, .null, .null, .null, .null, .null] [.ref a1, .ref a2, .ref a3, .ref a4] { frames := 1, cells := 10, slots := 125, locals := 30 } (fun a w => ∃ q7 q15 q23 q31 q45 : Nat, w = [(a, .inr (8, [.ref q7, .ref q15, .ref q23, .ref q31, .int 0, .ref a1, .ref a2, .ref a3, .ref a4, .ref q45])), (q7, .inl (tc 1, 30, .inl (fun _ => 0))), (q15, .inl (tc 0, 30, .inl (fun _ => 0))), (q23, .inl (tc 0, 30, .inl (fun _ => 0))), (q31, .inl (tc 4, 5, .inr (.inr (.inr (.inr fun j => some (q31 + 1 + j)))))), (q31 + 1 + 0, .inl (tc 0, 5, .inl (fun _ => 0))), (q31 + 1 + 1, .inl (tc 0, 5, .inl (fun _ => 0))), (q31 + 1 + 2, .inl (tc 0, 5, .inl (fun _ => 0))), (q31 + 1 + 3, .inl (tc 0, 5, .inl (fun _ => 0))), (q31 + 1 + 4, .inl (tc 0, 5, .inl (fun _ => 0))), (q45, .inl (tc 0, 5, .inl (fun _ => 0)))]) := by
  refine ct_of (by decide) rfl rfl (Nat.le_of_ble_eq_true rfl) ?_
  intro p e s m args below meth c QF A a ls C hin hl hw kret
  have hx := C.1.1
  have hb := C.1.2.1
  have hl : lv_has ls 5 [(0, .ref a), (1, .ref a1), (2, .ref a2), (3, .ref a3), (4, .ref a4)] := hl
  have hfl : ([.null, .null, .null, .null, .int 0, .null, .null, .null, .null, .null] : List Value).length = 10 := rfl
  refine lv_aload_n hx hb dX8_init_0 rfl (lv_at hl 0 rfl) ?_
  refine kx_obj C hl.1 wm_8_3 wi_objectInit wc_objectInit ⟨by decide, by decide⟩ dX8_init_1 ?_
  refine lv_aload_n hx hb dX8_init_4 rfl (lv_at hl 0 rfl) ?_
  refine lv_bipush (v := 30) hx hb dX8_init_5 (by decide) ?_
  refine kx_arr 1 30 C hw wa_1 rfl (by decide) (by decide) (by decide) (by decide) (Nat.le_of_ble_eq_true rfl) (Nat.le_of_ble_eq_true rfl) dX8_init_7 (fun q7 H hw => ?_)
  refine kx_put (q := (RX8, TX8, 10)) 0 C hin hfl hw rfl wf_8_9 (show 0 < 10 by decide) rfl rfl (tyX8_ok 0 (by decide)) rfl rfl dX8_init_9 (fun H locs hfl hw => ?_)
  refine lv_aload_n hx hb dX8_init_12 rfl (lv_at hl 0 rfl) ?_
  refine lv_bipush (v := 30) hx hb dX8_init_13 (by decide) ?_
  refine kx_arr 0 30 C hw wa_0 rfl (by decide) (by decide) (by decide) (by decide) (Nat.le_of_ble_eq_true rfl) (Nat.le_of_ble_eq_true rfl) dX8_init_15 (fun q15 H hw => ?_)
  refine kx_put (q := (RX8, TX8, 10)) 1 C hin hfl hw rfl wf_8_15 (show 1 < 10 by decide) rfl rfl (tyX8_ok 1 (by decide)) rfl rfl dX8_init_17 (fun H locs hfl hw => ?_)
  refine lv_aload_n hx hb dX8_init_20 rfl (lv_at hl 0 rfl) ?_
  refine lv_bipush (v := 30) hx hb dX8_init_21 (by decide) ?_
  refine kx_arr 0 30 C hw wa_0 rfl (by decide) (by decide) (by decide) (by decide) (Nat.le_of_ble_eq_true rfl) (Nat.le_of_ble_eq_true rfl) dX8_init_23 (fun q23 H hw => ?_)
  refine kx_put (q := (RX8, TX8, 10)) 2 C hin hfl hw rfl wf_8_19 (show 2 < 10 by decide) rfl rfl (tyX8_ok 2 (by decide)) rfl rfl dX8_init_25 (fun H locs hfl hw => ?_)
  refine lv_aload_n hx hb dX8_init_28 rfl (lv_at hl 0 rfl) ?_
  refine lv_iconst (v := 5) hx hb dX8_init_29 (by decide) ?_
  refine lv_iconst (v := 5) hx hb dX8_init_30 (by decide) ?_
  refine kx_multi (ty := .int) 0 4 5 5 (C0 := "[[I") C hw C.2.1.2.1 wl_8_22 (by decide +kernel) rfl rfl (by decide) (by decide) (by decide) (by decide) (by decide) (by decide) (by decide) (by decide) (Nat.le_of_ble_eq_true rfl) (Nat.le_of_ble_eq_true rfl) dX8_init_31 (fun q31 H locs hw => ?_)
  refine kx_put (q := (RX8, TX8, 10)) 3 C hin hfl hw rfl wf_8_24 (show 3 < 10 by decide) rfl rfl (tyX8_ok 3 (by decide)) rfl rfl dX8_init_35 (fun H locs hfl hw => ?_)
  refine lv_aload_n hx hb dX8_init_38 rfl (lv_at hl 0 rfl) ?_
  refine lv_iconst (v := 0) hx hb dX8_init_39 (by decide) ?_
  refine kx_put (q := (RX8, TX8, 10)) 4 C hin hfl hw rfl wf_8_27 (show 4 < 10 by decide) rfl rfl (tyX8_ok 4 (by decide)) rfl rfl dX8_init_40 (fun H locs hfl hw => ?_)
  refine lv_aload_n hx hb dX8_init_43 rfl (lv_at hl 0 rfl) ?_
  refine lv_iconst (v := 5) hx hb dX8_init_44 (by decide) ?_
  refine kx_arr 0 5 C hw wa_0 rfl (by decide) (by decide) (by decide) (by decide) (Nat.le_of_ble_eq_true rfl) (Nat.le_of_ble_eq_true rfl) dX8_init_45 (fun q45 H hw => ?_)
  refine kx_put (q := (RX8, TX8, 10)) 9 C hin hfl hw rfl wf_8_31 (show 9 < 10 by decide) rfl rfl (tyX8_ok 9 (by decide)) rfl rfl dX8_init_47 (fun H locs hfl hw => ?_)
  refine lv_aload_n hx hb dX8_init_50 rfl (lv_at hl 0 rfl) ?_
  refine lv_aload_n hx hb dX8_init_51 rfl (lv_at hl 1 rfl) ?_
  refine kx_put (q := (RX8, TX8, 10)) 5 C hin hfl hw rfl wf_8_34 (show 5 < 10 by decide) rfl rfl (tyX8_ok 5 (by decide)) rfl rfl dX8_init_52 (fun H locs hfl hw => ?_)
  refine lv_aload_n hx hb dX8_init_55 rfl (lv_at hl 0 rfl) ?_
  refine lv_aload_n hx hb dX8_init_56 rfl (lv_at hl 2 rfl) ?_
  refine kx_put (q := (RX8, TX8, 10)) 6 C hin hfl hw rfl wf_8_38 (show 6 < 10 by decide) rfl rfl (tyX8_ok 6 (by decide)) rfl rfl dX8_init_57 (fun H locs hfl hw => ?_)
  refine lv_aload_n hx hb dX8_init_60 rfl (lv_at hl 0 rfl) ?_
  refine lv_aload_n hx hb dX8_init_61 rfl (lv_at hl 3 rfl) ?_
  refine kx_put (q := (RX8, TX8, 10)) 7 C hin hfl hw rfl wf_8_42 (show 7 < 10 by decide) rfl rfl (tyX8_ok 7 (by decide)) rfl rfl dX8_init_62 (fun H locs hfl hw => ?_)
  refine lv_aload_n hx hb dX8_init_65 rfl (lv_at hl 0 rfl) ?_
  refine lv_aload hx hb dX8_init_66 (lv_at hl 4 rfl) ?_
  refine kx_put (q := (RX8, TX8, 10)) 8 C hin hfl hw rfl wf_8_46 (show 8 < 10 by decide) rfl rfl (tyX8_ok 8 (by decide)) rfl rfl dX8_init_68 (fun H locs hfl hw => ?_)
  refine W.widen (k := 10) (n := 125) (Nat.le_of_ble_eq_true rfl) (Nat.le_of_ble_eq_true rfl) ?_
  exact kret 71 _ _ _ _ dX8_init_71 ⟨q7, q15, q23, q31, q45, rfl⟩ hw
set_option maxHeartbeats 4000000 in
set_option maxRecDepth 100000 in
theorem ci_X0 {l : Launch} {D : va_G} {tc : Nat → ClassId} : Ci l D tc yX0_init cX0_init 1 0 [.int 0, .null, .null, .int 0, .null, .null, .null, .null] [] { frames := 1, cells := 12, slots := 76, locals := 30 } (fun a w => ∃ q12 q20 q33 q41 q49 q59 : Nat, w = [(a, .inr (0, [.int 0, .ref q12, .ref q20, .int 0, .ref q33, .ref q41, .ref q49, .ref q59])), (q12, .inl (tc 0, 8, .inl (fun _ => 0))), (q20, .inl (tc 0, 8, .inl (fun _ => 0))), (q33, .inl (tc 0, 6, .inl (fun _ => 0))), (q41, .inl (tc 0, 6, .inl (fun _ => 0))), (q49, .inl (tc 0, 6, .inl (fun _ => 0))), (q59, .inl (tc 4, 6, .inr (.inr (.inr (.inr fun j => some (q59 + 1 + j)))))), (q59 + 1 + 0, .inl (tc 0, 6, .inl (fun _ => 0))), (q59 + 1 + 1, .inl (tc 0, 6, .inl (fun _ => 0))), (q59 + 1 + 2, .inl (tc 0, 6, .inl (fun _ => 0))), (q59 + 1 + 3, .inl (tc 0, 6, .inl (fun _ => 0))), (q59 + 1 + 4, .inl (tc 0, 6, .inl (fun _ => 0))), (q59 + 1 + 5, .inl (tc 0, 6, .inl (fun _ => 0)))]) := by
  refine ct_of (by decide) rfl rfl (Nat.le_of_ble_eq_true rfl) ?_
  intro p e s m args below meth c QF A a ls C hin hl hw kret
  have hx := C.1.1
  have hb := C.1.2.1
  have hl : lv_has ls 1 [(0, .ref a)] := hl
  have hfl : ([.int 0, .null, .null, .int 0, .null, .null, .null, .null] : List Value).length = 8 := rfl
  refine lv_aload_n hx hb dX0_init_0 rfl (lv_at hl 0 rfl) ?_
  refine kx_obj C hl.1 wm_0_3 wi_objectInit wc_objectInit ⟨by decide, by decide⟩ dX0_init_1 ?_
  refine lv_aload_n hx hb dX0_init_4 rfl (lv_at hl 0 rfl) ?_
  refine lv_iconst (v := 0) hx hb dX0_init_5 (by decide) ?_
  refine kx_put (q := (RX0, TX0, 8)) 0 C hin hfl hw rfl wf_0_9 (show 0 < 8 by decide) rfl rfl (tyX0_ok 0 (by decide)) rfl rfl dX0_init_6 (fun H locs hfl hw => ?_)
  refine lv_aload_n hx hb dX0_init_9 rfl (lv_at hl 0 rfl) ?_
  refine lv_bipush (v := 8) hx hb dX0_init_10 (by decide) ?_
  refine kx_arr 0 8 C hw wa_0 rfl (by decide) (by decide) (by decide) (by decide) (Nat.le_of_ble_eq_true rfl) (Nat.le_of_ble_eq_true rfl) dX0_init_12 (fun q12 H hw => ?_)
  refine kx_put (q := (RX0, TX0, 8)) 1 C hin hfl hw rfl wf_0_15 (show 1 < 8 by decide) rfl rfl (tyX0_ok 1 (by decide)) rfl rfl dX0_init_14 (fun H locs hfl hw => ?_)
  refine lv_aload_n hx hb dX0_init_17 rfl (lv_at hl 0 rfl) ?_
  refine lv_bipush (v := 8) hx hb dX0_init_18 (by decide) ?_
  refine kx_arr 0 8 C hw wa_0 rfl (by decide) (by decide) (by decide) (by decide) (Nat.le_of_ble_eq_true rfl) (Nat.le_of_ble_eq_true rfl) dX0_init_20 (fun q20 H hw => ?_)
  refine kx_put (q := (RX0, TX0, 8)) 2 C hin hfl hw rfl wf_0_19 (show 2 < 8 by decide) rfl rfl (tyX0_ok 2 (by decide)) rfl rfl dX0_init_22 (fun H locs hfl hw => ?_)
  refine lv_aload_n hx hb dX0_init_25 rfl (lv_at hl 0 rfl) ?_
  refine lv_iconst (v := 0) hx hb dX0_init_26 (by decide) ?_
  refine kx_put (q := (RX0, TX0, 8)) 3 C hin hfl hw rfl wf_0_22 (show 3 < 8 by decide) rfl rfl (tyX0_ok 3 (by decide)) rfl rfl dX0_init_27 (fun H locs hfl hw => ?_)
  refine lv_aload_n hx hb dX0_init_30 rfl (lv_at hl 0 rfl) ?_
  refine lv_bipush (v := 6) hx hb dX0_init_31 (by decide) ?_
  refine kx_arr 0 6 C hw wa_0 rfl (by decide) (by decide) (by decide) (by decide) (Nat.le_of_ble_eq_true rfl) (Nat.le_of_ble_eq_true rfl) dX0_init_33 (fun q33 H hw => ?_)
  refine kx_put (q := (RX0, TX0, 8)) 4 C hin hfl hw rfl wf_0_25 (show 4 < 8 by decide) rfl rfl (tyX0_ok 4 (by decide)) rfl rfl dX0_init_35 (fun H locs hfl hw => ?_)
  refine lv_aload_n hx hb dX0_init_38 rfl (lv_at hl 0 rfl) ?_
  refine lv_bipush (v := 6) hx hb dX0_init_39 (by decide) ?_
  refine kx_arr 0 6 C hw wa_0 rfl (by decide) (by decide) (by decide) (by decide) (Nat.le_of_ble_eq_true rfl) (Nat.le_of_ble_eq_true rfl) dX0_init_41 (fun q41 H hw => ?_)
  refine kx_put (q := (RX0, TX0, 8)) 5 C hin hfl hw rfl wf_0_28 (show 5 < 8 by decide) rfl rfl (tyX0_ok 5 (by decide)) rfl rfl dX0_init_43 (fun H locs hfl hw => ?_)
  refine lv_aload_n hx hb dX0_init_46 rfl (lv_at hl 0 rfl) ?_
  refine lv_bipush (v := 6) hx hb dX0_init_47 (by decide) ?_
  refine kx_arr 0 6 C hw wa_0 rfl (by decide) (by decide) (by decide) (by decide) (Nat.le_of_ble_eq_true rfl) (Nat.le_of_ble_eq_true rfl) dX0_init_49 (fun q49 H hw => ?_)
  refine kx_put (q := (RX0, TX0, 8)) 6 C hin hfl hw rfl wf_0_31 (show 6 < 8 by decide) rfl rfl (tyX0_ok 6 (by decide)) rfl rfl dX0_init_51 (fun H locs hfl hw => ?_)
  refine lv_aload_n hx hb dX0_init_54 rfl (lv_at hl 0 rfl) ?_
  refine lv_bipush (v := 6) hx hb dX0_init_55 (by decide) ?_
  refine lv_bipush (v := 6) hx hb dX0_init_57 (by decide) ?_
  refine kx_multi (ty := .int) 0 4 6 6 (C0 := "[[I") C hw C.2.1.2.1 wl_0_34 (by decide +kernel) rfl rfl (by decide) (by decide) (by decide) (by decide) (by decide) (by decide) (by decide) (by decide) (Nat.le_of_ble_eq_true rfl) (Nat.le_of_ble_eq_true rfl) dX0_init_59 (fun q59 H locs hw => ?_)
  refine kx_put (q := (RX0, TX0, 8)) 7 C hin hfl hw rfl wf_0_36 (show 7 < 8 by decide) rfl rfl (tyX0_ok 7 (by decide)) rfl rfl dX0_init_63 (fun H locs hfl hw => ?_)
  refine W.widen (k := 12) (n := 76) (Nat.le_of_ble_eq_true rfl) (Nat.le_of_ble_eq_true rfl) ?_
  exact kret 66 _ _ _ _ dX0_init_66 ⟨q12, q20, q33, q41, q49, q59, rfl⟩ hw
set_option maxHeartbeats 4000000 in
set_option maxRecDepth 100000 in
theorem ci_X6 (a1 : Nat) {l : Launch} {D : va_G} {tc : Nat → ClassId} : Ci l D tc yX6_init cX6_init 2 6 [.int 0, .int 0, .null, .null, .null, .null, .null, .null, .int 0] [.ref a1] { frames := 1, cells := 12, slots := 94, locals := 30 } (fun a w => ∃ q17 q25 q33 q43 q53 : Nat, w = [(a, .inr (6, [.int 0, .int 0, .ref q17, .ref q25, .ref a1, .ref q33, .ref q43, .ref q53, .int 0])), (q17, .inl (tc 0, 6, .inl (fun _ => 0))), (q25, .inl (tc 0, 12, .inl (fun _ => 0))), (q33, .inl (tc 0, 6, .inl (fun _ => 0))), (q43, .inl (tc 4, 7, .inr (.inr (.inr (.inr fun j => some (q43 + 1 + j)))))), (q43 + 1 + 0, .inl (tc 0, 8, .inl (fun _ => 0))), (q43 + 1 + 1, .inl (tc 0, 8, .inl (fun _ => 0))), (q43 + 1 + 2, .inl (tc 0, 8, .inl (fun _ => 0))), (q43 + 1 + 3, .inl (tc 0, 8, .inl (fun _ => 0))), (q43 + 1 + 4, .inl (tc 0, 8, .inl (fun _ => 0))), (q43 + 1 + 5, .inl (tc 0, 8, .inl (fun _ => 0))), (q43 + 1 + 6, .inl (tc 0, 8, .inl (fun _ => 0))), (q53, .inl (tc 0, 7, .inl (fun _ => 0)))]) := by
  refine ct_of (by decide) rfl rfl (Nat.le_of_ble_eq_true rfl) ?_
  intro p e s m args below meth c QF A a ls C hin hl hw kret
  have hx := C.1.1
  have hb := C.1.2.1
  have hl : lv_has ls 2 [(0, .ref a), (1, .ref a1)] := hl
  have hfl : ([.int 0, .int 0, .null, .null, .null, .null, .null, .null, .int 0] : List Value).length = 9 := rfl
  refine lv_aload_n hx hb dX6_init_0 rfl (lv_at hl 0 rfl) ?_
  refine kx_obj C hl.1 wm_6_3 wi_objectInit wc_objectInit ⟨by decide, by decide⟩ dX6_init_1 ?_
  refine lv_aload_n hx hb dX6_init_4 rfl (lv_at hl 0 rfl) ?_
  refine lv_iconst (v := 0) hx hb dX6_init_5 (by decide) ?_
  refine kx_put (q := (RX6, TX6, 9)) 0 C hin hfl hw rfl wf_6_9 (show 0 < 9 by decide) rfl rfl (tyX6_ok 0 (by decide)) rfl rfl dX6_init_6 (fun H locs hfl hw => ?_)
  refine lv_aload_n hx hb dX6_init_9 rfl (lv_at hl 0 rfl) ?_
  refine lv_iconst (v := 0) hx hb dX6_init_10 (by decide) ?_
  refine kx_put (q := (RX6, TX6, 9)) 1 C hin hfl hw rfl wf_6_15 (show 1 < 9 by decide) rfl rfl (tyX6_ok 1 (by decide)) rfl rfl dX6_init_11 (fun H locs hfl hw => ?_)
  refine lv_aload_n hx hb dX6_init_14 rfl (lv_at hl 0 rfl) ?_
  refine lv_bipush (v := 6) hx hb dX6_init_15 (by decide) ?_
  refine kx_arr 0 6 C hw wa_0 rfl (by decide) (by decide) (by decide) (by decide) (Nat.le_of_ble_eq_true rfl) (Nat.le_of_ble_eq_true rfl) dX6_init_17 (fun q17 H hw => ?_)
  refine kx_put (q := (RX6, TX6, 9)) 2 C hin hfl hw rfl wf_6_18 (show 2 < 9 by decide) rfl rfl (tyX6_ok 2 (by decide)) rfl rfl dX6_init_19 (fun H locs hfl hw => ?_)
  refine lv_aload_n hx hb dX6_init_22 rfl (lv_at hl 0 rfl) ?_
  refine lv_bipush (v := 12) hx hb dX6_init_23 (by decide) ?_
  refine kx_arr 0 12 C hw wa_0 rfl (by decide) (by decide) (by decide) (by decide) (Nat.le_of_ble_eq_true rfl) (Nat.le_of_ble_eq_true rfl) dX6_init_25 (fun q25 H hw => ?_)
  refine kx_put (q := (RX6, TX6, 9)) 3 C hin hfl hw rfl wf_6_22 (show 3 < 9 by decide) rfl rfl (tyX6_ok 3 (by decide)) rfl rfl dX6_init_27 (fun H locs hfl hw => ?_)
  refine lv_aload_n hx hb dX6_init_30 rfl (lv_at hl 0 rfl) ?_
  refine lv_bipush (v := 6) hx hb dX6_init_31 (by decide) ?_
  refine kx_arr 0 6 C hw wa_0 rfl (by decide) (by decide) (by decide) (by decide) (Nat.le_of_ble_eq_true rfl) (Nat.le_of_ble_eq_true rfl) dX6_init_33 (fun q33 H hw => ?_)
  refine kx_put (q := (RX6, TX6, 9)) 5 C hin hfl hw rfl wf_6_25 (show 5 < 9 by decide) rfl rfl (tyX6_ok 5 (by decide)) rfl rfl dX6_init_35 (fun H locs hfl hw => ?_)
  refine lv_aload_n hx hb dX6_init_38 rfl (lv_at hl 0 rfl) ?_
  refine lv_bipush (v := 7) hx hb dX6_init_39 (by decide) ?_
  refine lv_bipush (v := 8) hx hb dX6_init_41 (by decide) ?_
  refine kx_multi (ty := .int) 0 4 7 8 (C0 := "[[I") C hw C.2.1.2.1 wl_6_28 (by decide +kernel) rfl rfl (by decide) (by decide) (by decide) (by decide) (by decide) (by decide) (by decide) (by decide) (Nat.le_of_ble_eq_true rfl) (Nat.le_of_ble_eq_true rfl) dX6_init_43 (fun q43 H locs hw => ?_)
  refine kx_put (q := (RX6, TX6, 9)) 6 C hin hfl hw rfl wf_6_30 (show 6 < 9 by decide) rfl rfl (tyX6_ok 6 (by decide)) rfl rfl dX6_init_47 (fun H locs hfl hw => ?_)
  refine lv_aload_n hx hb dX6_init_50 rfl (lv_at hl 0 rfl) ?_
  refine lv_bipush (v := 7) hx hb dX6_init_51 (by decide) ?_
  refine kx_arr 0 7 C hw wa_0 rfl (by decide) (by decide) (by decide) (by decide) (Nat.le_of_ble_eq_true rfl) (Nat.le_of_ble_eq_true rfl) dX6_init_53 (fun q53 H hw => ?_)
  refine kx_put (q := (RX6, TX6, 9)) 7 C hin hfl hw rfl wf_6_33 (show 7 < 9 by decide) rfl rfl (tyX6_ok 7 (by decide)) rfl rfl dX6_init_55 (fun H locs hfl hw => ?_)
  refine lv_aload_n hx hb dX6_init_58 rfl (lv_at hl 0 rfl) ?_
  refine lv_iconst (v := 0) hx hb dX6_init_59 (by decide) ?_
  refine kx_put (q := (RX6, TX6, 9)) 8 C hin hfl hw rfl wf_6_36 (show 8 < 9 by decide) rfl rfl (tyX6_ok 8 (by decide)) rfl rfl dX6_init_60 (fun H locs hfl hw => ?_)
  refine lv_aload_n hx hb dX6_init_63 rfl (lv_at hl 0 rfl) ?_
  refine lv_aload_n hx hb dX6_init_64 rfl (lv_at hl 1 rfl) ?_
  refine kx_put (q := (RX6, TX6, 9)) 4 C hin hfl hw rfl wf_6_39 (show 4 < 9 by decide) rfl rfl (tyX6_ok 4 (by decide)) rfl rfl dX6_init_65 (fun H locs hfl hw => ?_)
  refine W.widen (k := 12) (n := 94) (Nat.le_of_ble_eq_true rfl) (Nat.le_of_ble_eq_true rfl) ?_
  exact kret 68 _ _ _ _ dX6_init_68 ⟨q17, q25, q33, q43, q53, rfl⟩ hw
set_option maxHeartbeats 4000000 in
set_option maxRecDepth 100000 in
theorem ci_X1 {l : Launch} {D : va_G} {tc : Nat → ClassId} : Ci l D tc yX1_init cX1_init 1 1 [.int 0, .null, .null, .null, .null, .null, .null] [] { frames := 1, cells := 6, slots := 76, locals := 30 } (fun a w => ∃ q12 q20 q28 q36 q44 q52 : Nat, w = [(a, .inr (1, [.int 0, .ref q12, .ref q20, .ref q28, .ref q36, .ref q44, .ref q52])), (q12, .inl (tc 0, 6, .inl (fun _ => 0))), (q20, .inl (tc 0, 16, .inl (fun _ => 0))), (q28, .inl (tc 0, 16, .inl (fun _ => 0))), (q36, .inl (tc 0, 16, .inl (fun _ => 0))), (q44, .inl (tc 0, 16, .inl (fun _ => 0))), (q52, .inl (tc 1, 6, .inl (fun _ => 0)))]) := by
  refine ct_of (by decide) rfl rfl (Nat.le_of_ble_eq_true rfl) ?_
  intro p e s m args below meth c QF A a ls C hin hl hw kret
  have hx := C.1.1
  have hb := C.1.2.1
  have hl : lv_has ls 1 [(0, .ref a)] := hl
  have hfl : ([.int 0, .null, .null, .null, .null, .null, .null] : List Value).length = 7 := rfl
  refine lv_aload_n hx hb dX1_init_0 rfl (lv_at hl 0 rfl) ?_
  refine kx_obj C hl.1 wm_1_3 wi_objectInit wc_objectInit ⟨by decide, by decide⟩ dX1_init_1 ?_
  refine lv_aload_n hx hb dX1_init_4 rfl (lv_at hl 0 rfl) ?_
  refine lv_iconst (v := 0) hx hb dX1_init_5 (by decide) ?_
  refine kx_put (q := (RX1, TX1, 7)) 0 C hin hfl hw rfl wf_1_9 (show 0 < 7 by decide) rfl rfl (tyX1_ok 0 (by decide)) rfl rfl dX1_init_6 (fun H locs hfl hw => ?_)
  refine lv_aload_n hx hb dX1_init_9 rfl (lv_at hl 0 rfl) ?_
  refine lv_bipush (v := 6) hx hb dX1_init_10 (by decide) ?_
  refine kx_arr 0 6 C hw wa_0 rfl (by decide) (by decide) (by decide) (by decide) (Nat.le_of_ble_eq_true rfl) (Nat.le_of_ble_eq_true rfl) dX1_init_12 (fun q12 H hw => ?_)
  refine kx_put (q := (RX1, TX1, 7)) 1 C hin hfl hw rfl wf_1_15 (show 1 < 7 by decide) rfl rfl (tyX1_ok 1 (by decide)) rfl rfl dX1_init_14 (fun H locs hfl hw => ?_)
  refine lv_aload_n hx hb dX1_init_17 rfl (lv_at hl 0 rfl) ?_
  refine lv_bipush (v := 16) hx hb dX1_init_18 (by decide) ?_
  refine kx_arr 0 16 C hw wa_0 rfl (by decide) (by decide) (by decide) (by decide) (Nat.le_of_ble_eq_true rfl) (Nat.le_of_ble_eq_true rfl) dX1_init_20 (fun q20 H hw => ?_)
  refine kx_put (q := (RX1, TX1, 7)) 2 C hin hfl hw rfl wf_1_19 (show 2 < 7 by decide) rfl rfl (tyX1_ok 2 (by decide)) rfl rfl dX1_init_22 (fun H locs hfl hw => ?_)
  refine lv_aload_n hx hb dX1_init_25 rfl (lv_at hl 0 rfl) ?_
  refine lv_bipush (v := 16) hx hb dX1_init_26 (by decide) ?_
  refine kx_arr 0 16 C hw wa_0 rfl (by decide) (by decide) (by decide) (by decide) (Nat.le_of_ble_eq_true rfl) (Nat.le_of_ble_eq_true rfl) dX1_init_28 (fun q28 H hw => ?_)
  refine kx_put (q := (RX1, TX1, 7)) 3 C hin hfl hw rfl wf_1_22 (show 3 < 7 by decide) rfl rfl (tyX1_ok 3 (by decide)) rfl rfl dX1_init_30 (fun H locs hfl hw => ?_)
  refine lv_aload_n hx hb dX1_init_33 rfl (lv_at hl 0 rfl) ?_
  refine lv_bipush (v := 16) hx hb dX1_init_34 (by decide) ?_
  refine kx_arr 0 16 C hw wa_0 rfl (by decide) (by decide) (by decide) (by decide) (Nat.le_of_ble_eq_true rfl) (Nat.le_of_ble_eq_true rfl) dX1_init_36 (fun q36 H hw => ?_)
  refine kx_put (q := (RX1, TX1, 7)) 4 C hin hfl hw rfl wf_1_25 (show 4 < 7 by decide) rfl rfl (tyX1_ok 4 (by decide)) rfl rfl dX1_init_38 (fun H locs hfl hw => ?_)
  refine lv_aload_n hx hb dX1_init_41 rfl (lv_at hl 0 rfl) ?_
  refine lv_bipush (v := 16) hx hb dX1_init_42 (by decide) ?_
  refine kx_arr 0 16 C hw wa_0 rfl (by decide) (by decide) (by decide) (by decide) (Nat.le_of_ble_eq_true rfl) (Nat.le_of_ble_eq_true rfl) dX1_init_44 (fun q44 H hw => ?_)
  refine kx_put (q := (RX1, TX1, 7)) 5 C hin hfl hw rfl wf_1_28 (show 5 < 7 by decide) rfl rfl (tyX1_ok 5 (by decide)) rfl rfl dX1_init_46 (fun H locs hfl hw => ?_)
  refine lv_aload_n hx hb dX1_init_49 rfl (lv_at hl 0 rfl) ?_
  refine lv_bipush (v := 6) hx hb dX1_init_50 (by decide) ?_
  refine kx_arr 1 6 C hw wa_1 rfl (by decide) (by decide) (by decide) (by decide) (Nat.le_of_ble_eq_true rfl) (Nat.le_of_ble_eq_true rfl) dX1_init_52 (fun q52 H hw => ?_)
  refine kx_put (q := (RX1, TX1, 7)) 6 C hin hfl hw rfl wf_1_31 (show 6 < 7 by decide) rfl rfl (tyX1_ok 6 (by decide)) rfl rfl dX1_init_54 (fun H locs hfl hw => ?_)
  refine W.widen (k := 6) (n := 76) (Nat.le_of_ble_eq_true rfl) (Nat.le_of_ble_eq_true rfl) ?_
  exact kret 57 _ _ _ _ dX1_init_57 ⟨q12, q20, q28, q36, q44, q52, rfl⟩ hw
set_option maxHeartbeats 4000000 in
set_option maxRecDepth 100000 in
theorem ci_X2 {l : Launch} {D : va_G} {tc : Nat → ClassId} : Ci l D tc yX2_init cX2_init 1 2 [.int 0, .int 0, .null, .null, .null] [] { frames := 1, cells := 3, slots := 180, locals := 30 } (fun a w => ∃ q17 q25 q33 : Nat, w = [(a, .inr (2, [.int 0, .int 3, .ref q17, .ref q25, .ref q33])), (q17, .inl (tc 0, 60, .inl (fun _ => 0))), (q25, .inl (tc 0, 60, .inl (fun _ => 0))), (q33, .inl (tc 1, 60, .inl (fun _ => 0)))]) := by
  refine ct_of (by decide) rfl rfl (Nat.le_of_ble_eq_true rfl) ?_
  intro p e s m args below meth c QF A a ls C hin hl hw kret
  have hx := C.1.1
  have hb := C.1.2.1
  have hl : lv_has ls 1 [(0, .ref a)] := hl
  have hfl : ([.int 0, .int 0, .null, .null, .null] : List Value).length = 5 := rfl
  refine lv_aload_n hx hb dX2_init_0 rfl (lv_at hl 0 rfl) ?_
  refine kx_obj C hl.1 wm_2_3 wi_objectInit wc_objectInit ⟨by decide, by decide⟩ dX2_init_1 ?_
  refine lv_aload_n hx hb dX2_init_4 rfl (lv_at hl 0 rfl) ?_
  refine lv_iconst (v := 0) hx hb dX2_init_5 (by decide) ?_
  refine kx_put (q := (RX2, TX2, 5)) 0 C hin hfl hw rfl wf_2_9 (show 0 < 5 by decide) rfl rfl (tyX2_ok 0 (by decide)) rfl rfl dX2_init_6 (fun H locs hfl hw => ?_)
  refine lv_aload_n hx hb dX2_init_9 rfl (lv_at hl 0 rfl) ?_
  refine lv_iconst (v := 3) hx hb dX2_init_10 (by decide) ?_
  refine kx_put (q := (RX2, TX2, 5)) 1 C hin hfl hw rfl wf_2_15 (show 1 < 5 by decide) rfl rfl (tyX2_ok 1 (by decide)) rfl rfl dX2_init_11 (fun H locs hfl hw => ?_)
  refine lv_aload_n hx hb dX2_init_14 rfl (lv_at hl 0 rfl) ?_
  refine lv_bipush (v := 60) hx hb dX2_init_15 (by decide) ?_
  refine kx_arr 0 60 C hw wa_0 rfl (by decide) (by decide) (by decide) (by decide) (Nat.le_of_ble_eq_true rfl) (Nat.le_of_ble_eq_true rfl) dX2_init_17 (fun q17 H hw => ?_)
  refine kx_put (q := (RX2, TX2, 5)) 2 C hin hfl hw rfl wf_2_18 (show 2 < 5 by decide) rfl rfl (tyX2_ok 2 (by decide)) rfl rfl dX2_init_19 (fun H locs hfl hw => ?_)
  refine lv_aload_n hx hb dX2_init_22 rfl (lv_at hl 0 rfl) ?_
  refine lv_bipush (v := 60) hx hb dX2_init_23 (by decide) ?_
  refine kx_arr 0 60 C hw wa_0 rfl (by decide) (by decide) (by decide) (by decide) (Nat.le_of_ble_eq_true rfl) (Nat.le_of_ble_eq_true rfl) dX2_init_25 (fun q25 H hw => ?_)
  refine kx_put (q := (RX2, TX2, 5)) 3 C hin hfl hw rfl wf_2_22 (show 3 < 5 by decide) rfl rfl (tyX2_ok 3 (by decide)) rfl rfl dX2_init_27 (fun H locs hfl hw => ?_)
  refine lv_aload_n hx hb dX2_init_30 rfl (lv_at hl 0 rfl) ?_
  refine lv_bipush (v := 60) hx hb dX2_init_31 (by decide) ?_
  refine kx_arr 1 60 C hw wa_1 rfl (by decide) (by decide) (by decide) (by decide) (Nat.le_of_ble_eq_true rfl) (Nat.le_of_ble_eq_true rfl) dX2_init_33 (fun q33 H hw => ?_)
  refine kx_put (q := (RX2, TX2, 5)) 4 C hin hfl hw rfl wf_2_25 (show 4 < 5 by decide) rfl rfl (tyX2_ok 4 (by decide)) rfl rfl dX2_init_35 (fun H locs hfl hw => ?_)
  refine W.widen (k := 3) (n := 180) (Nat.le_of_ble_eq_true rfl) (Nat.le_of_ble_eq_true rfl) ?_
  exact kret 38 _ _ _ _ dX2_init_38 ⟨q17, q25, q33, rfl⟩ hw
set_option maxHeartbeats 4000000 in
set_option maxRecDepth 100000 in
theorem ci_X7 {l : Launch} {D : va_G} {tc : Nat → ClassId} : Ci l D tc yX7_init cX7_init 1 7 [.null, .null] [] { frames := 1, cells := 4, slots := 36, locals := 30 } (fun a w => ∃ q6 q15 : Nat, w = [(a, .inr (7, [.ref q6, .ref q15])), (q6, .inl (tc 0, 2, .inl (upd (upd (fun _ => 0) (0 : Int32).toNatClampNeg (-1)) (1 : Int32).toNatClampNeg (-1)))), (q15, .inl (tc 5, 2, .inr (.inr (.inr (.inr fun j => some (q15 + 1 + j)))))), (q15 + 1 + 0, .inl (tc 3, 16, .inl (fun _ => 0))), (q15 + 1 + 1, .inl (tc 3, 16, .inl (fun _ => 0)))]) := by
  refine ct_of (by decide) rfl rfl (Nat.le_of_ble_eq_true rfl) ?_
  intro p e s m args below meth c QF A a ls C hin hl hw kret
  have hx := C.1.1
  have hb := C.1.2.1
  have hl : lv_has ls 1 [(0, .ref a)] := hl
  have hfl : ([.null, .null] : List Value).length = 2 := rfl
  refine lv_aload_n hx hb dX7_init_0 rfl (lv_at hl 0 rfl) ?_
  refine kx_obj C hl.1 wm_7_3 wi_objectInit wc_objectInit ⟨by decide, by decide⟩ dX7_init_1 ?_
  refine lv_aload_n hx hb dX7_init_4 rfl (lv_at hl 0 rfl) ?_
  refine lv_iconst (v := 2) hx hb dX7_init_5 (by decide) ?_
  refine kx_arr 0 2 C hw wa_0 rfl (by decide) (by decide) (by decide) (by decide) (Nat.le_of_ble_eq_true rfl) (Nat.le_of_ble_eq_true rfl) dX7_init_6 (fun q6 H hw => ?_)
  refine kx_put (q := (RX7, TX7, 2)) 0 C hin hfl hw rfl wf_7_9 (show 0 < 2 by decide) rfl rfl (tyX7_ok 0 (by decide)) rfl rfl dX7_init_8 (fun H locs hfl hw => ?_)
  refine lv_aload_n hx hb dX7_init_11 rfl (lv_at hl 0 rfl) ?_
  refine lv_iconst (v := 2) hx hb dX7_init_12 (by decide) ?_
  refine lv_bipush (v := 16) hx hb dX7_init_13 (by decide) ?_
  refine kx_multi (ty := .short) 3 5 2 16 (C0 := "[[S") C hw C.2.1.2.2 wl_7_15 (by decide +kernel) rfl rfl (by decide) (by decide) (by decide) (by decide) (by decide) (by decide) (by decide) (by decide) (Nat.le_of_ble_eq_true rfl) (Nat.le_of_ble_eq_true rfl) dX7_init_15 (fun q15 H locs hw => ?_)
  refine kx_put (q := (RX7, TX7, 2)) 1 C hin hfl hw rfl wf_7_17 (show 1 < 2 by decide) rfl rfl (tyX7_ok 1 (by decide)) rfl rfl dX7_init_19 (fun H locs hfl hw => ?_)
  refine lv_aload_n hx hb dX7_init_22 rfl (lv_at hl 0 rfl) ?_
  refine kx_get (q := (RX7, TX7, 2)) 0 (v := .ref q6) C hw rfl wf_7_9 (show 0 < 2 by decide) rfl rfl dX7_init_23 ?_
  refine lv_iconst (v := (-1)) hx hb dX7_init_26 (by decide) ?_
  refine kx_fill 1 C hl.1 hw rfl wc_yJ7_fill_53178 wn_RJ7 wm_7_20 ws_yJ7_fill_53178 ⟨(Nat.le_of_ble_eq_true rfl), (Nat.le_of_ble_eq_true rfl)⟩ (by decide) ⟨(Nat.le_of_ble_eq_true rfl), (Nat.le_of_ble_eq_true rfl)⟩ dX7_init_27 (fun H locs hw => ?_)
  refine W.widen (k := 4) (n := 36) (Nat.le_of_ble_eq_true rfl) (Nat.le_of_ble_eq_true rfl) ?_
  exact kret 30 _ _ _ _ dX7_init_30 ⟨q6, q15, rfl⟩ hw
