/-! THE CLASS'S CONSTRUCTOR -/
set_option maxHeartbeats 4000000 in
set_option maxRecDepth 100000 in
theorem ci_X11 {l : Launch} {D : va_G} {tc : Nat → ClassId} : Ci l D tc yX11_init cX11_init 1 11 [.null, .null, .null, .null, .null, .int 0, .null, .null, .null, .null, .null, .null, .null, .null, .int 0] [] { frames := 2, cells := 87, slots := 2278, locals := 60 } (fun a w => ∃ q5 q22_9 q16 q12_20 q20_20 q28_20 q36_20 q44_20 q52_20 q27 q17_31 q25_31 q33_31 q41_31 q49_31 q57_31 q65_31 q73_31 q38 q6_42 q15_42 q25_42 q35_42 q51 q62 q7_70 q14_70 q77 q7_97 q15_97 q23_97 q31_97 q45_97 q104 q12_108 q20_108 q33_108 q41_108 q49_108 q59_108 q115 q17_123 q25_123 q33_123 q43_123 q53_123 q130 q12_134 q20_134 q28_134 q36_134 q44_134 q52_134 q141 q17_145 q25_145 q33_145 q152 q6_156 q15_156 q165 : Nat, w = [(a, .inr (11, [.ref q5, .ref q16, .ref q27, .ref q38, .ref q51, .int 0, .ref q62, .ref q77, .ref q104, .ref q115, .ref q130, .ref q141, .ref q152, .ref q165, .int 0])), (q5, .inr (9, [.int 0, .int 0, .int 0, .ref q22_9])), (q22_9, .inl (tc 0, 10, .inl (fun _ => 0))), (q16, .inr (10, [.int 0, .ref q12_20, .ref q20_20, .ref q28_20, .ref q36_20, .ref q44_20, .ref q52_20])), (q12_20, .inl (tc 0, 30, .inl (fun _ => 0))), (q20_20, .inl (tc 0, 30, .inl (fun _ => 0))), (q28_20, .inl (tc 0, 30, .inl (fun _ => 0))), (q36_20, .inl (tc 0, 30, .inl (fun _ => 0))), (q44_20, .inl (tc 0, 30, .inl (fun _ => 0))), (q52_20, .inl (tc 0, 30, .inl (fun _ => 0))), (q27, .inr (5, [.int 0, .int 0, .ref q17_31, .ref q25_31, .ref q33_31, .ref q41_31, .ref q49_31, .ref q57_31, .ref q65_31, .ref q73_31])), (q17_31, .inl (tc 0, 100, .inl (fun _ => 0))), (q25_31, .inl (tc 0, 100, .inl (fun _ => 0))), (q33_31, .inl (tc 0, 100, .inl (fun _ => 0))), (q41_31, .inl (tc 0, 100, .inl (fun _ => 0))), (q49_31, .inl (tc 0, 100, .inl (fun _ => 0))), (q57_31, .inl (tc 0, 100, .inl (fun _ => 0))), (q65_31, .inl (tc 0, 100, .inl (fun _ => 0))), (q73_31, .inl (tc 0, 100, .inl (fun _ => 0))), (q38, .inr (3, [.ref q6_42, .ref q15_42, .ref q25_42, .ref q35_42])), (q6_42, .inl (tc 1, 3, .inl (fun _ => 0))), (q15_42, .inl (tc 4, 3, .inr (.inr (.inr (.inr fun j => some (q15_42 + 1 + j)))))), (q15_42 + 1 + 0, .inl (tc 0, 96, .inl (fun _ => 0))), (q15_42 + 1 + 1, .inl (tc 0, 96, .inl (fun _ => 0))), (q15_42 + 1 + 2, .inl (tc 0, 96, .inl (fun _ => 0))), (q25_42, .inl (tc 4, 3, .inr (.inr (.inr (.inr fun j => some (q25_42 + 1 + j)))))), (q25_42 + 1 + 0, .inl (tc 0, 4, .inl (fun _ => 0))), (q25_42 + 1 + 1, .inl (tc 0, 4, .inl (fun _ => 0))), (q25_42 + 1 + 2, .inl (tc 0, 4, .inl (fun _ => 0))), (q35_42, .inl (tc 0, 97, .inl (fun _ => 0))), (q51, .inl (tc 2, 96, .inl (fun _ => 0))), (q62, .inr (4, [.ref q7_70, .ref q14_70, .int 0, .int 0, .ref q51, .int 0, .int 0, .int 256, .int 0, .int 0, .int 0, .int 0, .int 0])), (q7_70, .inl (tc 0, 96, .inl (fun _ => 0))), (q14_70, .inl (tc 0, 4, .inl (fun _ => 0))), (q77, .inr (8, [.ref q7_97, .ref q15_97, .ref q23_97, .ref q31_97, .int 0, .ref q5, .ref q16, .ref q27, .ref q38, .ref q45_97])), (q7_97, .inl (tc 1, 30, .inl (fun _ => 0))), (q15_97, .inl (tc 0, 30, .inl (fun _ => 0))), (q23_97, .inl (tc 0, 30, .inl (fun _ => 0))), (q31_97, .inl (tc 4, 5, .inr (.inr (.inr (.inr fun j => some (q31_97 + 1 + j)))))), (q31_97 + 1 + 0, .inl (tc 0, 5, .inl (fun _ => 0))), (q31_97 + 1 + 1, .inl (tc 0, 5, .inl (fun _ => 0))), (q31_97 + 1 + 2, .inl (tc 0, 5, .inl (fun _ => 0))), (q31_97 + 1 + 3, .inl (tc 0, 5, .inl (fun _ => 0))), (q31_97 + 1 + 4, .inl (tc 0, 5, .inl (fun _ => 0))), (q45_97, .inl (tc 0, 5, .inl (fun _ => 0))), (q104, .inr (0, [.int 0, .ref q12_108, .ref q20_108, .int 0, .ref q33_108, .ref q41_108, .ref q49_108, .ref q59_108])), (q12_108, .inl (tc 0, 8, .inl (fun _ => 0))), (q20_108, .inl (tc 0, 8, .inl (fun _ => 0))), (q33_108, .inl (tc 0, 6, .inl (fun _ => 0))), (q41_108, .inl (tc 0, 6, .inl (fun _ => 0))), (q49_108, .inl (tc 0, 6, .inl (fun _ => 0))), (q59_108, .inl (tc 4, 6, .inr (.inr (.inr (.inr fun j => some (q59_108 + 1 + j)))))), (q59_108 + 1 + 0, .inl (tc 0, 6, .inl (fun _ => 0))), (q59_108 + 1 + 1, .inl (tc 0, 6, .inl (fun _ => 0))), (q59_108 + 1 + 2, .inl (tc 0, 6, .inl (fun _ => 0))), (q59_108 + 1 + 3, .inl (tc 0, 6, .inl (fun _ => 0))), (q59_108 + 1 + 4, .inl (tc 0, 6, .inl (fun _ => 0))), (q59_108 + 1 + 5, .inl (tc 0, 6, .inl (fun _ => 0))), (q115, .inr (6, [.int 0, .int 0, .ref q17_123, .ref q25_123, .ref q104, .ref q33_123, .ref q43_123, .ref q53_123, .int 0])), (q17_123, .inl (tc 0, 6, .inl (fun _ => 0))), (q25_123, .inl (tc 0, 12, .inl (fun _ => 0))), (q33_123, .inl (tc 0, 6, .inl (fun _ => 0))), (q43_123, .inl (tc 4, 7, .inr (.inr (.inr (.inr fun j => some (q43_123 + 1 + j)))))), (q43_123 + 1 + 0, .inl (tc 0, 8, .inl (fun _ => 0))), (q43_123 + 1 + 1, .inl (tc 0, 8, .inl (fun _ => 0))), (q43_123 + 1 + 2, .inl (tc 0, 8, .inl (fun _ => 0))), (q43_123 + 1 + 3, .inl (tc 0, 8, .inl (fun _ => 0))), (q43_123 + 1 + 4, .inl (tc 0, 8, .inl (fun _ => 0))), (q43_123 + 1 + 5, .inl (tc 0, 8, .inl (fun _ => 0))), (q43_123 + 1 + 6, .inl (tc 0, 8, .inl (fun _ => 0))), (q53_123, .inl (tc 0, 7, .inl (fun _ => 0))), (q130, .inr (1, [.int 0, .ref q12_134, .ref q20_134, .ref q28_134, .ref q36_134, .ref q44_134, .ref q52_134])), (q12_134, .inl (tc 0, 6, .inl (fun _ => 0))), (q20_134, .inl (tc 0, 16, .inl (fun _ => 0))), (q28_134, .inl (tc 0, 16, .inl (fun _ => 0))), (q36_134, .inl (tc 0, 16, .inl (fun _ => 0))), (q44_134, .inl (tc 0, 16, .inl (fun _ => 0))), (q52_134, .inl (tc 1, 6, .inl (fun _ => 0))), (q141, .inr (2, [.int 0, .int 3, .ref q17_145, .ref q25_145, .ref q33_145])), (q17_145, .inl (tc 0, 60, .inl (fun _ => 0))), (q25_145, .inl (tc 0, 60, .inl (fun _ => 0))), (q33_145, .inl (tc 1, 60, .inl (fun _ => 0))), (q152, .inr (7, [.ref q6_156, .ref q15_156])), (q6_156, .inl (tc 0, 2, .inl (upd (upd (fun _ => 0) (0 : Int32).toNatClampNeg (-1)) (1 : Int32).toNatClampNeg (-1)))), (q15_156, .inl (tc 5, 2, .inr (.inr (.inr (.inr fun j => some (q15_156 + 1 + j)))))), (q15_156 + 1 + 0, .inl (tc 3, 16, .inl (fun _ => 0))), (q15_156 + 1 + 1, .inl (tc 3, 16, .inl (fun _ => 0))), (q165, .inl (tc 0, 20, .inl (fun _ => 0)))]) := by
  refine ct_of (by decide) rfl rfl (Nat.le_of_ble_eq_true rfl) ?_
  intro p e s m args below meth c QF A a ls C hin hl hw kret
  have hx := C.1.1
  have hb := C.1.2.1
  have hl : lv_has ls 1 [(0, .ref a)] := hl
  have hfl : ([.null, .null, .null, .null, .null, .int 0, .null, .null, .null, .null, .null, .null, .null, .null, .int 0] : List Value).length = 15 := rfl
  refine lv_aload_n hx hb dX11_init_0 rfl (lv_at hl 0 rfl) ?_
  refine kx_obj C hl.1 wm_11_1 wi_objectInit wc_objectInit ⟨by decide, by decide⟩ dX11_init_1 ?_
  refine lv_aload_n hx hb dX11_init_4 rfl (lv_at hl 0 rfl) ?_
  refine kx_new (q := (RX9, TX9, 4)) (ci := 9) (fs := [.int 0, .int 0, .int 0, .null]) tyX9 tyX9_ok C hw rfl wl_11_7 wt_RX9 wn_RX9 (by decide +kernel) (Nat.le_of_ble_eq_true rfl) (Nat.le_of_ble_eq_true rfl) dX11_init_5 (fun q5 H hw => ?_)
  refine lv_dup hx hb dX11_init_8 rfl ?_
  refine kx_init (av := []) (rest := [.ref q5, .ref a]) C hl.1 hw (ci_X9) wc_yX9_init wn_RX9 wm_11_9 wi_yX9_init rfl ⟨by decide, by decide, (show _ = some 0 by decide +kernel)⟩ ⟨(Nat.le_of_ble_eq_true rfl), (Nat.le_of_ble_eq_true rfl)⟩ (Nat.le_of_ble_eq_true rfl) ⟨(Nat.le_of_ble_eq_true rfl), (Nat.le_of_ble_eq_true rfl)⟩ dX11_init_9 (fun w1 H locs hpost hw => ?_)
  obtain ⟨q22_9, rfl⟩ := hpost
  rw [List.cons_append] at hw
  refine kx_put (q := (RX11, TX11, 15)) 0 C hin hfl hw rfl wf_11_10 (show 0 < 15 by decide) rfl rfl (tyX11_ok 0 (by decide)) rfl rfl dX11_init_12 (fun H locs hfl hw => ?_)
  refine lv_aload_n hx hb dX11_init_15 rfl (lv_at hl 0 rfl) ?_
  refine kx_new (q := (RX10, TX10, 7)) (ci := 10) (fs := [.int 0, .null, .null, .null, .null, .null, .null]) tyX10 tyX10_ok C hw rfl wl_11_16 wt_RX10 wn_RX10 (by decide +kernel) (Nat.le_of_ble_eq_true rfl) (Nat.le_of_ble_eq_true rfl) dX11_init_16 (fun q16 H hw => ?_)
  refine lv_dup hx hb dX11_init_19 rfl ?_
  refine kx_init (av := []) (rest := [.ref q16, .ref a]) C hl.1 hw (ci_X10) wc_yX10_init wn_RX10 wm_11_18 wi_yX10_init rfl ⟨by decide, by decide, (show _ = some 0 by decide +kernel)⟩ ⟨(Nat.le_of_ble_eq_true rfl), (Nat.le_of_ble_eq_true rfl)⟩ (Nat.le_of_ble_eq_true rfl) ⟨(Nat.le_of_ble_eq_true rfl), (Nat.le_of_ble_eq_true rfl)⟩ dX11_init_20 (fun w1 H locs hpost hw => ?_)
  obtain ⟨q12_20, q20_20, q28_20, q36_20, q44_20, q52_20, rfl⟩ := hpost
  rw [List.cons_append] at hw
  refine kx_put (q := (RX11, TX11, 15)) 1 C hin hfl hw rfl wf_11_19 (show 1 < 15 by decide) rfl rfl (tyX11_ok 1 (by decide)) rfl rfl dX11_init_23 (fun H locs hfl hw => ?_)
  refine lv_aload_n hx hb dX11_init_26 rfl (lv_at hl 0 rfl) ?_
  refine kx_new (q := (RX5, TX5, 10)) (ci := 5) (fs := [.int 0, .int 0, .null, .null, .null, .null, .null, .null, .null, .null]) tyX5 tyX5_ok C hw rfl wl_11_23 wt_RX5 wn_RX5 (by decide +kernel) (Nat.le_of_ble_eq_true rfl) (Nat.le_of_ble_eq_true rfl) dX11_init_27 (fun q27 H hw => ?_)
  refine lv_dup hx hb dX11_init_30 rfl ?_
  refine kx_init (av := []) (rest := [.ref q27, .ref a]) C hl.1 hw (ci_X5) wc_yX5_init wn_RX5 wm_11_25 wi_yX5_init rfl ⟨by decide, by decide, (show _ = some 0 by decide +kernel)⟩ ⟨(Nat.le_of_ble_eq_true rfl), (Nat.le_of_ble_eq_true rfl)⟩ (Nat.le_of_ble_eq_true rfl) ⟨(Nat.le_of_ble_eq_true rfl), (Nat.le_of_ble_eq_true rfl)⟩ dX11_init_31 (fun w1 H locs hpost hw => ?_)
  obtain ⟨q17_31, q25_31, q33_31, q41_31, q49_31, q57_31, q65_31, q73_31, rfl⟩ := hpost
  rw [List.cons_append] at hw
  refine kx_put (q := (RX11, TX11, 15)) 2 C hin hfl hw rfl wf_11_26 (show 2 < 15 by decide) rfl rfl (tyX11_ok 2 (by decide)) rfl rfl dX11_init_34 (fun H locs hfl hw => ?_)
  refine lv_aload_n hx hb dX11_init_37 rfl (lv_at hl 0 rfl) ?_
  refine kx_new (q := (RX3, TX3, 4)) (ci := 3) (fs := [.null, .null, .null, .null]) tyX3 tyX3_ok C hw rfl wl_11_30 wt_RX3 wn_RX3 (by decide +kernel) (Nat.le_of_ble_eq_true rfl) (Nat.le_of_ble_eq_true rfl) dX11_init_38 (fun q38 H hw => ?_)
  refine lv_dup hx hb dX11_init_41 rfl ?_
  refine kx_init (av := []) (rest := [.ref q38, .ref a]) C hl.1 hw (ci_X3) wc_yX3_init wn_RX3 wm_11_32 wi_yX3_init rfl ⟨by decide, by decide, (show _ = some 0 by decide +kernel)⟩ ⟨(Nat.le_of_ble_eq_true rfl), (Nat.le_of_ble_eq_true rfl)⟩ (Nat.le_of_ble_eq_true rfl) ⟨(Nat.le_of_ble_eq_true rfl), (Nat.le_of_ble_eq_true rfl)⟩ dX11_init_42 (fun w1 H locs hpost hw => ?_)
  obtain ⟨q6_42, q15_42, q25_42, q35_42, rfl⟩ := hpost
  rw [List.cons_append] at hw
  refine kx_put (q := (RX11, TX11, 15)) 3 C hin hfl hw rfl wf_11_33 (show 3 < 15 by decide) rfl rfl (tyX11_ok 3 (by decide)) rfl rfl dX11_init_45 (fun H locs hfl hw => ?_)
  refine lv_aload_n hx hb dX11_init_48 rfl (lv_at hl 0 rfl) ?_
  refine lv_bipush (v := 96) hx hb dX11_init_49 (by decide) ?_
  refine kx_arr 2 96 C hw wa_2 rfl (by decide) (by decide) (by decide) (by decide) (Nat.le_of_ble_eq_true rfl) (Nat.le_of_ble_eq_true rfl) dX11_init_51 (fun q51 H hw => ?_)
  refine kx_put (q := (RX11, TX11, 15)) 4 C hin hfl hw rfl wf_11_37 (show 4 < 15 by decide) rfl rfl (tyX11_ok 4 (by decide)) rfl rfl dX11_init_53 (fun H locs hfl hw => ?_)
  refine lv_aload_n hx hb dX11_init_56 rfl (lv_at hl 0 rfl) ?_
  refine lv_iconst (v := 0) hx hb dX11_init_57 (by decide) ?_
  refine kx_put (q := (RX11, TX11, 15)) 5 C hin hfl hw rfl wf_11_41 (show 5 < 15 by decide) rfl rfl (tyX11_ok 5 (by decide)) rfl rfl dX11_init_58 (fun H locs hfl hw => ?_)
  refine lv_aload_n hx hb dX11_init_61 rfl (lv_at hl 0 rfl) ?_
  refine kx_new (q := (RX4, TX4, 13)) (ci := 4) (fs := [.null, .null, .int 0, .int 0, .null, .int 0, .int 0, .int 0, .int 0, .int 0, .int 0, .int 0, .int 0]) tyX4 tyX4_ok C hw rfl wl_11_45 wt_RX4 wn_RX4 (by decide +kernel) (Nat.le_of_ble_eq_true rfl) (Nat.le_of_ble_eq_true rfl) dX11_init_62 (fun q62 H hw => ?_)
  refine lv_dup hx hb dX11_init_65 rfl ?_
  refine lv_aload_n hx hb dX11_init_66 rfl (lv_at hl 0 rfl) ?_
  refine kx_get (q := (RX11, TX11, 15)) 4 (v := .ref q51) C hw rfl wf_11_37 (show 4 < 15 by decide) rfl rfl dX11_init_67 ?_
  refine kx_init (av := [.ref q51]) (rest := [.ref q62, .ref a]) C hl.1 hw (ci_X4 q51) wc_yX4_init wn_RX4 wm_11_47 wi_yX4_init rfl ⟨by decide, by decide, (show _ = some 1 by decide +kernel)⟩ ⟨(Nat.le_of_ble_eq_true rfl), (Nat.le_of_ble_eq_true rfl)⟩ (Nat.le_of_ble_eq_true rfl) ⟨(Nat.le_of_ble_eq_true rfl), (Nat.le_of_ble_eq_true rfl)⟩ dX11_init_70 (fun w1 H locs hpost hw => ?_)
  obtain ⟨q7_70, q14_70, rfl⟩ := hpost
  rw [List.cons_append] at hw
  refine kx_put (q := (RX11, TX11, 15)) 6 C hin hfl hw rfl wf_11_50 (show 6 < 15 by decide) rfl rfl (tyX11_ok 6 (by decide)) rfl rfl dX11_init_73 (fun H locs hfl hw => ?_)
  refine lv_aload_n hx hb dX11_init_76 rfl (lv_at hl 0 rfl) ?_
  refine kx_new (q := (RX8, TX8, 10)) (ci := 8) (fs := [.null, .null, .null, .null, .int 0, .null, .null, .null, .null, .null]) tyX8 tyX8_ok C hw rfl wl_11_54 wt_RX8 wn_RX8 (by decide +kernel) (Nat.le_of_ble_eq_true rfl) (Nat.le_of_ble_eq_true rfl) dX11_init_77 (fun q77 H hw => ?_)
  refine lv_dup hx hb dX11_init_80 rfl ?_
  refine lv_aload_n hx hb dX11_init_81 rfl (lv_at hl 0 rfl) ?_
  refine kx_get (q := (RX11, TX11, 15)) 0 (v := .ref q5) C hw rfl wf_11_10 (show 0 < 15 by decide) rfl rfl dX11_init_82 ?_
  refine lv_aload_n hx hb dX11_init_85 rfl (lv_at hl 0 rfl) ?_
  refine kx_get (q := (RX11, TX11, 15)) 1 (v := .ref q16) C hw rfl wf_11_19 (show 1 < 15 by decide) rfl rfl dX11_init_86 ?_
  refine lv_aload_n hx hb dX11_init_89 rfl (lv_at hl 0 rfl) ?_
  refine kx_get (q := (RX11, TX11, 15)) 2 (v := .ref q27) C hw rfl wf_11_26 (show 2 < 15 by decide) rfl rfl dX11_init_90 ?_
  refine lv_aload_n hx hb dX11_init_93 rfl (lv_at hl 0 rfl) ?_
  refine kx_get (q := (RX11, TX11, 15)) 3 (v := .ref q38) C hw rfl wf_11_33 (show 3 < 15 by decide) rfl rfl dX11_init_94 ?_
  refine kx_init (av := [.ref q5, .ref q16, .ref q27, .ref q38]) (rest := [.ref q77, .ref a]) C hl.1 hw (ci_X8 q5 q16 q27 q38) wc_yX8_init wn_RX8 wm_11_56 wi_yX8_init rfl ⟨by decide, by decide, (show _ = some 4 by decide +kernel)⟩ ⟨(Nat.le_of_ble_eq_true rfl), (Nat.le_of_ble_eq_true rfl)⟩ (Nat.le_of_ble_eq_true rfl) ⟨(Nat.le_of_ble_eq_true rfl), (Nat.le_of_ble_eq_true rfl)⟩ dX11_init_97 (fun w1 H locs hpost hw => ?_)
  obtain ⟨q7_97, q15_97, q23_97, q31_97, q45_97, rfl⟩ := hpost
  rw [List.cons_append] at hw
  refine kx_put (q := (RX11, TX11, 15)) 7 C hin hfl hw rfl wf_11_59 (show 7 < 15 by decide) rfl rfl (tyX11_ok 7 (by decide)) rfl rfl dX11_init_100 (fun H locs hfl hw => ?_)
  refine lv_aload_n hx hb dX11_init_103 rfl (lv_at hl 0 rfl) ?_
  refine kx_new (q := (RX0, TX0, 8)) (ci := 0) (fs := [.int 0, .null, .null, .int 0, .null, .null, .null, .null]) tyX0 tyX0_ok C hw rfl wl_11_63 wt_RX0 wn_RX0 (by decide +kernel) (Nat.le_of_ble_eq_true rfl) (Nat.le_of_ble_eq_true rfl) dX11_init_104 (fun q104 H hw => ?_)
  refine lv_dup hx hb dX11_init_107 rfl ?_
  refine kx_init (av := []) (rest := [.ref q104, .ref a]) C hl.1 hw (ci_X0) wc_yX0_init wn_RX0 wm_11_65 wi_yX0_init rfl ⟨by decide, by decide, (show _ = some 0 by decide +kernel)⟩ ⟨(Nat.le_of_ble_eq_true rfl), (Nat.le_of_ble_eq_true rfl)⟩ (Nat.le_of_ble_eq_true rfl) ⟨(Nat.le_of_ble_eq_true rfl), (Nat.le_of_ble_eq_true rfl)⟩ dX11_init_108 (fun w1 H locs hpost hw => ?_)
  obtain ⟨q12_108, q20_108, q33_108, q41_108, q49_108, q59_108, rfl⟩ := hpost
  rw [List.cons_append] at hw
  refine kx_put (q := (RX11, TX11, 15)) 8 C hin hfl hw rfl wf_11_66 (show 8 < 15 by decide) rfl rfl (tyX11_ok 8 (by decide)) rfl rfl dX11_init_111 (fun H locs hfl hw => ?_)
  refine lv_aload_n hx hb dX11_init_114 rfl (lv_at hl 0 rfl) ?_
  refine kx_new (q := (RX6, TX6, 9)) (ci := 6) (fs := [.int 0, .int 0, .null, .null, .null, .null, .null, .null, .int 0]) tyX6 tyX6_ok C hw rfl wl_11_70 wt_RX6 wn_RX6 (by decide +kernel) (Nat.le_of_ble_eq_true rfl) (Nat.le_of_ble_eq_true rfl) dX11_init_115 (fun q115 H hw => ?_)
  refine lv_dup hx hb dX11_init_118 rfl ?_
  refine lv_aload_n hx hb dX11_init_119 rfl (lv_at hl 0 rfl) ?_
  refine kx_get (q := (RX11, TX11, 15)) 8 (v := .ref q104) C hw rfl wf_11_66 (show 8 < 15 by decide) rfl rfl dX11_init_120 ?_
  refine kx_init (av := [.ref q104]) (rest := [.ref q115, .ref a]) C hl.1 hw (ci_X6 q104) wc_yX6_init wn_RX6 wm_11_72 wi_yX6_init rfl ⟨by decide, by decide, (show _ = some 1 by decide +kernel)⟩ ⟨(Nat.le_of_ble_eq_true rfl), (Nat.le_of_ble_eq_true rfl)⟩ (Nat.le_of_ble_eq_true rfl) ⟨(Nat.le_of_ble_eq_true rfl), (Nat.le_of_ble_eq_true rfl)⟩ dX11_init_123 (fun w1 H locs hpost hw => ?_)
  obtain ⟨q17_123, q25_123, q33_123, q43_123, q53_123, rfl⟩ := hpost
  rw [List.cons_append] at hw
  refine kx_put (q := (RX11, TX11, 15)) 9 C hin hfl hw rfl wf_11_75 (show 9 < 15 by decide) rfl rfl (tyX11_ok 9 (by decide)) rfl rfl dX11_init_126 (fun H locs hfl hw => ?_)
  refine lv_aload_n hx hb dX11_init_129 rfl (lv_at hl 0 rfl) ?_
  refine kx_new (q := (RX1, TX1, 7)) (ci := 1) (fs := [.int 0, .null, .null, .null, .null, .null, .null]) tyX1 tyX1_ok C hw rfl wl_11_79 wt_RX1 wn_RX1 (by decide +kernel) (Nat.le_of_ble_eq_true rfl) (Nat.le_of_ble_eq_true rfl) dX11_init_130 (fun q130 H hw => ?_)
  refine lv_dup hx hb dX11_init_133 rfl ?_
  refine kx_init (av := []) (rest := [.ref q130, .ref a]) C hl.1 hw (ci_X1) wc_yX1_init wn_RX1 wm_11_81 wi_yX1_init rfl ⟨by decide, by decide, (show _ = some 0 by decide +kernel)⟩ ⟨(Nat.le_of_ble_eq_true rfl), (Nat.le_of_ble_eq_true rfl)⟩ (Nat.le_of_ble_eq_true rfl) ⟨(Nat.le_of_ble_eq_true rfl), (Nat.le_of_ble_eq_true rfl)⟩ dX11_init_134 (fun w1 H locs hpost hw => ?_)
  obtain ⟨q12_134, q20_134, q28_134, q36_134, q44_134, q52_134, rfl⟩ := hpost
  rw [List.cons_append] at hw
  refine kx_put (q := (RX11, TX11, 15)) 10 C hin hfl hw rfl wf_11_82 (show 10 < 15 by decide) rfl rfl (tyX11_ok 10 (by decide)) rfl rfl dX11_init_137 (fun H locs hfl hw => ?_)
  refine lv_aload_n hx hb dX11_init_140 rfl (lv_at hl 0 rfl) ?_
  refine kx_new (q := (RX2, TX2, 5)) (ci := 2) (fs := [.int 0, .int 0, .null, .null, .null]) tyX2 tyX2_ok C hw rfl wl_11_86 wt_RX2 wn_RX2 (by decide +kernel) (Nat.le_of_ble_eq_true rfl) (Nat.le_of_ble_eq_true rfl) dX11_init_141 (fun q141 H hw => ?_)
  refine lv_dup hx hb dX11_init_144 rfl ?_
  refine kx_init (av := []) (rest := [.ref q141, .ref a]) C hl.1 hw (ci_X2) wc_yX2_init wn_RX2 wm_11_88 wi_yX2_init rfl ⟨by decide, by decide, (show _ = some 0 by decide +kernel)⟩ ⟨(Nat.le_of_ble_eq_true rfl), (Nat.le_of_ble_eq_true rfl)⟩ (Nat.le_of_ble_eq_true rfl) ⟨(Nat.le_of_ble_eq_true rfl), (Nat.le_of_ble_eq_true rfl)⟩ dX11_init_145 (fun w1 H locs hpost hw => ?_)
  obtain ⟨q17_145, q25_145, q33_145, rfl⟩ := hpost
  rw [List.cons_append] at hw
  refine kx_put (q := (RX11, TX11, 15)) 11 C hin hfl hw rfl wf_11_89 (show 11 < 15 by decide) rfl rfl (tyX11_ok 11 (by decide)) rfl rfl dX11_init_148 (fun H locs hfl hw => ?_)
  refine lv_aload_n hx hb dX11_init_151 rfl (lv_at hl 0 rfl) ?_
  refine kx_new (q := (RX7, TX7, 2)) (ci := 7) (fs := [.null, .null]) tyX7 tyX7_ok C hw rfl wl_11_93 wt_RX7 wn_RX7 (by decide +kernel) (Nat.le_of_ble_eq_true rfl) (Nat.le_of_ble_eq_true rfl) dX11_init_152 (fun q152 H hw => ?_)
  refine lv_dup hx hb dX11_init_155 rfl ?_
  refine kx_init (av := []) (rest := [.ref q152, .ref a]) C hl.1 hw (ci_X7) wc_yX7_init wn_RX7 wm_11_95 wi_yX7_init rfl ⟨by decide, by decide, (show _ = some 0 by decide +kernel)⟩ ⟨(Nat.le_of_ble_eq_true rfl), (Nat.le_of_ble_eq_true rfl)⟩ (Nat.le_of_ble_eq_true rfl) ⟨(Nat.le_of_ble_eq_true rfl), (Nat.le_of_ble_eq_true rfl)⟩ dX11_init_156 (fun w1 H locs hpost hw => ?_)
  obtain ⟨q6_156, q15_156, rfl⟩ := hpost
  rw [List.cons_append] at hw
  refine kx_put (q := (RX11, TX11, 15)) 12 C hin hfl hw rfl wf_11_96 (show 12 < 15 by decide) rfl rfl (tyX11_ok 12 (by decide)) rfl rfl dX11_init_159 (fun H locs hfl hw => ?_)
  refine lv_aload_n hx hb dX11_init_162 rfl (lv_at hl 0 rfl) ?_
  refine lv_bipush (v := 20) hx hb dX11_init_163 (by decide) ?_
  refine kx_arr 0 20 C hw wa_0 rfl (by decide) (by decide) (by decide) (by decide) (Nat.le_of_ble_eq_true rfl) (Nat.le_of_ble_eq_true rfl) dX11_init_165 (fun q165 H hw => ?_)
  refine kx_put (q := (RX11, TX11, 15)) 13 C hin hfl hw rfl wf_11_100 (show 13 < 15 by decide) rfl rfl (tyX11_ok 13 (by decide)) rfl rfl dX11_init_167 (fun H locs hfl hw => ?_)
  refine lv_aload_n hx hb dX11_init_170 rfl (lv_at hl 0 rfl) ?_
  refine lv_iconst (v := 0) hx hb dX11_init_171 (by decide) ?_
  refine kx_put (q := (RX11, TX11, 15)) 14 C hin hfl hw rfl wf_11_104 (show 14 < 15 by decide) rfl rfl (tyX11_ok 14 (by decide)) rfl rfl dX11_init_172 (fun H locs hfl hw => ?_)
  refine W.widen (k := 87) (n := 2278) (Nat.le_of_ble_eq_true rfl) (Nat.le_of_ble_eq_true rfl) ?_
  exact kret 175 _ _ _ _ dX11_init_175 ⟨q5, q22_9, q16, q12_20, q20_20, q28_20, q36_20, q44_20, q52_20, q27, q17_31, q25_31, q33_31, q41_31, q49_31, q57_31, q65_31, q73_31, q38, q6_42, q15_42, q25_42, q35_42, q51, q62, q7_70, q14_70, q77, q7_97, q15_97, q23_97, q31_97, q45_97, q104, q12_108, q20_108, q33_108, q41_108, q49_108, q59_108, q115, q17_123, q25_123, q33_123, q43_123, q53_123, q130, q12_134, q20_134, q28_134, q36_134, q44_134, q52_134, q141, q17_145, q25_145, q33_145, q152, q6_156, q15_156, q165, rfl⟩ hw
