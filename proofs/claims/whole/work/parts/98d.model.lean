/-! THE REFERENCE'S CONSTRUCTOR -/
set_option maxHeartbeats 4000000 in
set_option maxRecDepth 100000 in
theorem ci_X12 {l : Launch} {D : va_G} {tc : Nat → ClassId} : Ci l D tc yX12_init cX12_init 1 12 [.int 0, .int 0, .int 0, .null, .int 0, .null, .null, .null, .null, .null, .null, .int 0, .null, .null, .null, .null, .null, .null, .null, .null, .null, .null, .null, .null, .null, .null, .int 0, .null, .null, .null, .null, .null, .null, .null, .null, .null, .int 0, .int 0, .int 0, .int 0, .int 0, .int 0, .int 0, .int 0, .int 0, .int 0, .int 0, .null, .int 0, .null, .null, .int 0, .null, .null, .null, .null, .null, .int 0, .null, .null, .int 0, .int 0, .null, .null, .int 0, .int 0, .null, .null, .null, .null, .null, .int 0, .int 0, .null, .null, .null, .null] [] { frames := 1, cells := 51, slots := 4151, locals := 30 } (fun a w => ∃ q7 q15 q23 q31 q39 q47 q55 q63 q71 q79 q87 q95 q103 q111 q118 q126 q134 q142 q150 q158 q166 q173 q181 q190 q199 q206 q215 q224 q232 q240 q248 q353 q361 q369 q377 q385 q393 q401 q409 q417 q425 q433 q441 q449 q457 q465 q473 q486 q494 q502 q510 : Nat, w = [(a, .inr (12, [.int 0, .int 0, .int 0, .ref q7, .int 0, .ref q15, .ref q23, .ref q31, .ref q39, .ref q47, .ref q55, .int 0, .ref q63, .ref q71, .ref q79, .ref q87, .ref q95, .ref q103, .ref q111, .ref q118, .ref q126, .ref q134, .ref q142, .ref q150, .ref q158, .ref q166, .int 0, .ref q173, .ref q181, .ref q190, .ref q199, .ref q206, .ref q215, .ref q224, .ref q232, .ref q240, .int 0, .int 0, .int 0, .int 0, .int 0, .int 0, .int 0, .int 0, .int 0, .int 0, .int 0, .ref q248, .int 0, .ref q353, .ref q361, .int 0, .ref q369, .ref q377, .ref q385, .ref q393, .ref q401, .int 0, .ref q409, .ref q417, .int 0, .int 0, .ref q425, .ref q433, .int 0, .int 0, .ref q441, .ref q449, .ref q457, .ref q465, .ref q473, .int 0, .int 3, .ref q486, .ref q494, .ref q502, .ref q510])), (q7, .inl (tc 0, 10, .inl (fun _ => 0))), (q15, .inl (tc 0, 30, .inl (fun _ => 0))), (q23, .inl (tc 0, 30, .inl (fun _ => 0))), (q31, .inl (tc 0, 30, .inl (fun _ => 0))), (q39, .inl (tc 0, 30, .inl (fun _ => 0))), (q47, .inl (tc 0, 30, .inl (fun _ => 0))), (q55, .inl (tc 0, 30, .inl (fun _ => 0))), (q63, .inl (tc 0, 100, .inl (fun _ => 0))), (q71, .inl (tc 0, 100, .inl (fun _ => 0))), (q79, .inl (tc 0, 100, .inl (fun _ => 0))), (q87, .inl (tc 0, 100, .inl (fun _ => 0))), (q95, .inl (tc 0, 100, .inl (fun _ => 0))), (q103, .inl (tc 0, 100, .inl (fun _ => 0))), (q111, .inl (tc 0, 100, .inl (fun _ => 0))), (q118, .inl (tc 0, 2, .inl (upd (upd (fun _ => 0) (0 : Int32).toNatClampNeg (-1)) (1 : Int32).toNatClampNeg (-1)))), (q126, .inl (tc 0, 32, .inl (fun _ => 0))), (q134, .inl (tc 0, 100, .inl (fun _ => 0))), (q142, .inl (tc 1, 30, .inl (fun _ => 0))), (q150, .inl (tc 0, 30, .inl (fun _ => 0))), (q158, .inl (tc 0, 30, .inl (fun _ => 0))), (q166, .inl (tc 0, 25, .inl (fun _ => 0))), (q173, .inl (tc 1, 3, .inl (fun _ => 0))), (q181, .inl (tc 0, 9, .inl (fun _ => 0))), (q190, .inl (tc 0, 900, .inl (fun _ => 0))), (q199, .inl (tc 0, 900, .inl (fun _ => 0))), (q206, .inl (tc 0, 3, .inl (fun _ => 0))), (q215, .inl (tc 0, 300, .inl (fun _ => 0))), (q224, .inl (tc 0, 300, .inl (fun _ => 0))), (q232, .inl (tc 0, 100, .inl (fun _ => 0))), (q240, .inl (tc 0, 96, .inl (fun _ => 0))), (q248, .inl (tc 0, 18, .inl (upd (upd (upd (upd (upd (upd (upd (upd (upd (upd (upd (upd (upd (upd (upd (upd (upd (upd (fun _ => 0) (0 : Int32).toNatClampNeg 101) (1 : Int32).toNatClampNeg 110) (2 : Int32).toNatClampNeg 100) (3 : Int32).toNatClampNeg 0) (4 : Int32).toNatClampNeg 0) (5 : Int32).toNatClampNeg 0) (6 : Int32).toNatClampNeg 99) (7 : Int32).toNatClampNeg 104) (8 : Int32).toNatClampNeg 97) (9 : Int32).toNatClampNeg 110) (10 : Int32).toNatClampNeg 103) (11 : Int32).toNatClampNeg 101) (12 : Int32).toNatClampNeg 103) (13 : Int32).toNatClampNeg 97) (14 : Int32).toNatClampNeg 105) (15 : Int32).toNatClampNeg 110) (16 : Int32).toNatClampNeg 0) (17 : Int32).toNatClampNeg 0))), (q353, .inl (tc 0, 8, .inl (fun _ => 0))), (q361, .inl (tc 0, 8, .inl (fun _ => 0))), (q369, .inl (tc 0, 6, .inl (fun _ => 0))), (q377, .inl (tc 0, 6, .inl (fun _ => 0))), (q385, .inl (tc 0, 6, .inl (fun _ => 0))), (q393, .inl (tc 1, 36, .inl (fun _ => 0))), (q401, .inl (tc 0, 8, .inl (fun _ => 0))), (q409, .inl (tc 0, 6, .inl (fun _ => 0))), (q417, .inl (tc 0, 6, .inl (fun _ => 0))), (q425, .inl (tc 0, 6, .inl (fun _ => 0))), (q433, .inl (tc 0, 20, .inl (fun _ => 0))), (q441, .inl (tc 0, 16, .inl (fun _ => 0))), (q449, .inl (tc 0, 16, .inl (fun _ => 0))), (q457, .inl (tc 0, 16, .inl (fun _ => 0))), (q465, .inl (tc 0, 16, .inl (fun _ => 0))), (q473, .inl (tc 0, 7, .inl (fun _ => 0))), (q486, .inl (tc 0, 60, .inl (fun _ => 0))), (q494, .inl (tc 0, 60, .inl (fun _ => 0))), (q502, .inl (tc 1, 60, .inl (fun _ => 0))), (q510, .inl (tc 0, 16, .inl (fun _ => 0)))]) := by
  refine ct_of (by decide) rfl rfl (Nat.le_of_ble_eq_true rfl) ?_
  intro p e s m args below meth c QF A a ls C hin hl hw kret
  have hx := C.1.1
  have hb := C.1.2.1
  have hl : lv_has ls 1 [(0, .ref a)] := hl
  have hfl : ([.int 0, .int 0, .int 0, .null, .int 0, .null, .null, .null, .null, .null, .null, .int 0, .null, .null, .null, .null, .null, .null, .null, .null, .null, .null, .null, .null, .null, .null, .int 0, .null, .null, .null, .null, .null, .null, .null, .null, .null, .int 0, .int 0, .int 0, .int 0, .int 0, .int 0, .int 0, .int 0, .int 0, .int 0, .int 0, .null, .int 0, .null, .null, .int 0, .null, .null, .null, .null, .null, .int 0, .null, .null, .int 0, .int 0, .null, .null, .int 0, .int 0, .null, .null, .null, .null, .null, .int 0, .int 0, .null, .null, .null, .null] : List Value).length = 77 := rfl
  refine lv_aload_n hx hb dX12_init_0 rfl (lv_at hl 0 rfl) ?_
  refine kx_obj C hl.1 wm_12_1 wi_objectInit wc_objectInit ⟨by decide, by decide⟩ dX12_init_1 ?_
  refine lv_aload_n hx hb dX12_init_4 rfl (lv_at hl 0 rfl) ?_
  refine lv_bipush (v := 10) hx hb dX12_init_5 (by decide) ?_
  refine kx_arr 0 10 C hw wa_0 rfl (by decide) (by decide) (by decide) (by decide) (Nat.le_of_ble_eq_true rfl) (Nat.le_of_ble_eq_true rfl) dX12_init_7 (fun q7 H hw => ?_)
  refine kx_put (q := (RX12, TX12, 77)) 3 C hin hfl hw rfl wf_12_7 (show 3 < 77 by decide) rfl rfl (tyX12_ok 3 (by decide)) rfl rfl dX12_init_9 (fun H locs hfl hw => ?_)
  refine lv_aload_n hx hb dX12_init_12 rfl (lv_at hl 0 rfl) ?_
  refine lv_bipush (v := 30) hx hb dX12_init_13 (by decide) ?_
  refine kx_arr 0 30 C hw wa_0 rfl (by decide) (by decide) (by decide) (by decide) (Nat.le_of_ble_eq_true rfl) (Nat.le_of_ble_eq_true rfl) dX12_init_15 (fun q15 H hw => ?_)
  refine kx_put (q := (RX12, TX12, 77)) 5 C hin hfl hw rfl wf_12_13 (show 5 < 77 by decide) rfl rfl (tyX12_ok 5 (by decide)) rfl rfl dX12_init_17 (fun H locs hfl hw => ?_)
  refine lv_aload_n hx hb dX12_init_20 rfl (lv_at hl 0 rfl) ?_
  refine lv_bipush (v := 30) hx hb dX12_init_21 (by decide) ?_
  refine kx_arr 0 30 C hw wa_0 rfl (by decide) (by decide) (by decide) (by decide) (Nat.le_of_ble_eq_true rfl) (Nat.le_of_ble_eq_true rfl) dX12_init_23 (fun q23 H hw => ?_)
  refine kx_put (q := (RX12, TX12, 77)) 6 C hin hfl hw rfl wf_12_16 (show 6 < 77 by decide) rfl rfl (tyX12_ok 6 (by decide)) rfl rfl dX12_init_25 (fun H locs hfl hw => ?_)
  refine lv_aload_n hx hb dX12_init_28 rfl (lv_at hl 0 rfl) ?_
  refine lv_bipush (v := 30) hx hb dX12_init_29 (by decide) ?_
  refine kx_arr 0 30 C hw wa_0 rfl (by decide) (by decide) (by decide) (by decide) (Nat.le_of_ble_eq_true rfl) (Nat.le_of_ble_eq_true rfl) dX12_init_31 (fun q31 H hw => ?_)
  refine kx_put (q := (RX12, TX12, 77)) 7 C hin hfl hw rfl wf_12_19 (show 7 < 77 by decide) rfl rfl (tyX12_ok 7 (by decide)) rfl rfl dX12_init_33 (fun H locs hfl hw => ?_)
  refine lv_aload_n hx hb dX12_init_36 rfl (lv_at hl 0 rfl) ?_
  refine lv_bipush (v := 30) hx hb dX12_init_37 (by decide) ?_
  refine kx_arr 0 30 C hw wa_0 rfl (by decide) (by decide) (by decide) (by decide) (Nat.le_of_ble_eq_true rfl) (Nat.le_of_ble_eq_true rfl) dX12_init_39 (fun q39 H hw => ?_)
  refine kx_put (q := (RX12, TX12, 77)) 8 C hin hfl hw rfl wf_12_22 (show 8 < 77 by decide) rfl rfl (tyX12_ok 8 (by decide)) rfl rfl dX12_init_41 (fun H locs hfl hw => ?_)
  refine lv_aload_n hx hb dX12_init_44 rfl (lv_at hl 0 rfl) ?_
  refine lv_bipush (v := 30) hx hb dX12_init_45 (by decide) ?_
  refine kx_arr 0 30 C hw wa_0 rfl (by decide) (by decide) (by decide) (by decide) (Nat.le_of_ble_eq_true rfl) (Nat.le_of_ble_eq_true rfl) dX12_init_47 (fun q47 H hw => ?_)
  refine kx_put (q := (RX12, TX12, 77)) 9 C hin hfl hw rfl wf_12_25 (show 9 < 77 by decide) rfl rfl (tyX12_ok 9 (by decide)) rfl rfl dX12_init_49 (fun H locs hfl hw => ?_)
  refine lv_aload_n hx hb dX12_init_52 rfl (lv_at hl 0 rfl) ?_
  refine lv_bipush (v := 30) hx hb dX12_init_53 (by decide) ?_
  refine kx_arr 0 30 C hw wa_0 rfl (by decide) (by decide) (by decide) (by decide) (Nat.le_of_ble_eq_true rfl) (Nat.le_of_ble_eq_true rfl) dX12_init_55 (fun q55 H hw => ?_)
  refine kx_put (q := (RX12, TX12, 77)) 10 C hin hfl hw rfl wf_12_28 (show 10 < 77 by decide) rfl rfl (tyX12_ok 10 (by decide)) rfl rfl dX12_init_57 (fun H locs hfl hw => ?_)
  refine lv_aload_n hx hb dX12_init_60 rfl (lv_at hl 0 rfl) ?_
  refine lv_bipush (v := 100) hx hb dX12_init_61 (by decide) ?_
  refine kx_arr 0 100 C hw wa_0 rfl (by decide) (by decide) (by decide) (by decide) (Nat.le_of_ble_eq_true rfl) (Nat.le_of_ble_eq_true rfl) dX12_init_63 (fun q63 H hw => ?_)
  refine kx_put (q := (RX12, TX12, 77)) 12 C hin hfl hw rfl wf_12_31 (show 12 < 77 by decide) rfl rfl (tyX12_ok 12 (by decide)) rfl rfl dX12_init_65 (fun H locs hfl hw => ?_)
  refine lv_aload_n hx hb dX12_init_68 rfl (lv_at hl 0 rfl) ?_
  refine lv_bipush (v := 100) hx hb dX12_init_69 (by decide) ?_
  refine kx_arr 0 100 C hw wa_0 rfl (by decide) (by decide) (by decide) (by decide) (Nat.le_of_ble_eq_true rfl) (Nat.le_of_ble_eq_true rfl) dX12_init_71 (fun q71 H hw => ?_)
  refine kx_put (q := (RX12, TX12, 77)) 13 C hin hfl hw rfl wf_12_34 (show 13 < 77 by decide) rfl rfl (tyX12_ok 13 (by decide)) rfl rfl dX12_init_73 (fun H locs hfl hw => ?_)
  refine lv_aload_n hx hb dX12_init_76 rfl (lv_at hl 0 rfl) ?_
  refine lv_bipush (v := 100) hx hb dX12_init_77 (by decide) ?_
  refine kx_arr 0 100 C hw wa_0 rfl (by decide) (by decide) (by decide) (by decide) (Nat.le_of_ble_eq_true rfl) (Nat.le_of_ble_eq_true rfl) dX12_init_79 (fun q79 H hw => ?_)
  refine kx_put (q := (RX12, TX12, 77)) 14 C hin hfl hw rfl wf_12_37 (show 14 < 77 by decide) rfl rfl (tyX12_ok 14 (by decide)) rfl rfl dX12_init_81 (fun H locs hfl hw => ?_)
  refine lv_aload_n hx hb dX12_init_84 rfl (lv_at hl 0 rfl) ?_
  refine lv_bipush (v := 100) hx hb dX12_init_85 (by decide) ?_
  refine kx_arr 0 100 C hw wa_0 rfl (by decide) (by decide) (by decide) (by decide) (Nat.le_of_ble_eq_true rfl) (Nat.le_of_ble_eq_true rfl) dX12_init_87 (fun q87 H hw => ?_)
  refine kx_put (q := (RX12, TX12, 77)) 15 C hin hfl hw rfl wf_12_40 (show 15 < 77 by decide) rfl rfl (tyX12_ok 15 (by decide)) rfl rfl dX12_init_89 (fun H locs hfl hw => ?_)
  refine lv_aload_n hx hb dX12_init_92 rfl (lv_at hl 0 rfl) ?_
  refine lv_bipush (v := 100) hx hb dX12_init_93 (by decide) ?_
  refine kx_arr 0 100 C hw wa_0 rfl (by decide) (by decide) (by decide) (by decide) (Nat.le_of_ble_eq_true rfl) (Nat.le_of_ble_eq_true rfl) dX12_init_95 (fun q95 H hw => ?_)
  refine kx_put (q := (RX12, TX12, 77)) 16 C hin hfl hw rfl wf_12_43 (show 16 < 77 by decide) rfl rfl (tyX12_ok 16 (by decide)) rfl rfl dX12_init_97 (fun H locs hfl hw => ?_)
  refine lv_aload_n hx hb dX12_init_100 rfl (lv_at hl 0 rfl) ?_
  refine lv_bipush (v := 100) hx hb dX12_init_101 (by decide) ?_
  refine kx_arr 0 100 C hw wa_0 rfl (by decide) (by decide) (by decide) (by decide) (Nat.le_of_ble_eq_true rfl) (Nat.le_of_ble_eq_true rfl) dX12_init_103 (fun q103 H hw => ?_)
  refine kx_put (q := (RX12, TX12, 77)) 17 C hin hfl hw rfl wf_12_46 (show 17 < 77 by decide) rfl rfl (tyX12_ok 17 (by decide)) rfl rfl dX12_init_105 (fun H locs hfl hw => ?_)
  refine lv_aload_n hx hb dX12_init_108 rfl (lv_at hl 0 rfl) ?_
  refine lv_bipush (v := 100) hx hb dX12_init_109 (by decide) ?_
  refine kx_arr 0 100 C hw wa_0 rfl (by decide) (by decide) (by decide) (by decide) (Nat.le_of_ble_eq_true rfl) (Nat.le_of_ble_eq_true rfl) dX12_init_111 (fun q111 H hw => ?_)
  refine kx_put (q := (RX12, TX12, 77)) 18 C hin hfl hw rfl wf_12_49 (show 18 < 77 by decide) rfl rfl (tyX12_ok 18 (by decide)) rfl rfl dX12_init_113 (fun H locs hfl hw => ?_)
  refine lv_aload_n hx hb dX12_init_116 rfl (lv_at hl 0 rfl) ?_
  refine lv_iconst (v := 2) hx hb dX12_init_117 (by decide) ?_
  refine kx_arr 0 2 C hw wa_0 rfl (by decide) (by decide) (by decide) (by decide) (Nat.le_of_ble_eq_true rfl) (Nat.le_of_ble_eq_true rfl) dX12_init_118 (fun q118 H hw => ?_)
  refine kx_put (q := (RX12, TX12, 77)) 19 C hin hfl hw rfl wf_12_52 (show 19 < 77 by decide) rfl rfl (tyX12_ok 19 (by decide)) rfl rfl dX12_init_120 (fun H locs hfl hw => ?_)
  refine lv_aload_n hx hb dX12_init_123 rfl (lv_at hl 0 rfl) ?_
  refine lv_bipush (v := 32) hx hb dX12_init_124 (by decide) ?_
  refine kx_arr 0 32 C hw wa_0 rfl (by decide) (by decide) (by decide) (by decide) (Nat.le_of_ble_eq_true rfl) (Nat.le_of_ble_eq_true rfl) dX12_init_126 (fun q126 H hw => ?_)
  refine kx_put (q := (RX12, TX12, 77)) 20 C hin hfl hw rfl wf_12_55 (show 20 < 77 by decide) rfl rfl (tyX12_ok 20 (by decide)) rfl rfl dX12_init_128 (fun H locs hfl hw => ?_)
  refine lv_aload_n hx hb dX12_init_131 rfl (lv_at hl 0 rfl) ?_
  refine lv_bipush (v := 100) hx hb dX12_init_132 (by decide) ?_
  refine kx_arr 0 100 C hw wa_0 rfl (by decide) (by decide) (by decide) (by decide) (Nat.le_of_ble_eq_true rfl) (Nat.le_of_ble_eq_true rfl) dX12_init_134 (fun q134 H hw => ?_)
  refine kx_put (q := (RX12, TX12, 77)) 21 C hin hfl hw rfl wf_12_58 (show 21 < 77 by decide) rfl rfl (tyX12_ok 21 (by decide)) rfl rfl dX12_init_136 (fun H locs hfl hw => ?_)
  refine lv_aload_n hx hb dX12_init_139 rfl (lv_at hl 0 rfl) ?_
  refine lv_bipush (v := 30) hx hb dX12_init_140 (by decide) ?_
  refine kx_arr 1 30 C hw wa_1 rfl (by decide) (by decide) (by decide) (by decide) (Nat.le_of_ble_eq_true rfl) (Nat.le_of_ble_eq_true rfl) dX12_init_142 (fun q142 H hw => ?_)
  refine kx_put (q := (RX12, TX12, 77)) 22 C hin hfl hw rfl wf_12_61 (show 22 < 77 by decide) rfl rfl (tyX12_ok 22 (by decide)) rfl rfl dX12_init_144 (fun H locs hfl hw => ?_)
  refine lv_aload_n hx hb dX12_init_147 rfl (lv_at hl 0 rfl) ?_
  refine lv_bipush (v := 30) hx hb dX12_init_148 (by decide) ?_
  refine kx_arr 0 30 C hw wa_0 rfl (by decide) (by decide) (by decide) (by decide) (Nat.le_of_ble_eq_true rfl) (Nat.le_of_ble_eq_true rfl) dX12_init_150 (fun q150 H hw => ?_)
  refine kx_put (q := (RX12, TX12, 77)) 23 C hin hfl hw rfl wf_12_65 (show 23 < 77 by decide) rfl rfl (tyX12_ok 23 (by decide)) rfl rfl dX12_init_152 (fun H locs hfl hw => ?_)
  refine lv_aload_n hx hb dX12_init_155 rfl (lv_at hl 0 rfl) ?_
  refine lv_bipush (v := 30) hx hb dX12_init_156 (by decide) ?_
  refine kx_arr 0 30 C hw wa_0 rfl (by decide) (by decide) (by decide) (by decide) (Nat.le_of_ble_eq_true rfl) (Nat.le_of_ble_eq_true rfl) dX12_init_158 (fun q158 H hw => ?_)
  refine kx_put (q := (RX12, TX12, 77)) 24 C hin hfl hw rfl wf_12_68 (show 24 < 77 by decide) rfl rfl (tyX12_ok 24 (by decide)) rfl rfl dX12_init_160 (fun H locs hfl hw => ?_)
  refine lv_aload_n hx hb dX12_init_163 rfl (lv_at hl 0 rfl) ?_
  refine lv_bipush (v := 25) hx hb dX12_init_164 (by decide) ?_
  refine kx_arr 0 25 C hw wa_0 rfl (by decide) (by decide) (by decide) (by decide) (Nat.le_of_ble_eq_true rfl) (Nat.le_of_ble_eq_true rfl) dX12_init_166 (fun q166 H hw => ?_)
  refine kx_put (q := (RX12, TX12, 77)) 25 C hin hfl hw rfl wf_12_71 (show 25 < 77 by decide) rfl rfl (tyX12_ok 25 (by decide)) rfl rfl dX12_init_168 (fun H locs hfl hw => ?_)
  refine lv_aload_n hx hb dX12_init_171 rfl (lv_at hl 0 rfl) ?_
  refine lv_iconst (v := 3) hx hb dX12_init_172 (by decide) ?_
  refine kx_arr 1 3 C hw wa_1 rfl (by decide) (by decide) (by decide) (by decide) (Nat.le_of_ble_eq_true rfl) (Nat.le_of_ble_eq_true rfl) dX12_init_173 (fun q173 H hw => ?_)
  refine kx_put (q := (RX12, TX12, 77)) 27 C hin hfl hw rfl wf_12_74 (show 27 < 77 by decide) rfl rfl (tyX12_ok 27 (by decide)) rfl rfl dX12_init_175 (fun H locs hfl hw => ?_)
  refine lv_aload_n hx hb dX12_init_178 rfl (lv_at hl 0 rfl) ?_
  refine lv_bipush (v := 9) hx hb dX12_init_179 (by decide) ?_
  refine kx_arr 0 9 C hw wa_0 rfl (by decide) (by decide) (by decide) (by decide) (Nat.le_of_ble_eq_true rfl) (Nat.le_of_ble_eq_true rfl) dX12_init_181 (fun q181 H hw => ?_)
  refine kx_put (q := (RX12, TX12, 77)) 28 C hin hfl hw rfl wf_12_77 (show 28 < 77 by decide) rfl rfl (tyX12_ok 28 (by decide)) rfl rfl dX12_init_183 (fun H locs hfl hw => ?_)
  refine lv_aload_n hx hb dX12_init_186 rfl (lv_at hl 0 rfl) ?_
  refine lv_sipush (v := 900) hx hb dX12_init_187 (by decide) ?_
  refine kx_arr 0 900 C hw wa_0 rfl (by decide) (by decide) (by decide) (by decide) (Nat.le_of_ble_eq_true rfl) (Nat.le_of_ble_eq_true rfl) dX12_init_190 (fun q190 H hw => ?_)
  refine kx_put (q := (RX12, TX12, 77)) 29 C hin hfl hw rfl wf_12_80 (show 29 < 77 by decide) rfl rfl (tyX12_ok 29 (by decide)) rfl rfl dX12_init_192 (fun H locs hfl hw => ?_)
  refine lv_aload_n hx hb dX12_init_195 rfl (lv_at hl 0 rfl) ?_
  refine lv_sipush (v := 900) hx hb dX12_init_196 (by decide) ?_
  refine kx_arr 0 900 C hw wa_0 rfl (by decide) (by decide) (by decide) (by decide) (Nat.le_of_ble_eq_true rfl) (Nat.le_of_ble_eq_true rfl) dX12_init_199 (fun q199 H hw => ?_)
  refine kx_put (q := (RX12, TX12, 77)) 30 C hin hfl hw rfl wf_12_83 (show 30 < 77 by decide) rfl rfl (tyX12_ok 30 (by decide)) rfl rfl dX12_init_201 (fun H locs hfl hw => ?_)
  refine lv_aload_n hx hb dX12_init_204 rfl (lv_at hl 0 rfl) ?_
  refine lv_iconst (v := 3) hx hb dX12_init_205 (by decide) ?_
  refine kx_arr 0 3 C hw wa_0 rfl (by decide) (by decide) (by decide) (by decide) (Nat.le_of_ble_eq_true rfl) (Nat.le_of_ble_eq_true rfl) dX12_init_206 (fun q206 H hw => ?_)
  refine kx_put (q := (RX12, TX12, 77)) 31 C hin hfl hw rfl wf_12_86 (show 31 < 77 by decide) rfl rfl (tyX12_ok 31 (by decide)) rfl rfl dX12_init_208 (fun H locs hfl hw => ?_)
  refine lv_aload_n hx hb dX12_init_211 rfl (lv_at hl 0 rfl) ?_
  refine lv_sipush (v := 300) hx hb dX12_init_212 (by decide) ?_
  refine kx_arr 0 300 C hw wa_0 rfl (by decide) (by decide) (by decide) (by decide) (Nat.le_of_ble_eq_true rfl) (Nat.le_of_ble_eq_true rfl) dX12_init_215 (fun q215 H hw => ?_)
  refine kx_put (q := (RX12, TX12, 77)) 32 C hin hfl hw rfl wf_12_89 (show 32 < 77 by decide) rfl rfl (tyX12_ok 32 (by decide)) rfl rfl dX12_init_217 (fun H locs hfl hw => ?_)
  refine lv_aload_n hx hb dX12_init_220 rfl (lv_at hl 0 rfl) ?_
  refine lv_sipush (v := 300) hx hb dX12_init_221 (by decide) ?_
  refine kx_arr 0 300 C hw wa_0 rfl (by decide) (by decide) (by decide) (by decide) (Nat.le_of_ble_eq_true rfl) (Nat.le_of_ble_eq_true rfl) dX12_init_224 (fun q224 H hw => ?_)
  refine kx_put (q := (RX12, TX12, 77)) 33 C hin hfl hw rfl wf_12_92 (show 33 < 77 by decide) rfl rfl (tyX12_ok 33 (by decide)) rfl rfl dX12_init_226 (fun H locs hfl hw => ?_)
  refine lv_aload_n hx hb dX12_init_229 rfl (lv_at hl 0 rfl) ?_
  refine lv_bipush (v := 100) hx hb dX12_init_230 (by decide) ?_
  refine kx_arr 0 100 C hw wa_0 rfl (by decide) (by decide) (by decide) (by decide) (Nat.le_of_ble_eq_true rfl) (Nat.le_of_ble_eq_true rfl) dX12_init_232 (fun q232 H hw => ?_)
  refine kx_put (q := (RX12, TX12, 77)) 34 C hin hfl hw rfl wf_12_95 (show 34 < 77 by decide) rfl rfl (tyX12_ok 34 (by decide)) rfl rfl dX12_init_234 (fun H locs hfl hw => ?_)
  refine lv_aload_n hx hb dX12_init_237 rfl (lv_at hl 0 rfl) ?_
  refine lv_bipush (v := 96) hx hb dX12_init_238 (by decide) ?_
  refine kx_arr 0 96 C hw wa_0 rfl (by decide) (by decide) (by decide) (by decide) (Nat.le_of_ble_eq_true rfl) (Nat.le_of_ble_eq_true rfl) dX12_init_240 (fun q240 H hw => ?_)
  refine kx_put (q := (RX12, TX12, 77)) 35 C hin hfl hw rfl wf_12_98 (show 35 < 77 by decide) rfl rfl (tyX12_ok 35 (by decide)) rfl rfl dX12_init_242 (fun H locs hfl hw => ?_)
  refine lv_aload_n hx hb dX12_init_245 rfl (lv_at hl 0 rfl) ?_
  refine lv_bipush (v := 18) hx hb dX12_init_246 (by decide) ?_
  refine kx_arr 0 18 C hw wa_0 rfl (by decide) (by decide) (by decide) (by decide) (Nat.le_of_ble_eq_true rfl) (Nat.le_of_ble_eq_true rfl) dX12_init_248 (fun q248 H hw => ?_)
  refine lv_dup hx hb dX12_init_250 rfl ?_
  refine lv_iconst (v := 0) hx hb dX12_init_251 (by decide) ?_
  refine lv_bipush (v := 101) hx hb dX12_init_252 (by decide) ?_
  refine kx_iastL C hw (vp_in_iff.mpr (by decide)) dX12_init_254 (fun H locs hw => ?_)
  refine lv_dup hx hb dX12_init_255 rfl ?_
  refine lv_iconst (v := 1) hx hb dX12_init_256 (by decide) ?_
  refine lv_bipush (v := 110) hx hb dX12_init_257 (by decide) ?_
  refine kx_iastL C hw (vp_in_iff.mpr (by decide)) dX12_init_259 (fun H locs hw => ?_)
  refine lv_dup hx hb dX12_init_260 rfl ?_
  refine lv_iconst (v := 2) hx hb dX12_init_261 (by decide) ?_
  refine lv_bipush (v := 100) hx hb dX12_init_262 (by decide) ?_
  refine kx_iastL C hw (vp_in_iff.mpr (by decide)) dX12_init_264 (fun H locs hw => ?_)
  refine lv_dup hx hb dX12_init_265 rfl ?_
  refine lv_iconst (v := 3) hx hb dX12_init_266 (by decide) ?_
  refine lv_iconst (v := 0) hx hb dX12_init_267 (by decide) ?_
  refine kx_iastL C hw (vp_in_iff.mpr (by decide)) dX12_init_268 (fun H locs hw => ?_)
  refine lv_dup hx hb dX12_init_269 rfl ?_
  refine lv_iconst (v := 4) hx hb dX12_init_270 (by decide) ?_
  refine lv_iconst (v := 0) hx hb dX12_init_271 (by decide) ?_
  refine kx_iastL C hw (vp_in_iff.mpr (by decide)) dX12_init_272 (fun H locs hw => ?_)
  refine lv_dup hx hb dX12_init_273 rfl ?_
  refine lv_iconst (v := 5) hx hb dX12_init_274 (by decide) ?_
  refine lv_iconst (v := 0) hx hb dX12_init_275 (by decide) ?_
  refine kx_iastL C hw (vp_in_iff.mpr (by decide)) dX12_init_276 (fun H locs hw => ?_)
  refine lv_dup hx hb dX12_init_277 rfl ?_
  refine lv_bipush (v := 6) hx hb dX12_init_278 (by decide) ?_
  refine lv_bipush (v := 99) hx hb dX12_init_280 (by decide) ?_
  refine kx_iastL C hw (vp_in_iff.mpr (by decide)) dX12_init_282 (fun H locs hw => ?_)
  refine lv_dup hx hb dX12_init_283 rfl ?_
  refine lv_bipush (v := 7) hx hb dX12_init_284 (by decide) ?_
  refine lv_bipush (v := 104) hx hb dX12_init_286 (by decide) ?_
  refine kx_iastL C hw (vp_in_iff.mpr (by decide)) dX12_init_288 (fun H locs hw => ?_)
  refine lv_dup hx hb dX12_init_289 rfl ?_
  refine lv_bipush (v := 8) hx hb dX12_init_290 (by decide) ?_
  refine lv_bipush (v := 97) hx hb dX12_init_292 (by decide) ?_
  refine kx_iastL C hw (vp_in_iff.mpr (by decide)) dX12_init_294 (fun H locs hw => ?_)
  refine lv_dup hx hb dX12_init_295 rfl ?_
  refine lv_bipush (v := 9) hx hb dX12_init_296 (by decide) ?_
  refine lv_bipush (v := 110) hx hb dX12_init_298 (by decide) ?_
  refine kx_iastL C hw (vp_in_iff.mpr (by decide)) dX12_init_300 (fun H locs hw => ?_)
  refine lv_dup hx hb dX12_init_301 rfl ?_
  refine lv_bipush (v := 10) hx hb dX12_init_302 (by decide) ?_
  refine lv_bipush (v := 103) hx hb dX12_init_304 (by decide) ?_
  refine kx_iastL C hw (vp_in_iff.mpr (by decide)) dX12_init_306 (fun H locs hw => ?_)
  refine lv_dup hx hb dX12_init_307 rfl ?_
  refine lv_bipush (v := 11) hx hb dX12_init_308 (by decide) ?_
  refine lv_bipush (v := 101) hx hb dX12_init_310 (by decide) ?_
  refine kx_iastL C hw (vp_in_iff.mpr (by decide)) dX12_init_312 (fun H locs hw => ?_)
  refine lv_dup hx hb dX12_init_313 rfl ?_
  refine lv_bipush (v := 12) hx hb dX12_init_314 (by decide) ?_
  refine lv_bipush (v := 103) hx hb dX12_init_316 (by decide) ?_
  refine kx_iastL C hw (vp_in_iff.mpr (by decide)) dX12_init_318 (fun H locs hw => ?_)
  refine lv_dup hx hb dX12_init_319 rfl ?_
  refine lv_bipush (v := 13) hx hb dX12_init_320 (by decide) ?_
  refine lv_bipush (v := 97) hx hb dX12_init_322 (by decide) ?_
  refine kx_iastL C hw (vp_in_iff.mpr (by decide)) dX12_init_324 (fun H locs hw => ?_)
  refine lv_dup hx hb dX12_init_325 rfl ?_
  refine lv_bipush (v := 14) hx hb dX12_init_326 (by decide) ?_
  refine lv_bipush (v := 105) hx hb dX12_init_328 (by decide) ?_
  refine kx_iastL C hw (vp_in_iff.mpr (by decide)) dX12_init_330 (fun H locs hw => ?_)
  refine lv_dup hx hb dX12_init_331 rfl ?_
  refine lv_bipush (v := 15) hx hb dX12_init_332 (by decide) ?_
  refine lv_bipush (v := 110) hx hb dX12_init_334 (by decide) ?_
  refine kx_iastL C hw (vp_in_iff.mpr (by decide)) dX12_init_336 (fun H locs hw => ?_)
  refine lv_dup hx hb dX12_init_337 rfl ?_
  refine lv_bipush (v := 16) hx hb dX12_init_338 (by decide) ?_
  refine lv_iconst (v := 0) hx hb dX12_init_340 (by decide) ?_
  refine kx_iastL C hw (vp_in_iff.mpr (by decide)) dX12_init_341 (fun H locs hw => ?_)
  refine lv_dup hx hb dX12_init_342 rfl ?_
  refine lv_bipush (v := 17) hx hb dX12_init_343 (by decide) ?_
  refine lv_iconst (v := 0) hx hb dX12_init_345 (by decide) ?_
  refine kx_iastL C hw (vp_in_iff.mpr (by decide)) dX12_init_346 (fun H locs hw => ?_)
  refine kx_put (q := (RX12, TX12, 77)) 47 C hin hfl hw rfl wf_12_101 (show 47 < 77 by decide) rfl rfl (tyX12_ok 47 (by decide)) rfl rfl dX12_init_347 (fun H locs hfl hw => ?_)
  refine lv_aload_n hx hb dX12_init_350 rfl (lv_at hl 0 rfl) ?_
  refine lv_bipush (v := 8) hx hb dX12_init_351 (by decide) ?_
  refine kx_arr 0 8 C hw wa_0 rfl (by decide) (by decide) (by decide) (by decide) (Nat.le_of_ble_eq_true rfl) (Nat.le_of_ble_eq_true rfl) dX12_init_353 (fun q353 H hw => ?_)
  refine kx_put (q := (RX12, TX12, 77)) 49 C hin hfl hw rfl wf_12_104 (show 49 < 77 by decide) rfl rfl (tyX12_ok 49 (by decide)) rfl rfl dX12_init_355 (fun H locs hfl hw => ?_)
  refine lv_aload_n hx hb dX12_init_358 rfl (lv_at hl 0 rfl) ?_
  refine lv_bipush (v := 8) hx hb dX12_init_359 (by decide) ?_
  refine kx_arr 0 8 C hw wa_0 rfl (by decide) (by decide) (by decide) (by decide) (Nat.le_of_ble_eq_true rfl) (Nat.le_of_ble_eq_true rfl) dX12_init_361 (fun q361 H hw => ?_)
  refine kx_put (q := (RX12, TX12, 77)) 50 C hin hfl hw rfl wf_12_107 (show 50 < 77 by decide) rfl rfl (tyX12_ok 50 (by decide)) rfl rfl dX12_init_363 (fun H locs hfl hw => ?_)
  refine lv_aload_n hx hb dX12_init_366 rfl (lv_at hl 0 rfl) ?_
  refine lv_bipush (v := 6) hx hb dX12_init_367 (by decide) ?_
  refine kx_arr 0 6 C hw wa_0 rfl (by decide) (by decide) (by decide) (by decide) (Nat.le_of_ble_eq_true rfl) (Nat.le_of_ble_eq_true rfl) dX12_init_369 (fun q369 H hw => ?_)
  refine kx_put (q := (RX12, TX12, 77)) 52 C hin hfl hw rfl wf_12_110 (show 52 < 77 by decide) rfl rfl (tyX12_ok 52 (by decide)) rfl rfl dX12_init_371 (fun H locs hfl hw => ?_)
  refine lv_aload_n hx hb dX12_init_374 rfl (lv_at hl 0 rfl) ?_
  refine lv_bipush (v := 6) hx hb dX12_init_375 (by decide) ?_
  refine kx_arr 0 6 C hw wa_0 rfl (by decide) (by decide) (by decide) (by decide) (Nat.le_of_ble_eq_true rfl) (Nat.le_of_ble_eq_true rfl) dX12_init_377 (fun q377 H hw => ?_)
  refine kx_put (q := (RX12, TX12, 77)) 53 C hin hfl hw rfl wf_12_113 (show 53 < 77 by decide) rfl rfl (tyX12_ok 53 (by decide)) rfl rfl dX12_init_379 (fun H locs hfl hw => ?_)
  refine lv_aload_n hx hb dX12_init_382 rfl (lv_at hl 0 rfl) ?_
  refine lv_bipush (v := 6) hx hb dX12_init_383 (by decide) ?_
  refine kx_arr 0 6 C hw wa_0 rfl (by decide) (by decide) (by decide) (by decide) (Nat.le_of_ble_eq_true rfl) (Nat.le_of_ble_eq_true rfl) dX12_init_385 (fun q385 H hw => ?_)
  refine kx_put (q := (RX12, TX12, 77)) 54 C hin hfl hw rfl wf_12_116 (show 54 < 77 by decide) rfl rfl (tyX12_ok 54 (by decide)) rfl rfl dX12_init_387 (fun H locs hfl hw => ?_)
  refine lv_aload_n hx hb dX12_init_390 rfl (lv_at hl 0 rfl) ?_
  refine lv_bipush (v := 36) hx hb dX12_init_391 (by decide) ?_
  refine kx_arr 1 36 C hw wa_1 rfl (by decide) (by decide) (by decide) (by decide) (Nat.le_of_ble_eq_true rfl) (Nat.le_of_ble_eq_true rfl) dX12_init_393 (fun q393 H hw => ?_)
  refine kx_put (q := (RX12, TX12, 77)) 55 C hin hfl hw rfl wf_12_119 (show 55 < 77 by decide) rfl rfl (tyX12_ok 55 (by decide)) rfl rfl dX12_init_395 (fun H locs hfl hw => ?_)
  refine lv_aload_n hx hb dX12_init_398 rfl (lv_at hl 0 rfl) ?_
  refine lv_bipush (v := 8) hx hb dX12_init_399 (by decide) ?_
  refine kx_arr 0 8 C hw wa_0 rfl (by decide) (by decide) (by decide) (by decide) (Nat.le_of_ble_eq_true rfl) (Nat.le_of_ble_eq_true rfl) dX12_init_401 (fun q401 H hw => ?_)
  refine kx_put (q := (RX12, TX12, 77)) 56 C hin hfl hw rfl wf_12_122 (show 56 < 77 by decide) rfl rfl (tyX12_ok 56 (by decide)) rfl rfl dX12_init_403 (fun H locs hfl hw => ?_)
  refine lv_aload_n hx hb dX12_init_406 rfl (lv_at hl 0 rfl) ?_
  refine lv_bipush (v := 6) hx hb dX12_init_407 (by decide) ?_
  refine kx_arr 0 6 C hw wa_0 rfl (by decide) (by decide) (by decide) (by decide) (Nat.le_of_ble_eq_true rfl) (Nat.le_of_ble_eq_true rfl) dX12_init_409 (fun q409 H hw => ?_)
  refine kx_put (q := (RX12, TX12, 77)) 58 C hin hfl hw rfl wf_12_125 (show 58 < 77 by decide) rfl rfl (tyX12_ok 58 (by decide)) rfl rfl dX12_init_411 (fun H locs hfl hw => ?_)
  refine lv_aload_n hx hb dX12_init_414 rfl (lv_at hl 0 rfl) ?_
  refine lv_bipush (v := 6) hx hb dX12_init_415 (by decide) ?_
  refine kx_arr 0 6 C hw wa_0 rfl (by decide) (by decide) (by decide) (by decide) (Nat.le_of_ble_eq_true rfl) (Nat.le_of_ble_eq_true rfl) dX12_init_417 (fun q417 H hw => ?_)
  refine kx_put (q := (RX12, TX12, 77)) 59 C hin hfl hw rfl wf_12_128 (show 59 < 77 by decide) rfl rfl (tyX12_ok 59 (by decide)) rfl rfl dX12_init_419 (fun H locs hfl hw => ?_)
  refine lv_aload_n hx hb dX12_init_422 rfl (lv_at hl 0 rfl) ?_
  refine lv_bipush (v := 6) hx hb dX12_init_423 (by decide) ?_
  refine kx_arr 0 6 C hw wa_0 rfl (by decide) (by decide) (by decide) (by decide) (Nat.le_of_ble_eq_true rfl) (Nat.le_of_ble_eq_true rfl) dX12_init_425 (fun q425 H hw => ?_)
  refine kx_put (q := (RX12, TX12, 77)) 62 C hin hfl hw rfl wf_12_131 (show 62 < 77 by decide) rfl rfl (tyX12_ok 62 (by decide)) rfl rfl dX12_init_427 (fun H locs hfl hw => ?_)
  refine lv_aload_n hx hb dX12_init_430 rfl (lv_at hl 0 rfl) ?_
  refine lv_bipush (v := 20) hx hb dX12_init_431 (by decide) ?_
  refine kx_arr 0 20 C hw wa_0 rfl (by decide) (by decide) (by decide) (by decide) (Nat.le_of_ble_eq_true rfl) (Nat.le_of_ble_eq_true rfl) dX12_init_433 (fun q433 H hw => ?_)
  refine kx_put (q := (RX12, TX12, 77)) 63 C hin hfl hw rfl wf_12_134 (show 63 < 77 by decide) rfl rfl (tyX12_ok 63 (by decide)) rfl rfl dX12_init_435 (fun H locs hfl hw => ?_)
  refine lv_aload_n hx hb dX12_init_438 rfl (lv_at hl 0 rfl) ?_
  refine lv_bipush (v := 16) hx hb dX12_init_439 (by decide) ?_
  refine kx_arr 0 16 C hw wa_0 rfl (by decide) (by decide) (by decide) (by decide) (Nat.le_of_ble_eq_true rfl) (Nat.le_of_ble_eq_true rfl) dX12_init_441 (fun q441 H hw => ?_)
  refine kx_put (q := (RX12, TX12, 77)) 66 C hin hfl hw rfl wf_12_137 (show 66 < 77 by decide) rfl rfl (tyX12_ok 66 (by decide)) rfl rfl dX12_init_443 (fun H locs hfl hw => ?_)
  refine lv_aload_n hx hb dX12_init_446 rfl (lv_at hl 0 rfl) ?_
  refine lv_bipush (v := 16) hx hb dX12_init_447 (by decide) ?_
  refine kx_arr 0 16 C hw wa_0 rfl (by decide) (by decide) (by decide) (by decide) (Nat.le_of_ble_eq_true rfl) (Nat.le_of_ble_eq_true rfl) dX12_init_449 (fun q449 H hw => ?_)
  refine kx_put (q := (RX12, TX12, 77)) 67 C hin hfl hw rfl wf_12_140 (show 67 < 77 by decide) rfl rfl (tyX12_ok 67 (by decide)) rfl rfl dX12_init_451 (fun H locs hfl hw => ?_)
  refine lv_aload_n hx hb dX12_init_454 rfl (lv_at hl 0 rfl) ?_
  refine lv_bipush (v := 16) hx hb dX12_init_455 (by decide) ?_
  refine kx_arr 0 16 C hw wa_0 rfl (by decide) (by decide) (by decide) (by decide) (Nat.le_of_ble_eq_true rfl) (Nat.le_of_ble_eq_true rfl) dX12_init_457 (fun q457 H hw => ?_)
  refine kx_put (q := (RX12, TX12, 77)) 68 C hin hfl hw rfl wf_12_143 (show 68 < 77 by decide) rfl rfl (tyX12_ok 68 (by decide)) rfl rfl dX12_init_459 (fun H locs hfl hw => ?_)
  refine lv_aload_n hx hb dX12_init_462 rfl (lv_at hl 0 rfl) ?_
  refine lv_bipush (v := 16) hx hb dX12_init_463 (by decide) ?_
  refine kx_arr 0 16 C hw wa_0 rfl (by decide) (by decide) (by decide) (by decide) (Nat.le_of_ble_eq_true rfl) (Nat.le_of_ble_eq_true rfl) dX12_init_465 (fun q465 H hw => ?_)
  refine kx_put (q := (RX12, TX12, 77)) 69 C hin hfl hw rfl wf_12_146 (show 69 < 77 by decide) rfl rfl (tyX12_ok 69 (by decide)) rfl rfl dX12_init_467 (fun H locs hfl hw => ?_)
  refine lv_aload_n hx hb dX12_init_470 rfl (lv_at hl 0 rfl) ?_
  refine lv_bipush (v := 7) hx hb dX12_init_471 (by decide) ?_
  refine kx_arr 0 7 C hw wa_0 rfl (by decide) (by decide) (by decide) (by decide) (Nat.le_of_ble_eq_true rfl) (Nat.le_of_ble_eq_true rfl) dX12_init_473 (fun q473 H hw => ?_)
  refine kx_put (q := (RX12, TX12, 77)) 70 C hin hfl hw rfl wf_12_149 (show 70 < 77 by decide) rfl rfl (tyX12_ok 70 (by decide)) rfl rfl dX12_init_475 (fun H locs hfl hw => ?_)
  refine lv_aload_n hx hb dX12_init_478 rfl (lv_at hl 0 rfl) ?_
  refine lv_iconst (v := 3) hx hb dX12_init_479 (by decide) ?_
  refine kx_put (q := (RX12, TX12, 77)) 72 C hin hfl hw rfl wf_12_152 (show 72 < 77 by decide) rfl rfl (tyX12_ok 72 (by decide)) rfl rfl dX12_init_480 (fun H locs hfl hw => ?_)
  refine lv_aload_n hx hb dX12_init_483 rfl (lv_at hl 0 rfl) ?_
  refine lv_bipush (v := 60) hx hb dX12_init_484 (by decide) ?_
  refine kx_arr 0 60 C hw wa_0 rfl (by decide) (by decide) (by decide) (by decide) (Nat.le_of_ble_eq_true rfl) (Nat.le_of_ble_eq_true rfl) dX12_init_486 (fun q486 H hw => ?_)
  refine kx_put (q := (RX12, TX12, 77)) 73 C hin hfl hw rfl wf_12_156 (show 73 < 77 by decide) rfl rfl (tyX12_ok 73 (by decide)) rfl rfl dX12_init_488 (fun H locs hfl hw => ?_)
  refine lv_aload_n hx hb dX12_init_491 rfl (lv_at hl 0 rfl) ?_
  refine lv_bipush (v := 60) hx hb dX12_init_492 (by decide) ?_
  refine kx_arr 0 60 C hw wa_0 rfl (by decide) (by decide) (by decide) (by decide) (Nat.le_of_ble_eq_true rfl) (Nat.le_of_ble_eq_true rfl) dX12_init_494 (fun q494 H hw => ?_)
  refine kx_put (q := (RX12, TX12, 77)) 74 C hin hfl hw rfl wf_12_159 (show 74 < 77 by decide) rfl rfl (tyX12_ok 74 (by decide)) rfl rfl dX12_init_496 (fun H locs hfl hw => ?_)
  refine lv_aload_n hx hb dX12_init_499 rfl (lv_at hl 0 rfl) ?_
  refine lv_bipush (v := 60) hx hb dX12_init_500 (by decide) ?_
  refine kx_arr 1 60 C hw wa_1 rfl (by decide) (by decide) (by decide) (by decide) (Nat.le_of_ble_eq_true rfl) (Nat.le_of_ble_eq_true rfl) dX12_init_502 (fun q502 H hw => ?_)
  refine kx_put (q := (RX12, TX12, 77)) 75 C hin hfl hw rfl wf_12_162 (show 75 < 77 by decide) rfl rfl (tyX12_ok 75 (by decide)) rfl rfl dX12_init_504 (fun H locs hfl hw => ?_)
  refine lv_aload_n hx hb dX12_init_507 rfl (lv_at hl 0 rfl) ?_
  refine lv_bipush (v := 16) hx hb dX12_init_508 (by decide) ?_
  refine kx_arr 0 16 C hw wa_0 rfl (by decide) (by decide) (by decide) (by decide) (Nat.le_of_ble_eq_true rfl) (Nat.le_of_ble_eq_true rfl) dX12_init_510 (fun q510 H hw => ?_)
  refine kx_put (q := (RX12, TX12, 77)) 76 C hin hfl hw rfl wf_12_165 (show 76 < 77 by decide) rfl rfl (tyX12_ok 76 (by decide)) rfl rfl dX12_init_512 (fun H locs hfl hw => ?_)
  refine lv_aload_n hx hb dX12_init_515 rfl (lv_at hl 0 rfl) ?_
  refine kx_get (q := (RX12, TX12, 77)) 19 (v := .ref q118) C hw rfl wf_12_52 (show 19 < 77 by decide) rfl rfl dX12_init_516 ?_
  refine lv_iconst (v := 0) hx hb dX12_init_519 (by decide) ?_
  refine lv_iconst (v := (-1)) hx hb dX12_init_520 (by decide) ?_
  refine kx_iast 15 C hw rfl (vp_in_iff.mpr (by decide)) dX12_init_521 (fun H locs hw => ?_)
  refine lv_aload_n hx hb dX12_init_522 rfl (lv_at hl 0 rfl) ?_
  refine kx_get (q := (RX12, TX12, 77)) 19 (v := .ref q118) C hw rfl wf_12_52 (show 19 < 77 by decide) rfl rfl dX12_init_523 ?_
  refine lv_iconst (v := 1) hx hb dX12_init_526 (by decide) ?_
  refine lv_iconst (v := (-1)) hx hb dX12_init_527 (by decide) ?_
  refine kx_iast 15 C hw rfl (vp_in_iff.mpr (by decide)) dX12_init_528 (fun H locs hw => ?_)
  refine W.widen (k := 51) (n := 4151) (Nat.le_of_ble_eq_true rfl) (Nat.le_of_ble_eq_true rfl) ?_
  exact kret 529 _ _ _ _ dX12_init_529 ⟨q7, q15, q23, q31, q39, q47, q55, q63, q71, q79, q87, q95, q103, q111, q118, q126, q134, q142, q150, q158, q166, q173, q181, q190, q199, q206, q215, q224, q232, q240, q248, q353, q361, q369, q377, q385, q393, q401, q409, q417, q425, q433, q441, q449, q457, q465, q473, q486, q494, q502, q510, rfl⟩ hw
