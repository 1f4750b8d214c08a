/-! THE CONSTRUCTORS: the tables' words and the decoded places that they need -/
abbrev cX0_init : ByteArray := prog_2_method_1_code
def yX0_init : MethodName := ⟨RX0, "<init>", "()V"⟩
abbrev cX1_init : ByteArray := prog_3_method_1_code
def yX1_init : MethodName := ⟨RX1, "<init>", "()V"⟩
abbrev cX2_init : ByteArray := prog_4_method_1_code
def yX2_init : MethodName := ⟨RX2, "<init>", "()V"⟩
abbrev cX3_init : ByteArray := prog_5_method_1_code
def yX3_init : MethodName := ⟨RX3, "<init>", "()V"⟩
abbrev cX4_init : ByteArray := prog_6_method_1_code
def yX4_init : MethodName := ⟨RX4, "<init>", "([B)V"⟩
abbrev cX5_init : ByteArray := prog_7_method_1_code
def yX5_init : MethodName := ⟨RX5, "<init>", "()V"⟩
abbrev cX6_init : ByteArray := prog_8_method_1_code
def yX6_init : MethodName := ⟨RX6, "<init>", "(LVoucherHall$Basket;)V"⟩
abbrev cX7_init : ByteArray := prog_9_method_1_code
def yX7_init : MethodName := ⟨RX7, "<init>", "()V"⟩
abbrev cX8_init : ByteArray := prog_10_method_1_code
def yX8_init : MethodName := ⟨RX8, "<init>", "(LVoucherHall$Trade;LVoucherHall$Vouchers;LVoucherHall$Lines;LVoucherHall$LawBook;)V"⟩
abbrev cX9_init : ByteArray := prog_11_method_1_code
def yX9_init : MethodName := ⟨RX9, "<init>", "()V"⟩
abbrev cX10_init : ByteArray := prog_12_method_1_code
def yX10_init : MethodName := ⟨RX10, "<init>", "()V"⟩
abbrev cX11_init : ByteArray := prog_1_method_1_code
def yX11_init : MethodName := ⟨RX11, "<init>", "()V"⟩
abbrev cX12_init : ByteArray := prog_14_method_1_code
def yX12_init : MethodName := ⟨RX12, "<init>", "()V"⟩
set_option maxRecDepth 100000 in
theorem wm_9_3 : Cond.methodLink RX9 3 objectInit ∈ tg := isA_of (i := 110) (by decide +kernel) rfl
set_option maxRecDepth 100000 in
theorem wi_objectInit : Cond.instanceMethod objectInit ∈ tg := isA_of (i := 103) (by decide +kernel) rfl
set_option maxRecDepth 100000 in
theorem wc_objectInit : Cond.code objectInit ⟨#[0xb1]⟩ 1 none ∈ tg := tg_of 104 rfl rfl
set_option maxRecDepth 100000 in
theorem wf_9_9 : Cond.fieldLink RX9 9 RX9 (TX9 0).2.1 (TX9 0).2.2.1 ∈ tg := isA_of (i := 111) (by decide +kernel) rfl
set_option maxRecDepth 100000 in
theorem wf_9_15 : Cond.fieldLink RX9 15 RX9 (TX9 1).2.1 (TX9 1).2.2.1 ∈ tg := isA_of (i := 113) (by decide +kernel) rfl
set_option maxRecDepth 100000 in
theorem wf_9_18 : Cond.fieldLink RX9 18 RX9 (TX9 2).2.1 (TX9 2).2.2.1 ∈ tg := isA_of (i := 115) (by decide +kernel) rfl
set_option maxRecDepth 100000 in
theorem wa_0 : Cond.arrayClass (tyF 0) ∈ tg := isA_of (i := 128) (by decide +kernel) rfl
set_option maxRecDepth 100000 in
theorem wf_9_21 : Cond.fieldLink RX9 21 RX9 (TX9 3).2.1 (TX9 3).2.2.1 ∈ tg := isA_of (i := 117) (by decide +kernel) rfl
set_option maxRecDepth 100000 in
theorem wm_10_3 : Cond.methodLink RX10 3 objectInit ∈ tg := isA_of (i := 134) (by decide +kernel) rfl
set_option maxRecDepth 100000 in
theorem wf_10_9 : Cond.fieldLink RX10 9 RX10 (TX10 0).2.1 (TX10 0).2.2.1 ∈ tg := isA_of (i := 135) (by decide +kernel) rfl
set_option maxRecDepth 100000 in
theorem wf_10_15 : Cond.fieldLink RX10 15 RX10 (TX10 1).2.1 (TX10 1).2.2.1 ∈ tg := isA_of (i := 138) (by decide +kernel) rfl
set_option maxRecDepth 100000 in
theorem wf_10_19 : Cond.fieldLink RX10 19 RX10 (TX10 2).2.1 (TX10 2).2.2.1 ∈ tg := isA_of (i := 141) (by decide +kernel) rfl
set_option maxRecDepth 100000 in
theorem wf_10_22 : Cond.fieldLink RX10 22 RX10 (TX10 3).2.1 (TX10 3).2.2.1 ∈ tg := isA_of (i := 143) (by decide +kernel) rfl
set_option maxRecDepth 100000 in
theorem wf_10_25 : Cond.fieldLink RX10 25 RX10 (TX10 4).2.1 (TX10 4).2.2.1 ∈ tg := isA_of (i := 145) (by decide +kernel) rfl
set_option maxRecDepth 100000 in
theorem wf_10_28 : Cond.fieldLink RX10 28 RX10 (TX10 5).2.1 (TX10 5).2.2.1 ∈ tg := isA_of (i := 147) (by decide +kernel) rfl
set_option maxRecDepth 100000 in
theorem wf_10_31 : Cond.fieldLink RX10 31 RX10 (TX10 6).2.1 (TX10 6).2.2.1 ∈ tg := isA_of (i := 149) (by decide +kernel) rfl
set_option maxRecDepth 100000 in
theorem wm_5_3 : Cond.methodLink RX5 3 objectInit ∈ tg := isA_of (i := 171) (by decide +kernel) rfl
set_option maxRecDepth 100000 in
theorem wf_5_9 : Cond.fieldLink RX5 9 RX5 (TX5 0).2.1 (TX5 0).2.2.1 ∈ tg := isA_of (i := 172) (by decide +kernel) rfl
set_option maxRecDepth 100000 in
theorem wf_5_15 : Cond.fieldLink RX5 15 RX5 (TX5 1).2.1 (TX5 1).2.2.1 ∈ tg := isA_of (i := 175) (by decide +kernel) rfl
set_option maxRecDepth 100000 in
theorem wf_5_18 : Cond.fieldLink RX5 18 RX5 (TX5 2).2.1 (TX5 2).2.2.1 ∈ tg := isA_of (i := 177) (by decide +kernel) rfl
set_option maxRecDepth 100000 in
theorem wf_5_22 : Cond.fieldLink RX5 22 RX5 (TX5 3).2.1 (TX5 3).2.2.1 ∈ tg := isA_of (i := 180) (by decide +kernel) rfl
set_option maxRecDepth 100000 in
theorem wf_5_25 : Cond.fieldLink RX5 25 RX5 (TX5 4).2.1 (TX5 4).2.2.1 ∈ tg := isA_of (i := 183) (by decide +kernel) rfl
set_option maxRecDepth 100000 in
theorem wf_5_28 : Cond.fieldLink RX5 28 RX5 (TX5 5).2.1 (TX5 5).2.2.1 ∈ tg := isA_of (i := 186) (by decide +kernel) rfl
set_option maxRecDepth 100000 in
theorem wf_5_31 : Cond.fieldLink RX5 31 RX5 (TX5 6).2.1 (TX5 6).2.2.1 ∈ tg := isA_of (i := 188) (by decide +kernel) rfl
set_option maxRecDepth 100000 in
theorem wf_5_34 : Cond.fieldLink RX5 34 RX5 (TX5 7).2.1 (TX5 7).2.2.1 ∈ tg := isA_of (i := 190) (by decide +kernel) rfl
set_option maxRecDepth 100000 in
theorem wf_5_37 : Cond.fieldLink RX5 37 RX5 (TX5 8).2.1 (TX5 8).2.2.1 ∈ tg := isA_of (i := 193) (by decide +kernel) rfl
set_option maxRecDepth 100000 in
theorem wf_5_40 : Cond.fieldLink RX5 40 RX5 (TX5 9).2.1 (TX5 9).2.2.1 ∈ tg := isA_of (i := 196) (by decide +kernel) rfl
set_option maxRecDepth 100000 in
theorem wm_3_3 : Cond.methodLink RX3 3 objectInit ∈ tg := isA_of (i := 224) (by decide +kernel) rfl
set_option maxRecDepth 100000 in
theorem wa_1 : Cond.arrayClass (tyF 1) ∈ tg := isA_of (i := 241) (by decide +kernel) rfl
set_option maxRecDepth 100000 in
theorem wf_3_9 : Cond.fieldLink RX3 9 RX3 (TX3 0).2.1 (TX3 0).2.2.1 ∈ tg := isA_of (i := 227) (by decide +kernel) rfl
set_option maxRecDepth 100000 in
theorem wl_3_15 : Cond.classLink RX3 15 "[[I" ∈ tg := isA_of (i := 225) (by decide +kernel) rfl
set_option maxRecDepth 100000 in
theorem wf_3_17 : Cond.fieldLink RX3 17 RX3 (TX3 1).2.1 (TX3 1).2.2.1 ∈ tg := isA_of (i := 229) (by decide +kernel) rfl
set_option maxRecDepth 100000 in
theorem wf_3_20 : Cond.fieldLink RX3 20 RX3 (TX3 2).2.1 (TX3 2).2.2.1 ∈ tg := isA_of (i := 230) (by decide +kernel) rfl
set_option maxRecDepth 100000 in
theorem wf_3_23 : Cond.fieldLink RX3 23 RX3 (TX3 3).2.1 (TX3 3).2.2.1 ∈ tg := isA_of (i := 231) (by decide +kernel) rfl
set_option maxRecDepth 100000 in
theorem wm_4_3 : Cond.methodLink RX4 3 objectInit ∈ tg := isA_of (i := 247) (by decide +kernel) rfl
set_option maxRecDepth 100000 in
theorem wf_4_9 : Cond.fieldLink RX4 9 RX4 (TX4 0).2.1 (TX4 0).2.2.1 ∈ tg := isA_of (i := 248) (by decide +kernel) rfl
set_option maxRecDepth 100000 in
theorem wf_4_15 : Cond.fieldLink RX4 15 RX4 (TX4 1).2.1 (TX4 1).2.2.1 ∈ tg := isA_of (i := 250) (by decide +kernel) rfl
set_option maxRecDepth 100000 in
theorem wf_4_18 : Cond.fieldLink RX4 18 RX4 (TX4 2).2.1 (TX4 2).2.2.1 ∈ tg := isA_of (i := 252) (by decide +kernel) rfl
set_option maxRecDepth 100000 in
theorem wf_4_22 : Cond.fieldLink RX4 22 RX4 (TX4 3).2.1 (TX4 3).2.2.1 ∈ tg := isA_of (i := 254) (by decide +kernel) rfl
set_option maxRecDepth 100000 in
theorem wf_4_25 : Cond.fieldLink RX4 25 RX4 (TX4 5).2.1 (TX4 5).2.2.1 ∈ tg := isA_of (i := 257) (by decide +kernel) rfl
set_option maxRecDepth 100000 in
theorem wf_4_28 : Cond.fieldLink RX4 28 RX4 (TX4 6).2.1 (TX4 6).2.2.1 ∈ tg := isA_of (i := 258) (by decide +kernel) rfl
set_option maxRecDepth 100000 in
theorem wf_4_31 : Cond.fieldLink RX4 31 RX4 (TX4 7).2.1 (TX4 7).2.2.1 ∈ tg := isA_of (i := 259) (by decide +kernel) rfl
set_option maxRecDepth 100000 in
theorem wf_4_34 : Cond.fieldLink RX4 34 RX4 (TX4 8).2.1 (TX4 8).2.2.1 ∈ tg := isA_of (i := 260) (by decide +kernel) rfl
set_option maxRecDepth 100000 in
theorem wf_4_37 : Cond.fieldLink RX4 37 RX4 (TX4 9).2.1 (TX4 9).2.2.1 ∈ tg := isA_of (i := 261) (by decide +kernel) rfl
set_option maxRecDepth 100000 in
theorem wf_4_40 : Cond.fieldLink RX4 40 RX4 (TX4 10).2.1 (TX4 10).2.2.1 ∈ tg := isA_of (i := 262) (by decide +kernel) rfl
set_option maxRecDepth 100000 in
theorem wf_4_44 : Cond.fieldLink RX4 44 RX4 (TX4 11).2.1 (TX4 11).2.2.1 ∈ tg := isA_of (i := 263) (by decide +kernel) rfl
set_option maxRecDepth 100000 in
theorem wf_4_47 : Cond.fieldLink RX4 47 RX4 (TX4 12).2.1 (TX4 12).2.2.1 ∈ tg := isA_of (i := 264) (by decide +kernel) rfl
set_option maxRecDepth 100000 in
theorem wf_4_50 : Cond.fieldLink RX4 50 RX4 (TX4 4).2.1 (TX4 4).2.2.1 ∈ tg := isA_of (i := 256) (by decide +kernel) rfl
set_option maxRecDepth 100000 in
theorem wm_8_3 : Cond.methodLink RX8 3 objectInit ∈ tg := isA_of (i := 298) (by decide +kernel) rfl
set_option maxRecDepth 100000 in
theorem wf_8_9 : Cond.fieldLink RX8 9 RX8 (TX8 0).2.1 (TX8 0).2.2.1 ∈ tg := isA_of (i := 300) (by decide +kernel) rfl
set_option maxRecDepth 100000 in
theorem wf_8_15 : Cond.fieldLink RX8 15 RX8 (TX8 1).2.1 (TX8 1).2.2.1 ∈ tg := isA_of (i := 302) (by decide +kernel) rfl
set_option maxRecDepth 100000 in
theorem wf_8_19 : Cond.fieldLink RX8 19 RX8 (TX8 2).2.1 (TX8 2).2.2.1 ∈ tg := isA_of (i := 304) (by decide +kernel) rfl
set_option maxRecDepth 100000 in
theorem wl_8_22 : Cond.classLink RX8 22 "[[I" ∈ tg := isA_of (i := 299) (by decide +kernel) rfl
set_option maxRecDepth 100000 in
theorem wf_8_24 : Cond.fieldLink RX8 24 RX8 (TX8 3).2.1 (TX8 3).2.2.1 ∈ tg := isA_of (i := 306) (by decide +kernel) rfl
set_option maxRecDepth 100000 in
theorem wf_8_27 : Cond.fieldLink RX8 27 RX8 (TX8 4).2.1 (TX8 4).2.2.1 ∈ tg := isA_of (i := 308) (by decide +kernel) rfl
set_option maxRecDepth 100000 in
theorem wf_8_31 : Cond.fieldLink RX8 31 RX8 (TX8 9).2.1 (TX8 9).2.2.1 ∈ tg := isA_of (i := 314) (by decide +kernel) rfl
set_option maxRecDepth 100000 in
theorem wf_8_34 : Cond.fieldLink RX8 34 RX8 (TX8 5).2.1 (TX8 5).2.2.1 ∈ tg := isA_of (i := 310) (by decide +kernel) rfl
set_option maxRecDepth 100000 in
theorem wf_8_38 : Cond.fieldLink RX8 38 RX8 (TX8 6).2.1 (TX8 6).2.2.1 ∈ tg := isA_of (i := 311) (by decide +kernel) rfl
set_option maxRecDepth 100000 in
theorem wf_8_42 : Cond.fieldLink RX8 42 RX8 (TX8 7).2.1 (TX8 7).2.2.1 ∈ tg := isA_of (i := 312) (by decide +kernel) rfl
set_option maxRecDepth 100000 in
theorem wf_8_46 : Cond.fieldLink RX8 46 RX8 (TX8 8).2.1 (TX8 8).2.2.1 ∈ tg := isA_of (i := 313) (by decide +kernel) rfl
set_option maxRecDepth 100000 in
theorem wm_0_3 : Cond.methodLink RX0 3 objectInit ∈ tg := isA_of (i := 341) (by decide +kernel) rfl
set_option maxRecDepth 100000 in
theorem wf_0_9 : Cond.fieldLink RX0 9 RX0 (TX0 0).2.1 (TX0 0).2.2.1 ∈ tg := isA_of (i := 343) (by decide +kernel) rfl
set_option maxRecDepth 100000 in
theorem wf_0_15 : Cond.fieldLink RX0 15 RX0 (TX0 1).2.1 (TX0 1).2.2.1 ∈ tg := isA_of (i := 346) (by decide +kernel) rfl
set_option maxRecDepth 100000 in
theorem wf_0_19 : Cond.fieldLink RX0 19 RX0 (TX0 2).2.1 (TX0 2).2.2.1 ∈ tg := isA_of (i := 348) (by decide +kernel) rfl
set_option maxRecDepth 100000 in
theorem wf_0_22 : Cond.fieldLink RX0 22 RX0 (TX0 3).2.1 (TX0 3).2.2.1 ∈ tg := isA_of (i := 349) (by decide +kernel) rfl
set_option maxRecDepth 100000 in
theorem wf_0_25 : Cond.fieldLink RX0 25 RX0 (TX0 4).2.1 (TX0 4).2.2.1 ∈ tg := isA_of (i := 352) (by decide +kernel) rfl
set_option maxRecDepth 100000 in
theorem wf_0_28 : Cond.fieldLink RX0 28 RX0 (TX0 5).2.1 (TX0 5).2.2.1 ∈ tg := isA_of (i := 354) (by decide +kernel) rfl
set_option maxRecDepth 100000 in
theorem wf_0_31 : Cond.fieldLink RX0 31 RX0 (TX0 6).2.1 (TX0 6).2.2.1 ∈ tg := isA_of (i := 356) (by decide +kernel) rfl
set_option maxRecDepth 100000 in
theorem wl_0_34 : Cond.classLink RX0 34 "[[I" ∈ tg := isA_of (i := 342) (by decide +kernel) rfl
set_option maxRecDepth 100000 in
theorem wf_0_36 : Cond.fieldLink RX0 36 RX0 (TX0 7).2.1 (TX0 7).2.2.1 ∈ tg := isA_of (i := 358) (by decide +kernel) rfl
set_option maxRecDepth 100000 in
theorem wm_6_3 : Cond.methodLink RX6 3 objectInit ∈ tg := isA_of (i := 383) (by decide +kernel) rfl
set_option maxRecDepth 100000 in
theorem wf_6_9 : Cond.fieldLink RX6 9 RX6 (TX6 0).2.1 (TX6 0).2.2.1 ∈ tg := isA_of (i := 385) (by decide +kernel) rfl
set_option maxRecDepth 100000 in
theorem wf_6_15 : Cond.fieldLink RX6 15 RX6 (TX6 1).2.1 (TX6 1).2.2.1 ∈ tg := isA_of (i := 387) (by decide +kernel) rfl
set_option maxRecDepth 100000 in
theorem wf_6_18 : Cond.fieldLink RX6 18 RX6 (TX6 2).2.1 (TX6 2).2.2.1 ∈ tg := isA_of (i := 389) (by decide +kernel) rfl
set_option maxRecDepth 100000 in
theorem wf_6_22 : Cond.fieldLink RX6 22 RX6 (TX6 3).2.1 (TX6 3).2.2.1 ∈ tg := isA_of (i := 391) (by decide +kernel) rfl
set_option maxRecDepth 100000 in
theorem wf_6_25 : Cond.fieldLink RX6 25 RX6 (TX6 5).2.1 (TX6 5).2.2.1 ∈ tg := isA_of (i := 394) (by decide +kernel) rfl
set_option maxRecDepth 100000 in
theorem wl_6_28 : Cond.classLink RX6 28 "[[I" ∈ tg := isA_of (i := 384) (by decide +kernel) rfl
set_option maxRecDepth 100000 in
theorem wf_6_30 : Cond.fieldLink RX6 30 RX6 (TX6 6).2.1 (TX6 6).2.2.1 ∈ tg := isA_of (i := 395) (by decide +kernel) rfl
set_option maxRecDepth 100000 in
theorem wf_6_33 : Cond.fieldLink RX6 33 RX6 (TX6 7).2.1 (TX6 7).2.2.1 ∈ tg := isA_of (i := 396) (by decide +kernel) rfl
set_option maxRecDepth 100000 in
theorem wf_6_36 : Cond.fieldLink RX6 36 RX6 (TX6 8).2.1 (TX6 8).2.2.1 ∈ tg := isA_of (i := 397) (by decide +kernel) rfl
set_option maxRecDepth 100000 in
theorem wf_6_39 : Cond.fieldLink RX6 39 RX6 (TX6 4).2.1 (TX6 4).2.2.1 ∈ tg := isA_of (i := 393) (by decide +kernel) rfl
set_option maxRecDepth 100000 in
theorem wm_1_3 : Cond.methodLink RX1 3 objectInit ∈ tg := isA_of (i := 422) (by decide +kernel) rfl
set_option maxRecDepth 100000 in
theorem wf_1_9 : Cond.fieldLink RX1 9 RX1 (TX1 0).2.1 (TX1 0).2.2.1 ∈ tg := isA_of (i := 423) (by decide +kernel) rfl
set_option maxRecDepth 100000 in
theorem wf_1_15 : Cond.fieldLink RX1 15 RX1 (TX1 1).2.1 (TX1 1).2.2.1 ∈ tg := isA_of (i := 425) (by decide +kernel) rfl
set_option maxRecDepth 100000 in
theorem wf_1_19 : Cond.fieldLink RX1 19 RX1 (TX1 2).2.1 (TX1 2).2.2.1 ∈ tg := isA_of (i := 427) (by decide +kernel) rfl
set_option maxRecDepth 100000 in
theorem wf_1_22 : Cond.fieldLink RX1 22 RX1 (TX1 3).2.1 (TX1 3).2.2.1 ∈ tg := isA_of (i := 428) (by decide +kernel) rfl
set_option maxRecDepth 100000 in
theorem wf_1_25 : Cond.fieldLink RX1 25 RX1 (TX1 4).2.1 (TX1 4).2.2.1 ∈ tg := isA_of (i := 429) (by decide +kernel) rfl
set_option maxRecDepth 100000 in
theorem wf_1_28 : Cond.fieldLink RX1 28 RX1 (TX1 5).2.1 (TX1 5).2.2.1 ∈ tg := isA_of (i := 430) (by decide +kernel) rfl
set_option maxRecDepth 100000 in
theorem wf_1_31 : Cond.fieldLink RX1 31 RX1 (TX1 6).2.1 (TX1 6).2.2.1 ∈ tg := isA_of (i := 431) (by decide +kernel) rfl
set_option maxRecDepth 100000 in
theorem wm_2_3 : Cond.methodLink RX2 3 objectInit ∈ tg := isA_of (i := 452) (by decide +kernel) rfl
set_option maxRecDepth 100000 in
theorem wf_2_9 : Cond.fieldLink RX2 9 RX2 (TX2 0).2.1 (TX2 0).2.2.1 ∈ tg := isA_of (i := 453) (by decide +kernel) rfl
set_option maxRecDepth 100000 in
theorem wf_2_15 : Cond.fieldLink RX2 15 RX2 (TX2 1).2.1 (TX2 1).2.2.1 ∈ tg := isA_of (i := 455) (by decide +kernel) rfl
set_option maxRecDepth 100000 in
theorem wf_2_18 : Cond.fieldLink RX2 18 RX2 (TX2 2).2.1 (TX2 2).2.2.1 ∈ tg := isA_of (i := 457) (by decide +kernel) rfl
set_option maxRecDepth 100000 in
theorem wf_2_22 : Cond.fieldLink RX2 22 RX2 (TX2 3).2.1 (TX2 3).2.2.1 ∈ tg := isA_of (i := 458) (by decide +kernel) rfl
set_option maxRecDepth 100000 in
theorem wf_2_25 : Cond.fieldLink RX2 25 RX2 (TX2 4).2.1 (TX2 4).2.2.1 ∈ tg := isA_of (i := 459) (by decide +kernel) rfl
set_option maxRecDepth 100000 in
theorem wm_7_3 : Cond.methodLink RX7 3 objectInit ∈ tg := isA_of (i := 476) (by decide +kernel) rfl
set_option maxRecDepth 100000 in
theorem wf_7_9 : Cond.fieldLink RX7 9 RX7 (TX7 0).2.1 (TX7 0).2.2.1 ∈ tg := isA_of (i := 482) (by decide +kernel) rfl
set_option maxRecDepth 100000 in
theorem wl_7_15 : Cond.classLink RX7 15 "[[S" ∈ tg := isA_of (i := 477) (by decide +kernel) rfl
set_option maxRecDepth 100000 in
theorem wf_7_17 : Cond.fieldLink RX7 17 RX7 (TX7 1).2.1 (TX7 1).2.2.1 ∈ tg := isA_of (i := 484) (by decide +kernel) rfl
set_option maxRecDepth 100000 in
theorem wm_7_20 : Cond.methodLink RX7 20 yJ7_fill_53178 ∈ tg := isA_of (i := 479) (by decide +kernel) rfl
set_option maxRecDepth 100000 in
theorem wc_yJ7_fill_53178 : Cond.code yJ7_fill_53178 cJ7_fill_53178 4 none ∈ tg := tg_of 481 rfl rfl
set_option maxRecDepth 100000 in
theorem wn_RJ7 : Cond.initialized RJ7 ∈ tg := isA_of (i := 88) (by decide +kernel) rfl
set_option maxRecDepth 100000 in
theorem ws_yJ7_fill_53178 : Cond.static yJ7_fill_53178 ∈ tg := isA_of (i := 480) (by decide +kernel) rfl
set_option maxRecDepth 100000 in
theorem wm_11_1 : Cond.methodLink RX11 1 objectInit ∈ tg := isA_of (i := 102) (by decide +kernel) rfl
set_option maxRecDepth 100000 in
theorem wl_11_7 : Cond.classLink RX11 7 RX9 ∈ tg := isA_of (i := 105) (by decide +kernel) rfl
set_option maxRecDepth 100000 in
theorem wt_RX9 : Cond.instantiable RX9 4 ∈ tg := isA_of (i := 106) (by decide +kernel) rfl
set_option maxRecDepth 100000 in
theorem wn_RX9 : Cond.initialized RX9 ∈ tg := isA_of (i := 77) (by decide +kernel) rfl
set_option maxRecDepth 100000 in
theorem wm_11_9 : Cond.methodLink RX11 9 yX9_init ∈ tg := isA_of (i := 107) (by decide +kernel) rfl
set_option maxRecDepth 100000 in
theorem wc_yX9_init : Cond.code yX9_init cX9_init 1 none ∈ tg := tg_of 109 rfl rfl
set_option maxRecDepth 100000 in
theorem wi_yX9_init : Cond.instanceMethod yX9_init ∈ tg := isA_of (i := 108) (by decide +kernel) rfl
set_option maxRecDepth 100000 in
theorem wf_11_10 : Cond.fieldLink RX11 10 RX11 (TX11 0).2.1 (TX11 0).2.2.1 ∈ tg := isA_of (i := 492) (by decide +kernel) rfl
set_option maxRecDepth 100000 in
theorem wl_11_16 : Cond.classLink RX11 16 RX10 ∈ tg := isA_of (i := 129) (by decide +kernel) rfl
set_option maxRecDepth 100000 in
theorem wt_RX10 : Cond.instantiable RX10 7 ∈ tg := isA_of (i := 130) (by decide +kernel) rfl
set_option maxRecDepth 100000 in
theorem wn_RX10 : Cond.initialized RX10 ∈ tg := isA_of (i := 78) (by decide +kernel) rfl
set_option maxRecDepth 100000 in
theorem wm_11_18 : Cond.methodLink RX11 18 yX10_init ∈ tg := isA_of (i := 131) (by decide +kernel) rfl
set_option maxRecDepth 100000 in
theorem wc_yX10_init : Cond.code yX10_init cX10_init 1 none ∈ tg := tg_of 133 rfl rfl
set_option maxRecDepth 100000 in
theorem wi_yX10_init : Cond.instanceMethod yX10_init ∈ tg := isA_of (i := 132) (by decide +kernel) rfl
set_option maxRecDepth 100000 in
theorem wf_11_19 : Cond.fieldLink RX11 19 RX11 (TX11 1).2.1 (TX11 1).2.2.1 ∈ tg := isA_of (i := 493) (by decide +kernel) rfl
set_option maxRecDepth 100000 in
theorem wl_11_23 : Cond.classLink RX11 23 RX5 ∈ tg := isA_of (i := 166) (by decide +kernel) rfl
set_option maxRecDepth 100000 in
theorem wt_RX5 : Cond.instantiable RX5 10 ∈ tg := isA_of (i := 167) (by decide +kernel) rfl
set_option maxRecDepth 100000 in
theorem wn_RX5 : Cond.initialized RX5 ∈ tg := isA_of (i := 79) (by decide +kernel) rfl
set_option maxRecDepth 100000 in
theorem wm_11_25 : Cond.methodLink RX11 25 yX5_init ∈ tg := isA_of (i := 168) (by decide +kernel) rfl
set_option maxRecDepth 100000 in
theorem wc_yX5_init : Cond.code yX5_init cX5_init 1 none ∈ tg := tg_of 170 rfl rfl
set_option maxRecDepth 100000 in
theorem wi_yX5_init : Cond.instanceMethod yX5_init ∈ tg := isA_of (i := 169) (by decide +kernel) rfl
set_option maxRecDepth 100000 in
theorem wf_11_26 : Cond.fieldLink RX11 26 RX11 (TX11 2).2.1 (TX11 2).2.2.1 ∈ tg := isA_of (i := 494) (by decide +kernel) rfl
set_option maxRecDepth 100000 in
theorem wl_11_30 : Cond.classLink RX11 30 RX3 ∈ tg := isA_of (i := 219) (by decide +kernel) rfl
set_option maxRecDepth 100000 in
theorem wt_RX3 : Cond.instantiable RX3 4 ∈ tg := isA_of (i := 220) (by decide +kernel) rfl
set_option maxRecDepth 100000 in
theorem wn_RX3 : Cond.initialized RX3 ∈ tg := isA_of (i := 80) (by decide +kernel) rfl
set_option maxRecDepth 100000 in
theorem wm_11_32 : Cond.methodLink RX11 32 yX3_init ∈ tg := isA_of (i := 221) (by decide +kernel) rfl
set_option maxRecDepth 100000 in
theorem wc_yX3_init : Cond.code yX3_init cX3_init 1 none ∈ tg := tg_of 223 rfl rfl
set_option maxRecDepth 100000 in
theorem wi_yX3_init : Cond.instanceMethod yX3_init ∈ tg := isA_of (i := 222) (by decide +kernel) rfl
set_option maxRecDepth 100000 in
theorem wf_11_33 : Cond.fieldLink RX11 33 RX11 (TX11 3).2.1 (TX11 3).2.2.1 ∈ tg := isA_of (i := 495) (by decide +kernel) rfl
set_option maxRecDepth 100000 in
theorem wa_2 : Cond.arrayClass (tyF 2) ∈ tg := isA_of (i := 292) (by decide +kernel) rfl
set_option maxRecDepth 100000 in
theorem wf_11_37 : Cond.fieldLink RX11 37 RX11 (TX11 4).2.1 (TX11 4).2.2.1 ∈ tg := isA_of (i := 496) (by decide +kernel) rfl
set_option maxRecDepth 100000 in
theorem wf_11_41 : Cond.fieldLink RX11 41 RX11 (TX11 5).2.1 (TX11 5).2.2.1 ∈ tg := isA_of (i := 497) (by decide +kernel) rfl
set_option maxRecDepth 100000 in
theorem wl_11_45 : Cond.classLink RX11 45 RX4 ∈ tg := isA_of (i := 242) (by decide +kernel) rfl
set_option maxRecDepth 100000 in
theorem wt_RX4 : Cond.instantiable RX4 13 ∈ tg := isA_of (i := 243) (by decide +kernel) rfl
set_option maxRecDepth 100000 in
theorem wn_RX4 : Cond.initialized RX4 ∈ tg := isA_of (i := 81) (by decide +kernel) rfl
set_option maxRecDepth 100000 in
theorem wm_11_47 : Cond.methodLink RX11 47 yX4_init ∈ tg := isA_of (i := 244) (by decide +kernel) rfl
set_option maxRecDepth 100000 in
theorem wc_yX4_init : Cond.code yX4_init cX4_init 2 none ∈ tg := tg_of 246 rfl rfl
set_option maxRecDepth 100000 in
theorem wi_yX4_init : Cond.instanceMethod yX4_init ∈ tg := isA_of (i := 245) (by decide +kernel) rfl
set_option maxRecDepth 100000 in
theorem wf_11_50 : Cond.fieldLink RX11 50 RX11 (TX11 6).2.1 (TX11 6).2.2.1 ∈ tg := isA_of (i := 498) (by decide +kernel) rfl
set_option maxRecDepth 100000 in
theorem wl_11_54 : Cond.classLink RX11 54 RX8 ∈ tg := isA_of (i := 293) (by decide +kernel) rfl
set_option maxRecDepth 100000 in
theorem wt_RX8 : Cond.instantiable RX8 10 ∈ tg := isA_of (i := 294) (by decide +kernel) rfl
set_option maxRecDepth 100000 in
theorem wn_RX8 : Cond.initialized RX8 ∈ tg := isA_of (i := 82) (by decide +kernel) rfl
set_option maxRecDepth 100000 in
theorem wm_11_56 : Cond.methodLink RX11 56 yX8_init ∈ tg := isA_of (i := 295) (by decide +kernel) rfl
set_option maxRecDepth 100000 in
theorem wc_yX8_init : Cond.code yX8_init cX8_init 5 none ∈ tg := tg_of 297 rfl rfl
set_option maxRecDepth 100000 in
theorem wi_yX8_init : Cond.instanceMethod yX8_init ∈ tg := isA_of (i := 296) (by decide +kernel) rfl
set_option maxRecDepth 100000 in
theorem wf_11_59 : Cond.fieldLink RX11 59 RX11 (TX11 7).2.1 (TX11 7).2.2.1 ∈ tg := isA_of (i := 499) (by decide +kernel) rfl
set_option maxRecDepth 100000 in
theorem wl_11_63 : Cond.classLink RX11 63 RX0 ∈ tg := isA_of (i := 336) (by decide +kernel) rfl
set_option maxRecDepth 100000 in
theorem wt_RX0 : Cond.instantiable RX0 8 ∈ tg := isA_of (i := 337) (by decide +kernel) rfl
set_option maxRecDepth 100000 in
theorem wn_RX0 : Cond.initialized RX0 ∈ tg := isA_of (i := 83) (by decide +kernel) rfl
set_option maxRecDepth 100000 in
theorem wm_11_65 : Cond.methodLink RX11 65 yX0_init ∈ tg := isA_of (i := 338) (by decide +kernel) rfl
set_option maxRecDepth 100000 in
theorem wc_yX0_init : Cond.code yX0_init cX0_init 1 none ∈ tg := tg_of 340 rfl rfl
set_option maxRecDepth 100000 in
theorem wi_yX0_init : Cond.instanceMethod yX0_init ∈ tg := isA_of (i := 339) (by decide +kernel) rfl
set_option maxRecDepth 100000 in
theorem wf_11_66 : Cond.fieldLink RX11 66 RX11 (TX11 8).2.1 (TX11 8).2.2.1 ∈ tg := isA_of (i := 500) (by decide +kernel) rfl
set_option maxRecDepth 100000 in
theorem wl_11_70 : Cond.classLink RX11 70 RX6 ∈ tg := isA_of (i := 378) (by decide +kernel) rfl
set_option maxRecDepth 100000 in
theorem wt_RX6 : Cond.instantiable RX6 9 ∈ tg := isA_of (i := 379) (by decide +kernel) rfl
set_option maxRecDepth 100000 in
theorem wn_RX6 : Cond.initialized RX6 ∈ tg := isA_of (i := 84) (by decide +kernel) rfl
set_option maxRecDepth 100000 in
theorem wm_11_72 : Cond.methodLink RX11 72 yX6_init ∈ tg := isA_of (i := 380) (by decide +kernel) rfl
set_option maxRecDepth 100000 in
theorem wc_yX6_init : Cond.code yX6_init cX6_init 2 none ∈ tg := tg_of 382 rfl rfl
set_option maxRecDepth 100000 in
theorem wi_yX6_init : Cond.instanceMethod yX6_init ∈ tg := isA_of (i := 381) (by decide +kernel) rfl
set_option maxRecDepth 100000 in
theorem wf_11_75 : Cond.fieldLink RX11 75 RX11 (TX11 9).2.1 (TX11 9).2.2.1 ∈ tg := isA_of (i := 501) (by decide +kernel) rfl
set_option maxRecDepth 100000 in
theorem wl_11_79 : Cond.classLink RX11 79 RX1 ∈ tg := isA_of (i := 417) (by decide +kernel) rfl
set_option maxRecDepth 100000 in
theorem wt_RX1 : Cond.instantiable RX1 7 ∈ tg := isA_of (i := 418) (by decide +kernel) rfl
set_option maxRecDepth 100000 in
theorem wn_RX1 : Cond.initialized RX1 ∈ tg := isA_of (i := 85) (by decide +kernel) rfl
set_option maxRecDepth 100000 in
theorem wm_11_81 : Cond.methodLink RX11 81 yX1_init ∈ tg := isA_of (i := 419) (by decide +kernel) rfl
set_option maxRecDepth 100000 in
theorem wc_yX1_init : Cond.code yX1_init cX1_init 1 none ∈ tg := tg_of 421 rfl rfl
set_option maxRecDepth 100000 in
theorem wi_yX1_init : Cond.instanceMethod yX1_init ∈ tg := isA_of (i := 420) (by decide +kernel) rfl
set_option maxRecDepth 100000 in
theorem wf_11_82 : Cond.fieldLink RX11 82 RX11 (TX11 10).2.1 (TX11 10).2.2.1 ∈ tg := isA_of (i := 502) (by decide +kernel) rfl
set_option maxRecDepth 100000 in
theorem wl_11_86 : Cond.classLink RX11 86 RX2 ∈ tg := isA_of (i := 447) (by decide +kernel) rfl
set_option maxRecDepth 100000 in
theorem wt_RX2 : Cond.instantiable RX2 5 ∈ tg := isA_of (i := 448) (by decide +kernel) rfl
set_option maxRecDepth 100000 in
theorem wn_RX2 : Cond.initialized RX2 ∈ tg := isA_of (i := 86) (by decide +kernel) rfl
set_option maxRecDepth 100000 in
theorem wm_11_88 : Cond.methodLink RX11 88 yX2_init ∈ tg := isA_of (i := 449) (by decide +kernel) rfl
set_option maxRecDepth 100000 in
theorem wc_yX2_init : Cond.code yX2_init cX2_init 1 none ∈ tg := tg_of 451 rfl rfl
set_option maxRecDepth 100000 in
theorem wi_yX2_init : Cond.instanceMethod yX2_init ∈ tg := isA_of (i := 450) (by decide +kernel) rfl
set_option maxRecDepth 100000 in
theorem wf_11_89 : Cond.fieldLink RX11 89 RX11 (TX11 11).2.1 (TX11 11).2.2.1 ∈ tg := isA_of (i := 503) (by decide +kernel) rfl
set_option maxRecDepth 100000 in
theorem wl_11_93 : Cond.classLink RX11 93 RX7 ∈ tg := isA_of (i := 471) (by decide +kernel) rfl
set_option maxRecDepth 100000 in
theorem wt_RX7 : Cond.instantiable RX7 2 ∈ tg := isA_of (i := 472) (by decide +kernel) rfl
set_option maxRecDepth 100000 in
theorem wn_RX7 : Cond.initialized RX7 ∈ tg := isA_of (i := 87) (by decide +kernel) rfl
set_option maxRecDepth 100000 in
theorem wm_11_95 : Cond.methodLink RX11 95 yX7_init ∈ tg := isA_of (i := 473) (by decide +kernel) rfl
set_option maxRecDepth 100000 in
theorem wc_yX7_init : Cond.code yX7_init cX7_init 1 none ∈ tg := tg_of 475 rfl rfl
set_option maxRecDepth 100000 in
theorem wi_yX7_init : Cond.instanceMethod yX7_init ∈ tg := isA_of (i := 474) (by decide +kernel) rfl
set_option maxRecDepth 100000 in
theorem wf_11_96 : Cond.fieldLink RX11 96 RX11 (TX11 12).2.1 (TX11 12).2.2.1 ∈ tg := isA_of (i := 504) (by decide +kernel) rfl
set_option maxRecDepth 100000 in
theorem wf_11_100 : Cond.fieldLink RX11 100 RX11 (TX11 13).2.1 (TX11 13).2.2.1 ∈ tg := isA_of (i := 505) (by decide +kernel) rfl
set_option maxRecDepth 100000 in
theorem wf_11_104 : Cond.fieldLink RX11 104 RX11 (TX11 14).2.1 (TX11 14).2.2.1 ∈ tg := isA_of (i := 506) (by decide +kernel) rfl
set_option maxRecDepth 100000 in
theorem wm_12_1 : Cond.methodLink RX12 1 objectInit ∈ tg := isA_of (i := 1180) (by decide +kernel) rfl
set_option maxRecDepth 100000 in
theorem wf_12_7 : Cond.fieldLink RX12 7 RX12 (TX12 3).2.1 (TX12 3).2.2.1 ∈ tg := isA_of (i := 1184) (by decide +kernel) rfl
set_option maxRecDepth 100000 in
theorem wf_12_13 : Cond.fieldLink RX12 13 RX12 (TX12 5).2.1 (TX12 5).2.2.1 ∈ tg := isA_of (i := 1186) (by decide +kernel) rfl
set_option maxRecDepth 100000 in
theorem wf_12_16 : Cond.fieldLink RX12 16 RX12 (TX12 6).2.1 (TX12 6).2.2.1 ∈ tg := isA_of (i := 1187) (by decide +kernel) rfl
set_option maxRecDepth 100000 in
theorem wf_12_19 : Cond.fieldLink RX12 19 RX12 (TX12 7).2.1 (TX12 7).2.2.1 ∈ tg := isA_of (i := 1188) (by decide +kernel) rfl
set_option maxRecDepth 100000 in
theorem wf_12_22 : Cond.fieldLink RX12 22 RX12 (TX12 8).2.1 (TX12 8).2.2.1 ∈ tg := isA_of (i := 1189) (by decide +kernel) rfl
set_option maxRecDepth 100000 in
theorem wf_12_25 : Cond.fieldLink RX12 25 RX12 (TX12 9).2.1 (TX12 9).2.2.1 ∈ tg := isA_of (i := 1190) (by decide +kernel) rfl
set_option maxRecDepth 100000 in
theorem wf_12_28 : Cond.fieldLink RX12 28 RX12 (TX12 10).2.1 (TX12 10).2.2.1 ∈ tg := isA_of (i := 1191) (by decide +kernel) rfl
set_option maxRecDepth 100000 in
theorem wf_12_31 : Cond.fieldLink RX12 31 RX12 (TX12 12).2.1 (TX12 12).2.2.1 ∈ tg := isA_of (i := 1193) (by decide +kernel) rfl
set_option maxRecDepth 100000 in
theorem wf_12_34 : Cond.fieldLink RX12 34 RX12 (TX12 13).2.1 (TX12 13).2.2.1 ∈ tg := isA_of (i := 1194) (by decide +kernel) rfl
set_option maxRecDepth 100000 in
theorem wf_12_37 : Cond.fieldLink RX12 37 RX12 (TX12 14).2.1 (TX12 14).2.2.1 ∈ tg := isA_of (i := 1195) (by decide +kernel) rfl
set_option maxRecDepth 100000 in
theorem wf_12_40 : Cond.fieldLink RX12 40 RX12 (TX12 15).2.1 (TX12 15).2.2.1 ∈ tg := isA_of (i := 1196) (by decide +kernel) rfl
set_option maxRecDepth 100000 in
theorem wf_12_43 : Cond.fieldLink RX12 43 RX12 (TX12 16).2.1 (TX12 16).2.2.1 ∈ tg := isA_of (i := 1197) (by decide +kernel) rfl
set_option maxRecDepth 100000 in
theorem wf_12_46 : Cond.fieldLink RX12 46 RX12 (TX12 17).2.1 (TX12 17).2.2.1 ∈ tg := isA_of (i := 1198) (by decide +kernel) rfl
set_option maxRecDepth 100000 in
theorem wf_12_49 : Cond.fieldLink RX12 49 RX12 (TX12 18).2.1 (TX12 18).2.2.1 ∈ tg := isA_of (i := 1199) (by decide +kernel) rfl
set_option maxRecDepth 100000 in
theorem wf_12_52 : Cond.fieldLink RX12 52 RX12 (TX12 19).2.1 (TX12 19).2.2.1 ∈ tg := isA_of (i := 1200) (by decide +kernel) rfl
set_option maxRecDepth 100000 in
theorem wf_12_55 : Cond.fieldLink RX12 55 RX12 (TX12 20).2.1 (TX12 20).2.2.1 ∈ tg := isA_of (i := 1201) (by decide +kernel) rfl
set_option maxRecDepth 100000 in
theorem wf_12_58 : Cond.fieldLink RX12 58 RX12 (TX12 21).2.1 (TX12 21).2.2.1 ∈ tg := isA_of (i := 1202) (by decide +kernel) rfl
set_option maxRecDepth 100000 in
theorem wf_12_61 : Cond.fieldLink RX12 61 RX12 (TX12 22).2.1 (TX12 22).2.2.1 ∈ tg := isA_of (i := 1203) (by decide +kernel) rfl
set_option maxRecDepth 100000 in
theorem wf_12_65 : Cond.fieldLink RX12 65 RX12 (TX12 23).2.1 (TX12 23).2.2.1 ∈ tg := isA_of (i := 1204) (by decide +kernel) rfl
set_option maxRecDepth 100000 in
theorem wf_12_68 : Cond.fieldLink RX12 68 RX12 (TX12 24).2.1 (TX12 24).2.2.1 ∈ tg := isA_of (i := 1205) (by decide +kernel) rfl
set_option maxRecDepth 100000 in
theorem wf_12_71 : Cond.fieldLink RX12 71 RX12 (TX12 25).2.1 (TX12 25).2.2.1 ∈ tg := isA_of (i := 1206) (by decide +kernel) rfl
set_option maxRecDepth 100000 in
theorem wf_12_74 : Cond.fieldLink RX12 74 RX12 (TX12 27).2.1 (TX12 27).2.2.1 ∈ tg := isA_of (i := 1208) (by decide +kernel) rfl
set_option maxRecDepth 100000 in
theorem wf_12_77 : Cond.fieldLink RX12 77 RX12 (TX12 28).2.1 (TX12 28).2.2.1 ∈ tg := isA_of (i := 1209) (by decide +kernel) rfl
set_option maxRecDepth 100000 in
theorem wf_12_80 : Cond.fieldLink RX12 80 RX12 (TX12 29).2.1 (TX12 29).2.2.1 ∈ tg := isA_of (i := 1210) (by decide +kernel) rfl
set_option maxRecDepth 100000 in
theorem wf_12_83 : Cond.fieldLink RX12 83 RX12 (TX12 30).2.1 (TX12 30).2.2.1 ∈ tg := isA_of (i := 1211) (by decide +kernel) rfl
set_option maxRecDepth 100000 in
theorem wf_12_86 : Cond.fieldLink RX12 86 RX12 (TX12 31).2.1 (TX12 31).2.2.1 ∈ tg := isA_of (i := 1212) (by decide +kernel) rfl
set_option maxRecDepth 100000 in
theorem wf_12_89 : Cond.fieldLink RX12 89 RX12 (TX12 32).2.1 (TX12 32).2.2.1 ∈ tg := isA_of (i := 1213) (by decide +kernel) rfl
set_option maxRecDepth 100000 in
theorem wf_12_92 : Cond.fieldLink RX12 92 RX12 (TX12 33).2.1 (TX12 33).2.2.1 ∈ tg := isA_of (i := 1214) (by decide +kernel) rfl
set_option maxRecDepth 100000 in
theorem wf_12_95 : Cond.fieldLink RX12 95 RX12 (TX12 34).2.1 (TX12 34).2.2.1 ∈ tg := isA_of (i := 1215) (by decide +kernel) rfl
set_option maxRecDepth 100000 in
theorem wf_12_98 : Cond.fieldLink RX12 98 RX12 (TX12 35).2.1 (TX12 35).2.2.1 ∈ tg := isA_of (i := 1216) (by decide +kernel) rfl
set_option maxRecDepth 100000 in
theorem wf_12_101 : Cond.fieldLink RX12 101 RX12 (TX12 47).2.1 (TX12 47).2.2.1 ∈ tg := isA_of (i := 1228) (by decide +kernel) rfl
set_option maxRecDepth 100000 in
theorem wf_12_104 : Cond.fieldLink RX12 104 RX12 (TX12 49).2.1 (TX12 49).2.2.1 ∈ tg := isA_of (i := 1230) (by decide +kernel) rfl
set_option maxRecDepth 100000 in
theorem wf_12_107 : Cond.fieldLink RX12 107 RX12 (TX12 50).2.1 (TX12 50).2.2.1 ∈ tg := isA_of (i := 1231) (by decide +kernel) rfl
set_option maxRecDepth 100000 in
theorem wf_12_110 : Cond.fieldLink RX12 110 RX12 (TX12 52).2.1 (TX12 52).2.2.1 ∈ tg := isA_of (i := 1233) (by decide +kernel) rfl
set_option maxRecDepth 100000 in
theorem wf_12_113 : Cond.fieldLink RX12 113 RX12 (TX12 53).2.1 (TX12 53).2.2.1 ∈ tg := isA_of (i := 1234) (by decide +kernel) rfl
set_option maxRecDepth 100000 in
theorem wf_12_116 : Cond.fieldLink RX12 116 RX12 (TX12 54).2.1 (TX12 54).2.2.1 ∈ tg := isA_of (i := 1235) (by decide +kernel) rfl
set_option maxRecDepth 100000 in
theorem wf_12_119 : Cond.fieldLink RX12 119 RX12 (TX12 55).2.1 (TX12 55).2.2.1 ∈ tg := isA_of (i := 1236) (by decide +kernel) rfl
set_option maxRecDepth 100000 in
theorem wf_12_122 : Cond.fieldLink RX12 122 RX12 (TX12 56).2.1 (TX12 56).2.2.1 ∈ tg := isA_of (i := 1237) (by decide +kernel) rfl
set_option maxRecDepth 100000 in
theorem wf_12_125 : Cond.fieldLink RX12 125 RX12 (TX12 58).2.1 (TX12 58).2.2.1 ∈ tg := isA_of (i := 1239) (by decide +kernel) rfl
set_option maxRecDepth 100000 in
theorem wf_12_128 : Cond.fieldLink RX12 128 RX12 (TX12 59).2.1 (TX12 59).2.2.1 ∈ tg := isA_of (i := 1240) (by decide +kernel) rfl
set_option maxRecDepth 100000 in
theorem wf_12_131 : Cond.fieldLink RX12 131 RX12 (TX12 62).2.1 (TX12 62).2.2.1 ∈ tg := isA_of (i := 1243) (by decide +kernel) rfl
set_option maxRecDepth 100000 in
theorem wf_12_134 : Cond.fieldLink RX12 134 RX12 (TX12 63).2.1 (TX12 63).2.2.1 ∈ tg := isA_of (i := 1244) (by decide +kernel) rfl
set_option maxRecDepth 100000 in
theorem wf_12_137 : Cond.fieldLink RX12 137 RX12 (TX12 66).2.1 (TX12 66).2.2.1 ∈ tg := isA_of (i := 1247) (by decide +kernel) rfl
set_option maxRecDepth 100000 in
theorem wf_12_140 : Cond.fieldLink RX12 140 RX12 (TX12 67).2.1 (TX12 67).2.2.1 ∈ tg := isA_of (i := 1248) (by decide +kernel) rfl
set_option maxRecDepth 100000 in
theorem wf_12_143 : Cond.fieldLink RX12 143 RX12 (TX12 68).2.1 (TX12 68).2.2.1 ∈ tg := isA_of (i := 1249) (by decide +kernel) rfl
set_option maxRecDepth 100000 in
theorem wf_12_146 : Cond.fieldLink RX12 146 RX12 (TX12 69).2.1 (TX12 69).2.2.1 ∈ tg := isA_of (i := 1250) (by decide +kernel) rfl
set_option maxRecDepth 100000 in
theorem wf_12_149 : Cond.fieldLink RX12 149 RX12 (TX12 70).2.1 (TX12 70).2.2.1 ∈ tg := isA_of (i := 1251) (by decide +kernel) rfl
set_option maxRecDepth 100000 in
theorem wf_12_152 : Cond.fieldLink RX12 152 RX12 (TX12 72).2.1 (TX12 72).2.2.1 ∈ tg := isA_of (i := 1253) (by decide +kernel) rfl
set_option maxRecDepth 100000 in
theorem wf_12_156 : Cond.fieldLink RX12 156 RX12 (TX12 73).2.1 (TX12 73).2.2.1 ∈ tg := isA_of (i := 1254) (by decide +kernel) rfl
set_option maxRecDepth 100000 in
theorem wf_12_159 : Cond.fieldLink RX12 159 RX12 (TX12 74).2.1 (TX12 74).2.2.1 ∈ tg := isA_of (i := 1255) (by decide +kernel) rfl
set_option maxRecDepth 100000 in
theorem wf_12_162 : Cond.fieldLink RX12 162 RX12 (TX12 75).2.1 (TX12 75).2.2.1 ∈ tg := isA_of (i := 1256) (by decide +kernel) rfl
set_option maxRecDepth 100000 in
theorem wf_12_165 : Cond.fieldLink RX12 165 RX12 (TX12 76).2.1 (TX12 76).2.2.1 ∈ tg := isA_of (i := 1257) (by decide +kernel) rfl
set_option maxRecDepth 100000 in
theorem wl_13_7 : Cond.classLink RL 7 RX11 ∈ tg := isA_of (i := 97) (by decide +kernel) rfl
set_option maxRecDepth 100000 in
theorem wl_13_10 : Cond.classLink RL 10 RX12 ∈ tg := isA_of (i := 1175) (by decide +kernel) rfl
set_option maxRecDepth 100000 in
theorem wt_RX11 : Cond.instantiable RX11 15 ∈ tg := isA_of (i := 98) (by decide +kernel) rfl
set_option maxRecDepth 100000 in
theorem wt_RX12 : Cond.instantiable RX12 77 ∈ tg := isA_of (i := 1176) (by decide +kernel) rfl
set_option maxRecDepth 100000 in
theorem wn_RX11 : Cond.initialized RX11 ∈ tg := isA_of (i := 76) (by decide +kernel) rfl
set_option maxRecDepth 100000 in
theorem wn_RX12 : Cond.initialized RX12 ∈ tg := isA_of (i := 89) (by decide +kernel) rfl
set_option maxRecDepth 100000 in
theorem wm_13_9 : Cond.methodLink RL 9 yX11_init ∈ tg := isA_of (i := 99) (by decide +kernel) rfl
set_option maxRecDepth 100000 in
theorem wm_13_12 : Cond.methodLink RL 12 yX12_init ∈ tg := isA_of (i := 1177) (by decide +kernel) rfl
set_option maxRecDepth 100000 in
theorem wc_yX11_init : Cond.code yX11_init cX11_init 1 none ∈ tg := tg_of 101 rfl rfl
set_option maxRecDepth 100000 in
theorem wc_yX12_init : Cond.code yX12_init cX12_init 1 none ∈ tg := tg_of 1179 rfl rfl
set_option maxRecDepth 100000 in
theorem wi_yX11_init : Cond.instanceMethod yX11_init ∈ tg := isA_of (i := 100) (by decide +kernel) rfl
set_option maxRecDepth 100000 in
theorem wi_yX12_init : Cond.instanceMethod yX12_init ∈ tg := isA_of (i := 1178) (by decide +kernel) rfl
theorem dX0_init_0 : decode cX0_init 0 = .ok (.aload_n 0, 1) := by decide +kernel
theorem dX0_init_1 : decode cX0_init 1 = .ok (.invokespecial 3, 3) := by decide +kernel
theorem dX0_init_4 : decode cX0_init 4 = .ok (.aload_n 0, 1) := by decide +kernel
theorem dX0_init_5 : decode cX0_init 5 = .ok (.iconst 0, 1) := by decide +kernel
theorem dX0_init_6 : decode cX0_init 6 = .ok (.putfield 9, 3) := by decide +kernel
theorem dX0_init_9 : decode cX0_init 9 = .ok (.aload_n 0, 1) := by decide +kernel
theorem dX0_init_10 : decode cX0_init 10 = .ok (.bipush 8, 2) := by decide +kernel
theorem dX0_init_12 : decode cX0_init 12 = .ok (.newarray .int, 2) := by decide +kernel
theorem dX0_init_14 : decode cX0_init 14 = .ok (.putfield 15, 3) := by decide +kernel
theorem dX0_init_17 : decode cX0_init 17 = .ok (.aload_n 0, 1) := by decide +kernel
theorem dX0_init_18 : decode cX0_init 18 = .ok (.bipush 8, 2) := by decide +kernel
theorem dX0_init_20 : decode cX0_init 20 = .ok (.newarray .int, 2) := by decide +kernel
theorem dX0_init_22 : decode cX0_init 22 = .ok (.putfield 19, 3) := by decide +kernel
theorem dX0_init_25 : decode cX0_init 25 = .ok (.aload_n 0, 1) := by decide +kernel
theorem dX0_init_26 : decode cX0_init 26 = .ok (.iconst 0, 1) := by decide +kernel
theorem dX0_init_27 : decode cX0_init 27 = .ok (.putfield 22, 3) := by decide +kernel
theorem dX0_init_30 : decode cX0_init 30 = .ok (.aload_n 0, 1) := by decide +kernel
theorem dX0_init_31 : decode cX0_init 31 = .ok (.bipush 6, 2) := by decide +kernel
theorem dX0_init_33 : decode cX0_init 33 = .ok (.newarray .int, 2) := by decide +kernel
theorem dX0_init_35 : decode cX0_init 35 = .ok (.putfield 25, 3) := by decide +kernel
theorem dX0_init_38 : decode cX0_init 38 = .ok (.aload_n 0, 1) := by decide +kernel
theorem dX0_init_39 : decode cX0_init 39 = .ok (.bipush 6, 2) := by decide +kernel
theorem dX0_init_41 : decode cX0_init 41 = .ok (.newarray .int, 2) := by decide +kernel
theorem dX0_init_43 : decode cX0_init 43 = .ok (.putfield 28, 3) := by decide +kernel
theorem dX0_init_46 : decode cX0_init 46 = .ok (.aload_n 0, 1) := by decide +kernel
theorem dX0_init_47 : decode cX0_init 47 = .ok (.bipush 6, 2) := by decide +kernel
theorem dX0_init_49 : decode cX0_init 49 = .ok (.newarray .int, 2) := by decide +kernel
theorem dX0_init_51 : decode cX0_init 51 = .ok (.putfield 31, 3) := by decide +kernel
theorem dX0_init_54 : decode cX0_init 54 = .ok (.aload_n 0, 1) := by decide +kernel
theorem dX0_init_55 : decode cX0_init 55 = .ok (.bipush 6, 2) := by decide +kernel
theorem dX0_init_57 : decode cX0_init 57 = .ok (.bipush 6, 2) := by decide +kernel
theorem dX0_init_59 : decode cX0_init 59 = .ok (.multianewarray 34 2, 4) := by decide +kernel
theorem dX0_init_63 : decode cX0_init 63 = .ok (.putfield 36, 3) := by decide +kernel
theorem dX0_init_66 : decode cX0_init 66 = .ok (.return_, 1) := by decide +kernel
theorem dX1_init_0 : decode cX1_init 0 = .ok (.aload_n 0, 1) := by decide +kernel
theorem dX1_init_1 : decode cX1_init 1 = .ok (.invokespecial 3, 3) := by decide +kernel
theorem dX1_init_4 : decode cX1_init 4 = .ok (.aload_n 0, 1) := by decide +kernel
theorem dX1_init_5 : decode cX1_init 5 = .ok (.iconst 0, 1) := by decide +kernel
theorem dX1_init_6 : decode cX1_init 6 = .ok (.putfield 9, 3) := by decide +kernel
theorem dX1_init_9 : decode cX1_init 9 = .ok (.aload_n 0, 1) := by decide +kernel
theorem dX1_init_10 : decode cX1_init 10 = .ok (.bipush 6, 2) := by decide +kernel
theorem dX1_init_12 : decode cX1_init 12 = .ok (.newarray .int, 2) := by decide +kernel
theorem dX1_init_14 : decode cX1_init 14 = .ok (.putfield 15, 3) := by decide +kernel
theorem dX1_init_17 : decode cX1_init 17 = .ok (.aload_n 0, 1) := by decide +kernel
theorem dX1_init_18 : decode cX1_init 18 = .ok (.bipush 16, 2) := by decide +kernel
theorem dX1_init_20 : decode cX1_init 20 = .ok (.newarray .int, 2) := by decide +kernel
theorem dX1_init_22 : decode cX1_init 22 = .ok (.putfield 19, 3) := by decide +kernel
theorem dX1_init_25 : decode cX1_init 25 = .ok (.aload_n 0, 1) := by decide +kernel
theorem dX1_init_26 : decode cX1_init 26 = .ok (.bipush 16, 2) := by decide +kernel
theorem dX1_init_28 : decode cX1_init 28 = .ok (.newarray .int, 2) := by decide +kernel
theorem dX1_init_30 : decode cX1_init 30 = .ok (.putfield 22, 3) := by decide +kernel
theorem dX1_init_33 : decode cX1_init 33 = .ok (.aload_n 0, 1) := by decide +kernel
theorem dX1_init_34 : decode cX1_init 34 = .ok (.bipush 16, 2) := by decide +kernel
theorem dX1_init_36 : decode cX1_init 36 = .ok (.newarray .int, 2) := by decide +kernel
theorem dX1_init_38 : decode cX1_init 38 = .ok (.putfield 25, 3) := by decide +kernel
theorem dX1_init_41 : decode cX1_init 41 = .ok (.aload_n 0, 1) := by decide +kernel
theorem dX1_init_42 : decode cX1_init 42 = .ok (.bipush 16, 2) := by decide +kernel
theorem dX1_init_44 : decode cX1_init 44 = .ok (.newarray .int, 2) := by decide +kernel
theorem dX1_init_46 : decode cX1_init 46 = .ok (.putfield 28, 3) := by decide +kernel
theorem dX1_init_49 : decode cX1_init 49 = .ok (.aload_n 0, 1) := by decide +kernel
theorem dX1_init_50 : decode cX1_init 50 = .ok (.bipush 6, 2) := by decide +kernel
theorem dX1_init_52 : decode cX1_init 52 = .ok (.newarray .boolean, 2) := by decide +kernel
theorem dX1_init_54 : decode cX1_init 54 = .ok (.putfield 31, 3) := by decide +kernel
theorem dX1_init_57 : decode cX1_init 57 = .ok (.return_, 1) := by decide +kernel
theorem dX2_init_0 : decode cX2_init 0 = .ok (.aload_n 0, 1) := by decide +kernel
theorem dX2_init_1 : decode cX2_init 1 = .ok (.invokespecial 3, 3) := by decide +kernel
theorem dX2_init_4 : decode cX2_init 4 = .ok (.aload_n 0, 1) := by decide +kernel
theorem dX2_init_5 : decode cX2_init 5 = .ok (.iconst 0, 1) := by decide +kernel
theorem dX2_init_6 : decode cX2_init 6 = .ok (.putfield 9, 3) := by decide +kernel
theorem dX2_init_9 : decode cX2_init 9 = .ok (.aload_n 0, 1) := by decide +kernel
theorem dX2_init_10 : decode cX2_init 10 = .ok (.iconst 3, 1) := by decide +kernel
theorem dX2_init_11 : decode cX2_init 11 = .ok (.putfield 15, 3) := by decide +kernel
theorem dX2_init_14 : decode cX2_init 14 = .ok (.aload_n 0, 1) := by decide +kernel
theorem dX2_init_15 : decode cX2_init 15 = .ok (.bipush 60, 2) := by decide +kernel
theorem dX2_init_17 : decode cX2_init 17 = .ok (.newarray .int, 2) := by decide +kernel
theorem dX2_init_19 : decode cX2_init 19 = .ok (.putfield 18, 3) := by decide +kernel
theorem dX2_init_22 : decode cX2_init 22 = .ok (.aload_n 0, 1) := by decide +kernel
theorem dX2_init_23 : decode cX2_init 23 = .ok (.bipush 60, 2) := by decide +kernel
theorem dX2_init_25 : decode cX2_init 25 = .ok (.newarray .int, 2) := by decide +kernel
theorem dX2_init_27 : decode cX2_init 27 = .ok (.putfield 22, 3) := by decide +kernel
theorem dX2_init_30 : decode cX2_init 30 = .ok (.aload_n 0, 1) := by decide +kernel
theorem dX2_init_31 : decode cX2_init 31 = .ok (.bipush 60, 2) := by decide +kernel
theorem dX2_init_33 : decode cX2_init 33 = .ok (.newarray .boolean, 2) := by decide +kernel
theorem dX2_init_35 : decode cX2_init 35 = .ok (.putfield 25, 3) := by decide +kernel
theorem dX2_init_38 : decode cX2_init 38 = .ok (.return_, 1) := by decide +kernel
theorem dX3_init_0 : decode cX3_init 0 = .ok (.aload_n 0, 1) := by decide +kernel
theorem dX3_init_1 : decode cX3_init 1 = .ok (.invokespecial 3, 3) := by decide +kernel
theorem dX3_init_4 : decode cX3_init 4 = .ok (.aload_n 0, 1) := by decide +kernel
theorem dX3_init_5 : decode cX3_init 5 = .ok (.iconst 3, 1) := by decide +kernel
theorem dX3_init_6 : decode cX3_init 6 = .ok (.newarray .boolean, 2) := by decide +kernel
theorem dX3_init_8 : decode cX3_init 8 = .ok (.putfield 9, 3) := by decide +kernel
theorem dX3_init_11 : decode cX3_init 11 = .ok (.aload_n 0, 1) := by decide +kernel
theorem dX3_init_12 : decode cX3_init 12 = .ok (.iconst 3, 1) := by decide +kernel
theorem dX3_init_13 : decode cX3_init 13 = .ok (.bipush 96, 2) := by decide +kernel
theorem dX3_init_15 : decode cX3_init 15 = .ok (.multianewarray 15 2, 4) := by decide +kernel
theorem dX3_init_19 : decode cX3_init 19 = .ok (.putfield 17, 3) := by decide +kernel
theorem dX3_init_22 : decode cX3_init 22 = .ok (.aload_n 0, 1) := by decide +kernel
theorem dX3_init_23 : decode cX3_init 23 = .ok (.iconst 3, 1) := by decide +kernel
theorem dX3_init_24 : decode cX3_init 24 = .ok (.iconst 4, 1) := by decide +kernel
theorem dX3_init_25 : decode cX3_init 25 = .ok (.multianewarray 15 2, 4) := by decide +kernel
theorem dX3_init_29 : decode cX3_init 29 = .ok (.putfield 20, 3) := by decide +kernel
theorem dX3_init_32 : decode cX3_init 32 = .ok (.aload_n 0, 1) := by decide +kernel
theorem dX3_init_33 : decode cX3_init 33 = .ok (.bipush 97, 2) := by decide +kernel
theorem dX3_init_35 : decode cX3_init 35 = .ok (.newarray .int, 2) := by decide +kernel
theorem dX3_init_37 : decode cX3_init 37 = .ok (.putfield 23, 3) := by decide +kernel
theorem dX3_init_40 : decode cX3_init 40 = .ok (.return_, 1) := by decide +kernel
theorem dX4_init_0 : decode cX4_init 0 = .ok (.aload_n 0, 1) := by decide +kernel
theorem dX4_init_1 : decode cX4_init 1 = .ok (.invokespecial 3, 3) := by decide +kernel
theorem dX4_init_4 : decode cX4_init 4 = .ok (.aload_n 0, 1) := by decide +kernel
theorem dX4_init_5 : decode cX4_init 5 = .ok (.bipush 96, 2) := by decide +kernel
theorem dX4_init_7 : decode cX4_init 7 = .ok (.newarray .int, 2) := by decide +kernel
theorem dX4_init_9 : decode cX4_init 9 = .ok (.putfield 9, 3) := by decide +kernel
theorem dX4_init_12 : decode cX4_init 12 = .ok (.aload_n 0, 1) := by decide +kernel
theorem dX4_init_13 : decode cX4_init 13 = .ok (.iconst 4, 1) := by decide +kernel
theorem dX4_init_14 : decode cX4_init 14 = .ok (.newarray .int, 2) := by decide +kernel
theorem dX4_init_16 : decode cX4_init 16 = .ok (.putfield 15, 3) := by decide +kernel
theorem dX4_init_19 : decode cX4_init 19 = .ok (.aload_n 0, 1) := by decide +kernel
theorem dX4_init_20 : decode cX4_init 20 = .ok (.iconst 0, 1) := by decide +kernel
theorem dX4_init_21 : decode cX4_init 21 = .ok (.putfield 18, 3) := by decide +kernel
theorem dX4_init_24 : decode cX4_init 24 = .ok (.aload_n 0, 1) := by decide +kernel
theorem dX4_init_25 : decode cX4_init 25 = .ok (.iconst 0, 1) := by decide +kernel
theorem dX4_init_26 : decode cX4_init 26 = .ok (.putfield 22, 3) := by decide +kernel
theorem dX4_init_29 : decode cX4_init 29 = .ok (.aload_n 0, 1) := by decide +kernel
theorem dX4_init_30 : decode cX4_init 30 = .ok (.iconst 0, 1) := by decide +kernel
theorem dX4_init_31 : decode cX4_init 31 = .ok (.putfield 25, 3) := by decide +kernel
theorem dX4_init_34 : decode cX4_init 34 = .ok (.aload_n 0, 1) := by decide +kernel
theorem dX4_init_35 : decode cX4_init 35 = .ok (.iconst 0, 1) := by decide +kernel
theorem dX4_init_36 : decode cX4_init 36 = .ok (.putfield 28, 3) := by decide +kernel
theorem dX4_init_39 : decode cX4_init 39 = .ok (.aload_n 0, 1) := by decide +kernel
theorem dX4_init_40 : decode cX4_init 40 = .ok (.sipush 256, 3) := by decide +kernel
theorem dX4_init_43 : decode cX4_init 43 = .ok (.putfield 31, 3) := by decide +kernel
theorem dX4_init_46 : decode cX4_init 46 = .ok (.aload_n 0, 1) := by decide +kernel
theorem dX4_init_47 : decode cX4_init 47 = .ok (.iconst 0, 1) := by decide +kernel
theorem dX4_init_48 : decode cX4_init 48 = .ok (.putfield 34, 3) := by decide +kernel
theorem dX4_init_51 : decode cX4_init 51 = .ok (.aload_n 0, 1) := by decide +kernel
theorem dX4_init_52 : decode cX4_init 52 = .ok (.iconst 0, 1) := by decide +kernel
theorem dX4_init_53 : decode cX4_init 53 = .ok (.putfield 37, 3) := by decide +kernel
theorem dX4_init_56 : decode cX4_init 56 = .ok (.aload_n 0, 1) := by decide +kernel
theorem dX4_init_57 : decode cX4_init 57 = .ok (.iconst 0, 1) := by decide +kernel
theorem dX4_init_58 : decode cX4_init 58 = .ok (.putfield 40, 3) := by decide +kernel
theorem dX4_init_61 : decode cX4_init 61 = .ok (.aload_n 0, 1) := by decide +kernel
theorem dX4_init_62 : decode cX4_init 62 = .ok (.iconst 0, 1) := by decide +kernel
theorem dX4_init_63 : decode cX4_init 63 = .ok (.putfield 44, 3) := by decide +kernel
theorem dX4_init_66 : decode cX4_init 66 = .ok (.aload_n 0, 1) := by decide +kernel
theorem dX4_init_67 : decode cX4_init 67 = .ok (.iconst 0, 1) := by decide +kernel
theorem dX4_init_68 : decode cX4_init 68 = .ok (.putfield 47, 3) := by decide +kernel
theorem dX4_init_71 : decode cX4_init 71 = .ok (.aload_n 0, 1) := by decide +kernel
theorem dX4_init_72 : decode cX4_init 72 = .ok (.aload_n 1, 1) := by decide +kernel
theorem dX4_init_73 : decode cX4_init 73 = .ok (.putfield 50, 3) := by decide +kernel
theorem dX4_init_76 : decode cX4_init 76 = .ok (.return_, 1) := by decide +kernel
theorem dX5_init_0 : decode cX5_init 0 = .ok (.aload_n 0, 1) := by decide +kernel
theorem dX5_init_1 : decode cX5_init 1 = .ok (.invokespecial 3, 3) := by decide +kernel
theorem dX5_init_4 : decode cX5_init 4 = .ok (.aload_n 0, 1) := by decide +kernel
theorem dX5_init_5 : decode cX5_init 5 = .ok (.iconst 0, 1) := by decide +kernel
theorem dX5_init_6 : decode cX5_init 6 = .ok (.putfield 9, 3) := by decide +kernel
theorem dX5_init_9 : decode cX5_init 9 = .ok (.aload_n 0, 1) := by decide +kernel
theorem dX5_init_10 : decode cX5_init 10 = .ok (.iconst 0, 1) := by decide +kernel
theorem dX5_init_11 : decode cX5_init 11 = .ok (.putfield 15, 3) := by decide +kernel
theorem dX5_init_14 : decode cX5_init 14 = .ok (.aload_n 0, 1) := by decide +kernel
theorem dX5_init_15 : decode cX5_init 15 = .ok (.bipush 100, 2) := by decide +kernel
theorem dX5_init_17 : decode cX5_init 17 = .ok (.newarray .int, 2) := by decide +kernel
theorem dX5_init_19 : decode cX5_init 19 = .ok (.putfield 18, 3) := by decide +kernel
theorem dX5_init_22 : decode cX5_init 22 = .ok (.aload_n 0, 1) := by decide +kernel
theorem dX5_init_23 : decode cX5_init 23 = .ok (.bipush 100, 2) := by decide +kernel
theorem dX5_init_25 : decode cX5_init 25 = .ok (.newarray .int, 2) := by decide +kernel
theorem dX5_init_27 : decode cX5_init 27 = .ok (.putfield 22, 3) := by decide +kernel
theorem dX5_init_30 : decode cX5_init 30 = .ok (.aload_n 0, 1) := by decide +kernel
theorem dX5_init_31 : decode cX5_init 31 = .ok (.bipush 100, 2) := by decide +kernel
theorem dX5_init_33 : decode cX5_init 33 = .ok (.newarray .int, 2) := by decide +kernel
theorem dX5_init_35 : decode cX5_init 35 = .ok (.putfield 25, 3) := by decide +kernel
theorem dX5_init_38 : decode cX5_init 38 = .ok (.aload_n 0, 1) := by decide +kernel
theorem dX5_init_39 : decode cX5_init 39 = .ok (.bipush 100, 2) := by decide +kernel
theorem dX5_init_41 : decode cX5_init 41 = .ok (.newarray .int, 2) := by decide +kernel
theorem dX5_init_43 : decode cX5_init 43 = .ok (.putfield 28, 3) := by decide +kernel
theorem dX5_init_46 : decode cX5_init 46 = .ok (.aload_n 0, 1) := by decide +kernel
theorem dX5_init_47 : decode cX5_init 47 = .ok (.bipush 100, 2) := by decide +kernel
theorem dX5_init_49 : decode cX5_init 49 = .ok (.newarray .int, 2) := by decide +kernel
theorem dX5_init_51 : decode cX5_init 51 = .ok (.putfield 31, 3) := by decide +kernel
theorem dX5_init_54 : decode cX5_init 54 = .ok (.aload_n 0, 1) := by decide +kernel
theorem dX5_init_55 : decode cX5_init 55 = .ok (.bipush 100, 2) := by decide +kernel
theorem dX5_init_57 : decode cX5_init 57 = .ok (.newarray .int, 2) := by decide +kernel
theorem dX5_init_59 : decode cX5_init 59 = .ok (.putfield 34, 3) := by decide +kernel
theorem dX5_init_62 : decode cX5_init 62 = .ok (.aload_n 0, 1) := by decide +kernel
theorem dX5_init_63 : decode cX5_init 63 = .ok (.bipush 100, 2) := by decide +kernel
theorem dX5_init_65 : decode cX5_init 65 = .ok (.newarray .int, 2) := by decide +kernel
theorem dX5_init_67 : decode cX5_init 67 = .ok (.putfield 37, 3) := by decide +kernel
theorem dX5_init_70 : decode cX5_init 70 = .ok (.aload_n 0, 1) := by decide +kernel
theorem dX5_init_71 : decode cX5_init 71 = .ok (.bipush 100, 2) := by decide +kernel
theorem dX5_init_73 : decode cX5_init 73 = .ok (.newarray .int, 2) := by decide +kernel
theorem dX5_init_75 : decode cX5_init 75 = .ok (.putfield 40, 3) := by decide +kernel
theorem dX5_init_78 : decode cX5_init 78 = .ok (.return_, 1) := by decide +kernel
theorem dX6_init_0 : decode cX6_init 0 = .ok (.aload_n 0, 1) := by decide +kernel
theorem dX6_init_1 : decode cX6_init 1 = .ok (.invokespecial 3, 3) := by decide +kernel
theorem dX6_init_4 : decode cX6_init 4 = .ok (.aload_n 0, 1) := by decide +kernel
theorem dX6_init_5 : decode cX6_init 5 = .ok (.iconst 0, 1) := by decide +kernel
theorem dX6_init_6 : decode cX6_init 6 = .ok (.putfield 9, 3) := by decide +kernel
theorem dX6_init_9 : decode cX6_init 9 = .ok (.aload_n 0, 1) := by decide +kernel
theorem dX6_init_10 : decode cX6_init 10 = .ok (.iconst 0, 1) := by decide +kernel
theorem dX6_init_11 : decode cX6_init 11 = .ok (.putfield 15, 3) := by decide +kernel
theorem dX6_init_14 : decode cX6_init 14 = .ok (.aload_n 0, 1) := by decide +kernel
theorem dX6_init_15 : decode cX6_init 15 = .ok (.bipush 6, 2) := by decide +kernel
theorem dX6_init_17 : decode cX6_init 17 = .ok (.newarray .int, 2) := by decide +kernel
theorem dX6_init_19 : decode cX6_init 19 = .ok (.putfield 18, 3) := by decide +kernel
theorem dX6_init_22 : decode cX6_init 22 = .ok (.aload_n 0, 1) := by decide +kernel
theorem dX6_init_23 : decode cX6_init 23 = .ok (.bipush 12, 2) := by decide +kernel
theorem dX6_init_25 : decode cX6_init 25 = .ok (.newarray .int, 2) := by decide +kernel
theorem dX6_init_27 : decode cX6_init 27 = .ok (.putfield 22, 3) := by decide +kernel
theorem dX6_init_30 : decode cX6_init 30 = .ok (.aload_n 0, 1) := by decide +kernel
theorem dX6_init_31 : decode cX6_init 31 = .ok (.bipush 6, 2) := by decide +kernel
theorem dX6_init_33 : decode cX6_init 33 = .ok (.newarray .int, 2) := by decide +kernel
theorem dX6_init_35 : decode cX6_init 35 = .ok (.putfield 25, 3) := by decide +kernel
theorem dX6_init_38 : decode cX6_init 38 = .ok (.aload_n 0, 1) := by decide +kernel
theorem dX6_init_39 : decode cX6_init 39 = .ok (.bipush 7, 2) := by decide +kernel
theorem dX6_init_41 : decode cX6_init 41 = .ok (.bipush 8, 2) := by decide +kernel
theorem dX6_init_43 : decode cX6_init 43 = .ok (.multianewarray 28 2, 4) := by decide +kernel
theorem dX6_init_47 : decode cX6_init 47 = .ok (.putfield 30, 3) := by decide +kernel
theorem dX6_init_50 : decode cX6_init 50 = .ok (.aload_n 0, 1) := by decide +kernel
theorem dX6_init_51 : decode cX6_init 51 = .ok (.bipush 7, 2) := by decide +kernel
theorem dX6_init_53 : decode cX6_init 53 = .ok (.newarray .int, 2) := by decide +kernel
theorem dX6_init_55 : decode cX6_init 55 = .ok (.putfield 33, 3) := by decide +kernel
theorem dX6_init_58 : decode cX6_init 58 = .ok (.aload_n 0, 1) := by decide +kernel
theorem dX6_init_59 : decode cX6_init 59 = .ok (.iconst 0, 1) := by decide +kernel
theorem dX6_init_60 : decode cX6_init 60 = .ok (.putfield 36, 3) := by decide +kernel
theorem dX6_init_63 : decode cX6_init 63 = .ok (.aload_n 0, 1) := by decide +kernel
theorem dX6_init_64 : decode cX6_init 64 = .ok (.aload_n 1, 1) := by decide +kernel
theorem dX6_init_65 : decode cX6_init 65 = .ok (.putfield 39, 3) := by decide +kernel
theorem dX6_init_68 : decode cX6_init 68 = .ok (.return_, 1) := by decide +kernel
theorem dX7_init_0 : decode cX7_init 0 = .ok (.aload_n 0, 1) := by decide +kernel
theorem dX7_init_1 : decode cX7_init 1 = .ok (.invokespecial 3, 3) := by decide +kernel
theorem dX7_init_4 : decode cX7_init 4 = .ok (.aload_n 0, 1) := by decide +kernel
theorem dX7_init_5 : decode cX7_init 5 = .ok (.iconst 2, 1) := by decide +kernel
theorem dX7_init_6 : decode cX7_init 6 = .ok (.newarray .int, 2) := by decide +kernel
theorem dX7_init_8 : decode cX7_init 8 = .ok (.putfield 9, 3) := by decide +kernel
theorem dX7_init_11 : decode cX7_init 11 = .ok (.aload_n 0, 1) := by decide +kernel
theorem dX7_init_12 : decode cX7_init 12 = .ok (.iconst 2, 1) := by decide +kernel
theorem dX7_init_13 : decode cX7_init 13 = .ok (.bipush 16, 2) := by decide +kernel
theorem dX7_init_15 : decode cX7_init 15 = .ok (.multianewarray 15 2, 4) := by decide +kernel
theorem dX7_init_19 : decode cX7_init 19 = .ok (.putfield 17, 3) := by decide +kernel
theorem dX7_init_22 : decode cX7_init 22 = .ok (.aload_n 0, 1) := by decide +kernel
theorem dX7_init_23 : decode cX7_init 23 = .ok (.getfield 9, 3) := by decide +kernel
theorem dX7_init_26 : decode cX7_init 26 = .ok (.iconst (-1), 1) := by decide +kernel
theorem dX7_init_27 : decode cX7_init 27 = .ok (.invokestatic 20, 3) := by decide +kernel
theorem dX7_init_30 : decode cX7_init 30 = .ok (.return_, 1) := by decide +kernel
theorem dX8_init_0 : decode cX8_init 0 = .ok (.aload_n 0, 1) := by decide +kernel
theorem dX8_init_1 : decode cX8_init 1 = .ok (.invokespecial 3, 3) := by decide +kernel
theorem dX8_init_4 : decode cX8_init 4 = .ok (.aload_n 0, 1) := by decide +kernel
theorem dX8_init_5 : decode cX8_init 5 = .ok (.bipush 30, 2) := by decide +kernel
theorem dX8_init_7 : decode cX8_init 7 = .ok (.newarray .boolean, 2) := by decide +kernel
theorem dX8_init_9 : decode cX8_init 9 = .ok (.putfield 9, 3) := by decide +kernel
theorem dX8_init_12 : decode cX8_init 12 = .ok (.aload_n 0, 1) := by decide +kernel
theorem dX8_init_13 : decode cX8_init 13 = .ok (.bipush 30, 2) := by decide +kernel
theorem dX8_init_15 : decode cX8_init 15 = .ok (.newarray .int, 2) := by decide +kernel
theorem dX8_init_17 : decode cX8_init 17 = .ok (.putfield 15, 3) := by decide +kernel
theorem dX8_init_20 : decode cX8_init 20 = .ok (.aload_n 0, 1) := by decide +kernel
theorem dX8_init_21 : decode cX8_init 21 = .ok (.bipush 30, 2) := by decide +kernel
theorem dX8_init_23 : decode cX8_init 23 = .ok (.newarray .int, 2) := by decide +kernel
theorem dX8_init_25 : decode cX8_init 25 = .ok (.putfield 19, 3) := by decide +kernel
theorem dX8_init_28 : decode cX8_init 28 = .ok (.aload_n 0, 1) := by decide +kernel
theorem dX8_init_29 : decode cX8_init 29 = .ok (.iconst 5, 1) := by decide +kernel
theorem dX8_init_30 : decode cX8_init 30 = .ok (.iconst 5, 1) := by decide +kernel
theorem dX8_init_31 : decode cX8_init 31 = .ok (.multianewarray 22 2, 4) := by decide +kernel
theorem dX8_init_35 : decode cX8_init 35 = .ok (.putfield 24, 3) := by decide +kernel
theorem dX8_init_38 : decode cX8_init 38 = .ok (.aload_n 0, 1) := by decide +kernel
theorem dX8_init_39 : decode cX8_init 39 = .ok (.iconst 0, 1) := by decide +kernel
theorem dX8_init_40 : decode cX8_init 40 = .ok (.putfield 27, 3) := by decide +kernel
theorem dX8_init_43 : decode cX8_init 43 = .ok (.aload_n 0, 1) := by decide +kernel
theorem dX8_init_44 : decode cX8_init 44 = .ok (.iconst 5, 1) := by decide +kernel
theorem dX8_init_45 : decode cX8_init 45 = .ok (.newarray .int, 2) := by decide +kernel
theorem dX8_init_47 : decode cX8_init 47 = .ok (.putfield 31, 3) := by decide +kernel
theorem dX8_init_50 : decode cX8_init 50 = .ok (.aload_n 0, 1) := by decide +kernel
theorem dX8_init_51 : decode cX8_init 51 = .ok (.aload_n 1, 1) := by decide +kernel
theorem dX8_init_52 : decode cX8_init 52 = .ok (.putfield 34, 3) := by decide +kernel
theorem dX8_init_55 : decode cX8_init 55 = .ok (.aload_n 0, 1) := by decide +kernel
theorem dX8_init_56 : decode cX8_init 56 = .ok (.aload_n 2, 1) := by decide +kernel
theorem dX8_init_57 : decode cX8_init 57 = .ok (.putfield 38, 3) := by decide +kernel
theorem dX8_init_60 : decode cX8_init 60 = .ok (.aload_n 0, 1) := by decide +kernel
theorem dX8_init_61 : decode cX8_init 61 = .ok (.aload_n 3, 1) := by decide +kernel
theorem dX8_init_62 : decode cX8_init 62 = .ok (.putfield 42, 3) := by decide +kernel
theorem dX8_init_65 : decode cX8_init 65 = .ok (.aload_n 0, 1) := by decide +kernel
theorem dX8_init_66 : decode cX8_init 66 = .ok (.aload 4, 2) := by decide +kernel
theorem dX8_init_68 : decode cX8_init 68 = .ok (.putfield 46, 3) := by decide +kernel
theorem dX8_init_71 : decode cX8_init 71 = .ok (.return_, 1) := by decide +kernel
theorem dX9_init_0 : decode cX9_init 0 = .ok (.aload_n 0, 1) := by decide +kernel
theorem dX9_init_1 : decode cX9_init 1 = .ok (.invokespecial 3, 3) := by decide +kernel
theorem dX9_init_4 : decode cX9_init 4 = .ok (.aload_n 0, 1) := by decide +kernel
theorem dX9_init_5 : decode cX9_init 5 = .ok (.iconst 0, 1) := by decide +kernel
theorem dX9_init_6 : decode cX9_init 6 = .ok (.putfield 9, 3) := by decide +kernel
theorem dX9_init_9 : decode cX9_init 9 = .ok (.aload_n 0, 1) := by decide +kernel
theorem dX9_init_10 : decode cX9_init 10 = .ok (.iconst 0, 1) := by decide +kernel
theorem dX9_init_11 : decode cX9_init 11 = .ok (.putfield 15, 3) := by decide +kernel
theorem dX9_init_14 : decode cX9_init 14 = .ok (.aload_n 0, 1) := by decide +kernel
theorem dX9_init_15 : decode cX9_init 15 = .ok (.iconst 0, 1) := by decide +kernel
theorem dX9_init_16 : decode cX9_init 16 = .ok (.putfield 18, 3) := by decide +kernel
theorem dX9_init_19 : decode cX9_init 19 = .ok (.aload_n 0, 1) := by decide +kernel
theorem dX9_init_20 : decode cX9_init 20 = .ok (.bipush 10, 2) := by decide +kernel
theorem dX9_init_22 : decode cX9_init 22 = .ok (.newarray .int, 2) := by decide +kernel
theorem dX9_init_24 : decode cX9_init 24 = .ok (.putfield 21, 3) := by decide +kernel
theorem dX9_init_27 : decode cX9_init 27 = .ok (.return_, 1) := by decide +kernel
theorem dX10_init_0 : decode cX10_init 0 = .ok (.aload_n 0, 1) := by decide +kernel
theorem dX10_init_1 : decode cX10_init 1 = .ok (.invokespecial 3, 3) := by decide +kernel
theorem dX10_init_4 : decode cX10_init 4 = .ok (.aload_n 0, 1) := by decide +kernel
theorem dX10_init_5 : decode cX10_init 5 = .ok (.iconst 0, 1) := by decide +kernel
theorem dX10_init_6 : decode cX10_init 6 = .ok (.putfield 9, 3) := by decide +kernel
theorem dX10_init_9 : decode cX10_init 9 = .ok (.aload_n 0, 1) := by decide +kernel
theorem dX10_init_10 : decode cX10_init 10 = .ok (.bipush 30, 2) := by decide +kernel
theorem dX10_init_12 : decode cX10_init 12 = .ok (.newarray .int, 2) := by decide +kernel
theorem dX10_init_14 : decode cX10_init 14 = .ok (.putfield 15, 3) := by decide +kernel
theorem dX10_init_17 : decode cX10_init 17 = .ok (.aload_n 0, 1) := by decide +kernel
theorem dX10_init_18 : decode cX10_init 18 = .ok (.bipush 30, 2) := by decide +kernel
theorem dX10_init_20 : decode cX10_init 20 = .ok (.newarray .int, 2) := by decide +kernel
theorem dX10_init_22 : decode cX10_init 22 = .ok (.putfield 19, 3) := by decide +kernel
theorem dX10_init_25 : decode cX10_init 25 = .ok (.aload_n 0, 1) := by decide +kernel
theorem dX10_init_26 : decode cX10_init 26 = .ok (.bipush 30, 2) := by decide +kernel
theorem dX10_init_28 : decode cX10_init 28 = .ok (.newarray .int, 2) := by decide +kernel
theorem dX10_init_30 : decode cX10_init 30 = .ok (.putfield 22, 3) := by decide +kernel
theorem dX10_init_33 : decode cX10_init 33 = .ok (.aload_n 0, 1) := by decide +kernel
theorem dX10_init_34 : decode cX10_init 34 = .ok (.bipush 30, 2) := by decide +kernel
theorem dX10_init_36 : decode cX10_init 36 = .ok (.newarray .int, 2) := by decide +kernel
theorem dX10_init_38 : decode cX10_init 38 = .ok (.putfield 25, 3) := by decide +kernel
theorem dX10_init_41 : decode cX10_init 41 = .ok (.aload_n 0, 1) := by decide +kernel
theorem dX10_init_42 : decode cX10_init 42 = .ok (.bipush 30, 2) := by decide +kernel
theorem dX10_init_44 : decode cX10_init 44 = .ok (.newarray .int, 2) := by decide +kernel
theorem dX10_init_46 : decode cX10_init 46 = .ok (.putfield 28, 3) := by decide +kernel
theorem dX10_init_49 : decode cX10_init 49 = .ok (.aload_n 0, 1) := by decide +kernel
theorem dX10_init_50 : decode cX10_init 50 = .ok (.bipush 30, 2) := by decide +kernel
theorem dX10_init_52 : decode cX10_init 52 = .ok (.newarray .int, 2) := by decide +kernel
theorem dX10_init_54 : decode cX10_init 54 = .ok (.putfield 31, 3) := by decide +kernel
theorem dX10_init_57 : decode cX10_init 57 = .ok (.return_, 1) := by decide +kernel
theorem dX11_init_0 : decode cX11_init 0 = .ok (.aload_n 0, 1) := by decide +kernel
theorem dX11_init_1 : decode cX11_init 1 = .ok (.invokespecial 1, 3) := by decide +kernel
theorem dX11_init_4 : decode cX11_init 4 = .ok (.aload_n 0, 1) := by decide +kernel
theorem dX11_init_5 : decode cX11_init 5 = .ok (.new 7, 3) := by decide +kernel
theorem dX11_init_8 : decode cX11_init 8 = .ok (.dup, 1) := by decide +kernel
theorem dX11_init_9 : decode cX11_init 9 = .ok (.invokespecial 9, 3) := by decide +kernel
theorem dX11_init_12 : decode cX11_init 12 = .ok (.putfield 10, 3) := by decide +kernel
theorem dX11_init_15 : decode cX11_init 15 = .ok (.aload_n 0, 1) := by decide +kernel
theorem dX11_init_16 : decode cX11_init 16 = .ok (.new 16, 3) := by decide +kernel
theorem dX11_init_19 : decode cX11_init 19 = .ok (.dup, 1) := by decide +kernel
theorem dX11_init_20 : decode cX11_init 20 = .ok (.invokespecial 18, 3) := by decide +kernel
theorem dX11_init_23 : decode cX11_init 23 = .ok (.putfield 19, 3) := by decide +kernel
theorem dX11_init_26 : decode cX11_init 26 = .ok (.aload_n 0, 1) := by decide +kernel
theorem dX11_init_27 : decode cX11_init 27 = .ok (.new 23, 3) := by decide +kernel
theorem dX11_init_30 : decode cX11_init 30 = .ok (.dup, 1) := by decide +kernel
theorem dX11_init_31 : decode cX11_init 31 = .ok (.invokespecial 25, 3) := by decide +kernel
theorem dX11_init_34 : decode cX11_init 34 = .ok (.putfield 26, 3) := by decide +kernel
theorem dX11_init_37 : decode cX11_init 37 = .ok (.aload_n 0, 1) := by decide +kernel
theorem dX11_init_38 : decode cX11_init 38 = .ok (.new 30, 3) := by decide +kernel
theorem dX11_init_41 : decode cX11_init 41 = .ok (.dup, 1) := by decide +kernel
theorem dX11_init_42 : decode cX11_init 42 = .ok (.invokespecial 32, 3) := by decide +kernel
theorem dX11_init_45 : decode cX11_init 45 = .ok (.putfield 33, 3) := by decide +kernel
theorem dX11_init_48 : decode cX11_init 48 = .ok (.aload_n 0, 1) := by decide +kernel
theorem dX11_init_49 : decode cX11_init 49 = .ok (.bipush 96, 2) := by decide +kernel
theorem dX11_init_51 : decode cX11_init 51 = .ok (.newarray .byte, 2) := by decide +kernel
theorem dX11_init_53 : decode cX11_init 53 = .ok (.putfield 37, 3) := by decide +kernel
theorem dX11_init_56 : decode cX11_init 56 = .ok (.aload_n 0, 1) := by decide +kernel
theorem dX11_init_57 : decode cX11_init 57 = .ok (.iconst 0, 1) := by decide +kernel
theorem dX11_init_58 : decode cX11_init 58 = .ok (.putfield 41, 3) := by decide +kernel
theorem dX11_init_61 : decode cX11_init 61 = .ok (.aload_n 0, 1) := by decide +kernel
theorem dX11_init_62 : decode cX11_init 62 = .ok (.new 45, 3) := by decide +kernel
theorem dX11_init_65 : decode cX11_init 65 = .ok (.dup, 1) := by decide +kernel
theorem dX11_init_66 : decode cX11_init 66 = .ok (.aload_n 0, 1) := by decide +kernel
theorem dX11_init_67 : decode cX11_init 67 = .ok (.getfield 37, 3) := by decide +kernel
theorem dX11_init_70 : decode cX11_init 70 = .ok (.invokespecial 47, 3) := by decide +kernel
theorem dX11_init_73 : decode cX11_init 73 = .ok (.putfield 50, 3) := by decide +kernel
theorem dX11_init_76 : decode cX11_init 76 = .ok (.aload_n 0, 1) := by decide +kernel
theorem dX11_init_77 : decode cX11_init 77 = .ok (.new 54, 3) := by decide +kernel
theorem dX11_init_80 : decode cX11_init 80 = .ok (.dup, 1) := by decide +kernel
theorem dX11_init_81 : decode cX11_init 81 = .ok (.aload_n 0, 1) := by decide +kernel
theorem dX11_init_82 : decode cX11_init 82 = .ok (.getfield 10, 3) := by decide +kernel
theorem dX11_init_85 : decode cX11_init 85 = .ok (.aload_n 0, 1) := by decide +kernel
theorem dX11_init_86 : decode cX11_init 86 = .ok (.getfield 19, 3) := by decide +kernel
theorem dX11_init_89 : decode cX11_init 89 = .ok (.aload_n 0, 1) := by decide +kernel
theorem dX11_init_90 : decode cX11_init 90 = .ok (.getfield 26, 3) := by decide +kernel
theorem dX11_init_93 : decode cX11_init 93 = .ok (.aload_n 0, 1) := by decide +kernel
theorem dX11_init_94 : decode cX11_init 94 = .ok (.getfield 33, 3) := by decide +kernel
theorem dX11_init_97 : decode cX11_init 97 = .ok (.invokespecial 56, 3) := by decide +kernel
theorem dX11_init_100 : decode cX11_init 100 = .ok (.putfield 59, 3) := by decide +kernel
theorem dX11_init_103 : decode cX11_init 103 = .ok (.aload_n 0, 1) := by decide +kernel
theorem dX11_init_104 : decode cX11_init 104 = .ok (.new 63, 3) := by decide +kernel
theorem dX11_init_107 : decode cX11_init 107 = .ok (.dup, 1) := by decide +kernel
theorem dX11_init_108 : decode cX11_init 108 = .ok (.invokespecial 65, 3) := by decide +kernel
theorem dX11_init_111 : decode cX11_init 111 = .ok (.putfield 66, 3) := by decide +kernel
theorem dX11_init_114 : decode cX11_init 114 = .ok (.aload_n 0, 1) := by decide +kernel
theorem dX11_init_115 : decode cX11_init 115 = .ok (.new 70, 3) := by decide +kernel
theorem dX11_init_118 : decode cX11_init 118 = .ok (.dup, 1) := by decide +kernel
theorem dX11_init_119 : decode cX11_init 119 = .ok (.aload_n 0, 1) := by decide +kernel
theorem dX11_init_120 : decode cX11_init 120 = .ok (.getfield 66, 3) := by decide +kernel
theorem dX11_init_123 : decode cX11_init 123 = .ok (.invokespecial 72, 3) := by decide +kernel
theorem dX11_init_126 : decode cX11_init 126 = .ok (.putfield 75, 3) := by decide +kernel
theorem dX11_init_129 : decode cX11_init 129 = .ok (.aload_n 0, 1) := by decide +kernel
theorem dX11_init_130 : decode cX11_init 130 = .ok (.new 79, 3) := by decide +kernel
theorem dX11_init_133 : decode cX11_init 133 = .ok (.dup, 1) := by decide +kernel
theorem dX11_init_134 : decode cX11_init 134 = .ok (.invokespecial 81, 3) := by decide +kernel
theorem dX11_init_137 : decode cX11_init 137 = .ok (.putfield 82, 3) := by decide +kernel
theorem dX11_init_140 : decode cX11_init 140 = .ok (.aload_n 0, 1) := by decide +kernel
theorem dX11_init_141 : decode cX11_init 141 = .ok (.new 86, 3) := by decide +kernel
theorem dX11_init_144 : decode cX11_init 144 = .ok (.dup, 1) := by decide +kernel
theorem dX11_init_145 : decode cX11_init 145 = .ok (.invokespecial 88, 3) := by decide +kernel
theorem dX11_init_148 : decode cX11_init 148 = .ok (.putfield 89, 3) := by decide +kernel
theorem dX11_init_151 : decode cX11_init 151 = .ok (.aload_n 0, 1) := by decide +kernel
theorem dX11_init_152 : decode cX11_init 152 = .ok (.new 93, 3) := by decide +kernel
theorem dX11_init_155 : decode cX11_init 155 = .ok (.dup, 1) := by decide +kernel
theorem dX11_init_156 : decode cX11_init 156 = .ok (.invokespecial 95, 3) := by decide +kernel
theorem dX11_init_159 : decode cX11_init 159 = .ok (.putfield 96, 3) := by decide +kernel
theorem dX11_init_162 : decode cX11_init 162 = .ok (.aload_n 0, 1) := by decide +kernel
theorem dX11_init_163 : decode cX11_init 163 = .ok (.bipush 20, 2) := by decide +kernel
theorem dX11_init_165 : decode cX11_init 165 = .ok (.newarray .int, 2) := by decide +kernel
theorem dX11_init_167 : decode cX11_init 167 = .ok (.putfield 100, 3) := by decide +kernel
theorem dX11_init_170 : decode cX11_init 170 = .ok (.aload_n 0, 1) := by decide +kernel
theorem dX11_init_171 : decode cX11_init 171 = .ok (.iconst 0, 1) := by decide +kernel
theorem dX11_init_172 : decode cX11_init 172 = .ok (.putfield 104, 3) := by decide +kernel
theorem dX11_init_175 : decode cX11_init 175 = .ok (.return_, 1) := by decide +kernel
theorem dX12_init_0 : decode cX12_init 0 = .ok (.aload_n 0, 1) := by decide +kernel
theorem dX12_init_1 : decode cX12_init 1 = .ok (.invokespecial 1, 3) := by decide +kernel
theorem dX12_init_4 : decode cX12_init 4 = .ok (.aload_n 0, 1) := by decide +kernel
theorem dX12_init_5 : decode cX12_init 5 = .ok (.bipush 10, 2) := by decide +kernel
theorem dX12_init_7 : decode cX12_init 7 = .ok (.newarray .int, 2) := by decide +kernel
theorem dX12_init_9 : decode cX12_init 9 = .ok (.putfield 7, 3) := by decide +kernel
theorem dX12_init_12 : decode cX12_init 12 = .ok (.aload_n 0, 1) := by decide +kernel
theorem dX12_init_13 : decode cX12_init 13 = .ok (.bipush 30, 2) := by decide +kernel
theorem dX12_init_15 : decode cX12_init 15 = .ok (.newarray .int, 2) := by decide +kernel
theorem dX12_init_17 : decode cX12_init 17 = .ok (.putfield 13, 3) := by decide +kernel
theorem dX12_init_20 : decode cX12_init 20 = .ok (.aload_n 0, 1) := by decide +kernel
theorem dX12_init_21 : decode cX12_init 21 = .ok (.bipush 30, 2) := by decide +kernel
theorem dX12_init_23 : decode cX12_init 23 = .ok (.newarray .int, 2) := by decide +kernel
theorem dX12_init_25 : decode cX12_init 25 = .ok (.putfield 16, 3) := by decide +kernel
theorem dX12_init_28 : decode cX12_init 28 = .ok (.aload_n 0, 1) := by decide +kernel
theorem dX12_init_29 : decode cX12_init 29 = .ok (.bipush 30, 2) := by decide +kernel
theorem dX12_init_31 : decode cX12_init 31 = .ok (.newarray .int, 2) := by decide +kernel
theorem dX12_init_33 : decode cX12_init 33 = .ok (.putfield 19, 3) := by decide +kernel
theorem dX12_init_36 : decode cX12_init 36 = .ok (.aload_n 0, 1) := by decide +kernel
theorem dX12_init_37 : decode cX12_init 37 = .ok (.bipush 30, 2) := by decide +kernel
theorem dX12_init_39 : decode cX12_init 39 = .ok (.newarray .int, 2) := by decide +kernel
theorem dX12_init_41 : decode cX12_init 41 = .ok (.putfield 22, 3) := by decide +kernel
theorem dX12_init_44 : decode cX12_init 44 = .ok (.aload_n 0, 1) := by decide +kernel
theorem dX12_init_45 : decode cX12_init 45 = .ok (.bipush 30, 2) := by decide +kernel
theorem dX12_init_47 : decode cX12_init 47 = .ok (.newarray .int, 2) := by decide +kernel
theorem dX12_init_49 : decode cX12_init 49 = .ok (.putfield 25, 3) := by decide +kernel
theorem dX12_init_52 : decode cX12_init 52 = .ok (.aload_n 0, 1) := by decide +kernel
theorem dX12_init_53 : decode cX12_init 53 = .ok (.bipush 30, 2) := by decide +kernel
theorem dX12_init_55 : decode cX12_init 55 = .ok (.newarray .int, 2) := by decide +kernel
theorem dX12_init_57 : decode cX12_init 57 = .ok (.putfield 28, 3) := by decide +kernel
theorem dX12_init_60 : decode cX12_init 60 = .ok (.aload_n 0, 1) := by decide +kernel
theorem dX12_init_61 : decode cX12_init 61 = .ok (.bipush 100, 2) := by decide +kernel
theorem dX12_init_63 : decode cX12_init 63 = .ok (.newarray .int, 2) := by decide +kernel
theorem dX12_init_65 : decode cX12_init 65 = .ok (.putfield 31, 3) := by decide +kernel
theorem dX12_init_68 : decode cX12_init 68 = .ok (.aload_n 0, 1) := by decide +kernel
theorem dX12_init_69 : decode cX12_init 69 = .ok (.bipush 100, 2) := by decide +kernel
theorem dX12_init_71 : decode cX12_init 71 = .ok (.newarray .int, 2) := by decide +kernel
theorem dX12_init_73 : decode cX12_init 73 = .ok (.putfield 34, 3) := by decide +kernel
theorem dX12_init_76 : decode cX12_init 76 = .ok (.aload_n 0, 1) := by decide +kernel
theorem dX12_init_77 : decode cX12_init 77 = .ok (.bipush 100, 2) := by decide +kernel
theorem dX12_init_79 : decode cX12_init 79 = .ok (.newarray .int, 2) := by decide +kernel
theorem dX12_init_81 : decode cX12_init 81 = .ok (.putfield 37, 3) := by decide +kernel
theorem dX12_init_84 : decode cX12_init 84 = .ok (.aload_n 0, 1) := by decide +kernel
theorem dX12_init_85 : decode cX12_init 85 = .ok (.bipush 100, 2) := by decide +kernel
theorem dX12_init_87 : decode cX12_init 87 = .ok (.newarray .int, 2) := by decide +kernel
theorem dX12_init_89 : decode cX12_init 89 = .ok (.putfield 40, 3) := by decide +kernel
theorem dX12_init_92 : decode cX12_init 92 = .ok (.aload_n 0, 1) := by decide +kernel
theorem dX12_init_93 : decode cX12_init 93 = .ok (.bipush 100, 2) := by decide +kernel
theorem dX12_init_95 : decode cX12_init 95 = .ok (.newarray .int, 2) := by decide +kernel
theorem dX12_init_97 : decode cX12_init 97 = .ok (.putfield 43, 3) := by decide +kernel
theorem dX12_init_100 : decode cX12_init 100 = .ok (.aload_n 0, 1) := by decide +kernel
theorem dX12_init_101 : decode cX12_init 101 = .ok (.bipush 100, 2) := by decide +kernel
theorem dX12_init_103 : decode cX12_init 103 = .ok (.newarray .int, 2) := by decide +kernel
theorem dX12_init_105 : decode cX12_init 105 = .ok (.putfield 46, 3) := by decide +kernel
theorem dX12_init_108 : decode cX12_init 108 = .ok (.aload_n 0, 1) := by decide +kernel
theorem dX12_init_109 : decode cX12_init 109 = .ok (.bipush 100, 2) := by decide +kernel
theorem dX12_init_111 : decode cX12_init 111 = .ok (.newarray .int, 2) := by decide +kernel
theorem dX12_init_113 : decode cX12_init 113 = .ok (.putfield 49, 3) := by decide +kernel
theorem dX12_init_116 : decode cX12_init 116 = .ok (.aload_n 0, 1) := by decide +kernel
theorem dX12_init_117 : decode cX12_init 117 = .ok (.iconst 2, 1) := by decide +kernel
theorem dX12_init_118 : decode cX12_init 118 = .ok (.newarray .int, 2) := by decide +kernel
theorem dX12_init_120 : decode cX12_init 120 = .ok (.putfield 52, 3) := by decide +kernel
theorem dX12_init_123 : decode cX12_init 123 = .ok (.aload_n 0, 1) := by decide +kernel
theorem dX12_init_124 : decode cX12_init 124 = .ok (.bipush 32, 2) := by decide +kernel
theorem dX12_init_126 : decode cX12_init 126 = .ok (.newarray .int, 2) := by decide +kernel
theorem dX12_init_128 : decode cX12_init 128 = .ok (.putfield 55, 3) := by decide +kernel
theorem dX12_init_131 : decode cX12_init 131 = .ok (.aload_n 0, 1) := by decide +kernel
theorem dX12_init_132 : decode cX12_init 132 = .ok (.bipush 100, 2) := by decide +kernel
theorem dX12_init_134 : decode cX12_init 134 = .ok (.newarray .int, 2) := by decide +kernel
theorem dX12_init_136 : decode cX12_init 136 = .ok (.putfield 58, 3) := by decide +kernel
theorem dX12_init_139 : decode cX12_init 139 = .ok (.aload_n 0, 1) := by decide +kernel
theorem dX12_init_140 : decode cX12_init 140 = .ok (.bipush 30, 2) := by decide +kernel
theorem dX12_init_142 : decode cX12_init 142 = .ok (.newarray .boolean, 2) := by decide +kernel
theorem dX12_init_144 : decode cX12_init 144 = .ok (.putfield 61, 3) := by decide +kernel
theorem dX12_init_147 : decode cX12_init 147 = .ok (.aload_n 0, 1) := by decide +kernel
theorem dX12_init_148 : decode cX12_init 148 = .ok (.bipush 30, 2) := by decide +kernel
theorem dX12_init_150 : decode cX12_init 150 = .ok (.newarray .int, 2) := by decide +kernel
theorem dX12_init_152 : decode cX12_init 152 = .ok (.putfield 65, 3) := by decide +kernel
theorem dX12_init_155 : decode cX12_init 155 = .ok (.aload_n 0, 1) := by decide +kernel
theorem dX12_init_156 : decode cX12_init 156 = .ok (.bipush 30, 2) := by decide +kernel
theorem dX12_init_158 : decode cX12_init 158 = .ok (.newarray .int, 2) := by decide +kernel
theorem dX12_init_160 : decode cX12_init 160 = .ok (.putfield 68, 3) := by decide +kernel
theorem dX12_init_163 : decode cX12_init 163 = .ok (.aload_n 0, 1) := by decide +kernel
theorem dX12_init_164 : decode cX12_init 164 = .ok (.bipush 25, 2) := by decide +kernel
theorem dX12_init_166 : decode cX12_init 166 = .ok (.newarray .int, 2) := by decide +kernel
theorem dX12_init_168 : decode cX12_init 168 = .ok (.putfield 71, 3) := by decide +kernel
theorem dX12_init_171 : decode cX12_init 171 = .ok (.aload_n 0, 1) := by decide +kernel
theorem dX12_init_172 : decode cX12_init 172 = .ok (.iconst 3, 1) := by decide +kernel
theorem dX12_init_173 : decode cX12_init 173 = .ok (.newarray .boolean, 2) := by decide +kernel
theorem dX12_init_175 : decode cX12_init 175 = .ok (.putfield 74, 3) := by decide +kernel
theorem dX12_init_178 : decode cX12_init 178 = .ok (.aload_n 0, 1) := by decide +kernel
theorem dX12_init_179 : decode cX12_init 179 = .ok (.bipush 9, 2) := by decide +kernel
theorem dX12_init_181 : decode cX12_init 181 = .ok (.newarray .int, 2) := by decide +kernel
theorem dX12_init_183 : decode cX12_init 183 = .ok (.putfield 77, 3) := by decide +kernel
theorem dX12_init_186 : decode cX12_init 186 = .ok (.aload_n 0, 1) := by decide +kernel
theorem dX12_init_187 : decode cX12_init 187 = .ok (.sipush 900, 3) := by decide +kernel
theorem dX12_init_190 : decode cX12_init 190 = .ok (.newarray .int, 2) := by decide +kernel
theorem dX12_init_192 : decode cX12_init 192 = .ok (.putfield 80, 3) := by decide +kernel
theorem dX12_init_195 : decode cX12_init 195 = .ok (.aload_n 0, 1) := by decide +kernel
theorem dX12_init_196 : decode cX12_init 196 = .ok (.sipush 900, 3) := by decide +kernel
theorem dX12_init_199 : decode cX12_init 199 = .ok (.newarray .int, 2) := by decide +kernel
theorem dX12_init_201 : decode cX12_init 201 = .ok (.putfield 83, 3) := by decide +kernel
theorem dX12_init_204 : decode cX12_init 204 = .ok (.aload_n 0, 1) := by decide +kernel
theorem dX12_init_205 : decode cX12_init 205 = .ok (.iconst 3, 1) := by decide +kernel
theorem dX12_init_206 : decode cX12_init 206 = .ok (.newarray .int, 2) := by decide +kernel
theorem dX12_init_208 : decode cX12_init 208 = .ok (.putfield 86, 3) := by decide +kernel
theorem dX12_init_211 : decode cX12_init 211 = .ok (.aload_n 0, 1) := by decide +kernel
theorem dX12_init_212 : decode cX12_init 212 = .ok (.sipush 300, 3) := by decide +kernel
theorem dX12_init_215 : decode cX12_init 215 = .ok (.newarray .int, 2) := by decide +kernel
theorem dX12_init_217 : decode cX12_init 217 = .ok (.putfield 89, 3) := by decide +kernel
theorem dX12_init_220 : decode cX12_init 220 = .ok (.aload_n 0, 1) := by decide +kernel
theorem dX12_init_221 : decode cX12_init 221 = .ok (.sipush 300, 3) := by decide +kernel
theorem dX12_init_224 : decode cX12_init 224 = .ok (.newarray .int, 2) := by decide +kernel
theorem dX12_init_226 : decode cX12_init 226 = .ok (.putfield 92, 3) := by decide +kernel
theorem dX12_init_229 : decode cX12_init 229 = .ok (.aload_n 0, 1) := by decide +kernel
theorem dX12_init_230 : decode cX12_init 230 = .ok (.bipush 100, 2) := by decide +kernel
theorem dX12_init_232 : decode cX12_init 232 = .ok (.newarray .int, 2) := by decide +kernel
theorem dX12_init_234 : decode cX12_init 234 = .ok (.putfield 95, 3) := by decide +kernel
theorem dX12_init_237 : decode cX12_init 237 = .ok (.aload_n 0, 1) := by decide +kernel
theorem dX12_init_238 : decode cX12_init 238 = .ok (.bipush 96, 2) := by decide +kernel
theorem dX12_init_240 : decode cX12_init 240 = .ok (.newarray .int, 2) := by decide +kernel
theorem dX12_init_242 : decode cX12_init 242 = .ok (.putfield 98, 3) := by decide +kernel
theorem dX12_init_245 : decode cX12_init 245 = .ok (.aload_n 0, 1) := by decide +kernel
theorem dX12_init_246 : decode cX12_init 246 = .ok (.bipush 18, 2) := by decide +kernel
theorem dX12_init_248 : decode cX12_init 248 = .ok (.newarray .int, 2) := by decide +kernel
theorem dX12_init_250 : decode cX12_init 250 = .ok (.dup, 1) := by decide +kernel
theorem dX12_init_251 : decode cX12_init 251 = .ok (.iconst 0, 1) := by decide +kernel
theorem dX12_init_252 : decode cX12_init 252 = .ok (.bipush 101, 2) := by decide +kernel
theorem dX12_init_254 : decode cX12_init 254 = .ok (.iastore, 1) := by decide +kernel
theorem dX12_init_255 : decode cX12_init 255 = .ok (.dup, 1) := by decide +kernel
theorem dX12_init_256 : decode cX12_init 256 = .ok (.iconst 1, 1) := by decide +kernel
theorem dX12_init_257 : decode cX12_init 257 = .ok (.bipush 110, 2) := by decide +kernel
theorem dX12_init_259 : decode cX12_init 259 = .ok (.iastore, 1) := by decide +kernel
theorem dX12_init_260 : decode cX12_init 260 = .ok (.dup, 1) := by decide +kernel
theorem dX12_init_261 : decode cX12_init 261 = .ok (.iconst 2, 1) := by decide +kernel
theorem dX12_init_262 : decode cX12_init 262 = .ok (.bipush 100, 2) := by decide +kernel
theorem dX12_init_264 : decode cX12_init 264 = .ok (.iastore, 1) := by decide +kernel
theorem dX12_init_265 : decode cX12_init 265 = .ok (.dup, 1) := by decide +kernel
theorem dX12_init_266 : decode cX12_init 266 = .ok (.iconst 3, 1) := by decide +kernel
theorem dX12_init_267 : decode cX12_init 267 = .ok (.iconst 0, 1) := by decide +kernel
theorem dX12_init_268 : decode cX12_init 268 = .ok (.iastore, 1) := by decide +kernel
theorem dX12_init_269 : decode cX12_init 269 = .ok (.dup, 1) := by decide +kernel
theorem dX12_init_270 : decode cX12_init 270 = .ok (.iconst 4, 1) := by decide +kernel
theorem dX12_init_271 : decode cX12_init 271 = .ok (.iconst 0, 1) := by decide +kernel
theorem dX12_init_272 : decode cX12_init 272 = .ok (.iastore, 1) := by decide +kernel
theorem dX12_init_273 : decode cX12_init 273 = .ok (.dup, 1) := by decide +kernel
theorem dX12_init_274 : decode cX12_init 274 = .ok (.iconst 5, 1) := by decide +kernel
theorem dX12_init_275 : decode cX12_init 275 = .ok (.iconst 0, 1) := by decide +kernel
theorem dX12_init_276 : decode cX12_init 276 = .ok (.iastore, 1) := by decide +kernel
theorem dX12_init_277 : decode cX12_init 277 = .ok (.dup, 1) := by decide +kernel
theorem dX12_init_278 : decode cX12_init 278 = .ok (.bipush 6, 2) := by decide +kernel
theorem dX12_init_280 : decode cX12_init 280 = .ok (.bipush 99, 2) := by decide +kernel
theorem dX12_init_282 : decode cX12_init 282 = .ok (.iastore, 1) := by decide +kernel
theorem dX12_init_283 : decode cX12_init 283 = .ok (.dup, 1) := by decide +kernel
theorem dX12_init_284 : decode cX12_init 284 = .ok (.bipush 7, 2) := by decide +kernel
theorem dX12_init_286 : decode cX12_init 286 = .ok (.bipush 104, 2) := by decide +kernel
theorem dX12_init_288 : decode cX12_init 288 = .ok (.iastore, 1) := by decide +kernel
theorem dX12_init_289 : decode cX12_init 289 = .ok (.dup, 1) := by decide +kernel
theorem dX12_init_290 : decode cX12_init 290 = .ok (.bipush 8, 2) := by decide +kernel
theorem dX12_init_292 : decode cX12_init 292 = .ok (.bipush 97, 2) := by decide +kernel
theorem dX12_init_294 : decode cX12_init 294 = .ok (.iastore, 1) := by decide +kernel
theorem dX12_init_295 : decode cX12_init 295 = .ok (.dup, 1) := by decide +kernel
theorem dX12_init_296 : decode cX12_init 296 = .ok (.bipush 9, 2) := by decide +kernel
theorem dX12_init_298 : decode cX12_init 298 = .ok (.bipush 110, 2) := by decide +kernel
theorem dX12_init_300 : decode cX12_init 300 = .ok (.iastore, 1) := by decide +kernel
theorem dX12_init_301 : decode cX12_init 301 = .ok (.dup, 1) := by decide +kernel
theorem dX12_init_302 : decode cX12_init 302 = .ok (.bipush 10, 2) := by decide +kernel
theorem dX12_init_304 : decode cX12_init 304 = .ok (.bipush 103, 2) := by decide +kernel
theorem dX12_init_306 : decode cX12_init 306 = .ok (.iastore, 1) := by decide +kernel
theorem dX12_init_307 : decode cX12_init 307 = .ok (.dup, 1) := by decide +kernel
theorem dX12_init_308 : decode cX12_init 308 = .ok (.bipush 11, 2) := by decide +kernel
theorem dX12_init_310 : decode cX12_init 310 = .ok (.bipush 101, 2) := by decide +kernel
theorem dX12_init_312 : decode cX12_init 312 = .ok (.iastore, 1) := by decide +kernel
theorem dX12_init_313 : decode cX12_init 313 = .ok (.dup, 1) := by decide +kernel
theorem dX12_init_314 : decode cX12_init 314 = .ok (.bipush 12, 2) := by decide +kernel
theorem dX12_init_316 : decode cX12_init 316 = .ok (.bipush 103, 2) := by decide +kernel
theorem dX12_init_318 : decode cX12_init 318 = .ok (.iastore, 1) := by decide +kernel
theorem dX12_init_319 : decode cX12_init 319 = .ok (.dup, 1) := by decide +kernel
theorem dX12_init_320 : decode cX12_init 320 = .ok (.bipush 13, 2) := by decide +kernel
theorem dX12_init_322 : decode cX12_init 322 = .ok (.bipush 97, 2) := by decide +kernel
theorem dX12_init_324 : decode cX12_init 324 = .ok (.iastore, 1) := by decide +kernel
theorem dX12_init_325 : decode cX12_init 325 = .ok (.dup, 1) := by decide +kernel
theorem dX12_init_326 : decode cX12_init 326 = .ok (.bipush 14, 2) := by decide +kernel
theorem dX12_init_328 : decode cX12_init 328 = .ok (.bipush 105, 2) := by decide +kernel
theorem dX12_init_330 : decode cX12_init 330 = .ok (.iastore, 1) := by decide +kernel
theorem dX12_init_331 : decode cX12_init 331 = .ok (.dup, 1) := by decide +kernel
theorem dX12_init_332 : decode cX12_init 332 = .ok (.bipush 15, 2) := by decide +kernel
theorem dX12_init_334 : decode cX12_init 334 = .ok (.bipush 110, 2) := by decide +kernel
theorem dX12_init_336 : decode cX12_init 336 = .ok (.iastore, 1) := by decide +kernel
theorem dX12_init_337 : decode cX12_init 337 = .ok (.dup, 1) := by decide +kernel
theorem dX12_init_338 : decode cX12_init 338 = .ok (.bipush 16, 2) := by decide +kernel
theorem dX12_init_340 : decode cX12_init 340 = .ok (.iconst 0, 1) := by decide +kernel
theorem dX12_init_341 : decode cX12_init 341 = .ok (.iastore, 1) := by decide +kernel
theorem dX12_init_342 : decode cX12_init 342 = .ok (.dup, 1) := by decide +kernel
theorem dX12_init_343 : decode cX12_init 343 = .ok (.bipush 17, 2) := by decide +kernel
theorem dX12_init_345 : decode cX12_init 345 = .ok (.iconst 0, 1) := by decide +kernel
theorem dX12_init_346 : decode cX12_init 346 = .ok (.iastore, 1) := by decide +kernel
theorem dX12_init_347 : decode cX12_init 347 = .ok (.putfield 101, 3) := by decide +kernel
theorem dX12_init_350 : decode cX12_init 350 = .ok (.aload_n 0, 1) := by decide +kernel
theorem dX12_init_351 : decode cX12_init 351 = .ok (.bipush 8, 2) := by decide +kernel
theorem dX12_init_353 : decode cX12_init 353 = .ok (.newarray .int, 2) := by decide +kernel
theorem dX12_init_355 : decode cX12_init 355 = .ok (.putfield 104, 3) := by decide +kernel
theorem dX12_init_358 : decode cX12_init 358 = .ok (.aload_n 0, 1) := by decide +kernel
theorem dX12_init_359 : decode cX12_init 359 = .ok (.bipush 8, 2) := by decide +kernel
theorem dX12_init_361 : decode cX12_init 361 = .ok (.newarray .int, 2) := by decide +kernel
theorem dX12_init_363 : decode cX12_init 363 = .ok (.putfield 107, 3) := by decide +kernel
theorem dX12_init_366 : decode cX12_init 366 = .ok (.aload_n 0, 1) := by decide +kernel
theorem dX12_init_367 : decode cX12_init 367 = .ok (.bipush 6, 2) := by decide +kernel
theorem dX12_init_369 : decode cX12_init 369 = .ok (.newarray .int, 2) := by decide +kernel
theorem dX12_init_371 : decode cX12_init 371 = .ok (.putfield 110, 3) := by decide +kernel
theorem dX12_init_374 : decode cX12_init 374 = .ok (.aload_n 0, 1) := by decide +kernel
theorem dX12_init_375 : decode cX12_init 375 = .ok (.bipush 6, 2) := by decide +kernel
theorem dX12_init_377 : decode cX12_init 377 = .ok (.newarray .int, 2) := by decide +kernel
theorem dX12_init_379 : decode cX12_init 379 = .ok (.putfield 113, 3) := by decide +kernel
theorem dX12_init_382 : decode cX12_init 382 = .ok (.aload_n 0, 1) := by decide +kernel
theorem dX12_init_383 : decode cX12_init 383 = .ok (.bipush 6, 2) := by decide +kernel
theorem dX12_init_385 : decode cX12_init 385 = .ok (.newarray .int, 2) := by decide +kernel
theorem dX12_init_387 : decode cX12_init 387 = .ok (.putfield 116, 3) := by decide +kernel
theorem dX12_init_390 : decode cX12_init 390 = .ok (.aload_n 0, 1) := by decide +kernel
theorem dX12_init_391 : decode cX12_init 391 = .ok (.bipush 36, 2) := by decide +kernel
theorem dX12_init_393 : decode cX12_init 393 = .ok (.newarray .boolean, 2) := by decide +kernel
theorem dX12_init_395 : decode cX12_init 395 = .ok (.putfield 119, 3) := by decide +kernel
theorem dX12_init_398 : decode cX12_init 398 = .ok (.aload_n 0, 1) := by decide +kernel
theorem dX12_init_399 : decode cX12_init 399 = .ok (.bipush 8, 2) := by decide +kernel
theorem dX12_init_401 : decode cX12_init 401 = .ok (.newarray .int, 2) := by decide +kernel
theorem dX12_init_403 : decode cX12_init 403 = .ok (.putfield 122, 3) := by decide +kernel
theorem dX12_init_406 : decode cX12_init 406 = .ok (.aload_n 0, 1) := by decide +kernel
theorem dX12_init_407 : decode cX12_init 407 = .ok (.bipush 6, 2) := by decide +kernel
theorem dX12_init_409 : decode cX12_init 409 = .ok (.newarray .int, 2) := by decide +kernel
theorem dX12_init_411 : decode cX12_init 411 = .ok (.putfield 125, 3) := by decide +kernel
theorem dX12_init_414 : decode cX12_init 414 = .ok (.aload_n 0, 1) := by decide +kernel
theorem dX12_init_415 : decode cX12_init 415 = .ok (.bipush 6, 2) := by decide +kernel
theorem dX12_init_417 : decode cX12_init 417 = .ok (.newarray .int, 2) := by decide +kernel
theorem dX12_init_419 : decode cX12_init 419 = .ok (.putfield 128, 3) := by decide +kernel
theorem dX12_init_422 : decode cX12_init 422 = .ok (.aload_n 0, 1) := by decide +kernel
theorem dX12_init_423 : decode cX12_init 423 = .ok (.bipush 6, 2) := by decide +kernel
theorem dX12_init_425 : decode cX12_init 425 = .ok (.newarray .int, 2) := by decide +kernel
theorem dX12_init_427 : decode cX12_init 427 = .ok (.putfield 131, 3) := by decide +kernel
theorem dX12_init_430 : decode cX12_init 430 = .ok (.aload_n 0, 1) := by decide +kernel
theorem dX12_init_431 : decode cX12_init 431 = .ok (.bipush 20, 2) := by decide +kernel
theorem dX12_init_433 : decode cX12_init 433 = .ok (.newarray .int, 2) := by decide +kernel
theorem dX12_init_435 : decode cX12_init 435 = .ok (.putfield 134, 3) := by decide +kernel
theorem dX12_init_438 : decode cX12_init 438 = .ok (.aload_n 0, 1) := by decide +kernel
theorem dX12_init_439 : decode cX12_init 439 = .ok (.bipush 16, 2) := by decide +kernel
theorem dX12_init_441 : decode cX12_init 441 = .ok (.newarray .int, 2) := by decide +kernel
theorem dX12_init_443 : decode cX12_init 443 = .ok (.putfield 137, 3) := by decide +kernel
theorem dX12_init_446 : decode cX12_init 446 = .ok (.aload_n 0, 1) := by decide +kernel
theorem dX12_init_447 : decode cX12_init 447 = .ok (.bipush 16, 2) := by decide +kernel
theorem dX12_init_449 : decode cX12_init 449 = .ok (.newarray .int, 2) := by decide +kernel
theorem dX12_init_451 : decode cX12_init 451 = .ok (.putfield 140, 3) := by decide +kernel
theorem dX12_init_454 : decode cX12_init 454 = .ok (.aload_n 0, 1) := by decide +kernel
theorem dX12_init_455 : decode cX12_init 455 = .ok (.bipush 16, 2) := by decide +kernel
theorem dX12_init_457 : decode cX12_init 457 = .ok (.newarray .int, 2) := by decide +kernel
theorem dX12_init_459 : decode cX12_init 459 = .ok (.putfield 143, 3) := by decide +kernel
theorem dX12_init_462 : decode cX12_init 462 = .ok (.aload_n 0, 1) := by decide +kernel
theorem dX12_init_463 : decode cX12_init 463 = .ok (.bipush 16, 2) := by decide +kernel
theorem dX12_init_465 : decode cX12_init 465 = .ok (.newarray .int, 2) := by decide +kernel
theorem dX12_init_467 : decode cX12_init 467 = .ok (.putfield 146, 3) := by decide +kernel
theorem dX12_init_470 : decode cX12_init 470 = .ok (.aload_n 0, 1) := by decide +kernel
theorem dX12_init_471 : decode cX12_init 471 = .ok (.bipush 7, 2) := by decide +kernel
theorem dX12_init_473 : decode cX12_init 473 = .ok (.newarray .int, 2) := by decide +kernel
theorem dX12_init_475 : decode cX12_init 475 = .ok (.putfield 149, 3) := by decide +kernel
theorem dX12_init_478 : decode cX12_init 478 = .ok (.aload_n 0, 1) := by decide +kernel
theorem dX12_init_479 : decode cX12_init 479 = .ok (.iconst 3, 1) := by decide +kernel
theorem dX12_init_480 : decode cX12_init 480 = .ok (.putfield 152, 3) := by decide +kernel
theorem dX12_init_483 : decode cX12_init 483 = .ok (.aload_n 0, 1) := by decide +kernel
theorem dX12_init_484 : decode cX12_init 484 = .ok (.bipush 60, 2) := by decide +kernel
theorem dX12_init_486 : decode cX12_init 486 = .ok (.newarray .int, 2) := by decide +kernel
theorem dX12_init_488 : decode cX12_init 488 = .ok (.putfield 156, 3) := by decide +kernel
theorem dX12_init_491 : decode cX12_init 491 = .ok (.aload_n 0, 1) := by decide +kernel
theorem dX12_init_492 : decode cX12_init 492 = .ok (.bipush 60, 2) := by decide +kernel
theorem dX12_init_494 : decode cX12_init 494 = .ok (.newarray .int, 2) := by decide +kernel
theorem dX12_init_496 : decode cX12_init 496 = .ok (.putfield 159, 3) := by decide +kernel
theorem dX12_init_499 : decode cX12_init 499 = .ok (.aload_n 0, 1) := by decide +kernel
theorem dX12_init_500 : decode cX12_init 500 = .ok (.bipush 60, 2) := by decide +kernel
theorem dX12_init_502 : decode cX12_init 502 = .ok (.newarray .boolean, 2) := by decide +kernel
theorem dX12_init_504 : decode cX12_init 504 = .ok (.putfield 162, 3) := by decide +kernel
theorem dX12_init_507 : decode cX12_init 507 = .ok (.aload_n 0, 1) := by decide +kernel
theorem dX12_init_508 : decode cX12_init 508 = .ok (.bipush 16, 2) := by decide +kernel
theorem dX12_init_510 : decode cX12_init 510 = .ok (.newarray .int, 2) := by decide +kernel
theorem dX12_init_512 : decode cX12_init 512 = .ok (.putfield 165, 3) := by decide +kernel
theorem dX12_init_515 : decode cX12_init 515 = .ok (.aload_n 0, 1) := by decide +kernel
theorem dX12_init_516 : decode cX12_init 516 = .ok (.getfield 52, 3) := by decide +kernel
theorem dX12_init_519 : decode cX12_init 519 = .ok (.iconst 0, 1) := by decide +kernel
theorem dX12_init_520 : decode cX12_init 520 = .ok (.iconst (-1), 1) := by decide +kernel
theorem dX12_init_521 : decode cX12_init 521 = .ok (.iastore, 1) := by decide +kernel
theorem dX12_init_522 : decode cX12_init 522 = .ok (.aload_n 0, 1) := by decide +kernel
theorem dX12_init_523 : decode cX12_init 523 = .ok (.getfield 52, 3) := by decide +kernel
theorem dX12_init_526 : decode cX12_init 526 = .ok (.iconst 1, 1) := by decide +kernel
theorem dX12_init_527 : decode cX12_init 527 = .ok (.iconst (-1), 1) := by decide +kernel
theorem dX12_init_528 : decode cX12_init 528 = .ok (.iastore, 1) := by decide +kernel
theorem dX12_init_529 : decode cX12_init 529 = .ok (.return_, 1) := by decide +kernel
theorem dJ7_fill_53178_0 : decode cJ7_fill_53178 0 = .ok (.iconst 0, 1) := by decide +kernel
theorem dJ7_fill_53178_1 : decode cJ7_fill_53178 1 = .ok (.istore_n 2, 1) := by decide +kernel
theorem dJ7_fill_53178_2 : decode cJ7_fill_53178 2 = .ok (.aload_n 0, 1) := by decide +kernel
theorem dJ7_fill_53178_3 : decode cJ7_fill_53178 3 = .ok (.arraylength, 1) := by decide +kernel
theorem dJ7_fill_53178_4 : decode cJ7_fill_53178 4 = .ok (.istore_n 3, 1) := by decide +kernel
theorem dJ7_fill_53178_5 : decode cJ7_fill_53178 5 = .ok (.iload_n 2, 1) := by decide +kernel
theorem dJ7_fill_53178_6 : decode cJ7_fill_53178 6 = .ok (.iload_n 3, 1) := by decide +kernel
theorem dJ7_fill_53178_7 : decode cJ7_fill_53178 7 = .ok (.if_icmp .ge 13, 3) := by decide +kernel
theorem dJ7_fill_53178_10 : decode cJ7_fill_53178 10 = .ok (.aload_n 0, 1) := by decide +kernel
theorem dJ7_fill_53178_11 : decode cJ7_fill_53178 11 = .ok (.iload_n 2, 1) := by decide +kernel
theorem dJ7_fill_53178_12 : decode cJ7_fill_53178 12 = .ok (.iload_n 1, 1) := by decide +kernel
theorem dJ7_fill_53178_13 : decode cJ7_fill_53178 13 = .ok (.iastore, 1) := by decide +kernel
theorem dJ7_fill_53178_14 : decode cJ7_fill_53178 14 = .ok (.iinc 2 1, 3) := by decide +kernel
theorem dJ7_fill_53178_17 : decode cJ7_fill_53178 17 = .ok (.goto (-12), 3) := by decide +kernel
theorem dJ7_fill_53178_20 : decode cJ7_fill_53178 20 = .ok (.return_, 1) := by decide +kernel
