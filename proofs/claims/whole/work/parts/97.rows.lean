/-! ROWS OF THE CONSTRUCTORS: what a constructor's frame knows, its world, a row an instruction -/
/-- the classes, and what the arrays of arrays are made of -/
def Rc (tc : Nat → ClassId) (U : State) : Prop := (∃ k : Class, U.vm.classes[tc 4]? = some k ∧ k.kind = .array (tc 0) (.array .int)) ∧ ∃ k : Class, U.vm.classes[tc 5]? = some k ∧ k.kind = .array (tc 3) (.array .short)
def Kk (D : va_G) (tc : Nat → ClassId) (U : State) : Prop := va_K D cl (tysl tc) U ∧ Rc tc U
theorem kk_moved {D : va_G} {tc : Nat → ClassId} {u U : State} (hvm : u.vm.Alike U.vm) (h : Kk D tc u) : Kk D tc U := by
  obtain ⟨h1, ⟨k4, a4, b4⟩, ⟨k5, a5, b5⟩⟩ := h
  obtain ⟨k4', c4, e4⟩ := hvm.2.2 _ _ a4
  obtain ⟨k5', c5, e5⟩ := hvm.2.2 _ _ a5
  exact ⟨va_K.moved hvm h1, ⟨k4', c4, by rw [e4]; exact b4⟩, ⟨k5', c5, by rw [e5]; exact b5⟩⟩
def Kx (p : Program) (s : State) (m : MethodId) (args : Array Value) (c : Code) (D : va_G) (tc : Nat → ClassId) (A : Nat → Prop) (cc : ByteArray) (nL oc : Nat) : Prop :=
  CallFix p m c cc nL s args tg (cn oc) ∧ Kk D tc s ∧ ∀ q, s.heap.size ≤ q → A q
def Kw (D : va_G) (A : Nat → Prop) (s : State) (ws : va_W) (H : Heap) (locs : List Loc) : Prop := va_P D cl ws H ∧ va_D A ws ∧ va_S A s.heap H locs
/-- the cells of an array of arrays: the outer one at q, the rows behind it -/
def mnw (q : Nat) (cA cR : ClassId) (N M : Nat) : va_W := (q, .inl (cA, N, .inr (.inr (.inr (.inr fun j => some (q + 1 + j)))))) :: (List.range N).map fun j => (q + 1 + j, .inl (cR, M, .inl fun _ => 0))
theorem mnw_row {q : Nat} {cA cR : ClassId} {N M i : Nat} {x : Nat × va_E} (h : (mnw q cA cR N M)[i + 1]? = some x) : i < N ∧ x = (q + 1 + i, .inl (cR, M, .inl fun _ => 0)) := by
  rw [mnw, List.getElem?_cons_succ, List.getElem?_map] at h
  by_cases hi : i < N
  · rw [List.getElem?_range hi] at h
    exact ⟨hi, (Option.some.inj h).symm⟩
  · rw [List.getElem?_eq_none (by simpa using hi)] at h
    cases h
theorem mnw_ad {q : Nat} {cA cR : ClassId} {N M i : Nat} {x : Nat × va_E} (h : (mnw q cA cR N M)[i]? = some x) : x.1 = q + i := by
  cases i with
  | zero => cases h; rfl
  | succ i => rw [(mnw_row h).2]; show q + 1 + i = _; omega
/-- a call's cell goes, what it came to comes -/
theorem kx_join {A : Nat → Prop} {D : va_G} {ws w1 : va_W} {x : Nat × va_E} {H H1 : Heap} (hP : va_P D cl (ws ++ [x]) H) (hD : va_D A (ws ++ [x])) (hk : ∀ q : Nat, q < H.size → ¬ va_A [x] H.size q → H1[q]? = H[q]?) (hF : ∀ q, va_A [x] H.size q → A q) (hP1 : va_P D cl w1 H1) (hD1 : va_D (va_A [x] H.size) w1) : va_P D cl (ws ++ w1) H1 ∧ va_D A (ws ++ w1) := by
  have hin : ∀ (k : Nat) (y : Nat × va_E), ws[k]? = some y → k < ws.length ∧ (ws ++ [x])[k]? = some y := fun k y hy => by
    have hlt := (List.getElem?_eq_some_iff.mp hy).1
    exact ⟨hlt, by rw [List.getElem?_append_left hlt]; exact hy⟩
  have hx : (ws ++ [x])[ws.length]? = some x := by simp
  have apart : ∀ (k : Nat) (y : Nat × va_E), ws[k]? = some y → y.1 < H.size ∧ ¬ va_A [x] H.size y.1 := by
    intro k y hy
    obtain ⟨h1, h2⟩ := hin k y hy
    have hl := (hP k y h2).lt
    refine ⟨hl, fun h => ?_⟩
    rcases h with ⟨k2, e, h⟩ | h
    · cases k2 with
      | zero =>
        have e1 : x = (y.1, e) := Option.some.inj h
        have := hD.1 k ws.length y x h2 hx (by rw [e1])
        omega
      | succ k2 => cases h
    · omega
  refine ⟨va_P.app (fun k y hy => ?_) hP1, va_D.app ⟨fun i j y z hy hz e => hD.1 i j y z (hin i y hy).2 (hin j z hz).2 e, fun k y hy => hD.2 k y (hin k y hy).2⟩ (hD1.weaken (fun k y _ h => hF y.1 h)) (fun i j y z hy hz e => ?_)⟩
  · obtain ⟨g1, g2⟩ := apart k y hy
    exact (hP k y (hin k y hy).2).kept (hk y.1 g1 g2)
  · exact (apart i y hy).2 (by rw [e]; exact hD1.2 j z hz)
theorem tyF_def {t0 : Nat} (ht : t0 < 4) : defaultValue (tyF t0) = .int 0 ∧ componentBytes (tyF t0) ≤ 8 ∧ fits (tyF t0) (defaultValue (tyF t0)) = true ∧ (defaultValue (tyF t0)).isDefault = true := by
  rcases (show t0 = 0 ∨ t0 = 1 ∨ t0 = 2 ∨ t0 = 3 by omega) with rfl | rfl | rfl | rfl <;> exact ⟨rfl, by decide, rfl, rfl⟩
theorem tyF_nm {s : State} {D : va_G} {tc : Nat → ClassId} (hK : va_K D cl (tysl tc) s) {t0 : Nat} (ht : t0 < 6) : s.vm.findClass ("[" ++ (tyF t0).toString) = some (tc t0) := by
  have h2 := (hK.2 t0 _ (tysl_at ht)).2
  rcases (show t0 = 0 ∨ t0 = 1 ∨ t0 = 2 ∨ t0 = 3 ∨ t0 = 4 ∨ t0 = 5 by omega) with rfl | rfl | rfl | rfl | rfl | rfl <;> exact h2
section
variable {p : Program} {l : Launch} {e : Env} {R : Room} {s : State} {m : MethodId} {args : Array Value} {below : List Frame} {meth : Method} {c : Code} {H : Heap} {locs : List Loc} {cells slots : Nat} {Q : State → Prop}
variable {D : va_G} {tc : Nat → ClassId} {A : Nat → Prop} {cc : ByteArray} {nL oc pc : Nat} {ls : Array Slot} {rest : List Value} {ws : va_W} {x0 : Nat × va_E}
/-- newarray -/
theorem kx_arr {atype : ArrayType} (t0 N : Nat) {n : Int32} (C : Kx p s m args c D tc A cc nL oc) (hw : Kw D A s (x0 :: ws) H locs) (harr : Cond.arrayClass (tyF t0) ∈ tg) (hty : newarray.typeOf atype = tyF t0) (ht : t0 < 4) (hn : ¬ n < 0) (hN : n.toNatClampNeg = N) (hN1 : N ≤ 1000) (hcells : cells + 1 ≤ R.cells) (hslots : slots + N ≤ R.slots) (hdg : decode cc pc = .ok (.newarray atype, 2))
    (kk : ∀ (q : Nat) (H1 : Heap), Kw D A s (x0 :: (ws ++ [(q, .inl (tc t0, N, .inl fun _ => 0))])) H1 locs → W p l e R s m args below meth c H1 locs (cells + 1) (slots + N) Q (F0 m (pc + 2) ls (.ref q :: rest))) : W p l e R s m args below meth c H locs cells slots Q (F0 m pc ls (.int n :: rest)) := by
  obtain ⟨⟨hx, hb, hml, hown, hts⟩, ⟨hK, -⟩, hA⟩ := C
  obtain ⟨hP, hD, hS⟩ := hw
  obtain ⟨d1, d2, -, -⟩ := tyF_def ht
  refine va_newaK hx hb (atype := atype) (by rw [hty]; exact hts _ harr) rfl hdg rfl hn hN ?_ hcells hslots rfl fun H1 cA e1 z1 o1 hAr hNm => ?_
  · rw [hty]
    have := Nat.mul_le_mul hN1 d2
    omega
  · rw [hty] at hNm e1
    have hcA : cA = tc t0 := Option.some.inj (hNm.symm.trans (tyF_nm hK (by omega)))
    subst hcA
    rw [d1] at e1
    have hk : ∀ (k : Nat) (y : Nat × va_E), (x0 :: ws)[k]? = some y → H1[y.1]? = H[y.1]? := fun k y hy => o1 y.1 ((hP k y hy).lt)
    refine kk H.size H1 ⟨(hP.kept hk).app (fun k y hy => ?_), hD.push hP rfl (hA _ hS.1), ⟨Nat.le_trans hS.1 (by omega), fun y h1 h2 => (o1 y (Nat.lt_of_lt_of_le h1 hS.1)).trans (hS.2.1 y h1 h2), hS.2.2⟩⟩
    cases k with
    | zero => cases hy; exact e1
    | succ k => cases hy
/-- multianewarray of two counts -/
theorem kx_multi {ty : FieldType} (t0 t1 N M : Nat) {C0 : String} {index : Nat} {n mm : Int32} (C : Kx p s m args c D tc A cc nL oc) (hw : Kw D A s (x0 :: ws) H locs) (hRc : ∃ k : Class, s.vm.classes[tc t1]? = some k ∧ k.kind = .array (tc t0) (.array ty)) (hclink : Cond.classLink (cn oc) index C0 ∈ tg) (hC : C0 = "[" ++ (FieldType.array ty).toString) (h0 : tyF t0 = ty) (h1 : tyF t1 = .array ty) (ht0 : t0 < 4) (ht1 : t1 < 6) (hn : ¬ n < 0) (hnN : n.toNatClampNeg = N) (hN : N ≤ 1000) (hm : ¬ mm < 0) (hmM : mm.toNatClampNeg = M) (hM : M ≤ 1000) (hcells : cells + (1 + N) ≤ R.cells) (hslots : slots + (N + N * M) ≤ R.slots) (hdg : decode cc pc = .ok (.multianewarray index 2, 4))
    (kk : ∀ (q : Nat) (H1 : Heap) (locs1 : List Loc), Kw D A s (x0 :: (ws ++ mnw q (tc t1) (tc t0) N M)) H1 locs1 → W p l e R s m args below meth c H1 locs1 (cells + (1 + N)) (slots + (N + N * M)) Q (F0 m (pc + 4) ls (.ref q :: rest))) : W p l e R s m args below meth c H locs cells slots Q (F0 m pc ls (.int mm :: .int n :: rest)) := by
  obtain ⟨⟨hx, hb, hml, hown, hts⟩, ⟨hK, -⟩, hA⟩ := C
  obtain ⟨hP, hD, hS⟩ := hw
  obtain ⟨kA, hkA, hkindA⟩ := hRc
  have hnameA := tyF_nm hK ht1
  rw [h1] at hnameA
  obtain ⟨-, kR, hkR, c0, hkindR⟩ := (hK.2 t0 _ (tysl_at (by omega))).1 0 (fun _ => .null)
  dsimp only at hkindR
  rw [h0] at hkindR
  obtain ⟨d1, d2, d3, d4⟩ := tyF_def ht0
  rw [h0] at d1 d2 d3 d4
  refine mn_W hx hb hown (hts _ hclink) (by rw [hC]; exact hnameA) hkA hkindA (fun _ => rfl) rfl (by show 4 ≤ 8; omega) hkR hkindR hn hnN hN hm hmM hM d2 d3 d4 hcells hslots hdg fun H1 L hL z c1 c2 c3 => ?_
  rw [d1] at c2
  have hk : ∀ (k : Nat) (y : Nat × va_E), (x0 :: ws)[k]? = some y → H1[y.1]? = H[y.1]? := fun k y hy => c3 y.1 ((hP k y hy).lt)
  have hP2 : va_P D cl (mnw H.size (tc t1) (tc t0) N M) H1 := by
    intro k y hy
    cases k with
    | zero =>
      cases hy
      exact c1
    | succ k =>
      obtain ⟨hkN, rfl⟩ := mnw_row hy
      exact c2 k hkN
  have hD2 : va_D A (mnw H.size (tc t1) (tc t0) N M) := by
    refine ⟨fun i j y z hy hz e => ?_, fun k y hy => hA _ ?_⟩
    · rw [mnw_ad hy, mnw_ad hz] at e
      omega
    · rw [mnw_ad hy]
      have := hS.1
      omega
  refine kk H.size H1 (locs ++ L) ⟨(hP.kept hk).app hP2, hD.app hD2 (fun i j y z hy hz e => ?_), ⟨by have := hS.1; omega, fun y h3 h4 => (c3 y (Nat.lt_of_lt_of_le h3 hS.1)).trans (hS.2.1 y h3 h4), fun q hq => ?_⟩⟩
  · have := (hP i y hy).lt
    rw [e, mnw_ad hz] at this
    omega
  · rcases List.mem_append.mp hq with h | h
    · exact hS.2.2 q h
    · rw [hL q h]
      exact hA _ hS.1
/-- putfield into the object that is made -/
theorem kx_put {index ci : Nat} {a : Nat} {fs : List Value} {q : vw_C} (k : Nat) {ty : FieldType} {v : Value} (C : Kx p s m args c D tc A cc nL oc) (hin2 : meth.name = "<init>") (hfl : fs.length = q.2.2) (hw : Kw D A s ((a, .inr (ci, fs)) :: ws) H locs) (hc : cl[ci]? = some q) (hlk : Cond.fieldLink (cn oc) index q.1 (q.2.1 k).2.1 (q.2.1 k).2.2.1 ∈ tg) (hk : k < q.2.2) (hd1 : (q.2.1 k).1 = q.1) (hd2 : cn oc = q.1) (hd : parseFieldDescriptor (q.2.1 k).2.2.1 = some ty) (hn : narrow ty v = v) (hfit : fits ty v = true) (hdg : decode cc pc = .ok (.putfield index, 3))
    (kk : ∀ (H1 : Heap) (locs1 : List Loc), (fs.set k v).length = q.2.2 → Kw D A s ((a, .inr (ci, fs.set k v)) :: ws) H1 locs1 → W p l e R s m args below meth c H1 locs1 cells slots Q (F0 m (pc + 3) ls rest)) : W p l e R s m args below meth c H locs cells slots Q (F0 m pc ls (v :: .ref a :: rest)) := by
  obtain ⟨⟨hx, hb, hml, hown, hts⟩, ⟨hK, -⟩, hA⟩ := C
  obtain ⟨hP, hD, hS⟩ := hw
  obtain ⟨hin, ⟨ty0, hty⟩, hnm, -⟩ := clsP_of hc
  cases hf : (q.2.1 k).2.2.2 with
  | false => exact va_put (C := q.1) (T := q.2.1) (N := q.2.2) (ref := q.1) hx hb hts hin ty0 hty hnm hown hK hP hD hS 0 rfl hc k hk (hts _ hlk) (by rw [hd1]; exact fun _ z => z) hf hd hn hfit (by rw [hfl]; exact hk) hdg fun H1 locs1 h1 h2 h3 => kk H1 locs1 (by rw [List.length_set]; exact hfl) ⟨h1, h2, h3⟩
  | true => exact va_putF (C := q.1) (T := q.2.1) (N := q.2.2) (ref := q.1) hx hb hts hin ty0 hty hnm hown hK hP hD hS 0 rfl hc k hk (hts _ hlk) (by rw [hd1]; exact fun _ z => z) hf hin2 (hd1.trans hd2.symm) hd hn hfit (by rw [hfl]; exact hk) hdg fun H1 locs1 h1 h2 h3 => kk H1 locs1 (by rw [List.length_set]; exact hfl) ⟨h1, h2, h3⟩
/-- getfield of the object that is made -/
theorem kx_get {index ci : Nat} {a : Nat} {fs : List Value} {q : vw_C} (k : Nat) {v : Value} (C : Kx p s m args c D tc A cc nL oc) (hw : Kw D A s ((a, .inr (ci, fs)) :: ws) H locs) (hc : cl[ci]? = some q) (hlk : Cond.fieldLink (cn oc) index q.1 (q.2.1 k).2.1 (q.2.1 k).2.2.1 ∈ tg) (hk : k < q.2.2) (hv : fs[k]? = some v) (hd1 : (q.2.1 k).1 = q.1) (hdg : decode cc pc = .ok (.getfield index, 3))
    (kk : W p l e R s m args below meth c H locs cells slots Q (F0 m (pc + 3) ls (v :: rest))) : W p l e R s m args below meth c H locs cells slots Q (F0 m pc ls (.ref a :: rest)) := by
  obtain ⟨⟨hx, hb, hml, hown, hts⟩, ⟨hK, -⟩, hA⟩ := C
  obtain ⟨hin, -, -, -⟩ := clsP_of hc
  exact va_get (C := q.1) (T := q.2.1) (N := q.2.2) (ref := q.1) hx hb hts hin hown hK hw.1 0 rfl hc k hk (hts _ hlk) (by rw [hd1]; exact fun _ z => z) hv hdg kk
/-- iastore, the array at any place of the world -/
theorem kx_iast (q0 : Nat) {a n : Nat} {f : Nat → Int32} {i x : Int32} (C : Kx p s m args c D tc A cc nL oc) (hw : Kw D A s ws H locs) (ha : ws[q0]? = some (a, .inl (tc 0, n, .inl f))) (hin : vp_in i n) (hdg : decode cc pc = .ok (.iastore, 1))
    (kk : ∀ (H1 : Heap) (locs1 : List Loc), Kw D A s (ws.set q0 (a, .inl (tc 0, n, .inl (upd f i.toNatClampNeg x)))) H1 locs1 → W p l e R s m args below meth c H1 locs1 cells slots Q (F0 m (pc + 1) ls rest)) : W p l e R s m args below meth c H locs cells slots Q (F0 m pc ls (.int x :: .int i :: .ref a :: rest)) := by
  obtain ⟨⟨hx, hb, hml, hown, hts⟩, ⟨hK, -⟩, hA⟩ := C
  exact va_iast hx hb hK hw.1 hw.2.1 hw.2.2 q0 0 ha rfl hin hdg fun H1 locs1 h1 h2 h3 => kk H1 locs1 ⟨h1, h2, h3⟩
/-- iastore into the youngest array -/
theorem kx_iastL {a n : Nat} {f : Nat → Int32} {i x : Int32} (C : Kx p s m args c D tc A cc nL oc) (hw : Kw D A s (x0 :: (ws ++ [(a, .inl (tc 0, n, .inl f))])) H locs) (hin : vp_in i n) (hdg : decode cc pc = .ok (.iastore, 1))
    (kk : ∀ (H1 : Heap) (locs1 : List Loc), Kw D A s (x0 :: (ws ++ [(a, .inl (tc 0, n, .inl (upd f i.toNatClampNeg x)))])) H1 locs1 → W p l e R s m args below meth c H1 locs1 cells slots Q (F0 m (pc + 1) ls rest)) : W p l e R s m args below meth c H locs cells slots Q (F0 m pc ls (.int x :: .int i :: .ref a :: rest)) := by
  refine kx_iast (ws.length + 1) (n := n) (f := f) C hw (by simp) hin hdg fun H1 locs1 h => kk H1 locs1 ?_
  rw [List.set_cons_succ, List.set_append_right _ _ (Nat.le_refl _), Nat.sub_self] at h
  exact h
/-- new -/
theorem kx_new {index ci : Nat} {fs : List Value} {q : vw_C} (ty : Nat → FieldType) (hty : ∀ k, k < q.2.2 → parseFieldDescriptor (q.2.1 k).2.2.1 = some (ty k)) (C : Kx p s m args c D tc A cc nL oc) (hw : Kw D A s ws H locs) (hc : cl[ci]? = some q) (hcl : Cond.classLink (cn oc) index q.1 ∈ tg) (hinst : Cond.instantiable q.1 q.2.2 ∈ tg) (hini : Cond.initialized q.1 ∈ tg) (hfs : ∀ j, j < q.2.2 → defaultValue (ty j) = vp_V fs j) (hcells : cells + 1 ≤ R.cells) (hslots : slots + q.2.2 ≤ R.slots) (hdg : decode cc pc = .ok (.new index, 3))
    (kk : ∀ (a : Nat) (H1 : Heap), Kw D A s (ws ++ [(a, .inr (ci, fs))]) H1 locs → W p l e R s m args below meth c H1 locs (cells + 1) (slots + q.2.2) Q (F0 m (pc + 3) ls (.ref a :: rest))) : W p l e R s m args below meth c H locs cells slots Q (F0 m pc ls rest) := by
  obtain ⟨⟨hx, hb, hml, hown, hts⟩, ⟨hK, -⟩, hA⟩ := C
  obtain ⟨hin, -, -, -⟩ := clsP_of hc
  exact va_new (C := q.1) (T := q.2.1) (N := q.2.2) hx hb hts hin ty hty hown (hts _ hcl) (hts _ hinst) (hts _ hini) hK hw.1 hw.2.1 hw.2.2 hA hc hfs hcells hslots hdg fun a H1 h1 h2 h3 => kk a H1 ⟨h1, h2, h3⟩
/-- a constructor's contract: the object a, blank, becomes a world -/
def Ci (l : Launch) (D : va_G) (tc : Nat → ClassId) (y : MethodName) (code : ByteArray) (maxL ci : Nat) (bl av : List Value) (rm : Room) (post : Nat → va_W → Prop) : Prop :=
  ∀ (a sz : Nat), Met l y (.code y code maxL none :: tg) rm (va_Pc (.ref a :: av) (fun U => U.heap.size = sz ∧ va_P D cl [(a, .inr (ci, bl))] U.heap ∧ Kk D tc U))
    (va_Qv (post a) (fun w t => va_P D cl w t.heap ∧ va_D (va_A [(a, .inr (ci, bl))] sz) w) (va_A [(a, .inr (ci, bl))] sz)) rm.cells rm.slots (va_A [(a, .inr (ci, bl))] sz)
theorem good_cd {y : MethodName} {code : ByteArray} {maxL : Nat} {ret : Option FieldType} (h : Cond.code y code maxL ret ∈ tg) : GoodIn tg (.code y code maxL ret :: tg) := by
  intro w hw
  rcases List.mem_cons.mp hw with rfl | hw
  · exact ⟨h, good_of_word rfl⟩
  · exact ⟨hw, good_of_word (List.mem_filter.mp hw).2⟩
/-- invokespecial of a constructor, over the youngest object -/
theorem kx_init {y : MethodName} {code : ByteArray} {maxL ci a index : Nat} {bl av : List Value} {rm : Room} {post : Nat → va_W → Prop} (C : Kx p s m args c D tc A cc nL oc) (hls : ls.size = nL) (hw : Kw D A s (ws ++ [(a, .inr (ci, bl))]) H locs) (hM : Ci l D tc y code maxL ci bl av rm post) (hcd : Cond.code y code maxL none ∈ tg) (hini : Cond.initialized y.cls ∈ tg) (hlk : Cond.methodLink (cn oc) index y ∈ tg) (him : Cond.instanceMethod y ∈ tg) (hy : y.name = "<init>") (hd : y.cls ≠ "java/lang/invoke/MethodHandle" ∧ y.cls ≠ "java/lang/invoke/VarHandle" ∧ (parseMethodDescriptor y.desc).map (fun d => d.parameters.length) = some av.length) (hR : rm.frames + 1 ≤ R.frames ∧ 8 + (maxL + 11) + rm.locals ≤ R.locals) (hrest : (rest.map fun v => v.category).sum ≤ 8) (hf : cells + rm.cells ≤ R.cells ∧ slots + rm.slots ≤ R.slots) (hdg : decode cc pc = .ok (.invokespecial index, 3))
    (kk : ∀ (w1 : va_W) (H1 : Heap) (locs1 : List Loc), post a w1 → Kw D A s (ws ++ w1) H1 locs1 → W p l e R s m args below meth c H1 locs1 (cells + rm.cells) (slots + rm.slots) Q (F0 m (pc + 3) ls rest)) : W p l e R s m args below meth c H locs cells slots Q (F0 m pc ls (av.reverse ++ .ref a :: rest)) := by
  obtain ⟨hfix, hK, hA⟩ := C
  obtain ⟨hP, hD, hS⟩ := hw
  have hts := hfix.2.2.2.2
  have hx : (ws ++ [(a, .inr (ci, bl))])[ws.length]? = some (a, (.inr (ci, bl) : va_E)) := by simp
  have hPc : va_P D cl [(a, .inr (ci, bl))] H := by
    intro k y hy
    cases k with
    | zero => cases hy; exact hP _ _ hx
    | succ k => cases hy
  have hFc := va_free (wc := [(a, .inr (ci, bl))]) hD hS hA [ws.length] (by simp)
  refine va_callv (va_runI (As := av) (rest := rest) hfix (hM a H.size) (cwI av.length hts (good_cd hcd) rfl rfl rfl (hts _ hini) (hts _ hlk) (hts _ him) hy hd hR) ⟨fun v U g mk q => by obtain ⟨q0, q1, qP, qK⟩ := q; exact ⟨q0, q1, qP, kk_moved (u := U) (U := U.calling g mk v) (Vm.Alike.refl U.vm) qK⟩, fun U hU hW => ⟨rfl, by rw [hU], by rw [hU]; exact hPc, kk_moved hW.alike hK⟩⟩ rfl rfl hls rfl (lv_room hrest) hdg hf) hS (fun q _ h => hFc q h) hFc (fun w1 t H1 locs1 ht hvm hpost hB hz1 hk1 hS1 => ?_)
  obtain ⟨hP1, hD1⟩ := hB
  rw [ht] at hP1
  obtain ⟨hP2, hD2⟩ := kx_join hP hD hk1 hFc hP1 hD1
  exact kk w1 H1 locs1 hpost ⟨hP2, hD2, hS1⟩
/-- Object's own constructor -/
theorem kx_obj {a index : Nat} (C : Kx p s m args c D tc A cc nL oc) (hls : ls.size = nL) (hlk : Cond.methodLink (cn oc) index objectInit ∈ tg) (him : Cond.instanceMethod objectInit ∈ tg) (hcd : Cond.code objectInit ⟨#[0xb1]⟩ 1 none ∈ tg) (hR : 1 ≤ R.frames ∧ 12 ≤ R.locals) (hdg : decode cc pc = .ok (.invokespecial index, 3))
    (kk : W p l e R s m args below meth c H locs cells slots Q (F0 m (pc + 3) ls [])) : W p l e R s m args below meth c H locs cells slots Q (F0 m pc ls [.ref a]) := by
  obtain ⟨⟨hx, hb, hml, hown, hts⟩, -, -⟩ := C
  refine W.objInit hx hb hown (hts _ hlk) (hts _ him) (hts _ hcd) rfl (by rw [hml]; exact hls) rfl hdg hR.1 ?_ kk
  show 2 * 0 + 0 + 12 ≤ R.locals
  omega
end
/-- a constructor's contract out of its walk -/
theorem ct_of {l : Launch} {D : va_G} {tc : Nat → ClassId} {y : MethodName} {code : ByteArray} {maxL oc : Nat} {bl av : List Value} {rm : Room} {post : Nat → va_W → Prop} (hy : plainName y.cls = true) (hcls : y.cls = cn oc) (hyn : y.name = "<init>") (hlen : (lg_sl (.ref 0 :: av)).length ≤ maxL)
    (body : ∀ (p : Program) (e : Env) (s : State) (m : MethodId) (args : Array Value) (below : List Frame) (meth : Method) (c : Code) (QF : State → Prop) (A : Nat → Prop) (a : Nat) (ls : Array Slot), Kx p s m args c D tc A code maxL oc → meth.name = "<init>" → lv_has ls maxL (lv_args 0 (.ref a :: av)) → Kw D A s [(a, .inr (oc, bl))] s.heap [] →
      (∀ (pc : Nat) (H : Heap) (locs : List Loc) (ls : Array Slot) (w : va_W), decode code pc = .ok (.return_, 1) → post a w → Kw D A s w H locs → W p l e rm s m args below meth c H locs rm.cells rm.slots QF (F0 m pc ls [])) → W p l e rm s m args below meth c s.heap [] 0 0 QF (F0 m 0 ls [])) : Ci l D tc y code maxL oc bl av rm post := by
  intro a sz
  refine Met.ofW (cc := code) (maxL := maxL) (ret := none) hy rfl ?_
  intro p e s m args below meth c s₁ B hml hv
  obtain ⟨rfl, hsz, hP, hK⟩ := hv
  subst hsz
  have hts := atoms_spec (ws := .code y code maxL none :: tg) B.pre
  have hD0 : va_D (va_A [(a, (.inr (oc, bl) : va_E))] s.heap.size) [(a, (.inr (oc, bl) : va_E))] := by
    refine ⟨fun i j x z hx hz _ => ?_, fun k x hx => va_A.in hx⟩
    cases i with
    | zero => cases j with
      | zero => rfl
      | succ j => cases hz
    | succ i => cases hx
  have hl := lv_entry (.ref a :: av) (n := maxL) hlen
  rw [lg_entry_eq]
  refine body p e s m _ below meth c _ (va_A [(a, (.inr (oc, bl) : va_E))] s.heap.size) a _ ⟨⟨B.exec, B.bytes, hml, by rw [← hcls]; exact findClass_of_methodNamed B.named, fun w hw => hts w (List.mem_cons_of_mem _ hw)⟩, hK, fun q h => Or.inr h⟩ ((name_of_methodNamed B.named B.method).1.trans hyn) hl ⟨hP, hD0, va_S.rf⟩ ?_
  intro pc H locs ls w hd hpost hw
  exact W.vret B.exec B.bytes B.returns (fun t ht hW => ⟨⟨w, rfl, hpost, by rw [ht]; exact hw.1, hw.2.1⟩, hw.2.2.F ht⟩) hw.2.2.2.2 hd B.notSynchronized
