/-! AN ARRAY OF ARRAYS IS MADE: multianewarray of two counts, in a state that stands -/
section
variable {p : Program} {l : Launch} {e : Env} {R : Room} {s : State} {m : MethodId} {args : Array Value} {below : List Frame} {meth : Method} {c : Code} {T : State} {locs : List Loc} {cells slots : Nat}
theorem mn_same {cA : ClassId} {N : Nat} {f g : Nat → Value} (h : ∀ j, j < N → f j = g j) : arrV cA N f = arrV cA N g := by
  unfold arrV
  rw [show (fun j : Fin N => f j.val) = (fun j : Fin N => g j.val) from funext fun j => h j.val j.isLt]
/-- one new array, every place alike -/
theorem mn_arr (X : Stand p l e R s m args below meth c T locs cells slots) {cA comp : ClassId} {kA : Class} {ty : FieldType} {N : Nat} {v : Value} (hk : s.vm.classes[cA]? = some kA) (hkind : kA.kind = .array comp ty) (hN : N ≤ 1000) (hcb : componentBytes ty ≤ 8) (hf : fits ty v = true) (hd : v.isDefault = true)
    (hcells : cells + 1 ≤ R.cells) (hslots : slots + N ≤ R.slots) (g : JFrame) {E : CtlPost} {d : Bool} {acts : List Action} {Q : Addr → Pre}
    (hq : Q T.heap.size d acts ((T.pushCell { cls := cA, slots := Array.replicate N v, vm := .none }).setTop g)) : wp (Jvm.newArray cA N v) Q E e d acts (T.setTop g) := by
  obtain ⟨k1, hk1, he⟩ := X.warmed.alike.2.2 _ _ hk
  have hkind1 : k1.kind = .array comp ty := by rw [he]; exact hkind
  have hNb : N * componentBytes ty ≤ 1000 * 8 := Nat.mul_le_mul hN hcb
  have hlim : ¬ N > e.platform.arrayLengthLimit := by rw [Launch.admits_arrayLengthLimit X.admits]; omega
  have hheap : ¬ N * componentBytes ty > e.platform.maxHeapBytes := by rw [Launch.admits_maxHeapBytes X.admits]; omega
  obtain ⟨r1, r2⟩ := X.roomAbove hcells hslots
  have hfit : ∀ i x, (Array.replicate N v)[i]? = some x → T.fitsSlot cA .none i x = true := by
    intro i x hx
    rw [Array.getElem?_replicate] at hx
    split at hx
    · cases hx
      simp [State.fitsSlot, State.slotType?, hk1, hkind1, hf]
    · cases hx
  have hact : allocActs (Array.replicate N v) T.heap.size acts = acts := by
    unfold allocActs
    rw [if_pos]
    rw [Array.all_replicate]
    split <;> simp [hd]
  simp only [Jvm.newArray, Jvm.arrayFits, wp_bind', Jvm.W.ask, Jvm.W.ite, hlim, if_false, wp_pure', Jvm.W.theClass, State.vm_setTop, hk1, hkind1, hheap, Jvm.W.alloc, Jvm.W.stop, Option.some.injEq, exists_eq_left', Array.size_replicate, State.heap_setTop, State.slotsUsed_setTop, State.fitsSlot_setTop, State.pushCell_setTop, hact]
  rw [if_neg (by omega)]
  exact ⟨by omega, by omega, hfit, hq⟩
/-- the rows, from place i on, k of them -/
theorem mn_loop {a : Nat} {cA cR c0 : ClassId} {kA kR : Class} {tA ty : FieldType} {N M : Nat} {mm : Int32} (hkA : s.vm.classes[cA]? = some kA) (hkindA : kA.kind = .array cR tA) (htA : ∀ x : Addr, fits tA (.ref x) = true) (hkR : s.vm.classes[cR]? = some kR) (hkindR : kR.kind = .array c0 ty) (hm : ¬ mm < 0) (hmM : mm.toNatClampNeg = M) (hM : M ≤ 1000) (hcb : componentBytes ty ≤ 8) (hf : fits ty (defaultValue ty) = true) (hd : (defaultValue ty).isDefault = true)
    (g : JFrame) (f : Nat → PUnit → Sem (ForInStep PUnit)) (hfb : ∀ i u, f i u = (multianewarray.make cR [mm] >>= fun x => Jvm.writeLoc a i (.ref x) >>= fun _ => Pure.pure (ForInStep.yield PUnit.unit))) :
    ∀ (k i : Nat) (T : State) (locs : List Loc) (cells slots : Nat) (F : Nat → Value), Stand p l e R s m args below meth c T locs cells slots → T.heap[a]? = some (arrV cA N F) → i + k ≤ N → cells + k ≤ R.cells → slots + k * M ≤ R.slots →
      ∃ (U : State) (L : List Loc), Stand p l e R s m args below meth c U (locs ++ L) (cells + k) (slots + k * M) ∧ (∀ q ∈ L, q.base = a) ∧ U.heap.size = T.heap.size + k ∧ U.heap[a]? = some (arrV cA N (fun j => if i ≤ j ∧ j < i + k then .ref (T.heap.size + (j - i)) else F j)) ∧
        (∀ j, j < k → U.heap[T.heap.size + j]? = some (arrV cR M (fun _ => defaultValue ty))) ∧ (∀ q, q < T.heap.size → q ≠ a → U.heap[q]? = T.heap[q]?) ∧
        ∀ (E : CtlPost) (d : Bool) (acts : List Action) (Q : PUnit → Pre), (∀ d' acts', Q PUnit.unit d' acts' (U.setTop g)) → wp (forIn (List.range' i k 1) PUnit.unit f) Q E e d acts (T.setTop g) := by
  intro k
  induction k with
  | zero =>
    intro i T locs cells slots F X hc hi h1 h2
    refine ⟨T, [], by simpa using X, (fun q hq => by cases hq), rfl, ?_, (fun j hj => absurd hj (Nat.not_lt_zero j)), (fun _ _ _ => rfl), fun E d acts Q hq => ?_⟩
    · rw [hc]
      exact congrArg some (mn_same fun j _ => by rw [if_neg (by omega)])
    · simp only [List.range'_zero, List.forIn_nil, wp_pure']
      exact hq _ _
  | succ k ih =>
    intro i T locs cells slots F X hc hi h1 h2
    have ha : a < T.heap.size := (Array.getElem?_eq_some_iff.mp hc).1
    have hmul : (k + 1) * M = k * M + M := Nat.succ_mul k M
    have X1 := X.pushed { cls := cR, slots := Array.replicate M (defaultValue ty), vm := .none }
    have hc1 : (T.pushCell { cls := cR, slots := Array.replicate M (defaultValue ty), vm := .none }).heap[a]? = some (arrV cA N F) := by rw [State.heap_pushCell_of_lt (h := ha)]; exact hc
    have X2 := X1.stored hc1 i (.ref T.heap.size)
    rw [Array.size_replicate] at X2
    rw [arrV_store] at X2
    generalize hT1 : T.pushCell { cls := cR, slots := Array.replicate M (defaultValue ty), vm := .none } = T1 at X1 X2 hc1
    have hz1 : T1.heap.size = T.heap.size + 1 := by rw [← hT1]; simp
    have hn1 : T1.heap[T.heap.size]? = some (arrV cR M (fun _ => defaultValue ty)) := by rw [← hT1, ← arrV_new]; exact State.heap_pushCell_size _ _
    have ho1 : ∀ q, q < T.heap.size → T1.heap[q]? = T.heap[q]? := fun q hq => by rw [← hT1]; exact State.heap_pushCell_of_lt _ _ hq
    have ha1 : a < T1.heap.size := by omega
    generalize hT2 : T1.setCell a (arrV cA N (updV F i (.ref T.heap.size))) = T2 at X2
    have hz2 : T2.heap.size = T.heap.size + 1 := by rw [← hT2, size_setCell, hz1]
    have hc2 : T2.heap[a]? = some (arrV cA N (updV F i (.ref T.heap.size))) := by rw [← hT2]; exact heapAt_setCell_self _ ha1
    have ho2 : ∀ q, q ≠ a → T2.heap[q]? = T1.heap[q]? := fun q hq => by rw [← hT2]; exact heapAt_setCell_ne _ (Ne.symm hq)
    obtain ⟨U, L, XU, hL, z, w1, w2, w3, hwp⟩ := ih (i + 1) T2 (locs ++ [⟨a, i⟩]) (cells + 1) (slots + M) (updV F i (.ref T.heap.size)) X2 hc2 (by omega) (by omega) (by omega)
    refine ⟨U, ⟨a, i⟩ :: L, ?_, ?_, by omega, ?_, ?_, ?_, fun E d acts Q hq => ?_⟩
    · rw [show locs ++ ⟨a, i⟩ :: L = locs ++ [⟨a, i⟩] ++ L by simp, show cells + (k + 1) = cells + 1 + k by omega, show slots + (k + 1) * M = slots + M + k * M by omega]
      exact XU
    · intro q hq
      rcases List.mem_cons.mp hq with rfl | hq
      · rfl
      · exact hL q hq
    · rw [w1]
      refine congrArg some (mn_same fun j _ => ?_)
      by_cases e1 : j = i
      · subst e1
        rw [if_neg (by omega), if_pos (by omega), show T.heap.size + (j - j) = T.heap.size by omega]
        simp [updV]
      · by_cases e2 : i ≤ j ∧ j < i + (k + 1)
        · rw [if_pos (by omega), if_pos e2, hz2, show T.heap.size + 1 + (j - (i + 1)) = T.heap.size + (j - i) by omega]
        · rw [if_neg (by omega), if_neg e2]
          simp [updV, e1]
    · intro j hj
      cases j with
      | zero =>
        have e1 : T.heap.size + 0 ≠ a := by omega
        rw [w3 (T.heap.size + 0) (by omega) e1, ho2 _ e1]
        exact hn1
      | succ j =>
        have := w2 j (by omega)
        rw [hz2, show T.heap.size + 1 + j = T.heap.size + (j + 1) by omega] at this
        exact this
    · intro q h3 h4
      rw [w3 q (by omega) h4, ho2 q h4, ho1 q h3]
    · rw [List.range'_succ, List.forIn_cons, hfb]
      obtain ⟨k1, hk1, he1⟩ := X.warmed.alike.2.2 _ _ hkR
      have hkind1 : k1.kind = .array c0 ty := by rw [he1]; exact hkindR
      obtain ⟨k2, hk2, he2⟩ := X1.warmed.alike.2.2 _ _ hkA
      have hkind2 : k2.kind = .array cR tA := by rw [he2]; exact hkindA
      rw [multianewarray.make]
      simp only [wp_bind', Jvm.W.ite, hm, if_false, wp_pure', Jvm.W.theClass, State.vm_setTop, hk1, hkind1, Option.some.injEq, exists_eq_left', hmM]
      refine mn_arr X hkR hkindR hM hcb hf hd (by omega) (by omega) g ?_
      rw [hT1]
      simp only [wp_bind', Jvm.W.writeLoc, wp_pure', State.heap_setTop]
      refine ⟨arrV cA N F, hc1, (by intro q; cases q), by rw [arrV_size]; omega, ?_, ?_⟩
      · rw [State.fitsSlot_setTop]
        show T1.fitsSlot cA .none i (.ref T.heap.size) = true
        simp [State.fitsSlot, State.slotType?, hk2, hkind2, htA]
      · rw [State.setCell_setTop, arrV_store, hT2]
        exact hwp E _ _ Q hq
end
section
variable {p : Program} {l : Launch} {e : Env} {R : Room} {s : State} {m : MethodId} {args : Array Value} {below : List Frame} {meth : Method} {c : Code} {H : Heap} {locs : List Loc} {cells slots : Nat} {Q : State → Prop}
set_option maxHeartbeats 4000000 in
/-- the instruction -/
theorem mn_W {cc : ByteArray} (hexec : p.tables.exec = Jvm.exec) (hb : c.code = cc) {own C : String} {index : Nat} {cA cR c0 : ClassId} {kA kR : Class} {tA ty : FieldType} (hown : s.vm.findClass own = some m.cls) (hclink : (Cond.classLink own index C).before args s = true) (hC : s.vm.findClass C = some cA)
    (hkA : s.vm.classes[cA]? = some kA) (hkindA : kA.kind = .array cR tA) (htA : ∀ x : Addr, fits tA (.ref x) = true) (htN : fits tA .null = true) (htB : componentBytes tA ≤ 8) (hkR : s.vm.classes[cR]? = some kR) (hkindR : kR.kind = .array c0 ty) {n mm : Int32} {N M : Nat} (hn : ¬ n < 0) (hnN : n.toNatClampNeg = N) (hN : N ≤ 1000) (hm : ¬ mm < 0) (hmM : mm.toNatClampNeg = M) (hM : M ≤ 1000) (hcb : componentBytes ty ≤ 8) (hf : fits ty (defaultValue ty) = true) (hd : (defaultValue ty).isDefault = true)
    (hcells : cells + (1 + N) ≤ R.cells) (hslots : slots + (N + N * M) ≤ R.slots) {pc : Nat} {ls : Array Slot} {rest : List Value} (hdg : decode cc pc = .ok (.multianewarray index 2, 4))
    (kk : ∀ (H1 : Heap) (L : List Loc), (∀ q ∈ L, q.base = H.size) → H1.size = H.size + 1 + N → H1[H.size]? = some (arrV cA N (fun j => .ref (H.size + 1 + j))) → (∀ j, j < N → H1[H.size + 1 + j]? = some (arrV cR M (fun _ => defaultValue ty))) → (∀ q, q < H.size → H1[q]? = H[q]?) →
      W p l e R s m args below meth c H1 (locs ++ L) (cells + (1 + N)) (slots + (N + N * M)) Q (F0 m (pc + 4) ls (.ref H.size :: rest))) : W p l e R s m args below meth c H locs cells slots Q (F0 m pc ls (.int mm :: .int n :: rest)) := by
  intro T hT X
  subst hT
  subst hb
  have hpl : e.platform.magicAccessors = ({} : Platform).magicAccessors := by rw [X.admits.platform]
  obtain ⟨c', hfc, hcl⟩ := Cond.classLink_spec hown hclink e.platform hpl
  cases hC.symm.trans hfc
  obtain ⟨hg1, hwarm, hready⟩ := State.classEntry (e := e) X.warmed hcl
  generalize T.vm.noted m.cls index (.cls cA) = vm1 at hg1 hwarm hready
  have X1 := X.noted hwarm
  have X2 := X1.pushed { cls := cA, slots := Array.replicate N .null, vm := .none }
  rw [Array.size_replicate] at X2
  have hc2 : ((T.setVm vm1).pushCell { cls := cA, slots := Array.replicate N .null, vm := .none }).heap[T.heap.size]? = some (arrV cA N fun _ => .null) := by
    rw [← arrV_new]
    exact State.heap_pushCell_size (T.setVm vm1) _
  have hz2 : ((T.setVm vm1).pushCell { cls := cA, slots := Array.replicate N .null, vm := .none }).heap.size = T.heap.size + 1 := by simp
  have ho2 : ∀ q, q < T.heap.size → ((T.setVm vm1).pushCell { cls := cA, slots := Array.replicate N .null, vm := .none }).heap[q]? = T.heap[q]? := fun q hq => State.heap_pushCell_of_lt (T.setVm vm1) _ hq
  obtain ⟨U, L, XU, hL, z, w1, w2, w3, hwp⟩ := mn_loop (a := T.heap.size) (N := N) hkA hkindA htA hkR hkindR hm hmM hM hcb hf hd (F0 m pc ls rest) (fun i _ => (multianewarray.make cR [mm] >>= fun x => Jvm.writeLoc T.heap.size i (.ref x) >>= fun _ => Pure.pure (ForInStep.yield PUnit.unit))) (fun _ _ => rfl) N 0 _ locs (cells + 1) (slots + N) _ X2 hc2 (by omega) (by omega) (by omega)
  rw [hz2] at z w1 w2 w3
  rw [show cells + 1 + N = cells + (1 + N) by omega, show slots + N + N * M = slots + (N + N * M) by omega] at XU
  obtain ⟨t', a1, b1⟩ := kk U.heap L hL z (by rw [w1]; exact congrArg some (mn_same fun j hj => by rw [if_pos (by omega), show T.heap.size + 1 + (j - 0) = T.heap.size + 1 + j by omega])) w2 (fun q hq => by rw [w3 q (by omega) (by omega)]; exact ho2 q hq) U rfl XU
  refine ⟨t', ?_, b1⟩
  obtain ⟨kA1, hkA1, heA⟩ := X1.warmed.alike.2.2 _ _ hkA
  have hkindA1 : kA1.kind = .array cR tA := by rw [heA]; exact hkindA
  have hfind : ([mm].find? (· < 0)) = none := by simp [hm]
  jvm_step X.here [hexec, hdg]
  simp only [multianewarray.sem, wp_bind', Jvm.W.resolveClassAt_links (State.method?_setTop (F0 m pc ls (.int mm :: .int n :: rest)) X.here.top) hg1]
  refine (Jvm.Op.popN_top (s := T.setVm vm1) (f := F0 m pc ls (.int mm :: .int n :: rest)) (args := [.int n, .int mm]) (rest := rest) X1.here.top rfl).mpr ?_
  simp only [List.mapM_cons, List.mapM_nil, wp_bind', wp_pure']
  rw [multianewarray.make]
  simp only [wp_bind', Jvm.W.ite, hn, if_false, wp_pure', Jvm.W.theClass, State.vm_setTop, hkA1, hkindA1, Option.some.injEq, exists_eq_left', hnN]
  refine mn_arr X1 hkA hkindA hN htB htN rfl (by omega) (by omega) (F0 m pc ls rest) ?_
  simp only [hfind]
  rw [ite_self, wp_bind', Std.Legacy.Range.forIn_eq_forIn_range']
  rw [show ([:N] : Std.Legacy.Range).size = N by simp [Std.Legacy.Range.size]]
  refine hwp _ _ _ _ fun d' acts' => ?_
  simp only [wp_bind', wp_pure', Jvm.W.mark, Jvm.W.pushRef, State.topJava?_setTop' _ XU.here.top, Option.some.injEq, exists_eq_left', State.setTop_setTop]
  intro acts
  simp [jvm, XU.here.top]
  exact a1
end
