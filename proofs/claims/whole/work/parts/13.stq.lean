set_option maxRecDepth 100000 in
theorem fZ_all : ocs.all (fun oc => (fT oc).all fun q => match cl[q.2 / 100 % 100]? with
  | some c => bif decide ((c.2.1 (q.2 % 100)).2.2.1 = "Z") then Nat.ble 10000 q.2 else true
  | none => true) = true := by decide +kernel
section
variable {p : Program} {l : Launch} {e : Env} {R : Room} {s : State} {m : MethodId} {args : Array Value} {below : List Frame} {meth : Method} {c : Code} {cells slots : Nat} {QF : State → Prop}
variable {D : va_G} {ad : Nat → Nat} {tc : Nat → ClassId} {V : Value} {A : Nat → Prop} {cc : ByteArray} {nL oc : Nat} {rm : Room} {pc : Nat} {ls st : List Value} {σ : Mm}
variable {H : Heap} {locs : List Loc} {lsA : Array Slot} {rest : List Value}
theorem st_putf {K : Mm → Prop} {t u a k : Nat} {x : Int32} (C : Cx p R s m args c cells slots D ad tc V A cc nL oc rm) (hW : Wd D ad tc A σ H) (hS : va_S A s.heap H locs) (hd : decode cc pc = .ok (.putfield k, 3)) (hm : (k, 100 * t + u) ∈ fT oc) (hu : u < 100)
    (hK : ∀ σ' H' locs', K σ' → Wd D ad tc A σ' H' → va_S A s.heap H' locs' → W p l e R s m args below meth c H' locs' cells slots QF (F0 m (pc + 3) lsA rest)) (h : fput K t u a x σ) : W p l e R s m args below meth c H locs cells slots QF (F0 m pc lsA (.int x :: .ref (ad a) :: rest)) := by
  obtain ⟨⟨hx, hb, hml, hown, hts⟩, hoc, hKs, hZ, hV, hAd, hrm, hR1, hcl, hsl⟩ := C
  obtain ⟨pl, hpl⟩ := zipA_at (List.all_eq_true.mp lkF_all oc hoc) _ hm
  have hlk := hts _ (isA_of hpl rfl)
  dsimp only at hlk
  unfold fput at h
  split at h
  · rename_i ci fs hs
    obtain ⟨ha, hsh⟩ := shq_some hs
    cases hb1 : Nat.beq ci (t % 100) with
    | false => rw [hb1] at h; exact h.elim
    | true =>
      rw [hb1, cond_true] at h
      have hci := Nat.eq_of_beq_eq_true hb1
      have hok := List.all_eq_true.mp shok_all a (List.mem_range.mpr ha)
      simp only [shok, hsh] at hok
      cases hq : cl[ci]? with
      | none => rw [hq] at hok; cases hok
      | some q =>
        rw [hq] at hok
        obtain ⟨hok1, hok2⟩ := and2 hok
        have hN := Nat.eq_of_beq_eq_true hok1
        obtain ⟨hin, ⟨ty0, hty⟩, hnm, -⟩ := clsP_of hq
        have hfr : fRef (100 * t + u) = (q.1, (q.2.1 u).2.1, (q.2.1 u).2.2.1) := by
          have e1 : (100 * t + u) / 100 % 100 = ci := by omega
          have e2 : (100 * t + u) % 100 = u := by omega
          have e3 : Nat.beq (100 * t + u) 2000 = false := by
            cases hz : Nat.beq (100 * t + u) 2000 with
            | false => rfl
            | true =>
              have := Nat.eq_of_beq_eq_true hz
              have e4 : ci = 20 := by omega
              rw [e4] at hq
              exact absurd hq (by simp [cl])
          have e5 : Nat.beq (100 * t + u) 2001 = false := by
            cases hz : Nat.beq (100 * t + u) 2001 with
            | false => rfl
            | true =>
              have := Nat.eq_of_beq_eq_true hz
              have e4 : ci = 20 := by omega
              rw [e4] at hq
              exact absurd hq (by simp [cl])
          simp only [fRef, e1, e2, e3, e5, cond_false, hq]
        rw [hfr] at hlk
        have he : (wl ad tc σ)[a]? = some (ad a, .inr (ci, fv ad (σ a) 0 fs)) := by rw [wl_at ha, cont_obj hsh]
        split at h
        · rename_i hnq
          have hu2 : u < q.2.2 := by rw [hN]; exact nq_lt hnq
          have hrow := List.all_eq_true.mp hok2 u (List.mem_range.mpr (nq_lt hnq))
          rw [hnq] at hrow
          obtain ⟨z, hdesc⟩ := and2 hrow
          obtain ⟨hfin, hcls⟩ := and2 z
          have hfin : (q.2.1 u).2.2.2 = false := by simpa using hfin
          have hcls := of_decide_eq_true hcls
          have cell_eq : (wl ad tc σ).set a (ad a, .inr (ci, (fv ad (σ a) 0 fs).set u (.int x))) = (wl ad tc σ).set a (ad a, contC ad tc (upd (σ a) u x) a) := by
            rw [cont_obj hsh, fv_set hnq, Nat.zero_add]
          have fin : ∀ ty, parseFieldDescriptor (q.2.1 u).2.2.1 = some ty → narrow ty (.int x) = .int x → fits ty (.int x) = true → K (wr σ a u x) → W p l e R s m args below meth c H locs cells slots QF (F0 m pc lsA (.int x :: .ref (ad a) :: rest)) := by
            intro ty h1 h2 h3 h4
            refine va_put (C := q.1) (T := q.2.1) (N := q.2.2) hx hb hts hin ty0 hty hnm hown hKs hW.1 hW.2.1 hS a he hq u hu2 hlk (by rw [hcls]; exact fun _ z => z) hfin h1 h2 h3 (by rw [fv_len]; exact nq_lt hnq) hd (fun H1 locs1 g1 g2 g3 => ?_)
            rw [cell_eq] at g1 g2
            exact hK _ _ _ h4 (wd_up ha (Fit_obj hW.2.2 hs) g1 g2) g3
          rcases Bool.or_eq_true_iff.mp hdesc with hI | hZ2
          · have e := of_decide_eq_true hI
            refine fin .int (by rw [e]; rfl) rfl rfl ?_
            cases hb2 : Nat.ble 100 t with
            | true => rw [hb2, cond_true] at h; exact h.2
            | false => rw [hb2, cond_false] at h; exact h
          · have e := of_decide_eq_true hZ2
            cases hb2 : Nat.ble 100 t with
            | true =>
              rw [hb2, cond_true] at h
              have := isb_nar h.1
              exact fin .boolean (by rw [e]; rfl) this.1 this.2.1 h.2
            | false =>
              exfalso
              have hz := List.all_eq_true.mp fZ_all oc hoc
              have := List.all_eq_true.mp hz _ hm
              have e1 : (100 * t + u) / 100 % 100 = ci := by omega
              have e2 : (100 * t + u) % 100 = u := by omega
              simp only [e1, e2, hq, e] at this
              have ht : t < 100 := Nat.not_le.mp fun z => by rw [Nat.ble_eq_true_of_le z] at hb2; cases hb2
              have h3 : Nat.ble 10000 (100 * t + u) = false := by
                cases hz : Nat.ble 10000 (100 * t + u) with
                | false => rfl
                | true => have := Nat.le_of_ble_eq_true hz; omega
              rw [h3] at this
              exact absurd this (by decide)
        · exact h.elim
  · exact h.elim
theorem shN_of {ty a n : Nat} (h : shN ty a = some n) : ∃ b, shq a = some (.inr (ty, n, b)) := by
  unfold shN at h
  split at h
  · rename_i t n' b hs
    cases hb : Nat.beq t ty with
    | false => rw [hb] at h; cases h
    | true =>
      rw [hb, cond_true] at h
      have := Nat.eq_of_beq_eq_true hb
      subst this
      cases h
      exact ⟨b, hs⟩
  · cases h
theorem arr_at {a ty n b : Nat} (hs : shq a = some (.inr (ty, n, b))) (h3 : Nat.ble ty 3 = true) : a < 140 ∧ (wl ad tc σ)[a]? = some (ad a, .inl (tc ty, n, .inl (σ a))) := by
  obtain ⟨ha, hsh⟩ := shq_some hs
  exact ⟨ha, by rw [wl_at ha, cont_arr hsh h3]⟩
theorem st_iald {scr : Sc} {K : Int32 → Prop} {a : Nat} {i : Int32} (C : Cx p R s m args c cells slots D ad tc V A cc nL oc rm) (hX : ScrOK s ad A scr) (hW : Wd D ad tc A σ H) (hS : va_S A s.heap H locs) (hd : decode cc pc = .ok (.iaload, 1))
    (hK : ∀ w, K w → W p l e R s m args below meth c H locs cells slots QF (F0 m (pc + 1) lsA (.int w :: rest))) (h : aI scr K a i σ) : W p l e R s m args below meth c H locs cells slots QF (F0 m pc lsA (.int i :: .ref (ad a) :: rest)) := by
  obtain ⟨⟨hx, hb, hml, hown, hts⟩, hoc, hKs, hZ, hV, hAd, hrm, hR1, hcl, hsl⟩ := C
  obtain ⟨n, f, h1, h2, h3⟩ := h
  unfold rdI at h1
  split at h1
  · rename_i t n' b hs
    cases hb1 : Nat.beq t 0 with
    | false => rw [hb1] at h1; cases h1
    | true =>
      rw [hb1, cond_true] at h1
      have := Nat.eq_of_beq_eq_true hb1
      subst this
      cases h1
      obtain ⟨ha, he⟩ := arr_at (ad := ad) (tc := tc) (σ := σ) hs rfl
      exact va_iald hx hb hKs hW.1 a 0 he (tysl_at (by omega)) (ixs_in h2) hd (hK _ h3)
  · cases h1
  · rename_i hs
    cases hb1 : Nat.beq a 1000 with
    | false => rw [hb1] at h1; cases h1
    | true =>
      rw [hb1, cond_true] at h1
      have := Nat.eq_of_beq_eq_true hb1
      subst this
      obtain ⟨g1, g2, g3⟩ := hX n f h1
      exact va_sld hx hb g1 g2 g3 hS (ixs_in h2) hd (hK _ h3)
theorem st_bald {K : Int32 → Prop} {a : Nat} {i : Int32} (C : Cx p R s m args c cells slots D ad tc V A cc nL oc rm) (hW : Wd D ad tc A σ H) (hS : va_S A s.heap H locs) (hd : decode cc pc = .ok (.baload, 1))
    (hK : ∀ w, K w → W p l e R s m args below meth c H locs cells slots QF (F0 m (pc + 1) lsA (.int w :: rest))) (h : aB K a i σ) : W p l e R s m args below meth c H locs cells slots QF (F0 m pc lsA (.int i :: .ref (ad a) :: rest)) := by
  obtain ⟨⟨hx, hb, hml, hown, hts⟩, hoc, hKs, hZ, hV, hAd, hrm, hR1, hcl, hsl⟩ := C
  obtain ⟨n, f, h1, h2, h3⟩ := h
  unfold rdB at h1
  split at h1
  · rename_i t n' b hs
    cases hb1 : (Nat.beq t 1 || Nat.beq t 2) with
    | false => rw [hb1] at h1; cases h1
    | true =>
      rw [hb1, cond_true] at h1
      cases h1
      rcases Bool.or_eq_true_iff.mp hb1 with q | q
      · have := Nat.eq_of_beq_eq_true q
        subst this
        obtain ⟨ha, he⟩ := arr_at (ad := ad) (tc := tc) (σ := σ) hs rfl
        exact va_zald hx hb hKs hW.1 a 1 he (tysl_at (by omega)) (ixs_in h2) hd (hK _ h3)
      · have := Nat.eq_of_beq_eq_true q
        subst this
        obtain ⟨ha, he⟩ := arr_at (ad := ad) (tc := tc) (σ := σ) hs rfl
        exact va_bald hx hb hKs hW.1 a 2 he (tysl_at (by omega)) (ixs_in h2) hd (hK _ h3)
  · cases h1
  · rename_i hs
    cases hb1 : (Nat.ble 2100 a && Nat.ble a 2103) with
    | false => rw [hb1] at h1; cases h1
    | true =>
      rw [hb1, cond_true] at h1
      obtain ⟨hb4, hb5⟩ := and2 hb1
      have h4 := Nat.le_of_ble_eq_true hb4
      have h5 := Nat.le_of_ble_eq_true hb5
      have h1 := Option.some.inj h1
      obtain ⟨rfl, rfl⟩ : sLen (a - 2100) = n ∧ sByt (a - 2100) = f := Prod.mk.inj h1
      obtain ⟨j, hj, rfl⟩ : ∃ j, j < 4 ∧ a = 2100 + j := ⟨a - 2100, by omega, by omega⟩
      rw [show 2100 + j - 2100 = j by omega] at h2 h3
      have hT := (hZ.1.1 j hj).2.2.2
      have hl : sLens.getD j 0 = sLen j := by
        rcases (show j = 0 ∨ j = 1 ∨ j = 2 ∨ j = 3 by omega) with rfl | rfl | rfl | rfl <;> rfl
      rw [hl] at hT
      exact va_tb hx hb hT hS (ixs_in h2) (v := .int (sByt j i.toInt.toNat)) rfl hd (hK _ h3)
theorem st_sald {K : Int32 → Prop} {a : Nat} {i : Int32} (C : Cx p R s m args c cells slots D ad tc V A cc nL oc rm) (hW : Wd D ad tc A σ H) (hd : decode cc pc = .ok (.saload, 1))
    (hK : ∀ w, K w → W p l e R s m args below meth c H locs cells slots QF (F0 m (pc + 1) lsA (.int w :: rest))) (h : aS K a i σ) : W p l e R s m args below meth c H locs cells slots QF (F0 m pc lsA (.int i :: .ref (ad a) :: rest)) := by
  obtain ⟨⟨hx, hb, hml, hown, hts⟩, hoc, hKs, hZ, hV, hAd, hrm, hR1, hcl, hsl⟩ := C
  obtain ⟨n, h1, h2, h3⟩ := h
  obtain ⟨b, hs⟩ := shN_of h1
  obtain ⟨ha, he⟩ := arr_at (ad := ad) (tc := tc) (σ := σ) hs rfl
  exact va_sald hx hb hKs hW.1 a 3 he (tysl_at (by omega)) (ixs_in h2) hd (hK _ h3)
theorem st_aald {K : Nat → Prop} {a : Nat} {i : Int32} (C : Cx p R s m args c cells slots D ad tc V A cc nL oc rm) (hW : Wd D ad tc A σ H) (hd : decode cc pc = .ok (.aaload, 1))
    (hK : ∀ w, K w → W p l e R s m args below meth c H locs cells slots QF (F0 m (pc + 1) lsA (.ref (ad w) :: rest))) (h : aA K a i) : W p l e R s m args below meth c H locs cells slots QF (F0 m pc lsA (.int i :: .ref (ad a) :: rest)) := by
  obtain ⟨⟨hx, hb, hml, hown, hts⟩, hoc, hKs, hZ, hV, hAd, hrm, hR1, hcl, hsl⟩ := C
  obtain ⟨n, b, h1, h2, h3⟩ := h
  unfold rdA at h1
  split at h1
  · rename_i t n' b' hs
    cases hb1 : (Nat.beq t 4 || Nat.beq t 5) with
    | false => rw [hb1] at h1; cases h1
    | true =>
      rw [hb1, cond_true] at h1
      cases h1
      obtain ⟨ha, hsh⟩ := shq_some hs
      have hv := ixs_in h2
      have hlt : i.toNatClampNeg < n := Nat.not_le.mp fun q => hv (Or.inr q)
      have go : ∀ ty : FieldType, ty.isReference = true → tyF t = ty → t < 6 → Nat.ble t 3 = false → W p l e R s m args below meth c H locs cells slots QF (F0 m pc lsA (.int i :: .ref (ad a) :: rest)) := by
        intro ty hr ht h6 h7
        have he : (wl ad tc σ)[a]? = some (ad a, .inl (tc t, n, .inr (.inr (.inr (.inr fun j => some (ad (b + j))))))) := by rw [wl_at ha, cont_row hsh h7]
        have hc : H[ad a]? = some (arrV (tc t) n (fun j => va_rf (some (ad (b + j))))) := hW.1 a _ he
        exact W.aald (ty := ty) (v := .ref (ad (b + i.toInt.toNat))) hx hb hc (by rw [← ht]; exact (hKs.2 t _ (tysl_at h6)).1 n _) hr (fun z => by cases z) (by rw [arrV_size]; exact hv) (by rw [arrV_read _ _ hlt]; rfl) rfl rfl hd (hK _ h3)
      rcases Bool.or_eq_true_iff.mp hb1 with q | q
      · have := Nat.eq_of_beq_eq_true q
        subst this
        exact go (.array .int) rfl rfl (by omega) rfl
      · have := Nat.eq_of_beq_eq_true q
        subst this
        exact go (.array .short) rfl rfl (by omega) rfl
  · cases h1
theorem arr_up {a ty n b : Nat} {g : Nat → Int32} {H1 : Heap} (hs : shq a = some (.inr (ty, n, b))) (h3 : Nat.ble ty 3 = true) (hF : Fit σ) (hg : ∀ i, fits (tyF ty) (.int (g i)) = true) (g1 : va_P D cl ((wl ad tc σ).set a (ad a, .inl (tc ty, n, .inl g))) H1) (g2 : va_D A ((wl ad tc σ).set a (ad a, .inl (tc ty, n, .inl g)))) : Wd D ad tc A (up σ a g) H1 := by
  obtain ⟨ha, hsh⟩ := shq_some hs
  rw [← cont_arr (ad := ad) (tc := tc) (g := g) hsh h3] at g1 g2
  exact wd_up ha (Fit_up hF hs hg) g1 g2
theorem st_iast {K : Mm → Prop} {a : Nat} {i x : Int32} (C : Cx p R s m args c cells slots D ad tc V A cc nL oc rm) (hW : Wd D ad tc A σ H) (hS : va_S A s.heap H locs) (hd : decode cc pc = .ok (.iastore, 1))
    (hK : ∀ σ' H' locs', K σ' → Wd D ad tc A σ' H' → va_S A s.heap H' locs' → W p l e R s m args below meth c H' locs' cells slots QF (F0 m (pc + 1) lsA rest)) (h : sI K a i x σ) : W p l e R s m args below meth c H locs cells slots QF (F0 m pc lsA (.int x :: .int i :: .ref (ad a) :: rest)) := by
  obtain ⟨⟨hx, hb, hml, hown, hts⟩, hoc, hKs, hZ, hV, hAd, hrm, hR1, hcl, hsl⟩ := C
  obtain ⟨n, h1, h2, h3⟩ := h
  obtain ⟨b, hs⟩ := shN_of h1
  obtain ⟨ha, he⟩ := arr_at (ad := ad) (tc := tc) (σ := σ) hs rfl
  exact va_iast hx hb hKs hW.1 hW.2.1 hS a 0 he (tysl_at (by omega)) (ixs_in h2) hd (fun H1 locs1 g1 g2 g3 => hK _ _ _ h3 (arr_up hs rfl hW.2.2 (fun _ => rfl) g1 g2) g3)
theorem st_sast {K : Mm → Prop} {a : Nat} {i x : Int32} (C : Cx p R s m args c cells slots D ad tc V A cc nL oc rm) (hW : Wd D ad tc A σ H) (hS : va_S A s.heap H locs) (hd : decode cc pc = .ok (.sastore, 1))
    (hK : ∀ σ' H' locs', K σ' → Wd D ad tc A σ' H' → va_S A s.heap H' locs' → W p l e R s m args below meth c H' locs' cells slots QF (F0 m (pc + 1) lsA rest)) (h : sS K a i x σ) : W p l e R s m args below meth c H locs cells slots QF (F0 m pc lsA (.int x :: .int i :: .ref (ad a) :: rest)) := by
  obtain ⟨⟨hx, hb, hml, hown, hts⟩, hoc, hKs, hZ, hV, hAd, hrm, hR1, hcl, hsl⟩ := C
  obtain ⟨n, h1, h2, h3⟩ := h
  obtain ⟨b, hs⟩ := shN_of h1
  obtain ⟨ha, he⟩ := arr_at (ad := ad) (tc := tc) (σ := σ) hs rfl
  refine va_sast hx hb hKs hW.1 hW.2.1 hS a 3 he (tysl_at (by omega)) (ixs_in h2) hd (fun H1 locs1 g1 g2 g3 => ?_)
  rw [vp_nar_short] at g1 g2
  exact hK _ _ _ h3 (arr_up hs rfl hW.2.2 (fit_upd (hW.2.2 a 3 n b hs rfl) (pk_fs x)) g1 g2) g3
theorem st_bast {K : Mm → Prop} {a : Nat} {i x : Int32} (C : Cx p R s m args c cells slots D ad tc V A cc nL oc rm) (hW : Wd D ad tc A σ H) (hS : va_S A s.heap H locs) (hd : decode cc pc = .ok (.bastore, 1))
    (hK : ∀ σ' H' locs', K σ' → Wd D ad tc A σ' H' → va_S A s.heap H' locs' → W p l e R s m args below meth c H' locs' cells slots QF (F0 m (pc + 1) lsA rest)) (h : sB K a i x σ) : W p l e R s m args below meth c H locs cells slots QF (F0 m pc lsA (.int x :: .int i :: .ref (ad a) :: rest)) := by
  obtain ⟨⟨hx, hb, hml, hown, hts⟩, hoc, hKs, hZ, hV, hAd, hrm, hR1, hcl, hsl⟩ := C
  unfold sB at h
  split at h
  · rename_i t n b hs
    cases hb1 : Nat.beq t 1 with
    | true =>
      rw [hb1, cond_true] at h
      have := Nat.eq_of_beq_eq_true hb1
      subst this
      obtain ⟨h2, hbx, h3⟩ := h
      obtain ⟨ha, he⟩ := arr_at (ad := ad) (tc := tc) (σ := σ) hs rfl
      refine va_zast hx hb hKs hW.1 hW.2.1 hS a 1 he (tysl_at (by omega)) (ixs_in h2) hd (fun H1 locs1 g1 g2 g3 => ?_)
      rw [(isb_nar hbx).2.2] at g1 g2
      exact hK _ _ _ h3 (arr_up hs rfl hW.2.2 (fit_upd (hW.2.2 a 1 n b hs rfl) (isb_nar hbx).2.1) g1 g2) g3
    | false =>
      rw [hb1, cond_false] at h
      cases hb2 : Nat.beq t 2 with
      | false => rw [hb2] at h; exact h.elim
      | true =>
        rw [hb2, cond_true] at h
        have := Nat.eq_of_beq_eq_true hb2
        subst this
        obtain ⟨h2, h3⟩ := h
        obtain ⟨ha, he⟩ := arr_at (ad := ad) (tc := tc) (σ := σ) hs rfl
        refine va_bast hx hb hKs hW.1 hW.2.1 hS a 2 he (tysl_at (by omega)) (ixs_in h2) hd (fun H1 locs1 g1 g2 g3 => ?_)
        rw [vp_nar_byte] at g1 g2
        exact hK _ _ _ h3 (arr_up hs rfl hW.2.2 (fit_upd (hW.2.2 a 2 n b hs rfl) (pk_fb x)) g1 g2) g3
  · exact h.elim
theorem st_alen {scr : Sc} {K : Int32 → Prop} {a : Nat} (C : Cx p R s m args c cells slots D ad tc V A cc nL oc rm) (hX : ScrOK s ad A scr) (hW : Wd D ad tc A σ H) (hS : va_S A s.heap H locs) (hd : decode cc pc = .ok (.arraylength, 1))
    (hK : ∀ w, K w → W p l e R s m args below meth c H locs cells slots QF (F0 m (pc + 1) lsA (.int w :: rest))) (h : aN scr K a) : W p l e R s m args below meth c H locs cells slots QF (F0 m pc lsA (.ref (ad a) :: rest)) := by
  obtain ⟨⟨hx, hb, hml, hown, hts⟩, hoc, hKs, hZ, hV, hAd, hrm, hR1, hcl, hsl⟩ := C
  obtain ⟨n, h1, h3⟩ := h
  unfold rdN at h1
  split at h1
  · rename_i t n' b hs
    cases h1
    obtain ⟨ha, hsh⟩ := shq_some hs
    have hok := List.all_eq_true.mp shok_all a (List.mem_range.mpr ha)
    simp only [shok, hsh] at hok
    have h5 := Nat.le_of_ble_eq_true (and2 (and2 hok).1).1
    cases h7 : Nat.ble t 3 with
    | true =>
      obtain ⟨-, he⟩ := arr_at (ad := ad) (tc := tc) (σ := σ) hs h7
      exact va_alen hx hb hKs hW.1 a t he (tysl_at (by omega)) rfl hd (hK _ h3)
    | false =>
      have he : (wl ad tc σ)[a]? = some (ad a, .inl (tc t, n, .inr (.inr (.inr (.inr fun j => some (ad (b + j))))))) := by rw [wl_at ha, cont_row hsh h7]
      exact va_alen hx hb hKs hW.1 a t he (tysl_at (by omega)) rfl hd (hK _ h3)
  · cases h1
  · rename_i hs
    cases hb1 : Nat.beq a 1000 with
    | true =>
      rw [hb1, cond_true] at h1
      have := Nat.eq_of_beq_eq_true hb1
      subst this
      split at h1
      · rename_i L xs
        cases h1
        obtain ⟨g1, g2, g3⟩ := hX n xs rfl
        exact va_slen hx hb g1 g2 g3 hS hd (hK _ h3)
      · cases h1
    | false =>
      rw [hb1, cond_false] at h1
      cases hb2 : (Nat.ble 2100 a && Nat.ble a 2103) with
      | false => rw [hb2] at h1; cases h1
      | true =>
        rw [hb2, cond_true] at h1
        obtain ⟨hb4, hb5⟩ := and2 hb2
        have h4 := Nat.le_of_ble_eq_true hb4
        have h5 := Nat.le_of_ble_eq_true hb5
        obtain rfl : sLen (a - 2100) = n := Option.some.inj h1
        obtain ⟨j, hj, rfl⟩ : ∃ j, j < 4 ∧ a = 2100 + j := ⟨a - 2100, by omega, by omega⟩
        rw [show 2100 + j - 2100 = j by omega] at h3
        have hT := (hZ.1.1 j hj).2.2.2
        have hl : sLens.getD j 0 = sLen j := by
          rcases (show j = 0 ∨ j = 1 ∨ j = 2 ∨ j = 3 by omega) with rfl | rfl | rfl | rfl <;> rfl
        rw [hl] at hT
        exact va_tlen hx hb hT hS rfl hd (hK _ h3)
theorem cat_le (l : List Value) : (l.map fun v => v.category).sum ≤ 2 * l.length := by
  induction l with
  | nil => simp
  | cons v l ih =>
    have : v.category ≤ 2 := by cases v <;> simp [Value.category]
    simp only [List.map_cons, List.sum_cons, List.length_cons]
    omega
theorem st_cpy {K : Mm → Prop} {a b k : Nat} {sp dp n : Int32} (C : Cx p R s m args c cells slots D ad tc V A cc nL oc rm) (hls : lsA.size = nL) (hW : Wd D ad tc A σ H) (hS : va_S A s.heap H locs) (hd : decode cc pc = .ok (.invokestatic k, 3)) (hm : (oc, k) ∈ acT) (hrest : rest.length ≤ 4)
    (hK : ∀ σ' H' locs', K σ' → Wd D ad tc A σ' H' → va_S A s.heap H' locs' → W p l e R s m args below meth c H' locs' cells slots QF (F0 m (pc + 3) lsA rest)) (h : cpy K a b sp dp n σ) : W p l e R s m args below meth c H locs cells slots QF (F0 m pc lsA (.int n :: .int dp :: .ref (ad b) :: .int sp :: .ref (ad a) :: rest)) := by
  obtain ⟨⟨hx, hb, hml, hown, hts⟩, hoc, hKs, hZ, hV, hAd, hrm, hR1, hcl, hsl⟩ := C
  obtain ⟨ty, n0, n1, ⟨h3, e0, e1⟩, ⟨q1, q2, q3, q4, q5⟩, hk⟩ := h
  obtain ⟨b0, hs0⟩ := shN_of e0
  obtain ⟨b1, hs1⟩ := shN_of e1
  obtain ⟨ha0, he0⟩ := arr_at (ad := ad) (tc := tc) (σ := σ) hs0 h3
  obtain ⟨ha1, he1⟩ := arr_at (ad := ad) (tc := tc) (σ := σ) hs1 h3
  have ht := Nat.le_of_ble_eq_true h3
  obtain ⟨pl, hpl⟩ := zipA_at lkX_all _ hm
  obtain ⟨z0, z12⟩ := and2 lkZ_all
  obtain ⟨z1, z2⟩ := and2 z12
  have hc := cat_le rest
  have hF0 := hW.2.2 a ty n0 b0 hs0 h3
  have hF1 := hW.2.2 b ty n1 b1 hs1 h3
  refine va_copyi hx hb (by rw [hml, hls]) hown (hts _ (isA_of hpl rfl)) (hts _ (isA_of z0 rfl)) (hts _ (isA_of z1 rfl)) (hts _ (isA_of z2 rfl)) hKs hW.1 hW.2.1 hS a b ty ty he0 he1 (tysl_at (by omega)) (tysl_at (by omega)) ?_ (by rw [ilt0]; omega) (by rw [ilt0]; omega) (by rw [ilt0]; omega) ?_ ?_ (fun i _ => hF0 _) hR1.1 ?_ hd (fun H1 locs1 g1 g2 g3 => hK _ _ _ hk (arr_up hs1 h3 hW.2.2 (fun i => ?_) g1 g2) g3)
  · rcases (show ty = 0 ∨ ty = 1 ∨ ty = 2 ∨ ty = 3 by omega) with rfl | rfl | rfl | rfl <;> rfl
  · show sp.toInt.toNat + n.toInt.toNat ≤ n0
    omega
  · show dp.toInt.toNat + n.toInt.toNat ≤ n1
    omega
  · have : nativeFrameWords "java/lang/System" "arraycopy" 5 = 7 := by decide +kernel
    rw [this]
    omega
  · unfold va_cpy
    split
    · exact hF0 _
    · exact hF1 _
end
