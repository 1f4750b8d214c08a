theorem dep_dp {c : Nat → Int32} {s d : Nat} : ∀ L : List Sp3, arrK c s L → depth c s L.length d = dpL L d
  | [], _ => rfl
  | x :: L, h => by
    have ih := dep_dp (d := d) L h.2
    show (match depth c s L.length d with | none => none | some k => if -5 ≤ (c (s + L.length)).toInt then some (k + 1) else (if (c (s + L.length)).toInt = -15 then (if 1 ≤ k then some k else none) else (if 2 ≤ k then some (k - 1) else none))) = (match dpL L d with | none => none | some k => dpS x k)
    rw [ih, h.1]
    rfl
theorem arr_mem {c h v : Nat → Int32} {s t : Nat} : ∀ (L : List Sp3), arrK c s L → arrM h v t L → ∀ i, i < L.length → ∃ x, x ∈ L ∧ c (s + i) = x.1 ∧ h (t + i) = x.2.1 ∧ v (t + i) = x.2.2
  | [], _, _, i, hi => absurd hi (Nat.not_lt_zero i)
  | x :: L, h1, h2, i, hi => by
    by_cases q : i = L.length
    · subst q
      exact ⟨x, List.mem_cons_self .., h1.1, h2.1.1, h2.1.2⟩
    · have hi : i < L.length + 1 := hi
      obtain ⟨y, y1, y2⟩ := arr_mem L h1.2 h2.2 i (by omega)
      exact ⟨y, List.mem_cons_of_mem _ y1, y2⟩
theorem pa_grd {b : Nat → Int32} {n k : Nat} {t : Tk} {w : Nat} {r : Bool × Pst} (hb : ∀ i, i < 96 → -128 ≤ (b i).toInt ∧ (b i).toInt < 128) (hn : n ≤ 96) (e : paF b n k t w = r) (ht : tkO b n t) (h : r.1 = true) : tkO b n r.2.1 ∧ r.2.2.2.length + t.2.1 ≤ r.2.1.2.1 ∧ (∀ x, x ∈ r.2.2.2 → okS x) ∧ dpL r.2.2.2 0 = some 1 := by
  subst e
  by_cases a : (tokC b t).toInt = 260 + k
  · have e := pa_y (n := n) (w := w) a
    rw [e] at h ⊢
    have hnx := nx_ok (b := b) (n := n) ht
    obtain ⟨g1, g2, nw, g3, g4, g5, g6⟩ := pr_grd hb hn 70 0 0 0 (adS b n (t, w, [])) hnx.1 h
    have g3 : (prF b n 70 0 0 0 (adS b n (t, w, []))).2.2.2 = nw := g3.trans (List.append_nil nw)
    have g4 : nw.length + (nxT b n t).2.1 ≤ (prF b n 70 0 0 0 (adS b n (t, w, []))).2.1.2.1 := g4
    have q := ht.1
    rw [g3]
    exact ⟨g1, by omega, g5, g6 0⟩
  · have e := pa_n (n := n) (w := w) a
    rw [e] at h
    cases h
theorem law_k {code st' many how val : Nat → Int32} {l k S : Nat} {L : List Sp3} (hS : st' k = nI S) (hS1 : st' (k + 1) = nI (S + L.length)) (hb : S + L.length ≤ 96) (hm : many (3 * l + k) = nI L.length) (hc : arrK code S L) (hh : arrM how val (100 * (3 * l + k)) L) (hok : ∀ x, x ∈ L → okS x) (hd : dpL L 0 = some 1) : (0 ≤ (st' k).toInt ∧ (st' k).toInt ≤ (st' (k + 1)).toInt ∧ (st' (k + 1)).toInt ≤ 96) ∧ (many (3 * l + k)).toInt = (st' (k + 1)).toInt - (st' k).toInt ∧ (∀ i : Nat, (i : Int) < (many (3 * l + k)).toInt → stepI (code ((st' k).toInt.toNat + i)) (how (100 * (3 * l + k) + i)) (val (100 * (3 * l + k) + i))) ∧ depth code (st' k).toInt.toNat (many (3 * l + k)).toInt.toNat 0 = some 1 := by
  have a1 := nIt (n := S) (by omega)
  have a2 := nIt (n := S + L.length) (by omega)
  have a3 := nIt (n := L.length) (by omega)
  have a4 := nIn (i := S) (by omega)
  have a5 := nIn (i := L.length) (by omega)
  rw [hS, hS1, hm, a1, a2, a3]
  refine ⟨⟨by omega, by omega, by omega⟩, by omega, fun i hi => ?_, ?_⟩
  · obtain ⟨x, x1, x2, x3, x4⟩ := arr_mem L hc hh i (by omega)
    have := hok x x1
    rw [show ((S : Int).toNat + i) = S + i by omega, x2, x3, x4]
    exact this
  · rw [show (S : Int).toNat = S by omega, show (L.length : Int).toNat = L.length by omega, dep_dp L hc]
    exact hd
theorem lawI_fr {g c s m h v g' c' s' m' h' v' : Nat → Int32} {l : Nat} (hg : g' l = g l) (hc : c' = c) (hs : s' = s) (hm : ∀ k, k < 3 → m' (3 * l + k) = m (3 * l + k)) (hh : ∀ q, 300 * l ≤ q → q < 300 * l + 300 → h' q = h q ∧ v' q = v q) (hI : lawI g c s m h v l) : lawI g' c' s' m' h' v' l := by
  subst hc hs
  unfold lawI at *
  rw [hg]
  refine ⟨hI.1, fun z k hk => ?_⟩
  obtain ⟨q1, q2, q3, q4⟩ := hI.2 z k hk
  rw [hm k hk]
  refine ⟨q1, q2, fun i hi => ?_, q4⟩
  have a := hh (100 * (3 * l + k) + i) (by omega) (by omega)
  rw [a.1, a.2]
  exact q3 i hi
