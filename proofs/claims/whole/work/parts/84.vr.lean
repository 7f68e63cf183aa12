/-! the class' village that was read is the reference's -/
theorem dep_dpl {s : Nat → Int32} : ∀ {l : List Int32} {i d : Nat}, (∀ j, j < l.length → s (i + j) = l.getD j 0) → depTo s i l.length d = dpl l d
  | [], i, d, _ => rfl
  | x :: l, i, d, h => by
    have h0 : s i = x := h 0 (Nat.succ_pos _)
    have ih : ∀ d, depTo s (i + 1) l.length d = dpl l d := fun d => dep_dpl (l := l) (i := i + 1) (fun j hj => by
      have := h (j + 1) (Nat.succ_lt_succ hj)
      rw [show i + 1 + j = i + (j + 1) by omega]
      exact this)
    show (if s i = -1 then (if d = 0 then none else depTo s (i + 1) l.length d) else if s i = -2 ∨ s i = -3 then (if d < 2 then none else depTo s (i + 1) l.length (d - 1)) else if 30 ≤ d then none else depTo s (i + 1) l.length (d + 1)) = dpl (x :: l) d
    rw [dpl_c, h0, ih, ih, ih]
theorem flatK_a {a b : List CL} : flatK (a ++ b) = flatK a ++ flatK b := List.flatMap_append
theorem refK_a {a b : List CL} : refK (a ++ b) = refK a ++ refK b := List.flatMap_append
theorem refK_kN : ∀ {cs : List CL}, refK (kN cs) = refK cs
  | [] => rfl
  | c :: cs => by
    have ih := refK_kN (cs := cs)
    unfold kN
    by_cases e : 2 ≤ c.1
    · rw [List.filter_cons_of_pos (p := fun c : CL => decide (2 ≤ c.1)) (by exact decide_eq_true e)]
      show refC c ++ refK (kN cs) = refC c ++ refK cs
      rw [ih]
    · rw [List.filter_cons_of_neg (by rw [decide_eq_true_iff]; exact e)]
      show refK (kN cs) = refC c ++ refK cs
      rw [ih, show refC c = [] from if_neg e, List.nil_append]
theorem refK_n : ∀ {L : List CL}, (∀ c, c ∈ L → 2 ≤ c.1) → (refK L).length = (flatK L).length + L.length
  | [], _ => rfl
  | c :: L, h => by
    have ih := refK_n (L := L) (fun c hc => h c (List.mem_cons_of_mem _ hc))
    show (refC c ++ refK L).length = (c.2.2 ++ flatK L).length + (L.length + 1)
    rw [List.length_append, List.length_append, ih, show refC c = c.2.2.map tokM ++ [markM c] from if_pos (h c List.mem_cons_self), List.length_append, List.length_map, List.length_singleton]
    omega
theorem getD_mid {X Y Z : List Int32} {j : Nat} (h : j < Y.length) : (X ++ (Y ++ Z)).getD (X.length + j) 0 = Y.getD j 0 := by
  rw [List.getD_eq_getElem?_getD, List.getD_eq_getElem?_getD, List.getElem?_append_right (Nat.le_add_right _ _), Nat.add_sub_cancel_left, List.getElem?_append_left h]
theorem split_at {L : List CL} {k : Nat} (h : k < L.length) : L = L.take k ++ (L.getD k nC :: L.drop (k + 1)) := by
  have e : L.getD k nC = L[k] := by rw [List.getD_eq_getElem?_getD, List.getElem?_eq_getElem h]; rfl
  rw [e, ← List.drop_eq_getElem_cons h, List.take_append_drop]
theorem getD_memK {L : List CL} {k : Nat} (h : k < L.length) : L.getD k nC ∈ L := by
  have e : L.getD k nC = L[k] := by rw [List.getD_eq_getElem?_getD, List.getElem?_eq_getElem h]; rfl
  rw [e]
  exact List.getElem_mem h
theorem tok_at {x : Int32} : ∀ {l : List Int32} {j : Nat}, j < l.length → (l.map tokM ++ [x]).getD j 0 = tokM (l.getD j 0)
  | _ :: _, 0, _ => rfl
  | _ :: l, j + 1, h => tok_at (l := l) (j := j) (Nat.lt_of_succ_lt_succ h)
/-- where the steps of the k-th begin -/
def sK (L : List CL) (k : Nat) : Nat := (flatK (L.take k)).length
theorem vFrom_s {L : List CL} : ∀ {k : Nat}, vFrom (endK L) k = sK L k
  | 0 => rfl
  | _ + 1 => rfl
theorem sK_n {L : List CL} {k : Nat} (h : k < L.length) : sK L (k + 1) = sK L k + (L.getD k nC).2.2.length := by
  unfold sK
  have e : L.take (k + 1) = L.take k ++ [L.getD k nC] := by
    have e2 : L.getD k nC = L[k] := by rw [List.getD_eq_getElem?_getD, List.getElem?_eq_getElem h]; rfl
    rw [e2, List.take_succ, List.getElem?_eq_getElem h]
    rfl
  rw [e, flatK_app, List.length_append]
theorem sK_le {L : List CL} {k : Nat} : sK L k ≤ (flatK L).length := by
  have e : flatK L = flatK (L.take k) ++ flatK (L.drop k) := by rw [← flatK_a, List.take_append_drop]
  rw [e, List.length_append]
  exact Nat.le_add_right _ _
theorem sK_all {L : List CL} : sK L L.length = (flatK L).length := by
  unfold sK
  rw [List.take_length]
theorem K_at {L : List CL} {k : Nat} (hk : k < L.length) {j : Nat} (hj : j < (L.getD k nC).2.2.length) : (flatK L).getD (sK L k + j) 0 = (L.getD k nC).2.2.getD j 0 := by
  have e : flatK L = flatK (L.take k) ++ ((L.getD k nC).2.2 ++ flatK (L.drop (k + 1))) := by
    rw [show (L.getD k nC).2.2 ++ flatK (L.drop (k + 1)) = flatK (L.getD k nC :: L.drop (k + 1)) from rfl, ← flatK_a, ← split_at hk]
  rw [e]
  exact getD_mid hj
theorem R_len {L : List CL} {k : Nat} (h2 : ∀ c, c ∈ L → 2 ≤ c.1) (hk : k ≤ L.length) : (refK (L.take k)).length = sK L k + k := by
  rw [refK_n (fun c hc => h2 c (List.mem_of_mem_take hc)), List.length_take, Nat.min_eq_left hk]
  rfl
theorem R_split {L : List CL} {k : Nat} (hk : k < L.length) : refK L = refK (L.take k) ++ (refC (L.getD k nC) ++ refK (L.drop (k + 1))) := by
  rw [show refC (L.getD k nC) ++ refK (L.drop (k + 1)) = refK (L.getD k nC :: L.drop (k + 1)) from rfl, ← refK_a, ← split_at hk]
theorem R_at {L : List CL} {k : Nat} (h2 : ∀ c, c ∈ L → 2 ≤ c.1) (hk : k < L.length) {j : Nat} (hj : j < (L.getD k nC).2.2.length) : (refK L).getD (sK L k + j + k) 0 = tokM ((L.getD k nC).2.2.getD j 0) := by
  have hm : L.getD k nC ∈ L := getD_memK hk
  rw [show sK L k + j + k = (refK (L.take k)).length + j by rw [R_len h2 (by omega)]; omega, R_split hk, show refC (L.getD k nC) = (L.getD k nC).2.2.map tokM ++ [markM (L.getD k nC)] from if_pos (h2 _ hm)]
  rw [getD_mid (by rw [List.length_append, List.length_map]; omega)]
  exact tok_at hj
theorem R_mark {L : List CL} {k : Nat} (h2 : ∀ c, c ∈ L → 2 ≤ c.1) (hk : k < L.length) : (refK L).getD (endK L k + k) 0 = markM (L.getD k nC) := by
  have hm : L.getD k nC ∈ L := getD_memK hk
  have e : endK L k = sK L k + (L.getD k nC).2.2.length := sK_n hk
  rw [show endK L k + k = (refK (L.take k)).length + (L.getD k nC).2.2.length by rw [R_len h2 (by omega), e]; omega, R_split hk, show refC (L.getD k nC) = (L.getD k nC).2.2.map tokM ++ [markM (L.getD k nC)] from if_pos (h2 _ hm)]
  rw [getD_mid (by rw [List.length_append, List.length_map, List.length_singleton]; omega), List.getD_eq_getElem?_getD, List.getElem?_append_right (by rw [List.length_map]; exact Nat.le_refl _), List.length_map, Nat.sub_self]
  rfl
theorem mark_ok {c : CL} (h : 2 ≤ c.1) (h9 : c.2.1 ≤ 99) : markOK (markM c) (valC c) := by
  unfold markM valC markOK
  have hn : (nI c.2.1).toInt = (c.2.1 : Int) := nI_toInt (by omega)
  by_cases e : c.1 = 2
  · rw [if_pos e, if_pos e]
    refine Or.inl ⟨c.2.1, by omega, ?_, hn⟩
    exact i_sub (a := -10) (by decide) hn (by omega)
  · rw [if_neg e, if_neg e]
    refine Or.inr ⟨c.2.1, by omega, ?_, i_neg hn (by omega)⟩
    exact i_sub (a := -200) (by decide) hn (by omega)
theorem VR_of {m : MI} {va i E : Nat} {cs : List CL} (hv : VS m va cs) (hr : RS m i cs) (hg : goodV E cs) (hE : E ≤ 100) (h10 : cs.length ≤ 10) : VR (m 174) m va i := by
  obtain ⟨⟨w1, w2⟩, v2, v3, v4, v5⟩ := hv
  obtain ⟨⟨r1, r2⟩, r3, r4⟩ := hr
  have h0 : ∀ c, c ∈ cs → c.1 < 2 → c.2.2 = [] := fun c hc => (hg.2 c hc).2.2.1
  have hL2 : ∀ c, c ∈ kN cs → 2 ≤ c.1 := fun c hc => of_decide_eq_true (List.mem_filter.mp hc).2
  have hLm : ∀ c, c ∈ kN cs → c ∈ cs := fun c hc => (List.mem_filter.mp hc).1
  have hLl := kN_len (cs := cs)
  rw [← flatK_kN h0] at w1 w2
  rw [← refK_kN] at r1 r2
  have hfl : (flatK (kN cs)).length ≤ 100 := by
    rw [flatK_kN h0]
    have := hg.1
    omega
  have hat : ∀ k, k < (kN cs).length → (kN cs).getD k nC ∈ kN cs := fun k hk => by
    have e : (kN cs).getD k nC = (kN cs)[k] := by rw [List.getD_eq_getElem?_getD, List.getElem?_eq_getElem hk]; rfl
    rw [e]
    exact List.getElem_mem hk
  have hend : ∀ k, k < (kN cs).length → endK (kN cs) k = sK (kN cs) k + ((kN cs).getD k nC).2.2.length := fun k hk => sK_n hk
  have hel : ∀ k, k < (kN cs).length → endK (kN cs) k ≤ (flatK (kN cs)).length := fun k _ => sK_le (k := k + 1)
  have hstep : ∀ k, k < (kN cs).length → ∀ j, j < ((kN cs).getD k nC).2.2.length → m (va + 1) (sK (kN cs) k + j) = ((kN cs).getD k nC).2.2.getD j 0 := fun k hk j hj => by
    rw [w2 _ (by have := hel k hk; have := hend k hk; omega), K_at hk hj]
  refine ⟨(kN cs).length, endK (kN cs), ⟨?_, by omega, fun k hk => ⟨?_, by have := hel k hk; omega, fun j hj => ?_⟩, fun k hk => ?_⟩, ?_, ?_, ?_, fun k hk => ⟨fun j j1 j2 => ?_, ?_, ?_⟩⟩
  · rw [v2]
    exact nI_toInt (by omega)
  · rw [(v3 k hk).2]
    have := hel k hk
    exact nI_toInt (by omega)
  · have hj2 : j < (flatK (kN cs)).length := Nat.lt_of_lt_of_le hj (hel k hk)
    rw [w2 j hj2]
    have hmem : (flatK (kN cs)).getD j 0 ∈ flatK (kN cs) := by
      have e : (flatK (kN cs)).getD j 0 = (flatK (kN cs))[j] := by rw [List.getD_eq_getElem?_getD, List.getElem?_eq_getElem hj2]; rfl
      rw [e]
      exact List.getElem_mem hj2
    obtain ⟨c, hc, hx⟩ := List.mem_flatMap.mp hmem
    exact ((hg.2 c (hLm c hc)).2.2.2 (hL2 c hc)).1 _ hx
  · rw [vFrom_s, hend k hk]
    exact Nat.le_add_right _ _
  · rw [v4, r3]
  · rw [v5, r4]
  · rw [vFrom_s, sK_all]
    show (m 174 (233 + i)).toInt = _
    rw [r1, refK_n hL2]
    exact nI_toInt (by omega)
  · rw [vFrom_s] at j1
    have hj : j - sK (kN cs) k < ((kN cs).getD k nC).2.2.length := by have := hend k hk; omega
    have e1 : j = sK (kN cs) k + (j - sK (kN cs) k) := by omega
    have hR : (refK (kN cs)).length = (flatK (kN cs)).length + (kN cs).length := refK_n hL2
    have hl2 := hel k hk
    rw [r2 (j + k) (by omega)]
    rw [e1, hstep k hk _ hj, R_at hL2 hk hj]
  · have hR : (refK (kN cs)).length = (flatK (kN cs)).length + (kN cs).length := refK_n hL2
    have hl2 := hel k hk
    rw [r2 _ (by omega), R_mark hL2 hk, (v3 k hk).1]
    exact mark_ok (hL2 _ (hat k hk)) (hg.2 _ (hLm _ (hat k hk))).2.1
  · rw [vFrom_s, show endK (kN cs) k - sK (kN cs) k = ((kN cs).getD k nC).2.2.length by have := hend k hk; omega]
    rw [dep_dpl (fun j hj => hstep k hk j hj)]
    exact ((hg.2 _ (hLm _ (hat k hk))).2.2.2 (hL2 _ (hat k hk))).2
/-- what is kept of the row does not rest on villages -/
theorem BD.low {S S' : Nat → Int32} {c : CT} (h : BD S c) (e : ∀ k, k < 223 → S' k = S k) : BD S' c := by
  obtain ⟨h1, h2, h3, h4, h5, h6, h7, h8, h9⟩ := h
  have l := h1
  obtain ⟨⟨a1, a2⟩, ⟨b1, b2⟩, ⟨c1, c2⟩, ⟨d1, d2⟩, ⟨e1, e2⟩, ⟨f1, f2⟩, ⟨g1, g2⟩⟩ := l
  refine ⟨?_, ?_, ?_, fun p hp => ?_, fun k hk => ?_, fun j hj => ?_, fun j hj => ?_, fun j hj => ?_, fun j hj => ?_⟩
  · unfold okCT
    rw [e 12 (by decide), e 19 (by decide), e 13 (by decide), e 17 (by decide), e 14 (by decide), e 15 (by decide), e 16 (by decide)]
    exact h1
  · rw [e 0 (by decide)]; exact h2
  · rw [e 18 (by decide)]; exact h3
  · obtain ⟨p1, p2, p3, p4, p5, p6⟩ := h4 p hp
    have hp6 : p < 6 := by omega
    refine ⟨?_, ?_, ?_, ?_, ?_, fun k hk => ?_⟩
    · rw [e _ (by omega)]; exact p1
    · rw [e _ (by omega)]; exact p2
    · rw [e _ (by omega)]; exact p3
    · rw [e _ (by omega)]; exact p4
    · rw [e _ (by omega)]; exact p5
    · rw [e _ (by omega)]; exact p6 k hk
  · rw [e _ (by omega), e _ (by omega)]; exact h5 k hk
  · rw [e _ (by omega)]; exact h6 j hj
  · rw [e _ (by omega), e _ (by omega), e _ (by omega)]; exact h7 j hj
  · rw [e _ (by omega)]; exact h8 j hj
  · rw [e _ (by omega)]; exact h9 j hj
theorem BD.vil {S S' : Nat → Int32} {c c' : CT} (h : BD S c) (e : ∀ k, k < 223 → k ≠ 13 → k ≠ 17 → k ≠ 18 → S' k = S k) (hN : cN c' = cN c) (hW : cW c' = cW c) (hS : cS c' = cS c) (hP : cP c' = cP c) (hB : cB c' = cB c) (hT : cT c' = 0) (h17 : S' 17 = 0) (hL : nat (S' 13) (cL c') ∧ cL c' ≤ 5) (h18 : hasIn (S' 18) (cL c')) : BD S' c' := by
  obtain ⟨h1, h2, h3, h4, h5, h6, h7, h8, h9⟩ := h
  have l := h1
  obtain ⟨⟨a1, a2⟩, ⟨b1, b2⟩, ⟨c1, c2⟩, ⟨d1, d2⟩, ⟨e1, e2⟩, ⟨f1, f2⟩, ⟨g1, g2⟩⟩ := l
  refine ⟨?_, ?_, h18, fun p hp => ?_, fun k hk => ?_, fun j hj => ?_, fun j hj => ?_, fun j hj => ?_, fun j hj => by rw [hT] at hj; exact absurd hj (Nat.not_lt_zero j)⟩
  · unfold okCT
    rw [e 12 (by decide) (by decide) (by decide) (by decide), e 19 (by decide) (by decide) (by decide) (by decide), e 14 (by decide) (by decide) (by decide) (by decide), e 15 (by decide) (by decide) (by decide) (by decide), e 16 (by decide) (by decide) (by decide) (by decide), h17, hN, hW, hS, hP, hB, hT]
    exact ⟨⟨a1, a2⟩, ⟨b1, b2⟩, hL, ⟨rfl, by decide⟩, ⟨e1, e2⟩, ⟨f1, f2⟩, g1, g2⟩
  · rw [e 0 (by decide) (by decide) (by decide) (by decide)]; exact h2
  · rw [hN] at hp
    rw [hW]
    obtain ⟨p1, p2, p3, p4, p5, p6⟩ := h4 p hp
    have hp6 : p < 6 := by omega
    refine ⟨?_, ?_, ?_, ?_, ?_, fun k hk => ?_⟩
    · rw [e _ (by omega) (by omega) (by omega) (by omega)]; exact p1
    · rw [e _ (by omega) (by omega) (by omega) (by omega)]; exact p2
    · rw [e _ (by omega) (by omega) (by omega) (by omega)]; exact p3
    · rw [e _ (by omega) (by omega) (by omega) (by omega)]; exact p4
    · rw [e _ (by omega) (by omega) (by omega) (by omega)]; exact p5
    · rw [e _ (by omega) (by omega) (by omega) (by omega)]; exact p6 k hk
  · rw [e _ (by omega) (by omega) (by omega) (by omega), e _ (by omega) (by omega) (by omega) (by omega)]; exact h5 k hk
  · rw [hS] at hj
    rw [e _ (by omega) (by omega) (by omega) (by omega), hN]; exact h6 j hj
  · rw [hP] at hj
    rw [e _ (by omega) (by omega) (by omega) (by omega), e _ (by omega) (by omega) (by omega) (by omega), e _ (by omega) (by omega) (by omega) (by omega), hN, hW]; exact h7 j hj
  · rw [hB] at hj
    rw [e _ (by omega) (by omega) (by omega) (by omega), hN]; exact h8 j hj
theorem VR.keep {S S' : Nat → Int32} {mi mi' : MI} {a i v : Nat} (h : VR S mi a i) (hi : i < 5) (hv : v ≠ i) (hq : ∀ b, a ≤ b → b ≤ a + 3 → mi' b = mi b) (hS : ∀ k, 223 ≤ k → ¬ (k = 223 + v ∨ k = 228 + v ∨ k = 233 + v ∨ (238 + 140 * v ≤ k ∧ k < 378 + 140 * v)) → S' k = S k) (hv5 : v < 5) : VR S' mi' a i := by
  obtain ⟨nc, e, k1, k2, k3, k4, k5⟩ := h.row hq
  have hlen : vFrom e nc ≤ 100 := mv_le (fun k hk => (k1.2.2.1 k hk).2.1)
  have hnc := k1.2.1
  refine ⟨nc, e, k1, ?_, ?_, ?_, fun k hk => ⟨fun j j1 j2 => ?_, ?_, (k5 k hk).2.2⟩⟩
  · rw [hS _ (by omega) (by omega)]; exact k2
  · rw [hS _ (by omega) (by omega)]; exact k3
  · rw [hS _ (by omega) (by omega)]; exact k4
  · have := (k1.2.2.1 k hk).2.1
    rw [hS _ (by omega) (by omega)]; exact (k5 k hk).1 j j1 j2
  · have := (k1.2.2.1 k hk).2.1
    rw [hS _ (by omega) (by omega)]; exact (k5 k hk).2.1
/-- the world but for its tape and its villages -/
theorem RW.vil {S S' : Nat → Int32} {c c' : CT} {mi mi' : MI} {w : Nat} (h : RW S c mi w) (hN : cN c' = cN c) (hW : cW c' = cW c) (hS : cS c' = cS c) (hP : cP c' = cP c) (hB : cB c' = cB c) (hT : cT c' = 0) (h6 : cN c ≤ 6 ∧ cW c ≤ 5 ∧ cS c ≤ 5 ∧ cP c ≤ 8 ∧ cB c ≤ 8) (eS : ∀ k, k < 223 → k ≠ 13 → k ≠ 17 → k ≠ 18 → S' k = S k) (e3 : mi' w 3 = S' 13) (e4 : mi' w 4 = S' 17) (em : ∀ a k, w ≤ a → a ≤ w + 29 → ¬ (a = w ∧ (k = 3 ∨ k = 4)) → mi' a k = mi a k) : RW S' c' mi' w := by
  refine RW.mk (fun a k j hp => ?_)
  have hp2 := hp
  unfold PT at hp
  rw [hN, hW, hS, hP, hB, hT] at hp
  by_cases h34 : a = 0 ∧ (k = 3 ∨ k = 4)
  · rcases hp with ⟨e1, hp⟩ | ⟨g1, g2, g3, hp⟩ | ⟨g1, g2, g3, g4, hp⟩ | ⟨e1, g1, hp⟩ | ⟨e1, g1, hp⟩ | ⟨e1, g1, hp⟩ | ⟨e1, g1, hp⟩ | ⟨e1, g1, hp⟩ | ⟨e1, g1, hp⟩ | ⟨e1, g1, hp⟩ | ⟨e1, g1, hp⟩ | ⟨e1, g1, hp⟩ | ⟨e1, g1, hp⟩ | ⟨e1, g1, hp⟩ | ⟨e1, g1, hp⟩ | ⟨e1, g1, hp⟩
    · rw [h34.1, Nat.add_zero]
      rcases hp with ⟨rfl, rfl⟩ | ⟨rfl, rfl⟩ | ⟨rfl, rfl⟩ | ⟨rfl, rfl⟩ | ⟨rfl, rfl⟩
      · omega
      · omega
      · omega
      · exact e3
      · exact e4
    all_goals (exfalso; omega)
  · have hj : j < 223 ∧ j ≠ 13 ∧ j ≠ 17 ∧ j ≠ 18 ∧ a ≤ 29 := by omega
    rw [eS j hj.1 hj.2.1 hj.2.2.1 hj.2.2.2.1, em (w + a) k (by omega) (by omega) (by omega)]
    refine h.to a k j ?_
    unfold PT
    rcases hp with hp | hp | hp | hp | hp | hp | hp
    · exact Or.inl hp
    · exact Or.inr (Or.inl hp)
    · exact Or.inr (Or.inr (Or.inl hp))
    · exact Or.inr (Or.inr (Or.inr (Or.inl hp)))
    · exact Or.inr (Or.inr (Or.inr (Or.inr (Or.inl hp))))
    · omega
    · exact Or.inr (Or.inr (Or.inr (Or.inr (Or.inr (Or.inr hp)))))
theorem i_village {n n' : Nat} {mi m1 m2 : MI} {mr mr1 : MR} {c : CT} (I : INV n mi mr c) (hc : VilC (mi 174) c n mi mr n' m1 mr1) (hm : VilM (m1 174) c m1 m2) : ∃ c2, INV n' m2 mr1 c2 := by
  rcases hc with ⟨hf, rfl, rfl, rfl⟩ | ⟨hf, rfl, hR1, ho1, h14, hvr⟩
  · rcases hm with ⟨-, rfl⟩ | ⟨hf2, -⟩
    · exact ⟨c, I⟩
    · exact absurd hf2 hf
  · have hn := I.2.1
    have hBD := I.2.2.1
    obtain ⟨⟨hN, hN6⟩, ⟨hW, hW5⟩, ⟨hL, hL5⟩, ⟨hT, hT100⟩, ⟨hS, hS5⟩, ⟨hP, hP8⟩, ⟨hBk, hB8⟩⟩ := hBD.1
    have hL4 : cL c < 5 := lt_of5 hL hf
    have e174 : m1 174 = mi 174 := ho1.fn (fun k => by unfold offVil; omega)
    rw [e174] at hm
    rcases hm with ⟨hf2, -⟩ | ⟨-, ho2, h217, hvm⟩
    · exact absurd hf hf2
    obtain ⟨-, -, -, hCI, hV0, hnum, hIM, hTR⟩ := I
    obtain ⟨hrw, h405, hvrs, hch⟩ := hCI
    have row : ∀ a, a < n → ¬ (153 + 4 * cL c ≤ a ∧ a ≤ 153 + 4 * cL c + 3) → a ≠ 40 → a ≠ 173 → a ≠ 174 → m2 a = mi a := fun a g0 g1 g2 g3 g4 => by
      rw [ho2.fn (fun k => by unfold offVm; omega), ho1.fn (fun k => by unfold offVil; omega)]
    have r173 : ∀ k, ¬ (5 ≤ k ∧ k ≤ 9) → m2 173 k = mi 173 k := fun k hk => by
      rw [ho2 173 k (by unfold offVm; omega), ho1 173 k (by unfold offVil; omega)]
    have r174 : ∀ k, k < 223 → k ≠ 13 → k ≠ 17 → k ≠ 18 → m2 174 k = mi 174 k := fun k g1 g2 g3 g4 => by
      rw [ho2 174 k (by unfold offVm; omega), e174]
    have r40 : ∀ k, m2 40 k = m1 40 k := fun k => ho2 40 k (by unfold offVm; omega)
    have r40b : ∀ a k, 40 ≤ a → a ≤ 40 + 29 → ¬ (a = 40 ∧ (k = 3 ∨ k = 4)) → m2 a k = mi a k := fun a k g1 g2 g3 => by
      rw [ho2 a k (by unfold offVm; omega), ho1 a k (by unfold offVil; omega)]
    have hS174 : ∀ k, 223 ≤ k → ¬ (k = 223 + cL c ∨ k = 228 + cL c ∨ k = 233 + cL c ∨ (238 + 140 * cL c ≤ k ∧ k < 378 + 140 * cL c)) → m2 174 k = mi 174 k := fun k g1 g2 => by
      rw [ho2 174 k (by unfold offVm; omega), e174]
    have hchar : charOK m2 40 := by
      unfold charOK
      rw [row (40 + 4) (by omega) (by omega) (by decide) (by decide) (by decide)]
      exact hch
    have hV : V0 m2 := by
      unfold V0 VOK at *
      rw [row 36 (by omega) (by omega) (by decide) (by decide) (by decide)]
      exact ⟨⟨hV0.1.1, hV0.1.2.1, fun k hk => absurd hk (Nat.not_lt_zero k), fun k hk => absurd hk (Nat.not_lt_zero k)⟩, hV0.2⟩
    have hnm : numOK m2 := fun p hp => by
      rw [row (40 + 18 + 2 * p) (by omega) (by omega) (by omega) (by omega) (by omega)]
      exact hnum p hp
    have htr : TR m2 := by
      unfold TR
      rw [row 34 (by omega) (by omega) (by decide) (by decide) (by decide), r173 25 (by decide), row 35 (by omega) (by omega) (by decide) (by decide) (by decide), row 185 (by omega) (by omega) (by decide) (by decide) (by decide)]
      exact hTR
    have him : ∀ (c' : CT), cL c ≤ cL c' → (∀ a k, a < 186 → ¬ (a = 40 ∧ k = 5) → mr1 a k = mr a k) → IM m2 mr1 c' := fun c' hcl hmr => by
      unfold IM
      rw [row 32 (by omega) (by omega) (by decide) (by decide) (by decide), r173 4 (by decide), row 175 (by omega) (by omega) (by decide) (by decide) (by decide)]
      rcases hIM with h7 | ⟨g1, g2, c2, g3, ⟨q1, q2, q3, q4⟩, g5⟩
      · exact Or.inl h7
      · have hc25 := g3.lim
        refine Or.inr ⟨g1, g2, c2, g3, ⟨?_, ?_, fun i hi => ?_, ?_⟩, by omega⟩
        · exact q1.row hc25.1 (fun a a1 a2 a3 => row a (by omega) (by omega) (by omega) (by omega) (by omega))
        · rw [hmr 70 5 (by decide) (by decide)]
          exact q2
        · exact (q3 i hi).row (fun b b1 b2 => row b (by unfold vAt at *; omega) (by unfold vAt at *; omega) (by unfold vAt at *; omega) (by unfold vAt at *; omega) (by unfold vAt at *; omega))
        · unfold charOK
          rw [row (70 + 4) (by omega) (by omega) (by decide) (by decide) (by decide)]
          exact q4
    cases hv9 : (vilS (mi 174) c).2 with
    | none =>
      rw [hv9] at hvr hvm
      obtain ⟨c3, hmr⟩ := hvr
      obtain ⟨s13, s18⟩ := hvm
      refine ⟨(cN c, cW c, cL c, 0, cS c, cP c, cB c), hR1, by omega, ?_, ⟨?_, ?_, fun i hi => ?_, hchar⟩, hV, hnm, him _ (Nat.le_refl _) (fun a k g1 _ => hmr a k g1), htr⟩
      · exact hBD.vil r174 rfl rfl rfl rfl rfl rfl h217 ⟨by rw [s13]; exact hL, hL5⟩ (by rw [s18]; exact hBD.2.2.1)
      · exact hrw.vil rfl rfl rfl rfl rfl rfl ⟨hN6, hW5, hS5, hP8, hB8⟩ r174 (by rw [r40, c3, s13]) (by rw [r40, h14, h217]) r40b
      · rw [hmr 40 5 (by decide), h405]
        unfold hvOf
        rw [s18]
      · have hi5 : i < cL c := hi
        exact (hvrs i hi5).keep (by omega) (v := cL c) (by omega) (fun b b1 b2 => row b (by unfold vAt at *; omega) (by unfold vAt at *; omega) (by unfold vAt at *; omega) (by unfold vAt at *; omega) (by unfold vAt at *; omega)) hS174 hL4
    | some cs =>
      rw [hv9] at hvr hvm
      obtain ⟨hVS, c3, h405', hmr⟩ := hvr
      obtain ⟨hRS, s13, s18⟩ := hvm
      have e13 : mi 174 13 = nI (cL c) := nI_of_toInt hL
      have hok := (pVil_ok (T := tpe (mi 174)) (E := cT c)).2 cs hv9
      have hVS2 : VS m2 (153 + 4 * cL c) cs := by
        have ev : ∀ b, 153 + 4 * cL c ≤ b → b ≤ 153 + 4 * cL c + 3 → m2 b = m1 b := fun b b1 b2 => ho2.fn (fun k => by unfold offVm; omega)
        refine hVS.off (fun k _ => by rw [ev _ (by omega) (by omega)]) (ev _ (by omega) (by omega)) (ev _ (by omega) (by omega)) ?_
        have hw := hVS.ws
        unfold WS at hw ⊢
        rw [ev _ (by omega) (by omega), ev _ (by omega) (by omega)]
        exact hw
      have h18n : m2 174 18 = nI (cL c) := by rw [s18, e13]
      refine ⟨(cN c, cW c, cL c + 1, 0, cS c, cP c, cB c), hR1, by omega, ?_, ⟨?_, ?_, fun i hi => ?_, hchar⟩, hV, hnm, him _ (Nat.le_succ _) hmr, htr⟩
      · exact hBD.vil r174 rfl rfl rfl rfl rfl rfl h217 ⟨by rw [s13, e13, nI_p1]; exact nI_toInt (by show cL c + 1 < 2147483648; omega), hL4⟩ (Or.inr ⟨cL c, by rw [h18n]; exact nI_toInt (by omega), Nat.lt_succ_self _⟩)
      · exact hrw.vil rfl rfl rfl rfl rfl rfl ⟨hN6, hW5, hS5, hP8, hB8⟩ r174 (by rw [r40, c3, s13]) (by rw [r40, h14, h217]) r40b
      · rw [h405']
        unfold hvOf vAt
        have hz : (nI (cL c)).toInt = (cL c : Int) := nI_toInt (by omega)
        rw [h18n, if_neg (fun h => by rw [h] at hz; simp only [Int32.reduceToInt] at hz; omega), nat_of_toInt hz]
      · have hi5 : i < cL c + 1 := hi
        by_cases e : i = cL c
        · rw [e]
          exact VR_of hVS2 hRS hok.1 hT100 hok.2
        · exact (hvrs i (by omega)).keep (by omega) (v := cL c) (by omega) (fun b b1 b2 => row b (by unfold vAt at *; omega) (by unfold vAt at *; omega) (by unfold vAt at *; omega) (by unfold vAt at *; omega) (by unfold vAt at *; omega)) hS174 hL4
