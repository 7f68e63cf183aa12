theorem up2_row {mi : MI} {a b k : Nat} {x : Int32} (h : b ≠ a) : up2 mi a k x b = mi b := by
  funext j
  simp only [up2]
  rw [if_neg (by omega)]
theorem idx9 {x : Int32} (h1 : 0 ≤ x) (h : x ≤ 9) : ∃ k : Nat, x.toInt = (k : Int) ∧ k < 10 := by
  simp only [Int32.le_iff_toInt_le, Int32.reduceToInt] at h1 h
  exact ⟨x.toInt.toNat, by omega, by omega⟩
theorem okAt.row {c : CT} {p k : Nat} {x : Int32} (hp : p < 6) (hk : k < 4) (h : natTo x 10) : okAt c (44 + 4 * p + k) x := by
  unfold okAt
  refine ⟨?_, ?_, ?_, ?_, ?_, ?_, ?_, ?_, fun _ _ => h, ?_, ?_, ?_, ?_, ?_⟩ <;> (intros; omega)
theorem INV.ch {n : Nat} {mi : MI} {mr : MR} {c : CT} (I : INV n mi mr c) : charOK mi 40 := I.2.2.2.1.2.2.2
theorem BD.cts {S S' : Nat → Int32} {c c' : CT} (h : BD S c) (hs : ∀ k, ¬ (12 ≤ k ∧ k ≤ 17 ∨ k = 19) → S' k = S k) (hc : okCT S' c') (eL : cL c' = cL c) (hN : cN c ≤ cN c') (hW : cW c ≤ cW c')
    (nP : ∀ p, cN c ≤ p → p < cN c' → okPer S p (cW c')) (nS : ∀ j, cS c ≤ j → j < cS c' → natTo (S (73 + j)) (cN c')) (nN : ∀ j, cP c ≤ j → j < cP c' → S (83 + j) = 0 ∨ (natTo (S (91 + j)) (cN c') ∧ (S (83 + j) = 1 → natTo (S (99 + j)) (cW c'))))
    (nB : ∀ j, cB c ≤ j → j < cB c' → natTo (S (107 + j)) (cN c')) (nT : ∀ j, cT c ≤ j → j < cT c' → natTo (S (123 + j)) 128) : BD S' c' := by
  obtain ⟨h1, h2, h3, h4, h5, h6, h7, h8, h9⟩ := h
  have mono : ∀ {x : Int32} {a b : Nat}, natTo x a → a ≤ b → natTo x b := fun ⟨k, q1, q2⟩ q3 => ⟨k, q1, by omega⟩
  have mono2 : ∀ {x : Int32} {a b : Nat}, hasIn x a → a ≤ b → hasIn x b := fun q q3 => q.elim Or.inl (fun ⟨k, q1, q2⟩ => Or.inr ⟨k, q1, by omega⟩)
  have l1 := hc.1.2
  refine ⟨hc, ?_, ?_, ?_, ?_, ?_, ?_, ?_, ?_⟩
  · rw [hs 0 (by omega)]; exact h2
  · rw [hs 18 (by omega), eL]; exact h3
  · intro p hp
    have q : okPer S p (cW c') := by
      by_cases e : p < cN c
      · obtain ⟨a1, a2, a3, a4, a5, a6⟩ := h4 p e
        exact ⟨a1, a2, a3, a4, mono2 a5 hW, a6⟩
      · exact nP p (by omega) hp
    obtain ⟨a1, a2, a3, a4, a5, a6⟩ := q
    have hp6 : p < 6 := by omega
    refine ⟨?_, ?_, ?_, ?_, ?_, fun k hk => ?_⟩
    · rw [hs _ (by omega)]; exact a1
    · rw [hs _ (by omega)]; exact a2
    · rw [hs _ (by omega)]; exact a3
    · rw [hs _ (by omega)]; exact a4
    · rw [hs _ (by omega)]; exact a5
    · rw [hs _ (by omega)]; exact a6 k hk
  · intro k hk
    rw [hs _ (by omega), hs _ (by omega)]
    exact h5 k hk
  · intro j hj
    rw [hs _ (by omega)]
    by_cases e : j < cS c
    · exact mono (h6 j e) hN
    · exact nS j (by omega) hj
  · intro j hj
    rw [hs _ (by omega), hs _ (by omega), hs _ (by omega)]
    by_cases e : j < cP c
    · exact (h7 j e).elim Or.inl (fun q => Or.inr ⟨mono q.1 hN, fun q2 => mono (q.2 q2) hW⟩)
    · exact nN j (by omega) hj
  · intro j hj
    rw [hs _ (by omega)]
    by_cases e : j < cB c
    · exact mono (h8 j e) hN
    · exact nB j (by omega) hj
  · intro j hj
    rw [hs _ (by omega)]
    by_cases e : j < cT c
    · exact h9 j e
    · exact nT j (by omega) hj
theorem PT.dec {c c' : CT} {a k j : Nat} (h : PT c' a k j) : PT c a k j ∨ (∃ p, cN c ≤ p ∧ p < cN c' ∧ ((a = 18 + 2 * p ∧ ((k = 1 ∧ j = 20 + p) ∨ (k = 2 ∧ j = 26 + p) ∨ (k = 3 ∧ j = 32 + p) ∨ (k = 4 ∧ j = 38 + p) ∨ (k = 5 ∧ j = 1 + p))) ∨ (a = 18 + 2 * p + 1 ∧ k < 4 ∧ j = 44 + 4 * p + k))) ∨ (cW c ≤ k ∧ k < cW c' ∧ ((a = 2 ∧ j = 68 + k) ∨ (a = 3 ∧ j = 7 + k))) ∨ (cT c ≤ k ∧ k < cT c' ∧ a = 4 ∧ j = 123 + k) ∨ (cS c ≤ k ∧ k < cS c' ∧ ((a = 7 ∧ j = 73 + k) ∨ (a = 8 ∧ j = 78 + k))) ∨ (cP c ≤ k ∧ k < cP c' ∧ ((a = 10 ∧ j = 83 + k) ∨ (a = 11 ∧ j = 91 + k) ∨ (a = 12 ∧ j = 99 + k))) ∨ (cB c ≤ k ∧ k < cB c' ∧ ((a = 15 ∧ j = 107 + k) ∨ (a = 16 ∧ j = 115 + k))) := by
  unfold PT at h
  rcases h with h | ⟨h1, h2, h3, hp⟩ | ⟨h1, h2, h3, h4, hp⟩ | ⟨rfl, h1, rfl⟩ | ⟨rfl, h1, rfl⟩ | ⟨rfl, h1, rfl⟩ | h | ⟨rfl, h1, rfl⟩ | ⟨rfl, h1, rfl⟩ | h | ⟨rfl, h1, rfl⟩ | ⟨rfl, h1, rfl⟩ | ⟨rfl, h1, rfl⟩ | h | ⟨rfl, h1, rfl⟩ | ⟨rfl, h1, rfl⟩
  · exact Or.inl (PT.cell (Or.inl h))
  · by_cases e : (a - 18) / 2 < cN c
    · refine Or.inl ?_
      rw [show a = 18 + 2 * ((a - 18) / 2) by omega]
      exact PT.per e hp
    · exact Or.inr (Or.inl ⟨(a - 18) / 2, by omega, by omega, Or.inl ⟨by omega, hp⟩⟩)
  · by_cases e : (a - 18) / 2 < cN c
    · refine Or.inl ?_
      rw [show a = 18 + 2 * ((a - 18) / 2) + 1 by omega, hp]
      exact PT.row e h4
    · exact Or.inr (Or.inl ⟨(a - 18) / 2, by omega, by omega, Or.inr ⟨by omega, h4, hp⟩⟩)
  · by_cases e : k < cW c
    · exact Or.inl (PT.vin e).1
    · exact Or.inr (Or.inr (Or.inl ⟨by omega, h1, Or.inl ⟨rfl, rfl⟩⟩))
  · by_cases e : k < cW c
    · exact Or.inl (PT.vin e).2
    · exact Or.inr (Or.inr (Or.inl ⟨by omega, h1, Or.inr ⟨rfl, rfl⟩⟩))
  · by_cases e : k < cT c
    · exact Or.inl (PT.tape e)
    · exact Or.inr (Or.inr (Or.inr (Or.inl ⟨by omega, h1, rfl, rfl⟩)))
  · exact Or.inl (PT.cell (Or.inr (Or.inl h)))
  · by_cases e : k < cS c
    · exact Or.inl (PT.seen e).1
    · exact Or.inr (Or.inr (Or.inr (Or.inr (Or.inl ⟨by omega, h1, Or.inl ⟨rfl, rfl⟩⟩))))
  · by_cases e : k < cS c
    · exact Or.inl (PT.seen e).2
    · exact Or.inr (Or.inr (Or.inr (Or.inr (Or.inl ⟨by omega, h1, Or.inr ⟨rfl, rfl⟩⟩))))
  · exact Or.inl (PT.cell (Or.inr (Or.inr (Or.inl h))))
  · by_cases e : k < cP c
    · exact Or.inl (PT.night e).1
    · exact Or.inr (Or.inr (Or.inr (Or.inr (Or.inr (Or.inl ⟨by omega, h1, Or.inl ⟨rfl, rfl⟩⟩)))))
  · by_cases e : k < cP c
    · exact Or.inl (PT.night e).2.1
    · exact Or.inr (Or.inr (Or.inr (Or.inr (Or.inr (Or.inl ⟨by omega, h1, Or.inr (Or.inl ⟨rfl, rfl⟩)⟩)))))
  · by_cases e : k < cP c
    · exact Or.inl (PT.night e).2.2
    · exact Or.inr (Or.inr (Or.inr (Or.inr (Or.inr (Or.inl ⟨by omega, h1, Or.inr (Or.inr ⟨rfl, rfl⟩)⟩)))))
  · exact Or.inl (PT.cell (Or.inr (Or.inr (Or.inr h))))
  · by_cases e : k < cB c
    · exact Or.inl (PT.book e).1
    · exact Or.inr (Or.inr (Or.inr (Or.inr (Or.inr (Or.inr ⟨by omega, h1, Or.inl ⟨rfl, rfl⟩⟩)))))
  · by_cases e : k < cB c
    · exact Or.inl (PT.book e).2
    · exact Or.inr (Or.inr (Or.inr (Or.inr (Or.inr (Or.inr ⟨by omega, h1, Or.inr ⟨rfl, rfl⟩⟩)))))
theorem i_stock {n : Nat} {mi : MI} {mr : MR} {c : CT} (I : INV n mi mr c) (v b : Int32) : ∃ c2, INV n (mStock (cStock mi v b) v b) mr c2 := by
  obtain ⟨hR, hn, ⟨⟨hN, hN6⟩, ⟨hW, hW5⟩, ⟨hL, hL5⟩, ⟨hT, hT100⟩, ⟨hS, hS5⟩, ⟨hP, hP8⟩, ⟨hBk, hB8⟩⟩, hrw⟩ := I.facts
  have hBD := I.2.2.1
  have hch := I.ch
  have hrow : (cStock mi v b) 174 = mi 174 := by
    unfold cStock
    split
    · repeat rw [up2_row (by omega)]
    · rfl
  by_cases hok : okStock (mi 174) v b
  · have e : (mStock (cStock mi v b) v b) = up2 (up2 mi 43 v.toNatClampNeg b) 174 (7 + v.toNatClampNeg) b := by
      unfold mStock
      rw [hrow]
      rw [if_pos hok, show cStock mi v b = up2 mi 43 v.toNatClampNeg b from if_pos hok]
    rw [e]
    obtain ⟨v0, v1, v2⟩ := idxC (b01_n.mpr hok.1) hW
    obtain ⟨b0, b1, b2⟩ := idx99 hok.2.1 hok.2.2
    rw [nat_of_toInt v1]
    refine ⟨c, I.upd (c' := c) ?_ ?_ ?_ rfl (by simp only [up2]; repeat rw [if_neg (by omega)]) (fun k hk => (by simp only [up2]; repeat rw [if_neg (by omega)])) (fun a k h1 h2 _ _ => (by simp only [up2]; repeat rw [if_neg (by omega)]))⟩
    · exact (hBD.upo (by decide)).up (okAt.bot (by omega) ⟨b0, b1, b2⟩)
    · refine RW.mk (fun a k j hp => ?_)
      simp only [up2, true_and]
      have h0 := hrw.to a k j hp
      unfold PT at hp
      rcases hp with ⟨e1, hp⟩ | ⟨g1, g2, g3, hp⟩ | ⟨g1, g2, g3, g4, hp⟩ | ⟨e1, g1, hp⟩ | ⟨e1, g1, hp⟩ | ⟨e1, g1, hp⟩ | ⟨e1, g1, hp⟩ | ⟨e1, g1, hp⟩ | ⟨e1, g1, hp⟩ | ⟨e1, g1, hp⟩ | ⟨e1, g1, hp⟩ | ⟨e1, g1, hp⟩ | ⟨e1, g1, hp⟩ | ⟨e1, g1, hp⟩ | ⟨e1, g1, hp⟩ | ⟨e1, g1, hp⟩
      all_goals first | ((repeat rw [if_neg (by omega)]); exact h0) | ((repeat' split); all_goals first | rfl | exact h0 | (exfalso; omega))
    · intro j hj
      have q := hch j hj
      simp only [up2]
      repeat rw [if_neg (by omega)]
      exact q
  · have e : (mStock (cStock mi v b) v b) = mi := by
      unfold mStock
      rw [hrow, if_neg hok]
      exact if_neg hok
    rw [e]
    exact ⟨c, I⟩
theorem i_row {n : Nat} {mi : MI} {mr : MR} {c : CT} (I : INV n mi mr c) (p k x : Int32) : ∃ c2, INV n (mRow (cRow mi p k x) p k x) mr c2 := by
  obtain ⟨hR, hn, ⟨⟨hN, hN6⟩, ⟨hW, hW5⟩, ⟨hL, hL5⟩, ⟨hT, hT100⟩, ⟨hS, hS5⟩, ⟨hP, hP8⟩, ⟨hBk, hB8⟩⟩, hrw⟩ := I.facts
  have hBD := I.2.2.1
  have hch := I.ch
  have hrow : (cRow mi p k x) 174 = mi 174 := by
    unfold cRow
    split
    · repeat rw [up2_row (by omega)]
    · rfl
  by_cases hok : okRow (mi 174) p k x
  · have e : (mRow (cRow mi p k x) p k x) = up2 (up2 mi (58 + 2 * p.toNatClampNeg + 1) k.toNatClampNeg x) 174 (44 + 4 * p.toNatClampNeg + k.toNatClampNeg) x := by
      unfold mRow
      rw [hrow]
      rw [if_pos hok, show cRow mi p k x = up2 mi (58 + 2 * p.toNatClampNeg + 1) k.toNatClampNeg x from if_pos hok]
    rw [e]
    obtain ⟨a, a1, a2⟩ := idxC (b01_n.mpr (And.intro hok.1.1 hok.1.2.1)) hN
    obtain ⟨b, b1, b2⟩ := idx3 hok.1.2.2.1 hok.1.2.2.2
    obtain ⟨y, y1, y2⟩ := idx9 hok.2.1.1 hok.2.1.2
    rw [nat_of_toInt a1, nat_of_toInt b1]
    refine ⟨c, I.upd (c' := c) ?_ ?_ ?_ rfl (by simp only [up2]; repeat rw [if_neg (by omega)]) (fun k hk => (by simp only [up2]; repeat rw [if_neg (by omega)])) (fun a k h1 h2 _ _ => (by simp only [up2]; repeat rw [if_neg (by omega)]))⟩
    · exact (hBD.upo (by omega)).up (okAt.row (by omega) b2 ⟨y, y1, y2⟩)
    · refine RW.mk (fun a k j hp => ?_)
      simp only [up2, true_and]
      have h0 := hrw.to a k j hp
      unfold PT at hp
      rcases hp with ⟨e1, hp⟩ | ⟨g1, g2, g3, hp⟩ | ⟨g1, g2, g3, g4, hp⟩ | ⟨e1, g1, hp⟩ | ⟨e1, g1, hp⟩ | ⟨e1, g1, hp⟩ | ⟨e1, g1, hp⟩ | ⟨e1, g1, hp⟩ | ⟨e1, g1, hp⟩ | ⟨e1, g1, hp⟩ | ⟨e1, g1, hp⟩ | ⟨e1, g1, hp⟩ | ⟨e1, g1, hp⟩ | ⟨e1, g1, hp⟩ | ⟨e1, g1, hp⟩ | ⟨e1, g1, hp⟩
      all_goals first | ((repeat rw [if_neg (by omega)]); exact h0) | ((repeat' split); all_goals first | rfl | exact h0 | (exfalso; omega))
    · intro j hj
      have q := hch j hj
      simp only [up2]
      repeat rw [if_neg (by omega)]
      exact q
  · have e : (mRow (cRow mi p k x) p k x) = mi := by
      unfold mRow
      rw [hrow, if_neg hok]
      exact if_neg hok
    rw [e]
    exact ⟨c, I⟩
theorem i_dry {n : Nat} {mi : MI} {mr : MR} {c : CT} (I : INV n mi mr c) (p : Int32) : ∃ c2, INV n (mDry (cDry mi p) p) mr c2 := by
  obtain ⟨hR, hn, ⟨⟨hN, hN6⟩, ⟨hW, hW5⟩, ⟨hL, hL5⟩, ⟨hT, hT100⟩, ⟨hS, hS5⟩, ⟨hP, hP8⟩, ⟨hBk, hB8⟩⟩, hrw⟩ := I.facts
  have hBD := I.2.2.1
  have hch := I.ch
  have hrow : (cDry mi p) 174 = mi 174 := by
    unfold cDry
    split
    · rename_i hh
      obtain ⟨a, a1, a2⟩ := idxC (b01_n.mpr hh) hN
      rw [nat_of_toInt a1, up2_row (by omega)]
    · rfl
  by_cases hok : 0 ≤ p ∧ p < mi 174 12
  · have e : (mDry (cDry mi p) p) = up2 (up2 mi (58 + 2 * p.toNatClampNeg) 5 (-1)) 174 (1 + p.toNatClampNeg) (-1) := by
      unfold mDry
      rw [hrow]
      rw [if_pos hok, show cDry mi p = up2 mi (58 + 2 * p.toNatClampNeg) 5 (-1) from if_pos hok]
    rw [e]
    obtain ⟨a, a1, a2⟩ := idxC (b01_n.mpr hok) hN
    rw [nat_of_toInt a1]
    refine ⟨c, I.upd (c' := c) ?_ ?_ ?_ rfl (by simp only [up2]; repeat rw [if_neg (by omega)]) (fun k hk => (by simp only [up2]; repeat rw [if_neg (by omega)])) (fun a k h1 h2 _ _ => (by simp only [up2]; repeat rw [if_neg (by omega)]))⟩
    · exact (hBD.upo (by omega)).up (okAt.has (by omega) (Or.inl rfl))
    · refine RW.mk (fun a k j hp => ?_)
      simp only [up2, true_and]
      have h0 := hrw.to a k j hp
      unfold PT at hp
      rcases hp with ⟨e1, hp⟩ | ⟨g1, g2, g3, hp⟩ | ⟨g1, g2, g3, g4, hp⟩ | ⟨e1, g1, hp⟩ | ⟨e1, g1, hp⟩ | ⟨e1, g1, hp⟩ | ⟨e1, g1, hp⟩ | ⟨e1, g1, hp⟩ | ⟨e1, g1, hp⟩ | ⟨e1, g1, hp⟩ | ⟨e1, g1, hp⟩ | ⟨e1, g1, hp⟩ | ⟨e1, g1, hp⟩ | ⟨e1, g1, hp⟩ | ⟨e1, g1, hp⟩ | ⟨e1, g1, hp⟩
      all_goals first | ((repeat rw [if_neg (by omega)]); exact h0) | ((repeat' split); all_goals first | rfl | exact h0 | (exfalso; omega))
    · intro j hj
      have q := hch j hj
      simp only [up2]
      repeat rw [if_neg (by omega)]
      exact q
  · have e : (mDry (cDry mi p) p) = mi := by
      unfold mDry
      rw [hrow, if_neg hok]
      exact if_neg hok
    rw [e]
    exact ⟨c, I⟩
