theorem up2_row {mi : MI} {a b k : Nat} {x : Int32} (h : b ≠ a) : up2 mi a k x b = mi b := by
  funext j
  simp only [up2]
  rw [if_neg (by omega)]
theorem INV.ch {n : Nat} {mi : MI} {mr : MR} {c : CT} (I : INV n mi mr c) : charOK mi 40 := I.2.2.2.1.2.2.2
theorem i_stock {n : Nat} {mi : MI} {mr : MR} {c : CT} (I : INV n mi mr c) (v b : Int32) : ∃ c2, INV n (mStock (cStock mi v b) v b) mr c2 := by
  obtain ⟨hR, hn, ⟨⟨hN, hN6⟩, ⟨hW, hW5⟩, ⟨hL, hL5⟩, ⟨hT, hT100⟩, ⟨hS, hS5⟩, ⟨hP, hP8⟩, ⟨hBk, hB8⟩⟩, hrw⟩ := I.facts
  have hBD := I.2.2.1
  have hch := I.ch
  have hrow : (cStock mi v b) 174 = mi 174 := by
    unfold cStock
    split
    · repeat rw [up2_row (by omega)]
    · rfl
  by_cases hok : okStock (mi 174) v b
  · have e : (mStock (cStock mi v b) v b) = up2 (up2 mi 43 v.toNatClampNeg b) 174 (7 + v.toNatClampNeg) b := by
      unfold mStock
      rw [hrow]
      rw [if_pos hok, show cStock mi v b = up2 mi 43 v.toNatClampNeg b from if_pos hok]
    rw [e]
    obtain ⟨v0, v1, v2⟩ := idxC (b01_n.mpr hok.1) hW
    obtain ⟨b0, b1, b2⟩ := idx99 hok.2.1 hok.2.2
    rw [nat_of_toInt v1]
    refine ⟨c, I.upd (c' := c) ?_ ?_ ?_ rfl (by simp only [up2]; repeat rw [if_neg (by omega)]) (fun k hk => (by simp only [up2]; repeat rw [if_neg (by omega)])) (fun a k h1 h2 _ _ => (by simp only [up2]; repeat rw [if_neg (by omega)]))⟩
    · exact (hBD.upo (by decide)).up (okAt.bot (by omega) ⟨b0, b1, b2⟩)
    · refine RW.mk (fun a k j hp => ?_)
      have h0 := hrw.to a k j hp
      unfold PT at hp
      simp only [up2, true_and]
      repeat' split
      all_goals first | rfl | exact h0 | (exfalso; omega)
    · intro j hj
      show fits .char (.int ((up2 (up2 mi 43 v.toNatClampNeg b) 174 (7 + v.toNatClampNeg) b) 44 j)) = true
      rw [show (up2 (up2 mi 43 v.toNatClampNeg b) 174 (7 + v.toNatClampNeg) b) 44 j = mi 44 j from (by simp only [up2]; repeat rw [if_neg (by omega)])]
      exact hch j hj
  · have e : (mStock (cStock mi v b) v b) = mi := by
      unfold mStock
      rw [hrow, if_neg hok]
      exact if_neg hok
    rw [e]
    exact ⟨c, I⟩
