theorem bot_step {n : Nat} {mi : MI} {mr : MR} {c : CT} (I : INV n mi mr c) {v : Nat} {x : Int32} (hv : v < cW c) (hx : natTo x 100) : INV n (up2 (up2 mi 43 v x) 174 (7 + v) x) mr c := by
  obtain ⟨hR, hn, ⟨⟨hN, hN6⟩, ⟨hW, hW5⟩, ⟨hL, hL5⟩, ⟨hT, hT100⟩, ⟨hS, hS5⟩, ⟨hP, hP8⟩, ⟨hBk, hB8⟩⟩, hrw⟩ := I.facts
  have hBD := I.2.2.1
  have hch := I.ch
  skip
  refine I.upd (c' := c) ?_ ?_ ?_ rfl (by simp only [up2]; repeat rw [if_neg (by omega)]) (fun k hk => (by simp only [up2]; repeat rw [if_neg (by omega)])) (fun a k h1 h2 _ _ => (by simp only [up2]; repeat rw [if_neg (by omega)]))
  · exact (hBD.upo (by omega)).up (okAt.bot (by omega) hx)
  · refine RW.mk (fun a k j hp => ?_)
    simp only [up2, true_and]
    have h0 := hrw.to a k j hp
    unfold PT at hp
    rcases hp with ⟨e1, hp⟩ | ⟨g1, g2, g3, hp⟩ | ⟨g1, g2, g3, g4, hp⟩ | ⟨e1, g1, hp⟩ | ⟨e1, g1, hp⟩ | ⟨e1, g1, hp⟩ | ⟨e1, g1, hp⟩ | ⟨e1, g1, hp⟩ | ⟨e1, g1, hp⟩ | ⟨e1, g1, hp⟩ | ⟨e1, g1, hp⟩ | ⟨e1, g1, hp⟩ | ⟨e1, g1, hp⟩ | ⟨e1, g1, hp⟩ | ⟨e1, g1, hp⟩ | ⟨e1, g1, hp⟩
    all_goals first | ((repeat rw [if_neg (by omega)]); exact h0) | ((repeat' split); all_goals first | rfl | exact h0 | (exfalso; omega))
  · intro j hj
    have q := hch j hj
    simp only [up2]
    repeat rw [if_neg (by omega)]
    exact q
theorem has_step {n : Nat} {mi : MI} {mr : MR} {c : CT} (I : INV n mi mr c) {p : Nat} {x : Int32} (hp : p < cN c) (hx : hasIn x (cW c)) : INV n (up2 (up2 mi (58 + 2 * p) 5 x) 174 (1 + p) x) mr c := by
  obtain ⟨hR, hn, ⟨⟨hN, hN6⟩, ⟨hW, hW5⟩, ⟨hL, hL5⟩, ⟨hT, hT100⟩, ⟨hS, hS5⟩, ⟨hP, hP8⟩, ⟨hBk, hB8⟩⟩, hrw⟩ := I.facts
  have hBD := I.2.2.1
  have hch := I.ch
  skip
  refine I.upd (c' := c) ?_ ?_ ?_ rfl (by simp only [up2]; repeat rw [if_neg (by omega)]) (fun k hk => (by simp only [up2]; repeat rw [if_neg (by omega)])) (fun a k h1 h2 _ _ => (by simp only [up2]; repeat rw [if_neg (by omega)]))
  · exact (hBD.upo (by omega)).up (okAt.has (by omega) hx)
  · refine RW.mk (fun a k j hp => ?_)
    simp only [up2, true_and]
    have h0 := hrw.to a k j hp
    unfold PT at hp
    rcases hp with ⟨e1, hp⟩ | ⟨g1, g2, g3, hp⟩ | ⟨g1, g2, g3, g4, hp⟩ | ⟨e1, g1, hp⟩ | ⟨e1, g1, hp⟩ | ⟨e1, g1, hp⟩ | ⟨e1, g1, hp⟩ | ⟨e1, g1, hp⟩ | ⟨e1, g1, hp⟩ | ⟨e1, g1, hp⟩ | ⟨e1, g1, hp⟩ | ⟨e1, g1, hp⟩ | ⟨e1, g1, hp⟩ | ⟨e1, g1, hp⟩ | ⟨e1, g1, hp⟩ | ⟨e1, g1, hp⟩
    all_goals first | ((repeat rw [if_neg (by omega)]); exact h0) | ((repeat' split); all_goals first | rfl | exact h0 | (exfalso; omega))
  · intro j hj
    have q := hch j hj
    simp only [up2]
    repeat rw [if_neg (by omega)]
    exact q
theorem up2_comm {mi : MI} {a b k j : Nat} {x y : Int32} (h : a ≠ b) : up2 (up2 mi a k x) b j y = up2 (up2 mi b j y) a k x := by
  funext i l
  simp only [up2]
  by_cases h1 : i = b ∧ l = j
  · rw [if_pos h1, if_neg (by omega), if_pos h1]
  · rw [if_neg h1]
    by_cases h2 : i = a ∧ l = k
    · rw [if_pos h2, if_pos h2]
    · rw [if_neg h2, if_neg h2, if_neg h1]
theorem dec_natTo {x : Int32} {b : Nat} (h : natTo x b) (h0 : ¬ x = 0) (hb : b < 1000) : natTo (x - 1) b := by
  obtain ⟨k, h1, h2⟩ := h
  rw [← Int32.toInt_inj] at h0
  simp only [Int32.reduceToInt] at h0
  refine ⟨k - 1, ?_, by omega⟩
  rw [subOne h1 (by omega)]
  omega
theorem i_pour {n : Nat} {mi : MI} {mr : MR} {c : CT} (I : INV n mi mr c) (p v : Int32) : ∃ c2, INV n (mPour (cPour mi p v) p v) mr c2 := by
  obtain ⟨hR, hn, ⟨⟨hN, hN6⟩, ⟨hW, hW5⟩, ⟨hL, hL5⟩, ⟨hT, hT100⟩, ⟨hS, hS5⟩, ⟨hP, hP8⟩, ⟨hBk, hB8⟩⟩, hrw⟩ := I.facts
  by_cases hok : okPour (mi 174) p v
  · obtain ⟨a, a1, a2⟩ := idxC (b01_n.mpr hok.1) hN
    obtain ⟨b, b1, b2⟩ := idxC (b01_n.mpr hok.2) hW
    by_cases hz : mi 174 (7 + b) = 0
    · have e : cPour mi p v = mi := by
        unfold cPour
        rw [if_pos hok, nat_of_toInt b1, if_pos hz]
      rw [e]
      unfold mPour
      rw [if_pos hok, nat_of_toInt b1, if_pos hz]
      exact ⟨c, I⟩
    · have e : cPour mi p v = up2 (up2 mi 43 b (mi 174 (7 + b) - 1)) (58 + 2 * a) 5 v := by
        unfold cPour
        rw [if_pos hok, nat_of_toInt b1, nat_of_toInt a1, if_neg hz]
      have hrow : cPour mi p v 174 = mi 174 := by
        rw [e, up2_row (by omega), up2_row (by omega)]
      unfold mPour
      rw [hrow, if_pos hok, nat_of_toInt b1, nat_of_toInt a1, if_neg hz, e, up2_comm (a := 58 + 2 * a) (b := 174) (by omega)]
      have I1 := bot_step I (v := b) (x := mi 174 (7 + b) - 1) b2 (dec_natTo (I.2.2.1.2.2.2.2.1 b (by omega)).2 hz (by decide))
      exact ⟨c, has_step I1 a2 (Or.inr ⟨b, b1, b2⟩)⟩
  · have e : cPour mi p v = mi := by
      unfold cPour
      rw [if_neg hok]
    rw [e]
    unfold mPour
    rw [if_neg hok]
    exact ⟨c, I⟩
