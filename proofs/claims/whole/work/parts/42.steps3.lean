theorem add_step {n : Nat} {mi : MI} {mr : MR} {c : CT} (I : INV n mi mr c) (y b : Int32) (hy : natTo y 200) (hb : natTo b 100) (hlt : cW c < 5) : INV n (addM (addC mi (cW c) y b (mi 174 19 + 1)) (cW c) y b (mi 174 19 + 1)) mr (cN c, cW c + 1, cL c, cT c, cS c, cP c, cB c) := by
  obtain ⟨hR, hn, ⟨⟨hN, hN6⟩, ⟨hW, hW5⟩, ⟨hL, hL5⟩, ⟨hT, hT100⟩, ⟨hS, hS5⟩, ⟨hP, hP8⟩, ⟨hBk, hB8⟩⟩, hrw⟩ := I.facts
  have hBD := I.2.2.1
  have hch := I.ch
  unfold addM addC
  have eS : ∀ k, ¬ k = 19 → ¬ k = 68 + cW c → ¬ k = 7 + cW c → (up2 (up2 (up2 (up2 (up2 (up2 mi 42 (cW c) y) 43 (cW c) b) 40 2 (mi 174 19 + 1)) 174 (68 + cW c) y) 174 (7 + cW c) b) 174 19 (mi 174 19 + 1)) 174 k = mi 174 k := fun k h1 h2 h3 => by
    simp only [up2, true_and]
    rw [if_neg h1, if_neg h3, if_neg h2, if_neg (by omega), if_neg (by omega), if_neg (by omega)]
  refine I.upd (c' := (cN c, cW c + 1, cL c, cT c, cS c, cP c, cB c)) ?_ ?_ ?_ rfl (eS 18 (by omega) (by omega) (by omega)) (fun k hk => eS k (by omega) (by omega) (by omega)) (fun a k h1 h2 _ _ => by simp only [up2]; repeat rw [if_neg (by omega)])
  · refine BD.cts (S := (up2 (up2 mi 174 (68 + cW c) y) 174 (7 + cW c) b) 174) (c := c) ((hBD.up (okAt.year hlt hy)).up (okAt.bot hlt hb)) (fun k hk => ?_) ⟨⟨?_, hN6⟩, ⟨?_, hlt⟩, ⟨?_, hL5⟩, ⟨?_, hT100⟩, ⟨?_, hS5⟩, ⟨?_, hP8⟩, ⟨?_, hB8⟩⟩ rfl (Nat.le_refl _) (Nat.le_succ _) (fun p p1 p2 => absurd p1 (Nat.not_le.mpr p2)) (fun p p1 p2 => absurd p1 (Nat.not_le.mpr p2)) (fun p p1 p2 => absurd p1 (Nat.not_le.mpr p2)) (fun p p1 p2 => absurd p1 (Nat.not_le.mpr p2)) (fun p p1 p2 => absurd p1 (Nat.not_le.mpr p2))
    · simp only [up2, true_and]
      repeat' split
      all_goals first | rfl | (exfalso; omega)
    · rw [eS 12 (by omega) (by omega) (by omega)]; exact hN
    · rw [up2_s]; exact nat_inc hW (by omega)
    · rw [eS 13 (by omega) (by omega) (by omega)]; exact hL
    · rw [eS 17 (by omega) (by omega) (by omega)]; exact hT
    · rw [eS 14 (by omega) (by omega) (by omega)]; exact hS
    · rw [eS 15 (by omega) (by omega) (by omega)]; exact hP
    · rw [eS 16 (by omega) (by omega) (by omega)]; exact hBk
  · refine RW.mk (fun a k j hp => ?_)
    simp only [up2, true_and]
    rcases PT.dec (c := c) hp with hp | ⟨p, p1, p2, hp⟩ | ⟨p1, p2, hp⟩ | ⟨p1, p2, hp⟩ | ⟨p1, p2, hp⟩ | ⟨p1, p2, hp⟩ | ⟨p1, p2, hp⟩
    · have h0 := hrw.to a k j hp
      unfold PT at hp
      rcases hp with ⟨e1, hp⟩ | ⟨g1, g2, g3, hp⟩ | ⟨g1, g2, g3, g4, hp⟩ | ⟨e1, g1, hp⟩ | ⟨e1, g1, hp⟩ | ⟨e1, g1, hp⟩ | ⟨e1, g1, hp⟩ | ⟨e1, g1, hp⟩ | ⟨e1, g1, hp⟩ | ⟨e1, g1, hp⟩ | ⟨e1, g1, hp⟩ | ⟨e1, g1, hp⟩ | ⟨e1, g1, hp⟩ | ⟨e1, g1, hp⟩ | ⟨e1, g1, hp⟩ | ⟨e1, g1, hp⟩
      all_goals first | ((repeat rw [if_neg (by omega)]); exact h0) | ((repeat' split); all_goals first | rfl | exact h0 | (exfalso; omega))
    all_goals first | exact absurd p1 (Nat.not_le.mpr p2) | skip
    have q9 : k < cW c + 1 := p2
    repeat' split
    all_goals first | rfl | (exfalso; omega)
  · intro j hj
    have q := hch j hj
    simp only [up2]
    repeat rw [if_neg (by omega)]
    exact q
theorem idx199 {x : Int32} (h1 : 0 ≤ x) (h : x < 200) : natTo x 200 := by
  simp only [Int32.le_iff_toInt_le, Int32.lt_iff_toInt_lt, Int32.reduceToInt] at h1 h
  exact ⟨x.toInt.toNat, by omega, by omega⟩
theorem i_vintage {n : Nat} {mi : MI} {mr : MR} {c : CT} (I : INV n mi mr c) (y b : Int32) : ∃ c2, INV n (mVintage (cVintage mi y b) y b) mr c2 := by
  have hW := I.2.2.1.1.2.1.1
  have hrow : (cVintage mi y b) 174 = mi 174 := by
    unfold cVintage
    split
    · unfold addC
      repeat rw [up2_row (by omega)]
    · rfl
  unfold mVintage
  rw [hrow]
  by_cases hok : okVintage (mi 174) y b
  · rw [if_pos hok, show cVintage mi y b = addC mi (mi 174 19).toNatClampNeg y b (mi 174 19 + 1) from if_pos hok, nat_of_toInt hW]
    exact ⟨_, add_step I y b (idx199 hok.1.1.1 hok.1.1.2) (idx99 hok.1.2.1 hok.1.2.2) (lt_of5 hW hok.2)⟩
  · rw [if_neg hok, show cVintage mi y b = mi from if_neg hok]
    exact ⟨c, I⟩
