theorem okAt.tape {c : CT} {k : Nat} {x : Int32} (hk : k < 100) (h : natTo x 128) : okAt c (123 + k) x := by
  unfold okAt
  refine ⟨?_, ?_, ?_, ?_, ?_, ?_, ?_, ?_, ?_, ?_, ?_, ?_, ?_, fun _ _ => h⟩ <;> (intros; omega)
theorem okAt.year {c : CT} {k : Nat} {x : Int32} (hk : k < 5) (h : natTo x 200) : okAt c (68 + k) x := by
  unfold okAt
  refine ⟨?_, ?_, ?_, ?_, ?_, ?_, ?_, ?_, ?_, fun _ _ => h, ?_, ?_, ?_, ?_⟩ <;> (intros; omega)
theorem idx127 {x : Int32} (h1 : 0 ≤ x) (h : x ≤ 127) : ∃ k : Nat, x.toInt = (k : Int) ∧ k < 128 := by
  simp only [Int32.le_iff_toInt_le, Int32.reduceToInt] at h1 h
  exact ⟨x.toInt.toNat, by omega, by omega⟩
theorem chr_fits {x : Int32} (h1 : 0 ≤ x) (h2 : x ≤ 127) : fits .char (.int x) = true := by
  obtain ⟨k, hk, hl⟩ := idx127 h1 h2
  have e : ∀ k : Fin 128, fits .char (.int (nI k.1)) = true := by decide
  rw [nI_of_toInt hk]
  exact e ⟨k, hl⟩
theorem nat_inc {x : Int32} {N : Nat} (h : nat x N) (hN : N < 1000) : nat (x + 1) (N + 1) := ix_add h (by decide) (by omega)
theorem i_feed {n : Nat} {mi : MI} {mr : MR} {c : CT} (I : INV n mi mr c) (x : Int32) : ∃ c2, INV n (mFeed (cFeed mi x) x) mr c2 := by
  obtain ⟨hR, hn, ⟨⟨hN, hN6⟩, ⟨hW, hW5⟩, ⟨hL, hL5⟩, ⟨hT, hT100⟩, ⟨hS, hS5⟩, ⟨hP, hP8⟩, ⟨hBk, hB8⟩⟩, hrw⟩ := I.facts
  have hBD := I.2.2.1
  have hch := I.ch
  have hrow : (cFeed mi x) 174 = mi 174 := by
    unfold cFeed
    split
    · repeat rw [up2_row (by omega)]
    · rfl
  by_cases hok : (0 ≤ x ∧ x ≤ 127) ∧ mi 174 17 < 100
  · have e : (mFeed (cFeed mi x) x) = up2 (up2 (up2 (up2 mi 40 4 (mi 174 17 + 1)) 44 (mi 174 17).toNatClampNeg x) 174 (123 + (mi 174 17).toNatClampNeg) x) 174 17 (mi 174 17 + 1) := by
      unfold mFeed
      rw [hrow]
      rw [if_pos hok, show cFeed mi x = up2 (up2 mi 40 4 (mi 174 17 + 1)) 44 (mi 174 17).toNatClampNeg x from if_pos hok]
    rw [e]
    obtain ⟨b0, b1, b2⟩ := idx127 hok.1.1 hok.1.2
    have hlt := lt_of100 hT hok.2
    rw [nat_of_toInt hT]
    refine ⟨(cN c, cW c, cL c, cT c + 1, cS c, cP c, cB c), I.upd (c' := (cN c, cW c, cL c, cT c + 1, cS c, cP c, cB c)) ?_ ?_ ?_ rfl (by simp only [up2]; repeat rw [if_neg (by omega)]) (fun k hk => (by simp only [up2]; repeat rw [if_neg (by omega)])) (fun a k h1 h2 _ _ => (by simp only [up2]; repeat rw [if_neg (by omega)]))⟩
    · have eS : ∀ k, ¬ k = 17 → ¬ k = 123 + cT c → (up2 (up2 (up2 (up2 mi 40 4 (mi 174 17 + 1)) 44 (cT c) x) 174 (123 + cT c) x) 174 17 (mi 174 17 + 1)) 174 k = mi 174 k := fun k h1 h2 => by
        simp only [up2, true_and]
        rw [if_neg h1, if_neg h2, if_neg (by omega), if_neg (by omega)]
      refine BD.cts (S := (up2 mi 174 (123 + cT c) x) 174) (c := c) (hBD.up (okAt.tape (by omega) ⟨b0, b1, b2⟩)) (fun k hk => ?_) ⟨⟨?_, hN6⟩, ⟨?_, hW5⟩, ⟨?_, hL5⟩, ⟨?_, ?_⟩, ⟨?_, hS5⟩, ⟨?_, hP8⟩, ⟨?_, hB8⟩⟩ rfl (Nat.le_refl _) (Nat.le_refl _) (fun p p1 p2 => absurd p1 (Nat.not_le.mpr p2)) (fun p p1 p2 => absurd p1 (Nat.not_le.mpr p2)) (fun p p1 p2 => absurd p1 (Nat.not_le.mpr p2)) (fun p p1 p2 => absurd p1 (Nat.not_le.mpr p2)) (fun p p1 p2 => ?_)
      · simp only [up2, true_and]
        repeat' split
        all_goals first | rfl | (exfalso; omega)
      · rw [eS 12 (by omega) (by omega)]; exact hN
      · rw [eS 19 (by omega) (by omega)]; exact hW
      · rw [eS 13 (by omega) (by omega)]; exact hL
      · rw [up2_s]; exact nat_inc hT (by omega)
      · show cT c + 1 ≤ 100
        omega
      · rw [eS 14 (by omega) (by omega)]; exact hS
      · rw [eS 15 (by omega) (by omega)]; exact hP
      · rw [eS 16 (by omega) (by omega)]; exact hBk
      · have e : p = cT c := by have q : p < cT c + 1 := p2; omega
        subst e
        rw [up2_s]
        exact ⟨b0, b1, b2⟩
    · refine RW.mk (fun a k j hp => ?_)
      simp only [up2, true_and]
      rcases PT.dec (c := c) hp with hp | ⟨p, p1, p2, hp⟩ | ⟨p1, p2, hp⟩ | ⟨p1, p2, hp⟩ | ⟨p1, p2, hp⟩ | ⟨p1, p2, hp⟩ | ⟨p1, p2, hp⟩
      · have h0 := hrw.to a k j hp
        unfold PT at hp
        rcases hp with ⟨e1, hp⟩ | ⟨g1, g2, g3, hp⟩ | ⟨g1, g2, g3, g4, hp⟩ | ⟨e1, g1, hp⟩ | ⟨e1, g1, hp⟩ | ⟨e1, g1, hp⟩ | ⟨e1, g1, hp⟩ | ⟨e1, g1, hp⟩ | ⟨e1, g1, hp⟩ | ⟨e1, g1, hp⟩ | ⟨e1, g1, hp⟩ | ⟨e1, g1, hp⟩ | ⟨e1, g1, hp⟩ | ⟨e1, g1, hp⟩ | ⟨e1, g1, hp⟩ | ⟨e1, g1, hp⟩
        all_goals first | ((repeat rw [if_neg (by omega)]); exact h0) | ((repeat' split); all_goals first | rfl | exact h0 | (exfalso; omega))
      all_goals first | exact absurd p1 (Nat.not_le.mpr p2) | skip
      have q9 : k < cT c + 1 := p2
      repeat' split
      all_goals first | rfl | (exfalso; omega)
    · intro j hj
      have q := hch j hj
      simp only [up2]
      rw [if_neg (by omega), if_neg (by omega)]
      split
      · exact chr_fits hok.1.1 hok.1.2
      · rw [if_neg (by omega)]
        exact q
  · have e : (mFeed (cFeed mi x) x) = mi := by
      unfold mFeed
      rw [hrow, if_neg hok]
      exact if_neg hok
    rw [e]
    exact ⟨c, I⟩
