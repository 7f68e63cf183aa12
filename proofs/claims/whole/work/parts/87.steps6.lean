theorem idx6 {x : Int32} (h1 : 0 ≤ x) (h : x < 7) : natTo x 7 := by
  simp only [Int32.le_iff_toInt_le, Int32.lt_iff_toInt_lt, Int32.reduceToInt] at h1 h
  exact ⟨x.toInt.toNat, by omega, by omega⟩
theorem idx120 {x : Int32} (h1 : 0 ≤ x) (h : x ≤ 120) : natTo x 121 := by
  simp only [Int32.le_iff_toInt_le, Int32.reduceToInt] at h1 h
  exact ⟨x.toInt.toNat, by omega, by omega⟩
theorem person1 {n : Nat} {mi : MI} {mr : MR} {c : CT} (I : INV n mi mr c) (z : Int32) (hp0 : okPer (mi 174) (cN c) (cW c)) (hnew : perIs mi (58 + 2 * cN c) (mi 174 (20 + cN c)) (mi 174 (26 + cN c)) (mi 174 (32 + cN c)) (mi 174 (38 + cN c)) (mi 174 (1 + cN c)) (fun k => mi 174 (44 + 4 * cN c + k))) (hlt : cN c < 6) (hz : nat z (cN c + 1)) : INV n (up2 (up2 mi 40 1 (z)) 174 12 (z)) mr (cN c + 1, cW c, cL c, cT c, cS c, cP c, cB c) := by
  obtain ⟨hR, hn, ⟨⟨hN, hN6⟩, ⟨hW, hW5⟩, ⟨hL, hL5⟩, ⟨hT, hT100⟩, ⟨hS, hS5⟩, ⟨hP, hP8⟩, ⟨hBk, hB8⟩⟩, hrw⟩ := I.facts
  have hBD := I.2.2.1
  have hch := I.ch
  have eS : ∀ k, ¬ k = 12 → (up2 mi 174 12 (z)) 174 k = mi 174 k := fun k hk => by
    simp only [up2, true_and]
    rw [if_neg hk]
  refine cntS (a0 := 0) I (by omega) (by omega) rfl ?_ (fun a k j hp => ?_)
  · refine BD.cts (S := mi 174) (c := c) hBD (fun k hk => eS k (by omega)) ⟨⟨?_, ?_⟩, ⟨?_, hW5⟩, ⟨?_, hL5⟩, ⟨?_, hT100⟩, ⟨?_, hS5⟩, ⟨?_, hP8⟩, ⟨?_, hB8⟩⟩ rfl (Nat.le_succ _) (Nat.le_refl _) (fun j j1 j2 => by
      have e : j = cN c := by have q : j < cN c + 1 := j2; omega
      rw [e]
      exact hp0) (fun p p1 p2 => absurd p1 (Nat.not_le.mpr p2)) (fun p p1 p2 => absurd p1 (Nat.not_le.mpr p2)) (fun p p1 p2 => absurd p1 (Nat.not_le.mpr p2)) (fun p p1 p2 => absurd p1 (Nat.not_le.mpr p2))
    · rw [up2_s]; exact hz
    · show cN c + 1 ≤ _
      omega
    · rw [eS 19 (by omega)]; exact hW
    · rw [eS 13 (by omega)]; exact hL
    · rw [eS 17 (by omega)]; exact hT
    · rw [eS 14 (by omega)]; exact hS
    · rw [eS 15 (by omega)]; exact hP
    · rw [eS 16 (by omega)]; exact hBk
  · have q := hp.cnt (show cN c + 1 ≤ 6 by omega) hW5 hT100 hS5 hP8 hB8
    have hl := hp.le (show cN c + 1 ≤ 6 by omega) hW5 hT100 hS5 hP8 hB8
    refine ⟨hl.1, q.1, fun hj => ?_⟩
    rcases PT.dec (c := c) hp with hp | ⟨p, p1, p2, hp⟩ | ⟨p1, p2, hp⟩ | ⟨p1, p2, hp⟩ | ⟨p1, p2, hp⟩ | ⟨p1, p2, hp⟩ | ⟨p1, p2, hp⟩
    · exact hrw.to a k j hp
    all_goals first | exact absurd p1 (Nat.not_le.mpr p2) | skip
    have q9 : p < cN c + 1 := p2
    have e : p = cN c := by omega
    subst e
    obtain ⟨i1, i2, i3, i4, i5, i6⟩ := hnew
    rcases hp with ⟨ha, hp⟩ | ⟨ha, hk, hp⟩
    · rw [show 40 + a = 58 + 2 * cN c by omega]
      rcases hp with ⟨rfl, rfl⟩ | ⟨rfl, rfl⟩ | ⟨rfl, rfl⟩ | ⟨rfl, rfl⟩ | ⟨rfl, rfl⟩ <;> assumption
    · rw [show 40 + a = 58 + 2 * cN c + 1 by omega, hp]
      exact i6 k hk
theorem i_person {n : Nat} {mi : MI} {mr : MR} {c : CT} (I : INV n mi mr c) (k v b l : Int32) (mi' : MI) (h : cPerson mi (cN c) k v b l mi') : ∃ c2, INV n (mPerson mi' (cN c) k v b l) mr c2 := by
  obtain ⟨hR, hn, ⟨⟨hN, hN6⟩, ⟨hW, hW5⟩, ⟨hL, hL5⟩, ⟨hT, hT100⟩, ⟨hS, hS5⟩, ⟨hP, hP8⟩, ⟨hBk, hB8⟩⟩, hrw⟩ := I.facts
  have hBD := I.2.2.1
  have hch := I.ch
  rcases h with ⟨hok, m1, ho, hp, rfl⟩ | ⟨hok, rfl⟩
  · have hlt : cN c < 6 := lt_ofI hN rfl hok.2.2
    have hrow : up2 m1 40 1 (mi 174 12 + 1) 174 = mi 174 := (up2_row (by omega)).trans (ho.fn (fun k => by unfold offP; omega))
    unfold mPerson
    rw [hrow, if_pos hok]
    have k1 := idx6 hok.1.1 hok.1.2
    have k2 : natTo v 10 := idx9 hok.2.1.1.1 hok.2.1.1.2
    have k3 : natTo b 200 := idx199 hok.2.1.2.1.1 hok.2.1.2.1.2
    have k4 : natTo l 121 := idx120 hok.2.1.2.2.1 hok.2.1.2.2.2
    have z10 : natTo (0 : Int32) 10 := ⟨0, rfl, by decide⟩
    have I0 := freeC (m1 := m1) I (offP (58 + 2 * cN c)) ho (fun a k hq => ⟨by unfold offP at hq; omega, by unfold offP at hq; omega, by unfold offP at hq; omega, by unfold offP at hq; omega, fun j hp => by unfold offP at hq; unfold PT at hp; rcases hp with ⟨e1, hp⟩ | ⟨g1, g2, g3, hp⟩ | ⟨g1, g2, g3, g4, hp⟩ | ⟨e1, g1, hp⟩ | ⟨e1, g1, hp⟩ | ⟨e1, g1, hp⟩ | ⟨e1, g1, hp⟩ | ⟨e1, g1, hp⟩ | ⟨e1, g1, hp⟩ | ⟨e1, g1, hp⟩ | ⟨e1, g1, hp⟩ | ⟨e1, g1, hp⟩ | ⟨e1, g1, hp⟩ | ⟨e1, g1, hp⟩ | ⟨e1, g1, hp⟩ | ⟨e1, g1, hp⟩ <;> omega⟩)
    have I1 := freeM (J := 20 + cN c) (x := k) I0 (by omega) (okAt.kind (by omega) k1) (fun a k hp => by unfold PT at hp; rcases hp with ⟨e1, hp⟩ | ⟨g1, g2, g3, hp⟩ | ⟨g1, g2, g3, g4, hp⟩ | ⟨e1, g1, hp⟩ | ⟨e1, g1, hp⟩ | ⟨e1, g1, hp⟩ | ⟨e1, g1, hp⟩ | ⟨e1, g1, hp⟩ | ⟨e1, g1, hp⟩ | ⟨e1, g1, hp⟩ | ⟨e1, g1, hp⟩ | ⟨e1, g1, hp⟩ | ⟨e1, g1, hp⟩ | ⟨e1, g1, hp⟩ | ⟨e1, g1, hp⟩ | ⟨e1, g1, hp⟩ <;> omega)
    have I2 := freeM (J := 26 + cN c) (x := v) I1 (by omega) (okAt.vv (by omega) k2) (fun a k hp => by unfold PT at hp; rcases hp with ⟨e1, hp⟩ | ⟨g1, g2, g3, hp⟩ | ⟨g1, g2, g3, g4, hp⟩ | ⟨e1, g1, hp⟩ | ⟨e1, g1, hp⟩ | ⟨e1, g1, hp⟩ | ⟨e1, g1, hp⟩ | ⟨e1, g1, hp⟩ | ⟨e1, g1, hp⟩ | ⟨e1, g1, hp⟩ | ⟨e1, g1, hp⟩ | ⟨e1, g1, hp⟩ | ⟨e1, g1, hp⟩ | ⟨e1, g1, hp⟩ | ⟨e1, g1, hp⟩ | ⟨e1, g1, hp⟩ <;> omega)
    have I3 := freeM (J := 32 + cN c) (x := b) I2 (by omega) (okAt.born (by omega) k3) (fun a k hp => by unfold PT at hp; rcases hp with ⟨e1, hp⟩ | ⟨g1, g2, g3, hp⟩ | ⟨g1, g2, g3, g4, hp⟩ | ⟨e1, g1, hp⟩ | ⟨e1, g1, hp⟩ | ⟨e1, g1, hp⟩ | ⟨e1, g1, hp⟩ | ⟨e1, g1, hp⟩ | ⟨e1, g1, hp⟩ | ⟨e1, g1, hp⟩ | ⟨e1, g1, hp⟩ | ⟨e1, g1, hp⟩ | ⟨e1, g1, hp⟩ | ⟨e1, g1, hp⟩ | ⟨e1, g1, hp⟩ | ⟨e1, g1, hp⟩ <;> omega)
    have I4 := freeM (J := 38 + cN c) (x := l) I3 (by omega) (okAt.life (by omega) k4) (fun a k hp => by unfold PT at hp; rcases hp with ⟨e1, hp⟩ | ⟨g1, g2, g3, hp⟩ | ⟨g1, g2, g3, g4, hp⟩ | ⟨e1, g1, hp⟩ | ⟨e1, g1, hp⟩ | ⟨e1, g1, hp⟩ | ⟨e1, g1, hp⟩ | ⟨e1, g1, hp⟩ | ⟨e1, g1, hp⟩ | ⟨e1, g1, hp⟩ | ⟨e1, g1, hp⟩ | ⟨e1, g1, hp⟩ | ⟨e1, g1, hp⟩ | ⟨e1, g1, hp⟩ | ⟨e1, g1, hp⟩ | ⟨e1, g1, hp⟩ <;> omega)
    have I5 := freeM (J := 1 + cN c) (x := -1) I4 (by omega) (okAt.has (by omega) (Or.inl rfl)) (fun a k hp => by unfold PT at hp; rcases hp with ⟨e1, hp⟩ | ⟨g1, g2, g3, hp⟩ | ⟨g1, g2, g3, g4, hp⟩ | ⟨e1, g1, hp⟩ | ⟨e1, g1, hp⟩ | ⟨e1, g1, hp⟩ | ⟨e1, g1, hp⟩ | ⟨e1, g1, hp⟩ | ⟨e1, g1, hp⟩ | ⟨e1, g1, hp⟩ | ⟨e1, g1, hp⟩ | ⟨e1, g1, hp⟩ | ⟨e1, g1, hp⟩ | ⟨e1, g1, hp⟩ | ⟨e1, g1, hp⟩ | ⟨e1, g1, hp⟩ <;> omega)
    have I6 := freeM (J := 44 + 4 * cN c + 0) (x := 0) I5 (by omega) (okAt.vv (by omega) z10) (fun a k hp => by unfold PT at hp; rcases hp with ⟨e1, hp⟩ | ⟨g1, g2, g3, hp⟩ | ⟨g1, g2, g3, g4, hp⟩ | ⟨e1, g1, hp⟩ | ⟨e1, g1, hp⟩ | ⟨e1, g1, hp⟩ | ⟨e1, g1, hp⟩ | ⟨e1, g1, hp⟩ | ⟨e1, g1, hp⟩ | ⟨e1, g1, hp⟩ | ⟨e1, g1, hp⟩ | ⟨e1, g1, hp⟩ | ⟨e1, g1, hp⟩ | ⟨e1, g1, hp⟩ | ⟨e1, g1, hp⟩ | ⟨e1, g1, hp⟩ <;> omega)
    have I7 := freeM (J := 44 + 4 * cN c + 1) (x := 0) I6 (by omega) (okAt.vv (by omega) z10) (fun a k hp => by unfold PT at hp; rcases hp with ⟨e1, hp⟩ | ⟨g1, g2, g3, hp⟩ | ⟨g1, g2, g3, g4, hp⟩ | ⟨e1, g1, hp⟩ | ⟨e1, g1, hp⟩ | ⟨e1, g1, hp⟩ | ⟨e1, g1, hp⟩ | ⟨e1, g1, hp⟩ | ⟨e1, g1, hp⟩ | ⟨e1, g1, hp⟩ | ⟨e1, g1, hp⟩ | ⟨e1, g1, hp⟩ | ⟨e1, g1, hp⟩ | ⟨e1, g1, hp⟩ | ⟨e1, g1, hp⟩ | ⟨e1, g1, hp⟩ <;> omega)
    have I8 := freeM (J := 44 + 4 * cN c + 2) (x := 0) I7 (by omega) (okAt.vv (by omega) z10) (fun a k hp => by unfold PT at hp; rcases hp with ⟨e1, hp⟩ | ⟨g1, g2, g3, hp⟩ | ⟨g1, g2, g3, g4, hp⟩ | ⟨e1, g1, hp⟩ | ⟨e1, g1, hp⟩ | ⟨e1, g1, hp⟩ | ⟨e1, g1, hp⟩ | ⟨e1, g1, hp⟩ | ⟨e1, g1, hp⟩ | ⟨e1, g1, hp⟩ | ⟨e1, g1, hp⟩ | ⟨e1, g1, hp⟩ | ⟨e1, g1, hp⟩ | ⟨e1, g1, hp⟩ | ⟨e1, g1, hp⟩ | ⟨e1, g1, hp⟩ <;> omega)
    have I9 := freeM (J := 44 + 4 * cN c + 3) (x := 0) I8 (by omega) (okAt.vv (by omega) z10) (fun a k hp => by unfold PT at hp; rcases hp with ⟨e1, hp⟩ | ⟨g1, g2, g3, hp⟩ | ⟨g1, g2, g3, g4, hp⟩ | ⟨e1, g1, hp⟩ | ⟨e1, g1, hp⟩ | ⟨e1, g1, hp⟩ | ⟨e1, g1, hp⟩ | ⟨e1, g1, hp⟩ | ⟨e1, g1, hp⟩ | ⟨e1, g1, hp⟩ | ⟨e1, g1, hp⟩ | ⟨e1, g1, hp⟩ | ⟨e1, g1, hp⟩ | ⟨e1, g1, hp⟩ | ⟨e1, g1, hp⟩ | ⟨e1, g1, hp⟩ <;> omega)
    have e9 : zrow (perM m1 (cN c) k v b l) (44 + 4 * cN c) 4 = up2 (up2 (up2 (up2 (perM m1 (cN c) k v b l) 174 (44 + 4 * cN c + 0) 0) 174 (44 + 4 * cN c + 1) 0) 174 (44 + 4 * cN c + 2) 0) 174 (44 + 4 * cN c + 3) 0 := rfl
    obtain ⟨m9, hm9⟩ : ∃ m9, m9 = zrow (perM m1 (cN c) k v b l) (44 + 4 * cN c) 4 := ⟨_, rfl⟩
    have I9' : INV n m9 mr c := by rw [hm9, e9]; exact I9
    have hz : ∀ k', k' < 4 → m9 174 (44 + 4 * cN c + k') = 0 := fun k' hk => by rw [hm9]; exact zrow_in hk
    have hof : ∀ j, j < 44 → m9 174 j = perM m1 (cN c) k v b l 174 j := fun j hj => by rw [hm9]; exact zrow_off (by omega)
    have hcl : ∀ a, a ≠ 174 → m9 a = m1 a := fun a ha => funext fun j => by
      rw [hm9, zrow_off (by omega)]
      unfold perM
      rw [up2_row ha, up2_row ha, up2_row ha, up2_row ha, up2_row ha]
    have v1 : m9 174 (20 + cN c) = k := by
      rw [hof _ (by omega)]; unfold perM; simp only [up2, true_and]
      rw [if_neg (by omega), if_neg (by omega), if_neg (by omega), if_neg (by omega), if_pos trivial]
    have v2 : m9 174 (26 + cN c) = v := by
      rw [hof _ (by omega)]; unfold perM; simp only [up2, true_and]
      rw [if_neg (by omega), if_neg (by omega), if_neg (by omega), if_pos trivial]
    have v3 : m9 174 (32 + cN c) = b := by
      rw [hof _ (by omega)]; unfold perM; simp only [up2, true_and]
      rw [if_neg (by omega), if_neg (by omega), if_pos trivial]
    have v4 : m9 174 (38 + cN c) = l := by
      rw [hof _ (by omega)]; unfold perM; simp only [up2, true_and]
      rw [if_neg (by omega), if_pos trivial]
    have v5 : m9 174 (1 + cN c) = -1 := by
      rw [hof _ (by omega)]; unfold perM; exact up2_s
    have I10 := person1 I9' (mi 174 12 + 1) (by
        unfold okPer
        rw [show 20 + cN c = 20 + cN c from rfl, v1, v2, v3, v4, v5]
        exact ⟨k1, k2, k3, k4, Or.inl rfl, fun k' hk => by rw [hz k' hk]; exact z10⟩) (by
        unfold perIs
        rw [v1, v2, v3, v4, v5, hcl _ (by omega), hcl _ (by omega)]
        obtain ⟨i1, i2, i3, i4, i5, i6⟩ := hp
        exact ⟨i1, i2, i3, i4, i5, fun k' hk => by rw [i6 k' hk]; exact (hz k' hk).symm⟩) hlt (nat_inc hN (by omega))
    refine ⟨(cN c + 1, cW c, cL c, cT c, cS c, cP c, cB c), ?_⟩
    rw [show zrow (perM (up2 m1 40 1 (mi 174 12 + 1)) (cN c) k v b l) (44 + 4 * cN c) 4 = up2 m9 40 1 (mi 174 12 + 1) from (by
      rw [hm9, e9]
      show up2 (up2 (up2 (up2 (perM (up2 m1 40 1 (mi 174 12 + 1)) (cN c) k v b l) 174 (44 + 4 * cN c + 0) 0) 174 (44 + 4 * cN c + 1) 0) 174 (44 + 4 * cN c + 2) 0) 174 (44 + 4 * cN c + 3) 0 = _
      unfold perM
      iterate 9 rw [up2_comm (a := 40) (b := 174) (by decide)])]
    exact I10
  · unfold mPerson
    rw [if_neg hok]
    exact ⟨c, I⟩
theorem dawnM_has {mi : MI} {N p : Nat} (h : p < N) : dawnM mi N 174 (1 + p) = -1 := by
  unfold dawnM
  simp only [up2, true_and]
  rw [if_neg (by omega)]
  exact dryM_has h
theorem BD.dawn {S S' : Nat → Int32} {c : CT} (h : BD S c) (e : ∀ k, 7 ≤ k → S' k = S k) (hy : ∃ y : Nat, (S' 0).toInt = (y : Int) ∧ 100 ≤ y ∧ y ≤ 999) (hh : ∀ p, p < cN c → hasIn (S' (1 + p)) (cW c)) : BD S' c := by
  obtain ⟨h1, h2, h3, h4, h5, h6, h7, h8, h9⟩ := h
  refine ⟨?_, hy, ?_, fun p hp => ?_, fun k hk => ?_, fun j hj => ?_, fun j hj => ?_, fun j hj => ?_, fun j hj => ?_⟩
  · unfold okCT
    rw [e 12 (by decide), e 19 (by decide), e 13 (by decide), e 17 (by decide), e 14 (by decide), e 15 (by decide), e 16 (by decide)]
    exact h1
  · rw [e 18 (by decide)]; exact h3
  · obtain ⟨p1, p2, p3, p4, p5, p6⟩ := h4 p hp
    refine ⟨?_, ?_, ?_, ?_, hh p hp, fun k hk => ?_⟩
    · rw [e _ (by omega)]; exact p1
    · rw [e _ (by omega)]; exact p2
    · rw [e _ (by omega)]; exact p3
    · rw [e _ (by omega)]; exact p4
    · rw [e _ (by omega)]; exact p6 k hk
  · rw [e _ (by omega), e _ (by omega)]; exact h5 k hk
  · rw [e _ (by omega)]; exact h6 j hj
  · rw [e _ (by omega), e _ (by omega), e _ (by omega)]; exact h7 j hj
  · rw [e _ (by omega)]; exact h8 j hj
  · rw [e _ (by omega)]; exact h9 j hj
theorem PT.dry {c : CT} {a k j : Nat} (hp : PT c a k j) (hN : cN c ≤ 6) (hW : cW c ≤ 5) (hT : cT c ≤ 100) (hS : cS c ≤ 5) (hP : cP c ≤ 8) (hB : cB c ≤ 8) : (a = 0 ∧ k = 0 ∧ j = 0) ∨ (∃ p, p < cN c ∧ a = 18 + 2 * p ∧ k = 5 ∧ j = 1 + p) ∨ (7 ≤ j ∧ ¬ (a = 0 ∧ k = 0) ∧ ¬ (18 ≤ a ∧ a % 2 = 0 ∧ k = 5)) := by
  unfold PT at hp
  rcases hp with ⟨e1, hp⟩ | ⟨g1, g2, g3, hp⟩ | ⟨g1, g2, g3, g4, hp⟩ | ⟨e1, g1, hp⟩ | ⟨e1, g1, hp⟩ | ⟨e1, g1, hp⟩ | ⟨e1, g1, hp⟩ | ⟨e1, g1, hp⟩ | ⟨e1, g1, hp⟩ | ⟨e1, g1, hp⟩ | ⟨e1, g1, hp⟩ | ⟨e1, g1, hp⟩ | ⟨e1, g1, hp⟩ | ⟨e1, g1, hp⟩ | ⟨e1, g1, hp⟩ | ⟨e1, g1, hp⟩
  · omega
  · rcases hp with hp | hp | hp | hp | hp
    · omega
    · omega
    · omega
    · omega
    · exact Or.inr (Or.inl ⟨(a - 18) / 2, by omega, by omega, hp.1, hp.2⟩)
  all_goals omega
theorem i_dawn {n : Nat} {mi : MI} {mr : MR} {c : CT} (I : INV n mi mr c) (x : Int32) : ∃ c2, INV n (mDawn (cDawn mi (cN c) x) (cN c) x) mr c2 := by
  obtain ⟨hR, hn, ⟨⟨hN, hN6⟩, ⟨hW, hW5⟩, ⟨hL, hL5⟩, ⟨hT, hT100⟩, ⟨hS, hS5⟩, ⟨hP, hP8⟩, ⟨hBk, hB8⟩⟩, hrw⟩ := I.facts
  have hBD := I.2.2.1
  have hch := I.ch
  have hrow : (cDawn mi (cN c) x) 174 = mi 174 := by
    unfold cDawn
    split
    · funext k
      rw [dryTo_off (fun p hp => by omega), up2_row (by omega)]
    · rfl
  unfold mDawn
  rw [hrow]
  by_cases hok : okDawn (mi 174) x
  · rw [if_pos hok]
    have hx : ∃ q : Nat, x.toInt = (q : Int) ∧ 1 ≤ q ∧ q ≤ 99 := by
      have h1 := hok.1
      simp only [Int32.le_iff_toInt_le, Int32.reduceToInt] at h1
      exact ⟨x.toInt.toNat, by omega, by omega, by omega⟩
    obtain ⟨q, q1, q2, q3⟩ := hx
    obtain ⟨m, rfl⟩ : ∃ m, q = m + 1 := ⟨q - 1, by omega⟩
    rw [nat_of_toInt q1]
    have hC : cDawn mi (cN c) x = dryTo (up2 mi 40 0 (mi 174 0 + x)) 40 (cN c) := if_pos hok
    obtain ⟨mc, hmc⟩ : ∃ mc, mc = cDawn mi (cN c) x := ⟨_, rfl⟩
    rw [← hmc] at hC hrow ⊢
    have hy : (dawnK mc (cN c) (m + 1)) 174 0 = mi 174 0 + x := by rw [dawnK_year, hrow, nI_of_toInt q1]
    have hd : ∀ p, p < cN c → (dawnK mc (cN c) (m + 1)) 174 (1 + p) = -1 := fun p hp => dawnM_has hp
    have hk : ∀ k, 7 ≤ k → (dawnK mc (cN c) (m + 1)) 174 k = mi 174 k := fun k hk => by rw [dawnK_off (by omega), hrow]
    have ho : ∀ a k, a ≠ 174 → (dawnK mc (cN c) (m + 1)) a k = mc a k := fun a k ha => dawnK_off (by omega)
    obtain ⟨y0, y1, y2, y3⟩ := hBD.2.1
    refine ⟨c, I.upd (c' := c) (hBD.dawn hk ⟨y0 + (m + 1), ?_, by omega, ?_⟩ (fun p hp => Or.inl (hd p hp))) (RW.mk (fun a k j hp => ?_)) (fun j hj => ?_) rfl (hk 18 (by omega)) (fun k h => hk k (by omega)) (fun a k h1 h2 _ _ => ?_)⟩
    · rw [hy]
      exact ix_add y1 q1 (by omega)
    · have h2 := hok.2
      rw [Int32.le_iff_toInt_le, ix_add y1 q1 (by omega)] at h2
      simp only [Int32.reduceToInt] at h2
      omega
    · rcases hp.dry hN6 hW5 hT100 hS5 hP8 hB8 with ⟨rfl, rfl, rfl⟩ | ⟨p, p1, rfl, rfl, rfl⟩ | ⟨p1, p2, p3⟩
      · rw [hy, ho _ _ (by decide), hC, dryTo_off (fun p hp => by omega), up2_s]
      · rw [hd p p1, ho _ _ (by omega), hC, show 40 + (18 + 2 * p) = 40 + 18 + 2 * p by omega]
        exact dryTo_has p1
      · have hl := hp.le hN6 hW5 hT100 hS5 hP8 hB8
        rw [hk j p1, ho _ _ (by omega), hC, dryTo_off (fun p hp => by omega)]
        simp only [up2]
        rw [if_neg (by omega)]
        exact hrw.to a k j hp
    · rw [ho _ _ (by decide), hC, dryTo_off (fun p hp => by omega)]
      simp only [up2]
      rw [if_neg (by omega)]
      exact hch j hj
    · rw [ho _ _ h2, hC, dryTo_off (fun p hp => by omega)]
      simp only [up2]
      rw [if_neg (by omega)]
  · rw [if_neg hok, show cDawn mi (cN c) x = mi from if_neg hok]
    exact ⟨c, I⟩
theorem addC_up {m : MI} {W k : Nat} {y b q v : Int32} : addC (up2 m 174 k v) W y b q = up2 (addC m W y b q) 174 k v := by
  unfold addC
  rw [up2_comm (a := 174) (b := 42) (by decide), up2_comm (a := 174) (b := 43) (by decide), up2_comm (a := 174) (b := 40) (by decide)]
theorem i_blend {n : Nat} {mi : MI} {mr : MR} {c : CT} (I : INV n mi mr c) (x y : Int32) : ∃ c2, INV n (mBlend (cBlend mi x y) x y) mr c2 := by
  obtain ⟨hR, hn, ⟨⟨hN, hN6⟩, ⟨hW, hW5⟩, ⟨hL, hL5⟩, ⟨hT, hT100⟩, ⟨hS, hS5⟩, ⟨hP, hP8⟩, ⟨hBk, hB8⟩⟩, hrw⟩ := I.facts
  have hBD := I.2.2.1
  have hch := I.ch
  have hrow : (cBlend mi x y) 174 = mi 174 := by
    unfold cBlend
    split
    · unfold addC
      repeat rw [up2_row (by omega)]
    · rfl
  unfold mBlend
  rw [hrow]
  by_cases hok : okBlend (mi 174) x y
  · obtain ⟨⟨hx, hy⟩, hne, ⟨hbx, hby⟩, hlt⟩ := id hok
    obtain ⟨a, a1, a2⟩ := idxC (b01_n.mpr hx) hW
    obtain ⟨b, b1, b2⟩ := idxC (b01_n.mpr hy) hW
    have hab : a ≠ b := fun e => hne (by rw [← Int32.toInt_inj, a1, b1, e])
    rw [if_pos hok, show cBlend mi x y = _ from if_pos hok, nat_of_toInt a1, nat_of_toInt b1, nat_of_toInt hW]
    rw [nat_of_toInt a1] at hbx
    rw [nat_of_toInt b1] at hby
    have I1 := bot_step I (v := a) (x := mi 174 (7 + a) - 1) a2 (dec_natTo (hBD.2.2.2.2.1 a (by omega)).2 hbx (by decide))
    have I2 := bot_step I1 (v := b) (x := mi 174 (7 + b) - 1) b2 (dec_natTo (hBD.2.2.2.2.1 b (by omega)).2 hby (by decide))
    obtain ⟨u, u1, u2⟩ := (hBD.2.2.2.2.1 a (by omega)).1
    obtain ⟨w, w1, w2⟩ := (hBD.2.2.2.2.1 b (by omega)).1
    have hz : natTo ((mi 174 (68 + a) + mi 174 (68 + b)) / 2) 200 := ⟨(u + w) / 2, divN (d := 2) (ix_add u1 w1 (by omega)) (by decide) (by decide), by omega⟩
    have I3 := add_step I2 ((mi 174 (68 + a) + mi 174 (68 + b)) / 2) 2 hz ⟨2, rfl, by decide⟩ (lt_ofI hW rfl hlt)
    refine ⟨(cN c, cW c + 1, cL c, cT c, cS c, cP c, cB c), ?_⟩
    rw [show up2 (up2 (up2 (up2 mi 43 a (mi 174 (7 + a) - 1)) 174 (7 + a) (mi 174 (7 + a) - 1)) 43 b (mi 174 (7 + b) - 1)) 174 (7 + b) (mi 174 (7 + b) - 1) 174 19 = mi 174 19 from (by simp only [up2]; repeat rw [if_neg (by omega)]), addC_up, up2_comm (a := 174) (b := 43) (by decide), addC_up] at I3
    exact I3
  · rw [if_neg hok, show cBlend mi x y = mi from if_neg hok]
    exact ⟨c, I⟩
theorem i_act {n : Nat} {mi : MI} {mr : MR} {c : CT} (I : INV n mi mr c) (p a : Int32) (hlen : (sActL (mi 174) p a).length < 1000) (hn0 : ¬ okAct (mi 174) p a → sActL (mi 174) p a = []) : INV n (mAct (cAct mi p a) p a) mr c := by
  have row : ∀ b, b ≠ 34 → b ≠ 35 → b ≠ 173 → b ≠ 185 → (mAct (cAct mi p a) p a) b = mi b := fun b h1 h2 h3 h4 => by
    have hc : (cAct mi p a) b = mi b := by
      unfold cAct
      rw [lgT_row h1 h2, up2_row h1]
    unfold mAct
    split
    · rw [lgT_row h3 h4, up2_row h3, up2_row h3, up2_row h3, up2_row h3, hc]
    · rw [up2_row h3, hc]
  have hc174 : (cAct mi p a) 174 = mi 174 := by
    unfold cAct
    rw [lgT_row (by decide) (by decide), up2_row (by decide)]
  have c34 : (cAct mi p a) 34 1 = nI (sActL (mi 174) p a).length := by
    unfold cAct
    rw [lgT_f (mi := up2 mi 34 1 0) (r := 0) up2_s, Nat.zero_add]
  have c35 : ∀ j, j < (sActL (mi 174) p a).length → (cAct mi p a) 35 j = (sActL (mi 174) p a).getD j 0 := fun j hj => by
    unfold cAct
    have h := lgT_at (A := 34) (f := 1) (B := 35) (by decide) (l := sActL (mi 174) p a) (mi := up2 mi 34 1 0) (r := 0) hj
    rw [Nat.zero_add] at h
    exact h
  have m34 : ∀ b, b = 34 ∨ b = 35 → (mAct (cAct mi p a) p a) b = (cAct mi p a) b := fun b hb => by
    unfold mAct
    split
    · rw [lgT_row (by omega) (by omega), up2_row (by omega), up2_row (by omega), up2_row (by omega), up2_row (by omega)]
    · rw [up2_row (by omega)]
  have m173 : (mAct (cAct mi p a) p a) 173 25 = nI (sActL (mi 174) p a).length := by
    unfold mAct
    rw [hc174]
    split
    · rw [lgT_f (r := 0) (by simp [up2]; try rfl), Nat.zero_add]
    · rename_i hh
      rw [hn0 hh, up2_s]
      rfl
  have m4 : (mAct (cAct mi p a) p a) 173 4 = mi 173 4 := by
    have hc : (cAct mi p a) 173 = mi 173 := by
      unfold cAct
      rw [lgT_row (by decide) (by decide), up2_row (by decide)]
    unfold mAct
    split
    · rw [lgT_k (by decide) (by decide)]
      simp only [up2]
      repeat rw [if_neg (by omega)]
      rw [hc]
    · simp only [up2]
      rw [if_neg (by omega), hc]
  have m185 : ∀ j, j < (sActL (mi 174) p a).length → (mAct (cAct mi p a) p a) 185 j = (sActL (mi 174) p a).getD j 0 := fun j hj => by
    unfold mAct
    rw [hc174]
    split
    · have h := lgT_at (A := 173) (f := 25) (B := 185) (by decide) (l := sActL (mi 174) p a) (mi := up2 (up2 (up2 (up2 (cAct mi p a) 173 25 0) 173 26 (mi 174 (20 + p.toNatClampNeg))) 173 27 p) 173 28 (mi 174 (26 + p.toNatClampNeg))) (r := 0) hj
      rw [Nat.zero_add] at h
      exact h
    · rename_i hh
      rw [hn0 hh] at hj
      exact absurd hj (Nat.not_lt_zero j)
  obtain ⟨h1, h2, h3, h4, h5, h6, h7, h8⟩ := I
  have e174 := row 174 (by decide) (by decide) (by decide) (by decide)
  have e175 := row 175 (by decide) (by decide) (by decide) (by decide)
  refine ⟨h1, h2, by rw [e174]; exact h3, ?_, ?_, ?_, ?_, ?_⟩
  · rw [e174]
    exact h4.row h3.lim (fun a ha => row a (by omega) (by omega) (by omega) (by omega))
  · unfold V0 VOK at *
    rw [row 36 (by decide) (by decide) (by decide) (by decide)]
    refine ⟨⟨h5.1.1, h5.1.2.1, fun k hk => absurd hk (by omega), fun k hk => absurd hk (by omega)⟩, h5.2⟩
  · intro p hp
    rw [row (40 + 18 + 2 * p) (by omega) (by omega) (by omega) (by omega)]
    exact h6 p hp
  · unfold IM
    rw [row 32 (by decide) (by decide) (by decide) (by decide), m4, e175]
    rcases h7 with h7 | ⟨g1, g2, c2, g3, g4, g5⟩
    · exact Or.inl h7
    · exact Or.inr ⟨g1, g2, c2, g3, g4.row g3.lim (fun a ha => row a (by omega) (by omega) (by omega) (by omega)), g5⟩
  · unfold TR
    rw [m34 34 (Or.inl rfl), m34 35 (Or.inr rfl), m173, c34]
    refine ⟨rfl, (sActL (mi 174) p a).length, nI_toInt (by omega), hlen, fun j hj _ => ?_⟩
    rw [c35 j hj, m185 j hj]
