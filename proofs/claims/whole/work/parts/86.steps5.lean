/-! steps: see, book, night, person, dawn, blend -/
theorem okAt.any {c : CT} {a : Nat} {x : Int32} (h : (78 ≤ a ∧ a < 83) ∨ (115 ≤ a ∧ a < 123)) : okAt c a x := by
  unfold okAt
  refine ⟨?_, ?_, ?_, ?_, ?_, ?_, ?_, ?_, ?_, ?_, ?_, ?_, ?_, ?_⟩ <;> (intros; omega)
theorem okAt.who {c : CT} {a : Nat} {x : Int32} (ha : (73 ≤ a ∧ a < 78) ∨ (107 ≤ a ∧ a < 115)) (h : natTo x (cN c)) : okAt c a x := by
  unfold okAt
  refine ⟨?_, ?_, ?_, ?_, ?_, ?_, ?_, ?_, ?_, ?_, ?_, ?_, ?_, ?_⟩ <;> (intros; first | omega | exact h)
theorem okAt.plan {c : CT} {a : Nat} {x : Int32} (ha : 83 ≤ a ∧ a < 107) (h : cP c ≤ (a - 83) % 8) : okAt c a x := by
  unfold okAt
  refine ⟨?_, ?_, ?_, ?_, ?_, ?_, ?_, ?_, ?_, ?_, ?_, ?_, ?_, ?_⟩ <;> (intros; omega)
theorem okAt.kind {c : CT} {a : Nat} {x : Int32} (ha : 20 ≤ a ∧ a < 26) (h : natTo x 7) : okAt c a x := by
  unfold okAt
  refine ⟨?_, ?_, ?_, ?_, ?_, ?_, ?_, ?_, ?_, ?_, ?_, ?_, ?_, ?_⟩ <;> (intros; first | omega | exact h)
theorem okAt.vv {c : CT} {a : Nat} {x : Int32} (ha : (26 ≤ a ∧ a < 32) ∨ (44 ≤ a ∧ a < 68)) (h : natTo x 10) : okAt c a x := by
  unfold okAt
  refine ⟨?_, ?_, ?_, ?_, ?_, ?_, ?_, ?_, ?_, ?_, ?_, ?_, ?_, ?_⟩ <;> (intros; first | omega | exact h)
theorem okAt.born {c : CT} {a : Nat} {x : Int32} (ha : 32 ≤ a ∧ a < 38) (h : natTo x 200) : okAt c a x := by
  unfold okAt
  refine ⟨?_, ?_, ?_, ?_, ?_, ?_, ?_, ?_, ?_, ?_, ?_, ?_, ?_, ?_⟩ <;> (intros; first | omega | exact h)
theorem okAt.life {c : CT} {a : Nat} {x : Int32} (ha : 38 ≤ a ∧ a < 44) (h : natTo x 121) : okAt c a x := by
  unfold okAt
  refine ⟨?_, ?_, ?_, ?_, ?_, ?_, ?_, ?_, ?_, ?_, ?_, ?_, ?_, ?_⟩ <;> (intros; first | omega | exact h)
theorem lt_ofI {x y : Int32} {N B : Nat} (h : nat x N) (hy : y.toInt = (B : Int)) (h2 : x < y) : N < B := by
  unfold nat at h
  rw [Int32.lt_iff_toInt_lt, h, hy] at h2
  omega
theorem PT.le {c : CT} {a k j : Nat} (hp : PT c a k j) (hN : cN c ≤ 6) (hW : cW c ≤ 5) (hT : cT c ≤ 100) (hS : cS c ≤ 5) (hP : cP c ≤ 8) (hB : cB c ≤ 8) : a ≤ 29 ∧ j < 223 ∧ j ≠ 18 := by
  unfold PT at hp
  rcases hp with ⟨e1, hp⟩ | ⟨g1, g2, g3, hp⟩ | ⟨g1, g2, g3, g4, hp⟩ | ⟨e1, g1, hp⟩ | ⟨e1, g1, hp⟩ | ⟨e1, g1, hp⟩ | ⟨e1, g1, hp⟩ | ⟨e1, g1, hp⟩ | ⟨e1, g1, hp⟩ | ⟨e1, g1, hp⟩ | ⟨e1, g1, hp⟩ | ⟨e1, g1, hp⟩ | ⟨e1, g1, hp⟩ | ⟨e1, g1, hp⟩ | ⟨e1, g1, hp⟩ | ⟨e1, g1, hp⟩
  all_goals omega
/-- the places of the counts -/
theorem PT.cnt {c : CT} {a k j : Nat} (hp : PT c a k j) (hN : cN c ≤ 6) (hW : cW c ≤ 5) (hT : cT c ≤ 100) (hS : cS c ≤ 5) (hP : cP c ≤ 8) (hB : cB c ≤ 8) : (j = 12 ↔ a = 0 ∧ k = 1) ∧ (j = 14 ↔ a = 5 ∧ k = 3) ∧ (j = 15 ↔ a = 9 ∧ k = 3) ∧ (j = 16 ↔ a = 13 ∧ k = 3) := by
  unfold PT at hp
  rcases hp with ⟨e1, hp⟩ | ⟨g1, g2, g3, hp⟩ | ⟨g1, g2, g3, g4, hp⟩ | ⟨e1, g1, hp⟩ | ⟨e1, g1, hp⟩ | ⟨e1, g1, hp⟩ | ⟨e1, g1, hp⟩ | ⟨e1, g1, hp⟩ | ⟨e1, g1, hp⟩ | ⟨e1, g1, hp⟩ | ⟨e1, g1, hp⟩ | ⟨e1, g1, hp⟩ | ⟨e1, g1, hp⟩ | ⟨e1, g1, hp⟩ | ⟨e1, g1, hp⟩ | ⟨e1, g1, hp⟩
  all_goals omega
/-- places that nobody looks at, the class' -/
theorem freeC {n : Nat} {mi m1 : MI} {mr : MR} {c : CT} (I : INV n mi mr c) (P : Nat → Nat → Prop) (ho : ∀ a k, ¬ P a k → m1 a k = mi a k) (hf : ∀ a k, P a k → 40 ≤ a ∧ a ≤ 69 ∧ a ≠ 44 ∧ ¬ (k = 0 ∧ 58 ≤ a ∧ a % 2 = 0) ∧ ∀ j, ¬ PT c (a - 40) k j) : INV n m1 mr c := by
  obtain ⟨hR, hn, ⟨⟨hN, hN6⟩, ⟨hW, hW5⟩, ⟨hL, hL5⟩, ⟨hT, hT100⟩, ⟨hS, hS5⟩, ⟨hP, hP8⟩, ⟨hBk, hB8⟩⟩, hrw⟩ := I.facts
  have hBD := I.2.2.1
  have hch := I.ch
  have e174 : m1 174 = mi 174 := funext fun k => ho 174 k (fun q => by have := hf _ _ q; omega)
  refine I.upd (c' := c) (by rw [e174]; exact hBD) ?_ ?_ rfl (by rw [e174]) (fun k hk => by rw [e174]) (fun a k h1 h2 _ _ => ho a k (fun q => by obtain ⟨q1, q2, q3, q4, q5⟩ := hf _ _ q; exact h1 ⟨q1, q2, q4⟩))
  · refine RW.mk (fun a k j hp => ?_)
    rw [e174, ho (40 + a) k (fun q => (hf _ _ q).2.2.2.2 j (by rw [Nat.add_sub_cancel_left]; exact hp))]
    exact hrw.to a k j hp
  · intro j hj
    rw [ho (40 + 4) j (fun q => absurd rfl (hf _ _ q).2.2.1)]
    exact hch j hj
theorem freeC1 {n : Nat} {mi : MI} {mr : MR} {c : CT} (I : INV n mi mr c) {a0 K : Nat} {x : Int32} (ha : 40 ≤ a0 ∧ a0 ≤ 69 ∧ a0 ≠ 44 ∧ ¬ (K = 0 ∧ 58 ≤ a0 ∧ a0 % 2 = 0)) (hf : ∀ j, ¬ PT c (a0 - 40) K j) : INV n (up2 mi a0 K x) mr c := by
  refine freeC I (fun a k => a = a0 ∧ k = K) (fun a k h => ?_) (fun a k h => ?_)
  · simp only [up2]
    rw [if_neg h]
  · obtain ⟨rfl, rfl⟩ := h
    exact ⟨ha.1, ha.2.1, ha.2.2.1, ha.2.2.2, hf⟩
/-- the row's -/
theorem freeM {n : Nat} {mi : MI} {mr : MR} {c : CT} (I : INV n mi mr c) {J : Nat} {x : Int32} (hJ : J < 223 ∧ J ≠ 18) (hok : okAt c J x) (hf : ∀ a k, ¬ PT c a k J) : INV n (up2 mi 174 J x) mr c := by
  obtain ⟨hR, hn, ⟨⟨hN, hN6⟩, ⟨hW, hW5⟩, ⟨hL, hL5⟩, ⟨hT, hT100⟩, ⟨hS, hS5⟩, ⟨hP, hP8⟩, ⟨hBk, hB8⟩⟩, hrw⟩ := I.facts
  have hBD := I.2.2.1
  have hch := I.ch
  refine I.upd (c' := c) (hBD.up hok) ?_ ?_ rfl ?_ (fun k hk => ?_) (fun a k h1 h2 _ _ => ?_)
  · refine RW.mk (fun a k j hp => ?_)
    have hl := hp.le hN6 hW5 hT100 hS5 hP8 hB8
    have hj : j ≠ J := fun e => hf a k (by rw [← e]; exact hp)
    simp only [up2, true_and]
    rw [if_neg (by omega), if_neg hj]
    exact hrw.to a k j hp
  · intro j hj
    have q := hch j hj
    simp only [up2]
    rw [if_neg (by omega)]
    exact q
  · simp only [up2]; rw [if_neg (by omega)]
  · simp only [up2]; rw [if_neg (by omega)]
  · simp only [up2]; rw [if_neg (by omega)]
/-- a count's step -/
theorem cntS {n : Nat} {mi : MI} {mr : MR} {c c' : CT} (I : INV n mi mr c) {a0 K pl : Nat} {z : Int32} (ha : a0 ≤ 29 ∧ a0 ≠ 4 ∧ ¬ (K = 0 ∧ 18 ≤ a0 ∧ a0 % 2 = 0)) (hpl : pl < 223 ∧ pl ≠ 18) (eL : cL c' = cL c) (hB : BD (up2 mi 174 pl z 174) c') (hnew : ∀ a k j, PT c' a k j → a ≤ 29 ∧ (j = pl ↔ a = a0 ∧ k = K) ∧ (j ≠ pl → mi (40 + a) k = mi 174 j)) : INV n (up2 (up2 mi (40 + a0) K z) 174 pl z) mr c' := by
  obtain ⟨hR, hn, ⟨⟨hN, hN6⟩, ⟨hW, hW5⟩, ⟨hL, hL5⟩, ⟨hT, hT100⟩, ⟨hS, hS5⟩, ⟨hP, hP8⟩, ⟨hBk, hB8⟩⟩, hrw⟩ := I.facts
  have hBD := I.2.2.1
  have hch := I.ch
  have e : (up2 (up2 mi (40 + a0) K z) 174 pl z) 174 = up2 mi 174 pl z 174 := by
    funext k
    simp only [up2, true_and]
    rw [if_neg (by omega : ¬ (174 = 40 + a0 ∧ k = K))]
  refine I.upd (c' := c') (by rw [e]; exact hB) ?_ ?_ eL ?_ (fun k hk => ?_) (fun a k h1 h2 _ _ => ?_)
  · refine RW.mk (fun a k j hp => ?_)
    obtain ⟨h1, h2, h3⟩ := hnew a k j hp
    rw [e]
    simp only [up2, true_and]
    rw [if_neg (by omega)]
    by_cases hj : j = pl
    · rw [if_pos (by have := h2.mp hj; omega), if_pos hj]
    · rw [if_neg (by rintro ⟨q1, q2⟩; exact hj (h2.mpr ⟨by omega, q2⟩)), if_neg hj]
      exact h3 hj
  · intro j hj
    have q := hch j hj
    simp only [up2]
    rw [if_neg (by omega), if_neg (by omega)]
    exact q
  · rw [e]; simp only [up2]; rw [if_neg (by omega)]
  · rw [e]; simp only [up2]; rw [if_neg (by omega)]
  · simp only [up2]; rw [if_neg (by omega), if_neg (by omega)]
theorem see0 {n : Nat} {mi : MI} {mr : MR} {c : CT} (I : INV n mi mr c)  : INV n (up2 (up2 mi 45 3 (0)) 174 14 (0)) mr (cN c, cW c, cL c, cT c, 0, cP c, cB c) := by
  obtain ⟨hR, hn, ⟨⟨hN, hN6⟩, ⟨hW, hW5⟩, ⟨hL, hL5⟩, ⟨hT, hT100⟩, ⟨hS, hS5⟩, ⟨hP, hP8⟩, ⟨hBk, hB8⟩⟩, hrw⟩ := I.facts
  have hBD := I.2.2.1
  have hch := I.ch
  have eS : ∀ k, ¬ k = 14 → (up2 mi 174 14 (0)) 174 k = mi 174 k := fun k hk => by
    simp only [up2, true_and]
    rw [if_neg hk]
  refine cntS (a0 := 5) I (by omega) (by omega) rfl ?_ (fun a k j hp => ?_)
  · refine BD.cts (S := mi 174) (c := c) hBD (fun k hk => eS k (by omega)) ⟨⟨?_, hN6⟩, ⟨?_, hW5⟩, ⟨?_, hL5⟩, ⟨?_, hT100⟩, ⟨?_, ?_⟩, ⟨?_, hP8⟩, ⟨?_, hB8⟩⟩ rfl (Nat.le_refl _) (Nat.le_refl _) (fun p p1 p2 => absurd p1 (Nat.not_le.mpr p2)) (fun p p1 p2 => absurd p2 (Nat.not_lt_zero p)) (fun p p1 p2 => absurd p1 (Nat.not_le.mpr p2)) (fun p p1 p2 => absurd p1 (Nat.not_le.mpr p2)) (fun p p1 p2 => absurd p1 (Nat.not_le.mpr p2))
    · rw [eS 12 (by omega)]; exact hN
    · rw [eS 19 (by omega)]; exact hW
    · rw [eS 13 (by omega)]; exact hL
    · rw [eS 17 (by omega)]; exact hT
    · rw [up2_s]; exact rfl
    · show 0 ≤ _
      exact Nat.zero_le _
    · rw [eS 15 (by omega)]; exact hP
    · rw [eS 16 (by omega)]; exact hBk
  · have q := hp.cnt hN6 hW5 hT100 (show 0 ≤ 5 by omega) hP8 hB8
    have hl := hp.le hN6 hW5 hT100 (show 0 ≤ 5 by omega) hP8 hB8
    refine ⟨hl.1, q.2.1, fun hj => ?_⟩
    rcases PT.dec (c := c) hp with hp | ⟨p, p1, p2, hp⟩ | ⟨p1, p2, hp⟩ | ⟨p1, p2, hp⟩ | ⟨p1, p2, hp⟩ | ⟨p1, p2, hp⟩ | ⟨p1, p2, hp⟩
    · exact hrw.to a k j hp
    all_goals first | exact absurd p1 (Nat.not_le.mpr p2) | skip
    have q9 : k < 0 := p2
    omega
theorem see1 {n : Nat} {mi : MI} {mr : MR} {c : CT} (I : INV n mi mr c) (z : Int32) (hp1 : natTo (mi 174 (73 + cS c)) (cN c)) (e1 : mi 47 (cS c) = mi 174 (73 + cS c)) (e2 : mi 48 (cS c) = mi 174 (78 + cS c)) (hlt : cS c < 5) (hz : nat z (cS c + 1)) : INV n (up2 (up2 mi 45 3 (z)) 174 14 (z)) mr (cN c, cW c, cL c, cT c, cS c + 1, cP c, cB c) := by
  obtain ⟨hR, hn, ⟨⟨hN, hN6⟩, ⟨hW, hW5⟩, ⟨hL, hL5⟩, ⟨hT, hT100⟩, ⟨hS, hS5⟩, ⟨hP, hP8⟩, ⟨hBk, hB8⟩⟩, hrw⟩ := I.facts
  have hBD := I.2.2.1
  have hch := I.ch
  have eS : ∀ k, ¬ k = 14 → (up2 mi 174 14 (z)) 174 k = mi 174 k := fun k hk => by
    simp only [up2, true_and]
    rw [if_neg hk]
  refine cntS (a0 := 5) I (by omega) (by omega) rfl ?_ (fun a k j hp => ?_)
  · refine BD.cts (S := mi 174) (c := c) hBD (fun k hk => eS k (by omega)) ⟨⟨?_, hN6⟩, ⟨?_, hW5⟩, ⟨?_, hL5⟩, ⟨?_, hT100⟩, ⟨?_, ?_⟩, ⟨?_, hP8⟩, ⟨?_, hB8⟩⟩ rfl (Nat.le_refl _) (Nat.le_refl _) (fun p p1 p2 => absurd p1 (Nat.not_le.mpr p2)) (fun j j1 j2 => by
      have e : j = cS c := by have q : j < cS c + 1 := j2; omega
      rw [e]
      exact hp1) (fun p p1 p2 => absurd p1 (Nat.not_le.mpr p2)) (fun p p1 p2 => absurd p1 (Nat.not_le.mpr p2)) (fun p p1 p2 => absurd p1 (Nat.not_le.mpr p2))
    · rw [eS 12 (by omega)]; exact hN
    · rw [eS 19 (by omega)]; exact hW
    · rw [eS 13 (by omega)]; exact hL
    · rw [eS 17 (by omega)]; exact hT
    · rw [up2_s]; exact hz
    · show cS c + 1 ≤ _
      omega
    · rw [eS 15 (by omega)]; exact hP
    · rw [eS 16 (by omega)]; exact hBk
  · have q := hp.cnt hN6 hW5 hT100 (show cS c + 1 ≤ 5 by omega) hP8 hB8
    have hl := hp.le hN6 hW5 hT100 (show cS c + 1 ≤ 5 by omega) hP8 hB8
    refine ⟨hl.1, q.2.1, fun hj => ?_⟩
    rcases PT.dec (c := c) hp with hp | ⟨p, p1, p2, hp⟩ | ⟨p1, p2, hp⟩ | ⟨p1, p2, hp⟩ | ⟨p1, p2, hp⟩ | ⟨p1, p2, hp⟩ | ⟨p1, p2, hp⟩
    · exact hrw.to a k j hp
    all_goals first | exact absurd p1 (Nat.not_le.mpr p2) | skip
    have q9 : k < cS c + 1 := p2
    have e : k = cS c := by omega
    rcases hp with ⟨rfl, rfl⟩ | ⟨rfl, rfl⟩
    · rw [e]; exact e1
    · rw [e]; exact e2
theorem i_see {n : Nat} {mi : MI} {mr : MR} {c : CT} (I : INV n mi mr c) (p age : Int32) : ∃ c2, INV n (mTell (cTell mi 45 14 5 p age) 73 78 14 5 p age) mr c2 := by
  obtain ⟨hR, hn, ⟨⟨hN, hN6⟩, ⟨hW, hW5⟩, ⟨hL, hL5⟩, ⟨hT, hT100⟩, ⟨hS, hS5⟩, ⟨hP, hP8⟩, ⟨hBk, hB8⟩⟩, hrw⟩ := I.facts
  have hBD := I.2.2.1
  have hch := I.ch
  have hrow : (cTell mi 45 14 5 p age) 174 = mi 174 := by
    unfold cTell
    split
    · rw [up2_row (by omega)]
    · split
      · repeat rw [up2_row (by omega)]
      · rfl
  unfold mTell
  rw [hrow]
  by_cases h1 : p = -1
  · rw [if_pos h1, show cTell mi 45 14 5 p age = up2 mi 45 3 0 from if_pos h1]
    exact ⟨_, see0 I⟩
  · rw [if_neg h1]
    by_cases hok : okTell (mi 174) 14 5 p age
    · rw [if_pos hok, show cTell mi 45 14 5 p age = _ from (if_neg h1).trans (if_pos hok), nat_of_toInt hS]
      obtain ⟨q, q1, q2⟩ := idxC (b01_n.mpr hok.1) hN
      have hlt : cS c < 5 := lt_ofI hS rfl hok.2.2
      have I1 := freeC1 (a0 := 46) (K := cS c) (x := 0) I (by omega) (fun j hp => by unfold PT at hp; rcases hp with ⟨e1, hp⟩ | ⟨g1, g2, g3, hp⟩ | ⟨g1, g2, g3, g4, hp⟩ | ⟨e1, g1, hp⟩ | ⟨e1, g1, hp⟩ | ⟨e1, g1, hp⟩ | ⟨e1, g1, hp⟩ | ⟨e1, g1, hp⟩ | ⟨e1, g1, hp⟩ | ⟨e1, g1, hp⟩ | ⟨e1, g1, hp⟩ | ⟨e1, g1, hp⟩ | ⟨e1, g1, hp⟩ | ⟨e1, g1, hp⟩ | ⟨e1, g1, hp⟩ | ⟨e1, g1, hp⟩ <;> omega)
      have I2 := freeC1 (a0 := 47) (K := cS c) (x := p) I1 (by omega) (fun j hp => by unfold PT at hp; rcases hp with ⟨e1, hp⟩ | ⟨g1, g2, g3, hp⟩ | ⟨g1, g2, g3, g4, hp⟩ | ⟨e1, g1, hp⟩ | ⟨e1, g1, hp⟩ | ⟨e1, g1, hp⟩ | ⟨e1, g1, hp⟩ | ⟨e1, g1, hp⟩ | ⟨e1, g1, hp⟩ | ⟨e1, g1, hp⟩ | ⟨e1, g1, hp⟩ | ⟨e1, g1, hp⟩ | ⟨e1, g1, hp⟩ | ⟨e1, g1, hp⟩ | ⟨e1, g1, hp⟩ | ⟨e1, g1, hp⟩ <;> omega)
      have I3 := freeC1 (a0 := 48) (K := cS c) (x := age) I2 (by omega) (fun j hp => by unfold PT at hp; rcases hp with ⟨e1, hp⟩ | ⟨g1, g2, g3, hp⟩ | ⟨g1, g2, g3, g4, hp⟩ | ⟨e1, g1, hp⟩ | ⟨e1, g1, hp⟩ | ⟨e1, g1, hp⟩ | ⟨e1, g1, hp⟩ | ⟨e1, g1, hp⟩ | ⟨e1, g1, hp⟩ | ⟨e1, g1, hp⟩ | ⟨e1, g1, hp⟩ | ⟨e1, g1, hp⟩ | ⟨e1, g1, hp⟩ | ⟨e1, g1, hp⟩ | ⟨e1, g1, hp⟩ | ⟨e1, g1, hp⟩ <;> omega)
      have I4 := freeM (J := 73 + cS c) (x := p) I3 (by omega) (okAt.who (by omega) ⟨q, q1, q2⟩) (fun a k hp => by unfold PT at hp; rcases hp with ⟨e1, hp⟩ | ⟨g1, g2, g3, hp⟩ | ⟨g1, g2, g3, g4, hp⟩ | ⟨e1, g1, hp⟩ | ⟨e1, g1, hp⟩ | ⟨e1, g1, hp⟩ | ⟨e1, g1, hp⟩ | ⟨e1, g1, hp⟩ | ⟨e1, g1, hp⟩ | ⟨e1, g1, hp⟩ | ⟨e1, g1, hp⟩ | ⟨e1, g1, hp⟩ | ⟨e1, g1, hp⟩ | ⟨e1, g1, hp⟩ | ⟨e1, g1, hp⟩ | ⟨e1, g1, hp⟩ <;> omega)
      have I5 := freeM (J := 78 + cS c) (x := age) I4 (by omega) (okAt.any (by omega)) (fun a k hp => by unfold PT at hp; rcases hp with ⟨e1, hp⟩ | ⟨g1, g2, g3, hp⟩ | ⟨g1, g2, g3, g4, hp⟩ | ⟨e1, g1, hp⟩ | ⟨e1, g1, hp⟩ | ⟨e1, g1, hp⟩ | ⟨e1, g1, hp⟩ | ⟨e1, g1, hp⟩ | ⟨e1, g1, hp⟩ | ⟨e1, g1, hp⟩ | ⟨e1, g1, hp⟩ | ⟨e1, g1, hp⟩ | ⟨e1, g1, hp⟩ | ⟨e1, g1, hp⟩ | ⟨e1, g1, hp⟩ | ⟨e1, g1, hp⟩ <;> omega)
      have I6 := see1 I5 (mi 174 14 + 1) (by rw [show ∀ m : MI, up2 m 174 (78 + cS c) age 174 (73 + cS c) = m 174 (73 + cS c) from fun m => (by simp [up2]), up2_s]; exact ⟨q, q1, q2⟩) (by simp [up2]) (by simp [up2]) hlt (nat_inc hS (by omega))
      refine ⟨(cN c, cW c, cL c, cT c, cS c + 1, cP c, cB c), ?_⟩
      rw [up2_comm (a := 45) (b := 174) (by decide), up2_comm (a := 45) (b := 174) (by decide)]
      exact I6
    · rw [if_neg hok, show cTell mi 45 14 5 p age = mi from (if_neg h1).trans (if_neg hok)]
      exact ⟨c, I⟩
theorem book0 {n : Nat} {mi : MI} {mr : MR} {c : CT} (I : INV n mi mr c)  : INV n (up2 (up2 mi 53 3 (0)) 174 16 (0)) mr (cN c, cW c, cL c, cT c, cS c, cP c, 0) := by
  obtain ⟨hR, hn, ⟨⟨hN, hN6⟩, ⟨hW, hW5⟩, ⟨hL, hL5⟩, ⟨hT, hT100⟩, ⟨hS, hS5⟩, ⟨hP, hP8⟩, ⟨hBk, hB8⟩⟩, hrw⟩ := I.facts
  have hBD := I.2.2.1
  have hch := I.ch
  have eS : ∀ k, ¬ k = 16 → (up2 mi 174 16 (0)) 174 k = mi 174 k := fun k hk => by
    simp only [up2, true_and]
    rw [if_neg hk]
  refine cntS (a0 := 13) I (by omega) (by omega) rfl ?_ (fun a k j hp => ?_)
  · refine BD.cts (S := mi 174) (c := c) hBD (fun k hk => eS k (by omega)) ⟨⟨?_, hN6⟩, ⟨?_, hW5⟩, ⟨?_, hL5⟩, ⟨?_, hT100⟩, ⟨?_, hS5⟩, ⟨?_, hP8⟩, ⟨?_, ?_⟩⟩ rfl (Nat.le_refl _) (Nat.le_refl _) (fun p p1 p2 => absurd p1 (Nat.not_le.mpr p2)) (fun p p1 p2 => absurd p1 (Nat.not_le.mpr p2)) (fun p p1 p2 => absurd p1 (Nat.not_le.mpr p2)) (fun p p1 p2 => absurd p2 (Nat.not_lt_zero p)) (fun p p1 p2 => absurd p1 (Nat.not_le.mpr p2))
    · rw [eS 12 (by omega)]; exact hN
    · rw [eS 19 (by omega)]; exact hW
    · rw [eS 13 (by omega)]; exact hL
    · rw [eS 17 (by omega)]; exact hT
    · rw [eS 14 (by omega)]; exact hS
    · rw [eS 15 (by omega)]; exact hP
    · rw [up2_s]; exact rfl
    · show 0 ≤ _
      exact Nat.zero_le _
  · have q := hp.cnt hN6 hW5 hT100 hS5 hP8 (show 0 ≤ 8 by omega)
    have hl := hp.le hN6 hW5 hT100 hS5 hP8 (show 0 ≤ 8 by omega)
    refine ⟨hl.1, q.2.2.2, fun hj => ?_⟩
    rcases PT.dec (c := c) hp with hp | ⟨p, p1, p2, hp⟩ | ⟨p1, p2, hp⟩ | ⟨p1, p2, hp⟩ | ⟨p1, p2, hp⟩ | ⟨p1, p2, hp⟩ | ⟨p1, p2, hp⟩
    · exact hrw.to a k j hp
    all_goals first | exact absurd p1 (Nat.not_le.mpr p2) | skip
    have q9 : k < 0 := p2
    omega
theorem book1 {n : Nat} {mi : MI} {mr : MR} {c : CT} (I : INV n mi mr c) (z : Int32) (hp1 : natTo (mi 174 (107 + cB c)) (cN c)) (e1 : mi 55 (cB c) = mi 174 (107 + cB c)) (e2 : mi 56 (cB c) = mi 174 (115 + cB c)) (hlt : cB c < 8) (hz : nat z (cB c + 1)) : INV n (up2 (up2 mi 53 3 (z)) 174 16 (z)) mr (cN c, cW c, cL c, cT c, cS c, cP c, cB c + 1) := by
  obtain ⟨hR, hn, ⟨⟨hN, hN6⟩, ⟨hW, hW5⟩, ⟨hL, hL5⟩, ⟨hT, hT100⟩, ⟨hS, hS5⟩, ⟨hP, hP8⟩, ⟨hBk, hB8⟩⟩, hrw⟩ := I.facts
  have hBD := I.2.2.1
  have hch := I.ch
  have eS : ∀ k, ¬ k = 16 → (up2 mi 174 16 (z)) 174 k = mi 174 k := fun k hk => by
    simp only [up2, true_and]
    rw [if_neg hk]
  refine cntS (a0 := 13) I (by omega) (by omega) rfl ?_ (fun a k j hp => ?_)
  · refine BD.cts (S := mi 174) (c := c) hBD (fun k hk => eS k (by omega)) ⟨⟨?_, hN6⟩, ⟨?_, hW5⟩, ⟨?_, hL5⟩, ⟨?_, hT100⟩, ⟨?_, hS5⟩, ⟨?_, hP8⟩, ⟨?_, ?_⟩⟩ rfl (Nat.le_refl _) (Nat.le_refl _) (fun p p1 p2 => absurd p1 (Nat.not_le.mpr p2)) (fun p p1 p2 => absurd p1 (Nat.not_le.mpr p2)) (fun p p1 p2 => absurd p1 (Nat.not_le.mpr p2)) (fun j j1 j2 => by
      have e : j = cB c := by have q : j < cB c + 1 := j2; omega
      rw [e]
      exact hp1) (fun p p1 p2 => absurd p1 (Nat.not_le.mpr p2))
    · rw [eS 12 (by omega)]; exact hN
    · rw [eS 19 (by omega)]; exact hW
    · rw [eS 13 (by omega)]; exact hL
    · rw [eS 17 (by omega)]; exact hT
    · rw [eS 14 (by omega)]; exact hS
    · rw [eS 15 (by omega)]; exact hP
    · rw [up2_s]; exact hz
    · show cB c + 1 ≤ _
      omega
  · have q := hp.cnt hN6 hW5 hT100 hS5 hP8 (show cB c + 1 ≤ 8 by omega)
    have hl := hp.le hN6 hW5 hT100 hS5 hP8 (show cB c + 1 ≤ 8 by omega)
    refine ⟨hl.1, q.2.2.2, fun hj => ?_⟩
    rcases PT.dec (c := c) hp with hp | ⟨p, p1, p2, hp⟩ | ⟨p1, p2, hp⟩ | ⟨p1, p2, hp⟩ | ⟨p1, p2, hp⟩ | ⟨p1, p2, hp⟩ | ⟨p1, p2, hp⟩
    · exact hrw.to a k j hp
    all_goals first | exact absurd p1 (Nat.not_le.mpr p2) | skip
    have q9 : k < cB c + 1 := p2
    have e : k = cB c := by omega
    rcases hp with ⟨rfl, rfl⟩ | ⟨rfl, rfl⟩
    · rw [e]; exact e1
    · rw [e]; exact e2
theorem i_book {n : Nat} {mi : MI} {mr : MR} {c : CT} (I : INV n mi mr c) (p age : Int32) : ∃ c2, INV n (mTell (cTell mi 53 16 8 p age) 107 115 16 8 p age) mr c2 := by
  obtain ⟨hR, hn, ⟨⟨hN, hN6⟩, ⟨hW, hW5⟩, ⟨hL, hL5⟩, ⟨hT, hT100⟩, ⟨hS, hS5⟩, ⟨hP, hP8⟩, ⟨hBk, hB8⟩⟩, hrw⟩ := I.facts
  have hBD := I.2.2.1
  have hch := I.ch
  have hrow : (cTell mi 53 16 8 p age) 174 = mi 174 := by
    unfold cTell
    split
    · rw [up2_row (by omega)]
    · split
      · repeat rw [up2_row (by omega)]
      · rfl
  unfold mTell
  rw [hrow]
  by_cases h1 : p = -1
  · rw [if_pos h1, show cTell mi 53 16 8 p age = up2 mi 53 3 0 from if_pos h1]
    exact ⟨_, book0 I⟩
  · rw [if_neg h1]
    by_cases hok : okTell (mi 174) 16 8 p age
    · rw [if_pos hok, show cTell mi 53 16 8 p age = _ from (if_neg h1).trans (if_pos hok), nat_of_toInt hBk]
      obtain ⟨q, q1, q2⟩ := idxC (b01_n.mpr hok.1) hN
      have hlt : cB c < 8 := lt_ofI hBk rfl hok.2.2
      have I1 := freeC1 (a0 := 54) (K := cB c) (x := 0) I (by omega) (fun j hp => by unfold PT at hp; rcases hp with ⟨e1, hp⟩ | ⟨g1, g2, g3, hp⟩ | ⟨g1, g2, g3, g4, hp⟩ | ⟨e1, g1, hp⟩ | ⟨e1, g1, hp⟩ | ⟨e1, g1, hp⟩ | ⟨e1, g1, hp⟩ | ⟨e1, g1, hp⟩ | ⟨e1, g1, hp⟩ | ⟨e1, g1, hp⟩ | ⟨e1, g1, hp⟩ | ⟨e1, g1, hp⟩ | ⟨e1, g1, hp⟩ | ⟨e1, g1, hp⟩ | ⟨e1, g1, hp⟩ | ⟨e1, g1, hp⟩ <;> omega)
      have I2 := freeC1 (a0 := 55) (K := cB c) (x := p) I1 (by omega) (fun j hp => by unfold PT at hp; rcases hp with ⟨e1, hp⟩ | ⟨g1, g2, g3, hp⟩ | ⟨g1, g2, g3, g4, hp⟩ | ⟨e1, g1, hp⟩ | ⟨e1, g1, hp⟩ | ⟨e1, g1, hp⟩ | ⟨e1, g1, hp⟩ | ⟨e1, g1, hp⟩ | ⟨e1, g1, hp⟩ | ⟨e1, g1, hp⟩ | ⟨e1, g1, hp⟩ | ⟨e1, g1, hp⟩ | ⟨e1, g1, hp⟩ | ⟨e1, g1, hp⟩ | ⟨e1, g1, hp⟩ | ⟨e1, g1, hp⟩ <;> omega)
      have I3 := freeC1 (a0 := 56) (K := cB c) (x := age) I2 (by omega) (fun j hp => by unfold PT at hp; rcases hp with ⟨e1, hp⟩ | ⟨g1, g2, g3, hp⟩ | ⟨g1, g2, g3, g4, hp⟩ | ⟨e1, g1, hp⟩ | ⟨e1, g1, hp⟩ | ⟨e1, g1, hp⟩ | ⟨e1, g1, hp⟩ | ⟨e1, g1, hp⟩ | ⟨e1, g1, hp⟩ | ⟨e1, g1, hp⟩ | ⟨e1, g1, hp⟩ | ⟨e1, g1, hp⟩ | ⟨e1, g1, hp⟩ | ⟨e1, g1, hp⟩ | ⟨e1, g1, hp⟩ | ⟨e1, g1, hp⟩ <;> omega)
      have I4 := freeM (J := 107 + cB c) (x := p) I3 (by omega) (okAt.who (by omega) ⟨q, q1, q2⟩) (fun a k hp => by unfold PT at hp; rcases hp with ⟨e1, hp⟩ | ⟨g1, g2, g3, hp⟩ | ⟨g1, g2, g3, g4, hp⟩ | ⟨e1, g1, hp⟩ | ⟨e1, g1, hp⟩ | ⟨e1, g1, hp⟩ | ⟨e1, g1, hp⟩ | ⟨e1, g1, hp⟩ | ⟨e1, g1, hp⟩ | ⟨e1, g1, hp⟩ | ⟨e1, g1, hp⟩ | ⟨e1, g1, hp⟩ | ⟨e1, g1, hp⟩ | ⟨e1, g1, hp⟩ | ⟨e1, g1, hp⟩ | ⟨e1, g1, hp⟩ <;> omega)
      have I5 := freeM (J := 115 + cB c) (x := age) I4 (by omega) (okAt.any (by omega)) (fun a k hp => by unfold PT at hp; rcases hp with ⟨e1, hp⟩ | ⟨g1, g2, g3, hp⟩ | ⟨g1, g2, g3, g4, hp⟩ | ⟨e1, g1, hp⟩ | ⟨e1, g1, hp⟩ | ⟨e1, g1, hp⟩ | ⟨e1, g1, hp⟩ | ⟨e1, g1, hp⟩ | ⟨e1, g1, hp⟩ | ⟨e1, g1, hp⟩ | ⟨e1, g1, hp⟩ | ⟨e1, g1, hp⟩ | ⟨e1, g1, hp⟩ | ⟨e1, g1, hp⟩ | ⟨e1, g1, hp⟩ | ⟨e1, g1, hp⟩ <;> omega)
      have I6 := book1 I5 (mi 174 16 + 1) (by rw [show ∀ m : MI, up2 m 174 (115 + cB c) age 174 (107 + cB c) = m 174 (107 + cB c) from fun m => (by simp [up2]), up2_s]; exact ⟨q, q1, q2⟩) (by simp [up2]) (by simp [up2]) hlt (nat_inc hBk (by omega))
      refine ⟨(cN c, cW c, cL c, cT c, cS c, cP c, cB c + 1), ?_⟩
      rw [up2_comm (a := 53) (b := 174) (by decide), up2_comm (a := 53) (b := 174) (by decide)]
      exact I6
    · rw [if_neg hok, show cTell mi 53 16 8 p age = mi from (if_neg h1).trans (if_neg hok)]
      exact ⟨c, I⟩
theorem night0 {n : Nat} {mi : MI} {mr : MR} {c : CT} (I : INV n mi mr c)  : INV n (up2 (up2 mi 49 3 (0)) 174 15 (0)) mr (cN c, cW c, cL c, cT c, cS c, 0, cB c) := by
  obtain ⟨hR, hn, ⟨⟨hN, hN6⟩, ⟨hW, hW5⟩, ⟨hL, hL5⟩, ⟨hT, hT100⟩, ⟨hS, hS5⟩, ⟨hP, hP8⟩, ⟨hBk, hB8⟩⟩, hrw⟩ := I.facts
  have hBD := I.2.2.1
  have hch := I.ch
  have eS : ∀ k, ¬ k = 15 → (up2 mi 174 15 (0)) 174 k = mi 174 k := fun k hk => by
    simp only [up2, true_and]
    rw [if_neg hk]
  refine cntS (a0 := 9) I (by omega) (by omega) rfl ?_ (fun a k j hp => ?_)
  · refine BD.cts (S := mi 174) (c := c) hBD (fun k hk => eS k (by omega)) ⟨⟨?_, hN6⟩, ⟨?_, hW5⟩, ⟨?_, hL5⟩, ⟨?_, hT100⟩, ⟨?_, hS5⟩, ⟨?_, ?_⟩, ⟨?_, hB8⟩⟩ rfl (Nat.le_refl _) (Nat.le_refl _) (fun p p1 p2 => absurd p1 (Nat.not_le.mpr p2)) (fun p p1 p2 => absurd p1 (Nat.not_le.mpr p2)) (fun p p1 p2 => absurd p2 (Nat.not_lt_zero p)) (fun p p1 p2 => absurd p1 (Nat.not_le.mpr p2)) (fun p p1 p2 => absurd p1 (Nat.not_le.mpr p2))
    · rw [eS 12 (by omega)]; exact hN
    · rw [eS 19 (by omega)]; exact hW
    · rw [eS 13 (by omega)]; exact hL
    · rw [eS 17 (by omega)]; exact hT
    · rw [eS 14 (by omega)]; exact hS
    · rw [up2_s]; exact rfl
    · show 0 ≤ _
      exact Nat.zero_le _
    · rw [eS 16 (by omega)]; exact hBk
  · have q := hp.cnt hN6 hW5 hT100 hS5 (show 0 ≤ 8 by omega) hB8
    have hl := hp.le hN6 hW5 hT100 hS5 (show 0 ≤ 8 by omega) hB8
    refine ⟨hl.1, q.2.2.1, fun hj => ?_⟩
    rcases PT.dec (c := c) hp with hp | ⟨p, p1, p2, hp⟩ | ⟨p1, p2, hp⟩ | ⟨p1, p2, hp⟩ | ⟨p1, p2, hp⟩ | ⟨p1, p2, hp⟩ | ⟨p1, p2, hp⟩
    · exact hrw.to a k j hp
    all_goals first | exact absurd p1 (Nat.not_le.mpr p2) | skip
    have q9 : k < 0 := p2
    omega
theorem night1 {n : Nat} {mi : MI} {mr : MR} {c : CT} (I : INV n mi mr c) (z : Int32) (hx : mi 174 (83 + cP c) = 0 ∨ (natTo (mi 174 (91 + cP c)) (cN c) ∧ (mi 174 (83 + cP c) = 1 → natTo (mi 174 (99 + cP c)) (cW c)))) (e1 : mi 50 (cP c) = mi 174 (83 + cP c)) (e2 : mi 51 (cP c) = mi 174 (91 + cP c)) (e3 : mi 52 (cP c) = mi 174 (99 + cP c)) (hlt : cP c < 8) (hz : nat z (cP c + 1)) : INV n (up2 (up2 mi 49 3 (z)) 174 15 (z)) mr (cN c, cW c, cL c, cT c, cS c, cP c + 1, cB c) := by
  obtain ⟨hR, hn, ⟨⟨hN, hN6⟩, ⟨hW, hW5⟩, ⟨hL, hL5⟩, ⟨hT, hT100⟩, ⟨hS, hS5⟩, ⟨hP, hP8⟩, ⟨hBk, hB8⟩⟩, hrw⟩ := I.facts
  have hBD := I.2.2.1
  have hch := I.ch
  have eS : ∀ k, ¬ k = 15 → (up2 mi 174 15 (z)) 174 k = mi 174 k := fun k hk => by
    simp only [up2, true_and]
    rw [if_neg hk]
  refine cntS (a0 := 9) I (by omega) (by omega) rfl ?_ (fun a k j hp => ?_)
  · refine BD.cts (S := mi 174) (c := c) hBD (fun k hk => eS k (by omega)) ⟨⟨?_, hN6⟩, ⟨?_, hW5⟩, ⟨?_, hL5⟩, ⟨?_, hT100⟩, ⟨?_, hS5⟩, ⟨?_, ?_⟩, ⟨?_, hB8⟩⟩ rfl (Nat.le_refl _) (Nat.le_refl _) (fun p p1 p2 => absurd p1 (Nat.not_le.mpr p2)) (fun p p1 p2 => absurd p1 (Nat.not_le.mpr p2)) (fun j j1 j2 => by
      have e : j = cP c := by have q : j < cP c + 1 := j2; omega
      rw [e]
      exact hx) (fun p p1 p2 => absurd p1 (Nat.not_le.mpr p2)) (fun p p1 p2 => absurd p1 (Nat.not_le.mpr p2))
    · rw [eS 12 (by omega)]; exact hN
    · rw [eS 19 (by omega)]; exact hW
    · rw [eS 13 (by omega)]; exact hL
    · rw [eS 17 (by omega)]; exact hT
    · rw [eS 14 (by omega)]; exact hS
    · rw [up2_s]; exact hz
    · show cP c + 1 ≤ _
      omega
    · rw [eS 16 (by omega)]; exact hBk
  · have q := hp.cnt hN6 hW5 hT100 hS5 (show cP c + 1 ≤ 8 by omega) hB8
    have hl := hp.le hN6 hW5 hT100 hS5 (show cP c + 1 ≤ 8 by omega) hB8
    refine ⟨hl.1, q.2.2.1, fun hj => ?_⟩
    rcases PT.dec (c := c) hp with hp | ⟨p, p1, p2, hp⟩ | ⟨p1, p2, hp⟩ | ⟨p1, p2, hp⟩ | ⟨p1, p2, hp⟩ | ⟨p1, p2, hp⟩ | ⟨p1, p2, hp⟩
    · exact hrw.to a k j hp
    all_goals first | exact absurd p1 (Nat.not_le.mpr p2) | skip
    have q9 : k < cP c + 1 := p2
    have e : k = cP c := by omega
    rcases hp with ⟨rfl, rfl⟩ | ⟨rfl, rfl⟩ | ⟨rfl, rfl⟩
    · rw [e]; exact e1
    · rw [e]; exact e2
    · rw [e]; exact e3
theorem i_night {n : Nat} {mi : MI} {mr : MR} {c : CT} (I : INV n mi mr c) (x p v : Int32) : ∃ c2, INV n (mNight (cNight mi x p v) x p v) mr c2 := by
  obtain ⟨hR, hn, ⟨⟨hN, hN6⟩, ⟨hW, hW5⟩, ⟨hL, hL5⟩, ⟨hT, hT100⟩, ⟨hS, hS5⟩, ⟨hP, hP8⟩, ⟨hBk, hB8⟩⟩, hrw⟩ := I.facts
  have hBD := I.2.2.1
  have hch := I.ch
  have hrow : (cNight mi x p v) 174 = mi 174 := by
    unfold cNight
    split
    · rw [up2_row (by omega)]
    · split
      · rfl
      · split
        · repeat rw [up2_row (by omega)]
        · rfl
  unfold mNight
  rw [hrow]
  by_cases h1 : x = -1
  · rw [if_pos h1, show cNight mi x p v = up2 mi 49 3 0 from if_pos h1]
    exact ⟨_, night0 I⟩
  · rw [if_neg h1]
    by_cases hno : noNight (mi 174) x p v
    · rw [if_pos hno, show cNight mi x p v = mi from (if_neg h1).trans (if_pos hno)]
      exact ⟨c, I⟩
    · rw [if_neg hno]
      by_cases hlt : mi 174 15 < 8
      · rw [if_pos hlt, show cNight mi x p v = _ from (if_neg h1).trans ((if_neg hno).trans (if_pos hlt)), nat_of_toInt hP]
        have hl8 : cP c < 8 := lt_ofI hP rfl hlt
        have hx : x = 0 ∨ (natTo p (cN c) ∧ (x = 1 → natTo v (cW c))) := by
          by_cases h0 : x = 0
          · exact Or.inl h0
          · refine Or.inr ⟨?_, fun hx1 => ?_⟩
            · have hh : 0 ≤ p ∧ p < mi 174 12 := Decidable.byContradiction (fun hh => hno (Or.inr (Or.inl ⟨h0, hh⟩)))
              obtain ⟨q, q1, q2⟩ := idxC (b01_n.mpr hh) hN
              exact ⟨q, q1, q2⟩
            · have hh : 0 ≤ v ∧ v < mi 174 19 := Decidable.byContradiction (fun hh => hno (Or.inr (Or.inr ⟨hx1, hh⟩)))
              obtain ⟨q, q1, q2⟩ := idxC (b01_n.mpr hh) hW
              exact ⟨q, q1, q2⟩
        have I1 := freeC1 (a0 := 50) (K := cP c) (x := x) I (by omega) (fun j hp => by unfold PT at hp; rcases hp with ⟨e1, hp⟩ | ⟨g1, g2, g3, hp⟩ | ⟨g1, g2, g3, g4, hp⟩ | ⟨e1, g1, hp⟩ | ⟨e1, g1, hp⟩ | ⟨e1, g1, hp⟩ | ⟨e1, g1, hp⟩ | ⟨e1, g1, hp⟩ | ⟨e1, g1, hp⟩ | ⟨e1, g1, hp⟩ | ⟨e1, g1, hp⟩ | ⟨e1, g1, hp⟩ | ⟨e1, g1, hp⟩ | ⟨e1, g1, hp⟩ | ⟨e1, g1, hp⟩ | ⟨e1, g1, hp⟩ <;> omega)
        have I2 := freeC1 (a0 := 51) (K := cP c) (x := p) I1 (by omega) (fun j hp => by unfold PT at hp; rcases hp with ⟨e1, hp⟩ | ⟨g1, g2, g3, hp⟩ | ⟨g1, g2, g3, g4, hp⟩ | ⟨e1, g1, hp⟩ | ⟨e1, g1, hp⟩ | ⟨e1, g1, hp⟩ | ⟨e1, g1, hp⟩ | ⟨e1, g1, hp⟩ | ⟨e1, g1, hp⟩ | ⟨e1, g1, hp⟩ | ⟨e1, g1, hp⟩ | ⟨e1, g1, hp⟩ | ⟨e1, g1, hp⟩ | ⟨e1, g1, hp⟩ | ⟨e1, g1, hp⟩ | ⟨e1, g1, hp⟩ <;> omega)
        have I3 := freeC1 (a0 := 52) (K := cP c) (x := v) I2 (by omega) (fun j hp => by unfold PT at hp; rcases hp with ⟨e1, hp⟩ | ⟨g1, g2, g3, hp⟩ | ⟨g1, g2, g3, g4, hp⟩ | ⟨e1, g1, hp⟩ | ⟨e1, g1, hp⟩ | ⟨e1, g1, hp⟩ | ⟨e1, g1, hp⟩ | ⟨e1, g1, hp⟩ | ⟨e1, g1, hp⟩ | ⟨e1, g1, hp⟩ | ⟨e1, g1, hp⟩ | ⟨e1, g1, hp⟩ | ⟨e1, g1, hp⟩ | ⟨e1, g1, hp⟩ | ⟨e1, g1, hp⟩ | ⟨e1, g1, hp⟩ <;> omega)
        have I4 := freeM (J := 83 + cP c) (x := x) I3 (by omega) (okAt.plan (by omega) (by omega)) (fun a k hp => by unfold PT at hp; rcases hp with ⟨e1, hp⟩ | ⟨g1, g2, g3, hp⟩ | ⟨g1, g2, g3, g4, hp⟩ | ⟨e1, g1, hp⟩ | ⟨e1, g1, hp⟩ | ⟨e1, g1, hp⟩ | ⟨e1, g1, hp⟩ | ⟨e1, g1, hp⟩ | ⟨e1, g1, hp⟩ | ⟨e1, g1, hp⟩ | ⟨e1, g1, hp⟩ | ⟨e1, g1, hp⟩ | ⟨e1, g1, hp⟩ | ⟨e1, g1, hp⟩ | ⟨e1, g1, hp⟩ | ⟨e1, g1, hp⟩ <;> omega)
        have I5 := freeM (J := 91 + cP c) (x := p) I4 (by omega) (okAt.plan (by omega) (by omega)) (fun a k hp => by unfold PT at hp; rcases hp with ⟨e1, hp⟩ | ⟨g1, g2, g3, hp⟩ | ⟨g1, g2, g3, g4, hp⟩ | ⟨e1, g1, hp⟩ | ⟨e1, g1, hp⟩ | ⟨e1, g1, hp⟩ | ⟨e1, g1, hp⟩ | ⟨e1, g1, hp⟩ | ⟨e1, g1, hp⟩ | ⟨e1, g1, hp⟩ | ⟨e1, g1, hp⟩ | ⟨e1, g1, hp⟩ | ⟨e1, g1, hp⟩ | ⟨e1, g1, hp⟩ | ⟨e1, g1, hp⟩ | ⟨e1, g1, hp⟩ <;> omega)
        have I6 := freeM (J := 99 + cP c) (x := v) I5 (by omega) (okAt.plan (by omega) (by omega)) (fun a k hp => by unfold PT at hp; rcases hp with ⟨e1, hp⟩ | ⟨g1, g2, g3, hp⟩ | ⟨g1, g2, g3, g4, hp⟩ | ⟨e1, g1, hp⟩ | ⟨e1, g1, hp⟩ | ⟨e1, g1, hp⟩ | ⟨e1, g1, hp⟩ | ⟨e1, g1, hp⟩ | ⟨e1, g1, hp⟩ | ⟨e1, g1, hp⟩ | ⟨e1, g1, hp⟩ | ⟨e1, g1, hp⟩ | ⟨e1, g1, hp⟩ | ⟨e1, g1, hp⟩ | ⟨e1, g1, hp⟩ | ⟨e1, g1, hp⟩ <;> omega)
        obtain ⟨m6, hm6⟩ : ∃ m6, m6 = up2 (up2 (up2 (up2 (up2 (up2 mi 50 (cP c) x) 51 (cP c) p) 52 (cP c) v) 174 (83 + cP c) x) 174 (91 + cP c) p) 174 (99 + cP c) v := ⟨_, rfl⟩
        have v1 : m6 174 (83 + cP c) = x := by rw [hm6]; simp [up2]
        have v2 : m6 174 (91 + cP c) = p := by rw [hm6]; simp [up2]
        have v3 : m6 174 (99 + cP c) = v := by rw [hm6]; simp [up2]
        have w1 : m6 50 (cP c) = x := by rw [hm6]; simp [up2]
        have w2 : m6 51 (cP c) = p := by rw [hm6]; simp [up2]
        have w3 : m6 52 (cP c) = v := by rw [hm6]; simp [up2]
        rw [← hm6] at I6
        have I7 := night1 I6 (mi 174 15 + 1) (by rw [v1, v2, v3]; exact hx) (w1.trans v1.symm) (w2.trans v2.symm) (w3.trans v3.symm) hl8 (nat_inc hP (by omega))
        refine ⟨(cN c, cW c, cL c, cT c, cS c, cP c + 1, cB c), ?_⟩
        rw [up2_comm (a := 49) (b := 174) (by decide), up2_comm (a := 49) (b := 174) (by decide), up2_comm (a := 49) (b := 174) (by decide), ← hm6]
        exact I7
      · rw [if_neg hlt, show cNight mi x p v = mi from (if_neg h1).trans ((if_neg hno).trans (if_neg hlt))]
        exact ⟨c, I⟩
