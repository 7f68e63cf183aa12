/-! the first state; what a call of the class leaves of the row and of the script -/
theorem RT_lo {a k b : Nat} (h : RT a k = some b) : 32 ≤ a ∧ a < 186 := by
  by_cases h1 : a < 186
  · refine ⟨?_, h1⟩
    by_cases h2 : a < 36
    · have h3 : RTB a k = some b := by
        unfold RT at h
        rw [if_pos h2] at h
        exact h
      have := RTB_v h3
      omega
    · omega
  · rw [RT_hi (by omega)] at h
    cases h
theorem inv0 {mi : MI} {mr : MR} (hR : RF mr) (h7 : HI7 mi mr) (h4 : mi 173 4 = 0) (h25 : mi 173 25 = 0) (h174 : ∀ k, mi 174 k = if k = 0 then 100 else if k = 18 then -1 else 0) : INV 186 mi mr (0, 0, 0, 0, 0, 0, 0) := by
  obtain ⟨h405, ⟨y0, ⟨y1, y2, y3, y4⟩, yt, y5, y9, y13⟩, wp, x1, x2, v1, v2, v3⟩ := h7
  have z : ∀ k, k ≠ 0 → k ≠ 18 → mi 174 k = 0 := fun k e1 e2 => by rw [h174, if_neg e1, if_neg e2]
  have e0 : mi 174 0 = 100 := by rw [h174, if_pos rfl]
  have e18 : mi 174 18 = -1 := by rw [h174, if_neg (by decide), if_pos rfl]
  have nz : ∀ k, k ≠ 0 → k ≠ 18 → nat (mi 174 k) 0 := fun k e1 e2 => by rw [z k e1 e2]; rfl
  have tz : ∀ k b, 0 < b → k ≠ 0 → k ≠ 18 → natTo (mi 174 k) b := fun k b hb e1 e2 => ⟨0, nz k e1 e2, hb⟩
  refine ⟨hR, Nat.le_refl _, ⟨⟨⟨nz 12 (by decide) (by decide), by decide⟩, ⟨nz 19 (by decide) (by decide), by decide⟩, ⟨nz 13 (by decide) (by decide), by decide⟩, ⟨nz 17 (by decide) (by decide), by decide⟩, ⟨nz 14 (by decide) (by decide), by decide⟩, ⟨nz 15 (by decide) (by decide), by decide⟩, nz 16 (by decide) (by decide), by decide⟩, ⟨100, by rw [e0]; rfl, by decide, by decide⟩, Or.inl e18, fun p hp => absurd hp (Nat.not_lt_zero p), fun k hk => ⟨tz _ _ (by decide) (by omega) (by omega), tz _ _ (by decide) (by omega) (by omega)⟩, fun p hp => absurd hp (Nat.not_lt_zero p), fun p hp => absurd hp (Nat.not_lt_zero p), fun p hp => absurd hp (Nat.not_lt_zero p), fun p hp => absurd hp (Nat.not_lt_zero p)⟩, ⟨?_, ?_, fun i hi => absurd hi (Nat.not_lt_zero i), fun j hj => ?_⟩, ⟨⟨?_, by decide, fun k hk => absurd hk (Nat.not_lt_zero k), fun k hk => absurd hk (Nat.not_lt_zero k)⟩, v1, v2⟩, fun p hp => wp p hp, Or.inl ⟨x1, h4⟩, ?_⟩
  · refine ⟨⟨y0.trans e0.symm, ?_, ?_, ?_, ?_⟩, fun p hp => absurd hp (Nat.not_lt_zero p), fun p hp => absurd hp (Nat.not_lt_zero p), fun p hp => absurd hp (Nat.not_lt_zero p), ⟨?_, fun p hp => absurd hp (Nat.not_lt_zero p)⟩, ⟨?_, fun p hp => absurd hp (Nat.not_lt_zero p)⟩, ?_, fun p hp => absurd hp (Nat.not_lt_zero p)⟩
    · rw [y1, z 12 (by decide) (by decide)]
    · rw [y2, z 19 (by decide) (by decide)]
    · rw [y3, z 13 (by decide) (by decide)]
    · rw [y4, z 17 (by decide) (by decide)]
    · rw [y5, z 14 (by decide) (by decide)]
    · rw [y9, z 15 (by decide) (by decide)]
    · rw [y13, z 16 (by decide) (by decide)]
  · unfold hvOf
    rw [if_pos e18]
    exact h405
  · rw [yt j]
    rfl
  · rw [v3]
    rfl
  · refine ⟨x2.trans h25.symm, 0, ?_, by decide, fun j hj => absurd hj (Nat.not_lt_zero j)⟩
    rw [x2]
    rfl
theorem w_stock {n : Nat} {mi : MI} {mr : MR} {c : CT} (I : INV n mi mr c) (v b : Int32) : ∀ a, a = 0 ∨ a = 174 → (cStock mi v b) a = mi a := by
  intro a ha
  obtain ⟨hR, hn, ⟨⟨hN, hN6⟩, ⟨hW, hW5⟩, ⟨hL, hL5⟩, ⟨hT, hT100⟩, ⟨hS, hS5⟩, ⟨hP, hP8⟩, ⟨hBk, hB8⟩⟩, hrw⟩ := I.facts
  unfold cStock
  split
  · repeat rw [up2_row (by omega)]
  · rfl
theorem w_row {n : Nat} {mi : MI} {mr : MR} {c : CT} (I : INV n mi mr c) (p k x : Int32) : ∀ a, a = 0 ∨ a = 174 → (cRow mi p k x) a = mi a := by
  intro a ha
  obtain ⟨hR, hn, ⟨⟨hN, hN6⟩, ⟨hW, hW5⟩, ⟨hL, hL5⟩, ⟨hT, hT100⟩, ⟨hS, hS5⟩, ⟨hP, hP8⟩, ⟨hBk, hB8⟩⟩, hrw⟩ := I.facts
  unfold cRow
  split
  · repeat rw [up2_row (by omega)]
  · rfl
theorem w_dry {n : Nat} {mi : MI} {mr : MR} {c : CT} (I : INV n mi mr c) (p : Int32) : ∀ a, a = 0 ∨ a = 174 → (cDry mi p) a = mi a := by
  intro a ha
  obtain ⟨hR, hn, ⟨⟨hN, hN6⟩, ⟨hW, hW5⟩, ⟨hL, hL5⟩, ⟨hT, hT100⟩, ⟨hS, hS5⟩, ⟨hP, hP8⟩, ⟨hBk, hB8⟩⟩, hrw⟩ := I.facts
  unfold cDry
  split
  · rename_i hh
    obtain ⟨q, q1, q2⟩ := idxC (b01_n.mpr hh) hN
    rw [nat_of_toInt q1, up2_row (by omega)]
  · rfl
theorem w_feed {n : Nat} {mi : MI} {mr : MR} {c : CT} (I : INV n mi mr c) (x : Int32) : ∀ a, a = 0 ∨ a = 174 → (cFeed mi x) a = mi a := by
  intro a ha
  obtain ⟨hR, hn, ⟨⟨hN, hN6⟩, ⟨hW, hW5⟩, ⟨hL, hL5⟩, ⟨hT, hT100⟩, ⟨hS, hS5⟩, ⟨hP, hP8⟩, ⟨hBk, hB8⟩⟩, hrw⟩ := I.facts
  unfold cFeed
  split
  · repeat rw [up2_row (by omega)]
  · rfl
theorem w_vintage {n : Nat} {mi : MI} {mr : MR} {c : CT} (I : INV n mi mr c) (y b : Int32) : ∀ a, a = 0 ∨ a = 174 → (cVintage mi y b) a = mi a := by
  intro a ha
  obtain ⟨hR, hn, ⟨⟨hN, hN6⟩, ⟨hW, hW5⟩, ⟨hL, hL5⟩, ⟨hT, hT100⟩, ⟨hS, hS5⟩, ⟨hP, hP8⟩, ⟨hBk, hB8⟩⟩, hrw⟩ := I.facts
  unfold cVintage
  split
  · unfold addC
    repeat rw [up2_row (by omega)]
  · rfl
theorem w_see {n : Nat} {mi : MI} {mr : MR} {c : CT} (I : INV n mi mr c) (p age : Int32) : ∀ a, a = 0 ∨ a = 174 → (cTell mi 45 14 5 p age) a = mi a := by
  intro a ha
  obtain ⟨hR, hn, ⟨⟨hN, hN6⟩, ⟨hW, hW5⟩, ⟨hL, hL5⟩, ⟨hT, hT100⟩, ⟨hS, hS5⟩, ⟨hP, hP8⟩, ⟨hBk, hB8⟩⟩, hrw⟩ := I.facts
  unfold cTell
  split
  · repeat rw [up2_row (by omega)]
  · split
    · repeat rw [up2_row (by omega)]
    · rfl
theorem w_book {n : Nat} {mi : MI} {mr : MR} {c : CT} (I : INV n mi mr c) (p age : Int32) : ∀ a, a = 0 ∨ a = 174 → (cTell mi 53 16 8 p age) a = mi a := by
  intro a ha
  obtain ⟨hR, hn, ⟨⟨hN, hN6⟩, ⟨hW, hW5⟩, ⟨hL, hL5⟩, ⟨hT, hT100⟩, ⟨hS, hS5⟩, ⟨hP, hP8⟩, ⟨hBk, hB8⟩⟩, hrw⟩ := I.facts
  unfold cTell
  split
  · repeat rw [up2_row (by omega)]
  · split
    · repeat rw [up2_row (by omega)]
    · rfl
theorem w_night {n : Nat} {mi : MI} {mr : MR} {c : CT} (I : INV n mi mr c) (x p v : Int32) : ∀ a, a = 0 ∨ a = 174 → (cNight mi x p v) a = mi a := by
  intro a ha
  obtain ⟨hR, hn, ⟨⟨hN, hN6⟩, ⟨hW, hW5⟩, ⟨hL, hL5⟩, ⟨hT, hT100⟩, ⟨hS, hS5⟩, ⟨hP, hP8⟩, ⟨hBk, hB8⟩⟩, hrw⟩ := I.facts
  unfold cNight
  split
  · repeat rw [up2_row (by omega)]
  · split
    · rfl
    · split
      · repeat rw [up2_row (by omega)]
      · rfl
theorem w_dawn {n : Nat} {mi : MI} {mr : MR} {c : CT} (I : INV n mi mr c) (x : Int32) : ∀ a, a = 0 ∨ a = 174 → (cDawn mi (cN c) x) a = mi a := by
  intro a ha
  obtain ⟨hR, hn, ⟨⟨hN, hN6⟩, ⟨hW, hW5⟩, ⟨hL, hL5⟩, ⟨hT, hT100⟩, ⟨hS, hS5⟩, ⟨hP, hP8⟩, ⟨hBk, hB8⟩⟩, hrw⟩ := I.facts
  unfold cDawn
  split
  · funext k
    rw [dryTo_off (fun p hp => by omega), up2_row (by omega)]
  · rfl
theorem w_pour {n : Nat} {mi : MI} {mr : MR} {c : CT} (I : INV n mi mr c) (p v : Int32) : ∀ a, a = 0 ∨ a = 174 → (cPour mi p v) a = mi a := by
  intro a ha
  obtain ⟨hR, hn, ⟨⟨hN, hN6⟩, ⟨hW, hW5⟩, ⟨hL, hL5⟩, ⟨hT, hT100⟩, ⟨hS, hS5⟩, ⟨hP, hP8⟩, ⟨hBk, hB8⟩⟩, hrw⟩ := I.facts
  unfold cPour
  split
  · rename_i hh
    obtain ⟨q, q1, q2⟩ := idxC (b01_n.mpr hh.1) hN
    split
    · rfl
    · rw [nat_of_toInt q1, up2_row (by omega), up2_row (by omega)]
  · rfl
theorem w_blend {n : Nat} {mi : MI} {mr : MR} {c : CT} (I : INV n mi mr c) (x y : Int32) : ∀ a, a = 0 ∨ a = 174 → (cBlend mi x y) a = mi a := by
  intro a ha
  obtain ⟨hR, hn, ⟨⟨hN, hN6⟩, ⟨hW, hW5⟩, ⟨hL, hL5⟩, ⟨hT, hT100⟩, ⟨hS, hS5⟩, ⟨hP, hP8⟩, ⟨hBk, hB8⟩⟩, hrw⟩ := I.facts
  unfold cBlend
  split
  · unfold addC
    repeat rw [up2_row (by omega)]
  · rfl
theorem w_act {n : Nat} {mi : MI} {mr : MR} {c : CT} (I : INV n mi mr c) (p x : Int32) : ∀ a, a = 0 ∨ a = 174 → (cAct mi p x) a = mi a := by
  intro a ha
  obtain ⟨hR, hn, ⟨⟨hN, hN6⟩, ⟨hW, hW5⟩, ⟨hL, hL5⟩, ⟨hT, hT100⟩, ⟨hS, hS5⟩, ⟨hP, hP8⟩, ⟨hBk, hB8⟩⟩, hrw⟩ := I.facts
  unfold cAct
  rw [lgT_row (by omega) (by omega), up2_row (by omega)]
theorem w_person {mi m1 : MI} {mr : MR} {n : Nat} {c : CT} (I : INV n mi mr c) {k v b l : Int32} (h : cPerson mi (cN c) k v b l m1) : ∀ a, a = 0 ∨ a = 174 → m1 a = mi a := by
  intro a ha
  have hN6 := I.2.2.1.1.1.2
  rcases h with ⟨-, m2, ho, -, rfl⟩ | ⟨-, rfl⟩
  · rw [up2_row (by omega)]
    exact ho.fn (fun k => by unfold offP; omega)
  · rfl
theorem w_image {mi m1 : MI} {mr mr1 : MR} {n n1 : Nat} {c : CT} {r : Option Value} (h : imQ mi mr n c r n1 m1 mr1) : n = n1 ∧ some (.int (mi 174 12)) = r ∧ mr1 0 0 = mr 0 0 ∧ ∀ a, a = 0 ∨ a = 174 → m1 a = mi a := by
  obtain ⟨h1, h2, rfl, m2, rfl, hk, -⟩ := h
  refine ⟨h2, h1, ?_, fun a ha => ?_⟩
  · simp only [up2]
    rw [if_neg (by omega)]
  · rw [up2_row (by omega)]
    exact funext fun k => hk a (by omega) k
theorem w_undo {mi m1 : MI} {mr mr1 : MR} {n n1 : Nat} {c : CT} {r : Option Value} (I : INV n mi mr c) (h : unQ mi mr n c r n1 m1 mr1) : n = n1 ∧ some (.int (sUndo m1)) = r ∧ mr1 0 0 = mr 0 0 ∧ ∀ a, a = 0 ∨ a = 174 → m1 a = mi a := by
  rcases h with ⟨h0, h1, h2, rfl, rfl⟩ | ⟨h0, h1, h2, rfl, c2, hB2, hC2, hL2, hk, hcp, hkn⟩
  · have h4 : mi 173 4 = 0 := by
      rcases I.2.2.2.2.2.2.1 with h | h
      · exact h.2
      · exact absurd h.1 (by rw [h0]; decide)
    refine ⟨h2, ?_, rfl, fun _ _ => rfl⟩
    unfold sUndo
    rw [if_pos h4]
    exact h1
  · obtain ⟨g1, g2, -⟩ := I.2.2.2.2.2.2.1.resolve_left (fun h => h0 h.1)
    have hk2 : ∀ a, ¬ (40 ≤ a ∧ a ≤ 69) → m1 a = mi a := fun a ha => funext fun k => hk a (by omega) k
    refine ⟨h2, ?_, ?_, fun a ha => hk2 a (by omega)⟩
    · unfold sUndo
      rw [hk2 173 (by omega), hk2 175 (by omega), if_neg (by rw [g2]; decide)]
      exact h1
    · simp only [up2]
      rw [if_neg (by omega)]
theorem w_vil {mi m1 : MI} {mr mr1 : MR} {n n1 : Nat} {c : CT} (I : INV n mi mr c) (h : VilC (mi 174) c n mi mr n1 m1 mr1) : 186 ≤ n1 ∧ RF mr1 ∧ mr1 0 0 = mr 0 0 ∧ ∀ a, a = 0 ∨ a = 174 → m1 a = mi a := by
  have hn := I.2.1
  have hL5 := I.2.2.1.1.2.2.1.2
  rcases h with ⟨-, rfl, rfl, rfl⟩ | ⟨hf, rfl, hR1, ho, -, hv⟩
  · exact ⟨hn, I.1, rfl, fun _ _ => rfl⟩
  · have hL4 : cL c < 5 := lt_of5 I.2.2.1.1.2.2.1.1 hf
    refine ⟨by omega, hR1, ?_, fun a ha => ho.fn (fun k => by unfold offVil; omega)⟩
    unfold VilR at hv
    split at hv
    · exact hv.2 0 0 (by decide)
    · exact hv.2.2.2 0 0 (by decide) (by decide)
theorem w_tr {mi m1 : MI} {mr mr1 : MR} {n n1 hv : Nat} {c : CT} {r r' : Option Value} (I : INV n mi mr c) (h : trQ r n mi mr hv r' n1 m1 mr1) : r = r' ∧ n = n1 ∧ RF mr1 ∧ mr1 0 0 = mr 0 0 ∧ ∀ a, a = 0 ∨ a = 174 → m1 a = mi a := by
  obtain ⟨h1, h2, ho, hm⟩ := h
  refine ⟨h1, h2, ?_, ?_, fun a ha => ho.fn (fun k => by unfold scrC; omega)⟩
  · rcases hm with rfl | rfl
    · exact I.1
    · exact I.1.up2 (RTw5 (Or.inr (Or.inr rfl)))
  · rcases hm with rfl | rfl
    · rfl
    · simp only [up2]
      rw [if_neg (by omega)]
