/-! steps: image, undo, done, act -/
theorem VR.cong {S S' : Nat → Int32} {mi : MI} {a i : Nat} (h : VR S mi a i) (hi : i < 5) (e : ∀ k, k < 938 → S' k = S k) : VR S' mi a i := by
  obtain ⟨nc, f, k1, k2, k3, k4, k5⟩ := h
  have hlen : vFrom f nc ≤ 100 := mv_le (fun k hk => (k1.2.2.1 k hk).2.1)
  have hnc := k1.2.1
  refine ⟨nc, f, k1, ?_, ?_, ?_, fun k hk => ⟨fun j j1 j2 => ?_, ?_, (k5 k hk).2.2⟩⟩
  · rw [e _ (by omega)]; exact k2
  · rw [e _ (by omega)]; exact k3
  · rw [e _ (by omega)]; exact k4
  · have := (k1.2.2.1 k hk).2.1
    rw [e _ (by omega)]; exact (k5 k hk).1 j j1 j2
  · have := (k1.2.2.1 k hk).2.1
    rw [e _ (by omega)]; exact (k5 k hk).2.1
theorem RW.cong {S S' : Nat → Int32} {c : CT} {mi : MI} {w : Nat} (h : RW S c mi w) (hc : okCT S c) (e : ∀ k, k < 938 → S' k = S k) : RW S' c mi w := by
  obtain ⟨⟨hN, hN6⟩, ⟨hW, hW5⟩, ⟨hL, hL5⟩, ⟨hT, hT100⟩, ⟨hS, hS5⟩, ⟨hP, hP8⟩, ⟨hBk, hB8⟩⟩ := hc
  refine RW.mk (fun a k j hp => ?_)
  have hl := hp.le hN6 hW5 hT100 hS5 hP8 hB8
  rw [e j (by omega)]
  exact h.to a k j hp
theorem hvOf_cong {S S' : Nat → Int32} (e : S' 18 = S 18) : hvOf S' = hvOf S := by
  unfold hvOf
  rw [e]
theorem VR.row2 {S : Nat → Int32} {mi m : MI} {c : CT} (h : ∀ i, i < cL c → VR S mi (vAt i) i) (hL : cL c ≤ 5) (hq : ∀ a, 153 ≤ a → a ≤ 172 → m a = mi a) : ∀ i, i < cL c → VR S m (vAt i) i := fun i hi => (h i hi).row (fun b g1 g2 => hq b (by unfold vAt at g1; omega) (by unfold vAt at g2; omega))
theorem i_image {n n' : Nat} {mi m1 : MI} {mr mr1 : MR} {c : CT} {r : Option Value} (I : INV n mi mr c) (h : imQ mi mr n c r n' m1 mr1) : INV n' (mImage m1) mr1 c := by
  obtain ⟨-, rfl, rfl, m2, rfl, hk, hcp⟩ := h
  obtain ⟨hR, hn, hBD, hCI, hV0, hnum, hIM, hTR⟩ := I
  obtain ⟨hrw, h405, hvr, hch⟩ := hCI
  have hok := hBD.1
  obtain ⟨⟨hN, hN6⟩, ⟨hW, hW5⟩, ⟨hL, hL5⟩, ⟨hT, hT100⟩, ⟨hS, hS5⟩, ⟨hP, hP8⟩, ⟨hBk, hB8⟩⟩ := id hok
  have hk2 : ∀ a, ¬ (70 ≤ a ∧ a ≤ 99) → m2 a = mi a := fun a ha => funext fun k => hk a (by omega) k
  have row : ∀ a, ¬ (70 ≤ a ∧ a ≤ 99) → a ≠ 32 → a ≠ 173 → a ≠ 175 → mImage (up2 m2 32 6 1) a = mi a := fun a g1 g2 g3 g4 => by
    unfold mImage
    rw [up2_row g3]
    funext k
    simp only [cp2]
    rw [if_neg (by omega), up2_row g2, hk2 a g1]
  have row7 : ∀ a, 70 ≤ a → a ≤ 99 → mImage (up2 m2 32 6 1) a = m2 a := fun a g1 g2 => by
    unfold mImage
    rw [up2_row (by omega)]
    funext k
    simp only [cp2]
    rw [if_neg (by omega), up2_row (by omega)]
  have e174 := row 174 (by omega) (by omega) (by omega) (by omega)
  have e175 : ∀ k, k < 938 → mImage (up2 m2 32 6 1) 175 k = mi 174 k := fun k hk9 => by
    unfold mImage
    rw [up2_row (by decide)]
    simp only [cp2, true_and]
    rw [if_pos hk9, up2_row (by decide), hk2 174 (by omega)]
  have e32 : mImage (up2 m2 32 6 1) 32 6 = 1 := by
    unfold mImage
    rw [up2_row (by decide)]
    simp only [cp2]
    rw [if_neg (by omega), up2_s]
  have e4 : mImage (up2 m2 32 6 1) 173 4 = 1 := up2_s
  have e25 : mImage (up2 m2 32 6 1) 173 25 = mi 173 25 := by
    have h9 := hk2 173 (by omega)
    unfold mImage
    simp only [up2, cp2]
    rw [if_neg (by omega), if_neg (by omega), if_neg (by omega), h9]
  have hrw7 : RW (mi 174) c m2 70 := hrw.copy hW5 hT100 hcp
  refine ⟨hR.up2 (RTw5 (Or.inr (Or.inl rfl))), hn, by rw [e174]; exact hBD, ?_, ?_, ?_, ?_, ?_⟩
  · rw [e174]
    have h9 : CI (mi 174) c (mImage (up2 m2 32 6 1)) mr 40 := CI.row (mi := mi) ⟨hrw, h405, hvr, hch⟩ ⟨hN6, hL5⟩ (fun a ha => row a (by omega) (by omega) (by omega) (by omega))
    refine ⟨h9.1, ?_, h9.2.2⟩
    simp only [up2]
    rw [if_neg (by omega)]
    exact h405
  · unfold V0 VOK at *
    rw [row 36 (by omega) (by omega) (by omega) (by omega)]
    refine ⟨⟨hV0.1.1, hV0.1.2.1, fun k hk => absurd hk (by omega), fun k hk => absurd hk (by omega)⟩, hV0.2⟩
  · intro p hp
    rw [row (40 + 18 + 2 * p) (by omega) (by omega) (by omega) (by omega)]
    exact hnum p hp
  · refine Or.inr ⟨e32, e4, c, hBD.low (fun k hk9 => e175 k (by omega)), ⟨?_, ?_, ?_, ?_⟩, Nat.le_refl _⟩
    · have h9 : RW (mi 174) c (mImage (up2 m2 32 6 1)) 70 := hrw7.row hN6 (fun a g1 g2 g3 => row7 a g1 g2)
      exact h9.cong hok e175
    · rw [hvOf_cong (e175 18 (by decide)), up2_s]
    · intro i hi
      refine VR.cong ?_ (by omega) e175
      exact VR.row2 (c := c) hvr hL5 (fun a g1 g2 => row a (by omega) (by omega) (by omega) (by omega)) i hi
    · intro j hj
      rw [row7 (70 + 4) (by omega) (by omega), hcp.2.2.2.1 j hj]
      exact hch j hj
  · unfold TR
    rw [row 34 (by omega) (by omega) (by omega) (by omega), e25, row 35 (by omega) (by omega) (by omega) (by omega), row 185 (by omega) (by omega) (by omega) (by omega)]
    exact hTR
theorem i_undo {n n' : Nat} {mi m1 : MI} {mr mr1 : MR} {c : CT} {r : Option Value} (I : INV n mi mr c) (h : unQ mi mr n c r n' m1 mr1) : ∃ c2, INV n' (mUndo m1) mr1 c2 := by
  rcases h with ⟨h0, -, rfl, rfl, rfl⟩ | ⟨h0, -, rfl, rfl, c2, hB2, hC2, hL2, hk, hcp, hkn⟩
  · have h4 : mi 173 4 = 0 := by
      rcases I.2.2.2.2.2.2.1 with h | h
      · exact h.2
      · exact absurd h.1 (by rw [h0]; decide)
    unfold mUndo
    rw [if_pos h4]
    exact ⟨c, I⟩
  · obtain ⟨hR, hn, hBD, hCI, hV0, hnum, hIM, hTR⟩ := I
    obtain ⟨g1, g2, -⟩ := hIM.resolve_left (fun h => h0 h.1)
    obtain ⟨hrw, h705, hvr, hch⟩ := hC2
    have hok := hB2.1
    obtain ⟨⟨hN, hN6⟩, ⟨hW, hW5⟩, ⟨hL, hL5⟩, ⟨hT, hT100⟩, ⟨hS, hS5⟩, ⟨hP, hP8⟩, ⟨hBk, hB8⟩⟩ := id hok
    have hk2 : ∀ a, ¬ (40 ≤ a ∧ a ≤ 69) → m1 a = mi a := fun a ha => funext fun k => hk a (by omega) k
    have hU : mUndo m1 = cp2 m1 175 174 938 := by
      unfold mUndo
      rw [if_neg]
      rw [hk2 173 (by omega), g2]
      decide
    rw [hU]
    have row : ∀ a, ¬ (40 ≤ a ∧ a ≤ 69) → a ≠ 174 → cp2 m1 175 174 938 a = mi a := fun a g1 g2 => by
      funext k
      simp only [cp2]
      rw [if_neg (by omega), hk2 a g1]
    have row4 : ∀ a, 40 ≤ a → a ≤ 69 → cp2 m1 175 174 938 a = m1 a := fun a g1 g2 => by
      funext k
      simp only [cp2]
      rw [if_neg (by omega)]
    have e174 : ∀ k, k < 938 → cp2 m1 175 174 938 174 k = mi 175 k := fun k hk9 => by
      simp only [cp2, true_and]
      rw [if_pos hk9, hk2 175 (by omega)]
    have hrw4 : RW (mi 175) c2 m1 40 := hrw.copy hW5 hT100 hcp
    have e175 := row 175 (by omega) (by omega)
    have e173 := row 173 (by omega) (by omega)
    refine ⟨c2, hR.up2 (RTw5 (Or.inl rfl)), hn, hB2.low (fun k hk9 => e174 k (by omega)), ⟨?_, ?_, ?_, ?_⟩, ?_, ?_, ?_, ?_⟩
    · have h9 : RW (mi 175) c2 (cp2 m1 175 174 938) 40 := hrw4.row hN6 (fun a g1 g2 g3 => row4 a g1 g2)
      exact h9.cong hok e174
    · rw [hvOf_cong (e174 18 (by decide)), up2_s]
    · intro i hi
      refine VR.cong ?_ (by omega) e174
      exact VR.row2 (c := c2) hvr hL5 (fun a g1 g2 => row a (by omega) (by omega)) i hi
    · intro j hj
      rw [row4 (40 + 4) (by omega) (by omega), hcp.2.2.2.1 j hj]
      exact hch j hj
    · unfold V0 VOK at *
      rw [row 36 (by omega) (by omega)]
      refine ⟨⟨hV0.1.1, hV0.1.2.1, fun k hk => absurd hk (by omega), fun k hk => absurd hk (by omega)⟩, hV0.2⟩
    · intro p hp
      rw [row4 (40 + 18 + 2 * p) (by omega) (by omega), hkn p hp]
      exact hnum p hp
    · unfold IM
      rw [row 32 (by omega) (by omega), e173, e175]
      have h9 : CI (mi 175) c2 (cp2 m1 175 174 938) mr 70 := CI.row (mi := mi) ⟨hrw, h705, hvr, hch⟩ ⟨hN6, hL5⟩ (fun a ha => row a (by omega) (by omega))
      refine Or.inr ⟨g1, g2, c2, hB2, ⟨h9.1, ?_, h9.2.2⟩, Nat.le_refl _⟩
      simp only [up2]
      rw [if_neg (by omega)]
      exact h705
    · unfold TR
      rw [row 34 (by omega) (by omega), e173, row 35 (by omega) (by omega), row 185 (by omega) (by omega)]
      exact hTR
theorem INV.mr5 {n : Nat} {mi : MI} {mr : MR} {c : CT} (I : INV n mi mr c) {x : Option Nat} : INV n mi (up2 mr 100 5 x) c := by
  obtain ⟨hR, hn, hBD, hCI, hV0, hnum, hIM, hTR⟩ := I
  have e4 : up2 mr 100 5 x 40 5 = mr 40 5 := by simp only [up2]; rw [if_neg (by omega)]
  have e7 : up2 mr 100 5 x 70 5 = mr 70 5 := by simp only [up2]; rw [if_neg (by omega)]
  refine ⟨hR.up2 (RTw5 (Or.inr (Or.inr rfl))), hn, hBD, ⟨hCI.1, e4.trans hCI.2.1, hCI.2.2⟩, hV0, hnum, ?_, hTR⟩
  rcases hIM with h | ⟨g1, g2, c2, g3, g4, g5⟩
  · exact Or.inl h
  · exact Or.inr ⟨g1, g2, c2, g3, ⟨g4.1, e7.trans g4.2.1, g4.2.2⟩, g5⟩
theorem i_done {n n' : Nat} {mi m1 : MI} {mr mr1 : MR} {c : CT} {r r' : Option Value} {hv : Nat} (I : INV n mi mr c) (h : trQ r n mi mr hv r' n' m1 mr1) : INV n' m1 mr1 c := by
  obtain ⟨-, rfl, ho, hm⟩ := h
  have I1 := I.offC ho
  rcases hm with rfl | rfl
  · exact I1
  · exact I1.mr5
theorem actL_len {a k : Nat} (ha : a < 3) (hk : k < 7) : (actL a k).length < 1000 := by
  have e : ∀ (a : Fin 3) (k : Fin 7), (actL a.1 k.1).length < 1000 := by decide
  exact e ⟨a, ha⟩ ⟨k, hk⟩
theorem i_act2 {n : Nat} {mi : MI} {mr : MR} {c : CT} (I : INV n mi mr c) (p a : Int32) : INV n (mAct (cAct mi p a) p a) mr c := by
  refine i_act I p a ?_ (fun h => if_neg h)
  unfold sActL
  split
  · rename_i hok
    obtain ⟨q, q1, q2⟩ := idxC (b01_n.mpr hok.1) I.2.2.1.1.1.1
    obtain ⟨k, k1, k2⟩ := (I.2.2.1.2.2.2.1 q q2).1
    have ha : a.toNatClampNeg < 3 := by
      have h := hok.2
      simp only [Int32.le_iff_toInt_le, Int32.reduceToInt] at h
      show a.toInt.toNat < 3
      omega
    have hkd : kdS (mi 174) p = k := by
      unfold kdS
      rw [nat_of_toInt q1, nat_of_toInt k1]
    rw [hkd]
    exact actL_len ha k2
  · decide
