/-! what is kept when a call writes -/
/-- the world's place a, k shows the row's place j -/
def PT (c : CT) (a k j : Nat) : Prop :=
  (a = 0 ∧ ((k = 0 ∧ j = 0) ∨ (k = 1 ∧ j = 12) ∨ (k = 2 ∧ j = 19) ∨ (k = 3 ∧ j = 13) ∨ (k = 4 ∧ j = 17))) ∨
  (18 ≤ a ∧ a < 18 + 2 * cN c ∧ a % 2 = 0 ∧ ((k = 1 ∧ j = 20 + (a - 18) / 2) ∨ (k = 2 ∧ j = 26 + (a - 18) / 2) ∨ (k = 3 ∧ j = 32 + (a - 18) / 2) ∨ (k = 4 ∧ j = 38 + (a - 18) / 2) ∨ (k = 5 ∧ j = 1 + (a - 18) / 2))) ∨
  (18 ≤ a ∧ a < 18 + 2 * cN c ∧ a % 2 = 1 ∧ k < 4 ∧ j = 44 + 4 * ((a - 18) / 2) + k) ∨
  (a = 2 ∧ k < cW c ∧ j = 68 + k) ∨ (a = 3 ∧ k < cW c ∧ j = 7 + k) ∨ (a = 4 ∧ k < cT c ∧ j = 123 + k) ∨
  (a = 5 ∧ k = 3 ∧ j = 14) ∨ (a = 7 ∧ k < cS c ∧ j = 73 + k) ∨ (a = 8 ∧ k < cS c ∧ j = 78 + k) ∨
  (a = 9 ∧ k = 3 ∧ j = 15) ∨ (a = 10 ∧ k < cP c ∧ j = 83 + k) ∨ (a = 11 ∧ k < cP c ∧ j = 91 + k) ∨ (a = 12 ∧ k < cP c ∧ j = 99 + k) ∨
  (a = 13 ∧ k = 3 ∧ j = 16) ∨ (a = 15 ∧ k < cB c ∧ j = 107 + k) ∨ (a = 16 ∧ k < cB c ∧ j = 115 + k)
theorem RW.to {S : Nat → Int32} {c : CT} {mi : MI} {w : Nat} (h : RW S c mi w) (a k j : Nat) (hp : PT c a k j) : mi (w + a) k = S j := by
  obtain ⟨⟨r1, r2, r3, r4, r5⟩, hper, hvin, htape, ⟨s1, s2⟩, ⟨n1, n2⟩, ⟨b1, b2⟩⟩ := h
  unfold PT at hp
  rcases hp with ⟨rfl, hp⟩ | ⟨h1, h2, h3, hp⟩ | ⟨h1, h2, h3, h4, rfl⟩ | ⟨rfl, h1, rfl⟩ | ⟨rfl, h1, rfl⟩ | ⟨rfl, h1, rfl⟩ | ⟨rfl, rfl, rfl⟩ | ⟨rfl, h1, rfl⟩ | ⟨rfl, h1, rfl⟩ | ⟨rfl, rfl, rfl⟩ | ⟨rfl, h1, rfl⟩ | ⟨rfl, h1, rfl⟩ | ⟨rfl, h1, rfl⟩ | ⟨rfl, rfl, rfl⟩ | ⟨rfl, h1, rfl⟩ | ⟨rfl, h1, rfl⟩
  · rcases hp with ⟨rfl, rfl⟩ | ⟨rfl, rfl⟩ | ⟨rfl, rfl⟩ | ⟨rfl, rfl⟩ | ⟨rfl, rfl⟩ <;> assumption
  · obtain ⟨p1, p2, p3, p4, p5, p6⟩ := hper ((a - 18) / 2) (by omega)
    rw [show w + a = w + 18 + 2 * ((a - 18) / 2) by omega]
    rcases hp with ⟨rfl, rfl⟩ | ⟨rfl, rfl⟩ | ⟨rfl, rfl⟩ | ⟨rfl, rfl⟩ | ⟨rfl, rfl⟩ <;> assumption
  · obtain ⟨p1, p2, p3, p4, p5, p6⟩ := hper ((a - 18) / 2) (by omega)
    rw [show w + a = w + 18 + 2 * ((a - 18) / 2) + 1 by omega]
    exact p6 k h4
  · exact (hvin k h1).1
  · exact (hvin k h1).2
  · exact htape k h1
  · exact s1
  · exact (s2 k h1).1
  · exact (s2 k h1).2
  · exact n1
  · exact (n2 k h1).1
  · exact (n2 k h1).2.1
  · exact (n2 k h1).2.2
  · exact b1
  · exact (b2 k h1).1
  · exact (b2 k h1).2
theorem PT.cell {c : CT} {a k j : Nat} (h : (a = 0 ∧ ((k = 0 ∧ j = 0) ∨ (k = 1 ∧ j = 12) ∨ (k = 2 ∧ j = 19) ∨ (k = 3 ∧ j = 13) ∨ (k = 4 ∧ j = 17))) ∨ (a = 5 ∧ k = 3 ∧ j = 14) ∨ (a = 9 ∧ k = 3 ∧ j = 15) ∨ (a = 13 ∧ k = 3 ∧ j = 16)) : PT c a k j := by
  unfold PT
  rcases h with h | h | h | h
  · exact Or.inl h
  · exact Or.inr (Or.inr (Or.inr (Or.inr (Or.inr (Or.inr (Or.inl h))))))
  · exact Or.inr (Or.inr (Or.inr (Or.inr (Or.inr (Or.inr (Or.inr (Or.inr (Or.inr (Or.inl h)))))))))
  · exact Or.inr (Or.inr (Or.inr (Or.inr (Or.inr (Or.inr (Or.inr (Or.inr (Or.inr (Or.inr (Or.inr (Or.inr (Or.inr (Or.inl h)))))))))))))
theorem PT.per {c : CT} {p k j : Nat} (hp : p < cN c) (h : (k = 1 ∧ j = 20 + p) ∨ (k = 2 ∧ j = 26 + p) ∨ (k = 3 ∧ j = 32 + p) ∨ (k = 4 ∧ j = 38 + p) ∨ (k = 5 ∧ j = 1 + p)) : PT c (18 + 2 * p) k j := by
  unfold PT
  exact Or.inr (Or.inl ⟨by omega, by omega, by omega, by omega⟩)
theorem PT.row {c : CT} {p k : Nat} (hp : p < cN c) (hk : k < 4) : PT c (18 + 2 * p + 1) k (44 + 4 * p + k) := by
  unfold PT
  exact Or.inr (Or.inr (Or.inl ⟨by omega, by omega, by omega, by omega, by omega⟩))
theorem PT.vin {c : CT} {k : Nat} (hk : k < cW c) : PT c 2 k (68 + k) ∧ PT c 3 k (7 + k) := by
  unfold PT
  exact ⟨Or.inr (Or.inr (Or.inr (Or.inl ⟨rfl, hk, rfl⟩))), Or.inr (Or.inr (Or.inr (Or.inr (Or.inl ⟨rfl, hk, rfl⟩))))⟩
theorem PT.tape {c : CT} {k : Nat} (hk : k < cT c) : PT c 4 k (123 + k) := by
  unfold PT
  exact Or.inr (Or.inr (Or.inr (Or.inr (Or.inr (Or.inl ⟨rfl, hk, rfl⟩)))))
theorem PT.seen {c : CT} {k : Nat} (hk : k < cS c) : PT c 7 k (73 + k) ∧ PT c 8 k (78 + k) := by
  unfold PT
  exact ⟨Or.inr (Or.inr (Or.inr (Or.inr (Or.inr (Or.inr (Or.inr (Or.inl ⟨rfl, hk, rfl⟩))))))), Or.inr (Or.inr (Or.inr (Or.inr (Or.inr (Or.inr (Or.inr (Or.inr (Or.inl ⟨rfl, hk, rfl⟩))))))))⟩
theorem PT.night {c : CT} {k : Nat} (hk : k < cP c) : PT c 10 k (83 + k) ∧ PT c 11 k (91 + k) ∧ PT c 12 k (99 + k) := by
  unfold PT
  refine ⟨?_, ?_, ?_⟩ <;> iterate 10 apply Or.inr
  · exact Or.inl ⟨rfl, hk, rfl⟩
  · exact Or.inr (Or.inl ⟨rfl, hk, rfl⟩)
  · exact Or.inr (Or.inr (Or.inl ⟨rfl, hk, rfl⟩))
theorem PT.book {c : CT} {k : Nat} (hk : k < cB c) : PT c 15 k (107 + k) ∧ PT c 16 k (115 + k) := by
  unfold PT
  refine ⟨?_, ?_⟩ <;> iterate 14 apply Or.inr
  · exact Or.inl ⟨rfl, hk, rfl⟩
  · exact Or.inr ⟨rfl, hk, rfl⟩
theorem RW.mk {S : Nat → Int32} {c : CT} {mi : MI} {w : Nat} (h : ∀ a k j, PT c a k j → mi (w + a) k = S j) : RW S c mi w := by
  refine ⟨⟨h 0 0 0 (PT.cell (by omega)), h 0 1 12 (PT.cell (by omega)), h 0 2 19 (PT.cell (by omega)), h 0 3 13 (PT.cell (by omega)), h 0 4 17 (PT.cell (by omega))⟩, fun p hp => ?_, fun k hk => ⟨h 2 k _ (PT.vin hk).1, h 3 k _ (PT.vin hk).2⟩, fun k hk => h 4 k _ (PT.tape hk), ⟨h 5 3 14 (PT.cell (by omega)), fun k hk => ⟨h 7 k _ (PT.seen hk).1, h 8 k _ (PT.seen hk).2⟩⟩, ⟨h 9 3 15 (PT.cell (by omega)), fun k hk => ⟨h 10 k _ (PT.night hk).1, h 11 k _ (PT.night hk).2.1, h 12 k _ (PT.night hk).2.2⟩⟩, h 13 3 16 (PT.cell (by omega)), fun k hk => ⟨h 15 k _ (PT.book hk).1, h 16 k _ (PT.book hk).2⟩⟩
  have e : w + 18 + 2 * p = w + (18 + 2 * p) := by omega
  unfold perIs
  rw [e, Nat.add_assoc]
  exact ⟨h _ 1 _ (PT.per hp (by omega)), h _ 2 _ (PT.per hp (by omega)), h _ 3 _ (PT.per hp (by omega)), h _ 4 _ (PT.per hp (by omega)), h _ 5 _ (PT.per hp (by omega)), fun k hk => h _ k _ (PT.row hp hk)⟩
/-- may x stand at the place a -/
def okAt (c : CT) (a : Nat) (x : Int32) : Prop :=
  (a = 0 → ∃ y : Nat, x.toInt = (y : Int) ∧ 100 ≤ y ∧ y ≤ 999) ∧ (1 ≤ a → a ≤ 6 → hasIn x (cW c)) ∧ (7 ≤ a → a ≤ 11 → natTo x 100) ∧ ¬ (12 ≤ a ∧ a ≤ 19) ∧ (20 ≤ a → a < 26 → natTo x 7) ∧ (26 ≤ a → a < 32 → natTo x 10) ∧ (32 ≤ a → a < 38 → natTo x 200) ∧ (38 ≤ a → a < 44 → natTo x 121) ∧ (44 ≤ a → a < 68 → natTo x 10) ∧ (68 ≤ a → a < 73 → natTo x 200) ∧ (73 ≤ a → a < 78 → natTo x (cN c)) ∧ (83 ≤ a → a < 107 → cP c ≤ (a - 83) % 8) ∧ (107 ≤ a → a < 115 → natTo x (cN c)) ∧ (123 ≤ a → a < 223 → natTo x 128)
theorem BD.set {S S' : Nat → Int32} {c : CT} {a : Nat} (h : BD S c) (hs : ∀ k, k ≠ a → S' k = S k) (hx : okAt c a (S' a)) : BD S' c := by
  obtain ⟨⟨⟨a1, a1'⟩, ⟨a2, a2'⟩, ⟨a3, a3'⟩, ⟨a4, a4'⟩, ⟨a5, a5'⟩, ⟨a6, a6'⟩, ⟨a7, a7'⟩⟩, h2, h3, h4, h5, h6, h7, h8, h9⟩ := h
  obtain ⟨x0, x1, x2, x3, x4, x5, x6, x7, x8, x9, x10, x11, x12, x13⟩ := hx
  have v : ∀ (P : Int32 → Prop) (k : Nat), P (S k) → (k = a → P (S' a)) → P (S' k) := fun P k g1 g2 => by
    by_cases e : k = a
    · rw [e]; exact g2 e
    · rw [hs k e]; exact g1
  refine ⟨⟨⟨?_, a1'⟩, ⟨?_, a2'⟩, ⟨?_, a3'⟩, ⟨?_, a4'⟩, ⟨?_, a5'⟩, ⟨?_, a6'⟩, ⟨?_, a7'⟩⟩, ?_, ?_, ?_, ?_, ?_, ?_, ?_, ?_⟩
  · rw [hs 12 (by omega)]; exact a1
  · rw [hs 19 (by omega)]; exact a2
  · rw [hs 13 (by omega)]; exact a3
  · rw [hs 17 (by omega)]; exact a4
  · rw [hs 14 (by omega)]; exact a5
  · rw [hs 15 (by omega)]; exact a6
  · rw [hs 16 (by omega)]; exact a7
  · exact v (fun x => ∃ y : Nat, x.toInt = (y : Int) ∧ 100 ≤ y ∧ y ≤ 999) 0 h2 (fun e => x0 e.symm)
  · rw [hs 18 (by omega)]; exact h3
  · intro p hp
    obtain ⟨q1, q2, q3, q4, q5, q6⟩ := h4 p hp
    exact ⟨v (natTo · 7) _ q1 (fun e => x4 (by omega) (by omega)), v (natTo · 10) _ q2 (fun e => x5 (by omega) (by omega)), v (natTo · 200) _ q3 (fun e => x6 (by omega) (by omega)), v (natTo · 121) _ q4 (fun e => x7 (by omega) (by omega)), v (hasIn · (cW c)) _ q5 (fun e => x1 (by omega) (by omega)), fun k hk => v (natTo · 10) _ (q6 k hk) (fun e => x8 (by omega) (by omega))⟩
  · intro k hk
    exact ⟨v (natTo · 200) _ (h5 k hk).1 (fun e => x9 (by omega) (by omega)), v (natTo · 100) _ (h5 k hk).2 (fun e => x2 (by omega) (by omega))⟩
  · exact fun j hj => v (natTo · (cN c)) _ (h6 j hj) (fun e => x10 (by omega) (by omega))
  · intro j hj
    rw [hs (83 + j) (fun e => by have := x11 (by omega) (by omega); omega), hs (91 + j) (fun e => by have := x11 (by omega) (by omega); omega), hs (99 + j) (fun e => by have := x11 (by omega) (by omega); omega)]
    exact h7 j hj
  · exact fun j hj => v (natTo · (cN c)) _ (h8 j hj) (fun e => x12 (by omega) (by omega))
  · exact fun j hj => v (natTo · 128) _ (h9 j hj) (fun e => x13 (by omega) (by omega))
theorem BD.up {mi : MI} {c : CT} {a : Nat} {x : Int32} (h : BD (mi 174) c) (hx : okAt c a x) : BD (up2 mi 174 a x 174) c := by
  refine h.set (a := a) (fun k hk => ?_) ?_
  · simp only [up2]
    rw [if_neg (by omega)]
  · rw [up2_s]
    exact hx
theorem BD.upo {mi : MI} {c : CT} {b a : Nat} {x : Int32} (h : BD (mi 174) c) (hb : b ≠ 174) : BD (up2 mi b a x 174) c := by
  have e : up2 mi b a x 174 = mi 174 := by
    funext k
    simp only [up2]
    rw [if_neg (by omega)]
  rw [e]
  exact h
/-- one step of a world and of the reference's row: nothing but the world, the row and scratch changes -/
theorem INV.upd {n : Nat} {mi mi' : MI} {mr : MR} {c c' : CT} (h : INV n mi mr c) (hB : BD (mi' 174) c') (hW : RW (mi' 174) c' mi' 40) (hch : charOK mi' 40) (eL : cL c' = cL c) (e18 : mi' 174 18 = mi 174 18) (eS : ∀ k, 223 ≤ k → mi' 174 k = mi 174 k)
    (ho : ∀ a k, ¬ (40 ≤ a ∧ a ≤ 69 ∧ ¬ (k = 0 ∧ 58 ≤ a ∧ a % 2 = 0)) → a ≠ 174 → ¬ scrC a k → ¬ scrM a k → mi' a k = mi a k) : INV n mi' mr c' := by
  obtain ⟨h1, h2, h3, h4, h5, h6, h7, h8⟩ := h
  have row : ∀ a, a ≠ 57 → (a < 40 ∨ (69 < a ∧ a < 100) ∨ 152 < a) → a ≠ 173 → a ≠ 174 → (a < 176 ∨ 184 < a) → mi' a = mi a := fun a g1 g2 g3 g4 g5 => funext fun k => ho a k (by omega) g4 (by unfold scrC; omega) (by unfold scrM; omega)
  have e4 : mi' 173 4 = mi 173 4 := ho 173 4 (by omega) (by omega) (by unfold scrC; omega) (by unfold scrM; omega)
  have e25 : mi' 173 25 = mi 173 25 := ho 173 25 (by omega) (by omega) (by unfold scrC; omega) (by unfold scrM; omega)
  have e175 := row 175 (by decide) (by decide) (by decide) (by decide) (by decide)
  obtain ⟨g1, g2, g3, g4⟩ := h4
  refine ⟨h1, h2, hB, ⟨hW, ?_, ?_, hch⟩, ?_, ?_, ?_, ?_⟩
  · unfold hvOf at *
    rw [e18]
    exact g2
  · intro i hi
    rw [eL] at hi
    have g := g3 i hi
    have hi5 : i < 5 := by have := h3.lim.2; omega
    have gr := g.row (mi' := mi') (fun b q1 q2 => row b (by unfold vAt at q1 q2; omega) (by unfold vAt at q1 q2; omega) (by unfold vAt at q1 q2; omega) (by unfold vAt at q1 q2; omega) (by unfold vAt at q1 q2; omega))
    obtain ⟨nc, e, k1, k2, k3, k4, k5⟩ := gr
    refine ⟨nc, e, k1, ?_, ?_, ?_, fun k hk => ⟨fun j j1 j2 => ?_, ?_, (k5 k hk).2.2⟩⟩
    · rw [eS _ (by omega)]; exact k2
    · rw [eS _ (by omega)]; exact k3
    · rw [eS _ (by omega)]; exact k4
    · rw [eS _ (by omega)]; exact (k5 k hk).1 j j1 j2
    · rw [eS _ (by omega)]; exact (k5 k hk).2.1
  · unfold V0 VOK at *
    rw [row 36 (by decide) (by decide) (by decide) (by decide) (by decide)]
    refine ⟨⟨h5.1.1, h5.1.2.1, fun k hk => absurd hk (by omega), fun k hk => absurd hk (by omega)⟩, h5.2⟩
  · intro p hp
    rw [ho (40 + 18 + 2 * p) 0 (by omega) (by omega) (by unfold scrC; omega) (by unfold scrM; omega)]
    exact h6 p hp
  · unfold IM
    rw [row 32 (by decide) (by decide) (by decide) (by decide) (by decide), e4, e175, eL]
    rcases h7 with h7 | ⟨g1, g2, c2, g3, g4, g5⟩
    · exact Or.inl h7
    · exact Or.inr ⟨g1, g2, c2, g3, g4.row g3.lim (fun a ha => row a (by omega) (by omega) (by omega) (by omega) (by omega)), g5⟩
  · unfold TR
    rw [row 34 (by decide) (by decide) (by decide) (by decide) (by decide), e25, row 35 (by decide) (by decide) (by decide) (by decide) (by decide), row 185 (by decide) (by decide) (by decide) (by decide) (by decide)]
    exact h8
