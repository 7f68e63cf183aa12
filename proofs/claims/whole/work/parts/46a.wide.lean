/-- as BD, with another bound for the year: in a night that is tried the year may grow -/
def BDy (u : Nat) (S : Nat → Int32) (c : CT) : Prop :=
  okCT S c ∧ (∃ y : Nat, (S 0).toInt = (y : Int) ∧ 100 ≤ y ∧ y ≤ u) ∧ hasIn (S 18) (cL c) ∧ (∀ p, p < cN c → okPer S p (cW c)) ∧ (∀ k, k < 5 → natTo (S (68 + k)) 200 ∧ natTo (S (7 + k)) 100) ∧
  (∀ j, j < cS c → natTo (S (73 + j)) (cN c)) ∧ (∀ j, j < cP c → S (83 + j) = 0 ∨ (natTo (S (91 + j)) (cN c) ∧ (S (83 + j) = 1 → natTo (S (99 + j)) (cW c)))) ∧ (∀ j, j < cB c → natTo (S (107 + j)) (cN c)) ∧ (∀ j, j < cT c → natTo (S (123 + j)) 128)
theorem BD.y {S : Nat → Int32} {c : CT} (h : BD S c) : BDy 999 S c := h
theorem BDy.mono {u v : Nat} {S : Nat → Int32} {c : CT} (h : BDy u S c) (hu : u ≤ v) : BDy v S c := ⟨h.1, h.2.1.elim (fun y hy => ⟨y, hy.1, hy.2.1, Nat.le_trans hy.2.2 hu⟩), h.2.2⟩
theorem BDy.lim {u : Nat} {S : Nat → Int32} {c : CT} (h : BDy u S c) : cN c ≤ 6 ∧ cL c ≤ 5 := ⟨h.1.1.2, h.1.2.2.1.2⟩
theorem BD.w {S : Nat → Int32} {c : CT} (h : BD S c) : BDy 2000 S c := h.y.mono (by decide)
def okAtY (u : Nat) (c : CT) (a : Nat) (x : Int32) : Prop :=
  (a = 0 → ∃ y : Nat, x.toInt = (y : Int) ∧ 100 ≤ y ∧ y ≤ u) ∧ (1 ≤ a → a ≤ 6 → hasIn x (cW c)) ∧ (7 ≤ a → a ≤ 11 → natTo x 100) ∧ ¬ (12 ≤ a ∧ a ≤ 19) ∧ (20 ≤ a → a < 26 → natTo x 7) ∧ (26 ≤ a → a < 32 → natTo x 10) ∧ (32 ≤ a → a < 38 → natTo x 200) ∧ (38 ≤ a → a < 44 → natTo x 121) ∧ (44 ≤ a → a < 68 → natTo x 10) ∧ (68 ≤ a → a < 73 → natTo x 200) ∧ (73 ≤ a → a < 78 → natTo x (cN c)) ∧ (83 ≤ a → a < 107 → cP c ≤ (a - 83) % 8) ∧ (107 ≤ a → a < 115 → natTo x (cN c)) ∧ (123 ≤ a → a < 223 → natTo x 128)
theorem BDy.set {u : Nat} {S S' : Nat → Int32} {c : CT} {a : Nat} (h : BDy u S c) (hs : ∀ k, k ≠ a → S' k = S k) (hx : okAtY u c a (S' a)) : BDy u S' c := by
  obtain ⟨⟨⟨a1, a1'⟩, ⟨a2, a2'⟩, ⟨a3, a3'⟩, ⟨a4, a4'⟩, ⟨a5, a5'⟩, ⟨a6, a6'⟩, ⟨a7, a7'⟩⟩, h2, h3, h4, h5, h6, h7, h8, h9⟩ := h
  obtain ⟨x0, x1, x2, x3, x4, x5, x6, x7, x8, x9, x10, x11, x12, x13⟩ := hx
  have v : ∀ (P : Int32 → Prop) (k : Nat), P (S k) → (k = a → P (S' a)) → P (S' k) := fun P k g1 g2 => by
    by_cases e : k = a
    · rw [e]; exact g2 e
    · rw [hs k e]; exact g1
  refine ⟨⟨⟨?_, a1'⟩, ⟨?_, a2'⟩, ⟨?_, a3'⟩, ⟨?_, a4'⟩, ⟨?_, a5'⟩, ⟨?_, a6'⟩, ⟨?_, a7'⟩⟩, ?_, ?_, ?_, ?_, ?_, ?_, ?_, ?_⟩
  · rw [hs 12 (by omega)]; exact a1
  · rw [hs 19 (by omega)]; exact a2
  · rw [hs 13 (by omega)]; exact a3
  · rw [hs 17 (by omega)]; exact a4
  · rw [hs 14 (by omega)]; exact a5
  · rw [hs 15 (by omega)]; exact a6
  · rw [hs 16 (by omega)]; exact a7
  · exact v (fun x => ∃ y : Nat, x.toInt = (y : Int) ∧ 100 ≤ y ∧ y ≤ u) 0 h2 (fun e => x0 e.symm)
  · rw [hs 18 (by omega)]; exact h3
  · intro p hp
    obtain ⟨q1, q2, q3, q4, q5, q6⟩ := h4 p hp
    exact ⟨v (natTo · 7) _ q1 (fun e => x4 (by omega) (by omega)), v (natTo · 10) _ q2 (fun e => x5 (by omega) (by omega)), v (natTo · 200) _ q3 (fun e => x6 (by omega) (by omega)), v (natTo · 121) _ q4 (fun e => x7 (by omega) (by omega)), v (hasIn · (cW c)) _ q5 (fun e => x1 (by omega) (by omega)), fun k hk => v (natTo · 10) _ (q6 k hk) (fun e => x8 (by omega) (by omega))⟩
  · intro k hk
    exact ⟨v (natTo · 200) _ (h5 k hk).1 (fun e => x9 (by omega) (by omega)), v (natTo · 100) _ (h5 k hk).2 (fun e => x2 (by omega) (by omega))⟩
  · exact fun j hj => v (natTo · (cN c)) _ (h6 j hj) (fun e => x10 (by omega) (by omega))
  · intro j hj
    rw [hs (83 + j) (fun e => by have := x11 (by omega) (by omega); omega), hs (91 + j) (fun e => by have := x11 (by omega) (by omega); omega), hs (99 + j) (fun e => by have := x11 (by omega) (by omega); omega)]
    exact h7 j hj
  · exact fun j hj => v (natTo · (cN c)) _ (h8 j hj) (fun e => x12 (by omega) (by omega))
  · exact fun j hj => v (natTo · 128) _ (h9 j hj) (fun e => x13 (by omega) (by omega))
theorem BDy.isV {u : Nat} {S : Nat → Int32} {c : CT} (h : BDy u S c) : isV (hvOf S) := by
  unfold hvOf
  by_cases e : S 18 = -1
  · rw [if_pos e]
    exact Or.inl rfl
  · rw [if_neg e]
    obtain ⟨k, h1, h2⟩ := h.2.2.1.resolve_left e
    rw [nat_of_toInt h1]
    have := h.lim.2
    exact vOf (by omega)
theorem BDy.okS {u : Nat} {S : Nat → Int32} {c : CT} (h : BDy u S c) : okS S (cN c) := by
  have hl := h.lim.2
  have hw := h.1.2.1.2
  refine ⟨h.2.2.1.elim Or.inl (fun ⟨k, h1, h2⟩ => Or.inr ⟨k, h1, by omega⟩), fun k hk => ?_, fun p hp => (h.2.2.2.1 p hp).2.2.2.2.1.ok hw⟩
  obtain ⟨q, h1, h2⟩ := (h.2.2.2.2.1 k hk).1
  exact ⟨q, h1, by omega⟩
theorem age_eqY {u : Nat} {S : Nat → Int32} {c : CT} {mi : MI} {w p : Nat} {y : Int32} (hB : BDy u S c) (hr : RW S c mi w) (hp : p < cN c) (hy : hasIn y (cW c)) : cAge mi w p y = sAge S p y := by
  obtain ⟨⟨r1, r2, r3, r4, r5⟩, hper, hvin, -⟩ := hr
  obtain ⟨p1, p2, p3, p4, p5, p6⟩ := hper p hp
  unfold cAge cAgeHad cY sAge sAgeIn
  rw [p1, p2, p3, r1]
  rcases hy with rfl | ⟨h, h1, h2⟩
  · rw [if_pos rfl, if_pos rfl, if_neg (by decide)]
  · have hne : ¬ y = -1 := fun e => by simp only [e, Int32.reduceToInt] at h1; omega
    rw [if_neg hne, if_neg hne, nat_of_toInt h1, (hvin h h2).1]
    obtain ⟨yr, y1, y2⟩ := (hB.2.2.2.2.1 h (by have := hB.1.2.1.2; omega)).1
    have hy0 : (0 : Int32) ≤ S (68 + h) := by rw [Int32.le_iff_toInt_le, y1]; simp only [Int32.reduceToInt]; omega
    rw [if_pos hy0]
    exact fAge_congr p6
theorem here_eqY {u : Nat} {S : Nat → Int32} {c : CT} {mi : MI} {w p hv : Nat} (hB : BDy u S c) (hr : RW S c mi w) (hp : p < cN c) (hh : HV S mi hv) : cHere mi w hv p = sHere S p := by
  unfold cHere sHere
  rw [stage_eq hr hp hh, has_eq hr hp, age_eqY hB hr hp (hB.2.2.2.1 p hp).2.2.2.2.1]
  unfold sStage
  exact decide_eq_decide.mpr fStage_pos
