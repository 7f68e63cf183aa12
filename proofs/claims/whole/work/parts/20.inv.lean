/-! THE INVARIANT: the class' worlds show what the reference's row S (its s, or its image) says -/
def nat (x : Int32) (k : Nat) : Prop := x.toInt = (k : Int)
def natTo (x : Int32) (b : Nat) : Prop := ∃ k : Nat, x.toInt = (k : Int) ∧ k < b
/-- so many people, vintages, villages, signs, rows seen, planned, booked -/
abbrev CT : Type := Nat × Nat × Nat × Nat × Nat × Nat × Nat
abbrev cN (c : CT) : Nat := c.1
abbrev cW (c : CT) : Nat := c.2.1
abbrev cL (c : CT) : Nat := c.2.2.1
abbrev cT (c : CT) : Nat := c.2.2.2.1
abbrev cS (c : CT) : Nat := c.2.2.2.2.1
abbrev cP (c : CT) : Nat := c.2.2.2.2.2.1
abbrev cB (c : CT) : Nat := c.2.2.2.2.2.2
def okCT (S : Nat → Int32) (c : CT) : Prop := (nat (S 12) (cN c) ∧ cN c ≤ 6) ∧ (nat (S 19) (cW c) ∧ cW c ≤ 5) ∧ (nat (S 13) (cL c) ∧ cL c ≤ 5) ∧ (nat (S 17) (cT c) ∧ cT c ≤ 100) ∧ (nat (S 14) (cS c) ∧ cS c ≤ 5) ∧ (nat (S 15) (cP c) ∧ cP c ≤ 8) ∧ (nat (S 16) (cB c) ∧ cB c ≤ 8)
def hasIn (y : Int32) (w : Nat) : Prop := y = -1 ∨ ∃ h : Nat, y.toInt = (h : Int) ∧ h < w
def okPer (S : Nat → Int32) (p w : Nat) : Prop := natTo (S (20 + p)) 7 ∧ natTo (S (26 + p)) 10 ∧ natTo (S (32 + p)) 200 ∧ natTo (S (38 + p)) 121 ∧ hasIn (S (1 + p)) w ∧ ∀ k, k < 4 → natTo (S (44 + 4 * p + k)) 10
/-- what is kept of the reference's row -/
def BD (S : Nat → Int32) (c : CT) : Prop :=
  okCT S c ∧ (∃ y : Nat, (S 0).toInt = (y : Int) ∧ 100 ≤ y ∧ y ≤ 999) ∧ hasIn (S 18) (cL c) ∧ (∀ p, p < cN c → okPer S p (cW c)) ∧ (∀ k, k < 5 → natTo (S (68 + k)) 200 ∧ natTo (S (7 + k)) 100) ∧
  (∀ j, j < cS c → natTo (S (73 + j)) (cN c)) ∧ (∀ j, j < cP c → S (83 + j) = 0 ∨ (natTo (S (91 + j)) (cN c) ∧ (S (83 + j) = 1 → natTo (S (99 + j)) (cW c)))) ∧ (∀ j, j < cB c → natTo (S (107 + j)) (cN c)) ∧ (∀ j, j < cT c → natTo (S (123 + j)) 128)
/-- the world at w shows S -/
def RW (S : Nat → Int32) (c : CT) (mi : MI) (w : Nat) : Prop :=
  (mi w 0 = S 0 ∧ mi w 1 = S 12 ∧ mi w 2 = S 19 ∧ mi w 3 = S 13 ∧ mi w 4 = S 17) ∧
  (∀ p, p < cN c → perIs mi (w + 18 + 2 * p) (S (20 + p)) (S (26 + p)) (S (32 + p)) (S (38 + p)) (S (1 + p)) (fun k => S (44 + 4 * p + k))) ∧
  (∀ k, k < cW c → mi (w + 2) k = S (68 + k) ∧ mi (w + 3) k = S (7 + k)) ∧ (∀ j, j < cT c → mi (w + 4) j = S (123 + j)) ∧
  (mi (w + 5) 3 = S 14 ∧ ∀ j, j < cS c → mi (w + 5 + 2) j = S (73 + j) ∧ mi (w + 5 + 3) j = S (78 + j)) ∧
  (mi (w + 9) 3 = S 15 ∧ ∀ j, j < cP c → mi (w + 9 + 1) j = S (83 + j) ∧ mi (w + 9 + 2) j = S (91 + j) ∧ mi (w + 9 + 3) j = S (99 + j)) ∧
  (mi (w + 13) 3 = S 16 ∧ ∀ j, j < cB c → mi (w + 13 + 2) j = S (107 + j) ∧ mi (w + 13 + 3) j = S (115 + j))
/-- the reference's writing of a step -/
def tokM (c : Int32) : Int32 := if c = -1 ∨ c = -2 ∨ c = -3 then c else nI (c.toNatClampNeg / 300 + 8 * (c.toNatClampNeg / 100 % 3) + 32 * (c.toNatClampNeg % 100))
def markOK (m v : Int32) : Prop := (∃ q : Nat, q < 100 ∧ m.toInt = -10 - (q : Int) ∧ v.toInt = (q : Int)) ∨ ∃ q : Nat, q < 100 ∧ m.toInt = -200 - (q : Int) ∧ v.toInt = -(q : Int)
/-- how many truths lie there behind m steps from i on, d before: none where too few or too many -/
def depTo (s : Nat → Int32) (i : Nat) : Nat → Nat → Option Nat
  | 0, d => some d
  | m + 1, d => if s i = -1 then (if d = 0 then none else depTo s (i + 1) m d) else if s i = -2 ∨ s i = -3 then (if d < 2 then none else depTo s (i + 1) m (d - 1)) else if 30 ≤ d then none else depTo s (i + 1) m (d + 1)
/-- the village at the class' cell a is the reference's i-th -/
def VR (S : Nat → Int32) (mi : MI) (a i : Nat) : Prop := ∃ (nc : Nat) (e : Nat → Nat), VOK mi a nc e ∧ mi a 0 = S (223 + i) ∧ mi a 1 = S (228 + i) ∧ nat (S (233 + i)) (vFrom e nc + nc) ∧
  ∀ k, k < nc → (∀ j, vFrom e k ≤ j → j < e k → S (238 + 140 * i + (j + k)) = tokM (mi (a + 1) j)) ∧ markOK (S (238 + 140 * i + (e k + k))) (mi (a + 2) k) ∧ depTo (mi (a + 1)) (vFrom e k) (e k - vFrom e k) 0 = some 1
def vAt (i : Nat) : Nat := 153 + 4 * i
/-- where the village lies that holds in S -/
def hvOf (S : Nat → Int32) : Nat := if S 18 = -1 then 36 else vAt (S 18).toNatClampNeg
/-- the cells of a world and of the villages that S has -/
def CI (S : Nat → Int32) (c : CT) (mi : MI) (mr : MR) (w : Nat) : Prop := RW S c mi w ∧ mr w 5 = some (hvOf S) ∧ (∀ i, i < cL c → VR S mi (vAt i) i) ∧ charOK mi w
/-- the village that stands for none -/
def V0 (mi : MI) : Prop := VOK mi 36 0 (fun _ => 0) ∧ mi 36 0 = 18 ∧ mi 36 1 = 60
def numOK (mi : MI) : Prop := ∀ p, p < 6 → mi (40 + 18 + 2 * p) 0 = nI p
/-- the image -/
def IM (mi : MI) (mr : MR) (c : CT) : Prop := (mi 32 6 = 0 ∧ mi 173 4 = 0) ∨ (mi 32 6 = 1 ∧ mi 173 4 = 1 ∧ ∃ c2 : CT, BD (mi 175) c2 ∧ CI (mi 175) c2 mi mr 70 ∧ cL c2 ≤ cL c)
/-- the trace -/
def TR (mi : MI) : Prop := mi 34 1 = mi 173 25 ∧ (∃ k : Nat, (mi 34 1).toInt = (k : Int) ∧ k < 1000 ∧ ∀ j, j < k → j < 20 → mi 35 j = mi 185 j)
def INV (n : Nat) (mi : MI) (mr : MR) (c : CT) : Prop := RF mr ∧ 186 ≤ n ∧ BD (mi 174) c ∧ CI (mi 174) c mi mr 40 ∧ V0 mi ∧ numOK mi ∧ IM mi mr c ∧ TR mi
/-- the class' places that no call's answer rests on, the reference's -/
def scrC : Nat → Nat → Prop := fun a _ => a = 57 ∨ (100 ≤ a ∧ a ≤ 152)
def scrM : Nat → Nat → Prop := fun a k => (176 ≤ a ∧ a ≤ 184) ∨ (a = 173 ∧ k ≠ 4 ∧ k ≠ 25)
theorem Off.row {S : Nat → Nat → Prop} {mi mi' : MI} (h : Off S mi mi') {a : Nat} (ha : ∀ k, ¬ S a k) : mi' a = mi a := h.fn ha
theorem perIs.row {mi mi' : MI} {a : Nat} {k v b l h : Int32} {r : Nat → Int32} (H : perIs mi a k v b l h r) (e1 : mi' a = mi a) (e2 : mi' (a + 1) = mi (a + 1)) : perIs mi' a k v b l h r := by
  unfold perIs
  rw [e1, e2]
  exact H
theorem RW.row {S : Nat → Int32} {c : CT} {mi mi' : MI} {w : Nat} (h : RW S c mi w) (hc : cN c ≤ 6) (hq : ∀ a, w ≤ a → a ≤ w + 29 → a ≠ w + 17 → mi' a = mi a) : RW S c mi' w := by
  obtain ⟨h1, h2, h3, h4, h5, h6, h7⟩ := h
  refine ⟨?_, fun p hp => (h2 p hp).row (hq _ (by omega) (by omega) (by omega)) (hq _ (by omega) (by omega) (by omega)), ?_, ?_, ?_, ?_, ?_⟩
  · rw [hq w (by omega) (by omega) (by omega)]; exact h1
  · rw [hq (w + 2) (by omega) (by omega) (by omega), hq (w + 3) (by omega) (by omega) (by omega)]; exact h3
  · rw [hq (w + 4) (by omega) (by omega) (by omega)]; exact h4
  · rw [hq (w + 5) (by omega) (by omega) (by omega), hq (w + 5 + 2) (by omega) (by omega) (by omega), hq (w + 5 + 3) (by omega) (by omega) (by omega)]; exact h5
  · rw [hq (w + 9) (by omega) (by omega) (by omega), hq (w + 9 + 1) (by omega) (by omega) (by omega), hq (w + 9 + 2) (by omega) (by omega) (by omega), hq (w + 9 + 3) (by omega) (by omega) (by omega)]; exact h6
  · rw [hq (w + 13) (by omega) (by omega) (by omega), hq (w + 13 + 2) (by omega) (by omega) (by omega), hq (w + 13 + 3) (by omega) (by omega) (by omega)]; exact h7
theorem VR.row {S : Nat → Int32} {mi mi' : MI} {a i : Nat} (h : VR S mi a i) (hq : ∀ b, a ≤ b → b ≤ a + 3 → mi' b = mi b) : VR S mi' a i := by
  unfold VR VOK at *
  rw [hq a (by omega) (by omega), hq (a + 1) (by omega) (by omega), hq (a + 2) (by omega) (by omega), hq (a + 3) (by omega) (by omega)]
  exact h
theorem CI.row {S : Nat → Int32} {c : CT} {mi mi' : MI} {mr : MR} {w : Nat} (h : CI S c mi mr w) (hc : cN c ≤ 6 ∧ cL c ≤ 5) (hq : ∀ a, (w ≤ a ∧ a ≤ w + 29 ∧ a ≠ w + 17) ∨ (153 ≤ a ∧ a ≤ 172) → mi' a = mi a) : CI S c mi' mr w := by
  obtain ⟨h1, h2, h3, h4⟩ := h
  refine ⟨h1.row hc.1 (fun a g1 g2 g3 => hq a (Or.inl ⟨g1, g2, g3⟩)), h2, fun i hi => (h3 i hi).row (fun b g1 g2 => hq b (Or.inr (by unfold vAt at g1 g2; omega))), ?_⟩
  unfold charOK
  rw [hq (w + 4) (Or.inl (by omega))]
  exact h4
theorem BD.lim {S : Nat → Int32} {c : CT} (h : BD S c) : cN c ≤ 6 ∧ cL c ≤ 5 := ⟨h.1.1.2, h.1.2.2.1.2⟩
/-- nothing of the invariant is at the scratch places -/
theorem INV.off {n : Nat} {mi mi' : MI} {mr : MR} {c : CT} (h : INV n mi mr c) (ho : ∀ a k, ¬ scrC a k → ¬ scrM a k → mi' a k = mi a k) : INV n mi' mr c := by
  obtain ⟨h1, h2, h3, h4, h5, h6, h7, h8⟩ := h
  have row : ∀ a, a ≠ 57 → (a < 100 ∨ 152 < a) → a ≠ 173 → (a < 176 ∨ 184 < a) → mi' a = mi a := fun a g1 g2 g3 g4 => funext fun k => ho a k (by unfold scrC; omega) (by unfold scrM; omega)
  have e4 : mi' 173 4 = mi 173 4 := ho 173 4 (by unfold scrC; omega) (by unfold scrM; omega)
  have e25 : mi' 173 25 = mi 173 25 := ho 173 25 (by unfold scrC; omega) (by unfold scrM; omega)
  have e174 := row 174 (by decide) (by decide) (by decide) (by decide)
  have e175 := row 175 (by decide) (by decide) (by decide) (by decide)
  refine ⟨h1, h2, by rw [e174]; exact h3, ?_, ?_, ?_, ?_, ?_⟩
  · rw [e174]
    exact h4.row h3.lim (fun a ha => row a (by omega) (by omega) (by omega) (by omega))
  · unfold V0 VOK at *
    rw [row 36 (by decide) (by decide) (by decide) (by decide)]
    refine ⟨⟨h5.1.1, h5.1.2.1, fun k hk => absurd hk (by omega), fun k hk => absurd hk (by omega)⟩, h5.2⟩
  · intro p hp
    rw [row (40 + 18 + 2 * p) (by omega) (by omega) (by omega) (by omega)]
    exact h6 p hp
  · unfold IM
    rw [row 32 (by decide) (by decide) (by decide) (by decide), e4, e175]
    rcases h7 with h7 | ⟨g1, g2, c2, g3, g4, g5⟩
    · exact Or.inl h7
    · exact Or.inr ⟨g1, g2, c2, g3, g4.row g3.lim (fun a ha => row a (by omega) (by omega) (by omega) (by omega)), g5⟩
  · unfold TR
    rw [row 34 (by decide) (by decide) (by decide) (by decide), e25, row 35 (by decide) (by decide) (by decide) (by decide), row 185 (by decide) (by decide) (by decide) (by decide)]
    exact h8
theorem INV.offC {n : Nat} {mi mi' : MI} {mr : MR} {c : CT} (h : INV n mi mr c) (ho : Off scrC mi mi') : INV n mi' mr c := h.off (fun a k h1 _ => ho a k h1)
theorem INV.offM {n : Nat} {mi mi' : MI} {mr : MR} {c : CT} (h : INV n mi mr c) (ho : Off scrM mi mi') : INV n mi' mr c := h.off (fun a k _ h2 => ho a k h2)
-- what both sides read
theorem hasIn.ok {y : Int32} {w : Nat} (h : hasIn y w) (hw : w ≤ 5) : okHas y := h.elim Or.inl (fun ⟨k, h1, h2⟩ => Or.inr ⟨k, h1, by omega⟩)
theorem fAge_congr {k v b yr y : Int32} {r r' : Nat → Int32} (h : ∀ j, j < 4 → r j = r' j) : fAge k v b yr y r = fAge k v b yr y r' := by
  unfold fAge
  rw [h _ (Nat.mod_lt _ (by decide))]
theorem age_eq {S : Nat → Int32} {c : CT} {mi : MI} {w p : Nat} {y : Int32} (hB : BD S c) (hr : RW S c mi w) (hp : p < cN c) (hy : hasIn y (cW c)) : cAge mi w p y = sAge S p y := by
  obtain ⟨⟨r1, r2, r3, r4, r5⟩, hper, hvin, -⟩ := hr
  obtain ⟨p1, p2, p3, p4, p5, p6⟩ := hper p hp
  unfold cAge cAgeHad cY sAge sAgeIn
  rw [p1, p2, p3, r1]
  rcases hy with rfl | ⟨h, h1, h2⟩
  · rw [if_pos rfl, if_pos rfl, if_neg (by decide)]
  · have hne : ¬ y = -1 := fun e => by simp only [e, Int32.reduceToInt] at h1; omega
    rw [if_neg hne, if_neg hne, nat_of_toInt h1, (hvin h h2).1]
    obtain ⟨yr, y1, y2⟩ := (hB.2.2.2.2.1 h (by have := hB.1.2.1.2; omega)).1
    have hy0 : (0 : Int32) ≤ S (68 + h) := by rw [Int32.le_iff_toInt_le, y1]; simp only [Int32.reduceToInt]; omega
    rw [if_pos hy0]
    exact fAge_congr p6
