/-! constant references, by program's order of making; shapes at symbolic places -/
def RTW (w : Nat) : Nat → Nat → Option Nat := fun o k => match o, k with
  | 0, 6 => some (w + 1)
  | 0, 7 => some (w + 2)
  | 0, 8 => some (w + 3)
  | 0, 9 => some (w + 4)
  | 0, 10 => some (w + 5)
  | 0, 11 => some (w + 9)
  | 0, 12 => some (w + 13)
  | 0, 13 => some (w + 17)
  | 1, k => if k < 6 then some (w + 18 + 2 * k) else none
  | 5, k => if k < 3 then some (w + 6 + k) else none
  | 9, k => if k < 3 then some (w + 10 + k) else none
  | 13, k => if k < 3 then some (w + 14 + k) else none
  | o + 18, 6 => if o % 2 = 0 then some (w + 19 + o) else none
  | _, _ => none
def RTV (a : Nat) : Nat → Nat → Option Nat := fun o k => match o, k with
  | 0, 4 => some (a + 1)
  | 0, 5 => some (a + 2)
  | 0, 6 => some (a + 3)
  | _, _ => none
def RTS : Nat → Nat → Option Nat := fun o k => match o, k with
  | 0, 0 => some 40
  | 0, 1 => some 131
  | 0, 2 => some 138
  | 0, k + 3 => if k < 8 then some (145 + k) else none
  | 1, k => if k < 6 then some (132 + k) else none
  | 8, k => if k < 6 then some (139 + k) else none
  | _, _ => none
def RTM : Nat → Nat → Option Nat := fun o k => match o, k with
  | 0, 1 => some 174
  | 0, 2 => some 175
  | 0, 3 => some 176
  | 0, 10 => some 177
  | 0, 11 => some 178
  | 0, 12 => some 179
  | 0, 13 => some 180
  | 0, 14 => some 181
  | 0, 15 => some 182
  | 0, 16 => some 183
  | 0, 17 => some 184
  | 0, 24 => some 185
  | _, _ => none
def RTB : Nat → Nat → Option Nat := fun o k => match o, k with
  | 32, 0 => some 33
  | 32, 1 => some 40
  | 32, 2 => some 70
  | 32, 3 => some 100
  | 32, 4 => some 130
  | 32, 5 => some 34
  | 33, k => if k < 5 then some (153 + 4 * k) else none
  | 34, 0 => some 35
  | _, _ => none
def RT (a k : Nat) : Option Nat := if a < 36 then RTB a k else if a < 40 then RTV 36 (a - 36) k else if a < 130 then RTW (40 + (a - 40) / 30 * 30) ((a - 40) % 30) k else if a < 153 then RTS (a - 130) k else if a < 173 then RTV (153 + (a - 153) / 4 * 4) ((a - 153) % 4) k else if a < 186 then RTM (a - 173) k else none
def RF (mr : MR) : Prop := ∀ a k b, RT a k = some b → mr a k = some b
theorem RF.up {mr : MR} (h : RF mr) {a k : Nat} {x : Option Nat} (hn : RT a k = none) : RF (fun i j => if i = a ∧ j = k then x else mr i j) := by
  intro i j b hb
  show (if i = a ∧ j = k then x else mr i j) = some b
  rw [if_neg]
  · exact h i j b hb
  · rintro ⟨rfl, rfl⟩
    rw [hn] at hb
    cases hb
theorem RF.up2 {mr : MR} (h : RF mr) {a k : Nat} {x : Option Nat} (hn : RT a k = none) : RF (up2 mr a k x) := h.up hn
theorem RT_hi {a k : Nat} (h : 186 ≤ a) : RT a k = none := by unfold RT; simp only [if_neg (show ¬ a < 36 by omega), if_neg (show ¬ a < 40 by omega), if_neg (show ¬ a < 130 by omega), if_neg (show ¬ a < 153 by omega), if_neg (show ¬ a < 173 by omega), if_neg (show ¬ a < 186 by omega)]
theorem RF.mr0 {mr : MR} (h : RF mr) {n : Nat} (hn : 186 ≤ n) : RF (mr0 mr n) := by
  intro i j b hb
  have hi : i ≠ n := by
    rintro rfl
    rw [RT_hi hn] at hb
    cases hb
  rw [mr0_a hi]
  exact h i j b hb
/-- the places of the three worlds -/
def isW (a : Nat) : Prop := a = 40 ∨ a = 70 ∨ a = 100
/-- a row of rows: its first array's length -/
def isR (a len : Nat) : Prop := (∃ w, isW w ∧ a = w + 5 ∧ len = 5) ∨ (∃ w, isW w ∧ a = w + 9 ∧ len = 8) ∨ ∃ w, isW w ∧ a = w + 13 ∧ len = 8
def isP (a : Nat) : Prop := ∃ w p, isW w ∧ p < 6 ∧ a = w + 18 + 2 * p
def isV (a : Nat) : Prop := a = 36 ∨ ∃ i, i < 5 ∧ a = 153 + 4 * i
theorem isW.le {a : Nat} (h : isW a) : 40 ≤ a ∧ a ≤ 100 := by unfold isW at h; omega
theorem isR.le {a len : Nat} (h : isR a len) : 40 ≤ a ∧ a ≤ 120 := by
  rcases h with ⟨w, h, rfl, rfl⟩ | ⟨w, h, rfl, rfl⟩ | ⟨w, h, rfl, rfl⟩ <;> have := h.le <;> omega
theorem isP.le {a : Nat} (h : isP a) : 40 ≤ a ∧ a ≤ 128 := by
  obtain ⟨w, p, h, hp, rfl⟩ := h
  have := h.le
  omega
theorem isV.le {a : Nat} (h : isV a) : 36 ≤ a ∧ a ≤ 169 := by
  rcases h with rfl | ⟨i, hi, rfl⟩ <;> omega
theorem sW {a : Nat} (h : isW a) {o : Nat} (ho : o < 18) : SH (a + o) = SHW o := by
  have : ∀ o, o < 18 → SH (40 + o) = SHW o ∧ SH (70 + o) = SHW o ∧ SH (100 + o) = SHW o := by decide +kernel
  rcases h with rfl | rfl | rfl
  · exact (this o ho).1
  · exact (this o ho).2.1
  · exact (this o ho).2.2
theorem rW {a : Nat} (h : isW a) {o k b : Nat} (ho : o < 18) (hk : k < 14) (hb : RTW a o k = some b) : RT (a + o) k = some b := by
  have : ∀ o, o < 18 → ∀ k, k < 14 → RT (40 + o) k = RTW 40 o k ∧ RT (70 + o) k = RTW 70 o k ∧ RT (100 + o) k = RTW 100 o k := by decide +kernel
  rcases h with rfl | rfl | rfl
  · rw [(this o ho k hk).1]; exact hb
  · rw [(this o ho k hk).2.1]; exact hb
  · rw [(this o ho k hk).2.2]; exact hb
theorem rFolk {a p : Nat} (h : isW a) (hp : p < 6) : RT (a + 1) p = some (a + 18 + 2 * p) := rW h (by omega) (by omega) (by show (if p < 6 then _ else _) = _; rw [if_pos hp])
theorem pOf {a p : Nat} (h : isW a) (hp : p < 6) : isP (a + 18 + 2 * p) := ⟨a, p, h, hp, rfl⟩
theorem sP {a : Nat} (h : isP a) : SH a = .inl 1 := by
  have : ∀ p, p < 6 → SH (40 + 18 + 2 * p) = .inl 1 ∧ SH (70 + 18 + 2 * p) = .inl 1 ∧ SH (100 + 18 + 2 * p) = .inl 1 := by decide +kernel
  obtain ⟨w, p, h, hp, rfl⟩ := h
  rcases h with rfl | rfl | rfl
  · exact (this p hp).1
  · exact (this p hp).2.1
  · exact (this p hp).2.2
theorem sPr {a : Nat} (h : isP a) : SH (a + 1) = .inr (0, 4) := by
  have : ∀ p, p < 6 → SH (40 + 18 + 2 * p + 1) = .inr (0, 4) ∧ SH (70 + 18 + 2 * p + 1) = .inr (0, 4) ∧ SH (100 + 18 + 2 * p + 1) = .inr (0, 4) := by decide +kernel
  obtain ⟨w, p, h, hp, rfl⟩ := h
  rcases h with rfl | rfl | rfl
  · exact (this p hp).1
  · exact (this p hp).2.1
  · exact (this p hp).2.2
theorem rP {a : Nat} (h : isP a) : RT a 6 = some (a + 1) := by
  have : ∀ p, p < 6 → RT (40 + 18 + 2 * p) 6 = some (40 + 18 + 2 * p + 1) ∧ RT (70 + 18 + 2 * p) 6 = some (70 + 18 + 2 * p + 1) ∧ RT (100 + 18 + 2 * p) 6 = some (100 + 18 + 2 * p + 1) := by decide +kernel
  obtain ⟨w, p, h, hp, rfl⟩ := h
  rcases h with rfl | rfl | rfl
  · exact (this p hp).1
  · exact (this p hp).2.1
  · exact (this p hp).2.2
theorem sR {a len : Nat} (h : isR a len) : SH a = .inl 3 := by
  rcases h with ⟨w, h, rfl, rfl⟩ | ⟨w, h, rfl, rfl⟩ | ⟨w, h, rfl, rfl⟩ <;> exact sW h (by omega)
theorem sRa {a len k : Nat} (h : isR a len) (hk : k < 3) : SH (a + 1 + k) = .inr (0, len) := by
  have e : k = 0 ∨ k = 1 ∨ k = 2 := by omega
  rcases h with ⟨w, h, rfl, rfl⟩ | ⟨w, h, rfl, rfl⟩ | ⟨w, h, rfl, rfl⟩ <;> rcases e with rfl | rfl | rfl <;> exact sW h (by omega)
theorem rR {a len k : Nat} (h : isR a len) (hk : k < 3) : RT a k = some (a + 1 + k) := by
  rcases h with ⟨w, h, rfl, rfl⟩ | ⟨w, h, rfl, rfl⟩ | ⟨w, h, rfl, rfl⟩ <;> exact rW h (by omega) (by omega) (by show (if k < 3 then _ else _) = _; rw [if_pos hk])
theorem sV {a : Nat} (h : isV a) {o : Nat} (ho : o < 4) : SH (a + o) = SHV o := by
  have : ∀ o, o < 4 → SH (36 + o) = SHV o := by decide +kernel
  have t2 : ∀ i, i < 5 → ∀ o, o < 4 → SH (153 + 4 * i + o) = SHV o := by decide +kernel
  rcases h with rfl | ⟨i, hi, rfl⟩
  · exact this o ho
  · exact t2 i hi o ho
theorem rV {a : Nat} (h : isV a) {k : Nat} (hk : k < 3) : RT a (4 + k) = some (a + 1 + k) := by
  have : ∀ k, k < 3 → RT 36 (4 + k) = some (36 + 1 + k) := by decide +kernel
  have t2 : ∀ i, i < 5 → ∀ k, k < 3 → RT (153 + 4 * i) (4 + k) = some (153 + 4 * i + 1 + k) := by decide +kernel
  rcases h with rfl | ⟨i, hi, rfl⟩
  · exact this k hk
  · exact t2 i hi k hk
theorem vOf {i : Nat} (h : i < 5) : isV (153 + 4 * i) := Or.inr ⟨i, h, rfl⟩
theorem rSlots {i : Nat} (h : i < 5) : RT 33 i = some (153 + 4 * i) := by
  have : ∀ i, i < 5 → RT 33 i = some (153 + 4 * i) := by decide +kernel
  exact this i h
theorem sRd {a : Nat} (h : 186 ≤ a) : SH a = .inl 2 := by unfold SH; simp only [if_neg (show ¬ a < 36 by omega), if_neg (show ¬ a < 40 by omega), if_neg (show ¬ a < 130 by omega), if_neg (show ¬ a < 153 by omega), if_neg (show ¬ a < 173 by omega), if_neg (show ¬ a < 186 by omega)]
theorem sSr {p : Nat} (h : p < 6) : SH (132 + p) = .inr (0, 6) ∧ SH (139 + p) = .inr (0, 6) ∧ RT 131 p = some (132 + p) ∧ RT 138 p = some (139 + p) := by
  have : ∀ p, p < 6 → SH (132 + p) = .inr (0, 6) ∧ SH (139 + p) = .inr (0, 6) ∧ RT 131 p = some (132 + p) ∧ RT 138 p = some (139 + p) := by decide +kernel
  exact this p h
/-- exact ends -/
def eqQ (r : Option Value) (n : Nat) (mi : MI) (mr : MR) : QT := fun r' n' mi' mr' => r = r' ∧ n = n' ∧ mi = mi' ∧ mr = mr'
/-- the same but at places of S -/
def Off (S : Nat → Nat → Prop) (mi mi' : MI) : Prop := ∀ a k, ¬ S a k → mi' a k = mi a k
theorem Off.rf {S : Nat → Nat → Prop} {mi : MI} : Off S mi mi := fun _ _ _ => rfl
theorem Off.tr {S : Nat → Nat → Prop} {m1 m2 m3 : MI} (h1 : Off S m1 m2) (h2 : Off S m2 m3) : Off S m1 m3 := fun a k h => (h2 a k h).trans (h1 a k h)
theorem Off.mono {S S' : Nat → Nat → Prop} {mi mi' : MI} (h : Off S mi mi') (hs : ∀ a k, S a k → S' a k) : Off S' mi mi' := fun a k hn => h a k (fun q => hn (hs a k q))
theorem Off.up {S : Nat → Nat → Prop} {m1 m2 : MI} {a k : Nat} {x : Int32} (h : Off S m1 m2) (hs : S a k) : Off S m1 (up2 m2 a k x) := fun i j hn => by
  have : ¬ (i = a ∧ j = k) := by rintro ⟨rfl, rfl⟩; exact hn hs
  simp only [up2, if_neg this]
  exact h i j hn
/-- 1 for true -/
def b01 (c : Prop) [Decidable c] : Int32 := if c then 1 else 0
theorem b01_t {c : Prop} [Decidable c] (h : c) : b01 c = 1 := if_pos h
theorem b01_f {c : Prop} [Decidable c] (h : ¬ c) : b01 c = 0 := if_neg h
theorem b01_0 {c : Prop} [Decidable c] : b01 c = 0 ↔ ¬ c := by unfold b01; by_cases h : c <;> simp [h]
theorem b01_n {c : Prop} [Decidable c] : ¬ b01 c = 0 ↔ c := by unfold b01; by_cases h : c <;> simp [h]
theorem b01_nar {c : Prop} [Decidable c] : narrow .boolean (.int (b01 c)) = .int (b01 c) := by unfold b01; by_cases h : c <;> simp [h] <;> rfl
