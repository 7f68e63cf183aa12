/-! bounds of ages, the first of least -/
def bd (x : Int32) (a : Nat) : Prop := -(a : Int) ≤ x.toInt ∧ x.toInt ≤ (a : Int)
theorem bd.sub {x y : Int32} {a b : Nat} (hx : bd x a) (hy : bd y b) (h : a + b < 2147483648) : bd (x - y) (a + b) ∧ (x - y).toInt = x.toInt - y.toInt := by
  unfold bd at *
  have e : (x - y).toInt = x.toInt - y.toInt := by
    rw [Int32.toInt_sub]
    exact bmod_id (by omega) (by omega)
  rw [e]
  exact ⟨⟨by omega, by omega⟩, rfl⟩
theorem bd.add {x y : Int32} {a b : Nat} (hx : bd x a) (hy : bd y b) (h : a + b < 2147483648) : bd (x + y) (a + b) ∧ (x + y).toInt = x.toInt + y.toInt := by
  unfold bd at *
  have e : (x + y).toInt = x.toInt + y.toInt := by
    rw [Int32.toInt_add]
    exact bmod_id (by omega) (by omega)
  rw [e]
  exact ⟨⟨by omega, by omega⟩, rfl⟩
theorem tdiv2 (z : Int) : ∃ k : Nat, (z = (k : Int) ∧ z.tdiv 2 = ((k / 2 : Nat) : Int)) ∨ (z = -(k : Int) ∧ z.tdiv 2 = -((k / 2 : Nat) : Int)) := by
  obtain ⟨k, h | h⟩ := Int.eq_nat_or_neg z
  · exact ⟨k, Or.inl ⟨h, by rw [h]; rfl⟩⟩
  · exact ⟨k, Or.inr ⟨h, by rw [h, Int.neg_tdiv]; rfl⟩⟩
theorem bd.half {x : Int32} {a : Nat} (hx : bd x a) : bd (x / 2) a := by
  unfold bd at *
  have h1 := x.toInt_lt
  have h2 := x.le_toInt
  have e : (x / 2).toInt = x.toInt.tdiv 2 := by
    rw [Int32.toInt_div, show (2 : Int32).toInt = 2 from rfl]
    obtain ⟨k, ⟨e1, e2⟩ | ⟨e1, e2⟩⟩ := tdiv2 x.toInt
    · rw [e2]
      exact bmod_id (by omega) (by omega)
    · rw [e2]
      exact bmod_id (by omega) (by omega)
  rw [e]
  obtain ⟨k, ⟨e1, e2⟩ | ⟨e1, e2⟩⟩ := tdiv2 x.toInt
  · rw [e2]
    omega
  · rw [e2]
    omega
theorem bd.mono {x : Int32} {a b : Nat} (h : bd x a) (hab : a ≤ b) : bd x b := by
  unfold bd at *
  omega
theorem natTo.bd {x : Int32} {b : Nat} (h : natTo x b) : bd x b := by
  obtain ⟨k, h1, h2⟩ := h
  exact ⟨by omega, by omega⟩
theorem sAge_bd {S : Nat → Int32} {c : CT} {p : Nat} {y : Int32} (hB : BD S c) (hp : p < cN c) (hy : hasIn y (cW c)) : bd (sAge S p y) 9000 := by
  obtain ⟨p1, p2, p3, p4, p5, p6⟩ := hB.2.2.2.1 p hp
  have hyr : bd (S 0) 999 := by
    obtain ⟨y, h1, h2, h3⟩ := hB.2.1
    exact ⟨by omega, by omega⟩
  have hv := p2.bd
  have hb := p3.bd
  have hd := (hyr.sub hb (by decide)).1
  unfold sAge
  split
  · exact hd.mono (by decide)
  · rename_i hne
    obtain ⟨h, h1, h2⟩ := hy.resolve_left hne
    rw [nat_of_toInt h1]
    have hy2 := (hB.2.2.2.2.1 h (by have := hB.1.2.1.2; omega)).1.bd
    have a1 := (hy2.sub hb (by decide)).1
    have a2 := (a1.sub hv (by decide)).1
    have a3 := (hd.add (hy2.sub hyr (by decide)).1.half (by decide)).1
    have a4 := (a2.sub hv (by decide)).1
    have a5 := (hd.sub (p6 ((S (68 + h)).toInt.toNat % 4) (Nat.mod_lt _ (by decide))).bd (by decide)).1
    unfold sAgeIn fAge
    split
    · exact a2.mono (by decide)
    · split
      · exact a3.mono (by decide)
      · split
        · exact hd.mono (by decide)
        · split
          · exact a4.mono (by decide)
          · split
            · split
              · exact a3.mono (by decide)
              · exact hd.mono (by decide)
            · split
              · exact a5.mono (by decide)
              · exact a1.mono (by decide)
/-- how far apart -/
def apartF (x y : Int32) : Int32 := if x < y then y - x else x - y
theorem apart_abs {x y : Int32} (hx : bd x 9000) (hy : bd y 9000) : (if 0 ≤ x - y then x - y else 0 - (x - y)) = apartF x y := by
  obtain ⟨h1, h2⟩ := hx.sub hy (by decide)
  obtain ⟨h3, h4⟩ := hy.sub hx (by decide)
  unfold apartF
  by_cases h : x < y
  · rw [if_pos h, if_neg (by rw [Int32.le_iff_toInt_le, h2]; rw [Int32.lt_iff_toInt_lt] at h; simp only [Int32.reduceToInt]; omega)]
    refine Int32.toInt_inj.mp ?_
    have h0 : bd (0 : Int32) 0 := And.intro (by decide) (by decide)
    rw [(h0.sub h1 (by decide)).2, h2, h4]
    simp only [Int32.reduceToInt]
    omega
  · rw [if_neg h, if_pos (by rw [Int32.le_iff_toInt_le, h2]; rw [Int32.lt_iff_toInt_lt] at h; simp only [Int32.reduceToInt]; omega)]
theorem apart_bd {x y : Int32} (hx : bd x 9000) (hy : bd y 9000) : apartF x y < 1000000 ∧ apartF x y < 100000000 := by
  obtain ⟨h1, h2⟩ := hx.sub hy (by decide)
  obtain ⟨h3, h4⟩ := hy.sub hx (by decide)
  unfold apartF bd at *
  simp only [Int32.lt_iff_toInt_lt, Int32.reduceToInt]
  split <;> omega
/-- the first of least: (its number, how far) -/
def amin (ok : Nat → Bool) (off tag : Nat → Int32) (a : Int32 × Int32) : Nat → Int32 × Int32
  | 0 => a
  | k + 1 => if ok k = true ∧ off k < (amin ok off tag a k).2 then (tag k, off k) else amin ok off tag a k
/-- two ways of telling that there is none yet -/
def amR (a b : Int32 × Int32) : Prop := (a = (-5, 1000000) ∧ b = (-5, 100000000)) ∨ a = b
theorem amin_R {ok : Nat → Bool} {off tag : Nat → Int32} {a b : Int32 × Int32} (h : amR a b) : ∀ {k : Nat}, (∀ j, j < k → ok j = true → off j < 1000000 ∧ off j < 100000000) → amR (amin ok off tag a k) (amin ok off tag b k)
  | 0, _ => h
  | k + 1, hk => by
    have ih := amin_R (ok := ok) (off := off) (tag := tag) h (k := k) (fun j hj => hk j (by omega))
    unfold amin
    rcases ih with ⟨e1, e2⟩ | e
    · rw [e1, e2]
      by_cases q : ok k = true
      · have g := hk k (by omega) q
        rw [if_pos (And.intro q g.1), if_pos (And.intro q g.2)]
        exact Or.inr rfl
      · rw [if_neg (fun h => q h.1), if_neg (fun h => q h.1)]
        exact Or.inl ⟨rfl, rfl⟩
    · rw [e]
      exact Or.inr rfl
theorem amin_le {ok : Nat → Bool} {off tag : Nat → Int32} {a : Int32 × Int32} {F : Int32} (h : a.2 ≤ F) : ∀ {k : Nat}, (amin ok off tag a k).2 ≤ F
  | 0 => h
  | k + 1 => by
    unfold amin
    split
    · rename_i q
      have ih := amin_le (ok := ok) (off := off) (tag := tag) h (k := k)
      exact Int32.le_trans (Int32.le_of_lt q.2) ih
    · exact amin_le h
