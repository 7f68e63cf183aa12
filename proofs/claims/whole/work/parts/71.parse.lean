/-! VILLAGES: how a tape of E signs T is read. A result: where it stands (or fails), and what was read, if it didn't fail -/
abbrev PR : Type := Nat × Option (List Int32)
def bindP {α β : Type} (r : Nat × Option α) (f : Nat → α → Nat × Option β) : Nat × Option β := match r.2 with
  | none => (r.1, none)
  | some a => f r.1 a
theorem bindP_n {α β : Type} {r : Nat × Option α} {f : Nat → α → Nat × Option β} {q : Nat} (h : r = (q, none)) : bindP r f = (q, none) := by rw [h]; rfl
theorem bindP_s {α β : Type} {r : Nat × Option α} {f : Nat → α → Nat × Option β} {q : Nat} {a : α} (h : r = (q, some a)) : bindP r f = f q a := by rw [h]; rfl
def tk (T : Nat → Int32) (E p : Nat) : Int32 := if p < E then T p else -1
def isDg (x : Int32) : Bool := decide (48 ≤ x ∧ x ≤ 57)
def dgV (x : Int32) : Nat := x.toInt.toNat - 48
theorem dg_v {x : Int32} (h : isDg x = true) : x.toInt = (dgV x : Int) + 48 ∧ dgV x ≤ 9 := by
  have h1 := of_decide_eq_true h
  simp only [Int32.le_iff_toInt_le, Int32.reduceToInt] at h1
  unfold dgV
  omega
def pNum (T : Nat → Int32) (E p : Nat) : Nat × Option Nat :=
  if isDg (tk T E p) = true then (if dgV (tk T E p) ≠ 0 ∧ isDg (tk T E (p + 1)) = true then (p + 2, some (10 * dgV (tk T E p) + dgV (tk T E (p + 1)))) else (p + 1, some (dgV (tk T E p)))) else (p, none)
def pLit (T : Nat → Int32) (E : Nat) (g : Nat → Int32) : Nat → Nat → Nat → Nat × Bool
  | 0, _, p => (p, true)
  | m + 1, i, p => if tk T E p = g i then pLit T E g m (i + 1) (p + 1) else (p, false)
def tokN (f g v : Nat) : Int32 := nI ((f * 3 + g) * 100 + v)
def pTest (T : Nat → Int32) (E p : Nat) : PR := match fnd (xB 4) (tk T E p) 6 0 with
  | none => (p, none)
  | some f => match fnd (xB 5) (tk T E (p + 1)) 3 0 with
    | none => (p + 1, none)
    | some g => bindP (pNum T E (p + 2)) (fun q v => (q, some [tokN f g v]))
def evL (T : Nat → Int32) (E : Nat) (F : Nat → PR) : Nat → List Int32 → Nat → PR
  | 0, _, p => (p, none)
  | k + 1, a, p => if tk T E p = 38 then bindP (F (p + 1)) (fun q l => evL T E F k (a ++ l ++ [-2]) q) else (p, some a)
def evy (T : Nat → Int32) (E : Nat) (F : Nat → PR) (p : Nat) : PR := bindP (F p) (fun q l => evL T E F 100 l q)
def soL (T : Nat → Int32) (E : Nat) (F : Nat → PR) : Nat → List Int32 → Nat → PR
  | 0, _, p => (p, none)
  | k + 1, a, p => if tk T E p = 124 then bindP (evy T E F (p + 1)) (fun q l => soL T E F k (a ++ l ++ [-3]) q) else (p, some a)
def som (T : Nat → Int32) (E : Nat) (F : Nat → PR) (p : Nat) : PR := bindP (evy T E F p) (fun q l => soL T E F 100 l q)
def fac (T : Nat → Int32) (E : Nat) : Nat → Nat → PR
  | 0, p => pTest T E p
  | r + 1, p => if tk T E p = 33 then bindP (fac T E r (p + 1)) (fun q l => (q, some (l ++ [-1]))) else if tk T E p = 40 then bindP (som T E (fac T E r) (p + 1)) (fun q l => if tk T E q = 41 then (q + 1, some l) else (q, none)) else pTest T E p
/-- how deep the truths lie behind a row of steps -/
def dpl : List Int32 → Nat → Option Nat
  | [], d => some d
  | x :: l, d => if x = -1 then (if d = 0 then none else dpl l d) else if x = -2 ∨ x = -3 then (if d < 2 then none else dpl l (d - 1)) else if 30 ≤ d then none else dpl l (d + 1)
theorem dpl_c {x : Int32} {l : List Int32} {d : Nat} : dpl (x :: l) d = if x = -1 then (if d = 0 then none else dpl l d) else if x = -2 ∨ x = -3 then (if d < 2 then none else dpl l (d - 1)) else if 30 ≤ d then none else dpl l (d + 1) := rfl
theorem dpl_app {b : List Int32} : ∀ {a : List Int32} {d u : Nat}, dpl a d = some u → dpl (a ++ b) d = dpl b u
  | [], d, u, h => by cases h; rfl
  | x :: l, d, u, h => by
    show dpl (x :: (l ++ b)) d = dpl b u
    rw [dpl_c] at h ⊢
    split
    · rename_i e
      rw [if_pos e] at h
      split
      · rename_i e2
        rw [if_pos e2] at h
        cases h
      · rename_i e2
        rw [if_neg e2] at h
        exact dpl_app h
    · rename_i e
      rw [if_neg e] at h
      split
      · rename_i e1
        rw [if_pos e1] at h
        split
        · rename_i e2
          rw [if_pos e2] at h
          cases h
        · rename_i e2
          rw [if_neg e2] at h
          exact dpl_app h
      · rename_i e1
        rw [if_neg e1] at h
        split
        · rename_i e2
          rw [if_pos e2] at h
          cases h
        · rename_i e2
          rw [if_neg e2] at h
          exact dpl_app h
/-- what holds of what was read from p0 on, up to q -/
def goodL (D p0 q : Nat) (l : List Int32) : Prop := p0 + 1 ≤ q ∧ p0 + l.length ≤ q ∧ (∀ x, x ∈ l → okStep x) ∧ ∀ d, d + D ≤ 30 → dpl l d = some (d + 1)
def GP (E D p0 p : Nat) (r : PR) : Prop := (p ≤ r.1 ∧ r.1 ≤ E) ∧ ∀ l, r.2 = some l → goodL D p0 r.1 l
theorem tk_lt {T : Nat → Int32} {E p : Nat} (h : ¬ tk T E p = -1) : p < E := by
  unfold tk at h
  by_cases e : p < E
  · exact e
  · rw [if_neg e] at h
    exact absurd rfl h
theorem tk_is {T : Nat → Int32} {E p : Nat} {c : Int32} (h : tk T E p = c) (hc : c ≠ -1) : p < E := tk_lt (by rw [h]; exact hc)
theorem dg_lt {T : Nat → Int32} {E p : Nat} (h : isDg (tk T E p) = true) : p < E := tk_lt (fun e => by rw [e] at h; exact absurd h (by decide))
theorem pNum_ok {T : Nat → Int32} {E p : Nat} (hp : p ≤ E) : (p ≤ (pNum T E p).1 ∧ (pNum T E p).1 ≤ E) ∧ ∀ v, (pNum T E p).2 = some v → p + 1 ≤ (pNum T E p).1 ∧ v ≤ 99 := by
  unfold pNum
  by_cases h : isDg (tk T E p) = true
  · have h1 := dg_lt h
    have h2 := (dg_v h).2
    rw [if_pos h]
    by_cases g : dgV (tk T E p) ≠ 0 ∧ isDg (tk T E (p + 1)) = true
    · have h3 := dg_lt g.2
      have h4 := (dg_v g.2).2
      rw [if_pos g]
      refine ⟨⟨by show p ≤ p + 2; omega, by show p + 2 ≤ E; omega⟩, fun v hv => ⟨by show p + 1 ≤ p + 2; omega, ?_⟩⟩
      have e := Option.some.inj hv
      omega
    · rw [if_neg g]
      refine ⟨⟨by show p ≤ p + 1; omega, by show p + 1 ≤ E; omega⟩, fun v hv => ⟨Nat.le_refl _, ?_⟩⟩
      have e := Option.some.inj hv
      omega
  · rw [if_neg h]
    exact ⟨⟨Nat.le_refl _, hp⟩, fun v hv => by cases hv⟩
theorem no_m1 : fnd (xB 4) (-1) 6 0 = none ∧ fnd (xB 5) (-1) 3 0 = none := by decide +kernel
theorem fnd_tk {T : Nat → Int32} {E p m k j : Nat} (hk : k = 4 ∧ m = 6 ∨ k = 5 ∧ m = 3) (h : fnd (xB k) (tk T E p) m 0 = some j) : p < E ∧ j < m := by
  refine ⟨tk_lt (T := T) (fun e => ?_), by have := fnd_lt h; omega⟩
  rw [e] at h
  rcases hk with ⟨rfl, rfl⟩ | ⟨rfl, rfl⟩
  · rw [no_m1.1] at h; cases h
  · rw [no_m1.2] at h; cases h
theorem pTest_ok {T : Nat → Int32} {E p : Nat} (hp : p ≤ E) : GP E 1 p p (pTest T E p) := by
  unfold pTest
  cases e1 : fnd (xB 4) (tk T E p) 6 0 with
  | none => exact ⟨⟨Nat.le_refl _, hp⟩, fun l hl => by cases hl⟩
  | some f =>
    have h1 := fnd_tk (Or.inl ⟨rfl, rfl⟩) e1
    cases e2 : fnd (xB 5) (tk T E (p + 1)) 3 0 with
    | none => exact ⟨⟨by show p ≤ p + 1; omega, by show p + 1 ≤ E; omega⟩, fun l hl => by cases hl⟩
    | some g =>
      have h2 := fnd_tk (Or.inr ⟨rfl, rfl⟩) e2
      have h3 := pNum_ok (T := T) (E := E) (p := p + 2) (by omega)
      cases e3 : pNum T E (p + 2) with
      | mk q o =>
        rw [e3] at h3
        cases o with
        | none => exact ⟨⟨by have := h3.1.1; show p ≤ q; omega, h3.1.2⟩, fun l hl => by cases hl⟩
        | some v =>
          have h4 := h3.2 v rfl
          have h5 := h3.1.1
          refine ⟨⟨by show p ≤ q; omega, h3.1.2⟩, fun l hl => ?_⟩
          have e := Option.some.inj hl
          subst e
          have hz : (tokN f g v).toInt = (((f * 3 + g) * 100 + v : Nat) : Int) := nI_toInt (by omega)
          refine ⟨by show p + 1 ≤ q; omega, by show p + 1 ≤ q; omega, fun x hx => ?_, fun d hd => ?_⟩
          · rw [List.mem_singleton.mp hx]
            exact Or.inr (Or.inr (Or.inr ⟨_, hz, by omega⟩))
          · unfold dpl
            rw [if_neg (fun e => by rw [e] at hz; simp only [Int32.reduceToInt] at hz; omega), if_neg (fun e => by rcases e with e | e <;> (rw [e] at hz; simp only [Int32.reduceToInt] at hz; omega)), if_neg (by omega)]
            rfl
theorem goodL.mono {D D' p0 q : Nat} {l : List Int32} (h : goodL D p0 q l) (hD : D ≤ D') : goodL D' p0 q l := ⟨h.1, h.2.1, h.2.2.1, fun d hd => h.2.2.2 d (by omega)⟩
/-- one more, and a step that takes two -/
theorem goodL.two {D p0 p q : Nat} {a l : List Int32} {c : Int32} (ha : goodL (D + 1) p0 p a) (hl : goodL D (p + 1) q l) (hc : c = -2 ∨ c = -3) : goodL (D + 1) p0 q (a ++ l ++ [c]) := by
  obtain ⟨a1, a2, a3, a4⟩ := ha
  obtain ⟨l1, l2, l3, l4⟩ := hl
  refine ⟨by omega, by simp only [List.length_append, List.length_singleton]; omega, fun x hx => ?_, fun d hd => ?_⟩
  · rcases List.mem_append.mp hx with hx | hx
    · rcases List.mem_append.mp hx with hx | hx
      · exact a3 x hx
      · exact l3 x hx
    · rw [List.mem_singleton.mp hx]
      rcases hc with rfl | rfl
      · exact Or.inr (Or.inl rfl)
      · exact Or.inr (Or.inr (Or.inl rfl))
  · rw [List.append_assoc, dpl_app (a4 d hd), dpl_app (l4 (d + 1) (by omega))]
    unfold dpl
    have hc1 : ¬ c = -1 := by rcases hc with rfl | rfl <;> decide
    rw [if_neg hc1, if_pos hc, if_neg (by omega)]
    rfl
section PV
variable {T : Nat → Int32} {E : Nat}
theorem evL_ok {F : Nat → PR} {D : Nat} (hF : ∀ p, p ≤ E → GP E D p p (F p)) : ∀ {k : Nat} {a : List Int32} {p p0 : Nat}, p ≤ E → goodL (D + 1) p0 p a → GP E (D + 1) p0 p (evL T E F k a p)
  | 0, a, p, p0, hp, _ => ⟨⟨Nat.le_refl _, hp⟩, fun l hl => by cases hl⟩
  | k + 1, a, p, p0, hp, ha => by
    unfold evL
    by_cases h : tk T E p = 38
    · rw [if_pos h]
      have h1 := tk_is h (by decide)
      have h2 := hF (p + 1) (by omega)
      cases e : F (p + 1) with
      | mk q o =>
        rw [e] at h2
        cases o with
        | none => exact ⟨⟨by have := h2.1.1; show p ≤ q; omega, h2.1.2⟩, fun l hl => by cases hl⟩
        | some l =>
          have h3 := evL_ok hF (k := k) h2.1.2 (ha.two (h2.2 l rfl) (Or.inl rfl))
          exact ⟨⟨Nat.le_trans (by have := h2.1.1; show p ≤ q; omega) h3.1.1, h3.1.2⟩, h3.2⟩
    · rw [if_neg h]
      exact ⟨⟨Nat.le_refl _, hp⟩, fun l hl => by cases hl; exact ha⟩
theorem evy_ok {F : Nat → PR} {D : Nat} (hF : ∀ p, p ≤ E → GP E D p p (F p)) {p : Nat} (hp : p ≤ E) : GP E (D + 1) p p (evy T E F p) := by
  unfold evy
  have h2 := hF p hp
  cases e : F p with
  | mk q o =>
    rw [e] at h2
    cases o with
    | none => exact ⟨h2.1, fun l hl => by cases hl⟩
    | some l =>
      have h3 := evL_ok (T := T) hF (k := 100) h2.1.2 ((h2.2 l rfl).mono (Nat.le_succ D))
      exact ⟨⟨Nat.le_trans h2.1.1 h3.1.1, h3.1.2⟩, h3.2⟩
theorem soL_ok {F : Nat → PR} {D : Nat} (hF : ∀ p, p ≤ E → GP E D p p (F p)) : ∀ {k : Nat} {a : List Int32} {p p0 : Nat}, p ≤ E → goodL (D + 2) p0 p a → GP E (D + 2) p0 p (soL T E F k a p)
  | 0, a, p, p0, hp, _ => ⟨⟨Nat.le_refl _, hp⟩, fun l hl => by cases hl⟩
  | k + 1, a, p, p0, hp, ha => by
    unfold soL
    by_cases h : tk T E p = 124
    · rw [if_pos h]
      have h1 := tk_is h (by decide)
      have h2 := evy_ok (T := T) hF (p := p + 1) (by omega)
      cases e : evy T E F (p + 1) with
      | mk q o =>
        rw [e] at h2
        cases o with
        | none => exact ⟨⟨by have := h2.1.1; show p ≤ q; omega, h2.1.2⟩, fun l hl => by cases hl⟩
        | some l =>
          have h3 := soL_ok hF (k := k) h2.1.2 (ha.two (h2.2 l rfl) (Or.inr rfl))
          exact ⟨⟨Nat.le_trans (by have := h2.1.1; show p ≤ q; omega) h3.1.1, h3.1.2⟩, h3.2⟩
    · rw [if_neg h]
      exact ⟨⟨Nat.le_refl _, hp⟩, fun l hl => by cases hl; exact ha⟩
theorem som_ok {F : Nat → PR} {D : Nat} (hF : ∀ p, p ≤ E → GP E D p p (F p)) {p : Nat} (hp : p ≤ E) : GP E (D + 2) p p (som T E F p) := by
  unfold som
  have h2 := evy_ok (T := T) hF hp
  cases e : evy T E F p with
  | mk q o =>
    rw [e] at h2
    cases o with
    | none => exact ⟨h2.1, fun l hl => by cases hl⟩
    | some l =>
      have h3 := soL_ok (T := T) hF (k := 100) h2.1.2 ((h2.2 l rfl).mono (Nat.le_succ (D + 1)))
      exact ⟨⟨Nat.le_trans h2.1.1 h3.1.1, h3.1.2⟩, h3.2⟩
theorem fac_ok : ∀ {r p : Nat}, p ≤ E → GP E (2 * r + 1) p p (fac T E r p)
  | 0, p, hp => pTest_ok hp
  | r + 1, p, hp => by
    unfold fac
    by_cases h : tk T E p = 33
    · rw [if_pos h]
      have h1 := tk_is h (by decide)
      have h2 := fac_ok (r := r) (p := p + 1) (by omega)
      cases e : fac T E r (p + 1) with
      | mk q o =>
        rw [e] at h2
        have h4 := h2.1.1
        cases o with
        | none => exact ⟨⟨by show p ≤ q; omega, h2.1.2⟩, fun l hl => by cases hl⟩
        | some l =>
          refine ⟨⟨by show p ≤ q; omega, h2.1.2⟩, fun l2 hl => ?_⟩
          have e2 := Option.some.inj hl
          subst e2
          obtain ⟨l1, l2, l3, l4⟩ := h2.2 l rfl
          refine ⟨by show p + 1 ≤ q; omega, by rw [List.length_append, List.length_singleton]; show p + (l.length + 1) ≤ q; omega, fun x hx => ?_, fun d hd => ?_⟩
          · rcases List.mem_append.mp hx with hx | hx
            · exact l3 x hx
            · rw [List.mem_singleton.mp hx]
              exact Or.inl rfl
          · rw [dpl_app (l4 d (by omega))]
            unfold dpl
            rw [if_pos rfl, if_neg (Nat.succ_ne_zero d)]
            rfl
    · rw [if_neg h]
      by_cases h0 : tk T E p = 40
      · rw [if_pos h0]
        have h1 := tk_is h0 (by decide)
        have h2 := som_ok (T := T) (F := fac T E r) (fun p hp => fac_ok (r := r) hp) (p := p + 1) (by omega)
        cases e : som T E (fac T E r) (p + 1) with
        | mk q o =>
          rw [e] at h2
          have h4 := h2.1.1
          cases o with
          | none => exact ⟨⟨by show p ≤ q; omega, h2.1.2⟩, fun l hl => by cases hl⟩
          | some l =>
            show GP E (2 * (r + 1) + 1) p p (if tk T E q = 41 then (q + 1, some l) else (q, none))
            by_cases h5 : tk T E q = 41
            · have h6 := tk_is h5 (by decide)
              rw [if_pos h5]
              refine ⟨⟨by show p ≤ q + 1; omega, by show q + 1 ≤ E; omega⟩, fun l2 hl => ?_⟩
              have e2 := Option.some.inj hl
              subst e2
              obtain ⟨l1, l2, l3, l4⟩ := h2.2 l rfl
              exact ⟨by show p + 1 ≤ q + 1; omega, by show p + l.length ≤ q + 1; omega, l3, fun d hd => l4 d (by omega)⟩
            · rw [if_neg h5]
              exact ⟨⟨by show p ≤ q; omega, h2.1.2⟩, fun l hl => by cases hl⟩
      · rw [if_neg h0]
        have h2 := pTest_ok (T := T) hp
        exact ⟨h2.1, fun l hl => (h2.2 l hl).mono (by omega)⟩
end PV
/-- a clause: 0 grown, 1 old, 2 bold, 3 meek; the number; the steps -/
abbrev CL : Type := Nat × Nat × List Int32
def litN (T : Nat → Int32) (E k tag p : Nat) : Nat × Option CL := if (pLit T E (xB k) (xL k) 0 p).2 = true then bindP (pNum T E (pLit T E (xB k) (xL k) 0 p).1) (fun q v => (q, some (tag, v, []))) else ((pLit T E (xB k) (xL k) 0 p).1, none)
def litE (T : Nat → Int32) (E k tag p : Nat) : Nat × Option CL := if (pLit T E (xB k) (xL k) 0 p).2 = true then bindP (pNum T E (pLit T E (xB k) (xL k) 0 p).1) (fun q v => if tk T E q = 32 then bindP (som T E (fac T E 5) (q + 1)) (fun u l => (u, some (tag, v, l))) else (q, none)) else ((pLit T E (xB k) (xL k) 0 p).1, none)
def pCla (T : Nat → Int32) (E p : Nat) : Nat × Option CL := if tk T E p = 103 then litN T E 0 0 (p + 1) else if tk T E p = 111 then litN T E 1 1 (p + 1) else if tk T E p = 98 then litE T E 2 2 (p + 1) else litE T E 3 3 p
def vilL (T : Nat → Int32) (E : Nat) : Nat → List CL → Nat → Nat × Option (List CL)
  | 0, _, p => (p, none)
  | k + 1, a, p => bindP (pCla T E p) (fun q c => if q = E then (q, some (a ++ [c])) else if k = 0 ∨ ¬ tk T E q = 59 then (q, none) else vilL T E k (a ++ [c]) (q + 1))
def pVil (T : Nat → Int32) (E : Nat) : Nat × Option (List CL) := vilL T E 10 [] 0
theorem pLit_ok {T : Nat → Int32} {E : Nat} {g : Nat → Int32} (hg : ∀ j, g j ≠ -1 ∨ True) : ∀ {m i p : Nat}, (∀ j, i ≤ j → j < i + m → g j ≠ -1) → p ≤ E → p ≤ (pLit T E g m i p).1 ∧ (pLit T E g m i p).1 ≤ E ∧ ((pLit T E g m i p).2 = true → (pLit T E g m i p).1 = p + m)
  | 0, i, p, _, hp => ⟨Nat.le_refl _, hp, fun _ => rfl⟩
  | m + 1, i, p, h, hp => by
    unfold pLit
    by_cases e : tk T E p = g i
    · have h1 := tk_is e (h i (Nat.le_refl _) (by omega))
      rw [if_pos e]
      obtain ⟨q1, q2, q3⟩ := pLit_ok (T := T) (E := E) hg (m := m) (i := i + 1) (p := p + 1) (fun j j1 j2 => h j (by omega) (by omega)) (by omega)
      exact ⟨by omega, q2, fun q => by rw [q3 q]; omega⟩
    · rw [if_neg e]
      exact ⟨Nat.le_refl _, hp, fun q => by cases q⟩
theorem pLit_shift {T : Nat → Int32} {E : Nat} {g g' : Nat → Int32} : ∀ {m i i' p : Nat}, (∀ j, j < m → g (i + j) = g' (i' + j)) → pLit T E g m i p = pLit T E g' m i' p
  | 0, _, _, _, _ => rfl
  | m + 1, i, i', p, h => by
    unfold pLit
    have h0 := h 0 (by omega)
    rw [Nat.add_zero, Nat.add_zero] at h0
    rw [h0, pLit_shift (m := m) (i := i + 1) (i' := i' + 1) (p := p + 1) (fun j hj => by have := h (j + 1) (by omega); rw [show i + 1 + j = i + (j + 1) by omega, show i' + 1 + j = i' + (j + 1) by omega]; exact this)]
theorem xB_ne : ∀ (k : Fin 8) (j : Fin 6), j.1 < xL k.1 → xB k.1 j.1 ≠ -1 := by decide +kernel
theorem lit_ok {T : Nat → Int32} {E k p : Nat} (hk : k < 8) (hp : p ≤ E) : p ≤ (pLit T E (xB k) (xL k) 0 p).1 ∧ (pLit T E (xB k) (xL k) 0 p).1 ≤ E ∧ ((pLit T E (xB k) (xL k) 0 p).2 = true → (pLit T E (xB k) (xL k) 0 p).1 = p + xL k) := by
  have h6 : xL k ≤ 6 := (xL_dec ⟨k, hk⟩).2.2.1
  exact pLit_ok (fun _ => Or.inr trivial) (fun j _ hj => xB_ne ⟨k, hk⟩ ⟨j, by omega⟩ (by show j < xL k; omega)) hp
def goodC (p0 q : Nat) (c : CL) : Prop := p0 + 1 ≤ q ∧ p0 + c.2.2.length + 1 ≤ q ∧ c.1 < 4 ∧ c.2.1 ≤ 99 ∧ (c.1 < 2 → c.2.2 = []) ∧ (2 ≤ c.1 → (∀ x, x ∈ c.2.2 → okStep x) ∧ dpl c.2.2 0 = some 1)
def GC (E p0 p : Nat) (r : Nat × Option CL) : Prop := (p ≤ r.1 ∧ r.1 ≤ E) ∧ ∀ c, r.2 = some c → goodC p0 r.1 c
theorem litN_ok {T : Nat → Int32} {E k tag p p0 : Nat} (hk : k < 8) (ht : tag < 2) (hp : p ≤ E) (h0 : p0 ≤ p) : GC E p0 p (litN T E k tag p) := by
  unfold litN
  have h1 := lit_ok (T := T) hk hp
  by_cases h : (pLit T E (xB k) (xL k) 0 p).2 = true
  · rw [if_pos h]
    have h2 := pNum_ok (T := T) (E := E) (p := (pLit T E (xB k) (xL k) 0 p).1) h1.2.1
    cases e : pNum T E (pLit T E (xB k) (xL k) 0 p).1 with
    | mk q o =>
      rw [e] at h2
      cases o with
      | none => exact ⟨⟨Nat.le_trans h1.1 h2.1.1, h2.1.2⟩, fun c hc => by cases hc⟩
      | some v =>
        have h3 := h2.2 v rfl
        refine ⟨⟨Nat.le_trans h1.1 h2.1.1, h2.1.2⟩, fun c hc => ?_⟩
        have e2 := Option.some.inj hc
        subst e2
        exact ⟨by have := h1.1; have := h3.1; show p0 + 1 ≤ q; omega, by have := h1.1; have := h3.1; show p0 + 0 + 1 ≤ q; omega, by show tag < 4; omega, h3.2, fun _ => rfl, fun g => absurd (show 2 ≤ tag from g) (by omega)⟩
  · rw [if_neg h]
    exact ⟨⟨h1.1, h1.2.1⟩, fun c hc => by cases hc⟩
theorem litE_ok {T : Nat → Int32} {E k tag p p0 : Nat} (hk : k < 8) (ht : 2 ≤ tag ∧ tag < 4) (hp : p ≤ E) (h0 : p0 ≤ p) : GC E p0 p (litE T E k tag p) := by
  unfold litE
  have h1 := lit_ok (T := T) hk hp
  by_cases h : (pLit T E (xB k) (xL k) 0 p).2 = true
  · rw [if_pos h]
    have h2 := pNum_ok (T := T) (E := E) (p := (pLit T E (xB k) (xL k) 0 p).1) h1.2.1
    cases e : pNum T E (pLit T E (xB k) (xL k) 0 p).1 with
    | mk q o =>
      rw [e] at h2
      cases o with
      | none => exact ⟨⟨Nat.le_trans h1.1 h2.1.1, h2.1.2⟩, fun c hc => by cases hc⟩
      | some v =>
        have h3 := h2.2 v rfl
        have hpq : p ≤ q := Nat.le_trans h1.1 h2.1.1
        have hpq1 : p + 1 ≤ q := by have := h1.1; have := h3.1; show p + 1 ≤ q; omega
        show GC E p0 p (if tk T E q = 32 then bindP (som T E (fac T E 5) (q + 1)) (fun u l => (u, some (tag, v, l))) else (q, none))
        by_cases h4 : tk T E q = 32
        · rw [if_pos h4]
          have h5 := tk_is h4 (by decide)
          have h6 := som_ok (T := T) (F := fac T E 5) (fun p hp => fac_ok (r := 5) hp) (p := q + 1) (by omega)
          cases e6 : som T E (fac T E 5) (q + 1) with
          | mk u o =>
            rw [e6] at h6
            have h7 := h6.1.1
            cases o with
            | none => exact ⟨⟨by show p ≤ u; omega, h6.1.2⟩, fun c hc => by cases hc⟩
            | some l =>
              obtain ⟨l1, l2, l3, l4⟩ := h6.2 l rfl
              refine ⟨⟨by show p ≤ u; omega, h6.1.2⟩, fun c hc => ?_⟩
              have e2 := Option.some.inj hc
              subst e2
              exact ⟨by show p0 + 1 ≤ u; omega, by show p0 + l.length + 1 ≤ u; omega, ht.2, h3.2, fun g => absurd (show tag < 2 from g) (by omega), fun _ => ⟨l3, l4 0 (by decide)⟩⟩
        · rw [if_neg h4]
          exact ⟨⟨hpq, h2.1.2⟩, fun c hc => by cases hc⟩
  · rw [if_neg h]
    exact ⟨⟨h1.1, h1.2.1⟩, fun c hc => by cases hc⟩
theorem pCla_ok {T : Nat → Int32} {E p : Nat} (hp : p ≤ E) : GC E p p (pCla T E p) := by
  have up : ∀ {r : Nat × Option CL}, GC E p (p + 1) r → GC E p p r := fun h => ⟨⟨Nat.le_trans (Nat.le_succ p) h.1.1, h.1.2⟩, h.2⟩
  unfold pCla
  by_cases a1 : tk T E p = 103
  · rw [if_pos a1]
    have := tk_is a1 (by decide)
    exact up (litN_ok (by decide) (by decide) (by omega) (Nat.le_succ p))
  · rw [if_neg a1]
    by_cases a2 : tk T E p = 111
    · rw [if_pos a2]
      have := tk_is a2 (by decide)
      exact up (litN_ok (by decide) (by decide) (by omega) (Nat.le_succ p))
    · rw [if_neg a2]
      by_cases a3 : tk T E p = 98
      · rw [if_pos a3]
        have := tk_is a3 (by decide)
        exact up (litE_ok (by decide) (by decide) (by omega) (Nat.le_succ p))
      · rw [if_neg a3]
        exact litE_ok (by decide) (by decide) hp (Nat.le_refl p)
