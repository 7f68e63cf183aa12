/-! what a seating costs, and what it costs at least that goes on from one so far -/
def hiTo (A : Nat → Nat → Int) (f : Nat → Nat) : Nat → Int
  | 0 => -1000000
  | p + 1 => max (hiTo A f p) (A p (f p))
def loTo (A : Nat → Nat → Int) (f : Nat → Nat) : Nat → Int
  | 0 => 1000000
  | p + 1 => min (loTo A f p) (A p (f p))
def nvTo (B : Nat → Nat → Int) (f : Nat → Nat) : Nat → Int
  | 0 => 0
  | p + 1 => nvTo B f p + B p (f p)
def cCost (sort N : Nat) (A B : Nat → Nat → Int) (f : Nat → Nat) : Int := if sort = 0 then 0 else if sort = 1 then max 0 (hiTo A f N - loTo A f N) else -nvTo B f N
def mxc (M : Nat → Bool) (B : Nat → Int) (z : Int) : Nat → Int
  | 0 => z
  | k + 1 => if M k = true then max (mxc M B z k) (B k) else mxc M B z k
def mnc (M : Nat → Bool) (B : Nat → Int) (z : Int) : Nat → Int
  | 0 => z
  | k + 1 => if M k = true then min (mnc M B z k) (B k) else mnc M B z k
theorem mxc_ge {M : Nat → Bool} {B : Nat → Int} {z : Int} {c : Nat} (h : M c = true) : ∀ {k : Nat}, c < k → B c ≤ mxc M B z k
  | 0, hc => absurd hc (Nat.not_lt_zero c)
  | k + 1, hc => by
    unfold mxc
    by_cases e : c = k
    · subst e
      rw [if_pos h]
      omega
    · have q := mxc_ge (M := M) (B := B) (z := z) h (k := k) (by omega)
      split <;> omega
theorem mnc_le {M : Nat → Bool} {B : Nat → Int} {z : Int} {c : Nat} (h : M c = true) : ∀ {k : Nat}, c < k → mnc M B z k ≤ B c
  | 0, hc => absurd hc (Nat.not_lt_zero c)
  | k + 1, hc => by
    unfold mnc
    by_cases e : c = k
    · subst e
      rw [if_pos h]
      omega
    · have q := mnc_le (M := M) (B := B) (z := z) h (k := k) (by omega)
      split <;> omega
/-- whether one has wine where it costs as little as it can -/
def mustB (M : Nat → Nat → Bool) (sort W p : Nat) : Bool := if sort = 2 then !(M p 0) || (List.range W).any (fun c => M p (c + 1)) else !(M p 0)
def ahH (M : Nat → Nat → Bool) (sort W : Nat) : Nat → Nat → Nat
  | 0, _ => 0
  | m + 1, p => ahH M sort W m (p + 1) + (if mustB M sort W p = true then 1 else 0)
def ahN (M : Nat → Nat → Bool) (B : Nat → Nat → Int) (W : Nat) : Nat → Nat → Int
  | 0, _ => 0
  | m + 1, p => ahN M B W m (p + 1) + mxc (M p) (B p) 0 (W + 1)
def ahLo (M : Nat → Nat → Bool) (A : Nat → Nat → Int) (W : Nat) : Nat → Nat → Int
  | 0, _ => 1000000
  | m + 1, p => min (ahLo M A W m (p + 1)) (mxc (M p) (A p) (-1000000) (W + 1))
def ahHi (M : Nat → Nat → Bool) (A : Nat → Nat → Int) (W : Nat) : Nat → Nat → Int
  | 0, _ => -1000000
  | m + 1, p => max (ahHi M A W m (p + 1)) (mnc (M p) (A p) 1000000 (W + 1))
def lbC (sort : Nat) (M : Nat → Nat → Bool) (A B : Nat → Nat → Int) (W : Nat) (lo hi nv : Int) (m p : Nat) : Int :=
  if sort = 0 then 0 else if sort = 1 then max 0 (max hi (ahHi M A W m p) - min lo (ahLo M A W m p)) else -nv - ahN M B W m p
section CO
variable {M : Nat → Nat → Bool} {A B : Nat → Nat → Int} {W : Nat} {f g : Nat → Nat}
theorem hiTo_eq : ∀ {p : Nat}, (∀ q, q < p → f q = g q) → hiTo A f p = hiTo A g p
  | 0, _ => rfl
  | p + 1, h => by
    unfold hiTo
    rw [hiTo_eq (fun q hq => h q (by omega)), h p (by omega)]
theorem loTo_eq : ∀ {p : Nat}, (∀ q, q < p → f q = g q) → loTo A f p = loTo A g p
  | 0, _ => rfl
  | p + 1, h => by
    unfold loTo
    rw [loTo_eq (fun q hq => h q (by omega)), h p (by omega)]
theorem nvTo_eq : ∀ {p : Nat}, (∀ q, q < p → f q = g q) → nvTo B f p = nvTo B g p
  | 0, _ => rfl
  | p + 1, h => by
    unfold nvTo
    rw [nvTo_eq (fun q hq => h q (by omega)), h p (by omega)]
abbrev okF (M : Nat → Nat → Bool) (W : Nat) (f : Nat → Nat) (m p : Nat) : Prop := ∀ q, p ≤ q → q < p + m → f q ≤ W ∧ M q (f q) = true
theorem hi_ah : ∀ {m p : Nat}, okF M W f m p → max (hiTo A f p) (ahHi M A W m p) ≤ max (hiTo A f (p + m)) (-1000000)
  | 0, p, _ => by
    show max (hiTo A f p) (-1000000) ≤ max (hiTo A f (p + 0)) (-1000000)
    exact Int.le_refl _
  | m + 1, p, h => by
    have ih := hi_ah (m := m) (p := p + 1) (fun q h1 h2 => h q (by omega) (by omega))
    rw [show p + 1 + m = p + (m + 1) by omega] at ih
    obtain ⟨h1, h2⟩ := h p (Nat.le_refl _) (by omega)
    have h3 := mnc_le (B := A p) (z := 1000000) h2 (k := W + 1) (by omega)
    show max (hiTo A f p) (max (ahHi M A W m (p + 1)) (mnc (M p) (A p) 1000000 (W + 1))) ≤ _
    have e : hiTo A f (p + 1) = max (hiTo A f p) (A p (f p)) := rfl
    rw [e] at ih
    omega
theorem lo_ah : ∀ {m p : Nat}, okF M W f m p → min (loTo A f (p + m)) 1000000 ≤ min (loTo A f p) (ahLo M A W m p)
  | 0, p, _ => by
    show min (loTo A f (p + 0)) 1000000 ≤ min (loTo A f p) 1000000
    exact Int.le_refl _
  | m + 1, p, h => by
    have ih := lo_ah (m := m) (p := p + 1) (fun q h1 h2 => h q (by omega) (by omega))
    rw [show p + 1 + m = p + (m + 1) by omega] at ih
    obtain ⟨h1, h2⟩ := h p (Nat.le_refl _) (by omega)
    have h3 := mxc_ge (B := A p) (z := -1000000) h2 (k := W + 1) (by omega)
    show _ ≤ min (loTo A f p) (min (ahLo M A W m (p + 1)) (mxc (M p) (A p) (-1000000) (W + 1)))
    have e : loTo A f (p + 1) = min (loTo A f p) (A p (f p)) := rfl
    rw [e] at ih
    omega
theorem hi_ge : ∀ {p : Nat}, -1000000 ≤ hiTo A f p
  | 0 => Int.le_refl _
  | p + 1 => by
    have q := hi_ge (p := p)
    unfold hiTo
    omega
theorem lo_le : ∀ {p : Nat}, loTo A f p ≤ 1000000
  | 0 => Int.le_refl _
  | p + 1 => by
    have q := lo_le (p := p)
    unfold loTo
    omega
theorem must_ah {sort : Nat} (hs : sort ≠ 2) : ∀ {m p : Nat}, okF M W f m p → ahH M sort W m p ≤ hvN f m p
  | 0, p, _ => Nat.le_refl _
  | m + 1, p, h => by
    have ih := must_ah hs (m := m) (p := p + 1) (fun q h1 h2 => h q (by omega) (by omega))
    obtain ⟨h1, h2⟩ := h p (Nat.le_refl _) (by omega)
    show ahH M sort W m (p + 1) + (if mustB M sort W p = true then 1 else 0) ≤ (if f p = 0 then 0 else 1) + hvN f m (p + 1)
    by_cases e : f p = 0
    · rw [e] at h2
      have e2 : ¬ mustB M sort W p = true := by
        unfold mustB
        rw [if_neg hs, h2]
        exact Bool.noConfusion
      rw [if_neg e2, if_pos e]
      omega
    · rw [if_neg e]
      split <;> omega
theorem nv_ah (hwB : ∀ p c, c ≤ W → c ≠ 0 → M p 0 = true → M p c = true → B p 0 < B p c) : ∀ {m p : Nat}, okF M W f m p → nvTo B f (p + m) ≤ nvTo B f p + ahN M B W m p ∧ (nvTo B f (p + m) = nvTo B f p + ahN M B W m p → ahH M 2 W m p ≤ hvN f m p)
  | 0, p, _ => by
    refine ⟨?_, fun _ => Nat.le_refl _⟩
    show nvTo B f p ≤ nvTo B f p + 0
    omega
  | m + 1, p, h => by
    have ih := nv_ah hwB (m := m) (p := p + 1) (fun q h1 h2 => h q (by omega) (by omega))
    rw [show p + 1 + m = p + (m + 1) by omega] at ih
    obtain ⟨h1, h2⟩ := h p (Nat.le_refl _) (by omega)
    have h3 := mxc_ge (B := B p) (z := 0) h2 (k := W + 1) (by omega)
    have e1 : nvTo B f (p + 1) = nvTo B f p + B p (f p) := rfl
    have e2 : ahN M B W (m + 1) p = ahN M B W m (p + 1) + mxc (M p) (B p) 0 (W + 1) := rfl
    rw [e1] at ih
    rw [e2]
    refine ⟨by omega, fun he => ?_⟩
    have ih2 := ih.2 (by omega)
    show ahH M 2 W m (p + 1) + (if mustB M 2 W p = true then 1 else 0) ≤ (if f p = 0 then 0 else 1) + hvN f m (p + 1)
    by_cases e : f p = 0
    · rw [e] at h2 h3
      have e3 : ¬ mustB M 2 W p = true := by
        intro hm
        unfold mustB at hm
        rw [if_pos rfl, h2] at hm
        have hm2 : (List.range W).any (fun c => M p (c + 1)) = true := hm
        obtain ⟨c, c1, c2⟩ := List.any_eq_true.mp hm2
        have c3 := List.mem_range.mp c1
        have c4 := hwB p (c + 1) (by omega) (Nat.succ_ne_zero c) h2 c2
        have c5 := mxc_ge (B := B p) (z := 0) (c := c + 1) c2 (k := W + 1) (by omega)
        rw [e] at ih
        omega
      rw [if_neg e3, if_pos e]
      omega
    · rw [if_neg e]
      split <;> omega
/-- the bound holds -/
theorem lvs_lb {sort N : Nat} (hwB : sort = 2 → ∀ p c, c ≤ W → c ≠ 0 → M p 0 = true → M p c = true → B p 0 < B p c) {m p : Nat} {lf s : Nat → Nat} {hv : Nat} (hN : p + m = N) (hs : sort < 3) {x : Cand} (hx : x ∈ lvs M (cCost sort N A B) W m p lf s hv) :
    lbC sort M A B W (loTo A s p) (hiTo A s p) (nvTo B s p) m p ≤ x.1 ∧ (x.1 = lbC sort M A B W (loTo A s p) (hiTo A s p) (nvTo B s p) m p → hv + ahH M sort W m p ≤ x.2.1) := by
  have hok : okF M W x.2.2 m p := fun q h1 h2 => ⟨(lvs_ok hx q h1 h2).1, (lvs_ok hx q h1 h2).2.1⟩
  have hc := lvs_cost hx
  have hh := lvs_hv hx
  have hag : ∀ q, q < p → s q = x.2.2 q := fun q hq => (lvs_out hx q (Or.inl hq)).symm
  rw [hc, hh, hiTo_eq hag, loTo_eq hag, nvTo_eq hag]
  unfold cCost lbC
  rw [← hN]
  by_cases s0 : sort = 0
  · have g := must_ah (sort := sort) (by omega) hok
    rw [if_pos s0, if_pos s0]
    exact ⟨Int.le_refl _, fun _ => by omega⟩
  · rw [if_neg s0, if_neg s0]
    by_cases s1 : sort = 1
    · have g := must_ah (sort := sort) (by omega) hok
      rw [if_pos s1, if_pos s1]
      have g1 := hi_ah (A := A) hok
      have g2 := lo_ah (A := A) hok
      have g3 := hi_ge (A := A) (f := x.2.2) (p := p + m)
      have g4 := lo_le (A := A) (f := x.2.2) (p := p + m)
      exact ⟨by omega, fun _ => by omega⟩
    · rw [if_neg s1, if_neg s1]
      have e : sort = 2 := by omega
      subst e
      have g := nv_ah (hwB rfl) hok
      exact ⟨by omega, fun q => by have := g.2 (by omega); omega⟩
/-- where nothing is ahead the bound is the cost -/
theorem lb_end {sort N : Nat} {s : Nat → Nat} : lbC sort M A B W (loTo A s N) (hiTo A s N) (nvTo B s N) 0 N = cCost sort N A B s := by
  unfold lbC cCost
  have g3 := hi_ge (A := A) (f := s) (p := N)
  have g4 := lo_le (A := A) (f := s) (p := N)
  have e1 : ahHi M A W 0 N = -1000000 := rfl
  have e2 : ahLo M A W 0 N = 1000000 := rfl
  have e3 : ahN M B W 0 N = 0 := rfl
  rw [e1, e2, e3]
  split
  · rfl
  · split <;> omega
/-- to put one back to none where its wine was wasted costs no more -/
theorem cost_put {sort N q c : Nat} (hq : q < N) (hs : sort < 3) (h1 : sort = 1 → A q c = A q 0) (h2 : sort = 2 → B q c ≤ B q 0) {f : Nat → Nat} (hf : f q = c) : cCost sort N A B (setS f q 0) ≤ cCost sort N A B f := by
  unfold cCost
  by_cases s0 : sort = 0
  · rw [if_pos s0, if_pos s0]
    exact Int.le_refl _
  · rw [if_neg s0, if_neg s0]
    by_cases s1 : sort = 1
    · rw [if_pos s1, if_pos s1]
      have e := h1 s1
      have g1 : ∀ p : Nat, hiTo A (setS f q 0) p = hiTo A f p := fun p => by
        induction p with
        | zero => rfl
        | succ p ih =>
          unfold hiTo
          rw [ih]
          by_cases e2 : p = q
          · subst e2
            rw [setS_s, hf, e]
          · rw [setS_n e2]
      have g2 : ∀ p : Nat, loTo A (setS f q 0) p = loTo A f p := fun p => by
        induction p with
        | zero => rfl
        | succ p ih =>
          unfold loTo
          rw [ih]
          by_cases e2 : p = q
          · subst e2
            rw [setS_s, hf, e]
          · rw [setS_n e2]
      rw [g1, g2]
      exact Int.le_refl _
    · rw [if_neg s1, if_neg s1]
      have e := h2 (by omega)
      have g1 : ∀ p : Nat, nvTo B f p ≤ nvTo B (setS f q 0) p := fun p => by
        induction p with
        | zero => exact Int.le_refl _
        | succ p ih =>
          unfold nvTo
          by_cases e2 : p = q
          · subst e2
            rw [setS_s, hf]
            omega
          · rw [setS_n e2]
            omega
      have := g1 N
      omega
end CO
/-! the choices that are looked at -/
def wstB (sort : Nat) (A B : Nat → Nat → Int) (p c : Nat) : Bool := if sort = 0 then true else if sort = 1 then decide (A p c = A p 0) else decide (B p c ≤ B p 0)
def mayB (sort : Nat) (F : Nat → Nat → Bool) (A B : Nat → Nat → Int) (lf : Nat → Nat) (p c : Nat) : Bool := F p c && decide (0 < lf c) && !(decide (c ≠ 0) && F p 0 && wstB sort A B p c)
theorem may_eq {sort N W : Nat} {F : Nat → Nat → Bool} {A B : Nat → Nat → Int} {lf s : Nat → Nat} (hs : sort < 3) (h0 : N ≤ lf 0) : fdB none (lvs (mayB sort F A B lf) (cCost sort N A B) W N 0 lf s 0) = fdB none (lvs F (cCost sort N A B) W N 0 lf s 0) := by
  refine best_eq (fun p c h => ?_) h0 (fun q c hq hc hF hl hM => ?_)
  · unfold mayB at h
    rw [Bool.and_eq_true, Bool.and_eq_true] at h
    exact h.1.1
  · unfold mayB at hM
    rw [hF, decide_eq_true hl] at hM
    have h1 : (decide (c ≠ 0) && F q 0 && wstB sort A B q c) = true := by
      cases e : (decide (c ≠ 0) && F q 0 && wstB sort A B q c) with
      | true => rfl
      | false =>
        rw [e] at hM
        exact Bool.noConfusion hM
    rw [Bool.and_eq_true, Bool.and_eq_true, decide_eq_true_iff] at h1
    refine ⟨h1.1.1, h1.1.2, fun f hf => cost_put hq hs (fun e => ?_) (fun e => ?_) hf⟩
    · have h2 := h1.2
      unfold wstB at h2
      rw [if_neg (by omega), if_pos e] at h2
      exact of_decide_eq_true h2
    · have h2 := h1.2
      unfold wstB at h2
      rw [if_neg (by omega), if_neg (by omega)] at h2
      exact of_decide_eq_true h2
theorem may_lt {W : Nat} {F : Nat → Nat → Bool} {A B : Nat → Nat → Int} {lf : Nat → Nat} {p c : Nat} (hc : c ≠ 0) (h0 : mayB 2 F A B lf p 0 = true) (h : mayB 2 F A B lf p c = true) : B p 0 < B p c := by
  unfold mayB at h h0
  rw [Bool.and_eq_true, Bool.and_eq_true] at h h0
  have h1 := h.2
  rw [h0.1.1, decide_eq_true hc] at h1
  have h2 : (!wstB 2 A B p c) = true := h1
  unfold wstB at h2
  rw [if_neg (by decide), if_neg (by decide), Bool.not_eq_true', decide_eq_false_iff_not] at h2
  omega
