/-! SEATINGS: the first of the best, out of a row of all that are gone through -/
abbrev Cand : Type := Int × Nat × (Nat → Nat)
def btr (x y : Cand) : Prop := x.1 < y.1 ∨ (x.1 = y.1 ∧ x.2.1 < y.2.1)
def btrB (x y : Cand) : Bool := decide (x.1 < y.1) || (decide (x.1 = y.1) && decide (x.2.1 < y.2.1))
theorem btrB_iff {x y : Cand} : btrB x y = true ↔ btr x y := by
  unfold btrB btr
  rw [Bool.or_eq_true, Bool.and_eq_true, decide_eq_true_iff, decide_eq_true_iff, decide_eq_true_iff]
theorem btr_irr {x : Cand} : ¬ btr x x := by unfold btr; omega
theorem btr_asym {x y : Cand} (h : btr x y) : ¬ btr y x := by unfold btr at *; omega
theorem btr_neg {x y z : Cand} (h1 : ¬ btr x y) (h2 : ¬ btr y z) : ¬ btr x z := by unfold btr at *; omega
def upB (st : Option Cand) (x : Cand) : Option Cand := match st with
  | none => some x
  | some y => if btrB x y = true then some x else some y
def fdB (st : Option Cand) (l : List Cand) : Option Cand := l.foldl upB st
theorem fdB_app {st : Option Cand} {a b : List Cand} : fdB st (a ++ b) = fdB (fdB st a) b := List.foldl_append
theorem upB_no {x y : Cand} (h : ¬ btr x y) : upB (some y) x = some y := if_neg (fun q => h (btrB_iff.mp q))
theorem upB_yes {x y : Cand} (h : btr x y) : upB (some y) x = some x := if_pos (btrB_iff.mpr h)
theorem fdB_skip {y : Cand} : ∀ {l : List Cand}, (∀ x, x ∈ l → ¬ btr x y) → fdB (some y) l = some y
  | [], _ => rfl
  | x :: l, h => by
    show fdB (upB (some y) x) l = some y
    rw [upB_no (h x List.mem_cons_self)]
    exact fdB_skip (fun z hz => h z (List.mem_cons_of_mem _ hz))
theorem fdB_mem : ∀ {l : List Cand} {y : Cand}, ∃ z, fdB (some y) l = some z ∧ (z = y ∨ z ∈ l)
  | [], y => ⟨y, rfl, Or.inl rfl⟩
  | x :: l, y => by
    by_cases h : btr x y
    · obtain ⟨z, h1, h2⟩ := fdB_mem (l := l) (y := x)
      refine ⟨z, ?_, h2.elim (fun e => Or.inr (e ▸ List.mem_cons_self)) (fun e => Or.inr (List.mem_cons_of_mem _ e))⟩
      show fdB (upB (some y) x) l = some z
      rw [upB_yes h]
      exact h1
    · obtain ⟨z, h1, h2⟩ := fdB_mem (l := l) (y := y)
      refine ⟨z, ?_, h2.elim Or.inl (fun e => Or.inr (List.mem_cons_of_mem _ e))⟩
      show fdB (upB (some y) x) l = some z
      rw [upB_no h]
      exact h1
/-- r is the first of the best of l -/
def fstB (l : List Cand) (r : Cand) : Prop := ∃ a b, l = a ++ r :: b ∧ (∀ x, x ∈ a → btr r x) ∧ ∀ x, x ∈ b → ¬ btr x r
theorem fstB_ex : ∀ {l : List Cand}, l ≠ [] → ∃ r, fstB l r
  | [], h => absurd rfl h
  | [x], _ => ⟨x, [], [], rfl, fun _ h => absurd h List.not_mem_nil, fun _ h => absurd h List.not_mem_nil⟩
  | x :: y :: l, _ => by
    obtain ⟨r, a, b, e, h1, h2⟩ := fstB_ex (l := y :: l) (List.cons_ne_nil _ _)
    by_cases h : btr r x
    · refine ⟨r, x :: a, b, by rw [e]; rfl, fun z hz => ?_, h2⟩
      rcases List.mem_cons.mp hz with rfl | hz
      · exact h
      · exact h1 z hz
    · refine ⟨x, [], y :: l, rfl, fun _ h => absurd h List.not_mem_nil, fun z hz => ?_⟩
      rw [e] at hz
      refine btr_neg (y := r) ?_ h
      rcases List.mem_append.mp hz with hz | hz
      · exact btr_asym (h1 z hz)
      · rcases List.mem_cons.mp hz with rfl | hz
        · exact btr_irr
        · exact h2 z hz
theorem fstB_fd {l : List Cand} {r : Cand} (h : fstB l r) : fdB none l = some r := by
  obtain ⟨a, b, rfl, h1, h2⟩ := h
  rw [fdB_app]
  have q : fdB (fdB none a) (r :: b) = fdB (some r) b := by
    cases a with
    | nil => rfl
    | cons x a =>
      obtain ⟨z, e, hz⟩ := fdB_mem (l := a) (y := x)
      have e2 : fdB none (x :: a) = some z := e
      rw [e2]
      show fdB (upB (some z) r) b = fdB (some r) b
      rw [upB_yes (h1 z (hz.elim (fun e => e ▸ List.mem_cons_self) (fun e => List.mem_cons_of_mem _ e)))]
  rw [q]
  exact fdB_skip h2
theorem fdB_filter {l : List Cand} {P : Cand → Bool} (h : ∀ x, x ∈ l → P x = false → ∃ y, y ∈ l ∧ btr y x) : fdB none (l.filter P) = fdB none l := by
  by_cases hl : l = []
  · rw [hl]
    rfl
  · obtain ⟨r, hr⟩ := fstB_ex hl
    rw [fstB_fd hr]
    have hP : P r = true := by
      cases hp : P r with
      | true => rfl
      | false =>
        obtain ⟨a, b, e, h1, h2⟩ := hr
        obtain ⟨y, hy, hb⟩ := h r (by rw [e]; exact List.mem_append_right _ List.mem_cons_self) hp
        rw [e] at hy
        rcases List.mem_append.mp hy with hy | hy
        · exact absurd (h1 y hy) (btr_asym hb)
        · rcases List.mem_cons.mp hy with rfl | hy
          · exact absurd hb btr_irr
          · exact absurd hb (h2 y hy)
    obtain ⟨a, b, e, h1, h2⟩ := hr
    refine fstB_fd ⟨a.filter P, b.filter P, ?_, fun x hx => h1 x (List.mem_filter.mp hx).1, fun x hx => h2 x (List.mem_filter.mp hx).1⟩
    rw [e, List.filter_append, List.filter_cons_of_pos hP]
/-! the seatings themselves: from p on, m more, so many left of each choice, those ahead seated so, so many of them with wine -/
def setS (f : Nat → Nat) (p c : Nat) : Nat → Nat := fun q => if q = p then c else f q
def lessB (f : Nat → Nat) (c : Nat) : Nat → Nat := fun q => if q = c then f q - 1 else f q
def incH (c hv : Nat) : Nat := if c = 0 then hv else hv + 1
def alts (f : Nat → List Cand) : Nat → Nat → List Cand
  | 0, _ => []
  | k + 1, c => f c ++ alts f k (c + 1)
def lvs (M : Nat → Nat → Bool) (C : (Nat → Nat) → Int) (W : Nat) : Nat → Nat → (Nat → Nat) → (Nat → Nat) → Nat → List Cand
  | 0, _, _, s, hv => [(C s, hv, s)]
  | m + 1, p, lf, s, hv => alts (fun c => if M p c = true ∧ 0 < lf c then lvs M C W m (p + 1) (lessB lf c) (setS s p c) (incH c hv) else []) (W + 1) 0
theorem setS_s {f : Nat → Nat} {p c : Nat} : setS f p c p = c := if_pos rfl
theorem setS_n {f : Nat → Nat} {p c q : Nat} (h : q ≠ p) : setS f p c q = f q := if_neg h
theorem mem_alts {f : Nat → List Cand} {x : Cand} : ∀ {k c : Nat}, x ∈ alts f k c ↔ ∃ j, c ≤ j ∧ j < c + k ∧ x ∈ f j
  | 0, c => ⟨fun h => absurd h List.not_mem_nil, fun ⟨j, h1, h2, _⟩ => absurd h1 (by omega)⟩
  | k + 1, c => by
    show x ∈ f c ++ alts f k (c + 1) ↔ _
    rw [List.mem_append, mem_alts (k := k) (c := c + 1)]
    constructor
    · rintro (h | ⟨j, h1, h2, h3⟩)
      · exact ⟨c, Nat.le_refl _, by omega, h⟩
      · exact ⟨j, by omega, by omega, h3⟩
    · rintro ⟨j, h1, h2, h3⟩
      by_cases e : j = c
      · subst e
        exact Or.inl h3
      · exact Or.inr ⟨j, by omega, by omega, h3⟩
theorem alts_filter {f : Nat → List Cand} {P : Cand → Bool} : ∀ {k c : Nat}, (alts f k c).filter P = alts (fun j => (f j).filter P) k c
  | 0, _ => rfl
  | k + 1, c => by
    show (f c ++ alts f k (c + 1)).filter P = (f c).filter P ++ alts (fun j => (f j).filter P) k (c + 1)
    rw [List.filter_append, alts_filter]
theorem alts_congr {f g : Nat → List Cand} : ∀ {k c : Nat}, (∀ j, c ≤ j → j < c + k → f j = g j) → alts f k c = alts g k c
  | 0, _, _ => rfl
  | k + 1, c, h => by
    show f c ++ alts f k (c + 1) = g c ++ alts g k (c + 1)
    rw [h c (Nat.le_refl _) (by omega), alts_congr (fun j h1 h2 => h j (by omega) (by omega))]
section LV
variable {M F : Nat → Nat → Bool} {C : (Nat → Nat) → Int} {W : Nat}
theorem lvs_in {m p : Nat} {lf s : Nat → Nat} {hv : Nat} {x : Cand} : x ∈ lvs M C W (m + 1) p lf s hv ↔ ∃ c, c ≤ W ∧ M p c = true ∧ 0 < lf c ∧ x ∈ lvs M C W m (p + 1) (lessB lf c) (setS s p c) (incH c hv) := by
  show x ∈ alts _ (W + 1) 0 ↔ _
  rw [mem_alts]
  constructor
  · rintro ⟨c, -, h2, h3⟩
    by_cases h : M p c = true ∧ 0 < lf c
    · rw [if_pos h] at h3
      exact ⟨c, by omega, h.1, h.2, h3⟩
    · rw [if_neg h] at h3
      exact absurd h3 List.not_mem_nil
  · rintro ⟨c, h1, h2, h3, h4⟩
    refine ⟨c, Nat.zero_le _, by omega, ?_⟩
    rw [if_pos ⟨h2, h3⟩]
    exact h4
theorem lvs_out : ∀ {m p : Nat} {lf s : Nat → Nat} {hv : Nat} {x : Cand}, x ∈ lvs M C W m p lf s hv → ∀ q, q < p ∨ p + m ≤ q → x.2.2 q = s q
  | 0, p, lf, s, hv, x, h, q, _ => by
    have e : x = (C s, hv, s) := List.mem_singleton.mp h
    rw [e]
  | m + 1, p, lf, s, hv, x, h, q, hq => by
    obtain ⟨c, -, -, -, h4⟩ := lvs_in.mp h
    rw [lvs_out h4 q (by omega)]
    exact setS_n (by omega)
theorem lvs_cost : ∀ {m p : Nat} {lf s : Nat → Nat} {hv : Nat} {x : Cand}, x ∈ lvs M C W m p lf s hv → x.1 = C x.2.2
  | 0, p, lf, s, hv, x, h => by
    have e : x = (C s, hv, s) := List.mem_singleton.mp h
    rw [e]
  | m + 1, p, lf, s, hv, x, h => by
    obtain ⟨c, -, -, -, h4⟩ := lvs_in.mp h
    exact lvs_cost h4
theorem lvs_at {m p : Nat} {lf s : Nat → Nat} {hv c : Nat} {x : Cand} (h : x ∈ lvs M C W m (p + 1) lf (setS s p c) hv) : x.2.2 p = c := (lvs_out h p (Or.inl (Nat.lt_succ_self p))).trans setS_s
/-- how many of m from p on have one -/
def hvN (f : Nat → Nat) : Nat → Nat → Nat
  | 0, _ => 0
  | m + 1, p => (if f p = 0 then 0 else 1) + hvN f m (p + 1)
theorem lvs_hv : ∀ {m p : Nat} {lf s : Nat → Nat} {hv : Nat} {x : Cand}, x ∈ lvs M C W m p lf s hv → x.2.1 = hv + hvN x.2.2 m p
  | 0, p, lf, s, hv, x, h => by
    have e : x = (C s, hv, s) := List.mem_singleton.mp h
    rw [e]
    rfl
  | m + 1, p, lf, s, hv, x, h => by
    obtain ⟨c, -, -, -, h4⟩ := lvs_in.mp h
    rw [lvs_hv h4]
    show incH c hv + hvN x.2.2 m (p + 1) = hv + ((if x.2.2 p = 0 then 0 else 1) + hvN x.2.2 m (p + 1))
    rw [lvs_at h4]
    unfold incH
    split <;> omega
theorem lvs_ok : ∀ {m p : Nat} {lf s : Nat → Nat} {hv : Nat} {x : Cand}, x ∈ lvs M C W m p lf s hv → ∀ q, p ≤ q → q < p + m → x.2.2 q ≤ W ∧ M q (x.2.2 q) = true ∧ 0 < lf (x.2.2 q)
  | 0, p, lf, s, hv, x, h, q, h1, h2 => absurd h1 (by omega)
  | m + 1, p, lf, s, hv, x, h, q, h1, h2 => by
    obtain ⟨c, g1, g2, g3, h4⟩ := lvs_in.mp h
    by_cases e : q = p
    · subst e
      rw [lvs_at h4]
      exact ⟨g1, g2, g3⟩
    · obtain ⟨k1, k2, k3⟩ := lvs_ok h4 q (by omega) (by omega)
      refine ⟨k1, k2, ?_⟩
      unfold lessB at k3
      split at k3 <;> omega
theorem lvs_filter (hM : ∀ p c, M p c = true → F p c = true) {N : Nat} {P : Cand → Bool} (hP : ∀ x : Cand, P x = true ↔ ∀ q, q < N → M q (x.2.2 q) = true) : ∀ {m p : Nat} {lf s : Nat → Nat} {hv : Nat}, p + m = N → (∀ q, q < p → M q (s q) = true) → (lvs F C W m p lf s hv).filter P = lvs M C W m p lf s hv
  | 0, p, lf, s, hv, hN, hs => by
    show [(C s, hv, s)].filter P = [(C s, hv, s)]
    rw [List.filter_cons_of_pos ((hP _).mpr (fun q hq => hs q (by omega)))]
    rfl
  | m + 1, p, lf, s, hv, hN, hs => by
    show (alts _ (W + 1) 0).filter P = alts _ (W + 1) 0
    rw [alts_filter]
    refine alts_congr (fun c _ hc => ?_)
    by_cases h : M p c = true ∧ 0 < lf c
    · rw [if_pos h, if_pos ⟨hM p c h.1, h.2⟩]
      refine lvs_filter hM hP (by omega) (fun q hq => ?_)
      by_cases e : q = p
      · subst e
        rw [setS_s]
        exact h.1
      · rw [setS_n e]
        exact hs q (by omega)
    · rw [if_neg h]
      by_cases h2 : F p c = true ∧ 0 < lf c
      · rw [if_pos h2]
        refine List.filter_eq_nil_iff.mpr (fun x hx hp => ?_)
        have q := (hP x).mp hp p (by omega)
        rw [lvs_at hx] at q
        exact h ⟨q, h2.2⟩
      · rw [if_neg h2]
        rfl
theorem lvs_rep : ∀ {m p : Nat} {lf lf' s s' : Nat → Nat} {hv hv' : Nat} {x : Cand}, x ∈ lvs F C W m p lf s hv → (∀ c, c ≠ 0 → lf c ≤ lf' c) → m ≤ lf' 0 → ∃ y, y ∈ lvs F C W m p lf' s' hv' ∧ (∀ q, p ≤ q → q < p + m → y.2.2 q = x.2.2 q) ∧ y.2.1 + hv = x.2.1 + hv'
  | 0, p, lf, lf', s, s', hv, hv', x, h, _, _ => by
    have e : x = (C s, hv, s) := List.mem_singleton.mp h
    refine ⟨(C s', hv', s'), List.mem_singleton.mpr rfl, fun q h1 h2 => absurd h1 (by omega), ?_⟩
    rw [e]
    exact Nat.add_comm _ _
  | m + 1, p, lf, lf', s, s', hv, hv', x, h, hl, h0 => by
    obtain ⟨c, g1, g2, g3, h4⟩ := lvs_in.mp h
    have hpos : 0 < lf' c := by
      by_cases e : c = 0
      · subst e
        omega
      · have := hl c e
        omega
    obtain ⟨y, y1, y2, y3⟩ := lvs_rep (lf' := lessB lf' c) (s' := setS s' p c) (hv' := incH c hv') h4 (fun c' hc' => by unfold lessB; have := hl c' hc'; split <;> omega) (by unfold lessB; split <;> omega)
    refine ⟨y, lvs_in.mpr ⟨c, g1, g2, hpos, y1⟩, fun q q1 q2 => ?_, ?_⟩
    · by_cases e : q = p
      · subst e
        rw [lvs_at y1, lvs_at h4]
      · exact y2 q (by omega) (by omega)
    · unfold incH at y3
      split at y3 <;> omega
theorem lvs_beat : ∀ {m p : Nat} {lf s : Nat → Nat} {hv : Nat} {x : Cand}, x ∈ lvs F C W m p lf s hv → m ≤ lf 0 → ∀ r, p ≤ r → r < p + m → x.2.2 r ≠ 0 → F r 0 = true → ∃ y, y ∈ lvs F C W m p lf s hv ∧ y.2.2 = setS x.2.2 r 0 ∧ y.2.1 + 1 = x.2.1
  | 0, p, lf, s, hv, x, h, _, r, h1, h2, _, _ => absurd h1 (by omega)
  | m + 1, p, lf, s, hv, x, h, h0, r, h1, h2, h3, h4 => by
    obtain ⟨c, g1, g2, g3, hx⟩ := lvs_in.mp h
    by_cases e : r = p
    · subst e
      have hc : c ≠ 0 := by rw [lvs_at hx] at h3; exact h3
      obtain ⟨y, y1, y2, y3⟩ := lvs_rep (lf' := lessB lf 0) (s' := setS s r 0) (hv' := incH 0 hv) hx (fun c' hc' => by unfold lessB; rw [if_neg hc']; split <;> omega) (by unfold lessB; rw [if_pos rfl]; omega)
      refine ⟨y, lvs_in.mpr ⟨0, Nat.zero_le _, h4, by omega, y1⟩, ?_, ?_⟩
      · funext q
        by_cases e1 : q = r
        · subst e1
          rw [lvs_at y1, setS_s]
        · rw [setS_n e1]
          by_cases e2 : r + 1 ≤ q ∧ q < r + 1 + m
          · exact y2 q e2.1 e2.2
          · rw [lvs_out y1 q (by omega), lvs_out hx q (by omega), setS_n e1, setS_n e1]
      · unfold incH at y3
        rw [if_pos rfl, if_neg hc] at y3
        omega
    · obtain ⟨y, y1, y2, y3⟩ := lvs_beat hx (by unfold lessB; split <;> omega) r (by omega) (by omega) h3 h4
      exact ⟨y, lvs_in.mpr ⟨c, g1, g2, g3, y1⟩, y2, y3⟩
/-- to go through those choices alone that are not wasted finds the same -/
theorem best_eq {N : Nat} {lf s : Nat → Nat} (hM : ∀ p c, M p c = true → F p c = true) (h0 : N ≤ lf 0)
    (hw : ∀ q c, q < N → c ≤ W → F q c = true → 0 < lf c → M q c = false → c ≠ 0 ∧ F q 0 = true ∧ ∀ f : Nat → Nat, f q = c → C (setS f q 0) ≤ C f) : fdB none (lvs M C W N 0 lf s 0) = fdB none (lvs F C W N 0 lf s 0) := by
  have hP : ∀ x : Cand, (fun x : Cand => (List.range N).all (fun q => M q (x.2.2 q))) x = true ↔ ∀ q, q < N → M q (x.2.2 q) = true := fun x => by
    show (List.range N).all (fun q => M q (x.2.2 q)) = true ↔ _
    rw [List.all_eq_true]
    exact ⟨fun h q hq => h q (List.mem_range.mpr hq), fun h q hq => h q (List.mem_range.mp hq)⟩
  rw [← lvs_filter (F := F) hM hP (Nat.zero_add N) (fun q hq => absurd hq (Nat.not_lt_zero q))]
  refine fdB_filter (fun x hx hp => ?_)
  have hn : ¬ ∀ q, q < N → M q (x.2.2 q) = true := fun q => absurd (((hP x).mpr q).symm.trans hp) (by decide)
  have hex : ∃ q, q < N ∧ M q (x.2.2 q) = false := by
    refine Classical.byContradiction (fun h => hn (fun q hq => ?_))
    cases e : M q (x.2.2 q) with
    | true => rfl
    | false => exact absurd ⟨q, hq, e⟩ h
  obtain ⟨q, q1, q2⟩ := hex
  obtain ⟨k1, k2, k3⟩ := lvs_ok hx q (Nat.zero_le _) (by omega)
  obtain ⟨w1, w2, w3⟩ := hw q _ q1 k1 k2 k3 q2
  obtain ⟨y, y1, y2, y3⟩ := lvs_beat hx h0 q (Nat.zero_le _) (by omega) w1 w2
  refine ⟨y, y1, ?_⟩
  have c1 := lvs_cost y1
  have c2 := lvs_cost hx
  have c3 := w3 x.2.2 rfl
  rw [← y2, ← c1, ← c2] at c3
  unfold btr
  omega
/-- what can't be better than the best so far is left out -/
theorem fdB_prune {l : List Cand} {y : Cand} {lb : Int} {h : Nat} (hl : ∀ x, x ∈ l → lb ≤ x.1 ∧ (x.1 = lb → h ≤ x.2.1)) (hb : ¬ (lb < y.1 ∨ (lb = y.1 ∧ h < y.2.1))) : fdB (some y) l = some y := by
  refine fdB_skip (fun x hx hbt => ?_)
  have q := hl x hx
  unfold btr at hbt
  omega
theorem lvs_ne : ∀ {m p : Nat} {lf s : Nat → Nat} {hv : Nat}, m ≤ lf 0 → (∀ q, p ≤ q → q < p + m → M q 0 = true) → ∃ x, x ∈ lvs M C W m p lf s hv
  | 0, p, lf, s, hv, _, _ => ⟨_, List.mem_singleton.mpr rfl⟩
  | m + 1, p, lf, s, hv, h0, h => by
    obtain ⟨x, hx⟩ := lvs_ne (m := m) (p := p + 1) (lf := lessB lf 0) (s := setS s p 0) (hv := incH 0 hv) (by unfold lessB; rw [if_pos rfl]; omega) (fun q q1 q2 => h q (by omega) (by omega))
    exact ⟨x, lvs_in.mpr ⟨0, Nat.zero_le _, h p (Nat.le_refl _) (by omega), by omega, hx⟩⟩
end LV
theorem fdB_ne {l : List Cand} {x : Cand} (h : x ∈ l) : ∃ r, fdB none l = some r := by
  cases l with
  | nil => exact absurd h List.not_mem_nil
  | cons y l =>
    obtain ⟨z, h1, -⟩ := fdB_mem (l := l) (y := y)
    exact ⟨z, h1⟩
theorem fdB_in {l : List Cand} {r : Cand} (h : fdB none l = some r) : r ∈ l := by
  cases l with
  | nil =>
    have h2 : (none : Option Cand) = some r := h
    cases h2
  | cons y l =>
    obtain ⟨z, h1, h2⟩ := fdB_mem (l := l) (y := y)
    have h3 : fdB (some y) l = some r := h
    rw [h1] at h3
    cases h3
    exact h2.elim (fun e => e ▸ List.mem_cons_self) (fun e => List.mem_cons_of_mem _ e)
