theorem i_add {x y : Int32} {a b : Int} (hx : x.toInt = a) (hy : y.toInt = b) (h : -2147483648 ≤ a + b ∧ a + b < 2147483648) : (x + y).toInt = a + b := by
  rw [Int32.toInt_add, hx, hy]
  exact bmod_id h.1 h.2
theorem i_sub {x y : Int32} {a b : Int} (hx : x.toInt = a) (hy : y.toInt = b) (h : -2147483648 ≤ a - b ∧ a - b < 2147483648) : (x - y).toInt = a - b := by
  rw [Int32.toInt_sub, hx, hy]
  exact bmod_id h.1 h.2
theorem i_neg {x : Int32} {a : Int} (hx : x.toInt = a) (h : -2147483648 < a ∧ a < 2147483648) : (-x).toInt = -a := by
  rw [Int32.toInt_neg, hx]
  exact bmod_id (by omega) (by omega)
theorem i_max {x y : Int32} {a b : Int} (hx : x.toInt = a) (hy : y.toInt = b) : (if x < y then y else x).toInt = max a b := by
  by_cases h : x < y
  · rw [if_pos h, hy]
    rw [Int32.lt_iff_toInt_lt, hx, hy] at h
    omega
  · rw [if_neg h, hx]
    rw [Int32.lt_iff_toInt_lt, hx, hy] at h
    omega
theorem i_min {x y : Int32} {a b : Int} (hx : x.toInt = a) (hy : y.toInt = b) : (if y < x then y else x).toInt = min a b := by
  by_cases h : y < x
  · rw [if_pos h, hy]
    rw [Int32.lt_iff_toInt_lt, hx, hy] at h
    omega
  · rw [if_neg h, hx]
    rw [Int32.lt_iff_toInt_lt, hx, hy] at h
    omega
theorem alts_snoc {f : Nat → List Cand} : ∀ {k c : Nat}, alts f (k + 1) c = alts f k c ++ f (c + k)
  | 0, c => by
    show f c ++ [] = [] ++ f (c + 0)
    rw [List.append_nil, List.nil_append, Nat.add_zero]
  | k + 1, c => by
    show f c ++ alts f (k + 1) (c + 1) = (f c ++ alts f k (c + 1)) ++ f (c + (k + 1))
    rw [alts_snoc (k := k), List.append_assoc, show c + 1 + k = c + (k + 1) by omega]
def okAB (N W : Nat) (A B : Nat → Nat → Int) : Prop := ∀ q c, q < N → c ≤ W → (-9000 ≤ A q c ∧ A q c ≤ 9000) ∧ 0 ≤ B q c ∧ B q c ≤ 9000
section BN
variable {N W : Nat} {A B : Nat → Nat → Int} {M : Nat → Nat → Bool} {f : Nat → Nat}
theorem hiTo_bd (h : okAB N W A B) : ∀ {p : Nat}, p ≤ N → (∀ q, q < p → f q ≤ W) → hiTo A f p ≤ 9000
  | 0, _, _ => by show (-1000000 : Int) ≤ 9000; decide
  | p + 1, hp, hf => by
    have q := hiTo_bd h (p := p) (by omega) (fun q hq => hf q (by omega))
    have r := h p (f p) (by omega) (hf p (by omega))
    unfold hiTo
    omega
theorem loTo_bd (h : okAB N W A B) : ∀ {p : Nat}, p ≤ N → (∀ q, q < p → f q ≤ W) → -9000 ≤ loTo A f p
  | 0, _, _ => by show (-9000 : Int) ≤ 1000000; decide
  | p + 1, hp, hf => by
    have q := loTo_bd h (p := p) (by omega) (fun q hq => hf q (by omega))
    have r := h p (f p) (by omega) (hf p (by omega))
    unfold loTo
    omega
theorem nvTo_bd (h : okAB N W A B) : ∀ {p : Nat}, p ≤ N → (∀ q, q < p → f q ≤ W) → 0 ≤ nvTo B f p ∧ nvTo B f p ≤ 9000 * (p : Int)
  | 0, _, _ => by show (0 : Int) ≤ 0 ∧ (0 : Int) ≤ 9000 * 0; decide
  | p + 1, hp, hf => by
    have q := nvTo_bd h (p := p) (by omega) (fun q hq => hf q (by omega))
    have r := h p (f p) (by omega) (hf p (by omega))
    unfold nvTo
    omega
theorem mxc_bd {M : Nat → Bool} {B : Nat → Int} {z a b : Int} (hz : a ≤ z ∧ z ≤ b) : ∀ {k : Nat}, (∀ c, c < k → a ≤ B c ∧ B c ≤ b) → a ≤ mxc M B z k ∧ mxc M B z k ≤ b
  | 0, _ => hz
  | k + 1, h => by
    have q := mxc_bd (M := M) (B := B) hz (k := k) (fun c hc => h c (by omega))
    have r := h k (by omega)
    unfold mxc
    split <;> omega
theorem mnc_bd {M : Nat → Bool} {B : Nat → Int} {z a b : Int} (hz : a ≤ z ∧ z ≤ b) : ∀ {k : Nat}, (∀ c, c < k → a ≤ B c ∧ B c ≤ b) → a ≤ mnc M B z k ∧ mnc M B z k ≤ b
  | 0, _ => hz
  | k + 1, h => by
    have q := mnc_bd (M := M) (B := B) hz (k := k) (fun c hc => h c (by omega))
    have r := h k (by omega)
    unfold mnc
    split <;> omega
theorem ahN_bd (h : okAB N W A B) : ∀ {m p : Nat}, p + m ≤ N → 0 ≤ ahN M B W m p ∧ ahN M B W m p ≤ 9000 * (m : Int)
  | 0, p, _ => by show (0 : Int) ≤ 0 ∧ (0 : Int) ≤ 9000 * 0; decide
  | m + 1, p, hp => by
    have q := ahN_bd h (m := m) (p := p + 1) (by omega)
    have r := mxc_bd (M := M p) (B := B p) (z := 0) (a := 0) (b := 9000) (by decide) (k := W + 1) (fun c hc => (h p c (by omega) (by omega)).2)
    unfold ahN
    omega
theorem ahHi_bd (h : okAB N W A B) (hne : ∀ q, q < N → ∃ c, c ≤ W ∧ M q c = true) : ∀ {m p : Nat}, p + m ≤ N → -1000000 ≤ ahHi M A W m p ∧ ahHi M A W m p ≤ 9000
  | 0, p, _ => by show (-1000000 : Int) ≤ -1000000 ∧ (-1000000 : Int) ≤ 9000; decide
  | m + 1, p, hp => by
    have q := ahHi_bd h hne (m := m) (p := p + 1) (by omega)
    obtain ⟨c, c1, c2⟩ := hne p (by omega)
    have r := mnc_bd (M := M p) (B := A p) (z := 1000000) (a := -9000) (b := 1000000) (by decide) (k := W + 1) (fun c hc => by have := h p c (by omega) (by omega); omega)
    have r2 := mnc_le (B := A p) (z := 1000000) c2 (k := W + 1) (by omega)
    have r3 := h p c (by omega) c1
    unfold ahHi
    omega
theorem ahLo_bd (h : okAB N W A B) (hne : ∀ q, q < N → ∃ c, c ≤ W ∧ M q c = true) : ∀ {m p : Nat}, p + m ≤ N → -9000 ≤ ahLo M A W m p ∧ ahLo M A W m p ≤ 1000000
  | 0, p, _ => by show (-9000 : Int) ≤ 1000000 ∧ (1000000 : Int) ≤ 1000000; decide
  | m + 1, p, hp => by
    have q := ahLo_bd h hne (m := m) (p := p + 1) (by omega)
    obtain ⟨c, c1, c2⟩ := hne p (by omega)
    have r := mxc_bd (M := M p) (B := A p) (z := -1000000) (a := -1000000) (b := 9000) (by decide) (k := W + 1) (fun c hc => by have := h p c (by omega) (by omega); omega)
    have r2 := mxc_ge (B := A p) (z := -1000000) c2 (k := W + 1) (by omega)
    have r3 := h p c (by omega) c1
    unfold ahLo
    omega
end BN
/-- what the class' search goes by -/
def SR (sort N W : Nat) (M : Nat → Nat → Bool) (A B : Nat → Nat → Int) (mi : MI) : Prop :=
  (nat (mi 40 1) N ∧ N ≤ 6) ∧ (nat (mi 40 2) W ∧ W ≤ 5) ∧ (mi 130 11 = nI sort ∧ sort < 3) ∧
  (∀ q, q < N → mi 145 q = bitsTo (M q) (W + 1) ∧ ∀ c, c ≤ W → (mi (132 + q) c).toInt = A q c ∧ (mi (139 + q) c).toInt = B q c) ∧
  ∀ q, q ≤ N → (mi 149 q).toInt = (ahH M sort W (N - q) q : Int) ∧ (mi 150 q).toInt = ahN M B W (N - q) q ∧ (mi 151 q).toInt = ahLo M A W (N - q) q ∧ (mi 152 q).toInt = ahHi M A W (N - q) q
def offS (p : Nat) : Nat → Nat → Prop := fun a k => (a = 147 ∧ p ≤ k) ∨ a = 148 ∨ (a = 130 ∧ 12 ≤ k)
def offS6 (p : Nat) : Nat → Nat → Prop := fun a k => offS p a k ∨ a = 146
theorem SR.off {sort N W p : Nat} {M : Nat → Nat → Bool} {A B : Nat → Nat → Int} {mi mj : MI} (h : SR sort N W M A B mi) (ho : Off (offS6 p) mi mj) : SR sort N W M A B mj := by
  have row : ∀ a, a ≠ 147 → a ≠ 148 → a ≠ 130 → a ≠ 146 → mj a = mi a := fun a g1 g2 g3 g4 => ho.fn (fun k => by unfold offS6 offS; omega)
  have e : mj 130 11 = mi 130 11 := ho 130 11 (by unfold offS6 offS; omega)
  obtain ⟨h1, h2, h3, h4, h5⟩ := h
  refine ⟨?_, ?_, ?_, fun q hq => ?_, fun q hq => ?_⟩
  · rw [row 40 (by decide) (by decide) (by decide) (by decide)]; exact h1
  · rw [row 40 (by decide) (by decide) (by decide) (by decide)]; exact h2
  · rw [e]; exact h3
  · have := h1.2
    rw [row 145 (by decide) (by decide) (by decide) (by decide), row (132 + q) (by omega) (by omega) (by omega) (by omega), row (139 + q) (by omega) (by omega) (by omega) (by omega)]
    exact h4 q hq
  · rw [row 149 (by decide) (by decide) (by decide) (by decide), row 150 (by decide) (by decide) (by decide) (by decide), row 151 (by decide) (by decide) (by decide) (by decide), row 152 (by decide) (by decide) (by decide) (by decide)]
    exact h5 q hq
theorem offS_6 {p : Nat} {mi mj : MI} (h : Off (offS p) mi mj) : Off (offS6 p) mi mj := h.mono (fun _ _ q => Or.inl q)
theorem offS_mono {p : Nat} {mi mj : MI} (h : Off (offS (p + 1)) mi mj) : Off (offS p) mi mj := h.mono (fun a k q => by unfold offS at *; omega)
/-- so many bottles are left -/
def LFq (W : Nat) (lf : Nat → Nat) (mi : MI) : Prop := ∀ c, c ≤ W → (mi 146 c).toInt = (lf c : Int) ∧ lf c ≤ 100
def STq (p : Nat) (s : Nat → Nat) (mi : MI) : Prop := ∀ q, q < p → (mi 147 q).toInt = (s q : Int)
/-- the best so far -/
def BSq (N : Nat) (mi : MI) (st : Option Cand) : Prop := match st with
  | none => mi 130 14 = 0 ∧ mi 130 12 = 1000000 ∧ mi 130 13 = 1000000
  | some x => mi 130 14 = 1 ∧ (mi 130 12).toInt = x.1 ∧ (mi 130 13).toInt = (x.2.1 : Int) ∧ ∀ q, q < N → (mi 148 q).toInt = (x.2.2 q : Int)
theorem BSq.eq {N : Nat} {mi mj : MI} {st : Option Cand} (h : BSq N mi st) (h1 : ∀ k, 12 ≤ k → mj 130 k = mi 130 k) (h2 : ∀ k, mj 148 k = mi 148 k) : BSq N mj st := by
  cases st with
  | none =>
    unfold BSq at *
    rw [h1 14 (by decide), h1 12 (by decide), h1 13 (by decide)]
    exact h
  | some x =>
    unfold BSq at *
    rw [h1 14 (by decide), h1 12 (by decide), h1 13 (by decide)]
    exact ⟨h.1, h.2.1, h.2.2.1, fun q hq => by rw [h2]; exact h.2.2.2 q hq⟩
theorem sort_c {sort : Nat} {x : Int32} (h : x = nI sort) (hs : sort < 3) (k : Nat) (hk : k < 3) : x = nI k ↔ sort = k := by
  rw [h]
  refine ⟨fun e => ?_, fun e => by rw [e]⟩
  have q : (nI sort).toInt = (nI k).toInt := by rw [e]
  rw [nI_toInt (by omega), nI_toInt (by omega)] at q
  omega
set_option maxRecDepth 4000 in
theorem qX4_isBetter (n : Nat) (mi : MI) (mr : MR) (hR : RF mr) (hn : 186 ≤ n) (x y : Int32)  : Ct KX4_isBetter 1 0 0 [.ref 130, .int x, .int y] n mi mr (eqQ (some (.int (b01 (x < mi 130 12 ∨ (x = mi 130 12 ∧ y < mi 130 13))))) n mi mr) := by
  refine Ct.of2 [some (.ref 130), some (.int x), some (.int y)] (by decide +kernel) (Nat.le_of_ble_eq_true rfl) rfl ?_
  refine V_iload_n dX4_isBetter_0 rfl ?_
  refine V_aload_n dX4_isBetter_1 rfl ?_
  refine V_geti 4 12 dX4_isBetter_2 (Or.inl lkX4_82) rfl rfl ⟨by omega, by omega⟩ ?_
  refine V_icmp_lt (tgt := 24) dX4_isBetter_5 (by decide) (fun c5 => ?_) (fun c5 => ?_)
  · refine V_iconst (v := 1) dX4_isBetter_24 rfl ?_
    refine V_goto (tgt := 29) dX4_isBetter_25 (by decide) ?_
    refine V_iret dX4_isBetter_29 rfl rfl ?_
    first | exact ⟨congrArg (fun v => some (Value.int v)) (b01_t (Or.inl c5)), rfl, rfl, rfl⟩ | exact ⟨congrArg (fun v => some (Value.int v)) (b01_t (Or.inr (And.intro c13 (Int32.not_le.mp c21)))), rfl, rfl, rfl⟩ | exact ⟨congrArg (fun v => some (Value.int v)) (b01_f (fun h => h.elim c5 (fun q => c13 q.1))), rfl, rfl, rfl⟩ | exact ⟨congrArg (fun v => some (Value.int v)) (b01_f (fun h => h.elim c5 (fun q => absurd q.2 (Int32.not_lt.mpr c21)))), rfl, rfl, rfl⟩
  · refine V_iload_n dX4_isBetter_8 rfl ?_
    refine V_aload_n dX4_isBetter_9 rfl ?_
    refine V_geti 4 12 dX4_isBetter_10 (Or.inl lkX4_82) rfl rfl ⟨by omega, by omega⟩ ?_
    refine V_icmp_ne (tgt := 28) dX4_isBetter_13 (by decide) (fun c13 => ?_) (fun c13 => ?_)
    · refine V_iconst (v := 0) dX4_isBetter_28 rfl ?_
      refine V_iret dX4_isBetter_29 rfl rfl ?_
      first | exact ⟨congrArg (fun v => some (Value.int v)) (b01_t (Or.inl c5)), rfl, rfl, rfl⟩ | exact ⟨congrArg (fun v => some (Value.int v)) (b01_t (Or.inr (And.intro c13 (Int32.not_le.mp c21)))), rfl, rfl, rfl⟩ | exact ⟨congrArg (fun v => some (Value.int v)) (b01_f (fun h => h.elim c5 (fun q => c13 q.1))), rfl, rfl, rfl⟩ | exact ⟨congrArg (fun v => some (Value.int v)) (b01_f (fun h => h.elim c5 (fun q => absurd q.2 (Int32.not_lt.mpr c21)))), rfl, rfl, rfl⟩
    · refine V_iload_n dX4_isBetter_16 rfl ?_
      refine V_aload_n dX4_isBetter_17 rfl ?_
      refine V_geti 4 13 dX4_isBetter_18 (Or.inl lkX4_85) rfl rfl ⟨by omega, by omega⟩ ?_
      refine V_icmp_ge (tgt := 28) dX4_isBetter_21 (by decide) (fun c21 => ?_) (fun c21 => ?_)
      · refine V_iconst (v := 0) dX4_isBetter_28 rfl ?_
        refine V_iret dX4_isBetter_29 rfl rfl ?_
        first | exact ⟨congrArg (fun v => some (Value.int v)) (b01_t (Or.inl c5)), rfl, rfl, rfl⟩ | exact ⟨congrArg (fun v => some (Value.int v)) (b01_t (Or.inr (And.intro c13 (Int32.not_le.mp c21)))), rfl, rfl, rfl⟩ | exact ⟨congrArg (fun v => some (Value.int v)) (b01_f (fun h => h.elim c5 (fun q => c13 q.1))), rfl, rfl, rfl⟩ | exact ⟨congrArg (fun v => some (Value.int v)) (b01_f (fun h => h.elim c5 (fun q => absurd q.2 (Int32.not_lt.mpr c21)))), rfl, rfl, rfl⟩
      · refine V_iconst (v := 1) dX4_isBetter_24 rfl ?_
        refine V_goto (tgt := 29) dX4_isBetter_25 (by decide) ?_
        refine V_iret dX4_isBetter_29 rfl rfl ?_
        first | exact ⟨congrArg (fun v => some (Value.int v)) (b01_t (Or.inl c5)), rfl, rfl, rfl⟩ | exact ⟨congrArg (fun v => some (Value.int v)) (b01_t (Or.inr (And.intro c13 (Int32.not_le.mp c21)))), rfl, rfl, rfl⟩ | exact ⟨congrArg (fun v => some (Value.int v)) (b01_f (fun h => h.elim c5 (fun q => c13 q.1))), rfl, rfl, rfl⟩ | exact ⟨congrArg (fun v => some (Value.int v)) (b01_f (fun h => h.elim c5 (fun q => absurd q.2 (Int32.not_lt.mpr c21)))), rfl, rfl, rfl⟩
set_option maxRecDepth 4000 in
theorem qX4_leastCost (n : Nat) (mi : MI) (mr : MR) (hR : RF mr) (hn : 186 ≤ n) (sort N W : Nat) (M : Nat → Nat → Bool) (A B : Nat → Nat → Int) (hab : okAB N W A B) (hne : ∀ q, q < N → ∃ c, c ≤ W ∧ M q c = true) (hSR : SR sort N W M A B mi) (m p : Nat) (hpm : p + m = N) (x lo hi nv : Int32) (hx : x.toInt = (p : Int)) (a b v : Int) (hlo : lo.toInt = a) (hhi : hi.toInt = b) (hnv : nv.toInt = v) (ha : -9000 ≤ a ∧ a ≤ 1000000) (hb : -1000000 ≤ b ∧ b ≤ 9000) (hv : 0 ≤ v ∧ v ≤ 60000)  : Ct KX4_leastCost 2 0 0 [.ref 130, .int x, .int lo, .int hi, .int nv] n mi mr (fun r n' mi' mr' => ∃ z : Int32, r = some (.int z) ∧ z.toInt = lbC sort M A B W a b v m p ∧ n = n' ∧ mi = mi' ∧ mr = mr') := by
  refine Ct.of2 [some (.ref 130), some (.int x), some (.int lo), some (.int hi), some (.int nv)] (by decide +kernel) (Nat.le_of_ble_eq_true rfl) rfl ?_
  obtain ⟨⟨hN, hN6⟩, ⟨hW, hW5⟩, ⟨hso, hs3⟩, hrows, hahd⟩ := hSR
  obtain ⟨g1, g2, g3, g4⟩ := hahd p (by omega)
  rw [show N - p = m by omega] at g1 g2 g3 g4
  have b1 := ahN_bd hab (M := M) (m := m) (p := p) (by omega)
  have b2 := ahHi_bd hab hne (m := m) (p := p) (by omega)
  have b3 := ahLo_bd hab hne (m := m) (p := p) (by omega)
  refine V_aload_n dX4_leastCost_0 rfl ?_
  refine V_geti 4 11 dX4_leastCost_1 (Or.inl lkX4_79) rfl rfl ⟨by omega, by omega⟩ ?_
  by_cases s0 : sort = 0
  · rw [show mi 130 11 = nI 0 from by rw [hso, show sort = 0 by omega]]
    refine V_lookup (off := 28) (tgt := 32) dX4_leastCost_4 (by decide) (by decide) (by decide) ?_
    refine V_iconst (v := 0) dX4_leastCost_32 rfl ?_
    refine V_iret dX4_leastCost_33 rfl rfl ?_
    refine ⟨0, rfl, ?_, rfl, rfl, rfl⟩
    unfold lbC
    rw [if_pos s0]
    rfl
  by_cases s1 : sort = 1
  · rw [show mi 130 11 = nI 1 from by rw [hso, show sort = 1 by omega]]
    refine V_lookup (off := 30) (tgt := 34) dX4_leastCost_4 (by decide) (by decide) (by decide) ?_
    refine V_iconst (v := 0) dX4_leastCost_34 rfl ?_
    refine V_iload_n dX4_leastCost_35 rfl ?_
    refine V_aload_n dX4_leastCost_36 rfl ?_
    refine V_getr (b := 152) 4 10 dX4_leastCost_37 (Or.inl lkX4_41) rfl rfl ⟨by omega, by omega⟩ (hR _ _ _ rfl) ?_
    refine V_iload_n dX4_leastCost_40 rfl ?_
    refine V_iald (len := 7) p dX4_leastCost_41 rfl ⟨by omega, by omega⟩ hx (by omega) ?_
    refine V_max dX4_leastCost_42 mlX4_111 sm_max iniJ9 cm_max (by decide) (Nat.le_of_ble_eq_true rfl) ?_
    refine V_iload_n dX4_leastCost_45 rfl ?_
    refine V_aload_n dX4_leastCost_46 rfl ?_
    refine V_getr (b := 151) 4 9 dX4_leastCost_47 (Or.inl lkX4_38) rfl rfl ⟨by omega, by omega⟩ (hR _ _ _ rfl) ?_
    refine V_iload_n dX4_leastCost_50 rfl ?_
    refine V_iald (len := 7) p dX4_leastCost_51 rfl ⟨by omega, by omega⟩ hx (by omega) ?_
    refine V_min dX4_leastCost_52 mlX4_116 sm_min iniJ9 cm_min (by decide) (Nat.le_of_ble_eq_true rfl) ?_
    refine V_isub dX4_leastCost_55 ?_
    refine V_max dX4_leastCost_56 mlX4_111 sm_max iniJ9 cm_max (by decide) (Nat.le_of_ble_eq_true rfl) ?_
    refine V_iret dX4_leastCost_59 rfl rfl ?_
    refine ⟨_, rfl, ?_, rfl, rfl, rfl⟩
    unfold lbC
    rw [if_neg s0, if_pos s1]
    exact i_max (a := 0) (by decide) (i_sub (i_max hhi g4) (i_min hlo g3) (by omega))
  rw [show mi 130 11 = nI 2 from by rw [hso, show sort = 2 by omega]]
  refine V_lookup (off := 56) (tgt := 60) dX4_leastCost_4 (by decide) (by decide) (by decide) ?_
  refine V_iload dX4_leastCost_60 rfl ?_
  refine V_ineg dX4_leastCost_62 ?_
  refine V_aload_n dX4_leastCost_63 rfl ?_
  refine V_getr (b := 150) 4 8 dX4_leastCost_64 (Or.inl lkX4_35) rfl rfl ⟨by omega, by omega⟩ (hR _ _ _ rfl) ?_
  refine V_iload_n dX4_leastCost_67 rfl ?_
  refine V_iald (len := 7) p dX4_leastCost_68 rfl ⟨by omega, by omega⟩ hx (by omega) ?_
  refine V_isub dX4_leastCost_69 ?_
  refine V_iret dX4_leastCost_70 rfl rfl ?_
  refine ⟨_, rfl, ?_, rfl, rfl, rfl⟩
  unfold lbC
  rw [if_neg s0, if_neg s1]
  exact i_sub (i_neg hnv (by omega)) g2 (by omega)
set_option maxRecDepth 4000 in
theorem qX4_keep (n : Nat) (mi : MI) (mr : MR) (hR : RF mr) (hn : 186 ≤ n) (x y : Int32)  : Ct KX4_keep 2 0 0 [.ref 130, .int x, .int y] n mi mr (eqQ none n (cp2 (up2 (up2 (up2 mi 130 14 1) 130 12 x) 130 13 y) 147 148 6) mr) := by
  refine Ct.of2 [some (.ref 130), some (.int x), some (.int y)] (by decide +kernel) (Nat.le_of_ble_eq_true rfl) rfl ?_
  refine V_aload_n dX4_keep_0 rfl ?_
  refine V_iconst (v := 1) dX4_keep_1 rfl ?_
  refine V_puti 4 14 dX4_keep_2 (Or.inl lkX4_71) rfl rfl rfl rfl ⟨by omega, by omega⟩ ?_
  refine V_aload_n dX4_keep_5 rfl ?_
  refine V_iload_n dX4_keep_6 rfl ?_
  refine V_puti 4 12 dX4_keep_7 (Or.inl lkX4_82) rfl rfl rfl rfl ⟨by omega, by omega⟩ ?_
  refine V_aload_n dX4_keep_10 rfl ?_
  refine V_iload_n dX4_keep_11 rfl ?_
  refine V_puti 4 13 dX4_keep_12 (Or.inl lkX4_85) rfl rfl rfl rfl ⟨by omega, by omega⟩ ?_
  refine V_aload_n dX4_keep_15 rfl ?_
  refine V_getr (b := 147) 4 5 dX4_keep_16 (Or.inl lkX4_26) rfl rfl ⟨by omega, by omega⟩ (hR _ _ _ rfl) ?_
  refine V_iconst (v := 0) dX4_keep_19 rfl ?_
  refine V_aload_n dX4_keep_20 rfl ?_
  refine V_getr (b := 148) 4 6 dX4_keep_21 (Or.inl lkX4_29) rfl rfl ⟨by omega, by omega⟩ (hR _ _ _ rfl) ?_
  refine V_iconst (v := 0) dX4_keep_24 rfl ?_
  refine V_bipush (v := 6) dX4_keep_25 rfl ?_
  refine V_copy (t := 0) (len := 6) dX4_keep_27 mlX4_130 nat_copy sm_copy iniJ10 rfl rfl (by decide) ⟨by omega, by omega⟩ ⟨by omega, by omega⟩ rfl (by decide) (fun _ _ => rfl) (by decide) (Nat.le_of_ble_eq_true rfl) ?_
  refine V_ret dX4_keep_30 rfl ?_
  exact ⟨rfl, rfl, rfl, rfl⟩
theorem ahH_le {M : Nat → Nat → Bool} {sort W : Nat} : ∀ {m p : Nat}, ahH M sort W m p ≤ m
  | 0, _ => Nat.le_refl _
  | m + 1, p => by
    have q := ahH_le (M := M) (sort := sort) (W := W) (m := m) (p := p + 1)
    unfold ahH
    split <;> omega
theorem lb_small {sort N W : Nat} {M : Nat → Nat → Bool} {A B : Nat → Nat → Int} (hab : okAB N W A B) (hne : ∀ q, q < N → ∃ c, c ≤ W ∧ M q c = true) {lo hi nv : Int} {m p : Nat} (hp : p + m ≤ N) (h1 : -9000 ≤ lo) (h2 : hi ≤ 9000) (h3 : 0 ≤ nv) : lbC sort M A B W lo hi nv m p < (1000000 : Int32).toInt := by
  have b1 := ahN_bd hab (M := M) (m := m) (p := p) hp
  have b2 := ahHi_bd hab hne (m := m) (p := p) hp
  have b3 := ahLo_bd hab hne (m := m) (p := p) hp
  have e : (1000000 : Int32).toInt = 1000000 := by decide
  rw [e]
  unfold lbC
  split
  · decide
  · split <;> omega
set_option maxRecDepth 4000 in
theorem qX4_sit (n : Nat) (mr : MR) (hR : RF mr) (hn : 186 ≤ n) (sort N W : Nat) (M : Nat → Nat → Bool) (A B : Nat → Nat → Int) (hab : okAB N W A B) (hne : ∀ q, q < N → ∃ c, c ≤ W ∧ M q c = true) (hwB : sort = 2 → ∀ p c, c ≤ W → c ≠ 0 → M p 0 = true → M p c = true → B p 0 < B p c) : ∀ (m : Nat) (p : Nat) (mi : MI) (x y lo hi nv : Int32) (hv : Nat) (st : Option Cand) (lf s : Nat → Nat), p + m = N → SR sort N W M A B mi → LFq W lf mi → STq p s mi → BSq N mi st → x.toInt = (p : Int) → y.toInt = (hv : Int) → hv ≤ p → lo.toInt = loTo A s p → hi.toInt = hiTo A s p → nv.toInt = nvTo B s p → (∀ q, q < p → s q ≤ W) → Ct KX4_sit (m + 4) 0 0 [.ref 130, .int x, .int y, .int lo, .int hi, .int nv] n mi mr (fun r n' mi' mr' => none = r ∧ n = n' ∧ mr = mr' ∧ Off (offS p) mi mi' ∧ BSq N mi' (fdB st (lvs M (cCost sort N A B) W m p lf s hv))) := by
  intro m
  induction m with
  | zero =>
    intro p mi x y lo hi nv hv st lf s hpm hSR hLF hST hBS hx hy hvp hlo hhi hnv hsW
    refine Ct.of2 [some (.ref 130), some (.int x), some (.int y), some (.int lo), some (.int hi), some (.int nv), none, none, none] (by decide +kernel) (Nat.le_of_ble_eq_true rfl) rfl ?_
    have hSR0 := hSR
    obtain ⟨⟨hN, hN6⟩, ⟨hW, hW5⟩, ⟨hso, hs3⟩, hrows, hahd⟩ := hSR
    have k1 := hiTo_bd (f := s) hab (p := p) (by omega) hsW
    have k2 := loTo_bd (f := s) hab (p := p) (by omega) hsW
    have k3 := nvTo_bd (f := s) hab (p := p) (by omega) hsW
    have k4 := hi_ge (A := A) (f := s) (p := p)
    have k5 := lo_le (A := A) (f := s) (p := p)
    obtain ⟨g1, g2, g3, g4⟩ := hahd p (by omega)
    have hhb : ahH M sort W (N - p) p ≤ 6 := Nat.le_trans (ahH_le) (by omega)
    rw [show N - p = 0 by omega] at g1 g2 g3 g4 hhb
    have hlb := fun z (hz : z ∈ lvs M (cCost sort N A B) W 0 p lf s hv) => lvs_lb hwB hpm hs3 hz
    have hiB := i_add hy g1 (by omega)
    refine V_aload_n dX4_sit_0 rfl ?_
    refine V_iload_n dX4_sit_1 rfl ?_
    refine V_iload_n dX4_sit_2 rfl ?_
    refine V_iload dX4_sit_3 rfl ?_
    refine V_iload dX4_sit_5 rfl ?_
    refine V_callV (ci := 4) (qX4_leastCost n mi mr hR hn sort N W M A B hab hne hSR0 0 p hpm _ _ _ _ hx _ _ _ hlo hhi hnv (by omega) (by omega) (by omega)) dX4_sit_7 mlX4_119 mtX4_leastCost ivX4_leastCost rfl rfl ⟨by omega, by omega⟩ (by decide) rfl rfl (by omega) (Nat.le_of_ble_eq_true rfl) rfl rfl ?_
    rintro _ _ _ _ ⟨lb, rfl, hz, rfl, rfl, rfl⟩
    refine V_istore (L' := [_, _, _, _, _, _, _, _, _]) dX4_sit_10 (by decide) rfl rfl ?_
    refine V_aload_n dX4_sit_12 rfl ?_
    refine V_iload dX4_sit_13 rfl ?_
    refine V_iload_n dX4_sit_15 rfl ?_
    refine V_aload_n dX4_sit_16 rfl ?_
    refine V_getr (b := 149) 4 7 dX4_sit_17 (Or.inl lkX4_32) rfl rfl ⟨by omega, by omega⟩ (hR _ _ _ rfl) ?_
    refine V_iload_n dX4_sit_20 rfl ?_
    refine V_iald (len := 7) p dX4_sit_21 rfl ⟨by omega, by omega⟩ hx (by omega) ?_
    refine V_iadd dX4_sit_22 ?_
    refine V_callV (ci := 4) (qX4_isBetter _ _ _ hR hn _ _) dX4_sit_23 mlX4_123 mtX4_isBetter ivX4_isBetter rfl rfl ⟨by omega, by omega⟩ (by decide) rfl rfl (by omega) (Nat.le_of_ble_eq_true rfl) rfl rfl ?_
    rintro _ _ _ _ ⟨rfl, rfl, rfl, rfl⟩
    refine V_if_ne (tgt := 30) dX4_sit_26 (by decide) (fun c26 => ?_) (fun c26 => ?_)
    · refine V_iload_n dX4_sit_30 rfl ?_
      refine V_aload_n dX4_sit_31 rfl ?_
      refine V_getr (b := 40) 4 0 dX4_sit_32 (Or.inl lkX4_44) rfl rfl ⟨by omega, by omega⟩ (hR _ _ _ rfl) ?_
      refine V_geti 6 1 dX4_sit_35 lnX4_52 rfl rfl ⟨by omega, by omega⟩ ?_
      refine V_icmp_lt (tgt := 49) dX4_sit_38 (by decide) (fun c38 => absurd ((lt_nat hx hN).mp c38) (by omega)) (fun c38 => ?_)
      refine V_aload_n dX4_sit_41 rfl ?_
      refine V_iload dX4_sit_42 rfl ?_
      refine V_iload_n dX4_sit_44 rfl ?_
      refine V_callV (ci := 4) (qX4_keep _ _ _ hR hn _ _) dX4_sit_45 mlX4_126 mtX4_keep ivX4_keep rfl rfl ⟨by omega, by omega⟩ (by decide) rfl rfl (by omega) (Nat.le_of_ble_eq_true rfl) rfl rfl ?_
      rintro _ _ _ _ ⟨rfl, rfl, rfl, rfl⟩
      refine V_ret dX4_sit_48 rfl ?_
      have hpN : p = N := by omega
      refine ⟨rfl, rfl, rfl, fun a k hk => ?_, ?_⟩
      · simp only [cp2, up2]
        unfold offS at hk
        rw [if_neg (by omega), if_neg (by omega), if_neg (by omega), if_neg (by omega)]
      · have hup : fdB st (lvs M (cCost sort N A B) W 0 p lf s hv) = some (cCost sort N A B s, hv, s) := by
          have c26 := b01_n.mp c26
          show upB st (cCost sort N A B s, hv, s) = _
          cases st with
          | none => rfl
          | some b =>
            obtain ⟨e1, e2, e3, e4⟩ := hBS
            refine upB_yes ?_
            rw [Int32.lt_iff_toInt_lt, Int32.lt_iff_toInt_lt, ← Int32.toInt_inj, hz, e2, e3, hiB, hpN, lb_end] at c26
            have q0 : (ahH M sort W 0 N : Int) = 0 := rfl
            unfold btr
            show cCost sort N A B s < b.1 ∨ cCost sort N A B s = b.1 ∧ hv < b.2.1
            omega
        rw [hup]
        refine ⟨?_, ?_, ?_, fun q hq => ?_⟩
        · simp [cp2, up2]
        · simp only [cp2, up2]
          simp
          rw [hz, hpN, lb_end]
        · simp only [cp2, up2]
          simp
          exact hy
        · simp only [cp2, up2]
          simp
          rw [if_pos (by omega)]
          exact hST q (by omega)
    · refine V_ret dX4_sit_29 rfl ?_
      have hst : fdB st (lvs M (cCost sort N A B) W 0 p lf s hv) = st := by
        have c26 := b01_0.mp c26
        cases st with
        | none =>
          exfalso
          obtain ⟨e1, e2, e3⟩ := hBS
          refine c26 (Or.inl ?_)
          rw [e2, Int32.lt_iff_toInt_lt, hz]
          have q := lb_small (sort := sort) hab hne (lo := loTo A s p) (hi := hiTo A s p) (nv := nvTo B s p) (m := 0) (p := p) (by omega) k2 k1 k3.1
          exact q
        | some b =>
          obtain ⟨e1, e2, e3, e4⟩ := hBS
          refine fdB_prune hlb (fun q => c26 ?_)
          rw [Int32.lt_iff_toInt_lt, Int32.lt_iff_toInt_lt, ← Int32.toInt_inj, hz, e2, e3, hiB]
          omega
      refine ⟨rfl, rfl, rfl, Off.rf, ?_⟩
      rw [hst]
      exact hBS
  | succ m ih =>
    intro p mi x y lo hi nv hv st lf s hpm hSR hLF hST hBS hx hy hvp hlo hhi hnv hsW
    refine Ct.of2 [some (.ref 130), some (.int x), some (.int y), some (.int lo), some (.int hi), some (.int nv), none, none, none] (by decide +kernel) (Nat.le_of_ble_eq_true rfl) rfl ?_
    have hSR0 := hSR
    obtain ⟨⟨hN, hN6⟩, ⟨hW, hW5⟩, ⟨hso, hs3⟩, hrows, hahd⟩ := hSR
    have k1 := hiTo_bd (f := s) hab (p := p) (by omega) hsW
    have k2 := loTo_bd (f := s) hab (p := p) (by omega) hsW
    have k3 := nvTo_bd (f := s) hab (p := p) (by omega) hsW
    have k4 := hi_ge (A := A) (f := s) (p := p)
    have k5 := lo_le (A := A) (f := s) (p := p)
    obtain ⟨g1, g2, g3, g4⟩ := hahd p (by omega)
    have hhb : ahH M sort W (N - p) p ≤ 6 := Nat.le_trans (ahH_le) (by omega)
    rw [show N - p = (m + 1) by omega] at g1 g2 g3 g4 hhb
    have hlb := fun z (hz : z ∈ lvs M (cCost sort N A B) W (m + 1) p lf s hv) => lvs_lb hwB hpm hs3 hz
    have hiB := i_add hy g1 (by omega)
    refine V_aload_n dX4_sit_0 rfl ?_
    refine V_iload_n dX4_sit_1 rfl ?_
    refine V_iload_n dX4_sit_2 rfl ?_
    refine V_iload dX4_sit_3 rfl ?_
    refine V_iload dX4_sit_5 rfl ?_
    refine V_callV (ci := 4) (qX4_leastCost n mi mr hR hn sort N W M A B hab hne hSR0 (m + 1) p hpm _ _ _ _ hx _ _ _ hlo hhi hnv (by omega) (by omega) (by omega)) dX4_sit_7 mlX4_119 mtX4_leastCost ivX4_leastCost rfl rfl ⟨by omega, by omega⟩ (by decide) rfl rfl (by omega) (Nat.le_of_ble_eq_true rfl) rfl rfl ?_
    rintro _ _ _ _ ⟨lb, rfl, hz, rfl, rfl, rfl⟩
    refine V_istore (L' := [_, _, _, _, _, _, _, _, _]) dX4_sit_10 (by decide) rfl rfl ?_
    refine V_aload_n dX4_sit_12 rfl ?_
    refine V_iload dX4_sit_13 rfl ?_
    refine V_iload_n dX4_sit_15 rfl ?_
    refine V_aload_n dX4_sit_16 rfl ?_
    refine V_getr (b := 149) 4 7 dX4_sit_17 (Or.inl lkX4_32) rfl rfl ⟨by omega, by omega⟩ (hR _ _ _ rfl) ?_
    refine V_iload_n dX4_sit_20 rfl ?_
    refine V_iald (len := 7) p dX4_sit_21 rfl ⟨by omega, by omega⟩ hx (by omega) ?_
    refine V_iadd dX4_sit_22 ?_
    refine V_callV (ci := 4) (qX4_isBetter _ _ _ hR hn _ _) dX4_sit_23 mlX4_123 mtX4_isBetter ivX4_isBetter rfl rfl ⟨by omega, by omega⟩ (by decide) rfl rfl (by omega) (Nat.le_of_ble_eq_true rfl) rfl rfl ?_
    rintro _ _ _ _ ⟨rfl, rfl, rfl, rfl⟩
    refine V_if_ne (tgt := 30) dX4_sit_26 (by decide) (fun c26 => ?_) (fun c26 => ?_)
    · refine V_iload_n dX4_sit_30 rfl ?_
      refine V_aload_n dX4_sit_31 rfl ?_
      refine V_getr (b := 40) 4 0 dX4_sit_32 (Or.inl lkX4_44) rfl rfl ⟨by omega, by omega⟩ (hR _ _ _ rfl) ?_
      refine V_geti 6 1 dX4_sit_35 lnX4_52 rfl rfl ⟨by omega, by omega⟩ ?_
      refine V_icmp_lt (tgt := 49) dX4_sit_38 (by decide) (fun c38 => ?_) (fun c38 => absurd ((lt_nat hx hN).mpr (by omega)) c38)
      refine V_iconst (v := 0) dX4_sit_49 rfl ?_
      refine V_istore (L' := [_, _, _, _, _, _, _, _, _]) dX4_sit_50 (by decide) rfl rfl ?_
      have hSRl : ∀ {mj : MI}, Off (offS p) mi mj → SR sort N W M A B mj ∧ LFq W lf mj ∧ STq p s mj := fun {mj} ho => ⟨hSR0.off (offS_6 ho), fun c hc => by rw [ho 146 c (by unfold offS; omega)]; exact hLF c hc, fun q hq => by rw [ho 147 q (by unfold offS; omega)]; exact hST q hq⟩
      have loop : ∀ (k c : Nat) (mj : MI) (u : Int32) (z8 : Option Value), c + k = W + 1 → u.toInt = (c : Int) → Off (offS p) mi mj → BSq N mj (fdB st (alts (fun c => if M p c = true ∧ 0 < lf c then lvs M (cCost sort N A B) W m (p + 1) (lessB lf c) (setS s p c) (incH c hv) else []) c 0)) → V KX4_sit (m + 1 + 4) 0 0 (fun r n' mi' mr' => none = r ∧ n = n' ∧ mr = mr' ∧ Off (offS p) mi mi' ∧ BSq N mi' (fdB st (lvs M (cCost sort N A B) W (m + 1) p lf s hv))) 52 [some (.ref 130), some (.int x), some (.int y), some (.int lo), some (.int hi), some (.int nv), some (.int lb), some (.int u), z8] [] n mj mr := by
        intro k
        induction k with
        | zero =>
          intro c mj u z8 hck hc hoj hBj
          obtain ⟨hSRj0, hLj, hSj⟩ := hSRl hoj
          have hSRj := hSRj0
          obtain ⟨⟨hNj, -⟩, ⟨hWj, -⟩, -, hrj, -⟩ := hSRj
          refine V_iload dX4_sit_52 rfl ?_
          refine V_aload_n dX4_sit_54 rfl ?_
          refine V_getr (b := 40) 4 0 dX4_sit_55 (Or.inl lkX4_44) rfl rfl ⟨by omega, by omega⟩ (hR _ _ _ rfl) ?_
          refine V_geti 6 2 dX4_sit_58 lnX4_88 rfl rfl ⟨by omega, by omega⟩ ?_
          refine V_icmp_gt (tgt := 180) dX4_sit_61 (by decide) (fun c61 => ?_) (fun c61 => absurd ((lt_nat hWj hc).mpr (by omega)) c61)
          refine V_ret dX4_sit_180 rfl ?_
          have hcW : c = W + 1 := by omega
          subst hcW
          exact ⟨rfl, rfl, rfl, hoj, hBj⟩
        | succ k ih2 =>
          intro c mj u z8 hck hc hoj hBj
          obtain ⟨hSRj0, hLj, hSj⟩ := hSRl hoj
          have hSRj := hSRj0
          obtain ⟨⟨hNj, -⟩, ⟨hWj, -⟩, -, hrj, -⟩ := hSRj
          refine V_iload dX4_sit_52 rfl ?_
          refine V_aload_n dX4_sit_54 rfl ?_
          refine V_getr (b := 40) 4 0 dX4_sit_55 (Or.inl lkX4_44) rfl rfl ⟨by omega, by omega⟩ (hR _ _ _ rfl) ?_
          refine V_geti 6 2 dX4_sit_58 lnX4_88 rfl rfl ⟨by omega, by omega⟩ ?_
          refine V_icmp_gt (tgt := 180) dX4_sit_61 (by decide) (fun c61 => absurd ((lt_nat hWj hc).mp c61) (by omega)) (fun c61 => ?_)
          have hc6 : c ≤ W := by omega
          obtain ⟨hr1, hr2⟩ := hrj p (by omega)
          have hbit := bits_bit (f := M p) (N := W + 1) (p := c) (by omega) (by omega)
          rw [← hr1, ← nI_of_toInt hc] at hbit
          have hlc := (hLj c hc6).1
          refine V_aload_n dX4_sit_64 rfl ?_
          refine V_getr (b := 145) 4 3 dX4_sit_65 (Or.inl lkX4_19) rfl rfl ⟨by omega, by omega⟩ (hR _ _ _ rfl) ?_
          refine V_iload_n dX4_sit_68 rfl ?_
          refine V_iald (len := 6) p dX4_sit_69 rfl ⟨by omega, by omega⟩ hx (by omega) ?_
          refine V_iload dX4_sit_70 rfl ?_
          refine V_ishr dX4_sit_72 ?_
          refine V_iconst (v := 1) dX4_sit_73 rfl ?_
          refine V_iand dX4_sit_74 ?_
          refine V_iconst (v := 1) dX4_sit_75 rfl ?_
          refine V_icmp_ne (tgt := 174) dX4_sit_76 (by decide) (fun c76 => ?_) (fun c76 => ?_)
          · refine V_iinc (v := _ + (1)) (L' := [_, _, _, _, _, _, _, _, _]) dX4_sit_174 (by decide) rfl rfl rfl rfl ?_
            refine V_goto (tgt := 52) dX4_sit_177 (by decide) ?_
            refine ih2 (c + 1) mj _ _ (by omega) (ix_add hc (by decide) (by omega)) hoj ?_
            rw [alts_snoc, fdB_app, Nat.zero_add, if_neg (fun q => c76 (by rw [hbit, if_pos q.1]))]
            exact hBj
          · refine V_aload_n dX4_sit_79 rfl ?_
            refine V_getr (b := 146) 4 4 dX4_sit_80 (Or.inl lkX4_23) rfl rfl ⟨by omega, by omega⟩ (hR _ _ _ rfl) ?_
            refine V_iload dX4_sit_83 rfl ?_
            refine V_iald (len := 6) c dX4_sit_85 rfl ⟨by omega, by omega⟩ hc (by omega) ?_
            refine V_if_le (tgt := 174) dX4_sit_86 (by decide) (fun c86 => ?_) (fun c86 => ?_)
            · refine V_iinc (v := _ + (1)) (L' := [_, _, _, _, _, _, _, _, _]) dX4_sit_174 (by decide) rfl rfl rfl rfl ?_
              refine V_goto (tgt := 52) dX4_sit_177 (by decide) ?_
              refine ih2 (c + 1) mj _ _ (by omega) (ix_add hc (by decide) (by omega)) hoj ?_
              rw [alts_snoc, fdB_app, Nat.zero_add, if_neg (fun q => by rw [Int32.le_iff_toInt_le, hlc] at c86; have := q.2; simp only [Int32.reduceToInt] at c86; omega)]
              exact hBj
            · refine V_aload_n dX4_sit_89 rfl ?_
              refine V_getr (b := 146) 4 4 dX4_sit_90 (Or.inl lkX4_23) rfl rfl ⟨by omega, by omega⟩ (hR _ _ _ rfl) ?_
              refine V_iload dX4_sit_93 rfl ?_
              refine V_dup2 dX4_sit_95 rfl rfl ?_
              refine V_iald (len := 6) c dX4_sit_96 rfl ⟨by omega, by omega⟩ hc (by omega) ?_
              refine V_iconst (v := 1) dX4_sit_97 rfl ?_
              refine V_isub dX4_sit_98 ?_
              refine V_iast (len := 6) c dX4_sit_99 rfl ⟨by omega, by omega⟩ hc (by omega) ?_
              have hM : M p c = true := by
                cases e : M p c with
                | true => rfl
                | false =>
                  rw [hbit, e] at c76
                  exact absurd c76 (by decide)
              have hl0 : 0 < lf c := by
                have q := Int32.not_le.mp c86
                rw [Int32.lt_iff_toInt_lt, hlc] at q
                simp only [Int32.reduceToInt] at q
                omega
              refine V_aload_n dX4_sit_100 rfl ?_
              refine V_getr (b := 147) 4 5 dX4_sit_101 (Or.inl lkX4_26) rfl rfl ⟨by omega, by omega⟩ (hR _ _ _ rfl) ?_
              refine V_iload_n dX4_sit_104 rfl ?_
              refine V_iload dX4_sit_105 rfl ?_
              refine V_iast (len := 6) p dX4_sit_107 rfl ⟨by omega, by omega⟩ hx (by omega) ?_
              refine V_aload_n dX4_sit_108 rfl ?_
              refine V_getr (b := 131) 4 1 dX4_sit_109 (Or.inl lkX4_13) rfl rfl ⟨by omega, by omega⟩ (hR _ _ _ rfl) ?_
              refine V_iload_n dX4_sit_112 rfl ?_
              refine V_aald (len := 6) (b := (132 + p)) 3 p dX4_sit_113 rfl rfl ⟨by omega, by omega⟩ hx (by omega) (hR _ _ _ (sSr (by omega)).2.2.1) ?_
              refine V_iload dX4_sit_114 rfl ?_
              refine V_iald (len := 6) c dX4_sit_116 (sSr (by omega)).1 ⟨by omega, by omega⟩ hc (by omega) ?_
              rw [up2_row (by omega), up2_row (by omega)]
              refine V_istore (L' := [_, _, _, _, _, _, _, _, _]) dX4_sit_117 (by decide) rfl rfl ?_
              have hsr2 : SR sort N W M A B (up2 (up2 mj 146 c (mj 146 c - 1)) 147 p u) := hSRj0.off (p := p) (fun a k hk => by unfold offS6 offS at hk; simp only [up2]; rw [if_neg (by omega), if_neg (by omega)])
              have hlf2 : LFq W (lessB lf c) (up2 (up2 mj 146 c (mj 146 c - 1)) 147 p u) := fun c2 hc2 => by
                rw [up2_row (by decide)]
                unfold lessB
                simp only [up2, true_and]
                by_cases e : c2 = c
                · rw [if_pos e, if_pos e, e]
                  refine ⟨?_, by have := (hLj c hc6).2; omega⟩
                  rw [subOne (N := lf c) hlc (by have := (hLj c hc6).2; omega)]
                  omega
                · rw [if_neg e, if_neg e]
                  exact hLj c2 hc2
              have hst2 : STq (p + 1) (setS s p c) (up2 (up2 mj 146 c (mj 146 c - 1)) 147 p u) := fun q hq => by
                simp only [up2, true_and]
                rw [if_neg (show ¬ ((147 : Nat) = 146 ∧ q = c) by omega)]
                by_cases e : q = p
                · rw [if_pos e, e, setS_s]
                  exact hc
                · rw [if_neg e, setS_n e]
                  exact hSj q (by omega)
              have hbs2 : BSq N (up2 (up2 mj 146 c (mj 146 c - 1)) 147 p u) (fdB st (alts (fun c => if M p c = true ∧ 0 < lf c then lvs M (cCost sort N A B) W m (p + 1) (lessB lf c) (setS s p c) (incH c hv) else []) c 0)) := hBj.eq (fun k hk => by simp only [up2]; rw [if_neg (by omega), if_neg (by omega)]) (fun k => by simp only [up2]; rw [if_neg (by omega), if_neg (by omega)])
              have heq1 : ∀ q, q < p → setS s p c q = s q := fun q hq => setS_n (by omega)
              have hA := (hr2 c hc6).1
              have hB := (hr2 c hc6).2
              have hab1 := hab p c (by omega) hc6
              have hlo2 : (if mj (132 + p) c < lo then mj (132 + p) c else lo).toInt = loTo A (setS s p c) (p + 1) := by
                unfold loTo
                rw [loTo_eq heq1, setS_s]
                exact i_min hlo hA
              have hhi2 : (if hi < mj (132 + p) c then mj (132 + p) c else hi).toInt = hiTo A (setS s p c) (p + 1) := by
                unfold hiTo
                rw [hiTo_eq heq1, setS_s]
                exact i_max hhi hA
              have hnv2 : (nv + mj (139 + p) c).toInt = nvTo B (setS s p c) (p + 1) := by
                unfold nvTo
                rw [nvTo_eq heq1, setS_s]
                exact i_add hnv hB (by omega)
              have hsW2 : ∀ q, q < p + 1 → setS s p c q ≤ W := fun q hq => by
                by_cases e : q = p
                · rw [e, setS_s]; exact hc6
                · rw [setS_n e]; exact hsW q (by omega)
              refine V_aload_n dX4_sit_119 rfl ?_
              refine V_iload_n dX4_sit_120 rfl ?_
              refine V_iconst (v := 1) dX4_sit_121 rfl ?_
              refine V_iadd dX4_sit_122 ?_
              refine V_iload dX4_sit_123 rfl ?_
              refine V_if_ne (tgt := 132) dX4_sit_125 (by decide) (fun c125 => ?_) (fun c125 => ?_)
              · have hc0 : ¬ c = 0 := fun e => c125 ((eq_nat hc (y := 0) (b := 0) rfl).mpr e)
                have hy2 : (y + 1).toInt = (incH c hv : Int) := by unfold incH; rw [if_neg hc0]; exact ix_add hy (by decide) (by omega)
                have hv2 : incH c hv ≤ p + 1 := by unfold incH; rw [if_neg hc0]; omega
                refine V_iload_n dX4_sit_132 rfl ?_
                refine V_iconst (v := 1) dX4_sit_133 rfl ?_
                refine V_iadd dX4_sit_134 ?_
                refine V_iload_n dX4_sit_135 rfl ?_
                refine V_iload dX4_sit_136 rfl ?_
                refine V_min dX4_sit_138 mlX4_116 sm_min iniJ9 cm_min (by omega) (Nat.le_of_ble_eq_true rfl) ?_
                refine V_iload dX4_sit_141 rfl ?_
                refine V_iload dX4_sit_143 rfl ?_
                refine V_max dX4_sit_145 mlX4_111 sm_max iniJ9 cm_max (by omega) (Nat.le_of_ble_eq_true rfl) ?_
                refine V_iload dX4_sit_148 rfl ?_
                refine V_aload_n dX4_sit_150 rfl ?_
                refine V_getr (b := 138) 4 2 dX4_sit_151 (Or.inl lkX4_16) rfl rfl ⟨by omega, by omega⟩ (hR _ _ _ rfl) ?_
                refine V_iload_n dX4_sit_154 rfl ?_
                refine V_aald (len := 6) (b := (139 + p)) 3 p dX4_sit_155 rfl rfl ⟨by omega, by omega⟩ hx (by omega) (hR _ _ _ (sSr (by omega)).2.2.2) ?_
                refine V_iload dX4_sit_156 rfl ?_
                refine V_iald (len := 6) c dX4_sit_158 (sSr (by omega)).2.1 ⟨by omega, by omega⟩ hc (by omega) ?_
                rw [up2_row (by omega), up2_row (by omega)]
                refine V_iadd dX4_sit_159 ?_
                refine V_callV (ci := 4) (ih (p + 1) _ _ _ _ _ _ (incH c hv) _ (lessB lf c) (setS s p c) (by omega) hsr2 hlf2 hst2 hbs2 (ix_add hx (by decide) (by omega)) hy2 hv2 hlo2 hhi2 hnv2 hsW2) dX4_sit_160 mlX4_67 mtX4_sit ivX4_sit rfl rfl ⟨by omega, by omega⟩ (by decide) rfl rfl (by omega) (Nat.le_of_ble_eq_true rfl) rfl rfl ?_
                rintro _ _ m9 _ ⟨rfl, rfl, rfl, ho9, hb9⟩
                refine V_aload_n dX4_sit_163 rfl ?_
                refine V_getr (b := 146) 4 4 dX4_sit_164 (Or.inl lkX4_23) rfl rfl ⟨by omega, by omega⟩ (hR _ _ _ rfl) ?_
                refine V_iload dX4_sit_167 rfl ?_
                refine V_dup2 dX4_sit_169 rfl rfl ?_
                refine V_iald (len := 6) c dX4_sit_170 rfl ⟨by omega, by omega⟩ hc (by omega) ?_
                refine V_iconst (v := 1) dX4_sit_171 rfl ?_
                refine V_iadd dX4_sit_172 ?_
                refine V_iast (len := 6) c dX4_sit_173 rfl ⟨by omega, by omega⟩ hc (by omega) ?_
                refine V_iinc (v := _ + (1)) (L' := [_, _, _, _, _, _, _, _, _]) dX4_sit_174 (by decide) rfl rfl rfl rfl ?_
                refine V_goto (tgt := 52) dX4_sit_177 (by decide) ?_
                have e146 : m9 146 c = mj 146 c - 1 := by
                  rw [ho9 146 c (by unfold offS; omega)]
                  simp only [up2]
                  rw [if_neg (by omega), if_pos ⟨trivial, trivial⟩]
                refine ih2 (c + 1) (up2 m9 146 c (m9 146 c + 1)) _ _ (by omega) (ix_add hc (by decide) (by omega)) (fun a k hk => ?_) ?_
                · by_cases e : a = 146 ∧ k = c
                  · have hk2 : mj 146 c = mi 146 c := hoj 146 c (by unfold offS; omega)
                    rw [e.1, e.2, up2_s, e146, hk2, Int32.sub_add_cancel]
                  · rw [show up2 m9 146 c (m9 146 c + 1) a k = m9 a k from if_neg e, ho9 a k (fun q => hk (by unfold offS at q ⊢; omega)), ← hoj a k hk]
                    simp only [up2]
                    unfold offS at hk
                    rw [if_neg (by omega), if_neg e]
                · rw [alts_snoc, fdB_app, Nat.zero_add, if_pos ⟨hM, hl0⟩]
                  exact hb9.eq (fun k hk => by simp only [up2]; rw [if_neg (by omega)]) (fun k => by simp only [up2]; rw [if_neg (by omega)])
              · have hc0 : c = 0 := (eq_nat hc (y := 0) (b := 0) rfl).mp c125
                have hy2 : y.toInt = (incH c hv : Int) := by unfold incH; rw [if_pos hc0]; exact hy
                have hv2 : incH c hv ≤ p + 1 := by unfold incH; rw [if_pos hc0]; omega
                refine V_iload_n dX4_sit_128 rfl ?_
                refine V_goto (tgt := 135) dX4_sit_129 (by decide) ?_
                refine V_iload_n dX4_sit_135 rfl ?_
                refine V_iload dX4_sit_136 rfl ?_
                refine V_min dX4_sit_138 mlX4_116 sm_min iniJ9 cm_min (by omega) (Nat.le_of_ble_eq_true rfl) ?_
                refine V_iload dX4_sit_141 rfl ?_
                refine V_iload dX4_sit_143 rfl ?_
                refine V_max dX4_sit_145 mlX4_111 sm_max iniJ9 cm_max (by omega) (Nat.le_of_ble_eq_true rfl) ?_
                refine V_iload dX4_sit_148 rfl ?_
                refine V_aload_n dX4_sit_150 rfl ?_
                refine V_getr (b := 138) 4 2 dX4_sit_151 (Or.inl lkX4_16) rfl rfl ⟨by omega, by omega⟩ (hR _ _ _ rfl) ?_
                refine V_iload_n dX4_sit_154 rfl ?_
                refine V_aald (len := 6) (b := (139 + p)) 3 p dX4_sit_155 rfl rfl ⟨by omega, by omega⟩ hx (by omega) (hR _ _ _ (sSr (by omega)).2.2.2) ?_
                refine V_iload dX4_sit_156 rfl ?_
                refine V_iald (len := 6) c dX4_sit_158 (sSr (by omega)).2.1 ⟨by omega, by omega⟩ hc (by omega) ?_
                rw [up2_row (by omega), up2_row (by omega)]
                refine V_iadd dX4_sit_159 ?_
                refine V_callV (ci := 4) (ih (p + 1) _ _ _ _ _ _ (incH c hv) _ (lessB lf c) (setS s p c) (by omega) hsr2 hlf2 hst2 hbs2 (ix_add hx (by decide) (by omega)) hy2 hv2 hlo2 hhi2 hnv2 hsW2) dX4_sit_160 mlX4_67 mtX4_sit ivX4_sit rfl rfl ⟨by omega, by omega⟩ (by decide) rfl rfl (by omega) (Nat.le_of_ble_eq_true rfl) rfl rfl ?_
                rintro _ _ m9 _ ⟨rfl, rfl, rfl, ho9, hb9⟩
                refine V_aload_n dX4_sit_163 rfl ?_
                refine V_getr (b := 146) 4 4 dX4_sit_164 (Or.inl lkX4_23) rfl rfl ⟨by omega, by omega⟩ (hR _ _ _ rfl) ?_
                refine V_iload dX4_sit_167 rfl ?_
                refine V_dup2 dX4_sit_169 rfl rfl ?_
                refine V_iald (len := 6) c dX4_sit_170 rfl ⟨by omega, by omega⟩ hc (by omega) ?_
                refine V_iconst (v := 1) dX4_sit_171 rfl ?_
                refine V_iadd dX4_sit_172 ?_
                refine V_iast (len := 6) c dX4_sit_173 rfl ⟨by omega, by omega⟩ hc (by omega) ?_
                refine V_iinc (v := _ + (1)) (L' := [_, _, _, _, _, _, _, _, _]) dX4_sit_174 (by decide) rfl rfl rfl rfl ?_
                refine V_goto (tgt := 52) dX4_sit_177 (by decide) ?_
                have e146 : m9 146 c = mj 146 c - 1 := by
                  rw [ho9 146 c (by unfold offS; omega)]
                  simp only [up2]
                  rw [if_neg (by omega), if_pos ⟨trivial, trivial⟩]
                refine ih2 (c + 1) (up2 m9 146 c (m9 146 c + 1)) _ _ (by omega) (ix_add hc (by decide) (by omega)) (fun a k hk => ?_) ?_
                · by_cases e : a = 146 ∧ k = c
                  · have hk2 : mj 146 c = mi 146 c := hoj 146 c (by unfold offS; omega)
                    rw [e.1, e.2, up2_s, e146, hk2, Int32.sub_add_cancel]
                  · rw [show up2 m9 146 c (m9 146 c + 1) a k = m9 a k from if_neg e, ho9 a k (fun q => hk (by unfold offS at q ⊢; omega)), ← hoj a k hk]
                    simp only [up2]
                    unfold offS at hk
                    rw [if_neg (by omega), if_neg e]
                · rw [alts_snoc, fdB_app, Nat.zero_add, if_pos ⟨hM, hl0⟩]
                  exact hb9.eq (fun k hk => by simp only [up2]; rw [if_neg (by omega)]) (fun k => by simp only [up2]; rw [if_neg (by omega)])
      exact loop (W + 1) 0 mi _ _ (by omega) rfl Off.rf hBS
    · refine V_ret dX4_sit_29 rfl ?_
      have hst : fdB st (lvs M (cCost sort N A B) W (m + 1) p lf s hv) = st := by
        have c26 := b01_0.mp c26
        cases st with
        | none =>
          exfalso
          obtain ⟨e1, e2, e3⟩ := hBS
          refine c26 (Or.inl ?_)
          rw [e2, Int32.lt_iff_toInt_lt, hz]
          have q := lb_small (sort := sort) hab hne (lo := loTo A s p) (hi := hiTo A s p) (nv := nvTo B s p) (m := (m + 1)) (p := p) (by omega) k2 k1 k3.1
          exact q
        | some b =>
          obtain ⟨e1, e2, e3, e4⟩ := hBS
          refine fdB_prune hlb (fun q => c26 ?_)
          rw [Int32.lt_iff_toInt_lt, Int32.lt_iff_toInt_lt, ← Int32.toInt_inj, hz, e2, e3, hiB]
          omega
      refine ⟨rfl, rfl, rfl, Off.rf, ?_⟩
      rw [hst]
      exact hBS
