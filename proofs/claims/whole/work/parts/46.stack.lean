/-- the class' bits out of the reference's truths -/
def enc (g : Nat → Int32) : Nat → Nat
  | 0 => 0
  | d + 1 => 2 * enc g d + (if g d = 0 then 0 else 1)
theorem enc_s {g : Nat → Int32} {d : Nat} : enc g (d + 1) = 2 * enc g d + (if g d = 0 then 0 else 1) := rfl
theorem enc_lt {g : Nat → Int32} : ∀ {d : Nat}, enc g d < 2 ^ d
  | 0 => Nat.lt_succ_self 0
  | d + 1 => by
    have q := enc_lt (g := g) (d := d)
    rw [Nat.pow_succ]
    unfold enc
    split <;> omega
theorem enc_lt30 {g : Nat → Int32} {d : Nat} (h : d ≤ 30) : enc g d < 2 ^ 30 := Nat.lt_of_lt_of_le enc_lt (Nat.pow_le_pow_right (by decide) h)
theorem enc_eq {g g' : Nat → Int32} : ∀ {d : Nat}, (∀ q, q < d → g' q = g q) → enc g' d = enc g d
  | 0, _ => rfl
  | d + 1, h => by
    unfold enc
    rw [h d (by omega), enc_eq (fun q hq => h q (by omega))]
theorem nI_bv {a : Nat} : (nI a).toBitVec = BitVec.ofNat 32 a := rfl
theorem or_nI {a b : Nat} : nI a ||| nI b = nI (a ||| b) := by
  rw [← Int32.toBitVec_inj, Int32.toBitVec_or, nI_bv, nI_bv, nI_bv, BitVec.ofNat_or]
theorem xor_nI {a b : Nat} : nI a ^^^ nI b = nI (a ^^^ b) := by
  rw [← Int32.toBitVec_inj, Int32.toBitVec_xor, nI_bv, nI_bv, nI_bv, BitVec.ofNat_xor]
theorem or_2 {n b : Nat} (hb : b < 2) : 2 * n ||| b = 2 * n + b := (Nat.two_pow_add_eq_or_of_lt (i := 1) (b := b) hb n).symm
theorem xor_2 {n b : Nat} (hb : b < 2) : (2 * n + b) ^^^ 1 = 2 * n + (1 - b) := by
  refine Nat.eq_of_testBit_eq (fun i => ?_)
  have e : b = 0 ∨ b = 1 := by omega
  cases i with
  | zero =>
    rw [Nat.testBit_xor, Nat.testBit_zero, Nat.testBit_zero, Nat.testBit_zero]
    rcases e with rfl | rfl
    · rw [show (2 * n + 0) % 2 = 0 by omega, show (2 * n + (1 - 0)) % 2 = 1 by omega]
      rfl
    · rw [show (2 * n + 1) % 2 = 1 by omega, show (2 * n + (1 - 1)) % 2 = 0 by omega]
      rfl
  | succ i =>
    rw [Nat.testBit_xor, Nat.testBit_succ, Nat.testBit_succ, Nat.testBit_succ, show (2 * n + b) / 2 = n by omega, show (2 * n + (1 - b)) / 2 = n by omega]
    simp
theorem and_m2 {x : Int32} : x &&& (-1) = x := by
  rw [← Int32.toBitVec_inj, Int32.toBitVec_and, show (-1 : Int32).toBitVec = BitVec.allOnes 32 by decide, BitVec.and_allOnes]
theorem and_m2b {n b : Nat} (hb : b < 2) : nI (2 * n + b) &&& (-2) = nI (2 * n) := by
  rw [← or_2 hb, ← or_nI, ← Int32.toBitVec_inj, Int32.toBitVec_and, Int32.toBitVec_or, nI_bv, nI_bv]
  have e : b = 0 ∨ b = 1 := by omega
  have h1 : (BitVec.ofNat 32 b) &&& (-2 : Int32).toBitVec = 0#32 := by rcases e with rfl | rfl <;> decide
  have h2 : (BitVec.ofNat 32 (2 * n)) &&& (-2 : Int32).toBitVec = BitVec.ofNat 32 (2 * n) := by
    have h3 : BitVec.ofNat 32 (2 * n) = BitVec.ofNat 32 n <<< 1 := by
      refine BitVec.eq_of_toNat_eq ?_
      rw [BitVec.toNat_shiftLeft, BitVec.toNat_ofNat, BitVec.toNat_ofNat, Nat.shiftLeft_eq, Nat.mod_mul_mod, Nat.mul_comm]
    have h4 : (-2 : Int32).toBitVec = BitVec.allOnes 32 <<< 1 := by decide
    rw [h3, h4, ← BitVec.shiftLeft_and_distrib, BitVec.and_allOnes]
  rw [BitVec.and_or_distrib_right, h1, h2, BitVec.or_zero]
theorem shl_1 {n : Nat} (h : n < 2 ^ 30) : nI n <<< (1 &&& 31) = nI (2 * n) := by
  rw [pk_shlN (1 &&& 31) 1 (by decide) (by omega), Nat.mul_comm]
theorem shr_1 {n : Nat} (h : n < 2 ^ 31) : nI n >>> (1 &&& 31) = nI (n / 2) := pk_shrN h (1 &&& 31) 1 (by decide)
theorem low_1 {n : Nat} (h : n < 2 ^ 32) : nI n &&& 1 = nI (n % 2) := pk_andN h 1 (by decide)
theorem or_b0 {n : Nat} : nI (2 * n) ||| 0 = nI (2 * n + 0) := by
  rw [show (0 : Int32) = nI 0 from rfl, or_nI, or_2 (by decide)]
theorem or_b1 {n : Nat} : nI (2 * n) ||| 1 = nI (2 * n + 1) := by
  rw [show (1 : Int32) = nI 1 from rfl, or_nI, or_2 (by decide)]
theorem one_ne : ¬ (1 : Int32) = 0 := by decide
theorem stk_push {f g g' : Nat → Int32} {c : Int32} {q d : Nat} (hc : c.toInt = (q : Int)) (hd : d < 30) (h1 : ∀ j, j < d → g' j = g j) (h2 : g' d = vPassB f c) : stk1 f c (nI (enc g d)) = nI (enc g' (d + 1)) := by
  rw [stk1_p hc, shl_1 (enc_lt30 (by omega)), ← h2, enc_s, enc_eq h1]
  have e : g' d = 0 ∨ g' d = 1 := by
    rw [h2]
    unfold vPassB
    split
    · exact Or.inr rfl
    · exact Or.inl rfl
  rcases e with e | e
  · rw [e, if_pos rfl]
    exact or_b0
  · rw [e, if_neg one_ne]
    exact or_b1
theorem stk_not {f g g' : Nat → Int32} {c : Int32} {d : Nat} (hc : c = -1) (h1 : ∀ j, j < d → g' j = g j) (h2 : g' d = if g d = 0 then 1 else 0) : stk1 f c (nI (enc g (d + 1))) = nI (enc g' (d + 1)) := by
  rw [stk1_m1 hc, enc_s (g := g), enc_s (g := g'), enc_eq h1]
  have x9 : ∀ z : Nat, nI z ^^^ 1 = nI (z ^^^ 1) := fun z => xor_nI (a := z) (b := 1)
  rw [x9]
  by_cases e : g d = 0
  · rw [if_pos e] at h2
    rw [if_pos e, h2, if_neg one_ne, xor_2 (by decide)]
  · rw [if_neg e] at h2
    rw [if_neg e, h2, if_pos rfl, xor_2 (by decide)]
theorem enc_halves {g : Nat → Int32} {d : Nat} : enc g (d + 2) / 2 = enc g (d + 1) ∧ enc g (d + 2) % 2 = if g (d + 1) = 0 then 0 else 1 := by
  rw [show enc g (d + 2) = 2 * enc g (d + 1) + (if g (d + 1) = 0 then 0 else 1) from rfl]
  by_cases b : g (d + 1) = 0
  · rw [if_pos b]
    omega
  · rw [if_neg b]
    omega
theorem stk_and {f g g' : Nat → Int32} {c : Int32} {d : Nat} (hc : c = -2) (hd : d + 2 ≤ 30) (h1 : ∀ j, j < d → g' j = g j) (h2 : g' d = if ¬ g d = 0 ∧ ¬ g (d + 1) = 0 then 1 else 0) : stk1 f c (nI (enc g (d + 2))) = nI (enc g' (d + 1)) := by
  have hl := enc_lt30 (g := g) (d := d + 2) hd
  rw [stk1_m2 hc, shr_1 (by omega), low_1 (by omega), enc_halves.1, enc_halves.2, enc_s (g := g), enc_s (g := g'), enc_eq h1]
  have z0 : (-2 : Int32) ||| nI 0 = -2 := by decide
  have z1 : (-2 : Int32) ||| nI 1 = -1 := by decide
  by_cases a : g d = 0
  · rw [if_neg (fun h => h.1 a)] at h2
    rw [if_pos a, h2, if_pos rfl]
    by_cases b : g (d + 1) = 0
    · rw [if_pos b, z0, and_m2b (by decide)]
      rfl
    · rw [if_neg b, z1, and_m2]
  · rw [if_neg a]
    by_cases b : g (d + 1) = 0
    · rw [if_neg (fun h => h.2 b)] at h2
      rw [h2, if_pos rfl, if_pos b, z0, and_m2b (by decide)]
      rfl
    · rw [if_pos ⟨a, b⟩] at h2
      rw [h2, if_neg one_ne, if_neg b, z1, and_m2]
theorem stk_or {f g g' : Nat → Int32} {c : Int32} {d : Nat} (hc : c = -3) (hd : d + 2 ≤ 30) (h1 : ∀ j, j < d → g' j = g j) (h2 : g' d = if ¬ g d = 0 ∨ ¬ g (d + 1) = 0 then 1 else 0) : stk1 f c (nI (enc g (d + 2))) = nI (enc g' (d + 1)) := by
  have hl := enc_lt30 (g := g) (d := d + 2) hd
  rw [stk1_m3 hc, shr_1 (by omega), low_1 (by omega), enc_halves.1, enc_halves.2, or_nI, enc_s (g := g), enc_s (g := g'), enc_eq h1]
  by_cases b : g (d + 1) = 0
  · rw [if_pos b, Nat.or_zero]
    by_cases a : g d = 0
    · rw [if_neg (fun h => h.elim (fun q => q a) (fun q => q b))] at h2
      rw [if_pos a, h2, if_pos rfl]
    · rw [if_pos (Or.inl a)] at h2
      rw [if_neg a, h2, if_neg one_ne]
  · rw [if_pos (Or.inr b)] at h2
    rw [if_neg b, h2, if_neg one_ne]
    by_cases a : g d = 0
    · rw [if_pos a, Nat.add_zero, or_2 (by decide)]
    · rw [if_neg a, ← or_2 (b := 1) (by decide), Nat.or_assoc, Nat.or_self]
theorem vPass_q {f : Nat → Int32} {c : Int32} {q : Nat} (h : c.toInt = (q : Int)) (hq : q < 1800) : vPass f c ↔ (if nI (q / 100 % 3) = 0 then f (q / 300) < nI (q % 100) else if nI (q / 100 % 3) = 1 then f (q / 300) = nI (q % 100) else nI (q % 100) < f (q / 300)) := by
  have e1 : c / 100 = nI (q / 100) := by rw [nI_of_toInt h, show (100 : Int32) = nI 100 from rfl, pk_div (by omega) (by decide) (by decide)]
  have e2 : c / 100 - c / 100 / 3 * 3 = nI (q / 100 % 3) := by rw [e1, show (3 : Int32) = nI 3 from rfl, pk_rem (by omega) (by decide) (by decide)]
  have e3 : c - c / 100 * 100 = nI (q % 100) := by rw [nI_of_toInt h, show (100 : Int32) = nI 100 from rfl, pk_rem (by omega) (by decide) (by decide)]
  have e4 : (c / 300).toInt.toNat = q / 300 := by
    rw [nI_of_toInt h, show (300 : Int32) = nI 300 from rfl, pk_div (by omega) (by decide) (by decide), nI_toInt (by omega)]
    omega
  unfold vPass
  rw [e2, e3, e4]
noncomputable def mSum (f s nv : Nat → Int32) (e : Nat → Nat) : Nat → Int32
  | 0 => 0
  | k + 1 => if vHolds f s (vFrom e k) (e k) = 0 then mSum f s nv e k else mSum f s nv e k + nv k
theorem mSum_v {f s nv : Nat → Int32} {e : Nat → Nat} : ∀ {k : Nat}, vSum f s nv e k = 10 + mSum f s nv e k
  | 0 => rfl
  | k + 1 => by
    unfold vSum mSum
    split
    · exact mSum_v
    · rw [mSum_v, Int32.add_assoc]
/-- the village that holds in the row S: clauses, where they end, steps, what they tell; b: where its steps begin -/
def MV (S : Nat → Int32) (nc : Nat) (e : Nat → Nat) (s nv : Nat → Int32) (b : Nat) : Prop :=
  nat (sTells S 233 0) (vFrom e nc + nc) ∧ nat (238 + 140 * S 18) b ∧ b ≤ 798 ∧ nc ≤ 10 ∧
  ∀ k, k < nc → vFrom e k ≤ e k ∧ e k ≤ 100 ∧ (∀ j, j < e k → okStep (s j)) ∧ (∀ j, vFrom e k ≤ j → j < e k → S (b + (j + k)) = tokM (s j)) ∧ markOK (S (b + (e k + k))) (nv k) ∧ depTo s (vFrom e k) (e k - vFrom e k) 0 = some 1
theorem INV.mv {n : Nat} {mi : MI} {mr : MR} {c : CT} (I : INV n mi mr c) : ∃ (nc : Nat) (e : Nat → Nat) (b : Nat), VOK mi (hvOf (mi 174)) nc e ∧ MV (mi 174) nc e (mi (hvOf (mi 174) + 1)) (mi (hvOf (mi 174) + 2)) b := by
  obtain ⟨-, -, hB, ⟨-, -, hvr, -⟩, h0, -⟩ := I
  unfold hvOf
  by_cases e : mi 174 18 = -1
  · rw [if_pos e]
    refine ⟨0, fun _ => 0, 98, ⟨h0.1.1, by decide, fun k hk => absurd hk (by omega), fun k hk => absurd hk (by omega)⟩, ?_, ?_, by decide, by decide, fun k hk => absurd hk (by omega)⟩
    · unfold sTells
      rw [if_pos e]
      rfl
    · rw [e]
      exact (show (238 + 140 * (-1 : Int32)).toInt = ((98 : Nat) : Int) by decide)
  · rw [if_neg e]
    obtain ⟨h, h1, h2⟩ := hB.2.2.1.resolve_left e
    have h5 := hB.lim.2
    obtain ⟨nc, es, k1, k2, k3, k4, k5⟩ := hvr h h2
    rw [nat_of_toInt h1]
    refine ⟨nc, es, 238 + 140 * h, k1, ?_, ?_, by omega, k1.2.1, fun k hk => ⟨k1.2.2.2 k hk, (k1.2.2.1 k hk).2.1, (k1.2.2.1 k hk).2.2, (k5 k hk).1, (k5 k hk).2.1, (k5 k hk).2.2⟩⟩
    · unfold sTells
      rw [if_neg e, nat_of_toInt h1]
      exact k4
    · exact ix_add (a := 238) (b := 140 * h) rfl (ix_mul (a := 140) rfl h1 (by omega)) (by omega)
theorem mark_sum {st v sm : Int32} (h : markOK st v) : st < 0 ∧ ¬ st = -1 ∧ st ≤ -10 ∧ (¬ st ≤ -200 → sm + (-10 - st) - 0 = sm + v) ∧ (st ≤ -200 → sm + 0 - (-200 - st) = sm + v) := by
  rcases h with ⟨q, h1, h2, h3⟩ | ⟨q, h1, h2, h3⟩
  · refine ⟨?_, ?_, ?_, fun _ => ?_, fun h => ?_⟩
    · rw [Int32.lt_iff_toInt_lt, h2]; simp only [Int32.reduceToInt]; omega
    · rw [← Int32.toInt_inj, h2]; simp only [Int32.reduceToInt]; omega
    · rw [Int32.le_iff_toInt_le, h2]; simp only [Int32.reduceToInt]; omega
    · have e : -10 - st = v := by
        rw [← Int32.toInt_inj, Int32.toInt_sub, h2, h3]
        rw [bmod_id (by simp only [Int32.reduceToInt]; omega) (by simp only [Int32.reduceToInt]; omega)]
        simp only [Int32.reduceToInt]
        omega
      rw [e, Int32.sub_zero]
    · rw [Int32.le_iff_toInt_le, h2] at h
      simp only [Int32.reduceToInt] at h
      omega
  · refine ⟨?_, ?_, ?_, fun h => ?_, fun _ => ?_⟩
    · rw [Int32.lt_iff_toInt_lt, h2]; simp only [Int32.reduceToInt]; omega
    · rw [← Int32.toInt_inj, h2]; simp only [Int32.reduceToInt]; omega
    · rw [Int32.le_iff_toInt_le, h2]; simp only [Int32.reduceToInt]; omega
    · rw [Int32.le_iff_toInt_le, h2] at h
      simp only [Int32.reduceToInt] at h
      omega
    · have e : -200 - st = -v := by
        have e1 : (-v).toInt = (q : Int) := by
          rw [Int32.toInt_neg, h3, bmod_id (by omega) (by omega)]
          omega
        rw [← Int32.toInt_inj, Int32.toInt_sub, h2, e1]
        rw [bmod_id (by simp only [Int32.reduceToInt]; omega) (by simp only [Int32.reduceToInt]; omega)]
        simp only [Int32.reduceToInt]
        omega
      rw [e, Int32.add_zero, Int32.sub_eq_add_neg, Int32.neg_neg]
theorem tok_q {c : Int32} {q : Nat} (h : c.toInt = (q : Int)) (hq : q < 1800) : tokM c = nI (q / 300 + 8 * (q / 100 % 3) + 32 * (q % 100)) := by
  have h1 : ¬ (c = -1 ∨ c = -2 ∨ c = -3) := by
    simp only [← Int32.toInt_inj, h, Int32.reduceToInt]
    omega
  unfold tokM
  rw [if_neg h1, nat_of_toInt h]
theorem dep_not {s : Nat → Int32} {j m d r : Nat} (h : depTo s j (m + 1) d = some r) (hs : s j = -1) : 0 < d ∧ depTo s (j + 1) m d = some r := by
  unfold depTo at h
  rw [if_pos hs] at h
  split at h
  · exact absurd h (by simp)
  · exact ⟨by omega, h⟩
theorem dep_two {s : Nat → Int32} {j m d r : Nat} (h : depTo s j (m + 1) d = some r) (h1 : ¬ s j = -1) (hs : s j = -2 ∨ s j = -3) : 2 ≤ d ∧ depTo s (j + 1) m (d - 1) = some r := by
  unfold depTo at h
  rw [if_neg h1, if_pos hs] at h
  split at h
  · exact absurd h (by simp)
  · exact ⟨by omega, h⟩
theorem dep_push {s : Nat → Int32} {j m d r q : Nat} (h : depTo s j (m + 1) d = some r) (hs : (s j).toInt = (q : Int)) : d < 30 ∧ depTo s (j + 1) m (d + 1) = some r := by
  have h1 : ¬ s j = -1 := by
    simp only [← Int32.toInt_inj, hs, Int32.reduceToInt]
    omega
  have h2 : ¬ (s j = -2 ∨ s j = -3) := by
    simp only [← Int32.toInt_inj, hs, Int32.reduceToInt]
    omega
  unfold depTo at h
  rw [if_neg h1, if_neg h2] at h
  split at h
  · exact absurd h (by simp)
  · exact ⟨by omega, h⟩
def byM : Nat → Nat → Prop := fun a _ => a = 177 ∨ a = 178
theorem byM_scr {mi mi' : MI} (h : Off byM mi mi') : Off scrM mi mi' := h.mono (fun a k q => by unfold byM at q; unfold scrM; omega)
