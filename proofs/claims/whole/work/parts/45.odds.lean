theorem bmod_id64 {z : Int} (h1 : -9223372036854775808 ≤ z) (h2 : z < 9223372036854775808) : z.bmod (2 ^ 64) = z := by
  rw [Int.bmod_def]
  split <;> omega
theorem l_eq {x : Int64} {z : Int} (h : x.toInt = z) : x = Int64.ofInt z := by
  rw [← h]
  exact (Int64.ofInt_toInt x).symm
theorem l_of {x : Int32} {k : Nat} (h : x.toInt = (k : Int)) : x.toInt64.toInt = (k : Int) := by
  rw [Int32.toInt_toInt64, h]
theorem l_add {x y : Int64} {a b : Nat} (hx : x.toInt = (a : Int)) (hy : y.toInt = (b : Int)) (h : a + b < 2147483648) : (x + y).toInt = ((a + b : Nat) : Int) := by
  rw [Int64.toInt_add, hx, hy, bmod_id64 (by omega) (by omega)]
  omega
theorem l_div {x y : Int64} {a b : Nat} (hx : x.toInt = (a : Int)) (hy : y.toInt = (b : Int)) (hb : 0 < b) : (x / y).toInt = ((a / b : Nat) : Int) := by
  have hne : y ≠ -1 := fun e => by
    rw [e] at hy
    have q : (-1 : Int64).toInt = -1 := by decide
    omega
  rw [Int64.toInt_div_of_ne_right x y hne, hx, hy]
  exact (Int.ofNat_tdiv a b).symm
theorem l_rem {x y : Int64} {a b : Nat} (hx : x.toInt = (a : Int)) (hy : y.toInt = (b : Int)) (hb : 0 < b) (ha : a < 2147483648) : (x - x / y * y).toInt = ((a % b : Nat) : Int) := by
  have e1 := l_div hx hy hb
  have e2 : ((a / b : Nat) : Int) * (b : Int) = ((a / b * b : Nat) : Int) := (Int.natCast_mul _ _).symm
  have e3 := Nat.div_add_mod a b
  rw [Nat.mul_comm] at e3
  have e4 : ((a / b * b : Nat) : Int).bmod (2 ^ 64) = ((a / b * b : Nat) : Int) := bmod_id64 (by omega) (by omega)
  rw [Int64.toInt_sub, Int64.toInt_mul, e1, hx, hy, e2, e4, bmod_id64 (by omega) (by omega)]
  omega
theorem l_cmp0 {x : Int64} {a : Nat} (hx : x.toInt = (a : Int)) : lg_cmp x 0 = 0 ↔ a = 0 := by
  have z : (0 : Int64).toInt = 0 := by decide
  unfold lg_cmp
  constructor
  · intro h
    by_cases e : x = 0
    · rw [e] at hx
      omega
    · rw [if_neg e] at h
      split at h
      · exact absurd h (by decide)
      · exact absurd h (by decide)
  · intro h
    have e : x = 0 := Int64.toInt_inj.mp (by rw [hx, h, z]; rfl)
    rw [if_pos e, if_neg]
    intro q
    have q2 : (0 : Int64) < x := q
    rw [Int64.lt_iff_toInt_lt, hx, h, z] at q2
    omega
theorem l_ne0 {x : Int64} {a : Nat} (hx : x.toInt = (a : Int)) (ha : 0 < a) : ¬ x = 0 := fun e => by
  have z : (0 : Int64).toInt = 0 := by decide
  rw [e] at hx
  omega
theorem i_ne0 {x : Int32} {a : Nat} (hx : x.toInt = (a : Int)) (ha : 0 < a) : ¬ x = 0 := fun e => by
  rw [e] at hx
  simp only [Int32.reduceToInt] at hx
  omega
theorem i_rem {x y : Int32} {a d : Nat} (hx : x.toInt = (a : Int)) (hy : y.toInt = (d : Int)) (hd : 0 < d) : (x - x / y * y).toInt = ((a % d : Nat) : Int) := by
  have := y.toInt_lt
  rw [nI_of_toInt hy]
  exact ix_rem hx hd (by omega)
theorem i_div {x y : Int32} {a d : Nat} (hx : x.toInt = (a : Int)) (hy : y.toInt = (d : Int)) (hd : 0 < d) : (x / y).toInt = ((a / d : Nat) : Int) := by
  have := y.toInt_lt
  rw [nI_of_toInt hy]
  exact divN hx hd (by omega)
theorem gcd_step {u v : Nat} : Nat.gcd v (u % v) = Nat.gcd u v := by
  rw [Nat.gcd_comm v, ← Nat.gcd_rec, Nat.gcd_comm]
theorem euc {u v m : Nat} (hv : 0 < v) (h1 : v ≤ u → u * v < 2 ^ (m + 1)) (h2 : u < v → 2 * (u * v) < 2 ^ (m + 1)) : (u % v ≤ v → v * (u % v) < 2 ^ m) ∧ (v < u % v → 2 * (v * (u % v)) < 2 ^ m) := by
  have r := Nat.mod_lt u hv
  refine ⟨fun _ => ?_, fun h => absurd h (by omega)⟩
  rw [Nat.pow_succ] at h1 h2
  by_cases q : v ≤ u
  · have e := Nat.div_add_mod u v
    have d1 : 1 ≤ u / v := Nat.div_pos q hv
    have d2 : v * 1 ≤ v * (u / v) := Nat.mul_le_mul_left v d1
    have d3 : 2 * (u % v) ≤ u := by omega
    have d4 : v * (2 * (u % v)) ≤ v * u := Nat.mul_le_mul_left v d3
    rw [Nat.mul_comm v u, Nat.mul_left_comm] at d4
    have := h1 q
    omega
  · have e : u % v = u := Nat.mod_eq_of_lt (by omega)
    rw [e, Nat.mul_comm v u]
    have := h2 (by omega)
    omega
theorem euc_end {u v : Nat} (hu : 0 < u) (h1 : v ≤ u → u * v < 2 ^ 0) (h2 : u < v → 2 * (u * v) < 2 ^ 0) : v = 0 := by
  by_cases q : v ≤ u
  · have := h1 q
    rcases Nat.eq_zero_or_pos v with h | h
    · exact h
    · have := Nat.mul_pos hu h
      omega
  · have := h2 (by omega)
    have := Nat.mul_pos hu (show 0 < v by omega)
    omega
/-- a part of a fraction in lowest terms, or that there is none -/
def sFrac (up low : Nat) (part : Int32) : Int64 := if 0 < low ∧ (part = 0 ∨ part = 1) then Int64.ofInt (((if part = 0 then up else low) / Nat.gcd up low : Nat) : Int) else -9223372036854775808
set_option maxRecDepth 4000 in
theorem qX7_partOfFraction (n : Nat) (mi : MI) (mr : MR) (x y q : Int32) (a b : Nat) (hx : x.toInt = (a : Int)) (hy : y.toInt = (b : Int)) (hab : a < 1000 ∧ b < 1000)  : Ct KX7_partOfFraction 1 0 0 [.int x, .int y, .int q] n mi mr (eqQ (some (.long (sFrac a b q))) n mi mr) := by
  refine Ct.of2 [some (.int x), some (.int y), some (.int q), none, none, none, none] (by decide +kernel) (Nat.le_of_ble_eq_true rfl) rfl ?_
  refine V_iload_n dX7_partOfFraction_0 rfl ?_
  refine V_if_le (tgt := 13) dX7_partOfFraction_1 (by decide) (fun c1 => ?_) (fun c1 => ?_)
  · refine V_ldc2 dX7_partOfFraction_13 kX7_210 ?_
    refine V_lret dX7_partOfFraction_16 rfl ?_
    refine ⟨?_, rfl, rfl, rfl⟩
    unfold sFrac
    rw [if_neg]
    rintro ⟨h1, h2⟩
    first
      | (rw [Int32.le_iff_toInt_le, hy] at c1; simp only [Int32.reduceToInt] at c1; omega)
      | (rcases h2 with h2 | h2 <;> rw [h2] at c5 <;> exact absurd c5 (by decide))
      | (rcases h2 with h2 | h2 <;> rw [h2] at c10 <;> exact c10 (by decide))
  · refine V_iload_n dX7_partOfFraction_4 rfl ?_
    refine V_if_lt (tgt := 13) dX7_partOfFraction_5 (by decide) (fun c5 => ?_) (fun c5 => ?_)
    · refine V_ldc2 dX7_partOfFraction_13 kX7_210 ?_
      refine V_lret dX7_partOfFraction_16 rfl ?_
      refine ⟨?_, rfl, rfl, rfl⟩
      unfold sFrac
      rw [if_neg]
      rintro ⟨h1, h2⟩
      first
        | (rw [Int32.le_iff_toInt_le, hy] at c1; simp only [Int32.reduceToInt] at c1; omega)
        | (rcases h2 with h2 | h2 <;> rw [h2] at c5 <;> exact absurd c5 (by decide))
        | (rcases h2 with h2 | h2 <;> rw [h2] at c10 <;> exact c10 (by decide))
    · refine V_iload_n dX7_partOfFraction_8 rfl ?_
      refine V_iconst (v := 1) dX7_partOfFraction_9 rfl ?_
      refine V_icmp_le (tgt := 17) dX7_partOfFraction_10 (by decide) (fun c10 => ?_) (fun c10 => ?_)
      · have hb9 : 0 < b := by
          rw [Int32.not_le, Int32.lt_iff_toInt_lt, hy] at c1
          simp only [Int32.reduceToInt] at c1
          omega
        have hq9 : q = 0 ∨ q = 1 := by
          rw [← zero_one]
          exact ⟨Int32.not_lt.mp c5, c10⟩
        refine V_iload_n dX7_partOfFraction_17 rfl ?_
        refine V_istore_n (L' := [_, _, _, _, _, _, _]) dX7_partOfFraction_18 (by decide) rfl rfl ?_
        refine V_iload_n dX7_partOfFraction_19 rfl ?_
        refine V_istore (L' := [_, _, _, _, _, _, _]) dX7_partOfFraction_20 (by decide) rfl rfl ?_
        refine V_iconst (v := 0) dX7_partOfFraction_22 rfl ?_
        refine V_istore (L' := [_, _, _, _, _, _, _]) dX7_partOfFraction_23 (by decide) rfl rfl ?_
        have loop : ∀ (m i : Nat) (u0 v0 s : Int32) (u v : Nat) (z : Option Value), i + m = 64 → s.toInt = (i : Int) → u0.toInt = (u : Int) → v0.toInt = (v : Int) → 0 < u → u < 1000 ∧ v < 1000 → Nat.gcd u v = Nat.gcd a b → (v ≤ u → u * v < 2 ^ m) → (u < v → 2 * (u * v) < 2 ^ m) → V KX7_partOfFraction 1 0 0 (eqQ (some (.long (sFrac a b q))) n mi mr) 25 [some (.int x), some (.int y), some (.int q), some (.int u0), some (.int v0), some (.int s), z] [] n mi mr := by
          intro m
          induction m with
          | zero =>
            intro i u0 v0 s u v z him hs hu hv hu1 huv hg h1 h2
            refine V_iload dX7_partOfFraction_25 rfl ?_
            refine V_bipush (v := 64) dX7_partOfFraction_27 rfl ?_
            refine V_icmp_ge (tgt := 56) dX7_partOfFraction_29 (by decide) (fun c29 => ?_) (fun c29 => absurd ((le_nat (x := 64) (a := 64) rfl hs).mpr (by omega)) c29)
            have hv9 : v = 0 := euc_end hu1 h1 h2
            refine V_iload_n dX7_partOfFraction_56 rfl ?_
            refine V_if_ne (tgt := 64) dX7_partOfFraction_57 (by decide) (fun c57 => ?_) (fun c57 => ?_)
            · refine V_iload_n dX7_partOfFraction_64 rfl ?_
              refine V_iload_n dX7_partOfFraction_65 rfl ?_
              refine V_if_le (tgt := 73) dX7_partOfFraction_66 (by decide) (fun c66 => absurd c66 (by rw [Int32.le_iff_toInt_le, hu]; simp only [Int32.reduceToInt]; omega)) (fun c66 => ?_)
              refine V_iload_n dX7_partOfFraction_69 rfl ?_
              refine V_goto (tgt := 74) dX7_partOfFraction_70 (by decide) ?_
              refine V_idiv dX7_partOfFraction_74 (i_ne0 hu hu1) ?_
              refine V_i2l dX7_partOfFraction_75 ?_
              refine V_lret dX7_partOfFraction_76 rfl ?_
              refine ⟨?_, rfl, rfl, rfl⟩
              have hg9 : u = Nat.gcd a b := by rw [← hg, hv9, Nat.gcd_zero_right]
              unfold sFrac
              rw [if_pos (And.intro hb9 hq9)]
              refine congrArg (fun z => some (Value.long z)) (l_eq ?_).symm
              first
                | (rw [if_pos c57, ← hg9]; exact l_of (i_div hx hu hu1))
                | (rw [if_neg c57, ← hg9]; exact l_of (i_div hy hu hu1))
            · refine V_iload_n dX7_partOfFraction_60 rfl ?_
              refine V_goto (tgt := 65) dX7_partOfFraction_61 (by decide) ?_
              refine V_iload_n dX7_partOfFraction_65 rfl ?_
              refine V_if_le (tgt := 73) dX7_partOfFraction_66 (by decide) (fun c66 => absurd c66 (by rw [Int32.le_iff_toInt_le, hu]; simp only [Int32.reduceToInt]; omega)) (fun c66 => ?_)
              refine V_iload_n dX7_partOfFraction_69 rfl ?_
              refine V_goto (tgt := 74) dX7_partOfFraction_70 (by decide) ?_
              refine V_idiv dX7_partOfFraction_74 (i_ne0 hu hu1) ?_
              refine V_i2l dX7_partOfFraction_75 ?_
              refine V_lret dX7_partOfFraction_76 rfl ?_
              refine ⟨?_, rfl, rfl, rfl⟩
              have hg9 : u = Nat.gcd a b := by rw [← hg, hv9, Nat.gcd_zero_right]
              unfold sFrac
              rw [if_pos (And.intro hb9 hq9)]
              refine congrArg (fun z => some (Value.long z)) (l_eq ?_).symm
              first
                | (rw [if_pos c57, ← hg9]; exact l_of (i_div hx hu hu1))
                | (rw [if_neg c57, ← hg9]; exact l_of (i_div hy hu hu1))
          | succ m ih =>
            intro i u0 v0 s u v z him hs hu hv hu1 huv hg h1 h2
            refine V_iload dX7_partOfFraction_25 rfl ?_
            refine V_bipush (v := 64) dX7_partOfFraction_27 rfl ?_
            refine V_icmp_ge (tgt := 56) dX7_partOfFraction_29 (by decide) (fun c29 => absurd ((le_nat (x := 64) (a := 64) rfl hs).mp c29) (by omega)) (fun c29 => ?_)
            refine V_iload dX7_partOfFraction_32 rfl ?_
            refine V_if_le (tgt := 56) dX7_partOfFraction_34 (by decide) (fun c34 => ?_) (fun c34 => ?_)
            · have hv9 : v = 0 := by
                rw [Int32.le_iff_toInt_le, hv] at c34
                simp only [Int32.reduceToInt] at c34
                omega
              refine V_iload_n dX7_partOfFraction_56 rfl ?_
              refine V_if_ne (tgt := 64) dX7_partOfFraction_57 (by decide) (fun c57 => ?_) (fun c57 => ?_)
              · refine V_iload_n dX7_partOfFraction_64 rfl ?_
                refine V_iload_n dX7_partOfFraction_65 rfl ?_
                refine V_if_le (tgt := 73) dX7_partOfFraction_66 (by decide) (fun c66 => absurd c66 (by rw [Int32.le_iff_toInt_le, hu]; simp only [Int32.reduceToInt]; omega)) (fun c66 => ?_)
                refine V_iload_n dX7_partOfFraction_69 rfl ?_
                refine V_goto (tgt := 74) dX7_partOfFraction_70 (by decide) ?_
                refine V_idiv dX7_partOfFraction_74 (i_ne0 hu hu1) ?_
                refine V_i2l dX7_partOfFraction_75 ?_
                refine V_lret dX7_partOfFraction_76 rfl ?_
                refine ⟨?_, rfl, rfl, rfl⟩
                have hg9 : u = Nat.gcd a b := by rw [← hg, hv9, Nat.gcd_zero_right]
                unfold sFrac
                rw [if_pos (And.intro hb9 hq9)]
                refine congrArg (fun z => some (Value.long z)) (l_eq ?_).symm
                first
                  | (rw [if_pos c57, ← hg9]; exact l_of (i_div hx hu hu1))
                  | (rw [if_neg c57, ← hg9]; exact l_of (i_div hy hu hu1))
              · refine V_iload_n dX7_partOfFraction_60 rfl ?_
                refine V_goto (tgt := 65) dX7_partOfFraction_61 (by decide) ?_
                refine V_iload_n dX7_partOfFraction_65 rfl ?_
                refine V_if_le (tgt := 73) dX7_partOfFraction_66 (by decide) (fun c66 => absurd c66 (by rw [Int32.le_iff_toInt_le, hu]; simp only [Int32.reduceToInt]; omega)) (fun c66 => ?_)
                refine V_iload_n dX7_partOfFraction_69 rfl ?_
                refine V_goto (tgt := 74) dX7_partOfFraction_70 (by decide) ?_
                refine V_idiv dX7_partOfFraction_74 (i_ne0 hu hu1) ?_
                refine V_i2l dX7_partOfFraction_75 ?_
                refine V_lret dX7_partOfFraction_76 rfl ?_
                refine ⟨?_, rfl, rfl, rfl⟩
                have hg9 : u = Nat.gcd a b := by rw [← hg, hv9, Nat.gcd_zero_right]
                unfold sFrac
                rw [if_pos (And.intro hb9 hq9)]
                refine congrArg (fun z => some (Value.long z)) (l_eq ?_).symm
                first
                  | (rw [if_pos c57, ← hg9]; exact l_of (i_div hx hu hu1))
                  | (rw [if_neg c57, ← hg9]; exact l_of (i_div hy hu hu1))
            · have hv9 : 0 < v := by
                rw [Int32.not_le, Int32.lt_iff_toInt_lt, hv] at c34
                simp only [Int32.reduceToInt] at c34
                omega
              refine V_iload_n dX7_partOfFraction_37 rfl ?_
              refine V_iload dX7_partOfFraction_38 rfl ?_
              refine V_irem dX7_partOfFraction_40 (i_ne0 hv hv9) ?_
              refine V_istore (L' := [_, _, _, _, _, _, _]) dX7_partOfFraction_41 (by decide) rfl rfl ?_
              refine V_iload dX7_partOfFraction_43 rfl ?_
              refine V_istore_n (L' := [_, _, _, _, _, _, _]) dX7_partOfFraction_45 (by decide) rfl rfl ?_
              refine V_iload dX7_partOfFraction_46 rfl ?_
              refine V_istore (L' := [_, _, _, _, _, _, _]) dX7_partOfFraction_48 (by decide) rfl rfl ?_
              refine V_iinc (v := _ + (1)) (L' := [_, _, _, _, _, _, _]) dX7_partOfFraction_50 (by decide) rfl rfl rfl rfl ?_
              refine V_goto (tgt := 25) dX7_partOfFraction_53 (by decide) ?_
              exact ih (i + 1) _ _ _ v (u % v) _ (by omega) (ix_add hs (by decide) (by omega)) hv (i_rem hu hv hv9) hv9 (by have := Nat.mod_lt u hv9; omega) (gcd_step.trans hg) (euc hv9 h1 h2).1 (euc hv9 h1 h2).2
        exact loop 64 0 _ _ _ b a _ (by omega) (by decide) hy hx hb9 (by omega) (Nat.gcd_comm b a) (fun _ => by have := Nat.mul_le_mul (show b ≤ 1000 by omega) (show a ≤ 1000 by omega); omega) (fun _ => by have := Nat.mul_le_mul (show b ≤ 1000 by omega) (show a ≤ 1000 by omega); omega)
      · refine V_ldc2 dX7_partOfFraction_13 kX7_210 ?_
        refine V_lret dX7_partOfFraction_16 rfl ?_
        refine ⟨?_, rfl, rfl, rfl⟩
        unfold sFrac
        rw [if_neg]
        rintro ⟨h1, h2⟩
        first
          | (rw [Int32.le_iff_toInt_le, hy] at c1; simp only [Int32.reduceToInt] at c1; omega)
          | (rcases h2 with h2 | h2 <;> rw [h2] at c5 <;> exact absurd c5 (by decide))
          | (rcases h2 with h2 | h2 <;> rw [h2] at c10 <;> exact c10 (by decide))
set_option maxRecDepth 4000 in
theorem qX8_lowest (n : Nat) (mi : MI) (mr : MR) (x y : Int64) (q : Int32) (a b : Nat) (hx : x.toInt = (a : Int)) (hy : y.toInt = (b : Int)) (hab : a < 1000 ∧ b < 1000) (hb9 : 0 < b) (hq9 : q = 0 ∨ q = 1)  : Ct KX8_lowest 1 0 0 [.long x, .long y, .int q] n mi mr (eqQ (some (.long (sFrac a b q))) n mi mr) := by
  refine Ct.of2 [some (.long x), none, some (.long y), none, some (.int q), none, none, none, none, none, none] (by decide +kernel) (Nat.le_of_ble_eq_true rfl) rfl ?_
  refine V_lload_n dX8_lowest_0 rfl ?_
  refine V_lstore (L' := [_, _, _, _, _, _, _, _, _, _, _]) dX8_lowest_1 (by decide) rfl rfl ?_
  refine V_lload_n dX8_lowest_3 rfl ?_
  refine V_lstore (L' := [_, _, _, _, _, _, _, _, _, _, _]) dX8_lowest_4 (by decide) rfl rfl ?_
  have loop : ∀ (m i : Nat) (u0 v0 : Int64) (u v : Nat) (z z2 : Option Value), i = 0 → v ≤ m → u0.toInt = (u : Int) → v0.toInt = (v : Int) → 0 < u ∨ 0 < v → u < 1000 ∧ v < 1000 → Nat.gcd u v = Nat.gcd a b → V KX8_lowest 1 0 0 (eqQ (some (.long (sFrac a b q))) n mi mr) 6 [some (.long x), none, some (.long y), none, some (.int q), some (.long u0), none, some (.long v0), none, z, z2] [] n mi mr := by
    intro m
    induction m with
    | zero =>
      intro i u0 v0 u v z z2 hi0 hvm hu hv hu0 huv hg
      refine V_lload dX8_lowest_6 rfl ?_
      refine V_lconst (v := 0) dX8_lowest_8 rfl ?_
      refine V_lcmp dX8_lowest_9 ?_
      refine V_if_eq (tgt := 31) dX8_lowest_10 (by decide) (fun c10 => ?_) (fun c10 => absurd ((l_cmp0 hv).mpr (by omega)) c10)
      have hv9 : v = 0 := by omega
      have hu1 : 0 < u := by omega
      refine V_iload dX8_lowest_31 rfl ?_
      refine V_if_ne (tgt := 40) dX8_lowest_33 (by decide) (fun c33 => ?_) (fun c33 => ?_)
      · refine V_lload_n dX8_lowest_40 rfl ?_
        refine V_lload dX8_lowest_41 rfl ?_
        refine V_ldiv dX8_lowest_43 (l_ne0 hu hu1) ?_
        refine V_lret dX8_lowest_44 rfl ?_
        refine ⟨?_, rfl, rfl, rfl⟩
        have hg9 : u = Nat.gcd a b := by rw [← hg, hv9, Nat.gcd_zero_right]
        unfold sFrac
        rw [if_pos (And.intro hb9 hq9)]
        refine congrArg (fun z => some (Value.long z)) (l_eq ?_).symm
        first
          | (rw [if_pos c33, ← hg9]; exact l_div hx hu hu1)
          | (rw [if_neg c33, ← hg9]; exact l_div hy hu hu1)
      · refine V_lload_n dX8_lowest_36 rfl ?_
        refine V_goto (tgt := 41) dX8_lowest_37 (by decide) ?_
        refine V_lload dX8_lowest_41 rfl ?_
        refine V_ldiv dX8_lowest_43 (l_ne0 hu hu1) ?_
        refine V_lret dX8_lowest_44 rfl ?_
        refine ⟨?_, rfl, rfl, rfl⟩
        have hg9 : u = Nat.gcd a b := by rw [← hg, hv9, Nat.gcd_zero_right]
        unfold sFrac
        rw [if_pos (And.intro hb9 hq9)]
        refine congrArg (fun z => some (Value.long z)) (l_eq ?_).symm
        first
          | (rw [if_pos c33, ← hg9]; exact l_div hx hu hu1)
          | (rw [if_neg c33, ← hg9]; exact l_div hy hu hu1)
    | succ m ih =>
      intro i u0 v0 u v z z2 hi0 hvm hu hv hu0 huv hg
      refine V_lload dX8_lowest_6 rfl ?_
      refine V_lconst (v := 0) dX8_lowest_8 rfl ?_
      refine V_lcmp dX8_lowest_9 ?_
      refine V_if_eq (tgt := 31) dX8_lowest_10 (by decide) (fun c10 => ?_) (fun c10 => ?_)
      · have hv9 : v = 0 := (l_cmp0 hv).mp c10
        have hu1 : 0 < u := by omega
        refine V_iload dX8_lowest_31 rfl ?_
        refine V_if_ne (tgt := 40) dX8_lowest_33 (by decide) (fun c33 => ?_) (fun c33 => ?_)
        · refine V_lload_n dX8_lowest_40 rfl ?_
          refine V_lload dX8_lowest_41 rfl ?_
          refine V_ldiv dX8_lowest_43 (l_ne0 hu hu1) ?_
          refine V_lret dX8_lowest_44 rfl ?_
          refine ⟨?_, rfl, rfl, rfl⟩
          have hg9 : u = Nat.gcd a b := by rw [← hg, hv9, Nat.gcd_zero_right]
          unfold sFrac
          rw [if_pos (And.intro hb9 hq9)]
          refine congrArg (fun z => some (Value.long z)) (l_eq ?_).symm
          first
            | (rw [if_pos c33, ← hg9]; exact l_div hx hu hu1)
            | (rw [if_neg c33, ← hg9]; exact l_div hy hu hu1)
        · refine V_lload_n dX8_lowest_36 rfl ?_
          refine V_goto (tgt := 41) dX8_lowest_37 (by decide) ?_
          refine V_lload dX8_lowest_41 rfl ?_
          refine V_ldiv dX8_lowest_43 (l_ne0 hu hu1) ?_
          refine V_lret dX8_lowest_44 rfl ?_
          refine ⟨?_, rfl, rfl, rfl⟩
          have hg9 : u = Nat.gcd a b := by rw [← hg, hv9, Nat.gcd_zero_right]
          unfold sFrac
          rw [if_pos (And.intro hb9 hq9)]
          refine congrArg (fun z => some (Value.long z)) (l_eq ?_).symm
          first
            | (rw [if_pos c33, ← hg9]; exact l_div hx hu hu1)
            | (rw [if_neg c33, ← hg9]; exact l_div hy hu hu1)
      · have hv9 : 0 < v := by
          have h : ¬ v = 0 := fun e => c10 ((l_cmp0 hv).mpr e)
          omega
        refine V_lload dX8_lowest_13 rfl ?_
        refine V_lload dX8_lowest_15 rfl ?_
        refine V_lrem dX8_lowest_17 (l_ne0 hv hv9) ?_
        refine V_lstore (L' := [_, _, _, _, _, _, _, _, _, _, _]) dX8_lowest_18 (by decide) rfl rfl ?_
        refine V_lload dX8_lowest_20 rfl ?_
        refine V_lstore (L' := [_, _, _, _, _, _, _, _, _, _, _]) dX8_lowest_22 (by decide) rfl rfl ?_
        refine V_lload dX8_lowest_24 rfl ?_
        refine V_lstore (L' := [_, _, _, _, _, _, _, _, _, _, _]) dX8_lowest_26 (by decide) rfl rfl ?_
        refine V_goto (tgt := 6) dX8_lowest_28 (by decide) ?_
        exact ih 0 _ _ v (u % v) _ _ rfl (by have := Nat.mod_lt u hv9; omega) hv (l_rem hu hv hv9 (by omega)) (Or.inl hv9) (by have := Nat.mod_lt u hv9; omega) (gcd_step.trans hg)
  exact loop b 0 _ _ a b _ _ rfl (Nat.le_refl _) hx hy (Or.inr hb9) hab rfl
theorem sum_nat {f : Nat → Int32} {b : Nat} : ∀ {N : Nat}, (∀ k, k < N → natTo (f k) (b + 1)) → (b + 1) * N < 100000 → natTo (sumTo f N) (b * N + 1)
  | 0, _, _ => ⟨0, rfl, by omega⟩
  | N + 1, h, hb => by
    have e1 : (b + 1) * (N + 1) = (b + 1) * N + (b + 1) := Nat.mul_succ _ _
    have e2 : b * (N + 1) = b * N + b := Nat.mul_succ _ _
    have e3 : (b + 1) * N = b * N + N := Nat.succ_mul _ _
    obtain ⟨k, h1, h2⟩ := sum_nat (f := f) (b := b) (N := N) (fun k hk => h k (by omega)) (by omega)
    obtain ⟨j, h3, h4⟩ := h N (by omega)
    exact ⟨k + j, ix_add h1 h3 (by omega), by omega⟩
theorem sumTo_eq {f g : Nat → Int32} : ∀ {N : Nat}, (∀ p, p < N → f p = g p) → sumTo f N = sumTo g N
  | 0, _ => rfl
  | N + 1, h => by
    unfold sumTo
    rw [h N (by omega), sumTo_eq (fun p hp => h p (by omega))]
theorem nat_get {x : Int32} {b : Nat} (h : natTo x b) : x.toInt = ((x.toNatClampNeg : Nat) : Int) ∧ x.toNatClampNeg < b := by
  obtain ⟨k, h1, h2⟩ := h
  rw [nat_of_toInt h1]
  exact ⟨h1, h2⟩
def oddsF (S : Nat → Int32) (p : Nat) (st : Int32) : Nat → Int32 := fun v => if sStage S p (sAge S p (nI v)) = st then S (7 + v) else 0
abbrev botF (S : Nat → Int32) : Nat → Int32 := fun k => S (7 + k)
def sOdds (S : Nat → Int32) (W : Nat) (p st part : Int32) : Int64 := if (0 ≤ p ∧ p < S 12) ∧ 0 ≤ st ∧ st ≤ 3 then sFrac (sumTo (oddsF S p.toNatClampNeg st) W).toNatClampNeg (sumTo (botF S) W).toNatClampNeg part else -9223372036854775808
theorem odds_nat {S : Nat → Int32} {c : CT} (hB : BD S c) (p : Nat) (st : Int32) : natTo (sumTo (oddsF S p st) (cW c)) 1000 ∧ natTo (sumTo (botF S) (cW c)) 1000 := by
  have hW := hB.1.2.1.2
  have h1 : ∀ k, k < cW c → natTo (botF S k) (99 + 1) := fun k hk => (hB.2.2.2.2.1 k (by omega)).2
  have h2 : ∀ k, k < cW c → natTo (oddsF S p st k) (99 + 1) := fun k hk => by
    unfold oddsF
    split
    · exact h1 k hk
    · exact ⟨0, rfl, by omega⟩
  obtain ⟨a, a1, a2⟩ := sum_nat h2 (by omega)
  obtain ⟨b, b1, b2⟩ := sum_nat h1 (by omega)
  exact ⟨⟨a, a1, by omega⟩, ⟨b, b1, by omega⟩⟩
theorem odds_part {S : Nat → Int32} {c : CT} (hB : BD S c) (p : Nat) (st : Int32) {i : Nat} (hi : i ≤ cW c) : natTo (sumTo (oddsF S p st) i) 1000 := by
  have hW := hB.1.2.1.2
  have h2 : ∀ k, k < i → natTo (oddsF S p st k) (99 + 1) := fun k hk => by
    unfold oddsF
    split
    · exact (hB.2.2.2.2.1 k (by omega)).2
    · exact ⟨0, rfl, by omega⟩
  obtain ⟨a, a1, a2⟩ := sum_nat h2 (by omega)
  exact ⟨a, a1, by omega⟩
set_option maxRecDepth 4000 in
theorem qX7_odds (n : Nat) (mi : MI) (mr : MR) (c : CT) (I : INV n mi mr c) (p st pa : Int32) : Ct KX7_odds 6 0 0 [.ref 32, .int p, .int st, .int pa] n mi mr (eqQ (some (.long (sOdds (mi 174) (cW c) p st pa))) n mi mr) := by
  refine Ct.of2 [some (.ref 32), some (.int p), some (.int st), some (.int pa), none, none] (by decide +kernel) (Nat.le_of_ble_eq_true rfl) rfl ?_
  have hhv := I.hv
  have hcl := I.cl.1
  obtain ⟨hR, hn, ⟨⟨hN, hN6⟩, ⟨hW, hW5⟩, ⟨hL, hL5⟩, ⟨hT, hT100⟩, ⟨hS, hS5⟩, ⟨hP, hP8⟩, ⟨hBk, hB8⟩⟩, hrw⟩ := I.facts
  have hBD := I.2.2.1
  obtain ⟨⟨r1, r2, r3, r4, r5⟩, hper, hvin, htape, hseen, hnight, hbook⟩ := id hrw
  have hcN : nat (mi 40 1) (cN c) := by rw [r2]; exact hN
  have hcW : nat (mi 40 2) (cW c) := by rw [r3]; exact hW
  clear I
  refine V_aload_n dX7_odds_0 rfl ?_
  refine V_iload_n dX7_odds_1 rfl ?_
  refine V_callV (ci := 7) (qX7_isOne _ _ _ hR hn _) dX7_odds_2 mlX7_105 mtX7_isOne ivX7_isOne rfl rfl ⟨by omega, by omega⟩ (by decide) rfl rfl (by decide) (Nat.le_of_ble_eq_true rfl) rfl rfl ?_
  rintro _ _ _ _ ⟨rfl, rfl, rfl, rfl⟩
  refine V_if_eq (tgt := 17) dX7_odds_5 (by decide) (fun c5 => ?_) (fun c5 => ?_)
  · refine V_ldc2 dX7_odds_17 kX7_210 ?_
    refine V_lret dX7_odds_20 rfl ?_
    refine ⟨?_, rfl, rfl, rfl⟩
    unfold sOdds
    rw [if_neg]
    rintro ⟨h1, h2, h3⟩
    rw [← r2] at h1
    first | exact c5 (b01_n.mpr h1) | exact absurd h2 (Int32.not_le.mpr c9) | exact c14 h3 | exact absurd (b01_n.mpr h1) (by rw [c5]; decide)
  · refine V_iload_n dX7_odds_8 rfl ?_
    refine V_if_lt (tgt := 17) dX7_odds_9 (by decide) (fun c9 => ?_) (fun c9 => ?_)
    · refine V_ldc2 dX7_odds_17 kX7_210 ?_
      refine V_lret dX7_odds_20 rfl ?_
      refine ⟨?_, rfl, rfl, rfl⟩
      unfold sOdds
      rw [if_neg]
      rintro ⟨h1, h2, h3⟩
      rw [← r2] at h1
      first | exact c5 (b01_n.mpr h1) | exact absurd h2 (Int32.not_le.mpr c9) | exact c14 h3 | exact absurd (b01_n.mpr h1) (by rw [c5]; decide)
    · refine V_iload_n dX7_odds_12 rfl ?_
      refine V_iconst (v := 3) dX7_odds_13 rfl ?_
      refine V_icmp_le (tgt := 21) dX7_odds_14 (by decide) (fun c14 => ?_) (fun c14 => ?_)
      · obtain ⟨a, ha1, ha2⟩ := idxC c5 hcN
        refine V_iconst (v := 0) dX7_odds_21 rfl ?_
        refine V_istore (L' := [_, _, _, _, _, _]) dX7_odds_22 (by decide) rfl rfl ?_
        refine V_iconst (v := 0) dX7_odds_24 rfl ?_
        refine V_istore (L' := [_, _, _, _, _, _]) dX7_odds_25 (by decide) rfl rfl ?_
        have loop : ∀ (m i : Nat) (acc x : Int32), i + m = cW c → x.toInt = (i : Int) → acc = sumTo (oddsF (mi 174) a st) i → V KX7_odds 6 0 0 (eqQ (some (.long (sOdds (mi 174) (cW c) p st pa))) n mi mr) 27 [some (.ref 32), some (.int p), some (.int st), some (.int pa), some (.int acc), some (.int x)] [] n mi mr := by
          intro m
          induction m with
          | zero =>
            intro i acc x him hx ha
            refine V_iload dX7_odds_27 rfl ?_
            refine V_aload_n dX7_odds_29 rfl ?_
            refine V_getr (b := 40) 7 1 dX7_odds_30 (Or.inl lkX7_30) rfl rfl ⟨by omega, by omega⟩ (hR _ _ _ rfl) ?_
            refine V_geti 6 2 dX7_odds_33 lnX7_98 rfl rfl ⟨by omega, by omega⟩ ?_
            refine V_icmp_ge (tgt := 74) dX7_odds_36 (by decide) (fun c36 => ?_) (fun c36 => absurd ((le_nat hcW hx).mpr (by omega)) c36)
            have hi : i = cW c := by omega
            subst hi
            obtain ⟨o1, o2⟩ := odds_nat hBD a st
            refine V_iload dX7_odds_74 rfl ?_
            refine V_aload_n dX7_odds_76 rfl ?_
            refine V_getr (b := 40) 7 1 dX7_odds_77 (Or.inl lkX7_30) rfl rfl ⟨by omega, by omega⟩ (hR _ _ _ rfl) ?_
            refine V_callV (ci := 6) (qX6_bottlesInAll _ _ _ hR hn _ (Or.inl rfl) (cW c) hcW hW5) dX7_odds_80 mlX7_165 mtX6_bottlesInAll ivX6_bottlesInAll rfl rfl ⟨by omega, by omega⟩ (by decide) rfl rfl (by decide) (Nat.le_of_ble_eq_true rfl) rfl rfl ?_
            rintro _ _ _ _ ⟨rfl, rfl, rfl, rfl⟩
            rw [ha, sumTo_eq (f := mi (40 + 3)) (g := botF (mi 174)) (fun k hk => (hvin k hk).2)]
            refine V_iload_n dX7_odds_83 rfl ?_
            refine V_callS (qX7_partOfFraction _ _ _ _ _ _ _ _ (nat_get o1).1 (nat_get o2).1 ⟨(nat_get o1).2, (nat_get o2).2⟩) dX7_odds_84 mlX7_212 mtX7_partOfFraction smX7_partOfFraction rfl rfl (by decide) (Nat.le_of_ble_eq_true rfl) rfl rfl ?_
            rintro _ _ _ _ ⟨rfl, rfl, rfl, rfl⟩
            refine V_lret dX7_odds_87 rfl ?_
            refine ⟨?_, rfl, rfl, rfl⟩
            unfold sOdds
            rw [if_pos (And.intro (by rw [← r2]; exact b01_n.mp c5) (And.intro (Int32.not_lt.mp c9) c14)), nat_of_toInt ha1]
          | succ m ih =>
            intro i acc x him hx ha
            refine V_iload dX7_odds_27 rfl ?_
            refine V_aload_n dX7_odds_29 rfl ?_
            refine V_getr (b := 40) 7 1 dX7_odds_30 (Or.inl lkX7_30) rfl rfl ⟨by omega, by omega⟩ (hR _ _ _ rfl) ?_
            refine V_geti 6 2 dX7_odds_33 lnX7_98 rfl rfl ⟨by omega, by omega⟩ ?_
            refine V_icmp_ge (tgt := 74) dX7_odds_36 (by decide) (fun c36 => absurd ((le_nat hcW hx).mp c36) (by omega)) (fun c36 => ?_)
            refine V_aload_n dX7_odds_39 rfl ?_
            refine V_getr (b := 40) 7 1 dX7_odds_40 (Or.inl lkX7_30) rfl rfl ⟨by omega, by omega⟩ (hR _ _ _ rfl) ?_
            refine V_iload_n dX7_odds_43 rfl ?_
            refine V_iload dX7_odds_44 rfl ?_
            refine V_callV (ci := 6) (qX6_stageBy _ _ _ hR hn _ (Or.inl rfl) (hvOf (mi 174)) hcl hBD.isV _ _ a ha1 (by omega) (Or.inr ⟨i, hx, by omega⟩)) dX7_odds_46 mlX7_130 mtX6_stageBy ivX6_stageBy rfl rfl ⟨by omega, by omega⟩ (by decide) rfl rfl (by decide) (Nat.le_of_ble_eq_true rfl) rfl rfl ?_
            rintro _ _ _ _ ⟨rfl, rfl, rfl, rfl⟩
            rw [age_eq hBD hrw ha2 (Or.inr ⟨i, hx, by omega⟩), stage_eq hrw ha2 hhv]
            refine V_iload_n dX7_odds_49 rfl ?_
            refine V_icmp_ne (tgt := 68) dX7_odds_50 (by decide) (fun c50 => ?_) (fun c50 => ?_)
            · refine V_iinc (v := _ + (1)) (L' := [_, _, _, _, _, _]) dX7_odds_68 (by decide) rfl rfl rfl rfl ?_
              refine V_goto (tgt := 27) dX7_odds_71 (by decide) ?_
              rw [nI_of_toInt hx] at c50
              refine ih (i + 1) _ _ (by omega) (ix_add hx (by decide) (by omega)) ?_
              unfold sumTo
              rw [← ha]
              unfold oddsF
              first
                | (rw [if_pos c50, show mi 43 i = mi 174 (7 + i) from (hvin i (by omega)).2]; done)
                | (rw [if_neg c50, Int32.add_zero]; done)
            · refine V_iload dX7_odds_53 rfl ?_
              refine V_aload_n dX7_odds_55 rfl ?_
              refine V_getr (b := 40) 7 1 dX7_odds_56 (Or.inl lkX7_30) rfl rfl ⟨by omega, by omega⟩ (hR _ _ _ rfl) ?_
              refine V_getr (b := 43) 6 8 dX7_odds_59 lnX7_146 rfl rfl ⟨by omega, by omega⟩ (hR _ _ _ rfl) ?_
              refine V_iload dX7_odds_62 rfl ?_
              refine V_iald (len := 5) i dX7_odds_64 rfl ⟨by omega, by omega⟩ hx (by omega) ?_
              refine V_iadd dX7_odds_65 ?_
              refine V_istore (L' := [_, _, _, _, _, _]) dX7_odds_66 (by decide) rfl rfl ?_
              refine V_iinc (v := _ + (1)) (L' := [_, _, _, _, _, _]) dX7_odds_68 (by decide) rfl rfl rfl rfl ?_
              refine V_goto (tgt := 27) dX7_odds_71 (by decide) ?_
              rw [nI_of_toInt hx] at c50
              refine ih (i + 1) _ _ (by omega) (ix_add hx (by decide) (by omega)) ?_
              unfold sumTo
              rw [← ha]
              unfold oddsF
              first
                | (rw [if_pos c50, show mi 43 i = mi 174 (7 + i) from (hvin i (by omega)).2]; done)
                | (rw [if_neg c50, Int32.add_zero]; done)
        exact loop (cW c) 0 _ _ (by omega) (by decide) rfl
      · refine V_ldc2 dX7_odds_17 kX7_210 ?_
        refine V_lret dX7_odds_20 rfl ?_
        refine ⟨?_, rfl, rfl, rfl⟩
        unfold sOdds
        rw [if_neg]
        rintro ⟨h1, h2, h3⟩
        rw [← r2] at h1
        first | exact c5 (b01_n.mpr h1) | exact absurd h2 (Int32.not_le.mpr c9) | exact c14 h3 | exact absurd (b01_n.mpr h1) (by rw [c5]; decide)
set_option maxRecDepth 4000 in
theorem qX8_odds (n : Nat) (mi : MI) (mr : MR) (c : CT) (hR : RF mr) (hn : 186 ≤ n) (hBD : BD (mi 174) c) (p st pa : Int32) : Ct KX8_odds 6 0 0 [.ref 173, .int p, .int st, .int pa] n mi mr (eqQ (some (.long (sOdds (mi 174) (cW c) p st pa))) n mi mr) := by
  refine Ct.of2 [some (.ref 173), some (.int p), some (.int st), some (.int pa), none, none, none] (by decide +kernel) (Nat.le_of_ble_eq_true rfl) rfl ?_
  obtain ⟨⟨hN, hN6⟩, ⟨hW, hW5⟩, ⟨hL, hL5⟩, ⟨hT, hT100⟩, ⟨hS, hS5⟩, ⟨hP, hP8⟩, ⟨hBk, hB8⟩⟩ := hBD.1
  refine V_aload_n dX8_odds_0 rfl ?_
  refine V_iload_n dX8_odds_1 rfl ?_
  refine V_callV (ci := 8) (qX8_isPerson _ _ _ hR hn _) dX8_odds_2 mlX8_169 mtX8_isPerson ivX8_isPerson rfl rfl ⟨by omega, by omega⟩ (by decide) rfl rfl (by decide) (Nat.le_of_ble_eq_true rfl) rfl rfl ?_
  rintro _ _ _ _ ⟨rfl, rfl, rfl, rfl⟩
  simp only [leSub hN (by omega)]
  refine V_if_eq (tgt := 33) dX8_odds_5 (by decide) (fun c5 => ?_) (fun c5 => ?_)
  · refine V_ldc2 dX8_odds_33 kX8_259 ?_
    refine V_lret dX8_odds_36 rfl ?_
    refine ⟨?_, rfl, rfl, rfl⟩
    unfold sOdds
    split
    · rename_i h
      unfold sFrac
      rw [if_neg]
      rintro ⟨h1, h2⟩
      first
      | exact absurd (b01_n.mpr h.1) (by rw [c5]; decide)
      | exact absurd (b01_n.mpr h.2) (by rw [c14]; decide)
      | exact absurd (b01_n.mpr (zero_one.mpr h2)) (by rw [c23]; decide)
      | (rw [show sumTo (botF (mi 174)) (cW c) = 0 from c30] at h1; exact absurd h1 (by decide))
    · rfl
  · refine V_iload_n dX8_odds_8 rfl ?_
    refine V_iconst (v := 0) dX8_odds_9 rfl ?_
    refine V_iconst (v := 3) dX8_odds_10 rfl ?_
    refine V_callS (qX8_in _ _ _ _ _ _) dX8_odds_11 mlX8_53 mtX8_in smX8_in rfl rfl (by decide) (Nat.le_of_ble_eq_true rfl) rfl rfl ?_
    rintro _ _ _ _ ⟨rfl, rfl, rfl, rfl⟩
    refine V_if_eq (tgt := 33) dX8_odds_14 (by decide) (fun c14 => ?_) (fun c14 => ?_)
    · refine V_ldc2 dX8_odds_33 kX8_259 ?_
      refine V_lret dX8_odds_36 rfl ?_
      refine ⟨?_, rfl, rfl, rfl⟩
      unfold sOdds
      split
      · rename_i h
        unfold sFrac
        rw [if_neg]
        rintro ⟨h1, h2⟩
        first
        | exact absurd (b01_n.mpr h.1) (by rw [c5]; decide)
        | exact absurd (b01_n.mpr h.2) (by rw [c14]; decide)
        | exact absurd (b01_n.mpr (zero_one.mpr h2)) (by rw [c23]; decide)
        | (rw [show sumTo (botF (mi 174)) (cW c) = 0 from c30] at h1; exact absurd h1 (by decide))
      · rfl
    · refine V_iload_n dX8_odds_17 rfl ?_
      refine V_iconst (v := 0) dX8_odds_18 rfl ?_
      refine V_iconst (v := 1) dX8_odds_19 rfl ?_
      refine V_callS (qX8_in _ _ _ _ _ _) dX8_odds_20 mlX8_53 mtX8_in smX8_in rfl rfl (by decide) (Nat.le_of_ble_eq_true rfl) rfl rfl ?_
      rintro _ _ _ _ ⟨rfl, rfl, rfl, rfl⟩
      refine V_if_eq (tgt := 33) dX8_odds_23 (by decide) (fun c23 => ?_) (fun c23 => ?_)
      · refine V_ldc2 dX8_odds_33 kX8_259 ?_
        refine V_lret dX8_odds_36 rfl ?_
        refine ⟨?_, rfl, rfl, rfl⟩
        unfold sOdds
        split
        · rename_i h
          unfold sFrac
          rw [if_neg]
          rintro ⟨h1, h2⟩
          first
          | exact absurd (b01_n.mpr h.1) (by rw [c5]; decide)
          | exact absurd (b01_n.mpr h.2) (by rw [c14]; decide)
          | exact absurd (b01_n.mpr (zero_one.mpr h2)) (by rw [c23]; decide)
          | (rw [show sumTo (botF (mi 174)) (cW c) = 0 from c30] at h1; exact absurd h1 (by decide))
        · rfl
      · refine V_aload_n dX8_odds_26 rfl ?_
        refine V_callV (ci := 8) (qX8_allBottles _ _ _ hR hn (cW c) hW hW5) dX8_odds_27 mlX8_184 mtX8_allBottles ivX8_allBottles rfl rfl ⟨by omega, by omega⟩ (by decide) rfl rfl (by decide) (Nat.le_of_ble_eq_true rfl) rfl rfl ?_
        rintro _ _ _ _ ⟨rfl, rfl, rfl, rfl⟩
        refine V_if_ne (tgt := 37) dX8_odds_30 (by decide) (fun c30 => ?_) (fun c30 => ?_)
        · obtain ⟨a, ha1, ha2⟩ := idxC c5 hN
          refine V_lconst (v := 0) dX8_odds_37 rfl ?_
          refine V_lstore (L' := [_, _, _, _, _, _, _]) dX8_odds_38 (by decide) rfl rfl ?_
          refine V_iconst (v := 0) dX8_odds_40 rfl ?_
          refine V_istore (L' := [_, _, _, _, _, _, _]) dX8_odds_41 (by decide) rfl rfl ?_
          have loop : ∀ (m i : Nat) (acc : Int64) (x : Int32), i + m = cW c → x.toInt = (i : Int) → acc.toInt = (sumTo (oddsF (mi 174) a st) i).toInt → V KX8_odds 6 0 0 (eqQ (some (.long (sOdds (mi 174) (cW c) p st pa))) n mi mr) 43 [some (.ref 173), some (.int p), some (.int st), some (.int pa), some (.long acc), none, some (.int x)] [] n mi mr := by
            intro m
            induction m with
            | zero =>
              intro i acc x him hx ha
              refine V_iload dX8_odds_43 rfl ?_
              refine V_aload_n dX8_odds_45 rfl ?_
              refine V_getr (b := 174) 8 1 dX8_odds_46 (Or.inl lkX8_9) rfl rfl ⟨by omega, by omega⟩ (hR _ _ _ rfl) ?_
              refine V_bipush (v := 19) dX8_odds_49 rfl ?_
              refine V_iald (len := 938) 19 dX8_odds_51 rfl ⟨by omega, by omega⟩ (by decide) (by omega) ?_
              refine V_icmp_ge (tgt := 97) dX8_odds_52 (by decide) (fun c52 => ?_) (fun c52 => absurd ((le_nat hW hx).mpr (by omega)) c52)
              have hi : i = cW c := by omega
              subst hi
              obtain ⟨o1, o2⟩ := odds_nat hBD a st
              refine V_lload dX8_odds_97 rfl ?_
              refine V_aload_n dX8_odds_99 rfl ?_
              refine V_callV (ci := 8) (qX8_allBottles _ _ _ hR hn (cW c) hW hW5) dX8_odds_100 mlX8_184 mtX8_allBottles ivX8_allBottles rfl rfl ⟨by omega, by omega⟩ (by decide) rfl rfl (by decide) (Nat.le_of_ble_eq_true rfl) rfl rfl ?_
              rintro _ _ _ _ ⟨rfl, rfl, rfl, rfl⟩
              refine V_i2l dX8_odds_103 ?_
              refine V_iload_n dX8_odds_104 rfl ?_
              refine V_callS (qX8_lowest _ _ _ _ _ _ _ _ (ha.trans (nat_get o1).1) (l_of (nat_get o2).1) ⟨(nat_get o1).2, (nat_get o2).2⟩ (Nat.pos_of_ne_zero (fun e => c30 (Int32.toInt_inj.mp (((nat_get o2).1.trans (by rw [e])).trans (by decide))))) (zero_one.mp (b01_n.mp c23))) dX8_odds_105 mlX8_261 mtX8_lowest smX8_lowest rfl rfl (by decide) (Nat.le_of_ble_eq_true rfl) rfl rfl ?_
              rintro _ _ _ _ ⟨rfl, rfl, rfl, rfl⟩
              refine V_lret dX8_odds_108 rfl ?_
              refine ⟨?_, rfl, rfl, rfl⟩
              unfold sOdds
              rw [if_pos (And.intro (b01_n.mp c5) (b01_n.mp c14)), nat_of_toInt ha1]
            | succ m ih =>
              intro i acc x him hx ha
              refine V_iload dX8_odds_43 rfl ?_
              refine V_aload_n dX8_odds_45 rfl ?_
              refine V_getr (b := 174) 8 1 dX8_odds_46 (Or.inl lkX8_9) rfl rfl ⟨by omega, by omega⟩ (hR _ _ _ rfl) ?_
              refine V_bipush (v := 19) dX8_odds_49 rfl ?_
              refine V_iald (len := 938) 19 dX8_odds_51 rfl ⟨by omega, by omega⟩ (by decide) (by omega) ?_
              refine V_icmp_ge (tgt := 97) dX8_odds_52 (by decide) (fun c52 => absurd ((le_nat hW hx).mp c52) (by omega)) (fun c52 => ?_)
              refine V_lload dX8_odds_55 rfl ?_
              refine V_aload_n dX8_odds_57 rfl ?_
              refine V_iload_n dX8_odds_58 rfl ?_
              refine V_aload_n dX8_odds_59 rfl ?_
              refine V_iload_n dX8_odds_60 rfl ?_
              refine V_iload dX8_odds_61 rfl ?_
              refine V_callV (ci := 8) (qX8_ageBy _ _ _ hR hn _ _ a ha1 (by omega) (Or.inr ⟨i, hx, by omega⟩) hBD.okS.2.1) dX8_odds_63 mlX8_146 mtX8_ageBy ivX8_ageBy rfl rfl ⟨by omega, by omega⟩ (by decide) rfl rfl (by decide) (Nat.le_of_ble_eq_true rfl) rfl rfl ?_
              rintro _ _ _ _ ⟨rfl, rfl, rfl, rfl⟩
              refine V_callV (ci := 8) (qX8_stageAt _ _ _ hR hn _ _ a ha1 (by omega) hBD.okS.1) dX8_odds_66 mlX8_149 mtX8_stageAt ivX8_stageAt rfl rfl ⟨by omega, by omega⟩ (by decide) rfl rfl (by decide) (Nat.le_of_ble_eq_true rfl) rfl rfl ?_
              rintro _ _ _ _ ⟨rfl, rfl, rfl, rfl⟩
              refine V_iload_n dX8_odds_69 rfl ?_
              refine V_icmp_ne (tgt := 87) dX8_odds_70 (by decide) (fun c70 => ?_) (fun c70 => ?_)
              · refine V_lconst (v := 0) dX8_odds_87 rfl ?_
                refine V_ladd dX8_odds_88 ?_
                refine V_lstore (L' := [_, _, _, _, _, _, _]) dX8_odds_89 (by decide) rfl rfl ?_
                refine V_iinc (v := _ + (1)) (L' := [_, _, _, _, _, _, _]) dX8_odds_91 (by decide) rfl rfl rfl rfl ?_
                refine V_goto (tgt := 43) dX8_odds_94 (by decide) ?_
                rw [nI_of_toInt hx] at c70
                have g1 := (nat_get (odds_part hBD a st (i := i) (by omega))).1
                have g2 := (nat_get (odds_part hBD a st (i := i) (by omega))).2
                refine ih (i + 1) _ _ (by omega) (ix_add hx (by decide) (by omega)) ?_
                unfold sumTo
                unfold oddsF
                obtain ⟨u, u1, u2⟩ := (hBD.2.2.2.2.1 i (by omega)).2
                first
                  | (rw [if_pos c70, l_add (ha.trans g1) (l_of u1) (by omega)]; exact (ix_add g1 u1 (by omega)).symm)
                  | (rw [if_neg c70, l_add (b := 0) (ha.trans g1) rfl (by omega), Int32.add_zero]; exact g1.symm)
              · refine V_aload_n dX8_odds_73 rfl ?_
                refine V_getr (b := 174) 8 1 dX8_odds_74 (Or.inl lkX8_9) rfl rfl ⟨by omega, by omega⟩ (hR _ _ _ rfl) ?_
                refine V_bipush (v := 7) dX8_odds_77 rfl ?_
                refine V_iload dX8_odds_79 rfl ?_
                refine V_iadd dX8_odds_81 ?_
                refine V_iald (len := 938) (7 + i) dX8_odds_82 rfl ⟨by omega, by omega⟩ (ix_add (by decide) hx (by omega)) (by omega) ?_
                refine V_i2l dX8_odds_83 ?_
                refine V_goto (tgt := 88) dX8_odds_84 (by decide) ?_
                refine V_ladd dX8_odds_88 ?_
                refine V_lstore (L' := [_, _, _, _, _, _, _]) dX8_odds_89 (by decide) rfl rfl ?_
                refine V_iinc (v := _ + (1)) (L' := [_, _, _, _, _, _, _]) dX8_odds_91 (by decide) rfl rfl rfl rfl ?_
                refine V_goto (tgt := 43) dX8_odds_94 (by decide) ?_
                rw [nI_of_toInt hx] at c70
                have g1 := (nat_get (odds_part hBD a st (i := i) (by omega))).1
                have g2 := (nat_get (odds_part hBD a st (i := i) (by omega))).2
                refine ih (i + 1) _ _ (by omega) (ix_add hx (by decide) (by omega)) ?_
                unfold sumTo
                unfold oddsF
                obtain ⟨u, u1, u2⟩ := (hBD.2.2.2.2.1 i (by omega)).2
                first
                  | (rw [if_pos c70, l_add (ha.trans g1) (l_of u1) (by omega)]; exact (ix_add g1 u1 (by omega)).symm)
                  | (rw [if_neg c70, l_add (b := 0) (ha.trans g1) rfl (by omega), Int32.add_zero]; exact g1.symm)
          exact loop (cW c) 0 _ _ (by omega) (by decide) rfl
        · refine V_ldc2 dX8_odds_33 kX8_259 ?_
          refine V_lret dX8_odds_36 rfl ?_
          refine ⟨?_, rfl, rfl, rfl⟩
          unfold sOdds
          split
          · rename_i h
            unfold sFrac
            rw [if_neg]
            rintro ⟨h1, h2⟩
            first
            | exact absurd (b01_n.mpr h.1) (by rw [c5]; decide)
            | exact absurd (b01_n.mpr h.2) (by rw [c14]; decide)
            | exact absurd (b01_n.mpr (zero_one.mpr h2)) (by rw [c23]; decide)
            | (rw [show sumTo (botF (mi 174)) (cW c) = 0 from c30] at h1; exact absurd h1 (by decide))
          · rfl
