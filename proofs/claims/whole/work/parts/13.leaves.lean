theorem Ct.of2 {K : KT} {d mc ms : Nat} {as : List Value} {n : Nat} {mi : MI} {mr : MR} {Q : QT} (L : List (Option Value)) (hy : plainName K.1.cls = true) (hargs : (lg_sl as).length ≤ K.2.2.1) (hL : L.zipIdx.filterMap (fun q => q.1.map (fun v => (q.2, v))) = lv_args 0 as)
    (h : V K d mc ms Q 0 L [] n mi mr) : Ct K d mc ms as n mi mr Q := by
  refine Ct.of L hy hargs (fun i v hi => ?_) h
  rw [← hL]
  exact List.mem_filterMap.mpr ⟨(some v, i), List.mem_zipIdx_iff_getElem?.mpr (by simpa using hi), rfl⟩
theorem bmod_id {z : Int} (h1 : -2147483648 ≤ z) (h2 : z < 2147483648) : z.bmod (2 ^ 32) = z := by
  rw [Int.bmod_def]
  split <;> omega
theorem ix_add {x y : Int32} {a b : Nat} (hx : x.toInt = (a : Int)) (hy : y.toInt = (b : Int)) (h : a + b < 2147483648) : (x + y).toInt = ((a + b : Nat) : Int) := by
  rw [Int32.toInt_add, hx, hy, bmod_id (by omega) (by omega)]
  omega
theorem ix_sub {x y : Int32} {a b : Nat} (hx : x.toInt = (a : Int)) (hy : y.toInt = (b : Int)) (h : b ≤ a ∧ a < 2147483648) : (x - y).toInt = ((a - b : Nat) : Int) := by
  rw [Int32.toInt_sub, hx, hy, bmod_id (by omega) (by omega)]
  omega
theorem ix_mul {x y : Int32} {a b : Nat} (hx : x.toInt = (a : Int)) (hy : y.toInt = (b : Int)) (h : a * b < 2147483648) : (x * y).toInt = ((a * b : Nat) : Int) := by
  rw [Int32.toInt_mul, hx, hy, ← Int.natCast_mul]
  exact bmod_id (by omega) (by omega)
theorem ix_and3 {y : Int32} (h : 0 ≤ y) : (y &&& 3).toInt = ((y.toInt.toNat % 4 : Nat) : Int) := by
  have h0 : 0 ≤ y.toInt := by rw [Int32.le_iff_toInt_le] at h; exact h
  have e := pk_and y (m := 3) 2 (by decide)
  rw [e, nI_toInt (by omega)]
  have e2 : y.toBitVec.toNat = y.toInt.toNat := by
    have h3 : y.toInt = y.toBitVec.toInt := rfl
    rw [h3] at h0 ⊢
    rw [BitVec.toInt_eq_toNat_cond] at h0 ⊢
    split <;> rename_i q
    · simp
    · rw [if_neg q] at h0
      have := y.toBitVec.isLt
      omega
  rw [e2]
def fAge (k v born year y : Int32) (rw : Nat → Int32) : Int32 :=
  if k = 1 then y - born - v else if k = 2 then (year - born) + (y - year) / 2 else if k = 3 then year - born else if k = 4 then y - born - v - v else if k = 5 then (if (year - born) + (y - year) / 2 < year - born then (year - born) + (y - year) / 2 else year - born) else if k = 6 then (year - born) - rw (y.toInt.toNat % 4) else y - born
def fStage (age life grown old : Int32) : Int32 := if 0 ≤ age ∧ age ≤ life then (if age < grown then 1 else if age < old then 2 else 3) else 0
def cAgeHad (mi : MI) (a : Nat) (year y born v : Int32) : Int32 := if 0 ≤ y then fAge (mi a 1) v born year y (mi (a + 1)) else year - born
def cY (mi : MI) (w : Nat) (y : Int32) : Int32 := if y = -1 then -1 else mi (w + 2) y.toNatClampNeg
def cAge (mi : MI) (w p : Nat) (y : Int32) : Int32 := cAgeHad mi (w + 18 + 2 * p) (mi w 0) (cY mi w y) (mi (w + 18 + 2 * p) 3) (mi (w + 18 + 2 * p) 2)
def cStage (mi : MI) (w hv p : Nat) (age : Int32) : Int32 := fStage age (mi (w + 18 + 2 * p) 4) (mi hv 0) (mi hv 1)
/-- what one has: none, or the number of a vintage -/
def okHas (y : Int32) : Prop := y = -1 ∨ ∃ h : Nat, y.toInt = (h : Int) ∧ h < 5
/-- the people's numbers below k for whom f holds, as bits -/
def bitsTo (f : Nat → Bool) : Nat → Int32
  | 0 => 0
  | k + 1 => if f k = true then bitsTo f k ||| (1 <<< (nI k &&& 31)) else bitsTo f k
def sumTo (f : Nat → Int32) : Nat → Int32
  | 0 => 0
  | k + 1 => sumTo f k + f k
theorem nI_of_toInt {x : Int32} {k : Nat} (h : x.toInt = (k : Int)) : x = nI k := by
  have hb : k < 2 ^ 31 := by have := x.toInt_lt; omega
  rw [← Int32.toInt_inj, nI_toInt hb, h]
set_option maxRecDepth 4000 in
theorem qX7_isOne (n : Nat) (mi : MI) (mr : MR) (hR : RF mr) (hn : 186 ≤ n) (p : Int32) : Ct KX7_isOne 1 0 0 [.ref 32, .int p] n mi mr (eqQ (some (.int (b01 (0 ≤ p ∧ p < mi 40 1)))) n mi mr) := by
  refine Ct.of2 [some (.ref 32), some (.int p)] (by decide +kernel) (Nat.le_of_ble_eq_true rfl) rfl ?_
  refine V_iload_n dX7_isOne_0 rfl ?_
  refine V_if_lt (tgt := 19) dX7_isOne_1 (by decide) (fun c1 => ?_) (fun c1 => ?_)
  · refine V_iconst (v := 0) dX7_isOne_19 rfl ?_
    refine V_iret dX7_isOne_20 rfl rfl ?_
    refine ⟨?_, rfl, rfl, rfl⟩
    first | rw [b01_t (by simp only [Int32.lt_iff_toInt_lt, Int32.le_iff_toInt_le, ← Int32.toInt_inj, Int32.reduceToInt] at *; omega)] | rw [b01_f (by simp only [Int32.lt_iff_toInt_lt, Int32.le_iff_toInt_le, ← Int32.toInt_inj, Int32.reduceToInt] at *; omega)]
  · refine V_iload_n dX7_isOne_4 rfl ?_
    refine V_aload_n dX7_isOne_5 rfl ?_
    refine V_getr (b := 40) 7 1 dX7_isOne_6 (Or.inl lkX7_30) rfl rfl ⟨by omega, by omega⟩ (hR _ _ _ rfl) ?_
    refine V_geti 6 1 dX7_isOne_9 lnX7_82 rfl rfl ⟨by omega, by omega⟩ ?_
    refine V_icmp_ge (tgt := 19) dX7_isOne_12 (by decide) (fun c12 => ?_) (fun c12 => ?_)
    · refine V_iconst (v := 0) dX7_isOne_19 rfl ?_
      refine V_iret dX7_isOne_20 rfl rfl ?_
      refine ⟨?_, rfl, rfl, rfl⟩
      first | rw [b01_t (by simp only [Int32.lt_iff_toInt_lt, Int32.le_iff_toInt_le, ← Int32.toInt_inj, Int32.reduceToInt] at *; omega)] | rw [b01_f (by simp only [Int32.lt_iff_toInt_lt, Int32.le_iff_toInt_le, ← Int32.toInt_inj, Int32.reduceToInt] at *; omega)]
    · refine V_iconst (v := 1) dX7_isOne_15 rfl ?_
      refine V_goto (tgt := 20) dX7_isOne_16 (by decide) ?_
      refine V_iret dX7_isOne_20 rfl rfl ?_
      refine ⟨?_, rfl, rfl, rfl⟩
      first | rw [b01_t (by simp only [Int32.lt_iff_toInt_lt, Int32.le_iff_toInt_le, ← Int32.toInt_inj, Int32.reduceToInt] at *; omega)] | rw [b01_f (by simp only [Int32.lt_iff_toInt_lt, Int32.le_iff_toInt_le, ← Int32.toInt_inj, Int32.reduceToInt] at *; omega)]
set_option maxRecDepth 4000 in
theorem qX7_isVintage (n : Nat) (mi : MI) (mr : MR) (hR : RF mr) (hn : 186 ≤ n) (p : Int32) : Ct KX7_isVintage 1 0 0 [.ref 32, .int p] n mi mr (eqQ (some (.int (b01 (0 ≤ p ∧ p < mi 40 2)))) n mi mr) := by
  refine Ct.of2 [some (.ref 32), some (.int p)] (by decide +kernel) (Nat.le_of_ble_eq_true rfl) rfl ?_
  refine V_iload_n dX7_isVintage_0 rfl ?_
  refine V_if_lt (tgt := 19) dX7_isVintage_1 (by decide) (fun c1 => ?_) (fun c1 => ?_)
  · refine V_iconst (v := 0) dX7_isVintage_19 rfl ?_
    refine V_iret dX7_isVintage_20 rfl rfl ?_
    refine ⟨?_, rfl, rfl, rfl⟩
    first | rw [b01_t (by simp only [Int32.lt_iff_toInt_lt, Int32.le_iff_toInt_le, ← Int32.toInt_inj, Int32.reduceToInt] at *; omega)] | rw [b01_f (by simp only [Int32.lt_iff_toInt_lt, Int32.le_iff_toInt_le, ← Int32.toInt_inj, Int32.reduceToInt] at *; omega)]
  · refine V_iload_n dX7_isVintage_4 rfl ?_
    refine V_aload_n dX7_isVintage_5 rfl ?_
    refine V_getr (b := 40) 7 1 dX7_isVintage_6 (Or.inl lkX7_30) rfl rfl ⟨by omega, by omega⟩ (hR _ _ _ rfl) ?_
    refine V_geti 6 2 dX7_isVintage_9 lnX7_98 rfl rfl ⟨by omega, by omega⟩ ?_
    refine V_icmp_ge (tgt := 19) dX7_isVintage_12 (by decide) (fun c12 => ?_) (fun c12 => ?_)
    · refine V_iconst (v := 0) dX7_isVintage_19 rfl ?_
      refine V_iret dX7_isVintage_20 rfl rfl ?_
      refine ⟨?_, rfl, rfl, rfl⟩
      first | rw [b01_t (by simp only [Int32.lt_iff_toInt_lt, Int32.le_iff_toInt_le, ← Int32.toInt_inj, Int32.reduceToInt] at *; omega)] | rw [b01_f (by simp only [Int32.lt_iff_toInt_lt, Int32.le_iff_toInt_le, ← Int32.toInt_inj, Int32.reduceToInt] at *; omega)]
    · refine V_iconst (v := 1) dX7_isVintage_15 rfl ?_
      refine V_goto (tgt := 20) dX7_isVintage_16 (by decide) ?_
      refine V_iret dX7_isVintage_20 rfl rfl ?_
      refine ⟨?_, rfl, rfl, rfl⟩
      first | rw [b01_t (by simp only [Int32.lt_iff_toInt_lt, Int32.le_iff_toInt_le, ← Int32.toInt_inj, Int32.reduceToInt] at *; omega)] | rw [b01_f (by simp only [Int32.lt_iff_toInt_lt, Int32.le_iff_toInt_le, ← Int32.toInt_inj, Int32.reduceToInt] at *; omega)]
set_option maxRecDepth 4000 in
theorem qX7_isKind (n : Nat) (mi : MI) (mr : MR) (hR : RF mr) (hn : 186 ≤ n) (p : Int32) : Ct KX7_isKind 1 0 0 [.int p] n mi mr (eqQ (some (.int (b01 (0 ≤ p ∧ p < 7)))) n mi mr) := by
  refine Ct.of2 [some (.int p)] (by decide +kernel) (Nat.le_of_ble_eq_true rfl) rfl ?_
  refine V_iload_n dX7_isKind_0 rfl ?_
  refine V_if_lt (tgt := 16) dX7_isKind_1 (by decide) (fun c1 => ?_) (fun c1 => ?_)
  · refine V_iconst (v := 0) dX7_isKind_16 rfl ?_
    refine V_iret dX7_isKind_17 rfl rfl ?_
    refine ⟨?_, rfl, rfl, rfl⟩
    first | rw [b01_t (by simp only [Int32.lt_iff_toInt_lt, Int32.le_iff_toInt_le, ← Int32.toInt_inj, Int32.reduceToInt] at *; omega)] | rw [b01_f (by simp only [Int32.lt_iff_toInt_lt, Int32.le_iff_toInt_le, ← Int32.toInt_inj, Int32.reduceToInt] at *; omega)]
  · refine V_iload_n dX7_isKind_4 rfl ?_
    refine V_gets (v := .ref 1) dX7_isKind_5 lsX7_260 (fun _ _ _ h => h.2.1.1) ?_
    refine V_alenS (len := 7) (v := 7) dX7_isKind_8 (by decide) (fun _ _ _ h => h.2.1.2) rfl ?_
    refine V_icmp_ge (tgt := 16) dX7_isKind_9 (by decide) (fun c9 => ?_) (fun c9 => ?_)
    · refine V_iconst (v := 0) dX7_isKind_16 rfl ?_
      refine V_iret dX7_isKind_17 rfl rfl ?_
      refine ⟨?_, rfl, rfl, rfl⟩
      first | rw [b01_t (by simp only [Int32.lt_iff_toInt_lt, Int32.le_iff_toInt_le, ← Int32.toInt_inj, Int32.reduceToInt] at *; omega)] | rw [b01_f (by simp only [Int32.lt_iff_toInt_lt, Int32.le_iff_toInt_le, ← Int32.toInt_inj, Int32.reduceToInt] at *; omega)]
    · refine V_iconst (v := 1) dX7_isKind_12 rfl ?_
      refine V_goto (tgt := 17) dX7_isKind_13 (by decide) ?_
      refine V_iret dX7_isKind_17 rfl rfl ?_
      refine ⟨?_, rfl, rfl, rfl⟩
      first | rw [b01_t (by simp only [Int32.lt_iff_toInt_lt, Int32.le_iff_toInt_le, ← Int32.toInt_inj, Int32.reduceToInt] at *; omega)] | rw [b01_f (by simp only [Int32.lt_iff_toInt_lt, Int32.le_iff_toInt_le, ← Int32.toInt_inj, Int32.reduceToInt] at *; omega)]
set_option maxRecDepth 4000 in
theorem qX7_isDigit (n : Nat) (mi : MI) (mr : MR) (hR : RF mr) (hn : 186 ≤ n) (p : Int32) : Ct KX7_isDigit 1 0 0 [.int p] n mi mr (eqQ (some (.int (b01 (0 ≤ p ∧ p ≤ 9)))) n mi mr) := by
  refine Ct.of2 [some (.int p)] (by decide +kernel) (Nat.le_of_ble_eq_true rfl) rfl ?_
  refine V_iload_n dX7_isDigit_0 rfl ?_
  refine V_if_lt (tgt := 14) dX7_isDigit_1 (by decide) (fun c1 => ?_) (fun c1 => ?_)
  · refine V_iconst (v := 0) dX7_isDigit_14 rfl ?_
    refine V_iret dX7_isDigit_15 rfl rfl ?_
    refine ⟨?_, rfl, rfl, rfl⟩
    first | rw [b01_t (by simp only [Int32.lt_iff_toInt_lt, Int32.le_iff_toInt_le, ← Int32.toInt_inj, Int32.reduceToInt] at *; omega)] | rw [b01_f (by simp only [Int32.lt_iff_toInt_lt, Int32.le_iff_toInt_le, ← Int32.toInt_inj, Int32.reduceToInt] at *; omega)]
  · refine V_iload_n dX7_isDigit_4 rfl ?_
    refine V_bipush (v := 9) dX7_isDigit_5 rfl ?_
    refine V_icmp_gt (tgt := 14) dX7_isDigit_7 (by decide) (fun c7 => ?_) (fun c7 => ?_)
    · refine V_iconst (v := 0) dX7_isDigit_14 rfl ?_
      refine V_iret dX7_isDigit_15 rfl rfl ?_
      refine ⟨?_, rfl, rfl, rfl⟩
      first | rw [b01_t (by simp only [Int32.lt_iff_toInt_lt, Int32.le_iff_toInt_le, ← Int32.toInt_inj, Int32.reduceToInt] at *; omega)] | rw [b01_f (by simp only [Int32.lt_iff_toInt_lt, Int32.le_iff_toInt_le, ← Int32.toInt_inj, Int32.reduceToInt] at *; omega)]
    · refine V_iconst (v := 1) dX7_isDigit_10 rfl ?_
      refine V_goto (tgt := 15) dX7_isDigit_11 (by decide) ?_
      refine V_iret dX7_isDigit_15 rfl rfl ?_
      refine ⟨?_, rfl, rfl, rfl⟩
      first | rw [b01_t (by simp only [Int32.lt_iff_toInt_lt, Int32.le_iff_toInt_le, ← Int32.toInt_inj, Int32.reduceToInt] at *; omega)] | rw [b01_f (by simp only [Int32.lt_iff_toInt_lt, Int32.le_iff_toInt_le, ← Int32.toInt_inj, Int32.reduceToInt] at *; omega)]
set_option maxRecDepth 4000 in
theorem qX7_isBottles (n : Nat) (mi : MI) (mr : MR) (hR : RF mr) (hn : 186 ≤ n) (p : Int32) : Ct KX7_isBottles 1 0 0 [.int p] n mi mr (eqQ (some (.int (b01 (0 ≤ p ∧ p ≤ 99)))) n mi mr) := by
  refine Ct.of2 [some (.int p)] (by decide +kernel) (Nat.le_of_ble_eq_true rfl) rfl ?_
  refine V_iload_n dX7_isBottles_0 rfl ?_
  refine V_if_lt (tgt := 14) dX7_isBottles_1 (by decide) (fun c1 => ?_) (fun c1 => ?_)
  · refine V_iconst (v := 0) dX7_isBottles_14 rfl ?_
    refine V_iret dX7_isBottles_15 rfl rfl ?_
    refine ⟨?_, rfl, rfl, rfl⟩
    first | rw [b01_t (by simp only [Int32.lt_iff_toInt_lt, Int32.le_iff_toInt_le, ← Int32.toInt_inj, Int32.reduceToInt] at *; omega)] | rw [b01_f (by simp only [Int32.lt_iff_toInt_lt, Int32.le_iff_toInt_le, ← Int32.toInt_inj, Int32.reduceToInt] at *; omega)]
  · refine V_iload_n dX7_isBottles_4 rfl ?_
    refine V_bipush (v := 99) dX7_isBottles_5 rfl ?_
    refine V_icmp_gt (tgt := 14) dX7_isBottles_7 (by decide) (fun c7 => ?_) (fun c7 => ?_)
    · refine V_iconst (v := 0) dX7_isBottles_14 rfl ?_
      refine V_iret dX7_isBottles_15 rfl rfl ?_
      refine ⟨?_, rfl, rfl, rfl⟩
      first | rw [b01_t (by simp only [Int32.lt_iff_toInt_lt, Int32.le_iff_toInt_le, ← Int32.toInt_inj, Int32.reduceToInt] at *; omega)] | rw [b01_f (by simp only [Int32.lt_iff_toInt_lt, Int32.le_iff_toInt_le, ← Int32.toInt_inj, Int32.reduceToInt] at *; omega)]
    · refine V_iconst (v := 1) dX7_isBottles_10 rfl ?_
      refine V_goto (tgt := 15) dX7_isBottles_11 (by decide) ?_
      refine V_iret dX7_isBottles_15 rfl rfl ?_
      refine ⟨?_, rfl, rfl, rfl⟩
      first | rw [b01_t (by simp only [Int32.lt_iff_toInt_lt, Int32.le_iff_toInt_le, ← Int32.toInt_inj, Int32.reduceToInt] at *; omega)] | rw [b01_f (by simp only [Int32.lt_iff_toInt_lt, Int32.le_iff_toInt_le, ← Int32.toInt_inj, Int32.reduceToInt] at *; omega)]
set_option maxRecDepth 4000 in
theorem qX7_isCountOrFirst (n : Nat) (mi : MI) (mr : MR) (hR : RF mr) (hn : 186 ≤ n) (p : Int32) : Ct KX7_isCountOrFirst 1 0 0 [.int p] n mi mr (eqQ (some (.int (b01 (p = 0 ∨ p = 1)))) n mi mr) := by
  refine Ct.of2 [some (.int p)] (by decide +kernel) (Nat.le_of_ble_eq_true rfl) rfl ?_
  refine V_iload_n dX7_isCountOrFirst_0 rfl ?_
  refine V_if_eq (tgt := 9) dX7_isCountOrFirst_1 (by decide) (fun c1 => ?_) (fun c1 => ?_)
  · refine V_iconst (v := 1) dX7_isCountOrFirst_9 rfl ?_
    refine V_goto (tgt := 14) dX7_isCountOrFirst_10 (by decide) ?_
    refine V_iret dX7_isCountOrFirst_14 rfl rfl ?_
    refine ⟨?_, rfl, rfl, rfl⟩
    first | rw [b01_t (by simp only [Int32.lt_iff_toInt_lt, Int32.le_iff_toInt_le, ← Int32.toInt_inj, Int32.reduceToInt] at *; omega)] | rw [b01_f (by simp only [Int32.lt_iff_toInt_lt, Int32.le_iff_toInt_le, ← Int32.toInt_inj, Int32.reduceToInt] at *; omega)]
  · refine V_iload_n dX7_isCountOrFirst_4 rfl ?_
    refine V_iconst (v := 1) dX7_isCountOrFirst_5 rfl ?_
    refine V_icmp_ne (tgt := 13) dX7_isCountOrFirst_6 (by decide) (fun c6 => ?_) (fun c6 => ?_)
    · refine V_iconst (v := 0) dX7_isCountOrFirst_13 rfl ?_
      refine V_iret dX7_isCountOrFirst_14 rfl rfl ?_
      refine ⟨?_, rfl, rfl, rfl⟩
      first | rw [b01_t (by simp only [Int32.lt_iff_toInt_lt, Int32.le_iff_toInt_le, ← Int32.toInt_inj, Int32.reduceToInt] at *; omega)] | rw [b01_f (by simp only [Int32.lt_iff_toInt_lt, Int32.le_iff_toInt_le, ← Int32.toInt_inj, Int32.reduceToInt] at *; omega)]
    · refine V_iconst (v := 1) dX7_isCountOrFirst_9 rfl ?_
      refine V_goto (tgt := 14) dX7_isCountOrFirst_10 (by decide) ?_
      refine V_iret dX7_isCountOrFirst_14 rfl rfl ?_
      refine ⟨?_, rfl, rfl, rfl⟩
      first | rw [b01_t (by simp only [Int32.lt_iff_toInt_lt, Int32.le_iff_toInt_le, ← Int32.toInt_inj, Int32.reduceToInt] at *; omega)] | rw [b01_f (by simp only [Int32.lt_iff_toInt_lt, Int32.le_iff_toInt_le, ← Int32.toInt_inj, Int32.reduceToInt] at *; omega)]
set_option maxRecDepth 4000 in
theorem qX7_shown (n : Nat) (mi : MI) (mr : MR) (hR : RF mr) (hn : 186 ≤ n) (p : Int32) : Ct KX7_shown 1 0 0 [.int p] n mi mr (eqQ (some (.int (if p = -1 then -5 else p))) n mi mr) := by
  refine Ct.of2 [some (.int p)] (by decide +kernel) (Nat.le_of_ble_eq_true rfl) rfl ?_
  refine V_iload_n dX7_shown_0 rfl ?_
  refine V_iconst (v := -1) dX7_shown_1 rfl ?_
  refine V_icmp_ne (tgt := 10) dX7_shown_2 (by decide) (fun c2 => ?_) (fun c2 => ?_)
  · refine V_iload_n dX7_shown_10 rfl ?_
    refine V_iret dX7_shown_11 rfl rfl ?_
    refine ⟨?_, rfl, rfl, rfl⟩
    repeat' split
    all_goals first | rfl | (exfalso; simp only [Int32.lt_iff_toInt_lt, Int32.le_iff_toInt_le, ← Int32.toInt_inj, Int32.reduceToInt] at *; omega)
  · refine V_bipush (v := -5) dX7_shown_5 rfl ?_
    refine V_goto (tgt := 11) dX7_shown_7 (by decide) ?_
    refine V_iret dX7_shown_11 rfl rfl ?_
    refine ⟨?_, rfl, rfl, rfl⟩
    repeat' split
    all_goals first | rfl | (exfalso; simp only [Int32.lt_iff_toInt_lt, Int32.le_iff_toInt_le, ← Int32.toInt_inj, Int32.reduceToInt] at *; omega)
set_option maxRecDepth 4000 in
theorem qX7_isOfSeating (n : Nat) (mi : MI) (mr : MR) (hR : RF mr) (hn : 186 ≤ n) (p : Int32) : Ct KX7_isOfSeating 2 0 0 [.ref 32, .int p] n mi mr (eqQ (some (.int (b01 (p = 0 ∨ (10 ≤ p ∧ 0 ≤ p - 10 ∧ p - 10 < mi 40 1))))) n mi mr) := by
  refine Ct.of2 [some (.ref 32), some (.int p)] (by decide +kernel) (Nat.le_of_ble_eq_true rfl) rfl ?_
  refine V_iload_n dX7_isOfSeating_0 rfl ?_
  refine V_if_eq (tgt := 21) dX7_isOfSeating_1 (by decide) (fun c1 => ?_) (fun c1 => ?_)
  · refine V_iconst (v := 1) dX7_isOfSeating_21 rfl ?_
    refine V_goto (tgt := 26) dX7_isOfSeating_22 (by decide) ?_
    refine V_iret dX7_isOfSeating_26 rfl rfl ?_
    refine ⟨?_, rfl, rfl, rfl⟩
    try simp only [b01_0, b01_n] at c18
    try have c7x := Int32.not_lt.mp c7
    try have c7y := Int32.not_le.mpr c7
    clear hR
    simp_all [b01]
    all_goals (intro h; exact absurd h (Int32.not_le.mpr c7))
  · refine V_iload_n dX7_isOfSeating_4 rfl ?_
    refine V_bipush (v := 10) dX7_isOfSeating_5 rfl ?_
    refine V_icmp_lt (tgt := 25) dX7_isOfSeating_7 (by decide) (fun c7 => ?_) (fun c7 => ?_)
    · refine V_iconst (v := 0) dX7_isOfSeating_25 rfl ?_
      refine V_iret dX7_isOfSeating_26 rfl rfl ?_
      refine ⟨?_, rfl, rfl, rfl⟩
      try simp only [b01_0, b01_n] at c18
      try have c7x := Int32.not_lt.mp c7
      try have c7y := Int32.not_le.mpr c7
      clear hR
      simp_all [b01]
      all_goals (intro h; exact absurd h (Int32.not_le.mpr c7))
    · refine V_aload_n dX7_isOfSeating_10 rfl ?_
      refine V_iload_n dX7_isOfSeating_11 rfl ?_
      refine V_bipush (v := 10) dX7_isOfSeating_12 rfl ?_
      refine V_isub dX7_isOfSeating_14 ?_
      refine V_callV (ci := 7) (qX7_isOne _ _ _ hR hn _) dX7_isOfSeating_15 mlX7_105 mtX7_isOne ivX7_isOne rfl rfl ⟨by omega, by omega⟩ (by decide) rfl rfl (by decide) (Nat.le_of_ble_eq_true rfl) rfl rfl ?_
      rintro _ _ _ _ ⟨rfl, rfl, rfl, rfl⟩
      refine V_if_eq (tgt := 25) dX7_isOfSeating_18 (by decide) (fun c18 => ?_) (fun c18 => ?_)
      · refine V_iconst (v := 0) dX7_isOfSeating_25 rfl ?_
        refine V_iret dX7_isOfSeating_26 rfl rfl ?_
        refine ⟨?_, rfl, rfl, rfl⟩
        try simp only [b01_0, b01_n] at c18
        try have c7x := Int32.not_lt.mp c7
        try have c7y := Int32.not_le.mpr c7
        clear hR
        simp_all [b01]
        all_goals (intro h; exact absurd h (Int32.not_le.mpr c7))
      · refine V_iconst (v := 1) dX7_isOfSeating_21 rfl ?_
        refine V_goto (tgt := 26) dX7_isOfSeating_22 (by decide) ?_
        refine V_iret dX7_isOfSeating_26 rfl rfl ?_
        refine ⟨?_, rfl, rfl, rfl⟩
        try simp only [b01_0, b01_n] at c18
        try have c7x := Int32.not_lt.mp c7
        try have c7y := Int32.not_le.mpr c7
        clear hR
        simp_all [b01]
        all_goals (intro h; exact absurd h (Int32.not_le.mpr c7))
set_option maxRecDepth 4000 in
theorem qX1_isHereAt (n : Nat) (mi : MI) (mr : MR) (hR : RF mr) (hn : 186 ≤ n) (a : Nat) (hp : isP a) (age : Int32) : Ct KX1_isHereAt 1 0 0 [.ref a, .int age] n mi mr (eqQ (some (.int (b01 (0 ≤ age ∧ age ≤ mi a 4)))) n mi mr) := by
  refine Ct.of2 [some (.ref a), some (.int age)] (by decide +kernel) (Nat.le_of_ble_eq_true rfl) rfl ?_
  have hle := hp.le
  refine V_iload_n dX1_isHereAt_0 rfl ?_
  refine V_if_lt (tgt := 16) dX1_isHereAt_1 (by decide) (fun c1 => ?_) (fun c1 => ?_)
  · refine V_iconst (v := 0) dX1_isHereAt_16 rfl ?_
    refine V_iret dX1_isHereAt_17 rfl rfl ?_
    refine ⟨?_, rfl, rfl, rfl⟩
    first | rw [b01_t (by simp only [Int32.lt_iff_toInt_lt, Int32.le_iff_toInt_le, ← Int32.toInt_inj, Int32.reduceToInt] at *; omega)] | rw [b01_f (by simp only [Int32.lt_iff_toInt_lt, Int32.le_iff_toInt_le, ← Int32.toInt_inj, Int32.reduceToInt] at *; omega)]
  · refine V_iload_n dX1_isHereAt_4 rfl ?_
    refine V_aload_n dX1_isHereAt_5 rfl ?_
    refine V_geti 1 4 dX1_isHereAt_6 (Or.inl lkX1_31) rfl (sP hp) ⟨by omega, by omega⟩ ?_
    refine V_icmp_gt (tgt := 16) dX1_isHereAt_9 (by decide) (fun c9 => ?_) (fun c9 => ?_)
    · refine V_iconst (v := 0) dX1_isHereAt_16 rfl ?_
      refine V_iret dX1_isHereAt_17 rfl rfl ?_
      refine ⟨?_, rfl, rfl, rfl⟩
      first | rw [b01_t (by simp only [Int32.lt_iff_toInt_lt, Int32.le_iff_toInt_le, ← Int32.toInt_inj, Int32.reduceToInt] at *; omega)] | rw [b01_f (by simp only [Int32.lt_iff_toInt_lt, Int32.le_iff_toInt_le, ← Int32.toInt_inj, Int32.reduceToInt] at *; omega)]
    · refine V_iconst (v := 1) dX1_isHereAt_12 rfl ?_
      refine V_goto (tgt := 17) dX1_isHereAt_13 (by decide) ?_
      refine V_iret dX1_isHereAt_17 rfl rfl ?_
      refine ⟨?_, rfl, rfl, rfl⟩
      first | rw [b01_t (by simp only [Int32.lt_iff_toInt_lt, Int32.le_iff_toInt_le, ← Int32.toInt_inj, Int32.reduceToInt] at *; omega)] | rw [b01_f (by simp only [Int32.lt_iff_toInt_lt, Int32.le_iff_toInt_le, ← Int32.toInt_inj, Int32.reduceToInt] at *; omega)]
set_option maxRecDepth 4000 in
theorem qX1_ageHad (n : Nat) (mi : MI) (mr : MR) (hR : RF mr) (hn : 186 ≤ n) (a : Nat) (hp : isP a) (year y born v : Int32) : Ct KX1_ageHad 2 0 0 [.ref a, .int year, .int y, .int born, .int v] n mi mr (eqQ (some (.int (cAgeHad mi a year y born v))) n mi mr) := by
  refine Ct.of2 [some (.ref a), some (.int year), some (.int y), some (.int born), some (.int v), none] (by decide +kernel) (Nat.le_of_ble_eq_true rfl) rfl ?_
  have hle := hp.le
  refine V_iload_n dX1_ageHad_0 rfl ?_
  refine V_iload_n dX1_ageHad_1 rfl ?_
  refine V_isub dX1_ageHad_2 ?_
  refine V_istore (L' := [_, _, _, _, _, _]) dX1_ageHad_3 (by decide) rfl rfl ?_
  refine V_iload_n dX1_ageHad_5 rfl ?_
  refine V_if_ge (tgt := 12) dX1_ageHad_6 (by decide) (fun c6 => ?_) (fun c6 => ?_)
  · refine V_aload_n dX1_ageHad_12 rfl ?_
    refine V_geti 1 1 dX1_ageHad_13 (Or.inl lkX1_22) rfl (sP hp) ⟨by omega, by omega⟩ ?_
    by_cases k1 : mi a 1 = 1
    · refine V_tableIn (off := 40) (tgt := 56) dX1_ageHad_16 (by rw [k1]; decide) (by rw [k1]; decide) (by rw [k1]; rfl) (by decide) ?_
      refine V_iload_n dX1_ageHad_56 rfl ?_
      refine V_iload_n dX1_ageHad_57 rfl ?_
      refine V_isub dX1_ageHad_58 ?_
      refine V_iload dX1_ageHad_59 rfl ?_
      refine V_isub dX1_ageHad_61 ?_
      refine V_iret dX1_ageHad_62 rfl rfl ?_
      exact ⟨by simp [cAgeHad, fAge, *], rfl, rfl, rfl⟩
    by_cases k2 : mi a 1 = 2
    · refine V_tableIn (off := 47) (tgt := 63) dX1_ageHad_16 (by rw [k2]; decide) (by rw [k2]; decide) (by rw [k2]; rfl) (by decide) ?_
      refine V_iload dX1_ageHad_63 rfl ?_
      refine V_iload_n dX1_ageHad_65 rfl ?_
      refine V_iload_n dX1_ageHad_66 rfl ?_
      refine V_isub dX1_ageHad_67 ?_
      refine V_iconst (v := 2) dX1_ageHad_68 rfl ?_
      refine V_idiv dX1_ageHad_69 (by decide) ?_
      refine V_iadd dX1_ageHad_70 ?_
      refine V_iret dX1_ageHad_71 rfl rfl ?_
      exact ⟨by simp [cAgeHad, fAge, *], rfl, rfl, rfl⟩
    by_cases k3 : mi a 1 = 3
    · refine V_tableIn (off := 56) (tgt := 72) dX1_ageHad_16 (by rw [k3]; decide) (by rw [k3]; decide) (by rw [k3]; rfl) (by decide) ?_
      refine V_iload dX1_ageHad_72 rfl ?_
      refine V_iret dX1_ageHad_74 rfl rfl ?_
      exact ⟨by simp [cAgeHad, fAge, *], rfl, rfl, rfl⟩
    by_cases k4 : mi a 1 = 4
    · refine V_tableIn (off := 59) (tgt := 75) dX1_ageHad_16 (by rw [k4]; decide) (by rw [k4]; decide) (by rw [k4]; rfl) (by decide) ?_
      refine V_iload_n dX1_ageHad_75 rfl ?_
      refine V_iload_n dX1_ageHad_76 rfl ?_
      refine V_isub dX1_ageHad_77 ?_
      refine V_iload dX1_ageHad_78 rfl ?_
      refine V_isub dX1_ageHad_80 ?_
      refine V_iload dX1_ageHad_81 rfl ?_
      refine V_isub dX1_ageHad_83 ?_
      refine V_iret dX1_ageHad_84 rfl rfl ?_
      exact ⟨by simp [cAgeHad, fAge, *], rfl, rfl, rfl⟩
    by_cases k5 : mi a 1 = 5
    · refine V_tableIn (off := 69) (tgt := 85) dX1_ageHad_16 (by rw [k5]; decide) (by rw [k5]; decide) (by rw [k5]; rfl) (by decide) ?_
      refine V_iload dX1_ageHad_85 rfl ?_
      refine V_iload dX1_ageHad_87 rfl ?_
      refine V_iload_n dX1_ageHad_89 rfl ?_
      refine V_iload_n dX1_ageHad_90 rfl ?_
      refine V_isub dX1_ageHad_91 ?_
      refine V_iconst (v := 2) dX1_ageHad_92 rfl ?_
      refine V_idiv dX1_ageHad_93 (by decide) ?_
      refine V_iadd dX1_ageHad_94 ?_
      refine V_min dX1_ageHad_95 mlX1_48 sm_min iniJ9 cm_min (by decide) (Nat.le_of_ble_eq_true rfl) ?_
      refine V_iret dX1_ageHad_98 rfl rfl ?_
      exact ⟨by simp [cAgeHad, fAge, *], rfl, rfl, rfl⟩
    by_cases k6 : mi a 1 = 6
    · refine V_tableIn (off := 83) (tgt := 99) dX1_ageHad_16 (by rw [k6]; decide) (by rw [k6]; decide) (by rw [k6]; rfl) (by decide) ?_
      refine V_iload dX1_ageHad_99 rfl ?_
      refine V_aload_n dX1_ageHad_101 rfl ?_
      refine V_getr (b := (a + 1)) 1 6 dX1_ageHad_102 (Or.inl lkX1_15) rfl (sP hp) ⟨by omega, by omega⟩ (hR _ _ _ (rP hp)) ?_
      refine V_iload_n dX1_ageHad_105 rfl ?_
      refine V_iconst (v := 3) dX1_ageHad_106 rfl ?_
      refine V_iand dX1_ageHad_107 ?_
      refine V_iald (len := 4) (y.toInt.toNat % 4) dX1_ageHad_108 (sPr hp) ⟨by omega, by omega⟩ (ix_and3 c6) (by omega) ?_
      refine V_isub dX1_ageHad_109 ?_
      refine V_iret dX1_ageHad_110 rfl rfl ?_
      exact ⟨by simp [cAgeHad, fAge, *], rfl, rfl, rfl⟩
    refine V_tableOut (tgt := 111) dX1_ageHad_16 (by simp only [← Int32.toInt_inj, Int32.reduceToInt] at *; omega) (by decide) ?_
    refine V_iload_n dX1_ageHad_111 rfl ?_
    refine V_iload_n dX1_ageHad_112 rfl ?_
    refine V_isub dX1_ageHad_113 ?_
    refine V_iret dX1_ageHad_114 rfl rfl ?_
    exact ⟨by simp [cAgeHad, fAge, *], rfl, rfl, rfl⟩
  · refine V_iload dX1_ageHad_9 rfl ?_
    refine V_iret dX1_ageHad_11 rfl rfl ?_
    exact ⟨by simp [cAgeHad, fAge, *], rfl, rfl, rfl⟩
set_option maxRecDepth 4000 in
theorem qX1_ageIn (n : Nat) (mi : MI) (mr : MR) (hR : RF mr) (hn : 186 ≤ n) (a : Nat) (hp : isP a) (year y : Int32) : Ct KX1_ageIn 3 0 0 [.ref a, .int year, .int y] n mi mr (eqQ (some (.int (cAgeHad mi a year y (mi a 3) (mi a 2)))) n mi mr) := by
  refine Ct.of2 [some (.ref a), some (.int year), some (.int y)] (by decide +kernel) (Nat.le_of_ble_eq_true rfl) rfl ?_
  have hle := hp.le
  refine V_aload_n dX1_ageIn_0 rfl ?_
  refine V_iload_n dX1_ageIn_1 rfl ?_
  refine V_iload_n dX1_ageIn_2 rfl ?_
  refine V_aload_n dX1_ageIn_3 rfl ?_
  refine V_geti 1 3 dX1_ageIn_4 (Or.inl lkX1_28) rfl (sP hp) ⟨by omega, by omega⟩ ?_
  refine V_aload_n dX1_ageIn_7 rfl ?_
  refine V_geti 1 2 dX1_ageIn_8 (Or.inl lkX1_25) rfl (sP hp) ⟨by omega, by omega⟩ ?_
  refine V_callV (ci := 1) (qX1_ageHad _ _ _ hR hn _ hp _ _ _ _) dX1_ageIn_11 mlX1_44 mtX1_ageHad ivX1_ageHad rfl (sP hp) ⟨by omega, by omega⟩ (by decide) rfl rfl (by decide) (Nat.le_of_ble_eq_true rfl) rfl rfl ?_
  rintro _ _ _ _ ⟨rfl, rfl, rfl, rfl⟩
  refine V_iret dX1_ageIn_14 rfl rfl ?_
  exact ⟨rfl, rfl, rfl, rfl⟩
set_option maxRecDepth 4000 in
theorem qX6_ageBy (n : Nat) (mi : MI) (mr : MR) (hR : RF mr) (hn : 186 ≤ n) (w : Nat) (hw : isW w) (x y : Int32) (p : Nat) (hx : x.toInt = (p : Int)) (hp : p < 6) (hy : okHas y) : Ct KX6_ageBy 4 0 0 [.ref w, .int x, .int y] n mi mr (eqQ (some (.int (cAge mi w p y))) n mi mr) := by
  refine Ct.of2 [some (.ref w), some (.int x), some (.int y)] (by decide +kernel) (Nat.le_of_ble_eq_true rfl) rfl ?_
  have hwl := hw.le
  refine V_aload_n dX6_ageBy_0 rfl ?_
  refine V_getr (b := (w + 1)) 6 6 dX6_ageBy_1 (Or.inl lkX6_17) rfl (sW hw (o := 0) (by omega)) ⟨by omega, by omega⟩ (hR _ _ _ (rW hw (o := 0) (k := 6) (by omega) (by omega) rfl)) ?_
  refine V_iload_n dX6_ageBy_4 rfl ?_
  refine V_aald (len := 6) (b := (w + 18 + 2 * p)) 5 p dX6_ageBy_5 (sW hw (o := 1) (by omega)) rfl ⟨by omega, by omega⟩ hx (by omega) (hR _ _ _ (rFolk hw (by omega))) ?_
  refine V_aload_n dX6_ageBy_6 rfl ?_
  refine V_geti 6 0 dX6_ageBy_7 (Or.inl lkX6_9) rfl (sW hw (o := 0) (by omega)) ⟨by omega, by omega⟩ ?_
  refine V_iload_n dX6_ageBy_10 rfl ?_
  refine V_iconst (v := -1) dX6_ageBy_11 rfl ?_
  refine V_icmp_ne (tgt := 19) dX6_ageBy_12 (by decide) (fun c12 => ?_) (fun c12 => ?_)
  · obtain ⟨h, hy1, hy2⟩ := hy.resolve_left c12
    refine V_aload_n dX6_ageBy_19 rfl ?_
    refine V_getr (b := (w + 2)) 6 7 dX6_ageBy_20 (Or.inl lkX6_21) rfl (sW hw (o := 0) (by omega)) ⟨by omega, by omega⟩ (hR _ _ _ (rW hw (o := 0) (k := 7) (by omega) (by omega) rfl)) ?_
    refine V_iload_n dX6_ageBy_23 rfl ?_
    refine V_iald (len := 5) h dX6_ageBy_24 (sW hw (o := 2) (by omega)) ⟨by omega, by omega⟩ hy1 (by omega) ?_
    refine V_callV (ci := 1) (qX1_ageIn _ _ _ hR hn _ (pOf hw hp) _ _) dX6_ageBy_25 mlX6_82 mtX1_ageIn ivX1_ageIn rfl (sP (pOf hw (by omega))) ⟨by omega, by omega⟩ (by decide) rfl rfl (by decide) (Nat.le_of_ble_eq_true rfl) rfl rfl ?_
    rintro _ _ _ _ ⟨rfl, rfl, rfl, rfl⟩
    refine V_iret dX6_ageBy_28 rfl rfl ?_
    refine ⟨?_, rfl, rfl, rfl⟩
    simp only [cAge, cY]
    first | rw [if_pos c12] | rw [if_neg c12, nat_of_toInt hy1]
  · refine V_iconst (v := -1) dX6_ageBy_15 rfl ?_
    refine V_goto (tgt := 25) dX6_ageBy_16 (by decide) ?_
    refine V_callV (ci := 1) (qX1_ageIn _ _ _ hR hn _ (pOf hw hp) _ _) dX6_ageBy_25 mlX6_82 mtX1_ageIn ivX1_ageIn rfl (sP (pOf hw (by omega))) ⟨by omega, by omega⟩ (by decide) rfl rfl (by decide) (Nat.le_of_ble_eq_true rfl) rfl rfl ?_
    rintro _ _ _ _ ⟨rfl, rfl, rfl, rfl⟩
    refine V_iret dX6_ageBy_28 rfl rfl ?_
    refine ⟨?_, rfl, rfl, rfl⟩
    simp only [cAge, cY]
    first | rw [if_pos c12] | rw [if_neg c12, nat_of_toInt hy1]
set_option maxRecDepth 4000 in
theorem qX6_stageAt (n : Nat) (mi : MI) (mr : MR) (hR : RF mr) (hn : 186 ≤ n) (w : Nat) (hw : isW w) (hv : Nat) (hh : mr w 5 = some hv) (hV : isV hv) (x age : Int32) (p : Nat) (hx : x.toInt = (p : Int)) (hp : p < 6) : Ct KX6_stageAt 2 0 0 [.ref w, .int x, .int age] n mi mr (eqQ (some (.int (cStage mi w hv p age))) n mi mr) := by
  refine Ct.of2 [some (.ref w), some (.int x), some (.int age)] (by decide +kernel) (Nat.le_of_ble_eq_true rfl) rfl ?_
  have hwl := hw.le
  have hvl := hV.le
  refine V_aload_n dX6_stageAt_0 rfl ?_
  refine V_getr (b := (w + 1)) 6 6 dX6_stageAt_1 (Or.inl lkX6_17) rfl (sW hw (o := 0) (by omega)) ⟨by omega, by omega⟩ (hR _ _ _ (rW hw (o := 0) (k := 6) (by omega) (by omega) rfl)) ?_
  refine V_iload_n dX6_stageAt_4 rfl ?_
  refine V_aald (len := 6) (b := (w + 18 + 2 * p)) 5 p dX6_stageAt_5 (sW hw (o := 1) (by omega)) rfl ⟨by omega, by omega⟩ hx (by omega) (hR _ _ _ (rFolk hw (by omega))) ?_
  refine V_iload_n dX6_stageAt_6 rfl ?_
  refine V_callV (ci := 1) (qX1_isHereAt _ _ _ hR hn _ (pOf hw hp) _) dX6_stageAt_7 mlX6_92 mtX1_isHereAt ivX1_isHereAt rfl (sP (pOf hw (by omega))) ⟨by omega, by omega⟩ (by decide) rfl rfl (by decide) (Nat.le_of_ble_eq_true rfl) rfl rfl ?_
  rintro _ _ _ _ ⟨rfl, rfl, rfl, rfl⟩
  refine V_if_ne (tgt := 15) dX6_stageAt_10 (by decide) (fun c10 => ?_) (fun c10 => ?_)
  · refine V_iload_n dX6_stageAt_15 rfl ?_
    refine V_aload_n dX6_stageAt_16 rfl ?_
    refine V_getr (b := hv) 6 5 dX6_stageAt_17 (Or.inl lkX6_52) rfl (sW hw (o := 0) (by omega)) ⟨by omega, by omega⟩ hh ?_
    refine V_geti 5 0 dX6_stageAt_20 lnX6_96 rfl (sV hV (o := 0) (by omega)) ⟨by omega, by omega⟩ ?_
    refine V_icmp_ge (tgt := 28) dX6_stageAt_23 (by decide) (fun c23 => ?_) (fun c23 => ?_)
    · refine V_iload_n dX6_stageAt_28 rfl ?_
      refine V_aload_n dX6_stageAt_29 rfl ?_
      refine V_getr (b := hv) 6 5 dX6_stageAt_30 (Or.inl lkX6_52) rfl (sW hw (o := 0) (by omega)) ⟨by omega, by omega⟩ hh ?_
      refine V_geti 5 1 dX6_stageAt_33 lnX6_99 rfl (sV hV (o := 0) (by omega)) ⟨by omega, by omega⟩ ?_
      refine V_icmp_lt (tgt := 43) dX6_stageAt_36 (by decide) (fun c36 => ?_) (fun c36 => ?_)
      · refine V_iconst (v := 2) dX6_stageAt_43 rfl ?_
        refine V_iret dX6_stageAt_44 rfl rfl ?_
        simp only [b01_0, b01_n] at c10
        refine ⟨?_, rfl, rfl, rfl⟩
        simp only [cStage, fStage]
        repeat' split
        all_goals first | rfl | (exfalso; simp only [Int32.lt_iff_toInt_lt, Int32.le_iff_toInt_le, ← Int32.toInt_inj, Int32.reduceToInt] at *; omega)
      · refine V_iconst (v := 3) dX6_stageAt_39 rfl ?_
        refine V_goto (tgt := 44) dX6_stageAt_40 (by decide) ?_
        refine V_iret dX6_stageAt_44 rfl rfl ?_
        simp only [b01_0, b01_n] at c10
        refine ⟨?_, rfl, rfl, rfl⟩
        simp only [cStage, fStage]
        repeat' split
        all_goals first | rfl | (exfalso; simp only [Int32.lt_iff_toInt_lt, Int32.le_iff_toInt_le, ← Int32.toInt_inj, Int32.reduceToInt] at *; omega)
    · refine V_iconst (v := 1) dX6_stageAt_26 rfl ?_
      refine V_iret dX6_stageAt_27 rfl rfl ?_
      simp only [b01_0, b01_n] at c10
      refine ⟨?_, rfl, rfl, rfl⟩
      simp only [cStage, fStage]
      repeat' split
      all_goals first | rfl | (exfalso; simp only [Int32.lt_iff_toInt_lt, Int32.le_iff_toInt_le, ← Int32.toInt_inj, Int32.reduceToInt] at *; omega)
  · refine V_iconst (v := 0) dX6_stageAt_13 rfl ?_
    refine V_iret dX6_stageAt_14 rfl rfl ?_
    simp only [b01_0, b01_n] at c10
    refine ⟨?_, rfl, rfl, rfl⟩
    simp only [cStage, fStage]
    repeat' split
    all_goals first | rfl | (exfalso; simp only [Int32.lt_iff_toInt_lt, Int32.le_iff_toInt_le, ← Int32.toInt_inj, Int32.reduceToInt] at *; omega)
set_option maxRecDepth 4000 in
theorem qX6_stageBy (n : Nat) (mi : MI) (mr : MR) (hR : RF mr) (hn : 186 ≤ n) (w : Nat) (hw : isW w) (hv : Nat) (hh : mr w 5 = some hv) (hV : isV hv) (x y : Int32) (p : Nat) (hx : x.toInt = (p : Int)) (hp : p < 6) (hy : okHas y) : Ct KX6_stageBy 5 0 0 [.ref w, .int x, .int y] n mi mr (eqQ (some (.int (cStage mi w hv p (cAge mi w p y)))) n mi mr) := by
  refine Ct.of2 [some (.ref w), some (.int x), some (.int y)] (by decide +kernel) (Nat.le_of_ble_eq_true rfl) rfl ?_
  have hwl := hw.le
  have hvl := hV.le
  refine V_aload_n dX6_stageBy_0 rfl ?_
  refine V_iload_n dX6_stageBy_1 rfl ?_
  refine V_aload_n dX6_stageBy_2 rfl ?_
  refine V_iload_n dX6_stageBy_3 rfl ?_
  refine V_iload_n dX6_stageBy_4 rfl ?_
  refine V_callV (ci := 6) (qX6_ageBy _ _ _ hR hn _ hw _ _ _ hx hp hy) dX6_stageBy_5 mlX6_86 mtX6_ageBy ivX6_ageBy rfl (sW hw (o := 0) (by omega)) ⟨by omega, by omega⟩ (by decide) rfl rfl (by decide) (Nat.le_of_ble_eq_true rfl) rfl rfl ?_
  rintro _ _ _ _ ⟨rfl, rfl, rfl, rfl⟩
  refine V_callV (ci := 6) (qX6_stageAt _ _ _ hR hn _ hw _ hh hV _ _ _ hx hp) dX6_stageBy_8 mlX6_89 mtX6_stageAt ivX6_stageAt rfl (sW hw (o := 0) (by omega)) ⟨by omega, by omega⟩ (by decide) rfl rfl (by decide) (Nat.le_of_ble_eq_true rfl) rfl rfl ?_
  rintro _ _ _ _ ⟨rfl, rfl, rfl, rfl⟩
  refine V_iret dX6_stageBy_11 rfl rfl ?_
  exact ⟨rfl, rfl, rfl, rfl⟩
