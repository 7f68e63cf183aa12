theorem Ct.of2 {K : KT} {d mc ms : Nat} {as : List Value} {n : Nat} {mi : MI} {mr : MR} {Q : QT} (L : List (Option Value)) (hy : plainName K.1.cls = true) (hargs : (lg_sl as).length ≤ K.2.2.1) (hL : L.zipIdx.filterMap (fun q => q.1.map (fun v => (q.2, v))) = lv_args 0 as)
    (h : V K d mc ms Q 0 L [] n mi mr) : Ct K d mc ms as n mi mr Q := by
  refine Ct.of L hy hargs (fun i v hi => ?_) h
  rw [← hL]
  exact List.mem_filterMap.mpr ⟨(some v, i), List.mem_zipIdx_iff_getElem?.mpr (by simpa using hi), rfl⟩
theorem bmod_id {z : Int} (h1 : -2147483648 ≤ z) (h2 : z < 2147483648) : z.bmod (2 ^ 32) = z := by
  rw [Int.bmod_def]
  split <;> omega
theorem ix_add {x y : Int32} {a b : Nat} (hx : x.toInt = (a : Int)) (hy : y.toInt = (b : Int)) (h : a + b < 2147483648) : (x + y).toInt = ((a + b : Nat) : Int) := by
  rw [Int32.toInt_add, hx, hy, bmod_id (by omega) (by omega)]
  omega
theorem ix_sub {x y : Int32} {a b : Nat} (hx : x.toInt = (a : Int)) (hy : y.toInt = (b : Int)) (h : b ≤ a ∧ a < 2147483648) : (x - y).toInt = ((a - b : Nat) : Int) := by
  rw [Int32.toInt_sub, hx, hy, bmod_id (by omega) (by omega)]
  omega
theorem ix_mul {x y : Int32} {a b : Nat} (hx : x.toInt = (a : Int)) (hy : y.toInt = (b : Int)) (h : a * b < 2147483648) : (x * y).toInt = ((a * b : Nat) : Int) := by
  rw [Int32.toInt_mul, hx, hy, ← Int.natCast_mul]
  exact bmod_id (by omega) (by omega)
set_option maxRecDepth 4000 in
theorem qX8_in (n : Nat) (mi : MI) (mr : MR) (v lo hi : Int32) : Ct KX8_in 1 0 0 [.int v, .int lo, .int hi] n mi mr (eqQ (some (.int (b01 (lo ≤ v ∧ v ≤ hi)))) n mi mr) := by
  refine Ct.of2 [some (.int v), some (.int lo), some (.int hi)] (by decide +kernel) (Nat.le_of_ble_eq_true rfl) rfl ?_
  refine V_iload_n dX8_in_0 rfl ?_
  refine V_iload_n dX8_in_1 rfl ?_
  refine V_icmp_lt (tgt := 14) dX8_in_2 (by decide) (fun c2 => ?_) (fun c2 => ?_)
  · refine V_iconst (v := 0) dX8_in_14 rfl ?_
    refine V_iret dX8_in_15 rfl rfl ?_
    first | exact ⟨by rw [b01_t (by simp only [Int32.lt_iff_toInt_lt, Int32.le_iff_toInt_le, ← Int32.toInt_inj, Int32.reduceToInt] at *; omega)], rfl, rfl, rfl⟩ | exact ⟨by rw [b01_f (by simp only [Int32.lt_iff_toInt_lt, Int32.le_iff_toInt_le, ← Int32.toInt_inj, Int32.reduceToInt] at *; omega)], rfl, rfl, rfl⟩
  · refine V_iload_n dX8_in_5 rfl ?_
    refine V_iload_n dX8_in_6 rfl ?_
    refine V_icmp_gt (tgt := 14) dX8_in_7 (by decide) (fun c7 => ?_) (fun c7 => ?_)
    · refine V_iconst (v := 0) dX8_in_14 rfl ?_
      refine V_iret dX8_in_15 rfl rfl ?_
      first | exact ⟨by rw [b01_t (by simp only [Int32.lt_iff_toInt_lt, Int32.le_iff_toInt_le, ← Int32.toInt_inj, Int32.reduceToInt] at *; omega)], rfl, rfl, rfl⟩ | exact ⟨by rw [b01_f (by simp only [Int32.lt_iff_toInt_lt, Int32.le_iff_toInt_le, ← Int32.toInt_inj, Int32.reduceToInt] at *; omega)], rfl, rfl, rfl⟩
    · refine V_iconst (v := 1) dX8_in_10 rfl ?_
      refine V_goto (tgt := 15) dX8_in_11 (by decide) ?_
      refine V_iret dX8_in_15 rfl rfl ?_
      first | exact ⟨by rw [b01_t (by simp only [Int32.lt_iff_toInt_lt, Int32.le_iff_toInt_le, ← Int32.toInt_inj, Int32.reduceToInt] at *; omega)], rfl, rfl, rfl⟩ | exact ⟨by rw [b01_f (by simp only [Int32.lt_iff_toInt_lt, Int32.le_iff_toInt_le, ← Int32.toInt_inj, Int32.reduceToInt] at *; omega)], rfl, rfl, rfl⟩
def isPer (s : Nat → Int32) (p : Int32) : Prop := 0 ≤ p ∧ p ≤ s 12 - 1
def isPerD (s : Nat → Int32) (p : Int32) : Decidable (isPer s p) := inferInstanceAs (Decidable (0 ≤ p ∧ p ≤ s 12 - 1))
set_option maxRecDepth 4000 in
theorem qX8_isPerson (n : Nat) (mi : MI) (mr : MR) (hR : RF mr) (hn : 186 ≤ n) (p : Int32) : Ct KX8_isPerson 2 0 0 [.ref 173, .int p] n mi mr (eqQ (some (.int (b01 (0 ≤ p ∧ p ≤ mi 174 12 - 1)))) n mi mr) := by
  refine Ct.of2 [some (.ref 173), some (.int p)] (by decide +kernel) (Nat.le_of_ble_eq_true rfl) rfl ?_
  refine V_iload_n dX8_isPerson_0 rfl ?_
  refine V_iconst (v := 0) dX8_isPerson_1 rfl ?_
  refine V_aload_n dX8_isPerson_2 rfl ?_
  refine V_getr (b := 174) 8 1 dX8_isPerson_3 (Or.inl lkX8_9) rfl rfl ⟨by omega, by omega⟩ (hR _ _ _ rfl) ?_
  refine V_bipush (v := 12) dX8_isPerson_6 rfl ?_
  refine V_iald (len := 938) 12 dX8_isPerson_8 rfl ⟨by omega, by omega⟩ (by decide) (by omega) ?_
  refine V_iconst (v := 1) dX8_isPerson_9 rfl ?_
  refine V_isub dX8_isPerson_10 ?_
  refine V_callS (qX8_in _ _ _ _ _ _) dX8_isPerson_11 mlX8_53 mtX8_in smX8_in rfl rfl (by decide) (Nat.le_of_ble_eq_true rfl) rfl rfl ?_
  rintro _ _ _ _ ⟨rfl, rfl, rfl, rfl⟩
  refine V_iret dX8_isPerson_14 rfl b01_nar ?_
  exact ⟨rfl, rfl, rfl, rfl⟩
set_option maxRecDepth 4000 in
theorem qX1_isHereAt (n : Nat) (mi : MI) (mr : MR) (hR : RF mr) (hn : 186 ≤ n) (a : Nat) (hp : isP a) (age : Int32) : Ct KX1_isHereAt 1 0 0 [.ref a, .int age] n mi mr (eqQ (some (.int (b01 (0 ≤ age ∧ age ≤ mi a 4)))) n mi mr) := by
  refine Ct.of2 [some (.ref a), some (.int age)] (by decide +kernel) (Nat.le_of_ble_eq_true rfl) rfl ?_
  have hle := hp.le
  refine V_iload_n dX1_isHereAt_0 rfl ?_
  refine V_if_lt (tgt := 16) dX1_isHereAt_1 (by decide) (fun c1 => ?_) (fun c1 => ?_)
  · refine V_iconst (v := 0) dX1_isHereAt_16 rfl ?_
    refine V_iret dX1_isHereAt_17 rfl rfl ?_
    first | exact ⟨by rw [b01_t (by simp only [Int32.lt_iff_toInt_lt, Int32.le_iff_toInt_le, ← Int32.toInt_inj, Int32.reduceToInt] at *; omega)], rfl, rfl, rfl⟩ | exact ⟨by rw [b01_f (by simp only [Int32.lt_iff_toInt_lt, Int32.le_iff_toInt_le, ← Int32.toInt_inj, Int32.reduceToInt] at *; omega)], rfl, rfl, rfl⟩
  · refine V_iload_n dX1_isHereAt_4 rfl ?_
    refine V_aload_n dX1_isHereAt_5 rfl ?_
    refine V_geti 1 4 dX1_isHereAt_6 (Or.inl lkX1_31) rfl (sP hp) ⟨by omega, by omega⟩ ?_
    refine V_icmp_gt (tgt := 16) dX1_isHereAt_9 (by decide) (fun c9 => ?_) (fun c9 => ?_)
    · refine V_iconst (v := 0) dX1_isHereAt_16 rfl ?_
      refine V_iret dX1_isHereAt_17 rfl rfl ?_
      first | exact ⟨by rw [b01_t (by simp only [Int32.lt_iff_toInt_lt, Int32.le_iff_toInt_le, ← Int32.toInt_inj, Int32.reduceToInt] at *; omega)], rfl, rfl, rfl⟩ | exact ⟨by rw [b01_f (by simp only [Int32.lt_iff_toInt_lt, Int32.le_iff_toInt_le, ← Int32.toInt_inj, Int32.reduceToInt] at *; omega)], rfl, rfl, rfl⟩
    · refine V_iconst (v := 1) dX1_isHereAt_12 rfl ?_
      refine V_goto (tgt := 17) dX1_isHereAt_13 (by decide) ?_
      refine V_iret dX1_isHereAt_17 rfl rfl ?_
      first | exact ⟨by rw [b01_t (by simp only [Int32.lt_iff_toInt_lt, Int32.le_iff_toInt_le, ← Int32.toInt_inj, Int32.reduceToInt] at *; omega)], rfl, rfl, rfl⟩ | exact ⟨by rw [b01_f (by simp only [Int32.lt_iff_toInt_lt, Int32.le_iff_toInt_le, ← Int32.toInt_inj, Int32.reduceToInt] at *; omega)], rfl, rfl, rfl⟩
