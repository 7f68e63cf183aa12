/-! THE TEXTS' methods -/
def xL (k : Nat) : Nat := gSL.getD k 0
def xB (k j : Nat) : Int32 := (gSB.getD k []).getD j 0
theorem xL_dec : ∀ k : Fin 8, Int32.ofNat (gSL.getD k.1 0) >>> ((0 : Int32) &&& 31) = nI (xL k.1) ∧ (nI (xL k.1)).toInt = (xL k.1 : Int) ∧ xL k.1 ≤ 6 ∧ Int32.ofNat (gSL.getD k.1 0) = nI (xL k.1) := by decide +kernel
theorem xB_dec : ∀ (k : Fin 8) (j : Fin 6), ((xB k.1 j.1 &&& 255).toUInt32 % 65536).toInt32 = xB k.1 j.1 ∧ narrow .char (.int (xB k.1 j.1)) = .int (xB k.1 j.1) := by decide +kernel
theorem i2b_ch {x : Int32} (h1 : 0 ≤ x) (h2 : x ≤ 127) : x.toInt8.toInt32 = x := by
  rw [Int32.le_iff_toInt_le] at h1 h2
  simp only [Int32.reduceToInt] at h1 h2
  rw [← Int32.toInt_inj, Int8.toInt_toInt32, Int32.toInt_toInt8]
  exact Int.bmod_eq_of_le (by omega) (by omega)
/-- the first of m from i on that is x -/
def fnd (g : Nat → Int32) (x : Int32) : Nat → Nat → Option Nat
  | 0, _ => none
  | m + 1, i => if g i = x then some i else fnd g x m (i + 1)
def fndV (o : Option Nat) : Int32 := match o with
  | none => -1
  | some i => nI i
theorem fnd_lt {g : Nat → Int32} {x : Int32} : ∀ {m i j : Nat}, fnd g x m i = some j → i ≤ j ∧ j < i + m
  | 0, i, j, h => by cases h
  | m + 1, i, j, h => by
    unfold fnd at h
    by_cases e : g i = x
    · rw [if_pos e] at h
      cases h
      omega
    · rw [if_neg e] at h
      have := fnd_lt h
      omega
set_option maxRecDepth 4000 in
theorem qJ0_isLatin1 (n : Nat) (mi : MI) (mr : MR) (k : Nat) (hk : k < 8)  : Ct KJ0_isLatin1_aae02 1 0 0 [.ref (4 + k)] n mi mr (eqQ (some (.int 1)) n mi mr) := by
  refine Ct.of2 [some (.ref (4 + k))] (by decide +kernel) (Nat.le_of_ble_eq_true rfl) rfl ?_
  refine V_gets (v := .int 1) dJ0_isLatin1_aae02_0 lsJ0_38 (fun _ _ _ h => h.2.2.2.1) ?_
  refine V_if_eq (tgt := 17) dJ0_isLatin1_aae02_3 (by decide) (fun c3 => absurd c3 (by decide)) (fun c3 => ?_)
  refine V_aload_n dJ0_isLatin1_aae02_6 rfl ?_
  refine V_scod (k := k) dJ0_isLatin1_aae02_7 lsJ0_15 hk ?_
  refine V_if_ne (tgt := 17) dJ0_isLatin1_aae02_10 (by decide) (fun c10 => absurd rfl c10) (fun c10 => ?_)
  refine V_iconst (v := 1) dJ0_isLatin1_aae02_13 rfl ?_
  refine V_goto (tgt := 18) dJ0_isLatin1_aae02_14 (by decide) ?_
  refine V_iret dJ0_isLatin1_aae02_18 rfl rfl ?_
  exact ⟨rfl, rfl, rfl, rfl⟩
set_option maxRecDepth 4000 in
theorem qJ0_coder (n : Nat) (mi : MI) (mr : MR) (k : Nat) (hk : k < 8)  : Ct KJ0_coder_7d493 1 0 0 [.ref (4 + k)] n mi mr (eqQ (some (.int 0)) n mi mr) := by
  refine Ct.of2 [some (.ref (4 + k))] (by decide +kernel) (Nat.le_of_ble_eq_true rfl) rfl ?_
  refine V_gets (v := .int 1) dJ0_coder_7d493_0 lsJ0_38 (fun _ _ _ h => h.2.2.2.1) ?_
  refine V_if_eq (tgt := 13) dJ0_coder_7d493_3 (by decide) (fun c3 => absurd c3 (by decide)) (fun c3 => ?_)
  refine V_aload_n dJ0_coder_7d493_6 rfl ?_
  refine V_scod (k := k) dJ0_coder_7d493_7 lsJ0_15 hk ?_
  refine V_goto (tgt := 14) dJ0_coder_7d493_10 (by decide) ?_
  refine V_iret dJ0_coder_7d493_14 rfl rfl ?_
  exact ⟨rfl, rfl, rfl, rfl⟩
set_option maxRecDepth 4000 in
theorem qJ0_length (n : Nat) (mi : MI) (mr : MR) (k : Nat) (hk : k < 8)  : Ct KJ0_length_8abf5 2 0 0 [.ref (4 + k)] n mi mr (eqQ (some (.int (nI (xL k)))) n mi mr) := by
  refine Ct.of2 [some (.ref (4 + k))] (by decide +kernel) (Nat.le_of_ble_eq_true rfl) rfl ?_
  refine V_aload_n dJ0_length_8abf5_0 rfl ?_
  refine V_sval (k := k) dJ0_length_8abf5_1 lsJ0_9 hk ?_
  refine V_alenO dJ0_length_8abf5_4 hk ?_
  refine V_aload_n dJ0_length_8abf5_5 rfl ?_
  refine V_callVs (k := k) (qJ0_coder n mi mr k hk) dJ0_length_8abf5_6 mlJ0_335 mtJ0_coder_7d493 ivJ0_coder_7d493 rfl hk rfl rfl (by decide) (Nat.le_of_ble_eq_true rfl) rfl rfl ?_
  rintro _ _ _ _ ⟨rfl, rfl, rfl, rfl⟩
  refine V_ishr dJ0_length_8abf5_9 ?_
  refine V_iret dJ0_length_8abf5_10 rfl rfl ?_
  refine ⟨?_, rfl, rfl, rfl⟩
  rw [show Int32.ofNat (gSL.getD k 0) >>> ((0 : Int32) &&& 31) = nI (xL k) from (xL_dec ⟨k, hk⟩).1]
theorem qJ3_checkIndex (n : Nat) (mi : MI) (mr : MR) (x y : Int32) (i ln : Nat) (hi : x.toInt = (i : Int)) (hl : y.toInt = (ln : Int)) (hil : i < ln) (fv : Value) (hfv : fv.category = 1) : Ct KJ3_checkIndex_8e157 1 0 0 [.int x, .int y, fv] n mi mr (eqQ (some (.int x)) n mi mr) := by
  have h3 : (lg_sl [.int x, .int y, fv]).length ≤ 3 := by
    cases fv <;> first | exact absurd (show (2 : Nat) = 1 from hfv) (by decide) | exact Nat.le_of_ble_eq_true rfl
  refine Ct.of [some (.int x), some (.int y), none] (by decide +kernel) h3 (fun j v hj => ?_) ?_
  · match j, hj with
    | 0, hj => cases hj; exact List.mem_cons_self
    | 1, hj => cases hj; exact List.mem_cons_of_mem _ List.mem_cons_self
    | 2, hj => cases hj
    | j + 3, hj => cases hj
  refine V_iload_n dJ3_checkIndex_8e157_0 rfl ?_
  refine V_if_lt (tgt := 9) dJ3_checkIndex_8e157_1 (by decide) (fun c1 => absurd c1 (Int32.not_lt.mpr (by rw [Int32.le_iff_toInt_le, hi]; simp only [Int32.reduceToInt]; omega))) (fun c1 => ?_)
  refine V_iload_n dJ3_checkIndex_8e157_4 rfl ?_
  refine V_iload_n dJ3_checkIndex_8e157_5 rfl ?_
  refine V_icmp_lt (tgt := 16) dJ3_checkIndex_8e157_6 (by decide) (fun c6 => ?_) (fun c6 => absurd ((lt_nat hi hl).mpr hil) c6)
  refine V_iload_n dJ3_checkIndex_8e157_16 rfl ?_
  refine V_iret dJ3_checkIndex_8e157_17 rfl rfl ?_
  exact ⟨rfl, rfl, rfl, rfl⟩
set_option maxRecDepth 4000 in
theorem qJ0_checkIndex (n : Nat) (mi : MI) (mr : MR) (x y : Int32) (i ln : Nat) (hi : x.toInt = (i : Int)) (hl : y.toInt = (ln : Int)) (hil : i < ln)  : Ct KJ0_checkIndex_df160 2 0 0 [.int x, .int y] n mi mr (eqQ none n mi mr) := by
  refine Ct.of2 [some (.int x), some (.int y)] (by decide +kernel) (Nat.le_of_ble_eq_true rfl) rfl ?_
  refine V_iload_n dJ0_checkIndex_df160_0 rfl ?_
  refine V_iload_n dJ0_checkIndex_df160_1 rfl ?_
  refine V_getsFmt dJ0_checkIndex_df160_2 lsJ0_1053 (fun fv hfv => ?_)
  refine V_callS (qJ3_checkIndex n mi mr _ _ i ln hi hl hil fv hfv) dJ0_checkIndex_df160_5 mlJ0_1059 mtJ3_checkIndex_8e157 smJ3_checkIndex_8e157 rfl rfl (by decide) (Nat.le_of_ble_eq_true rfl) rfl rfl ?_
  rintro _ _ _ _ ⟨rfl, rfl, rfl, rfl⟩
  refine V_pop dJ0_checkIndex_df160_8 rfl ?_
  refine V_ret dJ0_checkIndex_df160_9 rfl ?_
  exact ⟨rfl, rfl, rfl, rfl⟩
set_option maxRecDepth 4000 in
theorem qJ1_charAt (n : Nat) (mi : MI) (mr : MR) (k : Nat) (hk : k < 8) (x : Int32) (j : Nat) (hj : x.toInt = (j : Int)) (hjl : j < xL k)  : Ct KJ1_charAt_3b067 3 0 0 [.ref (16 + k), .int x] n mi mr (eqQ (some (.int (xB k j))) n mi mr) := by
  refine Ct.of2 [some (.ref (16 + k)), some (.int x)] (by decide +kernel) (Nat.le_of_ble_eq_true rfl) rfl ?_
  refine V_iload_n dJ1_charAt_3b067_0 rfl ?_
  refine V_aload_n dJ1_charAt_3b067_1 rfl ?_
  refine V_alenO dJ1_charAt_3b067_2 hk ?_
  refine V_callS (qJ0_checkIndex n mi mr _ _ j (xL k) hj (by rw [(xL_dec ⟨k, hk⟩).2.2.2]; exact (xL_dec ⟨k, hk⟩).2.1) hjl) dJ1_charAt_3b067_3 mlJ1_9 mtJ0_checkIndex_df160 smJ0_checkIndex_df160 rfl rfl (by decide) (Nat.le_of_ble_eq_true rfl) rfl rfl ?_
  rintro _ _ _ _ ⟨rfl, rfl, rfl, rfl⟩
  refine V_aload_n dJ1_charAt_3b067_6 rfl ?_
  refine V_iload_n dJ1_charAt_3b067_7 rfl ?_
  refine V_baldO j dJ1_charAt_3b067_8 hk hj hjl ?_
  refine V_sipush (v := 255) dJ1_charAt_3b067_9 rfl ?_
  refine V_iand dJ1_charAt_3b067_12 ?_
  refine V_i2c dJ1_charAt_3b067_13 ?_
  have hl6 : xL k ≤ 6 := (xL_dec ⟨k, hk⟩).2.2.1
  have hd : (((gSB.getD k []).getD j 0 &&& 255).toUInt32 % 65536).toInt32 = xB k j ∧ narrow .char (.int (xB k j)) = .int (xB k j) := xB_dec ⟨k, hk⟩ ⟨j, by omega⟩
  rw [hd.1]
  refine V_iret dJ1_charAt_3b067_14 rfl hd.2 ?_
  exact ⟨rfl, rfl, rfl, rfl⟩
set_option maxRecDepth 4000 in
theorem qJ0_charAt (n : Nat) (mi : MI) (mr : MR) (k : Nat) (hk : k < 8) (x : Int32) (j : Nat) (hj : x.toInt = (j : Int)) (hjl : j < xL k)  : Ct KJ0_charAt_5068e 4 0 0 [.ref (4 + k), .int x] n mi mr (eqQ (some (.int (xB k j))) n mi mr) := by
  refine Ct.of2 [some (.ref (4 + k)), some (.int x)] (by decide +kernel) (Nat.le_of_ble_eq_true rfl) rfl ?_
  refine V_aload_n dJ0_charAt_5068e_0 rfl ?_
  refine V_callVs (k := k) (qJ0_isLatin1 n mi mr k hk) dJ0_charAt_5068e_1 mlJ0_492 mtJ0_isLatin1_aae02 ivJ0_isLatin1_aae02 rfl hk rfl rfl (by decide) (Nat.le_of_ble_eq_true rfl) rfl rfl ?_
  rintro _ _ _ _ ⟨rfl, rfl, rfl, rfl⟩
  refine V_if_eq (tgt := 16) dJ0_charAt_5068e_4 (by decide) (fun c4 => absurd c4 (by decide)) (fun c4 => ?_)
  refine V_aload_n dJ0_charAt_5068e_7 rfl ?_
  refine V_sval (k := k) dJ0_charAt_5068e_8 lsJ0_9 hk ?_
  refine V_iload_n dJ0_charAt_5068e_11 rfl ?_
  refine V_callS (qJ1_charAt n mi mr k hk _ j hj hjl) dJ0_charAt_5068e_12 mlJ0_495 mtJ1_charAt_3b067 smJ1_charAt_3b067 rfl rfl (by decide) (Nat.le_of_ble_eq_true rfl) rfl rfl ?_
  rintro _ _ _ _ ⟨rfl, rfl, rfl, rfl⟩
  have hl6 : xL k ≤ 6 := (xL_dec ⟨k, hk⟩).2.2.1
  have hd : (((gSB.getD k []).getD j 0 &&& 255).toUInt32 % 65536).toInt32 = xB k j ∧ narrow .char (.int (xB k j)) = .int (xB k j) := xB_dec ⟨k, hk⟩ ⟨j, by omega⟩
  refine V_iret dJ0_charAt_5068e_15 rfl hd.2 ?_
  exact ⟨rfl, rfl, rfl, rfl⟩
set_option maxRecDepth 4000 in
theorem qJ1_canEncode (n : Nat) (mi : MI) (mr : MR) (x : Int32) (h1 : 0 ≤ x) (h2 : x ≤ 127)  : Ct KJ1_canEncode_9a6ad 1 0 0 [.int x] n mi mr (eqQ (some (.int 1)) n mi mr) := by
  refine Ct.of2 [some (.int x)] (by decide +kernel) (Nat.le_of_ble_eq_true rfl) rfl ?_
  refine V_iload_n dJ1_canEncode_9a6ad_0 rfl ?_
  refine V_if_lt (tgt := 15) dJ1_canEncode_9a6ad_1 (by decide) (fun c1 => absurd c1 (Int32.not_lt.mpr h1)) (fun c1 => ?_)
  refine V_iload_n dJ1_canEncode_9a6ad_4 rfl ?_
  refine V_sipush (v := 255) dJ1_canEncode_9a6ad_5 rfl ?_
  refine V_icmp_gt (tgt := 15) dJ1_canEncode_9a6ad_8 (by decide) (fun c8 => absurd c8 (Int32.not_lt.mpr (Int32.le_trans h2 (by decide)))) (fun c8 => ?_)
  refine V_iconst (v := 1) dJ1_canEncode_9a6ad_11 rfl ?_
  refine V_goto (tgt := 16) dJ1_canEncode_9a6ad_12 (by decide) ?_
  refine V_iret dJ1_canEncode_9a6ad_16 rfl rfl ?_
  exact ⟨rfl, rfl, rfl, rfl⟩
set_option maxRecDepth 4000 in
theorem qJ1_indexOfChar (n : Nat) (mi : MI) (mr : MR) (k : Nat) (hk : k < 8) (x y z : Int32) (h1 : 0 ≤ x) (h2 : x ≤ 127) (hy : y.toInt = ((0 : Nat) : Int)) (hz : z.toInt = (xL k : Int)) : Ct KJ1_indexOfChar_4cfef 1 0 0 [.ref (16 + k), .int x, .int y, .int z] n mi mr (eqQ (some (.int (fndV (fnd (xB k) x (xL k) 0)))) n mi mr) := by
  have hl6 : xL k ≤ 6 := (xL_dec ⟨k, hk⟩).2.2.1
  refine Ct.of2 [some (.ref (16 + k)), some (.int x), some (.int y), some (.int z), none, none] (by decide +kernel) (Nat.le_of_ble_eq_true rfl) rfl ?_
  have loop : ∀ (m i : Nat) (u : Int32), i + m = xL k → u.toInt = (i : Int) → fnd (xB k) x m i = fnd (xB k) x (xL k) 0 → V KJ1_indexOfChar_4cfef 1 0 0 (eqQ (some (.int (fndV (fnd (xB k) x (xL k) 0)))) n mi mr) 7 [some (.ref (16 + k)), some (.int x), some (.int y), some (.int z), some (.int x), some (.int u)] [] n mi mr := by
    intro m
    induction m with
    | zero =>
      intro i u him hu hf
      refine V_iload dJ1_indexOfChar_4cfef_7 rfl ?_
      refine V_iload_n dJ1_indexOfChar_4cfef_9 rfl ?_
      refine V_icmp_ge (tgt := 31) dJ1_indexOfChar_4cfef_10 (by decide) (fun c10 => ?_) (fun c10 => absurd ((le_nat hz hu).mpr (by omega)) c10)
      refine V_iconst (v := -1) dJ1_indexOfChar_4cfef_31 rfl ?_
      refine V_iret dJ1_indexOfChar_4cfef_32 rfl rfl ?_
      refine ⟨?_, rfl, rfl, rfl⟩
      rw [← hf]
      rfl
    | succ m ih =>
      intro i u him hu hf
      refine V_iload dJ1_indexOfChar_4cfef_7 rfl ?_
      refine V_iload_n dJ1_indexOfChar_4cfef_9 rfl ?_
      refine V_icmp_ge (tgt := 31) dJ1_indexOfChar_4cfef_10 (by decide) (fun c10 => absurd ((le_nat hz hu).mp c10) (by omega)) (fun c10 => ?_)
      refine V_aload_n dJ1_indexOfChar_4cfef_13 rfl ?_
      refine V_iload dJ1_indexOfChar_4cfef_14 rfl ?_
      refine V_baldO i dJ1_indexOfChar_4cfef_16 hk hu (show i < xL k by omega) ?_
      refine V_iload dJ1_indexOfChar_4cfef_17 rfl ?_
      refine V_icmp_ne (tgt := 25) dJ1_indexOfChar_4cfef_19 (by decide) (fun c19 => ?_) (fun c19 => ?_)
      · refine V_iinc (v := _ + (1)) (L' := [_, _, _, _, _, _]) dJ1_indexOfChar_4cfef_25 (by decide) rfl rfl rfl rfl ?_
        refine V_goto (tgt := 7) dJ1_indexOfChar_4cfef_28 (by decide) ?_
        refine ih (i + 1) _ (by omega) (ix_add hu (by decide) (by omega)) ?_
        rw [← hf, show fnd (xB k) x (m + 1) i = if xB k i = x then some i else fnd (xB k) x m (i + 1) from rfl, if_neg (show ¬ xB k i = x from c19)]
      · refine V_iload dJ1_indexOfChar_4cfef_22 rfl ?_
        refine V_iret dJ1_indexOfChar_4cfef_24 rfl rfl ?_
        refine ⟨?_, rfl, rfl, rfl⟩
        rw [← hf, show fnd (xB k) x (m + 1) i = if xB k i = x then some i else fnd (xB k) x m (i + 1) from rfl, if_pos (show xB k i = x from c19)]
        exact congrArg (fun v => some (Value.int v)) (nI_of_toInt hu).symm
  refine V_iload_n dJ1_indexOfChar_4cfef_0 rfl ?_
  refine V_i2b dJ1_indexOfChar_4cfef_1 ?_
  rw [i2b_ch h1 h2]
  refine V_istore (L' := [_, _, _, _, _, _]) dJ1_indexOfChar_4cfef_2 (by decide) rfl rfl ?_
  refine V_iload_n dJ1_indexOfChar_4cfef_4 rfl ?_
  refine V_istore (L' := [_, _, _, _, _, _]) dJ1_indexOfChar_4cfef_5 (by decide) rfl rfl ?_
  exact loop (xL k) 0 _ (by omega) hy rfl
set_option maxRecDepth 4000 in
theorem qJ1_indexOf (n : Nat) (mi : MI) (mr : MR) (k : Nat) (hk : k < 8) (x y z : Int32) (h1 : 0 ≤ x) (h2 : x ≤ 127) (hy : y = 0) (hz : z = nI (xL k)) (hpos : 0 < xL k)  : Ct KJ1_indexOf_4cfef 2 0 0 [.ref (16 + k), .int x, .int y, .int z] n mi mr (eqQ (some (.int (fndV (fnd (xB k) x (xL k) 0)))) n mi mr) := by
  refine Ct.of2 [some (.ref (16 + k)), some (.int x), some (.int y), some (.int z)] (by decide +kernel) (Nat.le_of_ble_eq_true rfl) rfl ?_
  refine V_iload_n dJ1_indexOf_4cfef_0 rfl ?_
  refine V_callS (qJ1_canEncode n mi mr _ h1 h2) dJ1_indexOf_4cfef_1 mlJ1_88 mtJ1_canEncode_9a6ad smJ1_canEncode_9a6ad rfl rfl (by decide) (Nat.le_of_ble_eq_true rfl) rfl rfl ?_
  rintro _ _ _ _ ⟨rfl, rfl, rfl, rfl⟩
  refine V_if_ne (tgt := 9) dJ1_indexOf_4cfef_4 (by decide) (fun c4 => ?_) (fun c4 => absurd c4 (by decide))
  refine V_iload_n dJ1_indexOf_4cfef_9 rfl ?_
  refine V_iconst (v := 0) dJ1_indexOf_4cfef_10 rfl ?_
  refine V_max dJ1_indexOf_4cfef_11 mlJ1_92 sm_max iniJ9 cm_max (by decide) (Nat.le_of_ble_eq_true rfl) ?_
  rw [hy, if_neg (show ¬ (0 : Int32) < 0 by decide)]
  refine V_istore_n (L' := [_, _, _, _]) dJ1_indexOf_4cfef_14 (by decide) rfl rfl ?_
  refine V_iload_n dJ1_indexOf_4cfef_15 rfl ?_
  refine V_aload_n dJ1_indexOf_4cfef_16 rfl ?_
  refine V_alenO dJ1_indexOf_4cfef_17 hk ?_
  refine V_min dJ1_indexOf_4cfef_18 mlJ1_38 sm_min iniJ9 cm_min (by decide) (Nat.le_of_ble_eq_true rfl) ?_
  obtain ⟨-, hl1, hl6, hl4⟩ := xL_dec ⟨k, hk⟩
  have hl1 : (nI (xL k)).toInt = (xL k : Int) := hl1
  rw [hz, show Int32.ofNat (gSL.getD k 0) = nI (xL k) from hl4, ite_self]
  refine V_istore_n (L' := [_, _, _, _]) dJ1_indexOf_4cfef_21 (by decide) rfl rfl ?_
  refine V_iload_n dJ1_indexOf_4cfef_22 rfl ?_
  refine V_iload_n dJ1_indexOf_4cfef_23 rfl ?_
  refine V_icmp_lt (tgt := 29) dJ1_indexOf_4cfef_24 (by decide) (fun c24 => ?_) (fun c24 => absurd ((lt_nat (x := 0) (a := 0) rfl hl1).mpr hpos) c24)
  refine V_aload_n dJ1_indexOf_4cfef_29 rfl ?_
  refine V_iload_n dJ1_indexOf_4cfef_30 rfl ?_
  refine V_iload_n dJ1_indexOf_4cfef_31 rfl ?_
  refine V_iload_n dJ1_indexOf_4cfef_32 rfl ?_
  refine V_callS (qJ1_indexOfChar n mi mr k hk _ _ _ h1 h2 rfl hl1) dJ1_indexOf_4cfef_33 mlJ1_95 mtJ1_indexOfChar_4cfef smJ1_indexOfChar_4cfef rfl rfl (by decide) (Nat.le_of_ble_eq_true rfl) rfl rfl ?_
  rintro _ _ _ _ ⟨rfl, rfl, rfl, rfl⟩
  refine V_iret dJ1_indexOf_4cfef_36 rfl rfl ?_
  exact ⟨rfl, rfl, rfl, rfl⟩
set_option maxRecDepth 4000 in
theorem qJ0_indexOf2 (n : Nat) (mi : MI) (mr : MR) (k : Nat) (hk : k < 8) (x : Int32) (h1 : 0 ≤ x) (h2 : x ≤ 127) (hpos : 0 < xL k)  : Ct KJ0_indexOf_7cf53 3 0 0 [.ref (4 + k), .int x, .int 0] n mi mr (eqQ (some (.int (fndV (fnd (xB k) x (xL k) 0)))) n mi mr) := by
  refine Ct.of2 [some (.ref (4 + k)), some (.int x), some (.int 0)] (by decide +kernel) (Nat.le_of_ble_eq_true rfl) rfl ?_
  refine V_aload_n dJ0_indexOf_7cf53_0 rfl ?_
  refine V_callVs (k := k) (qJ0_isLatin1 n mi mr k hk) dJ0_indexOf_7cf53_1 mlJ0_492 mtJ0_isLatin1_aae02 ivJ0_isLatin1_aae02 rfl hk rfl rfl (by decide) (Nat.le_of_ble_eq_true rfl) rfl rfl ?_
  rintro _ _ _ _ ⟨rfl, rfl, rfl, rfl⟩
  refine V_if_eq (tgt := 23) dJ0_indexOf_7cf53_4 (by decide) (fun c4 => absurd c4 (by decide)) (fun c4 => ?_)
  refine V_aload_n dJ0_indexOf_7cf53_7 rfl ?_
  refine V_sval (k := k) dJ0_indexOf_7cf53_8 lsJ0_9 hk ?_
  refine V_iload_n dJ0_indexOf_7cf53_11 rfl ?_
  refine V_iload_n dJ0_indexOf_7cf53_12 rfl ?_
  refine V_aload_n dJ0_indexOf_7cf53_13 rfl ?_
  refine V_callVs (k := k) (qJ0_length n mi mr k hk) dJ0_indexOf_7cf53_14 mlJ0_505 mtJ0_length_8abf5 ivJ0_length_8abf5 rfl hk rfl rfl (by decide) (Nat.le_of_ble_eq_true rfl) rfl rfl ?_
  rintro _ _ _ _ ⟨rfl, rfl, rfl, rfl⟩
  refine V_callS (qJ1_indexOf n mi mr k hk _ _ _ h1 h2 rfl rfl hpos) dJ0_indexOf_7cf53_17 mlJ0_637 mtJ1_indexOf_4cfef smJ1_indexOf_4cfef rfl rfl (by decide) (Nat.le_of_ble_eq_true rfl) rfl rfl ?_
  rintro _ _ _ _ ⟨rfl, rfl, rfl, rfl⟩
  refine V_goto (tgt := 36) dJ0_indexOf_7cf53_20 (by decide) ?_
  refine V_iret dJ0_indexOf_7cf53_36 rfl rfl ?_
  exact ⟨rfl, rfl, rfl, rfl⟩
set_option maxRecDepth 4000 in
theorem qJ0_indexOf (n : Nat) (mi : MI) (mr : MR) (k : Nat) (hk : k < 8) (x : Int32) (h1 : 0 ≤ x) (h2 : x ≤ 127) (hpos : 0 < xL k)  : Ct KJ0_indexOf_0f7a4 4 0 0 [.ref (4 + k), .int x] n mi mr (eqQ (some (.int (fndV (fnd (xB k) x (xL k) 0)))) n mi mr) := by
  refine Ct.of2 [some (.ref (4 + k)), some (.int x)] (by decide +kernel) (Nat.le_of_ble_eq_true rfl) rfl ?_
  refine V_aload_n dJ0_indexOf_0f7a4_0 rfl ?_
  refine V_iload_n dJ0_indexOf_0f7a4_1 rfl ?_
  refine V_iconst (v := 0) dJ0_indexOf_0f7a4_2 rfl ?_
  refine V_callVs (k := k) (qJ0_indexOf2 n mi mr k hk _ h1 h2 hpos) dJ0_indexOf_0f7a4_3 mlJ0_633 mtJ0_indexOf_7cf53 ivJ0_indexOf_7cf53 rfl hk rfl rfl (by decide) (Nat.le_of_ble_eq_true rfl) rfl rfl ?_
  rintro _ _ _ _ ⟨rfl, rfl, rfl, rfl⟩
  refine V_iret dJ0_indexOf_0f7a4_6 rfl rfl ?_
  exact ⟨rfl, rfl, rfl, rfl⟩
