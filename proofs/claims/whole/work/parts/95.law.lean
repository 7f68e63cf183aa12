/-! the law's walk -/
theorem sw_out {y : Int32} (k0 : ¬ y = 0) (k1 : ¬ y = 1) (k2 : ¬ y = 2) (k3 : ¬ y = 3) (k4 : ¬ y = 4) (k5 : ¬ y = 5) (k6 : ¬ y = 6) (k7 : ¬ y = 7) (k8 : ¬ y = 8) (k9 : ¬ y = 9) (k10 : ¬ y = 10) (k11 : ¬ y = 11) (k12 : ¬ y = 12) (k13 : ¬ y = 13) (k14 : ¬ y = 14) (k15 : ¬ y = 15) (k16 : ¬ y = 16) (k17 : ¬ y = 17) (k18 : ¬ y = 18) (k19 : ¬ y = 19) (k20 : ¬ y = 20) (k21 : ¬ y = 21) (k22 : ¬ y = 22) (k23 : ¬ y = 23) (k24 : ¬ y = 24) (k25 : ¬ y = 25) (k26 : ¬ y = 26) (k27 : ¬ y = 27) (k28 : ¬ y = 28) (k29 : ¬ y = 29) (k30 : ¬ y = 30) (k31 : ¬ y = 31) (k32 : ¬ y = 32) (k33 : ¬ y = 33) (k34 : ¬ y = 34) (k35 : ¬ y = 35) (k36 : ¬ y = 36) : y.toInt < 0 ∨ 36 < y.toInt := by
  simp only [← Int32.toInt_inj, Int32.reduceToInt] at *
  omega
theorem law_loop {len : Nat} (hl : len ≤ 2560) : ∀ m i, len ≤ i + 5 * m → NX len m i := by
  have len5 : (Int32.ofNat len - 5).toInt = (len : Int) - 5 := by
    have h : (Int32.ofNat len).toInt = (len : Int) := nI_toInt (by omega)
    rw [Int32.toInt_sub, h]
    exact bmod_id (by simp only [Int32.reduceToInt]; omega) (by simp only [Int32.reduceToInt]; omega)
  intro m
  induction m with
  | zero =>
    intro i him n mi mr c x I hlen hx
    refine V_iload_n dL_law_18 rfl ?_
    refine V_aload_n dL_law_19 rfl ?_
    refine V_scrLen dL_law_20 hlen ?_
    refine V_iconst (v := 5) dL_law_21 rfl ?_
    refine V_isub dL_law_22 ?_
    refine V_icmp_gt (tgt := 1265) dL_law_23 (by decide) (fun c23 => ?_) (fun c23 => absurd (by rw [Int32.lt_iff_toInt_lt, len5, hx]; omega) c23)
    refine V_iconst (v := 1) dL_law_1265 rfl ?_
    refine V_iret dL_law_1266 rfl rfl ?_
    rfl
  | succ m ih =>
    intro i him n mi mr c x I hlen hx
    refine V_iload_n dL_law_18 rfl ?_
    refine V_aload_n dL_law_19 rfl ?_
    refine V_scrLen dL_law_20 hlen ?_
    refine V_iconst (v := 5) dL_law_21 rfl ?_
    refine V_isub dL_law_22 ?_
    refine V_icmp_gt (tgt := 1265) dL_law_23 (by decide) (fun c23 => ?_) (fun c23 => ?_)
    · refine V_iconst (v := 1) dL_law_1265 rfl ?_
      refine V_iret dL_law_1266 rfl rfl ?_
      rfl
    · have hi : i + 5 ≤ len := by
        rw [Int32.lt_iff_toInt_lt, len5, hx] at c23
        omega
      refine V_aload_n dL_law_26 rfl ?_
      refine V_iload_n dL_law_27 rfl ?_
      refine V_scr (len := len) i dL_law_28 hlen hx (by omega) ?_
      refine V_bipush (v := 63) dL_law_29 rfl ?_
      refine V_iand dL_law_31 ?_
      by_cases k0 : (mi 0 i &&& 63) = 0
      · exact V_tableIn (off := 164) (tgt := 196) dL_law_32 (by rw [k0]; decide) (by rw [k0]; decide) (by rw [k0]; rfl) (by decide) (law_feed I hlen hx hi hl (ih _ (by omega)))
      by_cases k1 : (mi 0 i &&& 63) = 1
      · exact V_tableIn (off := 187) (tgt := 219) dL_law_32 (by rw [k1]; decide) (by rw [k1]; decide) (by rw [k1]; rfl) (by decide) (law_village I hlen hx hi hl (ih _ (by omega)))
      by_cases k2 : (mi 0 i &&& 63) = 2
      · exact V_tableIn (off := 200) (tgt := 232) dL_law_32 (by rw [k2]; decide) (by rw [k2]; decide) (by rw [k2]; rfl) (by decide) (law_person I hlen hx hi hl (ih _ (by omega)))
      by_cases k3 : (mi 0 i &&& 63) = 3
      · exact V_tableIn (off := 253) (tgt := 285) dL_law_32 (by rw [k3]; decide) (by rw [k3]; decide) (by rw [k3]; rfl) (by decide) (law_vintage I hlen hx hi hl (ih _ (by omega)))
      by_cases k4 : (mi 0 i &&& 63) = 4
      · exact V_tableIn (off := 286) (tgt := 318) dL_law_32 (by rw [k4]; decide) (by rw [k4]; decide) (by rw [k4]; rfl) (by decide) (law_of I hlen hx hi hl (ih _ (by omega)))
      by_cases k5 : (mi 0 i &&& 63) = 5
      · exact V_tableIn (off := 319) (tgt := 351) dL_law_32 (by rw [k5]; decide) (by rw [k5]; decide) (by rw [k5]; rfl) (by decide) (law_row I hlen hx hi hl (ih _ (by omega)))
      by_cases k6 : (mi 0 i &&& 63) = 6
      · exact V_tableIn (off := 362) (tgt := 394) dL_law_32 (by rw [k6]; decide) (by rw [k6]; decide) (by rw [k6]; rfl) (by decide) (law_wine I hlen hx hi hl (ih _ (by omega)))
      by_cases k7 : (mi 0 i &&& 63) = 7
      · exact V_tableIn (off := 395) (tgt := 427) dL_law_32 (by rw [k7]; decide) (by rw [k7]; decide) (by rw [k7]; rfl) (by decide) (law_stock I hlen hx hi hl (ih _ (by omega)))
      by_cases k8 : (mi 0 i &&& 63) = 8
      · exact V_tableIn (off := 428) (tgt := 460) dL_law_32 (by rw [k8]; decide) (by rw [k8]; decide) (by rw [k8]; rfl) (by decide) (law_told I hlen hx hi hl (ih _ (by omega)))
      by_cases k9 : (mi 0 i &&& 63) = 9
      · exact V_tableIn (off := 451) (tgt := 483) dL_law_32 (by rw [k9]; decide) (by rw [k9]; decide) (by rw [k9]; rfl) (by decide) (law_pour I hlen hx hi hl (ih _ (by omega)))
      by_cases k10 : (mi 0 i &&& 63) = 10
      · exact V_tableIn (off := 484) (tgt := 516) dL_law_32 (by rw [k10]; decide) (by rw [k10]; decide) (by rw [k10]; rfl) (by decide) (law_dry I hlen hx hi hl (ih _ (by omega)))
      by_cases k11 : (mi 0 i &&& 63) = 11
      · exact V_tableIn (off := 507) (tgt := 539) dL_law_32 (by rw [k11]; decide) (by rw [k11]; decide) (by rw [k11]; rfl) (by decide) (law_dawn I hlen hx hi hl (ih _ (by omega)))
      by_cases k12 : (mi 0 i &&& 63) = 12
      · exact V_tableIn (off := 530) (tgt := 562) dL_law_32 (by rw [k12]; decide) (by rw [k12]; decide) (by rw [k12]; rfl) (by decide) (law_blend I hlen hx hi hl (ih _ (by omega)))
      by_cases k13 : (mi 0 i &&& 63) = 13
      · exact V_tableIn (off := 563) (tgt := 595) dL_law_32 (by rw [k13]; decide) (by rw [k13]; decide) (by rw [k13]; rfl) (by decide) (law_alive I hlen hx hi hl (ih _ (by omega)))
      by_cases k14 : (mi 0 i &&& 63) = 14
      · exact V_tableIn (off := 586) (tgt := 618) dL_law_32 (by rw [k14]; decide) (by rw [k14]; decide) (by rw [k14]; rfl) (by decide) (law_brings I hlen hx hi hl (ih _ (by omega)))
      by_cases k15 : (mi 0 i &&& 63) = 15
      · exact V_tableIn (off := 609) (tgt := 641) dL_law_32 (by rw [k15]; decide) (by rw [k15]; decide) (by rw [k15]; rfl) (by decide) (law_nearest I hlen hx hi hl (ih _ (by omega)))
      by_cases k16 : (mi 0 i &&& 63) = 16
      · exact V_tableIn (off := 642) (tgt := 674) dL_law_32 (by rw [k16]; decide) (by rw [k16]; decide) (by rw [k16]; rfl) (by decide) (law_two I hlen hx hi hl (ih _ (by omega)))
      by_cases k17 : (mi 0 i &&& 63) = 17
      · exact V_tableIn (off := 655) (tgt := 687) dL_law_32 (by rw [k17]; decide) (by rw [k17]; decide) (by rw [k17]; rfl) (by decide) (law_meet I hlen hx hi hl (ih _ (by omega)))
      by_cases k18 : (mi 0 i &&& 63) = 18
      · exact V_tableIn (off := 698) (tgt := 730) dL_law_32 (by rw [k18]; decide) (by rw [k18]; decide) (by rw [k18]; rfl) (by decide) (law_fewest I hlen hx hi hl (ih _ (by omega)))
      by_cases k19 : (mi 0 i &&& 63) = 19
      · exact V_tableIn (off := 731) (tgt := 763) dL_law_32 (by rw [k19]; decide) (by rw [k19]; decide) (by rw [k19]; rfl) (by decide) (law_close I hlen hx hi hl (ih _ (by omega)))
      by_cases k20 : (mi 0 i &&& 63) = 20
      · exact V_tableIn (off := 754) (tgt := 786) dL_law_32 (by rw [k20]; decide) (by rw [k20]; decide) (by rw [k20]; rfl) (by decide) (law_boldest I hlen hx hi hl (ih _ (by omega)))
      by_cases k21 : (mi 0 i &&& 63) = 21
      · exact V_tableIn (off := 777) (tgt := 809) dL_law_32 (by rw [k21]; decide) (by rw [k21]; decide) (by rw [k21]; rfl) (by decide) (law_see I hlen hx hi hl (ih _ (by omega)))
      by_cases k22 : (mi 0 i &&& 63) = 22
      · exact V_tableIn (off := 810) (tgt := 842) dL_law_32 (by rw [k22]; decide) (by rw [k22]; decide) (by rw [k22]; rfl) (by decide) (law_drank I hlen hx hi hl (ih _ (by omega)))
      by_cases k23 : (mi 0 i &&& 63) = 23
      · exact V_tableIn (off := 833) (tgt := 865) dL_law_32 (by rw [k23]; decide) (by rw [k23]; decide) (by rw [k23]; rfl) (by decide) (law_birth I hlen hx hi hl (ih _ (by omega)))
      by_cases k24 : (mi 0 i &&& 63) = 24
      · exact V_tableIn (off := 866) (tgt := 898) dL_law_32 (by rw [k24]; decide) (by rw [k24]; decide) (by rw [k24]; rfl) (by decide) (law_firm I hlen hx hi hl (ih _ (by omega)))
      by_cases k25 : (mi 0 i &&& 63) = 25
      · exact V_tableIn (off := 899) (tgt := 931) dL_law_32 (by rw [k25]; decide) (by rw [k25]; decide) (by rw [k25]; rfl) (by decide) (law_odds I hlen hx hi hl (ih _ (by omega)))
      by_cases k26 : (mi 0 i &&& 63) = 26
      · exact V_tableIn (off := 943) (tgt := 975) dL_law_32 (by rw [k26]; decide) (by rw [k26]; decide) (by rw [k26]; rfl) (by decide) (law_mean I hlen hx hi hl (ih _ (by omega)))
      by_cases k27 : (mi 0 i &&& 63) = 27
      · exact V_tableIn (off := 967) (tgt := 999) dL_law_32 (by rw [k27]; decide) (by rw [k27]; decide) (by rw [k27]; rfl) (by decide) (law_night I hlen hx hi hl (ih _ (by omega)))
      by_cases k28 : (mi 0 i &&& 63) = 28
      · exact V_tableIn (off := 1010) (tgt := 1042) dL_law_32 (by rw [k28]; decide) (by rw [k28]; decide) (by rw [k28]; rfl) (by decide) (law_done I hlen hx hi hl (ih _ (by omega)))
      by_cases k29 : (mi 0 i &&& 63) = 29
      · exact V_tableIn (off := 1033) (tgt := 1065) dL_law_32 (by rw [k29]; decide) (by rw [k29]; decide) (by rw [k29]; rfl) (by decide) (law_book I hlen hx hi hl (ih _ (by omega)))
      by_cases k30 : (mi 0 i &&& 63) = 30
      · exact V_tableIn (off := 1066) (tgt := 1098) dL_law_32 (by rw [k30]; decide) (by rw [k30]; decide) (by rw [k30]; rfl) (by decide) (law_looked I hlen hx hi hl (ih _ (by omega)))
      by_cases k31 : (mi 0 i &&& 63) = 31
      · exact V_tableIn (off := 1079) (tgt := 1111) dL_law_32 (by rw [k31]; decide) (by rw [k31]; decide) (by rw [k31]; rfl) (by decide) (law_act I hlen hx hi hl (ih _ (by omega)))
      by_cases k32 : (mi 0 i &&& 63) = 32
      · exact V_tableIn (off := 1122) (tgt := 1154) dL_law_32 (by rw [k32]; decide) (by rw [k32]; decide) (by rw [k32]; rfl) (by decide) (law_trace I hlen hx hi hl (ih _ (by omega)))
      by_cases k33 : (mi 0 i &&& 63) = 33
      · exact V_tableIn (off := 1145) (tgt := 1177) dL_law_32 (by rw [k33]; decide) (by rw [k33]; decide) (by rw [k33]; rfl) (by decide) (law_as I hlen hx hi hl (ih _ (by omega)))
      by_cases k34 : (mi 0 i &&& 63) = 34
      · exact V_tableIn (off := 1178) (tgt := 1210) dL_law_32 (by rw [k34]; decide) (by rw [k34]; decide) (by rw [k34]; rfl) (by decide) (law_image I hlen hx hi hl (ih _ (by omega)))
      by_cases k35 : (mi 0 i &&& 63) = 35
      · exact V_tableIn (off := 1191) (tgt := 1223) dL_law_32 (by rw [k35]; decide) (by rw [k35]; decide) (by rw [k35]; rfl) (by decide) (law_undo I hlen hx hi hl (ih _ (by omega)))
      by_cases k36 : (mi 0 i &&& 63) = 36
      · exact V_tableIn (off := 1204) (tgt := 1236) dL_law_32 (by rw [k36]; decide) (by rw [k36]; decide) (by rw [k36]; rfl) (by decide) (law_count I hlen hx hi hl (ih _ (by omega)))
      refine V_tableOut (tgt := 1259) dL_law_32 (sw_out k0 k1 k2 k3 k4 k5 k6 k7 k8 k9 k10 k11 k12 k13 k14 k15 k16 k17 k18 k19 k20 k21 k22 k23 k24 k25 k26 k27 k28 k29 k30 k31 k32 k33 k34 k35 k36) (by decide) ?_
      refine V_iinc (v := _ + (5)) (L' := [_, _, _, _]) dL_law_1259 (by decide) rfl rfl rfl rfl ?_
      refine V_goto (tgt := 18) dL_law_1262 (by decide) ?_
      have hx5 : (x + 5).toInt = ((i + 5 : Nat) : Int) := ix_add hx (by decide) (by omega)
      exact (ih (i + 5) (by omega) _ _ _ c _ I hlen hx5).less (by omega) (by show 4 * m ≤ 4 * (m + 1); omega)
set_option maxRecDepth 4000 in
theorem law_all {len : Nat} (hl : len ≤ 2560) (mi : MI) (mr : MR) (hlen : mr 0 0 = some len) : V KL_law 33 666 5958 lawQ 0 [some (.ref 0), none, none, none] [] 32 mi mr := by
  refine V_new (ci := 7) (cl' := 665) (sl' := 5951) dL_law_0 rfl (by decide) clL_7 insX7 iniX7 rfl rfl ?_
  refine V_dup dL_law_3 rfl ?_
  refine V_callI (cl' := 525) (sl' := 4180) (qX7_init _ _ mi0_s) dL_law_4 mlL_9 mtX7_init imX7_init ⟨rfl, rfl⟩ rfl rfl (by decide) (Nat.le_of_ble_eq_true rfl) rfl rfl ?_
  rintro _ _ m1 r1 ⟨rfl, rfl, ⟨b1, b1'⟩, h7⟩
  refine V_astore_n (L' := [_, _, _, _]) dL_law_7 (by decide) rfl rfl ?_
  refine V_new (ci := 8) (cl' := 524) (sl' := 4151) dL_law_8 rfl (by decide) clL_10 insX8 iniX8 rfl rfl ?_
  refine V_dup dL_law_11 rfl ?_
  refine V_callI (cl' := 512) (sl' := 2048) (qX8_init _ _ (fun k => mi0_s)) dL_law_12 mlL_12 mtX8_init imX8_init ⟨rfl, rfl⟩ rfl rfl (by decide) (Nat.le_of_ble_eq_true rfl) rfl rfl ?_
  rintro _ _ m2 r2 ⟨rfl, rfl, ⟨b2, b2'⟩, h4, h25, h174⟩
  refine V_astore_n (L' := [_, _, _, _]) dL_law_15 (by decide) rfl rfl ?_
  refine V_iconst (v := 0) dL_law_16 rfl ?_
  refine V_istore_n (L' := [_, _, _, _]) dL_law_17 (by decide) rfl rfl ?_
  have hlen2 : r2 0 0 = some len := by
    rw [(b2 _ (by omega) _).2, mr0_n (by omega), (b1 _ (by omega) _).2, mr0_n (by omega)]
    exact hlen
  have hRF : RF r2 := fun a k b hb => by
    have hl9 := RT_lo hb
    by_cases e : a < 173
    · rw [(b2 _ (by omega) _).2, mr0_n (by omega)]
      exact b1' a k b hl9.1 e hb
    · exact b2' a k b (by omega) hl9.2 hb
  have h7' : HI7 m2 r2 := h7.row (fun a k h1 h2 => ⟨by rw [(b2 _ (by omega) _).1, mi0_n (by omega)], by rw [(b2 _ (by omega) _).2, mr0_n (by omega)]⟩)
  exact law_loop hl 512 0 (by omega) 186 m2 r2 (0, 0, 0, 0, 0, 0, 0) 0 (inv0 hRF h7' h4 h25 h174) hlen2 rfl
