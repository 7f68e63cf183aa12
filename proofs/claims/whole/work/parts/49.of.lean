noncomputable def sTold (S : Nat → Int32) (c : CT) (nc : Nat) (e : Nat → Nat) (s nv : Nat → Int32) (x : Int32) : Int32 := if x = 0 then S 0 else if x = 1 then sTells S 223 18 else if x = 2 then sTells S 228 60 else if x = 3 then bitsTo (sHere S) (cN c) else if x = 4 then sAllNerve S nc e s nv (cN c) else if x = 5 then sumTo (botF S) (cW c) else -1
noncomputable def sOf (S : Nat → Int32) (nc : Nat) (e : Nat → Nat) (s nv : Nat → Int32) (p x : Int32) : Int32 := if 0 ≤ p ∧ p < S 12 then (if x = 0 then S (20 + p.toNatClampNeg) else if x = 1 then S (26 + p.toNatClampNeg) else if x = 2 then S (32 + p.toNatClampNeg) else if x = 3 then S (38 + p.toNatClampNeg) else if x = 4 then (if S (1 + p.toNatClampNeg) = -1 then -5 else S (1 + p.toNatClampNeg)) else if x = 5 then sAge S p.toNatClampNeg (S (1 + p.toNatClampNeg)) else if x = 6 then (if sHere S p.toNatClampNeg = true then 1 else 0) else if x = 7 then sStage S p.toNatClampNeg (sAge S p.toNatClampNeg (S (1 + p.toNatClampNeg))) else if x = 8 then sNerve S nc e s nv p.toNatClampNeg p (S (1 + p.toNatClampNeg)) else -10001) else -10001
set_option maxRecDepth 4000 in
theorem qX7_told (n : Nat) (mi : MI) (mr : MR) (c : CT) (I : INV n mi mr c) (nc : Nat) (e : Nat → Nat) (hO : VOK mi (hvOf (mi 174)) nc e) (x : Int32) : Ct KX7_told 8 0 0 [.ref 32, .int x] n mi mr (offQ (some (.int (sTold (mi 174) c nc e (mi (hvOf (mi 174) + 1)) (mi (hvOf (mi 174) + 2)) x))) n mi mr (offF 40)) := by
  refine Ct.of2 [some (.ref 32), some (.int x)] (by decide +kernel) (Nat.le_of_ble_eq_true rfl) rfl ?_
  have hhv := I.hv
  have hcl := I.cl.1
  have hisV := I.2.2.1.isV
  have hvl := hisV.le
  obtain ⟨hR, hn, ⟨⟨hN, hN6⟩, ⟨hW, hW5⟩, ⟨hL, hL5⟩, ⟨hT, hT100⟩, ⟨hS, hS5⟩, ⟨hP, hP8⟩, ⟨hBk, hB8⟩⟩, hrw⟩ := I.facts
  have hBD := I.2.2.1
  obtain ⟨⟨r1, r2, r3, r4, r5⟩, hper, hvin, htape, hseen, hnight, hbook⟩ := id hrw
  have hcN : nat (mi 40 1) (cN c) := by rw [r2]; exact hN
  have hcW : nat (mi 40 2) (cW c) := by rw [r3]; exact hW
  clear I
  refine V_iload_n dX7_told_0 rfl ?_
  by_cases k0 : x = 0
  · refine V_tableIn (off := 39) (tgt := 40) dX7_told_1 (by rw [k0]; decide) (by rw [k0]; decide) (by rw [k0]; rfl) (by decide) ?_
    refine V_aload_n dX7_told_40 rfl ?_
    refine V_getr (b := 40) 7 1 dX7_told_41 (Or.inl lkX7_30) rfl rfl ⟨by omega, by omega⟩ (hR _ _ _ rfl) ?_
    refine V_geti 6 0 dX7_told_44 lnX7_149 rfl rfl ⟨by omega, by omega⟩ ?_
    refine V_iret dX7_told_47 rfl rfl ?_
    refine ⟨?_, rfl, rfl, Off.rf⟩
    unfold sTold
    rw [if_pos k0, r1]
  by_cases k1 : x = 1
  · refine V_tableIn (off := 47) (tgt := 48) dX7_told_1 (by rw [k1]; decide) (by rw [k1]; decide) (by rw [k1]; rfl) (by decide) ?_
    refine V_aload_n dX7_told_48 rfl ?_
    refine V_getr (b := 40) 7 1 dX7_told_49 (Or.inl lkX7_30) rfl rfl ⟨by omega, by omega⟩ (hR _ _ _ rfl) ?_
    refine V_getr (b := (hvOf (mi 174))) 6 5 dX7_told_52 lnX7_71 rfl rfl ⟨by omega, by omega⟩ hcl ?_
    refine V_geti 5 0 dX7_told_55 lnX7_152 rfl (sV hisV (o := 0) (by omega)) ⟨by omega, by omega⟩ ?_
    refine V_iret dX7_told_58 rfl rfl ?_
    refine ⟨?_, rfl, rfl, Off.rf⟩
    unfold sTold
    rw [if_neg k0, if_pos k1, hhv.1]
  by_cases k2 : x = 2
  · refine V_tableIn (off := 58) (tgt := 59) dX7_told_1 (by rw [k2]; decide) (by rw [k2]; decide) (by rw [k2]; rfl) (by decide) ?_
    refine V_aload_n dX7_told_59 rfl ?_
    refine V_getr (b := 40) 7 1 dX7_told_60 (Or.inl lkX7_30) rfl rfl ⟨by omega, by omega⟩ (hR _ _ _ rfl) ?_
    refine V_getr (b := (hvOf (mi 174))) 6 5 dX7_told_63 lnX7_71 rfl rfl ⟨by omega, by omega⟩ hcl ?_
    refine V_geti 5 1 dX7_told_66 lnX7_155 rfl (sV hisV (o := 0) (by omega)) ⟨by omega, by omega⟩ ?_
    refine V_iret dX7_told_69 rfl rfl ?_
    refine ⟨?_, rfl, rfl, Off.rf⟩
    unfold sTold
    rw [if_neg k0, if_neg k1, if_pos k2, hhv.2]
  by_cases k3 : x = 3
  · refine V_tableIn (off := 69) (tgt := 70) dX7_told_1 (by rw [k3]; decide) (by rw [k3]; decide) (by rw [k3]; rfl) (by decide) ?_
    refine V_aload_n dX7_told_70 rfl ?_
    refine V_getr (b := 40) 7 1 dX7_told_71 (Or.inl lkX7_30) rfl rfl ⟨by omega, by omega⟩ (hR _ _ _ rfl) ?_
    refine V_callV (ci := 6) (qX6_whoIsHere _ _ _ hR hn _ (Or.inl rfl) (hvOf (mi 174)) hcl hBD.isV (cN c) hcN hN6 (fun p hp => by rw [(hrw.hasP hp).2.2.1]; exact (hBD.2.2.2.1 p hp).2.2.2.2.1.ok hW5)) dX7_told_74 mlX7_158 mtX6_whoIsHere ivX6_whoIsHere rfl rfl ⟨by omega, by omega⟩ (by decide) rfl rfl (by decide) (Nat.le_of_ble_eq_true rfl) rfl rfl ?_
    rintro _ _ _ _ ⟨rfl, rfl, rfl, rfl⟩
    refine V_iret dX7_told_77 rfl rfl ?_
    refine ⟨?_, rfl, rfl, Off.rf⟩
    unfold sTold
    rw [if_neg k0, if_neg k1, if_neg k2, if_pos k3, bitsTo_eq (fun p hp => here_eq hBD hrw hp hhv)]
  by_cases k4 : x = 4
  · refine V_tableIn (off := 77) (tgt := 78) dX7_told_1 (by rw [k4]; decide) (by rw [k4]; decide) (by rw [k4]; rfl) (by decide) ?_
    refine V_aload_n dX7_told_78 rfl ?_
    refine V_getr (b := 40) 7 1 dX7_told_79 (Or.inl lkX7_30) rfl rfl ⟨by omega, by omega⟩ (hR _ _ _ rfl) ?_
    refine V_callV (ci := 6) (qX6_nerveOfAll _ _ _ hR hn _ (Or.inl rfl) (hvOf (mi 174)) hcl hisV nc e hO (cN c) hcN hN6 (fun p hp => by rw [(hrw.hasP hp).2.2.1]; exact (hBD.2.2.2.1 p hp).2.2.2.2.1.ok hW5)) dX7_told_82 mlX7_162 mtX6_nerveOfAll ivX6_nerveOfAll rfl rfl ⟨by omega, by omega⟩ (by decide) rfl rfl (by decide) (Nat.le_of_ble_eq_true rfl) rfl rfl ?_
    rintro _ _ _ _ ⟨rfl, rfl, rfl, ho9⟩
    refine V_iret dX7_told_85 rfl rfl ?_
    refine ⟨?_, rfl, rfl, ho9⟩
    unfold sTold
    rw [if_neg k0, if_neg k1, if_neg k2, if_neg k3, if_pos k4, nerves_eq hBD.y hrw hhv]
  by_cases k5 : x = 5
  · refine V_tableIn (off := 85) (tgt := 86) dX7_told_1 (by rw [k5]; decide) (by rw [k5]; decide) (by rw [k5]; rfl) (by decide) ?_
    refine V_aload_n dX7_told_86 rfl ?_
    refine V_getr (b := 40) 7 1 dX7_told_87 (Or.inl lkX7_30) rfl rfl ⟨by omega, by omega⟩ (hR _ _ _ rfl) ?_
    refine V_callV (ci := 6) (qX6_bottlesInAll _ _ _ hR hn _ (Or.inl rfl) (cW c) hcW hW5) dX7_told_90 mlX7_165 mtX6_bottlesInAll ivX6_bottlesInAll rfl rfl ⟨by omega, by omega⟩ (by decide) rfl rfl (by decide) (Nat.le_of_ble_eq_true rfl) rfl rfl ?_
    rintro _ _ _ _ ⟨rfl, rfl, rfl, rfl⟩
    refine V_iret dX7_told_93 rfl rfl ?_
    refine ⟨?_, rfl, rfl, Off.rf⟩
    unfold sTold
    rw [if_neg k0, if_neg k1, if_neg k2, if_neg k3, if_neg k4, if_pos k5, sumTo_eq (f := mi (40 + 3)) (g := botF (mi 174)) (fun k hk => (hvin k hk).2)]
  refine V_tableOut (tgt := 94) dX7_told_1 (by simp only [← Int32.toInt_inj, Int32.reduceToInt] at *; omega) (by decide) ?_
  refine V_iconst (v := -1) dX7_told_94 rfl ?_
  refine V_iret dX7_told_95 rfl rfl ?_
  refine ⟨?_, rfl, rfl, Off.rf⟩
  unfold sTold
  rw [if_neg k0, if_neg k1, if_neg k2, if_neg k3, if_neg k4, if_neg k5]
set_option maxRecDepth 4000 in
theorem qX8_told (n : Nat) (mi : MI) (mr : MR) (c : CT) (hR : RF mr) (hn : 186 ≤ n) (hBD : BD (mi 174) c) (nc : Nat) (e : Nat → Nat) (s nv : Nat → Int32) (b : Nat) (hMV : MV (mi 174) nc e s nv b) (x : Int32) : Ct KX8_told 8 0 0 [.ref 173, .int x] n mi mr (offQ (some (.int (sTold (mi 174) c nc e s nv x))) n mi mr byM) := by
  refine Ct.of2 [some (.ref 173), some (.int x)] (by decide +kernel) (Nat.le_of_ble_eq_true rfl) rfl ?_
  obtain ⟨⟨hN, hN6⟩, ⟨hW, hW5⟩, ⟨hL, hL5⟩, ⟨hT, hT100⟩, ⟨hS, hS5⟩, ⟨hP, hP8⟩, ⟨hBk, hB8⟩⟩ := hBD.1
  refine V_iload_n dX8_told_0 rfl ?_
  by_cases k0 : x = 0
  · refine V_tableIn (off := 39) (tgt := 40) dX8_told_1 (by rw [k0]; decide) (by rw [k0]; decide) (by rw [k0]; rfl) (by decide) ?_
    refine V_aload_n dX8_told_40 rfl ?_
    refine V_getr (b := 174) 8 1 dX8_told_41 (Or.inl lkX8_9) rfl rfl ⟨by omega, by omega⟩ (hR _ _ _ rfl) ?_
    refine V_iconst (v := 0) dX8_told_44 rfl ?_
    refine V_iald (len := 938) 0 dX8_told_45 rfl ⟨by omega, by omega⟩ (by decide) (by omega) ?_
    refine V_iret dX8_told_46 rfl rfl ?_
    refine ⟨?_, rfl, rfl, Off.rf⟩
    unfold sTold
    rw [if_pos k0]
  by_cases k1 : x = 1
  · refine V_tableIn (off := 46) (tgt := 47) dX8_told_1 (by rw [k1]; decide) (by rw [k1]; decide) (by rw [k1]; rfl) (by decide) ?_
    refine V_aload_n dX8_told_47 rfl ?_
    refine V_sipush (v := 223) dX8_told_48 rfl ?_
    refine V_bipush (v := 18) dX8_told_51 rfl ?_
    refine V_callV (ci := 8) (qX8_tellsOf _ _ _ hR hn _ _ 223 rfl (by decide) hBD.okS.1) dX8_told_53 mlX8_143 mtX8_tellsOf ivX8_tellsOf rfl rfl ⟨by omega, by omega⟩ (by decide) rfl rfl (by decide) (Nat.le_of_ble_eq_true rfl) rfl rfl ?_
    rintro _ _ _ _ ⟨rfl, rfl, rfl, rfl⟩
    refine V_iret dX8_told_56 rfl rfl ?_
    refine ⟨?_, rfl, rfl, Off.rf⟩
    unfold sTold
    rw [if_neg k0, if_pos k1]
  by_cases k2 : x = 2
  · refine V_tableIn (off := 56) (tgt := 57) dX8_told_1 (by rw [k2]; decide) (by rw [k2]; decide) (by rw [k2]; rfl) (by decide) ?_
    refine V_aload_n dX8_told_57 rfl ?_
    refine V_sipush (v := 228) dX8_told_58 rfl ?_
    refine V_bipush (v := 60) dX8_told_61 rfl ?_
    refine V_callV (ci := 8) (qX8_tellsOf _ _ _ hR hn _ _ 228 rfl (by decide) hBD.okS.1) dX8_told_63 mlX8_143 mtX8_tellsOf ivX8_tellsOf rfl rfl ⟨by omega, by omega⟩ (by decide) rfl rfl (by decide) (Nat.le_of_ble_eq_true rfl) rfl rfl ?_
    rintro _ _ _ _ ⟨rfl, rfl, rfl, rfl⟩
    refine V_iret dX8_told_66 rfl rfl ?_
    refine ⟨?_, rfl, rfl, Off.rf⟩
    unfold sTold
    rw [if_neg k0, if_neg k1, if_pos k2]
  by_cases k3 : x = 3
  · refine V_tableIn (off := 66) (tgt := 67) dX8_told_1 (by rw [k3]; decide) (by rw [k3]; decide) (by rw [k3]; rfl) (by decide) ?_
    refine V_aload_n dX8_told_67 rfl ?_
    refine V_callV (ci := 8) (qX8_whoIsHere _ _ _ hR hn (cN c) hN6 hBD.okS hN) dX8_told_68 mlX8_178 mtX8_whoIsHere ivX8_whoIsHere rfl rfl ⟨by omega, by omega⟩ (by decide) rfl rfl (by decide) (Nat.le_of_ble_eq_true rfl) rfl rfl ?_
    rintro _ _ _ _ ⟨rfl, rfl, rfl, rfl⟩
    refine V_iret dX8_told_71 rfl rfl ?_
    refine ⟨?_, rfl, rfl, Off.rf⟩
    unfold sTold
    rw [if_neg k0, if_neg k1, if_neg k2, if_pos k3]
  by_cases k4 : x = 4
  · refine V_tableIn (off := 71) (tgt := 72) dX8_told_1 (by rw [k4]; decide) (by rw [k4]; decide) (by rw [k4]; rfl) (by decide) ?_
    refine V_aload_n dX8_told_72 rfl ?_
    refine V_callV (ci := 8) (qX8_allNerve _ _ _ c hR hn hBD.w nc e s nv b hMV) dX8_told_73 mlX8_181 mtX8_allNerve ivX8_allNerve rfl rfl ⟨by omega, by omega⟩ (by decide) rfl rfl (by decide) (Nat.le_of_ble_eq_true rfl) rfl rfl ?_
    rintro _ _ _ _ ⟨rfl, rfl, rfl, ho9⟩
    refine V_iret dX8_told_76 rfl rfl ?_
    refine ⟨?_, rfl, rfl, ho9⟩
    unfold sTold
    rw [if_neg k0, if_neg k1, if_neg k2, if_neg k3, if_pos k4]
  by_cases k5 : x = 5
  · refine V_tableIn (off := 76) (tgt := 77) dX8_told_1 (by rw [k5]; decide) (by rw [k5]; decide) (by rw [k5]; rfl) (by decide) ?_
    refine V_aload_n dX8_told_77 rfl ?_
    refine V_callV (ci := 8) (qX8_allBottles _ _ _ hR hn (cW c) hW hW5) dX8_told_78 mlX8_184 mtX8_allBottles ivX8_allBottles rfl rfl ⟨by omega, by omega⟩ (by decide) rfl rfl (by decide) (Nat.le_of_ble_eq_true rfl) rfl rfl ?_
    rintro _ _ _ _ ⟨rfl, rfl, rfl, rfl⟩
    refine V_iret dX8_told_81 rfl rfl ?_
    refine ⟨?_, rfl, rfl, Off.rf⟩
    unfold sTold
    rw [if_neg k0, if_neg k1, if_neg k2, if_neg k3, if_neg k4, if_pos k5]
  refine V_tableOut (tgt := 82) dX8_told_1 (by simp only [← Int32.toInt_inj, Int32.reduceToInt] at *; omega) (by decide) ?_
  refine V_iconst (v := -1) dX8_told_82 rfl ?_
  refine V_iret dX8_told_83 rfl rfl ?_
  refine ⟨?_, rfl, rfl, Off.rf⟩
  unfold sTold
  rw [if_neg k0, if_neg k1, if_neg k2, if_neg k3, if_neg k4, if_neg k5]
set_option maxRecDepth 4000 in
theorem qX7_of (n : Nat) (mi : MI) (mr : MR) (c : CT) (I : INV n mi mr c) (nc : Nat) (e : Nat → Nat) (hO : VOK mi (hvOf (mi 174)) nc e) (p x : Int32) : Ct KX7_of 8 0 0 [.ref 32, .int p, .int x] n mi mr (offQ (some (.int (sOf (mi 174) nc e (mi (hvOf (mi 174) + 1)) (mi (hvOf (mi 174) + 2)) p x))) n mi mr (offF 40)) := by
  refine Ct.of2 [some (.ref 32), some (.int p), some (.int x), none] (by decide +kernel) (Nat.le_of_ble_eq_true rfl) rfl ?_
  have hhv := I.hv
  have hcl := I.cl.1
  have hisV := I.2.2.1.isV
  have hvl := hisV.le
  obtain ⟨hR, hn, ⟨⟨hN, hN6⟩, ⟨hW, hW5⟩, ⟨hL, hL5⟩, ⟨hT, hT100⟩, ⟨hS, hS5⟩, ⟨hP, hP8⟩, ⟨hBk, hB8⟩⟩, hrw⟩ := I.facts
  have hBD := I.2.2.1
  obtain ⟨⟨r1, r2, r3, r4, r5⟩, hper, hvin, htape, hseen, hnight, hbook⟩ := id hrw
  have hcN : nat (mi 40 1) (cN c) := by rw [r2]; exact hN
  have hcW : nat (mi 40 2) (cW c) := by rw [r3]; exact hW
  clear I
  refine V_aload_n dX7_of_0 rfl ?_
  refine V_iload_n dX7_of_1 rfl ?_
  refine V_callV (ci := 7) (qX7_isOne _ _ _ hR hn _) dX7_of_2 mlX7_105 mtX7_isOne ivX7_isOne rfl rfl ⟨by omega, by omega⟩ (by decide) rfl rfl (by decide) (Nat.le_of_ble_eq_true rfl) rfl rfl ?_
  rintro _ _ _ _ ⟨rfl, rfl, rfl, rfl⟩
  refine V_if_ne (tgt := 12) dX7_of_5 (by decide) (fun c5 => ?_) (fun c5 => ?_)
  · obtain ⟨a, ha1, ha2⟩ := idxC c5 hcN
    obtain ⟨q1, q2, q3, q4⟩ := hrw.hasP ha2
    rw [show (40 + 18 : Nat) = 58 from rfl] at q1 q2 q3 q4
    have hau := (hBD.2.2.2.1 a ha2).2.2.2.2.1
    obtain ⟨-, -, q5, q6, -⟩ := hper a ha2
    rw [show (40 + 18 : Nat) = 58 from rfl] at q5 q6
    refine V_aload_n dX7_of_12 rfl ?_
    refine V_getr (b := 40) 7 1 dX7_of_13 (Or.inl lkX7_30) rfl rfl ⟨by omega, by omega⟩ (hR _ _ _ rfl) ?_
    refine V_getr (b := 41) 6 6 dX7_of_16 lnX7_85 rfl rfl ⟨by omega, by omega⟩ (hR _ _ _ rfl) ?_
    refine V_iload_n dX7_of_19 rfl ?_
    refine V_aald (len := 6) (b := (58 + 2 * a)) 5 a dX7_of_20 rfl rfl ⟨by omega, by omega⟩ ha1 (by omega) (hR _ _ _ (rFolk (Or.inl rfl) (by omega))) ?_
    refine V_astore_n (L' := [_, _, _, _]) dX7_of_21 (by decide) rfl rfl ?_
    refine V_iload_n dX7_of_22 rfl ?_
    by_cases k0 : x = 0
    · refine V_tableIn (off := 49) (tgt := 72) dX7_of_23 (by rw [k0]; decide) (by rw [k0]; decide) (by rw [k0]; rfl) (by decide) ?_
      refine V_aload_n dX7_of_72 rfl ?_
      refine V_geti 1 1 dX7_of_73 lnX7_108 rfl (sP (pOf (Or.inl rfl) (by omega))) ⟨by omega, by omega⟩ ?_
      refine V_iret dX7_of_76 rfl rfl ?_
      refine ⟨?_, rfl, rfl, Off.rf⟩
      unfold sOf
      rw [if_pos (by rw [← r2]; exact b01_n.mp c5), nat_of_toInt ha1, if_pos k0, q1]
    by_cases k1 : x = 1
    · refine V_tableIn (off := 54) (tgt := 77) dX7_of_23 (by rw [k1]; decide) (by rw [k1]; decide) (by rw [k1]; rfl) (by decide) ?_
      refine V_aload_n dX7_of_77 rfl ?_
      refine V_geti 1 2 dX7_of_78 lnX7_111 rfl (sP (pOf (Or.inl rfl) (by omega))) ⟨by omega, by omega⟩ ?_
      refine V_iret dX7_of_81 rfl rfl ?_
      refine ⟨?_, rfl, rfl, Off.rf⟩
      unfold sOf
      rw [if_pos (by rw [← r2]; exact b01_n.mp c5), nat_of_toInt ha1, if_neg k0, if_pos k1, q2]
    by_cases k2 : x = 2
    · refine V_tableIn (off := 59) (tgt := 82) dX7_of_23 (by rw [k2]; decide) (by rw [k2]; decide) (by rw [k2]; rfl) (by decide) ?_
      refine V_aload_n dX7_of_82 rfl ?_
      refine V_geti 1 3 dX7_of_83 lnX7_114 rfl (sP (pOf (Or.inl rfl) (by omega))) ⟨by omega, by omega⟩ ?_
      refine V_iret dX7_of_86 rfl rfl ?_
      refine ⟨?_, rfl, rfl, Off.rf⟩
      unfold sOf
      rw [if_pos (by rw [← r2]; exact b01_n.mp c5), nat_of_toInt ha1, if_neg k0, if_neg k1, if_pos k2, q5]
    by_cases k3 : x = 3
    · refine V_tableIn (off := 64) (tgt := 87) dX7_of_23 (by rw [k3]; decide) (by rw [k3]; decide) (by rw [k3]; rfl) (by decide) ?_
      refine V_aload_n dX7_of_87 rfl ?_
      refine V_geti 1 4 dX7_of_88 lnX7_117 rfl (sP (pOf (Or.inl rfl) (by omega))) ⟨by omega, by omega⟩ ?_
      refine V_iret dX7_of_91 rfl rfl ?_
      refine ⟨?_, rfl, rfl, Off.rf⟩
      unfold sOf
      rw [if_pos (by rw [← r2]; exact b01_n.mp c5), nat_of_toInt ha1, if_neg k0, if_neg k1, if_neg k2, if_pos k3, q6]
    by_cases k4 : x = 4
    · refine V_tableIn (off := 69) (tgt := 92) dX7_of_23 (by rw [k4]; decide) (by rw [k4]; decide) (by rw [k4]; rfl) (by decide) ?_
      refine V_aload_n dX7_of_92 rfl ?_
      refine V_geti 1 5 dX7_of_93 lnX7_120 rfl (sP (pOf (Or.inl rfl) (by omega))) ⟨by omega, by omega⟩ ?_
      refine V_callS (qX7_shown _ _ _ hR hn _) dX7_of_96 mlX7_123 mtX7_shown smX7_shown rfl rfl (by decide) (Nat.le_of_ble_eq_true rfl) rfl rfl ?_
      rintro _ _ _ _ ⟨rfl, rfl, rfl, rfl⟩
      refine V_iret dX7_of_99 rfl rfl ?_
      refine ⟨?_, rfl, rfl, Off.rf⟩
      unfold sOf
      rw [if_pos (by rw [← r2]; exact b01_n.mp c5), nat_of_toInt ha1, if_neg k0, if_neg k1, if_neg k2, if_neg k3, if_pos k4, q3]
    by_cases k5 : x = 5
    · refine V_tableIn (off := 77) (tgt := 100) dX7_of_23 (by rw [k5]; decide) (by rw [k5]; decide) (by rw [k5]; rfl) (by decide) ?_
      refine V_aload_n dX7_of_100 rfl ?_
      refine V_getr (b := 40) 7 1 dX7_of_101 (Or.inl lkX7_30) rfl rfl ⟨by omega, by omega⟩ (hR _ _ _ rfl) ?_
      refine V_iload_n dX7_of_104 rfl ?_
      refine V_aload_n dX7_of_105 rfl ?_
      refine V_geti 1 5 dX7_of_106 lnX7_120 rfl (sP (pOf (Or.inl rfl) (by omega))) ⟨by omega, by omega⟩ ?_
      refine V_callV (ci := 6) (qX6_ageBy _ _ _ hR hn _ (Or.inl rfl) _ _ a ha1 (by omega) (by rw [q3]; exact hau.ok hW5)) dX7_of_109 mlX7_127 mtX6_ageBy ivX6_ageBy rfl rfl ⟨by omega, by omega⟩ (by decide) rfl rfl (by decide) (Nat.le_of_ble_eq_true rfl) rfl rfl ?_
      rintro _ _ _ _ ⟨rfl, rfl, rfl, rfl⟩
      rw [q3, age_eq hBD hrw ha2 hau]
      refine V_iret dX7_of_112 rfl rfl ?_
      refine ⟨?_, rfl, rfl, Off.rf⟩
      unfold sOf
      rw [if_pos (by rw [← r2]; exact b01_n.mp c5), nat_of_toInt ha1, if_neg k0, if_neg k1, if_neg k2, if_neg k3, if_neg k4, if_pos k5]
    by_cases k6 : x = 6
    · refine V_tableIn (off := 90) (tgt := 113) dX7_of_23 (by rw [k6]; decide) (by rw [k6]; decide) (by rw [k6]; rfl) (by decide) ?_
      refine V_aload_n dX7_of_113 rfl ?_
      refine V_getr (b := 40) 7 1 dX7_of_114 (Or.inl lkX7_30) rfl rfl ⟨by omega, by omega⟩ (hR _ _ _ rfl) ?_
      refine V_iload_n dX7_of_117 rfl ?_
      refine V_aload_n dX7_of_118 rfl ?_
      refine V_geti 1 5 dX7_of_119 lnX7_120 rfl (sP (pOf (Or.inl rfl) (by omega))) ⟨by omega, by omega⟩ ?_
      refine V_callV (ci := 6) (qX6_stageBy _ _ _ hR hn _ (Or.inl rfl) (hvOf (mi 174)) hcl hBD.isV _ _ a ha1 (by omega) (by rw [q3]; exact hau.ok hW5)) dX7_of_122 mlX7_130 mtX6_stageBy ivX6_stageBy rfl rfl ⟨by omega, by omega⟩ (by decide) rfl rfl (by decide) (Nat.le_of_ble_eq_true rfl) rfl rfl ?_
      rintro _ _ _ _ ⟨rfl, rfl, rfl, rfl⟩
      rw [q3, age_eq hBD hrw ha2 hau, stage_eq hrw ha2 hhv]
      refine V_if_le (tgt := 132) dX7_of_125 (by decide) (fun c125 => ?_) (fun c125 => ?_)
      · refine V_iconst (v := 0) dX7_of_132 rfl ?_
        refine V_iret dX7_of_133 rfl rfl ?_
        refine ⟨?_, rfl, rfl, Off.rf⟩
        unfold sOf
        rw [if_pos (by rw [← r2]; exact b01_n.mp c5), nat_of_toInt ha1, if_neg k0, if_neg k1, if_neg k2, if_neg k3, if_neg k4, if_neg k5, if_pos k6]
        unfold sHere
        first
          | rw [if_pos (decide_eq_true (fStage_pos.mp (Int32.not_le.mp c125)))]
          | rw [if_neg (fun h => absurd (fStage_pos.mpr (of_decide_eq_true h)) (Int32.not_lt.mpr c125))]
      · refine V_iconst (v := 1) dX7_of_128 rfl ?_
        refine V_goto (tgt := 133) dX7_of_129 (by decide) ?_
        refine V_iret dX7_of_133 rfl rfl ?_
        refine ⟨?_, rfl, rfl, Off.rf⟩
        unfold sOf
        rw [if_pos (by rw [← r2]; exact b01_n.mp c5), nat_of_toInt ha1, if_neg k0, if_neg k1, if_neg k2, if_neg k3, if_neg k4, if_neg k5, if_pos k6]
        unfold sHere
        first
          | rw [if_pos (decide_eq_true (fStage_pos.mp (Int32.not_le.mp c125)))]
          | rw [if_neg (fun h => absurd (fStage_pos.mpr (of_decide_eq_true h)) (Int32.not_lt.mpr c125))]
    by_cases k7 : x = 7
    · refine V_tableIn (off := 111) (tgt := 134) dX7_of_23 (by rw [k7]; decide) (by rw [k7]; decide) (by rw [k7]; rfl) (by decide) ?_
      refine V_aload_n dX7_of_134 rfl ?_
      refine V_getr (b := 40) 7 1 dX7_of_135 (Or.inl lkX7_30) rfl rfl ⟨by omega, by omega⟩ (hR _ _ _ rfl) ?_
      refine V_iload_n dX7_of_138 rfl ?_
      refine V_aload_n dX7_of_139 rfl ?_
      refine V_geti 1 5 dX7_of_140 lnX7_120 rfl (sP (pOf (Or.inl rfl) (by omega))) ⟨by omega, by omega⟩ ?_
      refine V_callV (ci := 6) (qX6_stageBy _ _ _ hR hn _ (Or.inl rfl) (hvOf (mi 174)) hcl hBD.isV _ _ a ha1 (by omega) (by rw [q3]; exact hau.ok hW5)) dX7_of_143 mlX7_130 mtX6_stageBy ivX6_stageBy rfl rfl ⟨by omega, by omega⟩ (by decide) rfl rfl (by decide) (Nat.le_of_ble_eq_true rfl) rfl rfl ?_
      rintro _ _ _ _ ⟨rfl, rfl, rfl, rfl⟩
      rw [q3, age_eq hBD hrw ha2 hau, stage_eq hrw ha2 hhv]
      refine V_iret dX7_of_146 rfl rfl ?_
      refine ⟨?_, rfl, rfl, Off.rf⟩
      unfold sOf
      rw [if_pos (by rw [← r2]; exact b01_n.mp c5), nat_of_toInt ha1, if_neg k0, if_neg k1, if_neg k2, if_neg k3, if_neg k4, if_neg k5, if_neg k6, if_pos k7]
    by_cases k8 : x = 8
    · refine V_tableIn (off := 124) (tgt := 147) dX7_of_23 (by rw [k8]; decide) (by rw [k8]; decide) (by rw [k8]; rfl) (by decide) ?_
      refine V_aload_n dX7_of_147 rfl ?_
      refine V_getr (b := 40) 7 1 dX7_of_148 (Or.inl lkX7_30) rfl rfl ⟨by omega, by omega⟩ (hR _ _ _ rfl) ?_
      refine V_iload_n dX7_of_151 rfl ?_
      refine V_aload_n dX7_of_152 rfl ?_
      refine V_geti 1 5 dX7_of_153 lnX7_120 rfl (sP (pOf (Or.inl rfl) (by omega))) ⟨by omega, by omega⟩ ?_
      refine V_callV (ci := 6) (qX6_nerveBy _ _ _ hR hn _ (Or.inl rfl) (hvOf (mi 174)) hcl hisV nc e hO _ _ a ha1 (by omega) (by rw [q3]; exact hau.ok hW5)) dX7_of_156 mlX7_133 mtX6_nerveBy ivX6_nerveBy rfl rfl ⟨by omega, by omega⟩ (by decide) rfl rfl (by decide) (Nat.le_of_ble_eq_true rfl) rfl rfl ?_
      rintro _ _ _ _ ⟨rfl, rfl, rfl, ho9⟩
      rw [q3, nerve_eq hBD.y hrw ha2 hhv hau]
      refine V_iret dX7_of_159 rfl rfl ?_
      refine ⟨?_, rfl, rfl, ho9⟩
      unfold sOf
      rw [if_pos (by rw [← r2]; exact b01_n.mp c5), nat_of_toInt ha1, if_neg k0, if_neg k1, if_neg k2, if_neg k3, if_neg k4, if_neg k5, if_neg k6, if_neg k7, if_pos k8]
    refine V_tableOut (tgt := 160) dX7_of_23 (by simp only [← Int32.toInt_inj, Int32.reduceToInt] at *; omega) (by decide) ?_
    refine V_sipush (v := -10001) dX7_of_160 rfl ?_
    refine V_iret dX7_of_163 rfl rfl ?_
    refine ⟨?_, rfl, rfl, Off.rf⟩
    unfold sOf
    rw [if_pos (by rw [← r2]; exact b01_n.mp c5), nat_of_toInt ha1, if_neg k0, if_neg k1, if_neg k2, if_neg k3, if_neg k4, if_neg k5, if_neg k6, if_neg k7, if_neg k8]
  · refine V_sipush (v := -10001) dX7_of_8 rfl ?_
    refine V_iret dX7_of_11 rfl rfl ?_
    refine ⟨?_, rfl, rfl, Off.rf⟩
    unfold sOf
    rw [if_neg (fun h => b01_0.mp c5 (by rw [r2]; exact h))]
set_option maxRecDepth 4000 in
theorem qX8_of (n : Nat) (mi : MI) (mr : MR) (c : CT) (hR : RF mr) (hn : 186 ≤ n) (hBD : BD (mi 174) c) (nc : Nat) (e : Nat → Nat) (s nv : Nat → Int32) (b : Nat) (hMV : MV (mi 174) nc e s nv b) (p x : Int32) : Ct KX8_of 8 0 0 [.ref 173, .int p, .int x] n mi mr (offQ (some (.int (sOf (mi 174) nc e s nv p x))) n mi mr byM) := by
  refine Ct.of2 [some (.ref 173), some (.int p), some (.int x)] (by decide +kernel) (Nat.le_of_ble_eq_true rfl) rfl ?_
  obtain ⟨⟨hN, hN6⟩, ⟨hW, hW5⟩, ⟨hL, hL5⟩, ⟨hT, hT100⟩, ⟨hS, hS5⟩, ⟨hP, hP8⟩, ⟨hBk, hB8⟩⟩ := hBD.1
  refine V_aload_n dX8_of_0 rfl ?_
  refine V_iload_n dX8_of_1 rfl ?_
  refine V_callV (ci := 8) (qX8_isPerson _ _ _ hR hn _) dX8_of_2 mlX8_169 mtX8_isPerson ivX8_isPerson rfl rfl ⟨by omega, by omega⟩ (by decide) rfl rfl (by decide) (Nat.le_of_ble_eq_true rfl) rfl rfl ?_
  rintro _ _ _ _ ⟨rfl, rfl, rfl, rfl⟩
  simp only [leSub hN (by omega)]
  refine V_if_eq (tgt := 18) dX8_of_5 (by decide) (fun c5 => ?_) (fun c5 => ?_)
  · refine V_sipush (v := -10001) dX8_of_18 rfl ?_
    refine V_iret dX8_of_21 rfl rfl ?_
    refine ⟨?_, rfl, rfl, Off.rf⟩
    unfold sOf
    first
      | rw [if_neg (b01_0.mp c5)]
      | (split
         · have hx9 := b01_0.mp c15
           rw [if_neg (fun h => hx9 (by rw [h]; decide)), if_neg (fun h => hx9 (by rw [h]; decide)), if_neg (fun h => hx9 (by rw [h]; decide)), if_neg (fun h => hx9 (by rw [h]; decide)), if_neg (fun h => hx9 (by rw [h]; decide)), if_neg (fun h => hx9 (by rw [h]; decide)), if_neg (fun h => hx9 (by rw [h]; decide)), if_neg (fun h => hx9 (by rw [h]; decide)), if_neg (fun h => hx9 (by rw [h]; decide))]
         · rfl)
  · refine V_iload_n dX8_of_8 rfl ?_
    refine V_iconst (v := 0) dX8_of_9 rfl ?_
    refine V_bipush (v := 8) dX8_of_10 rfl ?_
    refine V_callS (qX8_in _ _ _ _ _ _) dX8_of_12 mlX8_53 mtX8_in smX8_in rfl rfl (by decide) (Nat.le_of_ble_eq_true rfl) rfl rfl ?_
    rintro _ _ _ _ ⟨rfl, rfl, rfl, rfl⟩
    refine V_if_ne (tgt := 22) dX8_of_15 (by decide) (fun c15 => ?_) (fun c15 => ?_)
    · obtain ⟨a, ha1, ha2⟩ := idxC c5 hN
      have hau := (hBD.2.2.2.1 a ha2).2.2.2.2.1
      have hx9 := b01_n.mp c15
      have z : ∀ v : Int32, x = v → ∀ u : Int32, ¬ v = u → ¬ x = u := fun v h u g q => g (h.symm.trans q)
      refine V_iload_n dX8_of_22 rfl ?_
      by_cases k4 : x = 4
      · refine V_tableIn (off := 33) (tgt := 56) dX8_of_23 (by rw [k4]; decide) (by rw [k4]; decide) (by rw [k4]; rfl) (by decide) ?_
        refine V_aload_n dX8_of_56 rfl ?_
        refine V_getr (b := 174) 8 1 dX8_of_57 (Or.inl lkX8_9) rfl rfl ⟨by omega, by omega⟩ (hR _ _ _ rfl) ?_
        refine V_iconst (v := 1) dX8_of_60 rfl ?_
        refine V_iload_n dX8_of_61 rfl ?_
        refine V_iadd dX8_of_62 ?_
        refine V_iald (len := 938) (1 + a) dX8_of_63 rfl ⟨by omega, by omega⟩ (ix_add (by decide) ha1 (by omega)) (by omega) ?_
        refine V_callS (qX8_orNone _ _ _ hR hn _) dX8_of_64 mlX8_172 mtX8_orNone smX8_orNone rfl rfl (by decide) (Nat.le_of_ble_eq_true rfl) rfl rfl ?_
        rintro _ _ _ _ ⟨rfl, rfl, rfl, rfl⟩
        refine V_iret dX8_of_67 rfl rfl ?_
        refine ⟨?_, rfl, rfl, Off.rf⟩
        unfold sOf
        rw [if_pos (b01_n.mp c5), nat_of_toInt ha1, if_neg (z _ k4 0 (by decide)), if_neg (z _ k4 1 (by decide)), if_neg (z _ k4 2 (by decide)), if_neg (z _ k4 3 (by decide)), if_pos k4]
      by_cases k5 : x = 5
      · refine V_tableIn (off := 45) (tgt := 68) dX8_of_23 (by rw [k5]; decide) (by rw [k5]; decide) (by rw [k5]; rfl) (by decide) ?_
        refine V_aload_n dX8_of_68 rfl ?_
        refine V_iload_n dX8_of_69 rfl ?_
        refine V_callV (ci := 8) (qX8_ageOf _ _ _ hR hn (cN c) hN6 hBD.okS _ a ha1 ha2) dX8_of_70 mlX8_155 mtX8_ageOf ivX8_ageOf rfl rfl ⟨by omega, by omega⟩ (by decide) rfl rfl (by decide) (Nat.le_of_ble_eq_true rfl) rfl rfl ?_
        rintro _ _ _ _ ⟨rfl, rfl, rfl, rfl⟩
        refine V_iret dX8_of_73 rfl rfl ?_
        refine ⟨?_, rfl, rfl, Off.rf⟩
        unfold sOf
        rw [if_pos (b01_n.mp c5), nat_of_toInt ha1, if_neg (z _ k5 0 (by decide)), if_neg (z _ k5 1 (by decide)), if_neg (z _ k5 2 (by decide)), if_neg (z _ k5 3 (by decide)), if_neg (z _ k5 4 (by decide)), if_pos k5]
      by_cases k6 : x = 6
      · refine V_tableIn (off := 51) (tgt := 74) dX8_of_23 (by rw [k6]; decide) (by rw [k6]; decide) (by rw [k6]; rfl) (by decide) ?_
        refine V_aload_n dX8_of_74 rfl ?_
        refine V_iload_n dX8_of_75 rfl ?_
        refine V_callV (ci := 8) (qX8_isHere _ _ _ hR hn (cN c) hN6 hBD.okS _ a ha1 ha2) dX8_of_76 mlX8_159 mtX8_isHere ivX8_isHere rfl rfl ⟨by omega, by omega⟩ (by decide) rfl rfl (by decide) (Nat.le_of_ble_eq_true rfl) rfl rfl ?_
        rintro _ _ _ _ ⟨rfl, rfl, rfl, rfl⟩
        refine V_if_eq (tgt := 86) dX8_of_79 (by decide) (fun c79 => ?_) (fun c79 => ?_)
        · refine V_iconst (v := 0) dX8_of_86 rfl ?_
          refine V_iret dX8_of_87 rfl rfl ?_
          refine ⟨?_, rfl, rfl, Off.rf⟩
          unfold sOf
          rw [if_pos (b01_n.mp c5), nat_of_toInt ha1, if_neg (z _ k6 0 (by decide)), if_neg (z _ k6 1 (by decide)), if_neg (z _ k6 2 (by decide)), if_neg (z _ k6 3 (by decide)), if_neg (z _ k6 4 (by decide)), if_neg (z _ k6 5 (by decide)), if_pos k6]
          unfold sHere
          first
            | rw [if_pos (decide_eq_true (b01_n.mp c79))]
            | rw [if_neg (fun h => b01_0.mp c79 (of_decide_eq_true h))]
        · refine V_iconst (v := 1) dX8_of_82 rfl ?_
          refine V_goto (tgt := 87) dX8_of_83 (by decide) ?_
          refine V_iret dX8_of_87 rfl rfl ?_
          refine ⟨?_, rfl, rfl, Off.rf⟩
          unfold sOf
          rw [if_pos (b01_n.mp c5), nat_of_toInt ha1, if_neg (z _ k6 0 (by decide)), if_neg (z _ k6 1 (by decide)), if_neg (z _ k6 2 (by decide)), if_neg (z _ k6 3 (by decide)), if_neg (z _ k6 4 (by decide)), if_neg (z _ k6 5 (by decide)), if_pos k6]
          unfold sHere
          first
            | rw [if_pos (decide_eq_true (b01_n.mp c79))]
            | rw [if_neg (fun h => b01_0.mp c79 (of_decide_eq_true h))]
      by_cases k7 : x = 7
      · refine V_tableIn (off := 65) (tgt := 88) dX8_of_23 (by rw [k7]; decide) (by rw [k7]; decide) (by rw [k7]; rfl) (by decide) ?_
        refine V_aload_n dX8_of_88 rfl ?_
        refine V_iload_n dX8_of_89 rfl ?_
        refine V_aload_n dX8_of_90 rfl ?_
        refine V_iload_n dX8_of_91 rfl ?_
        refine V_callV (ci := 8) (qX8_ageOf _ _ _ hR hn (cN c) hN6 hBD.okS _ a ha1 ha2) dX8_of_92 mlX8_155 mtX8_ageOf ivX8_ageOf rfl rfl ⟨by omega, by omega⟩ (by decide) rfl rfl (by decide) (Nat.le_of_ble_eq_true rfl) rfl rfl ?_
        rintro _ _ _ _ ⟨rfl, rfl, rfl, rfl⟩
        refine V_callV (ci := 8) (qX8_stageAt _ _ _ hR hn _ _ a ha1 (by omega) hBD.okS.1) dX8_of_95 mlX8_149 mtX8_stageAt ivX8_stageAt rfl rfl ⟨by omega, by omega⟩ (by decide) rfl rfl (by decide) (Nat.le_of_ble_eq_true rfl) rfl rfl ?_
        rintro _ _ _ _ ⟨rfl, rfl, rfl, rfl⟩
        refine V_iret dX8_of_98 rfl rfl ?_
        refine ⟨?_, rfl, rfl, Off.rf⟩
        unfold sOf
        rw [if_pos (b01_n.mp c5), nat_of_toInt ha1, if_neg (z _ k7 0 (by decide)), if_neg (z _ k7 1 (by decide)), if_neg (z _ k7 2 (by decide)), if_neg (z _ k7 3 (by decide)), if_neg (z _ k7 4 (by decide)), if_neg (z _ k7 5 (by decide)), if_neg (z _ k7 6 (by decide)), if_pos k7]
      by_cases k8 : x = 8
      · refine V_tableIn (off := 76) (tgt := 99) dX8_of_23 (by rw [k8]; decide) (by rw [k8]; decide) (by rw [k8]; rfl) (by decide) ?_
        refine V_aload_n dX8_of_99 rfl ?_
        refine V_iload_n dX8_of_100 rfl ?_
        refine V_aload_n dX8_of_101 rfl ?_
        refine V_getr (b := 174) 8 1 dX8_of_102 (Or.inl lkX8_9) rfl rfl ⟨by omega, by omega⟩ (hR _ _ _ rfl) ?_
        refine V_iconst (v := 1) dX8_of_105 rfl ?_
        refine V_iload_n dX8_of_106 rfl ?_
        refine V_iadd dX8_of_107 ?_
        refine V_iald (len := 938) (1 + a) dX8_of_108 rfl ⟨by omega, by omega⟩ (ix_add (by decide) ha1 (by omega)) (by omega) ?_
        refine V_callV (ci := 8) (qX8_nerveBy _ _ _ c hR hn hBD.w nc e s nv b hMV _ _ a ha1 ha2 hau) dX8_of_109 mlX8_163 mtX8_nerveBy ivX8_nerveBy rfl rfl ⟨by omega, by omega⟩ (by decide) rfl rfl (by decide) (Nat.le_of_ble_eq_true rfl) rfl rfl ?_
        rintro _ _ _ _ ⟨rfl, rfl, rfl, ho9⟩
        refine V_iret dX8_of_112 rfl rfl ?_
        refine ⟨?_, rfl, rfl, ho9⟩
        unfold sOf
        rw [if_pos (b01_n.mp c5), nat_of_toInt ha1, if_neg (z _ k8 0 (by decide)), if_neg (z _ k8 1 (by decide)), if_neg (z _ k8 2 (by decide)), if_neg (z _ k8 3 (by decide)), if_neg (z _ k8 4 (by decide)), if_neg (z _ k8 5 (by decide)), if_neg (z _ k8 6 (by decide)), if_neg (z _ k8 7 (by decide)), if_pos k8]
      refine V_tableOut (tgt := 113) dX8_of_23 (by simp only [← Int32.toInt_inj, Int32.reduceToInt] at *; omega) (by decide) ?_
      obtain ⟨wq, wq1, wq2⟩ := idx3 hx9.1 (by
        have h9 := hx9.2
        simp only [Int32.le_iff_toInt_le, ← Int32.toInt_inj, Int32.reduceToInt] at *
        omega)
      refine V_aload_n dX8_of_113 rfl ?_
      refine V_getr (b := 174) 8 1 dX8_of_114 (Or.inl lkX8_9) rfl rfl ⟨by omega, by omega⟩ (hR _ _ _ rfl) ?_
      refine V_bipush (v := 20) dX8_of_117 rfl ?_
      refine V_bipush (v := 6) dX8_of_119 rfl ?_
      refine V_iload_n dX8_of_121 rfl ?_
      refine V_imul dX8_of_122 ?_
      refine V_iadd dX8_of_123 ?_
      refine V_iload_n dX8_of_124 rfl ?_
      refine V_iadd dX8_of_125 ?_
      refine V_iald (len := 938) ((20 + (6 * wq)) + a) dX8_of_126 rfl ⟨by omega, by omega⟩ (ix_add (ix_add (by decide) (ix_mul (by decide) wq1 (by omega)) (by omega)) ha1 (by omega)) (by omega) ?_
      refine V_iret dX8_of_127 rfl rfl ?_
      refine ⟨?_, rfl, rfl, Off.rf⟩
      unfold sOf
      rw [if_pos (b01_n.mp c5), nat_of_toInt ha1]
      match wq, wq1, wq2 with
      | 0, wq1, _ => rw [if_pos (show x = 0 from nI_of_toInt wq1), show 20 + 6 * 0 + a = 20 + a by omega]
      | 1, wq1, _ => rw [nI_of_toInt wq1, if_neg (by decide), if_pos (by decide), show 20 + 6 * 1 + a = 26 + a by omega]
      | 2, wq1, _ => rw [nI_of_toInt wq1, if_neg (by decide), if_neg (by decide), if_pos (by decide), show 20 + 6 * 2 + a = 32 + a by omega]
      | 3, wq1, _ => rw [nI_of_toInt wq1, if_neg (by decide), if_neg (by decide), if_neg (by decide), if_pos (by decide), show 20 + 6 * 3 + a = 38 + a by omega]
    · refine V_sipush (v := -10001) dX8_of_18 rfl ?_
      refine V_iret dX8_of_21 rfl rfl ?_
      refine ⟨?_, rfl, rfl, Off.rf⟩
      unfold sOf
      first
        | rw [if_neg (b01_0.mp c5)]
        | (split
           · have hx9 := b01_0.mp c15
             rw [if_neg (fun h => hx9 (by rw [h]; decide)), if_neg (fun h => hx9 (by rw [h]; decide)), if_neg (fun h => hx9 (by rw [h]; decide)), if_neg (fun h => hx9 (by rw [h]; decide)), if_neg (fun h => hx9 (by rw [h]; decide)), if_neg (fun h => hx9 (by rw [h]; decide)), if_neg (fun h => hx9 (by rw [h]; decide)), if_neg (fun h => hx9 (by rw [h]; decide)), if_neg (fun h => hx9 (by rw [h]; decide))]
           · rfl)
