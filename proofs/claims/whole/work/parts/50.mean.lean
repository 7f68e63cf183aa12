def meanF (S : Nat → Int32) : Nat → Int32 := fun p => if sHere S p = true then sAge S p (S (1 + p)) else 0
def sMean (S : Nat → Int32) (N : Nat) (part : Int32) : Int64 := sFrac (sumTo (meanF S) N).toNatClampNeg (cntB (sHere S) N) part
theorem here_nat {S : Nat → Int32} {c : CT} {p : Nat} {a : Int32} (hB : BD S c) (hp : p < cN c) (h : sHereAt S p a) : natTo a 121 := by
  obtain ⟨k, k1, k2⟩ := (hB.2.2.2.1 p hp).2.2.2.1
  obtain ⟨h1, h2⟩ := h
  rw [Int32.le_iff_toInt_le] at h1 h2
  simp only [Int32.reduceToInt] at h1
  exact ⟨a.toInt.toNat, by omega, by omega⟩
theorem meanF_nat {S : Nat → Int32} {c : CT} {p : Nat} (hB : BD S c) (hp : p < cN c) : natTo (meanF S p) 121 := by
  unfold meanF
  by_cases h : sHere S p = true
  · rw [if_pos h]
    exact here_nat hB hp (of_decide_eq_true h)
  · rw [if_neg h]
    exact ⟨0, rfl, by omega⟩
theorem mean_nat {S : Nat → Int32} {c : CT} (hB : BD S c) {i : Nat} (hi : i ≤ cN c) : natTo (sumTo (meanF S) i) 1000 := by
  have hN := hB.1.1.2
  obtain ⟨a, a1, a2⟩ := sum_nat (f := meanF S) (b := 120) (N := i) (fun k hk => meanF_nat hB (by omega)) (by omega)
  exact ⟨a, a1, by omega⟩
theorem here_iff {S : Nat → Int32} {p : Nat} : sHere S p = true ↔ 0 < sStage S p (sAge S p (S (1 + p))) := ⟨fun h => fStage_pos.mpr (of_decide_eq_true h), fun h => decide_eq_true (fStage_pos.mp h)⟩
set_option maxRecDepth 4000 in
theorem qX7_mean (n : Nat) (mi : MI) (mr : MR) (c : CT) (I : INV n mi mr c) (q : Int32) : Ct KX7_mean 6 0 0 [.ref 32, .int q] n mi mr (eqQ (some (.long (sMean (mi 174) (cN c) q))) n mi mr) := by
  refine Ct.of2 [some (.ref 32), some (.int q), none, none, none, none] (by decide +kernel) (Nat.le_of_ble_eq_true rfl) rfl ?_
  have hhv := I.hv
  have hcl := I.cl.1
  obtain ⟨hR, hn, ⟨⟨hN, hN6⟩, ⟨hW, hW5⟩, ⟨hL, hL5⟩, ⟨hT, hT100⟩, ⟨hS, hS5⟩, ⟨hP, hP8⟩, ⟨hBk, hB8⟩⟩, hrw⟩ := I.facts
  have hBD := I.2.2.1
  obtain ⟨⟨r1, r2, r3, r4, r5⟩, hper, hvin, htape, hseen, hnight, hbook⟩ := id hrw
  have hcN : nat (mi 40 1) (cN c) := by rw [r2]; exact hN
  have hcW : nat (mi 40 2) (cW c) := by rw [r3]; exact hW
  clear I
  refine V_iconst (v := 0) dX7_mean_0 rfl ?_
  refine V_istore_n (L' := [_, _, _, _, _, _]) dX7_mean_1 (by decide) rfl rfl ?_
  refine V_iconst (v := 0) dX7_mean_2 rfl ?_
  refine V_istore_n (L' := [_, _, _, _, _, _]) dX7_mean_3 (by decide) rfl rfl ?_
  refine V_iconst (v := 0) dX7_mean_4 rfl ?_
  refine V_istore (L' := [_, _, _, _, _, _]) dX7_mean_5 (by decide) rfl rfl ?_
  have loop : ∀ (m i : Nat) (acc k x : Int32) (z : Option Value), i + m = cN c → x.toInt = (i : Int) → acc = sumTo (meanF (mi 174)) i → k = nI (cntB (sHere (mi 174)) i) → V KX7_mean 6 0 0 (eqQ (some (.long (sMean (mi 174) (cN c) q))) n mi mr) 7 [some (.ref 32), some (.int q), some (.int acc), some (.int k), some (.int x), z] [] n mi mr := by
    intro m
    induction m with
    | zero =>
      intro i acc k x z him hx ha hk
      refine V_iload dX7_mean_7 rfl ?_
      refine V_aload_n dX7_mean_9 rfl ?_
      refine V_getr (b := 40) 7 1 dX7_mean_10 (Or.inl lkX7_30) rfl rfl ⟨by omega, by omega⟩ (hR _ _ _ rfl) ?_
      refine V_geti 6 1 dX7_mean_13 lnX7_82 rfl rfl ⟨by omega, by omega⟩ ?_
      refine V_icmp_ge (tgt := 71) dX7_mean_16 (by decide) (fun c16 => ?_) (fun c16 => absurd ((le_nat hcN hx).mpr (by omega)) c16)
      have hi : i = cN c := by omega
      subst hi
      have o1 := mean_nat hBD (Nat.le_refl _)
      have hcl9 := cntB_le (f := sHere (mi 174)) (N := cN c)
      rw [ha, hk]
      refine V_iload_n dX7_mean_71 rfl ?_
      refine V_iload_n dX7_mean_72 rfl ?_
      refine V_iload_n dX7_mean_73 rfl ?_
      refine V_callS (qX7_partOfFraction _ _ _ _ _ _ _ _ (nat_get o1).1 (nI_toInt (by omega)) ⟨(nat_get o1).2, by omega⟩) dX7_mean_74 mlX7_212 mtX7_partOfFraction smX7_partOfFraction rfl rfl (by decide) (Nat.le_of_ble_eq_true rfl) rfl rfl ?_
      rintro _ _ _ _ ⟨rfl, rfl, rfl, rfl⟩
      refine V_lret dX7_mean_77 rfl ?_
      exact ⟨rfl, rfl, rfl, rfl⟩
    | succ m ih =>
      intro i acc k x z him hx ha hk
      refine V_iload dX7_mean_7 rfl ?_
      refine V_aload_n dX7_mean_9 rfl ?_
      refine V_getr (b := 40) 7 1 dX7_mean_10 (Or.inl lkX7_30) rfl rfl ⟨by omega, by omega⟩ (hR _ _ _ rfl) ?_
      refine V_geti 6 1 dX7_mean_13 lnX7_82 rfl rfl ⟨by omega, by omega⟩ ?_
      refine V_icmp_ge (tgt := 71) dX7_mean_16 (by decide) (fun c16 => absurd ((le_nat hcN hx).mp c16) (by omega)) (fun c16 => ?_)
      have hi2 : i < cN c := by omega
      have u3 := (hrw.hasP hi2).2.2.1
      rw [show (40 + 18 : Nat) = 58 from rfl] at u3
      have hau := (hBD.2.2.2.1 i hi2).2.2.2.2.1
      have hcl9 := cntB_le (f := sHere (mi 174)) (N := i)
      refine V_aload_n dX7_mean_19 rfl ?_
      refine V_getr (b := 40) 7 1 dX7_mean_20 (Or.inl lkX7_30) rfl rfl ⟨by omega, by omega⟩ (hR _ _ _ rfl) ?_
      refine V_getr (b := 41) 6 6 dX7_mean_23 lnX7_85 rfl rfl ⟨by omega, by omega⟩ (hR _ _ _ rfl) ?_
      refine V_iload dX7_mean_26 rfl ?_
      refine V_aald (len := 6) (b := (58 + 2 * i)) 5 i dX7_mean_28 rfl rfl ⟨by omega, by omega⟩ hx (by omega) (hR _ _ _ (rFolk (Or.inl rfl) (by omega))) ?_
      refine V_geti 1 5 dX7_mean_29 lnX7_120 rfl (sP (pOf (Or.inl rfl) (by omega))) ⟨by omega, by omega⟩ ?_
      rw [u3]
      refine V_istore (L' := [_, _, _, _, _, _]) dX7_mean_32 (by decide) rfl rfl ?_
      refine V_aload_n dX7_mean_34 rfl ?_
      refine V_getr (b := 40) 7 1 dX7_mean_35 (Or.inl lkX7_30) rfl rfl ⟨by omega, by omega⟩ (hR _ _ _ rfl) ?_
      refine V_iload dX7_mean_38 rfl ?_
      refine V_iload dX7_mean_40 rfl ?_
      refine V_callV (ci := 6) (qX6_stageBy _ _ _ hR hn _ (Or.inl rfl) (hvOf (mi 174)) hcl hBD.isV _ _ i hx (by omega) (hau.ok hW5)) dX7_mean_42 mlX7_130 mtX6_stageBy ivX6_stageBy rfl rfl ⟨by omega, by omega⟩ (by decide) rfl rfl (by decide) (Nat.le_of_ble_eq_true rfl) rfl rfl ?_
      rintro _ _ _ _ ⟨rfl, rfl, rfl, rfl⟩
      rw [age_eq hBD hrw hi2 hau, stage_eq hrw hi2 hhv]
      refine V_if_le (tgt := 65) dX7_mean_45 (by decide) (fun c45 => ?_) (fun c45 => ?_)
      · refine V_iinc (v := _ + (1)) (L' := [_, _, _, _, _, _]) dX7_mean_65 (by decide) rfl rfl rfl rfl ?_
        refine V_goto (tgt := 7) dX7_mean_68 (by decide) ?_
        refine ih (i + 1) _ _ _ _ (by omega) (ix_add hx (by decide) (by omega)) ?_ ?_
        · unfold sumTo
          rw [← ha]
          unfold meanF
          first
            | (rw [if_pos (here_iff.mpr (Int32.not_le.mp c45))]; done)
            | (rw [if_neg (fun h => absurd (here_iff.mp h) (Int32.not_lt.mpr c45)), Int32.add_zero]; done)
        · unfold cntB
          first
            | (rw [if_pos (here_iff.mpr (Int32.not_le.mp c45)), hk]; exact nI_of_toInt (ix_add (nI_toInt (by omega)) (by decide) (by omega)))
            | (rw [if_neg (fun h => absurd (here_iff.mp h) (Int32.not_lt.mpr c45))]; exact hk)
      · refine V_iload_n dX7_mean_48 rfl ?_
        refine V_aload_n dX7_mean_49 rfl ?_
        refine V_getr (b := 40) 7 1 dX7_mean_50 (Or.inl lkX7_30) rfl rfl ⟨by omega, by omega⟩ (hR _ _ _ rfl) ?_
        refine V_iload dX7_mean_53 rfl ?_
        refine V_iload dX7_mean_55 rfl ?_
        refine V_callV (ci := 6) (qX6_ageBy _ _ _ hR hn _ (Or.inl rfl) _ _ i hx (by omega) (hau.ok hW5)) dX7_mean_57 mlX7_127 mtX6_ageBy ivX6_ageBy rfl rfl ⟨by omega, by omega⟩ (by decide) rfl rfl (by decide) (Nat.le_of_ble_eq_true rfl) rfl rfl ?_
        rintro _ _ _ _ ⟨rfl, rfl, rfl, rfl⟩
        rw [age_eq hBD hrw hi2 hau]
        refine V_iadd dX7_mean_60 ?_
        refine V_istore_n (L' := [_, _, _, _, _, _]) dX7_mean_61 (by decide) rfl rfl ?_
        refine V_iinc (v := _ + (1)) (L' := [_, _, _, _, _, _]) dX7_mean_62 (by decide) rfl rfl rfl rfl ?_
        refine V_iinc (v := _ + (1)) (L' := [_, _, _, _, _, _]) dX7_mean_65 (by decide) rfl rfl rfl rfl ?_
        refine V_goto (tgt := 7) dX7_mean_68 (by decide) ?_
        refine ih (i + 1) _ _ _ _ (by omega) (ix_add hx (by decide) (by omega)) ?_ ?_
        · unfold sumTo
          rw [← ha]
          unfold meanF
          first
            | (rw [if_pos (here_iff.mpr (Int32.not_le.mp c45))]; done)
            | (rw [if_neg (fun h => absurd (here_iff.mp h) (Int32.not_lt.mpr c45)), Int32.add_zero]; done)
        · unfold cntB
          first
            | (rw [if_pos (here_iff.mpr (Int32.not_le.mp c45)), hk]; exact nI_of_toInt (ix_add (nI_toInt (by omega)) (by decide) (by omega)))
            | (rw [if_neg (fun h => absurd (here_iff.mp h) (Int32.not_lt.mpr c45))]; exact hk)
  exact loop (cN c) 0 _ _ _ _ (by omega) (by decide) rfl rfl
set_option maxRecDepth 4000 in
theorem qX8_mean (n : Nat) (mi : MI) (mr : MR) (c : CT) (hR : RF mr) (hn : 186 ≤ n) (hBD : BD (mi 174) c) (q : Int32) : Ct KX8_mean 7 0 0 [.ref 173, .int q] n mi mr (eqQ (some (.long (sMean (mi 174) (cN c) q))) n mi mr) := by
  refine Ct.of2 [some (.ref 173), some (.int q), none, none, none] (by decide +kernel) (Nat.le_of_ble_eq_true rfl) rfl ?_
  obtain ⟨⟨hN, hN6⟩, ⟨hW, hW5⟩, ⟨hL, hL5⟩, ⟨hT, hT100⟩, ⟨hS, hS5⟩, ⟨hP, hP8⟩, ⟨hBk, hB8⟩⟩ := hBD.1
  refine V_iload_n dX8_mean_0 rfl ?_
  refine V_iconst (v := 0) dX8_mean_1 rfl ?_
  refine V_iconst (v := 1) dX8_mean_2 rfl ?_
  refine V_callS (qX8_in _ _ _ _ _ _) dX8_mean_3 mlX8_53 mtX8_in smX8_in rfl rfl (by decide) (Nat.le_of_ble_eq_true rfl) rfl rfl ?_
  rintro _ _ _ _ ⟨rfl, rfl, rfl, rfl⟩
  refine V_if_eq (tgt := 16) dX8_mean_6 (by decide) (fun c6 => ?_) (fun c6 => ?_)
  · refine V_ldc2 dX8_mean_16 kX8_259 ?_
    refine V_lret dX8_mean_19 rfl ?_
    refine ⟨?_, rfl, rfl, rfl⟩
    unfold sMean sFrac
    rw [if_neg]
    rintro ⟨h1, h2⟩
    first
      | exact absurd (b01_n.mpr (zero_one.mpr h2)) (by rw [c6]; decide)
      | exact absurd ((bits_zero hN6).mp c13) (by omega)
  · refine V_aload_n dX8_mean_9 rfl ?_
    refine V_callV (ci := 8) (qX8_whoIsHere _ _ _ hR hn (cN c) hN6 hBD.okS hN) dX8_mean_10 mlX8_178 mtX8_whoIsHere ivX8_whoIsHere rfl rfl ⟨by omega, by omega⟩ (by decide) rfl rfl (by decide) (Nat.le_of_ble_eq_true rfl) rfl rfl ?_
    rintro _ _ _ _ ⟨rfl, rfl, rfl, rfl⟩
    refine V_if_ne (tgt := 20) dX8_mean_13 (by decide) (fun c13 => ?_) (fun c13 => ?_)
    · refine V_lconst (v := 0) dX8_mean_20 rfl ?_
      refine V_lstore_n (L' := [_, _, _, _, _]) dX8_mean_21 (by decide) rfl rfl ?_
      refine V_iconst (v := 0) dX8_mean_22 rfl ?_
      refine V_istore (L' := [_, _, _, _, _]) dX8_mean_23 (by decide) rfl rfl ?_
      have loop : ∀ (m i : Nat) (acc : Int64) (x : Int32), i + m = cN c → x.toInt = (i : Int) → acc.toInt = (sumTo (meanF (mi 174)) i).toInt → V KX8_mean 7 0 0 (eqQ (some (.long (sMean (mi 174) (cN c) q))) n mi mr) 25 [some (.ref 173), some (.int q), some (.long acc), none, some (.int x)] [] n mi mr := by
        intro m
        induction m with
        | zero =>
          intro i acc x him hx ha
          refine V_iload dX8_mean_25 rfl ?_
          refine V_aload_n dX8_mean_27 rfl ?_
          refine V_getr (b := 174) 8 1 dX8_mean_28 (Or.inl lkX8_9) rfl rfl ⟨by omega, by omega⟩ (hR _ _ _ rfl) ?_
          refine V_bipush (v := 12) dX8_mean_31 rfl ?_
          refine V_iald (len := 938) 12 dX8_mean_33 rfl ⟨by omega, by omega⟩ (by decide) (by omega) ?_
          refine V_icmp_ge (tgt := 66) dX8_mean_34 (by decide) (fun c34 => ?_) (fun c34 => absurd ((le_nat hN hx).mpr (by omega)) c34)
          have hi : i = cN c := by omega
          subst hi
          have o1 := mean_nat hBD (Nat.le_refl _)
          have hcl9 := cntB_le (f := sHere (mi 174)) (N := cN c)
          refine V_lload_n dX8_mean_66 rfl ?_
          refine V_aload_n dX8_mean_67 rfl ?_
          refine V_callV (ci := 8) (qX8_whoIsHere _ _ _ hR hn (cN c) hN6 hBD.okS hN) dX8_mean_68 mlX8_178 mtX8_whoIsHere ivX8_whoIsHere rfl rfl ⟨by omega, by omega⟩ (by decide) rfl rfl (by decide) (Nat.le_of_ble_eq_true rfl) rfl rfl ?_
          rintro _ _ _ _ ⟨rfl, rfl, rfl, rfl⟩
          refine V_callS (qX8_countOf _ _ _ hR hn _) dX8_mean_71 mlX8_265 mtX8_countOf smX8_countOf rfl rfl (by decide) (Nat.le_of_ble_eq_true rfl) rfl rfl ?_
          rintro _ _ _ _ ⟨rfl, rfl, rfl, rfl⟩
          rw [bits_cnt hN6]
          refine V_i2l dX8_mean_74 ?_
          refine V_iload_n dX8_mean_75 rfl ?_
          refine V_callS (qX8_lowest _ _ _ _ _ _ _ _ (ha.trans (nat_get o1).1) (l_of (nI_toInt (n := cntB (sHere (mi 174)) (cN c)) (by omega))) ⟨(nat_get o1).2, by omega⟩ (Nat.pos_of_ne_zero (fun e => c13 ((bits_zero hN6).mpr e))) (zero_one.mp (b01_n.mp c6))) dX8_mean_76 mlX8_261 mtX8_lowest smX8_lowest rfl rfl (by decide) (Nat.le_of_ble_eq_true rfl) rfl rfl ?_
          rintro _ _ _ _ ⟨rfl, rfl, rfl, rfl⟩
          refine V_lret dX8_mean_79 rfl ?_
          exact ⟨rfl, rfl, rfl, rfl⟩
        | succ m ih =>
          intro i acc x him hx ha
          refine V_iload dX8_mean_25 rfl ?_
          refine V_aload_n dX8_mean_27 rfl ?_
          refine V_getr (b := 174) 8 1 dX8_mean_28 (Or.inl lkX8_9) rfl rfl ⟨by omega, by omega⟩ (hR _ _ _ rfl) ?_
          refine V_bipush (v := 12) dX8_mean_31 rfl ?_
          refine V_iald (len := 938) 12 dX8_mean_33 rfl ⟨by omega, by omega⟩ (by decide) (by omega) ?_
          refine V_icmp_ge (tgt := 66) dX8_mean_34 (by decide) (fun c34 => absurd ((le_nat hN hx).mp c34) (by omega)) (fun c34 => ?_)
          refine V_lload_n dX8_mean_37 rfl ?_
          refine V_aload_n dX8_mean_38 rfl ?_
          refine V_iload dX8_mean_39 rfl ?_
          refine V_callV (ci := 8) (qX8_isHere _ _ _ hR hn (cN c) hN6 hBD.okS _ i hx (by omega)) dX8_mean_41 mlX8_159 mtX8_isHere ivX8_isHere rfl rfl ⟨by omega, by omega⟩ (by decide) rfl rfl (by decide) (Nat.le_of_ble_eq_true rfl) rfl rfl ?_
          rintro _ _ _ _ ⟨rfl, rfl, rfl, rfl⟩
          refine V_if_eq (tgt := 57) dX8_mean_44 (by decide) (fun c44 => ?_) (fun c44 => ?_)
          · refine V_lconst (v := 0) dX8_mean_57 rfl ?_
            refine V_ladd dX8_mean_58 ?_
            refine V_lstore_n (L' := [_, _, _, _, _]) dX8_mean_59 (by decide) rfl rfl ?_
            refine V_iinc (v := _ + (1)) (L' := [_, _, _, _, _]) dX8_mean_60 (by decide) rfl rfl rfl rfl ?_
            refine V_goto (tgt := 25) dX8_mean_63 (by decide) ?_
            have g1 := (nat_get (mean_nat hBD (i := i) (by omega))).1
            have g2 := (nat_get (mean_nat hBD (i := i) (by omega))).2
            refine ih (i + 1) _ _ (by omega) (ix_add hx (by decide) (by omega)) ?_
            unfold sumTo
            unfold meanF sHere
            first
              | (obtain ⟨u, u1, u2⟩ := here_nat hBD (by omega) (b01_n.mp c44)
                 rw [if_pos (decide_eq_true (b01_n.mp c44)), l_add (ha.trans g1) (l_of u1) (by omega)]
                 exact (ix_add g1 u1 (by omega)).symm)
              | (rw [if_neg (fun h => b01_0.mp c44 (of_decide_eq_true h)), l_add (b := 0) (ha.trans g1) rfl (by omega), Int32.add_zero]
                 exact g1.symm)
          · refine V_aload_n dX8_mean_47 rfl ?_
            refine V_iload dX8_mean_48 rfl ?_
            refine V_callV (ci := 8) (qX8_ageOf _ _ _ hR hn (cN c) hN6 hBD.okS _ i hx (by omega)) dX8_mean_50 mlX8_155 mtX8_ageOf ivX8_ageOf rfl rfl ⟨by omega, by omega⟩ (by decide) rfl rfl (by decide) (Nat.le_of_ble_eq_true rfl) rfl rfl ?_
            rintro _ _ _ _ ⟨rfl, rfl, rfl, rfl⟩
            refine V_i2l dX8_mean_53 ?_
            refine V_goto (tgt := 58) dX8_mean_54 (by decide) ?_
            refine V_ladd dX8_mean_58 ?_
            refine V_lstore_n (L' := [_, _, _, _, _]) dX8_mean_59 (by decide) rfl rfl ?_
            refine V_iinc (v := _ + (1)) (L' := [_, _, _, _, _]) dX8_mean_60 (by decide) rfl rfl rfl rfl ?_
            refine V_goto (tgt := 25) dX8_mean_63 (by decide) ?_
            have g1 := (nat_get (mean_nat hBD (i := i) (by omega))).1
            have g2 := (nat_get (mean_nat hBD (i := i) (by omega))).2
            refine ih (i + 1) _ _ (by omega) (ix_add hx (by decide) (by omega)) ?_
            unfold sumTo
            unfold meanF sHere
            first
              | (obtain ⟨u, u1, u2⟩ := here_nat hBD (by omega) (b01_n.mp c44)
                 rw [if_pos (decide_eq_true (b01_n.mp c44)), l_add (ha.trans g1) (l_of u1) (by omega)]
                 exact (ix_add g1 u1 (by omega)).symm)
              | (rw [if_neg (fun h => b01_0.mp c44 (of_decide_eq_true h)), l_add (b := 0) (ha.trans g1) rfl (by omega), Int32.add_zero]
                 exact g1.symm)
      exact loop (cN c) 0 _ _ (by omega) (by decide) rfl
    · refine V_ldc2 dX8_mean_16 kX8_259 ?_
      refine V_lret dX8_mean_19 rfl ?_
      refine ⟨?_, rfl, rfl, rfl⟩
      unfold sMean sFrac
      rw [if_neg]
      rintro ⟨h1, h2⟩
      first
        | exact absurd (b01_n.mpr (zero_one.mpr h2)) (by rw [c6]; decide)
        | exact absurd ((bits_zero hN6).mp c13) (by omega)
