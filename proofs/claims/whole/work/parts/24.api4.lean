abbrev bringsB (S : Nat → Int32) (p : Nat) (v : Nat) : Bool := decide (0 < S (7 + v) ∧ sHereAt S p (sAge S p (nI v)))
def sBrings (S : Nat → Int32) (W : Nat) (p : Int32) : Int32 := if 0 ≤ p ∧ p < S 12 then bitsTo (bringsB S p.toNatClampNeg) W else -1
set_option maxRecDepth 4000 in
theorem qX7_brings (n : Nat) (mi : MI) (mr : MR) (c : CT) (I : INV n mi mr c) (p : Int32) : Ct KX7_brings 6 0 0 [.ref 32, .int p] n mi mr (eqQ (some (.int (sBrings (mi 174) (cW c) p))) n (mi) mr) := by
  refine Ct.of2 [some (.ref 32), some (.int p), none, none] (by decide +kernel) (Nat.le_of_ble_eq_true rfl) rfl ?_
  have hhv := I.hv
  have hcl := I.cl.1
  obtain ⟨hR, hn, ⟨⟨hN, hN6⟩, ⟨hW, hW5⟩, ⟨hL, hL5⟩, ⟨hT, hT100⟩, ⟨hS, hS5⟩, ⟨hP, hP8⟩, ⟨hBk, hB8⟩⟩, hrw⟩ := I.facts
  have hBD := I.2.2.1
  obtain ⟨⟨r1, r2, r3, r4, r5⟩, hper, hvin, htape, hseen, hnight, hbook⟩ := id hrw
  have hcN : nat (mi 40 1) (cN c) := by rw [r2]; exact hN
  have hcW : nat (mi 40 2) (cW c) := by rw [r3]; exact hW
  clear I
  refine V_aload_n dX7_brings_0 rfl ?_
  refine V_iload_n dX7_brings_1 rfl ?_
  refine V_callV (ci := 7) (qX7_isOne _ _ _ hR hn _) dX7_brings_2 mlX7_105 mtX7_isOne ivX7_isOne rfl rfl ⟨by omega, by omega⟩ (by decide) rfl rfl (by decide) (Nat.le_of_ble_eq_true rfl) rfl rfl ?_
  rintro _ _ _ _ ⟨rfl, rfl, rfl, rfl⟩
  refine V_if_ne (tgt := 10) dX7_brings_5 (by decide) (fun c5 => ?_) (fun c5 => ?_)
  · obtain ⟨a, ha1, ha2⟩ := idxC c5 hcN
    refine V_iconst (v := 0) dX7_brings_10 rfl ?_
    refine V_istore_n (L' := [_, _, _, _]) dX7_brings_11 (by decide) rfl rfl ?_
    refine V_iconst (v := 0) dX7_brings_12 rfl ?_
    refine V_istore_n (L' := [_, _, _, _]) dX7_brings_13 (by decide) rfl rfl ?_
    have loop : ∀ (m i : Nat) (acc x : Int32), i + m = cW c → x.toInt = (i : Int) → acc = bitsTo (bringsB (mi 174) a) i → V KX7_brings 6 0 0 (eqQ (some (.int (sBrings (mi 174) (cW c) p))) n (mi) mr) 14 [some (.ref 32), some (.int p), some (.int acc), some (.int x)] [] n mi mr := by
      intro m
      induction m with
      | zero =>
        intro i acc x him hx ha
        refine V_iload_n dX7_brings_14 rfl ?_
        refine V_aload_n dX7_brings_15 rfl ?_
        refine V_getr (b := 40) 7 1 dX7_brings_16 (Or.inl lkX7_30) rfl rfl ⟨by omega, by omega⟩ (hR _ _ _ rfl) ?_
        refine V_geti 6 2 dX7_brings_19 lnX7_98 rfl rfl ⟨by omega, by omega⟩ ?_
        refine V_icmp_ge (tgt := 61) dX7_brings_22 (by decide) (fun c22 => ?_) (fun c22 => absurd ((le_nat hcW hx).mpr (by omega)) c22)
        refine V_iload_n dX7_brings_61 rfl ?_
        refine V_iret dX7_brings_62 rfl rfl ?_
        have hi : i = cW c := by omega
        subst hi
        refine ⟨?_, rfl, rfl, rfl⟩
        unfold sBrings
        rw [if_pos (by rw [← r2]; exact b01_n.mp c5), nat_of_toInt ha1, ha]
      | succ m ih =>
        intro i acc x him hx ha
        refine V_iload_n dX7_brings_14 rfl ?_
        refine V_aload_n dX7_brings_15 rfl ?_
        refine V_getr (b := 40) 7 1 dX7_brings_16 (Or.inl lkX7_30) rfl rfl ⟨by omega, by omega⟩ (hR _ _ _ rfl) ?_
        refine V_geti 6 2 dX7_brings_19 lnX7_98 rfl rfl ⟨by omega, by omega⟩ ?_
        refine V_icmp_ge (tgt := 61) dX7_brings_22 (by decide) (fun c22 => absurd ((le_nat hcW hx).mp c22) (by omega)) (fun c22 => ?_)
        refine V_aload_n dX7_brings_25 rfl ?_
        refine V_getr (b := 40) 7 1 dX7_brings_26 (Or.inl lkX7_30) rfl rfl ⟨by omega, by omega⟩ (hR _ _ _ rfl) ?_
        refine V_getr (b := 43) 6 8 dX7_brings_29 lnX7_146 rfl rfl ⟨by omega, by omega⟩ (hR _ _ _ rfl) ?_
        refine V_iload_n dX7_brings_32 rfl ?_
        refine V_iald (len := 5) i dX7_brings_33 rfl ⟨by omega, by omega⟩ hx (by omega) ?_
        refine V_if_le (tgt := 55) dX7_brings_34 (by decide) (fun c34 => ?_) (fun c34 => ?_)
        · refine V_iinc (v := _ + (1)) (L' := [_, _, _, _]) dX7_brings_55 (by decide) rfl rfl rfl rfl ?_
          refine V_goto (tgt := 14) dX7_brings_58 (by decide) ?_
          have b2 : mi 43 i = mi 174 (7 + i) := (hvin i (by omega)).2
          rw [b2] at c34
          by_cases hq : 0 < mi 174 (7 + i) ∧ sHereAt (mi 174) a (sAge (mi 174) a (nI i))
          · first
            | (refine ih (i + 1) _ _ (by omega) (ix_add hx (by decide) (by omega)) ?_; rw [bitsTo, if_pos (decide_eq_true hq), ha, nI_of_toInt hx]; done)
            | exact absurd hq.1 (Int32.not_lt.mpr c34)
            | (rw [nI_of_toInt hx] at c46; exact absurd (fStage_pos.mpr hq.2) (Int32.not_lt.mpr c46))
          · first
            | (refine ih (i + 1) _ _ (by omega) (ix_add hx (by decide) (by omega)) ?_; rw [bitsTo, if_neg (fun h => hq (of_decide_eq_true h)), ha]; done)
            | (rw [nI_of_toInt hx] at c46; exact absurd (And.intro (Int32.not_le.mp c34) (fStage_pos.mp (Int32.not_le.mp c46))) hq)
        · refine V_aload_n dX7_brings_37 rfl ?_
          refine V_getr (b := 40) 7 1 dX7_brings_38 (Or.inl lkX7_30) rfl rfl ⟨by omega, by omega⟩ (hR _ _ _ rfl) ?_
          refine V_iload_n dX7_brings_41 rfl ?_
          refine V_iload_n dX7_brings_42 rfl ?_
          refine V_callV (ci := 6) (qX6_stageBy _ _ _ hR hn _ (Or.inl rfl) (hvOf (mi 174)) hcl hBD.isV _ _ a ha1 (by omega) (Or.inr ⟨i, hx, by omega⟩)) dX7_brings_43 mlX7_130 mtX6_stageBy ivX6_stageBy rfl rfl ⟨by omega, by omega⟩ (by decide) rfl rfl (by decide) (Nat.le_of_ble_eq_true rfl) rfl rfl ?_
          rintro _ _ _ _ ⟨rfl, rfl, rfl, rfl⟩
          rw [age_eq hBD hrw ha2 (Or.inr ⟨i, hx, by omega⟩), stage_eq hrw ha2 hhv]
          refine V_if_le (tgt := 55) dX7_brings_46 (by decide) (fun c46 => ?_) (fun c46 => ?_)
          · refine V_iinc (v := _ + (1)) (L' := [_, _, _, _]) dX7_brings_55 (by decide) rfl rfl rfl rfl ?_
            refine V_goto (tgt := 14) dX7_brings_58 (by decide) ?_
            have b2 : mi 43 i = mi 174 (7 + i) := (hvin i (by omega)).2
            rw [b2] at c34
            by_cases hq : 0 < mi 174 (7 + i) ∧ sHereAt (mi 174) a (sAge (mi 174) a (nI i))
            · first
              | (refine ih (i + 1) _ _ (by omega) (ix_add hx (by decide) (by omega)) ?_; rw [bitsTo, if_pos (decide_eq_true hq), ha, nI_of_toInt hx]; done)
              | exact absurd hq.1 (Int32.not_lt.mpr c34)
              | (rw [nI_of_toInt hx] at c46; exact absurd (fStage_pos.mpr hq.2) (Int32.not_lt.mpr c46))
            · first
              | (refine ih (i + 1) _ _ (by omega) (ix_add hx (by decide) (by omega)) ?_; rw [bitsTo, if_neg (fun h => hq (of_decide_eq_true h)), ha]; done)
              | (rw [nI_of_toInt hx] at c46; exact absurd (And.intro (Int32.not_le.mp c34) (fStage_pos.mp (Int32.not_le.mp c46))) hq)
          · refine V_iload_n dX7_brings_49 rfl ?_
            refine V_iconst (v := 1) dX7_brings_50 rfl ?_
            refine V_iload_n dX7_brings_51 rfl ?_
            refine V_ishl dX7_brings_52 ?_
            refine V_ior dX7_brings_53 ?_
            refine V_istore_n (L' := [_, _, _, _]) dX7_brings_54 (by decide) rfl rfl ?_
            refine V_iinc (v := _ + (1)) (L' := [_, _, _, _]) dX7_brings_55 (by decide) rfl rfl rfl rfl ?_
            refine V_goto (tgt := 14) dX7_brings_58 (by decide) ?_
            have b2 : mi 43 i = mi 174 (7 + i) := (hvin i (by omega)).2
            rw [b2] at c34
            by_cases hq : 0 < mi 174 (7 + i) ∧ sHereAt (mi 174) a (sAge (mi 174) a (nI i))
            · first
              | (refine ih (i + 1) _ _ (by omega) (ix_add hx (by decide) (by omega)) ?_; rw [bitsTo, if_pos (decide_eq_true hq), ha, nI_of_toInt hx]; done)
              | exact absurd hq.1 (Int32.not_lt.mpr c34)
              | (rw [nI_of_toInt hx] at c46; exact absurd (fStage_pos.mpr hq.2) (Int32.not_lt.mpr c46))
            · first
              | (refine ih (i + 1) _ _ (by omega) (ix_add hx (by decide) (by omega)) ?_; rw [bitsTo, if_neg (fun h => hq (of_decide_eq_true h)), ha]; done)
              | (rw [nI_of_toInt hx] at c46; exact absurd (And.intro (Int32.not_le.mp c34) (fStage_pos.mp (Int32.not_le.mp c46))) hq)
    exact loop (cW c) 0 _ _ (by omega) (by decide) rfl
  · refine V_iconst (v := -1) dX7_brings_8 rfl ?_
    refine V_iret dX7_brings_9 rfl rfl ?_
    clear hR
    (try simp only [b01_0, b01_n] at *)
    refine ⟨?_, rfl, ?_, rfl⟩
    all_goals (simp only [sBrings]; (try simp only [r2]); repeat' split)
    all_goals first | rfl | (exfalso; simp only [Int32.lt_iff_toInt_lt, Int32.le_iff_toInt_le, ← Int32.toInt_inj, Int32.reduceToInt] at *; omega)
set_option maxRecDepth 4000 in
theorem qX8_brings (n : Nat) (mi : MI) (mr : MR) (c : CT) (hR : RF mr) (hn : 186 ≤ n) (hBD : BD (mi 174) c) (p : Int32) : Ct KX8_brings 6 0 0 [.ref 173, .int p] n mi mr (eqQ (some (.int (sBrings (mi 174) (cW c) p))) n (mi) mr) := by
  refine Ct.of2 [some (.ref 173), some (.int p), none, none] (by decide +kernel) (Nat.le_of_ble_eq_true rfl) rfl ?_
  obtain ⟨⟨hN, hN6⟩, ⟨hW, hW5⟩, ⟨hL, hL5⟩, ⟨hT, hT100⟩, ⟨hS, hS5⟩, ⟨hP, hP8⟩, ⟨hBk, hB8⟩⟩ := hBD.1
  refine V_aload_n dX8_brings_0 rfl ?_
  refine V_iload_n dX8_brings_1 rfl ?_
  refine V_callV (ci := 8) (qX8_isPerson _ _ _ hR hn _) dX8_brings_2 mlX8_169 mtX8_isPerson ivX8_isPerson rfl rfl ⟨by omega, by omega⟩ (by decide) rfl rfl (by decide) (Nat.le_of_ble_eq_true rfl) rfl rfl ?_
  rintro _ _ _ _ ⟨rfl, rfl, rfl, rfl⟩
  simp only [leSub hN (by omega)]
  refine V_if_ne (tgt := 10) dX8_brings_5 (by decide) (fun c5 => ?_) (fun c5 => ?_)
  · obtain ⟨a, ha1, ha2⟩ := idxC c5 hN
    refine V_iconst (v := 0) dX8_brings_10 rfl ?_
    refine V_istore_n (L' := [_, _, _, _]) dX8_brings_11 (by decide) rfl rfl ?_
    refine V_iconst (v := 0) dX8_brings_12 rfl ?_
    refine V_istore_n (L' := [_, _, _, _]) dX8_brings_13 (by decide) rfl rfl ?_
    have loop : ∀ (m i : Nat) (acc x : Int32), i + m = cW c → x.toInt = (i : Int) → acc = bitsTo (bringsB (mi 174) a) i → V KX8_brings 6 0 0 (eqQ (some (.int (sBrings (mi 174) (cW c) p))) n (mi) mr) 14 [some (.ref 173), some (.int p), some (.int acc), some (.int x)] [] n mi mr := by
      intro m
      induction m with
      | zero =>
        intro i acc x him hx ha
        refine V_iload_n dX8_brings_14 rfl ?_
        refine V_aload_n dX8_brings_15 rfl ?_
        refine V_getr (b := 174) 8 1 dX8_brings_16 (Or.inl lkX8_9) rfl rfl ⟨by omega, by omega⟩ (hR _ _ _ rfl) ?_
        refine V_bipush (v := 19) dX8_brings_19 rfl ?_
        refine V_iald (len := 938) 19 dX8_brings_21 rfl ⟨by omega, by omega⟩ (by decide) (by omega) ?_
        refine V_icmp_ge (tgt := 67) dX8_brings_22 (by decide) (fun c22 => ?_) (fun c22 => absurd ((le_nat hW hx).mpr (by omega)) c22)
        refine V_iload_n dX8_brings_67 rfl ?_
        refine V_iret dX8_brings_68 rfl rfl ?_
        have hi : i = cW c := by omega
        subst hi
        refine ⟨?_, rfl, rfl, rfl⟩
        unfold sBrings
        rw [if_pos (b01_n.mp c5), nat_of_toInt ha1, ha]
      | succ m ih =>
        intro i acc x him hx ha
        refine V_iload_n dX8_brings_14 rfl ?_
        refine V_aload_n dX8_brings_15 rfl ?_
        refine V_getr (b := 174) 8 1 dX8_brings_16 (Or.inl lkX8_9) rfl rfl ⟨by omega, by omega⟩ (hR _ _ _ rfl) ?_
        refine V_bipush (v := 19) dX8_brings_19 rfl ?_
        refine V_iald (len := 938) 19 dX8_brings_21 rfl ⟨by omega, by omega⟩ (by decide) (by omega) ?_
        refine V_icmp_ge (tgt := 67) dX8_brings_22 (by decide) (fun c22 => absurd ((le_nat hW hx).mp c22) (by omega)) (fun c22 => ?_)
        refine V_iload_n dX8_brings_25 rfl ?_
        refine V_aload_n dX8_brings_26 rfl ?_
        refine V_getr (b := 174) 8 1 dX8_brings_27 (Or.inl lkX8_9) rfl rfl ⟨by omega, by omega⟩ (hR _ _ _ rfl) ?_
        refine V_bipush (v := 7) dX8_brings_30 rfl ?_
        refine V_iload_n dX8_brings_32 rfl ?_
        refine V_iadd dX8_brings_33 ?_
        refine V_iald (len := 938) (7 + i) dX8_brings_34 rfl ⟨by omega, by omega⟩ (ix_add (by decide) hx (by omega)) (by omega) ?_
        refine V_if_le (tgt := 58) dX8_brings_35 (by decide) (fun c35 => ?_) (fun c35 => ?_)
        · refine V_iconst (v := 0) dX8_brings_58 rfl ?_
          refine V_ior dX8_brings_59 ?_
          refine V_istore_n (L' := [_, _, _, _]) dX8_brings_60 (by decide) rfl rfl ?_
          refine V_iinc (v := _ + (1)) (L' := [_, _, _, _]) dX8_brings_61 (by decide) rfl rfl rfl rfl ?_
          refine V_goto (tgt := 14) dX8_brings_64 (by decide) ?_
          by_cases hq : 0 < mi 174 (7 + i) ∧ sHereAt (mi 174) a (sAge (mi 174) a (nI i))
          · first
            | (refine ih (i + 1) _ _ (by omega) (ix_add hx (by decide) (by omega)) ?_; rw [bitsTo, if_pos (decide_eq_true hq), ha, nI_of_toInt hx]; done)
            | exact absurd hq.1 (Int32.not_lt.mpr c35)
            | (rw [nI_of_toInt hx] at c49; exact absurd hq.2 (b01_0.mp c49))
          · first
            | (refine ih (i + 1) _ _ (by omega) (ix_add hx (by decide) (by omega)) ?_; rw [bitsTo, if_neg (fun h => hq (of_decide_eq_true h)), ha, Int32.or_zero]; done)
            | (rw [nI_of_toInt hx] at c49; exact absurd (And.intro (Int32.not_le.mp c35) (b01_n.mp c49)) hq)
        · refine V_aload_n dX8_brings_38 rfl ?_
          refine V_iload_n dX8_brings_39 rfl ?_
          refine V_aload_n dX8_brings_40 rfl ?_
          refine V_iload_n dX8_brings_41 rfl ?_
          refine V_iload_n dX8_brings_42 rfl ?_
          refine V_callV (ci := 8) (qX8_ageBy _ _ _ hR hn _ _ a ha1 (by omega) (Or.inr ⟨i, hx, by omega⟩) hBD.okS.2.1) dX8_brings_43 mlX8_146 mtX8_ageBy ivX8_ageBy rfl rfl ⟨by omega, by omega⟩ (by decide) rfl rfl (by decide) (Nat.le_of_ble_eq_true rfl) rfl rfl ?_
          rintro _ _ _ _ ⟨rfl, rfl, rfl, rfl⟩
          refine V_callV (ci := 8) (qX8_isHereAt _ _ _ hR hn _ _ a ha1 (by omega)) dX8_brings_46 mlX8_139 mtX8_isHereAt ivX8_isHereAt rfl rfl ⟨by omega, by omega⟩ (by decide) rfl rfl (by decide) (Nat.le_of_ble_eq_true rfl) rfl rfl ?_
          rintro _ _ _ _ ⟨rfl, rfl, rfl, rfl⟩
          refine V_if_eq (tgt := 58) dX8_brings_49 (by decide) (fun c49 => ?_) (fun c49 => ?_)
          · refine V_iconst (v := 0) dX8_brings_58 rfl ?_
            refine V_ior dX8_brings_59 ?_
            refine V_istore_n (L' := [_, _, _, _]) dX8_brings_60 (by decide) rfl rfl ?_
            refine V_iinc (v := _ + (1)) (L' := [_, _, _, _]) dX8_brings_61 (by decide) rfl rfl rfl rfl ?_
            refine V_goto (tgt := 14) dX8_brings_64 (by decide) ?_
            by_cases hq : 0 < mi 174 (7 + i) ∧ sHereAt (mi 174) a (sAge (mi 174) a (nI i))
            · first
              | (refine ih (i + 1) _ _ (by omega) (ix_add hx (by decide) (by omega)) ?_; rw [bitsTo, if_pos (decide_eq_true hq), ha, nI_of_toInt hx]; done)
              | exact absurd hq.1 (Int32.not_lt.mpr c35)
              | (rw [nI_of_toInt hx] at c49; exact absurd hq.2 (b01_0.mp c49))
            · first
              | (refine ih (i + 1) _ _ (by omega) (ix_add hx (by decide) (by omega)) ?_; rw [bitsTo, if_neg (fun h => hq (of_decide_eq_true h)), ha, Int32.or_zero]; done)
              | (rw [nI_of_toInt hx] at c49; exact absurd (And.intro (Int32.not_le.mp c35) (b01_n.mp c49)) hq)
          · refine V_iconst (v := 1) dX8_brings_52 rfl ?_
            refine V_iload_n dX8_brings_53 rfl ?_
            refine V_ishl dX8_brings_54 ?_
            refine V_goto (tgt := 59) dX8_brings_55 (by decide) ?_
            refine V_ior dX8_brings_59 ?_
            refine V_istore_n (L' := [_, _, _, _]) dX8_brings_60 (by decide) rfl rfl ?_
            refine V_iinc (v := _ + (1)) (L' := [_, _, _, _]) dX8_brings_61 (by decide) rfl rfl rfl rfl ?_
            refine V_goto (tgt := 14) dX8_brings_64 (by decide) ?_
            by_cases hq : 0 < mi 174 (7 + i) ∧ sHereAt (mi 174) a (sAge (mi 174) a (nI i))
            · first
              | (refine ih (i + 1) _ _ (by omega) (ix_add hx (by decide) (by omega)) ?_; rw [bitsTo, if_pos (decide_eq_true hq), ha, nI_of_toInt hx]; done)
              | exact absurd hq.1 (Int32.not_lt.mpr c35)
              | (rw [nI_of_toInt hx] at c49; exact absurd hq.2 (b01_0.mp c49))
            · first
              | (refine ih (i + 1) _ _ (by omega) (ix_add hx (by decide) (by omega)) ?_; rw [bitsTo, if_neg (fun h => hq (of_decide_eq_true h)), ha, Int32.or_zero]; done)
              | (rw [nI_of_toInt hx] at c49; exact absurd (And.intro (Int32.not_le.mp c35) (b01_n.mp c49)) hq)
    exact loop (cW c) 0 _ _ (by omega) (by decide) rfl
  · refine V_iconst (v := -1) dX8_brings_8 rfl ?_
    refine V_iret dX8_brings_9 rfl rfl ?_
    clear hR
    (try simp only [b01_0, b01_n] at *)
    refine ⟨?_, rfl, ?_, rfl⟩
    all_goals (simp only [sBrings]; repeat' split)
    all_goals first | rfl | (exfalso; simp only [Int32.lt_iff_toInt_lt, Int32.le_iff_toInt_le, ← Int32.toInt_inj, Int32.reduceToInt] at *; omega)
