abbrev gBirth (S : Nat → Int32) (a : Nat) (v : Int32) : Int32 := sAgeG S a (S (1 + a)) v (S (26 + a))
abbrev gFirm (S : Nat → Int32) (a : Nat) (v : Int32) : Int32 := sAgeG S a (S (1 + a)) (S (32 + a)) v
def sFit (S : Nat → Int32) (N : Nat) (g : Nat → Int32 → Int32) (T : Nat) (p w : Int32) : Int32 := if (0 ≤ p ∧ p < S 12) ∧ (w = 0 ∨ w = 1) then (if w = 0 then (fit (fitB S N p (g p.toNatClampNeg)) T T).1 else (fit (fitB S N p (g p.toNatClampNeg)) T T).2) else -1
theorem upS_ne {S : Nat → Int32} {pl k : Nat} {v : Int32} (h : k ≠ pl) : upS S pl v k = S k := if_neg h
theorem upS_eq {S : Nat → Int32} {pl : Nat} {v : Int32} : upS S pl v pl = v := if_pos rfl
theorem gBirth_up {S : Nat → Int32} {a : Nat} (ha : a < 6) (v : Int32) : sAge (upS S (32 + a) v) a (upS S (32 + a) v (1 + a)) = gBirth S a v := by
  unfold sAge sAgeIn gBirth sAgeG
  rw [upS_ne (k := 1 + a) (by omega), upS_ne (k := 0) (by omega), upS_eq, upS_ne (k := 20 + a) (by omega), upS_ne (k := 26 + a) (by omega), upS_ne (k := 68 + _) (by omega)]
  rw [show (fun k => upS S (32 + a) v (44 + 4 * a + k)) = fun k => S (44 + 4 * a + k) from funext fun k => upS_ne (by omega)]
theorem gFirm_up {S : Nat → Int32} {a : Nat} (ha : a < 6) (v : Int32) : sAge (upS S (26 + a) v) a (upS S (26 + a) v (1 + a)) = gFirm S a v := by
  unfold sAge sAgeIn gFirm sAgeG
  rw [upS_ne (k := 1 + a) (by omega), upS_ne (k := 0) (by omega), upS_eq, upS_ne (k := 20 + a) (by omega), upS_ne (k := 32 + a) (by omega), upS_ne (k := 68 + _) (by omega)]
  rw [show (fun k => upS S (26 + a) v (44 + 4 * a + k)) = fun k => S (44 + 4 * a + k) from funext fun k => upS_ne (by omega)]
theorem birth_BD {S : Nat → Int32} {c : CT} {a : Nat} (h : BD S c) (ha : a < 6) (v : Int32) (hv : natTo v (199 + 1)) : BD (upS S (32 + a) v) c := by
  refine h.set (a := 32 + a) (fun k hk => upS_ne hk) ?_
  rw [upS_eq]
  unfold okAt
  refine ⟨?_, ?_, ?_, ?_, ?_, ?_, fun _ _ => hv, ?_, ?_, ?_, ?_, ?_, ?_, ?_⟩ <;> (intros; omega)
theorem firm_BD {S : Nat → Int32} {c : CT} {a : Nat} (h : BD S c) (ha : a < 6) (v : Int32) (hv : natTo v (9 + 1)) : BD (upS S (26 + a) v) c := by
  refine h.set (a := 26 + a) (fun k hk => upS_ne hk) ?_
  rw [upS_eq]
  unfold okAt
  refine ⟨?_, ?_, ?_, ?_, ?_, fun _ _ => hv, ?_, ?_, ?_, ?_, ?_, ?_, ?_, ?_⟩ <;> (intros; omega)
set_option maxRecDepth 4000 in
theorem qX7_birth (n : Nat) (mi : MI) (mr : MR) (c : CT) (I : INV n mi mr c) (p q : Int32) : Ct KX7_birth 6 0 0 [.ref 32, .int p, .int q] n mi mr (eqQ (some (.int (sFit (mi 174) (cS c) (gBirth (mi 174)) 200 p q))) n (mi) mr) := by
  refine Ct.of2 [some (.ref 32), some (.int p), some (.int q), none, none, none, none] (by decide +kernel) (Nat.le_of_ble_eq_true rfl) rfl ?_
  obtain ⟨hR, hn, ⟨⟨hN, hN6⟩, ⟨hW, hW5⟩, ⟨hL, hL5⟩, ⟨hT, hT100⟩, ⟨hS, hS5⟩, ⟨hP, hP8⟩, ⟨hBk, hB8⟩⟩, hrw⟩ := I.facts
  have hBD := I.2.2.1
  obtain ⟨⟨r1, r2, r3, r4, r5⟩, hper, hvin, htape, hseen, hnight, hbook⟩ := id hrw
  have hcN : nat (mi 40 1) (cN c) := by rw [r2]; exact hN
  have hcW : nat (mi 40 2) (cW c) := by rw [r3]; exact hW
  clear I
  refine V_aload_n dX7_birth_0 rfl ?_
  refine V_iload_n dX7_birth_1 rfl ?_
  refine V_callV (ci := 7) (qX7_isOne _ _ _ hR hn _) dX7_birth_2 mlX7_105 mtX7_isOne ivX7_isOne rfl rfl ⟨by omega, by omega⟩ (by decide) rfl rfl (by decide) (Nat.le_of_ble_eq_true rfl) rfl rfl ?_
  rintro _ _ _ _ ⟨rfl, rfl, rfl, rfl⟩
  refine V_if_eq (tgt := 15) dX7_birth_5 (by decide) (fun c5 => ?_) (fun c5 => ?_)
  · refine V_iconst (v := -1) dX7_birth_15 rfl ?_
    refine V_iret dX7_birth_16 rfl rfl ?_
    clear hR
    (try simp only [b01_0, b01_n] at *)
    refine ⟨?_, rfl, ?_, rfl⟩
    all_goals (simp only [sFit]; (try simp only [r2]); repeat' split)
    all_goals first | rfl | (exfalso; simp only [Int32.lt_iff_toInt_lt, Int32.le_iff_toInt_le, ← Int32.toInt_inj, Int32.reduceToInt] at *; omega)
  · refine V_iload_n dX7_birth_8 rfl ?_
    refine V_callS (qX7_isCountOrFirst _ _ _ hR hn _) dX7_birth_9 mlX7_188 mtX7_isCountOrFirst smX7_isCountOrFirst rfl rfl (by decide) (Nat.le_of_ble_eq_true rfl) rfl rfl ?_
    rintro _ _ _ _ ⟨rfl, rfl, rfl, rfl⟩
    refine V_if_ne (tgt := 17) dX7_birth_12 (by decide) (fun c12 => ?_) (fun c12 => ?_)
    · obtain ⟨a, ha1, ha2⟩ := idxC c5 hcN
      obtain ⟨k1, k2, k3, -, k5, -⟩ := hper a ha2
      rw [show (40 + 18 + 2 * a : Nat) = 58 + 2 * a from rfl] at k1 k2 k3 k5
      have hhas := (hBD.2.2.2.1 a ha2).2.2.2.2.1
      refine V_aload_n dX7_birth_17 rfl ?_
      refine V_getr (b := 40) 7 1 dX7_birth_18 (Or.inl lkX7_30) rfl rfl ⟨by omega, by omega⟩ (hR _ _ _ rfl) ?_
      refine V_getr (b := 41) 6 6 dX7_birth_21 lnX7_85 rfl rfl ⟨by omega, by omega⟩ (hR _ _ _ rfl) ?_
      refine V_iload_n dX7_birth_24 rfl ?_
      refine V_aald (len := 6) (b := (58 + 2 * a)) 5 a dX7_birth_25 rfl rfl ⟨by omega, by omega⟩ ha1 (by omega) (hR _ _ _ (rFolk (Or.inl rfl) (by omega))) ?_
      refine V_astore_n (L' := [_, _, _, _, _, _, _]) dX7_birth_26 (by decide) rfl rfl ?_
      refine V_iconst (v := 0) dX7_birth_27 rfl ?_
      refine V_istore (L' := [_, _, _, _, _, _, _]) dX7_birth_28 (by decide) rfl rfl ?_
      refine V_bipush (v := -5) dX7_birth_30 rfl ?_
      refine V_istore (L' := [_, _, _, _, _, _, _]) dX7_birth_32 (by decide) rfl rfl ?_
      refine V_sipush (v := 199) dX7_birth_34 rfl ?_
      refine V_istore (L' := [_, _, _, _, _, _, _]) dX7_birth_37 (by decide) rfl rfl ?_
      have loop : ∀ (m i : Nat) (mn fs y : Int32), i + m = 200 → y.toInt = ((199 : Nat) : Int) - (i : Int) → fit (fitB (mi 174) (cS c) p (gBirth (mi 174) a)) 200 i = (mn, fs) → V KX7_birth 6 0 0 (eqQ (some (.int (sFit (mi 174) (cS c) (gBirth (mi 174)) 200 p q))) n (mi) mr) 39 [some (.ref 32), some (.int p), some (.int q), some (.ref (58 + 2 * a)), some (.int mn), some (.int fs), some (.int y)] [] n mi mr := by
        intro m
        induction m with
        | zero =>
          intro i mn fs y him hy ha
          refine V_iload dX7_birth_39 rfl ?_
          refine V_if_lt (tgt := 78) dX7_birth_41 (by decide) (fun c41 => ?_) (fun c41 => absurd ((lt0_iff hy).mpr (by omega)) c41)
          refine V_iload_n dX7_birth_78 rfl ?_
          have hi : i = 200 := by omega
          subst hi
          refine V_if_ne (tgt := 87) dX7_birth_79 (by decide) (fun c79 => ?_) (fun c79 => ?_)
          · refine V_iload dX7_birth_87 rfl ?_
            refine V_iret dX7_birth_89 rfl rfl ?_
            refine ⟨?_, rfl, rfl, rfl⟩
            unfold sFit
            rw [if_pos (And.intro (by rw [← r2]; exact b01_n.mp c5) (b01_n.mp c12)), nat_of_toInt ha1, ha]
            first | rw [if_pos c79] | rw [if_neg c79]
          · refine V_iload dX7_birth_82 rfl ?_
            refine V_goto (tgt := 89) dX7_birth_84 (by decide) ?_
            refine V_iret dX7_birth_89 rfl rfl ?_
            refine ⟨?_, rfl, rfl, rfl⟩
            unfold sFit
            rw [if_pos (And.intro (by rw [← r2]; exact b01_n.mp c5) (b01_n.mp c12)), nat_of_toInt ha1, ha]
            first | rw [if_pos c79] | rw [if_neg c79]
        | succ m ih =>
          intro i mn fs y him hy ha
          refine V_iload dX7_birth_39 rfl ?_
          refine V_if_lt (tgt := 78) dX7_birth_41 (by decide) (fun c41 => absurd ((lt0_iff hy).mp c41) (by omega)) (fun c41 => ?_)
          have hyn : y.toInt = ((199 - i : Nat) : Int) := by omega
          refine V_aload_n dX7_birth_44 rfl ?_
          refine V_getr (b := 40) 7 1 dX7_birth_45 (Or.inl lkX7_30) rfl rfl ⟨by omega, by omega⟩ (hR _ _ _ rfl) ?_
          refine V_iload_n dX7_birth_48 rfl ?_
          refine V_aload_n dX7_birth_49 rfl ?_
          refine V_geti 1 5 dX7_birth_50 lnX7_120 rfl (sP (pOf (Or.inl rfl) (by omega))) ⟨by omega, by omega⟩ ?_
          refine V_iload dX7_birth_53 rfl ?_
          refine V_aload_n dX7_birth_55 rfl ?_
          refine V_geti 1 2 dX7_birth_56 lnX7_111 rfl (sP (pOf (Or.inl rfl) (by omega))) ⟨by omega, by omega⟩ ?_
          refine V_callV (ci := 6) (qX6_isAsSeen _ _ _ hR hn _ (Or.inl rfl) (cS c) (hseen.1.symm ▸ hS) hS5 _ _ _ _ a ha1 (by omega) (by rw [k5]; exact hhas.ok hW5)) dX7_birth_59 mlX7_206 mtX6_isAsSeen ivX6_isAsSeen rfl rfl ⟨by omega, by omega⟩ (by decide) rfl rfl (by decide) (Nat.le_of_ble_eq_true rfl) rfl rfl ?_
          rintro _ _ _ _ ⟨rfl, rfl, rfl, rfl⟩
          rw [show cAgeHad mi (40 + 18 + 2 * a) (mi 40 0) (cY mi 40 (mi (58 + 2 * a) 5)) y (mi (58 + 2 * a) 2) = gBirth (mi 174) a y from by rw [k5, k2]; exact ageG_eq hBD hrw ha2 hhas, show b01 (asSeen mi (40 + 5) (cS c) p (gBirth (mi 174) a y)) = b01 (sSeen (mi 174) (cS c) p (gBirth (mi 174) a y)) from b01_iff (seen_eq hrw)]
          refine V_if_eq (tgt := 72) dX7_birth_62 (by decide) (fun c62 => ?_) (fun c62 => ?_)
          · refine V_iinc (v := _ + (-1)) (L' := [_, _, _, _, _, _, _]) dX7_birth_72 (by decide) rfl rfl rfl rfl ?_
            refine V_goto (tgt := 39) dX7_birth_75 (by decide) ?_
            simp only [b01_0, Classical.not_not] at c62
            refine ih (i + 1) _ _ _ (by omega) (dec_toInt hy (by omega) (by omega)) ?_
            unfold fit
            rw [ha, show 200 - 1 - i = 199 - i by omega]
            rw [nI_of_toInt hyn] at c62
            by_cases hq : sSeen (mi 174) (cS c) p (gBirth (mi 174) a (nI (199 - i)))
            · first
              | (rw [if_pos (decide_eq_true hq), ← nI_of_toInt hyn]; done)
              | exact absurd hq c62
            · first
              | (rw [if_neg (fun h => hq (of_decide_eq_true h))]; exact ha)
              | (rw [if_neg (fun h => hq (of_decide_eq_true h))]; done)
              | exact absurd c62 hq
          · refine V_iinc (v := _ + (1)) (L' := [_, _, _, _, _, _, _]) dX7_birth_65 (by decide) rfl rfl rfl rfl ?_
            refine V_iload dX7_birth_68 rfl ?_
            refine V_istore (L' := [_, _, _, _, _, _, _]) dX7_birth_70 (by decide) rfl rfl ?_
            refine V_iinc (v := _ + (-1)) (L' := [_, _, _, _, _, _, _]) dX7_birth_72 (by decide) rfl rfl rfl rfl ?_
            refine V_goto (tgt := 39) dX7_birth_75 (by decide) ?_
            simp only [b01_0, Classical.not_not] at c62
            refine ih (i + 1) _ _ _ (by omega) (dec_toInt hy (by omega) (by omega)) ?_
            unfold fit
            rw [ha, show 200 - 1 - i = 199 - i by omega]
            rw [nI_of_toInt hyn] at c62
            by_cases hq : sSeen (mi 174) (cS c) p (gBirth (mi 174) a (nI (199 - i)))
            · first
              | (rw [if_pos (decide_eq_true hq), ← nI_of_toInt hyn]; done)
              | exact absurd hq c62
            · first
              | (rw [if_neg (fun h => hq (of_decide_eq_true h))]; exact ha)
              | (rw [if_neg (fun h => hq (of_decide_eq_true h))]; done)
              | exact absurd c62 hq
      exact loop 200 0 _ _ _ (by omega) (by decide) rfl
    · refine V_iconst (v := -1) dX7_birth_15 rfl ?_
      refine V_iret dX7_birth_16 rfl rfl ?_
      clear hR
      (try simp only [b01_0, b01_n] at *)
      refine ⟨?_, rfl, ?_, rfl⟩
      all_goals (simp only [sFit]; (try simp only [r2]); repeat' split)
      all_goals first | rfl | (exfalso; simp only [Int32.lt_iff_toInt_lt, Int32.le_iff_toInt_le, ← Int32.toInt_inj, Int32.reduceToInt] at *; omega)
set_option maxRecDepth 4000 in
theorem qX8_birth (n : Nat) (mi : MI) (mr : MR) (c : CT) (hR : RF mr) (hn : 186 ≤ n) (hBD : BD (mi 174) c) (p q : Int32) : Ct KX8_birth 6 0 0 [.ref 173, .int p, .int q] n mi mr (offQ (some (.int (sFit (mi 174) (cS c) (gBirth (mi 174)) 200 p q))) n mi mr scrM) := by
  refine Ct.of2 [some (.ref 173), some (.int p), some (.int q)] (by decide +kernel) (Nat.le_of_ble_eq_true rfl) rfl ?_
  obtain ⟨⟨hN, hN6⟩, ⟨hW, hW5⟩, ⟨hL, hL5⟩, ⟨hT, hT100⟩, ⟨hS, hS5⟩, ⟨hP, hP8⟩, ⟨hBk, hB8⟩⟩ := hBD.1
  refine V_aload_n dX8_birth_0 rfl ?_
  refine V_iload_n dX8_birth_1 rfl ?_
  refine V_callV (ci := 8) (qX8_isPerson _ _ _ hR hn _) dX8_birth_2 mlX8_169 mtX8_isPerson ivX8_isPerson rfl rfl ⟨by omega, by omega⟩ (by decide) rfl rfl (by decide) (Nat.le_of_ble_eq_true rfl) rfl rfl ?_
  rintro _ _ _ _ ⟨rfl, rfl, rfl, rfl⟩
  simp only [leSub hN (by omega)]
  refine V_if_eq (tgt := 17) dX8_birth_5 (by decide) (fun c5 => ?_) (fun c5 => ?_)
  · refine V_iconst (v := -1) dX8_birth_17 rfl ?_
    refine V_iret dX8_birth_18 rfl rfl ?_
    refine ⟨?_, rfl, rfl, Off.rf⟩
    unfold sFit
    clear hR
    (try simp only [b01_0, b01_n, zero_one] at *)
    rw [if_neg (by intro h; first | exact c14 h.2 | exact c5 h.1)]
  · refine V_iload_n dX8_birth_8 rfl ?_
    refine V_iconst (v := 0) dX8_birth_9 rfl ?_
    refine V_iconst (v := 1) dX8_birth_10 rfl ?_
    refine V_callS (qX8_in _ _ _ _ _ _) dX8_birth_11 mlX8_53 mtX8_in smX8_in rfl rfl (by decide) (Nat.le_of_ble_eq_true rfl) rfl rfl ?_
    rintro _ _ _ _ ⟨rfl, rfl, rfl, rfl⟩
    refine V_if_ne (tgt := 19) dX8_birth_14 (by decide) (fun c14 => ?_) (fun c14 => ?_)
    · obtain ⟨a, ha1, ha2⟩ := idxC c5 hN
      refine V_aload_n dX8_birth_19 rfl ?_
      refine V_iload_n dX8_birth_20 rfl ?_
      refine V_bipush (v := 32) dX8_birth_21 rfl ?_
      refine V_iload_n dX8_birth_23 rfl ?_
      refine V_iadd dX8_birth_24 ?_
      refine V_sipush (v := 199) dX8_birth_25 rfl ?_
      refine V_callV (ci := 8) (qX8_looksForFitting _ _ _ c hR hn hBD _ _ _ a (32 + a) 199 ha1 ha2 (ix_add (a := 32) (b := a) (by decide) ha1 (by omega)) (by omega) (by decide) (by decide) (gBirth (mi 174) a) (birth_BD hBD (by omega)) (gBirth_up (by omega))) dX8_birth_28 mlX8_255 mtX8_looksForFitting ivX8_looksForFitting rfl rfl ⟨by omega, by omega⟩ (by decide) rfl rfl (by decide) (Nat.le_of_ble_eq_true rfl) rfl rfl ?_
      rintro _ _ _ _ ⟨rfl, rfl, rfl, rfl⟩
      refine V_iload_n dX8_birth_31 rfl ?_
      refine V_if_ne (tgt := 42) dX8_birth_32 (by decide) (fun c32 => ?_) (fun c32 => ?_)
      · refine V_aload_n dX8_birth_42 rfl ?_
        refine V_geti 8 23 dX8_birth_43 (Or.inl lkX8_252) rfl rfl ⟨by omega, by omega⟩ ?_
        refine V_iret dX8_birth_46 rfl rfl ?_
        refine ⟨?_, rfl, rfl, fM_off⟩
        unfold sFit
        rw [if_pos (And.intro (b01_n.mp c5) (zero_one.mp (b01_n.mp c14))), nat_of_toInt ha1]
        first | rw [if_pos c32, fM_r22] | rw [if_neg c32, fM_r23]
      · refine V_aload_n dX8_birth_35 rfl ?_
        refine V_geti 8 22 dX8_birth_36 (Or.inl lkX8_249) rfl rfl ⟨by omega, by omega⟩ ?_
        refine V_goto (tgt := 46) dX8_birth_39 (by decide) ?_
        refine V_iret dX8_birth_46 rfl rfl ?_
        refine ⟨?_, rfl, rfl, fM_off⟩
        unfold sFit
        rw [if_pos (And.intro (b01_n.mp c5) (zero_one.mp (b01_n.mp c14))), nat_of_toInt ha1]
        first | rw [if_pos c32, fM_r22] | rw [if_neg c32, fM_r23]
    · refine V_iconst (v := -1) dX8_birth_17 rfl ?_
      refine V_iret dX8_birth_18 rfl rfl ?_
      refine ⟨?_, rfl, rfl, Off.rf⟩
      unfold sFit
      clear hR
      (try simp only [b01_0, b01_n, zero_one] at *)
      rw [if_neg (by intro h; first | exact c14 h.2 | exact c5 h.1)]
set_option maxRecDepth 4000 in
theorem qX7_firm (n : Nat) (mi : MI) (mr : MR) (c : CT) (I : INV n mi mr c) (p q : Int32) : Ct KX7_firm 6 0 0 [.ref 32, .int p, .int q] n mi mr (eqQ (some (.int (sFit (mi 174) (cS c) (gFirm (mi 174)) 10 p q))) n (mi) mr) := by
  refine Ct.of2 [some (.ref 32), some (.int p), some (.int q), none, none, none, none] (by decide +kernel) (Nat.le_of_ble_eq_true rfl) rfl ?_
  obtain ⟨hR, hn, ⟨⟨hN, hN6⟩, ⟨hW, hW5⟩, ⟨hL, hL5⟩, ⟨hT, hT100⟩, ⟨hS, hS5⟩, ⟨hP, hP8⟩, ⟨hBk, hB8⟩⟩, hrw⟩ := I.facts
  have hBD := I.2.2.1
  obtain ⟨⟨r1, r2, r3, r4, r5⟩, hper, hvin, htape, hseen, hnight, hbook⟩ := id hrw
  have hcN : nat (mi 40 1) (cN c) := by rw [r2]; exact hN
  have hcW : nat (mi 40 2) (cW c) := by rw [r3]; exact hW
  clear I
  refine V_aload_n dX7_firm_0 rfl ?_
  refine V_iload_n dX7_firm_1 rfl ?_
  refine V_callV (ci := 7) (qX7_isOne _ _ _ hR hn _) dX7_firm_2 mlX7_105 mtX7_isOne ivX7_isOne rfl rfl ⟨by omega, by omega⟩ (by decide) rfl rfl (by decide) (Nat.le_of_ble_eq_true rfl) rfl rfl ?_
  rintro _ _ _ _ ⟨rfl, rfl, rfl, rfl⟩
  refine V_if_eq (tgt := 15) dX7_firm_5 (by decide) (fun c5 => ?_) (fun c5 => ?_)
  · refine V_iconst (v := -1) dX7_firm_15 rfl ?_
    refine V_iret dX7_firm_16 rfl rfl ?_
    clear hR
    (try simp only [b01_0, b01_n] at *)
    refine ⟨?_, rfl, ?_, rfl⟩
    all_goals (simp only [sFit]; (try simp only [r2]); repeat' split)
    all_goals first | rfl | (exfalso; simp only [Int32.lt_iff_toInt_lt, Int32.le_iff_toInt_le, ← Int32.toInt_inj, Int32.reduceToInt] at *; omega)
  · refine V_iload_n dX7_firm_8 rfl ?_
    refine V_callS (qX7_isCountOrFirst _ _ _ hR hn _) dX7_firm_9 mlX7_188 mtX7_isCountOrFirst smX7_isCountOrFirst rfl rfl (by decide) (Nat.le_of_ble_eq_true rfl) rfl rfl ?_
    rintro _ _ _ _ ⟨rfl, rfl, rfl, rfl⟩
    refine V_if_ne (tgt := 17) dX7_firm_12 (by decide) (fun c12 => ?_) (fun c12 => ?_)
    · obtain ⟨a, ha1, ha2⟩ := idxC c5 hcN
      obtain ⟨k1, k2, k3, -, k5, -⟩ := hper a ha2
      rw [show (40 + 18 + 2 * a : Nat) = 58 + 2 * a from rfl] at k1 k2 k3 k5
      have hhas := (hBD.2.2.2.1 a ha2).2.2.2.2.1
      refine V_aload_n dX7_firm_17 rfl ?_
      refine V_getr (b := 40) 7 1 dX7_firm_18 (Or.inl lkX7_30) rfl rfl ⟨by omega, by omega⟩ (hR _ _ _ rfl) ?_
      refine V_getr (b := 41) 6 6 dX7_firm_21 lnX7_85 rfl rfl ⟨by omega, by omega⟩ (hR _ _ _ rfl) ?_
      refine V_iload_n dX7_firm_24 rfl ?_
      refine V_aald (len := 6) (b := (58 + 2 * a)) 5 a dX7_firm_25 rfl rfl ⟨by omega, by omega⟩ ha1 (by omega) (hR _ _ _ (rFolk (Or.inl rfl) (by omega))) ?_
      refine V_astore_n (L' := [_, _, _, _, _, _, _]) dX7_firm_26 (by decide) rfl rfl ?_
      refine V_iconst (v := 0) dX7_firm_27 rfl ?_
      refine V_istore (L' := [_, _, _, _, _, _, _]) dX7_firm_28 (by decide) rfl rfl ?_
      refine V_bipush (v := -5) dX7_firm_30 rfl ?_
      refine V_istore (L' := [_, _, _, _, _, _, _]) dX7_firm_32 (by decide) rfl rfl ?_
      refine V_bipush (v := 9) dX7_firm_34 rfl ?_
      refine V_istore (L' := [_, _, _, _, _, _, _]) dX7_firm_36 (by decide) rfl rfl ?_
      have loop : ∀ (m i : Nat) (mn fs y : Int32), i + m = 10 → y.toInt = ((9 : Nat) : Int) - (i : Int) → fit (fitB (mi 174) (cS c) p (gFirm (mi 174) a)) 10 i = (mn, fs) → V KX7_firm 6 0 0 (eqQ (some (.int (sFit (mi 174) (cS c) (gFirm (mi 174)) 10 p q))) n (mi) mr) 38 [some (.ref 32), some (.int p), some (.int q), some (.ref (58 + 2 * a)), some (.int mn), some (.int fs), some (.int y)] [] n mi mr := by
        intro m
        induction m with
        | zero =>
          intro i mn fs y him hy ha
          refine V_iload dX7_firm_38 rfl ?_
          refine V_if_lt (tgt := 77) dX7_firm_40 (by decide) (fun c40 => ?_) (fun c40 => absurd ((lt0_iff hy).mpr (by omega)) c40)
          refine V_iload_n dX7_firm_77 rfl ?_
          have hi : i = 10 := by omega
          subst hi
          refine V_if_ne (tgt := 86) dX7_firm_78 (by decide) (fun c78 => ?_) (fun c78 => ?_)
          · refine V_iload dX7_firm_86 rfl ?_
            refine V_iret dX7_firm_88 rfl rfl ?_
            refine ⟨?_, rfl, rfl, rfl⟩
            unfold sFit
            rw [if_pos (And.intro (by rw [← r2]; exact b01_n.mp c5) (b01_n.mp c12)), nat_of_toInt ha1, ha]
            first | rw [if_pos c78] | rw [if_neg c78]
          · refine V_iload dX7_firm_81 rfl ?_
            refine V_goto (tgt := 88) dX7_firm_83 (by decide) ?_
            refine V_iret dX7_firm_88 rfl rfl ?_
            refine ⟨?_, rfl, rfl, rfl⟩
            unfold sFit
            rw [if_pos (And.intro (by rw [← r2]; exact b01_n.mp c5) (b01_n.mp c12)), nat_of_toInt ha1, ha]
            first | rw [if_pos c78] | rw [if_neg c78]
        | succ m ih =>
          intro i mn fs y him hy ha
          refine V_iload dX7_firm_38 rfl ?_
          refine V_if_lt (tgt := 77) dX7_firm_40 (by decide) (fun c40 => absurd ((lt0_iff hy).mp c40) (by omega)) (fun c40 => ?_)
          have hyn : y.toInt = ((9 - i : Nat) : Int) := by omega
          refine V_aload_n dX7_firm_43 rfl ?_
          refine V_getr (b := 40) 7 1 dX7_firm_44 (Or.inl lkX7_30) rfl rfl ⟨by omega, by omega⟩ (hR _ _ _ rfl) ?_
          refine V_iload_n dX7_firm_47 rfl ?_
          refine V_aload_n dX7_firm_48 rfl ?_
          refine V_geti 1 5 dX7_firm_49 lnX7_120 rfl (sP (pOf (Or.inl rfl) (by omega))) ⟨by omega, by omega⟩ ?_
          refine V_aload_n dX7_firm_52 rfl ?_
          refine V_geti 1 3 dX7_firm_53 lnX7_114 rfl (sP (pOf (Or.inl rfl) (by omega))) ⟨by omega, by omega⟩ ?_
          refine V_iload dX7_firm_56 rfl ?_
          refine V_callV (ci := 6) (qX6_isAsSeen _ _ _ hR hn _ (Or.inl rfl) (cS c) (hseen.1.symm ▸ hS) hS5 _ _ _ _ a ha1 (by omega) (by rw [k5]; exact hhas.ok hW5)) dX7_firm_58 mlX7_206 mtX6_isAsSeen ivX6_isAsSeen rfl rfl ⟨by omega, by omega⟩ (by decide) rfl rfl (by decide) (Nat.le_of_ble_eq_true rfl) rfl rfl ?_
          rintro _ _ _ _ ⟨rfl, rfl, rfl, rfl⟩
          rw [show cAgeHad mi (40 + 18 + 2 * a) (mi 40 0) (cY mi 40 (mi (58 + 2 * a) 5)) (mi (58 + 2 * a) 3) y = gFirm (mi 174) a y from by rw [k5, k3]; exact ageG_eq hBD hrw ha2 hhas, show b01 (asSeen mi (40 + 5) (cS c) p (gFirm (mi 174) a y)) = b01 (sSeen (mi 174) (cS c) p (gFirm (mi 174) a y)) from b01_iff (seen_eq hrw)]
          refine V_if_eq (tgt := 71) dX7_firm_61 (by decide) (fun c61 => ?_) (fun c61 => ?_)
          · refine V_iinc (v := _ + (-1)) (L' := [_, _, _, _, _, _, _]) dX7_firm_71 (by decide) rfl rfl rfl rfl ?_
            refine V_goto (tgt := 38) dX7_firm_74 (by decide) ?_
            simp only [b01_0, Classical.not_not] at c61
            refine ih (i + 1) _ _ _ (by omega) (dec_toInt hy (by omega) (by omega)) ?_
            unfold fit
            rw [ha, show 10 - 1 - i = 9 - i by omega]
            rw [nI_of_toInt hyn] at c61
            by_cases hq : sSeen (mi 174) (cS c) p (gFirm (mi 174) a (nI (9 - i)))
            · first
              | (rw [if_pos (decide_eq_true hq), ← nI_of_toInt hyn]; done)
              | exact absurd hq c61
            · first
              | (rw [if_neg (fun h => hq (of_decide_eq_true h))]; exact ha)
              | (rw [if_neg (fun h => hq (of_decide_eq_true h))]; done)
              | exact absurd c61 hq
          · refine V_iinc (v := _ + (1)) (L' := [_, _, _, _, _, _, _]) dX7_firm_64 (by decide) rfl rfl rfl rfl ?_
            refine V_iload dX7_firm_67 rfl ?_
            refine V_istore (L' := [_, _, _, _, _, _, _]) dX7_firm_69 (by decide) rfl rfl ?_
            refine V_iinc (v := _ + (-1)) (L' := [_, _, _, _, _, _, _]) dX7_firm_71 (by decide) rfl rfl rfl rfl ?_
            refine V_goto (tgt := 38) dX7_firm_74 (by decide) ?_
            simp only [b01_0, Classical.not_not] at c61
            refine ih (i + 1) _ _ _ (by omega) (dec_toInt hy (by omega) (by omega)) ?_
            unfold fit
            rw [ha, show 10 - 1 - i = 9 - i by omega]
            rw [nI_of_toInt hyn] at c61
            by_cases hq : sSeen (mi 174) (cS c) p (gFirm (mi 174) a (nI (9 - i)))
            · first
              | (rw [if_pos (decide_eq_true hq), ← nI_of_toInt hyn]; done)
              | exact absurd hq c61
            · first
              | (rw [if_neg (fun h => hq (of_decide_eq_true h))]; exact ha)
              | (rw [if_neg (fun h => hq (of_decide_eq_true h))]; done)
              | exact absurd c61 hq
      exact loop 10 0 _ _ _ (by omega) (by decide) rfl
    · refine V_iconst (v := -1) dX7_firm_15 rfl ?_
      refine V_iret dX7_firm_16 rfl rfl ?_
      clear hR
      (try simp only [b01_0, b01_n] at *)
      refine ⟨?_, rfl, ?_, rfl⟩
      all_goals (simp only [sFit]; (try simp only [r2]); repeat' split)
      all_goals first | rfl | (exfalso; simp only [Int32.lt_iff_toInt_lt, Int32.le_iff_toInt_le, ← Int32.toInt_inj, Int32.reduceToInt] at *; omega)
set_option maxRecDepth 4000 in
theorem qX8_firm (n : Nat) (mi : MI) (mr : MR) (c : CT) (hR : RF mr) (hn : 186 ≤ n) (hBD : BD (mi 174) c) (p q : Int32) : Ct KX8_firm 6 0 0 [.ref 173, .int p, .int q] n mi mr (offQ (some (.int (sFit (mi 174) (cS c) (gFirm (mi 174)) 10 p q))) n mi mr scrM) := by
  refine Ct.of2 [some (.ref 173), some (.int p), some (.int q)] (by decide +kernel) (Nat.le_of_ble_eq_true rfl) rfl ?_
  obtain ⟨⟨hN, hN6⟩, ⟨hW, hW5⟩, ⟨hL, hL5⟩, ⟨hT, hT100⟩, ⟨hS, hS5⟩, ⟨hP, hP8⟩, ⟨hBk, hB8⟩⟩ := hBD.1
  refine V_aload_n dX8_firm_0 rfl ?_
  refine V_iload_n dX8_firm_1 rfl ?_
  refine V_callV (ci := 8) (qX8_isPerson _ _ _ hR hn _) dX8_firm_2 mlX8_169 mtX8_isPerson ivX8_isPerson rfl rfl ⟨by omega, by omega⟩ (by decide) rfl rfl (by decide) (Nat.le_of_ble_eq_true rfl) rfl rfl ?_
  rintro _ _ _ _ ⟨rfl, rfl, rfl, rfl⟩
  simp only [leSub hN (by omega)]
  refine V_if_eq (tgt := 17) dX8_firm_5 (by decide) (fun c5 => ?_) (fun c5 => ?_)
  · refine V_iconst (v := -1) dX8_firm_17 rfl ?_
    refine V_iret dX8_firm_18 rfl rfl ?_
    refine ⟨?_, rfl, rfl, Off.rf⟩
    unfold sFit
    clear hR
    (try simp only [b01_0, b01_n, zero_one] at *)
    rw [if_neg (by intro h; first | exact c14 h.2 | exact c5 h.1)]
  · refine V_iload_n dX8_firm_8 rfl ?_
    refine V_iconst (v := 0) dX8_firm_9 rfl ?_
    refine V_iconst (v := 1) dX8_firm_10 rfl ?_
    refine V_callS (qX8_in _ _ _ _ _ _) dX8_firm_11 mlX8_53 mtX8_in smX8_in rfl rfl (by decide) (Nat.le_of_ble_eq_true rfl) rfl rfl ?_
    rintro _ _ _ _ ⟨rfl, rfl, rfl, rfl⟩
    refine V_if_ne (tgt := 19) dX8_firm_14 (by decide) (fun c14 => ?_) (fun c14 => ?_)
    · obtain ⟨a, ha1, ha2⟩ := idxC c5 hN
      refine V_aload_n dX8_firm_19 rfl ?_
      refine V_iload_n dX8_firm_20 rfl ?_
      refine V_bipush (v := 26) dX8_firm_21 rfl ?_
      refine V_iload_n dX8_firm_23 rfl ?_
      refine V_iadd dX8_firm_24 ?_
      refine V_bipush (v := 9) dX8_firm_25 rfl ?_
      refine V_callV (ci := 8) (qX8_looksForFitting _ _ _ c hR hn hBD _ _ _ a (26 + a) 9 ha1 ha2 (ix_add (a := 26) (b := a) (by decide) ha1 (by omega)) (by omega) (by decide) (by decide) (gFirm (mi 174) a) (firm_BD hBD (by omega)) (gFirm_up (by omega))) dX8_firm_27 mlX8_255 mtX8_looksForFitting ivX8_looksForFitting rfl rfl ⟨by omega, by omega⟩ (by decide) rfl rfl (by decide) (Nat.le_of_ble_eq_true rfl) rfl rfl ?_
      rintro _ _ _ _ ⟨rfl, rfl, rfl, rfl⟩
      refine V_iload_n dX8_firm_30 rfl ?_
      refine V_if_ne (tgt := 41) dX8_firm_31 (by decide) (fun c31 => ?_) (fun c31 => ?_)
      · refine V_aload_n dX8_firm_41 rfl ?_
        refine V_geti 8 23 dX8_firm_42 (Or.inl lkX8_252) rfl rfl ⟨by omega, by omega⟩ ?_
        refine V_iret dX8_firm_45 rfl rfl ?_
        refine ⟨?_, rfl, rfl, fM_off⟩
        unfold sFit
        rw [if_pos (And.intro (b01_n.mp c5) (zero_one.mp (b01_n.mp c14))), nat_of_toInt ha1]
        first | rw [if_pos c31, fM_r22] | rw [if_neg c31, fM_r23]
      · refine V_aload_n dX8_firm_34 rfl ?_
        refine V_geti 8 22 dX8_firm_35 (Or.inl lkX8_249) rfl rfl ⟨by omega, by omega⟩ ?_
        refine V_goto (tgt := 45) dX8_firm_38 (by decide) ?_
        refine V_iret dX8_firm_45 rfl rfl ?_
        refine ⟨?_, rfl, rfl, fM_off⟩
        unfold sFit
        rw [if_pos (And.intro (b01_n.mp c5) (zero_one.mp (b01_n.mp c14))), nat_of_toInt ha1]
        first | rw [if_pos c31, fM_r22] | rw [if_neg c31, fM_r23]
    · refine V_iconst (v := -1) dX8_firm_17 rfl ?_
      refine V_iret dX8_firm_18 rfl rfl ?_
      refine ⟨?_, rfl, rfl, Off.rf⟩
      unfold sFit
      clear hR
      (try simp only [b01_0, b01_n, zero_one] at *)
      rw [if_neg (by intro h; first | exact c14 h.2 | exact c5 h.1)]
