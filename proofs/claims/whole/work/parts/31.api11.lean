/-- from T - 1 down: how many, and the least -/
def fit (ok : Nat → Bool) (T : Nat) : Nat → Int32 × Int32
  | 0 => (0, -5)
  | s + 1 => if ok (T - 1 - s) = true then ((fit ok T s).1 + 1, nI (T - 1 - s)) else fit ok T s
theorem dec_toInt {x : Int32} {T i : Nat} (h : x.toInt = (T : Int) - (i : Int)) (hT : T < 1000) (hi : i ≤ 1000) : (x + (-1)).toInt = (T : Int) - ((i + 1 : Nat) : Int) := by
  rw [Int32.toInt_add, h]
  rw [bmod_id (by simp only [Int32.reduceToInt]; omega) (by simp only [Int32.reduceToInt]; omega)]
  simp only [Int32.reduceToInt]
  omega
theorem lt0_iff {x : Int32} {T i : Nat} (h : x.toInt = (T : Int) - (i : Int)) : x < 0 ↔ T < i := by
  rw [Int32.lt_iff_toInt_lt, h]
  simp only [Int32.reduceToInt]
  omega
theorem ageIn_eq {S : Nat → Int32} {c : CT} {mi : MI} {w p : Nat} {y : Int32} (hr : RW S c mi w) (hp : p < cN c) (hy : 0 ≤ y) : cAgeHad mi (w + 18 + 2 * p) (mi w 0) y (mi (w + 18 + 2 * p) 3) (mi (w + 18 + 2 * p) 2) = sAgeIn S p y := by
  obtain ⟨p1, p2, p3, p4, p5, p6⟩ := hr.2.1 p hp
  unfold cAgeHad sAgeIn
  rw [if_pos hy, p1, p2, p3, hr.1.1]
  exact fAge_congr p6
abbrev meetB (S : Nat → Int32) (a b : Nat) (j : Nat) : Bool := decide (sHereAt S a (sAgeIn S a (nI j)) ∧ sHereAt S b (sAgeIn S b (nI j)))
def sMeet (S : Nat → Int32) (p q w : Int32) : Int32 := if (0 ≤ p ∧ p < S 12) ∧ (0 ≤ q ∧ q < S 12) ∧ (w = 0 ∨ w = 1) then (if p = q then -2 else if w = 0 then (fit (meetB S p.toNatClampNeg q.toNatClampNeg) 200 200).1 else (fit (meetB S p.toNatClampNeg q.toNatClampNeg) 200 200).2) else -1
theorem zero_one {w : Int32} : (0 ≤ w ∧ w ≤ 1) ↔ (w = 0 ∨ w = 1) := by
  simp only [Int32.le_iff_toInt_le, ← Int32.toInt_inj, Int32.reduceToInt]
  omega
set_option maxRecDepth 4000 in
theorem qX7_meet (n : Nat) (mi : MI) (mr : MR) (c : CT) (I : INV n mi mr c) (p q v : Int32) : Ct KX7_meet 6 0 0 [.ref 32, .int p, .int q, .int v] n mi mr (eqQ (some (.int (sMeet (mi 174) p q v))) n (mi) mr) := by
  refine Ct.of2 [some (.ref 32), some (.int p), some (.int q), some (.int v), none, none, none, none, none] (by decide +kernel) (Nat.le_of_ble_eq_true rfl) rfl ?_
  obtain ⟨hR, hn, ⟨⟨hN, hN6⟩, ⟨hW, hW5⟩, ⟨hL, hL5⟩, ⟨hT, hT100⟩, ⟨hS, hS5⟩, ⟨hP, hP8⟩, ⟨hBk, hB8⟩⟩, hrw⟩ := I.facts
  have hBD := I.2.2.1
  obtain ⟨⟨r1, r2, r3, r4, r5⟩, hper, hvin, htape, hseen, hnight, hbook⟩ := id hrw
  have hcN : nat (mi 40 1) (cN c) := by rw [r2]; exact hN
  have hcW : nat (mi 40 2) (cW c) := by rw [r3]; exact hW
  clear I
  refine V_aload_n dX7_meet_0 rfl ?_
  refine V_iload_n dX7_meet_1 rfl ?_
  refine V_callV (ci := 7) (qX7_isOne _ _ _ hR hn _) dX7_meet_2 mlX7_105 mtX7_isOne ivX7_isOne rfl rfl ⟨by omega, by omega⟩ (by decide) rfl rfl (by decide) (Nat.le_of_ble_eq_true rfl) rfl rfl ?_
  rintro _ _ _ _ ⟨rfl, rfl, rfl, rfl⟩
  refine V_if_eq (tgt := 23) dX7_meet_5 (by decide) (fun c5 => ?_) (fun c5 => ?_)
  · refine V_iconst (v := -1) dX7_meet_23 rfl ?_
    refine V_iret dX7_meet_24 rfl rfl ?_
    clear hR
    (try simp only [b01_0, b01_n] at *)
    refine ⟨?_, rfl, ?_, rfl⟩
    all_goals (simp only [sMeet]; (try simp only [r2]); repeat' split)
    all_goals first | rfl | (exfalso; simp only [Int32.lt_iff_toInt_lt, Int32.le_iff_toInt_le, ← Int32.toInt_inj, Int32.reduceToInt] at *; omega)
  · refine V_aload_n dX7_meet_8 rfl ?_
    refine V_iload_n dX7_meet_9 rfl ?_
    refine V_callV (ci := 7) (qX7_isOne _ _ _ hR hn _) dX7_meet_10 mlX7_105 mtX7_isOne ivX7_isOne rfl rfl ⟨by omega, by omega⟩ (by decide) rfl rfl (by decide) (Nat.le_of_ble_eq_true rfl) rfl rfl ?_
    rintro _ _ _ _ ⟨rfl, rfl, rfl, rfl⟩
    refine V_if_eq (tgt := 23) dX7_meet_13 (by decide) (fun c13 => ?_) (fun c13 => ?_)
    · refine V_iconst (v := -1) dX7_meet_23 rfl ?_
      refine V_iret dX7_meet_24 rfl rfl ?_
      clear hR
      (try simp only [b01_0, b01_n] at *)
      refine ⟨?_, rfl, ?_, rfl⟩
      all_goals (simp only [sMeet]; (try simp only [r2]); repeat' split)
      all_goals first | rfl | (exfalso; simp only [Int32.lt_iff_toInt_lt, Int32.le_iff_toInt_le, ← Int32.toInt_inj, Int32.reduceToInt] at *; omega)
    · refine V_iload_n dX7_meet_16 rfl ?_
      refine V_callS (qX7_isCountOrFirst _ _ _ hR hn _) dX7_meet_17 mlX7_188 mtX7_isCountOrFirst smX7_isCountOrFirst rfl rfl (by decide) (Nat.le_of_ble_eq_true rfl) rfl rfl ?_
      rintro _ _ _ _ ⟨rfl, rfl, rfl, rfl⟩
      refine V_if_ne (tgt := 25) dX7_meet_20 (by decide) (fun c20 => ?_) (fun c20 => ?_)
      · refine V_iload_n dX7_meet_25 rfl ?_
        refine V_iload_n dX7_meet_26 rfl ?_
        refine V_icmp_ne (tgt := 33) dX7_meet_27 (by decide) (fun c27 => ?_) (fun c27 => ?_)
        · obtain ⟨a, ha1, ha2⟩ := idxC c5 hcN
          obtain ⟨b, hb1, hb2⟩ := idxC c13 hcN
          refine V_aload_n dX7_meet_33 rfl ?_
          refine V_getr (b := 40) 7 1 dX7_meet_34 (Or.inl lkX7_30) rfl rfl ⟨by omega, by omega⟩ (hR _ _ _ rfl) ?_
          refine V_getr (b := 41) 6 6 dX7_meet_37 lnX7_85 rfl rfl ⟨by omega, by omega⟩ (hR _ _ _ rfl) ?_
          refine V_iload_n dX7_meet_40 rfl ?_
          refine V_aald (len := 6) (b := (58 + 2 * a)) 5 a dX7_meet_41 rfl rfl ⟨by omega, by omega⟩ ha1 (by omega) (hR _ _ _ (rFolk (Or.inl rfl) (by omega))) ?_
          refine V_astore (L' := [_, _, _, _, _, _, _, _, _]) dX7_meet_42 (by decide) rfl rfl ?_
          refine V_aload_n dX7_meet_44 rfl ?_
          refine V_getr (b := 40) 7 1 dX7_meet_45 (Or.inl lkX7_30) rfl rfl ⟨by omega, by omega⟩ (hR _ _ _ rfl) ?_
          refine V_getr (b := 41) 6 6 dX7_meet_48 lnX7_85 rfl rfl ⟨by omega, by omega⟩ (hR _ _ _ rfl) ?_
          refine V_iload_n dX7_meet_51 rfl ?_
          refine V_aald (len := 6) (b := (58 + 2 * b)) 5 b dX7_meet_52 rfl rfl ⟨by omega, by omega⟩ hb1 (by omega) (hR _ _ _ (rFolk (Or.inl rfl) (by omega))) ?_
          refine V_astore (L' := [_, _, _, _, _, _, _, _, _]) dX7_meet_53 (by decide) rfl rfl ?_
          refine V_iconst (v := 0) dX7_meet_55 rfl ?_
          refine V_istore (L' := [_, _, _, _, _, _, _, _, _]) dX7_meet_56 (by decide) rfl rfl ?_
          refine V_bipush (v := -5) dX7_meet_58 rfl ?_
          refine V_istore (L' := [_, _, _, _, _, _, _, _, _]) dX7_meet_60 (by decide) rfl rfl ?_
          refine V_sipush (v := 199) dX7_meet_62 rfl ?_
          refine V_istore (L' := [_, _, _, _, _, _, _, _, _]) dX7_meet_65 (by decide) rfl rfl ?_
          have loop : ∀ (m i : Nat) (mn fs y : Int32), i + m = 200 → y.toInt = ((199 : Nat) : Int) - (i : Int) → fit (meetB (mi 174) a b) 200 i = (mn, fs) → V KX7_meet 6 0 0 (eqQ (some (.int (sMeet (mi 174) p q v))) n (mi) mr) 67 [some (.ref 32), some (.int p), some (.int q), some (.int v), some (.ref (58 + 2 * a)), some (.ref (58 + 2 * b)), some (.int mn), some (.int fs), some (.int y)] [] n mi mr := by
            intro m
            induction m with
            | zero =>
              intro i mn fs y him hy ha
              refine V_iload dX7_meet_67 rfl ?_
              refine V_if_lt (tgt := 129) dX7_meet_69 (by decide) (fun c69 => ?_) (fun c69 => absurd ((lt0_iff hy).mpr (by omega)) c69)
              have hi : i = 200 := by omega
              subst hi
              refine V_iload_n dX7_meet_129 rfl ?_
              refine V_if_ne (tgt := 138) dX7_meet_130 (by decide) (fun c130 => ?_) (fun c130 => ?_)
              · refine V_iload dX7_meet_138 rfl ?_
                refine V_iret dX7_meet_140 rfl rfl ?_
                refine ⟨?_, rfl, rfl, rfl⟩
                unfold sMeet
                rw [if_pos (And.intro (by rw [← r2]; exact b01_n.mp c5) (And.intro (by rw [← r2]; exact b01_n.mp c13) (b01_n.mp c20))), if_neg c27, nat_of_toInt ha1, nat_of_toInt hb1, ha]
                first | rw [if_pos c130] | rw [if_neg c130]
              · refine V_iload dX7_meet_133 rfl ?_
                refine V_goto (tgt := 140) dX7_meet_135 (by decide) ?_
                refine V_iret dX7_meet_140 rfl rfl ?_
                refine ⟨?_, rfl, rfl, rfl⟩
                unfold sMeet
                rw [if_pos (And.intro (by rw [← r2]; exact b01_n.mp c5) (And.intro (by rw [← r2]; exact b01_n.mp c13) (b01_n.mp c20))), if_neg c27, nat_of_toInt ha1, nat_of_toInt hb1, ha]
                first | rw [if_pos c130] | rw [if_neg c130]
            | succ m ih =>
              intro i mn fs y him hy ha
              refine V_iload dX7_meet_67 rfl ?_
              refine V_if_lt (tgt := 129) dX7_meet_69 (by decide) (fun c69 => absurd ((lt0_iff hy).mp c69) (by omega)) (fun c69 => ?_)
              have hyn : y.toInt = ((199 - i : Nat) : Int) := by omega
              have hy0 : 0 ≤ y := Int32.not_lt.mp c69
              refine V_aload dX7_meet_72 rfl ?_
              refine V_aload dX7_meet_74 rfl ?_
              refine V_aload_n dX7_meet_76 rfl ?_
              refine V_getr (b := 40) 7 1 dX7_meet_77 (Or.inl lkX7_30) rfl rfl ⟨by omega, by omega⟩ (hR _ _ _ rfl) ?_
              refine V_geti 6 0 dX7_meet_80 lnX7_149 rfl rfl ⟨by omega, by omega⟩ ?_
              refine V_iload dX7_meet_83 rfl ?_
              refine V_callV (ci := 1) (qX1_ageIn _ _ _ hR hn _ (pOf (Or.inl rfl) (by omega)) _ _) dX7_meet_85 mlX7_176 mtX1_ageIn ivX1_ageIn rfl (sP (pOf (Or.inl rfl) (by omega))) ⟨by omega, by omega⟩ (by decide) rfl rfl (by decide) (Nat.le_of_ble_eq_true rfl) rfl rfl ?_
              rintro _ _ _ _ ⟨rfl, rfl, rfl, rfl⟩
              rw [show cAgeHad mi (58 + 2 * a) (mi 40 0) y (mi (58 + 2 * a) 3) (mi (58 + 2 * a) 2) = sAgeIn (mi 174) a y from ageIn_eq hrw ha2 hy0]
              refine V_callV (ci := 1) (qX1_isHereAt _ _ _ hR hn _ (pOf (Or.inl rfl) (by omega)) _) dX7_meet_88 mlX7_179 mtX1_isHereAt ivX1_isHereAt rfl (sP (pOf (Or.inl rfl) (by omega))) ⟨by omega, by omega⟩ (by decide) rfl rfl (by decide) (Nat.le_of_ble_eq_true rfl) rfl rfl ?_
              rintro _ _ _ _ ⟨rfl, rfl, rfl, rfl⟩
              rw [show mi (58 + 2 * a) 4 = mi 174 (38 + a) from (hper a ha2).2.2.2.1]
              refine V_if_eq (tgt := 123) dX7_meet_91 (by decide) (fun c91 => ?_) (fun c91 => ?_)
              · refine V_iinc (v := _ + (-1)) (L' := [_, _, _, _, _, _, _, _, _]) dX7_meet_123 (by decide) rfl rfl rfl rfl ?_
                refine V_goto (tgt := 67) dX7_meet_126 (by decide) ?_
                simp only [b01_0, Classical.not_not] at c91
                (try simp only [b01_0, Classical.not_not] at c113)
                refine ih (i + 1) _ _ _ (by omega) (dec_toInt hy (by omega) (by omega)) ?_
                unfold fit
                rw [ha, show 200 - 1 - i = 199 - i by omega]
                rw [nI_of_toInt hyn] at c91
                (try rw [nI_of_toInt hyn] at c113)
                by_cases hq : meetB (mi 174) a b (199 - i) = true
                · first
                  | (rw [if_pos hq, ← nI_of_toInt hyn]; done)
                  | exact absurd (of_decide_eq_true hq).1 c91
                  | exact absurd (of_decide_eq_true hq).2 c113
                · first
                  | (rw [if_neg hq]; done)
                  | exact absurd (decide_eq_true (And.intro c91 c113)) hq
              · refine V_aload dX7_meet_94 rfl ?_
                refine V_aload dX7_meet_96 rfl ?_
                refine V_aload_n dX7_meet_98 rfl ?_
                refine V_getr (b := 40) 7 1 dX7_meet_99 (Or.inl lkX7_30) rfl rfl ⟨by omega, by omega⟩ (hR _ _ _ rfl) ?_
                refine V_geti 6 0 dX7_meet_102 lnX7_149 rfl rfl ⟨by omega, by omega⟩ ?_
                refine V_iload dX7_meet_105 rfl ?_
                refine V_callV (ci := 1) (qX1_ageIn _ _ _ hR hn _ (pOf (Or.inl rfl) (by omega)) _ _) dX7_meet_107 mlX7_176 mtX1_ageIn ivX1_ageIn rfl (sP (pOf (Or.inl rfl) (by omega))) ⟨by omega, by omega⟩ (by decide) rfl rfl (by decide) (Nat.le_of_ble_eq_true rfl) rfl rfl ?_
                rintro _ _ _ _ ⟨rfl, rfl, rfl, rfl⟩
                rw [show cAgeHad mi (58 + 2 * b) (mi 40 0) y (mi (58 + 2 * b) 3) (mi (58 + 2 * b) 2) = sAgeIn (mi 174) b y from ageIn_eq hrw hb2 hy0]
                refine V_callV (ci := 1) (qX1_isHereAt _ _ _ hR hn _ (pOf (Or.inl rfl) (by omega)) _) dX7_meet_110 mlX7_179 mtX1_isHereAt ivX1_isHereAt rfl (sP (pOf (Or.inl rfl) (by omega))) ⟨by omega, by omega⟩ (by decide) rfl rfl (by decide) (Nat.le_of_ble_eq_true rfl) rfl rfl ?_
                rintro _ _ _ _ ⟨rfl, rfl, rfl, rfl⟩
                rw [show mi (58 + 2 * b) 4 = mi 174 (38 + b) from (hper b hb2).2.2.2.1]
                refine V_if_eq (tgt := 123) dX7_meet_113 (by decide) (fun c113 => ?_) (fun c113 => ?_)
                · refine V_iinc (v := _ + (-1)) (L' := [_, _, _, _, _, _, _, _, _]) dX7_meet_123 (by decide) rfl rfl rfl rfl ?_
                  refine V_goto (tgt := 67) dX7_meet_126 (by decide) ?_
                  simp only [b01_0, Classical.not_not] at c91
                  (try simp only [b01_0, Classical.not_not] at c113)
                  refine ih (i + 1) _ _ _ (by omega) (dec_toInt hy (by omega) (by omega)) ?_
                  unfold fit
                  rw [ha, show 200 - 1 - i = 199 - i by omega]
                  rw [nI_of_toInt hyn] at c91
                  (try rw [nI_of_toInt hyn] at c113)
                  by_cases hq : meetB (mi 174) a b (199 - i) = true
                  · first
                    | (rw [if_pos hq, ← nI_of_toInt hyn]; done)
                    | exact absurd (of_decide_eq_true hq).1 c91
                    | exact absurd (of_decide_eq_true hq).2 c113
                  · first
                    | (rw [if_neg hq]; done)
                    | exact absurd (decide_eq_true (And.intro c91 c113)) hq
                · refine V_iinc (v := _ + (1)) (L' := [_, _, _, _, _, _, _, _, _]) dX7_meet_116 (by decide) rfl rfl rfl rfl ?_
                  refine V_iload dX7_meet_119 rfl ?_
                  refine V_istore (L' := [_, _, _, _, _, _, _, _, _]) dX7_meet_121 (by decide) rfl rfl ?_
                  refine V_iinc (v := _ + (-1)) (L' := [_, _, _, _, _, _, _, _, _]) dX7_meet_123 (by decide) rfl rfl rfl rfl ?_
                  refine V_goto (tgt := 67) dX7_meet_126 (by decide) ?_
                  simp only [b01_0, Classical.not_not] at c91
                  (try simp only [b01_0, Classical.not_not] at c113)
                  refine ih (i + 1) _ _ _ (by omega) (dec_toInt hy (by omega) (by omega)) ?_
                  unfold fit
                  rw [ha, show 200 - 1 - i = 199 - i by omega]
                  rw [nI_of_toInt hyn] at c91
                  (try rw [nI_of_toInt hyn] at c113)
                  by_cases hq : meetB (mi 174) a b (199 - i) = true
                  · first
                    | (rw [if_pos hq, ← nI_of_toInt hyn]; done)
                    | exact absurd (of_decide_eq_true hq).1 c91
                    | exact absurd (of_decide_eq_true hq).2 c113
                  · first
                    | (rw [if_neg hq]; done)
                    | exact absurd (decide_eq_true (And.intro c91 c113)) hq
          exact loop 200 0 _ _ _ (by omega) (by decide) rfl
        · refine V_bipush (v := -2) dX7_meet_30 rfl ?_
          refine V_iret dX7_meet_32 rfl rfl ?_
          rw [r2] at c5 c13
          clear hR
          (try simp only [b01_0, b01_n] at *)
          refine ⟨?_, rfl, ?_, rfl⟩
          all_goals (simp only [sMeet]; (try simp only [r2]); repeat' split)
          all_goals first | rfl | (exfalso; simp only [Int32.lt_iff_toInt_lt, Int32.le_iff_toInt_le, ← Int32.toInt_inj, Int32.reduceToInt] at *; omega)
      · refine V_iconst (v := -1) dX7_meet_23 rfl ?_
        refine V_iret dX7_meet_24 rfl rfl ?_
        clear hR
        (try simp only [b01_0, b01_n] at *)
        refine ⟨?_, rfl, ?_, rfl⟩
        all_goals (simp only [sMeet]; (try simp only [r2]); repeat' split)
        all_goals first | rfl | (exfalso; simp only [Int32.lt_iff_toInt_lt, Int32.le_iff_toInt_le, ← Int32.toInt_inj, Int32.reduceToInt] at *; omega)
set_option maxRecDepth 4000 in
theorem qX8_meet (n : Nat) (mi : MI) (mr : MR) (c : CT) (hR : RF mr) (hn : 186 ≤ n) (hBD : BD (mi 174) c) (p q v : Int32) : Ct KX8_meet 6 0 0 [.ref 173, .int p, .int q, .int v] n mi mr (eqQ (some (.int (sMeet (mi 174) p q v))) n (mi) mr) := by
  refine Ct.of2 [some (.ref 173), some (.int p), some (.int q), some (.int v), none, none, none, none] (by decide +kernel) (Nat.le_of_ble_eq_true rfl) rfl ?_
  obtain ⟨⟨hN, hN6⟩, ⟨hW, hW5⟩, ⟨hL, hL5⟩, ⟨hT, hT100⟩, ⟨hS, hS5⟩, ⟨hP, hP8⟩, ⟨hBk, hB8⟩⟩ := hBD.1
  refine V_aload_n dX8_meet_0 rfl ?_
  refine V_iload_n dX8_meet_1 rfl ?_
  refine V_callV (ci := 8) (qX8_isPerson _ _ _ hR hn _) dX8_meet_2 mlX8_169 mtX8_isPerson ivX8_isPerson rfl rfl ⟨by omega, by omega⟩ (by decide) rfl rfl (by decide) (Nat.le_of_ble_eq_true rfl) rfl rfl ?_
  rintro _ _ _ _ ⟨rfl, rfl, rfl, rfl⟩
  simp only [leSub hN (by omega)]
  refine V_if_eq (tgt := 25) dX8_meet_5 (by decide) (fun c5 => ?_) (fun c5 => ?_)
  · refine V_iconst (v := -1) dX8_meet_25 rfl ?_
    refine V_iret dX8_meet_26 rfl rfl ?_
    clear hR
    (try simp only [b01_0, b01_n] at *)
    refine ⟨?_, rfl, ?_, rfl⟩
    all_goals (simp only [sMeet, ← zero_one]; repeat' split)
    all_goals first | rfl | (exfalso; simp only [Int32.lt_iff_toInt_lt, Int32.le_iff_toInt_le, ← Int32.toInt_inj, Int32.reduceToInt] at *; omega)
  · refine V_aload_n dX8_meet_8 rfl ?_
    refine V_iload_n dX8_meet_9 rfl ?_
    refine V_callV (ci := 8) (qX8_isPerson _ _ _ hR hn _) dX8_meet_10 mlX8_169 mtX8_isPerson ivX8_isPerson rfl rfl ⟨by omega, by omega⟩ (by decide) rfl rfl (by decide) (Nat.le_of_ble_eq_true rfl) rfl rfl ?_
    rintro _ _ _ _ ⟨rfl, rfl, rfl, rfl⟩
    simp only [leSub hN (by omega)]
    refine V_if_eq (tgt := 25) dX8_meet_13 (by decide) (fun c13 => ?_) (fun c13 => ?_)
    · refine V_iconst (v := -1) dX8_meet_25 rfl ?_
      refine V_iret dX8_meet_26 rfl rfl ?_
      clear hR
      (try simp only [b01_0, b01_n] at *)
      refine ⟨?_, rfl, ?_, rfl⟩
      all_goals (simp only [sMeet, ← zero_one]; repeat' split)
      all_goals first | rfl | (exfalso; simp only [Int32.lt_iff_toInt_lt, Int32.le_iff_toInt_le, ← Int32.toInt_inj, Int32.reduceToInt] at *; omega)
    · refine V_iload_n dX8_meet_16 rfl ?_
      refine V_iconst (v := 0) dX8_meet_17 rfl ?_
      refine V_iconst (v := 1) dX8_meet_18 rfl ?_
      refine V_callS (qX8_in _ _ _ _ _ _) dX8_meet_19 mlX8_53 mtX8_in smX8_in rfl rfl (by decide) (Nat.le_of_ble_eq_true rfl) rfl rfl ?_
      rintro _ _ _ _ ⟨rfl, rfl, rfl, rfl⟩
      refine V_if_ne (tgt := 27) dX8_meet_22 (by decide) (fun c22 => ?_) (fun c22 => ?_)
      · refine V_iload_n dX8_meet_27 rfl ?_
        refine V_iload_n dX8_meet_28 rfl ?_
        refine V_icmp_ne (tgt := 35) dX8_meet_29 (by decide) (fun c29 => ?_) (fun c29 => ?_)
        · obtain ⟨a, ha1, ha2⟩ := idxC c5 hN
          obtain ⟨b, hb1, hb2⟩ := idxC c13 hN
          refine V_iconst (v := 0) dX8_meet_35 rfl ?_
          refine V_istore (L' := [_, _, _, _, _, _, _, _]) dX8_meet_36 (by decide) rfl rfl ?_
          refine V_bipush (v := -5) dX8_meet_38 rfl ?_
          refine V_istore (L' := [_, _, _, _, _, _, _, _]) dX8_meet_40 (by decide) rfl rfl ?_
          refine V_sipush (v := 199) dX8_meet_42 rfl ?_
          refine V_istore (L' := [_, _, _, _, _, _, _, _]) dX8_meet_45 (by decide) rfl rfl ?_
          have loop : ∀ (m i : Nat) (mn fs y : Int32) (z : Option Value), i + m = 200 → y.toInt = ((199 : Nat) : Int) - (i : Int) → fit (meetB (mi 174) a b) 200 i = (mn, fs) → V KX8_meet 6 0 0 (eqQ (some (.int (sMeet (mi 174) p q v))) n (mi) mr) 47 [some (.ref 173), some (.int p), some (.int q), some (.int v), some (.int mn), some (.int fs), some (.int y), z] [] n mi mr := by
            intro m
            induction m with
            | zero =>
              intro i mn fs y z him hy ha
              refine V_iload dX8_meet_47 rfl ?_
              refine V_if_lt (tgt := 124) dX8_meet_49 (by decide) (fun c49 => ?_) (fun c49 => absurd ((lt0_iff hy).mpr (by omega)) c49)
              have hi : i = 200 := by omega
              subst hi
              refine V_iload_n dX8_meet_124 rfl ?_
              refine V_if_ne (tgt := 133) dX8_meet_125 (by decide) (fun c125 => ?_) (fun c125 => ?_)
              · refine V_iload dX8_meet_133 rfl ?_
                refine V_iret dX8_meet_135 rfl rfl ?_
                refine ⟨?_, rfl, rfl, rfl⟩
                unfold sMeet
                rw [if_pos (And.intro (b01_n.mp c5) (And.intro (b01_n.mp c13) (zero_one.mp (b01_n.mp c22)))), if_neg c29, nat_of_toInt ha1, nat_of_toInt hb1, ha]
                first | rw [if_pos c125] | rw [if_neg c125]
              · refine V_iload dX8_meet_128 rfl ?_
                refine V_goto (tgt := 135) dX8_meet_130 (by decide) ?_
                refine V_iret dX8_meet_135 rfl rfl ?_
                refine ⟨?_, rfl, rfl, rfl⟩
                unfold sMeet
                rw [if_pos (And.intro (b01_n.mp c5) (And.intro (b01_n.mp c13) (zero_one.mp (b01_n.mp c22)))), if_neg c29, nat_of_toInt ha1, nat_of_toInt hb1, ha]
                first | rw [if_pos c125] | rw [if_neg c125]
            | succ m ih =>
              intro i mn fs y z him hy ha
              refine V_iload dX8_meet_47 rfl ?_
              refine V_if_lt (tgt := 124) dX8_meet_49 (by decide) (fun c49 => absurd ((lt0_iff hy).mp c49) (by omega)) (fun c49 => ?_)
              have hyn : y.toInt = ((199 - i : Nat) : Int) := by omega
              refine V_aload_n dX8_meet_52 rfl ?_
              refine V_iload_n dX8_meet_53 rfl ?_
              refine V_aload_n dX8_meet_54 rfl ?_
              refine V_iload_n dX8_meet_55 rfl ?_
              refine V_iload dX8_meet_56 rfl ?_
              refine V_callV (ci := 8) (qX8_ageIn _ _ _ hR hn _ _ a ha1 (by omega) (199 - i) hyn) dX8_meet_58 mlX8_135 mtX8_ageIn ivX8_ageIn rfl rfl ⟨by omega, by omega⟩ (by decide) rfl rfl (by decide) (Nat.le_of_ble_eq_true rfl) rfl rfl ?_
              rintro _ _ _ _ ⟨rfl, rfl, rfl, rfl⟩
              refine V_callV (ci := 8) (qX8_isHereAt _ _ _ hR hn _ _ a ha1 (by omega)) dX8_meet_61 mlX8_139 mtX8_isHereAt ivX8_isHereAt rfl rfl ⟨by omega, by omega⟩ (by decide) rfl rfl (by decide) (Nat.le_of_ble_eq_true rfl) rfl rfl ?_
              rintro _ _ _ _ ⟨rfl, rfl, rfl, rfl⟩
              refine V_if_eq (tgt := 86) dX8_meet_64 (by decide) (fun c64 => ?_) (fun c64 => ?_)
              · refine V_iconst (v := 0) dX8_meet_86 rfl ?_
                refine V_istore (L' := [_, _, _, _, _, _, _, _]) dX8_meet_87 (by decide) rfl rfl ?_
                refine V_iload dX8_meet_89 rfl ?_
                refine V_iload dX8_meet_91 rfl ?_
                refine V_if_eq (tgt := 100) dX8_meet_93 (by decide) (fun c93 => ?_) (fun c93 => ?_)
                · refine V_iconst (v := 0) dX8_meet_100 rfl ?_
                  refine V_iadd dX8_meet_101 ?_
                  refine V_istore (L' := [_, _, _, _, _, _, _, _]) dX8_meet_102 (by decide) rfl rfl ?_
                  refine V_iload dX8_meet_104 rfl ?_
                  refine V_if_eq (tgt := 114) dX8_meet_106 (by decide) (fun c106 => ?_) (fun c106 => ?_)
                  · refine V_iload dX8_meet_114 rfl ?_
                    refine V_istore (L' := [_, _, _, _, _, _, _, _]) dX8_meet_116 (by decide) rfl rfl ?_
                    refine V_iinc (v := _ + (-1)) (L' := [_, _, _, _, _, _, _, _]) dX8_meet_118 (by decide) rfl rfl rfl rfl ?_
                    refine V_goto (tgt := 47) dX8_meet_121 (by decide) ?_
                    first
                    | (exfalso; revert c93; decide)
                    | (exfalso; revert c106; decide)
                    | (simp only [b01_0, Classical.not_not] at c64
                       (try simp only [b01_0, Classical.not_not] at c79)
                       refine ih (i + 1) _ _ _ _ (by omega) (dec_toInt hy (by omega) (by omega)) ?_
                       unfold fit
                       rw [ha, show 200 - 1 - i = 199 - i by omega]
                       rw [nI_of_toInt hyn] at c64
                       (try rw [nI_of_toInt hyn] at c79)
                       by_cases hq : meetB (mi 174) a b (199 - i) = true
                       · first
                         | (rw [if_pos hq, ← nI_of_toInt hyn]; done)
                         | exact absurd (of_decide_eq_true hq).1 c64
                         | exact absurd (of_decide_eq_true hq).2 c79
                       · first
                         | (rw [if_neg hq, Int32.add_zero]; done)
                         | exact absurd (decide_eq_true (And.intro c64 c79)) hq)
                  · refine V_iload dX8_meet_109 rfl ?_
                    refine V_goto (tgt := 116) dX8_meet_111 (by decide) ?_
                    refine V_istore (L' := [_, _, _, _, _, _, _, _]) dX8_meet_116 (by decide) rfl rfl ?_
                    refine V_iinc (v := _ + (-1)) (L' := [_, _, _, _, _, _, _, _]) dX8_meet_118 (by decide) rfl rfl rfl rfl ?_
                    refine V_goto (tgt := 47) dX8_meet_121 (by decide) ?_
                    first
                    | (exfalso; revert c93; decide)
                    | (exfalso; revert c106; decide)
                    | (simp only [b01_0, Classical.not_not] at c64
                       (try simp only [b01_0, Classical.not_not] at c79)
                       refine ih (i + 1) _ _ _ _ (by omega) (dec_toInt hy (by omega) (by omega)) ?_
                       unfold fit
                       rw [ha, show 200 - 1 - i = 199 - i by omega]
                       rw [nI_of_toInt hyn] at c64
                       (try rw [nI_of_toInt hyn] at c79)
                       by_cases hq : meetB (mi 174) a b (199 - i) = true
                       · first
                         | (rw [if_pos hq, ← nI_of_toInt hyn]; done)
                         | exact absurd (of_decide_eq_true hq).1 c64
                         | exact absurd (of_decide_eq_true hq).2 c79
                       · first
                         | (rw [if_neg hq, Int32.add_zero]; done)
                         | exact absurd (decide_eq_true (And.intro c64 c79)) hq)
                · refine V_iconst (v := 1) dX8_meet_96 rfl ?_
                  refine V_goto (tgt := 101) dX8_meet_97 (by decide) ?_
                  refine V_iadd dX8_meet_101 ?_
                  refine V_istore (L' := [_, _, _, _, _, _, _, _]) dX8_meet_102 (by decide) rfl rfl ?_
                  refine V_iload dX8_meet_104 rfl ?_
                  refine V_if_eq (tgt := 114) dX8_meet_106 (by decide) (fun c106 => ?_) (fun c106 => ?_)
                  · refine V_iload dX8_meet_114 rfl ?_
                    refine V_istore (L' := [_, _, _, _, _, _, _, _]) dX8_meet_116 (by decide) rfl rfl ?_
                    refine V_iinc (v := _ + (-1)) (L' := [_, _, _, _, _, _, _, _]) dX8_meet_118 (by decide) rfl rfl rfl rfl ?_
                    refine V_goto (tgt := 47) dX8_meet_121 (by decide) ?_
                    first
                    | (exfalso; revert c93; decide)
                    | (exfalso; revert c106; decide)
                    | (simp only [b01_0, Classical.not_not] at c64
                       (try simp only [b01_0, Classical.not_not] at c79)
                       refine ih (i + 1) _ _ _ _ (by omega) (dec_toInt hy (by omega) (by omega)) ?_
                       unfold fit
                       rw [ha, show 200 - 1 - i = 199 - i by omega]
                       rw [nI_of_toInt hyn] at c64
                       (try rw [nI_of_toInt hyn] at c79)
                       by_cases hq : meetB (mi 174) a b (199 - i) = true
                       · first
                         | (rw [if_pos hq, ← nI_of_toInt hyn]; done)
                         | exact absurd (of_decide_eq_true hq).1 c64
                         | exact absurd (of_decide_eq_true hq).2 c79
                       · first
                         | (rw [if_neg hq, Int32.add_zero]; done)
                         | exact absurd (decide_eq_true (And.intro c64 c79)) hq)
                  · refine V_iload dX8_meet_109 rfl ?_
                    refine V_goto (tgt := 116) dX8_meet_111 (by decide) ?_
                    refine V_istore (L' := [_, _, _, _, _, _, _, _]) dX8_meet_116 (by decide) rfl rfl ?_
                    refine V_iinc (v := _ + (-1)) (L' := [_, _, _, _, _, _, _, _]) dX8_meet_118 (by decide) rfl rfl rfl rfl ?_
                    refine V_goto (tgt := 47) dX8_meet_121 (by decide) ?_
                    first
                    | (exfalso; revert c93; decide)
                    | (exfalso; revert c106; decide)
                    | (simp only [b01_0, Classical.not_not] at c64
                       (try simp only [b01_0, Classical.not_not] at c79)
                       refine ih (i + 1) _ _ _ _ (by omega) (dec_toInt hy (by omega) (by omega)) ?_
                       unfold fit
                       rw [ha, show 200 - 1 - i = 199 - i by omega]
                       rw [nI_of_toInt hyn] at c64
                       (try rw [nI_of_toInt hyn] at c79)
                       by_cases hq : meetB (mi 174) a b (199 - i) = true
                       · first
                         | (rw [if_pos hq, ← nI_of_toInt hyn]; done)
                         | exact absurd (of_decide_eq_true hq).1 c64
                         | exact absurd (of_decide_eq_true hq).2 c79
                       · first
                         | (rw [if_neg hq, Int32.add_zero]; done)
                         | exact absurd (decide_eq_true (And.intro c64 c79)) hq)
              · refine V_aload_n dX8_meet_67 rfl ?_
                refine V_iload_n dX8_meet_68 rfl ?_
                refine V_aload_n dX8_meet_69 rfl ?_
                refine V_iload_n dX8_meet_70 rfl ?_
                refine V_iload dX8_meet_71 rfl ?_
                refine V_callV (ci := 8) (qX8_ageIn _ _ _ hR hn _ _ b hb1 (by omega) (199 - i) hyn) dX8_meet_73 mlX8_135 mtX8_ageIn ivX8_ageIn rfl rfl ⟨by omega, by omega⟩ (by decide) rfl rfl (by decide) (Nat.le_of_ble_eq_true rfl) rfl rfl ?_
                rintro _ _ _ _ ⟨rfl, rfl, rfl, rfl⟩
                refine V_callV (ci := 8) (qX8_isHereAt _ _ _ hR hn _ _ b hb1 (by omega)) dX8_meet_76 mlX8_139 mtX8_isHereAt ivX8_isHereAt rfl rfl ⟨by omega, by omega⟩ (by decide) rfl rfl (by decide) (Nat.le_of_ble_eq_true rfl) rfl rfl ?_
                rintro _ _ _ _ ⟨rfl, rfl, rfl, rfl⟩
                refine V_if_eq (tgt := 86) dX8_meet_79 (by decide) (fun c79 => ?_) (fun c79 => ?_)
                · refine V_iconst (v := 0) dX8_meet_86 rfl ?_
                  refine V_istore (L' := [_, _, _, _, _, _, _, _]) dX8_meet_87 (by decide) rfl rfl ?_
                  refine V_iload dX8_meet_89 rfl ?_
                  refine V_iload dX8_meet_91 rfl ?_
                  refine V_if_eq (tgt := 100) dX8_meet_93 (by decide) (fun c93 => ?_) (fun c93 => ?_)
                  · refine V_iconst (v := 0) dX8_meet_100 rfl ?_
                    refine V_iadd dX8_meet_101 ?_
                    refine V_istore (L' := [_, _, _, _, _, _, _, _]) dX8_meet_102 (by decide) rfl rfl ?_
                    refine V_iload dX8_meet_104 rfl ?_
                    refine V_if_eq (tgt := 114) dX8_meet_106 (by decide) (fun c106 => ?_) (fun c106 => ?_)
                    · refine V_iload dX8_meet_114 rfl ?_
                      refine V_istore (L' := [_, _, _, _, _, _, _, _]) dX8_meet_116 (by decide) rfl rfl ?_
                      refine V_iinc (v := _ + (-1)) (L' := [_, _, _, _, _, _, _, _]) dX8_meet_118 (by decide) rfl rfl rfl rfl ?_
                      refine V_goto (tgt := 47) dX8_meet_121 (by decide) ?_
                      first
                      | (exfalso; revert c93; decide)
                      | (exfalso; revert c106; decide)
                      | (simp only [b01_0, Classical.not_not] at c64
                         (try simp only [b01_0, Classical.not_not] at c79)
                         refine ih (i + 1) _ _ _ _ (by omega) (dec_toInt hy (by omega) (by omega)) ?_
                         unfold fit
                         rw [ha, show 200 - 1 - i = 199 - i by omega]
                         rw [nI_of_toInt hyn] at c64
                         (try rw [nI_of_toInt hyn] at c79)
                         by_cases hq : meetB (mi 174) a b (199 - i) = true
                         · first
                           | (rw [if_pos hq, ← nI_of_toInt hyn]; done)
                           | exact absurd (of_decide_eq_true hq).1 c64
                           | exact absurd (of_decide_eq_true hq).2 c79
                         · first
                           | (rw [if_neg hq, Int32.add_zero]; done)
                           | exact absurd (decide_eq_true (And.intro c64 c79)) hq)
                    · refine V_iload dX8_meet_109 rfl ?_
                      refine V_goto (tgt := 116) dX8_meet_111 (by decide) ?_
                      refine V_istore (L' := [_, _, _, _, _, _, _, _]) dX8_meet_116 (by decide) rfl rfl ?_
                      refine V_iinc (v := _ + (-1)) (L' := [_, _, _, _, _, _, _, _]) dX8_meet_118 (by decide) rfl rfl rfl rfl ?_
                      refine V_goto (tgt := 47) dX8_meet_121 (by decide) ?_
                      first
                      | (exfalso; revert c93; decide)
                      | (exfalso; revert c106; decide)
                      | (simp only [b01_0, Classical.not_not] at c64
                         (try simp only [b01_0, Classical.not_not] at c79)
                         refine ih (i + 1) _ _ _ _ (by omega) (dec_toInt hy (by omega) (by omega)) ?_
                         unfold fit
                         rw [ha, show 200 - 1 - i = 199 - i by omega]
                         rw [nI_of_toInt hyn] at c64
                         (try rw [nI_of_toInt hyn] at c79)
                         by_cases hq : meetB (mi 174) a b (199 - i) = true
                         · first
                           | (rw [if_pos hq, ← nI_of_toInt hyn]; done)
                           | exact absurd (of_decide_eq_true hq).1 c64
                           | exact absurd (of_decide_eq_true hq).2 c79
                         · first
                           | (rw [if_neg hq, Int32.add_zero]; done)
                           | exact absurd (decide_eq_true (And.intro c64 c79)) hq)
                  · refine V_iconst (v := 1) dX8_meet_96 rfl ?_
                    refine V_goto (tgt := 101) dX8_meet_97 (by decide) ?_
                    refine V_iadd dX8_meet_101 ?_
                    refine V_istore (L' := [_, _, _, _, _, _, _, _]) dX8_meet_102 (by decide) rfl rfl ?_
                    refine V_iload dX8_meet_104 rfl ?_
                    refine V_if_eq (tgt := 114) dX8_meet_106 (by decide) (fun c106 => ?_) (fun c106 => ?_)
                    · refine V_iload dX8_meet_114 rfl ?_
                      refine V_istore (L' := [_, _, _, _, _, _, _, _]) dX8_meet_116 (by decide) rfl rfl ?_
                      refine V_iinc (v := _ + (-1)) (L' := [_, _, _, _, _, _, _, _]) dX8_meet_118 (by decide) rfl rfl rfl rfl ?_
                      refine V_goto (tgt := 47) dX8_meet_121 (by decide) ?_
                      first
                      | (exfalso; revert c93; decide)
                      | (exfalso; revert c106; decide)
                      | (simp only [b01_0, Classical.not_not] at c64
                         (try simp only [b01_0, Classical.not_not] at c79)
                         refine ih (i + 1) _ _ _ _ (by omega) (dec_toInt hy (by omega) (by omega)) ?_
                         unfold fit
                         rw [ha, show 200 - 1 - i = 199 - i by omega]
                         rw [nI_of_toInt hyn] at c64
                         (try rw [nI_of_toInt hyn] at c79)
                         by_cases hq : meetB (mi 174) a b (199 - i) = true
                         · first
                           | (rw [if_pos hq, ← nI_of_toInt hyn]; done)
                           | exact absurd (of_decide_eq_true hq).1 c64
                           | exact absurd (of_decide_eq_true hq).2 c79
                         · first
                           | (rw [if_neg hq, Int32.add_zero]; done)
                           | exact absurd (decide_eq_true (And.intro c64 c79)) hq)
                    · refine V_iload dX8_meet_109 rfl ?_
                      refine V_goto (tgt := 116) dX8_meet_111 (by decide) ?_
                      refine V_istore (L' := [_, _, _, _, _, _, _, _]) dX8_meet_116 (by decide) rfl rfl ?_
                      refine V_iinc (v := _ + (-1)) (L' := [_, _, _, _, _, _, _, _]) dX8_meet_118 (by decide) rfl rfl rfl rfl ?_
                      refine V_goto (tgt := 47) dX8_meet_121 (by decide) ?_
                      first
                      | (exfalso; revert c93; decide)
                      | (exfalso; revert c106; decide)
                      | (simp only [b01_0, Classical.not_not] at c64
                         (try simp only [b01_0, Classical.not_not] at c79)
                         refine ih (i + 1) _ _ _ _ (by omega) (dec_toInt hy (by omega) (by omega)) ?_
                         unfold fit
                         rw [ha, show 200 - 1 - i = 199 - i by omega]
                         rw [nI_of_toInt hyn] at c64
                         (try rw [nI_of_toInt hyn] at c79)
                         by_cases hq : meetB (mi 174) a b (199 - i) = true
                         · first
                           | (rw [if_pos hq, ← nI_of_toInt hyn]; done)
                           | exact absurd (of_decide_eq_true hq).1 c64
                           | exact absurd (of_decide_eq_true hq).2 c79
                         · first
                           | (rw [if_neg hq, Int32.add_zero]; done)
                           | exact absurd (decide_eq_true (And.intro c64 c79)) hq)
                · refine V_iconst (v := 1) dX8_meet_82 rfl ?_
                  refine V_goto (tgt := 87) dX8_meet_83 (by decide) ?_
                  refine V_istore (L' := [_, _, _, _, _, _, _, _]) dX8_meet_87 (by decide) rfl rfl ?_
                  refine V_iload dX8_meet_89 rfl ?_
                  refine V_iload dX8_meet_91 rfl ?_
                  refine V_if_eq (tgt := 100) dX8_meet_93 (by decide) (fun c93 => ?_) (fun c93 => ?_)
                  · refine V_iconst (v := 0) dX8_meet_100 rfl ?_
                    refine V_iadd dX8_meet_101 ?_
                    refine V_istore (L' := [_, _, _, _, _, _, _, _]) dX8_meet_102 (by decide) rfl rfl ?_
                    refine V_iload dX8_meet_104 rfl ?_
                    refine V_if_eq (tgt := 114) dX8_meet_106 (by decide) (fun c106 => ?_) (fun c106 => ?_)
                    · refine V_iload dX8_meet_114 rfl ?_
                      refine V_istore (L' := [_, _, _, _, _, _, _, _]) dX8_meet_116 (by decide) rfl rfl ?_
                      refine V_iinc (v := _ + (-1)) (L' := [_, _, _, _, _, _, _, _]) dX8_meet_118 (by decide) rfl rfl rfl rfl ?_
                      refine V_goto (tgt := 47) dX8_meet_121 (by decide) ?_
                      first
                      | (exfalso; revert c93; decide)
                      | (exfalso; revert c106; decide)
                      | (simp only [b01_0, Classical.not_not] at c64
                         (try simp only [b01_0, Classical.not_not] at c79)
                         refine ih (i + 1) _ _ _ _ (by omega) (dec_toInt hy (by omega) (by omega)) ?_
                         unfold fit
                         rw [ha, show 200 - 1 - i = 199 - i by omega]
                         rw [nI_of_toInt hyn] at c64
                         (try rw [nI_of_toInt hyn] at c79)
                         by_cases hq : meetB (mi 174) a b (199 - i) = true
                         · first
                           | (rw [if_pos hq, ← nI_of_toInt hyn]; done)
                           | exact absurd (of_decide_eq_true hq).1 c64
                           | exact absurd (of_decide_eq_true hq).2 c79
                         · first
                           | (rw [if_neg hq, Int32.add_zero]; done)
                           | exact absurd (decide_eq_true (And.intro c64 c79)) hq)
                    · refine V_iload dX8_meet_109 rfl ?_
                      refine V_goto (tgt := 116) dX8_meet_111 (by decide) ?_
                      refine V_istore (L' := [_, _, _, _, _, _, _, _]) dX8_meet_116 (by decide) rfl rfl ?_
                      refine V_iinc (v := _ + (-1)) (L' := [_, _, _, _, _, _, _, _]) dX8_meet_118 (by decide) rfl rfl rfl rfl ?_
                      refine V_goto (tgt := 47) dX8_meet_121 (by decide) ?_
                      first
                      | (exfalso; revert c93; decide)
                      | (exfalso; revert c106; decide)
                      | (simp only [b01_0, Classical.not_not] at c64
                         (try simp only [b01_0, Classical.not_not] at c79)
                         refine ih (i + 1) _ _ _ _ (by omega) (dec_toInt hy (by omega) (by omega)) ?_
                         unfold fit
                         rw [ha, show 200 - 1 - i = 199 - i by omega]
                         rw [nI_of_toInt hyn] at c64
                         (try rw [nI_of_toInt hyn] at c79)
                         by_cases hq : meetB (mi 174) a b (199 - i) = true
                         · first
                           | (rw [if_pos hq, ← nI_of_toInt hyn]; done)
                           | exact absurd (of_decide_eq_true hq).1 c64
                           | exact absurd (of_decide_eq_true hq).2 c79
                         · first
                           | (rw [if_neg hq, Int32.add_zero]; done)
                           | exact absurd (decide_eq_true (And.intro c64 c79)) hq)
                  · refine V_iconst (v := 1) dX8_meet_96 rfl ?_
                    refine V_goto (tgt := 101) dX8_meet_97 (by decide) ?_
                    refine V_iadd dX8_meet_101 ?_
                    refine V_istore (L' := [_, _, _, _, _, _, _, _]) dX8_meet_102 (by decide) rfl rfl ?_
                    refine V_iload dX8_meet_104 rfl ?_
                    refine V_if_eq (tgt := 114) dX8_meet_106 (by decide) (fun c106 => ?_) (fun c106 => ?_)
                    · refine V_iload dX8_meet_114 rfl ?_
                      refine V_istore (L' := [_, _, _, _, _, _, _, _]) dX8_meet_116 (by decide) rfl rfl ?_
                      refine V_iinc (v := _ + (-1)) (L' := [_, _, _, _, _, _, _, _]) dX8_meet_118 (by decide) rfl rfl rfl rfl ?_
                      refine V_goto (tgt := 47) dX8_meet_121 (by decide) ?_
                      first
                      | (exfalso; revert c93; decide)
                      | (exfalso; revert c106; decide)
                      | (simp only [b01_0, Classical.not_not] at c64
                         (try simp only [b01_0, Classical.not_not] at c79)
                         refine ih (i + 1) _ _ _ _ (by omega) (dec_toInt hy (by omega) (by omega)) ?_
                         unfold fit
                         rw [ha, show 200 - 1 - i = 199 - i by omega]
                         rw [nI_of_toInt hyn] at c64
                         (try rw [nI_of_toInt hyn] at c79)
                         by_cases hq : meetB (mi 174) a b (199 - i) = true
                         · first
                           | (rw [if_pos hq, ← nI_of_toInt hyn]; done)
                           | exact absurd (of_decide_eq_true hq).1 c64
                           | exact absurd (of_decide_eq_true hq).2 c79
                         · first
                           | (rw [if_neg hq, Int32.add_zero]; done)
                           | exact absurd (decide_eq_true (And.intro c64 c79)) hq)
                    · refine V_iload dX8_meet_109 rfl ?_
                      refine V_goto (tgt := 116) dX8_meet_111 (by decide) ?_
                      refine V_istore (L' := [_, _, _, _, _, _, _, _]) dX8_meet_116 (by decide) rfl rfl ?_
                      refine V_iinc (v := _ + (-1)) (L' := [_, _, _, _, _, _, _, _]) dX8_meet_118 (by decide) rfl rfl rfl rfl ?_
                      refine V_goto (tgt := 47) dX8_meet_121 (by decide) ?_
                      first
                      | (exfalso; revert c93; decide)
                      | (exfalso; revert c106; decide)
                      | (simp only [b01_0, Classical.not_not] at c64
                         (try simp only [b01_0, Classical.not_not] at c79)
                         refine ih (i + 1) _ _ _ _ (by omega) (dec_toInt hy (by omega) (by omega)) ?_
                         unfold fit
                         rw [ha, show 200 - 1 - i = 199 - i by omega]
                         rw [nI_of_toInt hyn] at c64
                         (try rw [nI_of_toInt hyn] at c79)
                         by_cases hq : meetB (mi 174) a b (199 - i) = true
                         · first
                           | (rw [if_pos hq, ← nI_of_toInt hyn]; done)
                           | exact absurd (of_decide_eq_true hq).1 c64
                           | exact absurd (of_decide_eq_true hq).2 c79
                         · first
                           | (rw [if_neg hq, Int32.add_zero]; done)
                           | exact absurd (decide_eq_true (And.intro c64 c79)) hq)
          exact loop 200 0 _ _ _ _ (by omega) (by decide) rfl
        · refine V_bipush (v := -2) dX8_meet_32 rfl ?_
          refine V_iret dX8_meet_34 rfl rfl ?_
          clear hR
          (try simp only [b01_0, b01_n] at *)
          refine ⟨?_, rfl, ?_, rfl⟩
          all_goals (simp only [sMeet, ← zero_one]; repeat' split)
          all_goals first | rfl | (exfalso; simp only [Int32.lt_iff_toInt_lt, Int32.le_iff_toInt_le, ← Int32.toInt_inj, Int32.reduceToInt] at *; omega)
      · refine V_iconst (v := -1) dX8_meet_25 rfl ?_
        refine V_iret dX8_meet_26 rfl rfl ?_
        clear hR
        (try simp only [b01_0, b01_n] at *)
        refine ⟨?_, rfl, ?_, rfl⟩
        all_goals (simp only [sMeet, ← zero_one]; repeat' split)
        all_goals first | rfl | (exfalso; simp only [Int32.lt_iff_toInt_lt, Int32.le_iff_toInt_le, ← Int32.toInt_inj, Int32.reduceToInt] at *; omega)
