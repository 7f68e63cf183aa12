abbrev nearOK (S : Nat → Int32) (v : Nat) : Bool := decide (0 < S (7 + v))
abbrev nearOff (S : Nat → Int32) (p : Nat) (x : Int32) (v : Nat) : Int32 := apartF (sAge S p (nI v)) x
def sNear (S : Nat → Int32) (W : Nat) (p x F : Int32) : Int32 := if 0 ≤ p ∧ p < S 12 then (if 0 ≤ x ∧ x ≤ 120 then (amin (nearOK S) (nearOff S p.toNatClampNeg x) nI (-5, F) W).1 else -2) else -1
theorem bd120 {x : Int32} (h1 : 0 ≤ x) (h2 : x ≤ 120) : bd x 9000 := by
  simp only [Int32.le_iff_toInt_le, Int32.reduceToInt] at h1 h2
  exact ⟨by omega, by omega⟩
theorem near_eq {S : Nat → Int32} {c : CT} {p x : Int32} (hB : BD S c) : sNear S (cW c) p x 1000000 = sNear S (cW c) p x 100000000 := by
  unfold sNear
  split
  · rename_i h
    split
    · rename_i hx
      obtain ⟨k, h1, h2⟩ := idxC (b01_n.mpr h) hB.1.1.1
      rw [nat_of_toInt h1]
      rcases amin_R (ok := nearOK S) (off := nearOff S k x) (tag := nI) (a := (-5, 1000000)) (b := (-5, 100000000)) (Or.inl ⟨rfl, rfl⟩) (k := cW c) (fun j hj _ => apart_bd (sAge_bd hB h2 (Or.inr ⟨j, nI_toInt (by have := hB.1.2.1.2; omega), hj⟩)) (bd120 hx.1 hx.2)) with ⟨e1, e2⟩ | e
      · rw [e1, e2]
      · rw [e]
    · rfl
  · rfl
set_option maxRecDepth 4000 in
theorem qX7_nearest (n : Nat) (mi : MI) (mr : MR) (c : CT) (I : INV n mi mr c) (p y : Int32) : Ct KX7_nearest 6 0 0 [.ref 32, .int p, .int y] n mi mr (eqQ (some (.int (sNear (mi 174) (cW c) p y 1000000))) n (mi) mr) := by
  refine Ct.of2 [some (.ref 32), some (.int p), some (.int y), none, none, none, none] (by decide +kernel) (Nat.le_of_ble_eq_true rfl) rfl ?_
  obtain ⟨hR, hn, ⟨⟨hN, hN6⟩, ⟨hW, hW5⟩, ⟨hL, hL5⟩, ⟨hT, hT100⟩, ⟨hS, hS5⟩, ⟨hP, hP8⟩, ⟨hBk, hB8⟩⟩, hrw⟩ := I.facts
  have hBD := I.2.2.1
  obtain ⟨⟨r1, r2, r3, r4, r5⟩, hper, hvin, htape, hseen, hnight, hbook⟩ := id hrw
  have hcN : nat (mi 40 1) (cN c) := by rw [r2]; exact hN
  have hcW : nat (mi 40 2) (cW c) := by rw [r3]; exact hW
  clear I
  refine V_aload_n dX7_nearest_0 rfl ?_
  refine V_iload_n dX7_nearest_1 rfl ?_
  refine V_callV (ci := 7) (qX7_isOne _ _ _ hR hn _) dX7_nearest_2 mlX7_105 mtX7_isOne ivX7_isOne rfl rfl ⟨by omega, by omega⟩ (by decide) rfl rfl (by decide) (Nat.le_of_ble_eq_true rfl) rfl rfl ?_
  rintro _ _ _ _ ⟨rfl, rfl, rfl, rfl⟩
  refine V_if_ne (tgt := 10) dX7_nearest_5 (by decide) (fun c5 => ?_) (fun c5 => ?_)
  · refine V_iload_n dX7_nearest_10 rfl ?_
    refine V_if_lt (tgt := 20) dX7_nearest_11 (by decide) (fun c11 => ?_) (fun c11 => ?_)
    · refine V_bipush (v := -2) dX7_nearest_20 rfl ?_
      refine V_iret dX7_nearest_22 rfl rfl ?_
      clear hR
      (try simp only [b01_0, b01_n] at *)
      refine ⟨?_, rfl, ?_, rfl⟩
      all_goals (simp only [sNear]; (try simp only [r2]); repeat' split)
      all_goals first | rfl | (exfalso; simp only [Int32.lt_iff_toInt_lt, Int32.le_iff_toInt_le, ← Int32.toInt_inj, Int32.reduceToInt] at *; omega)
    · refine V_iload_n dX7_nearest_14 rfl ?_
      refine V_bipush (v := 120) dX7_nearest_15 rfl ?_
      refine V_icmp_le (tgt := 23) dX7_nearest_17 (by decide) (fun c17 => ?_) (fun c17 => ?_)
      · obtain ⟨a, ha1, ha2⟩ := idxC c5 hcN
        have hby := bd120 (Int32.not_lt.mp c11) c17
        refine V_bipush (v := -5) dX7_nearest_23 rfl ?_
        refine V_istore_n (L' := [_, _, _, _, _, _, _]) dX7_nearest_25 (by decide) rfl rfl ?_
        refine V_ldc dX7_nearest_26 kX7_182 ?_
        refine V_istore (L' := [_, _, _, _, _, _, _]) dX7_nearest_28 (by decide) rfl rfl ?_
        refine V_iconst (v := 0) dX7_nearest_30 rfl ?_
        refine V_istore (L' := [_, _, _, _, _, _, _]) dX7_nearest_31 (by decide) rfl rfl ?_
        have loop : ∀ (m i : Nat) (nr lt x : Int32) (z : Option Value), i + m = cW c → x.toInt = (i : Int) → amin (nearOK (mi 174)) (nearOff (mi 174) a y) nI (-5, 1000000) i = (nr, lt) → V KX7_nearest 6 0 0 (eqQ (some (.int (sNear (mi 174) (cW c) p y 1000000))) n (mi) mr) 33 [some (.ref 32), some (.int p), some (.int y), some (.int nr), some (.int lt), some (.int x), z] [] n mi mr := by
          intro m
          induction m with
          | zero =>
            intro i nr lt x z him hx ha
            refine V_iload dX7_nearest_33 rfl ?_
            refine V_aload_n dX7_nearest_35 rfl ?_
            refine V_getr (b := 40) 7 1 dX7_nearest_36 (Or.inl lkX7_30) rfl rfl ⟨by omega, by omega⟩ (hR _ _ _ rfl) ?_
            refine V_geti 6 2 dX7_nearest_39 lnX7_98 rfl rfl ⟨by omega, by omega⟩ ?_
            refine V_icmp_ge (tgt := 95) dX7_nearest_42 (by decide) (fun c42 => ?_) (fun c42 => absurd ((le_nat hcW hx).mpr (by omega)) c42)
            refine V_iload_n dX7_nearest_95 rfl ?_
            refine V_iret dX7_nearest_96 rfl rfl ?_
            have hi : i = cW c := by omega
            subst hi
            refine ⟨?_, rfl, rfl, rfl⟩
            unfold sNear
            rw [if_pos (by rw [← r2]; exact b01_n.mp c5), if_pos ⟨Int32.not_lt.mp c11, c17⟩, nat_of_toInt ha1, ha]
          | succ m ih =>
            intro i nr lt x z him hx ha
            refine V_iload dX7_nearest_33 rfl ?_
            refine V_aload_n dX7_nearest_35 rfl ?_
            refine V_getr (b := 40) 7 1 dX7_nearest_36 (Or.inl lkX7_30) rfl rfl ⟨by omega, by omega⟩ (hR _ _ _ rfl) ?_
            refine V_geti 6 2 dX7_nearest_39 lnX7_98 rfl rfl ⟨by omega, by omega⟩ ?_
            refine V_icmp_ge (tgt := 95) dX7_nearest_42 (by decide) (fun c42 => absurd ((le_nat hcW hx).mp c42) (by omega)) (fun c42 => ?_)
            refine V_aload_n dX7_nearest_45 rfl ?_
            refine V_getr (b := 40) 7 1 dX7_nearest_46 (Or.inl lkX7_30) rfl rfl ⟨by omega, by omega⟩ (hR _ _ _ rfl) ?_
            refine V_iload_n dX7_nearest_49 rfl ?_
            refine V_iload dX7_nearest_50 rfl ?_
            refine V_callV (ci := 6) (qX6_ageBy _ _ _ hR hn _ (Or.inl rfl) _ _ a ha1 (by omega) (Or.inr ⟨i, hx, by omega⟩)) dX7_nearest_52 mlX7_127 mtX6_ageBy ivX6_ageBy rfl rfl ⟨by omega, by omega⟩ (by decide) rfl rfl (by decide) (Nat.le_of_ble_eq_true rfl) rfl rfl ?_
            rintro _ _ _ _ ⟨rfl, rfl, rfl, rfl⟩
            rw [age_eq hBD hrw ha2 (Or.inr ⟨i, hx, by omega⟩)]
            refine V_iload_n dX7_nearest_55 rfl ?_
            refine V_isub dX7_nearest_56 ?_
            refine V_abs dX7_nearest_57 mlX7_183 sm_abs iniJ9 cm_abs (by decide) (Nat.le_of_ble_eq_true rfl) ?_
            rw [apart_abs (sAge_bd hBD ha2 (Or.inr ⟨i, hx, by omega⟩)) hby]
            have hoff : apartF (sAge (mi 174) a x) y = nearOff (mi 174) a y i := by rw [nI_of_toInt hx]
            rw [hoff]
            refine V_istore (L' := [_, _, _, _, _, _, _]) dX7_nearest_60 (by decide) rfl rfl ?_
            refine V_aload_n dX7_nearest_62 rfl ?_
            refine V_getr (b := 40) 7 1 dX7_nearest_63 (Or.inl lkX7_30) rfl rfl ⟨by omega, by omega⟩ (hR _ _ _ rfl) ?_
            refine V_getr (b := 43) 6 8 dX7_nearest_66 lnX7_146 rfl rfl ⟨by omega, by omega⟩ (hR _ _ _ rfl) ?_
            refine V_iload dX7_nearest_69 rfl ?_
            refine V_iald (len := 5) i dX7_nearest_71 rfl ⟨by omega, by omega⟩ hx (by omega) ?_
            refine V_if_le (tgt := 89) dX7_nearest_72 (by decide) (fun c72 => ?_) (fun c72 => ?_)
            · refine V_iinc (v := _ + (1)) (L' := [_, _, _, _, _, _, _]) dX7_nearest_89 (by decide) rfl rfl rfl rfl ?_
              refine V_goto (tgt := 33) dX7_nearest_92 (by decide) ?_
              have b2 : mi 43 i = mi 174 (7 + i) := (hvin i (by omega)).2
              rw [b2] at c72
              refine ih (i + 1) _ _ _ _ (by omega) (ix_add hx (by decide) (by omega)) ?_
              unfold amin
              rw [ha]
              by_cases hq : nearOK (mi 174) i = true ∧ nearOff (mi 174) a y i < lt
              · first
                | (rw [if_pos hq, ← nI_of_toInt hx]; done)
                | exact absurd (of_decide_eq_true hq.1) (Int32.not_lt.mpr c72)
                | exact absurd hq.2 (Int32.not_lt.mpr c79)
              · first
                | (rw [if_neg hq]; done)
                | exact absurd (And.intro (decide_eq_true (Int32.not_le.mp c72)) (Int32.not_le.mp c79)) hq
            · refine V_iload dX7_nearest_75 rfl ?_
              refine V_iload dX7_nearest_77 rfl ?_
              refine V_icmp_ge (tgt := 89) dX7_nearest_79 (by decide) (fun c79 => ?_) (fun c79 => ?_)
              · refine V_iinc (v := _ + (1)) (L' := [_, _, _, _, _, _, _]) dX7_nearest_89 (by decide) rfl rfl rfl rfl ?_
                refine V_goto (tgt := 33) dX7_nearest_92 (by decide) ?_
                have b2 : mi 43 i = mi 174 (7 + i) := (hvin i (by omega)).2
                rw [b2] at c72
                refine ih (i + 1) _ _ _ _ (by omega) (ix_add hx (by decide) (by omega)) ?_
                unfold amin
                rw [ha]
                by_cases hq : nearOK (mi 174) i = true ∧ nearOff (mi 174) a y i < lt
                · first
                  | (rw [if_pos hq, ← nI_of_toInt hx]; done)
                  | exact absurd (of_decide_eq_true hq.1) (Int32.not_lt.mpr c72)
                  | exact absurd hq.2 (Int32.not_lt.mpr c79)
                · first
                  | (rw [if_neg hq]; done)
                  | exact absurd (And.intro (decide_eq_true (Int32.not_le.mp c72)) (Int32.not_le.mp c79)) hq
              · refine V_iload dX7_nearest_82 rfl ?_
                refine V_istore_n (L' := [_, _, _, _, _, _, _]) dX7_nearest_84 (by decide) rfl rfl ?_
                refine V_iload dX7_nearest_85 rfl ?_
                refine V_istore (L' := [_, _, _, _, _, _, _]) dX7_nearest_87 (by decide) rfl rfl ?_
                refine V_iinc (v := _ + (1)) (L' := [_, _, _, _, _, _, _]) dX7_nearest_89 (by decide) rfl rfl rfl rfl ?_
                refine V_goto (tgt := 33) dX7_nearest_92 (by decide) ?_
                have b2 : mi 43 i = mi 174 (7 + i) := (hvin i (by omega)).2
                rw [b2] at c72
                refine ih (i + 1) _ _ _ _ (by omega) (ix_add hx (by decide) (by omega)) ?_
                unfold amin
                rw [ha]
                by_cases hq : nearOK (mi 174) i = true ∧ nearOff (mi 174) a y i < lt
                · first
                  | (rw [if_pos hq, ← nI_of_toInt hx]; done)
                  | exact absurd (of_decide_eq_true hq.1) (Int32.not_lt.mpr c72)
                  | exact absurd hq.2 (Int32.not_lt.mpr c79)
                · first
                  | (rw [if_neg hq]; done)
                  | exact absurd (And.intro (decide_eq_true (Int32.not_le.mp c72)) (Int32.not_le.mp c79)) hq
        exact loop (cW c) 0 _ _ _ _ (by omega) (by decide) rfl
      · refine V_bipush (v := -2) dX7_nearest_20 rfl ?_
        refine V_iret dX7_nearest_22 rfl rfl ?_
        clear hR
        (try simp only [b01_0, b01_n] at *)
        refine ⟨?_, rfl, ?_, rfl⟩
        all_goals (simp only [sNear]; (try simp only [r2]); repeat' split)
        all_goals first | rfl | (exfalso; simp only [Int32.lt_iff_toInt_lt, Int32.le_iff_toInt_le, ← Int32.toInt_inj, Int32.reduceToInt] at *; omega)
  · refine V_iconst (v := -1) dX7_nearest_8 rfl ?_
    refine V_iret dX7_nearest_9 rfl rfl ?_
    clear hR
    (try simp only [b01_0, b01_n] at *)
    refine ⟨?_, rfl, ?_, rfl⟩
    all_goals (simp only [sNear]; (try simp only [r2]); repeat' split)
    all_goals first | rfl | (exfalso; simp only [Int32.lt_iff_toInt_lt, Int32.le_iff_toInt_le, ← Int32.toInt_inj, Int32.reduceToInt] at *; omega)
set_option maxRecDepth 4000 in
theorem qX8_nearest (n : Nat) (mi : MI) (mr : MR) (c : CT) (hR : RF mr) (hn : 186 ≤ n) (hBD : BD (mi 174) c) (p y : Int32) : Ct KX8_nearest 6 0 0 [.ref 173, .int p, .int y] n mi mr (eqQ (some (.int (sNear (mi 174) (cW c) p y 100000000))) n (mi) mr) := by
  refine Ct.of2 [some (.ref 173), some (.int p), some (.int y), none, none, none, none] (by decide +kernel) (Nat.le_of_ble_eq_true rfl) rfl ?_
  obtain ⟨⟨hN, hN6⟩, ⟨hW, hW5⟩, ⟨hL, hL5⟩, ⟨hT, hT100⟩, ⟨hS, hS5⟩, ⟨hP, hP8⟩, ⟨hBk, hB8⟩⟩ := hBD.1
  refine V_aload_n dX8_nearest_0 rfl ?_
  refine V_iload_n dX8_nearest_1 rfl ?_
  refine V_callV (ci := 8) (qX8_isPerson _ _ _ hR hn _) dX8_nearest_2 mlX8_169 mtX8_isPerson ivX8_isPerson rfl rfl ⟨by omega, by omega⟩ (by decide) rfl rfl (by decide) (Nat.le_of_ble_eq_true rfl) rfl rfl ?_
  rintro _ _ _ _ ⟨rfl, rfl, rfl, rfl⟩
  simp only [leSub hN (by omega)]
  refine V_if_ne (tgt := 10) dX8_nearest_5 (by decide) (fun c5 => ?_) (fun c5 => ?_)
  · refine V_iload_n dX8_nearest_10 rfl ?_
    refine V_iconst (v := 0) dX8_nearest_11 rfl ?_
    refine V_bipush (v := 120) dX8_nearest_12 rfl ?_
    refine V_callS (qX8_in _ _ _ _ _ _) dX8_nearest_14 mlX8_53 mtX8_in smX8_in rfl rfl (by decide) (Nat.le_of_ble_eq_true rfl) rfl rfl ?_
    rintro _ _ _ _ ⟨rfl, rfl, rfl, rfl⟩
    refine V_if_ne (tgt := 23) dX8_nearest_17 (by decide) (fun c17 => ?_) (fun c17 => ?_)
    · obtain ⟨a, ha1, ha2⟩ := idxC c5 hN
      refine V_bipush (v := -5) dX8_nearest_23 rfl ?_
      refine V_istore_n (L' := [_, _, _, _, _, _, _]) dX8_nearest_25 (by decide) rfl rfl ?_
      refine V_ldc dX8_nearest_26 kX8_200 ?_
      refine V_istore (L' := [_, _, _, _, _, _, _]) dX8_nearest_28 (by decide) rfl rfl ?_
      refine V_iconst (v := 0) dX8_nearest_30 rfl ?_
      refine V_istore (L' := [_, _, _, _, _, _, _]) dX8_nearest_31 (by decide) rfl rfl ?_
      have loop : ∀ (m i : Nat) (nr lt x : Int32) (z : Option Value), i + m = cW c → x.toInt = (i : Int) → amin (nearOK (mi 174)) (nearOff (mi 174) a y) nI (-5, 100000000) i = (nr, lt) → V KX8_nearest 6 0 0 (eqQ (some (.int (sNear (mi 174) (cW c) p y 100000000))) n (mi) mr) 33 [some (.ref 173), some (.int p), some (.int y), some (.int nr), some (.int lt), some (.int x), z] [] n mi mr := by
        intro m
        induction m with
        | zero =>
          intro i nr lt x z him hx ha
          have hle : lt ≤ 100000000 := by
            have q := amin_le (ok := nearOK (mi 174)) (off := nearOff (mi 174) a y) (tag := nI) (a := (-5, 100000000)) (F := 100000000) (Int32.le_refl _) (k := i)
            rw [ha] at q
            exact q
          refine V_iload dX8_nearest_33 rfl ?_
          refine V_aload_n dX8_nearest_35 rfl ?_
          refine V_getr (b := 174) 8 1 dX8_nearest_36 (Or.inl lkX8_9) rfl rfl ⟨by omega, by omega⟩ (hR _ _ _ rfl) ?_
          refine V_bipush (v := 19) dX8_nearest_39 rfl ?_
          refine V_iald (len := 938) 19 dX8_nearest_41 rfl ⟨by omega, by omega⟩ (by decide) (by omega) ?_
          refine V_icmp_ge (tgt := 112) dX8_nearest_42 (by decide) (fun c42 => ?_) (fun c42 => absurd ((le_nat hW hx).mpr (by omega)) c42)
          refine V_iload_n dX8_nearest_112 rfl ?_
          refine V_iret dX8_nearest_113 rfl rfl ?_
          have hi : i = cW c := by omega
          subst hi
          refine ⟨?_, rfl, rfl, rfl⟩
          unfold sNear
          rw [if_pos (b01_n.mp c5), if_pos (b01_n.mp c17), nat_of_toInt ha1, ha]
        | succ m ih =>
          intro i nr lt x z him hx ha
          have hle : lt ≤ 100000000 := by
            have q := amin_le (ok := nearOK (mi 174)) (off := nearOff (mi 174) a y) (tag := nI) (a := (-5, 100000000)) (F := 100000000) (Int32.le_refl _) (k := i)
            rw [ha] at q
            exact q
          refine V_iload dX8_nearest_33 rfl ?_
          refine V_aload_n dX8_nearest_35 rfl ?_
          refine V_getr (b := 174) 8 1 dX8_nearest_36 (Or.inl lkX8_9) rfl rfl ⟨by omega, by omega⟩ (hR _ _ _ rfl) ?_
          refine V_bipush (v := 19) dX8_nearest_39 rfl ?_
          refine V_iald (len := 938) 19 dX8_nearest_41 rfl ⟨by omega, by omega⟩ (by decide) (by omega) ?_
          refine V_icmp_ge (tgt := 112) dX8_nearest_42 (by decide) (fun c42 => absurd ((le_nat hW hx).mp c42) (by omega)) (fun c42 => ?_)
          refine V_aload_n dX8_nearest_45 rfl ?_
          refine V_getr (b := 174) 8 1 dX8_nearest_46 (Or.inl lkX8_9) rfl rfl ⟨by omega, by omega⟩ (hR _ _ _ rfl) ?_
          refine V_bipush (v := 7) dX8_nearest_49 rfl ?_
          refine V_iload dX8_nearest_51 rfl ?_
          refine V_iadd dX8_nearest_53 ?_
          refine V_iald (len := 938) (7 + i) dX8_nearest_54 rfl ⟨by omega, by omega⟩ (ix_add (by decide) hx (by omega)) (by omega) ?_
          refine V_if_le (tgt := 72) dX8_nearest_55 (by decide) (fun c55 => ?_) (fun c55 => ?_)
          · refine V_ldc dX8_nearest_72 kX8_200 ?_
            refine V_istore (L' := [_, _, _, _, _, _, _]) dX8_nearest_74 (by decide) rfl rfl ?_
            refine V_iload dX8_nearest_76 rfl ?_
            refine V_iload dX8_nearest_78 rfl ?_
            refine V_icmp_ge (tgt := 88) dX8_nearest_80 (by decide) (fun c80 => ?_) (fun c80 => ?_)
            · refine V_iload_n dX8_nearest_88 rfl ?_
              refine V_istore_n (L' := [_, _, _, _, _, _, _]) dX8_nearest_89 (by decide) rfl rfl ?_
              refine V_iload dX8_nearest_90 rfl ?_
              refine V_iload dX8_nearest_92 rfl ?_
              refine V_icmp_ge (tgt := 102) dX8_nearest_94 (by decide) (fun c94 => ?_) (fun c94 => ?_)
              · refine V_iload dX8_nearest_102 rfl ?_
                refine V_istore (L' := [_, _, _, _, _, _, _]) dX8_nearest_104 (by decide) rfl rfl ?_
                refine V_iinc (v := _ + (1)) (L' := [_, _, _, _, _, _, _]) dX8_nearest_106 (by decide) rfl rfl rfl rfl ?_
                refine V_goto (tgt := 33) dX8_nearest_109 (by decide) ?_
                refine ih (i + 1) _ _ _ _ (by omega) (ix_add hx (by decide) (by omega)) ?_
                unfold amin
                rw [ha]
                by_cases hq : nearOK (mi 174) i = true ∧ nearOff (mi 174) a y i < lt
                · first
                  | (rw [if_pos hq, ← nI_of_toInt hx]; done)
                  | exact absurd (of_decide_eq_true hq.1) (Int32.not_lt.mpr c55)
                  | exact absurd hq.2 (Int32.not_lt.mpr c80)
                  | exact absurd (Int32.not_le.mp c80) (Int32.not_lt.mpr c94)
                  | exact absurd (Int32.not_le.mp c94) (Int32.not_lt.mpr c80)
                · first
                  | (rw [if_neg hq]; done)
                  | exact absurd (And.intro (decide_eq_true (Int32.not_le.mp c55)) (Int32.not_le.mp c80)) hq
                  | exact absurd hle c80
                  | exact absurd hle c94
                  | exact absurd (Int32.not_le.mp c80) (Int32.not_lt.mpr c94)
                  | exact absurd (Int32.not_le.mp c94) (Int32.not_lt.mpr c80)
              · refine V_iload dX8_nearest_97 rfl ?_
                refine V_goto (tgt := 104) dX8_nearest_99 (by decide) ?_
                refine V_istore (L' := [_, _, _, _, _, _, _]) dX8_nearest_104 (by decide) rfl rfl ?_
                refine V_iinc (v := _ + (1)) (L' := [_, _, _, _, _, _, _]) dX8_nearest_106 (by decide) rfl rfl rfl rfl ?_
                refine V_goto (tgt := 33) dX8_nearest_109 (by decide) ?_
                refine ih (i + 1) _ _ _ _ (by omega) (ix_add hx (by decide) (by omega)) ?_
                unfold amin
                rw [ha]
                by_cases hq : nearOK (mi 174) i = true ∧ nearOff (mi 174) a y i < lt
                · first
                  | (rw [if_pos hq, ← nI_of_toInt hx]; done)
                  | exact absurd (of_decide_eq_true hq.1) (Int32.not_lt.mpr c55)
                  | exact absurd hq.2 (Int32.not_lt.mpr c80)
                  | exact absurd (Int32.not_le.mp c80) (Int32.not_lt.mpr c94)
                  | exact absurd (Int32.not_le.mp c94) (Int32.not_lt.mpr c80)
                · first
                  | (rw [if_neg hq]; done)
                  | exact absurd (And.intro (decide_eq_true (Int32.not_le.mp c55)) (Int32.not_le.mp c80)) hq
                  | exact absurd hle c80
                  | exact absurd hle c94
                  | exact absurd (Int32.not_le.mp c80) (Int32.not_lt.mpr c94)
                  | exact absurd (Int32.not_le.mp c94) (Int32.not_lt.mpr c80)
            · refine V_iload dX8_nearest_83 rfl ?_
              refine V_goto (tgt := 89) dX8_nearest_85 (by decide) ?_
              refine V_istore_n (L' := [_, _, _, _, _, _, _]) dX8_nearest_89 (by decide) rfl rfl ?_
              refine V_iload dX8_nearest_90 rfl ?_
              refine V_iload dX8_nearest_92 rfl ?_
              refine V_icmp_ge (tgt := 102) dX8_nearest_94 (by decide) (fun c94 => ?_) (fun c94 => ?_)
              · refine V_iload dX8_nearest_102 rfl ?_
                refine V_istore (L' := [_, _, _, _, _, _, _]) dX8_nearest_104 (by decide) rfl rfl ?_
                refine V_iinc (v := _ + (1)) (L' := [_, _, _, _, _, _, _]) dX8_nearest_106 (by decide) rfl rfl rfl rfl ?_
                refine V_goto (tgt := 33) dX8_nearest_109 (by decide) ?_
                refine ih (i + 1) _ _ _ _ (by omega) (ix_add hx (by decide) (by omega)) ?_
                unfold amin
                rw [ha]
                by_cases hq : nearOK (mi 174) i = true ∧ nearOff (mi 174) a y i < lt
                · first
                  | (rw [if_pos hq, ← nI_of_toInt hx]; done)
                  | exact absurd (of_decide_eq_true hq.1) (Int32.not_lt.mpr c55)
                  | exact absurd hq.2 (Int32.not_lt.mpr c80)
                  | exact absurd (Int32.not_le.mp c80) (Int32.not_lt.mpr c94)
                  | exact absurd (Int32.not_le.mp c94) (Int32.not_lt.mpr c80)
                · first
                  | (rw [if_neg hq]; done)
                  | exact absurd (And.intro (decide_eq_true (Int32.not_le.mp c55)) (Int32.not_le.mp c80)) hq
                  | exact absurd hle c80
                  | exact absurd hle c94
                  | exact absurd (Int32.not_le.mp c80) (Int32.not_lt.mpr c94)
                  | exact absurd (Int32.not_le.mp c94) (Int32.not_lt.mpr c80)
              · refine V_iload dX8_nearest_97 rfl ?_
                refine V_goto (tgt := 104) dX8_nearest_99 (by decide) ?_
                refine V_istore (L' := [_, _, _, _, _, _, _]) dX8_nearest_104 (by decide) rfl rfl ?_
                refine V_iinc (v := _ + (1)) (L' := [_, _, _, _, _, _, _]) dX8_nearest_106 (by decide) rfl rfl rfl rfl ?_
                refine V_goto (tgt := 33) dX8_nearest_109 (by decide) ?_
                refine ih (i + 1) _ _ _ _ (by omega) (ix_add hx (by decide) (by omega)) ?_
                unfold amin
                rw [ha]
                by_cases hq : nearOK (mi 174) i = true ∧ nearOff (mi 174) a y i < lt
                · first
                  | (rw [if_pos hq, ← nI_of_toInt hx]; done)
                  | exact absurd (of_decide_eq_true hq.1) (Int32.not_lt.mpr c55)
                  | exact absurd hq.2 (Int32.not_lt.mpr c80)
                  | exact absurd (Int32.not_le.mp c80) (Int32.not_lt.mpr c94)
                  | exact absurd (Int32.not_le.mp c94) (Int32.not_lt.mpr c80)
                · first
                  | (rw [if_neg hq]; done)
                  | exact absurd (And.intro (decide_eq_true (Int32.not_le.mp c55)) (Int32.not_le.mp c80)) hq
                  | exact absurd hle c80
                  | exact absurd hle c94
                  | exact absurd (Int32.not_le.mp c80) (Int32.not_lt.mpr c94)
                  | exact absurd (Int32.not_le.mp c94) (Int32.not_lt.mpr c80)
          · refine V_aload_n dX8_nearest_58 rfl ?_
            refine V_iload_n dX8_nearest_59 rfl ?_
            refine V_iload dX8_nearest_60 rfl ?_
            refine V_callV (ci := 8) (qX8_ageBy _ _ _ hR hn _ _ a ha1 (by omega) (Or.inr ⟨i, hx, by omega⟩) hBD.okS.2.1) dX8_nearest_62 mlX8_146 mtX8_ageBy ivX8_ageBy rfl rfl ⟨by omega, by omega⟩ (by decide) rfl rfl (by decide) (Nat.le_of_ble_eq_true rfl) rfl rfl ?_
            rintro _ _ _ _ ⟨rfl, rfl, rfl, rfl⟩
            refine V_iload_n dX8_nearest_65 rfl ?_
            refine V_callS (qX8_apart _ _ _ hR hn _ _) dX8_nearest_66 mlX8_201 mtX8_apart smX8_apart rfl rfl (by decide) (Nat.le_of_ble_eq_true rfl) rfl rfl ?_
            rintro _ _ _ _ ⟨rfl, rfl, rfl, rfl⟩
            have hoff : (if sAge (mi 174) a x < y then y - sAge (mi 174) a x else sAge (mi 174) a x - y) = nearOff (mi 174) a y i := by rw [nI_of_toInt hx]; rfl
            rw [hoff]
            refine V_goto (tgt := 74) dX8_nearest_69 (by decide) ?_
            refine V_istore (L' := [_, _, _, _, _, _, _]) dX8_nearest_74 (by decide) rfl rfl ?_
            refine V_iload dX8_nearest_76 rfl ?_
            refine V_iload dX8_nearest_78 rfl ?_
            refine V_icmp_ge (tgt := 88) dX8_nearest_80 (by decide) (fun c80 => ?_) (fun c80 => ?_)
            · refine V_iload_n dX8_nearest_88 rfl ?_
              refine V_istore_n (L' := [_, _, _, _, _, _, _]) dX8_nearest_89 (by decide) rfl rfl ?_
              refine V_iload dX8_nearest_90 rfl ?_
              refine V_iload dX8_nearest_92 rfl ?_
              refine V_icmp_ge (tgt := 102) dX8_nearest_94 (by decide) (fun c94 => ?_) (fun c94 => ?_)
              · refine V_iload dX8_nearest_102 rfl ?_
                refine V_istore (L' := [_, _, _, _, _, _, _]) dX8_nearest_104 (by decide) rfl rfl ?_
                refine V_iinc (v := _ + (1)) (L' := [_, _, _, _, _, _, _]) dX8_nearest_106 (by decide) rfl rfl rfl rfl ?_
                refine V_goto (tgt := 33) dX8_nearest_109 (by decide) ?_
                refine ih (i + 1) _ _ _ _ (by omega) (ix_add hx (by decide) (by omega)) ?_
                unfold amin
                rw [ha]
                by_cases hq : nearOK (mi 174) i = true ∧ nearOff (mi 174) a y i < lt
                · first
                  | (rw [if_pos hq, ← nI_of_toInt hx]; done)
                  | exact absurd (of_decide_eq_true hq.1) (Int32.not_lt.mpr c55)
                  | exact absurd hq.2 (Int32.not_lt.mpr c80)
                  | exact absurd (Int32.not_le.mp c80) (Int32.not_lt.mpr c94)
                  | exact absurd (Int32.not_le.mp c94) (Int32.not_lt.mpr c80)
                · first
                  | (rw [if_neg hq]; done)
                  | exact absurd (And.intro (decide_eq_true (Int32.not_le.mp c55)) (Int32.not_le.mp c80)) hq
                  | exact absurd hle c80
                  | exact absurd hle c94
                  | exact absurd (Int32.not_le.mp c80) (Int32.not_lt.mpr c94)
                  | exact absurd (Int32.not_le.mp c94) (Int32.not_lt.mpr c80)
              · refine V_iload dX8_nearest_97 rfl ?_
                refine V_goto (tgt := 104) dX8_nearest_99 (by decide) ?_
                refine V_istore (L' := [_, _, _, _, _, _, _]) dX8_nearest_104 (by decide) rfl rfl ?_
                refine V_iinc (v := _ + (1)) (L' := [_, _, _, _, _, _, _]) dX8_nearest_106 (by decide) rfl rfl rfl rfl ?_
                refine V_goto (tgt := 33) dX8_nearest_109 (by decide) ?_
                refine ih (i + 1) _ _ _ _ (by omega) (ix_add hx (by decide) (by omega)) ?_
                unfold amin
                rw [ha]
                by_cases hq : nearOK (mi 174) i = true ∧ nearOff (mi 174) a y i < lt
                · first
                  | (rw [if_pos hq, ← nI_of_toInt hx]; done)
                  | exact absurd (of_decide_eq_true hq.1) (Int32.not_lt.mpr c55)
                  | exact absurd hq.2 (Int32.not_lt.mpr c80)
                  | exact absurd (Int32.not_le.mp c80) (Int32.not_lt.mpr c94)
                  | exact absurd (Int32.not_le.mp c94) (Int32.not_lt.mpr c80)
                · first
                  | (rw [if_neg hq]; done)
                  | exact absurd (And.intro (decide_eq_true (Int32.not_le.mp c55)) (Int32.not_le.mp c80)) hq
                  | exact absurd hle c80
                  | exact absurd hle c94
                  | exact absurd (Int32.not_le.mp c80) (Int32.not_lt.mpr c94)
                  | exact absurd (Int32.not_le.mp c94) (Int32.not_lt.mpr c80)
            · refine V_iload dX8_nearest_83 rfl ?_
              refine V_goto (tgt := 89) dX8_nearest_85 (by decide) ?_
              refine V_istore_n (L' := [_, _, _, _, _, _, _]) dX8_nearest_89 (by decide) rfl rfl ?_
              refine V_iload dX8_nearest_90 rfl ?_
              refine V_iload dX8_nearest_92 rfl ?_
              refine V_icmp_ge (tgt := 102) dX8_nearest_94 (by decide) (fun c94 => ?_) (fun c94 => ?_)
              · refine V_iload dX8_nearest_102 rfl ?_
                refine V_istore (L' := [_, _, _, _, _, _, _]) dX8_nearest_104 (by decide) rfl rfl ?_
                refine V_iinc (v := _ + (1)) (L' := [_, _, _, _, _, _, _]) dX8_nearest_106 (by decide) rfl rfl rfl rfl ?_
                refine V_goto (tgt := 33) dX8_nearest_109 (by decide) ?_
                refine ih (i + 1) _ _ _ _ (by omega) (ix_add hx (by decide) (by omega)) ?_
                unfold amin
                rw [ha]
                by_cases hq : nearOK (mi 174) i = true ∧ nearOff (mi 174) a y i < lt
                · first
                  | (rw [if_pos hq, ← nI_of_toInt hx]; done)
                  | exact absurd (of_decide_eq_true hq.1) (Int32.not_lt.mpr c55)
                  | exact absurd hq.2 (Int32.not_lt.mpr c80)
                  | exact absurd (Int32.not_le.mp c80) (Int32.not_lt.mpr c94)
                  | exact absurd (Int32.not_le.mp c94) (Int32.not_lt.mpr c80)
                · first
                  | (rw [if_neg hq]; done)
                  | exact absurd (And.intro (decide_eq_true (Int32.not_le.mp c55)) (Int32.not_le.mp c80)) hq
                  | exact absurd hle c80
                  | exact absurd hle c94
                  | exact absurd (Int32.not_le.mp c80) (Int32.not_lt.mpr c94)
                  | exact absurd (Int32.not_le.mp c94) (Int32.not_lt.mpr c80)
              · refine V_iload dX8_nearest_97 rfl ?_
                refine V_goto (tgt := 104) dX8_nearest_99 (by decide) ?_
                refine V_istore (L' := [_, _, _, _, _, _, _]) dX8_nearest_104 (by decide) rfl rfl ?_
                refine V_iinc (v := _ + (1)) (L' := [_, _, _, _, _, _, _]) dX8_nearest_106 (by decide) rfl rfl rfl rfl ?_
                refine V_goto (tgt := 33) dX8_nearest_109 (by decide) ?_
                refine ih (i + 1) _ _ _ _ (by omega) (ix_add hx (by decide) (by omega)) ?_
                unfold amin
                rw [ha]
                by_cases hq : nearOK (mi 174) i = true ∧ nearOff (mi 174) a y i < lt
                · first
                  | (rw [if_pos hq, ← nI_of_toInt hx]; done)
                  | exact absurd (of_decide_eq_true hq.1) (Int32.not_lt.mpr c55)
                  | exact absurd hq.2 (Int32.not_lt.mpr c80)
                  | exact absurd (Int32.not_le.mp c80) (Int32.not_lt.mpr c94)
                  | exact absurd (Int32.not_le.mp c94) (Int32.not_lt.mpr c80)
                · first
                  | (rw [if_neg hq]; done)
                  | exact absurd (And.intro (decide_eq_true (Int32.not_le.mp c55)) (Int32.not_le.mp c80)) hq
                  | exact absurd hle c80
                  | exact absurd hle c94
                  | exact absurd (Int32.not_le.mp c80) (Int32.not_lt.mpr c94)
                  | exact absurd (Int32.not_le.mp c94) (Int32.not_lt.mpr c80)
      exact loop (cW c) 0 _ _ _ _ (by omega) (by decide) rfl
    · refine V_bipush (v := -2) dX8_nearest_20 rfl ?_
      refine V_iret dX8_nearest_22 rfl rfl ?_
      clear hR
      (try simp only [b01_0, b01_n] at *)
      refine ⟨?_, rfl, ?_, rfl⟩
      all_goals (simp only [sNear]; repeat' split)
      all_goals first | rfl | (exfalso; simp only [Int32.lt_iff_toInt_lt, Int32.le_iff_toInt_le, ← Int32.toInt_inj, Int32.reduceToInt] at *; omega)
  · refine V_iconst (v := -1) dX8_nearest_8 rfl ?_
    refine V_iret dX8_nearest_9 rfl rfl ?_
    clear hR
    (try simp only [b01_0, b01_n] at *)
    refine ⟨?_, rfl, ?_, rfl⟩
    all_goals (simp only [sNear]; repeat' split)
    all_goals first | rfl | (exfalso; simp only [Int32.lt_iff_toInt_lt, Int32.le_iff_toInt_le, ← Int32.toInt_inj, Int32.reduceToInt] at *; omega)
