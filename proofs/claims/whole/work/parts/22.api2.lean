abbrev isUnd (K k : Int32) : Prop := k = 0 ∨ k = K ∨ (0 < k ∧ k < 4 ∧ K = k + 3)
def sAs (S : Nat → Int32) (p k : Int32) : Int32 := if (0 ≤ p ∧ p < S 12) ∧ 0 ≤ k ∧ k < 7 then (if isUnd (S (20 + p.toNatClampNeg)) k then S (26 + p.toNatClampNeg) else -6) else -1
theorem und_step : ∀ (a : Fin 7) (b : Fin 7), b.1 < a.1 → (isUnd (nI a.1) (nI b.1) ↔ isUnd (gAB.getD a.1 0) (nI b.1)) ∧ ∃ c : Fin 7, gAB.getD a.1 0 = nI c.1 ∧ c.1 < a.1 := by decide
theorem und_stop : ∀ (a : Fin 7) (b : Fin 7), a.1 ≤ b.1 → (isUnd (nI a.1) (nI b.1) ↔ nI a.1 = nI b.1) := by decide
theorem idx7 {x : Int32} (h : 0 ≤ x ∧ x < 7) : ∃ k : Nat, x.toInt = (k : Int) ∧ k < 7 := by
  simp only [Int32.le_iff_toInt_le, Int32.lt_iff_toInt_lt, Int32.reduceToInt] at h
  exact ⟨x.toInt.toNat, by omega, by omega⟩
set_option maxRecDepth 4000 in
theorem qX7_as (n : Nat) (mi : MI) (mr : MR) (c : CT) (I : INV n mi mr c) (p k : Int32) : Ct KX7_as 3 0 0 [.ref 32, .int p, .int k] n mi mr (eqQ (some (.int (sAs (mi 174) p k))) n (mi) mr) := by
  refine Ct.of2 [some (.ref 32), some (.int p), some (.int k), none, none] (by decide +kernel) (Nat.le_of_ble_eq_true rfl) rfl ?_
  obtain ⟨hR, hn, ⟨⟨hN, hN6⟩, ⟨hW, hW5⟩, ⟨hL, hL5⟩, ⟨hT, hT100⟩, ⟨hS, hS5⟩, ⟨hP, hP8⟩, ⟨hBk, hB8⟩⟩, hrw⟩ := I.facts
  have hBD := I.2.2.1
  obtain ⟨⟨r1, r2, r3, r4, r5⟩, hper, hvin, htape, hseen, hnight, hbook⟩ := id hrw
  have hcN : nat (mi 40 1) (cN c) := by rw [r2]; exact hN
  have hcW : nat (mi 40 2) (cW c) := by rw [r3]; exact hW
  clear I
  refine V_aload_n dX7_as_0 rfl ?_
  refine V_iload_n dX7_as_1 rfl ?_
  refine V_callV (ci := 7) (qX7_isOne _ _ _ hR hn _) dX7_as_2 mlX7_105 mtX7_isOne ivX7_isOne rfl rfl ⟨by omega, by omega⟩ (by decide) rfl rfl (by decide) (Nat.le_of_ble_eq_true rfl) rfl rfl ?_
  rintro _ _ _ _ ⟨rfl, rfl, rfl, rfl⟩
  refine V_if_eq (tgt := 15) dX7_as_5 (by decide) (fun c5 => ?_) (fun c5 => ?_)
  · refine V_iconst (v := -1) dX7_as_15 rfl ?_
    refine V_iret dX7_as_16 rfl rfl ?_
    clear hR
    (try simp only [b01_0, b01_n] at *)
    refine ⟨?_, rfl, ?_, rfl⟩
    all_goals (simp only [sAs]; (try simp only [r2]); repeat' split)
    all_goals first | rfl | (exfalso; simp only [Int32.lt_iff_toInt_lt, Int32.le_iff_toInt_le, ← Int32.toInt_inj, Int32.reduceToInt] at *; omega)
  · refine V_iload_n dX7_as_8 rfl ?_
    refine V_callS (qX7_isKind _ _ _ hR hn _) dX7_as_9 mlX7_75 mtX7_isKind smX7_isKind rfl rfl (by decide) (Nat.le_of_ble_eq_true rfl) rfl rfl ?_
    rintro _ _ _ _ ⟨rfl, rfl, rfl, rfl⟩
    refine V_if_ne (tgt := 17) dX7_as_12 (by decide) (fun c12 => ?_) (fun c12 => ?_)
    · obtain ⟨a, ha1, ha2⟩ := idxC c5 hcN
      obtain ⟨q1, q2, q3, q4⟩ := hrw.hasP ha2
      rw [show (40 + 18 : Nat) = 58 from rfl] at q1 q2 q3 q4
      obtain ⟨j, hj1, hj2⟩ := idx7 (b01_n.mp c12)
      obtain ⟨b, hb1, hb2⟩ := (hBD.2.2.2.1 a ha2).1
      refine V_aload_n dX7_as_17 rfl ?_
      refine V_getr (b := 40) 7 1 dX7_as_18 (Or.inl lkX7_30) rfl rfl ⟨by omega, by omega⟩ (hR _ _ _ rfl) ?_
      refine V_getr (b := 41) 6 6 dX7_as_21 lnX7_85 rfl rfl ⟨by omega, by omega⟩ (hR _ _ _ rfl) ?_
      refine V_iload_n dX7_as_24 rfl ?_
      refine V_aald (len := 6) (b := (58 + 2 * a)) 5 a dX7_as_25 rfl rfl ⟨by omega, by omega⟩ ha1 (by omega) (hR _ _ _ (rFolk (Or.inl rfl) (by omega))) ?_
      refine V_geti 1 1 dX7_as_26 lnX7_108 rfl (sP (pOf (Or.inl rfl) (by omega))) ⟨by omega, by omega⟩ ?_
      refine V_istore_n (L' := [_, _, _, _, _]) dX7_as_29 (by decide) rfl rfl ?_
      refine V_iconst (v := 0) dX7_as_30 rfl ?_
      refine V_istore (L' := [_, _, _, _, _]) dX7_as_31 (by decide) rfl rfl ?_
      have loop : ∀ (m i : Nat) (x y : Int32) (b : Nat), i + m = 7 → x.toInt = (i : Int) → y.toInt = (b : Int) → b + i ≤ 6 → (isUnd y k ↔ isUnd (mi 174 (20 + a)) k) → V KX7_as 3 0 0 (eqQ (some (.int (sAs (mi 174) p k))) n (mi) mr) 33 [some (.ref 32), some (.int p), some (.int k), some (.int y), some (.int x)] [] n mi mr := by
        intro m
        induction m with
        | zero =>
          intro i x y b him hx hy hbi hu
          refine V_iload dX7_as_33 rfl ?_
          refine V_gets (v := .ref 1) dX7_as_35 lsX7_260 (fun _ _ _ h => h.2.1.1) ?_
          refine V_alenS (len := 7) (v := 7) dX7_as_38 (by decide) (fun _ _ _ h => h.2.1.2) rfl ?_
          refine V_icmp_ge (tgt := 59) dX7_as_39 (by decide) (fun c39 => ?_) (fun c39 => absurd hbi (by omega))
          exact absurd hbi (by omega)
        | succ m ih =>
          intro i x y b him hx hy hbi hu
          refine V_iload dX7_as_33 rfl ?_
          refine V_gets (v := .ref 1) dX7_as_35 lsX7_260 (fun _ _ _ h => h.2.1.1) ?_
          refine V_alenS (len := 7) (v := 7) dX7_as_38 (by decide) (fun _ _ _ h => h.2.1.2) rfl ?_
          refine V_icmp_ge (tgt := 59) dX7_as_39 (by decide) (fun c39 => absurd ((le_nat (x := 7) (a := 7) rfl hx).mp c39) (by omega)) (fun c39 => ?_)
          refine V_iload_n dX7_as_42 rfl ?_
          refine V_iload_n dX7_as_43 rfl ?_
          refine V_icmp_le (tgt := 59) dX7_as_44 (by decide) (fun c44 => ?_) (fun c44 => ?_)
          · have hbj : b ≤ j := by
              have q := c44
              rw [Int32.le_iff_toInt_le] at q
              omega
            have hst := und_stop ⟨b, by omega⟩ ⟨j, hj2⟩ hbj
            simp only [← nI_of_toInt hy, ← nI_of_toInt hj1] at hst
            refine V_iload_n dX7_as_59 rfl ?_
            refine V_iload_n dX7_as_60 rfl ?_
            refine V_icmp_ne (tgt := 79) dX7_as_61 (by decide) (fun c61 => ?_) (fun c61 => ?_)
            · refine V_bipush (v := -6) dX7_as_79 rfl ?_
              refine V_iret dX7_as_81 rfl rfl ?_
              refine ⟨?_, rfl, rfl, rfl⟩
              unfold sAs
              rw [if_pos ⟨by rw [← r2]; exact b01_n.mp c5, b01_n.mp c12⟩, nat_of_toInt ha1]
              first
                | rw [if_pos (hu.mp (hst.mpr c61)), q2]
                | rw [if_neg (fun h => c61 (hst.mp (hu.mpr h)))]
            · refine V_aload_n dX7_as_64 rfl ?_
              refine V_getr (b := 40) 7 1 dX7_as_65 (Or.inl lkX7_30) rfl rfl ⟨by omega, by omega⟩ (hR _ _ _ rfl) ?_
              refine V_getr (b := 41) 6 6 dX7_as_68 lnX7_85 rfl rfl ⟨by omega, by omega⟩ (hR _ _ _ rfl) ?_
              refine V_iload_n dX7_as_71 rfl ?_
              refine V_aald (len := 6) (b := (58 + 2 * a)) 5 a dX7_as_72 rfl rfl ⟨by omega, by omega⟩ ha1 (by omega) (hR _ _ _ (rFolk (Or.inl rfl) (by omega))) ?_
              refine V_geti 1 2 dX7_as_73 lnX7_111 rfl (sP (pOf (Or.inl rfl) (by omega))) ⟨by omega, by omega⟩ ?_
              refine V_goto (tgt := 81) dX7_as_76 (by decide) ?_
              refine V_iret dX7_as_81 rfl rfl ?_
              refine ⟨?_, rfl, rfl, rfl⟩
              unfold sAs
              rw [if_pos ⟨by rw [← r2]; exact b01_n.mp c5, b01_n.mp c12⟩, nat_of_toInt ha1]
              first
                | rw [if_pos (hu.mp (hst.mpr c61)), q2]
                | rw [if_neg (fun h => c61 (hst.mp (hu.mpr h)))]
          · refine V_gets (v := .ref 1) dX7_as_47 lsX7_260 (fun _ _ _ h => h.2.1.1) ?_
            refine V_iload_n dX7_as_50 rfl ?_
            refine V_ialdO (len := 7) b dX7_as_51 (by decide) (fun _ _ _ h => h.2.1.2) hy (by omega) ?_
            refine V_istore_n (L' := [_, _, _, _, _]) dX7_as_52 (by decide) rfl rfl ?_
            refine V_iinc (v := _ + (1)) (L' := [_, _, _, _, _]) dX7_as_53 (by decide) rfl rfl rfl rfl ?_
            refine V_goto (tgt := 33) dX7_as_56 (by decide) ?_
            have hjb : j < b := by
              have q := c44
              rw [Int32.not_le, Int32.lt_iff_toInt_lt] at q
              omega
            obtain ⟨s1, s2, s3, s4⟩ := und_step ⟨b, by omega⟩ ⟨j, hj2⟩ hjb
            simp only [← nI_of_toInt hy, ← nI_of_toInt hj1] at s1 s3
            have e9 : (fun j => gAB.getD j 0) b = nI s2.1 := s3
            have s5 : s2.1 < b := s4
            refine ih (i + 1) _ _ s2.1 (by omega) (ix_add hx (by decide) (by omega)) (by rw [s3]; exact nI_toInt (by omega)) (by omega) (s1.symm.trans hu)
      exact loop 7 0 _ _ b (by omega) (by decide) (by rw [q1]; exact hb1) (by omega) (by rw [q1])
    · refine V_iconst (v := -1) dX7_as_15 rfl ?_
      refine V_iret dX7_as_16 rfl rfl ?_
      clear hR
      (try simp only [b01_0, b01_n] at *)
      refine ⟨?_, rfl, ?_, rfl⟩
      all_goals (simp only [sAs]; (try simp only [r2]); repeat' split)
      all_goals first | rfl | (exfalso; simp only [Int32.lt_iff_toInt_lt, Int32.le_iff_toInt_le, ← Int32.toInt_inj, Int32.reduceToInt] at *; omega)
set_option maxRecDepth 4000 in
theorem qX8_isUnder (n : Nat) (mi : MI) (mr : MR) (x y : Int32)  : Ct KX8_isUnder 1 0 0 [.int x, .int y] n mi mr (eqQ (some (.int (b01 (isUnd x y)))) n mi mr) := by
  refine Ct.of2 [some (.int x), some (.int y)] (by decide +kernel) (Nat.le_of_ble_eq_true rfl) rfl ?_
  refine V_iload_n dX8_isUnder_0 rfl ?_
  refine V_if_eq (tgt := 25) dX8_isUnder_1 (by decide) (fun c1 => ?_) (fun c1 => ?_)
  · refine V_iconst (v := 1) dX8_isUnder_25 rfl ?_
    refine V_goto (tgt := 30) dX8_isUnder_26 (by decide) ?_
    refine V_iret dX8_isUnder_30 rfl rfl ?_
    refine ⟨?_, rfl, rfl, rfl⟩
    by_cases hh : isUnd x y
    · first
      | (rw [b01_t hh]; done)
      | (exfalso
         unfold isUnd at hh
         simp only [← Int32.not_le] at hh
         rcases hh with h | h | h <;> first | contradiction | exact h.1 c10 | exact h.2.1 c15 | exact c22 h.2.2)
    · first
      | (rw [b01_f hh]; done)
      | (exfalso
         unfold isUnd at hh
         simp only [← Int32.not_le] at hh
         first | exact hh (Or.inl c1) | exact hh (Or.inr (Or.inl c6)) | exact hh (Or.inr (Or.inr (And.intro c10 (And.intro c15 c22)))))
  · refine V_iload_n dX8_isUnder_4 rfl ?_
    refine V_iload_n dX8_isUnder_5 rfl ?_
    refine V_icmp_eq (tgt := 25) dX8_isUnder_6 (by decide) (fun c6 => ?_) (fun c6 => ?_)
    · refine V_iconst (v := 1) dX8_isUnder_25 rfl ?_
      refine V_goto (tgt := 30) dX8_isUnder_26 (by decide) ?_
      refine V_iret dX8_isUnder_30 rfl rfl ?_
      refine ⟨?_, rfl, rfl, rfl⟩
      by_cases hh : isUnd x y
      · first
        | (rw [b01_t hh]; done)
        | (exfalso
           unfold isUnd at hh
           simp only [← Int32.not_le] at hh
           rcases hh with h | h | h <;> first | contradiction | exact h.1 c10 | exact h.2.1 c15 | exact c22 h.2.2)
      · first
        | (rw [b01_f hh]; done)
        | (exfalso
           unfold isUnd at hh
           simp only [← Int32.not_le] at hh
           first | exact hh (Or.inl c1) | exact hh (Or.inr (Or.inl c6)) | exact hh (Or.inr (Or.inr (And.intro c10 (And.intro c15 c22)))))
    · refine V_iload_n dX8_isUnder_9 rfl ?_
      refine V_if_le (tgt := 29) dX8_isUnder_10 (by decide) (fun c10 => ?_) (fun c10 => ?_)
      · refine V_iconst (v := 0) dX8_isUnder_29 rfl ?_
        refine V_iret dX8_isUnder_30 rfl rfl ?_
        refine ⟨?_, rfl, rfl, rfl⟩
        by_cases hh : isUnd x y
        · first
          | (rw [b01_t hh]; done)
          | (exfalso
             unfold isUnd at hh
             simp only [← Int32.not_le] at hh
             rcases hh with h | h | h <;> first | contradiction | exact h.1 c10 | exact h.2.1 c15 | exact c22 h.2.2)
        · first
          | (rw [b01_f hh]; done)
          | (exfalso
             unfold isUnd at hh
             simp only [← Int32.not_le] at hh
             first | exact hh (Or.inl c1) | exact hh (Or.inr (Or.inl c6)) | exact hh (Or.inr (Or.inr (And.intro c10 (And.intro c15 c22)))))
      · refine V_iload_n dX8_isUnder_13 rfl ?_
        refine V_iconst (v := 4) dX8_isUnder_14 rfl ?_
        refine V_icmp_ge (tgt := 29) dX8_isUnder_15 (by decide) (fun c15 => ?_) (fun c15 => ?_)
        · refine V_iconst (v := 0) dX8_isUnder_29 rfl ?_
          refine V_iret dX8_isUnder_30 rfl rfl ?_
          refine ⟨?_, rfl, rfl, rfl⟩
          by_cases hh : isUnd x y
          · first
            | (rw [b01_t hh]; done)
            | (exfalso
               unfold isUnd at hh
               simp only [← Int32.not_le] at hh
               rcases hh with h | h | h <;> first | contradiction | exact h.1 c10 | exact h.2.1 c15 | exact c22 h.2.2)
          · first
            | (rw [b01_f hh]; done)
            | (exfalso
               unfold isUnd at hh
               simp only [← Int32.not_le] at hh
               first | exact hh (Or.inl c1) | exact hh (Or.inr (Or.inl c6)) | exact hh (Or.inr (Or.inr (And.intro c10 (And.intro c15 c22)))))
        · refine V_iload_n dX8_isUnder_18 rfl ?_
          refine V_iload_n dX8_isUnder_19 rfl ?_
          refine V_iconst (v := 3) dX8_isUnder_20 rfl ?_
          refine V_iadd dX8_isUnder_21 ?_
          refine V_icmp_ne (tgt := 29) dX8_isUnder_22 (by decide) (fun c22 => ?_) (fun c22 => ?_)
          · refine V_iconst (v := 0) dX8_isUnder_29 rfl ?_
            refine V_iret dX8_isUnder_30 rfl rfl ?_
            refine ⟨?_, rfl, rfl, rfl⟩
            by_cases hh : isUnd x y
            · first
              | (rw [b01_t hh]; done)
              | (exfalso
                 unfold isUnd at hh
                 simp only [← Int32.not_le] at hh
                 rcases hh with h | h | h <;> first | contradiction | exact h.1 c10 | exact h.2.1 c15 | exact c22 h.2.2)
            · first
              | (rw [b01_f hh]; done)
              | (exfalso
                 unfold isUnd at hh
                 simp only [← Int32.not_le] at hh
                 first | exact hh (Or.inl c1) | exact hh (Or.inr (Or.inl c6)) | exact hh (Or.inr (Or.inr (And.intro c10 (And.intro c15 c22)))))
          · refine V_iconst (v := 1) dX8_isUnder_25 rfl ?_
            refine V_goto (tgt := 30) dX8_isUnder_26 (by decide) ?_
            refine V_iret dX8_isUnder_30 rfl rfl ?_
            refine ⟨?_, rfl, rfl, rfl⟩
            by_cases hh : isUnd x y
            · first
              | (rw [b01_t hh]; done)
              | (exfalso
                 unfold isUnd at hh
                 simp only [← Int32.not_le] at hh
                 rcases hh with h | h | h <;> first | contradiction | exact h.1 c10 | exact h.2.1 c15 | exact c22 h.2.2)
            · first
              | (rw [b01_f hh]; done)
              | (exfalso
                 unfold isUnd at hh
                 simp only [← Int32.not_le] at hh
                 first | exact hh (Or.inl c1) | exact hh (Or.inr (Or.inl c6)) | exact hh (Or.inr (Or.inr (And.intro c10 (And.intro c15 c22)))))
set_option maxRecDepth 4000 in
theorem qX8_as (n : Nat) (mi : MI) (mr : MR) (c : CT) (hR : RF mr) (hn : 186 ≤ n) (hBD : BD (mi 174) c) (p k : Int32) : Ct KX8_as 3 0 0 [.ref 173, .int p, .int k] n mi mr (eqQ (some (.int (sAs (mi 174) p k))) n (mi) mr) := by
  refine Ct.of2 [some (.ref 173), some (.int p), some (.int k)] (by decide +kernel) (Nat.le_of_ble_eq_true rfl) rfl ?_
  obtain ⟨⟨hN, hN6⟩, ⟨hW, hW5⟩, ⟨hL, hL5⟩, ⟨hT, hT100⟩, ⟨hS, hS5⟩, ⟨hP, hP8⟩, ⟨hBk, hB8⟩⟩ := hBD.1
  refine V_aload_n dX8_as_0 rfl ?_
  refine V_iload_n dX8_as_1 rfl ?_
  refine V_callV (ci := 8) (qX8_isPerson _ _ _ hR hn _) dX8_as_2 mlX8_169 mtX8_isPerson ivX8_isPerson rfl rfl ⟨by omega, by omega⟩ (by decide) rfl rfl (by decide) (Nat.le_of_ble_eq_true rfl) rfl rfl ?_
  rintro _ _ _ _ ⟨rfl, rfl, rfl, rfl⟩
  simp only [leSub hN (by omega)]
  refine V_if_eq (tgt := 18) dX8_as_5 (by decide) (fun c5 => ?_) (fun c5 => ?_)
  · refine V_iconst (v := -1) dX8_as_18 rfl ?_
    refine V_iret dX8_as_19 rfl rfl ?_
    clear hR
    (try simp only [b01_0, b01_n] at *)
    refine ⟨?_, rfl, ?_, rfl⟩
    all_goals (simp only [sAs]; repeat' split)
    all_goals first | rfl | (exfalso; simp only [Int32.lt_iff_toInt_lt, Int32.le_iff_toInt_le, ← Int32.toInt_inj, Int32.reduceToInt] at *; omega)
  · refine V_iload_n dX8_as_8 rfl ?_
    refine V_iconst (v := 0) dX8_as_9 rfl ?_
    refine V_bipush (v := 6) dX8_as_10 rfl ?_
    refine V_callS (qX8_in _ _ _ _ _ _) dX8_as_12 mlX8_53 mtX8_in smX8_in rfl rfl (by decide) (Nat.le_of_ble_eq_true rfl) rfl rfl ?_
    rintro _ _ _ _ ⟨rfl, rfl, rfl, rfl⟩
    refine V_if_ne (tgt := 20) dX8_as_15 (by decide) (fun c15 => ?_) (fun c15 => ?_)
    · obtain ⟨a, ha1, ha2⟩ := idxC c5 hN
      refine V_aload_n dX8_as_20 rfl ?_
      refine V_getr (b := 174) 8 1 dX8_as_21 (Or.inl lkX8_9) rfl rfl ⟨by omega, by omega⟩ (hR _ _ _ rfl) ?_
      refine V_bipush (v := 20) dX8_as_24 rfl ?_
      refine V_iload_n dX8_as_26 rfl ?_
      refine V_iadd dX8_as_27 ?_
      refine V_iald (len := 938) (20 + a) dX8_as_28 rfl ⟨by omega, by omega⟩ (ix_add (by decide) ha1 (by omega)) (by omega) ?_
      refine V_iload_n dX8_as_29 rfl ?_
      refine V_callS (qX8_isUnder _ _ _ _ _) dX8_as_30 mlX8_283 mtX8_isUnder smX8_isUnder rfl rfl (by decide) (Nat.le_of_ble_eq_true rfl) rfl rfl ?_
      rintro _ _ _ _ ⟨rfl, rfl, rfl, rfl⟩
      refine V_if_eq (tgt := 48) dX8_as_33 (by decide) (fun c33 => ?_) (fun c33 => ?_)
      · refine V_bipush (v := -6) dX8_as_48 rfl ?_
        refine V_iret dX8_as_50 rfl rfl ?_
        refine ⟨?_, rfl, rfl, rfl⟩
        unfold sAs
        rw [if_pos ⟨b01_n.mp c5, (b01_n.mp c15).1, Int32.lt_iff_toInt_lt.mpr (by have q := (b01_n.mp c15).2; rw [Int32.le_iff_toInt_le] at q; simp only [Int32.reduceToInt] at q ⊢; omega)⟩, nat_of_toInt ha1]
        first
          | rw [if_pos (b01_n.mp c33)]
          | rw [if_neg (b01_0.mp c33)]
      · refine V_aload_n dX8_as_36 rfl ?_
        refine V_getr (b := 174) 8 1 dX8_as_37 (Or.inl lkX8_9) rfl rfl ⟨by omega, by omega⟩ (hR _ _ _ rfl) ?_
        refine V_bipush (v := 26) dX8_as_40 rfl ?_
        refine V_iload_n dX8_as_42 rfl ?_
        refine V_iadd dX8_as_43 ?_
        refine V_iald (len := 938) (26 + a) dX8_as_44 rfl ⟨by omega, by omega⟩ (ix_add (by decide) ha1 (by omega)) (by omega) ?_
        refine V_goto (tgt := 50) dX8_as_45 (by decide) ?_
        refine V_iret dX8_as_50 rfl rfl ?_
        refine ⟨?_, rfl, rfl, rfl⟩
        unfold sAs
        rw [if_pos ⟨b01_n.mp c5, (b01_n.mp c15).1, Int32.lt_iff_toInt_lt.mpr (by have q := (b01_n.mp c15).2; rw [Int32.le_iff_toInt_le] at q; simp only [Int32.reduceToInt] at q ⊢; omega)⟩, nat_of_toInt ha1]
        first
          | rw [if_pos (b01_n.mp c33)]
          | rw [if_neg (b01_0.mp c33)]
    · refine V_iconst (v := -1) dX8_as_18 rfl ?_
      refine V_iret dX8_as_19 rfl rfl ?_
      clear hR
      (try simp only [b01_0, b01_n] at *)
      refine ⟨?_, rfl, ?_, rfl⟩
      all_goals (simp only [sAs]; repeat' split)
      all_goals first | rfl | (exfalso; simp only [Int32.lt_iff_toInt_lt, Int32.le_iff_toInt_le, ← Int32.toInt_inj, Int32.reduceToInt] at *; omega)
