abbrev numPerson (v b l : Int32) : Prop := (0 ≤ v ∧ v ≤ 9) ∧ (0 ≤ b ∧ b < 200) ∧ 0 ≤ l ∧ l ≤ 120
abbrev okPerson (S : Nat → Int32) (k v b l : Int32) : Prop := (0 ≤ k ∧ k < 7) ∧ numPerson v b l ∧ S 12 < 6
def sPerson (S : Nat → Int32) (k v b l : Int32) : Int32 := if 0 ≤ k ∧ k < 7 then (if numPerson v b l then (if S 12 < 6 then S 12 else -4) else -2) else -1
def cPerson (mi : MI) (N : Nat) (k v b l : Int32) (mi' : MI) : Prop := (okPerson (mi 174) k v b l ∧ ∃ m1, Off (offP (58 + 2 * N)) mi m1 ∧ perIs m1 (58 + 2 * N) k v b l (-1) (fun _ => 0) ∧ mi' = up2 m1 40 1 (mi 174 12 + 1)) ∨ (¬ okPerson (mi 174) k v b l ∧ mi' = mi)
def zrow (m : MI) (b : Nat) : Nat → MI
  | 0 => m
  | i + 1 => up2 (zrow m b i) 174 (b + i) 0
theorem zrow_off {m : MI} {b a k : Nat} : ∀ {i : Nat}, ¬ (a = 174 ∧ b ≤ k ∧ k < b + i) → zrow m b i a k = m a k
  | 0, _ => rfl
  | i + 1, h => by
    show up2 _ _ _ _ _ _ = _
    simp only [up2]
    rw [if_neg (by omega)]
    exact zrow_off (by omega)
theorem zrow_in {m : MI} {b k : Nat} : ∀ {i : Nat}, k < i → zrow m b i 174 (b + k) = 0
  | 0, h => absurd h (by omega)
  | i + 1, h => by
    show up2 _ _ _ _ _ _ = _
    by_cases e : k = i
    · subst e
      exact up2_s
    · simp only [up2]
      rw [if_neg (by omega)]
      exact zrow_in (by omega)
def perM (mi : MI) (N : Nat) (k v b l : Int32) : MI := up2 (up2 (up2 (up2 (up2 mi 174 (20 + N) k) 174 (26 + N) v) 174 (32 + N) b) 174 (38 + N) l) 174 (1 + N) (-1)
def mPerson (mi : MI) (N : Nat) (k v b l : Int32) : MI := if okPerson (mi 174) k v b l then up2 (zrow (perM mi N k v b l) (44 + 4 * N) 4) 174 12 (mi 174 12 + 1) else mi
theorem lt_of6 {x : Int32} {N : Nat} (h : nat x N) (h2 : x < 6) : N < 6 := by
  unfold nat at h
  simp only [Int32.lt_iff_toInt_lt, Int32.reduceToInt] at h2
  omega
set_option maxRecDepth 4000 in
theorem qX7_person (n : Nat) (mi : MI) (mr : MR) (c : CT) (I : INV n mi mr c) (k v b l : Int32) : Ct KX7_person 3 0 0 [.ref 32, .int k, .int v, .int b, .int l] n mi mr (fun r n' mi' mr' => some (.int (sPerson (mi 174) k v b l)) = r ∧ n = n' ∧ mr = mr' ∧ cPerson mi (cN c) k v b l mi') := by
  refine Ct.of2 [some (.ref 32), some (.int k), some (.int v), some (.int b), some (.int l)] (by decide +kernel) (Nat.le_of_ble_eq_true rfl) rfl ?_
  obtain ⟨hR, hn, ⟨⟨hN, hN6⟩, ⟨hW, hW5⟩, ⟨hL, hL5⟩, ⟨hT, hT100⟩, ⟨hS, hS5⟩, ⟨hP, hP8⟩, ⟨hBk, hB8⟩⟩, hrw⟩ := I.facts
  have hBD := I.2.2.1
  obtain ⟨⟨r1, r2, r3, r4, r5⟩, hper, hvin, htape, hseen, hnight, hbook⟩ := id hrw
  have hcN : nat (mi 40 1) (cN c) := by rw [r2]; exact hN
  have hcW : nat (mi 40 2) (cW c) := by rw [r3]; exact hW
  clear I
  refine V_iload_n dX7_person_0 rfl ?_
  refine V_callS (qX7_isKind _ _ _ hR hn _) dX7_person_1 mlX7_75 mtX7_isKind smX7_isKind rfl rfl (by decide) (Nat.le_of_ble_eq_true rfl) rfl rfl ?_
  rintro _ _ _ _ ⟨rfl, rfl, rfl, rfl⟩
  refine V_if_ne (tgt := 9) dX7_person_4 (by decide) (fun c4 => ?_) (fun c4 => ?_)
  · refine V_iload_n dX7_person_9 rfl ?_
    refine V_callS (qX7_isDigit _ _ _ hR hn _) dX7_person_10 mlX7_79 mtX7_isDigit smX7_isDigit rfl rfl (by decide) (Nat.le_of_ble_eq_true rfl) rfl rfl ?_
    rintro _ _ _ _ ⟨rfl, rfl, rfl, rfl⟩
    refine V_if_eq (tgt := 39) dX7_person_13 (by decide) (fun c13 => ?_) (fun c13 => ?_)
    · refine V_bipush (v := -2) dX7_person_39 rfl ?_
      refine V_iret dX7_person_41 rfl rfl ?_
      clear hR
      refine ⟨?_, rfl, rfl, Or.inr ⟨?_, rfl⟩⟩
      · (try simp only [b01_0, b01_n] at *)
        simp only [sPerson]
        (try simp only [r2] at *)
        repeat' split
        all_goals first | rfl | (exfalso; simp only [numPerson, Int32.lt_iff_toInt_lt, Int32.le_iff_toInt_le, ← Int32.toInt_inj, Int32.reduceToInt] at *; omega)
      · (try simp only [b01_0, b01_n] at *)
        (try simp only [r2] at *)
        intro hh
        simp only [okPerson, numPerson, Int32.lt_iff_toInt_lt, Int32.le_iff_toInt_le, ← Int32.toInt_inj, Int32.reduceToInt] at *
        omega
    · refine V_iload_n dX7_person_16 rfl ?_
      refine V_if_lt (tgt := 39) dX7_person_17 (by decide) (fun c17 => ?_) (fun c17 => ?_)
      · refine V_bipush (v := -2) dX7_person_39 rfl ?_
        refine V_iret dX7_person_41 rfl rfl ?_
        clear hR
        refine ⟨?_, rfl, rfl, Or.inr ⟨?_, rfl⟩⟩
        · (try simp only [b01_0, b01_n] at *)
          simp only [sPerson]
          (try simp only [r2] at *)
          repeat' split
          all_goals first | rfl | (exfalso; simp only [numPerson, Int32.lt_iff_toInt_lt, Int32.le_iff_toInt_le, ← Int32.toInt_inj, Int32.reduceToInt] at *; omega)
        · (try simp only [b01_0, b01_n] at *)
          (try simp only [r2] at *)
          intro hh
          simp only [okPerson, numPerson, Int32.lt_iff_toInt_lt, Int32.le_iff_toInt_le, ← Int32.toInt_inj, Int32.reduceToInt] at *
          omega
      · refine V_iload_n dX7_person_20 rfl ?_
        refine V_sipush (v := 200) dX7_person_21 rfl ?_
        refine V_icmp_ge (tgt := 39) dX7_person_24 (by decide) (fun c24 => ?_) (fun c24 => ?_)
        · refine V_bipush (v := -2) dX7_person_39 rfl ?_
          refine V_iret dX7_person_41 rfl rfl ?_
          clear hR
          refine ⟨?_, rfl, rfl, Or.inr ⟨?_, rfl⟩⟩
          · (try simp only [b01_0, b01_n] at *)
            simp only [sPerson]
            (try simp only [r2] at *)
            repeat' split
            all_goals first | rfl | (exfalso; simp only [numPerson, Int32.lt_iff_toInt_lt, Int32.le_iff_toInt_le, ← Int32.toInt_inj, Int32.reduceToInt] at *; omega)
          · (try simp only [b01_0, b01_n] at *)
            (try simp only [r2] at *)
            intro hh
            simp only [okPerson, numPerson, Int32.lt_iff_toInt_lt, Int32.le_iff_toInt_le, ← Int32.toInt_inj, Int32.reduceToInt] at *
            omega
        · refine V_iload dX7_person_27 rfl ?_
          refine V_if_lt (tgt := 39) dX7_person_29 (by decide) (fun c29 => ?_) (fun c29 => ?_)
          · refine V_bipush (v := -2) dX7_person_39 rfl ?_
            refine V_iret dX7_person_41 rfl rfl ?_
            clear hR
            refine ⟨?_, rfl, rfl, Or.inr ⟨?_, rfl⟩⟩
            · (try simp only [b01_0, b01_n] at *)
              simp only [sPerson]
              (try simp only [r2] at *)
              repeat' split
              all_goals first | rfl | (exfalso; simp only [numPerson, Int32.lt_iff_toInt_lt, Int32.le_iff_toInt_le, ← Int32.toInt_inj, Int32.reduceToInt] at *; omega)
            · (try simp only [b01_0, b01_n] at *)
              (try simp only [r2] at *)
              intro hh
              simp only [okPerson, numPerson, Int32.lt_iff_toInt_lt, Int32.le_iff_toInt_le, ← Int32.toInt_inj, Int32.reduceToInt] at *
              omega
          · refine V_iload dX7_person_32 rfl ?_
            refine V_bipush (v := 120) dX7_person_34 rfl ?_
            refine V_icmp_le (tgt := 42) dX7_person_36 (by decide) (fun c36 => ?_) (fun c36 => ?_)
            · refine V_aload_n dX7_person_42 rfl ?_
              refine V_getr (b := 40) 7 1 dX7_person_43 (Or.inl lkX7_30) rfl rfl ⟨by omega, by omega⟩ (hR _ _ _ rfl) ?_
              refine V_geti 6 1 dX7_person_46 lnX7_82 rfl rfl ⟨by omega, by omega⟩ ?_
              refine V_bipush (v := 6) dX7_person_49 rfl ?_
              refine V_icmp_lt (tgt := 57) dX7_person_51 (by decide) (fun c51 => ?_) (fun c51 => ?_)
              · rw [r2] at c51
                have hlt := lt_of6 hN c51
                have hok : okPerson (mi 174) k v b l := And.intro (b01_n.mp c4) (And.intro (And.intro (b01_n.mp c13) (And.intro (And.intro (Int32.not_lt.mp c17) (Int32.not_le.mp c24)) (And.intro (Int32.not_lt.mp c29) c36))) c51)
                refine V_aload_n dX7_person_57 rfl ?_
                refine V_getr (b := 40) 7 1 dX7_person_58 (Or.inl lkX7_30) rfl rfl ⟨by omega, by omega⟩ (hR _ _ _ rfl) ?_
                refine V_getr (b := 41) 6 6 dX7_person_61 lnX7_85 rfl rfl ⟨by omega, by omega⟩ (hR _ _ _ rfl) ?_
                refine V_aload_n dX7_person_64 rfl ?_
                refine V_getr (b := 40) 7 1 dX7_person_65 (Or.inl lkX7_30) rfl rfl ⟨by omega, by omega⟩ (hR _ _ _ rfl) ?_
                refine V_geti 6 1 dX7_person_68 lnX7_82 rfl rfl ⟨by omega, by omega⟩ ?_
                refine V_aald (len := 6) (b := (58 + 2 * (cN c))) 5 (cN c) dX7_person_71 rfl rfl ⟨by omega, by omega⟩ hcN (by omega) (hR _ _ _ (rFolk (Or.inl rfl) (by omega))) ?_
                refine V_iload_n dX7_person_72 rfl ?_
                refine V_iload_n dX7_person_73 rfl ?_
                refine V_iload_n dX7_person_74 rfl ?_
                refine V_iload dX7_person_75 rfl ?_
                refine V_callV (ci := 1) (qX1_comeToLife _ _ _ hR hn _ (pOf (Or.inl rfl) (by omega)) _ _ _ _) dX7_person_77 mlX7_89 mtX1_comeToLife ivX1_comeToLife rfl (sP (pOf (Or.inl rfl) (by omega))) ⟨by omega, by omega⟩ (by decide) rfl rfl (by decide) (Nat.le_of_ble_eq_true rfl) rfl rfl ?_
                rintro _ _ m1 _ ⟨rfl, rfl, rfl, ho, hi⟩
                have e1 : m1 40 1 = mi 174 12 := by rw [ho 40 1 (by unfold offP; omega), r2]
                refine V_aload_n dX7_person_80 rfl ?_
                refine V_getr (b := 40) 7 1 dX7_person_81 (Or.inl lkX7_30) rfl rfl ⟨by omega, by omega⟩ (hR _ _ _ rfl) ?_
                refine V_dup dX7_person_84 rfl ?_
                refine V_geti 6 1 dX7_person_85 lnX7_82 rfl rfl ⟨by omega, by omega⟩ ?_
                refine V_dup_x1 dX7_person_88 rfl rfl ?_
                refine V_iconst (v := 1) dX7_person_89 rfl ?_
                refine V_iadd dX7_person_90 ?_
                refine V_puti 6 1 dX7_person_91 lnX7_82 rfl rfl rfl rfl ⟨by omega, by omega⟩ ?_
                refine V_iret dX7_person_94 rfl rfl ?_
                rw [e1]
                refine ⟨?_, rfl, rfl, Or.inl ⟨hok, m1, ho, hi, rfl⟩⟩
                unfold sPerson
                rw [if_pos hok.1, if_pos hok.2.1, if_pos hok.2.2]
              · refine V_bipush (v := -4) dX7_person_54 rfl ?_
                refine V_iret dX7_person_56 rfl rfl ?_
                clear hR
                refine ⟨?_, rfl, rfl, Or.inr ⟨?_, rfl⟩⟩
                · (try simp only [b01_0, b01_n] at *)
                  simp only [sPerson]
                  (try simp only [r2] at *)
                  repeat' split
                  all_goals first | rfl | (exfalso; simp only [numPerson, Int32.lt_iff_toInt_lt, Int32.le_iff_toInt_le, ← Int32.toInt_inj, Int32.reduceToInt] at *; omega)
                · (try simp only [b01_0, b01_n] at *)
                  (try simp only [r2] at *)
                  intro hh
                  simp only [okPerson, numPerson, Int32.lt_iff_toInt_lt, Int32.le_iff_toInt_le, ← Int32.toInt_inj, Int32.reduceToInt] at *
                  omega
            · refine V_bipush (v := -2) dX7_person_39 rfl ?_
              refine V_iret dX7_person_41 rfl rfl ?_
              clear hR
              refine ⟨?_, rfl, rfl, Or.inr ⟨?_, rfl⟩⟩
              · (try simp only [b01_0, b01_n] at *)
                simp only [sPerson]
                (try simp only [r2] at *)
                repeat' split
                all_goals first | rfl | (exfalso; simp only [numPerson, Int32.lt_iff_toInt_lt, Int32.le_iff_toInt_le, ← Int32.toInt_inj, Int32.reduceToInt] at *; omega)
              · (try simp only [b01_0, b01_n] at *)
                (try simp only [r2] at *)
                intro hh
                simp only [okPerson, numPerson, Int32.lt_iff_toInt_lt, Int32.le_iff_toInt_le, ← Int32.toInt_inj, Int32.reduceToInt] at *
                omega
  · refine V_iconst (v := -1) dX7_person_7 rfl ?_
    refine V_iret dX7_person_8 rfl rfl ?_
    clear hR
    refine ⟨?_, rfl, rfl, Or.inr ⟨?_, rfl⟩⟩
    · (try simp only [b01_0, b01_n] at *)
      simp only [sPerson]
      (try simp only [r2] at *)
      repeat' split
      all_goals first | rfl | (exfalso; simp only [numPerson, Int32.lt_iff_toInt_lt, Int32.le_iff_toInt_le, ← Int32.toInt_inj, Int32.reduceToInt] at *; omega)
    · (try simp only [b01_0, b01_n] at *)
      (try simp only [r2] at *)
      intro hh
      simp only [okPerson, numPerson, Int32.lt_iff_toInt_lt, Int32.le_iff_toInt_le, ← Int32.toInt_inj, Int32.reduceToInt] at *
      omega
set_option maxRecDepth 4000 in
theorem qX8_person (n : Nat) (mi : MI) (mr : MR) (c : CT) (hR : RF mr) (hn : 186 ≤ n) (hBD : BD (mi 174) c) (k v b l : Int32) : Ct KX8_person 3 0 0 [.ref 173, .int k, .int v, .int b, .int l] n mi mr (eqQ (some (.int (sPerson (mi 174) k v b l))) n (mPerson mi (cN c) k v b l) mr) := by
  refine Ct.of2 [some (.ref 173), some (.int k), some (.int v), some (.int b), some (.int l), none, none] (by decide +kernel) (Nat.le_of_ble_eq_true rfl) rfl ?_
  obtain ⟨⟨hN, hN6⟩, ⟨hW, hW5⟩, ⟨hL, hL5⟩, ⟨hT, hT100⟩, ⟨hS, hS5⟩, ⟨hP, hP8⟩, ⟨hBk, hB8⟩⟩ := hBD.1
  refine V_iload_n dX8_person_0 rfl ?_
  refine V_iconst (v := 0) dX8_person_1 rfl ?_
  refine V_bipush (v := 6) dX8_person_2 rfl ?_
  refine V_callS (qX8_in _ _ _ _ _ _) dX8_person_4 mlX8_53 mtX8_in smX8_in rfl rfl (by decide) (Nat.le_of_ble_eq_true rfl) rfl rfl ?_
  rintro _ _ _ _ ⟨rfl, rfl, rfl, rfl⟩
  refine V_if_ne (tgt := 12) dX8_person_7 (by decide) (fun c7 => ?_) (fun c7 => ?_)
  · refine V_iload_n dX8_person_12 rfl ?_
    refine V_iconst (v := 0) dX8_person_13 rfl ?_
    refine V_bipush (v := 9) dX8_person_14 rfl ?_
    refine V_callS (qX8_in _ _ _ _ _ _) dX8_person_16 mlX8_53 mtX8_in smX8_in rfl rfl (by decide) (Nat.le_of_ble_eq_true rfl) rfl rfl ?_
    rintro _ _ _ _ ⟨rfl, rfl, rfl, rfl⟩
    refine V_if_eq (tgt := 44) dX8_person_19 (by decide) (fun c19 => ?_) (fun c19 => ?_)
    · refine V_bipush (v := -2) dX8_person_44 rfl ?_
      refine V_iret dX8_person_46 rfl rfl ?_
      clear hR
      refine ⟨?_, rfl, ?_, rfl⟩
      · (try simp only [b01_0, b01_n] at *)
        simp only [sPerson]
        repeat' split
        all_goals first | rfl | (exfalso; simp only [numPerson, Int32.lt_iff_toInt_lt, Int32.le_iff_toInt_le, ← Int32.toInt_inj, Int32.reduceToInt] at *; omega)
      · unfold mPerson
        refine if_neg ?_
        (try simp only [b01_0, b01_n] at *)
        intro hh
        simp only [okPerson, numPerson, Int32.lt_iff_toInt_lt, Int32.le_iff_toInt_le, ← Int32.toInt_inj, Int32.reduceToInt] at *
        omega
    · refine V_iload_n dX8_person_22 rfl ?_
      refine V_iconst (v := 0) dX8_person_23 rfl ?_
      refine V_sipush (v := 199) dX8_person_24 rfl ?_
      refine V_callS (qX8_in _ _ _ _ _ _) dX8_person_27 mlX8_53 mtX8_in smX8_in rfl rfl (by decide) (Nat.le_of_ble_eq_true rfl) rfl rfl ?_
      rintro _ _ _ _ ⟨rfl, rfl, rfl, rfl⟩
      refine V_if_eq (tgt := 44) dX8_person_30 (by decide) (fun c30 => ?_) (fun c30 => ?_)
      · refine V_bipush (v := -2) dX8_person_44 rfl ?_
        refine V_iret dX8_person_46 rfl rfl ?_
        clear hR
        refine ⟨?_, rfl, ?_, rfl⟩
        · (try simp only [b01_0, b01_n] at *)
          simp only [sPerson]
          repeat' split
          all_goals first | rfl | (exfalso; simp only [numPerson, Int32.lt_iff_toInt_lt, Int32.le_iff_toInt_le, ← Int32.toInt_inj, Int32.reduceToInt] at *; omega)
        · unfold mPerson
          refine if_neg ?_
          (try simp only [b01_0, b01_n] at *)
          intro hh
          simp only [okPerson, numPerson, Int32.lt_iff_toInt_lt, Int32.le_iff_toInt_le, ← Int32.toInt_inj, Int32.reduceToInt] at *
          omega
      · refine V_iload dX8_person_33 rfl ?_
        refine V_iconst (v := 0) dX8_person_35 rfl ?_
        refine V_bipush (v := 120) dX8_person_36 rfl ?_
        refine V_callS (qX8_in _ _ _ _ _ _) dX8_person_38 mlX8_53 mtX8_in smX8_in rfl rfl (by decide) (Nat.le_of_ble_eq_true rfl) rfl rfl ?_
        rintro _ _ _ _ ⟨rfl, rfl, rfl, rfl⟩
        refine V_if_ne (tgt := 47) dX8_person_41 (by decide) (fun c41 => ?_) (fun c41 => ?_)
        · refine V_aload_n dX8_person_47 rfl ?_
          refine V_getr (b := 174) 8 1 dX8_person_48 (Or.inl lkX8_9) rfl rfl ⟨by omega, by omega⟩ (hR _ _ _ rfl) ?_
          refine V_bipush (v := 12) dX8_person_51 rfl ?_
          refine V_iald (len := 938) 12 dX8_person_53 rfl ⟨by omega, by omega⟩ (by decide) (by omega) ?_
          refine V_bipush (v := 6) dX8_person_54 rfl ?_
          refine V_icmp_ne (tgt := 62) dX8_person_56 (by decide) (fun c56 => ?_) (fun c56 => ?_)
          · have hlt : cN c < 6 := by
              have h7 := hN
              have q := c56
              unfold nat at h7
              simp only [← Int32.toInt_inj, Int32.reduceToInt] at q
              omega
            have hb : mi 174 12 < 6 := by
              have h7 := hN
              unfold nat at h7
              simp only [Int32.lt_iff_toInt_lt, Int32.reduceToInt]
              omega
            have hok : okPerson (mi 174) k v b l := by
              have q1 := b01_n.mp c7
              have q2 := b01_n.mp c19
              have q3 := b01_n.mp c30
              have q4 := b01_n.mp c41
              refine And.intro ?_ (And.intro (And.intro q2 (And.intro ?_ q4)) hb)
              all_goals (clear hR; simp only [Int32.lt_iff_toInt_lt, Int32.le_iff_toInt_le, Int32.reduceToInt] at *; omega)
            refine V_aload_n dX8_person_62 rfl ?_
            refine V_getr (b := 174) 8 1 dX8_person_63 (Or.inl lkX8_9) rfl rfl ⟨by omega, by omega⟩ (hR _ _ _ rfl) ?_
            refine V_bipush (v := 12) dX8_person_66 rfl ?_
            refine V_iald (len := 938) 12 dX8_person_68 rfl ⟨by omega, by omega⟩ (by decide) (by omega) ?_
            refine V_istore (L' := [_, _, _, _, _, _, _]) dX8_person_69 (by decide) rfl rfl ?_
            refine V_aload_n dX8_person_71 rfl ?_
            refine V_getr (b := 174) 8 1 dX8_person_72 (Or.inl lkX8_9) rfl rfl ⟨by omega, by omega⟩ (hR _ _ _ rfl) ?_
            refine V_bipush (v := 20) dX8_person_75 rfl ?_
            refine V_iload dX8_person_77 rfl ?_
            refine V_iadd dX8_person_79 ?_
            refine V_iload_n dX8_person_80 rfl ?_
            refine V_iast (len := 938) (20 + (cN c)) dX8_person_81 rfl ⟨by omega, by omega⟩ (ix_add (by decide) hN (by omega)) (by omega) ?_
            refine V_aload_n dX8_person_82 rfl ?_
            refine V_getr (b := 174) 8 1 dX8_person_83 (Or.inl lkX8_9) rfl rfl ⟨by omega, by omega⟩ (hR _ _ _ rfl) ?_
            refine V_bipush (v := 26) dX8_person_86 rfl ?_
            refine V_iload dX8_person_88 rfl ?_
            refine V_iadd dX8_person_90 ?_
            refine V_iload_n dX8_person_91 rfl ?_
            refine V_iast (len := 938) (26 + (cN c)) dX8_person_92 rfl ⟨by omega, by omega⟩ (ix_add (by decide) hN (by omega)) (by omega) ?_
            refine V_aload_n dX8_person_93 rfl ?_
            refine V_getr (b := 174) 8 1 dX8_person_94 (Or.inl lkX8_9) rfl rfl ⟨by omega, by omega⟩ (hR _ _ _ rfl) ?_
            refine V_bipush (v := 32) dX8_person_97 rfl ?_
            refine V_iload dX8_person_99 rfl ?_
            refine V_iadd dX8_person_101 ?_
            refine V_iload_n dX8_person_102 rfl ?_
            refine V_iast (len := 938) (32 + (cN c)) dX8_person_103 rfl ⟨by omega, by omega⟩ (ix_add (by decide) hN (by omega)) (by omega) ?_
            refine V_aload_n dX8_person_104 rfl ?_
            refine V_getr (b := 174) 8 1 dX8_person_105 (Or.inl lkX8_9) rfl rfl ⟨by omega, by omega⟩ (hR _ _ _ rfl) ?_
            refine V_bipush (v := 38) dX8_person_108 rfl ?_
            refine V_iload dX8_person_110 rfl ?_
            refine V_iadd dX8_person_112 ?_
            refine V_iload dX8_person_113 rfl ?_
            refine V_iast (len := 938) (38 + (cN c)) dX8_person_115 rfl ⟨by omega, by omega⟩ (ix_add (by decide) hN (by omega)) (by omega) ?_
            refine V_aload_n dX8_person_116 rfl ?_
            refine V_getr (b := 174) 8 1 dX8_person_117 (Or.inl lkX8_9) rfl rfl ⟨by omega, by omega⟩ (hR _ _ _ rfl) ?_
            refine V_iconst (v := 1) dX8_person_120 rfl ?_
            refine V_iload dX8_person_121 rfl ?_
            refine V_iadd dX8_person_123 ?_
            refine V_iconst (v := -1) dX8_person_124 rfl ?_
            refine V_iast (len := 938) (1 + (cN c)) dX8_person_125 rfl ⟨by omega, by omega⟩ (ix_add (by decide) hN (by omega)) (by omega) ?_
            refine V_iconst (v := 0) dX8_person_126 rfl ?_
            refine V_istore (L' := [_, _, _, _, _, _, _]) dX8_person_127 (by decide) rfl rfl ?_
            have loop : ∀ (m i : Nat) (x : Int32), i + m = 4 → x.toInt = (i : Int) → V KX8_person 3 0 0 (eqQ (some (.int (sPerson (mi 174) k v b l))) n (mPerson mi (cN c) k v b l) mr) 129 [some (.ref 173), some (.int k), some (.int v), some (.int b), some (.int l), some (.int (mi 174 12)), some (.int x)] [] n (zrow (perM mi (cN c) k v b l) (44 + 4 * (cN c)) i) mr := by
              intro m
              induction m with
              | zero =>
                intro i x him hx
                refine V_iload dX8_person_129 rfl ?_
                refine V_iconst (v := 4) dX8_person_131 rfl ?_
                refine V_icmp_ge (tgt := 157) dX8_person_132 (by decide) (fun c132 => ?_) (fun c132 => absurd ((le_nat (x := 4) (a := 4) rfl hx).mpr (by omega)) c132)
                refine V_aload_n dX8_person_157 rfl ?_
                refine V_getr (b := 174) 8 1 dX8_person_158 (Or.inl lkX8_9) rfl rfl ⟨by omega, by omega⟩ (hR _ _ _ rfl) ?_
                refine V_bipush (v := 12) dX8_person_161 rfl ?_
                refine V_dup2 dX8_person_163 rfl rfl ?_
                refine V_iald (len := 938) 12 dX8_person_164 rfl ⟨by omega, by omega⟩ (by decide) (by omega) ?_
                refine V_iconst (v := 1) dX8_person_165 rfl ?_
                refine V_iadd dX8_person_166 ?_
                refine V_iast (len := 938) 12 dX8_person_167 rfl ⟨by omega, by omega⟩ (by decide) (by omega) ?_
                refine V_iload dX8_person_168 rfl ?_
                refine V_iret dX8_person_170 rfl rfl ?_
                have hi : i = 4 := by omega
                subst hi
                have e1 : zrow (perM mi (cN c) k v b l) (44 + 4 * (cN c)) 4 174 12 = mi 174 12 := by
                  rw [zrow_off (by omega)]
                  simp only [perM, up2]
                  rw [if_neg (by omega), if_neg (by omega), if_neg (by omega), if_neg (by omega), if_neg (by omega)]
                rw [e1]
                refine ⟨?_, rfl, ?_, rfl⟩
                · unfold sPerson
                  rw [if_pos hok.1, if_pos hok.2.1, if_pos hok.2.2]
                · unfold mPerson
                  rw [if_pos hok]
              | succ m ih =>
                intro i x him hx
                refine V_iload dX8_person_129 rfl ?_
                refine V_iconst (v := 4) dX8_person_131 rfl ?_
                refine V_icmp_ge (tgt := 157) dX8_person_132 (by decide) (fun c132 => absurd ((le_nat (x := 4) (a := 4) rfl hx).mp c132) (by omega)) (fun c132 => ?_)
                refine V_aload_n dX8_person_135 rfl ?_
                refine V_getr (b := 174) 8 1 dX8_person_136 (Or.inl lkX8_9) rfl rfl ⟨by omega, by omega⟩ (hR _ _ _ rfl) ?_
                refine V_bipush (v := 44) dX8_person_139 rfl ?_
                refine V_iconst (v := 4) dX8_person_141 rfl ?_
                refine V_iload dX8_person_142 rfl ?_
                refine V_imul dX8_person_144 ?_
                refine V_iadd dX8_person_145 ?_
                refine V_iload dX8_person_146 rfl ?_
                refine V_iadd dX8_person_148 ?_
                refine V_iconst (v := 0) dX8_person_149 rfl ?_
                refine V_iast (len := 938) ((44 + (4 * (cN c))) + i) dX8_person_150 rfl ⟨by omega, by omega⟩ (ix_add (ix_add (by decide) (ix_mul (by decide) hN (by omega)) (by omega)) hx (by omega)) (by omega) ?_
                refine V_iinc (v := _ + (1)) (L' := [_, _, _, _, _, _, _]) dX8_person_151 (by decide) rfl rfl rfl rfl ?_
                refine V_goto (tgt := 129) dX8_person_154 (by decide) ?_
                exact ih (i + 1) _ (by omega) (ix_add hx (by decide) (by omega))
            exact loop 4 0 _ (by omega) (by decide)
          · refine V_bipush (v := -4) dX8_person_59 rfl ?_
            refine V_iret dX8_person_61 rfl rfl ?_
            clear hR
            refine ⟨?_, rfl, ?_, rfl⟩
            · (try simp only [b01_0, b01_n] at *)
              simp only [sPerson]
              repeat' split
              all_goals first | rfl | (exfalso; simp only [numPerson, Int32.lt_iff_toInt_lt, Int32.le_iff_toInt_le, ← Int32.toInt_inj, Int32.reduceToInt] at *; omega)
            · unfold mPerson
              refine if_neg ?_
              (try simp only [b01_0, b01_n] at *)
              intro hh
              simp only [okPerson, numPerson, Int32.lt_iff_toInt_lt, Int32.le_iff_toInt_le, ← Int32.toInt_inj, Int32.reduceToInt] at *
              omega
        · refine V_bipush (v := -2) dX8_person_44 rfl ?_
          refine V_iret dX8_person_46 rfl rfl ?_
          clear hR
          refine ⟨?_, rfl, ?_, rfl⟩
          · (try simp only [b01_0, b01_n] at *)
            simp only [sPerson]
            repeat' split
            all_goals first | rfl | (exfalso; simp only [numPerson, Int32.lt_iff_toInt_lt, Int32.le_iff_toInt_le, ← Int32.toInt_inj, Int32.reduceToInt] at *; omega)
          · unfold mPerson
            refine if_neg ?_
            (try simp only [b01_0, b01_n] at *)
            intro hh
            simp only [okPerson, numPerson, Int32.lt_iff_toInt_lt, Int32.le_iff_toInt_le, ← Int32.toInt_inj, Int32.reduceToInt] at *
            omega
  · refine V_iconst (v := -1) dX8_person_10 rfl ?_
    refine V_iret dX8_person_11 rfl rfl ?_
    clear hR
    refine ⟨?_, rfl, ?_, rfl⟩
    · (try simp only [b01_0, b01_n] at *)
      simp only [sPerson]
      repeat' split
      all_goals first | rfl | (exfalso; simp only [numPerson, Int32.lt_iff_toInt_lt, Int32.le_iff_toInt_le, ← Int32.toInt_inj, Int32.reduceToInt] at *; omega)
    · unfold mPerson
      refine if_neg ?_
      (try simp only [b01_0, b01_n] at *)
      intro hh
      simp only [okPerson, numPerson, Int32.lt_iff_toInt_lt, Int32.le_iff_toInt_le, ← Int32.toInt_inj, Int32.reduceToInt] at *
      omega
