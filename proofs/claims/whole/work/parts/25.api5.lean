/-- k dawns -/
def dawnK (mi : MI) (N : Nat) : Nat → MI
  | 0 => mi
  | k + 1 => dawnM (dawnK mi N k) N
theorem dawnM_off {mi : MI} {N a k : Nat} (h : ¬ (a = 174 ∧ k ≤ N)) : dawnM mi N a k = mi a k := by
  unfold dawnM
  simp only [up2]
  rw [if_neg (by omega)]
  exact dryM_off (fun p hp => by omega)
theorem dawnK_off {mi : MI} {N a k : Nat} (h : ¬ (a = 174 ∧ k ≤ N)) : ∀ {m : Nat}, dawnK mi N m a k = mi a k
  | 0 => rfl
  | m + 1 => (dawnM_off h).trans (dawnK_off h)
theorem dawnK_year {mi : MI} {N : Nat} : ∀ {m : Nat}, dawnK mi N m 174 0 = mi 174 0 + nI m
  | 0 => (Int32.add_zero _).symm
  | m + 1 => by
    show dawnM (dawnK mi N m) N 174 0 = _
    unfold dawnM
    rw [up2_s, dawnK_year, nI_succ, Int32.add_assoc]
theorem dawnK_has {mi : MI} {N m p : Nat} (hm : 0 < m) (hp : p < N) : dawnK mi N m 174 (1 + p) = -1 := by
  obtain ⟨k, rfl⟩ : ∃ k, m = k + 1 := ⟨m - 1, by omega⟩
  show dawnM (dawnK mi N k) N 174 (1 + p) = -1
  unfold dawnM
  simp only [up2]
  rw [if_neg (by omega)]
  exact dryM_has hp
abbrev okDawn (S : Nat → Int32) (x : Int32) : Prop := (1 ≤ x ∧ x ≤ 99) ∧ S 0 + x ≤ 999
def sDawn (S : Nat → Int32) (x : Int32) : Int32 := if 1 ≤ x ∧ x ≤ 99 then (if S 0 + x ≤ 999 then S 0 + x else -3) else -2
def cDawn (mi : MI) (N : Nat) (x : Int32) : MI := if okDawn (mi 174) x then dryTo (up2 mi 40 0 (mi 174 0 + x)) 40 N else mi
def mDawn (mi : MI) (N : Nat) (x : Int32) : MI := if okDawn (mi 174) x then dawnK mi N x.toNatClampNeg else mi
theorem idx99 {x : Int32} (h1 : 0 ≤ x) (h : x ≤ 99) : ∃ k : Nat, x.toInt = (k : Int) ∧ k < 100 := by
  simp only [Int32.le_iff_toInt_le, Int32.reduceToInt] at h1 h
  exact ⟨x.toInt.toNat, by omega, by omega⟩
theorem le01 {x : Int32} (h : 1 ≤ x) : 0 ≤ x := by
  simp only [Int32.le_iff_toInt_le, Int32.reduceToInt] at h ⊢
  omega
set_option maxRecDepth 4000 in
theorem qX7_dawn (n : Nat) (mi : MI) (mr : MR) (c : CT) (I : INV n mi mr c) (x : Int32) : Ct KX7_dawn 3 0 0 [.ref 32, .int x] n mi mr (eqQ (some (.int (sDawn (mi 174) x))) n (cDawn mi (cN c) x) mr) := by
  refine Ct.of2 [some (.ref 32), some (.int x)] (by decide +kernel) (Nat.le_of_ble_eq_true rfl) rfl ?_
  obtain ⟨hR, hn, ⟨⟨hN, hN6⟩, ⟨hW, hW5⟩, ⟨hL, hL5⟩, ⟨hT, hT100⟩, ⟨hS, hS5⟩, ⟨hP, hP8⟩, ⟨hBk, hB8⟩⟩, hrw⟩ := I.facts
  have hBD := I.2.2.1
  obtain ⟨⟨r1, r2, r3, r4, r5⟩, hper, hvin, htape, hseen, hnight, hbook⟩ := id hrw
  have hcN : nat (mi 40 1) (cN c) := by rw [r2]; exact hN
  have hcW : nat (mi 40 2) (cW c) := by rw [r3]; exact hW
  clear I
  refine V_iload_n dX7_dawn_0 rfl ?_
  refine V_iconst (v := 1) dX7_dawn_1 rfl ?_
  refine V_icmp_lt (tgt := 11) dX7_dawn_2 (by decide) (fun c2 => ?_) (fun c2 => ?_)
  · refine V_bipush (v := -2) dX7_dawn_11 rfl ?_
    refine V_iret dX7_dawn_13 rfl rfl ?_
    try rw [r1] at c26
    clear hR
    (try simp only [b01_0, b01_n] at *)
    refine ⟨?_, rfl, ?_, rfl⟩
    all_goals (simp only [sDawn, cDawn, okDawn]; (try simp only [r1]); repeat' split)
    all_goals first | rfl | (exfalso; simp only [Int32.lt_iff_toInt_lt, Int32.le_iff_toInt_le, ← Int32.toInt_inj, Int32.reduceToInt] at *; omega)
  · refine V_iload_n dX7_dawn_5 rfl ?_
    refine V_bipush (v := 99) dX7_dawn_6 rfl ?_
    refine V_icmp_le (tgt := 14) dX7_dawn_8 (by decide) (fun c8 => ?_) (fun c8 => ?_)
    · refine V_aload_n dX7_dawn_14 rfl ?_
      refine V_getr (b := 40) 7 1 dX7_dawn_15 (Or.inl lkX7_30) rfl rfl ⟨by omega, by omega⟩ (hR _ _ _ rfl) ?_
      refine V_geti 6 0 dX7_dawn_18 lnX7_149 rfl rfl ⟨by omega, by omega⟩ ?_
      refine V_iload_n dX7_dawn_21 rfl ?_
      refine V_iadd dX7_dawn_22 ?_
      refine V_sipush (v := 999) dX7_dawn_23 rfl ?_
      refine V_icmp_le (tgt := 32) dX7_dawn_26 (by decide) (fun c26 => ?_) (fun c26 => ?_)
      · refine V_aload_n dX7_dawn_32 rfl ?_
        refine V_getr (b := 40) 7 1 dX7_dawn_33 (Or.inl lkX7_30) rfl rfl ⟨by omega, by omega⟩ (hR _ _ _ rfl) ?_
        refine V_iload_n dX7_dawn_36 rfl ?_
        refine V_callV (ci := 6) (qX6_growLight _ _ _ hR hn _ (Or.inl rfl) (cN c) hcN hN6 _) dX7_dawn_37 mlX7_172 mtX6_growLight ivX6_growLight rfl rfl ⟨by omega, by omega⟩ (by decide) rfl rfl (by decide) (Nat.le_of_ble_eq_true rfl) rfl rfl ?_
        rintro _ _ _ _ ⟨rfl, rfl, rfl, rfl⟩
        refine V_aload_n dX7_dawn_40 rfl ?_
        refine V_getr (b := 40) 7 1 dX7_dawn_41 (Or.inl lkX7_30) rfl rfl ⟨by omega, by omega⟩ (hR _ _ _ rfl) ?_
        refine V_geti 6 0 dX7_dawn_44 lnX7_149 rfl rfl ⟨by omega, by omega⟩ ?_
        refine V_iret dX7_dawn_47 rfl rfl ?_
        have e0 : dryTo (up2 mi 40 0 (mi 40 0 + x)) 40 (cN c) 40 0 = mi 174 0 + x := by
          rw [dryTo_off (fun p hp => by omega), up2_s, r1]
        refine ⟨?_, rfl, ?_, rfl⟩
        · rw [e0]
          unfold sDawn
          rw [if_pos ⟨Int32.not_lt.mp c2, c8⟩, if_pos (by rw [← r1]; exact c26)]
        · unfold cDawn
          rw [if_pos ⟨⟨Int32.not_lt.mp c2, c8⟩, by rw [← r1]; exact c26⟩, r1]
      · refine V_bipush (v := -3) dX7_dawn_29 rfl ?_
        refine V_iret dX7_dawn_31 rfl rfl ?_
        try rw [r1] at c26
        clear hR
        (try simp only [b01_0, b01_n] at *)
        refine ⟨?_, rfl, ?_, rfl⟩
        all_goals (simp only [sDawn, cDawn, okDawn]; (try simp only [r1]); repeat' split)
        all_goals first | rfl | (exfalso; simp only [Int32.lt_iff_toInt_lt, Int32.le_iff_toInt_le, ← Int32.toInt_inj, Int32.reduceToInt] at *; omega)
    · refine V_bipush (v := -2) dX7_dawn_11 rfl ?_
      refine V_iret dX7_dawn_13 rfl rfl ?_
      try rw [r1] at c26
      clear hR
      (try simp only [b01_0, b01_n] at *)
      refine ⟨?_, rfl, ?_, rfl⟩
      all_goals (simp only [sDawn, cDawn, okDawn]; (try simp only [r1]); repeat' split)
      all_goals first | rfl | (exfalso; simp only [Int32.lt_iff_toInt_lt, Int32.le_iff_toInt_le, ← Int32.toInt_inj, Int32.reduceToInt] at *; omega)
set_option maxRecDepth 4000 in
theorem qX8_dawn (n : Nat) (mi : MI) (mr : MR) (c : CT) (hR : RF mr) (hn : 186 ≤ n) (hBD : BD (mi 174) c) (x : Int32) : Ct KX8_dawn 3 0 0 [.ref 173, .int x] n mi mr (eqQ (some (.int (sDawn (mi 174) x))) n (mDawn mi (cN c) x) mr) := by
  refine Ct.of2 [some (.ref 173), some (.int x), none] (by decide +kernel) (Nat.le_of_ble_eq_true rfl) rfl ?_
  obtain ⟨⟨hN, hN6⟩, ⟨hW, hW5⟩, ⟨hL, hL5⟩, ⟨hT, hT100⟩, ⟨hS, hS5⟩, ⟨hP, hP8⟩, ⟨hBk, hB8⟩⟩ := hBD.1
  refine V_iload_n dX8_dawn_0 rfl ?_
  refine V_iconst (v := 1) dX8_dawn_1 rfl ?_
  refine V_bipush (v := 99) dX8_dawn_2 rfl ?_
  refine V_callS (qX8_in _ _ _ _ _ _) dX8_dawn_4 mlX8_53 mtX8_in smX8_in rfl rfl (by decide) (Nat.le_of_ble_eq_true rfl) rfl rfl ?_
  rintro _ _ _ _ ⟨rfl, rfl, rfl, rfl⟩
  refine V_if_ne (tgt := 13) dX8_dawn_7 (by decide) (fun c7 => ?_) (fun c7 => ?_)
  · refine V_aload_n dX8_dawn_13 rfl ?_
    refine V_getr (b := 174) 8 1 dX8_dawn_14 (Or.inl lkX8_9) rfl rfl ⟨by omega, by omega⟩ (hR _ _ _ rfl) ?_
    refine V_iconst (v := 0) dX8_dawn_17 rfl ?_
    refine V_iald (len := 938) 0 dX8_dawn_18 rfl ⟨by omega, by omega⟩ (by decide) (by omega) ?_
    refine V_iload_n dX8_dawn_19 rfl ?_
    refine V_iadd dX8_dawn_20 ?_
    refine V_sipush (v := 999) dX8_dawn_21 rfl ?_
    refine V_icmp_le (tgt := 30) dX8_dawn_24 (by decide) (fun c24 => ?_) (fun c24 => ?_)
    · obtain ⟨K, hk1, hk2⟩ := idx99 (le01 (b01_n.mp c7).1) (b01_n.mp c7).2
      refine V_iconst (v := 0) dX8_dawn_30 rfl ?_
      refine V_istore_n (L' := [_, _, _]) dX8_dawn_31 (by decide) rfl rfl ?_
      have loop : ∀ (m i : Nat) (y : Int32), i + m = K → y.toInt = (i : Int) → V KX8_dawn 3 0 0 (eqQ (some (.int (sDawn (mi 174) x))) n (mDawn mi (cN c) x) mr) 32 [some (.ref 173), some (.int x), some (.int y)] [] n (dawnK mi (cN c) i) mr := by
        intro m
        induction m with
        | zero =>
          intro i y him hy
          refine V_iload_n dX8_dawn_32 rfl ?_
          refine V_iload_n dX8_dawn_33 rfl ?_
          refine V_icmp_ge (tgt := 47) dX8_dawn_34 (by decide) (fun c34 => ?_) (fun c34 => absurd ((le_nat hk1 hy).mpr (by omega)) c34)
          refine V_aload_n dX8_dawn_47 rfl ?_
          refine V_getr (b := 174) 8 1 dX8_dawn_48 (Or.inl lkX8_9) rfl rfl ⟨by omega, by omega⟩ (hR _ _ _ rfl) ?_
          refine V_iconst (v := 0) dX8_dawn_51 rfl ?_
          refine V_iald (len := 938) 0 dX8_dawn_52 rfl ⟨by omega, by omega⟩ (by decide) (by omega) ?_
          refine V_iret dX8_dawn_53 rfl rfl ?_
          have hi : i = K := by omega
          subst hi
          refine ⟨?_, rfl, ?_, rfl⟩
          · rw [dawnK_year, ← nI_of_toInt hk1]
            unfold sDawn
            rw [if_pos (b01_n.mp c7), if_pos c24]
          · unfold mDawn
            rw [if_pos ⟨b01_n.mp c7, c24⟩, nat_of_toInt hk1]
        | succ m ih =>
          intro i y him hy
          refine V_iload_n dX8_dawn_32 rfl ?_
          refine V_iload_n dX8_dawn_33 rfl ?_
          refine V_icmp_ge (tgt := 47) dX8_dawn_34 (by decide) (fun c34 => absurd ((le_nat hk1 hy).mp c34) (by omega)) (fun c34 => ?_)
          refine V_aload_n dX8_dawn_37 rfl ?_
          refine V_callV (ci := 8) (qX8_dawns _ _ _ hR hn (cN c) hN6 (by rw [dawnK_off (by omega)]; exact hN)) dX8_dawn_38 mlX8_191 mtX8_dawns ivX8_dawns rfl rfl ⟨by omega, by omega⟩ (by decide) rfl rfl (by decide) (Nat.le_of_ble_eq_true rfl) rfl rfl ?_
          rintro _ _ _ _ ⟨rfl, rfl, rfl, rfl⟩
          refine V_iinc (v := _ + (1)) (L' := [_, _, _]) dX8_dawn_41 (by decide) rfl rfl rfl rfl ?_
          refine V_goto (tgt := 32) dX8_dawn_44 (by decide) ?_
          exact ih (i + 1) _ (by omega) (ix_add hy (by decide) (by omega))
      exact loop K 0 _ (by omega) (by decide)
    · refine V_bipush (v := -3) dX8_dawn_27 rfl ?_
      refine V_iret dX8_dawn_29 rfl rfl ?_
      clear hR
      (try simp only [b01_0, b01_n] at *)
      refine ⟨?_, rfl, ?_, rfl⟩
      all_goals (simp only [sDawn, mDawn, okDawn]; repeat' split)
      all_goals first | rfl | (exfalso; simp only [Int32.lt_iff_toInt_lt, Int32.le_iff_toInt_le, ← Int32.toInt_inj, Int32.reduceToInt] at *; omega)
  · refine V_bipush (v := -2) dX8_dawn_10 rfl ?_
    refine V_iret dX8_dawn_12 rfl rfl ?_
    clear hR
    (try simp only [b01_0, b01_n] at *)
    refine ⟨?_, rfl, ?_, rfl⟩
    all_goals (simp only [sDawn, mDawn, okDawn]; repeat' split)
    all_goals first | rfl | (exfalso; simp only [Int32.lt_iff_toInt_lt, Int32.le_iff_toInt_le, ← Int32.toInt_inj, Int32.reduceToInt] at *; omega)
abbrev aliveB (S : Nat → Int32) (x : Int32) (p : Nat) : Bool := decide (0 ≤ S 0 + x - S (32 + p) ∧ S 0 + x - S (32 + p) ≤ S (38 + p))
def sAlive (S : Nat → Int32) (N : Nat) (x : Int32) : Int32 := if 0 ≤ x ∧ x ≤ 99 then (if x = 0 then bitsTo (sHere S) N else bitsTo (aliveB S x) N) else -2
set_option maxRecDepth 4000 in
theorem qX7_alive (n : Nat) (mi : MI) (mr : MR) (c : CT) (I : INV n mi mr c) (k : Int32) : Ct KX7_alive 7 0 0 [.ref 32, .int k] n mi mr (eqQ (some (.int (sAlive (mi 174) (cN c) k))) n (mi) mr) := by
  refine Ct.of2 [some (.ref 32), some (.int k), none, none, none] (by decide +kernel) (Nat.le_of_ble_eq_true rfl) rfl ?_
  have hhv := I.hv
  have hcl := I.cl.1
  obtain ⟨hR, hn, ⟨⟨hN, hN6⟩, ⟨hW, hW5⟩, ⟨hL, hL5⟩, ⟨hT, hT100⟩, ⟨hS, hS5⟩, ⟨hP, hP8⟩, ⟨hBk, hB8⟩⟩, hrw⟩ := I.facts
  have hBD := I.2.2.1
  obtain ⟨⟨r1, r2, r3, r4, r5⟩, hper, hvin, htape, hseen, hnight, hbook⟩ := id hrw
  have hcN : nat (mi 40 1) (cN c) := by rw [r2]; exact hN
  have hcW : nat (mi 40 2) (cW c) := by rw [r3]; exact hW
  clear I
  refine V_iload_n dX7_alive_0 rfl ?_
  refine V_if_lt (tgt := 10) dX7_alive_1 (by decide) (fun c1 => ?_) (fun c1 => ?_)
  · refine V_bipush (v := -2) dX7_alive_10 rfl ?_
    refine V_iret dX7_alive_12 rfl rfl ?_
    clear hR
    (try simp only [b01_0, b01_n] at *)
    refine ⟨?_, rfl, ?_, rfl⟩
    all_goals (simp only [sAlive]; repeat' split)
    all_goals first | rfl | (exfalso; simp only [Int32.lt_iff_toInt_lt, Int32.le_iff_toInt_le, ← Int32.toInt_inj, Int32.reduceToInt] at *; omega)
  · refine V_iload_n dX7_alive_4 rfl ?_
    refine V_bipush (v := 99) dX7_alive_5 rfl ?_
    refine V_icmp_le (tgt := 13) dX7_alive_7 (by decide) (fun c7 => ?_) (fun c7 => ?_)
    · refine V_iload_n dX7_alive_13 rfl ?_
      refine V_if_ne (tgt := 25) dX7_alive_14 (by decide) (fun c14 => ?_) (fun c14 => ?_)
      · refine V_iconst (v := 0) dX7_alive_25 rfl ?_
        refine V_istore_n (L' := [_, _, _, _, _]) dX7_alive_26 (by decide) rfl rfl ?_
        refine V_iconst (v := 0) dX7_alive_27 rfl ?_
        refine V_istore_n (L' := [_, _, _, _, _]) dX7_alive_28 (by decide) rfl rfl ?_
        have loop : ∀ (m i : Nat) (acc x : Int32) (z : Option Value), i + m = cN c → x.toInt = (i : Int) → acc = bitsTo (aliveB (mi 174) k) i → V KX7_alive 7 0 0 (eqQ (some (.int (sAlive (mi 174) (cN c) k))) n (mi) mr) 29 [some (.ref 32), some (.int k), some (.int acc), some (.int x), z] [] n mi mr := by
          intro m
          induction m with
          | zero =>
            intro i acc x z him hx ha
            refine V_iload_n dX7_alive_29 rfl ?_
            refine V_aload_n dX7_alive_30 rfl ?_
            refine V_getr (b := 40) 7 1 dX7_alive_31 (Or.inl lkX7_30) rfl rfl ⟨by omega, by omega⟩ (hR _ _ _ rfl) ?_
            refine V_geti 6 1 dX7_alive_34 lnX7_82 rfl rfl ⟨by omega, by omega⟩ ?_
            refine V_icmp_ge (tgt := 86) dX7_alive_37 (by decide) (fun c37 => ?_) (fun c37 => absurd ((le_nat hcN hx).mpr (by omega)) c37)
            refine V_iload_n dX7_alive_86 rfl ?_
            refine V_iret dX7_alive_87 rfl rfl ?_
            have hi : i = cN c := by omega
            subst hi
            refine ⟨?_, rfl, rfl, rfl⟩
            unfold sAlive
            rw [if_pos ⟨Int32.not_lt.mp c1, c7⟩, if_neg c14, ha]
          | succ m ih =>
            intro i acc x z him hx ha
            refine V_iload_n dX7_alive_29 rfl ?_
            refine V_aload_n dX7_alive_30 rfl ?_
            refine V_getr (b := 40) 7 1 dX7_alive_31 (Or.inl lkX7_30) rfl rfl ⟨by omega, by omega⟩ (hR _ _ _ rfl) ?_
            refine V_geti 6 1 dX7_alive_34 lnX7_82 rfl rfl ⟨by omega, by omega⟩ ?_
            refine V_icmp_ge (tgt := 86) dX7_alive_37 (by decide) (fun c37 => absurd ((le_nat hcN hx).mp c37) (by omega)) (fun c37 => ?_)
            refine V_aload_n dX7_alive_40 rfl ?_
            refine V_getr (b := 40) 7 1 dX7_alive_41 (Or.inl lkX7_30) rfl rfl ⟨by omega, by omega⟩ (hR _ _ _ rfl) ?_
            refine V_getr (b := 41) 6 6 dX7_alive_44 lnX7_85 rfl rfl ⟨by omega, by omega⟩ (hR _ _ _ rfl) ?_
            refine V_iload_n dX7_alive_47 rfl ?_
            refine V_aald (len := 6) (b := (58 + 2 * i)) 5 i dX7_alive_48 rfl rfl ⟨by omega, by omega⟩ hx (by omega) (hR _ _ _ (rFolk (Or.inl rfl) (by omega))) ?_
            refine V_astore (L' := [_, _, _, _, _]) dX7_alive_49 (by decide) rfl rfl ?_
            refine V_aload dX7_alive_51 rfl ?_
            refine V_aload dX7_alive_53 rfl ?_
            refine V_aload_n dX7_alive_55 rfl ?_
            refine V_getr (b := 40) 7 1 dX7_alive_56 (Or.inl lkX7_30) rfl rfl ⟨by omega, by omega⟩ (hR _ _ _ rfl) ?_
            refine V_geti 6 0 dX7_alive_59 lnX7_149 rfl rfl ⟨by omega, by omega⟩ ?_
            refine V_iload_n dX7_alive_62 rfl ?_
            refine V_iadd dX7_alive_63 ?_
            refine V_iconst (v := -1) dX7_alive_64 rfl ?_
            refine V_callV (ci := 1) (qX1_ageIn _ _ _ hR hn _ (pOf (Or.inl rfl) (by omega)) _ _) dX7_alive_65 mlX7_176 mtX1_ageIn ivX1_ageIn rfl (sP (pOf (Or.inl rfl) (by omega))) ⟨by omega, by omega⟩ (by decide) rfl rfl (by decide) (Nat.le_of_ble_eq_true rfl) rfl rfl ?_
            rintro _ _ _ _ ⟨rfl, rfl, rfl, rfl⟩
            refine V_callV (ci := 1) (qX1_isHereAt _ _ _ hR hn _ (pOf (Or.inl rfl) (by omega)) _) dX7_alive_68 mlX7_179 mtX1_isHereAt ivX1_isHereAt rfl (sP (pOf (Or.inl rfl) (by omega))) ⟨by omega, by omega⟩ (by decide) rfl rfl (by decide) (Nat.le_of_ble_eq_true rfl) rfl rfl ?_
            rintro _ _ _ _ ⟨rfl, rfl, rfl, rfl⟩
            obtain ⟨-, -, b3, b4, -⟩ := hper i (by omega)
            rw [show (40 + 18 + 2 * i : Nat) = 58 + 2 * i from rfl] at b3 b4
            rw [show cAgeHad mi (58 + 2 * i) (mi 40 0 + k) (-1) (mi (58 + 2 * i) 3) (mi (58 + 2 * i) 2) = mi 40 0 + k - mi (58 + 2 * i) 3 from if_neg (by decide), r1, b3, b4]
            refine V_if_eq (tgt := 80) dX7_alive_71 (by decide) (fun c71 => ?_) (fun c71 => ?_)
            · refine V_iinc (v := _ + (1)) (L' := [_, _, _, _, _]) dX7_alive_80 (by decide) rfl rfl rfl rfl ?_
              refine V_goto (tgt := 29) dX7_alive_83 (by decide) ?_
              simp only [b01_0, b01_n] at c71
              by_cases hq : 0 ≤ mi 174 0 + k - mi 174 (32 + i) ∧ mi 174 0 + k - mi 174 (32 + i) ≤ mi 174 (38 + i)
              · first
                | (refine ih (i + 1) _ _ _ (by omega) (ix_add hx (by decide) (by omega)) ?_; rw [bitsTo, if_pos (decide_eq_true hq), ha, nI_of_toInt hx]; done)
                | exact absurd hq c71
              · first
                | (refine ih (i + 1) _ _ _ (by omega) (ix_add hx (by decide) (by omega)) ?_; rw [bitsTo, if_neg (fun h => hq (of_decide_eq_true h)), ha]; done)
                | exact absurd hq c71
            · refine V_iload_n dX7_alive_74 rfl ?_
              refine V_iconst (v := 1) dX7_alive_75 rfl ?_
              refine V_iload_n dX7_alive_76 rfl ?_
              refine V_ishl dX7_alive_77 ?_
              refine V_ior dX7_alive_78 ?_
              refine V_istore_n (L' := [_, _, _, _, _]) dX7_alive_79 (by decide) rfl rfl ?_
              refine V_iinc (v := _ + (1)) (L' := [_, _, _, _, _]) dX7_alive_80 (by decide) rfl rfl rfl rfl ?_
              refine V_goto (tgt := 29) dX7_alive_83 (by decide) ?_
              simp only [b01_0, b01_n] at c71
              by_cases hq : 0 ≤ mi 174 0 + k - mi 174 (32 + i) ∧ mi 174 0 + k - mi 174 (32 + i) ≤ mi 174 (38 + i)
              · first
                | (refine ih (i + 1) _ _ _ (by omega) (ix_add hx (by decide) (by omega)) ?_; rw [bitsTo, if_pos (decide_eq_true hq), ha, nI_of_toInt hx]; done)
                | exact absurd hq c71
              · first
                | (refine ih (i + 1) _ _ _ (by omega) (ix_add hx (by decide) (by omega)) ?_; rw [bitsTo, if_neg (fun h => hq (of_decide_eq_true h)), ha]; done)
                | exact absurd hq c71
        exact loop (cN c) 0 _ _ _ (by omega) (by decide) rfl
      · refine V_aload_n dX7_alive_17 rfl ?_
        refine V_getr (b := 40) 7 1 dX7_alive_18 (Or.inl lkX7_30) rfl rfl ⟨by omega, by omega⟩ (hR _ _ _ rfl) ?_
        refine V_callV (ci := 6) (qX6_whoIsHere _ _ _ hR hn _ (Or.inl rfl) (hvOf (mi 174)) hcl hBD.isV (cN c) hcN hN6 (fun p hp => by rw [(hrw.hasP hp).2.2.1]; exact (hBD.2.2.2.1 p hp).2.2.2.2.1.ok hW5)) dX7_alive_21 mlX7_158 mtX6_whoIsHere ivX6_whoIsHere rfl rfl ⟨by omega, by omega⟩ (by decide) rfl rfl (by decide) (Nat.le_of_ble_eq_true rfl) rfl rfl ?_
        rintro _ _ _ _ ⟨rfl, rfl, rfl, rfl⟩
        refine V_iret dX7_alive_24 rfl rfl ?_
        refine ⟨?_, rfl, rfl, rfl⟩
        unfold sAlive
        rw [if_pos ⟨Int32.not_lt.mp c1, c7⟩, if_pos c14, bitsTo_eq (fun p hp => here_eq hBD hrw hp hhv)]
    · refine V_bipush (v := -2) dX7_alive_10 rfl ?_
      refine V_iret dX7_alive_12 rfl rfl ?_
      clear hR
      (try simp only [b01_0, b01_n] at *)
      refine ⟨?_, rfl, ?_, rfl⟩
      all_goals (simp only [sAlive]; repeat' split)
      all_goals first | rfl | (exfalso; simp only [Int32.lt_iff_toInt_lt, Int32.le_iff_toInt_le, ← Int32.toInt_inj, Int32.reduceToInt] at *; omega)
set_option maxRecDepth 4000 in
theorem qX8_alive (n : Nat) (mi : MI) (mr : MR) (c : CT) (hR : RF mr) (hn : 186 ≤ n) (hBD : BD (mi 174) c) (x : Int32) : Ct KX8_alive 7 0 0 [.ref 173, .int x] n mi mr (offQ (some (.int (sAlive (mi 174) (cN c) x))) n mi mr scrM) := by
  refine Ct.of2 [some (.ref 173), some (.int x), none] (by decide +kernel) (Nat.le_of_ble_eq_true rfl) rfl ?_
  obtain ⟨⟨hN, hN6⟩, ⟨hW, hW5⟩, ⟨hL, hL5⟩, ⟨hT, hT100⟩, ⟨hS, hS5⟩, ⟨hP, hP8⟩, ⟨hBk, hB8⟩⟩ := hBD.1
  refine V_iload_n dX8_alive_0 rfl ?_
  refine V_iconst (v := 0) dX8_alive_1 rfl ?_
  refine V_bipush (v := 99) dX8_alive_2 rfl ?_
  refine V_callS (qX8_in _ _ _ _ _ _) dX8_alive_4 mlX8_53 mtX8_in smX8_in rfl rfl (by decide) (Nat.le_of_ble_eq_true rfl) rfl rfl ?_
  rintro _ _ _ _ ⟨rfl, rfl, rfl, rfl⟩
  refine V_if_ne (tgt := 13) dX8_alive_7 (by decide) (fun c7 => ?_) (fun c7 => ?_)
  · obtain ⟨K, hk1, hk2⟩ := idx99 (b01_n.mp c7).1 (b01_n.mp c7).2
    have hN2 : (dawnK (cp2 mi 174 176 12) (cN c) 0 174 12).toInt = (cN c : Int) := hN
    refine V_aload_n dX8_alive_13 rfl ?_
    refine V_callV (ci := 8) (qX8_keeps _ _ _ hR hn) dX8_alive_14 mlX8_194 mtX8_keeps ivX8_keeps rfl rfl ⟨by omega, by omega⟩ (by decide) rfl rfl (by decide) (Nat.le_of_ble_eq_true rfl) rfl rfl ?_
    rintro _ _ _ _ ⟨rfl, rfl, rfl, rfl⟩
    refine V_iconst (v := 0) dX8_alive_17 rfl ?_
    refine V_istore_n (L' := [_, _, _]) dX8_alive_18 (by decide) rfl rfl ?_
    have loop : ∀ (m i : Nat) (y : Int32), i + m = K → y.toInt = (i : Int) → V KX8_alive 7 0 0 (offQ (some (.int (sAlive (mi 174) (cN c) x))) n mi mr scrM) 19 [some (.ref 173), some (.int x), some (.int y)] [] n (dawnK (cp2 mi 174 176 12) (cN c) i) mr := by
      intro m
      induction m with
      | zero =>
        intro i y him hy
        refine V_iload_n dX8_alive_19 rfl ?_
        refine V_iload_n dX8_alive_20 rfl ?_
        refine V_icmp_ge (tgt := 34) dX8_alive_21 (by decide) (fun c21 => ?_) (fun c21 => absurd ((le_nat hk1 hy).mpr (by omega)) c21)
        refine V_aload_n dX8_alive_34 rfl ?_
        have hi : i = K := by omega
        subst hi
        have e1 : ∀ k, cN c < k → dawnK (cp2 mi 174 176 12) (cN c) i 174 k = mi 174 k := fun k hk => by
          rw [dawnK_off (by omega)]
          simp only [cp2]
          rw [if_neg (by omega)]
        have e2 : ∀ k, k < 12 → dawnK (cp2 mi 174 176 12) (cN c) i 176 k = mi 174 k := fun k hk => by
          rw [dawnK_off (by omega)]
          simp [cp2, hk]
        have e0 : i = 0 → dawnK (cp2 mi 174 176 12) (cN c) i 174 = mi 174 := fun e => by
          subst e
          funext k
          simp [dawnK, cp2]
        have hok : okS (dawnK (cp2 mi 174 176 12) (cN c) i 174) (cN c) := by
          obtain ⟨g1, g2, g3⟩ := hBD.okS
          refine ⟨?_, fun k hk => ?_, fun p hp => ?_⟩
          · unfold okHold
            rw [e1 18 (by omega)]
            exact g1
          · rw [e1 _ (by omega)]
            exact g2 k hk
          · by_cases e : i = 0
            · rw [e0 e]; exact g3 p hp
            · exact Or.inl (dawnK_has (by omega) hp)
        refine V_callV (ci := 8) (qX8_whoIsHere _ _ _ hR hn (cN c) hN6 hok (by rw [e1 12 (by omega)]; exact hN)) dX8_alive_35 mlX8_178 mtX8_whoIsHere ivX8_whoIsHere rfl rfl ⟨by omega, by omega⟩ (by decide) rfl rfl (by decide) (Nat.le_of_ble_eq_true rfl) rfl rfl ?_
        rintro _ _ _ _ ⟨rfl, rfl, rfl, rfl⟩
        refine V_istore_n (L' := [_, _, _]) dX8_alive_38 (by decide) rfl rfl ?_
        refine V_aload_n dX8_alive_39 rfl ?_
        refine V_callV (ci := 8) (qX8_goesBack _ _ _ hR hn) dX8_alive_40 mlX8_197 mtX8_goesBack ivX8_goesBack rfl rfl ⟨by omega, by omega⟩ (by decide) rfl rfl (by decide) (Nat.le_of_ble_eq_true rfl) rfl rfl ?_
        rintro _ _ _ _ ⟨rfl, rfl, rfl, rfl⟩
        refine V_iload_n dX8_alive_43 rfl ?_
        refine V_iret dX8_alive_44 rfl rfl ?_
        refine ⟨?_, rfl, rfl, fun a k hk => ?_⟩
        · unfold sAlive
          rw [if_pos (b01_n.mp c7)]
          by_cases e : i = 0
          · rw [e0 e, if_pos (by rw [nI_of_toInt hk1, e]; rfl)]
          · rw [if_neg (fun q => e (by rw [q] at hk1; simp only [Int32.reduceToInt] at hk1; omega))]
            refine congrArg (fun z => some (Value.int z)) (bitsTo_eq (fun p hp => ?_))
            unfold sHere aliveB sAge
            rw [dawnK_has (by omega) hp, if_pos rfl, dawnK_year, e1 _ (by omega), ← nI_of_toInt hk1]
            unfold sHereAt
            rw [e1 (38 + p) (by omega)]
            rfl
        · unfold scrM at hk
          by_cases h1 : a = 174
          · subst h1
            by_cases h2 : k < 12
            · exact (if_pos ⟨rfl, h2⟩).trans (e2 k h2)
            · simp only [cp2]
              rw [if_neg (by omega)]
              exact e1 k (by omega)
          · simp only [cp2]
            rw [if_neg (by omega), dawnK_off (by omega)]
            simp only [cp2]
            rw [if_neg (by omega)]
      | succ m ih =>
        intro i y him hy
        refine V_iload_n dX8_alive_19 rfl ?_
        refine V_iload_n dX8_alive_20 rfl ?_
        refine V_icmp_ge (tgt := 34) dX8_alive_21 (by decide) (fun c21 => absurd ((le_nat hk1 hy).mp c21) (by omega)) (fun c21 => ?_)
        refine V_aload_n dX8_alive_24 rfl ?_
        refine V_callV (ci := 8) (qX8_dawns _ _ _ hR hn (cN c) hN6 (by rw [dawnK_off (by omega)]; exact hN)) dX8_alive_25 mlX8_191 mtX8_dawns ivX8_dawns rfl rfl ⟨by omega, by omega⟩ (by decide) rfl rfl (by decide) (Nat.le_of_ble_eq_true rfl) rfl rfl ?_
        rintro _ _ _ _ ⟨rfl, rfl, rfl, rfl⟩
        refine V_iinc (v := _ + (1)) (L' := [_, _, _]) dX8_alive_28 (by decide) rfl rfl rfl rfl ?_
        refine V_goto (tgt := 19) dX8_alive_31 (by decide) ?_
        exact ih (i + 1) _ (by omega) (ix_add hy (by decide) (by omega))
    exact loop K 0 _ (by omega) (by decide)
  · refine V_bipush (v := -2) dX8_alive_10 rfl ?_
    refine V_iret dX8_alive_12 rfl rfl ?_
    refine ⟨?_, rfl, rfl, Off.rf⟩
    unfold sAlive
    rw [if_neg (b01_0.mp c7)]
