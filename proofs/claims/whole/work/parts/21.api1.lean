theorem idxC {x y : Int32} {N : Nat} (h : ¬ b01 (0 ≤ x ∧ x < y) = 0) (hy : nat y N) : ∃ k : Nat, x.toInt = (k : Int) ∧ k < N := by
  have h2 := b01_n.mp h
  unfold nat at hy
  simp only [Int32.lt_iff_toInt_lt, Int32.le_iff_toInt_le, Int32.reduceToInt] at h2
  exact ⟨x.toInt.toNat, by omega, by omega⟩
theorem subOne {y : Int32} {N : Nat} (hy : nat y N) (hN : N ≤ 1000) : (y - 1).toInt = (N : Int) - 1 := by
  unfold nat at hy
  rw [Int32.toInt_sub, hy]
  exact bmod_id (by simp only [Int32.reduceToInt]; omega) (by simp only [Int32.reduceToInt]; omega)
theorem leSub {x y : Int32} {N : Nat} (hy : nat y N) (hN : N ≤ 1000) : x ≤ y - 1 ↔ x < y := by
  have h := subOne hy hN
  unfold nat at hy
  rw [Int32.le_iff_toInt_le, Int32.lt_iff_toInt_lt, h, hy]
  omega
theorem INV.facts {n : Nat} {mi : MI} {mr : MR} {c : CT} (I : INV n mi mr c) : RF mr ∧ 186 ≤ n ∧ okCT (mi 174) c ∧ RW (mi 174) c mi 40 := ⟨I.1, I.2.1, I.2.2.1.1, I.2.2.2.1.1⟩
def sWine (S : Nat → Int32) (v w : Int32) : Int32 := if 0 ≤ v ∧ v < S 19 ∧ 0 ≤ w ∧ w ≤ 1 then (if w = 0 then S (68 + v.toNatClampNeg) else S (7 + v.toNatClampNeg)) else -1
def sStock (S : Nat → Int32) (v b : Int32) : Int32 := if 0 ≤ v ∧ v < S 19 then (if 0 ≤ b ∧ b ≤ 99 then S (7 + v.toNatClampNeg) else -2) else -1
def okStock (S : Nat → Int32) (v b : Int32) : Prop := (0 ≤ v ∧ v < S 19) ∧ 0 ≤ b ∧ b ≤ 99
def sRow (S : Nat → Int32) (p k x : Int32) : Int32 := if 0 ≤ p ∧ p < S 12 ∧ 0 ≤ k ∧ k ≤ 3 then (if 0 ≤ x ∧ x ≤ 9 then (if S (20 + p.toNatClampNeg) = 6 then S (44 + 4 * p.toNatClampNeg + k.toNatClampNeg) else -3) else -2) else -1
abbrev okRow (S : Nat → Int32) (p k x : Int32) : Prop := (0 ≤ p ∧ p < S 12 ∧ 0 ≤ k ∧ k ≤ 3) ∧ (0 ≤ x ∧ x ≤ 9) ∧ S (20 + p.toNatClampNeg) = 6
def sDry (S : Nat → Int32) (p : Int32) : Int32 := if 0 ≤ p ∧ p < S 12 then (if S (1 + p.toNatClampNeg) = -1 then -5 else S (1 + p.toNatClampNeg)) else -1
def sFeed (S : Nat → Int32) (x : Int32) : Int32 := if 0 ≤ x ∧ x ≤ 127 then (if S 17 < 100 then S 17 + 1 else -4) else -2
theorem nat_of_toInt0 {x : Int32} (h : 0 ≤ x ∧ x ≤ 3) : x.toInt = ((x.toNatClampNeg : Nat) : Int) ∧ x.toNatClampNeg < 4 := by
  simp only [Int32.le_iff_toInt_le, Int32.reduceToInt] at h
  have e : x.toNatClampNeg = x.toInt.toNat := rfl
  rw [e]
  omega
theorem RW.hasP {S : Nat → Int32} {c : CT} {mi : MI} (h : RW S c mi 40) {p : Nat} (hp : p < cN c) : mi (40 + 18 + 2 * p) 1 = S (20 + p) ∧ mi (40 + 18 + 2 * p) 2 = S (26 + p) ∧ mi (40 + 18 + 2 * p) 5 = S (1 + p) ∧ ∀ k, k < 4 → mi (40 + 18 + 2 * p + 1) k = S (44 + 4 * p + k) := ⟨(h.2.1 p hp).1, (h.2.1 p hp).2.1, (h.2.1 p hp).2.2.2.2.1, (h.2.1 p hp).2.2.2.2.2⟩
set_option maxRecDepth 4000 in
theorem qX7_wine (n : Nat) (mi : MI) (mr : MR) (c : CT) (I : INV n mi mr c) (v w : Int32) : Ct KX7_wine 3 0 0 [.ref 32, .int v, .int w] n mi mr (eqQ (some (.int (sWine (mi 174) v w))) n (mi) mr) := by
  refine Ct.of2 [some (.ref 32), some (.int v), some (.int w)] (by decide +kernel) (Nat.le_of_ble_eq_true rfl) rfl ?_
  obtain ⟨hR, hn, ⟨⟨hN, hN6⟩, ⟨hW, hW5⟩, ⟨hL, hL5⟩, ⟨hT, hT100⟩, ⟨hS, hS5⟩, ⟨hP, hP8⟩, ⟨hBk, hB8⟩⟩, hrw⟩ := I.facts
  have hBD := I.2.2.1
  obtain ⟨⟨r1, r2, r3, r4, r5⟩, hper, hvin, htape, hseen, hnight, hbook⟩ := id hrw
  have hcN : nat (mi 40 1) (cN c) := by rw [r2]; exact hN
  have hcW : nat (mi 40 2) (cW c) := by rw [r3]; exact hW
  clear I
  refine V_aload_n dX7_wine_0 rfl ?_
  refine V_iload_n dX7_wine_1 rfl ?_
  refine V_callV (ci := 7) (qX7_isVintage _ _ _ hR hn _) dX7_wine_2 mlX7_140 mtX7_isVintage ivX7_isVintage rfl rfl ⟨by omega, by omega⟩ (by decide) rfl rfl (by decide) (Nat.le_of_ble_eq_true rfl) rfl rfl ?_
  rintro _ _ _ _ ⟨rfl, rfl, rfl, rfl⟩
  refine V_if_eq (tgt := 17) dX7_wine_5 (by decide) (fun c5 => ?_) (fun c5 => ?_)
  · refine V_iconst (v := -1) dX7_wine_17 rfl ?_
    refine V_iret dX7_wine_18 rfl rfl ?_
    clear hR
    (try simp only [b01_0, b01_n] at *)
    refine ⟨?_, rfl, ?_, rfl⟩
    all_goals (simp only [sWine]; (try simp only [r3]); repeat' split)
    all_goals first | rfl | (exfalso; simp only [Int32.lt_iff_toInt_lt, Int32.le_iff_toInt_le, ← Int32.toInt_inj, Int32.reduceToInt] at *; omega)
  · refine V_iload_n dX7_wine_8 rfl ?_
    refine V_if_lt (tgt := 17) dX7_wine_9 (by decide) (fun c9 => ?_) (fun c9 => ?_)
    · refine V_iconst (v := -1) dX7_wine_17 rfl ?_
      refine V_iret dX7_wine_18 rfl rfl ?_
      clear hR
      (try simp only [b01_0, b01_n] at *)
      refine ⟨?_, rfl, ?_, rfl⟩
      all_goals (simp only [sWine]; (try simp only [r3]); repeat' split)
      all_goals first | rfl | (exfalso; simp only [Int32.lt_iff_toInt_lt, Int32.le_iff_toInt_le, ← Int32.toInt_inj, Int32.reduceToInt] at *; omega)
    · refine V_iload_n dX7_wine_12 rfl ?_
      refine V_iconst (v := 1) dX7_wine_13 rfl ?_
      refine V_icmp_le (tgt := 19) dX7_wine_14 (by decide) (fun c14 => ?_) (fun c14 => ?_)
      · obtain ⟨k, hk1, hk2⟩ := idxC c5 hcW
        refine V_iload_n dX7_wine_19 rfl ?_
        refine V_if_ne (tgt := 35) dX7_wine_20 (by decide) (fun c20 => ?_) (fun c20 => ?_)
        · refine V_aload_n dX7_wine_35 rfl ?_
          refine V_getr (b := 40) 7 1 dX7_wine_36 (Or.inl lkX7_30) rfl rfl ⟨by omega, by omega⟩ (hR _ _ _ rfl) ?_
          refine V_getr (b := 43) 6 8 dX7_wine_39 lnX7_146 rfl rfl ⟨by omega, by omega⟩ (hR _ _ _ rfl) ?_
          refine V_iload_n dX7_wine_42 rfl ?_
          refine V_iald (len := 5) k dX7_wine_43 rfl ⟨by omega, by omega⟩ hk1 (by omega) ?_
          refine V_iret dX7_wine_44 rfl rfl ?_
          have hv1 := (hvin k hk2).1
          have hv2 := (hvin k hk2).2
          rw [show (40 + 2 : Nat) = 42 from rfl] at hv1
          rw [show (40 + 3 : Nat) = 43 from rfl] at hv2
          first | rw [hv1] | rw [hv2]
          clear hR
          (try simp only [b01_0, b01_n] at *)
          refine ⟨?_, rfl, ?_, rfl⟩
          all_goals (simp only [sWine]; (try simp only [r3, nat_of_toInt hk1]); repeat' split)
          all_goals first | rfl | (exfalso; simp only [Int32.lt_iff_toInt_lt, Int32.le_iff_toInt_le, ← Int32.toInt_inj, Int32.reduceToInt] at *; omega)
        · refine V_aload_n dX7_wine_23 rfl ?_
          refine V_getr (b := 40) 7 1 dX7_wine_24 (Or.inl lkX7_30) rfl rfl ⟨by omega, by omega⟩ (hR _ _ _ rfl) ?_
          refine V_getr (b := 42) 6 7 dX7_wine_27 lnX7_143 rfl rfl ⟨by omega, by omega⟩ (hR _ _ _ rfl) ?_
          refine V_iload_n dX7_wine_30 rfl ?_
          refine V_iald (len := 5) k dX7_wine_31 rfl ⟨by omega, by omega⟩ hk1 (by omega) ?_
          refine V_goto (tgt := 44) dX7_wine_32 (by decide) ?_
          refine V_iret dX7_wine_44 rfl rfl ?_
          have hv1 := (hvin k hk2).1
          have hv2 := (hvin k hk2).2
          rw [show (40 + 2 : Nat) = 42 from rfl] at hv1
          rw [show (40 + 3 : Nat) = 43 from rfl] at hv2
          first | rw [hv1] | rw [hv2]
          clear hR
          (try simp only [b01_0, b01_n] at *)
          refine ⟨?_, rfl, ?_, rfl⟩
          all_goals (simp only [sWine]; (try simp only [r3, nat_of_toInt hk1]); repeat' split)
          all_goals first | rfl | (exfalso; simp only [Int32.lt_iff_toInt_lt, Int32.le_iff_toInt_le, ← Int32.toInt_inj, Int32.reduceToInt] at *; omega)
      · refine V_iconst (v := -1) dX7_wine_17 rfl ?_
        refine V_iret dX7_wine_18 rfl rfl ?_
        clear hR
        (try simp only [b01_0, b01_n] at *)
        refine ⟨?_, rfl, ?_, rfl⟩
        all_goals (simp only [sWine]; (try simp only [r3]); repeat' split)
        all_goals first | rfl | (exfalso; simp only [Int32.lt_iff_toInt_lt, Int32.le_iff_toInt_le, ← Int32.toInt_inj, Int32.reduceToInt] at *; omega)
set_option maxRecDepth 4000 in
theorem qX8_wine (n : Nat) (mi : MI) (mr : MR) (c : CT) (I : INV n mi mr c) (v w : Int32) : Ct KX8_wine 3 0 0 [.ref 173, .int v, .int w] n mi mr (eqQ (some (.int (sWine (mi 174) v w))) n (mi) mr) := by
  refine Ct.of2 [some (.ref 173), some (.int v), some (.int w)] (by decide +kernel) (Nat.le_of_ble_eq_true rfl) rfl ?_
  obtain ⟨hR, hn, ⟨⟨hN, hN6⟩, ⟨hW, hW5⟩, ⟨hL, hL5⟩, ⟨hT, hT100⟩, ⟨hS, hS5⟩, ⟨hP, hP8⟩, ⟨hBk, hB8⟩⟩, -⟩ := I.facts
  have hBD := I.2.2.1
  clear I
  refine V_aload_n dX8_wine_0 rfl ?_
  refine V_iload_n dX8_wine_1 rfl ?_
  refine V_callV (ci := 8) (qX8_isVintage _ _ _ hR hn _) dX8_wine_2 mlX8_175 mtX8_isVintage ivX8_isVintage rfl rfl ⟨by omega, by omega⟩ (by decide) rfl rfl (by decide) (Nat.le_of_ble_eq_true rfl) rfl rfl ?_
  rintro _ _ _ _ ⟨rfl, rfl, rfl, rfl⟩
  simp only [leSub hW (by omega)]
  refine V_if_eq (tgt := 17) dX8_wine_5 (by decide) (fun c5 => ?_) (fun c5 => ?_)
  · refine V_iconst (v := -1) dX8_wine_17 rfl ?_
    refine V_iret dX8_wine_18 rfl rfl ?_
    clear hR
    (try simp only [b01_0, b01_n] at *)
    refine ⟨?_, rfl, ?_, rfl⟩
    all_goals (simp only [sWine]; repeat' split)
    all_goals first | rfl | (exfalso; simp only [Int32.lt_iff_toInt_lt, Int32.le_iff_toInt_le, ← Int32.toInt_inj, Int32.reduceToInt] at *; omega)
  · refine V_iload_n dX8_wine_8 rfl ?_
    refine V_iconst (v := 0) dX8_wine_9 rfl ?_
    refine V_iconst (v := 1) dX8_wine_10 rfl ?_
    refine V_callS (qX8_in _ _ _ _ _ _) dX8_wine_11 mlX8_53 mtX8_in smX8_in rfl rfl (by decide) (Nat.le_of_ble_eq_true rfl) rfl rfl ?_
    rintro _ _ _ _ ⟨rfl, rfl, rfl, rfl⟩
    refine V_if_ne (tgt := 19) dX8_wine_14 (by decide) (fun c14 => ?_) (fun c14 => ?_)
    · obtain ⟨k, hk1, hk2⟩ := idxC c5 hW
      refine V_iload_n dX8_wine_19 rfl ?_
      refine V_if_ne (tgt := 35) dX8_wine_20 (by decide) (fun c20 => ?_) (fun c20 => ?_)
      · refine V_aload_n dX8_wine_35 rfl ?_
        refine V_getr (b := 174) 8 1 dX8_wine_36 (Or.inl lkX8_9) rfl rfl ⟨by omega, by omega⟩ (hR _ _ _ rfl) ?_
        refine V_bipush (v := 7) dX8_wine_39 rfl ?_
        refine V_iload_n dX8_wine_41 rfl ?_
        refine V_iadd dX8_wine_42 ?_
        refine V_iald (len := 938) (7 + k) dX8_wine_43 rfl ⟨by omega, by omega⟩ (ix_add (by decide) hk1 (by omega)) (by omega) ?_
        refine V_iret dX8_wine_44 rfl rfl ?_
        clear hR
        (try simp only [b01_0, b01_n] at *)
        refine ⟨?_, rfl, ?_, rfl⟩
        all_goals (simp only [sWine]; (try simp only [nat_of_toInt hk1]); repeat' split)
        all_goals first | rfl | (exfalso; simp only [Int32.lt_iff_toInt_lt, Int32.le_iff_toInt_le, ← Int32.toInt_inj, Int32.reduceToInt] at *; omega)
      · refine V_aload_n dX8_wine_23 rfl ?_
        refine V_getr (b := 174) 8 1 dX8_wine_24 (Or.inl lkX8_9) rfl rfl ⟨by omega, by omega⟩ (hR _ _ _ rfl) ?_
        refine V_bipush (v := 68) dX8_wine_27 rfl ?_
        refine V_iload_n dX8_wine_29 rfl ?_
        refine V_iadd dX8_wine_30 ?_
        refine V_iald (len := 938) (68 + k) dX8_wine_31 rfl ⟨by omega, by omega⟩ (ix_add (by decide) hk1 (by omega)) (by omega) ?_
        refine V_goto (tgt := 44) dX8_wine_32 (by decide) ?_
        refine V_iret dX8_wine_44 rfl rfl ?_
        clear hR
        (try simp only [b01_0, b01_n] at *)
        refine ⟨?_, rfl, ?_, rfl⟩
        all_goals (simp only [sWine]; (try simp only [nat_of_toInt hk1]); repeat' split)
        all_goals first | rfl | (exfalso; simp only [Int32.lt_iff_toInt_lt, Int32.le_iff_toInt_le, ← Int32.toInt_inj, Int32.reduceToInt] at *; omega)
    · refine V_iconst (v := -1) dX8_wine_17 rfl ?_
      refine V_iret dX8_wine_18 rfl rfl ?_
      clear hR
      (try simp only [b01_0, b01_n] at *)
      refine ⟨?_, rfl, ?_, rfl⟩
      all_goals (simp only [sWine]; repeat' split)
      all_goals first | rfl | (exfalso; simp only [Int32.lt_iff_toInt_lt, Int32.le_iff_toInt_le, ← Int32.toInt_inj, Int32.reduceToInt] at *; omega)
